/-! ChoiceCode: drop, rest, tables, way, told, by -/
def hasC (C : Cs) (c : Int32) : Bool := gIn 24 c && (C c.toNatClampNeg).isSome
def dropS (C : Cs) (c : Int32) : Int32 × Cs := if hasC C c = true then (nI (cntF C 24 - 1), upC C c.toNatClampNeg none) else (-101, C)
def toldS (C : Cs) (c what : Int32) : Int32 := if hasC C c = true then g4 what (gC C c.toNatClampNeg).1 (gC C c.toNatClampNeg).2.1 (nI (gC C c.toNatClampNeg).2.2.1) (nI (gC C c.toNatClampNeg).2.2.2) else -101
def restS (rt rw : Nat) (t w : Int32) : Int32 × Nat × Nat := if inB t.toInt 0 15 = true ∧ inB w.toInt 0 1000 = true then (nI rt, t.toInt.toNat, w.toInt.toNat) else (-102, rt, rw)
def tablesS (dn sz : Nat) (d s : Int32) : Int32 × Nat × Nat := if inB d.toInt 1 100 = true ∧ inB s.toInt 1 256 = true then (nI dn, d.toInt.toNat, s.toInt.toNat) else (-102, dn, sz)
def wayS (wy : Nat) (w : Int32) : Int32 × Nat := if inB w.toInt 0 1 = true then (nI wy, w.toInt.toNat) else (-102, wy)
def byS (C : Cs) (rt : Nat) (x : Int32) : Int32 := match meetC C x x with
  | some k => nI (gC C k).2.2.1
  | none => nI rt
theorem hasC_is {C : Cs} {lo hi tg wt : Nat → Int32} (hR : CRep C lo hi tg wt) (hC : cOk C) (c : Int32) : gHas tg c = hasC C c := by
  unfold gHas hasC
  by_cases h : gIn 24 c = true
  · rw [h, Bool.true_and, Bool.true_and]
    unfold gIn at h
    rw [decide_eq_true_eq] at h
    obtain ⟨k, hk, rfl⟩ := x_ix h.1 h.2 (by decide)
    rw [nI_clamp (by omega)]
    exact hR.tgB hC hk
  · rw [Bool.eq_false_iff.mpr h, Bool.false_and, Bool.false_and]
theorem hasC_k {C : Cs} {c : Int32} (h : hasC C c = true) : ∃ k r, k < 24 ∧ c = nI k ∧ C k = some r := by
  unfold hasC at h
  rw [Bool.and_eq_true] at h
  obtain ⟨h1, h2⟩ := h
  unfold gIn at h1
  rw [decide_eq_true_eq] at h1
  obtain ⟨k, hk, rfl⟩ := x_ix h1.1 h1.2 (by decide)
  rw [nI_clamp (by omega)] at h2
  obtain ⟨r, hr⟩ := Option.isSome_iff_exists.mp h2
  exact ⟨k, r, hk, rfl, hr⟩
section
variable {G : xG} {h : xH} {C : Cs} {rt rw dn sz wy stale cap : Nat} {cl' : Int32} {bs : List Nat}
theorem tX5_drop (hS : vX5 h C rt rw dn sz wy cl' stale bs cap) (hO : sOk C rt rw dn sz wy) (c : Int32) : AM G mX5_drop 2 0 [.ref 0, .int c] h
    (fun r h' => r = some (.int (dropS C c).1) ∧ (∃ st, vX5 h' (dropS C c).2 rt rw dn sz wy cl' st bs cap) ∧ sOk (dropS C c).2 rt rw dn sz wy ∧ xFr 0 28 h h') := by
  have u := hS.1
  obtain ⟨lo, hi, tg, wt, hc1, hc2⟩ := hS.2.1
  have s0 := hc1.1
  obtain ⟨o0, oo⟩ := id hO
  have hhas := tX2_has (G := G) hc1 c
  rw [hasC_is hc2 o0] at hhas
  refine AM.of rfl rfl (Nat.le_of_ble_eq_true rfl) rfl ?_
  refine Ax_al0 dX5_drop_0 ?_
  refine Ax_getf kfX5 fX5_12 dX5_drop_1 u rfl ?_
  refine Ax_il1 dX5_drop_4 ?_
  refine Ax_cVi dX5_drop_5 vX5_95 kfX2 s0 hhas rfl rfl (by decide) (by simp [Value.category]) ?_
  refine Ax_ifneB (tgt := 14) dX5_drop_8 (by decide) (fun c8 => ?_) (fun c8 => ?_)
  rotate_left
  · have e : dropS C c = (-101, C) := by unfold dropS; rw [c8, if_neg (by decide)]
    rw [e]
    refine Ax_bpm101 dX5_drop_11 ?_
    exact Ax_iret dX5_drop_13 rfl rfl ⟨rfl, ⟨stale, hS⟩, hO, xFr.rf⟩
  obtain ⟨k, r, hk, rfl, hr⟩ := hasC_k c8
  have hcnt := cntF_up (C := C) (k := k) (v := none) 24
  rw [if_pos hk, if_pos hk, hr] at hcnt
  simp only [Option.isSome_some, Bool.toNat_true, Option.isSome_none, Bool.toNat_false, Nat.add_zero] at hcnt
  have hc1' := hc1
  rw [← hcnt] at hc1'
  have e : dropS C (nI k) = (nI (cntF (upC C k none) 24), upC C k none) := by
    unfold dropS
    rw [c8, if_pos rfl, nI_clamp (by omega), ← hcnt, Nat.add_sub_cancel]
  rw [e]
  refine Ax_al0 dX5_drop_14 ?_
  refine Ax_getf kfX5 fX5_12 dX5_drop_15 u rfl ?_
  refine Ax_il1 dX5_drop_18 ?_
  refine Ax_cVv dX5_drop_19 vX5_98 kfX2 s0 (tX2_free (G := G) hc1' hk ((hc2.tg_ne hk o0).mpr (by rw [hr]; rfl))) rfl rfl (by decide) (by simp [Value.category]) (Nat.le_refl _) (fun h1 q1 => ?_)
  obtain ⟨hc3, hF1⟩ := q1
  have u1 : h1.1 0 = _ := (hF1.1 0 (by omega)).trans u
  have s1 := hc3.1
  have fr : ∀ q, (q < 0 ∨ 0 + 1 ≤ q) → h1.1 q = h1.1 q := fun _ _ => rfl
  have zr : h1.2 = h1.2 := rfl
  refine Ax_al0 dX5_drop_22 ?_
  refine Ax_ic1 dX5_drop_23 ?_
  refine Ax_putf kfX5 fX5_72 dX5_drop_24 u1 (Nat.le_of_ble_eq_true rfl) (Or.inl rfl) (by rfl) (by rfl) (Ax_up (fun h2 e2 f2 z2 => ?_))
  replace u1 := e2
  replace s1 := (f2 _ (by omega)).trans s1
  replace fr : ∀ q, (q < 0 ∨ 0 + 1 ≤ q) → h2.1 q = h1.1 q := fun q hq => (f2 q (by omega)).trans (fr q hq)
  replace zr := z2.trans zr
  have hF2 : xFr 0 1 h1 h2 := ⟨fr, zr⟩
  have hF12 : xFr 0 6 h h2 := ⟨fun q hq => (fr q (by omega)).trans (hF1.1 q (by omega)), zr.trans hF1.2⟩
  refine Ax_al0 dX5_drop_27 ?_
  refine Ax_getf kfX5 fX5_12 dX5_drop_28 u1 rfl ?_
  refine Ax_cVi dX5_drop_31 vX5_102 kfX2 s1 (tX2_held (hc3.fr hF2 (by omega))) rfl rfl (by decide) (by simp [Value.category]) ?_
  exact Ax_iret dX5_drop_34 rfl rfl ⟨rfl, ⟨1, hS.stl hF12 u1 ⟨_, _, _, _, hc3.fr hF2 (by omega), hc2.dn k⟩⟩, ⟨upC_no o0, oo⟩, ⟨fun q hq => hF12.1 q (by omega), hF12.2⟩⟩
theorem tX5_rest (hS : vX5 h C rt rw dn sz wy cl' stale bs cap) (hO : sOk C rt rw dn sz wy) (t w : Int32) : AM G mX5_rest 2 0 [.ref 0, .int t, .int w] h
    (fun r h' => r = some (.int (restS rt rw t w).1) ∧ (∃ st, vX5 h' C (restS rt rw t w).2.1 (restS rt rw t w).2.2 dn sz wy cl' st bs cap) ∧ sOk C (restS rt rw t w).2.1 (restS rt rw t w).2.2 dn sz wy ∧ xFr 0 28 h h') := by
  have u := hS.1
  obtain ⟨lo, hi, tg, wt, hc1, hc2⟩ := hS.2.1
  obtain ⟨o0, o1, o2, oo⟩ := id hO
  refine AM.of rfl rfl (Nat.le_of_ble_eq_true rfl) rfl ?_
  have hbad : ¬ (inB t.toInt 0 15 = true ∧ inB w.toInt 0 1000 = true) → ∀ x3, Ax G mX5_rest 2 0 14 [.ref 0, .int t, .int w, x3] [] h (fun r h' => r = some (.int (restS rt rw t w).1) ∧ (∃ st, vX5 h' C (restS rt rw t w).2.1 (restS rt rw t w).2.2 dn sz wy cl' st bs cap) ∧ sOk C (restS rt rw t w).2.1 (restS rt rw t w).2.2 dn sz wy ∧ xFr 0 28 h h') := by
    intro q x3
    have e : restS rt rw t w = (-102, rt, rw) := by unfold restS; rw [if_neg q]
    rw [e]
    refine Ax_bpm102 dX5_rest_14 ?_
    exact Ax_iret dX5_rest_16 rfl rfl ⟨rfl, ⟨stale, hS⟩, hO, xFr.rf⟩
  refine Ax_il1 dX5_rest_0 ?_
  refine Ax_cSi dX5_rest_1 sX5_76 (tX5_isTarget t) rfl rfl (by decide) (by simp [Value.category]) ?_
  refine Ax_ifeqB (tgt := 14) dX5_rest_4 (by decide) (fun c4 => ?_) (fun c4 => ?_)
  · exact hbad (fun q => by rw [c4] at q; cases q.1) _
  refine Ax_il2 dX5_rest_7 ?_
  refine Ax_cSi dX5_rest_8 sX5_80 (tX5_isWeight w) rfl rfl (by decide) (by simp [Value.category]) ?_
  refine Ax_ifneB (tgt := 17) dX5_rest_11 (by decide) (fun c11 => ?_) (fun c11 => ?_)
  rotate_left
  · exact hbad (fun q => by rw [c11] at q; cases q.2) _
  have e : restS rt rw t w = (nI rt, t.toInt.toNat, w.toInt.toNat) := by unfold restS; rw [if_pos ⟨c4, c11⟩]
  obtain ⟨t1, t2, t3⟩ := inB_nI (a := 0) (b := 15) c4
  obtain ⟨w1, w2, w3⟩ := inB_nI (a := 0) (b := 1000) c11
  rw [e]
  have fr : ∀ q, (q < 0 ∨ 0 + 1 ≤ q) → h.1 q = h.1 q := fun _ _ => rfl
  have zr : h.2 = h.2 := rfl
  refine Ax_al0 dX5_rest_17 ?_
  refine Ax_getf kfX5 fX5_53 dX5_rest_18 u rfl ?_
  refine Ax_is3 dX5_rest_21 (Nat.le_of_ble_eq_true rfl) (by rfl) ?_
  refine Ax_al0 dX5_rest_22 ?_
  refine Ax_il1 dX5_rest_23 ?_
  refine Ax_putf kfX5 fX5_53 dX5_rest_24 u (Nat.le_of_ble_eq_true rfl) (Or.inl rfl) (by rfl) (by rfl) (Ax_up (fun h1 e1 f1 z1 => ?_))
  replace u := e1
  replace fr : ∀ q, (q < 0 ∨ 0 + 1 ≤ q) → h1.1 q = h.1 q := fun q hq => (f1 q (by omega)).trans (fr q hq)
  replace zr := z1.trans zr
  refine Ax_al0 dX5_rest_27 ?_
  refine Ax_il2 dX5_rest_28 ?_
  refine Ax_putf kfX5 fX5_57 dX5_rest_29 u (Nat.le_of_ble_eq_true rfl) (Or.inl rfl) (by rfl) (by rfl) (Ax_up (fun h2 e2 f2 z2 => ?_))
  replace u := e2
  replace fr : ∀ q, (q < 0 ∨ 0 + 1 ≤ q) → h2.1 q = h.1 q := fun q hq => (f2 q (by omega)).trans (fr q hq)
  replace zr := z2.trans zr
  refine Ax_al0 dX5_rest_32 ?_
  refine Ax_ic1 dX5_rest_33 ?_
  refine Ax_putf kfX5 fX5_72 dX5_rest_34 u (Nat.le_of_ble_eq_true rfl) (Or.inl rfl) (by rfl) (by rfl) (Ax_up (fun h3 e3 f3 z3 => ?_))
  replace u := e3
  replace fr : ∀ q, (q < 0 ∨ 0 + 1 ≤ q) → h3.1 q = h.1 q := fun q hq => (f3 q (by omega)).trans (fr q hq)
  replace zr := z3.trans zr
  have hF : xFr 0 1 h h3 := ⟨fr, zr⟩
  have u' := u
  rw [t1, w1] at u'
  refine Ax_il3 dX5_rest_37 ?_
  exact Ax_iret dX5_rest_38 rfl rfl ⟨rfl, ⟨1, hS.stl ⟨fun q hq => fr q (by omega), zr⟩ u' ⟨lo, hi, tg, wt, hc1.fr hF (by omega), hc2⟩⟩, ⟨o0, by show t.toInt.toNat < 16; omega, w3, oo⟩, ⟨fun q hq => fr q (by omega), zr⟩⟩
theorem tX5_tables (hS : vX5 h C rt rw dn sz wy cl' stale bs cap) (hO : sOk C rt rw dn sz wy) (t w : Int32) : AM G mX5_tables 2 0 [.ref 0, .int t, .int w] h
    (fun r h' => r = some (.int (tablesS dn sz t w).1) ∧ (∃ st, vX5 h' C rt rw (tablesS dn sz t w).2.1 (tablesS dn sz t w).2.2 wy cl' st bs cap) ∧ sOk C rt rw (tablesS dn sz t w).2.1 (tablesS dn sz t w).2.2 wy ∧ xFr 0 28 h h') := by
  have u := hS.1
  obtain ⟨lo, hi, tg, wt, hc1, hc2⟩ := hS.2.1
  obtain ⟨o0, o1, o2, o3, o4, o5, o6, o7⟩ := id hO
  have h1i : (nI 1).toInt = 1 := by decide
  have h100 : (nI 100).toInt = 100 := by decide
  have h256 : (nI 256).toInt = 256 := by decide
  refine AM.of rfl rfl (Nat.le_of_ble_eq_true rfl) rfl ?_
  have hbad : ¬ (inB t.toInt 1 100 = true ∧ inB w.toInt 1 256 = true) → ∀ x3, Ax G mX5_tables 2 0 21 [.ref 0, .int t, .int w, x3] [] h (fun r h' => r = some (.int (tablesS dn sz t w).1) ∧ (∃ st, vX5 h' C rt rw (tablesS dn sz t w).2.1 (tablesS dn sz t w).2.2 wy cl' st bs cap) ∧ sOk C rt rw (tablesS dn sz t w).2.1 (tablesS dn sz t w).2.2 wy ∧ xFr 0 28 h h') := by
    intro q x3
    have e : tablesS dn sz t w = (-102, dn, sz) := by unfold tablesS; rw [if_neg q]
    rw [e]
    refine Ax_bpm102 dX5_tables_21 ?_
    exact Ax_iret dX5_tables_23 rfl rfl ⟨rfl, ⟨stale, hS⟩, hO, xFr.rf⟩
  have s1 := tX5_within (G := G) (h := h) t (nI 1) (nI 100)
  rw [h1i, h100] at s1
  have s2 := tX5_within (G := G) (h := h) w (nI 1) (nI 256)
  rw [h1i, h256] at s2
  refine Ax_il1 dX5_tables_0 ?_
  refine Ax_ic1 dX5_tables_1 ?_
  refine Ax_bp100 dX5_tables_2 ?_
  refine Ax_cSi dX5_tables_4 sX5_105 s1 rfl rfl (by decide) (by simp [Value.category]) ?_
  refine Ax_ifeqB (tgt := 21) dX5_tables_7 (by decide) (fun c7 => ?_) (fun c7 => ?_)
  · exact hbad (fun q => by rw [c7] at q; cases q.1) _
  refine Ax_il2 dX5_tables_10 ?_
  refine Ax_ic1 dX5_tables_11 ?_
  refine Ax_sp256 dX5_tables_12 ?_
  refine Ax_cSi dX5_tables_15 sX5_105 s2 rfl rfl (by decide) (by simp [Value.category]) ?_
  refine Ax_ifneB (tgt := 24) dX5_tables_18 (by decide) (fun c18 => ?_) (fun c18 => ?_)
  rotate_left
  · exact hbad (fun q => by rw [c18] at q; cases q.2) _
  have e : tablesS dn sz t w = (nI dn, t.toInt.toNat, w.toInt.toNat) := by unfold tablesS; rw [if_pos ⟨c7, c18⟩]
  obtain ⟨t1, t2, t3⟩ := inB_nI (a := 1) (b := 100) c7
  obtain ⟨w1, w2, w3⟩ := inB_nI (a := 1) (b := 256) c18
  rw [e]
  have fr : ∀ q, (q < 0 ∨ 0 + 1 ≤ q) → h.1 q = h.1 q := fun _ _ => rfl
  have zr : h.2 = h.2 := rfl
  refine Ax_al0 dX5_tables_24 ?_
  refine Ax_getf kfX5 fX5_60 dX5_tables_25 u rfl ?_
  refine Ax_is3 dX5_tables_28 (Nat.le_of_ble_eq_true rfl) (by rfl) ?_
  refine Ax_al0 dX5_tables_29 ?_
  refine Ax_il1 dX5_tables_30 ?_
  refine Ax_putf kfX5 fX5_60 dX5_tables_31 u (Nat.le_of_ble_eq_true rfl) (Or.inl rfl) (by rfl) (by rfl) (Ax_up (fun h1 e1 f1 z1 => ?_))
  replace u := e1
  replace fr : ∀ q, (q < 0 ∨ 0 + 1 ≤ q) → h1.1 q = h.1 q := fun q hq => (f1 q (by omega)).trans (fr q hq)
  replace zr := z1.trans zr
  refine Ax_al0 dX5_tables_34 ?_
  refine Ax_il2 dX5_tables_35 ?_
  refine Ax_putf kfX5 fX5_63 dX5_tables_36 u (Nat.le_of_ble_eq_true rfl) (Or.inl rfl) (by rfl) (by rfl) (Ax_up (fun h2 e2 f2 z2 => ?_))
  replace u := e2
  replace fr : ∀ q, (q < 0 ∨ 0 + 1 ≤ q) → h2.1 q = h.1 q := fun q hq => (f2 q (by omega)).trans (fr q hq)
  replace zr := z2.trans zr
  refine Ax_al0 dX5_tables_39 ?_
  refine Ax_ic1 dX5_tables_40 ?_
  refine Ax_putf kfX5 fX5_72 dX5_tables_41 u (Nat.le_of_ble_eq_true rfl) (Or.inl rfl) (by rfl) (by rfl) (Ax_up (fun h3 e3 f3 z3 => ?_))
  replace u := e3
  replace fr : ∀ q, (q < 0 ∨ 0 + 1 ≤ q) → h3.1 q = h.1 q := fun q hq => (f3 q (by omega)).trans (fr q hq)
  replace zr := z3.trans zr
  have hF : xFr 0 1 h h3 := ⟨fr, zr⟩
  have u' := u
  rw [t1, w1] at u'
  refine Ax_il3 dX5_tables_44 ?_
  exact Ax_iret dX5_tables_45 rfl rfl ⟨rfl, ⟨1, hS.stl ⟨fun q hq => fr q (by omega), zr⟩ u' ⟨lo, hi, tg, wt, hc1.fr hF (by omega), hc2⟩⟩, ⟨o0, o1, o2, t2, t3, w2, w3, o7⟩, ⟨fun q hq => fr q (by omega), zr⟩⟩
theorem tX5_way (hS : vX5 h C rt rw dn sz wy cl' stale bs cap) (hO : sOk C rt rw dn sz wy) (w : Int32) : AM G mX5_way 2 0 [.ref 0, .int w] h
    (fun r h' => r = some (.int (wayS wy w).1) ∧ (∃ st, vX5 h' C rt rw dn sz (wayS wy w).2 cl' st bs cap) ∧ sOk C rt rw dn sz (wayS wy w).2 ∧ xFr 0 28 h h') := by
  have u := hS.1
  obtain ⟨lo, hi, tg, wt, hc1, hc2⟩ := hS.2.1
  obtain ⟨o0, o1, o2, o3, o4, o5, o6, o7⟩ := id hO
  refine AM.of rfl rfl (Nat.le_of_ble_eq_true rfl) rfl ?_
  have s1 := tX5_within (G := G) (h := h) w (nI 0) (nI 1)
  rw [show (nI 0).toInt = 0 by decide, show (nI 1).toInt = 1 by decide] at s1
  refine Ax_il1 dX5_way_0 ?_
  refine Ax_ic0 dX5_way_1 ?_
  refine Ax_ic1 dX5_way_2 ?_
  refine Ax_cSi dX5_way_3 sX5_105 s1 rfl rfl (by decide) (by simp [Value.category]) ?_
  refine Ax_ifneB (tgt := 12) dX5_way_6 (by decide) (fun c6 => ?_) (fun c6 => ?_)
  rotate_left
  · have e : wayS wy w = (-102, wy) := by unfold wayS; rw [c6, if_neg (by decide)]
    rw [e]
    refine Ax_bpm102 dX5_way_9 ?_
    exact Ax_iret dX5_way_11 rfl rfl ⟨rfl, ⟨stale, hS⟩, hO, xFr.rf⟩
  have e : wayS wy w = (nI wy, w.toInt.toNat) := by unfold wayS; rw [c6, if_pos rfl]
  obtain ⟨w1, w2, w3⟩ := inB_nI (a := 0) (b := 1) c6
  rw [e]
  have fr : ∀ q, (q < 0 ∨ 0 + 1 ≤ q) → h.1 q = h.1 q := fun _ _ => rfl
  have zr : h.2 = h.2 := rfl
  refine Ax_al0 dX5_way_12 ?_
  refine Ax_getf kfX5 fX5_66 dX5_way_13 u rfl ?_
  refine Ax_is2 dX5_way_16 (Nat.le_of_ble_eq_true rfl) (by rfl) ?_
  refine Ax_al0 dX5_way_17 ?_
  refine Ax_il1 dX5_way_18 ?_
  refine Ax_putf kfX5 fX5_66 dX5_way_19 u (Nat.le_of_ble_eq_true rfl) (Or.inl rfl) (by rfl) (by rfl) (Ax_up (fun h1 e1 f1 z1 => ?_))
  replace u := e1
  replace fr : ∀ q, (q < 0 ∨ 0 + 1 ≤ q) → h1.1 q = h.1 q := fun q hq => (f1 q (by omega)).trans (fr q hq)
  replace zr := z1.trans zr
  refine Ax_al0 dX5_way_22 ?_
  refine Ax_ic1 dX5_way_23 ?_
  refine Ax_putf kfX5 fX5_72 dX5_way_24 u (Nat.le_of_ble_eq_true rfl) (Or.inl rfl) (by rfl) (by rfl) (Ax_up (fun h2 e2 f2 z2 => ?_))
  replace u := e2
  replace fr : ∀ q, (q < 0 ∨ 0 + 1 ≤ q) → h2.1 q = h.1 q := fun q hq => (f2 q (by omega)).trans (fr q hq)
  replace zr := z2.trans zr
  have hF : xFr 0 1 h h2 := ⟨fr, zr⟩
  have u' := u
  rw [w1] at u'
  refine Ax_il2 dX5_way_27 ?_
  exact Ax_iret dX5_way_28 rfl rfl ⟨rfl, ⟨1, hS.stl ⟨fun q hq => fr q (by omega), zr⟩ u' ⟨lo, hi, tg, wt, hc1.fr hF (by omega), hc2⟩⟩, ⟨o0, o1, o2, o3, o4, o5, o6, by show w.toInt.toNat < 2; omega⟩, ⟨fun q hq => fr q (by omega), zr⟩⟩
theorem tX5_told (hS : vX5 h C rt rw dn sz wy cl' stale bs cap) (hO : sOk C rt rw dn sz wy) (c what : Int32) : AM G mX5_told 2 0 [.ref 0, .int c, .int what] h (fun r h' => r = some (.int (toldS C c what)) ∧ h' = h) := by
  have u := hS.1
  obtain ⟨lo, hi, tg, wt, hc1, hc2⟩ := hS.2.1
  have s0 := hc1.1
  have e : gTell lo hi tg wt c what = toldS C c what := by
    unfold gTell toldS
    rw [hasC_is hc2 hO.1]
    by_cases q : hasC C c = true
    · rw [if_pos q, if_pos q]
      obtain ⟨k, r, hk, rfl, hr⟩ := hasC_k q
      rw [nI_clamp (by omega)]
      obtain ⟨e1, e2, e3, e4⟩ := hc2.lo hk (by rw [hr]; rfl)
      rw [e1, e2, e3, e4]
    · rw [if_neg q, if_neg q]
  refine AM.of rfl rfl (Nat.le_of_ble_eq_true rfl) rfl ?_
  have ht := tX2_tell (G := G) hc1 c what
  rw [e] at ht
  refine Ax_al0 dX5_told_0 ?_
  refine Ax_getf kfX5 fX5_12 dX5_told_1 u rfl ?_
  refine Ax_il1 dX5_told_4 ?_
  refine Ax_il2 dX5_told_5 ?_
  refine Ax_cVi dX5_told_6 vX5_109 kfX2 s0 ht rfl rfl (by decide) (by simp [Value.category]) ?_
  exact Ax_iret dX5_told_9 rfl rfl ⟨rfl, rfl⟩
theorem tX5_by (hS : vX5 h C rt rw dn sz wy cl' stale bs cap) (hO : sOk C rt rw dn sz wy) (x : Int32) : AM G mX5_by 1 0 [.ref 0, .int x] h (fun r h' => r = some (.int (byS C rt x)) ∧ h' = h) := by
  have u := hS.1
  obtain ⟨lo, hi, tg, wt, hc1, hc2⟩ := hS.2.1
  have s0 := hc1.1
  refine AM.of rfl rfl (Nat.le_of_ble_eq_true rfl) rfl ?_
  have hmt := tX2_firstMeeting (G := G) hc1 x x
  rw [meetC_is hc2 hO.1] at hmt
  unfold byS
  cases hm : meetC C x x with
  | none =>
    rw [hm] at hmt
    refine Ax_al0 dX5_by_0 ?_
    refine Ax_getf kfX5 fX5_12 dX5_by_1 u rfl ?_
    refine Ax_il1 dX5_by_4 ?_
    refine Ax_il1 dX5_by_5 ?_
    refine Ax_cVi dX5_by_6 vX5_83 kfX2 s0 hmt rfl rfl (by decide) (by simp [Value.category]) ?_
    refine Ax_is2 dX5_by_9 (Nat.le_of_ble_eq_true rfl) (by rfl) ?_
    refine Ax_il2 dX5_by_10 ?_
    refine Ax_icm1 dX5_by_11 ?_
    refine Ax_cmpne (tgt := 22) dX5_by_12 (by decide) (fun c12 => ?_) (fun c12 => ?_)
    · exact absurd rfl c12
    · refine Ax_al0 dX5_by_15 ?_
      refine Ax_getf kfX5 fX5_53 dX5_by_16 u rfl ?_
      refine Ax_goto (tgt := 30) dX5_by_19 (by decide) ?_
      exact Ax_iret dX5_by_30 rfl rfl ⟨rfl, rfl⟩
  | some k =>
    rw [hm] at hmt
    obtain ⟨-, k1, k2, -⟩ := fst_some _ _ _ hm
    have hk : k < 24 := by omega
    have hs : (C k).isSome = true := by
      cases q : (C k).isSome
      · rw [q] at k2; cases k2
      · rfl
    obtain ⟨e1, e2, e3, e4⟩ := hc2.lo hk hs
    have et := tX2_target (G := G) hc1 hk
    rw [e3] at et
    refine Ax_al0 dX5_by_0 ?_
    refine Ax_getf kfX5 fX5_12 dX5_by_1 u rfl ?_
    refine Ax_il1 dX5_by_4 ?_
    refine Ax_il1 dX5_by_5 ?_
    refine Ax_cVi dX5_by_6 vX5_83 kfX2 s0 hmt rfl rfl (by decide) (by simp [Value.category]) ?_
    refine Ax_is2 dX5_by_9 (Nat.le_of_ble_eq_true rfl) (by rfl) ?_
    refine Ax_il2 dX5_by_10 ?_
    refine Ax_icm1 dX5_by_11 ?_
    refine Ax_cmpne (tgt := 22) dX5_by_12 (by decide) (fun c12 => ?_) (fun c12 => ?_)
    · refine Ax_al0 dX5_by_22 ?_
      refine Ax_getf kfX5 fX5_12 dX5_by_23 u rfl ?_
      refine Ax_il2 dX5_by_26 ?_
      refine Ax_cVi dX5_by_27 vX5_175 kfX2 s0 et rfl rfl (by decide) (by simp [Value.category]) ?_
      exact Ax_iret dX5_by_30 rfl rfl ⟨rfl, rfl⟩
    · exact absurd c12 (nI_nem (by omega))
end
