/-! ChoiceCode: the calls on cases -/
def addS (C : Cs) (cl' low high t w : Int32) : Int32 × Cs × Int32 :=
  if high.toInt < low.toInt ∨ inB t.toInt 0 15 = false ∨ inB w.toInt 0 1000 = false then (-102, C, cl')
  else match meetC C low high with
    | some k => (-103, C, nI k)
    | none => match freeC C with
      | none => (-104, C, cl')
      | some k => (nI k, upC C k (some (low, high, t.toInt.toNat, w.toInt.toNat)), cl')
theorem inB_nI {x : Int32} {a b : Nat} (h : inB x.toInt a b = true) : x = nI x.toInt.toNat ∧ a ≤ x.toInt.toNat ∧ x.toInt.toNat ≤ b := by
  unfold inB at h
  rw [decide_eq_true_eq] at h
  have := I_hi x
  refine ⟨I_of (by omega) (by omega), by omega, by omega⟩
theorem vX5.stl {h h' : xH} {C C' : Cs} {rt rw dn sz wy stale cap rt2 rw2 dn2 sz2 wy2 : Nat} {cl' cl2 : Int32} {bs : List Nat} (hS : vX5 h C rt rw dn sz wy cl' stale bs cap) (hF : xFr 0 6 h h')
    (hu : h'.1 0 = cO 5 [.ref 1, .ref 6, .ref 11, .ref 18, .ref 21, .ref 28, .int (nI rt2), .int (nI rw2), .int (nI dn2), .int (nI sz2), .int (nI wy2), .int cl2, .int (nI 1)])
    (hc : ∃ lo hi tg wt, vSp h' 1 lo hi tg wt (nI (cntF C' 24)) ∧ CRep C' lo hi tg wt) : vX5 h' C' rt2 rw2 dn2 sz2 wy2 cl2 1 bs cap :=
  ⟨hu, hc, hS.2.2.1.fr hF (by omega), Or.inl ⟨rfl, hS.raw.fr hF (by omega)⟩⟩
theorem vX5.upd {h h' : xH} {C : Cs} {rt rw dn sz wy stale cap : Nat} {cl' cl2 : Int32} {bs : List Nat} (hS : vX5 h C rt rw dn sz wy cl' stale bs cap) (hF : xFr 0 1 h h')
    (hu : h'.1 0 = cO 5 [.ref 1, .ref 6, .ref 11, .ref 18, .ref 21, .ref 28, .int (nI rt), .int (nI rw), .int (nI dn), .int (nI sz), .int (nI wy), .int cl2, .int (nI stale)]) : vX5 h' C rt rw dn sz wy cl2 stale bs cap := by
  obtain ⟨-, ⟨lo, hi, tg, wt, h1, h2⟩, h3, h4⟩ := hS
  exact ⟨hu, ⟨lo, hi, tg, wt, h1.fr hF (by omega), h2⟩, h3.fr hF (by omega), h4.imp (fun q => ⟨q.1, q.2.fr hF (by omega)⟩) (fun q => ⟨q.1, q.2.fr hF (by omega)⟩)⟩
section
variable {G : xG} {h : xH} {C : Cs} {rt rw dn sz wy stale cap : Nat} {cl' : Int32} {bs : List Nat}
theorem tX5_within (x a b : Int32) : AM G mX5_within 0 0 [.int x, .int a, .int b] h (fun r h' => r = some (.int (nI (inB x.toInt a.toInt b.toInt).toNat)) ∧ h' = h) := by
  refine AM.of rfl rfl (Nat.le_of_ble_eq_true rfl) rfl ?_
  unfold inB
  refine Ax_il0 dX5_within_0 ?_
  refine Ax_il1 dX5_within_1 ?_
  refine Ax_cmplt (tgt := 14) dX5_within_2 (by decide) (fun c2 => ?_) (fun c2 => ?_)
  · simp only [Int32.lt_iff_toInt_lt, Int32.le_iff_toInt_le] at c2
    rw [decide_eq_false (by omega)]
    refine Ax_ic0 dX5_within_14 ?_
    exact Ax_iret dX5_within_15 rfl (by decide) ⟨rfl, rfl⟩
  refine Ax_il0 dX5_within_5 ?_
  refine Ax_il2 dX5_within_6 ?_
  refine Ax_cmpgt (tgt := 14) dX5_within_7 (by decide) (fun c7 => ?_) (fun c7 => ?_)
  · simp only [Int32.lt_iff_toInt_lt, Int32.le_iff_toInt_le] at c2 c7
    rw [decide_eq_false (by omega)]
    refine Ax_ic0 dX5_within_14 ?_
    exact Ax_iret dX5_within_15 rfl (by decide) ⟨rfl, rfl⟩
  · simp only [Int32.lt_iff_toInt_lt, Int32.le_iff_toInt_le] at c2 c7
    rw [decide_eq_true (by omega)]
    refine Ax_ic1 dX5_within_10 ?_
    refine Ax_goto (tgt := 15) dX5_within_11 (by decide) ?_
    exact Ax_iret dX5_within_15 rfl (by decide) ⟨rfl, rfl⟩
theorem tX5_isTarget (x : Int32) : AM G mX5_isTarget 1 0 [.int x] h (fun r h' => r = some (.int (nI (inB x.toInt 0 15).toNat)) ∧ h' = h) := by
  refine AM.of rfl rfl (Nat.le_of_ble_eq_true rfl) rfl ?_
  refine Ax_il0 dX5_isTarget_0 ?_
  refine Ax_ic0 dX5_isTarget_1 ?_
  refine Ax_bp15 dX5_isTarget_2 ?_
  refine Ax_cSi dX5_isTarget_4 sX5_105 (tX5_within x (nI 0) (nI 15)) rfl rfl (by decide) (by simp [Value.category]) ?_
  rw [show (nI 0).toInt = 0 by decide, show (nI 15).toInt = 15 by decide]
  cases inB x.toInt 0 15
  · exact Ax_iret dX5_isTarget_7 rfl (by decide) ⟨rfl, rfl⟩
  · exact Ax_iret dX5_isTarget_7 rfl (by decide) ⟨rfl, rfl⟩
theorem tX5_isWeight (x : Int32) : AM G mX5_isWeight 1 0 [.int x] h (fun r h' => r = some (.int (nI (inB x.toInt 0 1000).toNat)) ∧ h' = h) := by
  refine AM.of rfl rfl (Nat.le_of_ble_eq_true rfl) rfl ?_
  refine Ax_il0 dX5_isWeight_0 ?_
  refine Ax_ic0 dX5_isWeight_1 ?_
  refine Ax_sp1000 dX5_isWeight_2 ?_
  refine Ax_cSi dX5_isWeight_5 sX5_105 (tX5_within x (nI 0) (nI 1000)) rfl rfl (by decide) (by simp [Value.category]) ?_
  rw [show (nI 0).toInt = 0 by decide, show (nI 1000).toInt = 1000 by decide]
  cases inB x.toInt 0 1000
  · exact Ax_iret dX5_isWeight_8 rfl (by decide) ⟨rfl, rfl⟩
  · exact Ax_iret dX5_isWeight_8 rfl (by decide) ⟨rfl, rfl⟩
theorem tX5_clash (hS : vX5 h C rt rw dn sz wy cl' stale bs cap) : AM G mX5_clash 0 0 [.ref 0] h (fun r h' => r = some (.int cl') ∧ h' = h) := by
  have u := hS.1
  refine AM.of rfl rfl (Nat.le_of_ble_eq_true rfl) rfl ?_
  refine Ax_al0 dX5_clash_0 ?_
  refine Ax_getf kfX5 fX5_69 dX5_clash_1 u rfl ?_
  exact Ax_iret dX5_clash_4 rfl rfl ⟨rfl, rfl⟩
theorem tX5_add (hS : vX5 h C rt rw dn sz wy cl' stale bs cap) (hO : sOk C rt rw dn sz wy) (low high t w : Int32) : AM G mX5_add 2 0 [.ref 0, .int low, .int high, .int t, .int w] h
    (fun r h' => r = some (.int (addS C cl' low high t w).1) ∧ (∃ st, vX5 h' (addS C cl' low high t w).2.1 rt rw dn sz wy (addS C cl' low high t w).2.2 st bs cap) ∧ sOk (addS C cl' low high t w).2.1 rt rw dn sz wy ∧ xFr 0 28 h h') := by
  have u := hS.1
  obtain ⟨lo, hi, tg, wt, hc1, hc2⟩ := hS.2.1
  have s0 := hc1.1
  obtain ⟨o0, oo⟩ := id hO
  refine AM.of rfl rfl (Nat.le_of_ble_eq_true rfl) rfl ?_
  have hbad : (high.toInt < low.toInt ∨ inB t.toInt 0 15 = false ∨ inB w.toInt 0 1000 = false) → ∀ x5 x6, Ax G mX5_add 2 0 20 [.ref 0, .int low, .int high, .int t, .int w, x5, x6] [] h (fun r h' => r = some (.int (addS C cl' low high t w).1) ∧ (∃ st, vX5 h' (addS C cl' low high t w).2.1 rt rw dn sz wy (addS C cl' low high t w).2.2 st bs cap) ∧ sOk (addS C cl' low high t w).2.1 rt rw dn sz wy ∧ xFr 0 28 h h') := by
    intro q x5 x6
    have e : addS C cl' low high t w = (-102, C, cl') := by unfold addS; rw [if_pos q]
    rw [e]
    refine Ax_bpm102 dX5_add_20 ?_
    exact Ax_iret dX5_add_22 rfl rfl ⟨rfl, ⟨stale, hS⟩, hO, xFr.rf⟩
  refine Ax_il1 dX5_add_0 ?_
  refine Ax_il2 dX5_add_1 ?_
  refine Ax_cmpgt (tgt := 20) dX5_add_2 (by decide) (fun c2 => ?_) (fun c2 => ?_)
  · simp only [Int32.lt_iff_toInt_lt] at c2
    exact hbad (Or.inl c2) _ _
  refine Ax_il3 dX5_add_5 ?_
  refine Ax_cSi dX5_add_6 sX5_76 (tX5_isTarget t) rfl rfl (by decide) (by simp [Value.category]) ?_
  refine Ax_ifeqB (tgt := 20) dX5_add_9 (by decide) (fun c9 => ?_) (fun c9 => ?_)
  · exact hbad (Or.inr (Or.inl c9)) _ _
  refine Ax_il4 dX5_add_12 ?_
  refine Ax_cSi dX5_add_14 sX5_80 (tX5_isWeight w) rfl rfl (by decide) (by simp [Value.category]) ?_
  refine Ax_ifneB (tgt := 23) dX5_add_17 (by decide) (fun c17 => ?_) (fun c17 => ?_)
  rotate_left
  · exact hbad (Or.inr (Or.inr c17)) _ _
  have hlh : low.toInt ≤ high.toInt := by
    simp only [Int32.lt_iff_toInt_lt, Int32.le_iff_toInt_le] at c2
    omega
  obtain ⟨t1, t2, t3⟩ := inB_nI (a := 0) (b := 15) c9
  obtain ⟨w1, w2, w3⟩ := inB_nI (a := 0) (b := 1000) c17
  have e0 : addS C cl' low high t w = match meetC C low high with
    | some k => (-103, C, nI k)
    | none => match freeC C with
      | none => (-104, C, cl')
      | some k => (nI k, upC C k (some (low, high, t.toInt.toNat, w.toInt.toNat)), cl') := by
    unfold addS
    rw [if_neg]
    rintro (q | q | q)
    · omega
    · rw [c9] at q; cases q
    · rw [c17] at q; cases q
  have hmt := tX2_firstMeeting (G := G) hc1 low high
  rw [meetC_is hc2 o0] at hmt
  have hfr := tX2_firstFree (G := G) hc1
  rw [freeC_is hc2 o0] at hfr
  refine Ax_al0 dX5_add_23 ?_
  refine Ax_getf kfX5 fX5_12 dX5_add_24 u rfl ?_
  refine Ax_il1 dX5_add_27 ?_
  refine Ax_il2 dX5_add_28 ?_
  refine Ax_cVi dX5_add_29 vX5_83 kfX2 s0 hmt rfl rfl (by decide) (by simp [Value.category]) ?_
  refine Ax_is5 dX5_add_32 (Nat.le_of_ble_eq_true rfl) (by rfl) ?_
  refine Ax_il5 dX5_add_34 ?_
  refine Ax_icm1 dX5_add_36 ?_
  refine Ax_cmpeq (tgt := 49) dX5_add_37 (by decide) (fun c37 => ?_) (fun c37 => ?_)
  · cases hm : meetC C low high with
    | some k =>
      rw [hm] at c37
      have := (fst_some _ _ _ hm).2.1
      exact absurd c37 (nI_nem (by omega))
    | none =>
      rw [hm] at e0
      refine Ax_al0 dX5_add_49 ?_
      refine Ax_getf kfX5 fX5_12 dX5_add_50 u rfl ?_
      refine Ax_cVi dX5_add_53 vX5_87 kfX2 s0 hfr rfl rfl (by decide) (by simp [Value.category]) ?_
      refine Ax_is6 dX5_add_56 (Nat.le_of_ble_eq_true rfl) (by rfl) ?_
      refine Ax_il6 dX5_add_58 ?_
      refine Ax_icm1 dX5_add_60 ?_
      refine Ax_cmpne (tgt := 67) dX5_add_61 (by decide) (fun c61 => ?_) (fun c61 => ?_)
      rotate_left
      · cases hf : freeC C with
        | some k =>
          rw [hf] at c61
          have := (fst_some _ _ _ hf).2.1
          exact absurd c61 (nI_nem (by omega))
        | none =>
          rw [hf] at e0
          rw [e0]
          refine Ax_bpm104 dX5_add_64 ?_
          exact Ax_iret dX5_add_66 rfl rfl ⟨rfl, ⟨stale, hS⟩, hO, xFr.rf⟩
      · cases hf : freeC C with
        | none => rw [hf] at c61; exact absurd rfl c61
        | some k =>
          rw [hf] at e0
          obtain ⟨-, k1, k2, -⟩ := fst_some _ _ _ hf
          have hk : k < 24 := by omega
          have hCk : C k = none := Option.isNone_iff_eq_none.mp k2
          have htg : tg k = -1 := by
            rcases hc2 k hk with ⟨-, q⟩ | ⟨c, q, -⟩
            · exact q
            · rw [q] at hCk; cases hCk
          have hcnt : cntF (upC C k (some (low, high, t.toInt.toNat, w.toInt.toNat))) 24 = cntF C 24 + 1 := by
            have := cntF_up (C := C) (k := k) (v := some (low, high, t.toInt.toNat, w.toInt.toNat)) 24
            rw [if_pos hk, if_pos hk, hCk] at this
            exact this
          rw [e0]
          refine Ax_al0 dX5_add_67 ?_
          refine Ax_getf kfX5 fX5_12 dX5_add_68 u rfl ?_
          refine Ax_il6 dX5_add_71 ?_
          refine Ax_il1 dX5_add_73 ?_
          refine Ax_il2 dX5_add_74 ?_
          refine Ax_il3 dX5_add_75 ?_
          refine Ax_il4 dX5_add_76 ?_
          refine Ax_cVv dX5_add_78 vX5_91 kfX2 s0 (tX2_set (G := G) hc1 hk low high t w) rfl rfl (by decide) (by simp [Value.category]) (Nat.le_refl _) (fun h1 q1 => ?_)
          obtain ⟨hc3, hF1⟩ := q1
          rw [if_pos htg] at hc3
          have u1 : h1.1 0 = _ := (hF1.1 0 (by omega)).trans u
          have fr : ∀ q, (q < 0 ∨ 0 + 1 ≤ q) → h1.1 q = h1.1 q := fun _ _ => rfl
          have zr : h1.2 = h1.2 := rfl
          refine Ax_al0 dX5_add_81 ?_
          refine Ax_ic1 dX5_add_82 ?_
          refine Ax_putf kfX5 fX5_72 dX5_add_83 u1 (Nat.le_of_ble_eq_true rfl) (Or.inl rfl) (by rfl) (by rfl) (Ax_up (fun h2 e2 f2 z2 => ?_))
          replace u1 := e2
          replace fr : ∀ q, (q < 0 ∨ 0 + 1 ≤ q) → h2.1 q = h1.1 q := fun q hq => (f2 q (by omega)).trans (fr q hq)
          replace zr := z2.trans zr
          have hF2 : xFr 0 1 h1 h2 := ⟨fr, zr⟩
          have hF12 : xFr 0 6 h h2 := ⟨fun q hq => (fr q (by omega)).trans (hF1.1 q (by omega)), zr.trans hF1.2⟩
          refine Ax_il6 dX5_add_86 ?_
          exact Ax_iret dX5_add_88 rfl rfl ⟨rfl, ⟨1, hS.stl hF12 u1 ⟨_, _, _, _, by rw [hcnt]; exact hc3.fr hF2 (by omega), by have := hc2.up k low high t.toInt.toNat w.toInt.toNat; rw [← t1, ← w1] at this; exact this⟩⟩, ⟨upC_ok o0 hk hlh (by omega) w3 hm hCk, oo⟩, ⟨fun q hq => hF12.1 q (by omega), hF12.2⟩⟩
  · cases hm : meetC C low high with
    | none => rw [hm] at c37; exact absurd rfl c37
    | some k =>
      rw [hm] at e0
      rw [e0]
      obtain ⟨-, k1, -⟩ := fst_some _ _ _ hm
      have fr : ∀ q, (q < 0 ∨ 0 + 1 ≤ q) → h.1 q = h.1 q := fun _ _ => rfl
      have zr : h.2 = h.2 := rfl
      refine Ax_al0 dX5_add_40 ?_
      refine Ax_il5 dX5_add_41 ?_
      refine Ax_putf kfX5 fX5_69 dX5_add_43 u (Nat.le_of_ble_eq_true rfl) (Or.inl rfl) (by rfl) (by rfl) (Ax_up (fun h1 e1 f1 z1 => ?_))
      replace u := e1
      replace fr : ∀ q, (q < 0 ∨ 0 + 1 ≤ q) → h1.1 q = h.1 q := fun q hq => (f1 q (by omega)).trans (fr q hq)
      replace zr := z1.trans zr
      have hF1 : xFr 0 1 h h1 := ⟨fr, zr⟩
      refine Ax_bpm103 dX5_add_46 ?_
      exact Ax_iret dX5_add_48 rfl rfl ⟨rfl, ⟨stale, hS.upd hF1 u⟩, hO, ⟨fun q hq => fr q (by omega), zr⟩⟩
end
