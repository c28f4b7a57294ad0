/-! the reference: add, by -/
theorem inC_uniq {C : Cs} (hC : cOk C) {j k : Nat} {x : Int} (hj : inC C j x) (hk : inC C k x) : j = k := by
  obtain ⟨j1, j2, j3⟩ := hj
  obtain ⟨k1, k2, k3⟩ := hk
  obtain ⟨c, hc⟩ := Option.isSome_iff_exists.mp j1
  obtain ⟨d, hd⟩ := Option.isSome_iff_exists.mp k1
  rw [gC_some hc] at j2 j3
  rw [gC_some hd] at k2 k3
  by_cases e : j = k
  · exact e
  · have := hC.2 j k c d e hc hd
    omega
def caseP (C : Cs) (x : Int) (n : Nat) (v : Int32) : Prop := (∃ j, j < n ∧ v = nI j ∧ inC C j x) ∨ (v = -1 ∧ ∀ j, j < n → ¬ inC C j x)
section
variable {G : xG} {h h' : xH} {C : Cs} {rt rw dn sz wy : Nat} {cl' : Int32} {bs : List Nat}
theorem tX6_caseOf (m : ∃ cs rn kn ln pt tk os cl rt rw dn sz wy, h.1 30 = mO cs cl rt rw dn sz wy rn kn ln pt tk os) (hCs : mCs h C) (x : Int64) : AM G mX6_caseOf 1 0 [.ref 30, .long x] h (fun r h' => ∃ v, r = some (.int v) ∧ caseP C x.toInt 24 v ∧ h' = h) := by
  obtain ⟨cs, rn, kn, ln, pt, tk, os, cl, rt, rw, dn, sz, wy, m⟩ := m
  obtain ⟨th, lo, hi, tg, wt, m0, m1, m2, m3, m4, hR⟩ := hCs
  refine AM.of rfl rfl (Nat.le_of_ble_eq_true rfl) rfl ?_
  refine Ax_icm1 dX6_caseOf_0 ?_
  refine Ax_is3 dX6_caseOf_1 (Nat.le_of_ble_eq_true rfl) (by rfl) ?_
  refine Ax_ic0 dX6_caseOf_2 ?_
  refine Ax_is4 dX6_caseOf_3 (Nat.le_of_ble_eq_true rfl) (by rfl) ?_
  suffices hloop : ∀ n k v, k + n = 24 → caseP C x.toInt k v → Ax G mX6_caseOf 1 0 5 [.ref 30, .long x, .null, .int v, .int (nI k)] [] h (fun r h' => ∃ v, r = some (.int v) ∧ caseP C x.toInt 24 v ∧ h' = h) from
    hloop 24 0 _ rfl (Or.inr ⟨rfl, fun j hj => absurd hj (Nat.not_lt_zero _)⟩)
  intro n
  induction n with
  | zero =>
    intro k v hk hv
    obtain rfl : k = 24 := by omega
    refine Ax_il4 dX6_caseOf_5 ?_
    refine Ax_bp24 dX6_caseOf_7 ?_
    refine Ax_cmpgen (tgt := 58) dX6_caseOf_9 (by decide) (by omega) (by omega) (fun c9 => ?_) (fun c9 => ?_)
    · refine Ax_il3 dX6_caseOf_58 ?_
      exact Ax_iret dX6_caseOf_59 rfl rfl ⟨_, rfl, hv, rfl⟩
    · omega
  | succ n ih =>
    intro k v hk hv
    have hk24 : k < 24 := by omega
    have hold : ¬ inC C k x.toInt → caseP C x.toInt (k + 1) v := by
      intro q
      rcases hv with ⟨j, j1, j2, j3⟩ | ⟨v1, v2⟩
      · exact Or.inl ⟨j, by omega, j2, j3⟩
      · refine Or.inr ⟨v1, fun j hj => ?_⟩
        rcases (show j < k ∨ j = k by omega) with e | e
        · exact v2 j e
        · subst e; exact q
    refine Ax_il4 dX6_caseOf_5 ?_
    refine Ax_bp24 dX6_caseOf_7 ?_
    refine Ax_cmpgen (tgt := 58) dX6_caseOf_9 (by decide) (by omega) (by omega) (fun c9 => ?_) (fun c9 => ?_)
    · omega
    refine Ax_al0 dX6_caseOf_12 ?_
    refine Ax_getf kfX6 fX6_7 dX6_caseOf_13 m rfl ?_
    refine Ax_il4 dX6_caseOf_16 ?_
    refine Ax_zaldn dX6_caseOf_18 m0 (by omega) (by omega) ?_
    refine Ax_top (hR k hk24).1 ?_
    refine Ax_ifeqB (tgt := 50) dX6_caseOf_19 (by decide) (fun c19 => ?_) (fun c19 => ?_)
    · refine Ax_il3 dX6_caseOf_50 ?_
      refine Ax_is3 dX6_caseOf_51 (Nat.le_of_ble_eq_true rfl) (by rfl) ?_
      refine Ax_inc4_1n dX6_caseOf_52 (Nat.le_of_ble_eq_true rfl) (by rfl) ?_
      refine Ax_goto (tgt := 5) dX6_caseOf_55 (by decide) ?_
      exact ih (k + 1) v (by omega) (hold (fun q => by rw [q.1] at c19; cases c19))
    · obtain ⟨e1, e2, e3, e4⟩ := hR.g hk24 c19
      have hin := tX6_in (G := G) (h := h) x (lo k).toInt64 (hi k).toInt64
      rw [Int32.toInt_toInt64, Int32.toInt_toInt64, e1, e2] at hin
      refine Ax_ll1 dX6_caseOf_22 ?_
      refine Ax_al0 dX6_caseOf_23 ?_
      refine Ax_getf kfX6 fX6_13 dX6_caseOf_24 m rfl ?_
      refine Ax_il4 dX6_caseOf_27 ?_
      refine Ax_ialdn dX6_caseOf_29 m1 (by omega) (by omega) ?_
      refine Ax_top e1 ?_
      refine Ax_i2l dX6_caseOf_30 ?_
      refine Ax_al0 dX6_caseOf_31 ?_
      refine Ax_getf kfX6 fX6_17 dX6_caseOf_32 m rfl ?_
      refine Ax_il4 dX6_caseOf_35 ?_
      refine Ax_ialdn dX6_caseOf_37 m2 (by omega) (by omega) ?_
      refine Ax_top e2 ?_
      refine Ax_i2l dX6_caseOf_38 ?_
      refine Ax_cSi dX6_caseOf_39 sX6_110 hin rfl rfl (by decide) (by simp [Value.category]) ?_
      refine Ax_ifeqB (tgt := 50) dX6_caseOf_42 (by decide) (fun c42 => ?_) (fun c42 => ?_)
      · refine Ax_il3 dX6_caseOf_50 ?_
        refine Ax_is3 dX6_caseOf_51 (Nat.le_of_ble_eq_true rfl) (by rfl) ?_
        refine Ax_inc4_1n dX6_caseOf_52 (Nat.le_of_ble_eq_true rfl) (by rfl) ?_
        refine Ax_goto (tgt := 5) dX6_caseOf_55 (by decide) ?_
        refine ih (k + 1) v (by omega) (hold (fun q => ?_))
        unfold inB at c42
        rw [decide_eq_false_iff_not] at c42
        exact c42 q.2
      · refine Ax_il4 dX6_caseOf_45 ?_
        refine Ax_goto (tgt := 51) dX6_caseOf_47 (by decide) ?_
        refine Ax_is3 dX6_caseOf_51 (Nat.le_of_ble_eq_true rfl) (by rfl) ?_
        refine Ax_inc4_1n dX6_caseOf_52 (Nat.le_of_ble_eq_true rfl) (by rfl) ?_
        refine Ax_goto (tgt := 5) dX6_caseOf_55 (by decide) ?_
        unfold inB at c42
        rw [decide_eq_true_eq] at c42
        exact ih (k + 1) _ (by omega) (Or.inl ⟨k, by omega, rfl, c19, c42.1, c42.2⟩)
theorem vM.obj (hS : vM h C rt rw dn sz wy cl' bs) : ∃ cs rn kn ln pt tk os cl rt rw dn sz wy, h.1 30 = mO cs cl rt rw dn sz wy rn kn ln pt tk os := by
  obtain ⟨⟨rn, kn, ln, pt, tk, m⟩, -⟩ := hS
  exact ⟨_, _, _, _, _, _, _, _, _, _, _, _, _, m⟩
theorem tX6_by (hS : vM h C rt rw dn sz wy cl' bs) (hC : cOk C) (x : Int32) : AM G mX6_by 2 0 [.ref 30, .int x] h (fun r h' => r = some (.int (byS C rt x)) ∧ h' = h) := by
  have hof := tX6_caseOf (G := G) hS.obj hS.2.1 x.toInt64
  rw [Int32.toInt_toInt64] at hof
  obtain ⟨⟨rn, kn, ln, pt, tk, m⟩, ⟨th, lo, hi, tg, wt, m0, m1, m2, m3, m4, hR⟩, -⟩ := hS
  refine AM.of rfl rfl (Nat.le_of_ble_eq_true rfl) rfl ?_
  refine Ax_al0 dX6_by_0 ?_
  refine Ax_il1 dX6_by_1 ?_
  refine Ax_i2l dX6_by_2 ?_
  refine Ax_cViE dX6_by_3 vX6_218 kfX6 m hof rfl rfl (by decide) (by simp [Value.category]) (fun x3 p3 => ?_)
  unfold byS
  rcases p3 with ⟨j, j1, rfl, j3⟩ | ⟨rfl, hno⟩
  · have hm : meetC C x x = some j := by
      cases hm : meetC C x x with
      | none => exact absurd j3 (meet_no hm j1)
      | some k => rw [inC_uniq hC (meet_in hm).2 j3]
    rw [hm]
    refine Ax_is2 dX6_by_6 (Nat.le_of_ble_eq_true rfl) (by rfl) ?_
    refine Ax_il2 dX6_by_7 ?_
    refine Ax_ifgen (tgt := 18) dX6_by_8 (by decide) (by omega) ?_
    show Ax G mX6_by 2 0 18 _ _ h (fun r h' => r = some (.int (nI (gC C j).2.2.1)) ∧ h' = h)
    rw [← (hR.g j1 j3.1).2.2.1]
    refine Ax_al0 dX6_by_18 ?_
    refine Ax_getf kfX6 fX6_20 dX6_by_19 m rfl ?_
    refine Ax_il2 dX6_by_22 ?_
    refine Ax_ialdn dX6_by_23 m3 (by omega) (by omega) ?_
    exact Ax_iret dX6_by_24 rfl rfl ⟨rfl, rfl⟩
  · have hm : meetC C x x = none := by
      cases hm : meetC C x x with
      | none => rfl
      | some k => exact absurd (meet_in hm).2 (hno k (meet_in hm).1)
    rw [hm]
    refine Ax_is2 dX6_by_6 (Nat.le_of_ble_eq_true rfl) (by rfl) ?_
    refine Ax_il2 dX6_by_7 ?_
    refine Ax_ifge (tgt := 18) dX6_by_8 (by decide) (fun c8 => ?_) (fun c8 => ?_)
    · exact absurd c8 (by decide)
    · refine Ax_al0 dX6_by_11 ?_
      refine Ax_getf kfX6 fX6_125 dX6_by_12 m rfl ?_
      refine Ax_goto (tgt := 24) dX6_by_15 (by decide) ?_
      exact Ax_iret dX6_by_24 rfl rfl ⟨rfl, rfl⟩
theorem freeC_full {C : Cs} : cntF C 24 = 24 → freeC C = none := by
  intro q
  refine fst_no 24 0 (fun k _ hk => ?_)
  have := (cntF_full 24).mp q k (by omega)
  cases hc : C k
  · rw [hc] at this; cases this
  · rfl
theorem tX6_add (hS : vM h C rt rw dn sz wy cl' bs) (hO : sOk C rt rw dn sz wy) (low high t w : Int32) : AM G mX6_add 2 0 [.ref 30, .int low, .int high, .int t, .int w] h
    (fun r h' => r = some (.int (addS C cl' low high t w).1) ∧ vM h' (addS C cl' low high t w).2.1 rt rw dn sz wy (addS C cl' low high t w).2.2 bs ∧ xFr 30 29 h h') := by
  obtain ⟨⟨rn, kn, ln, pt, tk, m⟩, ⟨th, lo, hi, tg, wt, m0, m1, m2, m3, m4, hR⟩, -⟩ := id hS
  have hc24 := cntF_le (C := C) 24
  refine AM.of rfl rfl (Nat.le_of_ble_eq_true rfl) rfl ?_
  have hbad : (high.toInt < low.toInt ∨ inB t.toInt 0 15 = false ∨ inB w.toInt 0 1000 = false) → ∀ x5, Ax G mX6_add 2 0 30 [.ref 30, .int low, .int high, .int t, .int w, x5] [] h (fun r h' => r = some (.int (addS C cl' low high t w).1) ∧ vM h' (addS C cl' low high t w).2.1 rt rw dn sz wy (addS C cl' low high t w).2.2 bs ∧ xFr 30 29 h h') := by
    intro q x5
    have e : addS C cl' low high t w = (-102, C, cl') := by unfold addS; rw [if_pos q]
    rw [e]
    refine Ax_bpm102 dX6_add_30 ?_
    exact Ax_iret dX6_add_32 rfl rfl ⟨rfl, hS, xFr.rf⟩
  refine Ax_il1 dX6_add_0 ?_
  refine Ax_il2 dX6_add_1 ?_
  refine Ax_cmpgt (tgt := 30) dX6_add_2 (by decide) (fun c2 => ?_) (fun c2 => ?_)
  · simp only [Int32.lt_iff_toInt_lt] at c2
    exact hbad (Or.inl c2) _
  refine Ax_il3 dX6_add_5 ?_
  refine Ax_i2l dX6_add_6 ?_
  refine Ax_lc0 dX6_add_7 ?_
  refine Ax_ldc2 dX6_add_8 cX6_108 ?_
  refine Ax_cSi dX6_add_11 sX6_110 (tIn t (lN 0) 15 (a' := 0) (b' := 15) (by decide) (by decide)) rfl rfl (by decide) (by simp [Value.category]) ?_
  refine Ax_ifeqB (tgt := 30) dX6_add_14 (by decide) (fun c14 => ?_) (fun c14 => ?_)
  · exact hbad (Or.inr (Or.inl c14)) _
  refine Ax_il4 dX6_add_17 ?_
  refine Ax_i2l dX6_add_19 ?_
  refine Ax_lc0 dX6_add_20 ?_
  refine Ax_ldc2 dX6_add_21 cX6_114 ?_
  refine Ax_cSi dX6_add_24 sX6_110 (tIn w (lN 0) 1000 (a' := 0) (b' := 1000) (by decide) (by decide)) rfl rfl (by decide) (by simp [Value.category]) ?_
  refine Ax_ifneB (tgt := 33) dX6_add_27 (by decide) (fun c27 => ?_) (fun c27 => ?_)
  rotate_left
  · exact hbad (Or.inr (Or.inr c27)) _
  have hlh : low.toInt ≤ high.toInt := by
    simp only [Int32.lt_iff_toInt_lt, Int32.le_iff_toInt_le] at c2
    omega
  obtain ⟨t1, t2, t3⟩ := inB_nI (a := 0) (b := 15) c14
  obtain ⟨w1, w2, w3⟩ := inB_nI (a := 0) (b := 1000) c27
  have e0 : addS C cl' low high t w = match meetC C low high with
    | some k => (-103, C, nI k)
    | none => match freeC C with
      | none => (-104, C, cl')
      | some k => (nI k, upC C k (some (low, high, t.toInt.toNat, w.toInt.toNat)), cl') := by
    refine if_neg ?_
    rintro (q | q | q)
    · omega
    · rw [c14] at q; cases q
    · rw [c27] at q; cases q
  refine Ax_ic0 dX6_add_33 ?_
  refine Ax_is5 dX6_add_34 (Nat.le_of_ble_eq_true rfl) (by rfl) ?_
  suffices hloop : ∀ n k, k + n = 24 → (∀ j, j < k → ((C j).isSome && (decide ((gC C j).1 ≤ high) && decide (low ≤ (gC C j).2.1))) = false) → Ax G mX6_add 2 0 36 [.ref 30, .int low, .int high, .int t, .int w, .int (nI k)] [] h (fun r h' => r = some (.int (addS C cl' low high t w).1) ∧ vM h' (addS C cl' low high t w).2.1 rt rw dn sz wy (addS C cl' low high t w).2.2 bs ∧ xFr 30 29 h h') from
    hloop 24 0 rfl (fun j hj => absurd hj (Nat.not_lt_zero _))
  intro n
  induction n with
  | succ n ih =>
    intro k hk hno
    have hk24 : k < 24 := by omega
    have hnext : ((C k).isSome && (decide ((gC C k).1 ≤ high) && decide (low ≤ (gC C k).2.1))) = false → ∀ j, j < k + 1 → ((C j).isSome && (decide ((gC C j).1 ≤ high) && decide (low ≤ (gC C j).2.1))) = false := by
      intro q j hj
      rcases (show j < k ∨ j = k by omega) with e | e
      · exact hno j e
      · subst e; exact q
    refine Ax_il5 dX6_add_36 ?_
    refine Ax_bp24 dX6_add_38 ?_
    refine Ax_cmpgen (tgt := 90) dX6_add_40 (by decide) (by omega) (by omega) (fun c40 => ?_) (fun c40 => ?_)
    · omega
    refine Ax_al0 dX6_add_43 ?_
    refine Ax_getf kfX6 fX6_7 dX6_add_44 m rfl ?_
    refine Ax_il5 dX6_add_47 ?_
    refine Ax_zaldn dX6_add_49 m0 (by omega) (by omega) ?_
    refine Ax_top (hR k hk24).1 ?_
    refine Ax_ifeqB (tgt := 84) dX6_add_50 (by decide) (fun c50 => ?_) (fun c50 => ?_)
    · refine Ax_inc5_1n dX6_add_84 (Nat.le_of_ble_eq_true rfl) (by rfl) ?_
      refine Ax_goto (tgt := 36) dX6_add_87 (by decide) ?_
      exact ih (k + 1) (by omega) (hnext (by rw [c50]; rfl))
    obtain ⟨e1, e2, e3, e4⟩ := hR.g hk24 c50
    refine Ax_il1 dX6_add_53 ?_
    refine Ax_al0 dX6_add_54 ?_
    refine Ax_getf kfX6 fX6_17 dX6_add_55 m rfl ?_
    refine Ax_il5 dX6_add_58 ?_
    refine Ax_ialdn dX6_add_60 m2 (by omega) (by omega) ?_
    refine Ax_cmpgt (tgt := 84) dX6_add_61 (by decide) (fun c61 => ?_) (fun c61 => ?_)
    · refine Ax_inc5_1n dX6_add_84 (Nat.le_of_ble_eq_true rfl) (by rfl) ?_
      refine Ax_goto (tgt := 36) dX6_add_87 (by decide) ?_
      refine ih (k + 1) (by omega) (hnext ?_)
      rw [e2] at c61
      rw [Int32.lt_iff_toInt_lt] at c61
      rw [decide_eq_false (p := low ≤ (gC C k).2.1) (by rw [Int32.le_iff_toInt_le]; omega), Bool.and_false, Bool.and_false]
    refine Ax_il2 dX6_add_64 ?_
    refine Ax_al0 dX6_add_65 ?_
    refine Ax_getf kfX6 fX6_13 dX6_add_66 m rfl ?_
    refine Ax_il5 dX6_add_69 ?_
    refine Ax_ialdn dX6_add_71 m1 (by omega) (by omega) ?_
    refine Ax_cmplt (tgt := 84) dX6_add_72 (by decide) (fun c72 => ?_) (fun c72 => ?_)
    · refine Ax_inc5_1n dX6_add_84 (Nat.le_of_ble_eq_true rfl) (by rfl) ?_
      refine Ax_goto (tgt := 36) dX6_add_87 (by decide) ?_
      refine ih (k + 1) (by omega) (hnext ?_)
      rw [e1] at c72
      rw [Int32.lt_iff_toInt_lt] at c72
      rw [decide_eq_false (p := (gC C k).1 ≤ high) (by rw [Int32.le_iff_toInt_le]; omega), Bool.false_and, Bool.and_false]
    rw [e2, Int32.lt_iff_toInt_lt] at c61
    have hm : meetC C low high = some k := by
      refine fst_of 24 0 k (Nat.zero_le _) (by omega) ?_ (fun j _ hj => hno j hj)
      rw [e1] at c72
      rw [c50, decide_eq_true (p := low ≤ (gC C k).2.1) (by rw [Int32.le_iff_toInt_le]; omega), decide_eq_true (p := (gC C k).1 ≤ high) (by first | exact Int32.not_lt.mp c72 | (rw [Int32.lt_iff_toInt_lt] at c72; rw [Int32.le_iff_toInt_le]; omega))]
      rfl
    rw [hm] at e0
    rw [e0]
    have fr : ∀ q, (q < 30 ∨ 31 ≤ q) → h.1 q = h.1 q := fun _ _ => rfl
    have zr : h.2 = h.2 := rfl
    refine Ax_al0 dX6_add_75 ?_
    refine Ax_il5 dX6_add_76 ?_
    refine Ax_putf kfX6 fX6_26 dX6_add_78 m (Nat.le_of_ble_eq_true rfl) (Or.inl rfl) (by rfl) (by rfl) (Ax_up (fun h1 e1 f1 z1 => ?_))
    replace m := e1
    replace m0 := (f1 _ (by omega)).trans m0
    replace m1 := (f1 _ (by omega)).trans m1
    replace m2 := (f1 _ (by omega)).trans m2
    replace m3 := (f1 _ (by omega)).trans m3
    replace m4 := (f1 _ (by omega)).trans m4
    replace fr : ∀ q, (q < 30 ∨ 31 ≤ q) → h1.1 q = h.1 q := fun q hq => (f1 q (by omega)).trans (fr q hq)
    replace zr := z1.trans zr
    refine Ax_bpm103 dX6_add_81 ?_
    exact Ax_iret dX6_add_83 rfl rfl ⟨rfl, hS.put ⟨rn, kn, ln, pt, tk, m⟩ ⟨_, _, _, _, _, m0, m1, m2, m3, m4, hR⟩ (fun q hq => fr q (by omega)), ⟨fun q hq => fr q (by omega), zr⟩⟩
  | zero =>
    intro k hk hno
    obtain rfl : k = 24 := by omega
    have hm : meetC C low high = none := fst_no 24 0 (fun j _ hj => hno j (by omega))
    rw [hm] at e0
    refine Ax_il5 dX6_add_36 ?_
    refine Ax_bp24 dX6_add_38 ?_
    refine Ax_cmpgen (tgt := 90) dX6_add_40 (by decide) (by omega) (by omega) (fun c40 => ?_) (fun c40 => ?_)
    rotate_left
    · omega
    refine Ax_al0 dX6_add_90 ?_
    refine Ax_getf kfX6 fX6_116 dX6_add_91 m rfl ?_
    refine Ax_bp24 dX6_add_94 ?_
    refine Ax_cmpnen (tgt := 102) dX6_add_96 (by decide) (by omega) (by omega) (fun c96 => ?_) (fun c96 => ?_)
    rotate_left
    · have hf : freeC C = none := freeC_full (by omega)
      rw [hf] at e0
      rw [e0]
      refine Ax_bpm104 dX6_add_99 ?_
      exact Ax_iret dX6_add_101 rfl rfl ⟨rfl, hS, xFr.rf⟩
    refine Ax_ic0 dX6_add_102 ?_
    refine Ax_is5 dX6_add_103 (Nat.le_of_ble_eq_true rfl) (by rfl) ?_
    suffices hloop : ∀ n k, k + n = 24 → (∀ j, j < k → (C j).isSome = true) → Ax G mX6_add 2 0 105 [.ref 30, .int low, .int high, .int t, .int w, .int (nI k)] [] h (fun r h' => r = some (.int (addS C cl' low high t w).1) ∧ vM h' (addS C cl' low high t w).2.1 rt rw dn sz wy (addS C cl' low high t w).2.2 bs ∧ xFr 30 29 h h') from
      hloop 24 0 rfl (fun j hj => absurd hj (Nat.not_lt_zero _))
    intro n
    induction n with
    | zero =>
      intro k hk hall
      obtain rfl : k = 24 := by omega
      exact absurd ((cntF_full 24).mpr hall) c96
    | succ n ih =>
      intro k hk hall
      have hk24 : k < 24 := by omega
      refine Ax_al0 dX6_add_105 ?_
      refine Ax_getf kfX6 fX6_7 dX6_add_106 m rfl ?_
      refine Ax_il5 dX6_add_109 ?_
      refine Ax_zaldn dX6_add_111 m0 (by omega) (by omega) ?_
      refine Ax_top (hR k hk24).1 ?_
      refine Ax_ifeqB (tgt := 121) dX6_add_112 (by decide) (fun c112 => ?_) (fun c112 => ?_)
      rotate_left
      · refine Ax_inc5_1n dX6_add_115 (Nat.le_of_ble_eq_true rfl) (by rfl) ?_
        refine Ax_goto (tgt := 105) dX6_add_118 (by decide) ?_
        refine ih (k + 1) (by omega) (fun j hj => ?_)
        rcases (show j < k ∨ j = k by omega) with e | e
        · exact hall j e
        · subst e; exact c112
      have hCk : C k = none := by
        cases q : C k
        · rfl
        · rw [q] at c112; cases c112
      have hf : freeC C = some k := by
        refine fst_of 24 0 k (Nat.zero_le _) (by omega) (by rw [hCk]; rfl) (fun j _ hj => ?_)
        have := hall j hj
        cases q : C j
        · rw [q] at this; cases this
        · rfl
      rw [hf] at e0
      rw [e0]
      have hcnt : cntF (upC C k (some (low, high, t.toInt.toNat, w.toInt.toNat))) 24 = cntF C 24 + 1 := by
        have := cntF_up (C := C) (k := k) (v := some (low, high, t.toInt.toNat, w.toInt.toNat)) 24
        rw [if_pos hk24, if_pos hk24, hCk] at this
        exact this
      have hR2 := hR.up k low high t.toInt.toNat w.toInt.toNat
      rw [← t1, ← w1, ← nar1] at hR2
      have fr : ∀ q, (q < 30 ∨ 36 ≤ q) → h.1 q = h.1 q := fun _ _ => rfl
      have zr : h.2 = h.2 := rfl
      refine Ax_al0 dX6_add_121 ?_
      refine Ax_getf kfX6 fX6_7 dX6_add_122 m rfl ?_
      refine Ax_il5 dX6_add_125 ?_
      refine Ax_ic1 dX6_add_127 ?_
      refine Ax_zastn dX6_add_128 m0 (by omega) (by omega) (Ax_up (fun h1 e1 f1 z1 => ?_))
      replace m := (f1 _ (by omega)).trans m
      replace m0 := e1
      replace m1 := (f1 _ (by omega)).trans m1
      replace m2 := (f1 _ (by omega)).trans m2
      replace m3 := (f1 _ (by omega)).trans m3
      replace m4 := (f1 _ (by omega)).trans m4
      replace fr : ∀ q, (q < 30 ∨ 36 ≤ q) → h1.1 q = h.1 q := fun q hq => (f1 q (by omega)).trans (fr q hq)
      replace zr := z1.trans zr
      refine Ax_al0 dX6_add_129 ?_
      refine Ax_getf kfX6 fX6_13 dX6_add_130 m rfl ?_
      refine Ax_il5 dX6_add_133 ?_
      refine Ax_il1 dX6_add_135 ?_
      refine Ax_iastn dX6_add_136 m1 (by omega) (by omega) (Ax_up (fun h2 e2 f2 z2 => ?_))
      replace m := (f2 _ (by omega)).trans m
      replace m0 := (f2 _ (by omega)).trans m0
      replace m1 := e2
      replace m2 := (f2 _ (by omega)).trans m2
      replace m3 := (f2 _ (by omega)).trans m3
      replace m4 := (f2 _ (by omega)).trans m4
      replace fr : ∀ q, (q < 30 ∨ 36 ≤ q) → h2.1 q = h.1 q := fun q hq => (f2 q (by omega)).trans (fr q hq)
      replace zr := z2.trans zr
      refine Ax_al0 dX6_add_137 ?_
      refine Ax_getf kfX6 fX6_17 dX6_add_138 m rfl ?_
      refine Ax_il5 dX6_add_141 ?_
      refine Ax_il2 dX6_add_143 ?_
      refine Ax_iastn dX6_add_144 m2 (by omega) (by omega) (Ax_up (fun h3 e3 f3 z3 => ?_))
      replace m := (f3 _ (by omega)).trans m
      replace m0 := (f3 _ (by omega)).trans m0
      replace m1 := (f3 _ (by omega)).trans m1
      replace m2 := e3
      replace m3 := (f3 _ (by omega)).trans m3
      replace m4 := (f3 _ (by omega)).trans m4
      replace fr : ∀ q, (q < 30 ∨ 36 ≤ q) → h3.1 q = h.1 q := fun q hq => (f3 q (by omega)).trans (fr q hq)
      replace zr := z3.trans zr
      refine Ax_al0 dX6_add_145 ?_
      refine Ax_getf kfX6 fX6_20 dX6_add_146 m rfl ?_
      refine Ax_il5 dX6_add_149 ?_
      refine Ax_il3 dX6_add_151 ?_
      refine Ax_iastn dX6_add_152 m3 (by omega) (by omega) (Ax_up (fun h4 e4 f4 z4 => ?_))
      replace m := (f4 _ (by omega)).trans m
      replace m0 := (f4 _ (by omega)).trans m0
      replace m1 := (f4 _ (by omega)).trans m1
      replace m2 := (f4 _ (by omega)).trans m2
      replace m3 := e4
      replace m4 := (f4 _ (by omega)).trans m4
      replace fr : ∀ q, (q < 30 ∨ 36 ≤ q) → h4.1 q = h.1 q := fun q hq => (f4 q (by omega)).trans (fr q hq)
      replace zr := z4.trans zr
      refine Ax_al0 dX6_add_153 ?_
      refine Ax_getf kfX6 fX6_23 dX6_add_154 m rfl ?_
      refine Ax_il5 dX6_add_157 ?_
      refine Ax_il4 dX6_add_159 ?_
      refine Ax_iastn dX6_add_161 m4 (by omega) (by omega) (Ax_up (fun h5 e5 f5 z5 => ?_))
      replace m := (f5 _ (by omega)).trans m
      replace m0 := (f5 _ (by omega)).trans m0
      replace m1 := (f5 _ (by omega)).trans m1
      replace m2 := (f5 _ (by omega)).trans m2
      replace m3 := (f5 _ (by omega)).trans m3
      replace m4 := e5
      replace fr : ∀ q, (q < 30 ∨ 36 ≤ q) → h5.1 q = h.1 q := fun q hq => (f5 q (by omega)).trans (fr q hq)
      replace zr := z5.trans zr
      refine Ax_al0 dX6_add_162 ?_
      refine Ax_dup dX6_add_163 rfl ?_
      refine Ax_getf kfX6 fX6_116 dX6_add_164 m rfl ?_
      refine Ax_ic1 dX6_add_167 ?_
      refine Ax_iaddn dX6_add_168 ?_
      refine Ax_putf kfX6 fX6_116 dX6_add_169 m (Nat.le_of_ble_eq_true rfl) (Or.inl rfl) (by rfl) (by rfl) (Ax_up (fun h6 e6 f6 z6 => ?_))
      replace m := e6
      replace m0 := (f6 _ (by omega)).trans m0
      replace m1 := (f6 _ (by omega)).trans m1
      replace m2 := (f6 _ (by omega)).trans m2
      replace m3 := (f6 _ (by omega)).trans m3
      replace m4 := (f6 _ (by omega)).trans m4
      replace fr : ∀ q, (q < 30 ∨ 36 ≤ q) → h6.1 q = h.1 q := fun q hq => (f6 q (by omega)).trans (fr q hq)
      replace zr := z6.trans zr
      refine Ax_il5 dX6_add_172 ?_
      exact Ax_iret dX6_add_174 rfl rfl ⟨rfl, hS.put ⟨rn, kn, ln, pt, tk, by rw [hcnt]; exact m⟩ ⟨_, _, _, _, _, m0, m1, m2, m3, m4, hR2⟩ (fun q hq => fr q (by omega)), ⟨fun q hq => fr q (by omega), zr⟩⟩
end
