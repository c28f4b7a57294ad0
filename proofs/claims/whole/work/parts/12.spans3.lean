section
variable {G : xG} {h : xH} {o : Nat} {lo hi tg wt : Nat → Int32} {n : Int32}
theorem tX2_nextByLow (hS : vSp h o lo hi tg wt n) (after : Int64) : AM G mX2_nextByLow 0 0 [.ref o, .long after] h (fun r h' => ∃ x, r = some (.int x) ∧ (∃ q, x = oI q ∧ IsNext lo tg after.toInt q) ∧ h' = h) := by
  obtain ⟨s, s0, s1, s2, s3⟩ := id hS
  refine AM.of rfl rfl (Nat.le_of_ble_eq_true rfl) rfl ?_
  refine Ax_icm1 dX2_nextByLow_0 ?_
  refine Ax_is3 dX2_nextByLow_1 (Nat.le_of_ble_eq_true rfl) (by rfl) ?_
  refine Ax_ldc2 dX2_nextByLow_2 cX2_40 ?_
  refine Ax_ls4 dX2_nextByLow_5 (Nat.le_of_ble_eq_true rfl) (by rfl) ?_
  refine Ax_ic0 dX2_nextByLow_7 ?_
  refine Ax_is6 dX2_nextByLow_8 (Nat.le_of_ble_eq_true rfl) (by rfl) ?_
  suffices hloop : ∀ m k r lv, k + m = 24 → NextTo lo tg after.toInt k lv r → Ax G mX2_nextByLow 0 0 10 [.ref o, .long after, .null, .int (oI r), .long lv, .null, .int (nI k)] [] h (fun r h' => ∃ x, r = some (.int x) ∧ (∃ q, x = oI q ∧ IsNext lo tg after.toInt q) ∧ h' = h) from hloop 24 0 none _ rfl ⟨by decide, fun j hj => by omega⟩
  intro m
  induction m with
  | zero =>
    intro k r lv hk hN
    obtain rfl : k = 24 := by omega
    refine Ax_il6 dX2_nextByLow_10 ?_
    refine Ax_bp24 dX2_nextByLow_12 ?_
    refine Ax_cmpgen (tgt := 74) dX2_nextByLow_14 (by decide) (by omega) (by omega) (fun c14 => ?_) (fun c14 => ?_)
    · refine Ax_il3 dX2_nextByLow_74 ?_
      exact Ax_iret dX2_nextByLow_75 rfl rfl ⟨_, rfl, ⟨r, rfl, hN.fin⟩, rfl⟩
    · omega
  | succ m ih =>
    intro k r lv hk hN
    have hno : (tg k = -1 ∨ (lo k).toInt ≤ after.toInt ∨ lv.toInt ≤ (lo k).toInt) → Ax G mX2_nextByLow 0 0 68 [.ref o, .long after, .null, .int (oI r), .long lv, .null, .int (nI k)] [] h (fun r h' => ∃ x, r = some (.int x) ∧ (∃ q, x = oI q ∧ IsNext lo tg after.toInt q) ∧ h' = h) := by
      intro hq
      refine Ax_inc6_1n dX2_nextByLow_68 (Nat.le_of_ble_eq_true rfl) (by rfl) ?_
      refine Ax_goto (tgt := 10) dX2_nextByLow_71 (by decide) ?_
      exact ih (k + 1) r lv (by omega) (hN.keep hq)
    refine Ax_il6 dX2_nextByLow_10 ?_
    refine Ax_bp24 dX2_nextByLow_12 ?_
    refine Ax_cmpgen (tgt := 74) dX2_nextByLow_14 (by decide) (by omega) (by omega) (fun c14 => ?_) (fun c14 => ?_)
    · omega
    refine Ax_al0 dX2_nextByLow_17 ?_
    refine Ax_getf kfX2 fX2_18 dX2_nextByLow_18 s rfl ?_
    refine Ax_il6 dX2_nextByLow_21 ?_
    refine Ax_ialdn dX2_nextByLow_23 s2 (by omega) (by omega) ?_
    refine Ax_icm1 dX2_nextByLow_24 ?_
    refine Ax_cmpeq (tgt := 68) dX2_nextByLow_25 (by decide) (fun c25 => ?_) (fun c25 => ?_)
    · exact hno (Or.inl c25)
    refine Ax_al0 dX2_nextByLow_28 ?_
    refine Ax_getf kfX2 fX2_9 dX2_nextByLow_29 s rfl ?_
    refine Ax_il6 dX2_nextByLow_32 ?_
    refine Ax_ialdn dX2_nextByLow_34 s0 (by omega) (by omega) ?_
    refine Ax_i2l dX2_nextByLow_35 ?_
    refine Ax_ll1 dX2_nextByLow_36 ?_
    refine Ax_lcmp dX2_nextByLow_37 ?_
    refine Ax_ifleC (tgt := 68) dX2_nextByLow_38 (by decide) (fun c38 => ?_) (fun c38 => ?_)
    · rw [Int32.toInt_toInt64] at c38
      exact hno (Or.inr (Or.inl c38))
    refine Ax_al0 dX2_nextByLow_41 ?_
    refine Ax_getf kfX2 fX2_9 dX2_nextByLow_42 s rfl ?_
    refine Ax_il6 dX2_nextByLow_45 ?_
    refine Ax_ialdn dX2_nextByLow_47 s0 (by omega) (by omega) ?_
    refine Ax_i2l dX2_nextByLow_48 ?_
    refine Ax_ll4 dX2_nextByLow_49 ?_
    refine Ax_lcmp dX2_nextByLow_51 ?_
    refine Ax_ifgeC (tgt := 68) dX2_nextByLow_52 (by decide) (fun c52 => ?_) (fun c52 => ?_)
    · rw [Int32.toInt_toInt64] at c52
      exact hno (Or.inr (Or.inr c52))
    rw [Int32.toInt_toInt64] at c38 c52
    refine Ax_il6 dX2_nextByLow_55 ?_
    refine Ax_is3 dX2_nextByLow_57 (Nat.le_of_ble_eq_true rfl) (by rfl) ?_
    refine Ax_al0 dX2_nextByLow_58 ?_
    refine Ax_getf kfX2 fX2_9 dX2_nextByLow_59 s rfl ?_
    refine Ax_il6 dX2_nextByLow_62 ?_
    refine Ax_ialdn dX2_nextByLow_64 s0 (by omega) (by omega) ?_
    refine Ax_i2l dX2_nextByLow_65 ?_
    refine Ax_ls4 dX2_nextByLow_66 (Nat.le_of_ble_eq_true rfl) (by rfl) ?_
    refine Ax_inc6_1n dX2_nextByLow_68 (Nat.le_of_ble_eq_true rfl) (by rfl) ?_
    refine Ax_goto (tgt := 10) dX2_nextByLow_71 (by decide) ?_
    exact ih (k + 1) (some k) _ (by omega) (hN.new c25 c38 c52)
theorem tX2_set {m : Nat} (hS : vSp h o lo hi tg wt (nI m)) {k : Nat} (hk : k < 24) (low high target weight : Int32) : AM G mX2_set 0 0 [.ref o, .int (nI k), .int low, .int high, .int target, .int weight] h
    (fun r h' => r = none ∧ vSp h' o (upd lo k low) (upd hi k high) (upd tg k target) (upd wt k weight) (nI (if tg k = -1 then m + 1 else m)) ∧ xFr o 5 h h') := by
  obtain ⟨s, s0, s1, s2, s3⟩ := id hS
  refine AM.of rfl rfl (Nat.le_of_ble_eq_true rfl) rfl ?_
  refine Ax_il1 dX2_set_0 ?_
  refine Ax_ifltn (tgt := 10) dX2_set_1 (by decide) (by omega) ?_
  refine Ax_il1 dX2_set_4 ?_
  refine Ax_bp24 dX2_set_5 ?_
  refine Ax_cmpltn (tgt := 11) dX2_set_7 (by decide) (by omega) (by omega) (fun c7 => ?_) (fun c7 => ?_)
  · have hrest : ∀ (h1 : xH) (m1 : Nat), vSp h1 o lo hi tg wt (nI m1) → m1 = (if tg k = -1 then m + 1 else m) → xFr o 5 h h1 → Ax G mX2_set 0 0 31 [.ref o, .int (nI k), .int low, .int high, .int target, .int weight] [] h1 (fun r h' => r = none ∧ vSp h' o (upd lo k low) (upd hi k high) (upd tg k target) (upd wt k weight) (nI (if tg k = -1 then m + 1 else m)) ∧ xFr o 5 h h') := by
      intro h1 m1 hS1 hm hF
      obtain ⟨s, s0, s1, s2, s3⟩ := hS1
      have fr : ∀ q, (q < o ∨ o + 5 ≤ q) → h1.1 q = h1.1 q := fun _ _ => rfl
      have zr : h1.2 = h1.2 := rfl
      refine Ax_al0 dX2_set_31 ?_
      refine Ax_getf kfX2 fX2_9 dX2_set_32 s rfl ?_
      refine Ax_il1 dX2_set_35 ?_
      refine Ax_il2 dX2_set_36 ?_
      refine Ax_iastn dX2_set_37 s0 (by omega) (by omega) (Ax_up (fun h11 e11 f11 z11 => ?_))
      replace s := (f11 _ (by omega)).trans s
      replace s0 := e11
      replace s1 := (f11 _ (by omega)).trans s1
      replace s2 := (f11 _ (by omega)).trans s2
      replace s3 := (f11 _ (by omega)).trans s3
      replace fr : ∀ q, (q < o ∨ o + 5 ≤ q) → h11.1 q = h1.1 q := fun q hq => (f11 q (by omega)).trans (fr q hq)
      replace zr := z11.trans zr
      refine Ax_al0 dX2_set_38 ?_
      refine Ax_getf kfX2 fX2_15 dX2_set_39 s rfl ?_
      refine Ax_il1 dX2_set_42 ?_
      refine Ax_il3 dX2_set_43 ?_
      refine Ax_iastn dX2_set_44 s1 (by omega) (by omega) (Ax_up (fun h12 e12 f12 z12 => ?_))
      replace s := (f12 _ (by omega)).trans s
      replace s0 := (f12 _ (by omega)).trans s0
      replace s1 := e12
      replace s2 := (f12 _ (by omega)).trans s2
      replace s3 := (f12 _ (by omega)).trans s3
      replace fr : ∀ q, (q < o ∨ o + 5 ≤ q) → h12.1 q = h1.1 q := fun q hq => (f12 q (by omega)).trans (fr q hq)
      replace zr := z12.trans zr
      refine Ax_al0 dX2_set_45 ?_
      refine Ax_getf kfX2 fX2_18 dX2_set_46 s rfl ?_
      refine Ax_il1 dX2_set_49 ?_
      refine Ax_il4 dX2_set_50 ?_
      refine Ax_iastn dX2_set_52 s2 (by omega) (by omega) (Ax_up (fun h13 e13 f13 z13 => ?_))
      replace s := (f13 _ (by omega)).trans s
      replace s0 := (f13 _ (by omega)).trans s0
      replace s1 := (f13 _ (by omega)).trans s1
      replace s2 := e13
      replace s3 := (f13 _ (by omega)).trans s3
      replace fr : ∀ q, (q < o ∨ o + 5 ≤ q) → h13.1 q = h1.1 q := fun q hq => (f13 q (by omega)).trans (fr q hq)
      replace zr := z13.trans zr
      refine Ax_al0 dX2_set_53 ?_
      refine Ax_getf kfX2 fX2_21 dX2_set_54 s rfl ?_
      refine Ax_il1 dX2_set_57 ?_
      refine Ax_il5 dX2_set_58 ?_
      refine Ax_iastn dX2_set_60 s3 (by omega) (by omega) (Ax_up (fun h14 e14 f14 z14 => ?_))
      replace s := (f14 _ (by omega)).trans s
      replace s0 := (f14 _ (by omega)).trans s0
      replace s1 := (f14 _ (by omega)).trans s1
      replace s2 := (f14 _ (by omega)).trans s2
      replace s3 := e14
      replace fr : ∀ q, (q < o ∨ o + 5 ≤ q) → h14.1 q = h1.1 q := fun q hq => (f14 q (by omega)).trans (fr q hq)
      replace zr := z14.trans zr
      exact Ax_ret dX2_set_61 rfl ⟨rfl, ⟨by rw [← hm]; exact s, s0, s1, s2, s3⟩, hF.tr ⟨fr, zr⟩⟩
    refine Ax_al0 dX2_set_11 ?_
    refine Ax_getf kfX2 fX2_18 dX2_set_12 s rfl ?_
    refine Ax_il1 dX2_set_15 ?_
    refine Ax_ialdn dX2_set_16 s2 (by omega) (by omega) ?_
    refine Ax_icm1 dX2_set_17 ?_
    refine Ax_cmpne (tgt := 31) dX2_set_18 (by decide) (fun c18 => ?_) (fun c18 => ?_)
    · exact hrest h m hS (by rw [if_neg c18]) xFr.rf
    · have fr : ∀ q, (q < o ∨ o + 5 ≤ q) → h.1 q = h.1 q := fun _ _ => rfl
      have zr : h.2 = h.2 := rfl
      refine Ax_al0 dX2_set_21 ?_
      refine Ax_dup dX2_set_22 rfl ?_
      refine Ax_getf kfX2 fX2_24 dX2_set_23 s rfl ?_
      refine Ax_ic1 dX2_set_26 ?_
      refine Ax_iaddn dX2_set_27 ?_
      refine Ax_putf kfX2 fX2_24 dX2_set_28 s (Nat.le_of_ble_eq_true rfl) (Or.inl rfl) (by rfl) (by rfl) (Ax_up (fun h1 e1 f1 z1 => ?_))
      replace s := e1
      replace s0 := (f1 _ (by omega)).trans s0
      replace s1 := (f1 _ (by omega)).trans s1
      replace s2 := (f1 _ (by omega)).trans s2
      replace s3 := (f1 _ (by omega)).trans s3
      replace fr : ∀ q, (q < o ∨ o + 5 ≤ q) → h1.1 q = h.1 q := fun q hq => (f1 q (by omega)).trans (fr q hq)
      replace zr := z1.trans zr
      exact hrest _ (m + 1) ⟨s, s0, s1, s2, s3⟩ (by rw [if_pos c18]) ⟨fr, zr⟩
  · omega
theorem tX2_free {m : Nat} (hS : vSp h o lo hi tg wt (nI (m + 1))) {k : Nat} (hk : k < 24) (hb : tg k ≠ -1) : AM G mX2_free 1 0 [.ref o, .int (nI k)] h
    (fun r h' => r = none ∧ vSp h' o lo hi (upd tg k (-1)) wt (nI m) ∧ xFr o 5 h h') := by
  obtain ⟨s, s0, s1, s2, s3⟩ := id hS
  refine AM.of rfl rfl (Nat.le_of_ble_eq_true rfl) rfl ?_
  refine Ax_al0 dX2_free_0 ?_
  refine Ax_il1 dX2_free_1 ?_
  refine Ax_cVi dX2_free_2 vX2_34 kfX2 s (tX2_has hS (nI k)) rfl rfl (by decide) (by simp [Value.category]) ?_
  refine Ax_ifeqB (tgt := 25) dX2_free_5 (by decide) (fun c5 => ?_) (fun c5 => ?_)
  · rw [gHas_n hk, bne_iff_ne.mpr hb] at c5
    cases c5
  · have fr : ∀ q, (q < o ∨ o + 5 ≤ q) → h.1 q = h.1 q := fun _ _ => rfl
    have zr : h.2 = h.2 := rfl
    refine Ax_al0 dX2_free_8 ?_
    refine Ax_getf kfX2 fX2_18 dX2_free_9 s rfl ?_
    refine Ax_il1 dX2_free_12 ?_
    refine Ax_icm1 dX2_free_13 ?_
    refine Ax_iastn dX2_free_14 s2 (by omega) (by omega) (Ax_up (fun h1 e1 f1 z1 => ?_))
    replace s := (f1 _ (by omega)).trans s
    replace s0 := (f1 _ (by omega)).trans s0
    replace s1 := (f1 _ (by omega)).trans s1
    replace s2 := e1
    replace s3 := (f1 _ (by omega)).trans s3
    replace fr : ∀ q, (q < o ∨ o + 5 ≤ q) → h1.1 q = h.1 q := fun q hq => (f1 q (by omega)).trans (fr q hq)
    replace zr := z1.trans zr
    refine Ax_al0 dX2_free_15 ?_
    refine Ax_dup dX2_free_16 rfl ?_
    refine Ax_getf kfX2 fX2_24 dX2_free_17 s rfl ?_
    refine Ax_ic1 dX2_free_20 ?_
    refine Ax_isubn dX2_free_21 (by omega) ?_
    refine Ax_putf kfX2 fX2_24 dX2_free_22 s (Nat.le_of_ble_eq_true rfl) (Or.inl rfl) (by rfl) (by rfl) (Ax_up (fun h2 e2 f2 z2 => ?_))
    replace s := e2
    replace s0 := (f2 _ (by omega)).trans s0
    replace s1 := (f2 _ (by omega)).trans s1
    replace s2 := (f2 _ (by omega)).trans s2
    replace s3 := (f2 _ (by omega)).trans s3
    replace fr : ∀ q, (q < o ∨ o + 5 ≤ q) → h2.1 q = h.1 q := fun q hq => (f2 q (by omega)).trans (fr q hq)
    replace zr := z2.trans zr
    exact Ax_ret dX2_free_25 rfl ⟨rfl, ⟨s, s0, s1, s2, s3⟩, fr, zr⟩
end
