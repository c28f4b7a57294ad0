section
variable {G : xG} {h : xH} {o : Nat} {R : List Run}
theorem row_lt {x b : Nat} (hx : x < 2 ^ 64) (hb : b < 64) : x ||| 2 ^ b < 2 ^ 64 := Nat.or_lt_two_pow hx (Nat.pow_lt_pow_right (by decide) hb)
theorem tX2_rowOfBits (hV : vRuns h o R) (hl : R.length ≤ 24) (hI : RInv R) {f n t : Nat} (hn : f + n < R.length) (ht : t < 16) (hw : (rhi R (f + n)).toInt - (rlo R f).toInt < 64) : AM G mX2_rowOfBits 1 0 [.ref o, .int (nI f), .int (nI (f + n)), .int (nI t)] h (fun r h' => ∃ x, r = some (.long x) ∧ (∃ z, x = lN z ∧ IsRow R f (n + 1) t z) ∧ h' = h) := by
  obtain ⟨lo, hi, tg, wt, hS, hR, -⟩ := id hV
  obtain ⟨s, s0, s1, s2, s3⟩ := id hS
  refine AM.of rfl rfl (Nat.le_of_ble_eq_true rfl) rfl ?_
  refine Ax_il1 dX2_rowOfBits_0 ?_
  refine Ax_ifltn (tgt := 10) dX2_rowOfBits_1 (by decide) (by omega) ?_
  refine Ax_il1 dX2_rowOfBits_4 ?_
  refine Ax_bp24 dX2_rowOfBits_5 ?_
  refine Ax_cmpltn (tgt := 12) dX2_rowOfBits_7 (by decide) (by omega) (by omega) (fun c7 => ?_) (fun c7 => ?_)
  rotate_left
  · omega
  refine Ax_lc0 dX2_rowOfBits_12 ?_
  refine Ax_ls4 dX2_rowOfBits_13 (Nat.le_of_ble_eq_true rfl) (by rfl) ?_
  refine Ax_il1 dX2_rowOfBits_15 ?_
  refine Ax_is6 dX2_rowOfBits_16 (Nat.le_of_ble_eq_true rfl) (by rfl) ?_
  suffices hloop : ∀ m k x, k + m = n + 1 → IsRow R f k t x → Ax G mX2_rowOfBits 1 0 18 [.ref o, .int (nI f), .int (nI (f + n)), .int (nI t), .long (lN x), .null, .int (nI (f + k)), .null, .null, .null, .null, .null, .null] [] h (fun r h' => ∃ x, r = some (.long x) ∧ (∃ z, x = lN z ∧ IsRow R f (n + 1) t z) ∧ h' = h) from hloop (n + 1) 0 0 (by omega) ⟨by decide, fun b hb => by
    constructor
    · intro q; simp at q
    · rintro ⟨k, h1, h2, -⟩; omega⟩
  intro m
  induction m with
  | zero =>
    intro k x hk hx
    obtain rfl : k = n + 1 := by omega
    refine Ax_il6 dX2_rowOfBits_18 ?_
    refine Ax_il2 dX2_rowOfBits_20 ?_
    refine Ax_cmpgtn (tgt := 121) dX2_rowOfBits_21 (by decide) (by omega) (by omega) (fun c21 => ?_) (fun c21 => ?_)
    · refine Ax_ll4 dX2_rowOfBits_121 ?_
      exact Ax_lret dX2_rowOfBits_123 rfl ⟨_, rfl, ⟨x, rfl, hx⟩, rfl⟩
    · omega
  | succ m ih =>
    intro k x hk hx
    have hfk : f + k < R.length := by omega
    have hnx : ∀ x' v7 v8 v9 v10 v11 v12, IsRow R f (k + 1) t x' → Ax G mX2_rowOfBits 1 0 115 [.ref o, .int (nI f), .int (nI (f + n)), .int (nI t), .long (lN x'), .null, .int (nI (f + k)), v7, v8, v9, v10, v11, v12] [] h (fun r h' => ∃ x, r = some (.long x) ∧ (∃ z, x = lN z ∧ IsRow R f (n + 1) t z) ∧ h' = h) := by
      intro x' v7 v8 v9 v10 v11 v12 hx'
      refine Ax_inc6_1n dX2_rowOfBits_115 (Nat.le_of_ble_eq_true rfl) (by rfl) ?_
      refine Ax_goto (tgt := 18) dX2_rowOfBits_118 (by decide) ?_
      refine Ax_L (L' := [.ref o, .int (nI f), .int (nI (f + n)), .int (nI t), .long (lN x'), .null, .int (nI (f + (k + 1))), .null, .null, .null, .null, .null, .null]) (by simp [x_sub]; rfl) ?_
      exact ih (k + 1) x' (by omega) hx'
    obtain ⟨r1, r2, r3, -⟩ := hR (f + k) hfk
    obtain ⟨f1, -, -, -⟩ := hR f (by omega)
    have i1 := I_lo (rlo R (f + k)); have i2 := I_hi (rlo R (f + k)); have i3 := I_lo (rhi R (f + k)); have i4 := I_hi (rhi R (f + k)); have i5 := I_lo (rlo R f); have i6 := I_hi (rlo R f)
    have m1 := rlo_mono hI k f hfk
    have m2 := (hI.1 (f + k) hfk).1
    have m3 : (rhi R (f + k)).toInt ≤ (rhi R (f + n)).toInt := by
      by_cases hkn : k = n
      · subst hkn; exact Int.le_refl _
      · have q1 := hI.2 (f + k) (by omega)
        have q2 := rlo_mono hI (n - k - 1) (f + k + 1) (by omega)
        rw [show f + k + 1 + (n - k - 1) = f + n by omega] at q2
        have q3 := (hI.1 (f + n) (by omega)).1
        omega
    refine Ax_il6 dX2_rowOfBits_18 ?_
    refine Ax_il2 dX2_rowOfBits_20 ?_
    refine Ax_cmpgtn (tgt := 121) dX2_rowOfBits_21 (by decide) (by omega) (by omega) (fun c21 => ?_) (fun c21 => ?_)
    · omega
    refine Ax_il6 dX2_rowOfBits_24 ?_
    refine Ax_bp24 dX2_rowOfBits_26 ?_
    refine Ax_cmpgen (tgt := 121) dX2_rowOfBits_28 (by decide) (by omega) (by omega) (fun c28 => ?_) (fun c28 => ?_)
    · omega
    refine Ax_al0 dX2_rowOfBits_31 ?_
    refine Ax_getf kfX2 fX2_18 dX2_rowOfBits_32 s rfl ?_
    refine Ax_il6 dX2_rowOfBits_35 ?_
    refine Ax_ialdn dX2_rowOfBits_37 s2 (by omega) (by omega) ?_
    refine Ax_top r3 ?_
    refine Ax_il3 dX2_rowOfBits_38 ?_
    refine Ax_cmpne (tgt := 115) dX2_rowOfBits_39 (by decide) (fun c39 => ?_) (fun c39 => ?_)
    · refine hnx x _ _ _ _ _ _ ⟨hx.1, fun b hb => (hx.2 b hb).trans ?_⟩
      constructor
      · rintro ⟨q, h1, h2, h3⟩; exact ⟨q, h1, by omega, h3⟩
      · rintro ⟨q, h1, h2, h3, h4⟩
        by_cases hq : q = f + k
        · subst hq; rw [h3] at c39; exact absurd rfl c39
        · exact ⟨q, h1, by omega, h3, h4⟩
    have hrt : rtg R (f + k) = t := (nI_eq (by have := (hI.1 (f + k) hfk).2; omega) (by omega)).mp c39
    obtain ⟨a, ha⟩ : ∃ a : Nat, (a : Int) = (rlo R (f + k)).toInt - (rlo R f).toInt := ⟨((rlo R (f + k)).toInt - (rlo R f).toInt).toNat, by omega⟩
    obtain ⟨e, he⟩ : ∃ e : Nat, (e : Int) = (rhi R (f + k)).toInt - (rlo R f).toInt := ⟨((rhi R (f + k)).toInt - (rlo R f).toInt).toNat, by omega⟩
    have e1 : (lo (f + k)).toInt64 - (lo f).toInt64 = lN a := by
      refine L_of ?_ (by omega)
      rw [r1, f1, L_sub (by rw [Int32.toInt_toInt64, Int32.toInt_toInt64]; omega) (by rw [Int32.toInt_toInt64, Int32.toInt_toInt64]; omega), Int32.toInt_toInt64, Int32.toInt_toInt64, ha]
    have e2 : (hi (f + k)).toInt64 - (lo f).toInt64 = lN e := by
      refine L_of ?_ (by omega)
      rw [r2, f1, L_sub (by rw [Int32.toInt_toInt64, Int32.toInt_toInt64]; omega) (by rw [Int32.toInt_toInt64, Int32.toInt_toInt64]; omega), Int32.toInt_toInt64, Int32.toInt_toInt64, he]
    have e3 : (if (63 : Int64) < lN e then (63 : Int64) else lN e) = lN e := by
      rw [if_neg]
      rw [Int64.lt_iff_toInt_lt, L_lN (by omega)]
      have : (63 : Int64).toInt = 63 := by decide
      omega
    refine Ax_al0 dX2_rowOfBits_42 ?_
    refine Ax_getf kfX2 fX2_9 dX2_rowOfBits_43 s rfl ?_
    refine Ax_il6 dX2_rowOfBits_46 ?_
    refine Ax_ialdn dX2_rowOfBits_48 s0 (by omega) (by omega) ?_
    refine Ax_i2l dX2_rowOfBits_49 ?_
    refine Ax_al0 dX2_rowOfBits_50 ?_
    refine Ax_getf kfX2 fX2_9 dX2_rowOfBits_51 s rfl ?_
    refine Ax_il1 dX2_rowOfBits_54 ?_
    refine Ax_ialdn dX2_rowOfBits_55 s0 (by omega) (by omega) ?_
    refine Ax_i2l dX2_rowOfBits_56 ?_
    refine Ax_lsub dX2_rowOfBits_57 ?_
    refine Ax_topL e1 ?_
    refine Ax_ls7 dX2_rowOfBits_58 (Nat.le_of_ble_eq_true rfl) (by rfl) ?_
    refine Ax_al0 dX2_rowOfBits_60 ?_
    refine Ax_getf kfX2 fX2_15 dX2_rowOfBits_61 s rfl ?_
    refine Ax_il6 dX2_rowOfBits_64 ?_
    refine Ax_ialdn dX2_rowOfBits_66 s1 (by omega) (by omega) ?_
    refine Ax_i2l dX2_rowOfBits_67 ?_
    refine Ax_al0 dX2_rowOfBits_68 ?_
    refine Ax_getf kfX2 fX2_9 dX2_rowOfBits_69 s rfl ?_
    refine Ax_il1 dX2_rowOfBits_72 ?_
    refine Ax_ialdn dX2_rowOfBits_73 s0 (by omega) (by omega) ?_
    refine Ax_i2l dX2_rowOfBits_74 ?_
    refine Ax_lsub dX2_rowOfBits_75 ?_
    refine Ax_topL e2 ?_
    refine Ax_ldc2 dX2_rowOfBits_76 cX2_74 ?_
    refine Ax_mminL dX2_rowOfBits_79 sX2_76 (by decide) (by simp [Value.category]) ?_
    refine Ax_topL e3 ?_
    refine Ax_ls9 dX2_rowOfBits_82 (Nat.le_of_ble_eq_true rfl) (by rfl) ?_
    refine Ax_ll7 dX2_rowOfBits_84 ?_
    refine Ax_ls11 dX2_rowOfBits_86 (Nat.le_of_ble_eq_true rfl) (by rfl) ?_
    suffices hin : ∀ w j x', w + j = e + 1 - a → x' < 2 ^ 64 → (∀ b, b < 64 → (x'.testBit b = true ↔ (x.testBit b = true ∨ (a ≤ b ∧ b < a + j)))) → Ax G mX2_rowOfBits 1 0 88 [.ref o, .int (nI f), .int (nI (f + n)), .int (nI t), .long (lN x'), .null, .int (nI (f + k)), .long (lN a), .null, .long (lN e), .null, .long (lN (a + j)), .null] [] h (fun r h' => ∃ x, r = some (.long x) ∧ (∃ z, x = lN z ∧ IsRow R f (n + 1) t z) ∧ h' = h) from hin (e + 1 - a) 0 x (by omega) hx.1 (fun b hb => by constructor; exact Or.inl; (rintro (q | q); exact q; omega))
    intro w
    induction w with
    | zero =>
      intro j x' hw1 hx1 hx2
      have eL := L_lN (n := e) (by omega)
      have aL := L_lN (n := a + j) (by omega)
      refine Ax_ll11 dX2_rowOfBits_88 ?_
      refine Ax_ll9 dX2_rowOfBits_90 ?_
      refine Ax_lcmp dX2_rowOfBits_92 ?_
      refine Ax_ifgtC (tgt := 115) dX2_rowOfBits_93 (by decide) (fun c93 => ?_) (fun c93 => ?_)
      · refine hnx x' _ _ _ _ _ _ ⟨hx1, fun b hb => (hx2 b hb).trans ?_⟩
        constructor
        · rintro (q | ⟨q1, q2⟩)
          · obtain ⟨q, h1, h2, h3⟩ := (hx.2 b hb).mp q
            exact ⟨q, h1, by omega, h3⟩
          · exact ⟨f + k, by omega, by omega, hrt, by omega, by omega⟩
        · rintro ⟨q, h1, h2, h3, h4, h5⟩
          by_cases hq : q = f + k
          · subst hq; right; omega
          · left; exact (hx.2 b hb).mpr ⟨q, h1, by omega, h3, h4, h5⟩
      · omega
    | succ w ihw =>
      intro j x' hw1 hx1 hx2
      have eL := L_lN (n := e) (by omega)
      have aL := L_lN (n := a + j) (by omega)
      have e4 : lN x' ||| (lN 1 <<< ((nI (a + j)).toInt64 &&& 63)) = lN (x' ||| 2 ^ (a + j)) := by
        rw [wb_shl 1 (by omega), Nat.one_mul, wb_or hx1 (Nat.pow_lt_pow_right (by decide) (by omega))]
      refine Ax_ll11 dX2_rowOfBits_88 ?_
      refine Ax_ll9 dX2_rowOfBits_90 ?_
      refine Ax_lcmp dX2_rowOfBits_92 ?_
      refine Ax_ifgtC (tgt := 115) dX2_rowOfBits_93 (by decide) (fun c93 => ?_) (fun c93 => ?_)
      · omega
      refine Ax_ll4 dX2_rowOfBits_96 ?_
      refine Ax_lc1 dX2_rowOfBits_98 ?_
      refine Ax_ll11 dX2_rowOfBits_99 ?_
      refine Ax_l2in dX2_rowOfBits_101 ?_
      refine Ax_lshl dX2_rowOfBits_102 ?_
      refine Ax_lor dX2_rowOfBits_103 ?_
      refine Ax_topL e4 ?_
      refine Ax_ls4 dX2_rowOfBits_104 (Nat.le_of_ble_eq_true rfl) (by rfl) ?_
      refine Ax_ll11 dX2_rowOfBits_106 ?_
      refine Ax_lc1 dX2_rowOfBits_108 ?_
      refine Ax_laddn dX2_rowOfBits_109 ?_
      refine Ax_ls11 dX2_rowOfBits_110 (Nat.le_of_ble_eq_true rfl) (by rfl) ?_
      refine Ax_goto (tgt := 88) dX2_rowOfBits_112 (by decide) ?_
      refine ihw (j + 1) _ (by omega) (row_lt hx1 (by omega)) (fun b hb => ?_)
      rw [Nat.testBit_or, Bool.or_eq_true, hx2 b hb, Nat.testBit_two_pow, decide_eq_true_eq]
      constructor
      · rintro ((q | q) | q)
        · exact Or.inl q
        · right; omega
        · right; omega
      · rintro (q | q)
        · exact Or.inl (Or.inl q)
        · by_cases hq : b = a + j
          · right; omega
          · left; right; omega
end
