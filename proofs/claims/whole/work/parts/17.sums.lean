/-! sums over runs; the row of bits of a target -/
def wid (R : List Run) (k : Nat) : Nat := ((rhi R k).toInt - (rlo R k).toInt + 1).toNat
def off (R : List Run) (f : Nat) (x : Int32) : Int := x.toInt - (rlo R f).toInt
/-- bit b of the row of target t: b lies in a run f .. f + n - 1 of target t, from the first low on -/
def bitP (R : List Run) (f n t b : Nat) : Prop := ∃ k, f ≤ k ∧ k < f + n ∧ rtg R k = t ∧ (rlo R k).toInt - (rlo R f).toInt ≤ b ∧ (b : Int) ≤ (rhi R k).toInt - (rlo R f).toInt
def IsRow (R : List Run) (f n t x : Nat) : Prop := x < 2 ^ 64 ∧ ∀ b, b < 64 → (x.testBit b = true ↔ bitP R f n t b)
theorem IsRow.eq {R : List Run} {f n t x y : Nat} (h1 : IsRow R f n t x) (h2 : IsRow R f n t y) : x = y := by
  apply Nat.eq_of_testBit_eq
  intro b
  by_cases hb : b < 64
  · have := (h1.2 b hb).trans (h2.2 b hb).symm
    cases hx : x.testBit b <;> cases hy : y.testBit b <;> simp_all
  · rw [Nat.testBit_lt_two_pow (Nat.lt_of_lt_of_le h1.1 (Nat.pow_le_pow_right (by decide) (by omega))), Nat.testBit_lt_two_pow (Nat.lt_of_lt_of_le h2.1 (Nat.pow_le_pow_right (by decide) (by omega)))]
theorem rlo_mono {R : List Run} (hI : RInv R) : ∀ (n j : Nat), j + n < R.length → (rlo R j).toInt ≤ (rlo R (j + n)).toInt
  | 0, _, _ => Int.le_refl _
  | n + 1, j, h => by
    have h1 := rlo_mono hI n j (by omega)
    have h2 := (hI.1 (j + n) (by omega)).1
    have h3 := hI.2 (j + n) (by omega)
    rw [← Nat.add_assoc]
    omega
section
variable {G : xG} {h : xH} {o : Nat} {R : List Run}
theorem tX2_unlikeTargets (hV : vRuns h o R) (hl : R.length ≤ 24) (hI : RInv R) {f n : Nat} (hn : f + n < R.length) : AM G mX2_unlikeTargets 1 0 [.ref o, .int (nI f), .int (nI (f + n))] h (fun r h' => r = some (.int (nI (dcnt (rtg R) f (n + 1)))) ∧ h' = h) := by
  have s := hV.obj
  have hT : ∀ m, m ≤ n + 1 → ∀ q, f ≤ q → q < f + m → rtg R q < 16 := fun m hm q h1 h2 => (hI.1 q (by omega)).2
  refine AM.of rfl rfl (Nat.le_of_ble_eq_true rfl) rfl ?_
  refine Ax_ic0 dX2_unlikeTargets_0 ?_
  refine Ax_is3 dX2_unlikeTargets_1 (Nat.le_of_ble_eq_true rfl) (by rfl) ?_
  refine Ax_il1 dX2_unlikeTargets_2 ?_
  refine Ax_is4 dX2_unlikeTargets_3 (Nat.le_of_ble_eq_true rfl) (by rfl) ?_
  suffices hloop : ∀ m k, k + m = n + 1 → Ax G mX2_unlikeTargets 1 0 5 [.ref o, .int (nI f), .int (nI (f + n)), .int (nI (seenN (rtg R) f k)), .int (nI (f + k))] [] h (fun r h' => r = some (.int (nI (dcnt (rtg R) f (n + 1)))) ∧ h' = h) from hloop (n + 1) 0 (by omega)
  intro m
  induction m with
  | zero =>
    intro k hk
    obtain rfl : k = n + 1 := by omega
    have hseen := seen_lt (n + 1) (hT (n + 1) (Nat.le_refl _))
    rw [← dcnt_pop (n + 1) (hT (n + 1) (Nat.le_refl _))]
    refine Ax_il4 dX2_unlikeTargets_5 ?_
    refine Ax_il2 dX2_unlikeTargets_7 ?_
    refine Ax_cmpgtn (tgt := 35) dX2_unlikeTargets_8 (by decide) (by omega) (by omega) (fun c8 => ?_) (fun c8 => ?_)
    · refine Ax_il3 dX2_unlikeTargets_35 ?_
      refine Ax_cSi dX2_unlikeTargets_36 sX2_69 (tJ6_bitCount hseen) rfl rfl (by decide) (by simp [Value.category]) ?_
      exact Ax_iret dX2_unlikeTargets_39 rfl rfl ⟨rfl, rfl⟩
    · omega
  | succ m ih =>
    intro k hk
    refine Ax_il4 dX2_unlikeTargets_5 ?_
    refine Ax_il2 dX2_unlikeTargets_7 ?_
    refine Ax_cmpgtn (tgt := 35) dX2_unlikeTargets_8 (by decide) (by omega) (by omega) (fun c8 => ?_) (fun c8 => ?_)
    · omega
    refine Ax_il4 dX2_unlikeTargets_11 ?_
    refine Ax_bp24 dX2_unlikeTargets_13 ?_
    refine Ax_cmpgen (tgt := 35) dX2_unlikeTargets_15 (by decide) (by omega) (by omega) (fun c15 => ?_) (fun c15 => ?_)
    · omega
    have e : nI (seenN (rtg R) f k) ||| (nI 1 <<< (nI (rtg R (f + k)) &&& 31)) = nI (seenN (rtg R) f (k + 1)) := by
      have ht := (hI.1 (f + k) (by omega)).2
      rw [pk_shlN (n := 1) (nI (rtg R (f + k)) &&& 31) (rtg R (f + k)) (by
        have : ∀ j, j < 16 → ((nI j &&& 31).toBitVec.smod 32).toNat = j := by decide
        exact this _ ht) (by rw [Nat.one_mul]; exact Nat.lt_of_lt_of_le (Nat.pow_lt_pow_right (by decide) ht) (by decide)), fa_or, Nat.one_mul]
      rfl
    refine Ax_il3 dX2_unlikeTargets_18 ?_
    refine Ax_ic1 dX2_unlikeTargets_19 ?_
    refine Ax_al0 dX2_unlikeTargets_20 ?_
    refine Ax_il4 dX2_unlikeTargets_21 ?_
    refine Ax_cVi dX2_unlikeTargets_23 vX2_48 kfX2 s (tR_target hV hl (k := f + k) (by omega)) rfl rfl (by decide) (by simp [Value.category]) ?_
    refine Ax_ishl dX2_unlikeTargets_26 ?_
    refine Ax_ior dX2_unlikeTargets_27 ?_
    refine Ax_top e ?_
    refine Ax_is3 dX2_unlikeTargets_28 (Nat.le_of_ble_eq_true rfl) (by rfl) ?_
    refine Ax_inc4_1n dX2_unlikeTargets_29 (Nat.le_of_ble_eq_true rfl) (by rfl) ?_
    refine Ax_goto (tgt := 5) dX2_unlikeTargets_32 (by decide) ?_
    exact ih (k + 1) (by omega)
theorem tX2_intsIn (hV : vRuns h o R) (hl : R.length ≤ 24) (hI : RInv R) {f n : Nat} (hn : f + n < R.length) : AM G mX2_intsIn 1 0 [.ref o, .int (nI f), .int (nI (f + n))] h (fun r h' => r = some (.long (lN (sm (wid R) f (n + 1)))) ∧ h' = h) := by
  have s := hV.obj
  refine AM.of rfl rfl (Nat.le_of_ble_eq_true rfl) rfl ?_
  refine Ax_lc0 dX2_intsIn_0 ?_
  refine Ax_ls3 dX2_intsIn_1 (Nat.le_of_ble_eq_true rfl) (by rfl) ?_
  refine Ax_il1 dX2_intsIn_2 ?_
  refine Ax_is5 dX2_intsIn_3 (Nat.le_of_ble_eq_true rfl) (by rfl) ?_
  suffices hloop : ∀ m k, k + m = n + 1 → Ax G mX2_intsIn 1 0 5 [.ref o, .int (nI f), .int (nI (f + n)), .long (lN (sm (wid R) f k)), .null, .int (nI (f + k))] [] h (fun r h' => r = some (.long (lN (sm (wid R) f (n + 1)))) ∧ h' = h) from hloop (n + 1) 0 (by omega)
  intro m
  induction m with
  | zero =>
    intro k hk
    obtain rfl : k = n + 1 := by omega
    refine Ax_il5 dX2_intsIn_5 ?_
    refine Ax_il2 dX2_intsIn_7 ?_
    refine Ax_cmpgtn (tgt := 44) dX2_intsIn_8 (by decide) (by omega) (by omega) (fun c8 => ?_) (fun c8 => ?_)
    · refine Ax_ll3 dX2_intsIn_44 ?_
      exact Ax_lret dX2_intsIn_45 rfl ⟨rfl, rfl⟩
    · omega
  | succ m ih =>
    intro k hk
    refine Ax_il5 dX2_intsIn_5 ?_
    refine Ax_il2 dX2_intsIn_7 ?_
    refine Ax_cmpgtn (tgt := 44) dX2_intsIn_8 (by decide) (by omega) (by omega) (fun c8 => ?_) (fun c8 => ?_)
    · omega
    refine Ax_il5 dX2_intsIn_11 ?_
    refine Ax_bp24 dX2_intsIn_13 ?_
    refine Ax_cmpgen (tgt := 44) dX2_intsIn_15 (by decide) (by omega) (by omega) (fun c15 => ?_) (fun c15 => ?_)
    · omega
    have e : (rhi R (f + k)).toInt64 - (rlo R (f + k)).toInt64 + lN 1 = lN (wid R (f + k)) := by
      have h1 := I_lo (rhi R (f + k)); have h2 := I_hi (rhi R (f + k)); have h3 := I_lo (rlo R (f + k)); have h4 := I_hi (rlo R (f + k))
      have h5 := (hI.1 (f + k) (by omega)).1
      have e1 : ((rhi R (f + k)).toInt64 - (rlo R (f + k)).toInt64).toInt = (rhi R (f + k)).toInt - (rlo R (f + k)).toInt := by
        rw [L_sub (by rw [Int32.toInt_toInt64, Int32.toInt_toInt64]; omega) (by rw [Int32.toInt_toInt64, Int32.toInt_toInt64]; omega), Int32.toInt_toInt64, Int32.toInt_toInt64]
      refine L_of ?_ (by unfold wid; omega)
      rw [L_add (by rw [e1, L_1]; omega) (by rw [e1, L_1]; omega), e1, L_1]
      unfold wid
      omega
    refine Ax_ll3 dX2_intsIn_18 ?_
    refine Ax_al0 dX2_intsIn_19 ?_
    refine Ax_il5 dX2_intsIn_20 ?_
    refine Ax_cVi dX2_intsIn_22 vX2_55 kfX2 s (tR_high hV hl (k := f + k) (by omega)) rfl rfl (by decide) (by simp [Value.category]) ?_
    refine Ax_i2l dX2_intsIn_25 ?_
    refine Ax_al0 dX2_intsIn_26 ?_
    refine Ax_il5 dX2_intsIn_27 ?_
    refine Ax_cVi dX2_intsIn_29 vX2_52 kfX2 s (tR_low hV hl (k := f + k) (by omega)) rfl rfl (by decide) (by simp [Value.category]) ?_
    refine Ax_i2l dX2_intsIn_32 ?_
    refine Ax_lsub dX2_intsIn_33 ?_
    refine Ax_lc1 dX2_intsIn_34 ?_
    refine Ax_ladd dX2_intsIn_35 ?_
    refine Ax_topL e ?_
    refine Ax_laddn dX2_intsIn_36 ?_
    refine Ax_ls3 dX2_intsIn_37 (Nat.le_of_ble_eq_true rfl) (by rfl) ?_
    refine Ax_inc5_1n dX2_intsIn_38 (Nat.le_of_ble_eq_true rfl) (by rfl) ?_
    refine Ax_goto (tgt := 5) dX2_intsIn_41 (by decide) ?_
    exact ih (k + 1) (by omega)
theorem tX2_weightOf (hV : vRuns h o R) (hl : R.length ≤ 24) {f n : Nat} (hn : f + n < R.length) : AM G mX2_weightOf 1 0 [.ref o, .int (nI f), .int (nI (f + n))] h (fun r h' => r = some (.int (nI (sm (rwt R) f (n + 1)))) ∧ h' = h) := by
  have s := hV.obj
  refine AM.of rfl rfl (Nat.le_of_ble_eq_true rfl) rfl ?_
  refine Ax_ic0 dX2_weightOf_0 ?_
  refine Ax_is3 dX2_weightOf_1 (Nat.le_of_ble_eq_true rfl) (by rfl) ?_
  refine Ax_il1 dX2_weightOf_2 ?_
  refine Ax_is4 dX2_weightOf_3 (Nat.le_of_ble_eq_true rfl) (by rfl) ?_
  suffices hloop : ∀ m k, k + m = n + 1 → Ax G mX2_weightOf 1 0 5 [.ref o, .int (nI f), .int (nI (f + n)), .int (nI (sm (rwt R) f k)), .int (nI (f + k))] [] h (fun r h' => r = some (.int (nI (sm (rwt R) f (n + 1)))) ∧ h' = h) from hloop (n + 1) 0 (by omega)
  intro m
  induction m with
  | zero =>
    intro k hk
    obtain rfl : k = n + 1 := by omega
    refine Ax_il4 dX2_weightOf_5 ?_
    refine Ax_il2 dX2_weightOf_7 ?_
    refine Ax_cmpgtn (tgt := 33) dX2_weightOf_8 (by decide) (by omega) (by omega) (fun c8 => ?_) (fun c8 => ?_)
    · refine Ax_il3 dX2_weightOf_33 ?_
      exact Ax_iret dX2_weightOf_34 rfl rfl ⟨rfl, rfl⟩
    · omega
  | succ m ih =>
    intro k hk
    refine Ax_il4 dX2_weightOf_5 ?_
    refine Ax_il2 dX2_weightOf_7 ?_
    refine Ax_cmpgtn (tgt := 33) dX2_weightOf_8 (by decide) (by omega) (by omega) (fun c8 => ?_) (fun c8 => ?_)
    · omega
    refine Ax_il4 dX2_weightOf_11 ?_
    refine Ax_bp24 dX2_weightOf_13 ?_
    refine Ax_cmpgen (tgt := 33) dX2_weightOf_15 (by decide) (by omega) (by omega) (fun c15 => ?_) (fun c15 => ?_)
    · omega
    refine Ax_il3 dX2_weightOf_18 ?_
    refine Ax_al0 dX2_weightOf_19 ?_
    refine Ax_il4 dX2_weightOf_20 ?_
    refine Ax_cVi dX2_weightOf_22 vX2_58 kfX2 s (tR_weight hV hl (k := f + k) (by omega)) rfl rfl (by decide) (by simp [Value.category]) ?_
    refine Ax_iaddn dX2_weightOf_25 ?_
    refine Ax_is3 dX2_weightOf_26 (Nat.le_of_ble_eq_true rfl) (by rfl) ?_
    refine Ax_inc4_1n dX2_weightOf_27 (Nat.le_of_ble_eq_true rfl) (by rfl) ?_
    refine Ax_goto (tgt := 5) dX2_weightOf_30 (by decide) ?_
    exact ih (k + 1) (by omega)
end
