/-! ChoiceCode: cost, the most steps, count -/
theorem run_ord {R : List Run} (hI : RInv R) {j k : Nat} (hjk : j < k) (hk : k < R.length) : (rhi R j).toInt < (rlo R k).toInt := by
  have h1 := hI.2 j (by omega)
  have h2 := rlo_mono hI (k - (j + 1)) (j + 1) (by omega)
  rw [show j + 1 + (k - (j + 1)) = k by omega] at h2
  omega
theorem seg_in {R : List Run} (hI : RInv R) {x y : Int32} {r : Nat} (hr : r < R.length) (h1 : (rlo R r).toInt ≤ x.toInt) (h2 : x.toInt ≤ (rhi R r).toInt) (g1 : (rlo R r).toInt ≤ y.toInt) (g2 : y.toInt ≤ (rhi R r).toInt) : Seg R x y := by
  intro k hk
  have hkk := (hI.1 k hk).1
  rcases (show k < r ∨ k = r ∨ r < k by omega) with q | q | q
  · have := run_ord hI q hr
    exact ⟨⟨fun w => by omega, fun w => by omega⟩, ⟨fun w => by omega, fun w => by omega⟩⟩
  · subst q
    exact ⟨⟨fun w => by omega, fun w => by omega⟩, ⟨fun w => by omega, fun w => by omega⟩⟩
  · have := run_ord hI q hk
    exact ⟨⟨fun w => by omega, fun w => by omega⟩, ⟨fun w => by omega, fun w => by omega⟩⟩
theorem seg_last {R : List Run} {x : Int32} (hno : ¬ ∃ k, k < R.length ∧ (rlo R k).toInt ≤ x.toInt ∧ x.toInt ≤ (rhi R k).toInt) : ∀ n, n ≤ R.length → (∀ k, k < n → x.toInt < (rlo R k).toInt) ∨ ∃ r, r < n ∧ (rhi R r).toInt < x.toInt ∧ ∀ k, r < k → k < n → x.toInt < (rlo R k).toInt
  | 0, _ => Or.inl (fun k hk => absurd hk (Nat.not_lt_zero _))
  | n + 1, h => by
    by_cases q : (rhi R n).toInt < x.toInt
    · exact Or.inr ⟨n, by omega, q, fun k h1 h2 => by omega⟩
    · have q2 : x.toInt < (rlo R n).toInt := by
        have : ¬ ((rlo R n).toInt ≤ x.toInt ∧ x.toInt ≤ (rhi R n).toInt) := fun w => hno ⟨n, by omega, w⟩
        omega
      rcases seg_last hno n (by omega) with w | ⟨r, w1, w2, w3⟩
      · refine Or.inl (fun k hk => ?_)
        rcases (show k < n ∨ k = n by omega) with z | z
        · exact w k z
        · subst z; exact q2
      · refine Or.inr ⟨r, by omega, w2, fun k h1 h2 => ?_⟩
        rcases (show k < n ∨ k = n by omega) with z | z
        · exact w3 k h1 z
        · subst z; exact q2
theorem I_mn : (-2147483648 : Int32).toInt = -2147483648 := by decide
theorem I_mx : (2147483647 : Int32).toInt = 2147483647 := by decide
theorem I_one : (1 : Int32).toInt = 1 := rfl
theorem I_suc {x : Int32} (h : x.toInt < 2147483647) : (x + 1).toInt = x.toInt + 1 := by
  have := I_lo x
  rw [I_add (by rw [I_one]; omega) (by rw [I_one]; omega), I_one]
theorem seg_pt {R : List Run} (hI : RInv R) (x : Int32) : Seg R x (-2147483648) ∨ ∃ k, k < R.length ∧ (Seg R x (rlo R k) ∨ ((rhi R k).toInt < 2147483647 ∧ Seg R x (rhi R k + 1))) := by
  have hxh := I_hi x
  have hxl := I_lo x
  by_cases hno : ∃ k, k < R.length ∧ (rlo R k).toInt ≤ x.toInt ∧ x.toInt ≤ (rhi R k).toInt
  · obtain ⟨k, h1, h2, h3⟩ := hno
    exact Or.inr ⟨k, h1, Or.inl (seg_in hI h1 h2 h3 (by omega) (by omega))⟩
  · rcases seg_last hno R.length (Nat.le_refl _) with w | ⟨r, w1, w2, w3⟩
    · left
      intro k hk
      have h1 := w k hk
      have h2 := (hI.1 k hk).1
      have h3 := I_lo (rhi R k)
      rw [I_mn]
      exact ⟨⟨fun _ => by omega, fun _ => h1⟩, ⟨fun q => by omega, fun q => by omega⟩⟩
    · right
      refine ⟨r, w1, Or.inr ⟨by omega, ?_⟩⟩
      intro k hk
      have h2 := (hI.1 k hk).1
      have e := I_suc (x := rhi R r) (by omega)
      rw [e]
      rcases (show k < r ∨ k = r ∨ r < k by omega) with q | q | q
      · have := run_ord hI q w1
        have := (hI.1 r w1).1
        exact ⟨⟨fun z => by omega, fun z => by omega⟩, ⟨fun z => by omega, fun z => by omega⟩⟩
      · subst q
        exact ⟨⟨fun z => by omega, fun z => by omega⟩, ⟨fun z => by omega, fun z => by omega⟩⟩
      · have := w3 k q hk
        exact ⟨⟨fun z => by omega, fun z => by omega⟩, ⟨fun z => by omega, fun z => by omega⟩⟩
theorem mx_nI {a b : Nat} (ha : a < 2147483648) (hb : b < 2147483648) : (if nI a < nI b then nI b else nI a) = nI (max a b) := by
  by_cases q : nI a < nI b
  · rw [if_pos q]
    rw [Int32.lt_iff_toInt_lt, nI_toInt ha, nI_toInt hb] at q
    rw [Nat.max_eq_right (by omega)]
  · rw [if_neg q]
    rw [Int32.lt_iff_toInt_lt, nI_toInt ha, nI_toInt hb] at q
    rw [Nat.max_eq_left (by omega)]
def IsMost (st : Int32 → Nat) (n : Nat) : Prop := (∃ x, st x = n) ∧ ∀ x, st x ≤ n
def ptM (st : Int32 → Nat) (R : List Run) (r n : Nat) : Prop := (∃ x, st x = n) ∧ st (-2147483648) ≤ n ∧ ∀ k, k < r → st (rlo R k) ≤ n ∧ ((rhi R k).toInt < 2147483647 → st (rhi R k + 1) ≤ n)
noncomputable section
def costN (R : List Run) (dens size way : Nat) : Nat → Nat
  | 0 => 0
  | n + 1 => costN R dens size way n + (cwt R dens size n + 1) * qa R dens size way n
def stF (C : Cs) (rt dn sz wy : Nat) (x : Int32) : Nat := (goP C rt dn sz wy x).1
def mostS (C : Cs) (rt dn sz wy : Nat) : Nat := Classical.epsilon (IsMost (stF C rt dn sz wy))
def countS (C : Cs) (rt dn sz wy nb : Nat) (what : Int32) : Int32 :=
  if what = nI 0 then nI (cntF C 24) else if what = nI 1 then nI (runsOf C rt).length else if what = nI 2 then nI (clsOf (runsOf C rt) dn sz).length else if what = nI 3 then nI ((clsOf (runsOf C rt) dn sz).length - 1) else if what = nI 4 then nI (cLn C rt dn sz wy).length else if what = nI 5 then nI (tsum (cLn C rt dn sz wy)) else if what = nI 6 then nI nb else if what = nI 7 then nI (mostS C rt dn sz wy) else -102
end
theorem mostS_is {C : Cs} {rt dn sz wy n : Nat} (h : IsMost (stF C rt dn sz wy) n) : n = mostS C rt dn sz wy := by
  have h2 : IsMost (stF C rt dn sz wy) (mostS C rt dn sz wy) := Classical.epsilon_spec ⟨n, h⟩
  obtain ⟨⟨x, hx⟩, a⟩ := h
  obtain ⟨⟨y, hy⟩, b⟩ := h2
  have := a y
  have := b x
  omega
section
variable {G : xG} {h : xH} {C : Cs} {rt rw dn sz wy stale cap : Nat} {cl' : Int32} {bs : List Nat}
theorem stF_seg (hO : sOk C rt rw dn sz wy) {x y : Int32} (hs : Seg (runsOf C rt) x y) : stF C rt dn sz wy x = stF C rt dn sz wy y := by
  obtain ⟨o0, o1, o2, o3, o4, o5, o6, o7⟩ := id hO
  obtain ⟨i1, i2, i3⟩ := runs_inv o0 rt
  obtain ⟨-, g2⟩ := goP_is hO x
  obtain ⟨-, k2⟩ := goP_is hO y
  obtain ⟨u, hu⟩ := Go.seg hs (fun k hk => (i1.1 k hk).2) o1 _ _ _ g2
  exact (Go.det _ _ _ _ _ hu k2).1
theorem stF_le (hO : sOk C rt rw dn sz wy) (x : Int32) : stF C rt dn sz wy x ≤ 31 := (goP_is hO x).1
theorem ptM_fin (hO : sOk C rt rw dn sz wy) {n : Nat} (h : ptM (stF C rt dn sz wy) (runsOf C rt) (runsOf C rt).length n) : IsMost (stF C rt dn sz wy) n := by
  obtain ⟨h1, h2, h3⟩ := h
  refine ⟨h1, fun x => ?_⟩
  rcases seg_pt (runs_inv hO.1 rt).1 x with q | ⟨k, hk, q | ⟨q1, q⟩⟩
  · rw [stF_seg hO q]; exact h2
  · rw [stF_seg hO q]; exact (h3 k hk).1
  · rw [stF_seg hO q]; exact (h3 k hk).2 q1
theorem tX5_cost (hS : vX5 h C rt rw dn sz wy cl' stale bs cap) (hO : sOk C rt rw dn sz wy) : AM G mX5_cost 30 0 [.ref 0] h
    (fun q h' => q = some (.int (nI (costN (runsOf C rt) dn sz wy (clsOf (runsOf C rt) dn sz).length))) ∧ vX5 h' C rt rw dn sz wy cl' 0 bs cap ∧ xFr 0 28 h h') := by
  have u := hS.1
  obtain ⟨o0, o1, o2, o3, o4, o5, o6, o7⟩ := id hO
  obtain ⟨i1, i2, i3⟩ := runs_inv o0 rt
  have hlk := Nat.le_trans (cls_len (runsOf C rt) dn sz) i2
  refine AM.of rfl rfl (Nat.le_of_ble_eq_true rfl) rfl ?_
  refine Ax_al0 dX5_cost_0 ?_
  refine Ax_cVv dX5_cost_1 vX5_112 kfX5 u (tX5_workOut (G := G) hS hO) rfl rfl (by decide) (by simp [Value.category]) (Nat.le_refl _) (fun h11 q11 => ?_)
  obtain ⟨hS1, hF1⟩ := q11
  have u1 := hS1.1
  obtain ⟨hU, hK, hT, -⟩ := hS1.done
  have k0 := hK.ob
  have t0 := hT.ob
  refine Ax_ic0 dX5_cost_4 ?_
  refine Ax_is1 dX5_cost_5 (Nat.le_of_ble_eq_true rfl) (by rfl) ?_
  refine Ax_ic0 dX5_cost_6 ?_
  refine Ax_is2 dX5_cost_7 (Nat.le_of_ble_eq_true rfl) (by rfl) ?_
  suffices hloop : ∀ m c, c + m = (clsOf (runsOf C rt) dn sz).length → Ax G mX5_cost 30 0 8 [.ref 0, .int (nI (costN (runsOf C rt) dn sz wy c)), .int (nI c)] [] h11 (fun q h' => q = some (.int (nI (costN (runsOf C rt) dn sz wy (clsOf (runsOf C rt) dn sz).length))) ∧ vX5 h' C rt rw dn sz wy cl' 0 bs cap ∧ xFr 0 28 h h') from hloop _ 0 (Nat.zero_add _)
  intro m
  induction m with
  | zero =>
    intro c hc
    obtain rfl : c = (clsOf (runsOf C rt) dn sz).length := by omega
    refine Ax_il2 dX5_cost_8 ?_
    refine Ax_al0 dX5_cost_9 ?_
    refine Ax_getf kfX5 fX5_24 dX5_cost_10 u1 rfl ?_
    refine Ax_cVi dX5_cost_13 vX5_115 kfX0 k0 (tC_held hK) rfl rfl (by decide) (by simp [Value.category]) ?_
    refine Ax_cmpgen (tgt := 47) dX5_cost_16 (by decide) (by omega) (by omega) (fun c16 => ?_) (fun c16 => ?_)
    · refine Ax_il1 dX5_cost_47 ?_
      exact Ax_iret dX5_cost_48 rfl rfl ⟨rfl, hS1, hF1⟩
    · omega
  | succ m ih =>
    intro c hc
    have hcl : c < (clsOf (runsOf C rt) dn sz).length := by omega
    refine Ax_il2 dX5_cost_8 ?_
    refine Ax_al0 dX5_cost_9 ?_
    refine Ax_getf kfX5 fX5_24 dX5_cost_10 u1 rfl ?_
    refine Ax_cVi dX5_cost_13 vX5_115 kfX0 k0 (tC_held hK) rfl rfl (by decide) (by simp [Value.category]) ?_
    refine Ax_cmpgen (tgt := 47) dX5_cost_16 (by decide) (by omega) (by omega) (fun c16 => ?_) (fun c16 => ?_)
    · omega
    refine Ax_il1 dX5_cost_19 ?_
    refine Ax_al0 dX5_cost_20 ?_
    refine Ax_getf kfX5 fX5_24 dX5_cost_21 u1 rfl ?_
    refine Ax_il2 dX5_cost_24 ?_
    refine Ax_cVi dX5_cost_25 vX5_142 kfX0 k0 (tC_weight hK hlk hcl) rfl rfl (by decide) (by simp [Value.category]) ?_
    refine Ax_ic1 dX5_cost_28 ?_
    refine Ax_iaddn dX5_cost_29 ?_
    refine Ax_al0 dX5_cost_30 ?_
    refine Ax_getf kfX5 fX5_33 dX5_cost_31 u1 rfl ?_
    refine Ax_il2 dX5_cost_34 ?_
    refine Ax_cVi dX5_cost_35 vX5_145 kfX4 t0 (tX4_questionsAbove hT hK o7 hlk hcl) rfl rfl (by decide) (by simp [Value.category]) ?_
    refine Ax_imuln dX5_cost_38 ?_
    refine Ax_iaddn dX5_cost_39 ?_
    refine Ax_is1 dX5_cost_40 (Nat.le_of_ble_eq_true rfl) (by rfl) ?_
    refine Ax_inc2_1n dX5_cost_41 (Nat.le_of_ble_eq_true rfl) (by rfl) ?_
    refine Ax_goto (tgt := 8) dX5_cost_44 (by decide) ?_
    exact ih (c + 1) (by omega)
theorem tX5_mostSteps (hS : vX5 h C rt rw dn sz wy cl' 0 bs cap) (hO : sOk C rt rw dn sz wy) : AM G mX5_mostSteps 6 0 [.ref 0] h
    (fun q h' => ∃ z, q = some (.int z) ∧ (z = nI (mostS C rt dn sz wy) ∧ vX5 h' C rt rw dn sz wy cl' 0 bs cap ∧ xFr 21 7 h h')) := by
  have u := hS.1
  obtain ⟨i1, i2, i3⟩ := runs_inv hO.1 rt
  have hle := stF_le hO
  refine AM.of rfl rfl (Nat.le_of_ble_eq_true rfl) rfl ?_
  refine Ax_al0 dX5_mostSteps_0 ?_
  refine Ax_ldc dX5_mostSteps_1 cX5_216 ?_
  refine Ax_cViH dX5_mostSteps_3 vX5_172 kfX5 u (tX5_stepsOf (G := G) hS hO (-2147483648)) rfl rfl (by decide) (by simp [Value.category]) (Nat.le_refl _) (fun x3 h11 q11 => ?_)
  obtain ⟨rfl, hS1, hF1⟩ := q11
  have u1 := hS1.1
  refine Ax_is1 dX5_mostSteps_6 (Nat.le_of_ble_eq_true rfl) (by rfl) ?_
  refine Ax_ic0 dX5_mostSteps_7 ?_
  refine Ax_is2 dX5_mostSteps_8 (Nat.le_of_ble_eq_true rfl) (by rfl) ?_
  suffices hloop : ∀ m r n h1, r + m = (runsOf C rt).length → vX5 h1 C rt rw dn sz wy cl' 0 bs cap → xFr 21 7 h h1 → ptM (stF C rt dn sz wy) (runsOf C rt) r n → Ax G mX5_mostSteps 6 0 9 [.ref 0, .int (nI n), .int (nI r)] [] h1 (fun q h' => ∃ z, q = some (.int z) ∧ (z = nI (mostS C rt dn sz wy) ∧ vX5 h' C rt rw dn sz wy cl' 0 bs cap ∧ xFr 21 7 h h')) from
    hloop _ 0 _ h11 (Nat.zero_add _) hS1 hF1 ⟨⟨_, rfl⟩, Nat.le_refl _, fun k hk => absurd hk (Nat.not_lt_zero _)⟩
  intro m
  induction m with
  | zero =>
    intro r n h1 hr hS1 hF1 hp
    have u1 := hS1.1
    obtain ⟨hU, -⟩ := hS1.done
    have r0 := hU.obj
    obtain rfl : r = (runsOf C rt).length := by omega
    refine Ax_il2 dX5_mostSteps_9 ?_
    refine Ax_al0 dX5_mostSteps_10 ?_
    refine Ax_getf kfX5 fX5_16 dX5_mostSteps_11 u1 rfl ?_
    refine Ax_cVi dX5_mostSteps_14 vX5_102 kfX2 r0 (tR_held hU) rfl rfl (by decide) (by simp [Value.category]) ?_
    refine Ax_cmpgen (tgt := 75) dX5_mostSteps_17 (by decide) (by omega) (by omega) (fun c17 => ?_) (fun c17 => ?_)
    · refine Ax_il1 dX5_mostSteps_75 ?_
      exact Ax_iret dX5_mostSteps_76 rfl rfl ⟨_, rfl, by rw [mostS_is (ptM_fin hO hp)], hS1, hF1⟩
    · omega
  | succ m ih =>
    intro r n h1 hr hS1 hF1 hp
    have hrl : r < (runsOf C rt).length := by omega
    have u1 := hS1.1
    obtain ⟨hU, -⟩ := hS1.done
    have r0 := hU.obj
    obtain ⟨⟨x0, hx0⟩, hp2, hp3⟩ := id hp
    have hn := hle x0
    have hs1 := hle (rlo (runsOf C rt) r)
    have hs2 := hle (rhi (runsOf C rt) r + 1)
    refine Ax_il2 dX5_mostSteps_9 ?_
    refine Ax_al0 dX5_mostSteps_10 ?_
    refine Ax_getf kfX5 fX5_16 dX5_mostSteps_11 u1 rfl ?_
    refine Ax_cVi dX5_mostSteps_14 vX5_102 kfX2 r0 (tR_held hU) rfl rfl (by decide) (by simp [Value.category]) ?_
    refine Ax_cmpgen (tgt := 75) dX5_mostSteps_17 (by decide) (by omega) (by omega) (fun c17 => ?_) (fun c17 => ?_)
    · omega
    refine Ax_il1 dX5_mostSteps_20 ?_
    refine Ax_al0 dX5_mostSteps_21 ?_
    refine Ax_al0 dX5_mostSteps_22 ?_
    refine Ax_getf kfX5 fX5_16 dX5_mostSteps_23 u1 rfl ?_
    refine Ax_il2 dX5_mostSteps_26 ?_
    refine Ax_cVi dX5_mostSteps_27 vX5_178 kfX2 r0 (tR_low hU i2 hrl) rfl rfl (by decide) (by simp [Value.category]) ?_
    refine Ax_cViH dX5_mostSteps_30 vX5_172 kfX5 u1 (tX5_stepsOf (G := G) hS1 hO (rlo (runsOf C rt) r)) rfl rfl (by decide) (by simp [Value.category]) (Nat.le_refl _) (fun x30 h2 q2 => ?_)
    obtain ⟨rfl, hS2, hF2⟩ := q2
    have u2 := hS2.1
    obtain ⟨hU2, -⟩ := hS2.done
    have r2 := hU2.obj
    refine Ax_mmax dX5_mostSteps_33 sX5_116 (by decide) (by simp [Value.category]) ?_
    refine Ax_top (mx_nI (a := n) (b := stF C rt dn sz wy (rlo (runsOf C rt) r)) (by omega) (by omega)) ?_
    refine Ax_is1 dX5_mostSteps_36 (Nat.le_of_ble_eq_true rfl) (by rfl) ?_
    refine Ax_al0 dX5_mostSteps_37 ?_
    refine Ax_getf kfX5 fX5_16 dX5_mostSteps_38 u2 rfl ?_
    refine Ax_il2 dX5_mostSteps_41 ?_
    refine Ax_cVi dX5_mostSteps_42 vX5_217 kfX2 r2 (tR_high hU2 i2 hrl) rfl rfl (by decide) (by simp [Value.category]) ?_
    refine Ax_ldc dX5_mostSteps_45 cX5_220 ?_
    refine Ax_cmpge (tgt := 69) dX5_mostSteps_47 (by decide) (fun c47 => ?_) (fun c47 => ?_)
    · rw [Int32.le_iff_toInt_le, I_mx] at c47
      refine Ax_inc2_1n dX5_mostSteps_69 (Nat.le_of_ble_eq_true rfl) (by rfl) ?_
      refine Ax_goto (tgt := 9) dX5_mostSteps_72 (by decide) ?_
      refine ih (r + 1) _ h2 (by omega) hS2 (hF1.tr hF2) ⟨?_, by omega, fun k hk => ?_⟩
      · rcases Nat.le_total n (stF C rt dn sz wy (rlo (runsOf C rt) r)) with q | q
        · exact ⟨_, (Nat.max_eq_right q).symm⟩
        · exact ⟨x0, by rw [Nat.max_eq_left q]; exact hx0⟩
      · rcases (show k < r ∨ k = r by omega) with q | q
        · have := hp3 k q
          exact ⟨by omega, fun w => by have := this.2 w; omega⟩
        · subst q
          exact ⟨by omega, fun w => by omega⟩
    · rw [Int32.le_iff_toInt_le, I_mx] at c47
      refine Ax_il1 dX5_mostSteps_50 ?_
      refine Ax_al0 dX5_mostSteps_51 ?_
      refine Ax_al0 dX5_mostSteps_52 ?_
      refine Ax_getf kfX5 fX5_16 dX5_mostSteps_53 u2 rfl ?_
      refine Ax_il2 dX5_mostSteps_56 ?_
      refine Ax_cVi dX5_mostSteps_57 vX5_217 kfX2 r2 (tR_high hU2 i2 hrl) rfl rfl (by decide) (by simp [Value.category]) ?_
      refine Ax_ic1 dX5_mostSteps_60 ?_
      refine Ax_iadd dX5_mostSteps_61 ?_
      refine Ax_cViH dX5_mostSteps_62 vX5_172 kfX5 u2 (tX5_stepsOf (G := G) hS2 hO (rhi (runsOf C rt) r + 1)) rfl rfl (by decide) (by simp [Value.category]) (Nat.le_refl _) (fun x62 h3 q3 => ?_)
      obtain ⟨rfl, hS3, hF3⟩ := q3
      have u3 := hS3.1
      refine Ax_mmax dX5_mostSteps_65 sX5_116 (by decide) (by simp [Value.category]) ?_
      refine Ax_top (mx_nI (a := max n (stF C rt dn sz wy (rlo (runsOf C rt) r))) (b := stF C rt dn sz wy (rhi (runsOf C rt) r + 1)) (by omega) (by omega)) ?_
      refine Ax_is1 dX5_mostSteps_68 (Nat.le_of_ble_eq_true rfl) (by rfl) ?_
      refine Ax_inc2_1n dX5_mostSteps_69 (Nat.le_of_ble_eq_true rfl) (by rfl) ?_
      refine Ax_goto (tgt := 9) dX5_mostSteps_72 (by decide) ?_
      refine ih (r + 1) _ h3 (by omega) hS3 ((hF1.tr hF2).tr hF3) ⟨?_, by omega, fun k hk => ?_⟩
      · rcases Nat.le_total (max n (stF C rt dn sz wy (rlo (runsOf C rt) r))) (stF C rt dn sz wy (rhi (runsOf C rt) r + 1)) with z | z
        · exact ⟨_, (Nat.max_eq_right z).symm⟩
        · rw [Nat.max_eq_left z]
          rcases Nat.le_total n (stF C rt dn sz wy (rlo (runsOf C rt) r)) with q | q
          · exact ⟨_, (Nat.max_eq_right q).symm⟩
          · exact ⟨x0, by rw [Nat.max_eq_left q]; exact hx0⟩
      · rcases (show k < r ∨ k = r by omega) with q | q
        · have := hp3 k q
          exact ⟨by omega, fun w => by have := this.2 w; omega⟩
        · subst q
          exact ⟨by omega, fun w => by omega⟩
theorem tX5_count (hS : vX5 h C rt rw dn sz wy cl' stale bs cap) (hO : sOk C rt rw dn sz wy) (what : Int32) : AM G mX5_count 30 0 [.ref 0, .int what] h
    (fun q h' => q = some (.int (countS C rt dn sz wy bs.length what)) ∧ vX5 h' C rt rw dn sz wy cl' 0 bs cap ∧ xFr 0 28 h h') := by
  have u := hS.1
  obtain ⟨o0, o1, o2, o3, o4, o5, o6, o7⟩ := id hO
  obtain ⟨i1, i2, i3⟩ := runs_inv o0 rt
  have hlk := Nat.le_trans (cls_len (runsOf C rt) dn sz) i2
  refine AM.of rfl rfl (Nat.le_of_ble_eq_true rfl) rfl ?_
  refine Ax_al0 dX5_count_0 ?_
  refine Ax_cVv dX5_count_1 vX5_112 kfX5 u (tX5_workOut (G := G) hS hO) rfl rfl (by decide) (by simp [Value.category]) (Nat.le_refl _) (fun h11 q11 => ?_)
  obtain ⟨hS1, hF1⟩ := q11
  have u1 := hS1.1
  obtain ⟨hU, hK, hT, tg, dn', hV⟩ := hS1.done
  obtain ⟨lo, hi, tg', wt, hc1, hc2⟩ := hS1.2.1
  have hTx := hS1.2.2.1
  obtain ⟨ba, f, t0, -⟩ := hTx.ob
  have s0 := hc1.1
  have r0 := hU.obj
  have k0 := hK.ob
  have c0 := hV.ob
  obtain ⟨kn, fi, se, rw', st, nu, hVd, -⟩ := id hV
  refine Ax_il1 dX5_count_4 ?_
  unfold countS
  rcases x_tabN 8 what with hw | ⟨w, hw, rfl⟩
  · rw [if_neg (tab_ne hw (by decide) (by decide)), if_neg (tab_ne hw (by decide) (by decide)), if_neg (tab_ne hw (by decide) (by decide)), if_neg (tab_ne hw (by decide) (by decide)), if_neg (tab_ne hw (by decide) (by decide)), if_neg (tab_ne hw (by decide) (by decide)), if_neg (tab_ne hw (by decide) (by decide)), if_neg (tab_ne hw (by decide) (by decide))]
    have hw' : what.toInt < 0 ∨ 7 < what.toInt := by omega
    refine Ax_tabO (tgt := 119) dX5_count_5 (by assumption) (by decide) ?_
    refine Ax_bpm102 dX5_count_119 ?_
    exact Ax_iret dX5_count_121 rfl rfl ⟨rfl, hS1, hF1⟩
  · rcases (show w = 0 ∨ w = 1 ∨ w = 2 ∨ w = 3 ∨ w = 4 ∨ w = 5 ∨ w = 6 ∨ w = 7 by omega) with rfl | rfl | rfl | rfl | rfl | rfl | rfl | rfl
    · rw [if_pos rfl]
      refine Ax_tabI (tgt := 52) dX5_count_5 (by decide) (by decide) rfl (by decide) ?_
      refine Ax_al0 dX5_count_52 ?_
      refine Ax_getf kfX5 fX5_12 dX5_count_53 u1 rfl ?_
      refine Ax_cVi dX5_count_56 vX5_102 kfX2 s0 (tX2_held hc1) rfl rfl (by decide) (by simp [Value.category]) ?_
      exact Ax_iret dX5_count_59 rfl rfl ⟨rfl, hS1, hF1⟩
    · rw [if_neg (by decide), if_pos rfl]
      refine Ax_tabI (tgt := 60) dX5_count_5 (by decide) (by decide) rfl (by decide) ?_
      refine Ax_al0 dX5_count_60 ?_
      refine Ax_getf kfX5 fX5_16 dX5_count_61 u1 rfl ?_
      refine Ax_cVi dX5_count_64 vX5_102 kfX2 r0 (tR_held hU) rfl rfl (by decide) (by simp [Value.category]) ?_
      exact Ax_iret dX5_count_67 rfl rfl ⟨rfl, hS1, hF1⟩
    · rw [if_neg (by decide), if_neg (by decide), if_pos rfl]
      refine Ax_tabI (tgt := 68) dX5_count_5 (by decide) (by decide) rfl (by decide) ?_
      refine Ax_al0 dX5_count_68 ?_
      refine Ax_getf kfX5 fX5_24 dX5_count_69 u1 rfl ?_
      refine Ax_cVi dX5_count_72 vX5_115 kfX0 k0 (tC_held hK) rfl rfl (by decide) (by simp [Value.category]) ?_
      exact Ax_iret dX5_count_75 rfl rfl ⟨rfl, hS1, hF1⟩
    · rw [if_neg (by decide), if_neg (by decide), if_neg (by decide), if_pos rfl]
      refine Ax_tabI (tgt := 76) dX5_count_5 (by decide) (by decide) rfl (by decide) ?_
      refine Ax_ic0 dX5_count_76 ?_
      refine Ax_al0 dX5_count_77 ?_
      refine Ax_getf kfX5 fX5_24 dX5_count_78 u1 rfl ?_
      refine Ax_cVi dX5_count_81 vX5_115 kfX0 k0 (tC_held hK) rfl rfl (by decide) (by simp [Value.category]) ?_
      refine Ax_ic1 dX5_count_84 ?_
      refine Ax_isub dX5_count_85 ?_
      refine Ax_mmax dX5_count_86 sX5_116 (by decide) (by simp [Value.category]) ?_
      have e : (if nI 0 < nI (clsOf (runsOf C rt) dn sz).length - nI 1 then nI (clsOf (runsOf C rt) dn sz).length - nI 1 else nI 0) = nI ((clsOf (runsOf C rt) dn sz).length - 1) := by
        rcases Nat.eq_zero_or_pos (clsOf (runsOf C rt) dn sz).length with z | z
        · rw [z]; decide
        · rw [pk_sub z, mx_nI (by omega) (by omega), Nat.max_eq_right (Nat.zero_le _)]
      rw [e]
      exact Ax_iret dX5_count_89 rfl rfl ⟨rfl, hS1, hF1⟩
    · rw [if_neg (by decide), if_neg (by decide), if_neg (by decide), if_neg (by decide), if_pos rfl]
      refine Ax_tabI (tgt := 90) dX5_count_5 (by decide) (by decide) rfl (by decide) ?_
      refine Ax_al0 dX5_count_90 ?_
      refine Ax_getf kfX5 fX5_42 dX5_count_91 u1 rfl ?_
      refine Ax_cVi dX5_count_94 vX5_121 kfX1 c0 (tX1_length hVd) rfl rfl (by decide) (by simp [Value.category]) ?_
      exact Ax_iret dX5_count_97 rfl rfl ⟨rfl, hS1, hF1⟩
    · rw [if_neg (by decide), if_neg (by decide), if_neg (by decide), if_neg (by decide), if_neg (by decide), if_pos rfl]
      refine Ax_tabI (tgt := 98) dX5_count_5 (by decide) (by decide) rfl (by decide) ?_
      refine Ax_al0 dX5_count_98 ?_
      refine Ax_getf kfX5 fX5_42 dX5_count_99 u1 rfl ?_
      refine Ax_cVi dX5_count_102 vX5_124 kfX1 c0 (tX1_numbersInTables hVd) rfl rfl (by decide) (by simp [Value.category]) ?_
      exact Ax_iret dX5_count_105 rfl rfl ⟨rfl, hS1, hF1⟩
    · rw [if_neg (by decide), if_neg (by decide), if_neg (by decide), if_neg (by decide), if_neg (by decide), if_neg (by decide), if_pos rfl]
      refine Ax_tabI (tgt := 106) dX5_count_5 (by decide) (by decide) rfl (by decide) ?_
      refine Ax_al0 dX5_count_106 ?_
      refine Ax_getf kfX5 fX5_49 dX5_count_107 u1 rfl ?_
      refine Ax_cVi dX5_count_110 vX5_127 kfX3 t0 (tX3_length hTx) rfl rfl (by decide) (by simp [Value.category]) ?_
      exact Ax_iret dX5_count_113 rfl rfl ⟨rfl, hS1, hF1⟩
    · rw [if_neg (by decide), if_neg (by decide), if_neg (by decide), if_neg (by decide), if_neg (by decide), if_neg (by decide), if_neg (by decide), if_pos rfl]
      refine Ax_tabI (tgt := 114) dX5_count_5 (by decide) (by decide) rfl (by decide) ?_
      refine Ax_al0 dX5_count_114 ?_
      refine Ax_cViH dX5_count_115 vX5_128 kfX5 u1 (tX5_mostSteps (G := G) hS1 hO) rfl rfl (by decide) (by simp [Value.category]) (Nat.le_refl _) (fun x115 h12 q12 => ?_)
      obtain ⟨rfl, hS2, hF2⟩ := q12
      exact Ax_iret dX5_count_118 rfl rfl ⟨rfl, hS2, ⟨fun q hq => (hF2.1 q (by omega)).trans (hF1.1 q hq), hF2.2.trans hF1.2⟩⟩
end
