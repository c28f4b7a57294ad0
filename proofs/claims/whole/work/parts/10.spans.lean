/-! Spans: the cells of an object at o -/
def vSp (h : xH) (o : Nat) (lo hi tg wt : Nat → Int32) (n : Int32) : Prop :=
  h.1 o = cO 2 [.ref (o + 1), .ref (o + 2), .ref (o + 3), .ref (o + 4), .int n] ∧ h.1 (o + 1) = cI 0 24 lo ∧ h.1 (o + 2) = cI 0 24 hi ∧ h.1 (o + 3) = cI 0 24 tg ∧ h.1 (o + 4) = cI 0 24 wt
def gHas (tg : Nat → Int32) (i : Int32) : Bool := gIn 24 i && tg i.toNatClampNeg != -1
section
variable {G : xG} {h : xH} {o : Nat} {lo hi tg wt : Nat → Int32} {n : Int32}
theorem gHas_n {k : Nat} (hk : k < 24) : gHas tg (nI k) = (tg k != -1) := by
  unfold gHas
  rw [gIn_n hk (by decide), nI_clamp (by omega)]
  rfl
theorem tX2_held (hS : vSp h o lo hi tg wt n) : AM G mX2_held 0 0 [.ref o] h (fun r h' => r = some (.int n) ∧ h' = h) := by
  obtain ⟨s, s0, s1, s2, s3⟩ := hS
  refine AM.of rfl rfl (Nat.le_of_ble_eq_true rfl) rfl ?_
  refine Ax_al0 dX2_held_0 ?_
  refine Ax_getf kfX2 fX2_24 dX2_held_1 s rfl ?_
  exact Ax_iret dX2_held_4 rfl rfl ⟨rfl, rfl⟩
theorem tX2_low (hS : vSp h o lo hi tg wt n) {k : Nat} (hk : k < 24) : AM G mX2_low 0 0 [.ref o, .int (nI k)] h (fun r h' => r = some (.int (lo k)) ∧ h' = h) := by
  obtain ⟨s, s0, s1, s2, s3⟩ := hS
  refine AM.of rfl rfl (Nat.le_of_ble_eq_true rfl) rfl ?_
  refine Ax_il1 dX2_low_0 ?_
  refine Ax_ifltn (tgt := 19) dX2_low_1 (by decide) (by omega) ?_
  refine Ax_il1 dX2_low_4 ?_
  refine Ax_bp24 dX2_low_5 ?_
  refine Ax_cmpgen (tgt := 19) dX2_low_7 (by decide) (by omega) (by omega) (fun c7 => ?_) (fun c7 => ?_)
  · omega
  · refine Ax_al0 dX2_low_10 ?_
    refine Ax_getf kfX2 fX2_9 dX2_low_11 s rfl ?_
    refine Ax_il1 dX2_low_14 ?_
    refine Ax_ialdn dX2_low_15 s0 (by omega) (by omega) ?_
    refine Ax_goto (tgt := 20) dX2_low_16 (by decide) ?_
    exact Ax_iret dX2_low_20 rfl rfl ⟨rfl, rfl⟩
theorem tX2_high (hS : vSp h o lo hi tg wt n) {k : Nat} (hk : k < 24) : AM G mX2_high 0 0 [.ref o, .int (nI k)] h (fun r h' => r = some (.int (hi k)) ∧ h' = h) := by
  obtain ⟨s, s0, s1, s2, s3⟩ := hS
  refine AM.of rfl rfl (Nat.le_of_ble_eq_true rfl) rfl ?_
  refine Ax_il1 dX2_high_0 ?_
  refine Ax_ifltn (tgt := 19) dX2_high_1 (by decide) (by omega) ?_
  refine Ax_il1 dX2_high_4 ?_
  refine Ax_bp24 dX2_high_5 ?_
  refine Ax_cmpgen (tgt := 19) dX2_high_7 (by decide) (by omega) (by omega) (fun c7 => ?_) (fun c7 => ?_)
  · omega
  · refine Ax_al0 dX2_high_10 ?_
    refine Ax_getf kfX2 fX2_15 dX2_high_11 s rfl ?_
    refine Ax_il1 dX2_high_14 ?_
    refine Ax_ialdn dX2_high_15 s1 (by omega) (by omega) ?_
    refine Ax_goto (tgt := 20) dX2_high_16 (by decide) ?_
    exact Ax_iret dX2_high_20 rfl rfl ⟨rfl, rfl⟩
theorem tX2_target (hS : vSp h o lo hi tg wt n) {k : Nat} (hk : k < 24) : AM G mX2_target 0 0 [.ref o, .int (nI k)] h (fun r h' => r = some (.int (tg k)) ∧ h' = h) := by
  obtain ⟨s, s0, s1, s2, s3⟩ := hS
  refine AM.of rfl rfl (Nat.le_of_ble_eq_true rfl) rfl ?_
  refine Ax_il1 dX2_target_0 ?_
  refine Ax_ifltn (tgt := 19) dX2_target_1 (by decide) (by omega) ?_
  refine Ax_il1 dX2_target_4 ?_
  refine Ax_bp24 dX2_target_5 ?_
  refine Ax_cmpgen (tgt := 19) dX2_target_7 (by decide) (by omega) (by omega) (fun c7 => ?_) (fun c7 => ?_)
  · omega
  · refine Ax_al0 dX2_target_10 ?_
    refine Ax_getf kfX2 fX2_18 dX2_target_11 s rfl ?_
    refine Ax_il1 dX2_target_14 ?_
    refine Ax_ialdn dX2_target_15 s2 (by omega) (by omega) ?_
    refine Ax_goto (tgt := 20) dX2_target_16 (by decide) ?_
    exact Ax_iret dX2_target_20 rfl rfl ⟨rfl, rfl⟩
theorem tX2_weight (hS : vSp h o lo hi tg wt n) {k : Nat} (hk : k < 24) : AM G mX2_weight 0 0 [.ref o, .int (nI k)] h (fun r h' => r = some (.int (wt k)) ∧ h' = h) := by
  obtain ⟨s, s0, s1, s2, s3⟩ := hS
  refine AM.of rfl rfl (Nat.le_of_ble_eq_true rfl) rfl ?_
  refine Ax_il1 dX2_weight_0 ?_
  refine Ax_ifltn (tgt := 19) dX2_weight_1 (by decide) (by omega) ?_
  refine Ax_il1 dX2_weight_4 ?_
  refine Ax_bp24 dX2_weight_5 ?_
  refine Ax_cmpgen (tgt := 19) dX2_weight_7 (by decide) (by omega) (by omega) (fun c7 => ?_) (fun c7 => ?_)
  · omega
  · refine Ax_al0 dX2_weight_10 ?_
    refine Ax_getf kfX2 fX2_21 dX2_weight_11 s rfl ?_
    refine Ax_il1 dX2_weight_14 ?_
    refine Ax_ialdn dX2_weight_15 s3 (by omega) (by omega) ?_
    refine Ax_goto (tgt := 20) dX2_weight_16 (by decide) ?_
    exact Ax_iret dX2_weight_20 rfl rfl ⟨rfl, rfl⟩
theorem tX2_has (hS : vSp h o lo hi tg wt n) (i : Int32) : AM G mX2_has 0 0 [.ref o, .int i] h (fun r h' => r = some (.int (nI (gHas tg i).toNat)) ∧ h' = h) := by
  obtain ⟨s, s0, s1, s2, s3⟩ := hS
  refine AM.of rfl rfl (Nat.le_of_ble_eq_true rfl) rfl ?_
  refine Ax_il1 dX2_has_0 ?_
  refine Ax_iflt (tgt := 24) dX2_has_1 (by decide) (fun c1 => ?_) (fun c1 => ?_)
  · have e : gHas tg i = false := by unfold gHas; rw [gIn_f (Or.inl c1)]; rfl
    rw [e]
    refine Ax_ic0 dX2_has_24 ?_
    exact Ax_iret dX2_has_25 rfl (by decide) ⟨rfl, rfl⟩
  refine Ax_il1 dX2_has_4 ?_
  refine Ax_bp24 dX2_has_5 ?_
  refine Ax_cmpge (tgt := 24) dX2_has_7 (by decide) (fun c7 => ?_) (fun c7 => ?_)
  · have e : gHas tg i = false := by unfold gHas; rw [gIn_f (Or.inr c7)]; rfl
    rw [e]
    refine Ax_ic0 dX2_has_24 ?_
    exact Ax_iret dX2_has_25 rfl (by decide) ⟨rfl, rfl⟩
  obtain ⟨k, hk, rfl⟩ := x_ix c1 c7 (by decide)
  rw [gHas_n hk]
  refine Ax_al0 dX2_has_10 ?_
  refine Ax_getf kfX2 fX2_18 dX2_has_11 s rfl ?_
  refine Ax_il1 dX2_has_14 ?_
  refine Ax_ialdn dX2_has_15 s2 (by omega) (by omega) ?_
  refine Ax_icm1 dX2_has_16 ?_
  refine Ax_cmpeq (tgt := 24) dX2_has_17 (by decide) (fun c17 => ?_) (fun c17 => ?_)
  · rw [c17]
    refine Ax_ic0 dX2_has_24 ?_
    exact Ax_iret dX2_has_25 rfl (by decide) ⟨rfl, rfl⟩
  · rw [show (tg k != -1) = true from bne_iff_ne.mpr c17]
    refine Ax_ic1 dX2_has_20 ?_
    refine Ax_goto (tgt := 25) dX2_has_21 (by decide) ?_
    exact Ax_iret dX2_has_25 rfl (by decide) ⟨rfl, rfl⟩
theorem tX2_firstFree (hS : vSp h o lo hi tg wt n) : AM G mX2_firstFree 0 0 [.ref o] h (fun r h' => r = some (.int (oI (fst (fun k => tg k == -1) 24 0))) ∧ h' = h) := by
  obtain ⟨s, s0, s1, s2, s3⟩ := hS
  refine AM.of rfl rfl (Nat.le_of_ble_eq_true rfl) rfl ?_
  refine Ax_ic0 dX2_firstFree_0 ?_
  refine Ax_is1 dX2_firstFree_1 (Nat.le_of_ble_eq_true rfl) (by rfl) ?_
  suffices hloop : ∀ m k, k + m = 24 → fst (fun k => tg k == -1) m k = fst (fun k => tg k == -1) 24 0 → Ax G mX2_firstFree 0 0 2 [.ref o, .int (nI k)] [] h (fun r h' => r = some (.int (oI (fst (fun k => tg k == -1) 24 0))) ∧ h' = h) from hloop 24 0 rfl rfl
  intro m
  induction m with
  | zero =>
    intro k hk hf
    obtain rfl : k = 24 := by omega
    rw [← hf]
    refine Ax_il1 dX2_firstFree_2 ?_
    refine Ax_bp24 dX2_firstFree_3 ?_
    refine Ax_cmpgen (tgt := 26) dX2_firstFree_5 (by decide) (by omega) (by omega) (fun c5 => ?_) (fun c5 => ?_)
    · refine Ax_icm1 dX2_firstFree_26 ?_
      exact Ax_iret dX2_firstFree_27 rfl rfl ⟨rfl, rfl⟩
    · omega
  | succ m ih =>
    intro k hk hf
    rw [fst] at hf
    refine Ax_il1 dX2_firstFree_2 ?_
    refine Ax_bp24 dX2_firstFree_3 ?_
    refine Ax_cmpgen (tgt := 26) dX2_firstFree_5 (by decide) (by omega) (by omega) (fun c5 => ?_) (fun c5 => ?_)
    · omega
    refine Ax_al0 dX2_firstFree_8 ?_
    refine Ax_getf kfX2 fX2_18 dX2_firstFree_9 s rfl ?_
    refine Ax_il1 dX2_firstFree_12 ?_
    refine Ax_ialdn dX2_firstFree_13 s2 (by omega) (by omega) ?_
    refine Ax_icm1 dX2_firstFree_14 ?_
    refine Ax_cmpne (tgt := 20) dX2_firstFree_15 (by decide) (fun c15 => ?_) (fun c15 => ?_)
    · rw [if_neg (by simpa using c15)] at hf
      refine Ax_inc1_1n dX2_firstFree_20 (Nat.le_of_ble_eq_true rfl) (by rfl) ?_
      refine Ax_goto (tgt := 2) dX2_firstFree_23 (by decide) ?_
      exact ih (k + 1) (by omega) hf
    · rw [if_pos (by simpa using c15)] at hf
      rw [← hf]
      refine Ax_il1 dX2_firstFree_18 ?_
      exact Ax_iret dX2_firstFree_19 rfl rfl ⟨rfl, rfl⟩
theorem tX2_firstMeeting (hS : vSp h o lo hi tg wt n) (low high : Int32) : AM G mX2_firstMeeting 0 0 [.ref o, .int low, .int high] h (fun r h' => r = some (.int (oI (fst (fun k => tg k != -1 && decide (lo k ≤ high) && decide (low ≤ hi k)) 24 0))) ∧ h' = h) := by
  obtain ⟨s, s0, s1, s2, s3⟩ := hS
  refine AM.of rfl rfl (Nat.le_of_ble_eq_true rfl) rfl ?_
  refine Ax_ic0 dX2_firstMeeting_0 ?_
  refine Ax_is3 dX2_firstMeeting_1 (Nat.le_of_ble_eq_true rfl) (by rfl) ?_
  generalize hp : (fun k => tg k != -1 && decide (lo k ≤ high) && decide (low ≤ hi k)) = p
  suffices hloop : ∀ m k, k + m = 24 → fst p m k = fst p 24 0 → Ax G mX2_firstMeeting 0 0 2 [.ref o, .int low, .int high, .int (nI k)] [] h (fun r h' => r = some (.int (oI (fst p 24 0))) ∧ h' = h) from hloop 24 0 rfl rfl
  intro m
  induction m with
  | zero =>
    intro k hk hf
    obtain rfl : k = 24 := by omega
    rw [← hf]
    refine Ax_il3 dX2_firstMeeting_2 ?_
    refine Ax_bp24 dX2_firstMeeting_3 ?_
    refine Ax_cmpgen (tgt := 46) dX2_firstMeeting_5 (by decide) (by omega) (by omega) (fun c5 => ?_) (fun c5 => ?_)
    · refine Ax_icm1 dX2_firstMeeting_46 ?_
      exact Ax_iret dX2_firstMeeting_47 rfl rfl ⟨rfl, rfl⟩
    · omega
  | succ m ih =>
    intro k hk hf
    rw [fst] at hf
    have hpk : p k = (tg k != -1 && decide (lo k ≤ high) && decide (low ≤ hi k)) := by rw [← hp]
    have hno : p k = false → Ax G mX2_firstMeeting 0 0 40 [.ref o, .int low, .int high, .int (nI k)] [] h (fun r h' => r = some (.int (oI (fst p 24 0))) ∧ h' = h) := by
      intro hpf
      rw [if_neg (by rw [hpf]; decide)] at hf
      refine Ax_inc3_1n dX2_firstMeeting_40 (Nat.le_of_ble_eq_true rfl) (by rfl) ?_
      refine Ax_goto (tgt := 2) dX2_firstMeeting_43 (by decide) ?_
      exact ih (k + 1) (by omega) hf
    refine Ax_il3 dX2_firstMeeting_2 ?_
    refine Ax_bp24 dX2_firstMeeting_3 ?_
    refine Ax_cmpgen (tgt := 46) dX2_firstMeeting_5 (by decide) (by omega) (by omega) (fun c5 => ?_) (fun c5 => ?_)
    · omega
    refine Ax_al0 dX2_firstMeeting_8 ?_
    refine Ax_getf kfX2 fX2_18 dX2_firstMeeting_9 s rfl ?_
    refine Ax_il3 dX2_firstMeeting_12 ?_
    refine Ax_ialdn dX2_firstMeeting_13 s2 (by omega) (by omega) ?_
    refine Ax_icm1 dX2_firstMeeting_14 ?_
    refine Ax_cmpeq (tgt := 40) dX2_firstMeeting_15 (by decide) (fun c15 => ?_) (fun c15 => ?_)
    · exact hno (by rw [hpk, c15]; rfl)
    refine Ax_al0 dX2_firstMeeting_18 ?_
    refine Ax_getf kfX2 fX2_9 dX2_firstMeeting_19 s rfl ?_
    refine Ax_il3 dX2_firstMeeting_22 ?_
    refine Ax_ialdn dX2_firstMeeting_23 s0 (by omega) (by omega) ?_
    refine Ax_il2 dX2_firstMeeting_24 ?_
    refine Ax_cmpgt (tgt := 40) dX2_firstMeeting_25 (by decide) (fun c25 => ?_) (fun c25 => ?_)
    · exact hno (by rw [hpk, decide_eq_false (Int32.not_le.mpr c25)]; simp)
    refine Ax_il1 dX2_firstMeeting_28 ?_
    refine Ax_al0 dX2_firstMeeting_29 ?_
    refine Ax_getf kfX2 fX2_15 dX2_firstMeeting_30 s rfl ?_
    refine Ax_il3 dX2_firstMeeting_33 ?_
    refine Ax_ialdn dX2_firstMeeting_34 s1 (by omega) (by omega) ?_
    refine Ax_cmpgt (tgt := 40) dX2_firstMeeting_35 (by decide) (fun c35 => ?_) (fun c35 => ?_)
    · exact hno (by rw [hpk, decide_eq_false (Int32.not_le.mpr c35)]; simp)
    rw [if_pos (by rw [hpk, bne_iff_ne.mpr c15, decide_eq_true (Int32.not_lt.mp c25), decide_eq_true (Int32.not_lt.mp c35)]; rfl)] at hf
    rw [← hf]
    refine Ax_il3 dX2_firstMeeting_38 ?_
    exact Ax_iret dX2_firstMeeting_39 rfl rfl ⟨rfl, rfl⟩
end
