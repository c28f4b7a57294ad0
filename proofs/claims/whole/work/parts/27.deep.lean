/-- how many questions lie above cluster c in the tree of i .. j -/
def dep (sp : Nat → Nat → Nat) (c : Nat) : Nat → Nat → Nat → Nat
  | 0, _, _ => 0
  | f + 1, i, j => if i < j then (if c < sp i j then dep sp c f i (sp i j - 1) else dep sp c f (sp i j) j) + 1 else 0
noncomputable def qa (R : List Run) (dens size way c : Nat) : Nat := dep (spF R dens size way) c 24 0 ((clsOf R dens size).length - 1)
theorem dep_le {sp : Nat → Nat → Nat} {c : Nat} : ∀ f i j, dep sp c f i j ≤ f
  | 0, _, _ => Nat.le_refl _
  | f + 1, i, j => by
    rw [dep]
    split
    · have h1 := dep_le (sp := sp) (c := c) f i (sp i j - 1)
      have h2 := dep_le (sp := sp) (c := c) f (sp i j) j
      split <;> omega
    · omega
section
variable {G : xG} {h : xH} {t co ro dens size way : Nat} {R : List Run}
theorem vTree.ob (hT : vTree h t co R dens size way) : h.1 t = cO 4 [.ref co, .ref (t + 1), .ref (t + 2), .int (nI way)] := by
  obtain ⟨cos, sps, h1, -⟩ := hT
  exact h1.1
theorem tT_split (hT : vTree h t co R dens size way) (hw : way < 2) (hl : (clsOf R dens size).length ≤ 24) {i j : Nat} (hij : i < j) (hj : j < (clsOf R dens size).length) : AM G mX4_split 1 0 [.ref t, .int (nI i), .int (nI j)] h (fun r h' => r = some (.int (nI (spF R dens size way i j))) ∧ h' = h) := by
  obtain ⟨cos, sps, h1, h2, h3⟩ := hT
  exact tX4_split h1 hw (i := i) (j := j) (by omega) (by omega) (z := cut (wF R dens size) i j) (fun e => h3 e i j hij hj)
theorem tX4_questionsAbove (hT : vTree h t co R dens size way) (hV : vCls h co ro R dens size) (hw : way < 2) (hl : (clsOf R dens size).length ≤ 24) {c : Nat} (hc : c < (clsOf R dens size).length) : AM G mX4_questionsAbove 2 0 [.ref t, .int (nI c)] h (fun r h' => r = some (.int (nI (qa R dens size way c))) ∧ h' = h) := by
  have s := hT.ob
  have k0 := hV.ob
  refine AM.of rfl rfl (Nat.le_of_ble_eq_true rfl) rfl ?_
  refine Ax_ic0 dX4_questionsAbove_0 ?_
  refine Ax_is2 dX4_questionsAbove_1 (Nat.le_of_ble_eq_true rfl) (by rfl) ?_
  refine Ax_al0 dX4_questionsAbove_2 ?_
  refine Ax_getf kfX4 fX4_22 dX4_questionsAbove_3 s rfl ?_
  refine Ax_cVi dX4_questionsAbove_6 vX4_26 kfX0 k0 (tC_held hV) rfl rfl (by decide) (by simp [Value.category]) ?_
  refine Ax_ic1 dX4_questionsAbove_9 ?_
  refine Ax_isubn dX4_questionsAbove_10 (by omega) ?_
  refine Ax_is3 dX4_questionsAbove_11 (Nat.le_of_ble_eq_true rfl) (by rfl) ?_
  refine Ax_ic0 dX4_questionsAbove_12 ?_
  refine Ax_is4 dX4_questionsAbove_13 (Nat.le_of_ble_eq_true rfl) (by rfl) ?_
  suffices hloop : ∀ m k i j x, k + m = 24 → i ≤ j → j < (clsOf R dens size).length → j - i + k ≤ 23 → k + dep (spF R dens size way) c m i j = qa R dens size way c → Ax G mX4_questionsAbove 2 0 15 [.ref t, .int (nI c), .int (nI i), .int (nI j), .int (nI k), x] [] h (fun r h' => r = some (.int (nI (qa R dens size way c))) ∧ h' = h) from
    hloop 24 0 0 ((clsOf R dens size).length - 1) _ rfl (Nat.zero_le _) (by omega) (by omega) (by unfold qa; omega)
  intro m
  induction m with
  | zero =>
    intro k i j x hk hij hj hjk hd
    omega
  | succ m ih =>
    intro k i j x hk hij hj hjk hd
    rw [dep] at hd
    refine Ax_il2 dX4_questionsAbove_15 ?_
    refine Ax_il3 dX4_questionsAbove_16 ?_
    refine Ax_cmpgen (tgt := 58) dX4_questionsAbove_17 (by decide) (by omega) (by omega) (fun c17 => ?_) (fun c17 => ?_)
    · rw [if_neg (by omega)] at hd
      rw [← hd]
      refine Ax_il4 dX4_questionsAbove_58 ?_
      exact Ax_iret dX4_questionsAbove_60 rfl rfl ⟨rfl, rfl⟩
    refine Ax_il4 dX4_questionsAbove_20 ?_
    refine Ax_bp24 dX4_questionsAbove_22 ?_
    refine Ax_cmpgen (tgt := 58) dX4_questionsAbove_24 (by decide) (by omega) (by omega) (fun c24 => ?_) (fun c24 => ?_)
    · omega
    obtain ⟨g1, g2⟩ := spF_in (R := R) (dens := dens) (size := size) (way := way) (i := i) (j := j) (by omega) (by omega)
    rw [if_pos (by omega)] at hd
    refine Ax_al0 dX4_questionsAbove_27 ?_
    refine Ax_il2 dX4_questionsAbove_28 ?_
    refine Ax_il3 dX4_questionsAbove_29 ?_
    refine Ax_cVi dX4_questionsAbove_30 vX4_45 kfX4 s (tT_split hT hw hl (i := i) (j := j) (by omega) hj) rfl rfl (by decide) (by simp [Value.category]) ?_
    refine Ax_is5 dX4_questionsAbove_33 (Nat.le_of_ble_eq_true rfl) (by rfl) ?_
    refine Ax_il1 dX4_questionsAbove_35 ?_
    refine Ax_il5 dX4_questionsAbove_36 ?_
    refine Ax_cmpgen (tgt := 49) dX4_questionsAbove_38 (by decide) (by omega) (by omega) (fun c38 => ?_) (fun c38 => ?_)
    · rw [if_neg (by omega)] at hd
      refine Ax_il5 dX4_questionsAbove_49 ?_
      refine Ax_is2 dX4_questionsAbove_51 (Nat.le_of_ble_eq_true rfl) (by rfl) ?_
      refine Ax_inc4_1n dX4_questionsAbove_52 (Nat.le_of_ble_eq_true rfl) (by rfl) ?_
      refine Ax_goto (tgt := 15) dX4_questionsAbove_55 (by decide) ?_
      exact ih (k + 1) _ j _ (by omega) g2 hj (by omega) (by omega)
    · rw [if_pos (by omega)] at hd
      refine Ax_il5 dX4_questionsAbove_41 ?_
      refine Ax_ic1 dX4_questionsAbove_43 ?_
      refine Ax_isubn dX4_questionsAbove_44 (by omega) ?_
      refine Ax_is3 dX4_questionsAbove_45 (Nat.le_of_ble_eq_true rfl) (by rfl) ?_
      refine Ax_goto (tgt := 52) dX4_questionsAbove_46 (by decide) ?_
      refine Ax_inc4_1n dX4_questionsAbove_52 (Nat.le_of_ble_eq_true rfl) (by rfl) ?_
      refine Ax_goto (tgt := 15) dX4_questionsAbove_55 (by decide) ?_
      exact ih (k + 1) i _ _ (by omega) (by omega) (by omega) (by omega) (by omega)
end
