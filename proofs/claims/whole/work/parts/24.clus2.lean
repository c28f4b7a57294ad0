/-! what is read off the clusters -/
noncomputable def ckd (R : List Run) (dens size c : Nat) : Nat := (kd R dens size (cf (clsOf R dens size) c) (cl (clsOf R dens size) c)).getD 0
noncomputable def cbt (R : List Run) (dens size c : Nat) : Int32 := rlo R (cf (clsOf R dens size) c)
noncomputable def ctp (R : List Run) (dens size c : Nat) : Int32 := rhi R (cl (clsOf R dens size) c)
noncomputable def cwt (R : List Run) (dens size c : Nat) : Nat := sm (rwt R) (cf (clsOf R dens size) c) (cl (clsOf R dens size) c - cf (clsOf R dens size) c + 1)
theorem kd_lt {R : List Run} {dens size i j z : Nat} (hq : kd R dens size i j = some z) : z < 3 := by
  unfold kd at hq
  split at hq
  · cases hq; decide
  · split at hq
    · cases hq; decide
    · split at hq
      · cases hq; decide
      · cases hq
theorem ckd_is {R : List Run} {dens size c : Nat} (hc : c < (clsOf R dens size).length) : kd R dens size (cf (clsOf R dens size) c) (cl (clsOf R dens size) c) = some (ckd R dens size c) := by
  have h := (ClOk.at _ _ c (cls_ok R dens size) hc).2.2.2.1
  unfold okB at h
  obtain ⟨z, hz⟩ := Option.isSome_iff_exists.mp h
  unfold ckd
  rw [hz]
  rfl
theorem ckd_lt {R : List Run} {dens size c : Nat} (hc : c < (clsOf R dens size).length) : ckd R dens size c < 3 := kd_lt (ckd_is hc)
section
variable {G : xG} {h : xH} {o ro dens size : Nat} {R : List Run}
theorem vCls.obj (hV : vCls h o ro R dens size) : ∃ fs : List Value, h.1 o = cO 0 fs ∧ fs[0]? = some (.ref ro) ∧ fs = [.ref ro, .ref (o + 1), .ref (o + 2), .ref (o + 3), .ref (o + 4), .ref (o + 5), .ref (o + 6), .int (nI dens), .int (nI size), .int (nI (clsOf R dens size).length)] := by
  obtain ⟨kn, fi, la, we, fw, en, hS, -⟩ := hV
  exact ⟨_, hS.1, rfl, rfl⟩
theorem vCls.ob (hV : vCls h o ro R dens size) : h.1 o = cO 0 [.ref ro, .ref (o + 1), .ref (o + 2), .ref (o + 3), .ref (o + 4), .ref (o + 5), .ref (o + 6), .int (nI dens), .int (nI size), .int (nI (clsOf R dens size).length)] := by
  obtain ⟨kn, fi, la, we, fw, en, hS, -⟩ := hV
  exact hS.1
theorem tC_held (hV : vCls h o ro R dens size) : AM G mX0_held 0 0 [.ref o] h (fun r h' => r = some (.int (nI (clsOf R dens size).length)) ∧ h' = h) := by
  obtain ⟨kn, fi, la, we, fw, en, hS, -⟩ := hV
  exact tX0_held hS
theorem tC_kind (hV : vCls h o ro R dens size) (hl : (clsOf R dens size).length ≤ 24) {c : Nat} (hc : c < (clsOf R dens size).length) : AM G mX0_kind 0 0 [.ref o, .int (nI c)] h (fun r h' => r = some (.int (nI (ckd R dens size c))) ∧ h' = h) := by
  obtain ⟨kn, fi, la, we, fw, en, hS, hR⟩ := hV
  have := tX0_kind (G := G) hS (k := c) (by omega)
  rw [(hR c hc).1, ckd_is hc] at this
  exact this
theorem tC_firstRun (hV : vCls h o ro R dens size) (hl : (clsOf R dens size).length ≤ 24) {c : Nat} (hc : c < (clsOf R dens size).length) : AM G mX0_firstRun 0 0 [.ref o, .int (nI c)] h (fun r h' => r = some (.int (nI (cf (clsOf R dens size) c))) ∧ h' = h) := by
  obtain ⟨kn, fi, la, we, fw, en, hS, hR⟩ := hV
  have := tX0_firstRun (G := G) hS (k := c) (by omega)
  rw [(hR c hc).2.1] at this
  exact this
theorem tC_lastRun (hV : vCls h o ro R dens size) (hl : (clsOf R dens size).length ≤ 24) {c : Nat} (hc : c < (clsOf R dens size).length) : AM G mX0_lastRun 0 0 [.ref o, .int (nI c)] h (fun r h' => r = some (.int (nI (cl (clsOf R dens size) c))) ∧ h' = h) := by
  obtain ⟨kn, fi, la, we, fw, en, hS, hR⟩ := hV
  have := tX0_lastRun (G := G) hS (k := c) (by omega)
  rw [(hR c hc).2.2.1] at this
  exact this
theorem tC_weight (hV : vCls h o ro R dens size) (hl : (clsOf R dens size).length ≤ 24) {c : Nat} (hc : c < (clsOf R dens size).length) : AM G mX0_weight 0 0 [.ref o, .int (nI c)] h (fun r h' => r = some (.int (nI (cwt R dens size c))) ∧ h' = h) := by
  obtain ⟨kn, fi, la, we, fw, en, hS, hR⟩ := hV
  have := tX0_weight (G := G) hS (k := c) (by omega)
  rw [(hR c hc).2.2.2] at this
  exact this
theorem tC_has (hV : vCls h o ro R dens size) (hl : (clsOf R dens size).length ≤ 24) (i : Int32) : AM G mX0_has 0 0 [.ref o, .int i] h (fun r h' => r = some (.int (nI (gIn (clsOf R dens size).length i).toNat)) ∧ h' = h) := by
  obtain ⟨kn, fi, la, we, fw, en, hS, hR⟩ := hV
  exact tX0_has hS (by omega) i
theorem tC_runsOf (hV : vCls h o ro R dens size) (hl : (clsOf R dens size).length ≤ 24) {c : Nat} (hc : c < (clsOf R dens size).length) : AM G mX0_runsOf 1 0 [.ref o, .int (nI c)] h (fun r h' => r = some (.int (nI (cl (clsOf R dens size) c - cf (clsOf R dens size) c + 1))) ∧ h' = h) := by
  have s := hV.ob
  have hk := ClOk.at _ _ c (cls_ok R dens size) hc
  refine AM.of rfl rfl (Nat.le_of_ble_eq_true rfl) rfl ?_
  refine Ax_al0 dX0_runsOf_0 ?_
  refine Ax_il1 dX0_runsOf_1 ?_
  refine Ax_cVi dX0_runsOf_2 vX0_44 kfX0 s (tC_lastRun hV hl hc) rfl rfl (by decide) (by simp [Value.category]) ?_
  refine Ax_al0 dX0_runsOf_5 ?_
  refine Ax_il1 dX0_runsOf_6 ?_
  refine Ax_cVi dX0_runsOf_7 vX0_48 kfX0 s (tC_firstRun hV hl hc) rfl rfl (by decide) (by simp [Value.category]) ?_
  refine Ax_isubn dX0_runsOf_10 (by omega) ?_
  refine Ax_ic1 dX0_runsOf_11 ?_
  refine Ax_iaddn dX0_runsOf_12 ?_
  exact Ax_iret dX0_runsOf_13 rfl rfl ⟨rfl, rfl⟩
theorem tC_bottom (hV : vCls h o ro R dens size) (hU : vRuns h ro R) (hR : R.length ≤ 24) {c : Nat} (hc : c < (clsOf R dens size).length) : AM G mX0_bottom 1 0 [.ref o, .int (nI c)] h (fun r h' => r = some (.int (cbt R dens size c)) ∧ h' = h) := by
  have s := hV.ob
  have r0 := hU.obj
  have hl := Nat.le_trans (cls_len R dens size) hR
  have hk := ClOk.at _ _ c (cls_ok R dens size) hc
  refine AM.of rfl rfl (Nat.le_of_ble_eq_true rfl) rfl ?_
  refine Ax_al0 dX0_bottom_0 ?_
  refine Ax_getf kfX0 fX0_40 dX0_bottom_1 s rfl ?_
  refine Ax_al0 dX0_bottom_4 ?_
  refine Ax_il1 dX0_bottom_5 ?_
  refine Ax_cVi dX0_bottom_6 vX0_48 kfX0 s (tC_firstRun hV hl hc) rfl rfl (by decide) (by simp [Value.category]) ?_
  refine Ax_cVi dX0_bottom_9 vX0_51 kfX2 r0 (tR_low hU hR (k := cf (clsOf R dens size) c) (by omega)) rfl rfl (by decide) (by simp [Value.category]) ?_
  exact Ax_iret dX0_bottom_12 rfl rfl ⟨rfl, rfl⟩
theorem tC_top (hV : vCls h o ro R dens size) (hU : vRuns h ro R) (hR : R.length ≤ 24) {c : Nat} (hc : c < (clsOf R dens size).length) : AM G mX0_top 1 0 [.ref o, .int (nI c)] h (fun r h' => r = some (.int (ctp R dens size c)) ∧ h' = h) := by
  have s := hV.ob
  have r0 := hU.obj
  have hl := Nat.le_trans (cls_len R dens size) hR
  have hk := ClOk.at _ _ c (cls_ok R dens size) hc
  refine AM.of rfl rfl (Nat.le_of_ble_eq_true rfl) rfl ?_
  refine Ax_al0 dX0_top_0 ?_
  refine Ax_getf kfX0 fX0_40 dX0_top_1 s rfl ?_
  refine Ax_al0 dX0_top_4 ?_
  refine Ax_il1 dX0_top_5 ?_
  refine Ax_cVi dX0_top_6 vX0_44 kfX0 s (tC_lastRun hV hl hc) rfl rfl (by decide) (by simp [Value.category]) ?_
  refine Ax_cVi dX0_top_9 vX0_56 kfX2 r0 (tR_high hU hR (k := cl (clsOf R dens size) c) (by omega)) rfl rfl (by decide) (by simp [Value.category]) ?_
  exact Ax_iret dX0_top_12 rfl rfl ⟨rfl, rfl⟩
end
