/-! ChoiceCode: lines, clusters -/
theorem tab_ne {x : Int32} {n k : Nat} (hw : x.toInt < 0 ∨ (n : Int) ≤ x.toInt) (hk : k < n) (hn : n < 2147483648) : ¬ x = nI k := by
  intro q
  subst q
  rw [nI_toInt (by omega)] at hw
  omega
section
variable {G : xG} {h : xH} {C : Cs} {rt rw dn sz wy stale cap : Nat} {cl' : Int32} {bs : List Nat}
theorem tL_has {R : List Run} {dens size rest : Nat} {L : List Ln} {tg dn' : Int32} (hV : vC h R dens size rest L tg dn') (hn : L.length ≤ 400) (i : Int32) : AM G mX1_has 0 0 [.ref 21, .int i] h (fun r h' => r = some (.int (nI (gIn L.length i).toNat)) ∧ h' = h) := by
  obtain ⟨kn, fi, se, rw', st, nu, hS, hL⟩ := hV
  exact tX1_has hS hn i
theorem gIn_k {n : Nat} {i : Int32} (h : gIn n i = true) (hn : n < 2 ^ 31) : ∃ k, k < n ∧ i = nI k := by
  unfold gIn at h
  rw [decide_eq_true_eq] at h
  exact x_ix h.1 h.2 hn
theorem tX5_line (hS : vX5 h C rt rw dn sz wy cl' stale bs cap) (hO : sOk C rt rw dn sz wy) (i what : Int32) : AM G mX5_line 30 0 [.ref 0, .int i, .int what] h
    (fun q h' => q = some (.int (lineS (cLn C rt dn sz wy) i what)) ∧ vX5 h' C rt rw dn sz wy cl' 0 bs cap ∧ xFr 0 28 h h') := by
  have u := hS.1
  obtain ⟨b1, b2, b3, b4⟩ := hO.bd
  refine AM.of rfl rfl (Nat.le_of_ble_eq_true rfl) rfl ?_
  refine Ax_al0 dX5_line_0 ?_
  refine Ax_cVv dX5_line_1 vX5_112 kfX5 u (tX5_workOut (G := G) hS hO) rfl rfl (by decide) (by simp [Value.category]) (Nat.le_refl _) (fun h11 q11 => ?_)
  obtain ⟨hS1, hF1⟩ := q11
  have u1 := hS1.1
  obtain ⟨-, -, -, tg, dn', hV⟩ := hS1.done
  have c0 := hV.ob
  refine Ax_al0 dX5_line_4 ?_
  refine Ax_getf kfX5 fX5_42 dX5_line_5 u1 rfl ?_
  refine Ax_il1 dX5_line_8 ?_
  refine Ax_cVi dX5_line_9 vX5_148 kfX1 c0 (tL_has hV (by omega) i) rfl rfl (by decide) (by simp [Value.category]) ?_
  refine Ax_ifneB (tgt := 18) dX5_line_12 (by decide) (fun c12 => ?_) (fun c12 => ?_)
  rotate_left
  · have e : lineS (cLn C rt dn sz wy) i what = -101 := by unfold lineS; rw [c12, if_neg (by decide)]
    rw [e]
    refine Ax_bpm101 dX5_line_15 ?_
    exact Ax_iret dX5_line_17 rfl rfl ⟨rfl, hS1, hF1⟩
  obtain ⟨k, hk, rfl⟩ := gIn_k c12 (by omega)
  have e : lineS (cLn C rt dn sz wy) (nI k) what = (if what = nI 0 then nI (gL (cLn C rt dn sz wy) k).1 else if what = nI 1 then (gL (cLn C rt dn sz wy) k).2.1 else if what = nI 2 then (gL (cLn C rt dn sz wy) k).2.2.1 else -102) := by
    unfold lineS
    rw [c12, if_pos rfl, nI_clamp (by omega)]
  rw [e]
  refine Ax_il2 dX5_line_18 ?_
  rcases x_tabN 3 what with hw | ⟨w, hw, rfl⟩
  · rw [if_neg (tab_ne hw (by decide) (by decide)), if_neg (tab_ne hw (by decide) (by decide)), if_neg (tab_ne hw (by decide) (by decide))]
    have hw' : what.toInt < 0 ∨ 2 < what.toInt := by omega
    refine Ax_tabO (tgt := 71) dX5_line_19 (by assumption) (by decide) ?_
    refine Ax_bpm102 dX5_line_71 ?_
    exact Ax_iret dX5_line_73 rfl rfl ⟨rfl, hS1, hF1⟩
  · rcases (show w = 0 ∨ w = 1 ∨ w = 2 by omega) with rfl | rfl | rfl
    · rw [if_pos rfl]
      refine Ax_tabI (tgt := 44) dX5_line_19 (by decide) (by decide) rfl (by decide) ?_
      refine Ax_al0 dX5_line_44 ?_
      refine Ax_getf kfX5 fX5_42 dX5_line_45 u1 rfl ?_
      refine Ax_il1 dX5_line_48 ?_
      refine Ax_cVi dX5_line_49 vX5_149 kfX1 c0 (tL_kind hV (by omega) hk) rfl rfl (by decide) (by simp [Value.category]) ?_
      exact Ax_iret dX5_line_52 rfl rfl ⟨rfl, hS1, hF1⟩
    · rw [if_neg (by decide), if_pos rfl]
      refine Ax_tabI (tgt := 53) dX5_line_19 (by decide) (by decide) rfl (by decide) ?_
      refine Ax_al0 dX5_line_53 ?_
      refine Ax_getf kfX5 fX5_42 dX5_line_54 u1 rfl ?_
      refine Ax_il1 dX5_line_57 ?_
      refine Ax_cVi dX5_line_58 vX5_150 kfX1 c0 (tL_first hV (by omega) hk) rfl rfl (by decide) (by simp [Value.category]) ?_
      exact Ax_iret dX5_line_61 rfl rfl ⟨rfl, hS1, hF1⟩
    · rw [if_neg (by decide), if_neg (by decide), if_pos rfl]
      refine Ax_tabI (tgt := 62) dX5_line_19 (by decide) (by decide) rfl (by decide) ?_
      refine Ax_al0 dX5_line_62 ?_
      refine Ax_getf kfX5 fX5_42 dX5_line_63 u1 rfl ?_
      refine Ax_il1 dX5_line_66 ?_
      refine Ax_cVi dX5_line_67 vX5_153 kfX1 c0 (tL_second hV (by omega) hk) rfl rfl (by decide) (by simp [Value.category]) ?_
      exact Ax_iret dX5_line_70 rfl rfl ⟨rfl, hS1, hF1⟩
theorem tX5_bits (hS : vX5 h C rt rw dn sz wy cl' stale bs cap) (hO : sOk C rt rw dn sz wy) (i : Int32) : AM G mX5_bits 30 0 [.ref 0, .int i] h
    (fun q h' => q = some (.long (bitsS (cLn C rt dn sz wy) i)) ∧ vX5 h' C rt rw dn sz wy cl' 0 bs cap ∧ xFr 0 28 h h') := by
  have u := hS.1
  obtain ⟨b1, b2, b3, b4⟩ := hO.bd
  refine AM.of rfl rfl (Nat.le_of_ble_eq_true rfl) rfl ?_
  refine Ax_al0 dX5_bits_0 ?_
  refine Ax_cVv dX5_bits_1 vX5_112 kfX5 u (tX5_workOut (G := G) hS hO) rfl rfl (by decide) (by simp [Value.category]) (Nat.le_refl _) (fun h11 q11 => ?_)
  obtain ⟨hS1, hF1⟩ := q11
  have u1 := hS1.1
  obtain ⟨-, -, -, tg, dn', hV⟩ := hS1.done
  have c0 := hV.ob
  refine Ax_al0 dX5_bits_4 ?_
  refine Ax_getf kfX5 fX5_42 dX5_bits_5 u1 rfl ?_
  refine Ax_il1 dX5_bits_8 ?_
  refine Ax_cVi dX5_bits_9 vX5_148 kfX1 c0 (tL_has hV (by omega) i) rfl rfl (by decide) (by simp [Value.category]) ?_
  refine Ax_ifeqB (tgt := 26) dX5_bits_12 (by decide) (fun c12 => ?_) (fun c12 => ?_)
  · have e : bitsS (cLn C rt dn sz wy) i = -101 := by unfold bitsS; rw [c12, if_neg (by decide)]
    rw [e]
    refine Ax_ldc2 dX5_bits_26 cX5_160 ?_
    exact Ax_lret dX5_bits_29 rfl ⟨rfl, hS1, hF1⟩
  obtain ⟨k, hk, rfl⟩ := gIn_k c12 (by omega)
  have e : bitsS (cLn C rt dn sz wy) (nI k) = lN (gL (cLn C rt dn sz wy) k).2.2.2.1 := by
    unfold bitsS
    rw [c12, if_pos rfl, nI_clamp (by omega)]
  rw [e]
  refine Ax_al0 dX5_bits_15 ?_
  refine Ax_getf kfX5 fX5_42 dX5_bits_16 u1 rfl ?_
  refine Ax_il1 dX5_bits_19 ?_
  refine Ax_cVl dX5_bits_20 vX5_156 kfX1 c0 (tL_row hV (by omega) hk) rfl rfl (by decide) (by simp [Value.category]) ?_
  refine Ax_goto (tgt := 29) dX5_bits_23 (by decide) ?_
  exact Ax_lret dX5_bits_29 rfl ⟨rfl, hS1, hF1⟩
theorem tX5_entry (hS : vX5 h C rt rw dn sz wy cl' stale bs cap) (hO : sOk C rt rw dn sz wy) (i k : Int32) : AM G mX5_entry 30 0 [.ref 0, .int i, .int k] h
    (fun q h' => q = some (.int (entryS (runsOf C rt) dn sz rt (cLn C rt dn sz wy) i k)) ∧ vX5 h' C rt rw dn sz wy cl' 0 bs cap ∧ xFr 0 28 h h') := by
  have u := hS.1
  obtain ⟨b1, b2, b3, b4⟩ := hO.bd
  refine AM.of rfl rfl (Nat.le_of_ble_eq_true rfl) rfl ?_
  refine Ax_al0 dX5_entry_0 ?_
  refine Ax_cVv dX5_entry_1 vX5_112 kfX5 u (tX5_workOut (G := G) hS hO) rfl rfl (by decide) (by simp [Value.category]) (Nat.le_refl _) (fun h11 q11 => ?_)
  obtain ⟨hS1, hF1⟩ := q11
  have u1 := hS1.1
  obtain ⟨-, -, -, tg, dn', hV⟩ := hS1.done
  have c0 := hV.ob
  refine Ax_al0 dX5_entry_4 ?_
  refine Ax_getf kfX5 fX5_42 dX5_entry_5 u1 rfl ?_
  refine Ax_il1 dX5_entry_8 ?_
  refine Ax_cVi dX5_entry_9 vX5_148 kfX1 c0 (tL_has hV (by omega) i) rfl rfl (by decide) (by simp [Value.category]) ?_
  refine Ax_ifeqB (tgt := 28) dX5_entry_12 (by decide) (fun c12 => ?_) (fun c12 => ?_)
  · have e : entryS (runsOf C rt) dn sz rt (cLn C rt dn sz wy) i k = -101 := by unfold entryS; rw [c12, if_neg (by decide)]
    rw [e]
    refine Ax_bpm101 dX5_entry_28 ?_
    exact Ax_iret dX5_entry_30 rfl rfl ⟨rfl, hS1, hF1⟩
  obtain ⟨j, hj, rfl⟩ := gIn_k c12 (by omega)
  have e : entryS (runsOf C rt) dn sz rt (cLn C rt dn sz wy) (nI j) k = numR (runsOf C rt) dn sz rt (gL (cLn C rt dn sz wy) j) k.toInt64.toInt := by
    unfold entryS
    rw [c12, if_pos rfl, nI_clamp (by omega), Int32.toInt_toInt64]
  rw [e]
  refine Ax_al0 dX5_entry_15 ?_
  refine Ax_getf kfX5 fX5_42 dX5_entry_16 u1 rfl ?_
  refine Ax_il1 dX5_entry_19 ?_
  refine Ax_il2 dX5_entry_20 ?_
  refine Ax_i2l dX5_entry_21 ?_
  refine Ax_cVi dX5_entry_22 vX5_162 kfX1 c0 (tC1_number (G := G) hV (by omega) b2 hj (b4 _ (gL_in hj)) k.toInt64) rfl rfl (by decide) (by simp [Value.category]) ?_
  refine Ax_goto (tgt := 30) dX5_entry_25 (by decide) ?_
  exact Ax_iret dX5_entry_30 rfl rfl ⟨rfl, hS1, hF1⟩
theorem tX5_cluster (hS : vX5 h C rt rw dn sz wy cl' stale bs cap) (hO : sOk C rt rw dn sz wy) (i what : Int32) : AM G mX5_cluster 30 0 [.ref 0, .int i, .int what] h
    (fun q h' => q = some (.int (clusS (runsOf C rt) dn sz wy i what)) ∧ vX5 h' C rt rw dn sz wy cl' 0 bs cap ∧ xFr 0 28 h h') := by
  have u := hS.1
  obtain ⟨o0, o1, o2, o3, o4, o5, o6, o7⟩ := id hO
  obtain ⟨i1, i2, i3⟩ := runs_inv o0 rt
  have hlk := Nat.le_trans (cls_len (runsOf C rt) dn sz) i2
  refine AM.of rfl rfl (Nat.le_of_ble_eq_true rfl) rfl ?_
  refine Ax_al0 dX5_cluster_0 ?_
  refine Ax_cVv dX5_cluster_1 vX5_112 kfX5 u (tX5_workOut (G := G) hS hO) rfl rfl (by decide) (by simp [Value.category]) (Nat.le_refl _) (fun h11 q11 => ?_)
  obtain ⟨hS1, hF1⟩ := q11
  have u1 := hS1.1
  obtain ⟨hU, hK, hT, -⟩ := hS1.done
  have k0 := hK.ob
  have t0 := hT.ob
  refine Ax_al0 dX5_cluster_4 ?_
  refine Ax_getf kfX5 fX5_24 dX5_cluster_5 u1 rfl ?_
  refine Ax_il1 dX5_cluster_8 ?_
  refine Ax_cVi dX5_cluster_9 vX5_131 kfX0 k0 (tC_has hK hlk i) rfl rfl (by decide) (by simp [Value.category]) ?_
  refine Ax_ifneB (tgt := 18) dX5_cluster_12 (by decide) (fun c12 => ?_) (fun c12 => ?_)
  rotate_left
  · have e : clusS (runsOf C rt) dn sz wy i what = -101 := by unfold clusS; rw [c12, if_neg (by decide)]
    rw [e]
    refine Ax_bpm101 dX5_cluster_15 ?_
    exact Ax_iret dX5_cluster_17 rfl rfl ⟨rfl, hS1, hF1⟩
  obtain ⟨k, hk, rfl⟩ := gIn_k c12 (by omega)
  have e : clusS (runsOf C rt) dn sz wy (nI k) what = (if what = nI 0 then nI (ckd (runsOf C rt) dn sz k) else if what = nI 1 then nI (cf (clsOf (runsOf C rt) dn sz) k) else if what = nI 2 then nI (cl (clsOf (runsOf C rt) dn sz) k - cf (clsOf (runsOf C rt) dn sz) k + 1) else if what = nI 3 then nI (cwt (runsOf C rt) dn sz k) else if what = nI 4 then nI (qa (runsOf C rt) dn sz wy k) else -102) := by
    unfold clusS
    rw [c12, if_pos rfl, nI_clamp (by omega)]
  rw [e]
  refine Ax_il2 dX5_cluster_18 ?_
  rcases x_tabN 5 what with hw | ⟨w, hw, rfl⟩
  · rw [if_neg (tab_ne hw (by decide) (by decide)), if_neg (tab_ne hw (by decide) (by decide)), if_neg (tab_ne hw (by decide) (by decide)), if_neg (tab_ne hw (by decide) (by decide)), if_neg (tab_ne hw (by decide) (by decide))]
    have hw' : what.toInt < 0 ∨ 4 < what.toInt := by omega
    refine Ax_tabO (tgt := 97) dX5_cluster_19 (by assumption) (by decide) ?_
    refine Ax_bpm102 dX5_cluster_97 ?_
    exact Ax_iret dX5_cluster_99 rfl rfl ⟨rfl, hS1, hF1⟩
  · rcases (show w = 0 ∨ w = 1 ∨ w = 2 ∨ w = 3 ∨ w = 4 by omega) with rfl | rfl | rfl | rfl | rfl
    · rw [if_pos rfl]
      refine Ax_tabI (tgt := 52) dX5_cluster_19 (by decide) (by decide) rfl (by decide) ?_
      refine Ax_al0 dX5_cluster_52 ?_
      refine Ax_getf kfX5 fX5_24 dX5_cluster_53 u1 rfl ?_
      refine Ax_il1 dX5_cluster_56 ?_
      refine Ax_cVi dX5_cluster_57 vX5_132 kfX0 k0 (tC_kind hK hlk hk) rfl rfl (by decide) (by simp [Value.category]) ?_
      exact Ax_iret dX5_cluster_60 rfl rfl ⟨rfl, hS1, hF1⟩
    · rw [if_neg (by decide), if_pos rfl]
      refine Ax_tabI (tgt := 61) dX5_cluster_19 (by decide) (by decide) rfl (by decide) ?_
      refine Ax_al0 dX5_cluster_61 ?_
      refine Ax_getf kfX5 fX5_24 dX5_cluster_62 u1 rfl ?_
      refine Ax_il1 dX5_cluster_65 ?_
      refine Ax_cVi dX5_cluster_66 vX5_136 kfX0 k0 (tC_firstRun hK hlk hk) rfl rfl (by decide) (by simp [Value.category]) ?_
      exact Ax_iret dX5_cluster_69 rfl rfl ⟨rfl, hS1, hF1⟩
    · rw [if_neg (by decide), if_neg (by decide), if_pos rfl]
      refine Ax_tabI (tgt := 70) dX5_cluster_19 (by decide) (by decide) rfl (by decide) ?_
      refine Ax_al0 dX5_cluster_70 ?_
      refine Ax_getf kfX5 fX5_24 dX5_cluster_71 u1 rfl ?_
      refine Ax_il1 dX5_cluster_74 ?_
      refine Ax_cVi dX5_cluster_75 vX5_139 kfX0 k0 (tC_runsOf hK hlk hk) rfl rfl (by decide) (by simp [Value.category]) ?_
      exact Ax_iret dX5_cluster_78 rfl rfl ⟨rfl, hS1, hF1⟩
    · rw [if_neg (by decide), if_neg (by decide), if_neg (by decide), if_pos rfl]
      refine Ax_tabI (tgt := 79) dX5_cluster_19 (by decide) (by decide) rfl (by decide) ?_
      refine Ax_al0 dX5_cluster_79 ?_
      refine Ax_getf kfX5 fX5_24 dX5_cluster_80 u1 rfl ?_
      refine Ax_il1 dX5_cluster_83 ?_
      refine Ax_cVi dX5_cluster_84 vX5_142 kfX0 k0 (tC_weight hK hlk hk) rfl rfl (by decide) (by simp [Value.category]) ?_
      exact Ax_iret dX5_cluster_87 rfl rfl ⟨rfl, hS1, hF1⟩
    · rw [if_neg (by decide), if_neg (by decide), if_neg (by decide), if_neg (by decide), if_pos rfl]
      refine Ax_tabI (tgt := 88) dX5_cluster_19 (by decide) (by decide) rfl (by decide) ?_
      refine Ax_al0 dX5_cluster_88 ?_
      refine Ax_getf kfX5 fX5_33 dX5_cluster_89 u1 rfl ?_
      refine Ax_il1 dX5_cluster_92 ?_
      refine Ax_cVi dX5_cluster_93 vX5_145 kfX4 t0 (tX4_questionsAbove hT hK o7 hlk hk) rfl rfl (by decide) (by simp [Value.category]) ?_
      exact Ax_iret dX5_cluster_96 rfl rfl ⟨rfl, hS1, hF1⟩
end
