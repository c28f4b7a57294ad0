/-! the reference: runs, clusters, lines asked; spent -/
section
variable {G : xG} {h : xH} {C : Cs} {rt rw dn sz wy : Nat} {cl' : Int32} {bs : List Nat}
theorem tX6_run (hS : vM h C rt rw dn sz wy cl' bs) (hO : sOk C rt rw dn sz wy) (r what : Int32) : AM G mX6_run 4 0 [.ref 30, .int r, .int what] h (fun q h' => q = some (.int (runS (runsOf C rt) r what)) ∧ vM h' C rt rw dn sz wy cl' bs ∧ xFr 30 29 h h') := by
  obtain ⟨o0, o1, o2, o3, o4, o5, o6, o7⟩ := id hO
  obtain ⟨i1, i2, i3⟩ := runs_inv o0 rt
  obtain ⟨⟨rn, kn, ln, pt, tk, m⟩, -⟩ := id hS
  refine AM.of rfl rfl (Nat.le_of_ble_eq_true rfl) rfl ?_
  refine Ax_al0 dX6_run_0 ?_
  refine Ax_cVv dX6_run_1 vX6_215 kfX6 m (tX6_make (G := G) hS hO) rfl rfl (by decide) (by simp [Value.category]) (Nat.le_refl _) (fun h1 q1 => ?_)
  obtain ⟨hS1, hF1⟩ := q1
  obtain ⟨⟨pt1, tk1, m⟩, hCs, ⟨lo, hi, tg, wt, m12, m13, m14, m15, hRep⟩, hK, hT, hD, hL, h5, hOut⟩ := id hS1
  have hin := tIn (G := G) (h := h1) r (lN 0) (nI (runsOf C rt).length - nI 1).toInt64 (a' := 0) (b' := ((runsOf C rt).length : Int) - 1) (by decide) (by rw [Int32.toInt_toInt64, pre_n (by omega)])
  rw [inB_gIn _ (by omega)] at hin
  unfold runS g4
  refine Ax_il1 dX6_run_4 ?_
  refine Ax_i2l dX6_run_5 ?_
  refine Ax_lc0 dX6_run_6 ?_
  refine Ax_al0 dX6_run_7 ?_
  refine Ax_getf kfX6 fX6_138 dX6_run_8 m rfl ?_
  refine Ax_ic1 dX6_run_11 ?_
  refine Ax_isub dX6_run_12 ?_
  refine Ax_i2l dX6_run_13 ?_
  refine Ax_cSi dX6_run_14 sX6_110 hin rfl rfl (by decide) (by simp [Value.category]) ?_
  refine Ax_ifneB (tgt := 23) dX6_run_17 (by decide) (fun c17 => ?_) (fun c17 => ?_)
  rotate_left
  · rw [c17, if_neg (by decide)]
    refine Ax_bpm101 dX6_run_20 ?_
    exact Ax_iret dX6_run_22 rfl rfl ⟨rfl, hS1.raw, hF1⟩
  rw [c17, if_pos rfl]
  obtain ⟨k, hk, rfl⟩ := gIn_k c17 (by omega)
  rw [nI_clamp (by omega)]
  obtain ⟨e1, e2, e3, e4⟩ := hRep k hk
  rw [← e1, ← e2, ← e3, ← e4]
  refine Ax_il2 dX6_run_23 ?_
  rcases x_tabN 4 what with hw | ⟨w, hw, rfl⟩
  · rw [if_neg (tab_ne hw (by decide) (by decide)), if_neg (tab_ne hw (by decide) (by decide)), if_neg (tab_ne hw (by decide) (by decide)), if_neg (tab_ne hw (by decide) (by decide))]
    have hw' : what.toInt < 0 ∨ 3 < what.toInt := by omega
    refine Ax_tabO (tgt := 84) dX6_run_24 (by assumption) (by decide) ?_
    refine Ax_bpm102 dX6_run_84 ?_
    exact Ax_iret dX6_run_86 rfl rfl ⟨rfl, hS1.raw, hF1⟩
  · rcases (show w = 0 ∨ w = 1 ∨ w = 2 ∨ w = 3 by omega) with rfl | rfl | rfl | rfl
    · rw [if_pos rfl]
      refine Ax_tabI (tgt := 56) dX6_run_24 (by decide) (by decide) rfl (by decide) ?_
      refine Ax_al0 dX6_run_56 ?_
      refine Ax_getf kfX6 fX6_36 dX6_run_57 m rfl ?_
      refine Ax_il1 dX6_run_60 ?_
      refine Ax_ialdn dX6_run_61 m12 (by omega) (by omega) ?_
      exact Ax_iret dX6_run_62 rfl rfl ⟨rfl, hS1.raw, hF1⟩
    · rw [if_neg (by decide), if_pos rfl]
      refine Ax_tabI (tgt := 63) dX6_run_24 (by decide) (by decide) rfl (by decide) ?_
      refine Ax_al0 dX6_run_63 ?_
      refine Ax_getf kfX6 fX6_39 dX6_run_64 m rfl ?_
      refine Ax_il1 dX6_run_67 ?_
      refine Ax_ialdn dX6_run_68 m13 (by omega) (by omega) ?_
      exact Ax_iret dX6_run_69 rfl rfl ⟨rfl, hS1.raw, hF1⟩
    · rw [if_neg (by decide), if_neg (by decide), if_pos rfl]
      refine Ax_tabI (tgt := 70) dX6_run_24 (by decide) (by decide) rfl (by decide) ?_
      refine Ax_al0 dX6_run_70 ?_
      refine Ax_getf kfX6 fX6_42 dX6_run_71 m rfl ?_
      refine Ax_il1 dX6_run_74 ?_
      refine Ax_ialdn dX6_run_75 m14 (by omega) (by omega) ?_
      exact Ax_iret dX6_run_76 rfl rfl ⟨rfl, hS1.raw, hF1⟩
    · rw [if_neg (by decide), if_neg (by decide), if_neg (by decide), if_pos rfl]
      refine Ax_tabI (tgt := 77) dX6_run_24 (by decide) (by decide) rfl (by decide) ?_
      refine Ax_al0 dX6_run_77 ?_
      refine Ax_getf kfX6 fX6_45 dX6_run_78 m rfl ?_
      refine Ax_il1 dX6_run_81 ?_
      refine Ax_ialdn dX6_run_82 m15 (by omega) (by omega) ?_
      exact Ax_iret dX6_run_83 rfl rfl ⟨rfl, hS1.raw, hF1⟩
theorem tX6_cluster (hS : vM h C rt rw dn sz wy cl' bs) (hO : sOk C rt rw dn sz wy) (i what : Int32) : AM G mX6_cluster 4 0 [.ref 30, .int i, .int what] h (fun q h' => q = some (.int (clusS (runsOf C rt) dn sz wy i what)) ∧ vM h' C rt rw dn sz wy cl' bs ∧ xFr 30 29 h h') := by
  obtain ⟨o0, o1, o2, o3, o4, o5, o6, o7⟩ := id hO
  obtain ⟨i1, i2, i3⟩ := runs_inv o0 rt
  have hlk := Nat.le_trans (cls_len (runsOf C rt) dn sz) i2
  obtain ⟨⟨rn, kn, ln, pt, tk, m⟩, -⟩ := id hS
  refine AM.of rfl rfl (Nat.le_of_ble_eq_true rfl) rfl ?_
  refine Ax_al0 dX6_cluster_0 ?_
  refine Ax_cVv dX6_cluster_1 vX6_215 kfX6 m (tX6_make (G := G) hS hO) rfl rfl (by decide) (by simp [Value.category]) (Nat.le_refl _) (fun h1 q1 => ?_)
  obtain ⟨hS1, hF1⟩ := q1
  obtain ⟨⟨pt1, tk1, m⟩, hCs, hV, hK, hT, ⟨dp, m24, hdp⟩, hL, h5, hOut⟩ := id hS1
  obtain ⟨ki, fi, ma, fw, m17, m18, m19, m21, hR3⟩ := id hK
  have hin := tIn (G := G) (h := h1) i (lN 0) (nI (clsOf (runsOf C rt) dn sz).length - nI 1).toInt64 (a' := 0) (b' := ((clsOf (runsOf C rt) dn sz).length : Int) - 1) (by decide) (by rw [Int32.toInt_toInt64, pre_n (by omega)])
  rw [inB_gIn _ (by omega)] at hin
  unfold clusS
  refine Ax_il1 dX6_cluster_4 ?_
  refine Ax_i2l dX6_cluster_5 ?_
  refine Ax_lc0 dX6_cluster_6 ?_
  refine Ax_al0 dX6_cluster_7 ?_
  refine Ax_getf kfX6 fX6_149 dX6_cluster_8 m rfl ?_
  refine Ax_ic1 dX6_cluster_11 ?_
  refine Ax_isub dX6_cluster_12 ?_
  refine Ax_i2l dX6_cluster_13 ?_
  refine Ax_cSi dX6_cluster_14 sX6_110 hin rfl rfl (by decide) (by simp [Value.category]) ?_
  refine Ax_ifneB (tgt := 23) dX6_cluster_17 (by decide) (fun c17 => ?_) (fun c17 => ?_)
  rotate_left
  · rw [c17, if_neg (by decide)]
    refine Ax_bpm101 dX6_cluster_20 ?_
    exact Ax_iret dX6_cluster_22 rfl rfl ⟨rfl, hS1.raw, hF1⟩
  rw [c17, if_pos rfl]
  obtain ⟨k, hk, rfl⟩ := gIn_k c17 (by omega)
  rw [nI_clamp (by omega)]
  obtain ⟨e1, e2, e3⟩ := hR3 k hk
  have e4 := hdp k hk
  rw [← e1, ← e2, ← e3, ← e4]
  refine Ax_il2 dX6_cluster_23 ?_
  rcases x_tabN 5 what with hw | ⟨w, hw, rfl⟩
  · rw [if_neg (tab_ne hw (by decide) (by decide)), if_neg (tab_ne hw (by decide) (by decide)), if_neg (tab_ne hw (by decide) (by decide)), if_neg (tab_ne hw (by decide) (by decide)), if_neg (tab_ne hw (by decide) (by decide))]
    have hw' : what.toInt < 0 ∨ 4 < what.toInt := by omega
    refine Ax_tabO (tgt := 95) dX6_cluster_24 (by assumption) (by decide) ?_
    refine Ax_bpm102 dX6_cluster_95 ?_
    exact Ax_iret dX6_cluster_97 rfl rfl ⟨rfl, hS1.raw, hF1⟩
  · rcases (show w = 0 ∨ w = 1 ∨ w = 2 ∨ w = 3 ∨ w = 4 by omega) with rfl | rfl | rfl | rfl | rfl
    · rw [if_pos rfl]
      refine Ax_tabI (tgt := 60) dX6_cluster_24 (by decide) (by decide) rfl (by decide) ?_
      refine Ax_al0 dX6_cluster_60 ?_
      refine Ax_getf kfX6 fX6_48 dX6_cluster_61 m rfl ?_
      refine Ax_il1 dX6_cluster_64 ?_
      refine Ax_ialdn dX6_cluster_65 m17 (by omega) (by omega) ?_
      exact Ax_iret dX6_cluster_66 rfl rfl ⟨rfl, hS1.raw, hF1⟩
    · rw [if_neg (by decide), if_pos rfl]
      refine Ax_tabI (tgt := 67) dX6_cluster_24 (by decide) (by decide) rfl (by decide) ?_
      refine Ax_al0 dX6_cluster_67 ?_
      refine Ax_getf kfX6 fX6_51 dX6_cluster_68 m rfl ?_
      refine Ax_il1 dX6_cluster_71 ?_
      refine Ax_ialdn dX6_cluster_72 m18 (by omega) (by omega) ?_
      exact Ax_iret dX6_cluster_73 rfl rfl ⟨rfl, hS1.raw, hF1⟩
    · rw [if_neg (by decide), if_neg (by decide), if_pos rfl]
      refine Ax_tabI (tgt := 74) dX6_cluster_24 (by decide) (by decide) rfl (by decide) ?_
      refine Ax_al0 dX6_cluster_74 ?_
      refine Ax_getf kfX6 fX6_54 dX6_cluster_75 m rfl ?_
      refine Ax_il1 dX6_cluster_78 ?_
      refine Ax_ialdn dX6_cluster_79 m19 (by omega) (by omega) ?_
      exact Ax_iret dX6_cluster_80 rfl rfl ⟨rfl, hS1.raw, hF1⟩
    · rw [if_neg (by decide), if_neg (by decide), if_neg (by decide), if_pos rfl]
      refine Ax_tabI (tgt := 81) dX6_cluster_24 (by decide) (by decide) rfl (by decide) ?_
      refine Ax_al0 dX6_cluster_81 ?_
      refine Ax_il1 dX6_cluster_82 ?_
      refine Ax_cVl dX6_cluster_83 vX6_152 kfX6 m (tX6_weightOf m hV hK i2 i3 hk) rfl rfl (by decide) (by simp [Value.category]) ?_
      refine Ax_l2in dX6_cluster_86 ?_
      exact Ax_iret dX6_cluster_87 rfl rfl ⟨rfl, hS1.raw, hF1⟩
    · rw [if_neg (by decide), if_neg (by decide), if_neg (by decide), if_neg (by decide), if_pos rfl]
      refine Ax_tabI (tgt := 88) dX6_cluster_24 (by decide) (by decide) rfl (by decide) ?_
      refine Ax_al0 dX6_cluster_88 ?_
      refine Ax_getf kfX6 fX6_67 dX6_cluster_89 m rfl ?_
      refine Ax_il1 dX6_cluster_92 ?_
      refine Ax_ialdn dX6_cluster_93 m24 (by omega) (by omega) ?_
      exact Ax_iret dX6_cluster_94 rfl rfl ⟨rfl, hS1.raw, hF1⟩
theorem tX6_noLine (hS : vM h C rt rw dn sz wy cl' bs) (hO : sOk C rt rw dn sz wy) (i : Int32) : AM G mX6_noLine 4 0 [.ref 30, .int i] h (fun q h' => ∃ z, q = some (.int z) ∧ (z = nI (!gIn (cLn C rt dn sz wy).length i).toNat ∧ vMd h' C rt rw dn sz wy cl' bs ∧ xFr 30 29 h h')) := by
  obtain ⟨b1, b2, b3, b4⟩ := hO.bd
  obtain ⟨⟨rn, kn, ln, pt, tk, m⟩, -⟩ := id hS
  refine AM.of rfl rfl (Nat.le_of_ble_eq_true rfl) rfl ?_
  refine Ax_al0 dX6_noLine_0 ?_
  refine Ax_cVv dX6_noLine_1 vX6_215 kfX6 m (tX6_make (G := G) hS hO) rfl rfl (by decide) (by simp [Value.category]) (Nat.le_refl _) (fun h1 q1 => ?_)
  obtain ⟨hS1, hF1⟩ := q1
  obtain ⟨pt1, tk1, m⟩ := hS1.1
  have hin := tIn (G := G) (h := h1) i (lN 0) (nI (cLn C rt dn sz wy).length - nI 1).toInt64 (a' := 0) (b' := ((cLn C rt dn sz wy).length : Int) - 1) (by decide) (by rw [Int32.toInt_toInt64, pre_n (by omega)])
  rw [inB_gIn _ (by omega)] at hin
  refine Ax_il1 dX6_noLine_4 ?_
  refine Ax_i2l dX6_noLine_5 ?_
  refine Ax_lc0 dX6_noLine_6 ?_
  refine Ax_al0 dX6_noLine_7 ?_
  refine Ax_getf kfX6 fX6_158 dX6_noLine_8 m rfl ?_
  refine Ax_ic1 dX6_noLine_11 ?_
  refine Ax_isub dX6_noLine_12 ?_
  refine Ax_i2l dX6_noLine_13 ?_
  refine Ax_cSi dX6_noLine_14 sX6_110 hin rfl rfl (by decide) (by simp [Value.category]) ?_
  refine Ax_ifneB (tgt := 24) dX6_noLine_17 (by decide) (fun c17 => ?_) (fun c17 => ?_)
  · rw [c17]
    refine Ax_ic0 dX6_noLine_24 ?_
    exact Ax_iret dX6_noLine_25 rfl (by decide) ⟨_, rfl, rfl, hS1, hF1⟩
  · rw [c17]
    refine Ax_ic1 dX6_noLine_20 ?_
    refine Ax_goto (tgt := 25) dX6_noLine_21 (by decide) ?_
    exact Ax_iret dX6_noLine_25 rfl (by decide) ⟨_, rfl, rfl, hS1, hF1⟩
theorem bnot {b : Bool} (h : (!b) = false) : b = true := by cases b <;> simp at h ⊢
theorem bnot' {b : Bool} (h : (!b) = true) : b = false := by cases b <;> simp at h ⊢
theorem tX6_line (hS : vM h C rt rw dn sz wy cl' bs) (hO : sOk C rt rw dn sz wy) (i what : Int32) : AM G mX6_line 5 0 [.ref 30, .int i, .int what] h (fun q h' => q = some (.int (lineS (cLn C rt dn sz wy) i what)) ∧ vM h' C rt rw dn sz wy cl' bs ∧ xFr 30 29 h h') := by
  obtain ⟨b1, b2, b3, b4⟩ := hO.bd
  obtain ⟨⟨rn, kn, ln, pt, tk, m⟩, -⟩ := id hS
  refine AM.of rfl rfl (Nat.le_of_ble_eq_true rfl) rfl ?_
  refine Ax_al0 dX6_line_0 ?_
  refine Ax_il1 dX6_line_1 ?_
  refine Ax_cViH dX6_line_2 vX6_231 kfX6 m (tX6_noLine (G := G) hS hO i) rfl rfl (by decide) (by simp [Value.category]) (Nat.le_refl _) (fun x2 h1 q1 => ?_)
  obtain ⟨rfl, hS1, hF1⟩ := q1
  obtain ⟨⟨pt1, tk1, m⟩, hCs, hV, hK, hT, hD, ⟨kn', fi, se, ro, fo, m25, m26, m27, m28, m29, hR⟩, h5, hOut⟩ := id hS1
  unfold lineS
  refine Ax_ifeqB (tgt := 11) dX6_line_5 (by decide) (fun c5 => ?_) (fun c5 => ?_)
  rotate_left
  · rw [bnot' c5, if_neg (by decide)]
    refine Ax_bpm101 dX6_line_8 ?_
    exact Ax_iret dX6_line_10 rfl rfl ⟨rfl, hS1.raw, hF1⟩
  rw [bnot c5, if_pos rfl]
  obtain ⟨k, hk, rfl⟩ := gIn_k (bnot c5) (by omega)
  rw [nI_clamp (by omega)]
  obtain ⟨l1, l2, l3, l4, l5⟩ := hR k hk
  rw [← l1, ← l2, ← l3]
  refine Ax_il2 dX6_line_11 ?_
  refine Ax_ifne (tgt := 24) dX6_line_12 (by decide) (fun c12 => ?_) (fun c12 => ?_)
  · rw [show (0 : Int32) = nI 0 from rfl] at c12
    rw [if_neg c12]
    refine Ax_il2 dX6_line_24 ?_
    refine Ax_ic1 dX6_line_25 ?_
    refine Ax_cmpne (tgt := 38) dX6_line_26 (by decide) (fun c26 => ?_) (fun c26 => ?_)
    · rw [if_neg c26]
      refine Ax_il2 dX6_line_38 ?_
      refine Ax_ic2 dX6_line_39 ?_
      refine Ax_cmpne (tgt := 52) dX6_line_40 (by decide) (fun c40 => ?_) (fun c40 => ?_)
      · rw [if_neg c40]
        refine Ax_bpm102 dX6_line_52 ?_
        exact Ax_iret dX6_line_54 rfl rfl ⟨rfl, hS1.raw, hF1⟩
      · rw [if_pos c40]
        refine Ax_al0 dX6_line_43 ?_
        refine Ax_getf kfX6 fX6_76 dX6_line_44 m rfl ?_
        refine Ax_il1 dX6_line_47 ?_
        refine Ax_ialdn dX6_line_48 m27 (by omega) (by omega) ?_
        refine Ax_goto (tgt := 54) dX6_line_49 (by decide) ?_
        exact Ax_iret dX6_line_54 rfl rfl ⟨rfl, hS1.raw, hF1⟩
    · rw [if_pos c26]
      refine Ax_al0 dX6_line_29 ?_
      refine Ax_getf kfX6 fX6_73 dX6_line_30 m rfl ?_
      refine Ax_il1 dX6_line_33 ?_
      refine Ax_ialdn dX6_line_34 m26 (by omega) (by omega) ?_
      refine Ax_goto (tgt := 54) dX6_line_35 (by decide) ?_
      exact Ax_iret dX6_line_54 rfl rfl ⟨rfl, hS1.raw, hF1⟩
  · rw [show (0 : Int32) = nI 0 from rfl] at c12
    rw [if_pos c12]
    refine Ax_al0 dX6_line_15 ?_
    refine Ax_getf kfX6 fX6_70 dX6_line_16 m rfl ?_
    refine Ax_il1 dX6_line_19 ?_
    refine Ax_ialdn dX6_line_20 m25 (by omega) (by omega) ?_
    refine Ax_goto (tgt := 54) dX6_line_21 (by decide) ?_
    exact Ax_iret dX6_line_54 rfl rfl ⟨rfl, hS1.raw, hF1⟩
theorem tX6_bits (hS : vM h C rt rw dn sz wy cl' bs) (hO : sOk C rt rw dn sz wy) (i : Int32) : AM G mX6_bits 5 0 [.ref 30, .int i] h (fun q h' => q = some (.long (bitsS (cLn C rt dn sz wy) i)) ∧ vM h' C rt rw dn sz wy cl' bs ∧ xFr 30 29 h h') := by
  obtain ⟨b1, b2, b3, b4⟩ := hO.bd
  obtain ⟨⟨rn, kn, ln, pt, tk, m⟩, -⟩ := id hS
  refine AM.of rfl rfl (Nat.le_of_ble_eq_true rfl) rfl ?_
  refine Ax_al0 dX6_bits_0 ?_
  refine Ax_il1 dX6_bits_1 ?_
  refine Ax_cViH dX6_bits_2 vX6_231 kfX6 m (tX6_noLine (G := G) hS hO i) rfl rfl (by decide) (by simp [Value.category]) (Nat.le_refl _) (fun x2 h1 q1 => ?_)
  obtain ⟨rfl, hS1, hF1⟩ := q1
  obtain ⟨⟨pt1, tk1, m⟩, hCs, hV, hK, hT, hD, ⟨kn', fi, se, ro, fo, m25, m26, m27, m28, m29, hR⟩, h5, hOut⟩ := id hS1
  unfold bitsS
  refine Ax_ifeqB (tgt := 14) dX6_bits_5 (by decide) (fun c5 => ?_) (fun c5 => ?_)
  rotate_left
  · rw [bnot' c5, if_neg (by decide)]
    refine Ax_ldc2 dX6_bits_8 cX6_234 ?_
    refine Ax_goto (tgt := 20) dX6_bits_11 (by decide) ?_
    exact Ax_lret dX6_bits_20 rfl ⟨rfl, hS1.raw, hF1⟩
  rw [bnot c5, if_pos rfl]
  obtain ⟨k, hk, rfl⟩ := gIn_k (bnot c5) (by omega)
  rw [nI_clamp (by omega)]
  obtain ⟨l1, l2, l3, l4, l5⟩ := hR k hk
  rw [← l4]
  refine Ax_al0 dX6_bits_14 ?_
  refine Ax_getf kfX6 fX6_79 dX6_bits_15 m rfl ?_
  refine Ax_il1 dX6_bits_18 ?_
  refine Ax_laldn dX6_bits_19 m28 (by omega) (by omega) ?_
  exact Ax_lret dX6_bits_20 rfl ⟨rfl, hS1.raw, hF1⟩
theorem tX6_entry (hS : vM h C rt rw dn sz wy cl' bs) (hO : sOk C rt rw dn sz wy) (i x : Int32) : AM G mX6_entry 5 0 [.ref 30, .int i, .int x] h (fun q h' => q = some (.int (entryS (runsOf C rt) dn sz rt (cLn C rt dn sz wy) i x)) ∧ vM h' C rt rw dn sz wy cl' bs ∧ xFr 30 29 h h') := by
  obtain ⟨o0, o1, o2, o3, o4, o5, o6, o7⟩ := id hO
  obtain ⟨i1, i2, i3⟩ := runs_inv o0 rt
  obtain ⟨b1, b2, b3, b4⟩ := hO.bd
  obtain ⟨⟨rn, kn, ln, pt, tk, m⟩, -⟩ := id hS
  refine AM.of rfl rfl (Nat.le_of_ble_eq_true rfl) rfl ?_
  refine Ax_al0 dX6_entry_0 ?_
  refine Ax_il1 dX6_entry_1 ?_
  refine Ax_cViH dX6_entry_2 vX6_231 kfX6 m (tX6_noLine (G := G) hS hO i) rfl rfl (by decide) (by simp [Value.category]) (Nat.le_refl _) (fun x2 h1 q1 => ?_)
  obtain ⟨rfl, hS1, hF1⟩ := q1
  obtain ⟨⟨pt1, tk1, m⟩, hCs, hV, hK, hT, hD, ⟨kn', fi, se, ro, fo, m25, m26, m27, m28, m29, hR⟩, h5, hOut⟩ := id hS1
  unfold entryS
  refine Ax_ifeqB (tgt := 11) dX6_entry_5 (by decide) (fun c5 => ?_) (fun c5 => ?_)
  rotate_left
  · rw [bnot' c5, if_neg (by decide)]
    refine Ax_bpm101 dX6_entry_8 ?_
    exact Ax_iret dX6_entry_10 rfl rfl ⟨rfl, hS1.raw, hF1⟩
  rw [bnot c5, if_pos rfl]
  obtain ⟨k, hk, rfl⟩ := gIn_k (bnot c5) (by omega)
  rw [nI_clamp (by omega)]
  obtain ⟨l1, l2, l3, l4, l5⟩ := hR k hk
  obtain ⟨k1, k2, k3⟩ := b4 _ (gL_in hk)
  unfold numR
  refine Ax_al0 dX6_entry_11 ?_
  refine Ax_getf kfX6 fX6_70 dX6_entry_12 m rfl ?_
  refine Ax_il1 dX6_entry_15 ?_
  refine Ax_ialdn dX6_entry_16 m25 (by omega) (by omega) ?_
  refine Ax_top (l1) ?_
  refine Ax_ic5 dX6_entry_17 ?_
  refine Ax_cmpnen (tgt := 60) dX6_entry_18 (by decide) (by omega) (by omega) (fun c18 => ?_) (fun c18 => ?_)
  · rw [if_neg (fun q => c18 q.1)]
    refine Ax_icm1 dX6_entry_60 ?_
    exact Ax_iret dX6_entry_61 rfl rfl ⟨rfl, hS1.raw, hF1⟩
  obtain ⟨k4, k5, k6, k7⟩ := k3 c18
  have ecs : (gL (cLn C rt dn sz wy) k).2.2.1.toInt = (csp (runsOf C rt) dn sz (gL (cLn C rt dn sz wy) k).2.2.2.2 : Int) := by rw [k6, nI_toInt (by omega)]
  have hin := tIn (G := G) (h := h1) x (lN 0) (nI (csp (runsOf C rt) dn sz (gL (cLn C rt dn sz wy) k).2.2.2.2) - nI 1).toInt64 (a' := 0) (b' := (csp (runsOf C rt) dn sz (gL (cLn C rt dn sz wy) k).2.2.2.2 : Int) - 1) (by decide) (by rw [Int32.toInt_toInt64, pre_n (by omega)])
  rw [inB_gIn _ (by omega)] at hin
  refine Ax_il2 dX6_entry_21 ?_
  refine Ax_i2l dX6_entry_22 ?_
  refine Ax_lc0 dX6_entry_23 ?_
  refine Ax_al0 dX6_entry_24 ?_
  refine Ax_getf kfX6 fX6_76 dX6_entry_25 m rfl ?_
  refine Ax_il1 dX6_entry_28 ?_
  refine Ax_ialdn dX6_entry_29 m27 (by omega) (by omega) ?_
  refine Ax_top (l3.trans k6) ?_
  refine Ax_ic1 dX6_entry_30 ?_
  refine Ax_isub dX6_entry_31 ?_
  refine Ax_i2l dX6_entry_32 ?_
  refine Ax_cSi dX6_entry_33 sX6_110 hin rfl rfl (by decide) (by simp [Value.category]) ?_
  refine Ax_ifeqB (tgt := 60) dX6_entry_36 (by decide) (fun c36 => ?_) (fun c36 => ?_)
  · have hno : ¬ ((gL (cLn C rt dn sz wy) k).1 = 5 ∧ 0 ≤ x.toInt ∧ x.toInt < (gL (cLn C rt dn sz wy) k).2.2.1.toInt) := by
      rintro ⟨-, q1, q2⟩
      rw [ecs] at q2
      have := gIn_n (n := csp (runsOf C rt) dn sz (gL (cLn C rt dn sz wy) k).2.2.2.2) (k := x.toInt.toNat) (by omega) (by omega)
      rw [← I_of (x := x) (n := x.toInt.toNat) (by omega) (by omega), c36] at this
      cases this
    rw [if_neg hno]
    refine Ax_icm1 dX6_entry_60 ?_
    exact Ax_iret dX6_entry_61 rfl rfl ⟨rfl, hS1.raw, hF1⟩
  obtain ⟨j, hj, rfl⟩ := gIn_k c36 (by omega)
  have hjt : (nI j).toInt = (j : Int) := nI_toInt (by omega)
  rw [if_pos ⟨c18, by omega, by rw [ecs]; omega⟩]
  have hct : (cbt (runsOf C rt) dn sz (gL (cLn C rt dn sz wy) k).2.2.2.2).toInt + j ≤ 2147483647 := by
    have h1 := I_hi (ctp (runsOf C rt) dn sz (gL (cLn C rt dn sz wy) k).2.2.2.2)
    unfold csp spn at hj
    unfold ctp at h1
    unfold cbt
    omega
  have hbl := I_lo (cbt (runsOf C rt) dn sz (gL (cLn C rt dn sz wy) k).2.2.2.2)
  have eadd : ((gL (cLn C rt dn sz wy) k).2.1 + nI j).toInt = (gL (cLn C rt dn sz wy) k).2.1.toInt + (nI j).toInt := by
    rw [I_add (by rw [k5, hjt]; omega) (by rw [k5, hjt]; omega)]
  have hwi := tX6_within (G := G) (rest := rt) m hV hK i2 i1 k4 ((gL (cLn C rt dn sz wy) k).2.1 + nI j)
  rw [eadd] at hwi
  refine Ax_al0 dX6_entry_39 ?_
  refine Ax_al0 dX6_entry_40 ?_
  refine Ax_getf kfX6 fX6_82 dX6_entry_41 m rfl ?_
  refine Ax_il1 dX6_entry_44 ?_
  refine Ax_ialdn dX6_entry_45 m29 (by omega) (by omega) ?_
  refine Ax_top (l5 c18) ?_
  refine Ax_al0 dX6_entry_46 ?_
  refine Ax_getf kfX6 fX6_73 dX6_entry_47 m rfl ?_
  refine Ax_il1 dX6_entry_50 ?_
  refine Ax_ialdn dX6_entry_51 m26 (by omega) (by omega) ?_
  refine Ax_top l2 ?_
  refine Ax_il2 dX6_entry_52 ?_
  refine Ax_iadd dX6_entry_53 ?_
  refine Ax_cVi dX6_entry_54 vX6_205 kfX6 m hwi rfl rfl (by decide) (by simp [Value.category]) ?_
  refine Ax_goto (tgt := 61) dX6_entry_57 (by decide) ?_
  exact Ax_iret dX6_entry_61 rfl rfl ⟨rfl, hS1.raw, hF1⟩
theorem tX6_spent (hS : vM h C rt rw dn sz wy cl' bs) (hO : sOk C rt rw dn sz wy) : AM G mX6_spent 4 0 [.ref 30] h (fun q h' => q = some (.long (lN (spentS C rt rw dn sz wy))) ∧ vM h' C rt rw dn sz wy cl' bs ∧ xFr 30 29 h h') := by
  obtain ⟨o0, o1, o2, o3, o4, o5, o6, o7⟩ := id hO
  have hle := stF_le hO
  obtain ⟨⟨rn, kn, ln, pt, tk, m⟩, -⟩ := id hS
  refine AM.of rfl rfl (Nat.le_of_ble_eq_true rfl) rfl ?_
  refine Ax_al0 dX6_spent_0 ?_
  refine Ax_cVv dX6_spent_1 vX6_215 kfX6 m (tX6_make (G := G) hS hO) rfl rfl (by decide) (by simp [Value.category]) (Nat.le_refl _) (fun h1 q1 => ?_)
  obtain ⟨hS1, hF1⟩ := q1
  obtain ⟨pt1, tk1, m⟩ := hS1.1
  refine Ax_lc0 dX6_spent_4 ?_
  refine Ax_ls1 dX6_spent_5 (Nat.le_of_ble_eq_true rfl) (by rfl) ?_
  refine Ax_ic0 dX6_spent_6 ?_
  refine Ax_is3 dX6_spent_7 (Nat.le_of_ble_eq_true rfl) (by rfl) ?_
  suffices hloop : ∀ w k hh x4 x5, k + w = 24 → vMd hh C rt rw dn sz wy cl' bs → xFr 30 29 h hh → Ax G mX6_spent 4 0 8 [.ref 30, .long (lN (spN C (stF C rt dn sz wy) k)), .null, .int (nI k), x4, x5] [] hh (fun q h' => q = some (.long (lN (spentS C rt rw dn sz wy))) ∧ vM h' C rt rw dn sz wy cl' bs ∧ xFr 30 29 h h') from
    hloop 24 0 h1 _ _ rfl hS1 hF1
  clear m hF1 hS1
  intro w
  induction w with
  | zero =>
    intro k hh x4 x5 hk hS1 hF1
    obtain rfl : k = 24 := by omega
    obtain ⟨⟨pt1, tk1, m⟩, hCs, -⟩ := id hS1
    have hcof := fun x => tX6_caseOf (G := G) ⟨_, _, _, _, _, _, _, _, _, _, _, _, _, m⟩ hCs x
    obtain ⟨th, lo, hi, tg, wt, m0, m1, m2, m3, m4, hR⟩ := hCs
    refine Ax_il3 dX6_spent_8 ?_
    refine Ax_bp24 dX6_spent_9 ?_
    refine Ax_cmpgen (tgt := 52) dX6_spent_11 (by decide) (by omega) (by omega) (fun c11 => ?_) (fun c11 => ?_)
    rotate_left
    · omega
    refine Ax_ldc2 dX6_spent_52 cX6_141 ?_
    refine Ax_ls3 dX6_spent_55 (Nat.le_of_ble_eq_true rfl) (by rfl) ?_
    refine Ax_al0 dX6_spent_56 ?_
    refine Ax_ll3 dX6_spent_57 ?_
    refine Ax_cViE dX6_spent_58 vX6_218 kfX6 m (hcof _) rfl rfl (by decide) (by simp [Value.category]) (fun x58 p58 => ?_)
    suffices hwh : ∀ n k z x5, k + n = 24 → -2147483648 ≤ z.toInt → z.toInt ≤ 2147483648 → k ≤ ctB (bel C z.toInt) 24 → cov C z.toInt → caseP C z.toInt 24 x5 → Ax G mX6_spent 4 0 63 [.ref 30, .long (lN (spN C (stF C rt dn sz wy) 24)), .null, .long z, .null, .int x5] [] hh (fun q h' => q = some (.long (lN (spentS C rt rw dn sz wy))) ∧ vM h' C rt rw dn sz wy cl' bs ∧ xFr 30 29 h h') by
      refine Ax_is5 dX6_spent_61 (Nat.le_of_ble_eq_true rfl) (by rfl) ?_
      exact hwh 24 0 _ _ rfl (by rw [L_mn]; omega) (by rw [L_mn]; omega) (Nat.zero_le _) (fun y y1 y2 => by rw [L_mn] at y2; omega) p58
    have hexit : ∀ z : Int64, IsFree C z.toInt → Ax G mX6_spent 4 0 63 [.ref 30, .long (lN (spN C (stF C rt dn sz wy) 24)), .null, .long z, .null, .int (-1)] [] hh (fun q h' => q = some (.long (lN (spentS C rt rw dn sz wy))) ∧ vM h' C rt rw dn sz wy cl' bs ∧ xFr 30 29 h h') := by
      intro z hz
      obtain ⟨z1, z2, -, -⟩ := id hz
      suffices hlast : ∀ v, v ≤ 31 → spentS C rt rw dn sz wy = spN C (stF C rt dn sz wy) 24 + rw * v → AM G mX6_stepsOf 3 0 [.ref 30, .long z] hh (fun r h' => ∃ w, r = some (.int w) ∧ (w = nI v ∧ vMd h' C rt rw dn sz wy cl' bs ∧ xFr 30 1 hh h')) → Ax G mX6_spent 4 0 63 [.ref 30, .long (lN (spN C (stF C rt dn sz wy) 24)), .null, .long z, .null, .int (-1)] [] hh (fun q h' => q = some (.long (lN (spentS C rt rw dn sz wy))) ∧ vM h' C rt rw dn sz wy cl' bs ∧ xFr 30 29 h h') by
        by_cases q : z.toInt ≤ 2147483647
        · have ez := L_toI z1 q
          refine hlast (stF C rt dn sz wy z.toInt32) (hle _) ?_ (tX6_stepsOf hS1 hO z ez.symm)
          unfold spentS
          rw [← frS_is hz, if_pos q, ← ez, Int32.ofInt_toInt]
        · refine hlast 0 (by omega) ?_ (tX6_stepsNo hS1 z (by omega))
          unfold spentS
          rw [← frS_is hz, if_neg q]
          rfl
      intro v hv e hA
      rw [e]
      refine Ax_il5 dX6_spent_63 ?_
      refine Ax_iflt (tgt := 89) dX6_spent_65 (by decide) (fun c65 => ?_) (fun c65 => ?_)
      rotate_left
      · exact absurd (by decide) c65
      refine Ax_ll1 dX6_spent_89 ?_
      refine Ax_al0 dX6_spent_90 ?_
      refine Ax_getf kfX6 fX6_128 dX6_spent_91 m rfl ?_
      refine Ax_i2ln dX6_spent_94 (by omega) ?_
      refine Ax_al0 dX6_spent_95 ?_
      refine Ax_ll3 dX6_spent_96 ?_
      refine Ax_cViH dX6_spent_97 vX6_211 kfX6 m hA rfl rfl (by decide) (by simp [Value.category]) (Nat.le_refl _) (fun x97 h2 q2 => ?_)
      obtain ⟨rfl, hS2, hF2⟩ := q2
      refine Ax_i2ln dX6_spent_100 (by omega) ?_
      refine Ax_lmuln dX6_spent_101 ?_
      refine Ax_laddn dX6_spent_102 ?_
      exact Ax_lret dX6_spent_103 rfl ⟨rfl, hS2.raw, f31 hF1 hF2⟩
    intro n
    induction n with
    | zero =>
      intro k z x5 hk z1 z2 hct hcov hp
      obtain rfl : k = 24 := by omega
      have hno : ∀ j, j < 24 → ¬ inC C j z.toInt := by
        intro j hj q
        have := ctB_full 24 (Nat.le_antisymm (ctB_le 24) hct) j hj
        unfold bel at this
        rw [Bool.and_eq_true, decide_eq_true_eq] at this
        have := q.2.2
        omega
      rcases hp with ⟨j, j1, -, j3⟩ | ⟨rfl, -⟩
      · exact absurd j3 (hno j j1)
      · exact hexit z ⟨z1, z2, hno, hcov⟩
    | succ n ih =>
      intro k z x5 hk z1 z2 hct hcov hp
      rcases hp with ⟨j, j1, rfl, j3⟩ | ⟨rfl, hno⟩
      · obtain ⟨e1, e2, e3, e4⟩ := hR.g j1 j3.1
        have hjh := I_hi (gC C j).2.1
        have hjl := I_lo (gC C j).2.1
        have e5 : ((gC C j).2.1.toInt64 + lN 1).toInt = (gC C j).2.1.toInt + 1 := by
          rw [L_add (by rw [Int32.toInt_toInt64, L_1]; omega) (by rw [Int32.toInt_toInt64, L_1]; omega), Int32.toInt_toInt64, L_1]
        obtain ⟨v1, v2⟩ := cov_step hcov j1 j3
        refine Ax_il5 dX6_spent_63 ?_
        refine Ax_ifltn (tgt := 89) dX6_spent_65 (by decide) (by omega) ?_
        refine Ax_al0 dX6_spent_68 ?_
        refine Ax_getf kfX6 fX6_17 dX6_spent_69 m rfl ?_
        refine Ax_il5 dX6_spent_72 ?_
        refine Ax_ialdn dX6_spent_74 m2 (by omega) (by omega) ?_
        refine Ax_top e2 ?_
        refine Ax_i2l dX6_spent_75 ?_
        refine Ax_lc1 dX6_spent_76 ?_
        refine Ax_ladd dX6_spent_77 ?_
        refine Ax_ls3 dX6_spent_78 (Nat.le_of_ble_eq_true rfl) (by rfl) ?_
        refine Ax_al0 dX6_spent_79 ?_
        refine Ax_ll3 dX6_spent_80 ?_
        refine Ax_cViE dX6_spent_81 vX6_218 kfX6 m (hcof _) rfl rfl (by decide) (by simp [Value.category]) (fun x81 p81 => ?_)
        refine Ax_is5 dX6_spent_84 (Nat.le_of_ble_eq_true rfl) (by rfl) ?_
        refine Ax_goto (tgt := 63) dX6_spent_86 (by decide) ?_
        exact ih (k + 1) _ _ (by omega) (by rw [e5]; omega) (by rw [e5]; omega) (by rw [e5]; omega) (by rw [e5]; exact v1) p81
      · exact hexit z ⟨z1, z2, hno, hcov⟩
  | succ w ih =>
    intro k hh x4 x5 hk hS1 hF1
    obtain ⟨⟨pt1, tk1, m⟩, ⟨th, lo, hi, tg, wt, m0, m1, m2, m3, m4, hR⟩, -⟩ := id hS1
    have hk24 : k < 24 := by omega
    refine Ax_il3 dX6_spent_8 ?_
    refine Ax_bp24 dX6_spent_9 ?_
    refine Ax_cmpgen (tgt := 52) dX6_spent_11 (by decide) (by omega) (by omega) (fun c11 => ?_) (fun c11 => ?_)
    · omega
    refine Ax_al0 dX6_spent_14 ?_
    refine Ax_getf kfX6 fX6_7 dX6_spent_15 m rfl ?_
    refine Ax_il3 dX6_spent_18 ?_
    refine Ax_zaldn dX6_spent_19 m0 (by omega) (by omega) ?_
    refine Ax_top (hR k hk24).1 ?_
    refine Ax_ifeqB (tgt := 46) dX6_spent_20 (by decide) (fun c20 => ?_) (fun c20 => ?_)
    · have e : spN C (stF C rt dn sz wy) (k + 1) = spN C (stF C rt dn sz wy) k := by
        rw [spN, c20, if_neg (by decide), Nat.add_zero]
      refine Ax_inc3_1n dX6_spent_46 (Nat.le_of_ble_eq_true rfl) (by rfl) ?_
      refine Ax_goto (tgt := 8) dX6_spent_49 (by decide) ?_
      have hih := ih (k + 1) hh x4 x5 (by omega) hS1 hF1
      rw [e] at hih
      exact hih
    · have e : spN C (stF C rt dn sz wy) (k + 1) = spN C (stF C rt dn sz wy) k + (gC C k).2.2.2 * stF C rt dn sz wy (gC C k).1 := by
        rw [spN, c20, if_pos rfl]
      obtain ⟨r, hr⟩ := Option.isSome_iff_exists.mp c20
      have hw : (gC C k).2.2.2 ≤ 1000 := by rw [gC_some hr]; exact (o0.1 k r hr).2.2.2
      obtain ⟨e1, e2, e3, e4⟩ := hR.g hk24 c20
      have hst := hle (gC C k).1
      refine Ax_ll1 dX6_spent_23 ?_
      refine Ax_al0 dX6_spent_24 ?_
      refine Ax_getf kfX6 fX6_23 dX6_spent_25 m rfl ?_
      refine Ax_il3 dX6_spent_28 ?_
      refine Ax_ialdn dX6_spent_29 m4 (by omega) (by omega) ?_
      refine Ax_top (e4) ?_
      refine Ax_i2ln dX6_spent_30 (by omega) ?_
      refine Ax_al0 dX6_spent_31 ?_
      refine Ax_al0 dX6_spent_32 ?_
      refine Ax_getf kfX6 fX6_13 dX6_spent_33 m rfl ?_
      refine Ax_il3 dX6_spent_36 ?_
      refine Ax_ialdn dX6_spent_37 m1 (by omega) (by omega) ?_
      refine Ax_top e1 ?_
      refine Ax_i2l dX6_spent_38 ?_
      refine Ax_cViH dX6_spent_39 vX6_211 kfX6 m (tX6_stepsOf (G := G) hS1 hO _ (Int32.toInt_toInt64 (gC C k).1)) rfl rfl (by decide) (by simp [Value.category]) (Nat.le_refl _) (fun x39 h2 q2 => ?_)
      obtain ⟨rfl, hS2, hF2⟩ := q2
      refine Ax_i2ln dX6_spent_42 (by omega) ?_
      refine Ax_lmuln dX6_spent_43 ?_
      refine Ax_laddn dX6_spent_44 ?_
      refine Ax_ls1 dX6_spent_45 (Nat.le_of_ble_eq_true rfl) (by rfl) ?_
      refine Ax_inc3_1n dX6_spent_46 (Nat.le_of_ble_eq_true rfl) (by rfl) ?_
      refine Ax_goto (tgt := 8) dX6_spent_49 (by decide) ?_
      have hih := ih (k + 1) h2 x4 x5 (by omega) hS2 (f31 hF1 hF2)
      rw [e] at hih
      exact hih
end
