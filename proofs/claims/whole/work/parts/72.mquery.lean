/-! the reference: questions -/
theorem pre_n {n : Nat} (hn : n < 2147483648) : (nI n - nI 1).toInt = (n : Int) - 1 := by
  have h1 : (nI 1).toInt = 1 := by decide
  rw [I_sub (by rw [nI_toInt hn, h1]; omega) (by rw [nI_toInt hn, h1]; omega), nI_toInt hn, h1]
theorem att_max {st : Int32 → Nat} {n v : Nat} (h : ∃ x, st x = n) (hv : v = 0 ∨ ∃ y, st y = v) : ∃ x, st x = max n v := by
  rcases hv with rfl | ⟨y, hy⟩
  · rw [Nat.max_eq_left (Nat.zero_le _)]; exact h
  · rcases Nat.le_total n v with q | q
    · rw [Nat.max_eq_right q]; exact ⟨y, hy⟩
    · rw [Nat.max_eq_left q]; exact h
def numN (L : List Ln) : Nat → Nat
  | 0 => 0
  | n + 1 => numN L n + tsz (gL L n)
theorem numN_take (L : List Ln) : ∀ n, n ≤ L.length → numN L n = tsum (L.take n)
  | 0, _ => rfl
  | n + 1, h => by
    have e : L.take (n + 1) = L.take n ++ [gL L n] := by
      unfold gL
      rw [List.getD_eq_getElem?_getD, List.getElem?_eq_getElem (by omega)]
      exact List.take_succ_eq_append_getElem (by omega)
    rw [e, tsum_app, ← numN_take L n (by omega), numN]
    rfl
theorem numN_all (L : List Ln) : numN L L.length = tsum L := by
  rw [numN_take L _ (Nat.le_refl _), List.take_length]
section
variable {G : xG} {h : xH} {C : Cs} {rt rw dn sz wy : Nat} {cl' : Int32} {bs : List Nat}
theorem f31 {h h1 h2 : xH} (a : xFr 30 29 h h1) (b : xFr 30 1 h1 h2) : xFr 30 29 h h2 := a.tr (b.wide (by omega) (by omega))
theorem tX6_go (hS : vM h C rt rw dn sz wy cl' bs) (hO : sOk C rt rw dn sz wy) (x : Int32) : AM G mX6_go 4 0 [.ref 30, .int x] h (fun q h' => q = some (.int (nI (goP C rt dn sz wy x).2)) ∧ vM h' C rt rw dn sz wy cl' bs ∧ xFr 30 29 h h') := by
  obtain ⟨⟨rn, kn, ln, pt, tk, m⟩, -⟩ := id hS
  refine AM.of rfl rfl (Nat.le_of_ble_eq_true rfl) rfl ?_
  refine Ax_al0 dX6_go_0 ?_
  refine Ax_cVv dX6_go_1 vX6_215 kfX6 m (tX6_make (G := G) hS hO) rfl rfl (by decide) (by simp [Value.category]) (Nat.le_refl _) (fun h1 q1 => ?_)
  obtain ⟨hS1, hF1⟩ := q1
  obtain ⟨pt1, tk1, m1⟩ := hS1.1
  refine Ax_al0 dX6_go_4 ?_
  refine Ax_il1 dX6_go_5 ?_
  refine Ax_cViH dX6_go_6 vX6_208 kfX6 m1 (tX6_runOn (G := G) hS1 hO x) rfl rfl (by decide) (by simp [Value.category]) (Nat.le_refl _) (fun x6 h2 q2 => ?_)
  obtain ⟨rfl, ⟨hS2, -⟩, hF2⟩ := q2
  exact Ax_iret dX6_go_9 rfl rfl ⟨rfl, hS2.raw, f31 hF1 hF2⟩
theorem tX6_steps (hS : vM h C rt rw dn sz wy cl' bs) (hO : sOk C rt rw dn sz wy) (x : Int32) : AM G mX6_steps 4 0 [.ref 30, .int x] h (fun q h' => q = some (.int (nI (goP C rt dn sz wy x).1)) ∧ vM h' C rt rw dn sz wy cl' bs ∧ xFr 30 29 h h') := by
  obtain ⟨⟨rn, kn, ln, pt, tk, m⟩, -⟩ := id hS
  refine AM.of rfl rfl (Nat.le_of_ble_eq_true rfl) rfl ?_
  refine Ax_al0 dX6_steps_0 ?_
  refine Ax_cVv dX6_steps_1 vX6_215 kfX6 m (tX6_make (G := G) hS hO) rfl rfl (by decide) (by simp [Value.category]) (Nat.le_refl _) (fun h1 q1 => ?_)
  obtain ⟨hS1, hF1⟩ := q1
  obtain ⟨pt1, tk1, m1⟩ := hS1.1
  refine Ax_al0 dX6_steps_4 ?_
  refine Ax_il1 dX6_steps_5 ?_
  refine Ax_i2l dX6_steps_6 ?_
  refine Ax_cViH dX6_steps_7 vX6_211 kfX6 m1 (tX6_stepsOf (G := G) hS1 hO x.toInt64 (Int32.toInt_toInt64 x)) rfl rfl (by decide) (by simp [Value.category]) (Nat.le_refl _) (fun x7 h2 q2 => ?_)
  obtain ⟨rfl, hS2, hF2⟩ := q2
  exact Ax_iret dX6_steps_10 rfl rfl ⟨rfl, hS2.raw, f31 hF1 hF2⟩
theorem ms_one {Q : Option Value → xH → Prop} {h1 : xH} {n v r e : Nat} {x2 : Value} {z : Int64} (hn : n ≤ 31) (hv : v ≤ 31) (hS : vMd h1 C rt rw dn sz wy cl' bs) (hA : AM G mX6_stepsOf 3 0 [.ref 30, .long z] h1 (fun r h' => ∃ w, r = some (.int w) ∧ (w = nI v ∧ vMd h' C rt rw dn sz wy cl' bs ∧ xFr 30 1 h1 h')))
    (k : ∀ h2, vMd h2 C rt rw dn sz wy cl' bs → xFr 30 1 h1 h2 → Ax G mX6_mostSteps 4 0 40 [.ref 30, .int (nI (max n v)), .int (nI v), .int (nI r), .int (nI (e + 1))] [] h2 Q) : Ax G mX6_mostSteps 4 0 105 [.ref 30, .int (nI n), x2, .int (nI r), .int (nI e)] [.long z, .ref 30] h1 Q := by
  obtain ⟨pt1, tk1, m1⟩ := hS.1
  refine Ax_cViH dX6_mostSteps_105 vX6_211 kfX6 m1 hA rfl rfl (by decide) (by simp [Value.category]) (Nat.le_refl _) (fun x105 h2 q2 => ?_)
  obtain ⟨rfl, hS2, hF2⟩ := q2
  have hk := k h2 hS2 hF2
  refine Ax_is2 dX6_mostSteps_108 (Nat.le_of_ble_eq_true rfl) (by rfl) ?_
  refine Ax_il2 dX6_mostSteps_109 ?_
  refine Ax_il1 dX6_mostSteps_110 ?_
  refine Ax_cmplen (tgt := 118) dX6_mostSteps_111 (by decide) (by omega) (by omega) (fun c111 => ?_) (fun c111 => ?_)
  · rw [Nat.max_eq_left (by omega)] at hk
    refine Ax_il1 dX6_mostSteps_118 ?_
    refine Ax_is1 dX6_mostSteps_119 (Nat.le_of_ble_eq_true rfl) (by rfl) ?_
    refine Ax_inc4_1n dX6_mostSteps_120 (Nat.le_of_ble_eq_true rfl) (by rfl) ?_
    refine Ax_goto (tgt := 40) dX6_mostSteps_123 (by decide) ?_
    exact hk
  · rw [Nat.max_eq_right (by omega)] at hk
    refine Ax_il2 dX6_mostSteps_114 ?_
    refine Ax_goto (tgt := 119) dX6_mostSteps_115 (by decide) ?_
    refine Ax_is1 dX6_mostSteps_119 (Nat.le_of_ble_eq_true rfl) (by rfl) ?_
    refine Ax_inc4_1n dX6_mostSteps_120 (Nat.le_of_ble_eq_true rfl) (by rfl) ?_
    refine Ax_goto (tgt := 40) dX6_mostSteps_123 (by decide) ?_
    exact hk
theorem tX6_mostSteps (hS : vMd h C rt rw dn sz wy cl' bs) (hO : sOk C rt rw dn sz wy) : AM G mX6_mostSteps 4 0 [.ref 30] h (fun q h' => ∃ z, q = some (.int z) ∧ (z = nI (mostS C rt dn sz wy) ∧ vMd h' C rt rw dn sz wy cl' bs ∧ xFr 30 1 h h')) := by
  obtain ⟨i1, i2, i3⟩ := runs_inv hO.1 rt
  have hle := stF_le hO
  obtain ⟨pt, tk, m⟩ := hS.1
  refine AM.of rfl rfl (Nat.le_of_ble_eq_true rfl) rfl ?_
  refine Ax_al0 dX6_mostSteps_0 ?_
  refine Ax_ldc2 dX6_mostSteps_1 cX6_141 ?_
  refine Ax_cViH dX6_mostSteps_4 vX6_211 kfX6 m (tX6_stepsOf (G := G) hS hO (-2147483648) (y := -2147483648) (by decide)) rfl rfl (by decide) (by simp [Value.category]) (Nat.le_refl _) (fun x4 h1 q1 => ?_)
  obtain ⟨rfl, hS1, hF1⟩ := q1
  obtain ⟨pt1, tk1, m1⟩ := hS1.1
  refine Ax_is1 dX6_mostSteps_7 (Nat.le_of_ble_eq_true rfl) (by rfl) ?_
  refine Ax_al0 dX6_mostSteps_8 ?_
  refine Ax_ldc2 dX6_mostSteps_9 cX6_192 ?_
  refine Ax_cViH dX6_mostSteps_12 vX6_211 kfX6 m1 (tX6_stepsOf (G := G) hS1 hO 2147483647 (y := 2147483647) (by decide)) rfl rfl (by decide) (by simp [Value.category]) (Nat.le_refl _) (fun x12 h2 q2 => ?_)
  obtain ⟨rfl, hS2, hF2⟩ := q2
  have hb1 := hle (-2147483648)
  have hb2 := hle 2147483647
  suffices hloop : ∀ w r n x2 x4 hh, r + w = (runsOf C rt).length → vMd hh C rt rw dn sz wy cl' bs → xFr 30 1 h hh → ptM (stF C rt dn sz wy) (runsOf C rt) r n → Ax G mX6_mostSteps 4 0 29 [.ref 30, .int (nI n), x2, .int (nI r), x4] [] hh (fun q h' => ∃ z, q = some (.int z) ∧ (z = nI (mostS C rt dn sz wy) ∧ vMd h' C rt rw dn sz wy cl' bs ∧ xFr 30 1 h h')) by
    have hg : ∀ n, n = max (stF C rt dn sz wy (-2147483648)) (stF C rt dn sz wy 2147483647) → ptM (stF C rt dn sz wy) (runsOf C rt) 0 n := by
      intro n hn
      subst hn
      exact ⟨att_max ⟨_, rfl⟩ (Or.inr ⟨_, rfl⟩), Nat.le_max_left _ _, fun k hk => absurd hk (Nat.not_lt_zero _)⟩
    refine Ax_is2 dX6_mostSteps_15 (Nat.le_of_ble_eq_true rfl) (by rfl) ?_
    refine Ax_il2 dX6_mostSteps_16 ?_
    refine Ax_il1 dX6_mostSteps_17 ?_
    refine Ax_cmplen (tgt := 25) dX6_mostSteps_18 (by decide) (by omega) (by omega) (fun c18 => ?_) (fun c18 => ?_)
    · refine Ax_il1 dX6_mostSteps_25 ?_
      refine Ax_is1 dX6_mostSteps_26 (Nat.le_of_ble_eq_true rfl) (by rfl) ?_
      refine Ax_ic0 dX6_mostSteps_27 ?_
      refine Ax_is3 dX6_mostSteps_28 (Nat.le_of_ble_eq_true rfl) (by rfl) ?_
      exact hloop _ 0 _ _ _ h2 (Nat.zero_add _) hS2 (hF1.tr hF2) (hg _ (by rw [Nat.max_eq_left (by omega)]))
    · refine Ax_il2 dX6_mostSteps_21 ?_
      refine Ax_goto (tgt := 26) dX6_mostSteps_22 (by decide) ?_
      refine Ax_is1 dX6_mostSteps_26 (Nat.le_of_ble_eq_true rfl) (by rfl) ?_
      refine Ax_ic0 dX6_mostSteps_27 ?_
      refine Ax_is3 dX6_mostSteps_28 (Nat.le_of_ble_eq_true rfl) (by rfl) ?_
      exact hloop _ 0 _ _ _ h2 (Nat.zero_add _) hS2 (hF1.tr hF2) (hg _ (by rw [Nat.max_eq_right (by omega)]))
  clear m m1 hF1 hF2 hS1 hS2
  intro w
  induction w with
  | zero =>
    intro r n x2 x4 hh hr hS1 hF hp
    obtain ⟨pt1, tk1, m⟩ := hS1.1
    obtain rfl : r = (runsOf C rt).length := by omega
    refine Ax_il3 dX6_mostSteps_29 ?_
    refine Ax_al0 dX6_mostSteps_30 ?_
    refine Ax_getf kfX6 fX6_138 dX6_mostSteps_31 m rfl ?_
    refine Ax_cmpgen (tgt := 132) dX6_mostSteps_34 (by decide) (by omega) (by omega) (fun c34 => ?_) (fun c34 => ?_)
    · refine Ax_il1 dX6_mostSteps_132 ?_
      exact Ax_iret dX6_mostSteps_133 rfl rfl ⟨_, rfl, by rw [mostS_is (ptM_fin hO hp)], hS1, hF⟩
    · omega
  | succ w ih =>
    intro r n x2 x4 hh hr hS1 hF hp
    have hrl : r < (runsOf C rt).length := by omega
    obtain ⟨pt1, tk1, m⟩ := hS1.1
    obtain ⟨⟨x0, hx0⟩, hp2, hp3⟩ := id hp
    have hn := hle x0
    have hs1 := hle (rlo (runsOf C rt) r)
    have hs2 := hle (rhi (runsOf C rt) r)
    have hs3 := hle (rhi (runsOf C rt) r + 1)
    have hs4 := hle (rlo (runsOf C rt) r - 1)
    have hloI := I_lo (rlo (runsOf C rt) r); have hloJ := I_hi (rlo (runsOf C rt) r)
    have hhiI := I_lo (rhi (runsOf C rt) r); have hhiJ := I_hi (rhi (runsOf C rt) r)
    have hV := hS1.2.2.1
    obtain ⟨lo, hi, tg, wt, m12, m13, m14, m15, hRep⟩ := hV
    obtain ⟨r1, r2, r3, r4⟩ := hRep r hrl
    refine Ax_il3 dX6_mostSteps_29 ?_
    refine Ax_al0 dX6_mostSteps_30 ?_
    refine Ax_getf kfX6 fX6_138 dX6_mostSteps_31 m rfl ?_
    refine Ax_cmpgen (tgt := 132) dX6_mostSteps_34 (by decide) (by omega) (by omega) (fun c34 => ?_) (fun c34 => ?_)
    · omega
    refine Ax_ic0 dX6_mostSteps_37 ?_
    refine Ax_is4 dX6_mostSteps_38 (Nat.le_of_ble_eq_true rfl) (by rfl) ?_
    refine Ax_il4 dX6_mostSteps_40 ?_
    refine Ax_ic4 dX6_mostSteps_42 ?_
    refine Ax_cmpgen (tgt := 126) dX6_mostSteps_43 (by decide) (by omega) (by omega) (fun c43 => ?_) (fun c43 => ?_)
    · exact absurd c43 (by decide)
    refine Ax_al0 dX6_mostSteps_46 ?_
    refine Ax_il4 dX6_mostSteps_47 ?_
    refine Ax_ifnen (tgt := 62) dX6_mostSteps_49 (by decide) (by omega) (fun c49 => ?_) (fun c49 => ?_)
    · exact absurd rfl c49
    refine Ax_al0 dX6_mostSteps_52 ?_
    refine Ax_getf kfX6 fX6_36 dX6_mostSteps_53 m rfl ?_
    refine Ax_il3 dX6_mostSteps_56 ?_
    refine Ax_ialdn dX6_mostSteps_57 m12 (by omega) (by omega) ?_
    refine Ax_top r1 ?_
    refine Ax_i2l dX6_mostSteps_58 ?_
    refine Ax_goto (tgt := 105) dX6_mostSteps_59 (by decide) ?_
    refine ms_one (G := G) (by omega) hs1 hS1 (tX6_stepsOf hS1 hO _ (Int32.toInt_toInt64 _)) (fun ha hSa hFa => ?_)
    obtain ⟨pta, tka, ma⟩ := hSa.1
    obtain ⟨loa, hia, tga, wta, ma12, ma13, ma14, ma15, hRepa⟩ := hSa.2.2.1
    have ra := hRepa r hrl
    refine Ax_il4 dX6_mostSteps_40 ?_
    refine Ax_ic4 dX6_mostSteps_42 ?_
    refine Ax_cmpgen (tgt := 126) dX6_mostSteps_43 (by decide) (by omega) (by omega) (fun c43 => ?_) (fun c43 => ?_)
    · exact absurd c43 (by decide)
    refine Ax_al0 dX6_mostSteps_46 ?_
    refine Ax_il4 dX6_mostSteps_47 ?_
    refine Ax_ifnen (tgt := 62) dX6_mostSteps_49 (by decide) (by omega) (fun c49 => ?_) (fun c49 => ?_)
    rotate_left
    · exact absurd c49 (by decide)
    refine Ax_il4 dX6_mostSteps_62 ?_
    refine Ax_ic1 dX6_mostSteps_64 ?_
    refine Ax_cmpnen (tgt := 78) dX6_mostSteps_65 (by decide) (by omega) (by omega) (fun c65 => ?_) (fun c65 => ?_)
    · exact absurd rfl c65
    refine Ax_al0 dX6_mostSteps_68 ?_
    refine Ax_getf kfX6 fX6_39 dX6_mostSteps_69 ma rfl ?_
    refine Ax_il3 dX6_mostSteps_72 ?_
    refine Ax_ialdn dX6_mostSteps_73 ma13 (by omega) (by omega) ?_
    refine Ax_top ra.2.1 ?_
    refine Ax_i2l dX6_mostSteps_74 ?_
    refine Ax_goto (tgt := 105) dX6_mostSteps_75 (by decide) ?_
    refine ms_one (G := G) (by omega) hs2 hSa (tX6_stepsOf hSa hO _ (Int32.toInt_toInt64 _)) (fun hb hSb hFb => ?_)
    obtain ⟨ptb, tkb, mb⟩ := hSb.1
    obtain ⟨lob, hib, tgb, wtb, mb12, mb13, mb14, mb15, hRepb⟩ := hSb.2.2.1
    have rb := hRepb r hrl
    refine Ax_il4 dX6_mostSteps_40 ?_
    refine Ax_ic4 dX6_mostSteps_42 ?_
    refine Ax_cmpgen (tgt := 126) dX6_mostSteps_43 (by decide) (by omega) (by omega) (fun c43 => ?_) (fun c43 => ?_)
    · exact absurd c43 (by decide)
    refine Ax_al0 dX6_mostSteps_46 ?_
    refine Ax_il4 dX6_mostSteps_47 ?_
    refine Ax_ifnen (tgt := 62) dX6_mostSteps_49 (by decide) (by omega) (fun c49 => ?_) (fun c49 => ?_)
    rotate_left
    · exact absurd c49 (by decide)
    refine Ax_il4 dX6_mostSteps_62 ?_
    refine Ax_ic1 dX6_mostSteps_64 ?_
    refine Ax_cmpnen (tgt := 78) dX6_mostSteps_65 (by decide) (by omega) (by omega) (fun c65 => ?_) (fun c65 => ?_)
    rotate_left
    · exact absurd c65 (by decide)
    refine Ax_il4 dX6_mostSteps_78 ?_
    refine Ax_ic2 dX6_mostSteps_80 ?_
    refine Ax_cmpnen (tgt := 96) dX6_mostSteps_81 (by decide) (by omega) (by omega) (fun c81 => ?_) (fun c81 => ?_)
    · exact absurd rfl c81
    refine Ax_al0 dX6_mostSteps_84 ?_
    refine Ax_getf kfX6 fX6_36 dX6_mostSteps_85 mb rfl ?_
    refine Ax_il3 dX6_mostSteps_88 ?_
    refine Ax_ialdn dX6_mostSteps_89 mb12 (by omega) (by omega) ?_
    refine Ax_top rb.1 ?_
    refine Ax_i2l dX6_mostSteps_90 ?_
    refine Ax_lc1 dX6_mostSteps_91 ?_
    refine Ax_lsub dX6_mostSteps_92 ?_
    refine Ax_goto (tgt := 105) dX6_mostSteps_93 (by decide) ?_
    have hlo : ((rlo (runsOf C rt) r).toInt64 - lN 1).toInt = (rlo (runsOf C rt) r).toInt - 1 := by
      rw [L_sub (by rw [Int32.toInt_toInt64, L_1]; omega) (by rw [Int32.toInt_toInt64, L_1]; omega), Int32.toInt_toInt64, L_1]
    have hhi : ((rhi (runsOf C rt) r).toInt64 + lN 1).toInt = (rhi (runsOf C rt) r).toInt + 1 := by
      rw [L_add (by rw [Int32.toInt_toInt64, L_1]; omega) (by rw [Int32.toInt_toInt64, L_1]; omega), Int32.toInt_toInt64, L_1]
    suffices hc : ∀ v3 hc, v3 ≤ 31 → (v3 = 0 ∨ ∃ y, stF C rt dn sz wy y = v3) → vMd hc C rt rw dn sz wy cl' bs → xFr 30 1 hb hc → Ax G mX6_mostSteps 4 0 40 [.ref 30, .int (nI (max (max (max n (stF C rt dn sz wy (rlo (runsOf C rt) r))) (stF C rt dn sz wy (rhi (runsOf C rt) r))) v3)), .int (nI v3), .int (nI r), .int (nI (2 + 1))] [] hc (fun q h' => ∃ z, q = some (.int z) ∧ (z = nI (mostS C rt dn sz wy) ∧ vMd h' C rt rw dn sz wy cl' bs ∧ xFr 30 1 h h')) by
      by_cases q : -2147483648 < (rlo (runsOf C rt) r).toInt
      · exact ms_one (G := G) (by omega) hs4 hSb (tX6_stepsOf hSb hO _ (by rw [L_pre q, Int32.toInt_toInt64])) (fun hc' hSc hFc => hc _ hc' hs4 (Or.inr ⟨_, rfl⟩) hSc hFc)
      · exact ms_one (G := G) (v := 0) (by omega) (by omega) hSb (tX6_stepsNo hSb _ (by rw [hlo]; omega)) (fun hc' hSc hFc => hc 0 hc' (by omega) (Or.inl rfl) hSc hFc)
    intro v3 hc hv3 hat3 hSc hFc
    obtain ⟨ptc', tkc, mc⟩ := hSc.1
    obtain ⟨loc', hic, tgc, wtc, mc12, mc13, mc14, mc15, hRepc⟩ := hSc.2.2.1
    have rc := hRepc r hrl
    refine Ax_il4 dX6_mostSteps_40 ?_
    refine Ax_ic4 dX6_mostSteps_42 ?_
    refine Ax_cmpgen (tgt := 126) dX6_mostSteps_43 (by decide) (by omega) (by omega) (fun c43 => ?_) (fun c43 => ?_)
    · exact absurd c43 (by decide)
    refine Ax_al0 dX6_mostSteps_46 ?_
    refine Ax_il4 dX6_mostSteps_47 ?_
    refine Ax_ifnen (tgt := 62) dX6_mostSteps_49 (by decide) (by omega) (fun c49 => ?_) (fun c49 => ?_)
    rotate_left
    · exact absurd c49 (by decide)
    refine Ax_il4 dX6_mostSteps_62 ?_
    refine Ax_ic1 dX6_mostSteps_64 ?_
    refine Ax_cmpnen (tgt := 78) dX6_mostSteps_65 (by decide) (by omega) (by omega) (fun c65 => ?_) (fun c65 => ?_)
    rotate_left
    · exact absurd c65 (by decide)
    refine Ax_il4 dX6_mostSteps_78 ?_
    refine Ax_ic2 dX6_mostSteps_80 ?_
    refine Ax_cmpnen (tgt := 96) dX6_mostSteps_81 (by decide) (by omega) (by omega) (fun c81 => ?_) (fun c81 => ?_)
    rotate_left
    · exact absurd c81 (by decide)
    refine Ax_al0 dX6_mostSteps_96 ?_
    refine Ax_getf kfX6 fX6_39 dX6_mostSteps_97 mc rfl ?_
    refine Ax_il3 dX6_mostSteps_100 ?_
    refine Ax_ialdn dX6_mostSteps_101 mc13 (by omega) (by omega) ?_
    refine Ax_top rc.2.1 ?_
    refine Ax_i2l dX6_mostSteps_102 ?_
    refine Ax_lc1 dX6_mostSteps_103 ?_
    refine Ax_ladd dX6_mostSteps_104 ?_
    suffices hd : ∀ v4 hd, v4 ≤ 31 → ((rhi (runsOf C rt) r).toInt < 2147483647 → v4 = stF C rt dn sz wy (rhi (runsOf C rt) r + 1)) → (v4 = 0 ∨ ∃ y, stF C rt dn sz wy y = v4) → vMd hd C rt rw dn sz wy cl' bs → xFr 30 1 hc hd → Ax G mX6_mostSteps 4 0 40 [.ref 30, .int (nI (max (max (max (max n (stF C rt dn sz wy (rlo (runsOf C rt) r))) (stF C rt dn sz wy (rhi (runsOf C rt) r))) v3) v4)), .int (nI v4), .int (nI r), .int (nI (2 + 1 + 1))] [] hd (fun q h' => ∃ z, q = some (.int z) ∧ (z = nI (mostS C rt dn sz wy) ∧ vMd h' C rt rw dn sz wy cl' bs ∧ xFr 30 1 h h')) by
      by_cases q : (rhi (runsOf C rt) r).toInt < 2147483647
      · exact ms_one (G := G) (by omega) hs3 hSc (tX6_stepsOf hSc hO _ (by rw [hhi, I_suc q])) (fun hd' hSd hFd => hd _ hd' hs3 (fun _ => rfl) (Or.inr ⟨_, rfl⟩) hSd hFd)
      · exact ms_one (G := G) (v := 0) (by omega) (by omega) hSc (tX6_stepsNo hSc _ (by rw [hhi]; omega)) (fun hd' hSd hFd => hd 0 hd' (by omega) (fun w => absurd w q) (Or.inl rfl) hSd hFd)
    intro v4 hd hv4 he4 hat4 hSd hFd
    refine Ax_il4 dX6_mostSteps_40 ?_
    refine Ax_ic4 dX6_mostSteps_42 ?_
    refine Ax_cmpgen (tgt := 126) dX6_mostSteps_43 (by decide) (by omega) (by omega) (fun c43 => ?_) (fun c43 => ?_)
    rotate_left
    · exact absurd c43 (by decide)
    refine Ax_inc3_1n dX6_mostSteps_126 (Nat.le_of_ble_eq_true rfl) (by rfl) ?_
    refine Ax_goto (tgt := 29) dX6_mostSteps_129 (by decide) ?_
    refine ih (r + 1) _ _ _ hd (by omega) hSd ((((hF.tr hFa).tr hFb).tr hFc).tr hFd) ⟨?_, by omega, fun k hk => ?_⟩
    · exact att_max (att_max (att_max (att_max ⟨x0, hx0⟩ (Or.inr ⟨_, rfl⟩)) (Or.inr ⟨_, rfl⟩)) hat3) hat4
    · rcases (show k < r ∨ k = r by omega) with q | q
      · have := hp3 k q
        exact ⟨by omega, fun w => by have := this.2 w; omega⟩
      · subst q
        exact ⟨by omega, fun w => by have := he4 w; omega⟩
theorem tX6_cost (hS : vM h C rt rw dn sz wy cl' bs) (hO : sOk C rt rw dn sz wy) : AM G mX6_cost 4 0 [.ref 30] h (fun q h' => q = some (.int (nI (costN (runsOf C rt) dn sz wy (clsOf (runsOf C rt) dn sz).length))) ∧ vM h' C rt rw dn sz wy cl' bs ∧ xFr 30 29 h h') := by
  obtain ⟨o0, o1, o2, o3, o4, o5, o6, o7⟩ := id hO
  obtain ⟨i1, i2, i3⟩ := runs_inv o0 rt
  have hlk := Nat.le_trans (cls_len (runsOf C rt) dn sz) i2
  obtain ⟨⟨rn, kn, ln, pt, tk, m⟩, -⟩ := id hS
  refine AM.of rfl rfl (Nat.le_of_ble_eq_true rfl) rfl ?_
  refine Ax_al0 dX6_cost_0 ?_
  refine Ax_cVv dX6_cost_1 vX6_215 kfX6 m (tX6_make (G := G) hS hO) rfl rfl (by decide) (by simp [Value.category]) (Nat.le_refl _) (fun h1 q1 => ?_)
  obtain ⟨hS1, hF1⟩ := q1
  obtain ⟨⟨pt1, tk1, m⟩, hCs, hV, hK, hT, ⟨dp, m24, hdp⟩, hL, h5, hOut⟩ := id hS1
  refine Ax_lc0 dX6_cost_4 ?_
  refine Ax_ls1 dX6_cost_5 (Nat.le_of_ble_eq_true rfl) (by rfl) ?_
  refine Ax_ic0 dX6_cost_6 ?_
  refine Ax_is3 dX6_cost_7 (Nat.le_of_ble_eq_true rfl) (by rfl) ?_
  suffices hloop : ∀ z c, c + z = (clsOf (runsOf C rt) dn sz).length → Ax G mX6_cost 4 0 8 [.ref 30, .long (lN (costN (runsOf C rt) dn sz wy c)), .null, .int (nI c)] [] h1 (fun q h' => q = some (.int (nI (costN (runsOf C rt) dn sz wy (clsOf (runsOf C rt) dn sz).length))) ∧ vM h' C rt rw dn sz wy cl' bs ∧ xFr 30 29 h h') from hloop _ 0 (Nat.zero_add _)
  intro z
  induction z with
  | zero =>
    intro c hc
    obtain rfl : c = (clsOf (runsOf C rt) dn sz).length := by omega
    refine Ax_il3 dX6_cost_8 ?_
    refine Ax_al0 dX6_cost_9 ?_
    refine Ax_getf kfX6 fX6_149 dX6_cost_10 m rfl ?_
    refine Ax_cmpgen (tgt := 40) dX6_cost_13 (by decide) (by omega) (by omega) (fun c13 => ?_) (fun c13 => ?_)
    · refine Ax_ll1 dX6_cost_40 ?_
      refine Ax_l2in dX6_cost_41 ?_
      exact Ax_iret dX6_cost_42 rfl rfl ⟨rfl, hS1.raw, hF1⟩
    · omega
  | succ z ih =>
    intro c hc
    have hcl : c < (clsOf (runsOf C rt) dn sz).length := by omega
    have hq := dep_le (sp := spF (runsOf C rt) dn sz wy) (c := c) 24 0 ((clsOf (runsOf C rt) dn sz).length - 1)
    have hqa : qa (runsOf C rt) dn sz wy c ≤ 24 := hq
    refine Ax_il3 dX6_cost_8 ?_
    refine Ax_al0 dX6_cost_9 ?_
    refine Ax_getf kfX6 fX6_149 dX6_cost_10 m rfl ?_
    refine Ax_cmpgen (tgt := 40) dX6_cost_13 (by decide) (by omega) (by omega) (fun c13 => ?_) (fun c13 => ?_)
    · omega
    refine Ax_ll1 dX6_cost_16 ?_
    refine Ax_al0 dX6_cost_17 ?_
    refine Ax_il3 dX6_cost_18 ?_
    refine Ax_cVl dX6_cost_19 vX6_152 kfX6 m (tX6_weightOf m hV hK i2 i3 hcl) rfl rfl (by decide) (by simp [Value.category]) ?_
    refine Ax_lc1 dX6_cost_22 ?_
    refine Ax_laddn dX6_cost_23 ?_
    refine Ax_al0 dX6_cost_24 ?_
    refine Ax_getf kfX6 fX6_67 dX6_cost_25 m rfl ?_
    refine Ax_il3 dX6_cost_28 ?_
    refine Ax_ialdn dX6_cost_29 m24 (by omega) (by omega) ?_
    refine Ax_top (hdp c hcl) ?_
    refine Ax_i2ln dX6_cost_30 (by omega) ?_
    refine Ax_lmuln dX6_cost_31 ?_
    refine Ax_laddn dX6_cost_32 ?_
    refine Ax_ls1 dX6_cost_33 (Nat.le_of_ble_eq_true rfl) (by rfl) ?_
    refine Ax_inc3_1n dX6_cost_34 (Nat.le_of_ble_eq_true rfl) (by rfl) ?_
    refine Ax_goto (tgt := 8) dX6_cost_37 (by decide) ?_
    exact ih (c + 1) (by omega)
theorem tX6_numbers (hS : vMd h C rt rw dn sz wy cl' bs) (hO : sOk C rt rw dn sz wy) : AM G mX6_numbers 0 0 [.ref 30] h (fun q h' => q = some (.int (nI (tsum (cLn C rt dn sz wy)))) ∧ h' = h) := by
  obtain ⟨b1, b2, b3, b4⟩ := hO.bd
  obtain ⟨⟨pt1, tk1, m⟩, hCs, hV, hK, hT, hD, ⟨kn', fi, se, ro, fo, m25, m26, m27, m28, m29, hR⟩, h5, hOut⟩ := id hS
  rw [← numN_all]
  refine AM.of rfl rfl (Nat.le_of_ble_eq_true rfl) rfl ?_
  refine Ax_ic0 dX6_numbers_0 ?_
  refine Ax_is1 dX6_numbers_1 (Nat.le_of_ble_eq_true rfl) (by rfl) ?_
  refine Ax_ic0 dX6_numbers_2 ?_
  refine Ax_is2 dX6_numbers_3 (Nat.le_of_ble_eq_true rfl) (by rfl) ?_
  suffices hloop : ∀ z c, c + z = (cLn C rt dn sz wy).length → Ax G mX6_numbers 0 0 4 [.ref 30, .int (nI (numN (cLn C rt dn sz wy) c)), .int (nI c)] [] h (fun q h' => q = some (.int (nI (numN (cLn C rt dn sz wy) (cLn C rt dn sz wy).length))) ∧ h' = h) from hloop _ 0 (Nat.zero_add _)
  intro z
  induction z with
  | zero =>
    intro c hc
    obtain rfl : c = (cLn C rt dn sz wy).length := by omega
    refine Ax_il2 dX6_numbers_4 ?_
    refine Ax_al0 dX6_numbers_5 ?_
    refine Ax_getf kfX6 fX6_158 dX6_numbers_6 m rfl ?_
    refine Ax_cmpgen (tgt := 41) dX6_numbers_9 (by decide) (by omega) (by omega) (fun c9 => ?_) (fun c9 => ?_)
    · refine Ax_il1 dX6_numbers_41 ?_
      exact Ax_iret dX6_numbers_42 rfl rfl ⟨rfl, rfl⟩
    · omega
  | succ z ih =>
    intro c hc
    have hcl : c < (cLn C rt dn sz wy).length := by omega
    obtain ⟨l1, l2, l3, l4, l5⟩ := hR c hcl
    obtain ⟨k1, k2, k3⟩ := b4 _ (gL_in hcl)
    have hih := ih (c + 1) (by omega)
    refine Ax_il2 dX6_numbers_4 ?_
    refine Ax_al0 dX6_numbers_5 ?_
    refine Ax_getf kfX6 fX6_158 dX6_numbers_6 m rfl ?_
    refine Ax_cmpgen (tgt := 41) dX6_numbers_9 (by decide) (by omega) (by omega) (fun c9 => ?_) (fun c9 => ?_)
    · omega
    refine Ax_il1 dX6_numbers_12 ?_
    refine Ax_al0 dX6_numbers_13 ?_
    refine Ax_getf kfX6 fX6_70 dX6_numbers_14 m rfl ?_
    refine Ax_il2 dX6_numbers_17 ?_
    refine Ax_ialdn dX6_numbers_18 m25 (by omega) (by omega) ?_
    refine Ax_top (l1) ?_
    refine Ax_ic5 dX6_numbers_19 ?_
    refine Ax_cmpnen (tgt := 32) dX6_numbers_20 (by decide) (by omega) (by omega) (fun c20 => ?_) (fun c20 => ?_)
    · have e : tsz (gL (cLn C rt dn sz wy) c) = 0 := by unfold tsz; rw [if_neg c20]
      rw [numN, e] at hih
      refine Ax_ic0 dX6_numbers_32 ?_
      refine Ax_iaddn dX6_numbers_33 ?_
      refine Ax_is1 dX6_numbers_34 (Nat.le_of_ble_eq_true rfl) (by rfl) ?_
      refine Ax_inc2_1n dX6_numbers_35 (Nat.le_of_ble_eq_true rfl) (by rfl) ?_
      refine Ax_goto (tgt := 4) dX6_numbers_38 (by decide) ?_
      exact hih
    · obtain ⟨k4, k5, k6, k7⟩ := k3 c20
      have e : tsz (gL (cLn C rt dn sz wy) c) = csp (runsOf C rt) dn sz (gL (cLn C rt dn sz wy) c).2.2.2.2 := by
        unfold tsz
        rw [if_pos c20, k6, nI_toInt (by omega)]
        exact Int.toNat_natCast _
      rw [numN, e] at hih
      refine Ax_al0 dX6_numbers_23 ?_
      refine Ax_getf kfX6 fX6_76 dX6_numbers_24 m rfl ?_
      refine Ax_il2 dX6_numbers_27 ?_
      refine Ax_ialdn dX6_numbers_28 m27 (by omega) (by omega) ?_
      refine Ax_top (l3.trans k6) ?_
      refine Ax_goto (tgt := 33) dX6_numbers_29 (by decide) ?_
      refine Ax_iaddn dX6_numbers_33 ?_
      refine Ax_is1 dX6_numbers_34 (Nat.le_of_ble_eq_true rfl) (by rfl) ?_
      refine Ax_inc2_1n dX6_numbers_35 (Nat.le_of_ble_eq_true rfl) (by rfl) ?_
      refine Ax_goto (tgt := 4) dX6_numbers_38 (by decide) ?_
      exact hih
theorem tX6_count (hS : vM h C rt rw dn sz wy cl' bs) (hO : sOk C rt rw dn sz wy) (what : Int32) : AM G mX6_count 5 0 [.ref 30, .int what] h (fun q h' => q = some (.int (countS C rt dn sz wy bs.length what)) ∧ vM h' C rt rw dn sz wy cl' bs ∧ xFr 30 29 h h') := by
  obtain ⟨o0, o1, o2, o3, o4, o5, o6, o7⟩ := id hO
  obtain ⟨i1, i2, i3⟩ := runs_inv o0 rt
  have hlk := Nat.le_trans (cls_len (runsOf C rt) dn sz) i2
  obtain ⟨⟨rn, kn, ln, pt, tk, m⟩, -⟩ := id hS
  refine AM.of rfl rfl (Nat.le_of_ble_eq_true rfl) rfl ?_
  refine Ax_al0 dX6_count_0 ?_
  refine Ax_cVv dX6_count_1 vX6_215 kfX6 m (tX6_make (G := G) hS hO) rfl rfl (by decide) (by simp [Value.category]) (Nat.le_refl _) (fun h1 q1 => ?_)
  obtain ⟨hS1, hF1⟩ := q1
  obtain ⟨pt1, tk1, m⟩ := hS1.1
  refine Ax_il1 dX6_count_4 ?_
  unfold countS
  rcases x_tabN 8 what with hw | ⟨w, hw, rfl⟩
  · rw [if_neg (tab_ne hw (by decide) (by decide)), if_neg (tab_ne hw (by decide) (by decide)), if_neg (tab_ne hw (by decide) (by decide)), if_neg (tab_ne hw (by decide) (by decide)), if_neg (tab_ne hw (by decide) (by decide)), if_neg (tab_ne hw (by decide) (by decide)), if_neg (tab_ne hw (by decide) (by decide)), if_neg (tab_ne hw (by decide) (by decide))]
    have hw' : what.toInt < 0 ∨ 7 < what.toInt := by omega
    refine Ax_tabO (tgt := 105) dX6_count_5 (by assumption) (by decide) ?_
    refine Ax_bpm102 dX6_count_105 ?_
    exact Ax_iret dX6_count_107 rfl rfl ⟨rfl, hS1.raw, hF1⟩
  · rcases (show w = 0 ∨ w = 1 ∨ w = 2 ∨ w = 3 ∨ w = 4 ∨ w = 5 ∨ w = 6 ∨ w = 7 by omega) with rfl | rfl | rfl | rfl | rfl | rfl | rfl | rfl
    · rw [if_pos rfl]
      refine Ax_tabI (tgt := 52) dX6_count_5 (by decide) (by decide) rfl (by decide) ?_
      refine Ax_al0 dX6_count_52 ?_
      refine Ax_getf kfX6 fX6_116 dX6_count_53 m rfl ?_
      exact Ax_iret dX6_count_56 rfl rfl ⟨rfl, hS1.raw, hF1⟩
    · rw [if_neg (by decide), if_pos rfl]
      refine Ax_tabI (tgt := 57) dX6_count_5 (by decide) (by decide) rfl (by decide) ?_
      refine Ax_al0 dX6_count_57 ?_
      refine Ax_getf kfX6 fX6_138 dX6_count_58 m rfl ?_
      exact Ax_iret dX6_count_61 rfl rfl ⟨rfl, hS1.raw, hF1⟩
    · rw [if_neg (by decide), if_neg (by decide), if_pos rfl]
      refine Ax_tabI (tgt := 62) dX6_count_5 (by decide) (by decide) rfl (by decide) ?_
      refine Ax_al0 dX6_count_62 ?_
      refine Ax_getf kfX6 fX6_149 dX6_count_63 m rfl ?_
      exact Ax_iret dX6_count_66 rfl rfl ⟨rfl, hS1.raw, hF1⟩
    · rw [if_neg (by decide), if_neg (by decide), if_neg (by decide), if_pos rfl]
      refine Ax_tabI (tgt := 67) dX6_count_5 (by decide) (by decide) rfl (by decide) ?_
      refine Ax_al0 dX6_count_67 ?_
      refine Ax_getf kfX6 fX6_149 dX6_count_68 m rfl ?_
      refine Ax_iflen (tgt := 83) dX6_count_71 (by decide) (by omega) (fun c71 => ?_) (fun c71 => ?_)
      · rw [c71]
        refine Ax_ic0 dX6_count_83 ?_
        exact Ax_iret dX6_count_84 rfl rfl ⟨rfl, hS1.raw, hF1⟩
      · refine Ax_al0 dX6_count_74 ?_
        refine Ax_getf kfX6 fX6_149 dX6_count_75 m rfl ?_
        refine Ax_ic1 dX6_count_78 ?_
        refine Ax_isubn dX6_count_79 (by omega) ?_
        refine Ax_goto (tgt := 84) dX6_count_80 (by decide) ?_
        exact Ax_iret dX6_count_84 rfl rfl ⟨rfl, hS1.raw, hF1⟩
    · rw [if_neg (by decide), if_neg (by decide), if_neg (by decide), if_neg (by decide), if_pos rfl]
      refine Ax_tabI (tgt := 85) dX6_count_5 (by decide) (by decide) rfl (by decide) ?_
      refine Ax_al0 dX6_count_85 ?_
      refine Ax_getf kfX6 fX6_158 dX6_count_86 m rfl ?_
      exact Ax_iret dX6_count_89 rfl rfl ⟨rfl, hS1.raw, hF1⟩
    · rw [if_neg (by decide), if_neg (by decide), if_neg (by decide), if_neg (by decide), if_neg (by decide), if_pos rfl]
      refine Ax_tabI (tgt := 90) dX6_count_5 (by decide) (by decide) rfl (by decide) ?_
      refine Ax_al0 dX6_count_90 ?_
      refine Ax_cVi dX6_count_91 vX6_221 kfX6 m (tX6_numbers hS1 hO) rfl rfl (by decide) (by simp [Value.category]) ?_
      exact Ax_iret dX6_count_94 rfl rfl ⟨rfl, hS1.raw, hF1⟩
    · rw [if_neg (by decide), if_neg (by decide), if_neg (by decide), if_neg (by decide), if_neg (by decide), if_neg (by decide), if_pos rfl]
      refine Ax_tabI (tgt := 95) dX6_count_5 (by decide) (by decide) rfl (by decide) ?_
      refine Ax_al0 dX6_count_95 ?_
      refine Ax_getf kfX6 fX6_225 dX6_count_96 m rfl ?_
      exact Ax_iret dX6_count_99 rfl rfl ⟨rfl, hS1.raw, hF1⟩
    · rw [if_neg (by decide), if_neg (by decide), if_neg (by decide), if_neg (by decide), if_neg (by decide), if_neg (by decide), if_neg (by decide), if_pos rfl]
      refine Ax_tabI (tgt := 100) dX6_count_5 (by decide) (by decide) rfl (by decide) ?_
      refine Ax_al0 dX6_count_100 ?_
      refine Ax_cViH dX6_count_101 vX6_228 kfX6 m (tX6_mostSteps (G := G) hS1 hO) rfl rfl (by decide) (by simp [Value.category]) (Nat.le_refl _) (fun x101 h12 q12 => ?_)
      obtain ⟨rfl, hS2, hF2⟩ := q12
      exact Ax_iret dX6_count_104 rfl rfl ⟨rfl, hS2.raw, f31 hF1 hF2⟩
end
