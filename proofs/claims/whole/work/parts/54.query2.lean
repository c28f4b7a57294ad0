/-! ChoiceCode: the questions -/
section
variable {G : xG} {h : xH} {C : Cs} {rt rw dn sz wy stale cap : Nat} {cl' : Int32} {bs : List Nat}
theorem vX5.done (hS : vX5 h C rt rw dn sz wy cl' 0 bs cap) : vDone h C rt dn sz wy := by
  rcases hS.2.2.2 with ⟨q, -⟩ | ⟨-, q⟩
  · cases q
  · exact q
theorem vX5.code {h' : xH} (hS : vX5 h C rt rw dn sz wy cl' 0 bs cap) {tg dn' : Int32} (hV : vC h' (runsOf C rt) dn sz rt (cLn C rt dn sz wy) tg dn') (hF : xFr 21 7 h h') : vX5 h' C rt rw dn sz wy cl' 0 bs cap := by
  obtain ⟨hu, ⟨lo, hi, tg', wt, h1, h2⟩, h3, -⟩ := id hS
  obtain ⟨d1, d2, d3, -⟩ := hS.done
  exact ⟨(hF.1 0 (by omega)).trans hu, ⟨lo, hi, tg', wt, h1.fr hF (by omega), h2⟩, h3.fr hF (by omega), Or.inr ⟨rfl, d1.fr hF (by omega), d2.fr hF (by omega), d3.fr hF (by omega), tg, dn', hV⟩⟩
theorem sOk.bd (hO : sOk C rt rw dn sz wy) : (cLn C rt dn sz wy).length ≤ 168 ∧ tsum (cLn C rt dn sz wy) ≤ 3072 ∧ 0 < (cLn C rt dn sz wy).length ∧ ∀ l ∈ cLn C rt dn sz wy, lnOk (runsOf C rt) dn sz l := by
  obtain ⟨o0, o1, o2, o3, o4, o5, o6, o7⟩ := hO
  obtain ⟨i1, i2, i3⟩ := runs_inv o0 rt
  obtain ⟨h1, h2, h3⟩ := code_len (R := runsOf C rt) (dens := dn) (rest := rt) (way := wy) i2 o6
  exact ⟨h1, h2, h3, code_ok i2 o6⟩
theorem tX5_stepsOf (hS : vX5 h C rt rw dn sz wy cl' 0 bs cap) (hO : sOk C rt rw dn sz wy) (x : Int32) : AM G mX5_stepsOf 5 0 [.ref 0, .int x] h
    (fun r h' => ∃ z, r = some (.int z) ∧ (z = nI (goP C rt dn sz wy x).1 ∧ vX5 h' C rt rw dn sz wy cl' 0 bs cap ∧ xFr 21 7 h h')) := by
  obtain ⟨g1, g2⟩ := goP_is hO x
  obtain ⟨b1, b2, b3, b4⟩ := hO.bd
  have u := hS.1
  obtain ⟨-, -, -, tg, dn', hV⟩ := hS.done
  have c0 := hV.ob
  refine AM.of rfl rfl (Nat.le_of_ble_eq_true rfl) rfl ?_
  refine Ax_al0 dX5_stepsOf_0 ?_
  refine Ax_getf kfX5 fX5_42 dX5_stepsOf_1 u rfl ?_
  refine Ax_il1 dX5_stepsOf_4 ?_
  refine Ax_cVv dX5_stepsOf_5 vX5_166 kfX1 c0 (tX1_follow (G := G) hV (by omega) b2 b4 g2 (by omega)) rfl rfl (by decide) (by simp [Value.category]) (Nat.le_refl _) (fun h1 q1 => ?_)
  obtain ⟨hV1, hF1⟩ := q1
  have hS1 := hS.code hV1 hF1
  have u1 := hS1.1
  have c1 := hV1.ob
  obtain ⟨kn, fi, se, rw', st, nu, hVd, -⟩ := id hV1
  refine Ax_al0 dX5_stepsOf_8 ?_
  refine Ax_getf kfX5 fX5_42 dX5_stepsOf_9 u1 rfl ?_
  refine Ax_cVi dX5_stepsOf_12 vX5_213 kfX1 c1 (tX1_linesDone hVd) rfl rfl (by decide) (by simp [Value.category]) ?_
  exact Ax_iret dX5_stepsOf_15 rfl rfl ⟨_, rfl, rfl, hS1, hF1⟩
theorem tX5_go (hS : vX5 h C rt rw dn sz wy cl' stale bs cap) (hO : sOk C rt rw dn sz wy) (x : Int32) : AM G mX5_go 30 0 [.ref 0, .int x] h
    (fun r h' => r = some (.int (nI (goP C rt dn sz wy x).2)) ∧ vX5 h' C rt rw dn sz wy cl' 0 bs cap ∧ xFr 0 28 h h') := by
  obtain ⟨g1, g2⟩ := goP_is hO x
  obtain ⟨b1, b2, b3, b4⟩ := hO.bd
  have u := hS.1
  refine AM.of rfl rfl (Nat.le_of_ble_eq_true rfl) rfl ?_
  refine Ax_al0 dX5_go_0 ?_
  refine Ax_cVv dX5_go_1 vX5_112 kfX5 u (tX5_workOut (G := G) hS hO) rfl rfl (by decide) (by simp [Value.category]) (Nat.le_refl _) (fun h11 q11 => ?_)
  obtain ⟨hS1, hF1⟩ := q11
  have u1 := hS1.1
  obtain ⟨-, -, -, tg, dn', hV⟩ := hS1.done
  have c0 := hV.ob
  refine Ax_al0 dX5_go_4 ?_
  refine Ax_getf kfX5 fX5_42 dX5_go_5 u1 rfl ?_
  refine Ax_il1 dX5_go_8 ?_
  refine Ax_cVv dX5_go_9 vX5_166 kfX1 c0 (tX1_follow (G := G) hV (by omega) b2 b4 g2 (by omega)) rfl rfl (by decide) (by simp [Value.category]) (Nat.le_refl _) (fun h12 q12 => ?_)
  obtain ⟨hV1, hF2⟩ := q12
  have hS2 := hS1.code hV1 hF2
  have u2 := hS2.1
  have c1 := hV1.ob
  obtain ⟨kn, fi, se, rw', st, nu, hVd, -⟩ := id hV1
  refine Ax_al0 dX5_go_12 ?_
  refine Ax_getf kfX5 fX5_42 dX5_go_13 u2 rfl ?_
  refine Ax_cVi dX5_go_16 vX5_169 kfX1 c1 (tX1_target hVd) rfl rfl (by decide) (by simp [Value.category]) ?_
  exact Ax_iret dX5_go_19 rfl rfl ⟨rfl, hS2, ⟨fun q hq => (hF2.1 q (by omega)).trans (hF1.1 q hq), hF2.2.trans hF1.2⟩⟩
theorem tX5_steps (hS : vX5 h C rt rw dn sz wy cl' stale bs cap) (hO : sOk C rt rw dn sz wy) (x : Int32) : AM G mX5_steps 30 0 [.ref 0, .int x] h
    (fun r h' => r = some (.int (nI (goP C rt dn sz wy x).1)) ∧ vX5 h' C rt rw dn sz wy cl' 0 bs cap ∧ xFr 0 28 h h') := by
  have u := hS.1
  refine AM.of rfl rfl (Nat.le_of_ble_eq_true rfl) rfl ?_
  refine Ax_al0 dX5_steps_0 ?_
  refine Ax_cVv dX5_steps_1 vX5_112 kfX5 u (tX5_workOut (G := G) hS hO) rfl rfl (by decide) (by simp [Value.category]) (Nat.le_refl _) (fun h11 q11 => ?_)
  obtain ⟨hS1, hF1⟩ := q11
  have u1 := hS1.1
  refine Ax_al0 dX5_steps_4 ?_
  refine Ax_il1 dX5_steps_5 ?_
  refine Ax_cViH dX5_steps_6 vX5_172 kfX5 u1 (tX5_stepsOf (G := G) hS1 hO x) rfl rfl (by decide) (by simp [Value.category]) (Nat.le_refl _) (fun x6 h12 q12 => ?_)
  obtain ⟨rfl, hS2, hF2⟩ := q12
  exact Ax_iret dX5_steps_9 rfl rfl ⟨rfl, hS2, ⟨fun q hq => (hF2.1 q (by omega)).trans (hF1.1 q hq), hF2.2.trans hF1.2⟩⟩
theorem tX5_run (hS : vX5 h C rt rw dn sz wy cl' stale bs cap) (hO : sOk C rt rw dn sz wy) (r what : Int32) : AM G mX5_run 30 0 [.ref 0, .int r, .int what] h
    (fun q h' => q = some (.int (runS (runsOf C rt) r what)) ∧ vX5 h' C rt rw dn sz wy cl' 0 bs cap ∧ xFr 0 28 h h') := by
  have u := hS.1
  obtain ⟨o0, o1, o2, o3, o4, o5, o6, o7⟩ := id hO
  obtain ⟨i1, i2, i3⟩ := runs_inv o0 rt
  refine AM.of rfl rfl (Nat.le_of_ble_eq_true rfl) rfl ?_
  refine Ax_al0 dX5_run_0 ?_
  refine Ax_cVv dX5_run_1 vX5_112 kfX5 u (tX5_workOut (G := G) hS hO) rfl rfl (by decide) (by simp [Value.category]) (Nat.le_refl _) (fun h11 q11 => ?_)
  obtain ⟨hS1, hF1⟩ := q11
  have u1 := hS1.1
  obtain ⟨⟨lo, hi, tg, wt, hv, hrep, hno⟩, -⟩ := hS1.done
  have r0 := hv.1
  have e : gTell lo hi tg wt r what = runS (runsOf C rt) r what := by
    unfold gTell runS
    have eh : gHas tg r = gIn (runsOf C rt).length r := by
      unfold gHas
      by_cases q : gIn 24 r = true
      · have q' := q
        unfold gIn at q'
        rw [decide_eq_true_eq] at q'
        obtain ⟨k, hk, rfl⟩ := x_ix q'.1 q'.2 (by decide)
        rw [q, Bool.true_and, nI_clamp (by omega)]
        by_cases hkl : k < (runsOf C rt).length
        · rw [gIn_n hkl (by omega), (hrep k hkl).2.2.1]
          have := (i1.1 k hkl).2
          simp only [bne_iff_ne, ne_eq]
          exact nI_nem (by omega)
        · rw [gIn_f (Or.inr (by rw [Int32.le_iff_toInt_le, nI_toInt (by omega), nI_toInt (by omega)]; omega)), hno k (by omega) hk]
          rfl
      · have e2 : gIn (runsOf C rt).length r = false := by
          refine Bool.eq_false_iff.mpr (fun w => q ?_)
          unfold gIn at w
          rw [decide_eq_true_eq] at w
          obtain ⟨k, hk, rfl⟩ := x_ix w.1 w.2 (by omega)
          exact gIn_n (by omega) (by decide)
        rw [Bool.eq_false_iff.mpr q, e2]
        rfl
    rw [eh]
    by_cases q : gIn (runsOf C rt).length r = true
    · rw [if_pos q, if_pos q]
      unfold gIn at q
      rw [decide_eq_true_eq] at q
      obtain ⟨k, hk, rfl⟩ := x_ix q.1 q.2 (by omega)
      rw [nI_clamp (by omega)]
      obtain ⟨e1, e2, e3, e4⟩ := hrep k hk
      rw [e1, e2, e3, e4]
    · rw [if_neg q, if_neg q]
  have ht := tX2_tell (G := G) hv r what
  rw [e] at ht
  refine Ax_al0 dX5_run_4 ?_
  refine Ax_getf kfX5 fX5_16 dX5_run_5 u1 rfl ?_
  refine Ax_il1 dX5_run_8 ?_
  refine Ax_il2 dX5_run_9 ?_
  refine Ax_cVi dX5_run_10 vX5_109 kfX2 r0 ht rfl rfl (by decide) (by simp [Value.category]) ?_
  exact Ax_iret dX5_run_13 rfl rfl ⟨rfl, hS1, hF1⟩
end
