section
variable {G : xG} {h : xH} {o oc : Nat} {C : Cs}
theorem tX2_gather {lo hi tg wt clo' chi ctg cwt : Nat → Int32} {n cn : Int32} (hS : vSp h o lo hi tg wt n) (hc : vSp h oc clo' chi ctg cwt cn) (hd : oc + 5 ≤ o ∨ o + 5 ≤ oc) (hC : cOk C) (hR : CRep C clo' chi ctg cwt) {rest : Nat} (hr : rest < 16) : AM G mX2_gather 3 0 [.ref o, .ref oc, .int (nI rest)] h
    (fun r h' => r = none ∧ vRuns h' o (runsOf C rest) ∧ xFr o 5 h h') := by
  obtain ⟨s, s0, s1, s2, s3⟩ := id hS
  have c0 := hc.1
  refine AM.of rfl rfl (Nat.le_of_ble_eq_true rfl) rfl ?_
  refine Ax_al0 dX2_gather_0 ?_
  refine Ax_getf kfX2 fX2_18 dX2_gather_1 s rfl ?_
  refine Ax_icm1 dX2_gather_4 ?_
  refine Ax_cSv dX2_gather_5 sX2_28 (tJ7_fill s2 (by decide) _) rfl rfl (by decide) (by simp [Value.category]) (Nat.le_refl _) (fun h2 q2 => ?_)
  obtain ⟨⟨g, e1, e2⟩, e3, e4⟩ := q2
  replace s := (e3 _ (by omega)).trans s
  replace c0 := (e3 _ (by omega)).trans c0
  replace s0 := (e3 _ (by omega)).trans s0
  replace s1 := (e3 _ (by omega)).trans s1
  replace s2 := e1
  replace s3 := (e3 _ (by omega)).trans s3
  have hF2 : xFr o 5 h h2 := ⟨fun q hq => e3 q (by omega), e4⟩
  have fr : ∀ q, (q < o ∨ o + 5 ≤ q) → h2.1 q = h2.1 q := fun _ _ => rfl
  have zr : h2.2 = h2.2 := rfl
  refine Ax_al0 dX2_gather_8 ?_
  refine Ax_ic0 dX2_gather_9 ?_
  refine Ax_putf kfX2 fX2_24 dX2_gather_10 s (Nat.le_of_ble_eq_true rfl) (Or.inl rfl) (by rfl) (by rfl) (Ax_up (fun h4 e4 f4 z4 => ?_))
  replace s := e4
  replace s0 := (f4 _ (by omega)).trans s0
  replace s1 := (f4 _ (by omega)).trans s1
  replace s2 := (f4 _ (by omega)).trans s2
  replace s3 := (f4 _ (by omega)).trans s3
  replace c0 := (f4 _ (by omega)).trans c0
  replace fr : ∀ q, (q < o ∨ o + 5 ≤ q) → h4.1 q = h2.1 q := fun q hq => (f4 q (by omega)).trans (fr q hq)
  replace zr := z4.trans zr
  refine Ax_al1 dX2_gather_13 ?_
  refine Ax_ldc2 dX2_gather_14 cX2_42 ?_
  refine Ax_cViE dX2_gather_17 vX2_44 kfX2 c0 (tX2_nextByLow ((hc.fr hF2 hd).fr ⟨fr, zr⟩ hd) _) rfl rfl (by decide) (by simp [Value.category]) (fun x17 p17 => ?_)
  refine Ax_is3 dX2_gather_20 (Nat.le_of_ble_eq_true rfl) (by rfl) ?_
  obtain ⟨q, hq, hN⟩ := p17
  subst hq
  have hF3 : xFr o 5 h h4 := hF2.tr ⟨fr, zr⟩
  have hmin : (-9223372036854775808 : Int64).toInt = -9223372036854775808 := by decide
  have hhead : q = (ordL C).head? := next_head hC hR (done := []) (todo := ordL C) rfl (fun j hj => absurd hj List.not_mem_nil) (fun j hj => by rw [hmin]; have := I_lo (gC C j).1; unfold clo; omega) hN
  subst hhead
  have hV0 : vRuns h4 o (runsF C rest []) := ⟨_, _, _, _, ⟨s, s0, s1, s2, s3⟩, fun k hk => (Nat.not_lt_zero _ hk).elim, fun k _ hk => e2 k hk⟩
  suffices hloop : ∀ todo done k h1, ordL C = done ++ todo → k + todo.length ≤ 24 → done.length ≤ k → vRuns h1 o (runsF C rest done) → xFr o 5 h h1 → Ax G mX2_gather 3 0 24 [.ref o, .ref oc, .int (nI rest), .int (oI todo.head?), .int (nI k)] [] h1 (fun r h' => r = none ∧ vRuns h' o (runsOf C rest) ∧ xFr o 5 h h') by
    refine Ax_ic0 dX2_gather_21 ?_
    refine Ax_is4 dX2_gather_22 (Nat.le_of_ble_eq_true rfl) (by rfl) ?_
    exact hloop (ordL C) [] 0 h4 rfl (by have := ord_len (C := C); omega) (Nat.le_refl _) hV0 hF3
  clear hV0 hF3 hN hmin fr zr s s0 s1 s2 s3 c0 hF2 e1 e2 e3 e4
  intro todo
  induction todo with
  | nil =>
    intro done k h1 hL hk hdl hV hF
    rw [List.append_nil] at hL
    have s := hV.obj
    have hfin : vRuns h1 o (runsOf C rest) := by unfold runsOf; rw [hL]; exact hV
    refine Ax_il4 dX2_gather_24 ?_
    refine Ax_bp24 dX2_gather_26 ?_
    refine Ax_cmpgen (tgt := 86) dX2_gather_28 (by decide) (by omega) (by omega) (fun c28 => ?_) (fun c28 => ?_)
    · exact Ax_ret dX2_gather_86 rfl ⟨rfl, hfin, hF⟩
    refine Ax_il3 dX2_gather_31 ?_
    refine Ax_icm1 dX2_gather_32 ?_
    refine Ax_cmpeq (tgt := 86) dX2_gather_33 (by decide) (fun c33 => ?_) (fun c33 => ?_)
    · exact Ax_ret dX2_gather_86 rfl ⟨rfl, hfin, hF⟩
    · exact absurd rfl c33
  | cons i t ih =>
    intro done k h1 hL hk hdl hV hF
    rw [List.length_cons] at hk
    show Ax G mX2_gather 3 0 24 [.ref o, .ref oc, .int (nI rest), .int (nI i), .int (nI k)] [] h1 _
    have hi : i ∈ ordL C := by rw [hL]; simp
    have his := (ord_mem hC).mp hi
    obtain ⟨c, hcc⟩ := Option.isSome_iff_exists.mp his
    have hck := hC.1 i c hcc
    have hi24 := hck.1
    obtain ⟨r1, r2, r3, r4⟩ := hR.lo hi24 his
    rw [gC_some hcc] at r1 r2 r3 r4
    have hinv := runsF_inv (rest := rest) hC done (i :: t) hL
    have hL' : ordL C = (done ++ [i]) ++ t := by rw [hL]; simp
    have hsort := ord_sort hC
    rw [hL', List.pairwise_append] at hsort
    have hc1 := hc.fr hF hd
    have c0 := hc1.1
    have s := hV.obj
    have hnext : ∀ h5, vRuns h5 o (runsF C rest (done ++ [i])) → xFr o 5 h h5 → Ax G mX2_gather 3 0 69 [.ref o, .ref oc, .int (nI rest), .int (nI i), .int (nI k)] [] h5 (fun r h' => r = none ∧ vRuns h' o (runsOf C rest) ∧ xFr o 5 h h') := by
      intro h5 hV5 hF5
      have hc5 := hc.fr hF5 hd
      have c0 := hc5.1
      refine Ax_al1 dX2_gather_69 ?_
      refine Ax_al1 dX2_gather_70 ?_
      refine Ax_il3 dX2_gather_71 ?_
      refine Ax_cVi dX2_gather_72 vX2_52 kfX2 c0 (tX2_low hc5 hi24) rfl rfl (by decide) (by simp [Value.category]) ?_
      refine Ax_i2l dX2_gather_75 ?_
      refine Ax_cViE dX2_gather_76 vX2_44 kfX2 c0 (tX2_nextByLow hc5 _) rfl rfl (by decide) (by simp [Value.category]) (fun x76 p76 => ?_)
      obtain ⟨q, hq, hN⟩ := p76
      subst hq
      have hhead : q = t.head? := next_head hC hR (done := done ++ [i]) (todo := t) hL' (fun j hj => by
        rw [Int32.toInt_toInt64, r1]
        rcases List.mem_append.mp hj with hj | hj
        · have := (List.pairwise_append.mp hsort.1).2.2 j hj i (List.mem_singleton.mpr rfl)
          unfold clo at this
          rw [gC_some hcc] at this
          unfold clo
          omega
        · rw [List.mem_singleton.mp hj]
          unfold clo
          rw [gC_some hcc]
          omega) (fun j hj => by
        rw [Int32.toInt_toInt64, r1]
        have := hsort.2.2 i (List.mem_append.mpr (Or.inr (List.mem_singleton.mpr rfl))) j hj
        unfold clo at this
        rw [gC_some hcc] at this
        exact this) hN
      subst hhead
      refine Ax_is3 dX2_gather_79 (Nat.le_of_ble_eq_true rfl) (by rfl) ?_
      refine Ax_inc4_1n dX2_gather_80 (Nat.le_of_ble_eq_true rfl) (by rfl) ?_
      refine Ax_goto (tgt := 24) dX2_gather_83 (by decide) ?_
      exact ih (done ++ [i]) (k + 1) h5 hL' (by omega) (by simp; omega) hV5 hF5
    have tlo := tX2_low (G := G) hc1 hi24
    have thi := tX2_high (G := G) hc1 hi24
    have ttg := tX2_target (G := G) hc1 hi24
    have twt := tX2_weight (G := G) hc1 hi24
    rw [r1] at tlo
    rw [r2] at thi
    rw [r3] at ttg
    rw [r4] at twt
    refine Ax_il4 dX2_gather_24 ?_
    refine Ax_bp24 dX2_gather_26 ?_
    refine Ax_cmpgen (tgt := 86) dX2_gather_28 (by decide) (by omega) (by omega) (fun c28 => ?_) (fun c28 => ?_)
    · omega
    refine Ax_il3 dX2_gather_31 ?_
    refine Ax_icm1 dX2_gather_32 ?_
    refine Ax_cmpeq (tgt := 86) dX2_gather_33 (by decide) (fun c33 => ?_) (fun c33 => ?_)
    · exfalso
      have := congrArg Int32.toInt c33
      rw [nI_toInt (by omega)] at this
      have h7 : (-1 : Int32).toInt = -1 := rfl
      omega
    refine Ax_al1 dX2_gather_36 ?_
    refine Ax_il3 dX2_gather_37 ?_
    refine Ax_cVi dX2_gather_38 vX2_48 kfX2 c0 ttg rfl rfl (by decide) (by simp [Value.category]) ?_
    refine Ax_il2 dX2_gather_41 ?_
    refine Ax_cmpeqn (tgt := 69) dX2_gather_42 (by decide) (by omega) (by omega) (fun c42 => ?_) (fun c42 => ?_)
    · refine hnext h1 ?_ hF
      rw [runsF_snoc, if_neg]
      · exact hV
      · rw [gC_some hcc]
        simp [c42]
    refine Ax_al0 dX2_gather_45 ?_
    refine Ax_al1 dX2_gather_46 ?_
    refine Ax_il3 dX2_gather_47 ?_
    refine Ax_cVi dX2_gather_48 vX2_52 kfX2 c0 tlo rfl rfl (by decide) (by simp [Value.category]) ?_
    refine Ax_al1 dX2_gather_51 ?_
    refine Ax_il3 dX2_gather_52 ?_
    refine Ax_cVi dX2_gather_53 vX2_55 kfX2 c0 thi rfl rfl (by decide) (by simp [Value.category]) ?_
    refine Ax_al1 dX2_gather_56 ?_
    refine Ax_il3 dX2_gather_57 ?_
    refine Ax_cVi dX2_gather_58 vX2_48 kfX2 c0 ttg rfl rfl (by decide) (by simp [Value.category]) ?_
    refine Ax_al1 dX2_gather_61 ?_
    refine Ax_il3 dX2_gather_62 ?_
    refine Ax_cVi dX2_gather_63 vX2_58 kfX2 c0 twt rfl rfl (by decide) (by simp [Value.category]) ?_
    refine Ax_cVv dX2_gather_66 vX2_61 kfX2 s (tX2_join hV (by omega) hinv.1 c.1 c.2.1 hck.2.2.1) rfl rfl (by decide) (by simp [Value.category]) (Nat.le_refl _) (fun h31 q31 => ?_)
    refine hnext _ ?_ (hF.tr q31.2)
    rw [runsF_snoc, if_pos]
    · rw [gC_some hcc]; exact q31.1
    · rw [gC_some hcc]
      simpa using c42
end
