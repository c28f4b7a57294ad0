/-! Clusters: the cells of an object at o, its runs at ro -/
def vCl (h : xH) (o ro : Nat) (kn fi la we fw en : Nat → Int32) (dn sz hd : Int32) : Prop :=
  h.1 o = cO 0 [.ref ro, .ref (o + 1), .ref (o + 2), .ref (o + 3), .ref (o + 4), .ref (o + 5), .ref (o + 6), .int dn, .int sz, .int hd] ∧
  h.1 (o + 1) = cI 0 24 kn ∧ h.1 (o + 2) = cI 0 24 fi ∧ h.1 (o + 3) = cI 0 24 la ∧ h.1 (o + 4) = cI 0 24 we ∧ h.1 (o + 5) = cI 0 25 fw ∧ h.1 (o + 6) = cI 0 25 en
theorem vCl.fr {h h' : xH} {o ro o' w : Nat} {kn fi la we fw en : Nat → Int32} {dn sz hd : Int32} (hS : vCl h o ro kn fi la we fw en dn sz hd) (hF : xFr o' w h h') (hq : o + 7 ≤ o' ∨ o' + w ≤ o) : vCl h' o ro kn fi la we fw en dn sz hd :=
  ⟨(hF.1 _ (by omega)).trans hS.1, (hF.1 _ (by omega)).trans hS.2.1, (hF.1 _ (by omega)).trans hS.2.2.1, (hF.1 _ (by omega)).trans hS.2.2.2.1, (hF.1 _ (by omega)).trans hS.2.2.2.2.1, (hF.1 _ (by omega)).trans hS.2.2.2.2.2.1, (hF.1 _ (by omega)).trans hS.2.2.2.2.2.2⟩
section
variable {G : xG} {h : xH} {o ro : Nat} {kn fi la we fw en : Nat → Int32} {dn sz hd : Int32} {R : List Run}
theorem tX0_held (hS : vCl h o ro kn fi la we fw en dn sz hd) : AM G mX0_held 0 0 [.ref o] h (fun r h' => r = some (.int hd) ∧ h' = h) := by
  obtain ⟨s, s1, s2, s3, s4, s5, s6⟩ := id hS
  refine AM.of rfl rfl (Nat.le_of_ble_eq_true rfl) rfl ?_
  refine Ax_al0 dX0_held_0 ?_
  refine Ax_getf kfX0 fX0_37 dX0_held_1 s rfl ?_
  exact Ax_iret dX0_held_4 rfl rfl ⟨rfl, rfl⟩
theorem tX0_kind (hS : vCl h o ro kn fi la we fw en dn sz hd) {k : Nat} (hk : k < 24) : AM G mX0_kind 0 0 [.ref o, .int (nI k)] h (fun r h' => r = some (.int (kn k)) ∧ h' = h) := by
  obtain ⟨s, s1, s2, s3, s4, s5, s6⟩ := id hS
  refine AM.of rfl rfl (Nat.le_of_ble_eq_true rfl) rfl ?_
  refine Ax_il1 dX0_kind_0 ?_
  refine Ax_ifltn (tgt := 19) dX0_kind_1 (by decide) (by omega) ?_
  refine Ax_il1 dX0_kind_4 ?_
  refine Ax_bp24 dX0_kind_5 ?_
  refine Ax_cmpgen (tgt := 19) dX0_kind_7 (by decide) (by omega) (by omega) (fun c7 => ?_) (fun c7 => ?_)
  · omega
  · refine Ax_al0 dX0_kind_10 ?_
    refine Ax_getf kfX0 fX0_9 dX0_kind_11 s rfl ?_
    refine Ax_il1 dX0_kind_14 ?_
    refine Ax_ialdn dX0_kind_15 s1 (by omega) (by omega) ?_
    refine Ax_goto (tgt := 20) dX0_kind_16 (by decide) ?_
    exact Ax_iret dX0_kind_20 rfl rfl ⟨rfl, rfl⟩
theorem tX0_firstRun (hS : vCl h o ro kn fi la we fw en dn sz hd) {k : Nat} (hk : k < 24) : AM G mX0_firstRun 0 0 [.ref o, .int (nI k)] h (fun r h' => r = some (.int (fi k)) ∧ h' = h) := by
  obtain ⟨s, s1, s2, s3, s4, s5, s6⟩ := id hS
  refine AM.of rfl rfl (Nat.le_of_ble_eq_true rfl) rfl ?_
  refine Ax_il1 dX0_firstRun_0 ?_
  refine Ax_ifltn (tgt := 19) dX0_firstRun_1 (by decide) (by omega) ?_
  refine Ax_il1 dX0_firstRun_4 ?_
  refine Ax_bp24 dX0_firstRun_5 ?_
  refine Ax_cmpgen (tgt := 19) dX0_firstRun_7 (by decide) (by omega) (by omega) (fun c7 => ?_) (fun c7 => ?_)
  · omega
  · refine Ax_al0 dX0_firstRun_10 ?_
    refine Ax_getf kfX0 fX0_15 dX0_firstRun_11 s rfl ?_
    refine Ax_il1 dX0_firstRun_14 ?_
    refine Ax_ialdn dX0_firstRun_15 s2 (by omega) (by omega) ?_
    refine Ax_goto (tgt := 20) dX0_firstRun_16 (by decide) ?_
    exact Ax_iret dX0_firstRun_20 rfl rfl ⟨rfl, rfl⟩
theorem tX0_lastRun (hS : vCl h o ro kn fi la we fw en dn sz hd) {k : Nat} (hk : k < 24) : AM G mX0_lastRun 0 0 [.ref o, .int (nI k)] h (fun r h' => r = some (.int (la k)) ∧ h' = h) := by
  obtain ⟨s, s1, s2, s3, s4, s5, s6⟩ := id hS
  refine AM.of rfl rfl (Nat.le_of_ble_eq_true rfl) rfl ?_
  refine Ax_il1 dX0_lastRun_0 ?_
  refine Ax_ifltn (tgt := 19) dX0_lastRun_1 (by decide) (by omega) ?_
  refine Ax_il1 dX0_lastRun_4 ?_
  refine Ax_bp24 dX0_lastRun_5 ?_
  refine Ax_cmpgen (tgt := 19) dX0_lastRun_7 (by decide) (by omega) (by omega) (fun c7 => ?_) (fun c7 => ?_)
  · omega
  · refine Ax_al0 dX0_lastRun_10 ?_
    refine Ax_getf kfX0 fX0_18 dX0_lastRun_11 s rfl ?_
    refine Ax_il1 dX0_lastRun_14 ?_
    refine Ax_ialdn dX0_lastRun_15 s3 (by omega) (by omega) ?_
    refine Ax_goto (tgt := 20) dX0_lastRun_16 (by decide) ?_
    exact Ax_iret dX0_lastRun_20 rfl rfl ⟨rfl, rfl⟩
theorem tX0_weight (hS : vCl h o ro kn fi la we fw en dn sz hd) {k : Nat} (hk : k < 24) : AM G mX0_weight 0 0 [.ref o, .int (nI k)] h (fun r h' => r = some (.int (we k)) ∧ h' = h) := by
  obtain ⟨s, s1, s2, s3, s4, s5, s6⟩ := id hS
  refine AM.of rfl rfl (Nat.le_of_ble_eq_true rfl) rfl ?_
  refine Ax_il1 dX0_weight_0 ?_
  refine Ax_ifltn (tgt := 19) dX0_weight_1 (by decide) (by omega) ?_
  refine Ax_il1 dX0_weight_4 ?_
  refine Ax_bp24 dX0_weight_5 ?_
  refine Ax_cmpgen (tgt := 19) dX0_weight_7 (by decide) (by omega) (by omega) (fun c7 => ?_) (fun c7 => ?_)
  · omega
  · refine Ax_al0 dX0_weight_10 ?_
    refine Ax_getf kfX0 fX0_21 dX0_weight_11 s rfl ?_
    refine Ax_il1 dX0_weight_14 ?_
    refine Ax_ialdn dX0_weight_15 s4 (by omega) (by omega) ?_
    refine Ax_goto (tgt := 20) dX0_weight_16 (by decide) ?_
    exact Ax_iret dX0_weight_20 rfl rfl ⟨rfl, rfl⟩
theorem tX0_has {m : Nat} (hS : vCl h o ro kn fi la we fw en dn sz (nI m)) (hm : m < 2 ^ 31) (i : Int32) : AM G mX0_has 0 0 [.ref o, .int i] h (fun r h' => r = some (.int (nI (gIn m i).toNat)) ∧ h' = h) := by
  obtain ⟨s, s1, s2, s3, s4, s5, s6⟩ := id hS
  refine AM.of rfl rfl (Nat.le_of_ble_eq_true rfl) rfl ?_
  refine Ax_il1 dX0_has_0 ?_
  refine Ax_iflt (tgt := 16) dX0_has_1 (by decide) (fun c1 => ?_) (fun c1 => ?_)
  · rw [gIn_f (Or.inl c1)]
    refine Ax_ic0 dX0_has_16 ?_
    exact Ax_iret dX0_has_17 rfl (by decide) ⟨rfl, rfl⟩
  refine Ax_il1 dX0_has_4 ?_
  refine Ax_al0 dX0_has_5 ?_
  refine Ax_getf kfX0 fX0_37 dX0_has_6 s rfl ?_
  refine Ax_cmpge (tgt := 16) dX0_has_9 (by decide) (fun c9 => ?_) (fun c9 => ?_)
  · rw [gIn_f (Or.inr c9)]
    refine Ax_ic0 dX0_has_16 ?_
    exact Ax_iret dX0_has_17 rfl (by decide) ⟨rfl, rfl⟩
  obtain ⟨k, hk, rfl⟩ := x_ix c1 c9 hm
  rw [gIn_n hk hm]
  refine Ax_ic1 dX0_has_12 ?_
  refine Ax_goto (tgt := 17) dX0_has_13 (by decide) ?_
  exact Ax_iret dX0_has_17 rfl (by decide) ⟨rfl, rfl⟩
theorem tX0_kindOf {dens size : Nat} (hS : vCl h o ro kn fi la we fw en (nI dens) (nI size) hd) (hV : vRuns h ro R) (hl : R.length ≤ 24) (hI : RInv R) (hdn : dens ≤ 100) (hsz : size ≤ 256) {i n : Nat} (hn : i + n < R.length) : AM G mX0_kindOf 2 0 [.ref o, .int (nI i), .int (nI (i + n))] h (fun r h' => r = some (.int (oI (kd R dens size i (i + n)))) ∧ h' = h) := by
  obtain ⟨s, s1, s2, s3, s4, s5, s6⟩ := id hS
  have r0 := hV.obj
  refine AM.of rfl rfl (Nat.le_of_ble_eq_true rfl) rfl ?_
  refine Ax_il1 dX0_kindOf_0 ?_
  refine Ax_il2 dX0_kindOf_1 ?_
  refine Ax_cmpnen (tgt := 7) dX0_kindOf_2 (by decide) (by omega) (by omega) (fun c2 => ?_) (fun c2 => ?_)
  rotate_left
  · have e : kd R dens size i (i + n) = some 0 := by unfold kd; rw [if_pos c2]
    rw [e]
    refine Ax_ic0 dX0_kindOf_5 ?_
    exact Ax_iret dX0_kindOf_6 rfl rfl ⟨rfl, rfl⟩
  have hsp : spn R i (i + n) ≤ 4294967296 := by
    have h1 := I_lo (rhi R (i + n)); have h2 := I_hi (rhi R (i + n)); have h3 := I_lo (rlo R i); have h4 := I_hi (rlo R i)
    unfold spn; omega
  have hmono := rlo_mono hI n i hn
  have h5 := (hI.1 (i + n) hn).1
  have e1 : (rhi R (i + n)).toInt64 - (rlo R i).toInt64 + lN 1 = lN (spn R i (i + n)) := by
    have h1 := I_lo (rhi R (i + n)); have h2 := I_hi (rhi R (i + n)); have h3 := I_lo (rlo R i); have h4 := I_hi (rlo R i)
    have e1 : ((rhi R (i + n)).toInt64 - (rlo R i).toInt64).toInt = (rhi R (i + n)).toInt - (rlo R i).toInt := by
      rw [L_sub (by rw [Int32.toInt_toInt64, Int32.toInt_toInt64]; omega) (by rw [Int32.toInt_toInt64, Int32.toInt_toInt64]; omega), Int32.toInt_toInt64, Int32.toInt_toInt64]
    refine L_of ?_ (by omega)
    rw [L_add (by rw [e1, L_1]; omega) (by rw [e1, L_1]; omega), e1, L_1]
    unfold spn
    omega
  have hwid : sm (wid R) i (n + 1) ≤ 4294967296 * (n + 1) := by
    have := sm_le (f := wid R) (g := fun _ => 4294967296) (i := i) (n + 1) (fun k h1 h2 => by
      have h1 := I_lo (rhi R k); have h2 := I_hi (rhi R k); have h3 := I_lo (rlo R k); have h4 := I_hi (rlo R k)
      unfold wid; omega)
    have e : ∀ m, sm (fun _ => 4294967296) i m = 4294967296 * m := by
      intro m
      induction m with
      | zero => rfl
      | succ m ih => rw [sm, ih]; omega
    rw [e] at this
    exact this
  have hden : dens * spn R i (i + n) ≤ 100 * 4294967296 := Nat.mul_le_mul hdn hsp
  have hsL := L_lN (n := spn R i (i + n)) (by omega)
  have h64 : (64 : Int64).toInt = 64 := by decide
  have hzL := L_lN (n := size) (by omega)
  have ji : i + n - i + 1 = n + 1 := by omega
  have hlate : ¬ (spn R i (i + n) ≤ 64 ∧ dcnt (rtg R) i (i + n - i + 1) ≤ 3) → Ax G mX0_kindOf 2 0 52 [.ref o, .int (nI i), .int (nI (i + n)), .long (lN (spn R i (i + n))), .null] [] h (fun r h' => r = some (.int (oI (kd R dens size i (i + n)))) ∧ h' = h) := by
    intro hno
    have e0 : kd R dens size i (i + n) = if spn R i (i + n) ≤ size ∧ dens * spn R i (i + n) ≤ 100 * sm (wid R) i (n + 1) then some 2 else none := by
      unfold kd
      rw [if_neg c2, if_neg hno, ji]
    rw [e0]
    refine Ax_ll3 dX0_kindOf_52 ?_
    refine Ax_al0 dX0_kindOf_53 ?_
    refine Ax_getf kfX0 fX0_34 dX0_kindOf_54 s rfl ?_
    refine Ax_i2ln dX0_kindOf_57 (by omega) ?_
    refine Ax_lcmp dX0_kindOf_58 ?_
    refine Ax_ifgtC (tgt := 88) dX0_kindOf_59 (by decide) (fun c59 => ?_) (fun c59 => ?_)
    · rw [if_neg (by omega)]
      refine Ax_icm1 dX0_kindOf_88 ?_
      exact Ax_iret dX0_kindOf_89 rfl rfl ⟨rfl, rfl⟩
    have a1 := L_lN (n := 100 * sm (wid R) i (n + 1)) (by omega)
    have a2 := L_lN (n := dens * spn R i (i + n)) (by omega)
    refine Ax_al0 dX0_kindOf_62 ?_
    refine Ax_getf kfX0 fX0_40 dX0_kindOf_63 s rfl ?_
    refine Ax_il1 dX0_kindOf_66 ?_
    refine Ax_il2 dX0_kindOf_67 ?_
    refine Ax_cVl dX0_kindOf_68 vX0_82 kfX2 r0 (tX2_intsIn hV hl hI hn) rfl rfl (by decide) (by simp [Value.category]) ?_
    refine Ax_ldc2 dX0_kindOf_71 cX0_86 ?_
    refine Ax_lmul dX0_kindOf_74 ?_
    refine Ax_topL (show lN (sm (wid R) i (n + 1)) * 100 = lN (100 * sm (wid R) i (n + 1)) by rw [show (100 : Int64) = lN 100 from rfl, lN_mul, Nat.mul_comm]) ?_
    refine Ax_al0 dX0_kindOf_75 ?_
    refine Ax_getf kfX0 fX0_30 dX0_kindOf_76 s rfl ?_
    refine Ax_i2ln dX0_kindOf_79 (by omega) ?_
    refine Ax_ll3 dX0_kindOf_80 ?_
    refine Ax_lmuln dX0_kindOf_81 ?_
    refine Ax_lcmp dX0_kindOf_82 ?_
    refine Ax_ifltC (tgt := 88) dX0_kindOf_83 (by decide) (fun c83 => ?_) (fun c83 => ?_)
    · rw [if_neg (by omega)]
      refine Ax_icm1 dX0_kindOf_88 ?_
      exact Ax_iret dX0_kindOf_89 rfl rfl ⟨rfl, rfl⟩
    · rw [if_pos ⟨by omega, by omega⟩]
      refine Ax_ic2 dX0_kindOf_86 ?_
      exact Ax_iret dX0_kindOf_87 rfl rfl ⟨rfl, rfl⟩
  refine Ax_al0 dX0_kindOf_7 ?_
  refine Ax_getf kfX0 fX0_40 dX0_kindOf_8 s rfl ?_
  refine Ax_il2 dX0_kindOf_11 ?_
  refine Ax_cVi dX0_kindOf_12 vX0_56 kfX2 r0 (tR_high hV hl (k := i + n) (by omega)) rfl rfl (by decide) (by simp [Value.category]) ?_
  refine Ax_i2l dX0_kindOf_15 ?_
  refine Ax_al0 dX0_kindOf_16 ?_
  refine Ax_getf kfX0 fX0_40 dX0_kindOf_17 s rfl ?_
  refine Ax_il1 dX0_kindOf_20 ?_
  refine Ax_cVi dX0_kindOf_21 vX0_51 kfX2 r0 (tR_low hV hl (k := i) (by omega)) rfl rfl (by decide) (by simp [Value.category]) ?_
  refine Ax_i2l dX0_kindOf_24 ?_
  refine Ax_lsub dX0_kindOf_25 ?_
  refine Ax_lc1 dX0_kindOf_26 ?_
  refine Ax_ladd dX0_kindOf_27 ?_
  refine Ax_topL e1 ?_
  refine Ax_ls3 dX0_kindOf_28 (Nat.le_of_ble_eq_true rfl) (by rfl) ?_
  refine Ax_ll3 dX0_kindOf_29 ?_
  refine Ax_ldc2 dX0_kindOf_30 cX0_77 ?_
  refine Ax_lcmp dX0_kindOf_33 ?_
  refine Ax_ifgtC (tgt := 52) dX0_kindOf_34 (by decide) (fun c34 => ?_) (fun c34 => ?_)
  · exact hlate (by omega)
  have hdc : dcnt (rtg R) i (n + 1) ≤ n + 1 := by
    have : ∀ m, dcnt (rtg R) i m ≤ m := by
      intro m
      induction m with
      | zero => exact Nat.le_refl _
      | succ m ih =>
        rw [dcnt]
        have : (metB (rtg R) i (i + m)).not.toNat ≤ 1 := by cases metB (rtg R) i (i + m) <;> decide
        omega
    exact this _
  refine Ax_al0 dX0_kindOf_37 ?_
  refine Ax_getf kfX0 fX0_40 dX0_kindOf_38 s rfl ?_
  refine Ax_il1 dX0_kindOf_41 ?_
  refine Ax_il2 dX0_kindOf_42 ?_
  refine Ax_cVi dX0_kindOf_43 vX0_79 kfX2 r0 (tX2_unlikeTargets hV hl hI hn) rfl rfl (by decide) (by simp [Value.category]) ?_
  refine Ax_ic3 dX0_kindOf_46 ?_
  refine Ax_cmpgtn (tgt := 52) dX0_kindOf_47 (by decide) (by omega) (by omega) (fun c47 => ?_) (fun c47 => ?_)
  · exact hlate (by rw [ji]; omega)
  · have e : kd R dens size i (i + n) = some 1 := by unfold kd; rw [if_neg c2, if_pos ⟨by omega, by rw [ji]; omega⟩]
    rw [e]
    refine Ax_ic1 dX0_kindOf_50 ?_
    exact Ax_iret dX0_kindOf_51 rfl rfl ⟨rfl, rfl⟩
end
