/-! bits laid down -/
theorem dcnt_le {T : Nat → Nat} {i : Nat} : ∀ n, dcnt T i n ≤ n
  | 0 => Nat.le_refl _
  | n + 1 => by
    rw [dcnt]
    have h1 := dcnt_le (T := T) (i := i) n
    have h2 : (metB T i (i + n)).not.toNat ≤ 1 := Bool.toNat_le _
    omega
theorem seen_met {T : Nat → Nat} {i n : Nat} : seenN T i n &&& 2 ^ T (i + n) = 0 ↔ metB T i (i + n) = false := by
  have h1 := seen_bit (T := T) (i := i) n (T (i + n))
  have h2 := met_iff (T := T) (i := i) (k := i + n) (Nat.le_add_right _ _)
  have h3 : (seenN T i n).testBit (T (i + n)) = metB T i (i + n) := by
    rw [Bool.eq_iff_iff, h1, h2]
  rw [← h3]
  constructor
  · intro h
    have := congrArg (fun x => x.testBit (T (i + n))) h
    simp only [Nat.testBit_and, Nat.testBit_two_pow_self, Bool.and_true, Nat.zero_testBit] at this
    exact this
  · intro h
    apply Nat.eq_of_testBit_eq
    intro j
    rw [Nat.testBit_and, Nat.testBit_two_pow, Nat.zero_testBit]
    by_cases q : T (i + n) = j
    · rw [← q, h]; rfl
    · simp [q]
section
variable {G : xG} {h : xH} {R : List Run} {dens size rest : Nat} {L : List Ln} {tg dn : Int32}
theorem tX1_layBits (hV : vC h R dens size rest L tg dn) (hU : vRuns h 6 R) (hK : vCls h 11 6 R dens size) (hl : R.length ≤ 24) (hI : RInv R) {c : Nat} (hc : c < (clsOf R dens size).length) (h2 : ckd R dens size c = 1) (hn : L.length + 24 ≤ 400) :
    AM G mX1_layBits 2 0 [.ref 21, .int (nI c), .int (cbt R dens size c)] h (fun r h' => r = none ∧ vC h' R dens size rest (L ++ bitLs R (cbt R dens size c) c (cf (clsOf R dens size) c) (cn R dens size c) (cn R dens size c)) tg dn ∧ xFr 21 7 h h') := by
  have u := hV.ob
  have k0 := hK.ob
  have hlk : (clsOf R dens size).length ≤ 24 := Nat.le_trans (cls_len R dens size) hl
  obtain ⟨-, p2, p3, -⟩ := ClOk.at _ _ c (cls_ok R dens size) hc
  have hk2 := ckd_is hc
  rw [h2] at hk2
  obtain ⟨-, hw, -⟩ := kd_one hk2
  obtain ⟨f, hf⟩ : ∃ f, f = cf (clsOf R dens size) c := ⟨_, rfl⟩
  obtain ⟨n, hcl⟩ : ∃ n, cl (clsOf R dens size) c = f + n := ⟨cl (clsOf R dens size) c - f, by omega⟩
  have hcn : cn R dens size c = n + 1 := by unfold cn; omega
  have eb : cbt R dens size c = rlo R f := by unfold cbt; rw [hf]
  have hfn : f + n < R.length := by omega
  have m1 := rlo_mono hI n f hfn
  have m2 := (hI.1 (f + n) hfn).1
  have hw64 : (rhi R (f + n)).toInt - (rlo R f).toInt < 64 := by
    rw [hcl, ← hf] at hw
    unfold spn at hw
    omega
  have tf : AM G mX0_firstRun 0 0 [.ref 11, .int (nI c)] h (fun r h' => r = some (.int (nI f)) ∧ h' = h) := by
    have := tC_firstRun (G := G) hK hlk hc
    rwa [← hf] at this
  have tl : AM G mX0_lastRun 0 0 [.ref 11, .int (nI c)] h (fun r h' => r = some (.int (nI (f + n))) ∧ h' = h) := by
    have := tC_lastRun (G := G) hK hlk hc
    rwa [hcl] at this
  rw [eb, hcn, ← hf]
  refine AM.of rfl rfl (Nat.le_of_ble_eq_true rfl) rfl ?_
  refine Ax_al0 dX1_layBits_0 ?_
  refine Ax_getf kfX1 fX1_51 dX1_layBits_1 u rfl ?_
  refine Ax_il1 dX1_layBits_4 ?_
  refine Ax_cVi dX1_layBits_5 vX1_107 kfX0 k0 tf rfl rfl (by decide) (by simp [Value.category]) ?_
  refine Ax_is3 dX1_layBits_8 (Nat.le_of_ble_eq_true rfl) (by rfl) ?_
  refine Ax_al0 dX1_layBits_9 ?_
  refine Ax_getf kfX1 fX1_51 dX1_layBits_10 u rfl ?_
  refine Ax_il1 dX1_layBits_13 ?_
  refine Ax_cVi dX1_layBits_14 vX1_120 kfX0 k0 tl rfl rfl (by decide) (by simp [Value.category]) ?_
  refine Ax_is4 dX1_layBits_17 (Nat.le_of_ble_eq_true rfl) (by rfl) ?_
  refine Ax_ic0 dX1_layBits_19 ?_
  refine Ax_is5 dX1_layBits_20 (Nat.le_of_ble_eq_true rfl) (by rfl) ?_
  refine Ax_il3 dX1_layBits_22 ?_
  refine Ax_is6 dX1_layBits_23 (Nat.le_of_ble_eq_true rfl) (by rfl) ?_
  suffices hloop : ∀ m k h1 x7, k + m = n + 1 → vC h1 R dens size rest (L ++ bitLs R (rlo R f) c f (n + 1) k) tg dn → xFr 21 7 h h1 →
      Ax G mX1_layBits 2 0 25 [.ref 21, .int (nI c), .int (rlo R f), .int (nI f), .int (nI (f + n)), .int (nI (seenN (rtg R) f k)), .int (nI (f + k)), x7] [] h1 (fun r h' => r = none ∧ vC h' R dens size rest (L ++ bitLs R (rlo R f) c f (n + 1) (n + 1)) tg dn ∧ xFr 21 7 h h') from
    hloop (n + 1) 0 h _ (by omega) (by rw [bitLs, List.append_nil]; exact hV) xFr.rf
  intro m
  induction m with
  | zero =>
    intro k h1 x7 hk hV1 hF1
    obtain rfl : k = n + 1 := by omega
    refine Ax_il6 dX1_layBits_25 ?_
    refine Ax_il4 dX1_layBits_27 ?_
    refine Ax_cmpgtn (tgt := 96) dX1_layBits_29 (by decide) (by omega) (by omega) (fun c29 => ?_) (fun c29 => ?_)
    · exact Ax_ret dX1_layBits_96 rfl ⟨rfl, hV1, hF1⟩
    · omega
  | succ m ih =>
    intro k h1 x7 hk hV1 hF1
    have u := hV1.ob
    have hU1 := hU.fr hF1 (by omega)
    have r1 := hU1.obj
    have hfk : f + k < R.length := by omega
    have ht := (hI.1 (f + k) hfk).2
    have hT : ∀ q, f ≤ q → q < f + k → rtg R q < 16 := fun q q1 q2 => (hI.1 q (by omega)).2
    have hseen := seen_lt k hT
    have esh : nI 1 <<< (nI (rtg R (f + k)) &&& 31) = nI (2 ^ rtg R (f + k)) := by
      rw [pk_shlN (n := 1) (nI (rtg R (f + k)) &&& 31) (rtg R (f + k)) (by
        have : ∀ j, j < 16 → ((nI j &&& 31).toBitVec.smod 32).toNat = j := by decide
        exact this _ ht) (by rw [Nat.one_mul]; exact Nat.lt_of_lt_of_le (Nat.pow_lt_pow_right (by decide) ht) (by decide)), Nat.one_mul]
    have hand : seenN (rtg R) f k &&& 2 ^ rtg R (f + k) < 65536 := Nat.lt_of_le_of_lt Nat.and_le_left hseen
    have hdc := dcnt_le (T := rtg R) (i := f) k
    have hln : (L ++ bitLs R (rlo R f) c f (n + 1) k).length < 400 := by rw [List.length_append, bitLs_len]; omega
    refine Ax_il6 dX1_layBits_25 ?_
    refine Ax_il4 dX1_layBits_27 ?_
    refine Ax_cmpgtn (tgt := 96) dX1_layBits_29 (by decide) (by omega) (by omega) (fun c29 => ?_) (fun c29 => ?_)
    · omega
    refine Ax_il6 dX1_layBits_32 ?_
    refine Ax_bp24 dX1_layBits_34 ?_
    refine Ax_cmpgen (tgt := 96) dX1_layBits_36 (by decide) (by omega) (by omega) (fun c36 => ?_) (fun c36 => ?_)
    · omega
    refine Ax_al0 dX1_layBits_39 ?_
    refine Ax_getf kfX1 fX1_47 dX1_layBits_40 u rfl ?_
    refine Ax_il6 dX1_layBits_43 ?_
    refine Ax_cVi dX1_layBits_45 vX1_110 kfX2 r1 (tR_target hU1 hl (k := f + k) hfk) rfl rfl (by decide) (by simp [Value.category]) ?_
    refine Ax_is7 dX1_layBits_48 (Nat.le_of_ble_eq_true rfl) (by rfl) ?_
    refine Ax_il5 dX1_layBits_50 ?_
    refine Ax_ic1 dX1_layBits_52 ?_
    refine Ax_il7 dX1_layBits_53 ?_
    refine Ax_ishl dX1_layBits_55 ?_
    refine Ax_iand dX1_layBits_56 ?_
    refine Ax_top (show nI (seenN (rtg R) f k) &&& (nI 1 <<< (nI (rtg R (f + k)) &&& 31)) = nI (seenN (rtg R) f k &&& 2 ^ rtg R (f + k)) by rw [esh, fa_and]) ?_
    refine Ax_ifnen (tgt := 90) dX1_layBits_57 (by decide) (by omega) (fun c57 => ?_) (fun c57 => ?_)
    · have hm : metB (rtg R) f (f + k) = true := by
        rw [← Bool.not_eq_false]
        exact fun q => c57 (seen_met.mpr q)
      have es : seenN (rtg R) f (k + 1) = seenN (rtg R) f k := by
        rw [seenN]
        apply Nat.eq_of_testBit_eq
        intro i
        rw [Nat.testBit_or, Nat.testBit_two_pow]
        by_cases q : rtg R (f + k) = i
        · subst q
          have : (seenN (rtg R) f k).testBit (rtg R (f + k)) = true := (seen_bit k _).mpr ((met_iff (Nat.le_add_right _ _)).mp hm)
          rw [this]
          rfl
        · simp [q]
      refine Ax_inc6_1n dX1_layBits_90 (Nat.le_of_ble_eq_true rfl) (by rfl) ?_
      refine Ax_goto (tgt := 25) dX1_layBits_93 (by decide) ?_
      refine Ax_L (L' := [.ref 21, .int (nI c), .int (rlo R f), .int (nI f), .int (nI (f + n)), .int (nI (seenN (rtg R) f (k + 1))), .int (nI (f + (k + 1))), .int (nI (rtg R (f + k)))]) (by rw [es]; simp [x_sub]; rfl) ?_
      exact ih (k + 1) h1 _ (by omega) (by rw [bitLs, hm, if_pos rfl, List.append_nil]; exact hV1) hF1
    · have hm : metB (rtg R) f (f + k) = false := seen_met.mp c57
      refine Ax_il5 dX1_layBits_60 ?_
      refine Ax_ic1 dX1_layBits_62 ?_
      refine Ax_il7 dX1_layBits_63 ?_
      refine Ax_ishl dX1_layBits_65 ?_
      refine Ax_ior dX1_layBits_66 ?_
      refine Ax_top (show nI (seenN (rtg R) f k) ||| (nI 1 <<< (nI (rtg R (f + k)) &&& 31)) = nI (seenN (rtg R) f (k + 1)) by rw [esh, fa_or]; rfl) ?_
      refine Ax_is5 dX1_layBits_67 (Nat.le_of_ble_eq_true rfl) (by rfl) ?_
      refine Ax_al0 dX1_layBits_69 ?_
      refine Ax_ic4 dX1_layBits_70 ?_
      refine Ax_il2 dX1_layBits_71 ?_
      refine Ax_il7 dX1_layBits_72 ?_
      refine Ax_al0 dX1_layBits_74 ?_
      refine Ax_getf kfX1 fX1_47 dX1_layBits_75 u rfl ?_
      refine Ax_il3 dX1_layBits_78 ?_
      refine Ax_il4 dX1_layBits_79 ?_
      refine Ax_il7 dX1_layBits_81 ?_
      refine Ax_cVlE dX1_layBits_83 vX1_123 kfX2 r1 (tX2_rowOfBits hU1 hl hI hfn ht hw64) rfl rfl (by decide) (by simp [Value.category]) (fun x83 p83 => ?_)
      obtain ⟨z, rfl, hz⟩ := p83
      obtain rfl := hz.eq (rowN_is R f (n + 1) (rtg R (f + k)))
      refine Ax_cViH dX1_layBits_86 vX1_71 kfX1 u (tC1_write (G := G) hV1 hln 4 (rlo R f) (nI (rtg R (f + k))) (rowN R f (n + 1) (rtg R (f + k))) c (by decide)) rfl rfl (by decide) (by simp [Value.category]) (Nat.le_refl _) (fun x86 h2 q2 => ?_)
      obtain ⟨-, hV2, hF2⟩ := q2
      refine Ax_pop dX1_layBits_89 rfl ?_
      refine Ax_inc6_1n dX1_layBits_90 (Nat.le_of_ble_eq_true rfl) (by rfl) ?_
      refine Ax_goto (tgt := 25) dX1_layBits_93 (by decide) ?_
      refine ih (k + 1) h2 _ (by omega) ?_ (hF1.tr hF2)
      rw [bitLs, hm, if_neg (by decide), ← List.append_assoc]
      exact hV2
end
