/-! the whole laying out -/
section
variable {G : xG} {R : List Run} {dens size rest way : Nat} {tg dn : Int32}
theorem cls_low {i m : Nat} (him : i < m) (hm : m < (clsOf R dens size).length) : cf (clsOf R dens size) i ≤ cf (clsOf R dens size) m ∧ cl (clsOf R dens size) (m - 1) + 1 = cf (clsOf R dens size) m := by
  have h1 := cls_mono (R := R) (dens := dens) (size := size) i (m - 1) (by omega) (by omega)
  have h2 := (ClOk.at _ _ (m - 1) (cls_ok R dens size) (by omega)).2.2.2.2.1 (by omega)
  rw [show m - 1 + 1 = m by omega] at h2
  omega
theorem tX1_layPart (hl : R.length ≤ 24) (hI : RInv R) (hsz : size ≤ 256) (hw : way < 2) : ∀ f i j le gr dp (L : List Ln) (h : xH), f + dp = 24 → i ≤ j → j < (clsOf R dens size).length → j - i + dp ≤ 23 → L.length + 7 * (j - i + 1) + 30 ≤ 400 → tsum L + 128 * (cl (clsOf R dens size) j + 1 - cf (clsOf R dens size) i) ≤ 3072 → vC h R dens size rest L tg dn → vRuns h 6 R → vCls h 11 6 R dens size → vTree h 18 11 R dens size way →
    AM G mX1_layPart (3 + f) 0 [.ref 21, .int (nI i), .int (nI j), .int le, .int gr, .int (nI dp)] h (fun r h' => r = none ∧ vC h' R dens size rest (L ++ lay R dens size way rest f i j le gr L.length) tg dn ∧ xFr 21 7 h h') := by
  have hlk : (clsOf R dens size).length ≤ 24 := Nat.le_trans (cls_len R dens size) hl
  intro f
  induction f with
  | zero => intro i j le gr dp L h h1 h2 h3 h4; omega
  | succ f ih =>
    intro i j le gr dp L h hfd hij hj hjd hLn hts hV hU hK hT
    have u := hV.ob
    have k0 := hK.ob
    have t0 := hT.ob
    refine AM.of rfl rfl (Nat.le_of_ble_eq_true rfl) rfl ?_
    rw [lay]
    refine Ax_il5 dX1_layPart_0 ?_
    refine Ax_bp24 dX1_layPart_2 ?_
    refine Ax_cmpltn (tgt := 8) dX1_layPart_4 (by decide) (by omega) (by omega) (fun c4 => ?_) (fun c4 => ?_)
    rotate_left
    · omega
    refine Ax_il1 dX1_layPart_8 ?_
    refine Ax_il2 dX1_layPart_9 ?_
    refine Ax_cmpltn (tgt := 22) dX1_layPart_10 (by decide) (by omega) (by omega) (fun c10 => ?_) (fun c10 => ?_)
    rotate_left
    · rw [if_pos c10]
      obtain rfl : i = j := by omega
      have hlt := leafAB_tsum (rest := rest) hj hsz (decide (le.toInt < (cbt R dens size i).toInt)) (decide ((ctp R dens size i).toInt < gr.toInt)) L.length
      have hcl := ClOk.at _ _ i (cls_ok R dens size) hj
      unfold cn at hlt
      refine Ax_al0 dX1_layPart_13 ?_
      refine Ax_il1 dX1_layPart_14 ?_
      refine Ax_il3 dX1_layPart_15 ?_
      refine Ax_il4 dX1_layPart_16 ?_
      refine Ax_cVv dX1_layPart_18 vX1_83 kfX1 u (tX1_layLeaf (G := G) (le := le) (gr := gr) hV hU hK hl hI hsz hj (by omega) (fun q => by have := hlt.2.1 q; omega)) rfl rfl (by omega) (by simp [Value.category]) (Nat.le_refl _) (fun h2 q2 => ?_)
      exact Ax_ret dX1_layPart_21 rfl ⟨rfl, q2⟩
    rw [if_neg (by omega)]
    obtain ⟨m1, m2⟩ := spF_in (R := R) (dens := dens) (size := size) (way := way) (i := i) (j := j) (by omega) (by omega)
    have hsp := tT_split (G := G) hT hw hlk (i := i) (j := j) (by omega) hj
    generalize spF R dens size way i j = m at m1 m2 hsp ⊢
    obtain ⟨d1, d2⟩ := cls_low (R := R) (dens := dens) (size := size) m1 (by omega)
    have d3 := cls_mono (R := R) (dens := dens) (size := size) i (m - 1) (by omega) (by omega)
    have d4 := cls_mono (R := R) (dens := dens) (size := size) m j m2 hj
    obtain ⟨a1, a2⟩ := lay_bounds (R := R) (dens := dens) (way := way) (rest := rest) hlk hsz f m j (cbt R dens size m) gr (L.length + 1) m2 hj
    refine Ax_al0 dX1_layPart_22 ?_
    refine Ax_getf kfX1 fX1_55 dX1_layPart_23 u rfl ?_
    refine Ax_il1 dX1_layPart_26 ?_
    refine Ax_il2 dX1_layPart_27 ?_
    refine Ax_cVi dX1_layPart_28 vX1_87 kfX4 t0 hsp rfl rfl (by omega) (by simp [Value.category]) ?_
    refine Ax_is6 dX1_layPart_31 (Nat.le_of_ble_eq_true rfl) (by rfl) ?_
    refine Ax_al0 dX1_layPart_33 ?_
    refine Ax_getf kfX1 fX1_51 dX1_layPart_34 u rfl ?_
    refine Ax_il6 dX1_layPart_37 ?_
    refine Ax_cVi dX1_layPart_39 vX1_93 kfX0 k0 (tC_bottom hK hU hl (c := m) (by omega)) rfl rfl (by omega) (by simp [Value.category]) ?_
    refine Ax_is7 dX1_layPart_42 (Nat.le_of_ble_eq_true rfl) (by rfl) ?_
    refine Ax_al0 dX1_layPart_44 ?_
    refine Ax_ic0 dX1_layPart_45 ?_
    refine Ax_il7 dX1_layPart_46 ?_
    refine Ax_ic0 dX1_layPart_48 ?_
    refine Ax_lc0 dX1_layPart_49 ?_
    refine Ax_cViH dX1_layPart_50 vX1_71 kfX1 u (tC1_write (G := G) hV (by omega) 0 (cbt R dens size m) (nI 0) 0 0 (by decide)) rfl rfl (by omega) (by simp [Value.category]) (Nat.le_refl _) (fun x50 h2 q2 => ?_)
    obtain ⟨e1, hV2, hF2⟩ := q2
    subst e1
    have u2 := hV2.ob
    have g1 : (L ++ [(0, cbt R dens size m, nI 0, 0, 0)]).length = L.length + 1 := by rw [List.length_append, List.length_singleton]
    have g2 : tsum (L ++ [(0, cbt R dens size m, nI 0, 0, 0)]) = tsum L := by rw [tsum_app]; rfl
    refine Ax_is8 dX1_layPart_53 (Nat.le_of_ble_eq_true rfl) (by rfl) ?_
    refine Ax_al0 dX1_layPart_55 ?_
    refine Ax_il6 dX1_layPart_56 ?_
    refine Ax_il2 dX1_layPart_58 ?_
    refine Ax_il7 dX1_layPart_59 ?_
    refine Ax_il4 dX1_layPart_61 ?_
    refine Ax_il5 dX1_layPart_63 ?_
    refine Ax_ic1 dX1_layPart_65 ?_
    refine Ax_iaddn dX1_layPart_66 ?_
    refine Ax_cVv dX1_layPart_67 vX1_79 kfX1 u2 (ih m j (cbt R dens size m) gr (dp + 1) _ _ (by omega) m2 hj (by omega) (by rw [g1]; omega) (by rw [g2]; omega) hV2 (hU.fr hF2 (by omega)) (hK.fr hF2 (by omega)) (hT.fr hF2 (by omega))) rfl rfl (by omega) (by simp [Value.category]) (Nat.le_refl _) (fun h3 q3 => ?_)
    obtain ⟨hV3, hF3⟩ := q3
    rw [g1, List.append_assoc, List.singleton_append] at hV3
    generalize hX : lay R dens size way rest f m j (cbt R dens size m) gr (L.length + 1) = X at a1 a2 hV3 ⊢
    have hF03 := hF2.tr hF3
    have u3 := hV3.ob
    have g3 : (L ++ (0, cbt R dens size m, nI 0, 0, 0) :: X).length = L.length + 1 + X.length := by rw [List.length_append, List.length_cons]; omega
    rw [g3] at u3
    refine Ax_al0 dX1_layPart_70 ?_
    refine Ax_il8 dX1_layPart_71 ?_
    refine Ax_al0 dX1_layPart_73 ?_
    refine Ax_getf kfX1 fX1_31 dX1_layPart_74 u3 rfl ?_
    refine Ax_cVv dX1_layPart_77 vX1_97 kfX1 u3 (tC1_aim (G := G) (l := (0, cbt R dens size m, nI 0, 0, 0)) hV3 (by rw [g3]; omega) (show (0 : Nat) ≠ 5 by decide) (nI (L.length + 1 + X.length))) rfl rfl (by omega) (by simp [Value.category]) (Nat.le_refl _) (fun h4 q4 => ?_)
    obtain ⟨hV4, hF4⟩ := q4
    have hF04 := hF03.tr hF4
    have u4 := hV4.ob
    have g4 : (L ++ (0, cbt R dens size m, nI (L.length + 1 + X.length), 0, 0) :: X).length = L.length + 1 + X.length := by rw [List.length_append, List.length_cons]; omega
    have g5 : tsum (L ++ (0, cbt R dens size m, nI (L.length + 1 + X.length), 0, 0) :: X) = tsum L + tsum X := by
      rw [tsum_app, tsum_cons]
      show tsum L + (0 + tsum X) = _
      omega
    refine Ax_al0 dX1_layPart_80 ?_
    refine Ax_il1 dX1_layPart_81 ?_
    refine Ax_il6 dX1_layPart_82 ?_
    refine Ax_ic1 dX1_layPart_84 ?_
    refine Ax_isubn dX1_layPart_85 (by omega) ?_
    refine Ax_il3 dX1_layPart_86 ?_
    refine Ax_il7 dX1_layPart_87 ?_
    refine Ax_ic1 dX1_layPart_89 ?_
    refine Ax_isub dX1_layPart_90 ?_
    refine Ax_top (show cbt R dens size m - nI 1 = cbt R dens size m - 1 from rfl) ?_
    refine Ax_il5 dX1_layPart_91 ?_
    refine Ax_ic1 dX1_layPart_93 ?_
    refine Ax_iaddn dX1_layPart_94 ?_
    refine Ax_cVv dX1_layPart_95 vX1_79 kfX1 u4 (ih i (m - 1) le (cbt R dens size m - 1) (dp + 1) _ _ (by omega) (by omega) (by omega) (by omega) (by rw [g4]; omega) (by rw [g5]; omega) hV4 (hU.fr hF04 (by omega)) (hK.fr hF04 (by omega)) (hT.fr hF04 (by omega))) rfl rfl (by omega) (by simp [Value.category]) (Nat.le_refl _) (fun h5 q5 => ?_)
    obtain ⟨hV5, hF5⟩ := q5
    rw [g4, List.append_assoc, List.cons_append] at hV5
    exact Ax_ret dX1_layPart_98 rfl ⟨rfl, hV5, hF04.tr hF5⟩
end
section
variable {G : xG} {h : xH} {R : List Run} {dens size way : Nat} {kn fi se st nu : Nat → Int32} {rw' : Nat → Int64} {len us rt tg dn : Int32}
theorem vC.nil {rest : Nat} (hS : vCd h kn fi se rw' st nu (nI 0) (nI 0) (nI rest) tg dn) : vC h R dens size rest [] tg dn := ⟨_, _, _, _, _, _, hS, fun k hk => absurd hk (Nat.not_lt_zero _)⟩
theorem tX1_layOut (hS : vCd h kn fi se rw' st nu len us rt tg dn) (hU : vRuns h 6 R) (hK : vCls h 11 6 R dens size) (hT : vTree h 18 11 R dens size way) (hl : R.length ≤ 24) (hI : RInv R) (hsz : size ≤ 256) (hw : way < 2) (rest : Nat) :
    AM G mX1_layOut 28 0 [.ref 21, .int (nI rest)] h (fun r h' => r = none ∧ vC h' R dens size rest (codeOf R dens size way rest) tg dn ∧ xFr 21 7 h h') := by
  obtain ⟨u, u3, u4, u5, u6, u7, u8⟩ := id hS
  have k0 := hK.ob
  have hlk : (clsOf R dens size).length ≤ 24 := Nat.le_trans (cls_len R dens size) hl
  refine AM.of rfl rfl (Nat.le_of_ble_eq_true rfl) rfl ?_
  have fr : ∀ q, (q < 21 ∨ 21 + 7 ≤ q) → h.1 q = h.1 q := fun _ _ => rfl
  have zr : h.2 = h.2 := rfl
  refine Ax_al0 dX1_layOut_0 ?_
  refine Ax_il1 dX1_layOut_1 ?_
  refine Ax_putf kfX1 fX1_38 dX1_layOut_2 u (Nat.le_of_ble_eq_true rfl) (Or.inl rfl) (by rfl) (by rfl) (Ax_up (fun h1 e1 f1 z1 => ?_))
  replace u := e1
  replace u3 := (f1 _ (by omega)).trans u3
  replace u4 := (f1 _ (by omega)).trans u4
  replace u5 := (f1 _ (by omega)).trans u5
  replace u6 := (f1 _ (by omega)).trans u6
  replace u7 := (f1 _ (by omega)).trans u7
  replace u8 := (f1 _ (by omega)).trans u8
  replace k0 := (f1 _ (by omega)).trans k0
  replace fr : ∀ q, (q < 21 ∨ 21 + 7 ≤ q) → h1.1 q = h.1 q := fun q hq => (f1 q (by omega)).trans (fr q hq)
  replace zr := z1.trans zr
  refine Ax_al0 dX1_layOut_5 ?_
  refine Ax_ic0 dX1_layOut_6 ?_
  refine Ax_putf kfX1 fX1_31 dX1_layOut_7 u (Nat.le_of_ble_eq_true rfl) (Or.inl rfl) (by rfl) (by rfl) (Ax_up (fun h2 e2 f2 z2 => ?_))
  replace u := e2
  replace u3 := (f2 _ (by omega)).trans u3
  replace u4 := (f2 _ (by omega)).trans u4
  replace u5 := (f2 _ (by omega)).trans u5
  replace u6 := (f2 _ (by omega)).trans u6
  replace u7 := (f2 _ (by omega)).trans u7
  replace u8 := (f2 _ (by omega)).trans u8
  replace k0 := (f2 _ (by omega)).trans k0
  replace fr : ∀ q, (q < 21 ∨ 21 + 7 ≤ q) → h2.1 q = h.1 q := fun q hq => (f2 q (by omega)).trans (fr q hq)
  replace zr := z2.trans zr
  refine Ax_al0 dX1_layOut_10 ?_
  refine Ax_ic0 dX1_layOut_11 ?_
  refine Ax_putf kfX1 fX1_35 dX1_layOut_12 u (Nat.le_of_ble_eq_true rfl) (Or.inl rfl) (by rfl) (by rfl) (Ax_up (fun h3 e3 f3 z3 => ?_))
  replace u := e3
  replace u3 := (f3 _ (by omega)).trans u3
  replace u4 := (f3 _ (by omega)).trans u4
  replace u5 := (f3 _ (by omega)).trans u5
  replace u6 := (f3 _ (by omega)).trans u6
  replace u7 := (f3 _ (by omega)).trans u7
  replace u8 := (f3 _ (by omega)).trans u8
  replace k0 := (f3 _ (by omega)).trans k0
  replace fr : ∀ q, (q < 21 ∨ 21 + 7 ≤ q) → h3.1 q = h.1 q := fun q hq => (f3 q (by omega)).trans (fr q hq)
  replace zr := z3.trans zr
  have hF3 : xFr 21 7 h h3 := ⟨fr, zr⟩
  have hK3 := hK.fr hF3 (by omega)
  have hV3 : vC h3 R dens size rest [] tg dn := vC.nil ⟨u, u3, u4, u5, u6, u7, u8⟩
  unfold codeOf
  refine Ax_al0 dX1_layOut_15 ?_
  refine Ax_getf kfX1 fX1_51 dX1_layOut_16 u rfl ?_
  refine Ax_cVi dX1_layOut_19 vX1_65 kfX0 k0 (tC_held hK3) rfl rfl (by omega) (by simp [Value.category]) ?_
  refine Ax_ifnen (tgt := 37) dX1_layOut_22 (by decide) (by omega) (fun c22 => ?_) (fun c22 => ?_)
  rotate_left
  · rw [if_pos c22]
    refine Ax_al0 dX1_layOut_25 ?_
    refine Ax_ic3 dX1_layOut_26 ?_
    refine Ax_il1 dX1_layOut_27 ?_
    refine Ax_ic0 dX1_layOut_28 ?_
    refine Ax_lc0 dX1_layOut_29 ?_
    refine Ax_cViH dX1_layOut_30 vX1_71 kfX1 u (tC1_write (G := G) hV3 (by decide) 3 (nI rest) (nI 0) 0 0 (by decide)) rfl rfl (by omega) (by simp [Value.category]) (Nat.le_refl _) (fun x30 h4 q4 => ?_)
    obtain ⟨-, hV4, hF4⟩ := q4
    refine Ax_pop dX1_layOut_33 rfl ?_
    refine Ax_goto (tgt := 56) dX1_layOut_34 (by decide) ?_
    exact Ax_ret dX1_layOut_56 rfl ⟨rfl, hV4, hF3.tr hF4⟩
  · rw [if_neg c22]
    have hcl := (ClOk.at _ _ ((clsOf R dens size).length - 1) (cls_ok R dens size) (by omega)).2.2.1
    refine Ax_al0 dX1_layOut_37 ?_
    refine Ax_ic0 dX1_layOut_38 ?_
    refine Ax_al0 dX1_layOut_39 ?_
    refine Ax_getf kfX1 fX1_51 dX1_layOut_40 u rfl ?_
    refine Ax_cVi dX1_layOut_43 vX1_65 kfX0 k0 (tC_held hK3) rfl rfl (by omega) (by simp [Value.category]) ?_
    refine Ax_ic1 dX1_layOut_46 ?_
    refine Ax_isubn dX1_layOut_47 (by omega) ?_
    refine Ax_ldc dX1_layOut_48 cX1_77 ?_
    refine Ax_ldc dX1_layOut_50 cX1_78 ?_
    refine Ax_ic0 dX1_layOut_52 ?_
    refine Ax_cVv dX1_layOut_53 vX1_79 kfX1 u (tX1_layPart (G := G) hl hI hsz hw 24 0 ((clsOf R dens size).length - 1) (-2147483648) 2147483647 0 [] h3 rfl (by omega) (by omega) (by omega) (by simp only [List.length_nil]; omega) (by rw [show tsum ([] : List Ln) = 0 from rfl]; omega) hV3 (hU.fr hF3 (by omega)) hK3 (hT.fr hF3 (by omega))) rfl rfl (by omega) (by simp [Value.category]) (Nat.le_refl _) (fun h4 q4 => ?_)
    obtain ⟨hV4, hF4⟩ := q4
    rw [List.nil_append, List.length_nil] at hV4
    exact Ax_ret dX1_layOut_56 rfl ⟨rfl, hV4, hF3.tr hF4⟩
end
