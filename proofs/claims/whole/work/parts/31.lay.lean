/-! the laying down of tables, bits, leaves, parts -/
theorem L_wid {a b : Int32} (h : b.toInt ≤ a.toInt) : a.toInt64 - b.toInt64 + lN 1 = lN (a.toInt - b.toInt + 1).toNat := by
  have h1 := I_lo a; have h2 := I_hi a; have h3 := I_lo b; have h4 := I_hi b
  have e1 : (a.toInt64 - b.toInt64).toInt = a.toInt - b.toInt := by
    rw [L_sub (by rw [Int32.toInt_toInt64, Int32.toInt_toInt64]; omega) (by rw [Int32.toInt_toInt64, Int32.toInt_toInt64]; omega), Int32.toInt_toInt64, Int32.toInt_toInt64]
  refine L_of ?_ (by omega)
  rw [L_add (by rw [e1, L_1]; omega) (by rw [e1, L_1]; omega), e1, L_1]
  omega
theorem I_dif {a b : Int32} (h : b.toInt ≤ a.toInt) (h2 : a.toInt - b.toInt < 2147483648) : a - b = nI (a.toInt - b.toInt).toNat :=
  I_of (by rw [I_sub (by omega) (by omega)]; omega) (by omega)
theorem LR.nu {R : List Run} {dens size rest : Nat} {L : List Ln} {kn fi se : Nat → Int32} {rw' : Nat → Int64} {st nu st' nu' : Nat → Int32} (h : LR R dens size rest L kn fi se rw' st nu) (h1 : ∀ k, k < L.length → st' k = st k) (h2 : ∀ p, p < tsum L → nu' p = nu p) : LR R dens size rest L kn fi se rw' st' nu' := by
  intro k hk
  obtain ⟨g1, g2, g3, g4, g5⟩ := h k hk
  refine ⟨g1, g2, g3, g4, fun q => ?_⟩
  obtain ⟨a1, a2⟩ := g5 q
  refine ⟨(h1 k hk).trans a1, fun p hp => ?_⟩
  rw [h2 _ (by
    have t1 : tsum L = tsum (L.take k) + tsum (L.drop k) := by rw [← tsum_app, List.take_append_drop]
    have t2 : L.drop k = gL L k :: L.drop (k + 1) := by
      unfold gL
      rw [List.getD_eq_getElem?_getD, List.getElem?_eq_getElem (by omega : k < L.length)]
      exact List.drop_eq_getElem_cons (by omega)
    rw [t2, tsum_cons] at t1
    omega)]
  exact a2 p hp
section
variable {G : xG} {h : xH} {R : List Run} {dens size rest : Nat} {L : List Ln} {tg dn : Int32}
theorem tX1_layTable (hV : vC h R dens size rest L tg dn) (hU : vRuns h 6 R) (hK : vCls h 11 6 R dens size) (hl : R.length ≤ 24) (hI : RInv R) (hsz : size ≤ 256) {c : Nat} (hc : c < (clsOf R dens size).length) (h2 : ckd R dens size c = 2) (hn : L.length < 400) (hu : tsum L + csp R dens size c ≤ 3072) :
    AM G mX1_layTable 2 0 [.ref 21, .int (nI c), .int (cbt R dens size c), .int (ctp R dens size c)] h (fun r h' => r = none ∧ vC h' R dens size rest (L ++ [(5, cbt R dens size c, nI (csp R dens size c), 0, c)]) tg dn ∧ xFr 21 7 h h') := by
  obtain ⟨kn, fi, se, rw', st, nu, hS, hL⟩ := hV
  obtain ⟨u, u3, u4, u5, u6, u7, u8⟩ := id hS
  have k0 := hK.ob
  have hlk : (clsOf R dens size).length ≤ 24 := Nat.le_trans (cls_len R dens size) hl
  obtain ⟨-, p2, p3, -⟩ := ClOk.at _ _ c (cls_ok R dens size) hc
  have hk2 := ckd_is hc
  rw [h2] at hk2
  obtain ⟨-, hw⟩ := kd_two hk2
  obtain ⟨f, hf⟩ : ∃ f, f = cf (clsOf R dens size) c := ⟨_, rfl⟩
  obtain ⟨n, hcl⟩ : ∃ n, cl (clsOf R dens size) c = f + n := ⟨cl (clsOf R dens size) c - f, by omega⟩
  have hcn : cn R dens size c = n + 1 := by unfold cn; omega
  have eb : cbt R dens size c = rlo R f := by unfold cbt; rw [hf]
  have et : ctp R dens size c = rhi R (f + n) := by unfold ctp; rw [hcl]
  obtain ⟨w, hcw⟩ : ∃ w, w = csp R dens size c := ⟨_, rfl⟩
  have hfn : f + n < R.length := by omega
  have m1 := rlo_mono hI n f hfn
  have m2 := (hI.1 (f + n) hfn).1
  have ew : ((rhi R (f + n)).toInt - (rlo R f).toInt + 1).toNat = w := by rw [hcw]; unfold csp spn; rw [hcl, hf]
  have hw1 : 1 ≤ w := by omega
  have hw2 : w ≤ 256 := by rw [hcw]; unfold csp; omega
  have hu' : tsum L + w ≤ 3072 := by omega
  rw [← hcw, eb, et]
  have tf : ∀ h, vCls h 11 6 R dens size → AM G mX0_firstRun 0 0 [.ref 11, .int (nI c)] h (fun r h' => r = some (.int (nI f)) ∧ h' = h) := fun h hK => by
    have := tC_firstRun (G := G) hK hlk hc
    rwa [← hf] at this
  have tl : ∀ h, vCls h 11 6 R dens size → AM G mX0_lastRun 0 0 [.ref 11, .int (nI c)] h (fun r h' => r = some (.int (nI (f + n))) ∧ h' = h) := fun h hK => by
    have := tC_lastRun (G := G) hK hlk hc
    rwa [hcl] at this
  refine AM.of rfl rfl (Nat.le_of_ble_eq_true rfl) rfl ?_
  refine Ax_al0 dX1_layTable_0 ?_
  refine Ax_getf kfX1 fX1_35 dX1_layTable_1 u rfl ?_
  refine Ax_is4 dX1_layTable_4 (Nat.le_of_ble_eq_true rfl) (by rfl) ?_
  refine Ax_il3 dX1_layTable_6 ?_
  refine Ax_i2l dX1_layTable_7 ?_
  refine Ax_il2 dX1_layTable_8 ?_
  refine Ax_i2l dX1_layTable_9 ?_
  refine Ax_lsub dX1_layTable_10 ?_
  refine Ax_lc1 dX1_layTable_11 ?_
  refine Ax_ladd dX1_layTable_12 ?_
  refine Ax_topL ((L_wid (Int.le_trans m1 m2)).trans (by rw [ew])) ?_
  refine Ax_sp3072 dX1_layTable_13 ?_
  refine Ax_il4 dX1_layTable_16 ?_
  refine Ax_isubn dX1_layTable_18 (by omega) ?_
  refine Ax_i2ln dX1_layTable_19 (by omega) ?_
  refine Ax_mminL dX1_layTable_20 sX1_127 (by decide) (by simp [Value.category]) ?_
  refine Ax_topL (show (if lN (3072 - tsum L) < lN w then lN (3072 - tsum L) else lN w) = lN w by rw [if_neg (by rw [Int64.lt_iff_toInt_lt, L_lN (by omega), L_lN (by omega)]; omega)]) ?_
  refine Ax_l2in dX1_layTable_23 ?_
  refine Ax_is5 dX1_layTable_24 (Nat.le_of_ble_eq_true rfl) (by rfl) ?_
  refine Ax_al0 dX1_layTable_26 ?_
  refine Ax_ic5 dX1_layTable_27 ?_
  refine Ax_il2 dX1_layTable_28 ?_
  refine Ax_il5 dX1_layTable_29 ?_
  refine Ax_lc0 dX1_layTable_31 ?_
  refine Ax_cViH dX1_layTable_32 vX1_71 kfX1 u (tX1_write (G := G) hS hn (nI 5) (rlo R f) (nI w) (lN 0)) rfl rfl (by decide) (by simp [Value.category]) (Nat.le_refl _) (fun x32 h1 q1 => ?_)
  obtain ⟨e1, e2, hF0⟩ := q1
  subst e1
  have hK1 := hK.fr hF0 (by omega)
  have k1 := hK1.ob
  clear k0 u u3 u4 u5 u6 u7 u8
  obtain ⟨u, u3, u4, u5, u6, u7, u8⟩ := id e2
  refine Ax_is6 dX1_layTable_35 (Nat.le_of_ble_eq_true rfl) (by rfl) ?_
  refine Ax_al0 dX1_layTable_37 ?_
  refine Ax_il6 dX1_layTable_38 ?_
  refine Ax_cVi dX1_layTable_40 vX1_59 kfX1 u (tX1_has (n := L.length + 1) e2 (by omega) _) rfl rfl (by decide) (by simp [Value.category]) ?_
  refine Ax_ifeqB (tgt := 55) dX1_layTable_43 (by decide) (fun c43 => ?_) (fun c43 => ?_)
  · rw [gIn_n (by omega) (by omega)] at c43; cases c43
  have fr : ∀ q, (q < 21 ∨ 21 + 7 ≤ q) → h1.1 q = h1.1 q := fun _ _ => rfl
  have zr : h1.2 = h1.2 := rfl
  refine Ax_al0 dX1_layTable_46 ?_
  refine Ax_getf kfX1 fX1_25 dX1_layTable_47 u rfl ?_
  refine Ax_il6 dX1_layTable_50 ?_
  refine Ax_il4 dX1_layTable_52 ?_
  refine Ax_iastn dX1_layTable_54 u7 (by omega) (by omega) (Ax_up (fun h2 e2 f2 z2 => ?_))
  replace u := (f2 _ (by omega)).trans u
  replace u3 := (f2 _ (by omega)).trans u3
  replace u4 := (f2 _ (by omega)).trans u4
  replace u5 := (f2 _ (by omega)).trans u5
  replace u6 := (f2 _ (by omega)).trans u6
  replace u7 := e2
  replace u8 := (f2 _ (by omega)).trans u8
  replace k1 := (f2 _ (by omega)).trans k1
  replace fr : ∀ q, (q < 21 ∨ 21 + 7 ≤ q) → h2.1 q = h1.1 q := fun q hq => (f2 q (by omega)).trans (fr q hq)
  replace zr := z2.trans zr
  refine Ax_al0 dX1_layTable_55 ?_
  refine Ax_dup dX1_layTable_56 rfl ?_
  refine Ax_getf kfX1 fX1_35 dX1_layTable_57 u rfl ?_
  refine Ax_il5 dX1_layTable_60 ?_
  refine Ax_iaddn dX1_layTable_62 ?_
  refine Ax_putf kfX1 fX1_35 dX1_layTable_63 u (Nat.le_of_ble_eq_true rfl) (Or.inl rfl) (by rfl) (by rfl) (Ax_up (fun h3 e3 f3 z3 => ?_))
  replace u := e3
  replace u3 := (f3 _ (by omega)).trans u3
  replace u4 := (f3 _ (by omega)).trans u4
  replace u5 := (f3 _ (by omega)).trans u5
  replace u6 := (f3 _ (by omega)).trans u6
  replace u7 := (f3 _ (by omega)).trans u7
  replace u8 := (f3 _ (by omega)).trans u8
  replace k1 := (f3 _ (by omega)).trans k1
  replace fr : ∀ q, (q < 21 ∨ 21 + 7 ≤ q) → h3.1 q = h1.1 q := fun q hq => (f3 q (by omega)).trans (fr q hq)
  replace zr := z3.trans zr
  refine Ax_al0 dX1_layTable_66 ?_
  refine Ax_il4 dX1_layTable_67 ?_
  refine Ax_al0 dX1_layTable_69 ?_
  refine Ax_getf kfX1 fX1_35 dX1_layTable_70 u rfl ?_
  refine Ax_ic1 dX1_layTable_73 ?_
  refine Ax_isubn dX1_layTable_74 (by omega) ?_
  refine Ax_al0 dX1_layTable_75 ?_
  refine Ax_getf kfX1 fX1_38 dX1_layTable_76 u rfl ?_
  refine Ax_cVv dX1_layTable_79 vX1_133 kfX1 u (tX1_fill (G := G) (h := h3) (n := L.length + 1) ⟨u, u3, u4, u5, u6, u7, u8⟩ (a := tsum L) (e := tsum L + w - 1) (by omega) (by omega) (nI rest)) rfl rfl (by decide) (by simp [Value.category]) (Nat.le_refl _) (fun h4 q4 => ?_)
  obtain ⟨⟨nu4, hS4, hn1, hn2⟩, hF4⟩ := q4
  have hF40 : xFr 21 7 h h4 := (hF0.tr ⟨fr, zr⟩).tr hF4
  have hK4 := hK.fr hF40 (by omega)
  have k4 := hK4.ob
  obtain ⟨v, -⟩ := id hS4
  refine Ax_al0 dX1_layTable_82 ?_
  refine Ax_getf kfX1 fX1_51 dX1_layTable_83 v rfl ?_
  refine Ax_il1 dX1_layTable_86 ?_
  refine Ax_cVi dX1_layTable_87 vX1_107 kfX0 k4 (tf h4 hK4) rfl rfl (by decide) (by simp [Value.category]) ?_
  refine Ax_is7 dX1_layTable_90 (Nat.le_of_ble_eq_true rfl) (by rfl) ?_
  have hst : LR R dens size rest L kn fi se rw' (upd st L.length (nI (tsum L))) nu4 := hL.nu (fun k hk => pk_un (by omega)) (fun p hp => hn2 p (Or.inl hp))
  suffices hloop : ∀ m k h1 nu1, k + m = n + 1 → vCd h1 (upd kn L.length (nI 5)) (upd fi L.length (rlo R f)) (upd se L.length (nI w)) (vp_updL rw' L.length (lN 0)) (upd st L.length (nI (tsum L))) nu1 (nI (L.length + 1)) (nI (tsum L + w)) (nI rest) tg dn → (∀ q, q < tsum L → nu1 q = nu q) → (∀ q, q < w → nu1 (tsum L + q) = nI (tvI R rest f k ((rlo R f).toInt + q))) → xFr 21 7 h h1 →
      Ax G mX1_layTable 2 0 92 [.ref 21, .int (nI c), .int (rlo R f), .int (rhi R (f + n)), .int (nI (tsum L)), .int (nI w), .int (nI L.length), .int (nI (f + k))] [] h1 (fun r h' => r = none ∧ vC h' R dens size rest (L ++ [(5, rlo R f, nI w, 0, c)]) tg dn ∧ xFr 21 7 h h') from
    hloop (n + 1) 0 h4 nu4 (by omega) hS4 (fun q hq => hn2 q (Or.inl hq)) (fun q hq => by
      rw [hn1 _ (by omega) (by omega), tv_none (fun k k1 k2 => by omega)]) hF40
  intro m
  induction m with
  | zero =>
    intro k h1 nu1 hk hS1 hb1 hb2 hF1
    obtain rfl : k = n + 1 := by omega
    have hK1 := hK.fr hF1 (by omega)
    have k1 := hK1.ob
    obtain ⟨v, -⟩ := id hS1
    refine Ax_il7 dX1_layTable_92 ?_
    refine Ax_al0 dX1_layTable_94 ?_
    refine Ax_getf kfX1 fX1_51 dX1_layTable_95 v rfl ?_
    refine Ax_il1 dX1_layTable_98 ?_
    refine Ax_cVi dX1_layTable_99 vX1_120 kfX0 k1 (tl h1 hK1) rfl rfl (by decide) (by simp [Value.category]) ?_
    refine Ax_cmpgtn (tgt := 159) dX1_layTable_102 (by decide) (by omega) (by omega) (fun c102 => ?_) (fun c102 => ?_)
    · have hfin : vC h1 R dens size rest (L ++ [(5, rlo R f, nI w, 0, c)]) tg dn := by
        refine ⟨_, _, _, _, _, _, ?_, (hL.nu (fun k hk => rfl) hb1).app (5, rlo R f, nI w, 0, c) (st' := upd st L.length (nI (tsum L))) (fun k hk => pk_un (by omega)) (fun _ _ => rfl) (fun _ => ⟨pk_us, fun q hq => ?_⟩)⟩
        · rw [List.length_append, List.length_singleton, tsum_app, tsum_cons, show tsum ([] : List Ln) = 0 from rfl, show tsz (5, rlo R f, nI w, 0, c) = w by unfold tsz; rw [if_pos rfl, nI_toInt (by omega)]; exact Int.toNat_natCast w]
          exact hS1
        · have hw3 : tsz (5, rlo R f, nI w, 0, c) = w := by unfold tsz; rw [if_pos rfl, nI_toInt (by omega)]; exact Int.toNat_natCast w
          rw [hw3] at hq
          rw [hb2 q hq, hcn, ← hf]
      exact Ax_ret dX1_layTable_159 rfl ⟨rfl, hfin, hF1⟩
    · omega
  | succ m ih =>
    intro k h1 nu1 hk hS1 hb1 hb2 hF1
    have hK1 := hK.fr hF1 (by omega)
    have hU1 := hU.fr hF1 (by omega)
    have k1 := hK1.ob
    have r1 := hU1.obj
    obtain ⟨v, -⟩ := id hS1
    have hfk : f + k < R.length := by omega
    have g1 := rlo_mono hI k f hfk
    have g2 := (hI.1 (f + k) hfk).1
    have g3 := rhi_mono hI (j := f + k) (k := f + n) (by omega) hfn
    obtain ⟨a, ha⟩ : ∃ a, a = ((rlo R (f + k)).toInt - (rlo R f).toInt).toNat := ⟨_, rfl⟩
    obtain ⟨b, hb⟩ : ∃ b, b = ((rhi R (f + k)).toInt - (rlo R f).toInt).toNat := ⟨_, rfl⟩
    refine Ax_il7 dX1_layTable_92 ?_
    refine Ax_al0 dX1_layTable_94 ?_
    refine Ax_getf kfX1 fX1_51 dX1_layTable_95 v rfl ?_
    refine Ax_il1 dX1_layTable_98 ?_
    refine Ax_cVi dX1_layTable_99 vX1_120 kfX0 k1 (tl h1 hK1) rfl rfl (by decide) (by simp [Value.category]) ?_
    refine Ax_cmpgtn (tgt := 159) dX1_layTable_102 (by decide) (by omega) (by omega) (fun c102 => ?_) (fun c102 => ?_)
    · omega
    refine Ax_il7 dX1_layTable_105 ?_
    refine Ax_bp24 dX1_layTable_107 ?_
    refine Ax_cmpgen (tgt := 159) dX1_layTable_109 (by decide) (by omega) (by omega) (fun c109 => ?_) (fun c109 => ?_)
    · omega
    refine Ax_al0 dX1_layTable_112 ?_
    refine Ax_il4 dX1_layTable_113 ?_
    refine Ax_al0 dX1_layTable_115 ?_
    refine Ax_getf kfX1 fX1_47 dX1_layTable_116 v rfl ?_
    refine Ax_il7 dX1_layTable_119 ?_
    refine Ax_cVi dX1_layTable_121 vX1_136 kfX2 r1 (tR_low hU1 hl (k := f + k) hfk) rfl rfl (by decide) (by simp [Value.category]) ?_
    refine Ax_il2 dX1_layTable_124 ?_
    refine Ax_isub dX1_layTable_125 ?_
    refine Ax_top ((I_dif g1 (by omega)).trans (by rw [← ha])) ?_
    refine Ax_iaddn dX1_layTable_126 ?_
    refine Ax_il4 dX1_layTable_127 ?_
    refine Ax_al0 dX1_layTable_129 ?_
    refine Ax_getf kfX1 fX1_47 dX1_layTable_130 v rfl ?_
    refine Ax_il7 dX1_layTable_133 ?_
    refine Ax_cVi dX1_layTable_135 vX1_139 kfX2 r1 (tR_high hU1 hl (k := f + k) hfk) rfl rfl (by decide) (by simp [Value.category]) ?_
    refine Ax_il2 dX1_layTable_138 ?_
    refine Ax_isub dX1_layTable_139 ?_
    refine Ax_top ((I_dif (Int.le_trans g1 g2) (by omega)).trans (by rw [← hb])) ?_
    refine Ax_iaddn dX1_layTable_140 ?_
    refine Ax_al0 dX1_layTable_141 ?_
    refine Ax_getf kfX1 fX1_47 dX1_layTable_142 v rfl ?_
    refine Ax_il7 dX1_layTable_145 ?_
    refine Ax_cVi dX1_layTable_147 vX1_110 kfX2 r1 (tR_target hU1 hl (k := f + k) hfk) rfl rfl (by decide) (by simp [Value.category]) ?_
    refine Ax_cVv dX1_layTable_150 vX1_133 kfX1 v (tX1_fill (G := G) (h := h1) (n := L.length + 1) hS1 (a := tsum L + a) (e := tsum L + b) (by omega) (by omega) (nI (rtg R (f + k)))) rfl rfl (by decide) (by simp [Value.category]) (Nat.le_refl _) (fun h2 q2 => ?_)
    obtain ⟨⟨nu2, hS2, hn1, hn2⟩, hF2⟩ := q2
    refine Ax_inc7_1n dX1_layTable_153 (Nat.le_of_ble_eq_true rfl) (by rfl) ?_
    refine Ax_goto (tgt := 92) dX1_layTable_156 (by decide) ?_
    refine ih (k + 1) h2 nu2 (by omega) hS2 (fun q hq => (hn2 q (by omega)).trans (hb1 q hq)) (fun q hq => ?_) (hF1.tr hF2)
    by_cases hin : a ≤ q ∧ q ≤ b
    · rw [hn1 _ (by omega) (by omega), tv_some hI (by omega) (k := f + k) (by omega) (by omega) (by omega) (by omega)]
    · rw [hn2 _ (by omega), hb2 q hq, tv_same hI (by omega) (by omega)]
end
