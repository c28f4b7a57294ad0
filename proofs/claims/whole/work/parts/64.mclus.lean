/-! the reference: clusters -/
theorem kd_oI {R : List Run} {dens size i j : Nat} : (oI (kd R dens size i j) < 0 → okB R dens size i j = false) ∧ (¬ oI (kd R dens size i j) < 0 → okB R dens size i j = true) := by
  unfold okB
  cases hq : kd R dens size i j with
  | none => exact ⟨fun _ => rfl, fun w => absurd (by decide) w⟩
  | some z =>
    have h8 := kd_lt hq
    refine ⟨fun w => ?_, fun _ => rfl⟩
    rw [Int32.lt_iff_toInt_lt, show oI (some z) = nI z from rfl, nI_toInt (by omega), show (0 : Int32).toInt = 0 from rfl] at w
    omega
def mCls (h : xH) (R : List Run) (dens size : Nat) : Prop := ∃ kn fi ma fw, h.1 40 = cI 0 24 kn ∧ h.1 41 = cI 0 24 fi ∧ h.1 42 = cI 0 24 ma ∧ h.1 43 = cI 0 25 fw ∧ ∀ c, c < (clsOf R dens size).length → kn c = nI (ckd R dens size c) ∧ fi c = nI (cf (clsOf R dens size) c) ∧ ma c = nI (cl (clsOf R dens size) c - cf (clsOf R dens size) c + 1)
theorem mCls.on {h h' : xH} {R : List Run} {dens size : Nat} (hS : mCls h R dens size) (hF : ∀ q, (40 ≤ q ∧ q < 44) → h'.1 q = h.1 q) : mCls h' R dens size := by
  obtain ⟨a, b, c, d, h1, h2, h3, h4, h5⟩ := hS
  exact ⟨a, b, c, d, (hF _ (by omega)).trans h1, (hF _ (by omega)).trans h2, (hF _ (by omega)).trans h3, (hF _ (by omega)).trans h4, h5⟩
theorem mCls.raw {h : xH} {R : List Run} {dens size : Nat} (hS : mCls h R dens size) : mRw2 h := by
  obtain ⟨a, b, c, d, h1, h2, h3, h4, h5⟩ := hS
  exact ⟨a, b, c, d, h1, h2, h3, h4⟩
def ClR3 (R : List Run) (dens size : Nat) (K : List (Nat × Nat)) (kn fi ma : Nat → Int32) (n : Nat) : Prop := ∀ c, c < n → kn c = oI (kd R dens size (cf K c) (cl K c)) ∧ fi c = nI (cf K c) ∧ ma c = nI (cl K c - cf K c + 1)
section
variable {G : xG} {h : xH} {R : List Run} {dens size : Nat}
theorem mc_few {Q : Option Value → xH → Prop} {cs cl rt rw wy kn ln pt tk os : Int32} {fw : Nat → Int32} {v1 v2 : Value} (m : h.1 30 = mO cs cl rt rw (nI dens) (nI size) wy (nI R.length) kn ln pt tk os) (hV : mRuns h R) (m21 : h.1 43 = cI 0 25 fw) (hl : R.length ≤ 24) (hI : RInv R) (hdn : dens ≤ 100) (hsz : size ≤ 256)
    (hcont : ∀ hh fw few e v1 v2, IsFew R.length (okB R dens size) few e 0 → (∀ k, k ≤ R.length → fw k = nI (few k)) → hh.1 43 = cI 0 25 fw → (∀ q, q ≠ 43 → hh.1 q = h.1 q) → hh.2 = h.2 → Ax G mX6_makeClusters 2 0 105 [.ref 30, v1, v2] [] hh Q) : Ax G mX6_makeClusters 2 0 0 [.ref 30, v1, v2] [] h Q := by
  have hok := okB_self R dens size
  have m0 := m
  have fr : ∀ q, (q ≠ 43) → h.1 q = h.1 q := fun _ _ => rfl
  have zr : h.2 = h.2 := rfl
  refine Ax_al0 dX6_makeClusters_0 ?_
  refine Ax_getf kfX6 fX6_57 dX6_makeClusters_1 m rfl ?_
  refine Ax_al0 dX6_makeClusters_4 ?_
  refine Ax_getf kfX6 fX6_138 dX6_makeClusters_5 m rfl ?_
  refine Ax_ic0 dX6_makeClusters_8 ?_
  refine Ax_iastn dX6_makeClusters_9 m21 (by omega) (by omega) (Ax_up (fun h1 e1 f1 z1 => ?_))
  replace m := (f1 _ (by omega)).trans m
  replace m21 := e1
  replace fr : ∀ q, (q ≠ 43) → h1.1 q = h.1 q := fun q hq => (f1 q (by omega)).trans (fr q hq)
  replace zr := z1.trans zr
  refine Ax_al0 dX6_makeClusters_10 ?_
  refine Ax_getf kfX6 fX6_138 dX6_makeClusters_11 m rfl ?_
  refine Ax_ic1 dX6_makeClusters_14 ?_
  refine Ax_isub dX6_makeClusters_15 ?_
  refine Ax_is1 dX6_makeClusters_16 (Nat.le_of_ble_eq_true rfl) (by rfl) ?_
  suffices hloop : ∀ b hh fw few e v, b ≤ R.length → hh.1 43 = cI 0 25 fw → (∀ q, q ≠ 43 → hh.1 q = h.1 q) → hh.2 = h.2 → IsFew R.length (okB R dens size) few e b → (∀ k, b ≤ k → k ≤ R.length → fw k = nI (few k)) → Ax G mX6_makeClusters 2 0 17 [.ref 30, .int (nI b - nI 1), v] [] hh Q by
    refine hloop R.length h1 _ (fun _ => 0) (fun _ => 0) _ (Nat.le_refl _) m21 fr zr ⟨rfl, fun i q1 q2 => by omega⟩ (fun k q1 q2 => ?_)
    obtain rfl : k = R.length := by omega
    exact pk_us
  clear fr zr m21
  intro b
  induction b with
  | zero =>
    intro hh fw few e v hb m21 fr zr hfe hfw
    refine Ax_il1 dX6_makeClusters_17 ?_
    refine Ax_iflt (tgt := 105) dX6_makeClusters_18 (by decide) (fun c18 => ?_) (fun c18 => ?_)
    · exact hcont hh fw few e _ _ hfe (fun k hk => hfw k (Nat.zero_le _) hk) m21 fr zr
    · exact absurd (by decide) c18
  | succ i ih =>
    intro hh fw few e v hb m21 fr zr hfe hfw
    rw [show nI (i + 1) - nI 1 = nI i by rw [pk_sub (by omega)]; rfl]
    have m := (fr 30 (by omega)).trans m0
    have hle : ∀ k, i + 1 ≤ k → k ≤ R.length → few k ≤ 24 := fun k q1 q2 => by
      have := hfe.le hok (R.length - k) k (by omega) q1
      omega
    refine Ax_il1 dX6_makeClusters_17 ?_
    refine Ax_ifltn (tgt := 105) dX6_makeClusters_18 (by decide) (by omega) ?_
    refine Ax_al0 dX6_makeClusters_21 ?_
    refine Ax_getf kfX6 fX6_57 dX6_makeClusters_22 m rfl ?_
    refine Ax_il1 dX6_makeClusters_25 ?_
    refine Ax_ic1 dX6_makeClusters_26 ?_
    refine Ax_al0 dX6_makeClusters_27 ?_
    refine Ax_getf kfX6 fX6_57 dX6_makeClusters_28 m rfl ?_
    refine Ax_il1 dX6_makeClusters_31 ?_
    refine Ax_ic1 dX6_makeClusters_32 ?_
    refine Ax_iaddn dX6_makeClusters_33 ?_
    refine Ax_ialdn dX6_makeClusters_34 m21 (by omega) (by omega) ?_
    refine Ax_top (hfw (i + 1) (by omega) (by omega)) ?_
    refine Ax_iaddn dX6_makeClusters_35 ?_
    refine Ax_iastn dX6_makeClusters_36 m21 (by omega) (by omega) (Ax_up (fun h1 e1 f1 z1 => ?_))
    replace m := (f1 _ (by omega)).trans m
    replace m21 := e1
    replace fr : ∀ q, (q ≠ 43) → h1.1 q = h.1 q := fun q hq => (f1 q (by omega)).trans (fr q hq)
    replace zr := z1.trans zr
    refine Ax_il1 dX6_makeClusters_37 ?_
    refine Ax_ic1 dX6_makeClusters_38 ?_
    refine Ax_iaddn dX6_makeClusters_39 ?_
    refine Ax_is2 dX6_makeClusters_40 (Nat.le_of_ble_eq_true rfl) (by rfl) ?_
    suffices hin : ∀ w t hh fw2 x e', i + 1 + t + w = R.length → hh.1 43 = cI 0 25 fw2 → (∀ q, q ≠ 43 → hh.1 q = h.1 q) → hh.2 = h.2 → IsBest (okB R dens size) few i t x e' → fw2 i = nI x → (∀ k, i < k → fw2 k = fw k) → Ax G mX6_makeClusters 2 0 41 [.ref 30, .int (nI i), .int (nI (i + 1 + t))] [] hh Q by
      refine hin (R.length - (i + 1)) 0 h1 _ _ _ (by omega) m21 fr zr (IsBest.zero (hok i)) (by rw [pk_us, Nat.add_comm]) (fun k hk => pk_un (by omega))
    clear fr zr m21 m e1 f1 z1
    intro w
    induction w with
    | zero =>
      intro t hh fw2 x e' hk m21 fr zr hbest b1 b3
      have m := (fr 30 (by omega)).trans m0
      refine Ax_il2 dX6_makeClusters_41 ?_
      refine Ax_al0 dX6_makeClusters_42 ?_
      refine Ax_getf kfX6 fX6_138 dX6_makeClusters_43 m rfl ?_
      refine Ax_cmpgen (tgt := 99) dX6_makeClusters_46 (by decide) (by omega) (by omega) (fun c46 => ?_) (fun c46 => ?_)
      · refine Ax_inc1_m1 dX6_makeClusters_99 (Nat.le_of_ble_eq_true rfl) (by rfl) ?_
        refine Ax_goto (tgt := 17) dX6_makeClusters_102 (by decide) ?_
        rw [show (nI i + (-1) : Int32) = nI i - nI 1 by rw [Int32.sub_eq_add_neg]; rfl]
        have hstep := IsFew.step (few' := fun k => if k = i then x else few k) (en' := fun k => if k = i then e' else e k) hfe (by omega) (by rw [show R.length - 1 - i = t by omega]; exact hbest) (fun k hk => if_neg (by omega)) (if_pos rfl) (fun k hk => if_neg (by omega)) (if_pos rfl)
        refine ih hh fw2 _ _ _ (by omega) m21 fr zr hstep (fun k q1 q2 => ?_)
        by_cases hki : k = i
        · subst hki; rw [if_pos rfl]; exact b1
        · rw [if_neg hki, b3 k (by omega)]; exact hfw k (by omega) q2
      · omega
    | succ w ihw =>
      intro t hh fw2 x e' hk m21 fr zr hbest b1 b3
      have m := (fr 30 (by omega)).trans m0
      have hV2 := hV.on (fun q hq => fr q (by omega))
      have hx := hbest.le (hok i)
      have hle1 := hle (i + 1) (by omega) (by omega)
      have hle2 := hle (i + 1 + t + 1) (by omega) (by omega)
      have hf1 : fw2 (i + 1 + t + 1) = nI (few (i + 1 + t + 1)) := by rw [b3 _ (by omega)]; exact hfw _ (by omega) (by omega)
      have htj : i + t + 1 = i + 1 + t := by omega
      have hnext : ∀ e'', IsBest (okB R dens size) few i (t + 1) x e'' → Ax G mX6_makeClusters 2 0 93 [.ref 30, .int (nI i), .int (nI (i + 1 + t))] [] hh Q := by
        intro e'' q
        refine Ax_inc2_1n dX6_makeClusters_93 (Nat.le_of_ble_eq_true rfl) (by rfl) ?_
        refine Ax_goto (tgt := 41) dX6_makeClusters_96 (by decide) ?_
        exact ihw (t + 1) hh fw2 x e'' (by omega) m21 fr zr q b1 b3
      have hkd := tX6_kindOf (G := G) m hV2 hl hI hdn hsz (i := i) (n := 1 + t) (by omega)
      rw [show i + (1 + t) = i + 1 + t by omega] at hkd
      refine Ax_il2 dX6_makeClusters_41 ?_
      refine Ax_al0 dX6_makeClusters_42 ?_
      refine Ax_getf kfX6 fX6_138 dX6_makeClusters_43 m rfl ?_
      refine Ax_cmpgen (tgt := 99) dX6_makeClusters_46 (by decide) (by omega) (by omega) (fun c46 => ?_) (fun c46 => ?_)
      · omega
      refine Ax_al0 dX6_makeClusters_49 ?_
      refine Ax_il1 dX6_makeClusters_50 ?_
      refine Ax_il2 dX6_makeClusters_51 ?_
      refine Ax_cVi dX6_makeClusters_52 vX6_145 kfX6 m hkd rfl rfl (by decide) (by simp [Value.category]) ?_
      refine Ax_iflt (tgt := 93) dX6_makeClusters_55 (by decide) (fun c55 => ?_) (fun c55 => ?_)
      · exact hnext e' (hbest.keep (Or.inr (by rw [htj]; exact kd_oI.1 c55)))
      have hokj : okB R dens size i (i + t + 1) = true := by rw [htj]; exact kd_oI.2 c55
      refine Ax_ic1 dX6_makeClusters_58 ?_
      refine Ax_al0 dX6_makeClusters_59 ?_
      refine Ax_getf kfX6 fX6_57 dX6_makeClusters_60 m rfl ?_
      refine Ax_il2 dX6_makeClusters_63 ?_
      refine Ax_ic1 dX6_makeClusters_64 ?_
      refine Ax_iaddn dX6_makeClusters_65 ?_
      refine Ax_ialdn dX6_makeClusters_66 m21 (by omega) (by omega) ?_
      refine Ax_top (hf1) ?_
      refine Ax_iaddn dX6_makeClusters_67 ?_
      refine Ax_al0 dX6_makeClusters_68 ?_
      refine Ax_getf kfX6 fX6_57 dX6_makeClusters_69 m rfl ?_
      refine Ax_il1 dX6_makeClusters_72 ?_
      refine Ax_ialdn dX6_makeClusters_73 m21 (by omega) (by omega) ?_
      refine Ax_top (b1) ?_
      refine Ax_cmpgen (tgt := 93) dX6_makeClusters_74 (by decide) (by omega) (by omega) (fun c74 => ?_) (fun c74 => ?_)
      · by_cases q : few (i + 1 + t + 1) + 1 = x
        · have hbn := hbest.new (by rw [htj]; omega) hokj
          rw [htj, q] at hbn
          exact hnext _ hbn
        · exact hnext e' (hbest.keep (Or.inl (by rw [htj]; omega)))
      refine Ax_al0 dX6_makeClusters_77 ?_
      refine Ax_getf kfX6 fX6_57 dX6_makeClusters_78 m rfl ?_
      refine Ax_il1 dX6_makeClusters_81 ?_
      refine Ax_ic1 dX6_makeClusters_82 ?_
      refine Ax_al0 dX6_makeClusters_83 ?_
      refine Ax_getf kfX6 fX6_57 dX6_makeClusters_84 m rfl ?_
      refine Ax_il2 dX6_makeClusters_87 ?_
      refine Ax_ic1 dX6_makeClusters_88 ?_
      refine Ax_iaddn dX6_makeClusters_89 ?_
      refine Ax_ialdn dX6_makeClusters_90 m21 (by omega) (by omega) ?_
      refine Ax_top (hf1) ?_
      refine Ax_iaddn dX6_makeClusters_91 ?_
      refine Ax_iastn dX6_makeClusters_92 m21 (by omega) (by omega) (Ax_up (fun h31 e31 f31 z31 => ?_))
      replace m := (f31 _ (by omega)).trans m
      replace m21 := e31
      replace fr : ∀ q, (q ≠ 43) → h31.1 q = h.1 q := fun q hq => (f31 q (by omega)).trans (fr q hq)
      replace zr := z31.trans zr
      refine Ax_inc2_1n dX6_makeClusters_93 (Nat.le_of_ble_eq_true rfl) (by rfl) ?_
      refine Ax_goto (tgt := 41) dX6_makeClusters_96 (by decide) ?_
      have hbn := hbest.new (by rw [htj]; omega) hokj
      rw [htj] at hbn
      exact ihw (t + 1) _ _ _ _ (by omega) m21 fr zr hbn (by rw [pk_us, Nat.add_comm]) (fun k hk => (pk_un (by omega)).trans (b3 k hk))
theorem tX6_makeClusters {cs cl rt rw wy kn ln pt tk os : Int32} (m : h.1 30 = mO cs cl rt rw (nI dens) (nI size) wy (nI R.length) kn ln pt tk os) (hV : mRuns h R) (hraw : mRw2 h) (hl : R.length ≤ 24) (hI : RInv R) (hdn : dens ≤ 100) (hsz : size ≤ 256) : AM G mX6_makeClusters 2 0 [.ref 30] h
    (fun r h' => r = none ∧ (h'.1 30 = mO cs cl rt rw (nI dens) (nI size) wy (nI R.length) (nI (clsOf R dens size).length) ln pt tk os ∧ mCls h' R dens size ∧ (∀ q, (q < 30 ∨ (30 < q ∧ q < 40) ∨ 44 ≤ q) → h'.1 q = h.1 q) ∧ h'.2 = h.2)) := by
  obtain ⟨kn0, fi0, ma0, fw0, m17, m18, m19, m21⟩ := hraw
  have hok := okB_self R dens size
  have hlenK : (clsOf R dens size).length ≤ 24 := Nat.le_trans (cls_len R dens size) hl
  refine AM.of rfl rfl (Nat.le_of_ble_eq_true rfl) rfl ?_
  refine mc_few m hV m21 hl hI hdn hsz (fun hh fw few e v1 v2 hfe hfw m21' fr0 zr0 => ?_)
  have hee : ∀ k, k < R.length → e k = (fewP R dens size).2 k := fun k hk => ((hfe.uniq (fewP_is R dens size)) (R.length - k) k (by omega) (Nat.zero_le _)).2 hk
  have hK : clsOf R dens size = clF e R.length R.length 0 := by unfold clsOf; rw [clF_congr (fun i hi => (hee i hi).symm)]
  have hle : ∀ k, k ≤ R.length → few k ≤ 24 := fun k q2 => by
    have := hfe.le hok (R.length - k) k (by omega) (Nat.zero_le _)
    omega
  replace m := (fr0 30 (by omega)).trans m
  replace m17 := (fr0 40 (by omega)).trans m17
  replace m18 := (fr0 41 (by omega)).trans m18
  replace m19 := (fr0 42 (by omega)).trans m19
  replace hV := hV.on (h' := hh) (fun q hq => fr0 q (by omega))
  have fr : ∀ q, (q < 30 ∨ (30 < q ∧ q < 40) ∨ 43 ≤ q) → hh.1 q = hh.1 q := fun _ _ => rfl
  have zr : hh.2 = hh.2 := rfl
  refine Ax_al0 dX6_makeClusters_105 ?_
  refine Ax_ic0 dX6_makeClusters_106 ?_
  refine Ax_putf kfX6 fX6_149 dX6_makeClusters_107 m (Nat.le_of_ble_eq_true rfl) (Or.inl rfl) (by rfl) (by rfl) (Ax_up (fun h1 e1 f1 z1 => ?_))
  replace m := e1
  replace m17 := (f1 _ (by omega)).trans m17
  replace m18 := (f1 _ (by omega)).trans m18
  replace m19 := (f1 _ (by omega)).trans m19
  replace fr : ∀ q, (q < 30 ∨ (30 < q ∧ q < 40) ∨ 43 ≤ q) → h1.1 q = hh.1 q := fun q hq => (f1 q (by omega)).trans (fr q hq)
  replace zr := z1.trans zr
  refine Ax_ic0 dX6_makeClusters_110 ?_
  refine Ax_is1 dX6_makeClusters_111 (Nat.le_of_ble_eq_true rfl) (by rfl) ?_
  suffices hloop : ∀ n i done hx kn fi ma v, i ≤ R.length → R.length ≤ i + n → done.length ≤ i → clsOf R dens size = done ++ clF e R.length n i → hx.1 30 = mO cs cl rt rw (nI dens) (nI size) wy (nI R.length) (nI done.length) ln pt tk os → hx.1 40 = cI 0 24 kn → hx.1 41 = cI 0 24 fi → hx.1 42 = cI 0 24 ma → ClR3 R dens size (clsOf R dens size) kn fi ma done.length → (∀ q, (q < 30 ∨ (30 < q ∧ q < 40) ∨ 43 ≤ q) → hx.1 q = hh.1 q) → hx.2 = hh.2 →
      Ax G mX6_makeClusters 2 0 112 [.ref 30, .int (nI i), v] [] hx (fun r h' => r = none ∧ (h'.1 30 = mO cs cl rt rw (nI dens) (nI size) wy (nI R.length) (nI (clsOf R dens size).length) ln pt tk os ∧ mCls h' R dens size ∧ (∀ q, (q < 30 ∨ (30 < q ∧ q < 40) ∨ 44 ≤ q) → h'.1 q = h.1 q) ∧ h'.2 = h.2)) from
    hloop R.length 0 [] h1 _ _ _ _ (Nat.zero_le _) (by omega) (Nat.le_refl _) hK m m17 m18 m19 (fun c hc => (Nat.not_lt_zero _ hc).elim) fr zr
  clear m m17 m18 m19 fr zr e1 f1 z1
  intro n
  induction n with
  | zero =>
    intro i done hx kn fi ma v hi hin hdi hKd m m17 m18 m19 hR3 fr zr
    obtain rfl : i = R.length := by omega
    rw [clF, List.append_nil] at hKd
    have m21 := (fr 43 (by omega)).trans m21'
    refine Ax_il1 dX6_makeClusters_112 ?_
    refine Ax_al0 dX6_makeClusters_113 ?_
    refine Ax_getf kfX6 fX6_138 dX6_makeClusters_114 m rfl ?_
    refine Ax_cmpgen (tgt := 217) dX6_makeClusters_117 (by decide) (by omega) (by omega) (fun c117 => ?_) (fun c117 => ?_)
    · refine Ax_ret dX6_makeClusters_217 rfl ⟨rfl, by rw [hKd]; exact m, ⟨kn, fi, ma, fw, m17, m18, m19, m21, fun c hc => ?_⟩, fun q hq => (fr q (by omega)).trans (fr0 q (by omega)), zr.trans zr0⟩
      obtain ⟨q1, q2, q3⟩ := hR3 c (by rw [← hKd]; exact hc)
      exact ⟨by rw [q1, ckd_is hc]; rfl, q2, q3⟩
    · omega
  | succ n ih =>
    intro i done hx kn fi ma v hi hin hdi hKd m m17 m18 m19 hR3 fr zr
    have m21 := (fr 43 (by omega)).trans m21'
    have hV1 := hV.on (h' := hx) (fun q hq => fr q (by omega))
    by_cases him : i < R.length
    · rw [clF, if_pos him] at hKd
      obtain ⟨a1, a2, a3, a4, a5⟩ := hfe.2 i (Nat.zero_le _) him
      obtain ⟨k1, k2⟩ := cf_app done (i, e i) (clF e R.length n (e i + 1))
      rw [← hKd] at k1 k2
      have hdl : done.length < 24 := by
        have := congrArg List.length hKd
        rw [List.length_append, List.length_cons] at this
        omega
      have hfi := hle i (by omega)
      refine Ax_il1 dX6_makeClusters_112 ?_
      refine Ax_al0 dX6_makeClusters_113 ?_
      refine Ax_getf kfX6 fX6_138 dX6_makeClusters_114 m rfl ?_
      refine Ax_cmpgen (tgt := 217) dX6_makeClusters_117 (by decide) (by omega) (by omega) (fun c117 => ?_) (fun c117 => ?_)
      · omega
      refine Ax_al0 dX6_makeClusters_120 ?_
      refine Ax_getf kfX6 fX6_138 dX6_makeClusters_121 m rfl ?_
      refine Ax_ic1 dX6_makeClusters_124 ?_
      refine Ax_isubn dX6_makeClusters_125 (by omega) ?_
      refine Ax_is2 dX6_makeClusters_126 (Nat.le_of_ble_eq_true rfl) (by rfl) ?_
      suffices hs : ∀ s j, j = e i + s → j < R.length → Ax G mX6_makeClusters 2 0 127 [.ref 30, .int (nI i), .int (nI j)] [] hx (fun r h' => r = none ∧ (h'.1 30 = mO cs cl rt rw (nI dens) (nI size) wy (nI R.length) (nI (clsOf R dens size).length) ln pt tk os ∧ mCls h' R dens size ∧ (∀ q, (q < 30 ∨ (30 < q ∧ q < 40) ∨ 44 ≤ q) → h'.1 q = h.1 q) ∧ h'.2 = h.2)) from
        hs (R.length - 1 - e i) _ (by omega) (by omega)
      intro s
      induction s with
      | zero =>
        intro j hj hjl
        obtain rfl : j = e i := by omega
        have hkd := tX6_kindOf (G := G) m hV1 hl hI hdn hsz (i := i) (n := e i - i) (by omega)
        rw [show i + (e i - i) = e i by omega] at hkd
        have hfe2 := hle (e i + 1) (by omega)
        refine Ax_al0 dX6_makeClusters_127 ?_
        refine Ax_il1 dX6_makeClusters_128 ?_
        refine Ax_il2 dX6_makeClusters_129 ?_
        refine Ax_cVi dX6_makeClusters_130 vX6_145 kfX6 m hkd rfl rfl (by decide) (by simp [Value.category]) ?_
        refine Ax_iflt (tgt := 155) dX6_makeClusters_133 (by decide) (fun c133 => ?_) (fun c133 => ?_)
        · have := kd_oI.1 c133
          rw [a3] at this
          cases this
        refine Ax_ic1 dX6_makeClusters_136 ?_
        refine Ax_al0 dX6_makeClusters_137 ?_
        refine Ax_getf kfX6 fX6_57 dX6_makeClusters_138 m rfl ?_
        refine Ax_il2 dX6_makeClusters_141 ?_
        refine Ax_ic1 dX6_makeClusters_142 ?_
        refine Ax_iaddn dX6_makeClusters_143 ?_
        refine Ax_ialdn dX6_makeClusters_144 m21 (by omega) (by omega) ?_
        refine Ax_top (hfw (e i + 1) (by omega)) ?_
        refine Ax_iaddn dX6_makeClusters_145 ?_
        refine Ax_al0 dX6_makeClusters_146 ?_
        refine Ax_getf kfX6 fX6_57 dX6_makeClusters_147 m rfl ?_
        refine Ax_il1 dX6_makeClusters_150 ?_
        refine Ax_ialdn dX6_makeClusters_151 m21 (by omega) (by omega) ?_
        refine Ax_top (hfw i (by omega)) ?_
        refine Ax_cmpeqn (tgt := 161) dX6_makeClusters_152 (by decide) (by omega) (by omega) (fun c152 => ?_) (fun c152 => ?_)
        rotate_left
        · omega
        refine Ax_al0 dX6_makeClusters_161 ?_
        refine Ax_getf kfX6 fX6_48 dX6_makeClusters_162 m rfl ?_
        refine Ax_al0 dX6_makeClusters_165 ?_
        refine Ax_getf kfX6 fX6_149 dX6_makeClusters_166 m rfl ?_
        refine Ax_al0 dX6_makeClusters_169 ?_
        refine Ax_il1 dX6_makeClusters_170 ?_
        refine Ax_il2 dX6_makeClusters_171 ?_
        refine Ax_cVi dX6_makeClusters_172 vX6_145 kfX6 m hkd rfl rfl (by decide) (by simp [Value.category]) ?_
        refine Ax_iastn dX6_makeClusters_175 m17 (by omega) (by omega) (Ax_up (fun h41 e41 f41 z41 => ?_))
        replace m := (f41 _ (by omega)).trans m
        replace m17 := e41
        replace m18 := (f41 _ (by omega)).trans m18
        replace m19 := (f41 _ (by omega)).trans m19
        replace fr : ∀ q, (q < 30 ∨ (30 < q ∧ q < 40) ∨ 43 ≤ q) → h41.1 q = hh.1 q := fun q hq => (f41 q (by omega)).trans (fr q hq)
        replace zr := z41.trans zr
        refine Ax_al0 dX6_makeClusters_176 ?_
        refine Ax_getf kfX6 fX6_51 dX6_makeClusters_177 m rfl ?_
        refine Ax_al0 dX6_makeClusters_180 ?_
        refine Ax_getf kfX6 fX6_149 dX6_makeClusters_181 m rfl ?_
        refine Ax_il1 dX6_makeClusters_184 ?_
        refine Ax_iastn dX6_makeClusters_185 m18 (by omega) (by omega) (Ax_up (fun h42 e42 f42 z42 => ?_))
        replace m := (f42 _ (by omega)).trans m
        replace m17 := (f42 _ (by omega)).trans m17
        replace m18 := e42
        replace m19 := (f42 _ (by omega)).trans m19
        replace fr : ∀ q, (q < 30 ∨ (30 < q ∧ q < 40) ∨ 43 ≤ q) → h42.1 q = hh.1 q := fun q hq => (f42 q (by omega)).trans (fr q hq)
        replace zr := z42.trans zr
        refine Ax_al0 dX6_makeClusters_186 ?_
        refine Ax_getf kfX6 fX6_54 dX6_makeClusters_187 m rfl ?_
        refine Ax_al0 dX6_makeClusters_190 ?_
        refine Ax_getf kfX6 fX6_149 dX6_makeClusters_191 m rfl ?_
        refine Ax_il2 dX6_makeClusters_194 ?_
        refine Ax_il1 dX6_makeClusters_195 ?_
        refine Ax_isubn dX6_makeClusters_196 (by omega) ?_
        refine Ax_ic1 dX6_makeClusters_197 ?_
        refine Ax_iaddn dX6_makeClusters_198 ?_
        refine Ax_iastn dX6_makeClusters_199 m19 (by omega) (by omega) (Ax_up (fun h43 e43 f43 z43 => ?_))
        replace m := (f43 _ (by omega)).trans m
        replace m17 := (f43 _ (by omega)).trans m17
        replace m18 := (f43 _ (by omega)).trans m18
        replace m19 := e43
        replace fr : ∀ q, (q < 30 ∨ (30 < q ∧ q < 40) ∨ 43 ≤ q) → h43.1 q = hh.1 q := fun q hq => (f43 q (by omega)).trans (fr q hq)
        replace zr := z43.trans zr
        refine Ax_al0 dX6_makeClusters_200 ?_
        refine Ax_dup dX6_makeClusters_201 rfl ?_
        refine Ax_getf kfX6 fX6_149 dX6_makeClusters_202 m rfl ?_
        refine Ax_ic1 dX6_makeClusters_205 ?_
        refine Ax_iaddn dX6_makeClusters_206 ?_
        refine Ax_putf kfX6 fX6_149 dX6_makeClusters_207 m (Nat.le_of_ble_eq_true rfl) (Or.inl rfl) (by rfl) (by rfl) (Ax_up (fun h44 e44 f44 z44 => ?_))
        replace m := e44
        replace m17 := (f44 _ (by omega)).trans m17
        replace m18 := (f44 _ (by omega)).trans m18
        replace m19 := (f44 _ (by omega)).trans m19
        replace fr : ∀ q, (q < 30 ∨ (30 < q ∧ q < 40) ∨ 43 ≤ q) → h44.1 q = hh.1 q := fun q hq => (f44 q (by omega)).trans (fr q hq)
        replace zr := z44.trans zr
        refine Ax_il2 dX6_makeClusters_210 ?_
        refine Ax_ic1 dX6_makeClusters_211 ?_
        refine Ax_iaddn dX6_makeClusters_212 ?_
        refine Ax_is1 dX6_makeClusters_213 (Nat.le_of_ble_eq_true rfl) (by rfl) ?_
        refine Ax_goto (tgt := 112) dX6_makeClusters_214 (by decide) ?_
        have hl1 : (done ++ [(i, e i)]).length = done.length + 1 := by simp
        refine ih (e i + 1) (done ++ [(i, e i)]) _ _ _ _ _ (by omega) (by omega) (by rw [hl1]; omega) (by rw [hKd, List.append_assoc]; rfl) (by rw [hl1]; exact m) m17 m18 m19 (fun c hc => ?_) fr zr
        rw [hl1] at hc
        by_cases hcd : c = done.length
        · subst hcd
          rw [pk_us, pk_us, pk_us, k1, k2]
          exact ⟨rfl, rfl, rfl⟩
        · rw [pk_un hcd, pk_un hcd, pk_un hcd]
          exact hR3 c (by omega)
      | succ s ihs =>
        intro j hj hjl
        obtain ⟨x, rfl⟩ : ∃ x, j = x + 1 := ⟨j - 1, by omega⟩
        have hkd := tX6_kindOf (G := G) m hV1 hl hI hdn hsz (i := i) (n := x + 1 - i) (by omega)
        rw [show i + (x + 1 - i) = x + 1 by omega] at hkd
        have hfe2 := hle (x + 1 + 1) (by omega)
        have hnext : Ax G mX6_makeClusters 2 0 155 [.ref 30, .int (nI i), .int (nI (x + 1))] [] hx (fun r h' => r = none ∧ (h'.1 30 = mO cs cl rt rw (nI dens) (nI size) wy (nI R.length) (nI (clsOf R dens size).length) ln pt tk os ∧ mCls h' R dens size ∧ (∀ q, (q < 30 ∨ (30 < q ∧ q < 40) ∨ 44 ≤ q) → h'.1 q = h.1 q) ∧ h'.2 = h.2)) := by
          refine Ax_inc2_m1n dX6_makeClusters_155 (Nat.le_of_ble_eq_true rfl) (by rfl) ?_
          refine Ax_goto (tgt := 127) dX6_makeClusters_158 (by decide) ?_
          exact ihs x (by omega) (by omega)
        refine Ax_al0 dX6_makeClusters_127 ?_
        refine Ax_il1 dX6_makeClusters_128 ?_
        refine Ax_il2 dX6_makeClusters_129 ?_
        refine Ax_cVi dX6_makeClusters_130 vX6_145 kfX6 m hkd rfl rfl (by decide) (by simp [Value.category]) ?_
        refine Ax_iflt (tgt := 155) dX6_makeClusters_133 (by decide) (fun c133 => ?_) (fun c133 => ?_)
        · exact hnext
        refine Ax_ic1 dX6_makeClusters_136 ?_
        refine Ax_al0 dX6_makeClusters_137 ?_
        refine Ax_getf kfX6 fX6_57 dX6_makeClusters_138 m rfl ?_
        refine Ax_il2 dX6_makeClusters_141 ?_
        refine Ax_ic1 dX6_makeClusters_142 ?_
        refine Ax_iaddn dX6_makeClusters_143 ?_
        refine Ax_ialdn dX6_makeClusters_144 m21 (by omega) (by omega) ?_
        refine Ax_top (hfw (x + 1 + 1) (by omega)) ?_
        refine Ax_iaddn dX6_makeClusters_145 ?_
        refine Ax_al0 dX6_makeClusters_146 ?_
        refine Ax_getf kfX6 fX6_57 dX6_makeClusters_147 m rfl ?_
        refine Ax_il1 dX6_makeClusters_150 ?_
        refine Ax_ialdn dX6_makeClusters_151 m21 (by omega) (by omega) ?_
        refine Ax_top (hfw i (by omega)) ?_
        refine Ax_cmpeqn (tgt := 161) dX6_makeClusters_152 (by decide) (by omega) (by omega) (fun c152 => ?_) (fun c152 => ?_)
        · have hok' := kd_oI.2 c133
          have := (a5 (x + 1) (by omega) hjl hok').2 (by omega)
          omega
        · exact hnext
    · obtain rfl : i = R.length := by omega
      rw [clF, if_neg him, List.append_nil] at hKd
      refine Ax_il1 dX6_makeClusters_112 ?_
      refine Ax_al0 dX6_makeClusters_113 ?_
      refine Ax_getf kfX6 fX6_138 dX6_makeClusters_114 m rfl ?_
      refine Ax_cmpgen (tgt := 217) dX6_makeClusters_117 (by decide) (by omega) (by omega) (fun c117 => ?_) (fun c117 => ?_)
      · refine Ax_ret dX6_makeClusters_217 rfl ⟨rfl, by rw [hKd]; exact m, ⟨kn, fi, ma, fw, m17, m18, m19, m21, fun c hc => ?_⟩, fun q hq => (fr q (by omega)).trans (fr0 q (by omega)), zr.trans zr0⟩
        obtain ⟨q1, q2, q3⟩ := hR3 c (by rw [← hKd]; exact hc)
        exact ⟨by rw [q1, ckd_is hc]; rfl, q2, q3⟩
      · omega
end
