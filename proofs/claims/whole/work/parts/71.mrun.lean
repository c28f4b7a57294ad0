/-! the reference: a number's way -/
theorem fst_last {p : Nat → Bool} : ∀ (n k : Nat), (∀ i j, k ≤ i → i < j → j < k + n + 1 → ¬ (p i = true ∧ p j = true)) → fst p (n + 1) k = if p (k + n) = true then some (k + n) else fst p n k
  | 0, k, _ => rfl
  | n + 1, k, h => by
    rw [fst]
    have ih := fst_last (p := p) n (k + 1) (fun i j h1 h2 h3 => h i j (by omega) h2 (by omega))
    rw [show k + 1 + n = k + (n + 1) by omega] at ih
    by_cases q : p k = true
    · rw [if_pos q]
      have q2 : ¬ p (k + (n + 1)) = true := fun w => h k (k + (n + 1)) (Nat.le_refl _) (by omega) (by omega) ⟨q, w⟩
      rw [if_neg q2, fst, if_pos q]
    · rw [if_neg q, ih]
      by_cases q2 : p (k + (n + 1)) = true
      · rw [if_pos q2, if_pos q2]
      · rw [if_neg q2, if_neg q2, fst, if_neg q]
theorem tvI_succ {R : List Run} (hI : RInv R) {rest f n : Nat} (hn : f + n < R.length) (z : Int) : tvI R rest f (n + 1) z = if (rlo R (f + n)).toInt ≤ z ∧ z ≤ (rhi R (f + n)).toInt then rtg R (f + n) else tvI R rest f n z := by
  unfold tvI
  rw [fst_last n f (fun i j h1 h2 h3 => by
    rintro ⟨q1, q2⟩
    rw [decide_eq_true_eq] at q1 q2
    have := run_ord hI h2 (by omega)
    omega)]
  by_cases q : (rlo R (f + n)).toInt ≤ z ∧ z ≤ (rhi R (f + n)).toInt
  · rw [decide_eq_true q, if_pos rfl, if_pos q]
  · rw [decide_eq_false q, if_neg (by decide), if_neg q]
theorem wb_sbit {n k : Nat} (hk : k < 64) : (lN n >>> ((nI k).toInt64 &&& 63)) &&& lN 1 = lN (n.testBit k).toNat := by
  rw [wb_c k hk]
  apply wb_inj
  rw [Int64.toBitVec_and, Int64.toBitVec_shiftRight]
  simp only [wb_tb]
  rw [wb_sm k hk]
  apply BitVec.eq_of_getLsbD_eq
  intro i hi
  rw [BitVec.getLsbD_and, BitVec.sshiftRight_eq', BitVec.getLsbD_sshiftRight, BitVec.toNat_ofNat, Nat.mod_eq_of_lt (show k < 2 ^ 64 by omega), BitVec.getLsbD_ofNat, BitVec.getLsbD_ofNat, BitVec.getLsbD_ofNat]
  rcases Nat.eq_zero_or_pos i with q | q
  · subst q
    cases h : n.testBit k <;> simp [hk, h]
  · have h1 : (1 : Nat).testBit i = false := by
      rw [show (1 : Nat) = 2 ^ 0 from rfl, Nat.testBit_two_pow]
      simp
      omega
    have h2 : (n.testBit k).toNat.testBit i = false := by
      cases n.testBit k
      · exact Nat.zero_testBit i
      · exact h1
    rw [h1, h2]
    simp
section
variable {G : xG} {h : xH} {C : Cs} {rt rw dn sz wy : Nat} {cl' : Int32} {bs : List Nat}
theorem tX6_within {cs cq rw' dn' sz' wy' rn kn ln pt tk os : Int32} {R : List Run} {dens size rest : Nat} (m : h.1 30 = mO cs cq (nI rest) rw' dn' sz' wy' rn kn ln pt tk os) (hV : mRuns h R) (hK : mCls h R dens size) (hl : R.length ≤ 24) (hI : RInv R) {c : Nat} (hc : c < (clsOf R dens size).length) (x : Int32) : AM G mX6_within 1 0 [.ref 30, .int (nI c), .int x] h (fun r h' => r = some (.int (nI (tvI R rest (cf (clsOf R dens size) c) (cn R dens size c) x.toInt))) ∧ h' = h) := by
  obtain ⟨lo, hi, tg, wt, m12, m13, m14, m15, hRep⟩ := hV
  obtain ⟨ki, fi, ma, fw, m17, m18, m19, m21, hR3⟩ := hK
  obtain ⟨q1, q2, q3⟩ := hR3 c hc
  obtain ⟨-, p1, p2, -⟩ := ClOk.at _ _ c (cls_ok R dens size) hc
  have hlk := cls_len R dens size
  have hcn : cn R dens size c = cl (clsOf R dens size) c - cf (clsOf R dens size) c + 1 := rfl
  rw [← hcn] at q3
  refine AM.of rfl rfl (Nat.le_of_ble_eq_true rfl) rfl ?_
  refine Ax_al0 dX6_within_0 ?_
  refine Ax_getf kfX6 fX6_125 dX6_within_1 m rfl ?_
  refine Ax_is3 dX6_within_4 (Nat.le_of_ble_eq_true rfl) (by rfl) ?_
  refine Ax_al0 dX6_within_5 ?_
  refine Ax_getf kfX6 fX6_51 dX6_within_6 m rfl ?_
  refine Ax_il1 dX6_within_9 ?_
  refine Ax_ialdn dX6_within_10 m18 (by omega) (by omega) ?_
  refine Ax_top (q2) ?_
  refine Ax_is4 dX6_within_11 (Nat.le_of_ble_eq_true rfl) (by rfl) ?_
  suffices hloop : ∀ z t, t + z = cn R dens size c → Ax G mX6_within 1 0 13 [.ref 30, .int (nI c), .int x, .int (nI (tvI R rest (cf (clsOf R dens size) c) t x.toInt)), .int (nI (cf (clsOf R dens size) c + t))] [] h (fun r h' => r = some (.int (nI (tvI R rest (cf (clsOf R dens size) c) (cn R dens size c) x.toInt))) ∧ h' = h) from
    hloop _ 0 (Nat.zero_add _)
  intro z
  induction z with
  | zero =>
    intro t ht
    obtain rfl : t = cn R dens size c := by omega
    refine Ax_il4 dX6_within_13 ?_
    refine Ax_al0 dX6_within_15 ?_
    refine Ax_getf kfX6 fX6_51 dX6_within_16 m rfl ?_
    refine Ax_il1 dX6_within_19 ?_
    refine Ax_ialdn dX6_within_20 m18 (by omega) (by omega) ?_
    refine Ax_top (q2) ?_
    refine Ax_al0 dX6_within_21 ?_
    refine Ax_getf kfX6 fX6_54 dX6_within_22 m rfl ?_
    refine Ax_il1 dX6_within_25 ?_
    refine Ax_ialdn dX6_within_26 m19 (by omega) (by omega) ?_
    refine Ax_top (q3) ?_
    refine Ax_iaddn dX6_within_27 ?_
    refine Ax_cmpgen (tgt := 73) dX6_within_28 (by decide) (by omega) (by omega) (fun c28 => ?_) (fun c28 => ?_)
    · refine Ax_il3 dX6_within_73 ?_
      exact Ax_iret dX6_within_74 rfl rfl ⟨rfl, rfl⟩
    · omega
  | succ z ih =>
    intro t ht
    have e := hRep (cf (clsOf R dens size) c + t) (by omega)
    have hs := tvI_succ hI (rest := rest) (f := cf (clsOf R dens size) c) (n := t) (by omega) x.toInt
    have hin := tX6_in (G := G) (h := h) x.toInt64 (rlo R (cf (clsOf R dens size) c + t)).toInt64 (rhi R (cf (clsOf R dens size) c + t)).toInt64
    rw [Int32.toInt_toInt64, Int32.toInt_toInt64, Int32.toInt_toInt64] at hin
    have hih := ih (t + 1) (by omega)
    refine Ax_il4 dX6_within_13 ?_
    refine Ax_al0 dX6_within_15 ?_
    refine Ax_getf kfX6 fX6_51 dX6_within_16 m rfl ?_
    refine Ax_il1 dX6_within_19 ?_
    refine Ax_ialdn dX6_within_20 m18 (by omega) (by omega) ?_
    refine Ax_top (q2) ?_
    refine Ax_al0 dX6_within_21 ?_
    refine Ax_getf kfX6 fX6_54 dX6_within_22 m rfl ?_
    refine Ax_il1 dX6_within_25 ?_
    refine Ax_ialdn dX6_within_26 m19 (by omega) (by omega) ?_
    refine Ax_top (q3) ?_
    refine Ax_iaddn dX6_within_27 ?_
    refine Ax_cmpgen (tgt := 73) dX6_within_28 (by decide) (by omega) (by omega) (fun c28 => ?_) (fun c28 => ?_)
    · omega
    refine Ax_il2 dX6_within_31 ?_
    refine Ax_i2l dX6_within_32 ?_
    refine Ax_al0 dX6_within_33 ?_
    refine Ax_getf kfX6 fX6_36 dX6_within_34 m rfl ?_
    refine Ax_il4 dX6_within_37 ?_
    refine Ax_ialdn dX6_within_39 m12 (by omega) (by omega) ?_
    refine Ax_top e.1 ?_
    refine Ax_i2l dX6_within_40 ?_
    refine Ax_al0 dX6_within_41 ?_
    refine Ax_getf kfX6 fX6_39 dX6_within_42 m rfl ?_
    refine Ax_il4 dX6_within_45 ?_
    refine Ax_ialdn dX6_within_47 m13 (by omega) (by omega) ?_
    refine Ax_top e.2.1 ?_
    refine Ax_i2l dX6_within_48 ?_
    refine Ax_cSi dX6_within_49 sX6_110 hin rfl rfl (by decide) (by simp [Value.category]) ?_
    refine Ax_ifeqB (tgt := 65) dX6_within_52 (by decide) (fun c52 => ?_) (fun c52 => ?_)
    · unfold inB at c52
      rw [decide_eq_false_iff_not] at c52
      rw [hs, if_neg c52] at hih
      refine Ax_il3 dX6_within_65 ?_
      refine Ax_is3 dX6_within_66 (Nat.le_of_ble_eq_true rfl) (by rfl) ?_
      refine Ax_inc4_1n dX6_within_67 (Nat.le_of_ble_eq_true rfl) (by rfl) ?_
      refine Ax_goto (tgt := 13) dX6_within_70 (by decide) ?_
      exact hih
    · unfold inB at c52
      rw [decide_eq_true_eq] at c52
      rw [hs, if_pos c52] at hih
      refine Ax_al0 dX6_within_55 ?_
      refine Ax_getf kfX6 fX6_42 dX6_within_56 m rfl ?_
      refine Ax_il4 dX6_within_59 ?_
      refine Ax_ialdn dX6_within_61 m14 (by omega) (by omega) ?_
      refine Ax_top (e.2.2.1) ?_
      refine Ax_goto (tgt := 66) dX6_within_62 (by decide) ?_
      refine Ax_is3 dX6_within_66 (Nat.le_of_ble_eq_true rfl) (by rfl) ?_
      refine Ax_inc4_1n dX6_within_67 (Nat.le_of_ble_eq_true rfl) (by rfl) ?_
      refine Ax_goto (tgt := 13) dX6_within_70 (by decide) ?_
      exact hih
theorem tX6_runOn (hS : vMd h C rt rw dn sz wy cl' bs) (hO : sOk C rt rw dn sz wy) (x : Int32) : AM G mX6_runOn 2 0 [.ref 30, .int x] h (fun r h' => ∃ z, r = some (.int z) ∧ (z = nI (goP C rt dn sz wy x).2 ∧ (vMd h' C rt rw dn sz wy cl' bs ∧ ∃ pt, h'.1 30 = mO (nI (cntF C 24)) cl' (nI rt) (nI rw) (nI dn) (nI sz) (nI wy) (nI (runsOf C rt).length) (nI (clsOf (runsOf C rt) dn sz).length) (nI (cLn C rt dn sz wy).length) pt (nI (stF C rt dn sz wy x)) (nI bs.length)) ∧ xFr 30 1 h h')) := by
  obtain ⟨o0, o1, o2, o3, o4, o5, o6, o7⟩ := id hO
  obtain ⟨i1, i2, i3⟩ := runs_inv o0 rt
  obtain ⟨b1, b2, b3, b4⟩ := hO.bd
  obtain ⟨g1, g2⟩ := goP_is hO x
  obtain ⟨⟨pt, tk, m⟩, hCs, hV, hK, hT, hD, ⟨kn', fi, se, ro, fo, m25, m26, m27, m28, m29, hR⟩, h5, hOut⟩ := id hS
  refine AM.of rfl rfl (Nat.le_of_ble_eq_true rfl) rfl ?_
  have fr : ∀ q, (q ≠ 30) → h.1 q = h.1 q := fun _ _ => rfl
  have zr : h.2 = h.2 := rfl
  refine Ax_ic0 dX6_runOn_0 ?_
  refine Ax_is2 dX6_runOn_1 (Nat.le_of_ble_eq_true rfl) (by rfl) ?_
  refine Ax_al0 dX6_runOn_2 ?_
  refine Ax_ic0 dX6_runOn_3 ?_
  refine Ax_putf kfX6 fX6_202 dX6_runOn_4 m (Nat.le_of_ble_eq_true rfl) (Or.inl rfl) (by rfl) (by rfl) (Ax_up (fun h1 e1 f1 z1 => ?_))
  replace m := e1
  replace fr : ∀ q, (q ≠ 30) → h1.1 q = h.1 q := fun q hq => (f1 q (by omega)).trans (fr q hq)
  replace zr := z1.trans zr
  suffices hloop : ∀ n i k hh x3, k + n = stF C rt dn sz wy x → Go (runsOf C rt) dn sz rt (cLn C rt dn sz wy) x n i (goP C rt dn sz wy x).2 → hh.1 30 = mO (nI (cntF C 24)) cl' (nI rt) (nI rw) (nI dn) (nI sz) (nI wy) (nI (runsOf C rt).length) (nI (clsOf (runsOf C rt) dn sz).length) (nI (cLn C rt dn sz wy).length) pt (nI k) (nI bs.length) → (∀ q, q ≠ 30 → hh.1 q = h.1 q) → hh.2 = h.2 →
      Ax G mX6_runOn 2 0 7 [.ref 30, .int x, .int (nI i), x3] [] hh (fun r h' => ∃ z, r = some (.int z) ∧ (z = nI (goP C rt dn sz wy x).2 ∧ (vMd h' C rt rw dn sz wy cl' bs ∧ ∃ pt, h'.1 30 = mO (nI (cntF C 24)) cl' (nI rt) (nI rw) (nI dn) (nI sz) (nI wy) (nI (runsOf C rt).length) (nI (clsOf (runsOf C rt) dn sz).length) (nI (cLn C rt dn sz wy).length) pt (nI (stF C rt dn sz wy x)) (nI bs.length)) ∧ xFr 30 1 h h')) from
    hloop (stF C rt dn sz wy x) 0 0 h1 _ (Nat.zero_add _) g2 m fr zr
  clear m fr zr
  have n25 := m25; have n26 := m26; have n27 := m27; have n28 := m28; have n29 := m29
  clear m25 m26 m27 m28 m29
  intro n
  induction n with
  | zero => intro i k hh x3 hk hG; exact hG.elim
  | succ n ih =>
    intro i k hh x3 hk hG m fr zr
    rw [Go] at hG
    obtain ⟨hi, hst⟩ := hG
    obtain ⟨l1, l2, l3, l4, l5⟩ := hR i hi
    have m25 := (fr 47 (by omega)).trans n25
    have m26 := (fr 48 (by omega)).trans n26
    have m27 := (fr 49 (by omega)).trans n27
    have m28 := (fr 50 (by omega)).trans n28
    have m29 := (fr 51 (by omega)).trans n29
    refine Ax_al0 dX6_runOn_7 ?_
    refine Ax_dup dX6_runOn_8 rfl ?_
    refine Ax_getf kfX6 fX6_202 dX6_runOn_9 m rfl ?_
    refine Ax_ic1 dX6_runOn_12 ?_
    refine Ax_iaddn dX6_runOn_13 ?_
    refine Ax_putf kfX6 fX6_202 dX6_runOn_14 m (Nat.le_of_ble_eq_true rfl) (Or.inl rfl) (by rfl) (by rfl) (Ax_up (fun h11 e11 f11 z11 => ?_))
    replace m := e11
    replace m25 := (f11 _ (by omega)).trans m25
    replace m26 := (f11 _ (by omega)).trans m26
    replace m27 := (f11 _ (by omega)).trans m27
    replace m28 := (f11 _ (by omega)).trans m28
    replace m29 := (f11 _ (by omega)).trans m29
    replace fr : ∀ q, (q ≠ 30) → h11.1 q = h.1 q := fun q hq => (f11 q (by omega)).trans (fr q hq)
    replace zr := z11.trans zr
    have hfin : k + 1 = stF C rt dn sz wy x → vMd h11 C rt rw dn sz wy cl' bs ∧ ∃ pt, h11.1 30 = mO (nI (cntF C 24)) cl' (nI rt) (nI rw) (nI dn) (nI sz) (nI wy) (nI (runsOf C rt).length) (nI (clsOf (runsOf C rt) dn sz).length) (nI (cLn C rt dn sz wy).length) pt (nI (stF C rt dn sz wy x)) (nI bs.length) := by
      intro q
      rw [← q]
      exact ⟨hS.put (fun q hq => fr q (by omega)) ⟨_, _, m⟩, _, m⟩
    have hF : xFr 30 1 h h11 := ⟨fun q hq => fr q (by omega), zr⟩
    rcases hst with ⟨a1, -, a3, a4⟩ | ⟨a1, -, a3, a4⟩ | ⟨a1, -, a3, a4⟩ | ⟨a1, a2⟩ | ⟨a1, a2, a3, a4, a5, a6, -, a8, a9⟩ | ⟨a1, a2, a3, a4, a5, a6, a7, a8⟩
    · refine Ax_al0 dX6_runOn_17 ?_
      refine Ax_getf kfX6 fX6_70 dX6_runOn_18 m rfl ?_
      refine Ax_il2 dX6_runOn_21 ?_
      refine Ax_ialdn dX6_runOn_22 m25 (by omega) (by omega) ?_
      refine Ax_top (l1.trans (congrArg nI a1)) ?_
      refine Ax_is3 dX6_runOn_23 (Nat.le_of_ble_eq_true rfl) (by rfl) ?_
      refine Ax_il3 dX6_runOn_24 ?_
      refine Ax_ifeqn (tgt := 33) dX6_runOn_25 (by decide) (by omega) (fun c25 => ?_) (fun c25 => ?_)
      rotate_left
      · exact absurd rfl c25
      refine Ax_il3 dX6_runOn_33 ?_
      refine Ax_ifnen (tgt := 50) dX6_runOn_34 (by decide) (by omega) (fun c34 => ?_) (fun c34 => ?_)
      · exact absurd rfl c34
      refine Ax_il1 dX6_runOn_37 ?_
      refine Ax_al0 dX6_runOn_38 ?_
      refine Ax_getf kfX6 fX6_73 dX6_runOn_39 m rfl ?_
      refine Ax_il2 dX6_runOn_42 ?_
      refine Ax_ialdn dX6_runOn_43 m26 (by omega) (by omega) ?_
      refine Ax_top l2 ?_
      refine Ax_cmpge (tgt := 69) dX6_runOn_44 (by decide) (fun c44 => ?_) (fun c44 => ?_)
      · rw [Int32.le_iff_toInt_le] at c44
        refine Ax_il2 dX6_runOn_69 ?_
        refine Ax_ic1 dX6_runOn_70 ?_
        refine Ax_iaddn dX6_runOn_71 ?_
        refine Ax_is2 dX6_runOn_72 (Nat.le_of_ble_eq_true rfl) (by rfl) ?_
        refine Ax_goto (tgt := 168) dX6_runOn_73 (by decide) ?_
        refine Ax_goto (tgt := 7) dX6_runOn_168 (by decide) ?_
        exact ih (i + 1) (k + 1) h11 _ (by omega) (a4 (by omega)) m fr zr
      · rw [Int32.le_iff_toInt_le] at c44
        obtain ⟨e, e1, e2, e3⟩ := a3 (by omega)
        refine Ax_goto (tgt := 60) dX6_runOn_47 (by decide) ?_
        refine Ax_al0 dX6_runOn_60 ?_
        refine Ax_getf kfX6 fX6_76 dX6_runOn_61 m rfl ?_
        refine Ax_il2 dX6_runOn_64 ?_
        refine Ax_ialdn dX6_runOn_65 m27 (by omega) (by omega) ?_
        refine Ax_top (l3.trans e1) ?_
        refine Ax_goto (tgt := 72) dX6_runOn_66 (by decide) ?_
        refine Ax_is2 dX6_runOn_72 (Nat.le_of_ble_eq_true rfl) (by rfl) ?_
        refine Ax_goto (tgt := 168) dX6_runOn_73 (by decide) ?_
        refine Ax_goto (tgt := 7) dX6_runOn_168 (by decide) ?_
        exact ih e (k + 1) h11 _ (by omega) e3 m fr zr
    · refine Ax_al0 dX6_runOn_17 ?_
      refine Ax_getf kfX6 fX6_70 dX6_runOn_18 m rfl ?_
      refine Ax_il2 dX6_runOn_21 ?_
      refine Ax_ialdn dX6_runOn_22 m25 (by omega) (by omega) ?_
      refine Ax_top (l1.trans (congrArg nI a1)) ?_
      refine Ax_is3 dX6_runOn_23 (Nat.le_of_ble_eq_true rfl) (by rfl) ?_
      refine Ax_il3 dX6_runOn_24 ?_
      refine Ax_ifeqn (tgt := 33) dX6_runOn_25 (by decide) (by omega) (fun c25 => ?_) (fun c25 => ?_)
      · exact absurd c25 (by decide)
      refine Ax_il3 dX6_runOn_28 ?_
      refine Ax_ic1 dX6_runOn_29 ?_
      refine Ax_cmpnen (tgt := 76) dX6_runOn_30 (by decide) (by omega) (by omega) (fun c30 => ?_) (fun c30 => ?_)
      · exact absurd rfl c30
      refine Ax_il3 dX6_runOn_33 ?_
      refine Ax_ifnen (tgt := 50) dX6_runOn_34 (by decide) (by omega) (fun c34 => ?_) (fun c34 => ?_)
      rotate_left
      · exact absurd c34 (by decide)
      refine Ax_il1 dX6_runOn_50 ?_
      refine Ax_al0 dX6_runOn_51 ?_
      refine Ax_getf kfX6 fX6_73 dX6_runOn_52 m rfl ?_
      refine Ax_il2 dX6_runOn_55 ?_
      refine Ax_ialdn dX6_runOn_56 m26 (by omega) (by omega) ?_
      refine Ax_top l2 ?_
      refine Ax_cmple (tgt := 69) dX6_runOn_57 (by decide) (fun c57 => ?_) (fun c57 => ?_)
      · rw [Int32.le_iff_toInt_le] at c57
        refine Ax_il2 dX6_runOn_69 ?_
        refine Ax_ic1 dX6_runOn_70 ?_
        refine Ax_iaddn dX6_runOn_71 ?_
        refine Ax_is2 dX6_runOn_72 (Nat.le_of_ble_eq_true rfl) (by rfl) ?_
        refine Ax_goto (tgt := 168) dX6_runOn_73 (by decide) ?_
        refine Ax_goto (tgt := 7) dX6_runOn_168 (by decide) ?_
        exact ih (i + 1) (k + 1) h11 _ (by omega) (a4 (by omega)) m fr zr
      · rw [Int32.le_iff_toInt_le] at c57
        obtain ⟨e, e1, e2, e3⟩ := a3 (by omega)
        refine Ax_al0 dX6_runOn_60 ?_
        refine Ax_getf kfX6 fX6_76 dX6_runOn_61 m rfl ?_
        refine Ax_il2 dX6_runOn_64 ?_
        refine Ax_ialdn dX6_runOn_65 m27 (by omega) (by omega) ?_
        refine Ax_top (l3.trans e1) ?_
        refine Ax_goto (tgt := 72) dX6_runOn_66 (by decide) ?_
        refine Ax_is2 dX6_runOn_72 (Nat.le_of_ble_eq_true rfl) (by rfl) ?_
        refine Ax_goto (tgt := 168) dX6_runOn_73 (by decide) ?_
        refine Ax_goto (tgt := 7) dX6_runOn_168 (by decide) ?_
        exact ih e (k + 1) h11 _ (by omega) e3 m fr zr
    · refine Ax_al0 dX6_runOn_17 ?_
      refine Ax_getf kfX6 fX6_70 dX6_runOn_18 m rfl ?_
      refine Ax_il2 dX6_runOn_21 ?_
      refine Ax_ialdn dX6_runOn_22 m25 (by omega) (by omega) ?_
      refine Ax_top (l1.trans (congrArg nI a1)) ?_
      refine Ax_is3 dX6_runOn_23 (Nat.le_of_ble_eq_true rfl) (by rfl) ?_
      refine Ax_il3 dX6_runOn_24 ?_
      refine Ax_ifeqn (tgt := 33) dX6_runOn_25 (by decide) (by omega) (fun c25 => ?_) (fun c25 => ?_)
      · exact absurd c25 (by decide)
      refine Ax_il3 dX6_runOn_28 ?_
      refine Ax_ic1 dX6_runOn_29 ?_
      refine Ax_cmpnen (tgt := 76) dX6_runOn_30 (by decide) (by omega) (by omega) (fun c30 => ?_) (fun c30 => ?_)
      rotate_left
      · exact absurd c30 (by decide)
      refine Ax_il3 dX6_runOn_76 ?_
      refine Ax_ic2 dX6_runOn_77 ?_
      refine Ax_cmpnen (tgt := 104) dX6_runOn_78 (by decide) (by omega) (by omega) (fun c78 => ?_) (fun c78 => ?_)
      · exact absurd rfl c78
      refine Ax_il1 dX6_runOn_81 ?_
      refine Ax_al0 dX6_runOn_82 ?_
      refine Ax_getf kfX6 fX6_73 dX6_runOn_83 m rfl ?_
      refine Ax_il2 dX6_runOn_86 ?_
      refine Ax_ialdn dX6_runOn_87 m26 (by omega) (by omega) ?_
      refine Ax_top l2 ?_
      refine Ax_cmpne (tgt := 98) dX6_runOn_88 (by decide) (fun c88 => ?_) (fun c88 => ?_)
      · refine Ax_inc2_1n dX6_runOn_98 (Nat.le_of_ble_eq_true rfl) (by rfl) ?_
        refine Ax_goto (tgt := 168) dX6_runOn_101 (by decide) ?_
        refine Ax_goto (tgt := 7) dX6_runOn_168 (by decide) ?_
        exact ih (i + 1) (k + 1) h11 _ (by omega) (a4 c88) m fr zr
      · obtain ⟨d1, d2, d3⟩ := a3 c88
        refine Ax_al0 dX6_runOn_91 ?_
        refine Ax_getf kfX6 fX6_76 dX6_runOn_92 m rfl ?_
        refine Ax_il2 dX6_runOn_95 ?_
        refine Ax_ialdn dX6_runOn_96 m27 (by omega) (by omega) ?_
        refine Ax_top (l3.trans d2) ?_
        exact Ax_iret dX6_runOn_97 rfl rfl ⟨_, rfl, rfl, hfin (by omega), hF⟩
    · refine Ax_al0 dX6_runOn_17 ?_
      refine Ax_getf kfX6 fX6_70 dX6_runOn_18 m rfl ?_
      refine Ax_il2 dX6_runOn_21 ?_
      refine Ax_ialdn dX6_runOn_22 m25 (by omega) (by omega) ?_
      refine Ax_top (l1.trans (congrArg nI a1)) ?_
      refine Ax_is3 dX6_runOn_23 (Nat.le_of_ble_eq_true rfl) (by rfl) ?_
      refine Ax_il3 dX6_runOn_24 ?_
      refine Ax_ifeqn (tgt := 33) dX6_runOn_25 (by decide) (by omega) (fun c25 => ?_) (fun c25 => ?_)
      · exact absurd c25 (by decide)
      refine Ax_il3 dX6_runOn_28 ?_
      refine Ax_ic1 dX6_runOn_29 ?_
      refine Ax_cmpnen (tgt := 76) dX6_runOn_30 (by decide) (by omega) (by omega) (fun c30 => ?_) (fun c30 => ?_)
      rotate_left
      · exact absurd c30 (by decide)
      refine Ax_il3 dX6_runOn_76 ?_
      refine Ax_ic2 dX6_runOn_77 ?_
      refine Ax_cmpnen (tgt := 104) dX6_runOn_78 (by decide) (by omega) (by omega) (fun c78 => ?_) (fun c78 => ?_)
      rotate_left
      · exact absurd c78 (by decide)
      refine Ax_il3 dX6_runOn_104 ?_
      refine Ax_ic3 dX6_runOn_105 ?_
      refine Ax_cmpnen (tgt := 116) dX6_runOn_106 (by decide) (by omega) (by omega) (fun c106 => ?_) (fun c106 => ?_)
      · exact absurd rfl c106
      obtain ⟨d1, d2, d3⟩ := a2
      refine Ax_al0 dX6_runOn_109 ?_
      refine Ax_getf kfX6 fX6_73 dX6_runOn_110 m rfl ?_
      refine Ax_il2 dX6_runOn_113 ?_
      refine Ax_ialdn dX6_runOn_114 m26 (by omega) (by omega) ?_
      refine Ax_top (l2.trans d2) ?_
      exact Ax_iret dX6_runOn_115 rfl rfl ⟨_, rfl, rfl, hfin (by omega), hF⟩
    · have hb : (x.toInt - (gL (cLn C rt dn sz wy) i).2.1.toInt).toNat < 64 := by rw [a3]; omega
      have ed : x - (gL (cLn C rt dn sz wy) i).2.1 = nI (x.toInt - (gL (cLn C rt dn sz wy) i).2.1.toInt).toNat := I_dif (by rw [a3]; exact a5) (by rw [a3]; omega)
      have eb := wb_sbit (n := (gL (cLn C rt dn sz wy) i).2.2.2.1) hb
      refine Ax_al0 dX6_runOn_17 ?_
      refine Ax_getf kfX6 fX6_70 dX6_runOn_18 m rfl ?_
      refine Ax_il2 dX6_runOn_21 ?_
      refine Ax_ialdn dX6_runOn_22 m25 (by omega) (by omega) ?_
      refine Ax_top (l1.trans (congrArg nI a1)) ?_
      refine Ax_is3 dX6_runOn_23 (Nat.le_of_ble_eq_true rfl) (by rfl) ?_
      refine Ax_il3 dX6_runOn_24 ?_
      refine Ax_ifeqn (tgt := 33) dX6_runOn_25 (by decide) (by omega) (fun c25 => ?_) (fun c25 => ?_)
      · exact absurd c25 (by decide)
      refine Ax_il3 dX6_runOn_28 ?_
      refine Ax_ic1 dX6_runOn_29 ?_
      refine Ax_cmpnen (tgt := 76) dX6_runOn_30 (by decide) (by omega) (by omega) (fun c30 => ?_) (fun c30 => ?_)
      rotate_left
      · exact absurd c30 (by decide)
      refine Ax_il3 dX6_runOn_76 ?_
      refine Ax_ic2 dX6_runOn_77 ?_
      refine Ax_cmpnen (tgt := 104) dX6_runOn_78 (by decide) (by omega) (by omega) (fun c78 => ?_) (fun c78 => ?_)
      rotate_left
      · exact absurd c78 (by decide)
      refine Ax_il3 dX6_runOn_104 ?_
      refine Ax_ic3 dX6_runOn_105 ?_
      refine Ax_cmpnen (tgt := 116) dX6_runOn_106 (by decide) (by omega) (by omega) (fun c106 => ?_) (fun c106 => ?_)
      rotate_left
      · exact absurd c106 (by decide)
      refine Ax_il3 dX6_runOn_116 ?_
      refine Ax_ic4 dX6_runOn_117 ?_
      refine Ax_cmpnen (tgt := 156) dX6_runOn_118 (by decide) (by omega) (by omega) (fun c118 => ?_) (fun c118 => ?_)
      · exact absurd rfl c118
      refine Ax_al0 dX6_runOn_121 ?_
      refine Ax_getf kfX6 fX6_79 dX6_runOn_122 m rfl ?_
      refine Ax_il2 dX6_runOn_125 ?_
      refine Ax_laldn dX6_runOn_126 m28 (by omega) (by omega) ?_
      refine Ax_topL l4 ?_
      refine Ax_il1 dX6_runOn_127 ?_
      refine Ax_al0 dX6_runOn_128 ?_
      refine Ax_getf kfX6 fX6_73 dX6_runOn_129 m rfl ?_
      refine Ax_il2 dX6_runOn_132 ?_
      refine Ax_ialdn dX6_runOn_133 m26 (by omega) (by omega) ?_
      refine Ax_top l2 ?_
      refine Ax_isub dX6_runOn_134 ?_
      refine Ax_top ed ?_
      refine Ax_lshr dX6_runOn_135 ?_
      refine Ax_lc1 dX6_runOn_136 ?_
      refine Ax_land dX6_runOn_137 ?_
      refine Ax_topL (eb) ?_
      refine Ax_lc1 dX6_runOn_138 ?_
      refine Ax_lcmp dX6_runOn_139 ?_
      refine Ax_ifneC (tgt := 150) dX6_runOn_140 (by decide) (fun c140 => ?_) (fun c140 => ?_)
      · have hno : ¬ (gL (cLn C rt dn sz wy) i).2.2.2.1.testBit (x.toInt - (gL (cLn C rt dn sz wy) i).2.1.toInt).toNat = true := by
          intro q
          rw [q] at c140
          exact c140 rfl
        refine Ax_inc2_1n dX6_runOn_150 (Nat.le_of_ble_eq_true rfl) (by rfl) ?_
        refine Ax_goto (tgt := 168) dX6_runOn_153 (by decide) ?_
        refine Ax_goto (tgt := 7) dX6_runOn_168 (by decide) ?_
        exact ih (i + 1) (k + 1) h11 _ (by omega) (a9 hno) m fr zr
      · have hyes : (gL (cLn C rt dn sz wy) i).2.2.2.1.testBit (x.toInt - (gL (cLn C rt dn sz wy) i).2.1.toInt).toNat = true := by
          cases q : (gL (cLn C rt dn sz wy) i).2.2.2.1.testBit (x.toInt - (gL (cLn C rt dn sz wy) i).2.1.toInt).toNat
          · rw [q] at c140; exact absurd c140 (by decide)
          · rfl
        obtain ⟨d1, d2, d3⟩ := a8 hyes
        refine Ax_al0 dX6_runOn_143 ?_
        refine Ax_getf kfX6 fX6_76 dX6_runOn_144 m rfl ?_
        refine Ax_il2 dX6_runOn_147 ?_
        refine Ax_ialdn dX6_runOn_148 m27 (by omega) (by omega) ?_
        refine Ax_top (l3.trans d2) ?_
        exact Ax_iret dX6_runOn_149 rfl rfl ⟨_, rfl, rfl, hfin (by omega), hF⟩
    · obtain ⟨d1, d2, d3⟩ := a8
      have hwi := tX6_within (G := G) (rest := rt) m (hV.on (fun q hq => fr q (by omega))) (hK.on (fun q hq => fr q (by omega))) i2 i1 a2 x
      rw [d2] at hwi
      refine Ax_al0 dX6_runOn_17 ?_
      refine Ax_getf kfX6 fX6_70 dX6_runOn_18 m rfl ?_
      refine Ax_il2 dX6_runOn_21 ?_
      refine Ax_ialdn dX6_runOn_22 m25 (by omega) (by omega) ?_
      refine Ax_top (l1.trans (congrArg nI a1)) ?_
      refine Ax_is3 dX6_runOn_23 (Nat.le_of_ble_eq_true rfl) (by rfl) ?_
      refine Ax_il3 dX6_runOn_24 ?_
      refine Ax_ifeqn (tgt := 33) dX6_runOn_25 (by decide) (by omega) (fun c25 => ?_) (fun c25 => ?_)
      · exact absurd c25 (by decide)
      refine Ax_il3 dX6_runOn_28 ?_
      refine Ax_ic1 dX6_runOn_29 ?_
      refine Ax_cmpnen (tgt := 76) dX6_runOn_30 (by decide) (by omega) (by omega) (fun c30 => ?_) (fun c30 => ?_)
      rotate_left
      · exact absurd c30 (by decide)
      refine Ax_il3 dX6_runOn_76 ?_
      refine Ax_ic2 dX6_runOn_77 ?_
      refine Ax_cmpnen (tgt := 104) dX6_runOn_78 (by decide) (by omega) (by omega) (fun c78 => ?_) (fun c78 => ?_)
      rotate_left
      · exact absurd c78 (by decide)
      refine Ax_il3 dX6_runOn_104 ?_
      refine Ax_ic3 dX6_runOn_105 ?_
      refine Ax_cmpnen (tgt := 116) dX6_runOn_106 (by decide) (by omega) (by omega) (fun c106 => ?_) (fun c106 => ?_)
      rotate_left
      · exact absurd c106 (by decide)
      refine Ax_il3 dX6_runOn_116 ?_
      refine Ax_ic4 dX6_runOn_117 ?_
      refine Ax_cmpnen (tgt := 156) dX6_runOn_118 (by decide) (by omega) (by omega) (fun c118 => ?_) (fun c118 => ?_)
      rotate_left
      · exact absurd c118 (by decide)
      refine Ax_al0 dX6_runOn_156 ?_
      refine Ax_al0 dX6_runOn_157 ?_
      refine Ax_getf kfX6 fX6_82 dX6_runOn_158 m rfl ?_
      refine Ax_il2 dX6_runOn_161 ?_
      refine Ax_ialdn dX6_runOn_162 m29 (by omega) (by omega) ?_
      refine Ax_top (l5 a1) ?_
      refine Ax_il1 dX6_runOn_163 ?_
      refine Ax_cVi dX6_runOn_164 vX6_205 kfX6 m hwi rfl rfl (by decide) (by simp [Value.category]) ?_
      exact Ax_iret dX6_runOn_167 rfl rfl ⟨_, rfl, rfl, hfin (by omega), hF⟩
theorem tX6_stepsOf (hS : vMd h C rt rw dn sz wy cl' bs) (hO : sOk C rt rw dn sz wy) (z : Int64) {y : Int32} (hz : z.toInt = y.toInt) : AM G mX6_stepsOf 3 0 [.ref 30, .long z] h (fun r h' => ∃ w, r = some (.int w) ∧ (w = nI (stF C rt dn sz wy y) ∧ vMd h' C rt rw dn sz wy cl' bs ∧ xFr 30 1 h h')) := by
  have i1 := I_lo y
  have i2 := I_hi y
  have ez : z.toInt32 = y := Int32.toInt_inj.mp (by rw [L_toI (by omega) (by omega), hz])
  have hin := tX6_in (G := G) (h := h) z (-2147483648) 2147483647
  rw [L_mn, L_mx, show inB z.toInt (-2147483648) 2147483647 = true by unfold inB; rw [decide_eq_true]; omega] at hin
  obtain ⟨pt, tk, m⟩ := hS.1
  refine AM.of rfl rfl (Nat.le_of_ble_eq_true rfl) rfl ?_
  refine Ax_ll1 dX6_stepsOf_0 ?_
  refine Ax_ldc2 dX6_stepsOf_1 cX6_141 ?_
  refine Ax_ldc2 dX6_stepsOf_4 cX6_192 ?_
  refine Ax_cSi dX6_stepsOf_7 sX6_110 hin rfl rfl (by decide) (by simp [Value.category]) ?_
  refine Ax_ifneB (tgt := 15) dX6_stepsOf_10 (by decide) (fun c10 => ?_) (fun c10 => ?_)
  rotate_left
  · cases c10
  refine Ax_al0 dX6_stepsOf_15 ?_
  refine Ax_ll1 dX6_stepsOf_16 ?_
  refine Ax_l2i dX6_stepsOf_17 ?_
  refine Ax_top ez ?_
  refine Ax_cViH dX6_stepsOf_18 vX6_208 kfX6 m (tX6_runOn (G := G) hS hO y) rfl rfl (by decide) (by simp [Value.category]) (Nat.le_refl _) (fun x18 h1 q1 => ?_)
  obtain ⟨rfl, ⟨hS1, pt1, m1⟩, hF1⟩ := q1
  refine Ax_is3 dX6_stepsOf_21 (Nat.le_of_ble_eq_true rfl) (by rfl) ?_
  refine Ax_al0 dX6_stepsOf_22 ?_
  refine Ax_getf kfX6 fX6_202 dX6_stepsOf_23 m1 rfl ?_
  exact Ax_iret dX6_stepsOf_26 rfl rfl ⟨_, rfl, rfl, hS1, hF1⟩
theorem tX6_stepsNo (hS : vMd h C rt rw dn sz wy cl' bs) (z : Int64) (hz : z.toInt < -2147483648 ∨ 2147483647 < z.toInt) : AM G mX6_stepsOf 3 0 [.ref 30, .long z] h (fun r h' => ∃ w, r = some (.int w) ∧ (w = nI 0 ∧ vMd h' C rt rw dn sz wy cl' bs ∧ xFr 30 1 h h')) := by
  have hin := tX6_in (G := G) (h := h) z (-2147483648) 2147483647
  rw [L_mn, L_mx, show inB z.toInt (-2147483648) 2147483647 = false by unfold inB; rw [decide_eq_false]; omega] at hin
  obtain ⟨pt, tk, m⟩ := hS.1
  refine AM.of rfl rfl (Nat.le_of_ble_eq_true rfl) rfl ?_
  refine Ax_ll1 dX6_stepsOf_0 ?_
  refine Ax_ldc2 dX6_stepsOf_1 cX6_141 ?_
  refine Ax_ldc2 dX6_stepsOf_4 cX6_192 ?_
  refine Ax_cSi dX6_stepsOf_7 sX6_110 hin rfl rfl (by decide) (by simp [Value.category]) ?_
  refine Ax_ifneB (tgt := 15) dX6_stepsOf_10 (by decide) (fun c10 => ?_) (fun c10 => ?_)
  · cases c10
  refine Ax_ic0 dX6_stepsOf_13 ?_
  exact Ax_iret dX6_stepsOf_14 rfl rfl ⟨_, rfl, rfl, hS, xFr.rf⟩
end
