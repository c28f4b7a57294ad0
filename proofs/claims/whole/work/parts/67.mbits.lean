/-! the reference: tests of bits -/
def segB (R : List Run) (f s n t b : Nat) : Prop := ∃ k, s ≤ k ∧ k < s + n ∧ rtg R k = t ∧ (rlo R k).toInt - (rlo R f).toInt ≤ b ∧ (b : Int) ≤ (rhi R k).toInt - (rlo R f).toInt
def isSg (R : List Run) (f s n t z : Nat) : Prop := z < 2 ^ 64 ∧ ∀ b, b < 64 → (z.testBit b = true ↔ segB R f s n t b)
theorem isSg.row {R : List Run} {f s n t z : Nat} (h : isSg R f (f + s) n t z) (hno : ∀ k, f ≤ k → k < f + s → rtg R k ≠ t) : z = rowN R f (s + n) t := by
  refine IsRow.eq (R := R) (f := f) (n := s + n) (t := t) ⟨h.1, fun b hb => (h.2 b hb).trans ⟨?_, ?_⟩⟩ (rowN_is R f (s + n) t)
  · rintro ⟨k, h1, h2, h3⟩
    exact ⟨k, by omega, by omega, h3⟩
  · rintro ⟨k, h1, h2, h3, h4⟩
    by_cases q : k < f + s
    · exact absurd h3 (hno k h1 q)
    · exact ⟨k, by omega, by omega, h3, h4⟩
theorem mLn.row {L : List Ln} {kn fi se fo : Nat → Int32} {ro : Nat → Int64} {k : Nat} {a b : Int32} {cc : Nat} (hL : mLn (L ++ [(k, a, b, 0, cc)]) kn fi se ro fo) (r : Nat) : mLn (L ++ [(k, a, b, r, cc)]) kn fi se (vp_updL ro L.length (lN r)) fo := by
  intro j hj
  have hj2 : j < (L ++ [((k, a, b, 0, cc) : Ln)]).length := by
    rw [List.length_append, List.length_singleton] at hj ⊢
    exact hj
  obtain ⟨h1, h2, h3, h4, h5⟩ := hL j hj2
  rw [List.length_append, List.length_singleton] at hj
  rw [gL_app] at h1 h2 h3 h4 h5 ⊢
  by_cases e : j = L.length
  · subst e
    rw [if_neg (by omega), Nat.sub_self] at h1 h2 h3 h4 h5 ⊢
    rw [uL_s]
    exact ⟨h1, h2, h3, rfl, h5⟩
  · rw [if_pos (by omega)] at h1 h2 h3 h4 h5 ⊢
    rw [uL_n e]
    exact ⟨h1, h2, h3, h4, h5⟩
section
variable {G : xG} {R : List Run} {cs cq rt rw dn sz wy rn kn ln pt tk os : Int32}
theorem bits_seg {Q : Option Value → xH → Prop} {h : xH} {c f n0 t : Nat} {y5 : Int32} (m : h.1 30 = mO cs cq rt rw dn sz wy rn kn ln pt tk os) (hV : mRuns h R) (hl : R.length ≤ 24) (hI : RInv R) (hf : f + n0 ≤ R.length) (ht : t < n0) (hw : (rhi R (f + n0 - 1)).toInt - (rlo R f).toInt < 64)
    (hcont : ∀ z x8 x9, isSg R f (f + t) (n0 - t) (rtg R (f + t)) z → Ax G mX6_layBits 1 0 148 [.ref 30, .int (nI c), .int (nI f), .int (nI (f + n0)), .int (nI (f + t)), .int y5, .long (lN z), .null, x8, x9] [] h Q) :
    ∀ w p z x9, p + w = n0 - t → isSg R f (f + t) p (rtg R (f + t)) z → Ax G mX6_layBits 1 0 69 [.ref 30, .int (nI c), .int (nI f), .int (nI (f + n0)), .int (nI (f + t)), .int y5, .long (lN z), .null, .int (nI (f + t + p)), x9] [] h Q := by
  obtain ⟨lo, hi, tg, wt, m12, m13, m14, m15, hRep⟩ := hV
  intro w
  induction w with
  | zero =>
    intro p z x9 hp hz
    obtain rfl : p = n0 - t := by omega
    refine Ax_il8 dX6_layBits_69 ?_
    refine Ax_il3 dX6_layBits_71 ?_
    refine Ax_cmpgen (tgt := 148) dX6_layBits_72 (by decide) (by omega) (by omega) (fun c72 => ?_) (fun c72 => ?_)
    · exact hcont _ _ _ hz
    · omega
  | succ w ih =>
    intro p z x9 hp hz
    have hq : f + t + p < R.length := by omega
    have rq := hRep (f + t + p) hq
    have rf := hRep f (by omega)
    have rk := hRep (f + t) (by omega)
    have hq1 := (hI.1 (f + t + p) hq)
    have hq2 := (hI.1 (f + t) (by omega)).2
    have i1 := I_lo (rlo R (f + t + p)); have i2 := I_hi (rlo R (f + t + p)); have i3 := I_lo (rhi R (f + t + p)); have i4 := I_hi (rhi R (f + t + p)); have i5 := I_lo (rlo R f); have i6 := I_hi (rlo R f)
    have m1 := rlo_mono hI (t + p) f (by omega)
    rw [show f + (t + p) = f + t + p by omega] at m1
    have m3 : (rhi R (f + t + p)).toInt ≤ (rhi R (f + n0 - 1)).toInt := by
      rcases (show f + t + p = f + n0 - 1 ∨ f + t + p < f + n0 - 1 by omega) with q | q
      · rw [q]; exact Int.le_refl _
      · have := run_ord hI q (by omega)
        have := (hI.1 (f + n0 - 1) (by omega)).1
        omega
    obtain ⟨a, ha⟩ : ∃ a : Nat, (a : Int) = (rlo R (f + t + p)).toInt - (rlo R f).toInt := ⟨((rlo R (f + t + p)).toInt - (rlo R f).toInt).toNat, by omega⟩
    obtain ⟨e, he⟩ : ∃ e : Nat, (e : Int) = (rhi R (f + t + p)).toInt - (rlo R f).toInt := ⟨((rhi R (f + t + p)).toInt - (rlo R f).toInt).toNat, by omega⟩
    have ea : rlo R (f + t + p) - rlo R f = nI a := by rw [I_dif m1 (by omega)]; congr 1; omega
    have ee : rhi R (f + t + p) - rlo R f = nI e := by rw [I_dif (by omega) (by omega)]; congr 1; omega
    have hnx : ∀ z' x9, isSg R f (f + t) (p + 1) (rtg R (f + t)) z' → Ax G mX6_layBits 1 0 142 [.ref 30, .int (nI c), .int (nI f), .int (nI (f + n0)), .int (nI (f + t)), .int y5, .long (lN z'), .null, .int (nI (f + t + p)), x9] [] h Q := by
      intro z' x9 hz'
      refine Ax_inc8_1n dX6_layBits_142 (Nat.le_of_ble_eq_true rfl) (by rfl) ?_
      refine Ax_goto (tgt := 69) dX6_layBits_145 (by decide) ?_
      exact ih (p + 1) z' x9 (by omega) hz'
    refine Ax_il8 dX6_layBits_69 ?_
    refine Ax_il3 dX6_layBits_71 ?_
    refine Ax_cmpgen (tgt := 148) dX6_layBits_72 (by decide) (by omega) (by omega) (fun c72 => ?_) (fun c72 => ?_)
    · omega
    refine Ax_al0 dX6_layBits_75 ?_
    refine Ax_getf kfX6 fX6_36 dX6_layBits_76 m rfl ?_
    refine Ax_il8 dX6_layBits_79 ?_
    refine Ax_ialdn dX6_layBits_81 m12 (by omega) (by omega) ?_
    refine Ax_top rq.1 ?_
    refine Ax_al0 dX6_layBits_82 ?_
    refine Ax_getf kfX6 fX6_36 dX6_layBits_83 m rfl ?_
    refine Ax_il2 dX6_layBits_86 ?_
    refine Ax_ialdn dX6_layBits_87 m12 (by omega) (by omega) ?_
    refine Ax_top rf.1 ?_
    refine Ax_isub dX6_layBits_88 ?_
    refine Ax_top (ea) ?_
    refine Ax_is9 dX6_layBits_89 (Nat.le_of_ble_eq_true rfl) (by rfl) ?_
    by_cases hT : rtg R (f + t + p) = rtg R (f + t)
    rotate_left
    · refine Ax_il9 dX6_layBits_91 ?_
      refine Ax_al0 dX6_layBits_93 ?_
      refine Ax_getf kfX6 fX6_39 dX6_layBits_94 m rfl ?_
      refine Ax_il8 dX6_layBits_97 ?_
      refine Ax_ialdn dX6_layBits_99 m13 (by omega) (by omega) ?_
      refine Ax_top rq.2.1 ?_
      refine Ax_al0 dX6_layBits_100 ?_
      refine Ax_getf kfX6 fX6_36 dX6_layBits_101 m rfl ?_
      refine Ax_il2 dX6_layBits_104 ?_
      refine Ax_ialdn dX6_layBits_105 m12 (by omega) (by omega) ?_
      refine Ax_top rf.1 ?_
      refine Ax_isub dX6_layBits_106 ?_
      refine Ax_top (ee) ?_
      refine Ax_cmpgtn (tgt := 142) dX6_layBits_107 (by decide) (by omega) (by omega) (fun c107 => ?_) (fun c107 => ?_)
      · omega
      refine Ax_al0 dX6_layBits_110 ?_
      refine Ax_getf kfX6 fX6_42 dX6_layBits_111 m rfl ?_
      refine Ax_il8 dX6_layBits_114 ?_
      refine Ax_ialdn dX6_layBits_116 m14 (by omega) (by omega) ?_
      refine Ax_al0 dX6_layBits_117 ?_
      refine Ax_getf kfX6 fX6_42 dX6_layBits_118 m rfl ?_
      refine Ax_il4 dX6_layBits_121 ?_
      refine Ax_ialdn dX6_layBits_123 m14 (by omega) (by omega) ?_
      refine Ax_cmpne (tgt := 142) dX6_layBits_124 (by decide) (fun c124 => ?_) (fun c124 => ?_)
      rotate_left
      · rw [rq.2.2.1, rk.2.2.1] at c124
        exact absurd (nI_inj (by omega) (by omega) c124) hT
      refine hnx z _ ⟨hz.1, fun b hb => (hz.2 b hb).trans ⟨?_, ?_⟩⟩
      · rintro ⟨k, h1, h2, h3⟩
        exact ⟨k, h1, by omega, h3⟩
      · rintro ⟨k, h1, h2, h3, h4⟩
        rcases (show k = f + t + p ∨ k < f + t + p by omega) with q | q
        · subst q; exact absurd h3 hT
        · exact ⟨k, h1, by omega, h3, h4⟩
    suffices hin : ∀ w j z', w + j = e + 1 - a → z' < 2 ^ 64 → (∀ b, b < 64 → (z'.testBit b = true ↔ (z.testBit b = true ∨ (a ≤ b ∧ b < a + j)))) → Ax G mX6_layBits 1 0 91 [.ref 30, .int (nI c), .int (nI f), .int (nI (f + n0)), .int (nI (f + t)), .int y5, .long (lN z'), .null, .int (nI (f + t + p)), .int (nI (a + j))] [] h Q from
      hin (e + 1 - a) 0 z rfl hz.1 (fun b hb => ⟨Or.inl, fun q => q.elim id (fun q => by omega)⟩)
    intro w
    induction w with
    | zero =>
      intro j z' hj hz1 hz2
      refine Ax_il9 dX6_layBits_91 ?_
      refine Ax_al0 dX6_layBits_93 ?_
      refine Ax_getf kfX6 fX6_39 dX6_layBits_94 m rfl ?_
      refine Ax_il8 dX6_layBits_97 ?_
      refine Ax_ialdn dX6_layBits_99 m13 (by omega) (by omega) ?_
      refine Ax_top rq.2.1 ?_
      refine Ax_al0 dX6_layBits_100 ?_
      refine Ax_getf kfX6 fX6_36 dX6_layBits_101 m rfl ?_
      refine Ax_il2 dX6_layBits_104 ?_
      refine Ax_ialdn dX6_layBits_105 m12 (by omega) (by omega) ?_
      refine Ax_top rf.1 ?_
      refine Ax_isub dX6_layBits_106 ?_
      refine Ax_top (ee) ?_
      refine Ax_cmpgtn (tgt := 142) dX6_layBits_107 (by decide) (by omega) (by omega) (fun c107 => ?_) (fun c107 => ?_)
      rotate_left
      · omega
      refine hnx z' _ ⟨hz1, fun b hb => (hz2 b hb).trans ?_⟩
      rw [hz.2 b hb]
      constructor
      · rintro (⟨k, h1, h2, h3⟩ | ⟨h1, h2⟩)
        · exact ⟨k, h1, by omega, h3⟩
        · exact ⟨f + t + p, by omega, by omega, hT, by omega, by omega⟩
      · rintro ⟨k, h1, h2, h3, h4, h5⟩
        rcases (show k = f + t + p ∨ k < f + t + p by omega) with q | q
        · subst q; exact Or.inr ⟨by omega, by omega⟩
        · exact Or.inl ⟨k, h1, by omega, h3, h4, h5⟩
    | succ w ihw =>
      intro j z' hj hz1 hz2
      have hb : a + j < 64 := by omega
      have h2p : 1 * 2 ^ (a + j) < 2 ^ 64 := by rw [Nat.one_mul]; exact wb_lt2 hb
      have hor : lN z' ||| lN (1 * 2 ^ (a + j)) = lN (z' ||| 2 ^ (a + j)) := by rw [wb_or hz1 h2p, Nat.one_mul]
      refine Ax_il9 dX6_layBits_91 ?_
      refine Ax_al0 dX6_layBits_93 ?_
      refine Ax_getf kfX6 fX6_39 dX6_layBits_94 m rfl ?_
      refine Ax_il8 dX6_layBits_97 ?_
      refine Ax_ialdn dX6_layBits_99 m13 (by omega) (by omega) ?_
      refine Ax_top rq.2.1 ?_
      refine Ax_al0 dX6_layBits_100 ?_
      refine Ax_getf kfX6 fX6_36 dX6_layBits_101 m rfl ?_
      refine Ax_il2 dX6_layBits_104 ?_
      refine Ax_ialdn dX6_layBits_105 m12 (by omega) (by omega) ?_
      refine Ax_top rf.1 ?_
      refine Ax_isub dX6_layBits_106 ?_
      refine Ax_top (ee) ?_
      refine Ax_cmpgtn (tgt := 142) dX6_layBits_107 (by decide) (by omega) (by omega) (fun c107 => ?_) (fun c107 => ?_)
      · omega
      refine Ax_al0 dX6_layBits_110 ?_
      refine Ax_getf kfX6 fX6_42 dX6_layBits_111 m rfl ?_
      refine Ax_il8 dX6_layBits_114 ?_
      refine Ax_ialdn dX6_layBits_116 m14 (by omega) (by omega) ?_
      refine Ax_al0 dX6_layBits_117 ?_
      refine Ax_getf kfX6 fX6_42 dX6_layBits_118 m rfl ?_
      refine Ax_il4 dX6_layBits_121 ?_
      refine Ax_ialdn dX6_layBits_123 m14 (by omega) (by omega) ?_
      refine Ax_cmpne (tgt := 142) dX6_layBits_124 (by decide) (fun c124 => ?_) (fun c124 => ?_)
      · rw [rq.2.2.1, rk.2.2.1, hT] at c124
        exact absurd rfl c124
      refine Ax_ll6 dX6_layBits_127 ?_
      refine Ax_lc1 dX6_layBits_129 ?_
      refine Ax_il9 dX6_layBits_130 ?_
      refine Ax_lshl dX6_layBits_132 ?_
      refine Ax_topL (wb_shl 1 hb) ?_
      refine Ax_lor dX6_layBits_133 ?_
      refine Ax_topL (hor) ?_
      refine Ax_ls6 dX6_layBits_134 (Nat.le_of_ble_eq_true rfl) (by rfl) ?_
      refine Ax_inc9_1n dX6_layBits_136 (Nat.le_of_ble_eq_true rfl) (by rfl) ?_
      refine Ax_goto (tgt := 91) dX6_layBits_139 (by decide) ?_
      refine ihw (j + 1) _ (by omega) (row_lt hz1 hb) (fun b hb2 => ?_)
      rw [Nat.testBit_or, Bool.or_eq_true, Nat.testBit_two_pow, decide_eq_true_eq, hz2 b hb2]
      constructor
      · rintro ((q | ⟨q1, q2⟩) | q)
        · exact Or.inl q
        · exact Or.inr ⟨q1, by omega⟩
        · exact Or.inr ⟨by omega, by omega⟩
      · rintro (q | ⟨q1, q2⟩)
        · exact Or.inl (Or.inl q)
        · by_cases q3 : b = a + j
          · exact Or.inr q3.symm
          · exact Or.inl (Or.inr ⟨q1, by omega⟩)
theorem tX6_layBits {h : xH} {L : List Ln} {c f n0 : Nat} (m : h.1 30 = mO cs cq rt rw dn sz wy rn kn (nI L.length) pt tk os) (hL : mCode h L) (hV : mRuns h R) (hl : R.length ≤ 24) (hI : RInv R) (hf : f + n0 ≤ R.length) (hn0 : 0 < n0) (hw : (rhi R (f + n0 - 1)).toInt - (rlo R f).toInt < 64) (hn : L.length + n0 < 400) : AM G mX6_layBits 1 0 [.ref 30, .int (nI c), .int (nI f), .int (nI (f + n0))] h
    (fun r h' => r = none ∧ (h'.1 30 = mO cs cq rt rw dn sz wy rn kn (nI (L ++ bitLs R (rlo R f) c f n0 n0).length) pt tk os ∧ mCode h' (L ++ bitLs R (rlo R f) c f n0 n0) ∧ xFm 47 52 h h')) := by
  refine AM.of rfl rfl (Nat.le_of_ble_eq_true rfl) rfl ?_
  refine Ax_il2 dX6_layBits_0 ?_
  refine Ax_is4 dX6_layBits_1 (Nat.le_of_ble_eq_true rfl) (by rfl) ?_
  suffices hloop : ∀ w t hh x5 x6 x7 x8 x9, t + w = n0 → hh.1 30 = mO cs cq rt rw dn sz wy rn kn (nI (L ++ bitLs R (rlo R f) c f n0 t).length) pt tk os → mCode hh (L ++ bitLs R (rlo R f) c f n0 t) → xFm 47 52 h hh → Ax G mX6_layBits 1 0 3 [.ref 30, .int (nI c), .int (nI f), .int (nI (f + n0)), .int (nI (f + t)), x5, x6, x7, x8, x9] [] hh
      (fun r h' => r = none ∧ (h'.1 30 = mO cs cq rt rw dn sz wy rn kn (nI (L ++ bitLs R (rlo R f) c f n0 n0).length) pt tk os ∧ mCode h' (L ++ bitLs R (rlo R f) c f n0 n0) ∧ xFm 47 52 h h')) from
    hloop n0 0 h _ _ _ _ _ (Nat.zero_add _) (by rw [bitLs, List.append_nil]; exact m) (by rw [bitLs, List.append_nil]; exact hL) xFm.rf
  intro w
  induction w with
  | zero =>
    intro t hh x5 x6 x7 x8 x9 ht m hL hF
    obtain rfl : t = n0 := by omega
    refine Ax_il4 dX6_layBits_3 ?_
    refine Ax_il3 dX6_layBits_5 ?_
    refine Ax_cmpgen (tgt := 186) dX6_layBits_6 (by decide) (by omega) (by omega) (fun c6 => ?_) (fun c6 => ?_)
    · exact Ax_ret dX6_layBits_186 rfl ⟨rfl, m, hL, hF⟩
    · omega
  | succ w ih =>
    intro t hh x5 x6 x7 x8 x9 ht m hL hF
    have hV1 := hV.on (h' := hh) (fun q hq => hF.1 q (by omega))
    obtain ⟨lo, hi, tg, wt, m12, m13, m14, m15, hRep⟩ := id hV1
    have rk := hRep (f + t) (by omega)
    have rf := hRep f (by omega)
    have hbl := bitLs_len (R := R) (b := rlo R f) (c := c) (f := f) (n0 := n0) t
    have hdc := dcnt_le (T := rtg R) (i := f) t
    have hlen : (L ++ bitLs R (rlo R f) c f n0 t).length = L.length + dcnt (rtg R) f t := by rw [List.length_append, hbl]
    refine Ax_il4 dX6_layBits_3 ?_
    refine Ax_il3 dX6_layBits_5 ?_
    refine Ax_cmpgen (tgt := 186) dX6_layBits_6 (by decide) (by omega) (by omega) (fun c6 => ?_) (fun c6 => ?_)
    · omega
    refine Ax_ic0 dX6_layBits_9 ?_
    refine Ax_is5 dX6_layBits_10 (Nat.le_of_ble_eq_true rfl) (by rfl) ?_
    refine Ax_il2 dX6_layBits_12 ?_
    refine Ax_is6 dX6_layBits_13 (Nat.le_of_ble_eq_true rfl) (by rfl) ?_
    suffices hmet : ∀ s q, q + s = t → Ax G mX6_layBits 1 0 15 [.ref 30, .int (nI c), .int (nI f), .int (nI (f + n0)), .int (nI (f + t)), .int (nI (metQ (rtg R) f (f + t) q).toNat), .int (nI (f + q)), x7, x8, x9] [] hh (fun r h' => r = none ∧ (h'.1 30 = mO cs cq rt rw dn sz wy rn kn (nI (L ++ bitLs R (rlo R f) c f n0 n0).length) pt tk os ∧ mCode h' (L ++ bitLs R (rlo R f) c f n0 n0) ∧ xFm 47 52 h h')) from
      hmet t 0 (Nat.zero_add _)
    intro s
    induction s with
    | succ s ihs =>
      intro q hq
      have rq := hRep (f + q) (by omega)
      have hq1 := (hI.1 (f + q) (by omega)).2
      have hq2 := (hI.1 (f + t) (by omega)).2
      refine Ax_il6 dX6_layBits_15 ?_
      refine Ax_il4 dX6_layBits_17 ?_
      refine Ax_cmpgen (tgt := 57) dX6_layBits_19 (by decide) (by omega) (by omega) (fun c19 => ?_) (fun c19 => ?_)
      · omega
      refine Ax_il5 dX6_layBits_22 ?_
      refine Ax_ifneB (tgt := 44) dX6_layBits_24 (by decide) (fun c24 => ?_) (fun c24 => ?_)
      · have e : metQ (rtg R) f (f + t) (q + 1) = true := by rw [metQ_succ, c24]; rfl
        refine Ax_ic1 dX6_layBits_44 ?_
        refine Ax_goto (tgt := 49) dX6_layBits_45 (by decide) ?_
        refine Ax_is5 dX6_layBits_49 (Nat.le_of_ble_eq_true rfl) (by rfl) ?_
        refine Ax_inc6_1n dX6_layBits_51 (Nat.le_of_ble_eq_true rfl) (by rfl) ?_
        refine Ax_goto (tgt := 15) dX6_layBits_54 (by decide) ?_
        have hih := ihs (q + 1) (by omega)
        rw [e] at hih
        exact hih
      · refine Ax_al0 dX6_layBits_27 ?_
        refine Ax_getf kfX6 fX6_42 dX6_layBits_28 m rfl ?_
        refine Ax_il6 dX6_layBits_31 ?_
        refine Ax_ialdn dX6_layBits_33 m14 (by omega) (by omega) ?_
        refine Ax_al0 dX6_layBits_34 ?_
        refine Ax_getf kfX6 fX6_42 dX6_layBits_35 m rfl ?_
        refine Ax_il4 dX6_layBits_38 ?_
        refine Ax_ialdn dX6_layBits_40 m14 (by omega) (by omega) ?_
        refine Ax_cmpne (tgt := 48) dX6_layBits_41 (by decide) (fun c41 => ?_) (fun c41 => ?_)
        · have e : metQ (rtg R) f (f + t) (q + 1) = false := by
            rw [metQ_succ, c24, Bool.false_or, beq_eq_false_iff_ne]
            intro w
            rw [rq.2.2.1, rk.2.2.1, w] at c41
            exact c41 rfl
          refine Ax_ic0 dX6_layBits_48 ?_
          refine Ax_is5 dX6_layBits_49 (Nat.le_of_ble_eq_true rfl) (by rfl) ?_
          refine Ax_inc6_1n dX6_layBits_51 (Nat.le_of_ble_eq_true rfl) (by rfl) ?_
          refine Ax_goto (tgt := 15) dX6_layBits_54 (by decide) ?_
          have hih := ihs (q + 1) (by omega)
          rw [e] at hih
          exact hih
        · have e : metQ (rtg R) f (f + t) (q + 1) = true := by
            rw [metQ_succ, c24, Bool.false_or, beq_iff_eq]
            rw [rq.2.2.1, rk.2.2.1] at c41
            exact nI_inj (by omega) (by omega) c41
          refine Ax_ic1 dX6_layBits_44 ?_
          refine Ax_goto (tgt := 49) dX6_layBits_45 (by decide) ?_
          refine Ax_is5 dX6_layBits_49 (Nat.le_of_ble_eq_true rfl) (by rfl) ?_
          refine Ax_inc6_1n dX6_layBits_51 (Nat.le_of_ble_eq_true rfl) (by rfl) ?_
          refine Ax_goto (tgt := 15) dX6_layBits_54 (by decide) ?_
          have hih := ihs (q + 1) (by omega)
          rw [e] at hih
          exact hih
    | zero =>
      intro q hq
      obtain rfl : q = t := by omega
      rw [metQ_met]
      refine Ax_il6 dX6_layBits_15 ?_
      refine Ax_il4 dX6_layBits_17 ?_
      refine Ax_cmpgen (tgt := 57) dX6_layBits_19 (by decide) (by omega) (by omega) (fun c19 => ?_) (fun c19 => ?_)
      rotate_left
      · omega
      refine Ax_il5 dX6_layBits_57 ?_
      refine Ax_ifneB (tgt := 180) dX6_layBits_59 (by decide) (fun c59 => ?_) (fun c59 => ?_)
      · have e : bitLs R (rlo R f) c f n0 (q + 1) = bitLs R (rlo R f) c f n0 q := by rw [bitLs, if_pos c59, List.append_nil]
        refine Ax_inc4_1n dX6_layBits_180 (Nat.le_of_ble_eq_true rfl) (by rfl) ?_
        refine Ax_goto (tgt := 3) dX6_layBits_183 (by decide) ?_
        exact ih (q + 1) hh _ _ _ _ _ (by omega) (by rw [e]; exact m) (by rw [e]; exact hL) hF
      have e : bitLs R (rlo R f) c f n0 (q + 1) = bitLs R (rlo R f) c f n0 q ++ [(4, rlo R f, nI (rtg R (f + q)), rowN R f n0 (rtg R (f + q)), c)] := by rw [bitLs, if_neg (by rw [c59]; decide)]
      refine Ax_lc0 dX6_layBits_62 ?_
      refine Ax_ls6 dX6_layBits_63 (Nat.le_of_ble_eq_true rfl) (by rfl) ?_
      refine Ax_il4 dX6_layBits_65 ?_
      refine Ax_is8 dX6_layBits_67 (Nat.le_of_ble_eq_true rfl) (by rfl) ?_
      refine bits_seg m hV1 hl hI hf (by omega) hw (fun z x8 x9 hz => ?_) (n0 - q) 0 0 _ (Nat.zero_add _) ⟨Nat.two_pow_pos 64, fun b hb => ⟨fun w => by simp at w, fun ⟨k, h1, h2, _⟩ => by omega⟩⟩
      have hrow := hz.row (fun k h1 h2 w => by
        have := (met_iff (T := rtg R) (i := f) (k := f + q) (by omega)).mpr ⟨k, h1, h2, w⟩
        rw [c59] at this
        cases this)
      rw [show q + (n0 - q) = n0 by omega] at hrow
      subst hrow
      refine Ax_al0 dX6_layBits_148 ?_
      refine Ax_ic4 dX6_layBits_149 ?_
      refine Ax_al0 dX6_layBits_150 ?_
      refine Ax_getf kfX6 fX6_36 dX6_layBits_151 m rfl ?_
      refine Ax_il2 dX6_layBits_154 ?_
      refine Ax_ialdn dX6_layBits_155 m12 (by omega) (by omega) ?_
      refine Ax_top rf.1 ?_
      refine Ax_al0 dX6_layBits_156 ?_
      refine Ax_getf kfX6 fX6_42 dX6_layBits_157 m rfl ?_
      refine Ax_il4 dX6_layBits_160 ?_
      refine Ax_ialdn dX6_layBits_162 m14 (by omega) (by omega) ?_
      refine Ax_top rk.2.2.1 ?_
      refine Ax_il1 dX6_layBits_163 ?_
      refine Ax_cVv dX6_layBits_164 vX6_168 kfX6 m (tX6_emit (G := G) m hL (by omega) 4 (rlo R f) (nI (rtg R (f + q))) (c := nI c) (cc := c) (fun q => by omega)) rfl rfl (by decide) (by simp [Value.category]) (Nat.le_refl _) (fun h61 q61 => ?_)
      obtain ⟨m1, hL1, hF1⟩ := q61
      obtain ⟨kn', fi, se, ro, fo, m25, m26, m27, m28, m29, hR2⟩ := hL1
      have hl1 : (L ++ bitLs R (rlo R f) c f n0 q ++ [((4, rlo R f, nI (rtg R (f + q)), 0, c) : Ln)]).length = L.length + dcnt (rtg R) f q + 1 := by rw [List.length_append, hlen]; rfl
      rw [hl1] at m1
      have hR3 := hR2.row (rowN R f n0 (rtg R (f + q)))
      rw [hlen] at hR3
      have hl2 : (L ++ bitLs R (rlo R f) c f n0 (q + 1)).length = L.length + dcnt (rtg R) f q + 1 := by rw [e, ← List.append_assoc, List.length_append, hlen]; rfl
      have m128 := m28
      have fr : ∀ q, (q < 30 ∨ (30 < q ∧ q < 47) ∨ 52 ≤ q) → h61.1 q = h61.1 q := fun _ _ => rfl
      have zr : h61.2 = h61.2 := rfl
      refine Ax_al0 dX6_layBits_167 ?_
      refine Ax_getf kfX6 fX6_79 dX6_layBits_168 m1 rfl ?_
      refine Ax_al0 dX6_layBits_171 ?_
      refine Ax_getf kfX6 fX6_158 dX6_layBits_172 m1 rfl ?_
      refine Ax_ic1 dX6_layBits_175 ?_
      refine Ax_isubn dX6_layBits_176 (by omega) ?_
      refine Ax_ll6 dX6_layBits_177 ?_
      refine Ax_lastn dX6_layBits_179 m128 (by omega) (by omega) (Ax_up (fun h71 e71 f71 z71 => ?_))
      replace m1 := (f71 _ (by omega)).trans m1
      replace m128 := e71
      replace m25 := (f71 _ (by omega)).trans m25
      replace m26 := (f71 _ (by omega)).trans m26
      replace m27 := (f71 _ (by omega)).trans m27
      replace m29 := (f71 _ (by omega)).trans m29
      replace fr : ∀ q, (q < 30 ∨ (30 < q ∧ q < 47) ∨ 52 ≤ q) → h71.1 q = h61.1 q := fun q hq => (f71 q (by omega)).trans (fr q hq)
      replace zr := z71.trans zr
      refine Ax_inc4_1n dX6_layBits_180 (Nat.le_of_ble_eq_true rfl) (by rfl) ?_
      refine Ax_goto (tgt := 3) dX6_layBits_183 (by decide) ?_
      exact ih (q + 1) _ _ _ _ _ _ (by omega) (by rw [hl2]; exact m1) ⟨_, _, _, _, _, m25, m26, m27, m128, m29, by rw [e, ← List.append_assoc]; exact hR3⟩ ((hF.tr hF1).tr ⟨fr, zr⟩)
end
