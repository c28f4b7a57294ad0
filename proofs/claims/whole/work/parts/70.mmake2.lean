/-! the reference: make -/
def mDp (h : xH) (R : List Run) (dens size way : Nat) : Prop := ∃ dp, h.1 46 = cI 0 24 dp ∧ ∀ c, c < (clsOf R dens size).length → dp c = nI (qa R dens size way c)
theorem mDp.on {h h' : xH} {R : List Run} {dens size way : Nat} (hS : mDp h R dens size way) (hF : ∀ q, q = 46 → h'.1 q = h.1 q) : mDp h' R dens size way := by
  obtain ⟨dp, h1, h2⟩ := hS
  exact ⟨dp, (hF _ rfl).trans h1, h2⟩
/-- the reference behind make -/
def vMd (h : xH) (C : Cs) (rt rw dn sz wy : Nat) (cl' : Int32) (bs : List Nat) : Prop :=
  (∃ pt tk, h.1 30 = mO (nI (cntF C 24)) cl' (nI rt) (nI rw) (nI dn) (nI sz) (nI wy) (nI (runsOf C rt).length) (nI (clsOf (runsOf C rt) dn sz).length) (nI (cLn C rt dn sz wy).length) pt tk (nI bs.length)) ∧ mCs h C ∧ mRuns h (runsOf C rt) ∧ mCls h (runsOf C rt) dn sz ∧ mTree h (runsOf C rt) dn sz wy ∧ mDp h (runsOf C rt) dn sz wy ∧ mCode h (cLn C rt dn sz wy) ∧ mRw5 h ∧ mOut h bs
theorem L_mn32 : (-2147483648 : Int32).toInt64 = -2147483648 := by decide
theorem L_mx32 : (2147483647 : Int32).toInt64 = 2147483647 := by decide
section
variable {G : xG} {h h' : xH} {C : Cs} {rt rw dn sz wy : Nat} {cl' : Int32} {bs : List Nat}
theorem vMd.raw (hS : vMd h C rt rw dn sz wy cl' bs) : vM h C rt rw dn sz wy cl' bs := by
  obtain ⟨⟨pt, tk, m⟩, h1, h2, h3, h4, ⟨dp, h5, -⟩, ⟨kn, fi, se, ro, fo, g1, g2, g3, g4, g5, -⟩, h7, h8⟩ := hS
  exact ⟨⟨_, _, _, pt, tk, m⟩, h1, ⟨h2.raw, h3.raw, h4.raw, ⟨dp, kn, fi, se, ro, fo, h5, g1, g2, g3, g4, g5⟩, h7⟩, h8⟩
/-- all but the object, what is left over of the stack, and what was printed, stays -/
theorem vMd.put (hS : vMd h C rt rw dn sz wy cl' bs) (hF : ∀ q, (31 ≤ q ∧ q < 59) → h'.1 q = h.1 q) (m : ∃ pt tk, h'.1 30 = mO (nI (cntF C 24)) cl' (nI rt) (nI rw) (nI dn) (nI sz) (nI wy) (nI (runsOf C rt).length) (nI (clsOf (runsOf C rt) dn sz).length) (nI (cLn C rt dn sz wy).length) pt tk (nI bs.length)) : vMd h' C rt rw dn sz wy cl' bs := by
  obtain ⟨-, h1, h2, h3, h4, h5, h6, h7, h8⟩ := hS
  exact ⟨m, h1.on (fun q hq => hF q (by omega)), h2.on (fun q hq => hF q (by omega)), h3.on (fun q hq => hF q (by omega)), h4.on (fun q hq => hF q (by omega)), h5.on (fun q hq => hF q (by omega)), h6.on (fun q hq => hF q (by omega)), h7.on (fun q hq => hF q (by omega)), h8.on (fun q hq => hF q (by omega))⟩
theorem tX6_make (hS : vM h C rt rw dn sz wy cl' bs) (hO : sOk C rt rw dn sz wy) : AM G mX6_make 3 0 [.ref 30] h (fun r h' => r = none ∧ (vMd h' C rt rw dn sz wy cl' bs ∧ xFr 30 29 h h')) := by
  obtain ⟨o0, o1, o2, o3, o4, o5, o6, o7⟩ := id hO
  obtain ⟨i1, i2, i3⟩ := runs_inv o0 rt
  have hlk := Nat.le_trans (cls_len (runsOf C rt) dn sz) i2
  obtain ⟨⟨rn, kn, ln, pt, tk, m⟩, hCs, ⟨w1, w2, w3, w4, w5⟩, hOut⟩ := hS
  refine AM.of rfl rfl (Nat.le_of_ble_eq_true rfl) rfl ?_
  refine Ax_al0 dX6_make_0 ?_
  refine Ax_cVv dX6_make_1 vX6_183 kfX6 m (tX6_makeRuns (G := G) o1 o0 m hCs w1) rfl rfl (by decide) (by simp [Value.category]) (Nat.le_refl _) (fun h1 q1 => ?_)
  obtain ⟨m1, hR1, hF1, hz1⟩ := q1
  refine Ax_al0 dX6_make_4 ?_
  refine Ax_cVv dX6_make_5 vX6_186 kfX6 m1 (tX6_makeClusters (G := G) m1 hR1 (w2.on (fun q hq => hF1 q (by omega))) i2 i1 o4 o6) rfl rfl (by decide) (by simp [Value.category]) (Nat.le_refl _) (fun h2 q2 => ?_)
  obtain ⟨m2, hK2, hF2, hz2⟩ := q2
  have hR2 := hR1.on (h' := h2) (fun q hq => hF2 q (by omega))
  refine Ax_al0 dX6_make_8 ?_
  refine Ax_cVv dX6_make_9 vX6_189 kfX6 m2 (tX6_makeTree (G := G) m2 hR2 hK2 ((w3.on (fun q hq => hF1 q (by omega))).on (fun q hq => hF2 q (by omega))) i2 i3 o7) rfl rfl (by decide) (by simp [Value.category]) (Nat.le_refl _) (fun h3 q3 => ?_)
  obtain ⟨hT3, hF3, hz3⟩ := q3
  have m3 := (hF3 30 (by omega)).trans m2
  have hR3 := hR2.on (h' := h3) (fun q hq => hF3 q (by omega))
  have hK3 := hK2.on (h' := h3) (fun q hq => hF3 q (by omega))
  have hC3 := ((hCs.on (h' := h1) (fun q hq => hF1 q (by omega))).on (h' := h2) (fun q hq => hF2 q (by omega))).on (h' := h3) (fun q hq => hF3 q (by omega))
  have w43 := ((w4.on (h' := h1) (fun q hq => hF1 q (by omega))).on (h' := h2) (fun q hq => hF2 q (by omega))).on (h' := h3) (fun q hq => hF3 q (by omega))
  have w53 := ((w5.on (h' := h1) (fun q hq => hF1 q (by omega))).on (h' := h2) (fun q hq => hF2 q (by omega))).on (h' := h3) (fun q hq => hF3 q (by omega))
  have hOut3 := ((hOut.on (h' := h1) (fun q hq => hF1 q (by omega))).on (h' := h2) (fun q hq => hF2 q (by omega))).on (h' := h3) (fun q hq => hF3 q (by omega))
  have hF03 : xFr 30 29 h h3 := ⟨fun q hq => (hF3 q (by omega)).trans ((hF2 q (by omega)).trans (hF1 q (by omega))), hz3.trans (hz2.trans hz1)⟩
  clear hF1 hF2 hF3 hz1 hz2 hz3 hR1 hR2 hK2 m1 m2 w1 w2 w3 w4 w5 hCs hOut m
  have fr : ∀ q, (q < 30 ∨ 31 ≤ q) → h3.1 q = h3.1 q := fun _ _ => rfl
  have zr : h3.2 = h3.2 := rfl
  refine Ax_al0 dX6_make_12 ?_
  refine Ax_ic0 dX6_make_13 ?_
  refine Ax_putf kfX6 fX6_158 dX6_make_14 m3 (Nat.le_of_ble_eq_true rfl) (Or.inl rfl) (by rfl) (by rfl) (Ax_up (fun h4 e4 f4 z4 => ?_))
  replace m3 := e4
  replace fr : ∀ q, (q < 30 ∨ 31 ≤ q) → h4.1 q = h3.1 q := fun q hq => (f4 q (by omega)).trans (fr q hq)
  replace zr := z4.trans zr
  refine Ax_al0 dX6_make_17 ?_
  refine Ax_ic0 dX6_make_18 ?_
  refine Ax_putf kfX6 fX6_161 dX6_make_19 m3 (Nat.le_of_ble_eq_true rfl) (Or.inl rfl) (by rfl) (by rfl) (Ax_up (fun h5 e5 f5 z5 => ?_))
  replace m3 := e5
  replace fr : ∀ q, (q < 30 ∨ 31 ≤ q) → h5.1 q = h3.1 q := fun q hq => (f5 q (by omega)).trans (fr q hq)
  replace zr := z5.trans zr
  refine Ax_al0 dX6_make_22 ?_
  refine Ax_getf kfX6 fX6_149 dX6_make_23 m3 rfl ?_
  refine Ax_ifnen (tgt := 41) dX6_make_26 (by decide) (by omega) (fun c26 => ?_) (fun c26 => ?_)
  · have hF5 : xFm 46 58 h3 h5 := ⟨fun q hq => fr q (by omega), zr⟩
    have hR5 := hR3.on (h' := h5) (fun q hq => fr q (by omega))
    have hK5 := hK3.on (h' := h5) (fun q hq => fr q (by omega))
    have hT5 := hT3.on (h' := h5) (fun q hq => fr q (by omega))
    have hC5 := hC3.on (h' := h5) (fun q hq => fr q (by omega))
    have hOut5 := hOut3.on (h' := h5) (fun q hq => fr q (by omega))
    obtain ⟨dp, kn', fi, se, ro, fo, d0, d1, d2, d3, d4, d5⟩ := w43.on (h' := h5) (fun q hq => fr q (by omega))
    obtain ⟨pf, pt', pd, pl, pm, pp, g1, g2, g3, g4, g5, g6⟩ := w53.on (h' := h5) (fun q hq => fr q (by omega))
    have hF05 : xFr 30 29 h h5 := ⟨fun q hq => (fr q (by omega)).trans (hF03.1 q hq), zr.trans hF03.2⟩
    clear fr zr hF5 hR3 hK3 hT3 hC3 hOut3 w43 w53 hF03
    refine Ax_al0 dX6_make_41 ?_
    refine Ax_ic0 dX6_make_42 ?_
    refine Ax_al0 dX6_make_43 ?_
    refine Ax_getf kfX6 fX6_149 dX6_make_44 m3 rfl ?_
    refine Ax_ic1 dX6_make_47 ?_
    refine Ax_isubn dX6_make_48 (by omega) ?_
    refine Ax_ic0 dX6_make_49 ?_
    refine Ax_ldc2 dX6_make_50 cX6_141 ?_
    refine Ax_ldc2 dX6_make_53 cX6_192 ?_
    refine Ax_icm1 dX6_make_56 ?_
    refine Ax_cVv dX6_make_57 vX6_194 kfX6 m3 (tX6_part (G := G) (p := 0) m3 ⟨g1, g2, g3, g4, g5, g6⟩ (by omega) (nI 0) (nI ((clsOf (runsOf C rt) dn sz).length - 1)) (nI 0) (-2147483648) 2147483647 (-1)) rfl rfl (by decide) (by simp [Value.category]) (Nat.le_refl _) (fun h7 q7 => ?_)
    obtain ⟨m7, hS7, hF7⟩ := q7
    have hL7 : mCode h7 [] := ⟨kn', fi, se, ro, fo, (hF7.1 _ (by omega)).trans d1, (hF7.1 _ (by omega)).trans d2, (hF7.1 _ (by omega)).trans d3, (hF7.1 _ (by omega)).trans d4, (hF7.1 _ (by omega)).trans d5, fun k hk => absurd hk (Nat.not_lt_zero _)⟩
    refine mk_part (G := G) (h0 := h7) (R := runsOf C rt) (dens := dn) (size := sz) (way := wy) (rest := rt) (hR5.on (fun q hq => hF7.1 q (by omega))) (hK5.on (fun q hq => hF7.1 q (by omega))) (hT5.on (fun q hq => hF7.1 q (by omega))) i2 i1 o6 24 0 ((clsOf (runsOf C rt) dn sz).length - 1) 0 0 (-2147483648) 2147483647 [] none h7 dp _ _ _ _ _ _ _ _ _ _ _ _ _ _ (Nat.zero_le _) (by omega) (by omega) (by omega) (by show 0 + _ + 30 ≤ 400; omega) (fun k hk => by cases hk) m7 hL7 ((hF7.1 46 (by omega)).trans d0) hS7 pk_us pk_us pk_us (by rw [L_mn32]; exact uL_s) (by rw [L_mx32]; exact uL_s) pk_us xFm.rf ?_
    intro h8 dp8 qf qt qd ql qm qp y1 y2 y3 y4 y5 y6 y7 y8 m8 hL8 m248 hdo hdi hS8 hU8 hF8
    have eC : ptc none [] ++ lay (runsOf C rt) dn sz wy rt 24 0 ((clsOf (runsOf C rt) dn sz).length - 1) (-2147483648) 2147483647 ([] : List Ln).length = cLn C rt dn sz wy := by
      unfold cLn codeOf
      rw [if_neg c26, List.length_nil]
      show [] ++ _ = _
      rw [List.nil_append]
    rw [eC] at m8 hL8
    refine Ax_al0 dX6_make_60 ?_
    refine Ax_getf kfX6 fX6_161 dX6_make_61 m8 rfl ?_
    refine Ax_iflen (tgt := 261) dX6_make_64 (by decide) (by omega) (fun c64 => ?_) (fun c64 => ?_)
    · have hF78 : ∀ q, (31 ≤ q ∧ q < 46) ∨ q = 58 → h8.1 q = h5.1 q := fun q hq => (hF8.1 q (by omega)).trans (hF7.1 q (by omega))
      refine Ax_ret dX6_make_261 rfl ⟨rfl, ⟨⟨_, _, m8⟩, hC5.on (fun q hq => hF78 q (by omega)), hR5.on (fun q hq => hF78 q (by omega)), hK5.on (fun q hq => hF78 q (by omega)), hT5.on (fun q hq => hF78 q (by omega)), ⟨dp8, m248, fun c hc => ?_⟩, hL8, ⟨_, _, _, _, _, _, hS8⟩, hOut5.on (fun q hq => hF78 q (by omega))⟩, ⟨fun q hq => (hF8.1 q (by omega)).trans ((hF7.1 q (by omega)).trans (hF05.1 q hq)), hF8.2.trans (hF7.2.trans hF05.2)⟩⟩
      rw [hdi c (Nat.zero_le _) (by omega), Nat.zero_add]
      rfl
    · exact absurd c64 (Nat.lt_irrefl _)
  · obtain ⟨dp, kn', fi, se, ro, fo, d0, d1, d2, d3, d4, d5⟩ := w43.on (h' := h5) (fun q hq => fr q (by omega))
    have hL5 : mCode h5 [] := ⟨kn', fi, se, ro, fo, d1, d2, d3, d4, d5, fun k hk => absurd hk (Nat.not_lt_zero _)⟩
    refine Ax_al0 dX6_make_29 ?_
    refine Ax_ic3 dX6_make_30 ?_
    refine Ax_al0 dX6_make_31 ?_
    refine Ax_getf kfX6 fX6_125 dX6_make_32 m3 rfl ?_
    refine Ax_ic0 dX6_make_35 ?_
    refine Ax_icm1 dX6_make_36 ?_
    refine Ax_cVv dX6_make_37 vX6_168 kfX6 m3 (tX6_emit (G := G) (L := []) m3 hL5 (by decide) 3 (nI rt) (nI 0) (c := -1) (cc := 0) (fun q => by omega)) rfl rfl (by decide) (by simp [Value.category]) (Nat.le_refl _) (fun h7 q7 => ?_)
    obtain ⟨m7, hL7, hF7⟩ := q7
    have eC : [] ++ [((3, nI rt, nI 0, 0, 0) : Ln)] = cLn C rt dn sz wy := by
      unfold cLn codeOf
      rw [if_pos c26]
      rfl
    rw [eC] at m7 hL7
    have hF37 : ∀ q, (31 ≤ q ∧ q < 47) ∨ (52 ≤ q ∧ q < 59) → h7.1 q = h3.1 q := fun q hq => (hF7.1 q (by omega)).trans (fr q (by omega))
    exact Ax_ret dX6_make_40 rfl ⟨rfl, ⟨⟨_, _, m7⟩, hC3.on (fun q hq => hF37 q (by omega)), hR3.on (fun q hq => hF37 q (by omega)), hK3.on (fun q hq => hF37 q (by omega)), hT3.on (fun q hq => hF37 q (by omega)), ⟨dp, (hF7.1 46 (by omega)).trans d0, fun c hc => by omega⟩, hL7, w53.on (fun q hq => hF37 q (by omega)), hOut3.on (fun q hq => hF37 q (by omega))⟩, ⟨fun q hq => (hF7.1 q (by omega)).trans ((fr q (by omega)).trans (hF03.1 q hq)), hF7.2.trans (zr.trans hF03.2)⟩⟩
end
