/-! the reference: its cells; the calls on cases -/
abbrev mO (cs cl rt rw dn sz wy rn kn ln pt tk os : Int32) : xC := cO 6 [.ref 31, .ref 32, .ref 33, .ref 34, .ref 35, .int cs, .int cl, .int rt, .int rw, .int dn, .int sz, .int wy, .ref 36, .ref 37, .ref 38, .ref 39, .int rn, .ref 40, .ref 41, .ref 42, .int kn, .ref 43, .ref 44, .ref 45, .ref 46, .ref 47, .ref 48, .ref 49, .ref 50, .ref 51, .int ln, .ref 52, .ref 53, .ref 54, .ref 55, .ref 56, .ref 57, .int pt, .int tk, .ref 58, .int os]
def MRep (C : Cs) (th lo hi tg wt : Nat → Int32) : Prop := ∀ k, k < 24 → th k = nI (C k).isSome.toNat ∧ ∀ c, C k = some c → lo k = c.1 ∧ hi k = c.2.1 ∧ tg k = nI c.2.2.1 ∧ wt k = nI c.2.2.2
def mCs (h : xH) (C : Cs) : Prop := ∃ th lo hi tg wt, h.1 31 = cI 2 24 th ∧ h.1 32 = cI 0 24 lo ∧ h.1 33 = cI 0 24 hi ∧ h.1 34 = cI 0 24 tg ∧ h.1 35 = cI 0 24 wt ∧ MRep C th lo hi tg wt
def mRw1 (h : xH) : Prop := ∃ lo hi tg wt, h.1 36 = cI 0 24 lo ∧ h.1 37 = cI 0 24 hi ∧ h.1 38 = cI 0 24 tg ∧ h.1 39 = cI 0 24 wt
def mRw2 (h : xH) : Prop := ∃ kn fi ma fw, h.1 40 = cI 0 24 kn ∧ h.1 41 = cI 0 24 fi ∧ h.1 42 = cI 0 24 ma ∧ h.1 43 = cI 0 25 fw
def mRw3 (h : xH) : Prop := ∃ co sp, h.1 44 = cJ 576 co ∧ h.1 45 = cI 0 576 sp
def mRw4 (h : xH) : Prop := ∃ dp wh on tw ro fo, h.1 46 = cI 0 24 dp ∧ h.1 47 = cI 0 400 wh ∧ h.1 48 = cI 0 400 on ∧ h.1 49 = cI 0 400 tw ∧ h.1 50 = cJ 400 ro ∧ h.1 51 = cI 0 400 fo
def mRw5 (h : xH) : Prop := ∃ pf pt pd pl pm pp, h.1 52 = cI 0 100 pf ∧ h.1 53 = cI 0 100 pt ∧ h.1 54 = cI 0 100 pd ∧ h.1 55 = cJ 100 pl ∧ h.1 56 = cJ 100 pm ∧ h.1 57 = cI 0 100 pp
def mOut (h : xH) (bs : List Nat) : Prop := ∃ f, h.1 58 = cI 1 40000 f ∧ (∀ k, k < bs.length → f k = nI (bs.getD k 0)) ∧ bs.length ≤ 40000
def vM (h : xH) (C : Cs) (rt rw dn sz wy : Nat) (cl' : Int32) (bs : List Nat) : Prop :=
  (∃ rn kn ln pt tk, h.1 30 = mO (nI (cntF C 24)) cl' (nI rt) (nI rw) (nI dn) (nI sz) (nI wy) rn kn ln pt tk (nI bs.length)) ∧ mCs h C ∧ (mRw1 h ∧ mRw2 h ∧ mRw3 h ∧ mRw4 h ∧ mRw5 h) ∧ mOut h bs
section
variable {G : xG} {h h' : xH} {C : Cs} {rt rw dn sz wy : Nat} {cl' : Int32} {bs : List Nat}
theorem mCs.on (hS : mCs h C) (hF : ∀ q, (31 ≤ q ∧ q < 36) → h'.1 q = h.1 q) : mCs h' C := by
  obtain ⟨th, lo, hi, tg, wt, h1, h2, h3, h4, h5, h6⟩ := hS
  exact ⟨th, lo, hi, tg, wt, (hF _ (by omega)).trans h1, (hF _ (by omega)).trans h2, (hF _ (by omega)).trans h3, (hF _ (by omega)).trans h4, (hF _ (by omega)).trans h5, h6⟩
theorem mRw1.on (hS : mRw1 h) (hF : ∀ q, (36 ≤ q ∧ q < 40) → h'.1 q = h.1 q) : mRw1 h' := by
  obtain ⟨a, b, c, d, h1, h2, h3, h4⟩ := hS
  exact ⟨a, b, c, d, (hF _ (by omega)).trans h1, (hF _ (by omega)).trans h2, (hF _ (by omega)).trans h3, (hF _ (by omega)).trans h4⟩
theorem mRw2.on (hS : mRw2 h) (hF : ∀ q, (40 ≤ q ∧ q < 44) → h'.1 q = h.1 q) : mRw2 h' := by
  obtain ⟨a, b, c, d, h1, h2, h3, h4⟩ := hS
  exact ⟨a, b, c, d, (hF _ (by omega)).trans h1, (hF _ (by omega)).trans h2, (hF _ (by omega)).trans h3, (hF _ (by omega)).trans h4⟩
theorem mRw3.on (hS : mRw3 h) (hF : ∀ q, (44 ≤ q ∧ q < 46) → h'.1 q = h.1 q) : mRw3 h' := by
  obtain ⟨a, b, h1, h2⟩ := hS
  exact ⟨a, b, (hF _ (by omega)).trans h1, (hF _ (by omega)).trans h2⟩
theorem mRw4.on (hS : mRw4 h) (hF : ∀ q, (46 ≤ q ∧ q < 52) → h'.1 q = h.1 q) : mRw4 h' := by
  obtain ⟨a, b, c, d, e, f, h1, h2, h3, h4, h5, h6⟩ := hS
  exact ⟨a, b, c, d, e, f, (hF _ (by omega)).trans h1, (hF _ (by omega)).trans h2, (hF _ (by omega)).trans h3, (hF _ (by omega)).trans h4, (hF _ (by omega)).trans h5, (hF _ (by omega)).trans h6⟩
theorem mRw5.on (hS : mRw5 h) (hF : ∀ q, (52 ≤ q ∧ q < 58) → h'.1 q = h.1 q) : mRw5 h' := by
  obtain ⟨a, b, c, d, e, f, h1, h2, h3, h4, h5, h6⟩ := hS
  exact ⟨a, b, c, d, e, f, (hF _ (by omega)).trans h1, (hF _ (by omega)).trans h2, (hF _ (by omega)).trans h3, (hF _ (by omega)).trans h4, (hF _ (by omega)).trans h5, (hF _ (by omega)).trans h6⟩
theorem mOut.on (hS : mOut h bs) (hF : ∀ q, q = 58 → h'.1 q = h.1 q) : mOut h' bs := by
  obtain ⟨f, h1, h2, h3⟩ := hS
  exact ⟨f, (hF _ rfl).trans h1, h2, h3⟩
theorem vM.on (hS : vM h C rt rw dn sz wy cl' bs) (hF : ∀ q, (30 ≤ q ∧ q < 59) → h'.1 q = h.1 q) : vM h' C rt rw dn sz wy cl' bs := by
  obtain ⟨⟨rn, kn, ln, pt, tk, h1⟩, h2, ⟨g1, g2, g3, g4, g5⟩, h4⟩ := hS
  exact ⟨⟨rn, kn, ln, pt, tk, (hF _ (by omega)).trans h1⟩, h2.on (fun q hq => hF q (by omega)), ⟨g1.on (fun q hq => hF q (by omega)), g2.on (fun q hq => hF q (by omega)), g3.on (fun q hq => hF q (by omega)), g4.on (fun q hq => hF q (by omega)), g5.on (fun q hq => hF q (by omega))⟩, h4.on (fun q hq => hF q (by omega))⟩
/-- the object alone has changed, or the cases too -/
theorem vM.put {C' : Cs} {rt2 rw2 dn2 sz2 wy2 : Nat} {cl2 : Int32} (hS : vM h C rt rw dn sz wy cl' bs) (h1 : ∃ rn kn ln pt tk, h'.1 30 = mO (nI (cntF C' 24)) cl2 (nI rt2) (nI rw2) (nI dn2) (nI sz2) (nI wy2) rn kn ln pt tk (nI bs.length)) (h2 : mCs h' C') (hF : ∀ q, (36 ≤ q ∧ q < 59) → h'.1 q = h.1 q) : vM h' C' rt2 rw2 dn2 sz2 wy2 cl2 bs := by
  obtain ⟨-, -, ⟨g1, g2, g3, g4, g5⟩, h4⟩ := hS
  exact ⟨h1, h2, ⟨g1.on (fun q hq => hF q (by omega)), g2.on (fun q hq => hF q (by omega)), g3.on (fun q hq => hF q (by omega)), g4.on (fun q hq => hF q (by omega)), g5.on (fun q hq => hF q (by omega))⟩, h4.on (fun q hq => hF q (by omega))⟩
theorem MRep.up {th lo hi tg wt : Nat → Int32} (hR : MRep C th lo hi tg wt) (k : Nat) (low high : Int32) (t w : Nat) : MRep (upC C k (some (low, high, t, w))) (upd th k (nI 1)) (upd lo k low) (upd hi k high) (upd tg k (nI t)) (upd wt k (nI w)) := by
  intro j hj
  unfold upC
  by_cases e : j = k
  · subst e
    rw [if_pos rfl, pk_us, pk_us, pk_us, pk_us, pk_us]
    exact ⟨rfl, fun c hc => by cases hc; exact ⟨rfl, rfl, rfl, rfl⟩⟩
  · rw [if_neg e, pk_un e, pk_un e, pk_un e, pk_un e, pk_un e]
    exact hR j hj
theorem MRep.dwn {th lo hi tg wt : Nat → Int32} (hR : MRep C th lo hi tg wt) (k : Nat) : MRep (upC C k none) (upd th k (nI 0)) lo hi tg wt := by
  intro j hj
  unfold upC
  by_cases e : j = k
  · subst e
    rw [if_pos rfl, pk_us]
    exact ⟨rfl, fun c hc => by cases hc⟩
  · rw [if_neg e, pk_un e]
    exact hR j hj
theorem MRep.g {th lo hi tg wt : Nat → Int32} (hR : MRep C th lo hi tg wt) {k : Nat} (hk : k < 24) (hs : (C k).isSome = true) : lo k = (gC C k).1 ∧ hi k = (gC C k).2.1 ∧ tg k = nI (gC C k).2.2.1 ∧ wt k = nI (gC C k).2.2.2 := by
  obtain ⟨c, hc⟩ := Option.isSome_iff_exists.mp hs
  rw [gC_some hc]
  exact (hR k hk).2 c hc
theorem inB_gIn (n : Nat) (hn : n < 2147483648) (x : Int32) : inB x.toInt 0 ((n : Int) - 1) = gIn n x := by
  unfold inB gIn
  rw [decide_eq_decide, Int32.lt_iff_toInt_lt, Int32.le_iff_toInt_le, nI_toInt hn, show (0 : Int32).toInt = 0 from rfl]
  omega
theorem nar1 : vp_nar .boolean (nI 1) = nI 1 := by decide
theorem nar0 : vp_nar .boolean (nI 0) = nI 0 := by decide
theorem tX6_in (v a b : Int64) : AM G mX6_in 0 0 [.long v, .long a, .long b] h (fun r h' => r = some (.int (nI (inB v.toInt a.toInt b.toInt).toNat)) ∧ h' = h) := by
  refine AM.of rfl rfl (Nat.le_of_ble_eq_true rfl) rfl ?_
  unfold inB
  refine Ax_ll0 dX6_in_0 ?_
  refine Ax_ll2 dX6_in_1 ?_
  refine Ax_lcmp dX6_in_2 ?_
  refine Ax_ifltC (tgt := 17) dX6_in_3 (by decide) (fun c3 => ?_) (fun c3 => ?_)
  · rw [decide_eq_false (by omega)]
    refine Ax_ic0 dX6_in_17 ?_
    exact Ax_iret dX6_in_18 rfl (by decide) ⟨rfl, rfl⟩
  refine Ax_ll0 dX6_in_6 ?_
  refine Ax_ll4 dX6_in_7 ?_
  refine Ax_lcmp dX6_in_9 ?_
  refine Ax_ifgtC (tgt := 17) dX6_in_10 (by decide) (fun c10 => ?_) (fun c10 => ?_)
  · rw [decide_eq_false (by omega)]
    refine Ax_ic0 dX6_in_17 ?_
    exact Ax_iret dX6_in_18 rfl (by decide) ⟨rfl, rfl⟩
  · rw [decide_eq_true (by omega)]
    refine Ax_ic1 dX6_in_13 ?_
    refine Ax_goto (tgt := 18) dX6_in_14 (by decide) ?_
    exact Ax_iret dX6_in_18 rfl (by decide) ⟨rfl, rfl⟩
theorem tIn (x : Int32) (a b : Int64) {a' b' : Int} (ha : a.toInt = a') (hb : b.toInt = b') : AM G mX6_in 0 0 [.long x.toInt64, .long a, .long b] h (fun r h' => r = some (.int (nI (inB x.toInt a' b').toNat)) ∧ h' = h) := by
  have := tX6_in (G := G) (h := h) x.toInt64 a b
  rw [Int32.toInt_toInt64, ha, hb] at this
  exact this
theorem tX6_clash (hS : vM h C rt rw dn sz wy cl' bs) : AM G mX6_clash 0 0 [.ref 30] h (fun r h' => r = some (.int cl') ∧ h' = h) := by
  obtain ⟨⟨rn, kn, ln, pt, tk, m⟩, -⟩ := hS
  refine AM.of rfl rfl (Nat.le_of_ble_eq_true rfl) rfl ?_
  refine Ax_al0 dX6_clash_0 ?_
  refine Ax_getf kfX6 fX6_26 dX6_clash_1 m rfl ?_
  exact Ax_iret dX6_clash_4 rfl rfl ⟨rfl, rfl⟩
theorem tX6_noCase (hS : vM h C rt rw dn sz wy cl' bs) (c : Int32) : AM G mX6_noCase 1 0 [.ref 30, .int c] h (fun r h' => r = some (.int (nI (!hasC C c).toNat)) ∧ h' = h) := by
  obtain ⟨⟨rn, kn, ln, pt, tk, m⟩, ⟨th, lo, hi, tg, wt, m0, m1, m2, m3, m4, hR⟩, -⟩ := hS
  have hin := tIn (G := G) (h := h) c (lN 0) 23 (a' := 0) (b' := ((24 : Nat) : Int) - 1) (by decide) (by decide)
  rw [inB_gIn 24 (by decide)] at hin
  refine AM.of rfl rfl (Nat.le_of_ble_eq_true rfl) rfl ?_
  unfold hasC
  refine Ax_il1 dX6_noCase_0 ?_
  refine Ax_i2l dX6_noCase_1 ?_
  refine Ax_lc0 dX6_noCase_2 ?_
  refine Ax_ldc2 dX6_noCase_3 cX6_119 ?_
  refine Ax_cSi dX6_noCase_6 sX6_110 hin rfl rfl (by decide) (by simp [Value.category]) ?_
  refine Ax_ifeqB (tgt := 21) dX6_noCase_9 (by decide) (fun c9 => ?_) (fun c9 => ?_)
  · rw [c9, Bool.false_and]
    refine Ax_ic1 dX6_noCase_21 ?_
    refine Ax_goto (tgt := 26) dX6_noCase_22 (by decide) ?_
    exact Ax_iret dX6_noCase_26 rfl (by decide) ⟨rfl, rfl⟩
  obtain ⟨k, hk, rfl⟩ := gIn_k c9 (by decide)
  rw [c9, Bool.true_and, nI_clamp (by omega)]
  refine Ax_al0 dX6_noCase_12 ?_
  refine Ax_getf kfX6 fX6_7 dX6_noCase_13 m rfl ?_
  refine Ax_il1 dX6_noCase_16 ?_
  refine Ax_zaldn dX6_noCase_17 m0 (by omega) (by omega) ?_
  refine Ax_top (hR k hk).1 ?_
  refine Ax_ifneB (tgt := 25) dX6_noCase_18 (by decide) (fun c18 => ?_) (fun c18 => ?_)
  · rw [c18]
    refine Ax_ic0 dX6_noCase_25 ?_
    exact Ax_iret dX6_noCase_26 rfl (by decide) ⟨rfl, rfl⟩
  · rw [c18]
    refine Ax_ic1 dX6_noCase_21 ?_
    refine Ax_goto (tgt := 26) dX6_noCase_22 (by decide) ?_
    exact Ax_iret dX6_noCase_26 rfl (by decide) ⟨rfl, rfl⟩
theorem tX6_told (hS : vM h C rt rw dn sz wy cl' bs) (c what : Int32) : AM G mX6_told 2 0 [.ref 30, .int c, .int what] h (fun r h' => r = some (.int (toldS C c what)) ∧ h' = h) := by
  have hno := tX6_noCase (G := G) hS c
  obtain ⟨⟨rn, kn, ln, pt, tk, m⟩, ⟨th, lo, hi, tg, wt, m1, m1, m2, m3, m4, hR⟩, -⟩ := hS
  refine AM.of rfl rfl (Nat.le_of_ble_eq_true rfl) rfl ?_
  unfold toldS g4
  refine Ax_al0 dX6_told_0 ?_
  refine Ax_il1 dX6_told_1 ?_
  refine Ax_cVi dX6_told_2 vX6_121 kfX6 m hno rfl rfl (by decide) (by simp [Value.category]) ?_
  refine Ax_ifeqB (tgt := 11) dX6_told_5 (by decide) (fun c5 => ?_) (fun c5 => ?_)
  rotate_left
  · rw [if_neg (by intro q; rw [q] at c5; cases c5)]
    refine Ax_bpm101 dX6_told_8 ?_
    exact Ax_iret dX6_told_10 rfl rfl ⟨rfl, rfl⟩
  have hb : hasC C c = true := by revert c5; cases hasC C c <;> simp
  rw [if_pos hb]
  obtain ⟨k, r, hk, rfl, hr⟩ := hasC_k hb
  rw [nI_clamp (by omega)]
  obtain ⟨e1, e2, e3, e4⟩ := hR.g hk (by rw [hr]; rfl)
  rw [← e1, ← e2, ← e3, ← e4]
  refine Ax_il2 dX6_told_11 ?_
  rcases x_tabN 4 what with hw | ⟨w, hw, rfl⟩
  · rw [if_neg (tab_ne hw (by decide) (by decide)), if_neg (tab_ne hw (by decide) (by decide)), if_neg (tab_ne hw (by decide) (by decide)), if_neg (tab_ne hw (by decide) (by decide))]
    have hw' : what.toInt < 0 ∨ 3 < what.toInt := by omega
    refine Ax_tabO (tgt := 72) dX6_told_12 (by assumption) (by decide) ?_
    refine Ax_bpm102 dX6_told_72 ?_
    exact Ax_iret dX6_told_74 rfl rfl ⟨rfl, rfl⟩
  · rcases (show w = 0 ∨ w = 1 ∨ w = 2 ∨ w = 3 by omega) with rfl | rfl | rfl | rfl
    · rw [if_pos rfl]
      refine Ax_tabI (tgt := 44) dX6_told_12 (by decide) (by decide) rfl (by decide) ?_
      refine Ax_al0 dX6_told_44 ?_
      refine Ax_getf kfX6 fX6_13 dX6_told_45 m rfl ?_
      refine Ax_il1 dX6_told_48 ?_
      refine Ax_ialdn dX6_told_49 m1 (by omega) (by omega) ?_
      exact Ax_iret dX6_told_50 rfl rfl ⟨rfl, rfl⟩
    · rw [if_neg (by decide), if_pos rfl]
      refine Ax_tabI (tgt := 51) dX6_told_12 (by decide) (by decide) rfl (by decide) ?_
      refine Ax_al0 dX6_told_51 ?_
      refine Ax_getf kfX6 fX6_17 dX6_told_52 m rfl ?_
      refine Ax_il1 dX6_told_55 ?_
      refine Ax_ialdn dX6_told_56 m2 (by omega) (by omega) ?_
      exact Ax_iret dX6_told_57 rfl rfl ⟨rfl, rfl⟩
    · rw [if_neg (by decide), if_neg (by decide), if_pos rfl]
      refine Ax_tabI (tgt := 58) dX6_told_12 (by decide) (by decide) rfl (by decide) ?_
      refine Ax_al0 dX6_told_58 ?_
      refine Ax_getf kfX6 fX6_20 dX6_told_59 m rfl ?_
      refine Ax_il1 dX6_told_62 ?_
      refine Ax_ialdn dX6_told_63 m3 (by omega) (by omega) ?_
      exact Ax_iret dX6_told_64 rfl rfl ⟨rfl, rfl⟩
    · rw [if_neg (by decide), if_neg (by decide), if_neg (by decide), if_pos rfl]
      refine Ax_tabI (tgt := 65) dX6_told_12 (by decide) (by decide) rfl (by decide) ?_
      refine Ax_al0 dX6_told_65 ?_
      refine Ax_getf kfX6 fX6_23 dX6_told_66 m rfl ?_
      refine Ax_il1 dX6_told_69 ?_
      refine Ax_ialdn dX6_told_70 m4 (by omega) (by omega) ?_
      exact Ax_iret dX6_told_71 rfl rfl ⟨rfl, rfl⟩
theorem tX6_drop (hS : vM h C rt rw dn sz wy cl' bs) (c : Int32) : AM G mX6_drop 2 0 [.ref 30, .int c] h
    (fun r h' => r = some (.int (dropS C c).1) ∧ vM h' (dropS C c).2 rt rw dn sz wy cl' bs ∧ xFr 30 29 h h') := by
  have hno := tX6_noCase (G := G) hS c
  obtain ⟨⟨rn, kn, ln, pt, tk, m⟩, ⟨th, lo, hi, tg, wt, m0, m1, m2, m3, m4, hR⟩, -⟩ := id hS
  refine AM.of rfl rfl (Nat.le_of_ble_eq_true rfl) rfl ?_
  unfold dropS
  refine Ax_al0 dX6_drop_0 ?_
  refine Ax_il1 dX6_drop_1 ?_
  refine Ax_cVi dX6_drop_2 vX6_121 kfX6 m hno rfl rfl (by decide) (by simp [Value.category]) ?_
  refine Ax_ifeqB (tgt := 11) dX6_drop_5 (by decide) (fun c5 => ?_) (fun c5 => ?_)
  rotate_left
  · rw [if_neg (by intro q; rw [q] at c5; cases c5)]
    refine Ax_bpm101 dX6_drop_8 ?_
    exact Ax_iret dX6_drop_10 rfl rfl ⟨rfl, hS, xFr.rf⟩
  have hb : hasC C c = true := by revert c5; cases hasC C c <;> simp
  rw [if_pos hb]
  obtain ⟨k, r, hk, rfl, hr⟩ := hasC_k hb
  rw [nI_clamp (by omega)]
  have hcnt := cntF_up (C := C) (k := k) (v := none) 24
  rw [if_pos hk, if_pos hk, hr] at hcnt
  simp only [Option.isSome_some, Bool.toNat_true, Option.isSome_none, Bool.toNat_false, Nat.add_zero] at hcnt
  have fr : ∀ q, (q < 30 ∨ 36 ≤ q) → h.1 q = h.1 q := fun _ _ => rfl
  have zr : h.2 = h.2 := rfl
  refine Ax_al0 dX6_drop_11 ?_
  refine Ax_getf kfX6 fX6_7 dX6_drop_12 m rfl ?_
  refine Ax_il1 dX6_drop_15 ?_
  refine Ax_ic0 dX6_drop_16 ?_
  refine Ax_zastn dX6_drop_17 m0 (by omega) (by omega) (Ax_up (fun h1 e1 f1 z1 => ?_))
  replace m := (f1 _ (by omega)).trans m
  replace m0 := e1
  replace m1 := (f1 _ (by omega)).trans m1
  replace m2 := (f1 _ (by omega)).trans m2
  replace m3 := (f1 _ (by omega)).trans m3
  replace m4 := (f1 _ (by omega)).trans m4
  replace fr : ∀ q, (q < 30 ∨ 36 ≤ q) → h1.1 q = h.1 q := fun q hq => (f1 q (by omega)).trans (fr q hq)
  replace zr := z1.trans zr
  refine Ax_al0 dX6_drop_18 ?_
  refine Ax_dup dX6_drop_19 rfl ?_
  refine Ax_getf kfX6 fX6_116 dX6_drop_20 m rfl ?_
  refine Ax_ic1 dX6_drop_23 ?_
  refine Ax_isubn dX6_drop_24 (by omega) ?_
  refine Ax_putf kfX6 fX6_116 dX6_drop_25 m (Nat.le_of_ble_eq_true rfl) (Or.inl rfl) (by rfl) (by rfl) (Ax_up (fun h2 e2 f2 z2 => ?_))
  replace m := e2
  replace m0 := (f2 _ (by omega)).trans m0
  replace m1 := (f2 _ (by omega)).trans m1
  replace m2 := (f2 _ (by omega)).trans m2
  replace m3 := (f2 _ (by omega)).trans m3
  replace m4 := (f2 _ (by omega)).trans m4
  replace fr : ∀ q, (q < 30 ∨ 36 ≤ q) → h2.1 q = h.1 q := fun q hq => (f2 q (by omega)).trans (fr q hq)
  replace zr := z2.trans zr
  refine Ax_al0 dX6_drop_28 ?_
  refine Ax_getf kfX6 fX6_116 dX6_drop_29 m rfl ?_
  rw [nar0] at m0
  have hcn : cntF C 24 - 1 = cntF (upC C k none) 24 := by omega
  refine Ax_iret dX6_drop_32 rfl rfl ⟨rfl, hS.put ⟨rn, kn, ln, pt, tk, by rw [← hcn]; exact m⟩ ⟨_, _, _, _, _, m0, m1, m2, m3, m4, hR.dwn k⟩ (fun q hq => fr q (by omega)), ⟨fun q hq => fr q (by omega), zr⟩⟩
theorem tX6_rest (hS : vM h C rt rw dn sz wy cl' bs) (t w : Int32) : AM G mX6_rest 2 0 [.ref 30, .int t, .int w] h
    (fun r h' => r = some (.int (restS rt rw t w).1) ∧ vM h' C (restS rt rw t w).2.1 (restS rt rw t w).2.2 dn sz wy cl' bs ∧ xFr 30 29 h h') := by
  obtain ⟨⟨rn, kn, ln, pt, tk, m⟩, hC, -⟩ := id hS
  refine AM.of rfl rfl (Nat.le_of_ble_eq_true rfl) rfl ?_
  have hbad : ¬ (inB t.toInt 0 15 = true ∧ inB w.toInt 0 1000 = true) → ∀ x3, Ax G mX6_rest 2 0 24 [.ref 30, .int t, .int w, x3] [] h (fun r h' => r = some (.int (restS rt rw t w).1) ∧ vM h' C (restS rt rw t w).2.1 (restS rt rw t w).2.2 dn sz wy cl' bs ∧ xFr 30 29 h h') := by
    intro q x3
    have e : restS rt rw t w = (-102, rt, rw) := by unfold restS; rw [if_neg q]
    rw [e]
    refine Ax_bpm102 dX6_rest_24 ?_
    exact Ax_iret dX6_rest_26 rfl rfl ⟨rfl, hS, xFr.rf⟩
  refine Ax_il1 dX6_rest_0 ?_
  refine Ax_i2l dX6_rest_1 ?_
  refine Ax_lc0 dX6_rest_2 ?_
  refine Ax_ldc2 dX6_rest_3 cX6_108 ?_
  refine Ax_cSi dX6_rest_6 sX6_110 (tIn t (lN 0) 15 (a' := 0) (b' := 15) (by decide) (by decide)) rfl rfl (by decide) (by simp [Value.category]) ?_
  refine Ax_ifeqB (tgt := 24) dX6_rest_9 (by decide) (fun c9 => ?_) (fun c9 => ?_)
  · exact hbad (fun q => by rw [c9] at q; cases q.1) _
  refine Ax_il2 dX6_rest_12 ?_
  refine Ax_i2l dX6_rest_13 ?_
  refine Ax_lc0 dX6_rest_14 ?_
  refine Ax_ldc2 dX6_rest_15 cX6_114 ?_
  refine Ax_cSi dX6_rest_18 sX6_110 (tIn w (lN 0) 1000 (a' := 0) (b' := 1000) (by decide) (by decide)) rfl rfl (by decide) (by simp [Value.category]) ?_
  refine Ax_ifneB (tgt := 27) dX6_rest_21 (by decide) (fun c21 => ?_) (fun c21 => ?_)
  rotate_left
  · exact hbad (fun q => by rw [c21] at q; cases q.2) _
  have e : restS rt rw t w = (nI rt, t.toInt.toNat, w.toInt.toNat) := by unfold restS; rw [if_pos ⟨c9, c21⟩]
  obtain ⟨t1, t2, t3⟩ := inB_nI (a := 0) (b := 15) c9
  obtain ⟨w1, w2, w3⟩ := inB_nI (a := 0) (b := 1000) c21
  rw [e]
  have fr : ∀ q, (q < 30 ∨ 31 ≤ q) → h.1 q = h.1 q := fun _ _ => rfl
  have zr : h.2 = h.2 := rfl
  refine Ax_al0 dX6_rest_27 ?_
  refine Ax_getf kfX6 fX6_125 dX6_rest_28 m rfl ?_
  refine Ax_is3 dX6_rest_31 (Nat.le_of_ble_eq_true rfl) (by rfl) ?_
  refine Ax_al0 dX6_rest_32 ?_
  refine Ax_il1 dX6_rest_33 ?_
  refine Ax_putf kfX6 fX6_125 dX6_rest_34 m (Nat.le_of_ble_eq_true rfl) (Or.inl rfl) (by rfl) (by rfl) (Ax_up (fun h1 e1 f1 z1 => ?_))
  replace m := e1
  replace fr : ∀ q, (q < 30 ∨ 31 ≤ q) → h1.1 q = h.1 q := fun q hq => (f1 q (by omega)).trans (fr q hq)
  replace zr := z1.trans zr
  refine Ax_al0 dX6_rest_37 ?_
  refine Ax_il2 dX6_rest_38 ?_
  refine Ax_putf kfX6 fX6_128 dX6_rest_39 m (Nat.le_of_ble_eq_true rfl) (Or.inl rfl) (by rfl) (by rfl) (Ax_up (fun h2 e2 f2 z2 => ?_))
  replace m := e2
  replace fr : ∀ q, (q < 30 ∨ 31 ≤ q) → h2.1 q = h.1 q := fun q hq => (f2 q (by omega)).trans (fr q hq)
  replace zr := z2.trans zr
  have m' := m
  rw [t1, w1] at m'
  refine Ax_il3 dX6_rest_42 ?_
  exact Ax_iret dX6_rest_43 rfl rfl ⟨rfl, hS.put ⟨rn, kn, ln, pt, tk, m'⟩ (hC.on (fun q hq => fr q (by omega))) (fun q hq => fr q (by omega)), ⟨fun q hq => fr q (by omega), zr⟩⟩
theorem tX6_tables (hS : vM h C rt rw dn sz wy cl' bs) (t w : Int32) : AM G mX6_tables 2 0 [.ref 30, .int t, .int w] h
    (fun r h' => r = some (.int (tablesS dn sz t w).1) ∧ vM h' C rt rw (tablesS dn sz t w).2.1 (tablesS dn sz t w).2.2 wy cl' bs ∧ xFr 30 29 h h') := by
  obtain ⟨⟨rn, kn, ln, pt, tk, m⟩, hC, -⟩ := id hS
  refine AM.of rfl rfl (Nat.le_of_ble_eq_true rfl) rfl ?_
  have hbad : ¬ (inB t.toInt 1 100 = true ∧ inB w.toInt 1 256 = true) → ∀ x3, Ax G mX6_tables 2 0 24 [.ref 30, .int t, .int w, x3] [] h (fun r h' => r = some (.int (tablesS dn sz t w).1) ∧ vM h' C rt rw (tablesS dn sz t w).2.1 (tablesS dn sz t w).2.2 wy cl' bs ∧ xFr 30 29 h h') := by
    intro q x3
    have e : tablesS dn sz t w = (-102, dn, sz) := by unfold tablesS; rw [if_neg q]
    rw [e]
    refine Ax_bpm102 dX6_tables_24 ?_
    exact Ax_iret dX6_tables_26 rfl rfl ⟨rfl, hS, xFr.rf⟩
  refine Ax_il1 dX6_tables_0 ?_
  refine Ax_i2l dX6_tables_1 ?_
  refine Ax_lc1 dX6_tables_2 ?_
  refine Ax_ldc2 dX6_tables_3 cX6_131 ?_
  refine Ax_cSi dX6_tables_6 sX6_110 (tIn t (lN 1) 100 (a' := 1) (b' := 100) (by decide) (by decide)) rfl rfl (by decide) (by simp [Value.category]) ?_
  refine Ax_ifeqB (tgt := 24) dX6_tables_9 (by decide) (fun c9 => ?_) (fun c9 => ?_)
  · exact hbad (fun q => by rw [c9] at q; cases q.1) _
  refine Ax_il2 dX6_tables_12 ?_
  refine Ax_i2l dX6_tables_13 ?_
  refine Ax_lc1 dX6_tables_14 ?_
  refine Ax_ldc2 dX6_tables_15 cX6_133 ?_
  refine Ax_cSi dX6_tables_18 sX6_110 (tIn w (lN 1) 256 (a' := 1) (b' := 256) (by decide) (by decide)) rfl rfl (by decide) (by simp [Value.category]) ?_
  refine Ax_ifneB (tgt := 27) dX6_tables_21 (by decide) (fun c21 => ?_) (fun c21 => ?_)
  rotate_left
  · exact hbad (fun q => by rw [c21] at q; cases q.2) _
  have e : tablesS dn sz t w = (nI dn, t.toInt.toNat, w.toInt.toNat) := by unfold tablesS; rw [if_pos ⟨c9, c21⟩]
  obtain ⟨t1, t2, t3⟩ := inB_nI (a := 1) (b := 100) c9
  obtain ⟨w1, w2, w3⟩ := inB_nI (a := 1) (b := 256) c21
  rw [e]
  have fr : ∀ q, (q < 30 ∨ 31 ≤ q) → h.1 q = h.1 q := fun _ _ => rfl
  have zr : h.2 = h.2 := rfl
  refine Ax_al0 dX6_tables_27 ?_
  refine Ax_getf kfX6 fX6_30 dX6_tables_28 m rfl ?_
  refine Ax_is3 dX6_tables_31 (Nat.le_of_ble_eq_true rfl) (by rfl) ?_
  refine Ax_al0 dX6_tables_32 ?_
  refine Ax_il1 dX6_tables_33 ?_
  refine Ax_putf kfX6 fX6_30 dX6_tables_34 m (Nat.le_of_ble_eq_true rfl) (Or.inl rfl) (by rfl) (by rfl) (Ax_up (fun h1 e1 f1 z1 => ?_))
  replace m := e1
  replace fr : ∀ q, (q < 30 ∨ 31 ≤ q) → h1.1 q = h.1 q := fun q hq => (f1 q (by omega)).trans (fr q hq)
  replace zr := z1.trans zr
  refine Ax_al0 dX6_tables_37 ?_
  refine Ax_il2 dX6_tables_38 ?_
  refine Ax_putf kfX6 fX6_33 dX6_tables_39 m (Nat.le_of_ble_eq_true rfl) (Or.inl rfl) (by rfl) (by rfl) (Ax_up (fun h2 e2 f2 z2 => ?_))
  replace m := e2
  replace fr : ∀ q, (q < 30 ∨ 31 ≤ q) → h2.1 q = h.1 q := fun q hq => (f2 q (by omega)).trans (fr q hq)
  replace zr := z2.trans zr
  have m' := m
  rw [t1, w1] at m'
  refine Ax_il3 dX6_tables_42 ?_
  exact Ax_iret dX6_tables_43 rfl rfl ⟨rfl, hS.put ⟨rn, kn, ln, pt, tk, m'⟩ (hC.on (fun q hq => fr q (by omega))) (fun q hq => fr q (by omega)), ⟨fun q hq => fr q (by omega), zr⟩⟩
theorem tX6_way (hS : vM h C rt rw dn sz wy cl' bs) (w : Int32) : AM G mX6_way 2 0 [.ref 30, .int w] h
    (fun r h' => r = some (.int (wayS wy w).1) ∧ vM h' C rt rw dn sz (wayS wy w).2 cl' bs ∧ xFr 30 29 h h') := by
  obtain ⟨⟨rn, kn, ln, pt, tk, m⟩, hC, -⟩ := id hS
  refine AM.of rfl rfl (Nat.le_of_ble_eq_true rfl) rfl ?_
  refine Ax_il1 dX6_way_0 ?_
  refine Ax_i2l dX6_way_1 ?_
  refine Ax_lc0 dX6_way_2 ?_
  refine Ax_lc1 dX6_way_3 ?_
  refine Ax_cSi dX6_way_4 sX6_110 (tIn w (lN 0) (lN 1) (a' := 0) (b' := 1) (by decide) (by decide)) rfl rfl (by decide) (by simp [Value.category]) ?_
  refine Ax_ifneB (tgt := 13) dX6_way_7 (by decide) (fun c7 => ?_) (fun c7 => ?_)
  rotate_left
  · have e : wayS wy w = (-102, wy) := by unfold wayS; rw [c7, if_neg (by decide)]
    rw [e]
    refine Ax_bpm102 dX6_way_10 ?_
    exact Ax_iret dX6_way_12 rfl rfl ⟨rfl, hS, xFr.rf⟩
  have e : wayS wy w = (nI wy, w.toInt.toNat) := by unfold wayS; rw [c7, if_pos rfl]
  obtain ⟨w1, w2, w3⟩ := inB_nI (a := 0) (b := 1) c7
  rw [e]
  have fr : ∀ q, (q < 30 ∨ 31 ≤ q) → h.1 q = h.1 q := fun _ _ => rfl
  have zr : h.2 = h.2 := rfl
  refine Ax_al0 dX6_way_13 ?_
  refine Ax_getf kfX6 fX6_135 dX6_way_14 m rfl ?_
  refine Ax_is2 dX6_way_17 (Nat.le_of_ble_eq_true rfl) (by rfl) ?_
  refine Ax_al0 dX6_way_18 ?_
  refine Ax_il1 dX6_way_19 ?_
  refine Ax_putf kfX6 fX6_135 dX6_way_20 m (Nat.le_of_ble_eq_true rfl) (Or.inl rfl) (by rfl) (by rfl) (Ax_up (fun h1 e1 f1 z1 => ?_))
  replace m := e1
  replace fr : ∀ q, (q < 30 ∨ 31 ≤ q) → h1.1 q = h.1 q := fun q hq => (f1 q (by omega)).trans (fr q hq)
  replace zr := z1.trans zr
  have m' := m
  rw [w1] at m'
  refine Ax_il2 dX6_way_23 ?_
  exact Ax_iret dX6_way_24 rfl rfl ⟨rfl, hS.put ⟨rn, kn, ln, pt, tk, m'⟩ (hC.on (fun q hq => fr q (by omega))) (fun q hq => fr q (by omega)), ⟨fun q hq => fr q (by omega), zr⟩⟩
end
