/-! the reference: the code laid out with a stack of its own -/
def mS (h : xH) (pf pt pd : Nat → Int32) (pl pm : Nat → Int64) (pp : Nat → Int32) : Prop := h.1 52 = cI 0 100 pf ∧ h.1 53 = cI 0 100 pt ∧ h.1 54 = cI 0 100 pd ∧ h.1 55 = cJ 100 pl ∧ h.1 56 = cJ 100 pm ∧ h.1 57 = cI 0 100 pp
theorem mS.on {h h' : xH} {pf pt pd : Nat → Int32} {pl pm : Nat → Int64} {pp : Nat → Int32} (hS : mS h pf pt pd pl pm pp) (hF : ∀ q, (52 ≤ q ∧ q < 58) → h'.1 q = h.1 q) : mS h' pf pt pd pl pm pp := by
  obtain ⟨h1, h2, h3, h4, h5, h6⟩ := hS
  exact ⟨(hF _ (by omega)).trans h1, (hF _ (by omega)).trans h2, (hF _ (by omega)).trans h3, (hF _ (by omega)).trans h4, (hF _ (by omega)).trans h5, (hF _ (by omega)).trans h6⟩
/-- below p nothing has changed -/
def mU (p : Nat) (pf pt pd : Nat → Int32) (pl pm : Nat → Int64) (pp : Nat → Int32) (qf qt qd : Nat → Int32) (ql qm : Nat → Int64) (qp : Nat → Int32) : Prop := ∀ k, k < p → qf k = pf k ∧ qt k = pt k ∧ qd k = pd k ∧ ql k = pl k ∧ qm k = pm k ∧ qp k = pp k
def ptc (q : Option Nat) (L : List Ln) : List Ln := match q with
  | none => L
  | some k => L.set k (setL L.length (gL L k))
theorem ptc_len {q : Option Nat} {L : List Ln} : (ptc q L).length = L.length := by
  cases q
  · rfl
  · unfold ptc; simp
theorem ptc_mid {A X : List Ln} {l : Ln} : ptc (some A.length) (A ++ [l] ++ X) = A ++ (setL (A.length + 1 + X.length) l :: X) := by
  show (A ++ [l] ++ X).set A.length (setL (A ++ [l] ++ X).length (gL (A ++ [l] ++ X) A.length)) = _
  have h1 : (A ++ [l] ++ X).length = A.length + 1 + X.length := by rw [List.length_append, List.length_append]; rfl
  have h2 : gL (A ++ [l] ++ X) A.length = l := by
    rw [List.append_assoc, gL_app, if_neg (by omega), Nat.sub_self]
    rfl
  rw [h1, h2, List.append_assoc, List.set_append_right _ _ (Nat.le_refl _), Nat.sub_self]
  rfl
theorem mLn.ptk {L : List Ln} {kn fi se fo : Nat → Int32} {ro : Nat → Int64} (hL : mLn L kn fi se ro fo) {k : Nat} (hk : k < L.length) : mLn (ptc (some k) L) kn fi (upd se k (nI L.length)) ro fo := by
  intro j hj
  rw [ptc_len] at hj
  obtain ⟨h1, h2, h3, h4, h5⟩ := hL j hj
  have e : gL (ptc (some k) L) j = if j = k then setL L.length (gL L k) else gL L j := gL_set hk j
  rw [e]
  by_cases q : j = k
  · subst q
    rw [pk_us, if_pos rfl]
    exact ⟨h1, h2, rfl, h4, h5⟩
  · rw [pk_un q, if_neg q]
    exact ⟨h1, h2, h3, h4, h5⟩
theorem L_pre {x : Int32} (h : -2147483648 < x.toInt) : x.toInt64 - lN 1 = (x - 1).toInt64 := by
  have h2 := I_hi x
  refine Int64.toInt_inj.mp ?_
  rw [Int32.toInt_toInt64, L_sub (by rw [Int32.toInt_toInt64, L_1]; omega) (by rw [Int32.toInt_toInt64, L_1]; omega), Int32.toInt_toInt64, L_1, I_sub (by rw [I_one]; omega) (by rw [I_one]; omega), I_one]
section
variable {G : xG} {R : List Run} {dens size way : Nat} {cs cq rw dn sz wy rn kn ln tk os : Int32} {rest : Nat}
theorem tX6_part {h : xH} {rt : Int32} {p : Nat} {pf pt pd : Nat → Int32} {pl pm : Nat → Int64} {pp : Nat → Int32} (m : h.1 30 = mO cs cq rt rw dn sz wy rn kn ln (nI p) tk os) (hS : mS h pf pt pd pl pm pp) (hp : p < 100) (i j d : Int32) (le gr : Int64) (q : Int32) : AM G mX6_part 0 0 [.ref 30, .int i, .int j, .int d, .long le, .long gr, .int q] h
    (fun r h' => r = none ∧ (h'.1 30 = mO cs cq rt rw dn sz wy rn kn ln (nI (p + 1)) tk os ∧ mS h' (upd pf p i) (upd pt p j) (upd pd p d) (vp_updL pl p le) (vp_updL pm p gr) (upd pp p q) ∧ xFm 52 58 h h')) := by
  obtain ⟨m31, m32, m33, m34, m35, m36⟩ := hS
  refine AM.of rfl rfl (Nat.le_of_ble_eq_true rfl) rfl ?_
  have fr : ∀ q, (q < 30 ∨ (30 < q ∧ q < 52) ∨ 58 ≤ q) → h.1 q = h.1 q := fun _ _ => rfl
  have zr : h.2 = h.2 := rfl
  refine Ax_al0 dX6_part_0 ?_
  refine Ax_getf kfX6 fX6_85 dX6_part_1 m rfl ?_
  refine Ax_al0 dX6_part_4 ?_
  refine Ax_getf kfX6 fX6_161 dX6_part_5 m rfl ?_
  refine Ax_il1 dX6_part_8 ?_
  refine Ax_iastn dX6_part_9 m31 (by omega) (by omega) (Ax_up (fun h1 e1 f1 z1 => ?_))
  replace m := (f1 _ (by omega)).trans m
  replace m31 := e1
  replace m32 := (f1 _ (by omega)).trans m32
  replace m33 := (f1 _ (by omega)).trans m33
  replace m34 := (f1 _ (by omega)).trans m34
  replace m35 := (f1 _ (by omega)).trans m35
  replace m36 := (f1 _ (by omega)).trans m36
  replace fr : ∀ q, (q < 30 ∨ (30 < q ∧ q < 52) ∨ 58 ≤ q) → h1.1 q = h.1 q := fun q hq => (f1 q (by omega)).trans (fr q hq)
  replace zr := z1.trans zr
  refine Ax_al0 dX6_part_10 ?_
  refine Ax_getf kfX6 fX6_88 dX6_part_11 m rfl ?_
  refine Ax_al0 dX6_part_14 ?_
  refine Ax_getf kfX6 fX6_161 dX6_part_15 m rfl ?_
  refine Ax_il2 dX6_part_18 ?_
  refine Ax_iastn dX6_part_19 m32 (by omega) (by omega) (Ax_up (fun h2 e2 f2 z2 => ?_))
  replace m := (f2 _ (by omega)).trans m
  replace m31 := (f2 _ (by omega)).trans m31
  replace m32 := e2
  replace m33 := (f2 _ (by omega)).trans m33
  replace m34 := (f2 _ (by omega)).trans m34
  replace m35 := (f2 _ (by omega)).trans m35
  replace m36 := (f2 _ (by omega)).trans m36
  replace fr : ∀ q, (q < 30 ∨ (30 < q ∧ q < 52) ∨ 58 ≤ q) → h2.1 q = h.1 q := fun q hq => (f2 q (by omega)).trans (fr q hq)
  replace zr := z2.trans zr
  refine Ax_al0 dX6_part_20 ?_
  refine Ax_getf kfX6 fX6_91 dX6_part_21 m rfl ?_
  refine Ax_al0 dX6_part_24 ?_
  refine Ax_getf kfX6 fX6_161 dX6_part_25 m rfl ?_
  refine Ax_il3 dX6_part_28 ?_
  refine Ax_iastn dX6_part_29 m33 (by omega) (by omega) (Ax_up (fun h3 e3 f3 z3 => ?_))
  replace m := (f3 _ (by omega)).trans m
  replace m31 := (f3 _ (by omega)).trans m31
  replace m32 := (f3 _ (by omega)).trans m32
  replace m33 := e3
  replace m34 := (f3 _ (by omega)).trans m34
  replace m35 := (f3 _ (by omega)).trans m35
  replace m36 := (f3 _ (by omega)).trans m36
  replace fr : ∀ q, (q < 30 ∨ (30 < q ∧ q < 52) ∨ 58 ≤ q) → h3.1 q = h.1 q := fun q hq => (f3 q (by omega)).trans (fr q hq)
  replace zr := z3.trans zr
  refine Ax_al0 dX6_part_30 ?_
  refine Ax_getf kfX6 fX6_94 dX6_part_31 m rfl ?_
  refine Ax_al0 dX6_part_34 ?_
  refine Ax_getf kfX6 fX6_161 dX6_part_35 m rfl ?_
  refine Ax_ll4 dX6_part_38 ?_
  refine Ax_lastn dX6_part_40 m34 (by omega) (by omega) (Ax_up (fun h4 e4 f4 z4 => ?_))
  replace m := (f4 _ (by omega)).trans m
  replace m31 := (f4 _ (by omega)).trans m31
  replace m32 := (f4 _ (by omega)).trans m32
  replace m33 := (f4 _ (by omega)).trans m33
  replace m34 := e4
  replace m35 := (f4 _ (by omega)).trans m35
  replace m36 := (f4 _ (by omega)).trans m36
  replace fr : ∀ q, (q < 30 ∨ (30 < q ∧ q < 52) ∨ 58 ≤ q) → h4.1 q = h.1 q := fun q hq => (f4 q (by omega)).trans (fr q hq)
  replace zr := z4.trans zr
  refine Ax_al0 dX6_part_41 ?_
  refine Ax_getf kfX6 fX6_97 dX6_part_42 m rfl ?_
  refine Ax_al0 dX6_part_45 ?_
  refine Ax_getf kfX6 fX6_161 dX6_part_46 m rfl ?_
  refine Ax_ll6 dX6_part_49 ?_
  refine Ax_lastn dX6_part_51 m35 (by omega) (by omega) (Ax_up (fun h5 e5 f5 z5 => ?_))
  replace m := (f5 _ (by omega)).trans m
  replace m31 := (f5 _ (by omega)).trans m31
  replace m32 := (f5 _ (by omega)).trans m32
  replace m33 := (f5 _ (by omega)).trans m33
  replace m34 := (f5 _ (by omega)).trans m34
  replace m35 := e5
  replace m36 := (f5 _ (by omega)).trans m36
  replace fr : ∀ q, (q < 30 ∨ (30 < q ∧ q < 52) ∨ 58 ≤ q) → h5.1 q = h.1 q := fun q hq => (f5 q (by omega)).trans (fr q hq)
  replace zr := z5.trans zr
  refine Ax_al0 dX6_part_52 ?_
  refine Ax_getf kfX6 fX6_100 dX6_part_53 m rfl ?_
  refine Ax_al0 dX6_part_56 ?_
  refine Ax_getf kfX6 fX6_161 dX6_part_57 m rfl ?_
  refine Ax_il8 dX6_part_60 ?_
  refine Ax_iastn dX6_part_62 m36 (by omega) (by omega) (Ax_up (fun h6 e6 f6 z6 => ?_))
  replace m := (f6 _ (by omega)).trans m
  replace m31 := (f6 _ (by omega)).trans m31
  replace m32 := (f6 _ (by omega)).trans m32
  replace m33 := (f6 _ (by omega)).trans m33
  replace m34 := (f6 _ (by omega)).trans m34
  replace m35 := (f6 _ (by omega)).trans m35
  replace m36 := e6
  replace fr : ∀ q, (q < 30 ∨ (30 < q ∧ q < 52) ∨ 58 ≤ q) → h6.1 q = h.1 q := fun q hq => (f6 q (by omega)).trans (fr q hq)
  replace zr := z6.trans zr
  refine Ax_al0 dX6_part_63 ?_
  refine Ax_dup dX6_part_64 rfl ?_
  refine Ax_getf kfX6 fX6_161 dX6_part_65 m rfl ?_
  refine Ax_ic1 dX6_part_68 ?_
  refine Ax_iaddn dX6_part_69 ?_
  refine Ax_putf kfX6 fX6_161 dX6_part_70 m (Nat.le_of_ble_eq_true rfl) (Or.inl rfl) (by rfl) (by rfl) (Ax_up (fun h7 e7 f7 z7 => ?_))
  replace m := e7
  replace m31 := (f7 _ (by omega)).trans m31
  replace m32 := (f7 _ (by omega)).trans m32
  replace m33 := (f7 _ (by omega)).trans m33
  replace m34 := (f7 _ (by omega)).trans m34
  replace m35 := (f7 _ (by omega)).trans m35
  replace m36 := (f7 _ (by omega)).trans m36
  replace fr : ∀ q, (q < 30 ∨ (30 < q ∧ q < 52) ∨ 58 ≤ q) → h7.1 q = h.1 q := fun q hq => (f7 q (by omega)).trans (fr q hq)
  replace zr := z7.trans zr
  exact Ax_ret dX6_part_73 rfl ⟨rfl, m, ⟨m31, m32, m33, m34, m35, m36⟩, fr, zr⟩
theorem mk_part {Q : Option Value → xH → Prop} {h0 : xH} (hV : mRuns h0 R) (hK : mCls h0 R dens size) (hT : mTree h0 R dens size way) (hl : R.length ≤ 24) (hI : RInv R) (hsz : size ≤ 256) :
    ∀ (f i j d p : Nat) (le gr : Int32) (L : List Ln) (q : Option Nat) (hh : xH) (dp pf pt pd : Nat → Int32) (pl pm : Nat → Int64) (pp : Nat → Int32) (x1 x2 x3 x4 x5 x6 x7 x8 : Value), i ≤ j → j < (clsOf R dens size).length → j - i < f → p + f ≤ 90 → L.length + 7 * (j - i + 1) + 30 ≤ 400 → (∀ k, q = some k → k < L.length) →
      hh.1 30 = mO cs cq (nI rest) rw dn sz wy rn kn (nI L.length) (nI (p + 1)) tk os → mCode hh L → hh.1 46 = cI 0 24 dp → mS hh pf pt pd pl pm pp → pf p = nI i → pt p = nI j → pd p = nI d → pl p = le.toInt64 → pm p = gr.toInt64 → pp p = oI q → xFm 46 58 h0 hh →
      (∀ (h' : xH) (dp' qf qt qd : Nat → Int32) (ql qm : Nat → Int64) (qp : Nat → Int32) (x1 x2 x3 x4 x5 x6 x7 x8 : Value), h'.1 30 = mO cs cq (nI rest) rw dn sz wy rn kn (nI (ptc q L ++ lay R dens size way rest f i j le gr L.length).length) (nI p) tk os → mCode h' (ptc q L ++ lay R dens size way rest f i j le gr L.length) → h'.1 46 = cI 0 24 dp' → (∀ c, (c < i ∨ j < c) → dp' c = dp c) → (∀ c, i ≤ c → c ≤ j → dp' c = nI (d + dep (spF R dens size way) c f i j)) → mS h' qf qt qd ql qm qp → mU p pf pt pd pl pm pp qf qt qd ql qm qp → xFm 46 58 h0 h' → Ax G mX6_make 3 0 60 [.ref 30, x1, x2, x3, x4, x5, x6, x7, x8] [] h' Q) →
      Ax G mX6_make 3 0 60 [.ref 30, x1, x2, x3, x4, x5, x6, x7, x8] [] hh Q := by
  have hlk := Nat.le_trans (cls_len R dens size) hl
  intro f
  induction f with
  | zero => intro i j d p le gr L q hh dp pf pt pd pl pm pp x1 x2 x3 x4 x5 x6 x7 x8 h1 h2 h3; omega
  | succ f ih =>
    intro i j d p le gr L q hh dp pf pt pd pl pm pp x1 x2 x3 x4 x5 x6 x7 x8 hij hj hf hp hn hq m hL m24 hS s1 s2 s3 s4 s5 s6 hF hcont
    have hV1 := hV.on (h' := hh) (fun x hx => hF.1 x (by omega))
    have hK1 := hK.on (h' := hh) (fun x hx => hF.1 x (by omega))
    obtain ⟨m31, m32, m33, m34, m35, m36⟩ := hS
    obtain ⟨kn', fi, se, ro, fo, m25, m26, m27, m28, m29, hR⟩ := hL
    have fr : ∀ q, (q < 30 ∨ (30 < q ∧ q < 46) ∨ 58 ≤ q) → hh.1 q = hh.1 q := fun _ _ => rfl
    have zr : hh.2 = hh.2 := rfl
    refine Ax_al0 dX6_make_60 ?_
    refine Ax_getf kfX6 fX6_161 dX6_make_61 m rfl ?_
    refine Ax_iflen (tgt := 261) dX6_make_64 (by decide) (by omega) (fun c64 => ?_) (fun c64 => ?_)
    · omega
    refine Ax_al0 dX6_make_67 ?_
    refine Ax_dup dX6_make_68 rfl ?_
    refine Ax_getf kfX6 fX6_161 dX6_make_69 m rfl ?_
    refine Ax_ic1 dX6_make_72 ?_
    refine Ax_isubn dX6_make_73 (by omega) ?_
    refine Ax_putf kfX6 fX6_161 dX6_make_74 m (Nat.le_of_ble_eq_true rfl) (Or.inl rfl) (by rfl) (by rfl) (Ax_up (fun h1 e1 f1 z1 => ?_))
    replace m := e1
    replace m24 := (f1 _ (by omega)).trans m24
    replace m25 := (f1 _ (by omega)).trans m25
    replace m26 := (f1 _ (by omega)).trans m26
    replace m27 := (f1 _ (by omega)).trans m27
    replace m28 := (f1 _ (by omega)).trans m28
    replace m29 := (f1 _ (by omega)).trans m29
    replace m31 := (f1 _ (by omega)).trans m31
    replace m32 := (f1 _ (by omega)).trans m32
    replace m33 := (f1 _ (by omega)).trans m33
    replace m34 := (f1 _ (by omega)).trans m34
    replace m35 := (f1 _ (by omega)).trans m35
    replace m36 := (f1 _ (by omega)).trans m36
    replace fr : ∀ q, (q < 30 ∨ (30 < q ∧ q < 46) ∨ 58 ≤ q) → h1.1 q = hh.1 q := fun q hq => (f1 q (by omega)).trans (fr q hq)
    replace zr := z1.trans zr
    refine Ax_al0 dX6_make_77 ?_
    refine Ax_getf kfX6 fX6_85 dX6_make_78 m rfl ?_
    refine Ax_al0 dX6_make_81 ?_
    refine Ax_getf kfX6 fX6_161 dX6_make_82 m rfl ?_
    refine Ax_ialdn dX6_make_85 m31 (by omega) (by omega) ?_
    refine Ax_top (s1) ?_
    refine Ax_is1 dX6_make_86 (Nat.le_of_ble_eq_true rfl) (by rfl) ?_
    refine Ax_al0 dX6_make_87 ?_
    refine Ax_getf kfX6 fX6_88 dX6_make_88 m rfl ?_
    refine Ax_al0 dX6_make_91 ?_
    refine Ax_getf kfX6 fX6_161 dX6_make_92 m rfl ?_
    refine Ax_ialdn dX6_make_95 m32 (by omega) (by omega) ?_
    refine Ax_top (s2) ?_
    refine Ax_is2 dX6_make_96 (Nat.le_of_ble_eq_true rfl) (by rfl) ?_
    refine Ax_al0 dX6_make_97 ?_
    refine Ax_getf kfX6 fX6_91 dX6_make_98 m rfl ?_
    refine Ax_al0 dX6_make_101 ?_
    refine Ax_getf kfX6 fX6_161 dX6_make_102 m rfl ?_
    refine Ax_ialdn dX6_make_105 m33 (by omega) (by omega) ?_
    refine Ax_top (s3) ?_
    refine Ax_is3 dX6_make_106 (Nat.le_of_ble_eq_true rfl) (by rfl) ?_
    refine Ax_al0 dX6_make_107 ?_
    refine Ax_getf kfX6 fX6_94 dX6_make_108 m rfl ?_
    refine Ax_al0 dX6_make_111 ?_
    refine Ax_getf kfX6 fX6_161 dX6_make_112 m rfl ?_
    refine Ax_laldn dX6_make_115 m34 (by omega) (by omega) ?_
    refine Ax_topL s4 ?_
    refine Ax_ls4 dX6_make_116 (Nat.le_of_ble_eq_true rfl) (by rfl) ?_
    refine Ax_al0 dX6_make_118 ?_
    refine Ax_getf kfX6 fX6_97 dX6_make_119 m rfl ?_
    refine Ax_al0 dX6_make_122 ?_
    refine Ax_getf kfX6 fX6_161 dX6_make_123 m rfl ?_
    refine Ax_laldn dX6_make_126 m35 (by omega) (by omega) ?_
    refine Ax_topL s5 ?_
    refine Ax_ls6 dX6_make_127 (Nat.le_of_ble_eq_true rfl) (by rfl) ?_
    refine Ax_al0 dX6_make_129 ?_
    refine Ax_getf kfX6 fX6_100 dX6_make_130 m rfl ?_
    refine Ax_al0 dX6_make_133 ?_
    refine Ax_getf kfX6 fX6_161 dX6_make_134 m rfl ?_
    refine Ax_ialdn dX6_make_137 m36 (by omega) (by omega) ?_
    rw [show p + 1 - 1 = p by omega] at m
    suffices hmid : ∀ (hy : xH), hy.1 30 = mO cs cq (nI rest) rw dn sz wy rn kn (nI (ptc q L).length) (nI p) tk os → mCode hy (ptc q L) → hy.1 46 = cI 0 24 dp → mS hy pf pt pd pl pm pp → xFm 46 58 h0 hy → Ax G mX6_make 3 0 159 [.ref 30, .int (nI i), .int (nI j), .int (nI d), .long le.toInt64, .null, .long gr.toInt64, .null, x8] [] hy Q by
      refine Ax_top s6 ?_
      cases q with
      | none =>
        refine Ax_iflt (tgt := 159) dX6_make_138 (by decide) (fun c138 => ?_) (fun c138 => ?_)
        rotate_left
        · exact absurd (by decide) c138
        exact hmid _ m ⟨_, _, _, _, _, m25, m26, m27, m28, m29, hR⟩ m24 ⟨m31, m32, m33, m34, m35, m36⟩ (hF.tr ⟨fr, zr⟩)
      | some k =>
        have hk := hq k rfl
        show Ax G mX6_make 3 0 138 _ [.int (nI k)] _ Q
        refine Ax_ifltn (tgt := 159) dX6_make_138 (by decide) (by omega) ?_
        refine Ax_al0 dX6_make_141 ?_
        refine Ax_getf kfX6 fX6_76 dX6_make_142 m rfl ?_
        refine Ax_al0 dX6_make_145 ?_
        refine Ax_getf kfX6 fX6_100 dX6_make_146 m rfl ?_
        refine Ax_al0 dX6_make_149 ?_
        refine Ax_getf kfX6 fX6_161 dX6_make_150 m rfl ?_
        refine Ax_ialdn dX6_make_153 m36 (by omega) (by omega) ?_
        refine Ax_top (s6) ?_
        refine Ax_al0 dX6_make_154 ?_
        refine Ax_getf kfX6 fX6_158 dX6_make_155 m rfl ?_
        refine Ax_iastn dX6_make_158 m27 (by omega) (by omega) (Ax_up (fun h2 e2 f2 z2 => ?_))
        replace m := (f2 _ (by omega)).trans m
        replace m24 := (f2 _ (by omega)).trans m24
        replace m25 := (f2 _ (by omega)).trans m25
        replace m26 := (f2 _ (by omega)).trans m26
        replace m27 := e2
        replace m28 := (f2 _ (by omega)).trans m28
        replace m29 := (f2 _ (by omega)).trans m29
        replace m31 := (f2 _ (by omega)).trans m31
        replace m32 := (f2 _ (by omega)).trans m32
        replace m33 := (f2 _ (by omega)).trans m33
        replace m34 := (f2 _ (by omega)).trans m34
        replace m35 := (f2 _ (by omega)).trans m35
        replace m36 := (f2 _ (by omega)).trans m36
        replace fr : ∀ q, (q < 30 ∨ (30 < q ∧ q < 46) ∨ 58 ≤ q) → h2.1 q = hh.1 q := fun q hq => (f2 q (by omega)).trans (fr q hq)
        replace zr := z2.trans zr
        exact hmid _ (by rw [ptc_len]; exact m) ⟨_, _, _, _, _, m25, m26, m27, m28, m29, hR.ptk hk⟩ m24 ⟨m31, m32, m33, m34, m35, m36⟩ (hF.tr ⟨fr, zr⟩)
    clear m m24 m25 m26 m27 m28 m29 m31 m32 m33 m34 m35 m36 hR fr zr hV1 hK1 hF
    intro hy m hL m24 hS hF
    have hV1 := hV.on (h' := hy) (fun x hx => hF.1 x (by omega))
    have hK1 := hK.on (h' := hy) (fun x hx => hF.1 x (by omega))
    have hsl : (ptc q L).length = L.length := ptc_len
    refine Ax_il1 dX6_make_159 ?_
    refine Ax_il2 dX6_make_160 ?_
    refine Ax_cmpnen (tgt := 183) dX6_make_161 (by decide) (by omega) (by omega) (fun c161 => ?_) (fun c161 => ?_)
    rotate_left
    · subst c161
      have fr : ∀ q, (q < 30 ∨ (30 < q ∧ q < 46) ∨ 47 ≤ q) → hy.1 q = hy.1 q := fun _ _ => rfl
      have zr : hy.2 = hy.2 := rfl
      refine Ax_al0 dX6_make_164 ?_
      refine Ax_getf kfX6 fX6_67 dX6_make_165 m rfl ?_
      refine Ax_il1 dX6_make_168 ?_
      refine Ax_il3 dX6_make_169 ?_
      refine Ax_iastn dX6_make_170 m24 (by omega) (by omega) (Ax_up (fun h11 e11 f11 z11 => ?_))
      replace m := (f11 _ (by omega)).trans m
      replace m24 := e11
      replace fr : ∀ q, (q < 30 ∨ (30 < q ∧ q < 46) ∨ 47 ≤ q) → h11.1 q = hy.1 q := fun q hq => (f11 q (by omega)).trans (fr q hq)
      replace zr := z11.trans zr
      have eL : lay R dens size way rest (f + 1) i i le gr L.length = leafAB R dens size rest i (decide (le.toInt < (cbt R dens size i).toInt)) (decide ((ctp R dens size i).toInt < gr.toInt)) L.length := by
        rw [lay, if_pos (Nat.le_refl _)]
        rfl
      have hlf := tX6_leaf (G := G) (R := R) (dens := dens) (size := size) (le := le.toInt64) (gr := gr.toInt64) m (hL.on (h' := h11) (fun x hx => fr x (by omega))) (hV1.on (fun x hx => fr x (by omega))) (hK1.on (fun x hx => fr x (by omega))) hl hI hsz hj (by omega) rfl rfl
      rw [Int32.toInt_toInt64, Int32.toInt_toInt64, hsl, ← eL] at hlf
      refine Ax_al0 dX6_make_171 ?_
      refine Ax_il1 dX6_make_172 ?_
      refine Ax_ll4 dX6_make_173 ?_
      refine Ax_ll6 dX6_make_175 ?_
      refine Ax_cVv dX6_make_177 vX6_198 kfX6 m hlf rfl rfl (by decide) (by simp [Value.category]) (Nat.le_refl _) (fun h12 q12 => ?_)
      obtain ⟨m2, hL2, hF2⟩ := q12
      refine Ax_goto (tgt := 258) dX6_make_180 (by decide) ?_
      refine Ax_goto (tgt := 60) dX6_make_258 (by decide) ?_
      exact hcont h12 _ _ _ _ _ _ _ _ _ _ _ _ _ _ _ m2 hL2 ((hF2.1 46 (by omega)).trans m24) (fun c hc => pk_un (by omega)) (fun c h1 h2 => by
        obtain rfl : c = i := by omega
        rw [pk_us, dep, if_neg (Nat.lt_irrefl _), Nat.add_zero]) ((hS.on (h' := h11) (fun x hx => fr x (by omega))).on (fun x hx => hF2.1 x (by omega))) (fun k hk => ⟨rfl, rfl, rfl, rfl, rfl, rfl⟩) ((hF.tr ⟨fun x hx => fr x (by omega), zr⟩).tr (hF2.wide (by omega) (by omega) (by omega)))
    have hT1 := hT.on (h' := hy) (fun x hx => hF.1 x (by omega))
    obtain ⟨co, sp, m22, m23, hcut⟩ := hT1
    have hcut1 := hcut i j (by omega) hj
    obtain ⟨w1, w2⟩ := spF_in (R := R) (dens := dens) (size := size) (way := way) (i := i) (j := j) (by omega) (by omega)
    have eLay : lay R dens size way rest (f + 1) i j le gr L.length = (0, cbt R dens size (spF R dens size way i j), nI (L.length + 1 + (lay R dens size way rest f (spF R dens size way i j) j (cbt R dens size (spF R dens size way i j)) gr (L.length + 1)).length), 0, 0) ::
      (lay R dens size way rest f (spF R dens size way i j) j (cbt R dens size (spF R dens size way i j)) gr (L.length + 1) ++
       lay R dens size way rest f i (spF R dens size way i j - 1) le (cbt R dens size (spF R dens size way i j) - 1) (L.length + 1 + (lay R dens size way rest f (spF R dens size way i j) j (cbt R dens size (spF R dens size way i j)) gr (L.length + 1)).length)) := by
      rw [lay, if_neg (by omega)]
    have hdep : ∀ c, dep (spF R dens size way) c (f + 1) i j = (if c < spF R dens size way i j then dep (spF R dens size way) c f i (spF R dens size way i j - 1) else dep (spF R dens size way) c f (spF R dens size way i j) j) + 1 := by
      intro c
      rw [dep, if_pos (by omega)]
    rw [eLay] at hcont
    simp only [hdep] at hcont
    generalize spF R dens size way i j = z at hcut1 w1 w2 hcont eLay hdep
    have hzl : z < (clsOf R dens size).length := by omega
    have hb := (lay_bounds (R := R) (dens := dens) (way := way) (rest := rest) hlk hsz f z j (cbt R dens size z) gr (L.length + 1) w2 hj).1
    generalize hX : lay R dens size way rest f z j (cbt R dens size z) gr (L.length + 1) = X at hb hcont
    have hzmin : -2147483648 < (cbt R dens size z).toInt := by
      obtain ⟨g1, g2⟩ := cls_low (R := R) (dens := dens) (size := size) w1 hzl
      obtain ⟨-, g3, g4, -⟩ := ClOk.at _ _ z (cls_ok R dens size) hzl
      have g5 := run_ord hI (j := cl (clsOf R dens size) (z - 1)) (k := cf (clsOf R dens size) z) (by omega) (by omega)
      have g6 := I_lo (rhi R (cl (clsOf R dens size) (z - 1)))
      unfold cbt
      omega
    refine Ax_al0 dX6_make_183 ?_
    refine Ax_getf kfX6 fX6_64 dX6_make_184 m rfl ?_
    refine Ax_bp24 dX6_make_187 ?_
    refine Ax_il1 dX6_make_189 ?_
    refine Ax_imuln dX6_make_190 ?_
    refine Ax_il2 dX6_make_191 ?_
    refine Ax_iaddn dX6_make_192 ?_
    refine Ax_ialdn dX6_make_193 m23 (by omega) (by omega) ?_
    refine Ax_top (hcut1) ?_
    refine Ax_is8 dX6_make_194 (Nat.le_of_ble_eq_true rfl) (by rfl) ?_
    refine Ax_al0 dX6_make_196 ?_
    refine Ax_ic0 dX6_make_197 ?_
    refine Ax_al0 dX6_make_198 ?_
    refine Ax_il8 dX6_make_199 ?_
    refine Ax_cVi dX6_make_201 vX6_164 kfX6 m (tX6_bottom m hV1 hK1 hl hzl) rfl rfl (by decide) (by simp [Value.category]) ?_
    refine Ax_ic0 dX6_make_204 ?_
    refine Ax_icm1 dX6_make_205 ?_
    refine Ax_cVv dX6_make_206 vX6_168 kfX6 m (tX6_emit (G := G) m hL (by omega) 0 (cbt R dens size z) (nI 0) (c := -1) (cc := 0) (fun q => by omega)) rfl rfl (by decide) (by simp [Value.category]) (Nat.le_refl _) (fun h21 q21 => ?_)
    obtain ⟨m2, hL2, hF2⟩ := q21
    have hV2 := hV1.on (h' := h21) (fun x hx => hF2.1 x (by omega))
    have hK2 := hK1.on (h' := h21) (fun x hx => hF2.1 x (by omega))
    have hS2 := hS.on (h' := h21) (fun x hx => hF2.1 x (by omega))
    have m242 := (hF2.1 46 (by omega)).trans m24
    have hl1 : (ptc q L ++ [((0, cbt R dens size z, nI 0, 0, 0) : Ln)]).length = L.length + 1 := by rw [List.length_append, hsl]; rfl
    rw [hl1] at m2
    refine Ax_al0 dX6_make_209 ?_
    refine Ax_il1 dX6_make_210 ?_
    refine Ax_il8 dX6_make_211 ?_
    refine Ax_ic1 dX6_make_213 ?_
    refine Ax_isubn dX6_make_214 (by omega) ?_
    refine Ax_il3 dX6_make_215 ?_
    refine Ax_ic1 dX6_make_216 ?_
    refine Ax_iaddn dX6_make_217 ?_
    refine Ax_ll4 dX6_make_218 ?_
    refine Ax_al0 dX6_make_220 ?_
    refine Ax_il8 dX6_make_221 ?_
    refine Ax_cVi dX6_make_223 vX6_164 kfX6 m2 (tX6_bottom m2 hV2 hK2 hl hzl) rfl rfl (by decide) (by simp [Value.category]) ?_
    refine Ax_i2l dX6_make_226 ?_
    refine Ax_lc1 dX6_make_227 ?_
    refine Ax_lsub dX6_make_228 ?_
    refine Ax_topL (L_pre hzmin) ?_
    refine Ax_al0 dX6_make_229 ?_
    refine Ax_getf kfX6 fX6_158 dX6_make_230 m2 rfl ?_
    refine Ax_ic1 dX6_make_233 ?_
    refine Ax_isubn dX6_make_234 (by omega) ?_
    refine Ax_cVv dX6_make_235 vX6_194 kfX6 m2 (tX6_part (G := G) m2 hS2 (by omega) (nI i) (nI (z - 1)) (nI (d + 1)) le.toInt64 (cbt R dens size z - 1).toInt64 (nI (L.length + 1 - 1))) rfl rfl (by decide) (by simp [Value.category]) (Nat.le_refl _) (fun h31 q31 => ?_)
    obtain ⟨m3, hS3, hF3⟩ := q31
    have hV3 := hV2.on (h' := h31) (fun x hx => hF3.1 x (by omega))
    have hK3 := hK2.on (h' := h31) (fun x hx => hF3.1 x (by omega))
    have hL3 := hL2.on (h' := h31) (fun x hx => hF3.1 x (by omega))
    have m243 := (hF3.1 46 (by omega)).trans m242
    refine Ax_al0 dX6_make_238 ?_
    refine Ax_il8 dX6_make_239 ?_
    refine Ax_il2 dX6_make_241 ?_
    refine Ax_il3 dX6_make_242 ?_
    refine Ax_ic1 dX6_make_243 ?_
    refine Ax_iaddn dX6_make_244 ?_
    refine Ax_al0 dX6_make_245 ?_
    refine Ax_il8 dX6_make_246 ?_
    refine Ax_cVi dX6_make_248 vX6_164 kfX6 m3 (tX6_bottom m3 hV3 hK3 hl hzl) rfl rfl (by decide) (by simp [Value.category]) ?_
    refine Ax_i2l dX6_make_251 ?_
    refine Ax_ll6 dX6_make_252 ?_
    refine Ax_icm1 dX6_make_254 ?_
    refine Ax_cVv dX6_make_255 vX6_194 kfX6 m3 (tX6_part (G := G) m3 hS3 (by omega) (nI z) (nI j) (nI (d + 1)) (cbt R dens size z).toInt64 gr.toInt64 (-1)) rfl rfl (by decide) (by simp [Value.category]) (Nat.le_refl _) (fun h41 q41 => ?_)
    obtain ⟨m4, hS4, hF4⟩ := q41
    have hL4 := hL3.on (h' := h41) (fun x hx => hF4.1 x (by omega))
    have m244 := (hF4.1 46 (by omega)).trans m243
    refine Ax_goto (tgt := 60) dX6_make_258 (by decide) ?_
    have hF41 : xFm 46 58 h0 h41 := ((hF.tr (hF2.wide (by omega) (by omega) (by omega))).tr (hF3.wide (by omega) (by omega) (by omega))).tr (hF4.wide (by omega) (by omega) (by omega))
    refine ih z j (d + 1) (p + 1) (cbt R dens size z) gr (ptc q L ++ [(0, cbt R dens size z, nI 0, 0, 0)]) none h41 dp _ _ _ _ _ _ _ _ _ _ _ _ _ _ w2 hj (by omega) (by omega) (by rw [hl1]; omega) (fun k hk => by cases hk) (by rw [hl1]; exact m4) hL4 m244 hS4 pk_us pk_us pk_us uL_s uL_s pk_us hF41 ?_
    intro h5 dp5 qf qt qd ql qm qp y1 y2 y3 y4 y5 y6 y7 y8 m5 hL5 m245 hdo hdi hS5 hU5 hF5
    rw [hl1, hX] at hL5 m5
    have hl2 : (ptc q L ++ [((0, cbt R dens size z, nI 0, 0, 0) : Ln)] ++ X).length = L.length + 1 + X.length := by rw [List.length_append, hl1]
    obtain ⟨u1, u2, u3, u4, u5, u6⟩ := hU5 p (by omega)
    rw [pk_un (by omega), pk_us] at u1 u2 u3 u6
    rw [uL_n (by omega), uL_s] at u4 u5
    refine ih i (z - 1) (d + 1) p le (cbt R dens size z - 1) (ptc q L ++ [(0, cbt R dens size z, nI 0, 0, 0)] ++ X) (some L.length) h5 dp5 _ _ _ _ _ _ _ _ _ _ _ _ _ _ (by omega) (by omega) (by omega) (by omega) (by rw [hl2]; omega) (fun k hk => by cases hk; rw [hl2]; omega) m5 hL5 m245 hS5 u1 u2 u3 u4 u5 (by rw [u6, Nat.add_sub_cancel]; rfl) hF5 ?_
    intro h6 dp6 rf rt' rd rl rm rp y1 y2 y3 y4 y5 y6 y7 y8 m6 hL6 m246 hdo6 hdi6 hS6 hU6 hF6
    have eC : ptc (some L.length) (ptc q L ++ [((0, cbt R dens size z, nI 0, 0, 0) : Ln)] ++ X) ++ lay R dens size way rest f i (z - 1) le (cbt R dens size z - 1) (L.length + 1 + X.length) = ptc q L ++ ((0, cbt R dens size z, nI (L.length + 1 + X.length), 0, 0) :: (X ++ lay R dens size way rest f i (z - 1) le (cbt R dens size z - 1) (L.length + 1 + X.length))) := by
      have := ptc_mid (A := ptc q L) (X := X) (l := (0, cbt R dens size z, nI 0, 0, 0))
      rw [hsl] at this
      rw [this, List.append_assoc, List.cons_append]
      rfl
    rw [hl2, eC] at m6 hL6
    refine hcont h6 dp6 _ _ _ _ _ _ _ _ _ _ _ _ _ _ m6 hL6 m246 (fun c hc => ?_) (fun c h1 h2 => ?_) hS6 (fun k hk => ?_) hF6
    · rw [hdo6 c (by omega), hdo c (by omega)]
    · by_cases hcz : c < z
      · rw [if_pos hcz, hdi6 c h1 (by omega)]
        congr 1
        omega
      · rw [if_neg hcz, hdo6 c (by omega), hdi c (by omega) h2]
        congr 1
        omega
    · obtain ⟨a1, a2, a3, a4, a5, a6⟩ := hU5 k (by omega)
      obtain ⟨b1, b2, b3, b4, b5, b6⟩ := hU6 k hk
      rw [pk_un (by omega), pk_un (by omega)] at a1 a2 a3 a6
      rw [uL_n (by omega), uL_n (by omega)] at a4 a5
      exact ⟨b1.trans a1, b2.trans a2, b3.trans a3, b4.trans a4, b5.trans a5, b6.trans a6⟩
end
