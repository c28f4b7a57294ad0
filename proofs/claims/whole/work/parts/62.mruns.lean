/-! the reference: runs -/
def candM (C : Cs) (rt : Nat) (f : Int) (k : Nat) : Prop := (C k).isSome = true ∧ (gC C k).2.2.1 ≠ rt ∧ f ≤ (gC C k).1.toInt
def selM (C : Cs) (rt : Nat) (f : Int) (n : Nat) (v : Int32) : Prop := (v = -1 ∧ ∀ j, j < n → ¬ candM C rt f j) ∨ ∃ i, i < n ∧ v = nI i ∧ candM C rt f i ∧ ∀ j, j < n → candM C rt f j → (gC C i).1.toInt ≤ (gC C j).1.toInt
theorem selM_head {C : Cs} {rt : Nat} {f : Int} {v : Int32} {todo : List Nat} (hcand : ∀ j, j < 24 → (candM C rt f j ↔ j ∈ todo)) (hsort : todo.Pairwise (fun a b => clo C a < clo C b)) (hlt : ∀ j ∈ todo, j < 24) (h : selM C rt f 24 v) : v = oI todo.head? := by
  cases todo with
  | nil =>
    rcases h with ⟨h1, h2⟩ | ⟨i, i1, i2, i3, i4⟩
    · exact h1
    · exact absurd ((hcand i i1).mp i3) List.not_mem_nil
  | cons i t =>
    have hi := hlt i List.mem_cons_self
    have hc := (hcand i hi).mpr List.mem_cons_self
    rcases h with ⟨h1, h2⟩ | ⟨k, i1, i2, i3, i4⟩
    · exact absurd hc (h2 i hi)
    · have h5 := i4 i hi hc
      rcases List.mem_cons.mp ((hcand k i1).mp i3) with q | q
      · rw [i2, q]; rfl
      · have := (List.pairwise_cons.mp hsort).1 k q
        unfold clo at this
        omega
def mRuns (h : xH) (R : List Run) : Prop := ∃ lo hi tg wt, h.1 36 = cI 0 24 lo ∧ h.1 37 = cI 0 24 hi ∧ h.1 38 = cI 0 24 tg ∧ h.1 39 = cI 0 24 wt ∧ Rep R lo hi tg wt
theorem mRuns.on {h h' : xH} {R : List Run} (hS : mRuns h R) (hF : ∀ q, (36 ≤ q ∧ q < 40) → h'.1 q = h.1 q) : mRuns h' R := by
  obtain ⟨a, b, c, d, h1, h2, h3, h4, h5⟩ := hS
  exact ⟨a, b, c, d, (hF _ (by omega)).trans h1, (hF _ (by omega)).trans h2, (hF _ (by omega)).trans h3, (hF _ (by omega)).trans h4, h5⟩
theorem mRuns.raw {h : xH} {R : List Run} (hS : mRuns h R) : mRw1 h := by
  obtain ⟨a, b, c, d, h1, h2, h3, h4, h5⟩ := hS
  exact ⟨a, b, c, d, h1, h2, h3, h4⟩
def runsG (C : Cs) (l : List Nat) : List Run := l.foldl (fun R i => jn R (gC C i)) []
def ordR (C : Cs) (rt : Nat) : List Nat := (ordL C).filter (fun i => (gC C i).2.2.1 != rt)
theorem runsG_of (C : Cs) (rt : Nat) : runsG C (ordR C rt) = runsOf C rt := rfl
theorem runsG_snoc {C : Cs} {l : List Nat} {i : Nat} : runsG C (l ++ [i]) = jn (runsG C l) (gC C i) := by
  unfold runsG
  rw [List.foldl_append]
  rfl
theorem foldl_len {C : Cs} : ∀ (l : List Nat) (R : List Run), (l.foldl (fun R i => jn R (gC C i)) R).length ≤ R.length + l.length
  | [], R => Nat.le_refl _
  | i :: l, R => by
    rw [List.foldl_cons, List.length_cons]
    have h1 := foldl_len (C := C) l (jn R (gC C i))
    have h2 := jn_len (R := R) (c := gC C i)
    omega
theorem runsG_len {C : Cs} (l : List Nat) : (runsG C l).length ≤ l.length := by
  have := foldl_len (C := C) l []
  unfold runsG
  simpa using this
theorem jn_tg {R : List Run} {c : Run} (hR : ∀ k, k < R.length → rtg R k < 16) (hc : c.2.2.1 < 16) : ∀ k, k < (jn R c).length → rtg (jn R c) k < 16 := by
  intro k hk
  unfold jn at hk ⊢
  split at hk
  · rename_i q
    rw [if_pos q]
    have hl1 : R.length - 1 < R.length := by
      unfold jnB at q
      rw [decide_eq_true_eq] at q
      omega
    unfold rtg jnM
    rw [gR_set hl1]
    split
    · exact hc
    · refine hR k ?_
      unfold jnM at hk
      simpa using hk
  · rename_i q
    rw [if_neg q]
    unfold rtg
    rw [gR_app]
    split
    · exact hc
    · refine hR k ?_
      rw [List.length_append, List.length_singleton] at hk
      omega
theorem runsG_tg {C : Cs} : ∀ (l : List Nat) (R : List Run), (∀ k, k < R.length → rtg R k < 16) → (∀ j ∈ l, (gC C j).2.2.1 < 16) → ∀ k, k < (l.foldl (fun R i => jn R (gC C i)) R).length → rtg (l.foldl (fun R i => jn R (gC C i)) R) k < 16
  | [], R, hR, _ => hR
  | i :: l, R, hR, hl => by
    rw [List.foldl_cons]
    exact runsG_tg l _ (jn_tg hR (hl i List.mem_cons_self)) (fun j hj => hl j (List.mem_cons_of_mem _ hj))
theorem ordR_mem {C : Cs} (hC : cOk C) {rt j : Nat} : j ∈ ordR C rt ↔ (C j).isSome = true ∧ (gC C j).2.2.1 ≠ rt := by
  unfold ordR
  rw [List.mem_filter, ord_mem hC]
  simp
theorem ordR_sort {C : Cs} (hC : cOk C) (rt : Nat) : (ordR C rt).Pairwise (fun a b => clo C a < clo C b) := (ord_sort hC).filter _
theorem ordR_len {C : Cs} (rt : Nat) : (ordR C rt).length ≤ 24 := Nat.le_trans (List.length_filter_le _ _) ord_len
section
variable {G : xG} {h : xH} {C : Cs} {rt : Nat}
theorem mr_inner {Q : Option Value → xH → Prop} {cs cl rw dn sz wy rn kn ln pt tk os : Int32} {th lo hi tg wt : Nat → Int32} {mo : Value} {z : Int64} (hr : rt < 16) (hC : cOk C) (m : h.1 30 = mO cs cl (nI rt) rw dn sz wy rn kn ln pt tk os) (m0 : h.1 31 = cI 2 24 th) (m1 : h.1 32 = cI 0 24 lo) (m3 : h.1 34 = cI 0 24 tg) (hR : MRep C th lo hi tg wt)
    (hcont : ∀ v x5 x6, selM C rt z.toInt 24 v → Ax G mX6_makeRuns 1 0 114 [.ref 30, mo, .long z, .null, .int v, x5, x6] [] h Q) :
    ∀ n k v x6, k + n = 24 → selM C rt z.toInt k v → Ax G mX6_makeRuns 1 0 21 [.ref 30, mo, .long z, .null, .int v, .int (nI k), x6] [] h Q := by
  intro n
  induction n with
  | zero =>
    intro k v x6 hk hv
    obtain rfl : k = 24 := by omega
    refine Ax_il5 dX6_makeRuns_21 ?_
    refine Ax_bp24 dX6_makeRuns_23 ?_
    refine Ax_cmpgen (tgt := 114) dX6_makeRuns_25 (by decide) (by omega) (by omega) (fun c25 => ?_) (fun c25 => ?_)
    · exact hcont _ _ _ hv
    · omega
  | succ n ih =>
    intro k v x6 hk hv
    have hk24 : k < 24 := by omega
    have hno : ¬ candM C rt z.toInt k → ∀ x6, Ax G mX6_makeRuns 1 0 69 [.ref 30, mo, .long z, .null, .int v, .int (nI k), x6] [] h Q := by
      intro q x6
      refine Ax_ic0 dX6_makeRuns_69 ?_
      refine Ax_is6 dX6_makeRuns_70 (Nat.le_of_ble_eq_true rfl) (by rfl) ?_
      refine Ax_il6 dX6_makeRuns_72 ?_
      refine Ax_ifeqn (tgt := 104) dX6_makeRuns_74 (by decide) (by omega) (fun c74 => ?_) (fun c74 => ?_)
      rotate_left
      · exact absurd rfl c74
      refine Ax_il4 dX6_makeRuns_104 ?_
      refine Ax_is4 dX6_makeRuns_106 (Nat.le_of_ble_eq_true rfl) (by rfl) ?_
      refine Ax_inc5_1n dX6_makeRuns_108 (Nat.le_of_ble_eq_true rfl) (by rfl) ?_
      refine Ax_goto (tgt := 21) dX6_makeRuns_111 (by decide) ?_
      refine ih (k + 1) v _ (by omega) ?_
      rcases hv with ⟨h1, h2⟩ | ⟨i, i1, i2, i3, i4⟩
      · refine Or.inl ⟨h1, fun j hj => ?_⟩
        rcases (show j < k ∨ j = k by omega) with e | e
        · exact h2 j e
        · subst e; exact q
      · refine Or.inr ⟨i, by omega, i2, i3, fun j hj w => ?_⟩
        rcases (show j < k ∨ j = k by omega) with e | e
        · exact i4 j e w
        · subst e; exact absurd w q
    refine Ax_il5 dX6_makeRuns_21 ?_
    refine Ax_bp24 dX6_makeRuns_23 ?_
    refine Ax_cmpgen (tgt := 114) dX6_makeRuns_25 (by decide) (by omega) (by omega) (fun c25 => ?_) (fun c25 => ?_)
    · omega
    refine Ax_al0 dX6_makeRuns_28 ?_
    refine Ax_getf kfX6 fX6_7 dX6_makeRuns_29 m rfl ?_
    refine Ax_il5 dX6_makeRuns_32 ?_
    refine Ax_zaldn dX6_makeRuns_34 m0 (by omega) (by omega) ?_
    refine Ax_top (hR k hk24).1 ?_
    refine Ax_ifeqB (tgt := 69) dX6_makeRuns_35 (by decide) (fun c35 => ?_) (fun c35 => ?_)
    · exact hno (fun q => by rw [q.1] at c35; cases c35) _
    obtain ⟨e1, e2, e3, e4⟩ := hR.g hk24 c35
    obtain ⟨c, hc⟩ := Option.isSome_iff_exists.mp c35
    have ht : (gC C k).2.2.1 < 16 := by rw [gC_some hc]; exact (hC.1 k c hc).2.2.1
    refine Ax_al0 dX6_makeRuns_38 ?_
    refine Ax_getf kfX6 fX6_20 dX6_makeRuns_39 m rfl ?_
    refine Ax_il5 dX6_makeRuns_42 ?_
    refine Ax_ialdn dX6_makeRuns_44 m3 (by omega) (by omega) ?_
    refine Ax_al0 dX6_makeRuns_45 ?_
    refine Ax_getf kfX6 fX6_125 dX6_makeRuns_46 m rfl ?_
    refine Ax_cmpeq (tgt := 69) dX6_makeRuns_49 (by decide) (fun c49 => ?_) (fun c49 => ?_)
    · refine hno (fun q => q.2.1 ?_) _
      rw [e3] at c49
      exact nI_inj (by omega) (by omega) c49
    have hne : (gC C k).2.2.1 ≠ rt := by
      intro q
      rw [e3, q] at c49
      exact c49 rfl
    refine Ax_al0 dX6_makeRuns_52 ?_
    refine Ax_getf kfX6 fX6_13 dX6_makeRuns_53 m rfl ?_
    refine Ax_il5 dX6_makeRuns_56 ?_
    refine Ax_ialdn dX6_makeRuns_58 m1 (by omega) (by omega) ?_
    refine Ax_i2l dX6_makeRuns_59 ?_
    refine Ax_ll2 dX6_makeRuns_60 ?_
    refine Ax_lcmp dX6_makeRuns_61 ?_
    refine Ax_ifltC (tgt := 69) dX6_makeRuns_62 (by decide) (fun c62 => ?_) (fun c62 => ?_)
    · refine hno (fun q => ?_) _
      have := q.2.2
      rw [e1, Int32.toInt_toInt64] at c62
      omega
    rw [e1, Int32.toInt_toInt64] at c62
    have hcd : candM C rt z.toInt k := ⟨c35, hne, c62⟩
    refine Ax_ic1 dX6_makeRuns_65 ?_
    refine Ax_goto (tgt := 70) dX6_makeRuns_66 (by decide) ?_
    refine Ax_is6 dX6_makeRuns_70 (Nat.le_of_ble_eq_true rfl) (by rfl) ?_
    refine Ax_il6 dX6_makeRuns_72 ?_
    refine Ax_ifeqn (tgt := 104) dX6_makeRuns_74 (by decide) (by omega) (fun c74 => ?_) (fun c74 => ?_)
    · exact absurd c74 (by decide)
    rcases hv with ⟨rfl, h2⟩ | ⟨i, i1, rfl, i3, i4⟩
    · refine Ax_il4 dX6_makeRuns_77 ?_
      refine Ax_iflt (tgt := 99) dX6_makeRuns_79 (by decide) (fun c79 => ?_) (fun c79 => ?_)
      rotate_left
      · exact absurd (by decide) c79
      refine Ax_il5 dX6_makeRuns_99 ?_
      refine Ax_goto (tgt := 106) dX6_makeRuns_101 (by decide) ?_
      refine Ax_is4 dX6_makeRuns_106 (Nat.le_of_ble_eq_true rfl) (by rfl) ?_
      refine Ax_inc5_1n dX6_makeRuns_108 (Nat.le_of_ble_eq_true rfl) (by rfl) ?_
      refine Ax_goto (tgt := 21) dX6_makeRuns_111 (by decide) ?_
      refine ih (k + 1) _ _ (by omega) (Or.inr ⟨k, by omega, rfl, hcd, fun j hj w => ?_⟩)
      rcases (show j < k ∨ j = k by omega) with e | e
      · exact absurd w (h2 j e)
      · subst e; exact Int.le_refl _
    · refine Ax_il4 dX6_makeRuns_77 ?_
      refine Ax_ifltn (tgt := 99) dX6_makeRuns_79 (by decide) (by omega) ?_
      refine Ax_al0 dX6_makeRuns_82 ?_
      refine Ax_getf kfX6 fX6_13 dX6_makeRuns_83 m rfl ?_
      refine Ax_il5 dX6_makeRuns_86 ?_
      refine Ax_ialdn dX6_makeRuns_88 m1 (by omega) (by omega) ?_
      refine Ax_al0 dX6_makeRuns_89 ?_
      refine Ax_getf kfX6 fX6_13 dX6_makeRuns_90 m rfl ?_
      refine Ax_il4 dX6_makeRuns_93 ?_
      refine Ax_ialdn dX6_makeRuns_95 m1 (by omega) (by omega) ?_
      refine Ax_cmpge (tgt := 104) dX6_makeRuns_96 (by decide) (fun c96 => ?_) (fun c96 => ?_)
      · obtain ⟨g1, -⟩ := hR.g (show i < 24 by omega) i3.1
        rw [e1, g1, Int32.le_iff_toInt_le] at c96
        refine Ax_il4 dX6_makeRuns_104 ?_
        refine Ax_is4 dX6_makeRuns_106 (Nat.le_of_ble_eq_true rfl) (by rfl) ?_
        refine Ax_inc5_1n dX6_makeRuns_108 (Nat.le_of_ble_eq_true rfl) (by rfl) ?_
        refine Ax_goto (tgt := 21) dX6_makeRuns_111 (by decide) ?_
        refine ih (k + 1) _ _ (by omega) (Or.inr ⟨i, by omega, rfl, i3, fun j hj w => ?_⟩)
        rcases (show j < k ∨ j = k by omega) with e | e
        · exact i4 j e w
        · subst e; exact c96
      · obtain ⟨g1, -⟩ := hR.g (show i < 24 by omega) i3.1
        rw [e1, g1, Int32.le_iff_toInt_le] at c96
        refine Ax_il5 dX6_makeRuns_99 ?_
        refine Ax_goto (tgt := 106) dX6_makeRuns_101 (by decide) ?_
        refine Ax_is4 dX6_makeRuns_106 (Nat.le_of_ble_eq_true rfl) (by rfl) ?_
        refine Ax_inc5_1n dX6_makeRuns_108 (Nat.le_of_ble_eq_true rfl) (by rfl) ?_
        refine Ax_goto (tgt := 21) dX6_makeRuns_111 (by decide) ?_
        refine ih (k + 1) _ _ (by omega) (Or.inr ⟨k, by omega, rfl, hcd, fun j hj w => ?_⟩)
        rcases (show j < k ∨ j = k by omega) with e | e
        · have := i4 j e w; omega
        · subst e; exact Int.le_refl _
theorem tX6_makeRuns {cs cl rw dn sz wy rn kn ln pt tk os : Int32} (hr : rt < 16) (hC : cOk C) (m : h.1 30 = mO cs cl (nI rt) rw dn sz wy rn kn ln pt tk os) (hCs : mCs h C) (hraw : mRw1 h) : AM G mX6_makeRuns 1 0 [.ref 30] h
    (fun r h' => r = none ∧ (h'.1 30 = mO cs cl (nI rt) rw dn sz wy (nI (runsOf C rt).length) kn ln pt tk os ∧ mRuns h' (runsOf C rt) ∧ (∀ q, (q < 30 ∨ (30 < q ∧ q < 36) ∨ 40 ≤ q) → h'.1 q = h.1 q) ∧ h'.2 = h.2)) := by
  obtain ⟨th, lo, hi, tg, wt, i0, i1, i2, i3, i4, hR⟩ := hCs
  obtain ⟨ql, qh, qt, qw, m12, m13, m14, m15⟩ := hraw
  have hsort := ordR_sort hC rt
  have hlenF := ordR_len (C := C) rt
  refine AM.of rfl rfl (Nat.le_of_ble_eq_true rfl) rfl ?_
  have fr : ∀ q, (q < 30 ∨ (30 < q ∧ q < 36) ∨ 40 ≤ q) → h.1 q = h.1 q := fun _ _ => rfl
  have zr : h.2 = h.2 := rfl
  refine Ax_al0 dX6_makeRuns_0 ?_
  refine Ax_ic0 dX6_makeRuns_1 ?_
  refine Ax_putf kfX6 fX6_138 dX6_makeRuns_2 m (Nat.le_of_ble_eq_true rfl) (Or.inl rfl) (by rfl) (by rfl) (Ax_up (fun h1 e1 f1 z1 => ?_))
  replace m := e1
  replace m12 := (f1 _ (by omega)).trans m12
  replace m13 := (f1 _ (by omega)).trans m13
  replace m14 := (f1 _ (by omega)).trans m14
  replace m15 := (f1 _ (by omega)).trans m15
  replace fr : ∀ q, (q < 30 ∨ (30 < q ∧ q < 36) ∨ 40 ≤ q) → h1.1 q = h.1 q := fun q hq => (f1 q (by omega)).trans (fr q hq)
  replace zr := z1.trans zr
  refine Ax_ic1 dX6_makeRuns_5 ?_
  refine Ax_is1 dX6_makeRuns_6 (Nat.le_of_ble_eq_true rfl) (by rfl) ?_
  refine Ax_ldc2 dX6_makeRuns_7 cX6_141 ?_
  refine Ax_ls2 dX6_makeRuns_10 (Nat.le_of_ble_eq_true rfl) (by rfl) ?_
  suffices hloop : ∀ (todo done : List Nat) (hh : xH) (z : Int64) (x4 x5 x6 : Value) (ql qh qt qw : Nat → Int32), ordR C rt = done ++ todo → (∀ j ∈ done, (gC C j).1.toInt < z.toInt) → (∀ j ∈ todo, z.toInt ≤ (gC C j).1.toInt) →
      hh.1 30 = mO cs cl (nI rt) rw dn sz wy (nI (runsG C done).length) kn ln pt tk os → hh.1 36 = cI 0 24 ql → hh.1 37 = cI 0 24 qh → hh.1 38 = cI 0 24 qt → hh.1 39 = cI 0 24 qw → Rep (runsG C done) ql qh qt qw → (∀ q, (q < 30 ∨ (30 < q ∧ q < 36) ∨ 40 ≤ q) → hh.1 q = h.1 q) → hh.2 = h.2 →
      Ax G mX6_makeRuns 1 0 11 [.ref 30, .int (nI 1), .long z, .null, x4, x5, x6] [] hh (fun r h' => r = none ∧ (h'.1 30 = mO cs cl (nI rt) rw dn sz wy (nI (runsOf C rt).length) kn ln pt tk os ∧ mRuns h' (runsOf C rt) ∧ (∀ q, (q < 30 ∨ (30 < q ∧ q < 36) ∨ 40 ≤ q) → h'.1 q = h.1 q) ∧ h'.2 = h.2)) from
    hloop (ordR C rt) [] h1 _ _ _ _ _ _ _ _ rfl (fun j hj => absurd hj List.not_mem_nil) (fun j _ => by rw [L_mn]; exact I_lo _) m m12 m13 m14 m15 (fun k hk => absurd hk (Nat.not_lt_zero _)) fr zr
  clear m m12 m13 m14 m15 fr zr
  intro todo
  induction todo with
  | nil =>
    intro done hh z x4 x5 x6 ql qh qt qw hF hd ht m m12 m13 m14 m15 hRep fr zr
    have m0 := (fr 31 (by omega)).trans i0
    have m1 := (fr 32 (by omega)).trans i1
    have m3 := (fr 34 (by omega)).trans i3
    have hF' : done = ordR C rt := by rw [hF, List.append_nil]
    subst hF'
    refine Ax_il1 dX6_makeRuns_11 ?_
    refine Ax_ifeqn (tgt := 313) dX6_makeRuns_12 (by decide) (by omega) (fun c12 => ?_) (fun c12 => ?_)
    · exact absurd c12 (by decide)
    refine Ax_icm1 dX6_makeRuns_15 ?_
    refine Ax_is4 dX6_makeRuns_16 (Nat.le_of_ble_eq_true rfl) (by rfl) ?_
    refine Ax_ic0 dX6_makeRuns_18 ?_
    refine Ax_is5 dX6_makeRuns_19 (Nat.le_of_ble_eq_true rfl) (by rfl) ?_
    refine mr_inner hr hC m m0 m1 m3 hR (fun v x5 x6 hv => ?_) 24 0 _ _ rfl (Or.inl ⟨rfl, fun j hj => absurd hj (Nat.not_lt_zero _)⟩)
    have hv' := selM_head (todo := []) (fun j hj => ⟨fun q => by have := hd j ((ordR_mem hC).mpr ⟨q.1, q.2.1⟩); have := q.2.2; omega, fun q => absurd q List.not_mem_nil⟩) List.Pairwise.nil (fun j hj => absurd hj List.not_mem_nil) hv
    subst hv'
    refine Ax_il4 dX6_makeRuns_114 ?_
    refine Ax_iflt (tgt := 123) dX6_makeRuns_116 (by decide) (fun c116 => ?_) (fun c116 => ?_)
    rotate_left
    · exact absurd (by decide) c116
    refine Ax_ic0 dX6_makeRuns_123 ?_
    refine Ax_is1 dX6_makeRuns_124 (Nat.le_of_ble_eq_true rfl) (by rfl) ?_
    refine Ax_il1 dX6_makeRuns_125 ?_
    refine Ax_ifeqn (tgt := 310) dX6_makeRuns_126 (by decide) (by omega) (fun c126 => ?_) (fun c126 => ?_)
    rotate_left
    · exact absurd rfl c126
    refine Ax_goto (tgt := 11) dX6_makeRuns_310 (by decide) ?_
    refine Ax_il1 dX6_makeRuns_11 ?_
    refine Ax_ifeqn (tgt := 313) dX6_makeRuns_12 (by decide) (by omega) (fun c12 => ?_) (fun c12 => ?_)
    rotate_left
    · exact absurd rfl c12
    exact Ax_ret dX6_makeRuns_313 rfl ⟨rfl, m, ⟨ql, qh, qt, qw, m12, m13, m14, m15, hRep⟩, fr, zr⟩
  | cons i t ih =>
    intro done hh z x4 x5 x6 ql qh qt qw hF hd ht m m12 m13 m14 m15 hRep fr zr
    have m0 := (fr 31 (by omega)).trans i0
    have m1 := (fr 32 (by omega)).trans i1
    have m2 := (fr 33 (by omega)).trans i2
    have m3 := (fr 34 (by omega)).trans i3
    have m4 := (fr 35 (by omega)).trans i4
    have him : i ∈ ordR C rt := by rw [hF]; simp
    obtain ⟨his, hit⟩ := (ordR_mem hC).mp him
    obtain ⟨c, hc⟩ := Option.isSome_iff_exists.mp his
    have hcc := hC.1 i c hc
    have hi24 := hcc.1
    obtain ⟨e1, e2, e3, e4⟩ := hR.g hi24 his
    have hgc := gC_some hc
    have hlen := runsG_len (C := C) done
    have hlen2 : (ordR C rt).length = done.length + (t.length + 1) := by rw [hF, List.length_append, List.length_cons]
    have hs2 := hsort
    rw [hF, List.pairwise_append] at hs2
    have hih1 := I_hi (gC C i).2.1
    have hih2 := I_lo (gC C i).2.1
    have hlh : (gC C i).1.toInt ≤ (gC C i).2.1.toInt := by rw [hgc]; exact hcc.2.1
    have ez : ((gC C i).2.1.toInt64 + lN 1).toInt = (gC C i).2.1.toInt + 1 := by
      rw [L_add (by rw [Int32.toInt_toInt64, L_1]; omega) (by rw [Int32.toInt_toInt64, L_1]; omega), Int32.toInt_toInt64, L_1]
    have hd' : ∀ j ∈ done ++ [i], (gC C j).1.toInt < ((gC C i).2.1.toInt64 + lN 1).toInt := by
      intro j hj
      rw [ez]
      rcases List.mem_append.mp hj with q | q
      · have := hd j q
        have := ht i List.mem_cons_self
        omega
      · rw [List.mem_singleton.mp q]; omega
    have ht' : ∀ j ∈ t, ((gC C i).2.1.toInt64 + lN 1).toInt ≤ (gC C j).1.toInt := by
      intro j hj
      rw [ez]
      have h5 := (List.pairwise_cons.mp hs2.2.1).1 j hj
      unfold clo at h5
      obtain ⟨hjs, -⟩ := (ordR_mem (rt := rt) hC).mp (by rw [hF]; simp [hj] : j ∈ ordR C rt)
      obtain ⟨d, hd⟩ := Option.isSome_iff_exists.mp hjs
      have hij : i ≠ j := by intro e; rw [e] at h5; omega
      have h6 := hC.2 i j c d hij hc hd
      have h7 := (hC.1 j d hd).2.1
      rw [hgc, gC_some hd] at h5
      rw [hgc, gC_some hd]
      omega
    have happ : jnB (runsG C done) (gC C i) = false → ∀ x5 x6, Ax G mX6_makeRuns 1 0 236 [.ref 30, .int (nI 1), .long ((gC C i).2.1.toInt64 + lN 1), .null, .int (nI i), x5, x6] [] hh (fun r h' => r = none ∧ (h'.1 30 = mO cs cl (nI rt) rw dn sz wy (nI (runsOf C rt).length) kn ln pt tk os ∧ mRuns h' (runsOf C rt) ∧ (∀ q, (q < 30 ∨ (30 < q ∧ q < 36) ∨ 40 ≤ q) → h'.1 q = h.1 q) ∧ h'.2 = h.2)) := by
      intro q x5 x6
      have eR : runsG C (done ++ [i]) = runsG C done ++ [gC C i] := by rw [runsG_snoc]; unfold jn; rw [if_neg (by rw [q]; decide)]
      refine Ax_al0 dX6_makeRuns_236 ?_
      refine Ax_getf kfX6 fX6_36 dX6_makeRuns_237 m rfl ?_
      refine Ax_al0 dX6_makeRuns_240 ?_
      refine Ax_getf kfX6 fX6_138 dX6_makeRuns_241 m rfl ?_
      refine Ax_al0 dX6_makeRuns_244 ?_
      refine Ax_getf kfX6 fX6_13 dX6_makeRuns_245 m rfl ?_
      refine Ax_il4 dX6_makeRuns_248 ?_
      refine Ax_ialdn dX6_makeRuns_250 m1 (by omega) (by omega) ?_
      refine Ax_top e1 ?_
      refine Ax_iastn dX6_makeRuns_251 m12 (by omega) (by omega) (Ax_up (fun h1 e1 f1 z1 => ?_))
      replace m := (f1 _ (by omega)).trans m
      replace m0 := (f1 _ (by omega)).trans m0
      replace m1 := (f1 _ (by omega)).trans m1
      replace m2 := (f1 _ (by omega)).trans m2
      replace m3 := (f1 _ (by omega)).trans m3
      replace m4 := (f1 _ (by omega)).trans m4
      replace m12 := e1
      replace m13 := (f1 _ (by omega)).trans m13
      replace m14 := (f1 _ (by omega)).trans m14
      replace m15 := (f1 _ (by omega)).trans m15
      replace fr : ∀ q, (q < 30 ∨ (30 < q ∧ q < 36) ∨ 40 ≤ q) → h1.1 q = h.1 q := fun q hq => (f1 q (by omega)).trans (fr q hq)
      replace zr := z1.trans zr
      refine Ax_al0 dX6_makeRuns_252 ?_
      refine Ax_getf kfX6 fX6_39 dX6_makeRuns_253 m rfl ?_
      refine Ax_al0 dX6_makeRuns_256 ?_
      refine Ax_getf kfX6 fX6_138 dX6_makeRuns_257 m rfl ?_
      refine Ax_al0 dX6_makeRuns_260 ?_
      refine Ax_getf kfX6 fX6_17 dX6_makeRuns_261 m rfl ?_
      refine Ax_il4 dX6_makeRuns_264 ?_
      refine Ax_ialdn dX6_makeRuns_266 m2 (by omega) (by omega) ?_
      refine Ax_top e2 ?_
      refine Ax_iastn dX6_makeRuns_267 m13 (by omega) (by omega) (Ax_up (fun h2 e2 f2 z2 => ?_))
      replace m := (f2 _ (by omega)).trans m
      replace m0 := (f2 _ (by omega)).trans m0
      replace m1 := (f2 _ (by omega)).trans m1
      replace m2 := (f2 _ (by omega)).trans m2
      replace m3 := (f2 _ (by omega)).trans m3
      replace m4 := (f2 _ (by omega)).trans m4
      replace m12 := (f2 _ (by omega)).trans m12
      replace m13 := e2
      replace m14 := (f2 _ (by omega)).trans m14
      replace m15 := (f2 _ (by omega)).trans m15
      replace fr : ∀ q, (q < 30 ∨ (30 < q ∧ q < 36) ∨ 40 ≤ q) → h2.1 q = h.1 q := fun q hq => (f2 q (by omega)).trans (fr q hq)
      replace zr := z2.trans zr
      refine Ax_al0 dX6_makeRuns_268 ?_
      refine Ax_getf kfX6 fX6_42 dX6_makeRuns_269 m rfl ?_
      refine Ax_al0 dX6_makeRuns_272 ?_
      refine Ax_getf kfX6 fX6_138 dX6_makeRuns_273 m rfl ?_
      refine Ax_al0 dX6_makeRuns_276 ?_
      refine Ax_getf kfX6 fX6_20 dX6_makeRuns_277 m rfl ?_
      refine Ax_il4 dX6_makeRuns_280 ?_
      refine Ax_ialdn dX6_makeRuns_282 m3 (by omega) (by omega) ?_
      refine Ax_top e3 ?_
      refine Ax_iastn dX6_makeRuns_283 m14 (by omega) (by omega) (Ax_up (fun h3 e3 f3 z3 => ?_))
      replace m := (f3 _ (by omega)).trans m
      replace m0 := (f3 _ (by omega)).trans m0
      replace m1 := (f3 _ (by omega)).trans m1
      replace m2 := (f3 _ (by omega)).trans m2
      replace m3 := (f3 _ (by omega)).trans m3
      replace m4 := (f3 _ (by omega)).trans m4
      replace m12 := (f3 _ (by omega)).trans m12
      replace m13 := (f3 _ (by omega)).trans m13
      replace m14 := e3
      replace m15 := (f3 _ (by omega)).trans m15
      replace fr : ∀ q, (q < 30 ∨ (30 < q ∧ q < 36) ∨ 40 ≤ q) → h3.1 q = h.1 q := fun q hq => (f3 q (by omega)).trans (fr q hq)
      replace zr := z3.trans zr
      refine Ax_al0 dX6_makeRuns_284 ?_
      refine Ax_getf kfX6 fX6_45 dX6_makeRuns_285 m rfl ?_
      refine Ax_al0 dX6_makeRuns_288 ?_
      refine Ax_getf kfX6 fX6_138 dX6_makeRuns_289 m rfl ?_
      refine Ax_al0 dX6_makeRuns_292 ?_
      refine Ax_getf kfX6 fX6_23 dX6_makeRuns_293 m rfl ?_
      refine Ax_il4 dX6_makeRuns_296 ?_
      refine Ax_ialdn dX6_makeRuns_298 m4 (by omega) (by omega) ?_
      refine Ax_top e4 ?_
      refine Ax_iastn dX6_makeRuns_299 m15 (by omega) (by omega) (Ax_up (fun h4 e4 f4 z4 => ?_))
      replace m := (f4 _ (by omega)).trans m
      replace m0 := (f4 _ (by omega)).trans m0
      replace m1 := (f4 _ (by omega)).trans m1
      replace m2 := (f4 _ (by omega)).trans m2
      replace m3 := (f4 _ (by omega)).trans m3
      replace m4 := (f4 _ (by omega)).trans m4
      replace m12 := (f4 _ (by omega)).trans m12
      replace m13 := (f4 _ (by omega)).trans m13
      replace m14 := (f4 _ (by omega)).trans m14
      replace m15 := e4
      replace fr : ∀ q, (q < 30 ∨ (30 < q ∧ q < 36) ∨ 40 ≤ q) → h4.1 q = h.1 q := fun q hq => (f4 q (by omega)).trans (fr q hq)
      replace zr := z4.trans zr
      refine Ax_al0 dX6_makeRuns_300 ?_
      refine Ax_dup dX6_makeRuns_301 rfl ?_
      refine Ax_getf kfX6 fX6_138 dX6_makeRuns_302 m rfl ?_
      refine Ax_ic1 dX6_makeRuns_305 ?_
      refine Ax_iaddn dX6_makeRuns_306 ?_
      refine Ax_putf kfX6 fX6_138 dX6_makeRuns_307 m (Nat.le_of_ble_eq_true rfl) (Or.inl rfl) (by rfl) (by rfl) (Ax_up (fun h5 e5 f5 z5 => ?_))
      replace m := e5
      replace m0 := (f5 _ (by omega)).trans m0
      replace m1 := (f5 _ (by omega)).trans m1
      replace m2 := (f5 _ (by omega)).trans m2
      replace m3 := (f5 _ (by omega)).trans m3
      replace m4 := (f5 _ (by omega)).trans m4
      replace m12 := (f5 _ (by omega)).trans m12
      replace m13 := (f5 _ (by omega)).trans m13
      replace m14 := (f5 _ (by omega)).trans m14
      replace m15 := (f5 _ (by omega)).trans m15
      replace fr : ∀ q, (q < 30 ∨ (30 < q ∧ q < 36) ∨ 40 ≤ q) → h5.1 q = h.1 q := fun q hq => (f5 q (by omega)).trans (fr q hq)
      replace zr := z5.trans zr
      refine Ax_goto (tgt := 11) dX6_makeRuns_310 (by decide) ?_
      exact ih (done ++ [i]) _ _ _ _ _ _ _ _ _ (by rw [hF]; simp) hd' ht' (by rw [eR, List.length_append]; exact m) m12 m13 m14 m15 (by rw [eR]; exact hRep.app _) fr zr
    refine Ax_il1 dX6_makeRuns_11 ?_
    refine Ax_ifeqn (tgt := 313) dX6_makeRuns_12 (by decide) (by omega) (fun c12 => ?_) (fun c12 => ?_)
    · exact absurd c12 (by decide)
    refine Ax_icm1 dX6_makeRuns_15 ?_
    refine Ax_is4 dX6_makeRuns_16 (Nat.le_of_ble_eq_true rfl) (by rfl) ?_
    refine Ax_ic0 dX6_makeRuns_18 ?_
    refine Ax_is5 dX6_makeRuns_19 (Nat.le_of_ble_eq_true rfl) (by rfl) ?_
    refine mr_inner hr hC m m0 m1 m3 hR (fun v x5 x6 hv => ?_) 24 0 _ _ rfl (Or.inl ⟨rfl, fun j hj => absurd hj (Nat.not_lt_zero _)⟩)
    have hv' := selM_head (todo := i :: t) (fun j hj => ⟨fun q => by
        have hm := (ordR_mem (rt := rt) hC).mpr ⟨q.1, q.2.1⟩
        rw [hF] at hm
        rcases List.mem_append.mp hm with w | w
        · have := hd j w; have := q.2.2; omega
        · exact w, fun q => by
        have hm : j ∈ ordR C rt := by rw [hF]; exact List.mem_append.mpr (Or.inr q)
        obtain ⟨w1, w2⟩ := (ordR_mem hC).mp hm
        exact ⟨w1, w2, ht j q⟩⟩) hs2.2.1 (fun j hj => by
        have hm : j ∈ ordR C rt := by rw [hF]; exact List.mem_append.mpr (Or.inr hj)
        obtain ⟨d, hd⟩ := Option.isSome_iff_exists.mp ((ordR_mem hC).mp hm).1
        exact (hC.1 j d hd).1) hv
    subst hv'
    show Ax G mX6_makeRuns 1 0 114 [.ref 30, .int (nI 1), .long z, .null, .int (nI i), x5, x6] [] hh _
    refine Ax_il4 dX6_makeRuns_114 ?_
    refine Ax_ifltn (tgt := 123) dX6_makeRuns_116 (by decide) (by omega) ?_
    refine Ax_ic1 dX6_makeRuns_119 ?_
    refine Ax_goto (tgt := 124) dX6_makeRuns_120 (by decide) ?_
    refine Ax_is1 dX6_makeRuns_124 (Nat.le_of_ble_eq_true rfl) (by rfl) ?_
    refine Ax_il1 dX6_makeRuns_125 ?_
    refine Ax_ifeqn (tgt := 310) dX6_makeRuns_126 (by decide) (by omega) (fun c126 => ?_) (fun c126 => ?_)
    · exact absurd c126 (by decide)
    refine Ax_al0 dX6_makeRuns_129 ?_
    refine Ax_getf kfX6 fX6_17 dX6_makeRuns_130 m rfl ?_
    refine Ax_il4 dX6_makeRuns_133 ?_
    refine Ax_ialdn dX6_makeRuns_135 m2 (by omega) (by omega) ?_
    refine Ax_top e2 ?_
    refine Ax_i2l dX6_makeRuns_136 ?_
    refine Ax_lc1 dX6_makeRuns_137 ?_
    refine Ax_ladd dX6_makeRuns_138 ?_
    refine Ax_ls2 dX6_makeRuns_139 (Nat.le_of_ble_eq_true rfl) (by rfl) ?_
    refine Ax_al0 dX6_makeRuns_140 ?_
    refine Ax_getf kfX6 fX6_138 dX6_makeRuns_141 m rfl ?_
    refine Ax_iflen (tgt := 236) dX6_makeRuns_144 (by decide) (by omega) (fun c144 => ?_) (fun c144 => ?_)
    · refine happ ?_ _ _
      unfold jnB
      rw [decide_eq_false]
      omega
    have hl1 : (runsG C done).length - 1 < (runsG C done).length := by omega
    obtain ⟨r1, r2, r3, r4⟩ := hRep _ hl1
    have hrh := I_hi (rhi (runsG C done) ((runsG C done).length - 1))
    have hrl := I_lo (rhi (runsG C done) ((runsG C done).length - 1))
    have ey : ((rhi (runsG C done) ((runsG C done).length - 1)).toInt64 + lN 1).toInt = (rhi (runsG C done) ((runsG C done).length - 1)).toInt + 1 := by
      rw [L_add (by rw [Int32.toInt_toInt64, L_1]; omega) (by rw [Int32.toInt_toInt64, L_1]; omega), Int32.toInt_toInt64, L_1]
    refine Ax_al0 dX6_makeRuns_147 ?_
    refine Ax_getf kfX6 fX6_39 dX6_makeRuns_148 m rfl ?_
    refine Ax_al0 dX6_makeRuns_151 ?_
    refine Ax_getf kfX6 fX6_138 dX6_makeRuns_152 m rfl ?_
    refine Ax_ic1 dX6_makeRuns_155 ?_
    refine Ax_isubn dX6_makeRuns_156 (by omega) ?_
    refine Ax_ialdn dX6_makeRuns_157 m13 (by omega) (by omega) ?_
    refine Ax_top r2 ?_
    refine Ax_i2l dX6_makeRuns_158 ?_
    refine Ax_lc1 dX6_makeRuns_159 ?_
    refine Ax_ladd dX6_makeRuns_160 ?_
    refine Ax_al0 dX6_makeRuns_161 ?_
    refine Ax_getf kfX6 fX6_13 dX6_makeRuns_162 m rfl ?_
    refine Ax_il4 dX6_makeRuns_165 ?_
    refine Ax_ialdn dX6_makeRuns_167 m1 (by omega) (by omega) ?_
    refine Ax_top e1 ?_
    refine Ax_i2l dX6_makeRuns_168 ?_
    refine Ax_lcmp dX6_makeRuns_169 ?_
    refine Ax_ifneC (tgt := 236) dX6_makeRuns_170 (by decide) (fun c170 => ?_) (fun c170 => ?_)
    · rw [ey, Int32.toInt_toInt64] at c170
      refine happ ?_ _ _
      unfold jnB
      rw [decide_eq_false]
      omega
    rw [ey, Int32.toInt_toInt64] at c170
    refine Ax_al0 dX6_makeRuns_173 ?_
    refine Ax_getf kfX6 fX6_42 dX6_makeRuns_174 m rfl ?_
    refine Ax_al0 dX6_makeRuns_177 ?_
    refine Ax_getf kfX6 fX6_138 dX6_makeRuns_178 m rfl ?_
    refine Ax_ic1 dX6_makeRuns_181 ?_
    refine Ax_isubn dX6_makeRuns_182 (by omega) ?_
    refine Ax_ialdn dX6_makeRuns_183 m14 (by omega) (by omega) ?_
    refine Ax_al0 dX6_makeRuns_184 ?_
    refine Ax_getf kfX6 fX6_20 dX6_makeRuns_185 m rfl ?_
    refine Ax_il4 dX6_makeRuns_188 ?_
    refine Ax_ialdn dX6_makeRuns_190 m3 (by omega) (by omega) ?_
    refine Ax_cmpne (tgt := 236) dX6_makeRuns_191 (by decide) (fun c191 => ?_) (fun c191 => ?_)
    · rw [r3, e3] at c191
      refine happ ?_ _ _
      unfold jnB
      rw [decide_eq_false]
      intro w
      exact c191 (by rw [w.2.1])
    rw [r3, e3] at c191
    have hRI : rtg (runsG C done) ((runsG C done).length - 1) = (gC C i).2.2.1 := by
      refine nI_inj ?_ ?_ c191
      · have := runsG_tg (C := C) done [] (fun k hk => absurd hk (Nat.not_lt_zero _)) (fun j hj => by
          obtain ⟨hjs, -⟩ := (ordR_mem (rt := rt) hC).mp (by rw [hF]; simp [hj] : j ∈ ordR C rt)
          obtain ⟨d, hd⟩ := Option.isSome_iff_exists.mp hjs
          rw [gC_some hd]
          exact (hC.1 j d hd).2.2.1) _ hl1
        show rtg (runsG C done) _ < 2147483648
        exact Nat.lt_trans this (by decide)
      · rw [hgc]; have := hcc.2.2.1; omega
    have hjb : jnB (runsG C done) (gC C i) = true := by
      unfold jnB
      rw [decide_eq_true_eq]
      exact ⟨c144, hRI, c170⟩
    have eR : runsG C (done ++ [i]) = jnM (runsG C done) (gC C i) := by rw [runsG_snoc]; unfold jn; rw [if_pos hjb]
    have eL : (jnM (runsG C done) (gC C i)).length = (runsG C done).length := by unfold jnM; simp
    refine Ax_al0 dX6_makeRuns_194 ?_
    refine Ax_getf kfX6 fX6_39 dX6_makeRuns_195 m rfl ?_
    refine Ax_al0 dX6_makeRuns_198 ?_
    refine Ax_getf kfX6 fX6_138 dX6_makeRuns_199 m rfl ?_
    refine Ax_ic1 dX6_makeRuns_202 ?_
    refine Ax_isubn dX6_makeRuns_203 (by omega) ?_
    refine Ax_al0 dX6_makeRuns_204 ?_
    refine Ax_getf kfX6 fX6_17 dX6_makeRuns_205 m rfl ?_
    refine Ax_il4 dX6_makeRuns_208 ?_
    refine Ax_ialdn dX6_makeRuns_210 m2 (by omega) (by omega) ?_
    refine Ax_top e2 ?_
    refine Ax_iastn dX6_makeRuns_211 m13 (by omega) (by omega) (Ax_up (fun h1 e1 f1 z1 => ?_))
    replace m := (f1 _ (by omega)).trans m
    replace m0 := (f1 _ (by omega)).trans m0
    replace m1 := (f1 _ (by omega)).trans m1
    replace m2 := (f1 _ (by omega)).trans m2
    replace m3 := (f1 _ (by omega)).trans m3
    replace m4 := (f1 _ (by omega)).trans m4
    replace m12 := (f1 _ (by omega)).trans m12
    replace m13 := e1
    replace m14 := (f1 _ (by omega)).trans m14
    replace m15 := (f1 _ (by omega)).trans m15
    replace fr : ∀ q, (q < 30 ∨ (30 < q ∧ q < 36) ∨ 40 ≤ q) → h1.1 q = h.1 q := fun q hq => (f1 q (by omega)).trans (fr q hq)
    replace zr := z1.trans zr
    refine Ax_al0 dX6_makeRuns_212 ?_
    refine Ax_getf kfX6 fX6_45 dX6_makeRuns_213 m rfl ?_
    refine Ax_al0 dX6_makeRuns_216 ?_
    refine Ax_getf kfX6 fX6_138 dX6_makeRuns_217 m rfl ?_
    refine Ax_ic1 dX6_makeRuns_220 ?_
    refine Ax_isubn dX6_makeRuns_221 (by omega) ?_
    refine Ax_dup2 dX6_makeRuns_222 rfl rfl ?_
    refine Ax_ialdn dX6_makeRuns_223 m15 (by omega) (by omega) ?_
    refine Ax_al0 dX6_makeRuns_224 ?_
    refine Ax_getf kfX6 fX6_23 dX6_makeRuns_225 m rfl ?_
    refine Ax_il4 dX6_makeRuns_228 ?_
    refine Ax_ialdn dX6_makeRuns_230 m4 (by omega) (by omega) ?_
    refine Ax_top e4 ?_
    refine Ax_iadd dX6_makeRuns_231 ?_
    refine Ax_iastn dX6_makeRuns_232 m15 (by omega) (by omega) (Ax_up (fun h2 e2 f2 z2 => ?_))
    replace m := (f2 _ (by omega)).trans m
    replace m0 := (f2 _ (by omega)).trans m0
    replace m1 := (f2 _ (by omega)).trans m1
    replace m2 := (f2 _ (by omega)).trans m2
    replace m3 := (f2 _ (by omega)).trans m3
    replace m4 := (f2 _ (by omega)).trans m4
    replace m12 := (f2 _ (by omega)).trans m12
    replace m13 := (f2 _ (by omega)).trans m13
    replace m14 := (f2 _ (by omega)).trans m14
    replace m15 := e2
    replace fr : ∀ q, (q < 30 ∨ (30 < q ∧ q < 36) ∨ 40 ≤ q) → h2.1 q = h.1 q := fun q hq => (f2 q (by omega)).trans (fr q hq)
    replace zr := z2.trans zr
    refine Ax_goto (tgt := 310) dX6_makeRuns_233 (by decide) ?_
    refine Ax_goto (tgt := 11) dX6_makeRuns_310 (by decide) ?_
    exact ih (done ++ [i]) _ _ _ _ _ _ _ _ _ (by rw [hF]; simp) hd' ht' (by rw [eR, eL]; exact m) m12 m13 m14 m15 (by rw [eR]; exact hRep.mrg (by omega) hRI) fr zr
end
