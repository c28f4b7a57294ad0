/-! the reference: bottom, top, weights, the tree -/
theorem uL_s {f : Nat → Int64} {k : Nat} {x : Int64} : vp_updL f k x k = x := by simp [vp_updL]
theorem uL_n {f : Nat → Int64} {k q : Nat} {x : Int64} (h : q ≠ k) : vp_updL f k x q = f q := by simp [vp_updL, h]
def mTree (h : xH) (R : List Run) (dens size way : Nat) : Prop := ∃ co sp, h.1 44 = cJ 576 co ∧ h.1 45 = cI 0 576 sp ∧ ∀ i j, i < j → j < (clsOf R dens size).length → sp (24 * i + j) = nI (spF R dens size way i j)
theorem mTree.on {h h' : xH} {R : List Run} {dens size way : Nat} (hS : mTree h R dens size way) (hF : ∀ q, (44 ≤ q ∧ q < 46) → h'.1 q = h.1 q) : mTree h' R dens size way := by
  obtain ⟨a, b, h1, h2, h3⟩ := hS
  exact ⟨a, b, (hF _ (by omega)).trans h1, (hF _ (by omega)).trans h2, h3⟩
theorem mTree.raw {h : xH} {R : List Run} {dens size way : Nat} (hS : mTree h R dens size way) : mRw3 h := by
  obtain ⟨a, b, h1, h2, h3⟩ := hS
  exact ⟨a, b, h1, h2⟩
def MT (R : List Run) (dens size way : Nat) (co : Nat → Int64) (sp : Nat → Int32) (s ii : Nat) : Prop := ∀ i j, i ≤ j → j < (clsOf R dens size).length → (j - i + 1 < s ∨ (j - i + 1 = s ∧ i < ii)) → (i < j → sp (24 * i + j) = nI (spF R dens size way i j)) ∧ (way = 1 → co (24 * i + j) = lN (cst (wF R dens size) i j))
theorem MT.step {R : List Run} {dens size way : Nat} {co co' : Nat → Int64} {sp sp' : Nat → Int32} {s ii p : Nat} (hM : MT R dens size way co sp s ii) (hn : (clsOf R dens size).length ≤ 24) (hs : 1 ≤ s) (hi : ii + s ≤ (clsOf R dens size).length) (hp : p = 24 * ii + (ii + s - 1)) (h1 : ∀ q, q ≠ p → co' q = co q) (h2 : ∀ q, q ≠ p → sp' q = sp q)
    (h3 : 1 < s → sp' p = nI (spF R dens size way ii (ii + s - 1))) (h4 : way = 1 → co' p = lN (cst (wF R dens size) ii (ii + s - 1))) : MT R dens size way co' sp' s (ii + 1) := by
  intro i j g1 g2 g3
  by_cases e : i = ii ∧ j = ii + s - 1
  · obtain ⟨rfl, rfl⟩ := e
    rw [← hp]
    exact ⟨fun q => h3 (by omega), h4⟩
  · have hne : 24 * i + j ≠ p := by omega
    rw [h1 _ hne, h2 _ hne]
    exact hM i j g1 g2 (by omega)
theorem MT.next {R : List Run} {dens size way : Nat} {co : Nat → Int64} {sp : Nat → Int32} {s ii : Nat} (hM : MT R dens size way co sp s ii) (hi : (clsOf R dens size).length < ii + s) : MT R dens size way co sp (s + 1) 0 := fun i j g1 g2 g3 => hM i j g1 g2 (by omega)
section
variable {G : xG} {h : xH} {R : List Run} {dens size : Nat}
theorem tX6_bottom {cs cq rt rw dn sz wy rn kn ln pt tk os : Int32} (m : h.1 30 = mO cs cq rt rw dn sz wy rn kn ln pt tk os) (hV : mRuns h R) (hK : mCls h R dens size) (hl : R.length ≤ 24) {c : Nat} (hc : c < (clsOf R dens size).length) : AM G mX6_bottom 0 0 [.ref 30, .int (nI c)] h (fun r h' => r = some (.int (cbt R dens size c)) ∧ h' = h) := by
  obtain ⟨lo, hi, tg, wt, m12, m13, m14, m15, hRep⟩ := hV
  obtain ⟨ki, fi, ma, fw, m17, m18, m19, m21, hR3⟩ := hK
  obtain ⟨q1, q2, q3⟩ := hR3 c hc
  obtain ⟨-, p1, p2, -⟩ := ClOk.at _ _ c (cls_ok R dens size) hc
  have hlk := cls_len R dens size
  have e := (hRep (cf (clsOf R dens size) c) (by omega)).1
  refine AM.of rfl rfl (Nat.le_of_ble_eq_true rfl) rfl ?_
  refine Ax_al0 dX6_bottom_0 ?_
  refine Ax_getf kfX6 fX6_36 dX6_bottom_1 m rfl ?_
  refine Ax_al0 dX6_bottom_4 ?_
  refine Ax_getf kfX6 fX6_51 dX6_bottom_5 m rfl ?_
  refine Ax_il1 dX6_bottom_8 ?_
  refine Ax_ialdn dX6_bottom_9 m18 (by omega) (by omega) ?_
  refine Ax_top (q2) ?_
  refine Ax_ialdn dX6_bottom_10 m12 (by omega) (by omega) ?_
  refine Ax_top e ?_
  exact Ax_iret dX6_bottom_11 rfl rfl ⟨rfl, rfl⟩
theorem tX6_top {cs cq rt rw dn sz wy rn kn ln pt tk os : Int32} (m : h.1 30 = mO cs cq rt rw dn sz wy rn kn ln pt tk os) (hV : mRuns h R) (hK : mCls h R dens size) (hl : R.length ≤ 24) {c : Nat} (hc : c < (clsOf R dens size).length) : AM G mX6_top 0 0 [.ref 30, .int (nI c)] h (fun r h' => r = some (.int (ctp R dens size c)) ∧ h' = h) := by
  obtain ⟨lo, hi, tg, wt, m12, m13, m14, m15, hRep⟩ := hV
  obtain ⟨ki, fi, ma, fw, m17, m18, m19, m21, hR3⟩ := hK
  obtain ⟨q1, q2, q3⟩ := hR3 c hc
  obtain ⟨-, p1, p2, -⟩ := ClOk.at _ _ c (cls_ok R dens size) hc
  have hlk := cls_len R dens size
  have e := (hRep (cl (clsOf R dens size) c) (by omega)).2.1
  refine AM.of rfl rfl (Nat.le_of_ble_eq_true rfl) rfl ?_
  refine Ax_al0 dX6_top_0 ?_
  refine Ax_getf kfX6 fX6_39 dX6_top_1 m rfl ?_
  refine Ax_al0 dX6_top_4 ?_
  refine Ax_getf kfX6 fX6_51 dX6_top_5 m rfl ?_
  refine Ax_il1 dX6_top_8 ?_
  refine Ax_ialdn dX6_top_9 m18 (by omega) (by omega) ?_
  refine Ax_top (q2) ?_
  refine Ax_al0 dX6_top_10 ?_
  refine Ax_getf kfX6 fX6_54 dX6_top_11 m rfl ?_
  refine Ax_il1 dX6_top_14 ?_
  refine Ax_ialdn dX6_top_15 m19 (by omega) (by omega) ?_
  refine Ax_top (q3) ?_
  refine Ax_iaddn dX6_top_16 ?_
  refine Ax_ic1 dX6_top_17 ?_
  refine Ax_isubn dX6_top_18 (by omega) ?_
  refine Ax_top (show nI (cf (clsOf R dens size) c + (cl (clsOf R dens size) c - cf (clsOf R dens size) c + 1) - 1) = nI (cl (clsOf R dens size) c) by rw [show cf (clsOf R dens size) c + (cl (clsOf R dens size) c - cf (clsOf R dens size) c + 1) - 1 = cl (clsOf R dens size) c by omega]) ?_
  refine Ax_ialdn dX6_top_19 m13 (by omega) (by omega) ?_
  refine Ax_top e ?_
  exact Ax_iret dX6_top_20 rfl rfl ⟨rfl, rfl⟩
theorem rwt_le {k : Nat} (hk : k < R.length) : rwt R k ≤ rsum R := by
  have h1 := sm_part (f := rwt R) (i := k) (n := 1) (m := R.length) (by omega)
  rw [sm, sm] at h1
  unfold rsum
  rw [Nat.add_zero] at h1
  omega
theorem tX6_weightOf {cs cq rt rw dn sz wy rn kn ln pt tk os : Int32} (m : h.1 30 = mO cs cq rt rw dn sz wy rn kn ln pt tk os) (hV : mRuns h R) (hK : mCls h R dens size) (hl : R.length ≤ 24) (hs : rsum R ≤ 24000) {c : Nat} (hc : c < (clsOf R dens size).length) : AM G mX6_weightOf 0 0 [.ref 30, .int (nI c)] h (fun r h' => r = some (.long (lN (cwt R dens size c))) ∧ h' = h) := by
  obtain ⟨lo, hi, tg, wt, m12, m13, m14, m15, hRep⟩ := hV
  obtain ⟨ki, fi, ma, fw, m17, m18, m19, m21, hR3⟩ := hK
  obtain ⟨q1, q2, q3⟩ := hR3 c hc
  obtain ⟨-, p1, p2, -⟩ := ClOk.at _ _ c (cls_ok R dens size) hc
  have hlk := cls_len R dens size
  refine AM.of rfl rfl (Nat.le_of_ble_eq_true rfl) rfl ?_
  refine Ax_lc0 dX6_weightOf_0 ?_
  refine Ax_ls2 dX6_weightOf_1 (Nat.le_of_ble_eq_true rfl) (by rfl) ?_
  refine Ax_al0 dX6_weightOf_2 ?_
  refine Ax_getf kfX6 fX6_51 dX6_weightOf_3 m rfl ?_
  refine Ax_il1 dX6_weightOf_6 ?_
  refine Ax_ialdn dX6_weightOf_7 m18 (by omega) (by omega) ?_
  refine Ax_top (q2) ?_
  refine Ax_is4 dX6_weightOf_8 (Nat.le_of_ble_eq_true rfl) (by rfl) ?_
  suffices hloop : ∀ z t, t + z = cl (clsOf R dens size) c - cf (clsOf R dens size) c + 1 → Ax G mX6_weightOf 0 0 10 [.ref 30, .int (nI c), .long (lN (sm (rwt R) (cf (clsOf R dens size) c) t)), .null, .int (nI (cf (clsOf R dens size) c + t))] [] h (fun r h' => r = some (.long (lN (cwt R dens size c))) ∧ h' = h) from
    hloop _ 0 (Nat.zero_add _)
  intro z
  induction z with
  | zero =>
    intro t ht
    obtain rfl : t = cl (clsOf R dens size) c - cf (clsOf R dens size) c + 1 := by omega
    refine Ax_il4 dX6_weightOf_10 ?_
    refine Ax_al0 dX6_weightOf_12 ?_
    refine Ax_getf kfX6 fX6_51 dX6_weightOf_13 m rfl ?_
    refine Ax_il1 dX6_weightOf_16 ?_
    refine Ax_ialdn dX6_weightOf_17 m18 (by omega) (by omega) ?_
    refine Ax_top (q2) ?_
    refine Ax_al0 dX6_weightOf_18 ?_
    refine Ax_getf kfX6 fX6_54 dX6_weightOf_19 m rfl ?_
    refine Ax_il1 dX6_weightOf_22 ?_
    refine Ax_ialdn dX6_weightOf_23 m19 (by omega) (by omega) ?_
    refine Ax_top (q3) ?_
    refine Ax_iaddn dX6_weightOf_24 ?_
    refine Ax_cmpgen (tgt := 45) dX6_weightOf_25 (by decide) (by omega) (by omega) (fun c25 => ?_) (fun c25 => ?_)
    · refine Ax_ll2 dX6_weightOf_45 ?_
      exact Ax_lret dX6_weightOf_46 rfl ⟨rfl, rfl⟩
    · omega
  | succ z ih =>
    intro t ht
    have e := (hRep (cf (clsOf R dens size) c + t) (by omega)).2.2.2
    have hb := rwt_le (R := R) (k := cf (clsOf R dens size) c + t) (by omega)
    refine Ax_il4 dX6_weightOf_10 ?_
    refine Ax_al0 dX6_weightOf_12 ?_
    refine Ax_getf kfX6 fX6_51 dX6_weightOf_13 m rfl ?_
    refine Ax_il1 dX6_weightOf_16 ?_
    refine Ax_ialdn dX6_weightOf_17 m18 (by omega) (by omega) ?_
    refine Ax_top (q2) ?_
    refine Ax_al0 dX6_weightOf_18 ?_
    refine Ax_getf kfX6 fX6_54 dX6_weightOf_19 m rfl ?_
    refine Ax_il1 dX6_weightOf_22 ?_
    refine Ax_ialdn dX6_weightOf_23 m19 (by omega) (by omega) ?_
    refine Ax_top (q3) ?_
    refine Ax_iaddn dX6_weightOf_24 ?_
    refine Ax_cmpgen (tgt := 45) dX6_weightOf_25 (by decide) (by omega) (by omega) (fun c25 => ?_) (fun c25 => ?_)
    · omega
    refine Ax_ll2 dX6_weightOf_28 ?_
    refine Ax_al0 dX6_weightOf_29 ?_
    refine Ax_getf kfX6 fX6_45 dX6_weightOf_30 m rfl ?_
    refine Ax_il4 dX6_weightOf_33 ?_
    refine Ax_ialdn dX6_weightOf_35 m15 (by omega) (by omega) ?_
    refine Ax_top (e) ?_
    refine Ax_i2ln dX6_weightOf_36 (by omega) ?_
    refine Ax_laddn dX6_weightOf_37 ?_
    refine Ax_ls2 dX6_weightOf_38 (Nat.le_of_ble_eq_true rfl) (by rfl) ?_
    refine Ax_inc4_1n dX6_weightOf_39 (Nat.le_of_ble_eq_true rfl) (by rfl) ?_
    refine Ax_goto (tgt := 10) dX6_weightOf_42 (by decide) ?_
    exact ih (t + 1) (by omega)
theorem cst_bd (hs : rsum R ≤ 24000) {i j : Nat} (hij : i ≤ j) (hj : j < 24) : cst (wF R dens size) i j ≤ 13248552 := by
  have h1 := cst_le (wF_le (dens := dens) (size := size) hs) (j - i) i j hij rfl (by omega)
  have h2 : (j - i) * (24 * 24001) ≤ 23 * (24 * 24001) := Nat.mul_le_mul_right _ (by omega)
  omega
theorem sm_bd {f : Nat → Nat} {B : Nat} (hf : ∀ k, f k ≤ B) (i : Nat) : ∀ n, sm f i n ≤ n * B
  | 0 => Nat.zero_le _
  | n + 1 => by
    rw [sm, Nat.succ_mul]
    have := sm_bd hf i n
    have := hf (i + n)
    omega
theorem tX6_makeTree {way : Nat} {cs cq rt rw dn sz rn ln pt tk os : Int32} (m : h.1 30 = mO cs cq rt rw dn sz (nI way) rn (nI (clsOf R dens size).length) ln pt tk os) (hV : mRuns h R) (hK : mCls h R dens size) (hraw : mRw3 h) (hl : R.length ≤ 24) (hs : rsum R ≤ 24000) (hw : way < 2) : AM G mX6_makeTree 1 0 [.ref 30] h
    (fun r h' => r = none ∧ (mTree h' R dens size way ∧ (∀ q, (q < 44 ∨ 46 ≤ q) → h'.1 q = h.1 q) ∧ h'.2 = h.2)) := by
  obtain ⟨co0, sp0, n22, n23⟩ := hraw
  have m0 := m
  have hlk : (clsOf R dens size).length ≤ 24 := Nat.le_trans (cls_len R dens size) hl
  refine AM.of rfl rfl (Nat.le_of_ble_eq_true rfl) rfl ?_
  refine Ax_ic1 dX6_makeTree_0 ?_
  refine Ax_is1 dX6_makeTree_1 (Nat.le_of_ble_eq_true rfl) (by rfl) ?_
  suffices houter : ∀ z s hh co sp x2 x3 x4 x5 x6 x7 x8 x9 x10, s + z = (clsOf R dens size).length + 1 → 1 ≤ s → hh.1 44 = cJ 576 co → hh.1 45 = cI 0 576 sp → (∀ q, (q < 44 ∨ 46 ≤ q) → hh.1 q = h.1 q) → hh.2 = h.2 → MT R dens size way co sp s 0 → Ax G mX6_makeTree 1 0 2 [.ref 30, .int (nI s), x2, x3, x4, x5, x6, x7, x8, x9, x10] [] hh (fun r h' => r = none ∧ (mTree h' R dens size way ∧ (∀ q, (q < 44 ∨ 46 ≤ q) → h'.1 q = h.1 q) ∧ h'.2 = h.2)) from
    houter (clsOf R dens size).length 1 h _ _ _ _ _ _ _ _ _ _ _ (by omega) (Nat.le_refl _) n22 n23 (fun _ _ => rfl) rfl (fun i j g1 g2 g3 => by omega)
  clear n22 n23 m
  intro z
  induction z with
  | zero =>
    intro s hh co sp x2 x3 x4 x5 x6 x7 x8 x9 x10 hsz hs1 m22 m23 fr zr hM
    have m := (fr 30 (by omega)).trans m0
    refine Ax_il1 dX6_makeTree_2 ?_
    refine Ax_al0 dX6_makeTree_3 ?_
    refine Ax_getf kfX6 fX6_149 dX6_makeTree_4 m rfl ?_
    refine Ax_cmpgtn (tgt := 213) dX6_makeTree_7 (by decide) (by omega) (by omega) (fun c7 => ?_) (fun c7 => ?_)
    · exact Ax_ret dX6_makeTree_213 rfl ⟨rfl, ⟨co, sp, m22, m23, fun i j g1 g2 => (hM i j (by omega) g2 (by omega)).1 g1⟩, fr, zr⟩
    · omega
  | succ z ih =>
    intro s hh co sp x2 x3 x4 x5 x6 x7 x8 x9 x10 hsz hs1 m22 m23 fr zr hM
    have m := (fr 30 (by omega)).trans m0
    refine Ax_il1 dX6_makeTree_2 ?_
    refine Ax_al0 dX6_makeTree_3 ?_
    refine Ax_getf kfX6 fX6_149 dX6_makeTree_4 m rfl ?_
    refine Ax_cmpgtn (tgt := 213) dX6_makeTree_7 (by decide) (by omega) (by omega) (fun c7 => ?_) (fun c7 => ?_)
    · omega
    refine Ax_ic0 dX6_makeTree_10 ?_
    refine Ax_is2 dX6_makeTree_11 (Nat.le_of_ble_eq_true rfl) (by rfl) ?_
    clear m
    suffices hmid : ∀ y i hh co sp x3 x4 x5 x6 x7 x8 x9 x10, i + y = (clsOf R dens size).length + 1 - s → hh.1 44 = cJ 576 co → hh.1 45 = cI 0 576 sp → (∀ q, (q < 44 ∨ 46 ≤ q) → hh.1 q = h.1 q) → hh.2 = h.2 → MT R dens size way co sp s i → Ax G mX6_makeTree 1 0 12 [.ref 30, .int (nI s), .int (nI i), x3, x4, x5, x6, x7, x8, x9, x10] [] hh (fun r h' => r = none ∧ (mTree h' R dens size way ∧ (∀ q, (q < 44 ∨ 46 ≤ q) → h'.1 q = h.1 q) ∧ h'.2 = h.2)) from
      hmid _ 0 hh co sp _ _ _ _ _ _ _ _ (Nat.zero_add _) m22 m23 fr zr hM
    clear m22 m23 fr zr hM
    intro y
    induction y with
    | zero =>
      intro i hh co sp x3 x4 x5 x6 x7 x8 x9 x10 hi m22 m23 fr zr hM
      have m := (fr 30 (by omega)).trans m0
      refine Ax_il2 dX6_makeTree_12 ?_
      refine Ax_il1 dX6_makeTree_13 ?_
      refine Ax_iaddn dX6_makeTree_14 ?_
      refine Ax_al0 dX6_makeTree_15 ?_
      refine Ax_getf kfX6 fX6_149 dX6_makeTree_16 m rfl ?_
      refine Ax_cmpgtn (tgt := 207) dX6_makeTree_19 (by decide) (by omega) (by omega) (fun c19 => ?_) (fun c19 => ?_)
      · refine Ax_inc1_1n dX6_makeTree_207 (Nat.le_of_ble_eq_true rfl) (by rfl) ?_
        refine Ax_goto (tgt := 2) dX6_makeTree_210 (by decide) ?_
        exact ih (s + 1) hh co sp _ _ _ _ _ _ _ _ _ (by omega) (by omega) m22 m23 fr zr (hM.next (by omega))
      · omega
    | succ y ihy =>
      intro i hh co sp x3 x4 x5 x6 x7 x8 x9 x10 hi m22 m23 fr zr hM
      have m := (fr 30 (by omega)).trans m0
      have hV1 := hV.on (h' := hh) (fun q hq => fr q (by omega))
      have hK1 := hK.on (h' := hh) (fun q hq => fr q (by omega))
      refine Ax_il2 dX6_makeTree_12 ?_
      refine Ax_il1 dX6_makeTree_13 ?_
      refine Ax_iaddn dX6_makeTree_14 ?_
      refine Ax_al0 dX6_makeTree_15 ?_
      refine Ax_getf kfX6 fX6_149 dX6_makeTree_16 m rfl ?_
      refine Ax_cmpgtn (tgt := 207) dX6_makeTree_19 (by decide) (by omega) (by omega) (fun c19 => ?_) (fun c19 => ?_)
      · omega
      refine Ax_il2 dX6_makeTree_22 ?_
      refine Ax_il1 dX6_makeTree_23 ?_
      refine Ax_iaddn dX6_makeTree_24 ?_
      refine Ax_ic1 dX6_makeTree_25 ?_
      refine Ax_isubn dX6_makeTree_26 (by omega) ?_
      refine Ax_is3 dX6_makeTree_27 (Nat.le_of_ble_eq_true rfl) (by rfl) ?_
      refine Ax_lc0 dX6_makeTree_28 ?_
      refine Ax_ls4 dX6_makeTree_29 (Nat.le_of_ble_eq_true rfl) (by rfl) ?_
      refine Ax_il2 dX6_makeTree_31 ?_
      refine Ax_is6 dX6_makeTree_32 (Nat.le_of_ble_eq_true rfl) (by rfl) ?_
      suffices hsum : ∀ w t x7, t + w = s → Ax G mX6_makeTree 1 0 34 [.ref 30, .int (nI s), .int (nI i), .int (nI (i + s - 1)), .long (lN (sm (wF R dens size) i t)), .null, .int (nI (i + t)), x7, x8, x9, x10] [] hh (fun r h' => r = none ∧ (mTree h' R dens size way ∧ (∀ q, (q < 44 ∨ 46 ≤ q) → h'.1 q = h.1 q) ∧ h'.2 = h.2)) from
        hsum s 0 _ (Nat.zero_add _)
      intro w
      induction w with
      | succ w ihw =>
        intro t x7 ht
        have hcl : i + t < (clsOf R dens size).length := by omega
        have e : wF R dens size (i + t) = cwt R dens size (i + t) + 1 := by unfold wF; rw [if_pos hcl]; rfl
        refine Ax_il6 dX6_makeTree_34 ?_
        refine Ax_il3 dX6_makeTree_36 ?_
        refine Ax_cmpgtn (tgt := 59) dX6_makeTree_37 (by decide) (by omega) (by omega) (fun c37 => ?_) (fun c37 => ?_)
        · omega
        refine Ax_ll4 dX6_makeTree_40 ?_
        refine Ax_al0 dX6_makeTree_42 ?_
        refine Ax_il6 dX6_makeTree_43 ?_
        refine Ax_cVl dX6_makeTree_45 vX6_152 kfX6 m (tX6_weightOf m hV1 hK1 hl hs hcl) rfl rfl (by decide) (by simp [Value.category]) ?_
        refine Ax_lc1 dX6_makeTree_48 ?_
        refine Ax_laddn dX6_makeTree_49 ?_
        refine Ax_laddn dX6_makeTree_50 ?_
        refine Ax_ls4 dX6_makeTree_51 (Nat.le_of_ble_eq_true rfl) (by rfl) ?_
        refine Ax_inc6_1n dX6_makeTree_53 (Nat.le_of_ble_eq_true rfl) (by rfl) ?_
        refine Ax_goto (tgt := 34) dX6_makeTree_56 (by decide) ?_
        have hih := ihw (t + 1) x7 (by omega)
        rw [sm, e] at hih
        exact hih
      | zero =>
        intro t x7 ht
        obtain rfl : t = s := by omega
        have hall := sm_bd (wF_le (R := R) (dens := dens) (size := size) hs) i t
        have hpb : 24 * i + (i + t - 1) < 576 := by omega
        refine Ax_il6 dX6_makeTree_34 ?_
        refine Ax_il3 dX6_makeTree_36 ?_
        refine Ax_cmpgtn (tgt := 59) dX6_makeTree_37 (by decide) (by omega) (by omega) (fun c37 => ?_) (fun c37 => ?_)
        rotate_left
        · omega
        refine Ax_al0 dX6_makeTree_59 ?_
        refine Ax_getf kfX6 fX6_60 dX6_makeTree_60 m rfl ?_
        refine Ax_bp24 dX6_makeTree_63 ?_
        refine Ax_il2 dX6_makeTree_65 ?_
        refine Ax_imuln dX6_makeTree_66 ?_
        refine Ax_il3 dX6_makeTree_67 ?_
        refine Ax_iaddn dX6_makeTree_68 ?_
        refine Ax_lc0 dX6_makeTree_69 ?_
        refine Ax_lastn dX6_makeTree_70 m22 (by omega) (by omega) (Ax_up (fun h51 e51 f51 z51 => ?_))
        replace m := (f51 _ (by omega)).trans m
        replace m22 := e51
        replace m23 := (f51 _ (by omega)).trans m23
        replace fr : ∀ q, (q < 44 ∨ 46 ≤ q) → h51.1 q = h.1 q := fun q hq => (f51 q (by omega)).trans (fr q hq)
        replace zr := z51.trans zr
        refine Ax_al0 dX6_makeTree_71 ?_
        refine Ax_getf kfX6 fX6_64 dX6_makeTree_72 m rfl ?_
        refine Ax_bp24 dX6_makeTree_75 ?_
        refine Ax_il2 dX6_makeTree_77 ?_
        refine Ax_imuln dX6_makeTree_78 ?_
        refine Ax_il3 dX6_makeTree_79 ?_
        refine Ax_iaddn dX6_makeTree_80 ?_
        refine Ax_il2 dX6_makeTree_81 ?_
        refine Ax_il3 dX6_makeTree_82 ?_
        refine Ax_iaddn dX6_makeTree_83 ?_
        refine Ax_ic1 dX6_makeTree_84 ?_
        refine Ax_iaddn dX6_makeTree_85 ?_
        refine Ax_ic2 dX6_makeTree_86 ?_
        refine Ax_idivn dX6_makeTree_87 (by omega) (by omega) (by omega) ?_
        refine Ax_iastn dX6_makeTree_88 m23 (by omega) (by omega) (Ax_up (fun h52 e52 f52 z52 => ?_))
        replace m := (f52 _ (by omega)).trans m
        replace m22 := (f52 _ (by omega)).trans m22
        replace m23 := e52
        replace fr : ∀ q, (q < 44 ∨ 46 ≤ q) → h52.1 q = h.1 q := fun q hq => (f52 q (by omega)).trans (fr q hq)
        replace zr := z52.trans zr
        refine Ax_il1 dX6_makeTree_89 ?_
        refine Ax_ic1 dX6_makeTree_90 ?_
        refine Ax_cmplen (tgt := 201) dX6_makeTree_91 (by decide) (by omega) (by omega) (fun c91 => ?_) (fun c91 => ?_)
        · refine Ax_inc2_1n dX6_makeTree_201 (Nat.le_of_ble_eq_true rfl) (by rfl) ?_
          refine Ax_goto (tgt := 12) dX6_makeTree_204 (by decide) ?_
          refine ihy (i + 1) _ _ _ _ _ _ _ _ _ _ _ (by omega) m22 m23 fr zr (hM.step (p := 24 * i + (i + t - 1)) hlk hs1 (by omega) rfl (fun q hq => uL_n hq) (fun q hq => pk_un hq) (fun q => by omega) (fun _ => ?_))
          rw [uL_s, show i + t - 1 = i by omega, cst_diag]
        refine Ax_al0 dX6_makeTree_94 ?_
        refine Ax_getf kfX6 fX6_135 dX6_makeTree_95 m rfl ?_
        refine Ax_ic1 dX6_makeTree_98 ?_
        refine Ax_cmpnen (tgt := 201) dX6_makeTree_99 (by decide) (by omega) (by omega) (fun c99 => ?_) (fun c99 => ?_)
        · refine Ax_inc2_1n dX6_makeTree_201 (Nat.le_of_ble_eq_true rfl) (by rfl) ?_
          refine Ax_goto (tgt := 12) dX6_makeTree_204 (by decide) ?_
          refine ihy (i + 1) _ _ _ _ _ _ _ _ _ _ _ (by omega) m22 m23 fr zr (hM.step (p := 24 * i + (i + t - 1)) hlk hs1 (by omega) rfl (fun q hq => uL_n hq) (fun q hq => pk_un hq) (fun q => ?_) (fun q => absurd q c99))
          rw [pk_us]
          unfold spF
          rw [if_neg c99]
        subst c99
        refine Ax_ldc2 dX6_makeTree_102 cX6_156 ?_
        refine Ax_ls6 dX6_makeTree_105 (Nat.le_of_ble_eq_true rfl) (by rfl) ?_
        refine Ax_il2 dX6_makeTree_107 ?_
        refine Ax_ic1 dX6_makeTree_108 ?_
        refine Ax_iaddn dX6_makeTree_109 ?_
        refine Ax_is8 dX6_makeTree_110 (Nat.le_of_ble_eq_true rfl) (by rfl) ?_
        suffices hbest : ∀ w t' hx sp2 z x9 x10, 1 + t' + w = t → hx.1 44 = cJ 576 (vp_updL co (24 * i + (i + t - 1)) (lN 0)) → hx.1 45 = cI 0 576 sp2 → (∀ q, (q < 44 ∨ 46 ≤ q) → hx.1 q = h.1 q) → hx.2 = h.2 → (∀ q, q ≠ 24 * i + (i + t - 1) → sp2 q = sp q) →
            ((t' = 0 ∧ z = -1) ∨ ∃ t'' v b, t' = t'' + 1 ∧ z = lN v ∧ v ≤ 30000000 ∧ IsLeast (fun q => cst (wF R dens size) i (q - 1) + cst (wF R dens size) q (i + t - 1)) i t'' v b ∧ sp2 (24 * i + (i + t - 1)) = nI b) →
            Ax G mX6_makeTree 1 0 112 [.ref 30, .int (nI t), .int (nI i), .int (nI (i + t - 1)), .long (lN (sm (wF R dens size) i t)), .null, .long z, .null, .int (nI (i + 1 + t')), x9, x10] [] hx (fun r h' => r = none ∧ (mTree h' R dens size 1 ∧ (∀ q, (q < 44 ∨ 46 ≤ q) → h'.1 q = h.1 q) ∧ h'.2 = h.2)) from
          hbest (t - 1) 0 _ _ _ _ _ (by omega) m22 m23 fr zr (fun q hq => pk_un hq) (Or.inl ⟨rfl, rfl⟩)
        clear m22 m23 fr zr m
        intro w
        induction w with
        | zero =>
          intro t' hx sp2 z x9 x10 ht' m22 m23 fr zr hsp hb
          have m := (fr 30 (by omega)).trans m0
          rcases hb with ⟨rfl, -⟩ | ⟨t'', v, b, rfl, rfl, hv, hleast, hspb⟩
          · omega
          obtain ⟨k1, k2, k3, k4⟩ := ((ct_is (wF R dens size)) i (i + t - 1) (by omega) (by omega)).2 (by omega)
          have hu := hleast.uniq (v' := cst (wF R dens size) i (cut (wF R dens size) i (i + t - 1) - 1) + cst (wF R dens size) (cut (wF R dens size) i (i + t - 1)) (i + t - 1)) (b' := cut (wF R dens size) i (i + t - 1)) ⟨k1, by omega, rfl, fun m h1 h2 => k4 m h1 (by omega)⟩
          refine Ax_il8 dX6_makeTree_112 ?_
          refine Ax_il3 dX6_makeTree_114 ?_
          refine Ax_cmpgtn (tgt := 185) dX6_makeTree_115 (by decide) (by omega) (by omega) (fun c115 => ?_) (fun c115 => ?_)
          rotate_left
          · omega
          refine Ax_al0 dX6_makeTree_185 ?_
          refine Ax_getf kfX6 fX6_60 dX6_makeTree_186 m rfl ?_
          refine Ax_bp24 dX6_makeTree_189 ?_
          refine Ax_il2 dX6_makeTree_191 ?_
          refine Ax_imuln dX6_makeTree_192 ?_
          refine Ax_il3 dX6_makeTree_193 ?_
          refine Ax_iaddn dX6_makeTree_194 ?_
          refine Ax_ll6 dX6_makeTree_195 ?_
          refine Ax_ll4 dX6_makeTree_197 ?_
          refine Ax_laddn dX6_makeTree_199 ?_
          refine Ax_lastn dX6_makeTree_200 m22 (by omega) (by omega) (Ax_up (fun h71 e71 f71 z71 => ?_))
          replace m := (f71 _ (by omega)).trans m
          replace m22 := e71
          replace m23 := (f71 _ (by omega)).trans m23
          replace fr : ∀ q, (q < 44 ∨ 46 ≤ q) → h71.1 q = h.1 q := fun q hq => (f71 q (by omega)).trans (fr q hq)
          replace zr := z71.trans zr
          refine Ax_inc2_1n dX6_makeTree_201 (Nat.le_of_ble_eq_true rfl) (by rfl) ?_
          refine Ax_goto (tgt := 12) dX6_makeTree_204 (by decide) ?_
          refine ihy (i + 1) _ _ _ _ _ _ _ _ _ _ _ (by omega) m22 m23 fr zr (hM.step (p := 24 * i + (i + t - 1)) hlk hs1 (by omega) rfl (fun q hq => by rw [uL_n hq, uL_n hq]) hsp (fun q => ?_) (fun _ => ?_))
          · rw [hspb, hu.2]
            rfl
          · rw [uL_s, k3, hu.1, show i + t - 1 - i + 1 = t by omega]
        | succ w ihw =>
          intro t' hx sp2 z x9 x10 ht' m22 m23 fr zr hsp hb
          have m := (fr 30 (by omega)).trans m0
          have ea : vp_updL co (24 * i + (i + t - 1)) (lN 0) (24 * i + (i + 1 + t') - 1) = lN (cst (wF R dens size) i (i + 1 + t' - 1)) := by
            rw [uL_n (by omega), show 24 * i + (i + 1 + t') - 1 = 24 * i + (i + 1 + t' - 1) by omega]
            exact (hM i (i + 1 + t' - 1) (by omega) (by omega) (by omega)).2 rfl
          have eb : vp_updL co (24 * i + (i + t - 1)) (lN 0) (24 * (i + 1 + t') + (i + t - 1)) = lN (cst (wF R dens size) (i + 1 + t') (i + t - 1)) := by
            rw [uL_n (by omega)]
            exact (hM (i + 1 + t') (i + t - 1) (by omega) (by omega) (by omega)).2 rfl
          have ba := cst_bd (R := R) (dens := dens) (size := size) hs (i := i) (j := i + 1 + t' - 1) (by omega) (by omega)
          have bb := cst_bd (R := R) (dens := dens) (size := size) hs (i := i + 1 + t') (j := i + t - 1) (by omega) (by omega)
          have lc := L_lN (n := cst (wF R dens size) i (i + 1 + t' - 1) + cst (wF R dens size) (i + 1 + t') (i + t - 1)) (by omega)
          have l0 := L_lN (n := 0) (by omega)
          refine Ax_il8 dX6_makeTree_112 ?_
          refine Ax_il3 dX6_makeTree_114 ?_
          refine Ax_cmpgtn (tgt := 185) dX6_makeTree_115 (by decide) (by omega) (by omega) (fun c115 => ?_) (fun c115 => ?_)
          · omega
          refine Ax_al0 dX6_makeTree_118 ?_
          refine Ax_getf kfX6 fX6_60 dX6_makeTree_119 m rfl ?_
          refine Ax_bp24 dX6_makeTree_122 ?_
          refine Ax_il2 dX6_makeTree_124 ?_
          refine Ax_imuln dX6_makeTree_125 ?_
          refine Ax_il8 dX6_makeTree_126 ?_
          refine Ax_iaddn dX6_makeTree_128 ?_
          refine Ax_ic1 dX6_makeTree_129 ?_
          refine Ax_isubn dX6_makeTree_130 (by omega) ?_
          refine Ax_laldn dX6_makeTree_131 m22 (by omega) (by omega) ?_
          refine Ax_topL (ea) ?_
          refine Ax_al0 dX6_makeTree_132 ?_
          refine Ax_getf kfX6 fX6_60 dX6_makeTree_133 m rfl ?_
          refine Ax_bp24 dX6_makeTree_136 ?_
          refine Ax_il8 dX6_makeTree_138 ?_
          refine Ax_imuln dX6_makeTree_140 ?_
          refine Ax_il3 dX6_makeTree_141 ?_
          refine Ax_iaddn dX6_makeTree_142 ?_
          refine Ax_laldn dX6_makeTree_143 m22 (by omega) (by omega) ?_
          refine Ax_topL (eb) ?_
          refine Ax_laddn dX6_makeTree_144 ?_
          refine Ax_ls9 dX6_makeTree_145 (Nat.le_of_ble_eq_true rfl) (by rfl) ?_
          have hnew : IsLeast (fun q => cst (wF R dens size) i (q - 1) + cst (wF R dens size) q (i + t - 1)) i t' (cst (wF R dens size) i (i + 1 + t' - 1) + cst (wF R dens size) (i + 1 + t') (i + t - 1)) (i + 1 + t') → Ax G mX6_makeTree 1 0 162 [.ref 30, .int (nI t), .int (nI i), .int (nI (i + t - 1)), .long (lN (sm (wF R dens size) i t)), .null, .long z, .null, .int (nI (i + 1 + t')), .long (lN (cst (wF R dens size) i (i + 1 + t' - 1) + cst (wF R dens size) (i + 1 + t') (i + t - 1))), .null] [] hx (fun r h' => r = none ∧ (mTree h' R dens size 1 ∧ (∀ q, (q < 44 ∨ 46 ≤ q) → h'.1 q = h.1 q) ∧ h'.2 = h.2)) := by
            intro hL
            refine Ax_ll9 dX6_makeTree_162 ?_
            refine Ax_ls6 dX6_makeTree_164 (Nat.le_of_ble_eq_true rfl) (by rfl) ?_
            refine Ax_al0 dX6_makeTree_166 ?_
            refine Ax_getf kfX6 fX6_64 dX6_makeTree_167 m rfl ?_
            refine Ax_bp24 dX6_makeTree_170 ?_
            refine Ax_il2 dX6_makeTree_172 ?_
            refine Ax_imuln dX6_makeTree_173 ?_
            refine Ax_il3 dX6_makeTree_174 ?_
            refine Ax_iaddn dX6_makeTree_175 ?_
            refine Ax_il8 dX6_makeTree_176 ?_
            refine Ax_iastn dX6_makeTree_178 m23 (by omega) (by omega) (Ax_up (fun h71 e71 f71 z71 => ?_))
            replace m := (f71 _ (by omega)).trans m
            replace m22 := (f71 _ (by omega)).trans m22
            replace m23 := e71
            replace fr : ∀ q, (q < 44 ∨ 46 ≤ q) → h71.1 q = h.1 q := fun q hq => (f71 q (by omega)).trans (fr q hq)
            replace zr := z71.trans zr
            refine Ax_inc8_1n dX6_makeTree_179 (Nat.le_of_ble_eq_true rfl) (by rfl) ?_
            refine Ax_goto (tgt := 112) dX6_makeTree_182 (by decide) ?_
            exact ihw (t' + 1) _ _ _ _ _ (by omega) m22 m23 fr zr (fun q hq => (pk_un hq).trans (hsp q hq)) (Or.inr ⟨t', _, _, rfl, rfl, by omega, hL, pk_us⟩)
          rcases hb with ⟨rfl, rfl⟩ | ⟨t'', v, b, rfl, rfl, hv, hleast, hspb⟩
          · refine Ax_ll6 dX6_makeTree_147 ?_
            refine Ax_lc0 dX6_makeTree_149 ?_
            refine Ax_lcmp dX6_makeTree_150 ?_
            refine Ax_ifltC (tgt := 162) dX6_makeTree_151 (by decide) (fun c151 => ?_) (fun c151 => ?_)
            · exact hnew IsLeast.zero
            · rw [show (-1 : Int64).toInt = -1 by decide] at c151
              omega
          · have lv := L_lN (n := v) (by omega)
            refine Ax_ll6 dX6_makeTree_147 ?_
            refine Ax_lc0 dX6_makeTree_149 ?_
            refine Ax_lcmp dX6_makeTree_150 ?_
            refine Ax_ifltC (tgt := 162) dX6_makeTree_151 (by decide) (fun c151 => ?_) (fun c151 => ?_)
            · exact hnew (by omega)
            refine Ax_ll9 dX6_makeTree_154 ?_
            refine Ax_ll6 dX6_makeTree_156 ?_
            refine Ax_lcmp dX6_makeTree_158 ?_
            refine Ax_ifgeC (tgt := 179) dX6_makeTree_159 (by decide) (fun c159 => ?_) (fun c159 => ?_)
            · refine Ax_inc8_1n dX6_makeTree_179 (Nat.le_of_ble_eq_true rfl) (by rfl) ?_
              refine Ax_goto (tgt := 112) dX6_makeTree_182 (by decide) ?_
              exact ihw (t'' + 1 + 1) _ _ _ _ _ (by omega) m22 m23 fr zr hsp (Or.inr ⟨t'' + 1, v, b, rfl, rfl, hv, hleast.keep (by rw [show i + t'' + 2 = i + 1 + (t'' + 1) by omega]; omega), hspb⟩)
            · refine hnew ?_
              have hn2 := hleast.new (by rw [show i + t'' + 2 = i + 1 + (t'' + 1) by omega]; omega)
              rw [show i + t'' + 2 = i + 1 + (t'' + 1) by omega] at hn2
              exact hn2
end
