/-! the reference: lines -/
def mLn (L : List Ln) (kn fi se : Nat → Int32) (ro : Nat → Int64) (fo : Nat → Int32) : Prop := ∀ k, k < L.length → kn k = nI (gL L k).1 ∧ fi k = (gL L k).2.1 ∧ se k = (gL L k).2.2.1 ∧ ro k = lN (gL L k).2.2.2.1 ∧ ((gL L k).1 = 5 → fo k = nI (gL L k).2.2.2.2)
def mCode (h : xH) (L : List Ln) : Prop := ∃ kn fi se ro fo, h.1 47 = cI 0 400 kn ∧ h.1 48 = cI 0 400 fi ∧ h.1 49 = cI 0 400 se ∧ h.1 50 = cJ 400 ro ∧ h.1 51 = cI 0 400 fo ∧ mLn L kn fi se ro fo
theorem mCode.on {h h' : xH} {L : List Ln} (hS : mCode h L) (hF : ∀ q, (47 ≤ q ∧ q < 52) → h'.1 q = h.1 q) : mCode h' L := by
  obtain ⟨a, b, c, d, e, h1, h2, h3, h4, h5, h6⟩ := hS
  exact ⟨a, b, c, d, e, (hF _ (by omega)).trans h1, (hF _ (by omega)).trans h2, (hF _ (by omega)).trans h3, (hF _ (by omega)).trans h4, (hF _ (by omega)).trans h5, h6⟩
/-- the object and the cells a .. b - 1 may have changed -/
def xFm (a b : Nat) (h h' : xH) : Prop := (∀ q, (q < 30 ∨ (30 < q ∧ q < a) ∨ b ≤ q) → h'.1 q = h.1 q) ∧ h'.2 = h.2
theorem xFm.rf {a b : Nat} {h : xH} : xFm a b h h := ⟨fun _ _ => rfl, rfl⟩
theorem xFm.tr {a b : Nat} {h h1 h2 : xH} (p : xFm a b h h1) (q : xFm a b h1 h2) : xFm a b h h2 := ⟨fun x hx => (q.1 x hx).trans (p.1 x hx), q.2.trans p.2⟩
theorem xFm.wide {a b a' b' : Nat} {h h1 : xH} (p : xFm a b h h1) (h1' : a' ≤ a) (h2 : b ≤ b') (h3 : 30 < b') : xFm a' b' h h1 := ⟨fun x hx => p.1 x (by omega), p.2⟩
theorem mLn.app {L : List Ln} {kn fi se fo : Nat → Int32} {ro : Nat → Int64} (hL : mLn L kn fi se ro fo) (k : Nat) (a b : Int32) (r cc : Nat) (c : Int32) (hc : k = 5 → c = nI cc) : mLn (L ++ [(k, a, b, r, cc)]) (upd kn L.length (nI k)) (upd fi L.length a) (upd se L.length b) (vp_updL ro L.length (lN r)) (upd fo L.length c) := by
  intro j hj
  rw [List.length_append, List.length_singleton] at hj
  rw [gL_app]
  by_cases e : j = L.length
  · subst e
    rw [if_neg (by omega), Nat.sub_self, pk_us, pk_us, pk_us, pk_us, uL_s]
    exact ⟨rfl, rfl, rfl, rfl, hc⟩
  · rw [if_pos (by omega), pk_un e, pk_un e, pk_un e, pk_un e, uL_n e]
    exact hL j (by omega)
section
variable {G : xG} {h : xH} {R : List Run} {dens size : Nat} {L : List Ln} {cs cq rt rw dn sz wy rn kn ln pt tk os : Int32}
theorem tX6_emit (m : h.1 30 = mO cs cq rt rw dn sz wy rn kn (nI L.length) pt tk os) (hL : mCode h L) (hn : L.length < 400) (k : Nat) (a b : Int32) {c : Int32} {cc : Nat} (hc : k = 5 → c = nI cc) : AM G mX6_emit 0 0 [.ref 30, .int (nI k), .int a, .int b, .int c] h
    (fun r h' => r = none ∧ (h'.1 30 = mO cs cq rt rw dn sz wy rn kn (nI (L ++ [(k, a, b, 0, cc)]).length) pt tk os ∧ mCode h' (L ++ [(k, a, b, 0, cc)]) ∧ xFm 47 52 h h')) := by
  obtain ⟨kn', fi, se, ro, fo, m25, m26, m27, m28, m29, hR⟩ := hL
  refine AM.of rfl rfl (Nat.le_of_ble_eq_true rfl) rfl ?_
  have fr : ∀ q, (q < 30 ∨ (30 < q ∧ q < 47) ∨ 52 ≤ q) → h.1 q = h.1 q := fun _ _ => rfl
  have zr : h.2 = h.2 := rfl
  refine Ax_al0 dX6_emit_0 ?_
  refine Ax_getf kfX6 fX6_70 dX6_emit_1 m rfl ?_
  refine Ax_al0 dX6_emit_4 ?_
  refine Ax_getf kfX6 fX6_158 dX6_emit_5 m rfl ?_
  refine Ax_il1 dX6_emit_8 ?_
  refine Ax_iastn dX6_emit_9 m25 (by omega) (by omega) (Ax_up (fun h1 e1 f1 z1 => ?_))
  replace m := (f1 _ (by omega)).trans m
  replace m25 := e1
  replace m26 := (f1 _ (by omega)).trans m26
  replace m27 := (f1 _ (by omega)).trans m27
  replace m28 := (f1 _ (by omega)).trans m28
  replace m29 := (f1 _ (by omega)).trans m29
  replace fr : ∀ q, (q < 30 ∨ (30 < q ∧ q < 47) ∨ 52 ≤ q) → h1.1 q = h.1 q := fun q hq => (f1 q (by omega)).trans (fr q hq)
  replace zr := z1.trans zr
  refine Ax_al0 dX6_emit_10 ?_
  refine Ax_getf kfX6 fX6_73 dX6_emit_11 m rfl ?_
  refine Ax_al0 dX6_emit_14 ?_
  refine Ax_getf kfX6 fX6_158 dX6_emit_15 m rfl ?_
  refine Ax_il2 dX6_emit_18 ?_
  refine Ax_iastn dX6_emit_19 m26 (by omega) (by omega) (Ax_up (fun h2 e2 f2 z2 => ?_))
  replace m := (f2 _ (by omega)).trans m
  replace m25 := (f2 _ (by omega)).trans m25
  replace m26 := e2
  replace m27 := (f2 _ (by omega)).trans m27
  replace m28 := (f2 _ (by omega)).trans m28
  replace m29 := (f2 _ (by omega)).trans m29
  replace fr : ∀ q, (q < 30 ∨ (30 < q ∧ q < 47) ∨ 52 ≤ q) → h2.1 q = h.1 q := fun q hq => (f2 q (by omega)).trans (fr q hq)
  replace zr := z2.trans zr
  refine Ax_al0 dX6_emit_20 ?_
  refine Ax_getf kfX6 fX6_76 dX6_emit_21 m rfl ?_
  refine Ax_al0 dX6_emit_24 ?_
  refine Ax_getf kfX6 fX6_158 dX6_emit_25 m rfl ?_
  refine Ax_il3 dX6_emit_28 ?_
  refine Ax_iastn dX6_emit_29 m27 (by omega) (by omega) (Ax_up (fun h3 e3 f3 z3 => ?_))
  replace m := (f3 _ (by omega)).trans m
  replace m25 := (f3 _ (by omega)).trans m25
  replace m26 := (f3 _ (by omega)).trans m26
  replace m27 := e3
  replace m28 := (f3 _ (by omega)).trans m28
  replace m29 := (f3 _ (by omega)).trans m29
  replace fr : ∀ q, (q < 30 ∨ (30 < q ∧ q < 47) ∨ 52 ≤ q) → h3.1 q = h.1 q := fun q hq => (f3 q (by omega)).trans (fr q hq)
  replace zr := z3.trans zr
  refine Ax_al0 dX6_emit_30 ?_
  refine Ax_getf kfX6 fX6_79 dX6_emit_31 m rfl ?_
  refine Ax_al0 dX6_emit_34 ?_
  refine Ax_getf kfX6 fX6_158 dX6_emit_35 m rfl ?_
  refine Ax_lc0 dX6_emit_38 ?_
  refine Ax_lastn dX6_emit_39 m28 (by omega) (by omega) (Ax_up (fun h4 e4 f4 z4 => ?_))
  replace m := (f4 _ (by omega)).trans m
  replace m25 := (f4 _ (by omega)).trans m25
  replace m26 := (f4 _ (by omega)).trans m26
  replace m27 := (f4 _ (by omega)).trans m27
  replace m28 := e4
  replace m29 := (f4 _ (by omega)).trans m29
  replace fr : ∀ q, (q < 30 ∨ (30 < q ∧ q < 47) ∨ 52 ≤ q) → h4.1 q = h.1 q := fun q hq => (f4 q (by omega)).trans (fr q hq)
  replace zr := z4.trans zr
  refine Ax_al0 dX6_emit_40 ?_
  refine Ax_getf kfX6 fX6_82 dX6_emit_41 m rfl ?_
  refine Ax_al0 dX6_emit_44 ?_
  refine Ax_getf kfX6 fX6_158 dX6_emit_45 m rfl ?_
  refine Ax_il4 dX6_emit_48 ?_
  refine Ax_iastn dX6_emit_50 m29 (by omega) (by omega) (Ax_up (fun h5 e5 f5 z5 => ?_))
  replace m := (f5 _ (by omega)).trans m
  replace m25 := (f5 _ (by omega)).trans m25
  replace m26 := (f5 _ (by omega)).trans m26
  replace m27 := (f5 _ (by omega)).trans m27
  replace m28 := (f5 _ (by omega)).trans m28
  replace m29 := e5
  replace fr : ∀ q, (q < 30 ∨ (30 < q ∧ q < 47) ∨ 52 ≤ q) → h5.1 q = h.1 q := fun q hq => (f5 q (by omega)).trans (fr q hq)
  replace zr := z5.trans zr
  refine Ax_al0 dX6_emit_51 ?_
  refine Ax_dup dX6_emit_52 rfl ?_
  refine Ax_getf kfX6 fX6_158 dX6_emit_53 m rfl ?_
  refine Ax_ic1 dX6_emit_56 ?_
  refine Ax_iaddn dX6_emit_57 ?_
  refine Ax_putf kfX6 fX6_158 dX6_emit_58 m (Nat.le_of_ble_eq_true rfl) (Or.inl rfl) (by rfl) (by rfl) (Ax_up (fun h6 e6 f6 z6 => ?_))
  replace m := e6
  replace m25 := (f6 _ (by omega)).trans m25
  replace m26 := (f6 _ (by omega)).trans m26
  replace m27 := (f6 _ (by omega)).trans m27
  replace m28 := (f6 _ (by omega)).trans m28
  replace m29 := (f6 _ (by omega)).trans m29
  replace fr : ∀ q, (q < 30 ∨ (30 < q ∧ q < 47) ∨ 52 ≤ q) → h6.1 q = h.1 q := fun q hq => (f6 q (by omega)).trans (fr q hq)
  replace zr := z6.trans zr
  exact Ax_ret dX6_emit_61 rfl ⟨rfl, by rw [List.length_append]; exact m, ⟨_, _, _, _, _, m25, m26, m27, m28, m29, hR.app k a b 0 cc c hc⟩, fr, zr⟩
theorem ends_b (m : h.1 30 = mO cs cq rt rw dn sz wy rn kn (nI L.length) pt tk os) (hL : mCode h L) (hV : mRuns h R) (hK : mCls h R dens size) (hl : R.length ≤ 24) (hn : L.length < 400) {c s : Nat} (hs : s ≤ L.length) (hc : c < (clsOf R dens size).length) (le gr : Int64) :
    Ax G mX6_ends 1 0 29 [.ref 30, .int (nI c), .long le, .null, .long gr, .null, .int (nI s)] [] h (fun r h' => ∃ z, r = some (.int z) ∧ (z = nI (L.length - s + (decide ((ctp R dens size c).toInt < gr.toInt)).toNat) ∧ h'.1 30 = mO cs cq rt rw dn sz wy rn kn (nI (L ++ pL (decide ((ctp R dens size c).toInt < gr.toInt)) (1, ctp R dens size c, 0, 0, c)).length) pt tk os ∧ mCode h' (L ++ pL (decide ((ctp R dens size c).toInt < gr.toInt)) (1, ctp R dens size c, 0, 0, c)) ∧ xFm 47 52 h h')) := by
  refine Ax_ll4 dX6_ends_29 ?_
  refine Ax_al0 dX6_ends_31 ?_
  refine Ax_il1 dX6_ends_32 ?_
  refine Ax_cVi dX6_ends_33 vX6_172 kfX6 m (tX6_top m hV hK hl hc) rfl rfl (by decide) (by simp [Value.category]) ?_
  refine Ax_i2l dX6_ends_36 ?_
  refine Ax_lcmp dX6_ends_37 ?_
  refine Ax_ifleC (tgt := 53) dX6_ends_38 (by decide) (fun c38 => ?_) (fun c38 => ?_)
  · rw [Int32.toInt_toInt64] at c38
    rw [decide_eq_false (by omega)]
    show Ax G mX6_ends 1 0 _ _ _ h (fun r h' => ∃ z, r = some (.int z) ∧ (z = nI (L.length - s + 0) ∧ h'.1 30 = mO cs cq rt rw dn sz wy rn kn (nI (L ++ []).length) pt tk os ∧ mCode h' (L ++ []) ∧ xFm 47 52 h h'))
    rw [List.append_nil, Nat.add_zero]
    refine Ax_al0 dX6_ends_53 ?_
    refine Ax_getf kfX6 fX6_158 dX6_ends_54 m rfl ?_
    refine Ax_il6 dX6_ends_57 ?_
    refine Ax_isubn dX6_ends_59 (by omega) ?_
    exact Ax_iret dX6_ends_60 rfl rfl ⟨_, rfl, rfl, m, hL, xFm.rf⟩
  · rw [Int32.toInt_toInt64] at c38
    rw [decide_eq_true (by omega)]
    refine Ax_al0 dX6_ends_41 ?_
    refine Ax_ic1 dX6_ends_42 ?_
    refine Ax_al0 dX6_ends_43 ?_
    refine Ax_il1 dX6_ends_44 ?_
    refine Ax_cVi dX6_ends_45 vX6_172 kfX6 m (tX6_top m hV hK hl hc) rfl rfl (by decide) (by simp [Value.category]) ?_
    refine Ax_ic0 dX6_ends_48 ?_
    refine Ax_il1 dX6_ends_49 ?_
    refine Ax_cVv dX6_ends_50 vX6_168 kfX6 m (tX6_emit (G := G) m hL hn 1 (ctp R dens size c) (nI 0) (c := nI c) (cc := c) (fun q => by omega)) rfl rfl (by decide) (by simp [Value.category]) (Nat.le_refl _) (fun h1 q1 => ?_)
    obtain ⟨m1, hL1, hF1⟩ := q1
    have hl1 : (L ++ [((1, ctp R dens size c, nI 0, 0, c) : Ln)]).length = L.length + 1 := by rw [List.length_append]; rfl
    refine Ax_al0 dX6_ends_53 ?_
    refine Ax_getf kfX6 fX6_158 dX6_ends_54 m1 rfl ?_
    refine Ax_il6 dX6_ends_57 ?_
    refine Ax_isubn dX6_ends_59 (by omega) ?_
    show Ax G mX6_ends 1 0 _ _ [.int (nI ((L ++ [((1, ctp R dens size c, nI 0, 0, c) : Ln)]).length - s))] h1 _
    rw [hl1, show L.length + 1 - s = L.length - s + 1 by omega]
    exact Ax_iret dX6_ends_60 rfl rfl ⟨_, rfl, rfl, m1, hL1, hF1⟩
theorem tX6_ends (m : h.1 30 = mO cs cq rt rw dn sz wy rn kn (nI L.length) pt tk os) (hL : mCode h L) (hV : mRuns h R) (hK : mCls h R dens size) (hl : R.length ≤ 24) (hn : L.length + 1 < 400) {c : Nat} (hc : c < (clsOf R dens size).length) (le gr : Int64) {a b : Bool} (ha : decide (le.toInt < (cbt R dens size c).toInt) = a) (hb : decide ((ctp R dens size c).toInt < gr.toInt) = b) :
    AM G mX6_ends 1 0 [.ref 30, .int (nI c), .long le, .long gr] h (fun r h' => ∃ z, r = some (.int z) ∧ (z = nI (a.toNat + b.toNat) ∧ h'.1 30 = mO cs cq rt rw dn sz wy rn kn (nI (L ++ (pL a (0, cbt R dens size c, 0, 0, c) ++ pL b (1, ctp R dens size c, 0, 0, c))).length) pt tk os ∧ mCode h' (L ++ (pL a (0, cbt R dens size c, 0, 0, c) ++ pL b (1, ctp R dens size c, 0, 0, c))) ∧ xFm 47 52 h h')) := by
  refine AM.of rfl rfl (Nat.le_of_ble_eq_true rfl) rfl ?_
  refine Ax_al0 dX6_ends_0 ?_
  refine Ax_getf kfX6 fX6_158 dX6_ends_1 m rfl ?_
  refine Ax_is6 dX6_ends_4 (Nat.le_of_ble_eq_true rfl) (by rfl) ?_
  refine Ax_ll2 dX6_ends_6 ?_
  refine Ax_al0 dX6_ends_7 ?_
  refine Ax_il1 dX6_ends_8 ?_
  refine Ax_cVi dX6_ends_9 vX6_164 kfX6 m (tX6_bottom m hV hK hl hc) rfl rfl (by decide) (by simp [Value.category]) ?_
  refine Ax_i2l dX6_ends_12 ?_
  refine Ax_lcmp dX6_ends_13 ?_
  refine Ax_ifgeC (tgt := 29) dX6_ends_14 (by decide) (fun c14 => ?_) (fun c14 => ?_)
  · rw [Int32.toInt_toInt64] at c14
    rw [decide_eq_false (by omega)] at ha
    subst ha
    subst hb
    have hb := ends_b (G := G) m hL hV hK hl (by omega) (Nat.le_refl _) hc le gr
    rw [Nat.sub_self] at hb
    exact hb
  · rw [Int32.toInt_toInt64] at c14
    rw [decide_eq_true (by omega)] at ha
    subst ha
    subst hb
    refine Ax_al0 dX6_ends_17 ?_
    refine Ax_ic0 dX6_ends_18 ?_
    refine Ax_al0 dX6_ends_19 ?_
    refine Ax_il1 dX6_ends_20 ?_
    refine Ax_cVi dX6_ends_21 vX6_164 kfX6 m (tX6_bottom m hV hK hl hc) rfl rfl (by decide) (by simp [Value.category]) ?_
    refine Ax_ic0 dX6_ends_24 ?_
    refine Ax_il1 dX6_ends_25 ?_
    refine Ax_cVv dX6_ends_26 vX6_168 kfX6 m (tX6_emit (G := G) m hL (by omega) 0 (cbt R dens size c) (nI 0) (c := nI c) (cc := c) (fun q => by omega)) rfl rfl (by decide) (by simp [Value.category]) (Nat.le_refl _) (fun h1 q1 => ?_)
    obtain ⟨m1, hL1, hF1⟩ := q1
    have hl1 : (L ++ [((0, cbt R dens size c, nI 0, 0, c) : Ln)]).length = L.length + 1 := by rw [List.length_append]; rfl
    have hb := ends_b (G := G) m1 hL1 (hV.on (fun q hq => hF1.1 q (by omega))) (hK.on (fun q hq => hF1.1 q (by omega))) hl (by rw [hl1]; omega) (s := L.length) (by rw [hl1]; omega) hc le gr
    rw [hl1, show L.length + 1 - L.length = 1 by omega, List.append_assoc] at hb
    exact Ax_post (fun r h' q => by obtain ⟨z, z1, z2, z3, z4, z5⟩ := q; exact ⟨z, z1, z2, z3, z4, hF1.tr z5⟩) hb
end
