/-! the reference: a leaf -/
def setL (e : Nat) (l : Ln) : Ln := (l.1, l.2.1, nI e, l.2.2.2)
theorem gL_map {e : Nat} {M : List Ln} {j : Nat} (hj : j < M.length) : gL (M.map (setL e)) j = setL e (gL M j) := by
  unfold gL
  rw [List.getD_eq_getElem?_getD, List.getD_eq_getElem?_getD, List.getElem?_map, List.getElem?_eq_getElem hj]
  rfl
theorem mLn.patch {L M B : List Ln} {kn fi se se' fo : Nat → Int32} {ro : Nat → Int64} {e : Nat} (h : mLn (L ++ (M ++ B)) kn fi se ro fo) (h1 : ∀ k, L.length ≤ k → k < L.length + M.length → se' k = nI e) (h2 : ∀ k, (k < L.length ∨ L.length + M.length ≤ k) → se' k = se k) : mLn (L ++ (M.map (setL e) ++ B)) kn fi se' ro fo := by
  intro k hk
  rw [List.length_append, List.length_append, List.length_map] at hk
  obtain ⟨q1, q2, q3, q4, q5⟩ := h k (by rw [List.length_append, List.length_append]; omega)
  rw [gL_app] at q1 q2 q3 q4 q5 ⊢
  by_cases w : k < L.length
  · rw [if_pos w] at q1 q2 q3 q4 q5 ⊢
    exact ⟨q1, q2, (h2 k (Or.inl w)).trans q3, q4, q5⟩
  · rw [if_neg w] at q1 q2 q3 q4 q5 ⊢
    rw [gL_app] at q1 q2 q3 q4 q5 ⊢
    rw [List.length_map]
    by_cases w2 : k - L.length < M.length
    · rw [if_pos w2] at q1 q2 q3 q4 q5 ⊢
      rw [gL_map w2]
      exact ⟨q1, q2, h1 k (by omega) (by omega), q4, q5⟩
    · rw [if_neg w2] at q1 q2 q3 q4 q5 ⊢
      exact ⟨q1, q2, (h2 k (by omega)).trans q3, q4, q5⟩
theorem pL_map (a : Bool) (e : Nat) (l : Ln) : (pL a l).map (setL e) = pL a (setL e l) := by cases a <;> rfl
section
variable {G : xG} {R : List Run} {dens size : Nat} {cs cq rw dn sz wy rn kn ln pt tk os : Int32} {rest : Nat}
theorem mleaf_t {h : xH} {L body : List Ln} {c : Nat} {a b : Bool} {le gr : Int64} {x6 x9 : Value} {l1 l2 : Ln} (m : h.1 30 = mO cs cq (nI rest) rw dn sz wy rn kn (nI (L ++ (pL a l1 ++ pL b l2 ++ body)).length) pt tk os) (hL : mCode h (L ++ (pL a l1 ++ pL b l2 ++ body))) (hK : mCls h R dens size) (hl : R.length ≤ 24) (hn : L.length + 2 + body.length < 400) (hc : c < (clsOf R dens size).length) (h8 : x6.category = 1) :
    Ax G mX6_leaf 2 0 158 [.ref 30, .int (nI c), .long le, .null, .long gr, .null, x6, .int (nI L.length), .int (nI (a.toNat + b.toNat)), x9] [] h (fun r h' => r = none ∧ (h'.1 30 = mO cs cq (nI rest) rw dn sz wy rn kn (nI (L ++ (pL a (setL (L.length + (a.toNat + b.toNat + body.length)) l1) ++ (pL b (setL (L.length + (a.toNat + b.toNat + body.length)) l2) ++ (body ++ (if ckd R dens size c = 1 ∨ a = true ∨ b = true then [(3, nI rest, 0, 0, c)] else []))))).length) pt tk os ∧
      mCode h' (L ++ (pL a (setL (L.length + (a.toNat + b.toNat + body.length)) l1) ++ (pL b (setL (L.length + (a.toNat + b.toNat + body.length)) l2) ++ (body ++ (if ckd R dens size c = 1 ∨ a = true ∨ b = true then [(3, nI rest, 0, 0, c)] else []))))) ∧ xFm 47 52 h h')) := by
  have ha1 : a.toNat ≤ 1 := Bool.toNat_le _
  have hb1 : b.toNat ≤ 1 := Bool.toNat_le _
  have hlk := cls_len R dens size
  have hlM : (pL a l1 ++ pL b l2).length = a.toNat + b.toNat := by rw [List.length_append, pL_len, pL_len]
  have hlen : (L ++ (pL a l1 ++ pL b l2 ++ body)).length = L.length + (a.toNat + b.toNat + body.length) := by rw [List.length_append, List.length_append, hlM]
  rw [hlen] at m
  generalize hE : L.length + (a.toNat + b.toNat + body.length) = E at m ⊢
  obtain ⟨kn', fi, se, ro, fo, m25, m26, m27, m28, m29, hR⟩ := hL
  have hR0 := hR
  have hkc := ckd_lt hc
  suffices hloop : ∀ w t hh se' x9, t + w = a.toNat + b.toNat → hh.1 30 = mO cs cq (nI rest) rw dn sz wy rn kn (nI E) pt tk os → hh.1 47 = cI 0 400 kn' → hh.1 48 = cI 0 400 fi → hh.1 49 = cI 0 400 se' → hh.1 50 = cJ 400 ro → hh.1 51 = cI 0 400 fo → (∀ q, (q < 30 ∨ (30 < q ∧ q < 47) ∨ 52 ≤ q) → hh.1 q = h.1 q) → hh.2 = h.2 → (∀ k, L.length ≤ k → k < L.length + t → se' k = nI E) → (∀ k, (k < L.length ∨ L.length + t ≤ k) → se' k = se k) →
      Ax G mX6_leaf 2 0 162 [.ref 30, .int (nI c), .long le, .null, .long gr, .null, x6, .int (nI L.length), .int (nI (a.toNat + b.toNat)), .int (nI (L.length + t))] [] hh (fun r h' => r = none ∧ (h'.1 30 = mO cs cq (nI rest) rw dn sz wy rn kn (nI (L ++ (pL a (setL E l1) ++ (pL b (setL E l2) ++ (body ++ (if ckd R dens size c = 1 ∨ a = true ∨ b = true then [(3, nI rest, 0, 0, c)] else []))))).length) pt tk os ∧
        mCode h' (L ++ (pL a (setL E l1) ++ (pL b (setL E l2) ++ (body ++ (if ckd R dens size c = 1 ∨ a = true ∨ b = true then [(3, nI rest, 0, 0, c)] else []))))) ∧ xFm 47 52 h h')) by
    refine Ax_il7 dX6_leaf_158 ?_
    refine Ax_is9 dX6_leaf_160 (Nat.le_of_ble_eq_true rfl) (by rfl) ?_
    exact hloop _ 0 h se x9 (Nat.zero_add _) m m25 m26 m27 m28 m29 (fun _ _ => rfl) rfl (fun k h1 h2 => by omega) (fun _ _ => rfl)
  clear m m25 m26 m27 m28 m29
  intro w
  induction w with
  | succ w ih =>
    intro t hh se' x9 ht m m25 m26 m27 m28 m29 fr zr p1 p2
    refine Ax_il9 dX6_leaf_162 ?_
    refine Ax_il7 dX6_leaf_164 ?_
    refine Ax_il8 dX6_leaf_166 ?_
    refine Ax_iaddn dX6_leaf_168 ?_
    refine Ax_cmpgen (tgt := 189) dX6_leaf_169 (by decide) (by omega) (by omega) (fun c169 => ?_) (fun c169 => ?_)
    · omega
    refine Ax_al0 dX6_leaf_172 ?_
    refine Ax_getf kfX6 fX6_76 dX6_leaf_173 m rfl ?_
    refine Ax_il9 dX6_leaf_176 ?_
    refine Ax_al0 dX6_leaf_178 ?_
    refine Ax_getf kfX6 fX6_158 dX6_leaf_179 m rfl ?_
    refine Ax_iastn dX6_leaf_182 m27 (by omega) (by omega) (Ax_up (fun h1 e1 f1 z1 => ?_))
    replace m := (f1 _ (by omega)).trans m
    replace m25 := (f1 _ (by omega)).trans m25
    replace m26 := (f1 _ (by omega)).trans m26
    replace m27 := e1
    replace m28 := (f1 _ (by omega)).trans m28
    replace m29 := (f1 _ (by omega)).trans m29
    replace fr : ∀ q, (q < 30 ∨ (30 < q ∧ q < 47) ∨ 52 ≤ q) → h1.1 q = h.1 q := fun q hq => (f1 q (by omega)).trans (fr q hq)
    replace zr := z1.trans zr
    refine Ax_inc9_1n dX6_leaf_183 (Nat.le_of_ble_eq_true rfl) (by rfl) ?_
    refine Ax_goto (tgt := 162) dX6_leaf_186 (by decide) ?_
    exact ih (t + 1) _ _ x9 (by omega) m m25 m26 m27 m28 m29 fr zr (fun k h1 h2 => by
      rcases (show k < L.length + t ∨ k = L.length + t by omega) with q | q
      · rw [pk_un (by omega)]; exact p1 k h1 q
      · subst q; exact pk_us) (fun k hk => by rw [pk_un (by omega)]; exact p2 k (by omega))
  | zero =>
    intro t hh se' x9 ht m m25 m26 m27 m28 m29 fr zr p1 p2
    obtain rfl : t = a.toNat + b.toNat := by omega
    have hR1 := hR0.patch (e := E) (by rw [hlM]; exact p1) (by rw [hlM]; exact p2)
    rw [List.map_append, pL_map, pL_map] at hR1
    have hV1 : mCode hh (L ++ (pL a (setL E l1) ++ pL b (setL E l2) ++ body)) := ⟨_, _, _, _, _, m25, m26, m27, m28, m29, hR1⟩
    have hl2 : (L ++ (pL a (setL E l1) ++ pL b (setL E l2) ++ body)).length = E := by rw [List.length_append, List.length_append, List.length_append, pL_len, pL_len]; omega
    have hF1 : xFm 47 52 h hh := ⟨fr, zr⟩
    have hK1 := hK.on (h' := hh) (fun q hq => fr q (by omega))
    obtain ⟨ki, fi', ma, fw, m17, m18, m19, m21, hR3⟩ := hK1
    obtain ⟨q1, q2, q3⟩ := hR3 c hc
    have hend : (ckd R dens size c = 1 ∨ a = true ∨ b = true) → ∀ x9, Ax G mX6_leaf 2 0 204 [.ref 30, .int (nI c), .long le, .null, .long gr, .null, x6, .int (nI L.length), .int (nI (a.toNat + b.toNat)), x9] [] hh (fun r h' => r = none ∧ (h'.1 30 = mO cs cq (nI rest) rw dn sz wy rn kn (nI (L ++ (pL a (setL E l1) ++ (pL b (setL E l2) ++ (body ++ (if ckd R dens size c = 1 ∨ a = true ∨ b = true then [(3, nI rest, 0, 0, c)] else []))))).length) pt tk os ∧
        mCode h' (L ++ (pL a (setL E l1) ++ (pL b (setL E l2) ++ (body ++ (if ckd R dens size c = 1 ∨ a = true ∨ b = true then [(3, nI rest, 0, 0, c)] else []))))) ∧ xFm 47 52 h h')) := by
      intro q x9
      rw [if_pos q]
      have eL : L ++ (pL a (setL E l1) ++ (pL b (setL E l2) ++ (body ++ [((3, nI rest, 0, 0, c) : Ln)]))) = (L ++ (pL a (setL E l1) ++ pL b (setL E l2) ++ body)) ++ [((3, nI rest, nI 0, 0, c) : Ln)] := by simp only [List.append_assoc]; rfl
      rw [eL]
      rw [← hl2] at m
      refine Ax_al0 dX6_leaf_204 ?_
      refine Ax_ic3 dX6_leaf_205 ?_
      refine Ax_al0 dX6_leaf_206 ?_
      refine Ax_getf kfX6 fX6_125 dX6_leaf_207 m rfl ?_
      refine Ax_ic0 dX6_leaf_210 ?_
      refine Ax_il1 dX6_leaf_211 ?_
      refine Ax_cVv dX6_leaf_212 vX6_168 kfX6 m (tX6_emit (G := G) m hV1 (by rw [hl2]; omega) 3 (nI rest) (nI 0) (c := nI c) (cc := c) (fun q => by omega)) rfl rfl (by decide) (by simp [Value.category]) (Nat.le_refl _) (fun h81 q81 => ?_)
      obtain ⟨m1, hL1, hF2⟩ := q81
      exact Ax_ret dX6_leaf_215 rfl ⟨rfl, m1, hL1, hF1.tr hF2⟩
    refine Ax_il9 dX6_leaf_162 ?_
    refine Ax_il7 dX6_leaf_164 ?_
    refine Ax_il8 dX6_leaf_166 ?_
    refine Ax_iaddn dX6_leaf_168 ?_
    refine Ax_cmpgen (tgt := 189) dX6_leaf_169 (by decide) (by omega) (by omega) (fun c169 => ?_) (fun c169 => ?_)
    rotate_left
    · omega
    refine Ax_il8 dX6_leaf_189 ?_
    refine Ax_ifgtn (tgt := 204) dX6_leaf_191 (by decide) (by omega) (fun c191 => ?_) (fun c191 => ?_)
    · refine hend (Or.inr ?_) _
      cases a
      · cases b
        · exact absurd c191 (by decide)
        · exact Or.inr rfl
      · exact Or.inl rfl
    refine Ax_al0 dX6_leaf_194 ?_
    refine Ax_getf kfX6 fX6_48 dX6_leaf_195 m rfl ?_
    refine Ax_il1 dX6_leaf_198 ?_
    refine Ax_ialdn dX6_leaf_199 m17 (by omega) (by omega) ?_
    refine Ax_top (q1) ?_
    refine Ax_ic1 dX6_leaf_200 ?_
    refine Ax_cmpnen (tgt := 215) dX6_leaf_201 (by decide) (by omega) (by omega) (fun c201 => ?_) (fun c201 => ?_)
    rotate_left
    · exact hend (Or.inl c201) _
    · have hno : ¬ (ckd R dens size c = 1 ∨ a = true ∨ b = true) := by
        rintro (q | q | q)
        · exact c201 q
        · rw [q, show true.toNat = 1 from rfl] at c191; omega
        · rw [q, show true.toNat = 1 from rfl] at c191; omega
      rw [if_neg hno, List.append_nil, ← List.append_assoc (pL a _)]
      rw [← hl2] at m
      exact Ax_ret dX6_leaf_215 rfl ⟨rfl, m, hV1, hF1⟩
theorem tX6_leaf {h : xH} {L : List Ln} {c : Nat} {a b : Bool} {le gr : Int64} (m : h.1 30 = mO cs cq (nI rest) rw dn sz wy rn kn (nI L.length) pt tk os) (hL : mCode h L) (hV : mRuns h R) (hK : mCls h R dens size) (hl : R.length ≤ 24) (hI : RInv R) (hsz : size ≤ 256) (hc : c < (clsOf R dens size).length) (hn : L.length + 30 < 400) (ha : decide (le.toInt < (cbt R dens size c).toInt) = a) (hb : decide ((ctp R dens size c).toInt < gr.toInt) = b) :
    AM G mX6_leaf 2 0 [.ref 30, .int (nI c), .long le, .long gr] h (fun r h' => r = none ∧ (h'.1 30 = mO cs cq (nI rest) rw dn sz wy rn kn (nI (L ++ leafAB R dens size rest c a b L.length).length) pt tk os ∧ mCode h' (L ++ leafAB R dens size rest c a b L.length) ∧ xFm 47 52 h h')) := by
  obtain ⟨-, p1, p2, -⟩ := ClOk.at _ _ c (cls_ok R dens size) hc
  have hlk := cls_len R dens size
  have hkd := ckd_is hc
  have hkl := ckd_lt hc
  obtain ⟨lo, hi, tg, wt, m12, m13, m14, m15, hRep⟩ := id hV
  obtain ⟨ki, fi', ma, fw, m17, m18, m19, m21, hR3⟩ := id hK
  obtain ⟨q1, q2, q3⟩ := hR3 c hc
  have rf := hRep (cf (clsOf R dens size) c) (by omega)
  refine AM.of rfl rfl (Nat.le_of_ble_eq_true rfl) rfl ?_
  refine Ax_al0 dX6_leaf_0 ?_
  refine Ax_getf kfX6 fX6_42 dX6_leaf_1 m rfl ?_
  refine Ax_al0 dX6_leaf_4 ?_
  refine Ax_getf kfX6 fX6_51 dX6_leaf_5 m rfl ?_
  refine Ax_il1 dX6_leaf_8 ?_
  refine Ax_ialdn dX6_leaf_9 m18 (by omega) (by omega) ?_
  refine Ax_top (q2) ?_
  refine Ax_ialdn dX6_leaf_10 m14 (by omega) (by omega) ?_
  refine Ax_top (rf.2.2.1) ?_
  refine Ax_is6 dX6_leaf_11 (Nat.le_of_ble_eq_true rfl) (by rfl) ?_
  have hlate : ¬ (ckd R dens size c = 0 ∧ cbt R dens size c = ctp R dens size c) → ∀ x7 x8 x9, Ax G mX6_leaf 2 0 60 [.ref 30, .int (nI c), .long le, .null, .long gr, .null, .int (nI (rtg R (cf (clsOf R dens size) c))), x7, x8, x9] [] h (fun r h' => r = none ∧ (h'.1 30 = mO cs cq (nI rest) rw dn sz wy rn kn (nI (L ++ leafAB R dens size rest c a b L.length).length) pt tk os ∧ mCode h' (L ++ leafAB R dens size rest c a b L.length) ∧ xFm 47 52 h h')) := by
    intro hno x7 x8 x9
    have eAB : leafAB R dens size rest c a b L.length = pL a (setL (L.length + (a.toNat + b.toNat + (bodyL R dens size c).length)) (0, cbt R dens size c, 0, 0, c)) ++ (pL b (setL (L.length + (a.toNat + b.toNat + (bodyL R dens size c).length)) (1, ctp R dens size c, 0, 0, c)) ++ (bodyL R dens size c ++ (if ckd R dens size c = 1 ∨ a = true ∨ b = true then [(3, nI rest, 0, 0, c)] else []))) := by
      unfold leafAB
      rw [if_neg hno]
      rfl
    rw [eAB]
    refine Ax_al0 dX6_leaf_60 ?_
    refine Ax_getf kfX6 fX6_158 dX6_leaf_61 m rfl ?_
    refine Ax_is7 dX6_leaf_64 (Nat.le_of_ble_eq_true rfl) (by rfl) ?_
    refine Ax_al0 dX6_leaf_66 ?_
    refine Ax_il1 dX6_leaf_67 ?_
    refine Ax_ll2 dX6_leaf_68 ?_
    refine Ax_ll4 dX6_leaf_69 ?_
    refine Ax_cViH dX6_leaf_71 vX6_175 kfX6 m (tX6_ends (G := G) m hL hV hK hl (by omega) hc le gr ha hb) rfl rfl (by decide) (by simp [Value.category]) (Nat.le_refl _) (fun x71 h11 q11 => ?_)
    obtain ⟨rfl, m1, hL1, hF1⟩ := q11
    have ha1 : a.toNat ≤ 1 := Bool.toNat_le _
    have hb1 : b.toNat ≤ 1 := Bool.toNat_le _
    have hlM : (L ++ (pL a (0, cbt R dens size c, 0, 0, c) ++ pL b (1, ctp R dens size c, 0, 0, c))).length = L.length + (a.toNat + b.toNat) := by rw [List.length_append, List.length_append, pL_len, pL_len]
    have hV1 := hV.on (h' := h11) (fun q hq => hF1.1 q (by omega))
    have hK1 := hK.on (h' := h11) (fun q hq => hF1.1 q (by omega))
    obtain ⟨ki1, fi1, ma1, fw1, m117, m118, m119, m121, hR31⟩ := id hK1
    obtain ⟨w1, w2, w3⟩ := hR31 c hc
    refine Ax_is8 dX6_leaf_74 (Nat.le_of_ble_eq_true rfl) (by rfl) ?_
    refine Ax_al0 dX6_leaf_76 ?_
    refine Ax_getf kfX6 fX6_48 dX6_leaf_77 m1 rfl ?_
    refine Ax_il1 dX6_leaf_80 ?_
    refine Ax_ialdn dX6_leaf_81 m117 (by omega) (by omega) ?_
    refine Ax_top (w1) ?_
    refine Ax_ifnen (tgt := 97) dX6_leaf_82 (by decide) (by omega) (fun c82 => ?_) (fun c82 => ?_)
    rotate_left
    · have ebody : bodyL R dens size c = [(3, nI (rtg R (cf (clsOf R dens size) c)), 0, 0, c)] := by unfold bodyL; rw [if_pos c82]
      rw [ebody]
      refine Ax_al0 dX6_leaf_85 ?_
      refine Ax_ic3 dX6_leaf_86 ?_
      refine Ax_il6 dX6_leaf_87 ?_
      refine Ax_ic0 dX6_leaf_89 ?_
      refine Ax_il1 dX6_leaf_90 ?_
      refine Ax_cVv dX6_leaf_91 vX6_168 kfX6 m1 (tX6_emit (G := G) m1 hL1 (by rw [hlM]; omega) 3 (nI (rtg R (cf (clsOf R dens size) c))) (nI 0) (c := nI c) (cc := c) (fun q => by omega)) rfl rfl (by decide) (by simp [Value.category]) (Nat.le_refl _) (fun h21 q21 => ?_)
      obtain ⟨m2, hL2, hF2⟩ := q21
      refine Ax_goto (tgt := 158) dX6_leaf_94 (by decide) ?_
      rw [List.append_assoc] at m2 hL2
      exact Ax_post (fun r h' q => ⟨q.1, q.2.1, q.2.2.1, (hF1.tr hF2).tr q.2.2.2⟩) (mleaf_t (R := R) (dens := dens) (size := size) m2 hL2 (hK1.on (fun q hq => hF2.1 q (by omega))) hl (by simp only [List.length_singleton]; omega) hc rfl)
    refine Ax_al0 dX6_leaf_97 ?_
    refine Ax_getf kfX6 fX6_48 dX6_leaf_98 m1 rfl ?_
    refine Ax_il1 dX6_leaf_101 ?_
    refine Ax_ialdn dX6_leaf_102 m117 (by omega) (by omega) ?_
    refine Ax_top (w1) ?_
    refine Ax_ic2 dX6_leaf_103 ?_
    refine Ax_cmpnen (tgt := 134) dX6_leaf_104 (by decide) (by omega) (by omega) (fun c104 => ?_) (fun c104 => ?_)
    rotate_left
    · have hk2 := hkd
      rw [c104] at hk2
      obtain ⟨-, hcs⟩ := kd_two hk2
      have hmono := rlo_mono hI (cl (clsOf R dens size) c - cf (clsOf R dens size) c) (cf (clsOf R dens size) c) (by omega)
      rw [show cf (clsOf R dens size) c + (cl (clsOf R dens size) c - cf (clsOf R dens size) c) = cl (clsOf R dens size) c by omega] at hmono
      have hlh := (hI.1 (cl (clsOf R dens size) c) p2).1
      have ebt : ctp R dens size c - cbt R dens size c + nI 1 = nI (csp R dens size c) := by
        unfold csp spn
        unfold spn at hcs
        show rhi R (cl (clsOf R dens size) c) - rlo R (cf (clsOf R dens size) c) + nI 1 = _
        rw [I_dif (by omega) (by omega), nI_add]
        congr 1
        omega
      have ebody : bodyL R dens size c = [(5, cbt R dens size c, nI (csp R dens size c), 0, c)] := by unfold bodyL; rw [if_neg (by omega), if_neg (by omega)]
      rw [ebody]
      refine Ax_al0 dX6_leaf_107 ?_
      refine Ax_ic5 dX6_leaf_108 ?_
      refine Ax_al0 dX6_leaf_109 ?_
      refine Ax_il1 dX6_leaf_110 ?_
      refine Ax_cVi dX6_leaf_111 vX6_164 kfX6 m1 (tX6_bottom m1 hV1 hK1 hl hc) rfl rfl (by decide) (by simp [Value.category]) ?_
      refine Ax_al0 dX6_leaf_114 ?_
      refine Ax_il1 dX6_leaf_115 ?_
      refine Ax_cVi dX6_leaf_116 vX6_172 kfX6 m1 (tX6_top m1 hV1 hK1 hl hc) rfl rfl (by decide) (by simp [Value.category]) ?_
      refine Ax_al0 dX6_leaf_119 ?_
      refine Ax_il1 dX6_leaf_120 ?_
      refine Ax_cVi dX6_leaf_121 vX6_164 kfX6 m1 (tX6_bottom m1 hV1 hK1 hl hc) rfl rfl (by decide) (by simp [Value.category]) ?_
      refine Ax_isub dX6_leaf_124 ?_
      refine Ax_ic1 dX6_leaf_125 ?_
      refine Ax_iadd dX6_leaf_126 ?_
      refine Ax_top (ebt) ?_
      refine Ax_il1 dX6_leaf_127 ?_
      refine Ax_cVv dX6_leaf_128 vX6_168 kfX6 m1 (tX6_emit (G := G) m1 hL1 (by rw [hlM]; omega) 5 (cbt R dens size c) (nI (csp R dens size c)) (c := nI c) (cc := c) (fun q => rfl)) rfl rfl (by decide) (by simp [Value.category]) (Nat.le_refl _) (fun h21 q21 => ?_)
      obtain ⟨m2, hL2, hF2⟩ := q21
      refine Ax_goto (tgt := 158) dX6_leaf_131 (by decide) ?_
      rw [List.append_assoc] at m2 hL2
      exact Ax_post (fun r h' q => ⟨q.1, q.2.1, q.2.2.1, (hF1.tr hF2).tr q.2.2.2⟩) (mleaf_t (R := R) (dens := dens) (size := size) m2 hL2 (hK1.on (fun q hq => hF2.1 q (by omega))) hl (by simp only [List.length_singleton]; omega) hc rfl)
    · have k1 : ckd R dens size c = 1 := by omega
      have hk1 := hkd
      rw [k1] at hk1
      obtain ⟨-, hw, hd3⟩ := kd_one hk1
      have ebody : bodyL R dens size c = bitLs R (cbt R dens size c) c (cf (clsOf R dens size) c) (cn R dens size c) (cn R dens size c) := by unfold bodyL; rw [if_neg (by omega), if_pos k1]
      have hbl := bitLs_len (R := R) (b := cbt R dens size c) (c := c) (f := cf (clsOf R dens size) c) (n0 := cn R dens size c) (cn R dens size c)
      have hdc : dcnt (rtg R) (cf (clsOf R dens size) c) (cn R dens size c) ≤ 3 := hd3
      have hcn : cn R dens size c = cl (clsOf R dens size) c - cf (clsOf R dens size) c + 1 := rfl
      rw [ebody]
      refine Ax_al0 dX6_leaf_134 ?_
      refine Ax_il1 dX6_leaf_135 ?_
      refine Ax_al0 dX6_leaf_136 ?_
      refine Ax_getf kfX6 fX6_51 dX6_leaf_137 m1 rfl ?_
      refine Ax_il1 dX6_leaf_140 ?_
      refine Ax_ialdn dX6_leaf_141 m118 (by omega) (by omega) ?_
      refine Ax_top (w2) ?_
      refine Ax_al0 dX6_leaf_142 ?_
      refine Ax_getf kfX6 fX6_51 dX6_leaf_143 m1 rfl ?_
      refine Ax_il1 dX6_leaf_146 ?_
      refine Ax_ialdn dX6_leaf_147 m118 (by omega) (by omega) ?_
      refine Ax_top (w2) ?_
      refine Ax_al0 dX6_leaf_148 ?_
      refine Ax_getf kfX6 fX6_54 dX6_leaf_149 m1 rfl ?_
      refine Ax_il1 dX6_leaf_152 ?_
      refine Ax_ialdn dX6_leaf_153 m119 (by omega) (by omega) ?_
      refine Ax_top (w3) ?_
      refine Ax_iaddn dX6_leaf_154 ?_
      refine Ax_cVv dX6_leaf_155 vX6_179 kfX6 m1 (tX6_layBits (G := G) (c := c) (f := cf (clsOf R dens size) c) (n0 := cn R dens size c) m1 hL1 hV1 hl hI (by omega) (by omega) (by rw [hcn, show cf (clsOf R dens size) c + (cl (clsOf R dens size) c - cf (clsOf R dens size) c + 1) - 1 = cl (clsOf R dens size) c by omega]; unfold spn at hw; omega) (by rw [hlM]; omega)) rfl rfl (by decide) (by simp [Value.category]) (Nat.le_refl _) (fun h21 q21 => ?_)
      obtain ⟨m2, hL2, hF2⟩ := q21
      rw [List.append_assoc] at m2 hL2
      exact Ax_post (fun r h' q => ⟨q.1, q.2.1, q.2.2.1, (hF1.tr hF2).tr q.2.2.2⟩) (mleaf_t (R := R) (dens := dens) (size := size) m2 hL2 (hK1.on (fun q hq => hF2.1 q (by omega))) hl (by rw [bitLs_len]; omega) hc rfl)
  refine Ax_al0 dX6_leaf_13 ?_
  refine Ax_getf kfX6 fX6_48 dX6_leaf_14 m rfl ?_
  refine Ax_il1 dX6_leaf_17 ?_
  refine Ax_ialdn dX6_leaf_18 m17 (by omega) (by omega) ?_
  refine Ax_top (q1) ?_
  refine Ax_ifnen (tgt := 60) dX6_leaf_19 (by decide) (by omega) (fun c19 => ?_) (fun c19 => ?_)
  · exact hlate (fun q => c19 q.1) _ _ _
  refine Ax_al0 dX6_leaf_22 ?_
  refine Ax_il1 dX6_leaf_23 ?_
  refine Ax_cVi dX6_leaf_24 vX6_164 kfX6 m (tX6_bottom m hV hK hl hc) rfl rfl (by decide) (by simp [Value.category]) ?_
  refine Ax_al0 dX6_leaf_27 ?_
  refine Ax_il1 dX6_leaf_28 ?_
  refine Ax_cVi dX6_leaf_29 vX6_172 kfX6 m (tX6_top m hV hK hl hc) rfl rfl (by decide) (by simp [Value.category]) ?_
  refine Ax_cmpne (tgt := 60) dX6_leaf_32 (by decide) (fun c32 => ?_) (fun c32 => ?_)
  · exact hlate (fun q => c32 q.2) _ _ _
  have eAB : leafAB R dens size rest c a b L.length = [(2, cbt R dens size c, nI (rtg R (cf (clsOf R dens size) c)), 0, c)] ++ [(3, nI rest, nI 0, 0, c)] := by
    unfold leafAB
    rw [if_pos ⟨c19, c32⟩]
    rfl
  rw [eAB, ← List.append_assoc]
  refine Ax_al0 dX6_leaf_35 ?_
  refine Ax_ic2 dX6_leaf_36 ?_
  refine Ax_al0 dX6_leaf_37 ?_
  refine Ax_il1 dX6_leaf_38 ?_
  refine Ax_cVi dX6_leaf_39 vX6_164 kfX6 m (tX6_bottom m hV hK hl hc) rfl rfl (by decide) (by simp [Value.category]) ?_
  refine Ax_il6 dX6_leaf_42 ?_
  refine Ax_il1 dX6_leaf_44 ?_
  refine Ax_cVv dX6_leaf_45 vX6_168 kfX6 m (tX6_emit (G := G) m hL (by omega) 2 (cbt R dens size c) (nI (rtg R (cf (clsOf R dens size) c))) (c := nI c) (cc := c) (fun q => by omega)) rfl rfl (by decide) (by simp [Value.category]) (Nat.le_refl _) (fun h11 q11 => ?_)
  obtain ⟨m1, hL1, hF1⟩ := q11
  have hl1 : (L ++ [((2, cbt R dens size c, nI (rtg R (cf (clsOf R dens size) c)), 0, c) : Ln)]).length = L.length + 1 := by rw [List.length_append]; rfl
  refine Ax_al0 dX6_leaf_48 ?_
  refine Ax_ic3 dX6_leaf_49 ?_
  refine Ax_al0 dX6_leaf_50 ?_
  refine Ax_getf kfX6 fX6_125 dX6_leaf_51 m1 rfl ?_
  refine Ax_ic0 dX6_leaf_54 ?_
  refine Ax_il1 dX6_leaf_55 ?_
  refine Ax_cVv dX6_leaf_56 vX6_168 kfX6 m1 (tX6_emit (G := G) m1 hL1 (by rw [hl1]; omega) 3 (nI rest) (nI 0) (c := nI c) (cc := c) (fun q => by omega)) rfl rfl (by decide) (by simp [Value.category]) (Nat.le_refl _) (fun h21 q21 => ?_)
  obtain ⟨m2, hL2, hF2⟩ := q21
  exact Ax_ret dX6_leaf_59 rfl ⟨rfl, m2, hL2, hF1.tr hF2⟩
end
