/-! leaves laid down -/
def pL (a : Bool) (l : Ln) : List Ln := if a = true then [l] else []
theorem pL_len (a : Bool) (l : Ln) : (pL a l).length = a.toNat := by cases a <;> rfl
theorem pL_tsum (a : Bool) (l : Ln) (h : l.1 ≠ 5) : tsum (pL a l) = 0 := by
  cases a
  · rfl
  · unfold pL tsum tsz
    simp [h]
section
variable {G : xG} {h : xH} {R : List Run} {dens size rest : Nat} {L : List Ln} {tg dn : Int32}
theorem tC1_aimB {a : Bool} {l : Ln} {M : List Ln} (hl : l.1 ≠ 5) (hV : vC h R dens size rest (L ++ (pL a l ++ M)) tg dn) (hn : (L ++ (pL a l ++ M)).length ≤ 400) {x : Int32} (e : Int32) (hx : x = if a = true then nI L.length else -1) :
    AM G mX1_aim 1 0 [.ref 21, .int x, .int e] h (fun r h' => r = none ∧ vC h' R dens size rest (L ++ (pL a (l.1, l.2.1, e, l.2.2.2) ++ M)) tg dn ∧ xFr 21 7 h h') := by
  subst hx
  cases a
  · refine AM_post ?_ (tC1_aimN hV hn e)
    rintro r h' ⟨e1, rfl⟩
    exact ⟨e1, hV, xFr.rf⟩
  · exact tC1_aim hV hn hl e
/-- from the leaf's end on -/
theorem leaf_end {c : Nat} {a b : Bool} {body : List Ln} {x y bot top le gr : Int32} {k : Value} {z : Value} (hV : vC h R dens size rest (L ++ (pL a (0, bot, 0, 0, c) ++ (pL b (1, top, 0, 0, c) ++ body))) tg dn) (hn : L.length + 2 + body.length < 400) (hx : x = if a = true then nI L.length else -1) (hy : y = if b = true then nI (L.length + a.toNat) else -1) {Q : Option Value → xH → Prop}
    (hQ : ∀ h', vC h' R dens size rest (L ++ (pL a (0, bot, nI (L.length + (a.toNat + b.toNat + body.length)), 0, c) ++ (pL b (1, top, nI (L.length + (a.toNat + b.toNat + body.length)), 0, c) ++ (body ++ [(3, nI rest, 0, 0, c)])))) tg dn → xFr 21 7 h h' → Q none h') :
    Ax G mX1_layLeaf 3 0 195 [.ref 21, .int (nI c), .int le, .int gr, k, .int bot, .int top, .int x, .int y, z] [] h Q := by
  have u := hV.ob
  have ha : a.toNat ≤ 1 := Bool.toNat_le _
  have hb : b.toNat ≤ 1 := Bool.toNat_le _
  have hlen : (L ++ (pL a (0, bot, 0, 0, c) ++ (pL b (1, top, 0, 0, c) ++ body))).length = L.length + (a.toNat + b.toNat + body.length) := by
    rw [List.length_append, List.length_append, List.length_append, pL_len, pL_len]
    omega
  refine Ax_al0 dX1_layLeaf_195 ?_
  refine Ax_ic3 dX1_layLeaf_196 ?_
  refine Ax_al0 dX1_layLeaf_197 ?_
  refine Ax_getf kfX1 fX1_38 dX1_layLeaf_198 u rfl ?_
  refine Ax_ic0 dX1_layLeaf_201 ?_
  refine Ax_lc0 dX1_layLeaf_202 ?_
  refine Ax_cViH dX1_layLeaf_203 vX1_71 kfX1 u (tC1_write (G := G) hV (by rw [hlen]; omega) 3 (nI rest) (nI 0) 0 c (by decide)) rfl rfl (by decide) (by simp [Value.category]) (Nat.le_refl _) (fun x203 h1 q1 => ?_)
  obtain ⟨e1, hV1, hF1⟩ := q1
  rw [hlen] at e1
  subst e1
  rw [List.append_assoc, List.append_assoc, List.append_assoc] at hV1
  have u1 := hV1.ob
  refine Ax_is9 dX1_layLeaf_206 (Nat.le_of_ble_eq_true rfl) (by rfl) ?_
  refine Ax_al0 dX1_layLeaf_208 ?_
  refine Ax_il7 dX1_layLeaf_209 ?_
  refine Ax_il9 dX1_layLeaf_211 ?_
  refine Ax_cVv dX1_layLeaf_213 vX1_97 kfX1 u1 (tC1_aimB (G := G) (l := (0, bot, 0, 0, c)) (show (0 : Nat) ≠ 5 by decide) hV1 (by simp only [List.length_append, pL_len, List.length_singleton]; omega) _ hx) rfl rfl (by decide) (by simp [Value.category]) (Nat.le_refl _) (fun h2 q2 => ?_)
  obtain ⟨hV2, hF2⟩ := q2
  rw [← List.append_assoc] at hV2
  have u2 := hV2.ob
  refine Ax_al0 dX1_layLeaf_216 ?_
  refine Ax_il8 dX1_layLeaf_217 ?_
  refine Ax_il9 dX1_layLeaf_219 ?_
  refine Ax_cVv dX1_layLeaf_221 vX1_97 kfX1 u2 (tC1_aimB (G := G) (l := (1, top, 0, 0, c)) (show (1 : Nat) ≠ 5 by decide) hV2 (by simp only [List.length_append, pL_len, List.length_singleton]; omega) _ (by rw [List.length_append, pL_len]; exact hy)) rfl rfl (by decide) (by simp [Value.category]) (Nat.le_refl _) (fun h3 q3 => ?_)
  obtain ⟨hV3, hF3⟩ := q3
  rw [List.append_assoc] at hV3
  exact Ax_ret dX1_layLeaf_224 rfl (hQ _ hV3 ((hF1.tr hF2).tr hF3))
theorem leaf_tail {c K : Nat} {a b : Bool} {body : List Ln} {x y bot top le gr : Int32} {z : Value} (hK : K < 3) (hV : vC h R dens size rest (L ++ (pL a (0, bot, 0, 0, c) ++ (pL b (1, top, 0, 0, c) ++ body))) tg dn) (hn : L.length + 2 + body.length < 400) (hx : x = if a = true then nI L.length else -1) (hy : y = if b = true then nI (L.length + a.toNat) else -1) {Q : Option Value → xH → Prop}
    (hQ : ∀ h', vC h' R dens size rest (L ++ (pL a (0, bot, nI (L.length + (a.toNat + b.toNat + body.length)), 0, c) ++ (pL b (1, top, nI (L.length + (a.toNat + b.toNat + body.length)), 0, c) ++ (body ++ (if K = 1 ∨ a = true ∨ b = true then [(3, nI rest, 0, 0, c)] else []))))) tg dn → xFr 21 7 h h' → Q none h') :
    Ax G mX1_layLeaf 3 0 177 [.ref 21, .int (nI c), .int le, .int gr, .int (nI K), .int bot, .int top, .int x, .int y, z] [] h Q := by
  refine Ax_il4 dX1_layLeaf_177 ?_
  refine Ax_ic1 dX1_layLeaf_179 ?_
  refine Ax_cmpeqn (tgt := 195) dX1_layLeaf_180 (by decide) (by omega) (by omega) (fun c180 => ?_) (fun c180 => ?_)
  · rw [if_pos (Or.inl c180)] at hQ
    exact leaf_end hV hn hx hy hQ
  refine Ax_il7 dX1_layLeaf_183 ?_
  refine Ax_icm1 dX1_layLeaf_185 ?_
  refine Ax_cmpne (tgt := 195) dX1_layLeaf_186 (by decide) (fun c186 => ?_) (fun c186 => ?_)
  · have ha : a = true := by
      cases a
      · exact absurd hx c186
      · rfl
    rw [if_pos (Or.inr (Or.inl ha))] at hQ
    exact leaf_end hV hn hx hy hQ
  refine Ax_il8 dX1_layLeaf_189 ?_
  refine Ax_icm1 dX1_layLeaf_191 ?_
  refine Ax_cmpeq (tgt := 224) dX1_layLeaf_192 (by decide) (fun c192 => ?_) (fun c192 => ?_)
  · have ha : a = false := by
      cases a
      · rfl
      · subst hx; exact absurd c186 (by decide)
    have hb : b = false := by
      cases b
      · rfl
      · subst hy; exact absurd c192 (by decide)
    subst ha hb
    rw [if_neg (by rintro (q | q | q); exact c180 q; cases q; cases q), List.append_nil] at hQ
    exact Ax_ret dX1_layLeaf_224 rfl (hQ _ hV xFr.rf)
  · have hb : b = true := by
      cases b
      · exact absurd hy c192
      · rfl
    rw [if_pos (Or.inr (Or.inr hb))] at hQ
    exact leaf_end hV hn hx hy hQ
end
