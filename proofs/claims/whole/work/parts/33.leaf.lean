/-! leaves laid down -/
def pL (a : Bool) (l : Ln) : List Ln := if a = true then [l] else []
theorem nI_nem {n : Nat} (h : n < 2147483648) : nI n ≠ -1 := fun e => by
  have := congrArg Int32.toInt e
  rw [nI_toInt h] at this
  have h7 : (-1 : Int32).toInt = -1 := rfl
  omega
theorem pL_len (a : Bool) (l : Ln) : (pL a l).length = a.toNat := by cases a <;> rfl
theorem pL_tsum (a : Bool) (l : Ln) (h : l.1 ≠ 5) : tsum (pL a l) = 0 := by
  cases a
  · rfl
  · unfold pL tsum tsz
    simp [h]
section
variable {G : xG} {h : xH} {R : List Run} {dens size rest : Nat} {L : List Ln} {tg dn : Int32}
theorem tC1_aimB {a : Bool} {l : Ln} {M : List Ln} (hl : l.1 ≠ 5) (hV : vC h R dens size rest (L ++ (pL a l ++ M)) tg dn) (hn : (L ++ (pL a l ++ M)).length ≤ 400) {x : Int32} (e : Int32) (hx : x = if a = true then nI L.length else -1) :
    AM G mX1_aim 1 0 [.ref 21, .int x, .int e] h (fun r h' => r = none ∧ vC h' R dens size rest (L ++ (pL a (l.1, l.2.1, e, l.2.2.2) ++ M)) tg dn ∧ xFr 21 7 h h') := by
  subst hx
  cases a
  · refine AM_post ?_ (tC1_aimN hV hn e)
    rintro r h' ⟨e1, rfl⟩
    exact ⟨e1, hV, xFr.rf⟩
  · exact tC1_aim hV hn hl e
/-- from the leaf's end on -/
theorem leaf_end {c : Nat} {a b : Bool} {body : List Ln} {x y bot top le gr : Int32} {k : Value} {z : Value} (hV : vC h R dens size rest (L ++ (pL a (0, bot, 0, 0, c) ++ (pL b (1, top, 0, 0, c) ++ body))) tg dn) (hn : L.length + 2 + body.length < 400) (hx : x = if a = true then nI L.length else -1) (hy : y = if b = true then nI (L.length + a.toNat) else -1) {Q : Option Value → xH → Prop}
    (hQ : ∀ h', vC h' R dens size rest (L ++ (pL a (0, bot, nI (L.length + (a.toNat + b.toNat + body.length)), 0, c) ++ (pL b (1, top, nI (L.length + (a.toNat + b.toNat + body.length)), 0, c) ++ (body ++ [(3, nI rest, 0, 0, c)])))) tg dn → xFr 21 7 h h' → Q none h') :
    Ax G mX1_layLeaf 3 0 195 [.ref 21, .int (nI c), .int le, .int gr, k, .int bot, .int top, .int x, .int y, z] [] h Q := by
  have u := hV.ob
  have ha : a.toNat ≤ 1 := Bool.toNat_le _
  have hb : b.toNat ≤ 1 := Bool.toNat_le _
  have hlen : (L ++ (pL a (0, bot, 0, 0, c) ++ (pL b (1, top, 0, 0, c) ++ body))).length = L.length + (a.toNat + b.toNat + body.length) := by
    rw [List.length_append, List.length_append, List.length_append, pL_len, pL_len]
    omega
  refine Ax_al0 dX1_layLeaf_195 ?_
  refine Ax_ic3 dX1_layLeaf_196 ?_
  refine Ax_al0 dX1_layLeaf_197 ?_
  refine Ax_getf kfX1 fX1_38 dX1_layLeaf_198 u rfl ?_
  refine Ax_ic0 dX1_layLeaf_201 ?_
  refine Ax_lc0 dX1_layLeaf_202 ?_
  refine Ax_cViH dX1_layLeaf_203 vX1_71 kfX1 u (tC1_write (G := G) hV (by rw [hlen]; omega) 3 (nI rest) (nI 0) 0 c (by decide)) rfl rfl (by decide) (by simp [Value.category]) (Nat.le_refl _) (fun x203 h1 q1 => ?_)
  obtain ⟨e1, hV1, hF1⟩ := q1
  rw [hlen] at e1
  subst e1
  rw [List.append_assoc, List.append_assoc, List.append_assoc] at hV1
  have u1 := hV1.ob
  refine Ax_is9 dX1_layLeaf_206 (Nat.le_of_ble_eq_true rfl) (by rfl) ?_
  refine Ax_al0 dX1_layLeaf_208 ?_
  refine Ax_il7 dX1_layLeaf_209 ?_
  refine Ax_il9 dX1_layLeaf_211 ?_
  refine Ax_cVv dX1_layLeaf_213 vX1_97 kfX1 u1 (tC1_aimB (G := G) (l := (0, bot, 0, 0, c)) (show (0 : Nat) ≠ 5 by decide) hV1 (by simp only [List.length_append, pL_len, List.length_singleton]; omega) _ hx) rfl rfl (by decide) (by simp [Value.category]) (Nat.le_refl _) (fun h2 q2 => ?_)
  obtain ⟨hV2, hF2⟩ := q2
  rw [← List.append_assoc] at hV2
  have u2 := hV2.ob
  refine Ax_al0 dX1_layLeaf_216 ?_
  refine Ax_il8 dX1_layLeaf_217 ?_
  refine Ax_il9 dX1_layLeaf_219 ?_
  refine Ax_cVv dX1_layLeaf_221 vX1_97 kfX1 u2 (tC1_aimB (G := G) (l := (1, top, 0, 0, c)) (show (1 : Nat) ≠ 5 by decide) hV2 (by simp only [List.length_append, pL_len, List.length_singleton]; omega) _ (by rw [List.length_append, pL_len]; exact hy)) rfl rfl (by decide) (by simp [Value.category]) (Nat.le_refl _) (fun h3 q3 => ?_)
  obtain ⟨hV3, hF3⟩ := q3
  rw [List.append_assoc] at hV3
  exact Ax_ret dX1_layLeaf_224 rfl (hQ _ hV3 ((hF1.tr hF2).tr hF3))
theorem leaf_tail {c K : Nat} {a b : Bool} {body : List Ln} {x y bot top le gr : Int32} {z : Value} (hK : K < 3) (hV : vC h R dens size rest (L ++ (pL a (0, bot, 0, 0, c) ++ (pL b (1, top, 0, 0, c) ++ body))) tg dn) (hn : L.length + 2 + body.length < 400) (hx : x = if a = true then nI L.length else -1) (hy : y = if b = true then nI (L.length + a.toNat) else -1) {Q : Option Value → xH → Prop}
    (hQ : ∀ h', vC h' R dens size rest (L ++ (pL a (0, bot, nI (L.length + (a.toNat + b.toNat + body.length)), 0, c) ++ (pL b (1, top, nI (L.length + (a.toNat + b.toNat + body.length)), 0, c) ++ (body ++ (if K = 1 ∨ a = true ∨ b = true then [(3, nI rest, 0, 0, c)] else []))))) tg dn → xFr 21 7 h h' → Q none h') :
    Ax G mX1_layLeaf 3 0 177 [.ref 21, .int (nI c), .int le, .int gr, .int (nI K), .int bot, .int top, .int x, .int y, z] [] h Q := by
  refine Ax_il4 dX1_layLeaf_177 ?_
  refine Ax_ic1 dX1_layLeaf_179 ?_
  refine Ax_cmpeqn (tgt := 195) dX1_layLeaf_180 (by decide) (by omega) (by omega) (fun c180 => ?_) (fun c180 => ?_)
  · rw [if_pos (Or.inl c180)] at hQ
    exact leaf_end hV hn hx hy hQ
  refine Ax_il7 dX1_layLeaf_183 ?_
  refine Ax_icm1 dX1_layLeaf_185 ?_
  refine Ax_cmpne (tgt := 195) dX1_layLeaf_186 (by decide) (fun c186 => ?_) (fun c186 => ?_)
  · have ha : a = true := by
      cases a
      · exact absurd hx c186
      · rfl
    rw [if_pos (Or.inr (Or.inl ha))] at hQ
    exact leaf_end hV hn hx hy hQ
  refine Ax_il8 dX1_layLeaf_189 ?_
  refine Ax_icm1 dX1_layLeaf_191 ?_
  refine Ax_cmpeq (tgt := 224) dX1_layLeaf_192 (by decide) (fun c192 => ?_) (fun c192 => ?_)
  · have ha : a = false := by
      cases a
      · rfl
      · subst hx; exact absurd c186 (nI_nem (by omega))
    have hb : b = false := by
      cases b
      · rfl
      · subst hy; exact absurd c192 (nI_nem (by show L.length + a.toNat < _; have : a.toNat ≤ 1 := Bool.toNat_le _; omega))
    subst ha hb
    rw [if_neg (by rintro (q | q | q); exact c180 q; cases q; cases q), List.append_nil] at hQ
    exact Ax_ret dX1_layLeaf_224 rfl (hQ _ hV xFr.rf)
  · have hb : b = true := by
      cases b
      · exact absurd hy c192
      · rfl
    rw [if_pos (Or.inr (Or.inr hb))] at hQ
    exact leaf_end hV hn hx hy hQ
theorem leaf_body {c : Nat} {a b : Bool} {x y le gr : Int32} {z : Value} (hV : vC h R dens size rest (L ++ (pL a (0, cbt R dens size c, 0, 0, c) ++ pL b (1, ctp R dens size c, 0, 0, c))) tg dn) (hU : vRuns h 6 R) (hK : vCls h 11 6 R dens size) (hl : R.length ≤ 24) (hI : RInv R) (hsz : size ≤ 256) (hc : c < (clsOf R dens size).length) (hn : L.length + 30 ≤ 400) (hu : ckd R dens size c = 2 → tsum L + csp R dens size c ≤ 3072)
    (hx : x = if a = true then nI L.length else -1) (hy : y = if b = true then nI (L.length + a.toNat) else -1) {Q : Option Value → xH → Prop}
    (hQ : ∀ h', vC h' R dens size rest (L ++ (pL a (0, cbt R dens size c, nI (L.length + (a.toNat + b.toNat + (bodyL R dens size c).length)), 0, c) ++ (pL b (1, ctp R dens size c, nI (L.length + (a.toNat + b.toNat + (bodyL R dens size c).length)), 0, c) ++ (bodyL R dens size c ++ (if ckd R dens size c = 1 ∨ a = true ∨ b = true then [(3, nI rest, 0, 0, c)] else []))))) tg dn → xFr 21 7 h h' → Q none h') :
    Ax G mX1_layLeaf 3 0 121 [.ref 21, .int (nI c), .int le, .int gr, .int (nI (ckd R dens size c)), .int (cbt R dens size c), .int (ctp R dens size c), .int x, .int y, z] [] h Q := by
  have u := hV.ob
  have k0 := hK.ob
  have r0 := hU.obj
  have hk3 := ckd_lt hc
  have ha : a.toNat ≤ 1 := Bool.toNat_le _
  have hb : b.toNat ≤ 1 := Bool.toNat_le _
  have hlk : (clsOf R dens size).length ≤ 24 := Nat.le_trans (cls_len R dens size) hl
  have hbl := body_len hc
  have hlen : (L ++ (pL a (0, cbt R dens size c, 0, 0, c) ++ pL b (1, ctp R dens size c, 0, 0, c))).length = L.length + (a.toNat + b.toNat) := by
    rw [List.length_append, List.length_append, pL_len, pL_len]
  have hts : tsum (L ++ (pL a (0, cbt R dens size c, 0, 0, c) ++ pL b (1, ctp R dens size c, 0, 0, c))) = tsum L := by
    rw [tsum_app, tsum_app, pL_tsum a _ (show (0 : Nat) ≠ 5 by decide), pL_tsum b _ (show (1 : Nat) ≠ 5 by decide)]
    rfl
  obtain ⟨-, p2, p3, -⟩ := ClOk.at _ _ c (cls_ok R dens size) hc
  have hnx : ∀ h1, vC h1 R dens size rest (L ++ (pL a (0, cbt R dens size c, 0, 0, c) ++ pL b (1, ctp R dens size c, 0, 0, c)) ++ bodyL R dens size c) tg dn → xFr 21 7 h h1 →
      Ax G mX1_layLeaf 3 0 177 [.ref 21, .int (nI c), .int le, .int gr, .int (nI (ckd R dens size c)), .int (cbt R dens size c), .int (ctp R dens size c), .int x, .int y, z] [] h1 Q := by
    intro h1 hV1 hF1
    rw [List.append_assoc, List.append_assoc] at hV1
    exact leaf_tail hk3 hV1 (by omega) hx hy (fun h' h1' h2' => hQ h' h1' (hF1.tr h2'))
  refine Ax_il4 dX1_layLeaf_121 ?_
  refine Ax_ifnen (tgt := 152) dX1_layLeaf_123 (by decide) (by omega) (fun c123 => ?_) (fun c123 => ?_)
  rotate_left
  · have ebody : bodyL R dens size c = [(3, nI (rtg R (cf (clsOf R dens size) c)), 0, 0, c)] := by unfold bodyL; rw [if_pos c123]
    rw [ebody] at hnx
    refine Ax_al0 dX1_layLeaf_126 ?_
    refine Ax_ic3 dX1_layLeaf_127 ?_
    refine Ax_al0 dX1_layLeaf_128 ?_
    refine Ax_getf kfX1 fX1_47 dX1_layLeaf_129 u rfl ?_
    refine Ax_al0 dX1_layLeaf_132 ?_
    refine Ax_getf kfX1 fX1_51 dX1_layLeaf_133 u rfl ?_
    refine Ax_il1 dX1_layLeaf_136 ?_
    refine Ax_cVi dX1_layLeaf_137 vX1_107 kfX0 k0 (tC_firstRun hK hlk hc) rfl rfl (by decide) (by simp [Value.category]) ?_
    refine Ax_cVi dX1_layLeaf_140 vX1_110 kfX2 r0 (tR_target hU hl (k := cf (clsOf R dens size) c) (by omega)) rfl rfl (by decide) (by simp [Value.category]) ?_
    refine Ax_ic0 dX1_layLeaf_143 ?_
    refine Ax_lc0 dX1_layLeaf_144 ?_
    refine Ax_cViH dX1_layLeaf_145 vX1_71 kfX1 u (tC1_write (G := G) hV (by rw [hlen]; omega) 3 (nI (rtg R (cf (clsOf R dens size) c))) (nI 0) 0 c (by decide)) rfl rfl (by decide) (by simp [Value.category]) (Nat.le_refl _) (fun x145 h2 q2 => ?_)
    obtain ⟨-, hV2, hF2⟩ := q2
    refine Ax_pop dX1_layLeaf_148 rfl ?_
    refine Ax_goto (tgt := 177) dX1_layLeaf_149 (by decide) ?_
    exact hnx h2 hV2 hF2
  refine Ax_il4 dX1_layLeaf_152 ?_
  refine Ax_ic1 dX1_layLeaf_154 ?_
  refine Ax_cmpnen (tgt := 168) dX1_layLeaf_155 (by decide) (by omega) (by omega) (fun c155 => ?_) (fun c155 => ?_)
  rotate_left
  · have ebody : bodyL R dens size c = bitLs R (cbt R dens size c) c (cf (clsOf R dens size) c) (cn R dens size c) (cn R dens size c) := by unfold bodyL; rw [if_neg (by omega), if_pos c155]
    rw [ebody] at hnx
    refine Ax_al0 dX1_layLeaf_158 ?_
    refine Ax_il1 dX1_layLeaf_159 ?_
    refine Ax_il5 dX1_layLeaf_160 ?_
    refine Ax_cVv dX1_layLeaf_162 vX1_114 kfX1 u (tX1_layBits (G := G) hV hU hK hl hI hc c155 (by rw [hlen]; omega)) rfl rfl (by decide) (by simp [Value.category]) (Nat.le_refl _) (fun h2 q2 => ?_)
    obtain ⟨hV2, hF2⟩ := q2
    refine Ax_goto (tgt := 177) dX1_layLeaf_165 (by decide) ?_
    exact hnx h2 hV2 hF2
  · have h22 : ckd R dens size c = 2 := by omega
    have ebody : bodyL R dens size c = [(5, cbt R dens size c, nI (csp R dens size c), 0, c)] := by unfold bodyL; rw [if_neg (by omega), if_neg (by omega)]
    rw [ebody] at hnx
    refine Ax_al0 dX1_layLeaf_168 ?_
    refine Ax_il1 dX1_layLeaf_169 ?_
    refine Ax_il5 dX1_layLeaf_170 ?_
    refine Ax_il6 dX1_layLeaf_172 ?_
    refine Ax_cVv dX1_layLeaf_174 vX1_117 kfX1 u (tX1_layTable (G := G) hV hU hK hl hI hsz hc h22 (by rw [hlen]; omega) (by rw [hts]; exact hu h22)) rfl rfl (by decide) (by simp [Value.category]) (Nat.le_refl _) (fun h2 q2 => ?_)
    obtain ⟨hV2, hF2⟩ := q2
    exact hnx h2 hV2 hF2
theorem leaf_b {c : Nat} {a : Bool} {x le gr : Int32} {z z' : Value} (hV : vC h R dens size rest (L ++ pL a (0, cbt R dens size c, 0, 0, c)) tg dn) (hU : vRuns h 6 R) (hK : vCls h 11 6 R dens size) (hl : R.length ≤ 24) (hI : RInv R) (hsz : size ≤ 256) (hc : c < (clsOf R dens size).length) (hn : L.length + 30 ≤ 400) (hu : ckd R dens size c = 2 → tsum L + csp R dens size c ≤ 3072)
    (hx : x = if a = true then nI L.length else -1) (hno : ¬ (ckd R dens size c = 0 ∧ cbt R dens size c = ctp R dens size c)) {Q : Option Value → xH → Prop}
    (hQ : ∀ h', vC h' R dens size rest (L ++ leafAB R dens size rest c a (decide ((ctp R dens size c).toInt < gr.toInt)) L.length) tg dn → xFr 21 7 h h' → Q none h') :
    Ax G mX1_layLeaf 3 0 100 [.ref 21, .int (nI c), .int le, .int gr, .int (nI (ckd R dens size c)), .int (cbt R dens size c), .int (ctp R dens size c), .int x, z, z'] [] h Q := by
  have u := hV.ob
  have ha : a.toNat ≤ 1 := Bool.toNat_le _
  have hlen : (L ++ pL a (0, cbt R dens size c, 0, 0, c)).length = L.length + a.toNat := by rw [List.length_append, pL_len]
  unfold leafAB at hQ
  rw [if_neg hno] at hQ
  refine Ax_il3 dX1_layLeaf_100 ?_
  refine Ax_il6 dX1_layLeaf_101 ?_
  refine Ax_cmple (tgt := 118) dX1_layLeaf_103 (by decide) (fun c103 => ?_) (fun c103 => ?_)
  · have hb : decide ((ctp R dens size c).toInt < gr.toInt) = false := by
      rw [decide_eq_false_iff_not]
      simp only [Int32.lt_iff_toInt_lt, Int32.le_iff_toInt_le] at c103
      omega
    rw [hb] at hQ
    refine Ax_icm1 dX1_layLeaf_118 ?_
    refine Ax_is8 dX1_layLeaf_119 (Nat.le_of_ble_eq_true rfl) (by rfl) ?_
    exact leaf_body (a := a) (b := false) (by rw [show pL false (1, ctp R dens size c, (0 : Int32), 0, c) = [] from rfl, List.append_nil]; exact hV) hU hK hl hI hsz hc hn hu hx rfl hQ
  · have hb : decide ((ctp R dens size c).toInt < gr.toInt) = true := by
      rw [decide_eq_true_eq]
      simp only [Int32.lt_iff_toInt_lt, Int32.le_iff_toInt_le] at c103
      omega
    rw [hb] at hQ
    refine Ax_al0 dX1_layLeaf_106 ?_
    refine Ax_ic1 dX1_layLeaf_107 ?_
    refine Ax_il6 dX1_layLeaf_108 ?_
    refine Ax_ic0 dX1_layLeaf_110 ?_
    refine Ax_lc0 dX1_layLeaf_111 ?_
    refine Ax_cViH dX1_layLeaf_112 vX1_71 kfX1 u (tC1_write (G := G) hV (by rw [hlen]; omega) 1 (ctp R dens size c) (nI 0) 0 c (by decide)) rfl rfl (by decide) (by simp [Value.category]) (Nat.le_refl _) (fun x112 h2 q2 => ?_)
    obtain ⟨e1, hV2, hF2⟩ := q2
    rw [hlen] at e1
    subst e1
    refine Ax_goto (tgt := 119) dX1_layLeaf_115 (by decide) ?_
    refine Ax_is8 dX1_layLeaf_119 (Nat.le_of_ble_eq_true rfl) (by rfl) ?_
    exact leaf_body (a := a) (b := true) (by rw [← List.append_assoc]; exact hV2) (hU.fr hF2 (by omega)) (hK.fr hF2 (by omega)) hl hI hsz hc hn hu hx rfl (fun h' q1 q2 => hQ h' q1 (hF2.tr q2))
theorem tX1_layLeaf {c : Nat} {le gr : Int32} (hV : vC h R dens size rest L tg dn) (hU : vRuns h 6 R) (hK : vCls h 11 6 R dens size) (hl : R.length ≤ 24) (hI : RInv R) (hsz : size ≤ 256) (hc : c < (clsOf R dens size).length) (hn : L.length + 30 ≤ 400) (hu : ckd R dens size c = 2 → tsum L + csp R dens size c ≤ 3072) :
    AM G mX1_layLeaf 3 0 [.ref 21, .int (nI c), .int le, .int gr] h (fun r h' => r = none ∧ vC h' R dens size rest (L ++ leafL R dens size rest c le gr L.length) tg dn ∧ xFr 21 7 h h') := by
  have u := hV.ob
  have k0 := hK.ob
  have r0 := hU.obj
  have hlk : (clsOf R dens size).length ≤ 24 := Nat.le_trans (cls_len R dens size) hl
  have hk3 := ckd_lt hc
  obtain ⟨-, p2, p3, -⟩ := ClOk.at _ _ c (cls_ok R dens size) hc
  have hlate : ¬ (ckd R dens size c = 0 ∧ cbt R dens size c = ctp R dens size c) → ∀ x7 x8 x9, Ax G mX1_layLeaf 3 0 79 [.ref 21, .int (nI c), .int le, .int gr, .int (nI (ckd R dens size c)), .int (cbt R dens size c), .int (ctp R dens size c), x7, x8, x9] [] h (fun r h' => r = none ∧ vC h' R dens size rest (L ++ leafL R dens size rest c le gr L.length) tg dn ∧ xFr 21 7 h h') := by
    intro hno x7 x8 x9
    unfold leafL
    refine Ax_il2 dX1_layLeaf_79 ?_
    refine Ax_il5 dX1_layLeaf_80 ?_
    refine Ax_cmpge (tgt := 97) dX1_layLeaf_82 (by decide) (fun c82 => ?_) (fun c82 => ?_)
    · have ha : decide (le.toInt < (cbt R dens size c).toInt) = false := by
        rw [decide_eq_false_iff_not]
        simp only [Int32.lt_iff_toInt_lt, Int32.le_iff_toInt_le] at c82
        omega
      rw [ha]
      refine Ax_icm1 dX1_layLeaf_97 ?_
      refine Ax_is7 dX1_layLeaf_98 (Nat.le_of_ble_eq_true rfl) (by rfl) ?_
      exact leaf_b (a := false) (by rw [show pL false (0, cbt R dens size c, (0 : Int32), 0, c) = [] from rfl, List.append_nil]; exact hV) hU hK hl hI hsz hc hn hu rfl hno (fun h' q1 q2 => ⟨rfl, q1, q2⟩)
    · have ha : decide (le.toInt < (cbt R dens size c).toInt) = true := by
        rw [decide_eq_true_eq]
        simp only [Int32.lt_iff_toInt_lt, Int32.le_iff_toInt_le] at c82
        omega
      rw [ha]
      refine Ax_al0 dX1_layLeaf_85 ?_
      refine Ax_ic0 dX1_layLeaf_86 ?_
      refine Ax_il5 dX1_layLeaf_87 ?_
      refine Ax_ic0 dX1_layLeaf_89 ?_
      refine Ax_lc0 dX1_layLeaf_90 ?_
      refine Ax_cViH dX1_layLeaf_91 vX1_71 kfX1 u (tC1_write (G := G) hV (by omega) 0 (cbt R dens size c) (nI 0) 0 c (by decide)) rfl rfl (by decide) (by simp [Value.category]) (Nat.le_refl _) (fun x91 h2 q2 => ?_)
      obtain ⟨e1, hV2, hF2⟩ := q2
      subst e1
      refine Ax_goto (tgt := 98) dX1_layLeaf_94 (by decide) ?_
      refine Ax_is7 dX1_layLeaf_98 (Nat.le_of_ble_eq_true rfl) (by rfl) ?_
      exact leaf_b (a := true) hV2 (hU.fr hF2 (by omega)) (hK.fr hF2 (by omega)) hl hI hsz hc hn hu rfl hno (fun h' q1 q2 => ⟨rfl, q1, hF2.tr q2⟩)
  refine AM.of rfl rfl (Nat.le_of_ble_eq_true rfl) rfl ?_
  refine Ax_al0 dX1_layLeaf_0 ?_
  refine Ax_getf kfX1 fX1_51 dX1_layLeaf_1 u rfl ?_
  refine Ax_il1 dX1_layLeaf_4 ?_
  refine Ax_cVi dX1_layLeaf_5 vX1_101 kfX0 k0 (tC_kind hK hlk hc) rfl rfl (by decide) (by simp [Value.category]) ?_
  refine Ax_is4 dX1_layLeaf_8 (Nat.le_of_ble_eq_true rfl) (by rfl) ?_
  refine Ax_al0 dX1_layLeaf_10 ?_
  refine Ax_getf kfX1 fX1_51 dX1_layLeaf_11 u rfl ?_
  refine Ax_il1 dX1_layLeaf_14 ?_
  refine Ax_cVi dX1_layLeaf_15 vX1_93 kfX0 k0 (tC_bottom hK hU hl hc) rfl rfl (by decide) (by simp [Value.category]) ?_
  refine Ax_is5 dX1_layLeaf_18 (Nat.le_of_ble_eq_true rfl) (by rfl) ?_
  refine Ax_al0 dX1_layLeaf_20 ?_
  refine Ax_getf kfX1 fX1_51 dX1_layLeaf_21 u rfl ?_
  refine Ax_il1 dX1_layLeaf_24 ?_
  refine Ax_cVi dX1_layLeaf_25 vX1_104 kfX0 k0 (tC_top hK hU hl hc) rfl rfl (by decide) (by simp [Value.category]) ?_
  refine Ax_is6 dX1_layLeaf_28 (Nat.le_of_ble_eq_true rfl) (by rfl) ?_
  refine Ax_il4 dX1_layLeaf_30 ?_
  refine Ax_ifnen (tgt := 79) dX1_layLeaf_32 (by decide) (by omega) (fun c32 => ?_) (fun c32 => ?_)
  · exact hlate (fun q => c32 q.1) _ _ _
  refine Ax_il5 dX1_layLeaf_35 ?_
  refine Ax_il6 dX1_layLeaf_37 ?_
  refine Ax_cmpne (tgt := 79) dX1_layLeaf_39 (by decide) (fun c39 => ?_) (fun c39 => ?_)
  · exact hlate (fun q => c39 q.2) _ _ _
  · have hq : leafL R dens size rest c le gr L.length = [(2, cbt R dens size c, nI (rtg R (cf (clsOf R dens size) c)), 0, c), (3, nI rest, 0, 0, c)] := by
      unfold leafL leafAB
      rw [if_pos ⟨c32, c39⟩]
    rw [hq]
    refine Ax_al0 dX1_layLeaf_42 ?_
    refine Ax_ic2 dX1_layLeaf_43 ?_
    refine Ax_il5 dX1_layLeaf_44 ?_
    refine Ax_al0 dX1_layLeaf_46 ?_
    refine Ax_getf kfX1 fX1_47 dX1_layLeaf_47 u rfl ?_
    refine Ax_al0 dX1_layLeaf_50 ?_
    refine Ax_getf kfX1 fX1_51 dX1_layLeaf_51 u rfl ?_
    refine Ax_il1 dX1_layLeaf_54 ?_
    refine Ax_cVi dX1_layLeaf_55 vX1_107 kfX0 k0 (tC_firstRun hK hlk hc) rfl rfl (by decide) (by simp [Value.category]) ?_
    refine Ax_cVi dX1_layLeaf_58 vX1_110 kfX2 r0 (tR_target hU hl (k := cf (clsOf R dens size) c) (by omega)) rfl rfl (by decide) (by simp [Value.category]) ?_
    refine Ax_lc0 dX1_layLeaf_61 ?_
    refine Ax_cViH dX1_layLeaf_62 vX1_71 kfX1 u (tC1_write (G := G) hV (by omega) 2 (cbt R dens size c) (nI (rtg R (cf (clsOf R dens size) c))) 0 c (by decide)) rfl rfl (by decide) (by simp [Value.category]) (Nat.le_refl _) (fun x62 h2 q2 => ?_)
    obtain ⟨-, hV2, hF2⟩ := q2
    have u2 := hV2.ob
    refine Ax_pop dX1_layLeaf_65 rfl ?_
    refine Ax_al0 dX1_layLeaf_66 ?_
    refine Ax_ic3 dX1_layLeaf_67 ?_
    refine Ax_al0 dX1_layLeaf_68 ?_
    refine Ax_getf kfX1 fX1_38 dX1_layLeaf_69 u2 rfl ?_
    refine Ax_ic0 dX1_layLeaf_72 ?_
    refine Ax_lc0 dX1_layLeaf_73 ?_
    refine Ax_cViH dX1_layLeaf_74 vX1_71 kfX1 u2 (tC1_write (G := G) hV2 (by rw [List.length_append, List.length_singleton]; omega) 3 (nI rest) (nI 0) 0 c (by decide)) rfl rfl (by decide) (by simp [Value.category]) (Nat.le_refl _) (fun x74 h3 q3 => ?_)
    obtain ⟨-, hV3, hF3⟩ := q3
    rw [List.append_assoc] at hV3
    refine Ax_pop dX1_layLeaf_77 rfl ?_
    exact Ax_ret dX1_layLeaf_78 rfl ⟨rfl, hV3, hF2.tr hF3⟩
end
