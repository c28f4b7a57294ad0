/-! the reference: printed -/
section
variable {G : xG} {h : xH} {bs : List Nat} {cs cq rw dn sz wy rn kn ln pt tk os : Int32} {R : List Run} {dens size rest : Nat} {L : List Ln}
theorem tX6_name {rt : Int32} (m : h.1 30 = mO cs cq rt rw dn sz wy rn kn ln pt tk (nI bs.length)) (hO : mOut h bs) (hl : bs.length + 15 < 40000) {a b c d e : Nat} (ha : a < 128) (hb : b < 128) (hc : c < 128) (hd : d < 128) (he : e < 128) : AM G mX6_name 1 0 [.ref 30, .int (nI a), .int (nI b), .int (nI c), .int (nI d), .int (nI e)] h (fun r h' => r = none ∧ mAp (mO cs cq rt rw dn sz wy rn kn ln pt tk) h bs ([32, a, b, c] ++ ((if 0 < d then [d] else []) ++ (if 0 < e then [e] else []))) h') := by
  refine AM.of rfl rfl (Nat.le_of_ble_eq_true rfl) rfl ?_
  refine Ax_al0 dX6_name_0 ?_
  refine Ax_bp32 dX6_name_1 ?_
  refine Ax_cVv dX6_name_3 vX6_236 kfX6 m (tX6_put (G := G) (c := 32) m hO (by decide) (by omega)) rfl rfl (by decide) (by simp [Value.category]) (Nat.le_refl _) (fun h1 q1 => ?_)
  have hA := q1
  have m1 := hA.1
  have l1 : (bs ++ [32]).length = bs.length + 1 := by simp
  refine Ax_al0 dX6_name_6 ?_
  refine Ax_il1 dX6_name_7 ?_
  refine Ax_cVv dX6_name_8 vX6_236 kfX6 m1 (tX6_put (G := G) m1 hA.2.1 ha (by omega)) rfl rfl (by decide) (by simp [Value.category]) (Nat.le_refl _) (fun h2 q2 => ?_)
  replace hA := hA.tr q2
  have m2 := hA.1
  have l2 : (bs ++ ([32] ++ [a])).length = bs.length + 2 := by simp
  refine Ax_al0 dX6_name_11 ?_
  refine Ax_il2 dX6_name_12 ?_
  refine Ax_cVv dX6_name_13 vX6_236 kfX6 m2 (tX6_put (G := G) m2 hA.2.1 hb (by omega)) rfl rfl (by decide) (by simp [Value.category]) (Nat.le_refl _) (fun h3 q3 => ?_)
  replace hA := hA.tr q3
  have m3 := hA.1
  have l3 : (bs ++ ([32] ++ [a] ++ [b])).length = bs.length + 3 := by simp
  refine Ax_al0 dX6_name_16 ?_
  refine Ax_il3 dX6_name_17 ?_
  refine Ax_cVv dX6_name_18 vX6_236 kfX6 m3 (tX6_put (G := G) m3 hA.2.1 hc (by omega)) rfl rfl (by decide) (by simp [Value.category]) (Nat.le_refl _) (fun h4 q4 => ?_)
  replace hA := hA.tr q4
  have hl4 : ([32] ++ [a] ++ [b] ++ [c]) = [32, a, b, c] := rfl
  rw [hl4] at hA
  have m4 := hA.1
  have l4 : (bs ++ [32, a, b, c]).length = bs.length + 4 := by simp
  have htail : ∀ hh done, mAp (mO cs cq rt rw dn sz wy rn kn ln pt tk) h bs done hh → done.length ≤ 5 → Ax G mX6_name 1 0 32 [.ref 30, .int (nI a), .int (nI b), .int (nI c), .int (nI d), .int (nI e)] [] hh (fun r h' => r = none ∧ mAp (mO cs cq rt rw dn sz wy rn kn ln pt tk) h bs (done ++ (if 0 < e then [e] else [])) h') := by
    intro hh done hA hdl
    have m5 := hA.1
    refine Ax_il5 dX6_name_32 ?_
    refine Ax_iflen (tgt := 43) dX6_name_34 (by decide) (by omega) (fun c34 => ?_) (fun c34 => ?_)
    · rw [if_neg (by omega), List.append_nil]
      exact Ax_ret dX6_name_43 rfl ⟨rfl, hA⟩
    · rw [if_pos c34]
      refine Ax_al0 dX6_name_37 ?_
      refine Ax_il5 dX6_name_38 ?_
      refine Ax_cVv dX6_name_40 vX6_236 kfX6 m5 (tX6_put (G := G) m5 hA.2.1 he (by rw [List.length_append]; omega)) rfl rfl (by decide) (by simp [Value.category]) (Nat.le_refl _) (fun h11 q11 => ?_)
      exact Ax_ret dX6_name_43 rfl ⟨rfl, hA.tr q11⟩
  refine Ax_il4 dX6_name_21 ?_
  refine Ax_iflen (tgt := 32) dX6_name_23 (by decide) (by omega) (fun c23 => ?_) (fun c23 => ?_)
  · rw [if_neg (by omega), List.nil_append]
    exact htail _ _ hA (by simp)
  · rw [if_pos c23]
    refine Ax_al0 dX6_name_26 ?_
    refine Ax_il4 dX6_name_27 ?_
    refine Ax_cVv dX6_name_29 vX6_236 kfX6 m4 (tX6_put (G := G) m4 hA.2.1 hd (by omega)) rfl rfl (by decide) (by simp [Value.category]) (Nat.le_refl _) (fun h5 q5 => ?_)
    have := htail _ _ (hA.tr q5) (by simp)
    rw [List.append_assoc] at this
    exact this
def nmL (k : Nat) : List Nat := ([[32, 76, 69, 83, 83], [32, 77, 79, 82, 69], [32, 83, 65, 77, 69], [32, 69, 78, 68], [32, 66, 73, 84], [32, 84, 65, 66, 76, 69]] : List (List Nat)).getD k []
theorem nm_wi : ∀ k, k < 6 → xN (wi k) = nmL k ++ [32] := by decide
theorem pl_243 {h0 hh : xH} {done F : List Nat} {x1 x2 : Value} (hA : mAp (mO cs cq (nI rest) rw dn sz wy rn kn ln pt tk) h0 bs done hh) (hfin : done ++ xN 7 = F) (hlen : bs.length + F.length + 100 < 40000) : Ax G mX6_printLine 3 0 243 [.ref 30, x1, x2] [] hh (fun r h' => r = none ∧ mAp (mO cs cq (nI rest) rw dn sz wy rn kn ln pt tk) h0 bs F h') := by
  have hd : done.length ≤ F.length := by rw [← hfin, List.length_append]; omega
  have m := hA.1
  refine Ax_al0 dX6_printLine_243 ?_
  refine Ax_bp10 dX6_printLine_244 ?_
  refine Ax_cVv dX6_printLine_246 vX6_236 kfX6 m (tX6_put (G := G) (c := 10) m hA.2.1 (by decide) (by rw [List.length_append]; omega)) rfl rfl (by decide) (by simp [Value.category]) (Nat.le_refl _) (fun h1 q1 => ?_)
  have hA2 := hA.tr q1
  rw [show done ++ [10] = F from hfin] at hA2
  exact Ax_ret dX6_printLine_249 rfl ⟨rfl, hA2⟩
theorem pl_tbl {h0 : xH} {F : List Nat} {i : Nat} (hV : mRuns h0 R) (hK : mCls h0 R dens size) (hC : mCode h0 L) (hl : R.length ≤ 24) (hI : RInv R) (hn : L.length ≤ 400) (hi : i < L.length) (hk : lnOk R dens size (gL L i)) (h5 : (gL L i).1 = 5) (hlen : bs.length + F.length + 100 < 40000) : ∀ r k hh done, k + r = many (gL L i) → mAp (mO cs cq (nI rest) rw dn sz wy rn kn ln pt tk) h0 bs done hh → done ++ (tblR R dens size rest (gL L i) k r ++ xN 7) = F →
    Ax G mX6_printLine 3 0 194 [.ref 30, .int (nI i), .int (nI k)] [] hh (fun r h' => r = none ∧ mAp (mO cs cq (nI rest) rw dn sz wy rn kn ln pt tk) h0 bs F h') := by
  obtain ⟨w1, w2, w3, w4⟩ := hk.2.2 h5
  have em : many (gL L i) = csp R dens size (gL L i).2.2.2.2 := by
    unfold many
    rw [if_pos h5, w3, nI_toInt (by omega)]
    exact Int.toNat_natCast _
  have ecs : (gL L i).2.2.1.toInt = (csp R dens size (gL L i).2.2.2.2 : Int) := by rw [w3, nI_toInt (by omega)]
  intro r
  induction r with
  | zero =>
    intro k hh done hkr hA hfin
    obtain ⟨kn', fi, se, ro, fo, m25, m26, m27, m28, m29, hR⟩ := hC.on (h' := hh) (fun q hq => hA.2.2.1 q (by omega))
    obtain ⟨l1, l2, l3, l4, l5⟩ := hR i hi
    have m := hA.1
    refine Ax_al0 dX6_printLine_194 ?_
    refine Ax_getf kfX6 fX6_70 dX6_printLine_195 m rfl ?_
    refine Ax_il1 dX6_printLine_198 ?_
    refine Ax_ialdn dX6_printLine_199 m25 (by omega) (by omega) ?_
    refine Ax_top (l1) ?_
    refine Ax_ic5 dX6_printLine_200 ?_
    refine Ax_cmpnen (tgt := 243) dX6_printLine_201 (by decide) (by omega) (by omega) (fun c201 => ?_) (fun c201 => ?_)
    · exact absurd h5 c201
    refine Ax_il2 dX6_printLine_204 ?_
    refine Ax_al0 dX6_printLine_205 ?_
    refine Ax_getf kfX6 fX6_76 dX6_printLine_206 m rfl ?_
    refine Ax_il1 dX6_printLine_209 ?_
    refine Ax_ialdn dX6_printLine_210 m27 (by omega) (by omega) ?_
    refine Ax_top (l3.trans w3) ?_
    refine Ax_cmpgen (tgt := 243) dX6_printLine_211 (by decide) (by omega) (by omega) (fun c211 => ?_) (fun c211 => ?_)
    · exact pl_243 hA hfin hlen
    · omega
  | succ r ih =>
    intro k hh done hkr hA hfin
    have hd : done.length ≤ F.length := by rw [← hfin, List.length_append]; omega
    have hF := hA.2.2.1
    obtain ⟨kn', fi, se, ro, fo, m25, m26, m27, m28, m29, hR⟩ := hC.on (h' := hh) (fun q hq => hF q (by omega))
    obtain ⟨l1, l2, l3, l4, l5⟩ := hR i hi
    have m := hA.1
    have hkt : (nI k).toInt = (k : Int) := nI_toInt (by omega)
    have hct : (cbt R dens size (gL L i).2.2.2.2).toInt + k ≤ 2147483647 := by
      have h1 := I_hi (ctp R dens size (gL L i).2.2.2.2)
      have h2 : k < csp R dens size (gL L i).2.2.2.2 := by omega
      unfold csp spn at h2
      unfold ctp at h1
      unfold cbt
      omega
    have hbl := I_lo (cbt R dens size (gL L i).2.2.2.2)
    have eadd : ((gL L i).2.1 + nI k).toInt = (gL L i).2.1.toInt + k := by
      rw [I_add (by rw [w2, hkt]; omega) (by rw [w2, hkt]; omega), hkt]
    have enum : numR R dens size rest (gL L i) k = nI (tvI R rest (cf (clsOf R dens size) (gL L i).2.2.2.2) (cn R dens size (gL L i).2.2.2.2) ((gL L i).2.1.toInt + k)) := by
      unfold numR
      rw [if_pos ⟨h5, by omega, by rw [ecs]; omega⟩]
    have hwi := tX6_within (G := G) (rest := rest) m (hV.on (fun q hq => hF q (by omega))) (hK.on (fun q hq => hF q (by omega))) hl hI w1 ((gL L i).2.1 + nI k)
    rw [eadd, ← enum] at hwi
    rw [tblR, List.append_assoc, List.append_assoc] at hfin
    refine Ax_al0 dX6_printLine_194 ?_
    refine Ax_getf kfX6 fX6_70 dX6_printLine_195 m rfl ?_
    refine Ax_il1 dX6_printLine_198 ?_
    refine Ax_ialdn dX6_printLine_199 m25 (by omega) (by omega) ?_
    refine Ax_top (l1) ?_
    refine Ax_ic5 dX6_printLine_200 ?_
    refine Ax_cmpnen (tgt := 243) dX6_printLine_201 (by decide) (by omega) (by omega) (fun c201 => ?_) (fun c201 => ?_)
    · exact absurd h5 c201
    refine Ax_il2 dX6_printLine_204 ?_
    refine Ax_al0 dX6_printLine_205 ?_
    refine Ax_getf kfX6 fX6_76 dX6_printLine_206 m rfl ?_
    refine Ax_il1 dX6_printLine_209 ?_
    refine Ax_ialdn dX6_printLine_210 m27 (by omega) (by omega) ?_
    refine Ax_top (l3.trans w3) ?_
    refine Ax_cmpgen (tgt := 243) dX6_printLine_211 (by decide) (by omega) (by omega) (fun c211 => ?_) (fun c211 => ?_)
    · omega
    refine Ax_al0 dX6_printLine_214 ?_
    refine Ax_al0 dX6_printLine_215 ?_
    refine Ax_al0 dX6_printLine_216 ?_
    refine Ax_getf kfX6 fX6_82 dX6_printLine_217 m rfl ?_
    refine Ax_il1 dX6_printLine_220 ?_
    refine Ax_ialdn dX6_printLine_221 m29 (by omega) (by omega) ?_
    refine Ax_top (l5 h5) ?_
    refine Ax_al0 dX6_printLine_222 ?_
    refine Ax_getf kfX6 fX6_73 dX6_printLine_223 m rfl ?_
    refine Ax_il1 dX6_printLine_226 ?_
    refine Ax_ialdn dX6_printLine_227 m26 (by omega) (by omega) ?_
    refine Ax_top l2 ?_
    refine Ax_il2 dX6_printLine_228 ?_
    refine Ax_iadd dX6_printLine_229 ?_
    refine Ax_cVi dX6_printLine_230 vX6_205 kfX6 m hwi rfl rfl (by decide) (by simp [Value.category]) ?_
    refine Ax_i2l dX6_printLine_233 ?_
    refine Ax_cVv dX6_printLine_234 vX6_254 kfX6 m (tX6_number (G := G) m hA.2.1 (by rw [List.length_append]; omega) (numR R dens size rest (gL L i) k)) rfl rfl (by decide) (by simp [Value.category]) (Nat.le_refl _) (fun h1 q1 => ?_)
    have hA2 := hA.tr q1
    refine Ax_inc2_1n dX6_printLine_237 (Nat.le_of_ble_eq_true rfl) (by rfl) ?_
    refine Ax_goto (tgt := 194) dX6_printLine_240 (by decide) ?_
    refine ih (k + 1) h1 (done ++ ([32] ++ numL (numR R dens size rest (gL L i) k))) (by omega) hA2 ?_
    rw [← hfin, List.append_assoc, List.append_assoc]
    rfl
theorem pl_192 {h0 hh : xH} {done F : List Nat} {i : Nat} {x2 : Value} (hV : mRuns h0 R) (hK : mCls h0 R dens size) (hC : mCode h0 L) (hl : R.length ≤ 24) (hI : RInv R) (hn : L.length ≤ 400) (hi : i < L.length) (hk : lnOk R dens size (gL L i)) (hlen : bs.length + F.length + 100 < 40000) (hA : mAp (mO cs cq (nI rest) rw dn sz wy rn kn ln pt tk) h0 bs done hh) (hfin : done ++ (tblR R dens size rest (gL L i) 0 (many (gL L i)) ++ xN 7) = F) :
    Ax G mX6_printLine 3 0 192 [.ref 30, .int (nI i), x2] [] hh (fun r h' => r = none ∧ mAp (mO cs cq (nI rest) rw dn sz wy rn kn ln pt tk) h0 bs F h') := by
  by_cases h5 : (gL L i).1 = 5
  · refine Ax_ic0 dX6_printLine_192 ?_
    refine Ax_is2 dX6_printLine_193 (Nat.le_of_ble_eq_true rfl) (by rfl) ?_
    exact pl_tbl hV hK hC hl hI hn hi hk h5 hlen _ 0 hh done (Nat.zero_add _) hA hfin
  · obtain ⟨kn', fi, se, ro, fo, m25, m26, m27, m28, m29, hR⟩ := hC.on (h' := hh) (fun q hq => hA.2.2.1 q (by omega))
    obtain ⟨l1, l2, l3, l4, l5⟩ := hR i hi
    have m := hA.1
    have hk6 := hk.1
    have e : many (gL L i) = 0 := by unfold many; rw [if_neg h5]
    rw [e, tblR, List.nil_append] at hfin
    refine Ax_ic0 dX6_printLine_192 ?_
    refine Ax_is2 dX6_printLine_193 (Nat.le_of_ble_eq_true rfl) (by rfl) ?_
    refine Ax_al0 dX6_printLine_194 ?_
    refine Ax_getf kfX6 fX6_70 dX6_printLine_195 m rfl ?_
    refine Ax_il1 dX6_printLine_198 ?_
    refine Ax_ialdn dX6_printLine_199 m25 (by omega) (by omega) ?_
    refine Ax_top (l1) ?_
    refine Ax_ic5 dX6_printLine_200 ?_
    refine Ax_cmpnen (tgt := 243) dX6_printLine_201 (by decide) (by omega) (by omega) (fun c201 => ?_) (fun c201 => ?_)
    · exact pl_243 hA hfin hlen
    · exact absurd c201 h5
theorem pl_171 {h0 hh : xH} {done F : List Nat} {i : Nat} {x2 : Value} (hV : mRuns h0 R) (hK : mCls h0 R dens size) (hC : mCode h0 L) (hl : R.length ≤ 24) (hI : RInv R) (hn : L.length ≤ 400) (hi : i < L.length) (hk : lnOk R dens size (gL L i)) (hlen : bs.length + F.length + 100 < 40000) (hA : mAp (mO cs cq (nI rest) rw dn sz wy rn kn ln pt tk) h0 bs done hh) (hfin : done ++ ((if (gL L i).1 = 3 then [] else xN 6 ++ numL (gL L i).2.2.1) ++ (tblR R dens size rest (gL L i) 0 (many (gL L i)) ++ xN 7)) = F) :
    Ax G mX6_printLine 3 0 171 [.ref 30, .int (nI i), x2] [] hh (fun r h' => r = none ∧ mAp (mO cs cq (nI rest) rw dn sz wy rn kn ln pt tk) h0 bs F h') := by
  obtain ⟨kn', fi, se, ro, fo, m25, m26, m27, m28, m29, hR⟩ := hC.on (h' := hh) (fun q hq => hA.2.2.1 q (by omega))
  obtain ⟨l1, l2, l3, l4, l5⟩ := hR i hi
  have m := hA.1
  have hk6 := hk.1
  have hd : done.length ≤ F.length := by rw [← hfin, List.length_append]; omega
  refine Ax_al0 dX6_printLine_171 ?_
  refine Ax_getf kfX6 fX6_70 dX6_printLine_172 m rfl ?_
  refine Ax_il1 dX6_printLine_175 ?_
  refine Ax_ialdn dX6_printLine_176 m25 (by omega) (by omega) ?_
  refine Ax_top (l1) ?_
  refine Ax_ic3 dX6_printLine_177 ?_
  refine Ax_cmpeqn (tgt := 192) dX6_printLine_178 (by decide) (by omega) (by omega) (fun c178 => ?_) (fun c178 => ?_)
  · rw [if_pos c178, List.nil_append] at hfin
    exact pl_192 hV hK hC hl hI hn hi hk hlen hA hfin
  · rw [if_neg c178] at hfin
    refine Ax_al0 dX6_printLine_181 ?_
    refine Ax_al0 dX6_printLine_182 ?_
    refine Ax_getf kfX6 fX6_76 dX6_printLine_183 m rfl ?_
    refine Ax_il1 dX6_printLine_186 ?_
    refine Ax_ialdn dX6_printLine_187 m27 (by omega) (by omega) ?_
    refine Ax_top l3 ?_
    refine Ax_i2l dX6_printLine_188 ?_
    refine Ax_cVv dX6_printLine_189 vX6_254 kfX6 m (tX6_number (G := G) m hA.2.1 (by rw [List.length_append]; omega) (gL L i).2.2.1) rfl rfl (by decide) (by simp [Value.category]) (Nat.le_refl _) (fun h1 q1 => ?_)
    refine pl_192 hV hK hC hl hI hn hi hk hlen (hA.tr q1) ?_
    rw [← hfin]
    simp only [List.append_assoc]
    rfl
theorem pl_151 {h0 hh : xH} {done F : List Nat} {i : Nat} {x2 : Value} (hV : mRuns h0 R) (hK : mCls h0 R dens size) (hC : mCode h0 L) (hl : R.length ≤ 24) (hI : RInv R) (hn : L.length ≤ 400) (hi : i < L.length) (hk : lnOk R dens size (gL L i)) (hlen : bs.length + F.length + 100 < 40000) (hA : mAp (mO cs cq (nI rest) rw dn sz wy rn kn ln pt tk) h0 bs done hh) (hfin : done ++ ((if (gL L i).1 = 4 then xN 6 ++ hexL (gL L i).2.2.2.1 16 else []) ++ ((if (gL L i).1 = 3 then [] else xN 6 ++ numL (gL L i).2.2.1) ++ (tblR R dens size rest (gL L i) 0 (many (gL L i)) ++ xN 7))) = F) :
    Ax G mX6_printLine 3 0 151 [.ref 30, .int (nI i), x2] [] hh (fun r h' => r = none ∧ mAp (mO cs cq (nI rest) rw dn sz wy rn kn ln pt tk) h0 bs F h') := by
  obtain ⟨kn', fi, se, ro, fo, m25, m26, m27, m28, m29, hR⟩ := hC.on (h' := hh) (fun q hq => hA.2.2.1 q (by omega))
  obtain ⟨l1, l2, l3, l4, l5⟩ := hR i hi
  have m := hA.1
  have hk6 := hk.1
  have hd : done.length ≤ F.length := by rw [← hfin, List.length_append]; omega
  refine Ax_al0 dX6_printLine_151 ?_
  refine Ax_getf kfX6 fX6_70 dX6_printLine_152 m rfl ?_
  refine Ax_il1 dX6_printLine_155 ?_
  refine Ax_ialdn dX6_printLine_156 m25 (by omega) (by omega) ?_
  refine Ax_top (l1) ?_
  refine Ax_ic4 dX6_printLine_157 ?_
  refine Ax_cmpnen (tgt := 171) dX6_printLine_158 (by decide) (by omega) (by omega) (fun c158 => ?_) (fun c158 => ?_)
  · rw [if_neg c158, List.nil_append] at hfin
    exact pl_171 hV hK hC hl hI hn hi hk hlen hA hfin
  · rw [if_pos c158] at hfin
    have hx := (hexL_len (gL L i).2.2.2.1 16)
    refine Ax_al0 dX6_printLine_161 ?_
    refine Ax_al0 dX6_printLine_162 ?_
    refine Ax_getf kfX6 fX6_79 dX6_printLine_163 m rfl ?_
    refine Ax_il1 dX6_printLine_166 ?_
    refine Ax_laldn dX6_printLine_167 m28 (by omega) (by omega) ?_
    refine Ax_topL (l4) ?_
    refine Ax_cVv dX6_printLine_168 vX6_257 kfX6 m (tX6_sixteen (G := G) (r := (gL L i).2.2.2.1) m hA.2.1 (by rw [List.length_append]; omega)) rfl rfl (by decide) (by simp [Value.category]) (Nat.le_refl _) (fun h1 q1 => ?_)
    refine pl_171 hV hK hC hl hI hn hi hk hlen (hA.tr q1) ?_
    rw [← hfin]
    simp only [List.append_assoc]
    rfl
theorem pl_140 {h0 hh : xH} {done F : List Nat} {i : Nat} {x2 : Value} (hV : mRuns h0 R) (hK : mCls h0 R dens size) (hC : mCode h0 L) (hl : R.length ≤ 24) (hI : RInv R) (hn : L.length ≤ 400) (hi : i < L.length) (hk : lnOk R dens size (gL L i)) (hlen : bs.length + F.length + 100 < 40000) (hA : mAp (mO cs cq (nI rest) rw dn sz wy rn kn ln pt tk) h0 bs (done ++ nmL (gL L i).1) hh) (hfin : done ++ (xN (wi (gL L i).1) ++ (numL (gL L i).2.1 ++ ((if (gL L i).1 = 4 then xN 6 ++ hexL (gL L i).2.2.2.1 16 else []) ++ ((if (gL L i).1 = 3 then [] else xN 6 ++ numL (gL L i).2.2.1) ++ (tblR R dens size rest (gL L i) 0 (many (gL L i)) ++ xN 7))))) = F) :
    Ax G mX6_printLine 3 0 140 [.ref 30, .int (nI i), x2] [] hh (fun r h' => r = none ∧ mAp (mO cs cq (nI rest) rw dn sz wy rn kn ln pt tk) h0 bs F h') := by
  obtain ⟨kn', fi, se, ro, fo, m25, m26, m27, m28, m29, hR⟩ := hC.on (h' := hh) (fun q hq => hA.2.2.1 q (by omega))
  obtain ⟨l1, l2, l3, l4, l5⟩ := hR i hi
  have m := hA.1
  have hk6 := hk.1
  rw [nm_wi _ hk6] at hfin
  have hd : (done ++ nmL (gL L i).1).length ≤ F.length := by rw [← hfin]; simp only [List.length_append]; omega
  refine Ax_al0 dX6_printLine_140 ?_
  refine Ax_al0 dX6_printLine_141 ?_
  refine Ax_getf kfX6 fX6_73 dX6_printLine_142 m rfl ?_
  refine Ax_il1 dX6_printLine_145 ?_
  refine Ax_ialdn dX6_printLine_146 m26 (by omega) (by omega) ?_
  refine Ax_top l2 ?_
  refine Ax_i2l dX6_printLine_147 ?_
  refine Ax_cVv dX6_printLine_148 vX6_254 kfX6 m (tX6_number (G := G) m hA.2.1 (by rw [List.length_append]; omega) (gL L i).2.1) rfl rfl (by decide) (by simp [Value.category]) (Nat.le_refl _) (fun h1 q1 => ?_)
  refine pl_151 hV hK hC hl hI hn hi hk hlen (hA.tr q1) ?_
  rw [← hfin]
  simp only [List.append_assoc]
theorem tX6_printLine {h0 hh : xH} {done F : List Nat} {i : Nat} (hV : mRuns h0 R) (hK : mCls h0 R dens size) (hC : mCode h0 L) (hl : R.length ≤ 24) (hI : RInv R) (hn : L.length ≤ 400) (hi : i < L.length) (hk : lnOk R dens size (gL L i)) (hlen : bs.length + F.length + 100 < 40000) (hA : mAp (mO cs cq (nI rest) rw dn sz wy rn kn ln pt tk) h0 bs done hh) (hfin : done ++ lnT R dens size rest i (gL L i) = F) :
    AM G mX6_printLine 3 0 [.ref 30, .int (nI i)] hh (fun r h' => r = none ∧ mAp (mO cs cq (nI rest) rw dn sz wy rn kn ln pt tk) h0 bs F h') := by
  unfold lnT at hfin
  have m := hA.1
  have hk6 := hk.1
  have hd : done.length + (digL i (pl i)).length + (xN (wi (gL L i).1)).length ≤ F.length := by rw [← hfin, numL_nI (by omega)]; simp only [List.length_append]; omega
  rw [numL_nI (by omega), ← List.append_assoc] at hfin
  refine AM.of rfl rfl (Nat.le_of_ble_eq_true rfl) rfl ?_
  refine Ax_al0 dX6_printLine_0 ?_
  refine Ax_il1 dX6_printLine_1 ?_
  refine Ax_i2ln dX6_printLine_2 (by omega) ?_
  refine Ax_cVv dX6_printLine_3 vX6_240 kfX6 m (tX6_plain (G := G) m hA.2.1 (n := i) (by omega) (by rw [List.length_append]; omega)) rfl rfl (by decide) (by simp [Value.category]) (Nat.le_refl _) (fun h11 q11 => ?_)
  have hA1 := hA.tr q11
  have hnl : (bs ++ (done ++ digL i (pl i))).length + 15 < 40000 := by simp only [List.length_append]; omega
  obtain ⟨kn', fi, se, ro, fo, m125, m126, m127, m128, m129, hR⟩ := hC.on (h' := h11) (fun q hq => hA1.2.2.1 q (by omega))
  obtain ⟨l1, l2, l3, l4, l5⟩ := hR i hi
  have m1 := hA1.1
  refine Ax_al0 dX6_printLine_6 ?_
  refine Ax_getf kfX6 fX6_70 dX6_printLine_7 m1 rfl ?_
  refine Ax_il1 dX6_printLine_10 ?_
  refine Ax_ialdn dX6_printLine_11 m125 (by omega) (by omega) ?_
  refine Ax_top l1 ?_
  rcases (show (gL L i).1 = 0 ∨ (gL L i).1 = 1 ∨ (gL L i).1 = 2 ∨ (gL L i).1 = 3 ∨ (gL L i).1 = 4 ∨ (gL L i).1 = 5 by omega) with e | e | e | e | e | e
  · rw [e]
    refine Ax_tabI (tgt := 48) dX6_printLine_12 (by decide) (by decide) rfl (by decide) ?_
    refine Ax_al0 dX6_printLine_48 ?_
    refine Ax_bp76 dX6_printLine_49 ?_
    refine Ax_bp69 dX6_printLine_51 ?_
    refine Ax_bp83 dX6_printLine_53 ?_
    refine Ax_bp83 dX6_printLine_55 ?_
    refine Ax_ic0 dX6_printLine_57 ?_
    refine Ax_cVv dX6_printLine_58 vX6_250 kfX6 m1 (tX6_name (G := G) m1 hA1.2.1 hnl (a := 76) (b := 69) (c := 83) (d := 83) (e := 0) (by decide) (by decide) (by decide) (by decide) (by decide)) rfl rfl (by decide) (by simp [Value.category]) (Nat.le_refl _) (fun h12 q12 => ?_)
    refine Ax_goto (tgt := 140) dX6_printLine_61 (by decide) ?_
    exact pl_140 hV hK hC hl hI hn hi hk hlen (by rw [e]; exact hA1.tr q12) hfin
  · rw [e]
    refine Ax_tabI (tgt := 64) dX6_printLine_12 (by decide) (by decide) rfl (by decide) ?_
    refine Ax_al0 dX6_printLine_64 ?_
    refine Ax_bp77 dX6_printLine_65 ?_
    refine Ax_bp79 dX6_printLine_67 ?_
    refine Ax_bp82 dX6_printLine_69 ?_
    refine Ax_bp69 dX6_printLine_71 ?_
    refine Ax_ic0 dX6_printLine_73 ?_
    refine Ax_cVv dX6_printLine_74 vX6_250 kfX6 m1 (tX6_name (G := G) m1 hA1.2.1 hnl (a := 77) (b := 79) (c := 82) (d := 69) (e := 0) (by decide) (by decide) (by decide) (by decide) (by decide)) rfl rfl (by decide) (by simp [Value.category]) (Nat.le_refl _) (fun h12 q12 => ?_)
    refine Ax_goto (tgt := 140) dX6_printLine_77 (by decide) ?_
    exact pl_140 hV hK hC hl hI hn hi hk hlen (by rw [e]; exact hA1.tr q12) hfin
  · rw [e]
    refine Ax_tabI (tgt := 80) dX6_printLine_12 (by decide) (by decide) rfl (by decide) ?_
    refine Ax_al0 dX6_printLine_80 ?_
    refine Ax_bp83 dX6_printLine_81 ?_
    refine Ax_bp65 dX6_printLine_83 ?_
    refine Ax_bp77 dX6_printLine_85 ?_
    refine Ax_bp69 dX6_printLine_87 ?_
    refine Ax_ic0 dX6_printLine_89 ?_
    refine Ax_cVv dX6_printLine_90 vX6_250 kfX6 m1 (tX6_name (G := G) m1 hA1.2.1 hnl (a := 83) (b := 65) (c := 77) (d := 69) (e := 0) (by decide) (by decide) (by decide) (by decide) (by decide)) rfl rfl (by decide) (by simp [Value.category]) (Nat.le_refl _) (fun h12 q12 => ?_)
    refine Ax_goto (tgt := 140) dX6_printLine_93 (by decide) ?_
    exact pl_140 hV hK hC hl hI hn hi hk hlen (by rw [e]; exact hA1.tr q12) hfin
  · rw [e]
    refine Ax_tabI (tgt := 96) dX6_printLine_12 (by decide) (by decide) rfl (by decide) ?_
    refine Ax_al0 dX6_printLine_96 ?_
    refine Ax_bp69 dX6_printLine_97 ?_
    refine Ax_bp78 dX6_printLine_99 ?_
    refine Ax_bp68 dX6_printLine_101 ?_
    refine Ax_ic0 dX6_printLine_103 ?_
    refine Ax_ic0 dX6_printLine_104 ?_
    refine Ax_cVv dX6_printLine_105 vX6_250 kfX6 m1 (tX6_name (G := G) m1 hA1.2.1 hnl (a := 69) (b := 78) (c := 68) (d := 0) (e := 0) (by decide) (by decide) (by decide) (by decide) (by decide)) rfl rfl (by decide) (by simp [Value.category]) (Nat.le_refl _) (fun h12 q12 => ?_)
    refine Ax_goto (tgt := 140) dX6_printLine_108 (by decide) ?_
    exact pl_140 hV hK hC hl hI hn hi hk hlen (by rw [e]; exact hA1.tr q12) hfin
  · rw [e]
    refine Ax_tabI (tgt := 111) dX6_printLine_12 (by decide) (by decide) rfl (by decide) ?_
    refine Ax_al0 dX6_printLine_111 ?_
    refine Ax_bp66 dX6_printLine_112 ?_
    refine Ax_bp73 dX6_printLine_114 ?_
    refine Ax_bp84 dX6_printLine_116 ?_
    refine Ax_ic0 dX6_printLine_118 ?_
    refine Ax_ic0 dX6_printLine_119 ?_
    refine Ax_cVv dX6_printLine_120 vX6_250 kfX6 m1 (tX6_name (G := G) m1 hA1.2.1 hnl (a := 66) (b := 73) (c := 84) (d := 0) (e := 0) (by decide) (by decide) (by decide) (by decide) (by decide)) rfl rfl (by decide) (by simp [Value.category]) (Nat.le_refl _) (fun h12 q12 => ?_)
    refine Ax_goto (tgt := 140) dX6_printLine_123 (by decide) ?_
    exact pl_140 hV hK hC hl hI hn hi hk hlen (by rw [e]; exact hA1.tr q12) hfin
  · rw [e]
    have hw' : (nI 5).toInt < 0 ∨ 4 < (nI 5).toInt := Or.inr (by decide)
    refine Ax_tabO (tgt := 126) dX6_printLine_12 (by assumption) (by decide) ?_
    refine Ax_al0 dX6_printLine_126 ?_
    refine Ax_bp84 dX6_printLine_127 ?_
    refine Ax_bp65 dX6_printLine_129 ?_
    refine Ax_bp66 dX6_printLine_131 ?_
    refine Ax_bp76 dX6_printLine_133 ?_
    refine Ax_bp69 dX6_printLine_135 ?_
    refine Ax_cVv dX6_printLine_137 vX6_250 kfX6 m1 (tX6_name (G := G) m1 hA1.2.1 hnl (a := 84) (b := 65) (c := 66) (d := 76) (e := 69) (by decide) (by decide) (by decide) (by decide) (by decide)) rfl rfl (by decide) (by simp [Value.category]) (Nat.le_refl _) (fun h12 q12 => ?_)
    exact pl_140 hV hK hC hl hI hn hi hk hlen (by rw [e]; exact hA1.tr q12) hfin
end
section
variable {G : xG} {h : xH} {C : Cs} {rt rw dn sz wy : Nat} {cl' : Int32} {bs : List Nat}
theorem tX6_print (hS : vM h C rt rw dn sz wy cl' bs) (hO : sOk C rt rw dn sz wy) : AM G mX6_print 4 0 [.ref 30] h (fun q h' => q = some (.int (nI (txT C rt dn sz wy).length)) ∧ vM h' C rt rw dn sz wy cl' (txT C rt dn sz wy) ∧ xFr 30 29 h h') := by
  obtain ⟨o0, o1, o2, o3, o4, o5, o6, o7⟩ := id hO
  obtain ⟨i1, i2, i3⟩ := runs_inv o0 rt
  obtain ⟨b1, b2, b3, b4⟩ := hO.bd
  have hTl := txT_len hO
  obtain ⟨⟨rn, kn, ln, pt, tk, m⟩, -⟩ := id hS
  refine AM.of rfl rfl (Nat.le_of_ble_eq_true rfl) rfl ?_
  refine Ax_al0 dX6_print_0 ?_
  refine Ax_cVv dX6_print_1 vX6_215 kfX6 m (tX6_make (G := G) hS hO) rfl rfl (by decide) (by simp [Value.category]) (Nat.le_refl _) (fun h1 q1 => ?_)
  obtain ⟨hS1, hF1⟩ := q1
  obtain ⟨⟨pt1, tk1, m1⟩, -⟩ := id hS1
  have fr : ∀ q, (q ≠ 30) → h1.1 q = h1.1 q := fun _ _ => rfl
  have zr : h1.2 = h1.2 := rfl
  refine Ax_al0 dX6_print_4 ?_
  refine Ax_ic0 dX6_print_5 ?_
  refine Ax_putf kfX6 fX6_225 dX6_print_6 m1 (Nat.le_of_ble_eq_true rfl) (Or.inl rfl) (by rfl) (by rfl) (Ax_up (fun h2 e2 f2 z2 => ?_))
  replace m1 := e2
  replace fr : ∀ q, (q ≠ 30) → h2.1 q = h1.1 q := fun q hq => (f2 q (by omega)).trans (fr q hq)
  replace zr := z2.trans zr
  refine Ax_ic0 dX6_print_9 ?_
  refine Ax_is1 dX6_print_10 (Nat.le_of_ble_eq_true rfl) (by rfl) ?_
  obtain ⟨-, hCs, hV, hK, hT, ⟨dp, d1, d2⟩, hC, h5, ⟨f, f1, f2, f3⟩⟩ := id hS1
  have hCs2 := hCs.on (h' := h2) (fun q hq => fr q (by omega))
  have hV2 := hV.on (h' := h2) (fun q hq => fr q (by omega))
  have hK2 := hK.on (h' := h2) (fun q hq => fr q (by omega))
  have hT2 := hT.on (h' := h2) (fun q hq => fr q (by omega))
  have hC2 := hC.on (h' := h2) (fun q hq => fr q (by omega))
  have h52 := h5.on (h' := h2) (fun q hq => fr q (by omega))
  have d12 := (fr 46 (by omega)).trans d1
  have hO2 : mOut h2 [] := ⟨f, (fr 58 (by omega)).trans f1, fun k hk => absurd hk (Nat.not_lt_zero _), Nat.zero_le _⟩
  have hF12 : xFr 30 29 h h2 := ⟨fun q hq => (fr q (by omega)).trans (hF1.1 q hq), zr.trans hF1.2⟩
  suffices hloop : ∀ w i hh done, i + w = (cLn C rt dn sz wy).length → mAp (mO (nI (cntF C 24)) cl' (nI rt) (nI rw) (nI dn) (nI sz) (nI wy) (nI (runsOf C rt).length) (nI (clsOf (runsOf C rt) dn sz).length) (nI (cLn C rt dn sz wy).length) pt1 tk1) h2 [] done hh → done ++ prL (runsOf C rt) dn sz rt (cLn C rt dn sz wy) i w = txT C rt dn sz wy → Ax G mX6_print 4 0 11 [.ref 30, .int (nI i)] [] hh (fun q h' => q = some (.int (nI (txT C rt dn sz wy).length)) ∧ vM h' C rt rw dn sz wy cl' (txT C rt dn sz wy) ∧ xFr 30 29 h h') from
    hloop _ 0 h2 [] (Nat.zero_add _) ⟨m1, hO2, xFo.rf⟩ rfl
  intro w
  induction w with
  | zero =>
    intro i hh done hi hA hfin
    rw [prL, List.append_nil] at hfin
    subst hfin
    have m := hA.1
    have hF := hA.2.2
    rw [List.nil_append] at m
    obtain rfl : i = (cLn C rt dn sz wy).length := by omega
    refine Ax_il1 dX6_print_11 ?_
    refine Ax_al0 dX6_print_12 ?_
    refine Ax_getf kfX6 fX6_158 dX6_print_13 m rfl ?_
    refine Ax_cmpgen (tgt := 30) dX6_print_16 (by decide) (by omega) (by omega) (fun c16 => ?_) (fun c16 => ?_)
    · obtain ⟨kn', fi, se, ro, fo, m25, m26, m27, m28, m29, hR⟩ := hC2.on (h' := hh) (fun q hq => hF.1 q (by omega))
      have hOT := hA.2.1
      rw [List.nil_append] at hOT
      refine Ax_al0 dX6_print_30 ?_
      refine Ax_getf kfX6 fX6_225 dX6_print_31 m rfl ?_
      exact Ax_iret dX6_print_34 rfl rfl ⟨rfl, ⟨⟨_, _, _, _, _, m⟩, hCs2.on (fun q hq => hF.1 q (by omega)), ⟨(hV2.raw).on (fun q hq => hF.1 q (by omega)), (hK2.raw).on (fun q hq => hF.1 q (by omega)), (hT2.raw).on (fun q hq => hF.1 q (by omega)), ⟨dp, kn', fi, se, ro, fo, (hF.1 46 (by omega)).trans d12, m25, m26, m27, m28, m29⟩, h52.on (fun q hq => hF.1 q (by omega))⟩, hOT⟩, ⟨fun q hq => (hF.1 q (by omega)).trans (hF12.1 q hq), hF.2.trans hF12.2⟩⟩
    · omega
  | succ w ih =>
    intro i hh done hi hA hfin
    have hil : i < (cLn C rt dn sz wy).length := by omega
    have m := hA.1
    rw [prL, ← List.append_assoc] at hfin
    have hlen := congrArg List.length hfin
    rw [List.length_append] at hlen
    refine Ax_il1 dX6_print_11 ?_
    refine Ax_al0 dX6_print_12 ?_
    refine Ax_getf kfX6 fX6_158 dX6_print_13 m rfl ?_
    refine Ax_cmpgen (tgt := 30) dX6_print_16 (by decide) (by omega) (by omega) (fun c16 => ?_) (fun c16 => ?_)
    · omega
    refine Ax_al0 dX6_print_19 ?_
    refine Ax_il1 dX6_print_20 ?_
    refine Ax_cVv dX6_print_21 vX6_260 kfX6 m (tX6_printLine (G := G) hV2 hK2 hC2 i2 i1 (by omega) hil (b4 _ (gL_in hil)) (by show 0 + _ + 100 < 40000; omega) hA rfl) rfl rfl (by decide) (by simp [Value.category]) (Nat.le_refl _) (fun h31 q31 => ?_)
    refine Ax_inc1_1n dX6_print_24 (Nat.le_of_ble_eq_true rfl) (by rfl) ?_
    refine Ax_goto (tgt := 11) dX6_print_27 (by decide) ?_
    exact ih (i + 1) h31 _ (by omega) q31 hfin
theorem tX6_out (hS : vM h C rt rw dn sz wy cl' bs) (i : Int32) : AM G mX6_out 1 0 [.ref 30, .int i] h (fun q h' => q = some (.int (outS bs i)) ∧ h' = h) := by
  obtain ⟨⟨rn, kn, ln, pt, tk, m⟩, -, -, ⟨f, m39, hf, hbl⟩⟩ := hS
  have hin := tIn (G := G) (h := h) i (lN 0) (nI bs.length - nI 1).toInt64 (a' := 0) (b' := (bs.length : Int) - 1) (by decide) (by rw [Int32.toInt_toInt64, pre_n (by omega)])
  rw [inB_gIn _ (by omega)] at hin
  refine AM.of rfl rfl (Nat.le_of_ble_eq_true rfl) rfl ?_
  unfold outS
  refine Ax_il1 dX6_out_0 ?_
  refine Ax_i2l dX6_out_1 ?_
  refine Ax_lc0 dX6_out_2 ?_
  refine Ax_al0 dX6_out_3 ?_
  refine Ax_getf kfX6 fX6_225 dX6_out_4 m rfl ?_
  refine Ax_ic1 dX6_out_7 ?_
  refine Ax_isub dX6_out_8 ?_
  refine Ax_i2l dX6_out_9 ?_
  refine Ax_cSi dX6_out_10 sX6_110 hin rfl rfl (by decide) (by simp [Value.category]) ?_
  refine Ax_ifeqB (tgt := 25) dX6_out_13 (by decide) (fun c13 => ?_) (fun c13 => ?_)
  · rw [c13, if_neg (by decide)]
    refine Ax_icm1 dX6_out_25 ?_
    exact Ax_iret dX6_out_26 rfl rfl ⟨rfl, rfl⟩
  rw [c13, if_pos rfl]
  obtain ⟨k, hk, rfl⟩ := gIn_k c13 (by omega)
  rw [nI_clamp (by omega), ← hf k hk]
  refine Ax_al0 dX6_out_16 ?_
  refine Ax_getf kfX6 fX6_104 dX6_out_17 m rfl ?_
  refine Ax_il1 dX6_out_20 ?_
  refine Ax_baldn dX6_out_21 m39 (by omega) (by omega) ?_
  refine Ax_goto (tgt := 26) dX6_out_22 (by decide) ?_
  exact Ax_iret dX6_out_26 rfl rfl ⟨rfl, rfl⟩
end
