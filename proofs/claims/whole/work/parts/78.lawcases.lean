/-! the law's cases -/
section
variable {G : xG} {h : xH} {b i : Nat} {C : Cs} {rt rw dn sz wy st cap : Nat} {cl' : Int32} {bs : List Nat}
theorem lw_cadd (hS : vX5 h C rt rw dn sz wy cl' st bs cap) (hM : vM h C rt rw dn sz wy cl' bs) (hO : sOk C rt rw dn sz wy) (hb : pot cap ≤ b) (hi : i + 5 ≤ G.2.2.2.2.2.1) (hL : G.2.2.2.2.2.1 ≤ 2560) (hnext : ∀ b' h' C' rt' rw' dn' sz' wy' cl2 st' bs' cap', pot cap' ≤ b' → vX5 h' C' rt' rw' dn' sz' wy' cl2 st' bs' cap' → vM h' C' rt' rw' dn' sz' wy' cl2 bs' → sOk C' rt' rw' dn' sz' wy' → Ax G mL_law 40 b' 650 [.ref 1000000, .ref 0, .ref 30, .int (nI i)] [] h' (fun r _ => r = some (.int 1))) : Ax G mL_law 40 b 128 [.ref 1000000, .ref 0, .ref 30, .int (nI i)] [] h (fun r _ => r = some (.int 1)) := by
  have u := hS.1
  refine Ax_al1 dL_law_128 ?_
  refine Ax_al0 dL_law_129 ?_
  refine Ax_il3 dL_law_130 ?_
  refine Ax_ic1 dL_law_131 ?_
  refine Ax_iaddn dL_law_132 ?_
  refine Ax_sldn dL_law_133 (by omega) (by omega) ?_
  refine Ax_al0 dL_law_134 ?_
  refine Ax_il3 dL_law_135 ?_
  refine Ax_ic2 dL_law_136 ?_
  refine Ax_iaddn dL_law_137 ?_
  refine Ax_sldn dL_law_138 (by omega) (by omega) ?_
  refine Ax_al0 dL_law_139 ?_
  refine Ax_il3 dL_law_140 ?_
  refine Ax_ic3 dL_law_141 ?_
  refine Ax_iaddn dL_law_142 ?_
  refine Ax_sldn dL_law_143 (by omega) (by omega) ?_
  refine Ax_al0 dL_law_144 ?_
  refine Ax_il3 dL_law_145 ?_
  refine Ax_ic4 dL_law_146 ?_
  refine Ax_iaddn dL_law_147 ?_
  refine Ax_sldn dL_law_148 (by omega) (by omega) ?_
  refine Ax_cViH dL_law_149 vL_13 kfX5 u (AMi (tX5_add (G := G) hS hO (scX G (i + 1)) (scX G (i + 2)) (scX G (i + 3)) (scX G (i + 4)))) rfl rfl (by decide) (by simp [Value.category]) (by omega) (fun x149 h1 q1 => ?_)
  obtain ⟨rfl, ⟨st1, hS1⟩, hO1, hF1⟩ := q1
  have hM1 := hM.on (h' := h1) (fun q hq => hF1.1 q (by omega))
  obtain ⟨⟨rn, kn, ln, pt, tk, m⟩, -⟩ := id hM1
  refine Ax_al2 dL_law_152 ?_
  refine Ax_al0 dL_law_153 ?_
  refine Ax_il3 dL_law_154 ?_
  refine Ax_ic1 dL_law_155 ?_
  refine Ax_iaddn dL_law_156 ?_
  refine Ax_sldn dL_law_157 (by omega) (by omega) ?_
  refine Ax_al0 dL_law_158 ?_
  refine Ax_il3 dL_law_159 ?_
  refine Ax_ic2 dL_law_160 ?_
  refine Ax_iaddn dL_law_161 ?_
  refine Ax_sldn dL_law_162 (by omega) (by omega) ?_
  refine Ax_al0 dL_law_163 ?_
  refine Ax_il3 dL_law_164 ?_
  refine Ax_ic3 dL_law_165 ?_
  refine Ax_iaddn dL_law_166 ?_
  refine Ax_sldn dL_law_167 (by omega) (by omega) ?_
  refine Ax_al0 dL_law_168 ?_
  refine Ax_il3 dL_law_169 ?_
  refine Ax_ic4 dL_law_170 ?_
  refine Ax_iaddn dL_law_171 ?_
  refine Ax_sldn dL_law_172 (by omega) (by omega) ?_
  refine Ax_cViH dL_law_173 vL_17 kfX6 m (AMi (tX6_add (G := G) hM1 hO (scX G (i + 1)) (scX G (i + 2)) (scX G (i + 3)) (scX G (i + 4)))) rfl rfl (by decide) (by simp [Value.category]) (by omega) (fun x173 h2 q2 => ?_)
  obtain ⟨rfl, hM2, hF2⟩ := q2
  refine Ax_cmpeq (tgt := 650) dL_law_176 (by decide) (fun c176 => ?_) (fun c176 => ?_)
  · exact hnext _ h2 _ _ _ _ _ _ _ _ _ _ (by omega) (hS1.f6 hF2) hM2 hO1
  · exact absurd rfl c176
theorem lw_cclash (hS : vX5 h C rt rw dn sz wy cl' st bs cap) (hM : vM h C rt rw dn sz wy cl' bs) (hO : sOk C rt rw dn sz wy) (hb : pot cap ≤ b) (hi : i + 5 ≤ G.2.2.2.2.2.1) (hL : G.2.2.2.2.2.1 ≤ 2560) (hnext : ∀ b' h' C' rt' rw' dn' sz' wy' cl2 st' bs' cap', pot cap' ≤ b' → vX5 h' C' rt' rw' dn' sz' wy' cl2 st' bs' cap' → vM h' C' rt' rw' dn' sz' wy' cl2 bs' → sOk C' rt' rw' dn' sz' wy' → Ax G mL_law 40 b' 650 [.ref 1000000, .ref 0, .ref 30, .int (nI i)] [] h' (fun r _ => r = some (.int 1))) : Ax G mL_law 40 b 181 [.ref 1000000, .ref 0, .ref 30, .int (nI i)] [] h (fun r _ => r = some (.int 1)) := by
  have u := hS.1
  obtain ⟨⟨rn, kn, ln, pt, tk, m⟩, -⟩ := id hM
  refine Ax_al1 dL_law_181 ?_
  refine Ax_cVi dL_law_182 vL_18 kfX5 u (tX5_clash (G := G) hS ) rfl rfl (by decide) (by simp [Value.category]) ?_
  refine Ax_al2 dL_law_185 ?_
  refine Ax_cVi dL_law_186 vL_22 kfX6 m (tX6_clash (G := G) hM ) rfl rfl (by decide) (by simp [Value.category]) ?_
  refine Ax_cmpeq (tgt := 650) dL_law_189 (by decide) (fun c189 => ?_) (fun c189 => ?_)
  · exact hnext b h _ _ _ _ _ _ _ _ _ _ hb hS hM hO
  · exact absurd rfl c189
theorem lw_cdrop (hS : vX5 h C rt rw dn sz wy cl' st bs cap) (hM : vM h C rt rw dn sz wy cl' bs) (hO : sOk C rt rw dn sz wy) (hb : pot cap ≤ b) (hi : i + 5 ≤ G.2.2.2.2.2.1) (hL : G.2.2.2.2.2.1 ≤ 2560) (hnext : ∀ b' h' C' rt' rw' dn' sz' wy' cl2 st' bs' cap', pot cap' ≤ b' → vX5 h' C' rt' rw' dn' sz' wy' cl2 st' bs' cap' → vM h' C' rt' rw' dn' sz' wy' cl2 bs' → sOk C' rt' rw' dn' sz' wy' → Ax G mL_law 40 b' 650 [.ref 1000000, .ref 0, .ref 30, .int (nI i)] [] h' (fun r _ => r = some (.int 1))) : Ax G mL_law 40 b 194 [.ref 1000000, .ref 0, .ref 30, .int (nI i)] [] h (fun r _ => r = some (.int 1)) := by
  have u := hS.1
  refine Ax_al1 dL_law_194 ?_
  refine Ax_al0 dL_law_195 ?_
  refine Ax_il3 dL_law_196 ?_
  refine Ax_ic1 dL_law_197 ?_
  refine Ax_iaddn dL_law_198 ?_
  refine Ax_sldn dL_law_199 (by omega) (by omega) ?_
  refine Ax_cViH dL_law_200 vL_23 kfX5 u (AMi (tX5_drop (G := G) hS hO (scX G (i + 1)))) rfl rfl (by decide) (by simp [Value.category]) (by omega) (fun x200 h1 q1 => ?_)
  obtain ⟨rfl, ⟨st1, hS1⟩, hO1, hF1⟩ := q1
  have hM1 := hM.on (h' := h1) (fun q hq => hF1.1 q (by omega))
  obtain ⟨⟨rn, kn, ln, pt, tk, m⟩, -⟩ := id hM1
  refine Ax_al2 dL_law_203 ?_
  refine Ax_al0 dL_law_204 ?_
  refine Ax_il3 dL_law_205 ?_
  refine Ax_ic1 dL_law_206 ?_
  refine Ax_iaddn dL_law_207 ?_
  refine Ax_sldn dL_law_208 (by omega) (by omega) ?_
  refine Ax_cViH dL_law_209 vL_27 kfX6 m (AMi (tX6_drop (G := G) hM1 (scX G (i + 1)))) rfl rfl (by decide) (by simp [Value.category]) (by omega) (fun x209 h2 q2 => ?_)
  obtain ⟨rfl, hM2, hF2⟩ := q2
  refine Ax_cmpeq (tgt := 650) dL_law_212 (by decide) (fun c212 => ?_) (fun c212 => ?_)
  · exact hnext _ h2 _ _ _ _ _ _ _ _ _ _ (by omega) (hS1.f6 hF2) hM2 hO1
  · exact absurd rfl c212
theorem lw_crest (hS : vX5 h C rt rw dn sz wy cl' st bs cap) (hM : vM h C rt rw dn sz wy cl' bs) (hO : sOk C rt rw dn sz wy) (hb : pot cap ≤ b) (hi : i + 5 ≤ G.2.2.2.2.2.1) (hL : G.2.2.2.2.2.1 ≤ 2560) (hnext : ∀ b' h' C' rt' rw' dn' sz' wy' cl2 st' bs' cap', pot cap' ≤ b' → vX5 h' C' rt' rw' dn' sz' wy' cl2 st' bs' cap' → vM h' C' rt' rw' dn' sz' wy' cl2 bs' → sOk C' rt' rw' dn' sz' wy' → Ax G mL_law 40 b' 650 [.ref 1000000, .ref 0, .ref 30, .int (nI i)] [] h' (fun r _ => r = some (.int 1))) : Ax G mL_law 40 b 217 [.ref 1000000, .ref 0, .ref 30, .int (nI i)] [] h (fun r _ => r = some (.int 1)) := by
  have u := hS.1
  refine Ax_al1 dL_law_217 ?_
  refine Ax_al0 dL_law_218 ?_
  refine Ax_il3 dL_law_219 ?_
  refine Ax_ic1 dL_law_220 ?_
  refine Ax_iaddn dL_law_221 ?_
  refine Ax_sldn dL_law_222 (by omega) (by omega) ?_
  refine Ax_al0 dL_law_223 ?_
  refine Ax_il3 dL_law_224 ?_
  refine Ax_ic2 dL_law_225 ?_
  refine Ax_iaddn dL_law_226 ?_
  refine Ax_sldn dL_law_227 (by omega) (by omega) ?_
  refine Ax_cViH dL_law_228 vL_28 kfX5 u (AMi (tX5_rest (G := G) hS hO (scX G (i + 1)) (scX G (i + 2)))) rfl rfl (by decide) (by simp [Value.category]) (by omega) (fun x228 h1 q1 => ?_)
  obtain ⟨rfl, ⟨st1, hS1⟩, hO1, hF1⟩ := q1
  have hM1 := hM.on (h' := h1) (fun q hq => hF1.1 q (by omega))
  obtain ⟨⟨rn, kn, ln, pt, tk, m⟩, -⟩ := id hM1
  refine Ax_al2 dL_law_231 ?_
  refine Ax_al0 dL_law_232 ?_
  refine Ax_il3 dL_law_233 ?_
  refine Ax_ic1 dL_law_234 ?_
  refine Ax_iaddn dL_law_235 ?_
  refine Ax_sldn dL_law_236 (by omega) (by omega) ?_
  refine Ax_al0 dL_law_237 ?_
  refine Ax_il3 dL_law_238 ?_
  refine Ax_ic2 dL_law_239 ?_
  refine Ax_iaddn dL_law_240 ?_
  refine Ax_sldn dL_law_241 (by omega) (by omega) ?_
  refine Ax_cViH dL_law_242 vL_32 kfX6 m (AMi (tX6_rest (G := G) hM1 (scX G (i + 1)) (scX G (i + 2)))) rfl rfl (by decide) (by simp [Value.category]) (by omega) (fun x242 h2 q2 => ?_)
  obtain ⟨rfl, hM2, hF2⟩ := q2
  refine Ax_cmpeq (tgt := 650) dL_law_245 (by decide) (fun c245 => ?_) (fun c245 => ?_)
  · exact hnext _ h2 _ _ _ _ _ _ _ _ _ _ (by omega) (hS1.f6 hF2) hM2 hO1
  · exact absurd rfl c245
theorem lw_ctables (hS : vX5 h C rt rw dn sz wy cl' st bs cap) (hM : vM h C rt rw dn sz wy cl' bs) (hO : sOk C rt rw dn sz wy) (hb : pot cap ≤ b) (hi : i + 5 ≤ G.2.2.2.2.2.1) (hL : G.2.2.2.2.2.1 ≤ 2560) (hnext : ∀ b' h' C' rt' rw' dn' sz' wy' cl2 st' bs' cap', pot cap' ≤ b' → vX5 h' C' rt' rw' dn' sz' wy' cl2 st' bs' cap' → vM h' C' rt' rw' dn' sz' wy' cl2 bs' → sOk C' rt' rw' dn' sz' wy' → Ax G mL_law 40 b' 650 [.ref 1000000, .ref 0, .ref 30, .int (nI i)] [] h' (fun r _ => r = some (.int 1))) : Ax G mL_law 40 b 250 [.ref 1000000, .ref 0, .ref 30, .int (nI i)] [] h (fun r _ => r = some (.int 1)) := by
  have u := hS.1
  refine Ax_al1 dL_law_250 ?_
  refine Ax_al0 dL_law_251 ?_
  refine Ax_il3 dL_law_252 ?_
  refine Ax_ic1 dL_law_253 ?_
  refine Ax_iaddn dL_law_254 ?_
  refine Ax_sldn dL_law_255 (by omega) (by omega) ?_
  refine Ax_al0 dL_law_256 ?_
  refine Ax_il3 dL_law_257 ?_
  refine Ax_ic2 dL_law_258 ?_
  refine Ax_iaddn dL_law_259 ?_
  refine Ax_sldn dL_law_260 (by omega) (by omega) ?_
  refine Ax_cViH dL_law_261 vL_33 kfX5 u (AMi (tX5_tables (G := G) hS hO (scX G (i + 1)) (scX G (i + 2)))) rfl rfl (by decide) (by simp [Value.category]) (by omega) (fun x261 h1 q1 => ?_)
  obtain ⟨rfl, ⟨st1, hS1⟩, hO1, hF1⟩ := q1
  have hM1 := hM.on (h' := h1) (fun q hq => hF1.1 q (by omega))
  obtain ⟨⟨rn, kn, ln, pt, tk, m⟩, -⟩ := id hM1
  refine Ax_al2 dL_law_264 ?_
  refine Ax_al0 dL_law_265 ?_
  refine Ax_il3 dL_law_266 ?_
  refine Ax_ic1 dL_law_267 ?_
  refine Ax_iaddn dL_law_268 ?_
  refine Ax_sldn dL_law_269 (by omega) (by omega) ?_
  refine Ax_al0 dL_law_270 ?_
  refine Ax_il3 dL_law_271 ?_
  refine Ax_ic2 dL_law_272 ?_
  refine Ax_iaddn dL_law_273 ?_
  refine Ax_sldn dL_law_274 (by omega) (by omega) ?_
  refine Ax_cViH dL_law_275 vL_36 kfX6 m (AMi (tX6_tables (G := G) hM1 (scX G (i + 1)) (scX G (i + 2)))) rfl rfl (by decide) (by simp [Value.category]) (by omega) (fun x275 h2 q2 => ?_)
  obtain ⟨rfl, hM2, hF2⟩ := q2
  refine Ax_cmpeq (tgt := 650) dL_law_278 (by decide) (fun c278 => ?_) (fun c278 => ?_)
  · exact hnext _ h2 _ _ _ _ _ _ _ _ _ _ (by omega) (hS1.f6 hF2) hM2 hO1
  · exact absurd rfl c278
theorem lw_cway (hS : vX5 h C rt rw dn sz wy cl' st bs cap) (hM : vM h C rt rw dn sz wy cl' bs) (hO : sOk C rt rw dn sz wy) (hb : pot cap ≤ b) (hi : i + 5 ≤ G.2.2.2.2.2.1) (hL : G.2.2.2.2.2.1 ≤ 2560) (hnext : ∀ b' h' C' rt' rw' dn' sz' wy' cl2 st' bs' cap', pot cap' ≤ b' → vX5 h' C' rt' rw' dn' sz' wy' cl2 st' bs' cap' → vM h' C' rt' rw' dn' sz' wy' cl2 bs' → sOk C' rt' rw' dn' sz' wy' → Ax G mL_law 40 b' 650 [.ref 1000000, .ref 0, .ref 30, .int (nI i)] [] h' (fun r _ => r = some (.int 1))) : Ax G mL_law 40 b 283 [.ref 1000000, .ref 0, .ref 30, .int (nI i)] [] h (fun r _ => r = some (.int 1)) := by
  have u := hS.1
  refine Ax_al1 dL_law_283 ?_
  refine Ax_al0 dL_law_284 ?_
  refine Ax_il3 dL_law_285 ?_
  refine Ax_ic1 dL_law_286 ?_
  refine Ax_iaddn dL_law_287 ?_
  refine Ax_sldn dL_law_288 (by omega) (by omega) ?_
  refine Ax_cViH dL_law_289 vL_37 kfX5 u (AMi (tX5_way (G := G) hS hO (scX G (i + 1)))) rfl rfl (by decide) (by simp [Value.category]) (by omega) (fun x289 h1 q1 => ?_)
  obtain ⟨rfl, ⟨st1, hS1⟩, hO1, hF1⟩ := q1
  have hM1 := hM.on (h' := h1) (fun q hq => hF1.1 q (by omega))
  obtain ⟨⟨rn, kn, ln, pt, tk, m⟩, -⟩ := id hM1
  refine Ax_al2 dL_law_292 ?_
  refine Ax_al0 dL_law_293 ?_
  refine Ax_il3 dL_law_294 ?_
  refine Ax_ic1 dL_law_295 ?_
  refine Ax_iaddn dL_law_296 ?_
  refine Ax_sldn dL_law_297 (by omega) (by omega) ?_
  refine Ax_cViH dL_law_298 vL_40 kfX6 m (AMi (tX6_way (G := G) hM1 (scX G (i + 1)))) rfl rfl (by decide) (by simp [Value.category]) (by omega) (fun x298 h2 q2 => ?_)
  obtain ⟨rfl, hM2, hF2⟩ := q2
  refine Ax_cmpeq (tgt := 650) dL_law_301 (by decide) (fun c301 => ?_) (fun c301 => ?_)
  · exact hnext _ h2 _ _ _ _ _ _ _ _ _ _ (by omega) (hS1.f6 hF2) hM2 hO1
  · exact absurd rfl c301
theorem lw_ctold (hS : vX5 h C rt rw dn sz wy cl' st bs cap) (hM : vM h C rt rw dn sz wy cl' bs) (hO : sOk C rt rw dn sz wy) (hb : pot cap ≤ b) (hi : i + 5 ≤ G.2.2.2.2.2.1) (hL : G.2.2.2.2.2.1 ≤ 2560) (hnext : ∀ b' h' C' rt' rw' dn' sz' wy' cl2 st' bs' cap', pot cap' ≤ b' → vX5 h' C' rt' rw' dn' sz' wy' cl2 st' bs' cap' → vM h' C' rt' rw' dn' sz' wy' cl2 bs' → sOk C' rt' rw' dn' sz' wy' → Ax G mL_law 40 b' 650 [.ref 1000000, .ref 0, .ref 30, .int (nI i)] [] h' (fun r _ => r = some (.int 1))) : Ax G mL_law 40 b 306 [.ref 1000000, .ref 0, .ref 30, .int (nI i)] [] h (fun r _ => r = some (.int 1)) := by
  have u := hS.1
  obtain ⟨⟨rn, kn, ln, pt, tk, m⟩, -⟩ := id hM
  refine Ax_al1 dL_law_306 ?_
  refine Ax_al0 dL_law_307 ?_
  refine Ax_il3 dL_law_308 ?_
  refine Ax_ic1 dL_law_309 ?_
  refine Ax_iaddn dL_law_310 ?_
  refine Ax_sldn dL_law_311 (by omega) (by omega) ?_
  refine Ax_al0 dL_law_312 ?_
  refine Ax_il3 dL_law_313 ?_
  refine Ax_ic2 dL_law_314 ?_
  refine Ax_iaddn dL_law_315 ?_
  refine Ax_sldn dL_law_316 (by omega) (by omega) ?_
  refine Ax_cVi dL_law_317 vL_41 kfX5 u (tX5_told (G := G) hS hO (scX G (i + 1)) (scX G (i + 2))) rfl rfl (by decide) (by simp [Value.category]) ?_
  refine Ax_al2 dL_law_320 ?_
  refine Ax_al0 dL_law_321 ?_
  refine Ax_il3 dL_law_322 ?_
  refine Ax_ic1 dL_law_323 ?_
  refine Ax_iaddn dL_law_324 ?_
  refine Ax_sldn dL_law_325 (by omega) (by omega) ?_
  refine Ax_al0 dL_law_326 ?_
  refine Ax_il3 dL_law_327 ?_
  refine Ax_ic2 dL_law_328 ?_
  refine Ax_iaddn dL_law_329 ?_
  refine Ax_sldn dL_law_330 (by omega) (by omega) ?_
  refine Ax_cVi dL_law_331 vL_44 kfX6 m (tX6_told (G := G) hM (scX G (i + 1)) (scX G (i + 2))) rfl rfl (by decide) (by simp [Value.category]) ?_
  refine Ax_cmpeq (tgt := 650) dL_law_334 (by decide) (fun c334 => ?_) (fun c334 => ?_)
  · exact hnext b h _ _ _ _ _ _ _ _ _ _ hb hS hM hO
  · exact absurd rfl c334
theorem lw_ccount (hS : vX5 h C rt rw dn sz wy cl' st bs cap) (hM : vM h C rt rw dn sz wy cl' bs) (hO : sOk C rt rw dn sz wy) (hb : pot cap ≤ b) (hi : i + 5 ≤ G.2.2.2.2.2.1) (hL : G.2.2.2.2.2.1 ≤ 2560) (hnext : ∀ b' h' C' rt' rw' dn' sz' wy' cl2 st' bs' cap', pot cap' ≤ b' → vX5 h' C' rt' rw' dn' sz' wy' cl2 st' bs' cap' → vM h' C' rt' rw' dn' sz' wy' cl2 bs' → sOk C' rt' rw' dn' sz' wy' → Ax G mL_law 40 b' 650 [.ref 1000000, .ref 0, .ref 30, .int (nI i)] [] h' (fun r _ => r = some (.int 1))) : Ax G mL_law 40 b 339 [.ref 1000000, .ref 0, .ref 30, .int (nI i)] [] h (fun r _ => r = some (.int 1)) := by
  have u := hS.1
  refine Ax_al1 dL_law_339 ?_
  refine Ax_al0 dL_law_340 ?_
  refine Ax_il3 dL_law_341 ?_
  refine Ax_ic1 dL_law_342 ?_
  refine Ax_iaddn dL_law_343 ?_
  refine Ax_sldn dL_law_344 (by omega) (by omega) ?_
  refine Ax_cViH dL_law_345 vL_45 kfX5 u (AMi (tX5_count (G := G) hS hO (scX G (i + 1)))) rfl rfl (by decide) (by simp [Value.category]) (by omega) (fun x345 h1 q1 => ?_)
  obtain ⟨rfl, hS1, hF1⟩ := q1
  have hM1 := hM.on (h' := h1) (fun q hq => hF1.1 q (by omega))
  obtain ⟨⟨rn, kn, ln, pt, tk, m⟩, -⟩ := id hM1
  refine Ax_al2 dL_law_348 ?_
  refine Ax_al0 dL_law_349 ?_
  refine Ax_il3 dL_law_350 ?_
  refine Ax_ic1 dL_law_351 ?_
  refine Ax_iaddn dL_law_352 ?_
  refine Ax_sldn dL_law_353 (by omega) (by omega) ?_
  refine Ax_cViH dL_law_354 vL_48 kfX6 m (AMi (tX6_count (G := G) hM1 hO (scX G (i + 1)))) rfl rfl (by decide) (by simp [Value.category]) (by omega) (fun x354 h2 q2 => ?_)
  obtain ⟨rfl, hM2, hF2⟩ := q2
  refine Ax_cmpeq (tgt := 650) dL_law_357 (by decide) (fun c357 => ?_) (fun c357 => ?_)
  · exact hnext _ h2 _ _ _ _ _ _ _ _ _ _ (by omega) (hS1.f6 hF2) hM2 hO
  · exact absurd rfl c357
theorem lw_crun (hS : vX5 h C rt rw dn sz wy cl' st bs cap) (hM : vM h C rt rw dn sz wy cl' bs) (hO : sOk C rt rw dn sz wy) (hb : pot cap ≤ b) (hi : i + 5 ≤ G.2.2.2.2.2.1) (hL : G.2.2.2.2.2.1 ≤ 2560) (hnext : ∀ b' h' C' rt' rw' dn' sz' wy' cl2 st' bs' cap', pot cap' ≤ b' → vX5 h' C' rt' rw' dn' sz' wy' cl2 st' bs' cap' → vM h' C' rt' rw' dn' sz' wy' cl2 bs' → sOk C' rt' rw' dn' sz' wy' → Ax G mL_law 40 b' 650 [.ref 1000000, .ref 0, .ref 30, .int (nI i)] [] h' (fun r _ => r = some (.int 1))) : Ax G mL_law 40 b 362 [.ref 1000000, .ref 0, .ref 30, .int (nI i)] [] h (fun r _ => r = some (.int 1)) := by
  have u := hS.1
  refine Ax_al1 dL_law_362 ?_
  refine Ax_al0 dL_law_363 ?_
  refine Ax_il3 dL_law_364 ?_
  refine Ax_ic1 dL_law_365 ?_
  refine Ax_iaddn dL_law_366 ?_
  refine Ax_sldn dL_law_367 (by omega) (by omega) ?_
  refine Ax_al0 dL_law_368 ?_
  refine Ax_il3 dL_law_369 ?_
  refine Ax_ic2 dL_law_370 ?_
  refine Ax_iaddn dL_law_371 ?_
  refine Ax_sldn dL_law_372 (by omega) (by omega) ?_
  refine Ax_cViH dL_law_373 vL_49 kfX5 u (AMi (tX5_run (G := G) hS hO (scX G (i + 1)) (scX G (i + 2)))) rfl rfl (by decide) (by simp [Value.category]) (by omega) (fun x373 h1 q1 => ?_)
  obtain ⟨rfl, hS1, hF1⟩ := q1
  have hM1 := hM.on (h' := h1) (fun q hq => hF1.1 q (by omega))
  obtain ⟨⟨rn, kn, ln, pt, tk, m⟩, -⟩ := id hM1
  refine Ax_al2 dL_law_376 ?_
  refine Ax_al0 dL_law_377 ?_
  refine Ax_il3 dL_law_378 ?_
  refine Ax_ic1 dL_law_379 ?_
  refine Ax_iaddn dL_law_380 ?_
  refine Ax_sldn dL_law_381 (by omega) (by omega) ?_
  refine Ax_al0 dL_law_382 ?_
  refine Ax_il3 dL_law_383 ?_
  refine Ax_ic2 dL_law_384 ?_
  refine Ax_iaddn dL_law_385 ?_
  refine Ax_sldn dL_law_386 (by omega) (by omega) ?_
  refine Ax_cViH dL_law_387 vL_52 kfX6 m (AMi (tX6_run (G := G) hM1 hO (scX G (i + 1)) (scX G (i + 2)))) rfl rfl (by decide) (by simp [Value.category]) (by omega) (fun x387 h2 q2 => ?_)
  obtain ⟨rfl, hM2, hF2⟩ := q2
  refine Ax_cmpeq (tgt := 650) dL_law_390 (by decide) (fun c390 => ?_) (fun c390 => ?_)
  · exact hnext _ h2 _ _ _ _ _ _ _ _ _ _ (by omega) (hS1.f6 hF2) hM2 hO
  · exact absurd rfl c390
theorem lw_ccluster (hS : vX5 h C rt rw dn sz wy cl' st bs cap) (hM : vM h C rt rw dn sz wy cl' bs) (hO : sOk C rt rw dn sz wy) (hb : pot cap ≤ b) (hi : i + 5 ≤ G.2.2.2.2.2.1) (hL : G.2.2.2.2.2.1 ≤ 2560) (hnext : ∀ b' h' C' rt' rw' dn' sz' wy' cl2 st' bs' cap', pot cap' ≤ b' → vX5 h' C' rt' rw' dn' sz' wy' cl2 st' bs' cap' → vM h' C' rt' rw' dn' sz' wy' cl2 bs' → sOk C' rt' rw' dn' sz' wy' → Ax G mL_law 40 b' 650 [.ref 1000000, .ref 0, .ref 30, .int (nI i)] [] h' (fun r _ => r = some (.int 1))) : Ax G mL_law 40 b 395 [.ref 1000000, .ref 0, .ref 30, .int (nI i)] [] h (fun r _ => r = some (.int 1)) := by
  have u := hS.1
  refine Ax_al1 dL_law_395 ?_
  refine Ax_al0 dL_law_396 ?_
  refine Ax_il3 dL_law_397 ?_
  refine Ax_ic1 dL_law_398 ?_
  refine Ax_iaddn dL_law_399 ?_
  refine Ax_sldn dL_law_400 (by omega) (by omega) ?_
  refine Ax_al0 dL_law_401 ?_
  refine Ax_il3 dL_law_402 ?_
  refine Ax_ic2 dL_law_403 ?_
  refine Ax_iaddn dL_law_404 ?_
  refine Ax_sldn dL_law_405 (by omega) (by omega) ?_
  refine Ax_cViH dL_law_406 vL_53 kfX5 u (AMi (tX5_cluster (G := G) hS hO (scX G (i + 1)) (scX G (i + 2)))) rfl rfl (by decide) (by simp [Value.category]) (by omega) (fun x406 h1 q1 => ?_)
  obtain ⟨rfl, hS1, hF1⟩ := q1
  have hM1 := hM.on (h' := h1) (fun q hq => hF1.1 q (by omega))
  obtain ⟨⟨rn, kn, ln, pt, tk, m⟩, -⟩ := id hM1
  refine Ax_al2 dL_law_409 ?_
  refine Ax_al0 dL_law_410 ?_
  refine Ax_il3 dL_law_411 ?_
  refine Ax_ic1 dL_law_412 ?_
  refine Ax_iaddn dL_law_413 ?_
  refine Ax_sldn dL_law_414 (by omega) (by omega) ?_
  refine Ax_al0 dL_law_415 ?_
  refine Ax_il3 dL_law_416 ?_
  refine Ax_ic2 dL_law_417 ?_
  refine Ax_iaddn dL_law_418 ?_
  refine Ax_sldn dL_law_419 (by omega) (by omega) ?_
  refine Ax_cViH dL_law_420 vL_56 kfX6 m (AMi (tX6_cluster (G := G) hM1 hO (scX G (i + 1)) (scX G (i + 2)))) rfl rfl (by decide) (by simp [Value.category]) (by omega) (fun x420 h2 q2 => ?_)
  obtain ⟨rfl, hM2, hF2⟩ := q2
  refine Ax_cmpeq (tgt := 650) dL_law_423 (by decide) (fun c423 => ?_) (fun c423 => ?_)
  · exact hnext _ h2 _ _ _ _ _ _ _ _ _ _ (by omega) (hS1.f6 hF2) hM2 hO
  · exact absurd rfl c423
theorem lw_ccost (hS : vX5 h C rt rw dn sz wy cl' st bs cap) (hM : vM h C rt rw dn sz wy cl' bs) (hO : sOk C rt rw dn sz wy) (hb : pot cap ≤ b) (hi : i + 5 ≤ G.2.2.2.2.2.1) (hL : G.2.2.2.2.2.1 ≤ 2560) (hnext : ∀ b' h' C' rt' rw' dn' sz' wy' cl2 st' bs' cap', pot cap' ≤ b' → vX5 h' C' rt' rw' dn' sz' wy' cl2 st' bs' cap' → vM h' C' rt' rw' dn' sz' wy' cl2 bs' → sOk C' rt' rw' dn' sz' wy' → Ax G mL_law 40 b' 650 [.ref 1000000, .ref 0, .ref 30, .int (nI i)] [] h' (fun r _ => r = some (.int 1))) : Ax G mL_law 40 b 428 [.ref 1000000, .ref 0, .ref 30, .int (nI i)] [] h (fun r _ => r = some (.int 1)) := by
  have u := hS.1
  refine Ax_al1 dL_law_428 ?_
  refine Ax_cViH dL_law_429 vL_57 kfX5 u (AMi (tX5_cost (G := G) hS hO )) rfl rfl (by decide) (by simp [Value.category]) (by omega) (fun x429 h1 q1 => ?_)
  obtain ⟨rfl, hS1, hF1⟩ := q1
  have hM1 := hM.on (h' := h1) (fun q hq => hF1.1 q (by omega))
  obtain ⟨⟨rn, kn, ln, pt, tk, m⟩, -⟩ := id hM1
  refine Ax_al2 dL_law_432 ?_
  refine Ax_cViH dL_law_433 vL_60 kfX6 m (AMi (tX6_cost (G := G) hM1 hO )) rfl rfl (by decide) (by simp [Value.category]) (by omega) (fun x433 h2 q2 => ?_)
  obtain ⟨rfl, hM2, hF2⟩ := q2
  refine Ax_cmpeq (tgt := 650) dL_law_436 (by decide) (fun c436 => ?_) (fun c436 => ?_)
  · exact hnext _ h2 _ _ _ _ _ _ _ _ _ _ (by omega) (hS1.f6 hF2) hM2 hO
  · exact absurd rfl c436
theorem lw_cline (hS : vX5 h C rt rw dn sz wy cl' st bs cap) (hM : vM h C rt rw dn sz wy cl' bs) (hO : sOk C rt rw dn sz wy) (hb : pot cap ≤ b) (hi : i + 5 ≤ G.2.2.2.2.2.1) (hL : G.2.2.2.2.2.1 ≤ 2560) (hnext : ∀ b' h' C' rt' rw' dn' sz' wy' cl2 st' bs' cap', pot cap' ≤ b' → vX5 h' C' rt' rw' dn' sz' wy' cl2 st' bs' cap' → vM h' C' rt' rw' dn' sz' wy' cl2 bs' → sOk C' rt' rw' dn' sz' wy' → Ax G mL_law 40 b' 650 [.ref 1000000, .ref 0, .ref 30, .int (nI i)] [] h' (fun r _ => r = some (.int 1))) : Ax G mL_law 40 b 441 [.ref 1000000, .ref 0, .ref 30, .int (nI i)] [] h (fun r _ => r = some (.int 1)) := by
  have u := hS.1
  refine Ax_al1 dL_law_441 ?_
  refine Ax_al0 dL_law_442 ?_
  refine Ax_il3 dL_law_443 ?_
  refine Ax_ic1 dL_law_444 ?_
  refine Ax_iaddn dL_law_445 ?_
  refine Ax_sldn dL_law_446 (by omega) (by omega) ?_
  refine Ax_al0 dL_law_447 ?_
  refine Ax_il3 dL_law_448 ?_
  refine Ax_ic2 dL_law_449 ?_
  refine Ax_iaddn dL_law_450 ?_
  refine Ax_sldn dL_law_451 (by omega) (by omega) ?_
  refine Ax_cViH dL_law_452 vL_61 kfX5 u (AMi (tX5_line (G := G) hS hO (scX G (i + 1)) (scX G (i + 2)))) rfl rfl (by decide) (by simp [Value.category]) (by omega) (fun x452 h1 q1 => ?_)
  obtain ⟨rfl, hS1, hF1⟩ := q1
  have hM1 := hM.on (h' := h1) (fun q hq => hF1.1 q (by omega))
  obtain ⟨⟨rn, kn, ln, pt, tk, m⟩, -⟩ := id hM1
  refine Ax_al2 dL_law_455 ?_
  refine Ax_al0 dL_law_456 ?_
  refine Ax_il3 dL_law_457 ?_
  refine Ax_ic1 dL_law_458 ?_
  refine Ax_iaddn dL_law_459 ?_
  refine Ax_sldn dL_law_460 (by omega) (by omega) ?_
  refine Ax_al0 dL_law_461 ?_
  refine Ax_il3 dL_law_462 ?_
  refine Ax_ic2 dL_law_463 ?_
  refine Ax_iaddn dL_law_464 ?_
  refine Ax_sldn dL_law_465 (by omega) (by omega) ?_
  refine Ax_cViH dL_law_466 vL_64 kfX6 m (AMi (tX6_line (G := G) hM1 hO (scX G (i + 1)) (scX G (i + 2)))) rfl rfl (by decide) (by simp [Value.category]) (by omega) (fun x466 h2 q2 => ?_)
  obtain ⟨rfl, hM2, hF2⟩ := q2
  refine Ax_cmpeq (tgt := 650) dL_law_469 (by decide) (fun c469 => ?_) (fun c469 => ?_)
  · exact hnext _ h2 _ _ _ _ _ _ _ _ _ _ (by omega) (hS1.f6 hF2) hM2 hO
  · exact absurd rfl c469
theorem lw_cbits (hS : vX5 h C rt rw dn sz wy cl' st bs cap) (hM : vM h C rt rw dn sz wy cl' bs) (hO : sOk C rt rw dn sz wy) (hb : pot cap ≤ b) (hi : i + 5 ≤ G.2.2.2.2.2.1) (hL : G.2.2.2.2.2.1 ≤ 2560) (hnext : ∀ b' h' C' rt' rw' dn' sz' wy' cl2 st' bs' cap', pot cap' ≤ b' → vX5 h' C' rt' rw' dn' sz' wy' cl2 st' bs' cap' → vM h' C' rt' rw' dn' sz' wy' cl2 bs' → sOk C' rt' rw' dn' sz' wy' → Ax G mL_law 40 b' 650 [.ref 1000000, .ref 0, .ref 30, .int (nI i)] [] h' (fun r _ => r = some (.int 1))) : Ax G mL_law 40 b 474 [.ref 1000000, .ref 0, .ref 30, .int (nI i)] [] h (fun r _ => r = some (.int 1)) := by
  have u := hS.1
  refine Ax_al1 dL_law_474 ?_
  refine Ax_al0 dL_law_475 ?_
  refine Ax_il3 dL_law_476 ?_
  refine Ax_ic1 dL_law_477 ?_
  refine Ax_iaddn dL_law_478 ?_
  refine Ax_sldn dL_law_479 (by omega) (by omega) ?_
  refine Ax_cVlH dL_law_480 vL_65 kfX5 u (AMl (tX5_bits (G := G) hS hO (scX G (i + 1)))) rfl rfl (by decide) (by simp [Value.category]) (by omega) (fun x480 h1 q1 => ?_)
  obtain ⟨rfl, hS1, hF1⟩ := q1
  have hM1 := hM.on (h' := h1) (fun q hq => hF1.1 q (by omega))
  obtain ⟨⟨rn, kn, ln, pt, tk, m⟩, -⟩ := id hM1
  refine Ax_al2 dL_law_483 ?_
  refine Ax_al0 dL_law_484 ?_
  refine Ax_il3 dL_law_485 ?_
  refine Ax_ic1 dL_law_486 ?_
  refine Ax_iaddn dL_law_487 ?_
  refine Ax_sldn dL_law_488 (by omega) (by omega) ?_
  refine Ax_cVlH dL_law_489 vL_69 kfX6 m (AMl (tX6_bits (G := G) hM1 hO (scX G (i + 1)))) rfl rfl (by decide) (by simp [Value.category]) (by omega) (fun x489 h2 q2 => ?_)
  obtain ⟨rfl, hM2, hF2⟩ := q2
  refine Ax_lcmp dL_law_492 ?_
  refine Ax_ifeqC (tgt := 650) dL_law_493 (by decide) (fun c493 => ?_) (fun c493 => ?_)
  · exact hnext _ h2 _ _ _ _ _ _ _ _ _ _ (by omega) (hS1.f6 hF2) hM2 hO
  · exact absurd rfl c493
theorem lw_centry (hS : vX5 h C rt rw dn sz wy cl' st bs cap) (hM : vM h C rt rw dn sz wy cl' bs) (hO : sOk C rt rw dn sz wy) (hb : pot cap ≤ b) (hi : i + 5 ≤ G.2.2.2.2.2.1) (hL : G.2.2.2.2.2.1 ≤ 2560) (hnext : ∀ b' h' C' rt' rw' dn' sz' wy' cl2 st' bs' cap', pot cap' ≤ b' → vX5 h' C' rt' rw' dn' sz' wy' cl2 st' bs' cap' → vM h' C' rt' rw' dn' sz' wy' cl2 bs' → sOk C' rt' rw' dn' sz' wy' → Ax G mL_law 40 b' 650 [.ref 1000000, .ref 0, .ref 30, .int (nI i)] [] h' (fun r _ => r = some (.int 1))) : Ax G mL_law 40 b 498 [.ref 1000000, .ref 0, .ref 30, .int (nI i)] [] h (fun r _ => r = some (.int 1)) := by
  have u := hS.1
  refine Ax_al1 dL_law_498 ?_
  refine Ax_al0 dL_law_499 ?_
  refine Ax_il3 dL_law_500 ?_
  refine Ax_ic1 dL_law_501 ?_
  refine Ax_iaddn dL_law_502 ?_
  refine Ax_sldn dL_law_503 (by omega) (by omega) ?_
  refine Ax_al0 dL_law_504 ?_
  refine Ax_il3 dL_law_505 ?_
  refine Ax_ic2 dL_law_506 ?_
  refine Ax_iaddn dL_law_507 ?_
  refine Ax_sldn dL_law_508 (by omega) (by omega) ?_
  refine Ax_cViH dL_law_509 vL_70 kfX5 u (AMi (tX5_entry (G := G) hS hO (scX G (i + 1)) (scX G (i + 2)))) rfl rfl (by decide) (by simp [Value.category]) (by omega) (fun x509 h1 q1 => ?_)
  obtain ⟨rfl, hS1, hF1⟩ := q1
  have hM1 := hM.on (h' := h1) (fun q hq => hF1.1 q (by omega))
  obtain ⟨⟨rn, kn, ln, pt, tk, m⟩, -⟩ := id hM1
  refine Ax_al2 dL_law_512 ?_
  refine Ax_al0 dL_law_513 ?_
  refine Ax_il3 dL_law_514 ?_
  refine Ax_ic1 dL_law_515 ?_
  refine Ax_iaddn dL_law_516 ?_
  refine Ax_sldn dL_law_517 (by omega) (by omega) ?_
  refine Ax_al0 dL_law_518 ?_
  refine Ax_il3 dL_law_519 ?_
  refine Ax_ic2 dL_law_520 ?_
  refine Ax_iaddn dL_law_521 ?_
  refine Ax_sldn dL_law_522 (by omega) (by omega) ?_
  refine Ax_cViH dL_law_523 vL_73 kfX6 m (AMi (tX6_entry (G := G) hM1 hO (scX G (i + 1)) (scX G (i + 2)))) rfl rfl (by decide) (by simp [Value.category]) (by omega) (fun x523 h2 q2 => ?_)
  obtain ⟨rfl, hM2, hF2⟩ := q2
  refine Ax_cmpeq (tgt := 650) dL_law_526 (by decide) (fun c526 => ?_) (fun c526 => ?_)
  · exact hnext _ h2 _ _ _ _ _ _ _ _ _ _ (by omega) (hS1.f6 hF2) hM2 hO
  · exact absurd rfl c526
theorem lw_cgo (hS : vX5 h C rt rw dn sz wy cl' st bs cap) (hM : vM h C rt rw dn sz wy cl' bs) (hO : sOk C rt rw dn sz wy) (hb : pot cap ≤ b) (hi : i + 5 ≤ G.2.2.2.2.2.1) (hL : G.2.2.2.2.2.1 ≤ 2560) (hnext : ∀ b' h' C' rt' rw' dn' sz' wy' cl2 st' bs' cap', pot cap' ≤ b' → vX5 h' C' rt' rw' dn' sz' wy' cl2 st' bs' cap' → vM h' C' rt' rw' dn' sz' wy' cl2 bs' → sOk C' rt' rw' dn' sz' wy' → Ax G mL_law 40 b' 650 [.ref 1000000, .ref 0, .ref 30, .int (nI i)] [] h' (fun r _ => r = some (.int 1))) : Ax G mL_law 40 b 531 [.ref 1000000, .ref 0, .ref 30, .int (nI i)] [] h (fun r _ => r = some (.int 1)) := by
  have u := hS.1
  refine Ax_al1 dL_law_531 ?_
  refine Ax_al0 dL_law_532 ?_
  refine Ax_il3 dL_law_533 ?_
  refine Ax_ic1 dL_law_534 ?_
  refine Ax_iaddn dL_law_535 ?_
  refine Ax_sldn dL_law_536 (by omega) (by omega) ?_
  refine Ax_cViH dL_law_537 vL_74 kfX5 u (AMi (tX5_go (G := G) hS hO (scX G (i + 1)))) rfl rfl (by decide) (by simp [Value.category]) (by omega) (fun x537 h1 q1 => ?_)
  obtain ⟨rfl, hS1, hF1⟩ := q1
  have hM1 := hM.on (h' := h1) (fun q hq => hF1.1 q (by omega))
  obtain ⟨⟨rn, kn, ln, pt, tk, m⟩, -⟩ := id hM1
  refine Ax_al2 dL_law_540 ?_
  refine Ax_al0 dL_law_541 ?_
  refine Ax_il3 dL_law_542 ?_
  refine Ax_ic1 dL_law_543 ?_
  refine Ax_iaddn dL_law_544 ?_
  refine Ax_sldn dL_law_545 (by omega) (by omega) ?_
  refine Ax_cViH dL_law_546 vL_77 kfX6 m (AMi (tX6_go (G := G) hM1 hO (scX G (i + 1)))) rfl rfl (by decide) (by simp [Value.category]) (by omega) (fun x546 h2 q2 => ?_)
  obtain ⟨rfl, hM2, hF2⟩ := q2
  refine Ax_cmpeq (tgt := 650) dL_law_549 (by decide) (fun c549 => ?_) (fun c549 => ?_)
  · exact hnext _ h2 _ _ _ _ _ _ _ _ _ _ (by omega) (hS1.f6 hF2) hM2 hO
  · exact absurd rfl c549
theorem lw_csteps (hS : vX5 h C rt rw dn sz wy cl' st bs cap) (hM : vM h C rt rw dn sz wy cl' bs) (hO : sOk C rt rw dn sz wy) (hb : pot cap ≤ b) (hi : i + 5 ≤ G.2.2.2.2.2.1) (hL : G.2.2.2.2.2.1 ≤ 2560) (hnext : ∀ b' h' C' rt' rw' dn' sz' wy' cl2 st' bs' cap', pot cap' ≤ b' → vX5 h' C' rt' rw' dn' sz' wy' cl2 st' bs' cap' → vM h' C' rt' rw' dn' sz' wy' cl2 bs' → sOk C' rt' rw' dn' sz' wy' → Ax G mL_law 40 b' 650 [.ref 1000000, .ref 0, .ref 30, .int (nI i)] [] h' (fun r _ => r = some (.int 1))) : Ax G mL_law 40 b 554 [.ref 1000000, .ref 0, .ref 30, .int (nI i)] [] h (fun r _ => r = some (.int 1)) := by
  have u := hS.1
  refine Ax_al1 dL_law_554 ?_
  refine Ax_al0 dL_law_555 ?_
  refine Ax_il3 dL_law_556 ?_
  refine Ax_ic1 dL_law_557 ?_
  refine Ax_iaddn dL_law_558 ?_
  refine Ax_sldn dL_law_559 (by omega) (by omega) ?_
  refine Ax_cViH dL_law_560 vL_78 kfX5 u (AMi (tX5_steps (G := G) hS hO (scX G (i + 1)))) rfl rfl (by decide) (by simp [Value.category]) (by omega) (fun x560 h1 q1 => ?_)
  obtain ⟨rfl, hS1, hF1⟩ := q1
  have hM1 := hM.on (h' := h1) (fun q hq => hF1.1 q (by omega))
  obtain ⟨⟨rn, kn, ln, pt, tk, m⟩, -⟩ := id hM1
  refine Ax_al2 dL_law_563 ?_
  refine Ax_al0 dL_law_564 ?_
  refine Ax_il3 dL_law_565 ?_
  refine Ax_ic1 dL_law_566 ?_
  refine Ax_iaddn dL_law_567 ?_
  refine Ax_sldn dL_law_568 (by omega) (by omega) ?_
  refine Ax_cViH dL_law_569 vL_81 kfX6 m (AMi (tX6_steps (G := G) hM1 hO (scX G (i + 1)))) rfl rfl (by decide) (by simp [Value.category]) (by omega) (fun x569 h2 q2 => ?_)
  obtain ⟨rfl, hM2, hF2⟩ := q2
  refine Ax_cmpeq (tgt := 650) dL_law_572 (by decide) (fun c572 => ?_) (fun c572 => ?_)
  · exact hnext _ h2 _ _ _ _ _ _ _ _ _ _ (by omega) (hS1.f6 hF2) hM2 hO
  · exact absurd rfl c572
theorem lw_cby (hS : vX5 h C rt rw dn sz wy cl' st bs cap) (hM : vM h C rt rw dn sz wy cl' bs) (hO : sOk C rt rw dn sz wy) (hb : pot cap ≤ b) (hi : i + 5 ≤ G.2.2.2.2.2.1) (hL : G.2.2.2.2.2.1 ≤ 2560) (hnext : ∀ b' h' C' rt' rw' dn' sz' wy' cl2 st' bs' cap', pot cap' ≤ b' → vX5 h' C' rt' rw' dn' sz' wy' cl2 st' bs' cap' → vM h' C' rt' rw' dn' sz' wy' cl2 bs' → sOk C' rt' rw' dn' sz' wy' → Ax G mL_law 40 b' 650 [.ref 1000000, .ref 0, .ref 30, .int (nI i)] [] h' (fun r _ => r = some (.int 1))) : Ax G mL_law 40 b 577 [.ref 1000000, .ref 0, .ref 30, .int (nI i)] [] h (fun r _ => r = some (.int 1)) := by
  have u := hS.1
  obtain ⟨⟨rn, kn, ln, pt, tk, m⟩, -⟩ := id hM
  refine Ax_al1 dL_law_577 ?_
  refine Ax_al0 dL_law_578 ?_
  refine Ax_il3 dL_law_579 ?_
  refine Ax_ic1 dL_law_580 ?_
  refine Ax_iaddn dL_law_581 ?_
  refine Ax_sldn dL_law_582 (by omega) (by omega) ?_
  refine Ax_cVi dL_law_583 vL_82 kfX5 u (tX5_by (G := G) hS hO (scX G (i + 1))) rfl rfl (by decide) (by simp [Value.category]) ?_
  refine Ax_al2 dL_law_586 ?_
  refine Ax_al0 dL_law_587 ?_
  refine Ax_il3 dL_law_588 ?_
  refine Ax_ic1 dL_law_589 ?_
  refine Ax_iaddn dL_law_590 ?_
  refine Ax_sldn dL_law_591 (by omega) (by omega) ?_
  refine Ax_cVi dL_law_592 vL_85 kfX6 m (tX6_by (G := G) hM hO.1 (scX G (i + 1))) rfl rfl (by decide) (by simp [Value.category]) ?_
  refine Ax_cmpeq (tgt := 650) dL_law_595 (by decide) (fun c595 => ?_) (fun c595 => ?_)
  · exact hnext b h _ _ _ _ _ _ _ _ _ _ hb hS hM hO
  · exact absurd rfl c595
theorem lw_cspent (hS : vX5 h C rt rw dn sz wy cl' st bs cap) (hM : vM h C rt rw dn sz wy cl' bs) (hO : sOk C rt rw dn sz wy) (hb : pot cap ≤ b) (hi : i + 5 ≤ G.2.2.2.2.2.1) (hL : G.2.2.2.2.2.1 ≤ 2560) (hnext : ∀ b' h' C' rt' rw' dn' sz' wy' cl2 st' bs' cap', pot cap' ≤ b' → vX5 h' C' rt' rw' dn' sz' wy' cl2 st' bs' cap' → vM h' C' rt' rw' dn' sz' wy' cl2 bs' → sOk C' rt' rw' dn' sz' wy' → Ax G mL_law 40 b' 650 [.ref 1000000, .ref 0, .ref 30, .int (nI i)] [] h' (fun r _ => r = some (.int 1))) : Ax G mL_law 40 b 600 [.ref 1000000, .ref 0, .ref 30, .int (nI i)] [] h (fun r _ => r = some (.int 1)) := by
  have u := hS.1
  refine Ax_al1 dL_law_600 ?_
  refine Ax_cVlH dL_law_601 vL_86 kfX5 u (AMl (tX5_spent (G := G) hS hO )) rfl rfl (by decide) (by simp [Value.category]) (by omega) (fun x601 h1 q1 => ?_)
  obtain ⟨rfl, hS1, hF1⟩ := q1
  have hM1 := hM.on (h' := h1) (fun q hq => hF1.1 q (by omega))
  obtain ⟨⟨rn, kn, ln, pt, tk, m⟩, -⟩ := id hM1
  refine Ax_al2 dL_law_604 ?_
  refine Ax_cVlH dL_law_605 vL_90 kfX6 m (AMl (tX6_spent (G := G) hM1 hO )) rfl rfl (by decide) (by simp [Value.category]) (by omega) (fun x605 h2 q2 => ?_)
  obtain ⟨rfl, hM2, hF2⟩ := q2
  refine Ax_lcmp dL_law_608 ?_
  refine Ax_ifeqC (tgt := 650) dL_law_609 (by decide) (fun c609 => ?_) (fun c609 => ?_)
  · exact hnext _ h2 _ _ _ _ _ _ _ _ _ _ (by omega) (hS1.f6 hF2) hM2 hO
  · exact absurd rfl c609
theorem lw_cprint (hS : vX5 h C rt rw dn sz wy cl' st bs cap) (hM : vM h C rt rw dn sz wy cl' bs) (hO : sOk C rt rw dn sz wy) (hb : pot cap ≤ b) (hi : i + 5 ≤ G.2.2.2.2.2.1) (hL : G.2.2.2.2.2.1 ≤ 2560) (hnext : ∀ b' h' C' rt' rw' dn' sz' wy' cl2 st' bs' cap', pot cap' ≤ b' → vX5 h' C' rt' rw' dn' sz' wy' cl2 st' bs' cap' → vM h' C' rt' rw' dn' sz' wy' cl2 bs' → sOk C' rt' rw' dn' sz' wy' → Ax G mL_law 40 b' 650 [.ref 1000000, .ref 0, .ref 30, .int (nI i)] [] h' (fun r _ => r = some (.int 1))) : Ax G mL_law 40 b 614 [.ref 1000000, .ref 0, .ref 30, .int (nI i)] [] h (fun r _ => r = some (.int 1)) := by
  have u := hS.1
  have hok := hS.2.2.1.ok
  have hpay : pay cap ([] : List Nat).length (txT C rt dn sz wy).length = pot cap - pot (capN cap 0 (txT C rt dn sz wy).length) := rfl
  have hpl := pot_le (capN_ok (n := 0) hok (txT C rt dn sz wy).length).2
  refine Ax_al1 dL_law_614 ?_
  refine Ax_cViH dL_law_615 vL_91 kfX5 u (AMi (tX5_print (G := G) hS hO )) rfl rfl (by decide) (by simp [Value.category]) (by omega) (fun x615 h1 q1 => ?_)
  obtain ⟨rfl, hS1, hF1⟩ := q1
  have hM1 := hM.on (h' := h1) (fun q hq => hF1.1 q hq.1 hq.2)
  obtain ⟨⟨rn, kn, ln, pt, tk, m⟩, -⟩ := id hM1
  refine Ax_al2 dL_law_618 ?_
  refine Ax_cViH dL_law_619 vL_94 kfX6 m (AMi (tX6_print (G := G) hM1 hO )) rfl rfl (by decide) (by simp [Value.category]) (by omega) (fun x619 h2 q2 => ?_)
  obtain ⟨rfl, hM2, hF2⟩ := q2
  refine Ax_cmpeq (tgt := 650) dL_law_622 (by decide) (fun c622 => ?_) (fun c622 => ?_)
  · exact hnext _ h2 _ _ _ _ _ _ _ _ _ _ (by omega) (hS1.f6 hF2) hM2 hO
  · exact absurd rfl c622
theorem lw_cout (hS : vX5 h C rt rw dn sz wy cl' st bs cap) (hM : vM h C rt rw dn sz wy cl' bs) (hO : sOk C rt rw dn sz wy) (hb : pot cap ≤ b) (hi : i + 5 ≤ G.2.2.2.2.2.1) (hL : G.2.2.2.2.2.1 ≤ 2560) (hnext : ∀ b' h' C' rt' rw' dn' sz' wy' cl2 st' bs' cap', pot cap' ≤ b' → vX5 h' C' rt' rw' dn' sz' wy' cl2 st' bs' cap' → vM h' C' rt' rw' dn' sz' wy' cl2 bs' → sOk C' rt' rw' dn' sz' wy' → Ax G mL_law 40 b' 650 [.ref 1000000, .ref 0, .ref 30, .int (nI i)] [] h' (fun r _ => r = some (.int 1))) : Ax G mL_law 40 b 627 [.ref 1000000, .ref 0, .ref 30, .int (nI i)] [] h (fun r _ => r = some (.int 1)) := by
  have u := hS.1
  obtain ⟨⟨rn, kn, ln, pt, tk, m⟩, -⟩ := id hM
  refine Ax_al1 dL_law_627 ?_
  refine Ax_al0 dL_law_628 ?_
  refine Ax_il3 dL_law_629 ?_
  refine Ax_ic1 dL_law_630 ?_
  refine Ax_iaddn dL_law_631 ?_
  refine Ax_sldn dL_law_632 (by omega) (by omega) ?_
  refine Ax_cVi dL_law_633 vL_95 kfX5 u (tX5_out (G := G) hS (scX G (i + 1))) rfl rfl (by decide) (by simp [Value.category]) ?_
  refine Ax_al2 dL_law_636 ?_
  refine Ax_al0 dL_law_637 ?_
  refine Ax_il3 dL_law_638 ?_
  refine Ax_ic1 dL_law_639 ?_
  refine Ax_iaddn dL_law_640 ?_
  refine Ax_sldn dL_law_641 (by omega) (by omega) ?_
  refine Ax_cVi dL_law_642 vL_98 kfX6 m (tX6_out (G := G) hM (scX G (i + 1))) rfl rfl (by decide) (by simp [Value.category]) ?_
  refine Ax_cmpeq (tgt := 650) dL_law_645 (by decide) (fun c645 => ?_) (fun c645 => ?_)
  · exact hnext b h _ _ _ _ _ _ _ _ _ _ hb hS hM hO
  · exact absurd rfl c645
end
