/-! a row of bytes copied; Arrays.copyOf -/
section
variable {G : xG} {M : xM} {d b pc : Nat} {L st : List Value} {h : xH} {Q : Option Value → xH → Prop}
theorem fJ7_150 : Cond.methodLink RJ7 150 arraycopyName ∈ lw_good := (g_in3 155 rfl rfl)
theorem fJ7_nat : Cond.native arraycopyName ∈ lw_good := (g_in3 157 rfl rfl)
theorem fJ7_sta : Cond.static arraycopyName ∈ lw_good := (g_in3 156 rfl rfl)
theorem fJ7_ini : Cond.initialized "java/lang/System" ∈ lw_good := (g_in1 11 rfl rfl)
theorem Ax_copyB {idx a0 a n0 n1 k : Nat} {f g : Nat → Int32} (hw : Cond.methodLink M.1 idx arraycopyName ∈ lw_good) (hd : decode M.2.2.1 pc = .ok (.invokestatic idx, 3)) (hc0 : h.1 a0 = cI 1 n0 f) (hc1 : h.1 a = cI 1 n1 g) (h4 : k ≤ n0) (h5 : k ≤ n1) (hk : k < 2 ^ 31) (hfit : ∀ i, i < k → fits .byte (.int (f i)) = true) (hd1 : 1 ≤ d) (hcat : (st.map fun v => v.category).sum ≤ 8)
    (kk : Ax G M d b (pc + 3) L st (xup h a (cI 1 n1 (va_cpy f g 0 0 k))) Q) : Ax G M d b pc L (.int (nI k) :: .int (nI 0) :: .ref a :: .int (nI 0) :: .ref a0 :: st) h Q := by
  intro p e R s m args below meth c H locs cells slots ls Z C hR hL hlo hc' hs hend
  have ha := x_in_I hR hc1
  have ha0 := x_in_I hR hc0
  have hat := hR.2.2.1 a ha
  rw [hc1] at hat
  have hat0 := hR.2.2.1 a0 ha0
  rw [hc0] at hat0
  have hts := C.2.2.2.2.2.2.2.1
  have hRd := C.2.2.2.2.2.2.2.2.2
  have hK := C.2.2.2.2.2.2.2.2.1
  show W p G.1 e R s m args below meth c H locs cells slots Z (F0 m pc ls (.int (nI k) :: .int (nI 0) :: .ref (x_a G a) :: .int (nI 0) :: .ref (x_a G a0) :: st.map (x_v G)))
  rw [x_a_lt hR ha, x_a_lt hR ha0]
  have e0 : (nI 0).toNatClampNeg = 0 := nI_clamp (by decide)
  have ek : (nI k).toNatClampNeg = k := nI_clamp hk
  have e0i : (nI 0).toInt = 0 := by decide
  have eki : (nI k).toInt = (k : Int) := nI_toInt hk
  intro T hT X
  have hx0 : H[x_B G + a0]? = some (vp_cell (G.2.2.2.1 1) (n0, .inl f)) := hat0
  have hx1 : H[x_B G + a]? = some (vp_cell (G.2.2.2.1 1) (n1, .inl g)) := hat
  obtain ⟨-, k0, hk0, cm0, hkk0⟩ := x_arrI (t := 1) hK n0 f (by decide)
  obtain ⟨-, k1, hk1, cm1, hkk1⟩ := x_arrI (t := 1) hK n1 g (by decide)
  obtain ⟨vm', X', step⟩ := X.arraycopy C.1 C.2.2.2.2.2.2.1 (hts _ hw) (hts _ fJ7_nat) (hts _ fJ7_sta) (hts _ fJ7_ini) (src := x_B G + a0) (dst := x_B G + a) (cs := vp_cell (G.2.2.2.1 1) (n0, .inl f)) (cd := vp_cell (G.2.2.2.1 1) (n1, .inl g)) (srcPos := nI 0) (destPos := nI 0) (n := nI k) (by rw [hT]; exact hx0) (by rw [hT]; exact hx1)
    (fun _ h => by cases h) (fun _ h => by cases h) (fun h => by cases h) (fun h => by cases h) hk0 hk1 hkk0 hkk1 (by decide) (by decide) (by decide) (nI_pos hk)
    (by rw [e0i, eki]; show ¬ _ > ((arrV (G.2.2.2.1 1) n0 (fun j => .int (f j))).slots.size : Int); rw [arrV_size]; omega)
    (by rw [e0i, eki]; show ¬ _ > ((arrV (G.2.2.2.1 1) n1 (fun j => .int (g j))).slots.size : Int); rw [arrV_size]; omega)
    (fun vm₁ _ i hi => by
      rw [ek] at hi
      have e : (vp_cell (G.2.2.2.1 1) (n0, .inl f)).slots.getD ((nI 0).toNatClampNeg + i) .null = .int (f i) := by
        show (arrV (G.2.2.2.1 1) n0 (fun j => .int (f j))).slots.getD _ _ = _
        rw [e0, Array.getD_eq_getD_getElem?, arrV_read _ _ (by omega), Nat.zero_add]
        rfl
      refine ⟨?_, ?_⟩
      · rw [e]
        exact hfit i hi
      · rw [e]
        exact trivial)
    (g := F0 m pc ls (.int (nI k) :: .int (nI 0) :: .ref (x_B G + a) :: .int (nI 0) :: .ref (x_B G + a0) :: st.map (x_v G))) rfl (by rw [C.2.2.1]; exact hL.1) (rest := st.map (x_v G)) rfl (by rw [C.2.1]; exact hd) (by omega) (by
      rw [x_catsum]
      show 2 * 0 + _ + (nativeFrameWords "java/lang/System" "arraycopy" 5 + 11) ≤ _
      have : nativeFrameWords "java/lang/System" "arraycopy" 5 = 7 := by decide
      omega)
  have e1 : copied (vp_cell (G.2.2.2.1 1) (n0, .inl f)) (vp_cell (G.2.2.2.1 1) (n1, .inl g)) (nI 0) (nI 0) (nI k) = vp_cell (G.2.2.2.1 1) (n1, .inl (va_cpy f g 0 0 k)) := by
    have : copied (vp_cell (G.2.2.2.1 1) (n0, .inl f)) (vp_cell (G.2.2.2.1 1) (n1, .inl g)) (nI 0) (nI 0) (nI k) = vp_cell (G.2.2.2.1 1) (n1, .inl (va_cpy f g (nI 0).toNatClampNeg (nI 0).toNatClampNeg (nI k).toNatClampNeg)) := va_copied (fun z => .int z) (G.2.2.2.1 1) (G.2.2.2.1 1) f g (by rw [e0, ek]; omega)
    rw [e0, ek] at this
    exact this
  rw [e1] at X' step
  have hl : x_B G + a < H.size := (Array.getElem?_eq_some_iff.mp hx1).1
  have hheap : ((T.setVm vm').setCell (x_B G + a) (vp_cell (G.2.2.2.1 1) (n1, .inl (va_cpy f g 0 0 k)))).heap = H.setIfInBounds (x_B G + a) (vp_cell (G.2.2.2.1 1) (n1, .inl (va_cpy f g 0 0 k))) := by rw [← hT]; rfl
  have oq : ∀ q : Nat, q ≠ x_B G + a → (H.setIfInBounds (x_B G + a) (vp_cell (G.2.2.2.1 1) (n1, .inl (va_cpy f g 0 0 k))))[q]? = H[q]? := fun q hq => by simp [Array.getElem?_setIfInBounds, Ne.symm hq]
  have hW : ∀ locs1 : List Loc, (∀ q ∈ locs1, x_B G ≤ q.base) → W p G.1 e R s m args below meth c (H.setIfInBounds (x_B G + a) (vp_cell (G.2.2.2.1 1) (n1, .inl (va_cpy f g 0 0 k)))) locs1 cells slots Z (F0 m (pc + 3) ls (st.map (x_v G))) := fun locs1 hl1 =>
    kk p e R s m args below meth c (H.setIfInBounds (x_B G + a) (vp_cell (G.2.2.2.1 1) (n1, .inl (va_cpy f g 0 0 k)))) locs1 cells slots ls Z C (hR.set (c := cI 1 n1 (va_cpy f g 0 0 k)) ha (by show (H.setIfInBounds (x_B G + a) _)[x_B G + a]? = some (vp_cell _ _); simp [Array.getElem?_setIfInBounds, hl]) (by simp) oq) hL hl1 hc' hs hend
  obtain ⟨t, a1, b1⟩ := hW _ (fun q hq => by
      rcases List.mem_append.mp hq with h | h
      · exact hlo q h
      · obtain ⟨z, -, hz⟩ := List.mem_map.mp h
        rw [← hz]
        exact Nat.le_add_right _ _) _ hheap X'
  exact ⟨t, step t a1, b1⟩
theorem xup_new {h : xH} {c c' : xC} : xup (xnew h c) h.2 c' = xnew h c' := by
  unfold xup xnew
  congr 1
  funext i
  by_cases hi : i = h.2
  · simp [hi]
  · simp [hi]
theorem tJ7_copyOf {a n : Nat} {f : Nat → Int32} (hc : h.1 a = cI 1 n f) (hn : 0 < n) (hn2 : n ≤ 50000) (hh : h.2 < 1000000) (ha : a < h.2) (hfit : ∀ i, i < n → fits .byte (.int (f i)) = true) : AM G mJ7_copyOf_9075b 1 (2 * n + 1) [.ref a, .int (nI (n * 2))] h (fun r h' => r = some (.ref h.2) ∧ h' = xnew h (cI 1 (n * 2) (va_cpy f (fun _ => 0) 0 0 n))) := by
  refine AM.of rfl rfl (Nat.le_of_ble_eq_true rfl) rfl ?_
  refine Ax_il1 dJ7_copyOf_9075b_0 ?_
  refine Ax_al0 dJ7_copyOf_9075b_1 ?_
  refine Ax_alen (by decide) dJ7_copyOf_9075b_2 hc ?_
  refine Ax_cmpnen (tgt := 14) dJ7_copyOf_9075b_3 (by decide) (by omega) (by omega) (fun _ => ?_) (fun q => by omega)
  refine Ax_il1 dJ7_copyOf_9075b_14 ?_
  refine Ax_newI (t := 1) (at' := .byte) rfl (by decide) ac_byte dJ7_copyOf_9075b_15 (by omega) hh (by omega) ?_
  refine Ax_as2 dJ7_copyOf_9075b_17 (Nat.le_of_ble_eq_true rfl) (by rfl) ?_
  refine Ax_al0 dJ7_copyOf_9075b_18 ?_
  refine Ax_ic0 dJ7_copyOf_9075b_19 ?_
  refine Ax_al2 dJ7_copyOf_9075b_20 ?_
  refine Ax_ic0 dJ7_copyOf_9075b_21 ?_
  refine Ax_al0 dJ7_copyOf_9075b_22 ?_
  have hc2 : (xnew h (cI 1 (n * 2) (fun _ => 0))).1 a = cI 1 n f := by
    unfold xnew
    simp only [if_neg (show ¬ a = h.2 by omega)]
    exact hc
  have hc3 : (xnew h (cI 1 (n * 2) (fun _ => 0))).1 h.2 = cI 1 (n * 2) (fun _ => 0) := by
    unfold xnew
    simp only [if_true]
  refine Ax_alen (by decide) dJ7_copyOf_9075b_23 hc2 ?_
  refine Ax_il1 dJ7_copyOf_9075b_24 ?_
  refine Ax_mmin dJ7_copyOf_9075b_25 sJ7_304 (by decide) (by simp [Value.category]) ?_
  refine Ax_top (show (if nI (n * 2) < nI n then nI (n * 2) else nI n) = nI n by rw [if_neg (by rw [nI_ltI (by omega) (by omega)]; omega)]) ?_
  refine Ax_copyB fJ7_150 dJ7_copyOf_9075b_28 hc2 hc3 (Nat.le_refl _) (by omega) (by omega) hfit (by decide) (by simp) ?_
  rw [xup_new]
  refine Ax_al2 dJ7_copyOf_9075b_31 ?_
  exact Ax_aret dJ7_copyOf_9075b_32 rfl (Or.inr ⟨_, rfl⟩) ⟨rfl, rfl⟩
end
