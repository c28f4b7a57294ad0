/-! rows over old cells: texts, statics; a copied row of bytes -/
section
variable {G : xG} {M : xM} {d b pc : Nat} {L st : List Value} {h : xH} {Q : Option Value → xH → Prop}
theorem x_old {H : Heap} (hR : x_R G h H) : ∀ a : Nat, a < G.2.1.size → ¬ (fun q => x_B G ≤ q) a → H[a]? = G.2.1[a]? := fun a _ h2 => hR.2.2.2.2 a (Nat.lt_of_not_le h2)
theorem Ax_ldcT {idx k : Nat} (hM : M.1 = RX1) (hk : k < 8) (hi : xsIx.getD k 0 = idx) (hd : decode M.2.2.1 pc = .ok (.ldc idx, 2)) (kk : Ax G M d b (pc + 2) L (.ref (1000001 + k) :: st) h Q) : Ax G M d b pc L st h Q := by
  refine Ax_go (fun p e R s m args below meth c H locs cells slots ls Z C hR hL K => ?_) kk
  have hK := C.2.2.2.2.2.2.2.2.1.2.2.2.2.1 k hk
  rw [hi] at hK
  have ho := C.2.2.2.2.2.2.1
  rw [hM] at ho
  have e : x_v G (.ref (1000001 + k)) = .ref (G.2.2.2.2.1 (k + 1)) := by
    show Value.ref (x_a G (1000001 + k)) = _
    unfold x_a
    rw [if_neg (by omega), show 1000001 + k - 1000000 = k + 1 by omega]
  rw [List.map_cons, e] at K
  exact va_ldcS C.1 C.2.1 ho hK hd K
theorem x_vT (k : Nat) : x_v G (.ref (1000001 + k)) = .ref (G.2.2.2.2.1 (k + 1)) := by
  show Value.ref (x_a G (1000001 + k)) = _
  unfold x_a
  rw [if_neg (by omega), show 1000001 + k - 1000000 = k + 1 by omega]
theorem x_vV (k : Nat) : x_v G (.ref (1000101 + k)) = .ref (G.2.2.2.2.1 (k + 101)) := by
  show Value.ref (x_a G (1000101 + k)) = _
  unfold x_a
  rw [if_neg (by omega), show 1000101 + k - 1000000 = k + 101 by omega]
theorem Ax_txV {k : Nat} (hk : k < 8) (hl : Cond.fieldLink M.1 9 "java/lang/String" "value" "[B" ∈ lw_good) (hd : decode M.2.2.1 pc = .ok (.getfield 9, 3)) (kk : Ax G M d b (pc + 3) L (.ref (1000101 + k) :: st) h Q) : Ax G M d b pc L (.ref (1000001 + k) :: st) h Q := by
  refine Ax_go (fun p e R s m args below meth c H locs cells slots ls Z C hR hL K => ?_) kk
  rw [List.map_cons, x_vV] at K
  rw [List.map_cons, x_vT]
  obtain ⟨cf, kc, i, f, cell, h1, h2, h3, h4, h5, h6⟩ := ((C.2.2.2.2.2.2.2.2.1.2.2.2.1.1 k hk).2.2.1).kept (x_old hR)
  exact W.getf C.1 C.2.1 C.2.2.2.2.2.2.1 (C.2.2.2.2.2.2.2.1 _ hl) h1 h2 h3 h4 h5 rfl rfl hd K
theorem Ax_txC {k : Nat} (hk : k < 8) (hl : Cond.fieldLink M.1 15 "java/lang/String" "coder" "B" ∈ lw_good) (hd : decode M.2.2.1 pc = .ok (.getfield 15, 3)) (kk : Ax G M d b (pc + 3) L (.int (nI 0) :: st) h Q) : Ax G M d b pc L (.ref (1000001 + k) :: st) h Q := by
  refine Ax_go (fun p e R s m args below meth c H locs cells slots ls Z C hR hL K => ?_) kk
  rw [List.map_cons, x_vT]
  obtain ⟨cf, kc, i, f, cell, h1, h2, h3, h4, h5, h6⟩ := ((C.2.2.2.2.2.2.2.2.1.2.2.2.1.1 k hk).2.1).kept (x_old hR)
  exact W.getf C.1 C.2.1 C.2.2.2.2.2.2.1 (C.2.2.2.2.2.2.2.1 _ hl) h1 h2 h3 h4 h5 rfl rfl hd K
theorem Ax_txL {k : Nat} (hk : k < 8) (hd : decode M.2.2.1 pc = .ok (.arraylength, 1)) (kk : Ax G M d b (pc + 1) L (.int (nI (xsLen.getD k 0)) :: st) h Q) : Ax G M d b pc L (.ref (1000101 + k) :: st) h Q := by
  refine Ax_go (fun p e R s m args below meth c H locs cells slots ls Z C hR hL K => ?_) kk
  rw [List.map_cons, x_vV]
  obtain ⟨cell, h1, h2, h3, h4, h5, h6, h7⟩ := ((C.2.2.2.2.2.2.2.2.1.2.2.2.1.1 k hk).2.2.2).kept (x_old hR)
  exact W.alen (n := Int32.ofNat (xsLen.getD k 0)) C.1 C.2.1 h1 h2 h5 rfl rfl hd K
theorem Ax_txB {k j : Nat} (hk : k < 8) (hj : j < xsLen.getD k 0) (hj2 : j < 2 ^ 31) (hd : decode M.2.2.1 pc = .ok (.baload, 1)) (kk : Ax G M d b (pc + 1) L (.int ((xsByt.getD k []).getD j 0) :: st) h Q) : Ax G M d b pc L (.int (nI j) :: .ref (1000101 + k) :: st) h Q := by
  refine Ax_go (fun p e R s m args below meth c H locs cells slots ls Z C hR hL K => ?_) kk
  rw [List.map_cons, List.map_cons, x_vV]
  obtain ⟨cell, h1, h2, h3, h4, h5, h6, h7⟩ := ((C.2.2.2.2.2.2.2.2.1.2.2.2.1.1 k hk).2.2.2).kept (x_old hR)
  have e : (nI j).toNatClampNeg = j := nI_clamp hj2
  have hin' : ¬ (nI j < 0 ∨ cell.slots.size ≤ (nI j).toNatClampNeg) := by
    rintro (q | q)
    · exact nI_pos hj2 q
    · rw [e] at q; omega
  exact W.bald (v := .int ((xsByt.getD k []).getD j 0)) C.1 C.2.1 h1 h2 h3 hin' (by rw [e]; exact h6 _ hj) rfl rfl hd K
theorem Ax_txS (hl : Cond.fieldLink M.1 38 "java/lang/String" "COMPACT_STRINGS" "Z" ∈ lw_good) (hd : decode M.2.2.1 pc = .ok (.getstatic 38, 3)) (kk : Ax G M d b (pc + 3) L (.int (nI 1) :: st) h Q) : Ax G M d b pc L st h Q := by
  refine Ax_go (fun p e R s m args below meth c H locs cells slots ls Z C hR hL K => ?_) kk
  obtain ⟨cf, kf, fi, f, a, cell, h1, h2, h3, h4, h5, h6, h7, h8⟩ := (C.2.2.2.2.2.2.2.2.1.2.2.2.2.2.1).kept (x_old hR)
  exact W.gets C.1 C.2.1 C.2.2.2.2.2.2.1 (C.2.2.2.2.2.2.2.1 _ hl) h1 h2 h3 h4 h5 (fun e => by rw [e] at h6; cases h6) h7 rfl hd K
theorem Ax_txF (hl : Cond.fieldLink M.1 1053 "jdk/internal/util/Preconditions" "SIOOBE_FORMATTER" "Ljava/util/function/BiFunction;" ∈ lw_good) (hd : decode M.2.2.1 pc = .ok (.getstatic 1053, 3)) (kk : ∀ v, v = .null ∨ v = .ref 1000050 → Ax G M d b (pc + 3) L (v :: st) h Q) : Ax G M d b pc L st h Q := by
  intro p e R s m args below meth c H locs cells slots ls Z C hR hL hl' hc hs hend
  rcases C.2.2.2.2.2.2.2.2.1.2.2.2.2.2.2.1 with w | w
  · obtain ⟨cf, kf, fi, f, a, cell, h1, h2, h3, h4, h5, h6, h7, h8⟩ := w.kept (x_old hR)
    exact W.gets C.1 C.2.1 C.2.2.2.2.2.2.1 (C.2.2.2.2.2.2.2.1 _ hl) h1 h2 h3 h4 h5 (fun e => by rw [e] at h6; cases h6) h7 rfl hd (kk .null (Or.inl rfl) p e R s m args below meth c H locs cells slots ls Z C hR hL hl' hc hs hend)
  · obtain ⟨cf, kf, fi, f, a, cell, h1, h2, h3, h4, h5, h6, h7, h8⟩ := w.kept (x_old hR)
    exact W.gets C.1 C.2.1 C.2.2.2.2.2.2.1 (C.2.2.2.2.2.2.2.1 _ hl) h1 h2 h3 h4 h5 (fun e => by rw [e] at h6; cases h6) h7 rfl hd (kk (.ref 1000050) (Or.inr rfl) p e R s m args below meth c H locs cells slots ls Z C hR hL hl' hc hs hend)
theorem Ax_callT {idx n k d' b' : Nat} {M' : xM} {as stk : List Value} {Q' : Option Value → xH → Prop} (hk : k < 8) (hcl : M'.2.1.cls = "java/lang/String") (hd : decode M.2.2.1 pc = .ok (.invokevirtual idx, 3)) (hw : xCV M.1 idx M' n) (hM : AM G M' d' b' (.ref (1000001 + k) :: as) h Q') (hn : as.length = n) (hstk : stk = as.reverse ++ .ref (1000001 + k) :: st) (hdd : d' + 1 ≤ d) (hbb : b' ≤ b) (hcat : (st.map fun v => v.category).sum ≤ 8)
    (kk : ∀ r h', Q' r h' → Ax G M d (b - b') (pc + 3) L (r.toList ++ st) h' Q) : Ax G M d b pc L stk h Q := by
  intro p e R s m args below meth c H locs cells slots ls Z C' hR hL hlo hc' hs hend
  have hts := C'.2.2.2.2.2.2.2.1
  have hK := C'.2.2.2.2.2.2.2.2.1
  have hRd := C'.2.2.2.2.2.2.2.2.2
  have cw : CallW R s args M.1 M'.2.1.cls idx M'.2.1 M'.2.2.1 M'.2.2.2.1 M'.2.2.2.2 (x_ws M') (x_rm d' b') b' b' n :=
    cwV n hts (lw_good_sub (fun w hx => by
      unfold wsV at hx
      simp only [List.cons_append, List.nil_append, List.mem_cons] at hx
      rcases hx with rfl | rfl | rfl | rfl | rfl | hx
      · exact hw.2.1
      · exact hw.2.2.1
      · exact hw.2.2.2
      · exact hw.1.2.2.2.2.1
      · exact hw.1.1
      · exact hx)) rfl rfl rfl ⟨rfl, hw.1.2.1, hw.1.2.2.1, hw.1.2.2.2.1⟩ ⟨by show d' + 1 ≤ _; have := hRd.1; omega, by show 8 + (M'.2.2.2.1 + 11) + 64 * d' ≤ _; have := hRd.2; have := hw.1.2.2.2.2.2; omega⟩
  obtain ⟨cell, g1, g2, g3, -⟩ := ((hK.2.2.2.1.1 k hk).1).kept (x_old hR)
  subst hstk
  refine x_after C' hL hlo hc' hs hbb hend (va_runV (As := as.map (x_v G)) (b := G.2.2.2.2.1 (k + 1)) ⟨C'.1, C'.2.1, C'.2.2.1, C'.2.2.2.2.2.2.1, hts⟩ hM cw ⟨x_Pc.blind, ⟨cell, g1, g2, by rw [hcl]; exact g3⟩, fun U hU hW => ⟨?_, by rw [hU]; exact hR, x_K.warm hW hK⟩⟩ rfl (by rw [List.length_map]; exact hn) hL.1 ?_ ?_ hd ⟨by omega, by omega⟩) kk
  · rw [List.map_cons, x_vT]
  · show (as.reverse ++ Value.ref (1000001 + k) :: st).map (x_v G) = _
    rw [List.map_append, List.map_cons, List.map_reverse, x_vT]
  · show 2 * 0 + _ ≤ 8
    rw [x_catsum]
    omega
end
