/-! the law: its script, the two objects side by side -/
def scX (G : xG) (k : Nat) : Int32 := G.2.2.2.2.2.2 k
abbrev mL_law : xM := (RL, x, code, 4, (some .boolean))
section
variable {G : xG} {M : xM} {d b pc : Nat} {L st : List Value} {h : xH} {Q : Option Value → xH → Prop}
theorem x_vS : x_v G (.ref 1000000) = .ref (G.2.2.2.2.1 0) := by
  show Value.ref (x_a G 1000000) = _
  unfold x_a
  rw [if_neg (by omega), Nat.sub_self]
theorem Ax_slen (hd : decode M.2.2.1 pc = .ok (.arraylength, 1)) (kk : Ax G M d b (pc + 1) L (.int (nI G.2.2.2.2.2.1) :: st) h Q) : Ax G M d b pc L (.ref 1000000 :: st) h Q := by
  refine Ax_go (fun p e R s m args below meth c H locs cells slots ls Z C hR hL K => ?_) kk
  rw [List.map_cons, x_vS]
  obtain ⟨cell, h1, h2, h3, h4, h5⟩ := C.2.2.2.2.2.2.2.2.1.2.1
  have hlt := C.2.2.2.2.2.2.2.2.1.2.2.1
  exact W.alen (n := Int32.ofNat G.2.2.2.2.2.1) C.1 C.2.1 (by rw [hR.2.2.2.2 _ hlt]; exact h1) h2 (by rw [h4] <;> rfl) rfl rfl hd K
theorem Ax_sldn {j : Nat} (hd : decode M.2.2.1 pc = .ok (.iaload, 1)) (hj : j < G.2.2.2.2.2.1) (hn : G.2.2.2.2.2.1 < 2 ^ 31) (kk : Ax G M d b (pc + 1) L (.int (scX G j) :: st) h Q) : Ax G M d b pc L (.int (nI j) :: .ref 1000000 :: st) h Q := by
  refine Ax_go (fun p e R s m args below meth c H locs cells slots ls Z C hR hL K => ?_) kk
  rw [List.map_cons, List.map_cons, x_vS]
  obtain ⟨cell, h1, h2, h3, h4, h5⟩ := C.2.2.2.2.2.2.2.2.1.2.1
  have hlt := C.2.2.2.2.2.2.2.2.1.2.2.1
  have e : (nI j).toNatClampNeg = j := nI_clamp (by omega)
  have hin' : ¬ (nI j < 0 ∨ cell.slots.size ≤ (nI j).toNatClampNeg) := by
    rintro (q | q)
    · exact nI_pos (by omega) q
    · rw [e] at q; omega
  exact W.iald (v := .int (scX G j)) C.1 C.2.1 (by rw [hR.2.2.2.2 _ hlt]; exact h1) h2 h3 hin' (by rw [e]; exact h5 _ hj) rfl rfl hd K
theorem AMi {M : xM} {d b : Nat} {as : List Value} {h : xH} {x : Int32} {P : xH → Prop} (k : AM G M d b as h (fun r h' => r = some (.int x) ∧ P h')) : AM G M d b as h (fun r h' => ∃ z, r = some (.int z) ∧ (z = x ∧ P h')) :=
  AM_post (fun _ _ q => ⟨x, q.1, rfl, q.2⟩) k
theorem AMl {M : xM} {d b : Nat} {as : List Value} {h : xH} {x : Int64} {P : xH → Prop} (k : AM G M d b as h (fun r h' => r = some (.long x) ∧ P h')) : AM G M d b as h (fun r h' => ∃ z, r = some (.long z) ∧ (z = x ∧ P h')) :=
  AM_post (fun _ _ q => ⟨x, q.1, rfl, q.2⟩) k
theorem vX5.f6 {h h' : xH} {C : Cs} {rt rw dn sz wy stale cap : Nat} {cl' : Int32} {bs : List Nat} (hS : vX5 h C rt rw dn sz wy cl' stale bs cap) (hF : xFr 30 29 h h') : vX5 h' C rt rw dn sz wy cl' stale bs cap := by
  obtain ⟨h0, ⟨lo, hi, tg, wt, h1, h2⟩, h3, h4⟩ := hS
  exact ⟨(hF.1 0 (by omega)).trans h0, ⟨lo, hi, tg, wt, h1.fr hF (by omega), h2⟩, h3.fr hF (by omega), h4.imp (fun q => ⟨q.1, q.2.fr hF (by omega)⟩) (fun q => ⟨q.1, q.2.fr hF (by omega)⟩)⟩
end
