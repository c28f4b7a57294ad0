/-! printing a line, printing the code -/
def wi (k : Nat) : Nat := [0, 1, 2, 5, 3, 4].getD k 5
theorem wi_lt : ∀ k, k < 6 → wi k < 8 := by decide
section
variable {G : xG} {M : xM} {d b pc : Nat} {Lc st : List Value} {h : xH} {R : List Run} {dens size rest : Nat} {L : List Ln} {tg dn : Int32}
theorem vC.ft {h h' : xH} (hV : vC h R dens size rest L tg dn) (hF : xFt h h') : vC h' R dens size rest L tg dn := by
  have h2 := hV.fr (h' := (h'.1, h.2)) (o' := 28) (w := 2000000) ⟨fun q hq => hF.1 q (by omega), rfl⟩ (Or.inl (Nat.le_refl _))
  obtain ⟨kn, fi, se, rw', st, nu, g1, g2⟩ := h2
  exact ⟨kn, fi, se, rw', st, nu, g1, g2⟩
theorem pay_app {cap n : Nat} (h : capOk cap) (ks ms : List Nat) : pay cap n ks.length ≤ pay cap n (ks ++ ms).length := by
  rw [List.length_append, pay_add h]
  exact Nat.le_add_right _ _
theorem Ax_app {ks ms bs1 : List Nat} {cap1 : Nat} {h1 h2 : xH} (hA : Ap h1 bs1 cap1 ks h2) (hok : capOk cap1) (k : Ax G M d (pay (capN cap1 bs1.length ks.length) (bs1 ++ ks).length ms.length) pc Lc st h2 (fun q h' => q = none ∧ Ap h2 (bs1 ++ ks) (capN cap1 bs1.length ks.length) ms h')) : Ax G M d (pay cap1 bs1.length (ks ++ ms).length - pay cap1 bs1.length ks.length) pc Lc st h2 (fun q h' => q = none ∧ Ap h1 bs1 cap1 (ks ++ ms) h') := by
  rw [List.length_append (as := ks), pay_add hok, Nat.add_sub_cancel_left, ← List.length_append (as := bs1)]
  exact Ax_post (fun q h' w => ⟨w.1, hA.tr w.2⟩) k
theorem tL_kind (hV : vC h R dens size rest L tg dn) (hn : L.length ≤ 400) {i : Nat} (hi : i < L.length) : AM G mX1_kind 1 0 [.ref 21, .int (nI i)] h (fun r h' => r = some (.int (nI (gL L i).1)) ∧ h' = h) := by
  obtain ⟨kn, fi, se, rw', st, nu, hS, hL⟩ := hV
  rw [← (hL i hi).1]
  exact tX1_kind hS hn hi
theorem tL_first (hV : vC h R dens size rest L tg dn) (hn : L.length ≤ 400) {i : Nat} (hi : i < L.length) : AM G mX1_first 1 0 [.ref 21, .int (nI i)] h (fun r h' => r = some (.int (gL L i).2.1) ∧ h' = h) := by
  obtain ⟨kn, fi, se, rw', st, nu, hS, hL⟩ := hV
  rw [← (hL i hi).2.1]
  exact tX1_first hS hn hi
theorem tL_second (hV : vC h R dens size rest L tg dn) (hn : L.length ≤ 400) {i : Nat} (hi : i < L.length) : AM G mX1_second 1 0 [.ref 21, .int (nI i)] h (fun r h' => r = some (.int (gL L i).2.2.1) ∧ h' = h) := by
  obtain ⟨kn, fi, se, rw', st, nu, hS, hL⟩ := hV
  rw [← (hL i hi).2.2.1]
  exact tX1_second hS hn hi
theorem tL_row (hV : vC h R dens size rest L tg dn) (hn : L.length ≤ 400) {i : Nat} (hi : i < L.length) : AM G mX1_row 1 0 [.ref 21, .int (nI i)] h (fun r h' => r = some (.long (lN (gL L i).2.2.2.1)) ∧ h' = h) := by
  obtain ⟨kn, fi, se, rw', st, nu, hS, hL⟩ := hV
  rw [← (hL i hi).2.2.2.1]
  exact tX1_row hS hn hi
theorem tX1_wordOf {k : Nat} (hk : k < 6) : AM G mX1_wordOf 0 0 [.int (nI k)] h (fun r h' => r = some (.ref (1000001 + wi k)) ∧ h' = h) := by
  rcases (show k = 0 ∨ k = 1 ∨ k = 2 ∨ k = 3 ∨ k = 4 ∨ k = 5 by omega) with rfl | rfl | rfl | rfl | rfl | rfl
  · refine AM.of rfl rfl (Nat.le_of_ble_eq_true rfl) rfl ?_
    refine Ax_il0 dX1_wordOf_0 ?_
    refine Ax_tabI (tgt := 40) dX1_wordOf_1 (by decide) (by decide) rfl (by decide) ?_
    refine Ax_ldcT (k := 0) rfl (by decide) rfl dX1_wordOf_40 ?_
    exact Ax_aret dX1_wordOf_42 rfl (Or.inl ⟨_, rfl⟩) ⟨rfl, rfl⟩
  · refine AM.of rfl rfl (Nat.le_of_ble_eq_true rfl) rfl ?_
    refine Ax_il0 dX1_wordOf_0 ?_
    refine Ax_tabI (tgt := 43) dX1_wordOf_1 (by decide) (by decide) rfl (by decide) ?_
    refine Ax_ldcT (k := 1) rfl (by decide) rfl dX1_wordOf_43 ?_
    exact Ax_aret dX1_wordOf_45 rfl (Or.inl ⟨_, rfl⟩) ⟨rfl, rfl⟩
  · refine AM.of rfl rfl (Nat.le_of_ble_eq_true rfl) rfl ?_
    refine Ax_il0 dX1_wordOf_0 ?_
    refine Ax_tabI (tgt := 46) dX1_wordOf_1 (by decide) (by decide) rfl (by decide) ?_
    refine Ax_ldcT (k := 2) rfl (by decide) rfl dX1_wordOf_46 ?_
    exact Ax_aret dX1_wordOf_48 rfl (Or.inl ⟨_, rfl⟩) ⟨rfl, rfl⟩
  · refine AM.of rfl rfl (Nat.le_of_ble_eq_true rfl) rfl ?_
    refine Ax_il0 dX1_wordOf_0 ?_
    refine Ax_tabI (tgt := 55) dX1_wordOf_1 (by decide) (by decide) rfl (by decide) ?_
    refine Ax_ldcT (k := 5) rfl (by decide) rfl dX1_wordOf_55 ?_
    exact Ax_aret dX1_wordOf_57 rfl (Or.inl ⟨_, rfl⟩) ⟨rfl, rfl⟩
  · refine AM.of rfl rfl (Nat.le_of_ble_eq_true rfl) rfl ?_
    refine Ax_il0 dX1_wordOf_0 ?_
    refine Ax_tabI (tgt := 49) dX1_wordOf_1 (by decide) (by decide) rfl (by decide) ?_
    refine Ax_ldcT (k := 3) rfl (by decide) rfl dX1_wordOf_49 ?_
    exact Ax_aret dX1_wordOf_51 rfl (Or.inl ⟨_, rfl⟩) ⟨rfl, rfl⟩
  · refine AM.of rfl rfl (Nat.le_of_ble_eq_true rfl) rfl ?_
    refine Ax_il0 dX1_wordOf_0 ?_
    refine Ax_tabI (tgt := 52) dX1_wordOf_1 (by decide) (by decide) rfl (by decide) ?_
    refine Ax_ldcT (k := 4) rfl (by decide) rfl dX1_wordOf_52 ?_
    exact Ax_aret dX1_wordOf_54 rfl (Or.inl ⟨_, rfl⟩) ⟨rfl, rfl⟩
end
