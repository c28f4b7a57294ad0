/-! ChoiceCode: what becomes of the cases, asked -/
theorem x_tabN (n : Nat) (x : Int32) : (x.toInt < 0 ∨ (n : Int) ≤ x.toInt) ∨ ∃ k, k < n ∧ x = nI k := by
  by_cases h : x.toInt < 0 ∨ (n : Int) ≤ x.toInt
  · exact Or.inl h
  · have := I_hi x
    exact Or.inr ⟨x.toInt.toNat, by omega, I_of (by omega) (by omega)⟩
def runS (R : List Run) (r what : Int32) : Int32 := if gIn R.length r = true then g4 what (rlo R r.toNatClampNeg) (rhi R r.toNatClampNeg) (nI (rtg R r.toNatClampNeg)) (nI (rwt R r.toNatClampNeg)) else -101
noncomputable section
def clusS (R : List Run) (dens size way : Nat) (c what : Int32) : Int32 := if gIn (clsOf R dens size).length c = true then
    (if what = nI 0 then nI (ckd R dens size c.toNatClampNeg) else if what = nI 1 then nI (cf (clsOf R dens size) c.toNatClampNeg) else if what = nI 2 then nI (cl (clsOf R dens size) c.toNatClampNeg - cf (clsOf R dens size) c.toNatClampNeg + 1) else if what = nI 3 then nI (cwt R dens size c.toNatClampNeg) else if what = nI 4 then nI (qa R dens size way c.toNatClampNeg) else -102)
  else -101
def lineS (L : List Ln) (i what : Int32) : Int32 := if gIn L.length i = true then
    (if what = nI 0 then nI (gL L i.toNatClampNeg).1 else if what = nI 1 then (gL L i.toNatClampNeg).2.1 else if what = nI 2 then (gL L i.toNatClampNeg).2.2.1 else -102) else -101
def bitsS (L : List Ln) (i : Int32) : Int64 := if gIn L.length i = true then lN (gL L i.toNatClampNeg).2.2.2.1 else -101
def entryS (R : List Run) (dens size rest : Nat) (L : List Ln) (i k : Int32) : Int32 := if gIn L.length i = true then numR R dens size rest (gL L i.toNatClampNeg) k.toInt else -101
def goP (C : Cs) (rt dn sz wy : Nat) (x : Int32) : Nat × Nat := Classical.epsilon (fun p : Nat × Nat => p.1 ≤ 31 ∧ Go (runsOf C rt) dn sz rt (cLn C rt dn sz wy) x p.1 0 p.2)
end
section
variable {C : Cs} {rt rw dn sz wy : Nat}
theorem goP_is (hO : sOk C rt rw dn sz wy) (x : Int32) : (goP C rt dn sz wy x).1 ≤ 31 ∧ Go (runsOf C rt) dn sz rt (cLn C rt dn sz wy) x (goP C rt dn sz wy x).1 0 (goP C rt dn sz wy x).2 := by
  obtain ⟨o0, o1, o2, o3, o4, o5, o6, o7⟩ := hO
  obtain ⟨i1, i2, i3⟩ := runs_inv o0 rt
  have h : ∃ p : Nat × Nat, p.1 ≤ 31 ∧ Go (runsOf C rt) dn sz rt (cLn C rt dn sz wy) x p.1 0 p.2 := by
    obtain ⟨n, t, h1, h2⟩ := code_go (R := runsOf C rt) (dens := dn) (way := wy) i2 i1 o1 o6 x
    exact ⟨(n, t), h1, h2⟩
  exact Classical.epsilon_spec h
theorem Go.pos {R : List Run} {dens size rest : Nat} {L : List Ln} {x : Int32} {n i t : Nat} (h : Go R dens size rest L x n i t) : 0 < n ∧ t < 2147483648 := by
  cases n with
  | zero => exact h.elim
  | succ n =>
    refine ⟨Nat.succ_pos _, ?_⟩
    revert i
    induction n with
    | zero =>
      intro i h
      rw [Go] at h
      rcases h.2 with ⟨h1, h2, h3, h4⟩ | ⟨h1, h2, h3, h4⟩ | ⟨h1, h2, h3, h4⟩ | ⟨h1, h2⟩ | ⟨h1, h2, h3, h4, h5, h6, h7, h8, h9⟩ | ⟨h1, h2, h3, h4, h5, h6, h7, h8⟩
      · by_cases w : x.toInt < (gL L i).2.1.toInt
        · obtain ⟨e, -, -, e3⟩ := h3 w; exact e3.elim
        · exact (h4 w).elim
      · by_cases w : (gL L i).2.1.toInt < x.toInt
        · obtain ⟨e, -, -, e3⟩ := h3 w; exact e3.elim
        · exact (h4 w).elim
      · by_cases w : x = (gL L i).2.1
        · have := (h3 w).2.2; omega
        · exact (h4 w).elim
      · have := h2.2.2; omega
      · by_cases w : (gL L i).2.2.2.1.testBit (x.toInt - (gL L i).2.1.toInt).toNat = true
        · have := (h8 w).2.2; omega
        · exact (h9 w).elim
      · have := h8.2.2; omega
    | succ n ih =>
      intro i h
      rw [Go] at h
      rcases h.2 with ⟨h1, h2, h3, h4⟩ | ⟨h1, h2, h3, h4⟩ | ⟨h1, h2, h3, h4⟩ | ⟨h1, h2⟩ | ⟨h1, h2, h3, h4, h5, h6, h7, h8, h9⟩ | ⟨h1, h2, h3, h4, h5, h6, h7, h8⟩
      · by_cases w : x.toInt < (gL L i).2.1.toInt
        · obtain ⟨e, -, -, e3⟩ := h3 w; exact ih e3
        · exact ih (h4 w)
      · by_cases w : (gL L i).2.1.toInt < x.toInt
        · obtain ⟨e, -, -, e3⟩ := h3 w; exact ih e3
        · exact ih (h4 w)
      · by_cases w : x = (gL L i).2.1
        · have := (h3 w).2.2; omega
        · exact ih (h4 w)
      · have := h2.2.2; omega
      · by_cases w : (gL L i).2.2.2.1.testBit (x.toInt - (gL L i).2.1.toInt).toNat = true
        · have := (h8 w).2.2; omega
        · exact ih (h9 w)
      · have := h8.2.2; omega
end
