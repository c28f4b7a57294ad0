/-! lines done for an int: the way, its end and its steps -/
theorem nI_inj {a b : Nat} (ha : a < 2147483648) (hb : b < 2147483648) (h : nI a = nI b) : a = b := by
  have := congrArg Int32.toInt h
  rw [nI_toInt ha, nI_toInt hb] at this
  omega
noncomputable section
def stepP (R : List Run) (dens size rest : Nat) (l : Ln) (x : Int32) (i : Nat) (K : Nat → Prop) (T : Int32 → Prop) : Prop :=
  (l.1 = 0 ∧ (∃ k, k < R.length ∧ l.2.1 = rlo R k) ∧ (x.toInt < l.2.1.toInt → ∃ e, l.2.2.1 = nI e ∧ e < 400 ∧ K e) ∧ (¬ x.toInt < l.2.1.toInt → K (i + 1))) ∨
  (l.1 = 1 ∧ (∃ k, k < R.length ∧ l.2.1 = rhi R k) ∧ (l.2.1.toInt < x.toInt → ∃ e, l.2.2.1 = nI e ∧ e < 400 ∧ K e) ∧ (¬ l.2.1.toInt < x.toInt → K (i + 1))) ∨
  (l.1 = 2 ∧ (∃ k, k < R.length ∧ l.2.1 = rlo R k ∧ rlo R k = rhi R k) ∧ (x = l.2.1 → T l.2.2.1) ∧ (¬ x = l.2.1 → K (i + 1))) ∨
  (l.1 = 3 ∧ T l.2.1) ∨
  (l.1 = 4 ∧ l.2.2.2.2 < (clsOf R dens size).length ∧ l.2.1 = cbt R dens size l.2.2.2.2 ∧ (ctp R dens size l.2.2.2.2).toInt - (cbt R dens size l.2.2.2.2).toInt < 64 ∧ (cbt R dens size l.2.2.2.2).toInt ≤ x.toInt ∧ x.toInt ≤ (ctp R dens size l.2.2.2.2).toInt ∧
    (∃ t, l.2.2.1 = nI t ∧ l.2.2.2.1 = rowN R (cf (clsOf R dens size) l.2.2.2.2) (cn R dens size l.2.2.2.2) t) ∧ (l.2.2.2.1.testBit (x.toInt - l.2.1.toInt).toNat = true → T l.2.2.1) ∧ (¬ l.2.2.2.1.testBit (x.toInt - l.2.1.toInt).toNat = true → K (i + 1))) ∨
  (l.1 = 5 ∧ l.2.2.2.2 < (clsOf R dens size).length ∧ l.2.1 = cbt R dens size l.2.2.2.2 ∧ l.2.2.1 = nI (csp R dens size l.2.2.2.2) ∧ csp R dens size l.2.2.2.2 ≤ 256 ∧ (cbt R dens size l.2.2.2.2).toInt ≤ x.toInt ∧ x.toInt ≤ (ctp R dens size l.2.2.2.2).toInt ∧
    T (nI (tvI R rest (cf (clsOf R dens size) l.2.2.2.2) (cn R dens size l.2.2.2.2) x.toInt)))
def Go (R : List Run) (dens size rest : Nat) (L : List Ln) (x : Int32) : Nat → Nat → Nat → Prop
  | 0, _, _ => False
  | n + 1, i, t => i < L.length ∧ stepP R dens size rest (gL L i) x i (fun e => Go R dens size rest L x n e t) (fun v => n = 0 ∧ v = nI t ∧ t < 16)
end
section
variable {R : List Run} {dens size rest : Nat} {L : List Ln} {x : Int32}
theorem stepP.imp {l : Ln} {i : Nat} {K K' : Nat → Prop} {T T' : Int32 → Prop} (h : stepP R dens size rest l x i K T) (hK : ∀ e, K e → K' e) (hT : ∀ v, T v → T' v) : stepP R dens size rest l x i K' T' := by
  rcases h with ⟨h1, h2, h3, h4⟩ | ⟨h1, h2, h3, h4⟩ | ⟨h1, h2, h3, h4⟩ | ⟨h1, h2⟩ | ⟨h1, h2, h3, h4, h5, h6, h7, h8, h9⟩ | ⟨h1, h2, h3, h4, h5, h6, h7, h8⟩
  · exact Or.inl ⟨h1, h2, fun q => by obtain ⟨e, e1, e2, e3⟩ := h3 q; exact ⟨e, e1, e2, hK _ e3⟩, fun q => hK _ (h4 q)⟩
  · exact Or.inr (Or.inl ⟨h1, h2, fun q => by obtain ⟨e, e1, e2, e3⟩ := h3 q; exact ⟨e, e1, e2, hK _ e3⟩, fun q => hK _ (h4 q)⟩)
  · exact Or.inr (Or.inr (Or.inl ⟨h1, h2, fun q => hT _ (h3 q), fun q => hK _ (h4 q)⟩))
  · exact Or.inr (Or.inr (Or.inr (Or.inl ⟨h1, hT _ h2⟩)))
  · exact Or.inr (Or.inr (Or.inr (Or.inr (Or.inl ⟨h1, h2, h3, h4, h5, h6, h7, fun q => hT _ (h8 q), fun q => hK _ (h9 q)⟩))))
  · exact Or.inr (Or.inr (Or.inr (Or.inr (Or.inr ⟨h1, h2, h3, h4, h5, h6, h7, hT _ h8⟩))))
/-- two ways of one line: both go on at the same place, or both end alike -/
theorem stepP.two {l : Ln} {i : Nat} {K K' : Nat → Prop} {T T' : Int32 → Prop} (h : stepP R dens size rest l x i K T) (h' : stepP R dens size rest l x i K' T') : (∃ e, K e ∧ K' e) ∨ ∃ v, T v ∧ T' v := by
  rcases h with ⟨h1, h2, h3, h4⟩ | ⟨h1, h2, h3, h4⟩ | ⟨h1, h2, h3, h4⟩ | ⟨h1, h2⟩ | ⟨h1, h2, h3, h4, h5, h6, h7, h8, h9⟩ | ⟨h1, h2, h3, h4, h5, h6, h7, h8⟩ <;>
  rcases h' with ⟨g1, g2, g3, g4⟩ | ⟨g1, g2, g3, g4⟩ | ⟨g1, g2, g3, g4⟩ | ⟨g1, g2⟩ | ⟨g1, g2, g3, g4, g5, g6, g7, g8, g9⟩ | ⟨g1, g2, g3, g4, g5, g6, g7, g8⟩ <;> first | omega | skip
  · by_cases q : x.toInt < l.2.1.toInt
    · obtain ⟨e, e1, e2, e3⟩ := h3 q
      obtain ⟨d, d1, d2, d3⟩ := g3 q
      obtain rfl : e = d := nI_inj (by omega) (by omega) (e1.symm.trans d1)
      exact Or.inl ⟨e, e3, d3⟩
    · exact Or.inl ⟨_, h4 q, g4 q⟩
  · by_cases q : l.2.1.toInt < x.toInt
    · obtain ⟨e, e1, e2, e3⟩ := h3 q
      obtain ⟨d, d1, d2, d3⟩ := g3 q
      obtain rfl : e = d := nI_inj (by omega) (by omega) (e1.symm.trans d1)
      exact Or.inl ⟨e, e3, d3⟩
    · exact Or.inl ⟨_, h4 q, g4 q⟩
  · by_cases q : x = l.2.1
    · exact Or.inr ⟨_, h3 q, g3 q⟩
    · exact Or.inl ⟨_, h4 q, g4 q⟩
  · exact Or.inr ⟨_, h2, g2⟩
  · by_cases q : l.2.2.2.1.testBit (x.toInt - l.2.1.toInt).toNat = true
    · exact Or.inr ⟨_, h8 q, g8 q⟩
    · exact Or.inl ⟨_, h9 q, g9 q⟩
  · exact Or.inr ⟨_, h8, g8⟩
theorem Go.det : ∀ (n m i t u : Nat), Go R dens size rest L x n i t → Go R dens size rest L x m i u → n = m ∧ t = u
  | 0, _, _, _, _, h, _ => h.elim
  | _, 0, _, _, _, _, h => h.elim
  | n + 1, m + 1, i, t, u, h, h' => by
    rw [Go] at h h'
    rcases h.2.two h'.2 with ⟨e, e1, e2⟩ | ⟨v, e1, e2⟩
    · obtain ⟨a, b⟩ := Go.det n m e t u e1 e2
      exact ⟨by omega, b⟩
    · have := nI_inj (a := t) (b := u) (by omega) (by omega) (e1.2.1.symm.trans e2.2.1)
      exact ⟨by omega, this⟩
/-- x and y lie in the same run or in the same gap -/
def Seg (R : List Run) (x y : Int32) : Prop := ∀ k, k < R.length → (x.toInt < (rlo R k).toInt ↔ y.toInt < (rlo R k).toInt) ∧ ((rhi R k).toInt < x.toInt ↔ (rhi R k).toInt < y.toInt)
theorem Seg.bit {y : Int32} (h : Seg R x y) {f n t : Nat} (hn : f + n ≤ R.length) (hx : (rlo R f).toInt ≤ x.toInt) (hy : (rlo R f).toInt ≤ y.toInt) : bitP R f n t (x.toInt - (rlo R f).toInt).toNat ↔ bitP R f n t (y.toInt - (rlo R f).toInt).toNat := by
  unfold bitP
  constructor
  · rintro ⟨k, h1, h2, h3, h4, h5⟩
    have := h k (by omega)
    exact ⟨k, h1, h2, h3, by omega, by omega⟩
  · rintro ⟨k, h1, h2, h3, h4, h5⟩
    have := h k (by omega)
    exact ⟨k, h1, h2, h3, by omega, by omega⟩
theorem Seg.step {y : Int32} (h : Seg R x y) {l : Ln} {i : Nat} {K K' : Nat → Prop} {T T' : Int32 → Prop} (hP : stepP R dens size rest l x i K T) (hK : ∀ e, K e → K' e) (hT : ∀ v, T v → T' v) (hT' : ∀ v t, T v → t < 16 → T' (nI t)) (hR : ∀ k, k < R.length → rtg R k < 16) (hr : rest < 16) : stepP R dens size rest l y i K' T' := by
  rcases hP with ⟨h1, ⟨k, k1, k2⟩, h3, h4⟩ | ⟨h1, ⟨k, k1, k2⟩, h3, h4⟩ | ⟨h1, ⟨k, k1, k2, k3⟩, h3, h4⟩ | ⟨h1, h2⟩ | ⟨h1, h2, h3, h4, h5, h6, ⟨t, h7, h7'⟩, h8, h9⟩ | ⟨h1, h2, h3, h4, h5, h6, h7, h8⟩
  · have hk := h k k1
    rw [← k2] at hk
    exact Or.inl ⟨h1, ⟨k, k1, k2⟩, fun q => by obtain ⟨e, e1, e2, e3⟩ := h3 (hk.1.mpr q); exact ⟨e, e1, e2, hK _ e3⟩, fun q => hK _ (h4 (fun p => q (hk.1.mp p)))⟩
  · have hk := h k k1
    rw [← k2] at hk
    exact Or.inr (Or.inl ⟨h1, ⟨k, k1, k2⟩, fun q => by obtain ⟨e, e1, e2, e3⟩ := h3 (hk.2.mpr q); exact ⟨e, e1, e2, hK _ e3⟩, fun q => hK _ (h4 (fun p => q (hk.2.mp p)))⟩)
  · have hk := h k k1
    rw [← k3, ← k2] at hk
    have he : x = l.2.1 ↔ y = l.2.1 := by
      rw [← Int32.toInt_inj, ← Int32.toInt_inj]
      omega
    exact Or.inr (Or.inr (Or.inl ⟨h1, ⟨k, k1, k2, k3⟩, fun q => hT _ (h3 (he.mpr q)), fun q => hK _ (h4 (fun p => q (he.mp p)))⟩))
  · exact Or.inr (Or.inr (Or.inr (Or.inl ⟨h1, hT _ h2⟩)))
  · obtain ⟨-, p2, p3, -⟩ := ClOk.at _ _ _ (cls_ok R dens size) h2
    have hf := h (cf (clsOf R dens size) l.2.2.2.2) (by omega)
    have hl := h (cl (clsOf R dens size) l.2.2.2.2) (by omega)
    unfold cbt at h3 h4 h5
    unfold ctp at h4 h6
    have hb : l.2.2.2.1.testBit (x.toInt - l.2.1.toInt).toNat = l.2.2.2.1.testBit (y.toInt - l.2.1.toInt).toNat := by
      rw [h3, h7']
      have hr := rowN_is R (cf (clsOf R dens size) l.2.2.2.2) (cn R dens size l.2.2.2.2) t
      rw [Bool.eq_iff_iff, hr.2 _ (by omega), hr.2 _ (by omega)]
      exact h.bit (by unfold cn; omega) h5 (by omega)
    refine Or.inr (Or.inr (Or.inr (Or.inr (Or.inl ⟨h1, h2, h3, h4, ?_, ?_, ⟨t, h7, h7'⟩, fun q => hT _ (h8 (hb.trans q)), fun q => hK _ (h9 (by rw [hb]; exact q))⟩))))
    · unfold cbt; omega
    · unfold ctp; omega
  · obtain ⟨-, p2, p3, -⟩ := ClOk.at _ _ _ (cls_ok R dens size) h2
    have hf := h (cf (clsOf R dens size) l.2.2.2.2) (by omega)
    have hl := h (cl (clsOf R dens size) l.2.2.2.2) (by omega)
    unfold cbt at h6
    unfold ctp at h7
    refine Or.inr (Or.inr (Or.inr (Or.inr (Or.inr ⟨h1, h2, h3, h4, h5, ?_, ?_, hT' _ _ h8 ?_⟩))))
    · unfold cbt; omega
    · unfold ctp; omega
    · unfold tvI
      split
      · rename_i k hk
        obtain ⟨q1, q2, -⟩ := fst_some _ _ _ hk
        exact hR k (by unfold cn at q2; omega)
      · exact hr
theorem Go.seg {y : Int32} (h : Seg R x y) (hR : ∀ k, k < R.length → rtg R k < 16) (hr : rest < 16) : ∀ (n i t : Nat), Go R dens size rest L x n i t → ∃ u, Go R dens size rest L y n i u
  | 0, _, _, q => q.elim
  | n + 1, i, t, q => by
    by_cases hn : n = 0
    · subst hn
      rw [Go] at q
      have h1 := h.step q.2 (K' := fun _ => False) (T' := fun v => ∃ u, v = nI u ∧ u < 16) (fun e w => w.elim) (fun v w => ⟨t, w.2⟩) (fun v u w hu => ⟨u, rfl, hu⟩) hR hr
      have hh : ∃ v, (fun v => ∃ u, v = nI u ∧ u < 16) v ∧ stepP R dens size rest (gL L i) y i (fun _ => False) (fun w => w = v) := by
        rcases h1 with ⟨h1, h2, h3, h4⟩ | ⟨h1, h2, h3, h4⟩ | ⟨h1, h2, h3, h4⟩ | ⟨h1, h2⟩ | ⟨h1, h2, h3, h4, h5, h6, h7, h8, h9⟩ | ⟨h1, h2, h3, h4, h5, h6, h7, h8⟩
        · by_cases w : y.toInt < (gL L i).2.1.toInt
          · obtain ⟨e, -, -, e3⟩ := h3 w; exact e3.elim
          · exact (h4 w).elim
        · by_cases w : (gL L i).2.1.toInt < y.toInt
          · obtain ⟨e, -, -, e3⟩ := h3 w; exact e3.elim
          · exact (h4 w).elim
        · by_cases w : y = (gL L i).2.1
          · exact ⟨_, h3 w, Or.inr (Or.inr (Or.inl ⟨h1, h2, fun _ => rfl, fun z => absurd w z⟩))⟩
          · exact (h4 w).elim
        · exact ⟨_, h2, Or.inr (Or.inr (Or.inr (Or.inl ⟨h1, rfl⟩)))⟩
        · by_cases w : (gL L i).2.2.2.1.testBit (y.toInt - (gL L i).2.1.toInt).toNat = true
          · exact ⟨_, h8 w, Or.inr (Or.inr (Or.inr (Or.inr (Or.inl ⟨h1, h2, h3, h4, h5, h6, h7, fun _ => rfl, fun z => absurd w z⟩))))⟩
          · exact (h9 w).elim
        · exact ⟨_, h8, Or.inr (Or.inr (Or.inr (Or.inr (Or.inr ⟨h1, h2, h3, h4, h5, h6, h7, rfl⟩))))⟩
      obtain ⟨v, ⟨u, rfl, hu⟩, hs⟩ := hh
      refine ⟨u, ?_⟩
      rw [Go]
      exact ⟨q.1, hs.imp (fun e w => w.elim) (fun w e => ⟨rfl, e, hu⟩)⟩
    · rw [Go] at q
      have h1 := h.step q.2 (K' := fun e => ∃ u, Go R dens size rest L y n e u) (T' := fun v => False) (fun e w => Go.seg h hR hr n e t w) (fun v w => hn w.1) (fun v u w hu => hn w.1) hR hr
      have hh : ∃ e, (∃ u, Go R dens size rest L y n e u) ∧ stepP R dens size rest (gL L i) y i (fun d => d = e) (fun w => False) := by
        rcases h1 with ⟨h1, h2, h3, h4⟩ | ⟨h1, h2, h3, h4⟩ | ⟨h1, h2, h3, h4⟩ | ⟨h1, h2⟩ | ⟨h1, h2, h3, h4, h5, h6, h7, h8, h9⟩ | ⟨h1, h2, h3, h4, h5, h6, h7, h8⟩
        · by_cases w : y.toInt < (gL L i).2.1.toInt
          · obtain ⟨e, e1, e2, e3⟩ := h3 w
            exact ⟨e, e3, Or.inl ⟨h1, h2, fun _ => ⟨e, e1, e2, rfl⟩, fun z => absurd w z⟩⟩
          · exact ⟨_, h4 w, Or.inl ⟨h1, h2, fun z => absurd z w, fun _ => rfl⟩⟩
        · by_cases w : (gL L i).2.1.toInt < y.toInt
          · obtain ⟨e, e1, e2, e3⟩ := h3 w
            exact ⟨e, e3, Or.inr (Or.inl ⟨h1, h2, fun _ => ⟨e, e1, e2, rfl⟩, fun z => absurd w z⟩)⟩
          · exact ⟨_, h4 w, Or.inr (Or.inl ⟨h1, h2, fun z => absurd z w, fun _ => rfl⟩)⟩
        · by_cases w : y = (gL L i).2.1
          · exact (h3 w).elim
          · exact ⟨_, h4 w, Or.inr (Or.inr (Or.inl ⟨h1, h2, fun z => absurd z w, fun _ => rfl⟩))⟩
        · exact h2.elim
        · by_cases w : (gL L i).2.2.2.1.testBit (y.toInt - (gL L i).2.1.toInt).toNat = true
          · exact (h8 w).elim
          · exact ⟨_, h9 w, Or.inr (Or.inr (Or.inr (Or.inr (Or.inl ⟨h1, h2, h3, h4, h5, h6, h7, fun z => absurd z w, fun _ => rfl⟩))))⟩
        · exact h8.elim
      obtain ⟨e, ⟨u, hu⟩, hs⟩ := hh
      refine ⟨u, ?_⟩
      rw [Go]
      exact ⟨q.1, hs.imp (fun d w => by rw [w]; exact hu) (fun w z => z.elim)⟩
end
