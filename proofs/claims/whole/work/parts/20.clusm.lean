/-! mathematics of clusters -/
def spn (R : List Run) (i j : Nat) : Nat := ((rhi R j).toInt - (rlo R i).toInt + 1).toNat
def kd (R : List Run) (dens size i j : Nat) : Option Nat :=
  if i = j then some 0
  else if spn R i j ≤ 64 ∧ dcnt (rtg R) i (j - i + 1) ≤ 3 then some 1
  else if spn R i j ≤ size ∧ dens * spn R i j ≤ 100 * sm (wid R) i (j - i + 1) then some 2
  else none
/-- fewest clusters from run i on, and the last run of the first of these: the longest first one -/
def IsFew (m : Nat) (ok : Nat → Nat → Bool) (few en : Nat → Nat) (b : Nat) : Prop :=
  few m = 0 ∧ ∀ i, b ≤ i → i < m → i ≤ en i ∧ en i < m ∧ ok i (en i) = true ∧ few i = few (en i + 1) + 1 ∧ ∀ j, i ≤ j → j < m → ok i j = true → few i ≤ few (j + 1) + 1 ∧ (few (j + 1) + 1 = few i → j ≤ en i)
theorem IsFew.uniq {m : Nat} {ok : Nat → Nat → Bool} {f e g d : Nat → Nat} {b : Nat} (h1 : IsFew m ok f e b) (h2 : IsFew m ok g d b) : ∀ k i, i + k = m → b ≤ i → f i = g i ∧ (i < m → e i = d i)
  | 0, i, hk, _ => by
    obtain rfl : i = m := by omega
    exact ⟨h1.1.trans h2.1.symm, fun q => by omega⟩
  | k + 1, i, hk, hb => by
    have hi : i < m := by omega
    have rec' : ∀ j, i ≤ j → j < m → f (j + 1) = g (j + 1) := by
      intro j hj1 hj2
      exact (IsFew.uniq h1 h2 (m - (j + 1)) (j + 1) (by omega) (by omega)).1
    obtain ⟨a1, a2, a3, a4, a5⟩ := h1.2 i hb hi
    obtain ⟨c1, c2, c3, c4, c5⟩ := h2.2 i hb hi
    have x1 := a5 (d i) c1 c2 c3
    have x2 := c5 (e i) a1 a2 a3
    have r1 := rec' (e i) a1 a2
    have r2 := rec' (d i) c1 c2
    have hfg : f i = g i := by omega
    refine ⟨hfg, fun _ => ?_⟩
    have y1 := x1.2 (by omega)
    have y2 := x2.2 (by omega)
    omega
termination_by k => k
/-- the best of the ends i .. i + t -/
def IsBest (ok : Nat → Nat → Bool) (few : Nat → Nat) (i t v e : Nat) : Prop :=
  i ≤ e ∧ e ≤ i + t ∧ ok i e = true ∧ v = few (e + 1) + 1 ∧ ∀ j, i ≤ j → j ≤ i + t → ok i j = true → v ≤ few (j + 1) + 1 ∧ (few (j + 1) + 1 = v → j ≤ e)
theorem IsBest.zero {ok : Nat → Nat → Bool} {few : Nat → Nat} {i : Nat} (h : ok i i = true) : IsBest ok few i 0 (few (i + 1) + 1) i :=
  ⟨Nat.le_refl _, Nat.le_refl _, h, rfl, fun j h1 h2 _ => by (obtain rfl : j = i := by omega); exact ⟨Nat.le_refl _, fun _ => Nat.le_refl _⟩⟩
theorem IsBest.keep {ok : Nat → Nat → Bool} {few : Nat → Nat} {i t v e : Nat} (h : IsBest ok few i t v e) (hk : v < few (i + t + 1 + 1) + 1 ∨ ok i (i + t + 1) = false) : IsBest ok few i (t + 1) v e := by
  obtain ⟨h1, h2, h3, h4, h5⟩ := h
  refine ⟨h1, by omega, h3, h4, fun j g1 g2 g3 => ?_⟩
  by_cases hj : j = i + t + 1
  · subst hj
    rcases hk with q | q
    · exact ⟨by omega, fun z => by omega⟩
    · rw [q] at g3; cases g3
  · exact h5 j g1 (by omega) g3
theorem IsBest.new {ok : Nat → Nat → Bool} {few : Nat → Nat} {i t v e : Nat} (h : IsBest ok few i t v e) (hk : few (i + t + 1 + 1) + 1 ≤ v) (ho : ok i (i + t + 1) = true) : IsBest ok few i (t + 1) (few (i + t + 1 + 1) + 1) (i + t + 1) := by
  obtain ⟨h1, h2, h3, h4, h5⟩ := h
  refine ⟨by omega, by omega, ho, rfl, fun j g1 g2 g3 => ?_⟩
  by_cases hj : j = i + t + 1
  · subst hj; exact ⟨Nat.le_refl _, fun _ => Nat.le_refl _⟩
  · have := (h5 j g1 (by omega) g3).1
    exact ⟨by omega, fun z => by omega⟩
theorem IsFew.step {m : Nat} {ok : Nat → Nat → Bool} {few few' en en' : Nat → Nat} {i v e : Nat} (h : IsFew m ok few en (i + 1)) (hi : i < m) (hb : IsBest ok few i (m - 1 - i) v e) (h1 : ∀ k, i < k → few' k = few k) (h2 : few' i = v) (h3 : ∀ k, i < k → en' k = en k) (h4 : en' i = e) : IsFew m ok few' en' i := by
  refine ⟨by rw [h1 m hi]; exact h.1, fun k hk1 hk2 => ?_⟩
  by_cases hki : k = i
  · subst hki
    obtain ⟨a1, a2, a3, a4, a5⟩ := hb
    rw [h2, h4]
    refine ⟨a1, by omega, a3, by rw [h1 _ (by omega)]; exact a4, fun j g1 g2 g3 => ?_⟩
    rw [h1 _ (by omega)]
    exact a5 j g1 (by omega) g3
  · obtain ⟨a1, a2, a3, a4, a5⟩ := h.2 k (by omega) hk2
    rw [h3 k (by omega), h1 k (by omega)]
    refine ⟨a1, a2, a3, by rw [h1 _ (by omega)]; exact a4, fun j g1 g2 g3 => ?_⟩
    rw [h1 _ (by omega)]
    exact a5 j g1 g2 g3
theorem best_ex {ok : Nat → Nat → Bool} {few : Nat → Nat} {i : Nat} (h : ok i i = true) : ∀ t, ∃ v e, IsBest ok few i t v e
  | 0 => ⟨_, _, IsBest.zero h⟩
  | t + 1 => by
    obtain ⟨v, e, hb⟩ := best_ex (few := few) h t
    by_cases hk : few (i + t + 1 + 1) + 1 ≤ v ∧ ok i (i + t + 1) = true
    · exact ⟨_, _, hb.new hk.1 hk.2⟩
    · refine ⟨v, e, hb.keep ?_⟩
      cases ho : ok i (i + t + 1) with
      | false => exact Or.inr rfl
      | true => left; exact Nat.lt_of_not_le (fun q => hk ⟨q, ho⟩)
theorem few_ex {m : Nat} {ok : Nat → Nat → Bool} (h : ∀ i, ok i i = true) : ∀ d, d ≤ m → ∃ few en, IsFew m ok few en (m - d)
  | 0, _ => ⟨fun _ => 0, fun _ => 0, rfl, fun i h1 h2 => by omega⟩
  | d + 1, hd => by
    obtain ⟨few, en, hf⟩ := few_ex (m := m) h d (by omega)
    obtain ⟨v, e, hb⟩ := best_ex (few := few) (h (m - (d + 1))) (m - 1 - (m - (d + 1)))
    refine ⟨fun k => if k = m - (d + 1) then v else few k, fun k => if k = m - (d + 1) then e else en k, IsFew.step (i := m - (d + 1)) (few := few) (en := en) (by rw [show m - (d + 1) + 1 = m - d by omega]; exact hf) (by omega) hb (fun k hk => if_neg (by omega)) (if_pos rfl) (fun k hk => if_neg (by omega)) (if_pos rfl)⟩
def okB (R : List Run) (dens size i j : Nat) : Bool := (kd R dens size i j).isSome
theorem okB_self (R : List Run) (dens size i : Nat) : okB R dens size i i = true := by unfold okB kd; rw [if_pos rfl]; rfl
theorem few_all (R : List Run) (dens size : Nat) : ∃ p : (Nat → Nat) × (Nat → Nat), IsFew R.length (okB R dens size) p.1 p.2 0 := by
  obtain ⟨few, en, h⟩ := few_ex (m := R.length) (okB_self R dens size) R.length (Nat.le_refl _)
  exact ⟨(few, en), by rw [Nat.sub_self] at h; exact h⟩
noncomputable def fewP (R : List Run) (dens size : Nat) : (Nat → Nat) × (Nat → Nat) := Classical.choose (few_all R dens size)
theorem fewP_is (R : List Run) (dens size : Nat) : IsFew R.length (okB R dens size) (fewP R dens size).1 (fewP R dens size).2 0 := Classical.choose_spec (few_all R dens size)
/-- the clusters as first and last run -/
def clF (en : Nat → Nat) (m : Nat) : Nat → Nat → List (Nat × Nat)
  | 0, _ => []
  | n + 1, i => if i < m then (i, en i) :: clF en m n (en i + 1) else []
noncomputable def clsOf (R : List Run) (dens size : Nat) : List (Nat × Nat) := clF (fewP R dens size).2 R.length R.length 0
theorem clF_congr {en en' : Nat → Nat} {m : Nat} (h : ∀ i, i < m → en i = en' i) : ∀ n i, clF en m n i = clF en' m n i
  | 0, _ => rfl
  | n + 1, i => by
    rw [clF, clF]
    split
    · rename_i q; rw [h i q, clF_congr h n]
    · rfl
/-- the last element is at the end, each begins behind the one before -/
def ClOk (m : Nat) (ok : Nat → Nat → Bool) (i : Nat) : List (Nat × Nat) → Prop
  | [] => m ≤ i
  | p :: t => p.1 = i ∧ i ≤ p.2 ∧ p.2 < m ∧ ok i p.2 = true ∧ ClOk m ok (p.2 + 1) t
theorem clF_ok {m : Nat} {ok : Nat → Nat → Bool} {few en : Nat → Nat} (h : IsFew m ok few en 0) : ∀ n i, m ≤ i + n → ClOk m ok i (clF en m n i)
  | 0, i, hn => by show m ≤ i; omega
  | n + 1, i, hn => by
    rw [clF]
    split
    · rename_i q
      obtain ⟨a1, a2, a3, -⟩ := h.2 i (Nat.zero_le _) q
      exact ⟨rfl, a1, a2, a3, clF_ok h n _ (by omega)⟩
    · rename_i q; show m ≤ i; omega
theorem clF_len {en : Nat → Nat} {m : Nat} : ∀ n i, (clF en m n i).length ≤ n
  | 0, _ => Nat.le_refl _
  | n + 1, i => by
    rw [clF]
    split
    · rw [List.length_cons]; have := clF_len (en := en) (m := m) n (en i + 1); omega
    · exact Nat.zero_le _
theorem cls_ok (R : List Run) (dens size : Nat) : ClOk R.length (okB R dens size) 0 (clsOf R dens size) := clF_ok (fewP_is R dens size) _ _ (by omega)
theorem cls_len (R : List Run) (dens size : Nat) : (clsOf R dens size).length ≤ R.length := clF_len _ _
def cf (K : List (Nat × Nat)) (c : Nat) : Nat := (K.getD c (0, 0)).1
def cl (K : List (Nat × Nat)) (c : Nat) : Nat := (K.getD c (0, 0)).2
theorem ClOk.at {m : Nat} {ok : Nat → Nat → Bool} : ∀ (K : List (Nat × Nat)) (i c : Nat), ClOk m ok i K → c < K.length → i ≤ cf K c ∧ cf K c ≤ cl K c ∧ cl K c < m ∧ ok (cf K c) (cl K c) = true ∧ (c + 1 < K.length → cf K (c + 1) = cl K c + 1) ∧ (c + 1 = K.length → m ≤ cl K c + 1)
  | [], _, _, _, h => by simp at h
  | p :: t, i, 0, h, hc => by
    obtain ⟨h1, h2, h3, h4, h5⟩ := h
    have e1 : cf (p :: t) 0 = p.1 := rfl
    have e2 : cl (p :: t) 0 = p.2 := rfl
    refine ⟨by rw [e1, h1]; exact Nat.le_refl _, by rw [e1, e2, h1]; exact h2, by rw [e2]; exact h3, by rw [e1, e2, h1]; exact h4, fun q => ?_, fun q => ?_⟩
    · cases t with
      | nil => simp at q
      | cons a u => exact h5.1
    · cases t with
      | nil => exact h5
      | cons a u => simp at q
  | p :: t, i, c + 1, h, hc => by
    obtain ⟨h1, h2, h3, h4, h5⟩ := h
    have hc' : c < t.length := by simpa using hc
    obtain ⟨g1, g2, g3, g4, g5, g6⟩ := ClOk.at t _ c h5 hc'
    have e1 : cf (p :: t) (c + 1) = cf t c := rfl
    have e2 : cl (p :: t) (c + 1) = cl t c := rfl
    have e3 : cf (p :: t) (c + 1 + 1) = cf t (c + 1) := rfl
    rw [e1, e2, e3]
    exact ⟨by omega, g2, g3, g4, fun q => g5 (by simpa using q), fun q => g6 (by simpa using q)⟩
