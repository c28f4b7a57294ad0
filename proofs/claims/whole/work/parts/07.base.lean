/-! words of the abstract side: loops over places, answers -/
def fst (p : Nat → Bool) : Nat → Nat → Option Nat
  | 0, _ => none
  | n + 1, k => if p k = true then some k else fst p n (k + 1)
def oI : Option Nat → Int32
  | none => -1
  | some k => nI k
theorem fst_some {p : Nat → Bool} : ∀ (n k j : Nat), fst p n k = some j → k ≤ j ∧ j < k + n ∧ p j = true ∧ ∀ i, k ≤ i → i < j → p i = false
  | 0, k, j, h => by simp [fst] at h
  | n + 1, k, j, h => by
    rw [fst] at h
    by_cases hp : p k = true
    · rw [if_pos hp] at h
      cases h
      exact ⟨Nat.le_refl _, by omega, hp, fun i h1 h2 => by omega⟩
    · rw [if_neg hp] at h
      obtain ⟨h1, h2, h3, h4⟩ := fst_some n (k + 1) j h
      refine ⟨by omega, by omega, h3, fun i g1 g2 => ?_⟩
      by_cases hik : i = k
      · subst hik; simpa using hp
      · exact h4 i (by omega) g2
theorem fst_none {p : Nat → Bool} : ∀ (n k : Nat), fst p n k = none → ∀ i, k ≤ i → i < k + n → p i = false
  | 0, k, _, i, h1, h2 => by omega
  | n + 1, k, h, i, h1, h2 => by
    rw [fst] at h
    by_cases hp : p k = true
    · rw [if_pos hp] at h; cases h
    · rw [if_neg hp] at h
      by_cases hik : i = k
      · subst hik; simpa using hp
      · exact fst_none n (k + 1) h i (by omega) (by omega)
theorem fst_of {p : Nat → Bool} : ∀ (n k j : Nat), k ≤ j → j < k + n → p j = true → (∀ i, k ≤ i → i < j → p i = false) → fst p n k = some j
  | 0, k, j, h1, h2, _, _ => by omega
  | n + 1, k, j, h1, h2, h3, h4 => by
    rw [fst]
    by_cases hkj : k = j
    · subst hkj; rw [if_pos h3]
    · rw [if_neg (by rw [h4 k (Nat.le_refl _) (by omega)]; decide)]
      exact fst_of n (k + 1) j (by omega) (by omega) h3 (fun i g1 g2 => h4 i (by omega) g2)
theorem fst_no {p : Nat → Bool} : ∀ (n k : Nat), (∀ i, k ≤ i → i < k + n → p i = false) → fst p n k = none
  | 0, k, _ => rfl
  | n + 1, k, h => by
    rw [fst, if_neg (by rw [h k (Nat.le_refl _) (by omega)]; decide)]
    exact fst_no n (k + 1) (fun i g1 g2 => h i (by omega) (by omega))
theorem x_ix {i : Int32} {n : Nat} (h0 : ¬ i < 0) (h1 : ¬ nI n ≤ i) (hn : n < 2 ^ 31) : ∃ k : Nat, k < n ∧ i = nI k := by
  rcases pk_ix i hn with q | q | q
  · exact absurd q h0
  · exact absurd q h1
  · exact q
theorem x_lt {i : Int32} {n : Nat} (h0 : ¬ i < 0) (h1 : i < nI n) (hn : n < 2 ^ 31) : ∃ k : Nat, k < n ∧ i = nI k :=
  x_ix h0 (fun q => by simp only [Int32.lt_iff_toInt_lt, Int32.le_iff_toInt_le] at h1 q; omega) hn
def gIn (n : Nat) (i : Int32) : Bool := decide (¬ i < 0 ∧ ¬ nI n ≤ i)
theorem gIn_f {n : Nat} {i : Int32} (h : i < 0 ∨ nI n ≤ i) : gIn n i = false := by
  unfold gIn
  rw [decide_eq_false_iff_not]
  rintro ⟨h1, h2⟩
  exact h.elim h1 h2
theorem gIn_n {n k : Nat} (h : k < n) (hn : n < 2 ^ 31) : gIn n (nI k) = true := by
  unfold gIn
  rw [decide_eq_true_eq]
  exact ⟨nI_pos (by omega), nI_ge h hn⟩
theorem x_tab4 (x : Int32) : x = nI 0 ∨ x = nI 1 ∨ x = nI 2 ∨ x = nI 3 ∨ (x.toInt < 0 ∨ 3 < x.toInt) := by
  by_cases h : x.toInt < 0 ∨ 3 < x.toInt
  · exact Or.inr (Or.inr (Or.inr (Or.inr h)))
  · have h1 : x.toInt = 0 ∨ x.toInt = 1 ∨ x.toInt = 2 ∨ x.toInt = 3 := by omega
    rcases h1 with h1 | h1 | h1 | h1
    · exact Or.inl (Int32.toInt_inj.mp h1)
    · exact Or.inr (Or.inl (Int32.toInt_inj.mp h1))
    · exact Or.inr (Or.inr (Or.inl (Int32.toInt_inj.mp h1)))
    · exact Or.inr (Or.inr (Or.inr (Or.inl (Int32.toInt_inj.mp h1))))
theorem x_ne4 {x : Int32} (h : x.toInt < 0 ∨ 3 < x.toInt) : x ≠ nI 0 ∧ x ≠ nI 1 ∧ x ≠ nI 2 ∧ x ≠ nI 3 := by
  have a0 : (nI 0).toInt = 0 := rfl
  have a1 : (nI 1).toInt = 1 := rfl
  have a2 : (nI 2).toInt = 2 := rfl
  have a3 : (nI 3).toInt = 3 := rfl
  refine ⟨fun e => ?_, fun e => ?_, fun e => ?_, fun e => ?_⟩ <;> subst e <;> omega
/-- one of four by its number -/
def g4 (what a b c d : Int32) : Int32 := if what = nI 0 then a else if what = nI 1 then b else if what = nI 2 then c else if what = nI 3 then d else -102
