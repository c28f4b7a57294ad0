/-! mathematics of the cheapest tree: c costs, k cuts, of clusters i .. j of weights w -/
def IsCut (w : Nat → Nat) (c k : Nat → Nat → Nat) (i j : Nat) : Prop :=
  i < k i j ∧ k i j ≤ j ∧ c i j = c i (k i j - 1) + c (k i j) j + sm w i (j - i + 1) ∧ ∀ m, i < m → m ≤ j → c i (k i j - 1) + c (k i j) j ≤ c i (m - 1) + c m j ∧ (c i (m - 1) + c m j = c i (k i j - 1) + c (k i j) j → k i j ≤ m)
def IsCT (w : Nat → Nat) (c k : Nat → Nat → Nat) (s : Nat) : Prop := ∀ i j, i ≤ j → j - i < s → (i = j → c i j = 0) ∧ (i < j → IsCut w c k i j)
/-- the least of g (i + 1) .. g (i + t + 1), at its first place -/
def IsLeast (g : Nat → Nat) (i t v b : Nat) : Prop := i < b ∧ b ≤ i + t + 1 ∧ v = g b ∧ ∀ m, i < m → m ≤ i + t + 1 → v ≤ g m ∧ (g m = v → b ≤ m)
theorem IsLeast.zero {g : Nat → Nat} {i : Nat} : IsLeast g i 0 (g (i + 1)) (i + 1) := ⟨by omega, by omega, rfl, fun m h1 h2 => by (obtain rfl : m = i + 1 := by omega); exact ⟨Nat.le_refl _, fun _ => Nat.le_refl _⟩⟩
theorem IsLeast.keep {g : Nat → Nat} {i t v b : Nat} (h : IsLeast g i t v b) (hk : v ≤ g (i + t + 2)) : IsLeast g i (t + 1) v b := by
  obtain ⟨h1, h2, h3, h4⟩ := h
  refine ⟨h1, by omega, h3, fun m g1 g2 => ?_⟩
  by_cases hm : m = i + t + 2
  · subst hm; exact ⟨hk, fun _ => by omega⟩
  · exact h4 m g1 (by omega)
theorem IsLeast.new {g : Nat → Nat} {i t v b : Nat} (h : IsLeast g i t v b) (hk : g (i + t + 2) < v) : IsLeast g i (t + 1) (g (i + t + 2)) (i + t + 2) := by
  obtain ⟨h1, h2, h3, h4⟩ := h
  refine ⟨by omega, by omega, rfl, fun m g1 g2 => ?_⟩
  by_cases hm : m = i + t + 2
  · subst hm; exact ⟨Nat.le_refl _, fun _ => Nat.le_refl _⟩
  · have := (h4 m g1 (by omega)).1
    exact ⟨by omega, fun q => by omega⟩
theorem least_ex (g : Nat → Nat) (i : Nat) : ∀ t, ∃ v b, IsLeast g i t v b
  | 0 => ⟨_, _, IsLeast.zero⟩
  | t + 1 => by
    obtain ⟨v, b, h⟩ := least_ex g i t
    by_cases hk : g (i + t + 2) < v
    · exact ⟨_, _, h.new hk⟩
    · exact ⟨_, _, h.keep (by omega)⟩
theorem IsLeast.uniq {g : Nat → Nat} {i t v b v' b' : Nat} (h : IsLeast g i t v b) (h' : IsLeast g i t v' b') : v = v' ∧ b = b' := by
  obtain ⟨a1, a2, a3, a4⟩ := h
  obtain ⟨c1, c2, c3, c4⟩ := h'
  have x := a4 b' c1 c2
  have y := c4 b a1 a2
  have e : v = v' := by omega
  have := x.2 (by omega)
  have := y.2 (by omega)
  exact ⟨e, by omega⟩
theorem ct_ex (w : Nat → Nat) : ∀ s, ∃ p : (Nat → Nat → Nat) × (Nat → Nat → Nat), IsCT w p.1 p.2 s
  | 0 => ⟨(fun _ _ => 0, fun _ _ => 0), fun i j h1 h2 => by omega⟩
  | 1 => ⟨(fun _ _ => 0, fun _ _ => 0), fun i j h1 h2 => ⟨fun _ => rfl, fun q => by omega⟩⟩
  | s + 2 => by
    obtain ⟨⟨c, k⟩, h⟩ := ct_ex w (s + 1)
    have hb : ∀ i, ∃ q : Nat × Nat, IsLeast (fun m => c i (m - 1) + c m (i + s + 1)) i s q.1 q.2 := by
      intro i
      obtain ⟨v, b, hb⟩ := least_ex (fun m => c i (m - 1) + c m (i + s + 1)) i s
      exact ⟨(v, b), hb⟩
    obtain ⟨q, hq⟩ := Classical.axiomOfChoice hb
    obtain ⟨c', hc1, hc2⟩ : ∃ c' : Nat → Nat → Nat, (∀ i j, j = i + s + 1 → c' i j = (q i).1 + sm w i (j - i + 1)) ∧ ∀ i j, j ≠ i + s + 1 → c' i j = c i j := ⟨fun i j => if j = i + s + 1 then (q i).1 + sm w i (j - i + 1) else c i j, fun i j e => if_pos e, fun i j e => if_neg e⟩
    obtain ⟨k', hk1, hk2⟩ : ∃ k' : Nat → Nat → Nat, (∀ i j, j = i + s + 1 → k' i j = (q i).2) ∧ ∀ i j, j ≠ i + s + 1 → k' i j = k i j := ⟨fun i j => if j = i + s + 1 then (q i).2 else k i j, fun i j e => if_pos e, fun i j e => if_neg e⟩
    refine ⟨(c', k'), fun i j h1 h2 => ⟨fun e => ?_, fun e => ?_⟩⟩
    · show c' i j = 0
      rw [hc2 i j (by omega)]
      exact (h i j h1 (by omega)).1 e
    · show IsCut w c' k' i j
      by_cases hj : j = i + s + 1
      · obtain ⟨g1, g2, g3, g4⟩ := hq i
        unfold IsCut
        rw [hk1 i j hj, hc1 i j hj, hc2 i ((q i).2 - 1) (by omega), hc2 (q i).2 j (by omega)]
        have g3' : (q i).1 = c i ((q i).2 - 1) + c (q i).2 j := by rw [g3, hj]
        refine ⟨g1, by omega, by rw [g3'], fun m m1 m2 => ?_⟩
        rw [hc2 i (m - 1) (by omega), hc2 m j (by omega)]
        have := g4 m m1 (by omega)
        rw [g3', ← hj] at this
        exact this
      · obtain ⟨g1, g2, g3, g4⟩ := (h i j h1 (by omega)).2 e
        have g1 : i < k i j := g1
        have g2 : k i j ≤ j := g2
        unfold IsCut
        rw [hk2 i j hj, hc2 i j hj, hc2 i (k i j - 1) (by omega), hc2 (k i j) j (by omega)]
        refine ⟨g1, g2, g3, fun m m1 m2 => ?_⟩
        rw [hc2 i (m - 1) (by omega), hc2 m j (by omega)]
        exact g4 m m1 m2
noncomputable def ctP (w : Nat → Nat) : (Nat → Nat → Nat) × (Nat → Nat → Nat) := Classical.choose (ct_ex w 24)
noncomputable def cst (w : Nat → Nat) : Nat → Nat → Nat := (ctP w).1
noncomputable def cut (w : Nat → Nat) : Nat → Nat → Nat := (ctP w).2
theorem ct_is (w : Nat → Nat) : IsCT w (cst w) (cut w) 24 := Classical.choose_spec (ct_ex w 24)
theorem cst_diag (w : Nat → Nat) (i : Nat) : cst w i i = 0 := (ct_is w i i (Nat.le_refl _) (by omega)).1 rfl
theorem cst_le {w : Nat → Nat} {B : Nat} (hw : ∀ c, w c ≤ B) : ∀ s i j, i ≤ j → j - i = s → s < 24 → cst w i j ≤ s * (24 * B) := by
  intro s
  induction s using Nat.strongRecOn with
  | ind s ih =>
    intro i j hij hs h24
    by_cases e : i = j
    · subst e; rw [cst_diag]; exact Nat.zero_le _
    · obtain ⟨g1, g2, g3, -⟩ := (ct_is w i j hij (by omega)).2 (by omega)
      have a1 := ih (cut w i j - 1 - i) (by omega) i (cut w i j - 1) (by omega) rfl (by omega)
      have a2 := ih (j - cut w i j) (by omega) (cut w i j) j g2 rfl (by omega)
      have a3 : sm w i (j - i + 1) ≤ 24 * B := by
        have : ∀ n, sm w i n ≤ n * B := by
          intro n
          induction n with
          | zero => exact Nat.zero_le _
          | succ n ih2 => rw [sm, Nat.succ_mul]; have := hw (i + n); omega
        exact Nat.le_trans (this _) (Nat.mul_le_mul_right _ (by omega))
      rw [g3]
      have e2 : s * (24 * B) = (cut w i j - 1 - i) * (24 * B) + (j - cut w i j) * (24 * B) + 24 * B := by
        rw [← Nat.add_mul, show s = (cut w i j - 1 - i + (j - cut w i j)) + 1 by omega, Nat.succ_mul]
      omega
theorem sm_part {f : Nat → Nat} {i n m : Nat} (h : i + n ≤ m) : sm f i n ≤ sm f 0 m := by
  have h1 := sm_split (f := f) (i := 0) (m := i) n
  have h2 := sm_split (f := f) (i := 0) (m := i + n) (m - (i + n))
  rw [show i + n + (m - (i + n)) = m by omega] at h2
  rw [Nat.zero_add] at h1
  omega
/-- the weight of a cluster and 1 -/
noncomputable def cw1 (R : List Run) (dens size c : Nat) : Nat := cwt R dens size c + 1
theorem cwt_le {R : List Run} {dens size c : Nat} (hc : c < (clsOf R dens size).length) : cwt R dens size c ≤ rsum R := by
  have hk := ClOk.at _ _ c (cls_ok R dens size) hc
  unfold cwt rsum
  exact sm_part (by omega)
noncomputable def spF (R : List Run) (dens size way i j : Nat) : Nat := if way = 1 then cut (fun c => if c < (clsOf R dens size).length then cw1 R dens size c else 0) i j else (i + j + 1) / 2
noncomputable def wF (R : List Run) (dens size : Nat) : Nat → Nat := fun c => if c < (clsOf R dens size).length then cw1 R dens size c else 0
theorem wF_le {R : List Run} {dens size : Nat} (hs : rsum R ≤ 24000) (c : Nat) : wF R dens size c ≤ 24001 := by
  unfold wF
  split
  · rename_i q; have := cwt_le q; unfold cw1; omega
  · exact Nat.zero_le _
theorem spF_in {R : List Run} {dens size way i j : Nat} (hij : i < j) (hj : j < 24) : i < spF R dens size way i j ∧ spF R dens size way i j ≤ j := by
  unfold spF
  split
  · obtain ⟨g1, g2, -⟩ := (ct_is (wF R dens size) i j (by omega) (by omega)).2 hij
    exact ⟨g1, g2⟩
  · omega
