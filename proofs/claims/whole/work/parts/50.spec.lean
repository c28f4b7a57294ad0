/-! what the calls on cases answer: in words of the state -/
def upC (C : Cs) (k : Nat) (v : Option Run) : Cs := fun j => if j = k then v else C j
theorem cntF_up {C : Cs} {k : Nat} {v : Option Run} : ∀ n, cntF (upC C k v) n + (if k < n then (C k).isSome.toNat else 0) = cntF C n + (if k < n then v.isSome.toNat else 0)
  | 0 => by simp [cntF]
  | n + 1 => by
    rw [cntF, cntF]
    have h := cntF_up (C := C) (k := k) (v := v) n
    by_cases e : n = k
    · subst e
      rw [if_neg (by omega), if_neg (by omega)] at h
      rw [if_pos (by omega), if_pos (by omega)]
      have : upC C n v n = v := if_pos rfl
      rw [this]
      omega
    · have : upC C k v n = C n := if_neg e
      rw [this]
      by_cases q : k < n
      · rw [if_pos q, if_pos q] at h
        rw [if_pos (by omega), if_pos (by omega)]
        omega
      · rw [if_neg q, if_neg q] at h
        rw [if_neg (by omega), if_neg (by omega)]
        omega
theorem cntF_le {C : Cs} : ∀ n, cntF C n ≤ n
  | 0 => Nat.le_refl _
  | n + 1 => by
    rw [cntF]
    have h1 := cntF_le (C := C) n
    have h2 : (C n).isSome.toNat ≤ 1 := Bool.toNat_le _
    omega
theorem cntF_full {C : Cs} : ∀ n, cntF C n = n ↔ ∀ k, k < n → (C k).isSome = true
  | 0 => ⟨fun _ k hk => absurd hk (Nat.not_lt_zero _), fun _ => rfl⟩
  | n + 1 => by
    rw [cntF]
    have h1 := cntF_le (C := C) n
    have h2 : (C n).isSome.toNat ≤ 1 := Bool.toNat_le _
    have h3 := cntF_full (C := C) n
    constructor
    · intro h k hk
      by_cases e : k = n
      · subst e
        cases hs : (C k).isSome
        · rw [hs] at h; simp at h; omega
        · rfl
      · exact h3.mp (by omega) k (by omega)
    · intro h
      rw [h3.mpr (fun k hk => h k (by omega)), h n (by omega)]
      rfl
theorem fst_congr {p q : Nat → Bool} : ∀ (n i : Nat), (∀ k, i ≤ k → k < i + n → p k = q k) → fst p n i = fst q n i
  | 0, _, _ => rfl
  | n + 1, i, h => by
    rw [fst, fst, h i (Nat.le_refl _) (by omega), fst_congr n (i + 1) (fun k h1 h2 => h k (by omega) (by omega))]
def meetC (C : Cs) (low high : Int32) : Option Nat := fst (fun k => (C k).isSome && (decide ((gC C k).1 ≤ high) && decide (low ≤ (gC C k).2.1))) 24 0
def freeC (C : Cs) : Option Nat := fst (fun k => (C k).isNone) 24 0
def inB (x a b : Int) : Bool := decide (a ≤ x ∧ x ≤ b)
theorem CRep.tgB {C : Cs} {lo hi tg wt : Nat → Int32} (hR : CRep C lo hi tg wt) (hC : cOk C) {k : Nat} (hk : k < 24) : (tg k != -1) = (C k).isSome := by
  have := hR.tg_ne hk hC
  rw [Bool.eq_iff_iff, ← this]
  simp
theorem meetC_is {C : Cs} {lo hi tg wt : Nat → Int32} (hR : CRep C lo hi tg wt) (hC : cOk C) (low high : Int32) : fst (fun k => tg k != -1 && decide (lo k ≤ high) && decide (low ≤ hi k)) 24 0 = meetC C low high := by
  unfold meetC
  refine fst_congr 24 0 (fun k _ hk => ?_)
  show (tg k != -1 && decide (lo k ≤ high) && decide (low ≤ hi k)) = _
  rw [hR.tgB hC (by omega)]
  cases hs : (C k).isSome
  · rfl
  · obtain ⟨e1, e2, -⟩ := hR.lo (show k < 24 by omega) hs
    rw [e1, e2, Bool.and_assoc]
theorem freeC_is {C : Cs} {lo hi tg wt : Nat → Int32} (hR : CRep C lo hi tg wt) (hC : cOk C) : fst (fun k => tg k == -1) 24 0 = freeC C := by
  unfold freeC
  refine fst_congr 24 0 (fun k _ hk => ?_)
  show (tg k == -1) = _
  have := hR.tgB hC (show k < 24 by omega)
  cases hs : C k
  · rw [hs] at this
    rw [Option.isNone_none]
    simpa [bne] using this
  · rw [hs] at this
    rw [Option.isNone_some]
    simpa [bne] using this
theorem upC_ok {C : Cs} (hC : cOk C) {k : Nat} (hk : k < 24) {low high : Int32} {t w : Nat} (hlh : low.toInt ≤ high.toInt) (ht : t < 16) (hw : w ≤ 1000) (hm : meetC C low high = none) (hf : C k = none) : cOk (upC C k (some (low, high, t, w))) := by
  have hno := fst_none _ _ hm
  have key : ∀ j d, C j = some d → d.2.1.toInt < low.toInt ∨ high.toInt < d.1.toInt := by
    intro j d hd
    have hj := (hC.1 j d hd).1
    have := hno j (Nat.zero_le _) (by omega)
    rw [gC_some hd, hd] at this
    simp only [Option.isSome_some, Bool.true_and, Bool.and_eq_false_iff, decide_eq_false_iff_not, Int32.not_le, Int32.lt_iff_toInt_lt] at this
    omega
  constructor
  · intro j c hj
    unfold upC at hj
    split at hj
    · rename_i e
      cases hj
      exact ⟨by omega, hlh, ht, hw⟩
    · exact hC.1 j c hj
  · intro i j c d hij hi hj
    unfold upC at hi hj
    split at hi
    · rename_i e
      cases hi
      split at hj
      · omega
      · have := key j d hj
        show high.toInt < d.1.toInt ∨ d.2.1.toInt < low.toInt
        omega
    · split at hj
      · cases hj
        have := key i c hi
        show c.2.1.toInt < low.toInt ∨ high.toInt < c.1.toInt
        omega
      · exact hC.2 i j c d hij hi hj
theorem upC_no {C : Cs} (hC : cOk C) {k : Nat} : cOk (upC C k none) := by
  constructor
  · intro j c hj
    unfold upC at hj
    split at hj
    · cases hj
    · exact hC.1 j c hj
  · intro i j c d hij hi hj
    unfold upC at hi hj
    split at hi
    · cases hi
    · split at hj
      · cases hj
      · exact hC.2 i j c d hij hi hj
theorem CRep.up {C : Cs} {lo hi tg wt : Nat → Int32} (hR : CRep C lo hi tg wt) (k : Nat) (low high : Int32) (t w : Nat) : CRep (upC C k (some (low, high, t, w))) (upd lo k low) (upd hi k high) (upd tg k (nI t)) (upd wt k (nI w)) := by
  intro j hj
  unfold upC
  by_cases e : j = k
  · subst e
    rw [if_pos rfl, pk_us, pk_us, pk_us, pk_us]
    exact Or.inr ⟨_, rfl, rfl, rfl, rfl, rfl⟩
  · rw [if_neg e, pk_un e, pk_un e, pk_un e, pk_un e]
    exact hR j hj
theorem CRep.dn {C : Cs} {lo hi tg wt : Nat → Int32} (hR : CRep C lo hi tg wt) (k : Nat) : CRep (upC C k none) lo hi (upd tg k (-1)) wt := by
  intro j hj
  unfold upC
  by_cases e : j = k
  · subst e
    rw [if_pos rfl, pk_us]
    exact Or.inl ⟨rfl, rfl⟩
  · rw [if_neg e, pk_un e]
    exact hR j hj
