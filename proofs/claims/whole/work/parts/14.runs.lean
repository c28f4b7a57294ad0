/-! mathematics of cases and runs: low, high, target, weight -/
abbrev Run : Type := Int32 × Int32 × Nat × Nat
abbrev Cs : Type := Nat → Option Run
def z4 : Run := (0, 0, 0, 0)
def gC (C : Cs) (k : Nat) : Run := (C k).getD z4
def clo (C : Cs) (k : Nat) : Int := (gC C k).1.toInt
def cOk (C : Cs) : Prop := (∀ k c, C k = some c → k < 24 ∧ c.1.toInt ≤ c.2.1.toInt ∧ c.2.2.1 < 16 ∧ c.2.2.2 ≤ 1000) ∧ ∀ j k c d, j ≠ k → C j = some c → C k = some d → c.2.1.toInt < d.1.toInt ∨ d.2.1.toInt < c.1.toInt
def CRep (C : Cs) (lo hi tg wt : Nat → Int32) : Prop := ∀ k, k < 24 → (C k = none ∧ tg k = -1) ∨ ∃ c, C k = some c ∧ lo k = c.1 ∧ hi k = c.2.1 ∧ tg k = nI c.2.2.1 ∧ wt k = nI c.2.2.2
def ins (C : Cs) (i : Nat) : List Nat → List Nat
  | [] => [i]
  | j :: t => if clo C i < clo C j then i :: j :: t else j :: ins C i t
def ordF (C : Cs) : Nat → List Nat
  | 0 => []
  | n + 1 => if (C n).isSome = true then ins C n (ordF C n) else ordF C n
def ordL (C : Cs) : List Nat := ordF C 24
theorem ins_mem {C : Cs} {i j : Nat} : ∀ l : List Nat, j ∈ ins C i l ↔ j = i ∨ j ∈ l
  | [] => by simp [ins]
  | a :: t => by
    rw [ins]
    split
    · simp
    · rw [List.mem_cons, ins_mem t, List.mem_cons]
      constructor
      · rintro (h | h | h)
        · exact Or.inr (Or.inl h)
        · exact Or.inl h
        · exact Or.inr (Or.inr h)
      · rintro (h | h | h)
        · exact Or.inr (Or.inl h)
        · exact Or.inl h
        · exact Or.inr (Or.inr h)
theorem ins_len {C : Cs} {i : Nat} : ∀ l : List Nat, (ins C i l).length = l.length + 1
  | [] => rfl
  | a :: t => by
    rw [ins]
    split
    · rfl
    · rw [List.length_cons, ins_len t, List.length_cons]
theorem ins_sort {C : Cs} {i : Nat} : ∀ l : List Nat, l.Pairwise (fun a b => clo C a < clo C b) → (∀ j ∈ l, clo C j ≠ clo C i) → (ins C i l).Pairwise (fun a b => clo C a < clo C b)
  | [], _, _ => List.pairwise_singleton _ _
  | a :: t, h, hn => by
    rw [ins]
    rw [List.pairwise_cons] at h
    split
    · rename_i q
      rw [List.pairwise_cons]
      refine ⟨fun b hb => ?_, List.pairwise_cons.mpr h⟩
      rcases List.mem_cons.mp hb with e | e
      · rw [e]; exact q
      · exact Int.lt_trans q (h.1 b e)
    · rename_i q
      rw [List.pairwise_cons]
      refine ⟨fun b hb => ?_, ins_sort t h.2 (fun j hj => hn j (List.mem_cons_of_mem _ hj))⟩
      rcases (ins_mem t).mp hb with e | e
      · rw [e]
        have := hn a List.mem_cons_self
        omega
      · exact h.1 b e
theorem ordF_mem {C : Cs} {j : Nat} : ∀ n : Nat, j ∈ ordF C n ↔ j < n ∧ (C j).isSome = true
  | 0 => by simp [ordF]
  | n + 1 => by
    rw [ordF]
    by_cases h : (C n).isSome = true
    · rw [if_pos h, ins_mem, ordF_mem n]
      constructor
      · rintro (q | ⟨q, r⟩)
        · subst q; exact ⟨by omega, h⟩
        · exact ⟨by omega, r⟩
      · rintro ⟨q, r⟩
        by_cases e : j = n
        · exact Or.inl e
        · exact Or.inr ⟨by omega, r⟩
    · rw [if_neg h, ordF_mem n]
      constructor
      · rintro ⟨q, r⟩; exact ⟨by omega, r⟩
      · rintro ⟨q, r⟩
        refine ⟨?_, r⟩
        by_cases e : j = n
        · subst e; exact absurd r h
        · omega
theorem ordF_len {C : Cs} : ∀ n : Nat, (ordF C n).length ≤ n
  | 0 => Nat.le_refl _
  | n + 1 => by
    rw [ordF]
    have := ordF_len (C := C) n
    split
    · rw [ins_len]; omega
    · omega
theorem gC_some {C : Cs} {k : Nat} {c : Run} (h : C k = some c) : gC C k = c := by unfold gC; rw [h]; rfl
theorem clo_ne {C : Cs} (hC : cOk C) {j k : Nat} (hjk : j ≠ k) (hj : (C j).isSome = true) (hk : (C k).isSome = true) : clo C j ≠ clo C k := by
  obtain ⟨c, hc⟩ := Option.isSome_iff_exists.mp hj
  obtain ⟨d, hd⟩ := Option.isSome_iff_exists.mp hk
  unfold clo
  rw [gC_some hc, gC_some hd]
  have h1 := hC.1 j c hc
  have h2 := hC.1 k d hd
  have h3 := hC.2 j k c d hjk hc hd
  omega
theorem ordF_sort {C : Cs} (hC : cOk C) : ∀ n : Nat, (ordF C n).Pairwise (fun a b => clo C a < clo C b)
  | 0 => List.Pairwise.nil
  | n + 1 => by
    rw [ordF]
    split
    · rename_i h
      refine ins_sort _ (ordF_sort hC n) (fun j hj => ?_)
      have := (ordF_mem n).mp hj
      exact clo_ne hC (by omega) this.2 h
    · exact ordF_sort hC n
theorem ord_mem {C : Cs} (hC : cOk C) {j : Nat} : j ∈ ordL C ↔ (C j).isSome = true := by
  unfold ordL
  rw [ordF_mem]
  constructor
  · exact fun h => h.2
  · intro h
    obtain ⟨c, hc⟩ := Option.isSome_iff_exists.mp h
    exact ⟨(hC.1 j c hc).1, h⟩
theorem ord_len {C : Cs} : (ordL C).length ≤ 24 := ordF_len 24
theorem ord_sort {C : Cs} (hC : cOk C) : (ordL C).Pairwise (fun a b => clo C a < clo C b) := ordF_sort hC 24
theorem CRep.tg_ne {C : Cs} {lo hi tg wt : Nat → Int32} (hR : CRep C lo hi tg wt) {k : Nat} (hk : k < 24) (hC : cOk C) : tg k ≠ -1 ↔ (C k).isSome = true := by
  rcases hR k hk with ⟨h1, h2⟩ | ⟨c, h1, h2, h3, h4, h5⟩
  · rw [h1, h2]; simp
  · rw [h1, h4]
    have := (hC.1 k c h1).2.2.1
    constructor
    · intro _; rfl
    · intro _ e
      have h := congrArg Int32.toInt e
      rw [nI_toInt (by omega)] at h
      have h7 : (-1 : Int32).toInt = -1 := rfl
      omega
theorem CRep.lo {C : Cs} {lo hi tg wt : Nat → Int32} (hR : CRep C lo hi tg wt) {k : Nat} (hk : k < 24) (hs : (C k).isSome = true) : lo k = (gC C k).1 ∧ hi k = (gC C k).2.1 ∧ tg k = nI (gC C k).2.2.1 ∧ wt k = nI (gC C k).2.2.2 := by
  rcases hR k hk with ⟨h1, h2⟩ | ⟨c, h1, h2, h3, h4, h5⟩
  · rw [h1] at hs; cases hs
  · rw [gC_some h1]; exact ⟨h2, h3, h4, h5⟩
/-- the case with the next low is the first one that is not yet done -/
theorem next_head {C : Cs} {lo hi tg wt : Nat → Int32} (hC : cOk C) (hR : CRep C lo hi tg wt) {done todo : List Nat} (hL : ordL C = done ++ todo) {after : Int} (h1 : ∀ j ∈ done, clo C j ≤ after) (h2 : ∀ j ∈ todo, after < clo C j) {r : Option Nat} (hN : IsNext lo tg after r) : r = todo.head? := by
  have hin : ∀ j, j ∈ done ∨ j ∈ todo → j < 24 ∧ tg j ≠ -1 ∧ (lo j).toInt = clo C j := by
    intro j hj
    have hm : j ∈ ordL C := by rw [hL]; exact List.mem_append.mpr hj
    have hs := (ord_mem hC).mp hm
    have hk : j < 24 := by
      obtain ⟨c, hc⟩ := Option.isSome_iff_exists.mp hs
      exact (hC.1 j c hc).1
    exact ⟨hk, (hR.tg_ne hk hC).mpr hs, by rw [(hR.lo hk hs).1]; rfl⟩
  have hsort := ord_sort hC
  rw [hL, List.pairwise_append] at hsort
  cases todo with
  | nil =>
    cases r with
    | none => rfl
    | some i =>
      obtain ⟨g1, g2, g3, -⟩ := hN
      have hm := (ord_mem hC).mpr ((hR.tg_ne g1 hC).mp g2)
      rw [hL, List.append_nil] at hm
      have := h1 i hm
      have := (hin i (Or.inl hm)).2.2
      omega
  | cons i t =>
    obtain ⟨q1, q2, q3⟩ := hin i (Or.inr List.mem_cons_self)
    have q4 := h2 i List.mem_cons_self
    cases r with
    | none =>
      have := hN i q1 q2
      omega
    | some i' =>
      obtain ⟨g1, g2, g3, g4⟩ := hN
      have g5 := g4 i q1 q2 (by omega)
      have hm := (ord_mem hC).mpr ((hR.tg_ne g1 hC).mp g2)
      rw [hL] at hm
      rcases List.mem_append.mp hm with hm | hm
      · have := h1 i' hm
        have := (hin i' (Or.inl hm)).2.2
        omega
      · have e := (hin i' (Or.inr hm)).2.2
        rcases List.mem_cons.mp hm with hm | hm
        · rw [hm]; rfl
        · have := (List.pairwise_cons.mp hsort.2.1).1 i' hm
          omega
/-! runs -/
def gR (R : List Run) (k : Nat) : Run := R.getD k z4
def rlo (R : List Run) (k : Nat) : Int32 := (gR R k).1
def rhi (R : List Run) (k : Nat) : Int32 := (gR R k).2.1
def rtg (R : List Run) (k : Nat) : Nat := (gR R k).2.2.1
def rwt (R : List Run) (k : Nat) : Nat := (gR R k).2.2.2
def jnB (R : List Run) (c : Run) : Bool := decide (0 < R.length ∧ rtg R (R.length - 1) = c.2.2.1 ∧ (rhi R (R.length - 1)).toInt + 1 = c.1.toInt)
def jnM (R : List Run) (c : Run) : List Run := R.set (R.length - 1) (rlo R (R.length - 1), c.2.1, c.2.2.1, rwt R (R.length - 1) + c.2.2.2)
def jn (R : List Run) (c : Run) : List Run := if jnB R c = true then jnM R c else R ++ [c]
def Rep (R : List Run) (lo hi tg wt : Nat → Int32) : Prop := ∀ k, k < R.length → lo k = rlo R k ∧ hi k = rhi R k ∧ tg k = nI (rtg R k) ∧ wt k = nI (rwt R k)
theorem gR_app {R : List Run} {c : Run} (k : Nat) : gR (R ++ [c]) k = if k = R.length then c else gR R k := by
  unfold gR
  rw [List.getD_eq_getElem?_getD, List.getD_eq_getElem?_getD]
  by_cases h : k = R.length
  · subst h; simp
  · rw [if_neg h]
    rcases Nat.lt_or_ge k R.length with q | q
    · rw [List.getElem?_append_left q]
    · rw [List.getElem?_append_right q, List.getElem?_eq_none (by simp; omega), List.getElem?_eq_none q]
theorem gR_set {R : List Run} {c : Run} {i : Nat} (hi : i < R.length) (k : Nat) : gR (R.set i c) k = if k = i then c else gR R k := by
  unfold gR
  rw [List.getD_eq_getElem?_getD, List.getD_eq_getElem?_getD]
  by_cases h : k = i
  · subst h; rw [List.getElem?_set_self hi]; simp
  · rw [if_neg h, List.getElem?_set_ne (Ne.symm h)]
/-- a row of runs as it comes out of cases -/
def RInv (R : List Run) : Prop := (∀ k, k < R.length → (rlo R k).toInt ≤ (rhi R k).toInt ∧ rtg R k < 16) ∧ ∀ k, k + 1 < R.length → (rhi R k).toInt < (rlo R (k + 1)).toInt
def sm (f : Nat → Nat) (i : Nat) : Nat → Nat
  | 0 => 0
  | n + 1 => sm f i n + f (i + n)
theorem sm_congr {f g : Nat → Nat} {i : Nat} : ∀ n : Nat, (∀ k, i ≤ k → k < i + n → f k = g k) → sm f i n = sm g i n
  | 0, _ => rfl
  | n + 1, h => by rw [sm, sm, sm_congr n (fun k h1 h2 => h k h1 (by omega)), h (i + n) (by omega) (by omega)]
theorem sm_le {f g : Nat → Nat} {i : Nat} : ∀ n : Nat, (∀ k, i ≤ k → k < i + n → f k ≤ g k) → sm f i n ≤ sm g i n
  | 0, _ => Nat.le_refl _
  | n + 1, h => by
    rw [sm, sm]
    have := sm_le (f := f) (g := g) (i := i) n (fun k h1 h2 => h k h1 (by omega))
    have := h (i + n) (by omega) (by omega)
    omega
theorem sm_split {f : Nat → Nat} {i m : Nat} : ∀ n : Nat, sm f i (m + n) = sm f i m + sm f (i + m) n
  | 0 => rfl
  | n + 1 => by rw [← Nat.add_assoc, sm, sm, sm_split n]; rw [show i + (m + n) = i + m + n by omega]; omega
def rsum (R : List Run) : Nat := sm (rwt R) 0 R.length
theorem jn_len {R : List Run} {c : Run} : (jn R c).length = R.length ∨ (jn R c).length = R.length + 1 := by
  unfold jn
  split
  · left; unfold jnM; simp
  · right; simp
theorem jn_sum {R : List Run} {c : Run} : rsum (jn R c) = rsum R + c.2.2.2 := by
  unfold jn rsum
  split
  · rename_i h
    unfold jnB at h
    rw [decide_eq_true_eq] at h
    have hl : R.length - 1 < R.length := by omega
    have e : (jnM R c).length = (R.length - 1) + 1 := by unfold jnM; simp; omega
    have e2 : sm (rwt R) 0 R.length = sm (rwt R) 0 ((R.length - 1) + 1) := by rw [show R.length - 1 + 1 = R.length by omega]
    rw [e, e2, sm, sm, Nat.zero_add]
    have e3 : rwt (jnM R c) (R.length - 1) = rwt R (R.length - 1) + c.2.2.2 := by
      unfold rwt jnM
      rw [gR_set hl, if_pos rfl]
      rfl
    have e4 : sm (rwt (jnM R c)) 0 (R.length - 1) = sm (rwt R) 0 (R.length - 1) := by
      refine sm_congr _ (fun k _ h2 => ?_)
      unfold rwt jnM
      rw [gR_set hl, if_neg (by omega)]
    rw [e3, e4]
    omega
  · have e : (R ++ [c]).length = R.length + 1 := by simp
    rw [e, sm, Nat.zero_add]
    have e3 : rwt (R ++ [c]) R.length = c.2.2.2 := by
      unfold rwt
      rw [gR_app, if_pos rfl]
    have e4 : sm (rwt (R ++ [c])) 0 R.length = sm (rwt R) 0 R.length := by
      refine sm_congr _ (fun k _ h2 => ?_)
      unfold rwt
      rw [gR_app, if_neg (by omega)]
    rw [e3, e4]
theorem jn_inv {R : List Run} {c : Run} (hR : RInv R) (hc : c.1.toInt ≤ c.2.1.toInt ∧ c.2.2.1 < 16) (hl : 0 < R.length → (rhi R (R.length - 1)).toInt < c.1.toInt) : RInv (jn R c) ∧ rhi (jn R c) ((jn R c).length - 1) = c.2.1 ∧ 0 < (jn R c).length := by
  unfold jn
  split
  · rename_i h
    unfold jnB at h
    rw [decide_eq_true_eq] at h
    have hl1 : R.length - 1 < R.length := by omega
    have hlen : (jnM R c).length = R.length := by unfold jnM; simp
    have hg : ∀ k, gR (jnM R c) k = if k = R.length - 1 then (rlo R (R.length - 1), c.2.1, c.2.2.1, rwt R (R.length - 1) + c.2.2.2) else gR R k := fun k => by unfold jnM; rw [gR_set hl1]
    refine ⟨⟨fun k hk => ?_, fun k hk => ?_⟩, ?_, ?_⟩
    · unfold rlo rhi rtg
      rw [hg]
      split
      · have := (hR.1 (R.length - 1) hl1).1
        have := hl h.1
        exact ⟨by show (rlo R (R.length - 1)).toInt ≤ c.2.1.toInt; omega, hc.2⟩
      · exact hR.1 k (by omega)
    · have h2 := hR.2 k (by omega)
      unfold rlo rhi at h2 ⊢
      rw [hg, hg, if_neg (by omega)]
      split
      · rename_i q
        rw [q] at h2
        exact h2
      · exact h2
    · unfold rhi
      rw [hg, hlen, if_pos rfl]
    · omega
  · have hlen : (R ++ [c]).length = R.length + 1 := by simp
    refine ⟨⟨fun k hk => ?_, fun k hk => ?_⟩, ?_, ?_⟩
    · unfold rlo rhi rtg
      rw [gR_app]
      split
      · exact hc
      · exact hR.1 k (by omega)
    · unfold rlo rhi
      rw [gR_app, gR_app, if_neg (by omega)]
      split
      · have := hl (by omega)
        unfold rhi at this
        rw [show k = R.length - 1 by omega]
        exact this
      · exact hR.2 k (by omega)
    · unfold rhi
      rw [gR_app, hlen, if_pos (by omega)]
    · omega
def runsF (C : Cs) (rest : Nat) (l : List Nat) : List Run := (l.filter (fun i => (gC C i).2.2.1 != rest)).foldl (fun R i => jn R (gC C i)) []
def runsOf (C : Cs) (rest : Nat) : List Run := runsF C rest (ordL C)
theorem runsF_snoc {C : Cs} {rest : Nat} {l : List Nat} {i : Nat} : runsF C rest (l ++ [i]) = if ((gC C i).2.2.1 != rest) = true then jn (runsF C rest l) (gC C i) else runsF C rest l := by
  unfold runsF
  rw [List.filter_append, List.foldl_append]
  by_cases h : ((gC C i).2.2.1 != rest) = true
  · rw [if_pos h]
    simp only [List.filter_cons, if_pos h, List.filter_nil, List.foldl_cons, List.foldl_nil]
  · rw [if_neg h]
    simp only [List.filter_cons, if_neg h, List.filter_nil, List.foldl_nil]
/-- what holds of the runs of any first part of the cases by lows -/
theorem runsF_inv0 {C : Cs} {rest : Nat} (hC : cOk C) : ∀ (n : Nat) (l m : List Nat), l.length = n → ordL C = l ++ m → RInv (runsF C rest l) ∧ (runsF C rest l).length ≤ l.length ∧ rsum (runsF C rest l) ≤ 1000 * l.length ∧ (0 < (runsF C rest l).length → ∀ j ∈ m, (rhi (runsF C rest l) ((runsF C rest l).length - 1)).toInt < clo C j) := by
  intro n
  induction n with
  | zero =>
    intro l m h hm
    have : l = [] := List.eq_nil_of_length_eq_zero h
    subst this
    exact ⟨⟨fun k hk => (Nat.not_lt_zero _ hk).elim, fun k hk => (Nat.not_lt_zero _ hk).elim⟩, Nat.le_refl _, Nat.zero_le _, fun h => (Nat.not_lt_zero _ h).elim⟩
  | succ n ih =>
    intro l m h hm
    obtain ⟨l', i, rfl⟩ : ∃ l' i, l = l' ++ [i] := ⟨l.dropLast, l.getLast (by intro e; rw [e] at h; cases h), (List.dropLast_concat_getLast _).symm⟩
    have hl : l'.length = n := by simpa using h
    have hm' : ordL C = l' ++ (i :: m) := by rw [hm]; simp
    obtain ⟨h1, h2, h3, h4⟩ := ih l' (i :: m) hl hm'
    have hi : i ∈ ordL C := by rw [hm']; simp
    obtain ⟨c, hc⟩ := Option.isSome_iff_exists.mp ((ord_mem hC).mp hi)
    have hcc := hC.1 i c hc
    have hsort := ord_sort hC
    rw [hm', List.pairwise_append] at hsort
    have hlt : ∀ j ∈ m, c.2.1.toInt < clo C j := by
      intro j hj
      have h5 := (List.pairwise_cons.mp hsort.2.1).1 j hj
      have hjm : j ∈ ordL C := by rw [hm']; simp [hj]
      obtain ⟨d, hd⟩ := Option.isSome_iff_exists.mp ((ord_mem hC).mp hjm)
      have hij : i ≠ j := by intro e; rw [e] at h5; omega
      have h6 := hC.2 i j c d hij hc hd
      unfold clo at h5 ⊢
      rw [gC_some hc, gC_some hd] at h5
      rw [gC_some hd]
      have := (hC.1 j d hd).2.1
      omega
    rw [runsF_snoc, gC_some hc]
    split
    · obtain ⟨g1, g2, g3⟩ := jn_inv (c := c) h1 ⟨hcc.2.1, hcc.2.2.1⟩ (fun q => by have := h4 q i List.mem_cons_self; unfold clo at this; rw [gC_some hc] at this; exact this)
      refine ⟨g1, ?_, ?_, fun _ j hj => ?_⟩
      · rcases jn_len (R := runsF C rest l') (c := c) with e | e <;> omega
      · rw [jn_sum]; have := hcc.2.2.2; omega
      · rw [g2]; exact hlt j hj
    · refine ⟨h1, by omega, by omega, fun q j hj => h4 q j (List.mem_cons_of_mem _ hj)⟩
theorem runsF_inv {C : Cs} {rest : Nat} (hC : cOk C) (l m : List Nat) (hm : ordL C = l ++ m) : RInv (runsF C rest l) ∧ (runsF C rest l).length ≤ l.length ∧ rsum (runsF C rest l) ≤ 1000 * l.length ∧ (0 < (runsF C rest l).length → ∀ j ∈ m, (rhi (runsF C rest l) ((runsF C rest l).length - 1)).toInt < clo C j) := runsF_inv0 hC l.length l m rfl hm
theorem runs_inv {C : Cs} (hC : cOk C) (rest : Nat) : RInv (runsOf C rest) ∧ (runsOf C rest).length ≤ 24 ∧ rsum (runsOf C rest) ≤ 24000 := by
  have h := runsF_inv (rest := rest) hC (ordL C) [] (by simp)
  have hl := ord_len (C := C)
  exact ⟨h.1, Nat.le_trans h.2.1 hl, by show rsum (runsF C rest (ordL C)) ≤ 24000; have := h.2.2.1; omega⟩
