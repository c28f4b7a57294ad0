/-! mathematics of the code: lines as kind, first, second, row of bits, cluster -/
abbrev Ln : Type := Nat × Int32 × Int32 × Nat × Nat
def zL : Ln := (3, 0, 0, 0, 0)
def gL (L : List Ln) (k : Nat) : Ln := L.getD k zL
theorem gL_app {A B : List Ln} (k : Nat) : gL (A ++ B) k = if k < A.length then gL A k else gL B (k - A.length) := by
  unfold gL
  rw [List.getD_eq_getElem?_getD, List.getD_eq_getElem?_getD, List.getD_eq_getElem?_getD]
  split
  · rename_i q; rw [List.getElem?_append_left q]
  · rename_i q; rw [List.getElem?_append_right (by omega)]
theorem gL_set {A : List Ln} {i : Nat} {x : Ln} (hi : i < A.length) (k : Nat) : gL (A.set i x) k = if k = i then x else gL A k := by
  unfold gL
  rw [List.getD_eq_getElem?_getD, List.getD_eq_getElem?_getD]
  by_cases h : k = i
  · subst h; rw [List.getElem?_set_self hi]; simp
  · rw [if_neg h, List.getElem?_set_ne (Ne.symm h)]
/-- numbers in tables among the first k lines -/
def tsz (l : Ln) : Nat := if l.1 = 5 then l.2.2.1.toInt.toNat else 0
def tsum (L : List Ln) : Nat := (L.map tsz).sum
theorem tsum_app (A B : List Ln) : tsum (A ++ B) = tsum A + tsum B := by unfold tsum; simp
theorem tsum_cons (a : Ln) (B : List Ln) : tsum (a :: B) = tsz a + tsum B := by unfold tsum; simp
/-- the target of the int z among n runs from f on -/
def tvI (R : List Run) (rest f n : Nat) (z : Int) : Nat := match fst (fun k => decide ((rlo R k).toInt ≤ z ∧ z ≤ (rhi R k).toInt)) n f with
  | some k => rtg R k
  | none => rest
/-- a number by its bits -/
def bitsN (p : Nat → Bool) : Nat → Nat
  | 0 => 0
  | n + 1 => bitsN p n ||| (if p n = true then 2 ^ n else 0)
theorem bitsN_bit {p : Nat → Bool} : ∀ n b, (bitsN p n).testBit b = (decide (b < n) && p b)
  | 0, b => by simp [bitsN]
  | n + 1, b => by
    rw [bitsN, Nat.testBit_or, bitsN_bit n b]
    by_cases hb : b = n
    · subst hb
      by_cases hp : p b = true
      · rw [if_pos hp, Nat.testBit_two_pow_self, hp]; simp
      · rw [if_neg hp]; simp [hp]
    · have h2 : (if p n = true then 2 ^ n else 0).testBit b = false := by
        split
        · rw [Nat.testBit_two_pow]; simp; omega
        · simp
      rw [h2, Bool.or_false]
      have : decide (b < n) = decide (b < n + 1) := by
        apply decide_eq_decide.mpr
        omega
      rw [this]
theorem bitsN_lt {p : Nat → Bool} : ∀ n, bitsN p n < 2 ^ n
  | 0 => by simp [bitsN]
  | n + 1 => by
    rw [bitsN]
    have h1 := bitsN_lt (p := p) n
    have h2 : 2 ^ n < 2 ^ (n + 1) := Nat.pow_lt_pow_right (by decide) (by omega)
    exact Nat.or_lt_two_pow (by omega) (by split <;> omega)
def bitB (R : List Run) (f n t b : Nat) : Bool := (fst (fun k => rtg R k == t && (decide ((rlo R k).toInt - (rlo R f).toInt ≤ b) && decide ((b : Int) ≤ (rhi R k).toInt - (rlo R f).toInt))) n f).isSome
theorem bitB_iff {R : List Run} {f n t b : Nat} : bitB R f n t b = true ↔ bitP R f n t b := by
  unfold bitB bitP
  cases h : fst (fun k => rtg R k == t && (decide ((rlo R k).toInt - (rlo R f).toInt ≤ b) && decide ((b : Int) ≤ (rhi R k).toInt - (rlo R f).toInt))) n f with
  | none =>
    have := fst_none _ _ h
    constructor
    · intro q; cases q
    · rintro ⟨k, h1, h2, h3, h4, h5⟩
      have := this k h1 h2
      simp [h3, h4, h5] at this
  | some j =>
    obtain ⟨h1, h2, h3, -⟩ := fst_some _ _ _ h
    simp only [Bool.and_eq_true, beq_iff_eq, decide_eq_true_eq] at h3
    constructor
    · intro _; exact ⟨j, h1, by omega, h3.1, h3.2.1, h3.2.2⟩
    · intro _; rfl
def rowN (R : List Run) (f n t : Nat) : Nat := bitsN (bitB R f n t) 64
theorem rowN_is (R : List Run) (f n t : Nat) : IsRow R f n t (rowN R f n t) := by
  refine ⟨bitsN_lt 64, fun b hb => ?_⟩
  unfold rowN
  rw [bitsN_bit, decide_eq_true hb, Bool.true_and]
  exact bitB_iff
def bitLs (R : List Run) (b : Int32) (c f n0 : Nat) : Nat → List Ln
  | 0 => []
  | n + 1 => bitLs R b c f n0 n ++ (if metB (rtg R) f (f + n) = true then [] else [(4, b, nI (rtg R (f + n)), rowN R f n0 (rtg R (f + n)), c)])
theorem bitLs_len {R : List Run} {b : Int32} {c f n0 : Nat} : ∀ n, (bitLs R b c f n0 n).length = dcnt (rtg R) f n
  | 0 => rfl
  | n + 1 => by
    rw [bitLs, dcnt, List.length_append, bitLs_len n]
    split
    · rename_i q; rw [q]; rfl
    · rename_i q; rw [Bool.eq_false_iff.mpr q]; rfl
theorem bitLs_kind {R : List Run} {b : Int32} {c f n0 : Nat} {l : Ln} : ∀ n, l ∈ bitLs R b c f n0 n → l.1 = 4 ∧ l.2.1 = b ∧ ∃ k, f ≤ k ∧ k < f + n ∧ l.2.2.1 = nI (rtg R k) ∧ l.2.2.2.1 = rowN R f n0 (rtg R k)
  | 0, h => absurd h List.not_mem_nil
  | n + 1, h => by
    rw [bitLs] at h
    rcases List.mem_append.mp h with h | h
    · obtain ⟨h1, h2, k, h3, h4, h5⟩ := bitLs_kind n h
      exact ⟨h1, h2, k, h3, by omega, h5⟩
    · split at h
      · exact absurd h List.not_mem_nil
      · rw [List.mem_singleton] at h
        subst h
        exact ⟨rfl, rfl, f + n, by omega, by omega, rfl, rfl⟩
theorem bitLs_tsum {R : List Run} {b : Int32} {c f n0 : Nat} : ∀ n, tsum (bitLs R b c f n0 n) = 0
  | 0 => rfl
  | n + 1 => by
    rw [bitLs, tsum_app, bitLs_tsum n]
    split
    · rfl
    · rfl
theorem cls_mono {R : List Run} {dens size : Nat} : ∀ (i j : Nat), i ≤ j → j < (clsOf R dens size).length → cf (clsOf R dens size) i ≤ cl (clsOf R dens size) j
  | i, 0, h, hj => by
    obtain rfl : i = 0 := by omega
    exact (ClOk.at _ _ 0 (cls_ok R dens size) hj).2.1
  | i, j + 1, h, hj => by
    have h1 := ClOk.at _ _ (j + 1) (cls_ok R dens size) hj
    by_cases e : i = j + 1
    · subst e; exact h1.2.1
    · have h2 := cls_mono (R := R) (dens := dens) (size := size) i j (by omega) (by omega)
      have h3 := (ClOk.at _ _ j (cls_ok R dens size) (by omega)).2.2.2.2.1 hj
      omega
noncomputable section
def cn (R : List Run) (dens size c : Nat) : Nat := cl (clsOf R dens size) c - cf (clsOf R dens size) c + 1
def csp (R : List Run) (dens size c : Nat) : Nat := spn R (cf (clsOf R dens size) c) (cl (clsOf R dens size) c)
def bodyL (R : List Run) (dens size c : Nat) : List Ln :=
  if ckd R dens size c = 0 then [(3, nI (rtg R (cf (clsOf R dens size) c)), 0, 0, c)]
  else if ckd R dens size c = 1 then bitLs R (cbt R dens size c) c (cf (clsOf R dens size) c) (cn R dens size c) (cn R dens size c)
  else [(5, cbt R dens size c, nI (csp R dens size c), 0, c)]
def leafAB (R : List Run) (dens size rest c : Nat) (a b : Bool) (s : Nat) : List Ln :=
  if ckd R dens size c = 0 ∧ cbt R dens size c = ctp R dens size c then [(2, cbt R dens size c, nI (rtg R (cf (clsOf R dens size) c)), 0, c), (3, nI rest, 0, 0, c)]
  else (if a = true then [(0, cbt R dens size c, nI (s + (a.toNat + b.toNat + (bodyL R dens size c).length)), 0, c)] else []) ++ ((if b = true then [(1, ctp R dens size c, nI (s + (a.toNat + b.toNat + (bodyL R dens size c).length)), 0, c)] else []) ++ (bodyL R dens size c ++ (if ckd R dens size c = 1 ∨ a = true ∨ b = true then [(3, nI rest, 0, 0, c)] else [])))
def leafL (R : List Run) (dens size rest c : Nat) (le gr : Int32) (s : Nat) : List Ln := leafAB R dens size rest c (decide (le.toInt < (cbt R dens size c).toInt)) (decide ((ctp R dens size c).toInt < gr.toInt)) s
def lay (R : List Run) (dens size way rest : Nat) : Nat → Nat → Nat → Int32 → Int32 → Nat → List Ln
  | 0, _, _, _, _, _ => []
  | f + 1, i, j, le, gr, s =>
    if j ≤ i then leafL R dens size rest i le gr s
    else (0, cbt R dens size (spF R dens size way i j), nI (s + 1 + (lay R dens size way rest f (spF R dens size way i j) j (cbt R dens size (spF R dens size way i j)) gr (s + 1)).length), 0, 0) ::
      (lay R dens size way rest f (spF R dens size way i j) j (cbt R dens size (spF R dens size way i j)) gr (s + 1) ++
       lay R dens size way rest f i (spF R dens size way i j - 1) le (cbt R dens size (spF R dens size way i j) - 1) (s + 1 + (lay R dens size way rest f (spF R dens size way i j) j (cbt R dens size (spF R dens size way i j)) gr (s + 1)).length))
def codeOf (R : List Run) (dens size way rest : Nat) : List Ln :=
  if (clsOf R dens size).length = 0 then [(3, nI rest, 0, 0, 0)]
  else lay R dens size way rest 24 0 ((clsOf R dens size).length - 1) (-2147483648) 2147483647 0
end
section
variable {R : List Run} {dens size way rest : Nat}
theorem kd_one {i j : Nat} (h : kd R dens size i j = some 1) : i ≠ j ∧ spn R i j ≤ 64 ∧ dcnt (rtg R) i (j - i + 1) ≤ 3 := by
  unfold kd at h
  split at h
  · cases h
  · rename_i q
    split at h
    · rename_i z; exact ⟨q, z.1, z.2⟩
    · split at h <;> cases h
theorem kd_two {i j : Nat} (h : kd R dens size i j = some 2) : i ≠ j ∧ spn R i j ≤ size := by
  unfold kd at h
  split at h
  · cases h
  · rename_i q
    split at h
    · cases h
    · split at h
      · rename_i z; exact ⟨q, z.1⟩
      · cases h
theorem kd_zero {i j : Nat} (h : kd R dens size i j = some 0) : i = j := by
  unfold kd at h
  split at h
  · rename_i q; exact q
  · split at h
    · cases h
    · split at h <;> cases h
theorem body_len {c : Nat} (hc : c < (clsOf R dens size).length) : (bodyL R dens size c).length ≤ 3 := by
  unfold bodyL
  split
  · exact Nat.le_of_ble_eq_true rfl
  · split
    · rename_i q
      rw [bitLs_len]
      have h := ckd_is hc
      rw [q] at h
      exact (kd_one h).2.2
    · exact Nat.le_of_ble_eq_true rfl
theorem leafAB_len {c : Nat} (hc : c < (clsOf R dens size).length) (a b : Bool) (s : Nat) : (leafAB R dens size rest c a b s).length ≤ 6 := by
  have := body_len hc
  unfold leafAB
  split
  · exact Nat.le_of_ble_eq_true rfl
  · rw [List.length_append, List.length_append, List.length_append]
    split <;> split <;> split <;> simp only [List.length_cons, List.length_nil] <;> omega
theorem leafAB_tsum {c : Nat} (hc : c < (clsOf R dens size).length) (hsz : size ≤ 256) (a b : Bool) (s : Nat) : tsum (leafAB R dens size rest c a b s) ≤ 128 * cn R dens size c ∧ (ckd R dens size c = 2 → tsum (leafAB R dens size rest c a b s) = csp R dens size c) ∧ (ckd R dens size c ≠ 2 → tsum (leafAB R dens size rest c a b s) = 0) := by
  have h := ckd_is hc
  have h3 := ckd_lt hc
  have hb : tsum (bodyL R dens size c) = if ckd R dens size c = 2 then csp R dens size c else 0 := by
    unfold bodyL
    split
    · rename_i q; rw [if_neg (by omega)]; rfl
    · split
      · rename_i q; rw [if_neg (by omega), bitLs_tsum]
      · rename_i q1 q2
        have q : ckd R dens size c = 2 := by omega
        rw [if_pos q]
        rw [q] at h
        have hs := (kd_two h).2
        have : (nI (csp R dens size c)).toInt = (csp R dens size c : Int) := nI_toInt (by unfold csp; omega)
        rw [tsum_cons, show tsum ([] : List Ln) = 0 from rfl]
        unfold tsz
        rw [if_pos rfl]
        show (nI (csp R dens size c)).toInt.toNat + 0 = _
        rw [this]
        simp
  have ht : tsum (leafAB R dens size rest c a b s) = if ckd R dens size c = 2 then csp R dens size c else 0 := by
    unfold leafAB
    split
    · rename_i q; rw [if_neg (by omega)]; rfl
    · rw [tsum_app, tsum_app, tsum_app, hb]
      split <;> split <;> split <;> (try split) <;> simp [tsum, tsz]
  refine ⟨?_, fun q => by rw [ht, if_pos q], fun q => by rw [ht, if_neg q]⟩
  rw [ht]
  split
  · rename_i q
    rw [q] at h
    have hk := kd_two h
    have hcl := ClOk.at _ _ c (cls_ok R dens size) hc
    unfold csp cn
    omega
  · exact Nat.zero_le _
theorem lay_bounds (hl : (clsOf R dens size).length ≤ 24) (hsz : size ≤ 256) : ∀ f i j le gr s, i ≤ j → j < (clsOf R dens size).length → (lay R dens size way rest f i j le gr s).length + 1 ≤ 7 * (j - i + 1) ∧ tsum (lay R dens size way rest f i j le gr s) + 128 * cf (clsOf R dens size) i ≤ 128 * (cl (clsOf R dens size) j + 1)
  | 0, i, j, le, gr, s, hij, hj => by
    have h1 := cls_mono (R := R) (dens := dens) (size := size) i j hij hj
    rw [lay]
    refine ⟨by simp; omega, ?_⟩
    show 0 + _ ≤ _
    omega
  | f + 1, i, j, le, gr, s, hij, hj => by
    rw [lay]
    split
    · rename_i q
      obtain rfl : i = j := by omega
      have h1 := leafAB_len (rest := rest) hj (decide (le.toInt < (cbt R dens size i).toInt)) (decide ((ctp R dens size i).toInt < gr.toInt)) s
      have h2 := (leafAB_tsum (rest := rest) hj hsz (decide (le.toInt < (cbt R dens size i).toInt)) (decide ((ctp R dens size i).toInt < gr.toInt)) s).1
      have h3 := ClOk.at _ _ i (cls_ok R dens size) hj
      unfold leafL
      unfold cn at h2
      exact ⟨by omega, by omega⟩
    · rename_i q
      obtain ⟨m1, m2⟩ := spF_in (R := R) (dens := dens) (size := size) (way := way) (i := i) (j := j) (by omega) (by omega)
      obtain ⟨a1, a2⟩ := lay_bounds hl hsz f (spF R dens size way i j) j (cbt R dens size (spF R dens size way i j)) gr (s + 1) m2 hj
      obtain ⟨b1, b2⟩ := lay_bounds hl hsz f i (spF R dens size way i j - 1) le (cbt R dens size (spF R dens size way i j) - 1) (s + 1 + (lay R dens size way rest f (spF R dens size way i j) j (cbt R dens size (spF R dens size way i j)) gr (s + 1)).length) (by omega) (by omega)
      have h5 := (ClOk.at _ _ (spF R dens size way i j - 1) (cls_ok R dens size) (by omega)).2.2.2.2.1 (by omega)
      rw [show spF R dens size way i j - 1 + 1 = spF R dens size way i j by omega] at h5
      rw [tsum_cons, tsum_app, List.length_cons, List.length_append]
      refine ⟨by omega, ?_⟩
      show 0 + _ + _ ≤ _
      omega
end
