/-! pasted families of numbers -/
theorem wb_tb (n : Nat) : (lN n).toBitVec = BitVec.ofNat 64 n := rfl
theorem wb_inj {a b : Int64} (h : a.toBitVec = b.toBitVec) : a = b := Int64.toBitVec_inj.mp h
theorem wb_tn {n : Nat} (h : n < 2 ^ 64) : (lN n).toBitVec.toNat = n := by rw [wb_tb, BitVec.toNat_ofNat, Nat.mod_eq_of_lt h]
theorem wb_of (x : Int64) : ∃ n, n < 2 ^ 64 ∧ x = lN n := ⟨x.toBitVec.toNat, x.toBitVec.isLt, wb_inj (by rw [wb_tb]; simp)⟩
theorem wb_of32 (x : Int32) : ∃ n, n < 2 ^ 32 ∧ x = nI n := ⟨x.toBitVec.toNat, x.toBitVec.isLt, Int32.toBitVec_inj.mp (by show _ = BitVec.ofNat 32 _; simp)⟩
theorem wb_c : ∀ k, k < 64 → ((nI k).toInt64 &&& 63) = lN k := by decide +kernel
theorem wb_cu : ∀ k, k < 64 → ((nI k).toInt64.toUInt64 &&& Int64.toUInt64 63) = UInt64.ofNat k := by decide +kernel
theorem wb_sm : ∀ k, k < 64 → (BitVec.ofNat 64 k).smod 64 = BitVec.ofNat 64 k := by decide +kernel
theorem wb_pw {a b : Nat} (h : a ≤ b) : 2 ^ b = 2 ^ a * 2 ^ (b - a) := by rw [← Nat.pow_add]; congr 1; omega
theorem wb_lt2 {a b : Nat} (h : a < b) : 2 ^ a < 2 ^ b := Nat.pow_lt_pow_right (by decide) h
theorem wb_mod (n : Nat) : lN n = lN (n % 2 ^ 64) := wb_inj (by rw [wb_tb, wb_tb]; apply BitVec.eq_of_toNat_eq; rw [BitVec.toNat_ofNat, BitVec.toNat_ofNat, Nat.mod_mod])
theorem wb_shr {n k : Nat} (hn : n < 2 ^ 64) (hk : k < 64) : ((lN n).toUInt64 >>> ((nI k).toInt64.toUInt64 &&& Int64.toUInt64 63)).toInt64 = lN (n / 2 ^ k) := by
  rw [wb_cu k hk]
  apply wb_inj
  apply BitVec.eq_of_toNat_eq
  show ((lN n).toUInt64 >>> UInt64.ofNat k).toNat = (BitVec.ofNat 64 _).toNat
  have h1 : (UInt64.ofNat k).toNat = k := by
    show (BitVec.ofNat 64 k).toNat = k
    rw [BitVec.toNat_ofNat, Nat.mod_eq_of_lt (by omega)]
  have h2 : (lN n).toUInt64.toNat = n := wb_tn hn
  rw [UInt64.toNat_shiftRight, h1, h2, Nat.mod_eq_of_lt hk, Nat.shiftRight_eq_div_pow, BitVec.toNat_ofNat, Nat.mod_eq_of_lt (Nat.lt_of_le_of_lt (Nat.div_le_self _ _) hn)]
theorem wb_shl (n : Nat) {k : Nat} (hk : k < 64) : lN n <<< ((nI k).toInt64 &&& 63) = lN (n * 2 ^ k) := by
  rw [wb_c k hk]
  apply wb_inj
  rw [Int64.toBitVec_shiftLeft, wb_tb, wb_tb, wb_tb, wb_sm k hk]
  apply BitVec.eq_of_toNat_eq
  rw [BitVec.shiftLeft_eq', BitVec.toNat_shiftLeft, BitVec.toNat_ofNat, BitVec.toNat_ofNat, BitVec.toNat_ofNat, Nat.mod_eq_of_lt (show k < 2 ^ 64 by omega), Nat.shiftLeft_eq, Nat.mul_mod, Nat.mod_mod, ← Nat.mul_mod]
theorem wb_and {a b : Nat} (ha : a < 2 ^ 64) (hb : b < 2 ^ 64) : lN a &&& lN b = lN (a &&& b) := by
  apply wb_inj
  rw [Int64.toBitVec_and, wb_tb, wb_tb, wb_tb]
  apply BitVec.eq_of_toNat_eq
  rw [BitVec.toNat_and, BitVec.toNat_ofNat, BitVec.toNat_ofNat, BitVec.toNat_ofNat, Nat.mod_eq_of_lt ha, Nat.mod_eq_of_lt hb, Nat.mod_eq_of_lt (Nat.and_lt_two_pow _ hb)]
theorem wb_or {a b : Nat} (ha : a < 2 ^ 64) (hb : b < 2 ^ 64) : lN a ||| lN b = lN (a ||| b) := by
  apply wb_inj
  rw [Int64.toBitVec_or, wb_tb, wb_tb, wb_tb]
  apply BitVec.eq_of_toNat_eq
  rw [BitVec.toNat_or, BitVec.toNat_ofNat, BitVec.toNat_ofNat, BitVec.toNat_ofNat, Nat.mod_eq_of_lt ha, Nat.mod_eq_of_lt hb, Nat.mod_eq_of_lt (Nat.or_lt_two_pow ha hb)]
theorem wb_mask {n k : Nat} (hn : n < 2 ^ 64) (hk : k < 64) : lN n &&& lN (2 ^ k - 1) = lN (n % 2 ^ k) := by
  rw [wb_and hn (by have := wb_lt2 hk; omega), Nat.and_two_pow_sub_one_eq_mod]
theorem wb_a1 {n : Nat} (hn : n < 2 ^ 64) : lN n &&& 1 = lN (n % 2) := wb_mask (k := 1) hn (by decide)
theorem wb_bit {n k : Nat} (hn : n < 2 ^ 64) (hk : k < 64) : ((lN n).toUInt64 >>> ((nI k).toInt64.toUInt64 &&& Int64.toUInt64 63)).toInt64 &&& 1 = lN (n / 2 ^ k % 2) := by
  rw [wb_shr hn hk, wb_a1 (Nat.lt_of_le_of_lt (Nat.div_le_self _ _) hn)]
theorem fa_and (a b : Nat) : nI a &&& nI b = nI (a &&& b) := by
  apply Int32.toBitVec_inj.1
  show BitVec.ofNat 32 a &&& BitVec.ofNat 32 b = BitVec.ofNat 32 (a &&& b)
  apply BitVec.eq_of_getLsbD_eq
  intro i hi
  simp [hi]
theorem fa_or (a b : Nat) : nI a ||| nI b = nI (a ||| b) := by
  apply Int32.toBitVec_inj.1
  show BitVec.ofNat 32 a ||| BitVec.ofNat 32 b = BitVec.ofNat 32 (a ||| b)
  apply BitVec.eq_of_getLsbD_eq
  intro i hi
  simp [hi]
/-! how many bits: the steps of Integer.bitCount, of numbers below 65536 -/
def pop : Nat → Nat → Nat
  | 0, _ => 0
  | k + 1, n => n % 2 + pop k (n / 2)
def bs1 (n : Nat) : Nat := n - (n / 2 &&& 1431655765)
def bs2 (n : Nat) : Nat := (n &&& 858993459) + (n / 4 &&& 858993459)
def bs3 (n : Nat) : Nat := (n + n / 16) &&& 252645135
def bs4 (n : Nat) : Nat := n + n / 256
def bs5 (n : Nat) : Nat := n + n / 65536
def bs6 (n : Nat) : Nat := n &&& 63
theorem and_low (x m k : Nat) (hm : m < 2 ^ k) : x &&& m = (x % 2 ^ k) &&& m := by
  have h1 : x &&& m < 2 ^ k := Nat.and_lt_two_pow _ hm
  have h2 := Nat.and_mod_two_pow (a := x) (b := m) (n := k)
  rw [Nat.mod_eq_of_lt h1, Nat.mod_eq_of_lt hm] at h2
  exact h2
theorem and_two (x m : Nat) : x &&& m = ((x % 256) &&& (m % 256)) + 256 * ((x / 256) &&& (m / 256)) := by
  have h1 := Nat.and_mod_two_pow (a := x) (b := m) (n := 8)
  have h2 := Nat.and_div_two_pow (a := x) (b := m) (n := 8)
  have h3 := Nat.mod_add_div (x &&& m) 256
  rw [show (2 : Nat) ^ 8 = 256 from rfl] at h1 h2
  rw [h1, h2] at h3
  exact h3.symm
theorem b_small : ∀ a, a < 256 → bs1 a < 256 ∧ bs2 (bs1 a) < 69 ∧ bs2 (bs1 a) % 16 < 5 ∧ bs3 (bs2 (bs1 a)) = bs2 (bs1 a) % 16 + bs2 (bs1 a) / 16 ∧ bs3 (bs2 (bs1 a)) = pop 8 a := by decide +kernel
theorem bs1_two {a c : Nat} (ha : a < 256) (hc : c < 256) : bs1 (a + 256 * c) = bs1 a + 256 * bs1 c := by
  unfold bs1
  have e1 : (a + 256 * c) / 2 &&& 1431655765 = (a / 2 &&& 85) + 256 * (c / 2 &&& 85) := by
    rw [and_two]
    have e2 : (a + 256 * c) / 2 % 256 &&& 1431655765 % 256 = a / 2 &&& 85 := by
      rw [show 1431655765 % 256 = 85 from rfl, and_low _ 85 7 (by decide)]
      congr 1
      omega
    have e3 : (a + 256 * c) / 2 / 256 &&& 1431655765 / 256 = c / 2 &&& 85 := by
      rw [show (a + 256 * c) / 2 / 256 = c / 2 by omega, show 1431655765 / 256 = 5592405 from rfl, Nat.and_comm, and_low 5592405 (c / 2) 7 (by omega), Nat.and_comm]
    rw [e2, e3]
  have f : ∀ x : Nat, x < 256 → x / 2 &&& 1431655765 = x / 2 &&& 85 := by
    intro x hx
    rw [Nat.and_comm, and_low 1431655765 (x / 2) 7 (by omega), Nat.and_comm]
  rw [e1, f a ha, f c hc]
  have h1 : a / 2 &&& 85 ≤ a / 2 := Nat.and_le_left
  have h2 : c / 2 &&& 85 ≤ c / 2 := Nat.and_le_left
  omega
theorem bs2_two {a c : Nat} (ha : a < 256) (hc : c < 256) : bs2 (a + 256 * c) = bs2 a + 256 * bs2 c := by
  unfold bs2
  have f : ∀ x : Nat, x < 256 → x &&& 858993459 = x &&& 51 := by
    intro x hx
    rw [Nat.and_comm, and_low 858993459 x 8 (by omega), Nat.and_comm]
  have e1 : (a + 256 * c) &&& 858993459 = (a &&& 51) + 256 * (c &&& 51) := by
    rw [and_two, show (a + 256 * c) % 256 = a by omega, show (a + 256 * c) / 256 = c by omega, show 858993459 % 256 = 51 from rfl, show 858993459 / 256 = 3355443 from rfl]
    congr 2
    rw [Nat.and_comm, and_low 3355443 c 8 (by omega), Nat.and_comm]
  have e4 : (a + 256 * c) / 4 &&& 858993459 = (a / 4 &&& 51) + 256 * (c / 4 &&& 51) := by
    rw [and_two]
    have e2 : (a + 256 * c) / 4 % 256 &&& 858993459 % 256 = a / 4 &&& 51 := by
      rw [show 858993459 % 256 = 51 from rfl, and_low _ 51 6 (by decide)]
      congr 1
      omega
    have e3 : (a + 256 * c) / 4 / 256 &&& 858993459 / 256 = c / 4 &&& 51 := by
      rw [show (a + 256 * c) / 4 / 256 = c / 4 by omega, show 858993459 / 256 = 3355443 from rfl, Nat.and_comm, and_low 3355443 (c / 4) 6 (by omega), Nat.and_comm]
    rw [e2, e3]
  rw [e1, e4, f a ha, f c hc, f (a / 4) (by omega), f (c / 4) (by omega)]
  omega
theorem pop_two {a c : Nat} (ha : a < 256) : pop 16 (a + 256 * c) = pop 8 a + pop 8 c := by
  have key : ∀ k a c : Nat, a < 2 ^ k → pop (k + 8) (a + 2 ^ k * c) = pop k a + pop 8 c := by
    intro k
    induction k with
    | zero => intro a c h; have : a = 0 := by simpa using h
              subst this; simp [pop]
    | succ k ih =>
      intro a c h
      rw [Nat.pow_succ] at h ⊢
      show (a + 2 ^ k * 2 * c) % 2 + pop (k + 8) ((a + 2 ^ k * 2 * c) / 2) = (a % 2 + pop k (a / 2)) + pop 8 c
      have e1 : (a + 2 ^ k * 2 * c) % 2 = a % 2 := by
        rw [show 2 ^ k * 2 * c = 2 * (2 ^ k * c) by ac_rfl]; omega
      have e2 : (a + 2 ^ k * 2 * c) / 2 = a / 2 + 2 ^ k * c := by
        rw [show 2 ^ k * 2 * c = 2 * (2 ^ k * c) by ac_rfl]; omega
      rw [e1, e2, ih (a / 2) c (by omega)]
      omega
  exact key 8 a c ha
theorem bs_pop {n : Nat} (h : n < 65536) : bs6 (bs5 (bs4 (bs3 (bs2 (bs1 n))))) = pop 16 n := by
  obtain ⟨a, c, ha, hc, rfl⟩ : ∃ a c, a < 256 ∧ c < 256 ∧ n = a + 256 * c := ⟨n % 256, n / 256, by omega, by omega, by omega⟩
  obtain ⟨a1, a2, a3, a4, a5⟩ := b_small a ha
  obtain ⟨c1, c2, c3, c4, c5⟩ := b_small c hc
  rw [bs1_two ha hc, bs2_two a1 c1, pop_two ha, ← a5, ← c5, a4, c4]
  generalize bs2 (bs1 a) = x at *
  generalize bs2 (bs1 c) = y at *
  have e3 : bs3 (x + 256 * y) = (x % 16 + x / 16) + 256 * (y % 16 + y / 16) := by
    unfold bs3
    rw [and_two]
    have g : ∀ z w : Nat, z % 16 < 9 → z % 16 = w → z &&& 15 = w := by
      intro z w _ h2
      rw [show (15 : Nat) = 2 ^ 4 - 1 from rfl, Nat.and_two_pow_sub_one_eq_mod]
      exact h2
    have e1 : (x + 256 * y + (x + 256 * y) / 16) % 256 &&& 252645135 % 256 = x % 16 + x / 16 := by
      rw [show 252645135 % 256 = 15 from rfl]
      exact g _ _ (by omega) (by omega)
    have e2 : (x + 256 * y + (x + 256 * y) / 16) / 256 &&& 252645135 / 256 = y % 16 + y / 16 := by
      rw [show 252645135 / 256 = 986895 from rfl, show (x + 256 * y + (x + 256 * y) / 16) / 256 = y + y / 16 by omega, Nat.and_comm, and_low 986895 (y + y / 16) 8 (by omega), Nat.and_comm, show 986895 % 2 ^ 8 = 15 from rfl]
      exact g _ _ (by omega) (by omega)
    rw [e1, e2]
  rw [e3]
  have fin : ∀ p q : Nat, p < 9 → q < 9 → bs6 (bs5 (bs4 (p + 256 * q))) = p + q := by
    intro p q hp hq
    have e4 : bs4 (p + 256 * q) = p + 256 * q + q := by unfold bs4; omega
    have e5 : bs5 (p + 256 * q + q) = p + 256 * q + q := by unfold bs5; omega
    rw [e4, e5]
    unfold bs6
    rw [show (63 : Nat) = 2 ^ 6 - 1 from rfl, Nat.and_two_pow_sub_one_eq_mod]
    omega
  exact fin _ _ (by omega) (by omega)
theorem bs_v1 {n : Nat} (h : n < 65536) : nI n - (((nI n).toUInt32 >>> ((nI 1).toUInt32 &&& Int32.toUInt32 31)).toInt32 &&& 1431655765) = nI (bs1 n) := by
  rw [pk_ushrN (by omega) (nI 1) 1 (by decide), show (1431655765 : Int32) = nI 1431655765 from rfl, fa_and, pk_sub (Nat.le_trans Nat.and_le_left (Nat.div_le_self _ _))]
  rfl
theorem bs_l1 {n : Nat} (h : n < 65536) : bs1 n < 65536 := by unfold bs1; omega
theorem bs_v2 {n : Nat} (h : n < 65536) : (nI n &&& 858993459) + (((nI n).toUInt32 >>> ((nI 2).toUInt32 &&& Int32.toUInt32 31)).toInt32 &&& 858993459) = nI (bs2 n) := by
  rw [pk_ushrN (by omega) (nI 2) 2 (by decide), show (858993459 : Int32) = nI 858993459 from rfl, fa_and, fa_and, nI_add]
  rfl
theorem bs_l2 {n : Nat} : bs2 n < 1717986919 := by
  have h1 : n &&& 858993459 ≤ 858993459 := Nat.and_le_right
  have h2 : n / 4 &&& 858993459 ≤ 858993459 := Nat.and_le_right
  unfold bs2; omega
theorem bs_v3 {n : Nat} (h : n < 1717986919) : (nI n + ((nI n).toUInt32 >>> ((nI 4).toUInt32 &&& Int32.toUInt32 31)).toInt32) &&& 252645135 = nI (bs3 n) := by
  rw [pk_ushrN (by omega) (nI 4) 4 (by decide), show (252645135 : Int32) = nI 252645135 from rfl, nI_add, fa_and]
  rfl
theorem bs_l3 {n : Nat} : bs3 n < 252645136 := by
  have h1 : (n + n / 16) &&& 252645135 ≤ 252645135 := Nat.and_le_right
  unfold bs3; omega
theorem bs_v4 {n : Nat} (h : n < 252645136) : nI n + ((nI n).toUInt32 >>> ((nI 8).toUInt32 &&& Int32.toUInt32 31)).toInt32 = nI (bs4 n) := by
  rw [pk_ushrN (by omega) (nI 8) 8 (by decide), nI_add]
  rfl
theorem bs_l4 {n : Nat} (h : n < 252645136) : bs4 n < 505290272 := by unfold bs4; omega
theorem bs_v5 {n : Nat} (h : n < 505290272) : nI n + ((nI n).toUInt32 >>> ((nI 16).toUInt32 &&& Int32.toUInt32 31)).toInt32 = nI (bs5 n) := by
  rw [pk_ushrN (by omega) (nI 16) 16 (by decide), nI_add]
  rfl
theorem bs_v6 (n : Nat) : nI n &&& nI 63 = nI (bs6 n) := fa_and n 63
/-- one bit more -/
theorem pop_or : ∀ (k n t : Nat), t < k → pop k (n ||| 2 ^ t) = pop k n + if n.testBit t = true then 0 else 1
  | 0, n, t, h => by omega
  | k + 1, n, 0, h => by
    rw [pop, pop, Nat.pow_zero]
    have e1 : (n ||| 1) % 2 = 1 := by
      have : (n ||| 1).testBit 0 = true := by rw [Nat.testBit_or]; simp
      simpa [Nat.testBit_zero] using this
    have e2 : (n ||| 1) / 2 = n / 2 := by
      apply Nat.eq_of_testBit_eq
      intro i
      rw [Nat.testBit_div_two, Nat.testBit_div_two, Nat.testBit_or, show (1 : Nat) = 2 ^ 0 from rfl, Nat.testBit_two_pow]
      simp
    rw [e1, e2, Nat.testBit_zero]
    by_cases hb : n % 2 = 1
    · simp [hb]
    · have : n % 2 = 0 := by omega
      simp [this]
      omega
  | k + 1, n, t + 1, h => by
    rw [pop, pop]
    have e1 : (n ||| 2 ^ (t + 1)) % 2 = n % 2 := by
      have h2 : ∀ x : Nat, x % 2 = if x.testBit 0 = true then 1 else 0 := by
        intro x; rw [Nat.testBit_zero]; by_cases hx : x % 2 = 1 <;> simp [hx]; omega
      rw [h2, h2 n, Nat.testBit_or, Nat.testBit_two_pow]
      simp
    have e2 : (n ||| 2 ^ (t + 1)) / 2 = n / 2 ||| 2 ^ t := by
      apply Nat.eq_of_testBit_eq
      intro i
      rw [Nat.testBit_div_two, Nat.testBit_or, Nat.testBit_or, Nat.testBit_div_two, Nat.testBit_two_pow, Nat.testBit_two_pow]
      simp
    rw [e1, e2, pop_or k (n / 2) t (by omega), Nat.testBit_div_two]
    omega
/-- how many unlike numbers among T i .. T (i + n - 1) -/
def metB (T : Nat → Nat) (i k : Nat) : Bool := (fst (fun q => T q == T k) (k - i) i).isSome
def dcnt (T : Nat → Nat) (i : Nat) : Nat → Nat
  | 0 => 0
  | n + 1 => dcnt T i n + (metB T i (i + n)).not.toNat
def seenN (T : Nat → Nat) (i : Nat) : Nat → Nat
  | 0 => 0
  | n + 1 => seenN T i n ||| 2 ^ T (i + n)
theorem seen_bit {T : Nat → Nat} {i : Nat} : ∀ (n t : Nat), (seenN T i n).testBit t = true ↔ ∃ q, i ≤ q ∧ q < i + n ∧ T q = t
  | 0, t => by
    rw [seenN]
    constructor
    · intro h; simp at h
    · rintro ⟨q, h1, h2, -⟩; omega
  | n + 1, t => by
    rw [seenN, Nat.testBit_or, Bool.or_eq_true, seen_bit n t, Nat.testBit_two_pow, decide_eq_true_eq]
    constructor
    · rintro (⟨q, h1, h2, h3⟩ | h)
      · exact ⟨q, h1, by omega, h3⟩
      · exact ⟨i + n, by omega, by omega, h⟩
    · rintro ⟨q, h1, h2, h3⟩
      by_cases hq : q = i + n
      · right; rw [← h3, hq]
      · left; exact ⟨q, h1, by omega, h3⟩
theorem met_iff {T : Nat → Nat} {i k : Nat} (hk : i ≤ k) : metB T i k = true ↔ ∃ q, i ≤ q ∧ q < k ∧ T q = T k := by
  unfold metB
  cases h : fst (fun q => T q == T k) (k - i) i with
  | none =>
    have := fst_none _ _ h
    constructor
    · intro q; cases q
    · rintro ⟨q, h1, h2, h3⟩
      have := this q h1 (by omega)
      rw [h3] at this
      simp at this
  | some j =>
    obtain ⟨h1, h2, h3, -⟩ := fst_some _ _ _ h
    constructor
    · intro _; exact ⟨j, h1, by omega, eq_of_beq h3⟩
    · intro _; rfl
theorem dcnt_pop {T : Nat → Nat} {i : Nat} : ∀ n : Nat, (∀ q, i ≤ q → q < i + n → T q < 16) → pop 16 (seenN T i n) = dcnt T i n
  | 0, _ => by rw [seenN, dcnt]; decide
  | n + 1, h => by
    rw [seenN, dcnt, pop_or 16 _ _ (h (i + n) (by omega) (by omega)), dcnt_pop n (fun q h1 h2 => h q h1 (by omega))]
    have e := seen_bit (T := T) (i := i) n (T (i + n))
    have e2 := met_iff (T := T) (i := i) (k := i + n) (by omega)
    by_cases hb : metB T i (i + n) = true
    · rw [if_pos (e.mpr (e2.mp hb)), hb]; rfl
    · rw [if_neg (fun q => hb (e2.mpr (e.mp q))), Bool.eq_false_iff.mpr hb]; rfl
theorem seen_lt {T : Nat → Nat} {i : Nat} : ∀ n : Nat, (∀ q, i ≤ q → q < i + n → T q < 16) → seenN T i n < 65536
  | 0, _ => by rw [seenN]; decide
  | n + 1, h => by
    rw [seenN]
    exact Nat.or_lt_two_pow (n := 16) (seen_lt n (fun q h1 h2 => h q h1 (by omega))) (Nat.pow_lt_pow_right (by decide) (h (i + n) (by omega) (by omega)))
