/-! Text: numbers in decimal, sixteen figures -/
def pay (cap n m : Nat) : Nat := pot cap - pot (capN cap n m)
theorem pay_add {cap n : Nat} (h : capOk cap) (a b : Nat) : pay cap n (a + b) = pay cap n a + pay (capN cap n a) (n + a) b := by
  unfold pay
  obtain ⟨h1, h2⟩ := capN_ok (n := n) h a
  obtain ⟨h3, h4⟩ := capN_ok (n := n + a) h1 b
  rw [capN_add]
  have := pot_le h2
  have := pot_le h4
  omega
/-- the list is appended to the text -/
def Ap (h : xH) (bs : List Nat) (cap : Nat) (ks : List Nat) (h' : xH) : Prop := vTx h' (bs ++ ks) (capN cap bs.length ks.length) ∧ xFt h h'
theorem Ap.tr {h h1 h2 : xH} {bs ks ms : List Nat} {cap : Nat} (a : Ap h bs cap ks h1) (b : Ap h1 (bs ++ ks) (capN cap bs.length ks.length) ms h2) : Ap h bs cap (ks ++ ms) h2 := by
  obtain ⟨b1, b2⟩ := b
  refine ⟨?_, a.2.tr b2⟩
  rw [List.length_append, capN_add, ← List.append_assoc]
  rw [List.length_append] at b1
  exact b1
def digL (m : Nat) : Nat → List Nat
  | 0 => []
  | j + 1 => (48 + m / 10 ^ j % 10) :: digL m j
theorem digL_len (m : Nat) : ∀ j, (digL m j).length = j
  | 0 => rfl
  | j + 1 => by rw [digL, List.length_cons, digL_len m j]
def plA (m : Nat) : Nat → Nat → Nat
  | 0, p => p
  | f + 1, p => if m < 10 ^ p then p else plA m f (p + 1)
def pl (m : Nat) : Nat := plA m 9 1
theorem plA_in {m : Nat} : ∀ f p, p ≤ plA m f p ∧ plA m f p ≤ p + f
  | 0, p => ⟨Nat.le_refl _, Nat.le_refl _⟩
  | f + 1, p => by
    rw [plA]
    split
    · omega
    · have := plA_in (m := m) f (p + 1); omega
def numL (v : Int32) : List Nat := (if v.toInt < 0 then [45] else []) ++ digL v.toInt.natAbs (pl v.toInt.natAbs)
theorem numL_len (v : Int32) : (numL v).length ≤ 11 := by
  unfold numL
  rw [List.length_append, digL_len]
  have := plA_in (m := v.toInt.natAbs) 9 1
  unfold pl
  split
  · simp only [List.length_singleton]; omega
  · simp only [List.length_nil]; omega
section
variable {G : xG} {h : xH} {bs : List Nat} {cap : Nat}
theorem tT_put {c : Nat} (hT : vTx h bs cap) (hc : c < 128) (hl : bs.length < 65536) : AM G mX3_put 2 (pay cap bs.length 1) [.ref 28, .int (nI c)] h (fun r h' => r = none ∧ Ap h bs cap [c] h') := tX3_put hT hc hl
theorem num_tail {v : Int32} {m p : Nat} (hm : m ≤ 4294967296) (hP : p ≤ 10) : ∀ r k (h1 : xH) (bs1 : List Nat) (cap1 : Nat), k + r = p → vTx h1 bs1 cap1 → bs1.length + r < 65536 → Ax G mX3_number 4 (pay cap1 bs1.length r) 59 [.ref 28, .int v, .long (lN m), .null, .long (lN (10 ^ r / 10)), .null, .int (nI p), .int (nI k)] [] h1 (fun q h' => q = none ∧ Ap h1 bs1 cap1 (digL m r) h') := by
  intro r
  induction r with
  | zero =>
    intro k h1 bs1 cap1 hk hT hl
    refine Ax_il7 dX3_number_59 ?_
    refine Ax_il6 dX3_number_61 ?_
    refine Ax_cmpgen (tgt := 104) dX3_number_63 (by decide) (by omega) (by omega) (fun c63 => ?_) (fun c63 => ?_)
    · exact Ax_ret dX3_number_104 rfl ⟨rfl, by rw [digL, List.append_nil]; exact hT, xFt.rf⟩
    · omega
  | succ r ih =>
    intro k h1 bs1 cap1 hk hT hl
    obtain ⟨ba, f, t, -⟩ := hT.ob
    have hok := hT.ok
    have e10 : 10 ^ (r + 1) / 10 = 10 ^ r := by rw [Nat.pow_succ, Nat.mul_div_cancel _ (by decide)]
    rw [e10]
    have hpos : 0 < 10 ^ r := Nat.pow_pos (by decide)
    have hlt : 10 ^ r < 10000000001 := by
      have : 10 ^ r ≤ 10 ^ 10 := Nat.pow_le_pow_right (by decide) (by omega)
      have e : (10 : Nat) ^ 10 = 10000000000 := by decide
      omega
    have hL1 := L_lN (n := 10 ^ r) (by omega)
    have hL0 : (lN 0).toInt = 0 := by decide
    have hd : m / 10 ^ r % 10 < 10 := Nat.mod_lt _ (by decide)
    have hmd : m / 10 ^ r ≤ m := Nat.div_le_self _ _
    have hc := pay_add (n := bs1.length) hok 1 r
    rw [Nat.add_comm 1 r] at hc
    generalize hgr : 10 ^ r = w at hL1 hpos hlt hd hmd ⊢
    refine Ax_il7 dX3_number_59 ?_
    refine Ax_il6 dX3_number_61 ?_
    refine Ax_cmpgen (tgt := 104) dX3_number_63 (by decide) (by omega) (by omega) (fun c63 => ?_) (fun c63 => ?_)
    · omega
    refine Ax_ll4 dX3_number_66 ?_
    refine Ax_lc0 dX3_number_68 ?_
    refine Ax_lcmp dX3_number_69 ?_
    refine Ax_ifleC (tgt := 104) dX3_number_70 (by decide) (fun c70 => ?_) (fun c70 => ?_)
    · omega
    refine Ax_al0 dX3_number_73 ?_
    refine Ax_ldc2 dX3_number_74 cX3_34 ?_
    refine Ax_topL (show (48 : Int64) = lN 48 from rfl) ?_
    refine Ax_ll2 dX3_number_77 ?_
    refine Ax_ll4 dX3_number_78 ?_
    refine Ax_ldivn dX3_number_80 (by omega) (by omega) (by omega) ?_
    refine Ax_ldc2 dX3_number_81 cX3_32 ?_
    refine Ax_topL (show (10 : Int64) = lN 10 from rfl) ?_
    refine Ax_lremn dX3_number_84 (by omega) (by omega) (by omega) ?_
    refine Ax_laddn dX3_number_85 ?_
    refine Ax_l2in dX3_number_86 ?_
    refine Ax_cVv dX3_number_87 vX3_28 kfX3 t (tT_put (G := G) hT (c := 48 + m / w % 10) (by omega) (by omega)) rfl rfl (by decide) (by simp [Value.category]) (by omega) (fun h2 q2 => ?_)
    obtain ⟨hT2, hF2⟩ := q2
    refine Ax_ll4 dX3_number_90 ?_
    refine Ax_ldc2 dX3_number_92 cX3_32 ?_
    refine Ax_topL (show (10 : Int64) = lN 10 from rfl) ?_
    refine Ax_ldivn dX3_number_95 (by omega) (by omega) (by omega) ?_
    refine Ax_ls4 dX3_number_96 (Nat.le_of_ble_eq_true rfl) (by rfl) ?_
    refine Ax_inc7_1n dX3_number_98 (Nat.le_of_ble_eq_true rfl) (by rfl) ?_
    refine Ax_goto (tgt := 59) dX3_number_101 (by decide) ?_
    refine Ax_b (b' := pay (capN cap1 bs1.length 1) (bs1.length + 1) r) (by omega) ?_
    have hih := ih (k + 1) h2 (bs1 ++ [48 + m / w % 10]) (capN cap1 bs1.length 1) (by omega) hT2 (by rw [List.length_append, List.length_singleton]; omega)
    rw [List.length_append, List.length_singleton, hgr] at hih
    refine Ax_post ?_ hih
    rintro q h' ⟨a1, a2⟩
    refine ⟨a1, ?_⟩
    rw [digL, hgr]
    exact Ap.tr (ks := [48 + m / w % 10]) ⟨hT2, hF2⟩ a2
theorem num_mid {v : Int32} {m : Nat} (hm : m ≤ 2147483648) {h1 : xH} {bs1 : List Nat} {cap1 : Nat} (hT : vTx h1 bs1 cap1) (hl : bs1.length + 10 < 65536) {x4 x5 x6 x7 : Value} : Ax G mX3_number 4 (pay cap1 bs1.length (pl m)) 18 [.ref 28, .int v, .long (lN m), .null, x4, x5, x6, x7] [] h1 (fun q h' => q = none ∧ Ap h1 bs1 cap1 (digL m (pl m)) h') := by
  refine Ax_lc1 dX3_number_18 ?_
  refine Ax_ls4 dX3_number_19 (Nat.le_of_ble_eq_true rfl) (by rfl) ?_
  refine Ax_ic1 dX3_number_21 ?_
  refine Ax_is6 dX3_number_22 (Nat.le_of_ble_eq_true rfl) (by rfl) ?_
  suffices hloop : ∀ q p, p + q = 9 → plA m q (p + 1) = pl m → Ax G mX3_number 4 (pay cap1 bs1.length (pl m)) 24 [.ref 28, .int v, .long (lN m), .null, .long (lN (10 ^ p)), .null, .int (nI (p + 1)), x7] [] h1 (fun q h' => q = none ∧ Ap h1 bs1 cap1 (digL m (pl m)) h') from
    Ax_L (L' := [.ref 28, .int v, .long (lN m), .null, .long (lN (10 ^ 0)), .null, .int (nI (0 + 1)), x7]) (by simp [x_sub]) (hloop 9 0 rfl rfl)
  have hexit : ∀ p, p ≤ 9 → p + 1 = pl m → Ax G mX3_number 4 (pay cap1 bs1.length (pl m)) 56 [.ref 28, .int v, .long (lN m), .null, .long (lN (10 ^ p)), .null, .int (nI (p + 1)), x7] [] h1 (fun q h' => q = none ∧ Ap h1 bs1 cap1 (digL m (pl m)) h') := by
    intro p hp hpl
    have := num_tail (G := G) (v := v) (m := m) (p := p + 1) (by omega) (by omega) (p + 1) 0 h1 bs1 cap1 (by omega) hT (by omega)
    rw [show 10 ^ (p + 1) / 10 = 10 ^ p by rw [Nat.pow_succ, Nat.mul_div_cancel _ (by decide)], hpl] at this
    rw [hpl]
    refine Ax_ic0 dX3_number_56 ?_
    refine Ax_is7 dX3_number_57 (Nat.le_of_ble_eq_true rfl) (by rfl) ?_
    exact this
  intro q
  induction q with
  | zero =>
    intro p hp hpl
    obtain rfl : p = 9 := by omega
    refine Ax_il6 dX3_number_24 ?_
    refine Ax_bp10 dX3_number_26 ?_
    refine Ax_cmpgen (tgt := 56) dX3_number_28 (by decide) (by omega) (by omega) (fun c28 => ?_) (fun c28 => ?_)
    · exact hexit 9 (by omega) hpl
    · omega
  | succ q ih =>
    intro p hp hpl
    have hpos : 0 < 10 ^ p := Nat.pow_pos (by decide)
    have hlt : 10 ^ p ≤ 1000000000 := by
      have : 10 ^ p ≤ 10 ^ 9 := Nat.pow_le_pow_right (by decide) (by omega)
      have e : (10 : Nat) ^ 9 = 1000000000 := by decide
      omega
    have e10 : 10 ^ (p + 1) = 10 ^ p * 10 := Nat.pow_succ _ _
    have hL1 := L_lN (n := m) (by omega)
    have hL2 := L_lN (n := 10 ^ p * 10) (by omega)
    rw [plA] at hpl
    rw [e10] at hpl
    refine Ax_il6 dX3_number_24 ?_
    refine Ax_bp10 dX3_number_26 ?_
    refine Ax_cmpgen (tgt := 56) dX3_number_28 (by decide) (by omega) (by omega) (fun c28 => ?_) (fun c28 => ?_)
    · omega
    refine Ax_ll2 dX3_number_31 ?_
    refine Ax_ll4 dX3_number_32 ?_
    refine Ax_ldc2 dX3_number_34 cX3_32 ?_
    refine Ax_topL (show (10 : Int64) = lN 10 from rfl) ?_
    refine Ax_lmuln dX3_number_37 ?_
    refine Ax_lcmp dX3_number_38 ?_
    refine Ax_ifltC (tgt := 56) dX3_number_39 (by decide) (fun c39 => ?_) (fun c39 => ?_)
    · rw [if_pos (by omega)] at hpl
      exact hexit p (by omega) hpl
    · rw [if_neg (by omega)] at hpl
      refine Ax_ll4 dX3_number_42 ?_
      refine Ax_ldc2 dX3_number_44 cX3_32 ?_
      refine Ax_topL (show (10 : Int64) = lN 10 from rfl) ?_
      refine Ax_lmuln dX3_number_47 ?_
      refine Ax_ls4 dX3_number_48 (Nat.le_of_ble_eq_true rfl) (by rfl) ?_
      refine Ax_inc6_1n dX3_number_50 (Nat.le_of_ble_eq_true rfl) (by rfl) ?_
      refine Ax_goto (tgt := 24) dX3_number_53 (by decide) ?_
      rw [← e10]
      exact ih (p + 1) (by omega) hpl
theorem tX3_number (v : Int32) (hT : vTx h bs cap) (hl : bs.length + 11 < 65536) : AM G mX3_number 4 (pay cap bs.length (numL v).length) [.ref 28, .int v] h (fun r h' => r = none ∧ Ap h bs cap (numL v) h') := by
  obtain ⟨ba, f, t, -⟩ := hT.ob
  have hok := hT.ok
  have hlo := I_lo v
  have hhi := I_hi v
  have hL0 : (lN 0).toInt = 0 := by decide
  have hv64 : v.toInt64.toInt = v.toInt := Int32.toInt_toInt64 v
  have hplen : ∀ m, pl m ≤ 10 := fun m => (plA_in (m := m) 9 1).2
  refine AM.of rfl rfl (Nat.le_of_ble_eq_true rfl) rfl ?_
  refine Ax_il1 dX3_number_0 ?_
  refine Ax_i2l dX3_number_1 ?_
  refine Ax_ls2 dX3_number_2 (Nat.le_of_ble_eq_true rfl) (by rfl) ?_
  refine Ax_ll2 dX3_number_3 ?_
  refine Ax_lc0 dX3_number_4 ?_
  refine Ax_lcmp dX3_number_5 ?_
  refine Ax_ifgeC (tgt := 18) dX3_number_6 (by decide) (fun c6 => ?_) (fun c6 => ?_)
  · have hn : ¬ v.toInt < 0 := by omega
    have e1 : v.toInt64 = lN v.toInt.natAbs := L_of (by rw [hv64]; omega) (by omega)
    have e2 : numL v = digL v.toInt.natAbs (pl v.toInt.natAbs) := by unfold numL; rw [if_neg hn, List.nil_append]
    rw [e2, digL_len, e1]
    exact num_mid (by omega) hT (by omega)
  · have hn : v.toInt < 0 := by omega
    have e1 : -v.toInt64 = lN v.toInt.natAbs := by
      rw [← Int64.zero_sub]
      have h0 : (0 : Int64).toInt = 0 := rfl
      exact L_of (by rw [L_sub (by omega) (by omega)]; omega) (by omega)
    have e2 : numL v = [45] ++ digL v.toInt.natAbs (pl v.toInt.natAbs) := by unfold numL; rw [if_pos hn]
    have hc := pay_add (n := bs.length) hok 1 (pl v.toInt.natAbs)
    rw [e2, List.length_append, digL_len, List.length_singleton]
    refine Ax_al0 dX3_number_9 ?_
    refine Ax_bp45 dX3_number_10 ?_
    refine Ax_cVv dX3_number_12 vX3_28 kfX3 t (tT_put (G := G) hT (c := 45) (by omega) (by omega)) rfl rfl (by decide) (by simp [Value.category]) (by omega) (fun h1 q1 => ?_)
    obtain ⟨hT1, hF1⟩ := q1
    refine Ax_ll2 dX3_number_15 ?_
    refine Ax_lneg dX3_number_16 ?_
    refine Ax_topL e1 ?_
    refine Ax_ls2 dX3_number_17 (Nat.le_of_ble_eq_true rfl) (by rfl) ?_
    refine Ax_b (b' := pay (capN cap bs.length 1) (bs.length + 1) (pl v.toInt.natAbs)) (by omega) ?_
    have hm := num_mid (G := G) (v := v) (m := v.toInt.natAbs) (by omega) hT1 (by rw [List.length_append, List.length_singleton]; omega) (x4 := .null) (x5 := .null) (x6 := .null) (x7 := .null)
    rw [List.length_append, List.length_singleton] at hm
    refine Ax_post ?_ hm
    rintro q h' ⟨a1, a2⟩
    exact ⟨a1, Ap.tr (ks := [45]) ⟨hT1, hF1⟩ a2⟩
end
