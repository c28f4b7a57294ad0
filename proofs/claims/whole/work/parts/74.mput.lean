/-! the reference: bytes put -/
def xFo (h h' : xH) : Prop := (∀ q, (q ≠ 30 ∧ q ≠ 58) → h'.1 q = h.1 q) ∧ h'.2 = h.2
theorem xFo.rf {h : xH} : xFo h h := ⟨fun _ _ => rfl, rfl⟩
theorem xFo.tr {h h1 h2 : xH} (a : xFo h h1) (b : xFo h1 h2) : xFo h h2 := ⟨fun q hq => (b.1 q hq).trans (a.1 q hq), b.2.trans a.2⟩
/-- bytes ks have come behind bs -/
def mAp (O : Int32 → xC) (h : xH) (bs ks : List Nat) (h' : xH) : Prop := h'.1 30 = O (nI (bs ++ ks).length) ∧ mOut h' (bs ++ ks) ∧ xFo h h'
theorem mAp.tr {O : Int32 → xC} {h h1 h2 : xH} {bs ks ms : List Nat} (a : mAp O h bs ks h1) (b : mAp O h1 (bs ++ ks) ms h2) : mAp O h bs (ks ++ ms) h2 := by
  obtain ⟨b1, b2, b3⟩ := b
  rw [List.append_assoc] at b1 b2
  exact ⟨b1, b2, a.2.2.tr b3⟩
theorem wb_sfig {n k : Nat} (hk : k ≤ 60) : (lN n >>> ((nI k).toInt64 &&& 63)) &&& lN 15 = lN (n / 2 ^ k % 16) := by
  rw [wb_c k (by omega)]
  apply wb_inj
  rw [Int64.toBitVec_and, Int64.toBitVec_shiftRight]
  simp only [wb_tb]
  rw [wb_sm k (by omega)]
  apply BitVec.eq_of_getLsbD_eq
  intro i hi
  rw [BitVec.getLsbD_and, BitVec.sshiftRight_eq', BitVec.getLsbD_sshiftRight, BitVec.toNat_ofNat, Nat.mod_eq_of_lt (show k < 2 ^ 64 by omega), BitVec.getLsbD_ofNat, BitVec.getLsbD_ofNat, BitVec.getLsbD_ofNat, show (15 : Nat) = 2 ^ 4 - 1 from rfl, Nat.testBit_two_pow_sub_one, show (16 : Nat) = 2 ^ 4 from rfl, Nat.testBit_mod_two_pow, Nat.testBit_div_two_pow]
  by_cases q : i < 4
  · rw [if_pos (by omega), Nat.add_comm i k]
    simp [q, hi]
    rw [show decide (64 ≤ i) = false from decide_eq_false (by omega), show decide (k + i < 64) = true from decide_eq_true (by omega)]
    simp
  · simp [q]
theorem numL_nI {i : Nat} (h : i < 2147483648) : numL (nI i) = digL i (pl i) := by
  unfold numL
  rw [nI_toInt h, if_neg (by omega), List.nil_append, Int.natAbs_natCast]
def pw (j : Nat) : Nat := if j = 0 then 0 else 10 ^ (j - 1)
theorem pw_div (j : Nat) : 10 ^ j / 10 = pw j := by
  unfold pw
  cases j with
  | zero => rfl
  | succ j => rw [if_neg (Nat.succ_ne_zero j), Nat.pow_succ, Nat.mul_div_cancel _ (by decide), Nat.add_sub_cancel]
theorem pw_le {j : Nat} (hj : j ≤ 10) : 10 ^ j ≤ 10000000000 := by
  have := Nat.pow_le_pow_right (n := 10) (by decide) hj
  omega
section
variable {G : xG} {h : xH} {bs : List Nat} {cs cq rt rw dn sz wy rn kn ln pt tk os : Int32}
theorem tX6_put {c : Nat} (m : h.1 30 = mO cs cq rt rw dn sz wy rn kn ln pt tk (nI bs.length)) (hO : mOut h bs) (hc : c < 128) (hl : bs.length < 40000) : AM G mX6_put 0 0 [.ref 30, .int (nI c)] h (fun r h' => r = none ∧ mAp (mO cs cq rt rw dn sz wy rn kn ln pt tk) h bs [c] h') := by
  obtain ⟨p1, p2, p3⟩ := by_put c hc
  obtain ⟨f, m39, hf, hbl⟩ := hO
  refine AM.of rfl rfl (Nat.le_of_ble_eq_true rfl) rfl ?_
  have fr : ∀ q, (q ≠ 30 ∧ q ≠ 58) → h.1 q = h.1 q := fun _ _ => rfl
  have zr : h.2 = h.2 := rfl
  refine Ax_al0 dX6_put_0 ?_
  refine Ax_getf kfX6 fX6_104 dX6_put_1 m rfl ?_
  refine Ax_al0 dX6_put_4 ?_
  refine Ax_getf kfX6 fX6_225 dX6_put_5 m rfl ?_
  refine Ax_il1 dX6_put_8 ?_
  refine Ax_i2b dX6_put_9 ?_
  refine Ax_top p1 ?_
  refine Ax_bastn dX6_put_10 m39 (by omega) (by omega) (Ax_up (fun h1 e1 f1 z1 => ?_))
  replace m := (f1 _ (by omega)).trans m
  replace m39 := e1
  replace fr : ∀ q, (q ≠ 30 ∧ q ≠ 58) → h1.1 q = h.1 q := fun q hq => (f1 q (by omega)).trans (fr q hq)
  replace zr := z1.trans zr
  refine Ax_al0 dX6_put_11 ?_
  refine Ax_dup dX6_put_12 rfl ?_
  refine Ax_getf kfX6 fX6_225 dX6_put_13 m rfl ?_
  refine Ax_ic1 dX6_put_16 ?_
  refine Ax_iaddn dX6_put_17 ?_
  refine Ax_putf kfX6 fX6_225 dX6_put_18 m (Nat.le_of_ble_eq_true rfl) (Or.inl rfl) (by rfl) (by rfl) (Ax_up (fun h2 e2 f2 z2 => ?_))
  replace m := e2
  replace m39 := (f2 _ (by omega)).trans m39
  replace fr : ∀ q, (q ≠ 30 ∧ q ≠ 58) → h2.1 q = h.1 q := fun q hq => (f2 q (by omega)).trans (fr q hq)
  replace zr := z2.trans zr
  rw [p2] at m39
  refine Ax_ret dX6_put_21 rfl ⟨rfl, by rw [List.length_append]; exact m, ⟨_, m39, fun k hk => ?_, by rw [List.length_append, List.length_singleton]; omega⟩, fr, zr⟩
  rw [List.length_append, List.length_singleton] at hk
  by_cases e : k = bs.length
  · subst e
    rw [pk_us]
    simp
  · rw [pk_un e, hf k (by omega), List.getD_eq_getElem?_getD, List.getD_eq_getElem?_getD, List.getElem?_append_left (by omega)]
theorem plain_b {n : Nat} (hn : n < 4294967296) {h0 : xH} {bs0 done : List Nat} : ∀ j hh, j ≤ 10 → mAp (mO cs cq rt rw dn sz wy rn kn ln pt tk) h0 bs0 done hh → (bs0 ++ done).length + j < 40000 →
    Ax G mX6_plain 1 0 21 [.ref 30, .long (lN n), .null, .long (lN (pw j)), .null] [] hh (fun r h' => r = none ∧ mAp (mO cs cq rt rw dn sz wy rn kn ln pt tk) h0 bs0 (done ++ digL n j) h') := by
  intro j
  induction j generalizing done with
  | zero =>
    intro hh hj hA hl
    have l0 := L_lN (n := pw 0) (by decide)
    have l1 := L_lN (n := 0) (by decide)
    have e0 : pw 0 = 0 := rfl
    refine Ax_ll3 dX6_plain_21 ?_
    refine Ax_lc0 dX6_plain_22 ?_
    refine Ax_lcmp dX6_plain_23 ?_
    refine Ax_ifleC (tgt := 52) dX6_plain_24 (by decide) (fun c24 => ?_) (fun c24 => ?_)
    · rw [digL, List.append_nil]
      exact Ax_ret dX6_plain_52 rfl ⟨rfl, hA⟩
    · omega
  | succ j ih =>
    intro hh hj hA hl
    have e0 : pw (j + 1) = 10 ^ j := by unfold pw; rw [if_neg (Nat.succ_ne_zero j), Nat.add_sub_cancel]
    have b1 := pw_le (j := j) (by omega)
    have b2 : 0 < 10 ^ j := Nat.pow_pos (by decide)
    have b3 : n / 10 ^ j ≤ n := Nat.div_le_self _ _
    have l0 := L_lN (n := 10 ^ j) (by omega)
    have l1 := L_lN (n := 0) (by decide)
    have m := hA.1
    have hd : 48 + n / 10 ^ j % 10 < 128 := by omega
    rw [e0]
    refine Ax_ll3 dX6_plain_21 ?_
    refine Ax_lc0 dX6_plain_22 ?_
    refine Ax_lcmp dX6_plain_23 ?_
    refine Ax_ifleC (tgt := 52) dX6_plain_24 (by decide) (fun c24 => ?_) (fun c24 => ?_)
    · omega
    refine Ax_al0 dX6_plain_27 ?_
    refine Ax_ldc2 dX6_plain_28 cX6_248 ?_
    refine Ax_topL (show (48 : Int64) = lN 48 from rfl) ?_
    refine Ax_ll1 dX6_plain_31 ?_
    refine Ax_ll3 dX6_plain_32 ?_
    refine Ax_ldivn dX6_plain_33 (by omega) (by omega) (by omega) ?_
    refine Ax_ldc2 dX6_plain_34 cX6_246 ?_
    refine Ax_topL (show (10 : Int64) = lN 10 from rfl) ?_
    refine Ax_lremn dX6_plain_37 (by omega) (by omega) (by omega) ?_
    refine Ax_laddn dX6_plain_38 ?_
    refine Ax_l2in dX6_plain_39 ?_
    refine Ax_cVv dX6_plain_40 vX6_236 kfX6 m (tX6_put (G := G) m hA.2.1 hd (by omega)) rfl rfl (by decide) (by simp [Value.category]) (Nat.le_refl _) (fun h2 q2 => ?_)
    have hA2 := hA.tr q2
    refine Ax_ll3 dX6_plain_43 ?_
    refine Ax_ldc2 dX6_plain_44 cX6_246 ?_
    refine Ax_topL (show (10 : Int64) = lN 10 from rfl) ?_
    refine Ax_ldivn dX6_plain_47 (by omega) (by omega) (by omega) ?_
    refine Ax_ls3 dX6_plain_48 (Nat.le_of_ble_eq_true rfl) (by rfl) ?_
    refine Ax_goto (tgt := 21) dX6_plain_49 (by decide) ?_
    rw [pw_div]
    have hih := ih (done := done ++ [48 + n / 10 ^ j % 10]) h2 (by omega) hA2 (by rw [← List.append_assoc, List.length_append, List.length_singleton]; omega)
    rw [List.append_assoc] at hih
    exact hih
theorem tX6_plain {n : Nat} (m : h.1 30 = mO cs cq rt rw dn sz wy rn kn ln pt tk (nI bs.length)) (hO : mOut h bs) (hn : n < 4294967296) (hl : bs.length + 10 < 40000) : AM G mX6_plain 1 0 [.ref 30, .long (lN n)] h (fun r h' => r = none ∧ mAp (mO cs cq rt rw dn sz wy rn kn ln pt tk) h bs (digL n (pl n)) h') := by
  refine AM.of rfl rfl (Nat.le_of_ble_eq_true rfl) rfl ?_
  refine Ax_lc1 dX6_plain_0 ?_
  refine Ax_ls3 dX6_plain_1 (Nat.le_of_ble_eq_true rfl) (by rfl) ?_
  have l9 : (9 : Int64).toInt = 9 := by decide
  suffices hloop : ∀ f p, p + f = 9 → Ax G mX6_plain 1 0 2 [.ref 30, .long (lN n), .null, .long (lN (10 ^ p)), .null] [] h (fun r h' => r = none ∧ mAp (mO cs cq rt rw dn sz wy rn kn ln pt tk) h bs (digL n (plA n f (p + 1))) h') from hloop 9 0 rfl
  intro f
  induction f with
  | zero =>
    intro p hp
    obtain rfl : p = 9 := by omega
    have ld := L_lN (n := n / 10 ^ 9) (by omega)
    have hq : n / 10 ^ 9 ≤ 9 := by omega
    refine Ax_ll1 dX6_plain_2 ?_
    refine Ax_ll3 dX6_plain_3 ?_
    refine Ax_ldivn dX6_plain_4 (by omega) (by omega) (by omega) ?_
    refine Ax_ldc2 dX6_plain_5 cX6_244 ?_
    refine Ax_lcmp dX6_plain_8 ?_
    refine Ax_ifleC (tgt := 21) dX6_plain_9 (by decide) (fun c9 => ?_) (fun c9 => ?_)
    · have hb := plain_b (G := G) hn (h0 := h) (bs0 := bs) (done := []) 10 h (by omega) ⟨by rw [List.append_nil]; exact m, by rw [List.append_nil]; exact hO, xFo.rf⟩ (by rw [List.append_nil]; omega)
      exact hb
    · omega
  | succ f ih =>
    intro p hp
    have b1 := pw_le (j := p) (by omega)
    have b2 : 0 < 10 ^ p := Nat.pow_pos (by decide)
    have b3 : n / 10 ^ p ≤ n := Nat.div_le_self _ _
    have ld := L_lN (n := n / 10 ^ p) (by omega)
    have hlt : n / 10 ^ p ≤ 9 ↔ n < 10 ^ (p + 1) := by
      rw [Nat.pow_succ, Nat.mul_comm, ← Nat.div_lt_iff_lt_mul b2]
      omega
    refine Ax_ll1 dX6_plain_2 ?_
    refine Ax_ll3 dX6_plain_3 ?_
    refine Ax_ldivn dX6_plain_4 (by omega) (by omega) (by omega) ?_
    refine Ax_ldc2 dX6_plain_5 cX6_244 ?_
    refine Ax_lcmp dX6_plain_8 ?_
    refine Ax_ifleC (tgt := 21) dX6_plain_9 (by decide) (fun c9 => ?_) (fun c9 => ?_)
    · have e : plA n (f + 1) (p + 1) = p + 1 := by rw [plA, if_pos (hlt.mp (by omega))]
      rw [e]
      have hb := plain_b (G := G) hn (h0 := h) (bs0 := bs) (done := []) (p + 1) h (by omega) ⟨by rw [List.append_nil]; exact m, by rw [List.append_nil]; exact hO, xFo.rf⟩ (by rw [List.append_nil]; omega)
      have e0 : pw (p + 1) = 10 ^ p := by unfold pw; rw [if_neg (Nat.succ_ne_zero p), Nat.add_sub_cancel]
      rw [e0] at hb
      exact hb
    · have e : plA n (f + 1) (p + 1) = plA n f (p + 1 + 1) := by rw [plA, if_neg (fun q => by have := hlt.mpr q; omega)]
      rw [e]
      refine Ax_ll3 dX6_plain_12 ?_
      refine Ax_ldc2 dX6_plain_13 cX6_246 ?_
      refine Ax_topL (show (10 : Int64) = lN 10 from rfl) ?_
      refine Ax_lmuln dX6_plain_16 ?_
      refine Ax_ls3 dX6_plain_17 (Nat.le_of_ble_eq_true rfl) (by rfl) ?_
      refine Ax_goto (tgt := 2) dX6_plain_18 (by decide) ?_
      have hih := ih (p + 1) (by omega)
      rw [Nat.pow_succ] at hih
      exact hih
theorem tX6_number (m : h.1 30 = mO cs cq rt rw dn sz wy rn kn ln pt tk (nI bs.length)) (hO : mOut h bs) (hl : bs.length + 15 < 40000) (y : Int32) : AM G mX6_number 2 0 [.ref 30, .long y.toInt64] h (fun r h' => r = none ∧ mAp (mO cs cq rt rw dn sz wy rn kn ln pt tk) h bs ([32] ++ numL y) h') := by
  have l0 := L_lN (n := 0) (by decide)
  have i1 := I_lo y
  have i2 := I_hi y
  refine AM.of rfl rfl (Nat.le_of_ble_eq_true rfl) rfl ?_
  refine Ax_al0 dX6_number_0 ?_
  refine Ax_bp32 dX6_number_1 ?_
  refine Ax_cVv dX6_number_3 vX6_236 kfX6 m (tX6_put (G := G) (c := 32) m hO (by decide) (by omega)) rfl rfl (by decide) (by simp [Value.category]) (Nat.le_refl _) (fun h1 q1 => ?_)
  have hA1 := q1
  have m1 := hA1.1
  have hl1 : (bs ++ [32]).length = bs.length + 1 := by simp
  refine Ax_ll1 dX6_number_6 ?_
  refine Ax_lc0 dX6_number_7 ?_
  refine Ax_lcmp dX6_number_8 ?_
  refine Ax_ifgeC (tgt := 18) dX6_number_9 (by decide) (fun c9 => ?_) (fun c9 => ?_)
  · rw [Int32.toInt_toInt64] at c9
    have ey : y.toInt64 = lN y.toInt.natAbs := L_of (by rw [Int32.toInt_toInt64]; omega) (by omega)
    have en : numL y = digL y.toInt.natAbs (pl y.toInt.natAbs) := by unfold numL; rw [if_neg (by omega)]; rfl
    rw [en]
    refine Ax_al0 dX6_number_18 ?_
    refine Ax_ll1 dX6_number_19 ?_
    refine Ax_lc0 dX6_number_20 ?_
    refine Ax_lcmp dX6_number_21 ?_
    refine Ax_ifgeC (tgt := 30) dX6_number_22 (by decide) (fun c22 => ?_) (fun c22 => ?_)
    · rw [Int32.toInt_toInt64] at c22
      rw [ey]
      refine Ax_ll1 dX6_number_30 ?_
      refine Ax_cVv dX6_number_31 vX6_240 kfX6 m1 (tX6_plain (G := G) m1 hA1.2.1 (by omega) (by omega)) rfl rfl (by decide) (by simp [Value.category]) (Nat.le_refl _) (fun h2 q2 => ?_)
      exact Ax_ret dX6_number_34 rfl ⟨rfl, hA1.tr q2⟩
    · rw [Int32.toInt_toInt64] at c22
      omega
  · rw [Int32.toInt_toInt64] at c9
    have ey : -y.toInt64 = lN y.toInt.natAbs := by
      refine L_of ?_ (by omega)
      rw [Int64.toInt_neg, Int32.toInt_toInt64, Int.bmod]
      omega
    have en : numL y = [45] ++ digL y.toInt.natAbs (pl y.toInt.natAbs) := by unfold numL; rw [if_pos (by omega)]
    rw [en]
    refine Ax_al0 dX6_number_12 ?_
    refine Ax_bp45 dX6_number_13 ?_
    refine Ax_cVv dX6_number_15 vX6_236 kfX6 m1 (tX6_put (G := G) (c := 45) m1 hA1.2.1 (by decide) (by omega)) rfl rfl (by decide) (by simp [Value.category]) (Nat.le_refl _) (fun h2 q2 => ?_)
    have hA2 := hA1.tr q2
    have m2 := hA2.1
    have hl2 : (bs ++ ([32] ++ [45])).length = bs.length + 2 := by simp
    refine Ax_al0 dX6_number_18 ?_
    refine Ax_ll1 dX6_number_19 ?_
    refine Ax_lc0 dX6_number_20 ?_
    refine Ax_lcmp dX6_number_21 ?_
    refine Ax_ifgeC (tgt := 30) dX6_number_22 (by decide) (fun c22 => ?_) (fun c22 => ?_)
    · rw [Int32.toInt_toInt64] at c22
      omega
    · refine Ax_ll1 dX6_number_25 ?_
      refine Ax_lneg dX6_number_26 ?_
      refine Ax_topL (ey) ?_
      refine Ax_goto (tgt := 31) dX6_number_27 (by decide) ?_
      refine Ax_cVv dX6_number_31 vX6_240 kfX6 m2 (tX6_plain (G := G) m2 hA2.2.1 (by omega) (by omega)) rfl rfl (by decide) (by simp [Value.category]) (Nat.le_refl _) (fun h3 q3 => ?_)
      have hA3 := hA2.tr q3
      rw [List.append_assoc] at hA3
      exact Ax_ret dX6_number_34 rfl ⟨rfl, hA3⟩
theorem tX6_sixteen {r : Nat} (m : h.1 30 = mO cs cq rt rw dn sz wy rn kn ln pt tk (nI bs.length)) (hO : mOut h bs) (hl : bs.length + 20 < 40000) : AM G mX6_sixteen 1 0 [.ref 30, .long (lN r)] h (fun r' h' => r' = none ∧ mAp (mO cs cq rt rw dn sz wy rn kn ln pt tk) h bs ([32] ++ hexL r 16) h') := by
  refine AM.of rfl rfl (Nat.le_of_ble_eq_true rfl) rfl ?_
  refine Ax_al0 dX6_sixteen_0 ?_
  refine Ax_bp32 dX6_sixteen_1 ?_
  refine Ax_cVv dX6_sixteen_3 vX6_236 kfX6 m (tX6_put (G := G) (c := 32) m hO (by decide) (by omega)) rfl rfl (by decide) (by simp [Value.category]) (Nat.le_refl _) (fun h1 q1 => ?_)
  suffices hloop : ∀ j hh done x4, j ≤ 16 → mAp (mO cs cq rt rw dn sz wy rn kn ln pt tk) h bs done hh → (bs ++ done).length + j < 40000 → Ax G mX6_sixteen 1 0 9 [.ref 30, .long (lN r), .null, .int (nI (4 * j) - nI 4), x4] [] hh (fun r' h' => r' = none ∧ mAp (mO cs cq rt rw dn sz wy rn kn ln pt tk) h bs (done ++ hexL r j) h') by
    refine Ax_bp60 dX6_sixteen_6 ?_
    refine Ax_is3 dX6_sixteen_8 (Nat.le_of_ble_eq_true rfl) (by rfl) ?_
    exact hloop 16 h1 [32] _ (Nat.le_refl _) q1 (by rw [List.length_append, List.length_singleton]; omega)
  intro j
  induction j with
  | zero =>
    intro hh done x4 hj hA hl
    refine Ax_il3 dX6_sixteen_9 ?_
    refine Ax_iflt (tgt := 56) dX6_sixteen_10 (by decide) (fun c10 => ?_) (fun c10 => ?_)
    · rw [hexL, List.append_nil]
      exact Ax_ret dX6_sixteen_56 rfl ⟨rfl, hA⟩
    · exact absurd (by decide) c10
  | succ j ih =>
    intro hh done x4 hj hA hl
    have m := hA.1
    have es : nI (4 * (j + 1)) - nI 4 = nI (4 * j) := by rw [pk_sub (by omega)]; congr 1
    have ef := wb_sfig (n := r) (k := 4 * j) (by omega)
    have hf16 : r / 2 ^ (4 * j) % 16 < 16 := Nat.mod_lt _ (by decide)
    rw [es]
    have hnext : ∀ h2 x4, mAp (mO cs cq rt rw dn sz wy rn kn ln pt tk) hh (bs ++ done) [hx (r / 2 ^ (4 * j) % 16)] h2 → Ax G mX6_sixteen 1 0 50 [.ref 30, .long (lN r), .null, .int (nI (4 * j)), x4] [] h2 (fun r' h' => r' = none ∧ mAp (mO cs cq rt rw dn sz wy rn kn ln pt tk) h bs (done ++ hexL r (j + 1)) h') := by
      intro h2 x4 hB
      refine Ax_inc3_m4 dX6_sixteen_50 (Nat.le_of_ble_eq_true rfl) (by rfl) ?_
      refine Ax_goto (tgt := 9) dX6_sixteen_53 (by decide) ?_
      rw [show nI (4 * j) + (-4) = nI (4 * j) - nI 4 by rw [Int32.sub_eq_add_neg]; rfl]
      have hih := ih h2 (done ++ [hx (r / 2 ^ (4 * j) % 16)]) x4 (by omega) (hA.tr hB) (by rw [← List.append_assoc, List.length_append, List.length_singleton]; omega)
      rw [List.append_assoc] at hih
      exact hih
    refine Ax_il3 dX6_sixteen_9 ?_
    refine Ax_ifltn (tgt := 56) dX6_sixteen_10 (by decide) (by omega) ?_
    refine Ax_ll1 dX6_sixteen_13 ?_
    refine Ax_il3 dX6_sixteen_14 ?_
    refine Ax_lshr dX6_sixteen_15 ?_
    refine Ax_ldc2 dX6_sixteen_16 cX6_108 ?_
    refine Ax_topL (show (15 : Int64) = lN 15 from rfl) ?_
    refine Ax_land dX6_sixteen_19 ?_
    refine Ax_topL (ef) ?_
    refine Ax_l2in dX6_sixteen_20 ?_
    refine Ax_is4 dX6_sixteen_21 (Nat.le_of_ble_eq_true rfl) (by rfl) ?_
    refine Ax_al0 dX6_sixteen_23 ?_
    refine Ax_il4 dX6_sixteen_24 ?_
    refine Ax_bp10 dX6_sixteen_26 ?_
    refine Ax_cmpgen (tgt := 39) dX6_sixteen_28 (by decide) (by omega) (by omega) (fun c28 => ?_) (fun c28 => ?_)
    · have eh : hx (r / 2 ^ (4 * j) % 16) = 55 + r / 2 ^ (4 * j) % 16 := by unfold hx; rw [if_neg (by omega)]
      refine Ax_bp65 dX6_sixteen_39 ?_
      refine Ax_il4 dX6_sixteen_41 ?_
      refine Ax_iaddn dX6_sixteen_43 ?_
      refine Ax_bp10 dX6_sixteen_44 ?_
      refine Ax_isubn dX6_sixteen_46 (by omega) ?_
      refine Ax_top (show nI (65 + r / 2 ^ (4 * j) % 16 - 10) = nI (55 + r / 2 ^ (4 * j) % 16) by congr 1; omega) ?_
      refine Ax_cVv dX6_sixteen_47 vX6_236 kfX6 m (tX6_put (G := G) (c := 55 + r / 2 ^ (4 * j) % 16) m hA.2.1 (by omega) (by omega)) rfl rfl (by decide) (by simp [Value.category]) (Nat.le_refl _) (fun h2 q2 => ?_)
      rw [← eh] at q2
      exact hnext _ _ q2
    · have eh : hx (r / 2 ^ (4 * j) % 16) = 48 + r / 2 ^ (4 * j) % 16 := by unfold hx; rw [if_pos (by omega)]
      refine Ax_bp48 dX6_sixteen_31 ?_
      refine Ax_il4 dX6_sixteen_33 ?_
      refine Ax_iaddn dX6_sixteen_35 ?_
      refine Ax_goto (tgt := 47) dX6_sixteen_36 (by decide) ?_
      refine Ax_cVv dX6_sixteen_47 vX6_236 kfX6 m (tX6_put (G := G) (c := 48 + r / 2 ^ (4 * j) % 16) m hA.2.1 (by omega) (by omega)) rfl rfl (by decide) (by simp [Value.category]) (Nat.le_refl _) (fun h2 q2 => ?_)
      rw [← eh] at q2
      exact hnext _ _ q2
end
