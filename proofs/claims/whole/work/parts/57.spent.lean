/-! ChoiceCode: the least int in no case, spent -/
def inC (C : Cs) (k : Nat) (x : Int) : Prop := (C k).isSome = true ∧ (gC C k).1.toInt ≤ x ∧ x ≤ (gC C k).2.1.toInt
def IsFree (C : Cs) (x : Int) : Prop := -2147483648 ≤ x ∧ x ≤ 2147483648 ∧ (∀ k, k < 24 → ¬ inC C k x) ∧ ∀ y, -2147483648 ≤ y → y < x → ∃ k, k < 24 ∧ inC C k y
theorem IsFree.uniq {C : Cs} {x y : Int} (h : IsFree C x) (g : IsFree C y) : x = y := by
  obtain ⟨h1, h2, h3, h4⟩ := h
  obtain ⟨g1, g2, g3, g4⟩ := g
  rcases (show x < y ∨ x = y ∨ y < x by omega) with q | q | q
  · obtain ⟨k, k1, k2⟩ := g4 x h1 q
    exact absurd k2 (h3 k k1)
  · exact q
  · obtain ⟨k, k1, k2⟩ := h4 y g1 q
    exact absurd k2 (g3 k k1)
def ctB (p : Nat → Bool) : Nat → Nat
  | 0 => 0
  | n + 1 => ctB p n + (p n).toNat
theorem ctB_le {p : Nat → Bool} : ∀ n, ctB p n ≤ n
  | 0 => Nat.le_refl _
  | n + 1 => by
    rw [ctB]
    have h1 := ctB_le (p := p) n
    have h2 : (p n).toNat ≤ 1 := Bool.toNat_le _
    omega
theorem ctB_full {p : Nat → Bool} : ∀ n, ctB p n = n → ∀ k, k < n → p k = true
  | 0, _, k, hk => absurd hk (Nat.not_lt_zero _)
  | n + 1, h, k, hk => by
    rw [ctB] at h
    have h1 := ctB_le (p := p) n
    have h2 : (p n).toNat ≤ 1 := Bool.toNat_le _
    by_cases e : k = n
    · subst e
      cases q : p k
      · rw [q] at h; simp at h; omega
      · rfl
    · exact ctB_full n (by omega) k (by omega)
theorem ctB_mono {p q : Nat → Bool} : ∀ n, (∀ k, k < n → p k = true → q k = true) → ctB p n ≤ ctB q n
  | 0, _ => Nat.le_refl _
  | n + 1, h => by
    rw [ctB, ctB]
    have h1 := ctB_mono n (fun k hk => h k (by omega))
    have h2 : (p n).toNat ≤ (q n).toNat := by
      have := h n (by omega)
      cases w : p n
      · exact Nat.zero_le _
      · rw [this w]; exact Nat.le_refl _
    omega
theorem ctB_more {p q : Nat → Bool} : ∀ n, (∀ k, k < n → p k = true → q k = true) → (∃ k, k < n ∧ p k = false ∧ q k = true) → ctB p n + 1 ≤ ctB q n
  | 0, _, ⟨k, hk, _⟩ => absurd hk (Nat.not_lt_zero _)
  | n + 1, h, ⟨k, hk, h1, h2⟩ => by
    rw [ctB, ctB]
    by_cases e : k = n
    · subst e
      have := ctB_mono k (fun j hj => h j (by omega))
      rw [h1, h2]
      show _ + 0 + 1 ≤ _ + 1
      omega
    · have h3 := ctB_more n (fun j hj => h j (by omega)) ⟨k, by omega, h1, h2⟩
      have h4 : (p n).toNat ≤ (q n).toNat := by
        have := h n (by omega)
        cases w : p n
        · exact Nat.zero_le _
        · rw [this w]; exact Nat.le_refl _
      omega
/-- cases that lie below x -/
def bel (C : Cs) (x : Int) (k : Nat) : Bool := (C k).isSome && decide ((gC C k).2.1.toInt < x)
def cov (C : Cs) (x : Int) : Prop := ∀ y, -2147483648 ≤ y → y < x → ∃ k, k < 24 ∧ inC C k y
theorem cov_step {C : Cs} {x : Int} {k : Nat} (h : cov C x) (hk : k < 24) (hi : inC C k x) : cov C ((gC C k).2.1.toInt + 1) ∧ ctB (bel C x) 24 + 1 ≤ ctB (bel C ((gC C k).2.1.toInt + 1)) 24 := by
  obtain ⟨h1, h2, h3⟩ := hi
  refine ⟨fun y y1 y2 => ?_, ctB_more 24 (fun j hj w => ?_) ⟨k, hk, ?_, ?_⟩⟩
  · by_cases q : y < x
    · exact h y y1 q
    · exact ⟨k, hk, h1, by omega, by omega⟩
  · unfold bel at w ⊢
    rw [Bool.and_eq_true, decide_eq_true_eq] at w ⊢
    exact ⟨w.1, by omega⟩
  · unfold bel
    rw [decide_eq_false (by omega), Bool.and_false]
  · unfold bel
    rw [h1, decide_eq_true (by omega)]
    rfl
theorem L_mx : (2147483647 : Int64).toInt = 2147483647 := by decide
theorem L_mn : (-2147483648 : Int64).toInt = -2147483648 := by decide
theorem L_toI {z : Int64} (h1 : -2147483648 ≤ z.toInt) (h2 : z.toInt ≤ 2147483647) : z.toInt32.toInt = z.toInt := by
  rw [Int64.toInt_toInt32, Int.bmod]
  omega
def spN (C : Cs) (st : Int32 → Nat) : Nat → Nat
  | 0 => 0
  | n + 1 => spN C st n + (if (C n).isSome = true then (gC C n).2.2.2 * st (gC C n).1 else 0)
noncomputable section
def frS (C : Cs) : Int := Classical.epsilon (IsFree C)
def spentS (C : Cs) (rt rw dn sz wy : Nat) : Nat := spN C (stF C rt dn sz wy) 24 + (if frS C ≤ 2147483647 then rw * stF C rt dn sz wy (Int32.ofInt (frS C)) else 0)
end
theorem frS_is {C : Cs} {x : Int} (h : IsFree C x) : x = frS C := h.uniq (Classical.epsilon_spec ⟨x, h⟩)
theorem hasC_n {C : Cs} {k : Nat} (hk : k < 24) : hasC C (nI k) = (C k).isSome := by
  unfold hasC
  rw [gIn_n hk (by decide), nI_clamp (by omega), Bool.true_and]
section
variable {G : xG} {h : xH} {C : Cs} {rt rw dn sz wy stale cap : Nat} {cl' : Int32} {bs : List Nat}
theorem meet_in {x : Int32} {k : Nat} (h : meetC C x x = some k) : k < 24 ∧ inC C k x.toInt := by
  obtain ⟨-, k1, k2, -⟩ := fst_some _ _ _ h
  rw [Bool.and_eq_true, Bool.and_eq_true, decide_eq_true_eq, decide_eq_true_eq, Int32.le_iff_toInt_le, Int32.le_iff_toInt_le] at k2
  exact ⟨by omega, k2.1, k2.2.1, k2.2.2⟩
theorem meet_no {x : Int32} (h : meetC C x x = none) {k : Nat} (hk : k < 24) : ¬ inC C k x.toInt := by
  intro q
  have := fst_none _ _ h k (Nat.zero_le _) (by omega)
  rw [q.1, Bool.true_and, Bool.and_eq_false_iff, decide_eq_false_iff_not, decide_eq_false_iff_not, Int32.le_iff_toInt_le, Int32.le_iff_toInt_le] at this
  have := q.2
  omega
theorem cov_hi {C : Cs} (k : Nat) : ¬ inC C k 2147483648 := by
  intro q
  have := I_hi (gC C k).2.1
  have := q.2.2
  omega
theorem tX5_leastInNoCase (hS : vX5 h C rt rw dn sz wy cl' stale bs cap) (hO : sOk C rt rw dn sz wy) : AM G mX5_leastInNoCase 1 0 [.ref 0] h (fun r h' => ∃ z, r = some (.long z) ∧ IsFree C z.toInt ∧ h' = h) := by
  have u := hS.1
  obtain ⟨lo, hi, tg, wt, hc1, hc2⟩ := hS.2.1
  have s0 := hc1.1
  refine AM.of rfl rfl (Nat.le_of_ble_eq_true rfl) rfl ?_
  refine Ax_ldc2 dX5_leastInNoCase_0 cX5_221 ?_
  refine Ax_ls1 dX5_leastInNoCase_3 (Nat.le_of_ble_eq_true rfl) (by rfl) ?_
  refine Ax_ic0 dX5_leastInNoCase_4 ?_
  refine Ax_is3 dX5_leastInNoCase_5 (Nat.le_of_ble_eq_true rfl) (by rfl) ?_
  suffices hloop : ∀ m k z x4, k + m = 24 → -2147483648 ≤ z.toInt → z.toInt ≤ 2147483648 → k ≤ ctB (bel C z.toInt) 24 → cov C z.toInt → Ax G mX5_leastInNoCase 1 0 6 [.ref 0, .long z, .null, .int (nI k), x4] [] h (fun r h' => ∃ z, r = some (.long z) ∧ IsFree C z.toInt ∧ h' = h) from
    hloop 24 0 _ _ rfl (by rw [L_mn]; omega) (by rw [L_mn]; omega) (Nat.zero_le _) (fun y y1 y2 => by rw [L_mn] at y2; omega)
  intro m
  induction m with
  | zero =>
    intro k z x4 hk z1 z2 hct hcov
    obtain rfl : k = 24 := by omega
    have hfin : IsFree C z.toInt := by
      refine ⟨z1, z2, fun k hk q => ?_, hcov⟩
      have := ctB_full 24 (Nat.le_antisymm (ctB_le 24) hct) k hk
      unfold bel at this
      rw [Bool.and_eq_true, decide_eq_true_eq] at this
      have := q.2.2
      omega
    refine Ax_il3 dX5_leastInNoCase_6 ?_
    refine Ax_bp24 dX5_leastInNoCase_7 ?_
    refine Ax_cmpgen (tgt := 60) dX5_leastInNoCase_9 (by decide) (by omega) (by omega) (fun c9 => ?_) (fun c9 => ?_)
    · refine Ax_ll1 dX5_leastInNoCase_60 ?_
      exact Ax_lret dX5_leastInNoCase_61 rfl ⟨_, rfl, hfin, rfl⟩
    · omega
  | succ m ih =>
    intro k z x4 hk z1 z2 hct hcov
    refine Ax_il3 dX5_leastInNoCase_6 ?_
    refine Ax_bp24 dX5_leastInNoCase_7 ?_
    refine Ax_cmpgen (tgt := 60) dX5_leastInNoCase_9 (by decide) (by omega) (by omega) (fun c9 => ?_) (fun c9 => ?_)
    · omega
    refine Ax_ll1 dX5_leastInNoCase_12 ?_
    refine Ax_ldc2 dX5_leastInNoCase_13 cX5_187 ?_
    refine Ax_lcmp dX5_leastInNoCase_16 ?_
    refine Ax_ifgtC (tgt := 60) dX5_leastInNoCase_17 (by decide) (fun c17 => ?_) (fun c17 => ?_)
    · rw [L_mx] at c17
      refine Ax_ll1 dX5_leastInNoCase_60 ?_
      exact Ax_lret dX5_leastInNoCase_61 rfl ⟨_, rfl, ⟨z1, z2, fun k hk q => cov_hi k (by rw [show (2147483648 : Int) = z.toInt by omega]; exact q), hcov⟩, rfl⟩
    · rw [L_mx] at c17
      have ez := L_toI z1 c17
      have hmt := tX2_firstMeeting (G := G) hc1 z.toInt32 z.toInt32
      rw [meetC_is hc2 hO.1] at hmt
      refine Ax_al0 dX5_leastInNoCase_20 ?_
      refine Ax_getf kfX5 fX5_12 dX5_leastInNoCase_21 u rfl ?_
      refine Ax_ll1 dX5_leastInNoCase_24 ?_
      refine Ax_l2i dX5_leastInNoCase_25 ?_
      refine Ax_ll1 dX5_leastInNoCase_26 ?_
      refine Ax_l2i dX5_leastInNoCase_27 ?_
      refine Ax_cVi dX5_leastInNoCase_28 vX5_83 kfX2 s0 hmt rfl rfl (by decide) (by simp [Value.category]) ?_
      refine Ax_is4 dX5_leastInNoCase_31 (Nat.le_of_ble_eq_true rfl) (by rfl) ?_
      refine Ax_il4 dX5_leastInNoCase_33 ?_
      refine Ax_icm1 dX5_leastInNoCase_35 ?_
      refine Ax_cmpne (tgt := 41) dX5_leastInNoCase_36 (by decide) (fun c36 => ?_) (fun c36 => ?_)
      · cases hm : meetC C z.toInt32 z.toInt32 with
        | none => rw [hm] at c36; exact absurd rfl c36
        | some j =>
          rw [hm] at hmt
          obtain ⟨j1, j2⟩ := meet_in hm
          rw [ez] at j2
          obtain ⟨e1, e2, e3, e4⟩ := hc2.lo j1 j2.1
          have et := tX2_high (G := G) hc1 j1
          rw [e2] at et
          have hjh := I_hi (gC C j).2.1
          have hjl := I_lo (gC C j).2.1
          have e5 : ((gC C j).2.1.toInt64 + lN 1).toInt = (gC C j).2.1.toInt + 1 := by
            rw [L_add (by rw [Int32.toInt_toInt64, L_1]; omega) (by rw [Int32.toInt_toInt64, L_1]; omega), Int32.toInt_toInt64, L_1]
          obtain ⟨v1, v2⟩ := cov_step hcov j1 j2
          refine Ax_al0 dX5_leastInNoCase_41 ?_
          refine Ax_getf kfX5 fX5_12 dX5_leastInNoCase_42 u rfl ?_
          refine Ax_il4 dX5_leastInNoCase_45 ?_
          refine Ax_cVi dX5_leastInNoCase_47 vX5_217 kfX2 s0 et rfl rfl (by decide) (by simp [Value.category]) ?_
          refine Ax_i2l dX5_leastInNoCase_50 ?_
          refine Ax_lc1 dX5_leastInNoCase_51 ?_
          refine Ax_ladd dX5_leastInNoCase_52 ?_
          refine Ax_ls1 dX5_leastInNoCase_53 (Nat.le_of_ble_eq_true rfl) (by rfl) ?_
          refine Ax_inc3_1n dX5_leastInNoCase_54 (Nat.le_of_ble_eq_true rfl) (by rfl) ?_
          refine Ax_goto (tgt := 6) dX5_leastInNoCase_57 (by decide) ?_
          exact ih (k + 1) _ _ (by omega) (by rw [e5]; omega) (by rw [e5]; omega) (by rw [e5]; omega) (by rw [e5]; exact v1)
      · cases hm : meetC C z.toInt32 z.toInt32 with
        | some j =>
          rw [hm] at c36
          exact absurd c36 (nI_nem (by have := (meet_in hm).1; omega))
        | none =>
          refine Ax_ll1 dX5_leastInNoCase_39 ?_
          exact Ax_lret dX5_leastInNoCase_40 rfl ⟨_, rfl, ⟨z1, z2, fun k hk q => meet_no hm hk (by rw [ez]; exact q), hcov⟩, rfl⟩
theorem tX5_spent (hS : vX5 h C rt rw dn sz wy cl' stale bs cap) (hO : sOk C rt rw dn sz wy) : AM G mX5_spent 30 0 [.ref 0] h
    (fun q h' => q = some (.long (lN (spentS C rt rw dn sz wy))) ∧ vX5 h' C rt rw dn sz wy cl' 0 bs cap ∧ xFr 0 28 h h') := by
  have u := hS.1
  have hle := stF_le hO
  obtain ⟨o0, o1, o2, oo⟩ := id hO
  refine AM.of rfl rfl (Nat.le_of_ble_eq_true rfl) rfl ?_
  refine Ax_al0 dX5_spent_0 ?_
  refine Ax_cVv dX5_spent_1 vX5_112 kfX5 u (tX5_workOut (G := G) hS hO) rfl rfl (by decide) (by simp [Value.category]) (Nat.le_refl _) (fun h11 q11 => ?_)
  obtain ⟨hS1, hF1⟩ := q11
  have u1 := hS1.1
  refine Ax_lc0 dX5_spent_4 ?_
  refine Ax_ls1 dX5_spent_5 (Nat.le_of_ble_eq_true rfl) (by rfl) ?_
  refine Ax_ic0 dX5_spent_6 ?_
  refine Ax_is3 dX5_spent_7 (Nat.le_of_ble_eq_true rfl) (by rfl) ?_
  suffices hloop : ∀ m k h1 x4, k + m = 24 → vX5 h1 C rt rw dn sz wy cl' 0 bs cap → xFr 0 28 h h1 → Ax G mX5_spent 30 0 8 [.ref 0, .long (lN (spN C (stF C rt dn sz wy) k)), .null, .int (nI k), x4] [] h1 (fun q h' => q = some (.long (lN (spentS C rt rw dn sz wy))) ∧ vX5 h' C rt rw dn sz wy cl' 0 bs cap ∧ xFr 0 28 h h') from
    hloop 24 0 h11 _ rfl hS1 hF1
  intro m
  induction m with
  | zero =>
    intro k h1 x4 hk hS1 hF1
    obtain rfl : k = 24 := by omega
    have u1 := hS1.1
    refine Ax_il3 dX5_spent_8 ?_
    refine Ax_bp24 dX5_spent_9 ?_
    refine Ax_cmpgen (tgt := 57) dX5_spent_11 (by decide) (by omega) (by omega) (fun c11 => ?_) (fun c11 => ?_)
    · refine Ax_al0 dX5_spent_57 ?_
      refine Ax_cVlE dX5_spent_58 vX5_181 kfX5 u1 (tX5_leastInNoCase (G := G) hS1 hO) rfl rfl (by decide) (by simp [Value.category]) (fun x58 p58 => ?_)
      refine Ax_ls3 dX5_spent_61 (Nat.le_of_ble_eq_true rfl) (by rfl) ?_
      refine Ax_ll3 dX5_spent_62 ?_
      refine Ax_ldc2 dX5_spent_63 cX5_187 ?_
      refine Ax_lcmp dX5_spent_66 ?_
      refine Ax_ifgtC (tgt := 86) dX5_spent_67 (by decide) (fun c67 => ?_) (fun c67 => ?_)
      · rw [L_mx] at c67
        have e : spentS C rt rw dn sz wy = spN C (stF C rt dn sz wy) 24 := by
          unfold spentS
          rw [if_neg (by rw [← frS_is p58]; omega), Nat.add_zero]
        rw [e]
        refine Ax_ll1 dX5_spent_86 ?_
        exact Ax_lret dX5_spent_87 rfl ⟨rfl, hS1, hF1⟩
      · rw [L_mx] at c67
        have ez := L_toI p58.1 c67
        have e : spentS C rt rw dn sz wy = spN C (stF C rt dn sz wy) 24 + rw * stF C rt dn sz wy x58.toInt32 := by
          unfold spentS
          rw [← frS_is p58, if_pos c67, ← ez, Int32.ofInt_toInt]
        rw [e]
        refine Ax_ll1 dX5_spent_70 ?_
        refine Ax_al0 dX5_spent_71 ?_
        refine Ax_getf kfX5 fX5_57 dX5_spent_72 u1 rfl ?_
        refine Ax_i2ln dX5_spent_75 (by omega) ?_
        refine Ax_al0 dX5_spent_76 ?_
        refine Ax_ll3 dX5_spent_77 ?_
        refine Ax_l2i dX5_spent_78 ?_
        refine Ax_cViH dX5_spent_79 vX5_172 kfX5 u1 (tX5_stepsOf (G := G) hS1 hO x58.toInt32) rfl rfl (by decide) (by simp [Value.category]) (Nat.le_refl _) (fun x79 h2 q2 => ?_)
        obtain ⟨rfl, hS2, hF2⟩ := q2
        have u2 := hS2.1
        have := hle x58.toInt32
        refine Ax_top (show _ = nI (stF C rt dn sz wy x58.toInt32) from rfl) ?_
        refine Ax_i2ln dX5_spent_82 (by omega) ?_
        refine Ax_lmuln dX5_spent_83 ?_
        refine Ax_laddn dX5_spent_84 ?_
        refine Ax_ls1 dX5_spent_85 (Nat.le_of_ble_eq_true rfl) (by rfl) ?_
        refine Ax_ll1 dX5_spent_86 ?_
        exact Ax_lret dX5_spent_87 rfl ⟨rfl, hS2, hF1.tr (hF2.wide (by omega) (by omega))⟩
    · omega
  | succ m ih =>
    intro k h1 x4 hk hS1 hF1
    have u1 := hS1.1
    obtain ⟨lo, hi, tg, wt, hc1, hc2⟩ := hS1.2.1
    have s0 := hc1.1
    have hhas := tX2_has (G := G) hc1 (nI k)
    rw [hasC_is hc2 o0, hasC_n (by omega)] at hhas
    refine Ax_il3 dX5_spent_8 ?_
    refine Ax_bp24 dX5_spent_9 ?_
    refine Ax_cmpgen (tgt := 57) dX5_spent_11 (by decide) (by omega) (by omega) (fun c11 => ?_) (fun c11 => ?_)
    · omega
    refine Ax_al0 dX5_spent_14 ?_
    refine Ax_getf kfX5 fX5_12 dX5_spent_15 u1 rfl ?_
    refine Ax_il3 dX5_spent_18 ?_
    refine Ax_cVi dX5_spent_19 vX5_95 kfX2 s0 hhas rfl rfl (by decide) (by simp [Value.category]) ?_
    refine Ax_ifeqB (tgt := 51) dX5_spent_22 (by decide) (fun c22 => ?_) (fun c22 => ?_)
    · have e : spN C (stF C rt dn sz wy) (k + 1) = spN C (stF C rt dn sz wy) k := by
        rw [spN, c22, if_neg (by decide), Nat.add_zero]
      refine Ax_inc3_1n dX5_spent_51 (Nat.le_of_ble_eq_true rfl) (by rfl) ?_
      refine Ax_goto (tgt := 8) dX5_spent_54 (by decide) ?_
      have hih := ih (k + 1) h1 x4 (by omega) hS1 hF1
      rw [e] at hih
      exact hih
    · have e : spN C (stF C rt dn sz wy) (k + 1) = spN C (stF C rt dn sz wy) k + (gC C k).2.2.2 * stF C rt dn sz wy (gC C k).1 := by
        rw [spN, c22, if_pos rfl]
      obtain ⟨r, hr⟩ := Option.isSome_iff_exists.mp c22
      have hw : (gC C k).2.2.2 ≤ 1000 := by rw [gC_some hr]; exact (o0.1 k r hr).2.2.2
      obtain ⟨e1, e2, e3, e4⟩ := hc2.lo (show k < 24 by omega) c22
      have ew := tX2_weight (G := G) hc1 (show k < 24 by omega)
      rw [e4] at ew
      have el := tX2_low (G := G) hc1 (show k < 24 by omega)
      rw [e1] at el
      refine Ax_ll1 dX5_spent_25 ?_
      refine Ax_al0 dX5_spent_26 ?_
      refine Ax_getf kfX5 fX5_12 dX5_spent_27 u1 rfl ?_
      refine Ax_il3 dX5_spent_30 ?_
      refine Ax_cVi dX5_spent_31 vX5_177 kfX2 s0 ew rfl rfl (by decide) (by simp [Value.category]) ?_
      refine Ax_i2ln dX5_spent_34 (by omega) ?_
      refine Ax_al0 dX5_spent_35 ?_
      refine Ax_al0 dX5_spent_36 ?_
      refine Ax_getf kfX5 fX5_12 dX5_spent_37 u1 rfl ?_
      refine Ax_il3 dX5_spent_40 ?_
      refine Ax_cVi dX5_spent_41 vX5_178 kfX2 s0 el rfl rfl (by decide) (by simp [Value.category]) ?_
      refine Ax_cViH dX5_spent_44 vX5_172 kfX5 u1 (tX5_stepsOf (G := G) hS1 hO (gC C k).1) rfl rfl (by decide) (by simp [Value.category]) (Nat.le_refl _) (fun x44 h2 q2 => ?_)
      obtain ⟨rfl, hS2, hF2⟩ := q2
      have u2 := hS2.1
      have := hle (gC C k).1
      refine Ax_top (show _ = nI (stF C rt dn sz wy (gC C k).1) from rfl) ?_
      refine Ax_i2ln dX5_spent_47 (by omega) ?_
      refine Ax_lmuln dX5_spent_48 ?_
      refine Ax_laddn dX5_spent_49 ?_
      refine Ax_ls1 dX5_spent_50 (Nat.le_of_ble_eq_true rfl) (by rfl) ?_
      refine Ax_inc3_1n dX5_spent_51 (Nat.le_of_ble_eq_true rfl) (by rfl) ?_
      refine Ax_goto (tgt := 8) dX5_spent_54 (by decide) ?_
      have hih := ih (k + 1) h2 x4 (by omega) hS2 (hF1.tr (hF2.wide (by omega) (by omega)))
      rw [e] at hih
      exact hih
end
