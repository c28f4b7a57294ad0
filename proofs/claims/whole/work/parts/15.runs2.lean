/-! sums without wrap-around -/
theorem L_add {a b : Int64} (h1 : -9223372036854775808 ≤ a.toInt + b.toInt) (h2 : a.toInt + b.toInt < 9223372036854775808) : (a + b).toInt = a.toInt + b.toInt := by
  rw [Int64.toInt_add, Int.bmod]
  split <;> omega
theorem L_sub {a b : Int64} (h1 : -9223372036854775808 ≤ a.toInt - b.toInt) (h2 : a.toInt - b.toInt < 9223372036854775808) : (a - b).toInt = a.toInt - b.toInt := by
  rw [Int64.toInt_sub, Int.bmod]
  split <;> omega
theorem L_mul {a b : Int64} (h1 : -9223372036854775808 ≤ a.toInt * b.toInt) (h2 : a.toInt * b.toInt < 9223372036854775808) : (a * b).toInt = a.toInt * b.toInt := by
  rw [Int64.toInt_mul, Int.bmod]
  generalize a.toInt * b.toInt = x at *
  split <;> omega
theorem I_add {a b : Int32} (h1 : -2147483648 ≤ a.toInt + b.toInt) (h2 : a.toInt + b.toInt < 2147483648) : (a + b).toInt = a.toInt + b.toInt := by
  rw [Int32.toInt_add, Int.bmod]
  split <;> omega
theorem I_sub {a b : Int32} (h1 : -2147483648 ≤ a.toInt - b.toInt) (h2 : a.toInt - b.toInt < 2147483648) : (a - b).toInt = a.toInt - b.toInt := by
  rw [Int32.toInt_sub, Int.bmod]
  split <;> omega
theorem I_lo (x : Int32) : -2147483648 ≤ x.toInt := Int32.le_toInt x
theorem I_hi (x : Int32) : x.toInt < 2147483648 := Int32.toInt_lt x
theorem L_1 : (lN 1).toInt = 1 := by decide
theorem L_lN {n : Nat} (h : n < 9223372036854775808) : (lN n).toInt = (n : Int) := pk_lT h
theorem L_of {x : Int64} {n : Nat} (h : x.toInt = (n : Int)) (hn : n < 9223372036854775808) : x = lN n := Int64.toInt_inj.mp (by rw [h, L_lN hn])
theorem I_of {x : Int32} {n : Nat} (h : x.toInt = (n : Int)) (hn : n < 2147483648) : x = nI n := Int32.toInt_inj.mp (by rw [h, nI_toInt hn])
theorem vSp.fr {h h' : xH} {o o' w : Nat} {lo hi tg wt : Nat → Int32} {n : Int32} (hS : vSp h o lo hi tg wt n) (hF : xFr o' w h h') (hd : o + 5 ≤ o' ∨ o' + w ≤ o) : vSp h' o lo hi tg wt n :=
  ⟨(hF.1 _ (by omega)).trans hS.1, (hF.1 _ (by omega)).trans hS.2.1, (hF.1 _ (by omega)).trans hS.2.2.1, (hF.1 _ (by omega)).trans hS.2.2.2.1, (hF.1 _ (by omega)).trans hS.2.2.2.2⟩
/-- Spans that hold the runs R -/
def vRuns (h : xH) (o : Nat) (R : List Run) : Prop := ∃ lo hi tg wt, vSp h o lo hi tg wt (nI R.length) ∧ Rep R lo hi tg wt ∧ ∀ k, R.length ≤ k → k < 24 → tg k = -1
theorem vRuns.fr {h h' : xH} {o o' w : Nat} {R : List Run} (hS : vRuns h o R) (hF : xFr o' w h h') (hd : o + 5 ≤ o' ∨ o' + w ≤ o) : vRuns h' o R := by
  obtain ⟨lo, hi, tg, wt, h1, h2, h3⟩ := hS
  exact ⟨lo, hi, tg, wt, h1.fr hF hd, h2, h3⟩
theorem vRuns.obj {h : xH} {o : Nat} {R : List Run} (hS : vRuns h o R) : h.1 o = cO 2 [.ref (o + 1), .ref (o + 2), .ref (o + 3), .ref (o + 4), .int (nI R.length)] := by
  obtain ⟨lo, hi, tg, wt, h1, -⟩ := hS
  exact h1.1
theorem Rep.app {R : List Run} {lo hi tg wt : Nat → Int32} (hR : Rep R lo hi tg wt) (c : Run) : Rep (R ++ [c]) (upd lo R.length c.1) (upd hi R.length c.2.1) (upd tg R.length (nI c.2.2.1)) (upd wt R.length (nI c.2.2.2)) := by
  intro k hk
  have hl : (R ++ [c]).length = R.length + 1 := by simp
  unfold rlo rhi rtg rwt
  rw [gR_app]
  by_cases h : k = R.length
  · subst h
    rw [if_pos rfl]
    exact ⟨pk_us, pk_us, pk_us, pk_us⟩
  · rw [if_neg h, pk_un h, pk_un h, pk_un h, pk_un h]
    exact hR k (by omega)
theorem Rep.mrg {R : List Run} {lo hi tg wt : Nat → Int32} (hR : Rep R lo hi tg wt) {c : Run} {m : Nat} (hm : R.length = m + 1) (ht : rtg R m = c.2.2.1) : Rep (jnM R c) lo (upd hi m c.2.1) tg (upd wt m (wt m + nI c.2.2.2)) := by
  intro k hk
  have hl : (jnM R c).length = R.length := by unfold jnM; simp
  have hm1 : R.length - 1 = m := by omega
  unfold rlo rhi rtg rwt jnM
  rw [hm1, gR_set (by omega)]
  by_cases h : k = m
  · subst h
    obtain ⟨h1, h2, h3, h4⟩ := hR k (by omega)
    rw [if_pos rfl, pk_us, pk_us, h4, nI_add]
    exact ⟨h1, rfl, by rw [h3, ht], rfl⟩
  · rw [if_neg h, pk_un h, pk_un h]
    exact hR k (by omega)
section
variable {G : xG} {h : xH} {o : Nat} {R : List Run}
theorem tR_low (hV : vRuns h o R) (hl : R.length ≤ 24) {k : Nat} (hk : k < R.length) : AM G mX2_low 0 0 [.ref o, .int (nI k)] h (fun r h' => r = some (.int (rlo R k)) ∧ h' = h) := by
  obtain ⟨lo, hi, tg, wt, hS, hR, -⟩ := hV
  have := tX2_low (G := G) hS (k := k) (by omega)
  rw [(hR k hk).1] at this
  exact this
theorem tR_high (hV : vRuns h o R) (hl : R.length ≤ 24) {k : Nat} (hk : k < R.length) : AM G mX2_high 0 0 [.ref o, .int (nI k)] h (fun r h' => r = some (.int (rhi R k)) ∧ h' = h) := by
  obtain ⟨lo, hi, tg, wt, hS, hR, -⟩ := hV
  have := tX2_high (G := G) hS (k := k) (by omega)
  rw [(hR k hk).2.1] at this
  exact this
theorem tR_target (hV : vRuns h o R) (hl : R.length ≤ 24) {k : Nat} (hk : k < R.length) : AM G mX2_target 0 0 [.ref o, .int (nI k)] h (fun r h' => r = some (.int (nI (rtg R k))) ∧ h' = h) := by
  obtain ⟨lo, hi, tg, wt, hS, hR, -⟩ := hV
  have := tX2_target (G := G) hS (k := k) (by omega)
  rw [(hR k hk).2.2.1] at this
  exact this
theorem tR_weight (hV : vRuns h o R) (hl : R.length ≤ 24) {k : Nat} (hk : k < R.length) : AM G mX2_weight 0 0 [.ref o, .int (nI k)] h (fun r h' => r = some (.int (nI (rwt R k))) ∧ h' = h) := by
  obtain ⟨lo, hi, tg, wt, hS, hR, -⟩ := hV
  have := tX2_weight (G := G) hS (k := k) (by omega)
  rw [(hR k hk).2.2.2] at this
  exact this
theorem tR_held (hV : vRuns h o R) : AM G mX2_held 0 0 [.ref o] h (fun r h' => r = some (.int (nI R.length)) ∧ h' = h) := by
  obtain ⟨lo, hi, tg, wt, hS, -⟩ := hV
  exact tX2_held hS
theorem tX2_join (hV : vRuns h o R) (hl : R.length < 24) (hI : RInv R) (low high : Int32) {t w : Nat} (ht : t < 16) : AM G mX2_join 2 0 [.ref o, .int low, .int high, .int (nI t), .int (nI w)] h
    (fun r h' => r = none ∧ vRuns h' o (jn R (low, high, t, w)) ∧ xFr o 5 h h') := by
  obtain ⟨lo, hi, tg, wt, hS, hR, hN⟩ := id hV
  obtain ⟨s, s0, s1, s2, s3⟩ := id hS
  refine AM.of rfl rfl (Nat.le_of_ble_eq_true rfl) rfl ?_
  have happ : ∀ x, jnB R (low, high, t, w) = false → Ax G mX2_join 2 0 67 [.ref o, .int low, .int high, .int (nI t), .int (nI w), .int x] [] h (fun r h' => r = none ∧ vRuns h' o (jn R (low, high, t, w)) ∧ xFr o 5 h h') := by
    intro x hj
    have e : jn R (low, high, t, w) = R ++ [(low, high, t, w)] := by unfold jn; rw [if_neg (by rw [hj]; decide)]
    rw [e]
    refine Ax_al0 dX2_join_67 ?_
    refine Ax_al0 dX2_join_68 ?_
    refine Ax_getf kfX2 fX2_24 dX2_join_69 s rfl ?_
    refine Ax_il1 dX2_join_72 ?_
    refine Ax_il2 dX2_join_73 ?_
    refine Ax_il3 dX2_join_74 ?_
    refine Ax_il4 dX2_join_75 ?_
    refine Ax_cVv dX2_join_77 vX2_65 kfX2 s (tX2_set hS (k := R.length) hl low high (nI t) (nI w)) rfl rfl (by decide) (by simp [Value.category]) (Nat.le_refl _) (fun h21 q21 => ?_)
    obtain ⟨g1, g2⟩ := q21
    rw [if_pos (hN R.length (Nat.le_refl _) hl)] at g1
    exact Ax_ret dX2_join_80 rfl ⟨rfl, ⟨_, _, _, _, by simpa using g1, hR.app _, fun k h1 h2 => by (have hl2 : (R ++ [(low, high, t, w)]).length = R.length + 1 := by simp); rw [pk_un (by omega)]; exact hN k (by omega) h2⟩, g2⟩
  cases hm : R.length with
  | zero =>
    rw [hm] at s
    refine Ax_al0 dX2_join_0 ?_
    refine Ax_getf kfX2 fX2_24 dX2_join_1 s rfl ?_
    refine Ax_ic1 dX2_join_4 ?_
    refine Ax_isub dX2_join_5 ?_
    refine Ax_is5 dX2_join_6 (Nat.le_of_ble_eq_true rfl) (by rfl) ?_
    refine Ax_al0 dX2_join_8 ?_
    refine Ax_il5 dX2_join_9 ?_
    refine Ax_cVi dX2_join_11 vX2_34 kfX2 s (tX2_has hS _) rfl rfl (by decide) (by simp [Value.category]) ?_
    refine Ax_ifeqB (tgt := 67) dX2_join_14 (by decide) (fun c14 => ?_) (fun c14 => ?_)
    · exact happ _ (by unfold jnB; rw [decide_eq_false_iff_not]; omega)
    · have e : gHas tg (nI 0 - nI 1) = false := by unfold gHas; rw [show gIn 24 (nI 0 - nI 1) = false by decide]; rfl
      rw [e] at c14
      cases c14
  | succ m =>
    rw [hm] at s
    have hm1 : R.length - 1 = m := by omega
    obtain ⟨g1, g2, g3, g4⟩ := hR m (by omega)
    have hb : rtg R m < 16 := (hI.1 m (by omega)).2
    have hno : ¬ (rtg R m = t ∧ (rhi R m).toInt + 1 = low.toInt) → jnB R (low, high, t, w) = false := by
      intro q
      unfold jnB
      rw [decide_eq_false_iff_not, hm1]
      exact fun z => q z.2
    have he : (hi m).toInt64.toInt + (lN 1).toInt = (rhi R m).toInt + 1 := by rw [g2, Int32.toInt_toInt64, L_1]
    have hb1 := I_lo (rhi R m)
    have hb2 := I_hi (rhi R m)
    refine Ax_al0 dX2_join_0 ?_
    refine Ax_getf kfX2 fX2_24 dX2_join_1 s rfl ?_
    refine Ax_ic1 dX2_join_4 ?_
    refine Ax_isubn dX2_join_5 (by omega) ?_
    refine Ax_is5 dX2_join_6 (Nat.le_of_ble_eq_true rfl) (by rfl) ?_
    refine Ax_al0 dX2_join_8 ?_
    refine Ax_il5 dX2_join_9 ?_
    refine Ax_cVi dX2_join_11 vX2_34 kfX2 s (tX2_has hS _) rfl rfl (by decide) (by simp [Value.category]) ?_
    refine Ax_ifeqB (tgt := 67) dX2_join_14 (by decide) (fun c14 => ?_) (fun c14 => ?_)
    · rw [show m + 1 - 1 = m by omega, gHas_n (by omega), g3] at c14
      have := congrArg Int32.toInt (bne_eq_false_iff_eq.mp c14)
      rw [nI_toInt (by omega)] at this
      have h7 : (-1 : Int32).toInt = -1 := rfl
      omega
    rw [show m + 1 - 1 = m by omega]
    refine Ax_al0 dX2_join_17 ?_
    refine Ax_getf kfX2 fX2_18 dX2_join_18 s rfl ?_
    refine Ax_il5 dX2_join_21 ?_
    refine Ax_ialdn dX2_join_23 s2 (by omega) (by omega) ?_
    refine Ax_il3 dX2_join_24 ?_
    refine Ax_cmpne (tgt := 67) dX2_join_25 (by decide) (fun c25 => ?_) (fun c25 => ?_)
    · exact happ _ (hno (fun z => c25 (by rw [g3, z.1])))
    have ht2 : rtg R m = t := by
      rw [g3] at c25
      exact (nI_eq (by omega) (by omega)).mp c25
    refine Ax_al0 dX2_join_28 ?_
    refine Ax_getf kfX2 fX2_15 dX2_join_29 s rfl ?_
    refine Ax_il5 dX2_join_32 ?_
    refine Ax_ialdn dX2_join_34 s1 (by omega) (by omega) ?_
    refine Ax_i2l dX2_join_35 ?_
    refine Ax_lc1 dX2_join_36 ?_
    refine Ax_ladd dX2_join_37 ?_
    refine Ax_il1 dX2_join_38 ?_
    refine Ax_i2l dX2_join_39 ?_
    refine Ax_lcmp dX2_join_40 ?_
    refine Ax_ifneC (tgt := 67) dX2_join_41 (by decide) (fun c41 => ?_) (fun c41 => ?_)
    · rw [L_add (by rw [he]; omega) (by rw [he]; omega), he, Int32.toInt_toInt64] at c41
      exact happ _ (hno (fun z => c41 z.2))
    rw [L_add (by rw [he]; omega) (by rw [he]; omega), he, Int32.toInt_toInt64] at c41
    have e : jn R (low, high, t, w) = jnM R (low, high, t, w) := by
      unfold jn
      rw [if_pos (by unfold jnB; rw [decide_eq_true_eq, hm1]; exact ⟨by omega, ht2, c41⟩)]
    rw [e]
    have hl2 : (jnM R (low, high, t, w)).length = m + 1 := by unfold jnM; simp [hm]
    have fr : ∀ q, (q < o ∨ o + 5 ≤ q) → h.1 q = h.1 q := fun _ _ => rfl
    have zr : h.2 = h.2 := rfl
    refine Ax_al0 dX2_join_44 ?_
    refine Ax_getf kfX2 fX2_15 dX2_join_45 s rfl ?_
    refine Ax_il5 dX2_join_48 ?_
    refine Ax_il2 dX2_join_50 ?_
    refine Ax_iastn dX2_join_51 s1 (by omega) (by omega) (Ax_up (fun h31 e31 f31 z31 => ?_))
    replace s := (f31 _ (by omega)).trans s
    replace s0 := (f31 _ (by omega)).trans s0
    replace s1 := e31
    replace s2 := (f31 _ (by omega)).trans s2
    replace s3 := (f31 _ (by omega)).trans s3
    replace fr : ∀ q, (q < o ∨ o + 5 ≤ q) → h31.1 q = h.1 q := fun q hq => (f31 q (by omega)).trans (fr q hq)
    replace zr := z31.trans zr
    refine Ax_al0 dX2_join_52 ?_
    refine Ax_getf kfX2 fX2_21 dX2_join_53 s rfl ?_
    refine Ax_il5 dX2_join_56 ?_
    refine Ax_dup2 dX2_join_58 rfl rfl ?_
    refine Ax_ialdn dX2_join_59 s3 (by omega) (by omega) ?_
    refine Ax_il4 dX2_join_60 ?_
    refine Ax_iadd dX2_join_62 ?_
    refine Ax_iastn dX2_join_63 s3 (by omega) (by omega) (Ax_up (fun h32 e32 f32 z32 => ?_))
    replace s := (f32 _ (by omega)).trans s
    replace s0 := (f32 _ (by omega)).trans s0
    replace s1 := (f32 _ (by omega)).trans s1
    replace s2 := (f32 _ (by omega)).trans s2
    replace s3 := e32
    replace fr : ∀ q, (q < o ∨ o + 5 ≤ q) → h32.1 q = h.1 q := fun q hq => (f32 q (by omega)).trans (fr q hq)
    replace zr := z32.trans zr
    refine Ax_goto (tgt := 80) dX2_join_64 (by decide) ?_
    exact Ax_ret dX2_join_80 rfl ⟨rfl, ⟨_, _, _, _, by rw [hl2]; exact ⟨s, s0, s1, s2, s3⟩, hR.mrg (c := (low, high, t, w)) hm ht2, fun k h1 h2 => hN k (by omega) h2⟩, fr, zr⟩
end
