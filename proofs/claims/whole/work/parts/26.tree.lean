/-! Tree: the cells of an object at t, its clusters at co -/
def vTr (h : xH) (t co : Nat) (cos sps : Nat → Int32) (wv : Int32) : Prop :=
  h.1 t = cO 4 [.ref co, .ref (t + 1), .ref (t + 2), .int wv] ∧ h.1 (t + 1) = cI 0 576 cos ∧ h.1 (t + 2) = cI 0 576 sps
theorem vTr.fr {h h' : xH} {t co o' w : Nat} {cos sps : Nat → Int32} {wv : Int32} (hS : vTr h t co cos sps wv) (hF : xFr o' w h h') (hq : t + 3 ≤ o' ∨ o' + w ≤ t) : vTr h' t co cos sps wv :=
  ⟨(hF.1 _ (by omega)).trans hS.1, (hF.1 _ (by omega)).trans hS.2.1, (hF.1 _ (by omega)).trans hS.2.2⟩
def xLS (g : Nat → Nat) (i t v b : Nat) : Prop := (t = 0 ∧ v = 2147483647) ∨ ∃ t', t = t' + 1 ∧ IsLeast g i t' v b
theorem xLS.new {g : Nat → Nat} {i t v b : Nat} (h : xLS g i t v b) (hk : g (i + t + 1) < v) : xLS g i (t + 1) (g (i + t + 1)) (i + t + 1) := by
  rcases h with ⟨rfl, rfl⟩ | ⟨t', rfl, h⟩
  · exact Or.inr ⟨0, rfl, IsLeast.zero⟩
  · exact Or.inr ⟨t' + 1, rfl, h.new hk⟩
theorem xLS.keep {g : Nat → Nat} {i t v b : Nat} (h : xLS g i t v b) (hk : v ≤ g (i + t + 1)) (hg : g (i + t + 1) < 2147483647) : xLS g i (t + 1) v b := by
  rcases h with ⟨rfl, rfl⟩ | ⟨t', rfl, h⟩
  · omega
  · exact Or.inr ⟨t' + 1, rfl, h.keep hk⟩
theorem xLS.le {g : Nat → Nat} {i t v b : Nat} (h : xLS g i t v b) (hg : ∀ m, i < m → m ≤ i + t → g m < 2147483647) : v ≤ 2147483647 := by
  rcases h with ⟨rfl, rfl⟩ | ⟨t', rfl, h1, h2, h3, h4⟩
  · exact Nat.le_refl _
  · have := hg b h1 (by omega); omega
section
variable {G : xG} {h : xH} {t co ro dens size : Nat} {cos sps : Nat → Int32} {wv : Int32} {R : List Run}
theorem tX4_place {i j : Nat} (hi : i < 24) (hj : j < 24) : AM G mX4_place 0 0 [.int (nI i), .int (nI j)] h (fun r h' => r = some (.int (nI (i * 24 + j))) ∧ h' = h) := by
  refine AM.of rfl rfl (Nat.le_of_ble_eq_true rfl) rfl ?_
  refine Ax_il0 dX4_place_0 ?_
  refine Ax_ifltn (tgt := 24) dX4_place_1 (by decide) (by omega) ?_
  refine Ax_il0 dX4_place_4 ?_
  refine Ax_bp24 dX4_place_5 ?_
  refine Ax_cmpgen (tgt := 24) dX4_place_7 (by decide) (by omega) (by omega) (fun c7 => ?_) (fun c7 => ?_)
  · omega
  refine Ax_il1 dX4_place_10 ?_
  refine Ax_ifltn (tgt := 24) dX4_place_11 (by decide) (by omega) ?_
  refine Ax_il1 dX4_place_14 ?_
  refine Ax_bp24 dX4_place_15 ?_
  refine Ax_cmpgen (tgt := 24) dX4_place_17 (by decide) (by omega) (by omega) (fun c17 => ?_) (fun c17 => ?_)
  · omega
  refine Ax_ic1 dX4_place_20 ?_
  refine Ax_goto (tgt := 25) dX4_place_21 (by decide) ?_
  refine Ax_is2 dX4_place_25 (Nat.le_of_ble_eq_true rfl) (by rfl) ?_
  refine Ax_il2 dX4_place_26 ?_
  refine Ax_ifeqn (tgt := 39) dX4_place_27 (by decide) (by omega) (fun c27 => ?_) (fun c27 => ?_)
  · omega
  · refine Ax_il0 dX4_place_30 ?_
    refine Ax_bp24 dX4_place_31 ?_
    refine Ax_imuln dX4_place_33 ?_
    refine Ax_il1 dX4_place_34 ?_
    refine Ax_iaddn dX4_place_35 ?_
    refine Ax_goto (tgt := 40) dX4_place_36 (by decide) ?_
    exact Ax_iret dX4_place_40 rfl rfl ⟨rfl, rfl⟩
theorem tX4_costOf (hS : vTr h t co cos sps wv) {i j : Nat} (hi : i < 24) (hj : j < 24) : AM G mX4_costOf 1 0 [.ref t, .int (nI i), .int (nI j)] h (fun r h' => r = some (.int (cos (i * 24 + j))) ∧ h' = h) := by
  obtain ⟨s, s1, s2⟩ := id hS
  refine AM.of rfl rfl (Nat.le_of_ble_eq_true rfl) rfl ?_
  refine Ax_il1 dX4_costOf_0 ?_
  refine Ax_il2 dX4_costOf_1 ?_
  refine Ax_cSi dX4_costOf_2 sX4_42 (tX4_place hi hj) rfl rfl (by decide) (by simp [Value.category]) ?_
  refine Ax_is3 dX4_costOf_5 (Nat.le_of_ble_eq_true rfl) (by rfl) ?_
  refine Ax_il3 dX4_costOf_6 ?_
  refine Ax_icm1 dX4_costOf_7 ?_
  refine Ax_cmpne (tgt := 15) dX4_costOf_8 (by decide) (fun c8 => ?_) (fun c8 => ?_)
  · refine Ax_al0 dX4_costOf_15 ?_
    refine Ax_getf kfX4 fX4_9 dX4_costOf_16 s rfl ?_
    refine Ax_il3 dX4_costOf_19 ?_
    refine Ax_ialdn dX4_costOf_20 s1 (by omega) (by omega) ?_
    exact Ax_iret dX4_costOf_21 rfl rfl ⟨rfl, rfl⟩
  · exfalso
    have := congrArg Int32.toInt c8
    rw [nI_toInt (by omega)] at this
    have h7 : (-1 : Int32).toInt = -1 := rfl
    omega
theorem tX4_split {way : Nat} (hS : vTr h t co cos sps (nI way)) (hw : way < 2) {i j : Nat} (hi : i < 24) (hj : j < 24) {z : Nat} (hz : way = 1 → sps (i * 24 + j) = nI z) : AM G mX4_split 1 0 [.ref t, .int (nI i), .int (nI j)] h (fun r h' => r = some (.int (nI (if way = 1 then z else (i + j + 1) / 2))) ∧ h' = h) := by
  obtain ⟨s, s1, s2⟩ := id hS
  refine AM.of rfl rfl (Nat.le_of_ble_eq_true rfl) rfl ?_
  refine Ax_il1 dX4_split_0 ?_
  refine Ax_il2 dX4_split_1 ?_
  refine Ax_cSi dX4_split_2 sX4_42 (tX4_place hi hj) rfl rfl (by decide) (by simp [Value.category]) ?_
  refine Ax_is3 dX4_split_5 (Nat.le_of_ble_eq_true rfl) (by rfl) ?_
  refine Ax_al0 dX4_split_6 ?_
  refine Ax_getf kfX4 fX4_18 dX4_split_7 s rfl ?_
  refine Ax_ic1 dX4_split_10 ?_
  refine Ax_cmpnen (tgt := 26) dX4_split_11 (by decide) (by omega) (by omega) (fun c11 => ?_) (fun c11 => ?_)
  · rw [if_neg c11]
    refine Ax_il1 dX4_split_26 ?_
    refine Ax_il2 dX4_split_27 ?_
    refine Ax_iaddn dX4_split_28 ?_
    refine Ax_ic1 dX4_split_29 ?_
    refine Ax_iaddn dX4_split_30 ?_
    refine Ax_ic2 dX4_split_31 ?_
    refine Ax_idivn dX4_split_32 (by omega) (by omega) (by omega) ?_
    exact Ax_iret dX4_split_33 rfl rfl ⟨rfl, rfl⟩
  refine Ax_il3 dX4_split_14 ?_
  refine Ax_icm1 dX4_split_15 ?_
  refine Ax_cmpeq (tgt := 26) dX4_split_16 (by decide) (fun c16 => ?_) (fun c16 => ?_)
  · exfalso
    have := congrArg Int32.toInt c16
    rw [nI_toInt (by omega)] at this
    have h7 : (-1 : Int32).toInt = -1 := rfl
    omega
  · rw [if_pos c11, ← hz c11]
    refine Ax_al0 dX4_split_19 ?_
    refine Ax_getf kfX4 fX4_15 dX4_split_20 s rfl ?_
    refine Ax_il3 dX4_split_23 ?_
    refine Ax_ialdn dX4_split_24 s2 (by omega) (by omega) ?_
    exact Ax_iret dX4_split_25 rfl rfl ⟨rfl, rfl⟩
theorem tX4_findCheapest (hS : vTr h t co cos sps wv) (hV : vCls h co ro R dens size) (hco : co + 7 ≤ t ∨ t + 3 ≤ co) (hl : (clsOf R dens size).length ≤ 24) (hs : rsum R ≤ 24000) {i j : Nat} (hij : i < j) (hj : j < (clsOf R dens size).length)
    (hpre : ∀ a b, i ≤ a → a ≤ b → b ≤ j → b - a < j - i → cos (a * 24 + b) = nI (cst (wF R dens size) a b)) : AM G mX4_findCheapest 2 0 [.ref t, .int (nI i), .int (nI j)] h
    (fun r h' => r = none ∧ vTr h' t co (upd cos (i * 24 + j) (nI (cst (wF R dens size) i j))) (upd sps (i * 24 + j) (nI (cut (wF R dens size) i j))) wv ∧ xFr t 3 h h') := by
  obtain ⟨s, s1, s2⟩ := id hS
  have k0 := hV.ob
  generalize hw : wF R dens size = w at *
  have hwc : ∀ c, c < (clsOf R dens size).length → cwt R dens size c + 1 = w c := fun c hc => by rw [← hw]; unfold wF cw1; rw [if_pos hc]
  have hwle : ∀ c, w c ≤ 24001 := fun c => by rw [← hw]; exact wF_le hs c
  have hcle : ∀ a b, a ≤ b → b - a < 24 → cst w a b ≤ 23 * (24 * 24001) := fun a b h1 h2 => Nat.le_trans (cst_le hwle (b - a) a b h1 rfl h2) (Nat.mul_le_mul_right _ (by omega))
  refine AM.of rfl rfl (Nat.le_of_ble_eq_true rfl) rfl ?_
  refine Ax_ldc dX4_findCheapest_0 cX4_50 ?_
  refine Ax_top (rfl) ?_
  refine Ax_is3 dX4_findCheapest_2 (Nat.le_of_ble_eq_true rfl) (by rfl) ?_
  refine Ax_il2 dX4_findCheapest_3 ?_
  refine Ax_is4 dX4_findCheapest_4 (Nat.le_of_ble_eq_true rfl) (by rfl) ?_
  refine Ax_ic0 dX4_findCheapest_6 ?_
  refine Ax_is5 dX4_findCheapest_7 (Nat.le_of_ble_eq_true rfl) (by rfl) ?_
  refine Ax_il1 dX4_findCheapest_9 ?_
  refine Ax_is6 dX4_findCheapest_10 (Nat.le_of_ble_eq_true rfl) (by rfl) ?_
  suffices hsum : ∀ m k, k + m = j - i + 1 → Ax G mX4_findCheapest 2 0 12 [.ref t, .int (nI i), .int (nI j), .int (nI 2147483647), .int (nI j), .int (nI (sm w i k)), .int (nI (i + k)), .null] [] h (fun r h' => r = none ∧ vTr h' t co (upd cos (i * 24 + j) (nI (cst w i j))) (upd sps (i * 24 + j) (nI (cut w i j))) wv ∧ xFr t 3 h h') from hsum (j - i + 1) 0 (by omega)
  intro m
  induction m with
  | succ m ih =>
    intro k hk
    refine Ax_il6 dX4_findCheapest_12 ?_
    refine Ax_il2 dX4_findCheapest_14 ?_
    refine Ax_cmpgtn (tgt := 40) dX4_findCheapest_15 (by decide) (by omega) (by omega) (fun c15 => ?_) (fun c15 => ?_)
    · omega
    refine Ax_il5 dX4_findCheapest_18 ?_
    refine Ax_al0 dX4_findCheapest_20 ?_
    refine Ax_getf kfX4 fX4_22 dX4_findCheapest_21 s rfl ?_
    refine Ax_il6 dX4_findCheapest_24 ?_
    refine Ax_cVi dX4_findCheapest_26 vX4_51 kfX0 k0 (tC_weight hV hl (c := i + k) (by omega)) rfl rfl (by decide) (by simp [Value.category]) ?_
    refine Ax_ic1 dX4_findCheapest_29 ?_
    refine Ax_iaddn dX4_findCheapest_30 ?_
    rw [hwc (i + k) (by omega)]
    refine Ax_iaddn dX4_findCheapest_31 ?_
    refine Ax_is5 dX4_findCheapest_32 (Nat.le_of_ble_eq_true rfl) (by rfl) ?_
    refine Ax_inc6_1n dX4_findCheapest_34 (Nat.le_of_ble_eq_true rfl) (by rfl) ?_
    refine Ax_goto (tgt := 12) dX4_findCheapest_37 (by decide) ?_
    exact ih (k + 1) (by omega)
  | zero =>
    intro k hk
    obtain rfl : k = j - i + 1 := by omega
    refine Ax_il6 dX4_findCheapest_12 ?_
    refine Ax_il2 dX4_findCheapest_14 ?_
    refine Ax_cmpgtn (tgt := 40) dX4_findCheapest_15 (by decide) (by omega) (by omega) (fun c15 => ?_) (fun c15 => ?_)
    · refine Ax_il1 dX4_findCheapest_40 ?_
      refine Ax_ic1 dX4_findCheapest_41 ?_
      refine Ax_iaddn dX4_findCheapest_42 ?_
      refine Ax_is6 dX4_findCheapest_43 (Nat.le_of_ble_eq_true rfl) (by rfl) ?_
      suffices hmin : ∀ m k v b x, k + m = j - i → xLS (fun m => cst w i (m - 1) + cst w m j) i k v b → b < 2 ^ 31 → Ax G mX4_findCheapest 2 0 45 [.ref t, .int (nI i), .int (nI j), .int (nI v), .int (nI b), .int (nI (sm w i (j - i + 1))), .int (nI (i + 1 + k)), x] [] h (fun r h' => r = none ∧ vTr h' t co (upd cos (i * 24 + j) (nI (cst w i j))) (upd sps (i * 24 + j) (nI (cut w i j))) wv ∧ xFr t 3 h h') from hmin (j - i) 0 2147483647 j _ (by omega) (Or.inl ⟨rfl, rfl⟩) (by omega)
      intro m
      induction m with
      | succ m ih =>
        intro k v b x hk hLS hb
        have g1 := hcle i (i + k) (by omega) (by omega)
        have g2 := hcle (i + k + 1) j (by omega) (by omega)
        have hv := hLS.le (fun m m1 m2 => by have := hcle i (m - 1) (by omega) (by omega); have := hcle m j (by omega) (by omega); show _ + _ < _; omega)
        have t1 := tX4_costOf (G := G) hS (i := i) (j := i + k) (by omega) (by omega)
        rw [hpre i (i + k) (Nat.le_refl _) (by omega) (by omega) (by omega)] at t1
        have t2 := tX4_costOf (G := G) hS (i := i + 1 + k) (j := j) (by omega) (by omega)
        rw [hpre (i + 1 + k) j (by omega) (by omega) (Nat.le_refl _) (by omega)] at t2
        rw [show i + 1 + k = i + k + 1 by omega] at t2 ⊢
        refine Ax_il6 dX4_findCheapest_45 ?_
        refine Ax_il2 dX4_findCheapest_47 ?_
        refine Ax_cmpgtn (tgt := 89) dX4_findCheapest_48 (by decide) (by omega) (by omega) (fun c48 => ?_) (fun c48 => ?_)
        · omega
        refine Ax_al0 dX4_findCheapest_51 ?_
        refine Ax_il1 dX4_findCheapest_52 ?_
        refine Ax_il6 dX4_findCheapest_53 ?_
        refine Ax_ic1 dX4_findCheapest_55 ?_
        refine Ax_isubn dX4_findCheapest_56 (by omega) ?_
        refine Ax_cVi dX4_findCheapest_57 vX4_55 kfX4 s t1 rfl rfl (by decide) (by simp [Value.category]) ?_
        refine Ax_al0 dX4_findCheapest_60 ?_
        refine Ax_il6 dX4_findCheapest_61 ?_
        refine Ax_il2 dX4_findCheapest_63 ?_
        refine Ax_cVi dX4_findCheapest_64 vX4_55 kfX4 s t2 rfl rfl (by decide) (by simp [Value.category]) ?_
        refine Ax_iaddn dX4_findCheapest_67 ?_
        refine Ax_is7 dX4_findCheapest_68 (Nat.le_of_ble_eq_true rfl) (by rfl) ?_
        refine Ax_il7 dX4_findCheapest_70 ?_
        refine Ax_il3 dX4_findCheapest_72 ?_
        refine Ax_cmpgen (tgt := 83) dX4_findCheapest_73 (by decide) (by omega) (by omega) (fun c73 => ?_) (fun c73 => ?_)
        · refine Ax_inc6_1n dX4_findCheapest_83 (Nat.le_of_ble_eq_true rfl) (by rfl) ?_
          refine Ax_goto (tgt := 45) dX4_findCheapest_86 (by decide) ?_
          rw [show i + k + 1 + 1 = i + 1 + (k + 1) by omega]
          exact ih (k + 1) v b _ (by omega) (hLS.keep (by show v ≤ cst w i (i + k + 1 - 1) + _; rw [Nat.add_sub_cancel]; omega) (by show cst w i (i + k + 1 - 1) + _ < _; rw [Nat.add_sub_cancel]; omega)) hb
        · refine Ax_il7 dX4_findCheapest_76 ?_
          refine Ax_is3 dX4_findCheapest_78 (Nat.le_of_ble_eq_true rfl) (by rfl) ?_
          refine Ax_il6 dX4_findCheapest_79 ?_
          refine Ax_is4 dX4_findCheapest_81 (Nat.le_of_ble_eq_true rfl) (by rfl) ?_
          refine Ax_inc6_1n dX4_findCheapest_83 (Nat.le_of_ble_eq_true rfl) (by rfl) ?_
          refine Ax_goto (tgt := 45) dX4_findCheapest_86 (by decide) ?_
          have hn := hLS.new (by show cst w i (i + k + 1 - 1) + _ < v; rw [Nat.add_sub_cancel]; omega)
          rw [Nat.add_sub_cancel] at hn
          rw [show i + k + 1 + 1 = i + 1 + (k + 1) by omega]
          exact ih (k + 1) _ _ _ (by omega) hn (by omega)
      | zero =>
        intro k v b x hk hLS hb
        obtain rfl : k = j - i := by omega
        rcases hLS with ⟨q, -⟩ | ⟨t', ht', hle⟩
        · omega
        obtain ⟨c1, c2, c3, c4⟩ := (ct_is w i j (by omega) (by omega)).2 hij
        have hun := hle.uniq (v' := cst w i (cut w i j - 1) + cst w (cut w i j) j) (b' := cut w i j) ⟨c1, by omega, rfl, fun m m1 m2 => c4 m m1 (by omega)⟩
        obtain ⟨rfl, rfl⟩ := hun
        refine Ax_il6 dX4_findCheapest_45 ?_
        refine Ax_il2 dX4_findCheapest_47 ?_
        refine Ax_cmpgtn (tgt := 89) dX4_findCheapest_48 (by decide) (by omega) (by omega) (fun c48 => ?_) (fun c48 => ?_)
        rotate_left
        · omega
        refine Ax_il1 dX4_findCheapest_89 ?_
        refine Ax_il2 dX4_findCheapest_90 ?_
        refine Ax_cSi dX4_findCheapest_91 sX4_42 (tX4_place (i := i) (j := j) (by omega) (by omega)) rfl rfl (by decide) (by simp [Value.category]) ?_
        refine Ax_is6 dX4_findCheapest_94 (Nat.le_of_ble_eq_true rfl) (by rfl) ?_
        refine Ax_il6 dX4_findCheapest_96 ?_
        refine Ax_icm1 dX4_findCheapest_98 ?_
        refine Ax_cmpeq (tgt := 122) dX4_findCheapest_99 (by decide) (fun c99 => ?_) (fun c99 => ?_)
        · exfalso
          have := congrArg Int32.toInt c99
          rw [nI_toInt (by omega)] at this
          have h7 : (-1 : Int32).toInt = -1 := rfl
          omega
        have fr : ∀ q, (q < t ∨ t + 3 ≤ q) → h.1 q = h.1 q := fun _ _ => rfl
        have zr : h.2 = h.2 := rfl
        refine Ax_al0 dX4_findCheapest_102 ?_
        refine Ax_getf kfX4 fX4_9 dX4_findCheapest_103 s rfl ?_
        refine Ax_il6 dX4_findCheapest_106 ?_
        refine Ax_il3 dX4_findCheapest_108 ?_
        refine Ax_il5 dX4_findCheapest_109 ?_
        refine Ax_iaddn dX4_findCheapest_111 ?_
        refine Ax_iastn dX4_findCheapest_112 s1 (by omega) (by omega) (Ax_up (fun h6 e6 f6 z6 => ?_))
        replace s := (f6 _ (by omega)).trans s
        replace s1 := e6
        replace s2 := (f6 _ (by omega)).trans s2
        replace k0 := (f6 _ (by omega)).trans k0
        replace fr : ∀ q, (q < t ∨ t + 3 ≤ q) → h6.1 q = h.1 q := fun q hq => (f6 q (by omega)).trans (fr q hq)
        replace zr := z6.trans zr
        refine Ax_al0 dX4_findCheapest_113 ?_
        refine Ax_getf kfX4 fX4_15 dX4_findCheapest_114 s rfl ?_
        refine Ax_il6 dX4_findCheapest_117 ?_
        refine Ax_il4 dX4_findCheapest_119 ?_
        refine Ax_iastn dX4_findCheapest_121 s2 (by omega) (by omega) (Ax_up (fun h7 e7 f7 z7 => ?_))
        replace s := (f7 _ (by omega)).trans s
        replace s1 := (f7 _ (by omega)).trans s1
        replace s2 := e7
        replace k0 := (f7 _ (by omega)).trans k0
        replace fr : ∀ q, (q < t ∨ t + 3 ≤ q) → h7.1 q = h.1 q := fun q hq => (f7 q (by omega)).trans (fr q hq)
        replace zr := z7.trans zr
        exact Ax_ret dX4_findCheapest_122 rfl ⟨rfl, ⟨s, by rw [c3]; exact s1, s2⟩, fr, zr⟩
    · omega
/-- the table of splits is right for these pairs -/
def TabOk (w : Nat → Nat) (n : Nat) (cos sps : Nat → Int32) (wide ii : Nat) : Prop := ∀ i j, i < j → j < n → (j - i + 1 < wide ∨ (j - i + 1 = wide ∧ i < ii)) → cos (i * 24 + j) = nI (cst w i j) ∧ sps (i * 24 + j) = nI (cut w i j)
def Diag0 (cos : Nat → Int32) : Prop := ∀ i, i < 24 → cos (i * 24 + i) = nI 0
/-- Tree that holds the splits of the clusters -/
def vTree (h : xH) (t co : Nat) (R : List Run) (dens size way : Nat) : Prop := ∃ cos sps, vTr h t co cos sps (nI way) ∧ Diag0 cos ∧ (way = 1 → ∀ i j, i < j → j < (clsOf R dens size).length → sps (i * 24 + j) = nI (cut (wF R dens size) i j))
theorem vTree.fr {h h' : xH} {t co o' w dens size way : Nat} {R : List Run} (hS : vTree h t co R dens size way) (hF : xFr o' w h h') (hq : t + 3 ≤ o' ∨ o' + w ≤ t) : vTree h' t co R dens size way := by
  obtain ⟨cos, sps, h1, h2, h3⟩ := hS
  exact ⟨cos, sps, h1.fr hF hq, h2, h3⟩
theorem TabOk.step {w : Nat → Nat} {n : Nat} {cos sps : Nat → Int32} {wide i : Nat} (h : TabOk w n cos sps wide i) (hn : n ≤ 24) (hw : 2 ≤ wide) (hi : i + wide ≤ n) : TabOk w n (upd cos (i * 24 + (i + wide - 1)) (nI (cst w i (i + wide - 1)))) (upd sps (i * 24 + (i + wide - 1)) (nI (cut w i (i + wide - 1)))) wide (i + 1) := by
  intro a b h1 h2 h3
  by_cases e : a = i ∧ b = i + wide - 1
  · obtain ⟨rfl, rfl⟩ := e
    exact ⟨pk_us, pk_us⟩
  · have hne : a * 24 + b ≠ i * 24 + (i + wide - 1) := by
      intro q
      have : a = i := by omega
      exact e ⟨this, by omega⟩
    rw [pk_un hne, pk_un hne]
    exact h a b h1 h2 (by omega)
theorem TabOk.next {w : Nat → Nat} {n : Nat} {cos sps : Nat → Int32} {wide i : Nat} (h : TabOk w n cos sps wide i) (hi : n < i + wide) : TabOk w n cos sps (wide + 1) 0 := fun a b h1 h2 h3 => h a b h1 h2 (by omega)
theorem Diag0.step {cos : Nat → Int32} {i j : Nat} {x : Int32} (h : Diag0 cos) (hij : i < j) (hj : j < 24) : Diag0 (upd cos (i * 24 + j) x) := by
  intro a ha
  rw [pk_un (by omega)]
  exact h a ha
theorem tX4_plan (hS : vTr h t co cos sps wv) (hD : Diag0 cos) (hV : vCls h co ro R dens size) (hco : co + 7 ≤ t ∨ t + 3 ≤ co) (hl : (clsOf R dens size).length ≤ 24) (hs : rsum R ≤ 24000) {way : Nat} (hw : way < 2) : AM G mX4_plan 3 0 [.ref t, .int (nI way)] h
    (fun r h' => r = none ∧ vTree h' t co R dens size way ∧ xFr t 3 h h') := by
  obtain ⟨s, s1, s2⟩ := id hS
  have k0 := hV.ob
  refine AM.of rfl rfl (Nat.le_of_ble_eq_true rfl) rfl ?_
  have fr : ∀ q, (q < t ∨ t + 3 ≤ q) → h.1 q = h.1 q := fun _ _ => rfl
  have zr : h.2 = h.2 := rfl
  refine Ax_al0 dX4_plan_0 ?_
  refine Ax_il1 dX4_plan_1 ?_
  refine Ax_putf kfX4 fX4_18 dX4_plan_2 s (Nat.le_of_ble_eq_true rfl) (Or.inl rfl) (by rfl) (by rfl) (Ax_up (fun h1 e1 f1 z1 => ?_))
  replace s := e1
  replace s1 := (f1 _ (by omega)).trans s1
  replace s2 := (f1 _ (by omega)).trans s2
  replace k0 := (f1 _ (by omega)).trans k0
  replace fr : ∀ q, (q < t ∨ t + 3 ≤ q) → h1.1 q = h.1 q := fun q hq => (f1 q (by omega)).trans (fr q hq)
  replace zr := z1.trans zr
  refine Ax_il1 dX4_plan_5 ?_
  refine Ax_ic1 dX4_plan_6 ?_
  refine Ax_cmpeqn (tgt := 11) dX4_plan_7 (by decide) (by omega) (by omega) (fun c7 => ?_) (fun c7 => ?_)
  rotate_left
  · exact Ax_ret dX4_plan_10 rfl ⟨rfl, ⟨_, _, ⟨s, s1, s2⟩, hD, fun q => absurd q c7⟩, fr, zr⟩
  subst c7
  refine Ax_al0 dX4_plan_11 ?_
  refine Ax_getf kfX4 fX4_22 dX4_plan_12 s rfl ?_
  refine Ax_cVi dX4_plan_15 vX4_26 kfX0 k0 (tC_held (hV.fr (h' := h1) ⟨fr, zr⟩ (by omega))) rfl rfl (by decide) (by simp [Value.category]) ?_
  refine Ax_bp24 dX4_plan_18 ?_
  refine Ax_mmin dX4_plan_20 sX4_32 (by decide) (by simp [Value.category]) ?_
  refine Ax_top (show (if nI 24 < nI (clsOf R dens size).length then nI 24 else nI (clsOf R dens size).length) = nI (clsOf R dens size).length by rw [if_neg (by rw [nI_ltI (by decide) (by omega)]; omega)]) ?_
  refine Ax_is2 dX4_plan_23 (Nat.le_of_ble_eq_true rfl) (by rfl) ?_
  refine Ax_ic2 dX4_plan_24 ?_
  refine Ax_is3 dX4_plan_25 (Nat.le_of_ble_eq_true rfl) (by rfl) ?_
  have hF1 : xFr t 3 h h1 := ⟨fr, zr⟩
  suffices hloop : ∀ m wide h2 cos sps x, wide + m = (clsOf R dens size).length + 1 ∨ (m = 0 ∧ (clsOf R dens size).length < wide) → 2 ≤ wide → wide < 100 → vTr h2 t co cos sps (nI 1) → Diag0 cos → TabOk (wF R dens size) (clsOf R dens size).length cos sps wide 0 → xFr t 3 h h2 → Ax G mX4_plan 3 0 26 [.ref t, .int (nI 1), .int (nI (clsOf R dens size).length), .int (nI wide), x] [] h2 (fun r h' => r = none ∧ vTree h' t co R dens size 1 ∧ xFr t 3 h h') from
    hloop ((clsOf R dens size).length - 1) 2 h1 _ _ _ (by omega) (by omega) (by omega) ⟨s, s1, s2⟩ hD (fun i j h1 h2 h3 => by omega) hF1
  clear s s1 s2 k0 fr zr hS hF1 hD
  intro m
  induction m with
  | zero =>
    intro wide h2 cos sps x hm hw2 hwl hS hD hT hF
    refine Ax_il3 dX4_plan_26 ?_
    refine Ax_il2 dX4_plan_27 ?_
    refine Ax_cmpgtn (tgt := 66) dX4_plan_28 (by decide) (by omega) (by omega) (fun c28 => ?_) (fun c28 => ?_)
    · exact Ax_ret dX4_plan_66 rfl ⟨rfl, ⟨_, _, hS, hD, fun _ i j q1 q2 => (hT i j q1 q2 (by omega)).2⟩, hF⟩
    · omega
  | succ m ih =>
    intro wide h2 cos sps x hm hw2 hwl hS hD hT hF
    refine Ax_il3 dX4_plan_26 ?_
    refine Ax_il2 dX4_plan_27 ?_
    refine Ax_cmpgtn (tgt := 66) dX4_plan_28 (by decide) (by omega) (by omega) (fun c28 => ?_) (fun c28 => ?_)
    · omega
    refine Ax_ic0 dX4_plan_31 ?_
    refine Ax_is4 dX4_plan_32 (Nat.le_of_ble_eq_true rfl) (by rfl) ?_
    suffices hin : ∀ v i h3 cos sps, i + wide + v = (clsOf R dens size).length + 1 → vTr h3 t co cos sps (nI 1) → Diag0 cos → TabOk (wF R dens size) (clsOf R dens size).length cos sps wide i → xFr t 3 h h3 → Ax G mX4_plan 3 0 34 [.ref t, .int (nI 1), .int (nI (clsOf R dens size).length), .int (nI wide), .int (nI i)] [] h3 (fun r h' => r = none ∧ vTree h' t co R dens size 1 ∧ xFr t 3 h h') from
      hin ((clsOf R dens size).length + 1 - wide) 0 h2 cos sps (by omega) hS hD hT hF
    clear hS hD hT hF
    intro v
    induction v with
    | zero =>
      intro i h3 cos sps hi hS hD hT hF
      refine Ax_il4 dX4_plan_34 ?_
      refine Ax_il3 dX4_plan_36 ?_
      refine Ax_iaddn dX4_plan_37 ?_
      refine Ax_il2 dX4_plan_38 ?_
      refine Ax_cmpgtn (tgt := 60) dX4_plan_39 (by decide) (by omega) (by omega) (fun c39 => ?_) (fun c39 => ?_)
      · refine Ax_inc3_1n dX4_plan_60 (Nat.le_of_ble_eq_true rfl) (by rfl) ?_
        refine Ax_goto (tgt := 26) dX4_plan_63 (by decide) ?_
        exact ih (wide + 1) h3 cos sps _ (by omega) (by omega) (by omega) hS hD (hT.next (by omega)) hF
      · omega
    | succ v ihv =>
      intro i h3 cos sps hi hS hD hT hF
      obtain ⟨s, s1, s2⟩ := id hS
      have hV3 := hV.fr hF (by omega)
      have hfc := tX4_findCheapest (G := G) hS hV3 hco hl hs (i := i) (j := i + wide - 1) (by omega) (by omega) (fun a b h1 h2 h3 h4 => by
        by_cases e : a = b
        · subst e; rw [cst_diag]; exact hD a (by omega)
        · exact (hT a b (by omega) (by omega) (by omega)).1)
      refine Ax_il4 dX4_plan_34 ?_
      refine Ax_il3 dX4_plan_36 ?_
      refine Ax_iaddn dX4_plan_37 ?_
      refine Ax_il2 dX4_plan_38 ?_
      refine Ax_cmpgtn (tgt := 60) dX4_plan_39 (by decide) (by omega) (by omega) (fun c39 => ?_) (fun c39 => ?_)
      · omega
      refine Ax_al0 dX4_plan_42 ?_
      refine Ax_il4 dX4_plan_43 ?_
      refine Ax_il4 dX4_plan_45 ?_
      refine Ax_il3 dX4_plan_47 ?_
      refine Ax_iaddn dX4_plan_48 ?_
      refine Ax_ic1 dX4_plan_49 ?_
      refine Ax_isubn dX4_plan_50 (by omega) ?_
      refine Ax_cVv dX4_plan_51 vX4_38 kfX4 s hfc rfl rfl (by decide) (by simp [Value.category]) (Nat.le_refl _) (fun h11 q11 => ?_)
      obtain ⟨q1, q2⟩ := q11
      refine Ax_inc4_1n dX4_plan_54 (Nat.le_of_ble_eq_true rfl) (by rfl) ?_
      refine Ax_goto (tgt := 34) dX4_plan_57 (by decide) ?_
      exact ihv (i + 1) h11 _ _ (by omega) q1 (hD.step (by omega) (by omega)) (hT.step hl hw2 (by omega)) (hF.tr q2)
end
