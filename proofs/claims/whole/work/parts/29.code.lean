/-! Code: the cells of the object at 21; its runs at 6, clusters at 11, tree at 18 -/
def vCd (h : xH) (kn fi se : Nat → Int32) (rw' : Nat → Int64) (st nu : Nat → Int32) (len us rt tg dn : Int32) : Prop :=
  h.1 21 = cO 1 [.ref 6, .ref 11, .ref 18, .ref 22, .ref 23, .ref 24, .ref 25, .ref 26, .ref 27, .int len, .int us, .int rt, .int tg, .int dn] ∧
  h.1 22 = cI 0 400 kn ∧ h.1 23 = cI 0 400 fi ∧ h.1 24 = cI 0 400 se ∧ h.1 25 = cJ 400 rw' ∧ h.1 26 = cI 0 400 st ∧ h.1 27 = cI 0 3072 nu
theorem vCd.fr {h h' : xH} {o' w : Nat} {kn fi se st nu : Nat → Int32} {rw' : Nat → Int64} {len us rt tg dn : Int32} (hS : vCd h kn fi se rw' st nu len us rt tg dn) (hF : xFr o' w h h') (hq : 28 ≤ o' ∨ o' + w ≤ 21) : vCd h' kn fi se rw' st nu len us rt tg dn :=
  ⟨(hF.1 _ (by omega)).trans hS.1, (hF.1 _ (by omega)).trans hS.2.1, (hF.1 _ (by omega)).trans hS.2.2.1, (hF.1 _ (by omega)).trans hS.2.2.2.1, (hF.1 _ (by omega)).trans hS.2.2.2.2.1, (hF.1 _ (by omega)).trans hS.2.2.2.2.2.1, (hF.1 _ (by omega)).trans hS.2.2.2.2.2.2⟩
section
variable {G : xG} {h : xH} {kn fi se st nu : Nat → Int32} {rw' : Nat → Int64} {rt tg dn us : Int32} {n : Nat}
theorem tX1_has (hS : vCd h kn fi se rw' st nu (nI n) us rt tg dn) (hn : n ≤ 400) (i : Int32) : AM G mX1_has 0 0 [.ref 21, .int i] h (fun r h' => r = some (.int (nI (gIn n i).toNat)) ∧ h' = h) := by
  obtain ⟨u, u3, u4, u5, u6, u7, u8⟩ := id hS
  refine AM.of rfl rfl (Nat.le_of_ble_eq_true rfl) rfl ?_
  refine Ax_il1 dX1_has_0 ?_
  refine Ax_iflt (tgt := 23) dX1_has_1 (by decide) (fun c1 => ?_) (fun c1 => ?_)
  · rw [gIn_f (Or.inl c1)]
    refine Ax_ic0 dX1_has_23 ?_
    exact Ax_iret dX1_has_24 rfl (by decide) ⟨rfl, rfl⟩
  refine Ax_il1 dX1_has_4 ?_
  refine Ax_al0 dX1_has_5 ?_
  refine Ax_getf kfX1 fX1_31 dX1_has_6 u rfl ?_
  refine Ax_cmpge (tgt := 23) dX1_has_9 (by decide) (fun c9 => ?_) (fun c9 => ?_)
  · rw [gIn_f (Or.inr c9)]
    refine Ax_ic0 dX1_has_23 ?_
    exact Ax_iret dX1_has_24 rfl (by decide) ⟨rfl, rfl⟩
  obtain ⟨k, hk, rfl⟩ := x_ix c1 c9 (by omega)
  rw [gIn_n hk (by omega)]
  refine Ax_il1 dX1_has_12 ?_
  refine Ax_sp400 dX1_has_13 ?_
  refine Ax_cmpgen (tgt := 23) dX1_has_16 (by decide) (by omega) (by omega) (fun c16 => ?_) (fun c16 => ?_)
  · omega
  · refine Ax_ic1 dX1_has_19 ?_
    refine Ax_goto (tgt := 24) dX1_has_20 (by decide) ?_
    exact Ax_iret dX1_has_24 rfl (by decide) ⟨rfl, rfl⟩
theorem tX1_write (hS : vCd h kn fi se rw' st nu (nI n) us rt tg dn) (hn : n < 400) (k a b : Int32) (r : Int64) : AM G mX1_write 0 0 [.ref 21, .int k, .int a, .int b, .long r] h
    (fun x h' => ∃ z, x = some (.int z) ∧ (z = nI n ∧ vCd h' (upd kn n k) (upd fi n a) (upd se n b) (vp_updL rw' n r) st nu (nI (n + 1)) us rt tg dn ∧ xFr 21 7 h h')) := by
  obtain ⟨u, u3, u4, u5, u6, u7, u8⟩ := id hS
  refine AM.of rfl rfl (Nat.le_of_ble_eq_true rfl) rfl ?_
  refine Ax_al0 dX1_write_0 ?_
  refine Ax_getf kfX1 fX1_31 dX1_write_1 u rfl ?_
  refine Ax_ifltn (tgt := 17) dX1_write_4 (by decide) (by omega) ?_
  refine Ax_al0 dX1_write_7 ?_
  refine Ax_getf kfX1 fX1_31 dX1_write_8 u rfl ?_
  refine Ax_sp400 dX1_write_11 ?_
  refine Ax_cmpltn (tgt := 19) dX1_write_14 (by decide) (by omega) (by omega) (fun c14 => ?_) (fun c14 => ?_)
  rotate_left
  · omega
  have fr : ∀ q, (q < 21 ∨ 21 + 7 ≤ q) → h.1 q = h.1 q := fun _ _ => rfl
  have zr : h.2 = h.2 := rfl
  refine Ax_al0 dX1_write_19 ?_
  refine Ax_getf kfX1 fX1_9 dX1_write_20 u rfl ?_
  refine Ax_al0 dX1_write_23 ?_
  refine Ax_getf kfX1 fX1_31 dX1_write_24 u rfl ?_
  refine Ax_il1 dX1_write_27 ?_
  refine Ax_iastn dX1_write_28 u3 (by omega) (by omega) (Ax_up (fun h1 e1 f1 z1 => ?_))
  replace u := (f1 _ (by omega)).trans u
  replace u3 := e1
  replace u4 := (f1 _ (by omega)).trans u4
  replace u5 := (f1 _ (by omega)).trans u5
  replace u6 := (f1 _ (by omega)).trans u6
  replace u7 := (f1 _ (by omega)).trans u7
  replace u8 := (f1 _ (by omega)).trans u8
  replace fr : ∀ q, (q < 21 ∨ 21 + 7 ≤ q) → h1.1 q = h.1 q := fun q hq => (f1 q (by omega)).trans (fr q hq)
  replace zr := z1.trans zr
  refine Ax_al0 dX1_write_29 ?_
  refine Ax_getf kfX1 fX1_15 dX1_write_30 u rfl ?_
  refine Ax_al0 dX1_write_33 ?_
  refine Ax_getf kfX1 fX1_31 dX1_write_34 u rfl ?_
  refine Ax_il2 dX1_write_37 ?_
  refine Ax_iastn dX1_write_38 u4 (by omega) (by omega) (Ax_up (fun h2 e2 f2 z2 => ?_))
  replace u := (f2 _ (by omega)).trans u
  replace u3 := (f2 _ (by omega)).trans u3
  replace u4 := e2
  replace u5 := (f2 _ (by omega)).trans u5
  replace u6 := (f2 _ (by omega)).trans u6
  replace u7 := (f2 _ (by omega)).trans u7
  replace u8 := (f2 _ (by omega)).trans u8
  replace fr : ∀ q, (q < 21 ∨ 21 + 7 ≤ q) → h2.1 q = h.1 q := fun q hq => (f2 q (by omega)).trans (fr q hq)
  replace zr := z2.trans zr
  refine Ax_al0 dX1_write_39 ?_
  refine Ax_getf kfX1 fX1_18 dX1_write_40 u rfl ?_
  refine Ax_al0 dX1_write_43 ?_
  refine Ax_getf kfX1 fX1_31 dX1_write_44 u rfl ?_
  refine Ax_il3 dX1_write_47 ?_
  refine Ax_iastn dX1_write_48 u5 (by omega) (by omega) (Ax_up (fun h3 e3 f3 z3 => ?_))
  replace u := (f3 _ (by omega)).trans u
  replace u3 := (f3 _ (by omega)).trans u3
  replace u4 := (f3 _ (by omega)).trans u4
  replace u5 := e3
  replace u6 := (f3 _ (by omega)).trans u6
  replace u7 := (f3 _ (by omega)).trans u7
  replace u8 := (f3 _ (by omega)).trans u8
  replace fr : ∀ q, (q < 21 ∨ 21 + 7 ≤ q) → h3.1 q = h.1 q := fun q hq => (f3 q (by omega)).trans (fr q hq)
  replace zr := z3.trans zr
  refine Ax_al0 dX1_write_49 ?_
  refine Ax_getf kfX1 fX1_21 dX1_write_50 u rfl ?_
  refine Ax_al0 dX1_write_53 ?_
  refine Ax_getf kfX1 fX1_31 dX1_write_54 u rfl ?_
  refine Ax_ll4 dX1_write_57 ?_
  refine Ax_lastn dX1_write_59 u6 (by omega) (by omega) (Ax_up (fun h4 e4 f4 z4 => ?_))
  replace u := (f4 _ (by omega)).trans u
  replace u3 := (f4 _ (by omega)).trans u3
  replace u4 := (f4 _ (by omega)).trans u4
  replace u5 := (f4 _ (by omega)).trans u5
  replace u6 := e4
  replace u7 := (f4 _ (by omega)).trans u7
  replace u8 := (f4 _ (by omega)).trans u8
  replace fr : ∀ q, (q < 21 ∨ 21 + 7 ≤ q) → h4.1 q = h.1 q := fun q hq => (f4 q (by omega)).trans (fr q hq)
  replace zr := z4.trans zr
  refine Ax_al0 dX1_write_60 ?_
  refine Ax_dup dX1_write_61 rfl ?_
  refine Ax_getf kfX1 fX1_31 dX1_write_62 u rfl ?_
  refine Ax_dup_x1 dX1_write_65 rfl rfl ?_
  refine Ax_ic1 dX1_write_66 ?_
  refine Ax_iaddn dX1_write_67 ?_
  refine Ax_putf kfX1 fX1_31 dX1_write_68 u (Nat.le_of_ble_eq_true rfl) (Or.inl rfl) (by rfl) (by rfl) (Ax_up (fun h5 e5 f5 z5 => ?_))
  replace u := e5
  replace u3 := (f5 _ (by omega)).trans u3
  replace u4 := (f5 _ (by omega)).trans u4
  replace u5 := (f5 _ (by omega)).trans u5
  replace u6 := (f5 _ (by omega)).trans u6
  replace u7 := (f5 _ (by omega)).trans u7
  replace u8 := (f5 _ (by omega)).trans u8
  replace fr : ∀ q, (q < 21 ∨ 21 + 7 ≤ q) → h5.1 q = h.1 q := fun q hq => (f5 q (by omega)).trans (fr q hq)
  replace zr := z5.trans zr
  exact Ax_iret dX1_write_71 rfl rfl ⟨_, rfl, rfl, ⟨u, u3, u4, u5, u6, u7, u8⟩, fr, zr⟩
theorem tX1_aim (hS : vCd h kn fi se rw' st nu (nI n) us rt tg dn) (hn : n ≤ 400) {i : Nat} (hi : i < n) (x : Int32) : AM G mX1_aim 1 0 [.ref 21, .int (nI i), .int x] h
    (fun r h' => r = none ∧ vCd h' kn fi (upd se i x) rw' st nu (nI n) us rt tg dn ∧ xFr 21 7 h h') := by
  obtain ⟨u, u3, u4, u5, u6, u7, u8⟩ := id hS
  refine AM.of rfl rfl (Nat.le_of_ble_eq_true rfl) rfl ?_
  refine Ax_al0 dX1_aim_0 ?_
  refine Ax_il1 dX1_aim_1 ?_
  refine Ax_cVi dX1_aim_2 vX1_59 kfX1 u (tX1_has hS hn _) rfl rfl (by decide) (by simp [Value.category]) ?_
  refine Ax_ifeqB (tgt := 15) dX1_aim_5 (by decide) (fun c5 => ?_) (fun c5 => ?_)
  · rw [gIn_n hi (by omega)] at c5; cases c5
  · have fr : ∀ q, (q < 21 ∨ 21 + 7 ≤ q) → h.1 q = h.1 q := fun _ _ => rfl
    have zr : h.2 = h.2 := rfl
    refine Ax_al0 dX1_aim_8 ?_
    refine Ax_getf kfX1 fX1_18 dX1_aim_9 u rfl ?_
    refine Ax_il1 dX1_aim_12 ?_
    refine Ax_il2 dX1_aim_13 ?_
    refine Ax_iastn dX1_aim_14 u5 (by omega) (by omega) (Ax_up (fun h1 e1 f1 z1 => ?_))
    replace u := (f1 _ (by omega)).trans u
    replace u3 := (f1 _ (by omega)).trans u3
    replace u4 := (f1 _ (by omega)).trans u4
    replace u5 := e1
    replace u6 := (f1 _ (by omega)).trans u6
    replace u7 := (f1 _ (by omega)).trans u7
    replace u8 := (f1 _ (by omega)).trans u8
    replace fr : ∀ q, (q < 21 ∨ 21 + 7 ≤ q) → h1.1 q = h.1 q := fun q hq => (f1 q (by omega)).trans (fr q hq)
    replace zr := z1.trans zr
    exact Ax_ret dX1_aim_15 rfl ⟨rfl, ⟨u, u3, u4, u5, u6, u7, u8⟩, fr, zr⟩
theorem tX1_aimN (hS : vCd h kn fi se rw' st nu (nI n) us rt tg dn) (hn : n ≤ 400) (x : Int32) : AM G mX1_aim 1 0 [.ref 21, .int (-1), .int x] h
    (fun r h' => r = none ∧ h' = h) := by
  obtain ⟨u, u3, u4, u5, u6, u7, u8⟩ := id hS
  refine AM.of rfl rfl (Nat.le_of_ble_eq_true rfl) rfl ?_
  refine Ax_al0 dX1_aim_0 ?_
  refine Ax_il1 dX1_aim_1 ?_
  refine Ax_cVi dX1_aim_2 vX1_59 kfX1 u (tX1_has hS hn _) rfl rfl (by decide) (by simp [Value.category]) ?_
  refine Ax_ifeqB (tgt := 15) dX1_aim_5 (by decide) (fun c5 => ?_) (fun c5 => ?_)
  · exact Ax_ret dX1_aim_15 rfl ⟨rfl, rfl⟩
  · rw [gIn_f (Or.inl (by decide))] at c5; cases c5
theorem tX1_length (hS : vCd h kn fi se rw' st nu (nI n) us rt tg dn) : AM G mX1_length 0 0 [.ref 21] h (fun r h' => r = some (.int (nI n)) ∧ h' = h) := by
  obtain ⟨u, u3, u4, u5, u6, u7, u8⟩ := id hS
  refine AM.of rfl rfl (Nat.le_of_ble_eq_true rfl) rfl ?_
  refine Ax_al0 dX1_length_0 ?_
  refine Ax_getf kfX1 fX1_31 dX1_length_1 u rfl ?_
  exact Ax_iret dX1_length_4 rfl rfl ⟨rfl, rfl⟩
theorem tX1_numbersInTables (hS : vCd h kn fi se rw' st nu (nI n) us rt tg dn) : AM G mX1_numbersInTables 0 0 [.ref 21] h (fun r h' => r = some (.int (us)) ∧ h' = h) := by
  obtain ⟨u, u3, u4, u5, u6, u7, u8⟩ := id hS
  refine AM.of rfl rfl (Nat.le_of_ble_eq_true rfl) rfl ?_
  refine Ax_al0 dX1_numbersInTables_0 ?_
  refine Ax_getf kfX1 fX1_35 dX1_numbersInTables_1 u rfl ?_
  exact Ax_iret dX1_numbersInTables_4 rfl rfl ⟨rfl, rfl⟩
theorem tX1_target (hS : vCd h kn fi se rw' st nu (nI n) us rt tg dn) : AM G mX1_target 0 0 [.ref 21] h (fun r h' => r = some (.int (tg)) ∧ h' = h) := by
  obtain ⟨u, u3, u4, u5, u6, u7, u8⟩ := id hS
  refine AM.of rfl rfl (Nat.le_of_ble_eq_true rfl) rfl ?_
  refine Ax_al0 dX1_target_0 ?_
  refine Ax_getf kfX1 fX1_41 dX1_target_1 u rfl ?_
  exact Ax_iret dX1_target_4 rfl rfl ⟨rfl, rfl⟩
theorem tX1_linesDone (hS : vCd h kn fi se rw' st nu (nI n) us rt tg dn) : AM G mX1_linesDone 0 0 [.ref 21] h (fun r h' => r = some (.int (dn)) ∧ h' = h) := by
  obtain ⟨u, u3, u4, u5, u6, u7, u8⟩ := id hS
  refine AM.of rfl rfl (Nat.le_of_ble_eq_true rfl) rfl ?_
  refine Ax_al0 dX1_linesDone_0 ?_
  refine Ax_getf kfX1 fX1_44 dX1_linesDone_1 u rfl ?_
  exact Ax_iret dX1_linesDone_4 rfl rfl ⟨rfl, rfl⟩
theorem tX1_kind (hS : vCd h kn fi se rw' st nu (nI n) us rt tg dn) (hn : n ≤ 400) {i : Nat} (hi : i < n) : AM G mX1_kind 1 0 [.ref 21, .int (nI i)] h (fun r h' => r = some (.int (kn i)) ∧ h' = h) := by
  obtain ⟨u, u3, u4, u5, u6, u7, u8⟩ := id hS
  refine AM.of rfl rfl (Nat.le_of_ble_eq_true rfl) rfl ?_
  refine Ax_al0 dX1_kind_0 ?_
  refine Ax_il1 dX1_kind_1 ?_
  refine Ax_cVi dX1_kind_2 vX1_59 kfX1 u (tX1_has hS hn _) rfl rfl (by decide) (by simp [Value.category]) ?_
  refine Ax_ifeqB (tgt := 17) dX1_kind_5 (by decide) (fun c5 => ?_) (fun c5 => ?_)
  · rw [gIn_n hi (by omega)] at c5; cases c5
  · refine Ax_al0 dX1_kind_8 ?_
    refine Ax_getf kfX1 fX1_9 dX1_kind_9 u rfl ?_
    refine Ax_il1 dX1_kind_12 ?_
    refine Ax_ialdn dX1_kind_13 u3 (by omega) (by omega) ?_
    refine Ax_goto (tgt := 18) dX1_kind_14 (by decide) ?_
    exact Ax_iret dX1_kind_18 rfl rfl ⟨rfl, rfl⟩
theorem tX1_first (hS : vCd h kn fi se rw' st nu (nI n) us rt tg dn) (hn : n ≤ 400) {i : Nat} (hi : i < n) : AM G mX1_first 1 0 [.ref 21, .int (nI i)] h (fun r h' => r = some (.int (fi i)) ∧ h' = h) := by
  obtain ⟨u, u3, u4, u5, u6, u7, u8⟩ := id hS
  refine AM.of rfl rfl (Nat.le_of_ble_eq_true rfl) rfl ?_
  refine Ax_al0 dX1_first_0 ?_
  refine Ax_il1 dX1_first_1 ?_
  refine Ax_cVi dX1_first_2 vX1_59 kfX1 u (tX1_has hS hn _) rfl rfl (by decide) (by simp [Value.category]) ?_
  refine Ax_ifeqB (tgt := 17) dX1_first_5 (by decide) (fun c5 => ?_) (fun c5 => ?_)
  · rw [gIn_n hi (by omega)] at c5; cases c5
  · refine Ax_al0 dX1_first_8 ?_
    refine Ax_getf kfX1 fX1_15 dX1_first_9 u rfl ?_
    refine Ax_il1 dX1_first_12 ?_
    refine Ax_ialdn dX1_first_13 u4 (by omega) (by omega) ?_
    refine Ax_goto (tgt := 18) dX1_first_14 (by decide) ?_
    exact Ax_iret dX1_first_18 rfl rfl ⟨rfl, rfl⟩
theorem tX1_second (hS : vCd h kn fi se rw' st nu (nI n) us rt tg dn) (hn : n ≤ 400) {i : Nat} (hi : i < n) : AM G mX1_second 1 0 [.ref 21, .int (nI i)] h (fun r h' => r = some (.int (se i)) ∧ h' = h) := by
  obtain ⟨u, u3, u4, u5, u6, u7, u8⟩ := id hS
  refine AM.of rfl rfl (Nat.le_of_ble_eq_true rfl) rfl ?_
  refine Ax_al0 dX1_second_0 ?_
  refine Ax_il1 dX1_second_1 ?_
  refine Ax_cVi dX1_second_2 vX1_59 kfX1 u (tX1_has hS hn _) rfl rfl (by decide) (by simp [Value.category]) ?_
  refine Ax_ifeqB (tgt := 17) dX1_second_5 (by decide) (fun c5 => ?_) (fun c5 => ?_)
  · rw [gIn_n hi (by omega)] at c5; cases c5
  · refine Ax_al0 dX1_second_8 ?_
    refine Ax_getf kfX1 fX1_18 dX1_second_9 u rfl ?_
    refine Ax_il1 dX1_second_12 ?_
    refine Ax_ialdn dX1_second_13 u5 (by omega) (by omega) ?_
    refine Ax_goto (tgt := 18) dX1_second_14 (by decide) ?_
    exact Ax_iret dX1_second_18 rfl rfl ⟨rfl, rfl⟩
theorem tX1_row (hS : vCd h kn fi se rw' st nu (nI n) us rt tg dn) (hn : n ≤ 400) {i : Nat} (hi : i < n) : AM G mX1_row 1 0 [.ref 21, .int (nI i)] h (fun r h' => r = some (.long (rw' i)) ∧ h' = h) := by
  obtain ⟨u, u3, u4, u5, u6, u7, u8⟩ := id hS
  refine AM.of rfl rfl (Nat.le_of_ble_eq_true rfl) rfl ?_
  refine Ax_al0 dX1_row_0 ?_
  refine Ax_il1 dX1_row_1 ?_
  refine Ax_cVi dX1_row_2 vX1_59 kfX1 u (tX1_has hS hn _) rfl rfl (by decide) (by simp [Value.category]) ?_
  refine Ax_ifeqB (tgt := 17) dX1_row_5 (by decide) (fun c5 => ?_) (fun c5 => ?_)
  · rw [gIn_n hi (by omega)] at c5; cases c5
  · refine Ax_al0 dX1_row_8 ?_
    refine Ax_getf kfX1 fX1_21 dX1_row_9 u rfl ?_
    refine Ax_il1 dX1_row_12 ?_
    refine Ax_laldn dX1_row_13 u6 (by omega) (by omega) ?_
    refine Ax_goto (tgt := 18) dX1_row_14 (by decide) ?_
    exact Ax_lret dX1_row_18 rfl ⟨rfl, rfl⟩
theorem tX1_fill (hS : vCd h kn fi se rw' st nu (nI n) us rt tg dn) {a e : Nat} (ha : a < 2 ^ 31) (he : e < 3072) (t : Int32) : AM G mX1_fill 1 0 [.ref 21, .int (nI a), .int (nI e), .int t] h
    (fun r h' => r = none ∧ (∃ nu', vCd h' kn fi se rw' st nu' (nI n) us rt tg dn ∧ (∀ q, a ≤ q → q ≤ e → nu' q = t) ∧ ∀ q, (q < a ∨ e < q) → nu' q = nu q) ∧ xFr 21 7 h h') := by
  refine AM.of rfl rfl (Nat.le_of_ble_eq_true rfl) rfl ?_
  refine Ax_il1 dX1_fill_0 ?_
  refine Ax_ic0 dX1_fill_1 ?_
  refine Ax_mmax dX1_fill_2 sX1_142 (by decide) (by simp [Value.category]) ?_
  refine Ax_top (show (if nI a < nI 0 then nI 0 else nI a) = nI a by rw [if_neg (by rw [nI_ltI ha (by decide)]; omega)]) ?_
  refine Ax_is4 dX1_fill_5 (Nat.le_of_ble_eq_true rfl) (by rfl) ?_
  suffices hloop : ∀ m k h1 nu1, k + m = max a (e + 1) → a ≤ k → vCd h1 kn fi se rw' st nu1 (nI n) us rt tg dn → (∀ q, a ≤ q → q < k → nu1 q = t) → (∀ q, (q < a ∨ k ≤ q) → nu1 q = nu q) → xFr 21 7 h h1 → Ax G mX1_fill 1 0 7 [.ref 21, .int (nI a), .int (nI e), .int t, .int (nI k)] [] h1 (fun r h' => r = none ∧ (∃ nu', vCd h' kn fi se rw' st nu' (nI n) us rt tg dn ∧ (∀ q, a ≤ q → q ≤ e → nu' q = t) ∧ ∀ q, (q < a ∨ e < q) → nu' q = nu q) ∧ xFr 21 7 h h') from
    hloop (max a (e + 1) - a) a h nu (by omega) (Nat.le_refl _) hS (fun q q1 q2 => by omega) (fun q q1 => rfl) xFr.rf
  intro m
  induction m with
  | zero =>
    intro k h1 nu1 hk hak hS1 hd1 hd2 hF
    refine Ax_il4 dX1_fill_7 ?_
    refine Ax_il2 dX1_fill_9 ?_
    refine Ax_cmpgtn (tgt := 35) dX1_fill_10 (by decide) (by omega) (by omega) (fun c10 => ?_) (fun c10 => ?_)
    · exact Ax_ret dX1_fill_35 rfl ⟨rfl, ⟨nu1, hS1, fun q q1 q2 => hd1 q q1 (by omega), fun q q1 => hd2 q (by omega)⟩, hF⟩
    · omega
  | succ m ih =>
    intro k h1 nu1 hk hak hS1 hd1 hd2 hF
    obtain ⟨u, u3, u4, u5, u6, u7, u8⟩ := id hS1
    refine Ax_il4 dX1_fill_7 ?_
    refine Ax_il2 dX1_fill_9 ?_
    refine Ax_cmpgtn (tgt := 35) dX1_fill_10 (by decide) (by omega) (by omega) (fun c10 => ?_) (fun c10 => ?_)
    · omega
    refine Ax_il4 dX1_fill_13 ?_
    refine Ax_sp3072 dX1_fill_15 ?_
    refine Ax_cmpgen (tgt := 35) dX1_fill_18 (by decide) (by omega) (by omega) (fun c18 => ?_) (fun c18 => ?_)
    · omega
    have fr : ∀ q, (q < 21 ∨ 21 + 7 ≤ q) → h1.1 q = h1.1 q := fun _ _ => rfl
    have zr : h1.2 = h1.2 := rfl
    refine Ax_al0 dX1_fill_21 ?_
    refine Ax_getf kfX1 fX1_28 dX1_fill_22 u rfl ?_
    refine Ax_il4 dX1_fill_25 ?_
    refine Ax_il3 dX1_fill_27 ?_
    refine Ax_iastn dX1_fill_28 u8 (by omega) (by omega) (Ax_up (fun h11 e11 f11 z11 => ?_))
    replace u := (f11 _ (by omega)).trans u
    replace u3 := (f11 _ (by omega)).trans u3
    replace u4 := (f11 _ (by omega)).trans u4
    replace u5 := (f11 _ (by omega)).trans u5
    replace u6 := (f11 _ (by omega)).trans u6
    replace u7 := (f11 _ (by omega)).trans u7
    replace u8 := e11
    replace fr : ∀ q, (q < 21 ∨ 21 + 7 ≤ q) → h11.1 q = h1.1 q := fun q hq => (f11 q (by omega)).trans (fr q hq)
    replace zr := z11.trans zr
    refine Ax_inc4_1n dX1_fill_29 (Nat.le_of_ble_eq_true rfl) (by rfl) ?_
    refine Ax_goto (tgt := 7) dX1_fill_32 (by decide) ?_
    refine ih (k + 1) _ _ (by omega) (by omega) ⟨u, u3, u4, u5, u6, u7, u8⟩ (fun q q1 q2 => ?_) (fun q q1 => ?_) (hF.tr ⟨fr, zr⟩)
    · by_cases hqk : q = k
      · subst hqk; exact pk_us
      · rw [pk_un hqk]; exact hd1 q q1 (by omega)
    · rw [pk_un (by omega)]; exact hd2 q (by omega)
end
