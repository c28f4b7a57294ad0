section
variable {G : xG} {h : xH}
theorem Ax_mmax {M : xM} {d b pc idx : Nat} {L st : List Value} {Q : Option Value → xH → Prop} {x y : Int32} (hd : decode M.2.2.1 pc = .ok (.invokestatic idx, 3)) (hw : xCS M.1 idx mJ9_max_7cf53 2) (hdd : 1 ≤ d) (hcat : (st.map fun v => v.category).sum ≤ 8)
    (k : Ax G M d b (pc + 3) L (.int (if x < y then y else x) :: st) h Q) : Ax G M d b pc L (.int y :: .int x :: st) h Q := by
  intro p e R s m args below meth c H locs cells slots ls Z C hR hL hlo hc hs hend
  have hts := C.2.2.2.2.2.2.2.1
  have hRd := C.2.2.2.2.2.2.2.2.2
  exact va_mmax C.1 C.2.1 (C.2.2.1.trans hL.1.symm) C.2.2.2.2.2.2.1 (hts _ hw.2.1) (hts _ hw.2.2) (hts _ hw.1.2.2.2.2.1) (hts _ hw.1.1) (by omega) (by rw [x_catsum]; omega) (by omega) (by omega) hd (k p e R s m args below meth c H locs cells slots ls Z C hR hL hlo hc hs hend)
theorem Ax_mmin {M : xM} {d b pc idx : Nat} {L st : List Value} {Q : Option Value → xH → Prop} {x y : Int32} (hd : decode M.2.2.1 pc = .ok (.invokestatic idx, 3)) (hw : xCS M.1 idx mJ9_min_7cf53 2) (hdd : 1 ≤ d) (hcat : (st.map fun v => v.category).sum ≤ 8)
    (k : Ax G M d b (pc + 3) L (.int (if y < x then y else x) :: st) h Q) : Ax G M d b pc L (.int y :: .int x :: st) h Q := by
  intro p e R s m args below meth c H locs cells slots ls Z C hR hL hlo hc hs hend
  have hts := C.2.2.2.2.2.2.2.1
  have hRd := C.2.2.2.2.2.2.2.2.2
  exact va_mmin C.1 C.2.1 (C.2.2.1.trans hL.1.symm) C.2.2.2.2.2.2.1 (hts _ hw.2.1) (hts _ hw.2.2) (hts _ hw.1.2.2.2.2.1) (hts _ hw.1.1) (by omega) (by rw [x_catsum]; omega) (by omega) (by omega) hd (k p e R s m args below meth c H locs cells slots ls Z C hR hL hlo hc hs hend)
theorem Ax_mminL {M : xM} {d b pc idx : Nat} {L st : List Value} {Q : Option Value → xH → Prop} {x y : Int64} (hd : decode M.2.2.1 pc = .ok (.invokestatic idx, 3)) (hw : xCS M.1 idx mJ9_min_f86c9 2) (hdd : 1 ≤ d) (hcat : (st.map fun v => v.category).sum ≤ 8)
    (k : Ax G M d b (pc + 3) L (.long (if y < x then y else x) :: st) h Q) : Ax G M d b pc L (.long y :: .long x :: st) h Q := by
  intro p e R s m args below meth c H locs cells slots ls Z C hR hL hlo hc hs hend
  have hts := C.2.2.2.2.2.2.2.1
  have hRd := C.2.2.2.2.2.2.2.2.2
  exact va_mmin_long C.1 C.2.1 (C.2.2.1.trans hL.1.symm) C.2.2.2.2.2.2.1 (hts _ hw.2.1) (hts _ hw.2.2) (hts _ hw.1.2.2.2.2.1) (hts _ hw.1.1) (by omega) (by rw [x_catsum]; omega) (by omega) (by omega) hd (k p e R s m args below meth c H locs cells slots ls Z C hR hL hlo hc hs hend)
theorem tJ7_fill {a n : Nat} {f : Nat → Int32} (hc : h.1 a = cI 0 n f) (hn : n < 2 ^ 31) (v : Int32) : AM G mJ7_fill_53178 0 0 [.ref a, .int v] h
    (fun r h' => r = none ∧ (∃ g, h'.1 a = cI 0 n g ∧ ∀ j, j < n → g j = v) ∧ (∀ q, q ≠ a → h'.1 q = h.1 q) ∧ h'.2 = h.2) := by
  refine AM.of rfl rfl (Nat.le_of_ble_eq_true rfl) rfl ?_
  refine Ax_ic0 dJ7_fill_53178_0 ?_
  refine Ax_is2 dJ7_fill_53178_1 (Nat.le_of_ble_eq_true rfl) (by rfl) ?_
  refine Ax_al0 dJ7_fill_53178_2 ?_
  refine Ax_alen (by decide) dJ7_fill_53178_3 hc ?_
  refine Ax_is3 dJ7_fill_53178_4 (Nat.le_of_ble_eq_true rfl) (by rfl) ?_
  suffices hloop : ∀ m k h1 g, k + m = n → h1.1 a = cI 0 n g → (∀ j, j < k → g j = v) → (∀ q, q ≠ a → h1.1 q = h.1 q) → h1.2 = h.2 → Ax G mJ7_fill_53178 0 0 5 [.ref a, .int v, .int (nI k), .int (nI n)] [] h1 (fun r h' => r = none ∧ (∃ g, h'.1 a = cI 0 n g ∧ ∀ j, j < n → g j = v) ∧ (∀ q, q ≠ a → h'.1 q = h.1 q) ∧ h'.2 = h.2) from hloop n 0 h f (by omega) hc (fun j hj => by omega) (fun _ _ => rfl) rfl
  intro m
  induction m with
  | zero =>
    intro k h1 g hk hc hg hF hz
    obtain rfl : k = n := by omega
    refine Ax_il2 dJ7_fill_53178_5 ?_
    refine Ax_il3 dJ7_fill_53178_6 ?_
    refine Ax_cmpgen (tgt := 20) dJ7_fill_53178_7 (by decide) (by omega) (by omega) (fun c7 => ?_) (fun c7 => ?_)
    · exact Ax_ret dJ7_fill_53178_20 rfl ⟨rfl, ⟨g, hc, hg⟩, hF, hz⟩
    · omega
  | succ m ih =>
    intro k h1 g hk hc hg hF hz
    refine Ax_il2 dJ7_fill_53178_5 ?_
    refine Ax_il3 dJ7_fill_53178_6 ?_
    refine Ax_cmpgen (tgt := 20) dJ7_fill_53178_7 (by decide) (by omega) (by omega) (fun c7 => ?_) (fun c7 => ?_)
    · omega
    have fr : ∀ q, q ≠ a → h1.1 q = h1.1 q := fun _ _ => rfl
    have zr : h1.2 = h1.2 := rfl
    refine Ax_al0 dJ7_fill_53178_10 ?_
    refine Ax_il2 dJ7_fill_53178_11 ?_
    refine Ax_il1 dJ7_fill_53178_12 ?_
    refine Ax_iastn dJ7_fill_53178_13 hc (by omega) (by omega) (Ax_up (fun h11 e11 f11 z11 => ?_))
    replace hc := e11
    replace fr : ∀ q, q ≠ a → h11.1 q = h1.1 q := fun q hq => (f11 q (by omega)).trans (fr q hq)
    replace zr := z11.trans zr
    refine Ax_inc2_1n dJ7_fill_53178_14 (Nat.le_of_ble_eq_true rfl) (by rfl) ?_
    refine Ax_goto (tgt := 5) dJ7_fill_53178_17 (by decide) ?_
    refine ih (k + 1) _ _ (by omega) hc (fun j hj => ?_) (fun q hq => (fr q hq).trans (hF q hq)) (zr.trans hz)
    by_cases hjk : j = k
    · subst hjk; exact pk_us
    · rw [pk_un hjk]; exact hg j (by omega)
theorem tJ6_bitCount {n : Nat} (hn : n < 65536) : AM G mJ6_bitCount_0f7a4 0 0 [.int (nI n)] h (fun r h' => r = some (.int (nI (pop 16 n))) ∧ h' = h) := by
  refine AM.of rfl rfl (Nat.le_of_ble_eq_true rfl) rfl ?_
  rw [← bs_pop hn]
  refine Ax_il0 dJ6_bitCount_0f7a4_0 ?_
  refine Ax_il0 dJ6_bitCount_0f7a4_1 ?_
  refine Ax_ic1 dJ6_bitCount_0f7a4_2 ?_
  refine Ax_iushr dJ6_bitCount_0f7a4_3 ?_
  refine Ax_ldcw dJ6_bitCount_0f7a4_4 cJ6_265 ?_
  refine Ax_iand dJ6_bitCount_0f7a4_7 ?_
  refine Ax_isub dJ6_bitCount_0f7a4_8 ?_
  refine Ax_top (bs_v1 hn) ?_
  refine Ax_is0 dJ6_bitCount_0f7a4_9 (Nat.le_of_ble_eq_true rfl) ?_
  refine Ax_il0 dJ6_bitCount_0f7a4_10 ?_
  refine Ax_ldcw dJ6_bitCount_0f7a4_11 cJ6_266 ?_
  refine Ax_iand dJ6_bitCount_0f7a4_14 ?_
  refine Ax_il0 dJ6_bitCount_0f7a4_15 ?_
  refine Ax_ic2 dJ6_bitCount_0f7a4_16 ?_
  refine Ax_iushr dJ6_bitCount_0f7a4_17 ?_
  refine Ax_ldcw dJ6_bitCount_0f7a4_18 cJ6_266 ?_
  refine Ax_iand dJ6_bitCount_0f7a4_21 ?_
  refine Ax_iadd dJ6_bitCount_0f7a4_22 ?_
  refine Ax_top (bs_v2 (bs_l1 hn)) ?_
  refine Ax_is0 dJ6_bitCount_0f7a4_23 (Nat.le_of_ble_eq_true rfl) ?_
  refine Ax_il0 dJ6_bitCount_0f7a4_24 ?_
  refine Ax_il0 dJ6_bitCount_0f7a4_25 ?_
  refine Ax_ic4 dJ6_bitCount_0f7a4_26 ?_
  refine Ax_iushr dJ6_bitCount_0f7a4_27 ?_
  refine Ax_iadd dJ6_bitCount_0f7a4_28 ?_
  refine Ax_ldcw dJ6_bitCount_0f7a4_29 cJ6_267 ?_
  refine Ax_iand dJ6_bitCount_0f7a4_32 ?_
  refine Ax_top (bs_v3 bs_l2) ?_
  refine Ax_is0 dJ6_bitCount_0f7a4_33 (Nat.le_of_ble_eq_true rfl) ?_
  refine Ax_il0 dJ6_bitCount_0f7a4_34 ?_
  refine Ax_il0 dJ6_bitCount_0f7a4_35 ?_
  refine Ax_bp8 dJ6_bitCount_0f7a4_36 ?_
  refine Ax_iushr dJ6_bitCount_0f7a4_38 ?_
  refine Ax_iadd dJ6_bitCount_0f7a4_39 ?_
  refine Ax_top (bs_v4 bs_l3) ?_
  refine Ax_is0 dJ6_bitCount_0f7a4_40 (Nat.le_of_ble_eq_true rfl) ?_
  refine Ax_il0 dJ6_bitCount_0f7a4_41 ?_
  refine Ax_il0 dJ6_bitCount_0f7a4_42 ?_
  refine Ax_bp16 dJ6_bitCount_0f7a4_43 ?_
  refine Ax_iushr dJ6_bitCount_0f7a4_45 ?_
  refine Ax_iadd dJ6_bitCount_0f7a4_46 ?_
  refine Ax_top (bs_v5 (bs_l4 bs_l3)) ?_
  refine Ax_is0 dJ6_bitCount_0f7a4_47 (Nat.le_of_ble_eq_true rfl) ?_
  refine Ax_il0 dJ6_bitCount_0f7a4_48 ?_
  refine Ax_bp63 dJ6_bitCount_0f7a4_49 ?_
  refine Ax_iand dJ6_bitCount_0f7a4_51 ?_
  refine Ax_top (bs_v6 _) ?_
  exact Ax_iret dJ6_bitCount_0f7a4_52 rfl rfl ⟨rfl, rfl⟩
end
