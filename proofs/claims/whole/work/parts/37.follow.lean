/-! running the code -/
noncomputable section
def numR (R : List Run) (dens size rest : Nat) (l : Ln) (k : Int) : Int32 := if l.1 = 5 ∧ 0 ≤ k ∧ k < l.2.2.1.toInt then nI (tvI R rest (cf (clsOf R dens size) l.2.2.2.2) (cn R dens size l.2.2.2.2) (l.2.1.toInt + k)) else -1
end
/-- what all lines of a code keep -/
def lnOk (R : List Run) (dens size : Nat) (l : Ln) : Prop := l.1 < 6 ∧ l.2.2.2.1 < 2 ^ 64 ∧ (l.1 = 5 → l.2.2.2.2 < (clsOf R dens size).length ∧ l.2.1 = cbt R dens size l.2.2.2.2 ∧ l.2.2.1 = nI (csp R dens size l.2.2.2.2) ∧ csp R dens size l.2.2.2.2 ≤ 256)
section
variable {R : List Run} {dens size rest way : Nat}
theorem leaf_ok (hsz : size ≤ 256) {c : Nat} (hc : c < (clsOf R dens size).length) (a b : Bool) (s : Nat) : ∀ l ∈ leafAB R dens size rest c a b s, lnOk R dens size l := by
  have hsm : ∀ (k : Nat) (x y : Int32), k < 5 → lnOk R dens size (k, x, y, 0, c) := fun k x y hk => ⟨by show k < 6; omega, by show 0 < 2 ^ 64; decide, fun q => absurd q (show k ≠ 5 by omega)⟩
  have hkl := ckd_lt hc
  have hkd := ckd_is hc
  intro l hl
  unfold leafAB at hl
  split at hl
  · rcases List.mem_cons.mp hl with rfl | hl
    · exact hsm _ _ _ (by omega)
    · rw [List.mem_singleton] at hl
      subst hl
      exact hsm _ _ _ (by omega)
  · have one : ∀ {p : Prop} [Decidable p] {k : Nat} {x y : Int32}, k < 5 → l ∈ (if p then [((k, x, y, 0, c) : Ln)] else []) → lnOk R dens size l := by
      intro p _ k x y hk hl
      split at hl
      · rw [List.mem_singleton] at hl
        subst hl
        exact hsm _ _ _ hk
      · exact absurd hl List.not_mem_nil
    rcases List.mem_append.mp hl with hl | hl
    · exact one (by omega) hl
    rcases List.mem_append.mp hl with hl | hl
    · exact one (by omega) hl
    rcases List.mem_append.mp hl with hl | hl
    · unfold bodyL at hl
      split at hl
      · rw [List.mem_singleton] at hl
        subst hl
        exact hsm _ _ _ (by omega)
      · split at hl
        · obtain ⟨w1, w2, k, w3, w4, w5, w6⟩ := bitLs_kind _ hl
          exact ⟨by omega, by rw [w6]; exact (rowN_is _ _ _ _).1, fun q => by omega⟩
        · rw [List.mem_singleton] at hl
          subst hl
          have k2 : ckd R dens size c = 2 := by omega
          rw [k2] at hkd
          have hw := (kd_two hkd).2
          have hcs : csp R dens size c ≤ 256 := by unfold csp; omega
          exact ⟨by show 5 < 6; decide, by show 0 < 2 ^ 64; decide, fun _ => ⟨hc, rfl, rfl, hcs⟩⟩
    · exact one (by omega) hl
theorem lay_ok (hl : R.length ≤ 24) (hsz : size ≤ 256) : ∀ (f i j : Nat) (le gr : Int32) (s : Nat), i ≤ j → j < (clsOf R dens size).length → ∀ l ∈ lay R dens size way rest f i j le gr s, lnOk R dens size l
  | 0, i, j, le, gr, s, h1, h2, l, h => by rw [lay] at h; exact absurd h List.not_mem_nil
  | f + 1, i, j, le, gr, s, h1, h2, l, h => by
    have hlk : (clsOf R dens size).length ≤ 24 := Nat.le_trans (cls_len R dens size) hl
    rw [lay] at h
    split at h
    · exact leaf_ok hsz (by omega) _ _ _ l h
    · obtain ⟨m1, m2⟩ := spF_in (R := R) (dens := dens) (size := size) (way := way) (i := i) (j := j) (by omega) (by omega)
      rcases List.mem_cons.mp h with h | h
      · subst h
        exact ⟨by show 0 < 6; decide, by show 0 < 2 ^ 64; decide, fun q => absurd q (show (0 : Nat) ≠ 5 by decide)⟩
      · rcases List.mem_append.mp h with h | h
        · exact lay_ok hl hsz f _ _ _ _ _ m2 h2 l h
        · exact lay_ok hl hsz f _ _ _ _ _ (by omega) (by omega) l h
theorem code_ok (hl : R.length ≤ 24) (hsz : size ≤ 256) : ∀ l ∈ codeOf R dens size way rest, lnOk R dens size l := by
  unfold codeOf
  split
  · intro l h
    rw [List.mem_singleton] at h
    subst h
    exact ⟨by show 3 < 6; decide, by show 0 < 2 ^ 64; decide, fun q => absurd q (show (3 : Nat) ≠ 5 by decide)⟩
  · exact lay_ok hl hsz 24 _ _ _ _ _ (by omega) (by omega)
theorem gL_in {L : List Ln} {i : Nat} (hi : i < L.length) : gL L i ∈ L := by
  unfold gL
  rw [List.getD_eq_getElem?_getD, List.getElem?_eq_getElem hi]
  exact List.getElem_mem hi
theorem L_dif {a b : Int32} (h : b.toInt ≤ a.toInt) : a.toInt64 - b.toInt64 = lN (a.toInt - b.toInt).toNat := by
  have h1 := I_lo a; have h2 := I_hi a; have h3 := I_lo b; have h4 := I_hi b
  refine L_of ?_ (by omega)
  rw [L_sub (by rw [Int32.toInt_toInt64, Int32.toInt_toInt64]; omega) (by rw [Int32.toInt_toInt64, Int32.toInt_toInt64]; omega), Int32.toInt_toInt64, Int32.toInt_toInt64]
  omega
theorem tsz_in : ∀ (L : List Ln) (i : Nat), i < L.length → tsum (L.take i) + tsz (gL L i) ≤ tsum L := by
  intro L i hi
  have t1 : tsum L = tsum (L.take i) + tsum (L.drop i) := by rw [← tsum_app, List.take_append_drop]
  have t2 : L.drop i = gL L i :: L.drop (i + 1) := by
    unfold gL
    rw [List.getD_eq_getElem?_getD, List.getElem?_eq_getElem hi]
    exact List.drop_eq_getElem_cons hi
  rw [t2, tsum_cons] at t1
  omega
end
section
variable {G : xG} {h : xH} {R : List Run} {dens size rest : Nat} {L : List Ln} {tg dn : Int32}
theorem tC1_number (hV : vC h R dens size rest L tg dn) (hn : L.length ≤ 400) (hu : tsum L ≤ 3072) {i : Nat} (hi : i < L.length) (hk : lnOk R dens size (gL L i)) (k : Int64) : AM G mX1_number 1 0 [.ref 21, .int (nI i), .long k] h (fun r h' => r = some (.int (numR R dens size rest (gL L i) k.toInt)) ∧ h' = h) := by
  obtain ⟨kn, fi, se, rw', st, nu, hS, hL⟩ := hV
  obtain ⟨u, u3, u4, u5, u6, u7, u8⟩ := id hS
  obtain ⟨g1, g2, g3, g4, g5⟩ := hL i hi
  have z0 : (lN 0).toInt = 0 := by decide
  have z1 : (3072 : Int64).toInt = 3072 := by decide
  refine AM.of rfl rfl (Nat.le_of_ble_eq_true rfl) rfl ?_
  refine Ax_al0 dX1_number_0 ?_
  refine Ax_il1 dX1_number_1 ?_
  refine Ax_cVi dX1_number_2 vX1_59 kfX1 u (tX1_has hS hn _) rfl rfl (by decide) (by simp [Value.category]) ?_
  refine Ax_ifeqB (tgt := 36) dX1_number_5 (by decide) (fun c5 => ?_) (fun c5 => ?_)
  · rw [gIn_n hi (by omega)] at c5; cases c5
  have hk6 : (gL L i).1 < 6 := hk.1
  have hno : ¬ ((gL L i).1 = 5 ∧ 0 ≤ k.toInt ∧ k.toInt < (gL L i).2.2.1.toInt) → ∀ x4 x5, Ax G mX1_number 1 0 36 [.ref 21, .int (nI i), .long k, .null, x4, x5] [] h (fun r h' => r = some (.int (numR R dens size rest (gL L i) k.toInt)) ∧ h' = h) := by
    intro q x4 x5
    have e : numR R dens size rest (gL L i) k.toInt = -1 := by unfold numR; rw [if_neg q]
    rw [e]
    refine Ax_icm1 dX1_number_36 ?_
    exact Ax_iret dX1_number_37 rfl rfl ⟨rfl, rfl⟩
  refine Ax_al0 dX1_number_8 ?_
  refine Ax_getf kfX1 fX1_9 dX1_number_9 u rfl ?_
  refine Ax_il1 dX1_number_12 ?_
  refine Ax_ialdn dX1_number_13 u3 (by omega) (by omega) ?_
  refine Ax_top (g1) ?_
  refine Ax_ic5 dX1_number_14 ?_
  refine Ax_cmpnen (tgt := 36) dX1_number_15 (by decide) (by omega) (by omega) (fun c15 => ?_) (fun c15 => ?_)
  · exact hno (fun q => c15 q.1) _ _
  refine Ax_ll2 dX1_number_18 ?_
  refine Ax_lc0 dX1_number_19 ?_
  refine Ax_lcmp dX1_number_20 ?_
  refine Ax_ifltC (tgt := 36) dX1_number_21 (by decide) (fun c21 => ?_) (fun c21 => ?_)
  · exact hno (fun q => by omega) _ _
  refine Ax_ll2 dX1_number_24 ?_
  refine Ax_al0 dX1_number_25 ?_
  refine Ax_getf kfX1 fX1_18 dX1_number_26 u rfl ?_
  refine Ax_il1 dX1_number_29 ?_
  refine Ax_ialdn dX1_number_30 u5 (by omega) (by omega) ?_
  refine Ax_i2l dX1_number_31 ?_
  refine Ax_lcmp dX1_number_32 ?_
  refine Ax_ifltC (tgt := 38) dX1_number_33 (by decide) (fun c33 => ?_) (fun c33 => ?_)
  rotate_left
  · rw [Int32.toInt_toInt64, g3] at c33
    exact hno (fun q => by omega) _ _
  rw [Int32.toInt_toInt64, g3] at c33
  obtain ⟨g6, g7⟩ := g5 c15
  obtain ⟨w1, w2, w3, w4⟩ := hk.2.2 c15
  have hts := tsz_in L i hi
  have hsz : tsz (gL L i) = csp R dens size (gL L i).2.2.2.2 := by
    unfold tsz
    rw [if_pos c15, w3, nI_toInt (by omega)]
    exact Int.toNat_natCast _
  have w5 : (gL L i).2.2.1.toInt = (csp R dens size (gL L i).2.2.2.2 : Int) := by rw [w3, nI_toInt (by omega)]
  obtain ⟨q, hq⟩ : ∃ q : Nat, k.toInt = (q : Int) := ⟨k.toInt.toNat, by omega⟩
  obtain rfl : k = lN q := L_of hq (by omega)
  have e : numR R dens size rest (gL L i) (lN q).toInt = nu (tsum (L.take i) + q) := by
    unfold numR
    rw [if_pos ⟨c15, by omega, by omega⟩, g7 q (by omega), hq]
  rw [e]
  have hb := L_lN (n := tsum (L.take i) + q) (by omega)
  refine Ax_al0 dX1_number_38 ?_
  refine Ax_getf kfX1 fX1_25 dX1_number_39 u rfl ?_
  refine Ax_il1 dX1_number_42 ?_
  refine Ax_ialdn dX1_number_43 u7 (by omega) (by omega) ?_
  refine Ax_top (g6) ?_
  refine Ax_i2ln dX1_number_44 (by omega) ?_
  refine Ax_ll2 dX1_number_45 ?_
  refine Ax_laddn dX1_number_46 ?_
  refine Ax_ls4 dX1_number_47 (Nat.le_of_ble_eq_true rfl) (by rfl) ?_
  refine Ax_ll4 dX1_number_49 ?_
  refine Ax_lc0 dX1_number_51 ?_
  refine Ax_lcmp dX1_number_52 ?_
  refine Ax_ifltC (tgt := 76) dX1_number_53 (by decide) (fun c53 => ?_) (fun c53 => ?_)
  · omega
  refine Ax_ll4 dX1_number_56 ?_
  refine Ax_ldc2 dX1_number_58 cX1_63 ?_
  refine Ax_lcmp dX1_number_61 ?_
  refine Ax_ifgeC (tgt := 76) dX1_number_62 (by decide) (fun c62 => ?_) (fun c62 => ?_)
  · omega
  · refine Ax_al0 dX1_number_65 ?_
    refine Ax_getf kfX1 fX1_28 dX1_number_66 u rfl ?_
    refine Ax_ll4 dX1_number_69 ?_
    refine Ax_l2in dX1_number_71 ?_
    refine Ax_ialdn dX1_number_72 u8 (by omega) (by omega) ?_
    refine Ax_goto (tgt := 77) dX1_number_73 (by decide) ?_
    exact Ax_iret dX1_number_77 rfl rfl ⟨rfl, rfl⟩
theorem tX1_hasBit (hV : vC h R dens size rest L tg dn) (hn : L.length ≤ 400) {i : Nat} (hi : i < L.length) (hk : (gL L i).2.2.2.1 < 2 ^ 64) {m : Nat} (hm : m < 64) : AM G mX1_hasBit 2 0 [.ref 21, .int (nI i), .long (lN m)] h (fun r h' => r = some (.int (nI ((gL L i).2.2.2.1.testBit m).toNat)) ∧ h' = h) := by
  obtain ⟨kn, fi, se, rw', st, nu, hS, hL⟩ := hV
  obtain ⟨u, u3, u4, u5, u6, u7, u8⟩ := id hS
  obtain ⟨g1, g2, g3, g4, g5⟩ := hL i hi
  have z0 : (lN 0).toInt = 0 := by decide
  have z1 : (64 : Int64).toInt = 64 := by decide
  have hmL := L_lN (n := m) (by omega)
  refine AM.of rfl rfl (Nat.le_of_ble_eq_true rfl) rfl ?_
  refine Ax_ll2 dX1_hasBit_0 ?_
  refine Ax_lc0 dX1_hasBit_1 ?_
  refine Ax_lcmp dX1_hasBit_2 ?_
  refine Ax_ifltC (tgt := 33) dX1_hasBit_3 (by decide) (fun c3 => ?_) (fun c3 => ?_)
  · omega
  refine Ax_ll2 dX1_hasBit_6 ?_
  refine Ax_ldc2 dX1_hasBit_7 cX1_159 ?_
  refine Ax_lcmp dX1_hasBit_10 ?_
  refine Ax_ifgeC (tgt := 33) dX1_hasBit_11 (by decide) (fun c11 => ?_) (fun c11 => ?_)
  · omega
  rw [Nat.testBit_eq_decide_div_mod_eq]
  have hlt : (gL L i).2.2.2.1 / 2 ^ m % 2 < 2 := Nat.mod_lt _ (by decide)
  have hL2 := L_lN (n := (gL L i).2.2.2.1 / 2 ^ m % 2) (by omega)
  refine Ax_al0 dX1_hasBit_14 ?_
  refine Ax_il1 dX1_hasBit_15 ?_
  refine Ax_cVl dX1_hasBit_16 vX1_161 kfX1 u (tX1_row hS hn hi) rfl rfl (by decide) (by simp [Value.category]) ?_
  refine Ax_ll2 dX1_hasBit_19 ?_
  refine Ax_l2in dX1_hasBit_20 ?_
  refine Ax_lushr dX1_hasBit_21 ?_
  refine Ax_lc1 dX1_hasBit_22 ?_
  refine Ax_land dX1_hasBit_23 ?_
  refine Ax_topL (show ((rw' i).toUInt64 >>> ((nI m).toInt64.toUInt64 &&& Int64.toUInt64 63)).toInt64 &&& lN 1 = lN ((gL L i).2.2.2.1 / 2 ^ m % 2) by rw [g4]; exact wb_bit hk hm) ?_
  refine Ax_lc0 dX1_hasBit_24 ?_
  refine Ax_lcmp dX1_hasBit_25 ?_
  refine Ax_ifeqC (tgt := 33) dX1_hasBit_26 (by decide) (fun c26 => ?_) (fun c26 => ?_)
  · rw [decide_eq_false (by omega)]
    refine Ax_ic0 dX1_hasBit_33 ?_
    exact Ax_iret dX1_hasBit_34 rfl (by decide) ⟨rfl, rfl⟩
  · rw [decide_eq_true (by omega)]
    refine Ax_ic1 dX1_hasBit_29 ?_
    refine Ax_goto (tgt := 34) dX1_hasBit_30 (by decide) ?_
    exact Ax_iret dX1_hasBit_34 rfl (by decide) ⟨rfl, rfl⟩
theorem tX1_endWith (hV : vC h R dens size rest L tg dn) (v : Int32) : AM G mX1_endWith 0 0 [.ref 21, .int v] h (fun r h' => ∃ z, r = some (.int z) ∧ (z = -1 ∧ vC h' R dens size rest L v dn ∧ xFr 21 7 h h')) := by
  obtain ⟨kn, fi, se, rw', st, nu, hS, hL⟩ := hV
  obtain ⟨u, u3, u4, u5, u6, u7, u8⟩ := id hS
  refine AM.of rfl rfl (Nat.le_of_ble_eq_true rfl) rfl ?_
  have fr : ∀ q, (q < 21 ∨ 21 + 7 ≤ q) → h.1 q = h.1 q := fun _ _ => rfl
  have zr : h.2 = h.2 := rfl
  refine Ax_al0 dX1_endWith_0 ?_
  refine Ax_il1 dX1_endWith_1 ?_
  refine Ax_putf kfX1 fX1_41 dX1_endWith_2 u (Nat.le_of_ble_eq_true rfl) (Or.inl rfl) (by rfl) (by rfl) (Ax_up (fun h1 e1 f1 z1 => ?_))
  replace u := e1
  replace u3 := (f1 _ (by omega)).trans u3
  replace u4 := (f1 _ (by omega)).trans u4
  replace u5 := (f1 _ (by omega)).trans u5
  replace u6 := (f1 _ (by omega)).trans u6
  replace u7 := (f1 _ (by omega)).trans u7
  replace u8 := (f1 _ (by omega)).trans u8
  replace fr : ∀ q, (q < 21 ∨ 21 + 7 ≤ q) → h1.1 q = h.1 q := fun q hq => (f1 q (by omega)).trans (fr q hq)
  replace zr := z1.trans zr
  refine Ax_icm1 dX1_endWith_5 ?_
  exact Ax_iret dX1_endWith_6 rfl rfl ⟨_, rfl, rfl, ⟨_, _, _, _, _, _, ⟨u, u3, u4, u5, u6, u7, u8⟩, hL⟩, fr, zr⟩
theorem tX1_doLine (hV : vC h R dens size rest L tg dn) (hn : L.length ≤ 400) (hu : tsum L ≤ 3072) (hok : ∀ l ∈ L, lnOk R dens size l) {x : Int32} {n i t : Nat} (hG : Go R dens size rest L x (n + 1) i t) : AM G mX1_doLine 3 0 [.ref 21, .int (nI i), .int x] h
    (fun r h' => ∃ z, r = some (.int z) ∧ ((∃ e, z = nI e ∧ e < 401 ∧ Go R dens size rest L x n e t ∧ h' = h) ∨ (z = -1 ∧ n = 0 ∧ vC h' R dens size rest L (nI t) dn ∧ xFr 21 7 h h'))) := by
  rw [Go] at hG
  obtain ⟨hi, hP⟩ := hG
  have hlk := hok _ (gL_in hi)
  have hend := fun v => tX1_endWith (G := G) hV v
  have hnum := fun k => tC1_number (G := G) hV hn hu hi hlk k
  have hhas := fun (m : Nat) (hm : m < 64) => tX1_hasBit (G := G) hV hn hi hlk.2.1 hm
  obtain ⟨kn, fi, se, rw', st, nu, hS, hL⟩ := hV
  obtain ⟨u, u3, u4, u5, u6, u7, u8⟩ := id hS
  obtain ⟨g1, g2, g3, g4, g5⟩ := hL i hi
  refine AM.of rfl rfl (Nat.le_of_ble_eq_true rfl) rfl ?_
  refine Ax_al0 dX1_doLine_0 ?_
  refine Ax_il1 dX1_doLine_1 ?_
  refine Ax_cVi dX1_doLine_2 vX1_59 kfX1 u (tX1_has hS hn _) rfl rfl (by decide) (by simp [Value.category]) ?_
  refine Ax_ifneB (tgt := 10) dX1_doLine_5 (by decide) (fun c5 => ?_) (fun c5 => ?_)
  rotate_left
  · rw [gIn_n hi (by omega)] at c5; cases c5
  refine Ax_al0 dX1_doLine_10 ?_
  refine Ax_getf kfX1 fX1_9 dX1_doLine_11 u rfl ?_
  refine Ax_il1 dX1_doLine_14 ?_
  refine Ax_ialdn dX1_doLine_15 u3 (by omega) (by omega) ?_
  rcases hP with ⟨h1, h2, h3, h4⟩ | ⟨h1, h2, h3, h4⟩ | ⟨h1, h2, h3, h4⟩ | ⟨h1, h2⟩ | ⟨h1, h2, h3, h4, h5, h6, h7, h8, h9⟩ | ⟨h1, h2, h3, h4, h5, h6, h7, h8⟩
  · rw [g1, h1]
    rw [← g2] at h3 h4
    refine Ax_tabI (tgt := 56) dX1_doLine_16 (by decide) (by decide) rfl (by decide) ?_
    refine Ax_il2 dX1_doLine_56 ?_
    refine Ax_al0 dX1_doLine_57 ?_
    refine Ax_getf kfX1 fX1_15 dX1_doLine_58 u rfl ?_
    refine Ax_il1 dX1_doLine_61 ?_
    refine Ax_ialdn dX1_doLine_62 u4 (by omega) (by omega) ?_
    refine Ax_cmpge (tgt := 75) dX1_doLine_63 (by decide) (fun c63 => ?_) (fun c63 => ?_)
    · simp only [Int32.le_iff_toInt_le] at c63
      refine Ax_il1 dX1_doLine_75 ?_
      refine Ax_ic1 dX1_doLine_76 ?_
      refine Ax_iaddn dX1_doLine_77 ?_
      exact Ax_iret dX1_doLine_78 rfl rfl ⟨_, rfl, Or.inl ⟨_, rfl, by omega, h4 (by omega), rfl⟩⟩
    · simp only [Int32.lt_iff_toInt_lt, Int32.le_iff_toInt_le] at c63
      obtain ⟨e, e1, e2, e3⟩ := h3 (by omega)
      refine Ax_al0 dX1_doLine_66 ?_
      refine Ax_getf kfX1 fX1_18 dX1_doLine_67 u rfl ?_
      refine Ax_il1 dX1_doLine_70 ?_
      refine Ax_ialdn dX1_doLine_71 u5 (by omega) (by omega) ?_
      refine Ax_goto (tgt := 78) dX1_doLine_72 (by decide) ?_
      exact Ax_iret dX1_doLine_78 rfl rfl ⟨_, rfl, Or.inl ⟨e, g3.trans e1, by omega, e3, rfl⟩⟩
  · rw [g1, h1]
    rw [← g2] at h3 h4
    refine Ax_tabI (tgt := 79) dX1_doLine_16 (by decide) (by decide) rfl (by decide) ?_
    refine Ax_il2 dX1_doLine_79 ?_
    refine Ax_al0 dX1_doLine_80 ?_
    refine Ax_getf kfX1 fX1_15 dX1_doLine_81 u rfl ?_
    refine Ax_il1 dX1_doLine_84 ?_
    refine Ax_ialdn dX1_doLine_85 u4 (by omega) (by omega) ?_
    refine Ax_cmple (tgt := 98) dX1_doLine_86 (by decide) (fun c86 => ?_) (fun c86 => ?_)
    · simp only [Int32.le_iff_toInt_le] at c86
      refine Ax_il1 dX1_doLine_98 ?_
      refine Ax_ic1 dX1_doLine_99 ?_
      refine Ax_iaddn dX1_doLine_100 ?_
      exact Ax_iret dX1_doLine_101 rfl rfl ⟨_, rfl, Or.inl ⟨_, rfl, by omega, h4 (by omega), rfl⟩⟩
    · simp only [Int32.lt_iff_toInt_lt, Int32.le_iff_toInt_le] at c86
      obtain ⟨e, e1, e2, e3⟩ := h3 (by omega)
      refine Ax_al0 dX1_doLine_89 ?_
      refine Ax_getf kfX1 fX1_18 dX1_doLine_90 u rfl ?_
      refine Ax_il1 dX1_doLine_93 ?_
      refine Ax_ialdn dX1_doLine_94 u5 (by omega) (by omega) ?_
      refine Ax_goto (tgt := 101) dX1_doLine_95 (by decide) ?_
      exact Ax_iret dX1_doLine_101 rfl rfl ⟨_, rfl, Or.inl ⟨e, g3.trans e1, by omega, e3, rfl⟩⟩
  · rw [g1, h1]
    rw [← g2] at h3 h4
    refine Ax_tabI (tgt := 102) dX1_doLine_16 (by decide) (by decide) rfl (by decide) ?_
    refine Ax_il2 dX1_doLine_102 ?_
    refine Ax_al0 dX1_doLine_103 ?_
    refine Ax_getf kfX1 fX1_15 dX1_doLine_104 u rfl ?_
    refine Ax_il1 dX1_doLine_107 ?_
    refine Ax_ialdn dX1_doLine_108 u4 (by omega) (by omega) ?_
    refine Ax_cmpne (tgt := 125) dX1_doLine_109 (by decide) (fun c109 => ?_) (fun c109 => ?_)
    · refine Ax_il1 dX1_doLine_125 ?_
      refine Ax_ic1 dX1_doLine_126 ?_
      refine Ax_iaddn dX1_doLine_127 ?_
      exact Ax_iret dX1_doLine_128 rfl rfl ⟨_, rfl, Or.inl ⟨_, rfl, by omega, h4 c109, rfl⟩⟩
    · obtain ⟨n0, e1, -⟩ := h3 c109
      refine Ax_al0 dX1_doLine_112 ?_
      refine Ax_al0 dX1_doLine_113 ?_
      refine Ax_getf kfX1 fX1_18 dX1_doLine_114 u rfl ?_
      refine Ax_il1 dX1_doLine_117 ?_
      refine Ax_ialdn dX1_doLine_118 u5 (by omega) (by omega) ?_
      refine Ax_cViH dX1_doLine_119 vX1_148 kfX1 u (hend _) rfl rfl (by decide) (by simp [Value.category]) (Nat.le_refl _) (fun x119 h1 q1 => ?_)
      obtain ⟨rfl, q1, q2⟩ := q1
      rw [g3, e1] at q1
      refine Ax_goto (tgt := 128) dX1_doLine_122 (by decide) ?_
      exact Ax_iret dX1_doLine_128 rfl rfl ⟨_, rfl, Or.inr ⟨rfl, n0, q1, q2⟩⟩
  · rw [g1, h1]
    obtain ⟨n0, e1, -⟩ := h2
    refine Ax_tabI (tgt := 184) dX1_doLine_16 (by decide) (by decide) rfl (by decide) ?_
    refine Ax_al0 dX1_doLine_184 ?_
    refine Ax_al0 dX1_doLine_185 ?_
    refine Ax_getf kfX1 fX1_15 dX1_doLine_186 u rfl ?_
    refine Ax_il1 dX1_doLine_189 ?_
    refine Ax_ialdn dX1_doLine_190 u4 (by omega) (by omega) ?_
    refine Ax_cViH dX1_doLine_191 vX1_148 kfX1 u (hend _) rfl rfl (by decide) (by simp [Value.category]) (Nat.le_refl _) (fun x191 h1 q1 => ?_)
    obtain ⟨rfl, q1, q2⟩ := q1
    rw [g2, e1] at q1
    exact Ax_iret dX1_doLine_194 rfl rfl ⟨_, rfl, Or.inr ⟨rfl, n0, q1, q2⟩⟩
  · rw [g1, h1]
    rw [← g2] at h8 h9
    have hb : (fi i).toInt ≤ x.toInt := by rw [g2, h3]; exact h5
    have hb2 : x.toInt - (fi i).toInt < 64 := by rw [g2, h3]; omega
    refine Ax_tabI (tgt := 129) dX1_doLine_16 (by decide) (by decide) rfl (by decide) ?_
    refine Ax_al0 dX1_doLine_129 ?_
    refine Ax_il1 dX1_doLine_130 ?_
    refine Ax_il2 dX1_doLine_131 ?_
    refine Ax_i2l dX1_doLine_132 ?_
    refine Ax_al0 dX1_doLine_133 ?_
    refine Ax_getf kfX1 fX1_15 dX1_doLine_134 u rfl ?_
    refine Ax_il1 dX1_doLine_137 ?_
    refine Ax_ialdn dX1_doLine_138 u4 (by omega) (by omega) ?_
    refine Ax_i2l dX1_doLine_139 ?_
    refine Ax_lsub dX1_doLine_140 ?_
    refine Ax_topL (L_dif hb) ?_
    refine Ax_cVi dX1_doLine_141 vX1_151 kfX1 u (hhas (x.toInt - (fi i).toInt).toNat (by omega)) rfl rfl (by decide) (by simp [Value.category]) ?_
    refine Ax_ifeqB (tgt := 160) dX1_doLine_144 (by decide) (fun c144 => ?_) (fun c144 => ?_)
    · refine Ax_il1 dX1_doLine_160 ?_
      refine Ax_ic1 dX1_doLine_161 ?_
      refine Ax_iaddn dX1_doLine_162 ?_
      exact Ax_iret dX1_doLine_163 rfl rfl ⟨_, rfl, Or.inl ⟨_, rfl, by omega, h9 (by rw [c144]; decide), rfl⟩⟩
    · obtain ⟨n0, e1, -⟩ := h8 c144
      refine Ax_al0 dX1_doLine_147 ?_
      refine Ax_al0 dX1_doLine_148 ?_
      refine Ax_getf kfX1 fX1_18 dX1_doLine_149 u rfl ?_
      refine Ax_il1 dX1_doLine_152 ?_
      refine Ax_ialdn dX1_doLine_153 u5 (by omega) (by omega) ?_
      refine Ax_cViH dX1_doLine_154 vX1_148 kfX1 u (hend _) rfl rfl (by decide) (by simp [Value.category]) (Nat.le_refl _) (fun x154 h1 q1 => ?_)
      obtain ⟨rfl, q1, q2⟩ := q1
      rw [g3, e1] at q1
      refine Ax_goto (tgt := 163) dX1_doLine_157 (by decide) ?_
      exact Ax_iret dX1_doLine_163 rfl rfl ⟨_, rfl, Or.inr ⟨rfl, n0, q1, q2⟩⟩
  · rw [g1, h1]
    obtain ⟨n0, e1, -⟩ := h8
    have hb : (fi i).toInt ≤ x.toInt := by rw [g2, h3]; exact h6
    have hxl := I_lo x
    have hxh := I_hi x
    have hfl := I_lo (fi i)
    have hL2 := L_lN (n := (x.toInt - (fi i).toInt).toNat) (by omega)
    have eN : numR R dens size rest (gL L i) (lN (x.toInt - (fi i).toInt).toNat).toInt = nI t := by
      obtain ⟨-, p2, p3, -⟩ := ClOk.at _ _ _ (cls_ok R dens size) h2
      unfold numR
      have w5 : (gL L i).2.2.1.toInt = (csp R dens size (gL L i).2.2.2.2 : Int) := by rw [h4, nI_toInt (by omega)]
      have w6 : x.toInt - (fi i).toInt < (csp R dens size (gL L i).2.2.2.2 : Int) := by
        rw [g2, h3]
        unfold csp spn
        unfold cbt at h6 ⊢
        unfold ctp at h7
        omega
      rw [if_pos ⟨h1, by omega, by omega⟩, hL2, ← e1, ← g2]
      congr 2
      omega
    refine Ax_tabI (tgt := 164) dX1_doLine_16 (by decide) (by decide) rfl (by decide) ?_
    refine Ax_al0 dX1_doLine_164 ?_
    refine Ax_al0 dX1_doLine_165 ?_
    refine Ax_il1 dX1_doLine_166 ?_
    refine Ax_il2 dX1_doLine_167 ?_
    refine Ax_i2l dX1_doLine_168 ?_
    refine Ax_al0 dX1_doLine_169 ?_
    refine Ax_getf kfX1 fX1_15 dX1_doLine_170 u rfl ?_
    refine Ax_il1 dX1_doLine_173 ?_
    refine Ax_ialdn dX1_doLine_174 u4 (by omega) (by omega) ?_
    refine Ax_i2l dX1_doLine_175 ?_
    refine Ax_lsub dX1_doLine_176 ?_
    refine Ax_topL (L_dif hb) ?_
    refine Ax_cVi dX1_doLine_177 vX1_155 kfX1 u (hnum _) rfl rfl (by decide) (by simp [Value.category]) ?_
    refine Ax_top eN ?_
    refine Ax_cViH dX1_doLine_180 vX1_148 kfX1 u (hend _) rfl rfl (by decide) (by simp [Value.category]) (Nat.le_refl _) (fun x180 h1 q1 => ?_)
    obtain ⟨rfl, q1, q2⟩ := q1
    exact Ax_iret dX1_doLine_183 rfl rfl ⟨_, rfl, Or.inr ⟨rfl, n0, q1, q2⟩⟩
theorem tX1_follow (hV : vC h R dens size rest L tg dn) (hn : L.length ≤ 400) (hu : tsum L ≤ 3072) (hok : ∀ l ∈ L, lnOk R dens size l) {x : Int32} {n t : Nat} (hG : Go R dens size rest L x n 0 t) (hn4 : n < 400) : AM G mX1_follow 4 0 [.ref 21, .int x] h
    (fun r h' => r = none ∧ vC h' R dens size rest L (nI t) (nI n) ∧ xFr 21 7 h h') := by
  obtain ⟨kn, fi, se, rw', st, nu, hS, hL⟩ := hV
  obtain ⟨u, u3, u4, u5, u6, u7, u8⟩ := id hS
  refine AM.of rfl rfl (Nat.le_of_ble_eq_true rfl) rfl ?_
  have fr : ∀ q, (q < 21 ∨ 21 + 7 ≤ q) → h.1 q = h.1 q := fun _ _ => rfl
  have zr : h.2 = h.2 := rfl
  refine Ax_ic0 dX1_follow_0 ?_
  refine Ax_is2 dX1_follow_1 (Nat.le_of_ble_eq_true rfl) (by rfl) ?_
  refine Ax_al0 dX1_follow_2 ?_
  refine Ax_ic0 dX1_follow_3 ?_
  refine Ax_putf kfX1 fX1_44 dX1_follow_4 u (Nat.le_of_ble_eq_true rfl) (Or.inl rfl) (by rfl) (by rfl) (Ax_up (fun h1 e1 f1 z1 => ?_))
  replace u := e1
  replace u3 := (f1 _ (by omega)).trans u3
  replace u4 := (f1 _ (by omega)).trans u4
  replace u5 := (f1 _ (by omega)).trans u5
  replace u6 := (f1 _ (by omega)).trans u6
  replace u7 := (f1 _ (by omega)).trans u7
  replace u8 := (f1 _ (by omega)).trans u8
  replace fr : ∀ q, (q < 21 ∨ 21 + 7 ≤ q) → h1.1 q = h.1 q := fun q hq => (f1 q (by omega)).trans (fr q hq)
  replace zr := z1.trans zr
  refine Ax_al0 dX1_follow_7 ?_
  refine Ax_al0 dX1_follow_8 ?_
  refine Ax_getf kfX1 fX1_38 dX1_follow_9 u rfl ?_
  refine Ax_putf kfX1 fX1_41 dX1_follow_12 u (Nat.le_of_ble_eq_true rfl) (Or.inl rfl) (by rfl) (by rfl) (Ax_up (fun h2 e2 f2 z2 => ?_))
  replace u := e2
  replace u3 := (f2 _ (by omega)).trans u3
  replace u4 := (f2 _ (by omega)).trans u4
  replace u5 := (f2 _ (by omega)).trans u5
  replace u6 := (f2 _ (by omega)).trans u6
  replace u7 := (f2 _ (by omega)).trans u7
  replace u8 := (f2 _ (by omega)).trans u8
  replace fr : ∀ q, (q < 21 ∨ 21 + 7 ≤ q) → h2.1 q = h.1 q := fun q hq => (f2 q (by omega)).trans (fr q hq)
  replace zr := z2.trans zr
  suffices hloop : ∀ m d i h1 tg1, d + m = n → (∀ m', m = m' → ((∃ e, i = nI e ∧ e < 401 ∧ Go R dens size rest L x m' e t) ∨ (i = -1 ∧ m' = 0 ∧ tg1 = nI t))) → vC h1 R dens size rest L tg1 (nI d) → xFr 21 7 h h1 →
      Ax G mX1_follow 4 0 15 [.ref 21, .int x, .int i] [] h1 (fun r h' => r = none ∧ vC h' R dens size rest L (nI t) (nI n) ∧ xFr 21 7 h h') from
    hloop n 0 (nI 0) _ (nI rest) (by omega) (fun m' hm => Or.inl ⟨0, rfl, by omega, hm ▸ hG⟩) ⟨_, _, _, _, _, _, ⟨u, u3, u4, u5, u6, u7, u8⟩, hL⟩ ⟨fr, zr⟩
  clear fr zr u u3 u4 u5 u6 u7 u8 e1 f1 z1 e2 f2 z2
  intro m
  induction m with
  | zero =>
    intro d i h1 tg1 hd hgo hV1 hF1
    rcases hgo 0 rfl with ⟨e, -, -, w⟩ | ⟨rfl, -, rfl⟩
    · exact w.elim
    · obtain rfl : d = n := by omega
      obtain ⟨kn, fi, se, rw', st, nu, hS1, hL1⟩ := id hV1
      obtain ⟨u, u3, u4, u5, u6, u7, u8⟩ := id hS1
      refine Ax_al0 dX1_follow_15 ?_
      refine Ax_getf kfX1 fX1_44 dX1_follow_16 u rfl ?_
      refine Ax_sp400 dX1_follow_19 ?_
      refine Ax_cmpgen (tgt := 53) dX1_follow_22 (by decide) (by omega) (by omega) (fun c22 => ?_) (fun c22 => ?_)
      · exact Ax_ret dX1_follow_53 rfl ⟨rfl, hV1, hF1⟩
      refine Ax_al0 dX1_follow_25 ?_
      refine Ax_il2 dX1_follow_26 ?_
      refine Ax_cVi dX1_follow_27 vX1_59 kfX1 u (tX1_has hS1 hn _) rfl rfl (by decide) (by simp [Value.category]) ?_
      refine Ax_ifeqB (tgt := 53) dX1_follow_30 (by decide) (fun c30 => ?_) (fun c30 => ?_)
      · exact Ax_ret dX1_follow_53 rfl ⟨rfl, hV1, hF1⟩
      · rw [gIn_f (Or.inl (by decide))] at c30
        cases c30
  | succ m ih =>
    intro d i h1 tg1 hd hgo hV1 hF1
    rcases hgo (m + 1) rfl with ⟨e, rfl, -, w⟩ | ⟨-, w, -⟩
    rotate_left
    · omega
    have he : e < L.length := by
      rw [Go] at w
      exact w.1
    have u := hV1.ob
    obtain ⟨kn, fi, se, rw', st, nu, hS1, hL1⟩ := id hV1
    refine Ax_al0 dX1_follow_15 ?_
    refine Ax_getf kfX1 fX1_44 dX1_follow_16 u rfl ?_
    refine Ax_sp400 dX1_follow_19 ?_
    refine Ax_cmpgen (tgt := 53) dX1_follow_22 (by decide) (by omega) (by omega) (fun c22 => ?_) (fun c22 => ?_)
    · omega
    refine Ax_al0 dX1_follow_25 ?_
    refine Ax_il2 dX1_follow_26 ?_
    refine Ax_cVi dX1_follow_27 vX1_59 kfX1 u (tX1_has hS1 hn _) rfl rfl (by decide) (by simp [Value.category]) ?_
    refine Ax_ifeqB (tgt := 53) dX1_follow_30 (by decide) (fun c30 => ?_) (fun c30 => ?_)
    · rw [gIn_n he (by omega)] at c30
      cases c30
    refine Ax_al0 dX1_follow_33 ?_
    refine Ax_il2 dX1_follow_34 ?_
    refine Ax_il1 dX1_follow_35 ?_
    refine Ax_cViH dX1_follow_36 vX1_145 kfX1 u (tX1_doLine (G := G) hV1 hn hu hok w) rfl rfl (by decide) (by simp [Value.category]) (Nat.le_refl _) (fun x36 h2 q2 => ?_)
    have hnx : ∃ tg2, vC h2 R dens size rest L tg2 (nI d) ∧ xFr 21 7 h1 h2 ∧ ∀ m', m = m' → ((∃ e, x36 = nI e ∧ e < 401 ∧ Go R dens size rest L x m' e t) ∨ (x36 = -1 ∧ m' = 0 ∧ tg2 = nI t)) := by
      rcases q2 with ⟨e', a1, a2, a3, rfl⟩ | ⟨a1, a2, a3, a4⟩
      · exact ⟨tg1, hV1, xFr.rf, fun m' hm => Or.inl ⟨e', a1, a2, hm ▸ a3⟩⟩
      · exact ⟨nI t, a3, a4, fun m' hm => Or.inr ⟨a1, by omega, rfl⟩⟩
    obtain ⟨tg2, hV2, hF2, hgo2⟩ := hnx
    obtain ⟨kn, fi, se, rw', st, nu, hS2, hL2⟩ := id hV2
    clear u
    obtain ⟨u, u3, u4, u5, u6, u7, u8⟩ := id hS2
    have fr : ∀ q, (q < 21 ∨ 21 + 7 ≤ q) → h2.1 q = h2.1 q := fun _ _ => rfl
    have zr : h2.2 = h2.2 := rfl
    refine Ax_is2 dX1_follow_39 (Nat.le_of_ble_eq_true rfl) (by rfl) ?_
    refine Ax_al0 dX1_follow_40 ?_
    refine Ax_dup dX1_follow_41 rfl ?_
    refine Ax_getf kfX1 fX1_44 dX1_follow_42 u rfl ?_
    refine Ax_ic1 dX1_follow_45 ?_
    refine Ax_iaddn dX1_follow_46 ?_
    refine Ax_putf kfX1 fX1_44 dX1_follow_47 u (Nat.le_of_ble_eq_true rfl) (Or.inl rfl) (by rfl) (by rfl) (Ax_up (fun h3 e3 f3 z3 => ?_))
    replace u := e3
    replace u3 := (f3 _ (by omega)).trans u3
    replace u4 := (f3 _ (by omega)).trans u4
    replace u5 := (f3 _ (by omega)).trans u5
    replace u6 := (f3 _ (by omega)).trans u6
    replace u7 := (f3 _ (by omega)).trans u7
    replace u8 := (f3 _ (by omega)).trans u8
    replace fr : ∀ q, (q < 21 ∨ 21 + 7 ≤ q) → h3.1 q = h2.1 q := fun q hq => (f3 q (by omega)).trans (fr q hq)
    replace zr := z3.trans zr
    refine Ax_goto (tgt := 15) dX1_follow_50 (by decide) ?_
    exact ih (d + 1) _ _ tg2 (by omega) hgo2 ⟨_, _, _, _, _, _, ⟨u, u3, u4, u5, u6, u7, u8⟩, hL2⟩ (hF1.tr (hF2.tr ⟨fr, zr⟩))
end
