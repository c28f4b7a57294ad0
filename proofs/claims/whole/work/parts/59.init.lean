/-! constructors of ChoiceCode's classes -/
section
variable {G : xG} {M : xM} {d b pc : Nat} {L st : List Value} {h : xH} {Q : Option Value → xH → Prop}
theorem Ax_newIz {z t N : Nat} {at' : ArrayType} (hz : h.2 = z) (hat : newarray.typeOf at' = x_t t) (ht : t < 3) (hw : Cond.arrayClass (newarray.typeOf at') ∈ lw_good) (hd : decode M.2.2.1 pc = .ok (.newarray at', 2)) (hN : N ≤ 100000) (hn : z < 1000000) (hb : N + 1 ≤ b)
    (k : ∀ h1 : xH, h1.1 z = cI t N (fun _ => 0) → (∀ q, q ≠ z → h1.1 q = h.1 q) → h1.2 = z + 1 → Ax G M d (b - (N + 1)) (pc + 2) L (.ref z :: st) h1 Q) : Ax G M d b pc L (.int (nI N) :: st) h Q := by
  subst hz
  exact Ax_newI hat ht hw hd hN hn hb (k _ xnew_s (fun _ hq => xnew_n hq) rfl)
theorem Ax_newJz {z N : Nat} (hz : h.2 = z) (hw : Cond.arrayClass .long ∈ lw_good) (hd : decode M.2.2.1 pc = .ok (.newarray .long, 2)) (hN : N ≤ 100000) (hn : z < 1000000) (hb : N + 1 ≤ b)
    (k : ∀ h1 : xH, h1.1 z = cJ N (fun _ => 0) → (∀ q, q ≠ z → h1.1 q = h.1 q) → h1.2 = z + 1 → Ax G M d (b - (N + 1)) (pc + 2) L (.ref z :: st) h1 Q) : Ax G M d b pc L (.int (nI N) :: st) h Q := by
  subst hz
  exact Ax_newJ hw hd hN hn hb (k _ xnew_s (fun _ hq => xnew_n hq) rfl)
theorem Ax_newOz {z idx ci N : Nat} {C : String} {T : u_T} {ty : Nat → FieldType} {fs : List Value} (hF : xCF ci C T N ty) (hw : Cond.classLink M.1 idx C ∈ lw_good ∧ Cond.instantiable C N ∈ lw_good ∧ Cond.initialized C ∈ lw_good) (hd : decode M.2.2.1 pc = .ok (.new idx, 3)) (hfs : ∀ j, j < N → defaultValue (ty j) = vp_V (fs.map (x_v G)) j) (hz : h.2 = z) (hn : z < 1000000) (hb : N + 1 ≤ b)
    (k : ∀ h1 : xH, h1.1 z = cO ci fs → (∀ q, q ≠ z → h1.1 q = h.1 q) → h1.2 = z + 1 → Ax G M d (b - (N + 1)) (pc + 3) L (.ref z :: st) h1 Q) : Ax G M d b pc L st h Q := by
  subst hz
  exact Ax_new hF hw hd hfs hn hb (k _ xnew_s (fun _ hq => xnew_n hq) rfl)
abbrev nwX0 : List Value := [.null, .null, .null, .null, .null, .null, .null, .int 0, .int 0, .int 0]
theorem dfX0 : ∀ j, j < 10 → defaultValue (tyX0 j) = vp_V ((nwX0).map (x_v G)) j := by
  intro j hj
  rcases j with _ | j
  · rfl
  rcases j with _ | j
  · rfl
  rcases j with _ | j
  · rfl
  rcases j with _ | j
  · rfl
  rcases j with _ | j
  · rfl
  rcases j with _ | j
  · rfl
  rcases j with _ | j
  · rfl
  rcases j with _ | j
  · rfl
  rcases j with _ | j
  · rfl
  rcases j with _ | j
  · rfl
  omega
abbrev nwX1 : List Value := [.null, .null, .null, .null, .null, .null, .null, .null, .null, .int 0, .int 0, .int 0, .int 0, .int 0]
theorem dfX1 : ∀ j, j < 14 → defaultValue (tyX1 j) = vp_V ((nwX1).map (x_v G)) j := by
  intro j hj
  rcases j with _ | j
  · rfl
  rcases j with _ | j
  · rfl
  rcases j with _ | j
  · rfl
  rcases j with _ | j
  · rfl
  rcases j with _ | j
  · rfl
  rcases j with _ | j
  · rfl
  rcases j with _ | j
  · rfl
  rcases j with _ | j
  · rfl
  rcases j with _ | j
  · rfl
  rcases j with _ | j
  · rfl
  rcases j with _ | j
  · rfl
  rcases j with _ | j
  · rfl
  rcases j with _ | j
  · rfl
  rcases j with _ | j
  · rfl
  omega
abbrev nwX2 : List Value := [.null, .null, .null, .null, .int 0]
theorem dfX2 : ∀ j, j < 5 → defaultValue (tyX2 j) = vp_V ((nwX2).map (x_v G)) j := by
  intro j hj
  rcases j with _ | j
  · rfl
  rcases j with _ | j
  · rfl
  rcases j with _ | j
  · rfl
  rcases j with _ | j
  · rfl
  rcases j with _ | j
  · rfl
  omega
abbrev nwX3 : List Value := [.null, .int 0]
theorem dfX3 : ∀ j, j < 2 → defaultValue (tyX3 j) = vp_V ((nwX3).map (x_v G)) j := by
  intro j hj
  rcases j with _ | j
  · rfl
  rcases j with _ | j
  · rfl
  omega
abbrev nwX4 : List Value := [.null, .null, .null, .int 0]
theorem dfX4 : ∀ j, j < 4 → defaultValue (tyX4 j) = vp_V ((nwX4).map (x_v G)) j := by
  intro j hj
  rcases j with _ | j
  · rfl
  rcases j with _ | j
  · rfl
  rcases j with _ | j
  · rfl
  rcases j with _ | j
  · rfl
  omega
abbrev nwX5 : List Value := [.null, .null, .null, .null, .null, .null, .int 0, .int 0, .int 0, .int 0, .int 0, .int 0, .int 0]
theorem dfX5 : ∀ j, j < 13 → defaultValue (tyX5 j) = vp_V ((nwX5).map (x_v G)) j := by
  intro j hj
  rcases j with _ | j
  · rfl
  rcases j with _ | j
  · rfl
  rcases j with _ | j
  · rfl
  rcases j with _ | j
  · rfl
  rcases j with _ | j
  · rfl
  rcases j with _ | j
  · rfl
  rcases j with _ | j
  · rfl
  rcases j with _ | j
  · rfl
  rcases j with _ | j
  · rfl
  rcases j with _ | j
  · rfl
  rcases j with _ | j
  · rfl
  rcases j with _ | j
  · rfl
  rcases j with _ | j
  · rfl
  omega
abbrev nwX6 : List Value := [.null, .null, .null, .null, .null, .int 0, .int 0, .int 0, .int 0, .int 0, .int 0, .int 0, .null, .null, .null, .null, .int 0, .null, .null, .null, .int 0, .null, .null, .null, .null, .null, .null, .null, .null, .null, .int 0, .null, .null, .null, .null, .null, .null, .int 0, .int 0, .null, .int 0]
theorem dfX6 : ∀ j, j < 41 → defaultValue (tyX6 j) = vp_V ((nwX6).map (x_v G)) j := by
  intro j hj
  rcases j with _ | j
  · rfl
  rcases j with _ | j
  · rfl
  rcases j with _ | j
  · rfl
  rcases j with _ | j
  · rfl
  rcases j with _ | j
  · rfl
  rcases j with _ | j
  · rfl
  rcases j with _ | j
  · rfl
  rcases j with _ | j
  · rfl
  rcases j with _ | j
  · rfl
  rcases j with _ | j
  · rfl
  rcases j with _ | j
  · rfl
  rcases j with _ | j
  · rfl
  rcases j with _ | j
  · rfl
  rcases j with _ | j
  · rfl
  rcases j with _ | j
  · rfl
  rcases j with _ | j
  · rfl
  rcases j with _ | j
  · rfl
  rcases j with _ | j
  · rfl
  rcases j with _ | j
  · rfl
  rcases j with _ | j
  · rfl
  rcases j with _ | j
  · rfl
  rcases j with _ | j
  · rfl
  rcases j with _ | j
  · rfl
  rcases j with _ | j
  · rfl
  rcases j with _ | j
  · rfl
  rcases j with _ | j
  · rfl
  rcases j with _ | j
  · rfl
  rcases j with _ | j
  · rfl
  rcases j with _ | j
  · rfl
  rcases j with _ | j
  · rfl
  rcases j with _ | j
  · rfl
  rcases j with _ | j
  · rfl
  rcases j with _ | j
  · rfl
  rcases j with _ | j
  · rfl
  rcases j with _ | j
  · rfl
  rcases j with _ | j
  · rfl
  rcases j with _ | j
  · rfl
  rcases j with _ | j
  · rfl
  rcases j with _ | j
  · rfl
  rcases j with _ | j
  · rfl
  rcases j with _ | j
  · rfl
  omega
end
section
variable {G : xG} {h : xH}
theorem tX2_init {o : Nat} (u : h.1 o = cO 2 nwX2) (zz : h.2 = o + 1) (ho : o < 1000) : AM G mX2_init 1 100 [.ref o] h (fun r h' => r = none ∧ (∃ lo hi tg wt, vSp h' o lo hi tg wt (nI 0) ∧ ∀ k, k < 24 → tg k = -1) ∧ (∀ q, q < o → h'.1 q = h.1 q) ∧ h'.2 = o + 5) := by
  refine AM.of rfl rfl (Nat.le_of_ble_eq_true rfl) rfl ?_
  have fr : ∀ q, (q < o) → h.1 q = h.1 q := fun _ _ => rfl
  refine Ax_al0 dX2_init_0 ?_
  refine Ax_oinit (ci := 2) (by decide) dX2_init_1 oinX2 u (by decide) (by decide) ?_
  refine Ax_al0 dX2_init_4 ?_
  refine Ax_bp24 dX2_init_5 ?_
  refine Ax_newIz (at' := .int) (z := (o + 1)) (t := 0) zz rfl (by decide) ac_int dX2_init_7 (Nat.le_of_ble_eq_true rfl) (by omega) (by omega) (fun h1 e1 f1 z1 => ?_)
  replace u := (f1 _ (by omega)).trans u
  replace fr : ∀ q, (q < o) → h1.1 q = h.1 q := fun q hq => (f1 q (by omega)).trans (fr q hq)
  replace zz := z1
  refine Ax_putf kfX2 fX2_9 dX2_init_9 u (Nat.le_of_ble_eq_true rfl) (Or.inr ⟨rfl, rfl⟩) (by rfl) (by rfl) (Ax_up (fun h2 e2 f2 z2 => ?_))
  replace u := e2
  replace e1 := (f2 _ (by omega)).trans e1
  replace fr : ∀ q, (q < o) → h2.1 q = h.1 q := fun q hq => (f2 q (by omega)).trans (fr q hq)
  replace zz := z2.trans zz
  refine Ax_al0 dX2_init_12 ?_
  refine Ax_bp24 dX2_init_13 ?_
  refine Ax_newIz (at' := .int) (z := (o + 2)) (t := 0) zz rfl (by decide) ac_int dX2_init_15 (Nat.le_of_ble_eq_true rfl) (by omega) (by omega) (fun h3 e3 f3 z3 => ?_)
  replace u := (f3 _ (by omega)).trans u
  replace e1 := (f3 _ (by omega)).trans e1
  replace fr : ∀ q, (q < o) → h3.1 q = h.1 q := fun q hq => (f3 q (by omega)).trans (fr q hq)
  replace zz := z3
  refine Ax_putf kfX2 fX2_15 dX2_init_17 u (Nat.le_of_ble_eq_true rfl) (Or.inr ⟨rfl, rfl⟩) (by rfl) (by rfl) (Ax_up (fun h4 e4 f4 z4 => ?_))
  replace u := e4
  replace e1 := (f4 _ (by omega)).trans e1
  replace e3 := (f4 _ (by omega)).trans e3
  replace fr : ∀ q, (q < o) → h4.1 q = h.1 q := fun q hq => (f4 q (by omega)).trans (fr q hq)
  replace zz := z4.trans zz
  refine Ax_al0 dX2_init_20 ?_
  refine Ax_bp24 dX2_init_21 ?_
  refine Ax_newIz (at' := .int) (z := (o + 3)) (t := 0) zz rfl (by decide) ac_int dX2_init_23 (Nat.le_of_ble_eq_true rfl) (by omega) (by omega) (fun h5 e5 f5 z5 => ?_)
  replace u := (f5 _ (by omega)).trans u
  replace e1 := (f5 _ (by omega)).trans e1
  replace e3 := (f5 _ (by omega)).trans e3
  replace fr : ∀ q, (q < o) → h5.1 q = h.1 q := fun q hq => (f5 q (by omega)).trans (fr q hq)
  replace zz := z5
  refine Ax_putf kfX2 fX2_18 dX2_init_25 u (Nat.le_of_ble_eq_true rfl) (Or.inr ⟨rfl, rfl⟩) (by rfl) (by rfl) (Ax_up (fun h6 e6 f6 z6 => ?_))
  replace u := e6
  replace e1 := (f6 _ (by omega)).trans e1
  replace e3 := (f6 _ (by omega)).trans e3
  replace e5 := (f6 _ (by omega)).trans e5
  replace fr : ∀ q, (q < o) → h6.1 q = h.1 q := fun q hq => (f6 q (by omega)).trans (fr q hq)
  replace zz := z6.trans zz
  refine Ax_al0 dX2_init_28 ?_
  refine Ax_bp24 dX2_init_29 ?_
  refine Ax_newIz (at' := .int) (z := (o + 4)) (t := 0) zz rfl (by decide) ac_int dX2_init_31 (Nat.le_of_ble_eq_true rfl) (by omega) (by omega) (fun h7 e7 f7 z7 => ?_)
  replace u := (f7 _ (by omega)).trans u
  replace e1 := (f7 _ (by omega)).trans e1
  replace e3 := (f7 _ (by omega)).trans e3
  replace e5 := (f7 _ (by omega)).trans e5
  replace fr : ∀ q, (q < o) → h7.1 q = h.1 q := fun q hq => (f7 q (by omega)).trans (fr q hq)
  replace zz := z7
  refine Ax_putf kfX2 fX2_21 dX2_init_33 u (Nat.le_of_ble_eq_true rfl) (Or.inr ⟨rfl, rfl⟩) (by rfl) (by rfl) (Ax_up (fun h8 e8 f8 z8 => ?_))
  replace u := e8
  replace e1 := (f8 _ (by omega)).trans e1
  replace e3 := (f8 _ (by omega)).trans e3
  replace e5 := (f8 _ (by omega)).trans e5
  replace e7 := (f8 _ (by omega)).trans e7
  replace fr : ∀ q, (q < o) → h8.1 q = h.1 q := fun q hq => (f8 q (by omega)).trans (fr q hq)
  replace zz := z8.trans zz
  refine Ax_al0 dX2_init_36 ?_
  refine Ax_ic0 dX2_init_37 ?_
  refine Ax_putf kfX2 fX2_24 dX2_init_38 u (Nat.le_of_ble_eq_true rfl) (Or.inl rfl) (by rfl) (by rfl) (Ax_up (fun h9 e9 f9 z9 => ?_))
  replace u := e9
  replace e1 := (f9 _ (by omega)).trans e1
  replace e3 := (f9 _ (by omega)).trans e3
  replace e5 := (f9 _ (by omega)).trans e5
  replace e7 := (f9 _ (by omega)).trans e7
  replace fr : ∀ q, (q < o) → h9.1 q = h.1 q := fun q hq => (f9 q (by omega)).trans (fr q hq)
  replace zz := z9.trans zz
  refine Ax_al0 dX2_init_41 ?_
  have e9 := e6
  refine Ax_getf kfX2 fX2_18 dX2_init_42 u rfl ?_
  refine Ax_icm1 dX2_init_45 ?_
  refine Ax_cSv dX2_init_46 sX2_28 (tJ7_fill (G := G) e5 (by decide) (-1)) rfl rfl (by decide) (by simp [Value.category]) (by omega) (fun h21 q21 => ?_)
  obtain ⟨⟨g, g1, g2⟩, g3, g4⟩ := q21
  refine Ax_ret dX2_init_49 rfl ⟨rfl, ⟨_, _, g, _, ⟨(g3 _ (by omega)).trans u, (g3 _ (by omega)).trans e1, (g3 _ (by omega)).trans e3, g1, (g3 _ (by omega)).trans e7⟩, g2⟩, fun q hq => (g3 q (by omega)).trans (fr q hq), g4.trans zz⟩
end
section
variable {G : xG} {h h' : xH}
theorem vSp.on {o : Nat} {lo hi tg wt : Nat → Int32} {n : Int32} (hS : vSp h o lo hi tg wt n) (hF : ∀ q, (o ≤ q ∧ q < o + 5) → h'.1 q = h.1 q) : vSp h' o lo hi tg wt n :=
  ⟨(hF _ (by omega)).trans hS.1, (hF _ (by omega)).trans hS.2.1, (hF _ (by omega)).trans hS.2.2.1, (hF _ (by omega)).trans hS.2.2.2.1, (hF _ (by omega)).trans hS.2.2.2.2⟩
theorem vCl.on {o ro : Nat} {kn fi la we fw en : Nat → Int32} {dn sz hd : Int32} (hS : vCl h o ro kn fi la we fw en dn sz hd) (hF : ∀ q, (o ≤ q ∧ q < o + 7) → h'.1 q = h.1 q) : vCl h' o ro kn fi la we fw en dn sz hd :=
  ⟨(hF _ (by omega)).trans hS.1, (hF _ (by omega)).trans hS.2.1, (hF _ (by omega)).trans hS.2.2.1, (hF _ (by omega)).trans hS.2.2.2.1, (hF _ (by omega)).trans hS.2.2.2.2.1, (hF _ (by omega)).trans hS.2.2.2.2.2.1, (hF _ (by omega)).trans hS.2.2.2.2.2.2⟩
theorem vTr.on {t co : Nat} {cos sps : Nat → Int32} {wv : Int32} (hS : vTr h t co cos sps wv) (hF : ∀ q, (t ≤ q ∧ q < t + 3) → h'.1 q = h.1 q) : vTr h' t co cos sps wv :=
  ⟨(hF _ (by omega)).trans hS.1, (hF _ (by omega)).trans hS.2.1, (hF _ (by omega)).trans hS.2.2⟩
theorem vCd.on {kn fi se st nu : Nat → Int32} {rw' : Nat → Int64} {len us rt tg dn : Int32} (hS : vCd h kn fi se rw' st nu len us rt tg dn) (hF : ∀ q, (21 ≤ q ∧ q < 28) → h'.1 q = h.1 q) : vCd h' kn fi se rw' st nu len us rt tg dn :=
  ⟨(hF _ (by omega)).trans hS.1, (hF _ (by omega)).trans hS.2.1, (hF _ (by omega)).trans hS.2.2.1, (hF _ (by omega)).trans hS.2.2.2.1, (hF _ (by omega)).trans hS.2.2.2.2.1, (hF _ (by omega)).trans hS.2.2.2.2.2.1, (hF _ (by omega)).trans hS.2.2.2.2.2.2⟩
/-- a new object, before there are other objects behind it -/
def v0 (h : xH) : Prop :=
  h.1 0 = cO 5 [.ref 1, .ref 6, .ref 11, .ref 18, .ref 21, .ref 28, .int (nI 0), .int (nI 0), .int (nI 40), .int (nI 64), .int (nI 0), .int (-1), .int (nI 1)] ∧
  (∃ lo hi tg wt, vSp h 1 lo hi tg wt (nI 0) ∧ ∀ k, k < 24 → tg k = -1) ∧ h.1 28 = cO 3 [.ref 29, .int (nI 0)] ∧ h.1 29 = cI 1 256 (fun _ => 0) ∧ vRaw h
theorem tX0_init (u : h.1 11 = cO 0 nwX0) (zz : h.2 = 12) : AM G mX0_init 1 152 [.ref 11, .ref 6] h (fun r h' => r = none ∧ (∃ kn fi la we fw en, vCl h' 11 6 kn fi la we fw en (nI 0) (nI 0) (nI 0)) ∧ (∀ q, q < 11 → h'.1 q = h.1 q) ∧ h'.2 = 18) := by
  refine AM.of rfl rfl (Nat.le_of_ble_eq_true rfl) rfl ?_
  have fr : ∀ q, (q < 11) → h.1 q = h.1 q := fun _ _ => rfl
  refine Ax_al0 dX0_init_0 ?_
  refine Ax_oinit (ci := 0) (by decide) dX0_init_1 oinX0 u (by decide) (by decide) ?_
  refine Ax_al0 dX0_init_4 ?_
  refine Ax_bp24 dX0_init_5 ?_
  refine Ax_newIz (at' := .int) (z := 12) (t := 0) zz rfl (by decide) ac_int dX0_init_7 (Nat.le_of_ble_eq_true rfl) (by omega) (by omega) (fun h1 e1 f1 z1 => ?_)
  replace u := (f1 _ (by omega)).trans u
  replace fr : ∀ q, (q < 11) → h1.1 q = h.1 q := fun q hq => (f1 q (by omega)).trans (fr q hq)
  replace zz := z1
  refine Ax_putf kfX0 fX0_9 dX0_init_9 u (Nat.le_of_ble_eq_true rfl) (Or.inr ⟨rfl, rfl⟩) (by rfl) (by rfl) (Ax_up (fun h2 e2 f2 z2 => ?_))
  replace u := e2
  replace e1 := (f2 _ (by omega)).trans e1
  replace fr : ∀ q, (q < 11) → h2.1 q = h.1 q := fun q hq => (f2 q (by omega)).trans (fr q hq)
  replace zz := z2.trans zz
  refine Ax_al0 dX0_init_12 ?_
  refine Ax_bp24 dX0_init_13 ?_
  refine Ax_newIz (at' := .int) (z := 13) (t := 0) zz rfl (by decide) ac_int dX0_init_15 (Nat.le_of_ble_eq_true rfl) (by omega) (by omega) (fun h3 e3 f3 z3 => ?_)
  replace u := (f3 _ (by omega)).trans u
  replace e1 := (f3 _ (by omega)).trans e1
  replace fr : ∀ q, (q < 11) → h3.1 q = h.1 q := fun q hq => (f3 q (by omega)).trans (fr q hq)
  replace zz := z3
  refine Ax_putf kfX0 fX0_15 dX0_init_17 u (Nat.le_of_ble_eq_true rfl) (Or.inr ⟨rfl, rfl⟩) (by rfl) (by rfl) (Ax_up (fun h4 e4 f4 z4 => ?_))
  replace u := e4
  replace e1 := (f4 _ (by omega)).trans e1
  replace e3 := (f4 _ (by omega)).trans e3
  replace fr : ∀ q, (q < 11) → h4.1 q = h.1 q := fun q hq => (f4 q (by omega)).trans (fr q hq)
  replace zz := z4.trans zz
  refine Ax_al0 dX0_init_20 ?_
  refine Ax_bp24 dX0_init_21 ?_
  refine Ax_newIz (at' := .int) (z := 14) (t := 0) zz rfl (by decide) ac_int dX0_init_23 (Nat.le_of_ble_eq_true rfl) (by omega) (by omega) (fun h5 e5 f5 z5 => ?_)
  replace u := (f5 _ (by omega)).trans u
  replace e1 := (f5 _ (by omega)).trans e1
  replace e3 := (f5 _ (by omega)).trans e3
  replace fr : ∀ q, (q < 11) → h5.1 q = h.1 q := fun q hq => (f5 q (by omega)).trans (fr q hq)
  replace zz := z5
  refine Ax_putf kfX0 fX0_18 dX0_init_25 u (Nat.le_of_ble_eq_true rfl) (Or.inr ⟨rfl, rfl⟩) (by rfl) (by rfl) (Ax_up (fun h6 e6 f6 z6 => ?_))
  replace u := e6
  replace e1 := (f6 _ (by omega)).trans e1
  replace e3 := (f6 _ (by omega)).trans e3
  replace e5 := (f6 _ (by omega)).trans e5
  replace fr : ∀ q, (q < 11) → h6.1 q = h.1 q := fun q hq => (f6 q (by omega)).trans (fr q hq)
  replace zz := z6.trans zz
  refine Ax_al0 dX0_init_28 ?_
  refine Ax_bp24 dX0_init_29 ?_
  refine Ax_newIz (at' := .int) (z := 15) (t := 0) zz rfl (by decide) ac_int dX0_init_31 (Nat.le_of_ble_eq_true rfl) (by omega) (by omega) (fun h7 e7 f7 z7 => ?_)
  replace u := (f7 _ (by omega)).trans u
  replace e1 := (f7 _ (by omega)).trans e1
  replace e3 := (f7 _ (by omega)).trans e3
  replace e5 := (f7 _ (by omega)).trans e5
  replace fr : ∀ q, (q < 11) → h7.1 q = h.1 q := fun q hq => (f7 q (by omega)).trans (fr q hq)
  replace zz := z7
  refine Ax_putf kfX0 fX0_21 dX0_init_33 u (Nat.le_of_ble_eq_true rfl) (Or.inr ⟨rfl, rfl⟩) (by rfl) (by rfl) (Ax_up (fun h8 e8 f8 z8 => ?_))
  replace u := e8
  replace e1 := (f8 _ (by omega)).trans e1
  replace e3 := (f8 _ (by omega)).trans e3
  replace e5 := (f8 _ (by omega)).trans e5
  replace e7 := (f8 _ (by omega)).trans e7
  replace fr : ∀ q, (q < 11) → h8.1 q = h.1 q := fun q hq => (f8 q (by omega)).trans (fr q hq)
  replace zz := z8.trans zz
  refine Ax_al0 dX0_init_36 ?_
  refine Ax_bp25 dX0_init_37 ?_
  refine Ax_newIz (at' := .int) (z := 16) (t := 0) zz rfl (by decide) ac_int dX0_init_39 (Nat.le_of_ble_eq_true rfl) (by omega) (by omega) (fun h9 e9 f9 z9 => ?_)
  replace u := (f9 _ (by omega)).trans u
  replace e1 := (f9 _ (by omega)).trans e1
  replace e3 := (f9 _ (by omega)).trans e3
  replace e5 := (f9 _ (by omega)).trans e5
  replace e7 := (f9 _ (by omega)).trans e7
  replace fr : ∀ q, (q < 11) → h9.1 q = h.1 q := fun q hq => (f9 q (by omega)).trans (fr q hq)
  replace zz := z9
  refine Ax_putf kfX0 fX0_24 dX0_init_41 u (Nat.le_of_ble_eq_true rfl) (Or.inr ⟨rfl, rfl⟩) (by rfl) (by rfl) (Ax_up (fun h10 e10 f10 z10 => ?_))
  replace u := e10
  replace e1 := (f10 _ (by omega)).trans e1
  replace e3 := (f10 _ (by omega)).trans e3
  replace e5 := (f10 _ (by omega)).trans e5
  replace e7 := (f10 _ (by omega)).trans e7
  replace e9 := (f10 _ (by omega)).trans e9
  replace fr : ∀ q, (q < 11) → h10.1 q = h.1 q := fun q hq => (f10 q (by omega)).trans (fr q hq)
  replace zz := z10.trans zz
  refine Ax_al0 dX0_init_44 ?_
  refine Ax_bp25 dX0_init_45 ?_
  refine Ax_newIz (at' := .int) (z := 17) (t := 0) zz rfl (by decide) ac_int dX0_init_47 (Nat.le_of_ble_eq_true rfl) (by omega) (by omega) (fun h11 e11 f11 z11 => ?_)
  replace u := (f11 _ (by omega)).trans u
  replace e1 := (f11 _ (by omega)).trans e1
  replace e3 := (f11 _ (by omega)).trans e3
  replace e5 := (f11 _ (by omega)).trans e5
  replace e7 := (f11 _ (by omega)).trans e7
  replace e9 := (f11 _ (by omega)).trans e9
  replace fr : ∀ q, (q < 11) → h11.1 q = h.1 q := fun q hq => (f11 q (by omega)).trans (fr q hq)
  replace zz := z11
  refine Ax_putf kfX0 fX0_27 dX0_init_49 u (Nat.le_of_ble_eq_true rfl) (Or.inr ⟨rfl, rfl⟩) (by rfl) (by rfl) (Ax_up (fun h12 e12 f12 z12 => ?_))
  replace u := e12
  replace e1 := (f12 _ (by omega)).trans e1
  replace e3 := (f12 _ (by omega)).trans e3
  replace e5 := (f12 _ (by omega)).trans e5
  replace e7 := (f12 _ (by omega)).trans e7
  replace e9 := (f12 _ (by omega)).trans e9
  replace e11 := (f12 _ (by omega)).trans e11
  replace fr : ∀ q, (q < 11) → h12.1 q = h.1 q := fun q hq => (f12 q (by omega)).trans (fr q hq)
  replace zz := z12.trans zz
  refine Ax_al0 dX0_init_52 ?_
  refine Ax_ic0 dX0_init_53 ?_
  refine Ax_putf kfX0 fX0_30 dX0_init_54 u (Nat.le_of_ble_eq_true rfl) (Or.inl rfl) (by rfl) (by rfl) (Ax_up (fun h13 e13 f13 z13 => ?_))
  replace u := e13
  replace e1 := (f13 _ (by omega)).trans e1
  replace e3 := (f13 _ (by omega)).trans e3
  replace e5 := (f13 _ (by omega)).trans e5
  replace e7 := (f13 _ (by omega)).trans e7
  replace e9 := (f13 _ (by omega)).trans e9
  replace e11 := (f13 _ (by omega)).trans e11
  replace fr : ∀ q, (q < 11) → h13.1 q = h.1 q := fun q hq => (f13 q (by omega)).trans (fr q hq)
  replace zz := z13.trans zz
  refine Ax_al0 dX0_init_57 ?_
  refine Ax_ic0 dX0_init_58 ?_
  refine Ax_putf kfX0 fX0_34 dX0_init_59 u (Nat.le_of_ble_eq_true rfl) (Or.inl rfl) (by rfl) (by rfl) (Ax_up (fun h14 e14 f14 z14 => ?_))
  replace u := e14
  replace e1 := (f14 _ (by omega)).trans e1
  replace e3 := (f14 _ (by omega)).trans e3
  replace e5 := (f14 _ (by omega)).trans e5
  replace e7 := (f14 _ (by omega)).trans e7
  replace e9 := (f14 _ (by omega)).trans e9
  replace e11 := (f14 _ (by omega)).trans e11
  replace fr : ∀ q, (q < 11) → h14.1 q = h.1 q := fun q hq => (f14 q (by omega)).trans (fr q hq)
  replace zz := z14.trans zz
  refine Ax_al0 dX0_init_62 ?_
  refine Ax_ic0 dX0_init_63 ?_
  refine Ax_putf kfX0 fX0_37 dX0_init_64 u (Nat.le_of_ble_eq_true rfl) (Or.inl rfl) (by rfl) (by rfl) (Ax_up (fun h15 e15 f15 z15 => ?_))
  replace u := e15
  replace e1 := (f15 _ (by omega)).trans e1
  replace e3 := (f15 _ (by omega)).trans e3
  replace e5 := (f15 _ (by omega)).trans e5
  replace e7 := (f15 _ (by omega)).trans e7
  replace e9 := (f15 _ (by omega)).trans e9
  replace e11 := (f15 _ (by omega)).trans e11
  replace fr : ∀ q, (q < 11) → h15.1 q = h.1 q := fun q hq => (f15 q (by omega)).trans (fr q hq)
  replace zz := z15.trans zz
  refine Ax_al0 dX0_init_67 ?_
  refine Ax_al1 dX0_init_68 ?_
  refine Ax_putf kfX0 fX0_40 dX0_init_69 u (Nat.le_of_ble_eq_true rfl) (Or.inr ⟨rfl, rfl⟩) (by rfl) (by rfl) (Ax_up (fun h16 e16 f16 z16 => ?_))
  replace u := e16
  replace e1 := (f16 _ (by omega)).trans e1
  replace e3 := (f16 _ (by omega)).trans e3
  replace e5 := (f16 _ (by omega)).trans e5
  replace e7 := (f16 _ (by omega)).trans e7
  replace e9 := (f16 _ (by omega)).trans e9
  replace e11 := (f16 _ (by omega)).trans e11
  replace fr : ∀ q, (q < 11) → h16.1 q = h.1 q := fun q hq => (f16 q (by omega)).trans (fr q hq)
  replace zz := z16.trans zz
  exact Ax_ret dX0_init_72 rfl ⟨rfl, ⟨_, _, _, _, _, _, u, e1, e3, e5, e7, e9, e11⟩, fr, zz⟩
theorem tX4_init (u : h.1 18 = cO 4 nwX4) (zz : h.2 = 19) : AM G mX4_init 1 1154 [.ref 18, .ref 11] h (fun r h' => r = none ∧ (∃ cos sps, vTr h' 18 11 cos sps (nI 0) ∧ Diag0 cos) ∧ (∀ q, q < 18 → h'.1 q = h.1 q) ∧ h'.2 = 21) := by
  refine AM.of rfl rfl (Nat.le_of_ble_eq_true rfl) rfl ?_
  have fr : ∀ q, (q < 18) → h.1 q = h.1 q := fun _ _ => rfl
  refine Ax_al0 dX4_init_0 ?_
  refine Ax_oinit (ci := 4) (by decide) dX4_init_1 oinX4 u (by decide) (by decide) ?_
  refine Ax_al0 dX4_init_4 ?_
  refine Ax_sp576 dX4_init_5 ?_
  refine Ax_newIz (at' := .int) (z := 19) (t := 0) zz rfl (by decide) ac_int dX4_init_8 (Nat.le_of_ble_eq_true rfl) (by omega) (by omega) (fun h1 e1 f1 z1 => ?_)
  replace u := (f1 _ (by omega)).trans u
  replace fr : ∀ q, (q < 18) → h1.1 q = h.1 q := fun q hq => (f1 q (by omega)).trans (fr q hq)
  replace zz := z1
  refine Ax_putf kfX4 fX4_9 dX4_init_10 u (Nat.le_of_ble_eq_true rfl) (Or.inr ⟨rfl, rfl⟩) (by rfl) (by rfl) (Ax_up (fun h2 e2 f2 z2 => ?_))
  replace u := e2
  replace e1 := (f2 _ (by omega)).trans e1
  replace fr : ∀ q, (q < 18) → h2.1 q = h.1 q := fun q hq => (f2 q (by omega)).trans (fr q hq)
  replace zz := z2.trans zz
  refine Ax_al0 dX4_init_13 ?_
  refine Ax_sp576 dX4_init_14 ?_
  refine Ax_newIz (at' := .int) (z := 20) (t := 0) zz rfl (by decide) ac_int dX4_init_17 (Nat.le_of_ble_eq_true rfl) (by omega) (by omega) (fun h3 e3 f3 z3 => ?_)
  replace u := (f3 _ (by omega)).trans u
  replace e1 := (f3 _ (by omega)).trans e1
  replace fr : ∀ q, (q < 18) → h3.1 q = h.1 q := fun q hq => (f3 q (by omega)).trans (fr q hq)
  replace zz := z3
  refine Ax_putf kfX4 fX4_15 dX4_init_19 u (Nat.le_of_ble_eq_true rfl) (Or.inr ⟨rfl, rfl⟩) (by rfl) (by rfl) (Ax_up (fun h4 e4 f4 z4 => ?_))
  replace u := e4
  replace e1 := (f4 _ (by omega)).trans e1
  replace e3 := (f4 _ (by omega)).trans e3
  replace fr : ∀ q, (q < 18) → h4.1 q = h.1 q := fun q hq => (f4 q (by omega)).trans (fr q hq)
  replace zz := z4.trans zz
  refine Ax_al0 dX4_init_22 ?_
  refine Ax_ic0 dX4_init_23 ?_
  refine Ax_putf kfX4 fX4_18 dX4_init_24 u (Nat.le_of_ble_eq_true rfl) (Or.inl rfl) (by rfl) (by rfl) (Ax_up (fun h5 e5 f5 z5 => ?_))
  replace u := e5
  replace e1 := (f5 _ (by omega)).trans e1
  replace e3 := (f5 _ (by omega)).trans e3
  replace fr : ∀ q, (q < 18) → h5.1 q = h.1 q := fun q hq => (f5 q (by omega)).trans (fr q hq)
  replace zz := z5.trans zz
  refine Ax_al0 dX4_init_27 ?_
  refine Ax_al1 dX4_init_28 ?_
  refine Ax_putf kfX4 fX4_22 dX4_init_29 u (Nat.le_of_ble_eq_true rfl) (Or.inr ⟨rfl, rfl⟩) (by rfl) (by rfl) (Ax_up (fun h6 e6 f6 z6 => ?_))
  replace u := e6
  replace e1 := (f6 _ (by omega)).trans e1
  replace e3 := (f6 _ (by omega)).trans e3
  replace fr : ∀ q, (q < 18) → h6.1 q = h.1 q := fun q hq => (f6 q (by omega)).trans (fr q hq)
  replace zz := z6.trans zz
  exact Ax_ret dX4_init_32 rfl ⟨rfl, ⟨_, _, ⟨u, e1, e3⟩, fun _ _ => rfl⟩, fr, zz⟩
theorem tX1_init (u : h.1 21 = cO 1 nwX1) (zz : h.2 = 22) : AM G mX1_init 1 5078 [.ref 21, .ref 6, .ref 11, .ref 18] h (fun r h' => r = none ∧ (∃ kn fi se rw' st nu, vCd h' kn fi se rw' st nu (nI 0) (nI 0) (nI 0) (nI 0) (nI 0)) ∧ (∀ q, q < 21 → h'.1 q = h.1 q) ∧ h'.2 = 28) := by
  refine AM.of rfl rfl (Nat.le_of_ble_eq_true rfl) rfl ?_
  have fr : ∀ q, (q < 21) → h.1 q = h.1 q := fun _ _ => rfl
  refine Ax_al0 dX1_init_0 ?_
  refine Ax_oinit (ci := 1) (by decide) dX1_init_1 oinX1 u (by decide) (by decide) ?_
  refine Ax_al0 dX1_init_4 ?_
  refine Ax_sp400 dX1_init_5 ?_
  refine Ax_newIz (at' := .int) (z := 22) (t := 0) zz rfl (by decide) ac_int dX1_init_8 (Nat.le_of_ble_eq_true rfl) (by omega) (by omega) (fun h1 e1 f1 z1 => ?_)
  replace u := (f1 _ (by omega)).trans u
  replace fr : ∀ q, (q < 21) → h1.1 q = h.1 q := fun q hq => (f1 q (by omega)).trans (fr q hq)
  replace zz := z1
  refine Ax_putf kfX1 fX1_9 dX1_init_10 u (Nat.le_of_ble_eq_true rfl) (Or.inr ⟨rfl, rfl⟩) (by rfl) (by rfl) (Ax_up (fun h2 e2 f2 z2 => ?_))
  replace u := e2
  replace e1 := (f2 _ (by omega)).trans e1
  replace fr : ∀ q, (q < 21) → h2.1 q = h.1 q := fun q hq => (f2 q (by omega)).trans (fr q hq)
  replace zz := z2.trans zz
  refine Ax_al0 dX1_init_13 ?_
  refine Ax_sp400 dX1_init_14 ?_
  refine Ax_newIz (at' := .int) (z := 23) (t := 0) zz rfl (by decide) ac_int dX1_init_17 (Nat.le_of_ble_eq_true rfl) (by omega) (by omega) (fun h3 e3 f3 z3 => ?_)
  replace u := (f3 _ (by omega)).trans u
  replace e1 := (f3 _ (by omega)).trans e1
  replace fr : ∀ q, (q < 21) → h3.1 q = h.1 q := fun q hq => (f3 q (by omega)).trans (fr q hq)
  replace zz := z3
  refine Ax_putf kfX1 fX1_15 dX1_init_19 u (Nat.le_of_ble_eq_true rfl) (Or.inr ⟨rfl, rfl⟩) (by rfl) (by rfl) (Ax_up (fun h4 e4 f4 z4 => ?_))
  replace u := e4
  replace e1 := (f4 _ (by omega)).trans e1
  replace e3 := (f4 _ (by omega)).trans e3
  replace fr : ∀ q, (q < 21) → h4.1 q = h.1 q := fun q hq => (f4 q (by omega)).trans (fr q hq)
  replace zz := z4.trans zz
  refine Ax_al0 dX1_init_22 ?_
  refine Ax_sp400 dX1_init_23 ?_
  refine Ax_newIz (at' := .int) (z := 24) (t := 0) zz rfl (by decide) ac_int dX1_init_26 (Nat.le_of_ble_eq_true rfl) (by omega) (by omega) (fun h5 e5 f5 z5 => ?_)
  replace u := (f5 _ (by omega)).trans u
  replace e1 := (f5 _ (by omega)).trans e1
  replace e3 := (f5 _ (by omega)).trans e3
  replace fr : ∀ q, (q < 21) → h5.1 q = h.1 q := fun q hq => (f5 q (by omega)).trans (fr q hq)
  replace zz := z5
  refine Ax_putf kfX1 fX1_18 dX1_init_28 u (Nat.le_of_ble_eq_true rfl) (Or.inr ⟨rfl, rfl⟩) (by rfl) (by rfl) (Ax_up (fun h6 e6 f6 z6 => ?_))
  replace u := e6
  replace e1 := (f6 _ (by omega)).trans e1
  replace e3 := (f6 _ (by omega)).trans e3
  replace e5 := (f6 _ (by omega)).trans e5
  replace fr : ∀ q, (q < 21) → h6.1 q = h.1 q := fun q hq => (f6 q (by omega)).trans (fr q hq)
  replace zz := z6.trans zz
  refine Ax_al0 dX1_init_31 ?_
  refine Ax_sp400 dX1_init_32 ?_
  refine Ax_newJz (z := 25) zz ac_long dX1_init_35 (Nat.le_of_ble_eq_true rfl) (by omega) (by omega) (fun h7 e7 f7 z7 => ?_)
  replace u := (f7 _ (by omega)).trans u
  replace e1 := (f7 _ (by omega)).trans e1
  replace e3 := (f7 _ (by omega)).trans e3
  replace e5 := (f7 _ (by omega)).trans e5
  replace fr : ∀ q, (q < 21) → h7.1 q = h.1 q := fun q hq => (f7 q (by omega)).trans (fr q hq)
  replace zz := z7
  refine Ax_putf kfX1 fX1_21 dX1_init_37 u (Nat.le_of_ble_eq_true rfl) (Or.inr ⟨rfl, rfl⟩) (by rfl) (by rfl) (Ax_up (fun h8 e8 f8 z8 => ?_))
  replace u := e8
  replace e1 := (f8 _ (by omega)).trans e1
  replace e3 := (f8 _ (by omega)).trans e3
  replace e5 := (f8 _ (by omega)).trans e5
  replace e7 := (f8 _ (by omega)).trans e7
  replace fr : ∀ q, (q < 21) → h8.1 q = h.1 q := fun q hq => (f8 q (by omega)).trans (fr q hq)
  replace zz := z8.trans zz
  refine Ax_al0 dX1_init_40 ?_
  refine Ax_sp400 dX1_init_41 ?_
  refine Ax_newIz (at' := .int) (z := 26) (t := 0) zz rfl (by decide) ac_int dX1_init_44 (Nat.le_of_ble_eq_true rfl) (by omega) (by omega) (fun h9 e9 f9 z9 => ?_)
  replace u := (f9 _ (by omega)).trans u
  replace e1 := (f9 _ (by omega)).trans e1
  replace e3 := (f9 _ (by omega)).trans e3
  replace e5 := (f9 _ (by omega)).trans e5
  replace e7 := (f9 _ (by omega)).trans e7
  replace fr : ∀ q, (q < 21) → h9.1 q = h.1 q := fun q hq => (f9 q (by omega)).trans (fr q hq)
  replace zz := z9
  refine Ax_putf kfX1 fX1_25 dX1_init_46 u (Nat.le_of_ble_eq_true rfl) (Or.inr ⟨rfl, rfl⟩) (by rfl) (by rfl) (Ax_up (fun h10 e10 f10 z10 => ?_))
  replace u := e10
  replace e1 := (f10 _ (by omega)).trans e1
  replace e3 := (f10 _ (by omega)).trans e3
  replace e5 := (f10 _ (by omega)).trans e5
  replace e7 := (f10 _ (by omega)).trans e7
  replace e9 := (f10 _ (by omega)).trans e9
  replace fr : ∀ q, (q < 21) → h10.1 q = h.1 q := fun q hq => (f10 q (by omega)).trans (fr q hq)
  replace zz := z10.trans zz
  refine Ax_al0 dX1_init_49 ?_
  refine Ax_sp3072 dX1_init_50 ?_
  refine Ax_newIz (at' := .int) (z := 27) (t := 0) zz rfl (by decide) ac_int dX1_init_53 (Nat.le_of_ble_eq_true rfl) (by omega) (by omega) (fun h11 e11 f11 z11 => ?_)
  replace u := (f11 _ (by omega)).trans u
  replace e1 := (f11 _ (by omega)).trans e1
  replace e3 := (f11 _ (by omega)).trans e3
  replace e5 := (f11 _ (by omega)).trans e5
  replace e7 := (f11 _ (by omega)).trans e7
  replace e9 := (f11 _ (by omega)).trans e9
  replace fr : ∀ q, (q < 21) → h11.1 q = h.1 q := fun q hq => (f11 q (by omega)).trans (fr q hq)
  replace zz := z11
  refine Ax_putf kfX1 fX1_28 dX1_init_55 u (Nat.le_of_ble_eq_true rfl) (Or.inr ⟨rfl, rfl⟩) (by rfl) (by rfl) (Ax_up (fun h12 e12 f12 z12 => ?_))
  replace u := e12
  replace e1 := (f12 _ (by omega)).trans e1
  replace e3 := (f12 _ (by omega)).trans e3
  replace e5 := (f12 _ (by omega)).trans e5
  replace e7 := (f12 _ (by omega)).trans e7
  replace e9 := (f12 _ (by omega)).trans e9
  replace e11 := (f12 _ (by omega)).trans e11
  replace fr : ∀ q, (q < 21) → h12.1 q = h.1 q := fun q hq => (f12 q (by omega)).trans (fr q hq)
  replace zz := z12.trans zz
  refine Ax_al0 dX1_init_58 ?_
  refine Ax_ic0 dX1_init_59 ?_
  refine Ax_putf kfX1 fX1_31 dX1_init_60 u (Nat.le_of_ble_eq_true rfl) (Or.inl rfl) (by rfl) (by rfl) (Ax_up (fun h13 e13 f13 z13 => ?_))
  replace u := e13
  replace e1 := (f13 _ (by omega)).trans e1
  replace e3 := (f13 _ (by omega)).trans e3
  replace e5 := (f13 _ (by omega)).trans e5
  replace e7 := (f13 _ (by omega)).trans e7
  replace e9 := (f13 _ (by omega)).trans e9
  replace e11 := (f13 _ (by omega)).trans e11
  replace fr : ∀ q, (q < 21) → h13.1 q = h.1 q := fun q hq => (f13 q (by omega)).trans (fr q hq)
  replace zz := z13.trans zz
  refine Ax_al0 dX1_init_63 ?_
  refine Ax_ic0 dX1_init_64 ?_
  refine Ax_putf kfX1 fX1_35 dX1_init_65 u (Nat.le_of_ble_eq_true rfl) (Or.inl rfl) (by rfl) (by rfl) (Ax_up (fun h14 e14 f14 z14 => ?_))
  replace u := e14
  replace e1 := (f14 _ (by omega)).trans e1
  replace e3 := (f14 _ (by omega)).trans e3
  replace e5 := (f14 _ (by omega)).trans e5
  replace e7 := (f14 _ (by omega)).trans e7
  replace e9 := (f14 _ (by omega)).trans e9
  replace e11 := (f14 _ (by omega)).trans e11
  replace fr : ∀ q, (q < 21) → h14.1 q = h.1 q := fun q hq => (f14 q (by omega)).trans (fr q hq)
  replace zz := z14.trans zz
  refine Ax_al0 dX1_init_68 ?_
  refine Ax_ic0 dX1_init_69 ?_
  refine Ax_putf kfX1 fX1_38 dX1_init_70 u (Nat.le_of_ble_eq_true rfl) (Or.inl rfl) (by rfl) (by rfl) (Ax_up (fun h15 e15 f15 z15 => ?_))
  replace u := e15
  replace e1 := (f15 _ (by omega)).trans e1
  replace e3 := (f15 _ (by omega)).trans e3
  replace e5 := (f15 _ (by omega)).trans e5
  replace e7 := (f15 _ (by omega)).trans e7
  replace e9 := (f15 _ (by omega)).trans e9
  replace e11 := (f15 _ (by omega)).trans e11
  replace fr : ∀ q, (q < 21) → h15.1 q = h.1 q := fun q hq => (f15 q (by omega)).trans (fr q hq)
  replace zz := z15.trans zz
  refine Ax_al0 dX1_init_73 ?_
  refine Ax_ic0 dX1_init_74 ?_
  refine Ax_putf kfX1 fX1_41 dX1_init_75 u (Nat.le_of_ble_eq_true rfl) (Or.inl rfl) (by rfl) (by rfl) (Ax_up (fun h16 e16 f16 z16 => ?_))
  replace u := e16
  replace e1 := (f16 _ (by omega)).trans e1
  replace e3 := (f16 _ (by omega)).trans e3
  replace e5 := (f16 _ (by omega)).trans e5
  replace e7 := (f16 _ (by omega)).trans e7
  replace e9 := (f16 _ (by omega)).trans e9
  replace e11 := (f16 _ (by omega)).trans e11
  replace fr : ∀ q, (q < 21) → h16.1 q = h.1 q := fun q hq => (f16 q (by omega)).trans (fr q hq)
  replace zz := z16.trans zz
  refine Ax_al0 dX1_init_78 ?_
  refine Ax_ic0 dX1_init_79 ?_
  refine Ax_putf kfX1 fX1_44 dX1_init_80 u (Nat.le_of_ble_eq_true rfl) (Or.inl rfl) (by rfl) (by rfl) (Ax_up (fun h17 e17 f17 z17 => ?_))
  replace u := e17
  replace e1 := (f17 _ (by omega)).trans e1
  replace e3 := (f17 _ (by omega)).trans e3
  replace e5 := (f17 _ (by omega)).trans e5
  replace e7 := (f17 _ (by omega)).trans e7
  replace e9 := (f17 _ (by omega)).trans e9
  replace e11 := (f17 _ (by omega)).trans e11
  replace fr : ∀ q, (q < 21) → h17.1 q = h.1 q := fun q hq => (f17 q (by omega)).trans (fr q hq)
  replace zz := z17.trans zz
  refine Ax_al0 dX1_init_83 ?_
  refine Ax_al1 dX1_init_84 ?_
  refine Ax_putf kfX1 fX1_47 dX1_init_85 u (Nat.le_of_ble_eq_true rfl) (Or.inr ⟨rfl, rfl⟩) (by rfl) (by rfl) (Ax_up (fun h18 e18 f18 z18 => ?_))
  replace u := e18
  replace e1 := (f18 _ (by omega)).trans e1
  replace e3 := (f18 _ (by omega)).trans e3
  replace e5 := (f18 _ (by omega)).trans e5
  replace e7 := (f18 _ (by omega)).trans e7
  replace e9 := (f18 _ (by omega)).trans e9
  replace e11 := (f18 _ (by omega)).trans e11
  replace fr : ∀ q, (q < 21) → h18.1 q = h.1 q := fun q hq => (f18 q (by omega)).trans (fr q hq)
  replace zz := z18.trans zz
  refine Ax_al0 dX1_init_88 ?_
  refine Ax_al2 dX1_init_89 ?_
  refine Ax_putf kfX1 fX1_51 dX1_init_90 u (Nat.le_of_ble_eq_true rfl) (Or.inr ⟨rfl, rfl⟩) (by rfl) (by rfl) (Ax_up (fun h19 e19 f19 z19 => ?_))
  replace u := e19
  replace e1 := (f19 _ (by omega)).trans e1
  replace e3 := (f19 _ (by omega)).trans e3
  replace e5 := (f19 _ (by omega)).trans e5
  replace e7 := (f19 _ (by omega)).trans e7
  replace e9 := (f19 _ (by omega)).trans e9
  replace e11 := (f19 _ (by omega)).trans e11
  replace fr : ∀ q, (q < 21) → h19.1 q = h.1 q := fun q hq => (f19 q (by omega)).trans (fr q hq)
  replace zz := z19.trans zz
  refine Ax_al0 dX1_init_93 ?_
  refine Ax_al3 dX1_init_94 ?_
  refine Ax_putf kfX1 fX1_55 dX1_init_95 u (Nat.le_of_ble_eq_true rfl) (Or.inr ⟨rfl, rfl⟩) (by rfl) (by rfl) (Ax_up (fun h20 e20 f20 z20 => ?_))
  replace u := e20
  replace e1 := (f20 _ (by omega)).trans e1
  replace e3 := (f20 _ (by omega)).trans e3
  replace e5 := (f20 _ (by omega)).trans e5
  replace e7 := (f20 _ (by omega)).trans e7
  replace e9 := (f20 _ (by omega)).trans e9
  replace e11 := (f20 _ (by omega)).trans e11
  replace fr : ∀ q, (q < 21) → h20.1 q = h.1 q := fun q hq => (f20 q (by omega)).trans (fr q hq)
  replace zz := z20.trans zz
  exact Ax_ret dX1_init_98 rfl ⟨rfl, ⟨_, _, _, _, _, _, u, e1, e3, e5, e7, e9, e11⟩, fr, zz⟩
theorem tX3_init (u : h.1 28 = cO 3 nwX3) (zz : h.2 = 29) : AM G mX3_init 1 257 [.ref 28] h (fun r h' => r = none ∧ h'.1 28 = cO 3 [.ref 29, .int (nI 0)] ∧ h'.1 29 = cI 1 256 (fun _ => 0) ∧ (∀ q, q < 28 → h'.1 q = h.1 q) ∧ h'.2 = 30) := by
  refine AM.of rfl rfl (Nat.le_of_ble_eq_true rfl) rfl ?_
  have fr : ∀ q, (q < 28) → h.1 q = h.1 q := fun _ _ => rfl
  refine Ax_al0 dX3_init_0 ?_
  refine Ax_oinit (ci := 3) (by decide) dX3_init_1 oinX3 u (by decide) (by decide) ?_
  refine Ax_al0 dX3_init_4 ?_
  refine Ax_sp256 dX3_init_5 ?_
  refine Ax_newIz (at' := .byte) (z := 29) (t := 1) zz rfl (by decide) ac_byte dX3_init_8 (Nat.le_of_ble_eq_true rfl) (by omega) (by omega) (fun h1 e1 f1 z1 => ?_)
  replace u := (f1 _ (by omega)).trans u
  replace fr : ∀ q, (q < 28) → h1.1 q = h.1 q := fun q hq => (f1 q (by omega)).trans (fr q hq)
  replace zz := z1
  refine Ax_putf kfX3 fX3_9 dX3_init_10 u (Nat.le_of_ble_eq_true rfl) (Or.inl rfl) (by rfl) (by rfl) (Ax_up (fun h2 e2 f2 z2 => ?_))
  replace u := e2
  replace e1 := (f2 _ (by omega)).trans e1
  replace fr : ∀ q, (q < 28) → h2.1 q = h.1 q := fun q hq => (f2 q (by omega)).trans (fr q hq)
  replace zz := z2.trans zz
  refine Ax_al0 dX3_init_13 ?_
  refine Ax_ic0 dX3_init_14 ?_
  refine Ax_putf kfX3 fX3_15 dX3_init_15 u (Nat.le_of_ble_eq_true rfl) (Or.inl rfl) (by rfl) (by rfl) (Ax_up (fun h3 e3 f3 z3 => ?_))
  replace u := e3
  replace e1 := (f3 _ (by omega)).trans e1
  replace fr : ∀ q, (q < 28) → h3.1 q = h.1 q := fun q hq => (f3 q (by omega)).trans (fr q hq)
  replace zz := z3.trans zz
  exact Ax_ret dX3_init_18 rfl ⟨rfl, u, e1, fr, zz⟩
theorem tX5_init (u : h.1 0 = cO 5 nwX5) (zz : h.2 = 1) : AM G mX5_init 2 6900 [.ref 0] h (fun r h' => r = none ∧ v0 h' ∧ h'.2 = 30) := by
  refine AM.of rfl rfl (Nat.le_of_ble_eq_true rfl) rfl ?_
  refine Ax_al0 dX5_init_0 ?_
  refine Ax_oinit (ci := 5) (by decide) dX5_init_1 oinX5 u (by decide) (by decide) ?_
  refine Ax_al0 dX5_init_4 ?_
  refine Ax_newOz (z := 1) kfX2 clX5_9 dX5_init_5 dfX2 zz (by omega) (by omega) (fun h1 e1 f1 z1 => ?_)
  replace u := (f1 _ (by omega)).trans u
  replace zz := z1
  refine Ax_dup dX5_init_8 rfl ?_
  refine Ax_cIv (by decide) dX5_init_9 iX5_11 e1 (tX2_init (G := G) (o := 1) e1 zz (by decide)) rfl rfl (by decide) (by simp [Value.category]) (by omega) (fun h21 q21 => ?_)
  obtain ⟨⟨lo1, hi1, tg1, wt1, a1, a2⟩, a3, zz⟩ := q21
  replace u := (a3 0 (by omega)).trans u
  have fa : ∀ q, (1 ≤ q ∧ q < 6) → h21.1 q = h21.1 q := fun _ _ => rfl
  refine Ax_putf kfX5 fX5_12 dX5_init_12 u (Nat.le_of_ble_eq_true rfl) (Or.inr ⟨rfl, rfl⟩) (by rfl) (by rfl) (Ax_up (fun h22 e22 f22 z22 => ?_))
  replace u := e22
  replace fa : ∀ q, (1 ≤ q ∧ q < 6) → h22.1 q = h21.1 q := fun q hq => (f22 q (by omega)).trans (fa q hq)
  replace zz := z22.trans zz
  refine Ax_al0 dX5_init_15 ?_
  refine Ax_newOz (z := 6) kfX2 clX5_9 dX5_init_16 dfX2 zz (by omega) (by omega) (fun h23 e23 f23 z23 => ?_)
  replace u := (f23 _ (by omega)).trans u
  replace fa : ∀ q, (1 ≤ q ∧ q < 6) → h23.1 q = h21.1 q := fun q hq => (f23 q (by omega)).trans (fa q hq)
  replace zz := z23
  refine Ax_dup dX5_init_19 rfl ?_
  refine Ax_cIv (by decide) dX5_init_20 iX5_11 e23 (tX2_init (G := G) (o := 6) e23 zz (by decide)) rfl rfl (by decide) (by simp [Value.category]) (by omega) (fun h31 q31 => ?_)
  obtain ⟨⟨lo2, hi2, tg2, wt2, b1, b2⟩, b3, zz⟩ := q31
  replace u := (b3 0 (by omega)).trans u
  replace fa : ∀ q, (1 ≤ q ∧ q < 6) → h31.1 q = h21.1 q := fun q hq => (b3 q (by omega)).trans (fa q hq)
  have fb : ∀ q, (6 ≤ q ∧ q < 11) → h31.1 q = h31.1 q := fun _ _ => rfl
  refine Ax_putf kfX5 fX5_16 dX5_init_23 u (Nat.le_of_ble_eq_true rfl) (Or.inr ⟨rfl, rfl⟩) (by rfl) (by rfl) (Ax_up (fun h32 e32 f32 z32 => ?_))
  replace u := e32
  replace fa : ∀ q, (1 ≤ q ∧ q < 6) → h32.1 q = h21.1 q := fun q hq => (f32 q (by omega)).trans (fa q hq)
  replace fb : ∀ q, (6 ≤ q ∧ q < 11) → h32.1 q = h31.1 q := fun q hq => (f32 q (by omega)).trans (fb q hq)
  replace zz := z32.trans zz
  refine Ax_al0 dX5_init_26 ?_
  refine Ax_newOz (z := 11) kfX0 clX5_19 dX5_init_27 dfX0 zz (by omega) (by omega) (fun h33 e33 f33 z33 => ?_)
  replace u := (f33 _ (by omega)).trans u
  replace fa : ∀ q, (1 ≤ q ∧ q < 6) → h33.1 q = h21.1 q := fun q hq => (f33 q (by omega)).trans (fa q hq)
  replace fb : ∀ q, (6 ≤ q ∧ q < 11) → h33.1 q = h31.1 q := fun q hq => (f33 q (by omega)).trans (fb q hq)
  replace zz := z33
  refine Ax_dup dX5_init_30 rfl ?_
  refine Ax_al0 dX5_init_31 ?_
  refine Ax_getf kfX5 fX5_16 dX5_init_32 u rfl ?_
  refine Ax_cIv (by decide) dX5_init_35 iX5_21 e33 (tX0_init (G := G) e33 zz) rfl rfl (by decide) (by simp [Value.category]) (by omega) (fun h41 q41 => ?_)
  obtain ⟨⟨kn, fi, la, we, fw, en, c1⟩, c3, zz⟩ := q41
  replace u := (c3 0 (by omega)).trans u
  replace fa : ∀ q, (1 ≤ q ∧ q < 6) → h41.1 q = h21.1 q := fun q hq => (c3 q (by omega)).trans (fa q hq)
  replace fb : ∀ q, (6 ≤ q ∧ q < 11) → h41.1 q = h31.1 q := fun q hq => (c3 q (by omega)).trans (fb q hq)
  have fc : ∀ q, (11 ≤ q ∧ q < 18) → h41.1 q = h41.1 q := fun _ _ => rfl
  refine Ax_putf kfX5 fX5_24 dX5_init_38 u (Nat.le_of_ble_eq_true rfl) (Or.inr ⟨rfl, rfl⟩) (by rfl) (by rfl) (Ax_up (fun h42 e42 f42 z42 => ?_))
  replace u := e42
  replace fa : ∀ q, (1 ≤ q ∧ q < 6) → h42.1 q = h21.1 q := fun q hq => (f42 q (by omega)).trans (fa q hq)
  replace fb : ∀ q, (6 ≤ q ∧ q < 11) → h42.1 q = h31.1 q := fun q hq => (f42 q (by omega)).trans (fb q hq)
  replace fc : ∀ q, (11 ≤ q ∧ q < 18) → h42.1 q = h41.1 q := fun q hq => (f42 q (by omega)).trans (fc q hq)
  replace zz := z42.trans zz
  refine Ax_al0 dX5_init_41 ?_
  refine Ax_newOz (z := 18) kfX4 clX5_28 dX5_init_42 dfX4 zz (by omega) (by omega) (fun h43 e43 f43 z43 => ?_)
  replace u := (f43 _ (by omega)).trans u
  replace fa : ∀ q, (1 ≤ q ∧ q < 6) → h43.1 q = h21.1 q := fun q hq => (f43 q (by omega)).trans (fa q hq)
  replace fb : ∀ q, (6 ≤ q ∧ q < 11) → h43.1 q = h31.1 q := fun q hq => (f43 q (by omega)).trans (fb q hq)
  replace fc : ∀ q, (11 ≤ q ∧ q < 18) → h43.1 q = h41.1 q := fun q hq => (f43 q (by omega)).trans (fc q hq)
  replace zz := z43
  refine Ax_dup dX5_init_45 rfl ?_
  refine Ax_al0 dX5_init_46 ?_
  refine Ax_getf kfX5 fX5_24 dX5_init_47 u rfl ?_
  refine Ax_cIv (by decide) dX5_init_50 iX5_30 e43 (tX4_init (G := G) e43 zz) rfl rfl (by decide) (by simp [Value.category]) (by omega) (fun h51 q51 => ?_)
  obtain ⟨⟨cos, sps, d1, d2⟩, d3, zz⟩ := q51
  replace u := (d3 0 (by omega)).trans u
  replace fa : ∀ q, (1 ≤ q ∧ q < 6) → h51.1 q = h21.1 q := fun q hq => (d3 q (by omega)).trans (fa q hq)
  replace fb : ∀ q, (6 ≤ q ∧ q < 11) → h51.1 q = h31.1 q := fun q hq => (d3 q (by omega)).trans (fb q hq)
  replace fc : ∀ q, (11 ≤ q ∧ q < 18) → h51.1 q = h41.1 q := fun q hq => (d3 q (by omega)).trans (fc q hq)
  have fd : ∀ q, (18 ≤ q ∧ q < 21) → h51.1 q = h51.1 q := fun _ _ => rfl
  refine Ax_putf kfX5 fX5_33 dX5_init_53 u (Nat.le_of_ble_eq_true rfl) (Or.inr ⟨rfl, rfl⟩) (by rfl) (by rfl) (Ax_up (fun h52 e52 f52 z52 => ?_))
  replace u := e52
  replace fa : ∀ q, (1 ≤ q ∧ q < 6) → h52.1 q = h21.1 q := fun q hq => (f52 q (by omega)).trans (fa q hq)
  replace fb : ∀ q, (6 ≤ q ∧ q < 11) → h52.1 q = h31.1 q := fun q hq => (f52 q (by omega)).trans (fb q hq)
  replace fc : ∀ q, (11 ≤ q ∧ q < 18) → h52.1 q = h41.1 q := fun q hq => (f52 q (by omega)).trans (fc q hq)
  replace fd : ∀ q, (18 ≤ q ∧ q < 21) → h52.1 q = h51.1 q := fun q hq => (f52 q (by omega)).trans (fd q hq)
  replace zz := z52.trans zz
  refine Ax_al0 dX5_init_56 ?_
  refine Ax_newOz (z := 21) kfX1 clX5_37 dX5_init_57 dfX1 zz (by omega) (by omega) (fun h53 e53 f53 z53 => ?_)
  replace u := (f53 _ (by omega)).trans u
  replace fa : ∀ q, (1 ≤ q ∧ q < 6) → h53.1 q = h21.1 q := fun q hq => (f53 q (by omega)).trans (fa q hq)
  replace fb : ∀ q, (6 ≤ q ∧ q < 11) → h53.1 q = h31.1 q := fun q hq => (f53 q (by omega)).trans (fb q hq)
  replace fc : ∀ q, (11 ≤ q ∧ q < 18) → h53.1 q = h41.1 q := fun q hq => (f53 q (by omega)).trans (fc q hq)
  replace fd : ∀ q, (18 ≤ q ∧ q < 21) → h53.1 q = h51.1 q := fun q hq => (f53 q (by omega)).trans (fd q hq)
  replace zz := z53
  refine Ax_dup dX5_init_60 rfl ?_
  refine Ax_al0 dX5_init_61 ?_
  refine Ax_getf kfX5 fX5_16 dX5_init_62 u rfl ?_
  refine Ax_al0 dX5_init_65 ?_
  refine Ax_getf kfX5 fX5_24 dX5_init_66 u rfl ?_
  refine Ax_al0 dX5_init_69 ?_
  refine Ax_getf kfX5 fX5_33 dX5_init_70 u rfl ?_
  refine Ax_cIv (by decide) dX5_init_73 iX5_39 e53 (tX1_init (G := G) e53 zz) rfl rfl (by decide) (by simp [Value.category]) (by omega) (fun h61 q61 => ?_)
  obtain ⟨⟨kn', fi', se, rw', st, nu, g1⟩, g3, zz⟩ := q61
  replace u := (g3 0 (by omega)).trans u
  replace fa : ∀ q, (1 ≤ q ∧ q < 6) → h61.1 q = h21.1 q := fun q hq => (g3 q (by omega)).trans (fa q hq)
  replace fb : ∀ q, (6 ≤ q ∧ q < 11) → h61.1 q = h31.1 q := fun q hq => (g3 q (by omega)).trans (fb q hq)
  replace fc : ∀ q, (11 ≤ q ∧ q < 18) → h61.1 q = h41.1 q := fun q hq => (g3 q (by omega)).trans (fc q hq)
  replace fd : ∀ q, (18 ≤ q ∧ q < 21) → h61.1 q = h51.1 q := fun q hq => (g3 q (by omega)).trans (fd q hq)
  have fe : ∀ q, (21 ≤ q ∧ q < 28) → h61.1 q = h61.1 q := fun _ _ => rfl
  refine Ax_putf kfX5 fX5_42 dX5_init_76 u (Nat.le_of_ble_eq_true rfl) (Or.inr ⟨rfl, rfl⟩) (by rfl) (by rfl) (Ax_up (fun h62 e62 f62 z62 => ?_))
  replace u := e62
  replace fa : ∀ q, (1 ≤ q ∧ q < 6) → h62.1 q = h21.1 q := fun q hq => (f62 q (by omega)).trans (fa q hq)
  replace fb : ∀ q, (6 ≤ q ∧ q < 11) → h62.1 q = h31.1 q := fun q hq => (f62 q (by omega)).trans (fb q hq)
  replace fc : ∀ q, (11 ≤ q ∧ q < 18) → h62.1 q = h41.1 q := fun q hq => (f62 q (by omega)).trans (fc q hq)
  replace fd : ∀ q, (18 ≤ q ∧ q < 21) → h62.1 q = h51.1 q := fun q hq => (f62 q (by omega)).trans (fd q hq)
  replace fe : ∀ q, (21 ≤ q ∧ q < 28) → h62.1 q = h61.1 q := fun q hq => (f62 q (by omega)).trans (fe q hq)
  replace zz := z62.trans zz
  refine Ax_al0 dX5_init_79 ?_
  refine Ax_newOz (z := 28) kfX3 clX5_46 dX5_init_80 dfX3 zz (by omega) (by omega) (fun h63 e63 f63 z63 => ?_)
  replace u := (f63 _ (by omega)).trans u
  replace fa : ∀ q, (1 ≤ q ∧ q < 6) → h63.1 q = h21.1 q := fun q hq => (f63 q (by omega)).trans (fa q hq)
  replace fb : ∀ q, (6 ≤ q ∧ q < 11) → h63.1 q = h31.1 q := fun q hq => (f63 q (by omega)).trans (fb q hq)
  replace fc : ∀ q, (11 ≤ q ∧ q < 18) → h63.1 q = h41.1 q := fun q hq => (f63 q (by omega)).trans (fc q hq)
  replace fd : ∀ q, (18 ≤ q ∧ q < 21) → h63.1 q = h51.1 q := fun q hq => (f63 q (by omega)).trans (fd q hq)
  replace fe : ∀ q, (21 ≤ q ∧ q < 28) → h63.1 q = h61.1 q := fun q hq => (f63 q (by omega)).trans (fe q hq)
  replace zz := z63
  refine Ax_dup dX5_init_83 rfl ?_
  refine Ax_cYv (by decide) dX5_init_84 nX5_48 e63 (tX3_init (G := G) e63 zz) rfl rfl (by decide) (by simp [Value.category]) (by omega) (fun h71 q71 => ?_)
  obtain ⟨t0, t1, t3, zz⟩ := q71
  replace u := (t3 0 (by omega)).trans u
  replace fa : ∀ q, (1 ≤ q ∧ q < 6) → h71.1 q = h21.1 q := fun q hq => (t3 q (by omega)).trans (fa q hq)
  replace fb : ∀ q, (6 ≤ q ∧ q < 11) → h71.1 q = h31.1 q := fun q hq => (t3 q (by omega)).trans (fb q hq)
  replace fc : ∀ q, (11 ≤ q ∧ q < 18) → h71.1 q = h41.1 q := fun q hq => (t3 q (by omega)).trans (fc q hq)
  replace fd : ∀ q, (18 ≤ q ∧ q < 21) → h71.1 q = h51.1 q := fun q hq => (t3 q (by omega)).trans (fd q hq)
  replace fe : ∀ q, (21 ≤ q ∧ q < 28) → h71.1 q = h61.1 q := fun q hq => (t3 q (by omega)).trans (fe q hq)
  refine Ax_putf kfX5 fX5_49 dX5_init_87 u (Nat.le_of_ble_eq_true rfl) (Or.inr ⟨rfl, rfl⟩) (by rfl) (by rfl) (Ax_up (fun h72 e72 f72 z72 => ?_))
  replace u := e72
  replace t0 := (f72 _ (by omega)).trans t0
  replace t1 := (f72 _ (by omega)).trans t1
  replace fa : ∀ q, (1 ≤ q ∧ q < 6) → h72.1 q = h21.1 q := fun q hq => (f72 q (by omega)).trans (fa q hq)
  replace fb : ∀ q, (6 ≤ q ∧ q < 11) → h72.1 q = h31.1 q := fun q hq => (f72 q (by omega)).trans (fb q hq)
  replace fc : ∀ q, (11 ≤ q ∧ q < 18) → h72.1 q = h41.1 q := fun q hq => (f72 q (by omega)).trans (fc q hq)
  replace fd : ∀ q, (18 ≤ q ∧ q < 21) → h72.1 q = h51.1 q := fun q hq => (f72 q (by omega)).trans (fd q hq)
  replace fe : ∀ q, (21 ≤ q ∧ q < 28) → h72.1 q = h61.1 q := fun q hq => (f72 q (by omega)).trans (fe q hq)
  replace zz := z72.trans zz
  refine Ax_al0 dX5_init_90 ?_
  refine Ax_ic0 dX5_init_91 ?_
  refine Ax_putf kfX5 fX5_53 dX5_init_92 u (Nat.le_of_ble_eq_true rfl) (Or.inl rfl) (by rfl) (by rfl) (Ax_up (fun h73 e73 f73 z73 => ?_))
  replace u := e73
  replace t0 := (f73 _ (by omega)).trans t0
  replace t1 := (f73 _ (by omega)).trans t1
  replace fa : ∀ q, (1 ≤ q ∧ q < 6) → h73.1 q = h21.1 q := fun q hq => (f73 q (by omega)).trans (fa q hq)
  replace fb : ∀ q, (6 ≤ q ∧ q < 11) → h73.1 q = h31.1 q := fun q hq => (f73 q (by omega)).trans (fb q hq)
  replace fc : ∀ q, (11 ≤ q ∧ q < 18) → h73.1 q = h41.1 q := fun q hq => (f73 q (by omega)).trans (fc q hq)
  replace fd : ∀ q, (18 ≤ q ∧ q < 21) → h73.1 q = h51.1 q := fun q hq => (f73 q (by omega)).trans (fd q hq)
  replace fe : ∀ q, (21 ≤ q ∧ q < 28) → h73.1 q = h61.1 q := fun q hq => (f73 q (by omega)).trans (fe q hq)
  replace zz := z73.trans zz
  refine Ax_al0 dX5_init_95 ?_
  refine Ax_ic0 dX5_init_96 ?_
  refine Ax_putf kfX5 fX5_57 dX5_init_97 u (Nat.le_of_ble_eq_true rfl) (Or.inl rfl) (by rfl) (by rfl) (Ax_up (fun h74 e74 f74 z74 => ?_))
  replace u := e74
  replace t0 := (f74 _ (by omega)).trans t0
  replace t1 := (f74 _ (by omega)).trans t1
  replace fa : ∀ q, (1 ≤ q ∧ q < 6) → h74.1 q = h21.1 q := fun q hq => (f74 q (by omega)).trans (fa q hq)
  replace fb : ∀ q, (6 ≤ q ∧ q < 11) → h74.1 q = h31.1 q := fun q hq => (f74 q (by omega)).trans (fb q hq)
  replace fc : ∀ q, (11 ≤ q ∧ q < 18) → h74.1 q = h41.1 q := fun q hq => (f74 q (by omega)).trans (fc q hq)
  replace fd : ∀ q, (18 ≤ q ∧ q < 21) → h74.1 q = h51.1 q := fun q hq => (f74 q (by omega)).trans (fd q hq)
  replace fe : ∀ q, (21 ≤ q ∧ q < 28) → h74.1 q = h61.1 q := fun q hq => (f74 q (by omega)).trans (fe q hq)
  replace zz := z74.trans zz
  refine Ax_al0 dX5_init_100 ?_
  refine Ax_bp40 dX5_init_101 ?_
  refine Ax_putf kfX5 fX5_60 dX5_init_103 u (Nat.le_of_ble_eq_true rfl) (Or.inl rfl) (by rfl) (by rfl) (Ax_up (fun h75 e75 f75 z75 => ?_))
  replace u := e75
  replace t0 := (f75 _ (by omega)).trans t0
  replace t1 := (f75 _ (by omega)).trans t1
  replace fa : ∀ q, (1 ≤ q ∧ q < 6) → h75.1 q = h21.1 q := fun q hq => (f75 q (by omega)).trans (fa q hq)
  replace fb : ∀ q, (6 ≤ q ∧ q < 11) → h75.1 q = h31.1 q := fun q hq => (f75 q (by omega)).trans (fb q hq)
  replace fc : ∀ q, (11 ≤ q ∧ q < 18) → h75.1 q = h41.1 q := fun q hq => (f75 q (by omega)).trans (fc q hq)
  replace fd : ∀ q, (18 ≤ q ∧ q < 21) → h75.1 q = h51.1 q := fun q hq => (f75 q (by omega)).trans (fd q hq)
  replace fe : ∀ q, (21 ≤ q ∧ q < 28) → h75.1 q = h61.1 q := fun q hq => (f75 q (by omega)).trans (fe q hq)
  replace zz := z75.trans zz
  refine Ax_al0 dX5_init_106 ?_
  refine Ax_bp64 dX5_init_107 ?_
  refine Ax_putf kfX5 fX5_63 dX5_init_109 u (Nat.le_of_ble_eq_true rfl) (Or.inl rfl) (by rfl) (by rfl) (Ax_up (fun h76 e76 f76 z76 => ?_))
  replace u := e76
  replace t0 := (f76 _ (by omega)).trans t0
  replace t1 := (f76 _ (by omega)).trans t1
  replace fa : ∀ q, (1 ≤ q ∧ q < 6) → h76.1 q = h21.1 q := fun q hq => (f76 q (by omega)).trans (fa q hq)
  replace fb : ∀ q, (6 ≤ q ∧ q < 11) → h76.1 q = h31.1 q := fun q hq => (f76 q (by omega)).trans (fb q hq)
  replace fc : ∀ q, (11 ≤ q ∧ q < 18) → h76.1 q = h41.1 q := fun q hq => (f76 q (by omega)).trans (fc q hq)
  replace fd : ∀ q, (18 ≤ q ∧ q < 21) → h76.1 q = h51.1 q := fun q hq => (f76 q (by omega)).trans (fd q hq)
  replace fe : ∀ q, (21 ≤ q ∧ q < 28) → h76.1 q = h61.1 q := fun q hq => (f76 q (by omega)).trans (fe q hq)
  replace zz := z76.trans zz
  refine Ax_al0 dX5_init_112 ?_
  refine Ax_ic0 dX5_init_113 ?_
  refine Ax_putf kfX5 fX5_66 dX5_init_114 u (Nat.le_of_ble_eq_true rfl) (Or.inl rfl) (by rfl) (by rfl) (Ax_up (fun h77 e77 f77 z77 => ?_))
  replace u := e77
  replace t0 := (f77 _ (by omega)).trans t0
  replace t1 := (f77 _ (by omega)).trans t1
  replace fa : ∀ q, (1 ≤ q ∧ q < 6) → h77.1 q = h21.1 q := fun q hq => (f77 q (by omega)).trans (fa q hq)
  replace fb : ∀ q, (6 ≤ q ∧ q < 11) → h77.1 q = h31.1 q := fun q hq => (f77 q (by omega)).trans (fb q hq)
  replace fc : ∀ q, (11 ≤ q ∧ q < 18) → h77.1 q = h41.1 q := fun q hq => (f77 q (by omega)).trans (fc q hq)
  replace fd : ∀ q, (18 ≤ q ∧ q < 21) → h77.1 q = h51.1 q := fun q hq => (f77 q (by omega)).trans (fd q hq)
  replace fe : ∀ q, (21 ≤ q ∧ q < 28) → h77.1 q = h61.1 q := fun q hq => (f77 q (by omega)).trans (fe q hq)
  replace zz := z77.trans zz
  refine Ax_al0 dX5_init_117 ?_
  refine Ax_icm1 dX5_init_118 ?_
  refine Ax_putf kfX5 fX5_69 dX5_init_119 u (Nat.le_of_ble_eq_true rfl) (Or.inl rfl) (by rfl) (by rfl) (Ax_up (fun h78 e78 f78 z78 => ?_))
  replace u := e78
  replace t0 := (f78 _ (by omega)).trans t0
  replace t1 := (f78 _ (by omega)).trans t1
  replace fa : ∀ q, (1 ≤ q ∧ q < 6) → h78.1 q = h21.1 q := fun q hq => (f78 q (by omega)).trans (fa q hq)
  replace fb : ∀ q, (6 ≤ q ∧ q < 11) → h78.1 q = h31.1 q := fun q hq => (f78 q (by omega)).trans (fb q hq)
  replace fc : ∀ q, (11 ≤ q ∧ q < 18) → h78.1 q = h41.1 q := fun q hq => (f78 q (by omega)).trans (fc q hq)
  replace fd : ∀ q, (18 ≤ q ∧ q < 21) → h78.1 q = h51.1 q := fun q hq => (f78 q (by omega)).trans (fd q hq)
  replace fe : ∀ q, (21 ≤ q ∧ q < 28) → h78.1 q = h61.1 q := fun q hq => (f78 q (by omega)).trans (fe q hq)
  replace zz := z78.trans zz
  refine Ax_al0 dX5_init_122 ?_
  refine Ax_ic1 dX5_init_123 ?_
  refine Ax_putf kfX5 fX5_72 dX5_init_124 u (Nat.le_of_ble_eq_true rfl) (Or.inl rfl) (by rfl) (by rfl) (Ax_up (fun h79 e79 f79 z79 => ?_))
  replace u := e79
  replace t0 := (f79 _ (by omega)).trans t0
  replace t1 := (f79 _ (by omega)).trans t1
  replace fa : ∀ q, (1 ≤ q ∧ q < 6) → h79.1 q = h21.1 q := fun q hq => (f79 q (by omega)).trans (fa q hq)
  replace fb : ∀ q, (6 ≤ q ∧ q < 11) → h79.1 q = h31.1 q := fun q hq => (f79 q (by omega)).trans (fb q hq)
  replace fc : ∀ q, (11 ≤ q ∧ q < 18) → h79.1 q = h41.1 q := fun q hq => (f79 q (by omega)).trans (fc q hq)
  replace fd : ∀ q, (18 ≤ q ∧ q < 21) → h79.1 q = h51.1 q := fun q hq => (f79 q (by omega)).trans (fd q hq)
  replace fe : ∀ q, (21 ≤ q ∧ q < 28) → h79.1 q = h61.1 q := fun q hq => (f79 q (by omega)).trans (fe q hq)
  replace zz := z79.trans zz
  exact Ax_ret dX5_init_127 rfl ⟨rfl, ⟨u, ⟨lo1, hi1, tg1, wt1, a1.on fa, a2⟩, t0, t1, ⟨lo2, hi2, tg2, wt2, _, b1.on fb⟩, ⟨kn, fi, la, we, fw, en, _, _, _, c1.on fc⟩, ⟨cos, sps, _, d1.on fd, d2⟩, kn', fi', se, rw', st, nu, _, _, _, _, _, g1.on fe⟩, zz⟩
end
