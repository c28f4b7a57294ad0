/-! the reference: a new one -/
section
variable {G : xG} {h : xH}
theorem tX6_init (u : h.1 30 = cO 6 nwX6) (zz : h.2 = 31) : AM G mX6_init 1 44117 [.ref 30] h (fun r h' => r = none ∧ vM h' (fun _ => none) 0 0 40 64 0 (-1) [] ∧ (∀ q, q < 30 → h'.1 q = h.1 q) ∧ h'.2 = 59) := by
  refine AM.of rfl rfl (Nat.le_of_ble_eq_true rfl) rfl ?_
  have fr : ∀ q, (q < 30) → h.1 q = h.1 q := fun _ _ => rfl
  refine Ax_al0 dX6_init_0 ?_
  refine Ax_oinit (ci := 6) (by decide) dX6_init_1 oinX6 u (by decide) (by decide) ?_
  refine Ax_al0 dX6_init_4 ?_
  refine Ax_bp24 dX6_init_5 ?_
  refine Ax_newIz (at' := .boolean) (z := 31) (t := 2) zz rfl (by decide) ac_boolean dX6_init_7 (Nat.le_of_ble_eq_true rfl) (by omega) (by omega) (fun h1 e1 f1 z1 => ?_)
  replace u := (f1 _ (by omega)).trans u
  replace fr : ∀ q, (q < 30) → h1.1 q = h.1 q := fun q hq => (f1 q (by omega)).trans (fr q hq)
  replace zz := z1
  refine Ax_putf kfX6 fX6_7 dX6_init_9 u (Nat.le_of_ble_eq_true rfl) (Or.inr ⟨rfl, rfl⟩) (by rfl) (by rfl) (Ax_up (fun h2 e2 f2 z2 => ?_))
  replace u := e2
  replace e1 := (f2 _ (by omega)).trans e1
  replace fr : ∀ q, (q < 30) → h2.1 q = h.1 q := fun q hq => (f2 q (by omega)).trans (fr q hq)
  replace zz := z2.trans zz
  refine Ax_al0 dX6_init_12 ?_
  refine Ax_bp24 dX6_init_13 ?_
  refine Ax_newIz (at' := .int) (z := 32) (t := 0) zz rfl (by decide) ac_int dX6_init_15 (Nat.le_of_ble_eq_true rfl) (by omega) (by omega) (fun h3 e3 f3 z3 => ?_)
  replace u := (f3 _ (by omega)).trans u
  replace e1 := (f3 _ (by omega)).trans e1
  replace fr : ∀ q, (q < 30) → h3.1 q = h.1 q := fun q hq => (f3 q (by omega)).trans (fr q hq)
  replace zz := z3
  refine Ax_putf kfX6 fX6_13 dX6_init_17 u (Nat.le_of_ble_eq_true rfl) (Or.inr ⟨rfl, rfl⟩) (by rfl) (by rfl) (Ax_up (fun h4 e4 f4 z4 => ?_))
  replace u := e4
  replace e1 := (f4 _ (by omega)).trans e1
  replace e3 := (f4 _ (by omega)).trans e3
  replace fr : ∀ q, (q < 30) → h4.1 q = h.1 q := fun q hq => (f4 q (by omega)).trans (fr q hq)
  replace zz := z4.trans zz
  refine Ax_al0 dX6_init_20 ?_
  refine Ax_bp24 dX6_init_21 ?_
  refine Ax_newIz (at' := .int) (z := 33) (t := 0) zz rfl (by decide) ac_int dX6_init_23 (Nat.le_of_ble_eq_true rfl) (by omega) (by omega) (fun h5 e5 f5 z5 => ?_)
  replace u := (f5 _ (by omega)).trans u
  replace e1 := (f5 _ (by omega)).trans e1
  replace e3 := (f5 _ (by omega)).trans e3
  replace fr : ∀ q, (q < 30) → h5.1 q = h.1 q := fun q hq => (f5 q (by omega)).trans (fr q hq)
  replace zz := z5
  refine Ax_putf kfX6 fX6_17 dX6_init_25 u (Nat.le_of_ble_eq_true rfl) (Or.inr ⟨rfl, rfl⟩) (by rfl) (by rfl) (Ax_up (fun h6 e6 f6 z6 => ?_))
  replace u := e6
  replace e1 := (f6 _ (by omega)).trans e1
  replace e3 := (f6 _ (by omega)).trans e3
  replace e5 := (f6 _ (by omega)).trans e5
  replace fr : ∀ q, (q < 30) → h6.1 q = h.1 q := fun q hq => (f6 q (by omega)).trans (fr q hq)
  replace zz := z6.trans zz
  refine Ax_al0 dX6_init_28 ?_
  refine Ax_bp24 dX6_init_29 ?_
  refine Ax_newIz (at' := .int) (z := 34) (t := 0) zz rfl (by decide) ac_int dX6_init_31 (Nat.le_of_ble_eq_true rfl) (by omega) (by omega) (fun h7 e7 f7 z7 => ?_)
  replace u := (f7 _ (by omega)).trans u
  replace e1 := (f7 _ (by omega)).trans e1
  replace e3 := (f7 _ (by omega)).trans e3
  replace e5 := (f7 _ (by omega)).trans e5
  replace fr : ∀ q, (q < 30) → h7.1 q = h.1 q := fun q hq => (f7 q (by omega)).trans (fr q hq)
  replace zz := z7
  refine Ax_putf kfX6 fX6_20 dX6_init_33 u (Nat.le_of_ble_eq_true rfl) (Or.inr ⟨rfl, rfl⟩) (by rfl) (by rfl) (Ax_up (fun h8 e8 f8 z8 => ?_))
  replace u := e8
  replace e1 := (f8 _ (by omega)).trans e1
  replace e3 := (f8 _ (by omega)).trans e3
  replace e5 := (f8 _ (by omega)).trans e5
  replace e7 := (f8 _ (by omega)).trans e7
  replace fr : ∀ q, (q < 30) → h8.1 q = h.1 q := fun q hq => (f8 q (by omega)).trans (fr q hq)
  replace zz := z8.trans zz
  refine Ax_al0 dX6_init_36 ?_
  refine Ax_bp24 dX6_init_37 ?_
  refine Ax_newIz (at' := .int) (z := 35) (t := 0) zz rfl (by decide) ac_int dX6_init_39 (Nat.le_of_ble_eq_true rfl) (by omega) (by omega) (fun h9 e9 f9 z9 => ?_)
  replace u := (f9 _ (by omega)).trans u
  replace e1 := (f9 _ (by omega)).trans e1
  replace e3 := (f9 _ (by omega)).trans e3
  replace e5 := (f9 _ (by omega)).trans e5
  replace e7 := (f9 _ (by omega)).trans e7
  replace fr : ∀ q, (q < 30) → h9.1 q = h.1 q := fun q hq => (f9 q (by omega)).trans (fr q hq)
  replace zz := z9
  refine Ax_putf kfX6 fX6_23 dX6_init_41 u (Nat.le_of_ble_eq_true rfl) (Or.inr ⟨rfl, rfl⟩) (by rfl) (by rfl) (Ax_up (fun h10 e10 f10 z10 => ?_))
  replace u := e10
  replace e1 := (f10 _ (by omega)).trans e1
  replace e3 := (f10 _ (by omega)).trans e3
  replace e5 := (f10 _ (by omega)).trans e5
  replace e7 := (f10 _ (by omega)).trans e7
  replace e9 := (f10 _ (by omega)).trans e9
  replace fr : ∀ q, (q < 30) → h10.1 q = h.1 q := fun q hq => (f10 q (by omega)).trans (fr q hq)
  replace zz := z10.trans zz
  refine Ax_al0 dX6_init_44 ?_
  refine Ax_icm1 dX6_init_45 ?_
  refine Ax_putf kfX6 fX6_26 dX6_init_46 u (Nat.le_of_ble_eq_true rfl) (Or.inl rfl) (by rfl) (by rfl) (Ax_up (fun h11 e11 f11 z11 => ?_))
  replace u := e11
  replace e1 := (f11 _ (by omega)).trans e1
  replace e3 := (f11 _ (by omega)).trans e3
  replace e5 := (f11 _ (by omega)).trans e5
  replace e7 := (f11 _ (by omega)).trans e7
  replace e9 := (f11 _ (by omega)).trans e9
  replace fr : ∀ q, (q < 30) → h11.1 q = h.1 q := fun q hq => (f11 q (by omega)).trans (fr q hq)
  replace zz := z11.trans zz
  refine Ax_al0 dX6_init_49 ?_
  refine Ax_bp40 dX6_init_50 ?_
  refine Ax_putf kfX6 fX6_30 dX6_init_52 u (Nat.le_of_ble_eq_true rfl) (Or.inl rfl) (by rfl) (by rfl) (Ax_up (fun h12 e12 f12 z12 => ?_))
  replace u := e12
  replace e1 := (f12 _ (by omega)).trans e1
  replace e3 := (f12 _ (by omega)).trans e3
  replace e5 := (f12 _ (by omega)).trans e5
  replace e7 := (f12 _ (by omega)).trans e7
  replace e9 := (f12 _ (by omega)).trans e9
  replace fr : ∀ q, (q < 30) → h12.1 q = h.1 q := fun q hq => (f12 q (by omega)).trans (fr q hq)
  replace zz := z12.trans zz
  refine Ax_al0 dX6_init_55 ?_
  refine Ax_bp64 dX6_init_56 ?_
  refine Ax_putf kfX6 fX6_33 dX6_init_58 u (Nat.le_of_ble_eq_true rfl) (Or.inl rfl) (by rfl) (by rfl) (Ax_up (fun h13 e13 f13 z13 => ?_))
  replace u := e13
  replace e1 := (f13 _ (by omega)).trans e1
  replace e3 := (f13 _ (by omega)).trans e3
  replace e5 := (f13 _ (by omega)).trans e5
  replace e7 := (f13 _ (by omega)).trans e7
  replace e9 := (f13 _ (by omega)).trans e9
  replace fr : ∀ q, (q < 30) → h13.1 q = h.1 q := fun q hq => (f13 q (by omega)).trans (fr q hq)
  replace zz := z13.trans zz
  refine Ax_al0 dX6_init_61 ?_
  refine Ax_bp24 dX6_init_62 ?_
  refine Ax_newIz (at' := .int) (z := 36) (t := 0) zz rfl (by decide) ac_int dX6_init_64 (Nat.le_of_ble_eq_true rfl) (by omega) (by omega) (fun h14 e14 f14 z14 => ?_)
  replace u := (f14 _ (by omega)).trans u
  replace e1 := (f14 _ (by omega)).trans e1
  replace e3 := (f14 _ (by omega)).trans e3
  replace e5 := (f14 _ (by omega)).trans e5
  replace e7 := (f14 _ (by omega)).trans e7
  replace e9 := (f14 _ (by omega)).trans e9
  replace fr : ∀ q, (q < 30) → h14.1 q = h.1 q := fun q hq => (f14 q (by omega)).trans (fr q hq)
  replace zz := z14
  refine Ax_putf kfX6 fX6_36 dX6_init_66 u (Nat.le_of_ble_eq_true rfl) (Or.inr ⟨rfl, rfl⟩) (by rfl) (by rfl) (Ax_up (fun h15 e15 f15 z15 => ?_))
  replace u := e15
  replace e1 := (f15 _ (by omega)).trans e1
  replace e3 := (f15 _ (by omega)).trans e3
  replace e5 := (f15 _ (by omega)).trans e5
  replace e7 := (f15 _ (by omega)).trans e7
  replace e9 := (f15 _ (by omega)).trans e9
  replace e14 := (f15 _ (by omega)).trans e14
  replace fr : ∀ q, (q < 30) → h15.1 q = h.1 q := fun q hq => (f15 q (by omega)).trans (fr q hq)
  replace zz := z15.trans zz
  refine Ax_al0 dX6_init_69 ?_
  refine Ax_bp24 dX6_init_70 ?_
  refine Ax_newIz (at' := .int) (z := 37) (t := 0) zz rfl (by decide) ac_int dX6_init_72 (Nat.le_of_ble_eq_true rfl) (by omega) (by omega) (fun h16 e16 f16 z16 => ?_)
  replace u := (f16 _ (by omega)).trans u
  replace e1 := (f16 _ (by omega)).trans e1
  replace e3 := (f16 _ (by omega)).trans e3
  replace e5 := (f16 _ (by omega)).trans e5
  replace e7 := (f16 _ (by omega)).trans e7
  replace e9 := (f16 _ (by omega)).trans e9
  replace e14 := (f16 _ (by omega)).trans e14
  replace fr : ∀ q, (q < 30) → h16.1 q = h.1 q := fun q hq => (f16 q (by omega)).trans (fr q hq)
  replace zz := z16
  refine Ax_putf kfX6 fX6_39 dX6_init_74 u (Nat.le_of_ble_eq_true rfl) (Or.inr ⟨rfl, rfl⟩) (by rfl) (by rfl) (Ax_up (fun h17 e17 f17 z17 => ?_))
  replace u := e17
  replace e1 := (f17 _ (by omega)).trans e1
  replace e3 := (f17 _ (by omega)).trans e3
  replace e5 := (f17 _ (by omega)).trans e5
  replace e7 := (f17 _ (by omega)).trans e7
  replace e9 := (f17 _ (by omega)).trans e9
  replace e14 := (f17 _ (by omega)).trans e14
  replace e16 := (f17 _ (by omega)).trans e16
  replace fr : ∀ q, (q < 30) → h17.1 q = h.1 q := fun q hq => (f17 q (by omega)).trans (fr q hq)
  replace zz := z17.trans zz
  refine Ax_al0 dX6_init_77 ?_
  refine Ax_bp24 dX6_init_78 ?_
  refine Ax_newIz (at' := .int) (z := 38) (t := 0) zz rfl (by decide) ac_int dX6_init_80 (Nat.le_of_ble_eq_true rfl) (by omega) (by omega) (fun h18 e18 f18 z18 => ?_)
  replace u := (f18 _ (by omega)).trans u
  replace e1 := (f18 _ (by omega)).trans e1
  replace e3 := (f18 _ (by omega)).trans e3
  replace e5 := (f18 _ (by omega)).trans e5
  replace e7 := (f18 _ (by omega)).trans e7
  replace e9 := (f18 _ (by omega)).trans e9
  replace e14 := (f18 _ (by omega)).trans e14
  replace e16 := (f18 _ (by omega)).trans e16
  replace fr : ∀ q, (q < 30) → h18.1 q = h.1 q := fun q hq => (f18 q (by omega)).trans (fr q hq)
  replace zz := z18
  refine Ax_putf kfX6 fX6_42 dX6_init_82 u (Nat.le_of_ble_eq_true rfl) (Or.inr ⟨rfl, rfl⟩) (by rfl) (by rfl) (Ax_up (fun h19 e19 f19 z19 => ?_))
  replace u := e19
  replace e1 := (f19 _ (by omega)).trans e1
  replace e3 := (f19 _ (by omega)).trans e3
  replace e5 := (f19 _ (by omega)).trans e5
  replace e7 := (f19 _ (by omega)).trans e7
  replace e9 := (f19 _ (by omega)).trans e9
  replace e14 := (f19 _ (by omega)).trans e14
  replace e16 := (f19 _ (by omega)).trans e16
  replace e18 := (f19 _ (by omega)).trans e18
  replace fr : ∀ q, (q < 30) → h19.1 q = h.1 q := fun q hq => (f19 q (by omega)).trans (fr q hq)
  replace zz := z19.trans zz
  refine Ax_al0 dX6_init_85 ?_
  refine Ax_bp24 dX6_init_86 ?_
  refine Ax_newIz (at' := .int) (z := 39) (t := 0) zz rfl (by decide) ac_int dX6_init_88 (Nat.le_of_ble_eq_true rfl) (by omega) (by omega) (fun h20 e20 f20 z20 => ?_)
  replace u := (f20 _ (by omega)).trans u
  replace e1 := (f20 _ (by omega)).trans e1
  replace e3 := (f20 _ (by omega)).trans e3
  replace e5 := (f20 _ (by omega)).trans e5
  replace e7 := (f20 _ (by omega)).trans e7
  replace e9 := (f20 _ (by omega)).trans e9
  replace e14 := (f20 _ (by omega)).trans e14
  replace e16 := (f20 _ (by omega)).trans e16
  replace e18 := (f20 _ (by omega)).trans e18
  replace fr : ∀ q, (q < 30) → h20.1 q = h.1 q := fun q hq => (f20 q (by omega)).trans (fr q hq)
  replace zz := z20
  refine Ax_putf kfX6 fX6_45 dX6_init_90 u (Nat.le_of_ble_eq_true rfl) (Or.inr ⟨rfl, rfl⟩) (by rfl) (by rfl) (Ax_up (fun h21 e21 f21 z21 => ?_))
  replace u := e21
  replace e1 := (f21 _ (by omega)).trans e1
  replace e3 := (f21 _ (by omega)).trans e3
  replace e5 := (f21 _ (by omega)).trans e5
  replace e7 := (f21 _ (by omega)).trans e7
  replace e9 := (f21 _ (by omega)).trans e9
  replace e14 := (f21 _ (by omega)).trans e14
  replace e16 := (f21 _ (by omega)).trans e16
  replace e18 := (f21 _ (by omega)).trans e18
  replace e20 := (f21 _ (by omega)).trans e20
  replace fr : ∀ q, (q < 30) → h21.1 q = h.1 q := fun q hq => (f21 q (by omega)).trans (fr q hq)
  replace zz := z21.trans zz
  refine Ax_al0 dX6_init_93 ?_
  refine Ax_bp24 dX6_init_94 ?_
  refine Ax_newIz (at' := .int) (z := 40) (t := 0) zz rfl (by decide) ac_int dX6_init_96 (Nat.le_of_ble_eq_true rfl) (by omega) (by omega) (fun h22 e22 f22 z22 => ?_)
  replace u := (f22 _ (by omega)).trans u
  replace e1 := (f22 _ (by omega)).trans e1
  replace e3 := (f22 _ (by omega)).trans e3
  replace e5 := (f22 _ (by omega)).trans e5
  replace e7 := (f22 _ (by omega)).trans e7
  replace e9 := (f22 _ (by omega)).trans e9
  replace e14 := (f22 _ (by omega)).trans e14
  replace e16 := (f22 _ (by omega)).trans e16
  replace e18 := (f22 _ (by omega)).trans e18
  replace e20 := (f22 _ (by omega)).trans e20
  replace fr : ∀ q, (q < 30) → h22.1 q = h.1 q := fun q hq => (f22 q (by omega)).trans (fr q hq)
  replace zz := z22
  refine Ax_putf kfX6 fX6_48 dX6_init_98 u (Nat.le_of_ble_eq_true rfl) (Or.inr ⟨rfl, rfl⟩) (by rfl) (by rfl) (Ax_up (fun h23 e23 f23 z23 => ?_))
  replace u := e23
  replace e1 := (f23 _ (by omega)).trans e1
  replace e3 := (f23 _ (by omega)).trans e3
  replace e5 := (f23 _ (by omega)).trans e5
  replace e7 := (f23 _ (by omega)).trans e7
  replace e9 := (f23 _ (by omega)).trans e9
  replace e14 := (f23 _ (by omega)).trans e14
  replace e16 := (f23 _ (by omega)).trans e16
  replace e18 := (f23 _ (by omega)).trans e18
  replace e20 := (f23 _ (by omega)).trans e20
  replace e22 := (f23 _ (by omega)).trans e22
  replace fr : ∀ q, (q < 30) → h23.1 q = h.1 q := fun q hq => (f23 q (by omega)).trans (fr q hq)
  replace zz := z23.trans zz
  refine Ax_al0 dX6_init_101 ?_
  refine Ax_bp24 dX6_init_102 ?_
  refine Ax_newIz (at' := .int) (z := 41) (t := 0) zz rfl (by decide) ac_int dX6_init_104 (Nat.le_of_ble_eq_true rfl) (by omega) (by omega) (fun h24 e24 f24 z24 => ?_)
  replace u := (f24 _ (by omega)).trans u
  replace e1 := (f24 _ (by omega)).trans e1
  replace e3 := (f24 _ (by omega)).trans e3
  replace e5 := (f24 _ (by omega)).trans e5
  replace e7 := (f24 _ (by omega)).trans e7
  replace e9 := (f24 _ (by omega)).trans e9
  replace e14 := (f24 _ (by omega)).trans e14
  replace e16 := (f24 _ (by omega)).trans e16
  replace e18 := (f24 _ (by omega)).trans e18
  replace e20 := (f24 _ (by omega)).trans e20
  replace e22 := (f24 _ (by omega)).trans e22
  replace fr : ∀ q, (q < 30) → h24.1 q = h.1 q := fun q hq => (f24 q (by omega)).trans (fr q hq)
  replace zz := z24
  refine Ax_putf kfX6 fX6_51 dX6_init_106 u (Nat.le_of_ble_eq_true rfl) (Or.inr ⟨rfl, rfl⟩) (by rfl) (by rfl) (Ax_up (fun h25 e25 f25 z25 => ?_))
  replace u := e25
  replace e1 := (f25 _ (by omega)).trans e1
  replace e3 := (f25 _ (by omega)).trans e3
  replace e5 := (f25 _ (by omega)).trans e5
  replace e7 := (f25 _ (by omega)).trans e7
  replace e9 := (f25 _ (by omega)).trans e9
  replace e14 := (f25 _ (by omega)).trans e14
  replace e16 := (f25 _ (by omega)).trans e16
  replace e18 := (f25 _ (by omega)).trans e18
  replace e20 := (f25 _ (by omega)).trans e20
  replace e22 := (f25 _ (by omega)).trans e22
  replace e24 := (f25 _ (by omega)).trans e24
  replace fr : ∀ q, (q < 30) → h25.1 q = h.1 q := fun q hq => (f25 q (by omega)).trans (fr q hq)
  replace zz := z25.trans zz
  refine Ax_al0 dX6_init_109 ?_
  refine Ax_bp24 dX6_init_110 ?_
  refine Ax_newIz (at' := .int) (z := 42) (t := 0) zz rfl (by decide) ac_int dX6_init_112 (Nat.le_of_ble_eq_true rfl) (by omega) (by omega) (fun h26 e26 f26 z26 => ?_)
  replace u := (f26 _ (by omega)).trans u
  replace e1 := (f26 _ (by omega)).trans e1
  replace e3 := (f26 _ (by omega)).trans e3
  replace e5 := (f26 _ (by omega)).trans e5
  replace e7 := (f26 _ (by omega)).trans e7
  replace e9 := (f26 _ (by omega)).trans e9
  replace e14 := (f26 _ (by omega)).trans e14
  replace e16 := (f26 _ (by omega)).trans e16
  replace e18 := (f26 _ (by omega)).trans e18
  replace e20 := (f26 _ (by omega)).trans e20
  replace e22 := (f26 _ (by omega)).trans e22
  replace e24 := (f26 _ (by omega)).trans e24
  replace fr : ∀ q, (q < 30) → h26.1 q = h.1 q := fun q hq => (f26 q (by omega)).trans (fr q hq)
  replace zz := z26
  refine Ax_putf kfX6 fX6_54 dX6_init_114 u (Nat.le_of_ble_eq_true rfl) (Or.inr ⟨rfl, rfl⟩) (by rfl) (by rfl) (Ax_up (fun h27 e27 f27 z27 => ?_))
  replace u := e27
  replace e1 := (f27 _ (by omega)).trans e1
  replace e3 := (f27 _ (by omega)).trans e3
  replace e5 := (f27 _ (by omega)).trans e5
  replace e7 := (f27 _ (by omega)).trans e7
  replace e9 := (f27 _ (by omega)).trans e9
  replace e14 := (f27 _ (by omega)).trans e14
  replace e16 := (f27 _ (by omega)).trans e16
  replace e18 := (f27 _ (by omega)).trans e18
  replace e20 := (f27 _ (by omega)).trans e20
  replace e22 := (f27 _ (by omega)).trans e22
  replace e24 := (f27 _ (by omega)).trans e24
  replace e26 := (f27 _ (by omega)).trans e26
  replace fr : ∀ q, (q < 30) → h27.1 q = h.1 q := fun q hq => (f27 q (by omega)).trans (fr q hq)
  replace zz := z27.trans zz
  refine Ax_al0 dX6_init_117 ?_
  refine Ax_bp25 dX6_init_118 ?_
  refine Ax_newIz (at' := .int) (z := 43) (t := 0) zz rfl (by decide) ac_int dX6_init_120 (Nat.le_of_ble_eq_true rfl) (by omega) (by omega) (fun h28 e28 f28 z28 => ?_)
  replace u := (f28 _ (by omega)).trans u
  replace e1 := (f28 _ (by omega)).trans e1
  replace e3 := (f28 _ (by omega)).trans e3
  replace e5 := (f28 _ (by omega)).trans e5
  replace e7 := (f28 _ (by omega)).trans e7
  replace e9 := (f28 _ (by omega)).trans e9
  replace e14 := (f28 _ (by omega)).trans e14
  replace e16 := (f28 _ (by omega)).trans e16
  replace e18 := (f28 _ (by omega)).trans e18
  replace e20 := (f28 _ (by omega)).trans e20
  replace e22 := (f28 _ (by omega)).trans e22
  replace e24 := (f28 _ (by omega)).trans e24
  replace e26 := (f28 _ (by omega)).trans e26
  replace fr : ∀ q, (q < 30) → h28.1 q = h.1 q := fun q hq => (f28 q (by omega)).trans (fr q hq)
  replace zz := z28
  refine Ax_putf kfX6 fX6_57 dX6_init_122 u (Nat.le_of_ble_eq_true rfl) (Or.inr ⟨rfl, rfl⟩) (by rfl) (by rfl) (Ax_up (fun h29 e29 f29 z29 => ?_))
  replace u := e29
  replace e1 := (f29 _ (by omega)).trans e1
  replace e3 := (f29 _ (by omega)).trans e3
  replace e5 := (f29 _ (by omega)).trans e5
  replace e7 := (f29 _ (by omega)).trans e7
  replace e9 := (f29 _ (by omega)).trans e9
  replace e14 := (f29 _ (by omega)).trans e14
  replace e16 := (f29 _ (by omega)).trans e16
  replace e18 := (f29 _ (by omega)).trans e18
  replace e20 := (f29 _ (by omega)).trans e20
  replace e22 := (f29 _ (by omega)).trans e22
  replace e24 := (f29 _ (by omega)).trans e24
  replace e26 := (f29 _ (by omega)).trans e26
  replace e28 := (f29 _ (by omega)).trans e28
  replace fr : ∀ q, (q < 30) → h29.1 q = h.1 q := fun q hq => (f29 q (by omega)).trans (fr q hq)
  replace zz := z29.trans zz
  refine Ax_al0 dX6_init_125 ?_
  refine Ax_sp576 dX6_init_126 ?_
  refine Ax_newJz (z := 44) zz ac_long dX6_init_129 (Nat.le_of_ble_eq_true rfl) (by omega) (by omega) (fun h30 e30 f30 z30 => ?_)
  replace u := (f30 _ (by omega)).trans u
  replace e1 := (f30 _ (by omega)).trans e1
  replace e3 := (f30 _ (by omega)).trans e3
  replace e5 := (f30 _ (by omega)).trans e5
  replace e7 := (f30 _ (by omega)).trans e7
  replace e9 := (f30 _ (by omega)).trans e9
  replace e14 := (f30 _ (by omega)).trans e14
  replace e16 := (f30 _ (by omega)).trans e16
  replace e18 := (f30 _ (by omega)).trans e18
  replace e20 := (f30 _ (by omega)).trans e20
  replace e22 := (f30 _ (by omega)).trans e22
  replace e24 := (f30 _ (by omega)).trans e24
  replace e26 := (f30 _ (by omega)).trans e26
  replace e28 := (f30 _ (by omega)).trans e28
  replace fr : ∀ q, (q < 30) → h30.1 q = h.1 q := fun q hq => (f30 q (by omega)).trans (fr q hq)
  replace zz := z30
  refine Ax_putf kfX6 fX6_60 dX6_init_131 u (Nat.le_of_ble_eq_true rfl) (Or.inr ⟨rfl, rfl⟩) (by rfl) (by rfl) (Ax_up (fun h31 e31 f31 z31 => ?_))
  replace u := e31
  replace e1 := (f31 _ (by omega)).trans e1
  replace e3 := (f31 _ (by omega)).trans e3
  replace e5 := (f31 _ (by omega)).trans e5
  replace e7 := (f31 _ (by omega)).trans e7
  replace e9 := (f31 _ (by omega)).trans e9
  replace e14 := (f31 _ (by omega)).trans e14
  replace e16 := (f31 _ (by omega)).trans e16
  replace e18 := (f31 _ (by omega)).trans e18
  replace e20 := (f31 _ (by omega)).trans e20
  replace e22 := (f31 _ (by omega)).trans e22
  replace e24 := (f31 _ (by omega)).trans e24
  replace e26 := (f31 _ (by omega)).trans e26
  replace e28 := (f31 _ (by omega)).trans e28
  replace e30 := (f31 _ (by omega)).trans e30
  replace fr : ∀ q, (q < 30) → h31.1 q = h.1 q := fun q hq => (f31 q (by omega)).trans (fr q hq)
  replace zz := z31.trans zz
  refine Ax_al0 dX6_init_134 ?_
  refine Ax_sp576 dX6_init_135 ?_
  refine Ax_newIz (at' := .int) (z := 45) (t := 0) zz rfl (by decide) ac_int dX6_init_138 (Nat.le_of_ble_eq_true rfl) (by omega) (by omega) (fun h32 e32 f32 z32 => ?_)
  replace u := (f32 _ (by omega)).trans u
  replace e1 := (f32 _ (by omega)).trans e1
  replace e3 := (f32 _ (by omega)).trans e3
  replace e5 := (f32 _ (by omega)).trans e5
  replace e7 := (f32 _ (by omega)).trans e7
  replace e9 := (f32 _ (by omega)).trans e9
  replace e14 := (f32 _ (by omega)).trans e14
  replace e16 := (f32 _ (by omega)).trans e16
  replace e18 := (f32 _ (by omega)).trans e18
  replace e20 := (f32 _ (by omega)).trans e20
  replace e22 := (f32 _ (by omega)).trans e22
  replace e24 := (f32 _ (by omega)).trans e24
  replace e26 := (f32 _ (by omega)).trans e26
  replace e28 := (f32 _ (by omega)).trans e28
  replace e30 := (f32 _ (by omega)).trans e30
  replace fr : ∀ q, (q < 30) → h32.1 q = h.1 q := fun q hq => (f32 q (by omega)).trans (fr q hq)
  replace zz := z32
  refine Ax_putf kfX6 fX6_64 dX6_init_140 u (Nat.le_of_ble_eq_true rfl) (Or.inr ⟨rfl, rfl⟩) (by rfl) (by rfl) (Ax_up (fun h33 e33 f33 z33 => ?_))
  replace u := e33
  replace e1 := (f33 _ (by omega)).trans e1
  replace e3 := (f33 _ (by omega)).trans e3
  replace e5 := (f33 _ (by omega)).trans e5
  replace e7 := (f33 _ (by omega)).trans e7
  replace e9 := (f33 _ (by omega)).trans e9
  replace e14 := (f33 _ (by omega)).trans e14
  replace e16 := (f33 _ (by omega)).trans e16
  replace e18 := (f33 _ (by omega)).trans e18
  replace e20 := (f33 _ (by omega)).trans e20
  replace e22 := (f33 _ (by omega)).trans e22
  replace e24 := (f33 _ (by omega)).trans e24
  replace e26 := (f33 _ (by omega)).trans e26
  replace e28 := (f33 _ (by omega)).trans e28
  replace e30 := (f33 _ (by omega)).trans e30
  replace e32 := (f33 _ (by omega)).trans e32
  replace fr : ∀ q, (q < 30) → h33.1 q = h.1 q := fun q hq => (f33 q (by omega)).trans (fr q hq)
  replace zz := z33.trans zz
  refine Ax_al0 dX6_init_143 ?_
  refine Ax_bp24 dX6_init_144 ?_
  refine Ax_newIz (at' := .int) (z := 46) (t := 0) zz rfl (by decide) ac_int dX6_init_146 (Nat.le_of_ble_eq_true rfl) (by omega) (by omega) (fun h34 e34 f34 z34 => ?_)
  replace u := (f34 _ (by omega)).trans u
  replace e1 := (f34 _ (by omega)).trans e1
  replace e3 := (f34 _ (by omega)).trans e3
  replace e5 := (f34 _ (by omega)).trans e5
  replace e7 := (f34 _ (by omega)).trans e7
  replace e9 := (f34 _ (by omega)).trans e9
  replace e14 := (f34 _ (by omega)).trans e14
  replace e16 := (f34 _ (by omega)).trans e16
  replace e18 := (f34 _ (by omega)).trans e18
  replace e20 := (f34 _ (by omega)).trans e20
  replace e22 := (f34 _ (by omega)).trans e22
  replace e24 := (f34 _ (by omega)).trans e24
  replace e26 := (f34 _ (by omega)).trans e26
  replace e28 := (f34 _ (by omega)).trans e28
  replace e30 := (f34 _ (by omega)).trans e30
  replace e32 := (f34 _ (by omega)).trans e32
  replace fr : ∀ q, (q < 30) → h34.1 q = h.1 q := fun q hq => (f34 q (by omega)).trans (fr q hq)
  replace zz := z34
  refine Ax_putf kfX6 fX6_67 dX6_init_148 u (Nat.le_of_ble_eq_true rfl) (Or.inr ⟨rfl, rfl⟩) (by rfl) (by rfl) (Ax_up (fun h35 e35 f35 z35 => ?_))
  replace u := e35
  replace e1 := (f35 _ (by omega)).trans e1
  replace e3 := (f35 _ (by omega)).trans e3
  replace e5 := (f35 _ (by omega)).trans e5
  replace e7 := (f35 _ (by omega)).trans e7
  replace e9 := (f35 _ (by omega)).trans e9
  replace e14 := (f35 _ (by omega)).trans e14
  replace e16 := (f35 _ (by omega)).trans e16
  replace e18 := (f35 _ (by omega)).trans e18
  replace e20 := (f35 _ (by omega)).trans e20
  replace e22 := (f35 _ (by omega)).trans e22
  replace e24 := (f35 _ (by omega)).trans e24
  replace e26 := (f35 _ (by omega)).trans e26
  replace e28 := (f35 _ (by omega)).trans e28
  replace e30 := (f35 _ (by omega)).trans e30
  replace e32 := (f35 _ (by omega)).trans e32
  replace e34 := (f35 _ (by omega)).trans e34
  replace fr : ∀ q, (q < 30) → h35.1 q = h.1 q := fun q hq => (f35 q (by omega)).trans (fr q hq)
  replace zz := z35.trans zz
  refine Ax_al0 dX6_init_151 ?_
  refine Ax_sp400 dX6_init_152 ?_
  refine Ax_newIz (at' := .int) (z := 47) (t := 0) zz rfl (by decide) ac_int dX6_init_155 (Nat.le_of_ble_eq_true rfl) (by omega) (by omega) (fun h36 e36 f36 z36 => ?_)
  replace u := (f36 _ (by omega)).trans u
  replace e1 := (f36 _ (by omega)).trans e1
  replace e3 := (f36 _ (by omega)).trans e3
  replace e5 := (f36 _ (by omega)).trans e5
  replace e7 := (f36 _ (by omega)).trans e7
  replace e9 := (f36 _ (by omega)).trans e9
  replace e14 := (f36 _ (by omega)).trans e14
  replace e16 := (f36 _ (by omega)).trans e16
  replace e18 := (f36 _ (by omega)).trans e18
  replace e20 := (f36 _ (by omega)).trans e20
  replace e22 := (f36 _ (by omega)).trans e22
  replace e24 := (f36 _ (by omega)).trans e24
  replace e26 := (f36 _ (by omega)).trans e26
  replace e28 := (f36 _ (by omega)).trans e28
  replace e30 := (f36 _ (by omega)).trans e30
  replace e32 := (f36 _ (by omega)).trans e32
  replace e34 := (f36 _ (by omega)).trans e34
  replace fr : ∀ q, (q < 30) → h36.1 q = h.1 q := fun q hq => (f36 q (by omega)).trans (fr q hq)
  replace zz := z36
  refine Ax_putf kfX6 fX6_70 dX6_init_157 u (Nat.le_of_ble_eq_true rfl) (Or.inr ⟨rfl, rfl⟩) (by rfl) (by rfl) (Ax_up (fun h37 e37 f37 z37 => ?_))
  replace u := e37
  replace e1 := (f37 _ (by omega)).trans e1
  replace e3 := (f37 _ (by omega)).trans e3
  replace e5 := (f37 _ (by omega)).trans e5
  replace e7 := (f37 _ (by omega)).trans e7
  replace e9 := (f37 _ (by omega)).trans e9
  replace e14 := (f37 _ (by omega)).trans e14
  replace e16 := (f37 _ (by omega)).trans e16
  replace e18 := (f37 _ (by omega)).trans e18
  replace e20 := (f37 _ (by omega)).trans e20
  replace e22 := (f37 _ (by omega)).trans e22
  replace e24 := (f37 _ (by omega)).trans e24
  replace e26 := (f37 _ (by omega)).trans e26
  replace e28 := (f37 _ (by omega)).trans e28
  replace e30 := (f37 _ (by omega)).trans e30
  replace e32 := (f37 _ (by omega)).trans e32
  replace e34 := (f37 _ (by omega)).trans e34
  replace e36 := (f37 _ (by omega)).trans e36
  replace fr : ∀ q, (q < 30) → h37.1 q = h.1 q := fun q hq => (f37 q (by omega)).trans (fr q hq)
  replace zz := z37.trans zz
  refine Ax_al0 dX6_init_160 ?_
  refine Ax_sp400 dX6_init_161 ?_
  refine Ax_newIz (at' := .int) (z := 48) (t := 0) zz rfl (by decide) ac_int dX6_init_164 (Nat.le_of_ble_eq_true rfl) (by omega) (by omega) (fun h38 e38 f38 z38 => ?_)
  replace u := (f38 _ (by omega)).trans u
  replace e1 := (f38 _ (by omega)).trans e1
  replace e3 := (f38 _ (by omega)).trans e3
  replace e5 := (f38 _ (by omega)).trans e5
  replace e7 := (f38 _ (by omega)).trans e7
  replace e9 := (f38 _ (by omega)).trans e9
  replace e14 := (f38 _ (by omega)).trans e14
  replace e16 := (f38 _ (by omega)).trans e16
  replace e18 := (f38 _ (by omega)).trans e18
  replace e20 := (f38 _ (by omega)).trans e20
  replace e22 := (f38 _ (by omega)).trans e22
  replace e24 := (f38 _ (by omega)).trans e24
  replace e26 := (f38 _ (by omega)).trans e26
  replace e28 := (f38 _ (by omega)).trans e28
  replace e30 := (f38 _ (by omega)).trans e30
  replace e32 := (f38 _ (by omega)).trans e32
  replace e34 := (f38 _ (by omega)).trans e34
  replace e36 := (f38 _ (by omega)).trans e36
  replace fr : ∀ q, (q < 30) → h38.1 q = h.1 q := fun q hq => (f38 q (by omega)).trans (fr q hq)
  replace zz := z38
  refine Ax_putf kfX6 fX6_73 dX6_init_166 u (Nat.le_of_ble_eq_true rfl) (Or.inr ⟨rfl, rfl⟩) (by rfl) (by rfl) (Ax_up (fun h39 e39 f39 z39 => ?_))
  replace u := e39
  replace e1 := (f39 _ (by omega)).trans e1
  replace e3 := (f39 _ (by omega)).trans e3
  replace e5 := (f39 _ (by omega)).trans e5
  replace e7 := (f39 _ (by omega)).trans e7
  replace e9 := (f39 _ (by omega)).trans e9
  replace e14 := (f39 _ (by omega)).trans e14
  replace e16 := (f39 _ (by omega)).trans e16
  replace e18 := (f39 _ (by omega)).trans e18
  replace e20 := (f39 _ (by omega)).trans e20
  replace e22 := (f39 _ (by omega)).trans e22
  replace e24 := (f39 _ (by omega)).trans e24
  replace e26 := (f39 _ (by omega)).trans e26
  replace e28 := (f39 _ (by omega)).trans e28
  replace e30 := (f39 _ (by omega)).trans e30
  replace e32 := (f39 _ (by omega)).trans e32
  replace e34 := (f39 _ (by omega)).trans e34
  replace e36 := (f39 _ (by omega)).trans e36
  replace e38 := (f39 _ (by omega)).trans e38
  replace fr : ∀ q, (q < 30) → h39.1 q = h.1 q := fun q hq => (f39 q (by omega)).trans (fr q hq)
  replace zz := z39.trans zz
  refine Ax_al0 dX6_init_169 ?_
  refine Ax_sp400 dX6_init_170 ?_
  refine Ax_newIz (at' := .int) (z := 49) (t := 0) zz rfl (by decide) ac_int dX6_init_173 (Nat.le_of_ble_eq_true rfl) (by omega) (by omega) (fun h40 e40 f40 z40 => ?_)
  replace u := (f40 _ (by omega)).trans u
  replace e1 := (f40 _ (by omega)).trans e1
  replace e3 := (f40 _ (by omega)).trans e3
  replace e5 := (f40 _ (by omega)).trans e5
  replace e7 := (f40 _ (by omega)).trans e7
  replace e9 := (f40 _ (by omega)).trans e9
  replace e14 := (f40 _ (by omega)).trans e14
  replace e16 := (f40 _ (by omega)).trans e16
  replace e18 := (f40 _ (by omega)).trans e18
  replace e20 := (f40 _ (by omega)).trans e20
  replace e22 := (f40 _ (by omega)).trans e22
  replace e24 := (f40 _ (by omega)).trans e24
  replace e26 := (f40 _ (by omega)).trans e26
  replace e28 := (f40 _ (by omega)).trans e28
  replace e30 := (f40 _ (by omega)).trans e30
  replace e32 := (f40 _ (by omega)).trans e32
  replace e34 := (f40 _ (by omega)).trans e34
  replace e36 := (f40 _ (by omega)).trans e36
  replace e38 := (f40 _ (by omega)).trans e38
  replace fr : ∀ q, (q < 30) → h40.1 q = h.1 q := fun q hq => (f40 q (by omega)).trans (fr q hq)
  replace zz := z40
  refine Ax_putf kfX6 fX6_76 dX6_init_175 u (Nat.le_of_ble_eq_true rfl) (Or.inr ⟨rfl, rfl⟩) (by rfl) (by rfl) (Ax_up (fun h41 e41 f41 z41 => ?_))
  replace u := e41
  replace e1 := (f41 _ (by omega)).trans e1
  replace e3 := (f41 _ (by omega)).trans e3
  replace e5 := (f41 _ (by omega)).trans e5
  replace e7 := (f41 _ (by omega)).trans e7
  replace e9 := (f41 _ (by omega)).trans e9
  replace e14 := (f41 _ (by omega)).trans e14
  replace e16 := (f41 _ (by omega)).trans e16
  replace e18 := (f41 _ (by omega)).trans e18
  replace e20 := (f41 _ (by omega)).trans e20
  replace e22 := (f41 _ (by omega)).trans e22
  replace e24 := (f41 _ (by omega)).trans e24
  replace e26 := (f41 _ (by omega)).trans e26
  replace e28 := (f41 _ (by omega)).trans e28
  replace e30 := (f41 _ (by omega)).trans e30
  replace e32 := (f41 _ (by omega)).trans e32
  replace e34 := (f41 _ (by omega)).trans e34
  replace e36 := (f41 _ (by omega)).trans e36
  replace e38 := (f41 _ (by omega)).trans e38
  replace e40 := (f41 _ (by omega)).trans e40
  replace fr : ∀ q, (q < 30) → h41.1 q = h.1 q := fun q hq => (f41 q (by omega)).trans (fr q hq)
  replace zz := z41.trans zz
  refine Ax_al0 dX6_init_178 ?_
  refine Ax_sp400 dX6_init_179 ?_
  refine Ax_newJz (z := 50) zz ac_long dX6_init_182 (Nat.le_of_ble_eq_true rfl) (by omega) (by omega) (fun h42 e42 f42 z42 => ?_)
  replace u := (f42 _ (by omega)).trans u
  replace e1 := (f42 _ (by omega)).trans e1
  replace e3 := (f42 _ (by omega)).trans e3
  replace e5 := (f42 _ (by omega)).trans e5
  replace e7 := (f42 _ (by omega)).trans e7
  replace e9 := (f42 _ (by omega)).trans e9
  replace e14 := (f42 _ (by omega)).trans e14
  replace e16 := (f42 _ (by omega)).trans e16
  replace e18 := (f42 _ (by omega)).trans e18
  replace e20 := (f42 _ (by omega)).trans e20
  replace e22 := (f42 _ (by omega)).trans e22
  replace e24 := (f42 _ (by omega)).trans e24
  replace e26 := (f42 _ (by omega)).trans e26
  replace e28 := (f42 _ (by omega)).trans e28
  replace e30 := (f42 _ (by omega)).trans e30
  replace e32 := (f42 _ (by omega)).trans e32
  replace e34 := (f42 _ (by omega)).trans e34
  replace e36 := (f42 _ (by omega)).trans e36
  replace e38 := (f42 _ (by omega)).trans e38
  replace e40 := (f42 _ (by omega)).trans e40
  replace fr : ∀ q, (q < 30) → h42.1 q = h.1 q := fun q hq => (f42 q (by omega)).trans (fr q hq)
  replace zz := z42
  refine Ax_putf kfX6 fX6_79 dX6_init_184 u (Nat.le_of_ble_eq_true rfl) (Or.inr ⟨rfl, rfl⟩) (by rfl) (by rfl) (Ax_up (fun h43 e43 f43 z43 => ?_))
  replace u := e43
  replace e1 := (f43 _ (by omega)).trans e1
  replace e3 := (f43 _ (by omega)).trans e3
  replace e5 := (f43 _ (by omega)).trans e5
  replace e7 := (f43 _ (by omega)).trans e7
  replace e9 := (f43 _ (by omega)).trans e9
  replace e14 := (f43 _ (by omega)).trans e14
  replace e16 := (f43 _ (by omega)).trans e16
  replace e18 := (f43 _ (by omega)).trans e18
  replace e20 := (f43 _ (by omega)).trans e20
  replace e22 := (f43 _ (by omega)).trans e22
  replace e24 := (f43 _ (by omega)).trans e24
  replace e26 := (f43 _ (by omega)).trans e26
  replace e28 := (f43 _ (by omega)).trans e28
  replace e30 := (f43 _ (by omega)).trans e30
  replace e32 := (f43 _ (by omega)).trans e32
  replace e34 := (f43 _ (by omega)).trans e34
  replace e36 := (f43 _ (by omega)).trans e36
  replace e38 := (f43 _ (by omega)).trans e38
  replace e40 := (f43 _ (by omega)).trans e40
  replace e42 := (f43 _ (by omega)).trans e42
  replace fr : ∀ q, (q < 30) → h43.1 q = h.1 q := fun q hq => (f43 q (by omega)).trans (fr q hq)
  replace zz := z43.trans zz
  refine Ax_al0 dX6_init_187 ?_
  refine Ax_sp400 dX6_init_188 ?_
  refine Ax_newIz (at' := .int) (z := 51) (t := 0) zz rfl (by decide) ac_int dX6_init_191 (Nat.le_of_ble_eq_true rfl) (by omega) (by omega) (fun h44 e44 f44 z44 => ?_)
  replace u := (f44 _ (by omega)).trans u
  replace e1 := (f44 _ (by omega)).trans e1
  replace e3 := (f44 _ (by omega)).trans e3
  replace e5 := (f44 _ (by omega)).trans e5
  replace e7 := (f44 _ (by omega)).trans e7
  replace e9 := (f44 _ (by omega)).trans e9
  replace e14 := (f44 _ (by omega)).trans e14
  replace e16 := (f44 _ (by omega)).trans e16
  replace e18 := (f44 _ (by omega)).trans e18
  replace e20 := (f44 _ (by omega)).trans e20
  replace e22 := (f44 _ (by omega)).trans e22
  replace e24 := (f44 _ (by omega)).trans e24
  replace e26 := (f44 _ (by omega)).trans e26
  replace e28 := (f44 _ (by omega)).trans e28
  replace e30 := (f44 _ (by omega)).trans e30
  replace e32 := (f44 _ (by omega)).trans e32
  replace e34 := (f44 _ (by omega)).trans e34
  replace e36 := (f44 _ (by omega)).trans e36
  replace e38 := (f44 _ (by omega)).trans e38
  replace e40 := (f44 _ (by omega)).trans e40
  replace e42 := (f44 _ (by omega)).trans e42
  replace fr : ∀ q, (q < 30) → h44.1 q = h.1 q := fun q hq => (f44 q (by omega)).trans (fr q hq)
  replace zz := z44
  refine Ax_putf kfX6 fX6_82 dX6_init_193 u (Nat.le_of_ble_eq_true rfl) (Or.inr ⟨rfl, rfl⟩) (by rfl) (by rfl) (Ax_up (fun h45 e45 f45 z45 => ?_))
  replace u := e45
  replace e1 := (f45 _ (by omega)).trans e1
  replace e3 := (f45 _ (by omega)).trans e3
  replace e5 := (f45 _ (by omega)).trans e5
  replace e7 := (f45 _ (by omega)).trans e7
  replace e9 := (f45 _ (by omega)).trans e9
  replace e14 := (f45 _ (by omega)).trans e14
  replace e16 := (f45 _ (by omega)).trans e16
  replace e18 := (f45 _ (by omega)).trans e18
  replace e20 := (f45 _ (by omega)).trans e20
  replace e22 := (f45 _ (by omega)).trans e22
  replace e24 := (f45 _ (by omega)).trans e24
  replace e26 := (f45 _ (by omega)).trans e26
  replace e28 := (f45 _ (by omega)).trans e28
  replace e30 := (f45 _ (by omega)).trans e30
  replace e32 := (f45 _ (by omega)).trans e32
  replace e34 := (f45 _ (by omega)).trans e34
  replace e36 := (f45 _ (by omega)).trans e36
  replace e38 := (f45 _ (by omega)).trans e38
  replace e40 := (f45 _ (by omega)).trans e40
  replace e42 := (f45 _ (by omega)).trans e42
  replace e44 := (f45 _ (by omega)).trans e44
  replace fr : ∀ q, (q < 30) → h45.1 q = h.1 q := fun q hq => (f45 q (by omega)).trans (fr q hq)
  replace zz := z45.trans zz
  refine Ax_al0 dX6_init_196 ?_
  refine Ax_bp100 dX6_init_197 ?_
  refine Ax_newIz (at' := .int) (z := 52) (t := 0) zz rfl (by decide) ac_int dX6_init_199 (Nat.le_of_ble_eq_true rfl) (by omega) (by omega) (fun h46 e46 f46 z46 => ?_)
  replace u := (f46 _ (by omega)).trans u
  replace e1 := (f46 _ (by omega)).trans e1
  replace e3 := (f46 _ (by omega)).trans e3
  replace e5 := (f46 _ (by omega)).trans e5
  replace e7 := (f46 _ (by omega)).trans e7
  replace e9 := (f46 _ (by omega)).trans e9
  replace e14 := (f46 _ (by omega)).trans e14
  replace e16 := (f46 _ (by omega)).trans e16
  replace e18 := (f46 _ (by omega)).trans e18
  replace e20 := (f46 _ (by omega)).trans e20
  replace e22 := (f46 _ (by omega)).trans e22
  replace e24 := (f46 _ (by omega)).trans e24
  replace e26 := (f46 _ (by omega)).trans e26
  replace e28 := (f46 _ (by omega)).trans e28
  replace e30 := (f46 _ (by omega)).trans e30
  replace e32 := (f46 _ (by omega)).trans e32
  replace e34 := (f46 _ (by omega)).trans e34
  replace e36 := (f46 _ (by omega)).trans e36
  replace e38 := (f46 _ (by omega)).trans e38
  replace e40 := (f46 _ (by omega)).trans e40
  replace e42 := (f46 _ (by omega)).trans e42
  replace e44 := (f46 _ (by omega)).trans e44
  replace fr : ∀ q, (q < 30) → h46.1 q = h.1 q := fun q hq => (f46 q (by omega)).trans (fr q hq)
  replace zz := z46
  refine Ax_putf kfX6 fX6_85 dX6_init_201 u (Nat.le_of_ble_eq_true rfl) (Or.inr ⟨rfl, rfl⟩) (by rfl) (by rfl) (Ax_up (fun h47 e47 f47 z47 => ?_))
  replace u := e47
  replace e1 := (f47 _ (by omega)).trans e1
  replace e3 := (f47 _ (by omega)).trans e3
  replace e5 := (f47 _ (by omega)).trans e5
  replace e7 := (f47 _ (by omega)).trans e7
  replace e9 := (f47 _ (by omega)).trans e9
  replace e14 := (f47 _ (by omega)).trans e14
  replace e16 := (f47 _ (by omega)).trans e16
  replace e18 := (f47 _ (by omega)).trans e18
  replace e20 := (f47 _ (by omega)).trans e20
  replace e22 := (f47 _ (by omega)).trans e22
  replace e24 := (f47 _ (by omega)).trans e24
  replace e26 := (f47 _ (by omega)).trans e26
  replace e28 := (f47 _ (by omega)).trans e28
  replace e30 := (f47 _ (by omega)).trans e30
  replace e32 := (f47 _ (by omega)).trans e32
  replace e34 := (f47 _ (by omega)).trans e34
  replace e36 := (f47 _ (by omega)).trans e36
  replace e38 := (f47 _ (by omega)).trans e38
  replace e40 := (f47 _ (by omega)).trans e40
  replace e42 := (f47 _ (by omega)).trans e42
  replace e44 := (f47 _ (by omega)).trans e44
  replace e46 := (f47 _ (by omega)).trans e46
  replace fr : ∀ q, (q < 30) → h47.1 q = h.1 q := fun q hq => (f47 q (by omega)).trans (fr q hq)
  replace zz := z47.trans zz
  refine Ax_al0 dX6_init_204 ?_
  refine Ax_bp100 dX6_init_205 ?_
  refine Ax_newIz (at' := .int) (z := 53) (t := 0) zz rfl (by decide) ac_int dX6_init_207 (Nat.le_of_ble_eq_true rfl) (by omega) (by omega) (fun h48 e48 f48 z48 => ?_)
  replace u := (f48 _ (by omega)).trans u
  replace e1 := (f48 _ (by omega)).trans e1
  replace e3 := (f48 _ (by omega)).trans e3
  replace e5 := (f48 _ (by omega)).trans e5
  replace e7 := (f48 _ (by omega)).trans e7
  replace e9 := (f48 _ (by omega)).trans e9
  replace e14 := (f48 _ (by omega)).trans e14
  replace e16 := (f48 _ (by omega)).trans e16
  replace e18 := (f48 _ (by omega)).trans e18
  replace e20 := (f48 _ (by omega)).trans e20
  replace e22 := (f48 _ (by omega)).trans e22
  replace e24 := (f48 _ (by omega)).trans e24
  replace e26 := (f48 _ (by omega)).trans e26
  replace e28 := (f48 _ (by omega)).trans e28
  replace e30 := (f48 _ (by omega)).trans e30
  replace e32 := (f48 _ (by omega)).trans e32
  replace e34 := (f48 _ (by omega)).trans e34
  replace e36 := (f48 _ (by omega)).trans e36
  replace e38 := (f48 _ (by omega)).trans e38
  replace e40 := (f48 _ (by omega)).trans e40
  replace e42 := (f48 _ (by omega)).trans e42
  replace e44 := (f48 _ (by omega)).trans e44
  replace e46 := (f48 _ (by omega)).trans e46
  replace fr : ∀ q, (q < 30) → h48.1 q = h.1 q := fun q hq => (f48 q (by omega)).trans (fr q hq)
  replace zz := z48
  refine Ax_putf kfX6 fX6_88 dX6_init_209 u (Nat.le_of_ble_eq_true rfl) (Or.inr ⟨rfl, rfl⟩) (by rfl) (by rfl) (Ax_up (fun h49 e49 f49 z49 => ?_))
  replace u := e49
  replace e1 := (f49 _ (by omega)).trans e1
  replace e3 := (f49 _ (by omega)).trans e3
  replace e5 := (f49 _ (by omega)).trans e5
  replace e7 := (f49 _ (by omega)).trans e7
  replace e9 := (f49 _ (by omega)).trans e9
  replace e14 := (f49 _ (by omega)).trans e14
  replace e16 := (f49 _ (by omega)).trans e16
  replace e18 := (f49 _ (by omega)).trans e18
  replace e20 := (f49 _ (by omega)).trans e20
  replace e22 := (f49 _ (by omega)).trans e22
  replace e24 := (f49 _ (by omega)).trans e24
  replace e26 := (f49 _ (by omega)).trans e26
  replace e28 := (f49 _ (by omega)).trans e28
  replace e30 := (f49 _ (by omega)).trans e30
  replace e32 := (f49 _ (by omega)).trans e32
  replace e34 := (f49 _ (by omega)).trans e34
  replace e36 := (f49 _ (by omega)).trans e36
  replace e38 := (f49 _ (by omega)).trans e38
  replace e40 := (f49 _ (by omega)).trans e40
  replace e42 := (f49 _ (by omega)).trans e42
  replace e44 := (f49 _ (by omega)).trans e44
  replace e46 := (f49 _ (by omega)).trans e46
  replace e48 := (f49 _ (by omega)).trans e48
  replace fr : ∀ q, (q < 30) → h49.1 q = h.1 q := fun q hq => (f49 q (by omega)).trans (fr q hq)
  replace zz := z49.trans zz
  refine Ax_al0 dX6_init_212 ?_
  refine Ax_bp100 dX6_init_213 ?_
  refine Ax_newIz (at' := .int) (z := 54) (t := 0) zz rfl (by decide) ac_int dX6_init_215 (Nat.le_of_ble_eq_true rfl) (by omega) (by omega) (fun h50 e50 f50 z50 => ?_)
  replace u := (f50 _ (by omega)).trans u
  replace e1 := (f50 _ (by omega)).trans e1
  replace e3 := (f50 _ (by omega)).trans e3
  replace e5 := (f50 _ (by omega)).trans e5
  replace e7 := (f50 _ (by omega)).trans e7
  replace e9 := (f50 _ (by omega)).trans e9
  replace e14 := (f50 _ (by omega)).trans e14
  replace e16 := (f50 _ (by omega)).trans e16
  replace e18 := (f50 _ (by omega)).trans e18
  replace e20 := (f50 _ (by omega)).trans e20
  replace e22 := (f50 _ (by omega)).trans e22
  replace e24 := (f50 _ (by omega)).trans e24
  replace e26 := (f50 _ (by omega)).trans e26
  replace e28 := (f50 _ (by omega)).trans e28
  replace e30 := (f50 _ (by omega)).trans e30
  replace e32 := (f50 _ (by omega)).trans e32
  replace e34 := (f50 _ (by omega)).trans e34
  replace e36 := (f50 _ (by omega)).trans e36
  replace e38 := (f50 _ (by omega)).trans e38
  replace e40 := (f50 _ (by omega)).trans e40
  replace e42 := (f50 _ (by omega)).trans e42
  replace e44 := (f50 _ (by omega)).trans e44
  replace e46 := (f50 _ (by omega)).trans e46
  replace e48 := (f50 _ (by omega)).trans e48
  replace fr : ∀ q, (q < 30) → h50.1 q = h.1 q := fun q hq => (f50 q (by omega)).trans (fr q hq)
  replace zz := z50
  refine Ax_putf kfX6 fX6_91 dX6_init_217 u (Nat.le_of_ble_eq_true rfl) (Or.inr ⟨rfl, rfl⟩) (by rfl) (by rfl) (Ax_up (fun h51 e51 f51 z51 => ?_))
  replace u := e51
  replace e1 := (f51 _ (by omega)).trans e1
  replace e3 := (f51 _ (by omega)).trans e3
  replace e5 := (f51 _ (by omega)).trans e5
  replace e7 := (f51 _ (by omega)).trans e7
  replace e9 := (f51 _ (by omega)).trans e9
  replace e14 := (f51 _ (by omega)).trans e14
  replace e16 := (f51 _ (by omega)).trans e16
  replace e18 := (f51 _ (by omega)).trans e18
  replace e20 := (f51 _ (by omega)).trans e20
  replace e22 := (f51 _ (by omega)).trans e22
  replace e24 := (f51 _ (by omega)).trans e24
  replace e26 := (f51 _ (by omega)).trans e26
  replace e28 := (f51 _ (by omega)).trans e28
  replace e30 := (f51 _ (by omega)).trans e30
  replace e32 := (f51 _ (by omega)).trans e32
  replace e34 := (f51 _ (by omega)).trans e34
  replace e36 := (f51 _ (by omega)).trans e36
  replace e38 := (f51 _ (by omega)).trans e38
  replace e40 := (f51 _ (by omega)).trans e40
  replace e42 := (f51 _ (by omega)).trans e42
  replace e44 := (f51 _ (by omega)).trans e44
  replace e46 := (f51 _ (by omega)).trans e46
  replace e48 := (f51 _ (by omega)).trans e48
  replace e50 := (f51 _ (by omega)).trans e50
  replace fr : ∀ q, (q < 30) → h51.1 q = h.1 q := fun q hq => (f51 q (by omega)).trans (fr q hq)
  replace zz := z51.trans zz
  refine Ax_al0 dX6_init_220 ?_
  refine Ax_bp100 dX6_init_221 ?_
  refine Ax_newJz (z := 55) zz ac_long dX6_init_223 (Nat.le_of_ble_eq_true rfl) (by omega) (by omega) (fun h52 e52 f52 z52 => ?_)
  replace u := (f52 _ (by omega)).trans u
  replace e1 := (f52 _ (by omega)).trans e1
  replace e3 := (f52 _ (by omega)).trans e3
  replace e5 := (f52 _ (by omega)).trans e5
  replace e7 := (f52 _ (by omega)).trans e7
  replace e9 := (f52 _ (by omega)).trans e9
  replace e14 := (f52 _ (by omega)).trans e14
  replace e16 := (f52 _ (by omega)).trans e16
  replace e18 := (f52 _ (by omega)).trans e18
  replace e20 := (f52 _ (by omega)).trans e20
  replace e22 := (f52 _ (by omega)).trans e22
  replace e24 := (f52 _ (by omega)).trans e24
  replace e26 := (f52 _ (by omega)).trans e26
  replace e28 := (f52 _ (by omega)).trans e28
  replace e30 := (f52 _ (by omega)).trans e30
  replace e32 := (f52 _ (by omega)).trans e32
  replace e34 := (f52 _ (by omega)).trans e34
  replace e36 := (f52 _ (by omega)).trans e36
  replace e38 := (f52 _ (by omega)).trans e38
  replace e40 := (f52 _ (by omega)).trans e40
  replace e42 := (f52 _ (by omega)).trans e42
  replace e44 := (f52 _ (by omega)).trans e44
  replace e46 := (f52 _ (by omega)).trans e46
  replace e48 := (f52 _ (by omega)).trans e48
  replace e50 := (f52 _ (by omega)).trans e50
  replace fr : ∀ q, (q < 30) → h52.1 q = h.1 q := fun q hq => (f52 q (by omega)).trans (fr q hq)
  replace zz := z52
  refine Ax_putf kfX6 fX6_94 dX6_init_225 u (Nat.le_of_ble_eq_true rfl) (Or.inr ⟨rfl, rfl⟩) (by rfl) (by rfl) (Ax_up (fun h53 e53 f53 z53 => ?_))
  replace u := e53
  replace e1 := (f53 _ (by omega)).trans e1
  replace e3 := (f53 _ (by omega)).trans e3
  replace e5 := (f53 _ (by omega)).trans e5
  replace e7 := (f53 _ (by omega)).trans e7
  replace e9 := (f53 _ (by omega)).trans e9
  replace e14 := (f53 _ (by omega)).trans e14
  replace e16 := (f53 _ (by omega)).trans e16
  replace e18 := (f53 _ (by omega)).trans e18
  replace e20 := (f53 _ (by omega)).trans e20
  replace e22 := (f53 _ (by omega)).trans e22
  replace e24 := (f53 _ (by omega)).trans e24
  replace e26 := (f53 _ (by omega)).trans e26
  replace e28 := (f53 _ (by omega)).trans e28
  replace e30 := (f53 _ (by omega)).trans e30
  replace e32 := (f53 _ (by omega)).trans e32
  replace e34 := (f53 _ (by omega)).trans e34
  replace e36 := (f53 _ (by omega)).trans e36
  replace e38 := (f53 _ (by omega)).trans e38
  replace e40 := (f53 _ (by omega)).trans e40
  replace e42 := (f53 _ (by omega)).trans e42
  replace e44 := (f53 _ (by omega)).trans e44
  replace e46 := (f53 _ (by omega)).trans e46
  replace e48 := (f53 _ (by omega)).trans e48
  replace e50 := (f53 _ (by omega)).trans e50
  replace e52 := (f53 _ (by omega)).trans e52
  replace fr : ∀ q, (q < 30) → h53.1 q = h.1 q := fun q hq => (f53 q (by omega)).trans (fr q hq)
  replace zz := z53.trans zz
  refine Ax_al0 dX6_init_228 ?_
  refine Ax_bp100 dX6_init_229 ?_
  refine Ax_newJz (z := 56) zz ac_long dX6_init_231 (Nat.le_of_ble_eq_true rfl) (by omega) (by omega) (fun h54 e54 f54 z54 => ?_)
  replace u := (f54 _ (by omega)).trans u
  replace e1 := (f54 _ (by omega)).trans e1
  replace e3 := (f54 _ (by omega)).trans e3
  replace e5 := (f54 _ (by omega)).trans e5
  replace e7 := (f54 _ (by omega)).trans e7
  replace e9 := (f54 _ (by omega)).trans e9
  replace e14 := (f54 _ (by omega)).trans e14
  replace e16 := (f54 _ (by omega)).trans e16
  replace e18 := (f54 _ (by omega)).trans e18
  replace e20 := (f54 _ (by omega)).trans e20
  replace e22 := (f54 _ (by omega)).trans e22
  replace e24 := (f54 _ (by omega)).trans e24
  replace e26 := (f54 _ (by omega)).trans e26
  replace e28 := (f54 _ (by omega)).trans e28
  replace e30 := (f54 _ (by omega)).trans e30
  replace e32 := (f54 _ (by omega)).trans e32
  replace e34 := (f54 _ (by omega)).trans e34
  replace e36 := (f54 _ (by omega)).trans e36
  replace e38 := (f54 _ (by omega)).trans e38
  replace e40 := (f54 _ (by omega)).trans e40
  replace e42 := (f54 _ (by omega)).trans e42
  replace e44 := (f54 _ (by omega)).trans e44
  replace e46 := (f54 _ (by omega)).trans e46
  replace e48 := (f54 _ (by omega)).trans e48
  replace e50 := (f54 _ (by omega)).trans e50
  replace e52 := (f54 _ (by omega)).trans e52
  replace fr : ∀ q, (q < 30) → h54.1 q = h.1 q := fun q hq => (f54 q (by omega)).trans (fr q hq)
  replace zz := z54
  refine Ax_putf kfX6 fX6_97 dX6_init_233 u (Nat.le_of_ble_eq_true rfl) (Or.inr ⟨rfl, rfl⟩) (by rfl) (by rfl) (Ax_up (fun h55 e55 f55 z55 => ?_))
  replace u := e55
  replace e1 := (f55 _ (by omega)).trans e1
  replace e3 := (f55 _ (by omega)).trans e3
  replace e5 := (f55 _ (by omega)).trans e5
  replace e7 := (f55 _ (by omega)).trans e7
  replace e9 := (f55 _ (by omega)).trans e9
  replace e14 := (f55 _ (by omega)).trans e14
  replace e16 := (f55 _ (by omega)).trans e16
  replace e18 := (f55 _ (by omega)).trans e18
  replace e20 := (f55 _ (by omega)).trans e20
  replace e22 := (f55 _ (by omega)).trans e22
  replace e24 := (f55 _ (by omega)).trans e24
  replace e26 := (f55 _ (by omega)).trans e26
  replace e28 := (f55 _ (by omega)).trans e28
  replace e30 := (f55 _ (by omega)).trans e30
  replace e32 := (f55 _ (by omega)).trans e32
  replace e34 := (f55 _ (by omega)).trans e34
  replace e36 := (f55 _ (by omega)).trans e36
  replace e38 := (f55 _ (by omega)).trans e38
  replace e40 := (f55 _ (by omega)).trans e40
  replace e42 := (f55 _ (by omega)).trans e42
  replace e44 := (f55 _ (by omega)).trans e44
  replace e46 := (f55 _ (by omega)).trans e46
  replace e48 := (f55 _ (by omega)).trans e48
  replace e50 := (f55 _ (by omega)).trans e50
  replace e52 := (f55 _ (by omega)).trans e52
  replace e54 := (f55 _ (by omega)).trans e54
  replace fr : ∀ q, (q < 30) → h55.1 q = h.1 q := fun q hq => (f55 q (by omega)).trans (fr q hq)
  replace zz := z55.trans zz
  refine Ax_al0 dX6_init_236 ?_
  refine Ax_bp100 dX6_init_237 ?_
  refine Ax_newIz (at' := .int) (z := 57) (t := 0) zz rfl (by decide) ac_int dX6_init_239 (Nat.le_of_ble_eq_true rfl) (by omega) (by omega) (fun h56 e56 f56 z56 => ?_)
  replace u := (f56 _ (by omega)).trans u
  replace e1 := (f56 _ (by omega)).trans e1
  replace e3 := (f56 _ (by omega)).trans e3
  replace e5 := (f56 _ (by omega)).trans e5
  replace e7 := (f56 _ (by omega)).trans e7
  replace e9 := (f56 _ (by omega)).trans e9
  replace e14 := (f56 _ (by omega)).trans e14
  replace e16 := (f56 _ (by omega)).trans e16
  replace e18 := (f56 _ (by omega)).trans e18
  replace e20 := (f56 _ (by omega)).trans e20
  replace e22 := (f56 _ (by omega)).trans e22
  replace e24 := (f56 _ (by omega)).trans e24
  replace e26 := (f56 _ (by omega)).trans e26
  replace e28 := (f56 _ (by omega)).trans e28
  replace e30 := (f56 _ (by omega)).trans e30
  replace e32 := (f56 _ (by omega)).trans e32
  replace e34 := (f56 _ (by omega)).trans e34
  replace e36 := (f56 _ (by omega)).trans e36
  replace e38 := (f56 _ (by omega)).trans e38
  replace e40 := (f56 _ (by omega)).trans e40
  replace e42 := (f56 _ (by omega)).trans e42
  replace e44 := (f56 _ (by omega)).trans e44
  replace e46 := (f56 _ (by omega)).trans e46
  replace e48 := (f56 _ (by omega)).trans e48
  replace e50 := (f56 _ (by omega)).trans e50
  replace e52 := (f56 _ (by omega)).trans e52
  replace e54 := (f56 _ (by omega)).trans e54
  replace fr : ∀ q, (q < 30) → h56.1 q = h.1 q := fun q hq => (f56 q (by omega)).trans (fr q hq)
  replace zz := z56
  refine Ax_putf kfX6 fX6_100 dX6_init_241 u (Nat.le_of_ble_eq_true rfl) (Or.inr ⟨rfl, rfl⟩) (by rfl) (by rfl) (Ax_up (fun h57 e57 f57 z57 => ?_))
  replace u := e57
  replace e1 := (f57 _ (by omega)).trans e1
  replace e3 := (f57 _ (by omega)).trans e3
  replace e5 := (f57 _ (by omega)).trans e5
  replace e7 := (f57 _ (by omega)).trans e7
  replace e9 := (f57 _ (by omega)).trans e9
  replace e14 := (f57 _ (by omega)).trans e14
  replace e16 := (f57 _ (by omega)).trans e16
  replace e18 := (f57 _ (by omega)).trans e18
  replace e20 := (f57 _ (by omega)).trans e20
  replace e22 := (f57 _ (by omega)).trans e22
  replace e24 := (f57 _ (by omega)).trans e24
  replace e26 := (f57 _ (by omega)).trans e26
  replace e28 := (f57 _ (by omega)).trans e28
  replace e30 := (f57 _ (by omega)).trans e30
  replace e32 := (f57 _ (by omega)).trans e32
  replace e34 := (f57 _ (by omega)).trans e34
  replace e36 := (f57 _ (by omega)).trans e36
  replace e38 := (f57 _ (by omega)).trans e38
  replace e40 := (f57 _ (by omega)).trans e40
  replace e42 := (f57 _ (by omega)).trans e42
  replace e44 := (f57 _ (by omega)).trans e44
  replace e46 := (f57 _ (by omega)).trans e46
  replace e48 := (f57 _ (by omega)).trans e48
  replace e50 := (f57 _ (by omega)).trans e50
  replace e52 := (f57 _ (by omega)).trans e52
  replace e54 := (f57 _ (by omega)).trans e54
  replace e56 := (f57 _ (by omega)).trans e56
  replace fr : ∀ q, (q < 30) → h57.1 q = h.1 q := fun q hq => (f57 q (by omega)).trans (fr q hq)
  replace zz := z57.trans zz
  refine Ax_al0 dX6_init_244 ?_
  refine Ax_ldc dX6_init_245 cX6_103 ?_
  refine Ax_top (show (40000 : Int32) = nI 40000 from rfl) ?_
  refine Ax_newIz (at' := .byte) (z := 58) (t := 1) zz rfl (by decide) ac_byte dX6_init_247 (Nat.le_of_ble_eq_true rfl) (by omega) (by omega) (fun h58 e58 f58 z58 => ?_)
  replace u := (f58 _ (by omega)).trans u
  replace e1 := (f58 _ (by omega)).trans e1
  replace e3 := (f58 _ (by omega)).trans e3
  replace e5 := (f58 _ (by omega)).trans e5
  replace e7 := (f58 _ (by omega)).trans e7
  replace e9 := (f58 _ (by omega)).trans e9
  replace e14 := (f58 _ (by omega)).trans e14
  replace e16 := (f58 _ (by omega)).trans e16
  replace e18 := (f58 _ (by omega)).trans e18
  replace e20 := (f58 _ (by omega)).trans e20
  replace e22 := (f58 _ (by omega)).trans e22
  replace e24 := (f58 _ (by omega)).trans e24
  replace e26 := (f58 _ (by omega)).trans e26
  replace e28 := (f58 _ (by omega)).trans e28
  replace e30 := (f58 _ (by omega)).trans e30
  replace e32 := (f58 _ (by omega)).trans e32
  replace e34 := (f58 _ (by omega)).trans e34
  replace e36 := (f58 _ (by omega)).trans e36
  replace e38 := (f58 _ (by omega)).trans e38
  replace e40 := (f58 _ (by omega)).trans e40
  replace e42 := (f58 _ (by omega)).trans e42
  replace e44 := (f58 _ (by omega)).trans e44
  replace e46 := (f58 _ (by omega)).trans e46
  replace e48 := (f58 _ (by omega)).trans e48
  replace e50 := (f58 _ (by omega)).trans e50
  replace e52 := (f58 _ (by omega)).trans e52
  replace e54 := (f58 _ (by omega)).trans e54
  replace e56 := (f58 _ (by omega)).trans e56
  replace fr : ∀ q, (q < 30) → h58.1 q = h.1 q := fun q hq => (f58 q (by omega)).trans (fr q hq)
  replace zz := z58
  refine Ax_putf kfX6 fX6_104 dX6_init_249 u (Nat.le_of_ble_eq_true rfl) (Or.inr ⟨rfl, rfl⟩) (by rfl) (by rfl) (Ax_up (fun h59 e59 f59 z59 => ?_))
  replace u := e59
  replace e1 := (f59 _ (by omega)).trans e1
  replace e3 := (f59 _ (by omega)).trans e3
  replace e5 := (f59 _ (by omega)).trans e5
  replace e7 := (f59 _ (by omega)).trans e7
  replace e9 := (f59 _ (by omega)).trans e9
  replace e14 := (f59 _ (by omega)).trans e14
  replace e16 := (f59 _ (by omega)).trans e16
  replace e18 := (f59 _ (by omega)).trans e18
  replace e20 := (f59 _ (by omega)).trans e20
  replace e22 := (f59 _ (by omega)).trans e22
  replace e24 := (f59 _ (by omega)).trans e24
  replace e26 := (f59 _ (by omega)).trans e26
  replace e28 := (f59 _ (by omega)).trans e28
  replace e30 := (f59 _ (by omega)).trans e30
  replace e32 := (f59 _ (by omega)).trans e32
  replace e34 := (f59 _ (by omega)).trans e34
  replace e36 := (f59 _ (by omega)).trans e36
  replace e38 := (f59 _ (by omega)).trans e38
  replace e40 := (f59 _ (by omega)).trans e40
  replace e42 := (f59 _ (by omega)).trans e42
  replace e44 := (f59 _ (by omega)).trans e44
  replace e46 := (f59 _ (by omega)).trans e46
  replace e48 := (f59 _ (by omega)).trans e48
  replace e50 := (f59 _ (by omega)).trans e50
  replace e52 := (f59 _ (by omega)).trans e52
  replace e54 := (f59 _ (by omega)).trans e54
  replace e56 := (f59 _ (by omega)).trans e56
  replace e58 := (f59 _ (by omega)).trans e58
  replace fr : ∀ q, (q < 30) → h59.1 q = h.1 q := fun q hq => (f59 q (by omega)).trans (fr q hq)
  replace zz := z59.trans zz
  refine Ax_ret dX6_init_252 rfl ⟨rfl, ⟨⟨_, _, _, _, _, u⟩, ⟨_, _, _, _, _, e1, e3, e5, e7, e9, fun k hk => ⟨rfl, fun c hc => by cases hc⟩⟩,
    ⟨⟨_, _, _, _, e14, e16, e18, e20⟩, ⟨_, _, _, _, e22, e24, e26, e28⟩, ⟨_, _, e30, e32⟩, ⟨_, _, _, _, _, _, e34, e36, e38, e40, e42, e44⟩, ⟨_, _, _, _, _, _, e46, e48, e50, e52, e54, e56⟩⟩,
    ⟨_, e58, fun k hk => absurd hk (Nat.not_lt_zero _), Nat.zero_le _⟩⟩, fr, zz⟩
end
