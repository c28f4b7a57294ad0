/-! ChoiceCode: print, out -/
def outS (bs : List Nat) (i : Int32) : Int32 := if gIn bs.length i = true then nI (bs.getD i.toNatClampNeg 0) else -1
noncomputable def txT (C : Cs) (rt dn sz wy : Nat) : List Nat := prL (runsOf C rt) dn sz rt (cLn C rt dn sz wy) 0 (cLn C rt dn sz wy).length
/-- what the calls of ChoiceCode leave as it is -/
def xF5 (h h' : xH) : Prop := (∀ q, 30 ≤ q → q < 59 → h'.1 q = h.1 q) ∧ h.2 ≤ h'.2
theorem xFr.f5 {h h' : xH} (a : xFr 0 28 h h') : xF5 h h' := ⟨fun q h1 h2 => a.1 q (by omega), by rw [a.2]; exact Nat.le_refl _⟩
theorem xFt.f5 {h h' : xH} (a : xFt h h') : xF5 h h' := ⟨fun q h1 h2 => a.1 q (Or.inr (Or.inl ⟨h1, h2⟩)), a.2⟩
theorem xF5.rf {h : xH} : xF5 h h := ⟨fun _ _ _ => rfl, Nat.le_refl _⟩
theorem xF5.tr {h h1 h2 : xH} (a : xF5 h h1) (b : xF5 h1 h2) : xF5 h h2 := ⟨fun q g1 g2 => (b.1 q g1 g2).trans (a.1 q g1 g2), Nat.le_trans a.2 b.2⟩
section
variable {G : xG} {h : xH} {C : Cs} {rt rw dn sz wy stale cap : Nat} {cl' : Int32} {bs : List Nat}
theorem vDone.ft {h' : xH} (hD : vDone h C rt dn sz wy) (hF : xFt h h') : vDone h' C rt dn sz wy := by
  have h2 := hD.fr (h' := (h'.1, h.2)) (o' := 28) (w := 2000000) ⟨fun q hq => hF.1 q (by omega), rfl⟩ (Or.inr (Nat.le_refl _))
  obtain ⟨⟨lo, hi, tg, wt, a1, a2⟩, ⟨kn, fi, la, we, fw, en, b1, b2⟩, ⟨cos, sps, c1, c2⟩, tg', dn', kn', fi', se, rw', st, nu, d1, d2⟩ := h2
  exact ⟨⟨lo, hi, tg, wt, a1, a2⟩, ⟨kn, fi, la, we, fw, en, b1, b2⟩, ⟨cos, sps, c1, c2⟩, tg', dn', kn', fi', se, rw', st, nu, d1, d2⟩
theorem vX5.ft {h' : xH} {bs' : List Nat} {cap' : Nat} (hS : vX5 h C rt rw dn sz wy cl' 0 bs cap) (hF : xFt h h') (hT : vTx h' bs' cap') : vX5 h' C rt rw dn sz wy cl' 0 bs' cap' := by
  have hD := hS.done.ft hF
  obtain ⟨u, ⟨lo, hi, tg, wt, a1, a2⟩, -, -⟩ := hS
  have a3 := a1.fr (h' := (h'.1, h.2)) (o' := 28) (w := 2000000) ⟨fun q hq => hF.1 q (by omega), rfl⟩ (Or.inl (by omega))
  exact ⟨(hF.1 0 (by omega)).trans u, ⟨lo, hi, tg, wt, a3, a2⟩, hT, Or.inr ⟨rfl, hD⟩⟩
theorem txT_len (hO : sOk C rt rw dn sz wy) : (txT C rt dn sz wy).length ≤ 20000 := by
  obtain ⟨o0, o1, o2, o3, o4, o5, o6, o7⟩ := hO
  obtain ⟨i1, i2, i3⟩ := runs_inv o0 rt
  exact code_plen i2 i1 o1 o6
theorem tX5_print (hS : vX5 h C rt rw dn sz wy cl' stale bs cap) (hO : sOk C rt rw dn sz wy) : AM G mX5_print 30 (pay cap ([] : List Nat).length (txT C rt dn sz wy).length) [.ref 0] h
    (fun q h' => q = some (.int (nI (txT C rt dn sz wy).length)) ∧ vX5 h' C rt rw dn sz wy cl' 0 (txT C rt dn sz wy) (capN cap 0 (txT C rt dn sz wy).length) ∧ xF5 h h') := by
  have hlen := txT_len hO
  obtain ⟨b1, b2, b3, b4⟩ := hO.bd
  have u := hS.1
  refine AM.of rfl rfl (Nat.le_of_ble_eq_true rfl) rfl ?_
  refine Ax_al0 dX5_print_0 ?_
  refine Ax_cVv dX5_print_1 vX5_112 kfX5 u (tX5_workOut (G := G) hS hO) rfl rfl (by decide) (by simp [Value.category]) (by omega) (fun h11 q11 => ?_)
  obtain ⟨hS1, hF1⟩ := q11
  have u1 := hS1.1
  have hT1 := hS1.2.2.1
  obtain ⟨ba, f, t1, -⟩ := hT1.ob
  refine Ax_al0 dX5_print_4 ?_
  refine Ax_getf kfX5 fX5_49 dX5_print_5 u1 rfl ?_
  refine Ax_cVv dX5_print_8 vX5_189 kfX3 t1 (tX3_clear (G := G) hT1) rfl rfl (by decide) (by simp [Value.category]) (by omega) (fun h12 q12 => ?_)
  obtain ⟨hT2, hF2⟩ := q12
  have hS2 := hS1.ft hF2 hT2
  have u2 := hS2.1
  obtain ⟨-, -, -, tg, dn', hV⟩ := hS2.done
  obtain ⟨ba2, f2, t2, -⟩ := hT2.ob
  have c2 := hV.ob
  refine Ax_al0 dX5_print_11 ?_
  refine Ax_getf kfX5 fX5_42 dX5_print_12 u2 rfl ?_
  refine Ax_al0 dX5_print_15 ?_
  refine Ax_getf kfX5 fX5_49 dX5_print_16 u2 rfl ?_
  refine Ax_cVv dX5_print_19 vX5_192 kfX1 c2 (tX1_printTo (G := G) (by omega) b2 b4 hV hT2 (by have := hlen; unfold txT at this; simp only [List.length_nil]; omega)) rfl rfl (by decide) (by simp [Value.category]) (Nat.le_refl _) (fun h13 q13 => ?_)
  obtain ⟨hT3, hF3⟩ := q13
  have hS3 := hS2.ft hF3 hT3
  have u3 := hS3.1
  obtain ⟨ba3, f3, t3, -⟩ := hT3.ob
  refine Ax_al0 dX5_print_22 ?_
  refine Ax_getf kfX5 fX5_49 dX5_print_23 u3 rfl ?_
  refine Ax_cVi dX5_print_26 vX5_127 kfX3 t3 (tX3_length hT3) rfl rfl (by decide) (by simp [Value.category]) ?_
  exact Ax_iret dX5_print_29 rfl rfl ⟨rfl, hS3, (hF1.f5.tr hF2.f5).tr hF3.f5⟩
theorem tX5_out (hS : vX5 h C rt rw dn sz wy cl' stale bs cap) (i : Int32) : AM G mX5_out 1 0 [.ref 0, .int i] h (fun q h' => q = some (.int (outS bs i)) ∧ h' = h) := by
  have u := hS.1
  obtain ⟨ba, f, t, -⟩ := hS.2.2.1.ob
  refine AM.of rfl rfl (Nat.le_of_ble_eq_true rfl) rfl ?_
  refine Ax_al0 dX5_out_0 ?_
  refine Ax_getf kfX5 fX5_49 dX5_out_1 u rfl ?_
  refine Ax_il1 dX5_out_4 ?_
  refine Ax_cVi dX5_out_5 vX5_196 kfX3 t (tX3_byteAt (G := G) hS.2.2.1 i) rfl rfl (by decide) (by simp [Value.category]) ?_
  exact Ax_iret dX5_out_8 rfl rfl ⟨rfl, rfl⟩
end
