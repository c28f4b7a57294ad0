/-! ChoiceCode: its whole state, workOut -/
def cntF (C : Cs) : Nat → Nat
  | 0 => 0
  | n + 1 => cntF C n + (C n).isSome.toNat
def sOk (C : Cs) (rt rw dn sz wy : Nat) : Prop := cOk C ∧ rt < 16 ∧ rw ≤ 1000 ∧ 1 ≤ dn ∧ dn ≤ 100 ∧ 1 ≤ sz ∧ sz ≤ 256 ∧ wy < 2
noncomputable section
def cLn (C : Cs) (rt dn sz wy : Nat) : List Ln := codeOf (runsOf C rt) dn sz wy rt
def vDone (h : xH) (C : Cs) (rt dn sz wy : Nat) : Prop := vRuns h 6 (runsOf C rt) ∧ vCls h 11 6 (runsOf C rt) dn sz ∧ vTree h 18 11 (runsOf C rt) dn sz wy ∧ ∃ tg dn', vC h (runsOf C rt) dn sz rt (cLn C rt dn sz wy) tg dn'
def vRaw (h : xH) : Prop := (∃ lo hi tg wt n, vSp h 6 lo hi tg wt n) ∧ (∃ kn fi la we fw en dn sz hd, vCl h 11 6 kn fi la we fw en dn sz hd) ∧ (∃ cos sps wv, vTr h 18 11 cos sps wv ∧ Diag0 cos) ∧ ∃ kn fi se rw' st nu len us rt tg dn, vCd h kn fi se rw' st nu len us rt tg dn
def vX5 (h : xH) (C : Cs) (rt rw dn sz wy : Nat) (cl' : Int32) (stale : Nat) (bs : List Nat) (cap : Nat) : Prop :=
  h.1 0 = cO 5 [.ref 1, .ref 6, .ref 11, .ref 18, .ref 21, .ref 28, .int (nI rt), .int (nI rw), .int (nI dn), .int (nI sz), .int (nI wy), .int cl', .int (nI stale)] ∧
  (∃ lo hi tg wt, vSp h 1 lo hi tg wt (nI (cntF C 24)) ∧ CRep C lo hi tg wt) ∧ vTx h bs cap ∧ ((stale = 1 ∧ vRaw h) ∨ (stale = 0 ∧ vDone h C rt dn sz wy))
end
theorem vDone.raw {h : xH} {C : Cs} {rt dn sz wy : Nat} (hD : vDone h C rt dn sz wy) : vRaw h := by
  obtain ⟨⟨lo, hi, tg, wt, h1, -⟩, ⟨kn, fi, la, we, fw, en, h2, -⟩, ⟨cos, sps, h3, h4, -⟩, tg', dn', kn', fi', se, rw', st, nu, h5, -⟩ := hD
  exact ⟨⟨_, _, _, _, _, h1⟩, ⟨_, _, _, _, _, _, _, _, _, h2⟩, ⟨_, _, _, h3, h4⟩, _, _, _, _, _, _, _, _, _, _, _, h5⟩
theorem vX5.raw {h : xH} {C : Cs} {rt rw dn sz wy stale cap : Nat} {cl' : Int32} {bs : List Nat} (hS : vX5 h C rt rw dn sz wy cl' stale bs cap) : vRaw h := by
  rcases hS.2.2.2 with ⟨-, q⟩ | ⟨-, q⟩
  · exact q
  · exact q.raw
theorem vRaw.fr {h h' : xH} {o' w : Nat} (hR : vRaw h) (hF : xFr o' w h h') (hq : o' + w ≤ 6 ∨ 28 ≤ o') : vRaw h' := by
  obtain ⟨⟨lo, hi, tg, wt, n, h1⟩, ⟨kn, fi, la, we, fw, en, dn, sz, hd, h2⟩, ⟨cos, sps, wv, h3, h4⟩, kn', fi', se, rw', st, nu, len, us, rt, tg', dn', h5⟩ := hR
  exact ⟨⟨_, _, _, _, _, h1.fr hF (by omega)⟩, ⟨_, _, _, _, _, _, _, _, _, h2.fr hF (by omega)⟩, ⟨_, _, _, h3.fr hF (by omega), h4⟩, _, _, _, _, _, _, _, _, _, _, _, h5.fr hF (by omega)⟩
theorem vDone.fr {h h' : xH} {C : Cs} {rt dn sz wy o' w : Nat} (hD : vDone h C rt dn sz wy) (hF : xFr o' w h h') (hq : o' + w ≤ 6 ∨ 28 ≤ o') : vDone h' C rt dn sz wy := by
  obtain ⟨h1, h2, h3, tg, dn', h4⟩ := hD
  exact ⟨h1.fr hF (by omega), h2.fr hF (by omega), h3.fr hF (by omega), tg, dn', h4.fr hF (by omega)⟩
section
variable {G : xG} {h : xH} {C : Cs} {rt rw dn sz wy stale cap : Nat} {cl' : Int32} {bs : List Nat}
theorem tX5_workOut (hS : vX5 h C rt rw dn sz wy cl' stale bs cap) (hO : sOk C rt rw dn sz wy) : AM G mX5_workOut 29 0 [.ref 0] h (fun r h' => r = none ∧ vX5 h' C rt rw dn sz wy cl' 0 bs cap ∧ xFr 0 28 h h') := by
  obtain ⟨o0, o1, o2, o3, o4, o5, o6, o7⟩ := hO
  obtain ⟨i1, i2, i3⟩ := runs_inv o0 rt
  have hK := Nat.le_trans (cls_len (runsOf C rt) dn sz) i2
  have u := hS.1
  have hraw := hS.raw
  obtain ⟨lo, hi, tg, wt, hc1, hc2⟩ := hS.2.1
  obtain ⟨⟨rlo', rhi', rtg', rwt', rn, h1⟩, ⟨kn, fi, la, we, fw, en, cd, cs, chd, h2⟩, ⟨cos, sps, wv, h3, h4⟩, kn', fi', se, rw', st, nu, len, us, rt', tg', dn', h5⟩ := hraw
  have r0 := h1.1
  have s0 := hc1.1
  have k0 := h2.1
  have t0 := h3.1
  have c0 := h5.1
  refine AM.of rfl rfl (Nat.le_of_ble_eq_true rfl) rfl ?_
  refine Ax_al0 dX5_workOut_0 ?_
  refine Ax_getf kfX5 fX5_72 dX5_workOut_1 u rfl ?_
  refine Ax_ifne (tgt := 8) dX5_workOut_4 (by decide) (fun c4 => ?_) (fun c4 => ?_)
  rotate_left
  · have hst : stale = 0 := by
      rcases hS.2.2.2 with ⟨q, -⟩ | ⟨q, -⟩
      · subst q; exact absurd c4 (by decide)
      · exact q
    subst hst
    exact Ax_ret dX5_workOut_7 rfl ⟨rfl, hS, xFr.rf⟩
  refine Ax_al0 dX5_workOut_8 ?_
  refine Ax_getf kfX5 fX5_16 dX5_workOut_9 u rfl ?_
  refine Ax_al0 dX5_workOut_12 ?_
  refine Ax_getf kfX5 fX5_12 dX5_workOut_13 u rfl ?_
  refine Ax_al0 dX5_workOut_16 ?_
  refine Ax_getf kfX5 fX5_53 dX5_workOut_17 u rfl ?_
  refine Ax_cVv dX5_workOut_20 vX5_199 kfX2 r0 (tX2_gather h1 hc1 (by omega) o0 hc2 o1) rfl rfl (by omega) (by simp [Value.category]) (Nat.le_refl _) (fun h11 q11 => ?_)
  obtain ⟨hU, hF1⟩ := q11
  have u1 : h11.1 0 = _ := (hF1.1 0 (by omega)).trans u
  have k1 := h2.fr hF1 (by omega)
  have k10 := k1.1
  refine Ax_al0 dX5_workOut_23 ?_
  refine Ax_getf kfX5 fX5_24 dX5_workOut_24 u1 rfl ?_
  refine Ax_al0 dX5_workOut_27 ?_
  refine Ax_getf kfX5 fX5_60 dX5_workOut_28 u1 rfl ?_
  refine Ax_al0 dX5_workOut_31 ?_
  refine Ax_getf kfX5 fX5_63 dX5_workOut_32 u1 rfl ?_
  refine Ax_cVv dX5_workOut_35 vX5_203 kfX0 k10 (tX0_part (G := G) k1 hU (by omega) i2 i1 o4 o6) rfl rfl (by omega) (by simp [Value.category]) (Nat.le_refl _) (fun h12 q12 => ?_)
  obtain ⟨hKK, hF2⟩ := q12
  have u2 : h12.1 0 = _ := (hF2.1 0 (by omega)).trans u1
  have t1 := (h3.fr hF1 (by omega)).fr hF2 (by omega)
  have t10 := t1.1
  refine Ax_al0 dX5_workOut_38 ?_
  refine Ax_getf kfX5 fX5_33 dX5_workOut_39 u2 rfl ?_
  refine Ax_al0 dX5_workOut_42 ?_
  refine Ax_getf kfX5 fX5_66 dX5_workOut_43 u2 rfl ?_
  refine Ax_cVv dX5_workOut_46 vX5_207 kfX4 t10 (tX4_plan (G := G) t1 h4 hKK (by omega) hK i3 o7) rfl rfl (by omega) (by simp [Value.category]) (Nat.le_refl _) (fun h13 q13 => ?_)
  obtain ⟨hTT, hF3⟩ := q13
  have u3 : h13.1 0 = _ := (hF3.1 0 (by omega)).trans u2
  have c1 := ((h5.fr hF1 (by omega)).fr hF2 (by omega)).fr hF3 (by omega)
  have c10 := c1.1
  refine Ax_al0 dX5_workOut_49 ?_
  refine Ax_getf kfX5 fX5_42 dX5_workOut_50 u3 rfl ?_
  refine Ax_al0 dX5_workOut_53 ?_
  refine Ax_getf kfX5 fX5_53 dX5_workOut_54 u3 rfl ?_
  refine Ax_cVv dX5_workOut_57 vX5_210 kfX1 c10 (tX1_layOut (G := G) c1 ((hU.fr hF2 (by omega)).fr hF3 (by omega)) (hKK.fr hF3 (by omega)) hTT i2 i1 o6 o7 rt) rfl rfl (by omega) (by simp [Value.category]) (Nat.le_refl _) (fun h14 q14 => ?_)
  obtain ⟨hLL, hF4⟩ := q14
  have u4 : h14.1 0 = _ := (hF4.1 0 (by omega)).trans u3
  have hF14 : xFr 0 28 h h14 := ⟨fun q hq => (hF4.1 q (by omega)).trans ((hF3.1 q (by omega)).trans ((hF2.1 q (by omega)).trans (hF1.1 q (by omega)))), hF4.2.trans (hF3.2.trans (hF2.2.trans hF1.2))⟩
  have hD : vDone h14 C rt dn sz wy := ⟨((hU.fr hF2 (by omega)).fr hF3 (by omega)).fr hF4 (by omega), (hKK.fr hF3 (by omega)).fr hF4 (by omega), hTT.fr hF4 (by omega), _, _, hLL⟩
  have hcs : vSp h14 1 lo hi tg wt (nI (cntF C 24)) := (((hc1.fr hF1 (by omega)).fr hF2 (by omega)).fr hF3 (by omega)).fr hF4 (by omega)
  have hTx := hS.2.2.1
  have fr : ∀ q, (q < 0 ∨ 0 + 1 ≤ q) → h14.1 q = h14.1 q := fun _ _ => rfl
  have zr : h14.2 = h14.2 := rfl
  refine Ax_al0 dX5_workOut_60 ?_
  refine Ax_ic0 dX5_workOut_61 ?_
  refine Ax_putf kfX5 fX5_72 dX5_workOut_62 u4 (Nat.le_of_ble_eq_true rfl) (Or.inl rfl) (by rfl) (by rfl) (Ax_up (fun h15 e15 f15 z15 => ?_))
  replace u4 := e15
  replace fr : ∀ q, (q < 0 ∨ 0 + 1 ≤ q) → h15.1 q = h14.1 q := fun q hq => (f15 q (by omega)).trans (fr q hq)
  replace zr := z15.trans zr
  have hF5 : xFr 0 1 h14 h15 := ⟨fr, zr⟩
  have hF15 : xFr 0 28 h h15 := ⟨fun q hq => (fr q (by omega)).trans (hF14.1 q hq), zr.trans hF14.2⟩
  exact Ax_ret dX5_workOut_65 rfl ⟨rfl, ⟨u4, ⟨lo, hi, tg, wt, hcs.fr hF5 (by omega), hc2⟩, hTx.fr hF15 (by omega), Or.inr ⟨rfl, ⟨hD.1.fr hF5 (by omega), hD.2.1.fr hF5 (by omega), hD.2.2.1.fr hF5 (by omega), hD.2.2.2.elim (fun a ha => ha.elim (fun b hb => ⟨a, b, hb.fr hF5 (by omega)⟩))⟩⟩⟩, hF15⟩
end
