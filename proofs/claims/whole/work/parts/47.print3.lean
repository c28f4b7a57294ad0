/-! the code printed -/
noncomputable section
def prL (R : List Run) (dens size rest : Nat) (L : List Ln) : Nat → Nat → List Nat
  | _, 0 => []
  | i, r + 1 => lnT R dens size rest i (gL L i) ++ prL R dens size rest L (i + 1) r
end
section
variable {G : xG} {R : List Run} {dens size rest : Nat} {L : List Ln} {tg dn : Int32}
theorem tX1_printLine {i : Nat} (hn : L.length ≤ 400) (hu : tsum L ≤ 3072) (hi : i < L.length) (hk : lnOk R dens size (gL L i)) {h : xH} {bs : List Nat} {cap : Nat} (hV : vC h R dens size rest L tg dn) (hT : vTx h bs cap) (hl : bs.length + (lnT R dens size rest i (gL L i)).length + 200 < 65536) :
    AM G mX1_printLine 6 (pay cap bs.length (lnT R dens size rest i (gL L i)).length) [.ref 21, .int (nI i), .ref 28] h (fun q h' => q = none ∧ Ap h bs cap (lnT R dens size rest i (gL L i)) h') := by
  obtain ⟨ba, f, t, -⟩ := hT.ob
  have u := hV.ob
  have hok := hT.ok
  have hk6 : (gL L i).1 < 6 := hk.1
  have hw := wi_lt _ hk6
  have hN1 := numL_len (nI i)
  have hN2 := numL_len (gL L i).2.1
  have hwl : (xN (wi (gL L i).1)).length ≤ 7 := by
    have := (xs_len _ hw).1
    rw [(xN_ok _ hw).1]
    exact this
  unfold lnT at hl ⊢
  generalize hA : (if (gL L i).1 = 4 then xN 6 ++ hexL (gL L i).2.2.2.1 16 else []) = A4 at hl ⊢
  generalize hB : (if (gL L i).1 = 3 then [] else xN 6 ++ numL (gL L i).2.2.1) = A5 at hl ⊢
  rw [List.length_append, List.length_append, List.length_append, List.length_append, List.length_append, List.length_append] at hl
  have hp := pay_app (n := bs.length) hok (numL (nI i)) (xN (wi (gL L i).1) ++ (numL (gL L i).2.1 ++ (A4 ++ (A5 ++ (tblR R dens size rest (gL L i) 0 (many (gL L i)) ++ xN 7)))))
  refine AM.of rfl rfl (Nat.le_of_ble_eq_true rfl) rfl ?_
  refine Ax_al0 dX1_printLine_0 ?_
  refine Ax_il1 dX1_printLine_1 ?_
  refine Ax_cVi dX1_printLine_2 vX1_169 kfX1 u (tL_kind hV hn hi) rfl rfl (by decide) (by simp [Value.category]) ?_
  refine Ax_is3 dX1_printLine_5 (Nat.le_of_ble_eq_true rfl) (by rfl) ?_
  refine Ax_al2 dX1_printLine_6 ?_
  refine Ax_il1 dX1_printLine_7 ?_
  refine Ax_cVv dX1_printLine_8 vX1_170 kfX3 t (tX3_number (G := G) _ hT (by omega)) rfl rfl (by decide) (by simp [Value.category]) (by omega) (fun h1 q1 => ?_)
  have hV2 := hV.ft q1.2
  have hT2 := q1.1
  refine Ax_app q1 hok ?_
  obtain ⟨ba2, f2, t2, -⟩ := hT2.ob
  have hok2 := hT2.ok
  have hp2 := pay_app (n := (bs ++ numL (nI i)).length) hok2 (xN (wi (gL L i).1)) (numL (gL L i).2.1 ++ (A4 ++ (A5 ++ (tblR R dens size rest (gL L i) 0 (many (gL L i)) ++ xN 7))))
  refine Ax_al2 dX1_printLine_11 ?_
  refine Ax_il3 dX1_printLine_12 ?_
  refine Ax_cSa dX1_printLine_13 sX1_175 (tX1_wordOf hk6) rfl rfl (by decide) (by simp [Value.category]) ?_
  refine Ax_cVv dX1_printLine_16 vX1_179 kfX3 t2 (tT_word (G := G) hw hT2 (by rw [List.length_append]; omega)) rfl rfl (by decide) (by simp [Value.category]) (by omega) (fun h2 q2 => ?_)
  have hV3 := hV2.ft q2.2
  have hT3 := q2.1
  refine Ax_app q2 hok2 ?_
  obtain ⟨ba3, f3, t3, -⟩ := hT3.ob
  have u3 := hV3.ob
  have hok3 := hT3.ok
  have hp3 := pay_app (n := (bs ++ numL (nI i) ++ xN (wi (gL L i).1)).length) hok3 (numL (gL L i).2.1) (A4 ++ (A5 ++ (tblR R dens size rest (gL L i) 0 (many (gL L i)) ++ xN 7)))
  refine Ax_al2 dX1_printLine_19 ?_
  refine Ax_al0 dX1_printLine_20 ?_
  refine Ax_il1 dX1_printLine_21 ?_
  refine Ax_cVi dX1_printLine_22 vX1_183 kfX1 u3 (tL_first hV3 hn hi) rfl rfl (by decide) (by simp [Value.category]) ?_
  refine Ax_cVv dX1_printLine_25 vX1_170 kfX3 t3 (tX3_number (G := G) _ hT3 (by rw [List.length_append, List.length_append]; omega)) rfl rfl (by decide) (by simp [Value.category]) (by omega) (fun h3 q3 => ?_)
  refine Ax_app q3 hok3 ?_
  rw [← hA, ← hB]
  refine pr_28 hn hi hk (hV3.ft q3.2) q3.1 (by rw [List.length_append, List.length_append, List.length_append]; omega) (fun h4 bs4 cap4 hV4 hT4 hb4 => ?_)
  rw [List.length_append, List.length_append, List.length_append] at hb4
  refine pr_48 hn hi hk6 hV4 hT4 (by omega) (fun h5 bs5 cap5 hV5 hT5 hb5 => ?_)
  exact pr_68 hn hu hi hk hV5 hT5 (by omega)
theorem tX1_printTo (hn : L.length ≤ 400) (hu : tsum L ≤ 3072) (hok : ∀ l ∈ L, lnOk R dens size l) {h : xH} {bs : List Nat} {cap : Nat} (hV : vC h R dens size rest L tg dn) (hT : vTx h bs cap) (hl : bs.length + (prL R dens size rest L 0 L.length).length + 200 < 65536) :
    AM G mX1_printTo 7 (pay cap bs.length (prL R dens size rest L 0 L.length).length) [.ref 21, .ref 28] h (fun q h' => q = none ∧ Ap h bs cap (prL R dens size rest L 0 L.length) h') := by
  refine AM.of rfl rfl (Nat.le_of_ble_eq_true rfl) rfl ?_
  refine Ax_ic0 dX1_printTo_0 ?_
  refine Ax_is2 dX1_printTo_1 (Nat.le_of_ble_eq_true rfl) (by rfl) ?_
  suffices hloop : ∀ r i (h1 : xH) (bs1 : List Nat) (cap1 : Nat), i + r = L.length → vC h1 R dens size rest L tg dn → vTx h1 bs1 cap1 → bs1.length + (prL R dens size rest L i r).length + 200 < 65536 → Ax G mX1_printTo 7 (pay cap1 bs1.length (prL R dens size rest L i r).length) 2 [.ref 21, .ref 28, .int (nI i)] [] h1 (fun q h' => q = none ∧ Ap h1 bs1 cap1 (prL R dens size rest L i r) h') from
    hloop L.length 0 h bs cap (by omega) hV hT hl
  intro r
  induction r with
  | zero =>
    intro i h1 bs1 cap1 hir hV hT hl
    have u := hV.ob
    refine Ax_il2 dX1_printTo_2 ?_
    refine Ax_al0 dX1_printTo_3 ?_
    refine Ax_getf kfX1 fX1_31 dX1_printTo_4 u rfl ?_
    refine Ax_cmpgen (tgt := 22) dX1_printTo_7 (by decide) (by omega) (by omega) (fun c7 => ?_) (fun c7 => ?_)
    · exact Ax_ret dX1_printTo_22 rfl ⟨rfl, by rw [prL, List.append_nil]; exact hT, xFt.rf⟩
    · omega
  | succ r ih =>
    intro i h1 bs1 cap1 hir hV hT hl
    have u := hV.ob
    have hok1 := hT.ok
    rw [prL, List.length_append] at hl
    rw [prL]
    have hp := pay_app (n := bs1.length) hok1 (lnT R dens size rest i (gL L i)) (prL R dens size rest L (i + 1) r)
    refine Ax_il2 dX1_printTo_2 ?_
    refine Ax_al0 dX1_printTo_3 ?_
    refine Ax_getf kfX1 fX1_31 dX1_printTo_4 u rfl ?_
    refine Ax_cmpgen (tgt := 22) dX1_printTo_7 (by decide) (by omega) (by omega) (fun c7 => ?_) (fun c7 => ?_)
    · omega
    refine Ax_al0 dX1_printTo_10 ?_
    refine Ax_il2 dX1_printTo_11 ?_
    refine Ax_al1 dX1_printTo_12 ?_
    refine Ax_cVv dX1_printTo_13 vX1_165 kfX1 u (tX1_printLine (G := G) hn hu (i := i) (by omega) (hok _ (gL_in (by omega))) hV hT (by omega)) rfl rfl (by decide) (by simp [Value.category]) (by omega) (fun h2 q2 => ?_)
    refine Ax_app q2 hok1 ?_
    refine Ax_inc2_1n dX1_printTo_16 (Nat.le_of_ble_eq_true rfl) (by rfl) ?_
    refine Ax_goto (tgt := 2) dX1_printTo_19 (by decide) ?_
    exact ih (i + 1) h2 _ _ (by omega) (hV.ft q2.2) q2.1 (by rw [List.length_append]; omega)
end
