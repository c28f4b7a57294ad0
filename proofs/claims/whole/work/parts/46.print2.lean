/-! a line printed -/
noncomputable section
def tblR (R : List Run) (dens size rest : Nat) (l : Ln) : Nat → Nat → List Nat
  | _, 0 => []
  | k, r + 1 => xN 6 ++ (numL (numR R dens size rest l k) ++ tblR R dens size rest l (k + 1) r)
def many (l : Ln) : Nat := if l.1 = 5 then l.2.2.1.toInt.toNat else 0
def lnT (R : List Run) (dens size rest : Nat) (i : Nat) (l : Ln) : List Nat := numL (nI i) ++ (xN (wi l.1) ++ (numL l.2.1 ++ ((if l.1 = 4 then xN 6 ++ hexL l.2.2.2.1 16 else []) ++ ((if l.1 = 3 then [] else xN 6 ++ numL l.2.2.1) ++ (tblR R dens size rest l 0 (many l) ++ xN 7)))))
end
section
variable {G : xG} {R : List Run} {dens size rest : Nat} {L : List Ln} {tg dn : Int32}
theorem tT_word {h : xH} {bs : List Nat} {cap k : Nat} (hk : k < 8) (hT : vTx h bs cap) (hl : bs.length + 7 < 65536) : AM G mX3_word 4 (pay cap bs.length (xN k).length) [.ref 28, .ref (1000001 + k)] h (fun r h' => r = none ∧ Ap h bs cap (xN k) h') := tX3_word hk hT hl
theorem pr_end {i : Nat} {h1 : xH} {bs1 : List Nat} {cap1 : Nat} {x3 x4 x5 : Value} (hT : vTx h1 bs1 cap1) (hl : bs1.length + 7 < 65536) : Ax G mX1_printLine 6 (pay cap1 bs1.length (xN 7).length) 118 [.ref 21, .int (nI i), .ref 28, x3, x4, x5] [] h1 (fun q h' => q = none ∧ Ap h1 bs1 cap1 (xN 7) h') := by
  obtain ⟨ba, f, t, -⟩ := hT.ob
  refine Ax_al2 dX1_printLine_118 ?_
  refine Ax_ldcT (k := 7) rfl (by decide) rfl dX1_printLine_119 ?_
  refine Ax_cVv dX1_printLine_121 vX1_179 kfX3 t (tT_word (G := G) (k := 7) (by decide) hT hl) rfl rfl (by decide) (by simp [Value.category]) (Nat.le_refl _) (fun h2 q2 => ?_)
  exact Ax_ret dX1_printLine_124 rfl ⟨rfl, q2⟩
theorem pr_tbl {i : Nat} {x3 : Value} (hn : L.length ≤ 400) (hu : tsum L ≤ 3072) (hi : i < L.length) (hk : lnOk R dens size (gL L i)) : ∀ r k (h1 : xH) (bs1 : List Nat) (cap1 : Nat), k + r ≤ 256 → vC h1 R dens size rest L tg dn → vTx h1 bs1 cap1 → bs1.length + (tblR R dens size rest (gL L i) k r).length + 20 < 65536 →
    Ax G mX1_printLine 6 (pay cap1 bs1.length (tblR R dens size rest (gL L i) k r ++ xN 7).length) 87 [.ref 21, .int (nI i), .ref 28, x3, .int (nI (k + r)), .int (nI k)] [] h1 (fun q h' => q = none ∧ Ap h1 bs1 cap1 (tblR R dens size rest (gL L i) k r ++ xN 7) h') := by
  intro r
  induction r with
  | zero =>
    intro k h1 bs1 cap1 hkr hV hT hl
    rw [tblR, List.nil_append]
    rw [tblR, List.length_nil] at hl
    refine Ax_il5 dX1_printLine_87 ?_
    refine Ax_il4 dX1_printLine_89 ?_
    refine Ax_cmpgen (tgt := 118) dX1_printLine_91 (by decide) (by omega) (by omega) (fun c91 => ?_) (fun c91 => ?_)
    · exact pr_end hT (by omega)
    · omega
  | succ r ih =>
    intro k h1 bs1 cap1 hkr hV hT hl
    obtain ⟨ba, f, t, -⟩ := hT.ob
    have u := hV.ob
    have hok := hT.ok
    rw [tblR, List.length_append, List.length_append] at hl
    rw [tblR, List.append_assoc, List.append_assoc]
    have hkL : (lN k).toInt = (k : Int) := L_lN (by omega)
    have hp := pay_app (n := bs1.length) hok (xN 6) (numL (numR R dens size rest (gL L i) k) ++ (tblR R dens size rest (gL L i) (k + 1) r ++ xN 7))
    refine Ax_il5 dX1_printLine_87 ?_
    refine Ax_il4 dX1_printLine_89 ?_
    refine Ax_cmpgen (tgt := 118) dX1_printLine_91 (by decide) (by omega) (by omega) (fun c91 => ?_) (fun c91 => ?_)
    · omega
    refine Ax_al2 dX1_printLine_94 ?_
    refine Ax_ldcT (k := 6) rfl (by decide) rfl dX1_printLine_95 ?_
    refine Ax_cVv dX1_printLine_97 vX1_179 kfX3 t (tT_word (G := G) (k := 6) (by decide) hT (by omega)) rfl rfl (by decide) (by simp [Value.category]) (by omega) (fun h2 q2 => ?_)
    have hV2 := hV.ft q2.2
    have hT2 := q2.1
    refine Ax_app q2 hok ?_
    obtain ⟨ba2, f2, t2, -⟩ := hT2.ob
    have u2 := hV2.ob
    have hok2 := hT2.ok
    have hp2 := pay_app (n := (bs1 ++ xN 6).length) hok2 (numL (numR R dens size rest (gL L i) k)) (tblR R dens size rest (gL L i) (k + 1) r ++ xN 7)
    refine Ax_al2 dX1_printLine_100 ?_
    refine Ax_al0 dX1_printLine_101 ?_
    refine Ax_il1 dX1_printLine_102 ?_
    refine Ax_il5 dX1_printLine_103 ?_
    refine Ax_i2ln dX1_printLine_105 (by omega) ?_
    refine Ax_cVi dX1_printLine_106 vX1_155 kfX1 u2 (tC1_number (G := G) hV2 hn hu hi hk (lN k)) rfl rfl (by decide) (by simp [Value.category]) ?_
    refine Ax_top (show numR R dens size rest (gL L i) (lN k).toInt = numR R dens size rest (gL L i) k by rw [hkL]) ?_
    refine Ax_cVv dX1_printLine_109 vX1_170 kfX3 t2 (tX3_number (G := G) _ hT2 (by rw [List.length_append]; omega)) rfl rfl (by decide) (by simp [Value.category]) (by omega) (fun h3 q3 => ?_)
    have hV3 := hV2.ft q3.2
    have hT3 := q3.1
    refine Ax_app q3 hok2 ?_
    refine Ax_inc5_1n dX1_printLine_112 (Nat.le_of_ble_eq_true rfl) (by rfl) ?_
    refine Ax_goto (tgt := 87) dX1_printLine_115 (by decide) ?_
    have hih := ih (k + 1) h3 _ _ (by omega) hV3 hT3 (by rw [List.length_append, List.length_append]; omega)
    rw [show k + 1 + r = k + (r + 1) by omega] at hih
    exact hih
end
