/-! a line printed -/
noncomputable section
def tblR (R : List Run) (dens size rest : Nat) (l : Ln) : Nat → Nat → List Nat
  | _, 0 => []
  | k, r + 1 => xN 6 ++ (numL (numR R dens size rest l k) ++ tblR R dens size rest l (k + 1) r)
def many (l : Ln) : Nat := if l.1 = 5 then l.2.2.1.toInt.toNat else 0
def lnT (R : List Run) (dens size rest : Nat) (i : Nat) (l : Ln) : List Nat := numL (nI i) ++ (xN (wi l.1) ++ (numL l.2.1 ++ ((if l.1 = 4 then xN 6 ++ hexL l.2.2.2.1 16 else []) ++ ((if l.1 = 3 then [] else xN 6 ++ numL l.2.2.1) ++ (tblR R dens size rest l 0 (many l) ++ xN 7)))))
end
section
variable {G : xG} {R : List Run} {dens size rest : Nat} {L : List Ln} {tg dn : Int32}
theorem tT_word {h : xH} {bs : List Nat} {cap k : Nat} (hk : k < 8) (hT : vTx h bs cap) (hl : bs.length + 7 < 65536) : AM G mX3_word 4 (pay cap bs.length (xN k).length) [.ref 28, .ref (1000001 + k)] h (fun r h' => r = none ∧ Ap h bs cap (xN k) h') := tX3_word hk hT hl
theorem pr_end {i : Nat} {h1 : xH} {bs1 : List Nat} {cap1 : Nat} {x3 x4 x5 : Value} (hT : vTx h1 bs1 cap1) (hl : bs1.length + 7 < 65536) : Ax G mX1_printLine 6 (pay cap1 bs1.length (xN 7).length) 118 [.ref 21, .int (nI i), .ref 28, x3, x4, x5] [] h1 (fun q h' => q = none ∧ Ap h1 bs1 cap1 (xN 7) h') := by
  obtain ⟨ba, f, t, -⟩ := hT.ob
  refine Ax_al2 dX1_printLine_118 ?_
  refine Ax_ldcT (k := 7) rfl (by decide) rfl dX1_printLine_119 ?_
  refine Ax_cVv dX1_printLine_121 vX1_179 kfX3 t (tT_word (G := G) (k := 7) (by decide) hT hl) rfl rfl (by decide) (by simp [Value.category]) (Nat.le_refl _) (fun h2 q2 => ?_)
  exact Ax_ret dX1_printLine_124 rfl ⟨rfl, q2⟩
theorem pr_tbl {i : Nat} {x3 : Value} (hn : L.length ≤ 400) (hu : tsum L ≤ 3072) (hi : i < L.length) (hk : lnOk R dens size (gL L i)) : ∀ r k (h1 : xH) (bs1 : List Nat) (cap1 : Nat), k + r ≤ 256 → vC h1 R dens size rest L tg dn → vTx h1 bs1 cap1 → bs1.length + (tblR R dens size rest (gL L i) k r).length + 20 < 65536 →
    Ax G mX1_printLine 6 (pay cap1 bs1.length (tblR R dens size rest (gL L i) k r ++ xN 7).length) 87 [.ref 21, .int (nI i), .ref 28, x3, .int (nI (k + r)), .int (nI k)] [] h1 (fun q h' => q = none ∧ Ap h1 bs1 cap1 (tblR R dens size rest (gL L i) k r ++ xN 7) h') := by
  intro r
  induction r with
  | zero =>
    intro k h1 bs1 cap1 hkr hV hT hl
    rw [tblR, List.nil_append]
    rw [tblR, List.length_nil] at hl
    refine Ax_il5 dX1_printLine_87 ?_
    refine Ax_il4 dX1_printLine_89 ?_
    refine Ax_cmpgen (tgt := 118) dX1_printLine_91 (by decide) (by omega) (by omega) (fun c91 => ?_) (fun c91 => ?_)
    · exact pr_end hT (by omega)
    · omega
  | succ r ih =>
    intro k h1 bs1 cap1 hkr hV hT hl
    obtain ⟨ba, f, t, -⟩ := hT.ob
    have u := hV.ob
    have hok := hT.ok
    rw [tblR, List.length_append, List.length_append] at hl
    rw [tblR, List.append_assoc, List.append_assoc]
    have hkL : (lN k).toInt = (k : Int) := L_lN (by omega)
    have hp := pay_app (n := bs1.length) hok (xN 6) (numL (numR R dens size rest (gL L i) k) ++ (tblR R dens size rest (gL L i) (k + 1) r ++ xN 7))
    refine Ax_il5 dX1_printLine_87 ?_
    refine Ax_il4 dX1_printLine_89 ?_
    refine Ax_cmpgen (tgt := 118) dX1_printLine_91 (by decide) (by omega) (by omega) (fun c91 => ?_) (fun c91 => ?_)
    · omega
    refine Ax_al2 dX1_printLine_94 ?_
    refine Ax_ldcT (k := 6) rfl (by decide) rfl dX1_printLine_95 ?_
    refine Ax_cVv dX1_printLine_97 vX1_179 kfX3 t (tT_word (G := G) (k := 6) (by decide) hT (by omega)) rfl rfl (by decide) (by simp [Value.category]) (by omega) (fun h2 q2 => ?_)
    have hV2 := hV.ft q2.2
    have hT2 := q2.1
    refine Ax_app q2 hok ?_
    obtain ⟨ba2, f2, t2, -⟩ := hT2.ob
    have u2 := hV2.ob
    have hok2 := hT2.ok
    have hp2 := pay_app (n := (bs1 ++ xN 6).length) hok2 (numL (numR R dens size rest (gL L i) k)) (tblR R dens size rest (gL L i) (k + 1) r ++ xN 7)
    refine Ax_al2 dX1_printLine_100 ?_
    refine Ax_al0 dX1_printLine_101 ?_
    refine Ax_il1 dX1_printLine_102 ?_
    refine Ax_il5 dX1_printLine_103 ?_
    refine Ax_i2ln dX1_printLine_105 (by omega) ?_
    refine Ax_cVi dX1_printLine_106 vX1_155 kfX1 u2 (tC1_number (G := G) hV2 hn hu hi hk (lN k)) rfl rfl (by decide) (by simp [Value.category]) ?_
    refine Ax_top (show numR R dens size rest (gL L i) (lN k).toInt = numR R dens size rest (gL L i) k by rw [hkL]) ?_
    refine Ax_cVv dX1_printLine_109 vX1_170 kfX3 t2 (tX3_number (G := G) _ hT2 (by rw [List.length_append]; omega)) rfl rfl (by decide) (by simp [Value.category]) (by omega) (fun h3 q3 => ?_)
    have hV3 := hV2.ft q3.2
    have hT3 := q3.1
    refine Ax_app q3 hok2 ?_
    refine Ax_inc5_1n dX1_printLine_112 (Nat.le_of_ble_eq_true rfl) (by rfl) ?_
    refine Ax_goto (tgt := 87) dX1_printLine_115 (by decide) ?_
    have hih := ih (k + 1) h3 _ _ (by omega) hV3 hT3 (by rw [List.length_append, List.length_append]; omega)
    rw [show k + 1 + r = k + (r + 1) by omega] at hih
    exact hih
theorem pr_68 {i : Nat} {x4 x5 : Value} (hn : L.length ≤ 400) (hu : tsum L ≤ 3072) (hi : i < L.length) (hk : lnOk R dens size (gL L i)) {h1 : xH} {bs1 : List Nat} {cap1 : Nat} (hV : vC h1 R dens size rest L tg dn) (hT : vTx h1 bs1 cap1) (hl : bs1.length + (tblR R dens size rest (gL L i) 0 (many (gL L i))).length + 20 < 65536) :
    Ax G mX1_printLine 6 (pay cap1 bs1.length (tblR R dens size rest (gL L i) 0 (many (gL L i)) ++ xN 7).length) 68 [.ref 21, .int (nI i), .ref 28, .int (nI (gL L i).1), x4, x5] [] h1 (fun q h' => q = none ∧ Ap h1 bs1 cap1 (tblR R dens size rest (gL L i) 0 (many (gL L i)) ++ xN 7) h') := by
  have u := hV.ob
  have hk6 : (gL L i).1 < 6 := hk.1
  refine Ax_il3 dX1_printLine_68 ?_
  refine Ax_ic5 dX1_printLine_69 ?_
  refine Ax_cmpnen (tgt := 81) dX1_printLine_70 (by decide) (by omega) (by omega) (fun c70 => ?_) (fun c70 => ?_)
  · have e : many (gL L i) = 0 := by unfold many; rw [if_neg c70]
    rw [e] at hl ⊢
    refine Ax_ic0 dX1_printLine_81 ?_
    refine Ax_is4 dX1_printLine_82 (Nat.le_of_ble_eq_true rfl) (by rfl) ?_
    refine Ax_ic0 dX1_printLine_84 ?_
    refine Ax_is5 dX1_printLine_85 (Nat.le_of_ble_eq_true rfl) (by rfl) ?_
    exact pr_tbl hn hu hi hk 0 0 h1 bs1 cap1 (by omega) hV hT hl
  · obtain ⟨w1, w2, w3, w4⟩ := hk.2.2 c70
    have e : many (gL L i) = csp R dens size (gL L i).2.2.2.2 := by
      unfold many
      rw [if_pos c70, w3, nI_toInt (by omega)]
      exact Int.toNat_natCast _
    rw [e] at hl ⊢
    refine Ax_al0 dX1_printLine_73 ?_
    refine Ax_il1 dX1_printLine_74 ?_
    refine Ax_cVi dX1_printLine_75 vX1_192 kfX1 u (tL_second hV hn hi) rfl rfl (by decide) (by simp [Value.category]) ?_
    refine Ax_top (w3.trans (show nI (csp R dens size (gL L i).2.2.2.2) = nI (0 + csp R dens size (gL L i).2.2.2.2) by rw [Nat.zero_add])) ?_
    refine Ax_goto (tgt := 82) dX1_printLine_78 (by decide) ?_
    refine Ax_is4 dX1_printLine_82 (Nat.le_of_ble_eq_true rfl) (by rfl) ?_
    refine Ax_ic0 dX1_printLine_84 ?_
    refine Ax_is5 dX1_printLine_85 (Nat.le_of_ble_eq_true rfl) (by rfl) ?_
    exact pr_tbl hn hu hi hk _ 0 h1 bs1 cap1 (by omega) hV hT hl
theorem pr_48 {i : Nat} {x4 x5 : Value} {ms : List Nat} (hn : L.length ≤ 400) (hi : i < L.length) (hk6 : (gL L i).1 < 6) {h1 : xH} {bs1 : List Nat} {cap1 : Nat} (hV : vC h1 R dens size rest L tg dn) (hT : vTx h1 bs1 cap1) (hl : bs1.length + 40 < 65536)
    (hms : ∀ (h2 : xH) (bs2 : List Nat) (cap2 : Nat), vC h2 R dens size rest L tg dn → vTx h2 bs2 cap2 → bs2.length ≤ bs1.length + 12 → Ax G mX1_printLine 6 (pay cap2 bs2.length ms.length) 68 [.ref 21, .int (nI i), .ref 28, .int (nI (gL L i).1), x4, x5] [] h2 (fun q h' => q = none ∧ Ap h2 bs2 cap2 ms h')) :
    Ax G mX1_printLine 6 (pay cap1 bs1.length ((if (gL L i).1 = 3 then [] else xN 6 ++ numL (gL L i).2.2.1) ++ ms).length) 48 [.ref 21, .int (nI i), .ref 28, .int (nI (gL L i).1), x4, x5] [] h1 (fun q h' => q = none ∧ Ap h1 bs1 cap1 ((if (gL L i).1 = 3 then [] else xN 6 ++ numL (gL L i).2.2.1) ++ ms) h') := by
  obtain ⟨ba, f, t, -⟩ := hT.ob
  have u := hV.ob
  have hok := hT.ok
  refine Ax_il3 dX1_printLine_48 ?_
  refine Ax_ic3 dX1_printLine_49 ?_
  refine Ax_cmpeqn (tgt := 68) dX1_printLine_50 (by decide) (by omega) (by omega) (fun c50 => ?_) (fun c50 => ?_)
  · rw [if_pos c50, List.nil_append]
    exact hms h1 bs1 cap1 hV hT (by omega)
  · rw [if_neg c50, List.append_assoc]
    have hp := pay_app (n := bs1.length) hok (xN 6) (numL (gL L i).2.2.1 ++ ms)
    refine Ax_al2 dX1_printLine_53 ?_
    refine Ax_ldcT (k := 6) rfl (by decide) rfl dX1_printLine_54 ?_
    refine Ax_cVv dX1_printLine_56 vX1_179 kfX3 t (tT_word (G := G) (k := 6) (by decide) hT (by omega)) rfl rfl (by decide) (by simp [Value.category]) (by omega) (fun h2 q2 => ?_)
    have hV2 := hV.ft q2.2
    have hT2 := q2.1
    refine Ax_app q2 hok ?_
    obtain ⟨ba2, f2, t2, -⟩ := hT2.ob
    have u2 := hV2.ob
    have hok2 := hT2.ok
    have hp2 := pay_app (n := (bs1 ++ xN 6).length) hok2 (numL (gL L i).2.2.1) ms
    have h6 : (xN 6).length = 1 := rfl
    have hnl := numL_len (gL L i).2.2.1
    refine Ax_al2 dX1_printLine_59 ?_
    refine Ax_al0 dX1_printLine_60 ?_
    refine Ax_il1 dX1_printLine_61 ?_
    refine Ax_cVi dX1_printLine_62 vX1_192 kfX1 u2 (tL_second hV2 hn hi) rfl rfl (by decide) (by simp [Value.category]) ?_
    refine Ax_cVv dX1_printLine_65 vX1_170 kfX3 t2 (tX3_number (G := G) _ hT2 (by rw [List.length_append]; omega)) rfl rfl (by decide) (by simp [Value.category]) (by omega) (fun h3 q3 => ?_)
    refine Ax_app q3 hok2 ?_
    exact hms h3 _ _ (hV2.ft q3.2) q3.1 (by rw [List.length_append, List.length_append]; omega)
theorem pr_28 {i : Nat} {x4 x5 : Value} {ms : List Nat} (hn : L.length ≤ 400) (hi : i < L.length) (hk : lnOk R dens size (gL L i)) {h1 : xH} {bs1 : List Nat} {cap1 : Nat} (hV : vC h1 R dens size rest L tg dn) (hT : vTx h1 bs1 cap1) (hl : bs1.length + 60 < 65536)
    (hms : ∀ (h2 : xH) (bs2 : List Nat) (cap2 : Nat), vC h2 R dens size rest L tg dn → vTx h2 bs2 cap2 → bs2.length ≤ bs1.length + 17 → Ax G mX1_printLine 6 (pay cap2 bs2.length ms.length) 48 [.ref 21, .int (nI i), .ref 28, .int (nI (gL L i).1), x4, x5] [] h2 (fun q h' => q = none ∧ Ap h2 bs2 cap2 ms h')) :
    Ax G mX1_printLine 6 (pay cap1 bs1.length ((if (gL L i).1 = 4 then xN 6 ++ hexL (gL L i).2.2.2.1 16 else []) ++ ms).length) 28 [.ref 21, .int (nI i), .ref 28, .int (nI (gL L i).1), x4, x5] [] h1 (fun q h' => q = none ∧ Ap h1 bs1 cap1 ((if (gL L i).1 = 4 then xN 6 ++ hexL (gL L i).2.2.2.1 16 else []) ++ ms) h') := by
  obtain ⟨ba, f, t, -⟩ := hT.ob
  have u := hV.ob
  have hok := hT.ok
  have hk6 : (gL L i).1 < 6 := hk.1
  refine Ax_il3 dX1_printLine_28 ?_
  refine Ax_ic4 dX1_printLine_29 ?_
  refine Ax_cmpnen (tgt := 48) dX1_printLine_30 (by decide) (by omega) (by omega) (fun c30 => ?_) (fun c30 => ?_)
  · rw [if_neg c30, List.nil_append]
    exact hms h1 bs1 cap1 hV hT (by omega)
  · rw [if_pos c30, List.append_assoc]
    have hp := pay_app (n := bs1.length) hok (xN 6) (hexL (gL L i).2.2.2.1 16 ++ ms)
    refine Ax_al2 dX1_printLine_33 ?_
    refine Ax_ldcT (k := 6) rfl (by decide) rfl dX1_printLine_34 ?_
    refine Ax_cVv dX1_printLine_36 vX1_179 kfX3 t (tT_word (G := G) (k := 6) (by decide) hT (by omega)) rfl rfl (by decide) (by simp [Value.category]) (by omega) (fun h2 q2 => ?_)
    have hV2 := hV.ft q2.2
    have hT2 := q2.1
    refine Ax_app q2 hok ?_
    obtain ⟨ba2, f2, t2, -⟩ := hT2.ob
    have u2 := hV2.ob
    have hok2 := hT2.ok
    have hp2 := pay_app (n := (bs1 ++ xN 6).length) hok2 (hexL (gL L i).2.2.2.1 16) ms
    have h6 : (xN 6).length = 1 := rfl
    have hxl := hexL_len (gL L i).2.2.2.1 16
    refine Ax_al2 dX1_printLine_39 ?_
    refine Ax_al0 dX1_printLine_40 ?_
    refine Ax_il1 dX1_printLine_41 ?_
    refine Ax_cVl dX1_printLine_42 vX1_161 kfX1 u2 (tL_row hV2 hn hi) rfl rfl (by decide) (by simp [Value.category]) ?_
    refine Ax_cVv dX1_printLine_45 vX1_188 kfX3 t2 (tX3_figures (G := G) hk.2.1 hT2 (by rw [List.length_append]; omega)) rfl rfl (by decide) (by simp [Value.category]) (by omega) (fun h3 q3 => ?_)
    refine Ax_app q3 hok2 ?_
    exact hms h3 _ _ (hV2.ft q3.2) q3.1 (by rw [List.length_append, List.length_append]; omega)
end
