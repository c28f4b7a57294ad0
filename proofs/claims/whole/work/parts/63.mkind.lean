/-! the reference: the kind of a cluster -/
def metQ (T : Nat → Nat) (i k s : Nat) : Bool := (fst (fun q => T q == T k) s i).isSome
theorem fst_snoc {p : Nat → Bool} : ∀ (n k : Nat), (fst p (n + 1) k).isSome = ((fst p n k).isSome || p (k + n))
  | 0, k => by
    rw [fst, fst, fst, Nat.add_zero]
    cases p k <;> rfl
  | n + 1, k => by
    rw [fst]
    have h := fst_snoc (p := p) n (k + 1)
    cases q : p k
    · rw [if_neg (by decide), h, fst, q, if_neg (by decide), show k + 1 + n = k + (n + 1) by omega]
    · rw [if_pos rfl, fst, q, if_pos rfl]
      rfl
theorem metQ_succ (T : Nat → Nat) (i k s : Nat) : metQ T i k (s + 1) = (metQ T i k s || (T (i + s) == T k)) := fst_snoc s i
theorem metQ_met (T : Nat → Nat) (i t : Nat) : metQ T i (i + t) t = metB T i (i + t) := by
  unfold metQ metB
  rw [Nat.add_sub_cancel_left]
theorem wid_sm (R : List Run) (i : Nat) (n : Nat) : sm (wid R) i n ≤ 4294967296 * n := by
  have := sm_le (f := wid R) (g := fun _ => 4294967296) (i := i) n (fun k h1 h2 => by
    have h1 := I_lo (rhi R k); have h2 := I_hi (rhi R k); have h3 := I_lo (rlo R k); have h4 := I_hi (rlo R k)
    unfold wid; omega)
  have e : ∀ m, sm (fun _ => 4294967296) i m = 4294967296 * m := by
    intro m
    induction m with
    | zero => rfl
    | succ m ih => rw [sm, ih]; omega
  rw [e] at this
  exact this
section
variable {G : xG} {h : xH} {R : List Run} {dens size : Nat}
theorem tX6_kindOf {cs cl rt rw wy rn kn ln pt tk os : Int32} (m : h.1 30 = mO cs cl rt rw (nI dens) (nI size) wy rn kn ln pt tk os) (hV : mRuns h R) (hl : R.length ≤ 24) (hI : RInv R) (hdn : dens ≤ 100) (hsz : size ≤ 256) {i n : Nat} (hn : i + n < R.length) : AM G mX6_kindOf 1 0 [.ref 30, .int (nI i), .int (nI (i + n))] h (fun r h' => r = some (.int (oI (kd R dens size i (i + n)))) ∧ h' = h) := by
  obtain ⟨lo, hi, tg, wt, m12, m13, m14, m15, hRep⟩ := hV
  have ra := hRep (i + n) hn
  have rb := hRep i (by omega)
  refine AM.of rfl rfl (Nat.le_of_ble_eq_true rfl) rfl ?_
  refine Ax_il1 dX6_kindOf_0 ?_
  refine Ax_il2 dX6_kindOf_1 ?_
  refine Ax_cmpnen (tgt := 7) dX6_kindOf_2 (by decide) (by omega) (by omega) (fun c2 => ?_) (fun c2 => ?_)
  rotate_left
  · have e : kd R dens size i (i + n) = some 0 := by unfold kd; rw [if_pos c2]
    rw [e]
    refine Ax_ic0 dX6_kindOf_5 ?_
    exact Ax_iret dX6_kindOf_6 rfl rfl ⟨rfl, rfl⟩
  have hsp : spn R i (i + n) ≤ 4294967296 := by
    have h1 := I_lo (rhi R (i + n)); have h2 := I_hi (rhi R (i + n)); have h3 := I_lo (rlo R i); have h4 := I_hi (rlo R i)
    unfold spn; omega
  have hmono := rlo_mono hI n i hn
  have h5 := (hI.1 (i + n) hn).1
  have e1 : (rhi R (i + n)).toInt64 - (rlo R i).toInt64 + lN 1 = lN (spn R i (i + n)) := L_wid (by omega)
  have hden : dens * spn R i (i + n) ≤ 100 * 4294967296 := Nat.mul_le_mul hdn hsp
  have hsL := L_lN (n := spn R i (i + n)) (by omega)
  have h64 : (64 : Int64).toInt = 64 := by decide
  have hzL := L_lN (n := size) (by omega)
  have hwid := wid_sm R i (n + 1)
  have hdc := dcnt_le (T := rtg R) (i := i) (n + 1)
  have ji : i + n - i + 1 = n + 1 := by omega
  refine Ax_al0 dX6_kindOf_7 ?_
  refine Ax_getf kfX6 fX6_39 dX6_kindOf_8 m rfl ?_
  refine Ax_il2 dX6_kindOf_11 ?_
  refine Ax_ialdn dX6_kindOf_12 m13 (by omega) (by omega) ?_
  refine Ax_top ra.2.1 ?_
  refine Ax_i2l dX6_kindOf_13 ?_
  refine Ax_al0 dX6_kindOf_14 ?_
  refine Ax_getf kfX6 fX6_36 dX6_kindOf_15 m rfl ?_
  refine Ax_il1 dX6_kindOf_18 ?_
  refine Ax_ialdn dX6_kindOf_19 m12 (by omega) (by omega) ?_
  refine Ax_top rb.1 ?_
  refine Ax_i2l dX6_kindOf_20 ?_
  refine Ax_lsub dX6_kindOf_21 ?_
  refine Ax_lc1 dX6_kindOf_22 ?_
  refine Ax_ladd dX6_kindOf_23 ?_
  refine Ax_topL (e1) ?_
  refine Ax_ls3 dX6_kindOf_24 (Nat.le_of_ble_eq_true rfl) (by rfl) ?_
  refine Ax_lc0 dX6_kindOf_25 ?_
  refine Ax_ls5 dX6_kindOf_26 (Nat.le_of_ble_eq_true rfl) (by rfl) ?_
  refine Ax_ic0 dX6_kindOf_28 ?_
  refine Ax_is7 dX6_kindOf_29 (Nat.le_of_ble_eq_true rfl) (by rfl) ?_
  refine Ax_il1 dX6_kindOf_31 ?_
  refine Ax_is8 dX6_kindOf_32 (Nat.le_of_ble_eq_true rfl) (by rfl) ?_
  suffices houter : ∀ z t x9 x10, t + z = n + 1 → Ax G mX6_kindOf 1 0 34 [.ref 30, .int (nI i), .int (nI (i + n)), .long (lN (spn R i (i + n))), .null, .long (lN (sm (wid R) i t)), .null, .int (nI (dcnt (rtg R) i t)), .int (nI (i + t)), x9, x10] [] h (fun r h' => r = some (.int (oI (kd R dens size i (i + n)))) ∧ h' = h) from
    houter (n + 1) 0 _ _ (Nat.zero_add _)
  intro z
  induction z with
  | zero =>
    intro t x9 x10 ht
    obtain rfl : t = n + 1 := by omega
    have hlate : ¬ (spn R i (i + n) ≤ 64 ∧ dcnt (rtg R) i (i + n - i + 1) ≤ 3) → Ax G mX6_kindOf 1 0 149 [.ref 30, .int (nI i), .int (nI (i + n)), .long (lN (spn R i (i + n))), .null, .long (lN (sm (wid R) i (n + 1))), .null, .int (nI (dcnt (rtg R) i (n + 1))), .int (nI (i + (n + 1))), x9, x10] [] h (fun r h' => r = some (.int (oI (kd R dens size i (i + n)))) ∧ h' = h) := by
      intro hno
      have e0 : kd R dens size i (i + n) = if spn R i (i + n) ≤ size ∧ dens * spn R i (i + n) ≤ 100 * sm (wid R) i (n + 1) then some 2 else none := by
        unfold kd
        rw [if_neg c2, if_neg hno, ji]
      rw [e0]
      refine Ax_ll3 dX6_kindOf_149 ?_
      refine Ax_al0 dX6_kindOf_150 ?_
      refine Ax_getf kfX6 fX6_33 dX6_kindOf_151 m rfl ?_
      refine Ax_i2ln dX6_kindOf_154 (by omega) ?_
      refine Ax_lcmp dX6_kindOf_155 ?_
      refine Ax_ifgtC (tgt := 180) dX6_kindOf_156 (by decide) (fun c156 => ?_) (fun c156 => ?_)
      · rw [if_neg (by omega)]
        refine Ax_icm1 dX6_kindOf_180 ?_
        exact Ax_iret dX6_kindOf_181 rfl rfl ⟨rfl, rfl⟩
      have a1 := L_lN (n := 100 * sm (wid R) i (n + 1)) (by omega)
      have a2 := L_lN (n := dens * spn R i (i + n)) (by omega)
      refine Ax_ldc2 dX6_kindOf_159 cX6_131 ?_
      refine Ax_topL (show (100 : Int64) = lN 100 from rfl) ?_
      refine Ax_ll5 dX6_kindOf_162 ?_
      refine Ax_lmuln dX6_kindOf_164 ?_
      refine Ax_al0 dX6_kindOf_165 ?_
      refine Ax_getf kfX6 fX6_30 dX6_kindOf_166 m rfl ?_
      refine Ax_i2ln dX6_kindOf_169 (by omega) ?_
      refine Ax_ll3 dX6_kindOf_170 ?_
      refine Ax_lmuln dX6_kindOf_171 ?_
      refine Ax_lcmp dX6_kindOf_172 ?_
      refine Ax_ifltC (tgt := 180) dX6_kindOf_173 (by decide) (fun c173 => ?_) (fun c173 => ?_)
      · rw [if_neg (by omega)]
        refine Ax_icm1 dX6_kindOf_180 ?_
        exact Ax_iret dX6_kindOf_181 rfl rfl ⟨rfl, rfl⟩
      · rw [if_pos ⟨by omega, by omega⟩]
        refine Ax_ic2 dX6_kindOf_176 ?_
        refine Ax_goto (tgt := 181) dX6_kindOf_177 (by decide) ?_
        exact Ax_iret dX6_kindOf_181 rfl rfl ⟨rfl, rfl⟩
    refine Ax_il8 dX6_kindOf_34 ?_
    refine Ax_il2 dX6_kindOf_36 ?_
    refine Ax_cmpgtn (tgt := 133) dX6_kindOf_37 (by decide) (by omega) (by omega) (fun c37 => ?_) (fun c37 => ?_)
    rotate_left
    · omega
    refine Ax_ll3 dX6_kindOf_133 ?_
    refine Ax_ldc2 dX6_kindOf_134 cX6_143 ?_
    refine Ax_lcmp dX6_kindOf_137 ?_
    refine Ax_ifgtC (tgt := 149) dX6_kindOf_138 (by decide) (fun c138 => ?_) (fun c138 => ?_)
    · exact hlate (by omega)
    refine Ax_il7 dX6_kindOf_141 ?_
    refine Ax_ic3 dX6_kindOf_143 ?_
    refine Ax_cmpgtn (tgt := 149) dX6_kindOf_144 (by decide) (by omega) (by omega) (fun c144 => ?_) (fun c144 => ?_)
    · exact hlate (by rw [ji]; omega)
    · have e : kd R dens size i (i + n) = some 1 := by unfold kd; rw [if_neg c2, if_pos ⟨by omega, by rw [ji]; omega⟩]
      rw [e]
      refine Ax_ic1 dX6_kindOf_147 ?_
      exact Ax_iret dX6_kindOf_148 rfl rfl ⟨rfl, rfl⟩
  | succ z ih =>
    intro t x9 x10 ht
    have rk := hRep (i + t) (by omega)
    have hww := (hI.1 (i + t) (by omega)).1
    refine Ax_il8 dX6_kindOf_34 ?_
    refine Ax_il2 dX6_kindOf_36 ?_
    refine Ax_cmpgtn (tgt := 133) dX6_kindOf_37 (by decide) (by omega) (by omega) (fun c37 => ?_) (fun c37 => ?_)
    · omega
    refine Ax_ll5 dX6_kindOf_40 ?_
    refine Ax_al0 dX6_kindOf_42 ?_
    refine Ax_getf kfX6 fX6_39 dX6_kindOf_43 m rfl ?_
    refine Ax_il8 dX6_kindOf_46 ?_
    refine Ax_ialdn dX6_kindOf_48 m13 (by omega) (by omega) ?_
    refine Ax_top rk.2.1 ?_
    refine Ax_i2l dX6_kindOf_49 ?_
    refine Ax_al0 dX6_kindOf_50 ?_
    refine Ax_getf kfX6 fX6_36 dX6_kindOf_51 m rfl ?_
    refine Ax_il8 dX6_kindOf_54 ?_
    refine Ax_ialdn dX6_kindOf_56 m12 (by omega) (by omega) ?_
    refine Ax_top rk.1 ?_
    refine Ax_i2l dX6_kindOf_57 ?_
    refine Ax_lsub dX6_kindOf_58 ?_
    refine Ax_lc1 dX6_kindOf_59 ?_
    refine Ax_ladd dX6_kindOf_60 ?_
    refine Ax_topL (show (rhi R (i + t)).toInt64 - (rlo R (i + t)).toInt64 + lN 1 = lN (wid R (i + t)) from L_wid hww) ?_
    refine Ax_laddn dX6_kindOf_61 ?_
    refine Ax_ls5 dX6_kindOf_62 (Nat.le_of_ble_eq_true rfl) (by rfl) ?_
    refine Ax_ic0 dX6_kindOf_64 ?_
    refine Ax_is9 dX6_kindOf_65 (Nat.le_of_ble_eq_true rfl) (by rfl) ?_
    refine Ax_il1 dX6_kindOf_67 ?_
    refine Ax_is10 dX6_kindOf_68 (Nat.le_of_ble_eq_true rfl) (by rfl) ?_
    suffices hinner : ∀ s q, q + s = t → Ax G mX6_kindOf 1 0 70 [.ref 30, .int (nI i), .int (nI (i + n)), .long (lN (spn R i (i + n))), .null, .long (lN (sm (wid R) i t + wid R (i + t))), .null, .int (nI (dcnt (rtg R) i t)), .int (nI (i + t)), .int (nI (metQ (rtg R) i (i + t) q).toNat), .int (nI (i + q))] [] h (fun r h' => r = some (.int (oI (kd R dens size i (i + n)))) ∧ h' = h) from
      hinner t 0 (Nat.zero_add _)
    intro s
    induction s with
    | zero =>
      intro q hq
      obtain rfl : q = t := by omega
      rw [metQ_met]
      refine Ax_il10 dX6_kindOf_70 ?_
      refine Ax_il8 dX6_kindOf_72 ?_
      refine Ax_cmpgen (tgt := 112) dX6_kindOf_74 (by decide) (by omega) (by omega) (fun c74 => ?_) (fun c74 => ?_)
      rotate_left
      · omega
      refine Ax_il7 dX6_kindOf_112 ?_
      refine Ax_il9 dX6_kindOf_114 ?_
      refine Ax_ifeqB (tgt := 123) dX6_kindOf_116 (by decide) (fun c116 => ?_) (fun c116 => ?_)
      · refine Ax_ic1 dX6_kindOf_123 ?_
        refine Ax_iaddn dX6_kindOf_124 ?_
        refine Ax_is7 dX6_kindOf_125 (Nat.le_of_ble_eq_true rfl) (by rfl) ?_
        refine Ax_inc8_1n dX6_kindOf_127 (Nat.le_of_ble_eq_true rfl) (by rfl) ?_
        refine Ax_goto (tgt := 34) dX6_kindOf_130 (by decide) ?_
        have hih := ih (q + 1) (.int (nI (metB (rtg R) i (i + q)).toNat)) (.int (nI (i + q))) (by omega)
        rw [sm, dcnt, c116] at hih
        rw [c116]
        exact hih
      · refine Ax_ic0 dX6_kindOf_119 ?_
        refine Ax_goto (tgt := 124) dX6_kindOf_120 (by decide) ?_
        refine Ax_iaddn dX6_kindOf_124 ?_
        refine Ax_is7 dX6_kindOf_125 (Nat.le_of_ble_eq_true rfl) (by rfl) ?_
        refine Ax_inc8_1n dX6_kindOf_127 (Nat.le_of_ble_eq_true rfl) (by rfl) ?_
        refine Ax_goto (tgt := 34) dX6_kindOf_130 (by decide) ?_
        have hih := ih (q + 1) (.int (nI (metB (rtg R) i (i + q)).toNat)) (.int (nI (i + q))) (by omega)
        rw [sm, dcnt, c116] at hih
        rw [c116]
        exact hih
    | succ s ihs =>
      intro q hq
      have rq := hRep (i + q) (by omega)
      have hq1 := (hI.1 (i + q) (by omega)).2
      have hq2 := (hI.1 (i + t) (by omega)).2
      refine Ax_il10 dX6_kindOf_70 ?_
      refine Ax_il8 dX6_kindOf_72 ?_
      refine Ax_cmpgen (tgt := 112) dX6_kindOf_74 (by decide) (by omega) (by omega) (fun c74 => ?_) (fun c74 => ?_)
      · omega
      refine Ax_il9 dX6_kindOf_77 ?_
      refine Ax_ifneB (tgt := 99) dX6_kindOf_79 (by decide) (fun c79 => ?_) (fun c79 => ?_)
      · have e : metQ (rtg R) i (i + t) (q + 1) = true := by rw [metQ_succ, c79]; rfl
        refine Ax_ic1 dX6_kindOf_99 ?_
        refine Ax_goto (tgt := 104) dX6_kindOf_100 (by decide) ?_
        refine Ax_is9 dX6_kindOf_104 (Nat.le_of_ble_eq_true rfl) (by rfl) ?_
        refine Ax_inc10_1n dX6_kindOf_106 (Nat.le_of_ble_eq_true rfl) (by rfl) ?_
        refine Ax_goto (tgt := 70) dX6_kindOf_109 (by decide) ?_
        have hih := ihs (q + 1) (by omega)
        rw [e] at hih
        exact hih
      · refine Ax_al0 dX6_kindOf_82 ?_
        refine Ax_getf kfX6 fX6_42 dX6_kindOf_83 m rfl ?_
        refine Ax_il10 dX6_kindOf_86 ?_
        refine Ax_ialdn dX6_kindOf_88 m14 (by omega) (by omega) ?_
        refine Ax_al0 dX6_kindOf_89 ?_
        refine Ax_getf kfX6 fX6_42 dX6_kindOf_90 m rfl ?_
        refine Ax_il8 dX6_kindOf_93 ?_
        refine Ax_ialdn dX6_kindOf_95 m14 (by omega) (by omega) ?_
        refine Ax_cmpne (tgt := 103) dX6_kindOf_96 (by decide) (fun c96 => ?_) (fun c96 => ?_)
        · have e : metQ (rtg R) i (i + t) (q + 1) = false := by
            rw [metQ_succ, c79, Bool.false_or, beq_eq_false_iff_ne]
            intro w
            rw [rq.2.2.1, rk.2.2.1, w] at c96
            exact c96 rfl
          refine Ax_ic0 dX6_kindOf_103 ?_
          refine Ax_is9 dX6_kindOf_104 (Nat.le_of_ble_eq_true rfl) (by rfl) ?_
          refine Ax_inc10_1n dX6_kindOf_106 (Nat.le_of_ble_eq_true rfl) (by rfl) ?_
          refine Ax_goto (tgt := 70) dX6_kindOf_109 (by decide) ?_
          have hih := ihs (q + 1) (by omega)
          rw [e] at hih
          exact hih
        · have e : metQ (rtg R) i (i + t) (q + 1) = true := by
            rw [metQ_succ, c79, Bool.false_or, beq_iff_eq]
            rw [rq.2.2.1, rk.2.2.1] at c96
            exact nI_inj (by omega) (by omega) c96
          refine Ax_ic1 dX6_kindOf_99 ?_
          refine Ax_goto (tgt := 104) dX6_kindOf_100 (by decide) ?_
          refine Ax_is9 dX6_kindOf_104 (Nat.le_of_ble_eq_true rfl) (by rfl) ?_
          refine Ax_inc10_1n dX6_kindOf_106 (Nat.le_of_ble_eq_true rfl) (by rfl) ?_
          refine Ax_goto (tgt := 70) dX6_kindOf_109 (by decide) ?_
          have hih := ihs (q + 1) (by omega)
          rw [e] at hih
          exact hih
end
