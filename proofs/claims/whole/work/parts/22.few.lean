theorem IsFew.le {m : Nat} {ok : Nat → Nat → Bool} {f e : Nat → Nat} {b : Nat} (h : IsFew m ok f e b) (hok : ∀ i, ok i i = true) : ∀ k i, i + k = m → b ≤ i → f i ≤ k
  | 0, i, hk, _ => by
    obtain rfl : i = m := by omega
    rw [h.1]; exact Nat.le_refl _
  | k + 1, i, hk, hb => by
    have := IsFew.le h hok k (i + 1) (by omega) (by omega)
    have := ((h.2 i hb (by omega)).2.2.2.2 i (Nat.le_refl _) (by omega) (hok i)).1
    omega
theorem IsBest.le {ok : Nat → Nat → Bool} {few : Nat → Nat} {i t v e : Nat} (h : IsBest ok few i t v e) (hok : ok i i = true) : v ≤ few (i + 1) + 1 := (h.2.2.2.2 i (Nat.le_refl _) (by omega) hok).1
section
variable {G : xG} {h : xH} {o ro : Nat} {kn fi la we fw en : Nat → Int32} {hd : Int32} {R : List Run}
theorem tX0_findFewest {dens size : Nat} (hS : vCl h o ro kn fi la we fw en (nI dens) (nI size) hd) (hV : vRuns h ro R) (hro : ro + 5 ≤ o ∨ o + 7 ≤ ro) (hl : R.length ≤ 24) (hI : RInv R) (hdn : dens ≤ 100) (hsz : size ≤ 256) : AM G mX0_findFewest 3 0 [.ref o] h
    (fun r h' => r = none ∧ ∃ fw' en', vCl h' o ro kn fi la we fw' en' (nI dens) (nI size) hd ∧ (∃ few e, IsFew R.length (okB R dens size) few e 0 ∧ ∀ k, k < R.length → en' k = nI (e k)) ∧ xFr o 7 h h') := by
  obtain ⟨s, s1, s2, s3, s4, s5, s6⟩ := id hS
  have r0 := hV.obj
  have hok := okB_self R dens size
  refine AM.of rfl rfl (Nat.le_of_ble_eq_true rfl) rfl ?_
  refine Ax_al0 dX0_findFewest_0 ?_
  refine Ax_getf kfX0 fX0_40 dX0_findFewest_1 s rfl ?_
  refine Ax_cVi dX0_findFewest_4 vX0_62 kfX2 r0 (tR_held hV) rfl rfl (by decide) (by simp [Value.category]) ?_
  refine Ax_bp24 dX0_findFewest_7 ?_
  refine Ax_mmin dX0_findFewest_9 sX0_72 (by decide) (by simp [Value.category]) ?_
  refine Ax_top (show (if nI 24 < nI R.length then nI 24 else nI R.length) = nI R.length by rw [if_neg (by rw [nI_ltI (by decide) (by omega)]; omega)]) ?_
  refine Ax_is1 dX0_findFewest_12 (Nat.le_of_ble_eq_true rfl) (by rfl) ?_
  refine Ax_il1 dX0_findFewest_13 ?_
  refine Ax_ifltn (tgt := 30) dX0_findFewest_14 (by decide) (by omega) ?_
  refine Ax_il1 dX0_findFewest_17 ?_
  refine Ax_bp24 dX0_findFewest_18 ?_
  refine Ax_cmpgtn (tgt := 30) dX0_findFewest_20 (by decide) (by omega) (by omega) (fun c20 => ?_) (fun c20 => ?_)
  · omega
  have fr : ∀ q, (q < o ∨ o + 7 ≤ q) → h.1 q = h.1 q := fun _ _ => rfl
  have zr : h.2 = h.2 := rfl
  refine Ax_al0 dX0_findFewest_23 ?_
  refine Ax_getf kfX0 fX0_24 dX0_findFewest_24 s rfl ?_
  refine Ax_il1 dX0_findFewest_27 ?_
  refine Ax_ic0 dX0_findFewest_28 ?_
  refine Ax_iastn dX0_findFewest_29 s5 (by omega) (by omega) (Ax_up (fun h2 e2 f2 z2 => ?_))
  replace s := (f2 _ (by omega)).trans s
  replace s1 := (f2 _ (by omega)).trans s1
  replace s2 := (f2 _ (by omega)).trans s2
  replace s3 := (f2 _ (by omega)).trans s3
  replace s4 := (f2 _ (by omega)).trans s4
  replace s5 := e2
  replace s6 := (f2 _ (by omega)).trans s6
  replace r0 := (f2 _ (by omega)).trans r0
  replace fr : ∀ q, (q < o ∨ o + 7 ≤ q) → h2.1 q = h.1 q := fun q hq => (f2 q (by omega)).trans (fr q hq)
  replace zr := z2.trans zr
  refine Ax_il1 dX0_findFewest_30 ?_
  refine Ax_ic1 dX0_findFewest_31 ?_
  refine Ax_isub dX0_findFewest_32 ?_
  refine Ax_is2 dX0_findFewest_33 (Nat.le_of_ble_eq_true rfl) (by rfl) ?_
  suffices hloop : ∀ b h1 fw en few e, b ≤ R.length → vCl h1 o ro kn fi la we fw en (nI dens) (nI size) hd → xFr o 7 h h1 → IsFew R.length (okB R dens size) few e b → (∀ k, b ≤ k → k ≤ R.length → fw k = nI (few k)) → (∀ k, b ≤ k → k < R.length → en k = nI (e k)) → ∀ v, Ax G mX0_findFewest 3 0 34 [.ref o, .int (nI R.length), .int (nI b - nI 1), v] [] h1 (fun r h' => r = none ∧ ∃ fw' en', vCl h' o ro kn fi la we fw' en' (nI dens) (nI size) hd ∧ (∃ few e, IsFew R.length (okB R dens size) few e 0 ∧ ∀ k, k < R.length → en' k = nI (e k)) ∧ xFr o 7 h h') by
    refine hloop R.length h2 _ _ (fun _ => 0) (fun _ => 0) (Nat.le_refl _) ⟨s, s1, s2, s3, s4, s5, s6⟩ ⟨fr, zr⟩ ⟨rfl, fun i q1 q2 => by omega⟩ (fun k q1 q2 => ?_) (fun k q1 q2 => by omega) _
    obtain rfl : k = R.length := by omega
    exact pk_us
  clear fr zr s s1 s2 s3 s4 s5 s6 e2 f2 z2
  intro b
  induction b with
  | zero =>
    intro h1 fw en few e hb hS hF hfe hfw hen v
    refine Ax_il2 dX0_findFewest_34 ?_
    refine Ax_iflt (tgt := 134) dX0_findFewest_35 (by decide) (fun c35 => ?_) (fun c35 => ?_)
    · exact Ax_ret dX0_findFewest_134 rfl ⟨rfl, fw, en, hS, ⟨few, e, hfe, fun k hk => hen k (Nat.zero_le _) hk⟩, hF⟩
    · exact absurd (by decide) c35
  | succ i ih =>
    intro h1 fw en few e hb hS hF hfe hfw hen v
    rw [show nI (i + 1) - nI 1 = nI i by rw [pk_sub (by omega)]; rfl]
    obtain ⟨s, s1, s2, s3, s4, s5, s6⟩ := id hS
    have hV1 := hV.fr hF hro
    have r0 := hV1.obj
    have hle : ∀ k, i + 1 ≤ k → k ≤ R.length → few k ≤ 24 := fun k q1 q2 => by
      have := hfe.le hok (R.length - k) k (by omega) q1
      omega
    have fr : ∀ q, (q < o ∨ o + 7 ≤ q) → h1.1 q = h1.1 q := fun _ _ => rfl
    have zr : h1.2 = h1.2 := rfl
    refine Ax_il2 dX0_findFewest_34 ?_
    refine Ax_ifltn (tgt := 134) dX0_findFewest_35 (by decide) (by omega) ?_
    refine Ax_al0 dX0_findFewest_38 ?_
    refine Ax_getf kfX0 fX0_24 dX0_findFewest_39 s rfl ?_
    refine Ax_il2 dX0_findFewest_42 ?_
    refine Ax_al0 dX0_findFewest_43 ?_
    refine Ax_getf kfX0 fX0_24 dX0_findFewest_44 s rfl ?_
    refine Ax_il2 dX0_findFewest_47 ?_
    refine Ax_ic1 dX0_findFewest_48 ?_
    refine Ax_iaddn dX0_findFewest_49 ?_
    refine Ax_ialdn dX0_findFewest_50 s5 (by omega) (by omega) ?_
    refine Ax_top (hfw (i + 1) (by omega) (by omega)) ?_
    refine Ax_ic1 dX0_findFewest_51 ?_
    refine Ax_iaddn dX0_findFewest_52 ?_
    refine Ax_iastn dX0_findFewest_53 s5 (by omega) (by omega) (Ax_up (fun h11 e11 f11 z11 => ?_))
    replace s := (f11 _ (by omega)).trans s
    replace s1 := (f11 _ (by omega)).trans s1
    replace s2 := (f11 _ (by omega)).trans s2
    replace s3 := (f11 _ (by omega)).trans s3
    replace s4 := (f11 _ (by omega)).trans s4
    replace s5 := e11
    replace s6 := (f11 _ (by omega)).trans s6
    replace r0 := (f11 _ (by omega)).trans r0
    replace fr : ∀ q, (q < o ∨ o + 7 ≤ q) → h11.1 q = h1.1 q := fun q hq => (f11 q (by omega)).trans (fr q hq)
    replace zr := z11.trans zr
    refine Ax_al0 dX0_findFewest_54 ?_
    refine Ax_getf kfX0 fX0_27 dX0_findFewest_55 s rfl ?_
    refine Ax_il2 dX0_findFewest_58 ?_
    refine Ax_il2 dX0_findFewest_59 ?_
    refine Ax_iastn dX0_findFewest_60 s6 (by omega) (by omega) (Ax_up (fun h12 e12 f12 z12 => ?_))
    replace s := (f12 _ (by omega)).trans s
    replace s1 := (f12 _ (by omega)).trans s1
    replace s2 := (f12 _ (by omega)).trans s2
    replace s3 := (f12 _ (by omega)).trans s3
    replace s4 := (f12 _ (by omega)).trans s4
    replace s5 := (f12 _ (by omega)).trans s5
    replace s6 := e12
    replace r0 := (f12 _ (by omega)).trans r0
    replace fr : ∀ q, (q < o ∨ o + 7 ≤ q) → h12.1 q = h1.1 q := fun q hq => (f12 q (by omega)).trans (fr q hq)
    replace zr := z12.trans zr
    refine Ax_il2 dX0_findFewest_61 ?_
    refine Ax_ic1 dX0_findFewest_62 ?_
    refine Ax_iaddn dX0_findFewest_63 ?_
    refine Ax_is3 dX0_findFewest_64 (Nat.le_of_ble_eq_true rfl) (by rfl) ?_
    suffices hin : ∀ w t h2 fw2 en2 x e', i + 1 + t + w = R.length → vCl h2 o ro kn fi la we fw2 en2 (nI dens) (nI size) hd → xFr o 7 h h2 → IsBest (okB R dens size) few i t x e' → fw2 i = nI x → en2 i = nI e' → (∀ k, i < k → fw2 k = fw k) → (∀ k, i < k → en2 k = en k) → Ax G mX0_findFewest 3 0 65 [.ref o, .int (nI R.length), .int (nI i), .int (nI (i + 1 + t))] [] h2 (fun r h' => r = none ∧ ∃ fw' en', vCl h' o ro kn fi la we fw' en' (nI dens) (nI size) hd ∧ (∃ few e, IsFew R.length (okB R dens size) few e 0 ∧ ∀ k, k < R.length → en' k = nI (e k)) ∧ xFr o 7 h h') by
      refine hin (R.length - (i + 1)) 0 h12 _ _ _ _ (by omega) ⟨s, s1, s2, s3, s4, s5, s6⟩ (hF.tr ⟨fr, zr⟩) (IsBest.zero (hok i)) pk_us pk_us (fun k hk => pk_un (by omega)) (fun k hk => pk_un (by omega))
    clear fr zr s s1 s2 s3 s4 s5 s6 r0 e11 f11 z11 e12 f12 z12 hV1 hS hF
    intro w
    induction w with
    | zero =>
      intro t h2 fw2 en2 x e' hk hS2 hF2 hbest b1 b2 b3 b4
      refine Ax_il3 dX0_findFewest_65 ?_
      refine Ax_il1 dX0_findFewest_66 ?_
      refine Ax_cmpgen (tgt := 128) dX0_findFewest_67 (by decide) (by omega) (by omega) (fun c67 => ?_) (fun c67 => ?_)
      · refine Ax_inc2_m1 dX0_findFewest_128 (Nat.le_of_ble_eq_true rfl) (by rfl) ?_
        refine Ax_goto (tgt := 34) dX0_findFewest_131 (by decide) ?_
        rw [show (nI i + (-1) : Int32) = nI i - nI 1 by rw [Int32.sub_eq_add_neg]; rfl]
        have hstep := IsFew.step (few' := fun k => if k = i then x else few k) (en' := fun k => if k = i then e' else e k) hfe (by omega) (by rw [show R.length - 1 - i = t by omega]; exact hbest) (fun k hk => if_neg (by omega)) (if_pos rfl) (fun k hk => if_neg (by omega)) (if_pos rfl)
        refine ih h2 fw2 en2 _ _ (by omega) hS2 hF2 hstep (fun k q1 q2 => ?_) (fun k q1 q2 => ?_) _
        · by_cases hki : k = i
          · subst hki; rw [if_pos rfl]; exact b1
          · rw [if_neg hki, b3 k (by omega)]; exact hfw k (by omega) q2
        · by_cases hki : k = i
          · subst hki; rw [if_pos rfl]; exact b2
          · rw [if_neg hki, b4 k (by omega)]; exact hen k (by omega) q2
      · omega
    | succ w ihw =>
      intro t h2 fw2 en2 x e' hk hS2 hF2 hbest b1 b2 b3 b4
      obtain ⟨s, s1, s2, s3, s4, s5, s6⟩ := id hS2
      have hV2 := hV.fr hF2 hro
      have r0 := hV2.obj
      have hx := hbest.le (hok i)
      have hle1 := hle (i + 1) (by omega) (by omega)
      have hle2 := hle (i + 1 + t + 1) (by omega) (by omega)
      have hf1 : fw2 (i + 1 + t + 1) = nI (few (i + 1 + t + 1)) := by rw [b3 _ (by omega)]; exact hfw _ (by omega) (by omega)
      have htj : i + t + 1 = i + 1 + t := by omega
      have hkeep : (x < few (i + t + 1 + 1) + 1 ∨ okB R dens size i (i + t + 1) = false) → Ax G mX0_findFewest 3 0 122 [.ref o, .int (nI R.length), .int (nI i), .int (nI (i + 1 + t))] [] h2 (fun r h' => r = none ∧ ∃ fw' en', vCl h' o ro kn fi la we fw' en' (nI dens) (nI size) hd ∧ (∃ few e, IsFew R.length (okB R dens size) few e 0 ∧ ∀ k, k < R.length → en' k = nI (e k)) ∧ xFr o 7 h h') := by
        intro q
        refine Ax_inc3_1n dX0_findFewest_122 (Nat.le_of_ble_eq_true rfl) (by rfl) ?_
        refine Ax_goto (tgt := 65) dX0_findFewest_125 (by decide) ?_
        exact ihw (t + 1) h2 fw2 en2 x e' (by omega) hS2 hF2 (hbest.keep q) b1 b2 b3 b4
      have hkd := tX0_kindOf (G := G) hS2 hV2 hl hI hdn hsz (i := i) (n := 1 + t) (by omega)
      rw [show i + (1 + t) = i + 1 + t by omega] at hkd
      refine Ax_il3 dX0_findFewest_65 ?_
      refine Ax_il1 dX0_findFewest_66 ?_
      refine Ax_cmpgen (tgt := 128) dX0_findFewest_67 (by decide) (by omega) (by omega) (fun c67 => ?_) (fun c67 => ?_)
      · omega
      refine Ax_al0 dX0_findFewest_70 ?_
      refine Ax_getf kfX0 fX0_24 dX0_findFewest_71 s rfl ?_
      refine Ax_il3 dX0_findFewest_74 ?_
      refine Ax_ic1 dX0_findFewest_75 ?_
      refine Ax_iaddn dX0_findFewest_76 ?_
      refine Ax_ialdn dX0_findFewest_77 s5 (by omega) (by omega) ?_
      refine Ax_top (hf1) ?_
      refine Ax_ic1 dX0_findFewest_78 ?_
      refine Ax_iaddn dX0_findFewest_79 ?_
      refine Ax_al0 dX0_findFewest_80 ?_
      refine Ax_getf kfX0 fX0_24 dX0_findFewest_81 s rfl ?_
      refine Ax_il2 dX0_findFewest_84 ?_
      refine Ax_ialdn dX0_findFewest_85 s5 (by omega) (by omega) ?_
      refine Ax_top (b1) ?_
      refine Ax_cmpgtn (tgt := 122) dX0_findFewest_86 (by decide) (by omega) (by omega) (fun c86 => ?_) (fun c86 => ?_)
      · exact hkeep (Or.inl (by rw [htj]; omega))
      refine Ax_al0 dX0_findFewest_89 ?_
      refine Ax_il2 dX0_findFewest_90 ?_
      refine Ax_il3 dX0_findFewest_91 ?_
      refine Ax_cVi dX0_findFewest_92 vX0_65 kfX0 s hkd rfl rfl (by decide) (by simp [Value.category]) ?_
      refine Ax_icm1 dX0_findFewest_95 ?_
      refine Ax_cmpeq (tgt := 122) dX0_findFewest_96 (by decide) (fun c96 => ?_) (fun c96 => ?_)
      · refine hkeep (Or.inr ?_)
        rw [htj]
        unfold okB
        cases hq : kd R dens size i (i + 1 + t) with
        | none => rfl
        | some z =>
          exfalso
          rw [hq] at c96
          have h8 : z < 3 := by
            unfold kd at hq
            split at hq
            · cases hq; decide
            · split at hq
              · cases hq; decide
              · split at hq
                · cases hq; decide
                · cases hq
          have := congrArg Int32.toInt c96
          rw [show oI (some z) = nI z from rfl, nI_toInt (by omega)] at this
          have h7 : (-1 : Int32).toInt = -1 := rfl
          omega
      have hokj : okB R dens size i (i + t + 1) = true := by
        rw [htj]
        unfold okB
        cases hq : kd R dens size i (i + 1 + t) with
        | none => rw [hq] at c96; exact absurd rfl c96
        | some z => rfl
      have fr : ∀ q, (q < o ∨ o + 7 ≤ q) → h2.1 q = h2.1 q := fun _ _ => rfl
      have zr : h2.2 = h2.2 := rfl
      refine Ax_al0 dX0_findFewest_99 ?_
      refine Ax_getf kfX0 fX0_24 dX0_findFewest_100 s rfl ?_
      refine Ax_il2 dX0_findFewest_103 ?_
      refine Ax_al0 dX0_findFewest_104 ?_
      refine Ax_getf kfX0 fX0_24 dX0_findFewest_105 s rfl ?_
      refine Ax_il3 dX0_findFewest_108 ?_
      refine Ax_ic1 dX0_findFewest_109 ?_
      refine Ax_iaddn dX0_findFewest_110 ?_
      refine Ax_ialdn dX0_findFewest_111 s5 (by omega) (by omega) ?_
      refine Ax_top (hf1) ?_
      refine Ax_ic1 dX0_findFewest_112 ?_
      refine Ax_iaddn dX0_findFewest_113 ?_
      refine Ax_iastn dX0_findFewest_114 s5 (by omega) (by omega) (Ax_up (fun h31 e31 f31 z31 => ?_))
      replace s := (f31 _ (by omega)).trans s
      replace s1 := (f31 _ (by omega)).trans s1
      replace s2 := (f31 _ (by omega)).trans s2
      replace s3 := (f31 _ (by omega)).trans s3
      replace s4 := (f31 _ (by omega)).trans s4
      replace s5 := e31
      replace s6 := (f31 _ (by omega)).trans s6
      replace r0 := (f31 _ (by omega)).trans r0
      replace fr : ∀ q, (q < o ∨ o + 7 ≤ q) → h31.1 q = h2.1 q := fun q hq => (f31 q (by omega)).trans (fr q hq)
      replace zr := z31.trans zr
      refine Ax_al0 dX0_findFewest_115 ?_
      refine Ax_getf kfX0 fX0_27 dX0_findFewest_116 s rfl ?_
      refine Ax_il2 dX0_findFewest_119 ?_
      refine Ax_il3 dX0_findFewest_120 ?_
      refine Ax_iastn dX0_findFewest_121 s6 (by omega) (by omega) (Ax_up (fun h32 e32 f32 z32 => ?_))
      replace s := (f32 _ (by omega)).trans s
      replace s1 := (f32 _ (by omega)).trans s1
      replace s2 := (f32 _ (by omega)).trans s2
      replace s3 := (f32 _ (by omega)).trans s3
      replace s4 := (f32 _ (by omega)).trans s4
      replace s5 := (f32 _ (by omega)).trans s5
      replace s6 := e32
      replace r0 := (f32 _ (by omega)).trans r0
      replace fr : ∀ q, (q < o ∨ o + 7 ≤ q) → h32.1 q = h2.1 q := fun q hq => (f32 q (by omega)).trans (fr q hq)
      replace zr := z32.trans zr
      refine Ax_inc3_1n dX0_findFewest_122 (Nat.le_of_ble_eq_true rfl) (by rfl) ?_
      refine Ax_goto (tgt := 65) dX0_findFewest_125 (by decide) ?_
      have hbn := hbest.new (by rw [htj]; omega) hokj
      rw [htj] at hbn
      exact ihw (t + 1) _ _ _ _ _ (by omega) ⟨s, s1, s2, s3, s4, s5, s6⟩ (hF2.tr ⟨fr, zr⟩) hbn pk_us pk_us (fun k hk => (pk_un (by omega)).trans (b3 k hk)) (fun k hk => (pk_un (by omega)).trans (b4 k hk))
end
