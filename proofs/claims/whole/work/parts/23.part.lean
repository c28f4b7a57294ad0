/-! the clusters laid down -/
theorem cf_app (d : List (Nat × Nat)) (p : Nat × Nat) (t : List (Nat × Nat)) : cf (d ++ p :: t) d.length = p.1 ∧ cl (d ++ p :: t) d.length = p.2 := by
  unfold cf cl
  rw [List.getD_eq_getElem?_getD, List.getElem?_append_right (Nat.le_refl _), Nat.sub_self]
  exact ⟨rfl, rfl⟩
def ClRep (R : List Run) (dens size : Nat) (K : List (Nat × Nat)) (kn fi la we : Nat → Int32) (n : Nat) : Prop :=
  ∀ c, c < n → kn c = oI (kd R dens size (cf K c) (cl K c)) ∧ fi c = nI (cf K c) ∧ la c = nI (cl K c) ∧ we c = nI (sm (rwt R) (cf K c) (cl K c - cf K c + 1))
/-- Clusters that hold the clusters of the runs R -/
def vCls (h : xH) (o ro : Nat) (R : List Run) (dens size : Nat) : Prop := ∃ kn fi la we fw en, vCl h o ro kn fi la we fw en (nI dens) (nI size) (nI (clsOf R dens size).length) ∧ ClRep R dens size (clsOf R dens size) kn fi la we (clsOf R dens size).length
theorem vCls.fr {h h' : xH} {o ro o' w : Nat} {R : List Run} {dens size : Nat} (hS : vCls h o ro R dens size) (hF : xFr o' w h h') (hq : o + 7 ≤ o' ∨ o' + w ≤ o) : vCls h' o ro R dens size := by
  obtain ⟨kn, fi, la, we, fw, en, h1, h2⟩ := hS
  exact ⟨kn, fi, la, we, fw, en, h1.fr hF hq, h2⟩
section
variable {G : xG} {h : xH} {o ro : Nat} {kn fi la we fw en : Nat → Int32} {dn sz hd : Int32} {R : List Run}
theorem tX0_part {dens size : Nat} (hS : vCl h o ro kn fi la we fw en dn sz hd) (hV : vRuns h ro R) (hro : ro + 5 ≤ o ∨ o + 7 ≤ ro) (hl : R.length ≤ 24) (hI : RInv R) (hdn : dens ≤ 100) (hsz : size ≤ 256) : AM G mX0_part 4 0 [.ref o, .int (nI dens), .int (nI size)] h
    (fun r h' => r = none ∧ vCls h' o ro R dens size ∧ xFr o 7 h h') := by
  obtain ⟨s, s1, s2, s3, s4, s5, s6⟩ := id hS
  have r0 := hV.obj
  have hok := okB_self R dens size
  refine AM.of rfl rfl (Nat.le_of_ble_eq_true rfl) rfl ?_
  have fr : ∀ q, (q < o ∨ o + 7 ≤ q) → h.1 q = h.1 q := fun _ _ => rfl
  have zr : h.2 = h.2 := rfl
  refine Ax_al0 dX0_part_0 ?_
  refine Ax_il1 dX0_part_1 ?_
  refine Ax_putf kfX0 fX0_30 dX0_part_2 s (Nat.le_of_ble_eq_true rfl) (Or.inl rfl) (by rfl) (by rfl) (Ax_up (fun h1 e1 f1 z1 => ?_))
  replace s := e1
  replace s1 := (f1 _ (by omega)).trans s1
  replace s2 := (f1 _ (by omega)).trans s2
  replace s3 := (f1 _ (by omega)).trans s3
  replace s4 := (f1 _ (by omega)).trans s4
  replace s5 := (f1 _ (by omega)).trans s5
  replace s6 := (f1 _ (by omega)).trans s6
  replace fr : ∀ q, (q < o ∨ o + 7 ≤ q) → h1.1 q = h.1 q := fun q hq => (f1 q (by omega)).trans (fr q hq)
  replace zr := z1.trans zr
  refine Ax_al0 dX0_part_5 ?_
  refine Ax_il2 dX0_part_6 ?_
  refine Ax_putf kfX0 fX0_34 dX0_part_7 s (Nat.le_of_ble_eq_true rfl) (Or.inl rfl) (by rfl) (by rfl) (Ax_up (fun h2 e2 f2 z2 => ?_))
  replace s := e2
  replace s1 := (f2 _ (by omega)).trans s1
  replace s2 := (f2 _ (by omega)).trans s2
  replace s3 := (f2 _ (by omega)).trans s3
  replace s4 := (f2 _ (by omega)).trans s4
  replace s5 := (f2 _ (by omega)).trans s5
  replace s6 := (f2 _ (by omega)).trans s6
  replace fr : ∀ q, (q < o ∨ o + 7 ≤ q) → h2.1 q = h.1 q := fun q hq => (f2 q (by omega)).trans (fr q hq)
  replace zr := z2.trans zr
  refine Ax_al0 dX0_part_10 ?_
  refine Ax_cVv dX0_part_11 vX0_59 kfX0 s (tX0_findFewest (G := G) (h := h2) ⟨s, s1, s2, s3, s4, s5, s6⟩ (hV.fr ⟨fr, zr⟩ hro) hro hl hI hdn hsz) rfl rfl (by decide) (by simp [Value.category]) (Nat.le_refl _) (fun h3 q3 => ?_)
  obtain ⟨fw', en', hS3, ⟨few, e, hfe, hen⟩, hF3⟩ := q3
  have hF3' : xFr o 7 h h3 := xFr.tr ⟨fr, zr⟩ hF3
  clear fr zr s s1 s2 s3 s4 s5 s6 r0
  obtain ⟨s, s1, s2, s3, s4, s5, s6⟩ := id hS3
  have hee : ∀ k, k < R.length → e k = (fewP R dens size).2 k := fun k hk => ((hfe.uniq (fewP_is R dens size)) (R.length - k) k (by omega) (Nat.zero_le _)).2 hk
  have hK : clsOf R dens size = clF e R.length R.length 0 := by unfold clsOf; rw [clF_congr (fun i hi => (hee i hi).symm)]
  have hlenK : (clsOf R dens size).length ≤ 24 := Nat.le_trans (cls_len R dens size) hl
  have fr : ∀ q, (q < o ∨ o + 7 ≤ q) → h3.1 q = h3.1 q := fun _ _ => rfl
  have zr : h3.2 = h3.2 := rfl
  have hexit : ∀ (done : List (Nat × Nat)) h1 kn fi la we, done.length ≤ R.length → clsOf R dens size = done → vCl h1 o ro kn fi la we fw' en' (nI dens) (nI size) (nI done.length) → ClRep R dens size (clsOf R dens size) kn fi la we done.length → xFr o 7 h h1 → Ax G mX0_part 4 0 24 [.ref o, .int (nI dens), .int (nI size), .int (nI R.length), .int (nI done.length)] [] h1 (fun r h' => r = none ∧ vCls h' o ro R dens size ∧ xFr o 7 h h') := by
    intro done h1 kn fi la we hdi hKd hS hRep hF
    have hfin : vCls h1 o ro R dens size := by
      refine ⟨kn, fi, la, we, fw', en', ?_, ?_⟩
      · rw [hKd]; exact hS
      · rw [hKd] at hRep ⊢; exact hRep
    obtain ⟨s, -⟩ := id hS
    have hV1 := hV.fr hF hro
    have r0 := hV1.obj
    refine Ax_il4 dX0_part_24 ?_
    refine Ax_bp24 dX0_part_26 ?_
    refine Ax_cmpgen (tgt := 137) dX0_part_28 (by decide) (by omega) (by omega) (fun c28 => ?_) (fun c28 => ?_)
    · exact Ax_ret dX0_part_137 rfl ⟨rfl, hfin, hF⟩
    refine Ax_il3 dX0_part_31 ?_
    refine Ax_ifltn (tgt := 137) dX0_part_32 (by decide) (by omega) ?_
    refine Ax_il3 dX0_part_35 ?_
    refine Ax_al0 dX0_part_36 ?_
    refine Ax_getf kfX0 fX0_40 dX0_part_37 s rfl ?_
    refine Ax_cVi dX0_part_40 vX0_62 kfX2 r0 (tR_held hV1) rfl rfl (by decide) (by simp [Value.category]) ?_
    refine Ax_cmpgen (tgt := 137) dX0_part_43 (by decide) (by omega) (by omega) (fun c43 => ?_) (fun c43 => ?_)
    · exact Ax_ret dX0_part_137 rfl ⟨rfl, hfin, hF⟩
    · omega
  refine Ax_al0 dX0_part_14 ?_
  refine Ax_ic0 dX0_part_15 ?_
  refine Ax_putf kfX0 fX0_37 dX0_part_16 s (Nat.le_of_ble_eq_true rfl) (Or.inl rfl) (by rfl) (by rfl) (Ax_up (fun h6 e6 f6 z6 => ?_))
  replace s := e6
  replace s1 := (f6 _ (by omega)).trans s1
  replace s2 := (f6 _ (by omega)).trans s2
  replace s3 := (f6 _ (by omega)).trans s3
  replace s4 := (f6 _ (by omega)).trans s4
  replace s5 := (f6 _ (by omega)).trans s5
  replace s6 := (f6 _ (by omega)).trans s6
  replace fr : ∀ q, (q < o ∨ o + 7 ≤ q) → h6.1 q = h3.1 q := fun q hq => (f6 q (by omega)).trans (fr q hq)
  replace zr := z6.trans zr
  refine Ax_ic0 dX0_part_19 ?_
  refine Ax_is3 dX0_part_20 (Nat.le_of_ble_eq_true rfl) (by rfl) ?_
  refine Ax_ic0 dX0_part_21 ?_
  refine Ax_is4 dX0_part_22 (Nat.le_of_ble_eq_true rfl) (by rfl) ?_
  suffices hloop : ∀ n i done h1 kn fi la we, i ≤ R.length → R.length ≤ i + n → done.length ≤ i → clsOf R dens size = done ++ clF e R.length n i → vCl h1 o ro kn fi la we fw' en' (nI dens) (nI size) (nI done.length) → ClRep R dens size (clsOf R dens size) kn fi la we done.length → xFr o 7 h h1 → Ax G mX0_part 4 0 24 [.ref o, .int (nI dens), .int (nI size), .int (nI i), .int (nI done.length)] [] h1 (fun r h' => r = none ∧ vCls h' o ro R dens size ∧ xFr o 7 h h') from
    hloop R.length 0 [] _ _ _ _ _ (Nat.zero_le _) (by omega) (Nat.le_refl _) hK ⟨s, s1, s2, s3, s4, s5, s6⟩ (fun c hc => (Nat.not_lt_zero _ hc).elim) (hF3'.tr ⟨fr, zr⟩)
  clear fr zr s s1 s2 s3 s4 s5 s6 e6 f6 z6 hS3 hF3 hF3' hS
  intro n
  induction n with
  | zero =>
    intro i done h1 kn fi la we hi hin hdi hKd hS hRep hF
    obtain rfl : i = R.length := by omega
    rw [clF, List.append_nil] at hKd
    exact hexit done h1 kn fi la we hdi hKd hS hRep hF
  | succ n ih =>
    intro i done h1 kn fi la we hi hin hdi hKd hS hRep hF
    by_cases him : i < R.length
    · rw [clF, if_pos him] at hKd
      obtain ⟨a1, a2, a3, -⟩ := hfe.2 i (Nat.zero_le _) him
      obtain ⟨k1, k2⟩ := cf_app done (i, e i) (clF e R.length n (e i + 1))
      rw [← hKd] at k1 k2
      obtain ⟨s, s1, s2, s3, s4, s5, s6⟩ := id hS
      have hV1 := hV.fr hF hro
      have r0 := hV1.obj
      have hkd := tX0_kindOf (G := G) hS hV1 hl hI hdn hsz (i := i) (n := e i - i) (by omega)
      rw [show i + (e i - i) = e i by omega] at hkd
      refine Ax_il4 dX0_part_24 ?_
      refine Ax_bp24 dX0_part_26 ?_
      refine Ax_cmpgen (tgt := 137) dX0_part_28 (by decide) (by omega) (by omega) (fun c28 => ?_) (fun c28 => ?_)
      · omega
      refine Ax_il3 dX0_part_31 ?_
      refine Ax_ifltn (tgt := 137) dX0_part_32 (by decide) (by omega) ?_
      refine Ax_il3 dX0_part_35 ?_
      refine Ax_al0 dX0_part_36 ?_
      refine Ax_getf kfX0 fX0_40 dX0_part_37 s rfl ?_
      refine Ax_cVi dX0_part_40 vX0_62 kfX2 r0 (tR_held hV1) rfl rfl (by decide) (by simp [Value.category]) ?_
      refine Ax_cmpgen (tgt := 137) dX0_part_43 (by decide) (by omega) (by omega) (fun c43 => ?_) (fun c43 => ?_)
      · omega
      refine Ax_il3 dX0_part_46 ?_
      refine Ax_bp24 dX0_part_47 ?_
      refine Ax_cmpgen (tgt := 137) dX0_part_49 (by decide) (by omega) (by omega) (fun c49 => ?_) (fun c49 => ?_)
      · omega
      have fr : ∀ q, (q < o ∨ o + 7 ≤ q) → h1.1 q = h1.1 q := fun _ _ => rfl
      have zr : h1.2 = h1.2 := rfl
      refine Ax_al0 dX0_part_52 ?_
      refine Ax_getf kfX0 fX0_9 dX0_part_53 s rfl ?_
      refine Ax_il4 dX0_part_56 ?_
      refine Ax_al0 dX0_part_58 ?_
      refine Ax_il3 dX0_part_59 ?_
      refine Ax_al0 dX0_part_60 ?_
      refine Ax_getf kfX0 fX0_27 dX0_part_61 s rfl ?_
      refine Ax_il3 dX0_part_64 ?_
      refine Ax_ialdn dX0_part_65 s6 (by omega) (by omega) ?_
      refine Ax_top (hen i him) ?_
      refine Ax_cVi dX0_part_66 vX0_65 kfX0 s hkd rfl rfl (by decide) (by simp [Value.category]) ?_
      refine Ax_iastn dX0_part_69 s1 (by omega) (by omega) (Ax_up (fun h41 e41 f41 z41 => ?_))
      replace s := (f41 _ (by omega)).trans s
      replace s1 := e41
      replace s2 := (f41 _ (by omega)).trans s2
      replace s3 := (f41 _ (by omega)).trans s3
      replace s4 := (f41 _ (by omega)).trans s4
      replace s5 := (f41 _ (by omega)).trans s5
      replace s6 := (f41 _ (by omega)).trans s6
      replace r0 := (f41 _ (by omega)).trans r0
      replace fr : ∀ q, (q < o ∨ o + 7 ≤ q) → h41.1 q = h1.1 q := fun q hq => (f41 q (by omega)).trans (fr q hq)
      replace zr := z41.trans zr
      refine Ax_al0 dX0_part_70 ?_
      refine Ax_getf kfX0 fX0_15 dX0_part_71 s rfl ?_
      refine Ax_il4 dX0_part_74 ?_
      refine Ax_il3 dX0_part_76 ?_
      refine Ax_iastn dX0_part_77 s2 (by omega) (by omega) (Ax_up (fun h42 e42 f42 z42 => ?_))
      replace s := (f42 _ (by omega)).trans s
      replace s1 := (f42 _ (by omega)).trans s1
      replace s2 := e42
      replace s3 := (f42 _ (by omega)).trans s3
      replace s4 := (f42 _ (by omega)).trans s4
      replace s5 := (f42 _ (by omega)).trans s5
      replace s6 := (f42 _ (by omega)).trans s6
      replace r0 := (f42 _ (by omega)).trans r0
      replace fr : ∀ q, (q < o ∨ o + 7 ≤ q) → h42.1 q = h1.1 q := fun q hq => (f42 q (by omega)).trans (fr q hq)
      replace zr := z42.trans zr
      refine Ax_al0 dX0_part_78 ?_
      refine Ax_getf kfX0 fX0_18 dX0_part_79 s rfl ?_
      refine Ax_il4 dX0_part_82 ?_
      refine Ax_al0 dX0_part_84 ?_
      refine Ax_getf kfX0 fX0_27 dX0_part_85 s rfl ?_
      refine Ax_il3 dX0_part_88 ?_
      refine Ax_ialdn dX0_part_89 s6 (by omega) (by omega) ?_
      refine Ax_top (hen i him) ?_
      refine Ax_iastn dX0_part_90 s3 (by omega) (by omega) (Ax_up (fun h43 e43 f43 z43 => ?_))
      replace s := (f43 _ (by omega)).trans s
      replace s1 := (f43 _ (by omega)).trans s1
      replace s2 := (f43 _ (by omega)).trans s2
      replace s3 := e43
      replace s4 := (f43 _ (by omega)).trans s4
      replace s5 := (f43 _ (by omega)).trans s5
      replace s6 := (f43 _ (by omega)).trans s6
      replace r0 := (f43 _ (by omega)).trans r0
      replace fr : ∀ q, (q < o ∨ o + 7 ≤ q) → h43.1 q = h1.1 q := fun q hq => (f43 q (by omega)).trans (fr q hq)
      replace zr := z43.trans zr
      refine Ax_al0 dX0_part_91 ?_
      refine Ax_getf kfX0 fX0_21 dX0_part_92 s rfl ?_
      refine Ax_il4 dX0_part_95 ?_
      refine Ax_al0 dX0_part_97 ?_
      have hV4 := (hV1.fr ⟨fr, zr⟩ hro)
      have hwt := tX2_weightOf (G := G) hV4 hl (f := i) (n := e i - i) (by omega)
      rw [show i + (e i - i) = e i by omega] at hwt
      refine Ax_getf kfX0 fX0_40 dX0_part_98 s rfl ?_
      refine Ax_il3 dX0_part_101 ?_
      refine Ax_al0 dX0_part_102 ?_
      refine Ax_getf kfX0 fX0_27 dX0_part_103 s rfl ?_
      refine Ax_il3 dX0_part_106 ?_
      refine Ax_ialdn dX0_part_107 s6 (by omega) (by omega) ?_
      refine Ax_top (hen i him) ?_
      refine Ax_cVi dX0_part_108 vX0_69 kfX2 r0 hwt rfl rfl (by decide) (by simp [Value.category]) ?_
      refine Ax_iastn dX0_part_111 s4 (by omega) (by omega) (Ax_up (fun h44 e44 f44 z44 => ?_))
      replace s := (f44 _ (by omega)).trans s
      replace s1 := (f44 _ (by omega)).trans s1
      replace s2 := (f44 _ (by omega)).trans s2
      replace s3 := (f44 _ (by omega)).trans s3
      replace s4 := e44
      replace s5 := (f44 _ (by omega)).trans s5
      replace s6 := (f44 _ (by omega)).trans s6
      replace r0 := (f44 _ (by omega)).trans r0
      replace fr : ∀ q, (q < o ∨ o + 7 ≤ q) → h44.1 q = h1.1 q := fun q hq => (f44 q (by omega)).trans (fr q hq)
      replace zr := z44.trans zr
      refine Ax_al0 dX0_part_112 ?_
      refine Ax_dup dX0_part_113 rfl ?_
      refine Ax_getf kfX0 fX0_37 dX0_part_114 s rfl ?_
      refine Ax_ic1 dX0_part_117 ?_
      refine Ax_iaddn dX0_part_118 ?_
      refine Ax_putf kfX0 fX0_37 dX0_part_119 s (Nat.le_of_ble_eq_true rfl) (Or.inl rfl) (by rfl) (by rfl) (Ax_up (fun h45 e45 f45 z45 => ?_))
      replace s := e45
      replace s1 := (f45 _ (by omega)).trans s1
      replace s2 := (f45 _ (by omega)).trans s2
      replace s3 := (f45 _ (by omega)).trans s3
      replace s4 := (f45 _ (by omega)).trans s4
      replace s5 := (f45 _ (by omega)).trans s5
      replace s6 := (f45 _ (by omega)).trans s6
      replace r0 := (f45 _ (by omega)).trans r0
      replace fr : ∀ q, (q < o ∨ o + 7 ≤ q) → h45.1 q = h1.1 q := fun q hq => (f45 q (by omega)).trans (fr q hq)
      replace zr := z45.trans zr
      refine Ax_al0 dX0_part_122 ?_
      refine Ax_getf kfX0 fX0_27 dX0_part_123 s rfl ?_
      refine Ax_il3 dX0_part_126 ?_
      refine Ax_ialdn dX0_part_127 s6 (by omega) (by omega) ?_
      refine Ax_top (hen i him) ?_
      refine Ax_ic1 dX0_part_128 ?_
      refine Ax_iaddn dX0_part_129 ?_
      refine Ax_is3 dX0_part_130 (Nat.le_of_ble_eq_true rfl) (by rfl) ?_
      refine Ax_inc4_1n dX0_part_131 (Nat.le_of_ble_eq_true rfl) (by rfl) ?_
      refine Ax_goto (tgt := 24) dX0_part_134 (by decide) ?_
      have hS' : vCl h45 o ro _ _ _ _ fw' en' (nI dens) (nI size) (nI (done.length + 1)) := ⟨s, s1, s2, s3, s4, s5, s6⟩
      have hl1 : (done ++ [(i, e i)]).length = done.length + 1 := by simp
      have hgo := ih (e i + 1) (done ++ [(i, e i)]) h45 _ _ _ _ (by omega) (by omega) (by rw [hl1]; omega) (by rw [hKd, List.append_assoc]; rfl) (by rw [hl1]; exact hS') (by
        intro c hc
        rw [hl1] at hc
        by_cases hcd : c = done.length
        · subst hcd
          rw [pk_us, pk_us, pk_us, pk_us, k1, k2]
          exact ⟨rfl, rfl, rfl, rfl⟩
        · rw [pk_un hcd, pk_un hcd, pk_un hcd, pk_un hcd]
          exact hRep c (by omega)) (hF.tr ⟨fr, zr⟩)
      rw [hl1] at hgo
      exact hgo
    · obtain rfl : i = R.length := by omega
      rw [clF, if_neg him, List.append_nil] at hKd
      exact hexit done h1 kn fi la we hdi hKd hS hRep hF
end
