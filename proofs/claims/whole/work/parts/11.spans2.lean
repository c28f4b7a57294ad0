/-- nothing but the cells o .. o + w - 1 is touched -/
def xFr (o w : Nat) (h h' : xH) : Prop := (∀ q, (q < o ∨ o + w ≤ q) → h'.1 q = h.1 q) ∧ h'.2 = h.2
theorem xFr.rf {o w : Nat} {h : xH} : xFr o w h h := ⟨fun _ _ => rfl, rfl⟩
theorem xFr.tr {o w : Nat} {h h' h'' : xH} (a : xFr o w h h') (b : xFr o w h' h'') : xFr o w h h'' := ⟨fun q hq => (b.1 q hq).trans (a.1 q hq), b.2.trans a.2⟩
theorem xFr.wide {o w o' w' : Nat} {h h' : xH} (a : xFr o w h h') (h1 : o' ≤ o) (h2 : o + w ≤ o' + w') : xFr o' w' h h' := ⟨fun q hq => a.1 q (by omega), a.2⟩
def IsNext (lo tg : Nat → Int32) (after : Int) : Option Nat → Prop
  | none => ∀ j, j < 24 → tg j ≠ -1 → (lo j).toInt ≤ after
  | some i => i < 24 ∧ tg i ≠ -1 ∧ after < (lo i).toInt ∧ ∀ j, j < 24 → tg j ≠ -1 → after < (lo j).toInt → (lo i).toInt ≤ (lo j).toInt
def NextTo (lo tg : Nat → Int32) (after : Int) (k : Nat) (lv : Int64) : Option Nat → Prop
  | none => lv.toInt = 9223372036854775807 ∧ ∀ j, j < k → tg j ≠ -1 → (lo j).toInt ≤ after
  | some i => lv.toInt = (lo i).toInt ∧ i < k ∧ tg i ≠ -1 ∧ after < (lo i).toInt ∧ ∀ j, j < k → tg j ≠ -1 → after < (lo j).toInt → (lo i).toInt ≤ (lo j).toInt
theorem NextTo.keep {lo tg : Nat → Int32} {after : Int} {k : Nat} {lv : Int64} {r : Option Nat} (h : NextTo lo tg after k lv r) (hk : tg k = -1 ∨ (lo k).toInt ≤ after ∨ lv.toInt ≤ (lo k).toInt) : NextTo lo tg after (k + 1) lv r := by
  cases r with
  | none =>
    refine ⟨h.1, fun j hj ht => ?_⟩
    by_cases hjk : j = k
    · subst hjk
      have := Int32.toInt_lt (lo j)
      have h1 := h.1
      rcases hk with q | q | q
      · exact absurd q ht
      · exact q
      · omega
    · exact h.2 j (by omega) ht
  | some i =>
    obtain ⟨h1, h2, h3, h4, h5⟩ := h
    refine ⟨h1, by omega, h3, h4, fun j hj ht ha => ?_⟩
    by_cases hjk : j = k
    · subst hjk
      rcases hk with q | q | q
      · exact absurd q ht
      · omega
      · omega
    · exact h5 j (by omega) ht ha
theorem NextTo.new {lo tg : Nat → Int32} {after : Int} {k : Nat} {lv : Int64} {r : Option Nat} (h : NextTo lo tg after k lv r) (h1 : tg k ≠ -1) (h2 : after < (lo k).toInt) (h3 : (lo k).toInt < lv.toInt) : NextTo lo tg after (k + 1) (lo k).toInt64 (some k) := by
  refine ⟨Int32.toInt_toInt64 _, by omega, h1, h2, fun j hj ht ha => ?_⟩
  by_cases hjk : j = k
  · subst hjk; exact Int.le_refl _
  · cases r with
    | none =>
      have := h.2 j (by omega) ht
      omega
    | some i =>
      obtain ⟨g1, g2, g3, g4, g5⟩ := h
      have := g5 j (by omega) ht ha
      omega
theorem NextTo.fin {lo tg : Nat → Int32} {after : Int} {lv : Int64} {r : Option Nat} (h : NextTo lo tg after 24 lv r) : IsNext lo tg after r := by
  cases r with
  | none => exact h.2
  | some i => exact h.2
section
variable {G : xG} {h : xH} {o : Nat} {lo hi tg wt : Nat → Int32} {n : Int32}
def gTell (lo hi tg wt : Nat → Int32) (i what : Int32) : Int32 := if gHas tg i = true then g4 what (lo i.toNatClampNeg) (hi i.toNatClampNeg) (tg i.toNatClampNeg) (wt i.toNatClampNeg) else -101
theorem gHas_t {i : Int32} (hb : gHas tg i = true) : ∃ k, k < 24 ∧ i = nI k ∧ tg k ≠ -1 := by
  have h1 : gIn 24 i = true := by
    unfold gHas at hb
    rw [Bool.and_eq_true] at hb
    exact hb.1
  unfold gIn at h1
  rw [decide_eq_true_eq] at h1
  obtain ⟨k, hk, rfl⟩ := x_ix h1.1 h1.2 (by decide)
  rw [gHas_n hk] at hb
  exact ⟨k, hk, rfl, bne_iff_ne.mp hb⟩
theorem tX2_tell (hS : vSp h o lo hi tg wt n) (i what : Int32) : AM G mX2_tell 1 0 [.ref o, .int i, .int what] h (fun r h' => r = some (.int (gTell lo hi tg wt i what)) ∧ h' = h) := by
  obtain ⟨s, s0, s1, s2, s3⟩ := id hS
  refine AM.of rfl rfl (Nat.le_of_ble_eq_true rfl) rfl ?_
  refine Ax_al0 dX2_tell_0 ?_
  refine Ax_il1 dX2_tell_1 ?_
  refine Ax_cVi dX2_tell_2 vX2_34 kfX2 s (tX2_has hS i) rfl rfl (by decide) (by simp [Value.category]) ?_
  refine Ax_ifneB (tgt := 11) dX2_tell_5 (by decide) (fun c5 => ?_) (fun c5 => ?_)
  · obtain ⟨k, hk, rfl, hb⟩ := gHas_t c5
    have e : gTell lo hi tg wt (nI k) what = g4 what (lo k) (hi k) (tg k) (wt k) := by
      unfold gTell
      rw [if_pos c5, nI_clamp (by omega)]
    rw [e]
    refine Ax_il2 dX2_tell_11 ?_
    rcases x_tab4 what with rfl | rfl | rfl | rfl | hw
    · refine Ax_tabI (tgt := 44) dX2_tell_12 (by decide) (by decide) rfl (by decide) ?_
      refine Ax_al0 dX2_tell_44 ?_
      refine Ax_getf kfX2 fX2_9 dX2_tell_45 s rfl ?_
      refine Ax_il1 dX2_tell_48 ?_
      refine Ax_ialdn dX2_tell_49 s0 (by omega) (by omega) ?_
      exact Ax_iret dX2_tell_50 rfl rfl ⟨rfl, rfl⟩
    · refine Ax_tabI (tgt := 51) dX2_tell_12 (by decide) (by decide) rfl (by decide) ?_
      refine Ax_al0 dX2_tell_51 ?_
      refine Ax_getf kfX2 fX2_15 dX2_tell_52 s rfl ?_
      refine Ax_il1 dX2_tell_55 ?_
      refine Ax_ialdn dX2_tell_56 s1 (by omega) (by omega) ?_
      exact Ax_iret dX2_tell_57 rfl rfl ⟨rfl, rfl⟩
    · refine Ax_tabI (tgt := 58) dX2_tell_12 (by decide) (by decide) rfl (by decide) ?_
      refine Ax_al0 dX2_tell_58 ?_
      refine Ax_getf kfX2 fX2_18 dX2_tell_59 s rfl ?_
      refine Ax_il1 dX2_tell_62 ?_
      refine Ax_ialdn dX2_tell_63 s2 (by omega) (by omega) ?_
      exact Ax_iret dX2_tell_64 rfl rfl ⟨rfl, rfl⟩
    · refine Ax_tabI (tgt := 65) dX2_tell_12 (by decide) (by decide) rfl (by decide) ?_
      refine Ax_al0 dX2_tell_65 ?_
      refine Ax_getf kfX2 fX2_21 dX2_tell_66 s rfl ?_
      refine Ax_il1 dX2_tell_69 ?_
      refine Ax_ialdn dX2_tell_70 s3 (by omega) (by omega) ?_
      exact Ax_iret dX2_tell_71 rfl rfl ⟨rfl, rfl⟩
    · have e2 : g4 what (lo k) (hi k) (tg k) (wt k) = -102 := by
        obtain ⟨q0, q1, q2, q3⟩ := x_ne4 hw
        unfold g4
        rw [if_neg q0, if_neg q1, if_neg q2, if_neg q3]
      rw [e2]
      refine Ax_tabO (tgt := 72) dX2_tell_12 (by assumption) (by decide) ?_
      refine Ax_bpm102 dX2_tell_72 ?_
      exact Ax_iret dX2_tell_74 rfl rfl ⟨rfl, rfl⟩
  · have e : gTell lo hi tg wt i what = -101 := by
      unfold gTell
      rw [if_neg (by rw [c5]; decide)]
    rw [e]
    refine Ax_bpm101 dX2_tell_8 ?_
    exact Ax_iret dX2_tell_10 rfl rfl ⟨rfl, rfl⟩
end
