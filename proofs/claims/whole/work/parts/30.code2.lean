/-! Code in words of lines -/
theorem run_lt {R : List Run} (hI : RInv R) : ∀ (n j : Nat), j + n + 1 < R.length → (rhi R j).toInt < (rlo R (j + n + 1)).toInt := fun n j h => by
  have h1 := hI.2 j (by omega)
  have h2 := rlo_mono hI n (j + 1) (by omega)
  rw [show j + 1 + n = j + n + 1 by omega] at h2
  omega
theorem run_lt' {R : List Run} (hI : RInv R) {j k : Nat} (hjk : j < k) (hk : k < R.length) : (rhi R j).toInt < (rlo R k).toInt := by
  have := run_lt hI (k - j - 1) j (by omega)
  rwa [show j + (k - j - 1) + 1 = k by omega] at this
theorem rhi_mono {R : List Run} (hI : RInv R) {j k : Nat} (hjk : j ≤ k) (hk : k < R.length) : (rhi R j).toInt ≤ (rhi R k).toInt := by
  by_cases e : j = k
  · subst e; exact Int.le_refl _
  · have h1 := run_lt' hI (j := j) (k := k) (by omega) hk
    have h2 := (hI.1 k hk).1
    omega
theorem tv_some {R : List Run} {rest f n k : Nat} {z : Int} (hI : RInv R) (hn : f + n ≤ R.length) (h1 : f ≤ k) (h2 : k < f + n) (h3 : (rlo R k).toInt ≤ z) (h4 : z ≤ (rhi R k).toInt) : tvI R rest f n z = rtg R k := by
  unfold tvI
  rw [fst_of n f k h1 h2 (by simp only [decide_eq_true_eq]; exact ⟨h3, h4⟩) (fun i i1 i2 => by
    rw [decide_eq_false_iff_not]
    rintro ⟨g1, g2⟩
    have := run_lt' hI i2 (by omega)
    omega)]
theorem tv_none {R : List Run} {rest f n : Nat} {z : Int} (h : ∀ k, f ≤ k → k < f + n → ¬ ((rlo R k).toInt ≤ z ∧ z ≤ (rhi R k).toInt)) : tvI R rest f n z = rest := by
  unfold tvI
  rw [fst_no n f (fun i i1 i2 => by rw [decide_eq_false_iff_not]; exact h i i1 i2)]
theorem tv_same {R : List Run} {rest f n : Nat} {z : Int} (hI : RInv R) (hn : f + (n + 1) ≤ R.length) (h : ¬ ((rlo R (f + n)).toInt ≤ z ∧ z ≤ (rhi R (f + n)).toInt)) : tvI R rest f (n + 1) z = tvI R rest f n z := by
  by_cases q : ∃ k, f ≤ k ∧ k < f + n ∧ ((rlo R k).toInt ≤ z ∧ z ≤ (rhi R k).toInt)
  · obtain ⟨k, h1, h2, h3, h4⟩ := q
    rw [tv_some hI hn h1 (by omega) h3 h4, tv_some hI (by omega) h1 h2 h3 h4]
  · have q' : ∀ k, f ≤ k → k < f + n → ¬ ((rlo R k).toInt ≤ z ∧ z ≤ (rhi R k).toInt) := fun k h1 h2 h3 => q ⟨k, h1, h2, h3⟩
    rw [tv_none q', tv_none (fun k h1 h2 h3 => by
      by_cases e : k = f + n
      · subst e; exact h h3
      · exact q' k h1 (by omega) h3)]
theorem tk_mid {A B : List Ln} {l l' : Ln} (h : tsz l' = tsz l) (k : Nat) : tsum ((A ++ l' :: B).take k) = tsum ((A ++ l :: B).take k) := by
  rw [List.take_append, List.take_append, tsum_app, tsum_app]
  cases k - A.length with
  | zero => rfl
  | succ n => rw [List.take_succ_cons, List.take_succ_cons, tsum_cons, tsum_cons, h]
theorem gL_mid {A B : List Ln} {l : Ln} : gL (A ++ l :: B) A.length = l := by
  rw [gL_app, if_neg (by omega), Nat.sub_self]
  rfl
theorem gL_ne {A B : List Ln} {l l' : Ln} {k : Nat} (h : k ≠ A.length) : gL (A ++ l' :: B) k = gL (A ++ l :: B) k := by
  rw [gL_app, gL_app]
  split
  · rfl
  · obtain ⟨m, hm⟩ : ∃ m, k - A.length = m + 1 := ⟨k - A.length - 1, by omega⟩
    rw [hm]
    rfl
noncomputable section
def numP (R : List Run) (dens size rest : Nat) (l : Ln) (nu : Nat → Int32) (p : Nat) : Prop := ∀ q, q < tsz l → nu (p + q) = nI (tvI R rest (cf (clsOf R dens size) l.2.2.2.2) (cn R dens size l.2.2.2.2) (l.2.1.toInt + q))
def LR (R : List Run) (dens size rest : Nat) (L : List Ln) (kn fi se : Nat → Int32) (rw' : Nat → Int64) (st nu : Nat → Int32) : Prop := ∀ k, k < L.length → kn k = nI (gL L k).1 ∧ fi k = (gL L k).2.1 ∧ se k = (gL L k).2.2.1 ∧ rw' k = lN (gL L k).2.2.2.1 ∧ ((gL L k).1 = 5 → st k = nI (tsum (L.take k)) ∧ numP R dens size rest (gL L k) nu (tsum (L.take k)))
def vC (h : xH) (R : List Run) (dens size rest : Nat) (L : List Ln) (tg dn : Int32) : Prop := ∃ kn fi se rw' st nu, vCd h kn fi se rw' st nu (nI L.length) (nI (tsum L)) (nI rest) tg dn ∧ LR R dens size rest L kn fi se rw' st nu
end
theorem vC.fr {h h' : xH} {R : List Run} {dens size rest : Nat} {L : List Ln} {tg dn : Int32} {o' w : Nat} (hV : vC h R dens size rest L tg dn) (hF : xFr o' w h h') (hq : 28 ≤ o' ∨ o' + w ≤ 21) : vC h' R dens size rest L tg dn := by
  obtain ⟨kn, fi, se, rw', st, nu, h1, h2⟩ := hV
  exact ⟨kn, fi, se, rw', st, nu, h1.fr hF hq, h2⟩
theorem LR.app {R : List Run} {dens size rest : Nat} {L : List Ln} {kn fi se : Nat → Int32} {rw' : Nat → Int64} {st nu st' nu' : Nat → Int32} (h : LR R dens size rest L kn fi se rw' st nu) (x : Ln)
    (h1 : ∀ k, k < L.length → st' k = st k) (h2 : ∀ p, p < tsum L → nu' p = nu p) (h3 : x.1 = 5 → st' L.length = nI (tsum L) ∧ numP R dens size rest x nu' (tsum L)) :
    LR R dens size rest (L ++ [x]) (upd kn L.length (nI x.1)) (upd fi L.length x.2.1) (upd se L.length x.2.2.1) (vp_updL rw' L.length (lN x.2.2.2.1)) st' nu' := by
  intro k hk
  rw [List.length_append, List.length_singleton] at hk
  by_cases e : k = L.length
  · subst e
    rw [gL_mid, pk_us, pk_us, pk_us, List.take_append_of_le_length (Nat.le_refl _), List.take_length]
    refine ⟨rfl, rfl, rfl, ?_, h3⟩
    unfold vp_updL
    rw [if_pos rfl]
  · obtain ⟨g1, g2, g3, g4, g5⟩ := h k (by omega)
    rw [gL_app, if_pos (by omega), pk_un e, pk_un e, pk_un e, List.take_append_of_le_length (by omega)]
    refine ⟨g1, g2, g3, ?_, fun q => ?_⟩
    · unfold vp_updL
      rw [if_neg e]
      exact g4
    · obtain ⟨a1, a2⟩ := g5 q
      refine ⟨(h1 k (by omega)).trans a1, fun p hp => ?_⟩
      rw [h2 _ (by
        have t1 : tsum L = tsum (L.take k) + tsum (L.drop k) := by rw [← tsum_app, List.take_append_drop]
        have t2 : L.drop k = gL L k :: L.drop (k + 1) := by
          unfold gL
          rw [List.getD_eq_getElem?_getD, List.getElem?_eq_getElem (by omega : k < L.length)]
          exact List.drop_eq_getElem_cons (by omega)
        rw [t2, tsum_cons] at t1
        omega)]
      exact a2 p hp
theorem LR.aim {R : List Run} {dens size rest : Nat} {A B : List Ln} {l : Ln} {kn fi se : Nat → Int32} {rw' : Nat → Int64} {st nu : Nat → Int32} (h : LR R dens size rest (A ++ l :: B) kn fi se rw' st nu) (hl : l.1 ≠ 5) (x : Int32) :
    LR R dens size rest (A ++ (l.1, l.2.1, x, l.2.2.2) :: B) kn fi (upd se A.length x) rw' st nu := by
  intro k hk
  rw [List.length_append, List.length_cons] at hk
  obtain ⟨g1, g2, g3, g4, g5⟩ := h k (by rw [List.length_append, List.length_cons]; exact hk)
  have ht : ∀ y : Int32, tsz (l.1, l.2.1, y, l.2.2.2) = tsz l := fun y => by unfold tsz; rw [if_neg hl, if_neg hl]
  by_cases e : k = A.length
  · subst e
    rw [gL_mid] at g1 g2 g3 g4 g5 ⊢
    rw [pk_us]
    exact ⟨g1, g2, rfl, g4, fun q => absurd q hl⟩
  · rw [gL_ne (l := l) e, pk_un e, tk_mid (ht x)]
    exact ⟨g1, g2, g3, g4, g5⟩
section
variable {G : xG} {h : xH} {R : List Run} {dens size rest : Nat} {L : List Ln} {tg dn : Int32}
theorem tC1_write (hV : vC h R dens size rest L tg dn) (hn : L.length < 400) (k : Nat) (a b : Int32) (r c : Nat) (hk : k ≠ 5) : AM G mX1_write 0 0 [.ref 21, .int (nI k), .int a, .int b, .long (lN r)] h
    (fun x h' => ∃ z, x = some (.int z) ∧ (z = nI L.length ∧ vC h' R dens size rest (L ++ [(k, a, b, r, c)]) tg dn ∧ xFr 21 7 h h')) := by
  obtain ⟨kn, fi, se, rw', st, nu, h1, h2⟩ := hV
  refine AM_post ?_ (tX1_write h1 hn (nI k) a b (lN r))
  rintro x h' ⟨z, e1, e2, e3, e4⟩
  refine ⟨z, e1, e2, ?_, e4⟩
  refine ⟨_, _, _, _, _, _, ?_, h2.app (k, a, b, r, c) (fun _ _ => rfl) (fun _ _ => rfl) (fun q => absurd q hk)⟩
  rw [List.length_append, List.length_singleton, tsum_app, tsum_cons, show tsz (k, a, b, r, c) = 0 by unfold tsz; rw [if_neg hk], show tsum ([] : List Ln) = 0 from rfl]
  exact e3
theorem tC1_aim {A B : List Ln} {l : Ln} (hV : vC h R dens size rest (A ++ l :: B) tg dn) (hn : (A ++ l :: B).length ≤ 400) (hl : l.1 ≠ 5) (x : Int32) : AM G mX1_aim 1 0 [.ref 21, .int (nI A.length), .int x] h
    (fun r h' => r = none ∧ vC h' R dens size rest (A ++ (l.1, l.2.1, x, l.2.2.2) :: B) tg dn ∧ xFr 21 7 h h') := by
  obtain ⟨kn, fi, se, rw', st, nu, h1, h2⟩ := hV
  refine AM_post ?_ (tX1_aim h1 hn (i := A.length) (by rw [List.length_append, List.length_cons]; omega) x)
  rintro r h' ⟨e1, e2, e3⟩
  refine ⟨e1, ⟨_, _, _, _, _, _, ?_, h2.aim hl x⟩, e3⟩
  have ht : tsz (l.1, l.2.1, x, l.2.2.2) = tsz l := by unfold tsz; rw [if_neg hl, if_neg hl]
  have e5 : tsum (A ++ (l.1, l.2.1, x, l.2.2.2) :: B) = tsum (A ++ l :: B) := by rw [tsum_app, tsum_app, tsum_cons, tsum_cons, ht]
  rw [e5]
  rw [List.length_append, List.length_cons] at e2 ⊢
  exact e2
theorem tC1_aimN (hV : vC h R dens size rest L tg dn) (hn : L.length ≤ 400) (x : Int32) : AM G mX1_aim 1 0 [.ref 21, .int (-1), .int x] h (fun r h' => r = none ∧ h' = h) := by
  obtain ⟨kn, fi, se, rw', st, nu, h1, h2⟩ := hV
  exact tX1_aimN h1 hn x
theorem vC.ob (hV : vC h R dens size rest L tg dn) : h.1 21 = cO 1 [.ref 6, .ref 11, .ref 18, .ref 22, .ref 23, .ref 24, .ref 25, .ref 26, .ref 27, .int (nI L.length), .int (nI (tsum L)), .int (nI rest), .int tg, .int dn] := by
  obtain ⟨kn, fi, se, rw', st, nu, h1, h2⟩ := hV
  exact h1.1
end
