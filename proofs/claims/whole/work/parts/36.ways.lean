/-! every int has its way through the code -/
theorem dcnt_pos {T : Nat → Nat} {i : Nat} : ∀ n, 0 < dcnt T i (n + 1)
  | 0 => by
    rw [dcnt, dcnt]
    have : metB T i (i + 0) = false := by
      unfold metB
      rw [Nat.add_zero, Nat.sub_self]
      rfl
    rw [this]
    exact Nat.one_pos
  | n + 1 => by
    rw [dcnt]
    have := dcnt_pos (T := T) (i := i) n
    omega
theorem bitLs_c {R : List Run} {b : Int32} {c f n0 : Nat} {l : Ln} : ∀ n, l ∈ bitLs R b c f n0 n → l.2.2.2.2 = c
  | 0, h => absurd h List.not_mem_nil
  | n + 1, h => by
    rw [bitLs] at h
    rcases List.mem_append.mp h with h | h
    · exact bitLs_c n h
    · split at h
      · exact absurd h List.not_mem_nil
      · rw [List.mem_singleton] at h
        subst h
        rfl
section
variable {R : List Run} {dens size rest : Nat} {x : Int32}
theorem Go.at {A M : List Ln} {l : Ln} {n t : Nat} (h : stepP R dens size rest l x A.length (fun e => Go R dens size rest (A ++ l :: M) x n e t) (fun v => n = 0 ∧ v = nI t ∧ t < 16)) : Go R dens size rest (A ++ l :: M) x (n + 1) A.length t := by
  rw [Go]
  rw [gL_mid]
  refine ⟨?_, h⟩
  rw [List.length_append, List.length_cons]
  omega
theorem go_end {A M : List Ln} {v c : Nat} (hv : v < 16) : Go R dens size rest (A ++ (3, nI v, 0, 0, c) :: M) x 1 A.length v :=
  Go.at (Or.inr (Or.inr (Or.inr (Or.inl ⟨rfl, rfl, rfl, hv⟩))))
theorem go_bits {c : Nat} (hc : c < (clsOf R dens size).length) (hw : (ctp R dens size c).toInt - (cbt R dens size c).toInt < 64) (hx : (cbt R dens size c).toInt ≤ x.toInt) (hx2 : x.toInt ≤ (ctp R dens size c).toInt) {L N : List Ln} : ∀ (M A : List Ln), L = A ++ (M ++ N) →
    (∀ l ∈ M, l.1 = 4 ∧ l.2.1 = cbt R dens size c ∧ l.2.2.2.2 = c ∧ ∃ t, t < 16 ∧ l.2.2.1 = nI t ∧ l.2.2.2.1 = rowN R (cf (clsOf R dens size) c) (cn R dens size c) t) → Go R dens size rest L x 1 (A.length + M.length) rest → ∃ n t, n ≤ M.length + 1 ∧ Go R dens size rest L x n A.length t
  | [], A, hL, hM, hG => ⟨1, rest, Nat.le_refl _, hG⟩
  | l :: M, A, hL, hM, hG => by
    obtain ⟨h1, h2, h3, t, h4, h5, h6⟩ := hM l List.mem_cons_self
    obtain ⟨n, u, hn, hu⟩ := go_bits hc hw hx hx2 (L := L) (N := N) M (A ++ [l]) (by rw [hL, List.append_assoc]; rfl) (fun l' hl' => hM l' (List.mem_cons_of_mem _ hl')) (by rw [List.length_append, List.length_singleton, show A.length + 1 + M.length = A.length + (l :: M).length by rw [List.length_cons]; omega]; exact hG)
    rw [List.length_append, List.length_singleton] at hu
    by_cases hb : l.2.2.2.1.testBit (x.toInt - l.2.1.toInt).toNat = true
    · refine ⟨1, t, by omega, ?_⟩
      rw [hL]
      refine Go.at (Or.inr (Or.inr (Or.inr (Or.inr (Or.inl ⟨h1, by rw [h3]; exact hc, by rw [h3]; exact h2, by rw [h3]; exact hw, by rw [h3]; exact hx, by rw [h3]; exact hx2, ⟨t, h5, by rw [h3]; exact h6⟩, fun _ => ⟨rfl, h5, h4⟩, fun q => absurd hb q⟩)))))
    · refine ⟨n + 1, u, by rw [List.length_cons]; omega, ?_⟩
      rw [hL] at hu ⊢
      exact Go.at (Or.inr (Or.inr (Or.inr (Or.inr (Or.inl ⟨h1, by rw [h3]; exact hc, by rw [h3]; exact h2, by rw [h3]; exact hw, by rw [h3]; exact hx, by rw [h3]; exact hx2, ⟨t, h5, by rw [h3]; exact h6⟩, fun q => absurd q hb, fun _ => hu⟩)))))
theorem tv_lt (hR : ∀ k, k < R.length → rtg R k < 16) (hr : rest < 16) {f n : Nat} (hn : f + n ≤ R.length) (z : Int) : tvI R rest f n z < 16 := by
  unfold tvI
  split
  · rename_i k hk
    obtain ⟨q1, q2, -⟩ := fst_some _ _ _ hk
    exact hR k (by omega)
  · exact hr
theorem go_leaf (hI : RInv R) (hr : rest < 16) (hsz : size ≤ 256) {c : Nat} (hc : c < (clsOf R dens size).length) {a b : Bool} (ha : a = false → (cbt R dens size c).toInt ≤ x.toInt) (hb : b = false → x.toInt ≤ (ctp R dens size c).toInt) (A B : List Ln) (hln : A.length + 10 ≤ 400) :
    ∃ n t, n ≤ 7 ∧ Go R dens size rest (A ++ (leafAB R dens size rest c a b A.length ++ B)) x n A.length t := by
  obtain ⟨-, p2, p3, -⟩ := ClOk.at _ _ c (cls_ok R dens size) hc
  have hR : ∀ k, k < R.length → rtg R k < 16 := fun k hk => (hI.1 k hk).2
  have hkd := ckd_is hc
  have hkl := ckd_lt hc
  have hbl := body_len hc
  unfold leafAB
  split
  · rename_i q
    have hfl : cf (clsOf R dens size) c = cl (clsOf R dens size) c := kd_zero (by rw [hkd, q.1])
    by_cases hx : x = cbt R dens size c
    · refine ⟨1, rtg R (cf (clsOf R dens size) c), by omega, ?_⟩
      exact Go.at (Or.inr (Or.inr (Or.inl ⟨rfl, ⟨cf (clsOf R dens size) c, by omega, rfl, by have := q.2; unfold cbt ctp at this; rw [← hfl] at this; exact this⟩, fun _ => ⟨rfl, rfl, hR _ (by omega)⟩, fun w => absurd hx w⟩)))
    · refine ⟨2, rest, by omega, ?_⟩
      refine Go.at (Or.inr (Or.inr (Or.inl ⟨rfl, ⟨cf (clsOf R dens size) c, by omega, rfl, by have := q.2; unfold cbt ctp at this; rw [← hfl] at this; exact this⟩, fun w => absurd w hx, fun _ => ?_⟩)))
      have := go_end (R := R) (dens := dens) (size := size) (rest := rest) (x := x) (A := A ++ [(2, cbt R dens size c, nI (rtg R (cf (clsOf R dens size) c)), 0, c)]) (M := B) (c := c) hr
      rw [List.length_append, List.length_singleton, List.append_assoc] at this
      exact this
  · generalize hX : (if ckd R dens size c = 1 ∨ a = true ∨ b = true then [(3, nI rest, 0, 0, c)] else ([] : List Ln)) = X
    generalize hE : A.length + (a.toNat + b.toNat + (bodyL R dens size c).length) = e
    have ha1 : a.toNat ≤ 1 := Bool.toNat_le _
    have hb1 : b.toNat ≤ 1 := Bool.toNat_le _
    show ∃ n t, n ≤ 7 ∧ Go R dens size rest (A ++ (pL a (0, cbt R dens size c, nI e, 0, c) ++ (pL b (1, ctp R dens size c, nI e, 0, c) ++ (bodyL R dens size c ++ X)) ++ B)) x n A.length t
    generalize hL : A ++ (pL a (0, cbt R dens size c, nI e, 0, c) ++ (pL b (1, ctp R dens size c, nI e, 0, c) ++ (bodyL R dens size c ++ X)) ++ B) = L
    have hend : ckd R dens size c = 1 ∨ a = true ∨ b = true → Go R dens size rest L x 1 e rest := by
      intro q
      rw [if_pos q] at hX
      have := go_end (R := R) (dens := dens) (size := size) (rest := rest) (x := x) (A := A ++ (pL a (0, cbt R dens size c, nI e, 0, c) ++ (pL b (1, ctp R dens size c, nI e, 0, c) ++ bodyL R dens size c))) (M := B) (c := c) hr
      rw [List.length_append, List.length_append, List.length_append, pL_len, pL_len] at this
      have e2 : A ++ (pL a (0, cbt R dens size c, nI e, 0, c) ++ (pL b (1, ctp R dens size c, nI e, 0, c) ++ bodyL R dens size c)) ++ (3, nI rest, 0, 0, c) :: B = L := by
        rw [← hL, ← hX]
        simp only [List.append_assoc, List.cons_append, List.nil_append]
      rw [e2, show A.length + (a.toNat + (b.toNat + (bodyL R dens size c).length)) = e by omega] at this
      exact this
    have h3 : (cbt R dens size c).toInt ≤ x.toInt → x.toInt ≤ (ctp R dens size c).toInt → ∃ n t, n ≤ 5 ∧ Go R dens size rest L x n (A.length + a.toNat + b.toNat) t := by
      intro hx1 hx2
      have hA : (A ++ (pL a (0, cbt R dens size c, nI e, 0, c) ++ pL b (1, ctp R dens size c, nI e, 0, c))).length = A.length + a.toNat + b.toNat := by
        rw [List.length_append, List.length_append, pL_len, pL_len]
        omega
      have hL3 : L = (A ++ (pL a (0, cbt R dens size c, nI e, 0, c) ++ pL b (1, ctp R dens size c, nI e, 0, c))) ++ (bodyL R dens size c ++ (X ++ B)) := by
        rw [← hL]
        simp only [List.append_assoc]
      rw [← hA]
      by_cases k0 : ckd R dens size c = 0
      · have ebody : bodyL R dens size c = [(3, nI (rtg R (cf (clsOf R dens size) c)), 0, 0, c)] := by unfold bodyL; rw [if_pos k0]
        refine ⟨1, rtg R (cf (clsOf R dens size) c), by omega, ?_⟩
        rw [hL3, ebody]
        exact go_end (hR _ (by omega))
      · by_cases k1 : ckd R dens size c = 1
        · have ebody : bodyL R dens size c = bitLs R (cbt R dens size c) c (cf (clsOf R dens size) c) (cn R dens size c) (cn R dens size c) := by unfold bodyL; rw [if_neg k0, if_pos k1]
          have hk2 := hkd
          rw [k1] at hk2
          obtain ⟨-, hw, -⟩ := kd_one hk2
          obtain ⟨n, t, h1, h2⟩ := go_bits (rest := rest) hc (by unfold cbt ctp; unfold spn at hw; omega) hx1 hx2 (L := L) (N := X ++ B) (bodyL R dens size c) (A ++ (pL a (0, cbt R dens size c, nI e, 0, c) ++ pL b (1, ctp R dens size c, nI e, 0, c))) hL3 (fun l hl => by
            rw [ebody] at hl
            obtain ⟨w1, w2, k, w3, w4, w5, w6⟩ := bitLs_kind _ hl
            exact ⟨w1, w2, bitLs_c _ hl, rtg R k, hR k (by unfold cn at w4; omega), w5, w6⟩) (by
            rw [hA, show A.length + a.toNat + b.toNat + (bodyL R dens size c).length = e by omega]
            exact hend (Or.inl k1))
          exact ⟨n, t, by omega, h2⟩
        · have k2 : ckd R dens size c = 2 := by omega
          have ebody : bodyL R dens size c = [(5, cbt R dens size c, nI (csp R dens size c), 0, c)] := by unfold bodyL; rw [if_neg k0, if_neg k1]
          have hk2 := hkd
          rw [k2] at hk2
          obtain ⟨-, hw⟩ := kd_two hk2
          have hcs : csp R dens size c ≤ 256 := by unfold csp; omega
          refine ⟨1, tvI R rest (cf (clsOf R dens size) c) (cn R dens size c) x.toInt, by omega, ?_⟩
          rw [hL3, ebody]
          exact Go.at (Or.inr (Or.inr (Or.inr (Or.inr (Or.inr ⟨rfl, hc, rfl, rfl, hcs, hx1, hx2, rfl, rfl, tv_lt hR hr (by unfold cn; omega) _⟩)))))
    have h2 : (cbt R dens size c).toInt ≤ x.toInt → ∃ n t, n ≤ 6 ∧ Go R dens size rest L x n (A.length + a.toNat) t := by
      intro hx1
      cases b
      · obtain ⟨n, t, q1, q2⟩ := h3 hx1 (hb rfl)
        exact ⟨n, t, by omega, q2⟩
      · have hL2 : L = (A ++ pL a (0, cbt R dens size c, nI e, 0, c)) ++ (1, ctp R dens size c, nI e, 0, c) :: (bodyL R dens size c ++ (X ++ B)) := by
          rw [← hL]
          simp only [List.append_assoc, pL, if_true, List.cons_append, List.nil_append]
        have hA : (A ++ pL a (0, cbt R dens size c, nI e, 0, c)).length = A.length + a.toNat := by rw [List.length_append, pL_len]
        by_cases hx2 : (ctp R dens size c).toInt < x.toInt
        · refine ⟨2, rest, by omega, ?_⟩
          have := hend (Or.inr (Or.inr rfl))
          rw [hL2] at this ⊢
          rw [← hA]
          exact Go.at (Or.inr (Or.inl ⟨rfl, ⟨_, p3, rfl⟩, fun _ => ⟨e, rfl, by omega, this⟩, fun w => absurd hx2 w⟩))
        · obtain ⟨n, t, q1, q2⟩ := h3 hx1 (by omega)
          refine ⟨n + 1, t, by omega, ?_⟩
          rw [show A.length + a.toNat + true.toNat = (A ++ pL a (0, cbt R dens size c, nI e, 0, c)).length + 1 by rw [hA]; rfl] at q2
          rw [← hA]
          rw [hL2] at q2 ⊢
          exact Go.at (Or.inr (Or.inl ⟨rfl, ⟨_, p3, rfl⟩, fun w => absurd w hx2, fun _ => q2⟩))
    cases a
    · obtain ⟨n, t, q1, q2⟩ := h2 (ha rfl)
      exact ⟨n, t, by omega, q2⟩
    · have hL2 : L = A ++ (0, cbt R dens size c, nI e, 0, c) :: (pL b (1, ctp R dens size c, nI e, 0, c) ++ (bodyL R dens size c ++ (X ++ B))) := by
        rw [← hL]
        simp only [List.append_assoc, pL, if_true, List.cons_append, List.nil_append]
      by_cases hx2 : x.toInt < (cbt R dens size c).toInt
      · refine ⟨2, rest, by omega, ?_⟩
        have := hend (Or.inr (Or.inl rfl))
        rw [hL2] at this ⊢
        exact Go.at (Or.inl ⟨rfl, ⟨_, by omega, rfl⟩, fun _ => ⟨e, rfl, by omega, this⟩, fun w => absurd hx2 w⟩)
      · obtain ⟨n, t, q1, q2⟩ := h2 (by omega)
        refine ⟨n + 1, t, by omega, ?_⟩
        rw [show A.length + true.toNat = A.length + 1 from rfl] at q2
        rw [hL2] at q2 ⊢
        exact Go.at (Or.inl ⟨rfl, ⟨_, by omega, rfl⟩, fun w => absurd w hx2, fun _ => q2⟩)
theorem go_lay {way : Nat} (hl : R.length ≤ 24) (hI : RInv R) (hr : rest < 16) (hsz : size ≤ 256) : ∀ (f i j : Nat) (le gr : Int32) (s : Nat) (A B : List Ln), i ≤ j → j < (clsOf R dens size).length → j - i < f → le.toInt ≤ x.toInt → x.toInt ≤ gr.toInt → A.length = s → A.length + 7 * (j - i + 1) + 10 ≤ 400 →
    ∃ n t, n ≤ f + 7 ∧ Go R dens size rest (A ++ (lay R dens size way rest f i j le gr s ++ B)) x n s t
  | 0, i, j, le, gr, s, A, B, h1, h2, h3, _, _, _, _ => by omega
  | f + 1, i, j, le, gr, s, A, B, h1, h2, h3, h4, h5, h6, h7 => by
    have hlk : (clsOf R dens size).length ≤ 24 := Nat.le_trans (cls_len R dens size) hl
    subst h6
    rw [lay]
    split
    · rename_i q
      obtain ⟨n, t, g1, g2⟩ := go_leaf (x := x) (dens := dens) hI hr hsz (c := i) (by omega) (a := decide (le.toInt < (cbt R dens size i).toInt)) (b := decide ((ctp R dens size i).toInt < gr.toInt)) (fun w => by rw [decide_eq_false_iff_not] at w; omega) (fun w => by rw [decide_eq_false_iff_not] at w; omega) A B (by omega)
      exact ⟨n, t, by omega, g2⟩
    · rename_i q
      obtain ⟨m1, m2⟩ := spF_in (R := R) (dens := dens) (size := size) (way := way) (i := i) (j := j) (by omega) (by omega)
      generalize spF R dens size way i j = m at m1 m2 ⊢
      obtain ⟨a1, -⟩ := lay_bounds (R := R) (dens := dens) (way := way) (rest := rest) hlk hsz f m j (cbt R dens size m) gr (A.length + 1) m2 h2
      generalize hX : lay R dens size way rest f m j (cbt R dens size m) gr (A.length + 1) = X at a1 ⊢
      generalize hY : lay R dens size way rest f i (m - 1) le (cbt R dens size m - 1) (A.length + 1 + X.length) = Y
      generalize hq : ((0, cbt R dens size m, nI (A.length + 1 + X.length), 0, 0) : Ln) = l
      obtain ⟨-, p2, p3, -⟩ := ClOk.at _ _ m (cls_ok R dens size) (by omega)
      rw [List.cons_append, List.append_assoc]
      by_cases hx : x.toInt < (cbt R dens size m).toInt
      · have hlo := I_lo x
        have hhi := I_hi x
        have e1 : (cbt R dens size m - 1).toInt = (cbt R dens size m).toInt - 1 := by
          have h11 : (1 : Int32).toInt = 1 := rfl
          rw [I_sub (by omega) (by have := I_hi (cbt R dens size m); omega), h11]
        obtain ⟨n, t, g1, g2⟩ := go_lay (way := way) hl hI hr hsz f i (m - 1) le (cbt R dens size m - 1) (A.length + 1 + X.length) (A ++ l :: X) B (by omega) (by omega) (by omega) h4 (by omega) (by rw [List.length_append, List.length_cons]; omega) (by rw [List.length_append, List.length_cons]; omega)
        rw [hY, List.append_assoc, List.cons_append] at g2
        refine ⟨n + 1, t, by omega, ?_⟩
        subst hq
        exact Go.at (Or.inl ⟨rfl, ⟨_, by omega, rfl⟩, fun _ => ⟨_, rfl, by omega, g2⟩, fun w => absurd hx w⟩)
      · obtain ⟨n, t, g1, g2⟩ := go_lay (way := way) hl hI hr hsz f m j (cbt R dens size m) gr (A.length + 1) (A ++ [l]) (Y ++ B) m2 h2 (by omega) (by omega) h5 (by rw [List.length_append, List.length_singleton]) (by rw [List.length_append, List.length_singleton]; omega)
        rw [hX, List.append_assoc] at g2
        refine ⟨n + 1, t, by omega, ?_⟩
        subst hq
        exact Go.at (Or.inl ⟨rfl, ⟨_, by omega, rfl⟩, fun w => absurd w hx, fun _ => g2⟩)
theorem code_len {way : Nat} (hl : R.length ≤ 24) (hsz : size ≤ 256) : (codeOf R dens size way rest).length ≤ 168 ∧ tsum (codeOf R dens size way rest) ≤ 3072 ∧ 0 < (codeOf R dens size way rest).length := by
  have hlk : (clsOf R dens size).length ≤ 24 := Nat.le_trans (cls_len R dens size) hl
  unfold codeOf
  split
  · exact ⟨Nat.le_of_ble_eq_true rfl, Nat.zero_le _, Nat.one_pos⟩
  · obtain ⟨h1, h2⟩ := lay_bounds (R := R) (dens := dens) (way := way) (rest := rest) hlk hsz 24 0 ((clsOf R dens size).length - 1) (-2147483648) 2147483647 0 (by omega) (by omega)
    have hcl := (ClOk.at _ _ ((clsOf R dens size).length - 1) (cls_ok R dens size) (by omega)).2.2.1
    refine ⟨by omega, by omega, ?_⟩
    rw [lay]
    split
    · unfold leafL leafAB
      split
      · exact Nat.succ_pos _
      · rw [List.length_append, List.length_append, List.length_append]
        have : 0 < (bodyL R dens size 0).length := by
          unfold bodyL
          split
          · exact Nat.one_pos
          · split
            · rename_i q
              rw [bitLs_len]
              unfold cn
              exact dcnt_pos _
            · exact Nat.one_pos
        omega
    · exact Nat.succ_pos _
theorem code_go {way : Nat} (hl : R.length ≤ 24) (hI : RInv R) (hr : rest < 16) (hsz : size ≤ 256) (x : Int32) : ∃ n t, n ≤ 31 ∧ Go R dens size rest (codeOf R dens size way rest) x n 0 t := by
  have hlk : (clsOf R dens size).length ≤ 24 := Nat.le_trans (cls_len R dens size) hl
  have hlo := I_lo x
  have hhi := I_hi x
  have c1 : (-2147483648 : Int32).toInt = -2147483648 := by decide
  have c2 : (2147483647 : Int32).toInt = 2147483647 := by decide
  unfold codeOf
  split
  · exact ⟨1, rest, by omega, go_end (A := []) hr⟩
  · obtain ⟨n, t, h1, h2⟩ := go_lay (R := R) (dens := dens) (x := x) (way := way) hl hI hr hsz 24 0 ((clsOf R dens size).length - 1) (-2147483648) 2147483647 0 [] [] (by omega) (by omega) (by omega) (by rw [c1]; omega) (by rw [c2]; omega) rfl (by simp only [List.length_nil]; omega)
    rw [List.append_nil, List.nil_append] at h2
    exact ⟨n, t, h1, h2⟩
end
