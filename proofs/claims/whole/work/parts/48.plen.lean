/-! how long the text can become -/
theorem num_small : ∀ t, t < 16 → (numL (nI t)).length ≤ 2 := by decide
section
variable {R : List Run} {dens size rest : Nat} {L : List Ln}
theorem numR_lt (hR : ∀ k, k < R.length → rtg R k < 16) (hr : rest < 16) {l : Ln} (hk : lnOk R dens size l) (h5 : l.1 = 5) {k : Nat} (hkm : k < many l) : ∃ t, t < 16 ∧ numR R dens size rest l k = nI t := by
  obtain ⟨w1, w2, w3, w4⟩ := hk.2.2 h5
  have w5 : l.2.2.1.toInt = (csp R dens size l.2.2.2.2 : Int) := by rw [w3, nI_toInt (by omega)]
  obtain ⟨-, p2, p3, -⟩ := ClOk.at _ _ _ (cls_ok R dens size) w1
  refine ⟨_, tv_lt hR hr (f := cf (clsOf R dens size) l.2.2.2.2) (n := cn R dens size l.2.2.2.2) (by unfold cn; omega) (l.2.1.toInt + k), ?_⟩
  unfold many at hkm
  rw [if_pos h5] at hkm
  unfold numR
  rw [if_pos ⟨h5, by omega, by omega⟩]
theorem tblR_len (hR : ∀ k, k < R.length → rtg R k < 16) (hr : rest < 16) {l : Ln} (hk : lnOk R dens size l) (h5 : l.1 = 5) : ∀ r k, k + r ≤ many l → (tblR R dens size rest l k r).length ≤ 3 * r
  | 0, k, h => Nat.zero_le _
  | r + 1, k, h => by
    obtain ⟨t, t1, t2⟩ := numR_lt (rest := rest) hR hr hk h5 (k := k) (by omega)
    have h1 := tblR_len hR hr hk h5 r (k + 1) (by omega)
    have h2 := num_small t t1
    have h6 : (xN 6).length = 1 := rfl
    rw [tblR, List.length_append, List.length_append, t2]
    omega
theorem lnT_len (hR : ∀ k, k < R.length → rtg R k < 16) (hr : rest < 16) {l : Ln} (hk : lnOk R dens size l) (i : Nat) : (lnT R dens size rest i l).length ≤ 60 + 3 * tsz l := by
  have hk6 := hk.1
  have hw := wi_lt _ hk6
  have hN1 := numL_len (nI i)
  have hN2 := numL_len l.2.1
  have hN3 := numL_len l.2.2.1
  have h6 : (xN 6).length = 1 := rfl
  have h7 : (xN 7).length = 1 := rfl
  have hxl := hexL_len l.2.2.2.1 16
  have hwl : (xN (wi l.1)).length ≤ 7 := by
    have := (xs_len _ hw).1
    rw [(xN_ok _ hw).1]
    exact this
  have h4 : (if l.1 = 4 then xN 6 ++ hexL l.2.2.2.1 16 else []).length ≤ 17 := by
    split
    · rw [List.length_append]; omega
    · exact Nat.zero_le _
  have h5 : (if l.1 = 3 then [] else xN 6 ++ numL l.2.2.1).length ≤ 12 := by
    split
    · exact Nat.zero_le _
    · rw [List.length_append]; omega
  have ht : (tblR R dens size rest l 0 (many l)).length ≤ 3 * tsz l := by
    by_cases q : l.1 = 5
    · have e : many l = tsz l := by unfold many tsz; rfl
      rw [← e]
      exact tblR_len hR hr hk q _ 0 (by omega)
    · have e : many l = 0 := by unfold many; rw [if_neg q]
      rw [e]
      exact Nat.zero_le _
  unfold lnT
  rw [List.length_append, List.length_append, List.length_append, List.length_append, List.length_append, List.length_append]
  omega
theorem prL_len (hR : ∀ k, k < R.length → rtg R k < 16) (hr : rest < 16) (hok : ∀ l ∈ L, lnOk R dens size l) : ∀ r i, i + r = L.length → (prL R dens size rest L i r).length ≤ 60 * r + 3 * tsum (L.drop i)
  | 0, i, h => Nat.zero_le _
  | r + 1, i, h => by
    have h1 := prL_len hR hr hok r (i + 1) (by omega)
    have h2 := lnT_len (rest := rest) hR hr (hok _ (gL_in (i := i) (L := L) (by omega))) i
    have t2 : L.drop i = gL L i :: L.drop (i + 1) := by
      unfold gL
      rw [List.getD_eq_getElem?_getD, List.getElem?_eq_getElem (by omega : i < L.length)]
      exact List.drop_eq_getElem_cons (by omega)
    rw [prL, List.length_append, t2, tsum_cons]
    omega
theorem code_plen {way : Nat} (hl : R.length ≤ 24) (hI : RInv R) (hr : rest < 16) (hsz : size ≤ 256) : (prL R dens size rest (codeOf R dens size way rest) 0 (codeOf R dens size way rest).length).length ≤ 20000 := by
  obtain ⟨h1, h2, -⟩ := code_len (R := R) (dens := dens) (rest := rest) (way := way) hl hsz
  have h3 := prL_len (dens := dens) (size := size) (L := codeOf R dens size way rest) (fun k hk => (hI.1 k hk).2) hr (code_ok hl hsz) (codeOf R dens size way rest).length 0 (by omega)
  rw [List.drop_zero] at h3
  omega
end
