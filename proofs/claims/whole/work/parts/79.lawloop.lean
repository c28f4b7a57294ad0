/-! the law: the loop; the two new objects -/
section
variable {G : xG}
theorem lw_loop (hL : G.2.2.2.2.2.1 ≤ 2560) : ∀ n i b h C rt rw dn sz wy st cap cl' bs, G.2.2.2.2.2.1 < i + 5 * n → i ≤ 3000 → pot cap ≤ b → vX5 h C rt rw dn sz wy cl' st bs cap → vM h C rt rw dn sz wy cl' bs → sOk C rt rw dn sz wy → Ax G mL_law 40 b 18 [.ref 1000000, .ref 0, .ref 30, .int (nI i)] [] h (fun r _ => r = some (.int 1)) := by
  have hl5 : (nI G.2.2.2.2.2.1 - nI 5).toInt = (G.2.2.2.2.2.1 : Int) - 5 := by
    have h5 : (nI 5).toInt = 5 := by decide
    rw [I_sub (by rw [nI_toInt (by omega), h5]; omega) (by rw [nI_toInt (by omega), h5]; omega), nI_toInt (by omega), h5]
  intro n
  induction n with
  | zero =>
    intro i b h C rt rw dn sz wy st cap cl' bs hn hi3 hb hS hM hO
    refine Ax_il3 dL_law_18 ?_
    refine Ax_al0 dL_law_19 ?_
    refine Ax_slen dL_law_20 ?_
    refine Ax_ic5 dL_law_21 ?_
    refine Ax_isub dL_law_22 ?_
    refine Ax_cmpgt (tgt := 656) dL_law_23 (by decide) (fun c23 => ?_) (fun c23 => ?_)
    · refine Ax_ic1 dL_law_656 ?_
      exact Ax_iret dL_law_657 rfl (by decide) rfl
    · rw [Int32.lt_iff_toInt_lt, hl5, nI_toInt (by omega)] at c23
      omega
  | succ n ih =>
    intro i b h C rt rw dn sz wy st cap cl' bs hn hi3 hb hS hM hO
    refine Ax_il3 dL_law_18 ?_
    refine Ax_al0 dL_law_19 ?_
    refine Ax_slen dL_law_20 ?_
    refine Ax_ic5 dL_law_21 ?_
    refine Ax_isub dL_law_22 ?_
    refine Ax_cmpgt (tgt := 656) dL_law_23 (by decide) (fun c23 => ?_) (fun c23 => ?_)
    · refine Ax_ic1 dL_law_656 ?_
      exact Ax_iret dL_law_657 rfl (by decide) rfl
    rw [Int32.lt_iff_toInt_lt, hl5, nI_toInt (by omega)] at c23
    have hi : i + 5 ≤ G.2.2.2.2.2.1 := by omega
    have e5 : nI i + 5 = nI (i + 5) := by rw [show (5 : Int32) = nI 5 from rfl, nI_add]
    have hnext : ∀ b' h' C' rt' rw' dn' sz' wy' cl2 st' bs' cap', pot cap' ≤ b' → vX5 h' C' rt' rw' dn' sz' wy' cl2 st' bs' cap' → vM h' C' rt' rw' dn' sz' wy' cl2 bs' → sOk C' rt' rw' dn' sz' wy' → Ax G mL_law 40 b' 650 [.ref 1000000, .ref 0, .ref 30, .int (nI i)] [] h' (fun r _ => r = some (.int 1)) := by
      intro b' h' C' rt' rw' dn' sz' wy' cl2 st' bs' cap' g1 g2 g3 g4
      refine Ax_inc3_5 dL_law_650 (Nat.le_of_ble_eq_true rfl) (by rfl) ?_
      refine Ax_goto (tgt := 18) dL_law_653 (by decide) ?_
      rw [e5]
      exact ih (i + 5) b' h' C' rt' rw' dn' sz' wy' st' cap' cl2 bs' (by omega) (by omega) g1 g2 g3 g4
    refine Ax_al0 dL_law_26 ?_
    refine Ax_il3 dL_law_27 ?_
    refine Ax_sldn dL_law_28 (by omega) (by omega) ?_
    refine Ax_bp31 dL_law_29 ?_
    refine Ax_iand dL_law_31 ?_
    rcases x_tabN 20 (scX G i &&& nI 31) with hw | ⟨w, hw, e⟩
    · have hw' : (scX G i &&& nI 31).toInt < 0 ∨ 19 < (scX G i &&& nI 31).toInt := by omega
      refine Ax_tabO (tgt := 650) dL_law_32 (by assumption) (by decide) ?_
      exact hnext b h C rt rw dn sz wy cl' st bs cap hb hS hM hO
    · refine Ax_top e ?_
      rcases (show w = 0 ∨ w = 1 ∨ w = 2 ∨ w = 3 ∨ w = 4 ∨ w = 5 ∨ w = 6 ∨ w = 7 ∨ w = 8 ∨ w = 9 ∨ w = 10 ∨ w = 11 ∨ w = 12 ∨ w = 13 ∨ w = 14 ∨ w = 15 ∨ w = 16 ∨ w = 17 ∨ w = 18 ∨ w = 19 by omega) with rfl | rfl | rfl | rfl | rfl | rfl | rfl | rfl | rfl | rfl | rfl | rfl | rfl | rfl | rfl | rfl | rfl | rfl | rfl | rfl
      · refine Ax_tabI (tgt := 128) dL_law_32 (by decide) (by decide) rfl (by decide) ?_
        exact lw_cadd hS hM hO hb hi hL hnext
      · refine Ax_tabI (tgt := 181) dL_law_32 (by decide) (by decide) rfl (by decide) ?_
        exact lw_cclash hS hM hO hb hi hL hnext
      · refine Ax_tabI (tgt := 194) dL_law_32 (by decide) (by decide) rfl (by decide) ?_
        exact lw_cdrop hS hM hO hb hi hL hnext
      · refine Ax_tabI (tgt := 217) dL_law_32 (by decide) (by decide) rfl (by decide) ?_
        exact lw_crest hS hM hO hb hi hL hnext
      · refine Ax_tabI (tgt := 250) dL_law_32 (by decide) (by decide) rfl (by decide) ?_
        exact lw_ctables hS hM hO hb hi hL hnext
      · refine Ax_tabI (tgt := 283) dL_law_32 (by decide) (by decide) rfl (by decide) ?_
        exact lw_cway hS hM hO hb hi hL hnext
      · refine Ax_tabI (tgt := 306) dL_law_32 (by decide) (by decide) rfl (by decide) ?_
        exact lw_ctold hS hM hO hb hi hL hnext
      · refine Ax_tabI (tgt := 339) dL_law_32 (by decide) (by decide) rfl (by decide) ?_
        exact lw_ccount hS hM hO hb hi hL hnext
      · refine Ax_tabI (tgt := 362) dL_law_32 (by decide) (by decide) rfl (by decide) ?_
        exact lw_crun hS hM hO hb hi hL hnext
      · refine Ax_tabI (tgt := 395) dL_law_32 (by decide) (by decide) rfl (by decide) ?_
        exact lw_ccluster hS hM hO hb hi hL hnext
      · refine Ax_tabI (tgt := 428) dL_law_32 (by decide) (by decide) rfl (by decide) ?_
        exact lw_ccost hS hM hO hb hi hL hnext
      · refine Ax_tabI (tgt := 441) dL_law_32 (by decide) (by decide) rfl (by decide) ?_
        exact lw_cline hS hM hO hb hi hL hnext
      · refine Ax_tabI (tgt := 474) dL_law_32 (by decide) (by decide) rfl (by decide) ?_
        exact lw_cbits hS hM hO hb hi hL hnext
      · refine Ax_tabI (tgt := 498) dL_law_32 (by decide) (by decide) rfl (by decide) ?_
        exact lw_centry hS hM hO hb hi hL hnext
      · refine Ax_tabI (tgt := 531) dL_law_32 (by decide) (by decide) rfl (by decide) ?_
        exact lw_cgo hS hM hO hb hi hL hnext
      · refine Ax_tabI (tgt := 554) dL_law_32 (by decide) (by decide) rfl (by decide) ?_
        exact lw_csteps hS hM hO hb hi hL hnext
      · refine Ax_tabI (tgt := 577) dL_law_32 (by decide) (by decide) rfl (by decide) ?_
        exact lw_cby hS hM hO hb hi hL hnext
      · refine Ax_tabI (tgt := 600) dL_law_32 (by decide) (by decide) rfl (by decide) ?_
        exact lw_cspent hS hM hO hb hi hL hnext
      · refine Ax_tabI (tgt := 614) dL_law_32 (by decide) (by decide) rfl (by decide) ?_
        exact lw_cprint hS hM hO hb hi hL hnext
      · refine Ax_tabI (tgt := 627) dL_law_32 (by decide) (by decide) rfl (by decide) ?_
        exact lw_cout hS hM hO hb hi hL hnext
theorem v0.on {h h' : xH} (hS : v0 h) (hF : ∀ q, q < 30 → h'.1 q = h.1 q) : v0 h' := by
  obtain ⟨h0, ⟨lo, hi, tg, wt, h1, h2⟩, h3, h4, ⟨lo2, hi2, tg2, wt2, n2, g1⟩, ⟨kn, fi, la, we, fw, en, dn, sz, hd, g2⟩, ⟨cos, sps, wv, g3, g4⟩, kn', fi', se, rw', st, nu, len, us, rt, tg', dn', g5⟩ := hS
  exact ⟨(hF 0 (by omega)).trans h0, ⟨lo, hi, tg, wt, h1.on (fun q hq => hF q (by omega)), h2⟩, (hF 28 (by omega)).trans h3, (hF 29 (by omega)).trans h4, ⟨lo2, hi2, tg2, wt2, n2, g1.on (fun q hq => hF q (by omega))⟩, ⟨kn, fi, la, we, fw, en, dn, sz, hd, g2.on (fun q hq => hF q (by omega))⟩, ⟨cos, sps, wv, g3.on (fun q hq => hF q (by omega)), g4⟩, kn', fi', se, rw', st, nu, len, us, rt, tg', dn', g5.on (fun q hq => hF q (by omega))⟩
theorem v0.whole {h : xH} (hS : v0 h) (hz : h.2 = 59) : vX5 h (fun _ => none) 0 0 40 64 0 (-1) 1 [] 256 := by
  obtain ⟨h0, ⟨lo, hi, tg, wt, h1, h2⟩, h3, h4, h5⟩ := hS
  refine ⟨h0, ⟨lo, hi, tg, wt, h1, fun k hk => Or.inl ⟨rfl, h2 k hk⟩⟩, ⟨29, fun _ => 0, h3, h4, fun k hk => absurd hk (Nat.not_lt_zero _), fun k hk => (show fits .byte (.int 0) = true by decide), Or.inl rfl, by omega, by omega, by omega, Or.inl rfl, Nat.zero_le _⟩, Or.inl ⟨rfl, h5⟩⟩
theorem sOk_new : sOk (fun _ => none) 0 0 40 64 0 := ⟨⟨fun k c hc => (by cases hc), fun j k c d _ hc => (by cases hc)⟩, by decide, by decide, by decide, by decide, by decide, by decide, by decide⟩
theorem lw_all {h : xH} (hL : G.2.2.2.2.2.1 ≤ 2560) (zz : h.2 = 0) : Ax G mL_law 40 600000 0 [.ref 1000000, .null, .null, .null] [] h (fun r _ => r = some (.int 1)) := by
  refine Ax_newOz (z := 0) kfX5 clL_7 dL_law_0 dfX5 zz (by omega) (by omega) (fun h1 e1 f1 z1 => ?_)
  replace zz := z1
  refine Ax_dup dL_law_3 rfl ?_
  refine Ax_cIv (by decide) dL_law_4 iL_9 e1 (tX5_init (G := G) e1 zz) rfl rfl (by decide) (by simp [Value.category]) (by omega) (fun h11 q11 => ?_)
  obtain ⟨hv, zz⟩ := q11
  refine Ax_as1 dL_law_7 (Nat.le_of_ble_eq_true rfl) (by rfl) ?_
  refine Ax_newOz (z := 30) kfX6 clL_10 dL_law_8 dfX6 zz (by omega) (by omega) (fun h12 e12 f12 z12 => ?_)
  replace zz := z12
  refine Ax_dup dL_law_11 rfl ?_
  refine Ax_cIv (by decide) dL_law_12 iL_12 e12 (tX6_init (G := G) e12 zz) rfl rfl (by decide) (by simp [Value.category]) (by omega) (fun h21 q21 => ?_)
  obtain ⟨hM, hF, zz⟩ := q21
  have hv2 := hv.on (h' := h21) (fun q hq => (hF q hq).trans (f12 q (by omega)))
  refine Ax_as2 dL_law_15 (Nat.le_of_ble_eq_true rfl) (by rfl) ?_
  refine Ax_ic0 dL_law_16 ?_
  refine Ax_is3 dL_law_17 (Nat.le_of_ble_eq_true rfl) (by rfl) ?_
  refine lw_loop hL 600 0 _ _ _ _ _ _ _ _ _ 256 _ _ (by omega) (by omega) ?_ (hv2.whole zz) hM sOk_new
  show pot 256 ≤ 600000 - (13 + 1) - 6900 - (41 + 1) - 44117
  decide
end
