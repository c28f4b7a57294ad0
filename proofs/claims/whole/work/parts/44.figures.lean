/-! Text: sixteen figures -/
def hx (d : Nat) : Nat := if d < 10 then 48 + d else 55 + d
def hexL (r : Nat) : Nat → List Nat
  | 0 => []
  | j + 1 => hx (r / 2 ^ (4 * j) % 16) :: hexL r j
theorem hexL_len (r : Nat) : ∀ j, (hexL r j).length = j
  | 0 => rfl
  | j + 1 => by rw [hexL, List.length_cons, hexL_len r j]
section
variable {G : xG} {h : xH} {bs : List Nat} {cap : Nat}
theorem wb_fig {n k : Nat} (hn : n < 2 ^ 64) (hk : k < 64) : ((lN n).toUInt64 >>> ((nI k).toInt64.toUInt64 &&& Int64.toUInt64 63)).toInt64 &&& 15 = lN (n / 2 ^ k % 16) := by
  rw [wb_shr hn hk]
  exact wb_mask (k := 4) (Nat.lt_of_le_of_lt (Nat.div_le_self _ _) hn) (by decide)
theorem tX3_figures {n : Nat} (hn : n < 2 ^ 64) (hT : vTx h bs cap) (hl : bs.length + 16 < 65536) : AM G mX3_figures 4 (pay cap bs.length (hexL n 16).length) [.ref 28, .long (lN n)] h (fun r h' => r = none ∧ Ap h bs cap (hexL n 16) h') := by
  refine AM.of rfl rfl (Nat.le_of_ble_eq_true rfl) rfl ?_
  refine Ax_bp60 dX3_figures_0 ?_
  refine Ax_is3 dX3_figures_2 (Nat.le_of_ble_eq_true rfl) (by rfl) ?_
  suffices hloop : ∀ r (h1 : xH) (bs1 : List Nat) (cap1 : Nat) x4, r ≤ 16 → vTx h1 bs1 cap1 → bs1.length + r < 65536 → Ax G mX3_figures 4 (pay cap1 bs1.length r) 3 [.ref 28, .long (lN n), .null, .int (nI (4 * r) - nI 4), x4] [] h1 (fun q h' => q = none ∧ Ap h1 bs1 cap1 (hexL n r) h') by
    have := hloop 16 h bs cap .null (by omega) hT (by omega)
    rw [hexL_len]
    exact this
  intro r
  induction r with
  | zero =>
    intro h1 bs1 cap1 x4 hr hT hl
    refine Ax_il3 dX3_figures_3 ?_
    refine Ax_iflt (tgt := 50) dX3_figures_4 (by decide) (fun c4 => ?_) (fun c4 => ?_)
    · exact Ax_ret dX3_figures_50 rfl ⟨rfl, by rw [hexL, List.append_nil]; exact hT, xFt.rf⟩
    · exact absurd (show nI (4 * 0) - nI 4 < 0 by decide) c4
  | succ r ih =>
    intro h1 bs1 cap1 x4 hr hT hl
    obtain ⟨ba, f, t, -⟩ := hT.ob
    have hok := hT.ok
    have hc := pay_add (n := bs1.length) hok 1 r
    rw [Nat.add_comm 1 r] at hc
    have e4 : nI (4 * (r + 1)) - nI 4 = nI (4 * r) := by
      rw [pk_sub (by omega)]
      congr 1
    rw [e4]
    have hd : n / 2 ^ (4 * r) % 16 < 16 := Nat.mod_lt _ (by decide)
    have hx1 : hx (n / 2 ^ (4 * r) % 16) < 128 := by unfold hx; split <;> omega
    have hrest : ∀ x4 b', pay cap1 bs1.length (r + 1) ≤ b' → Ax G mX3_figures 4 b' 41 [.ref 28, .long (lN n), .null, .int (nI (4 * r)), x4] [.int (nI (hx (n / 2 ^ (4 * r) % 16))), .ref 28] h1 (fun q h' => q = none ∧ Ap h1 bs1 cap1 (hexL n (r + 1)) h') := by
      intro x4 b' hb'
      refine Ax_cVv dX3_figures_41 vX3_28 kfX3 t (tT_put (G := G) hT hx1 (by omega)) rfl rfl (by decide) (by simp [Value.category]) (by omega) (fun h2 q2 => ?_)
      obtain ⟨hT2, hF2⟩ := q2
      refine Ax_inc3_m4 dX3_figures_44 (Nat.le_of_ble_eq_true rfl) (by rfl) ?_
      refine Ax_goto (tgt := 3) dX3_figures_47 (by decide) ?_
      refine Ax_b (b' := pay (capN cap1 bs1.length 1) (bs1.length + 1) r) (by omega) ?_
      have hih := ih h2 (bs1 ++ [hx (n / 2 ^ (4 * r) % 16)]) (capN cap1 bs1.length 1) x4 (by omega) hT2 (by rw [List.length_append, List.length_singleton]; omega)
      rw [List.length_append, List.length_singleton] at hih
      refine Ax_L (L' := [.ref 28, .long (lN n), .null, .int (nI (4 * r) - nI 4), x4]) (by rw [Int32.sub_eq_add_neg]; simp [x_sub]; rfl) ?_
      refine Ax_post ?_ hih
      rintro q h' ⟨a1, a2⟩
      refine ⟨a1, ?_⟩
      rw [hexL]
      exact Ap.tr (ks := [hx (n / 2 ^ (4 * r) % 16)]) ⟨hT2, hF2⟩ a2
    refine Ax_il3 dX3_figures_3 ?_
    refine Ax_ifltn (tgt := 50) dX3_figures_4 (by decide) (by omega) ?_
    refine Ax_ll1 dX3_figures_7 ?_
    refine Ax_il3 dX3_figures_8 ?_
    refine Ax_lushr dX3_figures_9 ?_
    refine Ax_ldc2 dX3_figures_10 cX3_36 ?_
    refine Ax_land dX3_figures_13 ?_
    refine Ax_topL (wb_fig hn (show 4 * r < 64 by omega)) ?_
    refine Ax_l2in dX3_figures_14 ?_
    refine Ax_is4 dX3_figures_15 (Nat.le_of_ble_eq_true rfl) (by rfl) ?_
    refine Ax_al0 dX3_figures_17 ?_
    refine Ax_il4 dX3_figures_18 ?_
    refine Ax_bp10 dX3_figures_20 ?_
    refine Ax_cmpgen (tgt := 33) dX3_figures_22 (by decide) (by omega) (by omega) (fun c22 => ?_) (fun c22 => ?_)
    · unfold hx at hrest
      rw [if_neg (by omega)] at hrest
      refine Ax_bp65 dX3_figures_33 ?_
      refine Ax_il4 dX3_figures_35 ?_
      refine Ax_iaddn dX3_figures_37 ?_
      refine Ax_bp10 dX3_figures_38 ?_
      refine Ax_isubn dX3_figures_40 (by omega) ?_
      rw [show 65 + n / 2 ^ (4 * r) % 16 - 10 = 55 + n / 2 ^ (4 * r) % 16 by omega]
      exact hrest _ _ (Nat.le_refl _)
    · unfold hx at hrest
      rw [if_pos (by omega)] at hrest
      refine Ax_bp48 dX3_figures_25 ?_
      refine Ax_il4 dX3_figures_27 ?_
      refine Ax_iaddn dX3_figures_29 ?_
      refine Ax_goto (tgt := 41) dX3_figures_30 (by decide) ?_
      exact hrest _ _ (Nat.le_refl _)
end
