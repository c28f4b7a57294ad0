/-! Text: words, clear, length, byteAt -/
def xsNat : List (List Nat) := [[32, 76, 69, 83, 83, 32], [32, 77, 79, 82, 69, 32], [32, 83, 65, 77, 69, 32], [32, 66, 73, 84, 32], [32, 84, 65, 66, 76, 69, 32], [32, 69, 78, 68, 32], [32], [10]]
def xN (k : Nat) : List Nat := xsNat.getD k []
theorem xN_ok : ∀ k, k < 8 → (xN k).length = xsLen.getD k 0 ∧ (∀ c ∈ xN k, c < 128) ∧ ∀ j, j < 7 → (xsByt.getD k []).getD j 0 = nI ((xN k).getD j 0) := by decide
theorem tk1 (l : List Nat) {j : Nat} (hj : j < l.length) : l.take (j + 1) = l.take j ++ [l.getD j 0] := by
  rw [List.getD_eq_getElem?_getD, List.getElem?_eq_getElem hj]
  exact List.take_succ_eq_append_getElem hj
theorem getD_mem {l : List Nat} {j : Nat} (hj : j < l.length) : l.getD j 0 ∈ l := by
  rw [List.getD_eq_getElem?_getD, List.getElem?_eq_getElem hj]
  exact List.getElem_mem hj
theorem vTx.ok {h : xH} {bs : List Nat} {cap : Nat} (hT : vTx h bs cap) : capOk cap := by
  obtain ⟨ba, f, h1, h2, h3, h4, h5, h6, h7, h8, h9, h10⟩ := hT
  exact h9
theorem vTx.ob {h : xH} {bs : List Nat} {cap : Nat} (hT : vTx h bs cap) : ∃ (ba : Nat) (f : Nat → Int32), h.1 28 = cO 3 [.ref ba, .int (nI bs.length)] ∧ h.1 ba = cI 1 cap f ∧ (∀ k, k < bs.length → f k = nI (bs.getD k 0)) := by
  obtain ⟨ba, f, h1, h2, h3, h4, h5, h6, h7, h8, h9, h10⟩ := hT
  exact ⟨ba, f, h1, h2, h3⟩
section
variable {G : xG} {h : xH} {bs : List Nat} {cap : Nat}
theorem tX3_word {k : Nat} (hk : k < 8) (hT : vTx h bs cap) (hl : bs.length + 7 < 65536) : AM G mX3_word 4 (pot cap - pot (capN cap bs.length (xN k).length)) [.ref 28, .ref (1000001 + k)] h (fun r h' => r = none ∧ vTx h' (bs ++ xN k) (capN cap bs.length (xN k).length) ∧ xFt h h') := by
  obtain ⟨w1, w2, w3⟩ := xN_ok k hk
  obtain ⟨l1, l2⟩ := xs_len k hk
  have hok := hT.ok
  refine AM.of rfl rfl (Nat.le_of_ble_eq_true rfl) rfl ?_
  refine Ax_ic0 dX3_word_0 ?_
  refine Ax_is2 dX3_word_1 (Nat.le_of_ble_eq_true rfl) (by rfl) ?_
  suffices hloop : ∀ m j h1, j + m = (xN k).length → vTx h1 (bs ++ (xN k).take j) (capN cap bs.length j) → xFt h h1 → Ax G mX3_word 4 (pot (capN cap bs.length j) - pot (capN cap bs.length (xN k).length)) 2 [.ref 28, .ref (1000001 + k), .int (nI j)] [] h1 (fun r h' => r = none ∧ vTx h' (bs ++ xN k) (capN cap bs.length (xN k).length) ∧ xFt h h') from
    hloop (xN k).length 0 h (by omega) (by rw [List.take_zero, List.append_nil]; exact hT) xFt.rf
  intro m
  induction m with
  | zero =>
    intro j h1 hj hT1 hF1
    obtain rfl : j = (xN k).length := by omega
    rw [List.take_length] at hT1
    refine Ax_il2 dX3_word_2 ?_
    refine Ax_al1 dX3_word_3 ?_
    refine Ax_cTi (by assumption) rfl dX3_word_4 vX3_19 (tJ0_length hk) rfl rfl (by decide) (by simp [Value.category]) ?_
    refine Ax_cmpgen (tgt := 25) dX3_word_7 (by decide) (by omega) (by omega) (fun c7 => ?_) (fun c7 => ?_)
    · exact Ax_ret dX3_word_25 rfl ⟨rfl, hT1, hF1⟩
    · omega
  | succ m ih =>
    intro j h1 hj hT1 hF1
    have hjl : j < (xN k).length := by omega
    obtain ⟨ba, f, t, -⟩ := hT1.ob
    have hlen : (bs ++ (xN k).take j).length = bs.length + j := by rw [List.length_append, List.length_take]; omega
    obtain ⟨o1, o2⟩ := capN_ok (n := bs.length) hok j
    obtain ⟨o3, o4⟩ := capN_ok (n := bs.length) hok (j + 1)
    have q1 := pot_le (upcap_ok (n := bs.length + j) o1).2
    have q2 : pot (capN cap bs.length (xN k).length) ≤ pot (capN cap bs.length (j + 1)) := by
      refine pot_le ?_
      rw [show (xN k).length = j + 1 + m by omega, show capN cap bs.length (j + 1 + m) = capN (capN cap bs.length (j + 1)) (bs.length + (j + 1)) m from capN_add m]
      exact (capN_ok o3 m).2
    have q3 : upcap (capN cap bs.length j) (bs.length + j) = capN cap bs.length (j + 1) := rfl
    have hput := tX3_put (G := G) (c := (xN k).getD j 0) hT1 (w2 _ (getD_mem hjl)) (by omega)
    rw [hlen, q3, List.append_assoc, ← tk1 (xN k) hjl] at hput
    rw [q3] at q1
    refine Ax_il2 dX3_word_2 ?_
    refine Ax_al1 dX3_word_3 ?_
    refine Ax_cTi (by assumption) rfl dX3_word_4 vX3_19 (tJ0_length hk) rfl rfl (by decide) (by simp [Value.category]) ?_
    refine Ax_cmpgen (tgt := 25) dX3_word_7 (by decide) (by omega) (by omega) (fun c7 => ?_) (fun c7 => ?_)
    · omega
    refine Ax_al0 dX3_word_10 ?_
    refine Ax_al1 dX3_word_11 ?_
    refine Ax_il2 dX3_word_12 ?_
    refine Ax_cTi (by assumption) rfl dX3_word_13 vX3_24 (tJ0_charAt (j := j) hk (by omega)) rfl rfl (by decide) (by simp [Value.category]) ?_
    refine Ax_top (w3 j (by omega)) ?_
    refine Ax_cVv dX3_word_16 vX3_28 kfX3 t hput rfl rfl (by decide) (by simp [Value.category]) (by omega) (fun h2 q2 => ?_)
    obtain ⟨hT2, hF2⟩ := q2
    refine Ax_inc2_1n dX3_word_19 (Nat.le_of_ble_eq_true rfl) (by rfl) ?_
    refine Ax_goto (tgt := 2) dX3_word_22 (by decide) ?_
    refine Ax_b (b' := pot (capN cap bs.length (j + 1)) - pot (capN cap bs.length (xN k).length)) (by omega) ?_
    exact ih (j + 1) h2 (by omega) hT2 (hF1.tr hF2)
theorem tX3_length (hT : vTx h bs cap) : AM G mX3_length 0 0 [.ref 28] h (fun r h' => r = some (.int (nI bs.length)) ∧ h' = h) := by
  obtain ⟨ba, f, t, -⟩ := hT.ob
  refine AM.of rfl rfl (Nat.le_of_ble_eq_true rfl) rfl ?_
  refine Ax_al0 dX3_length_0 ?_
  refine Ax_getf kfX3 fX3_15 dX3_length_1 t rfl ?_
  exact Ax_iret dX3_length_4 rfl rfl ⟨rfl, rfl⟩
theorem tX3_clear (hT : vTx h bs cap) : AM G mX3_clear 0 0 [.ref 28] h (fun r h' => r = none ∧ vTx h' [] cap ∧ xFt h h') := by
  obtain ⟨ba, f, t, h2, h3, h4, h5, h6, h7, h8, h9, h10⟩ := hT
  have t0 := h2
  refine AM.of rfl rfl (Nat.le_of_ble_eq_true rfl) rfl ?_
  have fr : ∀ q, (q < 28 ∨ (30 ≤ q ∧ q < 59) ∨ 2000000 ≤ q) → h.1 q = h.1 q := fun _ _ => rfl
  have zr : h.2 = h.2 := rfl
  refine Ax_al0 dX3_clear_0 ?_
  refine Ax_ic0 dX3_clear_1 ?_
  refine Ax_putf kfX3 fX3_15 dX3_clear_2 t (Nat.le_of_ble_eq_true rfl) (Or.inl rfl) (by rfl) (by rfl) (Ax_up (fun h1 e1 f1 z1 => ?_))
  replace t := e1
  replace t0 := (f1 _ (by omega)).trans t0
  replace fr : ∀ q, (q < 28 ∨ (30 ≤ q ∧ q < 59) ∨ 2000000 ≤ q) → h1.1 q = h.1 q := fun q hq => (f1 q (by omega)).trans (fr q hq)
  replace zr := z1.trans zr
  exact Ax_ret dX3_clear_5 rfl ⟨rfl, ⟨ba, f, t, t0, fun k hk => absurd hk (Nat.not_lt_zero _), h4, h5, by rw [zr]; exact h6, by rw [zr]; exact h7, by rw [zr]; exact h8, h9, Nat.zero_le _⟩, fr, by rw [zr]; exact Nat.le_refl _⟩
theorem tX3_byteAt (hT : vTx h bs cap) (i : Int32) : AM G mX3_byteAt 0 0 [.ref 28, .int i] h (fun r h' => r = some (.int (if gIn bs.length i = true then nI (bs.getD i.toNatClampNeg 0) else -1)) ∧ h' = h) := by
  have hok := hT.ok
  obtain ⟨ba, f, t, h2, h3, h4, h5, h6, h7, h8, h9, h10⟩ := hT
  have t0 := h2
  have hcap : cap ≤ 65536 := by unfold capOk at hok; omega
  refine AM.of rfl rfl (Nat.le_of_ble_eq_true rfl) rfl ?_
  refine Ax_il1 dX3_byteAt_0 ?_
  refine Ax_iflt (tgt := 30) dX3_byteAt_1 (by decide) (fun c1 => ?_) (fun c1 => ?_)
  · rw [gIn_f (Or.inl c1), if_neg (by decide)]
    refine Ax_icm1 dX3_byteAt_30 ?_
    exact Ax_iret dX3_byteAt_31 rfl rfl ⟨rfl, rfl⟩
  refine Ax_il1 dX3_byteAt_4 ?_
  refine Ax_al0 dX3_byteAt_5 ?_
  refine Ax_getf kfX3 fX3_15 dX3_byteAt_6 t rfl ?_
  refine Ax_cmpge (tgt := 30) dX3_byteAt_9 (by decide) (fun c9 => ?_) (fun c9 => ?_)
  · rw [gIn_f (Or.inr c9), if_neg (by decide)]
    refine Ax_icm1 dX3_byteAt_30 ?_
    exact Ax_iret dX3_byteAt_31 rfl rfl ⟨rfl, rfl⟩
  obtain ⟨k, hk, rfl⟩ := x_ix c1 c9 (by omega)
  rw [gIn_n hk (by omega), if_pos rfl, nI_clamp (by omega), ← h3 k hk]
  refine Ax_il1 dX3_byteAt_12 ?_
  refine Ax_al0 dX3_byteAt_13 ?_
  refine Ax_getf kfX3 fX3_9 dX3_byteAt_14 t rfl ?_
  refine Ax_alen (by decide) dX3_byteAt_17 t0 ?_
  refine Ax_cmpgen (tgt := 30) dX3_byteAt_18 (by decide) (by omega) (by omega) (fun c18 => ?_) (fun c18 => ?_)
  · omega
  · refine Ax_al0 dX3_byteAt_21 ?_
    refine Ax_getf kfX3 fX3_9 dX3_byteAt_22 t rfl ?_
    refine Ax_il1 dX3_byteAt_25 ?_
    refine Ax_baldn dX3_byteAt_26 t0 (by omega) (by omega) ?_
    refine Ax_goto (tgt := 31) dX3_byteAt_27 (by decide) ?_
    exact Ax_iret dX3_byteAt_31 rfl rfl ⟨rfl, rfl⟩
end
