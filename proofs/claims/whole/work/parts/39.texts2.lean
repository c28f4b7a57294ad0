/-! the JDK's texts: length and charAt -/
theorem fJ0_9 : Cond.fieldLink RJ0 9 "java/lang/String" "value" "[B" ∈ lw_good := (g_in5 94 rfl rfl)
theorem fJ0_15 : Cond.fieldLink RJ0 15 "java/lang/String" "coder" "B" ∈ lw_good := (g_in5 95 rfl rfl)
theorem fJ0_38 : Cond.fieldLink RJ0 38 "java/lang/String" "COMPACT_STRINGS" "Z" ∈ lw_good := (g_in3 181 rfl rfl)
theorem fJ0_1053 : Cond.fieldLink RJ0 1053 "jdk/internal/util/Preconditions" "SIOOBE_FORMATTER" "Ljava/util/function/BiFunction;" ∈ lw_good := (g_in3 197 rfl rfl)
section
variable {G : xG} {M : xM} {d b pc : Nat} {L st : List Value} {h : xH} {Q : Option Value → xH → Prop}
theorem Ax_cTi {idx n k d' : Nat} {M' : xM} {as stk : List Value} {x : Int32} (hk : k < 8) (hcl : M'.2.1.cls = "java/lang/String") (hd : decode M.2.2.1 pc = .ok (.invokevirtual idx, 3)) (hw : xCV M.1 idx M' n) (hM : AM G M' d' 0 (.ref (1000001 + k) :: as) h (fun r h' => r = some (.int x) ∧ h' = h)) (hn : as.length = n) (hstk : stk = as.reverse ++ .ref (1000001 + k) :: st) (hdd : d' + 1 ≤ d) (hcat : (st.map fun v => v.category).sum ≤ 8)
    (kk : Ax G M d b (pc + 3) L (.int x :: st) h Q) : Ax G M d b pc L stk h Q :=
  Ax_callT hk hcl hd hw hM hn hstk hdd (Nat.zero_le _) hcat (fun r h' hq => by obtain ⟨rfl, rfl⟩ := hq; exact kk)
theorem tJ0_coder {k : Nat} (hk : k < 8) : AM G mJ0_coder_7d493 0 0 [.ref (1000001 + k)] h (fun r h' => r = some (.int (nI 0)) ∧ h' = h) := by
  refine AM.of rfl rfl (Nat.le_of_ble_eq_true rfl) rfl ?_
  refine Ax_txS fJ0_38 dJ0_coder_7d493_0 ?_
  refine Ax_ifeqn (tgt := 13) dJ0_coder_7d493_3 (by decide) (by decide) (fun q => absurd q (by decide)) (fun _ => ?_)
  refine Ax_al0 dJ0_coder_7d493_6 ?_
  refine Ax_txC hk fJ0_15 dJ0_coder_7d493_7 ?_
  refine Ax_goto (tgt := 14) dJ0_coder_7d493_10 (by decide) ?_
  exact Ax_iret dJ0_coder_7d493_14 rfl (by decide) ⟨rfl, rfl⟩
theorem tJ0_isLatin1 {k : Nat} (hk : k < 8) : AM G mJ0_isLatin1_aae02 0 0 [.ref (1000001 + k)] h (fun r h' => r = some (.int (nI 1)) ∧ h' = h) := by
  refine AM.of rfl rfl (Nat.le_of_ble_eq_true rfl) rfl ?_
  refine Ax_txS fJ0_38 dJ0_isLatin1_aae02_0 ?_
  refine Ax_ifeqn (tgt := 17) dJ0_isLatin1_aae02_3 (by decide) (by decide) (fun q => absurd q (by decide)) (fun _ => ?_)
  refine Ax_al0 dJ0_isLatin1_aae02_6 ?_
  refine Ax_txC hk fJ0_15 dJ0_isLatin1_aae02_7 ?_
  refine Ax_ifnen (tgt := 17) dJ0_isLatin1_aae02_10 (by decide) (by decide) (fun q => absurd rfl q) (fun _ => ?_)
  refine Ax_ic1 dJ0_isLatin1_aae02_13 ?_
  refine Ax_goto (tgt := 18) dJ0_isLatin1_aae02_14 (by decide) ?_
  exact Ax_iret dJ0_isLatin1_aae02_18 rfl (by decide) ⟨rfl, rfl⟩
theorem tJ0_length {k : Nat} (hk : k < 8) : AM G mJ0_length_8abf5 1 0 [.ref (1000001 + k)] h (fun r h' => r = some (.int (nI (xsLen.getD k 0))) ∧ h' = h) := by
  refine AM.of rfl rfl (Nat.le_of_ble_eq_true rfl) rfl ?_
  refine Ax_al0 dJ0_length_8abf5_0 ?_
  refine Ax_txV hk fJ0_9 dJ0_length_8abf5_1 ?_
  refine Ax_txL hk dJ0_length_8abf5_4 ?_
  refine Ax_al0 dJ0_length_8abf5_5 ?_
  refine Ax_cTi hk rfl dJ0_length_8abf5_6 vJ0_335 (tJ0_coder hk) rfl rfl (by decide) (by simp [Value.category]) ?_
  refine Ax_ishr dJ0_length_8abf5_9 ?_
  refine Ax_top (show nI (xsLen.getD k 0) >>> (nI 0 &&& 31) = nI (xsLen.getD k 0) by
    have : ∀ k, k < 8 → nI (xsLen.getD k 0) >>> (nI 0 &&& 31) = nI (xsLen.getD k 0) := by decide
    exact this k hk) ?_
  exact Ax_iret dJ0_length_8abf5_10 rfl rfl ⟨rfl, rfl⟩
theorem tJ3_check {i n : Nat} (hi : i < n) (hn : n < 2 ^ 31) {v : Value} (hv : v = .null ∨ v = .ref 1000050) : AM G mJ3_checkIndex_8e157 0 0 [.int (nI i), .int (nI n), v] h (fun r h' => r = some (.int (nI i)) ∧ h' = h) := by
  rcases hv with rfl | rfl
  · refine AM.of rfl rfl (Nat.le_of_ble_eq_true rfl) rfl ?_
    refine Ax_il0 dJ3_checkIndex_8e157_0 ?_
    refine Ax_ifltn (tgt := 9) dJ3_checkIndex_8e157_1 (by decide) (by omega) ?_
    refine Ax_il0 dJ3_checkIndex_8e157_4 ?_
    refine Ax_il1 dJ3_checkIndex_8e157_5 ?_
    refine Ax_cmpltn (tgt := 16) dJ3_checkIndex_8e157_6 (by decide) (by omega) (by omega) (fun q => ?_) (fun q => by omega)
    refine Ax_il0 dJ3_checkIndex_8e157_16 ?_
    exact Ax_iret dJ3_checkIndex_8e157_17 rfl rfl ⟨rfl, rfl⟩
  · refine AM.of rfl rfl (Nat.le_of_ble_eq_true rfl) rfl ?_
    refine Ax_il0 dJ3_checkIndex_8e157_0 ?_
    refine Ax_ifltn (tgt := 9) dJ3_checkIndex_8e157_1 (by decide) (by omega) ?_
    refine Ax_il0 dJ3_checkIndex_8e157_4 ?_
    refine Ax_il1 dJ3_checkIndex_8e157_5 ?_
    refine Ax_cmpltn (tgt := 16) dJ3_checkIndex_8e157_6 (by decide) (by omega) (by omega) (fun q => ?_) (fun q => by omega)
    refine Ax_il0 dJ3_checkIndex_8e157_16 ?_
    exact Ax_iret dJ3_checkIndex_8e157_17 rfl rfl ⟨rfl, rfl⟩
theorem tJ0_check {i n : Nat} (hi : i < n) (hn : n < 2 ^ 31) : AM G mJ0_checkIndex_df160 1 0 [.int (nI i), .int (nI n)] h (fun r h' => r = none ∧ h' = h) := by
  refine AM.of rfl rfl (Nat.le_of_ble_eq_true rfl) rfl ?_
  refine Ax_il0 dJ0_checkIndex_df160_0 ?_
  refine Ax_il1 dJ0_checkIndex_df160_1 ?_
  refine Ax_txF fJ0_1053 dJ0_checkIndex_df160_2 (fun v hv => ?_)
  refine Ax_cSi dJ0_checkIndex_df160_5 sJ0_1059 (tJ3_check hi hn hv) rfl rfl (by decide) (by simp [Value.category]) ?_
  refine Ax_pop dJ0_checkIndex_df160_8 rfl ?_
  exact Ax_ret dJ0_checkIndex_df160_9 rfl ⟨rfl, rfl⟩
theorem xs_chr : ∀ k, k < 8 → ∀ j, j < 7 → (((xsByt.getD k []).getD j 0 &&& nI 255).toUInt32 % 65536).toInt32 = (xsByt.getD k []).getD j 0 ∧ narrow .char (.int ((xsByt.getD k []).getD j 0)) = .int ((xsByt.getD k []).getD j 0) := by decide
theorem xs_len : ∀ k, k < 8 → xsLen.getD k 0 ≤ 7 ∧ xsLen.getD k 0 = (xsByt.getD k []).length := by decide
theorem tJ1_charAt {k j : Nat} (hk : k < 8) (hj : j < xsLen.getD k 0) : AM G mJ1_charAt_3b067 2 0 [.ref (1000101 + k), .int (nI j)] h (fun r h' => r = some (.int ((xsByt.getD k []).getD j 0)) ∧ h' = h) := by
  obtain ⟨l1, l2⟩ := xs_len k hk
  obtain ⟨c1, c2⟩ := xs_chr k hk j (by omega)
  refine AM.of rfl rfl (Nat.le_of_ble_eq_true rfl) rfl ?_
  refine Ax_il1 dJ1_charAt_3b067_0 ?_
  refine Ax_al0 dJ1_charAt_3b067_1 ?_
  refine Ax_txL hk dJ1_charAt_3b067_2 ?_
  refine Ax_cSv dJ1_charAt_3b067_3 sJ1_9 (tJ0_check hj (by omega)) rfl rfl (by decide) (by simp [Value.category]) (Nat.zero_le _) (fun h' q => ?_)
  subst q
  refine Ax_al0 dJ1_charAt_3b067_6 ?_
  refine Ax_il1 dJ1_charAt_3b067_7 ?_
  refine Ax_txB hk hj (by omega) dJ1_charAt_3b067_8 ?_
  refine Ax_sp255 dJ1_charAt_3b067_9 ?_
  refine Ax_iand dJ1_charAt_3b067_12 ?_
  refine Ax_i2c dJ1_charAt_3b067_13 ?_
  refine Ax_top c1 ?_
  exact Ax_iret dJ1_charAt_3b067_14 rfl c2 ⟨rfl, rfl⟩
theorem tJ0_charAt {k j : Nat} (hk : k < 8) (hj : j < xsLen.getD k 0) : AM G mJ0_charAt_5068e 3 0 [.ref (1000001 + k), .int (nI j)] h (fun r h' => r = some (.int ((xsByt.getD k []).getD j 0)) ∧ h' = h) := by
  obtain ⟨l1, l2⟩ := xs_len k hk
  obtain ⟨c1, c2⟩ := xs_chr k hk j (by omega)
  refine AM.of rfl rfl (Nat.le_of_ble_eq_true rfl) rfl ?_
  refine Ax_al0 dJ0_charAt_5068e_0 ?_
  refine Ax_cTi hk rfl dJ0_charAt_5068e_1 vJ0_492 (tJ0_isLatin1 hk) rfl rfl (by decide) (by simp [Value.category]) ?_
  refine Ax_ifeqn (tgt := 16) dJ0_charAt_5068e_4 (by decide) (by decide) (fun q => absurd q (by decide)) (fun _ => ?_)
  refine Ax_al0 dJ0_charAt_5068e_7 ?_
  refine Ax_txV hk fJ0_9 dJ0_charAt_5068e_8 ?_
  refine Ax_il1 dJ0_charAt_5068e_11 ?_
  refine Ax_cSi dJ0_charAt_5068e_12 sJ0_495 (tJ1_charAt hk hj) rfl rfl (by decide) (by simp [Value.category]) ?_
  exact Ax_iret dJ0_charAt_5068e_15 rfl c2 ⟨rfl, rfl⟩
end
