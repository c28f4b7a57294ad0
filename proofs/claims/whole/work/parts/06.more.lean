section
variable {G : xG} {M : xM} {d b pc : Nat} {L st : List Value} {h : xH} {Q : Option Value → xH → Prop}
theorem Ax_cmpgen {a c : Nat} {off : Int} {tgt : Nat} (hd : decode M.2.2.1 pc = .ok (.if_icmp .ge off, 3)) (ht : (pc : Int) + off = (tgt : Int)) (ha : a < 2 ^ 31) (hc : c < 2 ^ 31) (kt : c ≤ a → Ax G M d b tgt L st h Q) (kf : a < c → Ax G M d b (pc + 3) L st h Q) : Ax G M d b pc L (.int (nI c) :: .int (nI a) :: st) h Q :=
  Ax_cmpge hd ht (fun q => kt ((nI_leI hc ha).mp q)) (fun q => kf (by have := mt (nI_leI hc ha).mpr q; omega))
theorem Ax_cmpgtn {a c : Nat} {off : Int} {tgt : Nat} (hd : decode M.2.2.1 pc = .ok (.if_icmp .gt off, 3)) (ht : (pc : Int) + off = (tgt : Int)) (ha : a < 2 ^ 31) (hc : c < 2 ^ 31) (kt : c < a → Ax G M d b tgt L st h Q) (kf : a ≤ c → Ax G M d b (pc + 3) L st h Q) : Ax G M d b pc L (.int (nI c) :: .int (nI a) :: st) h Q :=
  Ax_cmpgt hd ht (fun q => kt ((nI_ltI hc ha).mp q)) (fun q => kf (by have := mt (nI_ltI hc ha).mpr q; omega))
theorem Ax_cmplen {a c : Nat} {off : Int} {tgt : Nat} (hd : decode M.2.2.1 pc = .ok (.if_icmp .le off, 3)) (ht : (pc : Int) + off = (tgt : Int)) (ha : a < 2 ^ 31) (hc : c < 2 ^ 31) (kt : a ≤ c → Ax G M d b tgt L st h Q) (kf : c < a → Ax G M d b (pc + 3) L st h Q) : Ax G M d b pc L (.int (nI c) :: .int (nI a) :: st) h Q :=
  Ax_cmple hd ht (fun q => kt ((nI_leI ha hc).mp q)) (fun q => kf (by have := mt (nI_leI ha hc).mpr q; omega))
theorem Ax_cmpltn {a c : Nat} {off : Int} {tgt : Nat} (hd : decode M.2.2.1 pc = .ok (.if_icmp .lt off, 3)) (ht : (pc : Int) + off = (tgt : Int)) (ha : a < 2 ^ 31) (hc : c < 2 ^ 31) (kt : a < c → Ax G M d b tgt L st h Q) (kf : c ≤ a → Ax G M d b (pc + 3) L st h Q) : Ax G M d b pc L (.int (nI c) :: .int (nI a) :: st) h Q :=
  Ax_cmplt hd ht (fun q => kt ((nI_ltI ha hc).mp q)) (fun q => kf (by have := mt (nI_ltI ha hc).mpr q; omega))
theorem Ax_cmpeqn {a c : Nat} {off : Int} {tgt : Nat} (hd : decode M.2.2.1 pc = .ok (.if_icmp .eq off, 3)) (ht : (pc : Int) + off = (tgt : Int)) (ha : a < 2 ^ 31) (hc : c < 2 ^ 31) (kt : a = c → Ax G M d b tgt L st h Q) (kf : a ≠ c → Ax G M d b (pc + 3) L st h Q) : Ax G M d b pc L (.int (nI c) :: .int (nI a) :: st) h Q :=
  Ax_cmpeq hd ht (fun q => kt ((nI_eq ha hc).mp q)) (fun q => kf (mt (nI_eq ha hc).mpr q))
theorem Ax_cmpnen {a c : Nat} {off : Int} {tgt : Nat} (hd : decode M.2.2.1 pc = .ok (.if_icmp .ne off, 3)) (ht : (pc : Int) + off = (tgt : Int)) (ha : a < 2 ^ 31) (hc : c < 2 ^ 31) (kt : a ≠ c → Ax G M d b tgt L st h Q) (kf : a = c → Ax G M d b (pc + 3) L st h Q) : Ax G M d b pc L (.int (nI c) :: .int (nI a) :: st) h Q :=
  Ax_cmpne hd ht (fun q => kt (mt (nI_eq ha hc).mpr q)) (fun q => kf ((nI_eq ha hc).mp q))
theorem Ax_ifeqn {a : Nat} {off : Int} {tgt : Nat} (hd : decode M.2.2.1 pc = .ok (.ifCond .eq off, 3)) (ht : (pc : Int) + off = (tgt : Int)) (ha : a < 2 ^ 31) (kt : a = 0 → Ax G M d b tgt L st h Q) (kf : a ≠ 0 → Ax G M d b (pc + 3) L st h Q) : Ax G M d b pc L (.int (nI a) :: st) h Q :=
  Ax_ifeq hd ht (fun q => kt (by rcases Nat.eq_zero_or_pos a with e | e; exact e; exact absurd q (nI_ne0 e ha))) (fun q => kf (fun e => q (by rw [e]; rfl)))
theorem Ax_ifnen {a : Nat} {off : Int} {tgt : Nat} (hd : decode M.2.2.1 pc = .ok (.ifCond .ne off, 3)) (ht : (pc : Int) + off = (tgt : Int)) (ha : a < 2 ^ 31) (kt : a ≠ 0 → Ax G M d b tgt L st h Q) (kf : a = 0 → Ax G M d b (pc + 3) L st h Q) : Ax G M d b pc L (.int (nI a) :: st) h Q :=
  Ax_ifne hd ht (fun q => kt (fun e => q (by rw [e]; rfl))) (fun q => kf (by rcases Nat.eq_zero_or_pos a with e | e; exact e; exact absurd q (nI_ne0 e ha)))
theorem Ax_ifgtn {a : Nat} {off : Int} {tgt : Nat} (hd : decode M.2.2.1 pc = .ok (.ifCond .gt off, 3)) (ht : (pc : Int) + off = (tgt : Int)) (ha : a < 2 ^ 31) (kt : 0 < a → Ax G M d b tgt L st h Q) (kf : a = 0 → Ax G M d b (pc + 3) L st h Q) : Ax G M d b pc L (.int (nI a) :: st) h Q :=
  Ax_ifgt hd ht (fun q => kt (by rcases Nat.eq_zero_or_pos a with e | e; (subst e; exact absurd q (by decide)); exact e)) (fun q => kf (by rcases Nat.eq_zero_or_pos a with e | e; exact e; exact absurd ((nI_ltI (by decide) ha).mpr e) q))
theorem Ax_iflen {a : Nat} {off : Int} {tgt : Nat} (hd : decode M.2.2.1 pc = .ok (.ifCond .le off, 3)) (ht : (pc : Int) + off = (tgt : Int)) (ha : a < 2 ^ 31) (kt : a = 0 → Ax G M d b tgt L st h Q) (kf : 0 < a → Ax G M d b (pc + 3) L st h Q) : Ax G M d b pc L (.int (nI a) :: st) h Q :=
  Ax_ifle hd ht (fun q => kt (by rcases Nat.eq_zero_or_pos a with e | e; exact e; exact absurd q (nI_nle e ha))) (fun q => kf (by rcases Nat.eq_zero_or_pos a with e | e; (subst e; exact absurd (by decide) q); exact e))
theorem Ax_ifltn {a : Nat} {off : Int} {tgt : Nat} (hd : decode M.2.2.1 pc = .ok (.ifCond .lt off, 3)) (ht : (pc : Int) + off = (tgt : Int)) (ha : a < 2 ^ 31) (kf : Ax G M d b (pc + 3) L st h Q) : Ax G M d b pc L (.int (nI a) :: st) h Q :=
  Ax_iflt hd ht (fun q => absurd q (nI_pos ha)) (fun _ => kf)
theorem Ax_ifgen {a : Nat} {off : Int} {tgt : Nat} (hd : decode M.2.2.1 pc = .ok (.ifCond .ge off, 3)) (ht : (pc : Int) + off = (tgt : Int)) (ha : a < 2 ^ 31) (kt : Ax G M d b tgt L st h Q) : Ax G M d b pc L (.int (nI a) :: st) h Q :=
  Ax_ifge hd ht (fun _ => kt) (fun q => absurd (nI_pos' ha) q)
theorem xup_s {a : Nat} {c : xC} : (xup h a c).1 a = c := if_pos rfl
theorem xup_n {a q : Nat} {c : xC} (hq : q ≠ a) : (xup h a c).1 q = h.1 q := if_neg hq
theorem xnew_s {c : xC} : (xnew h c).1 h.2 = c := if_pos rfl
theorem xnew_n {q : Nat} {c : xC} (hq : q ≠ h.2) : (xnew h c).1 q = h.1 q := if_neg hq
/-- the heap behind a store, by a name -/
theorem Ax_up {a : Nat} {c : xC} (k : ∀ h1 : xH, h1.1 a = c → (∀ q, q ≠ a → h1.1 q = h.1 q) → h1.2 = h.2 → Ax G M d b pc L st h1 Q) : Ax G M d b pc L st (xup h a c) Q :=
  k _ xup_s (fun _ hq => xup_n hq) rfl
theorem Ax_nw {c : xC} (k : ∀ h1 : xH, h1.1 h.2 = c → (∀ q, q ≠ h.2 → h1.1 q = h.1 q) → h1.2 = h.2 + 1 → Ax G M d b pc L st h1 Q) : Ax G M d b pc L st (xnew h c) Q :=
  k _ xnew_s (fun _ hq => xnew_n hq) rfl
theorem Ax_cVi {idx n a ci N d' : Nat} {T : u_T} {ty : Nat → FieldType} {M' : xM} {fs as stk : List Value} {x : Int32} (hd : decode M.2.2.1 pc = .ok (.invokevirtual idx, 3)) (hw : xCV M.1 idx M' n) (hF : xCF ci M'.2.1.cls T N ty) (hc : h.1 a = cO ci fs) (hM : AM G M' d' 0 (.ref a :: as) h (fun r h' => r = some (.int x) ∧ h' = h)) (hn : as.length = n) (hstk : stk = as.reverse ++ .ref a :: st) (hdd : d' + 1 ≤ d) (hcat : (st.map fun v => v.category).sum ≤ 8)
    (k : Ax G M d b (pc + 3) L (.int x :: st) h Q) : Ax G M d b pc L stk h Q :=
  Ax_callV hd hw hF hc hM hn hstk hdd (Nat.zero_le _) hcat (fun r h' hq => by obtain ⟨rfl, rfl⟩ := hq; exact k)
theorem Ax_cVl {idx n a ci N d' : Nat} {T : u_T} {ty : Nat → FieldType} {M' : xM} {fs as stk : List Value} {x : Int64} (hd : decode M.2.2.1 pc = .ok (.invokevirtual idx, 3)) (hw : xCV M.1 idx M' n) (hF : xCF ci M'.2.1.cls T N ty) (hc : h.1 a = cO ci fs) (hM : AM G M' d' 0 (.ref a :: as) h (fun r h' => r = some (.long x) ∧ h' = h)) (hn : as.length = n) (hstk : stk = as.reverse ++ .ref a :: st) (hdd : d' + 1 ≤ d) (hcat : (st.map fun v => v.category).sum ≤ 8)
    (k : Ax G M d b (pc + 3) L (.long x :: st) h Q) : Ax G M d b pc L stk h Q :=
  Ax_callV hd hw hF hc hM hn hstk hdd (Nat.zero_le _) hcat (fun r h' hq => by obtain ⟨rfl, rfl⟩ := hq; exact k)
theorem Ax_cVa {idx n a ci N d' : Nat} {T : u_T} {ty : Nat → FieldType} {M' : xM} {fs as stk : List Value} {x : Nat} (hd : decode M.2.2.1 pc = .ok (.invokevirtual idx, 3)) (hw : xCV M.1 idx M' n) (hF : xCF ci M'.2.1.cls T N ty) (hc : h.1 a = cO ci fs) (hM : AM G M' d' 0 (.ref a :: as) h (fun r h' => r = some (.ref x) ∧ h' = h)) (hn : as.length = n) (hstk : stk = as.reverse ++ .ref a :: st) (hdd : d' + 1 ≤ d) (hcat : (st.map fun v => v.category).sum ≤ 8)
    (k : Ax G M d b (pc + 3) L (.ref x :: st) h Q) : Ax G M d b pc L stk h Q :=
  Ax_callV hd hw hF hc hM hn hstk hdd (Nat.zero_le _) hcat (fun r h' hq => by obtain ⟨rfl, rfl⟩ := hq; exact k)
theorem Ax_cViE {idx n a ci N d' : Nat} {T : u_T} {ty : Nat → FieldType} {M' : xM} {fs as stk : List Value} {P : Int32 → Prop} (hd : decode M.2.2.1 pc = .ok (.invokevirtual idx, 3)) (hw : xCV M.1 idx M' n) (hF : xCF ci M'.2.1.cls T N ty) (hc : h.1 a = cO ci fs) (hM : AM G M' d' 0 (.ref a :: as) h (fun r h' => ∃ x, r = some (.int x) ∧ P x ∧ h' = h)) (hn : as.length = n) (hstk : stk = as.reverse ++ .ref a :: st) (hdd : d' + 1 ≤ d) (hcat : (st.map fun v => v.category).sum ≤ 8)
    (k : ∀ x, P x → Ax G M d b (pc + 3) L (.int x :: st) h Q) : Ax G M d b pc L stk h Q :=
  Ax_callV hd hw hF hc hM hn hstk hdd (Nat.zero_le _) hcat (fun r h' hq => by obtain ⟨x, rfl, hp, rfl⟩ := hq; exact k x hp)
theorem Ax_cViH {idx n a ci N d' : Nat} {T : u_T} {ty : Nat → FieldType} {M' : xM} {fs as stk : List Value} {b' : Nat} {P : Int32 → xH → Prop} (hd : decode M.2.2.1 pc = .ok (.invokevirtual idx, 3)) (hw : xCV M.1 idx M' n) (hF : xCF ci M'.2.1.cls T N ty) (hc : h.1 a = cO ci fs) (hM : AM G M' d' b' (.ref a :: as) h (fun r h' => ∃ x, r = some (.int x) ∧ P x h')) (hn : as.length = n) (hstk : stk = as.reverse ++ .ref a :: st) (hdd : d' + 1 ≤ d) (hcat : (st.map fun v => v.category).sum ≤ 8) (hbb : b' ≤ b)
    (k : ∀ x h', P x h' → Ax G M d (b - b') (pc + 3) L (.int x :: st) h' Q) : Ax G M d b pc L stk h Q :=
  Ax_callV hd hw hF hc hM hn hstk hdd hbb hcat (fun r h' hq => by obtain ⟨x, rfl, hp⟩ := hq; exact k x h' hp)
theorem Ax_cVlE {idx n a ci N d' : Nat} {T : u_T} {ty : Nat → FieldType} {M' : xM} {fs as stk : List Value} {P : Int64 → Prop} (hd : decode M.2.2.1 pc = .ok (.invokevirtual idx, 3)) (hw : xCV M.1 idx M' n) (hF : xCF ci M'.2.1.cls T N ty) (hc : h.1 a = cO ci fs) (hM : AM G M' d' 0 (.ref a :: as) h (fun r h' => ∃ x, r = some (.long x) ∧ P x ∧ h' = h)) (hn : as.length = n) (hstk : stk = as.reverse ++ .ref a :: st) (hdd : d' + 1 ≤ d) (hcat : (st.map fun v => v.category).sum ≤ 8)
    (k : ∀ x, P x → Ax G M d b (pc + 3) L (.long x :: st) h Q) : Ax G M d b pc L stk h Q :=
  Ax_callV hd hw hF hc hM hn hstk hdd (Nat.zero_le _) hcat (fun r h' hq => by obtain ⟨x, rfl, hp, rfl⟩ := hq; exact k x hp)
theorem Ax_cVlH {idx n a ci N d' : Nat} {T : u_T} {ty : Nat → FieldType} {M' : xM} {fs as stk : List Value} {b' : Nat} {P : Int64 → xH → Prop} (hd : decode M.2.2.1 pc = .ok (.invokevirtual idx, 3)) (hw : xCV M.1 idx M' n) (hF : xCF ci M'.2.1.cls T N ty) (hc : h.1 a = cO ci fs) (hM : AM G M' d' b' (.ref a :: as) h (fun r h' => ∃ x, r = some (.long x) ∧ P x h')) (hn : as.length = n) (hstk : stk = as.reverse ++ .ref a :: st) (hdd : d' + 1 ≤ d) (hcat : (st.map fun v => v.category).sum ≤ 8) (hbb : b' ≤ b)
    (k : ∀ x h', P x h' → Ax G M d (b - b') (pc + 3) L (.long x :: st) h' Q) : Ax G M d b pc L stk h Q :=
  Ax_callV hd hw hF hc hM hn hstk hdd hbb hcat (fun r h' hq => by obtain ⟨x, rfl, hp⟩ := hq; exact k x h' hp)
theorem Ax_cVaE {idx n a ci N d' : Nat} {T : u_T} {ty : Nat → FieldType} {M' : xM} {fs as stk : List Value} {P : Nat → Prop} (hd : decode M.2.2.1 pc = .ok (.invokevirtual idx, 3)) (hw : xCV M.1 idx M' n) (hF : xCF ci M'.2.1.cls T N ty) (hc : h.1 a = cO ci fs) (hM : AM G M' d' 0 (.ref a :: as) h (fun r h' => ∃ x, r = some (.ref x) ∧ P x ∧ h' = h)) (hn : as.length = n) (hstk : stk = as.reverse ++ .ref a :: st) (hdd : d' + 1 ≤ d) (hcat : (st.map fun v => v.category).sum ≤ 8)
    (k : ∀ x, P x → Ax G M d b (pc + 3) L (.ref x :: st) h Q) : Ax G M d b pc L stk h Q :=
  Ax_callV hd hw hF hc hM hn hstk hdd (Nat.zero_le _) hcat (fun r h' hq => by obtain ⟨x, rfl, hp, rfl⟩ := hq; exact k x hp)
theorem Ax_cVaH {idx n a ci N d' : Nat} {T : u_T} {ty : Nat → FieldType} {M' : xM} {fs as stk : List Value} {b' : Nat} {P : Nat → xH → Prop} (hd : decode M.2.2.1 pc = .ok (.invokevirtual idx, 3)) (hw : xCV M.1 idx M' n) (hF : xCF ci M'.2.1.cls T N ty) (hc : h.1 a = cO ci fs) (hM : AM G M' d' b' (.ref a :: as) h (fun r h' => ∃ x, r = some (.ref x) ∧ P x h')) (hn : as.length = n) (hstk : stk = as.reverse ++ .ref a :: st) (hdd : d' + 1 ≤ d) (hcat : (st.map fun v => v.category).sum ≤ 8) (hbb : b' ≤ b)
    (k : ∀ x h', P x h' → Ax G M d (b - b') (pc + 3) L (.ref x :: st) h' Q) : Ax G M d b pc L stk h Q :=
  Ax_callV hd hw hF hc hM hn hstk hdd hbb hcat (fun r h' hq => by obtain ⟨x, rfl, hp⟩ := hq; exact k x h' hp)
theorem Ax_cVv {idx n a ci N d' : Nat} {T : u_T} {ty : Nat → FieldType} {M' : xM} {fs as stk : List Value} {b' : Nat} {P : xH → Prop} (hd : decode M.2.2.1 pc = .ok (.invokevirtual idx, 3)) (hw : xCV M.1 idx M' n) (hF : xCF ci M'.2.1.cls T N ty) (hc : h.1 a = cO ci fs) (hM : AM G M' d' b' (.ref a :: as) h (fun r h' => r = none ∧ P h')) (hn : as.length = n) (hstk : stk = as.reverse ++ .ref a :: st) (hdd : d' + 1 ≤ d) (hcat : (st.map fun v => v.category).sum ≤ 8) (hbb : b' ≤ b)
    (k : ∀ h', P h' → Ax G M d (b - b') (pc + 3) L st h' Q) : Ax G M d b pc L stk h Q :=
  Ax_callV hd hw hF hc hM hn hstk hdd hbb hcat (fun r h' hq => by obtain ⟨rfl, hp⟩ := hq; exact k h' hp)
theorem Ax_cSi {idx n d' : Nat} {M' : xM} {as stk : List Value} {x : Int32} (hd : decode M.2.2.1 pc = .ok (.invokestatic idx, 3)) (hw : xCS M.1 idx M' n) (hM : AM G M' d' 0 as h (fun r h' => r = some (.int x) ∧ h' = h)) (hn : as.length = n) (hstk : stk = as.reverse ++ st) (hdd : d' + 1 ≤ d) (hcat : (st.map fun v => v.category).sum ≤ 8)
    (k : Ax G M d b (pc + 3) L (.int x :: st) h Q) : Ax G M d b pc L stk h Q :=
  Ax_callS hd hw hM hn hstk hdd (Nat.zero_le _) hcat (fun r h' hq => by obtain ⟨rfl, rfl⟩ := hq; exact k)
theorem Ax_cSl {idx n d' : Nat} {M' : xM} {as stk : List Value} {x : Int64} (hd : decode M.2.2.1 pc = .ok (.invokestatic idx, 3)) (hw : xCS M.1 idx M' n) (hM : AM G M' d' 0 as h (fun r h' => r = some (.long x) ∧ h' = h)) (hn : as.length = n) (hstk : stk = as.reverse ++ st) (hdd : d' + 1 ≤ d) (hcat : (st.map fun v => v.category).sum ≤ 8)
    (k : Ax G M d b (pc + 3) L (.long x :: st) h Q) : Ax G M d b pc L stk h Q :=
  Ax_callS hd hw hM hn hstk hdd (Nat.zero_le _) hcat (fun r h' hq => by obtain ⟨rfl, rfl⟩ := hq; exact k)
theorem Ax_cSa {idx n d' : Nat} {M' : xM} {as stk : List Value} {x : Nat} (hd : decode M.2.2.1 pc = .ok (.invokestatic idx, 3)) (hw : xCS M.1 idx M' n) (hM : AM G M' d' 0 as h (fun r h' => r = some (.ref x) ∧ h' = h)) (hn : as.length = n) (hstk : stk = as.reverse ++ st) (hdd : d' + 1 ≤ d) (hcat : (st.map fun v => v.category).sum ≤ 8)
    (k : Ax G M d b (pc + 3) L (.ref x :: st) h Q) : Ax G M d b pc L stk h Q :=
  Ax_callS hd hw hM hn hstk hdd (Nat.zero_le _) hcat (fun r h' hq => by obtain ⟨rfl, rfl⟩ := hq; exact k)
theorem Ax_cSiE {idx n d' : Nat} {M' : xM} {as stk : List Value} {P : Int32 → Prop} (hd : decode M.2.2.1 pc = .ok (.invokestatic idx, 3)) (hw : xCS M.1 idx M' n) (hM : AM G M' d' 0 as h (fun r h' => ∃ x, r = some (.int x) ∧ P x ∧ h' = h)) (hn : as.length = n) (hstk : stk = as.reverse ++ st) (hdd : d' + 1 ≤ d) (hcat : (st.map fun v => v.category).sum ≤ 8)
    (k : ∀ x, P x → Ax G M d b (pc + 3) L (.int x :: st) h Q) : Ax G M d b pc L stk h Q :=
  Ax_callS hd hw hM hn hstk hdd (Nat.zero_le _) hcat (fun r h' hq => by obtain ⟨x, rfl, hp, rfl⟩ := hq; exact k x hp)
theorem Ax_cSiH {idx n d' : Nat} {M' : xM} {as stk : List Value} {b' : Nat} {P : Int32 → xH → Prop} (hd : decode M.2.2.1 pc = .ok (.invokestatic idx, 3)) (hw : xCS M.1 idx M' n) (hM : AM G M' d' b' as h (fun r h' => ∃ x, r = some (.int x) ∧ P x h')) (hn : as.length = n) (hstk : stk = as.reverse ++ st) (hdd : d' + 1 ≤ d) (hcat : (st.map fun v => v.category).sum ≤ 8) (hbb : b' ≤ b)
    (k : ∀ x h', P x h' → Ax G M d (b - b') (pc + 3) L (.int x :: st) h' Q) : Ax G M d b pc L stk h Q :=
  Ax_callS hd hw hM hn hstk hdd hbb hcat (fun r h' hq => by obtain ⟨x, rfl, hp⟩ := hq; exact k x h' hp)
theorem Ax_cSlE {idx n d' : Nat} {M' : xM} {as stk : List Value} {P : Int64 → Prop} (hd : decode M.2.2.1 pc = .ok (.invokestatic idx, 3)) (hw : xCS M.1 idx M' n) (hM : AM G M' d' 0 as h (fun r h' => ∃ x, r = some (.long x) ∧ P x ∧ h' = h)) (hn : as.length = n) (hstk : stk = as.reverse ++ st) (hdd : d' + 1 ≤ d) (hcat : (st.map fun v => v.category).sum ≤ 8)
    (k : ∀ x, P x → Ax G M d b (pc + 3) L (.long x :: st) h Q) : Ax G M d b pc L stk h Q :=
  Ax_callS hd hw hM hn hstk hdd (Nat.zero_le _) hcat (fun r h' hq => by obtain ⟨x, rfl, hp, rfl⟩ := hq; exact k x hp)
theorem Ax_cSlH {idx n d' : Nat} {M' : xM} {as stk : List Value} {b' : Nat} {P : Int64 → xH → Prop} (hd : decode M.2.2.1 pc = .ok (.invokestatic idx, 3)) (hw : xCS M.1 idx M' n) (hM : AM G M' d' b' as h (fun r h' => ∃ x, r = some (.long x) ∧ P x h')) (hn : as.length = n) (hstk : stk = as.reverse ++ st) (hdd : d' + 1 ≤ d) (hcat : (st.map fun v => v.category).sum ≤ 8) (hbb : b' ≤ b)
    (k : ∀ x h', P x h' → Ax G M d (b - b') (pc + 3) L (.long x :: st) h' Q) : Ax G M d b pc L stk h Q :=
  Ax_callS hd hw hM hn hstk hdd hbb hcat (fun r h' hq => by obtain ⟨x, rfl, hp⟩ := hq; exact k x h' hp)
theorem Ax_cSaE {idx n d' : Nat} {M' : xM} {as stk : List Value} {P : Nat → Prop} (hd : decode M.2.2.1 pc = .ok (.invokestatic idx, 3)) (hw : xCS M.1 idx M' n) (hM : AM G M' d' 0 as h (fun r h' => ∃ x, r = some (.ref x) ∧ P x ∧ h' = h)) (hn : as.length = n) (hstk : stk = as.reverse ++ st) (hdd : d' + 1 ≤ d) (hcat : (st.map fun v => v.category).sum ≤ 8)
    (k : ∀ x, P x → Ax G M d b (pc + 3) L (.ref x :: st) h Q) : Ax G M d b pc L stk h Q :=
  Ax_callS hd hw hM hn hstk hdd (Nat.zero_le _) hcat (fun r h' hq => by obtain ⟨x, rfl, hp, rfl⟩ := hq; exact k x hp)
theorem Ax_cSaH {idx n d' : Nat} {M' : xM} {as stk : List Value} {b' : Nat} {P : Nat → xH → Prop} (hd : decode M.2.2.1 pc = .ok (.invokestatic idx, 3)) (hw : xCS M.1 idx M' n) (hM : AM G M' d' b' as h (fun r h' => ∃ x, r = some (.ref x) ∧ P x h')) (hn : as.length = n) (hstk : stk = as.reverse ++ st) (hdd : d' + 1 ≤ d) (hcat : (st.map fun v => v.category).sum ≤ 8) (hbb : b' ≤ b)
    (k : ∀ x h', P x h' → Ax G M d (b - b') (pc + 3) L (.ref x :: st) h' Q) : Ax G M d b pc L stk h Q :=
  Ax_callS hd hw hM hn hstk hdd hbb hcat (fun r h' hq => by obtain ⟨x, rfl, hp⟩ := hq; exact k x h' hp)
theorem Ax_cSv {idx n d' : Nat} {M' : xM} {as stk : List Value} {b' : Nat} {P : xH → Prop} (hd : decode M.2.2.1 pc = .ok (.invokestatic idx, 3)) (hw : xCS M.1 idx M' n) (hM : AM G M' d' b' as h (fun r h' => r = none ∧ P h')) (hn : as.length = n) (hstk : stk = as.reverse ++ st) (hdd : d' + 1 ≤ d) (hcat : (st.map fun v => v.category).sum ≤ 8) (hbb : b' ≤ b)
    (k : ∀ h', P h' → Ax G M d (b - b') (pc + 3) L st h' Q) : Ax G M d b pc L stk h Q :=
  Ax_callS hd hw hM hn hstk hdd hbb hcat (fun r h' hq => by obtain ⟨rfl, hp⟩ := hq; exact k h' hp)
theorem Ax_cIv {idx n a ci d' : Nat} {M' : xM} {fs as stk : List Value} {b' : Nat} {P : xH → Prop} (hci : ci < 99) (hd : decode M.2.2.1 pc = .ok (.invokespecial idx, 3)) (hw : xCX M.1 idx M' n) (hc : h.1 a = cO ci fs) (hM : AM G M' d' b' (.ref a :: as) h (fun r h' => r = none ∧ P h')) (hn : as.length = n) (hstk : stk = as.reverse ++ .ref a :: st) (hdd : d' + 1 ≤ d) (hcat : (st.map fun v => v.category).sum ≤ 8) (hbb : b' ≤ b)
    (k : ∀ h', P h' → Ax G M d (b - b') (pc + 3) L st h' Q) : Ax G M d b pc L stk h Q :=
  Ax_callI hci hd hw hc hM hn hstk hdd hbb hcat (fun r h' hq => by obtain ⟨rfl, hp⟩ := hq; exact k h' hp)
theorem Ax_cYv {idx n a ci d' : Nat} {M' : xM} {fs as stk : List Value} {b' : Nat} {P : xH → Prop} (hci : ci < 99) (hd : decode M.2.2.1 pc = .ok (.invokespecial idx, 3)) (hw : xCY M.1 idx M' n) (hc : h.1 a = cO ci fs) (hM : AM G M' d' b' (.ref a :: as) h (fun r h' => r = none ∧ P h')) (hn : as.length = n) (hstk : stk = as.reverse ++ .ref a :: st) (hdd : d' + 1 ≤ d) (hcat : (st.map fun v => v.category).sum ≤ 8) (hbb : b' ≤ b)
    (k : ∀ h', P h' → Ax G M d (b - b') (pc + 3) L st h' Q) : Ax G M d b pc L stk h Q :=
  Ax_callY hci hd hw hc hM hn hstk hdd hbb hcat (fun r h' hq => by obtain ⟨rfl, hp⟩ := hq; exact k h' hp)
theorem Ax_iaddn {x y : Nat} (hd : decode M.2.2.1 pc = .ok (.iadd, 1)) (k : Ax G M d b (pc + 1) L (.int (nI (x + y)) :: st) h Q) : Ax G M d b pc L (.int (nI y) :: .int (nI x) :: st) h Q := Ax_iadd hd (by rw [nI_add]; exact k)
theorem Ax_isubn {x y : Nat} (hd : decode M.2.2.1 pc = .ok (.isub, 1)) (hle : y ≤ x) (k : Ax G M d b (pc + 1) L (.int (nI (x - y)) :: st) h Q) : Ax G M d b pc L (.int (nI y) :: .int (nI x) :: st) h Q := Ax_isub hd (by rw [pk_sub hle]; exact k)
theorem Ax_imuln {x y : Nat} (hd : decode M.2.2.1 pc = .ok (.imul, 1)) (k : Ax G M d b (pc + 1) L (.int (nI (x * y)) :: st) h Q) : Ax G M d b pc L (.int (nI y) :: .int (nI x) :: st) h Q := Ax_imul hd (by rw [pk_mul]; exact k)
theorem Ax_laddn {x y : Nat} (hd : decode M.2.2.1 pc = .ok (.ladd, 1)) (k : Ax G M d b (pc + 1) L (.long (lN (x + y)) :: st) h Q) : Ax G M d b pc L (.long (lN y) :: .long (lN x) :: st) h Q := Ax_ladd hd (by rw [lN_add]; exact k)
theorem Ax_lsubn {x y : Nat} (hd : decode M.2.2.1 pc = .ok (.lsub, 1)) (hle : y ≤ x) (k : Ax G M d b (pc + 1) L (.long (lN (x - y)) :: st) h Q) : Ax G M d b pc L (.long (lN y) :: .long (lN x) :: st) h Q := Ax_lsub hd (by rw [lN_sub hle]; exact k)
theorem Ax_lmuln {x y : Nat} (hd : decode M.2.2.1 pc = .ok (.lmul, 1)) (k : Ax G M d b (pc + 1) L (.long (lN (x * y)) :: st) h Q) : Ax G M d b pc L (.long (lN y) :: .long (lN x) :: st) h Q := Ax_lmul hd (by rw [lN_mul]; exact k)
theorem Ax_idivn {x y : Nat} (hd : decode M.2.2.1 pc = .ok (.idiv, 1)) (hx : x < 2 ^ 31) (h0 : 0 < y) (hy : y < 2 ^ 31) (k : Ax G M d b (pc + 1) L (.int (nI (x / y)) :: st) h Q) : Ax G M d b pc L (.int (nI y) :: .int (nI x) :: st) h Q := Ax_idiv hd (nI_ne0 h0 hy) (by rw [pk_div hx h0 hy]; exact k)
theorem Ax_ldivn {x y : Nat} (hd : decode M.2.2.1 pc = .ok (.ldiv, 1)) (hx : x < 2 ^ 63) (h0 : 0 < y) (hy : y < 2 ^ 63) (k : Ax G M d b (pc + 1) L (.long (lN (x / y)) :: st) h Q) : Ax G M d b pc L (.long (lN y) :: .long (lN x) :: st) h Q := Ax_ldiv hd (by rw [show (0 : Int64) = lN 0 from rfl, pk_lEQ hy (by decide)]; omega) (by rw [pk_lDiv hx h0 hy]; exact k)
theorem Ax_lremn {x y : Nat} (hd : decode M.2.2.1 pc = .ok (.lrem, 1)) (hx : x < 2 ^ 63) (h0 : 0 < y) (hy : y < 2 ^ 63) (k : Ax G M d b (pc + 1) L (.long (lN (x % y)) :: st) h Q) : Ax G M d b pc L (.long (lN y) :: .long (lN x) :: st) h Q := Ax_lrem hd (by rw [show (0 : Int64) = lN 0 from rfl, pk_lEQ hy (by decide)]; omega) (by rw [pk_lRem hx h0 hy]; exact k)
theorem Ax_i2ln {x : Nat} (hd : decode M.2.2.1 pc = .ok (.i2l, 1)) (hx : x < 2 ^ 31) (k : Ax G M d b (pc + 1) L (.long (lN x) :: st) h Q) : Ax G M d b pc L (.int (nI x) :: st) h Q := Ax_i2l hd (by rw [nI_l hx]; exact k)
theorem Ax_l2in {x : Nat} (hd : decode M.2.2.1 pc = .ok (.l2i, 1)) (k : Ax G M d b (pc + 1) L (.int (nI x) :: st) h Q) : Ax G M d b pc L (.long (lN x) :: st) h Q := Ax_l2i hd (by rw [lN_i]; exact k)
theorem Ax_top {x y : Int32} (e : x = y) (k : Ax G M d b pc L (.int y :: st) h Q) : Ax G M d b pc L (.int x :: st) h Q := e ▸ k
theorem Ax_top2 {x y : Int32} {v : Value} (e : x = y) (k : Ax G M d b pc L (v :: .int y :: st) h Q) : Ax G M d b pc L (v :: .int x :: st) h Q := e ▸ k
theorem Ax_topL {x y : Int64} (e : x = y) (k : Ax G M d b pc L (.long y :: st) h Q) : Ax G M d b pc L (.long x :: st) h Q := e ▸ k
theorem Ax_top2L {x y : Int64} {v : Value} (e : x = y) (k : Ax G M d b pc L (v :: .long y :: st) h Q) : Ax G M d b pc L (v :: .long x :: st) h Q := e ▸ k
/-! comparisons of longs, answers of boolean methods -/
theorem xcmp_lt (x y : Int64) : lg_cmp x y < 0 ↔ x.toInt < y.toInt := by
  unfold lg_cmp
  by_cases h1 : x > y
  · rw [if_pos h1]
    have := Int64.lt_iff_toInt_lt.mp h1
    constructor
    · intro q; exact absurd q (by decide)
    · intro q; omega
  · rw [if_neg h1]
    by_cases h2 : x = y
    · rw [if_pos h2, h2]
      constructor
      · intro q; exact absurd q (by decide)
      · intro q; omega
    · rw [if_neg h2]
      have h3 : ¬ y.toInt < x.toInt := fun q => h1 (Int64.lt_iff_toInt_lt.mpr q)
      have h4 : x.toInt ≠ y.toInt := fun q => h2 (Int64.toInt_inj.mp q)
      constructor
      · intro _; omega
      · intro _; decide
theorem xcmp_gt (x y : Int64) : 0 < lg_cmp x y ↔ y.toInt < x.toInt := by
  unfold lg_cmp
  by_cases h1 : x > y
  · rw [if_pos h1]
    have := Int64.lt_iff_toInt_lt.mp h1
    constructor
    · intro _; exact this
    · intro _; decide
  · rw [if_neg h1]
    have h3 : ¬ y.toInt < x.toInt := fun q => h1 (Int64.lt_iff_toInt_lt.mpr q)
    by_cases h2 : x = y
    · rw [if_pos h2]
      constructor
      · intro q; exact absurd q (by decide)
      · intro q; omega
    · rw [if_neg h2]
      constructor
      · intro q; exact absurd q (by decide)
      · intro q; omega
theorem xcmp_eq (x y : Int64) : lg_cmp x y = 0 ↔ x.toInt = y.toInt := by
  have h1 := xcmp_lt x y
  have h2 := xcmp_gt x y
  constructor
  · intro e
    rw [e] at h1 h2
    have a1 : ¬ x.toInt < y.toInt := fun q => absurd (h1.mpr q) (by decide)
    have a2 : ¬ y.toInt < x.toInt := fun q => absurd (h2.mpr q) (by decide)
    omega
  · intro e
    have : x = y := Int64.toInt_inj.mp e
    subst this
    unfold lg_cmp
    rw [if_neg (by show ¬ x < x; rw [Int64.lt_iff_toInt_lt]; omega), if_pos rfl]
theorem Ax_ifltC {x y : Int64} {off : Int} {tgt : Nat} (hd : decode M.2.2.1 pc = .ok (.ifCond .lt off, 3)) (ht : (pc : Int) + off = (tgt : Int)) (kt : x.toInt < y.toInt → Ax G M d b tgt L st h Q) (kf : y.toInt ≤ x.toInt → Ax G M d b (pc + 3) L st h Q) : Ax G M d b pc L (.int (lg_cmp x y) :: st) h Q :=
  Ax_iflt hd ht (fun q => kt ((xcmp_lt x y).mp q)) (fun q => kf (Int.not_lt.mp (mt (xcmp_lt x y).mpr q)))
theorem Ax_ifgeC {x y : Int64} {off : Int} {tgt : Nat} (hd : decode M.2.2.1 pc = .ok (.ifCond .ge off, 3)) (ht : (pc : Int) + off = (tgt : Int)) (kt : y.toInt ≤ x.toInt → Ax G M d b tgt L st h Q) (kf : x.toInt < y.toInt → Ax G M d b (pc + 3) L st h Q) : Ax G M d b pc L (.int (lg_cmp x y) :: st) h Q :=
  Ax_ifge hd ht (fun q => kt (Int.not_lt.mp (mt (xcmp_lt x y).mpr (Int32.not_lt.mpr q)))) (fun q => kf ((xcmp_lt x y).mp (Int32.not_le.mp q)))
theorem Ax_ifgtC {x y : Int64} {off : Int} {tgt : Nat} (hd : decode M.2.2.1 pc = .ok (.ifCond .gt off, 3)) (ht : (pc : Int) + off = (tgt : Int)) (kt : y.toInt < x.toInt → Ax G M d b tgt L st h Q) (kf : x.toInt ≤ y.toInt → Ax G M d b (pc + 3) L st h Q) : Ax G M d b pc L (.int (lg_cmp x y) :: st) h Q :=
  Ax_ifgt hd ht (fun q => kt ((xcmp_gt x y).mp q)) (fun q => kf (Int.not_lt.mp (mt (xcmp_gt x y).mpr q)))
theorem Ax_ifleC {x y : Int64} {off : Int} {tgt : Nat} (hd : decode M.2.2.1 pc = .ok (.ifCond .le off, 3)) (ht : (pc : Int) + off = (tgt : Int)) (kt : x.toInt ≤ y.toInt → Ax G M d b tgt L st h Q) (kf : y.toInt < x.toInt → Ax G M d b (pc + 3) L st h Q) : Ax G M d b pc L (.int (lg_cmp x y) :: st) h Q :=
  Ax_ifle hd ht (fun q => kt (Int.not_lt.mp (mt (xcmp_gt x y).mpr (Int32.not_lt.mpr q)))) (fun q => kf ((xcmp_gt x y).mp (Int32.not_le.mp q)))
theorem Ax_ifeqC {x y : Int64} {off : Int} {tgt : Nat} (hd : decode M.2.2.1 pc = .ok (.ifCond .eq off, 3)) (ht : (pc : Int) + off = (tgt : Int)) (kt : x.toInt = y.toInt → Ax G M d b tgt L st h Q) (kf : x.toInt ≠ y.toInt → Ax G M d b (pc + 3) L st h Q) : Ax G M d b pc L (.int (lg_cmp x y) :: st) h Q :=
  Ax_ifeq hd ht (fun q => kt ((xcmp_eq x y).mp q)) (fun q => kf (mt (xcmp_eq x y).mpr q))
theorem Ax_ifneC {x y : Int64} {off : Int} {tgt : Nat} (hd : decode M.2.2.1 pc = .ok (.ifCond .ne off, 3)) (ht : (pc : Int) + off = (tgt : Int)) (kt : x.toInt ≠ y.toInt → Ax G M d b tgt L st h Q) (kf : x.toInt = y.toInt → Ax G M d b (pc + 3) L st h Q) : Ax G M d b pc L (.int (lg_cmp x y) :: st) h Q :=
  Ax_ifne hd ht (fun q => kt (mt (xcmp_eq x y).mpr q)) (fun q => kf ((xcmp_eq x y).mp q))
theorem Ax_ifeqB {bb : Bool} {off : Int} {tgt : Nat} (hd : decode M.2.2.1 pc = .ok (.ifCond .eq off, 3)) (ht : (pc : Int) + off = (tgt : Int)) (kt : bb = false → Ax G M d b tgt L st h Q) (kf : bb = true → Ax G M d b (pc + 3) L st h Q) : Ax G M d b pc L (.int (nI bb.toNat) :: st) h Q := by
  cases bb
  · exact Ax_ifeq hd ht (fun _ => kt rfl) (fun q => absurd rfl q)
  · exact Ax_ifeq hd ht (fun q => absurd q (by decide)) (fun _ => kf rfl)
theorem Ax_ifneB {bb : Bool} {off : Int} {tgt : Nat} (hd : decode M.2.2.1 pc = .ok (.ifCond .ne off, 3)) (ht : (pc : Int) + off = (tgt : Int)) (kt : bb = true → Ax G M d b tgt L st h Q) (kf : bb = false → Ax G M d b (pc + 3) L st h Q) : Ax G M d b pc L (.int (nI bb.toNat) :: st) h Q := by
  cases bb
  · exact Ax_ifne hd ht (fun q => absurd rfl q) (fun _ => kf rfl)
  · exact Ax_ifne hd ht (fun _ => kt rfl) (fun q => absurd q (by decide))
end
