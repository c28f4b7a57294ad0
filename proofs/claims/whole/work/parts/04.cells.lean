section
variable {G : xG} {M : xM} {d b pc : Nat} {L st : List Value} {h : xH} {Q : Option Value → xH → Prop}
/-! cells -/
def xup (h : xH) (a : Nat) (c : xC) : xH := (fun i => if i = a then c else h.1 i, h.2)
def xnew (h : xH) (c : xC) : xH := (fun i => if i = h.2 then c else h.1 i, h.2 + 1)
theorem x_a_lt {a : Nat} {H : Heap} (hR : x_R G h H) (ha : a < h.2) : x_a G a = x_B G + a := by
  have := hR.2.1
  unfold x_a
  rw [if_pos (by omega)]
theorem x_in_I {a t n : Nat} {f : Nat → Int32} {H : Heap} (hR : x_R G h H) (hc : h.1 a = cI t n f) : a < h.2 := by
  rcases Nat.lt_or_ge a h.2 with q | q
  · exact q
  · rw [hR.2.2.2.1 a q] at hc; cases hc
theorem x_in_J {a n : Nat} {f : Nat → Int64} {H : Heap} (hR : x_R G h H) (hc : h.1 a = cJ n f) : a < h.2 := by
  rcases Nat.lt_or_ge a h.2 with q | q
  · exact q
  · rw [hR.2.2.2.1 a q] at hc; cases hc
theorem x_in_O {a ci : Nat} {fs : List Value} {H : Heap} (hR : x_R G h H) (hi : ci < 99) (hc : h.1 a = cO ci fs) : a < h.2 := by
  rcases Nat.lt_or_ge a h.2 with q | q
  · exact q
  · rw [hR.2.2.2.1 a q] at hc
    cases hc
    omega
theorem x_R.set {a : Nat} {c : xC} {H H1 : Heap} (hR : x_R G h H) (ha : a < h.2) (he : va_at G.2.2.1 vwCl (x_B G + a, x_e G c) H1) (z : H1.size = H.size) (oq : ∀ q : Nat, q ≠ x_B G + a → H1[q]? = H[q]?) : x_R G (xup h a c) H1 := by
  obtain ⟨h1, h2, h3, h4, h5⟩ := hR
  refine ⟨by rw [z]; exact h1, h2, fun i hi => ?_, fun i hi => ?_, fun q hq => ?_⟩
  · by_cases hia : i = a
    · subst hia
      simp only [xup, if_true]
      exact he
    · simp only [xup, if_neg hia]
      exact (h3 i hi).kept (oq _ (by show x_B G + i ≠ x_B G + a; omega))
  · have : i ≠ a := by
      have : h.2 ≤ i := hi
      omega
    simp only [xup, if_neg this]
    exact h4 i hi
  · rw [oq q (by omega)]
    exact h5 q hq
theorem x_R.push {c : xC} {H H1 : Heap} (hR : x_R G h H) (hb : h.2 < 1000000) (he : va_at G.2.2.1 vwCl (x_B G + h.2, x_e G c) H1) (z : H1.size = H.size + 1) (oq : ∀ q : Nat, q < H.size → H1[q]? = H[q]?) : x_R G (xnew h c) H1 := by
  obtain ⟨h1, h2, h3, h4, h5⟩ := hR
  refine ⟨by rw [z, h1]; rfl, hb, fun i hi => ?_, fun i hi => ?_, fun q hq => ?_⟩
  · have hi : i < h.2 + 1 := hi
    by_cases hia : i = h.2
    · subst hia
      simp only [xnew, if_true]
      exact he
    · simp only [xnew, if_neg hia]
      exact (h3 i (by omega)).kept (oq _ (by show x_B G + i < H.size; omega))
  · have hi : h.2 + 1 ≤ i := hi
    have : i ≠ h.2 := by omega
    simp only [xnew, if_neg this]
    exact h4 i (by omega)
  · rw [oq q (by omega)]
    exact h5 q hq
theorem x_one {a : Nat} {e : va_E} {H : Heap} (he : va_at G.2.2.1 vwCl (a, e) H) : va_P G.2.2.1 vwCl [(a, e)] H := by
  intro k q hk
  have hz : k < 1 := (List.getElem?_eq_some_iff.mp hk).1
  rw [show k = 0 by omega] at hk
  cases hk
  exact he
theorem x_locs {locs : List Loc} {a k : Nat} (hl : ∀ q ∈ locs, x_B G ≤ q.base) (ha : x_B G ≤ a) : ∀ q ∈ locs ++ [(⟨a, k⟩ : Loc)], x_B G ≤ q.base := by
  intro q hq
  rcases List.mem_append.mp hq with h | h
  · exact hl q h
  · rw [List.mem_singleton.mp h]; exact ha
/-- what is known of a kind of objects: its place, name, fields, their types -/
def xCF (ci : Nat) (C : String) (T : u_T) (N : Nat) (ty : Nat → FieldType) : Prop :=
  ci < 99 ∧ vwCl[ci]? = some (C, T, N) ∧ (∀ w ∈ u_ws C T N, w ∈ lw_good) ∧ (∀ k, k < N → parseFieldDescriptor (T k).2.2.1 = some (ty k)) ∧ (∀ a, a < N → ∀ b, b < N → a ≠ b → (T a).2.1 ≠ (T b).2.1)
/-- a field by its pool number -/
def xFL (own : String) (idx : Nat) (C : String) (T : u_T) (N k : Nat) : Prop :=
  k < N ∧ Cond.fieldLink own idx C (T k).2.1 (T k).2.2.1 ∈ lw_good ∧ (T k).1 = C
theorem Ax_getf {idx ci k a N : Nat} {C : String} {T : u_T} {ty : Nat → FieldType} {fs : List Value} {v : Value} (hF : xCF ci C T N ty) (hl : xFL M.1 idx C T N k) (hd : decode M.2.2.1 pc = .ok (.getfield idx, 3)) (hc : h.1 a = cO ci fs) (hv : fs[k]? = some v)
    (kk : Ax G M d b (pc + 3) L (v :: st) h Q) : Ax G M d b pc L (.ref a :: st) h Q := by
  refine Ax_go (fun p e R s m args below meth c H locs cells slots ls Z C' hR hL K => ?_) kk
  have ha := x_in_O hR hF.1 hc
  have hat := hR.2.2.1 a ha
  rw [hc] at hat
  show W p G.1 e R s m args below meth c H locs cells slots Z (F0 m pc ls (.ref (x_a G a) :: st.map (x_v G)))
  rw [x_a_lt hR ha]
  exact va_get (C := C) (T := T) (N := N) (ref := C) C'.1 C'.2.1 C'.2.2.2.2.2.2.2.1 hF.2.2.1 C'.2.2.2.2.2.2.1 C'.2.2.2.2.2.2.2.2.1.1 (x_one hat) 0 rfl hF.2.1 k hl.1 (C'.2.2.2.2.2.2.2.1 _ hl.2.1) (fun x hx => by rw [← hl.2.2]; rw [hl.2.2] at hx ⊢; exact hx) (v := x_v G v) (by rw [List.getElem?_map, hv]; rfl) hd K
theorem Ax_putf {idx ci k a N : Nat} {C : String} {T : u_T} {ty : Nat → FieldType} {fs : List Value} {v : Value} (hF : xCF ci C T N ty) (hl : xFL M.1 idx C T N k) (hd : decode M.2.2.1 pc = .ok (.putfield idx, 3)) (hc : h.1 a = cO ci fs) (hk : k < fs.length)
    (hfin : (T k).2.2.2 = false ∨ (M.2.1.name = "<init>" ∧ C = M.1)) (hn : narrow (ty k) (x_v G v) = x_v G v) (hfit : fits (ty k) (x_v G v) = true)
    (kk : Ax G M d b (pc + 3) L st (xup h a (cO ci (fs.set k v))) Q) : Ax G M d b pc L (v :: .ref a :: st) h Q := by
  intro p e R s m args below meth c H locs cells slots ls Z C' hR hL hlo hc' hs hend
  have ha := x_in_O hR hF.1 hc
  have hat := hR.2.2.1 a ha
  rw [hc] at hat
  show W p G.1 e R s m args below meth c H locs cells slots Z (F0 m pc ls (x_v G v :: .ref (x_a G a) :: st.map (x_v G)))
  rw [x_a_lt hR ha]
  have hts := C'.2.2.2.2.2.2.2.1
  have hown := C'.2.2.2.2.2.2.1
  have hK := C'.2.2.2.2.2.2.2.2.1.1
  have hin := hF.2.2.1
  have hkN := hl.1
  have hap := va_apart (own := M.1) hts hin ty hF.2.2.2.1 hF.2.2.2.2 hK hF.2.1
  obtain ⟨r, h1, cell, q1, q2, q3, q4⟩ := hat
  have hr : r = (C, T, N) := Option.some.inj (h1.symm.trans hF.2.1)
  subst hr
  obtain ⟨hS, hfc, kC, hkC, hkind⟩ := hK.1 ci _ hF.2.1
  obtain ⟨cf, kf, fi, f, hi, hsl⟩ := hS k hkN
  have hlay := hts _ (hin _ (u_in_lay hkN))
  have hst := (u_facts hfc hkC (u_lays hts hin hkN) hi).1
  have hfound : s.fieldFound? C (T k).2.1 (T k).2.2.1 = some (cf, kf, fi, f) := by rw [← hl.2.2]; exact hi
  have fin : ∀ H' : Heap, H'[x_B G + a]? = some (cell.setSlot f.slot (x_v G v)) → H'.size = H.size → (∀ q, q ≠ x_B G + a → H'[q]? = H[q]?) → W p G.1 e R s m args below meth c H' (locs ++ [⟨x_B G + a, f.slot⟩]) cells slots Z (F0 m (pc + 3) ls (st.map (x_v G))) := by
    intro H' e1 e2 e3
    rw [hsl] at e1
    refine kk p e R s m args below meth c H' _ cells slots ls Z C' (hR.set ha ⟨_, hF.2.1, ?_⟩ e2 e3) hL (x_locs hlo (Nat.le_add_right _ _)) hc' hs hend
    have hlen : k < (fs.map (x_v G)).length := by rw [List.length_map]; exact hk
    refine t_OB.to (V := updV (vp_V (fs.map (x_v G))) k (x_v G v)) ⟨_, e1, q2, q3, t_set q4 hap hkN (x_v G v)⟩ (fun j _ => ?_)
    rw [vp_updV_set hlen]
    show vp_V _ j = vp_V ((fs.set k v).map (x_v G)) j
    rw [List.map_set]
  unfold u_lay at hlay
  rcases hfin with hfin | ⟨hini, hCown⟩
  · rw [if_neg (by rw [hfin]; decide)] at hlay
    have h6 := u_store hfc hkC hkind hlay hi (hF.2.2.2.1 k hkN) hn hfit
    exact W.putK C'.1 C'.2.1 (f := f) ⟨hown, hts _ hl.2.1, ⟨_, _, _, hfound⟩, hst⟩ (by rw [q2]; exact h6) q1 q3 (by rw [hsl]; exact k2_hasslot (q4 k hkN)) rfl rfl hd fin
  · by_cases hfin : (T k).2.2.2 = true
    · rw [if_pos hfin] at hlay
      have hcf : m.cls = cf := by
        obtain ⟨_, _, c', _, _, _, -, -, hf', -, -, -, hown2, -⟩ := Cond.laysFinal_spec hlay
        have e1 : c' = cf := by have := hi.symm.trans hf'; simp at this; exact this.1.symm
        rw [hl.2.2, hCown] at hown2
        rw [← e1]; exact Option.some.inj (hown.symm.trans hown2)
      have h6 := u_fits hfc hkC hkind (Or.inr hlay) hi (hF.2.2.2.1 k hkN) hn hfit
      exact W.putFinK C'.1 C'.2.1 hown (hts _ hl.2.1) hfound hst hcf (C'.2.2.2.2.2.1 hini) (by rw [q2]; exact h6) q1 q3 (by rw [hsl]; exact k2_hasslot (q4 k hkN)) rfl rfl hd fin
    · rw [if_neg hfin] at hlay
      have h6 := u_store hfc hkC hkind hlay hi (hF.2.2.2.1 k hkN) hn hfit
      exact W.putK C'.1 C'.2.1 (f := f) ⟨hown, hts _ hl.2.1, ⟨_, _, _, hfound⟩, hst⟩ (by rw [q2]; exact h6) q1 q3 (by rw [hsl]; exact k2_hasslot (q4 k hkN)) rfl rfl hd fin
/-! rows of numbers -/
theorem x_arrI {t : Nat} {s : State} (hK : x_K G s) (n : Nat) (f : Nat → Int32) (ht : t < 3) : s.isArrayOf (vp_cell (G.2.2.2.1 t) (n, .inl f)) (x_t t) := by
  have h2 := hK.1.2
  rcases (show t = 0 ∨ t = 1 ∨ t = 2 by omega) with rfl | rfl | rfl
  · exact (h2 0 _ rfl).1 n (fun j => .int (f j))
  · exact (h2 1 _ rfl).1 n (fun j => .int (f j))
  · exact (h2 2 _ rfl).1 n (fun j => .int (f j))
theorem x_arrJ {s : State} (hK : x_K G s) (n : Nat) (f : Nat → Int64) : s.isArrayOf (vp_cell (G.2.2.2.1 3) (n, .inr (.inl f))) .long := (hK.1.2 3 _ rfl).1 n (fun j => .long (f j))
theorem x_inI {i : Int32} {n : Nat} {cA : ClassId} {f : Nat → Int32} (hin : vp_in i n) : ¬ (i < 0 ∨ (vp_cell cA (n, .inl f)).slots.size ≤ i.toNatClampNeg) := by
  show ¬ (i < 0 ∨ (arrV _ _ _).slots.size ≤ _); rw [arrV_size]; exact hin
theorem x_inJ {i : Int32} {n : Nat} {cA : ClassId} {f : Nat → Int64} (hin : vp_in i n) : ¬ (i < 0 ∨ (vp_cell cA (n, .inr (.inl f))).slots.size ≤ i.toNatClampNeg) := by
  show ¬ (i < 0 ∨ (arrV _ _ _).slots.size ≤ _); rw [arrV_size]; exact hin
theorem x_rdI {i : Int32} {n : Nat} {cA : ClassId} {f : Nat → Int32} (hin : vp_in i n) : (vp_cell cA (n, .inl f)).slots[i.toNatClampNeg]? = some (.int (f i.toNatClampNeg)) := by
  have hlt : i.toNatClampNeg < n := Nat.not_le.mp fun q => hin (Or.inr q)
  show (arrV _ _ _).slots[_]? = _; rw [arrV_read _ _ hlt]
theorem x_rdJ {i : Int32} {n : Nat} {cA : ClassId} {f : Nat → Int64} (hin : vp_in i n) : (vp_cell cA (n, .inr (.inl f))).slots[i.toNatClampNeg]? = some (.long (f i.toNatClampNeg)) := by
  have hlt : i.toNatClampNeg < n := Nat.not_le.mp fun q => hin (Or.inr q)
  show (arrV _ _ _).slots[_]? = _; rw [arrV_read _ _ hlt]
theorem x_wrI {cA : ClassId} {n k : Nat} {f : Nat → Int32} {x : Int32} : (vp_cell cA (n, .inl f)).setSlot k (.int x) = vp_cell cA (n, .inl (upd f k x)) := by
  rw [vp_cell_i, vp_cell_i, arrV_store]
  congr 1
  funext q
  by_cases hq : q = k
  · subst hq; simp [updV, upd]
  · simp [updV, upd, hq]
theorem x_wrJ {cA : ClassId} {n k : Nat} {f : Nat → Int64} {x : Int64} : (vp_cell cA (n, .inr (.inl f))).setSlot k (.long x) = vp_cell cA (n, .inr (.inl (vp_updL f k x))) := by
  rw [vp_cell_l, vp_cell_l, arrV_store]
  congr 1
  funext q
  by_cases hq : q = k
  · subst hq; simp [updV, vp_updL]
  · simp [updV, vp_updL, hq]
theorem Ax_iald {a n : Nat} {f : Nat → Int32} {i : Int32} (hd : decode M.2.2.1 pc = .ok (.iaload, 1)) (hc : h.1 a = cI 0 n f) (hi : vp_in i n) (k : Ax G M d b (pc + 1) L (.int (f i.toNatClampNeg) :: st) h Q) : Ax G M d b pc L (.int i :: .ref a :: st) h Q := by
  refine Ax_go (fun p e R s m args below meth c H locs cells slots ls Z C hR hL K => ?_) k
  have ha := x_in_I hR hc
  have hat := hR.2.2.1 a ha
  rw [hc] at hat
  show W p G.1 e R s m args below meth c H locs cells slots Z (F0 m pc ls (.int i :: .ref (x_a G a) :: st.map (x_v G)))
  rw [x_a_lt hR ha]
  exact W.iald C.1 C.2.1 hat (x_arrI (t := 0) C.2.2.2.2.2.2.2.2.1 n f (by decide)) (fun q => by cases q) (x_inI hi) (x_rdI hi) rfl rfl hd K
theorem Ax_ialdn {a n : Nat} {f : Nat → Int32} {j : Nat} (hd : decode M.2.2.1 pc = .ok (.iaload, 1)) (hc : h.1 a = cI 0 n f) (hj : j < n) (hn : n < 2 ^ 31) (k : Ax G M d b (pc + 1) L (.int (f j) :: st) h Q) : Ax G M d b pc L (.int (nI j) :: .ref a :: st) h Q := by
  refine Ax_iald hd hc (vp_in_nI hj hn) ?_
  rw [nI_clamp (by omega)]
  exact k
theorem Ax_bald {a n : Nat} {f : Nat → Int32} {i : Int32} (hd : decode M.2.2.1 pc = .ok (.baload, 1)) (hc : h.1 a = cI 1 n f) (hi : vp_in i n) (k : Ax G M d b (pc + 1) L (.int (f i.toNatClampNeg) :: st) h Q) : Ax G M d b pc L (.int i :: .ref a :: st) h Q := by
  refine Ax_go (fun p e R s m args below meth c H locs cells slots ls Z C hR hL K => ?_) k
  have ha := x_in_I hR hc
  have hat := hR.2.2.1 a ha
  rw [hc] at hat
  show W p G.1 e R s m args below meth c H locs cells slots Z (F0 m pc ls (.int i :: .ref (x_a G a) :: st.map (x_v G)))
  rw [x_a_lt hR ha]
  exact W.bald C.1 C.2.1 hat (x_arrI (t := 1) C.2.2.2.2.2.2.2.2.1 n f (by decide)) (fun q => by cases q) (x_inI hi) (x_rdI hi) rfl rfl hd K
theorem Ax_baldn {a n : Nat} {f : Nat → Int32} {j : Nat} (hd : decode M.2.2.1 pc = .ok (.baload, 1)) (hc : h.1 a = cI 1 n f) (hj : j < n) (hn : n < 2 ^ 31) (k : Ax G M d b (pc + 1) L (.int (f j) :: st) h Q) : Ax G M d b pc L (.int (nI j) :: .ref a :: st) h Q := by
  refine Ax_bald hd hc (vp_in_nI hj hn) ?_
  rw [nI_clamp (by omega)]
  exact k
theorem Ax_zald {a n : Nat} {f : Nat → Int32} {i : Int32} (hd : decode M.2.2.1 pc = .ok (.baload, 1)) (hc : h.1 a = cI 2 n f) (hi : vp_in i n) (k : Ax G M d b (pc + 1) L (.int (f i.toNatClampNeg) :: st) h Q) : Ax G M d b pc L (.int i :: .ref a :: st) h Q := by
  refine Ax_go (fun p e R s m args below meth c H locs cells slots ls Z C hR hL K => ?_) k
  have ha := x_in_I hR hc
  have hat := hR.2.2.1 a ha
  rw [hc] at hat
  show W p G.1 e R s m args below meth c H locs cells slots Z (F0 m pc ls (.int i :: .ref (x_a G a) :: st.map (x_v G)))
  rw [x_a_lt hR ha]
  exact W.zald C.1 C.2.1 hat (x_arrI (t := 2) C.2.2.2.2.2.2.2.2.1 n f (by decide)) (fun q => by cases q) (x_inI hi) (x_rdI hi) rfl rfl hd K
theorem Ax_zaldn {a n : Nat} {f : Nat → Int32} {j : Nat} (hd : decode M.2.2.1 pc = .ok (.baload, 1)) (hc : h.1 a = cI 2 n f) (hj : j < n) (hn : n < 2 ^ 31) (k : Ax G M d b (pc + 1) L (.int (f j) :: st) h Q) : Ax G M d b pc L (.int (nI j) :: .ref a :: st) h Q := by
  refine Ax_zald hd hc (vp_in_nI hj hn) ?_
  rw [nI_clamp (by omega)]
  exact k
theorem Ax_lald {a n : Nat} {f : Nat → Int64} {i : Int32} (hd : decode M.2.2.1 pc = .ok (.laload, 1)) (hc : h.1 a = cJ n f) (hi : vp_in i n) (k : Ax G M d b (pc + 1) L (.long (f i.toNatClampNeg) :: st) h Q) : Ax G M d b pc L (.int i :: .ref a :: st) h Q := by
  refine Ax_go (fun p e R s m args below meth c H locs cells slots ls Z C hR hL K => ?_) k
  have ha := x_in_J hR hc
  have hat := hR.2.2.1 a ha
  rw [hc] at hat
  show W p G.1 e R s m args below meth c H locs cells slots Z (F0 m pc ls (.int i :: .ref (x_a G a) :: st.map (x_v G)))
  rw [x_a_lt hR ha]
  exact W.lald C.1 C.2.1 hat (x_arrJ C.2.2.2.2.2.2.2.2.1 n f) (fun q => by cases q) (x_inJ hi) (x_rdJ hi) rfl rfl hd K
theorem Ax_laldn {a n : Nat} {f : Nat → Int64} {j : Nat} (hd : decode M.2.2.1 pc = .ok (.laload, 1)) (hc : h.1 a = cJ n f) (hj : j < n) (hn : n < 2 ^ 31) (k : Ax G M d b (pc + 1) L (.long (f j) :: st) h Q) : Ax G M d b pc L (.int (nI j) :: .ref a :: st) h Q := by
  refine Ax_lald hd hc (vp_in_nI hj hn) ?_
  rw [nI_clamp (by omega)]
  exact k
theorem Ax_iast {a n : Nat} {f : Nat → Int32} {i x : Int32} (hd : decode M.2.2.1 pc = .ok (.iastore, 1)) (hc : h.1 a = cI 0 n f) (hi : vp_in i n) (k : Ax G M d b (pc + 1) L st (xup h a (cI 0 n (upd f i.toNatClampNeg x))) Q) : Ax G M d b pc L (.int x :: .int i :: .ref a :: st) h Q := by
  intro p e R s m args below meth c H locs cells slots ls Z C hR hL hlo hc' hs hend
  have ha := x_in_I hR hc
  have hat := hR.2.2.1 a ha
  rw [hc] at hat
  show W p G.1 e R s m args below meth c H locs cells slots Z (F0 m pc ls (.int x :: .int i :: .ref (x_a G a) :: st.map (x_v G)))
  rw [x_a_lt hR ha]
  refine W.iast C.1 C.2.1 hat (x_arrI (t := 0) C.2.2.2.2.2.2.2.2.1 n f (by decide)) (fun q => by cases q) (x_inI hi) rfl rfl hd (fun H1 e1 z oq => ?_)
  refine k p e R s m args below meth c H1 _ cells slots ls Z C (hR.set ha ?_ z oq) hL (x_locs hlo (Nat.le_add_right _ _)) hc' hs hend
  show H1[x_B G + a]? = some (vp_cell _ _)
  rw [e1]
  exact congrArg some x_wrI
theorem Ax_iastn {a n : Nat} {f : Nat → Int32} {j : Nat} {x : Int32} (hd : decode M.2.2.1 pc = .ok (.iastore, 1)) (hc : h.1 a = cI 0 n f) (hj : j < n) (hn : n < 2 ^ 31) (k : Ax G M d b (pc + 1) L st (xup h a (cI 0 n (upd f j x))) Q) : Ax G M d b pc L (.int x :: .int (nI j) :: .ref a :: st) h Q := by
  refine Ax_iast hd hc (vp_in_nI hj hn) ?_
  rw [nI_clamp (by omega)]
  exact k
theorem Ax_bast {a n : Nat} {f : Nat → Int32} {i x : Int32} (hd : decode M.2.2.1 pc = .ok (.bastore, 1)) (hc : h.1 a = cI 1 n f) (hi : vp_in i n) (k : Ax G M d b (pc + 1) L st (xup h a (cI 1 n (upd f i.toNatClampNeg (vp_nar .byte x)))) Q) : Ax G M d b pc L (.int x :: .int i :: .ref a :: st) h Q := by
  intro p e R s m args below meth c H locs cells slots ls Z C hR hL hlo hc' hs hend
  have ha := x_in_I hR hc
  have hat := hR.2.2.1 a ha
  rw [hc] at hat
  show W p G.1 e R s m args below meth c H locs cells slots Z (F0 m pc ls (.int x :: .int i :: .ref (x_a G a) :: st.map (x_v G)))
  rw [x_a_lt hR ha]
  refine W.bast C.1 C.2.1 hat (x_arrI (t := 1) C.2.2.2.2.2.2.2.2.1 n f (by decide)) (fun q => by cases q) (x_inI hi) rfl rfl hd (fun H1 e1 z oq => ?_)
  refine k p e R s m args below meth c H1 _ cells slots ls Z C (hR.set ha ?_ z oq) hL (x_locs hlo (Nat.le_add_right _ _)) hc' hs hend
  show H1[x_B G + a]? = some (vp_cell _ _)
  rw [e1]
  exact congrArg some x_wrI
theorem Ax_bastn {a n : Nat} {f : Nat → Int32} {j : Nat} {x : Int32} (hd : decode M.2.2.1 pc = .ok (.bastore, 1)) (hc : h.1 a = cI 1 n f) (hj : j < n) (hn : n < 2 ^ 31) (k : Ax G M d b (pc + 1) L st (xup h a (cI 1 n (upd f j (vp_nar .byte x)))) Q) : Ax G M d b pc L (.int x :: .int (nI j) :: .ref a :: st) h Q := by
  refine Ax_bast hd hc (vp_in_nI hj hn) ?_
  rw [nI_clamp (by omega)]
  exact k
theorem Ax_zast {a n : Nat} {f : Nat → Int32} {i x : Int32} (hd : decode M.2.2.1 pc = .ok (.bastore, 1)) (hc : h.1 a = cI 2 n f) (hi : vp_in i n) (k : Ax G M d b (pc + 1) L st (xup h a (cI 2 n (upd f i.toNatClampNeg (vp_nar .boolean x)))) Q) : Ax G M d b pc L (.int x :: .int i :: .ref a :: st) h Q := by
  intro p e R s m args below meth c H locs cells slots ls Z C hR hL hlo hc' hs hend
  have ha := x_in_I hR hc
  have hat := hR.2.2.1 a ha
  rw [hc] at hat
  show W p G.1 e R s m args below meth c H locs cells slots Z (F0 m pc ls (.int x :: .int i :: .ref (x_a G a) :: st.map (x_v G)))
  rw [x_a_lt hR ha]
  refine W.zast C.1 C.2.1 hat (x_arrI (t := 2) C.2.2.2.2.2.2.2.2.1 n f (by decide)) (fun q => by cases q) (x_inI hi) rfl rfl hd (fun H1 e1 z oq => ?_)
  refine k p e R s m args below meth c H1 _ cells slots ls Z C (hR.set ha ?_ z oq) hL (x_locs hlo (Nat.le_add_right _ _)) hc' hs hend
  show H1[x_B G + a]? = some (vp_cell _ _)
  rw [e1]
  exact congrArg some x_wrI
theorem Ax_zastn {a n : Nat} {f : Nat → Int32} {j : Nat} {x : Int32} (hd : decode M.2.2.1 pc = .ok (.bastore, 1)) (hc : h.1 a = cI 2 n f) (hj : j < n) (hn : n < 2 ^ 31) (k : Ax G M d b (pc + 1) L st (xup h a (cI 2 n (upd f j (vp_nar .boolean x)))) Q) : Ax G M d b pc L (.int x :: .int (nI j) :: .ref a :: st) h Q := by
  refine Ax_zast hd hc (vp_in_nI hj hn) ?_
  rw [nI_clamp (by omega)]
  exact k
theorem Ax_last {a n : Nat} {f : Nat → Int64} {i : Int32} {x : Int64} (hd : decode M.2.2.1 pc = .ok (.lastore, 1)) (hc : h.1 a = cJ n f) (hi : vp_in i n) (k : Ax G M d b (pc + 1) L st (xup h a (cJ n (vp_updL f i.toNatClampNeg x))) Q) : Ax G M d b pc L (.long x :: .int i :: .ref a :: st) h Q := by
  intro p e R s m args below meth c H locs cells slots ls Z C hR hL hlo hc' hs hend
  have ha := x_in_J hR hc
  have hat := hR.2.2.1 a ha
  rw [hc] at hat
  show W p G.1 e R s m args below meth c H locs cells slots Z (F0 m pc ls (.long x :: .int i :: .ref (x_a G a) :: st.map (x_v G)))
  rw [x_a_lt hR ha]
  refine W.last C.1 C.2.1 hat (x_arrJ C.2.2.2.2.2.2.2.2.1 n f) (fun q => by cases q) (x_inJ hi) rfl rfl hd (fun H1 e1 z oq => ?_)
  refine k p e R s m args below meth c H1 _ cells slots ls Z C (hR.set ha ?_ z oq) hL (x_locs hlo (Nat.le_add_right _ _)) hc' hs hend
  show H1[x_B G + a]? = some (vp_cell _ _)
  rw [e1]
  exact congrArg some x_wrJ
theorem Ax_lastn {a n : Nat} {f : Nat → Int64} {j : Nat} {x : Int64} (hd : decode M.2.2.1 pc = .ok (.lastore, 1)) (hc : h.1 a = cJ n f) (hj : j < n) (hn : n < 2 ^ 31) (k : Ax G M d b (pc + 1) L st (xup h a (cJ n (vp_updL f j x))) Q) : Ax G M d b pc L (.long x :: .int (nI j) :: .ref a :: st) h Q := by
  refine Ax_last hd hc (vp_in_nI hj hn) ?_
  rw [nI_clamp (by omega)]
  exact k
theorem Ax_alen {a t n : Nat} {f : Nat → Int32} (ht : t < 3) (hd : decode M.2.2.1 pc = .ok (.arraylength, 1)) (hc : h.1 a = cI t n f) (k : Ax G M d b (pc + 1) L (.int (nI n) :: st) h Q) : Ax G M d b pc L (.ref a :: st) h Q := by
  refine Ax_go (fun p e R s m args below meth c H locs cells slots ls Z C hR hL K => ?_) k
  have ha := x_in_I hR hc
  have hat := hR.2.2.1 a ha
  rw [hc] at hat
  show W p G.1 e R s m args below meth c H locs cells slots Z (F0 m pc ls (.ref (x_a G a) :: st.map (x_v G)))
  rw [x_a_lt hR ha]
  refine W.alen (n := nI n) C.1 C.2.1 hat (x_arrI C.2.2.2.2.2.2.2.2.1 n f ht) ?_ rfl rfl hd K
  rw [vp_cell_i, arrV_size]
  rfl
theorem Ax_new {idx ci N : Nat} {C : String} {T : u_T} {ty : Nat → FieldType} {fs : List Value} (hF : xCF ci C T N ty) (hw : Cond.classLink M.1 idx C ∈ lw_good ∧ Cond.instantiable C N ∈ lw_good ∧ Cond.initialized C ∈ lw_good) (hd : decode M.2.2.1 pc = .ok (.new idx, 3)) (hfs : ∀ j, j < N → defaultValue (ty j) = vp_V (fs.map (x_v G)) j) (hn : h.2 < 1000000) (hb : N + 1 ≤ b)
    (k : Ax G M d (b - (N + 1)) (pc + 3) L (.ref h.2 :: st) (xnew h (cO ci fs)) Q) : Ax G M d b pc L st h Q := by
  intro p e R s m args below meth c H locs cells slots ls Z C' hR hL hlo hc' hs hend
  have hts := C'.2.2.2.2.2.2.2.1
  have hK := C'.2.2.2.2.2.2.2.2.1.1
  have hKn := hK.1 ci _ hF.2.1
  refine W.newcK C'.1 C'.2.1 C'.2.2.2.2.2.2.1 (hts _ hw.1) (hts _ hw.2.1) (hts _ hw.2.2) rfl hd (by omega) (by omega) hKn.2.1 rfl (fun H1 kC hkC e1 z1 o1 => ?_)
  have hz := hR.1
  have e1' : H1[x_B G + h.2]? = some (blank (G.2.2.1.1 ci) kC) := by rw [← hz]; exact e1
  have hR1 : x_R G (xnew h (cO ci fs)) H1 := hR.push hn ⟨_, hF.2.1, (u_born ty hts hF.2.2.1 hKn hkC e1' hF.2.2.2.1).to hfs⟩ z1 o1
  have hk := k p e R s m args below meth c H1 locs (cells + 1) (slots + N) ls Z C' hR1 hL hlo (by omega) (by omega) hend
  have hx : x_a G h.2 = H.size := by
    unfold x_a
    rw [if_pos hn, hz]
  have hk' : W p G.1 e R s m args below meth c H1 locs (cells + 1) (slots + N) Z (F0 m (pc + 3) ls (.ref (x_a G h.2) :: st.map (x_v G))) := hk
  rw [hx] at hk'
  exact hk'
theorem Ax_newI {t N : Nat} {at' : ArrayType} (hat : newarray.typeOf at' = x_t t) (ht : t < 3) (hw : Cond.arrayClass (newarray.typeOf at') ∈ lw_good) (hd : decode M.2.2.1 pc = .ok (.newarray at', 2)) (hN : N ≤ 100000) (hn : h.2 < 1000000) (hb : N + 1 ≤ b)
    (k : Ax G M d (b - (N + 1)) (pc + 2) L (.ref h.2 :: st) (xnew h (cI t N (fun _ => 0))) Q) : Ax G M d b pc L (.int (nI N) :: st) h Q := by
  intro p e R s m args below meth c H locs cells slots ls Z C' hR hL hlo hc' hs hend
  have hts := C'.2.2.2.2.2.2.2.1
  have hK := C'.2.2.2.2.2.2.2.2.1.1
  have hz := hR.1
  have hcb : componentBytes (newarray.typeOf at') ≤ 8 := by cases at' <;> decide
  refine va_newaK C'.1 C'.2.1 (hts _ hw) rfl hd rfl (nI_pos (by omega)) (nI_clamp (by omega)) (Nat.le_trans (Nat.mul_le_mul hN hcb) (by decide)) (by omega) (by omega) hz (fun H1 cA e1 z1 o1 hAr hNm => ?_)
  have hcA : cA = G.2.2.2.1 t := by
    rw [hat] at hNm
    have h2 := hK.2
    rcases (show t = 0 ∨ t = 1 ∨ t = 2 by omega) with rfl | rfl | rfl
    · exact Option.some.inj (hNm.symm.trans (h2 0 _ rfl).2)
    · exact Option.some.inj (hNm.symm.trans (h2 1 _ rfl).2)
    · exact Option.some.inj (hNm.symm.trans (h2 2 _ rfl).2)
  have hR1 : x_R G (xnew h (cI t N (fun _ => 0))) H1 := by
    refine hR.push hn ?_ (by rw [z1, hz]) (by rw [hz]; exact o1)
    show H1[x_B G + h.2]? = some (vp_cell _ _)
    rw [e1, hcA, vp_cell_i, hat]
    rcases (show t = 0 ∨ t = 1 ∨ t = 2 by omega) with rfl | rfl | rfl <;> rfl
  have hk := k p e R s m args below meth c H1 locs (cells + 1) (slots + N) ls Z C' hR1 hL hlo (by omega) (by omega) hend
  have hx : x_a G h.2 = x_B G + h.2 := by
    unfold x_a
    rw [if_pos hn]
  have hk' : W p G.1 e R s m args below meth c H1 locs (cells + 1) (slots + N) Z (F0 m (pc + 2) ls (.ref (x_a G h.2) :: st.map (x_v G))) := hk
  rw [hx] at hk'
  exact hk'
theorem Ax_newJ {N : Nat} (hw : Cond.arrayClass .long ∈ lw_good) (hd : decode M.2.2.1 pc = .ok (.newarray .long, 2)) (hN : N ≤ 100000) (hn : h.2 < 1000000) (hb : N + 1 ≤ b)
    (k : Ax G M d (b - (N + 1)) (pc + 2) L (.ref h.2 :: st) (xnew h (cJ N (fun _ => 0))) Q) : Ax G M d b pc L (.int (nI N) :: st) h Q := by
  intro p e R s m args below meth c H locs cells slots ls Z C' hR hL hlo hc' hs hend
  have hts := C'.2.2.2.2.2.2.2.1
  have hK := C'.2.2.2.2.2.2.2.2.1.1
  have hz := hR.1
  refine va_newaK (atype := .long) C'.1 C'.2.1 (hts _ hw) rfl hd rfl (nI_pos (by omega)) (nI_clamp (by omega)) (Nat.le_trans (Nat.mul_le_mul hN (show componentBytes (newarray.typeOf .long) ≤ 8 by decide)) (by decide)) (by omega) (by omega) hz (fun H1 cA e1 z1 o1 hAr hNm => ?_)
  have hcA : cA = G.2.2.2.1 3 := Option.some.inj (hNm.symm.trans (hK.2 3 _ rfl).2)
  have hR1 : x_R G (xnew h (cJ N (fun _ => 0))) H1 := by
    refine hR.push hn ?_ (by rw [z1, hz]) (by rw [hz]; exact o1)
    show H1[x_B G + h.2]? = some (vp_cell _ _)
    rw [e1, hcA, vp_cell_l]
    rfl
  have hk := k p e R s m args below meth c H1 locs (cells + 1) (slots + N) ls Z C' hR1 hL hlo (by omega) (by omega) hend
  have hx : x_a G h.2 = x_B G + h.2 := by
    unfold x_a
    rw [if_pos hn]
  have hk' : W p G.1 e R s m args below meth c H1 locs (cells + 1) (slots + N) Z (F0 m (pc + 2) ls (.ref (x_a G h.2) :: st.map (x_v G))) := hk
  rw [hx] at hk'
  exact hk'
/-! calls -/
theorem lw_good_in : GoodIn lw_good lw_good := fun w hw => ⟨hw, good_of_word (List.mem_filter.mp hw).2⟩
theorem lw_good_sub {ws : List Cond} (h : ∀ w ∈ ws, w ∈ lw_good) : GoodIn lw_good ws := fun w hw => lw_good_in w (h w hw)
abbrev x_ws (M : xM) : List Cond := Cond.code M.2.1 M.2.2.1 M.2.2.2.1 M.2.2.2.2 :: lw_good
def xCA (M' : xM) (n : Nat) : Prop := Cond.code M'.2.1 M'.2.2.1 M'.2.2.2.1 M'.2.2.2.2 ∈ lw_good ∧ M'.2.1.cls ≠ "java/lang/invoke/MethodHandle" ∧ M'.2.1.cls ≠ "java/lang/invoke/VarHandle" ∧ (parseMethodDescriptor M'.2.1.desc).map (fun d => d.parameters.length) = some n ∧ Cond.initialized M'.2.1.cls ∈ lw_good ∧ M'.2.2.2.1 ≤ 40
def xCV (own : String) (idx : Nat) (M' : xM) (n : Nat) : Prop := xCA M' n ∧ Cond.methodLink own idx M'.2.1 ∈ lw_good ∧ Cond.instanceMethod M'.2.1 ∈ lw_good ∧ Cond.selects M'.2.1.cls M'.2.1 M'.2.1 ∈ lw_good
def xCS (own : String) (idx : Nat) (M' : xM) (n : Nat) : Prop := xCA M' n ∧ Cond.methodLink own idx M'.2.1 ∈ lw_good ∧ Cond.static M'.2.1 ∈ lw_good
def xCX (own : String) (idx : Nat) (M' : xM) (n : Nat) : Prop := xCA M' n ∧ Cond.methodLink own idx M'.2.1 ∈ lw_good ∧ Cond.instanceMethod M'.2.1 ∈ lw_good ∧ M'.2.1.name = "<init>" ∧ M'.2.2.2.2 = none
def xCY (own : String) (idx : Nat) (M' : xM) (n : Nat) : Prop := xCA M' n ∧ (own = RX5 ∧ idx = 48 ∧ M'.2.1 = yX3_init) ∧ Cond.instanceMethod M'.2.1 ∈ lw_good ∧ M'.2.1.name = "<init>" ∧ M'.2.2.2.2 = none
theorem x_tab {w : Cond} {args : Array Value} {s : State} (hw : ∀ w ∈ lw_good, w.before args s = true) (h : w ∈ lw_good) (a' : Array Value) : w.before a' s = true := word_at (s := s) (U := s) (State.WarmedH.refl s) (lw_good_in w h).2 (hw w h)
theorem x_after {p : Program} {e : Env} {R : Room} {s : State} {m : MethodId} {args : Array Value} {below : List Frame} {meth : Method} {c : Code} {H : Heap} {locs : List Loc} {cells slots b' : Nat} {ls : Array Slot} {st0 : List Value} {Z : State → Prop} {Q' : Option Value → xH → Prop}
    (C' : x_Ctx G M d p R s m args meth c) (hL : x_L G M.2.2.2.1 L ls) (hlo : ∀ q ∈ locs, x_B G ≤ q.base) (hc : cells + b ≤ R.cells) (hs : slots + b ≤ R.slots) (hb : b' ≤ b)
    (hend : ∀ (pc' : Nat) (ls' : Array Slot) (st' : List Value) (H' : Heap) (locs' : List Loc) (cells' slots' : Nat) (r : Option Value) (h' : xH), x_Ret M pc' st' r → x_R G h' H' → Q r h' → (∀ q ∈ locs', x_B G ≤ q.base) → cells' ≤ R.cells → slots' ≤ R.slots →
      W p G.1 e R s m args below meth c H' locs' cells' slots' Z (F0 m pc' ls' (st'.map (x_v G))))
    (hr : va_Run p G.1 e R s m args below meth c H locs cells slots b' b' (F0 m pc ls st0) (st.map (x_v G)) (fun _ o t => ∃ (r : Option Value) (h' : xH), o = .returned (r.map (x_v G)) ∧ Q' r h' ∧ x_R G h' t.heap) (fun q => x_B G ≤ q))
    (k : ∀ r h', Q' r h' → Ax G M d (b - b') (pc + 3) L (r.toList ++ st) h' Q) : W p G.1 e R s m args below meth c H locs cells slots Z (F0 m pc ls st0) := by
  intro T hT X
  obtain ⟨v, st₀, t, T', L', h0, X', hL', e1, e2, ⟨r, h', hv, hq, hR'⟩, stp⟩ := hr T hT X
  have hv' : v = r.map (x_v G) := Outcome.returned.inj hv
  subst hv'
  have hlo' : ∀ q ∈ locs ++ L', x_B G ≤ q.base := fun q hq => (List.mem_append.mp hq).elim (hlo q) (hL' q)
  have hw := k r h' hq p e R s m args below meth c T'.heap (locs ++ L') (cells + b') (slots + b') ls Z C' (by rw [e1]; exact hR') hL hlo' (by omega) (by omega) hend
  have hst : (r.toList ++ st).map (x_v G) = (r.map (x_v G)).toList ++ st.map (x_v G) := by cases r <;> simp
  rw [hst] at hw
  obtain ⟨t2, a1, b1⟩ := hw T' rfl X'
  exact ⟨t2, stp t2 a1, b1⟩
theorem x_catsum : ∀ st : List Value, ((st.map (x_v G)).map fun v => v.category).sum = (st.map fun v => v.category).sum
  | [] => rfl
  | v :: t => by
    simp only [List.map_cons, List.sum_cons]
    rw [x_catsum t, x_v_cat]
theorem Ax_callV {idx n a ci N d' b' : Nat} {T : u_T} {ty : Nat → FieldType} {M' : xM} {fs as stk : List Value} {Q' : Option Value → xH → Prop} (hd : decode M.2.2.1 pc = .ok (.invokevirtual idx, 3)) (hw : xCV M.1 idx M' n) (hF : xCF ci M'.2.1.cls T N ty) (hc : h.1 a = cO ci fs) (hM : AM G M' d' b' (.ref a :: as) h Q') (hn : as.length = n) (hstk : stk = as.reverse ++ .ref a :: st) (hdd : d' + 1 ≤ d) (hbb : b' ≤ b) (hcat : (st.map fun v => v.category).sum ≤ 8)
    (k : ∀ r h', Q' r h' → Ax G M d (b - b') (pc + 3) L (r.toList ++ st) h' Q) : Ax G M d b pc L stk h Q := by
  intro p e R s m args below meth c H locs cells slots ls Z C' hR hL hlo hc' hs hend
  have ha := x_in_O hR hF.1 hc
  have hat := hR.2.2.1 a ha
  rw [hc] at hat
  have hts := C'.2.2.2.2.2.2.2.1
  have hK := C'.2.2.2.2.2.2.2.2.1
  have hRd := C'.2.2.2.2.2.2.2.2.2
  have cw : CallW R s args M.1 M'.2.1.cls idx M'.2.1 M'.2.2.1 M'.2.2.2.1 M'.2.2.2.2 (x_ws M') (x_rm d' b') b' b' n :=
    cwV n hts (lw_good_sub (fun w hx => by
      unfold wsV at hx
      simp only [List.cons_append, List.nil_append, List.mem_cons] at hx
      rcases hx with rfl | rfl | rfl | rfl | rfl | hx
      · exact hw.2.1
      · exact hw.2.2.1
      · exact hw.2.2.2
      · exact hw.1.2.2.2.2.1
      · exact hw.1.1
      · exact hx)) rfl rfl rfl ⟨rfl, hw.1.2.1, hw.1.2.2.1, hw.1.2.2.2.1⟩ ⟨by show d' + 1 ≤ _; have := hRd.1; omega, by show 8 + (M'.2.2.2.1 + 11) + 64 * d' ≤ _; have := hRd.2; have := hw.1.2.2.2.2.2; omega⟩
  have hxa := x_a_lt hR ha
  subst hstk
  refine x_after C' hL hlo hc' hs hbb hend (va_runV (As := as.map (x_v G)) (b := x_B G + a) ⟨C'.1, C'.2.1, C'.2.2.1, C'.2.2.2.2.2.2.1, hts⟩ hM cw ⟨x_Pc.blind, va_recv (q := (M'.2.1.cls, T, N)) hK.1 (x_one hat) hF.2.1 (q0 := 0) rfl, fun U hU hW => ⟨?_, by rw [hU]; exact hR, x_K.warm hW hK⟩⟩ rfl (by rw [List.length_map]; exact hn) hL.1 ?_ ?_ hd ⟨by omega, by omega⟩) k
  · show (Value.ref (x_B G + a) :: as.map (x_v G)).toArray = ((Value.ref a :: as).map (x_v G)).toArray
    rw [List.map_cons]
    show _ = (Value.ref (x_a G a) :: as.map (x_v G)).toArray
    rw [hxa]
  · show (as.reverse ++ Value.ref a :: st).map (x_v G) = _
    rw [List.map_append, List.map_cons, List.map_reverse]
    show _ ++ Value.ref (x_a G a) :: _ = _
    rw [hxa]
  · show 2 * 0 + _ ≤ 8
    rw [x_catsum]
    omega
theorem Ax_callS {idx n d' b' : Nat} {M' : xM} {as stk : List Value} {Q' : Option Value → xH → Prop} (hd : decode M.2.2.1 pc = .ok (.invokestatic idx, 3)) (hw : xCS M.1 idx M' n) (hM : AM G M' d' b' as h Q') (hn : as.length = n) (hstk : stk = as.reverse ++ st) (hdd : d' + 1 ≤ d) (hbb : b' ≤ b) (hcat : (st.map fun v => v.category).sum ≤ 8)
    (k : ∀ r h', Q' r h' → Ax G M d (b - b') (pc + 3) L (r.toList ++ st) h' Q) : Ax G M d b pc L stk h Q := by
  intro p e R s m args below meth c H locs cells slots ls Z C' hR hL hlo hc' hs hend
  have hts := C'.2.2.2.2.2.2.2.1
  have hK := C'.2.2.2.2.2.2.2.2.1
  have hRd := C'.2.2.2.2.2.2.2.2.2
  have cw : CallB R s args M.1 idx M'.2.1 M'.2.2.1 M'.2.2.2.1 M'.2.2.2.2 (x_ws M') (x_rm d' b') b' b' n ∧ (Cond.static M'.2.1).before args s = true :=
    va_cwS n hts (lw_good_sub (fun w hx => by
      unfold va_wsS at hx
      simp only [List.cons_append, List.nil_append, List.mem_cons] at hx
      rcases hx with rfl | rfl | rfl | rfl | hx
      · exact hw.2.1
      · exact hw.2.2
      · exact hw.1.2.2.2.2.1
      · exact hw.1.1
      · exact hx)) rfl rfl rfl ⟨hw.1.2.1, hw.1.2.2.1, hw.1.2.2.2.1⟩ ⟨by show d' + 1 ≤ _; have := hRd.1; omega, by show 8 + (M'.2.2.2.1 + 11) + 64 * d' ≤ _; have := hRd.2; have := hw.1.2.2.2.2.2; omega⟩
  subst hstk
  refine x_after C' hL hlo hc' hs hbb hend (va_runS (As := as.map (x_v G)) ⟨C'.1, C'.2.1, C'.2.2.1, C'.2.2.2.2.2.2.1, hts⟩ hM cw ⟨x_Pc.blind, fun U hU hW => ⟨rfl, by rw [hU]; exact hR, x_K.warm hW hK⟩⟩ rfl (by rw [List.length_map]; exact hn) hL.1 ?_ ?_ hd ⟨by omega, by omega⟩) k
  · show (as.reverse ++ st).map (x_v G) = _
    rw [List.map_append, List.map_reverse]
  · show 2 * 0 + _ ≤ 8
    rw [x_catsum]
    omega
theorem Ax_callI {idx n a ci d' b' : Nat} {M' : xM} {fs as stk : List Value} {Q' : Option Value → xH → Prop} (hci : ci < 99) (hd : decode M.2.2.1 pc = .ok (.invokespecial idx, 3)) (hw : xCX M.1 idx M' n) (hc : h.1 a = cO ci fs) (hM : AM G M' d' b' (.ref a :: as) h Q') (hn : as.length = n) (hstk : stk = as.reverse ++ .ref a :: st) (hdd : d' + 1 ≤ d) (hbb : b' ≤ b) (hcat : (st.map fun v => v.category).sum ≤ 8)
    (k : ∀ r h', Q' r h' → Ax G M d (b - b') (pc + 3) L (r.toList ++ st) h' Q) : Ax G M d b pc L stk h Q := by
  intro p e R s m args below meth c H locs cells slots ls Z C' hR hL hlo hc' hs hend
  have ha := x_in_O hR hci hc
  have hts := C'.2.2.2.2.2.2.2.1
  have hK := C'.2.2.2.2.2.2.2.2.1
  have hRd := C'.2.2.2.2.2.2.2.2.2
  have cw : CallB R s args M.1 idx M'.2.1 M'.2.2.1 M'.2.2.2.1 none (x_ws M') (x_rm d' b') b' b' n ∧ M'.2.1.name = "<init>" ∧ (Cond.instanceMethod M'.2.1).before args s = true :=
    cwI n hts (lw_good_sub (fun w hx => by
      simp only [x_ws, List.mem_cons] at hx
      rcases hx with rfl | hx
      · exact hw.1.1
      · exact hx)) (by show x_ws M' = _; unfold x_ws; rw [hw.2.2.2.2]) rfl rfl (hts _ hw.1.2.2.2.2.1) (hts _ hw.2.1) (hts _ hw.2.2.1) hw.2.2.2.1 ⟨hw.1.2.1, hw.1.2.2.1, hw.1.2.2.2.1⟩ ⟨by show d' + 1 ≤ _; have := hRd.1; omega, by show 8 + (M'.2.2.2.1 + 11) + 64 * d' ≤ _; have := hRd.2; have := hw.1.2.2.2.2.2; omega⟩
  have hxa := x_a_lt hR ha
  subst hstk
  refine x_after C' hL hlo hc' hs hbb hend (va_runI (As := as.map (x_v G)) (b := x_B G + a) ⟨C'.1, C'.2.1, C'.2.2.1, C'.2.2.2.2.2.2.1, hts⟩ hM cw ⟨x_Pc.blind, fun U hU hW => ⟨?_, by rw [hU]; exact hR, x_K.warm hW hK⟩⟩ rfl (by rw [List.length_map]; exact hn) hL.1 ?_ ?_ hd ⟨by omega, by omega⟩) k
  · show (Value.ref (x_B G + a) :: as.map (x_v G)).toArray = ((Value.ref a :: as).map (x_v G)).toArray
    rw [List.map_cons]
    show _ = (Value.ref (x_a G a) :: as.map (x_v G)).toArray
    rw [hxa]
  · show (as.reverse ++ Value.ref a :: st).map (x_v G) = _
    rw [List.map_append, List.map_cons, List.map_reverse]
    show _ ++ Value.ref (x_a G a) :: _ = _
    rw [hxa]
  · show 2 * 0 + _ ≤ 8
    rw [x_catsum]
    omega
theorem Ax_callY {idx n a ci d' b' : Nat} {M' : xM} {fs as stk : List Value} {Q' : Option Value → xH → Prop} (hci : ci < 99) (hd : decode M.2.2.1 pc = .ok (.invokespecial idx, 3)) (hw : xCY M.1 idx M' n) (hc : h.1 a = cO ci fs) (hM : AM G M' d' b' (.ref a :: as) h Q') (hn : as.length = n) (hstk : stk = as.reverse ++ .ref a :: st) (hdd : d' + 1 ≤ d) (hbb : b' ≤ b) (hcat : (st.map fun v => v.category).sum ≤ 8)
    (k : ∀ r h', Q' r h' → Ax G M d (b - b') (pc + 3) L (r.toList ++ st) h' Q) : Ax G M d b pc L stk h Q := by
  intro p e R s m args below meth c H locs cells slots ls Z C' hR hL hlo hc' hs hend
  have ha := x_in_O hR hci hc
  have hts := C'.2.2.2.2.2.2.2.1
  have hK := C'.2.2.2.2.2.2.2.2.1
  have hRd := C'.2.2.2.2.2.2.2.2.2
  have cw : va_CN R s args M.1 idx M'.2.1 "ChoiceCode" M'.2.2.1 M'.2.2.2.1 none (x_ws M') (x_rm d' b') b' b' n :=
    va_cnB n hts (lw_good_sub (fun w hx => by
      simp only [x_ws, List.mem_cons] at hx
      rcases hx with rfl | hx
      · exact hw.1.1
      · exact hx)) (by show x_ws M' = _; unfold x_ws; rw [hw.2.2.2.2]) rfl rfl (by rw [hw.2.1.1, hw.2.1.2.1, hw.2.1.2.2]; exact hK.2.2.2.2.2.2.2) (hts _ hw.1.2.2.2.2.1) ⟨hw.1.2.1, hw.1.2.2.1, hw.1.2.2.2.1⟩ ⟨by show d' + 1 ≤ _; have := hRd.1; omega, by show 8 + (M'.2.2.2.1 + 11) + 64 * d' ≤ _; have := hRd.2; have := hw.1.2.2.2.2.2; omega⟩
  have hxa := x_a_lt hR ha
  subst hstk
  refine x_after C' hL hlo hc' hs hbb hend (va_runIN (As := as.map (x_v G)) (b := x_B G + a) ⟨C'.1, C'.2.1, C'.2.2.1, C'.2.2.2.2.2.2.1, hts⟩ hM ⟨cw, hw.2.2.2.1, hts _ hw.2.2.1⟩ ⟨x_Pc.blind, fun U hU hW => ⟨?_, by rw [hU]; exact hR, x_K.warm hW hK⟩⟩ rfl (by rw [List.length_map]; exact hn) hL.1 ?_ ?_ hd ⟨by omega, by omega⟩) k
  · show (Value.ref (x_B G + a) :: as.map (x_v G)).toArray = ((Value.ref a :: as).map (x_v G)).toArray
    rw [List.map_cons]
    show _ = (Value.ref (x_a G a) :: as.map (x_v G)).toArray
    rw [hxa]
  · show (as.reverse ++ Value.ref a :: st).map (x_v G) = _
    rw [List.map_append, List.map_cons, List.map_reverse]
    show _ ++ Value.ref (x_a G a) :: _ = _
    rw [hxa]
  · show 2 * 0 + _ ≤ 8
    rw [x_catsum]
    omega
theorem Ax_oinit {idx a ci : Nat} {fs : List Value} (hci : ci < 99) (hd : decode M.2.2.1 pc = .ok (.invokespecial idx, 3)) (hw : Cond.methodLink M.1 idx Lib.objectInit ∈ lw_good ∧ Cond.instanceMethod Lib.objectInit ∈ lw_good ∧ Cond.code Lib.objectInit ⟨#[0xb1]⟩ 1 none ∈ lw_good) (hc : h.1 a = cO ci fs) (hdd : 1 ≤ d) (hcat : (st.map fun v => v.category).sum ≤ 8)
    (k : Ax G M d b (pc + 3) L st h Q) : Ax G M d b pc L (.ref a :: st) h Q := by
  refine Ax_go (fun p e R s m args below meth c H locs cells slots ls Z C' hR hL K => ?_) k
  have hts := C'.2.2.2.2.2.2.2.1
  have hRd := C'.2.2.2.2.2.2.2.2.2
  refine W.objInit C'.1 C'.2.1 C'.2.2.2.2.2.2.1 (hts _ hw.1) (hts _ hw.2.1) (hts _ hw.2.2) rfl (hL.1.trans C'.2.2.1.symm) (a := x_a G a) rfl hd (by omega) ?_ K
  show 2 * 0 + ((st.map (x_v G)).map fun v => v.category).sum + 12 ≤ R.locals
  rw [x_catsum]
  omega
/-! a method's contract out of its walk -/
def x_ent : List Value → List Value
  | [] => []
  | v :: t => if v.category = 2 then v :: .null :: x_ent t else v :: x_ent t
theorem x_ent_len : ∀ as : List Value, (lg_sl (as.map (x_v G))).length = (x_ent as).length
  | [] => rfl
  | v :: t => by
    have ih := x_ent_len t
    unfold lg_sl at ih ⊢
    rw [List.map_cons, List.flatMap_cons, List.length_append, ih, x_v_cat, x_ent]
    split <;> simp <;> omega
theorem x_ent_at : ∀ (as : List Value) (o i : Nat) (v : Value), (x_ent as)[i]? = some v → v ≠ .null → (o + i, x_v G v) ∈ lv_args o (as.map (x_v G))
  | [], o, i, v, h, _ => by simp [x_ent] at h
  | w :: t, o, i, v, h, hv => by
    rw [x_ent] at h
    rw [List.map_cons, lv_args, x_v_cat]
    by_cases hc : w.category = 2
    · rw [if_pos hc] at h
      rw [if_pos hc]
      match i, h with
      | 0, h =>
        rw [List.getElem?_cons_zero] at h
        cases h
        exact List.mem_cons_self
      | 1, h =>
        rw [List.getElem?_cons_succ, List.getElem?_cons_zero] at h
        cases h
        exact absurd rfl hv
      | i + 2, h =>
        rw [List.getElem?_cons_succ, List.getElem?_cons_succ] at h
        have := x_ent_at t (o + 2) i v h hv
        rw [show o + (i + 2) = o + 2 + i by omega]
        exact List.mem_cons_of_mem _ this
    · rw [if_neg hc] at h
      rw [if_neg hc]
      match i, h with
      | 0, h =>
        rw [List.getElem?_cons_zero] at h
        cases h
        exact List.mem_cons_self
      | i + 1, h =>
        rw [List.getElem?_cons_succ] at h
        have := x_ent_at t (o + 1) i v h hv
        rw [show o + (i + 1) = o + 1 + i by omega]
        exact List.mem_cons_of_mem _ this
theorem AM.of {as : List Value} (hy : plainName M.2.1.cls = true) (hown : M.1 = M.2.1.cls) (hl : (x_ent as).length ≤ M.2.2.2.1) (hL : x_ent as ++ List.replicate (M.2.2.2.1 - (x_ent as).length) .null = L) (hk : Ax G M d b 0 L [] h Q) : AM G M d b as h Q := by
  refine Met.ofW (cc := M.2.2.1) (maxL := M.2.2.2.1) (ret := M.2.2.2.2) hy rfl ?_
  intro p e s m args below meth c s₁ B hml hv
  obtain ⟨rfl, hR, hK⟩ := hv
  have hts := atoms_spec (ws := x_ws M) B.pre
  rw [lg_entry_eq]
  have hlv := lv_entry (as.map (x_v G)) (n := M.2.2.2.1) (by rw [x_ent_len]; exact hl)
  have hxL : x_L G M.2.2.2.1 L ((lg_sl (as.map (x_v G)) ++ List.replicate (M.2.2.2.1 - (lg_sl (as.map (x_v G))).length) Slot.unset).toArray) := by
    refine ⟨hlv.1, hlv.2.1, fun i v hi hv => ?_⟩
    rw [← hL] at hi
    rcases Nat.lt_or_ge i (x_ent as).length with q | q
    · rw [List.getElem?_append_left q] at hi
      have := x_ent_at (G := G) as 0 i v hi hv
      rw [Nat.zero_add] at this
      exact hlv.2.2 _ this
    · rw [List.getElem?_append_right q] at hi
      have := List.mem_of_getElem? hi
      rw [List.mem_replicate] at this
      exact absurd this.2 hv
  refine hk p e _ s m _ below meth c s.heap [] 0 0 _ _ ⟨B.exec, B.bytes, hml, B.returns, B.notSynchronized, fun hi => ?_, ?_, fun w hw => hts w (List.mem_cons_of_mem _ hw), hK, Nat.le_refl _, Nat.le_refl _⟩ hR hxL (fun _ h => by cases h) (by show 0 + b ≤ b; omega) (by show 0 + b ≤ b; omega) ?_
  · rw [← hi]; exact (name_of_methodNamed B.named B.method).1
  · rw [hown]; exact findClass_of_methodNamed B.named
  · intro pc' ls' st' H' locs' cells' slots' r h' hret hR' hq hlo hc hs
    refine W.widen (k := b) (n := b) hc hs ?_
    rcases hret with ⟨g1, g2, rfl, rfl⟩ | ⟨v, ty, g1, g2, g3, rfl, rfl⟩ | ⟨v, g1, g2, rfl, rfl⟩ | ⟨a, ty, g1, g2, g3, rfl, rfl⟩
    · exact W.vret B.exec B.bytes (B.returns.trans g2) (fun t ht _ => ⟨none, h', rfl, hq, by rw [ht]; exact hR'⟩) hlo g1 B.notSynchronized
    · exact W.zret B.exec B.bytes (B.returns.trans g2) g3 (fun t ht _ => ⟨some (.int v), h', rfl, hq, by rw [ht]; exact hR'⟩) hlo g1 B.notSynchronized
    · exact W.lret B.exec B.bytes (B.returns.trans g2) (fun t ht _ => ⟨some (.long v), h', rfl, hq, by rw [ht]; exact hR'⟩) hlo g1 B.notSynchronized
    · exact W.aret B.exec B.bytes (B.returns.trans g2) g3 (Or.inr ⟨_, rfl⟩) (fun t ht _ => ⟨some (.ref a), h', rfl, hq, by rw [ht]; exact hR'⟩) hlo g1 B.notSynchronized
end
