/-! an abstract machine over the kit's rows: cells by number, locals as a list, a contract a method -/
abbrev xC : Type := (Nat × Nat × (Nat → Int32)) ⊕ ((Nat × (Nat → Int64)) ⊕ (Nat × List Value))
abbrev xH : Type := (Nat → xC) × Nat
abbrev xG : Type := Launch × Heap × va_G × (Nat → ClassId) × (Nat → Nat) × Nat × (Nat → Int32)
abbrev xM : Type := String × MethodName × ByteArray × Nat × Option FieldType
abbrev cI (t n : Nat) (f : Nat → Int32) : xC := .inl (t, n, f)
abbrev cJ (n : Nat) (f : Nat → Int64) : xC := .inr (.inl (n, f))
abbrev cO (ci : Nat) (fs : List Value) : xC := .inr (.inr (ci, fs))
def x_B (G : xG) : Nat := G.2.1.size
def x_a (G : xG) (a : Nat) : Nat := if a < 1000000 then x_B G + a else G.2.2.2.2.1 (a - 1000000)
def x_v (G : xG) : Value → Value
  | .ref a => .ref (x_a G a)
  | v => v
def x_t : Nat → FieldType
  | 0 => .int
  | 1 => .byte
  | 2 => .boolean
  | _ => .long
def x_e (G : xG) : xC → va_E
  | .inl (t, n, f) => .inl (G.2.2.2.1 t, n, .inl f)
  | .inr (.inl (n, f)) => .inl (G.2.2.2.1 3, n, .inr (.inl f))
  | .inr (.inr (ci, fs)) => .inr (ci, fs.map (x_v G))
def x_R (G : xG) (h : xH) (H : Heap) : Prop := H.size = x_B G + h.2 ∧ h.2 ≤ 1000000 ∧ (∀ i, i < h.2 → va_at G.2.2.1 vwCl (x_B G + i, x_e G (h.1 i)) H) ∧ (∀ i, h.2 ≤ i → h.1 i = cO 99 []) ∧ ∀ q, q < x_B G → H[q]? = G.2.1[q]?
def x_ty (G : xG) : List (ClassId × FieldType) := [(G.2.2.2.1 0, .int), (G.2.2.2.1 1, .byte), (G.2.2.2.1 2, .boolean), (G.2.2.2.1 3, .long)]
def xsLen : List Nat := [6, 6, 6, 5, 7, 5, 1, 1]
def xsByt : List (List Int32) := [[32, 76, 69, 83, 83, 32], [32, 77, 79, 82, 69, 32], [32, 83, 65, 77, 69, 32], [32, 66, 73, 84, 32], [32, 84, 65, 66, 76, 69, 32], [32, 69, 78, 68, 32], [32], [10]]
def xsTx : List String := [" LESS ", " MORE ", " SAME ", " BIT ", " TABLE ", " END ", " ", "\n"]
def xsIx : List Nat := [197, 199, 201, 203, 205, 207, 186, 195]
/-- what the Statement gives of the script and of the texts -/
def x_S (G : xG) (U : State) : Prop :=
  va_X (G.2.2.2.2.1 0) G.2.2.2.2.2.1 G.2.2.2.2.2.2 U G.2.1 ∧ G.2.2.2.2.1 0 < x_B G ∧
  vk_S 8 xsLen xsByt (fun k => G.2.2.2.2.1 (k + 1)) (fun k => G.2.2.2.2.1 (k + 101)) (fun q => x_B G ≤ q) U G.2.1 ∧
  (∀ k, k < 8 → vk_R RX1 (xsIx.getD k 0) (xsTx.getD k "") (G.2.2.2.2.1 (k + 1)) U) ∧
  va_Z "java/lang/String" "COMPACT_STRINGS" "Z" (.int 1) (fun q => x_B G ≤ q) U G.2.1 ∧
  (va_Z "jdk/internal/util/Preconditions" "SIOOBE_FORMATTER" "Ljava/util/function/BiFunction;" .null (fun q => x_B G ≤ q) U G.2.1 ∨ va_Z "jdk/internal/util/Preconditions" "SIOOBE_FORMATTER" "Ljava/util/function/BiFunction;" (.ref (G.2.2.2.2.1 50)) (fun q => x_B G ≤ q) U G.2.1) ∧
  va_Nw (.methodLinkNest RX5 48 yX3_init "ChoiceCode") U
def x_K (G : xG) (U : State) : Prop := va_K G.2.2.1 vwCl (x_ty G) U ∧ x_S G U
def x_L (G : xG) (n : Nat) (L : List Value) (ls : Array Slot) : Prop := ls.size = n ∧ lv_wf ls ∧ ∀ (i : Nat) (v : Value), L[i]? = some v → v ≠ .null → ls[i]? = some (.val (x_v G v))
def lw_good : List Cond := lw_tbl.filter goodWord
def x_Ctx (G : xG) (M : xM) (d : Nat) (p : Program) (R : Room) (s : State) (m : MethodId) (args : Array Value) (meth : Method) (c : Code) : Prop :=
  p.tables.exec = Jvm.exec ∧ c.code = M.2.2.1 ∧ c.maxLocals = M.2.2.2.1 ∧ meth.sig.returnType = M.2.2.2.2 ∧ meth.locks = false ∧ (M.2.1.name = "<init>" → meth.name = "<init>") ∧ s.vm.findClass M.1 = some m.cls ∧ (∀ w ∈ lw_good, w.before args s = true) ∧ x_K G s ∧ d ≤ R.frames ∧ 64 * d ≤ R.locals
/-- a return instruction with its value -/
def x_Ret (M : xM) (pc : Nat) (st : List Value) (r : Option Value) : Prop :=
  (decode M.2.2.1 pc = .ok (.return_, 1) ∧ M.2.2.2.2 = none ∧ st = [] ∧ r = none) ∨
  (∃ (v : Int32) (ty : FieldType), decode M.2.2.1 pc = .ok (.ireturn, 1) ∧ M.2.2.2.2 = some ty ∧ narrow ty (.int v) = .int v ∧ st = [.int v] ∧ r = some (.int v)) ∨
  (∃ v : Int64, decode M.2.2.1 pc = .ok (.lreturn, 1) ∧ M.2.2.2.2 = some .long ∧ st = [.long v] ∧ r = some (.long v)) ∨
  (∃ (a : Nat) (ty : FieldType), decode M.2.2.1 pc = .ok (.areturn, 1) ∧ M.2.2.2.2 = some ty ∧ ((∃ n, ty = .object n) ∨ ∃ t, ty = .array t) ∧ st = [.ref a] ∧ r = some (.ref a))
def Ax (G : xG) (M : xM) (d b pc : Nat) (L st : List Value) (h : xH) (Q : Option Value → xH → Prop) : Prop :=
  ∀ (p : Program) (e : Env) (R : Room) (s : State) (m : MethodId) (args : Array Value) (below : List Frame) (meth : Method) (c : Code) (H : Heap) (locs : List Loc) (cells slots : Nat) (ls : Array Slot) (Z : State → Prop),
    x_Ctx G M d p R s m args meth c → x_R G h H → x_L G M.2.2.2.1 L ls → (∀ q ∈ locs, x_B G ≤ q.base) → cells + b ≤ R.cells → slots + b ≤ R.slots →
    (∀ (pc' : Nat) (ls' : Array Slot) (st' : List Value) (H' : Heap) (locs' : List Loc) (cells' slots' : Nat) (r : Option Value) (h' : xH), x_Ret M pc' st' r → x_R G h' H' → Q r h' → (∀ q ∈ locs', x_B G ≤ q.base) → cells' ≤ R.cells → slots' ≤ R.slots →
      W p G.1 e R s m args below meth c H' locs' cells' slots' Z (F0 m pc' ls' (st'.map (x_v G)))) →
    W p G.1 e R s m args below meth c H locs cells slots Z (F0 m pc ls (st.map (x_v G)))
def x_rm (d b : Nat) : Room := { frames := d, cells := b, slots := b, locals := 64 * d }
def AM (G : xG) (M : xM) (d b : Nat) (as : List Value) (h : xH) (Q : Option Value → xH → Prop) : Prop :=
  Met G.1 M.2.1 (Cond.code M.2.1 M.2.2.1 M.2.2.2.1 M.2.2.2.2 :: lw_good) (x_rm d b) (va_Pc (as.map (x_v G)) (fun U => x_R G h U.heap ∧ x_K G U))
    (fun _ _ o t => ∃ (r : Option Value) (h' : xH), o = .returned (r.map (x_v G)) ∧ Q r h' ∧ x_R G h' t.heap) b b (fun q => x_B G ≤ q)
section
variable {G : xG} {M : xM} {d b pc : Nat} {L st : List Value} {h : xH} {Q : Option Value → xH → Prop}
theorem x_v_int (x : Int32) : x_v G (.int x) = .int x := rfl
theorem x_v_cat (v : Value) : (x_v G v).category = v.category := by cases v <;> rfl
theorem x_K.moved {u U : State} (hvm : u.vm.Alike U.vm) (hW : ∀ (own tx : String) (k a : Nat), vk_R own k tx a u → vk_R own k tx a U) (hN : va_Nw (.methodLinkNest RX5 48 yX3_init "ChoiceCode") u → va_Nw (.methodLinkNest RX5 48 yX3_init "ChoiceCode") U) (h : x_K G u) : x_K G U := by
  obtain ⟨h0, h1, h2, h3, h4, h5, h6, h7⟩ := h
  exact ⟨va_K.moved hvm h0, va_X.moved hvm h1, h2, vk_S.moved hvm h3, fun k hk => hW _ _ _ _ (h4 k hk), va_Z.moved hvm h5, h6.imp (va_Z.moved hvm) (va_Z.moved hvm), hN h7⟩
theorem x_K.warm {s U : State} (hW : s.WarmedH U.vm) (h : x_K G s) : x_K G U := x_K.moved hW.alike (fun _ _ _ _ h => vk_R.warm hW h) (fun h => va_Nw.warmM hW h) h
theorem x_K.same {u U : State} (hv : U.vm = u.vm) (h : x_K G u) : x_K G U := x_K.moved (by rw [hv]; exact Vm.Alike.refl _) (fun _ _ _ _ h => vk_R.same hv h) (fun h => va_Nw.same rfl hv.symm h) h
theorem x_Pc.blind {as : List Value} : FrameBlind (va_Pc (as.map (x_v G)) (fun U => x_R G h U.heap ∧ x_K G U)) := by
  intro a U g mk q
  exact ⟨q.1, q.2.1, x_K.same (u := U) (U := U.calling g mk a) rfl q.2.2⟩
theorem Ax_b {b' : Nat} (hb : b' ≤ b) (k : Ax G M d b' pc L st h Q) : Ax G M d b pc L st h Q := by
  intro p e R s m args below meth c H locs cells slots ls Z C hR hL hl hc hs hend
  exact k p e R s m args below meth c H locs cells slots ls Z C hR hL hl (by omega) (by omega) hend
theorem Ax_post {Q' : Option Value → xH → Prop} (hQ : ∀ r h', Q' r h' → Q r h') (k : Ax G M d b pc L st h Q') : Ax G M d b pc L st h Q := by
  intro p e R s m args below meth c H locs cells slots ls Z C hR hL hl hc hs hend
  exact k p e R s m args below meth c H locs cells slots ls Z C hR hL hl hc hs (fun pc' ls' st' H' locs' cells' slots' r h' g1 g2 g3 => hend pc' ls' st' H' locs' cells' slots' r h' g1 g2 (hQ _ _ g3))
theorem Met_post {l : Launch} {y : MethodName} {ws : List Cond} {rm : Room} {Pc : Array Value → State → Prop} {Qc Qd : Array Value → State → Outcome → State → Prop} {mc ms : Nat} {free : Addr → Prop} (hQ : ∀ a st o t, Qc a st o t → Qd a st o t) (k : Met l y ws rm Pc Qc mc ms free) : Met l y ws rm Pc Qd mc ms free := by
  intro p e ha hc hk s m args below hf hA hP hK
  obtain ⟨k', o, h1, h2, h3, hq, hF⟩ := k p e ha hc hk s m args below hf hA hP hK
  exact ⟨k', o, h1, h2, h3, hQ _ _ _ _ hq, hF⟩
theorem AM_post {as : List Value} {Q' : Option Value → xH → Prop} (hQ : ∀ r h', Q' r h' → Q r h') (k : AM G M d b as h Q') : AM G M d b as h Q :=
  Met_post (fun _ _ _ _ ⟨r, h', e1, e2, e3⟩ => ⟨r, h', e1, hQ _ _ e2, e3⟩) k
theorem Ax_go {pc' : Nat} {st' : List Value}
    (hg : ∀ (p : Program) (e : Env) (R : Room) (s : State) (m : MethodId) (args : Array Value) (below : List Frame) (meth : Method) (c : Code) (H : Heap) (locs : List Loc) (cells slots : Nat) (ls : Array Slot) (Z : State → Prop), x_Ctx G M d p R s m args meth c → x_R G h H → x_L G M.2.2.2.1 L ls →
      W p G.1 e R s m args below meth c H locs cells slots Z (F0 m pc' ls (st'.map (x_v G))) → W p G.1 e R s m args below meth c H locs cells slots Z (F0 m pc ls (st.map (x_v G))))
    (k : Ax G M d b pc' L st' h Q) : Ax G M d b pc L st h Q := by
  intro p e R s m args below meth c H locs cells slots ls Z C hR hL hl hc hs hend
  exact hg p e R s m args below meth c H locs cells slots ls Z C hR hL (k p e R s m args below meth c H locs cells slots ls Z C hR hL hl hc hs hend)
/-! ends -/
theorem Ax_ret (hd : decode M.2.2.1 pc = .ok (.return_, 1)) (hr : M.2.2.2.2 = none) (hQ : Q none h) : Ax G M d b pc L [] h Q := by
  intro p e R s m args below meth c H locs cells slots ls Z C hR hL hl hc hs hend
  exact hend pc ls [] H locs cells slots none h (Or.inl ⟨hd, hr, rfl, rfl⟩) hR hQ hl (by omega) (by omega)
theorem Ax_iret {v : Int32} {ty : FieldType} (hd : decode M.2.2.1 pc = .ok (.ireturn, 1)) (hr : M.2.2.2.2 = some ty) (hn : narrow ty (.int v) = .int v) (hQ : Q (some (.int v)) h) : Ax G M d b pc L [.int v] h Q := by
  intro p e R s m args below meth c H locs cells slots ls Z C hR hL hl hc hs hend
  exact hend pc ls [.int v] H locs cells slots _ h (Or.inr (Or.inl ⟨v, ty, hd, hr, hn, rfl, rfl⟩)) hR hQ hl (by omega) (by omega)
theorem Ax_lret {v : Int64} (hd : decode M.2.2.1 pc = .ok (.lreturn, 1)) (hr : M.2.2.2.2 = some .long) (hQ : Q (some (.long v)) h) : Ax G M d b pc L [.long v] h Q := by
  intro p e R s m args below meth c H locs cells slots ls Z C hR hL hl hc hs hend
  exact hend pc ls [.long v] H locs cells slots _ h (Or.inr (Or.inr (Or.inl ⟨v, hd, hr, rfl, rfl⟩))) hR hQ hl (by omega) (by omega)
theorem Ax_aret {a : Nat} {ty : FieldType} (hd : decode M.2.2.1 pc = .ok (.areturn, 1)) (hr : M.2.2.2.2 = some ty) (ht : (∃ n, ty = .object n) ∨ ∃ t, ty = .array t) (hQ : Q (some (.ref a)) h) : Ax G M d b pc L [.ref a] h Q := by
  intro p e R s m args below meth c H locs cells slots ls Z C hR hL hl hc hs hend
  exact hend pc ls [.ref a] H locs cells slots _ h (Or.inr (Or.inr (Or.inr ⟨a, ty, hd, hr, ht, rfl, rfl⟩))) hR hQ hl (by omega) (by omega)
/-! locals -/
theorem x_L.at {n i : Nat} {v : Value} {ls : Array Slot} (hL : x_L G n L ls) (hi : L[i]? = some v) (hv : v ≠ .null) : ls[i]? = some (.val (x_v G v)) := hL.2.2 i v hi hv
def x_prs (G : xG) : Nat → List Value → List (Nat × Value)
  | _, [] => []
  | i, v :: t => (if v = .null then [] else [(i, x_v G v)]) ++ x_prs G (i + 1) t
theorem x_prs_mem {j : Nat} {w : Value} : ∀ (L : List Value) (i : Nat), (j, w) ∈ x_prs G i L ↔ ∃ v, i ≤ j ∧ L[j - i]? = some v ∧ v ≠ .null ∧ w = x_v G v
  | [], i => by simp [x_prs]
  | v :: t, i => by
    rw [x_prs, List.mem_append, x_prs_mem t (i + 1)]
    constructor
    · rintro (h | ⟨u, h1, h2, h3, h4⟩)
      · by_cases hv : v = .null
        · rw [if_pos hv] at h; exact absurd h List.not_mem_nil
        · rw [if_neg hv, List.mem_singleton, Prod.mk.injEq] at h
          obtain ⟨rfl, rfl⟩ := h
          exact ⟨v, Nat.le_refl _, by simp, hv, rfl⟩
      · refine ⟨u, by omega, ?_, h3, h4⟩
        rw [show j - i = (j - (i + 1)) + 1 by omega, List.getElem?_cons_succ]
        exact h2
    · rintro ⟨u, h1, h2, h3, h4⟩
      by_cases hij : j = i
      · subst hij
        rw [Nat.sub_self, List.getElem?_cons_zero] at h2
        cases h2
        left
        rw [if_neg h3, h4]
        exact List.mem_singleton.mpr rfl
      · right
        refine ⟨u, by omega, ?_, h3, h4⟩
        rw [show j - i = (j - (i + 1)) + 1 by omega, List.getElem?_cons_succ] at h2
        exact h2
theorem x_L.has {n : Nat} {ls : Array Slot} (hL : x_L G n L ls) : lv_has ls n (x_prs G 0 L) := by
  refine ⟨hL.1, hL.2.1, fun q hq => ?_⟩
  obtain ⟨v, -, h2, h3, h4⟩ := (x_prs_mem L 0).mp hq
  rw [h4]
  exact hL.2.2 _ _ (by simpa using h2) h3
/-- a store of a value of one word -/
theorem x_L.set1 {n i : Nat} {v : Value} {ls' : Array Slot} (hp : ∀ j w, i = j + 1 → L[j]? = some w → w.category ≠ 2)
    (h : lv_has ls' n ((i, x_v G v) :: (x_prs G 0 L).filter (fun q => !(q.1 == i) && !(q.1 + 1 == i && q.2.category == 2)))) : x_L G n (L.set i v) ls' := by
  refine ⟨h.1, h.2.1, fun j w hj hw => ?_⟩
  by_cases hij : j = i
  · subst hij
    have hl : j < L.length := by
      have := (List.getElem?_eq_some_iff.mp hj).1
      simpa using this
    rw [List.getElem?_set_self hl] at hj
    cases hj
    exact h.2.2 (j, x_v G v) List.mem_cons_self
  · rw [List.getElem?_set_ne (Ne.symm hij)] at hj
    refine h.2.2 (j, x_v G w) (List.mem_cons_of_mem _ (List.mem_filter.mpr ⟨(x_prs_mem L 0).mpr ⟨w, Nat.zero_le _, by simpa using hj, hw, rfl⟩, ?_⟩))
    simp only [x_v_cat, Bool.and_eq_true, Bool.not_eq_true', beq_eq_false_iff_ne, ne_eq, hij, not_false_eq_true, true_and, Bool.and_eq_false_iff]
    by_cases h2 : j + 1 = i
    · right
      simpa using hp j w h2.symm hj
    · left
      simpa using h2
/-- a store of a value of two words -/
theorem x_L.set2 {n i : Nat} {v : Value} {ls' : Array Slot} (hp : ∀ j w, i = j + 1 → L[j]? = some w → w.category ≠ 2)
    (h : lv_has ls' n ((i, x_v G v) :: (x_prs G 0 L).filter (fun q => !(q.1 == i) && (!(q.1 == i + 1) && !(q.1 + 1 == i && q.2.category == 2))))) : x_L G n ((L.set i v).set (i + 1) .null) ls' := by
  refine ⟨h.1, h.2.1, fun j w hj hw => ?_⟩
  by_cases hi1 : j = i + 1
  · subst hi1
    have hl : i + 1 < (L.set i v).length := by
      have := (List.getElem?_eq_some_iff.mp hj).1
      simpa using this
    rw [List.getElem?_set_self hl] at hj
    cases hj
    exact absurd rfl hw
  · rw [List.getElem?_set_ne (Ne.symm hi1)] at hj
    by_cases hij : j = i
    · subst hij
      have hl : j < L.length := by
        have := (List.getElem?_eq_some_iff.mp hj).1
        simpa using this
      rw [List.getElem?_set_self hl] at hj
      cases hj
      exact h.2.2 (j, x_v G v) List.mem_cons_self
    · rw [List.getElem?_set_ne (Ne.symm hij)] at hj
      refine h.2.2 (j, x_v G w) (List.mem_cons_of_mem _ (List.mem_filter.mpr ⟨(x_prs_mem L 0).mpr ⟨w, Nat.zero_le _, by simpa using hj, hw, rfl⟩, ?_⟩))
      simp only [x_v_cat, Bool.and_eq_true, Bool.not_eq_true', beq_eq_false_iff_ne, ne_eq, hij, hi1, not_false_eq_true, true_and, Bool.and_eq_false_iff]
      by_cases h2 : j + 1 = i
      · right
        simpa using hp j w h2.symm hj
      · left
        simpa using h2
/-- what is known of a place may be forgotten -/
theorem x_L.sub {n : Nat} {L' : List Value} {ls : Array Slot} (hL : x_L G n L ls) (hs : ∀ (i : Nat) (v : Value), L'[i]? = some v → v = .null ∨ L[i]? = some v) : x_L G n L' ls :=
  ⟨hL.1, hL.2.1, fun i v hi hv => (hs i v hi).elim (fun e => absurd e hv) (fun e => hL.2.2 i v e hv)⟩
def x_sub : List Value → List Value → Prop
  | [], _ => True
  | a :: l, [] => False
  | a :: l, b :: m => (a = .null ∨ a = b) ∧ x_sub l m
theorem x_sub_at : ∀ (L' L : List Value), x_sub L' L → ∀ (i : Nat) (v : Value), L'[i]? = some v → v = .null ∨ L[i]? = some v
  | [], _, _, i, v, h => by simp at h
  | a :: l, [], h, _, _, _ => h.elim
  | a :: l, b :: m, h, 0, v, hv => by
    rw [List.getElem?_cons_zero] at hv
    cases hv
    rcases h.1 with e | e
    · exact Or.inl e
    · right; rw [e]; rfl
  | a :: l, b :: m, h, i + 1, v, hv => by
    rw [List.getElem?_cons_succ] at hv ⊢
    exact x_sub_at l m h.2 i v hv
theorem Ax_L {L' : List Value} (hs : x_sub L' L) (k : Ax G M d b pc L' st h Q) : Ax G M d b pc L st h Q := by
  intro p e R s m args below meth c H locs cells slots ls Z C hR hL hl hc hs' hend
  exact k p e R s m args below meth c H locs cells slots ls Z C hR (hL.sub (x_sub_at _ _ hs)) hl hc hs' hend
theorem Ax_sto1 {pc' i : Nat} {v : Value}
    (hg : ∀ (p : Program) (e : Env) (R : Room) (s : State) (m : MethodId) (args : Array Value) (below : List Frame) (meth : Method) (c : Code) (H : Heap) (locs : List Loc) (cells slots : Nat) (ls : Array Slot) (Z : State → Prop) (lv : List (Nat × Value)), x_Ctx G M d p R s m args meth c → x_L G M.2.2.2.1 L ls → lv_has ls M.2.2.2.1 lv →
      (∀ ls' : Array Slot, lv_has ls' M.2.2.2.1 ((i, x_v G v) :: lv.filter (fun q => !(q.1 == i) && !(q.1 + 1 == i && q.2.category == 2))) → W p G.1 e R s m args below meth c H locs cells slots Z (F0 m pc' ls' (st.map (x_v G)))) →
      W p G.1 e R s m args below meth c H locs cells slots Z (F0 m pc ls ((v :: st).map (x_v G))))
    (hp : ∀ j w, i = j + 1 → L[j]? = some w → w.category ≠ 2) (k : Ax G M d b pc' (L.set i v) st h Q) : Ax G M d b pc L (v :: st) h Q := by
  intro p e R s m args below meth c H locs cells slots ls Z C hR hL hl hc hs hend
  exact hg p e R s m args below meth c H locs cells slots ls Z _ C hL hL.has (fun ls' h' => k p e R s m args below meth c H locs cells slots ls' Z C hR (x_L.set1 hp h') hl hc hs hend)
theorem Ax_sto2 {pc' i : Nat} {v : Value}
    (hg : ∀ (p : Program) (e : Env) (R : Room) (s : State) (m : MethodId) (args : Array Value) (below : List Frame) (meth : Method) (c : Code) (H : Heap) (locs : List Loc) (cells slots : Nat) (ls : Array Slot) (Z : State → Prop) (lv : List (Nat × Value)), x_Ctx G M d p R s m args meth c → x_L G M.2.2.2.1 L ls → lv_has ls M.2.2.2.1 lv →
      (∀ ls' : Array Slot, lv_has ls' M.2.2.2.1 ((i, x_v G v) :: lv.filter (fun q => !(q.1 == i) && (!(q.1 == i + 1) && !(q.1 + 1 == i && q.2.category == 2)))) → W p G.1 e R s m args below meth c H locs cells slots Z (F0 m pc' ls' (st.map (x_v G)))) →
      W p G.1 e R s m args below meth c H locs cells slots Z (F0 m pc ls ((v :: st).map (x_v G))))
    (hp : ∀ j w, i = j + 1 → L[j]? = some w → w.category ≠ 2) (k : Ax G M d b pc' ((L.set i v).set (i + 1) .null) st h Q) : Ax G M d b pc L (v :: st) h Q := by
  intro p e R s m args below meth c H locs cells slots ls Z C hR hL hl hc hs hend
  exact hg p e R s m args below meth c H locs cells slots ls Z _ C hL hL.has (fun ls' h' => k p e R s m args below meth c H locs cells slots ls' Z C hR (x_L.set2 hp h') hl hc hs hend)
theorem Ax_inc {i : Nat} {n : Int} {x v : Int32} (hd : decode M.2.2.1 pc = .ok (.iinc i n, 3)) (hn : i < M.2.2.2.1) (hi : L[i]? = some (.int x)) (hv : x + Int32.ofInt n = v) (hp : ∀ j w, i = j + 1 → L[j]? = some w → w.category ≠ 2)
    (k : Ax G M d b (pc + 3) (L.set i (.int v)) st h Q) : Ax G M d b pc L st h Q := by
  intro p e R s m args below meth c H locs cells slots ls Z C hR hL hl hc hs hend
  have hm : (i, Value.int x) ∈ x_prs G 0 L := (x_prs_mem L 0).mpr ⟨.int x, Nat.zero_le _, by simpa using hi, by simp, rfl⟩
  obtain ⟨k0, hk0⟩ := List.getElem?_of_mem hm
  exact lv_iinc C.1 C.2.1 hd hL.has hk0 hv hn rfl (fun ls' h' => k p e R s m args below meth c H locs cells slots ls' Z C hR (x_L.set1 (v := .int v) hp h') hl hc hs hend)
theorem Ax_iadd {x y : Int32} (hd : decode M.2.2.1 pc = .ok (.iadd, 1)) (k : Ax G M d b (pc + 1) L (.int (x + y) :: st) h Q) : Ax G M d b pc L (.int y :: .int x :: st) h Q :=
  Ax_go (fun p e R s m args below meth c H locs cells slots ls Z C hR hL K => lv_iadd C.1 C.2.1 hd K) k
theorem Ax_isub {x y : Int32} (hd : decode M.2.2.1 pc = .ok (.isub, 1)) (k : Ax G M d b (pc + 1) L (.int (x - y) :: st) h Q) : Ax G M d b pc L (.int y :: .int x :: st) h Q :=
  Ax_go (fun p e R s m args below meth c H locs cells slots ls Z C hR hL K => lv_isub C.1 C.2.1 hd K) k
theorem Ax_imul {x y : Int32} (hd : decode M.2.2.1 pc = .ok (.imul, 1)) (k : Ax G M d b (pc + 1) L (.int (x * y) :: st) h Q) : Ax G M d b pc L (.int y :: .int x :: st) h Q :=
  Ax_go (fun p e R s m args below meth c H locs cells slots ls Z C hR hL K => lv_imul C.1 C.2.1 hd K) k
theorem Ax_iand {x y : Int32} (hd : decode M.2.2.1 pc = .ok (.iand, 1)) (k : Ax G M d b (pc + 1) L (.int (x &&& y) :: st) h Q) : Ax G M d b pc L (.int y :: .int x :: st) h Q :=
  Ax_go (fun p e R s m args below meth c H locs cells slots ls Z C hR hL K => lv_iand C.1 C.2.1 hd K) k
theorem Ax_ior {x y : Int32} (hd : decode M.2.2.1 pc = .ok (.ior, 1)) (k : Ax G M d b (pc + 1) L (.int (x ||| y) :: st) h Q) : Ax G M d b pc L (.int y :: .int x :: st) h Q :=
  Ax_go (fun p e R s m args below meth c H locs cells slots ls Z C hR hL K => lv_ior C.1 C.2.1 hd K) k
theorem Ax_idiv {x y : Int32} (hd : decode M.2.2.1 pc = .ok (.idiv, 1)) (hne : ¬ y = 0) (k : Ax G M d b (pc + 1) L (.int (x / y) :: st) h Q) : Ax G M d b pc L (.int y :: .int x :: st) h Q :=
  Ax_go (fun p e R s m args below meth c H locs cells slots ls Z C hR hL K => lv_idiv C.1 C.2.1 hd hne K) k
theorem Ax_ladd {x y : Int64} (hd : decode M.2.2.1 pc = .ok (.ladd, 1)) (k : Ax G M d b (pc + 1) L (.long (x + y) :: st) h Q) : Ax G M d b pc L (.long y :: .long x :: st) h Q :=
  Ax_go (fun p e R s m args below meth c H locs cells slots ls Z C hR hL K => lv_ladd C.1 C.2.1 hd K) k
theorem Ax_lsub {x y : Int64} (hd : decode M.2.2.1 pc = .ok (.lsub, 1)) (k : Ax G M d b (pc + 1) L (.long (x - y) :: st) h Q) : Ax G M d b pc L (.long y :: .long x :: st) h Q :=
  Ax_go (fun p e R s m args below meth c H locs cells slots ls Z C hR hL K => lv_lsub C.1 C.2.1 hd K) k
theorem Ax_lmul {x y : Int64} (hd : decode M.2.2.1 pc = .ok (.lmul, 1)) (k : Ax G M d b (pc + 1) L (.long (x * y) :: st) h Q) : Ax G M d b pc L (.long y :: .long x :: st) h Q :=
  Ax_go (fun p e R s m args below meth c H locs cells slots ls Z C hR hL K => lv_lmul C.1 C.2.1 hd K) k
theorem Ax_land {x y : Int64} (hd : decode M.2.2.1 pc = .ok (.land, 1)) (k : Ax G M d b (pc + 1) L (.long (x &&& y) :: st) h Q) : Ax G M d b pc L (.long y :: .long x :: st) h Q :=
  Ax_go (fun p e R s m args below meth c H locs cells slots ls Z C hR hL K => lv_land C.1 C.2.1 hd K) k
theorem Ax_lor {x y : Int64} (hd : decode M.2.2.1 pc = .ok (.lor, 1)) (k : Ax G M d b (pc + 1) L (.long (x ||| y) :: st) h Q) : Ax G M d b pc L (.long y :: .long x :: st) h Q :=
  Ax_go (fun p e R s m args below meth c H locs cells slots ls Z C hR hL K => lv_lor C.1 C.2.1 hd K) k
theorem Ax_ldiv {x y : Int64} (hd : decode M.2.2.1 pc = .ok (.ldiv, 1)) (hne : ¬ y = 0) (k : Ax G M d b (pc + 1) L (.long (x / y) :: st) h Q) : Ax G M d b pc L (.long y :: .long x :: st) h Q :=
  Ax_go (fun p e R s m args below meth c H locs cells slots ls Z C hR hL K => lv_ldiv C.1 C.2.1 hd hne K) k
theorem Ax_lrem {x y : Int64} (hd : decode M.2.2.1 pc = .ok (.lrem, 1)) (hne : ¬ y = 0) (k : Ax G M d b (pc + 1) L (.long (x - x / y * y) :: st) h Q) : Ax G M d b pc L (.long y :: .long x :: st) h Q :=
  Ax_go (fun p e R s m args below meth c H locs cells slots ls Z C hR hL K => lv_lrem C.1 C.2.1 hd hne K) k
theorem Ax_lneg {x : Int64} (hd : decode M.2.2.1 pc = .ok (.lneg, 1)) (k : Ax G M d b (pc + 1) L (.long (-x) :: st) h Q) : Ax G M d b pc L (.long x :: st) h Q :=
  Ax_go (fun p e R s m args below meth c H locs cells slots ls Z C hR hL K => lv_lneg C.1 C.2.1 hd K) k
theorem Ax_ishl {x y : Int32} (hd : decode M.2.2.1 pc = .ok (.ishl, 1)) (k : Ax G M d b (pc + 1) L (.int (x <<< (y &&& 31)) :: st) h Q) : Ax G M d b pc L (.int y :: .int x :: st) h Q :=
  Ax_go (fun p e R s m args below meth c H locs cells slots ls Z C hR hL K => lv_ishl C.1 C.2.1 hd K) k
theorem Ax_ishr {x y : Int32} (hd : decode M.2.2.1 pc = .ok (.ishr, 1)) (k : Ax G M d b (pc + 1) L (.int (x >>> (y &&& 31)) :: st) h Q) : Ax G M d b pc L (.int y :: .int x :: st) h Q :=
  Ax_go (fun p e R s m args below meth c H locs cells slots ls Z C hR hL K => lv_ishr C.1 C.2.1 hd K) k
theorem Ax_iushr {x y : Int32} (hd : decode M.2.2.1 pc = .ok (.iushr, 1)) (k : Ax G M d b (pc + 1) L (.int ((x.toUInt32 >>> (y.toUInt32 &&& Int32.toUInt32 31)).toInt32) :: st) h Q) : Ax G M d b pc L (.int y :: .int x :: st) h Q :=
  Ax_go (fun p e R s m args below meth c H locs cells slots ls Z C hR hL K => lv_iushr C.1 C.2.1 hd rfl K) k
theorem Ax_lushr {x : Int64} {y : Int32} (hd : decode M.2.2.1 pc = .ok (.lushr, 1)) (k : Ax G M d b (pc + 1) L (.long ((x.toUInt64 >>> (y.toInt64.toUInt64 &&& Int64.toUInt64 63)).toInt64) :: st) h Q) : Ax G M d b pc L (.int y :: .long x :: st) h Q :=
  Ax_go (fun p e R s m args below meth c H locs cells slots ls Z C hR hL K => lv_lushr C.1 C.2.1 hd rfl K) k
theorem Ax_lshl {x : Int64} {y : Int32} (hd : decode M.2.2.1 pc = .ok (.lshl, 1)) (k : Ax G M d b (pc + 1) L (.long (x <<< (y.toInt64 &&& 63)) :: st) h Q) : Ax G M d b pc L (.int y :: .long x :: st) h Q :=
  Ax_go (fun p e R s m args below meth c H locs cells slots ls Z C hR hL K => lv_lshl C.1 C.2.1 hd rfl K) k
theorem Ax_lshr {x : Int64} {y : Int32} (hd : decode M.2.2.1 pc = .ok (.lshr, 1)) (k : Ax G M d b (pc + 1) L (.long (x >>> (y.toInt64 &&& 63)) :: st) h Q) : Ax G M d b pc L (.int y :: .long x :: st) h Q :=
  Ax_go (fun p e R s m args below meth c H locs cells slots ls Z C hR hL K => lv_lshr C.1 C.2.1 hd rfl K) k
theorem Ax_i2l {x : Int32} (hd : decode M.2.2.1 pc = .ok (.i2l, 1)) (k : Ax G M d b (pc + 1) L (.long x.toInt64 :: st) h Q) : Ax G M d b pc L (.int x :: st) h Q :=
  Ax_go (fun p e R s m args below meth c H locs cells slots ls Z C hR hL K => lv_i2l C.1 C.2.1 hd rfl K) k
theorem Ax_l2i {x : Int64} (hd : decode M.2.2.1 pc = .ok (.l2i, 1)) (k : Ax G M d b (pc + 1) L (.int x.toInt32 :: st) h Q) : Ax G M d b pc L (.long x :: st) h Q :=
  Ax_go (fun p e R s m args below meth c H locs cells slots ls Z C hR hL K => lv_l2i C.1 C.2.1 hd rfl K) k
theorem Ax_i2b {x : Int32} (hd : decode M.2.2.1 pc = .ok (.i2b, 1)) (k : Ax G M d b (pc + 1) L (.int x.toInt8.toInt32 :: st) h Q) : Ax G M d b pc L (.int x :: st) h Q :=
  Ax_go (fun p e R s m args below meth c H locs cells slots ls Z C hR hL K => lv_i2b C.1 C.2.1 hd rfl K) k
theorem Ax_i2c {x : Int32} (hd : decode M.2.2.1 pc = .ok (.i2c, 1)) (k : Ax G M d b (pc + 1) L (.int (x.toUInt32 % 65536).toInt32 :: st) h Q) : Ax G M d b pc L (.int x :: st) h Q :=
  Ax_go (fun p e R s m args below meth c H locs cells slots ls Z C hR hL K => lv_i2c C.1 C.2.1 hd rfl K) k
theorem Ax_lcmp {x y : Int64} (hd : decode M.2.2.1 pc = .ok (.lcmp, 1)) (k : Ax G M d b (pc + 1) L (.int (lg_cmp x y) :: st) h Q) : Ax G M d b pc L (.long y :: .long x :: st) h Q :=
  Ax_go (fun p e R s m args below meth c H locs cells slots ls Z C hR hL K => W.lcmp C.1 C.2.1 hd K) k
theorem Ax_dup {v : Value} (hd : decode M.2.2.1 pc = .ok (.dup, 1)) (hv : v.category = 1) (k : Ax G M d b (pc + 1) L (v :: v :: st) h Q) : Ax G M d b pc L (v :: st) h Q :=
  Ax_go (fun p e R s m args below meth c H locs cells slots ls Z C hR hL K => lv_dup C.1 C.2.1 hd (by rw [x_v_cat]; exact hv) K) k
theorem Ax_pop {v : Value} (hd : decode M.2.2.1 pc = .ok (.pop, 1)) (hv : v.category = 1) (k : Ax G M d b (pc + 1) L (st) h Q) : Ax G M d b pc L (v :: st) h Q :=
  Ax_go (fun p e R s m args below meth c H locs cells slots ls Z C hR hL K => lv_pop C.1 C.2.1 hd (by rw [x_v_cat]; exact hv) K) k
theorem Ax_dup_x1 {v w : Value} (hd : decode M.2.2.1 pc = .ok (.dup_x1, 1)) (hv : v.category = 1) (hw : w.category = 1) (k : Ax G M d b (pc + 1) L (v :: w :: v :: st) h Q) : Ax G M d b pc L (v :: w :: st) h Q :=
  Ax_go (fun p e R s m args below meth c H locs cells slots ls Z C hR hL K => lv_dup_x1 C.1 C.2.1 hd (by rw [x_v_cat]; exact hv) (by rw [x_v_cat]; exact hw) K) k
theorem Ax_dup2 {v w : Value} (hd : decode M.2.2.1 pc = .ok (.dup2, 1)) (hv : v.category = 1) (hw : w.category = 1) (k : Ax G M d b (pc + 1) L (v :: w :: v :: w :: st) h Q) : Ax G M d b pc L (v :: w :: st) h Q :=
  Ax_go (fun p e R s m args below meth c H locs cells slots ls Z C hR hL K => lv_dup2_11 C.1 C.2.1 hd (by rw [x_v_cat]; exact hv) (by rw [x_v_cat]; exact hw) K) k
theorem Ax_dup2L {v : Value} (hd : decode M.2.2.1 pc = .ok (.dup2, 1)) (hv : v.category = 2) (k : Ax G M d b (pc + 1) L (v :: v :: st) h Q) : Ax G M d b pc L (v :: st) h Q :=
  Ax_go (fun p e R s m args below meth c H locs cells slots ls Z C hR hL K => lv_dup2_2 C.1 C.2.1 hd (by rw [x_v_cat]; exact hv) K) k
theorem Ax_icm1 (hd : decode M.2.2.1 pc = .ok (.iconst (-1), 1)) (k : Ax G M d b (pc + 1) L (.int ((-1)) :: st) h Q) : Ax G M d b pc L (st) h Q :=
  Ax_go (fun p e R s m args below meth c H locs cells slots ls Z C hR hL K => lv_iconst C.1 C.2.1 hd (by decide) K) k
theorem Ax_ic0 (hd : decode M.2.2.1 pc = .ok (.iconst 0, 1)) (k : Ax G M d b (pc + 1) L (.int (nI 0) :: st) h Q) : Ax G M d b pc L (st) h Q :=
  Ax_go (fun p e R s m args below meth c H locs cells slots ls Z C hR hL K => lv_iconst C.1 C.2.1 hd (by decide) K) k
theorem Ax_ic1 (hd : decode M.2.2.1 pc = .ok (.iconst 1, 1)) (k : Ax G M d b (pc + 1) L (.int (nI 1) :: st) h Q) : Ax G M d b pc L (st) h Q :=
  Ax_go (fun p e R s m args below meth c H locs cells slots ls Z C hR hL K => lv_iconst C.1 C.2.1 hd (by decide) K) k
theorem Ax_ic2 (hd : decode M.2.2.1 pc = .ok (.iconst 2, 1)) (k : Ax G M d b (pc + 1) L (.int (nI 2) :: st) h Q) : Ax G M d b pc L (st) h Q :=
  Ax_go (fun p e R s m args below meth c H locs cells slots ls Z C hR hL K => lv_iconst C.1 C.2.1 hd (by decide) K) k
theorem Ax_ic3 (hd : decode M.2.2.1 pc = .ok (.iconst 3, 1)) (k : Ax G M d b (pc + 1) L (.int (nI 3) :: st) h Q) : Ax G M d b pc L (st) h Q :=
  Ax_go (fun p e R s m args below meth c H locs cells slots ls Z C hR hL K => lv_iconst C.1 C.2.1 hd (by decide) K) k
theorem Ax_ic4 (hd : decode M.2.2.1 pc = .ok (.iconst 4, 1)) (k : Ax G M d b (pc + 1) L (.int (nI 4) :: st) h Q) : Ax G M d b pc L (st) h Q :=
  Ax_go (fun p e R s m args below meth c H locs cells slots ls Z C hR hL K => lv_iconst C.1 C.2.1 hd (by decide) K) k
theorem Ax_ic5 (hd : decode M.2.2.1 pc = .ok (.iconst 5, 1)) (k : Ax G M d b (pc + 1) L (.int (nI 5) :: st) h Q) : Ax G M d b pc L (st) h Q :=
  Ax_go (fun p e R s m args below meth c H locs cells slots ls Z C hR hL K => lv_iconst C.1 C.2.1 hd (by decide) K) k
theorem Ax_lc0 (hd : decode M.2.2.1 pc = .ok (.lconst 0, 1)) (k : Ax G M d b (pc + 1) L (.long (lN 0) :: st) h Q) : Ax G M d b pc L (st) h Q :=
  Ax_go (fun p e R s m args below meth c H locs cells slots ls Z C hR hL K => lv_lconst C.1 C.2.1 hd (by decide) K) k
theorem Ax_lc1 (hd : decode M.2.2.1 pc = .ok (.lconst 1, 1)) (k : Ax G M d b (pc + 1) L (.long (lN 1) :: st) h Q) : Ax G M d b pc L (st) h Q :=
  Ax_go (fun p e R s m args below meth c H locs cells slots ls Z C hR hL K => lv_lconst C.1 C.2.1 hd (by decide) K) k
theorem Ax_bpm104 (hd : decode M.2.2.1 pc = .ok (.bipush (-104), 2)) (k : Ax G M d b (pc + 2) L (.int (-104) :: st) h Q) : Ax G M d b pc L (st) h Q :=
  Ax_go (fun p e R s m args below meth c H locs cells slots ls Z C hR hL K => lv_bipush C.1 C.2.1 hd (by decide) K) k
theorem Ax_bpm103 (hd : decode M.2.2.1 pc = .ok (.bipush (-103), 2)) (k : Ax G M d b (pc + 2) L (.int (-103) :: st) h Q) : Ax G M d b pc L (st) h Q :=
  Ax_go (fun p e R s m args below meth c H locs cells slots ls Z C hR hL K => lv_bipush C.1 C.2.1 hd (by decide) K) k
theorem Ax_bpm102 (hd : decode M.2.2.1 pc = .ok (.bipush (-102), 2)) (k : Ax G M d b (pc + 2) L (.int (-102) :: st) h Q) : Ax G M d b pc L (st) h Q :=
  Ax_go (fun p e R s m args below meth c H locs cells slots ls Z C hR hL K => lv_bipush C.1 C.2.1 hd (by decide) K) k
theorem Ax_bpm101 (hd : decode M.2.2.1 pc = .ok (.bipush (-101), 2)) (k : Ax G M d b (pc + 2) L (.int (-101) :: st) h Q) : Ax G M d b pc L (st) h Q :=
  Ax_go (fun p e R s m args below meth c H locs cells slots ls Z C hR hL K => lv_bipush C.1 C.2.1 hd (by decide) K) k
theorem Ax_bp8 (hd : decode M.2.2.1 pc = .ok (.bipush 8, 2)) (k : Ax G M d b (pc + 2) L (.int (nI 8) :: st) h Q) : Ax G M d b pc L (st) h Q :=
  Ax_go (fun p e R s m args below meth c H locs cells slots ls Z C hR hL K => lv_bipush C.1 C.2.1 hd (by decide) K) k
theorem Ax_bp10 (hd : decode M.2.2.1 pc = .ok (.bipush 10, 2)) (k : Ax G M d b (pc + 2) L (.int (nI 10) :: st) h Q) : Ax G M d b pc L (st) h Q :=
  Ax_go (fun p e R s m args below meth c H locs cells slots ls Z C hR hL K => lv_bipush C.1 C.2.1 hd (by decide) K) k
theorem Ax_bp15 (hd : decode M.2.2.1 pc = .ok (.bipush 15, 2)) (k : Ax G M d b (pc + 2) L (.int (nI 15) :: st) h Q) : Ax G M d b pc L (st) h Q :=
  Ax_go (fun p e R s m args below meth c H locs cells slots ls Z C hR hL K => lv_bipush C.1 C.2.1 hd (by decide) K) k
theorem Ax_bp16 (hd : decode M.2.2.1 pc = .ok (.bipush 16, 2)) (k : Ax G M d b (pc + 2) L (.int (nI 16) :: st) h Q) : Ax G M d b pc L (st) h Q :=
  Ax_go (fun p e R s m args below meth c H locs cells slots ls Z C hR hL K => lv_bipush C.1 C.2.1 hd (by decide) K) k
theorem Ax_bp24 (hd : decode M.2.2.1 pc = .ok (.bipush 24, 2)) (k : Ax G M d b (pc + 2) L (.int (nI 24) :: st) h Q) : Ax G M d b pc L (st) h Q :=
  Ax_go (fun p e R s m args below meth c H locs cells slots ls Z C hR hL K => lv_bipush C.1 C.2.1 hd (by decide) K) k
theorem Ax_bp25 (hd : decode M.2.2.1 pc = .ok (.bipush 25, 2)) (k : Ax G M d b (pc + 2) L (.int (nI 25) :: st) h Q) : Ax G M d b pc L (st) h Q :=
  Ax_go (fun p e R s m args below meth c H locs cells slots ls Z C hR hL K => lv_bipush C.1 C.2.1 hd (by decide) K) k
theorem Ax_bp31 (hd : decode M.2.2.1 pc = .ok (.bipush 31, 2)) (k : Ax G M d b (pc + 2) L (.int (nI 31) :: st) h Q) : Ax G M d b pc L (st) h Q :=
  Ax_go (fun p e R s m args below meth c H locs cells slots ls Z C hR hL K => lv_bipush C.1 C.2.1 hd (by decide) K) k
theorem Ax_bp32 (hd : decode M.2.2.1 pc = .ok (.bipush 32, 2)) (k : Ax G M d b (pc + 2) L (.int (nI 32) :: st) h Q) : Ax G M d b pc L (st) h Q :=
  Ax_go (fun p e R s m args below meth c H locs cells slots ls Z C hR hL K => lv_bipush C.1 C.2.1 hd (by decide) K) k
theorem Ax_bp40 (hd : decode M.2.2.1 pc = .ok (.bipush 40, 2)) (k : Ax G M d b (pc + 2) L (.int (nI 40) :: st) h Q) : Ax G M d b pc L (st) h Q :=
  Ax_go (fun p e R s m args below meth c H locs cells slots ls Z C hR hL K => lv_bipush C.1 C.2.1 hd (by decide) K) k
theorem Ax_bp45 (hd : decode M.2.2.1 pc = .ok (.bipush 45, 2)) (k : Ax G M d b (pc + 2) L (.int (nI 45) :: st) h Q) : Ax G M d b pc L (st) h Q :=
  Ax_go (fun p e R s m args below meth c H locs cells slots ls Z C hR hL K => lv_bipush C.1 C.2.1 hd (by decide) K) k
theorem Ax_bp48 (hd : decode M.2.2.1 pc = .ok (.bipush 48, 2)) (k : Ax G M d b (pc + 2) L (.int (nI 48) :: st) h Q) : Ax G M d b pc L (st) h Q :=
  Ax_go (fun p e R s m args below meth c H locs cells slots ls Z C hR hL K => lv_bipush C.1 C.2.1 hd (by decide) K) k
theorem Ax_bp60 (hd : decode M.2.2.1 pc = .ok (.bipush 60, 2)) (k : Ax G M d b (pc + 2) L (.int (nI 60) :: st) h Q) : Ax G M d b pc L (st) h Q :=
  Ax_go (fun p e R s m args below meth c H locs cells slots ls Z C hR hL K => lv_bipush C.1 C.2.1 hd (by decide) K) k
theorem Ax_bp63 (hd : decode M.2.2.1 pc = .ok (.bipush 63, 2)) (k : Ax G M d b (pc + 2) L (.int (nI 63) :: st) h Q) : Ax G M d b pc L (st) h Q :=
  Ax_go (fun p e R s m args below meth c H locs cells slots ls Z C hR hL K => lv_bipush C.1 C.2.1 hd (by decide) K) k
theorem Ax_bp64 (hd : decode M.2.2.1 pc = .ok (.bipush 64, 2)) (k : Ax G M d b (pc + 2) L (.int (nI 64) :: st) h Q) : Ax G M d b pc L (st) h Q :=
  Ax_go (fun p e R s m args below meth c H locs cells slots ls Z C hR hL K => lv_bipush C.1 C.2.1 hd (by decide) K) k
theorem Ax_bp65 (hd : decode M.2.2.1 pc = .ok (.bipush 65, 2)) (k : Ax G M d b (pc + 2) L (.int (nI 65) :: st) h Q) : Ax G M d b pc L (st) h Q :=
  Ax_go (fun p e R s m args below meth c H locs cells slots ls Z C hR hL K => lv_bipush C.1 C.2.1 hd (by decide) K) k
theorem Ax_bp66 (hd : decode M.2.2.1 pc = .ok (.bipush 66, 2)) (k : Ax G M d b (pc + 2) L (.int (nI 66) :: st) h Q) : Ax G M d b pc L (st) h Q :=
  Ax_go (fun p e R s m args below meth c H locs cells slots ls Z C hR hL K => lv_bipush C.1 C.2.1 hd (by decide) K) k
theorem Ax_bp68 (hd : decode M.2.2.1 pc = .ok (.bipush 68, 2)) (k : Ax G M d b (pc + 2) L (.int (nI 68) :: st) h Q) : Ax G M d b pc L (st) h Q :=
  Ax_go (fun p e R s m args below meth c H locs cells slots ls Z C hR hL K => lv_bipush C.1 C.2.1 hd (by decide) K) k
theorem Ax_bp69 (hd : decode M.2.2.1 pc = .ok (.bipush 69, 2)) (k : Ax G M d b (pc + 2) L (.int (nI 69) :: st) h Q) : Ax G M d b pc L (st) h Q :=
  Ax_go (fun p e R s m args below meth c H locs cells slots ls Z C hR hL K => lv_bipush C.1 C.2.1 hd (by decide) K) k
theorem Ax_bp73 (hd : decode M.2.2.1 pc = .ok (.bipush 73, 2)) (k : Ax G M d b (pc + 2) L (.int (nI 73) :: st) h Q) : Ax G M d b pc L (st) h Q :=
  Ax_go (fun p e R s m args below meth c H locs cells slots ls Z C hR hL K => lv_bipush C.1 C.2.1 hd (by decide) K) k
theorem Ax_bp76 (hd : decode M.2.2.1 pc = .ok (.bipush 76, 2)) (k : Ax G M d b (pc + 2) L (.int (nI 76) :: st) h Q) : Ax G M d b pc L (st) h Q :=
  Ax_go (fun p e R s m args below meth c H locs cells slots ls Z C hR hL K => lv_bipush C.1 C.2.1 hd (by decide) K) k
theorem Ax_bp77 (hd : decode M.2.2.1 pc = .ok (.bipush 77, 2)) (k : Ax G M d b (pc + 2) L (.int (nI 77) :: st) h Q) : Ax G M d b pc L (st) h Q :=
  Ax_go (fun p e R s m args below meth c H locs cells slots ls Z C hR hL K => lv_bipush C.1 C.2.1 hd (by decide) K) k
theorem Ax_bp78 (hd : decode M.2.2.1 pc = .ok (.bipush 78, 2)) (k : Ax G M d b (pc + 2) L (.int (nI 78) :: st) h Q) : Ax G M d b pc L (st) h Q :=
  Ax_go (fun p e R s m args below meth c H locs cells slots ls Z C hR hL K => lv_bipush C.1 C.2.1 hd (by decide) K) k
theorem Ax_bp79 (hd : decode M.2.2.1 pc = .ok (.bipush 79, 2)) (k : Ax G M d b (pc + 2) L (.int (nI 79) :: st) h Q) : Ax G M d b pc L (st) h Q :=
  Ax_go (fun p e R s m args below meth c H locs cells slots ls Z C hR hL K => lv_bipush C.1 C.2.1 hd (by decide) K) k
theorem Ax_bp82 (hd : decode M.2.2.1 pc = .ok (.bipush 82, 2)) (k : Ax G M d b (pc + 2) L (.int (nI 82) :: st) h Q) : Ax G M d b pc L (st) h Q :=
  Ax_go (fun p e R s m args below meth c H locs cells slots ls Z C hR hL K => lv_bipush C.1 C.2.1 hd (by decide) K) k
theorem Ax_bp83 (hd : decode M.2.2.1 pc = .ok (.bipush 83, 2)) (k : Ax G M d b (pc + 2) L (.int (nI 83) :: st) h Q) : Ax G M d b pc L (st) h Q :=
  Ax_go (fun p e R s m args below meth c H locs cells slots ls Z C hR hL K => lv_bipush C.1 C.2.1 hd (by decide) K) k
theorem Ax_bp84 (hd : decode M.2.2.1 pc = .ok (.bipush 84, 2)) (k : Ax G M d b (pc + 2) L (.int (nI 84) :: st) h Q) : Ax G M d b pc L (st) h Q :=
  Ax_go (fun p e R s m args below meth c H locs cells slots ls Z C hR hL K => lv_bipush C.1 C.2.1 hd (by decide) K) k
theorem Ax_bp100 (hd : decode M.2.2.1 pc = .ok (.bipush 100, 2)) (k : Ax G M d b (pc + 2) L (.int (nI 100) :: st) h Q) : Ax G M d b pc L (st) h Q :=
  Ax_go (fun p e R s m args below meth c H locs cells slots ls Z C hR hL K => lv_bipush C.1 C.2.1 hd (by decide) K) k
theorem Ax_sp255 (hd : decode M.2.2.1 pc = .ok (.sipush 255, 3)) (k : Ax G M d b (pc + 3) L (.int (nI 255) :: st) h Q) : Ax G M d b pc L (st) h Q :=
  Ax_go (fun p e R s m args below meth c H locs cells slots ls Z C hR hL K => lv_sipush C.1 C.2.1 hd (by decide) K) k
theorem Ax_sp256 (hd : decode M.2.2.1 pc = .ok (.sipush 256, 3)) (k : Ax G M d b (pc + 3) L (.int (nI 256) :: st) h Q) : Ax G M d b pc L (st) h Q :=
  Ax_go (fun p e R s m args below meth c H locs cells slots ls Z C hR hL K => lv_sipush C.1 C.2.1 hd (by decide) K) k
theorem Ax_sp400 (hd : decode M.2.2.1 pc = .ok (.sipush 400, 3)) (k : Ax G M d b (pc + 3) L (.int (nI 400) :: st) h Q) : Ax G M d b pc L (st) h Q :=
  Ax_go (fun p e R s m args below meth c H locs cells slots ls Z C hR hL K => lv_sipush C.1 C.2.1 hd (by decide) K) k
theorem Ax_sp576 (hd : decode M.2.2.1 pc = .ok (.sipush 576, 3)) (k : Ax G M d b (pc + 3) L (.int (nI 576) :: st) h Q) : Ax G M d b pc L (st) h Q :=
  Ax_go (fun p e R s m args below meth c H locs cells slots ls Z C hR hL K => lv_sipush C.1 C.2.1 hd (by decide) K) k
theorem Ax_sp1000 (hd : decode M.2.2.1 pc = .ok (.sipush 1000, 3)) (k : Ax G M d b (pc + 3) L (.int (nI 1000) :: st) h Q) : Ax G M d b pc L (st) h Q :=
  Ax_go (fun p e R s m args below meth c H locs cells slots ls Z C hR hL K => lv_sipush C.1 C.2.1 hd (by decide) K) k
theorem Ax_sp3072 (hd : decode M.2.2.1 pc = .ok (.sipush 3072, 3)) (k : Ax G M d b (pc + 3) L (.int (nI 3072) :: st) h Q) : Ax G M d b pc L (st) h Q :=
  Ax_go (fun p e R s m args below meth c H locs cells slots ls Z C hR hL K => lv_sipush C.1 C.2.1 hd (by decide) K) k
theorem Ax_ldc {i : Nat} {v : Int32} (hd : decode M.2.2.1 pc = .ok (.ldc i, 2)) (hc : Cond.constant M.1 i v ∈ lw_good) (k : Ax G M d b (pc + 2) L (.int v :: st) h Q) : Ax G M d b pc L (st) h Q :=
  Ax_go (fun p e R s m args below meth c H locs cells slots ls Z C hR hL K => W.ldc C.1 C.2.1 C.2.2.2.2.2.2.1 (C.2.2.2.2.2.2.2.1 _ hc) rfl hd K) k
theorem Ax_ldcw {i : Nat} {v : Int32} (hd : decode M.2.2.1 pc = .ok (.ldc_w i, 3)) (hc : Cond.constant M.1 i v ∈ lw_good) (k : Ax G M d b (pc + 3) L (.int v :: st) h Q) : Ax G M d b pc L (st) h Q :=
  Ax_go (fun p e R s m args below meth c H locs cells slots ls Z C hR hL K => lv_ldcw C.1 C.2.1 C.2.2.2.2.2.2.1 (C.2.2.2.2.2.2.2.1 _ hc) hd K) k
theorem Ax_ldc2 {i : Nat} {v : Int64} (hd : decode M.2.2.1 pc = .ok (.ldc2_w i, 3)) (hc : Cond.constantLong M.1 i v ∈ lw_good) (k : Ax G M d b (pc + 3) L (.long v :: st) h Q) : Ax G M d b pc L (st) h Q :=
  Ax_go (fun p e R s m args below meth c H locs cells slots ls Z C hR hL K => W.ldc2 C.1 C.2.1 C.2.2.2.2.2.2.1 (C.2.2.2.2.2.2.2.1 _ hc) rfl hd K) k
theorem Ax_goto {off : Int} {tgt : Nat} (hd : decode M.2.2.1 pc = .ok (.goto off, 3)) (ht : (pc : Int) + off = (tgt : Int)) (k : Ax G M d b tgt L st h Q) : Ax G M d b pc L st h Q :=
  Ax_go (fun p e R s m args below meth c H locs cells slots ls Z C hR hL K => lv_goto C.1 C.2.1 hd ht K) k
theorem Ax_tabO {dflt lo hi : Int} {offs : Array Int} {len : Nat} {x : Int32} {tgt : Nat} (hd : decode M.2.2.1 pc = .ok (.tableswitch dflt lo hi offs, len)) (hx : x.toInt < lo ∨ hi < x.toInt) (ht : (pc : Int) + dflt = (tgt : Int)) (k : Ax G M d b tgt L st h Q) : Ax G M d b pc L (.int x :: st) h Q :=
  Ax_go (fun p e R s m args below meth c H locs cells slots ls Z C hR hL K => lv_tableOut C.1 C.2.1 hd hx ht K) k
theorem Ax_tabI {dflt lo hi : Int} {offs : Array Int} {len : Nat} {x : Int32} {off : Int} {tgt : Nat} (hd : decode M.2.2.1 pc = .ok (.tableswitch dflt lo hi offs, len)) (h1 : ¬ x.toInt < lo) (h2 : ¬ hi < x.toInt) (ho : offs[(x.toInt - lo).toNat]? = some off) (ht : (pc : Int) + off = (tgt : Int)) (k : Ax G M d b tgt L st h Q) : Ax G M d b pc L (.int x :: st) h Q :=
  Ax_go (fun p e R s m args below meth c H locs cells slots ls Z C hR hL K => lv_tableIn C.1 C.2.1 hd h1 h2 ho ht K) k
theorem Ax_ifeq {x : Int32} {off : Int} {tgt : Nat} (hd : decode M.2.2.1 pc = .ok (.ifCond .eq off, 3)) (ht : (pc : Int) + off = (tgt : Int)) (kt : x = 0 → Ax G M d b tgt L st h Q) (kf : ¬ x = 0 → Ax G M d b (pc + 3) L st h Q) : Ax G M d b pc L (.int x :: st) h Q := by
  intro p e R s m args below meth c H locs cells slots ls Z C hR hL hl hc hs hend
  exact lv_if_eq C.1 C.2.1 hd ht (fun q => kt q p e R s m args below meth c H locs cells slots ls Z C hR hL hl hc hs hend) (fun q => kf q p e R s m args below meth c H locs cells slots ls Z C hR hL hl hc hs hend)
theorem Ax_cmpeq {x y : Int32} {off : Int} {tgt : Nat} (hd : decode M.2.2.1 pc = .ok (.if_icmp .eq off, 3)) (ht : (pc : Int) + off = (tgt : Int)) (kt : x = y → Ax G M d b tgt L st h Q) (kf : ¬ x = y → Ax G M d b (pc + 3) L st h Q) : Ax G M d b pc L (.int y :: .int x :: st) h Q := by
  intro p e R s m args below meth c H locs cells slots ls Z C hR hL hl hc hs hend
  exact lv_icmp_eq C.1 C.2.1 hd ht (fun q => kt q p e R s m args below meth c H locs cells slots ls Z C hR hL hl hc hs hend) (fun q => kf q p e R s m args below meth c H locs cells slots ls Z C hR hL hl hc hs hend)
theorem Ax_ifne {x : Int32} {off : Int} {tgt : Nat} (hd : decode M.2.2.1 pc = .ok (.ifCond .ne off, 3)) (ht : (pc : Int) + off = (tgt : Int)) (kt : ¬ x = 0 → Ax G M d b tgt L st h Q) (kf : x = 0 → Ax G M d b (pc + 3) L st h Q) : Ax G M d b pc L (.int x :: st) h Q := by
  intro p e R s m args below meth c H locs cells slots ls Z C hR hL hl hc hs hend
  exact lv_if_ne C.1 C.2.1 hd ht (fun q => kt q p e R s m args below meth c H locs cells slots ls Z C hR hL hl hc hs hend) (fun q => kf q p e R s m args below meth c H locs cells slots ls Z C hR hL hl hc hs hend)
theorem Ax_cmpne {x y : Int32} {off : Int} {tgt : Nat} (hd : decode M.2.2.1 pc = .ok (.if_icmp .ne off, 3)) (ht : (pc : Int) + off = (tgt : Int)) (kt : ¬ x = y → Ax G M d b tgt L st h Q) (kf : x = y → Ax G M d b (pc + 3) L st h Q) : Ax G M d b pc L (.int y :: .int x :: st) h Q := by
  intro p e R s m args below meth c H locs cells slots ls Z C hR hL hl hc hs hend
  exact lv_icmp_ne C.1 C.2.1 hd ht (fun q => kt q p e R s m args below meth c H locs cells slots ls Z C hR hL hl hc hs hend) (fun q => kf q p e R s m args below meth c H locs cells slots ls Z C hR hL hl hc hs hend)
theorem Ax_iflt {x : Int32} {off : Int} {tgt : Nat} (hd : decode M.2.2.1 pc = .ok (.ifCond .lt off, 3)) (ht : (pc : Int) + off = (tgt : Int)) (kt : x < 0 → Ax G M d b tgt L st h Q) (kf : ¬ x < 0 → Ax G M d b (pc + 3) L st h Q) : Ax G M d b pc L (.int x :: st) h Q := by
  intro p e R s m args below meth c H locs cells slots ls Z C hR hL hl hc hs hend
  exact lv_if_lt C.1 C.2.1 hd ht (fun q => kt q p e R s m args below meth c H locs cells slots ls Z C hR hL hl hc hs hend) (fun q => kf q p e R s m args below meth c H locs cells slots ls Z C hR hL hl hc hs hend)
theorem Ax_cmplt {x y : Int32} {off : Int} {tgt : Nat} (hd : decode M.2.2.1 pc = .ok (.if_icmp .lt off, 3)) (ht : (pc : Int) + off = (tgt : Int)) (kt : x < y → Ax G M d b tgt L st h Q) (kf : ¬ x < y → Ax G M d b (pc + 3) L st h Q) : Ax G M d b pc L (.int y :: .int x :: st) h Q := by
  intro p e R s m args below meth c H locs cells slots ls Z C hR hL hl hc hs hend
  exact lv_icmp_lt C.1 C.2.1 hd ht (fun q => kt q p e R s m args below meth c H locs cells slots ls Z C hR hL hl hc hs hend) (fun q => kf q p e R s m args below meth c H locs cells slots ls Z C hR hL hl hc hs hend)
theorem Ax_ifge {x : Int32} {off : Int} {tgt : Nat} (hd : decode M.2.2.1 pc = .ok (.ifCond .ge off, 3)) (ht : (pc : Int) + off = (tgt : Int)) (kt : 0 ≤ x → Ax G M d b tgt L st h Q) (kf : ¬ 0 ≤ x → Ax G M d b (pc + 3) L st h Q) : Ax G M d b pc L (.int x :: st) h Q := by
  intro p e R s m args below meth c H locs cells slots ls Z C hR hL hl hc hs hend
  exact lv_if_ge C.1 C.2.1 hd ht (fun q => kt q p e R s m args below meth c H locs cells slots ls Z C hR hL hl hc hs hend) (fun q => kf q p e R s m args below meth c H locs cells slots ls Z C hR hL hl hc hs hend)
theorem Ax_cmpge {x y : Int32} {off : Int} {tgt : Nat} (hd : decode M.2.2.1 pc = .ok (.if_icmp .ge off, 3)) (ht : (pc : Int) + off = (tgt : Int)) (kt : y ≤ x → Ax G M d b tgt L st h Q) (kf : ¬ y ≤ x → Ax G M d b (pc + 3) L st h Q) : Ax G M d b pc L (.int y :: .int x :: st) h Q := by
  intro p e R s m args below meth c H locs cells slots ls Z C hR hL hl hc hs hend
  exact lv_icmp_ge C.1 C.2.1 hd ht (fun q => kt q p e R s m args below meth c H locs cells slots ls Z C hR hL hl hc hs hend) (fun q => kf q p e R s m args below meth c H locs cells slots ls Z C hR hL hl hc hs hend)
theorem Ax_ifgt {x : Int32} {off : Int} {tgt : Nat} (hd : decode M.2.2.1 pc = .ok (.ifCond .gt off, 3)) (ht : (pc : Int) + off = (tgt : Int)) (kt : 0 < x → Ax G M d b tgt L st h Q) (kf : ¬ 0 < x → Ax G M d b (pc + 3) L st h Q) : Ax G M d b pc L (.int x :: st) h Q := by
  intro p e R s m args below meth c H locs cells slots ls Z C hR hL hl hc hs hend
  exact lv_if_gt C.1 C.2.1 hd ht (fun q => kt q p e R s m args below meth c H locs cells slots ls Z C hR hL hl hc hs hend) (fun q => kf q p e R s m args below meth c H locs cells slots ls Z C hR hL hl hc hs hend)
theorem Ax_cmpgt {x y : Int32} {off : Int} {tgt : Nat} (hd : decode M.2.2.1 pc = .ok (.if_icmp .gt off, 3)) (ht : (pc : Int) + off = (tgt : Int)) (kt : y < x → Ax G M d b tgt L st h Q) (kf : ¬ y < x → Ax G M d b (pc + 3) L st h Q) : Ax G M d b pc L (.int y :: .int x :: st) h Q := by
  intro p e R s m args below meth c H locs cells slots ls Z C hR hL hl hc hs hend
  exact lv_icmp_gt C.1 C.2.1 hd ht (fun q => kt q p e R s m args below meth c H locs cells slots ls Z C hR hL hl hc hs hend) (fun q => kf q p e R s m args below meth c H locs cells slots ls Z C hR hL hl hc hs hend)
theorem Ax_ifle {x : Int32} {off : Int} {tgt : Nat} (hd : decode M.2.2.1 pc = .ok (.ifCond .le off, 3)) (ht : (pc : Int) + off = (tgt : Int)) (kt : x ≤ 0 → Ax G M d b tgt L st h Q) (kf : ¬ x ≤ 0 → Ax G M d b (pc + 3) L st h Q) : Ax G M d b pc L (.int x :: st) h Q := by
  intro p e R s m args below meth c H locs cells slots ls Z C hR hL hl hc hs hend
  exact lv_if_le C.1 C.2.1 hd ht (fun q => kt q p e R s m args below meth c H locs cells slots ls Z C hR hL hl hc hs hend) (fun q => kf q p e R s m args below meth c H locs cells slots ls Z C hR hL hl hc hs hend)
theorem Ax_cmple {x y : Int32} {off : Int} {tgt : Nat} (hd : decode M.2.2.1 pc = .ok (.if_icmp .le off, 3)) (ht : (pc : Int) + off = (tgt : Int)) (kt : x ≤ y → Ax G M d b tgt L st h Q) (kf : ¬ x ≤ y → Ax G M d b (pc + 3) L st h Q) : Ax G M d b pc L (.int y :: .int x :: st) h Q := by
  intro p e R s m args below meth c H locs cells slots ls Z C hR hL hl hc hs hend
  exact lv_icmp_le C.1 C.2.1 hd ht (fun q => kt q p e R s m args below meth c H locs cells slots ls Z C hR hL hl hc hs hend) (fun q => kf q p e R s m args below meth c H locs cells slots ls Z C hR hL hl hc hs hend)
theorem Ax_il0 {t : List Value} {x : Int32} (hd : decode M.2.2.1 pc = .ok (.iload_n 0, 1)) (k : Ax G M d b (pc + 1) (.int x :: t) (.int x :: st) h Q) : Ax G M d b pc (.int x :: t) st h Q :=
  Ax_go (fun p e R s m args below meth c H locs cells slots ls Z C hR hL K => lv_iload_n C.1 C.2.1 hd rfl (hL.at (i := 0) rfl (by simp)) K) k
theorem Ax_il1 {a0 : Value} {t : List Value} {x : Int32} (hd : decode M.2.2.1 pc = .ok (.iload_n 1, 1)) (k : Ax G M d b (pc + 1) (a0 :: .int x :: t) (.int x :: st) h Q) : Ax G M d b pc (a0 :: .int x :: t) st h Q :=
  Ax_go (fun p e R s m args below meth c H locs cells slots ls Z C hR hL K => lv_iload_n C.1 C.2.1 hd rfl (hL.at (i := 1) rfl (by simp)) K) k
theorem Ax_il2 {a0 a1 : Value} {t : List Value} {x : Int32} (hd : decode M.2.2.1 pc = .ok (.iload_n 2, 1)) (k : Ax G M d b (pc + 1) (a0 :: a1 :: .int x :: t) (.int x :: st) h Q) : Ax G M d b pc (a0 :: a1 :: .int x :: t) st h Q :=
  Ax_go (fun p e R s m args below meth c H locs cells slots ls Z C hR hL K => lv_iload_n C.1 C.2.1 hd rfl (hL.at (i := 2) rfl (by simp)) K) k
theorem Ax_il3 {a0 a1 a2 : Value} {t : List Value} {x : Int32} (hd : decode M.2.2.1 pc = .ok (.iload_n 3, 1)) (k : Ax G M d b (pc + 1) (a0 :: a1 :: a2 :: .int x :: t) (.int x :: st) h Q) : Ax G M d b pc (a0 :: a1 :: a2 :: .int x :: t) st h Q :=
  Ax_go (fun p e R s m args below meth c H locs cells slots ls Z C hR hL K => lv_iload_n C.1 C.2.1 hd rfl (hL.at (i := 3) rfl (by simp)) K) k
theorem Ax_il4 {a0 a1 a2 a3 : Value} {t : List Value} {x : Int32} (hd : decode M.2.2.1 pc = .ok (.iload 4, 2)) (k : Ax G M d b (pc + 2) (a0 :: a1 :: a2 :: a3 :: .int x :: t) (.int x :: st) h Q) : Ax G M d b pc (a0 :: a1 :: a2 :: a3 :: .int x :: t) st h Q :=
  Ax_go (fun p e R s m args below meth c H locs cells slots ls Z C hR hL K => lv_iload C.1 C.2.1 hd (hL.at (i := 4) rfl (by simp)) K) k
theorem Ax_il5 {a0 a1 a2 a3 a4 : Value} {t : List Value} {x : Int32} (hd : decode M.2.2.1 pc = .ok (.iload 5, 2)) (k : Ax G M d b (pc + 2) (a0 :: a1 :: a2 :: a3 :: a4 :: .int x :: t) (.int x :: st) h Q) : Ax G M d b pc (a0 :: a1 :: a2 :: a3 :: a4 :: .int x :: t) st h Q :=
  Ax_go (fun p e R s m args below meth c H locs cells slots ls Z C hR hL K => lv_iload C.1 C.2.1 hd (hL.at (i := 5) rfl (by simp)) K) k
theorem Ax_il6 {a0 a1 a2 a3 a4 a5 : Value} {t : List Value} {x : Int32} (hd : decode M.2.2.1 pc = .ok (.iload 6, 2)) (k : Ax G M d b (pc + 2) (a0 :: a1 :: a2 :: a3 :: a4 :: a5 :: .int x :: t) (.int x :: st) h Q) : Ax G M d b pc (a0 :: a1 :: a2 :: a3 :: a4 :: a5 :: .int x :: t) st h Q :=
  Ax_go (fun p e R s m args below meth c H locs cells slots ls Z C hR hL K => lv_iload C.1 C.2.1 hd (hL.at (i := 6) rfl (by simp)) K) k
theorem Ax_il7 {a0 a1 a2 a3 a4 a5 a6 : Value} {t : List Value} {x : Int32} (hd : decode M.2.2.1 pc = .ok (.iload 7, 2)) (k : Ax G M d b (pc + 2) (a0 :: a1 :: a2 :: a3 :: a4 :: a5 :: a6 :: .int x :: t) (.int x :: st) h Q) : Ax G M d b pc (a0 :: a1 :: a2 :: a3 :: a4 :: a5 :: a6 :: .int x :: t) st h Q :=
  Ax_go (fun p e R s m args below meth c H locs cells slots ls Z C hR hL K => lv_iload C.1 C.2.1 hd (hL.at (i := 7) rfl (by simp)) K) k
theorem Ax_il8 {a0 a1 a2 a3 a4 a5 a6 a7 : Value} {t : List Value} {x : Int32} (hd : decode M.2.2.1 pc = .ok (.iload 8, 2)) (k : Ax G M d b (pc + 2) (a0 :: a1 :: a2 :: a3 :: a4 :: a5 :: a6 :: a7 :: .int x :: t) (.int x :: st) h Q) : Ax G M d b pc (a0 :: a1 :: a2 :: a3 :: a4 :: a5 :: a6 :: a7 :: .int x :: t) st h Q :=
  Ax_go (fun p e R s m args below meth c H locs cells slots ls Z C hR hL K => lv_iload C.1 C.2.1 hd (hL.at (i := 8) rfl (by simp)) K) k
theorem Ax_il9 {a0 a1 a2 a3 a4 a5 a6 a7 a8 : Value} {t : List Value} {x : Int32} (hd : decode M.2.2.1 pc = .ok (.iload 9, 2)) (k : Ax G M d b (pc + 2) (a0 :: a1 :: a2 :: a3 :: a4 :: a5 :: a6 :: a7 :: a8 :: .int x :: t) (.int x :: st) h Q) : Ax G M d b pc (a0 :: a1 :: a2 :: a3 :: a4 :: a5 :: a6 :: a7 :: a8 :: .int x :: t) st h Q :=
  Ax_go (fun p e R s m args below meth c H locs cells slots ls Z C hR hL K => lv_iload C.1 C.2.1 hd (hL.at (i := 9) rfl (by simp)) K) k
theorem Ax_il10 {a0 a1 a2 a3 a4 a5 a6 a7 a8 a9 : Value} {t : List Value} {x : Int32} (hd : decode M.2.2.1 pc = .ok (.iload 10, 2)) (k : Ax G M d b (pc + 2) (a0 :: a1 :: a2 :: a3 :: a4 :: a5 :: a6 :: a7 :: a8 :: a9 :: .int x :: t) (.int x :: st) h Q) : Ax G M d b pc (a0 :: a1 :: a2 :: a3 :: a4 :: a5 :: a6 :: a7 :: a8 :: a9 :: .int x :: t) st h Q :=
  Ax_go (fun p e R s m args below meth c H locs cells slots ls Z C hR hL K => lv_iload C.1 C.2.1 hd (hL.at (i := 10) rfl (by simp)) K) k
theorem Ax_is0 {t : List Value} {z0 : Value} {x : Int32} (hd : decode M.2.2.1 pc = .ok (.istore_n 0, 1)) (hn : 0 < M.2.2.2.1) (k : Ax G M d b (pc + 1) (.int x :: t) st h Q) : Ax G M d b pc (z0 :: t) (.int x :: st) h Q :=
  Ax_sto1 (i := 0) (fun p e R s m args below meth c H locs cells slots ls Z lv C hL hlv K => lv_istore_n C.1 C.2.1 hd rfl hlv hn rfl K) (fun j w e1 e2 => by omega) k
theorem Ax_is1 {a0 : Value} {t : List Value} {z0 : Value} {x : Int32} (hd : decode M.2.2.1 pc = .ok (.istore_n 1, 1)) (hn : 1 < M.2.2.2.1) (hp : a0.category = 1 := by rfl) (k : Ax G M d b (pc + 1) (a0 :: .int x :: t) st h Q) : Ax G M d b pc (a0 :: z0 :: t) (.int x :: st) h Q :=
  Ax_sto1 (i := 1) (fun p e R s m args below meth c H locs cells slots ls Z lv C hL hlv K => lv_istore_n C.1 C.2.1 hd rfl hlv hn rfl K) (fun j w e1 e2 => by (obtain rfl : j = 0 := by omega); cases e2; rw [hp]; decide) k
theorem Ax_is2 {a0 a1 : Value} {t : List Value} {z0 : Value} {x : Int32} (hd : decode M.2.2.1 pc = .ok (.istore_n 2, 1)) (hn : 2 < M.2.2.2.1) (hp : a1.category = 1 := by rfl) (k : Ax G M d b (pc + 1) (a0 :: a1 :: .int x :: t) st h Q) : Ax G M d b pc (a0 :: a1 :: z0 :: t) (.int x :: st) h Q :=
  Ax_sto1 (i := 2) (fun p e R s m args below meth c H locs cells slots ls Z lv C hL hlv K => lv_istore_n C.1 C.2.1 hd rfl hlv hn rfl K) (fun j w e1 e2 => by (obtain rfl : j = 1 := by omega); cases e2; rw [hp]; decide) k
theorem Ax_is3 {a0 a1 a2 : Value} {t : List Value} {z0 : Value} {x : Int32} (hd : decode M.2.2.1 pc = .ok (.istore_n 3, 1)) (hn : 3 < M.2.2.2.1) (hp : a2.category = 1 := by rfl) (k : Ax G M d b (pc + 1) (a0 :: a1 :: a2 :: .int x :: t) st h Q) : Ax G M d b pc (a0 :: a1 :: a2 :: z0 :: t) (.int x :: st) h Q :=
  Ax_sto1 (i := 3) (fun p e R s m args below meth c H locs cells slots ls Z lv C hL hlv K => lv_istore_n C.1 C.2.1 hd rfl hlv hn rfl K) (fun j w e1 e2 => by (obtain rfl : j = 2 := by omega); cases e2; rw [hp]; decide) k
theorem Ax_is4 {a0 a1 a2 a3 : Value} {t : List Value} {z0 : Value} {x : Int32} (hd : decode M.2.2.1 pc = .ok (.istore 4, 2)) (hn : 4 < M.2.2.2.1) (hp : a3.category = 1 := by rfl) (k : Ax G M d b (pc + 2) (a0 :: a1 :: a2 :: a3 :: .int x :: t) st h Q) : Ax G M d b pc (a0 :: a1 :: a2 :: a3 :: z0 :: t) (.int x :: st) h Q :=
  Ax_sto1 (i := 4) (fun p e R s m args below meth c H locs cells slots ls Z lv C hL hlv K => lv_istore C.1 C.2.1 hd hlv hn rfl K) (fun j w e1 e2 => by (obtain rfl : j = 3 := by omega); cases e2; rw [hp]; decide) k
theorem Ax_is5 {a0 a1 a2 a3 a4 : Value} {t : List Value} {z0 : Value} {x : Int32} (hd : decode M.2.2.1 pc = .ok (.istore 5, 2)) (hn : 5 < M.2.2.2.1) (hp : a4.category = 1 := by rfl) (k : Ax G M d b (pc + 2) (a0 :: a1 :: a2 :: a3 :: a4 :: .int x :: t) st h Q) : Ax G M d b pc (a0 :: a1 :: a2 :: a3 :: a4 :: z0 :: t) (.int x :: st) h Q :=
  Ax_sto1 (i := 5) (fun p e R s m args below meth c H locs cells slots ls Z lv C hL hlv K => lv_istore C.1 C.2.1 hd hlv hn rfl K) (fun j w e1 e2 => by (obtain rfl : j = 4 := by omega); cases e2; rw [hp]; decide) k
theorem Ax_is6 {a0 a1 a2 a3 a4 a5 : Value} {t : List Value} {z0 : Value} {x : Int32} (hd : decode M.2.2.1 pc = .ok (.istore 6, 2)) (hn : 6 < M.2.2.2.1) (hp : a5.category = 1 := by rfl) (k : Ax G M d b (pc + 2) (a0 :: a1 :: a2 :: a3 :: a4 :: a5 :: .int x :: t) st h Q) : Ax G M d b pc (a0 :: a1 :: a2 :: a3 :: a4 :: a5 :: z0 :: t) (.int x :: st) h Q :=
  Ax_sto1 (i := 6) (fun p e R s m args below meth c H locs cells slots ls Z lv C hL hlv K => lv_istore C.1 C.2.1 hd hlv hn rfl K) (fun j w e1 e2 => by (obtain rfl : j = 5 := by omega); cases e2; rw [hp]; decide) k
theorem Ax_is7 {a0 a1 a2 a3 a4 a5 a6 : Value} {t : List Value} {z0 : Value} {x : Int32} (hd : decode M.2.2.1 pc = .ok (.istore 7, 2)) (hn : 7 < M.2.2.2.1) (hp : a6.category = 1 := by rfl) (k : Ax G M d b (pc + 2) (a0 :: a1 :: a2 :: a3 :: a4 :: a5 :: a6 :: .int x :: t) st h Q) : Ax G M d b pc (a0 :: a1 :: a2 :: a3 :: a4 :: a5 :: a6 :: z0 :: t) (.int x :: st) h Q :=
  Ax_sto1 (i := 7) (fun p e R s m args below meth c H locs cells slots ls Z lv C hL hlv K => lv_istore C.1 C.2.1 hd hlv hn rfl K) (fun j w e1 e2 => by (obtain rfl : j = 6 := by omega); cases e2; rw [hp]; decide) k
theorem Ax_is8 {a0 a1 a2 a3 a4 a5 a6 a7 : Value} {t : List Value} {z0 : Value} {x : Int32} (hd : decode M.2.2.1 pc = .ok (.istore 8, 2)) (hn : 8 < M.2.2.2.1) (hp : a7.category = 1 := by rfl) (k : Ax G M d b (pc + 2) (a0 :: a1 :: a2 :: a3 :: a4 :: a5 :: a6 :: a7 :: .int x :: t) st h Q) : Ax G M d b pc (a0 :: a1 :: a2 :: a3 :: a4 :: a5 :: a6 :: a7 :: z0 :: t) (.int x :: st) h Q :=
  Ax_sto1 (i := 8) (fun p e R s m args below meth c H locs cells slots ls Z lv C hL hlv K => lv_istore C.1 C.2.1 hd hlv hn rfl K) (fun j w e1 e2 => by (obtain rfl : j = 7 := by omega); cases e2; rw [hp]; decide) k
theorem Ax_is9 {a0 a1 a2 a3 a4 a5 a6 a7 a8 : Value} {t : List Value} {z0 : Value} {x : Int32} (hd : decode M.2.2.1 pc = .ok (.istore 9, 2)) (hn : 9 < M.2.2.2.1) (hp : a8.category = 1 := by rfl) (k : Ax G M d b (pc + 2) (a0 :: a1 :: a2 :: a3 :: a4 :: a5 :: a6 :: a7 :: a8 :: .int x :: t) st h Q) : Ax G M d b pc (a0 :: a1 :: a2 :: a3 :: a4 :: a5 :: a6 :: a7 :: a8 :: z0 :: t) (.int x :: st) h Q :=
  Ax_sto1 (i := 9) (fun p e R s m args below meth c H locs cells slots ls Z lv C hL hlv K => lv_istore C.1 C.2.1 hd hlv hn rfl K) (fun j w e1 e2 => by (obtain rfl : j = 8 := by omega); cases e2; rw [hp]; decide) k
theorem Ax_is10 {a0 a1 a2 a3 a4 a5 a6 a7 a8 a9 : Value} {t : List Value} {z0 : Value} {x : Int32} (hd : decode M.2.2.1 pc = .ok (.istore 10, 2)) (hn : 10 < M.2.2.2.1) (hp : a9.category = 1 := by rfl) (k : Ax G M d b (pc + 2) (a0 :: a1 :: a2 :: a3 :: a4 :: a5 :: a6 :: a7 :: a8 :: a9 :: .int x :: t) st h Q) : Ax G M d b pc (a0 :: a1 :: a2 :: a3 :: a4 :: a5 :: a6 :: a7 :: a8 :: a9 :: z0 :: t) (.int x :: st) h Q :=
  Ax_sto1 (i := 10) (fun p e R s m args below meth c H locs cells slots ls Z lv C hL hlv K => lv_istore C.1 C.2.1 hd hlv hn rfl K) (fun j w e1 e2 => by (obtain rfl : j = 9 := by omega); cases e2; rw [hp]; decide) k
theorem Ax_ll0 {t : List Value} {x : Int64} (hd : decode M.2.2.1 pc = .ok (.lload_n 0, 1)) (k : Ax G M d b (pc + 1) (.long x :: t) (.long x :: st) h Q) : Ax G M d b pc (.long x :: t) st h Q :=
  Ax_go (fun p e R s m args below meth c H locs cells slots ls Z C hR hL K => lv_lload_n C.1 C.2.1 hd rfl (hL.at (i := 0) rfl (by simp)) K) k
theorem Ax_ll1 {a0 : Value} {t : List Value} {x : Int64} (hd : decode M.2.2.1 pc = .ok (.lload_n 1, 1)) (k : Ax G M d b (pc + 1) (a0 :: .long x :: t) (.long x :: st) h Q) : Ax G M d b pc (a0 :: .long x :: t) st h Q :=
  Ax_go (fun p e R s m args below meth c H locs cells slots ls Z C hR hL K => lv_lload_n C.1 C.2.1 hd rfl (hL.at (i := 1) rfl (by simp)) K) k
theorem Ax_ll2 {a0 a1 : Value} {t : List Value} {x : Int64} (hd : decode M.2.2.1 pc = .ok (.lload_n 2, 1)) (k : Ax G M d b (pc + 1) (a0 :: a1 :: .long x :: t) (.long x :: st) h Q) : Ax G M d b pc (a0 :: a1 :: .long x :: t) st h Q :=
  Ax_go (fun p e R s m args below meth c H locs cells slots ls Z C hR hL K => lv_lload_n C.1 C.2.1 hd rfl (hL.at (i := 2) rfl (by simp)) K) k
theorem Ax_ll3 {a0 a1 a2 : Value} {t : List Value} {x : Int64} (hd : decode M.2.2.1 pc = .ok (.lload_n 3, 1)) (k : Ax G M d b (pc + 1) (a0 :: a1 :: a2 :: .long x :: t) (.long x :: st) h Q) : Ax G M d b pc (a0 :: a1 :: a2 :: .long x :: t) st h Q :=
  Ax_go (fun p e R s m args below meth c H locs cells slots ls Z C hR hL K => lv_lload_n C.1 C.2.1 hd rfl (hL.at (i := 3) rfl (by simp)) K) k
theorem Ax_ll4 {a0 a1 a2 a3 : Value} {t : List Value} {x : Int64} (hd : decode M.2.2.1 pc = .ok (.lload 4, 2)) (k : Ax G M d b (pc + 2) (a0 :: a1 :: a2 :: a3 :: .long x :: t) (.long x :: st) h Q) : Ax G M d b pc (a0 :: a1 :: a2 :: a3 :: .long x :: t) st h Q :=
  Ax_go (fun p e R s m args below meth c H locs cells slots ls Z C hR hL K => lv_lload C.1 C.2.1 hd (hL.at (i := 4) rfl (by simp)) K) k
theorem Ax_ll5 {a0 a1 a2 a3 a4 : Value} {t : List Value} {x : Int64} (hd : decode M.2.2.1 pc = .ok (.lload 5, 2)) (k : Ax G M d b (pc + 2) (a0 :: a1 :: a2 :: a3 :: a4 :: .long x :: t) (.long x :: st) h Q) : Ax G M d b pc (a0 :: a1 :: a2 :: a3 :: a4 :: .long x :: t) st h Q :=
  Ax_go (fun p e R s m args below meth c H locs cells slots ls Z C hR hL K => lv_lload C.1 C.2.1 hd (hL.at (i := 5) rfl (by simp)) K) k
theorem Ax_ll6 {a0 a1 a2 a3 a4 a5 : Value} {t : List Value} {x : Int64} (hd : decode M.2.2.1 pc = .ok (.lload 6, 2)) (k : Ax G M d b (pc + 2) (a0 :: a1 :: a2 :: a3 :: a4 :: a5 :: .long x :: t) (.long x :: st) h Q) : Ax G M d b pc (a0 :: a1 :: a2 :: a3 :: a4 :: a5 :: .long x :: t) st h Q :=
  Ax_go (fun p e R s m args below meth c H locs cells slots ls Z C hR hL K => lv_lload C.1 C.2.1 hd (hL.at (i := 6) rfl (by simp)) K) k
theorem Ax_ll7 {a0 a1 a2 a3 a4 a5 a6 : Value} {t : List Value} {x : Int64} (hd : decode M.2.2.1 pc = .ok (.lload 7, 2)) (k : Ax G M d b (pc + 2) (a0 :: a1 :: a2 :: a3 :: a4 :: a5 :: a6 :: .long x :: t) (.long x :: st) h Q) : Ax G M d b pc (a0 :: a1 :: a2 :: a3 :: a4 :: a5 :: a6 :: .long x :: t) st h Q :=
  Ax_go (fun p e R s m args below meth c H locs cells slots ls Z C hR hL K => lv_lload C.1 C.2.1 hd (hL.at (i := 7) rfl (by simp)) K) k
theorem Ax_ll9 {a0 a1 a2 a3 a4 a5 a6 a7 a8 : Value} {t : List Value} {x : Int64} (hd : decode M.2.2.1 pc = .ok (.lload 9, 2)) (k : Ax G M d b (pc + 2) (a0 :: a1 :: a2 :: a3 :: a4 :: a5 :: a6 :: a7 :: a8 :: .long x :: t) (.long x :: st) h Q) : Ax G M d b pc (a0 :: a1 :: a2 :: a3 :: a4 :: a5 :: a6 :: a7 :: a8 :: .long x :: t) st h Q :=
  Ax_go (fun p e R s m args below meth c H locs cells slots ls Z C hR hL K => lv_lload C.1 C.2.1 hd (hL.at (i := 9) rfl (by simp)) K) k
theorem Ax_ll11 {a0 a1 a2 a3 a4 a5 a6 a7 a8 a9 a10 : Value} {t : List Value} {x : Int64} (hd : decode M.2.2.1 pc = .ok (.lload 11, 2)) (k : Ax G M d b (pc + 2) (a0 :: a1 :: a2 :: a3 :: a4 :: a5 :: a6 :: a7 :: a8 :: a9 :: a10 :: .long x :: t) (.long x :: st) h Q) : Ax G M d b pc (a0 :: a1 :: a2 :: a3 :: a4 :: a5 :: a6 :: a7 :: a8 :: a9 :: a10 :: .long x :: t) st h Q :=
  Ax_go (fun p e R s m args below meth c H locs cells slots ls Z C hR hL K => lv_lload C.1 C.2.1 hd (hL.at (i := 11) rfl (by simp)) K) k
theorem Ax_ls1 {a0 : Value} {t : List Value} {z0 z1 : Value} {x : Int64} (hd : decode M.2.2.1 pc = .ok (.lstore_n 1, 1)) (hn : 1 + 1 < M.2.2.2.1) (hp : a0.category = 1 := by rfl) (k : Ax G M d b (pc + 1) (a0 :: .long x :: .null :: t) st h Q) : Ax G M d b pc (a0 :: z0 :: z1 :: t) (.long x :: st) h Q :=
  Ax_sto2 (i := 1) (fun p e R s m args below meth c H locs cells slots ls Z lv C hL hlv K => lv_lstore_n C.1 C.2.1 hd rfl hlv hn rfl K) (fun j w e1 e2 => by (obtain rfl : j = 0 := by omega); cases e2; rw [hp]; decide) k
theorem Ax_ls2 {a0 a1 : Value} {t : List Value} {z0 z1 : Value} {x : Int64} (hd : decode M.2.2.1 pc = .ok (.lstore_n 2, 1)) (hn : 2 + 1 < M.2.2.2.1) (hp : a1.category = 1 := by rfl) (k : Ax G M d b (pc + 1) (a0 :: a1 :: .long x :: .null :: t) st h Q) : Ax G M d b pc (a0 :: a1 :: z0 :: z1 :: t) (.long x :: st) h Q :=
  Ax_sto2 (i := 2) (fun p e R s m args below meth c H locs cells slots ls Z lv C hL hlv K => lv_lstore_n C.1 C.2.1 hd rfl hlv hn rfl K) (fun j w e1 e2 => by (obtain rfl : j = 1 := by omega); cases e2; rw [hp]; decide) k
theorem Ax_ls3 {a0 a1 a2 : Value} {t : List Value} {z0 z1 : Value} {x : Int64} (hd : decode M.2.2.1 pc = .ok (.lstore_n 3, 1)) (hn : 3 + 1 < M.2.2.2.1) (hp : a2.category = 1 := by rfl) (k : Ax G M d b (pc + 1) (a0 :: a1 :: a2 :: .long x :: .null :: t) st h Q) : Ax G M d b pc (a0 :: a1 :: a2 :: z0 :: z1 :: t) (.long x :: st) h Q :=
  Ax_sto2 (i := 3) (fun p e R s m args below meth c H locs cells slots ls Z lv C hL hlv K => lv_lstore_n C.1 C.2.1 hd rfl hlv hn rfl K) (fun j w e1 e2 => by (obtain rfl : j = 2 := by omega); cases e2; rw [hp]; decide) k
theorem Ax_ls4 {a0 a1 a2 a3 : Value} {t : List Value} {z0 z1 : Value} {x : Int64} (hd : decode M.2.2.1 pc = .ok (.lstore 4, 2)) (hn : 4 + 1 < M.2.2.2.1) (hp : a3.category = 1 := by rfl) (k : Ax G M d b (pc + 2) (a0 :: a1 :: a2 :: a3 :: .long x :: .null :: t) st h Q) : Ax G M d b pc (a0 :: a1 :: a2 :: a3 :: z0 :: z1 :: t) (.long x :: st) h Q :=
  Ax_sto2 (i := 4) (fun p e R s m args below meth c H locs cells slots ls Z lv C hL hlv K => lv_lstore C.1 C.2.1 hd hlv hn rfl K) (fun j w e1 e2 => by (obtain rfl : j = 3 := by omega); cases e2; rw [hp]; decide) k
theorem Ax_ls5 {a0 a1 a2 a3 a4 : Value} {t : List Value} {z0 z1 : Value} {x : Int64} (hd : decode M.2.2.1 pc = .ok (.lstore 5, 2)) (hn : 5 + 1 < M.2.2.2.1) (hp : a4.category = 1 := by rfl) (k : Ax G M d b (pc + 2) (a0 :: a1 :: a2 :: a3 :: a4 :: .long x :: .null :: t) st h Q) : Ax G M d b pc (a0 :: a1 :: a2 :: a3 :: a4 :: z0 :: z1 :: t) (.long x :: st) h Q :=
  Ax_sto2 (i := 5) (fun p e R s m args below meth c H locs cells slots ls Z lv C hL hlv K => lv_lstore C.1 C.2.1 hd hlv hn rfl K) (fun j w e1 e2 => by (obtain rfl : j = 4 := by omega); cases e2; rw [hp]; decide) k
theorem Ax_ls6 {a0 a1 a2 a3 a4 a5 : Value} {t : List Value} {z0 z1 : Value} {x : Int64} (hd : decode M.2.2.1 pc = .ok (.lstore 6, 2)) (hn : 6 + 1 < M.2.2.2.1) (hp : a5.category = 1 := by rfl) (k : Ax G M d b (pc + 2) (a0 :: a1 :: a2 :: a3 :: a4 :: a5 :: .long x :: .null :: t) st h Q) : Ax G M d b pc (a0 :: a1 :: a2 :: a3 :: a4 :: a5 :: z0 :: z1 :: t) (.long x :: st) h Q :=
  Ax_sto2 (i := 6) (fun p e R s m args below meth c H locs cells slots ls Z lv C hL hlv K => lv_lstore C.1 C.2.1 hd hlv hn rfl K) (fun j w e1 e2 => by (obtain rfl : j = 5 := by omega); cases e2; rw [hp]; decide) k
theorem Ax_ls7 {a0 a1 a2 a3 a4 a5 a6 : Value} {t : List Value} {z0 z1 : Value} {x : Int64} (hd : decode M.2.2.1 pc = .ok (.lstore 7, 2)) (hn : 7 + 1 < M.2.2.2.1) (hp : a6.category = 1 := by rfl) (k : Ax G M d b (pc + 2) (a0 :: a1 :: a2 :: a3 :: a4 :: a5 :: a6 :: .long x :: .null :: t) st h Q) : Ax G M d b pc (a0 :: a1 :: a2 :: a3 :: a4 :: a5 :: a6 :: z0 :: z1 :: t) (.long x :: st) h Q :=
  Ax_sto2 (i := 7) (fun p e R s m args below meth c H locs cells slots ls Z lv C hL hlv K => lv_lstore C.1 C.2.1 hd hlv hn rfl K) (fun j w e1 e2 => by (obtain rfl : j = 6 := by omega); cases e2; rw [hp]; decide) k
theorem Ax_ls9 {a0 a1 a2 a3 a4 a5 a6 a7 a8 : Value} {t : List Value} {z0 z1 : Value} {x : Int64} (hd : decode M.2.2.1 pc = .ok (.lstore 9, 2)) (hn : 9 + 1 < M.2.2.2.1) (hp : a8.category = 1 := by rfl) (k : Ax G M d b (pc + 2) (a0 :: a1 :: a2 :: a3 :: a4 :: a5 :: a6 :: a7 :: a8 :: .long x :: .null :: t) st h Q) : Ax G M d b pc (a0 :: a1 :: a2 :: a3 :: a4 :: a5 :: a6 :: a7 :: a8 :: z0 :: z1 :: t) (.long x :: st) h Q :=
  Ax_sto2 (i := 9) (fun p e R s m args below meth c H locs cells slots ls Z lv C hL hlv K => lv_lstore C.1 C.2.1 hd hlv hn rfl K) (fun j w e1 e2 => by (obtain rfl : j = 8 := by omega); cases e2; rw [hp]; decide) k
theorem Ax_ls11 {a0 a1 a2 a3 a4 a5 a6 a7 a8 a9 a10 : Value} {t : List Value} {z0 z1 : Value} {x : Int64} (hd : decode M.2.2.1 pc = .ok (.lstore 11, 2)) (hn : 11 + 1 < M.2.2.2.1) (hp : a10.category = 1 := by rfl) (k : Ax G M d b (pc + 2) (a0 :: a1 :: a2 :: a3 :: a4 :: a5 :: a6 :: a7 :: a8 :: a9 :: a10 :: .long x :: .null :: t) st h Q) : Ax G M d b pc (a0 :: a1 :: a2 :: a3 :: a4 :: a5 :: a6 :: a7 :: a8 :: a9 :: a10 :: z0 :: z1 :: t) (.long x :: st) h Q :=
  Ax_sto2 (i := 11) (fun p e R s m args below meth c H locs cells slots ls Z lv C hL hlv K => lv_lstore C.1 C.2.1 hd hlv hn rfl K) (fun j w e1 e2 => by (obtain rfl : j = 10 := by omega); cases e2; rw [hp]; decide) k
theorem Ax_al0 {t : List Value} {x : Nat} (hd : decode M.2.2.1 pc = .ok (.aload_n 0, 1)) (k : Ax G M d b (pc + 1) (.ref x :: t) (.ref x :: st) h Q) : Ax G M d b pc (.ref x :: t) st h Q :=
  Ax_go (fun p e R s m args below meth c H locs cells slots ls Z C hR hL K => lv_aload_n C.1 C.2.1 hd rfl (hL.at (i := 0) rfl (by simp)) K) k
theorem Ax_al1 {a0 : Value} {t : List Value} {x : Nat} (hd : decode M.2.2.1 pc = .ok (.aload_n 1, 1)) (k : Ax G M d b (pc + 1) (a0 :: .ref x :: t) (.ref x :: st) h Q) : Ax G M d b pc (a0 :: .ref x :: t) st h Q :=
  Ax_go (fun p e R s m args below meth c H locs cells slots ls Z C hR hL K => lv_aload_n C.1 C.2.1 hd rfl (hL.at (i := 1) rfl (by simp)) K) k
theorem Ax_al2 {a0 a1 : Value} {t : List Value} {x : Nat} (hd : decode M.2.2.1 pc = .ok (.aload_n 2, 1)) (k : Ax G M d b (pc + 1) (a0 :: a1 :: .ref x :: t) (.ref x :: st) h Q) : Ax G M d b pc (a0 :: a1 :: .ref x :: t) st h Q :=
  Ax_go (fun p e R s m args below meth c H locs cells slots ls Z C hR hL K => lv_aload_n C.1 C.2.1 hd rfl (hL.at (i := 2) rfl (by simp)) K) k
theorem Ax_al3 {a0 a1 a2 : Value} {t : List Value} {x : Nat} (hd : decode M.2.2.1 pc = .ok (.aload_n 3, 1)) (k : Ax G M d b (pc + 1) (a0 :: a1 :: a2 :: .ref x :: t) (.ref x :: st) h Q) : Ax G M d b pc (a0 :: a1 :: a2 :: .ref x :: t) st h Q :=
  Ax_go (fun p e R s m args below meth c H locs cells slots ls Z C hR hL K => lv_aload_n C.1 C.2.1 hd rfl (hL.at (i := 3) rfl (by simp)) K) k
theorem Ax_as1 {a0 : Value} {t : List Value} {z0 : Value} {x : Nat} (hd : decode M.2.2.1 pc = .ok (.astore_n 1, 1)) (hn : 1 < M.2.2.2.1) (hp : a0.category = 1 := by rfl) (k : Ax G M d b (pc + 1) (a0 :: .ref x :: t) st h Q) : Ax G M d b pc (a0 :: z0 :: t) (.ref x :: st) h Q :=
  Ax_sto1 (i := 1) (fun p e R s m args below meth c H locs cells slots ls Z lv C hL hlv K => lv_astore_n C.1 C.2.1 hd rfl hlv hn rfl K) (fun j w e1 e2 => by (obtain rfl : j = 0 := by omega); cases e2; rw [hp]; decide) k
theorem Ax_as2 {a0 a1 : Value} {t : List Value} {z0 : Value} {x : Nat} (hd : decode M.2.2.1 pc = .ok (.astore_n 2, 1)) (hn : 2 < M.2.2.2.1) (hp : a1.category = 1 := by rfl) (k : Ax G M d b (pc + 1) (a0 :: a1 :: .ref x :: t) st h Q) : Ax G M d b pc (a0 :: a1 :: z0 :: t) (.ref x :: st) h Q :=
  Ax_sto1 (i := 2) (fun p e R s m args below meth c H locs cells slots ls Z lv C hL hlv K => lv_astore_n C.1 C.2.1 hd rfl hlv hn rfl K) (fun j w e1 e2 => by (obtain rfl : j = 1 := by omega); cases e2; rw [hp]; decide) k
theorem Ax_inc1_m1 {a0 : Value} {t : List Value} {x : Int32} (hd : decode M.2.2.1 pc = .ok (.iinc 1 (-1), 3)) (hn : 1 < M.2.2.2.1) (hp : a0.category = 1 := by rfl) (k : Ax G M d b (pc + 3) (a0 :: .int (x + (-1)) :: t) st h Q) : Ax G M d b pc (a0 :: .int x :: t) st h Q :=
  Ax_inc (i := 1) (x := x) (n := (-1)) hd hn rfl (by rfl) (fun j w e1 e2 => by (obtain rfl : j = 0 := by omega); cases e2; rw [hp]; decide) k
theorem Ax_inc1_m1n {a0 : Value} {t : List Value} {x : Nat} (hd : decode M.2.2.1 pc = .ok (.iinc 1 (-1), 3)) (hn : 1 < M.2.2.2.1) (hp : a0.category = 1 := by rfl) (k : Ax G M d b (pc + 3) (a0 :: .int (nI x) :: t) st h Q) : Ax G M d b pc (a0 :: .int (nI (x + 1)) :: t) st h Q :=
  Ax_inc1_m1 hd hn hp (by rw [pk_m1]; exact k)
theorem Ax_inc1_1 {a0 : Value} {t : List Value} {x : Int32} (hd : decode M.2.2.1 pc = .ok (.iinc 1 1, 3)) (hn : 1 < M.2.2.2.1) (hp : a0.category = 1 := by rfl) (k : Ax G M d b (pc + 3) (a0 :: .int (x + 1) :: t) st h Q) : Ax G M d b pc (a0 :: .int x :: t) st h Q :=
  Ax_inc (i := 1) (x := x) (n := 1) hd hn rfl (by rfl) (fun j w e1 e2 => by (obtain rfl : j = 0 := by omega); cases e2; rw [hp]; decide) k
theorem Ax_inc1_1n {a0 : Value} {t : List Value} {x : Nat} (hd : decode M.2.2.1 pc = .ok (.iinc 1 1, 3)) (hn : 1 < M.2.2.2.1) (hp : a0.category = 1 := by rfl) (k : Ax G M d b (pc + 3) (a0 :: .int (nI (x + 1)) :: t) st h Q) : Ax G M d b pc (a0 :: .int (nI x) :: t) st h Q :=
  Ax_inc1_1 hd hn hp (by rw [nI_1]; exact k)
theorem Ax_inc2_m1 {a0 a1 : Value} {t : List Value} {x : Int32} (hd : decode M.2.2.1 pc = .ok (.iinc 2 (-1), 3)) (hn : 2 < M.2.2.2.1) (hp : a1.category = 1 := by rfl) (k : Ax G M d b (pc + 3) (a0 :: a1 :: .int (x + (-1)) :: t) st h Q) : Ax G M d b pc (a0 :: a1 :: .int x :: t) st h Q :=
  Ax_inc (i := 2) (x := x) (n := (-1)) hd hn rfl (by rfl) (fun j w e1 e2 => by (obtain rfl : j = 1 := by omega); cases e2; rw [hp]; decide) k
theorem Ax_inc2_m1n {a0 a1 : Value} {t : List Value} {x : Nat} (hd : decode M.2.2.1 pc = .ok (.iinc 2 (-1), 3)) (hn : 2 < M.2.2.2.1) (hp : a1.category = 1 := by rfl) (k : Ax G M d b (pc + 3) (a0 :: a1 :: .int (nI x) :: t) st h Q) : Ax G M d b pc (a0 :: a1 :: .int (nI (x + 1)) :: t) st h Q :=
  Ax_inc2_m1 hd hn hp (by rw [pk_m1]; exact k)
theorem Ax_inc2_1 {a0 a1 : Value} {t : List Value} {x : Int32} (hd : decode M.2.2.1 pc = .ok (.iinc 2 1, 3)) (hn : 2 < M.2.2.2.1) (hp : a1.category = 1 := by rfl) (k : Ax G M d b (pc + 3) (a0 :: a1 :: .int (x + 1) :: t) st h Q) : Ax G M d b pc (a0 :: a1 :: .int x :: t) st h Q :=
  Ax_inc (i := 2) (x := x) (n := 1) hd hn rfl (by rfl) (fun j w e1 e2 => by (obtain rfl : j = 1 := by omega); cases e2; rw [hp]; decide) k
theorem Ax_inc2_1n {a0 a1 : Value} {t : List Value} {x : Nat} (hd : decode M.2.2.1 pc = .ok (.iinc 2 1, 3)) (hn : 2 < M.2.2.2.1) (hp : a1.category = 1 := by rfl) (k : Ax G M d b (pc + 3) (a0 :: a1 :: .int (nI (x + 1)) :: t) st h Q) : Ax G M d b pc (a0 :: a1 :: .int (nI x) :: t) st h Q :=
  Ax_inc2_1 hd hn hp (by rw [nI_1]; exact k)
theorem Ax_inc3_m4 {a0 a1 a2 : Value} {t : List Value} {x : Int32} (hd : decode M.2.2.1 pc = .ok (.iinc 3 (-4), 3)) (hn : 3 < M.2.2.2.1) (hp : a2.category = 1 := by rfl) (k : Ax G M d b (pc + 3) (a0 :: a1 :: a2 :: .int (x + (-4)) :: t) st h Q) : Ax G M d b pc (a0 :: a1 :: a2 :: .int x :: t) st h Q :=
  Ax_inc (i := 3) (x := x) (n := (-4)) hd hn rfl (by rfl) (fun j w e1 e2 => by (obtain rfl : j = 2 := by omega); cases e2; rw [hp]; decide) k
theorem Ax_inc3_1 {a0 a1 a2 : Value} {t : List Value} {x : Int32} (hd : decode M.2.2.1 pc = .ok (.iinc 3 1, 3)) (hn : 3 < M.2.2.2.1) (hp : a2.category = 1 := by rfl) (k : Ax G M d b (pc + 3) (a0 :: a1 :: a2 :: .int (x + 1) :: t) st h Q) : Ax G M d b pc (a0 :: a1 :: a2 :: .int x :: t) st h Q :=
  Ax_inc (i := 3) (x := x) (n := 1) hd hn rfl (by rfl) (fun j w e1 e2 => by (obtain rfl : j = 2 := by omega); cases e2; rw [hp]; decide) k
theorem Ax_inc3_1n {a0 a1 a2 : Value} {t : List Value} {x : Nat} (hd : decode M.2.2.1 pc = .ok (.iinc 3 1, 3)) (hn : 3 < M.2.2.2.1) (hp : a2.category = 1 := by rfl) (k : Ax G M d b (pc + 3) (a0 :: a1 :: a2 :: .int (nI (x + 1)) :: t) st h Q) : Ax G M d b pc (a0 :: a1 :: a2 :: .int (nI x) :: t) st h Q :=
  Ax_inc3_1 hd hn hp (by rw [nI_1]; exact k)
theorem Ax_inc3_5 {a0 a1 a2 : Value} {t : List Value} {x : Int32} (hd : decode M.2.2.1 pc = .ok (.iinc 3 5, 3)) (hn : 3 < M.2.2.2.1) (hp : a2.category = 1 := by rfl) (k : Ax G M d b (pc + 3) (a0 :: a1 :: a2 :: .int (x + 5) :: t) st h Q) : Ax G M d b pc (a0 :: a1 :: a2 :: .int x :: t) st h Q :=
  Ax_inc (i := 3) (x := x) (n := 5) hd hn rfl (by rfl) (fun j w e1 e2 => by (obtain rfl : j = 2 := by omega); cases e2; rw [hp]; decide) k
theorem Ax_inc4_1 {a0 a1 a2 a3 : Value} {t : List Value} {x : Int32} (hd : decode M.2.2.1 pc = .ok (.iinc 4 1, 3)) (hn : 4 < M.2.2.2.1) (hp : a3.category = 1 := by rfl) (k : Ax G M d b (pc + 3) (a0 :: a1 :: a2 :: a3 :: .int (x + 1) :: t) st h Q) : Ax G M d b pc (a0 :: a1 :: a2 :: a3 :: .int x :: t) st h Q :=
  Ax_inc (i := 4) (x := x) (n := 1) hd hn rfl (by rfl) (fun j w e1 e2 => by (obtain rfl : j = 3 := by omega); cases e2; rw [hp]; decide) k
theorem Ax_inc4_1n {a0 a1 a2 a3 : Value} {t : List Value} {x : Nat} (hd : decode M.2.2.1 pc = .ok (.iinc 4 1, 3)) (hn : 4 < M.2.2.2.1) (hp : a3.category = 1 := by rfl) (k : Ax G M d b (pc + 3) (a0 :: a1 :: a2 :: a3 :: .int (nI (x + 1)) :: t) st h Q) : Ax G M d b pc (a0 :: a1 :: a2 :: a3 :: .int (nI x) :: t) st h Q :=
  Ax_inc4_1 hd hn hp (by rw [nI_1]; exact k)
theorem Ax_inc5_1 {a0 a1 a2 a3 a4 : Value} {t : List Value} {x : Int32} (hd : decode M.2.2.1 pc = .ok (.iinc 5 1, 3)) (hn : 5 < M.2.2.2.1) (hp : a4.category = 1 := by rfl) (k : Ax G M d b (pc + 3) (a0 :: a1 :: a2 :: a3 :: a4 :: .int (x + 1) :: t) st h Q) : Ax G M d b pc (a0 :: a1 :: a2 :: a3 :: a4 :: .int x :: t) st h Q :=
  Ax_inc (i := 5) (x := x) (n := 1) hd hn rfl (by rfl) (fun j w e1 e2 => by (obtain rfl : j = 4 := by omega); cases e2; rw [hp]; decide) k
theorem Ax_inc5_1n {a0 a1 a2 a3 a4 : Value} {t : List Value} {x : Nat} (hd : decode M.2.2.1 pc = .ok (.iinc 5 1, 3)) (hn : 5 < M.2.2.2.1) (hp : a4.category = 1 := by rfl) (k : Ax G M d b (pc + 3) (a0 :: a1 :: a2 :: a3 :: a4 :: .int (nI (x + 1)) :: t) st h Q) : Ax G M d b pc (a0 :: a1 :: a2 :: a3 :: a4 :: .int (nI x) :: t) st h Q :=
  Ax_inc5_1 hd hn hp (by rw [nI_1]; exact k)
theorem Ax_inc6_1 {a0 a1 a2 a3 a4 a5 : Value} {t : List Value} {x : Int32} (hd : decode M.2.2.1 pc = .ok (.iinc 6 1, 3)) (hn : 6 < M.2.2.2.1) (hp : a5.category = 1 := by rfl) (k : Ax G M d b (pc + 3) (a0 :: a1 :: a2 :: a3 :: a4 :: a5 :: .int (x + 1) :: t) st h Q) : Ax G M d b pc (a0 :: a1 :: a2 :: a3 :: a4 :: a5 :: .int x :: t) st h Q :=
  Ax_inc (i := 6) (x := x) (n := 1) hd hn rfl (by rfl) (fun j w e1 e2 => by (obtain rfl : j = 5 := by omega); cases e2; rw [hp]; decide) k
theorem Ax_inc6_1n {a0 a1 a2 a3 a4 a5 : Value} {t : List Value} {x : Nat} (hd : decode M.2.2.1 pc = .ok (.iinc 6 1, 3)) (hn : 6 < M.2.2.2.1) (hp : a5.category = 1 := by rfl) (k : Ax G M d b (pc + 3) (a0 :: a1 :: a2 :: a3 :: a4 :: a5 :: .int (nI (x + 1)) :: t) st h Q) : Ax G M d b pc (a0 :: a1 :: a2 :: a3 :: a4 :: a5 :: .int (nI x) :: t) st h Q :=
  Ax_inc6_1 hd hn hp (by rw [nI_1]; exact k)
theorem Ax_inc7_1 {a0 a1 a2 a3 a4 a5 a6 : Value} {t : List Value} {x : Int32} (hd : decode M.2.2.1 pc = .ok (.iinc 7 1, 3)) (hn : 7 < M.2.2.2.1) (hp : a6.category = 1 := by rfl) (k : Ax G M d b (pc + 3) (a0 :: a1 :: a2 :: a3 :: a4 :: a5 :: a6 :: .int (x + 1) :: t) st h Q) : Ax G M d b pc (a0 :: a1 :: a2 :: a3 :: a4 :: a5 :: a6 :: .int x :: t) st h Q :=
  Ax_inc (i := 7) (x := x) (n := 1) hd hn rfl (by rfl) (fun j w e1 e2 => by (obtain rfl : j = 6 := by omega); cases e2; rw [hp]; decide) k
theorem Ax_inc7_1n {a0 a1 a2 a3 a4 a5 a6 : Value} {t : List Value} {x : Nat} (hd : decode M.2.2.1 pc = .ok (.iinc 7 1, 3)) (hn : 7 < M.2.2.2.1) (hp : a6.category = 1 := by rfl) (k : Ax G M d b (pc + 3) (a0 :: a1 :: a2 :: a3 :: a4 :: a5 :: a6 :: .int (nI (x + 1)) :: t) st h Q) : Ax G M d b pc (a0 :: a1 :: a2 :: a3 :: a4 :: a5 :: a6 :: .int (nI x) :: t) st h Q :=
  Ax_inc7_1 hd hn hp (by rw [nI_1]; exact k)
theorem Ax_inc8_1 {a0 a1 a2 a3 a4 a5 a6 a7 : Value} {t : List Value} {x : Int32} (hd : decode M.2.2.1 pc = .ok (.iinc 8 1, 3)) (hn : 8 < M.2.2.2.1) (hp : a7.category = 1 := by rfl) (k : Ax G M d b (pc + 3) (a0 :: a1 :: a2 :: a3 :: a4 :: a5 :: a6 :: a7 :: .int (x + 1) :: t) st h Q) : Ax G M d b pc (a0 :: a1 :: a2 :: a3 :: a4 :: a5 :: a6 :: a7 :: .int x :: t) st h Q :=
  Ax_inc (i := 8) (x := x) (n := 1) hd hn rfl (by rfl) (fun j w e1 e2 => by (obtain rfl : j = 7 := by omega); cases e2; rw [hp]; decide) k
theorem Ax_inc8_1n {a0 a1 a2 a3 a4 a5 a6 a7 : Value} {t : List Value} {x : Nat} (hd : decode M.2.2.1 pc = .ok (.iinc 8 1, 3)) (hn : 8 < M.2.2.2.1) (hp : a7.category = 1 := by rfl) (k : Ax G M d b (pc + 3) (a0 :: a1 :: a2 :: a3 :: a4 :: a5 :: a6 :: a7 :: .int (nI (x + 1)) :: t) st h Q) : Ax G M d b pc (a0 :: a1 :: a2 :: a3 :: a4 :: a5 :: a6 :: a7 :: .int (nI x) :: t) st h Q :=
  Ax_inc8_1 hd hn hp (by rw [nI_1]; exact k)
theorem Ax_inc9_1 {a0 a1 a2 a3 a4 a5 a6 a7 a8 : Value} {t : List Value} {x : Int32} (hd : decode M.2.2.1 pc = .ok (.iinc 9 1, 3)) (hn : 9 < M.2.2.2.1) (hp : a8.category = 1 := by rfl) (k : Ax G M d b (pc + 3) (a0 :: a1 :: a2 :: a3 :: a4 :: a5 :: a6 :: a7 :: a8 :: .int (x + 1) :: t) st h Q) : Ax G M d b pc (a0 :: a1 :: a2 :: a3 :: a4 :: a5 :: a6 :: a7 :: a8 :: .int x :: t) st h Q :=
  Ax_inc (i := 9) (x := x) (n := 1) hd hn rfl (by rfl) (fun j w e1 e2 => by (obtain rfl : j = 8 := by omega); cases e2; rw [hp]; decide) k
theorem Ax_inc9_1n {a0 a1 a2 a3 a4 a5 a6 a7 a8 : Value} {t : List Value} {x : Nat} (hd : decode M.2.2.1 pc = .ok (.iinc 9 1, 3)) (hn : 9 < M.2.2.2.1) (hp : a8.category = 1 := by rfl) (k : Ax G M d b (pc + 3) (a0 :: a1 :: a2 :: a3 :: a4 :: a5 :: a6 :: a7 :: a8 :: .int (nI (x + 1)) :: t) st h Q) : Ax G M d b pc (a0 :: a1 :: a2 :: a3 :: a4 :: a5 :: a6 :: a7 :: a8 :: .int (nI x) :: t) st h Q :=
  Ax_inc9_1 hd hn hp (by rw [nI_1]; exact k)
theorem Ax_inc10_1 {a0 a1 a2 a3 a4 a5 a6 a7 a8 a9 : Value} {t : List Value} {x : Int32} (hd : decode M.2.2.1 pc = .ok (.iinc 10 1, 3)) (hn : 10 < M.2.2.2.1) (hp : a9.category = 1 := by rfl) (k : Ax G M d b (pc + 3) (a0 :: a1 :: a2 :: a3 :: a4 :: a5 :: a6 :: a7 :: a8 :: a9 :: .int (x + 1) :: t) st h Q) : Ax G M d b pc (a0 :: a1 :: a2 :: a3 :: a4 :: a5 :: a6 :: a7 :: a8 :: a9 :: .int x :: t) st h Q :=
  Ax_inc (i := 10) (x := x) (n := 1) hd hn rfl (by rfl) (fun j w e1 e2 => by (obtain rfl : j = 9 := by omega); cases e2; rw [hp]; decide) k
theorem Ax_inc10_1n {a0 a1 a2 a3 a4 a5 a6 a7 a8 a9 : Value} {t : List Value} {x : Nat} (hd : decode M.2.2.1 pc = .ok (.iinc 10 1, 3)) (hn : 10 < M.2.2.2.1) (hp : a9.category = 1 := by rfl) (k : Ax G M d b (pc + 3) (a0 :: a1 :: a2 :: a3 :: a4 :: a5 :: a6 :: a7 :: a8 :: a9 :: .int (nI (x + 1)) :: t) st h Q) : Ax G M d b pc (a0 :: a1 :: a2 :: a3 :: a4 :: a5 :: a6 :: a7 :: a8 :: a9 :: .int (nI x) :: t) st h Q :=
  Ax_inc10_1 hd hn hp (by rw [nI_1]; exact k)
end
