/-! THE CLAIM OUT OF ONE WALK OF THE LAW'S BODY. Your part is whole_start (and what it stands on); all else here is the same for every law, but numbers. -/
def R_law : String := "ChoiceCodeLaw"
def lw_P (b : Addr) (xs : List Int32) (args : Array Value) (s : State) : Prop := args = #[.ref b] ∧ s.IntsAt b xs ∧ xs.length ≤ 2560 ∧ (Jvm.Cond.and given_1 narrow_1).before args s = true
def lw_Q (_ : Array Value) (s : State) (o : Outcome) (t : State) : Prop := o = .returned (some (.int 1)) ∧ Framed s o t [] 600000 7302250
def lw_Z (below : List Frame) (a : Array Value) (s : State) : State → Prop := fun t => ∃ o, t.status = .running ∧ Ended t below o ∧ lw_Q a s o t
/-- the law's own end, with 1 on the stack, nothing written that was there before, its room as the claim has it -/
theorem lw_ret {p : Program} {l : Launch} {e : Env} {s : State} {m : MethodId} {below : List Frame} {meth : Method} {c : Code} {b : Nat} (hx : p.tables.exec = Jvm.exec) (hb : c.code = code) (hr : meth.sig.returnType = ret) (hlocks : meth.locks = false) {pc : Nat} {H : Heap} {ls : Array Slot} (hdg : decode code pc = .ok (.ireturn, 1)) : W p l e room_1 s m #[Value.ref b] below meth c H [] 600000 7302250 (lw_Z below #[Value.ref b] s) (F0 m pc ls [.int 1]) := by
  intro T hT X
  obtain ⟨fs, hret, hrun, hended, hW, hframe⟩ := X.leave (v := some (.int 1)) (hlocks := hlocks) (fun h => by rw [hr] at h; cases h)
  have hmeth' : T.vm.method? m = some meth := X.method'
  refine ⟨T.setFrames fs, ?_, .returned (some (.int 1)), hrun, hended, rfl, ⟨_, rfl⟩, hW, hframe⟩
  jvm_step X.here [X.here.top, hx, hb, hdg, hmeth', hr, ret, narrow_b1]
  (try refine ⟨rfl, ?_⟩); (try refine ⟨rfl, ?_⟩)
  first | (intro acts; rw [hret _ acts rfl rfl rfl]) | rw [hret _ _ rfl rfl rfl]
  exact Steps.refl _
/-- what holds at the law's entry: the machine, the code, the tables' words (any of lw_tbl by 'hts w (by decide +kernel)'), the script of L ints xs at the cell b, what the Statement gives of the start (any of its parts by flat_of_before) -/
def lw_At (p : Program) (s : State) (m : MethodId) (meth : Method) (c : Code) (b L : Nat) (xs : Nat → Int32) : Prop :=
  p.tables.exec = Jvm.exec ∧ c.code = code ∧ meth.sig.returnType = ret ∧ c.maxLocals = 4 ∧ s.vm.findClass R_law = some m.cls ∧ (∀ w ∈ lw_tbl, w.before #[Value.ref b] s = true) ∧ va_X b L xs s s.heap ∧ b < s.heap.size ∧ meth.locks = false ∧ (Jvm.Cond.and given_1 narrow_1).before #[Value.ref b] s = true
theorem arr_of {args : Array Value} {s : State} {ty : FieldType} (h : (Cond.arrayClass ty).before args s = true) : ∃ cA, ArrOfT s cA ty ∧ s.vm.findClass ("[" ++ ty.toString) = some cA := by
  obtain ⟨cA, kA, comp, h1, h2, h3⟩ := Cond.arrayClass_spec h
  exact ⟨cA, fun n z => ⟨fun k h => (by cases h), kA, h2, comp, h3⟩, h1⟩
def txTm (i : Nat) : Term := .string RX1 (xsIx.getD i 0)
theorem tx_len : ∀ i, i < 8 → xsLen.getD i 0 < 2 ^ 31 := by decide
theorem tx_cls (b : Addr) {s : State} (hs : ∀ c ∈ flatC (Jvm.Cond.and given_1 narrow_1), c.before #[Value.ref b] s = true) :
    (∀ i, i < 8 → (Cond.exactly (txTm i) "java/lang/String").before #[Value.ref b] s = true) ∧ (∀ i, i < 8 → (Cond.eq (.field (txTm i) "java/lang/String" "coder" "B") (.int 0)).before #[Value.ref b] s = true) ∧ (∀ i, i < 8 → (Cond.arrayOf (.field (txTm i) "java/lang/String" "value" "[B") .byte).before #[Value.ref b] s = true) ∧ (∀ i, i < 8 → (Cond.eq (.length (.field (txTm i) "java/lang/String" "value" "[B")) (.int (Int32.ofNat (xsLen.getD i 0)))).before #[Value.ref b] s = true) := by
  have w1 : ∀ i, i < 8 → Cond.exactly (txTm i) "java/lang/String" ∈ flatC (Jvm.Cond.and given_1 narrow_1) := by decide +kernel
  have w2 : ∀ i, i < 8 → Cond.eq (.field (txTm i) "java/lang/String" "coder" "B") (.int 0) ∈ flatC (Jvm.Cond.and given_1 narrow_1) := by decide +kernel
  have w3 : ∀ i, i < 8 → Cond.arrayOf (.field (txTm i) "java/lang/String" "value" "[B") .byte ∈ flatC (Jvm.Cond.and given_1 narrow_1) := by decide +kernel
  have w4 : ∀ i, i < 8 → Cond.eq (.length (.field (txTm i) "java/lang/String" "value" "[B")) (.int (Int32.ofNat (xsLen.getD i 0))) ∈ flatC (Jvm.Cond.and given_1 narrow_1) := by decide +kernel
  exact ⟨fun i hi => hs _ (w1 i hi), fun i hi => hs _ (w2 i hi), fun i hi => hs _ (w3 i hi), fun i hi => hs _ (w4 i hi)⟩
theorem tx_elem (b : Addr) {s : State} (hs : ∀ c ∈ flatC (Jvm.Cond.and given_1 narrow_1), c.before #[Value.ref b] s = true) : ∀ i : Nat, i < 8 → ∀ j : Nat, j < xsLen.getD i 0 → (Cond.eq (.elem (.field (txTm i) "java/lang/String" "value" "[B") (.int (Int32.ofNat j))) (.int ((xsByt.getD i []).getD j 0))).before #[Value.ref b] s = true := by
  have w1 : ∀ i, i < 8 → ∀ j, j < xsLen.getD i 0 → Cond.eq (.elem (.field (txTm i) "java/lang/String" "value" "[B") (.int (Int32.ofNat j))) (.int ((xsByt.getD i []).getD j 0)) ∈ flatC (Jvm.Cond.and given_1 narrow_1) := by decide +kernel
  exact fun i hi j hj => hs _ (w1 i hi j hj)
theorem tx_ne (b : Addr) {s : State} (hs : ∀ c ∈ flatC (Jvm.Cond.and given_1 narrow_1), c.before #[Value.ref b] s = true) : ∀ i j : Nat, i < 8 → j < 8 → i ≠ j → (Cond.not (Cond.eq (txTm i) (txTm j))).before #[Value.ref b] s = true ∨ (Cond.not (Cond.eq (txTm j) (txTm i))).before #[Value.ref b] s = true := by
  have w1 : ∀ i, i < 8 → ∀ j, j < 8 → i ≠ j → Cond.not (Cond.eq (txTm i) (txTm j)) ∈ flatC (Jvm.Cond.and given_1 narrow_1) ∨ Cond.not (Cond.eq (txTm j) (txTm i)) ∈ flatC (Jvm.Cond.and given_1 narrow_1) := by decide +kernel
  exact fun i j hi hj hij => (w1 i hi j hj hij).imp (hs _) (hs _)
theorem t_in1 {w : Cond} (i : Nat) (h : tables_1_1[i]? = some w) : w ∈ lw_tbl := List.mem_append_right _ (List.mem_append_left _ (List.mem_of_getElem? h))
theorem t_in3 {w : Cond} (i : Nat) (h : tables_1_3[i]? = some w) : w ∈ lw_tbl := List.mem_append_right _ (List.mem_append_right _ (List.mem_append_right _ (List.mem_append_left _ (List.mem_of_getElem? h))))
set_option maxRecDepth 20000 in
theorem tx_r0 : Cond.stringRef RX1 (xsIx.getD 0 0) (xsTx.getD 0 "") ∈ lw_tbl := t_in3 163 rfl
set_option maxRecDepth 20000 in
theorem tx_r1 : Cond.stringRef RX1 (xsIx.getD 1 0) (xsTx.getD 1 "") ∈ lw_tbl := t_in3 164 rfl
set_option maxRecDepth 20000 in
theorem tx_r2 : Cond.stringRef RX1 (xsIx.getD 2 0) (xsTx.getD 2 "") ∈ lw_tbl := t_in3 165 rfl
set_option maxRecDepth 20000 in
theorem tx_r3 : Cond.stringRef RX1 (xsIx.getD 3 0) (xsTx.getD 3 "") ∈ lw_tbl := t_in3 166 rfl
set_option maxRecDepth 20000 in
theorem tx_r4 : Cond.stringRef RX1 (xsIx.getD 4 0) (xsTx.getD 4 "") ∈ lw_tbl := t_in3 167 rfl
set_option maxRecDepth 20000 in
theorem tx_r5 : Cond.stringRef RX1 (xsIx.getD 5 0) (xsTx.getD 5 "") ∈ lw_tbl := t_in3 168 rfl
set_option maxRecDepth 20000 in
theorem tx_r6 : Cond.stringRef RX1 (xsIx.getD 6 0) (xsTx.getD 6 "") ∈ lw_tbl := t_in3 222 rfl
set_option maxRecDepth 20000 in
theorem tx_r7 : Cond.stringRef RX1 (xsIx.getD 7 0) (xsTx.getD 7 "") ∈ lw_tbl := t_in3 229 rfl
theorem tx_ref (i : Nat) (hi : i < 8) : Cond.stringRef RX1 (xsIx.getD i 0) (xsTx.getD i "") ∈ lw_tbl := by
  rcases (show i = 0 ∨ i = 1 ∨ i = 2 ∨ i = 3 ∨ i = 4 ∨ i = 5 ∨ i = 6 ∨ i = 7 by omega) with rfl | rfl | rfl | rfl | rfl | rfl | rfl | rfl
  · exact tx_r0
  · exact tx_r1
  · exact tx_r2
  · exact tx_r3
  · exact tx_r4
  · exact tx_r5
  · exact tx_r6
  · exact tx_r7
set_option maxRecDepth 20000 in
theorem tx_cs : Cond.laysStatic "java/lang/String" "COMPACT_STRINGS" "Z" ∈ lw_tbl := t_in3 182 rfl
set_option maxRecDepth 20000 in
theorem tx_sf : Cond.laysStatic "jdk/internal/util/Preconditions" "SIOOBE_FORMATTER" "Ljava/util/function/BiFunction;" ∈ lw_tbl := t_in3 198 rfl
set_option maxRecDepth 20000 in
theorem tx_is : Cond.initialized "java/lang/String" ∈ lw_tbl := t_in1 12 rfl
set_option maxRecDepth 20000 in
theorem tx_ip : Cond.initialized "jdk/internal/util/Preconditions" ∈ lw_tbl := t_in1 14 rfl
set_option maxRecDepth 20000 in
theorem tx_nx : Cond.methodLinkNest RX5 48 yX3_init "ChoiceCode" ∈ lw_tbl := t_in1 158 rfl
