set_option maxHeartbeats 4000000 in
/-- from the entry, for every script of at most 2560 ints, the law comes to its end with true -/
theorem whole_start {p : Program} {e : Env} {s : State} {m : MethodId} {below : List Frame} {meth : Method} {c : Code} (l : Launch) (hflags : l.flags = flags0) {b L : Nat} {xs : Nat → Int32} (hL : L ≤ 2560) (C0 : lw_At p s m meth c b L xs) : W p l e room_1 s m #[Value.ref b] below meth c s.heap [] 0 0 (lw_Z below #[Value.ref b] s) (entryFrame m ([Value.ref b] : List Value).toArray 4) := by
  obtain ⟨hx, hb, hr, hml, hown, hts, hX, hbl, hlocks, hgv⟩ := id C0
  have hs := flat_of_before _ hgv
  have htg : ∀ w ∈ lw_good, w.before #[Value.ref b] s = true := fun w hw => hts w (List.mem_filter.mp hw).1
  have hA : ∀ a : Nat, a < s.heap.size → ¬ (fun q : Nat => s.heap.size ≤ q) a := fun a h1 h2 => Nat.not_le.mpr h1 h2
  obtain ⟨c0, j0, k0⟩ := u_known (C := RX0) (T := TX0) (N := 10) htg kfX0.2.2.1 (htg _ clX5_19.2.1)
  obtain ⟨c1, j1, k1⟩ := u_known (C := RX1) (T := TX1) (N := 14) htg kfX1.2.2.1 (htg _ clX5_37.2.1)
  obtain ⟨c2, j2, k2⟩ := u_known (C := RX2) (T := TX2) (N := 5) htg kfX2.2.2.1 (htg _ clX5_9.2.1)
  obtain ⟨c3, j3, k3⟩ := u_known (C := RX3) (T := TX3) (N := 2) htg kfX3.2.2.1 (htg _ clX5_46.2.1)
  obtain ⟨c4, j4, k4⟩ := u_known (C := RX4) (T := TX4) (N := 4) htg kfX4.2.2.1 (htg _ clX5_28.2.1)
  obtain ⟨c5, j5, k5⟩ := u_known (C := RX5) (T := TX5) (N := 13) htg kfX5.2.2.1 (htg _ clL_7.2.1)
  obtain ⟨c6, j6, k6⟩ := u_known (C := RX6) (T := TX6) (N := 41) htg kfX6.2.2.1 (htg _ clL_10.2.1)
  obtain ⟨dC, dI, hKc⟩ : ∃ (dC : Nat → ClassId) (dI : Nat → Nat → Nat), ∀ (k : Nat) (q : vw_C), vwCl[k]? = some q → u_Kn s q.1 q.2.1 q.2.2 (dC k) (dI k) := by
    refine ⟨fun k => match k with | 0 => c0 | 1 => c1 | 2 => c2 | 3 => c3 | 4 => c4 | 5 => c5 | _ => c6, fun k => match k with | 0 => j0 | 1 => j1 | 2 => j2 | 3 => j3 | 4 => j4 | 5 => j5 | _ => j6, ?_⟩
    intro k q hq
    match k, hq with
    | 0, hq => cases hq; exact k0
    | 1, hq => cases hq; exact k1
    | 2, hq => cases hq; exact k2
    | 3, hq => cases hq; exact k3
    | 4, hq => cases hq; exact k4
    | 5, hq => cases hq; exact k5
    | 6, hq => cases hq; exact k6
    | k + 7, hq => simp [vwCl] at hq
  obtain ⟨a0, r0, n0⟩ := arr_of (htg _ ac_int)
  obtain ⟨a1, r1, n1⟩ := arr_of (htg _ ac_byte)
  obtain ⟨a2, r2, n2⟩ := arr_of (htg _ ac_boolean)
  obtain ⟨a3, r3, n3⟩ := arr_of (htg _ ac_long)
  obtain ⟨ar, g0, g1, g2, g3⟩ : ∃ ar : Nat → ClassId, ar 0 = a0 ∧ ar 1 = a1 ∧ ar 2 = a2 ∧ ar 3 = a3 := ⟨fun k => match k with | 0 => a0 | 1 => a1 | 2 => a2 | _ => a3, rfl, rfl, rfl, rfl⟩
  rw [← g0] at r0 n0
  rw [← g1] at r1 n1
  rw [← g2] at r2 n2
  rw [← g3] at r3 n3
  obtain ⟨t1, t2, t3, t4⟩ := tx_cls b hs
  obtain ⟨adK, adV, hS, hev⟩ := vk_Sof (tm := txTm) (len := xsLen) (byt := xsByt) (N := 8) (A := fun q : Nat => s.heap.size ≤ q) tx_len t1 t2 t3 t4 (tx_elem b hs) (tx_ne b hs) hA
  have hcs : va_Z "java/lang/String" "COMPACT_STRINGS" "Z" (.int 1) (fun q : Nat => s.heap.size ≤ q) s s.heap := va_Zof (hts _ tx_cs) (hts _ tx_is) (va_eqt (hs _ (by decide +kernel))) hA
  have hsi : va_Zq "jdk/internal/util/Preconditions" "SIOOBE_FORMATTER" "Ljava/util/function/BiFunction;" (fun q : Nat => s.heap.size ≤ q) s s.heap := va_Zqof (hts _ tx_sf) (hts _ tx_ip) (hs _ (by decide +kernel)) hA
  obtain ⟨tf, hsf⟩ : ∃ tf : Nat, va_Z "jdk/internal/util/Preconditions" "SIOOBE_FORMATTER" "Ljava/util/function/BiFunction;" .null (fun q : Nat => s.heap.size ≤ q) s s.heap ∨ va_Z "jdk/internal/util/Preconditions" "SIOOBE_FORMATTER" "Ljava/util/function/BiFunction;" (.ref tf) (fun q : Nat => s.heap.size ≤ q) s s.heap := by
    rcases hsi with q | ⟨t, q⟩
    · exact ⟨0, Or.inl q⟩
    · exact ⟨t, Or.inr q⟩
  obtain ⟨old, o0, o50, oK, oV⟩ : ∃ old : Nat → Nat, old 0 = b ∧ old 50 = tf ∧ (∀ k, k < 8 → old (k + 1) = adK k) ∧ ∀ k, k < 8 → old (k + 101) = adV k := by
    refine ⟨fun n => if n = 0 then b else if n = 50 then tf else if n < 50 then adK (n - 1) else adV (n - 101), rfl, rfl, fun k hk => ?_, fun k hk => ?_⟩
    · show (if k + 1 = 0 then b else if k + 1 = 50 then tf else if k + 1 < 50 then adK (k + 1 - 1) else adV (k + 1 - 101)) = adK k
      rw [if_neg (by omega), if_neg (by omega), if_pos (by omega), Nat.add_sub_cancel]
    · show (if k + 101 = 0 then b else if k + 101 = 50 then tf else if k + 101 < 50 then adK (k + 101 - 1) else adV (k + 101 - 101)) = adV k
      rw [if_neg (by omega), if_neg (by omega), if_neg (by omega), Nat.add_sub_cancel]
  have hxS : x_S (l, s.heap, (dC, dI), ar, old, L, xs) s := by
    refine ⟨?_, ?_, ⟨fun i hi => ?_, fun i j hi hj he => ?_⟩, fun k hk => ?_, hcs, ?_, ?_⟩
    · show va_X (old 0) L xs s s.heap
      rw [o0]
      exact hX
    · show old 0 < s.heap.size
      rw [o0]
      exact hbl
    · show va_O "java/lang/String" (old (i + 1)) _ s s.heap ∧ va_OF "java/lang/String" "coder" "B" (.int 0) (old (i + 1)) _ s s.heap ∧ va_OF "java/lang/String" "value" "[B" (.ref (old (i + 101))) (old (i + 1)) _ s s.heap ∧ va_T .byte (old (i + 101)) (xsLen.getD i 0) (fun j => .int ((xsByt.getD i []).getD j 0)) _ s s.heap
      rw [oK i hi, oV i hi]
      exact hS.1 i hi
    · have he' : old (i + 1) = old (j + 1) := he
      rw [oK i hi, oK j hj] at he'
      exact hS.2 i j hi hj he'
    · show vk_R RX1 (xsIx.getD k 0) (xsTx.getD k "") (old (k + 1)) s
      rw [oK k hk]
      exact vk_R.of (hts _ (tx_ref k hk)) (hev k hk)
    · show va_Z _ _ _ .null _ s s.heap ∨ va_Z _ _ _ (.ref (old 50)) _ s s.heap
      rw [o50]
      exact hsf
    · exact va_Nw.of rfl (hts _ tx_nx)
  have hxK : x_K (l, s.heap, (dC, dI), ar, old, L, xs) s := by
    refine ⟨⟨hKc, fun k q hq => ?_⟩, hxS⟩
    match k, hq with
    | 0, hq => cases hq; exact ⟨r0, n0⟩
    | 1, hq => cases hq; exact ⟨r1, n1⟩
    | 2, hq => cases hq; exact ⟨r2, n2⟩
    | 3, hq => cases hq; exact ⟨r3, n3⟩
    | k + 4, hq => simp [x_ty] at hq
  have hl := lv_entry ([.ref b]) (n := 4) (Nat.le_of_ble_eq_true rfl)
  rw [lg_entry_eq]
  generalize (lg_sl ([.ref b]) ++ List.replicate (4 - (lg_sl ([.ref b])).length) Slot.unset).toArray = ls at hl ⊢
  have hl : lv_has ls 4 [(0, .ref b)] := hl
  have hall := lw_all (G := (l, s.heap, (dC, dI), ar, old, L, xs)) (h := (fun _ => cO 99 [], 0)) hL rfl
  have hxv : x_v (l, s.heap, (dC, dI), ar, old, L, xs) (.ref 1000000) = .ref b := by
    rw [x_vS]
    show Value.ref (old 0) = _
    rw [o0]
  refine hall p e room_1 s m #[Value.ref b] below meth c s.heap [] 0 0 ls _ ⟨hx, hb, hml, hr, hlocks, fun h => absurd h (by decide), hown, htg, hxK, by decide, by decide⟩ ⟨rfl, Nat.zero_le _, fun i hi => absurd hi (Nat.not_lt_zero _), fun i _ => rfl, fun q _ => rfl⟩ ⟨hl.1, hl.2.1, fun i v hi hv => ?_⟩ (fun q hq => absurd hq List.not_mem_nil) (by decide) (by decide) ?_
  · match i, hi with
    | 0, hi =>
      cases hi
      rw [hxv]
      exact hl.2.2 (0, .ref b) List.mem_cons_self
    | 1, hi => cases hi; exact absurd rfl hv
    | 2, hi => cases hi; exact absurd rfl hv
    | 3, hi => cases hi; exact absurd rfl hv
    | i + 4, hi => simp at hi
  · intro pc' ls' st' H' locs' cells' slots' r h' hret hR hq hlo hc hsl
    subst hq
    rcases hret with ⟨-, h2, -, -⟩ | ⟨v, ty, hd, h2, h3, rfl, hr'⟩ | ⟨v, hd, h2, rfl, hr'⟩ | ⟨a, ty, hd, -, -, rfl, hr'⟩
    · cases h2
    · cases hr'
      refine va_forget hlo ?_
      refine W.widen (k := 600000) (n := 7302250) hc hsl ?_
      exact lw_ret hx hb hr hlocks hd
    · cases hr'
    · cases hr'
-- ===== YOUR PART ENDS =====
set_option maxHeartbeats 4000000 in
theorem lw_walk (l : Launch) (hflags : l.flags = flags0) (b : Addr) (xs : List Int32) : MetFree l x (headSpec (Jvm.Cond.code x code maxLocals ret :: tables_1) room_1) (lw_P b xs) (fun _ _ _ _ _ => True) lw_Q := by
  refine MetFree.of_bodyS (code := code) (maxLocals := maxLocals) (ret := ret) (by decide) ?_ ?_
  · intro args s m h hn
    obtain ⟨meth, c, h1, h2, h3, h4, h5, h6, -, -⟩ := Cond.code_spec hn (atoms_spec (ws := Jvm.Cond.code x code maxLocals ret :: tables_1) h _ List.mem_cons_self)
    exact ⟨meth, c, h1, h2, h3, h4, h5, h6⟩
  · intro p e s m args below meth c s₁ B hml0 hP _
    obtain ⟨rfl, hx, hbd, hgv⟩ := hP
    obtain ⟨scr, harrAt, hlist, hof, hsmall⟩ := hx
    obtain ⟨hcb, hkn, -, -⟩ := State.arrayAt?_spec harrAt
    have hown : s.vm.findClass R_law = some m.cls := findClass_of_methodNamed B.named
    have hts0 : ∀ c ∈ (Jvm.Cond.code x code maxLocals ret :: tables_1), c.before #[Value.ref b] s = true := atoms_spec (ws := Jvm.Cond.code x code maxLocals ret :: tables_1) B.pre
    have hts : ∀ w ∈ lw_tbl, w.before #[Value.ref b] s = true := k2_hts_sels lw_privs (fun w hw => hts0 w (List.mem_cons_of_mem _ hw)) lw_privs_ok
    have hml : c.maxLocals = 4 := B.maxLocals_eq (hts0 _ List.mem_cons_self)
    have X₀ : Stand p l e room_1 s m #[Value.ref b] below meth c s₁ [] 0 0 := Stand.of_body B
    have hh0 : s₁.heap = s.heap := by rw [B.state]; rfl
    have hsz : scr.slots.size = xs.length := by rw [← Array.length_toList, hlist, List.length_map]
    have hval : ∀ j : Nat, j < xs.length → scr.slots[j]? = some (.int (xs.getD j 0)) := fun j hj => by
      rw [← Array.getElem?_toList, hlist]
      simp [hj]
    have hbl : b < s.heap.size := (Array.getElem?_eq_some_iff.mp hcb).1
    have hX : va_X b xs.length (fun j => xs.getD j 0) s s.heap := ⟨scr, hcb, hof, hkn, hsz, hval⟩
    have K : W p l e room_1 s m #[Value.ref b] below meth c s₁.heap [] 0 0 (lw_Z below #[Value.ref b] s) (entryFrame m ([Value.ref b] : List Value).toArray 4) := by
      rw [hh0]
      exact whole_start l hflags hbd ⟨B.exec, B.bytes, B.returns, hml, hown, hts, hX, hbl, B.notSynchronized, hgv⟩
    obtain ⟨t, a1, o, b1, b2, b3⟩ := K s₁ rfl X₀
    exact ⟨t, o, a1, b1, b2, b3⟩
theorem lw_pre_spec {args : Array Value} {s : State} (h : (Jvm.Cond.and given_1 narrow_1).before args s = true) (hr : rest_1_c.before args s = true) : ∃ (b : Addr) (xs : List Int32), lw_P b xs args s := by
  have hs := flat_of_before _ h
  have hq := flat_of_before _ hr
  have hc : (Cond.count 1).before args s = true := hs _ (by decide +kernel)
  have harr : (Cond.arrayOf (.arg 0) .int).before args s = true := hs _ (by decide +kernel)
  have hle : (Cond.le (.length (.arg 0)) (.int 2560)).before args s = true := hs _ (by decide +kernel)
  have hlen : (Cond.isInt (.length (.arg 0))).before args s = true := hq _ (by decide +kernel)
  have hall : (Cond.all (.arg 0) (.isInt (.elem (.arg 0) (.index 0)))).before args s = true := hq _ (by decide +kernel)
  obtain ⟨b, xs, hb, hx⟩ := State.ints_of_pre rfl harr hlen hall
  have hsm : xs.length < 2 ^ 31 := hx.choose_spec.2.2.2
  have hev : (Term.length (.arg 0)).eval args s none [] s = some (.int xs.length.toInt32) := hx.length_eval hb
  have hv := Cond.le_ints hev (show (Term.int 2560).eval args s none [] s = some (.int 2560) from rfl)
  have hd : xs.length.toInt32 ≤ 2560 := by
    simpa [Cond.before, Cond.holds, hv] using hle
  have hN : xs.length ≤ 2560 := (Int32.ofNat_le_ofNat hsm (by decide)).mp (show Int32.ofNat xs.length ≤ Int32.ofNat 2560 from hd)
  exact ⟨b, xs, Cond.one_arg hc (show args[0]? = some (.ref b) from hb), hx, hN, h⟩
theorem lw_comes (l : Launch) (hflags : l.flags = flags0) : Comes l x (Jvm.Cond.code x code maxLocals ret :: tables_1) room_1 (fun tb e args s => Calls_1 tb e args s ∧ rest_1 tb e args s ∧ Pre_1 tb e args s)
    (fun _ _ args s o t => lw_Q args s o t) := by
  intro p e ha hc hk s m args below hf hfit hheap happ hpre
  obtain ⟨b, xs, hP⟩ := lw_pre_spec hpre.2.2 hpre.2.1
  obtain ⟨k, o, h1, h2, h3, hQ⟩ := lw_walk l hflags b xs p e ha hc hk s m args below hf ((Spec.applies_iff_loose hf).mp happ).1 hP trivial
  exact ⟨k, o, h1, h2, h3, hQ⟩
theorem lw_frame {s t : State} {o : Outcome} {args : Array Value} (h : Framed s o t [] 600000 7302250) :
    Framed s o t (fieldLocs frame_1_writes args s ++ arrayLocs frame_1_arrays args s ++ staticLocs frame_1_statics s) 600000 7302250 := h
theorem lw_limb (L : Cond) (hL : ∀ (args : Array Value) (s t : State), L.after args s (.returned (some (.int 1))) t = true) :
    ArmFor flags0 classFile x code maxLocals ret World_1 tables_1 room_1 Calls_1 rest_1 Pre_1
      (fun tb e a s o t => postC L tb e a s o t ∧ Framed s o t (fieldLocs frame_1_writes a s ++ arrayLocs frame_1_arrays a s ++ staticLocs frame_1_statics s) 600000 7302250) := by
  intro l hflags _ _ p e ha hc hk s m args below hf hfit hheap happ hpre
  obtain ⟨k, o, h1, h2, h3, rfl, hF⟩ := lw_comes l hflags p e ha hc hk s m args below hf hfit hheap happ hpre
  exact ⟨k, _, h1, h2, h3, hL args s _, lw_frame hF⟩
theorem i_vc : Claimed_1_1 ∧ Claimed_1_2 := ⟨lw_limb limb_1_1 (fun args s t => by simp [limb_1_1, Cond.after, Cond.holds, Cond.value]), lw_limb limb_1_2 (fun args s t => Cond.after_iff.mpr (by
  first | (rw [show limb_1_2 = Cond.eq .result (.int 1) from rfl, Cond.eq_ints (x := 1) (y := 1) rfl rfl]; simp; done) | (simp [limb_1_2, Cond.value, Term.eval]; done)))⟩
