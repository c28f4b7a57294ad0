/-! Text: the object at 28; its bytes at 29 or in a new cell -/
def upcap (cap n : Nat) : Nat := if cap ≤ n ∧ cap < 65536 then cap * 2 else cap
def capN (cap n : Nat) : Nat → Nat
  | 0 => cap
  | m + 1 => upcap (capN cap n m) (n + m)
def pot (cap : Nat) : Nat := 4 * (65536 - cap)
def capOk (cap : Nat) : Prop := cap = 256 ∨ cap = 512 ∨ cap = 1024 ∨ cap = 2048 ∨ cap = 4096 ∨ cap = 8192 ∨ cap = 16384 ∨ cap = 32768 ∨ cap = 65536
theorem upcap_ok {cap n : Nat} (h : capOk cap) : capOk (upcap cap n) ∧ cap ≤ upcap cap n := by
  unfold capOk upcap at *
  split <;> omega
theorem capN_ok {cap n : Nat} (h : capOk cap) : ∀ m, capOk (capN cap n m) ∧ cap ≤ capN cap n m
  | 0 => ⟨h, Nat.le_refl _⟩
  | m + 1 => by
    obtain ⟨h1, h2⟩ := capN_ok (n := n) h m
    obtain ⟨h3, h4⟩ := upcap_ok (n := n + m) h1
    exact ⟨h3, Nat.le_trans h2 h4⟩
theorem capN_add {cap n a : Nat} : ∀ b, capN cap n (a + b) = capN (capN cap n a) (n + a) b
  | 0 => rfl
  | b + 1 => by
    rw [← Nat.add_assoc, capN, capN_add b, capN, Nat.add_assoc]
theorem pot_le {c d : Nat} (h : c ≤ d) : pot d ≤ pot c := by unfold pot; omega
def vTx (h : xH) (bs : List Nat) (cap : Nat) : Prop := ∃ (ba : Nat) (f : Nat → Int32), h.1 28 = cO 3 [.ref ba, .int (nI bs.length)] ∧ h.1 ba = cI 1 cap f ∧ (∀ k, k < bs.length → f k = nI (bs.getD k 0)) ∧ (∀ k, k < cap → fits .byte (.int (f k)) = true) ∧ (ba = 29 ∨ 59 ≤ ba) ∧ ba < h.2 ∧ 59 ≤ h.2 ∧ h.2 ≤ 59 + cap ∧ capOk cap ∧ bs.length ≤ cap
/-- only the text has changed -/
def xFt (h h' : xH) : Prop := (∀ q, (q < 28 ∨ (30 ≤ q ∧ q < 59) ∨ 2000000 ≤ q) → h'.1 q = h.1 q) ∧ h.2 ≤ h'.2
theorem xFt.rf {h : xH} : xFt h h := ⟨fun _ _ => rfl, Nat.le_refl _⟩
theorem xFt.tr {h h1 h2 : xH} (a : xFt h h1) (b : xFt h1 h2) : xFt h h2 := ⟨fun q hq => (b.1 q hq).trans (a.1 q hq), Nat.le_trans a.2 b.2⟩
theorem vTx.fr {h h' : xH} {bs : List Nat} {cap o' w : Nat} (hS : vTx h bs cap) (hF : xFr o' w h h') (hq : o' + w ≤ 28 ∨ (30 ≤ o' ∧ o' + w ≤ 59)) : vTx h' bs cap := by
  obtain ⟨ba, f, h1, h2, h3, h4, h5, h6, h7, h8, h9, h10⟩ := hS
  have hb : ba < o' ∨ o' + w ≤ ba := by
    rcases h5 with h5 | h5 <;> omega
  exact ⟨ba, f, (hF.1 _ (by omega)).trans h1, (hF.1 _ hb).trans h2, h3, h4, h5, by rw [hF.2]; exact h6, by rw [hF.2]; exact h7, by rw [hF.2]; exact h8, h9, h10⟩
theorem by_put : ∀ c, c < 128 → (nI c).toInt8.toInt32 = nI c ∧ vp_nar .byte (nI c) = nI c ∧ fits .byte (.int (nI c)) = true := by decide
section
variable {G : xG} {h : xH} {bs : List Nat} {cap : Nat}
theorem put_tail {h0 : xH} {b : Nat} {f : Nat → Int32} {ba c : Nat} (hc : c < 128) (h1 : h.1 28 = cO 3 [.ref ba, .int (nI bs.length)]) (h2 : h.1 ba = cI 1 cap f) (h3 : ∀ k, k < bs.length → f k = nI (bs.getD k 0)) (h4 : ∀ k, k < cap → fits .byte (.int (f k)) = true) (h5 : ba = 29 ∨ 59 ≤ ba) (h6 : ba < h.2) (h7 : 59 ≤ h.2) (h8 : h.2 ≤ 59 + cap) (h9 : capOk cap) (h10 : bs.length < cap) (hF : xFt h0 h) :
    Ax G mX3_put 2 b 40 [.ref 28, .int (nI c)] [] h (fun r h' => r = none ∧ vTx h' (bs ++ [c]) cap ∧ xFt h0 h') := by
  obtain ⟨p1, p2, p3⟩ := by_put c hc
  have hcap : cap ≤ 65536 := by unfold capOk at h9; omega
  have hn28 : ba ≠ 28 := by omega
  have t := h1
  have t0 := h2
  have fr : ∀ q, (q < 28 ∨ (30 ≤ q ∧ q < 59) ∨ 2000000 ≤ q) → h.1 q = h.1 q := fun _ _ => rfl
  have zr : h.2 = h.2 := rfl
  refine Ax_al0 dX3_put_40 ?_
  refine Ax_getf kfX3 fX3_15 dX3_put_41 t rfl ?_
  refine Ax_ifltn (tgt := 80) dX3_put_44 (by decide) (by omega) ?_
  refine Ax_al0 dX3_put_47 ?_
  refine Ax_getf kfX3 fX3_15 dX3_put_48 t rfl ?_
  refine Ax_al0 dX3_put_51 ?_
  refine Ax_getf kfX3 fX3_9 dX3_put_52 t rfl ?_
  refine Ax_alen (by decide) dX3_put_55 t0 ?_
  refine Ax_cmpgen (tgt := 80) dX3_put_56 (by decide) (by omega) (by omega) (fun c56 => ?_) (fun c56 => ?_)
  · omega
  refine Ax_al0 dX3_put_59 ?_
  refine Ax_getf kfX3 fX3_9 dX3_put_60 t rfl ?_
  refine Ax_al0 dX3_put_63 ?_
  refine Ax_getf kfX3 fX3_15 dX3_put_64 t rfl ?_
  refine Ax_il1 dX3_put_67 ?_
  refine Ax_i2b dX3_put_68 ?_
  refine Ax_top p1 ?_
  refine Ax_bastn dX3_put_69 t0 (by omega) (by omega) (Ax_up (fun h1 e1 f1 z1 => ?_))
  replace t := (f1 _ (by omega)).trans t
  replace t0 := e1
  replace fr : ∀ q, (q < 28 ∨ (30 ≤ q ∧ q < 59) ∨ 2000000 ≤ q) → h1.1 q = h.1 q := fun q hq => (f1 q (by omega)).trans (fr q hq)
  replace zr := z1.trans zr
  refine Ax_al0 dX3_put_70 ?_
  refine Ax_dup dX3_put_71 rfl ?_
  refine Ax_getf kfX3 fX3_15 dX3_put_72 t rfl ?_
  refine Ax_ic1 dX3_put_75 ?_
  refine Ax_iaddn dX3_put_76 ?_
  refine Ax_putf kfX3 fX3_15 dX3_put_77 t (Nat.le_of_ble_eq_true rfl) (Or.inl rfl) (by rfl) (by rfl) (Ax_up (fun h2 e2 f2 z2 => ?_))
  replace t := e2
  replace t0 := (f2 _ (by omega)).trans t0
  replace fr : ∀ q, (q < 28 ∨ (30 ≤ q ∧ q < 59) ∨ 2000000 ≤ q) → h2.1 q = h.1 q := fun q hq => (f2 q (by omega)).trans (fr q hq)
  replace zr := z2.trans zr
  rw [p2] at t0
  refine Ax_ret dX3_put_80 rfl ⟨rfl, ⟨ba, upd f bs.length (nI c), ?_, t0, fun k hk => ?_, fun k hk => ?_, h5, by rw [zr]; exact h6, by rw [zr]; exact h7, by rw [zr]; exact h8, h9, ?_⟩, hF.tr ⟨fr, by rw [zr]; exact Nat.le_refl _⟩⟩
  · rw [List.length_append, List.length_singleton]
    exact t
  · rw [List.length_append, List.length_singleton] at hk
    by_cases e : k = bs.length
    · subst e
      rw [pk_us]
      simp
    · rw [pk_un e, h3 k (by omega), List.getD_eq_getElem?_getD, List.getD_eq_getElem?_getD, List.getElem?_append_left (by omega)]
  · by_cases e : k = bs.length
    · subst e; rw [pk_us]; exact p3
    · rw [pk_un e]; exact h4 k hk
  · rw [List.length_append, List.length_singleton]; omega
theorem tX3_put {c : Nat} (hT : vTx h bs cap) (hc : c < 128) (hl : bs.length < 65536) : AM G mX3_put 2 (pot cap - pot (upcap cap bs.length)) [.ref 28, .int (nI c)] h (fun r h' => r = none ∧ vTx h' (bs ++ [c]) (upcap cap bs.length) ∧ xFt h h') := by
  obtain ⟨ba, f, h1, h2, h3, h4, h5, h6, h7, h8, h9, h10⟩ := hT
  have hcap : cap ≤ 65536 := by unfold capOk at h9; omega
  have hcap2 : 256 ≤ cap := by unfold capOk at h9; omega
  have t := h1
  have t0 := h2
  refine AM.of rfl rfl (Nat.le_of_ble_eq_true rfl) rfl ?_
  refine Ax_al0 dX3_put_0 ?_
  refine Ax_getf kfX3 fX3_15 dX3_put_1 t rfl ?_
  refine Ax_al0 dX3_put_4 ?_
  refine Ax_getf kfX3 fX3_9 dX3_put_5 t rfl ?_
  refine Ax_alen (by decide) dX3_put_8 t0 ?_
  refine Ax_cmpltn (tgt := 40) dX3_put_9 (by decide) (by omega) (by omega) (fun c9 => ?_) (fun c9 => ?_)
  · rw [show upcap cap bs.length = cap by unfold upcap; rw [if_neg (by omega)]]
    exact put_tail hc h1 h2 h3 h4 h5 h6 h7 h8 h9 c9 xFt.rf
  refine Ax_al0 dX3_put_12 ?_
  refine Ax_getf kfX3 fX3_9 dX3_put_13 t rfl ?_
  refine Ax_alen (by decide) dX3_put_16 t0 ?_
  refine Ax_ldc dX3_put_17 cX3_38 ?_
  refine Ax_top (show (65536 : Int32) = nI 65536 from rfl) ?_
  refine Ax_cmpgen (tgt := 40) dX3_put_19 (by decide) (by omega) (by omega) (fun c19 => ?_) (fun c19 => ?_)
  · omega
  have e : upcap cap bs.length = cap * 2 := by unfold upcap; rw [if_pos ⟨c9, c19⟩]
  rw [e]
  have hok := (upcap_ok (n := bs.length) h9).1
  rw [e] at hok
  have hpot : 2 * cap + 1 ≤ pot cap - pot (cap * 2) := by
    unfold pot
    unfold capOk at h9
    omega
  refine Ax_al0 dX3_put_22 ?_
  refine Ax_al0 dX3_put_23 ?_
  refine Ax_getf kfX3 fX3_9 dX3_put_24 t rfl ?_
  refine Ax_al0 dX3_put_27 ?_
  refine Ax_getf kfX3 fX3_9 dX3_put_28 t rfl ?_
  refine Ax_alen (by decide) dX3_put_31 t0 ?_
  refine Ax_ic2 dX3_put_32 ?_
  refine Ax_imuln dX3_put_33 ?_
  refine Ax_callS dX3_put_34 sX3_39 (tJ7_copyOf h2 (by unfold capOk at h9; omega) (by unfold capOk at h9; omega) (by omega) h6 h4) rfl rfl (by decide) hpot (by simp [Value.category]) (fun r h' q => ?_)
  obtain ⟨rfl, rfl⟩ := q
  have t : (xnew h (cI 1 (cap * 2) (va_cpy f (fun _ => 0) 0 0 cap))).1 28 = cO 3 [.ref ba, .int (nI bs.length)] := by
    unfold xnew
    simp only [if_neg (show ¬ 28 = h.2 by omega)]
    exact h1
  have nb : (xnew h (cI 1 (cap * 2) (va_cpy f (fun _ => 0) 0 0 cap))).1 h.2 = cI 1 (cap * 2) (va_cpy f (fun _ => 0) 0 0 cap) := by
    unfold xnew
    simp only [if_true]
  have hne : h.2 ≠ 28 := by omega
  have hF1 : xFt h (xnew h (cI 1 (cap * 2) (va_cpy f (fun _ => 0) 0 0 cap))) := by
    refine ⟨fun q hq => ?_, Nat.le_succ _⟩
    unfold xnew
    simp only [if_neg (show ¬ q = h.2 by omega)]
  have hs1 : (xnew h (cI 1 (cap * 2) (va_cpy f (fun _ => 0) 0 0 cap))).2 = h.2 + 1 := rfl
  generalize xnew h (cI 1 (cap * 2) (va_cpy f (fun _ => 0) 0 0 cap)) = h5' at t nb hF1 hs1 ⊢
  have fr : ∀ q, (q < 28 ∨ (30 ≤ q ∧ q < 59) ∨ 2000000 ≤ q) → h5'.1 q = h5'.1 q := fun _ _ => rfl
  have zr : h5'.2 = h5'.2 := rfl
  refine Ax_putf kfX3 fX3_9 dX3_put_37 t (Nat.le_of_ble_eq_true rfl) (Or.inl rfl) (by rfl) (by rfl) (Ax_up (fun h1 e1 f1 z1 => ?_))
  replace t := e1
  replace nb := (f1 _ (by omega)).trans nb
  replace fr : ∀ q, (q < 28 ∨ (30 ≤ q ∧ q < 59) ∨ 2000000 ≤ q) → h1.1 q = h5'.1 q := fun q hq => (f1 q (by omega)).trans (fr q hq)
  replace zr := z1.trans zr
  have hfr : xFt h h1 := hF1.tr ⟨fr, by rw [zr]; exact Nat.le_refl _⟩
  refine put_tail hc t nb (fun k hk => ?_) (fun k hk => ?_) (Or.inr h7) (by rw [zr, hs1]; omega) (by rw [zr, hs1]; omega) (by rw [zr, hs1]; omega) hok (by omega) hfr
  · rw [show va_cpy f (fun _ => 0) 0 0 cap k = f k by unfold va_cpy; rw [if_pos ⟨Nat.zero_le _, by omega⟩]; simp]
    exact h3 k hk
  · unfold va_cpy
    split
    · rename_i w
      exact h4 _ (by omega)
    · exact rfl
end
