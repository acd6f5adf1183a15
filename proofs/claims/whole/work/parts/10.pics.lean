/-! Pictures behind a write: which facts stay. -/
section PoolPics
variable {ca : Nat → ClassId} {hp : hp_T} {po : Nat} {L : po_L} {S : po_S}
def po_ok (L : po_L) : Prop := (∀ p q, p < 41 → q < 41 → L.2.1 p = L.2.1 q → p = q) ∧ (∀ p q, p < 41 → q < 41 → L.2.2.1 p = L.2.2.1 q → p = q) ∧ (∀ p q, p < 41 → q < 41 → L.2.2.2.1 p = L.2.2.2.1 q → p = q) ∧ (∀ p q, p < 41 → q < 41 → L.2.2.2.2.1 p = L.2.2.2.2.1 q → p = q) ∧ (∀ p q, p < 41 → q < 41 → L.2.2.2.2.2 p = L.2.2.2.2.2 q → p = q)
/-- keys written whole -/
def kx_put (ca : Nat → ClassId) (hp : hp_T) (k w i : Nat) (v : kv_T) : hp_T := hp_up (hp_up (hp_up hp w (.inl (ca 1, 32, .inr (.inl v.2.1)))) i (.inl (ca 0, 8, .inl v.2.2))) k (.inr (1, [.ref w, .ref i, .int (nI v.1)]))
theorem kx_ne {k w i : Nat} {v : kv_T} (h : kx_At ca hp k w i v) : k ≠ w ∧ k ≠ i ∧ w ≠ i := ⟨hp_ne h.1 h.2.1 (fun q => by first | cases q | simp at q), hp_ne h.1 h.2.2.1 (fun q => by first | cases q | simp at q), hp_ne h.2.1 h.2.2.1 (fun q => by first | cases q | simp at q)⟩
theorem kx_put_at {k w i : Nat} {v u : kv_T} (h : kx_At ca hp k w i v) (hu : u.1 ≤ 8) : kx_At ca (kx_put ca hp k w i u) k w i u := by
  obtain ⟨n1, n2, n3⟩ := kx_ne h
  refine ⟨hp_us, ?_, ?_, hu⟩
  · unfold kx_put
    rw [hp_un n1.symm, hp_un n3, hp_us]
  · unfold kx_put
    rw [hp_un n2.symm, hp_us]
theorem kx_put_un {k w i b : Nat} {v : kv_T} (h1 : b ≠ k) (h2 : b ≠ w) (h3 : b ≠ i) : kx_put ca hp k w i v b = hp b := by
  unfold kx_put
  rw [hp_un h1, hp_un h3, hp_un h2]
theorem kx_congr {hp1 : hp_T} {k w i : Nat} {v : kv_T} (h : kx_At ca hp k w i v) (h1 : hp1 k = hp k) (h2 : hp1 w = hp w) (h3 : hp1 i = hp i) : kx_At ca hp1 k w i v := ⟨by rw [h1]; exact h.1, by rw [h2]; exact h.2.1, by rw [h3]; exact h.2.2.1, h.2.2.2⟩
theorem tx_congr {hp1 : hp_T} {p : Nat} {t : tx_T} (h : tx_At ca hp L p t) (h1 : hp1 (L.2.1 p) = hp (L.2.1 p)) (h2 : hp1 (L.2.2.1 p) = hp (L.2.2.1 p)) (h3 : hp1 (L.2.2.2.1 p) = hp (L.2.2.2.1 p)) (h4 : hp1 (L.2.2.2.2.1 p) = hp (L.2.2.2.2.1 p)) (h5 : hp1 (L.2.2.2.2.2 p) = hp (L.2.2.2.2.2 p)) : tx_At ca hp1 L p t := ⟨by rw [h1]; exact h.1, by rw [h2]; exact h.2.1, kx_congr h.2.2 h3 h4 h5⟩
theorem va_up_s {α : Type} {f : Nat → α} {k : Nat} {v : α} : va_up f k v k = v := by simp [va_up]
theorem va_up_n {α : Type} {f : Nat → α} {k j : Nat} {v : α} (h : j ≠ k) : va_up f k v j = f j := by simp [va_up, h]
/-- the pool's own cell is written -/
theorem po_setPo (h : po_At ca hp po L S) (x : Int64) (c : Int32) : po_At ca (hp_up hp po (.inr (3, [.ref L.1, .long x, .int c]))) po L (x, c, S.2.2) := by
  have k : ∀ {b : Nat} {y : va_E}, hp b = some y → (∀ fs, y ≠ .inr (3, fs)) → hp_up hp po (.inr (3, [.ref L.1, .long x, .int c])) b = hp b := fun hb hy => hp_un (hp_ne hb h.1 (hy _))
  obtain ⟨f, hf, hfp⟩ := h.2.1
  refine ⟨hp_us, ⟨f, by rw [k hf (fun fs q => by first | cases q | simp at q)]; exact hf, hfp⟩, fun q hq => ?_⟩
  have ht := h.2.2 q hq
  exact tx_congr ht (k ht.1 (fun fs q => by first | cases q | simp at q)) (k ht.2.1 (fun fs q => by first | cases q | simp at q)) (k ht.2.2.1 (fun fs q => by first | cases q | simp at q)) (k ht.2.2.2.1 (fun fs q => by first | cases q | simp at q)) (k ht.2.2.2.2.1 (fun fs q => by first | cases q | simp at q))
/-- a transaction's cell is written; its name and keys are others' cells -/
theorem po_setTx (h : po_At ca hp po L S) (hL : po_ok L) {p : Nat} (hp0 : p < 41) {t : tx_T} (ht1 : t.1 = (S.2.2 p).1) (ht2 : t.2.1 = (S.2.2 p).2.1) : po_At ca (hp_up hp (L.2.1 p) (.inr (2, tx_F L p t))) po L (S.1, S.2.1, va_up S.2.2 p t) := by
  have hx := (h.2.2 p hp0).1
  have k : ∀ {b : Nat} {y : va_E}, hp b = some y → (∀ fs, y ≠ .inr (2, fs)) → hp_up hp (L.2.1 p) (.inr (2, tx_F L p t)) b = hp b := fun hb hy => hp_un (hp_ne hb hx (hy _))
  obtain ⟨f, hf, hfp⟩ := h.2.1
  refine ⟨by rw [k h.1 (fun fs q => by first | cases q | simp at q)]; exact h.1, ⟨f, by rw [k hf (fun fs q => by first | cases q | simp at q)]; exact hf, hfp⟩, fun q hq => ?_⟩
  have ht := h.2.2 q hq
  have e2 := k ht.2.1 (fun fs q => by first | cases q | simp at q)
  have e3 := k ht.2.2.1 (fun fs q => by first | cases q | simp at q)
  have e4 := k ht.2.2.2.1 (fun fs q => by first | cases q | simp at q)
  have e5 := k ht.2.2.2.2.1 (fun fs q => by first | cases q | simp at q)
  by_cases e : q = p
  · subst e
    show tx_At ca _ L q (va_up S.2.2 q t q)
    rw [va_up_s]
    refine ⟨hp_us, by rw [e2, ht1]; exact ht.2.1, ?_⟩
    rw [ht2]
    exact kx_congr ht.2.2 e3 e4 e5
  · show tx_At ca _ L q (va_up S.2.2 p t q)
    rw [va_up_n e]
    exact tx_congr ht (hp_un (fun z => e (hL.1 q p hq hp0 z))) e2 e3 e4 e5
/-- a place's name is written -/
theorem po_setNm (h : po_At ca hp po L S) (hL : po_ok L) {p : Nat} (hp0 : p < 41) (m : nm_T) : po_At ca (hp_up hp (L.2.2.1 p) (.inr (0, nm_F m))) po L (S.1, S.2.1, va_up S.2.2 p (m, (S.2.2 p).2)) := by
  have hx := (h.2.2 p hp0).2.1
  have k : ∀ {b : Nat} {y : va_E}, hp b = some y → (∀ fs, y ≠ .inr (0, fs)) → hp_up hp (L.2.2.1 p) (.inr (0, nm_F m)) b = hp b := fun hb hy => hp_un (hp_ne hb hx (hy _))
  obtain ⟨f, hf, hfp⟩ := h.2.1
  refine ⟨by rw [k h.1 (fun fs q => by first | cases q | simp at q)]; exact h.1, ⟨f, by rw [k hf (fun fs q => by first | cases q | simp at q)]; exact hf, hfp⟩, fun q hq => ?_⟩
  have ht := h.2.2 q hq
  have e1 := k ht.1 (fun fs q => by first | cases q | simp at q)
  have e3 := k ht.2.2.1 (fun fs q => by first | cases q | simp at q)
  have e4 := k ht.2.2.2.1 (fun fs q => by first | cases q | simp at q)
  have e5 := k ht.2.2.2.2.1 (fun fs q => by first | cases q | simp at q)
  by_cases e : q = p
  · subst e
    show tx_At ca _ L q (va_up S.2.2 q _ q)
    rw [va_up_s]
    exact ⟨by rw [e1]; exact ht.1, hp_us, kx_congr ht.2.2 e3 e4 e5⟩
  · show tx_At ca _ L q (va_up S.2.2 p _ q)
    rw [va_up_n e]
    exact tx_congr ht e1 (hp_un (fun z => e (hL.2.1 q p hq hp0 z))) e3 e4 e5
/-- a place's keys are written -/
theorem po_setKs (h : po_At ca hp po L S) (hL : po_ok L) {p : Nat} (hp0 : p < 41) (v : kv_T) (hv : v.1 ≤ 8) : po_At ca (kx_put ca hp (L.2.2.2.1 p) (L.2.2.2.2.1 p) (L.2.2.2.2.2 p) v) po L (S.1, S.2.1, va_up S.2.2 p ((S.2.2 p).1, v, (S.2.2 p).2.2)) := by
  have hx := (h.2.2 p hp0).2.2
  have k : ∀ {b : Nat} {y : va_E}, hp b = some y → (∀ fs, y ≠ .inr (1, fs)) → (∀ n f, y ≠ .inl (ca 1, n, .inr (.inl f))) → (∀ n f, y ≠ .inl (ca 0, n, .inl f)) → kx_put ca hp (L.2.2.2.1 p) (L.2.2.2.2.1 p) (L.2.2.2.2.2 p) v b = hp b := fun hb h1 h2 h3 => kx_put_un (hp_ne hb hx.1 (h1 _)) (hp_ne hb hx.2.1 (h2 _ _)) (hp_ne hb hx.2.2.1 (h3 _ _))
  obtain ⟨f, hf, hfp⟩ := h.2.1
  refine ⟨by rw [k h.1 (fun fs q => by first | cases q | simp at q) (fun n f q => by first | cases q | simp at q) (fun n f q => by first | cases q | simp at q)]; exact h.1, ⟨f, by rw [k hf (fun fs q => by first | cases q | simp at q) (fun n f q => by first | cases q | simp at q) (fun n f q => by first | cases q | simp at q)]; exact hf, hfp⟩, fun q hq => ?_⟩
  have ht := h.2.2 q hq
  have e1 := k ht.1 (fun fs q => by first | cases q | simp at q) (fun n f q => by first | cases q | simp at q) (fun n f q => by first | cases q | simp at q)
  have e2 := k ht.2.1 (fun fs q => by first | cases q | simp at q) (fun n f q => by first | cases q | simp at q) (fun n f q => by first | cases q | simp at q)
  by_cases e : q = p
  · subst e
    show tx_At ca _ L q (va_up S.2.2 q _ q)
    rw [va_up_s]
    exact ⟨by rw [e1]; exact ht.1, by rw [e2]; exact ht.2.1, kx_put_at hx hv⟩
  · show tx_At ca _ L q (va_up S.2.2 p _ q)
    rw [va_up_n e]
    have g := ht.2.2
    have i1 : L.2.2.2.1 q ≠ L.2.2.2.1 p := fun z => e (hL.2.2.1 q p hq hp0 z)
    have i2 : L.2.2.2.2.1 q ≠ L.2.2.2.2.1 p := fun z => e (hL.2.2.2.1 q p hq hp0 z)
    have i3 : L.2.2.2.2.2 q ≠ L.2.2.2.2.2 p := fun z => e (hL.2.2.2.2 q p hq hp0 z)
    exact tx_congr ht e1 e2 (kx_put_un i1 (hp_ne g.1 hx.2.1 (fun q => by first | cases q | simp at q)) (hp_ne g.1 hx.2.2.1 (fun q => by first | cases q | simp at q))) (kx_put_un (hp_ne g.2.1 hx.1 (fun q => by first | cases q | simp at q)) i2 (hp_ne g.2.1 hx.2.2.1 (fun q => by first | cases q | simp at q))) (kx_put_un (hp_ne g.2.2.1 hx.1 (fun q => by first | cases q | simp at q)) (hp_ne g.2.2.1 hx.2.1 (fun q => by first | cases q | simp at q)) i3)
end PoolPics
section PoolPics2
variable {ca : Nat → ClassId} {hp : hp_T} {po : Nat} {L : po_L} {S : po_S}
theorem hp_uiu {k i : Nat} {x y z : va_E} : hp_up (hp_up (hp_up hp k x) i y) k z = hp_up (hp_up hp i y) k z := by
  funext b
  by_cases h : b = k
  · simp [hp_up, h]
  · by_cases g : b = i <;> simp [hp_up, h, g]
def kv_add (v : kv_T) (m : nm_T) (x : Int32) : kv_T := (v.1 + 1, kx_w v.2.1 (v.1 * 4) m, upd v.2.2 v.1 x)
def kv_may (v : kv_T) (m : nm_T) (x : Int32) : Bool := decide (v.1 < 8) && !kv_has v m x
def kv_cp (u v : kv_T) : kv_T := (u.1, va_cpy u.2.1 v.2.1 0 0 32, va_cpy u.2.2 v.2.2 0 0 8)
/-- the addresses of a pool -/
def po_fp (po : Nat) (L : po_L) (b : Nat) : Prop := b = po ∨ b = L.1 ∨ ∃ p, p < 41 ∧ (b = L.2.1 p ∨ b = L.2.2.1 p ∨ b = L.2.2.2.1 p ∨ b = L.2.2.2.2.1 p ∨ b = L.2.2.2.2.2 p)
theorem po_fp_po : po_fp po L po := Or.inl rfl
theorem po_fp_tx {p : Nat} (h : p < 41) : po_fp po L (L.2.1 p) := Or.inr (Or.inr ⟨p, h, Or.inl rfl⟩)
theorem po_fp_nm {p : Nat} (h : p < 41) : po_fp po L (L.2.2.1 p) := Or.inr (Or.inr ⟨p, h, Or.inr (Or.inl rfl)⟩)
theorem po_fp_ks {p : Nat} (h : p < 41) : po_fp po L (L.2.2.2.1 p) := Or.inr (Or.inr ⟨p, h, Or.inr (Or.inr (Or.inl rfl))⟩)
theorem po_fp_wk {p : Nat} (h : p < 41) : po_fp po L (L.2.2.2.2.1 p) := Or.inr (Or.inr ⟨p, h, Or.inr (Or.inr (Or.inr (Or.inl rfl)))⟩)
theorem po_fp_ik {p : Nat} (h : p < 41) : po_fp po L (L.2.2.2.2.2 p) := Or.inr (Or.inr ⟨p, h, Or.inr (Or.inr (Or.inr (Or.inr rfl)))⟩)
/-- the same outside of the pool -/
def po_out (po : Nat) (L : po_L) (hp hp1 : hp_T) : Prop := ∀ b, ¬ po_fp po L b → hp1 b = hp b
theorem po_out_rf : po_out po L hp hp := fun _ _ => rfl
theorem po_out_up {hp1 : hp_T} {a : Nat} {x : va_E} (h : po_out po L hp hp1) (ha : po_fp po L a) : po_out po L hp (hp_up hp1 a x) := fun b hb => by
  rw [hp_un (fun e => hb (by rw [e]; exact ha))]
  exact h b hb
theorem po_out_put {hp1 : hp_T} {k w i : Nat} {v : kv_T} (h : po_out po L hp hp1) (h1 : po_fp po L k) (h2 : po_fp po L w) (h3 : po_fp po L i) : po_out po L hp (kx_put ca hp1 k w i v) := po_out_up (po_out_up (po_out_up h h2) h3) h1
theorem va_up_up {α : Type} {f : Nat → α} {k : Nat} {u v : α} : va_up (va_up f k u) k v = va_up f k v := by
  funext j
  by_cases h : j = k <;> simp [va_up, h]
/-- behind remove -/
def tx_rm (g : Int64) (t : tx_T) : tx_T := (t.1, t.2.1, t.2.2.1, t.2.2.2.1, t.2.2.2.2.1, t.2.2.2.2.2.1, t.2.2.2.2.2.2.1 &&& (g ^^^ (-1)), t.2.2.2.2.2.2.2 &&& (g ^^^ (-1)))
def cl_rm (S : po_S) (g : Int64) : po_S := (S.1 &&& (g ^^^ (-1)), S.2.1, fun p => tx_rm g (S.2.2 p))
/-- remove, i places done -/
def cl_rmI (S : po_S) (g : Int64) (i : Nat) : po_S := (S.1 &&& (g ^^^ (-1)), S.2.1, fun p => if p < i then tx_rm g (S.2.2 p) else S.2.2 p)
theorem po_ext {S' : po_S} (h : po_At ca hp po L S) (h1 : S.1 = S'.1) (h2 : S.2.1 = S'.2.1) (h3 : ∀ p, p < 41 → S.2.2 p = S'.2.2 p) : po_At ca hp po L S' := ⟨by rw [← h1, ← h2]; exact h.1, h.2.1, fun p hp0 => by rw [← h3 p hp0]; exact h.2.2 p hp0⟩
/-- the links of a newcomer at place q with parents pa, children ch: place p behind the i-th step -/
def tx_ln (q : Nat) (pa ch : Int64) (p : Nat) (t : tx_T) : tx_T := (t.1, t.2.1, t.2.2.1, t.2.2.2.1, t.2.2.2.2.1, t.2.2.2.2.2.1, (if bz_t ch p = true then t.2.2.2.2.2.2.1 ||| bz_b q else t.2.2.2.2.2.2.1), (if bz_t pa p = true then t.2.2.2.2.2.2.2 ||| bz_b q else t.2.2.2.2.2.2.2))
def cl_lnI (S : po_S) (q : Nat) (pa ch : Int64) (i : Nat) : po_S := (S.1, S.2.1, fun p => if p < i then tx_ln q pa ch p (S.2.2 p) else S.2.2 p)
/-- the newcomer's place written: name, keys, links, coming -/
def cl_seat (S : po_S) (q : Nat) (m : nm_T) (v : kv_T) : po_S := (S.1 ||| bz_b q, S.2.1 + nI 1, va_up S.2.2 q (m, v, (S.2.2 q).2.2.1, (S.2.2 q).2.2.2.1, (S.2.2 q).2.2.2.2.1, S.2.1 + nI 1, 0, 0))
end PoolPics2
section Settle
/-- the stages of settle at place q, with the name m and the keys v -/
def cl_st2 (S : po_S) (q : Nat) (m : nm_T) (v : kv_T) : po_S := (S.1, S.2.1, va_up S.2.2 q (m, kv_cp v (S.2.2 q).2.1, (S.2.2 q).2.2))
def tx_pa (t : tx_T) (x : Int64) : tx_T := (t.1, t.2.1, t.2.2.1, t.2.2.2.1, t.2.2.2.2.1, t.2.2.2.2.2.1, x, t.2.2.2.2.2.2.2)
def tx_ch (t : tx_T) (x : Int64) : tx_T := (t.1, t.2.1, t.2.2.1, t.2.2.2.1, t.2.2.2.2.1, t.2.2.2.2.2.1, t.2.2.2.2.2.2.1, x)
def tx_co (t : tx_T) (x : Int32) : tx_T := (t.1, t.2.1, t.2.2.1, t.2.2.2.1, t.2.2.2.2.1, x, t.2.2.2.2.2.2.1, t.2.2.2.2.2.2.2)
def cl_setq (S : po_S) (q : Nat) (t : tx_T) : po_S := (S.1, S.2.1, va_up S.2.2 q t)
def cl_st3 (S : po_S) (q : Nat) (m : nm_T) (v : kv_T) : po_S := cl_setq (cl_st2 S q m v) q (tx_pa ((cl_st2 S q m v).2.2 q) (cl_named (cl_st2 S q m v) v))
def cl_st4 (S : po_S) (q : Nat) (m : nm_T) (v : kv_T) : po_S := cl_setq (cl_st3 S q m v) q (tx_ch ((cl_st3 S q m v).2.2 q) (cl_spenders (cl_st3 S q m v) m))
def cl_st5 (S : po_S) (q : Nat) (m : nm_T) (v : kv_T) : po_S := ((cl_st4 S q m v).1, (cl_st4 S q m v).2.1 + nI 1, (cl_st4 S q m v).2.2)
def cl_st6 (S : po_S) (q : Nat) (m : nm_T) (v : kv_T) : po_S := cl_setq (cl_st5 S q m v) q (tx_co ((cl_st5 S q m v).2.2 q) (cl_st5 S q m v).2.1)
def cl_st7 (S : po_S) (q : Nat) (m : nm_T) (v : kv_T) : po_S := ((cl_st6 S q m v).1 ||| bz_b q, (cl_st6 S q m v).2.1, (cl_st6 S q m v).2.2)
def cl_st (S : po_S) (q : Nat) (m : nm_T) (v : kv_T) : po_S := cl_lnI (cl_st7 S q m v) q (cl_named (cl_st2 S q m v) v) (cl_spenders (cl_st3 S q m v) m) 41
theorem lp_bits {P : Nat → Bool} : ∀ (m i : Nat) (a : Int64) (q : Nat), i + m ≤ 64 → bz_t (lp_fold (fun p a => if P p = true then a ||| bz_b p else a) m i a) q = (bz_t a q || (decide (i ≤ q ∧ q < i + m) && P q)) := by
  intro m
  induction m with
  | zero =>
    intro i a q _
    have : ¬ (i ≤ q ∧ q < i + 0) := by omega
    show bz_t a q = _
    rw [decide_eq_false this, Bool.false_and, Bool.or_false]
  | succ m ih =>
    intro i a q h
    show bz_t (lp_fold _ m (i + 1) (if P i = true then a ||| bz_b i else a)) q = _
    rw [ih (i + 1) _ q (by omega)]
    by_cases hP : P i = true
    · rw [if_pos hP, bz_or, bz_bit (by omega)]
      by_cases e : i = q
      · subst e
        simp [hP]
      · have h1 : decide (i + 1 ≤ q ∧ q < i + 1 + m) = decide (i ≤ q ∧ q < i + (m + 1)) := decide_eq_decide.mpr (by omega)
        rw [h1, decide_eq_false e, Bool.or_false]
    · rw [if_neg hP]
      by_cases e : i = q
      · subst e
        simp [bt_f hP]
      · have h1 : decide (i + 1 ≤ q ∧ q < i + 1 + m) = decide (i ≤ q ∧ q < i + (m + 1)) := decide_eq_decide.mpr (by omega)
        rw [h1]
theorem cl_named_bit (S : po_S) (v : kv_T) (q : Nat) : bz_t (cl_named S v) q = (decide (q < 41) && (bz_t S.1 q && kv_bears v (S.2.2 q).1)) := by
  unfold cl_named
  rw [lp_bits (P := fun p => bz_t S.1 p && kv_bears v (S.2.2 p).1) 41 0 0 q (by decide), bz_0, Bool.false_or]
  congr 1
  exact decide_eq_decide.mpr (by omega)
theorem cl_spenders_bit (S : po_S) (m : nm_T) (q : Nat) : bz_t (cl_spenders S m) q = (decide (q < 41) && (bz_t S.1 q && kv_bears (S.2.2 q).2.1 m)) := by
  unfold cl_spenders
  rw [lp_bits (P := fun p => bz_t S.1 p && kv_bears (S.2.2 p).2.1 m) 41 0 0 q (by decide), bz_0, Bool.false_or]
  congr 1
  exact decide_eq_decide.mpr (by omega)
theorem cl_pa_q {S : po_S} {q : Nat} {m : nm_T} {v : kv_T} (h : bz_t S.1 q = false) : bz_t (cl_named (cl_st2 S q m v) v) q = false := by
  rw [cl_named_bit, show (cl_st2 S q m v).1 = S.1 from rfl, h, Bool.false_and, Bool.and_false]
theorem cl_ch_q {S : po_S} {q : Nat} {m : nm_T} {v : kv_T} (h : bz_t S.1 q = false) : bz_t (cl_spenders (cl_st3 S q m v) m) q = false := by
  rw [cl_spenders_bit, show (cl_st3 S q m v).1 = S.1 from rfl, h, Bool.false_and, Bool.and_false]
/-- the newcomer's own links while the others' are written -/
theorem cl_lnI_q {S : po_S} {q : Nat} {pa ch : Int64} (h1 : bz_t pa q = false) (h2 : bz_t ch q = false) (i : Nat) : (cl_lnI S q pa ch i).2.2 q = S.2.2 q := by
  show (if q < i then tx_ln q pa ch q (S.2.2 q) else S.2.2 q) = S.2.2 q
  by_cases h : q < i
  · rw [if_pos h]
    unfold tx_ln
    rw [h1, h2, if_neg Bool.false_ne_true, if_neg Bool.false_ne_true]
  · rw [if_neg h]
theorem cl_st7_q {S : po_S} {q : Nat} {m : nm_T} {v : kv_T} : ((cl_st7 S q m v).2.2 q).2.2.2.2.2.2.1 = cl_named (cl_st2 S q m v) v ∧ ((cl_st7 S q m v).2.2 q).2.2.2.2.2.2.2 = cl_spenders (cl_st3 S q m v) m := by
  have e6 : (cl_st7 S q m v).2.2 q = tx_co ((cl_st5 S q m v).2.2 q) (cl_st5 S q m v).2.1 := va_up_s
  have e4 : (cl_st5 S q m v).2.2 q = tx_ch ((cl_st3 S q m v).2.2 q) (cl_spenders (cl_st3 S q m v) m) := va_up_s
  have e3 : (cl_st3 S q m v).2.2 q = tx_pa ((cl_st2 S q m v).2.2 q) (cl_named (cl_st2 S q m v) v) := va_up_s
  rw [e6, e4, e3]
  exact ⟨rfl, rfl⟩
theorem cl_rmI_0 {S : po_S} {g : Int64} {p : Nat} : S.2.2 p = (cl_rmI S g 0).2.2 p := (if_neg (Nat.not_lt_zero p) : (if p < 0 then tx_rm g (S.2.2 p) else S.2.2 p) = S.2.2 p).symm
theorem cl_lnI_0 {S : po_S} {q : Nat} {pa ch : Int64} {p : Nat} : S.2.2 p = (cl_lnI S q pa ch 0).2.2 p := (if_neg (Nat.not_lt_zero p) : (if p < 0 then tx_ln q pa ch p (S.2.2 p) else S.2.2 p) = S.2.2 p).symm
end Settle
section Fresh
variable {ca : Nat → ClassId} {hp : hp_T}
theorem hp_nn {a b : Nat} {x : va_E} (hb : hp b = some x) (ha : hp a = none) : b ≠ a := fun e => by
  subst e
  rw [hb] at ha
  cases ha
theorem hp_fu {a b : Nat} {x : va_E} (h : hp_up hp a x b = none) : b ≠ a ∧ hp b = none := by
  by_cases e : b = a
  · subst e
    rw [hp_us] at h
    cases h
  · rw [hp_un e] at h
    exact ⟨e, h⟩
theorem hp_nu {a b : Nat} {x : va_E} (h : hp b ≠ none) : hp_up hp a x b ≠ none := by
  by_cases e : b = a
  · subst e
    rw [hp_us]
    intro z
    cases z
  · rw [hp_un e]
    exact h
/-- the cells that stood, but a, stay -/
def hp_ke (a : Nat) (hp hp1 : hp_T) : Prop := ∀ b, hp b ≠ none → b ≠ a → hp1 b = hp b
theorem hp_ke_rf {a : Nat} : hp_ke a hp hp := fun _ _ _ => rfl
theorem hp_ke_new {a q : Nat} {hp1 : hp_T} {x : va_E} (h : hp_ke a hp hp1) (hq : hp q = none) : hp_ke a hp (hp_up hp1 q x) := fun b hb ha => by
  rw [hp_un (fun e => hb (by rw [e]; exact hq))]
  exact h b hb ha
theorem hp_ke_own {a : Nat} {hp1 : hp_T} {x : va_E} (h : hp_ke a hp hp1) : hp_ke a hp (hp_up hp1 a x) := fun b hb ha => by
  rw [hp_un ha]
  exact h b hb ha
/-- what a callee that owns c (new to us) keeps -/
theorem hp_ke_tr {a c : Nat} {hp1 hp2 : hp_T} (h : hp_ke a hp hp1) (h2 : hp_ke c hp1 hp2) (hc : hp c = none ∨ c = a) : hp_ke a hp hp2 := fun b hb ha => by
  have e := h b hb ha
  rw [h2 b (by rw [e]; exact hb) (fun z => by
    subst z
    rcases hc with hc | hc
    · exact hb hc
    · exact ha hc)]
  exact e
theorem hp_ke_none {a b : Nat} {hp1 : hp_T} (h : hp_ke a hp hp1) (hb : hp1 b = none) (ha : b ≠ a) : hp b = none := by
  cases hq : hp b with
  | none => rfl
  | some y =>
    have := h b (by rw [hq]; intro z; cases z) ha
    rw [hb, hq] at this
    cases this
abbrev kv_0 : kv_T := (0, fun _ => 0, fun _ => 0)
abbrev nm_0 : nm_T := (0, 0, 0, 0)
abbrev tx_0 : tx_T := (nm_0, kv_0, 0, 0, 0, 0, 0, 0)
theorem kx_put_ke {k w i : Nat} {v : kv_T} (hw : hp w = none) (hi : hp i = none) : hp_ke k hp (kx_put ca hp k w i v) := hp_ke_own (hp_ke_new (hp_ke_new hp_ke_rf hw) hi)
end Fresh
