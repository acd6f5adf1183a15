/-! The pool's making; the desk's picture. -/
section MakePool
variable {ca : Nat → ClassId} {hp0 hp : hp_T} {po : Nat} {L : po_L}
def pi_L (L : po_L) (i t n k w z : Nat) : po_L := (L.1, va_up L.2.1 i t, va_up L.2.2.1 i n, va_up L.2.2.2.1 i k, va_up L.2.2.2.2.1 i w, va_up L.2.2.2.2.2 i z)
def pi_inj (f : Nat → Nat) (i : Nat) : Prop := ∀ p q, p < i → q < i → f p = f q → p = q
def pi_At (ca : Nat → ClassId) (hp0 hp : hp_T) (po : Nat) (L : po_L) (i : Nat) : Prop :=
  hp po = some (.inr (3, [.ref L.1, .long 0, .int 0])) ∧ (∃ f : Nat → Option Nat, hp L.1 = some (.inl (ca 2, 41, .inr (.inr (.inr (.inr f))))) ∧ ∀ p, p < i → f p = some (L.2.1 p)) ∧ (∀ p, p < i → tx_At ca hp L p tx_0) ∧ (pi_inj L.2.1 i ∧ pi_inj L.2.2.1 i ∧ pi_inj L.2.2.2.1 i ∧ pi_inj L.2.2.2.2.1 i ∧ pi_inj L.2.2.2.2.2 i) ∧ (∀ p, p < i → hp0 (L.2.1 p) = none ∧ hp0 (L.2.2.1 p) = none ∧ hp0 (L.2.2.2.1 p) = none ∧ hp0 (L.2.2.2.2.1 p) = none ∧ hp0 (L.2.2.2.2.2 p) = none) ∧ hp0 L.1 = none ∧ hp_ke po hp0 hp
theorem pi_inj_s {f : Nat → Nat} {i a : Nat} (h : pi_inj f i) (ha : ∀ p, p < i → f p ≠ a) : pi_inj (va_up f i a) (i + 1) := by
  intro p q hp hq e
  by_cases e1 : p = i
  · by_cases e2 : q = i
    · omega
    · subst e1
      rw [va_up_s, va_up_n e2] at e
      exact absurd e.symm (ha q (by omega))
  · by_cases e2 : q = i
    · subst e2
      rw [va_up_s, va_up_n e1] at e
      exact absurd e (ha p (by omega))
    · rw [va_up_n e1, va_up_n e2] at e
      exact h p q (by omega) (by omega) e
theorem pi_step {i t n k w z : Nat} {hp2 : hp_T} {f : Nat → Option Nat} (h : pi_At ca hp0 hp po L i) (hf : hp L.1 = some (.inl (ca 2, 41, .inr (.inr (.inr (.inr f)))))) (hfp : ∀ p, p < i → f p = some (L.2.1 p)) {x : va_E} (ht : hp t = none) (hn : hp_up hp t x n = none) (hk : hp_up hp t x k = none) (hw : hp_up hp t x w = none) (hz : hp_up hp t x z = none)
    (h2t : hp2 t = some (.inr (2, [.ref n, .ref k, .long 0, .int 0, .int 0, .int 0, .long 0, .long 0]))) (h2n : hp2 n = some (.inr (0, nm_F nm_0))) (h2k : kx_At ca hp2 k w z kv_0) (hke : hp_ke t (hp_up hp t x) hp2) : pi_At ca hp0 (hp_up hp2 L.1 (.inl (ca 2, 41, .inr (.inr (.inr (.inr (va_up f i (some t)))))))) po (pi_L L i t n k w z) (i + 1) := by
  obtain ⟨a1, -, a3, ⟨j1, j2, j3, j4, j5⟩, a5, a6, a7⟩ := h
  obtain ⟨nt, hn⟩ := hp_fu hn
  obtain ⟨kt, hk⟩ := hp_fu hk
  obtain ⟨wt, hw⟩ := hp_fu hw
  obtain ⟨zt, hz⟩ := hp_fu hz
  -- what stood stays
  have st : ∀ {b : Nat} {y : va_E}, hp b = some y → hp2 b = some y := fun {b y} hb => by
    have hbt : b ≠ t := hp_nn hb ht
    rw [hke b (by rw [hp_un hbt, hb]; intro q; cases q) hbt, hp_un hbt]
    exact hb
  have st3 : ∀ {b : Nat} {y : va_E}, hp2 b = some y → b ≠ L.1 → hp_up hp2 L.1 (.inl (ca 2, 41, .inr (.inr (.inr (.inr (va_up f i (some t))))))) b = some y := fun hb hbl => by rw [hp_un hbl]; exact hb
  have l1 := st hf
  have dj : ∀ {b : Nat} {y : va_E}, hp2 b = some y → (∀ c g, y ≠ .inl (c, 41, .inr (.inr (.inr (.inr g))))) → hp_up hp2 L.1 (.inl (ca 2, 41, .inr (.inr (.inr (.inr (va_up f i (some t))))))) b = some y := fun hb hy => st3 hb (hp_ne hb l1 (hy _ _))
  have un0 : ∀ {b : Nat}, hp b = none → b ≠ po → hp0 b = none := fun hb hbp => hp_ke_none a7 hb hbp
  have po' : ∀ {b : Nat}, hp b = none → b ≠ po := fun hb e => by
    subst e
    rw [a1] at hb
    cases hb
  refine ⟨dj (st a1) (fun c g q => by first | cases q | simp at q), ⟨va_up f i (some t), hp_us, fun p hp1 => ?_⟩, fun p hp1 => ?_, ⟨pi_inj_s j1 (fun p hp1 => hp_nn (a3 p hp1).1 ht), pi_inj_s j2 (fun p hp1 => hp_nn (a3 p hp1).2.1 hn), pi_inj_s j3 (fun p hp1 => hp_nn (a3 p hp1).2.2.1 hk), pi_inj_s j4 (fun p hp1 => hp_nn (a3 p hp1).2.2.2.1 hw), pi_inj_s j5 (fun p hp1 => hp_nn (a3 p hp1).2.2.2.2.1 hz)⟩, fun p hp1 => ?_, a6, ?_⟩
  · by_cases e : p = i
    · subst e
      show va_up f p (some t) p = some (va_up L.2.1 p t p)
      rw [va_up_s, va_up_s]
    · show va_up f i (some t) p = some (va_up L.2.1 i t p)
      rw [va_up_n e, va_up_n e]
      exact hfp p (by omega)
  · by_cases e : p = i
    · subst e
      unfold tx_At tx_F
      show _ ∧ _
      simp only [pi_L, va_up_s]
      exact ⟨dj h2t (fun c g q => by first | cases q | simp at q), dj h2n (fun c g q => by first | cases q | simp at q), dj h2k.1 (fun c g q => by first | cases q | simp at q), dj h2k.2.1 (fun c g q => by first | cases q | simp at q), dj h2k.2.2.1 (fun c g q => by first | cases q | simp at q), h2k.2.2.2⟩
    · have g := a3 p (by omega)
      unfold tx_At tx_F at g ⊢
      simp only [pi_L, va_up_n e]
      exact ⟨dj (st g.1) (fun c g q => by first | cases q | simp at q), dj (st g.2.1) (fun c g q => by first | cases q | simp at q), dj (st g.2.2.1) (fun c g q => by first | cases q | simp at q), dj (st g.2.2.2.1) (fun c g q => by first | cases q | simp at q), dj (st g.2.2.2.2.1) (fun c g q => by first | cases q | simp at q), g.2.2.2.2.2⟩
  · by_cases e : p = i
    · subst e
      simp only [pi_L, va_up_s]
      exact ⟨un0 ht (po' ht), un0 hn (po' hn), un0 hk (po' hk), un0 hw (po' hw), un0 hz (po' hz)⟩
    · simp only [pi_L, va_up_n e]
      exact a5 p (by omega)
  · intro b hb hbp
    have hb1 := a7 b hb hbp
    have hbn : hp b ≠ none := by rw [hb1]; exact hb
    have hbt : b ≠ t := fun q => hbn (by rw [q]; exact ht)
    have hbl : b ≠ L.1 := fun q => hb (by rw [q]; exact a6)
    rw [hp_un hbl, hke b (by rw [hp_un hbt]; exact hbn) hbt, hp_un hbt]
    exact hb1
theorem pi_end (h : pi_At ca hp0 hp po L 41) : po_At ca hp po L (0, 0, fun _ => tx_0) ∧ po_ok L := by
  obtain ⟨a1, a2, a3, a4, -⟩ := h
  exact ⟨⟨a1, a2, a3⟩, a4⟩
end MakePool
section Desk
/-- where a desk's cells lie: itself, the name in hand, the keys told, their words, their indexes, the pool, the row, its words, the pool's -/
abbrev dk_L : Type := Nat × Nat × Nat × Nat × Nat × Nat × Nat × Nat × po_L
abbrev dk_x (L : dk_L) : Nat := L.1
abbrev dk_n (L : dk_L) : Nat := L.2.1
abbrev dk_k (L : dk_L) : Nat := L.2.2.1
abbrev dk_w (L : dk_L) : Nat := L.2.2.2.1
abbrev dk_i (L : dk_L) : Nat := L.2.2.2.2.1
abbrev dk_p (L : dk_L) : Nat := L.2.2.2.2.2.1
abbrev dk_r (L : dk_L) : Nat := L.2.2.2.2.2.2.1
abbrev dk_q (L : dk_L) : Nat := L.2.2.2.2.2.2.2.1
abbrev dk_P (L : dk_L) : po_L := L.2.2.2.2.2.2.2.2
/-- a desk: the name in hand, the keys told, the pool, the row's length and words -/
abbrev dk_S : Type := nm_T × kv_T × po_S × Nat × (Nat → Int64)
variable {ca : Nat → ClassId} {hp hp1 : hp_T} {L : dk_L} {S : dk_S}
def dk_At (ca : Nat → ClassId) (hp : hp_T) (L : dk_L) (S : dk_S) : Prop := hp (dk_x L) = some (.inr (5, [.ref (dk_n L), .ref (dk_k L), .ref (dk_p L), .ref (dk_r L)])) ∧ hp (dk_n L) = some (.inr (0, nm_F S.1)) ∧ kx_At ca hp (dk_k L) (dk_w L) (dk_i L) S.2.1 ∧ po_At ca hp (dk_p L) (dk_P L) S.2.2.1 ∧ hp (dk_r L) = some (.inr (4, [.ref (dk_q L), .int (nI S.2.2.2.1)])) ∧ hp (dk_q L) = some (.inl (ca 1, 164, .inr (.inl S.2.2.2.2))) ∧ S.2.2.2.1 ≤ 41
def dk_ok (L : dk_L) : Prop := po_ok (dk_P L) ∧ (∀ p, p < 41 → dk_n L ≠ (dk_P L).2.2.1 p) ∧ (∀ p, p < 41 → dk_k L ≠ (dk_P L).2.2.2.1 p ∧ dk_w L ≠ (dk_P L).2.2.2.2.1 p ∧ dk_i L ≠ (dk_P L).2.2.2.2.2 p) ∧ (∀ p, p < 41 → dk_q L ≠ (dk_P L).2.2.2.2.1 p) ∧ dk_q L ≠ dk_w L
def dk_fp (L : dk_L) (b : Nat) : Prop := b = dk_x L ∨ b = dk_n L ∨ b = dk_k L ∨ b = dk_w L ∨ b = dk_i L ∨ b = dk_r L ∨ b = dk_q L ∨ po_fp (dk_p L) (dk_P L) b
def dk_out (L : dk_L) (hp hp1 : hp_T) : Prop := ∀ b, ¬ dk_fp L b → hp1 b = hp b
theorem dk_out_rf : dk_out L hp hp := fun _ _ => rfl
theorem dk_out_tr {hp2 : hp_T} (h : dk_out L hp hp1) (h2 : dk_out L hp1 hp2) : dk_out L hp hp2 := fun b hb => (h2 b hb).trans (h b hb)
theorem dk_out_up {a : Nat} {x : va_E} (ha : dk_fp L a) : dk_out L hp (hp_up hp a x) := fun b hb => hp_un (fun e => hb (by rw [e]; exact ha))
theorem dk_out_po (h : po_out (dk_p L) (dk_P L) hp hp1) : dk_out L hp hp1 := fun b hb => h b (fun z => hb (Or.inr (Or.inr (Or.inr (Or.inr (Or.inr (Or.inr (Or.inr z))))))))
/-- a cell of another kind than the pool's isn't the pool's -/
theorem po_far {po b : Nat} {PL : po_L} {P : po_S} {y : va_E} (h : po_At ca hp po PL P) (hb : hp b = some y) (h0 : ∀ fs, y ≠ .inr (3, fs)) (h1 : ∀ c n f, y ≠ .inl (c, n, .inr (.inr (.inr (.inr f))))) (h2 : ∀ fs, y ≠ .inr (2, fs)) (h3 : ∀ p, p < 41 → b ≠ PL.2.2.1 p) (h4 : ∀ p, p < 41 → b ≠ PL.2.2.2.1 p) (h5 : ∀ p, p < 41 → b ≠ PL.2.2.2.2.1 p) (h6 : ∀ p, p < 41 → b ≠ PL.2.2.2.2.2 p) : ¬ po_fp po PL b := by
  obtain ⟨f, hf, -⟩ := h.2.1
  rintro (e | e | ⟨p, hp0, e | e | e | e | e⟩)
  · exact hp_ne hb h.1 (h0 _) e
  · exact hp_ne hb hf (h1 _ _ _) e
  · exact hp_ne hb (h.2.2 p hp0).1 (h2 _) e
  · exact h3 p hp0 e
  · exact h4 p hp0 e
  · exact h5 p hp0 e
  · exact h6 p hp0 e
theorem dk_far (h : dk_At ca hp L S) (ho : dk_ok L) : ¬ po_fp (dk_p L) (dk_P L) (dk_x L) ∧ ¬ po_fp (dk_p L) (dk_P L) (dk_n L) ∧ ¬ po_fp (dk_p L) (dk_P L) (dk_k L) ∧ ¬ po_fp (dk_p L) (dk_P L) (dk_w L) ∧ ¬ po_fp (dk_p L) (dk_P L) (dk_i L) ∧ ¬ po_fp (dk_p L) (dk_P L) (dk_r L) ∧ ¬ po_fp (dk_p L) (dk_P L) (dk_q L) := by
  obtain ⟨a1, a2, a3, a4, a5, a6, -⟩ := h
  obtain ⟨o1, o2, o3, o4, o5⟩ := ho
  have g := a4.2.2
  refine ⟨po_far a4 a1 (fun fs q => by cases q) (fun c n f q => by cases q) (fun fs q => by cases q) (fun p hp0 => hp_ne a1 (g p hp0).2.1 (fun q => by cases q)) (fun p hp0 => hp_ne a1 (g p hp0).2.2.1 (fun q => by cases q)) (fun p hp0 => hp_ne a1 (g p hp0).2.2.2.1 (fun q => by cases q)) (fun p hp0 => hp_ne a1 (g p hp0).2.2.2.2.1 (fun q => by cases q)), ?_, ?_, ?_, ?_, ?_, ?_⟩
  · exact po_far a4 a2 (fun fs q => by cases q) (fun c n f q => by cases q) (fun fs q => by cases q) o2 (fun p hp0 => hp_ne a2 (g p hp0).2.2.1 (fun q => by cases q)) (fun p hp0 => hp_ne a2 (g p hp0).2.2.2.1 (fun q => by cases q)) (fun p hp0 => hp_ne a2 (g p hp0).2.2.2.2.1 (fun q => by cases q))
  · exact po_far a4 a3.1 (fun fs q => by cases q) (fun c n f q => by cases q) (fun fs q => by cases q) (fun p hp0 => hp_ne a3.1 (g p hp0).2.1 (fun q => by cases q)) (fun p hp0 => (o3 p hp0).1) (fun p hp0 => hp_ne a3.1 (g p hp0).2.2.2.1 (fun q => by cases q)) (fun p hp0 => hp_ne a3.1 (g p hp0).2.2.2.2.1 (fun q => by cases q))
  · exact po_far a4 a3.2.1 (fun fs q => by cases q) (fun c n f q => by simp at q) (fun fs q => by cases q) (fun p hp0 => hp_ne a3.2.1 (g p hp0).2.1 (fun q => by cases q)) (fun p hp0 => hp_ne a3.2.1 (g p hp0).2.2.1 (fun q => by cases q)) (fun p hp0 => (o3 p hp0).2.1) (fun p hp0 => hp_ne a3.2.1 (g p hp0).2.2.2.2.1 (fun q => by simp at q))
  · exact po_far a4 a3.2.2.1 (fun fs q => by cases q) (fun c n f q => by simp at q) (fun fs q => by cases q) (fun p hp0 => hp_ne a3.2.2.1 (g p hp0).2.1 (fun q => by cases q)) (fun p hp0 => hp_ne a3.2.2.1 (g p hp0).2.2.1 (fun q => by cases q)) (fun p hp0 => hp_ne a3.2.2.1 (g p hp0).2.2.2.1 (fun q => by simp at q)) (fun p hp0 => (o3 p hp0).2.2)
  · exact po_far a4 a5 (fun fs q => by cases q) (fun c n f q => by cases q) (fun fs q => by cases q) (fun p hp0 => hp_ne a5 (g p hp0).2.1 (fun q => by cases q)) (fun p hp0 => hp_ne a5 (g p hp0).2.2.1 (fun q => by cases q)) (fun p hp0 => hp_ne a5 (g p hp0).2.2.2.1 (fun q => by cases q)) (fun p hp0 => hp_ne a5 (g p hp0).2.2.2.2.1 (fun q => by cases q))
  · exact po_far a4 a6 (fun fs q => by cases q) (fun c n f q => by simp at q) (fun fs q => by cases q) (fun p hp0 => hp_ne a6 (g p hp0).2.1 (fun q => by cases q)) (fun p hp0 => hp_ne a6 (g p hp0).2.2.1 (fun q => by cases q)) o4 (fun p hp0 => hp_ne a6 (g p hp0).2.2.2.2.1 (fun q => by simp at q))
/-- the pool moves alone -/
theorem dk_setP (h : dk_At ca hp L S) (ho : dk_ok L) {P : po_S} (hP : po_At ca hp1 (dk_p L) (dk_P L) P) (hu : po_out (dk_p L) (dk_P L) hp hp1) : dk_At ca hp1 L (S.1, S.2.1, P, S.2.2.2) := by
  obtain ⟨f1, f2, f3, f4, f5, f6, f7⟩ := dk_far h ho
  obtain ⟨a1, a2, a3, -, a5, a6, a7⟩ := h
  exact ⟨by rw [hu _ f1]; exact a1, by rw [hu _ f2]; exact a2, kx_congr a3 (hu _ f3) (hu _ f4) (hu _ f5), hP, by rw [hu _ f6]; exact a5, by rw [hu _ f7]; exact a6, a7⟩
/-- a pool stays where nothing of it is written -/
theorem po_keep {po : Nat} {PL : po_L} {P : po_S} (h : po_At ca hp po PL P) (hu : ∀ b, po_fp po PL b → hp1 b = hp b) : po_At ca hp1 po PL P := by
  obtain ⟨f, hf, hfp⟩ := h.2.1
  refine ⟨by rw [hu _ po_fp_po]; exact h.1, ⟨f, by rw [hu _ (Or.inr (Or.inl rfl))]; exact hf, hfp⟩, fun p hp0 => ?_⟩
  exact tx_congr (h.2.2 p hp0) (hu _ (po_fp_tx hp0)) (hu _ (po_fp_nm hp0)) (hu _ (po_fp_ks hp0)) (hu _ (po_fp_wk hp0)) (hu _ (po_fp_ik hp0))
theorem po_keep1 {po a : Nat} {PL : po_L} {P : po_S} {x : va_E} (h : po_At ca hp po PL P) (ha : ¬ po_fp po PL a) : po_At ca (hp_up hp a x) po PL P := po_keep h (fun b hb => hp_un (fun e => ha (by rw [← e]; exact hb)))
/-- the name in hand is told -/
theorem dk_setN (h : dk_At ca hp L S) (ho : dk_ok L) (m : nm_T) : dk_At ca (hp_up hp (dk_n L) (.inr (0, nm_F m))) L (m, S.2) := by
  obtain ⟨f1, f2, f3, f4, f5, f6, f7⟩ := dk_far h ho
  obtain ⟨a1, a2, a3, a4, a5, a6, a7⟩ := h
  have k : ∀ {b : Nat} {y : va_E}, hp b = some y → (∀ fs, y ≠ .inr (0, fs)) → hp_up hp (dk_n L) (.inr (0, nm_F m)) b = hp b := fun hb hy => hp_un (hp_ne hb a2 (hy _))
  exact ⟨by rw [k a1 (fun fs q => by cases q)]; exact a1, hp_us, kx_congr a3 (k a3.1 (fun fs q => by cases q)) (k a3.2.1 (fun fs q => by cases q)) (k a3.2.2.1 (fun fs q => by cases q)), po_keep1 a4 f2, by rw [k a5 (fun fs q => by cases q)]; exact a5, by rw [k a6 (fun fs q => by cases q)]; exact a6, a7⟩
/-- the keys told are written -/
theorem dk_setK (h : dk_At ca hp L S) (ho : dk_ok L) {v : kv_T} (hv : v.1 ≤ 8) : dk_At ca (kx_put ca hp (dk_k L) (dk_w L) (dk_i L) v) L (S.1, v, S.2.2) := by
  obtain ⟨f1, f2, f3, f4, f5, f6, f7⟩ := dk_far h ho
  obtain ⟨a1, a2, a3, a4, a5, a6, a7⟩ := h
  obtain ⟨o1, o2, o3, o4, o5⟩ := ho
  refine ⟨?_, ?_, kx_put_at a3 hv, po_keep a4 (fun b hb => kx_put_un (fun e => f3 (by rw [← e]; exact hb)) (fun e => f4 (by rw [← e]; exact hb)) (fun e => f5 (by rw [← e]; exact hb))), ?_, ?_, a7⟩
  · rw [kx_put_un (hp_ne a1 a3.1 (fun q => by cases q)) (hp_ne a1 a3.2.1 (fun q => by cases q)) (hp_ne a1 a3.2.2.1 (fun q => by cases q))]
    exact a1
  · rw [kx_put_un (hp_ne a2 a3.1 (fun q => by cases q)) (hp_ne a2 a3.2.1 (fun q => by cases q)) (hp_ne a2 a3.2.2.1 (fun q => by cases q))]
    exact a2
  · rw [kx_put_un (hp_ne a5 a3.1 (fun q => by cases q)) (hp_ne a5 a3.2.1 (fun q => by cases q)) (hp_ne a5 a3.2.2.1 (fun q => by cases q))]
    exact a5
  · rw [kx_put_un (hp_ne a6 a3.1 (fun q => by cases q)) o5 (hp_ne a6 a3.2.2.1 (fun q => by simp at q))]
    exact a6
theorem dk_outK {v : kv_T} : dk_out L hp (kx_put ca hp (dk_k L) (dk_w L) (dk_i L) v) := fun b hb => kx_put_un (fun e => hb (Or.inr (Or.inr (Or.inl e)))) (fun e => hb (Or.inr (Or.inr (Or.inr (Or.inl e))))) (fun e => hb (Or.inr (Or.inr (Or.inr (Or.inr (Or.inl e))))))
/-- the keys are forgotten -/
theorem dk_clear (h : dk_At ca hp L S) : hp_up hp (dk_k L) (.inr (1, [.ref (dk_w L), .ref (dk_i L), .int (nI 0)])) = kx_put ca hp (dk_k L) (dk_w L) (dk_i L) (0, S.2.1.2) := by
  have a := h.2.2.1
  unfold kx_put
  rw [hp_self a.2.1, hp_self a.2.2.1]
/-- the row is written -/
theorem dk_setR (h : dk_At ca hp L S) (ho : dk_ok L) {n : Nat} {f : Nat → Int64} (hn : n ≤ 41) : dk_At ca (hp_up (hp_up hp (dk_q L) (.inl (ca 1, 164, .inr (.inl f)))) (dk_r L) (.inr (4, [.ref (dk_q L), .int (nI n)]))) L (S.1, S.2.1, S.2.2.1, n, f) := by
  obtain ⟨f1, f2, f3, f4, f5, f6, f7⟩ := dk_far h ho
  obtain ⟨a1, a2, a3, a4, a5, a6, a7⟩ := h
  obtain ⟨o1, o2, o3, o4, o5⟩ := ho
  have k : ∀ {b : Nat}, b ≠ dk_r L → b ≠ dk_q L → hp_up (hp_up hp (dk_q L) (.inl (ca 1, 164, .inr (.inl f)))) (dk_r L) (.inr (4, [.ref (dk_q L), .int (nI n)])) b = hp b := fun h1 h2 => by rw [hp_un h1, hp_un h2]
  refine ⟨?_, ?_, kx_congr a3 ?_ ?_ ?_, po_keep a4 (fun b hb => k (fun e => f6 (by rw [← e]; exact hb)) (fun e => f7 (by rw [← e]; exact hb))), hp_us, ?_, hn⟩
  · rw [k (hp_ne a1 a5 (fun q => by cases q)) (hp_ne a1 a6 (fun q => by cases q))]
    exact a1
  · rw [k (hp_ne a2 a5 (fun q => by cases q)) (hp_ne a2 a6 (fun q => by cases q))]
    exact a2
  · exact k (hp_ne a3.1 a5 (fun q => by cases q)) (hp_ne a3.1 a6 (fun q => by cases q))
  · exact k (hp_ne a3.2.1 a5 (fun q => by cases q)) (fun e => o5 e.symm)
  · exact k (hp_ne a3.2.2.1 a5 (fun q => by cases q)) (hp_ne a3.2.2.1 a6 (fun q => by simp at q))
  · rw [hp_un (hp_ne a6 a5 (fun q => by cases q)), hp_us]
theorem dk_outR {n : Nat} {f : Nat → Int64} : dk_out L hp (hp_up (hp_up hp (dk_q L) (.inl (ca 1, 164, .inr (.inl f)))) (dk_r L) (.inr (4, [.ref (dk_q L), .int (nI n)]))) := fun b hb => by rw [hp_un (fun e => hb (Or.inr (Or.inr (Or.inr (Or.inr (Or.inr (Or.inl e))))))), hp_un (fun e => hb (Or.inr (Or.inr (Or.inr (Or.inr (Or.inr (Or.inr (Or.inl e)))))))) ]
theorem dk_clearR (h : dk_At ca hp L S) : hp_up hp (dk_r L) (.inr (4, [.ref (dk_q L), .int (nI 0)])) = hp_up (hp_up hp (dk_q L) (.inl (ca 1, 164, .inr (.inl S.2.2.2.2)))) (dk_r L) (.inr (4, [.ref (dk_q L), .int (nI 0)])) := by rw [hp_self h.2.2.2.2.2.1]
end Desk
section MakeDesk
variable {ca : Nat → ClassId} {hp : hp_T} {po : Nat} {PL : po_L} {P : po_S}
theorem po_some (h : po_At ca hp po PL P) {b : Nat} (hb : po_fp po PL b) : hp b ≠ none := by
  obtain ⟨f, hf, -⟩ := h.2.1
  intro z
  rcases hb with e | e | ⟨p, hp0, e⟩
  · rw [e, h.1] at z
    cases z
  · rw [e, hf] at z
    cases z
  · have g := h.2.2 p hp0
    rcases e with e | e | e | e | e
    · rw [e, g.1] at z
      cases z
    · rw [e, g.2.1] at z
      cases z
    · rw [e, g.2.2.1] at z
      cases z
    · rw [e, g.2.2.2.1] at z
      cases z
    · rw [e, g.2.2.2.2.1] at z
      cases z
/-- a desk's or a row's cell isn't the pool's -/
theorem po_nc (h : po_At ca hp po PL P) {b c : Nat} {fs : List Value} (hb : hp b = some (.inr (c, fs))) (hc : 4 ≤ c) : ¬ po_fp po PL b := by
  obtain ⟨f, hf, -⟩ := h.2.1
  rintro (e | e | ⟨p, hp0, e | e | e | e | e⟩)
  · rw [e, h.1] at hb
    cases hb
    omega
  · rw [e, hf] at hb
    cases hb
  · rw [e, (h.2.2 p hp0).1] at hb
    cases hb
    omega
  · rw [e, (h.2.2 p hp0).2.1] at hb
    cases hb
    omega
  · rw [e, (h.2.2 p hp0).2.2.1] at hb
    cases hb
    omega
  · rw [e, (h.2.2 p hp0).2.2.2.1] at hb
    cases hb
  · rw [e, (h.2.2 p hp0).2.2.2.2.1] at hb
    cases hb
theorem po_nx (h : po_At ca hp po PL P) {b : Nat} {fs : List Value} (hb : hp b = some (.inr (5, fs))) : ¬ po_fp po PL b := po_nc h hb (by decide)
theorem po_nr (h : po_At ca hp po PL P) {b : Nat} {fs : List Value} (hb : hp b = some (.inr (4, fs))) : ¬ po_fp po PL b := po_nc h hb (by decide)
end MakeDesk
