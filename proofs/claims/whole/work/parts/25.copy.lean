/-! The reference: copies, removals, rates. -/
section Copies
variable {ca : Nat → ClassId} {hp : hp_T} {x : Nat} {A : Nat → Nat} {S : mo_S}
theorem mo_setL_id {j : Nat} : mo_setL S j (mo_l S j) = S := by
  unfold mo_setL
  rw [va_up_id]
theorem mo_setI_id {j : Nat} : mo_setI S j (mo_i S j) = S := by
  unfold mo_setI
  rw [va_up_id]
theorem mo_okS {k n : Nat} (h : mo_ok S) (hn : n ≤ 8) : mo_ok (mo_setI S 1 (upd (mo_i S 1) k (nI n))) := by
  obtain ⟨a, b, c⟩ := h
  have e1 : mo_i (mo_setI S 1 (upd (mo_i S 1) k (nI n))) 1 = upd (mo_i S 1) k (nI n) := va_up_s (f := mo_i S) (k := 1) (v := upd (mo_i S 1) k (nI n))
  have e2 : mo_i (mo_setI S 1 (upd (mo_i S 1) k (nI n))) 11 = mo_i S 11 := va_up_n (f := mo_i S) (k := 1) (j := 11) (v := upd (mo_i S 1) k (nI n)) (by decide)
  refine ⟨fun t ht => ?_, ?_, c⟩
  · unfold md_sp
    rw [e1]
    by_cases q : t = k
    · subst q
      rw [pk_us, nI_clamp (by omega)]
      exact ⟨rfl, hn⟩
    · rw [pk_un q]
      exact a t ht
  · unfold md_mk
    rw [e2]
    exact b
def md_cp1 (S : mo_S) (a b : Nat) : mo_S := mo_setL S 0 (lp_fold (fun i f => vp_updL f (4 * b + i) (f (4 * a + i))) 4 0 (mo_l S 0))
def md_cp2 (S : mo_S) (a b : Nat) : mo_S := mo_setL (md_cp1 S a b) 2 (lp_fold (fun i f => vp_updL f (32 * b + i) (f (32 * a + i))) 32 0 (mo_l (md_cp1 S a b) 2))
def md_cp3 (S : mo_S) (a b : Nat) : mo_S := mo_setI (md_cp2 S a b) 3 (lp_fold (fun i f => upd f (8 * b + i) (f (8 * a + i))) 8 0 (mo_i (md_cp2 S a b) 3))
def md_cp4 (S : mo_S) (a b : Nat) : mo_S := mo_setI (md_cp3 S a b) 1 (upd (mo_i (md_cp3 S a b) 1) b (nI (md_sp (md_cp3 S a b) a)))
def md_cp5 (S : mo_S) (a b : Nat) : mo_S := mo_setL (md_cp4 S a b) 4 (vp_updL (mo_l (md_cp4 S a b) 4) b (mo_l (md_cp4 S a b) 4 a))
def md_cp6 (S : mo_S) (a b : Nat) : mo_S := mo_setI (md_cp5 S a b) 5 (upd (mo_i (md_cp5 S a b) 5) b (mo_i (md_cp5 S a b) 5 a))
def md_cp7 (S : mo_S) (a b : Nat) : mo_S := mo_setI (md_cp6 S a b) 6 (upd (mo_i (md_cp6 S a b) 6) b (mo_i (md_cp6 S a b) 6 a))
def md_copy (S : mo_S) (a b : Nat) : mo_S := mo_setI (md_cp7 S a b) 7 (upd (mo_i (md_cp7 S a b) 7) b (mo_i (md_cp7 S a b) 7 a))
def md_rmF (t : Nat) (r : mo_S × Nat) : mo_S × Nat := if md_mk r.1 t = true then r else (md_copy r.1 t r.2, r.2 + 1)
def md_rmR (S : mo_S) : mo_S × Nat := lp_fold md_rmF (mo_z S) 0 (S, 0)
def md_remove (S : mo_S) : mo_S := ((md_rmR S).2, (md_rmR S).1.2)
theorem md_rm_le : ∀ (m i : Nat) (r : mo_S × Nat), r.2 ≤ i → (lp_fold md_rmF m i r).2 ≤ i + m := by
  intro m
  induction m with
  | zero => intro i r h; exact h
  | succ m ih =>
    intro i r h
    have h2 : (md_rmF i r).2 ≤ i + 1 := by
      unfold md_rmF
      split
      · omega
      · show r.2 + 1 ≤ i + 1
        omega
    have := ih (i + 1) (md_rmF i r) h2
    show (lp_fold md_rmF m (i + 1) (md_rmF i r)).2 ≤ _
    omega
theorem md_rm_z : ∀ (m i : Nat) (r : mo_S × Nat), mo_z (lp_fold md_rmF m i r).1 = mo_z r.1 := by
  intro m
  induction m with
  | zero => intro i r; rfl
  | succ m ih =>
    intro i r
    show mo_z (lp_fold md_rmF m (i + 1) (md_rmF i r)).1 = _
    rw [ih]
    unfold md_rmF
    split <;> rfl
/-- less, like, greater: p by q against r by s -/
def md_cm (p q r s : Nat) : Int32 := if p * s < r * q then -1 else if p * s = r * q then nI 0 else nI 1
theorem cq_lt {p q r s : Nat} (h : p * s < r * q) : md_cm p q r s = -1 := if_pos h
theorem cq_eq {p q r s : Nat} (h : p * s = r * q) : md_cm p q r s = nI 0 := by
  unfold md_cm
  rw [if_neg (by omega), if_pos h]
theorem cq_gt {p q r s : Nat} (h : r * q < p * s) : md_cm p q r s = nI 1 := by
  unfold md_cm
  rw [if_neg (by omega), if_neg (by omega)]
theorem cq_div_lt {p q r s : Nat} (hs : 1 ≤ s) (h : p / q < r / s) (hq : 1 ≤ q) : p * s < r * q := by
  have h1 : p < (p / q + 1) * q := by
    have := Nat.div_add_mod p q
    have h2 := Nat.mod_lt p (show q > 0 by omega)
    rw [Nat.add_mul, Nat.one_mul, Nat.mul_comm (p / q) q]
    omega
  have h3 : (p / q + 1) * q ≤ (r / s) * q := Nat.mul_le_mul_right _ h
  have h4 : p < (r / s) * q := by omega
  have h5 : p * s < (r / s) * q * s := Nat.mul_lt_mul_of_pos_right h4 (by omega)
  have h6 : (r / s) * q * s = (s * (r / s)) * q := by
    rw [Nat.mul_assoc, Nat.mul_comm q s, ← Nat.mul_assoc, Nat.mul_comm (r / s) s]
  have h7 : s * (r / s) ≤ r := Nat.mul_div_le r s
  have h8 : (s * (r / s)) * q ≤ r * q := Nat.mul_le_mul_right _ h7
  omega
/-- like whole parts: what they leave decides -/
theorem cq_rest {p q r s : Nat} (h : p / q = r / s) : ∃ K, p * s = K + p % q * s ∧ r * q = K + r % s * q := by
  refine ⟨q * (p / q) * s, ?_, ?_⟩
  · rw [← Nat.add_mul, Nat.div_add_mod]
  · rw [h, Nat.mul_comm q (r / s), Nat.mul_assoc, Nat.mul_comm q s, ← Nat.mul_assoc, Nat.mul_comm (r / s) s, ← Nat.add_mul, Nat.div_add_mod]
theorem cq_neg {p q r s : Nat} : md_cm q p s r = -md_cm p q r s ∨ p * s ≠ p * s := by
  left
  unfold md_cm
  have e1 : q * r = r * q := Nat.mul_comm _ _
  have e2 : s * p = p * s := Nat.mul_comm _ _
  rw [e1, e2]
  by_cases h1 : p * s < r * q
  · rw [if_pos h1, if_neg (by omega), if_neg (by omega)]
    decide
  · by_cases h2 : p * s = r * q
    · rw [if_neg h1, if_pos h2, if_neg (by omega), if_pos h2.symm]
      decide
    · rw [if_neg h1, if_neg h2, if_pos (by omega)]
      decide
/-- a step of compare: what is left, turned round -/
theorem cq_turn {p q r s : Nat} (h : p / q = r / s) : md_cm p q r s = -md_cm q (p % q) s (r % s) := by
  obtain ⟨K, h1, h2⟩ := cq_rest h
  have e : md_cm p q r s = md_cm (p % q) q (r % s) s := by
    unfold md_cm
    rw [h1, h2]
    by_cases a : p % q * s < r % s * q
    · rw [if_pos (by omega), if_pos a]
    · by_cases b : p % q * s = r % s * q
      · rw [if_neg (by omega), if_neg a, if_pos (by omega), if_pos b]
      · rw [if_neg (by omega), if_neg a, if_neg (by omega), if_neg b]
  rw [e]
  have h3 := (cq_neg (p := p % q) (q := q) (r := r % s) (s := s)).resolve_right (fun z => z rfl)
  rw [h3, Int32.neg_neg]
end Copies
