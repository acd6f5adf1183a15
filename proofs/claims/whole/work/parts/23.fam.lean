/-! The reference's marks and families. -/
section Marks
variable {ca : Nat → ClassId} {hp : hp_T} {x : Nat} {A : Nat → Nat} {S : mo_S}
def mo_M (S : mo_S) (mk : Nat → Bool) : mo_S := mo_setI S 11 (fun u => bI (mk u))
theorem mk_upd {mk : Nat → Bool} {k : Nat} {b : Bool} : upd (fun u => bI (mk u)) k (bI b) = fun u => bI (va_up mk k b u) := by
  funext u
  by_cases h : u = k <;> simp [upd, va_up, h]
theorem mo_setII {j : Nat} {f g : Nat → Int32} : mo_setI (mo_setI S j f) j g = mo_setI S j g := by
  unfold mo_setI mo_i
  dsimp only
  rw [va_up_up]
theorem mo_setLL {j : Nat} {f g : Nat → Int64} : mo_setL (mo_setL S j f) j g = mo_setL S j g := by
  unfold mo_setL mo_l
  dsimp only
  rw [va_up_up]
theorem mo_MM {mk mk' : Nat → Bool} : mo_M (mo_M S mk) mk' = mo_M S mk' := mo_setII
theorem md_mkM {mk : Nat → Bool} {u : Nat} : md_mk (mo_M S mk) u = mk u := by
  have e : mo_i (mo_M S mk) 11 = fun u => bI (mk u) := va_up_s (f := mo_i S) (k := 11) (v := fun u => bI (mk u))
  unfold md_mk
  simp only [e]
  cases mk u <;> decide
theorem va_up_id {α : Type} {f : Nat → α} {k : Nat} : va_up f k (f k) = f := by
  funext j
  by_cases h : j = k <;> simp [va_up, h]
theorem mo_M_self (h : mo_ok S) : mo_M S (md_mk S) = S := by
  unfold mo_M mo_setI
  rw [← h.2.1, va_up_id]
theorem md_hangsM {mk : Nat → Bool} {t o : Nat} : md_hangs (mo_M S mk) t o = md_hangs S t o := rfl
theorem mo_okMM {mk : Nat → Bool} (h : mo_ok S) : mo_ok (mo_M S mk) := mo_okM h
/-- a mark is set -/
theorem mo_putM {mk : Nat → Bool} {k : Nat} {b : Bool} {y : va_E} (h : mo_At ca hp x A (mo_M S mk)) (hA : pi_inj A 13) (hy : y = .inl (ca 3, 42, .inl (upd (fun u => bI (mk u)) k (bI b)))) : mo_At ca (hp_up hp (A 11) y) x A (mo_M S (va_up mk k b)) := by
  have e : mo_M S (va_up mk k b) = mo_setI (mo_M S mk) 11 (fun u => bI (va_up mk k b u)) := mo_MM.symm
  rw [e]
  refine mo_putI h hA (by decide) ?_ (mo_okM h.2.2)
  rw [hy, mk_upd]
  unfold mo_cell mo_setI mo_i
  dsimp only
  rw [va_up_s]
  rfl
def md_one (t : Nat) (mk : Nat → Bool) : Nat → Bool := lp_fold (fun u mk => va_up mk u (decide (u = t))) 42 0 mk
def md_hit (S : mo_S) (mk : Nat → Bool) (u : Nat) : Bool := lp_any (fun v => mk v && (!decide (u = v) && md_hangs S u v)) 42 0
def md_passF (S : mo_S) (u : Nat) (r : (Nat → Bool) × Bool) : (Nat → Bool) × Bool := if r.1 u = true then r else if md_hit S r.1 u = true then (va_up r.1 u true, true) else r
def md_pass (S : mo_S) (n : Nat) (mk : Nat → Bool) : (Nat → Bool) × Bool := lp_fold (md_passF S) n 0 (mk, false)
def md_famW (S : mo_S) (n : Nat) : Nat → (Nat → Bool) → (Nat → Bool)
  | 0, f => f
  | m + 1, f => if (md_pass S n f).2 = true then md_famW S n m (md_pass S n f).1 else (md_pass S n f).1
/-- the marks of a family among the first n: t, who hangs on it, .. -/
def md_fam (S : mo_S) (t n : Nat) : Nat → Bool := md_famW S n 43 (md_one t (md_mk S))
theorem ct_mono {P R : Nat → Bool} {n : Nat} (h : ∀ i, P i = true → R i = true) : ct_n P n ≤ ct_n R n := by
  induction n with
  | zero => exact Nat.le_refl _
  | succ n ih =>
    show ct_n P n + (if P n = true then 1 else 0) ≤ ct_n R n + (if R n = true then 1 else 0)
    by_cases e : P n = true
    · rw [if_pos e, if_pos (h n e)]
      omega
    · rw [if_neg e]
      omega
theorem ct_grow {P R : Nat → Bool} : ∀ {n : Nat} (_ : ∀ i, P i = true → R i = true) (u : Nat), u < n → P u = false → R u = true → ct_n P n < ct_n R n := by
  intro n
  induction n with
  | zero => intro _ u hu; omega
  | succ n ih =>
    intro h u hu h1 h2
    show ct_n P n + (if P n = true then 1 else 0) < ct_n R n + (if R n = true then 1 else 0)
    by_cases e : u = n
    · subst e
      rw [h1, h2, if_neg Bool.false_ne_true, if_pos rfl]
      have := ct_mono (n := u) h
      omega
    · have := ih h u (by omega) h1 h2
      by_cases q : P n = true
      · rw [if_pos q, if_pos (h n q)]
        omega
      · rw [if_neg q]
        omega
theorem ct_le (P : Nat → Bool) (n : Nat) : ct_n P n ≤ n := by
  induction n with
  | zero => exact Nat.le_refl _
  | succ n ih =>
    show ct_n P n + (if P n = true then 1 else 0) ≤ n + 1
    split <;> omega
theorem md_passL (S : mo_S) : ∀ (m i : Nat) (r : (Nat → Bool) × Bool), (∀ v, r.1 v = true → (lp_fold (md_passF S) m i r).1 v = true) ∧ (r.2 = true → (lp_fold (md_passF S) m i r).2 = true) ∧ (r.2 = false → (lp_fold (md_passF S) m i r).2 = true → ∃ u, i ≤ u ∧ u < i + m ∧ r.1 u = false ∧ (lp_fold (md_passF S) m i r).1 u = true) := by
  intro m
  induction m with
  | zero => intro i r; exact ⟨fun _ h => h, fun h => h, fun h1 h2 => by rw [show (lp_fold (md_passF S) 0 i r) = r from rfl, h1] at h2; cases h2⟩
  | succ m ih =>
    intro i r
    obtain ⟨a1, a2, a3⟩ := ih (i + 1) (md_passF S i r)
    show (∀ v, r.1 v = true → (lp_fold (md_passF S) m (i + 1) (md_passF S i r)).1 v = true) ∧ (r.2 = true → (lp_fold (md_passF S) m (i + 1) (md_passF S i r)).2 = true) ∧ (r.2 = false → (lp_fold (md_passF S) m (i + 1) (md_passF S i r)).2 = true → ∃ u, i ≤ u ∧ u < i + (m + 1) ∧ r.1 u = false ∧ (lp_fold (md_passF S) m (i + 1) (md_passF S i r)).1 u = true)
    by_cases h1 : r.1 i = true
    · have e : md_passF S i r = r := if_pos h1
      rw [e] at a1 a2 a3 ⊢
      exact ⟨a1, a2, fun q1 q2 => by obtain ⟨u, b1, b2, b3⟩ := a3 q1 q2; exact ⟨u, by omega, by omega, b3⟩⟩
    · by_cases h2 : md_hit S r.1 i = true
      · have e : md_passF S i r = (va_up r.1 i true, true) := by unfold md_passF; rw [if_neg h1, if_pos h2]
        rw [e] at a1 a2 a3 ⊢
        have mono : ∀ v, r.1 v = true → va_up r.1 i true v = true := fun v hv => by
          by_cases q : v = i
          · subst q; exact va_up_s
          · rw [va_up_n q]; exact hv
        exact ⟨fun v hv => a1 v (mono v hv), fun _ => a2 rfl, fun _ _ => ⟨i, Nat.le_refl _, by omega, bt_f h1, a1 i va_up_s⟩⟩
      · have e : md_passF S i r = r := by unfold md_passF; rw [if_neg h1, if_neg h2]
        rw [e] at a1 a2 a3 ⊢
        exact ⟨a1, a2, fun q1 q2 => by obtain ⟨u, b1, b2, b3⟩ := a3 q1 q2; exact ⟨u, by omega, by omega, b3⟩⟩
theorem md_pass_grow {n : Nat} {mk : Nat → Bool} (h : (md_pass S n mk).2 = true) : ct_n mk n < ct_n (md_pass S n mk).1 n := by
  obtain ⟨a1, -, a3⟩ := md_passL S n 0 (mk, false)
  obtain ⟨u, -, b2, b3, b4⟩ := a3 rfl h
  exact ct_grow a1 u (by omega) b3 b4
end Marks
