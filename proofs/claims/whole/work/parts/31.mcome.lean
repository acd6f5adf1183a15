/-! The reference's order, come, enter, making, as words. -/
section MCome
variable {S : mo_S}
def md_open (S : mo_S) (q : Nat) (k0 : Int32) (t : Nat) : Bool := !md_mk S t && (decide (lN (q + md_si S t) ≤ k0.toInt64) && !md_stuck S t)
def md_bestF (S : mo_S) (q : Nat) (k0 : Int32) (t : Nat) (acc : Option Nat) : Option Nat := if (md_open S q k0 t && cl_ob (fun b => decide (0 < md_cm (md_fe S t) (md_si S t) (md_fe S b) (md_si S b))) acc) = true then some t else acc
def md_best (S : mo_S) (q : Nat) (k0 : Int32) : Option Nat := lp_fold (md_bestF S q k0) (mo_z S) 0 none
theorem md_best_some {q : Nat} {k0 : Int32} : ∀ (m i : Nat) (acc : Option Nat) (b : Nat), lp_fold (md_bestF S q k0) m i acc = some b → acc = some b ∨ (i ≤ b ∧ b < i + m ∧ md_open S q k0 b = true) := by
  intro m
  induction m with
  | zero => intro i acc b h; exact Or.inl h
  | succ m ih =>
    intro i acc b h
    rcases ih (i + 1) (md_bestF S q k0 i acc) b h with e | ⟨e1, e2, e3⟩
    · unfold md_bestF at e
      by_cases c : (md_open S q k0 i && cl_ob (fun b => decide (0 < md_cm (md_fe S i) (md_si S i) (md_fe S b) (md_si S b))) acc) = true
      · rw [if_pos c] at e
        injection e with e
        subst e
        exact Or.inr ⟨by omega, by omega, (Bool.and_eq_true _ _ |>.mp c).1⟩
      · rw [if_neg c] at e
        exact Or.inl e
    · exact Or.inr ⟨by omega, by omega, e3⟩
def md_or1 (S : mo_S) (b : Nat) : mo_S := mo_M S (va_up (md_mk S) b true)
def md_or2 (S : mo_S) (b : Nat) : mo_S := mo_setL (md_or1 S b) 12 (lp_fold (fun i f => vp_updL f (4 * mo_r (md_or1 S b) + i) (mo_l (md_or1 S b) 0 (4 * b + i))) 4 0 (mo_l (md_or1 S b) 12))
def md_or3 (S : mo_S) (b : Nat) : mo_S := (mo_z S, mo_c S, mo_t S, mo_r S + 1, (md_or2 S b).2.2.2.2)
def md_or0 (S : mo_S) : mo_S := (mo_z S, mo_c S, mo_t S, 0, (mo_M S (lp_fold (fun u mk => va_up mk u false) 42 0 (md_mk S))).2.2.2.2)
def md_ordL (k0 : Int32) : Nat → mo_S → Nat → mo_S
  | 0, S, _ => S
  | m + 1, S, q => match md_best S q k0 with
    | none => S
    | some b => md_ordL k0 m (md_or3 S b) (q + md_si S b)
def md_ord (S : mo_S) (k0 : Int32) : mo_S := md_ordL k0 43 (md_or0 S) 0
theorem md_or3_mk {b : Nat} : md_mk (md_or3 S b) = va_up (md_mk S) b true := by
  funext u
  exact md_mkM (S := S) (mk := va_up (md_mk S) b true) (u := u)
theorem md_or3_iv {b : Nat} (h : md_iv S) : md_iv (md_or3 S b) := fun t ht => by
  have e4 : mo_l (md_or3 S b) 4 = mo_l S 4 := rfl
  have e5 : mo_i (md_or3 S b) 5 = mo_i S 5 := rfl
  have := h t ht
  unfold md_fe md_si at this ⊢
  rw [e4, e5]
  exact this
theorem md_or0_iv (h : md_iv S) : md_iv (md_or0 S) := fun t ht => by
  have e5 : mo_i (md_or0 S) 5 = mo_i S 5 := rfl
  have := h t ht
  unfold md_fe md_si at this ⊢
  rw [e5]
  exact this
theorem ct_zero {P : Nat → Bool} : ∀ {n : Nat}, (∀ i, i < n → P i = false) → ct_n P n = 0 := by
  intro n
  induction n with
  | zero => intro _; rfl
  | succ n ih =>
    intro h
    show ct_n P n + (if P n = true then 1 else 0) = 0
    rw [ih (fun i hi => h i (by omega)), h n (by omega), if_neg Bool.false_ne_true]
/-- what stands against its coming -/
def md_ch (S : mo_S) : Int32 := if ¬ md_findo S = none then nI 1 else if lp_any (fun t => md_clash S 41 t) (mo_z S) 0 = true then nI 2 else if lp_any (fun t => md_miss S 41 t || md_miss S t 41) (mo_z S) 0 = true then nI 3 else if lp_any (fun t => md_famC S 41 (mo_z S) t && md_hangs S 41 t) 42 0 = true then nI 4 else nI 0
def md_i1 (S : mo_S) : mo_S := (mo_z S, mo_c S + nI 1, mo_t S, mo_r S, S.2.2.2.2)
def md_i2 (S : mo_S) : mo_S := mo_setI (md_i1 S) 7 (upd (mo_i (md_i1 S) 7) 41 (mo_c S + nI 1))
def md_i3 (S : mo_S) : mo_S := md_copy (md_i2 S) 41 (mo_z S)
def md_i4 (S : mo_S) : mo_S := (mo_z S + 1, (md_i3 S).2)
def md_in (S : mo_S) : mo_S := mo_setI (md_i4 S) 1 (upd (mo_i (md_i4 S) 1) 41 (nI 0))
def md_own (S : mo_S) (g : Nat → Bool) (c : Int32) : Bool := lp_fold (fun t b => b || (g t && decide (mo_i S 7 t = c))) (mo_z S) 0 false
/-- too many: the least paying family goes -/
def md_outR (S : mo_S) (y : Int32) (S1 : mo_S) : Prop := ∃ g, mk_like g (md_famC S ((md_leasto S).getD 0) (mo_z S)) ∧ y = (if md_own S g (mo_c S) = true then nI 5 else nI 0) ∧ S1 = md_remove (mo_M S g)
def md_comeR (S : mo_S) (y : Int32) (S1 : mo_S) : Prop := (md_ch S ≠ nI 0 ∧ y = md_ch S ∧ ∃ g, S1 = mo_M S g) ∨ (md_ch S = nI 0 ∧ ∃ g, (mo_z S + 1 ≤ 40 ∧ y = nI 0 ∧ S1 = md_in (mo_M S g)) ∨ (40 < mo_z S + 1 ∧ md_outR (md_in (mo_M S g)) y S1))
def md_e1 (S : mo_S) : mo_S := mo_setL S 0 (lp_fold (fun i f => vp_updL f (4 * 41 + i) (mo_l S 8 i)) 4 0 (mo_l S 0))
def md_e2 (S : mo_S) : mo_S := mo_setL (md_e1 S) 2 (lp_fold (fun i f => vp_updL f (32 * 41 + i) (mo_l (md_e1 S) 9 i)) 32 0 (mo_l (md_e1 S) 2))
def md_e3 (S : mo_S) : mo_S := mo_setI (md_e2 S) 3 (lp_fold (fun i f => upd f (8 * 41 + i) (mo_i (md_e2 S) 10 i)) 8 0 (mo_i (md_e2 S) 3))
def md_e4 (S : mo_S) : mo_S := mo_setI (md_e3 S) 1 (upd (mo_i (md_e3 S) 1) 41 (nI (mo_t (md_e3 S))))
def md_e5 (S : mo_S) (f : Int64) : mo_S := mo_setL (md_e4 S) 4 (vp_updL (mo_l (md_e4 S) 4) 41 f)
def md_e6 (S : mo_S) (f : Int64) (z : Int32) : mo_S := mo_setI (md_e5 S f) 5 (upd (mo_i (md_e5 S f) 5) 41 z)
def md_e7 (S : mo_S) (f : Int64) (z o : Int32) : mo_S := mo_setI (md_e6 S f z) 6 (upd (mo_i (md_e6 S f z) 6) 41 o)
def md_en (S : mo_S) (f : Int64) (z o : Int32) : mo_S := (mo_z S, mo_c S, 0, mo_r S, (md_e7 S f z o).2.2.2.2)
def md_enterR (S : mo_S) (f : Int64) (z o : Int32) (y : Int32) (S1 : mo_S) : Prop := ((mo_t S = 0 ∨ cl_isTx f z o = false) ∧ y = -1 ∧ S1 = S) ∨ (¬ mo_t S = 0 ∧ cl_isTx f z o = true ∧ md_comeR (md_en S f z o) y S1)
theorem md_leasto_lt {w : Nat} (h : md_leasto S = some w) : w < mo_z S := by
  rcases lp_fold_ob (F := md_leastF S) (fun i a => by
    unfold md_leastF
    cases a with
    | none => exact Or.inr rfl
    | some w =>
      dsimp only
      split
      · exact Or.inl rfl
      · exact Or.inr rfl) (mo_z S) 0 none w h with e | e
  · cases e
  · omega
theorem md_leasto_lt' (hz : mo_z S ≤ 41) : (md_leasto S).getD 0 < 42 := by
  cases h : md_leasto S with
  | none => exact (by decide : 0 < 42)
  | some w =>
    have := md_leasto_lt h
    show w < 42
    omega
end MCome
section MMake
variable {ca : Nat → ClassId} {hp0 hp : hp_T} {x i q : Nat} {A : Nat → Nat} {fs fs' : List Value}
abbrev mo_0 : mo_S := (0, 0, 0, 0, fun _ _ => 0, fun _ _ => 0)
def mi_At (ca : Nat → ClassId) (hp0 hp : hp_T) (x : Nat) (A : Nat → Nat) (i : Nat) (fs : List Value) : Prop := hp x = some (.inr (6, fs)) ∧ (∀ j, j < i → hp (A j) = some (mo_cell ca mo_0 j)) ∧ pi_inj A i ∧ (∀ j, j < i → hp0 (A j) = none) ∧ hp_ke x hp0 hp
theorem mi_start (h : hp x = some (.inr (6, fs))) : mi_At ca hp hp x A 0 fs := ⟨h, fun j hj => absurd hj (Nat.not_lt_zero _), fun p q hp0 => absurd hp0 (Nat.not_lt_zero _), fun j hj => absurd hj (Nat.not_lt_zero _), hp_ke_rf⟩
theorem mi_step {y : va_E} (h : mi_At ca hp0 hp x A i fs) (hq : hp q = none) (hy : y = mo_cell ca mo_0 i) : mi_At ca hp0 (hp_up (hp_up hp q y) x (.inr (6, fs'))) x (va_up A i q) (i + 1) fs' := by
  subst hy
  obtain ⟨h1, h2, h3, h4, h5⟩ := h
  have xq : x ≠ q := hp_nn h1 hq
  have xA : ∀ j, j < i → A j ≠ x := fun j hj => hp_ne (h2 j hj) h1 (fun z => by unfold mo_cell at z; cases z)
  have qA : ∀ j, j < i → A j ≠ q := fun j hj => hp_nn (h2 j hj) hq
  refine ⟨hp_us, fun j hj => ?_, pi_inj_s h3 qA, fun j hj => ?_, hp_ke_own ?_⟩
  · by_cases e : j = i
    · subst e
      rw [va_up_s, hp_un xq.symm, hp_us]
    · rw [va_up_n e, hp_un (xA j (by omega)), hp_un (qA j (by omega))]
      exact h2 j (by omega)
  · by_cases e : j = i
    · subst e
      rw [va_up_s]
      exact hp_ke_none h5 hq xq.symm
    · rw [va_up_n e]
      exact h4 j (by omega)
  · exact hp_ke_new h5 (hp_ke_none h5 hq xq.symm)
end MMake
