/-! The reference's picture and its words. -/
section Model
/-- size, came, told, rowSize; the arrays of longs, of ints (0 names, 1 spends, 2 keys, 3 indexes, 4 fees, 5 sizes, 6 outputs, 7 coming, 8 name, 9 toldKeys, 10 toldIndexes, 11 marks, 12 row) -/
abbrev mo_S : Type := Nat × Int32 × Nat × Nat × (Nat → Nat → Int64) × (Nat → Nat → Int32)
abbrev mo_z (S : mo_S) : Nat := S.1
abbrev mo_c (S : mo_S) : Int32 := S.2.1
abbrev mo_t (S : mo_S) : Nat := S.2.2.1
abbrev mo_r (S : mo_S) : Nat := S.2.2.2.1
abbrev mo_l (S : mo_S) : Nat → Nat → Int64 := S.2.2.2.2.1
abbrev mo_i (S : mo_S) : Nat → Nat → Int32 := S.2.2.2.2.2
def mo_ty : Nat → Nat
  | 0 => 1
  | 1 => 0
  | 2 => 1
  | 3 => 0
  | 4 => 1
  | 5 => 0
  | 6 => 0
  | 7 => 0
  | 8 => 1
  | 9 => 1
  | 10 => 0
  | 11 => 3
  | _ => 1
def mo_len : Nat → Nat
  | 0 => 168
  | 1 => 42
  | 2 => 1344
  | 3 => 336
  | 4 => 42
  | 5 => 42
  | 6 => 42
  | 7 => 42
  | 8 => 4
  | 9 => 32
  | 10 => 8
  | 11 => 42
  | _ => 164
def mo_cell (ca : Nat → ClassId) (S : mo_S) (j : Nat) : va_E := .inl (ca (mo_ty j), mo_len j, if mo_ty j = 1 then .inr (.inl (mo_l S j)) else .inl (mo_i S j))
def md_sp (S : mo_S) (t : Nat) : Nat := (mo_i S 1 t).toNatClampNeg
def md_mk (S : mo_S) (u : Nat) : Bool := decide (mo_i S 11 u = nI 1)
abbrev mo_F (A : Nat → Nat) (S : mo_S) : List Value := [.int (nI (mo_z S)), .ref (A 0), .ref (A 1), .ref (A 2), .ref (A 3), .ref (A 4), .ref (A 5), .ref (A 6), .ref (A 7), .int (mo_c S), .ref (A 8), .int (nI (mo_t S)), .ref (A 9), .ref (A 10), .ref (A 11), .ref (A 12), .int (nI (mo_r S))]
def mo_ok (S : mo_S) : Prop := (∀ t, t < 42 → mo_i S 1 t = nI (md_sp S t) ∧ md_sp S t ≤ 8) ∧ (mo_i S 11 = fun u => bI (md_mk S u)) ∧ mo_z S ≤ 41 ∧ mo_t S ≤ 8 ∧ mo_r S ≤ 41
def mo_At (ca : Nat → ClassId) (hp : hp_T) (x : Nat) (A : Nat → Nat) (S : mo_S) : Prop := hp x = some (.inr (6, mo_F A S)) ∧ (∀ j, j < 13 → hp (A j) = some (mo_cell ca S j)) ∧ mo_ok S
def mo_out (x : Nat) (A : Nat → Nat) (hp hp1 : hp_T) : Prop := ∀ b, b ≠ x → (∀ j, j < 13 → b ≠ A j) → hp1 b = hp b
theorem mo_out_rf {x : Nat} {A : Nat → Nat} {hp : hp_T} : mo_out x A hp hp := fun _ _ _ => rfl
theorem mo_out_tr {x : Nat} {A : Nat → Nat} {hp hp1 hp2 : hp_T} (h : mo_out x A hp hp1) (h2 : mo_out x A hp1 hp2) : mo_out x A hp hp2 := fun b h0 h1 => (h2 b h0 h1).trans (h b h0 h1)
theorem mo_out_a {x j : Nat} {A : Nat → Nat} {hp : hp_T} {y : va_E} (hj : j < 13) : mo_out x A hp (hp_up hp (A j) y) := fun _ _ h1 => hp_un (h1 j hj)
theorem mo_out_x {x : Nat} {A : Nat → Nat} {hp : hp_T} {y : va_E} : mo_out x A hp (hp_up hp x y) := fun _ h0 _ => hp_un h0
/-- an array of longs, of ints is written -/
def mo_setL (S : mo_S) (j : Nat) (f : Nat → Int64) : mo_S := (S.1, S.2.1, S.2.2.1, S.2.2.2.1, va_up (mo_l S) j f, mo_i S)
def mo_setI (S : mo_S) (j : Nat) (f : Nat → Int32) : mo_S := (S.1, S.2.1, S.2.2.1, S.2.2.2.1, mo_l S, va_up (mo_i S) j f)
variable {ca : Nat → ClassId} {hp : hp_T} {x : Nat} {A : Nat → Nat} {S : mo_S}
theorem mo_cellL {j i : Nat} {f : Nat → Int64} (h : i ≠ j) : mo_cell ca (mo_setL S j f) i = mo_cell ca S i := by
  unfold mo_cell mo_setL mo_l mo_i
  dsimp only
  rw [va_up_n h]
theorem mo_cellI {j i : Nat} {f : Nat → Int32} (h : i ≠ j) : mo_cell ca (mo_setI S j f) i = mo_cell ca S i := by
  unfold mo_cell mo_setI mo_l mo_i
  dsimp only
  rw [va_up_n h]
theorem mo_xne {j : Nat} (h : mo_At ca hp x A S) (hj : j < 13) : x ≠ A j := hp_ne h.1 (h.2.1 j hj) (fun q => by cases q)
theorem mo_putL {j : Nat} {f : Nat → Int64} {y : va_E} (h : mo_At ca hp x A S) (hA : pi_inj A 13) (hj : j < 13) (hy : y = mo_cell ca (mo_setL S j f) j) (ho : mo_ok (mo_setL S j f)) : mo_At ca (hp_up hp (A j) y) x A (mo_setL S j f) := by
  subst hy
  refine ⟨by rw [hp_un (mo_xne h hj)]; exact h.1, fun i hi => ?_, ho⟩
  by_cases e : i = j
  · subst e
    exact hp_us
  · rw [hp_un (fun z => e (hA i j hi hj z)), mo_cellL e]
    exact h.2.1 i hi
theorem mo_putI {j : Nat} {f : Nat → Int32} {y : va_E} (h : mo_At ca hp x A S) (hA : pi_inj A 13) (hj : j < 13) (hy : y = mo_cell ca (mo_setI S j f) j) (ho : mo_ok (mo_setI S j f)) : mo_At ca (hp_up hp (A j) y) x A (mo_setI S j f) := by
  subst hy
  refine ⟨by rw [hp_un (mo_xne h hj)]; exact h.1, fun i hi => ?_, ho⟩
  by_cases e : i = j
  · subst e
    exact hp_us
  · rw [hp_un (fun z => e (hA i j hi hj z)), mo_cellI e]
    exact h.2.1 i hi
/-- the numbers are written -/
theorem mo_putX {z : Nat} {c : Int32} {t r : Nat} (h : mo_At ca hp x A S) (ho : mo_ok (z, c, t, r, S.2.2.2.2)) : mo_At ca (hp_up hp x (.inr (6, mo_F A (z, c, t, r, S.2.2.2.2)))) x A (z, c, t, r, S.2.2.2.2) := ⟨hp_us, fun j hj => by rw [hp_un (mo_xne h hj).symm]; exact h.2.1 j hj, ho⟩
theorem mo_ext {S' : mo_S} (h : mo_At ca hp x A S) (e : S = S') : mo_At ca hp x A S' := e ▸ h
/-- an array that doesn't bear on the rest -/
theorem mo_okL {j : Nat} {f : Nat → Int64} (h : mo_ok S) : mo_ok (mo_setL S j f) := h
theorem mo_okI {j : Nat} {f : Nat → Int32} (h : mo_ok S) (h1 : j ≠ 1) (h2 : j ≠ 11) : mo_ok (mo_setI S j f) := by
  obtain ⟨a, b, c⟩ := h
  have e1 : mo_i (mo_setI S j f) 1 = mo_i S 1 := va_up_n (Ne.symm h1)
  have e2 : mo_i (mo_setI S j f) 11 = mo_i S 11 := va_up_n (Ne.symm h2)
  refine ⟨fun t ht => ?_, ?_, c⟩
  · unfold md_sp
    rw [e1]
    exact a t ht
  · unfold md_mk
    rw [e2]
    exact b
theorem mo_okM {mk : Nat → Bool} (h : mo_ok S) : mo_ok (mo_setI S 11 (fun u => bI (mk u))) := by
  obtain ⟨a, b, c⟩ := h
  have e1 : mo_i (mo_setI S 11 (fun u => bI (mk u))) 1 = mo_i S 1 := va_up_n (f := mo_i S) (k := 11) (j := 1) (v := fun u => bI (mk u)) (by decide)
  have e2 : mo_i (mo_setI S 11 (fun u => bI (mk u))) 11 = fun u => bI (mk u) := va_up_s (f := mo_i S) (k := 11) (v := fun u => bI (mk u))
  refine ⟨fun t ht => ?_, ?_, c⟩
  · unfold md_sp
    rw [e1]
    exact a t ht
  · unfold md_mk
    rw [e2]
    funext u
    show bI (mk u) = bI (decide (bI (mk u) = nI 1))
    cases mk u <;> rfl
def md_named (S : mo_S) (t : Nat) : Bool := lp_fold (fun i b => b && decide (mo_l S 0 (4 * t + i) = mo_l S 8 i)) 4 0 true
def md_findo (S : mo_S) : Option Nat := fo_find (md_named S) (mo_z S) 0
def md_has (S : mo_S) (t k o : Nat) : Bool := lp_fold (fun i b => b && decide (mo_l S 2 (32 * t + 4 * k + i) = mo_l S 0 (4 * o + i))) 4 0 true
def md_hangs (S : mo_S) (t o : Nat) : Bool := lp_fold (fun k b => b || md_has S t k o) (md_sp S t) 0 false
def md_same (S : mo_S) (t k u q : Nat) : Bool := lp_fold (fun i b => b && decide (mo_l S 2 (32 * t + 4 * k + i) = mo_l S 2 (32 * u + 4 * q + i))) 4 0 (decide (mo_i S 3 (8 * t + k) = mo_i S 3 (8 * u + q)))
def md_clashI (S : mo_S) (t k u : Nat) (b : Bool) : Bool := lp_fold (fun q b => b || md_same S t k u q) (md_sp S u) 0 b
def md_clash (S : mo_S) (t u : Nat) : Bool := lp_fold (fun k b => md_clashI S t k u b) (md_sp S t) 0 false
def md_miss (S : mo_S) (t o : Nat) : Bool := lp_fold (fun k b => b || (md_has S t k o && (decide (mo_i S 3 (8 * t + k) < 0) || decide (mo_i S 6 o ≤ mo_i S 3 (8 * t + k))))) (md_sp S t) 0 false
def md_fees (S : mo_S) (m : Bool) : Int64 := lp_fold (fun t a => a + (if (md_mk S t || !m) = true then mo_l S 4 t else 0)) (mo_z S) 0 0
def md_sizes (S : mo_S) (m : Bool) : Int64 := lp_fold (fun t a => a + (if (md_mk S t || !m) = true then mo_i S 5 t else nI 0).toInt64) (mo_z S) 0 0
def md_kin (S : mo_S) (t : Nat) (p : Bool) : Int32 := lp_fold (fun u a => a + (if (!decide (u = t) && (if p = true then md_hangs S t u else md_hangs S u t)) = true then nI 1 else nI 0)) (mo_z S) 0 (nI 0)
def md_stuck (S : mo_S) (t : Nat) : Bool := lp_any (fun u => !decide (u = t) && (md_hangs S t u && !md_mk S u)) (mo_z S) 0
def md_nkeys (S : mo_S) : Int32 := lp_fold (fun t a => a + nI (md_sp S t)) (mo_z S) 0 (nI 0)
def md_row (S : mo_S) (k w : Int32) : Int64 := if k < 0 ∨ nI (mo_r S) ≤ k ∨ w < 0 ∨ nI 4 ≤ w then 0 else mo_l S 12 (4 * k.toNatClampNeg + w.toNatClampNeg)
def md_count (S : mo_S) (x : Int32) : Int32 := if x = nI 0 then nI (mo_z S) else if x = nI 1 then md_nkeys S else if x = nI 2 then (md_sizes S false).toInt32 else if x = nI 3 then nI (mo_t S) else if x = nI 4 then mo_c S else -1
theorem md_count_out {x : Int32} (h : x.toInt < 0 ∨ ((4 : Nat) : Int) < x.toInt) : md_count S x = -1 := by
  have z : ∀ k : Nat, k ≤ 4 → ¬ x = nI k := fun k hk => sw_ne h hk (by decide)
  unfold md_count
  rw [if_neg (z 0 (by decide)), if_neg (z 1 (by decide)), if_neg (z 2 (by decide)), if_neg (z 3 (by decide)), if_neg (z 4 (by decide))]
end Model
