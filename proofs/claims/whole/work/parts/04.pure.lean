/-! Words for the class's state: names, keys, loops. -/
section PureWords
abbrev nm_T : Type := Int64 × Int64 × Int64 × Int64
abbrev nm_F (n : nm_T) : List Value := [.long n.1, .long n.2.1, .long n.2.2.1, .long n.2.2.2]
theorem nm_of {a b : nm_T} (h1 : a.1 = b.1) (h2 : a.2.1 = b.2.1) (h3 : a.2.2.1 = b.2.2.1) (h4 : a.2.2.2 = b.2.2.2) : a = b := by
  obtain ⟨a1, a2, a3, a4⟩ := a
  obtain ⟨b1, b2, b3, b4⟩ := b
  dsimp only at h1 h2 h3 h4
  subst h1 h2 h3 h4
  rfl
/-- name j of an array of names' words -/
def kx_n (f : Nat → Int64) (j : Nat) : nm_T := (f (j * 4), f (j * 4 + 1), f (j * 4 + 2), f (j * 4 + 3))
/-- is P so at one of i, i + 1, .. (m of them)? -/
def lp_any (P : Nat → Bool) : Nat → Nat → Bool
  | 0, _ => false
  | m + 1, i => P i || lp_any P m (i + 1)
theorem lp_any_t {P : Nat → Bool} {m i : Nat} (h : P i = true) : lp_any P (m + 1) i = true := by simp [lp_any, h]
theorem lp_any_f {P : Nat → Bool} {m i : Nat} (h : P i = false) : lp_any P (m + 1) i = lp_any P m (i + 1) := by simp [lp_any, h]
theorem lp_any_iff {P : Nat → Bool} {m : Nat} : ∀ {i : Nat}, lp_any P m i = true ↔ ∃ j, i ≤ j ∧ j < i + m ∧ P j = true := by
  induction m with
  | zero =>
    intro i
    constructor
    · intro h
      cases h
    · rintro ⟨j, h1, h2, -⟩
      omega
  | succ m ih =>
    intro i
    show (P i || lp_any P m (i + 1)) = true ↔ _
    rw [Bool.or_eq_true, ih]
    constructor
    · rintro (h | ⟨j, h1, h2, h3⟩)
      · exact ⟨i, by omega, by omega, h⟩
      · exact ⟨j, by omega, by omega, h3⟩
    · rintro ⟨j, h1, h2, h3⟩
      by_cases e : j = i
      · subst e
        exact Or.inl h3
      · exact Or.inr ⟨j, by omega, by omega, h3⟩
/-- the first of i, i + 1, .. (m of them) at which P is so, or -1 -/
def lp_find (P : Nat → Bool) : Nat → Nat → Int32
  | 0, _ => -1
  | m + 1, i => if P i = true then nI i else lp_find P m (i + 1)
theorem lp_find_t {P : Nat → Bool} {m i : Nat} (h : P i = true) : lp_find P (m + 1) i = nI i := by simp [lp_find, h]
theorem lp_find_f {P : Nat → Bool} {m i : Nat} (h : P i = false) : lp_find P (m + 1) i = lp_find P m (i + 1) := by simp [lp_find, h]
/-- a loop that gathers: from i on, m times -/
def lp_fold {α : Type} (F : Nat → α → α) : Nat → Nat → α → α
  | 0, _, a => a
  | m + 1, i, a => lp_fold F m (i + 1) (F i a)
theorem bt_f {b : Bool} (h : ¬ b = true) : b = false := by cases b <;> first | rfl | exact absurd rfl h
end PureWords
section PoolWords
/-- keys: how many, the names' words, the indexes -/
abbrev kv_T : Type := Nat × (Nat → Int64) × (Nat → Int32)
/-- a transaction: name, keys, fee, size, outputs, coming, parents, children -/
abbrev tx_T : Type := nm_T × kv_T × Int64 × Int32 × Int32 × Int32 × Int64 × Int64
/-- where a pool's cells lie: the array of places; of each place the transaction, its name, its keys, their words, their indexes -/
abbrev po_L : Type := Nat × (Nat → Nat) × (Nat → Nat) × (Nat → Nat) × (Nat → Nat) × (Nat → Nat)
/-- a pool: who is present, how many came, the places -/
abbrev po_S : Type := Int64 × Int32 × (Nat → tx_T)
abbrev tx_F (L : po_L) (p : Nat) (t : tx_T) : List Value := [.ref (L.2.2.1 p), .ref (L.2.2.2.1 p), .long t.2.2.1, .int t.2.2.2.1, .int t.2.2.2.2.1, .int t.2.2.2.2.2.1, .long t.2.2.2.2.2.2.1, .long t.2.2.2.2.2.2.2]
def kx_At (ca : Nat → ClassId) (hp : hp_T) (k w i : Nat) (v : kv_T) : Prop := hp k = some (.inr (1, [.ref w, .ref i, .int (nI v.1)])) ∧ hp w = some (.inl (ca 1, 32, .inr (.inl v.2.1))) ∧ hp i = some (.inl (ca 0, 8, .inl v.2.2)) ∧ v.1 ≤ 8
def tx_At (ca : Nat → ClassId) (hp : hp_T) (L : po_L) (p : Nat) (t : tx_T) : Prop := hp (L.2.1 p) = some (.inr (2, tx_F L p t)) ∧ hp (L.2.2.1 p) = some (.inr (0, nm_F t.1)) ∧ kx_At ca hp (L.2.2.2.1 p) (L.2.2.2.2.1 p) (L.2.2.2.2.2 p) t.2.1
def po_At (ca : Nat → ClassId) (hp : hp_T) (po : Nat) (L : po_L) (S : po_S) : Prop := hp po = some (.inr (3, [.ref L.1, .long S.1, .int S.2.1])) ∧ (∃ f : Nat → Option Nat, hp L.1 = some (.inl (ca 2, 41, .inr (.inr (.inr (.inr f))))) ∧ ∀ p, p < 41 → f p = some (L.2.1 p)) ∧ ∀ p, p < 41 → tx_At ca hp L p (S.2.2 p)
def kv_bears (v : kv_T) (m : nm_T) : Bool := lp_any (fun j => decide (kx_n v.2.1 j = m)) v.1 0
def kv_has (v : kv_T) (m : nm_T) (x : Int32) : Bool := lp_any (fun j => decide (v.2.2 j = x) && decide (kx_n v.2.1 j = m)) v.1 0
def kv_miss (v : kv_T) (m : nm_T) (x : Int32) : Bool := lp_any (fun j => (decide (v.2.2 j < 0) || decide (x ≤ v.2.2 j)) && decide (kx_n v.2.1 j = m)) v.1 0
def kv_meet (v u : kv_T) : Bool := lp_any (fun i => lp_any (fun j => decide (v.2.2 i = u.2.2 j) && !(lp_any (fun w => !decide (v.2.1 (i * 4 + w) = u.2.1 (j * 4 + w))) 4 0)) u.1 0) v.1 0
def kx_w (f : Nat → Int64) (j : Nat) (n : nm_T) : Nat → Int64 := vp_updL (vp_updL (vp_updL (vp_updL f j n.1) (j + 1) n.2.1) (j + 2) n.2.2.1) (j + 3) n.2.2.2
def cl_find (S : po_S) (m : nm_T) : Int32 := lp_find (fun p => bz_t S.1 p && decide ((S.2.2 p).1 = m)) 41 0
def cl_spender (S : po_S) (m : nm_T) (x : Int32) : Int32 := lp_find (fun p => bz_t S.1 p && kv_has (S.2.2 p).2.1 m x) 41 0
def cl_spent (S : po_S) (v : kv_T) : Bool := lp_any (fun p => bz_t S.1 p && kv_meet (S.2.2 p).2.1 v) 41 0
def cl_miss (S : po_S) (m : nm_T) (v : kv_T) (x : Int32) : Bool := lp_any (fun p => bz_t S.1 p && (kv_miss v (S.2.2 p).1 (S.2.2 p).2.2.2.2.1 || kv_miss (S.2.2 p).2.1 m x)) 41 0
def cl_spenders (S : po_S) (m : nm_T) : Int64 := lp_fold (fun p a => if (bz_t S.1 p && kv_bears (S.2.2 p).2.1 m) = true then a ||| bz_b p else a) 41 0 0
def cl_named (S : po_S) (v : kv_T) : Int64 := lp_fold (fun p a => if (bz_t S.1 p && kv_bears v (S.2.2 p).1) = true then a ||| bz_b p else a) 41 0 0
def cl_fees (S : po_S) (x : Int64) : Int64 := lp_fold (fun p a => if bz_t x p = true then a + (S.2.2 p).2.2.1 else a) 41 0 0
def cl_sizes (S : po_S) (x : Int64) : Int32 := lp_fold (fun p a => if bz_t x p = true then a + (S.2.2 p).2.2.2.1 else a) 41 0 (nI 0)
def cl_keys (S : po_S) : Int32 := lp_fold (fun p a => if bz_t S.1 p = true then a + nI (S.2.2 p).2.1.1 else a) 41 0 (nI 0)
def bz_low (x : Int64) : Nat := bz_c ((x &&& -x) - 1) 64
/-- the walk of family: m steps left -/
def cl_famL (S : po_S) : Nat → Int64 → Int64 → Int64
  | 0, a, _ => a
  | m + 1, a, o => if 41 ≤ bz_low o then a else cl_famL S m (a ||| ((S.2.2 (bz_low o)).2.2.2.2.2.2.2 &&& (a ^^^ (-1)))) ((o &&& (bz_b (bz_low o) ^^^ (-1))) ||| ((S.2.2 (bz_low o)).2.2.2.2.2.2.2 &&& (a ^^^ (-1))))
def cl_fam (S : po_S) (r : Int64) : Int64 := cl_famL S 41 r r
end PoolWords
section RateWords
/-- as compareRates has it -/
def cl_cmp (a b c e : Int64) : Int32 := if b < 1 then nI 0 else if e < 1 then nI 0 else if lg_cmp (a / b) (c / e) = 0 then lg_cmp ((a - a / b * b) * e) ((c - c / e * e) * b) else lg_cmp (a / b) (c / e)
def cl_isTx (f : Int64) (z o : Int32) : Bool := decide (0 ≤ f) && (decide (f ≤ 2100000000000000) && (decide (nI 1 ≤ z) && (decide (z ≤ nI 2000) && (decide (0 ≤ o) && decide (o ≤ nI 8)))))
theorem bz_low_le (x : Int64) : bz_low x ≤ 64 := bz_c_le _ 64
def cl_free (S : po_S) : Int32 := if bz_low (S.1 ^^^ (-1)) < 41 then nI (bz_low (S.1 ^^^ (-1))) else -1
def cl_better (t u : tx_T) : Bool := decide (0 < cl_cmp t.2.2.1 t.2.2.2.1.toInt64 u.2.2.1 u.2.2.2.1.toInt64) || (decide (cl_cmp t.2.2.1 t.2.2.2.1.toInt64 u.2.2.1 u.2.2.2.1.toInt64 = 0) && decide (t.2.2.2.2.2.1 < u.2.2.2.2.2.1))
/-- a place, or nowhere -/
def ob_i (o : Option Nat) : Int32 := match o with
  | none => -1
  | some b => nI b
/-- so at a place, or there is none -/
def cl_ob (P : Nat → Bool) (o : Option Nat) : Bool := match o with
  | none => true
  | some b => P b
def cl_bestF (S : po_S) (dn : Int64) (rm : Int32) (i : Nat) (acc : Option Nat) : Option Nat := if (bz_t (S.1 &&& (dn ^^^ (-1))) i && (decide ((S.2.2 i).2.2.2.2.2.2.1 &&& (dn ^^^ (-1)) = 0) && (decide ((S.2.2 i).2.2.2.1 ≤ rm) && cl_ob (fun b => cl_better (S.2.2 i) (S.2.2 b)) acc))) = true then some i else acc
def cl_best (S : po_S) (dn : Int64) (rm : Int32) : Option Nat := lp_fold (cl_bestF S dn rm) 41 0 none
def cl_ff (S : po_S) (i : Nat) : Int64 := cl_fees S (cl_fam S (bz_b i))
def cl_fs (S : po_S) (i : Nat) : Int32 := cl_sizes S (cl_fam S (bz_b i))
def cl_less (S : po_S) (i b : Nat) : Bool := decide (cl_cmp (cl_ff S i) (cl_fs S i).toInt64 (cl_ff S b) (cl_fs S b).toInt64 < 0) || (decide (cl_cmp (cl_ff S i) (cl_fs S i).toInt64 (cl_ff S b) (cl_fs S b).toInt64 = 0) && decide ((S.2.2 b).2.2.2.2.2.1 < (S.2.2 i).2.2.2.2.2.1))
def cl_leastF (S : po_S) (i : Nat) (acc : Option Nat) : Option Nat := if (bz_t S.1 i && cl_ob (fun b => cl_less S i b) acc) = true then some i else acc
def cl_least (S : po_S) : Option Nat := lp_fold (cl_leastF S) 41 0 none
def cl_hang (S : po_S) (m : nm_T) (v : kv_T) : Bool := kv_bears v m || !decide ((cl_fam S (cl_spenders S m) &&& cl_named S v) = 0)
def cl_hind (S : po_S) (m : nm_T) (v : kv_T) (x : Int32) : Int32 := if ¬ cl_find S m = -1 then nI 1 else if cl_spent S v = true then nI 2 else if cl_miss S m v x = true then nI 3 else if cl_hang S m v = true then nI 4 else nI 0
def rw_word (n : Nat) (f : Nat → Int64) (k w : Int32) : Int64 := if k < 0 ∨ nI n ≤ k ∨ w < 0 ∨ nI 4 ≤ w then 0 else f (k.toNatClampNeg * 4 + w.toNatClampNeg)
theorem nI_m1 {b : Nat} (h : b < 2 ^ 31) : ¬ nI b = -1 := by
  intro z
  have h1 := congrArg Int32.toInt z
  rw [nI_toInt h] at h1
  have h2 : ((-1 : Int32)).toInt = -1 := by decide
  omega
theorem ix_of {x : Int32} {n : Nat} (hn : n < 2 ^ 31) (h0 : ¬ x < 0) (h1 : ¬ nI n ≤ x) : ∃ j : Nat, j < n ∧ x = nI j := by
  rcases pk_ix x hn with h | h | h
  · exact absurd h h0
  · exact absurd h h1
  · exact h
end RateWords
