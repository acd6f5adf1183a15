/-! The lowest bit; answers as options; switches. -/
section Low
theorem lw_odd : ∀ n : Nat, n ≠ 0 → ∃ p k, n = 2 ^ p * (2 * k + 1) := by
  intro n
  induction n using Nat.strongRecOn with
  | _ n ih =>
    intro h
    by_cases e : n % 2 = 1
    · exact ⟨0, n / 2, by rw [Nat.pow_zero]; omega⟩
    · obtain ⟨p, k, hk⟩ := ih (n / 2) (by omega) (by omega)
      refine ⟨p + 1, k, ?_⟩
      have h2 : n = 2 * (n / 2) := by omega
      rw [h2, hk, Nat.pow_succ]
      rw [Nat.mul_comm (2 ^ p) 2, Nat.mul_assoc]
theorem lw_and {n p k : Nat} (h : n = 2 ^ p * (2 * k + 1)) (hn : n < 2 ^ 64) (j : Nat) : (n.testBit j && (2 ^ 64 - n).testBit j) = decide (p = j) := by
  have hpos : 0 < 2 ^ p := Nat.two_pow_pos p
  have h1 : n = 2 ^ p * (2 * k + 1) + 0 := by rw [h]; rfl
  have h2 : n - 1 = 2 ^ p * (2 * k) + (2 ^ p - 1) := by
    rw [h, Nat.mul_add, Nat.mul_one]
    omega
  have hn0 : 0 < n := by
    rw [h]
    exact Nat.mul_pos hpos (by omega)
  have e1 : n.testBit j = if j < p then (0 : Nat).testBit j else (2 * k + 1).testBit (j - p) := by
    rw [h1]
    exact Nat.testBit_two_pow_mul_add _ hpos j
  have e2 : (n - 1).testBit j = if j < p then (2 ^ p - 1).testBit j else (2 * k).testBit (j - p) := by
    rw [h2]
    exact Nat.testBit_two_pow_mul_add _ (show 2 ^ p - 1 < 2 ^ p by omega) j
  have e3 : (2 ^ 64 - n).testBit j = (decide (j < 64) && !(n - 1).testBit j) := by
    have h3 : 2 ^ 64 - n = 2 ^ 64 - ((n - 1) + 1) := by omega
    rw [h3]
    exact Nat.testBit_two_pow_sub_succ (by omega) j
  rw [e3, e2, e1]
  by_cases a : j < p
  · rw [if_pos a, Nat.zero_testBit, Bool.false_and]
    exact (decide_eq_false (by omega)).symm
  · rw [if_neg a, if_neg a]
    by_cases b : p = j
    · subst b
      have hp : p < 64 := by
        rcases Nat.lt_or_ge p 64 with q | q
        · exact q
        · have := Nat.pow_le_pow_right (n := 2) (by decide) q
          have h5 : 2 ^ p * 1 ≤ 2 ^ p * (2 * k + 1) := Nat.mul_le_mul_left _ (by omega)
          omega
      rw [Nat.sub_self, decide_eq_true hp, decide_eq_true rfl]
      simp [Nat.testBit_zero]
    · obtain ⟨s, hs⟩ : ∃ s, j - p = s + 1 := ⟨j - p - 1, by omega⟩
      rw [hs, Nat.testBit_succ, Nat.testBit_succ, show (2 * k + 1) / 2 = k by omega, show 2 * k / 2 = k by omega, decide_eq_false b]
      cases k.testBit s <;> simp
theorem ct_lt (p : Nat) : ∀ n, p ≤ n → ct_n (fun i => decide (i < p)) n = p := by
  intro n
  induction n with
  | zero => intro h; show 0 = p; omega
  | succ n ih =>
    intro h
    show ct_n (fun i => decide (i < p)) n + (if decide (n < p) = true then 1 else 0) = p
    by_cases e : p ≤ n
    · rw [ih e, decide_eq_false (by omega), if_neg Bool.false_ne_true]
      rfl
    · have e1 : p = n + 1 := by omega
      subst e1
      have : ct_n (fun i => decide (i < n + 1)) n = ct_n (fun _ => true) n := ct_ext (fun i hi => decide_eq_true (by omega))
      rw [this, decide_eq_true (Nat.lt_succ_self n), if_pos rfl]
      congr 1
      clear this ih h e
      induction n with
      | zero => rfl
      | succ n ih =>
        show ct_n (fun _ => true) n + 1 = n + 1
        rw [ih]
theorem bz_low_spec (x : Int64) : (x = 0 ∧ bz_low x = 64) ∨ (bz_low x < 64 ∧ bz_t x (bz_low x) = true ∧ ∀ j, j < bz_low x → bz_t x j = false) := by
  obtain ⟨n, hn, rfl⟩ := wb_of x
  by_cases h0 : n = 0
  · subst h0
    exact Or.inl (by decide +kernel)
  · right
    obtain ⟨p, k, hk⟩ := lw_odd n h0
    have hng : (-(lN n)).toBitVec.toNat = 2 ^ 64 - n := by
      rw [Int64.toBitVec_neg, BitVec.toNat_neg, wb_tn hn, Nat.mod_eq_of_lt (by omega)]
    have hbit : ∀ j, bz_t (lN n &&& -(lN n)) j = decide (p = j) := by
      intro j
      rw [bz_and, bz_lN hn]
      have : bz_t (-(lN n)) j = (2 ^ 64 - n).testBit j := by
        unfold bz_t
        rw [← BitVec.testBit_toNat, hng]
      rw [this]
      exact lw_and hk hn j
    have hp : p < 64 := by
      rcases Nat.lt_or_ge p 64 with q | q
      · exact q
      · have := Nat.pow_le_pow_right (n := 2) (by decide) q
        have h5 : 2 ^ p * 1 ≤ 2 ^ p * (2 * k + 1) := Nat.mul_le_mul_left _ (by omega)
        omega
    have hlt : 2 ^ p < 2 ^ 64 := Nat.pow_lt_pow_right (by decide) hp
    have hand : lN n &&& -(lN n) = lN (2 ^ p) := by
      apply bz_ext
      intro j _
      rw [hbit, bz_lN hlt, Nat.testBit_two_pow]
    have hsub : lN (2 ^ p) - 1 = lN (2 ^ p - 1) := lN_sub (b := 1) (Nat.two_pow_pos p)
    have hlow : bz_low (lN n) = p := by
      unfold bz_low
      rw [hand, hsub, bz_ct]
      rw [ct_ext (R := fun i => decide (i < p)) (fun i _ => by rw [bz_lN (by omega), Nat.testBit_two_pow_sub_one])]
      exact ct_lt p 64 (by omega)
    rw [hlow]
    refine ⟨hp, ?_, fun j hj => ?_⟩
    · have := hbit p
      rw [bz_and, decide_eq_true rfl] at this
      exact (Bool.and_eq_true _ _ |>.mp this).1
    · rw [bz_lN hn, hk]
      have e1 : (2 ^ p * (2 * k + 1) + 0).testBit j = if j < p then (0 : Nat).testBit j else (2 * k + 1).testBit (j - p) := Nat.testBit_two_pow_mul_add _ (Nat.two_pow_pos p) j
      rw [Nat.add_zero] at e1
      rw [e1, if_pos hj, Nat.zero_testBit]
end Low
section Opts
/-- the first of i, i + 1, .. (m of them) at which P is so -/
def fo_find (P : Nat → Bool) : Nat → Nat → Option Nat
  | 0, _ => none
  | m + 1, i => if P i = true then some i else fo_find P m (i + 1)
theorem fo_ob {P : Nat → Bool} : ∀ (m i : Nat), lp_find P m i = ob_i (fo_find P m i) := by
  intro m
  induction m with
  | zero => intro i; rfl
  | succ m ih =>
    intro i
    show (if P i = true then nI i else lp_find P m (i + 1)) = ob_i (if P i = true then some i else fo_find P m (i + 1))
    by_cases h : P i = true
    · rw [if_pos h, if_pos h]
      rfl
    · rw [if_neg h, if_neg h]
      exact ih (i + 1)
theorem fo_some {P : Nat → Bool} : ∀ {m i p : Nat}, fo_find P m i = some p → i ≤ p ∧ p < i + m ∧ P p = true := by
  intro m
  induction m with
  | zero => intro i p h; cases h
  | succ m ih =>
    intro i p h
    have h' : (if P i = true then some i else fo_find P m (i + 1)) = some p := h
    by_cases e : P i = true
    · rw [if_pos e] at h'
      cases h'
      exact ⟨by omega, by omega, e⟩
    · rw [if_neg e] at h'
      obtain ⟨a, b, c⟩ := ih h'
      exact ⟨by omega, by omega, c⟩
theorem fo_none {P : Nat → Bool} : ∀ {m i : Nat}, fo_find P m i = none → ∀ p, i ≤ p → p < i + m → P p = false := by
  intro m
  induction m with
  | zero => intro i _ p h1 h2; omega
  | succ m ih =>
    intro i h p h1 h2
    have h' : (if P i = true then some i else fo_find P m (i + 1)) = none := h
    by_cases e : P i = true
    · rw [if_pos e] at h'
      cases h'
    · rw [if_neg e] at h'
      by_cases q : p = i
      · subst q
        exact bt_f e
      · exact ih h' p (by omega) (by omega)
def cl_findo (S : po_S) (m : nm_T) : Option Nat := fo_find (fun p => bz_t S.1 p && decide ((S.2.2 p).1 = m)) 41 0
theorem cl_find_o (S : po_S) (m : nm_T) : cl_find S m = ob_i (cl_findo S m) := fo_ob 41 0
def cl_spendero (S : po_S) (m : nm_T) (x : Int32) : Option Nat := fo_find (fun p => bz_t S.1 p && kv_has (S.2.2 p).2.1 m x) 41 0
theorem cl_spender_o (S : po_S) (m : nm_T) (x : Int32) : cl_spender S m x = ob_i (cl_spendero S m x) := fo_ob 41 0
def cl_freeo (S : po_S) : Option Nat := if bz_low (S.1 ^^^ (-1)) < 41 then some (bz_low (S.1 ^^^ (-1))) else none
theorem cl_free_o (S : po_S) : cl_free S = ob_i (cl_freeo S) := by
  unfold cl_free cl_freeo
  by_cases h : bz_low (S.1 ^^^ (-1)) < 41
  · rw [if_pos h, if_pos h]
    rfl
  · rw [if_neg h, if_neg h]
    rfl
theorem cl_freeo_some {S : po_S} {q : Nat} (h : cl_freeo S = some q) : q < 41 ∧ bz_t S.1 q = false := by
  unfold cl_freeo at h
  by_cases e : bz_low (S.1 ^^^ (-1)) < 41
  · rw [if_pos e] at h
    cases h
    refine ⟨e, ?_⟩
    rcases bz_low_spec (S.1 ^^^ (-1)) with ⟨-, z⟩ | ⟨z1, z2, -⟩
    · omega
    · rw [bz_not _ z1] at z2
      cases hb : bz_t S.1 (bz_low (S.1 ^^^ (-1))) with
      | false => rfl
      | true => rw [hb] at z2; cases z2
  · rw [if_neg e] at h
    cases h
theorem cl_findo_lt {S : po_S} {m : nm_T} {p : Nat} (h : cl_findo S m = some p) : p < 41 := by have := (fo_some h).2.1; omega
theorem cl_spendero_lt {S : po_S} {m : nm_T} {x : Int32} {p : Nat} (h : cl_spendero S m x = some p) : p < 41 := by have := (fo_some h).2.1; omega
theorem lp_fold_ob {F : Nat → Option Nat → Option Nat} (hF : ∀ i a, F i a = a ∨ F i a = some i) : ∀ (m i : Nat) (a : Option Nat) (p : Nat), lp_fold F m i a = some p → a = some p ∨ (i ≤ p ∧ p < i + m) := by
  intro m
  induction m with
  | zero => intro i a p h; exact Or.inl h
  | succ m ih =>
    intro i a p h
    rcases ih (i + 1) (F i a) p h with e | e
    · rcases hF i a with q | q
      · exact Or.inl (q ▸ e)
      · rw [q] at e
        cases e
        exact Or.inr ⟨by omega, by omega⟩
    · exact Or.inr ⟨by omega, by omega⟩
theorem cl_least_lt {S : po_S} {p : Nat} (h : cl_least S = some p) : p < 41 := by
  rcases lp_fold_ob (F := cl_leastF S) (fun i a => by unfold cl_leastF; split; exact Or.inr rfl; exact Or.inl rfl) 41 0 none p h with e | e
  · cases e
  · omega
theorem cl_best_lt {S : po_S} {dn : Int64} {rm : Int32} {p : Nat} (h : cl_best S dn rm = some p) : p < 41 := by
  rcases lp_fold_ob (F := cl_bestF S dn rm) (fun i a => by unfold cl_bestF; split; exact Or.inr rfl; exact Or.inl rfl) 41 0 none p h with e | e
  · cases e
  · omega
theorem sw_cases (x : Int32) (n : Nat) (hn : n < 2 ^ 30) : (∃ k : Nat, k ≤ n ∧ x = nI k) ∨ (x.toInt < 0 ∨ (n : Int) < x.toInt) := by
  rcases pk_ix x (n := n + 1) (by omega) with h | h | ⟨j, hj, rfl⟩
  · right
    left
    have := Int32.lt_iff_toInt_lt.mp h
    simpa using this
  · right
    right
    have := Int32.le_iff_toInt_le.mp h
    rw [nI_toInt (by omega)] at this
    omega
  · exact Or.inl ⟨j, by omega, rfl⟩
theorem sw_ne {x : Int32} {n k : Nat} (h : x.toInt < 0 ∨ (n : Int) < x.toInt) (hk : k ≤ n) (hn : n < 2 ^ 30) : ¬ x = nI k := by
  intro e
  rw [e, nI_toInt (by omega)] at h
  omega
end Opts
section DeskWords
def ds_rmf (P : po_S) (o : Option Nat) : Int32 × po_S := match o with
  | none => (nI 0, P)
  | some p => (nI (bz_c (cl_fam P (bz_b p)) 64), cl_rm P (cl_fam P (bz_b p)))
def ds_take (P : po_S) (o : Option Nat) : Int32 × po_S := match o with
  | none => (nI 0, P)
  | some p => (nI 1, cl_rm P (bz_b p))
def cl_look (P : po_S) (p : Nat) (x : Int32) : Int64 := if x = nI 0 then (P.2.2 p).2.2.1 else if x = nI 1 then (P.2.2 p).2.2.2.1.toInt64 else if x = nI 2 then (P.2.2 p).2.2.2.2.1.toInt64 else if x = nI 3 then (nI (P.2.2 p).2.1.1).toInt64 else if x = nI 4 then (nI (bz_c (P.2.2 p).2.2.2.2.2.2.1 64)).toInt64 else if x = nI 5 then (nI (bz_c (P.2.2 p).2.2.2.2.2.2.2 64)).toInt64 else if x = nI 6 then (nI (bz_c (cl_fam P (bz_b p)) 64)).toInt64 else if x = nI 7 then cl_fees P (cl_fam P (bz_b p)) else if x = nI 8 then (cl_sizes P (cl_fam P (bz_b p))).toInt64 else if x = nI 9 then (P.2.2 p).2.2.2.2.2.1.toInt64 else -1
theorem cl_look_out {P : po_S} {p : Nat} {x : Int32} (h : x.toInt < 0 ∨ ((9 : Nat) : Int) < x.toInt) : cl_look P p x = -1 := by
  have z : ∀ k : Nat, k ≤ 9 → ¬ x = nI k := fun k hk => sw_ne h hk (by decide)
  unfold cl_look
  rw [if_neg (z 0 (by decide)), if_neg (z 1 (by decide)), if_neg (z 2 (by decide)), if_neg (z 3 (by decide)), if_neg (z 4 (by decide)), if_neg (z 5 (by decide)), if_neg (z 6 (by decide)), if_neg (z 7 (by decide)), if_neg (z 8 (by decide)), if_neg (z 9 (by decide))]
def ds_look (S : dk_S) (x : Int32) : Int64 := match cl_findo S.2.2.1 S.1 with
  | none => -1
  | some p => cl_look S.2.2.1 p x
def ds_count (S : dk_S) (x : Int32) : Int32 := if x = nI 0 then nI (bz_c S.2.2.1.1 64) else if x = nI 1 then cl_keys S.2.2.1 else if x = nI 2 then cl_sizes S.2.2.1 S.2.2.1.1 else if x = nI 3 then nI S.2.1.1 else if x = nI 4 then S.2.2.1.2.1 else -1
theorem ds_count_out {S : dk_S} {x : Int32} (h : x.toInt < 0 ∨ ((4 : Nat) : Int) < x.toInt) : ds_count S x = -1 := by
  have z : ∀ k : Nat, k ≤ 4 → ¬ x = nI k := fun k hk => sw_ne h hk (by decide)
  unfold ds_count
  rw [if_neg (z 0 (by decide)), if_neg (z 1 (by decide)), if_neg (z 2 (by decide)), if_neg (z 3 (by decide)), if_neg (z 4 (by decide))]
/-- the walk of order: m steps left; what is done, the room, the row -/
def ds_ordL (P : po_S) : Nat → Int64 → Int32 → Nat × (Nat → Int64) → Nat × (Nat → Int64)
  | 0, _, _, r => r
  | m + 1, dn, rm, r => match cl_best P dn rm with
    | none => r
    | some b => ds_ordL P m (dn ||| bz_b b) (rm - (P.2.2 b).2.2.2.1) (r.1 + 1, kx_w r.2 (r.1 * 4) (P.2.2 b).1)
def ds_ord (S : dk_S) (z : Int32) : Nat × (Nat → Int64) := ds_ordL S.2.2.1 41 0 z (0, S.2.2.2.2)
/-- letIn at place q: described, settled, and, if there are too many, the least paying family goes -/
def ds_in1 (P : po_S) (q : Nat) (f : Int64) (z o : Int32) : po_S := cl_setq P q ((P.2.2 q).1, (P.2.2 q).2.1, f, z, o, (P.2.2 q).2.2.2.2.2.1, (P.2.2 q).2.2.2.2.2.2.1, (P.2.2 q).2.2.2.2.2.2.2)
def ds_in2 (P : po_S) (q : Nat) (m : nm_T) (v : kv_T) (f : Int64) (z o : Int32) : po_S := cl_st (ds_in1 P q f z o) q m v
def ds_in3 (P : po_S) (q : Nat) (m : nm_T) (v : kv_T) (f : Int64) (z o : Int32) : po_S := (ds_rmf (ds_in2 P q m v f z o) (cl_least (ds_in2 P q m v f z o))).2
def ds_in (P : po_S) (m : nm_T) (v : kv_T) (f : Int64) (z o : Int32) : Int32 × po_S := match cl_freeo P with
  | none => (-1, P)
  | some q => if bz_c (ds_in2 P q m v f z o).1 64 ≤ 40 then (nI 0, ds_in2 P q m v f z o) else (if bz_t (ds_in3 P q m v f z o).1 q = true then nI 0 else nI 5, ds_in3 P q m v f z o)
def ds_enter (S : dk_S) (f : Int64) (z o : Int32) : Int32 × dk_S := if S.2.1.1 = 0 ∨ cl_isTx f z o = false then (-1, S) else if cl_hind S.2.2.1 S.1 S.2.1 o = nI 0 then ((ds_in S.2.2.1 S.1 S.2.1 f z o).1, (S.1, (0, S.2.1.2), (ds_in S.2.2.1 S.1 S.2.1 f z o).2, S.2.2.2)) else (cl_hind S.2.2.1 S.1 S.2.1 o, (S.1, (0, S.2.1.2), S.2.2))
end DeskWords
