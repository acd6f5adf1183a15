/-! The reference's face, as words. -/
section MFace
variable {S : mo_S}
def md_like (S : mo_S) (x : Int32) (k : Nat) : Bool := lp_fold (fun i b => b && decide (mo_l S 9 (4 * k + i) = mo_l S 8 i)) 4 0 (decide (mo_i S 10 k = x))
def md_may (S : mo_S) (x : Int32) : Bool := !decide (mo_t S = 8) && !lp_any (md_like S x) (mo_t S) 0
def md_sp1 (S : mo_S) : mo_S := mo_setL S 9 (lp_fold (fun i f => vp_updL f (4 * mo_t S + i) (mo_l S 8 i)) 4 0 (mo_l S 9))
def md_sp2 (S : mo_S) (x : Int32) : mo_S := mo_setI (md_sp1 S) 10 (upd (mo_i (md_sp1 S) 10) (mo_t S) x)
def md_spnd (S : mo_S) (x : Int32) : mo_S := (mo_z S, mo_c S, mo_t S + 1, mo_r S, (md_sp2 S x).2.2.2.2)
def md_spend (S : mo_S) (x : Int32) : mo_S := if md_may S x = true then md_spnd S x else S
def md_nameS (S : mo_S) (m : nm_T) : mo_S := mo_setL S 8 (vp_updL (vp_updL (vp_updL (vp_updL (mo_l S 8) 0 m.1) 1 m.2.1) 2 m.2.2.1) 3 m.2.2.2)
/-- how a family goes -/
def md_rmRel (S : mo_S) (o : Option Nat) (y : Int32) (S1 : mo_S) : Prop := match o with
  | none => y = nI 0 ∧ S1 = S
  | some t => ∃ mk, mk_like mk (md_famC S t (mo_z S)) ∧ y = nI (mo_z S - (md_rmR (mo_M S mk)).2) ∧ S1 = md_remove (mo_M S mk)
def md_tkRel (S : mo_S) (o : Option Nat) (y : Int32) (S1 : mo_S) : Prop := match o with
  | none => y = nI 0 ∧ S1 = S
  | some t => ∃ mk, mk_like mk (fun u => decide (u = t)) ∧ y = nI 1 ∧ S1 = md_remove (mo_M S mk)
def md_skey (S : mo_S) (x : Int32) (t k : Nat) : Bool := lp_fold (fun i b => b && decide (mo_l S 2 (32 * t + 4 * k + i) = mo_l S 8 i)) 4 0 (decide (mo_i S 3 (8 * t + k) = x))
def md_strko (S : mo_S) (x : Int32) : Option Nat := fo_find (fun t => lp_any (md_skey S x t) (md_sp S t) 0) (mo_z S) 0
theorem fo_t {P : Nat → Bool} {m i : Nat} (h : P i = true) : fo_find P (m + 1) i = some i := if_pos h
theorem fo_f {P : Nat → Bool} {m i : Nat} (h : P i = false) : fo_find P (m + 1) i = fo_find P m (i + 1) := if_neg (by rw [h]; exact Bool.false_ne_true)
def md_cnt (S : mo_S) (f : Nat → Bool) : Int32 := lp_fold (fun t a => a + (if f t = true then nI 1 else nI 0)) (mo_z S) 0 (nI 0)
def md_lookT (S : mo_S) (t : Nat) (x : Int32) : Int64 := if x = nI 0 then mo_l S 4 t else if x = nI 1 then (mo_i S 5 t).toInt64 else if x = nI 2 then (mo_i S 6 t).toInt64 else if x = nI 3 then (nI (md_sp S t)).toInt64 else if x = nI 4 then (md_kin S t true).toInt64 else if x = nI 5 then (md_kin S t false).toInt64 else if x = nI 6 then (md_cnt S (md_famC S t (mo_z S))).toInt64 else if x = nI 7 then md_fees (mo_M S (md_famC S t (mo_z S))) true else if x = nI 8 then md_sizes (mo_M S (md_famC S t (mo_z S))) true else if x = nI 9 then (mo_i S 7 t).toInt64 else -1
theorem md_lookT_out {t : Nat} {x : Int32} (h : x.toInt < 0 ∨ ((9 : Nat) : Int) < x.toInt) : md_lookT S t x = -1 := by
  have z : ∀ k : Nat, k ≤ 9 → ¬ x = nI k := fun k hk => sw_ne h hk (by decide)
  unfold md_lookT
  rw [if_neg (z 0 (by decide)), if_neg (z 1 (by decide)), if_neg (z 2 (by decide)), if_neg (z 3 (by decide)), if_neg (z 4 (by decide)), if_neg (z 5 (by decide)), if_neg (z 6 (by decide)), if_neg (z 7 (by decide)), if_neg (z 8 (by decide)), if_neg (z 9 (by decide))]
def md_look (S : mo_S) (x : Int32) : Int64 := match md_findo S with
  | none => -1
  | some t => md_lookT S t x
theorem lp_fold_ext {α : Type} {F G : Nat → α → α} : ∀ {m i : Nat} {a : α}, (∀ j a, i ≤ j → j < i + m → F j a = G j a) → lp_fold F m i a = lp_fold G m i a := by
  intro m
  induction m with
  | zero => intro i a _; rfl
  | succ m ih =>
    intro i a h
    show lp_fold F m (i + 1) (F i a) = lp_fold G m (i + 1) (G i a)
    rw [h i a (by omega) (by omega)]
    exact ih (fun j a h1 h2 => h j a (by omega) (by omega))
theorem md_fees_like {f g : Nat → Bool} (h : mk_like f g) (hz : mo_z S ≤ 42) (m : Bool) : md_fees (mo_M S f) m = md_fees (mo_M S g) m := lp_fold_ext (fun j a _ h2 => by
  have hj : j < 42 := by have : mo_z (mo_M S f) = mo_z S := rfl; omega
  show a + (if (md_mk (mo_M S f) j || !m) = true then mo_l S 4 j else 0) = a + (if (md_mk (mo_M S g) j || !m) = true then mo_l S 4 j else 0)
  rw [md_mkM, md_mkM, h j hj])
theorem md_sizes_like {f g : Nat → Bool} (h : mk_like f g) (hz : mo_z S ≤ 42) (m : Bool) : md_sizes (mo_M S f) m = md_sizes (mo_M S g) m := lp_fold_ext (fun j a _ h2 => by
  have hj : j < 42 := by have : mo_z (mo_M S f) = mo_z S := rfl; omega
  show a + (if (md_mk (mo_M S f) j || !m) = true then mo_i S 5 j else nI 0).toInt64 = a + (if (md_mk (mo_M S g) j || !m) = true then mo_i S 5 j else nI 0).toInt64
  rw [md_mkM, md_mkM, h j hj])
theorem md_cnt_like {f g : Nat → Bool} (h : mk_like f g) (hz : mo_z S ≤ 42) : md_cnt S f = md_cnt S g := lp_fold_ext (fun j a _ h2 => by rw [h j (by omega)])
theorem fo_lt {P : Nat → Bool} {m p : Nat} (h : fo_find P m 0 = some p) : p < m := by have := (fo_some h).2.1; omega
end MFace
