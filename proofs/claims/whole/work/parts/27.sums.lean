/-! The reference: families and sums by what they are. -/
section FamC
variable {ca : Nat → ClassId} {hp : hp_T} {x : Nat} {A : Nat → Nat} {S : mo_S}
def mk_like (f g : Nat → Bool) : Prop := ∀ u, u < 42 → f u = g u
theorem lp_any_ext {P R : Nat → Bool} : ∀ {m i : Nat}, (∀ j, i ≤ j → j < i + m → P j = R j) → lp_any P m i = lp_any R m i := by
  intro m
  induction m with
  | zero => intro i _; rfl
  | succ m ih =>
    intro i h
    show (P i || lp_any P m (i + 1)) = (R i || lp_any R m (i + 1))
    rw [h i (by omega) (by omega), ih (fun j h1 h2 => h j (by omega) (by omega))]
theorem md_hit_like {f g : Nat → Bool} (h : mk_like f g) (u : Nat) : md_hit S f u = md_hit S g u := lp_any_ext (fun j _ h2 => by
  show (f j && _) = (g j && _)
  rw [h j (by omega)])
theorem md_pass_like : ∀ (m i : Nat) (r q : (Nat → Bool) × Bool), i + m ≤ 42 → mk_like r.1 q.1 → r.2 = q.2 → mk_like (lp_fold (md_passF S) m i r).1 (lp_fold (md_passF S) m i q).1 ∧ (lp_fold (md_passF S) m i r).2 = (lp_fold (md_passF S) m i q).2 := by
  intro m
  induction m with
  | zero => intro i r q _ h1 h2; exact ⟨h1, h2⟩
  | succ m ih =>
    intro i r q hi h1 h2
    refine ih (i + 1) (md_passF S i r) (md_passF S i q) (by omega) ?_ ?_
    · unfold md_passF
      rw [h1 i (by omega), md_hit_like h1]
      by_cases a : q.1 i = true
      · rw [if_pos a, if_pos a]
        exact h1
      · rw [if_neg a, if_neg a]
        by_cases b : md_hit S q.1 i = true
        · rw [if_pos b, if_pos b]
          intro u hu
          show va_up r.1 i true u = va_up q.1 i true u
          by_cases e : u = i
          · subst e
            rw [va_up_s, va_up_s]
          · rw [va_up_n e, va_up_n e]
            exact h1 u hu
        · rw [if_neg b, if_neg b]
          exact h1
    · unfold md_passF
      rw [h1 i (by omega), md_hit_like h1]
      by_cases a : q.1 i = true
      · rw [if_pos a, if_pos a]
        exact h2
      · rw [if_neg a, if_neg a]
        by_cases b : md_hit S q.1 i = true
        · rw [if_pos b, if_pos b]
        · rw [if_neg b, if_neg b]
          exact h2
theorem md_famW_like {n : Nat} (hn : n ≤ 42) : ∀ (m : Nat) (f g : Nat → Bool), mk_like f g → mk_like (md_famW S n m f) (md_famW S n m g) := by
  intro m
  induction m with
  | zero => intro f g h; exact h
  | succ m ih =>
    intro f g h
    obtain ⟨h1, h2⟩ := md_pass_like (S := S) n 0 (f, false) (g, false) (by omega) h rfl
    show mk_like (if (md_pass S n f).2 = true then md_famW S n m (md_pass S n f).1 else (md_pass S n f).1) (if (md_pass S n g).2 = true then md_famW S n m (md_pass S n g).1 else (md_pass S n g).1)
    have h3 : (md_pass S n f).2 = (md_pass S n g).2 := h2
    rw [h3]
    by_cases a : (md_pass S n g).2 = true
    · rw [if_pos a, if_pos a]
      exact ih _ _ h1
    · rw [if_neg a, if_neg a]
      exact h1
theorem md_one_at (t : Nat) : ∀ (m i : Nat) (f : Nat → Bool) (u : Nat), lp_fold (fun u mk => va_up mk u (decide (u = t))) m i f u = if i ≤ u ∧ u < i + m then decide (u = t) else f u := by
  intro m
  induction m with
  | zero =>
    intro i f u
    rw [if_neg (by omega)]
    rfl
  | succ m ih =>
    intro i f u
    show lp_fold _ m (i + 1) (va_up f i (decide (i = t))) u = _
    rw [ih]
    by_cases e : u = i
    · subst e
      rw [if_neg (by omega), if_pos (by omega), va_up_s]
    · rw [va_up_n e]
      by_cases a : i + 1 ≤ u ∧ u < i + 1 + m
      · rw [if_pos a, if_pos (by omega)]
      · rw [if_neg a, if_neg (by omega)]
/-- the family of t among the first n, by itself -/
def md_famC (S : mo_S) (t n : Nat) : Nat → Bool := md_famW S n 43 (fun u => decide (u = t))
theorem md_fam_C {t n : Nat} (hn : n ≤ 42) : mk_like (md_fam S t n) (md_famC S t n) := md_famW_like hn 43 _ _ (fun u hu => by
  unfold md_one
  rw [md_one_at, if_pos (by omega)])
theorem md_passF_M {mk : Nat → Bool} : md_passF (mo_M S mk) = md_passF S := rfl
theorem md_famW_M {mk : Nat → Bool} {n : Nat} : ∀ (m : Nat) (f : Nat → Bool), md_famW (mo_M S mk) n m f = md_famW S n m f := by
  intro m
  induction m with
  | zero => intro f; rfl
  | succ m ih =>
    intro f
    show (if (md_pass (mo_M S mk) n f).2 = true then md_famW (mo_M S mk) n m (md_pass (mo_M S mk) n f).1 else (md_pass (mo_M S mk) n f).1) = _
    rw [ih]
    rfl
theorem md_famC_M {mk : Nat → Bool} {t n : Nat} : md_famC (mo_M S mk) t n = md_famC S t n := md_famW_M 43 _
theorem md_famW_mono {n : Nat} : ∀ (m : Nat) (f : Nat → Bool) (v : Nat), f v = true → md_famW S n m f v = true := by
  intro m
  induction m with
  | zero => intro f v h; exact h
  | succ m ih =>
    intro f v h
    have h1 := (md_passL S n 0 (f, false)).1 v h
    show (if (md_pass S n f).2 = true then md_famW S n m (md_pass S n f).1 else (md_pass S n f).1) v = true
    by_cases a : (md_pass S n f).2 = true
    · rw [if_pos a]
      exact ih _ v h1
    · rw [if_neg a]
      exact h1
theorem md_famC_self {t n : Nat} : md_famC S t n t = true := md_famW_mono 43 _ t (decide_eq_true rfl)
end FamC
section Sums
def ns_s (g : Nat → Nat) : Nat → Nat → Nat
  | 0, _ => 0
  | m + 1, i => g i + ns_s g m (i + 1)
theorem ns_ext {g h : Nat → Nat} : ∀ {m i : Nat}, (∀ j, i ≤ j → j < i + m → g j = h j) → ns_s g m i = ns_s h m i := by
  intro m
  induction m with
  | zero => intro i _; rfl
  | succ m ih =>
    intro i e
    show g i + _ = h i + _
    rw [e i (by omega) (by omega), ih (fun j a b => e j (by omega) (by omega))]
theorem ns_le {g : Nat → Nat} {B : Nat} : ∀ {m i : Nat}, (∀ j, i ≤ j → j < i + m → g j ≤ B) → ns_s g m i ≤ m * B := by
  intro m
  induction m with
  | zero => intro i _; exact Nat.zero_le _
  | succ m ih =>
    intro i e
    have h1 := e i (by omega) (by omega)
    have h2 := ih (i := i + 1) (fun j a b => e j (by omega) (by omega))
    show g i + ns_s g m (i + 1) ≤ (m + 1) * B
    rw [Nat.succ_mul]
    omega
theorem ns_ge {g : Nat → Nat} : ∀ {m i k : Nat}, i ≤ k → k < i + m → g k ≤ ns_s g m i := by
  intro m
  induction m with
  | zero => intro i k h1 h2; omega
  | succ m ih =>
    intro i k h1 h2
    show g k ≤ g i + ns_s g m (i + 1)
    by_cases e : k = i
    · subst e
      omega
    · have := ih (i := i + 1) (k := k) (by omega) (by omega)
      omega
theorem ns_foldL {F : Nat → Int64 → Int64} {g : Nat → Nat} : ∀ {m i : Nat} {B : Nat}, (∀ j a, i ≤ j → j < i + m → F j a = a + lN (g j)) → lp_fold F m i (lN B) = lN (B + ns_s g m i) := by
  intro m
  induction m with
  | zero => intro i B _; rfl
  | succ m ih =>
    intro i B h
    show lp_fold F m (i + 1) (F i (lN B)) = lN (B + (g i + ns_s g m (i + 1)))
    rw [h i (lN B) (by omega) (by omega), lN_add, ih (fun j a h1 h2 => h j a (by omega) (by omega)), Nat.add_assoc]
theorem ns_foldI {F : Nat → Int32 → Int32} {g : Nat → Nat} : ∀ {m i : Nat} {B : Nat}, (∀ j a, i ≤ j → j < i + m → F j a = a + nI (g j)) → lp_fold F m i (nI B) = nI (B + ns_s g m i) := by
  intro m
  induction m with
  | zero => intro i B _; rfl
  | succ m ih =>
    intro i B h
    show lp_fold F m (i + 1) (F i (nI B)) = nI (B + (g i + ns_s g m (i + 1)))
    rw [h i (nI B) (by omega) (by omega), nI_add, ih (fun j a h1 h2 => h j a (by omega) (by omega)), Nat.add_assoc]
variable {S : mo_S}
def md_fe (S : mo_S) (t : Nat) : Nat := (mo_l S 4 t).toBitVec.toNat
def md_si (S : mo_S) (t : Nat) : Nat := (mo_i S 5 t).toNatClampNeg
/-- fees and sizes as said -/
def md_iv (S : mo_S) : Prop := ∀ t, t < mo_z S → mo_l S 4 t = lN (md_fe S t) ∧ md_fe S t ≤ 2100000000000000 ∧ mo_i S 5 t = nI (md_si S t) ∧ 1 ≤ md_si S t ∧ md_si S t ≤ 2000
def md_sF (S : mo_S) (f : Nat → Bool) : Nat := ns_s (fun t => if f t = true then md_fe S t else 0) (mo_z S) 0
def md_sZ (S : mo_S) (f : Nat → Bool) : Nat := ns_s (fun t => if f t = true then md_si S t else 0) (mo_z S) 0
theorem md_sF_like {f g : Nat → Bool} (h : mk_like f g) (hz : mo_z S ≤ 42) : md_sF S f = md_sF S g := ns_ext (fun j _ h2 => by rw [h j (by omega)])
theorem md_sZ_like {f g : Nat → Bool} (h : mk_like f g) (hz : mo_z S ≤ 42) : md_sZ S f = md_sZ S g := ns_ext (fun j _ h2 => by rw [h j (by omega)])
theorem md_sF_le (hv : md_iv S) (hz : mo_z S ≤ 41) (f : Nat → Bool) : md_sF S f < 2 ^ 62 := by
  have h : md_sF S f ≤ mo_z S * 2100000000000000 := ns_le (fun j _ h2 => by
    split
    · exact (hv j (by omega)).2.1
    · exact Nat.zero_le _)
  have h2 : mo_z S * 2100000000000000 ≤ 41 * 2100000000000000 := Nat.mul_le_mul_right _ hz
  omega
theorem md_sZ_le (hv : md_iv S) (hz : mo_z S ≤ 41) (f : Nat → Bool) : md_sZ S f ≤ 82000 := by
  have h : md_sZ S f ≤ mo_z S * 2000 := ns_le (fun j _ h2 => by
    split
    · exact (hv j (by omega)).2.2.2.2
    · exact Nat.zero_le _)
  have h2 : mo_z S * 2000 ≤ 41 * 2000 := Nat.mul_le_mul_right _ hz
  omega
theorem md_sZ_pos (hv : md_iv S) {f : Nat → Bool} {t : Nat} (ht : t < mo_z S) (h : f t = true) : 1 ≤ md_sZ S f := by
  have h1 := ns_ge (g := fun t => if f t = true then md_si S t else 0) (m := mo_z S) (i := 0) (k := t) (Nat.zero_le _) (by omega)
  have h2 : (if f t = true then md_si S t else 0) = md_si S t := if_pos h
  have h3 := (hv t ht).2.2.2.1
  unfold md_sZ
  omega
theorem md_fees_t (hv : md_iv S) (f : Nat → Bool) : md_fees (mo_M S f) true = lN (md_sF S f) := by
  have h := ns_foldL (F := fun t a => a + (if (md_mk (mo_M S f) t || !true) = true then mo_l (mo_M S f) 4 t else 0)) (g := fun t => if f t = true then md_fe S t else 0) (m := mo_z S) (i := 0) (B := 0) (fun j a _ h2 => by
    show a + (if (md_mk (mo_M S f) j || !true) = true then mo_l S 4 j else 0) = _
    rw [md_mkM, Bool.not_true, Bool.or_false, (hv j (by omega)).1]
    by_cases e : f j = true
    · rw [if_pos e, if_pos e]
    · rw [if_neg e, if_neg e]
      rfl)
  rw [Nat.zero_add] at h
  exact h
theorem md_sizes_t (hv : md_iv S) (f : Nat → Bool) : md_sizes (mo_M S f) true = lN (md_sZ S f) := by
  have h := ns_foldL (F := fun t a => a + (if (md_mk (mo_M S f) t || !true) = true then mo_i (mo_M S f) 5 t else nI 0).toInt64) (g := fun t => if f t = true then md_si S t else 0) (m := mo_z S) (i := 0) (B := 0) (fun j a _ h2 => by
    have hj := hv j (by omega)
    show a + (if (md_mk (mo_M S f) j || !true) = true then mo_i S 5 j else nI 0).toInt64 = _
    rw [md_mkM, Bool.not_true, Bool.or_false, hj.2.2.1]
    by_cases e : f j = true
    · rw [if_pos e, if_pos e, nI_l (by omega)]
    · rw [if_neg e, if_neg e]
      rfl)
  rw [Nat.zero_add] at h
  exact h
/-- the sums of t's family -/
def md_ff (S : mo_S) (t : Nat) : Nat := md_sF S (md_famC S t (mo_z S))
def md_fz (S : mo_S) (t : Nat) : Nat := md_sZ S (md_famC S t (mo_z S))
def md_leastF (S : mo_S) (t : Nat) (o : Option Nat) : Option Nat := match o with
  | none => some t
  | some w => if 0 < md_cm (md_ff S t) (md_fz S t) (md_ff S w) (md_fz S w) then some w else some t
def md_leasto (S : mo_S) : Option Nat := lp_fold (md_leastF S) (mo_z S) 0 none
def oz_i (o : Option Nat) : Int32 := nI (o.getD 0)
def oz_f (S : mo_S) (o : Option Nat) : Int64 := match o with
  | none => 0
  | some w => lN (md_ff S w)
def oz_z (S : mo_S) (o : Option Nat) : Int64 := match o with
  | none => 0
  | some w => lN (md_fz S w)
end Sums
