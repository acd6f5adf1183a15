/-! Families and sums, place by place and one by one. -/
section FamP
variable {g : Nat → Nat} {P : po_S} {T : mo_S}
/-- a set of places is a set of the reference's -/
def sm_b (g : Nat → Nat) (T : mo_S) (x : Int64) (Y : Nat → Prop) : Prop := ∀ p, bz_t x p = true ↔ ∃ u, u < mo_z T ∧ g u = p ∧ Y u
def md_F (T : mo_S) (v u : Nat) : Prop := v < mo_z T ∧ u < mo_z T ∧ md_hangs T u v = true
theorem sm_famG (hP : sm_P g P T) {r : Int64} {Y : Nat → Prop} (hr : sm_b g T r Y) : sm_b g T (cl_fam P r) (rc_R Y (md_F T)) := by
  intro p
  obtain ⟨A1, A2, A3, A4, A5⟩ := hP
  have hr' : ∀ p, bz_t r p = true → p < 41 := fun p h => by
    obtain ⟨u, h1, h2, -⟩ := (hr p).mp h
    rw [← h2]
    exact (A1 u h1).1
  have img : ∀ p, rc_R (fun p => bz_t r p = true) (fun p q => bz_t (tx_kids P p) q = true) p → ∃ u, u < mo_z T ∧ g u = p ∧ rc_R Y (md_F T) u := fun p h => h (fun p => ∃ u, u < mo_z T ∧ g u = p ∧ rc_R Y (md_F T) u) (fun q hq => by
    obtain ⟨u, h1, h2, h3⟩ := (hr q).mp hq
    exact ⟨u, h1, h2, rc_of h3⟩) (fun q w hq hw => by
    obtain ⟨u, h1, h2, h3⟩ := hq
    rw [← h2] at hw
    obtain ⟨x, x1, x2, x3⟩ := ((A5 u h1 w).2).mp hw
    exact ⟨x, x1, x2, rc_step h3 ⟨h1, x1, x3⟩⟩)
  have hch : ∀ p q, p < 41 → rc_R (fun p => bz_t r p = true) (fun p q => bz_t (tx_kids P p) q = true) p → bz_t (tx_kids P p) q = true → q < 41 := fun p q _ h hk => by
    obtain ⟨u, h1, h2, -⟩ := img q (rc_step h hk)
    rw [← h2]
    exact (A1 u h1).1
  rw [cl_fam_spec hr' hch]
  refine ⟨img p, ?_⟩
  rintro ⟨u, h1, h2, h3⟩
  rw [← h2]
  exact h3 (fun u => u < mo_z T → rc_R (fun p => bz_t r p = true) (fun p q => bz_t (tx_kids P p) q = true) (g u)) (fun q hq hz => rc_of ((hr (g q)).mpr ⟨q, hz, rfl, hq⟩)) (fun v w hv hE _ => rc_step (hv hE.1) (((A5 v hE.1 (g w)).2).mpr ⟨w, hE.2.1, rfl, hE.2.2⟩)) h1
theorem md_famC_in {t u : Nat} (hz : mo_z T ≤ 42) (ht : t < mo_z T) : md_famC T t (mo_z T) u = true ↔ rc_R (fun q => q = t) (md_F T) u := by
  rw [md_famC_iff hz]
  constructor
  · intro h X h1 h2
    exact (h (fun u => u < mo_z T ∧ X u) (fun q hq => ⟨by rw [hq]; exact ht, h1 q hq⟩) (fun v w hv hE => ⟨hE.2.1, h2 v w hv.2 ⟨hv.1, hE.2.1, hE.2.2.2⟩⟩)).2
  · intro h X h1 h2
    refine h X h1 (fun v w hv hE => ?_)
    by_cases e : w = v
    · rw [e]
      exact hv
    · exact h2 v w hv ⟨by have := hE.1; omega, hE.2.1, e, hE.2.2⟩
theorem sm_one (hP : sm_P g P T) {t : Nat} (ht : t < mo_z T) : sm_b g T (bz_b (g t)) (fun q => q = t) := by
  intro p
  have h41 := (hP.1 t ht).1
  rw [bz_bit (by omega)]
  constructor
  · intro h
    exact ⟨t, ht, of_decide_eq_true h, rfl⟩
  · rintro ⟨u, -, h2, h3⟩
    rw [h3] at h2
    exact decide_eq_true h2
theorem sm_fam (hP : sm_P g P T) (hz : mo_z T ≤ 42) {t : Nat} (ht : t < mo_z T) : sm_b g T (cl_fam P (bz_b (g t))) (fun u => md_famC T t (mo_z T) u = true) := by
  intro p
  rw [sm_famG hP (sm_one hP ht) p]
  constructor
  · rintro ⟨u, h1, h2, h3⟩
    exact ⟨u, h1, h2, (md_famC_in hz ht).mpr h3⟩
  · rintro ⟨u, h1, h2, h3⟩
    exact ⟨u, h1, h2, (md_famC_in hz ht).mp h3⟩
theorem sm_all (hP : sm_P g P T) : sm_b g T P.1 (fun _ => True) := by
  intro p
  constructor
  · intro h
    obtain ⟨t, h1, h2⟩ := hP.2.2.1 p h
    exact ⟨t, h1, h2, trivial⟩
  · rintro ⟨u, h1, h2, -⟩
    rw [← h2]
    exact (hP.1 u h1).2
end FamP
section SumP
theorem ns_snoc {g : Nat → Nat} : ∀ {m i : Nat}, ns_s g (m + 1) i = ns_s g m i + g (i + m) := by
  intro m
  induction m with
  | zero => intro i; show g i + 0 = 0 + g (i + 0); rw [Nat.add_zero, Nat.zero_add, Nat.add_zero]
  | succ m ih =>
    intro i
    show g i + ns_s g (m + 1) (i + 1) = (g i + ns_s g m (i + 1)) + g (i + (m + 1))
    rw [ih, show i + 1 + m = i + (m + 1) by omega, Nat.add_assoc]
theorem ns_zero {g : Nat → Nat} {m i : Nat} (h : ∀ j, i ≤ j → j < i + m → g j = 0) : ns_s g m i = 0 := by
  have := ns_le (g := g) (B := 0) (m := m) (i := i) (fun j h1 h2 => Nat.le_of_eq (h j h1 h2))
  omega
theorem ns_take {F : Nat → Nat} {q : Nat} : ∀ {m i : Nat}, i ≤ q → q < i + m → ns_s F m i = F q + ns_s (fun p => if p = q then 0 else F p) m i := by
  intro m
  induction m with
  | zero => intro i h1 h2; omega
  | succ m ih =>
    intro i h1 h2
    show F i + ns_s F m (i + 1) = F q + ((if i = q then 0 else F i) + ns_s (fun p => if p = q then 0 else F p) m (i + 1))
    by_cases e : i = q
    · subst e
      rw [if_pos rfl, ns_ext (g := fun p => if p = i then 0 else F p) (h := F) (fun j h3 h4 => if_neg (by omega))]
      omega
    · rw [if_neg e, ih (by omega) (by omega)]
      omega
theorem sg_sum {g : Nat → Nat} {N : Nat} : ∀ {z : Nat} {F : Nat → Nat}, (∀ t, t < z → g t < N) → (∀ t u, t < z → u < z → g t = g u → t = u) → (∀ p, p < N → F p ≠ 0 → ∃ t, t < z ∧ g t = p) → ns_s F N 0 = ns_s (fun t => F (g t)) z 0 := by
  intro z
  induction z with
  | zero =>
    intro F _ _ h3
    refine ns_zero (fun j _ hj => ?_)
    by_cases e : F j = 0
    · exact e
    · obtain ⟨t, ht, -⟩ := h3 j (by omega) e
      omega
  | succ z ih =>
    intro F h1 h2 h3
    have hq := h1 z (by omega)
    rw [ns_snoc, ns_take (q := g z) (Nat.zero_le _) (by omega), Nat.zero_add]
    have := ih (F := fun p => if p = g z then 0 else F p) (fun t ht => h1 t (by omega)) (fun t u ht hu => h2 t u (by omega) (by omega)) (fun p hp hF => by
      by_cases e : p = g z
      · exact absurd (if_pos e) hF
      · rw [if_neg e] at hF
        obtain ⟨t, ht, hp2⟩ := h3 p hp hF
        by_cases e2 : t = z
        · subst e2
          exact absurd hp2.symm e
        · exact ⟨t, by omega, hp2⟩)
    rw [this, ns_ext (g := fun t => if g t = g z then 0 else F (g t)) (h := fun t => F (g t)) (fun j _ hj => if_neg (fun e => by have := h2 j z (by omega) (by omega) e; omega))]
    omega
theorem lN_self (x : Int64) : lN (x.toBitVec.toNat) = x := by
  obtain ⟨n, hn, rfl⟩ := wb_of x
  rw [wb_tn hn]
theorem ct_ns (Q : Nat → Bool) : ∀ n, ct_n Q n = ns_s (fun p => if Q p = true then 1 else 0) n 0 := by
  intro n
  induction n with
  | zero => rfl
  | succ n ih =>
    rw [ns_snoc, ← ih, Nat.zero_add]
    rfl
variable {g : Nat → Nat} {P : po_S} {T : mo_S} {x : Int64} {f : Nat → Bool}
theorem sm_sumN (hP : sm_P g P T) (hx : sm_b g T x (fun u => f u = true)) (h : Nat → Nat) {N : Nat} (hN : 41 ≤ N) : ns_s (fun p => if bz_t x p = true then h p else 0) N 0 = ns_s (fun t => if f t = true then h (g t) else 0) (mo_z T) 0 := by
  rw [sg_sum (g := g) (z := mo_z T) (fun t ht => by have := (hP.1 t ht).1; omega) hP.2.1 (fun p hp hF => by
    by_cases e : bz_t x p = true
    · obtain ⟨u, h1, h2, -⟩ := (hx p).mp e
      exact ⟨u, h1, h2⟩
    · exact absurd (if_neg e) hF)]
  refine ns_ext (fun t _ ht => ?_)
  by_cases e : f t = true
  · rw [if_pos e, if_pos ((hx (g t)).mpr ⟨t, by omega, rfl, e⟩)]
  · rw [if_neg e, if_neg (fun z => by
      obtain ⟨u, h1, h2, h3⟩ := (hx (g t)).mp z
      rw [hP.2.1 u t h1 (by omega) h2] at h3
      exact e h3)]
theorem sm_fees' (hP : sm_P g P T) (hx : sm_b g T x (fun u => f u = true)) : cl_fees P x = lN (md_sF T f) := by
  have h := ns_foldL (F := fun p a => if bz_t x p = true then a + (P.2.2 p).2.2.1 else a) (g := fun p => if bz_t x p = true then (P.2.2 p).2.2.1.toBitVec.toNat else 0) (m := 41) (i := 0) (B := 0) (fun j a _ _ => by
    by_cases e : bz_t x j = true
    · rw [if_pos e, if_pos e, lN_self]
    · rw [if_neg e, if_neg e]
      exact (Int64.add_zero a).symm)
  rw [Nat.zero_add, sm_sumN hP hx (fun p => (P.2.2 p).2.2.1.toBitVec.toNat) (Nat.le_refl _)] at h
  refine h.trans ?_
  unfold md_sF
  congr 1
  refine ns_ext (fun t _ ht => ?_)
  rw [(hP.2.2.2.1 t (by omega)).2.2.2.2.1]
  rfl
theorem sm_sizes' (hP : sm_P g P T) (hv : md_iv T) (hx : sm_b g T x (fun u => f u = true)) : cl_sizes P x = nI (md_sZ T f) := by
  have h := ns_foldI (F := fun p a => if bz_t x p = true then a + (P.2.2 p).2.2.2.1 else a) (g := fun p => if bz_t x p = true then (P.2.2 p).2.2.2.1.toNatClampNeg else 0) (m := 41) (i := 0) (B := 0) (fun j a _ _ => by
    by_cases e : bz_t x j = true
    · rw [if_pos e, if_pos e]
      obtain ⟨u, h1, h2, -⟩ := (hx j).mp e
      have := (hP.2.2.2.1 u h1).2.2.2.2.2.1
      rw [h2] at this
      rw [this]
      congr 1
      exact (hv u h1).2.2.1
    · rw [if_neg e, if_neg e]
      exact (Int32.add_zero a).symm)
  rw [Nat.zero_add, sm_sumN hP hx (fun p => (P.2.2 p).2.2.2.1.toNatClampNeg) (Nat.le_refl _)] at h
  refine h.trans ?_
  unfold md_sZ
  congr 1
  refine ns_ext (fun t _ ht => ?_)
  rw [(hP.2.2.2.1 t (by omega)).2.2.2.2.2.1]
  rfl
def md_n (T : mo_S) (f : Nat → Bool) : Nat := ns_s (fun t => if f t = true then 1 else 0) (mo_z T) 0
theorem sm_cnt' (hP : sm_P g P T) (hx : sm_b g T x (fun u => f u = true)) : bz_c x 64 = md_n T f := by
  rw [bz_ct, ct_ns, sm_sumN hP hx (fun _ => 1) (by decide)]
  rfl
theorem ns_fI {F : Nat → Int32 → Int32} {f : Nat → Bool} {m : Nat} (h : ∀ j a, j < m → F j a = a + (if f j = true then nI 1 else nI 0)) : lp_fold F m 0 (nI 0) = nI (ns_s (fun t => if f t = true then 1 else 0) m 0) := by
  have h := ns_foldI (F := F) (g := fun t => if f t = true then 1 else 0) (m := m) (i := 0) (B := 0) (fun j a _ hj => by
    rw [h j a (by omega)]
    by_cases e : f j = true
    · rw [if_pos e, if_pos e]
    · rw [if_neg e, if_neg e])
  rw [Nat.zero_add] at h
  exact h
theorem md_cnt_n : md_cnt T f = nI (md_n T f) := ns_fI (fun _ _ _ => rfl)
theorem md_kin_n {t : Nat} {p : Bool} : md_kin T t p = nI (md_n T (fun u => !decide (u = t) && (if p = true then md_hangs T t u else md_hangs T u t))) := ns_fI (f := fun u => !decide (u = t) && (if p = true then md_hangs T t u else md_hangs T u t)) (fun _ _ _ => rfl)
theorem md_n_ext {f h : Nat → Bool} (e : ∀ t, t < mo_z T → f t = h t) : md_n T f = md_n T h := ns_ext (fun t _ ht => by rw [e t (by omega)])
theorem md_sF_ext {f h : Nat → Bool} (e : ∀ t, t < mo_z T → f t = h t) : md_sF T f = md_sF T h := ns_ext (fun t _ ht => by rw [e t (by omega)])
theorem md_sZ_ext {f h : Nat → Bool} (e : ∀ t, t < mo_z T → f t = h t) : md_sZ T f = md_sZ T h := ns_ext (fun t _ ht => by rw [e t (by omega)])
theorem sm_keys' (hP : sm_P g P T) : cl_keys P = md_nkeys T := by
  have hx : sm_b g T P.1 (fun u => (fun _ => true) u = true) := fun p => by
    rw [sm_all hP p]
    constructor
    · rintro ⟨u, h1, h2, -⟩
      exact ⟨u, h1, h2, rfl⟩
    · rintro ⟨u, h1, h2, -⟩
      exact ⟨u, h1, h2, trivial⟩
  have h := ns_foldI (F := fun p a => if bz_t P.1 p = true then a + nI (P.2.2 p).2.1.1 else a) (g := fun p => if bz_t P.1 p = true then (P.2.2 p).2.1.1 else 0) (m := 41) (i := 0) (B := 0) (fun j a _ _ => by
    by_cases e : bz_t P.1 j = true
    · rw [if_pos e, if_pos e]
    · rw [if_neg e, if_neg e]
      exact (Int32.add_zero a).symm)
  rw [Nat.zero_add, sm_sumN hP hx (fun p => (P.2.2 p).2.1.1) (Nat.le_refl _)] at h
  refine h.trans ?_
  have h2 := ns_foldI (F := fun t a => a + nI (md_sp T t)) (g := fun t => md_sp T t) (m := mo_z T) (i := 0) (B := 0) (fun _ _ _ _ => rfl)
  rw [Nat.zero_add] at h2
  refine Eq.trans ?_ h2.symm
  congr 1
  refine ns_ext (fun t _ ht => ?_)
  rw [if_pos rfl]
  exact (hP.2.2.2.1 t (by omega)).2.1
end SumP
