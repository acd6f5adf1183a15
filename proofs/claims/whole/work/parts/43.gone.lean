/-! Copies and removals in the reference. -/
section Views
/-- T's t looks as T''s u -/
def vw_eq (T : mo_S) (t : Nat) (T' : mo_S) (u : Nat) : Prop := (∀ j, j < 4 → mo_l T 0 (4 * t + j) = mo_l T' 0 (4 * u + j)) ∧ (∀ j, j < 32 → mo_l T 2 (32 * t + j) = mo_l T' 2 (32 * u + j)) ∧ (∀ j, j < 8 → mo_i T 3 (8 * t + j) = mo_i T' 3 (8 * u + j)) ∧ mo_i T 1 t = mo_i T' 1 u ∧ mo_l T 4 t = mo_l T' 4 u ∧ mo_i T 5 t = mo_i T' 5 u ∧ mo_i T 6 t = mo_i T' 6 u ∧ mo_i T 7 t = mo_i T' 7 u
variable {T T' T2 : mo_S} {t u w o o' : Nat}
theorem vw_rf : vw_eq T t T t := ⟨fun _ _ => rfl, fun _ _ => rfl, fun _ _ => rfl, rfl, rfl, rfl, rfl, rfl⟩
theorem vw_tr (h : vw_eq T t T' u) (h2 : vw_eq T' u T2 w) : vw_eq T t T2 w := by
  obtain ⟨a1, a2, a3, a4, a5, a6, a7, a8⟩ := h
  obtain ⟨b1, b2, b3, b4, b5, b6, b7, b8⟩ := h2
  exact ⟨fun j hj => (a1 j hj).trans (b1 j hj), fun j hj => (a2 j hj).trans (b2 j hj), fun j hj => (a3 j hj).trans (b3 j hj), a4.trans b4, a5.trans b5, a6.trans b6, a7.trans b7, a8.trans b8⟩
theorem vw_nm (h : vw_eq T t T' u) : md_nm T t = md_nm T' u := by
  unfold md_nm
  rw [h.1 1 (by decide), h.1 2 (by decide), h.1 3 (by decide), show mo_l T 0 (4 * t) = mo_l T' 0 (4 * u) from h.1 0 (by decide)]
theorem vw_sp (h : vw_eq T t T' u) : md_sp T t = md_sp T' u := by
  unfold md_sp
  rw [h.2.2.2.1]
theorem vw_kn (h : vw_eq T t T' u) {k : Nat} (hk : k < 8) : md_kn T t k = md_kn T' u k := by
  unfold md_kn
  simp only [Nat.add_assoc]
  rw [h.2.1 (4 * k) (by omega), h.2.1 (4 * k + 1) (by omega), h.2.1 (4 * k + 2) (by omega), h.2.1 (4 * k + 3) (by omega)]
theorem vw_hangs (h : vw_eq T t T' u) (h2 : vw_eq T o T' o') (h8 : md_sp T t ≤ 8) : md_hangs T t o = md_hangs T' u o' := by
  rw [md_hangs_eq, md_hangs_eq, ← vw_sp h]
  refine lp_any_ext (fun j _ hj => ?_)
  rw [md_has_eq, md_has_eq, vw_kn h (by omega), vw_nm h2]
theorem vw_clash (h : vw_eq T t T' u) (h2 : vw_eq T o T' o') (h8 : md_sp T t ≤ 8) (h9 : md_sp T o ≤ 8) : md_clash T t o = md_clash T' u o' := by
  rw [md_clash_eq, md_clash_eq, ← vw_sp h, ← vw_sp h2]
  refine lp_any_ext (fun i _ hi => lp_any_ext (fun j _ hj => ?_))
  rw [md_same_eq, md_same_eq, vw_kn h (by omega), vw_kn h2 (by omega), h.2.2.1 i (by omega), h2.2.2.1 j (by omega)]
theorem vw_miss (h : vw_eq T t T' u) (h2 : vw_eq T o T' o') (h8 : md_sp T t ≤ 8) : md_miss T t o = md_miss T' u o' := by
  rw [md_miss_eq, md_miss_eq, ← vw_sp h]
  refine lp_any_ext (fun j _ hj => ?_)
  rw [md_has_eq, md_has_eq, vw_kn h (by omega), vw_nm h2, h.2.2.1 j (by omega), h2.2.2.2.2.2.2.1]
theorem vw_tx {x : tx_T} (h : vw_eq T t T' u) (hx : sm_tx x T t) : sm_tx x T' u := by
  obtain ⟨a1, a2, a3, a4, a5, a6, a7, a8⟩ := hx
  exact ⟨a1.trans (vw_nm h), a2.trans (vw_sp h), fun j hj => (a3 j hj).trans (h.2.1 j hj), fun j hj => (a4 j hj).trans (h.2.2.1 j hj), a5.trans h.2.2.2.2.1, a6.trans h.2.2.2.2.2.1, a7.trans h.2.2.2.2.2.2.1, a8.trans h.2.2.2.2.2.2.2⟩
theorem vw_fe (h : vw_eq T t T' u) : md_fe T t = md_fe T' u := by
  unfold md_fe
  rw [h.2.2.2.2.1]
theorem vw_si (h : vw_eq T t T' u) : md_si T t = md_si T' u := by
  unfold md_si
  rw [h.2.2.2.2.2.1]
theorem vw_sym (h : vw_eq T t T' u) : vw_eq T' u T t := by
  obtain ⟨a1, a2, a3, a4, a5, a6, a7, a8⟩ := h
  exact ⟨fun j hj => (a1 j hj).symm, fun j hj => (a2 j hj).symm, fun j hj => (a3 j hj).symm, a4.symm, a5.symm, a6.symm, a7.symm, a8.symm⟩
/-- a copy of m words -/
theorem cpf {α : Type} {c a b : Nat} (hne : ∀ x y, x < c → y < c → c * a + x ≠ c * b + y) : ∀ (m i : Nat) (f : Nat → α), i + m ≤ c → ∀ j, lp_fold (fun i f => va_up f (c * b + i) (f (c * a + i))) m i f j = if c * b + i ≤ j ∧ j < c * b + i + m then f (c * a + (j - c * b)) else f j := by
  intro m
  induction m with
  | zero =>
    intro i f _ j
    rw [if_neg (by omega)]
    rfl
  | succ m ih =>
    intro i f hi j
    show lp_fold _ m (i + 1) (va_up f (c * b + i) (f (c * a + i))) j = _
    rw [ih (i + 1) _ (by omega)]
    by_cases e : j = c * b + i
    · rw [if_neg (by omega), if_pos (by omega), e, va_up_s, show c * b + i - c * b = i by omega]
    · by_cases h : c * b + (i + 1) ≤ j ∧ j < c * b + (i + 1) + m
      · rw [if_pos h, if_pos (by omega), va_up_n (hne _ _ (by omega) (by omega))]
      · rw [if_neg h, if_neg (by omega), va_up_n e]
theorem cpf_id {α : Type} {c a : Nat} : ∀ (m i : Nat) (f : Nat → α), lp_fold (fun i f => va_up f (c * a + i) (f (c * a + i))) m i f = f := by
  intro m
  induction m with
  | zero => intro i f; rfl
  | succ m ih =>
    intro i f
    show lp_fold _ m (i + 1) (va_up f (c * a + i) (f (c * a + i))) = f
    rw [va_up_id, ih]
theorem cpf_to {α : Type} {c a b : Nat} (hne : a ≠ b → ∀ x y, x < c → y < c → c * a + x ≠ c * b + y) {f : Nat → α} {j : Nat} (hj : j < c) : lp_fold (fun i f => va_up f (c * b + i) (f (c * a + i))) c 0 f (c * b + j) = f (c * a + j) := by
  by_cases e : a = b
  · subst e
    rw [cpf_id]
  · rw [cpf (hne e) c 0 f (by omega), if_pos (by omega), show c * b + j - c * b = j by omega]
theorem cpf_at {α : Type} {c a b t : Nat} (hne : a ≠ b → ∀ x y, x < c → y < c → c * a + x ≠ c * b + y) (ht : ∀ y, y < c → ¬ (c * b ≤ c * t + y ∧ c * t + y < c * b + c)) {f : Nat → α} {j : Nat} (hj : j < c) : lp_fold (fun i f => va_up f (c * b + i) (f (c * a + i))) c 0 f (c * t + j) = f (c * t + j) := by
  by_cases e : a = b
  · subst e
    rw [cpf_id]
  · rw [cpf (hne e) c 0 f (by omega), if_neg (by have := ht j hj; omega)]
/-- the rest of the reference, beside the pool -/
def mo_re (T : mo_S) : Int32 × Nat × Nat × (Nat → Int64) × (Nat → Int64) × (Nat → Int64) × (Nat → Int32) × (Nat → Int32) := (mo_c T, mo_t T, mo_r T, mo_l T 8, mo_l T 9, mo_l T 12, mo_i T 10, mo_i T 11)
theorem md_copy_re {a b : Nat} : mo_re (md_copy T a b) = mo_re T := rfl
theorem md_copy_z {a b : Nat} : mo_z (md_copy T a b) = mo_z T := rfl
theorem md_copy_to {a b : Nat} (h8 : mo_i T 1 a = nI (md_sp T a)) : vw_eq (md_copy T a b) b T a := by
  have hne4 : a ≠ b → ∀ x y, x < 4 → y < 4 → 4 * a + x ≠ 4 * b + y := fun _ x y _ _ => by omega
  have hne32 : a ≠ b → ∀ x y, x < 32 → y < 32 → 32 * a + x ≠ 32 * b + y := fun _ x y _ _ => by omega
  have hne8 : a ≠ b → ∀ x y, x < 8 → y < 8 → 8 * a + x ≠ 8 * b + y := fun _ x y _ _ => by omega
  refine ⟨fun j hj => cpf_to hne4 (f := mo_l T 0) hj, fun j hj => cpf_to hne32 (f := mo_l T 2) hj, fun j hj => cpf_to hne8 (f := mo_i T 3) hj, ?_, ?_, ?_, ?_, ?_⟩
  · exact (pk_us (f := mo_i T 1) (k := b) (x := nI (md_sp T a))).trans h8.symm
  · exact va_up_s (f := mo_l T 4) (k := b) (v := mo_l T 4 a)
  · exact pk_us (f := mo_i T 5) (k := b) (x := mo_i T 5 a)
  · exact pk_us (f := mo_i T 6) (k := b) (x := mo_i T 6 a)
  · exact pk_us (f := mo_i T 7) (k := b) (x := mo_i T 7 a)
theorem md_copy_at {a b : Nat} (ht : t ≠ b) : vw_eq (md_copy T a b) t T t := by
  have hne4 : a ≠ b → ∀ x y, x < 4 → y < 4 → 4 * a + x ≠ 4 * b + y := fun _ x y _ _ => by omega
  have hne32 : a ≠ b → ∀ x y, x < 32 → y < 32 → 32 * a + x ≠ 32 * b + y := fun _ x y _ _ => by omega
  have hne8 : a ≠ b → ∀ x y, x < 8 → y < 8 → 8 * a + x ≠ 8 * b + y := fun _ x y _ _ => by omega
  refine ⟨fun j hj => cpf_at hne4 (fun y hy => by omega) (f := mo_l T 0) hj, fun j hj => cpf_at hne32 (fun y hy => by omega) (f := mo_l T 2) hj, fun j hj => cpf_at hne8 (fun y hy => by omega) (f := mo_i T 3) hj, ?_, ?_, ?_, ?_, ?_⟩
  · exact pk_un (f := mo_i T 1) (k := b) ht
  · exact va_up_n (f := mo_l T 4) (k := b) (v := mo_l T 4 a) ht
  · exact pk_un (f := mo_i T 5) (k := b) ht
  · exact pk_un (f := mo_i T 6) (k := b) ht
  · exact pk_un (f := mo_i T 7) (k := b) ht
end Views
section Gone
variable {T : mo_S}
/-- who stays, in their order -/
def sm_kp (T : mo_S) (h : Nat → Nat) (i n : Nat) (T' : mo_S) : Prop := (∀ j, j < n → h j < i ∧ md_mk T (h j) = false ∧ vw_eq T' j T (h j)) ∧ (∀ a b, a < b → b < n → h a < h b) ∧ (∀ u, u < i → md_mk T u = false → ∃ j, j < n ∧ h j = u) ∧ n + ns_s (fun t => if md_mk T t = true then 1 else 0) i 0 = i ∧ mo_re T' = mo_re T
theorem md_rm_spec (hsp : ∀ t, t < 42 → mo_i T 1 t = nI (md_sp T t)) : ∀ (m i : Nat) (r : mo_S × Nat), i + m ≤ 42 → (∃ h, sm_kp T h i r.2 r.1) → (∀ t, i ≤ t → vw_eq r.1 t T t) → ∃ h, sm_kp T h (i + m) (lp_fold md_rmF m i r).2 (lp_fold md_rmF m i r).1 := by
  intro m
  induction m with
  | zero => intro i r _ h _; exact h
  | succ m ih =>
    intro i r hi h hv
    obtain ⟨h, h1, h2, h3, h4, h5⟩ := h
    have emk : md_mk r.1 = md_mk T := by
      funext u
      unfold md_mk
      rw [show mo_i r.1 11 = mo_i T 11 from congrArg (fun q => q.2.2.2.2.2.2.2) h5]
    have hni : r.2 ≤ i := by omega
    rw [show i + (m + 1) = i + 1 + m by omega]
    refine ih (i + 1) (md_rmF i r) (by omega) ?_ ?_
    · unfold md_rmF
      rw [emk]
      by_cases c : md_mk T i = true
      · rw [if_pos c]
        refine ⟨h, fun j hj => ⟨by have := (h1 j hj).1; omega, (h1 j hj).2⟩, h2, fun u hu hm => ?_, ?_, h5⟩
        · by_cases e : u = i
          · rw [e, c] at hm
            cases hm
          · exact h3 u (by omega) hm
        · rw [ns_snoc, Nat.zero_add, if_pos c]
          omega
      · rw [if_neg c]
        have v0 := hv i (Nat.le_refl _)
        have s0 : mo_i r.1 1 i = nI (md_sp r.1 i) := by
          rw [v0.2.2.2.1, vw_sp v0]
          exact hsp i (by omega)
        refine ⟨va_up h r.2 i, fun j hj => ?_, fun a b hab hb => ?_, fun u hu hm => ?_, ?_, md_copy_re.trans h5⟩
        · by_cases e : j = r.2
          · rw [e, va_up_s]
            exact ⟨by omega, bt_f c, vw_tr (md_copy_to s0) v0⟩
          · have hj' : j < r.2 := by
              have : j < r.2 + 1 := hj
              omega
            rw [va_up_n e]
            exact ⟨by have := (h1 j hj').1; omega, (h1 j hj').2.1, vw_tr (md_copy_at e) (h1 j hj').2.2⟩
        · have hb' : b < r.2 + 1 := hb
          have ea : a ≠ r.2 := by omega
          rw [va_up_n ea]
          by_cases e : b = r.2
          · rw [e, va_up_s]
            exact (h1 a (by omega)).1
          · rw [va_up_n e]
            exact h2 a b hab (by omega)
        · by_cases e : u = i
          · exact ⟨r.2, Nat.lt_succ_self _, by rw [va_up_s, e]⟩
          · obtain ⟨j, hj, hju⟩ := h3 u (by omega) hm
            exact ⟨j, Nat.lt_succ_of_lt hj, by rw [va_up_n (show j ≠ r.2 by omega)]; exact hju⟩
        · show r.2 + 1 + _ = _
          rw [ns_snoc, Nat.zero_add, if_neg c]
          omega
    · intro t ht
      unfold md_rmF
      by_cases c : md_mk r.1 i = true
      · rw [if_pos c]
        exact hv t (by omega)
      · rw [if_neg c]
        exact vw_tr (md_copy_at (by omega)) (hv t (by omega))
theorem md_remove_spec (hsp : ∀ t, t < 42 → mo_i T 1 t = nI (md_sp T t)) (hz : mo_z T ≤ 42) : ∃ h, sm_kp T h (mo_z T) (mo_z (md_remove T)) (md_remove T) := by
  have := md_rm_spec hsp (mo_z T) 0 (T, 0) (by omega) ⟨fun _ => 0, fun j hj => absurd hj (Nat.not_lt_zero _), fun a b _ hb => absurd hb (Nat.not_lt_zero _), fun u hu => absurd hu (Nat.not_lt_zero _), rfl, rfl⟩ (fun t _ => vw_rf)
  rw [Nat.zero_add] at this
  exact this
variable {g : Nat → Nat} {P : po_S} {n : Nat}
theorem sm_kp_inj {h : Nat → Nat} {i m : Nat} {T' : mo_S} (hk : sm_kp T h i m T') : ∀ a b, a < m → b < m → h a = h b → a = b := by
  intro a b ha hb e
  rcases Nat.lt_trichotomy a b with q | q | q
  · have := hk.2.1 a b q hb
    omega
  · exact q
  · have := hk.2.1 b a q ha
    omega
/-- those of G go, on both sides -/
theorem sm_gone {f : Nat → Bool} {G : Int64} (ho : mo_ok T) (hz : mo_z T ≤ 41) (hP : sm_P g P T) (hV : sm_V n T) (hG : sm_b g T G (fun u => f u = true)) : (∃ g', sm_P g' (cl_rm P G) (md_remove (mo_M T f))) ∧ sm_V n (md_remove (mo_M T f)) ∧ mo_re (md_remove (mo_M T f)) = mo_re (mo_M T f) ∧ mo_z (md_remove (mo_M T f)) + md_n T f = mo_z T := by
  obtain ⟨h, hk⟩ := md_remove_spec (T := mo_M T f) (fun t ht => (ho.1 t ht).1) (show mo_z T ≤ 42 by omega)
  have hinj := sm_kp_inj hk
  obtain ⟨k1, k2, k3, k4, k5⟩ := hk
  have emk : md_mk (mo_M T f) = f := funext (fun u => md_mkM)
  rw [emk] at k1 k3 k4
  have k1 : ∀ j, j < mo_z (md_remove (mo_M T f)) → h j < mo_z T ∧ f (h j) = false ∧ vw_eq (md_remove (mo_M T f)) j T (h j) := k1
  have k3 : ∀ u, u < mo_z T → f u = false → ∃ j, j < mo_z (md_remove (mo_M T f)) ∧ h j = u := k3
  generalize hT' : md_remove (mo_M T f) = T' at *
  obtain ⟨A1, A2, A3, A4, A5⟩ := hP
  obtain ⟨V1, V2, V3, ⟨c, V4⟩, V5⟩ := hV
  have sp8 : ∀ t, t < mo_z T → md_sp T t ≤ 8 := fun t ht => (ho.1 t (by omega)).2
  have hh : ∀ a b, a < mo_z T' → b < mo_z T' → md_hangs T' a b = md_hangs T (h a) (h b) := fun a b ha hb => vw_hangs (k1 a ha).2.2 (k1 b hb).2.2 (by rw [vw_sp (k1 a ha).2.2]; exact sp8 _ (k1 a ha).1)
  have nG : ∀ t, t < mo_z T → f t = false → bz_t G (g t) = false := fun t ht hf => by
    cases e : bz_t G (g t) with
    | false => rfl
    | true =>
      obtain ⟨u, u1, u2, u3⟩ := (hG _).mp e
      rw [A2 u t u1 ht u2, hf] at u3
      cases u3
  have bG : ∀ (x : Int64) (p : Nat), bz_t (x &&& (G ^^^ (-1))) p = (bz_t x p && !bz_t G p) := fun x p => by
    rw [bz_and]
    by_cases hp : p < 64
    · rw [bz_not G hp]
    · rw [bz_big (x := x) (by omega), Bool.false_and, Bool.false_and]
  refine ⟨⟨fun j => g (h j), fun t ht => ⟨(A1 _ (k1 t ht).1).1, ?_⟩, fun a b ha hb e => hinj a b ha hb (A2 _ _ (k1 a ha).1 (k1 b hb).1 e), fun p hp => ?_, fun t ht => ?_, fun t ht p => ?_⟩, ⟨fun a b ha hb e => ?_, fun a b ha hb e => ?_, fun a ha => ?_, ⟨fun j => c (h j), fun t ht => ?_⟩, fun t ht => ?_⟩, k5, k4⟩
  · show bz_t (P.1 &&& (G ^^^ (-1))) (g (h t)) = true
    rw [bG, (A1 _ (k1 t ht).1).2, nG _ (k1 t ht).1 (k1 t ht).2.1]
    rfl
  · have hp' : bz_t (P.1 &&& (G ^^^ (-1))) p = true := hp
    rw [bG] at hp'
    obtain ⟨h1, h2⟩ := Bool.and_eq_true _ _ |>.mp hp'
    obtain ⟨u, u1, u2⟩ := A3 p h1
    have hf : f u = false := by
      cases e : f u with
      | false => rfl
      | true =>
        rw [(hG p).mpr ⟨u, u1, u2, e⟩] at h2
        cases h2
    obtain ⟨j, j1, j2⟩ := k3 u u1 hf
    exact ⟨j, j1, by show g (h j) = p; rw [j2]; exact u2⟩
  · have := vw_tx (vw_sym (k1 t ht).2.2) (A4 _ (k1 t ht).1)
    exact this
  · have ht1 := (k1 t ht).1
    have e1 : (bz_t ((P.2.2 (g (h t))).2.2.2.2.2.2.1 &&& (G ^^^ (-1))) p = true ↔ ∃ u, u < mo_z T' ∧ g (h u) = p ∧ md_hangs T' t u = true) := by
      rw [bG, Bool.and_eq_true, (A5 _ ht1 p).1]
      constructor
      · rintro ⟨⟨u, u1, u2, u3⟩, h2⟩
        have hf : f u = false := by
          cases e : f u with
          | false => rfl
          | true =>
            rw [(hG p).mpr ⟨u, u1, u2, e⟩] at h2
            cases h2
        obtain ⟨j, j1, j2⟩ := k3 u u1 hf
        exact ⟨j, j1, by rw [j2]; exact u2, by rw [hh t j ht j1, j2]; exact u3⟩
      · rintro ⟨j, j1, j2, j3⟩
        rw [hh t j ht j1] at j3
        refine ⟨⟨h j, (k1 j j1).1, j2, j3⟩, ?_⟩
        rw [← j2, nG _ (k1 j j1).1 (k1 j j1).2.1]
        rfl
    have e2 : (bz_t ((P.2.2 (g (h t))).2.2.2.2.2.2.2 &&& (G ^^^ (-1))) p = true ↔ ∃ u, u < mo_z T' ∧ g (h u) = p ∧ md_hangs T' u t = true) := by
      rw [bG, Bool.and_eq_true, (A5 _ ht1 p).2]
      constructor
      · rintro ⟨⟨u, u1, u2, u3⟩, h2⟩
        have hf : f u = false := by
          cases e : f u with
          | false => rfl
          | true =>
            rw [(hG p).mpr ⟨u, u1, u2, e⟩] at h2
            cases h2
        obtain ⟨j, j1, j2⟩ := k3 u u1 hf
        exact ⟨j, j1, by rw [j2]; exact u2, by rw [hh j t j1 ht, j2]; exact u3⟩
      · rintro ⟨j, j1, j2, j3⟩
        rw [hh j t j1 ht] at j3
        refine ⟨⟨h j, (k1 j j1).1, j2, j3⟩, ?_⟩
        rw [← j2, nG _ (k1 j j1).1 (k1 j j1).2.1]
        rfl
    exact ⟨e1, e2⟩
  · rw [vw_nm (k1 a ha).2.2, vw_nm (k1 b hb).2.2] at e
    exact hinj a b ha hb (V1 _ _ (k1 a ha).1 (k1 b hb).1 e)
  · rw [vw_clash (k1 a ha).2.2 (k1 b hb).2.2 (by rw [vw_sp (k1 a ha).2.2]; exact sp8 _ (k1 a ha).1) (by rw [vw_sp (k1 b hb).2.2]; exact sp8 _ (k1 b hb).1)]
    exact V2 _ _ (k1 a ha).1 (k1 b hb).1 (fun z => e (hinj a b ha hb z))
  · rw [hh a a ha ha]
    exact V3 _ (k1 a ha).1
  · obtain ⟨x1, x2, x3⟩ := V4 _ (k1 t ht).1
    exact ⟨(k1 t ht).2.2.2.2.2.2.2.2.2.trans x1, x2, fun u hu => x3 _ (k2 u t hu ht)⟩
  · have := V5 _ (k1 t ht).1
    rw [vw_fe (k1 t ht).2.2, vw_si (k1 t ht).2.2, (k1 t ht).2.2.2.2.2.2.1, (k1 t ht).2.2.2.2.2.2.2.1]
    exact this
end Gone
