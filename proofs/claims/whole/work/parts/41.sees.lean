/-! What the loops see, as words. -/
section Sees
theorem q4 {f g : Nat → Int64} {a : Bool} : lp_fold (fun i b => b && decide (f i = g i)) 4 0 a = (a && decide ((f 0, f 1, f 2, f 3) = (g 0, g 1, g 2, g 3))) := by
  show ((((a && decide (f 0 = g 0)) && decide (f 1 = g 1)) && decide (f 2 = g 2)) && decide (f 3 = g 3)) = _
  simp only [Prod.mk.injEq, Bool.decide_and, Bool.and_assoc]
theorem lp_or_any {P : Nat → Bool} : ∀ {m i : Nat} {a : Bool}, lp_fold (fun k b => b || P k) m i a = (a || lp_any P m i) := by
  intro m
  induction m with
  | zero => intro i a; show a = (a || false); rw [Bool.or_false]
  | succ m ih =>
    intro i a
    show lp_fold _ m (i + 1) (a || P i) = (a || (P i || lp_any P m (i + 1)))
    rw [ih, Bool.or_assoc]
variable {T : mo_S}
def md_kn (T : mo_S) (t k : Nat) : nm_T := (mo_l T 2 (32 * t + 4 * k), mo_l T 2 (32 * t + 4 * k + 1), mo_l T 2 (32 * t + 4 * k + 2), mo_l T 2 (32 * t + 4 * k + 3))
def md_tn (T : mo_S) (k : Nat) : nm_T := (mo_l T 9 (4 * k), mo_l T 9 (4 * k + 1), mo_l T 9 (4 * k + 2), mo_l T 9 (4 * k + 3))
theorem md_named_eq (t : Nat) : md_named T t = decide (md_nm T t = md_hn T) := (q4 (f := fun i => mo_l T 0 (4 * t + i)) (g := fun i => mo_l T 8 i)).trans (Bool.true_and _)
theorem md_has_eq (t k o : Nat) : md_has T t k o = decide (md_kn T t k = md_nm T o) := (q4 (f := fun i => mo_l T 2 (32 * t + 4 * k + i)) (g := fun i => mo_l T 0 (4 * o + i))).trans (Bool.true_and _)
theorem md_same_eq (t k u q : Nat) : md_same T t k u q = (decide (mo_i T 3 (8 * t + k) = mo_i T 3 (8 * u + q)) && decide (md_kn T t k = md_kn T u q)) := q4 (f := fun i => mo_l T 2 (32 * t + 4 * k + i)) (g := fun i => mo_l T 2 (32 * u + 4 * q + i))
theorem md_like_eq (x : Int32) (k : Nat) : md_like T x k = (decide (mo_i T 10 k = x) && decide (md_tn T k = md_hn T)) := q4 (f := fun i => mo_l T 9 (4 * k + i)) (g := fun i => mo_l T 8 i)
theorem md_skey_eq (x : Int32) (t k : Nat) : md_skey T x t k = (decide (mo_i T 3 (8 * t + k) = x) && decide (md_kn T t k = md_hn T)) := q4 (f := fun i => mo_l T 2 (32 * t + 4 * k + i)) (g := fun i => mo_l T 8 i)
theorem md_hangs_eq (t o : Nat) : md_hangs T t o = lp_any (fun k => md_has T t k o) (md_sp T t) 0 := lp_or_any.trans (Bool.false_or _)
theorem md_clashI_eq (t k u : Nat) (b : Bool) : md_clashI T t k u b = (b || lp_any (fun q => md_same T t k u q) (md_sp T u) 0) := lp_or_any
theorem md_clash_eq (t u : Nat) : md_clash T t u = lp_any (fun k => lp_any (fun q => md_same T t k u q) (md_sp T u) 0) (md_sp T t) 0 := by
  unfold md_clash
  rw [lp_fold_ext (G := fun k b => b || lp_any (fun q => md_same T t k u q) (md_sp T u) 0) (fun j a _ _ => md_clashI_eq t j u a), lp_or_any, Bool.false_or]
theorem md_miss_eq (t o : Nat) : md_miss T t o = lp_any (fun k => md_has T t k o && (decide (mo_i T 3 (8 * t + k) < 0) || decide (mo_i T 6 o ≤ mo_i T 3 (8 * t + k)))) (md_sp T t) 0 := lp_or_any.trans (Bool.false_or _)
/-- keys as the reference's t has them -/
def sm_k (v : kv_T) (T : mo_S) (i : Nat) : Prop := v.1 = md_sp T i ∧ (∀ j, j < 32 → v.2.1 j = mo_l T 2 (32 * i + j)) ∧ (∀ j, j < 8 → v.2.2 j = mo_i T 3 (8 * i + j))
variable {v u : kv_T} {t o : Nat}
theorem sm_tx_k {x : tx_T} (h : sm_tx x T t) : sm_k x.2.1 T t := ⟨h.2.1, h.2.2.1, h.2.2.2.1⟩
theorem sm_kn (h : sm_k v T t) {k : Nat} (hk : k < 8) : kx_n v.2.1 k = md_kn T t k := by
  unfold kx_n md_kn
  rw [Nat.mul_comm k 4, h.2.1 (4 * k) (by omega), h.2.1 (4 * k + 1) (by omega), h.2.1 (4 * k + 2) (by omega), h.2.1 (4 * k + 3) (by omega)]
  simp only [Nat.add_assoc]
theorem sm_bears (h : sm_k v T t) (h8 : md_sp T t ≤ 8) : kv_bears v (md_nm T o) = md_hangs T t o := by
  rw [md_hangs_eq]
  unfold kv_bears
  rw [h.1]
  refine lp_any_ext (fun j _ hj => ?_)
  rw [md_has_eq, sm_kn h (by omega)]
theorem sm_has (h : sm_k v T t) (h8 : md_sp T t ≤ 8) {x : Int32} : kv_has v (md_hn T) x = lp_any (md_skey T x t) (md_sp T t) 0 := by
  unfold kv_has
  rw [h.1]
  refine lp_any_ext (fun j _ hj => ?_)
  rw [md_skey_eq, sm_kn h (by omega), h.2.2 j (by omega)]
theorem sm_miss (h : sm_k v T t) (h8 : md_sp T t ≤ 8) : kv_miss v (md_nm T o) (mo_i T 6 o) = md_miss T t o := by
  rw [md_miss_eq]
  unfold kv_miss
  rw [h.1]
  refine lp_any_ext (fun j _ hj => ?_)
  rw [md_has_eq, sm_kn h (by omega), h.2.2 j (by omega), Bool.and_comm]
theorem kx_n4 {f g : Nat → Int64} {i j : Nat} : (!(lp_any (fun w => !decide (f (i * 4 + w) = g (j * 4 + w))) 4 0)) = decide (kx_n f i = kx_n g j) := by
  show (!(!decide (f (i * 4) = g (j * 4)) || (!decide (f (i * 4 + 1) = g (j * 4 + 1)) || (!decide (f (i * 4 + 2) = g (j * 4 + 2)) || (!decide (f (i * 4 + 3) = g (j * 4 + 3)) || false))))) = _
  unfold kx_n
  simp only [Prod.mk.injEq, Bool.decide_and, Bool.not_or, Bool.not_not, Bool.not_false, Bool.and_true]
theorem sm_meet (h : sm_k v T t) (h2 : sm_k u T o) (h8 : md_sp T t ≤ 8) (h9 : md_sp T o ≤ 8) : kv_meet v u = md_clash T t o := by
  rw [md_clash_eq]
  unfold kv_meet
  rw [h.1, h2.1]
  refine lp_any_ext (fun i _ hi => lp_any_ext (fun j _ hj => ?_))
  rw [md_same_eq, kx_n4, sm_kn h (by omega), sm_kn h2 (by omega), h.2.2 i (by omega), h2.2.2 j (by omega)]
/-- the first of them -/
theorem fo_spec {P : Nat → Bool} {m : Nat} : (∃ p, fo_find P m 0 = some p ∧ p < m ∧ P p = true) ∨ (fo_find P m 0 = none ∧ ∀ p, p < m → P p = false) := by
  cases h : fo_find P m 0 with
  | none => exact Or.inr ⟨rfl, fun p hp => fo_none h p (Nat.zero_le _) (by omega)⟩
  | some p =>
    obtain ⟨-, h2, h3⟩ := fo_some h
    exact Or.inl ⟨p, rfl, by omega, h3⟩
end Sees
section Least
/-- the least closed set -/
def rc_R (r : Nat → Prop) (E : Nat → Nat → Prop) (p : Nat) : Prop := ∀ X : Nat → Prop, (∀ q, r q → X q) → (∀ q w, X q → E q w → X w) → X p
theorem rc_of {r : Nat → Prop} {E : Nat → Nat → Prop} {p : Nat} (h : r p) : rc_R r E p := fun _ h1 _ => h1 p h
theorem rc_step {r : Nat → Prop} {E : Nat → Nat → Prop} {p q : Nat} (h : rc_R r E p) (he : E p q) : rc_R r E q := fun X h1 h2 => h2 p q (h X h1 h2) he
theorem ct_full {P : Nat → Bool} : ∀ {n : Nat}, n ≤ ct_n P n → ∀ i, i < n → P i = true := by
  intro n
  induction n with
  | zero => intro _ i hi; omega
  | succ n ih =>
    intro h i hi
    have h1 : n + 1 ≤ ct_n P n + (if P n = true then 1 else 0) := h
    have h2 := ct_le P n
    by_cases e : P n = true
    · rw [if_pos e] at h1
      by_cases q : i = n
      · rw [q]; exact e
      · exact ih (by omega) i (by omega)
    · rw [if_neg e] at h1
      omega
variable {S : po_S}
abbrev tx_kids (S : po_S) (p : Nat) : Int64 := (S.2.2 p).2.2.2.2.2.2.2
theorem cl_famL_spec {r : Int64} (hr : ∀ p, bz_t r p = true → p < 41) (hch : ∀ p q, p < 41 → rc_R (fun p => bz_t r p = true) (fun p q => bz_t (tx_kids S p) q = true) p → bz_t (tx_kids S p) q = true → q < 41) :
    ∀ (m : Nat) (a o : Int64), (∀ p, bz_t r p = true → bz_t a p = true) → (∀ p, bz_t o p = true → bz_t a p = true) → (∀ p, bz_t a p = true → p < 41 ∧ rc_R (fun p => bz_t r p = true) (fun p q => bz_t (tx_kids S p) q = true) p) → (∀ p q, bz_t a p = true → bz_t o p = false → bz_t (tx_kids S p) q = true → bz_t a q = true) → 41 ≤ m + ct_n (fun p => bz_t a p && !bz_t o p) 41 →
      ∀ p, bz_t (cl_famL S m a o) p = true ↔ rc_R (fun p => bz_t r p = true) (fun p q => bz_t (tx_kids S p) q = true) p := by
  have fin : ∀ a o : Int64, (∀ p, bz_t r p = true → bz_t a p = true) → (∀ p, bz_t a p = true → p < 41 ∧ rc_R (fun p => bz_t r p = true) (fun p q => bz_t (tx_kids S p) q = true) p) → (∀ p q, bz_t a p = true → bz_t o p = false → bz_t (tx_kids S p) q = true → bz_t a q = true) → (∀ p, p < 41 → bz_t o p = false) → ∀ p, bz_t a p = true ↔ rc_R (fun p => bz_t r p = true) (fun p q => bz_t (tx_kids S p) q = true) p := by
    intro a o h1 h3 h4 h5 p
    exact ⟨fun h => (h3 p h).2, fun h => h (fun p => bz_t a p = true) h1 (fun q w hq hw => h4 q w hq (h5 q (h3 q hq).1) hw)⟩
  intro m
  induction m with
  | zero =>
    intro a o h1 h2 h3 h4 h5
    refine fin a o h1 h3 h4 (fun p hp => ?_)
    have := ct_full (P := fun p => bz_t a p && !bz_t o p) (n := 41) (by omega) p hp
    have h6 := (Bool.and_eq_true _ _ |>.mp this).2
    cases h : bz_t o p with
    | false => rfl
    | true => rw [h] at h6; cases h6
  | succ m ih =>
    intro a o h1 h2 h3 h4 h5
    by_cases hl : 41 ≤ bz_low o
    · have e : cl_famL S (m + 1) a o = a := if_pos hl
      rw [e]
      refine fin a o h1 h3 h4 (fun p hp => ?_)
      rcases bz_low_spec o with ⟨z, -⟩ | ⟨-, -, z⟩
      · rw [z]
        exact bz_0 p
      · exact z p (by omega)
    · have e : cl_famL S (m + 1) a o = cl_famL S m (a ||| (tx_kids S (bz_low o) &&& (a ^^^ (-1)))) ((o &&& (bz_b (bz_low o) ^^^ (-1))) ||| (tx_kids S (bz_low o) &&& (a ^^^ (-1)))) := if_neg hl
      rw [e]
      obtain ⟨l1, l2, -⟩ : bz_low o < 64 ∧ bz_t o (bz_low o) = true ∧ ∀ j, j < bz_low o → bz_t o j = false := by
        rcases bz_low_spec o with ⟨-, z⟩ | z
        · omega
        · exact z
      have lw : bz_low o < 41 := by omega
      generalize bz_low o = w at *
      have wa := h2 w l2
      have wr := (h3 w wa).2
      -- the new sets, bit by bit
      have eK : ∀ p, bz_t (tx_kids S w &&& (a ^^^ (-1))) p = (bz_t (tx_kids S w) p && !bz_t a p) := fun p => by
        rw [bz_and]
        by_cases hp : p < 64
        · rw [bz_not a hp]
        · rw [bz_big (x := tx_kids S w) (by omega), Bool.false_and, Bool.false_and]
      have eA : ∀ p, bz_t (a ||| (tx_kids S w &&& (a ^^^ (-1)))) p = (bz_t a p || bz_t (tx_kids S w) p) := fun p => by
        rw [bz_or, eK]
        cases bz_t a p <;> cases bz_t (tx_kids S w) p <;> rfl
      have eO : ∀ p, bz_t ((o &&& (bz_b w ^^^ (-1))) ||| (tx_kids S w &&& (a ^^^ (-1)))) p = ((bz_t o p && !decide (w = p)) || (bz_t (tx_kids S w) p && !bz_t a p)) := fun p => by
        rw [bz_or, eK, bz_and]
        by_cases hp : p < 64
        · rw [bz_not _ hp, bz_bit (by omega)]
        · rw [bz_big (x := o) (by omega), Bool.false_and, Bool.false_and]
      refine ih _ _ (fun p hp => ?_) (fun p hp => ?_) (fun p hp => ?_) (fun p q hp ho hk => ?_) ?_
      · rw [eA, h1 p hp, Bool.true_or]
      · rw [eO] at hp
        rw [eA]
        rcases Bool.or_eq_true _ _ |>.mp hp with z | z
        · rw [h2 p (Bool.and_eq_true _ _ |>.mp z).1, Bool.true_or]
        · rw [(Bool.and_eq_true _ _ |>.mp z).1, Bool.or_true]
      · rw [eA] at hp
        rcases Bool.or_eq_true _ _ |>.mp hp with z | z
        · exact h3 p z
        · exact ⟨hch w p lw wr z, rc_step wr z⟩
      · rw [eA] at hp ⊢
        rw [eO] at ho
        by_cases hpw : p = w
        · rw [hpw] at hk
          rw [hk, Bool.or_true]
        · have ho' : bz_t o p = false ∧ (bz_t (tx_kids S w) p && !bz_t a p) = false := by
            have hd : decide (w = p) = false := decide_eq_false (fun z => hpw z.symm)
            rw [hd, Bool.not_false, Bool.and_true] at ho
            exact Bool.or_eq_false_iff.mp ho
          rcases Bool.or_eq_true _ _ |>.mp hp with z | z
          · rw [h4 p q z ho'.1 hk, Bool.true_or]
          · have : bz_t a p = true := by
              have := ho'.2
              rw [z, Bool.true_and] at this
              cases ha : bz_t a p with
              | true => rfl
              | false => rw [ha] at this; cases this
            rw [h4 p q this ho'.1 hk, Bool.true_or]
      · have hg : ct_n (fun p => bz_t a p && !bz_t o p) 41 < ct_n (fun p => bz_t (a ||| (tx_kids S w &&& (a ^^^ (-1)))) p && !bz_t ((o &&& (bz_b w ^^^ (-1))) ||| (tx_kids S w &&& (a ^^^ (-1)))) p) 41 := by
          refine ct_grow (fun p hp => ?_) w lw ?_ ?_
          · obtain ⟨z1, z2⟩ := Bool.and_eq_true _ _ |>.mp hp
            have z3 : bz_t o p = false := by
              cases h : bz_t o p with
              | false => rfl
              | true => rw [h] at z2; cases z2
            rw [eA, eO, z1, z3]
            simp
          · rw [l2, Bool.not_true, Bool.and_false]
          · rw [eA, eO, wa, decide_eq_true rfl]
            simp
        omega
theorem cl_fam_spec {r : Int64} (hr : ∀ p, bz_t r p = true → p < 41) (hch : ∀ p q, p < 41 → rc_R (fun p => bz_t r p = true) (fun p q => bz_t (tx_kids S p) q = true) p → bz_t (tx_kids S p) q = true → q < 41) (p : Nat) : bz_t (cl_fam S r) p = true ↔ rc_R (fun p => bz_t r p = true) (fun p q => bz_t (tx_kids S p) q = true) p :=
  cl_famL_spec hr hch 41 r r (fun _ h => h) (fun _ h => h) (fun p h => ⟨hr p h, rc_of h⟩) (fun p q h1 h2 _ => by rw [h1] at h2; cases h2) (by omega) p
variable {T : mo_S}
def md_E (T : mo_S) (n : Nat) (v u : Nat) : Prop := v < 42 ∧ u < n ∧ u ≠ v ∧ md_hangs T u v = true
theorem md_hit_iff {f : Nat → Bool} {u : Nat} : md_hit T f u = true ↔ ∃ v, v < 42 ∧ f v = true ∧ u ≠ v ∧ md_hangs T u v = true := by
  unfold md_hit
  rw [lp_any_iff]
  constructor
  · rintro ⟨v, -, h2, h3⟩
    obtain ⟨a, b⟩ := Bool.and_eq_true _ _ |>.mp h3
    obtain ⟨b, c⟩ := Bool.and_eq_true _ _ |>.mp b
    refine ⟨v, by omega, a, fun z => ?_, c⟩
    rw [decide_eq_true z] at b
    cases b
  · rintro ⟨v, h1, h2, h3, h4⟩
    exact ⟨v, Nat.zero_le _, by omega, by rw [h2, decide_eq_false h3, h4]; rfl⟩
theorem md_pass_sound {n : Nat} {X : Nat → Prop} (hX : ∀ v u, X v → md_E T n v u → X u) : ∀ (m i : Nat) (r : (Nat → Bool) × Bool), i + m ≤ n → (∀ u, r.1 u = true → X u) → ∀ u, (lp_fold (md_passF T) m i r).1 u = true → X u := by
  intro m
  induction m with
  | zero => intro i r _ h; exact h
  | succ m ih =>
    intro i r hi h
    refine ih (i + 1) (md_passF T i r) (by omega) (fun u hu => ?_)
    unfold md_passF at hu
    by_cases a : r.1 i = true
    · rw [if_pos a] at hu
      exact h u hu
    · rw [if_neg a] at hu
      by_cases b : md_hit T r.1 i = true
      · rw [if_pos b] at hu
        by_cases e : u = i
        · obtain ⟨v, h1, h2, h3, h4⟩ := md_hit_iff.mp b
          rw [e]
          exact hX v i (h v h2) ⟨h1, by omega, h3, h4⟩
        · have : va_up r.1 i true u = true := hu
          rw [va_up_n e] at this
          exact h u this
      · rw [if_neg b] at hu
        exact h u hu
theorem md_pass_done : ∀ (m i : Nat) (r : (Nat → Bool) × Bool), (lp_fold (md_passF T) m i r).2 = false → (lp_fold (md_passF T) m i r).1 = r.1 ∧ ∀ u, i ≤ u → u < i + m → r.1 u = true ∨ md_hit T r.1 u = false := by
  intro m
  induction m with
  | zero => intro i r _; exact ⟨rfl, fun u h1 h2 => by omega⟩
  | succ m ih =>
    intro i r h
    have h' : (lp_fold (md_passF T) m (i + 1) (md_passF T i r)).2 = false := h
    by_cases a : r.1 i = true
    · have e : md_passF T i r = r := if_pos a
      rw [e] at h'
      obtain ⟨h1, h2⟩ := ih (i + 1) r h'
      refine ⟨by show (lp_fold (md_passF T) m (i + 1) (md_passF T i r)).1 = r.1; rw [e]; exact h1, fun u hu1 hu2 => ?_⟩
      by_cases q : u = i
      · exact Or.inl (q ▸ a)
      · exact h2 u (by omega) (by omega)
    · by_cases b : md_hit T r.1 i = true
      · have e : md_passF T i r = (va_up r.1 i true, true) := by unfold md_passF; rw [if_neg a, if_pos b]
        rw [e] at h'
        rw [(md_passL T m (i + 1) (va_up r.1 i true, true)).2.1 rfl] at h'
        cases h'
      · have e : md_passF T i r = r := by unfold md_passF; rw [if_neg a, if_neg b]
        rw [e] at h'
        obtain ⟨h1, h2⟩ := ih (i + 1) r h'
        refine ⟨by show (lp_fold (md_passF T) m (i + 1) (md_passF T i r)).1 = r.1; rw [e]; exact h1, fun u hu1 hu2 => ?_⟩
        by_cases q : u = i
        · exact Or.inr (q ▸ bt_f b)
        · exact h2 u (by omega) (by omega)
theorem md_famW_spec {n : Nat} {X : Nat → Prop} (hX : ∀ v u, X v → md_E T n v u → X u) : ∀ (m : Nat) (f : Nat → Bool), n - ct_n f n < m → (∀ u, f u = true → X u) → (∀ u, md_famW T n m f u = true → X u) ∧ ∀ v u, md_famW T n m f v = true → md_E T n v u → md_famW T n m f u = true := by
  intro m
  induction m with
  | zero => intro f h; omega
  | succ m ih =>
    intro f hm h
    have hs := md_pass_sound hX n 0 (f, false) (by omega) h
    by_cases c : (md_pass T n f).2 = true
    · have e : md_famW T n (m + 1) f = md_famW T n m (md_pass T n f).1 := if_pos c
      rw [e]
      have gr := md_pass_grow c
      have cl := ct_le (md_pass T n f).1 n
      exact ih _ (by omega) hs
    · have e : md_famW T n (m + 1) f = (md_pass T n f).1 := if_neg c
      rw [e]
      refine ⟨hs, fun v u hv hE => ?_⟩
      obtain ⟨h1, h2⟩ := md_pass_done n 0 (f, false) (bt_f c)
      have h1' : (md_pass T n f).1 = f := h1
      rw [h1'] at hv ⊢
      rcases h2 u (Nat.zero_le _) (by have := hE.2.1; omega) with z | z
      · exact z
      · have z' : md_hit T f u = true := md_hit_iff.mpr ⟨v, hE.1, hv, hE.2.2.1, hE.2.2.2⟩
        have z2 : md_hit T f u = false := z
        rw [z'] at z2
        cases z2
theorem md_famC_iff {t n u : Nat} (hn : n ≤ 42) : md_famC T t n u = true ↔ rc_R (fun q => q = t) (md_E T n) u := by
  constructor
  · intro h X h1 h2
    exact (md_famW_spec h2 43 (fun u => decide (u = t)) (by omega) (fun u hu => h1 u (of_decide_eq_true hu))).1 u h
  · intro h
    exact h (fun u => md_famC T t n u = true) (fun q hq => by rw [hq]; exact md_famC_self) (fun v u hv hE => (md_famW_spec (X := fun _ => True) (fun _ _ _ _ => trivial) 43 (fun u => decide (u = t)) (by omega) (fun _ _ => trivial)).2 v u hv hE)
end Least
