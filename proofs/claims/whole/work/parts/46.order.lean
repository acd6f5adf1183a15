/-! Putting in order. -/
section Writes
/-- m words written side by side -/
theorem wrf {α : Type} {c : Nat} {h : Nat → α} : ∀ (m i : Nat) (f : Nat → α) (j : Nat), lp_fold (fun i f => va_up f (c + i) (h i)) m i f j = if c + i ≤ j ∧ j < c + i + m then h (j - c) else f j := by
  intro m
  induction m with
  | zero =>
    intro i f j
    rw [if_neg (by omega)]
    rfl
  | succ m ih =>
    intro i f j
    show lp_fold _ m (i + 1) (va_up f (c + i) (h i)) j = _
    rw [ih (i + 1)]
    by_cases e : j = c + i
    · rw [if_neg (by omega), if_pos (by omega), e, va_up_s, show c + i - c = i by omega]
    · by_cases q : c + (i + 1) ≤ j ∧ j < c + (i + 1) + m
      · rw [if_pos q, if_pos (by omega)]
      · rw [if_neg q, if_neg (by omega), va_up_n e]
theorem kx_w_n {f : Nat → Int64} {c i : Nat} {n : nm_T} (h : i < c ∨ c + 4 ≤ i) : kx_w f c n i = f i := by
  unfold kx_w vp_updL
  rw [if_neg (by omega), if_neg (by omega), if_neg (by omega), if_neg (by omega)]
/-- a name written, word by word -/
theorem kx_w_at {f g : Nat → Int64} {c b i : Nat} (h1 : c ≤ i) (h2 : i < c + 4) : kx_w f c (g b, g (b + 1), g (b + 2), g (b + 3)) i = g (b + (i - c)) := by
  rcases (show i = c ∨ i = c + 1 ∨ i = c + 2 ∨ i = c + 3 by omega) with rfl | rfl | rfl | rfl
  · unfold kx_w vp_updL
    rw [if_neg (by omega), if_neg (by omega), if_neg (by omega), if_pos rfl, Nat.sub_self]
    rfl
  · unfold kx_w vp_updL
    rw [if_neg (by omega), if_neg (by omega), if_pos rfl, show c + 1 - c = 1 by omega]
  · unfold kx_w vp_updL
    rw [if_neg (by omega), if_pos rfl, show c + 2 - c = 2 by omega]
  · unfold kx_w vp_updL
    rw [if_pos rfl, show c + 3 - c = 3 by omega]
theorem nI_ofI {x : Int32} (h : 0 ≤ x.toInt) : ∃ k : Nat, k < 2 ^ 31 ∧ x = nI k ∧ (k : Int) = x.toInt := by
  have h2 := Int32.toInt_lt x
  refine ⟨x.toInt.toNat, by omega, ?_, by omega⟩
  apply Int32.toInt_inj.mp
  rw [nI_toInt (by omega)]
  omega
end Writes
section OrderP
variable {g : Nat → Nat} {P : po_S} {T : mo_S} {n : Nat}
theorem sm_fits {x k0 rm : Int32} {q s : Nat} (hx : x = nI s) (hs : s < 2 ^ 20) (hq : q < 2 ^ 20) (hrm : rm.toInt = k0.toInt - (q : Int)) : decide (x ≤ rm) = decide (lN (q + s) ≤ k0.toInt64) := by
  have e : (x ≤ rm) ↔ (lN (q + s) ≤ k0.toInt64) := by
    rw [Int32.le_iff_toInt_le, Int64.le_iff_toInt_le, hx, nI_toInt (by omega), lN_toInt (by omega), Int32.toInt_toInt64, hrm]
    omega
  by_cases h : x ≤ rm
  · rw [decide_eq_true h, decide_eq_true (e.mp h)]
  · rw [decide_eq_false h, decide_eq_false (fun z => h (e.mpr z))]
theorem sm_stuck (hP : sm_P g P T) (hV : sm_V n T) {dn : Int64} (hd : sm_b g T dn (fun u => md_mk T u = true)) {t : Nat} (ht : t < mo_z T) : decide ((P.2.2 (g t)).2.2.2.2.2.2.1 &&& (dn ^^^ (-1)) = 0) = !md_stuck T t := by
  have b1 : ∀ p, bz_t ((P.2.2 (g t)).2.2.2.2.2.2.1 &&& (dn ^^^ (-1))) p = (bz_t (P.2.2 (g t)).2.2.2.2.2.2.1 p && !bz_t dn p) := fun p => by
    rw [bz_and]
    by_cases hp : p < 64
    · rw [bz_not dn hp]
    · rw [bz_big (x := (P.2.2 (g t)).2.2.2.2.2.2.1) (by omega), Bool.false_and, Bool.false_and]
  cases hs : md_stuck T t with
  | true =>
    refine decide_eq_false (fun z => ?_)
    obtain ⟨u, -, u2, u3⟩ := lp_any_iff.mp hs
    obtain ⟨-, u4⟩ := Bool.and_eq_true _ _ |>.mp u3
    obtain ⟨u5, u6⟩ := Bool.and_eq_true _ _ |>.mp u4
    have hu : u < mo_z T := by omega
    have h1 : bz_t (P.2.2 (g t)).2.2.2.2.2.2.1 (g u) = true := ((hP.2.2.2.2 t ht (g u)).1).mpr ⟨u, hu, rfl, u5⟩
    have h2 := b1 (g u)
    rw [z, bz_0, h1, Bool.true_and] at h2
    have h3 : bz_t dn (g u) = true := by
      cases h : bz_t dn (g u) with
      | true => rfl
      | false => rw [h] at h2; cases h2
    obtain ⟨w, w1, w2, w3⟩ := (hd (g u)).mp h3
    rw [hP.2.1 w u w1 hu w2] at w3
    rw [w3] at u6
    cases u6
  | false =>
    refine decide_eq_true (bz_eq0.mpr (fun p _ => ?_))
    rw [b1]
    cases h1 : bz_t (P.2.2 (g t)).2.2.2.2.2.2.1 p with
    | false => rfl
    | true =>
      obtain ⟨u, u1, u2, u3⟩ := ((hP.2.2.2.2 t ht p).1).mp h1
      have hmk : md_mk T u = true := by
        cases h : md_mk T u with
        | true => rfl
        | false =>
          have hne : u ≠ t := fun e => by
            rw [e] at u3
            rw [hV.2.2.1 t ht] at u3
            cases u3
          have : md_stuck T t = true := lp_any_iff.mpr ⟨u, Nat.zero_le _, by omega, by rw [decide_eq_false hne, u3, h]; rfl⟩
          rw [hs] at this
          cases this
      rw [(hd p).mpr ⟨u, u1, u2, hmk⟩]
      rfl
theorem sm_free (hP : sm_P g P T) {dn : Int64} (hd : sm_b g T dn (fun u => md_mk T u = true)) {t : Nat} (ht : t < mo_z T) : bz_t (P.1 &&& (dn ^^^ (-1))) (g t) = !md_mk T t := by
  have h41 := (hP.1 t ht).1
  rw [bz_and, (hP.1 t ht).2, Bool.true_and, bz_not dn (by omega)]
  congr 1
  cases h : md_mk T t with
  | true => exact (hd (g t)).mpr ⟨t, ht, rfl, h⟩
  | false =>
    cases h2 : bz_t dn (g t) with
    | false => rfl
    | true =>
      obtain ⟨u, u1, u2, u3⟩ := (hd (g t)).mp h2
      rw [hP.2.1 u t u1 ht u2, h] at u3
      cases u3
theorem sm_best (hP : sm_P g P T) (hV : sm_V n T) (hn : n < 2 ^ 31) {dn : Int64} (hd : sm_b g T dn (fun u => md_mk T u = true)) {k0 rm : Int32} {q : Nat} (hq : q < 2 ^ 20) (hrm : rm.toInt = k0.toInt - (q : Int)) : cl_best P dn rm = (md_best T q k0).map g ∧ (∀ w, md_best T q k0 = some w → w < mo_z T ∧ md_open T q k0 w = true) := by
  have hv := hV.2.2.2.2
  have cond : ∀ t, t < mo_z T → ∀ X : Bool, (bz_t (P.1 &&& (dn ^^^ (-1))) (g t) && (decide ((P.2.2 (g t)).2.2.2.2.2.2.1 &&& (dn ^^^ (-1)) = 0) && (decide ((P.2.2 (g t)).2.2.2.1 ≤ rm) && X))) = (md_open T q k0 t && X) := fun t ht X => by
    have h1 := (hP.2.2.2.1 t ht).2.2.2.2.2.1
    rw [sm_free hP hd ht, sm_stuck hP hV hd ht, sm_fits (h1.trans (hv t ht).2.2.1) (by have := (hv t ht).2.2.2.2; omega) hq hrm]
    unfold md_open
    cases md_mk T t <;> cases md_stuck T t <;> cases decide (lN (q + md_si T t) ≤ k0.toInt64) <;> cases X <;> rfl
  have cmp : ∀ t u, t < mo_z T → u < mo_z T → cl_cmp (P.2.2 (g t)).2.2.1 (P.2.2 (g t)).2.2.2.1.toInt64 (P.2.2 (g u)).2.2.1 (P.2.2 (g u)).2.2.2.1.toInt64 = md_cm (md_fe T t) (md_si T t) (md_fe T u) (md_si T u) := fun t u ht hu => by
    obtain ⟨a1, a2, a3, a4, a5⟩ := hv t ht
    obtain ⟨b1, b2, b3, b4, b5⟩ := hv u hu
    rw [(hP.2.2.2.1 t ht).2.2.2.2.1, (hP.2.2.2.1 t ht).2.2.2.2.2.1, (hP.2.2.2.1 u hu).2.2.2.2.1, (hP.2.2.2.1 u hu).2.2.2.2.2.1, a1, a3, b1, b3, nI_l (by omega), nI_l (by omega)]
    exact rt_eq (by omega) a4 (by omega) (by omega) b4 (by omega)
  have better : ∀ t u, t < mo_z T → u < mo_z T → (cl_better (P.2.2 (g t)) (P.2.2 (g u)) = true ↔ lx (md_fe T) (md_si T) (fun x y => y < x) u t) := fun t u ht hu => by
    unfold cl_better lx
    rw [cmp t u ht hu, Bool.or_eq_true, Bool.and_eq_true, decide_eq_true_iff, decide_eq_true_iff, decide_eq_true_iff, cm_gt0, cm_eq0, sm_came hP hV hn ht hu]
    constructor
    · rintro (h | ⟨h1, h2⟩)
      · exact Or.inl h
      · exact Or.inr ⟨h1.symm, h2⟩
    · rintro (h | ⟨h1, h2⟩)
      · exact Or.inl h
      · exact Or.inr ⟨h1.symm, h2⟩
  have pos : ∀ t, (t < mo_z T ∧ md_open T q k0 t = true) → 1 ≤ md_si T t := fun t ht => (hv t ht.1).2.2.2.1
  have main := mn_two (z := mo_z T) (g := g) (Y := fun t => t < mo_z T ∧ md_open T q k0 t = true) (L := fun t u => lx (md_fe T) (md_si T) (fun x y => y < x) u t) (F := md_bestF T q k0) (FC := cl_bestF P dn rm) (fun t ht => ⟨ht.1, (hP.1 t ht.1).1⟩) (fun t u ht hu e => hP.2.1 t u ht.1 hu.1 e) (fun t u ht hu hne => ?_) (fun a b c ha hb hc h1 h2 => lx_tr (Y := fun t => t < mo_z T ∧ md_open T q k0 t = true) pos (fun t u w h1 h2 => by omega) c b a hc hb ha h2 h1) (fun t ht h => ?_) (fun i a hi hno => ?_) (fun i hi => ?_) (fun i b hi hb hbi => ⟨fun h => ?_, fun h => ?_⟩) (fun p a hp hno => ?_) (fun t ht => ?_) (fun t u ht hu hne => ⟨fun h => ?_, fun h => ?_⟩)
  · exact ⟨main.1, main.2.1⟩
  · show lx _ _ _ u t ∨ lx _ _ _ t u
    unfold lx
    rcases Nat.lt_trichotomy (md_fe T u * md_si T t) (md_fe T t * md_si T u) with z | z | z
    · exact Or.inl (Or.inl z)
    · rcases Nat.lt_trichotomy t u with y | y | y
      · exact Or.inl (Or.inr ⟨z, y⟩)
      · exact absurd y hne
      · exact Or.inr (Or.inr ⟨z.symm, y⟩)
    · exact Or.inr (Or.inl z)
  · rcases h with h | ⟨-, h⟩ <;> omega
  · unfold md_bestF
    rw [if_neg]
    intro z
    exact hno ⟨hi, (Bool.and_eq_true _ _ |>.mp z).1⟩
  · unfold md_bestF
    rw [hi.2]
    exact if_pos rfl
  · unfold md_bestF
    rw [hi.2, if_pos]
    show (true && decide _) = true
    rw [Bool.true_and]
    refine decide_eq_true (cm_gt0.mpr ?_)
    rcases h with h | ⟨-, h⟩
    · exact h
    · omega
  · unfold md_bestF
    rw [hi.2, if_neg]
    show ¬ (true && decide _) = true
    rw [Bool.true_and]
    intro z
    have z' := cm_gt0.mp (of_decide_eq_true z)
    rcases h with h | ⟨h, -⟩ <;> omega
  · unfold cl_bestF
    rw [if_neg]
    intro z
    have z1 := (Bool.and_eq_true _ _ |>.mp z).1
    rw [bz_and] at z1
    obtain ⟨t, t1, t2⟩ := hP.2.2.1 p (Bool.and_eq_true _ _ |>.mp z1).1
    rw [← t2, cond t t1] at z
    exact hno ⟨t, ⟨t1, (Bool.and_eq_true _ _ |>.mp z).1⟩, t2⟩
  · unfold cl_bestF
    rw [cond t ht.1, ht.2]
    exact if_pos rfl
  · unfold cl_bestF
    rw [cond t ht.1, ht.2, if_pos]
    show (true && cl_better (P.2.2 (g t)) (P.2.2 (g u))) = true
    rw [(better t u ht.1 hu.1).mpr h]
    rfl
  · unfold cl_bestF
    rw [cond t ht.1, ht.2, if_neg]
    show ¬ (true && cl_better (P.2.2 (g t)) (P.2.2 (g u))) = true
    rw [Bool.true_and]
    intro z
    have z' := (better t u ht.1 hu.1).mp z
    rcases h with h | ⟨h, q1⟩ <;> rcases z' with z' | ⟨z', q2⟩ <;> omega
/-- the rest of the reference, beside marks and row -/
def mo_ro (T T' : mo_S) : Prop := mo_z T' = mo_z T ∧ mo_c T' = mo_c T ∧ mo_t T' = mo_t T ∧ mo_l T' 0 = mo_l T 0 ∧ mo_l T' 2 = mo_l T 2 ∧ mo_l T' 4 = mo_l T 4 ∧ mo_l T' 8 = mo_l T 8 ∧ mo_l T' 9 = mo_l T 9 ∧ mo_i T' 1 = mo_i T 1 ∧ mo_i T' 3 = mo_i T 3 ∧ mo_i T' 5 = mo_i T 5 ∧ mo_i T' 6 = mo_i T 6 ∧ mo_i T' 7 = mo_i T 7 ∧ mo_i T' 10 = mo_i T 10
theorem mo_ro_tr {T T' T2 : mo_S} (h : mo_ro T T') (h2 : mo_ro T' T2) : mo_ro T T2 := by
  obtain ⟨a1, a2, a3, a4, a5, a6, a7, a8, a9, a10, a11, a12, a13, a14⟩ := h
  obtain ⟨b1, b2, b3, b4, b5, b6, b7, b8, b9, b10, b11, b12, b13, b14⟩ := h2
  exact ⟨b1.trans a1, b2.trans a2, b3.trans a3, b4.trans a4, b5.trans a5, b6.trans a6, b7.trans a7, b8.trans a8, b9.trans a9, b10.trans a10, b11.trans a11, b12.trans a12, b13.trans a13, b14.trans a14⟩
theorem mo_ro_rf : mo_ro T T := ⟨rfl, rfl, rfl, rfl, rfl, rfl, rfl, rfl, rfl, rfl, rfl, rfl, rfl, rfl⟩
theorem mo_ro_vw {T' : mo_S} (h : mo_ro T T') (t : Nat) : vw_eq T' t T t := by
  obtain ⟨-, -, -, a4, a5, a6, -, -, a9, a10, a11, a12, a13, -⟩ := h
  exact ⟨fun j _ => by rw [a4], fun j _ => by rw [a5], fun j _ => by rw [a10], by rw [a9], by rw [a6], by rw [a11], by rw [a12], by rw [a13]⟩
theorem sm_P_ro {T' : mo_S} (h8 : ∀ t, t < mo_z T → md_sp T t ≤ 8) (h : mo_ro T T') (hP : sm_P g P T) : sm_P g P T' := by
  have e := h.1
  have v := mo_ro_vw h
  obtain ⟨A1, A2, A3, A4, A5⟩ := hP
  have hh : ∀ a b, a < mo_z T → md_hangs T' a b = md_hangs T a b := fun a b ha => vw_hangs (v a) (v b) (by rw [vw_sp (v a)]; exact h8 a ha)
  unfold sm_P
  rw [e]
  refine ⟨A1, A2, A3, fun t ht => vw_tx (vw_sym (v t)) (A4 t ht), fun t ht p => ⟨?_, ?_⟩⟩
  · rw [(A5 t ht p).1]
    constructor
    · rintro ⟨u, u1, u2, u3⟩
      exact ⟨u, u1, u2, by rw [hh t u ht]; exact u3⟩
    · rintro ⟨u, u1, u2, u3⟩
      exact ⟨u, u1, u2, by rw [← hh t u ht]; exact u3⟩
  · rw [(A5 t ht p).2]
    constructor
    · rintro ⟨u, u1, u2, u3⟩
      exact ⟨u, u1, u2, by rw [hh u t u1]; exact u3⟩
    · rintro ⟨u, u1, u2, u3⟩
      exact ⟨u, u1, u2, by rw [← hh u t u1]; exact u3⟩
theorem sm_V_ro {T' : mo_S} (h8 : ∀ t, t < mo_z T → md_sp T t ≤ 8) (h : mo_ro T T') (hV : sm_V n T) : sm_V n T' := by
  have e := h.1
  have v := mo_ro_vw h
  obtain ⟨V1, V2, V3, ⟨c, V4⟩, V5⟩ := hV
  have s8 : ∀ a, a < mo_z T → md_sp T' a ≤ 8 := fun a ha => by rw [vw_sp (v a)]; exact h8 a ha
  unfold sm_V md_iv
  rw [e]
  refine ⟨fun t u ht hu q => V1 t u ht hu (by rw [← vw_nm (v t), ← vw_nm (v u)]; exact q), fun t u ht hu q => by rw [vw_clash (v t) (v u) (s8 t ht) (s8 u hu)]; exact V2 t u ht hu q, fun t ht => by rw [vw_hangs (v t) (v t) (s8 t ht)]; exact V3 t ht, ⟨c, fun t ht => ⟨(v t).2.2.2.2.2.2.2.trans (V4 t ht).1, (V4 t ht).2⟩⟩, fun t ht => ?_⟩
  have := V5 t ht
  rw [vw_fe (v t), vw_si (v t), (v t).2.2.2.2.1, (v t).2.2.2.2.2.1]
  exact this
theorem md_or3_ro {b : Nat} : mo_ro T (md_or3 T b) := ⟨rfl, rfl, rfl, rfl, rfl, rfl, rfl, rfl, rfl, rfl, rfl, rfl, rfl, rfl⟩
theorem md_or0_ro : mo_ro T (md_or0 T) := ⟨rfl, rfl, rfl, rfl, rfl, rfl, rfl, rfl, rfl, rfl, rfl, rfl, rfl, rfl⟩
theorem sm_ordL (hn : n < 2 ^ 31) {k0 : Int32} : ∀ (m : Nat) (T : mo_S) (dn : Int64) (rm : Int32) (q : Nat) (r : Nat × (Nat → Int64)), (∀ t, t < mo_z T → md_sp T t ≤ 8) → mo_z T ≤ 40 → sm_P g P T → sm_V n T → sm_b g T dn (fun u => md_mk T u = true) → rm.toInt = k0.toInt - (q : Int) → q + 2000 * m ≤ 100000 → 41 ≤ m + ct_n (md_mk T) (mo_z T) → r.1 = mo_r T → (∀ i, i < 4 * mo_r T → r.2 i = mo_l T 12 i) →
    (ds_ordL P m dn rm r).1 = mo_r (md_ordL k0 (m + 2) T q) ∧ (∀ i, i < 4 * mo_r (md_ordL k0 (m + 2) T q) → (ds_ordL P m dn rm r).2 i = mo_l (md_ordL k0 (m + 2) T q) 12 i) ∧ mo_ro T (md_ordL k0 (m + 2) T q) := by
  intro m
  induction m with
  | zero =>
    intro T dn rm q r _ hz _ _ _ _ _ hc
    have := ct_le (md_mk T) (mo_z T)
    omega
  | succ m ih =>
    intro T dn rm q r h8 hz hP hV hd hrm hq hc hr1 hr2
    obtain ⟨hb, hbo⟩ := sm_best hP hV hn hd (by omega) hrm
    cases eb : md_best T q k0 with
    | none =>
      rw [eb] at hb
      have e1 : ds_ordL P (m + 1) dn rm r = r := by
        show (match cl_best P dn rm with | none => r | some b => ds_ordL P m (dn ||| bz_b b) (rm - (P.2.2 b).2.2.2.1) (r.1 + 1, kx_w r.2 (r.1 * 4) (P.2.2 b).1)) = r
        rw [hb]
        rfl
      have e2 : md_ordL k0 (m + 1 + 2) T q = T := by
        show (match md_best T q k0 with | none => T | some b => md_ordL k0 (m + 2) (md_or3 T b) (q + md_si T b)) = T
        rw [eb]
      rw [e1, e2]
      exact ⟨hr1, hr2, mo_ro_rf⟩
    | some b =>
      rw [eb] at hb
      obtain ⟨bz, bo⟩ := hbo b eb
      have e1 : ds_ordL P (m + 1) dn rm r = ds_ordL P m (dn ||| bz_b (g b)) (rm - (P.2.2 (g b)).2.2.2.1) (r.1 + 1, kx_w r.2 (r.1 * 4) (P.2.2 (g b)).1) := by
        show (match cl_best P dn rm with | none => r | some b => ds_ordL P m (dn ||| bz_b b) (rm - (P.2.2 b).2.2.2.1) (r.1 + 1, kx_w r.2 (r.1 * 4) (P.2.2 b).1)) = _
        rw [hb]
        rfl
      have e2 : md_ordL k0 (m + 1 + 2) T q = md_ordL k0 (m + 2) (md_or3 T b) (q + md_si T b) := by
        show (match md_best T q k0 with | none => T | some b => md_ordL k0 (m + 2) (md_or3 T b) (q + md_si T b)) = _
        rw [eb]
      rw [e1, e2]
      have hv := hV.2.2.2.2 b bz
      have hbm : md_mk T b = false := by
        have z := (Bool.and_eq_true _ _ |>.mp bo).1
        cases h : md_mk T b with
        | false => rfl
        | true => rw [h] at z; cases z
      have hfit : lN (q + md_si T b) ≤ k0.toInt64 := of_decide_eq_true (Bool.and_eq_true _ _ |>.mp (Bool.and_eq_true _ _ |>.mp bo).2).1
      have hfit2 : ((q + md_si T b : Nat) : Int) ≤ k0.toInt := by
        have := Int64.le_iff_toInt_le.mp hfit
        rw [lN_toInt (by omega), Int32.toInt_toInt64] at this
        exact this
      have h41 := (hP.1 b bz).1
      have hmk := md_or3_mk (S := T) (b := b)
      have H1 : sm_b g (md_or3 T b) (dn ||| bz_b (g b)) (fun u => md_mk (md_or3 T b) u = true) := fun p => by
        rw [bz_or, Bool.or_eq_true, hd p, bz_bit (by omega), hmk, decide_eq_true_iff]
        constructor
        · rintro (⟨u, u1, u2, u3⟩ | e)
          · refine ⟨u, u1, u2, ?_⟩
            show va_up (md_mk T) b true u = true
            by_cases q : u = b
            · rw [q]; exact va_up_s
            · rw [va_up_n q]; exact u3
          · exact ⟨b, bz, e, va_up_s⟩
        · rintro ⟨u, u1, u2, u3⟩
          have u3 : va_up (md_mk T) b true u = true := u3
          by_cases q : u = b
          · rw [q] at u2
            exact Or.inr u2
          · rw [va_up_n q] at u3
            exact Or.inl ⟨u, u1, u2, u3⟩
      have H2 : (rm - (P.2.2 (g b)).2.2.2.1).toInt = k0.toInt - ((q + md_si T b : Nat) : Int) := by
        obtain ⟨k, k1, k2, k3⟩ := nI_ofI (x := rm) (by rw [hrm]; omega)
        rw [(hP.2.2.2.1 b bz).2.2.2.2.2.1, hv.2.2.1, k2, pk_sub (by omega), nI_toInt (by omega)]
        omega
      have H3 : 41 ≤ m + ct_n (md_mk (md_or3 T b)) (mo_z (md_or3 T b)) := by
        have hg : ct_n (md_mk T) (mo_z T) < ct_n (va_up (md_mk T) b true) (mo_z T) := ct_grow (fun i h => by
          by_cases z : i = b
          · rw [z]; exact va_up_s
          · rw [va_up_n z]; exact h) b bz hbm va_up_s
        rw [hmk]
        show 41 ≤ m + ct_n (va_up (md_mk T) b true) (mo_z T)
        omega
      have H4 : r.1 + 1 = mo_r (md_or3 T b) := by
        show r.1 + 1 = mo_r T + 1
        rw [hr1]
      have H5 : ∀ i, i < 4 * mo_r (md_or3 T b) → kx_w r.2 (r.1 * 4) (P.2.2 (g b)).1 i = mo_l (md_or3 T b) 12 i := by
        intro i hi
        have hi' : i < 4 * (mo_r T + 1) := hi
        show kx_w r.2 (r.1 * 4) (P.2.2 (g b)).1 i = lp_fold (fun i f => va_up f (4 * mo_r T + i) (mo_l T 0 (4 * b + i))) 4 0 (mo_l T 12) i
        rw [wrf (c := 4 * mo_r T) (h := fun i => mo_l T 0 (4 * b + i)), (hP.2.2.2.1 b bz).1, hr1, Nat.mul_comm (mo_r T) 4]
        by_cases c : i < 4 * mo_r T
        · rw [if_neg (by omega), kx_w_n (Or.inl c)]
          exact hr2 i c
        · rw [if_pos (by omega)]
          exact kx_w_at (g := mo_l T 0) (b := 4 * b) (by omega) (by omega)
      obtain ⟨j1, j2, j3⟩ := ih (md_or3 T b) (dn ||| bz_b (g b)) (rm - (P.2.2 (g b)).2.2.2.1) (q + md_si T b) (r.1 + 1, kx_w r.2 (r.1 * 4) (P.2.2 (g b)).1) h8 hz (sm_P_ro h8 md_or3_ro hP) (sm_V_ro h8 md_or3_ro hV) H1 H2 (by omega) H3 H4 H5
      exact ⟨j1, j2, mo_ro_tr md_or3_ro j3⟩
end OrderP
