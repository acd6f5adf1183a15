/-! Entering: the newcomer in the reference. -/
section EnterA
variable {T : mo_S} {f : Int64} {z o : Int32} {t : Nat} {v : kv_T}
theorem md_en_at (ht : t ≠ 41) : vw_eq (md_en T f z o) t T t := by
  refine ⟨fun j hj => ?_, fun j hj => ?_, fun j hj => ?_, pk_un (f := mo_i T 1) ht, va_up_n (f := mo_l T 4) (k := 41) (v := f) ht, pk_un (f := mo_i T 5) ht, pk_un (f := mo_i T 6) ht, rfl⟩
  · exact (wrf (c := 4 * 41) (h := fun i => mo_l T 8 i) 4 0 (mo_l T 0) (4 * t + j)).trans (if_neg (by omega))
  · exact (wrf (c := 32 * 41) (h := fun i => mo_l T 9 i) 32 0 (mo_l T 2) (32 * t + j)).trans (if_neg (by omega))
  · exact (wrf (c := 8 * 41) (h := fun i => mo_i T 10 i) 8 0 (mo_i T 3) (8 * t + j)).trans (if_neg (by omega))
theorem md_en_n (j : Nat) (hj : j < 4) : mo_l (md_en T f z o) 0 (4 * 41 + j) = mo_l T 8 j := (wrf (c := 4 * 41) (h := fun i => mo_l T 8 i) 4 0 (mo_l T 0) (4 * 41 + j)).trans ((if_pos (by omega)).trans (by rw [show 4 * 41 + j - 4 * 41 = j by omega]))
theorem md_en_nm : md_nm (md_en T f z o) 41 = md_hn T := by
  unfold md_nm md_hn
  rw [md_en_n 1 (by decide), md_en_n 2 (by decide), md_en_n 3 (by decide), show mo_l (md_en T f z o) 0 (4 * 41) = mo_l T 8 0 from md_en_n 0 (by decide)]
theorem md_en_sp (h8 : mo_t T ≤ 8) : md_sp (md_en T f z o) 41 = mo_t T := by
  have : mo_i (md_en T f z o) 1 41 = nI (mo_t T) := pk_us (f := mo_i T 1) (k := 41) (x := nI (mo_t T))
  unfold md_sp
  rw [this, nI_clamp (by omega)]
theorem md_en_k (h8 : mo_t T ≤ 8) (hK : sm_K v T) : sm_k v (md_en T f z o) 41 := by
  obtain ⟨k1, k2, k3⟩ := hK
  refine ⟨k1.trans (md_en_sp h8).symm, fun j hj => ?_, fun j hj => ?_⟩
  · rw [k2 j hj]
    exact ((wrf (c := 32 * 41) (h := fun i => mo_l T 9 i) 32 0 (mo_l T 2) (32 * 41 + j)).trans ((if_pos (by omega)).trans (by rw [show 32 * 41 + j - 32 * 41 = j by omega]))).symm
  · rw [k3 j hj]
    exact ((wrf (c := 8 * 41) (h := fun i => mo_i T 10 i) 8 0 (mo_i T 3) (8 * 41 + j)).trans ((if_pos (by omega)).trans (by rw [show 8 * 41 + j - 8 * 41 = j by omega]))).symm
theorem md_en_f : mo_l (md_en T f z o) 4 41 = f := va_up_s (f := mo_l T 4) (k := 41) (v := f)
theorem md_en_z : mo_i (md_en T f z o) 5 41 = z := pk_us (f := mo_i T 5) (k := 41) (x := z)
theorem md_en_o : mo_i (md_en T f z o) 6 41 = o := pk_us (f := mo_i T 6) (k := 41) (x := o)
theorem md_en_ok (h : mo_ok T) : mo_ok (md_en T f z o) := by
  have h3 : mo_ok (md_e3 T) := mo_okI (mo_okL (mo_okL h)) (by decide) (by decide)
  have h4 : mo_ok (md_e4 T) := mo_okS h3 h.2.2.2.1
  have h7 : mo_ok (md_e7 T f z o) := mo_okI (mo_okI (mo_okL h4) (by decide) (by decide)) (by decide) (by decide)
  exact ⟨h7.1, h7.2.1, h7.2.2.1, Nat.zero_le _, h7.2.2.2.2⟩
theorem md_copy_ok {a b : Nat} (ha : a < 42) (h : mo_ok T) : mo_ok (md_copy T a b) := by
  have h3 : mo_ok (md_cp3 T a b) := mo_okI (mo_okL (mo_okL h)) (by decide) (by decide)
  have h4 : mo_ok (md_cp4 T a b) := mo_okS h3 (h3.1 a ha).2
  exact mo_okI (mo_okI (mo_okI (mo_okL h4) (by decide) (by decide)) (by decide) (by decide)) (by decide) (by decide)
theorem md_in_ok (hz : mo_z T ≤ 40) (h : mo_ok T) : mo_ok (md_in T) := by
  have h1 : mo_ok (md_i1 T) := h
  have h2 : mo_ok (md_i2 T) := mo_okI h1 (by decide) (by decide)
  have h3 : mo_ok (md_i3 T) := md_copy_ok (by decide) h2
  have h4 : mo_ok (md_i4 T) := ⟨h3.1, h3.2.1, by show mo_z T + 1 ≤ 41; omega, h3.2.2.2⟩
  exact mo_okS h4 (by decide)
theorem md_i2_at (ht : t ≠ 41) : vw_eq (md_i2 T) t T t := ⟨fun _ _ => rfl, fun _ _ => rfl, fun _ _ => rfl, rfl, rfl, rfl, rfl, pk_un (f := mo_i T 7) ht⟩
theorem md_i2_c : mo_i (md_i2 T) 7 41 = mo_c T + nI 1 := pk_us (f := mo_i T 7) (k := 41) (x := mo_c T + nI 1)
theorem md_in_i3 (ht : t ≠ 41) : vw_eq (md_in T) t (md_i3 T) t := ⟨fun _ _ => rfl, fun _ _ => rfl, fun _ _ => rfl, pk_un (f := mo_i (md_i3 T) 1) ht, rfl, rfl, rfl, rfl⟩
theorem md_in_at (ht : t ≠ 41) (hz : t ≠ mo_z T) : vw_eq (md_in T) t T t := vw_tr (md_in_i3 ht) (vw_tr (md_copy_at hz) (md_i2_at ht))
theorem md_in_new (ho : mo_ok T) (hz : mo_z T ≤ 40) : vw_eq (md_in T) (mo_z T) (md_i2 T) 41 := vw_tr (md_in_i3 (by omega)) (md_copy_to (T := md_i2 T) (ho.1 41 (by decide)).1)
end EnterA
section EnterB
variable {g : Nat → Nat} {P : po_S} {T T' : mo_S} {n : Nat}
theorem sm_P_vw (h8 : ∀ t, t < mo_z T → md_sp T t ≤ 8) (e : mo_z T' = mo_z T) (v : ∀ t, t < mo_z T → vw_eq T' t T t) (hP : sm_P g P T) : sm_P g P T' := by
  obtain ⟨A1, A2, A3, A4, A5⟩ := hP
  have hh : ∀ a b, a < mo_z T → b < mo_z T → md_hangs T' a b = md_hangs T a b := fun a b ha hb => vw_hangs (v a ha) (v b hb) (by rw [vw_sp (v a ha)]; exact h8 a ha)
  unfold sm_P
  rw [e]
  refine ⟨A1, A2, A3, fun t ht => vw_tx (vw_sym (v t ht)) (A4 t ht), fun t ht p => ⟨?_, ?_⟩⟩
  · rw [(A5 t ht p).1]
    constructor
    · rintro ⟨u, u1, u2, u3⟩
      exact ⟨u, u1, u2, by rw [hh t u ht u1]; exact u3⟩
    · rintro ⟨u, u1, u2, u3⟩
      exact ⟨u, u1, u2, by rw [← hh t u ht u1]; exact u3⟩
  · rw [(A5 t ht p).2]
    constructor
    · rintro ⟨u, u1, u2, u3⟩
      exact ⟨u, u1, u2, by rw [hh u t u1 ht]; exact u3⟩
    · rintro ⟨u, u1, u2, u3⟩
      exact ⟨u, u1, u2, by rw [← hh u t u1 ht]; exact u3⟩
/-- sets gathered place by place -/
theorem or_fold {Q : Nat → Bool} : ∀ (m i : Nat) (a : Int64), i + m ≤ 41 → ∀ p, bz_t (lp_fold (fun p a => if Q p = true then a ||| bz_b p else a) m i a) p = (bz_t a p || (decide (i ≤ p) && (decide (p < i + m) && Q p))) := by
  intro m
  induction m with
  | zero =>
    intro i a _ p
    show bz_t a p = _
    by_cases h : i ≤ p
    · rw [decide_eq_false (show ¬ p < i + 0 by omega), Bool.false_and, Bool.and_false, Bool.or_false]
    · rw [decide_eq_false h, Bool.false_and, Bool.or_false]
  | succ m ih =>
    intro i a hi p
    show bz_t (lp_fold _ m (i + 1) (if Q i = true then a ||| bz_b i else a)) p = _
    rw [ih (i + 1) _ (by omega)]
    by_cases e : p = i
    · subst e
      rw [decide_eq_false (show ¬ p + 1 ≤ p by omega), Bool.false_and, Bool.or_false, decide_eq_true (Nat.le_refl p), decide_eq_true (show p < p + (m + 1) by omega), Bool.true_and, Bool.true_and]
      by_cases c : Q p = true
      · rw [if_pos c, c, bz_or, bz_bit (by omega), decide_eq_true rfl]
      · rw [if_neg c, bt_f c, Bool.or_false]
    · have h1 : bz_t (if Q i = true then a ||| bz_b i else a) p = bz_t a p := by
        by_cases c : Q i = true
        · rw [if_pos c, bz_or, bz_bit (by omega), decide_eq_false (fun q => e q.symm), Bool.or_false]
        · rw [if_neg c]
      rw [h1, show decide (i + 1 ≤ p) = decide (i ≤ p) from by
        by_cases q : i ≤ p
        · rw [decide_eq_true q, decide_eq_true (by omega)]
        · rw [decide_eq_false q, decide_eq_false (by omega)], show i + 1 + m = i + (m + 1) by omega]
theorem or_fold0 {Q : Nat → Bool} (p : Nat) : bz_t (lp_fold (fun p a => if Q p = true then a ||| bz_b p else a) 41 0 0) p = (decide (p < 41) && Q p) := by
  rw [or_fold 41 0 0 (by decide), bz_0, Bool.false_or, decide_eq_true (Nat.zero_le p), Bool.true_and]
theorem sm_spenders (h8 : ∀ t, t < mo_z T → md_sp T t ≤ 8) (hP : sm_P g P T) {m : nm_T} {e : Nat} (hm : m = md_nm T e) : sm_b g T (cl_spenders P m) (fun u => md_hangs T u e = true) := fun p => by
  subst hm
  unfold cl_spenders
  rw [or_fold0 (Q := fun p => bz_t P.1 p && kv_bears (P.2.2 p).2.1 (md_nm T e)), Bool.and_eq_true, Bool.and_eq_true]
  constructor
  · rintro ⟨-, a, b⟩
    obtain ⟨t, t1, t2⟩ := hP.2.2.1 p a
    refine ⟨t, t1, t2, ?_⟩
    rw [← t2, sm_bears (sm_tx_k (hP.2.2.2.1 t t1)) (h8 t t1)] at b
    exact b
  · rintro ⟨t, t1, t2, t3⟩
    rw [← t2]
    exact ⟨decide_eq_true (hP.1 t t1).1, (hP.1 t t1).2, by rw [sm_bears (sm_tx_k (hP.2.2.2.1 t t1)) (h8 t t1)]; exact t3⟩
theorem sm_namedb (hP : sm_P g P T) {v : kv_T} {e : Nat} (hv : sm_k v T e) (h8 : md_sp T e ≤ 8) : sm_b g T (cl_named P v) (fun u => md_hangs T e u = true) := fun p => by
  unfold cl_named
  rw [or_fold0 (Q := fun p => bz_t P.1 p && kv_bears v (P.2.2 p).1), Bool.and_eq_true, Bool.and_eq_true]
  constructor
  · rintro ⟨-, a, b⟩
    obtain ⟨t, t1, t2⟩ := hP.2.2.1 p a
    refine ⟨t, t1, t2, ?_⟩
    rw [← t2, (hP.2.2.2.1 t t1).1, sm_bears hv h8] at b
    exact b
  · rintro ⟨t, t1, t2, t3⟩
    rw [← t2, (hP.2.2.2.1 t t1).1, sm_bears hv h8]
    exact ⟨decide_eq_true (hP.1 t t1).1, (hP.1 t t1).2, t3⟩
theorem any_two {z : Nat} {Q QC : Nat → Bool} (h1 : ∀ p, p < 41 → (QC p = true ↔ ∃ t, t < z ∧ g t = p ∧ Q t = true)) (h3 : ∀ t, t < z → g t < 41) : lp_any QC 41 0 = lp_any Q z 0 := by
  apply Bool.eq_iff_iff.mpr
  rw [lp_any_iff, lp_any_iff]
  constructor
  · rintro ⟨p, -, p2, p3⟩
    obtain ⟨t, t1, -, t3⟩ := (h1 p (by omega)).mp p3
    exact ⟨t, Nat.zero_le _, by omega, t3⟩
  · rintro ⟨t, -, t2, t3⟩
    exact ⟨g t, Nat.zero_le _, by have := h3 t (by omega); omega, (h1 (g t) (h3 t (by omega))).mpr ⟨t, by omega, rfl, t3⟩⟩
theorem md_clash_comm (t u : Nat) : md_clash T t u = md_clash T u t := by
  apply Bool.eq_iff_iff.mpr
  rw [md_clash_eq, md_clash_eq, lp_any_iff, lp_any_iff]
  have sym : ∀ t k u q, md_same T t k u q = md_same T u q t k := fun t k u q => by
    rw [md_same_eq, md_same_eq]
    congr 1
    · exact decide_eq_decide.mpr eq_comm
    · exact decide_eq_decide.mpr eq_comm
  constructor
  · rintro ⟨a, a1, a2, a3⟩
    obtain ⟨b, b1, b2, b3⟩ := lp_any_iff.mp a3
    exact ⟨b, b1, b2, lp_any_iff.mpr ⟨a, a1, a2, by rw [sym]; exact b3⟩⟩
  · rintro ⟨a, a1, a2, a3⟩
    obtain ⟨b, b1, b2, b3⟩ := lp_any_iff.mp a3
    exact ⟨b, b1, b2, lp_any_iff.mpr ⟨a, a1, a2, by rw [sym]; exact b3⟩⟩
/-- the newcomer at 41: the family of those that spend of it -/
theorem md_fam41 (hz : mo_z T ≤ 40) {u : Nat} : md_famC T 41 (mo_z T) u = true ↔ u = 41 ∨ (u < mo_z T ∧ rc_R (fun u => u < mo_z T ∧ md_hangs T u 41 = true) (md_F T) u) := by
  rw [md_famC_iff (by omega)]
  constructor
  · intro h
    refine h (fun u => u = 41 ∨ (u < mo_z T ∧ rc_R (fun u => u < mo_z T ∧ md_hangs T u 41 = true) (md_F T) u)) (fun q hq => Or.inl hq) (fun v u hv hE => Or.inr ⟨hE.2.1, ?_⟩)
    rcases hv with rfl | ⟨hv1, hv2⟩
    · exact rc_of ⟨hE.2.1, hE.2.2.2⟩
    · exact rc_step hv2 ⟨hv1, hE.2.1, hE.2.2.2⟩
  · rintro (rfl | ⟨h1, h2⟩)
    · exact rc_of rfl
    · refine h2 (fun u => rc_R (fun q => q = 41) (md_E T (mo_z T)) u) (fun q hq => rc_step (rc_of rfl) ⟨by decide, hq.1, by omega, hq.2⟩) (fun v u hv hE => ?_)
      by_cases e : u = v
      · rw [e]; exact hv
      · exact rc_step hv ⟨by have := hE.1; omega, hE.2.1, e, hE.2.2⟩
theorem sm_hang (ho : mo_ok T) (hz : mo_z T ≤ 40) (hP : sm_P g P T) {m : nm_T} {v : kv_T} (hm : m = md_nm T 41) (hv : sm_k v T 41) : cl_hang P m v = lp_any (fun t => md_famC T 41 (mo_z T) t && md_hangs T 41 t) 42 0 := by
  have h8 : ∀ t, t < mo_z T → md_sp T t ≤ 8 := fun t ht => (ho.1 t (by omega)).2
  have h41 := (ho.1 41 (by decide)).2
  have b1 := sm_famG hP (Y := fun u => u < mo_z T ∧ md_hangs T u 41 = true) (r := cl_spenders P m) (fun p => by
    rw [sm_spenders h8 hP hm p]
    constructor
    · rintro ⟨u, u1, u2, u3⟩
      exact ⟨u, u1, u2, u1, u3⟩
    · rintro ⟨u, u1, u2, -, u3⟩
      exact ⟨u, u1, u2, u3⟩)
  have b2 := sm_namedb hP hv h41
  apply Bool.eq_iff_iff.mpr
  unfold cl_hang
  rw [Bool.or_eq_true, lp_any_iff, hm, sm_bears hv h41, ← hm]
  constructor
  · rintro (h | h)
    · exact ⟨41, Nat.zero_le _, by decide, by rw [md_famC_self, h]; rfl⟩
    · have h' : ¬ (cl_fam P (cl_spenders P m) &&& cl_named P v) = 0 := fun z => by rw [decide_eq_true z] at h; cases h
      have : ∃ p, bz_t (cl_fam P (cl_spenders P m) &&& cl_named P v) p = true := by
        apply Classical.byContradiction
        intro hc
        exact h' (bz_eq0.mpr (fun p _ => bt_f (fun z => hc ⟨p, z⟩)))
      obtain ⟨p, hp⟩ := this
      rw [bz_and] at hp
      obtain ⟨p1, p2⟩ := Bool.and_eq_true _ _ |>.mp hp
      obtain ⟨u, u1, u2, u3⟩ := (b1 p).mp p1
      obtain ⟨w, w1, w2, w3⟩ := (b2 p).mp p2
      have e : w = u := hP.2.1 w u w1 u1 (w2.trans u2.symm)
      rw [e] at w3
      exact ⟨u, Nat.zero_le _, by omega, by rw [(md_fam41 hz).mpr (Or.inr ⟨u1, u3⟩), w3]; rfl⟩
  · rintro ⟨t, -, -, t3⟩
    obtain ⟨t4, t5⟩ := Bool.and_eq_true _ _ |>.mp t3
    rcases (md_fam41 hz).mp t4 with rfl | ⟨t6, t7⟩
    · exact Or.inl t5
    · refine Or.inr ?_
      have q1 := (b1 (g t)).mpr ⟨t, t6, rfl, t7⟩
      have q2 := (b2 (g t)).mpr ⟨t, t6, rfl, t5⟩
      have q3 : ¬ (cl_fam P (cl_spenders P m) &&& cl_named P v) = 0 := fun z => by
        have q4 := bz_and (cl_fam P (cl_spenders P m)) (cl_named P v) (g t)
        rw [z, bz_0, q1, q2] at q4
        cases q4
      rw [decide_eq_false q3]
      rfl
theorem ob_m1 {o : Option Nat} (h : ∀ p, o = some p → p < 41) : ob_i o = -1 ↔ o = none := by
  cases o with
  | none => exact ⟨fun _ => rfl, fun _ => rfl⟩
  | some p => exact ⟨fun z => absurd z (nI_m1 (by have := h p rfl; omega)), fun z => by cases z⟩
theorem sm_hind (ho : mo_ok T) (hz : mo_z T ≤ 40) (hP : sm_P g P T) (hf : cl_findo P (md_nm T 41) = (md_findo T).map g) {v : kv_T} (hv : sm_k v T 41) {o : Int32} (hoo : o = mo_i T 6 41) : cl_hind P (md_nm T 41) v o = md_ch T := by
  have h8 : ∀ t, t < mo_z T → md_sp T t ≤ 8 := fun t ht => (ho.1 t (by omega)).2
  have h41 := (ho.1 41 (by decide)).2
  have e1 : (¬ cl_find P (md_nm T 41) = -1) ↔ ¬ md_findo T = none := by
    rw [cl_find_o, ob_m1 (fun p hp => cl_findo_lt hp), hf]
    cases md_findo T with
    | none => exact ⟨fun z => absurd rfl z, fun z => absurd rfl z⟩
    | some t => exact ⟨fun _ z => (by cases z), fun _ z => (by cases z)⟩
  have e2 : cl_spent P v = lp_any (fun t => md_clash T 41 t) (mo_z T) 0 := by
    refine any_two (g := g) (fun p _ => ?_) (fun t ht => (hP.1 t ht).1)
    rw [Bool.and_eq_true]
    constructor
    · rintro ⟨a, b⟩
      obtain ⟨t, t1, t2⟩ := hP.2.2.1 p a
      rw [← t2, sm_meet (sm_tx_k (hP.2.2.2.1 t t1)) hv (h8 t t1) h41] at b
      exact ⟨t, t1, t2, by rw [md_clash_comm]; exact b⟩
    · rintro ⟨t, t1, t2, t3⟩
      rw [← t2, sm_meet (sm_tx_k (hP.2.2.2.1 t t1)) hv (h8 t t1) h41]
      exact ⟨(hP.1 t t1).2, by rw [md_clash_comm]; exact t3⟩
  have e3 : cl_miss P (md_nm T 41) v o = lp_any (fun t => md_miss T 41 t || md_miss T t 41) (mo_z T) 0 := by
    refine any_two (g := g) (fun p _ => ?_) (fun t ht => (hP.1 t ht).1)
    rw [Bool.and_eq_true]
    have q : ∀ t, t < mo_z T → (kv_miss v (P.2.2 (g t)).1 (P.2.2 (g t)).2.2.2.2.1 || kv_miss (P.2.2 (g t)).2.1 (md_nm T 41) o) = (md_miss T 41 t || md_miss T t 41) := fun t t1 => by
      rw [(hP.2.2.2.1 t t1).1, (hP.2.2.2.1 t t1).2.2.2.2.2.2.1, sm_miss hv h41, hoo, sm_miss (sm_tx_k (hP.2.2.2.1 t t1)) (h8 t t1)]
    constructor
    · rintro ⟨a, b⟩
      obtain ⟨t, t1, t2⟩ := hP.2.2.1 p a
      rw [← t2, q t t1] at b
      exact ⟨t, t1, t2, b⟩
    · rintro ⟨t, t1, t2, t3⟩
      rw [← t2, q t t1]
      exact ⟨(hP.1 t t1).2, t3⟩
  have e4 := sm_hang ho hz hP rfl hv
  unfold cl_hind md_ch
  rw [e2, e3, e4]
  by_cases c : md_findo T = none
  · rw [if_neg (show ¬ ¬ cl_find P (md_nm T 41) = -1 from fun z => e1.mp z c), if_neg (show ¬ ¬ md_findo T = none from fun z => z c)]
  · rw [if_pos (e1.mpr c), if_pos c]
end EnterB
