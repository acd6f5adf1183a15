/-! Call by call. -/
section Calls
variable {k : Nat} {S : dk_S} {T : mo_S} {g : Nat → Nat} {P : po_S} {n : Nat}
theorem sm_name (h : sm_R k S T) (m : nm_T) : sm_R k (m, S.2) (md_nameS T m) := ⟨h.1, h.2.1, rfl, h.2.2.2.1, h.2.2.2.2.1, h.2.2.2.2.2⟩
theorem sm_spend (ho : mo_ok T) (h : sm_R k S T) (x : Int32) : kv_may S.2.1 S.1 x = md_may T x ∧ sm_R k (S.1, (if kv_may S.2.1 S.1 x = true then kv_add S.2.1 S.1 x else S.2.1), S.2.2) (md_spend T x) := by
  obtain ⟨h1, h2, h3, ⟨k1, k2, k3⟩, h5, h6⟩ := h
  have ht8 : mo_t T ≤ 8 := ho.2.2.2.1
  have tn : ∀ j, j < 8 → kx_n S.2.1.2.1 j = md_tn T j := fun j hj => by
    unfold kx_n md_tn
    rw [Nat.mul_comm j 4, k2 (4 * j) (by omega), k2 (4 * j + 1) (by omega), k2 (4 * j + 2) (by omega), k2 (4 * j + 3) (by omega)]
  have e1 : kv_has S.2.1 S.1 x = lp_any (md_like T x) (mo_t T) 0 := by
    unfold kv_has
    rw [k1, h3]
    refine lp_any_ext (fun j _ hj => ?_)
    rw [md_like_eq, k3 j (by omega), tn j (by omega)]
  have e2 : kv_may S.2.1 S.1 x = md_may T x := by
    unfold kv_may md_may
    rw [e1, k1]
    congr 1
    by_cases q : mo_t T = 8
    · rw [decide_eq_true q, decide_eq_false (by omega)]
      rfl
    · rw [decide_eq_false q, decide_eq_true (by omega)]
      rfl
  refine ⟨e2, ?_⟩
  by_cases c : md_may T x = true
  · rw [if_pos (e2.trans c), md_spend, if_pos c]
    have t8 : mo_t T < 8 := by
      have := (Bool.and_eq_true _ _ |>.mp c).1
      rcases Nat.lt_or_ge (mo_t T) 8 with q | q
      · exact q
      · rw [decide_eq_true (by omega)] at this
        cases this
    refine ⟨h1, h2, h3, ⟨by show S.2.1.1 + 1 = mo_t T + 1; rw [k1], fun i hi => ?_, fun i hi => ?_⟩, h5, h6⟩
    · show kx_w S.2.1.2.1 (S.2.1.1 * 4) S.1 i = lp_fold (fun i f => va_up f (4 * mo_t T + i) (mo_l T 8 i)) 4 0 (mo_l T 9) i
      rw [wrf (c := 4 * mo_t T) (h := fun i => mo_l T 8 i), k1, h3, Nat.mul_comm (mo_t T) 4]
      by_cases q : 4 * mo_t T ≤ i ∧ i < 4 * mo_t T + 4
      · rw [if_pos (by omega)]
        have := kx_w_at (f := S.2.1.2.1) (g := mo_l T 8) (c := 4 * mo_t T) (b := 0) (i := i) q.1 q.2
        simp only [Nat.zero_add] at this
        exact this
      · rw [if_neg (by omega), kx_w_n (by omega)]
        exact k2 i hi
    · show upd S.2.1.2.2 S.2.1.1 x i = upd (mo_i T 10) (mo_t T) x i
      rw [k1]
      by_cases q : i = mo_t T
      · rw [q, pk_us, pk_us]
      · rw [pk_un q, pk_un q]
        exact k3 i hi
  · rw [if_neg (by rw [e2]; exact c), md_spend, if_neg c]
    exact ⟨h1, h2, h3, ⟨k1, k2, k3⟩, h5, h6⟩
/-- both find the same one -/
theorem fo_two {Q QC : Nat → Bool} {z : Nat} (h1 : ∀ p, p < 41 → (QC p = true ↔ ∃ t, t < z ∧ g t = p ∧ Q t = true)) (h2 : ∀ t u, t < z → u < z → Q t = true → Q u = true → t = u) (h3 : ∀ t, t < z → g t < 41) : fo_find QC 41 0 = (fo_find Q z 0).map g := by
  rcases fo_spec (P := Q) (m := z) with ⟨t, t1, t2, t3⟩ | ⟨t1, t2⟩ <;> rcases fo_spec (P := QC) (m := 41) with ⟨p, p1, p2, p3⟩ | ⟨p1, p2⟩
  · rw [t1, p1]
    obtain ⟨u, u1, u2, u3⟩ := (h1 p p2).mp p3
    show some p = some (g t)
    rw [← u2, h2 u t u1 t2 u3 t3]
  · have := (h1 (g t) (h3 t t2)).mpr ⟨t, t2, rfl, t3⟩
    rw [p2 (g t) (h3 t t2)] at this
    cases this
  · obtain ⟨u, u1, u2, u3⟩ := (h1 p p2).mp p3
    rw [t2 u u1] at u3
    cases u3
  · rw [t1, p1]
    rfl
theorem sm_find (hP : sm_P g P T) (hV : sm_V n T) : cl_findo P (md_hn T) = (md_findo T).map g := by
  refine fo_two (fun p hp => ?_) (fun t u ht hu h1 h2 => ?_) (fun t ht => (hP.1 t ht).1)
  · rw [Bool.and_eq_true, decide_eq_true_iff]
    constructor
    · rintro ⟨a, b⟩
      obtain ⟨t, t1, t2⟩ := hP.2.2.1 p a
      refine ⟨t, t1, t2, ?_⟩
      rw [md_named_eq]
      refine decide_eq_true ?_
      rw [← (hP.2.2.2.1 t t1).1, t2]
      exact b
    · rintro ⟨t, t1, t2, t3⟩
      rw [md_named_eq] at t3
      rw [← t2]
      exact ⟨(hP.1 t t1).2, (hP.2.2.2.1 t t1).1.trans (of_decide_eq_true t3)⟩
  · rw [md_named_eq] at h1 h2
    exact hV.1 t u ht hu ((of_decide_eq_true h1).trans (of_decide_eq_true h2).symm)
theorem sm_spender (h8 : ∀ t, t < mo_z T → md_sp T t ≤ 8) (hP : sm_P g P T) (hV : sm_V n T) {x : Int32} : cl_spendero P (md_hn T) x = (md_strko T x).map g := by
  refine fo_two (fun p hp => ?_) (fun t u ht hu h1 h2 => ?_) (fun t ht => (hP.1 t ht).1)
  · rw [Bool.and_eq_true]
    constructor
    · rintro ⟨a, b⟩
      obtain ⟨t, t1, t2⟩ := hP.2.2.1 p a
      refine ⟨t, t1, t2, ?_⟩
      rw [← t2, sm_has (sm_tx_k (hP.2.2.2.1 t t1)) (h8 t t1)] at b
      exact b
    · rintro ⟨t, t1, t2, t3⟩
      rw [← t2, sm_has (sm_tx_k (hP.2.2.2.1 t t1)) (h8 t t1)]
      exact ⟨(hP.1 t t1).2, t3⟩
  · by_cases e : t = u
    · exact e
    · have hc := hV.2.1 t u ht hu e
      rw [md_clash_eq] at hc
      obtain ⟨a, a1, a2, a3⟩ := lp_any_iff.mp h1
      obtain ⟨b, b1, b2, b3⟩ := lp_any_iff.mp h2
      rw [md_skey_eq] at a3 b3
      obtain ⟨a4, a5⟩ := Bool.and_eq_true _ _ |>.mp a3
      obtain ⟨b4, b5⟩ := Bool.and_eq_true _ _ |>.mp b3
      have : lp_any (fun k => lp_any (fun q => md_same T t k u q) (md_sp T u) 0) (md_sp T t) 0 = true := lp_any_iff.mpr ⟨a, a1, a2, lp_any_iff.mpr ⟨b, b1, b2, by
        rw [md_same_eq, decide_eq_true ((of_decide_eq_true a4).trans (of_decide_eq_true b4).symm), decide_eq_true ((of_decide_eq_true a5).trans (of_decide_eq_true b5).symm)]
        rfl⟩⟩
      rw [hc] at this
      cases this
/-- what holds when a set has gone -/
theorem sm_after (ho : mo_ok T) (h : sm_R k S T) (hP : sm_P g S.2.2.1 T) {f : Nat → Bool} {G : Int64} (hG : sm_b g T G (fun u => f u = true)) : sm_R k (S.1, S.2.1, cl_rm S.2.2.1 G, S.2.2.2) (md_remove (mo_M T f)) ∧ mo_z (md_remove (mo_M T f)) + md_n T f = mo_z T := by
  obtain ⟨-, ⟨n, n1, n2, n3, hV⟩, h3, ⟨k1, k2, k3⟩, ⟨r1, r2⟩, h6⟩ := h
  obtain ⟨g1, g2, g3, g4⟩ := sm_gone ho (by omega) hP hV hG
  have e : ∀ {α : Type} (q : Int32 × Nat × Nat × (Nat → Int64) × (Nat → Int64) × (Nat → Int64) × (Nat → Int32) × (Nat → Int32) → α), q (mo_re (md_remove (mo_M T f))) = q (mo_re (mo_M T f)) := fun q => congrArg q g3
  have ec : mo_c (md_remove (mo_M T f)) = mo_c T := e (fun q => q.1)
  have et : mo_t (md_remove (mo_M T f)) = mo_t T := e (fun q => q.2.1)
  have er : mo_r (md_remove (mo_M T f)) = mo_r T := e (fun q => q.2.2.1)
  have e8 : mo_l (md_remove (mo_M T f)) 8 = mo_l T 8 := e (fun q => q.2.2.2.1)
  have e9 : mo_l (md_remove (mo_M T f)) 9 = mo_l T 9 := e (fun q => q.2.2.2.2.1)
  have e12 : mo_l (md_remove (mo_M T f)) 12 = mo_l T 12 := e (fun q => q.2.2.2.2.2.1)
  have e10 : mo_i (md_remove (mo_M T f)) 10 = mo_i T 10 := e (fun q => q.2.2.2.2.2.2.1)
  refine ⟨⟨g1, ⟨n, n1, n2, ec.trans n3, g2⟩, ?_, ⟨k1.trans et.symm, fun i hi => ?_, fun i hi => ?_⟩, ⟨r1.trans er.symm, fun i hi => ?_⟩, by omega⟩, g4⟩
  · show S.1 = (mo_l (md_remove (mo_M T f)) 8 0, mo_l (md_remove (mo_M T f)) 8 1, mo_l (md_remove (mo_M T f)) 8 2, mo_l (md_remove (mo_M T f)) 8 3)
    rw [e8]
    exact h3
  · rw [e9]
    exact k2 i hi
  · rw [e10]
    exact k3 i hi
  · rw [e12]
    rw [er] at hi
    exact r2 i hi
theorem sm_fam_like (hP : sm_P g P T) (hz : mo_z T ≤ 41) {t : Nat} (ht : t < mo_z T) {f : Nat → Bool} (hf : mk_like f (md_famC T t (mo_z T))) : sm_b g T (cl_fam P (bz_b (g t))) (fun u => f u = true) := by
  intro p
  rw [sm_fam hP (by omega) ht p]
  constructor
  · rintro ⟨u, u1, u2, u3⟩
    exact ⟨u, u1, u2, by show f u = true; rw [hf u (by omega)]; exact u3⟩
  · rintro ⟨u, u1, u2, u3⟩
    exact ⟨u, u1, u2, by show md_famC T t (mo_z T) u = true; rw [← hf u (by omega)]; exact u3⟩
theorem sm_rmf (ho : mo_ok T) (h : sm_R k S T) (hP : sm_P g S.2.2.1 T) {o : Option Nat} (hlt : ∀ t, o = some t → t < mo_z T) {y : Int32} {T1 : mo_S} (hr : md_rmRel T o y T1) : (ds_rmf S.2.2.1 (o.map g)).1 = y ∧ sm_R k (S.1, S.2.1, (ds_rmf S.2.2.1 (o.map g)).2, S.2.2.2) T1 := by
  have hz := h.2.2.2.2.2
  cases o with
  | none =>
    obtain ⟨rfl, rfl⟩ := hr
    exact ⟨rfl, h⟩
  | some t =>
    obtain ⟨mk, h1, rfl, rfl⟩ := hr
    have ht := hlt t rfl
    have hb := sm_fam_like hP (by omega) ht h1
    obtain ⟨r1, r2⟩ := sm_after ho h hP hb
    refine ⟨?_, r1⟩
    show nI (bz_c (cl_fam S.2.2.1 (bz_b (g t))) 64) = _
    rw [sm_cnt' hP hb]
    congr 1
    have : (md_rmR (mo_M T mk)).2 = mo_z (md_remove (mo_M T mk)) := rfl
    omega
theorem sm_drop (ho : mo_ok T) (h : sm_R k S T) {y : Int32} {T1 : mo_S} (hr : md_rmRel T (md_findo T) y T1) : (ds_rmf S.2.2.1 (cl_findo S.2.2.1 S.1)).1 = y ∧ sm_R k (S.1, S.2.1, (ds_rmf S.2.2.1 (cl_findo S.2.2.1 S.1)).2, S.2.2.2) T1 := by
  obtain ⟨g, hP⟩ := h.1
  obtain ⟨n, -, -, -, hV⟩ := h.2.1
  rw [h.2.2.1, sm_find hP hV, ← h.2.2.1]
  exact sm_rmf ho h hP (fun t ht => fo_lt ht) hr
theorem sm_strike (ho : mo_ok T) (h : sm_R k S T) {x y : Int32} {T1 : mo_S} (hr : md_rmRel T (md_strko T x) y T1) : (ds_rmf S.2.2.1 (cl_spendero S.2.2.1 S.1 x)).1 = y ∧ sm_R k (S.1, S.2.1, (ds_rmf S.2.2.1 (cl_spendero S.2.2.1 S.1 x)).2, S.2.2.2) T1 := by
  obtain ⟨g, hP⟩ := h.1
  obtain ⟨n, -, -, -, hV⟩ := h.2.1
  have hz := h.2.2.2.2.2
  rw [h.2.2.1, sm_spender (fun t ht => (ho.1 t (by omega)).2) hP hV, ← h.2.2.1]
  exact sm_rmf ho h hP (fun t ht => fo_lt ht) hr
theorem sm_take (ho : mo_ok T) (h : sm_R k S T) {y : Int32} {T1 : mo_S} (hr : md_tkRel T (md_findo T) y T1) : (ds_take S.2.2.1 (cl_findo S.2.2.1 S.1)).1 = y ∧ sm_R k (S.1, S.2.1, (ds_take S.2.2.1 (cl_findo S.2.2.1 S.1)).2, S.2.2.2) T1 := by
  obtain ⟨g, hP⟩ := h.1
  obtain ⟨n, -, -, -, hV⟩ := h.2.1
  have hz := h.2.2.2.2.2
  rw [h.2.2.1, sm_find hP hV, ← h.2.2.1]
  cases o : md_findo T with
  | none =>
    rw [o] at hr
    obtain ⟨rfl, rfl⟩ := hr
    exact ⟨rfl, h⟩
  | some t =>
    rw [o] at hr
    obtain ⟨mk, h1, rfl, rfl⟩ := hr
    have ht : t < mo_z T := fo_lt o
    have hb : sm_b g T (bz_b (g t)) (fun u => mk u = true) := fun p => by
      rw [sm_one hP ht p]
      constructor
      · rintro ⟨u, u1, u2, u3⟩
        exact ⟨u, u1, u2, by show mk u = true; rw [h1 u (by omega)]; exact decide_eq_true u3⟩
      · rintro ⟨u, u1, u2, u3⟩
        have u3 : mk u = true := u3
        rw [h1 u (by omega)] at u3
        exact ⟨u, u1, u2, of_decide_eq_true u3⟩
    exact ⟨rfl, (sm_after ho h hP hb).1⟩
theorem md_fees_f : md_fees T false = lN (md_sF T (fun _ => true)) := by
  have h := ns_foldL (F := fun t a => a + (if (md_mk T t || !false) = true then mo_l T 4 t else 0)) (g := fun t => if (fun _ => true) t = true then md_fe T t else 0) (m := mo_z T) (i := 0) (B := 0) (fun j a _ h2 => by
    rw [Bool.not_false, Bool.or_true, if_pos rfl, if_pos rfl]
    unfold md_fe
    rw [lN_self])
  rw [Nat.zero_add] at h
  exact h
theorem md_sizes_f (hv : md_iv T) : md_sizes T false = lN (md_sZ T (fun _ => true)) := by
  have h := ns_foldL (F := fun t a => a + (if (md_mk T t || !false) = true then mo_i T 5 t else nI 0).toInt64) (g := fun t => if (fun _ => true) t = true then md_si T t else 0) (m := mo_z T) (i := 0) (B := 0) (fun j a _ h2 => by
    have hj := hv j (by omega)
    rw [Bool.not_false, Bool.or_true, if_pos rfl, if_pos rfl, hj.2.2.1, nI_l (by omega)])
  rw [Nat.zero_add] at h
  exact h
theorem sm_allT (hP : sm_P g P T) : sm_b g T P.1 (fun u => (fun _ => true) u = true) := fun p => by
  rw [sm_all hP p]
  constructor
  · rintro ⟨u, h1, h2, -⟩
    exact ⟨u, h1, h2, rfl⟩
  · rintro ⟨u, h1, h2, -⟩
    exact ⟨u, h1, h2, trivial⟩
theorem sm_fees (ho : mo_ok T) (h : sm_R k S T) : cl_fees S.2.2.1 S.2.2.1.1 = md_fees T false := by
  obtain ⟨g, hP⟩ := h.1
  rw [sm_fees' hP (sm_allT hP), md_fees_f]
theorem md_n_all : md_n T (fun _ => true) = mo_z T := by
  have : ∀ m i, ns_s (fun t => if (fun _ : Nat => true) t = true then 1 else 0) m i = m := by
    intro m
    induction m with
    | zero => intro i; rfl
    | succ m ih =>
      intro i
      show (if true = true then 1 else 0) + ns_s _ m (i + 1) = m + 1
      rw [ih, if_pos rfl]
      omega
  exact this _ _
theorem sm_count (ho : mo_ok T) (h : sm_R k S T) (x : Int32) : ds_count S x = md_count T x := by
  obtain ⟨g, hP⟩ := h.1
  obtain ⟨n, -, n2, n3, hV⟩ := h.2.1
  rcases sw_cases x 4 (by decide) with ⟨q, hq, rfl⟩ | hx
  · rcases (show q = 0 ∨ q = 1 ∨ q = 2 ∨ q = 3 ∨ q = 4 by omega) with rfl | rfl | rfl | rfl | rfl
    · show nI (bz_c S.2.2.1.1 64) = nI (mo_z T)
      rw [sm_cnt' hP (sm_allT hP), md_n_all]
    · show cl_keys S.2.2.1 = md_nkeys T
      exact sm_keys' hP
    · show cl_sizes S.2.2.1 S.2.2.1.1 = (md_sizes T false).toInt32
      rw [sm_sizes' hP hV.2.2.2.2 (sm_allT hP), md_sizes_f hV.2.2.2.2, lN_i]
    · show nI S.2.1.1 = nI (mo_t T)
      rw [h.2.2.2.1.1]
    · show S.2.2.1.2.1 = mo_c T
      rw [n2, n3]
  · rw [ds_count_out hx, md_count_out hx]
theorem sm_row (h : sm_R k S T) (x y : Int32) : rw_word S.2.2.2.1 S.2.2.2.2 x y = md_row T x y := by
  obtain ⟨r1, r2⟩ := h.2.2.2.2.1
  unfold rw_word md_row
  rw [r1]
  by_cases c : x < 0 ∨ nI (mo_r T) ≤ x ∨ y < 0 ∨ nI 4 ≤ y
  · rw [if_pos c, if_pos c]
  · rw [if_neg c, if_neg c]
    have c1 : ¬ x < 0 := fun z => c (Or.inl z)
    have c2 : ¬ nI (mo_r T) ≤ x := fun z => c (Or.inr (Or.inl z))
    have c3 : ¬ y < 0 := fun z => c (Or.inr (Or.inr (Or.inl z)))
    have c4 : ¬ nI 4 ≤ y := fun z => c (Or.inr (Or.inr (Or.inr z)))
    by_cases hb : mo_r T < 2 ^ 31
    · obtain ⟨i, hi, rfl⟩ := ix_of hb c1 c2
      obtain ⟨j, hj, rfl⟩ := ix_of (by decide) c3 c4
      rw [nI_clamp (by omega), nI_clamp (by omega), Nat.mul_comm i 4]
      exact r2 _ (by omega)
    · have h1 : x.toNatClampNeg < 2 ^ 31 := by
        have a := Int32.toInt_lt x
        have b : x.toNatClampNeg = x.toInt.toNat := rfl
        omega
      obtain ⟨j, hj, rfl⟩ := ix_of (by decide) c3 c4
      rw [nI_clamp (n := j) (by omega), Nat.mul_comm x.toNatClampNeg 4]
      exact r2 _ (by omega)
theorem sm_par (hP : sm_P g P T) (hV : sm_V n T) {t : Nat} (ht : t < mo_z T) : sm_b g T (P.2.2 (g t)).2.2.2.2.2.2.1 (fun u => (fun u => !decide (u = t) && (if true = true then md_hangs T t u else md_hangs T u t)) u = true) := fun p => by
  rw [(hP.2.2.2.2 t ht p).1]
  constructor
  · rintro ⟨u, u1, u2, u3⟩
    refine ⟨u, u1, u2, ?_⟩
    show (!decide (u = t) && md_hangs T t u) = true
    rw [u3, decide_eq_false (fun e => by rw [e, hV.2.2.1 t ht] at u3; cases u3)]
    rfl
  · rintro ⟨u, u1, u2, u3⟩
    exact ⟨u, u1, u2, (Bool.and_eq_true _ _ |>.mp u3).2⟩
theorem sm_chi (hP : sm_P g P T) (hV : sm_V n T) {t : Nat} (ht : t < mo_z T) : sm_b g T (P.2.2 (g t)).2.2.2.2.2.2.2 (fun u => (fun u => !decide (u = t) && (if false = true then md_hangs T t u else md_hangs T u t)) u = true) := fun p => by
  rw [(hP.2.2.2.2 t ht p).2]
  constructor
  · rintro ⟨u, u1, u2, u3⟩
    refine ⟨u, u1, u2, ?_⟩
    show (!decide (u = t) && md_hangs T u t) = true
    rw [u3, decide_eq_false (fun e => by rw [e, hV.2.2.1 t ht] at u3; cases u3)]
    rfl
  · rintro ⟨u, u1, u2, u3⟩
    exact ⟨u, u1, u2, (Bool.and_eq_true _ _ |>.mp u3).2⟩
theorem sm_look (ho : mo_ok T) (h : sm_R k S T) (x : Int32) : ds_look S x = md_look T x := by
  obtain ⟨g, hP⟩ := h.1
  obtain ⟨n, -, -, -, hV⟩ := h.2.1
  have hz := h.2.2.2.2.2
  have hv := hV.2.2.2.2
  unfold ds_look md_look
  rw [h.2.2.1, sm_find hP hV]
  cases o : md_findo T with
  | none => rfl
  | some t =>
    show cl_look S.2.2.1 (g t) x = md_lookT T t x
    have ht : t < mo_z T := fo_lt o
    obtain ⟨a1, a2, a3, a4, a5, a6, a7, a8⟩ := hP.2.2.2.1 t ht
    have hf := sm_fam hP (by omega) ht
    rcases sw_cases x 9 (by decide) with ⟨q, hq, rfl⟩ | hx
    · rcases (show q = 0 ∨ q = 1 ∨ q = 2 ∨ q = 3 ∨ q = 4 ∨ q = 5 ∨ q = 6 ∨ q = 7 ∨ q = 8 ∨ q = 9 by omega) with rfl | rfl | rfl | rfl | rfl | rfl | rfl | rfl | rfl | rfl
      · exact a5
      · exact congrArg Int32.toInt64 a6
      · exact congrArg Int32.toInt64 a7
      · exact congrArg (fun q => (nI q).toInt64) a2
      · show (nI (bz_c (S.2.2.1.2.2 (g t)).2.2.2.2.2.2.1 64)).toInt64 = (md_kin T t true).toInt64
        rw [sm_cnt' hP (sm_par hP hV ht), md_kin_n]
      · show (nI (bz_c (S.2.2.1.2.2 (g t)).2.2.2.2.2.2.2 64)).toInt64 = (md_kin T t false).toInt64
        rw [sm_cnt' hP (sm_chi hP hV ht), md_kin_n]
      · show (nI (bz_c (cl_fam S.2.2.1 (bz_b (g t))) 64)).toInt64 = (md_cnt T (md_famC T t (mo_z T))).toInt64
        rw [sm_cnt' hP hf, md_cnt_n]
      · show cl_fees S.2.2.1 (cl_fam S.2.2.1 (bz_b (g t))) = md_fees (mo_M T (md_famC T t (mo_z T))) true
        rw [sm_fees' hP hf, md_fees_t hv]
      · show (cl_sizes S.2.2.1 (cl_fam S.2.2.1 (bz_b (g t)))).toInt64 = md_sizes (mo_M T (md_famC T t (mo_z T))) true
        have := md_sZ_le hv (by omega) (md_famC T t (mo_z T))
        rw [sm_sizes' hP hv hf, md_sizes_t hv, nI_l (by omega)]
      · exact congrArg Int32.toInt64 a8
    · rw [cl_look_out hx, md_lookT_out hx]
theorem md_or0_mk {u : Nat} (hu : u < 42) : md_mk (md_or0 T) u = false := by
  have h1 : md_mk (md_or0 T) u = lp_fold (fun u mk => va_up mk u false) 42 0 (md_mk T) u := md_mkM (S := T) (mk := lp_fold (fun u mk => va_up mk u false) 42 0 (md_mk T)) (u := u)
  rw [h1, lp_fold_ext (G := fun u mk => va_up mk u (decide (u = 42))) (fun j a _ hj => by rw [decide_eq_false (by omega)]), md_one_at, if_pos (by omega)]
  exact decide_eq_false (by omega)
theorem sm_order (ho : mo_ok T) (hk : k < 2 ^ 30) (h : sm_R k S T) (z : Int32) : (ds_ord S z).1 = mo_r (md_ord T z) ∧ sm_R k (S.1, S.2.1, S.2.2.1, ds_ord S z) (md_ord T z) := by
  obtain ⟨⟨g, hP⟩, ⟨n, n1, n2, n3, hV⟩, h3, ⟨k1, k2, k3⟩, -, h6⟩ := h
  have h8 : ∀ t, t < mo_z T → md_sp T t ≤ 8 := fun t ht => (ho.1 t (by omega)).2
  have hd : sm_b g (md_or0 T) 0 (fun u => md_mk (md_or0 T) u = true) := fun p => by
    constructor
    · intro q
      rw [bz_0] at q
      cases q
    · rintro ⟨u, u1, -, u3⟩
      have u1 : u < mo_z T := u1
      have u3 : md_mk (md_or0 T) u = true := u3
      rw [md_or0_mk (by omega)] at u3
      cases u3
  obtain ⟨j1, j2, j3⟩ := sm_ordL (g := g) (P := S.2.2.1) (n := n) (k0 := z) (by omega) 41 (md_or0 T) 0 z 0 (0, S.2.2.2.2) h8 h6 (sm_P_ro h8 md_or0_ro hP) (sm_V_ro h8 md_or0_ro hV) hd (by omega) (by omega) (by omega) rfl (fun i hi => absurd hi (by show ¬ i < 4 * 0; omega))
  have j3 := mo_ro_tr md_or0_ro j3
  refine ⟨j1, ⟨g, sm_P_ro h8 j3 hP⟩, ⟨n, n1, n2, j3.2.1.trans n3, sm_V_ro h8 j3 hV⟩, ?_, ⟨k1.trans j3.2.2.1.symm, fun i hi => ?_, fun i hi => ?_⟩, ⟨j1, j2⟩, ?_⟩
  · show S.1 = (mo_l (md_ord T z) 8 0, mo_l (md_ord T z) 8 1, mo_l (md_ord T z) 8 2, mo_l (md_ord T z) 8 3)
    rw [show mo_l (md_ord T z) 8 = mo_l T 8 from j3.2.2.2.2.2.2.1]
    exact h3
  · rw [show mo_l (md_ord T z) 9 = mo_l T 9 from j3.2.2.2.2.2.2.2.1]
    exact k2 i hi
  · rw [show mo_i (md_ord T z) 10 = mo_i T 10 from j3.2.2.2.2.2.2.2.2.2.2.2.2.2]
    exact k3 i hi
  · rw [show mo_z (md_ord T z) = mo_z T from j3.1]
    exact h6
end Calls
