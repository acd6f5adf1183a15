def wl_Model_clash : List Cond := [.fieldLink "PoolDeskModel" 13 "PoolDeskModel" "spends" "[I", .methodLink "PoolDeskModel" 66 y_Model_sameKey, .instanceMethod y_Model_sameKey, .selects "PoolDeskModel" y_Model_sameKey y_Model_sameKey]
theorem wi_Model_clash : ∀ w ∈ wl_Model_clash, w ∈ ma_tbl := by decide +kernel
def wl_Model_copy : List Cond := [.fieldLink "PoolDeskModel" 7 "PoolDeskModel" "names" "[J", .fieldLink "PoolDeskModel" 17 "PoolDeskModel" "keys" "[J", .fieldLink "PoolDeskModel" 20 "PoolDeskModel" "indexes" "[I", .fieldLink "PoolDeskModel" 13 "PoolDeskModel" "spends" "[I", .fieldLink "PoolDeskModel" 23 "PoolDeskModel" "fees" "[J", .fieldLink "PoolDeskModel" 26 "PoolDeskModel" "sizes" "[I", .fieldLink "PoolDeskModel" 29 "PoolDeskModel" "outputs" "[I", .fieldLink "PoolDeskModel" 32 "PoolDeskModel" "coming" "[I"]
theorem wi_Model_copy : ∀ w ∈ wl_Model_copy, w ∈ ma_tbl := by decide +kernel
def wl_Model_remove : List Cond := [.fieldLink "PoolDeskModel" 51 "PoolDeskModel" "size" "I", .fieldLink "PoolDeskModel" 44 "PoolDeskModel" "marks" "[Z", .methodLink "PoolDeskModel" 74 y_Model_copy, .instanceMethod y_Model_copy, .selects "PoolDeskModel" y_Model_copy y_Model_copy]
theorem wi_Model_remove : ∀ w ∈ wl_Model_remove, w ∈ ma_tbl := by decide +kernel
set_option maxHeartbeats 1000000 in
set_option maxRecDepth 100000 in
theorem c_Model_clash_i {l : Launch} {D : va_G} {ca : Nat → ClassId} {hp : hp_T} {d : Nat} {x : Nat} {A : Nat → Nat} {S : mo_S} (hS : mo_At ca hp x A S) {Q : Option Value → hp_T → Prop} {t u k : Nat} (ht : t < 42) (hu : u < 42) (hk : k < md_sp S t) : ∀ (m i : Nat) (a : Bool), i + m = md_sp S u → (∀ j : Nat, ma_V l D ca ma_T M_Model_clash (d + 1) 0 0 hp Q 59 [(5, .int (nI j)), (3, .int (bI (lp_fold (fun q b => b || md_same S t k u q) m i a))), (4, .int (nI k)), (0, .ref x), (1, .int (nI t)), (2, .int (nI u))] []) → ma_V l D ca ma_T M_Model_clash (d + 1) 0 0 hp Q 19 [(5, .int (nI i)), (3, .int (bI a)), (4, .int (nI k)), (0, .ref x), (1, .int (nI t)), (2, .int (nI u))] [] := by
  have hA1 : hp (A 1) = some (.inl (ca 0, 42, .inl (mo_i S 1))) := hS.2.1 1 (by decide)
  have hsz := hS.2.2.2.2.1
  have htd := hS.2.2.2.2.2.1
  have hrs := hS.2.2.2.2.2.2
  have hsp := hS.2.2.1
  have hmk : ∀ u, u < 42 → mo_i S 11 u = bI (md_mk S u) := fun u _ => congrFun hS.2.2.2.1 u
  have hst := (hsp t ht).2
  have hsu := (hsp u hu).2
  intro m
  induction m with
  | zero =>
    intro i a hi K
    refine rv_iload d_Model_clash_19 0 rfl ?_
    refine rv_aload_n d_Model_clash_21 rfl 3 rfl ?_
    refine rv_get ka_Model hS.1 rfl 2 (by decide) (wi_Model_clash _ (List.mem_of_getElem? (i := 0) rfl)) rfl d_Model_clash_22 ?_
    refine rv_iload_n d_Model_clash_25 rfl 5 rfl ?_
    refine rv_iald hA1 0 rfl (by omega) (by decide) d_Model_clash_26 ?_
    refine rv_eqi (y := nI (md_sp S u)) ((hsp u (by omega)).1) ?_
    refine rv_icmp_ge (tgt := 59) d_Model_clash_27 (by decide) (fun c_27 => ?_) (fun c_27 => ?_)
    · exact K i
    · exact absurd (nI_le (by omega) (by omega)) c_27
  | succ m ih =>
    intro i a hi K
    refine rv_iload d_Model_clash_19 0 rfl ?_
    refine rv_aload_n d_Model_clash_21 rfl 3 rfl ?_
    refine rv_get ka_Model hS.1 rfl 2 (by decide) (wi_Model_clash _ (List.mem_of_getElem? (i := 0) rfl)) rfl d_Model_clash_22 ?_
    refine rv_iload_n d_Model_clash_25 rfl 5 rfl ?_
    refine rv_iald hA1 0 rfl (by omega) (by decide) d_Model_clash_26 ?_
    refine rv_eqi (y := nI (md_sp S u)) ((hsp u (by omega)).1) ?_
    refine rv_icmp_ge (tgt := 59) d_Model_clash_27 (by decide) (fun c_27 => ?_) (fun c_27 => ?_)
    · exact absurd c_27 (nI_ge (by omega) (by omega))
    · refine rv_iload_n d_Model_clash_30 rfl 1 rfl ?_
      refine rv_if_ne (tgt := 47) d_Model_clash_31 (by decide) (fun c_31 => ?_) (fun c_31 => ?_)
      · have e : (fun q b => b || md_same S t k u q) i a = true := by show (a || _) = true; rw [bI_n.mp c_31, Bool.true_or]
        refine rv_iconst (v := nI 1) d_Model_clash_47 (by decide) ?_
        refine rv_goto (tgt := 52) d_Model_clash_48 (by decide) ?_
        refine rv_istore_n (lv' := [(3, .int (nI 1)), (5, .int (nI i)), (4, .int (nI k)), (0, .ref x), (1, .int (nI t)), (2, .int (nI u))]) d_Model_clash_52 rfl (by decide) rfl ?_
        refine rv_iinc (k := 1) (v := nI (i + 1)) (lv' := [(5, .int (nI (i + 1))), (3, .int (nI 1)), (4, .int (nI k)), (0, .ref x), (1, .int (nI t)), (2, .int (nI u))]) d_Model_clash_53 rfl (nI_1 _) (by decide) rfl ?_
        refine rv_goto (tgt := 19) d_Model_clash_56 (by decide) ?_
        refine rv_lv [0, 1, 2, 3, 4, 5] rfl (ih (i + 1) true (by omega) (fun j => ?_))
        have z := K j
        rw [show lp_fold (fun q b => b || md_same S t k u q) (m + 1) i a = lp_fold (fun q b => b || md_same S t k u q) m (i + 1) true from congrArg (lp_fold (fun q b => b || md_same S t k u q) m (i + 1)) e] at z
        exact z
      · refine rv_aload_n d_Model_clash_34 rfl 3 rfl ?_
        refine rv_iload_n d_Model_clash_35 rfl 4 rfl ?_
        refine rv_iload d_Model_clash_36 2 rfl ?_
        refine rv_iload_n d_Model_clash_38 rfl 5 rfl ?_
        refine rv_iload d_Model_clash_39 0 rfl ?_
        refine rv_callV (kc' := 0) (ks' := 0) (kc1 := 0) (ks1 := 0) (As := [.int (nI t), .int (nI k), .int (nI u), .int (nI i)]) (rest := []) hS.1 rfl (c_Model_sameKey hS (by omega) (by omega) (by omega) (by omega)) ok_Model_sameKey (wi_Model_clash _ (List.mem_of_getElem? (i := 1) rfl)) (wi_Model_clash _ (List.mem_of_getElem? (i := 2) rfl)) (wi_Model_clash _ (List.mem_of_getElem? (i := 3) rfl)) rfl rfl (Nat.le_of_ble_eq_true rfl) (Nat.le_of_ble_eq_true rfl) ⟨Nat.le_of_ble_eq_true rfl, Nat.le_of_ble_eq_true rfl⟩ d_Model_clash_41 (rv_kie ?_)
        refine rv_if_eq (tgt := 51) d_Model_clash_44 (by decide) (fun c_44 => ?_) (fun c_44 => ?_)
        · have e : (fun q b => b || md_same S t k u q) i a = false := by show (a || _) = false; rw [bI_0.mp c_31, bI_0.mp c_44]; rfl
          refine rv_iconst (v := nI 0) d_Model_clash_51 (by decide) ?_
          refine rv_istore_n (lv' := [(3, .int (nI 0)), (5, .int (nI i)), (4, .int (nI k)), (0, .ref x), (1, .int (nI t)), (2, .int (nI u))]) d_Model_clash_52 rfl (by decide) rfl ?_
          refine rv_iinc (k := 1) (v := nI (i + 1)) (lv' := [(5, .int (nI (i + 1))), (3, .int (nI 0)), (4, .int (nI k)), (0, .ref x), (1, .int (nI t)), (2, .int (nI u))]) d_Model_clash_53 rfl (nI_1 _) (by decide) rfl ?_
          refine rv_goto (tgt := 19) d_Model_clash_56 (by decide) ?_
          refine rv_lv [0, 1, 2, 3, 4, 5] rfl (ih (i + 1) false (by omega) (fun j => ?_))
          have z := K j
          rw [show lp_fold (fun q b => b || md_same S t k u q) (m + 1) i a = lp_fold (fun q b => b || md_same S t k u q) m (i + 1) false from congrArg (lp_fold (fun q b => b || md_same S t k u q) m (i + 1)) e] at z
          exact z
        · have e : (fun q b => b || md_same S t k u q) i a = true := by show (a || _) = true; rw [bI_n.mp c_44, Bool.or_true]
          refine rv_iconst (v := nI 1) d_Model_clash_47 (by decide) ?_
          refine rv_goto (tgt := 52) d_Model_clash_48 (by decide) ?_
          refine rv_istore_n (lv' := [(3, .int (nI 1)), (5, .int (nI i)), (4, .int (nI k)), (0, .ref x), (1, .int (nI t)), (2, .int (nI u))]) d_Model_clash_52 rfl (by decide) rfl ?_
          refine rv_iinc (k := 1) (v := nI (i + 1)) (lv' := [(5, .int (nI (i + 1))), (3, .int (nI 1)), (4, .int (nI k)), (0, .ref x), (1, .int (nI t)), (2, .int (nI u))]) d_Model_clash_53 rfl (nI_1 _) (by decide) rfl ?_
          refine rv_goto (tgt := 19) d_Model_clash_56 (by decide) ?_
          refine rv_lv [0, 1, 2, 3, 4, 5] rfl (ih (i + 1) true (by omega) (fun j => ?_))
          have z := K j
          rw [show lp_fold (fun q b => b || md_same S t k u q) (m + 1) i a = lp_fold (fun q b => b || md_same S t k u q) m (i + 1) true from congrArg (lp_fold (fun q b => b || md_same S t k u q) m (i + 1)) e] at z
          exact z
set_option maxHeartbeats 1000000 in
set_option maxRecDepth 100000 in
theorem c_Model_clash_l {l : Launch} {D : va_G} {ca : Nat → ClassId} {hp : hp_T} {d : Nat} {x : Nat} {A : Nat → Nat} {S : mo_S} (hS : mo_At ca hp x A S) {t u : Nat} (ht : t < 42) (hu : u < 42) : ∀ (m i : Nat) (a : Bool), i + m = md_sp S t → ma_V l D ca ma_T M_Model_clash (d + 1) 0 0 hp (ma_qi (ma_eq (bI (lp_fold (fun k b => md_clashI S t k u b) m i a)) hp)) 5 [(4, .int (nI i)), (3, .int (bI a)), (0, .ref x), (1, .int (nI t)), (2, .int (nI u))] [] := by
  have hA1 : hp (A 1) = some (.inl (ca 0, 42, .inl (mo_i S 1))) := hS.2.1 1 (by decide)
  have hsz := hS.2.2.2.2.1
  have htd := hS.2.2.2.2.2.1
  have hrs := hS.2.2.2.2.2.2
  have hsp := hS.2.2.1
  have hmk : ∀ u, u < 42 → mo_i S 11 u = bI (md_mk S u) := fun u _ => congrFun hS.2.2.2.1 u
  have hst := (hsp t ht).2
  intro m
  induction m with
  | zero =>
    intro i a hi
    refine rv_iload d_Model_clash_5 0 rfl ?_
    refine rv_aload_n d_Model_clash_7 rfl 2 rfl ?_
    refine rv_get ka_Model hS.1 rfl 2 (by decide) (wi_Model_clash _ (List.mem_of_getElem? (i := 0) rfl)) rfl d_Model_clash_8 ?_
    refine rv_iload_n d_Model_clash_11 rfl 3 rfl ?_
    refine rv_iald hA1 0 rfl (by omega) (by decide) d_Model_clash_12 ?_
    refine rv_eqi (y := nI (md_sp S t)) ((hsp t (by omega)).1) ?_
    refine rv_icmp_ge (tgt := 65) d_Model_clash_13 (by decide) (fun c_13 => ?_) (fun c_13 => ?_)
    · refine rv_iload_n d_Model_clash_65 rfl 1 rfl ?_
      exact rv_ireturn ⟨_, rfl, rfl, rfl⟩ d_Model_clash_66 rfl (bI_nar _)
    · exact absurd (nI_le (by omega) (by omega)) c_13
  | succ m ih =>
    intro i a hi
    refine rv_iload d_Model_clash_5 0 rfl ?_
    refine rv_aload_n d_Model_clash_7 rfl 2 rfl ?_
    refine rv_get ka_Model hS.1 rfl 2 (by decide) (wi_Model_clash _ (List.mem_of_getElem? (i := 0) rfl)) rfl d_Model_clash_8 ?_
    refine rv_iload_n d_Model_clash_11 rfl 3 rfl ?_
    refine rv_iald hA1 0 rfl (by omega) (by decide) d_Model_clash_12 ?_
    refine rv_eqi (y := nI (md_sp S t)) ((hsp t (by omega)).1) ?_
    refine rv_icmp_ge (tgt := 65) d_Model_clash_13 (by decide) (fun c_13 => ?_) (fun c_13 => ?_)
    · exact absurd c_13 (nI_ge (by omega) (by omega))
    · refine rv_iconst (v := nI 0) d_Model_clash_16 (by decide) ?_
      refine rv_istore (lv' := [(5, .int (nI 0)), (4, .int (nI i)), (3, .int (bI a)), (0, .ref x), (1, .int (nI t)), (2, .int (nI u))]) d_Model_clash_17 (by decide) rfl ?_
      refine rv_lv [0, 2, 1, 3, 4, 5] rfl (c_Model_clash_i (k := i) hS ht hu (by omega) (md_sp S u) 0 a (Nat.zero_add _) (fun j => ?_))
      change ma_V l D ca ma_T M_Model_clash (d + 1) 0 0 hp _ 59 [(5, .int (nI j)), (3, .int (bI (md_clashI S t i u a))), (4, .int (nI i)), (0, .ref x), (1, .int (nI t)), (2, .int (nI u))] []
      refine rv_iinc (k := 2) (v := nI (i + 1)) (lv' := [(4, .int (nI (i + 1))), (5, .int (nI j)), (3, .int (bI (md_clashI S t i u a))), (0, .ref x), (1, .int (nI t)), (2, .int (nI u))]) d_Model_clash_59 rfl (nI_1 _) (by decide) rfl ?_
      refine rv_goto (tgt := 5) d_Model_clash_62 (by decide) ?_
      exact rv_lv [0, 2, 3, 4, 5] rfl (ih (i + 1) (md_clashI S t i u a) (by omega))
set_option maxHeartbeats 1000000 in
set_option maxRecDepth 100000 in
theorem c_Model_clash {l : Launch} {D : va_G} {ca : Nat → ClassId} {hp : hp_T} {d : Nat} {x : Nat} {A : Nat → Nat} {S : mo_S} (hS : mo_At ca hp x A S) {t u : Nat} (ht : t < 42) (hu : u < 42) : ma_V l D ca ma_T M_Model_clash (d + 1) 0 0 hp (ma_qi (ma_eq (bI (md_clash S t u)) hp)) 0 (lv_args 0 [.ref x, .int (nI t), .int (nI u)]) [] := by
  change ma_V l D ca ma_T M_Model_clash (d + 1) 0 0 hp (ma_qi (ma_eq (bI (md_clash S t u)) hp)) 0 [(0, .ref x), (1, .int (nI t)), (2, .int (nI u))] []
  refine rv_iconst (v := nI 0) d_Model_clash_0 (by decide) ?_
  refine rv_istore_n (lv' := [(3, .int (nI 0)), (0, .ref x), (1, .int (nI t)), (2, .int (nI u))]) d_Model_clash_1 rfl (by decide) rfl ?_
  refine rv_iconst (v := nI 0) d_Model_clash_2 (by decide) ?_
  refine rv_istore (lv' := [(4, .int (nI 0)), (3, .int (nI 0)), (0, .ref x), (1, .int (nI t)), (2, .int (nI u))]) d_Model_clash_3 (by decide) rfl ?_
  exact rv_lv [0, 1, 2, 3, 4] rfl (c_Model_clash_l hS ht hu (md_sp S t) 0 false (Nat.zero_add _))
set_option maxHeartbeats 1000000 in
set_option maxRecDepth 100000 in
theorem c_Model_compare_l {l : Launch} {D : va_G} {ca : Nat → ClassId} {hp : hp_T} {d : Nat} : ∀ (m p q r s : Nat) (g : Int32), q < m → 1 ≤ q → 1 ≤ s → p < 2 ^ 62 → q < 2 ^ 62 → r < 2 ^ 62 → s < 2 ^ 62 → g = nI 1 ∨ g = -1 → ma_V l D ca ma_T M_Model_compare d 0 0 hp (ma_qi (ma_eq (g * md_cm p q r s) hp)) 17 [(16, .int g), (14, .long (lN s)), (12, .long (lN r)), (10, .long (lN q)), (8, .long (lN p))] [] := by
  intro m
  induction m with
  | zero =>
    intro p q r s g hm
    omega
  | succ m ih =>
    intro p q r s g hm hq hs bp bq br bs hg
    have zq : ¬ lN q = 0 := fun z => by have := (pk_lEQ (b := 0) (by omega) (by decide)).mp z; omega
    have zs : ¬ lN s = 0 := fun z => by have := (pk_lEQ (b := 0) (by omega) (by decide)).mp z; omega
    have dq : p / q ≤ p := Nat.div_le_self _ _
    have ds : r / s ≤ r := Nat.div_le_self _ _
    have mq := Nat.mod_lt p (show q > 0 by omega)
    have ms := Nat.mod_lt r (show s > 0 by omega)
    refine rv_lload d_Model_compare_17 4 rfl ?_
    refine rv_lload d_Model_compare_19 3 rfl ?_
    refine rv_ldiv d_Model_compare_21 zq ?_
    refine rv_eql (y := lN (p / q)) (pk_lDiv (by omega) (by omega) (by omega)) ?_
    refine rv_lload d_Model_compare_22 2 rfl ?_
    refine rv_lload d_Model_compare_24 1 rfl ?_
    refine rv_ldiv d_Model_compare_26 zs ?_
    refine rv_eql (y := lN (r / s)) (pk_lDiv (by omega) (by omega) (by omega)) ?_
    refine rv_lcmp d_Model_compare_27 ?_
    refine rv_if_ne (tgt := 111) d_Model_compare_28 (by decide) (fun c_28 => ?_) (fun c_28 => ?_)
    · have h1 : ¬ p / q = r / s := fun z => c_28 (lc_0.mpr (by rw [z]))
      refine rv_lload d_Model_compare_111 4 rfl ?_
      refine rv_lload d_Model_compare_113 3 rfl ?_
      refine rv_ldiv d_Model_compare_115 zq ?_
      refine rv_eql (y := lN (p / q)) (pk_lDiv (by omega) (by omega) (by omega)) ?_
      refine rv_lload d_Model_compare_116 2 rfl ?_
      refine rv_lload d_Model_compare_118 1 rfl ?_
      refine rv_ldiv d_Model_compare_120 zs ?_
      refine rv_eql (y := lN (r / s)) (pk_lDiv (by omega) (by omega) (by omega)) ?_
      refine rv_lcmp d_Model_compare_121 ?_
      refine rv_if_ge (tgt := 131) d_Model_compare_122 (by decide) (fun c_122 => ?_) (fun c_122 => ?_)
      · have h2 : r / s ≤ p / q := (pk_lLE (by omega) (by omega)).mp ((lg_cmp_ge _ _).mp c_122)
        have e : md_cm p q r s = nI 1 := cq_gt (cq_div_lt hq (by omega) hs)
        refine rv_iload d_Model_compare_131 0 rfl ?_
        exact rv_ireturn ⟨_, rfl, by rw [e]; rcases hg with z | z <;> rw [z] <;> decide, rfl⟩ d_Model_compare_133 rfl rfl
      · have h2 : p / q < r / s := (pk_lLT (by omega) (by omega)).mp (Int64.not_le.mp (fun z => c_122 ((lg_cmp_ge _ _).mpr z)))
        have e : md_cm p q r s = -1 := cq_lt (cq_div_lt hs h2 hq)
        refine rv_iload d_Model_compare_125 0 rfl ?_
        refine rv_ineg d_Model_compare_127 ?_
        refine rv_goto (tgt := 133) d_Model_compare_128 (by decide) ?_
        exact rv_ireturn ⟨_, rfl, by rw [e]; rcases hg with z | z <;> rw [z] <;> decide, rfl⟩ d_Model_compare_133 rfl rfl
    · have h1 : p / q = r / s := (pk_lEQ (by omega) (by omega)).mp (lc_0.mp c_28)
      obtain ⟨K, k1, k2⟩ := cq_rest h1
      refine rv_lload d_Model_compare_31 4 rfl ?_
      refine rv_lload d_Model_compare_33 3 rfl ?_
      refine rv_lrem d_Model_compare_35 zq ?_
      refine rv_eql (y := lN (p % q)) (pk_lRem (by omega) (by omega) (by omega)) ?_
      refine rv_lstore (lv' := [(17, .long (lN (p % q))), (16, .int g), (14, .long (lN s)), (12, .long (lN r)), (10, .long (lN q)), (8, .long (lN p))]) d_Model_compare_36 (by decide) rfl ?_
      refine rv_lload d_Model_compare_38 3 rfl ?_
      refine rv_lload d_Model_compare_40 2 rfl ?_
      refine rv_lrem d_Model_compare_42 zs ?_
      refine rv_eql (y := lN (r % s)) (pk_lRem (by omega) (by omega) (by omega)) ?_
      refine rv_lstore (lv' := [(19, .long (lN (r % s))), (17, .long (lN (p % q))), (16, .int g), (14, .long (lN s)), (12, .long (lN r)), (10, .long (lN q)), (8, .long (lN p))]) d_Model_compare_43 (by decide) rfl ?_
      refine rv_lload d_Model_compare_45 1 rfl ?_
      refine rv_lconst (v := 0) d_Model_compare_47 (by decide) ?_
      refine rv_lcmp d_Model_compare_48 ?_
      refine rv_if_eq (tgt := 59) d_Model_compare_49 (by decide) (fun c_49 => ?_) (fun c_49 => ?_)
      · have x0 : p % q = 0 := (pk_lEQ (b := 0) (by omega) (by decide)).mp (lc_0.mp c_49)
        refine rv_lload d_Model_compare_59 1 rfl ?_
        refine rv_lload d_Model_compare_61 0 rfl ?_
        refine rv_lcmp d_Model_compare_63 ?_
        refine rv_if_ne (tgt := 71) d_Model_compare_64 (by decide) (fun c_64 => ?_) (fun c_64 => ?_)
        · have xy : ¬ p % q = r % s := fun z => c_64 (lc_0.mpr (by rw [z]))
          refine rv_lload d_Model_compare_71 1 rfl ?_
          refine rv_lconst (v := 0) d_Model_compare_73 (by decide) ?_
          refine rv_lcmp d_Model_compare_74 ?_
          refine rv_if_ne (tgt := 84) d_Model_compare_75 (by decide) (fun c_75 => ?_) (fun c_75 => ?_)
          · have z0 : ¬ p % q = 0 := fun z => c_75 (lc_0.mpr (by rw [z]; rfl))
            have z2 : r % s = 0 := by omega
            have e : md_cm p q r s = nI 1 := cq_gt (by rw [k1, k2, z2, Nat.zero_mul]; have := Nat.mul_pos (show 0 < p % q by omega) (show 0 < s by omega); omega)
            refine rv_iload d_Model_compare_84 2 rfl ?_
            exact rv_ireturn ⟨_, rfl, by rw [e]; rcases hg with z | z <;> rw [z] <;> decide, rfl⟩ d_Model_compare_86 rfl rfl
          · have z0 : p % q = 0 := (pk_lEQ (b := 0) (by omega) (by decide)).mp (lc_0.mp c_75)
            have e : md_cm p q r s = -1 := cq_lt (by rw [k1, k2, z0, Nat.zero_mul]; have := Nat.mul_pos (show 0 < r % s by omega) (show 0 < q by omega); omega)
            refine rv_iload d_Model_compare_78 2 rfl ?_
            refine rv_ineg d_Model_compare_80 ?_
            refine rv_goto (tgt := 86) d_Model_compare_81 (by decide) ?_
            exact rv_ireturn ⟨_, rfl, by rw [e]; rcases hg with z | z <;> rw [z] <;> decide, rfl⟩ d_Model_compare_86 rfl rfl
        · have xy : p % q = r % s := (pk_lEQ (by omega) (by omega)).mp (lc_0.mp c_64)
          have e : md_cm p q r s = nI 0 := cq_eq (by rw [k1, k2, show p % q = 0 by omega, show r % s = 0 by omega, Nat.zero_mul, Nat.zero_mul])
          refine rv_iconst (v := nI 0) d_Model_compare_67 (by decide) ?_
          refine rv_goto (tgt := 86) d_Model_compare_68 (by decide) ?_
          exact rv_ireturn ⟨_, rfl, by rw [e]; rcases hg with z | z <;> rw [z] <;> decide, rfl⟩ d_Model_compare_86 rfl rfl
      · have x1 : ¬ p % q = 0 := fun z => c_49 (lc_0.mpr (by rw [z]; rfl))
        refine rv_lload d_Model_compare_52 0 rfl ?_
        refine rv_lconst (v := 0) d_Model_compare_54 (by decide) ?_
        refine rv_lcmp d_Model_compare_55 ?_
        refine rv_if_ne (tgt := 87) d_Model_compare_56 (by decide) (fun c_56 => ?_) (fun c_56 => ?_)
        · have y1 : ¬ r % s = 0 := fun z => c_56 (lc_0.mpr (by rw [z]; rfl))
          refine rv_lload d_Model_compare_87 5 rfl ?_
          refine rv_lstore (lv' := [(8, .long (lN q)), (19, .long (lN (r % s))), (17, .long (lN (p % q))), (16, .int g), (14, .long (lN s)), (12, .long (lN r)), (10, .long (lN q))]) d_Model_compare_89 (by decide) rfl ?_
          refine rv_lload d_Model_compare_91 2 rfl ?_
          refine rv_lstore (lv' := [(10, .long (lN (p % q))), (8, .long (lN q)), (19, .long (lN (r % s))), (17, .long (lN (p % q))), (16, .int g), (14, .long (lN s)), (12, .long (lN r))]) d_Model_compare_93 (by decide) rfl ?_
          refine rv_lload d_Model_compare_95 5 rfl ?_
          refine rv_lstore (lv' := [(12, .long (lN s)), (10, .long (lN (p % q))), (8, .long (lN q)), (19, .long (lN (r % s))), (17, .long (lN (p % q))), (16, .int g), (14, .long (lN s))]) d_Model_compare_97 (by decide) rfl ?_
          refine rv_lload d_Model_compare_99 3 rfl ?_
          refine rv_lstore (lv' := [(14, .long (lN (r % s))), (12, .long (lN s)), (10, .long (lN (p % q))), (8, .long (lN q)), (19, .long (lN (r % s))), (17, .long (lN (p % q))), (16, .int g)]) d_Model_compare_101 (by decide) rfl ?_
          refine rv_iload d_Model_compare_103 6 rfl ?_
          refine rv_ineg d_Model_compare_105 ?_
          refine rv_istore (lv' := [(16, .int (-g)), (14, .long (lN (r % s))), (12, .long (lN s)), (10, .long (lN (p % q))), (8, .long (lN q)), (19, .long (lN (r % s))), (17, .long (lN (p % q)))]) d_Model_compare_106 (by decide) rfl ?_
          refine rv_goto (tgt := 17) d_Model_compare_108 (by decide) ?_
          have e : g * md_cm p q r s = -g * md_cm q (p % q) s (r % s) := by rw [cq_turn h1, Int32.mul_neg, Int32.neg_mul]
          rw [e]
          exact rv_lv [0, 1, 2, 3, 4] rfl (ih q (p % q) s (r % s) (-g) (by omega) (by omega) (by omega) bq (by omega) bs (by omega) (by rcases hg with z | z <;> rw [z] <;> decide))
        · have y0 : r % s = 0 := (pk_lEQ (b := 0) (by omega) (by decide)).mp (lc_0.mp c_56)
          refine rv_lload d_Model_compare_59 1 rfl ?_
          refine rv_lload d_Model_compare_61 0 rfl ?_
          refine rv_lcmp d_Model_compare_63 ?_
          refine rv_if_ne (tgt := 71) d_Model_compare_64 (by decide) (fun c_64 => ?_) (fun c_64 => ?_)
          · have xy : ¬ p % q = r % s := fun z => c_64 (lc_0.mpr (by rw [z]))
            refine rv_lload d_Model_compare_71 1 rfl ?_
            refine rv_lconst (v := 0) d_Model_compare_73 (by decide) ?_
            refine rv_lcmp d_Model_compare_74 ?_
            refine rv_if_ne (tgt := 84) d_Model_compare_75 (by decide) (fun c_75 => ?_) (fun c_75 => ?_)
            · have z0 : ¬ p % q = 0 := fun z => c_75 (lc_0.mpr (by rw [z]; rfl))
              have z2 : r % s = 0 := by omega
              have e : md_cm p q r s = nI 1 := cq_gt (by rw [k1, k2, z2, Nat.zero_mul]; have := Nat.mul_pos (show 0 < p % q by omega) (show 0 < s by omega); omega)
              refine rv_iload d_Model_compare_84 2 rfl ?_
              exact rv_ireturn ⟨_, rfl, by rw [e]; rcases hg with z | z <;> rw [z] <;> decide, rfl⟩ d_Model_compare_86 rfl rfl
            · have z0 : p % q = 0 := (pk_lEQ (b := 0) (by omega) (by decide)).mp (lc_0.mp c_75)
              have e : md_cm p q r s = -1 := cq_lt (by rw [k1, k2, z0, Nat.zero_mul]; have := Nat.mul_pos (show 0 < r % s by omega) (show 0 < q by omega); omega)
              refine rv_iload d_Model_compare_78 2 rfl ?_
              refine rv_ineg d_Model_compare_80 ?_
              refine rv_goto (tgt := 86) d_Model_compare_81 (by decide) ?_
              exact rv_ireturn ⟨_, rfl, by rw [e]; rcases hg with z | z <;> rw [z] <;> decide, rfl⟩ d_Model_compare_86 rfl rfl
          · have xy : p % q = r % s := (pk_lEQ (by omega) (by omega)).mp (lc_0.mp c_64)
            have e : md_cm p q r s = nI 0 := cq_eq (by rw [k1, k2, show p % q = 0 by omega, show r % s = 0 by omega, Nat.zero_mul, Nat.zero_mul])
            refine rv_iconst (v := nI 0) d_Model_compare_67 (by decide) ?_
            refine rv_goto (tgt := 86) d_Model_compare_68 (by decide) ?_
            exact rv_ireturn ⟨_, rfl, by rw [e]; rcases hg with z | z <;> rw [z] <;> decide, rfl⟩ d_Model_compare_86 rfl rfl
set_option maxHeartbeats 1000000 in
set_option maxRecDepth 100000 in
theorem c_Model_compare {l : Launch} {D : va_G} {ca : Nat → ClassId} {hp : hp_T} {d : Nat} {p q r s : Nat} (hq : 1 ≤ q) (hs : 1 ≤ s) (bp : p < 2 ^ 62) (bq : q < 2 ^ 62) (br : r < 2 ^ 62) (bs : s < 2 ^ 62) : ma_V l D ca ma_T M_Model_compare d 0 0 hp (ma_qi (ma_eq (md_cm p q r s) hp)) 0 (lv_args 0 [.long (lN p), .long (lN q), .long (lN r), .long (lN s)]) [] := by
  change ma_V l D ca ma_T M_Model_compare d 0 0 hp (ma_qi (ma_eq (md_cm p q r s) hp)) 0 [(0, .long (lN p)), (2, .long (lN q)), (4, .long (lN r)), (6, .long (lN s))] []
  refine rv_lload_n d_Model_compare_0 rfl 0 rfl ?_
  refine rv_lstore (lv' := [(8, .long (lN p)), (0, .long (lN p)), (2, .long (lN q)), (4, .long (lN r)), (6, .long (lN s))]) d_Model_compare_1 (by decide) rfl ?_
  refine rv_lload_n d_Model_compare_3 rfl 2 rfl ?_
  refine rv_lstore (lv' := [(10, .long (lN q)), (8, .long (lN p)), (0, .long (lN p)), (2, .long (lN q)), (4, .long (lN r)), (6, .long (lN s))]) d_Model_compare_4 (by decide) rfl ?_
  refine rv_lload d_Model_compare_6 4 rfl ?_
  refine rv_lstore (lv' := [(12, .long (lN r)), (10, .long (lN q)), (8, .long (lN p)), (0, .long (lN p)), (2, .long (lN q)), (4, .long (lN r)), (6, .long (lN s))]) d_Model_compare_8 (by decide) rfl ?_
  refine rv_lload d_Model_compare_10 6 rfl ?_
  refine rv_lstore (lv' := [(14, .long (lN s)), (12, .long (lN r)), (10, .long (lN q)), (8, .long (lN p)), (0, .long (lN p)), (2, .long (lN q)), (4, .long (lN r)), (6, .long (lN s))]) d_Model_compare_12 (by decide) rfl ?_
  refine rv_iconst (v := nI 1) d_Model_compare_14 (by decide) ?_
  refine rv_istore (lv' := [(16, .int (nI 1)), (14, .long (lN s)), (12, .long (lN r)), (10, .long (lN q)), (8, .long (lN p)), (0, .long (lN p)), (2, .long (lN q)), (4, .long (lN r)), (6, .long (lN s))]) d_Model_compare_15 (by decide) rfl ?_
  have z := c_Model_compare_l (l := l) (D := D) (ca := ca) (hp := hp) (d := d) (q + 1) p q r s (nI 1) (by omega) hq hs bp bq br bs (Or.inl rfl)
  rw [show nI 1 * md_cm p q r s = md_cm p q r s from Int32.one_mul _] at z
  exact rv_lv [0, 1, 2, 3, 4] rfl z
set_option maxHeartbeats 1000000 in
set_option maxRecDepth 100000 in
theorem c_Model_copy_0 {l : Launch} {D : va_G} {ca : Nat → ClassId} {d : Nat} {x : Nat} {A : Nat → Nat} {S : mo_S} {hp0 : hp_T} {Q : Option Value → hp_T → Prop} (hA : pi_inj A 13) {a b : Nat} (ha : a < 42) (hb : b < 42) : ∀ (m i : Nat) (hp : hp_T) (f : Nat → Int64), i + m = 4 → mo_At ca hp x A (mo_setL S 0 f) → mo_out x A hp0 hp → (∀ hp1 : hp_T, mo_At ca hp1 x A (mo_setL S 0 (lp_fold (fun i f => vp_updL f (4 * b + i) (f (4 * a + i))) m i f)) → mo_out x A hp0 hp1 → ma_V l D ca ma_T M_Model_copy d 0 0 hp1 Q 33 [(3, .int (nI 4)), (0, .ref x), (1, .int (nI a)), (2, .int (nI b))] []) → ma_V l D ca ma_T M_Model_copy d 0 0 hp Q 2 [(3, .int (nI i)), (0, .ref x), (1, .int (nI a)), (2, .int (nI b))] [] := by
  intro m
  induction m with
  | zero =>
    intro i hp f hi hS ho K
    obtain rfl : i = 4 := by omega
    have hA0 : hp (A 0) = some (.inl (ca 1, 168, .inr (.inl f))) := hS.2.1 0 (by decide)
    refine rv_iload_n d_Model_copy_2 rfl 0 rfl ?_
    refine rv_iconst (v := nI 4) d_Model_copy_3 (by decide) ?_
    refine rv_icmp_ge (tgt := 33) d_Model_copy_4 (by decide) (fun c_4 => ?_) (fun c_4 => ?_)
    · exact K hp hS ho
    · exact absurd (nI_le (by omega) (by omega)) c_4
  | succ m ih =>
    intro i hp f hi hS ho K
    have hA0 : hp (A 0) = some (.inl (ca 1, 168, .inr (.inl f))) := hS.2.1 0 (by decide)
    refine rv_iload_n d_Model_copy_2 rfl 0 rfl ?_
    refine rv_iconst (v := nI 4) d_Model_copy_3 (by decide) ?_
    refine rv_icmp_ge (tgt := 33) d_Model_copy_4 (by decide) (fun c_4 => ?_) (fun c_4 => ?_)
    · exact absurd c_4 (nI_ge (by omega) (by omega))
    · refine rv_aload_n d_Model_copy_7 rfl 1 rfl ?_
      refine rv_get ka_Model hS.1 rfl 1 (by decide) (wi_Model_copy _ (List.mem_of_getElem? (i := 0) rfl)) rfl d_Model_copy_8 ?_
      refine rv_iconst (v := nI 4) d_Model_copy_11 (by decide) ?_
      refine rv_iload_n d_Model_copy_12 rfl 3 rfl ?_
      refine rv_imul d_Model_copy_13 ?_
      refine rv_eqi (pk_mul _ _) ?_
      refine rv_iload_n d_Model_copy_14 rfl 0 rfl ?_
      refine rv_iadd d_Model_copy_15 ?_
      refine rv_eqi (nI_add _ _) ?_
      refine rv_aload_n d_Model_copy_16 rfl 1 rfl ?_
      refine rv_get ka_Model hS.1 rfl 1 (by decide) (wi_Model_copy _ (List.mem_of_getElem? (i := 0) rfl)) rfl d_Model_copy_17 ?_
      refine rv_iconst (v := nI 4) d_Model_copy_20 (by decide) ?_
      refine rv_iload_n d_Model_copy_21 rfl 2 rfl ?_
      refine rv_imul d_Model_copy_22 ?_
      refine rv_eqi (pk_mul _ _) ?_
      refine rv_iload_n d_Model_copy_23 rfl 0 rfl ?_
      refine rv_iadd d_Model_copy_24 ?_
      refine rv_eqi (nI_add _ _) ?_
      refine rv_lald hA0 1 rfl (by omega) (by decide) d_Model_copy_25 ?_
      refine rv_last hA0 1 rfl (by omega) (by decide) d_Model_copy_26
        (fun hp80 ehp80 => ?_)
      refine rv_iinc (k := 0) (v := nI (i + 1)) (lv' := [(3, .int (nI (i + 1))), (0, .ref x), (1, .int (nI a)), (2, .int (nI b))]) d_Model_copy_27 rfl (nI_1 _) (by decide) rfl ?_
      refine rv_goto (tgt := 2) d_Model_copy_30 (by decide) ?_
      have hS2 := mo_putL hS hA (j := 0) (f := (fun i f => vp_updL f (4 * b + i) (f (4 * a + i))) i f) (by decide) rfl (mo_okL hS.2.2)
      rw [mo_setLL] at hS2
      have eh : hp80 = hp_up hp (A 0) (mo_cell ca (mo_setL S 0 ((fun i f => vp_updL f (4 * b + i) (f (4 * a + i))) i f)) 0) := ehp80
      rw [← eh] at hS2
      exact rv_lv [0, 1, 2, 3] rfl (ih (i + 1) hp80 _ (by omega) hS2 (by rw [eh]; exact mo_out_tr ho (mo_out_a (by decide))) K)
set_option maxHeartbeats 1000000 in
set_option maxRecDepth 100000 in
theorem c_Model_copy_1 {l : Launch} {D : va_G} {ca : Nat → ClassId} {d : Nat} {x : Nat} {A : Nat → Nat} {S : mo_S} {hp0 : hp_T} {Q : Option Value → hp_T → Prop} (hA : pi_inj A 13) {a b : Nat} (ha : a < 42) (hb : b < 42) : ∀ (m i : Nat) (hp : hp_T) (f : Nat → Int64), i + m = 32 → mo_At ca hp x A (mo_setL S 2 f) → mo_out x A hp0 hp → (∀ hp1 : hp_T, mo_At ca hp1 x A (mo_setL S 2 (lp_fold (fun i f => vp_updL f (32 * b + i) (f (32 * a + i))) m i f)) → mo_out x A hp0 hp1 → ma_V l D ca ma_T M_Model_copy d 0 0 hp1 Q 69 [(3, .int (nI 32)), (0, .ref x), (1, .int (nI a)), (2, .int (nI b))] []) → ma_V l D ca ma_T M_Model_copy d 0 0 hp Q 35 [(3, .int (nI i)), (0, .ref x), (1, .int (nI a)), (2, .int (nI b))] [] := by
  intro m
  induction m with
  | zero =>
    intro i hp f hi hS ho K
    obtain rfl : i = 32 := by omega
    have hA2 : hp (A 2) = some (.inl (ca 1, 1344, .inr (.inl f))) := hS.2.1 2 (by decide)
    refine rv_iload_n d_Model_copy_35 rfl 0 rfl ?_
    refine rv_bipush (v := nI 32) d_Model_copy_36 (by decide) ?_
    refine rv_icmp_ge (tgt := 69) d_Model_copy_38 (by decide) (fun c_38 => ?_) (fun c_38 => ?_)
    · exact K hp hS ho
    · exact absurd (nI_le (by omega) (by omega)) c_38
  | succ m ih =>
    intro i hp f hi hS ho K
    have hA2 : hp (A 2) = some (.inl (ca 1, 1344, .inr (.inl f))) := hS.2.1 2 (by decide)
    refine rv_iload_n d_Model_copy_35 rfl 0 rfl ?_
    refine rv_bipush (v := nI 32) d_Model_copy_36 (by decide) ?_
    refine rv_icmp_ge (tgt := 69) d_Model_copy_38 (by decide) (fun c_38 => ?_) (fun c_38 => ?_)
    · exact absurd c_38 (nI_ge (by omega) (by omega))
    · refine rv_aload_n d_Model_copy_41 rfl 1 rfl ?_
      refine rv_get ka_Model hS.1 rfl 3 (by decide) (wi_Model_copy _ (List.mem_of_getElem? (i := 1) rfl)) rfl d_Model_copy_42 ?_
      refine rv_bipush (v := nI 32) d_Model_copy_45 (by decide) ?_
      refine rv_iload_n d_Model_copy_47 rfl 3 rfl ?_
      refine rv_imul d_Model_copy_48 ?_
      refine rv_eqi (pk_mul _ _) ?_
      refine rv_iload_n d_Model_copy_49 rfl 0 rfl ?_
      refine rv_iadd d_Model_copy_50 ?_
      refine rv_eqi (nI_add _ _) ?_
      refine rv_aload_n d_Model_copy_51 rfl 1 rfl ?_
      refine rv_get ka_Model hS.1 rfl 3 (by decide) (wi_Model_copy _ (List.mem_of_getElem? (i := 1) rfl)) rfl d_Model_copy_52 ?_
      refine rv_bipush (v := nI 32) d_Model_copy_55 (by decide) ?_
      refine rv_iload_n d_Model_copy_57 rfl 2 rfl ?_
      refine rv_imul d_Model_copy_58 ?_
      refine rv_eqi (pk_mul _ _) ?_
      refine rv_iload_n d_Model_copy_59 rfl 0 rfl ?_
      refine rv_iadd d_Model_copy_60 ?_
      refine rv_eqi (nI_add _ _) ?_
      refine rv_lald hA2 1 rfl (by omega) (by decide) d_Model_copy_61 ?_
      refine rv_last hA2 1 rfl (by omega) (by decide) d_Model_copy_62
        (fun hp81 ehp81 => ?_)
      refine rv_iinc (k := 0) (v := nI (i + 1)) (lv' := [(3, .int (nI (i + 1))), (0, .ref x), (1, .int (nI a)), (2, .int (nI b))]) d_Model_copy_63 rfl (nI_1 _) (by decide) rfl ?_
      refine rv_goto (tgt := 35) d_Model_copy_66 (by decide) ?_
      have hS2 := mo_putL hS hA (j := 2) (f := (fun i f => vp_updL f (32 * b + i) (f (32 * a + i))) i f) (by decide) rfl (mo_okL hS.2.2)
      rw [mo_setLL] at hS2
      have eh : hp81 = hp_up hp (A 2) (mo_cell ca (mo_setL S 2 ((fun i f => vp_updL f (32 * b + i) (f (32 * a + i))) i f)) 2) := ehp81
      rw [← eh] at hS2
      exact rv_lv [0, 1, 2, 3] rfl (ih (i + 1) hp81 _ (by omega) hS2 (by rw [eh]; exact mo_out_tr ho (mo_out_a (by decide))) K)
set_option maxHeartbeats 1000000 in
set_option maxRecDepth 100000 in
theorem c_Model_copy_2 {l : Launch} {D : va_G} {ca : Nat → ClassId} {d : Nat} {x : Nat} {A : Nat → Nat} {S : mo_S} {hp0 : hp_T} {Q : Option Value → hp_T → Prop} (hA : pi_inj A 13) {a b : Nat} (ha : a < 42) (hb : b < 42) : ∀ (m i : Nat) (hp : hp_T) (f : Nat → Int32), i + m = 8 → mo_At ca hp x A (mo_setI S 3 f) → mo_out x A hp0 hp → (∀ hp1 : hp_T, mo_At ca hp1 x A (mo_setI S 3 (lp_fold (fun i f => upd f (8 * b + i) (f (8 * a + i))) m i f)) → mo_out x A hp0 hp1 → ma_V l D ca ma_T M_Model_copy d 0 0 hp1 Q 105 [(3, .int (nI 8)), (0, .ref x), (1, .int (nI a)), (2, .int (nI b))] []) → ma_V l D ca ma_T M_Model_copy d 0 0 hp Q 71 [(3, .int (nI i)), (0, .ref x), (1, .int (nI a)), (2, .int (nI b))] [] := by
  intro m
  induction m with
  | zero =>
    intro i hp f hi hS ho K
    obtain rfl : i = 8 := by omega
    have hA3 : hp (A 3) = some (.inl (ca 0, 336, .inl f)) := hS.2.1 3 (by decide)
    refine rv_iload_n d_Model_copy_71 rfl 0 rfl ?_
    refine rv_bipush (v := nI 8) d_Model_copy_72 (by decide) ?_
    refine rv_icmp_ge (tgt := 105) d_Model_copy_74 (by decide) (fun c_74 => ?_) (fun c_74 => ?_)
    · exact K hp hS ho
    · exact absurd (nI_le (by omega) (by omega)) c_74
  | succ m ih =>
    intro i hp f hi hS ho K
    have hA3 : hp (A 3) = some (.inl (ca 0, 336, .inl f)) := hS.2.1 3 (by decide)
    refine rv_iload_n d_Model_copy_71 rfl 0 rfl ?_
    refine rv_bipush (v := nI 8) d_Model_copy_72 (by decide) ?_
    refine rv_icmp_ge (tgt := 105) d_Model_copy_74 (by decide) (fun c_74 => ?_) (fun c_74 => ?_)
    · exact absurd c_74 (nI_ge (by omega) (by omega))
    · refine rv_aload_n d_Model_copy_77 rfl 1 rfl ?_
      refine rv_get ka_Model hS.1 rfl 4 (by decide) (wi_Model_copy _ (List.mem_of_getElem? (i := 2) rfl)) rfl d_Model_copy_78 ?_
      refine rv_bipush (v := nI 8) d_Model_copy_81 (by decide) ?_
      refine rv_iload_n d_Model_copy_83 rfl 3 rfl ?_
      refine rv_imul d_Model_copy_84 ?_
      refine rv_eqi (pk_mul _ _) ?_
      refine rv_iload_n d_Model_copy_85 rfl 0 rfl ?_
      refine rv_iadd d_Model_copy_86 ?_
      refine rv_eqi (nI_add _ _) ?_
      refine rv_aload_n d_Model_copy_87 rfl 1 rfl ?_
      refine rv_get ka_Model hS.1 rfl 4 (by decide) (wi_Model_copy _ (List.mem_of_getElem? (i := 2) rfl)) rfl d_Model_copy_88 ?_
      refine rv_bipush (v := nI 8) d_Model_copy_91 (by decide) ?_
      refine rv_iload_n d_Model_copy_93 rfl 2 rfl ?_
      refine rv_imul d_Model_copy_94 ?_
      refine rv_eqi (pk_mul _ _) ?_
      refine rv_iload_n d_Model_copy_95 rfl 0 rfl ?_
      refine rv_iadd d_Model_copy_96 ?_
      refine rv_eqi (nI_add _ _) ?_
      refine rv_iald hA3 0 rfl (by omega) (by decide) d_Model_copy_97 ?_
      refine rv_iast hA3 0 rfl (by omega) (by decide) d_Model_copy_98
        (fun hp82 ehp82 => ?_)
      refine rv_iinc (k := 0) (v := nI (i + 1)) (lv' := [(3, .int (nI (i + 1))), (0, .ref x), (1, .int (nI a)), (2, .int (nI b))]) d_Model_copy_99 rfl (nI_1 _) (by decide) rfl ?_
      refine rv_goto (tgt := 71) d_Model_copy_102 (by decide) ?_
      have hS2 := mo_putI hS hA (j := 3) (f := (fun i f => upd f (8 * b + i) (f (8 * a + i))) i f) (by decide) rfl (mo_okI hS.2.2 (by decide) (by decide))
      rw [mo_setII] at hS2
      have eh : hp82 = hp_up hp (A 3) (mo_cell ca (mo_setI S 3 ((fun i f => upd f (8 * b + i) (f (8 * a + i))) i f)) 3) := ehp82
      rw [← eh] at hS2
      exact rv_lv [0, 1, 2, 3] rfl (ih (i + 1) hp82 _ (by omega) hS2 (by rw [eh]; exact mo_out_tr ho (mo_out_a (by decide))) K)
set_option maxHeartbeats 1000000 in
set_option maxRecDepth 100000 in
theorem c_Model_copy {l : Launch} {D : va_G} {ca : Nat → ClassId} {hp : hp_T} {d : Nat} {x : Nat} {A : Nat → Nat} {S : mo_S} (hS : mo_At ca hp x A S) (hA : pi_inj A 13) {a b : Nat} (ha : a < 42) (hb : b < 42) : ma_V l D ca ma_T M_Model_copy d 0 0 hp (ma_qv (fun hp1 => mo_At ca hp1 x A (md_copy S a b) ∧ mo_out x A hp hp1)) 0 (lv_args 0 [.ref x, .int (nI a), .int (nI b)]) [] := by
  change ma_V l D ca ma_T M_Model_copy d 0 0 hp (ma_qv (fun hp1 => mo_At ca hp1 x A (md_copy S a b) ∧ mo_out x A hp hp1)) 0 [(0, .ref x), (1, .int (nI a)), (2, .int (nI b))] []
  refine rv_iconst (v := nI 0) d_Model_copy_0 (by decide) ?_
  refine rv_istore_n (lv' := [(3, .int (nI 0)), (0, .ref x), (1, .int (nI a)), (2, .int (nI b))]) d_Model_copy_1 rfl (by decide) rfl ?_
  refine rv_lv [0, 1, 2, 3] rfl (c_Model_copy_0 hA ha hb 4 0 hp (mo_l S 0) (Nat.zero_add _) (by rw [mo_setL_id]; exact hS) mo_out_rf (fun hp1 hS1 ho1 => ?_))
  refine rv_iconst (v := nI 0) d_Model_copy_33 (by decide) ?_
  refine rv_istore_n (lv' := [(3, .int (nI 0)), (0, .ref x), (1, .int (nI a)), (2, .int (nI b))]) d_Model_copy_34 rfl (by decide) rfl ?_
  refine rv_lv [0, 1, 2, 3] rfl (c_Model_copy_1 (S := md_cp1 S a b) hA ha hb 32 0 hp1 (mo_l (md_cp1 S a b) 2) (Nat.zero_add _) (by rw [mo_setL_id]; exact hS1) ho1 (fun hp2 hS2 ho2 => ?_))
  refine rv_iconst (v := nI 0) d_Model_copy_69 (by decide) ?_
  refine rv_istore_n (lv' := [(3, .int (nI 0)), (0, .ref x), (1, .int (nI a)), (2, .int (nI b))]) d_Model_copy_70 rfl (by decide) rfl ?_
  refine rv_lv [0, 1, 2, 3] rfl (c_Model_copy_2 (S := md_cp2 S a b) hA ha hb 8 0 hp2 (mo_i (md_cp2 S a b) 3) (Nat.zero_add _) (by rw [mo_setI_id]; exact hS2) ho2 (fun hp3 hS3 ho3 => ?_))
  change mo_At ca hp3 x A (md_cp3 S a b) at hS3
  have hsp := hS3.2.2.1
  have hA1 : hp3 (A 1) = some (.inl (ca 0, 42, .inl (mo_i (md_cp3 S a b) 1))) := hS3.2.1 1 (by decide)
  refine rv_aload_n d_Model_copy_105 rfl 1 rfl ?_
  refine rv_get ka_Model hS3.1 rfl 2 (by decide) (wi_Model_copy _ (List.mem_of_getElem? (i := 3) rfl)) rfl d_Model_copy_106 ?_
  refine rv_iload_n d_Model_copy_109 rfl 3 rfl ?_
  refine rv_aload_n d_Model_copy_110 rfl 1 rfl ?_
  refine rv_get ka_Model hS3.1 rfl 2 (by decide) (wi_Model_copy _ (List.mem_of_getElem? (i := 3) rfl)) rfl d_Model_copy_111 ?_
  refine rv_iload_n d_Model_copy_114 rfl 2 rfl ?_
  refine rv_iald hA1 0 rfl (by omega) (by decide) d_Model_copy_115 ?_
  refine rv_eqi (y := nI (md_sp (md_cp3 S a b) a)) ((hsp a (by omega)).1) ?_
  refine rv_iast hA1 0 rfl (by omega) (by decide) d_Model_copy_116
    (fun hp83 ehp83 => ?_)
  have hS4 : mo_At ca hp83 x A (md_cp4 S a b) := by rw [ehp83]; exact mo_putI hS3 hA (j := 1) (by decide) rfl (mo_okS hS3.2.2 (hsp a ha).2)
  have ho4 : mo_out x A hp hp83 := by rw [ehp83]; exact mo_out_tr ho3 (mo_out_a (j := 1) (by decide))
  have hA4 : hp83 (A 4) = some (.inl (ca 1, 42, .inr (.inl (mo_l (md_cp4 S a b) 4)))) := hS4.2.1 4 (by decide)
  refine rv_aload_n d_Model_copy_117 rfl 1 rfl ?_
  refine rv_get ka_Model hS4.1 rfl 5 (by decide) (wi_Model_copy _ (List.mem_of_getElem? (i := 4) rfl)) rfl d_Model_copy_118 ?_
  refine rv_iload_n d_Model_copy_121 rfl 3 rfl ?_
  refine rv_aload_n d_Model_copy_122 rfl 1 rfl ?_
  refine rv_get ka_Model hS4.1 rfl 5 (by decide) (wi_Model_copy _ (List.mem_of_getElem? (i := 4) rfl)) rfl d_Model_copy_123 ?_
  refine rv_iload_n d_Model_copy_126 rfl 2 rfl ?_
  refine rv_lald hA4 1 rfl (by omega) (by decide) d_Model_copy_127 ?_
  refine rv_last hA4 1 rfl (by omega) (by decide) d_Model_copy_128
    (fun hp84 ehp84 => ?_)
  have hS5 : mo_At ca hp84 x A (md_cp5 S a b) := by rw [ehp84]; exact mo_putL hS4 hA (j := 4) (by decide) rfl (mo_okL hS4.2.2)
  have ho5 : mo_out x A hp hp84 := by rw [ehp84]; exact mo_out_tr ho4 (mo_out_a (j := 4) (by decide))
  have hA5 : hp84 (A 5) = some (.inl (ca 0, 42, .inl (mo_i (md_cp5 S a b) 5))) := hS5.2.1 5 (by decide)
  refine rv_aload_n d_Model_copy_129 rfl 1 rfl ?_
  refine rv_get ka_Model hS5.1 rfl 6 (by decide) (wi_Model_copy _ (List.mem_of_getElem? (i := 5) rfl)) rfl d_Model_copy_130 ?_
  refine rv_iload_n d_Model_copy_133 rfl 3 rfl ?_
  refine rv_aload_n d_Model_copy_134 rfl 1 rfl ?_
  refine rv_get ka_Model hS5.1 rfl 6 (by decide) (wi_Model_copy _ (List.mem_of_getElem? (i := 5) rfl)) rfl d_Model_copy_135 ?_
  refine rv_iload_n d_Model_copy_138 rfl 2 rfl ?_
  refine rv_iald hA5 0 rfl (by omega) (by decide) d_Model_copy_139 ?_
  refine rv_iast hA5 0 rfl (by omega) (by decide) d_Model_copy_140
    (fun hp85 ehp85 => ?_)
  have hS6 : mo_At ca hp85 x A (md_cp6 S a b) := by rw [ehp85]; exact mo_putI hS5 hA (j := 5) (by decide) rfl (mo_okI hS5.2.2 (by decide) (by decide))
  have ho6 : mo_out x A hp hp85 := by rw [ehp85]; exact mo_out_tr ho5 (mo_out_a (j := 5) (by decide))
  have hA6 : hp85 (A 6) = some (.inl (ca 0, 42, .inl (mo_i (md_cp6 S a b) 6))) := hS6.2.1 6 (by decide)
  refine rv_aload_n d_Model_copy_141 rfl 1 rfl ?_
  refine rv_get ka_Model hS6.1 rfl 7 (by decide) (wi_Model_copy _ (List.mem_of_getElem? (i := 6) rfl)) rfl d_Model_copy_142 ?_
  refine rv_iload_n d_Model_copy_145 rfl 3 rfl ?_
  refine rv_aload_n d_Model_copy_146 rfl 1 rfl ?_
  refine rv_get ka_Model hS6.1 rfl 7 (by decide) (wi_Model_copy _ (List.mem_of_getElem? (i := 6) rfl)) rfl d_Model_copy_147 ?_
  refine rv_iload_n d_Model_copy_150 rfl 2 rfl ?_
  refine rv_iald hA6 0 rfl (by omega) (by decide) d_Model_copy_151 ?_
  refine rv_iast hA6 0 rfl (by omega) (by decide) d_Model_copy_152
    (fun hp86 ehp86 => ?_)
  have hS7 : mo_At ca hp86 x A (md_cp7 S a b) := by rw [ehp86]; exact mo_putI hS6 hA (j := 6) (by decide) rfl (mo_okI hS6.2.2 (by decide) (by decide))
  have ho7 : mo_out x A hp hp86 := by rw [ehp86]; exact mo_out_tr ho6 (mo_out_a (j := 6) (by decide))
  have hA7 : hp86 (A 7) = some (.inl (ca 0, 42, .inl (mo_i (md_cp7 S a b) 7))) := hS7.2.1 7 (by decide)
  refine rv_aload_n d_Model_copy_153 rfl 1 rfl ?_
  refine rv_get ka_Model hS7.1 rfl 8 (by decide) (wi_Model_copy _ (List.mem_of_getElem? (i := 7) rfl)) rfl d_Model_copy_154 ?_
  refine rv_iload_n d_Model_copy_157 rfl 3 rfl ?_
  refine rv_aload_n d_Model_copy_158 rfl 1 rfl ?_
  refine rv_get ka_Model hS7.1 rfl 8 (by decide) (wi_Model_copy _ (List.mem_of_getElem? (i := 7) rfl)) rfl d_Model_copy_159 ?_
  refine rv_iload_n d_Model_copy_162 rfl 2 rfl ?_
  refine rv_iald hA7 0 rfl (by omega) (by decide) d_Model_copy_163 ?_
  refine rv_iast hA7 0 rfl (by omega) (by decide) d_Model_copy_164
    (fun hp87 ehp87 => ?_)
  have hS8 : mo_At ca hp87 x A (md_copy S a b) := by rw [ehp87]; exact mo_putI hS7 hA (j := 7) (by decide) rfl (mo_okI hS7.2.2 (by decide) (by decide))
  have ho8 : mo_out x A hp hp87 := by rw [ehp87]; exact mo_out_tr ho7 (mo_out_a (j := 7) (by decide))
  exact rv_vreturn ⟨rfl, hS8, ho8⟩ d_Model_copy_165 rfl
set_option maxHeartbeats 1000000 in
set_option maxRecDepth 100000 in
theorem c_Model_remove_l {l : Launch} {D : va_G} {ca : Nat → ClassId} {d : Nat} {x : Nat} {A : Nat → Nat} {n : Nat} {hp0 : hp_T} (hA : pi_inj A 13) (hn : n ≤ 41) : ∀ (m i : Nat) (hp : hp_T) (r : mo_S × Nat), i + m = n → r.2 ≤ i → mo_At ca hp x A r.1 → mo_out x A hp0 hp → ma_V l D ca ma_T M_Model_remove (d + 1) 0 0 hp (ma_qi (fun y hp1 => y = nI (n - (lp_fold md_rmF m i r).2) ∧ mo_At ca hp1 x A ((lp_fold md_rmF m i r).2, (lp_fold md_rmF m i r).1.2) ∧ mo_out x A hp0 hp1)) 9 [(3, .int (nI i)), (1, .int (nI r.2)), (2, .int (nI n)), (0, .ref x)] [] := by
  intro m
  induction m with
  | zero =>
    intro i hp r hi hr hS ho
    refine rv_iload_n d_Model_remove_9 rfl 0 rfl ?_
    refine rv_iload_n d_Model_remove_10 rfl 2 rfl ?_
    refine rv_icmp_ge (tgt := 39) d_Model_remove_11 (by decide) (fun c_11 => ?_) (fun c_11 => ?_)
    · refine rv_aload_n d_Model_remove_39 rfl 3 rfl ?_
      refine rv_iload_n d_Model_remove_40 rfl 1 rfl ?_
      refine rv_put (fs' := [.int (nI r.2), .ref (A 0), .ref (A 1), .ref (A 2), .ref (A 3), .ref (A 4), .ref (A 5), .ref (A 6), .ref (A 7), .int (mo_c r.1), .ref (A 8), .int (nI (mo_t r.1)), .ref (A 9), .ref (A 10), .ref (A 11), .ref (A 12), .int (nI (mo_r r.1))]) ka_Model hS.1 rfl 0 (by decide) (wi_Model_remove _ (List.mem_of_getElem? (i := 0) rfl)) rfl rfl rfl (Nat.le_of_ble_eq_true rfl) rfl d_Model_remove_41
        (fun hp88 ehp88 => ?_)
      refine rv_iload_n d_Model_remove_44 rfl 2 rfl ?_
      refine rv_iload_n d_Model_remove_45 rfl 1 rfl ?_
      refine rv_isub d_Model_remove_46 ?_
      have hS2 : mo_At ca hp88 x A (r.2, r.1.2) := by rw [ehp88]; exact mo_putX (z := r.2) (c := mo_c r.1) (t := mo_t r.1) (r := mo_r r.1) hS ⟨hS.2.2.1, hS.2.2.2.1, by show r.2 ≤ 41; omega, hS.2.2.2.2.2⟩
      exact rv_ireturn ⟨_, rfl, pk_sub (by omega), hS2, by rw [ehp88]; exact mo_out_tr ho mo_out_x⟩ d_Model_remove_47 rfl rfl
    · exact absurd (nI_le (by omega) (by omega)) c_11
  | succ m ih =>
    intro i hp r hi hr hS ho
    have hA11 : hp (A 11) = some (.inl (ca 3, 42, .inl (mo_i r.1 11))) := hS.2.1 11 (by decide)
    have hmk : ∀ u, mo_i r.1 11 u = bI (md_mk r.1 u) := fun u => congrFun hS.2.2.2.1 u
    refine rv_iload_n d_Model_remove_9 rfl 0 rfl ?_
    refine rv_iload_n d_Model_remove_10 rfl 2 rfl ?_
    refine rv_icmp_ge (tgt := 39) d_Model_remove_11 (by decide) (fun c_11 => ?_) (fun c_11 => ?_)
    · exact absurd c_11 (nI_ge (by omega) (by omega))
    · refine rv_aload_n d_Model_remove_14 rfl 3 rfl ?_
      refine rv_get ka_Model hS.1 rfl 14 (by decide) (wi_Model_remove _ (List.mem_of_getElem? (i := 1) rfl)) rfl d_Model_remove_15 ?_
      refine rv_iload_n d_Model_remove_18 rfl 0 rfl ?_
      refine rv_zald hA11 3 rfl (by omega) (by decide) d_Model_remove_19 ?_
      refine rv_eqi (y := bI (md_mk r.1 i)) (hmk i) ?_
      refine rv_if_ne (tgt := 33) d_Model_remove_20 (by decide) (fun c_20 => ?_) (fun c_20 => ?_)
      · have e : md_rmF i r = r := if_pos (bI_n.mp c_20)
        refine rv_iinc (k := 0) (v := nI (i + 1)) (lv' := [(3, .int (nI (i + 1))), (1, .int (nI r.2)), (2, .int (nI n)), (0, .ref x)]) d_Model_remove_33 rfl (nI_1 _) (by decide) rfl ?_
        refine rv_goto (tgt := 9) d_Model_remove_36 (by decide) ?_
        have z := ih (i + 1) hp r (by omega) (by omega) hS ho
        rw [← e] at z
        exact rv_lv [0, 1, 2, 3] (by rw [e]; rfl) z
      · have e : md_rmF i r = (md_copy r.1 i r.2, r.2 + 1) := if_neg (by rw [bI_0.mp c_20]; exact Bool.false_ne_true)
        refine rv_aload_n d_Model_remove_23 rfl 3 rfl ?_
        refine rv_iload_n d_Model_remove_24 rfl 0 rfl ?_
        refine rv_iload_n d_Model_remove_25 rfl 1 rfl ?_
        refine rv_callV (kc' := 0) (ks' := 0) (kc1 := 0) (ks1 := 0) (As := [.int (nI i), .int (nI r.2)]) (rest := []) hS.1 rfl (c_Model_copy hS hA (by omega) (by omega)) ok_Model_copy (wi_Model_remove _ (List.mem_of_getElem? (i := 2) rfl)) (wi_Model_remove _ (List.mem_of_getElem? (i := 3) rfl)) (wi_Model_remove _ (List.mem_of_getElem? (i := 4) rfl)) rfl rfl (Nat.le_of_ble_eq_true rfl) (Nat.le_of_ble_eq_true rfl) ⟨Nat.le_of_ble_eq_true rfl, Nat.le_of_ble_eq_true rfl⟩ d_Model_remove_26 (rv_kv (fun hp89 ehp89 => ?_))
        obtain ⟨hS1, ho1⟩ := ehp89
        refine rv_iload_n d_Model_remove_29 rfl 1 rfl ?_
        refine rv_iconst (v := nI 1) d_Model_remove_30 (by decide) ?_
        refine rv_iadd d_Model_remove_31 ?_
        refine rv_eqi (nI_add _ _) ?_
        refine rv_istore_n (lv' := [(1, .int (nI (r.2 + 1))), (3, .int (nI i)), (2, .int (nI n)), (0, .ref x)]) d_Model_remove_32 rfl (by decide) rfl ?_
        refine rv_iinc (k := 1) (v := nI (i + 1)) (lv' := [(3, .int (nI (i + 1))), (1, .int (nI (r.2 + 1))), (2, .int (nI n)), (0, .ref x)]) d_Model_remove_33 rfl (nI_1 _) (by decide) rfl ?_
        refine rv_goto (tgt := 9) d_Model_remove_36 (by decide) ?_
        have z := ih (i + 1) hp89 (md_copy r.1 i r.2, r.2 + 1) (by omega) (by show r.2 + 1 ≤ i + 1; omega) hS1 (mo_out_tr ho ho1)
        rw [← e] at z
        exact rv_lv [0, 1, 2, 3] (by rw [e]; rfl) z
set_option maxHeartbeats 1000000 in
set_option maxRecDepth 100000 in
theorem c_Model_remove {l : Launch} {D : va_G} {ca : Nat → ClassId} {hp : hp_T} {d : Nat} {x : Nat} {A : Nat → Nat} {S : mo_S} (hS : mo_At ca hp x A S) (hA : pi_inj A 13) : ma_V l D ca ma_T M_Model_remove (d + 1) 0 0 hp (ma_qi (fun y hp1 => y = nI (mo_z S - (md_rmR S).2) ∧ mo_At ca hp1 x A (md_remove S) ∧ mo_out x A hp hp1)) 0 (lv_args 0 [.ref x]) [] := by
  change ma_V l D ca ma_T M_Model_remove (d + 1) 0 0 hp (ma_qi (fun y hp1 => y = nI (mo_z S - (md_rmR S).2) ∧ mo_At ca hp1 x A (md_remove S) ∧ mo_out x A hp hp1)) 0 [(0, .ref x)] []
  refine rv_iconst (v := nI 0) d_Model_remove_0 (by decide) ?_
  refine rv_istore_n (lv' := [(1, .int (nI 0)), (0, .ref x)]) d_Model_remove_1 rfl (by decide) rfl ?_
  refine rv_aload_n d_Model_remove_2 rfl 1 rfl ?_
  refine rv_get ka_Model hS.1 rfl 0 (by decide) (wi_Model_remove _ (List.mem_of_getElem? (i := 0) rfl)) rfl d_Model_remove_3 ?_
  refine rv_istore_n (lv' := [(2, .int (nI (mo_z S))), (1, .int (nI 0)), (0, .ref x)]) d_Model_remove_6 rfl (by decide) rfl ?_
  refine rv_iconst (v := nI 0) d_Model_remove_7 (by decide) ?_
  refine rv_istore_n (lv' := [(3, .int (nI 0)), (2, .int (nI (mo_z S))), (1, .int (nI 0)), (0, .ref x)]) d_Model_remove_8 rfl (by decide) rfl ?_
  exact rv_lv [0, 2, 1, 3] rfl (c_Model_remove_l (n := mo_z S) hA hS.2.2.2.2.1 (mo_z S) 0 hp (S, 0) (Nat.zero_add _) (Nat.le_refl _) hS mo_out_rf)
