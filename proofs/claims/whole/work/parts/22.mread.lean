def wl_Model_isNamed : List Cond := [.fieldLink "PoolDeskModel" 7 "PoolDeskModel" "names" "[J", .fieldLink "PoolDeskModel" 35 "PoolDeskModel" "name" "[J"]
theorem wi_Model_isNamed : ∀ w ∈ wl_Model_isNamed, w ∈ ma_tbl := by decide +kernel
def wl_Model_hasName : List Cond := [.fieldLink "PoolDeskModel" 17 "PoolDeskModel" "keys" "[J", .fieldLink "PoolDeskModel" 7 "PoolDeskModel" "names" "[J"]
theorem wi_Model_hasName : ∀ w ∈ wl_Model_hasName, w ∈ ma_tbl := by decide +kernel
def wl_Model_hangs : List Cond := [.fieldLink "PoolDeskModel" 13 "PoolDeskModel" "spends" "[I", .methodLink "PoolDeskModel" 62 y_Model_hasName, .instanceMethod y_Model_hasName, .selects "PoolDeskModel" y_Model_hasName y_Model_hasName]
theorem wi_Model_hangs : ∀ w ∈ wl_Model_hangs, w ∈ ma_tbl := by decide +kernel
def wl_Model_sameKey : List Cond := [.fieldLink "PoolDeskModel" 17 "PoolDeskModel" "keys" "[J", .fieldLink "PoolDeskModel" 20 "PoolDeskModel" "indexes" "[I"]
theorem wi_Model_sameKey : ∀ w ∈ wl_Model_sameKey, w ∈ ma_tbl := by decide +kernel
def wl_Model_misses : List Cond := [.fieldLink "PoolDeskModel" 13 "PoolDeskModel" "spends" "[I", .fieldLink "PoolDeskModel" 20 "PoolDeskModel" "indexes" "[I", .methodLink "PoolDeskModel" 62 y_Model_hasName, .instanceMethod y_Model_hasName, .selects "PoolDeskModel" y_Model_hasName y_Model_hasName, .fieldLink "PoolDeskModel" 29 "PoolDeskModel" "outputs" "[I"]
theorem wi_Model_misses : ∀ w ∈ wl_Model_misses, w ∈ ma_tbl := by decide +kernel
def wl_Model_feesOf : List Cond := [.fieldLink "PoolDeskModel" 51 "PoolDeskModel" "size" "I", .fieldLink "PoolDeskModel" 44 "PoolDeskModel" "marks" "[Z", .fieldLink "PoolDeskModel" 23 "PoolDeskModel" "fees" "[J"]
theorem wi_Model_feesOf : ∀ w ∈ wl_Model_feesOf, w ∈ ma_tbl := by decide +kernel
def wl_Model_sizesOf : List Cond := [.fieldLink "PoolDeskModel" 51 "PoolDeskModel" "size" "I", .fieldLink "PoolDeskModel" 44 "PoolDeskModel" "marks" "[Z", .fieldLink "PoolDeskModel" 26 "PoolDeskModel" "sizes" "[I"]
theorem wi_Model_sizesOf : ∀ w ∈ wl_Model_sizesOf, w ∈ ma_tbl := by decide +kernel
def wl_Model_find : List Cond := [.fieldLink "PoolDeskModel" 51 "PoolDeskModel" "size" "I", .methodLink "PoolDeskModel" 55 y_Model_isNamed, .instanceMethod y_Model_isNamed, .selects "PoolDeskModel" y_Model_isNamed y_Model_isNamed]
theorem wi_Model_find : ∀ w ∈ wl_Model_find, w ∈ ma_tbl := by decide +kernel
def wl_Model_isFree : List Cond := [.fieldLink "PoolDeskModel" 51 "PoolDeskModel" "size" "I", .methodLink "PoolDeskModel" 70 y_Model_hangs, .instanceMethod y_Model_hangs, .selects "PoolDeskModel" y_Model_hangs y_Model_hangs, .fieldLink "PoolDeskModel" 44 "PoolDeskModel" "marks" "[Z"]
theorem wi_Model_isFree : ∀ w ∈ wl_Model_isFree, w ∈ ma_tbl := by decide +kernel
def wl_Model_kin : List Cond := [.fieldLink "PoolDeskModel" 51 "PoolDeskModel" "size" "I", .methodLink "PoolDeskModel" 70 y_Model_hangs, .instanceMethod y_Model_hangs, .selects "PoolDeskModel" y_Model_hangs y_Model_hangs]
theorem wi_Model_kin : ∀ w ∈ wl_Model_kin, w ∈ ma_tbl := by decide +kernel
def wl_Model_row : List Cond := [.fieldLink "PoolDeskModel" 123 "PoolDeskModel" "rowSize" "I", .fieldLink "PoolDeskModel" 48 "PoolDeskModel" "row" "[J"]
theorem wi_Model_row : ∀ w ∈ wl_Model_row, w ∈ ma_tbl := by decide +kernel
def wl_Model_fees : List Cond := [.methodLink "PoolDeskModel" 81 y_Model_feesOf, .instanceMethod y_Model_feesOf, .selects "PoolDeskModel" y_Model_feesOf y_Model_feesOf]
theorem wi_Model_fees : ∀ w ∈ wl_Model_fees, w ∈ ma_tbl := by decide +kernel
set_option maxHeartbeats 1000000 in
set_option maxRecDepth 100000 in
theorem c_Model_isNamed_l {l : Launch} {D : va_G} {ca : Nat → ClassId} {hp : hp_T} {d : Nat} {x : Nat} {A : Nat → Nat} {S : mo_S} (hS : mo_At ca hp x A S) {t : Nat} (ht : t < 42) : ∀ (m i : Nat) (a : Bool), i + m = 4 → ma_V l D ca ma_T M_Model_isNamed d 0 0 hp (ma_qi (ma_eq (bI (lp_fold (fun i b => b && decide (mo_l S 0 (4 * t + i) = mo_l S 8 i)) m i a)) hp)) 4 [(3, .int (nI i)), (2, .int (bI a)), (0, .ref x), (1, .int (nI t))] [] := by
  have hA0 : hp (A 0) = some (.inl (ca 1, 168, .inr (.inl (mo_l S 0)))) := hS.2.1 0 (by decide)
  have hA8 : hp (A 8) = some (.inl (ca 1, 4, .inr (.inl (mo_l S 8)))) := hS.2.1 8 (by decide)
  have hsz := hS.2.2.2.2.1
  have htd := hS.2.2.2.2.2.1
  have hrs := hS.2.2.2.2.2.2
  have hsp := hS.2.2.1
  have hmk : ∀ u, u < 42 → mo_i S 11 u = bI (md_mk S u) := fun u _ => congrFun hS.2.2.2.1 u
  intro m
  induction m with
  | zero =>
    intro i a hi
    refine rv_iload_n d_Model_isNamed_4 rfl 0 rfl ?_
    refine rv_iconst (v := nI 4) d_Model_isNamed_5 (by decide) ?_
    refine rv_icmp_ge (tgt := 45) d_Model_isNamed_6 (by decide) (fun c_6 => ?_) (fun c_6 => ?_)
    · refine rv_iload_n d_Model_isNamed_45 rfl 1 rfl ?_
      exact rv_ireturn ⟨_, rfl, rfl, rfl⟩ d_Model_isNamed_46 rfl (bI_nar _)
    · exact absurd (nI_le (by omega) (by omega)) c_6
  | succ m ih =>
    intro i a hi
    refine rv_iload_n d_Model_isNamed_4 rfl 0 rfl ?_
    refine rv_iconst (v := nI 4) d_Model_isNamed_5 (by decide) ?_
    refine rv_icmp_ge (tgt := 45) d_Model_isNamed_6 (by decide) (fun c_6 => ?_) (fun c_6 => ?_)
    · exact absurd c_6 (nI_ge (by omega) (by omega))
    · refine rv_iload_n d_Model_isNamed_9 rfl 1 rfl ?_
      refine rv_if_eq (tgt := 37) d_Model_isNamed_10 (by decide) (fun c_10 => ?_) (fun c_10 => ?_)
      · have e : (fun i b => b && decide (mo_l S 0 (4 * t + i) = mo_l S 8 i)) i a = false := by show (a && _) = false; rw [bI_0.mp c_10, Bool.false_and]
        refine rv_iconst (v := nI 0) d_Model_isNamed_37 (by decide) ?_
        refine rv_istore_n (lv' := [(2, .int (nI 0)), (3, .int (nI i)), (0, .ref x), (1, .int (nI t))]) d_Model_isNamed_38 rfl (by decide) rfl ?_
        refine rv_iinc (k := 1) (v := nI (i + 1)) (lv' := [(3, .int (nI (i + 1))), (2, .int (nI 0)), (0, .ref x), (1, .int (nI t))]) d_Model_isNamed_39 rfl (nI_1 _) (by decide) rfl ?_
        refine rv_goto (tgt := 4) d_Model_isNamed_42 (by decide) ?_
        refine rv_post (Q' := ma_qi (ma_eq (bI (lp_fold (fun i b => b && decide (mo_l S 0 (4 * t + i) = mo_l S 8 i)) m (i + 1) false)) hp)) (fun _ _ h => ?_) (rv_lv [0, 1, 2, 3] rfl (ih (i + 1) false (by omega)))
        rw [← e] at h
        exact h
      · refine rv_aload_n d_Model_isNamed_13 rfl 2 rfl ?_
        refine rv_get ka_Model hS.1 rfl 1 (by decide) (wi_Model_isNamed _ (List.mem_of_getElem? (i := 0) rfl)) rfl d_Model_isNamed_14 ?_
        refine rv_iconst (v := nI 4) d_Model_isNamed_17 (by decide) ?_
        refine rv_iload_n d_Model_isNamed_18 rfl 3 rfl ?_
        refine rv_imul d_Model_isNamed_19 ?_
        refine rv_eqi (pk_mul _ _) ?_
        refine rv_iload_n d_Model_isNamed_20 rfl 0 rfl ?_
        refine rv_iadd d_Model_isNamed_21 ?_
        refine rv_eqi (nI_add _ _) ?_
        refine rv_lald hA0 1 rfl (by omega) (by decide) d_Model_isNamed_22 ?_
        refine rv_aload_n d_Model_isNamed_23 rfl 2 rfl ?_
        refine rv_get ka_Model hS.1 rfl 10 (by decide) (wi_Model_isNamed _ (List.mem_of_getElem? (i := 1) rfl)) rfl d_Model_isNamed_24 ?_
        refine rv_iload_n d_Model_isNamed_27 rfl 0 rfl ?_
        refine rv_lald hA8 1 rfl (by omega) (by decide) d_Model_isNamed_28 ?_
        refine rv_lcmp d_Model_isNamed_29 ?_
        refine rv_if_ne (tgt := 37) d_Model_isNamed_30 (by decide) (fun c_30 => ?_) (fun c_30 => ?_)
        · have e : (fun i b => b && decide (mo_l S 0 (4 * t + i) = mo_l S 8 i)) i a = false := by show (a && decide _) = false; rw [decide_eq_false (fun z => c_30 (lc_0.mpr z)), Bool.and_false]
          refine rv_iconst (v := nI 0) d_Model_isNamed_37 (by decide) ?_
          refine rv_istore_n (lv' := [(2, .int (nI 0)), (3, .int (nI i)), (0, .ref x), (1, .int (nI t))]) d_Model_isNamed_38 rfl (by decide) rfl ?_
          refine rv_iinc (k := 1) (v := nI (i + 1)) (lv' := [(3, .int (nI (i + 1))), (2, .int (nI 0)), (0, .ref x), (1, .int (nI t))]) d_Model_isNamed_39 rfl (nI_1 _) (by decide) rfl ?_
          refine rv_goto (tgt := 4) d_Model_isNamed_42 (by decide) ?_
          refine rv_post (Q' := ma_qi (ma_eq (bI (lp_fold (fun i b => b && decide (mo_l S 0 (4 * t + i) = mo_l S 8 i)) m (i + 1) false)) hp)) (fun _ _ h => ?_) (rv_lv [0, 1, 2, 3] rfl (ih (i + 1) false (by omega)))
          rw [← e] at h
          exact h
        · have e : (fun i b => b && decide (mo_l S 0 (4 * t + i) = mo_l S 8 i)) i a = true := by show (a && decide _) = true; rw [bI_n.mp c_10, decide_eq_true (lc_0.mp c_30)]; rfl
          refine rv_iconst (v := nI 1) d_Model_isNamed_33 (by decide) ?_
          refine rv_goto (tgt := 38) d_Model_isNamed_34 (by decide) ?_
          refine rv_istore_n (lv' := [(2, .int (nI 1)), (3, .int (nI i)), (0, .ref x), (1, .int (nI t))]) d_Model_isNamed_38 rfl (by decide) rfl ?_
          refine rv_iinc (k := 1) (v := nI (i + 1)) (lv' := [(3, .int (nI (i + 1))), (2, .int (nI 1)), (0, .ref x), (1, .int (nI t))]) d_Model_isNamed_39 rfl (nI_1 _) (by decide) rfl ?_
          refine rv_goto (tgt := 4) d_Model_isNamed_42 (by decide) ?_
          refine rv_post (Q' := ma_qi (ma_eq (bI (lp_fold (fun i b => b && decide (mo_l S 0 (4 * t + i) = mo_l S 8 i)) m (i + 1) true)) hp)) (fun _ _ h => ?_) (rv_lv [0, 1, 2, 3] rfl (ih (i + 1) true (by omega)))
          rw [← e] at h
          exact h
set_option maxHeartbeats 1000000 in
set_option maxRecDepth 100000 in
theorem c_Model_isNamed {l : Launch} {D : va_G} {ca : Nat → ClassId} {hp : hp_T} {d : Nat} {x : Nat} {A : Nat → Nat} {S : mo_S} (hS : mo_At ca hp x A S) {t : Nat} (ht : t < 42) : ma_V l D ca ma_T M_Model_isNamed d 0 0 hp (ma_qi (ma_eq (bI (md_named S t)) hp)) 0 (lv_args 0 [.ref x, .int (nI t)]) [] := by
  change ma_V l D ca ma_T M_Model_isNamed d 0 0 hp (ma_qi (ma_eq (bI (md_named S t)) hp)) 0 [(0, .ref x), (1, .int (nI t))] []
  have hA0 : hp (A 0) = some (.inl (ca 1, 168, .inr (.inl (mo_l S 0)))) := hS.2.1 0 (by decide)
  have hA8 : hp (A 8) = some (.inl (ca 1, 4, .inr (.inl (mo_l S 8)))) := hS.2.1 8 (by decide)
  have hsz := hS.2.2.2.2.1
  have htd := hS.2.2.2.2.2.1
  have hrs := hS.2.2.2.2.2.2
  have hsp := hS.2.2.1
  have hmk : ∀ u, u < 42 → mo_i S 11 u = bI (md_mk S u) := fun u _ => congrFun hS.2.2.2.1 u
  refine rv_iconst (v := nI 1) d_Model_isNamed_0 (by decide) ?_
  refine rv_istore_n (lv' := [(2, .int (nI 1)), (0, .ref x), (1, .int (nI t))]) d_Model_isNamed_1 rfl (by decide) rfl ?_
  refine rv_iconst (v := nI 0) d_Model_isNamed_2 (by decide) ?_
  refine rv_istore_n (lv' := [(3, .int (nI 0)), (2, .int (nI 1)), (0, .ref x), (1, .int (nI t))]) d_Model_isNamed_3 rfl (by decide) rfl ?_
  exact rv_lv [0, 1, 2, 3] rfl (c_Model_isNamed_l hS ht 4 0 true (Nat.zero_add _))
set_option maxHeartbeats 1000000 in
set_option maxRecDepth 100000 in
theorem c_Model_hasName_l {l : Launch} {D : va_G} {ca : Nat → ClassId} {hp : hp_T} {d : Nat} {x : Nat} {A : Nat → Nat} {S : mo_S} (hS : mo_At ca hp x A S) {t k o : Nat} (ht : t < 42) (hk : k < 8) (ho : o < 42) : ∀ (m i : Nat) (a : Bool), i + m = 4 → ma_V l D ca ma_T M_Model_hasName d 0 0 hp (ma_qi (ma_eq (bI (lp_fold (fun i b => b && decide (mo_l S 2 (32 * t + 4 * k + i) = mo_l S 0 (4 * o + i))) m i a)) hp)) 6 [(5, .int (nI i)), (4, .int (bI a)), (0, .ref x), (1, .int (nI t)), (2, .int (nI k)), (3, .int (nI o))] [] := by
  have hA0 : hp (A 0) = some (.inl (ca 1, 168, .inr (.inl (mo_l S 0)))) := hS.2.1 0 (by decide)
  have hA2 : hp (A 2) = some (.inl (ca 1, 1344, .inr (.inl (mo_l S 2)))) := hS.2.1 2 (by decide)
  have hsz := hS.2.2.2.2.1
  have htd := hS.2.2.2.2.2.1
  have hrs := hS.2.2.2.2.2.2
  have hsp := hS.2.2.1
  have hmk : ∀ u, u < 42 → mo_i S 11 u = bI (md_mk S u) := fun u _ => congrFun hS.2.2.2.1 u
  intro m
  induction m with
  | zero =>
    intro i a hi
    refine rv_iload d_Model_hasName_6 0 rfl ?_
    refine rv_iconst (v := nI 4) d_Model_hasName_8 (by decide) ?_
    refine rv_icmp_ge (tgt := 61) d_Model_hasName_9 (by decide) (fun c_9 => ?_) (fun c_9 => ?_)
    · refine rv_iload d_Model_hasName_61 1 rfl ?_
      exact rv_ireturn ⟨_, rfl, rfl, rfl⟩ d_Model_hasName_63 rfl (bI_nar _)
    · exact absurd (nI_le (by omega) (by omega)) c_9
  | succ m ih =>
    intro i a hi
    refine rv_iload d_Model_hasName_6 0 rfl ?_
    refine rv_iconst (v := nI 4) d_Model_hasName_8 (by decide) ?_
    refine rv_icmp_ge (tgt := 61) d_Model_hasName_9 (by decide) (fun c_9 => ?_) (fun c_9 => ?_)
    · exact absurd c_9 (nI_ge (by omega) (by omega))
    · refine rv_iload d_Model_hasName_12 1 rfl ?_
      refine rv_if_eq (tgt := 52) d_Model_hasName_14 (by decide) (fun c_14 => ?_) (fun c_14 => ?_)
      · have e : (fun i b => b && decide (mo_l S 2 (32 * t + 4 * k + i) = mo_l S 0 (4 * o + i))) i a = false := by show (a && _) = false; rw [bI_0.mp c_14, Bool.false_and]
        refine rv_iconst (v := nI 0) d_Model_hasName_52 (by decide) ?_
        refine rv_istore (lv' := [(4, .int (nI 0)), (5, .int (nI i)), (0, .ref x), (1, .int (nI t)), (2, .int (nI k)), (3, .int (nI o))]) d_Model_hasName_53 (by decide) rfl ?_
        refine rv_iinc (k := 1) (v := nI (i + 1)) (lv' := [(5, .int (nI (i + 1))), (4, .int (nI 0)), (0, .ref x), (1, .int (nI t)), (2, .int (nI k)), (3, .int (nI o))]) d_Model_hasName_55 rfl (nI_1 _) (by decide) rfl ?_
        refine rv_goto (tgt := 6) d_Model_hasName_58 (by decide) ?_
        refine rv_post (Q' := ma_qi (ma_eq (bI (lp_fold (fun i b => b && decide (mo_l S 2 (32 * t + 4 * k + i) = mo_l S 0 (4 * o + i))) m (i + 1) false)) hp)) (fun _ _ h => ?_) (rv_lv [0, 1, 2, 3, 4, 5] rfl (ih (i + 1) false (by omega)))
        rw [← e] at h
        exact h
      · refine rv_aload_n d_Model_hasName_17 rfl 2 rfl ?_
        refine rv_get ka_Model hS.1 rfl 3 (by decide) (wi_Model_hasName _ (List.mem_of_getElem? (i := 0) rfl)) rfl d_Model_hasName_18 ?_
        refine rv_bipush (v := nI 32) d_Model_hasName_21 (by decide) ?_
        refine rv_iload_n d_Model_hasName_23 rfl 3 rfl ?_
        refine rv_imul d_Model_hasName_24 ?_
        refine rv_eqi (pk_mul _ _) ?_
        refine rv_iconst (v := nI 4) d_Model_hasName_25 (by decide) ?_
        refine rv_iload_n d_Model_hasName_26 rfl 4 rfl ?_
        refine rv_imul d_Model_hasName_27 ?_
        refine rv_eqi (pk_mul _ _) ?_
        refine rv_iadd d_Model_hasName_28 ?_
        refine rv_eqi (nI_add _ _) ?_
        refine rv_iload d_Model_hasName_29 0 rfl ?_
        refine rv_iadd d_Model_hasName_31 ?_
        refine rv_eqi (nI_add _ _) ?_
        refine rv_lald hA2 1 rfl (by omega) (by decide) d_Model_hasName_32 ?_
        refine rv_aload_n d_Model_hasName_33 rfl 2 rfl ?_
        refine rv_get ka_Model hS.1 rfl 1 (by decide) (wi_Model_hasName _ (List.mem_of_getElem? (i := 1) rfl)) rfl d_Model_hasName_34 ?_
        refine rv_iconst (v := nI 4) d_Model_hasName_37 (by decide) ?_
        refine rv_iload_n d_Model_hasName_38 rfl 5 rfl ?_
        refine rv_imul d_Model_hasName_39 ?_
        refine rv_eqi (pk_mul _ _) ?_
        refine rv_iload d_Model_hasName_40 0 rfl ?_
        refine rv_iadd d_Model_hasName_42 ?_
        refine rv_eqi (nI_add _ _) ?_
        refine rv_lald hA0 1 rfl (by omega) (by decide) d_Model_hasName_43 ?_
        refine rv_lcmp d_Model_hasName_44 ?_
        refine rv_if_ne (tgt := 52) d_Model_hasName_45 (by decide) (fun c_45 => ?_) (fun c_45 => ?_)
        · have e : (fun i b => b && decide (mo_l S 2 (32 * t + 4 * k + i) = mo_l S 0 (4 * o + i))) i a = false := by show (a && decide _) = false; rw [decide_eq_false (fun z => c_45 (lc_0.mpr z)), Bool.and_false]
          refine rv_iconst (v := nI 0) d_Model_hasName_52 (by decide) ?_
          refine rv_istore (lv' := [(4, .int (nI 0)), (5, .int (nI i)), (0, .ref x), (1, .int (nI t)), (2, .int (nI k)), (3, .int (nI o))]) d_Model_hasName_53 (by decide) rfl ?_
          refine rv_iinc (k := 1) (v := nI (i + 1)) (lv' := [(5, .int (nI (i + 1))), (4, .int (nI 0)), (0, .ref x), (1, .int (nI t)), (2, .int (nI k)), (3, .int (nI o))]) d_Model_hasName_55 rfl (nI_1 _) (by decide) rfl ?_
          refine rv_goto (tgt := 6) d_Model_hasName_58 (by decide) ?_
          refine rv_post (Q' := ma_qi (ma_eq (bI (lp_fold (fun i b => b && decide (mo_l S 2 (32 * t + 4 * k + i) = mo_l S 0 (4 * o + i))) m (i + 1) false)) hp)) (fun _ _ h => ?_) (rv_lv [0, 1, 2, 3, 4, 5] rfl (ih (i + 1) false (by omega)))
          rw [← e] at h
          exact h
        · have e : (fun i b => b && decide (mo_l S 2 (32 * t + 4 * k + i) = mo_l S 0 (4 * o + i))) i a = true := by show (a && decide _) = true; rw [bI_n.mp c_14, decide_eq_true (lc_0.mp c_45)]; rfl
          refine rv_iconst (v := nI 1) d_Model_hasName_48 (by decide) ?_
          refine rv_goto (tgt := 53) d_Model_hasName_49 (by decide) ?_
          refine rv_istore (lv' := [(4, .int (nI 1)), (5, .int (nI i)), (0, .ref x), (1, .int (nI t)), (2, .int (nI k)), (3, .int (nI o))]) d_Model_hasName_53 (by decide) rfl ?_
          refine rv_iinc (k := 1) (v := nI (i + 1)) (lv' := [(5, .int (nI (i + 1))), (4, .int (nI 1)), (0, .ref x), (1, .int (nI t)), (2, .int (nI k)), (3, .int (nI o))]) d_Model_hasName_55 rfl (nI_1 _) (by decide) rfl ?_
          refine rv_goto (tgt := 6) d_Model_hasName_58 (by decide) ?_
          refine rv_post (Q' := ma_qi (ma_eq (bI (lp_fold (fun i b => b && decide (mo_l S 2 (32 * t + 4 * k + i) = mo_l S 0 (4 * o + i))) m (i + 1) true)) hp)) (fun _ _ h => ?_) (rv_lv [0, 1, 2, 3, 4, 5] rfl (ih (i + 1) true (by omega)))
          rw [← e] at h
          exact h
set_option maxHeartbeats 1000000 in
set_option maxRecDepth 100000 in
theorem c_Model_hasName {l : Launch} {D : va_G} {ca : Nat → ClassId} {hp : hp_T} {d : Nat} {x : Nat} {A : Nat → Nat} {S : mo_S} (hS : mo_At ca hp x A S) {t k o : Nat} (ht : t < 42) (hk : k < 8) (ho : o < 42) : ma_V l D ca ma_T M_Model_hasName d 0 0 hp (ma_qi (ma_eq (bI (md_has S t k o)) hp)) 0 (lv_args 0 [.ref x, .int (nI t), .int (nI k), .int (nI o)]) [] := by
  change ma_V l D ca ma_T M_Model_hasName d 0 0 hp (ma_qi (ma_eq (bI (md_has S t k o)) hp)) 0 [(0, .ref x), (1, .int (nI t)), (2, .int (nI k)), (3, .int (nI o))] []
  have hA0 : hp (A 0) = some (.inl (ca 1, 168, .inr (.inl (mo_l S 0)))) := hS.2.1 0 (by decide)
  have hA2 : hp (A 2) = some (.inl (ca 1, 1344, .inr (.inl (mo_l S 2)))) := hS.2.1 2 (by decide)
  have hsz := hS.2.2.2.2.1
  have htd := hS.2.2.2.2.2.1
  have hrs := hS.2.2.2.2.2.2
  have hsp := hS.2.2.1
  have hmk : ∀ u, u < 42 → mo_i S 11 u = bI (md_mk S u) := fun u _ => congrFun hS.2.2.2.1 u
  refine rv_iconst (v := nI 1) d_Model_hasName_0 (by decide) ?_
  refine rv_istore (lv' := [(4, .int (nI 1)), (0, .ref x), (1, .int (nI t)), (2, .int (nI k)), (3, .int (nI o))]) d_Model_hasName_1 (by decide) rfl ?_
  refine rv_iconst (v := nI 0) d_Model_hasName_3 (by decide) ?_
  refine rv_istore (lv' := [(5, .int (nI 0)), (4, .int (nI 1)), (0, .ref x), (1, .int (nI t)), (2, .int (nI k)), (3, .int (nI o))]) d_Model_hasName_4 (by decide) rfl ?_
  exact rv_lv [0, 1, 2, 3, 4, 5] rfl (c_Model_hasName_l hS ht hk ho 4 0 true (Nat.zero_add _))
set_option maxHeartbeats 1000000 in
set_option maxRecDepth 100000 in
theorem c_Model_hangs_l {l : Launch} {D : va_G} {ca : Nat → ClassId} {hp : hp_T} {d : Nat} {x : Nat} {A : Nat → Nat} {S : mo_S} (hS : mo_At ca hp x A S) {t o : Nat} (ht : t < 42) (ho : o < 42) : ∀ (m i : Nat) (a : Bool), i + m = md_sp S t → ma_V l D ca ma_T M_Model_hangs (d + 1) 0 0 hp (ma_qi (ma_eq (bI (lp_fold (fun k b => b || md_has S t k o) m i a)) hp)) 5 [(4, .int (nI i)), (3, .int (bI a)), (0, .ref x), (1, .int (nI t)), (2, .int (nI o))] [] := by
  have hA1 : hp (A 1) = some (.inl (ca 0, 42, .inl (mo_i S 1))) := hS.2.1 1 (by decide)
  have hsz := hS.2.2.2.2.1
  have htd := hS.2.2.2.2.2.1
  have hrs := hS.2.2.2.2.2.2
  have hsp := hS.2.2.1
  have hmk : ∀ u, u < 42 → mo_i S 11 u = bI (md_mk S u) := fun u _ => congrFun hS.2.2.2.1 u
  have hst := (hsp t ht).2
  intro m
  induction m with
  | zero =>
    intro i a hi
    refine rv_iload d_Model_hangs_5 0 rfl ?_
    refine rv_aload_n d_Model_hangs_7 rfl 2 rfl ?_
    refine rv_get ka_Model hS.1 rfl 2 (by decide) (wi_Model_hangs _ (List.mem_of_getElem? (i := 0) rfl)) rfl d_Model_hangs_8 ?_
    refine rv_iload_n d_Model_hangs_11 rfl 3 rfl ?_
    refine rv_iald hA1 0 rfl (by omega) (by decide) d_Model_hangs_12 ?_
    refine rv_eqi (y := nI (md_sp S t)) ((hsp t (by omega)).1) ?_
    refine rv_icmp_ge (tgt := 43) d_Model_hangs_13 (by decide) (fun c_13 => ?_) (fun c_13 => ?_)
    · refine rv_iload_n d_Model_hangs_43 rfl 1 rfl ?_
      exact rv_ireturn ⟨_, rfl, rfl, rfl⟩ d_Model_hangs_44 rfl (bI_nar _)
    · exact absurd (nI_le (by omega) (by omega)) c_13
  | succ m ih =>
    intro i a hi
    refine rv_iload d_Model_hangs_5 0 rfl ?_
    refine rv_aload_n d_Model_hangs_7 rfl 2 rfl ?_
    refine rv_get ka_Model hS.1 rfl 2 (by decide) (wi_Model_hangs _ (List.mem_of_getElem? (i := 0) rfl)) rfl d_Model_hangs_8 ?_
    refine rv_iload_n d_Model_hangs_11 rfl 3 rfl ?_
    refine rv_iald hA1 0 rfl (by omega) (by decide) d_Model_hangs_12 ?_
    refine rv_eqi (y := nI (md_sp S t)) ((hsp t (by omega)).1) ?_
    refine rv_icmp_ge (tgt := 43) d_Model_hangs_13 (by decide) (fun c_13 => ?_) (fun c_13 => ?_)
    · exact absurd c_13 (nI_ge (by omega) (by omega))
    · refine rv_iload_n d_Model_hangs_16 rfl 1 rfl ?_
      refine rv_if_ne (tgt := 31) d_Model_hangs_17 (by decide) (fun c_17 => ?_) (fun c_17 => ?_)
      · have e : (fun k b => b || md_has S t k o) i a = true := by show (a || _) = true; rw [bI_n.mp c_17, Bool.true_or]
        refine rv_iconst (v := nI 1) d_Model_hangs_31 (by decide) ?_
        refine rv_goto (tgt := 36) d_Model_hangs_32 (by decide) ?_
        refine rv_istore_n (lv' := [(3, .int (nI 1)), (4, .int (nI i)), (0, .ref x), (1, .int (nI t)), (2, .int (nI o))]) d_Model_hangs_36 rfl (by decide) rfl ?_
        refine rv_iinc (k := 1) (v := nI (i + 1)) (lv' := [(4, .int (nI (i + 1))), (3, .int (nI 1)), (0, .ref x), (1, .int (nI t)), (2, .int (nI o))]) d_Model_hangs_37 rfl (nI_1 _) (by decide) rfl ?_
        refine rv_goto (tgt := 5) d_Model_hangs_40 (by decide) ?_
        refine rv_post (Q' := ma_qi (ma_eq (bI (lp_fold (fun k b => b || md_has S t k o) m (i + 1) true)) hp)) (fun _ _ h => ?_) (rv_lv [0, 1, 2, 3, 4] rfl (ih (i + 1) true (by omega)))
        rw [← e] at h
        exact h
      · refine rv_aload_n d_Model_hangs_20 rfl 2 rfl ?_
        refine rv_iload_n d_Model_hangs_21 rfl 3 rfl ?_
        refine rv_iload d_Model_hangs_22 0 rfl ?_
        refine rv_iload_n d_Model_hangs_24 rfl 4 rfl ?_
        refine rv_callV (kc' := 0) (ks' := 0) (kc1 := 0) (ks1 := 0) (As := [.int (nI t), .int (nI i), .int (nI o)]) (rest := []) hS.1 rfl (c_Model_hasName hS (by omega) (by omega) (by omega)) ok_Model_hasName (wi_Model_hangs _ (List.mem_of_getElem? (i := 1) rfl)) (wi_Model_hangs _ (List.mem_of_getElem? (i := 2) rfl)) (wi_Model_hangs _ (List.mem_of_getElem? (i := 3) rfl)) rfl rfl (Nat.le_of_ble_eq_true rfl) (Nat.le_of_ble_eq_true rfl) ⟨Nat.le_of_ble_eq_true rfl, Nat.le_of_ble_eq_true rfl⟩ d_Model_hangs_25 (rv_kie ?_)
        refine rv_if_eq (tgt := 35) d_Model_hangs_28 (by decide) (fun c_28 => ?_) (fun c_28 => ?_)
        · have e : (fun k b => b || md_has S t k o) i a = false := by show (a || _) = false; rw [bI_0.mp c_17, bI_0.mp c_28]; rfl
          refine rv_iconst (v := nI 0) d_Model_hangs_35 (by decide) ?_
          refine rv_istore_n (lv' := [(3, .int (nI 0)), (4, .int (nI i)), (0, .ref x), (1, .int (nI t)), (2, .int (nI o))]) d_Model_hangs_36 rfl (by decide) rfl ?_
          refine rv_iinc (k := 1) (v := nI (i + 1)) (lv' := [(4, .int (nI (i + 1))), (3, .int (nI 0)), (0, .ref x), (1, .int (nI t)), (2, .int (nI o))]) d_Model_hangs_37 rfl (nI_1 _) (by decide) rfl ?_
          refine rv_goto (tgt := 5) d_Model_hangs_40 (by decide) ?_
          refine rv_post (Q' := ma_qi (ma_eq (bI (lp_fold (fun k b => b || md_has S t k o) m (i + 1) false)) hp)) (fun _ _ h => ?_) (rv_lv [0, 1, 2, 3, 4] rfl (ih (i + 1) false (by omega)))
          rw [← e] at h
          exact h
        · have e : (fun k b => b || md_has S t k o) i a = true := by show (a || _) = true; rw [bI_n.mp c_28, Bool.or_true]
          refine rv_iconst (v := nI 1) d_Model_hangs_31 (by decide) ?_
          refine rv_goto (tgt := 36) d_Model_hangs_32 (by decide) ?_
          refine rv_istore_n (lv' := [(3, .int (nI 1)), (4, .int (nI i)), (0, .ref x), (1, .int (nI t)), (2, .int (nI o))]) d_Model_hangs_36 rfl (by decide) rfl ?_
          refine rv_iinc (k := 1) (v := nI (i + 1)) (lv' := [(4, .int (nI (i + 1))), (3, .int (nI 1)), (0, .ref x), (1, .int (nI t)), (2, .int (nI o))]) d_Model_hangs_37 rfl (nI_1 _) (by decide) rfl ?_
          refine rv_goto (tgt := 5) d_Model_hangs_40 (by decide) ?_
          refine rv_post (Q' := ma_qi (ma_eq (bI (lp_fold (fun k b => b || md_has S t k o) m (i + 1) true)) hp)) (fun _ _ h => ?_) (rv_lv [0, 1, 2, 3, 4] rfl (ih (i + 1) true (by omega)))
          rw [← e] at h
          exact h
set_option maxHeartbeats 1000000 in
set_option maxRecDepth 100000 in
theorem c_Model_hangs {l : Launch} {D : va_G} {ca : Nat → ClassId} {hp : hp_T} {d : Nat} {x : Nat} {A : Nat → Nat} {S : mo_S} (hS : mo_At ca hp x A S) {t o : Nat} (ht : t < 42) (ho : o < 42) : ma_V l D ca ma_T M_Model_hangs (d + 1) 0 0 hp (ma_qi (ma_eq (bI (md_hangs S t o)) hp)) 0 (lv_args 0 [.ref x, .int (nI t), .int (nI o)]) [] := by
  change ma_V l D ca ma_T M_Model_hangs (d + 1) 0 0 hp (ma_qi (ma_eq (bI (md_hangs S t o)) hp)) 0 [(0, .ref x), (1, .int (nI t)), (2, .int (nI o))] []
  have hA1 : hp (A 1) = some (.inl (ca 0, 42, .inl (mo_i S 1))) := hS.2.1 1 (by decide)
  have hsz := hS.2.2.2.2.1
  have htd := hS.2.2.2.2.2.1
  have hrs := hS.2.2.2.2.2.2
  have hsp := hS.2.2.1
  have hmk : ∀ u, u < 42 → mo_i S 11 u = bI (md_mk S u) := fun u _ => congrFun hS.2.2.2.1 u
  refine rv_iconst (v := nI 0) d_Model_hangs_0 (by decide) ?_
  refine rv_istore_n (lv' := [(3, .int (nI 0)), (0, .ref x), (1, .int (nI t)), (2, .int (nI o))]) d_Model_hangs_1 rfl (by decide) rfl ?_
  refine rv_iconst (v := nI 0) d_Model_hangs_2 (by decide) ?_
  refine rv_istore (lv' := [(4, .int (nI 0)), (3, .int (nI 0)), (0, .ref x), (1, .int (nI t)), (2, .int (nI o))]) d_Model_hangs_3 (by decide) rfl ?_
  exact rv_lv [0, 1, 2, 3, 4] rfl (c_Model_hangs_l hS ht ho (md_sp S t) 0 false (Nat.zero_add _))
set_option maxHeartbeats 1000000 in
set_option maxRecDepth 100000 in
theorem c_Model_sameKey_l {l : Launch} {D : va_G} {ca : Nat → ClassId} {hp : hp_T} {d : Nat} {x : Nat} {A : Nat → Nat} {S : mo_S} (hS : mo_At ca hp x A S) {t k u q : Nat} (ht : t < 42) (hk : k < 8) (hu : u < 42) (hq : q < 8) : ∀ (m i : Nat) (a : Bool), i + m = 4 → ma_V l D ca ma_T M_Model_sameKey d 0 0 hp (ma_qi (ma_eq (bI (lp_fold (fun i b => b && decide (mo_l S 2 (32 * t + 4 * k + i) = mo_l S 2 (32 * u + 4 * q + i))) m i a)) hp)) 36 [(6, .int (nI i)), (5, .int (bI a)), (0, .ref x), (1, .int (nI t)), (2, .int (nI k)), (3, .int (nI u)), (4, .int (nI q))] [] := by
  have hA2 : hp (A 2) = some (.inl (ca 1, 1344, .inr (.inl (mo_l S 2)))) := hS.2.1 2 (by decide)
  have hA3 : hp (A 3) = some (.inl (ca 0, 336, .inl (mo_i S 3))) := hS.2.1 3 (by decide)
  have hsz := hS.2.2.2.2.1
  have htd := hS.2.2.2.2.2.1
  have hrs := hS.2.2.2.2.2.2
  have hsp := hS.2.2.1
  have hmk : ∀ u, u < 42 → mo_i S 11 u = bI (md_mk S u) := fun u _ => congrFun hS.2.2.2.1 u
  intro m
  induction m with
  | zero =>
    intro i a hi
    refine rv_iload d_Model_sameKey_36 0 rfl ?_
    refine rv_iconst (v := nI 4) d_Model_sameKey_38 (by decide) ?_
    refine rv_icmp_ge (tgt := 97) d_Model_sameKey_39 (by decide) (fun c_39 => ?_) (fun c_39 => ?_)
    · refine rv_iload d_Model_sameKey_97 1 rfl ?_
      exact rv_ireturn ⟨_, rfl, rfl, rfl⟩ d_Model_sameKey_99 rfl (bI_nar _)
    · exact absurd (nI_le (by omega) (by omega)) c_39
  | succ m ih =>
    intro i a hi
    refine rv_iload d_Model_sameKey_36 0 rfl ?_
    refine rv_iconst (v := nI 4) d_Model_sameKey_38 (by decide) ?_
    refine rv_icmp_ge (tgt := 97) d_Model_sameKey_39 (by decide) (fun c_39 => ?_) (fun c_39 => ?_)
    · exact absurd c_39 (nI_ge (by omega) (by omega))
    · refine rv_iload d_Model_sameKey_42 1 rfl ?_
      refine rv_if_eq (tgt := 88) d_Model_sameKey_44 (by decide) (fun c_44 => ?_) (fun c_44 => ?_)
      · have e : (fun i b => b && decide (mo_l S 2 (32 * t + 4 * k + i) = mo_l S 2 (32 * u + 4 * q + i))) i a = false := by show (a && _) = false; rw [bI_0.mp c_44, Bool.false_and]
        refine rv_iconst (v := nI 0) d_Model_sameKey_88 (by decide) ?_
        refine rv_istore (lv' := [(5, .int (nI 0)), (6, .int (nI i)), (0, .ref x), (1, .int (nI t)), (2, .int (nI k)), (3, .int (nI u)), (4, .int (nI q))]) d_Model_sameKey_89 (by decide) rfl ?_
        refine rv_iinc (k := 1) (v := nI (i + 1)) (lv' := [(6, .int (nI (i + 1))), (5, .int (nI 0)), (0, .ref x), (1, .int (nI t)), (2, .int (nI k)), (3, .int (nI u)), (4, .int (nI q))]) d_Model_sameKey_91 rfl (nI_1 _) (by decide) rfl ?_
        refine rv_goto (tgt := 36) d_Model_sameKey_94 (by decide) ?_
        refine rv_post (Q' := ma_qi (ma_eq (bI (lp_fold (fun i b => b && decide (mo_l S 2 (32 * t + 4 * k + i) = mo_l S 2 (32 * u + 4 * q + i))) m (i + 1) false)) hp)) (fun _ _ h => ?_) (rv_lv [0, 1, 2, 3, 4, 5, 6] rfl (ih (i + 1) false (by omega)))
        rw [← e] at h
        exact h
      · refine rv_aload_n d_Model_sameKey_47 rfl 2 rfl ?_
        refine rv_get ka_Model hS.1 rfl 3 (by decide) (wi_Model_sameKey _ (List.mem_of_getElem? (i := 0) rfl)) rfl d_Model_sameKey_48 ?_
        refine rv_bipush (v := nI 32) d_Model_sameKey_51 (by decide) ?_
        refine rv_iload_n d_Model_sameKey_53 rfl 3 rfl ?_
        refine rv_imul d_Model_sameKey_54 ?_
        refine rv_eqi (pk_mul _ _) ?_
        refine rv_iconst (v := nI 4) d_Model_sameKey_55 (by decide) ?_
        refine rv_iload_n d_Model_sameKey_56 rfl 4 rfl ?_
        refine rv_imul d_Model_sameKey_57 ?_
        refine rv_eqi (pk_mul _ _) ?_
        refine rv_iadd d_Model_sameKey_58 ?_
        refine rv_eqi (nI_add _ _) ?_
        refine rv_iload d_Model_sameKey_59 0 rfl ?_
        refine rv_iadd d_Model_sameKey_61 ?_
        refine rv_eqi (nI_add _ _) ?_
        refine rv_lald hA2 1 rfl (by omega) (by decide) d_Model_sameKey_62 ?_
        refine rv_aload_n d_Model_sameKey_63 rfl 2 rfl ?_
        refine rv_get ka_Model hS.1 rfl 3 (by decide) (wi_Model_sameKey _ (List.mem_of_getElem? (i := 0) rfl)) rfl d_Model_sameKey_64 ?_
        refine rv_bipush (v := nI 32) d_Model_sameKey_67 (by decide) ?_
        refine rv_iload_n d_Model_sameKey_69 rfl 5 rfl ?_
        refine rv_imul d_Model_sameKey_70 ?_
        refine rv_eqi (pk_mul _ _) ?_
        refine rv_iconst (v := nI 4) d_Model_sameKey_71 (by decide) ?_
        refine rv_iload d_Model_sameKey_72 6 rfl ?_
        refine rv_imul d_Model_sameKey_74 ?_
        refine rv_eqi (pk_mul _ _) ?_
        refine rv_iadd d_Model_sameKey_75 ?_
        refine rv_eqi (nI_add _ _) ?_
        refine rv_iload d_Model_sameKey_76 0 rfl ?_
        refine rv_iadd d_Model_sameKey_78 ?_
        refine rv_eqi (nI_add _ _) ?_
        refine rv_lald hA2 1 rfl (by omega) (by decide) d_Model_sameKey_79 ?_
        refine rv_lcmp d_Model_sameKey_80 ?_
        refine rv_if_ne (tgt := 88) d_Model_sameKey_81 (by decide) (fun c_81 => ?_) (fun c_81 => ?_)
        · have e : (fun i b => b && decide (mo_l S 2 (32 * t + 4 * k + i) = mo_l S 2 (32 * u + 4 * q + i))) i a = false := by show (a && decide _) = false; rw [decide_eq_false (fun z => c_81 (lc_0.mpr z)), Bool.and_false]
          refine rv_iconst (v := nI 0) d_Model_sameKey_88 (by decide) ?_
          refine rv_istore (lv' := [(5, .int (nI 0)), (6, .int (nI i)), (0, .ref x), (1, .int (nI t)), (2, .int (nI k)), (3, .int (nI u)), (4, .int (nI q))]) d_Model_sameKey_89 (by decide) rfl ?_
          refine rv_iinc (k := 1) (v := nI (i + 1)) (lv' := [(6, .int (nI (i + 1))), (5, .int (nI 0)), (0, .ref x), (1, .int (nI t)), (2, .int (nI k)), (3, .int (nI u)), (4, .int (nI q))]) d_Model_sameKey_91 rfl (nI_1 _) (by decide) rfl ?_
          refine rv_goto (tgt := 36) d_Model_sameKey_94 (by decide) ?_
          refine rv_post (Q' := ma_qi (ma_eq (bI (lp_fold (fun i b => b && decide (mo_l S 2 (32 * t + 4 * k + i) = mo_l S 2 (32 * u + 4 * q + i))) m (i + 1) false)) hp)) (fun _ _ h => ?_) (rv_lv [0, 1, 2, 3, 4, 5, 6] rfl (ih (i + 1) false (by omega)))
          rw [← e] at h
          exact h
        · have e : (fun i b => b && decide (mo_l S 2 (32 * t + 4 * k + i) = mo_l S 2 (32 * u + 4 * q + i))) i a = true := by show (a && decide _) = true; rw [bI_n.mp c_44, decide_eq_true (lc_0.mp c_81)]; rfl
          refine rv_iconst (v := nI 1) d_Model_sameKey_84 (by decide) ?_
          refine rv_goto (tgt := 89) d_Model_sameKey_85 (by decide) ?_
          refine rv_istore (lv' := [(5, .int (nI 1)), (6, .int (nI i)), (0, .ref x), (1, .int (nI t)), (2, .int (nI k)), (3, .int (nI u)), (4, .int (nI q))]) d_Model_sameKey_89 (by decide) rfl ?_
          refine rv_iinc (k := 1) (v := nI (i + 1)) (lv' := [(6, .int (nI (i + 1))), (5, .int (nI 1)), (0, .ref x), (1, .int (nI t)), (2, .int (nI k)), (3, .int (nI u)), (4, .int (nI q))]) d_Model_sameKey_91 rfl (nI_1 _) (by decide) rfl ?_
          refine rv_goto (tgt := 36) d_Model_sameKey_94 (by decide) ?_
          refine rv_post (Q' := ma_qi (ma_eq (bI (lp_fold (fun i b => b && decide (mo_l S 2 (32 * t + 4 * k + i) = mo_l S 2 (32 * u + 4 * q + i))) m (i + 1) true)) hp)) (fun _ _ h => ?_) (rv_lv [0, 1, 2, 3, 4, 5, 6] rfl (ih (i + 1) true (by omega)))
          rw [← e] at h
          exact h
set_option maxHeartbeats 1000000 in
set_option maxRecDepth 100000 in
theorem c_Model_sameKey {l : Launch} {D : va_G} {ca : Nat → ClassId} {hp : hp_T} {d : Nat} {x : Nat} {A : Nat → Nat} {S : mo_S} (hS : mo_At ca hp x A S) {t k u q : Nat} (ht : t < 42) (hk : k < 8) (hu : u < 42) (hq : q < 8) : ma_V l D ca ma_T M_Model_sameKey d 0 0 hp (ma_qi (ma_eq (bI (md_same S t k u q)) hp)) 0 (lv_args 0 [.ref x, .int (nI t), .int (nI k), .int (nI u), .int (nI q)]) [] := by
  change ma_V l D ca ma_T M_Model_sameKey d 0 0 hp (ma_qi (ma_eq (bI (md_same S t k u q)) hp)) 0 [(0, .ref x), (1, .int (nI t)), (2, .int (nI k)), (3, .int (nI u)), (4, .int (nI q))] []
  have hA2 : hp (A 2) = some (.inl (ca 1, 1344, .inr (.inl (mo_l S 2)))) := hS.2.1 2 (by decide)
  have hA3 : hp (A 3) = some (.inl (ca 0, 336, .inl (mo_i S 3))) := hS.2.1 3 (by decide)
  have hsz := hS.2.2.2.2.1
  have htd := hS.2.2.2.2.2.1
  have hrs := hS.2.2.2.2.2.2
  have hsp := hS.2.2.1
  have hmk : ∀ u, u < 42 → mo_i S 11 u = bI (md_mk S u) := fun u _ => congrFun hS.2.2.2.1 u
  refine rv_aload_n d_Model_sameKey_0 rfl 0 rfl ?_
  refine rv_get ka_Model hS.1 rfl 4 (by decide) (wi_Model_sameKey _ (List.mem_of_getElem? (i := 1) rfl)) rfl d_Model_sameKey_1 ?_
  refine rv_bipush (v := nI 8) d_Model_sameKey_4 (by decide) ?_
  refine rv_iload_n d_Model_sameKey_6 rfl 1 rfl ?_
  refine rv_imul d_Model_sameKey_7 ?_
  refine rv_eqi (pk_mul _ _) ?_
  refine rv_iload_n d_Model_sameKey_8 rfl 2 rfl ?_
  refine rv_iadd d_Model_sameKey_9 ?_
  refine rv_eqi (nI_add _ _) ?_
  refine rv_iald hA3 0 rfl (by omega) (by decide) d_Model_sameKey_10 ?_
  refine rv_aload_n d_Model_sameKey_11 rfl 0 rfl ?_
  refine rv_get ka_Model hS.1 rfl 4 (by decide) (wi_Model_sameKey _ (List.mem_of_getElem? (i := 1) rfl)) rfl d_Model_sameKey_12 ?_
  refine rv_bipush (v := nI 8) d_Model_sameKey_15 (by decide) ?_
  refine rv_iload_n d_Model_sameKey_17 rfl 3 rfl ?_
  refine rv_imul d_Model_sameKey_18 ?_
  refine rv_eqi (pk_mul _ _) ?_
  refine rv_iload d_Model_sameKey_19 4 rfl ?_
  refine rv_iadd d_Model_sameKey_21 ?_
  refine rv_eqi (nI_add _ _) ?_
  refine rv_iald hA3 0 rfl (by omega) (by decide) d_Model_sameKey_22 ?_
  refine rv_icmp_ne (tgt := 30) d_Model_sameKey_23 (by decide) (fun c_23 => ?_) (fun c_23 => ?_)
  · have e0 : decide (mo_i S 3 (8 * t + k) = mo_i S 3 (8 * u + q)) = false := decide_eq_false c_23
    refine rv_iconst (v := nI 0) d_Model_sameKey_30 (by decide) ?_
    refine rv_istore (lv' := [(5, .int (nI 0)), (0, .ref x), (1, .int (nI t)), (2, .int (nI k)), (3, .int (nI u)), (4, .int (nI q))]) d_Model_sameKey_31 (by decide) rfl ?_
    refine rv_iconst (v := nI 0) d_Model_sameKey_33 (by decide) ?_
    refine rv_istore (lv' := [(6, .int (nI 0)), (5, .int (nI 0)), (0, .ref x), (1, .int (nI t)), (2, .int (nI k)), (3, .int (nI u)), (4, .int (nI q))]) d_Model_sameKey_34 (by decide) rfl ?_
    rw [md_same, e0]; exact rv_lv [0, 1, 2, 3, 4, 5, 6] rfl (c_Model_sameKey_l hS ht hk hu hq 4 0 false (Nat.zero_add _))
  · have e0 : decide (mo_i S 3 (8 * t + k) = mo_i S 3 (8 * u + q)) = true := decide_eq_true c_23
    refine rv_iconst (v := nI 1) d_Model_sameKey_26 (by decide) ?_
    refine rv_goto (tgt := 31) d_Model_sameKey_27 (by decide) ?_
    refine rv_istore (lv' := [(5, .int (nI 1)), (0, .ref x), (1, .int (nI t)), (2, .int (nI k)), (3, .int (nI u)), (4, .int (nI q))]) d_Model_sameKey_31 (by decide) rfl ?_
    refine rv_iconst (v := nI 0) d_Model_sameKey_33 (by decide) ?_
    refine rv_istore (lv' := [(6, .int (nI 0)), (5, .int (nI 1)), (0, .ref x), (1, .int (nI t)), (2, .int (nI k)), (3, .int (nI u)), (4, .int (nI q))]) d_Model_sameKey_34 (by decide) rfl ?_
    rw [md_same, e0]; exact rv_lv [0, 1, 2, 3, 4, 5, 6] rfl (c_Model_sameKey_l hS ht hk hu hq 4 0 true (Nat.zero_add _))
set_option maxHeartbeats 1000000 in
set_option maxRecDepth 100000 in
theorem c_Model_misses_l {l : Launch} {D : va_G} {ca : Nat → ClassId} {hp : hp_T} {d : Nat} {x : Nat} {A : Nat → Nat} {S : mo_S} (hS : mo_At ca hp x A S) {t o : Nat} (ht : t < 42) (ho : o < 42) : ∀ (m i : Nat) (a : Bool), i + m = md_sp S t → ma_V l D ca ma_T M_Model_misses (d + 1) 0 0 hp (ma_qi (ma_eq (bI (lp_fold (fun k b => b || (md_has S t k o && (decide (mo_i S 3 (8 * t + k) < 0) || decide (mo_i S 6 o ≤ mo_i S 3 (8 * t + k))))) m i a)) hp)) 5 [(4, .int (nI i)), (3, .int (bI a)), (0, .ref x), (1, .int (nI t)), (2, .int (nI o))] [] := by
  have hA1 : hp (A 1) = some (.inl (ca 0, 42, .inl (mo_i S 1))) := hS.2.1 1 (by decide)
  have hA3 : hp (A 3) = some (.inl (ca 0, 336, .inl (mo_i S 3))) := hS.2.1 3 (by decide)
  have hA6 : hp (A 6) = some (.inl (ca 0, 42, .inl (mo_i S 6))) := hS.2.1 6 (by decide)
  have hsz := hS.2.2.2.2.1
  have htd := hS.2.2.2.2.2.1
  have hrs := hS.2.2.2.2.2.2
  have hsp := hS.2.2.1
  have hmk : ∀ u, u < 42 → mo_i S 11 u = bI (md_mk S u) := fun u _ => congrFun hS.2.2.2.1 u
  have hst := (hsp t ht).2
  intro m
  induction m with
  | zero =>
    intro i a hi
    refine rv_iload d_Model_misses_5 0 rfl ?_
    refine rv_aload_n d_Model_misses_7 rfl 2 rfl ?_
    refine rv_get ka_Model hS.1 rfl 2 (by decide) (wi_Model_misses _ (List.mem_of_getElem? (i := 0) rfl)) rfl d_Model_misses_8 ?_
    refine rv_iload_n d_Model_misses_11 rfl 3 rfl ?_
    refine rv_iald hA1 0 rfl (by omega) (by decide) d_Model_misses_12 ?_
    refine rv_eqi (y := nI (md_sp S t)) ((hsp t (by omega)).1) ?_
    refine rv_icmp_ge (tgt := 73) d_Model_misses_13 (by decide) (fun c_13 => ?_) (fun c_13 => ?_)
    · refine rv_iload_n d_Model_misses_73 rfl 1 rfl ?_
      exact rv_ireturn ⟨_, rfl, rfl, rfl⟩ d_Model_misses_74 rfl (bI_nar _)
    · exact absurd (nI_le (by omega) (by omega)) c_13
  | succ m ih =>
    intro i a hi
    refine rv_iload d_Model_misses_5 0 rfl ?_
    refine rv_aload_n d_Model_misses_7 rfl 2 rfl ?_
    refine rv_get ka_Model hS.1 rfl 2 (by decide) (wi_Model_misses _ (List.mem_of_getElem? (i := 0) rfl)) rfl d_Model_misses_8 ?_
    refine rv_iload_n d_Model_misses_11 rfl 3 rfl ?_
    refine rv_iald hA1 0 rfl (by omega) (by decide) d_Model_misses_12 ?_
    refine rv_eqi (y := nI (md_sp S t)) ((hsp t (by omega)).1) ?_
    refine rv_icmp_ge (tgt := 73) d_Model_misses_13 (by decide) (fun c_13 => ?_) (fun c_13 => ?_)
    · exact absurd c_13 (nI_ge (by omega) (by omega))
    · refine rv_aload_n d_Model_misses_16 rfl 2 rfl ?_
      refine rv_get ka_Model hS.1 rfl 4 (by decide) (wi_Model_misses _ (List.mem_of_getElem? (i := 1) rfl)) rfl d_Model_misses_17 ?_
      refine rv_bipush (v := nI 8) d_Model_misses_20 (by decide) ?_
      refine rv_iload_n d_Model_misses_22 rfl 3 rfl ?_
      refine rv_imul d_Model_misses_23 ?_
      refine rv_eqi (pk_mul _ _) ?_
      refine rv_iload d_Model_misses_24 0 rfl ?_
      refine rv_iadd d_Model_misses_26 ?_
      refine rv_eqi (nI_add _ _) ?_
      refine rv_iald hA3 0 rfl (by omega) (by decide) d_Model_misses_27 ?_
      refine rv_istore (lv' := [(5, .int ((mo_i S 3) ((8 * t) + i))), (4, .int (nI i)), (3, .int (bI a)), (0, .ref x), (1, .int (nI t)), (2, .int (nI o))]) d_Model_misses_28 (by decide) rfl ?_
      refine rv_iload_n d_Model_misses_30 rfl 2 rfl ?_
      refine rv_if_ne (tgt := 61) d_Model_misses_31 (by decide) (fun c_31 => ?_) (fun c_31 => ?_)
      · have e : (fun k b => b || (md_has S t k o && (decide (mo_i S 3 (8 * t + k) < 0) || decide (mo_i S 6 o ≤ mo_i S 3 (8 * t + k))))) i a = true := by show (a || _) = true; rw [bI_n.mp c_31, Bool.true_or]
        refine rv_iconst (v := nI 1) d_Model_misses_61 (by decide) ?_
        refine rv_goto (tgt := 66) d_Model_misses_62 (by decide) ?_
        refine rv_istore_n (lv' := [(3, .int (nI 1)), (5, .int ((mo_i S 3) ((8 * t) + i))), (4, .int (nI i)), (0, .ref x), (1, .int (nI t)), (2, .int (nI o))]) d_Model_misses_66 rfl (by decide) rfl ?_
        refine rv_iinc (k := 2) (v := nI (i + 1)) (lv' := [(4, .int (nI (i + 1))), (3, .int (nI 1)), (5, .int ((mo_i S 3) ((8 * t) + i))), (0, .ref x), (1, .int (nI t)), (2, .int (nI o))]) d_Model_misses_67 rfl (nI_1 _) (by decide) rfl ?_
        refine rv_goto (tgt := 5) d_Model_misses_70 (by decide) ?_
        refine rv_post (Q' := ma_qi (ma_eq (bI (lp_fold (fun k b => b || (md_has S t k o && (decide (mo_i S 3 (8 * t + k) < 0) || decide (mo_i S 6 o ≤ mo_i S 3 (8 * t + k))))) m (i + 1) true)) hp)) (fun _ _ h => ?_) (rv_lv [0, 1, 3, 4, 5] rfl (ih (i + 1) true (by omega)))
        rw [← e] at h
        exact h
      · refine rv_aload_n d_Model_misses_34 rfl 3 rfl ?_
        refine rv_iload_n d_Model_misses_35 rfl 4 rfl ?_
        refine rv_iload d_Model_misses_36 1 rfl ?_
        refine rv_iload_n d_Model_misses_38 rfl 5 rfl ?_
        refine rv_callV (kc' := 0) (ks' := 0) (kc1 := 0) (ks1 := 0) (As := [.int (nI t), .int (nI i), .int (nI o)]) (rest := []) hS.1 rfl (c_Model_hasName hS (by omega) (by omega) (by omega)) ok_Model_hasName (wi_Model_misses _ (List.mem_of_getElem? (i := 2) rfl)) (wi_Model_misses _ (List.mem_of_getElem? (i := 3) rfl)) (wi_Model_misses _ (List.mem_of_getElem? (i := 4) rfl)) rfl rfl (Nat.le_of_ble_eq_true rfl) (Nat.le_of_ble_eq_true rfl) ⟨Nat.le_of_ble_eq_true rfl, Nat.le_of_ble_eq_true rfl⟩ d_Model_misses_39 (rv_kie ?_)
        refine rv_if_eq (tgt := 65) d_Model_misses_42 (by decide) (fun c_42 => ?_) (fun c_42 => ?_)
        · have e : (fun k b => b || (md_has S t k o && (decide (mo_i S 3 (8 * t + k) < 0) || decide (mo_i S 6 o ≤ mo_i S 3 (8 * t + k))))) i a = false := by show (a || (_ && _)) = false; rw [bI_0.mp c_31, bI_0.mp c_42]; rfl
          refine rv_iconst (v := nI 0) d_Model_misses_65 (by decide) ?_
          refine rv_istore_n (lv' := [(3, .int (nI 0)), (5, .int ((mo_i S 3) ((8 * t) + i))), (4, .int (nI i)), (0, .ref x), (1, .int (nI t)), (2, .int (nI o))]) d_Model_misses_66 rfl (by decide) rfl ?_
          refine rv_iinc (k := 2) (v := nI (i + 1)) (lv' := [(4, .int (nI (i + 1))), (3, .int (nI 0)), (5, .int ((mo_i S 3) ((8 * t) + i))), (0, .ref x), (1, .int (nI t)), (2, .int (nI o))]) d_Model_misses_67 rfl (nI_1 _) (by decide) rfl ?_
          refine rv_goto (tgt := 5) d_Model_misses_70 (by decide) ?_
          refine rv_post (Q' := ma_qi (ma_eq (bI (lp_fold (fun k b => b || (md_has S t k o && (decide (mo_i S 3 (8 * t + k) < 0) || decide (mo_i S 6 o ≤ mo_i S 3 (8 * t + k))))) m (i + 1) false)) hp)) (fun _ _ h => ?_) (rv_lv [0, 1, 3, 4, 5] rfl (ih (i + 1) false (by omega)))
          rw [← e] at h
          exact h
        · refine rv_iload d_Model_misses_45 0 rfl ?_
          refine rv_if_lt (tgt := 61) d_Model_misses_47 (by decide) (fun c_47 => ?_) (fun c_47 => ?_)
          · have e : (fun k b => b || (md_has S t k o && (decide (mo_i S 3 (8 * t + k) < 0) || decide (mo_i S 6 o ≤ mo_i S 3 (8 * t + k))))) i a = true := by show (a || (_ && (_ || _))) = true; rw [bI_n.mp c_42, decide_eq_true c_47]; simp
            refine rv_iconst (v := nI 1) d_Model_misses_61 (by decide) ?_
            refine rv_goto (tgt := 66) d_Model_misses_62 (by decide) ?_
            refine rv_istore_n (lv' := [(3, .int (nI 1)), (5, .int ((mo_i S 3) ((8 * t) + i))), (4, .int (nI i)), (0, .ref x), (1, .int (nI t)), (2, .int (nI o))]) d_Model_misses_66 rfl (by decide) rfl ?_
            refine rv_iinc (k := 2) (v := nI (i + 1)) (lv' := [(4, .int (nI (i + 1))), (3, .int (nI 1)), (5, .int ((mo_i S 3) ((8 * t) + i))), (0, .ref x), (1, .int (nI t)), (2, .int (nI o))]) d_Model_misses_67 rfl (nI_1 _) (by decide) rfl ?_
            refine rv_goto (tgt := 5) d_Model_misses_70 (by decide) ?_
            refine rv_post (Q' := ma_qi (ma_eq (bI (lp_fold (fun k b => b || (md_has S t k o && (decide (mo_i S 3 (8 * t + k) < 0) || decide (mo_i S 6 o ≤ mo_i S 3 (8 * t + k))))) m (i + 1) true)) hp)) (fun _ _ h => ?_) (rv_lv [0, 1, 3, 4, 5] rfl (ih (i + 1) true (by omega)))
            rw [← e] at h
            exact h
          · refine rv_iload d_Model_misses_50 0 rfl ?_
            refine rv_aload_n d_Model_misses_52 rfl 3 rfl ?_
            refine rv_get ka_Model hS.1 rfl 7 (by decide) (wi_Model_misses _ (List.mem_of_getElem? (i := 5) rfl)) rfl d_Model_misses_53 ?_
            refine rv_iload_n d_Model_misses_56 rfl 5 rfl ?_
            refine rv_iald hA6 0 rfl (by omega) (by decide) d_Model_misses_57 ?_
            refine rv_icmp_lt (tgt := 65) d_Model_misses_58 (by decide) (fun c_58 => ?_) (fun c_58 => ?_)
            · have e : (fun k b => b || (md_has S t k o && (decide (mo_i S 3 (8 * t + k) < 0) || decide (mo_i S 6 o ≤ mo_i S 3 (8 * t + k))))) i a = false := by show (a || (_ && (_ || _))) = false; rw [bI_0.mp c_31, decide_eq_false c_47, decide_eq_false (Int32.not_le.mpr c_58)]; simp
              refine rv_iconst (v := nI 0) d_Model_misses_65 (by decide) ?_
              refine rv_istore_n (lv' := [(3, .int (nI 0)), (5, .int ((mo_i S 3) ((8 * t) + i))), (4, .int (nI i)), (0, .ref x), (1, .int (nI t)), (2, .int (nI o))]) d_Model_misses_66 rfl (by decide) rfl ?_
              refine rv_iinc (k := 2) (v := nI (i + 1)) (lv' := [(4, .int (nI (i + 1))), (3, .int (nI 0)), (5, .int ((mo_i S 3) ((8 * t) + i))), (0, .ref x), (1, .int (nI t)), (2, .int (nI o))]) d_Model_misses_67 rfl (nI_1 _) (by decide) rfl ?_
              refine rv_goto (tgt := 5) d_Model_misses_70 (by decide) ?_
              refine rv_post (Q' := ma_qi (ma_eq (bI (lp_fold (fun k b => b || (md_has S t k o && (decide (mo_i S 3 (8 * t + k) < 0) || decide (mo_i S 6 o ≤ mo_i S 3 (8 * t + k))))) m (i + 1) false)) hp)) (fun _ _ h => ?_) (rv_lv [0, 1, 3, 4, 5] rfl (ih (i + 1) false (by omega)))
              rw [← e] at h
              exact h
            · have e : (fun k b => b || (md_has S t k o && (decide (mo_i S 3 (8 * t + k) < 0) || decide (mo_i S 6 o ≤ mo_i S 3 (8 * t + k))))) i a = true := by show (a || (_ && (_ || _))) = true; rw [bI_n.mp c_42, decide_eq_true (Int32.not_lt.mp c_58)]; simp
              refine rv_iconst (v := nI 1) d_Model_misses_61 (by decide) ?_
              refine rv_goto (tgt := 66) d_Model_misses_62 (by decide) ?_
              refine rv_istore_n (lv' := [(3, .int (nI 1)), (5, .int ((mo_i S 3) ((8 * t) + i))), (4, .int (nI i)), (0, .ref x), (1, .int (nI t)), (2, .int (nI o))]) d_Model_misses_66 rfl (by decide) rfl ?_
              refine rv_iinc (k := 2) (v := nI (i + 1)) (lv' := [(4, .int (nI (i + 1))), (3, .int (nI 1)), (5, .int ((mo_i S 3) ((8 * t) + i))), (0, .ref x), (1, .int (nI t)), (2, .int (nI o))]) d_Model_misses_67 rfl (nI_1 _) (by decide) rfl ?_
              refine rv_goto (tgt := 5) d_Model_misses_70 (by decide) ?_
              refine rv_post (Q' := ma_qi (ma_eq (bI (lp_fold (fun k b => b || (md_has S t k o && (decide (mo_i S 3 (8 * t + k) < 0) || decide (mo_i S 6 o ≤ mo_i S 3 (8 * t + k))))) m (i + 1) true)) hp)) (fun _ _ h => ?_) (rv_lv [0, 1, 3, 4, 5] rfl (ih (i + 1) true (by omega)))
              rw [← e] at h
              exact h
set_option maxHeartbeats 1000000 in
set_option maxRecDepth 100000 in
theorem c_Model_misses {l : Launch} {D : va_G} {ca : Nat → ClassId} {hp : hp_T} {d : Nat} {x : Nat} {A : Nat → Nat} {S : mo_S} (hS : mo_At ca hp x A S) {t o : Nat} (ht : t < 42) (ho : o < 42) : ma_V l D ca ma_T M_Model_misses (d + 1) 0 0 hp (ma_qi (ma_eq (bI (md_miss S t o)) hp)) 0 (lv_args 0 [.ref x, .int (nI t), .int (nI o)]) [] := by
  change ma_V l D ca ma_T M_Model_misses (d + 1) 0 0 hp (ma_qi (ma_eq (bI (md_miss S t o)) hp)) 0 [(0, .ref x), (1, .int (nI t)), (2, .int (nI o))] []
  have hA1 : hp (A 1) = some (.inl (ca 0, 42, .inl (mo_i S 1))) := hS.2.1 1 (by decide)
  have hA3 : hp (A 3) = some (.inl (ca 0, 336, .inl (mo_i S 3))) := hS.2.1 3 (by decide)
  have hA6 : hp (A 6) = some (.inl (ca 0, 42, .inl (mo_i S 6))) := hS.2.1 6 (by decide)
  have hsz := hS.2.2.2.2.1
  have htd := hS.2.2.2.2.2.1
  have hrs := hS.2.2.2.2.2.2
  have hsp := hS.2.2.1
  have hmk : ∀ u, u < 42 → mo_i S 11 u = bI (md_mk S u) := fun u _ => congrFun hS.2.2.2.1 u
  refine rv_iconst (v := nI 0) d_Model_misses_0 (by decide) ?_
  refine rv_istore_n (lv' := [(3, .int (nI 0)), (0, .ref x), (1, .int (nI t)), (2, .int (nI o))]) d_Model_misses_1 rfl (by decide) rfl ?_
  refine rv_iconst (v := nI 0) d_Model_misses_2 (by decide) ?_
  refine rv_istore (lv' := [(4, .int (nI 0)), (3, .int (nI 0)), (0, .ref x), (1, .int (nI t)), (2, .int (nI o))]) d_Model_misses_3 (by decide) rfl ?_
  exact rv_lv [0, 1, 2, 3, 4] rfl (c_Model_misses_l hS ht ho (md_sp S t) 0 false (Nat.zero_add _))
set_option maxHeartbeats 1000000 in
set_option maxRecDepth 100000 in
theorem c_Model_feesOf_l {l : Launch} {D : va_G} {ca : Nat → ClassId} {hp : hp_T} {d : Nat} {x : Nat} {A : Nat → Nat} {S : mo_S} (hS : mo_At ca hp x A S) {m0 : Bool} : ∀ (m i : Nat) (a : Int64), i + m = mo_z S → ma_V l D ca ma_T M_Model_feesOf d 0 0 hp (ma_ql (ma_eq ((lp_fold (fun t a => a + (if (md_mk S t || !m0) = true then mo_l S 4 t else 0)) m i a)) hp)) 5 [(4, .int (nI i)), (2, .long a), (0, .ref x), (1, .int (bI m0))] [] := by
  have hA4 : hp (A 4) = some (.inl (ca 1, 42, .inr (.inl (mo_l S 4)))) := hS.2.1 4 (by decide)
  have hA11 : hp (A 11) = some (.inl (ca 3, 42, .inl (mo_i S 11))) := hS.2.1 11 (by decide)
  have hsz := hS.2.2.2.2.1
  have htd := hS.2.2.2.2.2.1
  have hrs := hS.2.2.2.2.2.2
  have hsp := hS.2.2.1
  have hmk : ∀ u, u < 42 → mo_i S 11 u = bI (md_mk S u) := fun u _ => congrFun hS.2.2.2.1 u
  intro m
  induction m with
  | zero =>
    intro i a hi
    refine rv_iload d_Model_feesOf_5 0 rfl ?_
    refine rv_aload_n d_Model_feesOf_7 rfl 2 rfl ?_
    refine rv_get ka_Model hS.1 rfl 0 (by decide) (wi_Model_feesOf _ (List.mem_of_getElem? (i := 0) rfl)) rfl d_Model_feesOf_8 ?_
    refine rv_icmp_ge (tgt := 48) d_Model_feesOf_11 (by decide) (fun c_11 => ?_) (fun c_11 => ?_)
    · refine rv_lload_n d_Model_feesOf_48 rfl 1 rfl ?_
      exact rv_lreturn ⟨_, rfl, rfl, rfl⟩ d_Model_feesOf_49 rfl
    · exact absurd (nI_le (by omega) (by omega)) c_11
  | succ m ih =>
    intro i a hi
    refine rv_iload d_Model_feesOf_5 0 rfl ?_
    refine rv_aload_n d_Model_feesOf_7 rfl 2 rfl ?_
    refine rv_get ka_Model hS.1 rfl 0 (by decide) (wi_Model_feesOf _ (List.mem_of_getElem? (i := 0) rfl)) rfl d_Model_feesOf_8 ?_
    refine rv_icmp_ge (tgt := 48) d_Model_feesOf_11 (by decide) (fun c_11 => ?_) (fun c_11 => ?_)
    · exact absurd c_11 (nI_ge (by omega) (by omega))
    · refine rv_lload_n d_Model_feesOf_14 rfl 1 rfl ?_
      refine rv_aload_n d_Model_feesOf_15 rfl 2 rfl ?_
      refine rv_get ka_Model hS.1 rfl 14 (by decide) (wi_Model_feesOf _ (List.mem_of_getElem? (i := 1) rfl)) rfl d_Model_feesOf_16 ?_
      refine rv_iload d_Model_feesOf_19 0 rfl ?_
      refine rv_zald hA11 3 rfl (by omega) (by decide) d_Model_feesOf_21 ?_
      refine rv_eqi (y := bI (md_mk S i)) (hmk i (by omega)) ?_
      refine rv_if_ne (tgt := 29) d_Model_feesOf_22 (by decide) (fun c_22 => ?_) (fun c_22 => ?_)
      · have e : (fun t a => a + (if (md_mk S t || !m0) = true then mo_l S 4 t else 0)) i a = a + mo_l S 4 i := by show a + _ = _; rw [if_pos (by rw [bI_n.mp c_22, Bool.true_or])]
        refine rv_aload_n d_Model_feesOf_29 rfl 2 rfl ?_
        refine rv_get ka_Model hS.1 rfl 5 (by decide) (wi_Model_feesOf _ (List.mem_of_getElem? (i := 2) rfl)) rfl d_Model_feesOf_30 ?_
        refine rv_iload d_Model_feesOf_33 0 rfl ?_
        refine rv_lald hA4 1 rfl (by omega) (by decide) d_Model_feesOf_35 ?_
        refine rv_goto (tgt := 40) d_Model_feesOf_36 (by decide) ?_
        refine rv_ladd d_Model_feesOf_40 ?_
        refine rv_lstore_n (lv' := [(2, .long (a + ((mo_l S 4) i))), (4, .int (nI i)), (0, .ref x), (1, .int (bI m0))]) d_Model_feesOf_41 rfl (by decide) rfl ?_
        refine rv_iinc (k := 1) (v := nI (i + 1)) (lv' := [(4, .int (nI (i + 1))), (2, .long (a + ((mo_l S 4) i))), (0, .ref x), (1, .int (bI m0))]) d_Model_feesOf_42 rfl (nI_1 _) (by decide) rfl ?_
        refine rv_goto (tgt := 5) d_Model_feesOf_45 (by decide) ?_
        refine rv_post (Q' := ma_ql (ma_eq ((lp_fold (fun t a => a + (if (md_mk S t || !m0) = true then mo_l S 4 t else 0)) m (i + 1) (a + ((mo_l S 4) i)))) hp)) (fun _ _ h => ?_) (rv_lv [0, 1, 2, 3] rfl (ih (i + 1) (a + ((mo_l S 4) i)) (by omega)))
        rw [← e] at h
        exact h
      · refine rv_iload_n d_Model_feesOf_25 rfl 3 rfl ?_
        refine rv_if_ne (tgt := 39) d_Model_feesOf_26 (by decide) (fun c_26 => ?_) (fun c_26 => ?_)
        · have e : (fun t a => a + (if (md_mk S t || !m0) = true then mo_l S 4 t else 0)) i a = a + 0 := by show a + _ = _; rw [if_neg (by rw [bI_0.mp c_22, bI_n.mp c_26, Bool.not_true, Bool.or_false]; exact Bool.false_ne_true)]
          refine rv_lconst (v := 0) d_Model_feesOf_39 (by decide) ?_
          refine rv_ladd d_Model_feesOf_40 ?_
          refine rv_lstore_n (lv' := [(2, .long (a + 0)), (4, .int (nI i)), (0, .ref x), (1, .int (bI m0))]) d_Model_feesOf_41 rfl (by decide) rfl ?_
          refine rv_iinc (k := 1) (v := nI (i + 1)) (lv' := [(4, .int (nI (i + 1))), (2, .long (a + 0)), (0, .ref x), (1, .int (bI m0))]) d_Model_feesOf_42 rfl (nI_1 _) (by decide) rfl ?_
          refine rv_goto (tgt := 5) d_Model_feesOf_45 (by decide) ?_
          refine rv_post (Q' := ma_ql (ma_eq ((lp_fold (fun t a => a + (if (md_mk S t || !m0) = true then mo_l S 4 t else 0)) m (i + 1) (a + 0))) hp)) (fun _ _ h => ?_) (rv_lv [0, 1, 2, 3] rfl (ih (i + 1) (a + 0) (by omega)))
          rw [← e] at h
          exact h
        · have e : (fun t a => a + (if (md_mk S t || !m0) = true then mo_l S 4 t else 0)) i a = a + mo_l S 4 i := by show a + _ = _; rw [if_pos (by rw [bI_0.mp c_26, Bool.not_false, Bool.or_true])]
          refine rv_aload_n d_Model_feesOf_29 rfl 2 rfl ?_
          refine rv_get ka_Model hS.1 rfl 5 (by decide) (wi_Model_feesOf _ (List.mem_of_getElem? (i := 2) rfl)) rfl d_Model_feesOf_30 ?_
          refine rv_iload d_Model_feesOf_33 0 rfl ?_
          refine rv_lald hA4 1 rfl (by omega) (by decide) d_Model_feesOf_35 ?_
          refine rv_goto (tgt := 40) d_Model_feesOf_36 (by decide) ?_
          refine rv_ladd d_Model_feesOf_40 ?_
          refine rv_lstore_n (lv' := [(2, .long (a + ((mo_l S 4) i))), (4, .int (nI i)), (0, .ref x), (1, .int (bI m0))]) d_Model_feesOf_41 rfl (by decide) rfl ?_
          refine rv_iinc (k := 1) (v := nI (i + 1)) (lv' := [(4, .int (nI (i + 1))), (2, .long (a + ((mo_l S 4) i))), (0, .ref x), (1, .int (bI m0))]) d_Model_feesOf_42 rfl (nI_1 _) (by decide) rfl ?_
          refine rv_goto (tgt := 5) d_Model_feesOf_45 (by decide) ?_
          refine rv_post (Q' := ma_ql (ma_eq ((lp_fold (fun t a => a + (if (md_mk S t || !m0) = true then mo_l S 4 t else 0)) m (i + 1) (a + ((mo_l S 4) i)))) hp)) (fun _ _ h => ?_) (rv_lv [0, 1, 2, 3] rfl (ih (i + 1) (a + ((mo_l S 4) i)) (by omega)))
          rw [← e] at h
          exact h
set_option maxHeartbeats 1000000 in
set_option maxRecDepth 100000 in
theorem c_Model_feesOf {l : Launch} {D : va_G} {ca : Nat → ClassId} {hp : hp_T} {d : Nat} {x : Nat} {A : Nat → Nat} {S : mo_S} (hS : mo_At ca hp x A S) {m0 : Bool} : ma_V l D ca ma_T M_Model_feesOf d 0 0 hp (ma_ql (ma_eq (md_fees S m0) hp)) 0 (lv_args 0 [.ref x, .int (bI m0)]) [] := by
  change ma_V l D ca ma_T M_Model_feesOf d 0 0 hp (ma_ql (ma_eq (md_fees S m0) hp)) 0 [(0, .ref x), (1, .int (bI m0))] []
  have hA4 : hp (A 4) = some (.inl (ca 1, 42, .inr (.inl (mo_l S 4)))) := hS.2.1 4 (by decide)
  have hA11 : hp (A 11) = some (.inl (ca 3, 42, .inl (mo_i S 11))) := hS.2.1 11 (by decide)
  have hsz := hS.2.2.2.2.1
  have htd := hS.2.2.2.2.2.1
  have hrs := hS.2.2.2.2.2.2
  have hsp := hS.2.2.1
  have hmk : ∀ u, u < 42 → mo_i S 11 u = bI (md_mk S u) := fun u _ => congrFun hS.2.2.2.1 u
  refine rv_lconst (v := 0) d_Model_feesOf_0 (by decide) ?_
  refine rv_lstore_n (lv' := [(2, .long 0), (0, .ref x), (1, .int (bI m0))]) d_Model_feesOf_1 rfl (by decide) rfl ?_
  refine rv_iconst (v := nI 0) d_Model_feesOf_2 (by decide) ?_
  refine rv_istore (lv' := [(4, .int (nI 0)), (2, .long 0), (0, .ref x), (1, .int (bI m0))]) d_Model_feesOf_3 (by decide) rfl ?_
  exact rv_lv [0, 1, 2, 3] rfl (c_Model_feesOf_l hS (mo_z S) 0 0 (Nat.zero_add _))
set_option maxHeartbeats 1000000 in
set_option maxRecDepth 100000 in
theorem c_Model_sizesOf_l {l : Launch} {D : va_G} {ca : Nat → ClassId} {hp : hp_T} {d : Nat} {x : Nat} {A : Nat → Nat} {S : mo_S} (hS : mo_At ca hp x A S) {m0 : Bool} : ∀ (m i : Nat) (a : Int64), i + m = mo_z S → ma_V l D ca ma_T M_Model_sizesOf d 0 0 hp (ma_ql (ma_eq ((lp_fold (fun t a => a + (if (md_mk S t || !m0) = true then mo_i S 5 t else nI 0).toInt64) m i a)) hp)) 5 [(4, .int (nI i)), (2, .long a), (0, .ref x), (1, .int (bI m0))] [] := by
  have hA5 : hp (A 5) = some (.inl (ca 0, 42, .inl (mo_i S 5))) := hS.2.1 5 (by decide)
  have hA11 : hp (A 11) = some (.inl (ca 3, 42, .inl (mo_i S 11))) := hS.2.1 11 (by decide)
  have hsz := hS.2.2.2.2.1
  have htd := hS.2.2.2.2.2.1
  have hrs := hS.2.2.2.2.2.2
  have hsp := hS.2.2.1
  have hmk : ∀ u, u < 42 → mo_i S 11 u = bI (md_mk S u) := fun u _ => congrFun hS.2.2.2.1 u
  intro m
  induction m with
  | zero =>
    intro i a hi
    refine rv_iload d_Model_sizesOf_5 0 rfl ?_
    refine rv_aload_n d_Model_sizesOf_7 rfl 2 rfl ?_
    refine rv_get ka_Model hS.1 rfl 0 (by decide) (wi_Model_sizesOf _ (List.mem_of_getElem? (i := 0) rfl)) rfl d_Model_sizesOf_8 ?_
    refine rv_icmp_ge (tgt := 49) d_Model_sizesOf_11 (by decide) (fun c_11 => ?_) (fun c_11 => ?_)
    · refine rv_lload_n d_Model_sizesOf_49 rfl 1 rfl ?_
      exact rv_lreturn ⟨_, rfl, rfl, rfl⟩ d_Model_sizesOf_50 rfl
    · exact absurd (nI_le (by omega) (by omega)) c_11
  | succ m ih =>
    intro i a hi
    refine rv_iload d_Model_sizesOf_5 0 rfl ?_
    refine rv_aload_n d_Model_sizesOf_7 rfl 2 rfl ?_
    refine rv_get ka_Model hS.1 rfl 0 (by decide) (wi_Model_sizesOf _ (List.mem_of_getElem? (i := 0) rfl)) rfl d_Model_sizesOf_8 ?_
    refine rv_icmp_ge (tgt := 49) d_Model_sizesOf_11 (by decide) (fun c_11 => ?_) (fun c_11 => ?_)
    · exact absurd c_11 (nI_ge (by omega) (by omega))
    · refine rv_lload_n d_Model_sizesOf_14 rfl 1 rfl ?_
      refine rv_aload_n d_Model_sizesOf_15 rfl 2 rfl ?_
      refine rv_get ka_Model hS.1 rfl 14 (by decide) (wi_Model_sizesOf _ (List.mem_of_getElem? (i := 1) rfl)) rfl d_Model_sizesOf_16 ?_
      refine rv_iload d_Model_sizesOf_19 0 rfl ?_
      refine rv_zald hA11 3 rfl (by omega) (by decide) d_Model_sizesOf_21 ?_
      refine rv_eqi (y := bI (md_mk S i)) (hmk i (by omega)) ?_
      refine rv_if_ne (tgt := 29) d_Model_sizesOf_22 (by decide) (fun c_22 => ?_) (fun c_22 => ?_)
      · have e : (fun t a => a + (if (md_mk S t || !m0) = true then mo_i S 5 t else nI 0).toInt64) i a = a + (mo_i S 5 i).toInt64 := by show a + _ = _; rw [if_pos (by rw [bI_n.mp c_22, Bool.true_or])]
        refine rv_aload_n d_Model_sizesOf_29 rfl 2 rfl ?_
        refine rv_get ka_Model hS.1 rfl 6 (by decide) (wi_Model_sizesOf _ (List.mem_of_getElem? (i := 2) rfl)) rfl d_Model_sizesOf_30 ?_
        refine rv_iload d_Model_sizesOf_33 0 rfl ?_
        refine rv_iald hA5 0 rfl (by omega) (by decide) d_Model_sizesOf_35 ?_
        refine rv_goto (tgt := 40) d_Model_sizesOf_36 (by decide) ?_
        refine rv_i2l d_Model_sizesOf_40 ?_
        refine rv_ladd d_Model_sizesOf_41 ?_
        refine rv_lstore_n (lv' := [(2, .long (a + (((mo_i S 5) i).toInt64))), (4, .int (nI i)), (0, .ref x), (1, .int (bI m0))]) d_Model_sizesOf_42 rfl (by decide) rfl ?_
        refine rv_iinc (k := 1) (v := nI (i + 1)) (lv' := [(4, .int (nI (i + 1))), (2, .long (a + (((mo_i S 5) i).toInt64))), (0, .ref x), (1, .int (bI m0))]) d_Model_sizesOf_43 rfl (nI_1 _) (by decide) rfl ?_
        refine rv_goto (tgt := 5) d_Model_sizesOf_46 (by decide) ?_
        refine rv_post (Q' := ma_ql (ma_eq ((lp_fold (fun t a => a + (if (md_mk S t || !m0) = true then mo_i S 5 t else nI 0).toInt64) m (i + 1) (a + (((mo_i S 5) i).toInt64)))) hp)) (fun _ _ h => ?_) (rv_lv [0, 1, 2, 3] rfl (ih (i + 1) (a + (((mo_i S 5) i).toInt64)) (by omega)))
        rw [← e] at h
        exact h
      · refine rv_iload_n d_Model_sizesOf_25 rfl 3 rfl ?_
        refine rv_if_ne (tgt := 39) d_Model_sizesOf_26 (by decide) (fun c_26 => ?_) (fun c_26 => ?_)
        · have e : (fun t a => a + (if (md_mk S t || !m0) = true then mo_i S 5 t else nI 0).toInt64) i a = a + (nI 0).toInt64 := by show a + _ = _; rw [if_neg (by rw [bI_0.mp c_22, bI_n.mp c_26, Bool.not_true, Bool.or_false]; exact Bool.false_ne_true)]
          refine rv_iconst (v := nI 0) d_Model_sizesOf_39 (by decide) ?_
          refine rv_i2l d_Model_sizesOf_40 ?_
          refine rv_ladd d_Model_sizesOf_41 ?_
          refine rv_lstore_n (lv' := [(2, .long (a + ((nI 0).toInt64))), (4, .int (nI i)), (0, .ref x), (1, .int (bI m0))]) d_Model_sizesOf_42 rfl (by decide) rfl ?_
          refine rv_iinc (k := 1) (v := nI (i + 1)) (lv' := [(4, .int (nI (i + 1))), (2, .long (a + ((nI 0).toInt64))), (0, .ref x), (1, .int (bI m0))]) d_Model_sizesOf_43 rfl (nI_1 _) (by decide) rfl ?_
          refine rv_goto (tgt := 5) d_Model_sizesOf_46 (by decide) ?_
          refine rv_post (Q' := ma_ql (ma_eq ((lp_fold (fun t a => a + (if (md_mk S t || !m0) = true then mo_i S 5 t else nI 0).toInt64) m (i + 1) (a + ((nI 0).toInt64)))) hp)) (fun _ _ h => ?_) (rv_lv [0, 1, 2, 3] rfl (ih (i + 1) (a + ((nI 0).toInt64)) (by omega)))
          rw [← e] at h
          exact h
        · have e : (fun t a => a + (if (md_mk S t || !m0) = true then mo_i S 5 t else nI 0).toInt64) i a = a + (mo_i S 5 i).toInt64 := by show a + _ = _; rw [if_pos (by rw [bI_0.mp c_26, Bool.not_false, Bool.or_true])]
          refine rv_aload_n d_Model_sizesOf_29 rfl 2 rfl ?_
          refine rv_get ka_Model hS.1 rfl 6 (by decide) (wi_Model_sizesOf _ (List.mem_of_getElem? (i := 2) rfl)) rfl d_Model_sizesOf_30 ?_
          refine rv_iload d_Model_sizesOf_33 0 rfl ?_
          refine rv_iald hA5 0 rfl (by omega) (by decide) d_Model_sizesOf_35 ?_
          refine rv_goto (tgt := 40) d_Model_sizesOf_36 (by decide) ?_
          refine rv_i2l d_Model_sizesOf_40 ?_
          refine rv_ladd d_Model_sizesOf_41 ?_
          refine rv_lstore_n (lv' := [(2, .long (a + (((mo_i S 5) i).toInt64))), (4, .int (nI i)), (0, .ref x), (1, .int (bI m0))]) d_Model_sizesOf_42 rfl (by decide) rfl ?_
          refine rv_iinc (k := 1) (v := nI (i + 1)) (lv' := [(4, .int (nI (i + 1))), (2, .long (a + (((mo_i S 5) i).toInt64))), (0, .ref x), (1, .int (bI m0))]) d_Model_sizesOf_43 rfl (nI_1 _) (by decide) rfl ?_
          refine rv_goto (tgt := 5) d_Model_sizesOf_46 (by decide) ?_
          refine rv_post (Q' := ma_ql (ma_eq ((lp_fold (fun t a => a + (if (md_mk S t || !m0) = true then mo_i S 5 t else nI 0).toInt64) m (i + 1) (a + (((mo_i S 5) i).toInt64)))) hp)) (fun _ _ h => ?_) (rv_lv [0, 1, 2, 3] rfl (ih (i + 1) (a + (((mo_i S 5) i).toInt64)) (by omega)))
          rw [← e] at h
          exact h
set_option maxHeartbeats 1000000 in
set_option maxRecDepth 100000 in
theorem c_Model_sizesOf {l : Launch} {D : va_G} {ca : Nat → ClassId} {hp : hp_T} {d : Nat} {x : Nat} {A : Nat → Nat} {S : mo_S} (hS : mo_At ca hp x A S) {m0 : Bool} : ma_V l D ca ma_T M_Model_sizesOf d 0 0 hp (ma_ql (ma_eq (md_sizes S m0) hp)) 0 (lv_args 0 [.ref x, .int (bI m0)]) [] := by
  change ma_V l D ca ma_T M_Model_sizesOf d 0 0 hp (ma_ql (ma_eq (md_sizes S m0) hp)) 0 [(0, .ref x), (1, .int (bI m0))] []
  have hA5 : hp (A 5) = some (.inl (ca 0, 42, .inl (mo_i S 5))) := hS.2.1 5 (by decide)
  have hA11 : hp (A 11) = some (.inl (ca 3, 42, .inl (mo_i S 11))) := hS.2.1 11 (by decide)
  have hsz := hS.2.2.2.2.1
  have htd := hS.2.2.2.2.2.1
  have hrs := hS.2.2.2.2.2.2
  have hsp := hS.2.2.1
  have hmk : ∀ u, u < 42 → mo_i S 11 u = bI (md_mk S u) := fun u _ => congrFun hS.2.2.2.1 u
  refine rv_lconst (v := 0) d_Model_sizesOf_0 (by decide) ?_
  refine rv_lstore_n (lv' := [(2, .long 0), (0, .ref x), (1, .int (bI m0))]) d_Model_sizesOf_1 rfl (by decide) rfl ?_
  refine rv_iconst (v := nI 0) d_Model_sizesOf_2 (by decide) ?_
  refine rv_istore (lv' := [(4, .int (nI 0)), (2, .long 0), (0, .ref x), (1, .int (bI m0))]) d_Model_sizesOf_3 (by decide) rfl ?_
  exact rv_lv [0, 1, 2, 3] rfl (c_Model_sizesOf_l hS (mo_z S) 0 0 (Nat.zero_add _))
set_option maxHeartbeats 1000000 in
set_option maxRecDepth 100000 in
theorem c_Model_find0_l {l : Launch} {D : va_G} {ca : Nat → ClassId} {hp : hp_T} {d : Nat} {x : Nat} {A : Nat → Nat} {S : mo_S} (hS : mo_At ca hp x A S) : ∀ (m i : Nat), i + m = mo_z S → ma_V l D ca ma_T M_Model_find (d + 1) 0 0 hp (ma_qi (ma_eq (lp_find (md_named S) m i) hp)) 2 [(1, .int (nI i)), (0, .ref x)] [] := by
  have hsz := hS.2.2.2.2.1
  have htd := hS.2.2.2.2.2.1
  have hrs := hS.2.2.2.2.2.2
  have hsp := hS.2.2.1
  have hmk : ∀ u, u < 42 → mo_i S 11 u = bI (md_mk S u) := fun u _ => congrFun hS.2.2.2.1 u
  intro m
  induction m with
  | zero =>
    intro i hi
    refine rv_iload_n d_Model_find_2 rfl 0 rfl ?_
    refine rv_aload_n d_Model_find_3 rfl 1 rfl ?_
    refine rv_get ka_Model hS.1 rfl 0 (by decide) (wi_Model_find _ (List.mem_of_getElem? (i := 0) rfl)) rfl d_Model_find_4 ?_
    refine rv_icmp_ge (tgt := 26) d_Model_find_7 (by decide) (fun c_7 => ?_) (fun c_7 => ?_)
    · refine rv_iconst (v := (-1)) d_Model_find_26 (by decide) ?_
      exact rv_ireturn ⟨_, rfl, rfl, rfl⟩ d_Model_find_27 rfl rfl
    · exact absurd (nI_le (by omega) (by omega)) c_7
  | succ m ih =>
    intro i hi
    refine rv_iload_n d_Model_find_2 rfl 0 rfl ?_
    refine rv_aload_n d_Model_find_3 rfl 1 rfl ?_
    refine rv_get ka_Model hS.1 rfl 0 (by decide) (wi_Model_find _ (List.mem_of_getElem? (i := 0) rfl)) rfl d_Model_find_4 ?_
    refine rv_icmp_ge (tgt := 26) d_Model_find_7 (by decide) (fun c_7 => ?_) (fun c_7 => ?_)
    · exact absurd c_7 (nI_ge (by omega) (by omega))
    · refine rv_aload_n d_Model_find_10 rfl 1 rfl ?_
      refine rv_iload_n d_Model_find_11 rfl 0 rfl ?_
      refine rv_callV (kc' := 0) (ks' := 0) (kc1 := 0) (ks1 := 0) (As := [.int (nI i)]) (rest := []) hS.1 rfl (c_Model_isNamed hS (by omega)) ok_Model_isNamed (wi_Model_find _ (List.mem_of_getElem? (i := 1) rfl)) (wi_Model_find _ (List.mem_of_getElem? (i := 2) rfl)) (wi_Model_find _ (List.mem_of_getElem? (i := 3) rfl)) rfl rfl (Nat.le_of_ble_eq_true rfl) (Nat.le_of_ble_eq_true rfl) ⟨Nat.le_of_ble_eq_true rfl, Nat.le_of_ble_eq_true rfl⟩ d_Model_find_12 (rv_kie ?_)
      refine rv_if_eq (tgt := 20) d_Model_find_15 (by decide) (fun c_15 => ?_) (fun c_15 => ?_)
      · have e := bI_0.mp c_15
        refine rv_iinc (k := 0) (v := nI (i + 1)) (lv' := [(1, .int (nI (i + 1))), (0, .ref x)]) d_Model_find_20 rfl (nI_1 _) (by decide) rfl ?_
        refine rv_goto (tgt := 2) d_Model_find_23 (by decide) ?_
        rw [lp_find_f e]
        exact rv_lv [0, 1] rfl (ih (i + 1) (by omega))
      · have e := bI_n.mp c_15
        refine rv_iload_n d_Model_find_18 rfl 0 rfl ?_
        rw [lp_find_t e]
        exact rv_ireturn ⟨_, rfl, rfl, rfl⟩ d_Model_find_19 rfl rfl
set_option maxHeartbeats 1000000 in
set_option maxRecDepth 100000 in
theorem c_Model_find0 {l : Launch} {D : va_G} {ca : Nat → ClassId} {hp : hp_T} {d : Nat} {x : Nat} {A : Nat → Nat} {S : mo_S} (hS : mo_At ca hp x A S) : ma_V l D ca ma_T M_Model_find (d + 1) 0 0 hp (ma_qi (ma_eq (lp_find (md_named S) (mo_z S) 0) hp)) 0 (lv_args 0 [.ref x]) [] := by
  change ma_V l D ca ma_T M_Model_find (d + 1) 0 0 hp (ma_qi (ma_eq (lp_find (md_named S) (mo_z S) 0) hp)) 0 [(0, .ref x)] []
  refine rv_iconst (v := nI 0) d_Model_find_0 (by decide) ?_
  refine rv_istore_n (lv' := [(1, .int (nI 0)), (0, .ref x)]) d_Model_find_1 rfl (by decide) rfl ?_
  exact c_Model_find0_l hS (mo_z S) 0 (Nat.zero_add _)
theorem c_Model_find {l : Launch} {D : va_G} {ca : Nat → ClassId} {hp : hp_T} {d : Nat} {x : Nat} {A : Nat → Nat} {S : mo_S} (hS : mo_At ca hp x A S) : ma_V l D ca ma_T M_Model_find (d + 1) 0 0 hp (ma_qi (ma_eq (ob_i (md_findo S)) hp)) 0 (lv_args 0 [.ref x]) [] := by
  have h := c_Model_find0 (l := l) (D := D) (d := d) hS
  rw [fo_ob] at h
  exact h
set_option maxHeartbeats 1000000 in
set_option maxRecDepth 100000 in
theorem c_Model_isFree_l {l : Launch} {D : va_G} {ca : Nat → ClassId} {hp : hp_T} {d : Nat} {x : Nat} {A : Nat → Nat} {S : mo_S} (hS : mo_At ca hp x A S) {t : Nat} (ht : t < 42) : ∀ (m i : Nat), i + m = mo_z S → ma_V l D ca ma_T M_Model_isFree (d + 2) 0 0 hp (ma_qi (ma_eq (bI (!(lp_any (fun u => !decide (u = t) && (md_hangs S t u && !md_mk S u)) m i))) hp)) 2 [(2, .int (nI i)), (0, .ref x), (1, .int (nI t))] [] := by
  have hA11 : hp (A 11) = some (.inl (ca 3, 42, .inl (mo_i S 11))) := hS.2.1 11 (by decide)
  have hsz := hS.2.2.2.2.1
  have htd := hS.2.2.2.2.2.1
  have hrs := hS.2.2.2.2.2.2
  have hsp := hS.2.2.1
  have hmk : ∀ u, u < 42 → mo_i S 11 u = bI (md_mk S u) := fun u _ => congrFun hS.2.2.2.1 u
  intro m
  induction m with
  | zero =>
    intro i hi
    refine rv_iload_n d_Model_isFree_2 rfl 0 rfl ?_
    refine rv_aload_n d_Model_isFree_3 rfl 1 rfl ?_
    refine rv_get ka_Model hS.1 rfl 0 (by decide) (wi_Model_isFree _ (List.mem_of_getElem? (i := 0) rfl)) rfl d_Model_isFree_4 ?_
    refine rv_icmp_ge (tgt := 41) d_Model_isFree_7 (by decide) (fun c_7 => ?_) (fun c_7 => ?_)
    · refine rv_iconst (v := nI 1) d_Model_isFree_41 (by decide) ?_
      exact rv_ireturn ⟨_, rfl, rfl, rfl⟩ d_Model_isFree_42 rfl (bI_nar true)
    · exact absurd (nI_le (by omega) (by omega)) c_7
  | succ m ih =>
    intro i hi
    refine rv_iload_n d_Model_isFree_2 rfl 0 rfl ?_
    refine rv_aload_n d_Model_isFree_3 rfl 1 rfl ?_
    refine rv_get ka_Model hS.1 rfl 0 (by decide) (wi_Model_isFree _ (List.mem_of_getElem? (i := 0) rfl)) rfl d_Model_isFree_4 ?_
    refine rv_icmp_ge (tgt := 41) d_Model_isFree_7 (by decide) (fun c_7 => ?_) (fun c_7 => ?_)
    · exact absurd c_7 (nI_ge (by omega) (by omega))
    · refine rv_iload_n d_Model_isFree_10 rfl 0 rfl ?_
      refine rv_iload_n d_Model_isFree_11 rfl 2 rfl ?_
      refine rv_icmp_eq (tgt := 35) d_Model_isFree_12 (by decide) (fun c_12 => ?_) (fun c_12 => ?_)
      · have e : (fun u => !decide (u = t) && (md_hangs S t u && !md_mk S u)) i = false := by show (!decide (i = t) && _) = false; rw [decide_eq_true ((nI_eq (by omega) (by omega)).mp c_12)]; rfl
        refine rv_iinc (k := 0) (v := nI (i + 1)) (lv' := [(2, .int (nI (i + 1))), (0, .ref x), (1, .int (nI t))]) d_Model_isFree_35 rfl (nI_1 _) (by decide) rfl ?_
        refine rv_goto (tgt := 2) d_Model_isFree_38 (by decide) ?_
        rw [lp_any_f e]
        exact rv_lv [0, 1, 2] rfl (ih (i + 1) (by omega))
      · have q0 : ¬ i = t := fun z => c_12 (by rw [z])
        refine rv_aload_n d_Model_isFree_15 rfl 1 rfl ?_
        refine rv_iload_n d_Model_isFree_16 rfl 2 rfl ?_
        refine rv_iload_n d_Model_isFree_17 rfl 0 rfl ?_
        refine rv_callV (kc' := 0) (ks' := 0) (kc1 := 0) (ks1 := 0) (As := [.int (nI t), .int (nI i)]) (rest := []) hS.1 rfl (c_Model_hangs hS (by omega) (by omega)) ok_Model_hangs (wi_Model_isFree _ (List.mem_of_getElem? (i := 1) rfl)) (wi_Model_isFree _ (List.mem_of_getElem? (i := 2) rfl)) (wi_Model_isFree _ (List.mem_of_getElem? (i := 3) rfl)) rfl rfl (Nat.le_of_ble_eq_true rfl) (Nat.le_of_ble_eq_true rfl) ⟨Nat.le_of_ble_eq_true rfl, Nat.le_of_ble_eq_true rfl⟩ d_Model_isFree_18 (rv_kie ?_)
        refine rv_if_eq (tgt := 35) d_Model_isFree_21 (by decide) (fun c_21 => ?_) (fun c_21 => ?_)
        · have e : (fun u => !decide (u = t) && (md_hangs S t u && !md_mk S u)) i = false := by show (_ && (_ && _)) = false; rw [bI_0.mp c_21, Bool.false_and, Bool.and_false]
          refine rv_iinc (k := 0) (v := nI (i + 1)) (lv' := [(2, .int (nI (i + 1))), (0, .ref x), (1, .int (nI t))]) d_Model_isFree_35 rfl (nI_1 _) (by decide) rfl ?_
          refine rv_goto (tgt := 2) d_Model_isFree_38 (by decide) ?_
          rw [lp_any_f e]
          exact rv_lv [0, 1, 2] rfl (ih (i + 1) (by omega))
        · refine rv_aload_n d_Model_isFree_24 rfl 1 rfl ?_
          refine rv_get ka_Model hS.1 rfl 14 (by decide) (wi_Model_isFree _ (List.mem_of_getElem? (i := 4) rfl)) rfl d_Model_isFree_25 ?_
          refine rv_iload_n d_Model_isFree_28 rfl 0 rfl ?_
          refine rv_zald hA11 3 rfl (by omega) (by decide) d_Model_isFree_29 ?_
          refine rv_eqi (y := bI (md_mk S i)) (hmk i (by omega)) ?_
          refine rv_if_ne (tgt := 35) d_Model_isFree_30 (by decide) (fun c_30 => ?_) (fun c_30 => ?_)
          · have e : (fun u => !decide (u = t) && (md_hangs S t u && !md_mk S u)) i = false := by show (_ && (_ && _)) = false; rw [bI_n.mp c_30, Bool.not_true, Bool.and_false, Bool.and_false]
            refine rv_iinc (k := 0) (v := nI (i + 1)) (lv' := [(2, .int (nI (i + 1))), (0, .ref x), (1, .int (nI t))]) d_Model_isFree_35 rfl (nI_1 _) (by decide) rfl ?_
            refine rv_goto (tgt := 2) d_Model_isFree_38 (by decide) ?_
            rw [lp_any_f e]
            exact rv_lv [0, 1, 2] rfl (ih (i + 1) (by omega))
          · have e : (fun u => !decide (u = t) && (md_hangs S t u && !md_mk S u)) i = true := by show (!decide (i = t) && (_ && _)) = true; rw [decide_eq_false q0, bI_n.mp c_21, bI_0.mp c_30]; rfl
            refine rv_iconst (v := nI 0) d_Model_isFree_33 (by decide) ?_
            rw [lp_any_t e]
            exact rv_ireturn ⟨_, rfl, rfl, rfl⟩ d_Model_isFree_34 rfl (bI_nar false)
set_option maxHeartbeats 1000000 in
set_option maxRecDepth 100000 in
theorem c_Model_isFree {l : Launch} {D : va_G} {ca : Nat → ClassId} {hp : hp_T} {d : Nat} {x : Nat} {A : Nat → Nat} {S : mo_S} (hS : mo_At ca hp x A S) {t : Nat} (ht : t < 42) : ma_V l D ca ma_T M_Model_isFree (d + 2) 0 0 hp (ma_qi (ma_eq (bI (!md_stuck S t)) hp)) 0 (lv_args 0 [.ref x, .int (nI t)]) [] := by
  change ma_V l D ca ma_T M_Model_isFree (d + 2) 0 0 hp (ma_qi (ma_eq (bI (!md_stuck S t)) hp)) 0 [(0, .ref x), (1, .int (nI t))] []
  refine rv_iconst (v := nI 0) d_Model_isFree_0 (by decide) ?_
  refine rv_istore_n (lv' := [(2, .int (nI 0)), (0, .ref x), (1, .int (nI t))]) d_Model_isFree_1 rfl (by decide) rfl ?_
  exact c_Model_isFree_l hS ht (mo_z S) 0 (Nat.zero_add _)
set_option maxHeartbeats 1000000 in
set_option maxRecDepth 100000 in
theorem c_Model_kin_l {l : Launch} {D : va_G} {ca : Nat → ClassId} {hp : hp_T} {d : Nat} {x : Nat} {A : Nat → Nat} {S : mo_S} (hS : mo_At ca hp x A S) {t : Nat} {p : Bool} (ht : t < 42) : ∀ (m i : Nat) (a : Int32), i + m = mo_z S → ma_V l D ca ma_T M_Model_kin (d + 2) 0 0 hp (ma_qi (ma_eq ((lp_fold (fun u a => a + (if (!decide (u = t) && (if p = true then md_hangs S t u else md_hangs S u t)) = true then nI 1 else nI 0)) m i a)) hp)) 5 [(4, .int (nI i)), (3, .int a), (0, .ref x), (1, .int (nI t)), (2, .int (bI p))] [] := by
  have hsz := hS.2.2.2.2.1
  have htd := hS.2.2.2.2.2.1
  have hrs := hS.2.2.2.2.2.2
  have hsp := hS.2.2.1
  have hmk : ∀ u, u < 42 → mo_i S 11 u = bI (md_mk S u) := fun u _ => congrFun hS.2.2.2.1 u
  intro m
  induction m with
  | zero =>
    intro i a hi
    refine rv_iload d_Model_kin_5 0 rfl ?_
    refine rv_aload_n d_Model_kin_7 rfl 2 rfl ?_
    refine rv_get ka_Model hS.1 rfl 0 (by decide) (wi_Model_kin _ (List.mem_of_getElem? (i := 0) rfl)) rfl d_Model_kin_8 ?_
    refine rv_icmp_ge (tgt := 61) d_Model_kin_11 (by decide) (fun c_11 => ?_) (fun c_11 => ?_)
    · refine rv_iload_n d_Model_kin_61 rfl 1 rfl ?_
      exact rv_ireturn ⟨_, rfl, rfl, rfl⟩ d_Model_kin_62 rfl rfl
    · exact absurd (nI_le (by omega) (by omega)) c_11
  | succ m ih =>
    intro i a hi
    refine rv_iload d_Model_kin_5 0 rfl ?_
    refine rv_aload_n d_Model_kin_7 rfl 2 rfl ?_
    refine rv_get ka_Model hS.1 rfl 0 (by decide) (wi_Model_kin _ (List.mem_of_getElem? (i := 0) rfl)) rfl d_Model_kin_8 ?_
    refine rv_icmp_ge (tgt := 61) d_Model_kin_11 (by decide) (fun c_11 => ?_) (fun c_11 => ?_)
    · exact absurd c_11 (nI_ge (by omega) (by omega))
    · refine rv_iload_n d_Model_kin_14 rfl 1 rfl ?_
      refine rv_iload d_Model_kin_15 0 rfl ?_
      refine rv_iload_n d_Model_kin_17 rfl 3 rfl ?_
      refine rv_icmp_eq (tgt := 52) d_Model_kin_18 (by decide) (fun c_18 => ?_) (fun c_18 => ?_)
      · have e : (fun u a => a + (if (!decide (u = t) && (if p = true then md_hangs S t u else md_hangs S u t)) = true then nI 1 else nI 0)) i a = a + nI 0 := by show a + _ = _; rw [if_neg (by rw [decide_eq_true ((nI_eq (by omega) (by omega)).mp c_18)]; simp)]
        refine rv_iconst (v := nI 0) d_Model_kin_52 (by decide) ?_
        refine rv_iadd d_Model_kin_53 ?_
        refine rv_istore_n (lv' := [(3, .int (a + (nI 0))), (4, .int (nI i)), (0, .ref x), (1, .int (nI t)), (2, .int (bI p))]) d_Model_kin_54 rfl (by decide) rfl ?_
        refine rv_iinc (k := 1) (v := nI (i + 1)) (lv' := [(4, .int (nI (i + 1))), (3, .int (a + (nI 0))), (0, .ref x), (1, .int (nI t)), (2, .int (bI p))]) d_Model_kin_55 rfl (nI_1 _) (by decide) rfl ?_
        refine rv_goto (tgt := 5) d_Model_kin_58 (by decide) ?_
        refine rv_post (Q' := ma_qi (ma_eq ((lp_fold (fun u a => a + (if (!decide (u = t) && (if p = true then md_hangs S t u else md_hangs S u t)) = true then nI 1 else nI 0)) m (i + 1) (a + (nI 0)))) hp)) (fun _ _ h => ?_) (rv_lv [0, 1, 2, 3, 4] rfl (ih (i + 1) (a + (nI 0)) (by omega)))
        rw [← e] at h
        exact h
      · have q0 : ¬ i = t := fun z => c_18 (by rw [z])
        refine rv_iload_n d_Model_kin_21 rfl 4 rfl ?_
        refine rv_if_eq (tgt := 38) d_Model_kin_22 (by decide) (fun c_22 => ?_) (fun c_22 => ?_)
        · have q1 := bI_0.mp c_22
          refine rv_aload_n d_Model_kin_38 rfl 2 rfl ?_
          refine rv_iload d_Model_kin_39 0 rfl ?_
          refine rv_iload_n d_Model_kin_41 rfl 3 rfl ?_
          refine rv_callV (kc' := 0) (ks' := 0) (kc1 := 0) (ks1 := 0) (As := [.int (nI i), .int (nI t)]) (rest := [.int a]) hS.1 rfl (c_Model_hangs hS (by omega) (by omega)) ok_Model_hangs (wi_Model_kin _ (List.mem_of_getElem? (i := 1) rfl)) (wi_Model_kin _ (List.mem_of_getElem? (i := 2) rfl)) (wi_Model_kin _ (List.mem_of_getElem? (i := 3) rfl)) rfl rfl (Nat.le_of_ble_eq_true rfl) (Nat.le_of_ble_eq_true rfl) ⟨Nat.le_of_ble_eq_true rfl, Nat.le_of_ble_eq_true rfl⟩ d_Model_kin_42 (rv_kie ?_)
          refine rv_if_eq (tgt := 52) d_Model_kin_45 (by decide) (fun c_45 => ?_) (fun c_45 => ?_)
          · have e : (fun u a => a + (if (!decide (u = t) && (if p = true then md_hangs S t u else md_hangs S u t)) = true then nI 1 else nI 0)) i a = a + nI 0 := by show a + _ = _; rw [if_neg (by rw [if_neg (by rw [q1]; exact Bool.false_ne_true), bI_0.mp c_45]; simp)]
            refine rv_iconst (v := nI 0) d_Model_kin_52 (by decide) ?_
            refine rv_iadd d_Model_kin_53 ?_
            refine rv_istore_n (lv' := [(3, .int (a + (nI 0))), (4, .int (nI i)), (0, .ref x), (1, .int (nI t)), (2, .int (bI p))]) d_Model_kin_54 rfl (by decide) rfl ?_
            refine rv_iinc (k := 1) (v := nI (i + 1)) (lv' := [(4, .int (nI (i + 1))), (3, .int (a + (nI 0))), (0, .ref x), (1, .int (nI t)), (2, .int (bI p))]) d_Model_kin_55 rfl (nI_1 _) (by decide) rfl ?_
            refine rv_goto (tgt := 5) d_Model_kin_58 (by decide) ?_
            refine rv_post (Q' := ma_qi (ma_eq ((lp_fold (fun u a => a + (if (!decide (u = t) && (if p = true then md_hangs S t u else md_hangs S u t)) = true then nI 1 else nI 0)) m (i + 1) (a + (nI 0)))) hp)) (fun _ _ h => ?_) (rv_lv [0, 1, 2, 3, 4] rfl (ih (i + 1) (a + (nI 0)) (by omega)))
            rw [← e] at h
            exact h
          · have e : (fun u a => a + (if (!decide (u = t) && (if p = true then md_hangs S t u else md_hangs S u t)) = true then nI 1 else nI 0)) i a = a + nI 1 := by show a + _ = _; rw [if_pos (by rw [decide_eq_false q0, if_neg (by rw [q1]; exact Bool.false_ne_true), bI_n.mp c_45]; rfl)]
            refine rv_iconst (v := nI 1) d_Model_kin_48 (by decide) ?_
            refine rv_goto (tgt := 53) d_Model_kin_49 (by decide) ?_
            refine rv_iadd d_Model_kin_53 ?_
            refine rv_istore_n (lv' := [(3, .int (a + (nI 1))), (4, .int (nI i)), (0, .ref x), (1, .int (nI t)), (2, .int (bI p))]) d_Model_kin_54 rfl (by decide) rfl ?_
            refine rv_iinc (k := 1) (v := nI (i + 1)) (lv' := [(4, .int (nI (i + 1))), (3, .int (a + (nI 1))), (0, .ref x), (1, .int (nI t)), (2, .int (bI p))]) d_Model_kin_55 rfl (nI_1 _) (by decide) rfl ?_
            refine rv_goto (tgt := 5) d_Model_kin_58 (by decide) ?_
            refine rv_post (Q' := ma_qi (ma_eq ((lp_fold (fun u a => a + (if (!decide (u = t) && (if p = true then md_hangs S t u else md_hangs S u t)) = true then nI 1 else nI 0)) m (i + 1) (a + (nI 1)))) hp)) (fun _ _ h => ?_) (rv_lv [0, 1, 2, 3, 4] rfl (ih (i + 1) (a + (nI 1)) (by omega)))
            rw [← e] at h
            exact h
        · have q1 := bI_n.mp c_22
          refine rv_aload_n d_Model_kin_25 rfl 2 rfl ?_
          refine rv_iload_n d_Model_kin_26 rfl 3 rfl ?_
          refine rv_iload d_Model_kin_27 0 rfl ?_
          refine rv_callV (kc' := 0) (ks' := 0) (kc1 := 0) (ks1 := 0) (As := [.int (nI t), .int (nI i)]) (rest := [.int a]) hS.1 rfl (c_Model_hangs hS (by omega) (by omega)) ok_Model_hangs (wi_Model_kin _ (List.mem_of_getElem? (i := 1) rfl)) (wi_Model_kin _ (List.mem_of_getElem? (i := 2) rfl)) (wi_Model_kin _ (List.mem_of_getElem? (i := 3) rfl)) rfl rfl (Nat.le_of_ble_eq_true rfl) (Nat.le_of_ble_eq_true rfl) ⟨Nat.le_of_ble_eq_true rfl, Nat.le_of_ble_eq_true rfl⟩ d_Model_kin_29 (rv_kie ?_)
          refine rv_if_eq (tgt := 52) d_Model_kin_32 (by decide) (fun c_32 => ?_) (fun c_32 => ?_)
          · have e : (fun u a => a + (if (!decide (u = t) && (if p = true then md_hangs S t u else md_hangs S u t)) = true then nI 1 else nI 0)) i a = a + nI 0 := by show a + _ = _; rw [if_neg (by rw [if_pos q1, bI_0.mp c_32]; simp)]
            refine rv_iconst (v := nI 0) d_Model_kin_52 (by decide) ?_
            refine rv_iadd d_Model_kin_53 ?_
            refine rv_istore_n (lv' := [(3, .int (a + (nI 0))), (4, .int (nI i)), (0, .ref x), (1, .int (nI t)), (2, .int (bI p))]) d_Model_kin_54 rfl (by decide) rfl ?_
            refine rv_iinc (k := 1) (v := nI (i + 1)) (lv' := [(4, .int (nI (i + 1))), (3, .int (a + (nI 0))), (0, .ref x), (1, .int (nI t)), (2, .int (bI p))]) d_Model_kin_55 rfl (nI_1 _) (by decide) rfl ?_
            refine rv_goto (tgt := 5) d_Model_kin_58 (by decide) ?_
            refine rv_post (Q' := ma_qi (ma_eq ((lp_fold (fun u a => a + (if (!decide (u = t) && (if p = true then md_hangs S t u else md_hangs S u t)) = true then nI 1 else nI 0)) m (i + 1) (a + (nI 0)))) hp)) (fun _ _ h => ?_) (rv_lv [0, 1, 2, 3, 4] rfl (ih (i + 1) (a + (nI 0)) (by omega)))
            rw [← e] at h
            exact h
          · have e : (fun u a => a + (if (!decide (u = t) && (if p = true then md_hangs S t u else md_hangs S u t)) = true then nI 1 else nI 0)) i a = a + nI 1 := by show a + _ = _; rw [if_pos (by rw [decide_eq_false q0, if_pos q1, bI_n.mp c_32]; rfl)]
            refine rv_goto (tgt := 48) d_Model_kin_35 (by decide) ?_
            refine rv_iconst (v := nI 1) d_Model_kin_48 (by decide) ?_
            refine rv_goto (tgt := 53) d_Model_kin_49 (by decide) ?_
            refine rv_iadd d_Model_kin_53 ?_
            refine rv_istore_n (lv' := [(3, .int (a + (nI 1))), (4, .int (nI i)), (0, .ref x), (1, .int (nI t)), (2, .int (bI p))]) d_Model_kin_54 rfl (by decide) rfl ?_
            refine rv_iinc (k := 1) (v := nI (i + 1)) (lv' := [(4, .int (nI (i + 1))), (3, .int (a + (nI 1))), (0, .ref x), (1, .int (nI t)), (2, .int (bI p))]) d_Model_kin_55 rfl (nI_1 _) (by decide) rfl ?_
            refine rv_goto (tgt := 5) d_Model_kin_58 (by decide) ?_
            refine rv_post (Q' := ma_qi (ma_eq ((lp_fold (fun u a => a + (if (!decide (u = t) && (if p = true then md_hangs S t u else md_hangs S u t)) = true then nI 1 else nI 0)) m (i + 1) (a + (nI 1)))) hp)) (fun _ _ h => ?_) (rv_lv [0, 1, 2, 3, 4] rfl (ih (i + 1) (a + (nI 1)) (by omega)))
            rw [← e] at h
            exact h
set_option maxHeartbeats 1000000 in
set_option maxRecDepth 100000 in
theorem c_Model_kin {l : Launch} {D : va_G} {ca : Nat → ClassId} {hp : hp_T} {d : Nat} {x : Nat} {A : Nat → Nat} {S : mo_S} (hS : mo_At ca hp x A S) {t : Nat} {p : Bool} (ht : t < 42) : ma_V l D ca ma_T M_Model_kin (d + 2) 0 0 hp (ma_qi (ma_eq (md_kin S t p) hp)) 0 (lv_args 0 [.ref x, .int (nI t), .int (bI p)]) [] := by
  change ma_V l D ca ma_T M_Model_kin (d + 2) 0 0 hp (ma_qi (ma_eq (md_kin S t p) hp)) 0 [(0, .ref x), (1, .int (nI t)), (2, .int (bI p))] []
  have hsz := hS.2.2.2.2.1
  have htd := hS.2.2.2.2.2.1
  have hrs := hS.2.2.2.2.2.2
  have hsp := hS.2.2.1
  have hmk : ∀ u, u < 42 → mo_i S 11 u = bI (md_mk S u) := fun u _ => congrFun hS.2.2.2.1 u
  refine rv_iconst (v := nI 0) d_Model_kin_0 (by decide) ?_
  refine rv_istore_n (lv' := [(3, .int (nI 0)), (0, .ref x), (1, .int (nI t)), (2, .int (bI p))]) d_Model_kin_1 rfl (by decide) rfl ?_
  refine rv_iconst (v := nI 0) d_Model_kin_2 (by decide) ?_
  refine rv_istore (lv' := [(4, .int (nI 0)), (3, .int (nI 0)), (0, .ref x), (1, .int (nI t)), (2, .int (bI p))]) d_Model_kin_3 (by decide) rfl ?_
  exact rv_lv [0, 1, 2, 3, 4] rfl (c_Model_kin_l hS ht (mo_z S) 0 (nI 0) (Nat.zero_add _))
set_option maxHeartbeats 1000000 in
set_option maxRecDepth 100000 in
theorem c_Model_row {l : Launch} {D : va_G} {ca : Nat → ClassId} {hp : hp_T} {d : Nat} {x : Nat} {A : Nat → Nat} {S : mo_S} (hS : mo_At ca hp x A S) {k y : Int32} : ma_V l D ca ma_T M_Model_row d 0 0 hp (ma_ql (ma_eq (md_row S k y) hp)) 0 (lv_args 0 [.ref x, .int k, .int y]) [] := by
  change ma_V l D ca ma_T M_Model_row d 0 0 hp (ma_ql (ma_eq (md_row S k y) hp)) 0 [(0, .ref x), (1, .int k), (2, .int y)] []
  have hA12 : hp (A 12) = some (.inl (ca 1, 164, .inr (.inl (mo_l S 12)))) := hS.2.1 12 (by decide)
  have hsz := hS.2.2.2.2.1
  have htd := hS.2.2.2.2.2.1
  have hrs := hS.2.2.2.2.2.2
  have hsp := hS.2.2.1
  have hmk : ∀ u, u < 42 → mo_i S 11 u = bI (md_mk S u) := fun u _ => congrFun hS.2.2.2.1 u
  refine rv_iload_n d_Model_row_0 rfl 1 rfl ?_
  refine rv_if_lt (tgt := 34) d_Model_row_1 (by decide) (fun c_1 => ?_) (fun c_1 => ?_)
  · have e : md_row S k y = 0 := if_pos (Or.inl c_1)
    refine rv_lconst (v := 0) d_Model_row_34 (by decide) ?_
    exact rv_lreturn ⟨_, rfl, e.symm, rfl⟩ d_Model_row_35 rfl
  · refine rv_iload_n d_Model_row_4 rfl 1 rfl ?_
    refine rv_aload_n d_Model_row_5 rfl 0 rfl ?_
    refine rv_get ka_Model hS.1 rfl 16 (by decide) (wi_Model_row _ (List.mem_of_getElem? (i := 0) rfl)) rfl d_Model_row_6 ?_
    refine rv_icmp_ge (tgt := 34) d_Model_row_9 (by decide) (fun c_9 => ?_) (fun c_9 => ?_)
    · have e : md_row S k y = 0 := if_pos (Or.inr (Or.inl c_9))
      refine rv_lconst (v := 0) d_Model_row_34 (by decide) ?_
      exact rv_lreturn ⟨_, rfl, e.symm, rfl⟩ d_Model_row_35 rfl
    · refine rv_iload_n d_Model_row_12 rfl 2 rfl ?_
      refine rv_if_lt (tgt := 34) d_Model_row_13 (by decide) (fun c_13 => ?_) (fun c_13 => ?_)
      · have e : md_row S k y = 0 := if_pos (Or.inr (Or.inr (Or.inl c_13)))
        refine rv_lconst (v := 0) d_Model_row_34 (by decide) ?_
        exact rv_lreturn ⟨_, rfl, e.symm, rfl⟩ d_Model_row_35 rfl
      · refine rv_iload_n d_Model_row_16 rfl 2 rfl ?_
        refine rv_iconst (v := nI 4) d_Model_row_17 (by decide) ?_
        refine rv_icmp_ge (tgt := 34) d_Model_row_18 (by decide) (fun c_18 => ?_) (fun c_18 => ?_)
        · have e : md_row S k y = 0 := if_pos (Or.inr (Or.inr (Or.inr c_18)))
          refine rv_lconst (v := 0) d_Model_row_34 (by decide) ?_
          exact rv_lreturn ⟨_, rfl, e.symm, rfl⟩ d_Model_row_35 rfl
        · have e : md_row S k y = mo_l S 12 (4 * k.toNatClampNeg + y.toNatClampNeg) := if_neg (by rintro (z | z | z | z); exact c_1 z; exact c_9 z; exact c_13 z; exact c_18 z)
          obtain ⟨j, hj, rfl⟩ := ix_of (by omega) c_1 c_9
          obtain ⟨q, hq, rfl⟩ := ix_of (by decide) c_13 c_18
          rw [nI_clamp (by omega), nI_clamp (by omega)] at e
          refine rv_aload_n d_Model_row_21 rfl 0 rfl ?_
          refine rv_get ka_Model hS.1 rfl 15 (by decide) (wi_Model_row _ (List.mem_of_getElem? (i := 1) rfl)) rfl d_Model_row_22 ?_
          refine rv_iconst (v := nI 4) d_Model_row_25 (by decide) ?_
          refine rv_iload_n d_Model_row_26 rfl 1 rfl ?_
          refine rv_imul d_Model_row_27 ?_
          refine rv_eqi (pk_mul _ _) ?_
          refine rv_iload_n d_Model_row_28 rfl 2 rfl ?_
          refine rv_iadd d_Model_row_29 ?_
          refine rv_eqi (nI_add _ _) ?_
          refine rv_lald hA12 1 rfl (by omega) (by decide) d_Model_row_30 ?_
          refine rv_goto (tgt := 35) d_Model_row_31 (by decide) ?_
          exact rv_lreturn ⟨_, rfl, e.symm, rfl⟩ d_Model_row_35 rfl
set_option maxHeartbeats 1000000 in
set_option maxRecDepth 100000 in
theorem c_Model_fees {l : Launch} {D : va_G} {ca : Nat → ClassId} {hp : hp_T} {d : Nat} {x : Nat} {A : Nat → Nat} {S : mo_S} (hS : mo_At ca hp x A S) : ma_V l D ca ma_T M_Model_fees (d + 1) 0 0 hp (ma_ql (ma_eq (md_fees S false) hp)) 0 (lv_args 0 [.ref x]) [] := by
  change ma_V l D ca ma_T M_Model_fees (d + 1) 0 0 hp (ma_ql (ma_eq (md_fees S false) hp)) 0 [(0, .ref x)] []
  have hsz := hS.2.2.2.2.1
  have htd := hS.2.2.2.2.2.1
  have hrs := hS.2.2.2.2.2.2
  have hsp := hS.2.2.1
  have hmk : ∀ u, u < 42 → mo_i S 11 u = bI (md_mk S u) := fun u _ => congrFun hS.2.2.2.1 u
  refine rv_aload_n d_Model_fees_0 rfl 0 rfl ?_
  refine rv_iconst (v := nI 0) d_Model_fees_1 (by decide) ?_
  refine rv_callV (kc' := 0) (ks' := 0) (kc1 := 0) (ks1 := 0) (As := [.int (nI 0)]) (rest := []) hS.1 rfl (c_Model_feesOf (m0 := false) hS) ok_Model_feesOf (wi_Model_fees _ (List.mem_of_getElem? (i := 0) rfl)) (wi_Model_fees _ (List.mem_of_getElem? (i := 1) rfl)) (wi_Model_fees _ (List.mem_of_getElem? (i := 2) rfl)) rfl rfl (Nat.le_of_ble_eq_true rfl) (Nat.le_of_ble_eq_true rfl) ⟨Nat.le_of_ble_eq_true rfl, Nat.le_of_ble_eq_true rfl⟩ d_Model_fees_2 (rv_kle ?_)
  exact rv_lreturn ⟨_, rfl, rfl, rfl⟩ d_Model_fees_5 rfl
