def wl_Pool_find : List Cond := [.fieldLink "PoolDesk$Pool" 18 "PoolDesk$Pool" "present" "J", .static y_Desk_has, .fieldLink "PoolDesk$Pool" 11 "PoolDesk$Pool" "places" "[LPoolDesk$Transaction;", .fieldLink "PoolDesk$Pool" 26 "PoolDesk$Transaction" "ownName" "LPoolDesk$Name;", .methodLink "PoolDesk$Pool" 30 y_Name_same, .instanceMethod y_Name_same, .selects "PoolDesk$Name" y_Name_same y_Name_same]
theorem wi_Pool_find : ∀ w ∈ wl_Pool_find, w ∈ ma_tbl := by decide +kernel
def wl_Pool_findSpender : List Cond := [.fieldLink "PoolDesk$Pool" 18 "PoolDesk$Pool" "present" "J", .static y_Desk_has, .fieldLink "PoolDesk$Pool" 11 "PoolDesk$Pool" "places" "[LPoolDesk$Transaction;", .fieldLink "PoolDesk$Pool" 36 "PoolDesk$Transaction" "keys" "LPoolDesk$Keys;", .methodLink "PoolDesk$Pool" 40 y_Keys_contains, .instanceMethod y_Keys_contains, .selects "PoolDesk$Keys" y_Keys_contains y_Keys_contains]
theorem wi_Pool_findSpender : ∀ w ∈ wl_Pool_findSpender, w ∈ ma_tbl := by decide +kernel
def wl_Pool_isSpent : List Cond := [.fieldLink "PoolDesk$Pool" 18 "PoolDesk$Pool" "present" "J", .static y_Desk_has, .fieldLink "PoolDesk$Pool" 11 "PoolDesk$Pool" "places" "[LPoolDesk$Transaction;", .fieldLink "PoolDesk$Pool" 36 "PoolDesk$Transaction" "keys" "LPoolDesk$Keys;", .methodLink "PoolDesk$Pool" 68 y_Keys_containsOneOf, .instanceMethod y_Keys_containsOneOf, .selects "PoolDesk$Keys" y_Keys_containsOneOf y_Keys_containsOneOf]
theorem wi_Pool_isSpent : ∀ w ∈ wl_Pool_isSpent, w ∈ ma_tbl := by decide +kernel
def wl_Pool_missesOutput : List Cond := [.fieldLink "PoolDesk$Pool" 18 "PoolDesk$Pool" "present" "J", .static y_Desk_has, .fieldLink "PoolDesk$Pool" 11 "PoolDesk$Pool" "places" "[LPoolDesk$Transaction;", .fieldLink "PoolDesk$Pool" 26 "PoolDesk$Transaction" "ownName" "LPoolDesk$Name;", .fieldLink "PoolDesk$Pool" 71 "PoolDesk$Transaction" "outputs" "I", .methodLink "PoolDesk$Pool" 75 y_Keys_misses, .instanceMethod y_Keys_misses, .selects "PoolDesk$Keys" y_Keys_misses y_Keys_misses, .fieldLink "PoolDesk$Pool" 36 "PoolDesk$Transaction" "keys" "LPoolDesk$Keys;"]
theorem wi_Pool_missesOutput : ∀ w ∈ wl_Pool_missesOutput, w ∈ ma_tbl := by decide +kernel
def wl_Pool_spendersOf : List Cond := [.fieldLink "PoolDesk$Pool" 18 "PoolDesk$Pool" "present" "J", .static y_Desk_has, .fieldLink "PoolDesk$Pool" 11 "PoolDesk$Pool" "places" "[LPoolDesk$Transaction;", .fieldLink "PoolDesk$Pool" 36 "PoolDesk$Transaction" "keys" "LPoolDesk$Keys;", .methodLink "PoolDesk$Pool" 78 y_Keys_bears, .instanceMethod y_Keys_bears, .selects "PoolDesk$Keys" y_Keys_bears y_Keys_bears, .static y_Desk_bit]
theorem wi_Pool_spendersOf : ∀ w ∈ wl_Pool_spendersOf, w ∈ ma_tbl := by decide +kernel
def wl_Pool_named : List Cond := [.fieldLink "PoolDesk$Pool" 18 "PoolDesk$Pool" "present" "J", .static y_Desk_has, .fieldLink "PoolDesk$Pool" 11 "PoolDesk$Pool" "places" "[LPoolDesk$Transaction;", .fieldLink "PoolDesk$Pool" 26 "PoolDesk$Transaction" "ownName" "LPoolDesk$Name;", .methodLink "PoolDesk$Pool" 78 y_Keys_bears, .instanceMethod y_Keys_bears, .selects "PoolDesk$Keys" y_Keys_bears y_Keys_bears, .static y_Desk_bit]
theorem wi_Pool_named : ∀ w ∈ wl_Pool_named, w ∈ ma_tbl := by decide +kernel
def wl_Pool_sumOfFees : List Cond := [.static y_Desk_has, .fieldLink "PoolDesk$Pool" 11 "PoolDesk$Pool" "places" "[LPoolDesk$Transaction;", .fieldLink "PoolDesk$Pool" 129 "PoolDesk$Transaction" "fee" "J"]
theorem wi_Pool_sumOfFees : ∀ w ∈ wl_Pool_sumOfFees, w ∈ ma_tbl := by decide +kernel
def wl_Pool_sumOfSizes : List Cond := [.static y_Desk_has, .fieldLink "PoolDesk$Pool" 11 "PoolDesk$Pool" "places" "[LPoolDesk$Transaction;", .fieldLink "PoolDesk$Pool" 132 "PoolDesk$Transaction" "size" "I"]
theorem wi_Pool_sumOfSizes : ∀ w ∈ wl_Pool_sumOfSizes, w ∈ ma_tbl := by decide +kernel
def wl_Pool_sumOfKeys : List Cond := [.fieldLink "PoolDesk$Pool" 18 "PoolDesk$Pool" "present" "J", .static y_Desk_has, .fieldLink "PoolDesk$Pool" 11 "PoolDesk$Pool" "places" "[LPoolDesk$Transaction;", .fieldLink "PoolDesk$Pool" 36 "PoolDesk$Transaction" "keys" "LPoolDesk$Keys;", .fieldLink "PoolDesk$Pool" 135 "PoolDesk$Keys" "held" "I"]
theorem wi_Pool_sumOfKeys : ∀ w ∈ wl_Pool_sumOfKeys, w ∈ ma_tbl := by decide +kernel
set_option maxHeartbeats 4000000 in
set_option maxRecDepth 100000 in
theorem c_Pool_find_l {l : Launch} {D : va_G} {ca : Nat → ClassId} {hp : hp_T} {d : Nat} {po : Nat} {L : po_L} {S : po_S} (hS : po_At ca hp po L S) {b : Nat} {m0 : nm_T} (hb : hp b = some (.inr (0, nm_F m0))) : ∀ (m i : Nat), i + m = 41 → ma_V l D ca ma_T M_Pool_find (d + 2) 0 0 hp (ma_qi (ma_eq (lp_find (fun p => bz_t S.1 p && decide ((S.2.2 p).1 = m0)) m i) hp)) 2 [(2, .int (nI i)), (0, .ref po), (1, .ref b)] [] := by
  obtain ⟨f, hf, hfp⟩ := hS.2.1
  intro m
  induction m with
  | zero =>
    intro i hi
    refine rv_iload_n d_Pool_find_2 rfl 0 rfl ?_
    refine rv_bipush (v := nI 41) d_Pool_find_3 (by decide) ?_
    refine rv_icmp_ge (tgt := 43) d_Pool_find_5 (by decide) (fun c_5 => ?_) (fun c_5 => ?_)
    · refine rv_iconst (v := (-1)) d_Pool_find_43 (by decide) ?_
      exact rv_ireturn ⟨_, rfl, rfl, rfl⟩ d_Pool_find_44 rfl rfl
    · exact absurd (nI_le (by omega) (by omega)) c_5
  | succ m ih =>
    intro i hi
    refine rv_iload_n d_Pool_find_2 rfl 0 rfl ?_
    refine rv_bipush (v := nI 41) d_Pool_find_3 (by decide) ?_
    refine rv_icmp_ge (tgt := 43) d_Pool_find_5 (by decide) (fun c_5 => ?_) (fun c_5 => ?_)
    · exact absurd c_5 (nI_ge (by omega) (by omega))
    · refine rv_aload_n d_Pool_find_8 rfl 1 rfl ?_
      refine rv_get ka_Pool hS.1 rfl 1 (by decide) (wi_Pool_find _ (List.mem_of_getElem? (i := 0) rfl)) rfl d_Pool_find_9 ?_
      refine rv_iload_n d_Pool_find_12 rfl 0 rfl ?_
      refine rv_callSN (kc' := 0) (ks' := 0) (kc1 := 0) (ks1 := 0) (As := [.long S.1, .int (nI i)]) (rest := []) (c_Desk_has (by omega)) ok_Desk_has (host := "PoolDesk") (List.mem_of_getElem? (i := 6) rfl) (wi_Pool_find _ (List.mem_of_getElem? (i := 1) rfl)) rfl rfl (Nat.le_of_ble_eq_true rfl) (Nat.le_of_ble_eq_true rfl) ⟨Nat.le_of_ble_eq_true rfl, Nat.le_of_ble_eq_true rfl⟩ d_Pool_find_13 (rv_kie ?_)
      refine rv_if_eq (tgt := 37) d_Pool_find_16 (by decide) (fun c_16 => ?_) (fun c_16 => ?_)
      · have e : (fun p => bz_t S.1 p && decide ((S.2.2 p).1 = m0)) i = false := by simp [bI_0.mp c_16]
        refine rv_iinc (k := 0) (v := nI (i + 1)) (lv' := [(2, .int (nI (i + 1))), (0, .ref po), (1, .ref b)]) d_Pool_find_37 rfl (nI_1 _) (by decide) rfl ?_
        refine rv_goto (tgt := 2) d_Pool_find_40 (by decide) ?_
        rw [lp_find_f e]
        exact rv_lv [0, 1, 2] rfl (ih (i + 1) (by omega))
      · refine rv_aload_n d_Pool_find_19 rfl 1 rfl ?_
        refine rv_get ka_Pool hS.1 rfl 0 (by decide) (wi_Pool_find _ (List.mem_of_getElem? (i := 2) rfl)) rfl d_Pool_find_20 ?_
        refine rv_iload_n d_Pool_find_23 rfl 0 rfl ?_
        refine rv_aald hf 2 rfl (by omega) (by decide) d_Pool_find_24 ?_
        refine rv_eqv (y := .ref (L.2.1 i)) ((by rw [hfp i (by omega)]; rfl)) ?_
        refine rv_get ka_Tx (hS.2.2 i (by omega)).1 rfl 0 (by decide) (wi_Pool_find _ (List.mem_of_getElem? (i := 3) rfl)) rfl d_Pool_find_25 ?_
        refine rv_aload_n d_Pool_find_28 rfl 2 rfl ?_
        refine rv_callV (kc' := 0) (ks' := 0) (kc1 := 0) (ks1 := 0) (As := [.ref b]) (rest := []) (hS.2.2 i (by omega)).2.1 rfl (c_Name_same (hS.2.2 i (by omega)).2.1 hb) ok_Name_same (wi_Pool_find _ (List.mem_of_getElem? (i := 4) rfl)) (wi_Pool_find _ (List.mem_of_getElem? (i := 5) rfl)) (wi_Pool_find _ (List.mem_of_getElem? (i := 6) rfl)) rfl rfl (Nat.le_of_ble_eq_true rfl) (Nat.le_of_ble_eq_true rfl) ⟨Nat.le_of_ble_eq_true rfl, Nat.le_of_ble_eq_true rfl⟩ d_Pool_find_29 (rv_kie ?_)
        refine rv_if_eq (tgt := 37) d_Pool_find_32 (by decide) (fun c_32 => ?_) (fun c_32 => ?_)
        · have e : (fun p => bz_t S.1 p && decide ((S.2.2 p).1 = m0)) i = false := by show (_ && _) = false; rw [bI_0.mp c_32, Bool.and_false]
          refine rv_iinc (k := 0) (v := nI (i + 1)) (lv' := [(2, .int (nI (i + 1))), (0, .ref po), (1, .ref b)]) d_Pool_find_37 rfl (nI_1 _) (by decide) rfl ?_
          refine rv_goto (tgt := 2) d_Pool_find_40 (by decide) ?_
          rw [lp_find_f e]
          exact rv_lv [0, 1, 2] rfl (ih (i + 1) (by omega))
        · have e : (fun p => bz_t S.1 p && decide ((S.2.2 p).1 = m0)) i = true := by show (_ && _) = true; rw [bI_n.mp c_16, bI_n.mp c_32]; rfl
          refine rv_iload_n d_Pool_find_35 rfl 0 rfl ?_
          rw [lp_find_t e]
          exact rv_ireturn ⟨_, rfl, rfl, rfl⟩ d_Pool_find_36 rfl rfl
set_option maxHeartbeats 4000000 in
set_option maxRecDepth 100000 in
theorem c_Pool_find {l : Launch} {D : va_G} {ca : Nat → ClassId} {hp : hp_T} {d : Nat} {po : Nat} {L : po_L} {S : po_S} (hS : po_At ca hp po L S) {b : Nat} {m0 : nm_T} (hb : hp b = some (.inr (0, nm_F m0))) : ma_V l D ca ma_T M_Pool_find (d + 2) 0 0 hp (ma_qi (ma_eq (cl_find S m0) hp)) 0 (lv_args 0 [.ref po, .ref b]) [] := by
  change ma_V l D ca ma_T M_Pool_find (d + 2) 0 0 hp (ma_qi (ma_eq (cl_find S m0) hp)) 0 [(0, .ref po), (1, .ref b)] []
  refine rv_iconst (v := nI 0) d_Pool_find_0 (by decide) ?_
  refine rv_istore_n (lv' := [(2, .int (nI 0)), (0, .ref po), (1, .ref b)]) d_Pool_find_1 rfl (by decide) rfl ?_
  exact c_Pool_find_l hS hb 41 0 (Nat.zero_add _)
set_option maxHeartbeats 4000000 in
set_option maxRecDepth 100000 in
theorem c_Pool_findSpender_l {l : Launch} {D : va_G} {ca : Nat → ClassId} {hp : hp_T} {d : Nat} {po : Nat} {L : po_L} {S : po_S} (hS : po_At ca hp po L S) {b : Nat} {m0 : nm_T} {x : Int32} (hb : hp b = some (.inr (0, nm_F m0))) : ∀ (m i : Nat), i + m = 41 → ma_V l D ca ma_T M_Pool_findSpender (d + 3) 0 0 hp (ma_qi (ma_eq (lp_find (fun p => bz_t S.1 p && kv_has (S.2.2 p).2.1 m0 x) m i) hp)) 2 [(3, .int (nI i)), (0, .ref po), (1, .ref b), (2, .int x)] [] := by
  obtain ⟨f, hf, hfp⟩ := hS.2.1
  intro m
  induction m with
  | zero =>
    intro i hi
    refine rv_iload_n d_Pool_findSpender_2 rfl 0 rfl ?_
    refine rv_bipush (v := nI 41) d_Pool_findSpender_3 (by decide) ?_
    refine rv_icmp_ge (tgt := 44) d_Pool_findSpender_5 (by decide) (fun c_5 => ?_) (fun c_5 => ?_)
    · refine rv_iconst (v := (-1)) d_Pool_findSpender_44 (by decide) ?_
      exact rv_ireturn ⟨_, rfl, rfl, rfl⟩ d_Pool_findSpender_45 rfl rfl
    · exact absurd (nI_le (by omega) (by omega)) c_5
  | succ m ih =>
    intro i hi
    refine rv_iload_n d_Pool_findSpender_2 rfl 0 rfl ?_
    refine rv_bipush (v := nI 41) d_Pool_findSpender_3 (by decide) ?_
    refine rv_icmp_ge (tgt := 44) d_Pool_findSpender_5 (by decide) (fun c_5 => ?_) (fun c_5 => ?_)
    · exact absurd c_5 (nI_ge (by omega) (by omega))
    · refine rv_aload_n d_Pool_findSpender_8 rfl 1 rfl ?_
      refine rv_get ka_Pool hS.1 rfl 1 (by decide) (wi_Pool_findSpender _ (List.mem_of_getElem? (i := 0) rfl)) rfl d_Pool_findSpender_9 ?_
      refine rv_iload_n d_Pool_findSpender_12 rfl 0 rfl ?_
      refine rv_callSN (kc' := 0) (ks' := 0) (kc1 := 0) (ks1 := 0) (As := [.long S.1, .int (nI i)]) (rest := []) (c_Desk_has (by omega)) ok_Desk_has (host := "PoolDesk") (List.mem_of_getElem? (i := 6) rfl) (wi_Pool_findSpender _ (List.mem_of_getElem? (i := 1) rfl)) rfl rfl (Nat.le_of_ble_eq_true rfl) (Nat.le_of_ble_eq_true rfl) ⟨Nat.le_of_ble_eq_true rfl, Nat.le_of_ble_eq_true rfl⟩ d_Pool_findSpender_13 (rv_kie ?_)
      refine rv_if_eq (tgt := 38) d_Pool_findSpender_16 (by decide) (fun c_16 => ?_) (fun c_16 => ?_)
      · have e : (fun p => bz_t S.1 p && kv_has (S.2.2 p).2.1 m0 x) i = false := by show (_ && _) = false; rw [bI_0.mp c_16, Bool.false_and]
        refine rv_iinc (k := 0) (v := nI (i + 1)) (lv' := [(3, .int (nI (i + 1))), (0, .ref po), (1, .ref b), (2, .int x)]) d_Pool_findSpender_38 rfl (nI_1 _) (by decide) rfl ?_
        refine rv_goto (tgt := 2) d_Pool_findSpender_41 (by decide) ?_
        rw [lp_find_f e]
        exact rv_lv [0, 1, 2, 3] rfl (ih (i + 1) (by omega))
      · refine rv_aload_n d_Pool_findSpender_19 rfl 1 rfl ?_
        refine rv_get ka_Pool hS.1 rfl 0 (by decide) (wi_Pool_findSpender _ (List.mem_of_getElem? (i := 2) rfl)) rfl d_Pool_findSpender_20 ?_
        refine rv_iload_n d_Pool_findSpender_23 rfl 0 rfl ?_
        refine rv_aald hf 2 rfl (by omega) (by decide) d_Pool_findSpender_24 ?_
        refine rv_eqv (y := .ref (L.2.1 i)) ((by rw [hfp i (by omega)]; rfl)) ?_
        refine rv_get ka_Tx (hS.2.2 i (by omega)).1 rfl 1 (by decide) (wi_Pool_findSpender _ (List.mem_of_getElem? (i := 3) rfl)) rfl d_Pool_findSpender_25 ?_
        refine rv_aload_n d_Pool_findSpender_28 rfl 2 rfl ?_
        refine rv_iload_n d_Pool_findSpender_29 rfl 3 rfl ?_
        refine rv_callV (kc' := 0) (ks' := 0) (kc1 := 0) (ks1 := 0) (As := [.ref b, .int x]) (rest := []) (hS.2.2 i (by omega)).2.2.1 rfl (ck_has (hS.2.2 i (by omega)).2.2 hb) ok_Keys_contains (wi_Pool_findSpender _ (List.mem_of_getElem? (i := 4) rfl)) (wi_Pool_findSpender _ (List.mem_of_getElem? (i := 5) rfl)) (wi_Pool_findSpender _ (List.mem_of_getElem? (i := 6) rfl)) rfl rfl (Nat.le_of_ble_eq_true rfl) (Nat.le_of_ble_eq_true rfl) ⟨Nat.le_of_ble_eq_true rfl, Nat.le_of_ble_eq_true rfl⟩ d_Pool_findSpender_30 (rv_kie ?_)
        refine rv_if_eq (tgt := 38) d_Pool_findSpender_33 (by decide) (fun c_33 => ?_) (fun c_33 => ?_)
        · have e : (fun p => bz_t S.1 p && kv_has (S.2.2 p).2.1 m0 x) i = false := by show (_ && _) = false; rw [bI_0.mp c_33, Bool.and_false]
          refine rv_iinc (k := 0) (v := nI (i + 1)) (lv' := [(3, .int (nI (i + 1))), (0, .ref po), (1, .ref b), (2, .int x)]) d_Pool_findSpender_38 rfl (nI_1 _) (by decide) rfl ?_
          refine rv_goto (tgt := 2) d_Pool_findSpender_41 (by decide) ?_
          rw [lp_find_f e]
          exact rv_lv [0, 1, 2, 3] rfl (ih (i + 1) (by omega))
        · have e : (fun p => bz_t S.1 p && kv_has (S.2.2 p).2.1 m0 x) i = true := by show (_ && _) = true; rw [bI_n.mp c_16, bI_n.mp c_33]; rfl
          refine rv_iload_n d_Pool_findSpender_36 rfl 0 rfl ?_
          rw [lp_find_t e]
          exact rv_ireturn ⟨_, rfl, rfl, rfl⟩ d_Pool_findSpender_37 rfl rfl
set_option maxHeartbeats 4000000 in
set_option maxRecDepth 100000 in
theorem c_Pool_findSpender {l : Launch} {D : va_G} {ca : Nat → ClassId} {hp : hp_T} {d : Nat} {po : Nat} {L : po_L} {S : po_S} (hS : po_At ca hp po L S) {b : Nat} {m0 : nm_T} {x : Int32} (hb : hp b = some (.inr (0, nm_F m0))) : ma_V l D ca ma_T M_Pool_findSpender (d + 3) 0 0 hp (ma_qi (ma_eq (cl_spender S m0 x) hp)) 0 (lv_args 0 [.ref po, .ref b, .int x]) [] := by
  change ma_V l D ca ma_T M_Pool_findSpender (d + 3) 0 0 hp (ma_qi (ma_eq (cl_spender S m0 x) hp)) 0 [(0, .ref po), (1, .ref b), (2, .int x)] []
  refine rv_iconst (v := nI 0) d_Pool_findSpender_0 (by decide) ?_
  refine rv_istore_n (lv' := [(3, .int (nI 0)), (0, .ref po), (1, .ref b), (2, .int x)]) d_Pool_findSpender_1 rfl (by decide) rfl ?_
  exact c_Pool_findSpender_l hS hb 41 0 (Nat.zero_add _)
set_option maxHeartbeats 4000000 in
set_option maxRecDepth 100000 in
theorem c_Pool_isSpent_l {l : Launch} {D : va_G} {ca : Nat → ClassId} {hp : hp_T} {d : Nat} {po : Nat} {L : po_L} {S : po_S} (hS : po_At ca hp po L S) {k w i0 : Nat} {v : kv_T} (hk : kx_At ca hp k w i0 v) : ∀ (m i : Nat), i + m = 41 → ma_V l D ca ma_T M_Pool_isSpent (d + 3) 0 0 hp (ma_qi (ma_eq (bI (lp_any (fun p => bz_t S.1 p && kv_meet (S.2.2 p).2.1 v) m i)) hp)) 2 [(2, .int (nI i)), (0, .ref po), (1, .ref k)] [] := by
  obtain ⟨f, hf, hfp⟩ := hS.2.1
  intro m
  induction m with
  | zero =>
    intro i hi
    refine rv_iload_n d_Pool_isSpent_2 rfl 0 rfl ?_
    refine rv_bipush (v := nI 41) d_Pool_isSpent_3 (by decide) ?_
    refine rv_icmp_ge (tgt := 43) d_Pool_isSpent_5 (by decide) (fun c_5 => ?_) (fun c_5 => ?_)
    · refine rv_iconst (v := nI 0) d_Pool_isSpent_43 (by decide) ?_
      exact rv_ireturn ⟨_, rfl, rfl, rfl⟩ d_Pool_isSpent_44 rfl (bI_nar false)
    · exact absurd (nI_le (by omega) (by omega)) c_5
  | succ m ih =>
    intro i hi
    refine rv_iload_n d_Pool_isSpent_2 rfl 0 rfl ?_
    refine rv_bipush (v := nI 41) d_Pool_isSpent_3 (by decide) ?_
    refine rv_icmp_ge (tgt := 43) d_Pool_isSpent_5 (by decide) (fun c_5 => ?_) (fun c_5 => ?_)
    · exact absurd c_5 (nI_ge (by omega) (by omega))
    · refine rv_aload_n d_Pool_isSpent_8 rfl 1 rfl ?_
      refine rv_get ka_Pool hS.1 rfl 1 (by decide) (wi_Pool_isSpent _ (List.mem_of_getElem? (i := 0) rfl)) rfl d_Pool_isSpent_9 ?_
      refine rv_iload_n d_Pool_isSpent_12 rfl 0 rfl ?_
      refine rv_callSN (kc' := 0) (ks' := 0) (kc1 := 0) (ks1 := 0) (As := [.long S.1, .int (nI i)]) (rest := []) (c_Desk_has (by omega)) ok_Desk_has (host := "PoolDesk") (List.mem_of_getElem? (i := 6) rfl) (wi_Pool_isSpent _ (List.mem_of_getElem? (i := 1) rfl)) rfl rfl (Nat.le_of_ble_eq_true rfl) (Nat.le_of_ble_eq_true rfl) ⟨Nat.le_of_ble_eq_true rfl, Nat.le_of_ble_eq_true rfl⟩ d_Pool_isSpent_13 (rv_kie ?_)
      refine rv_if_eq (tgt := 37) d_Pool_isSpent_16 (by decide) (fun c_16 => ?_) (fun c_16 => ?_)
      · have e : (fun p => bz_t S.1 p && kv_meet (S.2.2 p).2.1 v) i = false := by show (_ && _) = false; rw [bI_0.mp c_16, Bool.false_and]
        refine rv_iinc (k := 0) (v := nI (i + 1)) (lv' := [(2, .int (nI (i + 1))), (0, .ref po), (1, .ref k)]) d_Pool_isSpent_37 rfl (nI_1 _) (by decide) rfl ?_
        refine rv_goto (tgt := 2) d_Pool_isSpent_40 (by decide) ?_
        rw [lp_any_f e]
        exact rv_lv [0, 1, 2] rfl (ih (i + 1) (by omega))
      · refine rv_aload_n d_Pool_isSpent_19 rfl 1 rfl ?_
        refine rv_get ka_Pool hS.1 rfl 0 (by decide) (wi_Pool_isSpent _ (List.mem_of_getElem? (i := 2) rfl)) rfl d_Pool_isSpent_20 ?_
        refine rv_iload_n d_Pool_isSpent_23 rfl 0 rfl ?_
        refine rv_aald hf 2 rfl (by omega) (by decide) d_Pool_isSpent_24 ?_
        refine rv_eqv (y := .ref (L.2.1 i)) ((by rw [hfp i (by omega)]; rfl)) ?_
        refine rv_get ka_Tx (hS.2.2 i (by omega)).1 rfl 1 (by decide) (wi_Pool_isSpent _ (List.mem_of_getElem? (i := 3) rfl)) rfl d_Pool_isSpent_25 ?_
        refine rv_aload_n d_Pool_isSpent_28 rfl 2 rfl ?_
        refine rv_callV (kc' := 0) (ks' := 0) (kc1 := 0) (ks1 := 0) (As := [.ref k]) (rest := []) (hS.2.2 i (by omega)).2.2.1 rfl (ck_meet (hS.2.2 i (by omega)).2.2 hk) ok_Keys_containsOneOf (wi_Pool_isSpent _ (List.mem_of_getElem? (i := 4) rfl)) (wi_Pool_isSpent _ (List.mem_of_getElem? (i := 5) rfl)) (wi_Pool_isSpent _ (List.mem_of_getElem? (i := 6) rfl)) rfl rfl (Nat.le_of_ble_eq_true rfl) (Nat.le_of_ble_eq_true rfl) ⟨Nat.le_of_ble_eq_true rfl, Nat.le_of_ble_eq_true rfl⟩ d_Pool_isSpent_29 (rv_kie ?_)
        refine rv_if_eq (tgt := 37) d_Pool_isSpent_32 (by decide) (fun c_32 => ?_) (fun c_32 => ?_)
        · have e : (fun p => bz_t S.1 p && kv_meet (S.2.2 p).2.1 v) i = false := by show (_ && _) = false; rw [bI_0.mp c_32, Bool.and_false]
          refine rv_iinc (k := 0) (v := nI (i + 1)) (lv' := [(2, .int (nI (i + 1))), (0, .ref po), (1, .ref k)]) d_Pool_isSpent_37 rfl (nI_1 _) (by decide) rfl ?_
          refine rv_goto (tgt := 2) d_Pool_isSpent_40 (by decide) ?_
          rw [lp_any_f e]
          exact rv_lv [0, 1, 2] rfl (ih (i + 1) (by omega))
        · have e : (fun p => bz_t S.1 p && kv_meet (S.2.2 p).2.1 v) i = true := by show (_ && _) = true; rw [bI_n.mp c_16, bI_n.mp c_32]; rfl
          refine rv_iconst (v := nI 1) d_Pool_isSpent_35 (by decide) ?_
          rw [lp_any_t e]
          exact rv_ireturn ⟨_, rfl, rfl, rfl⟩ d_Pool_isSpent_36 rfl (bI_nar true)
set_option maxHeartbeats 4000000 in
set_option maxRecDepth 100000 in
theorem c_Pool_isSpent {l : Launch} {D : va_G} {ca : Nat → ClassId} {hp : hp_T} {d : Nat} {po : Nat} {L : po_L} {S : po_S} (hS : po_At ca hp po L S) {k w i0 : Nat} {v : kv_T} (hk : kx_At ca hp k w i0 v) : ma_V l D ca ma_T M_Pool_isSpent (d + 3) 0 0 hp (ma_qi (ma_eq (bI (cl_spent S v)) hp)) 0 (lv_args 0 [.ref po, .ref k]) [] := by
  change ma_V l D ca ma_T M_Pool_isSpent (d + 3) 0 0 hp (ma_qi (ma_eq (bI (cl_spent S v)) hp)) 0 [(0, .ref po), (1, .ref k)] []
  refine rv_iconst (v := nI 0) d_Pool_isSpent_0 (by decide) ?_
  refine rv_istore_n (lv' := [(2, .int (nI 0)), (0, .ref po), (1, .ref k)]) d_Pool_isSpent_1 rfl (by decide) rfl ?_
  exact c_Pool_isSpent_l hS hk 41 0 (Nat.zero_add _)
set_option maxHeartbeats 4000000 in
set_option maxRecDepth 100000 in
theorem c_Pool_missesOutput_l {l : Launch} {D : va_G} {ca : Nat → ClassId} {hp : hp_T} {d : Nat} {po : Nat} {L : po_L} {S : po_S} (hS : po_At ca hp po L S) {b : Nat} {m0 : nm_T} {x : Int32} (hb : hp b = some (.inr (0, nm_F m0))) {k w i0 : Nat} {v : kv_T} (hk : kx_At ca hp k w i0 v) : ∀ (m i : Nat), i + m = 41 → ma_V l D ca ma_T M_Pool_missesOutput (d + 3) 0 0 hp (ma_qi (ma_eq (bI (lp_any (fun p => bz_t S.1 p && (kv_miss v (S.2.2 p).1 (S.2.2 p).2.2.2.2.1 || kv_miss (S.2.2 p).2.1 m0 x)) m i)) hp)) 3 [(4, .int (nI i)), (0, .ref po), (1, .ref b), (2, .ref k), (3, .int x)] [] := by
  obtain ⟨f, hf, hfp⟩ := hS.2.1
  intro m
  induction m with
  | zero =>
    intro i hi
    refine rv_iload d_Pool_missesOutput_3 0 rfl ?_
    refine rv_bipush (v := nI 41) d_Pool_missesOutput_5 (by decide) ?_
    refine rv_icmp_ge (tgt := 69) d_Pool_missesOutput_7 (by decide) (fun c_7 => ?_) (fun c_7 => ?_)
    · refine rv_iconst (v := nI 0) d_Pool_missesOutput_69 (by decide) ?_
      exact rv_ireturn ⟨_, rfl, rfl, rfl⟩ d_Pool_missesOutput_70 rfl (bI_nar false)
    · exact absurd (nI_le (by omega) (by omega)) c_7
  | succ m ih =>
    intro i hi
    refine rv_iload d_Pool_missesOutput_3 0 rfl ?_
    refine rv_bipush (v := nI 41) d_Pool_missesOutput_5 (by decide) ?_
    refine rv_icmp_ge (tgt := 69) d_Pool_missesOutput_7 (by decide) (fun c_7 => ?_) (fun c_7 => ?_)
    · exact absurd c_7 (nI_ge (by omega) (by omega))
    · refine rv_aload_n d_Pool_missesOutput_10 rfl 1 rfl ?_
      refine rv_get ka_Pool hS.1 rfl 1 (by decide) (wi_Pool_missesOutput _ (List.mem_of_getElem? (i := 0) rfl)) rfl d_Pool_missesOutput_11 ?_
      refine rv_iload d_Pool_missesOutput_14 0 rfl ?_
      refine rv_callSN (kc' := 0) (ks' := 0) (kc1 := 0) (ks1 := 0) (As := [.long S.1, .int (nI i)]) (rest := []) (c_Desk_has (by omega)) ok_Desk_has (host := "PoolDesk") (List.mem_of_getElem? (i := 6) rfl) (wi_Pool_missesOutput _ (List.mem_of_getElem? (i := 1) rfl)) rfl rfl (Nat.le_of_ble_eq_true rfl) (Nat.le_of_ble_eq_true rfl) ⟨Nat.le_of_ble_eq_true rfl, Nat.le_of_ble_eq_true rfl⟩ d_Pool_missesOutput_16 (rv_kie ?_)
      refine rv_if_eq (tgt := 63) d_Pool_missesOutput_19 (by decide) (fun c_19 => ?_) (fun c_19 => ?_)
      · have e : (fun p => bz_t S.1 p && (kv_miss v (S.2.2 p).1 (S.2.2 p).2.2.2.2.1 || kv_miss (S.2.2 p).2.1 m0 x)) i = false := by show (_ && _) = false; rw [bI_0.mp c_19, Bool.false_and]
        refine rv_iinc (k := 0) (v := nI (i + 1)) (lv' := [(4, .int (nI (i + 1))), (0, .ref po), (1, .ref b), (2, .ref k), (3, .int x)]) d_Pool_missesOutput_63 rfl (nI_1 _) (by decide) rfl ?_
        refine rv_goto (tgt := 3) d_Pool_missesOutput_66 (by decide) ?_
        rw [lp_any_f e]
        exact rv_lv [0, 1, 2, 3, 4] rfl (ih (i + 1) (by omega))
      · refine rv_aload_n d_Pool_missesOutput_22 rfl 1 rfl ?_
        refine rv_get ka_Pool hS.1 rfl 0 (by decide) (wi_Pool_missesOutput _ (List.mem_of_getElem? (i := 2) rfl)) rfl d_Pool_missesOutput_23 ?_
        refine rv_iload d_Pool_missesOutput_26 0 rfl ?_
        refine rv_aald hf 2 rfl (by omega) (by decide) d_Pool_missesOutput_28 ?_
        refine rv_eqv (y := .ref (L.2.1 i)) ((by rw [hfp i (by omega)]; rfl)) ?_
        refine rv_astore (lv' := [(5, .ref (L.2.1 i)), (4, .int (nI i)), (0, .ref po), (1, .ref b), (2, .ref k), (3, .int x)]) d_Pool_missesOutput_29 (by decide) rfl ?_
        refine rv_aload_n d_Pool_missesOutput_31 rfl 4 rfl ?_
        refine rv_aload d_Pool_missesOutput_32 0 rfl ?_
        refine rv_get ka_Tx (hS.2.2 i (by omega)).1 rfl 0 (by decide) (wi_Pool_missesOutput _ (List.mem_of_getElem? (i := 3) rfl)) rfl d_Pool_missesOutput_34 ?_
        refine rv_aload d_Pool_missesOutput_37 0 rfl ?_
        refine rv_get ka_Tx (hS.2.2 i (by omega)).1 rfl 4 (by decide) (wi_Pool_missesOutput _ (List.mem_of_getElem? (i := 4) rfl)) rfl d_Pool_missesOutput_39 ?_
        refine rv_callV (kc' := 0) (ks' := 0) (kc1 := 0) (ks1 := 0) (As := [.ref (L.2.2.1 i), .int ((S.2.2 i).2.2.2.2.1)]) (rest := []) hk.1 rfl (ck_miss hk (hS.2.2 i (by omega)).2.1) ok_Keys_misses (wi_Pool_missesOutput _ (List.mem_of_getElem? (i := 5) rfl)) (wi_Pool_missesOutput _ (List.mem_of_getElem? (i := 6) rfl)) (wi_Pool_missesOutput _ (List.mem_of_getElem? (i := 7) rfl)) rfl rfl (Nat.le_of_ble_eq_true rfl) (Nat.le_of_ble_eq_true rfl) ⟨Nat.le_of_ble_eq_true rfl, Nat.le_of_ble_eq_true rfl⟩ d_Pool_missesOutput_42 (rv_kie ?_)
        refine rv_if_ne (tgt := 61) d_Pool_missesOutput_45 (by decide) (fun c_45 => ?_) (fun c_45 => ?_)
        · have e : (fun p => bz_t S.1 p && (kv_miss v (S.2.2 p).1 (S.2.2 p).2.2.2.2.1 || kv_miss (S.2.2 p).2.1 m0 x)) i = true := by show (_ && (_ || _)) = true; rw [bI_n.mp c_19, bI_n.mp c_45]; rfl
          refine rv_iconst (v := nI 1) d_Pool_missesOutput_61 (by decide) ?_
          rw [lp_any_t e]
          exact rv_ireturn ⟨_, rfl, rfl, rfl⟩ d_Pool_missesOutput_62 rfl (bI_nar true)
        · refine rv_aload d_Pool_missesOutput_48 0 rfl ?_
          refine rv_get ka_Tx (hS.2.2 i (by omega)).1 rfl 1 (by decide) (wi_Pool_missesOutput _ (List.mem_of_getElem? (i := 8) rfl)) rfl d_Pool_missesOutput_50 ?_
          refine rv_aload_n d_Pool_missesOutput_53 rfl 3 rfl ?_
          refine rv_iload_n d_Pool_missesOutput_54 rfl 5 rfl ?_
          refine rv_callV (kc' := 0) (ks' := 0) (kc1 := 0) (ks1 := 0) (As := [.ref b, .int x]) (rest := []) (hS.2.2 i (by omega)).2.2.1 rfl (ck_miss (hS.2.2 i (by omega)).2.2 hb) ok_Keys_misses (wi_Pool_missesOutput _ (List.mem_of_getElem? (i := 5) rfl)) (wi_Pool_missesOutput _ (List.mem_of_getElem? (i := 6) rfl)) (wi_Pool_missesOutput _ (List.mem_of_getElem? (i := 7) rfl)) rfl rfl (Nat.le_of_ble_eq_true rfl) (Nat.le_of_ble_eq_true rfl) ⟨Nat.le_of_ble_eq_true rfl, Nat.le_of_ble_eq_true rfl⟩ d_Pool_missesOutput_55 (rv_kie ?_)
          refine rv_if_eq (tgt := 63) d_Pool_missesOutput_58 (by decide) (fun c_58 => ?_) (fun c_58 => ?_)
          · have e : (fun p => bz_t S.1 p && (kv_miss v (S.2.2 p).1 (S.2.2 p).2.2.2.2.1 || kv_miss (S.2.2 p).2.1 m0 x)) i = false := by show (_ && (_ || _)) = false; rw [bI_0.mp c_45, bI_0.mp c_58]; simp
            refine rv_iinc (k := 1) (v := nI (i + 1)) (lv' := [(4, .int (nI (i + 1))), (5, .ref (L.2.1 i)), (0, .ref po), (1, .ref b), (2, .ref k), (3, .int x)]) d_Pool_missesOutput_63 rfl (nI_1 _) (by decide) rfl ?_
            refine rv_goto (tgt := 3) d_Pool_missesOutput_66 (by decide) ?_
            rw [lp_any_f e]
            exact rv_lv [0, 2, 3, 4, 5] rfl (ih (i + 1) (by omega))
          · have e : (fun p => bz_t S.1 p && (kv_miss v (S.2.2 p).1 (S.2.2 p).2.2.2.2.1 || kv_miss (S.2.2 p).2.1 m0 x)) i = true := by show (_ && (_ || _)) = true; rw [bI_n.mp c_19, bI_n.mp c_58]; simp
            refine rv_iconst (v := nI 1) d_Pool_missesOutput_61 (by decide) ?_
            rw [lp_any_t e]
            exact rv_ireturn ⟨_, rfl, rfl, rfl⟩ d_Pool_missesOutput_62 rfl (bI_nar true)
set_option maxHeartbeats 4000000 in
set_option maxRecDepth 100000 in
theorem c_Pool_missesOutput {l : Launch} {D : va_G} {ca : Nat → ClassId} {hp : hp_T} {d : Nat} {po : Nat} {L : po_L} {S : po_S} (hS : po_At ca hp po L S) {b : Nat} {m0 : nm_T} {x : Int32} (hb : hp b = some (.inr (0, nm_F m0))) {k w i0 : Nat} {v : kv_T} (hk : kx_At ca hp k w i0 v) : ma_V l D ca ma_T M_Pool_missesOutput (d + 3) 0 0 hp (ma_qi (ma_eq (bI (cl_miss S m0 v x)) hp)) 0 (lv_args 0 [.ref po, .ref b, .ref k, .int x]) [] := by
  change ma_V l D ca ma_T M_Pool_missesOutput (d + 3) 0 0 hp (ma_qi (ma_eq (bI (cl_miss S m0 v x)) hp)) 0 [(0, .ref po), (1, .ref b), (2, .ref k), (3, .int x)] []
  refine rv_iconst (v := nI 0) d_Pool_missesOutput_0 (by decide) ?_
  refine rv_istore (lv' := [(4, .int (nI 0)), (0, .ref po), (1, .ref b), (2, .ref k), (3, .int x)]) d_Pool_missesOutput_1 (by decide) rfl ?_
  exact c_Pool_missesOutput_l hS hb hk 41 0 (Nat.zero_add _)
set_option maxHeartbeats 4000000 in
set_option maxRecDepth 100000 in
theorem c_Pool_spendersOf_l {l : Launch} {D : va_G} {ca : Nat → ClassId} {hp : hp_T} {d : Nat} {po : Nat} {L : po_L} {S : po_S} (hS : po_At ca hp po L S) {b : Nat} {m0 : nm_T} (hb : hp b = some (.inr (0, nm_F m0))) : ∀ (m i : Nat) (a : Int64), i + m = 41 → ma_V l D ca ma_T M_Pool_spendersOf (d + 3) 0 0 hp (ma_ql (ma_eq (lp_fold (fun p a => if (bz_t S.1 p && kv_bears (S.2.2 p).2.1 m0) = true then a ||| bz_b p else a) m i a) hp)) 5 [(4, .int (nI i)), (2, .long a), (0, .ref po), (1, .ref b)] [] := by
  obtain ⟨f, hf, hfp⟩ := hS.2.1
  intro m
  induction m with
  | zero =>
    intro i a hi
    refine rv_iload d_Pool_spendersOf_5 0 rfl ?_
    refine rv_bipush (v := nI 41) d_Pool_spendersOf_7 (by decide) ?_
    refine rv_icmp_ge (tgt := 55) d_Pool_spendersOf_9 (by decide) (fun c_9 => ?_) (fun c_9 => ?_)
    · refine rv_lload_n d_Pool_spendersOf_55 rfl 1 rfl ?_
      exact rv_lreturn ⟨_, rfl, rfl, rfl⟩ d_Pool_spendersOf_56 rfl
    · exact absurd (nI_le (by omega) (by omega)) c_9
  | succ m ih =>
    intro i a hi
    refine rv_iload d_Pool_spendersOf_5 0 rfl ?_
    refine rv_bipush (v := nI 41) d_Pool_spendersOf_7 (by decide) ?_
    refine rv_icmp_ge (tgt := 55) d_Pool_spendersOf_9 (by decide) (fun c_9 => ?_) (fun c_9 => ?_)
    · exact absurd c_9 (nI_ge (by omega) (by omega))
    · refine rv_aload_n d_Pool_spendersOf_12 rfl 2 rfl ?_
      refine rv_get ka_Pool hS.1 rfl 1 (by decide) (wi_Pool_spendersOf _ (List.mem_of_getElem? (i := 0) rfl)) rfl d_Pool_spendersOf_13 ?_
      refine rv_iload d_Pool_spendersOf_16 0 rfl ?_
      refine rv_callSN (kc' := 0) (ks' := 0) (kc1 := 0) (ks1 := 0) (As := [.long S.1, .int (nI i)]) (rest := []) (c_Desk_has (by omega)) ok_Desk_has (host := "PoolDesk") (List.mem_of_getElem? (i := 6) rfl) (wi_Pool_spendersOf _ (List.mem_of_getElem? (i := 1) rfl)) rfl rfl (Nat.le_of_ble_eq_true rfl) (Nat.le_of_ble_eq_true rfl) ⟨Nat.le_of_ble_eq_true rfl, Nat.le_of_ble_eq_true rfl⟩ d_Pool_spendersOf_18 (rv_kie ?_)
      refine rv_if_eq (tgt := 49) d_Pool_spendersOf_21 (by decide) (fun c_21 => ?_) (fun c_21 => ?_)
      · have e : (fun p a => if (bz_t S.1 p && kv_bears (S.2.2 p).2.1 m0) = true then a ||| bz_b p else a) i a = a := by simp [bI_0.mp c_21]
        refine rv_iinc (k := 0) (v := nI (i + 1)) (lv' := [(4, .int (nI (i + 1))), (2, .long a), (0, .ref po), (1, .ref b)]) d_Pool_spendersOf_49 rfl (nI_1 _) (by decide) rfl ?_
        refine rv_goto (tgt := 5) d_Pool_spendersOf_52 (by decide) ?_
        refine rv_post (Q' := ma_ql (ma_eq (lp_fold (fun p a => if (bz_t S.1 p && kv_bears (S.2.2 p).2.1 m0) = true then a ||| bz_b p else a) m (i + 1) (a)) hp)) (fun _ _ h => ?_) (rv_lv [0, 1, 2, 3] rfl (ih (i + 1) _ (by omega)))
        rw [← e] at h
        exact h
      · refine rv_aload_n d_Pool_spendersOf_24 rfl 2 rfl ?_
        refine rv_get ka_Pool hS.1 rfl 0 (by decide) (wi_Pool_spendersOf _ (List.mem_of_getElem? (i := 2) rfl)) rfl d_Pool_spendersOf_25 ?_
        refine rv_iload d_Pool_spendersOf_28 0 rfl ?_
        refine rv_aald hf 2 rfl (by omega) (by decide) d_Pool_spendersOf_30 ?_
        refine rv_eqv (y := .ref (L.2.1 i)) ((by rw [hfp i (by omega)]; rfl)) ?_
        refine rv_get ka_Tx (hS.2.2 i (by omega)).1 rfl 1 (by decide) (wi_Pool_spendersOf _ (List.mem_of_getElem? (i := 3) rfl)) rfl d_Pool_spendersOf_31 ?_
        refine rv_aload_n d_Pool_spendersOf_34 rfl 3 rfl ?_
        refine rv_callV (kc' := 0) (ks' := 0) (kc1 := 0) (ks1 := 0) (As := [.ref b]) (rest := []) (hS.2.2 i (by omega)).2.2.1 rfl (ck_bears (hS.2.2 i (by omega)).2.2 hb) ok_Keys_bears (wi_Pool_spendersOf _ (List.mem_of_getElem? (i := 4) rfl)) (wi_Pool_spendersOf _ (List.mem_of_getElem? (i := 5) rfl)) (wi_Pool_spendersOf _ (List.mem_of_getElem? (i := 6) rfl)) rfl rfl (Nat.le_of_ble_eq_true rfl) (Nat.le_of_ble_eq_true rfl) ⟨Nat.le_of_ble_eq_true rfl, Nat.le_of_ble_eq_true rfl⟩ d_Pool_spendersOf_35 (rv_kie ?_)
        refine rv_if_eq (tgt := 49) d_Pool_spendersOf_38 (by decide) (fun c_38 => ?_) (fun c_38 => ?_)
        · have e : (fun p a => if (bz_t S.1 p && kv_bears (S.2.2 p).2.1 m0) = true then a ||| bz_b p else a) i a = a := by simp [bI_0.mp c_38]
          refine rv_iinc (k := 0) (v := nI (i + 1)) (lv' := [(4, .int (nI (i + 1))), (2, .long a), (0, .ref po), (1, .ref b)]) d_Pool_spendersOf_49 rfl (nI_1 _) (by decide) rfl ?_
          refine rv_goto (tgt := 5) d_Pool_spendersOf_52 (by decide) ?_
          refine rv_post (Q' := ma_ql (ma_eq (lp_fold (fun p a => if (bz_t S.1 p && kv_bears (S.2.2 p).2.1 m0) = true then a ||| bz_b p else a) m (i + 1) (a)) hp)) (fun _ _ h => ?_) (rv_lv [0, 1, 2, 3] rfl (ih (i + 1) _ (by omega)))
          rw [← e] at h
          exact h
        · have e : (fun p a => if (bz_t S.1 p && kv_bears (S.2.2 p).2.1 m0) = true then a ||| bz_b p else a) i a = a ||| bz_b i := by simp [bI_n.mp c_21, bI_n.mp c_38]
          refine rv_lload_n d_Pool_spendersOf_41 rfl 1 rfl ?_
          refine rv_iload d_Pool_spendersOf_42 0 rfl ?_
          refine rv_callSN (kc' := 0) (ks' := 0) (kc1 := 0) (ks1 := 0) (As := [.int (nI i)]) (rest := [.long a]) (c_Desk_bit) ok_Desk_bit (host := "PoolDesk") (List.mem_of_getElem? (i := 7) rfl) (wi_Pool_spendersOf _ (List.mem_of_getElem? (i := 7) rfl)) rfl rfl (Nat.le_of_ble_eq_true rfl) (Nat.le_of_ble_eq_true rfl) ⟨Nat.le_of_ble_eq_true rfl, Nat.le_of_ble_eq_true rfl⟩ d_Pool_spendersOf_44 (rv_kle ?_)
          refine rv_lor d_Pool_spendersOf_47 ?_
          refine rv_lstore_n (lv' := [(2, .long (a ||| (bz_b i))), (4, .int (nI i)), (0, .ref po), (1, .ref b)]) d_Pool_spendersOf_48 rfl (by decide) rfl ?_
          refine rv_iinc (k := 1) (v := nI (i + 1)) (lv' := [(4, .int (nI (i + 1))), (2, .long (a ||| (bz_b i))), (0, .ref po), (1, .ref b)]) d_Pool_spendersOf_49 rfl (nI_1 _) (by decide) rfl ?_
          refine rv_goto (tgt := 5) d_Pool_spendersOf_52 (by decide) ?_
          refine rv_post (Q' := ma_ql (ma_eq (lp_fold (fun p a => if (bz_t S.1 p && kv_bears (S.2.2 p).2.1 m0) = true then a ||| bz_b p else a) m (i + 1) (a ||| (bz_b i))) hp)) (fun _ _ h => ?_) (rv_lv [0, 1, 2, 3] rfl (ih (i + 1) _ (by omega)))
          rw [← e] at h
          exact h
set_option maxHeartbeats 4000000 in
set_option maxRecDepth 100000 in
theorem c_Pool_spendersOf {l : Launch} {D : va_G} {ca : Nat → ClassId} {hp : hp_T} {d : Nat} {po : Nat} {L : po_L} {S : po_S} (hS : po_At ca hp po L S) {b : Nat} {m0 : nm_T} (hb : hp b = some (.inr (0, nm_F m0))) : ma_V l D ca ma_T M_Pool_spendersOf (d + 3) 0 0 hp (ma_ql (ma_eq (cl_spenders S m0) hp)) 0 (lv_args 0 [.ref po, .ref b]) [] := by
  change ma_V l D ca ma_T M_Pool_spendersOf (d + 3) 0 0 hp (ma_ql (ma_eq (cl_spenders S m0) hp)) 0 [(0, .ref po), (1, .ref b)] []
  refine rv_lconst (v := 0) d_Pool_spendersOf_0 (by decide) ?_
  refine rv_lstore_n (lv' := [(2, .long 0), (0, .ref po), (1, .ref b)]) d_Pool_spendersOf_1 rfl (by decide) rfl ?_
  refine rv_iconst (v := nI 0) d_Pool_spendersOf_2 (by decide) ?_
  refine rv_istore (lv' := [(4, .int (nI 0)), (2, .long 0), (0, .ref po), (1, .ref b)]) d_Pool_spendersOf_3 (by decide) rfl ?_
  exact rv_lv [0, 1, 2, 3] rfl (c_Pool_spendersOf_l hS hb 41 0 0 (Nat.zero_add _))
set_option maxHeartbeats 4000000 in
set_option maxRecDepth 100000 in
theorem c_Pool_named_l {l : Launch} {D : va_G} {ca : Nat → ClassId} {hp : hp_T} {d : Nat} {po : Nat} {L : po_L} {S : po_S} (hS : po_At ca hp po L S) {k w i0 : Nat} {v : kv_T} (hk : kx_At ca hp k w i0 v) : ∀ (m i : Nat) (a : Int64), i + m = 41 → ma_V l D ca ma_T M_Pool_named (d + 3) 0 0 hp (ma_ql (ma_eq (lp_fold (fun p a => if (bz_t S.1 p && kv_bears v (S.2.2 p).1) = true then a ||| bz_b p else a) m i a) hp)) 5 [(4, .int (nI i)), (2, .long a), (0, .ref po), (1, .ref k)] [] := by
  obtain ⟨f, hf, hfp⟩ := hS.2.1
  intro m
  induction m with
  | zero =>
    intro i a hi
    refine rv_iload d_Pool_named_5 0 rfl ?_
    refine rv_bipush (v := nI 41) d_Pool_named_7 (by decide) ?_
    refine rv_icmp_ge (tgt := 55) d_Pool_named_9 (by decide) (fun c_9 => ?_) (fun c_9 => ?_)
    · refine rv_lload_n d_Pool_named_55 rfl 1 rfl ?_
      exact rv_lreturn ⟨_, rfl, rfl, rfl⟩ d_Pool_named_56 rfl
    · exact absurd (nI_le (by omega) (by omega)) c_9
  | succ m ih =>
    intro i a hi
    refine rv_iload d_Pool_named_5 0 rfl ?_
    refine rv_bipush (v := nI 41) d_Pool_named_7 (by decide) ?_
    refine rv_icmp_ge (tgt := 55) d_Pool_named_9 (by decide) (fun c_9 => ?_) (fun c_9 => ?_)
    · exact absurd c_9 (nI_ge (by omega) (by omega))
    · refine rv_aload_n d_Pool_named_12 rfl 2 rfl ?_
      refine rv_get ka_Pool hS.1 rfl 1 (by decide) (wi_Pool_named _ (List.mem_of_getElem? (i := 0) rfl)) rfl d_Pool_named_13 ?_
      refine rv_iload d_Pool_named_16 0 rfl ?_
      refine rv_callSN (kc' := 0) (ks' := 0) (kc1 := 0) (ks1 := 0) (As := [.long S.1, .int (nI i)]) (rest := []) (c_Desk_has (by omega)) ok_Desk_has (host := "PoolDesk") (List.mem_of_getElem? (i := 6) rfl) (wi_Pool_named _ (List.mem_of_getElem? (i := 1) rfl)) rfl rfl (Nat.le_of_ble_eq_true rfl) (Nat.le_of_ble_eq_true rfl) ⟨Nat.le_of_ble_eq_true rfl, Nat.le_of_ble_eq_true rfl⟩ d_Pool_named_18 (rv_kie ?_)
      refine rv_if_eq (tgt := 49) d_Pool_named_21 (by decide) (fun c_21 => ?_) (fun c_21 => ?_)
      · have e : (fun p a => if (bz_t S.1 p && kv_bears v (S.2.2 p).1) = true then a ||| bz_b p else a) i a = a := by simp [bI_0.mp c_21]
        refine rv_iinc (k := 0) (v := nI (i + 1)) (lv' := [(4, .int (nI (i + 1))), (2, .long a), (0, .ref po), (1, .ref k)]) d_Pool_named_49 rfl (nI_1 _) (by decide) rfl ?_
        refine rv_goto (tgt := 5) d_Pool_named_52 (by decide) ?_
        refine rv_post (Q' := ma_ql (ma_eq (lp_fold (fun p a => if (bz_t S.1 p && kv_bears v (S.2.2 p).1) = true then a ||| bz_b p else a) m (i + 1) (a)) hp)) (fun _ _ h => ?_) (rv_lv [0, 1, 2, 3] rfl (ih (i + 1) _ (by omega)))
        rw [← e] at h
        exact h
      · refine rv_aload_n d_Pool_named_24 rfl 3 rfl ?_
        refine rv_aload_n d_Pool_named_25 rfl 2 rfl ?_
        refine rv_get ka_Pool hS.1 rfl 0 (by decide) (wi_Pool_named _ (List.mem_of_getElem? (i := 2) rfl)) rfl d_Pool_named_26 ?_
        refine rv_iload d_Pool_named_29 0 rfl ?_
        refine rv_aald hf 2 rfl (by omega) (by decide) d_Pool_named_31 ?_
        refine rv_eqv (y := .ref (L.2.1 i)) ((by rw [hfp i (by omega)]; rfl)) ?_
        refine rv_get ka_Tx (hS.2.2 i (by omega)).1 rfl 0 (by decide) (wi_Pool_named _ (List.mem_of_getElem? (i := 3) rfl)) rfl d_Pool_named_32 ?_
        refine rv_callV (kc' := 0) (ks' := 0) (kc1 := 0) (ks1 := 0) (As := [.ref (L.2.2.1 i)]) (rest := []) hk.1 rfl (ck_bears hk (hS.2.2 i (by omega)).2.1) ok_Keys_bears (wi_Pool_named _ (List.mem_of_getElem? (i := 4) rfl)) (wi_Pool_named _ (List.mem_of_getElem? (i := 5) rfl)) (wi_Pool_named _ (List.mem_of_getElem? (i := 6) rfl)) rfl rfl (Nat.le_of_ble_eq_true rfl) (Nat.le_of_ble_eq_true rfl) ⟨Nat.le_of_ble_eq_true rfl, Nat.le_of_ble_eq_true rfl⟩ d_Pool_named_35 (rv_kie ?_)
        refine rv_if_eq (tgt := 49) d_Pool_named_38 (by decide) (fun c_38 => ?_) (fun c_38 => ?_)
        · have e : (fun p a => if (bz_t S.1 p && kv_bears v (S.2.2 p).1) = true then a ||| bz_b p else a) i a = a := by simp [bI_0.mp c_38]
          refine rv_iinc (k := 0) (v := nI (i + 1)) (lv' := [(4, .int (nI (i + 1))), (2, .long a), (0, .ref po), (1, .ref k)]) d_Pool_named_49 rfl (nI_1 _) (by decide) rfl ?_
          refine rv_goto (tgt := 5) d_Pool_named_52 (by decide) ?_
          refine rv_post (Q' := ma_ql (ma_eq (lp_fold (fun p a => if (bz_t S.1 p && kv_bears v (S.2.2 p).1) = true then a ||| bz_b p else a) m (i + 1) (a)) hp)) (fun _ _ h => ?_) (rv_lv [0, 1, 2, 3] rfl (ih (i + 1) _ (by omega)))
          rw [← e] at h
          exact h
        · have e : (fun p a => if (bz_t S.1 p && kv_bears v (S.2.2 p).1) = true then a ||| bz_b p else a) i a = a ||| bz_b i := by simp [bI_n.mp c_21, bI_n.mp c_38]
          refine rv_lload_n d_Pool_named_41 rfl 1 rfl ?_
          refine rv_iload d_Pool_named_42 0 rfl ?_
          refine rv_callSN (kc' := 0) (ks' := 0) (kc1 := 0) (ks1 := 0) (As := [.int (nI i)]) (rest := [.long a]) (c_Desk_bit) ok_Desk_bit (host := "PoolDesk") (List.mem_of_getElem? (i := 7) rfl) (wi_Pool_named _ (List.mem_of_getElem? (i := 7) rfl)) rfl rfl (Nat.le_of_ble_eq_true rfl) (Nat.le_of_ble_eq_true rfl) ⟨Nat.le_of_ble_eq_true rfl, Nat.le_of_ble_eq_true rfl⟩ d_Pool_named_44 (rv_kle ?_)
          refine rv_lor d_Pool_named_47 ?_
          refine rv_lstore_n (lv' := [(2, .long (a ||| (bz_b i))), (4, .int (nI i)), (0, .ref po), (1, .ref k)]) d_Pool_named_48 rfl (by decide) rfl ?_
          refine rv_iinc (k := 1) (v := nI (i + 1)) (lv' := [(4, .int (nI (i + 1))), (2, .long (a ||| (bz_b i))), (0, .ref po), (1, .ref k)]) d_Pool_named_49 rfl (nI_1 _) (by decide) rfl ?_
          refine rv_goto (tgt := 5) d_Pool_named_52 (by decide) ?_
          refine rv_post (Q' := ma_ql (ma_eq (lp_fold (fun p a => if (bz_t S.1 p && kv_bears v (S.2.2 p).1) = true then a ||| bz_b p else a) m (i + 1) (a ||| (bz_b i))) hp)) (fun _ _ h => ?_) (rv_lv [0, 1, 2, 3] rfl (ih (i + 1) _ (by omega)))
          rw [← e] at h
          exact h
set_option maxHeartbeats 4000000 in
set_option maxRecDepth 100000 in
theorem c_Pool_named {l : Launch} {D : va_G} {ca : Nat → ClassId} {hp : hp_T} {d : Nat} {po : Nat} {L : po_L} {S : po_S} (hS : po_At ca hp po L S) {k w i0 : Nat} {v : kv_T} (hk : kx_At ca hp k w i0 v) : ma_V l D ca ma_T M_Pool_named (d + 3) 0 0 hp (ma_ql (ma_eq (cl_named S v) hp)) 0 (lv_args 0 [.ref po, .ref k]) [] := by
  change ma_V l D ca ma_T M_Pool_named (d + 3) 0 0 hp (ma_ql (ma_eq (cl_named S v) hp)) 0 [(0, .ref po), (1, .ref k)] []
  refine rv_lconst (v := 0) d_Pool_named_0 (by decide) ?_
  refine rv_lstore_n (lv' := [(2, .long 0), (0, .ref po), (1, .ref k)]) d_Pool_named_1 rfl (by decide) rfl ?_
  refine rv_iconst (v := nI 0) d_Pool_named_2 (by decide) ?_
  refine rv_istore (lv' := [(4, .int (nI 0)), (2, .long 0), (0, .ref po), (1, .ref k)]) d_Pool_named_3 (by decide) rfl ?_
  exact rv_lv [0, 1, 2, 3] rfl (c_Pool_named_l hS hk 41 0 0 (Nat.zero_add _))
set_option maxHeartbeats 4000000 in
set_option maxRecDepth 100000 in
theorem c_Pool_sumOfFees_l {l : Launch} {D : va_G} {ca : Nat → ClassId} {hp : hp_T} {d : Nat} {po : Nat} {L : po_L} {S : po_S} (hS : po_At ca hp po L S) {x : Int64} : ∀ (m i : Nat) (a : Int64), i + m = 41 → ma_V l D ca ma_T M_Pool_sumOfFees (d + 2) 0 0 hp (ma_ql (ma_eq (lp_fold (fun p a => if bz_t x p = true then a + (S.2.2 p).2.2.1 else a) m i a) hp)) 5 [(5, .int (nI i)), (3, .long a), (0, .ref po), (1, .long x)] [] := by
  obtain ⟨f, hf, hfp⟩ := hS.2.1
  intro m
  induction m with
  | zero =>
    intro i a hi
    refine rv_iload d_Pool_sumOfFees_5 0 rfl ?_
    refine rv_bipush (v := nI 41) d_Pool_sumOfFees_7 (by decide) ?_
    refine rv_icmp_ge (tgt := 40) d_Pool_sumOfFees_9 (by decide) (fun c_9 => ?_) (fun c_9 => ?_)
    · refine rv_lload_n d_Pool_sumOfFees_40 rfl 1 rfl ?_
      exact rv_lreturn ⟨_, rfl, rfl, rfl⟩ d_Pool_sumOfFees_41 rfl
    · exact absurd (nI_le (by omega) (by omega)) c_9
  | succ m ih =>
    intro i a hi
    refine rv_iload d_Pool_sumOfFees_5 0 rfl ?_
    refine rv_bipush (v := nI 41) d_Pool_sumOfFees_7 (by decide) ?_
    refine rv_icmp_ge (tgt := 40) d_Pool_sumOfFees_9 (by decide) (fun c_9 => ?_) (fun c_9 => ?_)
    · exact absurd c_9 (nI_ge (by omega) (by omega))
    · refine rv_lload_n d_Pool_sumOfFees_12 rfl 3 rfl ?_
      refine rv_iload d_Pool_sumOfFees_13 0 rfl ?_
      refine rv_callSN (kc' := 0) (ks' := 0) (kc1 := 0) (ks1 := 0) (As := [.long x, .int (nI i)]) (rest := []) (c_Desk_has (by omega)) ok_Desk_has (host := "PoolDesk") (List.mem_of_getElem? (i := 6) rfl) (wi_Pool_sumOfFees _ (List.mem_of_getElem? (i := 0) rfl)) rfl rfl (Nat.le_of_ble_eq_true rfl) (Nat.le_of_ble_eq_true rfl) ⟨Nat.le_of_ble_eq_true rfl, Nat.le_of_ble_eq_true rfl⟩ d_Pool_sumOfFees_15 (rv_kie ?_)
      refine rv_if_eq (tgt := 34) d_Pool_sumOfFees_18 (by decide) (fun c_18 => ?_) (fun c_18 => ?_)
      · have e : (fun p a => if bz_t x p = true then a + (S.2.2 p).2.2.1 else a) i a = a := by simp [bI_0.mp c_18]
        refine rv_iinc (k := 0) (v := nI (i + 1)) (lv' := [(5, .int (nI (i + 1))), (3, .long a), (0, .ref po), (1, .long x)]) d_Pool_sumOfFees_34 rfl (nI_1 _) (by decide) rfl ?_
        refine rv_goto (tgt := 5) d_Pool_sumOfFees_37 (by decide) ?_
        refine rv_post (Q' := ma_ql (ma_eq (lp_fold (fun p a => if bz_t x p = true then a + (S.2.2 p).2.2.1 else a) m (i + 1) (a)) hp)) (fun _ _ h => ?_) (rv_lv [0, 1, 2, 3] rfl (ih (i + 1) _ (by omega)))
        rw [← e] at h
        exact h
      · have e : (fun p a => if bz_t x p = true then a + (S.2.2 p).2.2.1 else a) i a = a + (S.2.2 i).2.2.1 := by simp [bI_n.mp c_18]
        refine rv_lload_n d_Pool_sumOfFees_21 rfl 1 rfl ?_
        refine rv_aload_n d_Pool_sumOfFees_22 rfl 2 rfl ?_
        refine rv_get ka_Pool hS.1 rfl 0 (by decide) (wi_Pool_sumOfFees _ (List.mem_of_getElem? (i := 1) rfl)) rfl d_Pool_sumOfFees_23 ?_
        refine rv_iload d_Pool_sumOfFees_26 0 rfl ?_
        refine rv_aald hf 2 rfl (by omega) (by decide) d_Pool_sumOfFees_28 ?_
        refine rv_eqv (y := .ref (L.2.1 i)) ((by rw [hfp i (by omega)]; rfl)) ?_
        refine rv_get ka_Tx (hS.2.2 i (by omega)).1 rfl 2 (by decide) (wi_Pool_sumOfFees _ (List.mem_of_getElem? (i := 2) rfl)) rfl d_Pool_sumOfFees_29 ?_
        refine rv_ladd d_Pool_sumOfFees_32 ?_
        refine rv_lstore_n (lv' := [(3, .long (a + ((S.2.2 i).2.2.1))), (5, .int (nI i)), (0, .ref po), (1, .long x)]) d_Pool_sumOfFees_33 rfl (by decide) rfl ?_
        refine rv_iinc (k := 1) (v := nI (i + 1)) (lv' := [(5, .int (nI (i + 1))), (3, .long (a + ((S.2.2 i).2.2.1))), (0, .ref po), (1, .long x)]) d_Pool_sumOfFees_34 rfl (nI_1 _) (by decide) rfl ?_
        refine rv_goto (tgt := 5) d_Pool_sumOfFees_37 (by decide) ?_
        refine rv_post (Q' := ma_ql (ma_eq (lp_fold (fun p a => if bz_t x p = true then a + (S.2.2 p).2.2.1 else a) m (i + 1) (a + ((S.2.2 i).2.2.1))) hp)) (fun _ _ h => ?_) (rv_lv [0, 1, 2, 3] rfl (ih (i + 1) _ (by omega)))
        rw [← e] at h
        exact h
set_option maxHeartbeats 4000000 in
set_option maxRecDepth 100000 in
theorem c_Pool_sumOfFees {l : Launch} {D : va_G} {ca : Nat → ClassId} {hp : hp_T} {d : Nat} {po : Nat} {L : po_L} {S : po_S} (hS : po_At ca hp po L S) {x : Int64} : ma_V l D ca ma_T M_Pool_sumOfFees (d + 2) 0 0 hp (ma_ql (ma_eq (cl_fees S x) hp)) 0 (lv_args 0 [.ref po, .long x]) [] := by
  change ma_V l D ca ma_T M_Pool_sumOfFees (d + 2) 0 0 hp (ma_ql (ma_eq (cl_fees S x) hp)) 0 [(0, .ref po), (1, .long x)] []
  refine rv_lconst (v := 0) d_Pool_sumOfFees_0 (by decide) ?_
  refine rv_lstore_n (lv' := [(3, .long 0), (0, .ref po), (1, .long x)]) d_Pool_sumOfFees_1 rfl (by decide) rfl ?_
  refine rv_iconst (v := nI 0) d_Pool_sumOfFees_2 (by decide) ?_
  refine rv_istore (lv' := [(5, .int (nI 0)), (3, .long 0), (0, .ref po), (1, .long x)]) d_Pool_sumOfFees_3 (by decide) rfl ?_
  exact rv_lv [0, 1, 2, 3] rfl (c_Pool_sumOfFees_l hS  41 0 0 (Nat.zero_add _))
set_option maxHeartbeats 4000000 in
set_option maxRecDepth 100000 in
theorem c_Pool_sumOfSizes_l {l : Launch} {D : va_G} {ca : Nat → ClassId} {hp : hp_T} {d : Nat} {po : Nat} {L : po_L} {S : po_S} (hS : po_At ca hp po L S) {x : Int64} : ∀ (m i : Nat) (a : Int32), i + m = 41 → ma_V l D ca ma_T M_Pool_sumOfSizes (d + 2) 0 0 hp (ma_qi (ma_eq (lp_fold (fun p a => if bz_t x p = true then a + (S.2.2 p).2.2.2.1 else a) m i a) hp)) 5 [(4, .int (nI i)), (3, .int a), (0, .ref po), (1, .long x)] [] := by
  obtain ⟨f, hf, hfp⟩ := hS.2.1
  intro m
  induction m with
  | zero =>
    intro i a hi
    refine rv_iload d_Pool_sumOfSizes_5 0 rfl ?_
    refine rv_bipush (v := nI 41) d_Pool_sumOfSizes_7 (by decide) ?_
    refine rv_icmp_ge (tgt := 40) d_Pool_sumOfSizes_9 (by decide) (fun c_9 => ?_) (fun c_9 => ?_)
    · refine rv_iload_n d_Pool_sumOfSizes_40 rfl 1 rfl ?_
      exact rv_ireturn ⟨_, rfl, rfl, rfl⟩ d_Pool_sumOfSizes_41 rfl rfl
    · exact absurd (nI_le (by omega) (by omega)) c_9
  | succ m ih =>
    intro i a hi
    refine rv_iload d_Pool_sumOfSizes_5 0 rfl ?_
    refine rv_bipush (v := nI 41) d_Pool_sumOfSizes_7 (by decide) ?_
    refine rv_icmp_ge (tgt := 40) d_Pool_sumOfSizes_9 (by decide) (fun c_9 => ?_) (fun c_9 => ?_)
    · exact absurd c_9 (nI_ge (by omega) (by omega))
    · refine rv_lload_n d_Pool_sumOfSizes_12 rfl 3 rfl ?_
      refine rv_iload d_Pool_sumOfSizes_13 0 rfl ?_
      refine rv_callSN (kc' := 0) (ks' := 0) (kc1 := 0) (ks1 := 0) (As := [.long x, .int (nI i)]) (rest := []) (c_Desk_has (by omega)) ok_Desk_has (host := "PoolDesk") (List.mem_of_getElem? (i := 6) rfl) (wi_Pool_sumOfSizes _ (List.mem_of_getElem? (i := 0) rfl)) rfl rfl (Nat.le_of_ble_eq_true rfl) (Nat.le_of_ble_eq_true rfl) ⟨Nat.le_of_ble_eq_true rfl, Nat.le_of_ble_eq_true rfl⟩ d_Pool_sumOfSizes_15 (rv_kie ?_)
      refine rv_if_eq (tgt := 34) d_Pool_sumOfSizes_18 (by decide) (fun c_18 => ?_) (fun c_18 => ?_)
      · have e : (fun p a => if bz_t x p = true then a + (S.2.2 p).2.2.2.1 else a) i a = a := by simp [bI_0.mp c_18]
        refine rv_iinc (k := 0) (v := nI (i + 1)) (lv' := [(4, .int (nI (i + 1))), (3, .int a), (0, .ref po), (1, .long x)]) d_Pool_sumOfSizes_34 rfl (nI_1 _) (by decide) rfl ?_
        refine rv_goto (tgt := 5) d_Pool_sumOfSizes_37 (by decide) ?_
        refine rv_post (Q' := ma_qi (ma_eq (lp_fold (fun p a => if bz_t x p = true then a + (S.2.2 p).2.2.2.1 else a) m (i + 1) (a)) hp)) (fun _ _ h => ?_) (rv_lv [0, 1, 2, 3] rfl (ih (i + 1) _ (by omega)))
        rw [← e] at h
        exact h
      · have e : (fun p a => if bz_t x p = true then a + (S.2.2 p).2.2.2.1 else a) i a = a + (S.2.2 i).2.2.2.1 := by simp [bI_n.mp c_18]
        refine rv_iload_n d_Pool_sumOfSizes_21 rfl 1 rfl ?_
        refine rv_aload_n d_Pool_sumOfSizes_22 rfl 2 rfl ?_
        refine rv_get ka_Pool hS.1 rfl 0 (by decide) (wi_Pool_sumOfSizes _ (List.mem_of_getElem? (i := 1) rfl)) rfl d_Pool_sumOfSizes_23 ?_
        refine rv_iload d_Pool_sumOfSizes_26 0 rfl ?_
        refine rv_aald hf 2 rfl (by omega) (by decide) d_Pool_sumOfSizes_28 ?_
        refine rv_eqv (y := .ref (L.2.1 i)) ((by rw [hfp i (by omega)]; rfl)) ?_
        refine rv_get ka_Tx (hS.2.2 i (by omega)).1 rfl 3 (by decide) (wi_Pool_sumOfSizes _ (List.mem_of_getElem? (i := 2) rfl)) rfl d_Pool_sumOfSizes_29 ?_
        refine rv_iadd d_Pool_sumOfSizes_32 ?_
        refine rv_istore_n (lv' := [(3, .int (a + ((S.2.2 i).2.2.2.1))), (4, .int (nI i)), (0, .ref po), (1, .long x)]) d_Pool_sumOfSizes_33 rfl (by decide) rfl ?_
        refine rv_iinc (k := 1) (v := nI (i + 1)) (lv' := [(4, .int (nI (i + 1))), (3, .int (a + ((S.2.2 i).2.2.2.1))), (0, .ref po), (1, .long x)]) d_Pool_sumOfSizes_34 rfl (nI_1 _) (by decide) rfl ?_
        refine rv_goto (tgt := 5) d_Pool_sumOfSizes_37 (by decide) ?_
        refine rv_post (Q' := ma_qi (ma_eq (lp_fold (fun p a => if bz_t x p = true then a + (S.2.2 p).2.2.2.1 else a) m (i + 1) (a + ((S.2.2 i).2.2.2.1))) hp)) (fun _ _ h => ?_) (rv_lv [0, 1, 2, 3] rfl (ih (i + 1) _ (by omega)))
        rw [← e] at h
        exact h
set_option maxHeartbeats 4000000 in
set_option maxRecDepth 100000 in
theorem c_Pool_sumOfSizes {l : Launch} {D : va_G} {ca : Nat → ClassId} {hp : hp_T} {d : Nat} {po : Nat} {L : po_L} {S : po_S} (hS : po_At ca hp po L S) {x : Int64} : ma_V l D ca ma_T M_Pool_sumOfSizes (d + 2) 0 0 hp (ma_qi (ma_eq (cl_sizes S x) hp)) 0 (lv_args 0 [.ref po, .long x]) [] := by
  change ma_V l D ca ma_T M_Pool_sumOfSizes (d + 2) 0 0 hp (ma_qi (ma_eq (cl_sizes S x) hp)) 0 [(0, .ref po), (1, .long x)] []
  refine rv_iconst (v := nI 0) d_Pool_sumOfSizes_0 (by decide) ?_
  refine rv_istore_n (lv' := [(3, .int (nI 0)), (0, .ref po), (1, .long x)]) d_Pool_sumOfSizes_1 rfl (by decide) rfl ?_
  refine rv_iconst (v := nI 0) d_Pool_sumOfSizes_2 (by decide) ?_
  refine rv_istore (lv' := [(4, .int (nI 0)), (3, .int (nI 0)), (0, .ref po), (1, .long x)]) d_Pool_sumOfSizes_3 (by decide) rfl ?_
  exact rv_lv [0, 1, 2, 3] rfl (c_Pool_sumOfSizes_l hS  41 0 (nI 0) (Nat.zero_add _))
set_option maxHeartbeats 4000000 in
set_option maxRecDepth 100000 in
theorem c_Pool_sumOfKeys_l {l : Launch} {D : va_G} {ca : Nat → ClassId} {hp : hp_T} {d : Nat} {po : Nat} {L : po_L} {S : po_S} (hS : po_At ca hp po L S)  : ∀ (m i : Nat) (a : Int32), i + m = 41 → ma_V l D ca ma_T M_Pool_sumOfKeys (d + 2) 0 0 hp (ma_qi (ma_eq (lp_fold (fun p a => if bz_t S.1 p = true then a + nI (S.2.2 p).2.1.1 else a) m i a) hp)) 4 [(2, .int (nI i)), (1, .int a), (0, .ref po)] [] := by
  obtain ⟨f, hf, hfp⟩ := hS.2.1
  intro m
  induction m with
  | zero =>
    intro i a hi
    refine rv_iload_n d_Pool_sumOfKeys_4 rfl 0 rfl ?_
    refine rv_bipush (v := nI 41) d_Pool_sumOfKeys_5 (by decide) ?_
    refine rv_icmp_ge (tgt := 42) d_Pool_sumOfKeys_7 (by decide) (fun c_7 => ?_) (fun c_7 => ?_)
    · refine rv_iload_n d_Pool_sumOfKeys_42 rfl 1 rfl ?_
      exact rv_ireturn ⟨_, rfl, rfl, rfl⟩ d_Pool_sumOfKeys_43 rfl rfl
    · exact absurd (nI_le (by omega) (by omega)) c_7
  | succ m ih =>
    intro i a hi
    refine rv_iload_n d_Pool_sumOfKeys_4 rfl 0 rfl ?_
    refine rv_bipush (v := nI 41) d_Pool_sumOfKeys_5 (by decide) ?_
    refine rv_icmp_ge (tgt := 42) d_Pool_sumOfKeys_7 (by decide) (fun c_7 => ?_) (fun c_7 => ?_)
    · exact absurd c_7 (nI_ge (by omega) (by omega))
    · refine rv_aload_n d_Pool_sumOfKeys_10 rfl 2 rfl ?_
      refine rv_get ka_Pool hS.1 rfl 1 (by decide) (wi_Pool_sumOfKeys _ (List.mem_of_getElem? (i := 0) rfl)) rfl d_Pool_sumOfKeys_11 ?_
      refine rv_iload_n d_Pool_sumOfKeys_14 rfl 0 rfl ?_
      refine rv_callSN (kc' := 0) (ks' := 0) (kc1 := 0) (ks1 := 0) (As := [.long S.1, .int (nI i)]) (rest := []) (c_Desk_has (by omega)) ok_Desk_has (host := "PoolDesk") (List.mem_of_getElem? (i := 6) rfl) (wi_Pool_sumOfKeys _ (List.mem_of_getElem? (i := 1) rfl)) rfl rfl (Nat.le_of_ble_eq_true rfl) (Nat.le_of_ble_eq_true rfl) ⟨Nat.le_of_ble_eq_true rfl, Nat.le_of_ble_eq_true rfl⟩ d_Pool_sumOfKeys_15 (rv_kie ?_)
      refine rv_if_eq (tgt := 36) d_Pool_sumOfKeys_18 (by decide) (fun c_18 => ?_) (fun c_18 => ?_)
      · have e : (fun p a => if bz_t S.1 p = true then a + nI (S.2.2 p).2.1.1 else a) i a = a := by simp [bI_0.mp c_18]
        refine rv_iinc (k := 0) (v := nI (i + 1)) (lv' := [(2, .int (nI (i + 1))), (1, .int a), (0, .ref po)]) d_Pool_sumOfKeys_36 rfl (nI_1 _) (by decide) rfl ?_
        refine rv_goto (tgt := 4) d_Pool_sumOfKeys_39 (by decide) ?_
        refine rv_post (Q' := ma_qi (ma_eq (lp_fold (fun p a => if bz_t S.1 p = true then a + nI (S.2.2 p).2.1.1 else a) m (i + 1) (a)) hp)) (fun _ _ h => ?_) (rv_lv [0, 1, 2] rfl (ih (i + 1) _ (by omega)))
        rw [← e] at h
        exact h
      · have e : (fun p a => if bz_t S.1 p = true then a + nI (S.2.2 p).2.1.1 else a) i a = a + nI (S.2.2 i).2.1.1 := by simp [bI_n.mp c_18]
        refine rv_iload_n d_Pool_sumOfKeys_21 rfl 1 rfl ?_
        refine rv_aload_n d_Pool_sumOfKeys_22 rfl 2 rfl ?_
        refine rv_get ka_Pool hS.1 rfl 0 (by decide) (wi_Pool_sumOfKeys _ (List.mem_of_getElem? (i := 2) rfl)) rfl d_Pool_sumOfKeys_23 ?_
        refine rv_iload_n d_Pool_sumOfKeys_26 rfl 0 rfl ?_
        refine rv_aald hf 2 rfl (by omega) (by decide) d_Pool_sumOfKeys_27 ?_
        refine rv_eqv (y := .ref (L.2.1 i)) ((by rw [hfp i (by omega)]; rfl)) ?_
        refine rv_get ka_Tx (hS.2.2 i (by omega)).1 rfl 1 (by decide) (wi_Pool_sumOfKeys _ (List.mem_of_getElem? (i := 3) rfl)) rfl d_Pool_sumOfKeys_28 ?_
        refine rv_get ka_Keys (hS.2.2 i (by omega)).2.2.1 rfl 2 (by decide) (wi_Pool_sumOfKeys _ (List.mem_of_getElem? (i := 4) rfl)) rfl d_Pool_sumOfKeys_31 ?_
        refine rv_iadd d_Pool_sumOfKeys_34 ?_
        refine rv_istore_n (lv' := [(1, .int (a + (nI (S.2.2 i).2.1.1))), (2, .int (nI i)), (0, .ref po)]) d_Pool_sumOfKeys_35 rfl (by decide) rfl ?_
        refine rv_iinc (k := 1) (v := nI (i + 1)) (lv' := [(2, .int (nI (i + 1))), (1, .int (a + (nI (S.2.2 i).2.1.1))), (0, .ref po)]) d_Pool_sumOfKeys_36 rfl (nI_1 _) (by decide) rfl ?_
        refine rv_goto (tgt := 4) d_Pool_sumOfKeys_39 (by decide) ?_
        refine rv_post (Q' := ma_qi (ma_eq (lp_fold (fun p a => if bz_t S.1 p = true then a + nI (S.2.2 p).2.1.1 else a) m (i + 1) (a + (nI (S.2.2 i).2.1.1))) hp)) (fun _ _ h => ?_) (rv_lv [0, 1, 2] rfl (ih (i + 1) _ (by omega)))
        rw [← e] at h
        exact h
set_option maxHeartbeats 4000000 in
set_option maxRecDepth 100000 in
theorem c_Pool_sumOfKeys {l : Launch} {D : va_G} {ca : Nat → ClassId} {hp : hp_T} {d : Nat} {po : Nat} {L : po_L} {S : po_S} (hS : po_At ca hp po L S)  : ma_V l D ca ma_T M_Pool_sumOfKeys (d + 2) 0 0 hp (ma_qi (ma_eq (cl_keys S) hp)) 0 (lv_args 0 [.ref po]) [] := by
  change ma_V l D ca ma_T M_Pool_sumOfKeys (d + 2) 0 0 hp (ma_qi (ma_eq (cl_keys S) hp)) 0 [(0, .ref po)] []
  refine rv_iconst (v := nI 0) d_Pool_sumOfKeys_0 (by decide) ?_
  refine rv_istore_n (lv' := [(1, .int (nI 0)), (0, .ref po)]) d_Pool_sumOfKeys_1 rfl (by decide) rfl ?_
  refine rv_iconst (v := nI 0) d_Pool_sumOfKeys_2 (by decide) ?_
  refine rv_istore_n (lv' := [(2, .int (nI 0)), (1, .int (nI 0)), (0, .ref po)]) d_Pool_sumOfKeys_3 rfl (by decide) rfl ?_
  exact rv_lv [0, 1, 2] rfl (c_Pool_sumOfKeys_l hS  41 0 (nI 0) (Nat.zero_add _))
