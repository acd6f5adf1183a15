def wl_Desk_isTransaction : List Cond := [.constantLong "PoolDesk" 158 2100000000000000]
theorem wi_Desk_isTransaction : ∀ w ∈ wl_Desk_isTransaction, w ∈ ma_tbl := by decide +kernel
def wl_Desk_compareRates : List Cond := [.methodLink "PoolDesk" 178 y_Long_compare, .static y_Long_compare]
theorem wi_Desk_compareRates : ∀ w ∈ wl_Desk_compareRates, w ∈ ma_tbl := by decide +kernel
def wl_Desk_lowest : List Cond := [.methodLink "PoolDesk" 108 y_Long_bitCount, .static y_Long_bitCount]
theorem wi_Desk_lowest : ∀ w ∈ wl_Desk_lowest, w ∈ ma_tbl := by decide +kernel
def wl_Pool_freePlace : List Cond := [.fieldLink "PoolDesk$Pool" 18 "PoolDesk$Pool" "present" "J", .constantLong "PoolDesk$Pool" 46 (-1), .static y_Desk_lowest]
theorem wi_Pool_freePlace : ∀ w ∈ wl_Pool_freePlace, w ∈ ma_tbl := by decide +kernel
def wl_Pool_family : List Cond := [.static y_Desk_lowest, .fieldLink "PoolDesk$Pool" 11 "PoolDesk$Pool" "places" "[LPoolDesk$Transaction;", .fieldLink "PoolDesk$Pool" 120 "PoolDesk$Transaction" "children" "J", .constantLong "PoolDesk$Pool" 46 (-1), .static y_Desk_bit]
theorem wi_Pool_family : ∀ w ∈ wl_Pool_family, w ∈ ma_tbl := by decide +kernel
def wl_Pool_paysBetter : List Cond := [.fieldLink "PoolDesk$Pool" 129 "PoolDesk$Transaction" "fee" "J", .fieldLink "PoolDesk$Pool" 132 "PoolDesk$Transaction" "size" "I", .static y_Desk_compareRates, .fieldLink "PoolDesk$Pool" 126 "PoolDesk$Transaction" "coming" "I"]
theorem wi_Pool_paysBetter : ∀ w ∈ wl_Pool_paysBetter, w ∈ ma_tbl := by decide +kernel
def wl_Pool_bestPaying : List Cond := [.fieldLink "PoolDesk$Pool" 18 "PoolDesk$Pool" "present" "J", .constantLong "PoolDesk$Pool" 46 (-1), .static y_Desk_has, .fieldLink "PoolDesk$Pool" 11 "PoolDesk$Pool" "places" "[LPoolDesk$Transaction;", .fieldLink "PoolDesk$Pool" 117 "PoolDesk$Transaction" "parents" "J", .fieldLink "PoolDesk$Pool" 132 "PoolDesk$Transaction" "size" "I", .methodLink "PoolDesk$Pool" 148 y_Pool_paysBetter, .static y_Pool_paysBetter]
theorem wi_Pool_bestPaying : ∀ w ∈ wl_Pool_bestPaying, w ∈ ma_tbl := by decide +kernel
def wl_Pool_leastPaying : List Cond := [.fieldLink "PoolDesk$Pool" 18 "PoolDesk$Pool" "present" "J", .static y_Desk_has, .static y_Desk_bit, .methodLink "PoolDesk$Pool" 85 y_Pool_family, .instanceMethod y_Pool_family, .selects "PoolDesk$Pool" y_Pool_family y_Pool_family, .methodLink "PoolDesk$Pool" 138 y_Pool_sumOfFees, .instanceMethod y_Pool_sumOfFees, .selects "PoolDesk$Pool" y_Pool_sumOfFees y_Pool_sumOfFees, .methodLink "PoolDesk$Pool" 141 y_Pool_sumOfSizes, .instanceMethod y_Pool_sumOfSizes, .selects "PoolDesk$Pool" y_Pool_sumOfSizes y_Pool_sumOfSizes, .static y_Desk_compareRates, .fieldLink "PoolDesk$Pool" 11 "PoolDesk$Pool" "places" "[LPoolDesk$Transaction;", .fieldLink "PoolDesk$Pool" 126 "PoolDesk$Transaction" "coming" "I"]
theorem wi_Pool_leastPaying : ∀ w ∈ wl_Pool_leastPaying, w ∈ ma_tbl := by decide +kernel
def wl_Pool_hangsOnItself : List Cond := [.methodLink "PoolDesk$Pool" 78 y_Keys_bears, .instanceMethod y_Keys_bears, .selects "PoolDesk$Keys" y_Keys_bears y_Keys_bears, .methodLink "PoolDesk$Pool" 81 y_Pool_spendersOf, .instanceMethod y_Pool_spendersOf, .selects "PoolDesk$Pool" y_Pool_spendersOf y_Pool_spendersOf, .methodLink "PoolDesk$Pool" 85 y_Pool_family, .instanceMethod y_Pool_family, .selects "PoolDesk$Pool" y_Pool_family y_Pool_family, .methodLink "PoolDesk$Pool" 89 y_Pool_named, .instanceMethod y_Pool_named, .selects "PoolDesk$Pool" y_Pool_named y_Pool_named]
theorem wi_Pool_hangsOnItself : ∀ w ∈ wl_Pool_hangsOnItself, w ∈ ma_tbl := by decide +kernel
def wl_Pool_hindrance : List Cond := [.methodLink "PoolDesk$Pool" 52 y_Pool_find, .instanceMethod y_Pool_find, .selects "PoolDesk$Pool" y_Pool_find y_Pool_find, .methodLink "PoolDesk$Pool" 56 y_Pool_isSpent, .instanceMethod y_Pool_isSpent, .selects "PoolDesk$Pool" y_Pool_isSpent y_Pool_isSpent, .methodLink "PoolDesk$Pool" 60 y_Pool_missesOutput, .instanceMethod y_Pool_missesOutput, .selects "PoolDesk$Pool" y_Pool_missesOutput y_Pool_missesOutput, .methodLink "PoolDesk$Pool" 64 y_Pool_hangsOnItself, .instanceMethod y_Pool_hangsOnItself, .selects "PoolDesk$Pool" y_Pool_hangsOnItself y_Pool_hangsOnItself]
theorem wi_Pool_hindrance : ∀ w ∈ wl_Pool_hindrance, w ∈ ma_tbl := by decide +kernel
def wl_Row_word : List Cond := [.fieldLink "PoolDesk$Row" 15 "PoolDesk$Row" "length" "I", .fieldLink "PoolDesk$Row" 9 "PoolDesk$Row" "words" "[J"]
theorem wi_Row_word : ∀ w ∈ wl_Row_word, w ∈ ma_tbl := by decide +kernel
set_option maxHeartbeats 4000000 in
set_option maxRecDepth 100000 in
theorem c_Desk_isTransaction {l : Launch} {D : va_G} {ca : Nat → ClassId} {hp : hp_T} {d : Nat} {f : Int64} {z o : Int32} : ma_V l D ca ma_T M_Desk_isTransaction d 0 0 hp (ma_qi (ma_eq (bI (cl_isTx f z o)) hp)) 0 (lv_args 0 [.long f, .int z, .int o]) [] := by
  change ma_V l D ca ma_T M_Desk_isTransaction d 0 0 hp (ma_qi (ma_eq (bI (cl_isTx f z o)) hp)) 0 [(0, .long f), (2, .int z), (3, .int o)] []
  refine rv_lload_n d_Desk_isTransaction_0 rfl 0 rfl ?_
  refine rv_lconst (v := 0) d_Desk_isTransaction_1 (by decide) ?_
  refine rv_lcmp d_Desk_isTransaction_2 ?_
  refine rv_if_lt (tgt := 40) d_Desk_isTransaction_3 (by decide) (fun c_3 => ?_) (fun c_3 => ?_)
  · have e : cl_isTx f z o = false := by simp [cl_isTx, Int64.not_le.mpr ((lg_cmp_lt _ _).mp c_3)]
    refine rv_iconst (v := nI 0) d_Desk_isTransaction_40 (by decide) ?_
    refine rv_eqi (y := bI (cl_isTx f z o)) (by rw [e]; rfl) ?_
    exact rv_ireturn ⟨_, rfl, rfl, rfl⟩ d_Desk_isTransaction_41 rfl (bI_nar _)
  · have q0 := (lg_cmp_ge _ _).mp (Int32.not_lt.mp c_3)
    refine rv_lload_n d_Desk_isTransaction_6 rfl 0 rfl ?_
    refine rv_ldc2 (v := 2100000000000000) d_Desk_isTransaction_7 (wi_Desk_isTransaction _ (List.mem_of_getElem? (i := 0) rfl)) ?_
    refine rv_lcmp d_Desk_isTransaction_10 ?_
    refine rv_if_gt (tgt := 40) d_Desk_isTransaction_11 (by decide) (fun c_11 => ?_) (fun c_11 => ?_)
    · have e : cl_isTx f z o = false := by simp [cl_isTx, Int64.not_le.mpr ((lg_cmp_gt _ _).mp c_11)]
      refine rv_iconst (v := nI 0) d_Desk_isTransaction_40 (by decide) ?_
      refine rv_eqi (y := bI (cl_isTx f z o)) (by rw [e]; rfl) ?_
      exact rv_ireturn ⟨_, rfl, rfl, rfl⟩ d_Desk_isTransaction_41 rfl (bI_nar _)
    · have q1 := (lg_cmp_le _ _).mp (Int32.not_lt.mp c_11)
      refine rv_iload_n d_Desk_isTransaction_14 rfl 1 rfl ?_
      refine rv_iconst (v := nI 1) d_Desk_isTransaction_15 (by decide) ?_
      refine rv_icmp_lt (tgt := 40) d_Desk_isTransaction_16 (by decide) (fun c_16 => ?_) (fun c_16 => ?_)
      · have e : cl_isTx f z o = false := by simp [cl_isTx, Int32.not_le.mpr c_16]
        refine rv_iconst (v := nI 0) d_Desk_isTransaction_40 (by decide) ?_
        refine rv_eqi (y := bI (cl_isTx f z o)) (by rw [e]; rfl) ?_
        exact rv_ireturn ⟨_, rfl, rfl, rfl⟩ d_Desk_isTransaction_41 rfl (bI_nar _)
      · have q2 := Int32.not_lt.mp c_16
        refine rv_iload_n d_Desk_isTransaction_19 rfl 1 rfl ?_
        refine rv_sipush (v := nI 2000) d_Desk_isTransaction_20 (by decide) ?_
        refine rv_icmp_gt (tgt := 40) d_Desk_isTransaction_23 (by decide) (fun c_23 => ?_) (fun c_23 => ?_)
        · have e : cl_isTx f z o = false := by simp [cl_isTx, Int32.not_le.mpr c_23]
          refine rv_iconst (v := nI 0) d_Desk_isTransaction_40 (by decide) ?_
          refine rv_eqi (y := bI (cl_isTx f z o)) (by rw [e]; rfl) ?_
          exact rv_ireturn ⟨_, rfl, rfl, rfl⟩ d_Desk_isTransaction_41 rfl (bI_nar _)
        · have q3 := Int32.not_lt.mp c_23
          refine rv_iload_n d_Desk_isTransaction_26 rfl 2 rfl ?_
          refine rv_if_lt (tgt := 40) d_Desk_isTransaction_27 (by decide) (fun c_27 => ?_) (fun c_27 => ?_)
          · have e : cl_isTx f z o = false := by simp [cl_isTx, Int32.not_le.mpr c_27]
            refine rv_iconst (v := nI 0) d_Desk_isTransaction_40 (by decide) ?_
            refine rv_eqi (y := bI (cl_isTx f z o)) (by rw [e]; rfl) ?_
            exact rv_ireturn ⟨_, rfl, rfl, rfl⟩ d_Desk_isTransaction_41 rfl (bI_nar _)
          · have q4 := Int32.not_lt.mp c_27
            refine rv_iload_n d_Desk_isTransaction_30 rfl 2 rfl ?_
            refine rv_bipush (v := nI 8) d_Desk_isTransaction_31 (by decide) ?_
            refine rv_icmp_gt (tgt := 40) d_Desk_isTransaction_33 (by decide) (fun c_33 => ?_) (fun c_33 => ?_)
            · have e : cl_isTx f z o = false := by simp [cl_isTx, Int32.not_le.mpr c_33]
              refine rv_iconst (v := nI 0) d_Desk_isTransaction_40 (by decide) ?_
              refine rv_eqi (y := bI (cl_isTx f z o)) (by rw [e]; rfl) ?_
              exact rv_ireturn ⟨_, rfl, rfl, rfl⟩ d_Desk_isTransaction_41 rfl (bI_nar _)
            · have e : cl_isTx f z o = true := by simp [cl_isTx, q0, q1, q2, q3, q4, Int32.not_lt.mp c_33]
              refine rv_iconst (v := nI 1) d_Desk_isTransaction_36 (by decide) ?_
              refine rv_goto (tgt := 41) d_Desk_isTransaction_37 (by decide) ?_
              refine rv_eqi (y := bI (cl_isTx f z o)) (by rw [e]; rfl) ?_
              exact rv_ireturn ⟨_, rfl, rfl, rfl⟩ d_Desk_isTransaction_41 rfl (bI_nar _)
set_option maxHeartbeats 4000000 in
set_option maxRecDepth 100000 in
theorem c_Desk_compareRates {l : Launch} {D : va_G} {ca : Nat → ClassId} {hp : hp_T} {d : Nat} {a b c q : Int64} : ma_V l D ca ma_T M_Desk_compareRates (d + 1) 0 0 hp (ma_qi (ma_eq (cl_cmp a b c q) hp)) 0 (lv_args 0 [.long a, .long b, .long c, .long q]) [] := by
  change ma_V l D ca ma_T M_Desk_compareRates (d + 1) 0 0 hp (ma_qi (ma_eq (cl_cmp a b c q) hp)) 0 [(0, .long a), (2, .long b), (4, .long c), (6, .long q)] []
  refine rv_lload_n d_Desk_compareRates_0 rfl 1 rfl ?_
  refine rv_lconst (v := 1) d_Desk_compareRates_1 (by decide) ?_
  refine rv_lcmp d_Desk_compareRates_2 ?_
  refine rv_if_lt (tgt := 13) d_Desk_compareRates_3 (by decide) (fun c_3 => ?_) (fun c_3 => ?_)
  · have q1 := (lg_cmp_lt _ _).mp c_3
    have e : cl_cmp a b c q = nI 0 := by unfold cl_cmp; rw [if_pos q1]
    refine rv_iconst (v := nI 0) d_Desk_compareRates_13 (by decide) ?_
    exact rv_ireturn ⟨_, rfl, e.symm, rfl⟩ d_Desk_compareRates_14 rfl rfl
  · have q1 : ¬ b < 1 := Int64.not_lt.mpr ((lg_cmp_ge _ _).mp (Int32.not_lt.mp c_3))
    have z1 : ¬ b = 0 := fun z => by subst z; exact q1 (by decide)
    refine rv_lload d_Desk_compareRates_6 3 rfl ?_
    refine rv_lconst (v := 1) d_Desk_compareRates_8 (by decide) ?_
    refine rv_lcmp d_Desk_compareRates_9 ?_
    refine rv_if_ge (tgt := 15) d_Desk_compareRates_10 (by decide) (fun c_10 => ?_) (fun c_10 => ?_)
    · have q2 : ¬ q < 1 := Int64.not_lt.mpr ((lg_cmp_ge _ _).mp c_10)
      have z2 : ¬ q = 0 := fun z => by subst z; exact q2 (by decide)
      refine rv_lload_n d_Desk_compareRates_15 rfl 0 rfl ?_
      refine rv_lload_n d_Desk_compareRates_16 rfl 1 rfl ?_
      refine rv_ldiv d_Desk_compareRates_17 z1 ?_
      refine rv_lload d_Desk_compareRates_18 2 rfl ?_
      refine rv_lload d_Desk_compareRates_20 3 rfl ?_
      refine rv_ldiv d_Desk_compareRates_22 z2 ?_
      refine rv_callS (kc' := 0) (ks' := 0) (kc1 := 0) (ks1 := 0) (As := [.long (a / b), .long (c / q)]) (rest := []) (c_Long_compare) ok_Long_compare (wi_Desk_compareRates _ (List.mem_of_getElem? (i := 0) rfl)) (wi_Desk_compareRates _ (List.mem_of_getElem? (i := 1) rfl)) rfl rfl (Nat.le_of_ble_eq_true rfl) (Nat.le_of_ble_eq_true rfl) ⟨Nat.le_of_ble_eq_true rfl, Nat.le_of_ble_eq_true rfl⟩ d_Desk_compareRates_23 (rv_kie ?_)
      refine rv_istore (lv' := [(8, .int (lg_cmp (a / b) (c / q))), (0, .long a), (2, .long b), (4, .long c), (6, .long q)]) d_Desk_compareRates_26 (by decide) rfl ?_
      refine rv_iload d_Desk_compareRates_28 0 rfl ?_
      refine rv_if_eq (tgt := 36) d_Desk_compareRates_30 (by decide) (fun c_30 => ?_) (fun c_30 => ?_)
      · have e : cl_cmp a b c q = lg_cmp ((a - a / b * b) * q) ((c - c / q * q) * b) := by unfold cl_cmp; rw [if_neg q1, if_neg q2, if_pos c_30]
        refine rv_lload_n d_Desk_compareRates_36 rfl 1 rfl ?_
        refine rv_lload_n d_Desk_compareRates_37 rfl 2 rfl ?_
        refine rv_lrem d_Desk_compareRates_38 z1 ?_
        refine rv_lload d_Desk_compareRates_39 4 rfl ?_
        refine rv_lmul d_Desk_compareRates_41 ?_
        refine rv_lload d_Desk_compareRates_42 3 rfl ?_
        refine rv_lload d_Desk_compareRates_44 4 rfl ?_
        refine rv_lrem d_Desk_compareRates_46 z2 ?_
        refine rv_lload_n d_Desk_compareRates_47 rfl 2 rfl ?_
        refine rv_lmul d_Desk_compareRates_48 ?_
        refine rv_callS (kc' := 0) (ks' := 0) (kc1 := 0) (ks1 := 0) (As := [.long ((a - a / b * b) * q), .long ((c - c / q * q) * b)]) (rest := []) (c_Long_compare) ok_Long_compare (wi_Desk_compareRates _ (List.mem_of_getElem? (i := 0) rfl)) (wi_Desk_compareRates _ (List.mem_of_getElem? (i := 1) rfl)) rfl rfl (Nat.le_of_ble_eq_true rfl) (Nat.le_of_ble_eq_true rfl) ⟨Nat.le_of_ble_eq_true rfl, Nat.le_of_ble_eq_true rfl⟩ d_Desk_compareRates_49 (rv_kie ?_)
        exact rv_ireturn ⟨_, rfl, e.symm, rfl⟩ d_Desk_compareRates_52 rfl rfl
      · have e : cl_cmp a b c q = lg_cmp (a / b) (c / q) := by unfold cl_cmp; rw [if_neg q1, if_neg q2, if_neg c_30]
        refine rv_iload d_Desk_compareRates_33 0 rfl ?_
        exact rv_ireturn ⟨_, rfl, e.symm, rfl⟩ d_Desk_compareRates_35 rfl rfl
    · have q2 : q < 1 := Int64.not_le.mp (fun z => c_10 ((lg_cmp_ge _ _).mpr z))
      have e : cl_cmp a b c q = nI 0 := by unfold cl_cmp; rw [if_neg q1, if_pos q2]
      refine rv_iconst (v := nI 0) d_Desk_compareRates_13 (by decide) ?_
      exact rv_ireturn ⟨_, rfl, e.symm, rfl⟩ d_Desk_compareRates_14 rfl rfl
set_option maxHeartbeats 4000000 in
set_option maxRecDepth 100000 in
theorem c_Desk_lowest {l : Launch} {D : va_G} {ca : Nat → ClassId} {hp : hp_T} {d : Nat} {x : Int64} : ma_V l D ca ma_T M_Desk_lowest (d + 1) 0 0 hp (ma_qi (ma_eq (nI (bz_low x)) hp)) 0 (lv_args 0 [.long x]) [] := by
  change ma_V l D ca ma_T M_Desk_lowest (d + 1) 0 0 hp (ma_qi (ma_eq (nI (bz_low x)) hp)) 0 [(0, .long x)] []
  refine rv_lload_n d_Desk_lowest_0 rfl 0 rfl ?_
  refine rv_lload_n d_Desk_lowest_1 rfl 0 rfl ?_
  refine rv_lneg d_Desk_lowest_2 ?_
  refine rv_land d_Desk_lowest_3 ?_
  refine rv_lconst (v := 1) d_Desk_lowest_4 (by decide) ?_
  refine rv_lsub d_Desk_lowest_5 ?_
  refine rv_callS (kc' := 0) (ks' := 0) (kc1 := 0) (ks1 := 0) (As := [.long ((x &&& (-x)) - 1)]) (rest := []) (c_Long_bitCount) ok_Long_bitCount (wi_Desk_lowest _ (List.mem_of_getElem? (i := 0) rfl)) (wi_Desk_lowest _ (List.mem_of_getElem? (i := 1) rfl)) rfl rfl (Nat.le_of_ble_eq_true rfl) (Nat.le_of_ble_eq_true rfl) ⟨Nat.le_of_ble_eq_true rfl, Nat.le_of_ble_eq_true rfl⟩ d_Desk_lowest_6 (rv_kie ?_)
  exact rv_ireturn ⟨_, rfl, rfl, rfl⟩ d_Desk_lowest_9 rfl rfl
set_option maxHeartbeats 4000000 in
set_option maxRecDepth 100000 in
theorem c_Pool_freePlace {l : Launch} {D : va_G} {ca : Nat → ClassId} {hp : hp_T} {d : Nat} {po : Nat} {L : po_L} {S : po_S} (hS : po_At ca hp po L S) : ma_V l D ca ma_T M_Pool_freePlace (d + 2) 0 0 hp (ma_qi (ma_eq (cl_free S) hp)) 0 (lv_args 0 [.ref po]) [] := by
  change ma_V l D ca ma_T M_Pool_freePlace (d + 2) 0 0 hp (ma_qi (ma_eq (cl_free S) hp)) 0 [(0, .ref po)] []
  have hb := bz_low_le (S.1 ^^^ (-1))
  refine rv_aload_n d_Pool_freePlace_0 rfl 0 rfl ?_
  refine rv_get ka_Pool hS.1 rfl 1 (by decide) (wi_Pool_freePlace _ (List.mem_of_getElem? (i := 0) rfl)) rfl d_Pool_freePlace_1 ?_
  refine rv_ldc2 (v := (-1)) d_Pool_freePlace_4 (wi_Pool_freePlace _ (List.mem_of_getElem? (i := 1) rfl)) ?_
  refine rv_lxor d_Pool_freePlace_7 ?_
  refine rv_callSN (kc' := 0) (ks' := 0) (kc1 := 0) (ks1 := 0) (As := [.long (S.1 ^^^ (-1))]) (rest := []) (c_Desk_lowest) ok_Desk_lowest (host := "PoolDesk") (List.mem_of_getElem? (i := 8) rfl) (wi_Pool_freePlace _ (List.mem_of_getElem? (i := 2) rfl)) rfl rfl (Nat.le_of_ble_eq_true rfl) (Nat.le_of_ble_eq_true rfl) ⟨Nat.le_of_ble_eq_true rfl, Nat.le_of_ble_eq_true rfl⟩ d_Pool_freePlace_8 (rv_kie ?_)
  refine rv_istore_n (lv' := [(1, .int (nI (bz_low (S.1 ^^^ (-1))))), (0, .ref po)]) d_Pool_freePlace_11 rfl (by decide) rfl ?_
  refine rv_iload_n d_Pool_freePlace_12 rfl 0 rfl ?_
  refine rv_bipush (v := nI 41) d_Pool_freePlace_13 (by decide) ?_
  refine rv_icmp_ge (tgt := 22) d_Pool_freePlace_15 (by decide) (fun c_15 => ?_) (fun c_15 => ?_)
  · have e : cl_free S = -1 := if_neg (fun z => nI_ge z (by decide) c_15)
    refine rv_iconst (v := (-1)) d_Pool_freePlace_22 (by decide) ?_
    exact rv_ireturn ⟨_, rfl, e.symm, rfl⟩ d_Pool_freePlace_23 rfl rfl
  · have e : cl_free S = nI (bz_low (S.1 ^^^ (-1))) := if_pos (Nat.not_le.mp (fun z => c_15 (nI_le z (by omega))))
    refine rv_iload_n d_Pool_freePlace_18 rfl 0 rfl ?_
    refine rv_goto (tgt := 23) d_Pool_freePlace_19 (by decide) ?_
    exact rv_ireturn ⟨_, rfl, e.symm, rfl⟩ d_Pool_freePlace_23 rfl rfl
set_option maxHeartbeats 4000000 in
set_option maxRecDepth 100000 in
theorem c_Pool_family_l {l : Launch} {D : va_G} {ca : Nat → ClassId} {hp : hp_T} {d : Nat} {po : Nat} {L : po_L} {S : po_S} (hS : po_At ca hp po L S) {x : Int64} : ∀ (m i : Nat) (a o : Int64), i + m = 41 → ma_V l D ca ma_T M_Pool_family (d + 2) 0 0 hp (ma_ql (ma_eq (cl_famL S m a o) hp)) 8 [(7, .int (nI i)), (5, .long o), (3, .long a), (0, .ref po), (1, .long x)] [] := by
  obtain ⟨f, hf, hfp⟩ := hS.2.1
  intro m
  induction m with
  | zero =>
    intro i a o hi
    refine rv_iload d_Pool_family_8 0 rfl ?_
    refine rv_bipush (v := nI 41) d_Pool_family_10 (by decide) ?_
    refine rv_icmp_ge (tgt := 78) d_Pool_family_12 (by decide) (fun c_12 => ?_) (fun c_12 => ?_)
    · refine rv_lload_n d_Pool_family_78 rfl 2 rfl ?_
      exact rv_lreturn ⟨_, rfl, rfl, rfl⟩ d_Pool_family_79 rfl
    · exact absurd (nI_le (by omega) (by omega)) c_12
  | succ m ih =>
    intro i a o hi
    have hb := bz_low_le o
    refine rv_iload d_Pool_family_8 0 rfl ?_
    refine rv_bipush (v := nI 41) d_Pool_family_10 (by decide) ?_
    refine rv_icmp_ge (tgt := 78) d_Pool_family_12 (by decide) (fun c_12 => ?_) (fun c_12 => ?_)
    · exact absurd c_12 (nI_ge (by omega) (by omega))
    · refine rv_lload d_Pool_family_15 1 rfl ?_
      refine rv_callSN (kc' := 0) (ks' := 0) (kc1 := 0) (ks1 := 0) (As := [.long o]) (rest := []) (c_Desk_lowest) ok_Desk_lowest (host := "PoolDesk") (List.mem_of_getElem? (i := 8) rfl) (wi_Pool_family _ (List.mem_of_getElem? (i := 0) rfl)) rfl rfl (Nat.le_of_ble_eq_true rfl) (Nat.le_of_ble_eq_true rfl) ⟨Nat.le_of_ble_eq_true rfl, Nat.le_of_ble_eq_true rfl⟩ d_Pool_family_17 (rv_kie ?_)
      refine rv_istore (lv' := [(8, .int (nI (bz_low o))), (7, .int (nI i)), (5, .long o), (3, .long a), (0, .ref po), (1, .long x)]) d_Pool_family_20 (by decide) rfl ?_
      refine rv_iload d_Pool_family_22 0 rfl ?_
      refine rv_bipush (v := nI 41) d_Pool_family_24 (by decide) ?_
      refine rv_icmp_lt (tgt := 32) d_Pool_family_26 (by decide) (fun c_26 => ?_) (fun c_26 => ?_)
      · have hlt : bz_low o < 41 := (nI_ltI (by omega) (by decide)).mp c_26
        have e : cl_famL S (m + 1) a o = cl_famL S m (a ||| ((S.2.2 (bz_low o)).2.2.2.2.2.2.2 &&& (a ^^^ (-1)))) ((o &&& (bz_b (bz_low o) ^^^ (-1))) ||| ((S.2.2 (bz_low o)).2.2.2.2.2.2.2 &&& (a ^^^ (-1)))) := if_neg (Nat.not_le.mpr hlt)
        refine rv_aload_n d_Pool_family_32 rfl 4 rfl ?_
        refine rv_get ka_Pool hS.1 rfl 0 (by decide) (wi_Pool_family _ (List.mem_of_getElem? (i := 1) rfl)) rfl d_Pool_family_33 ?_
        refine rv_iload d_Pool_family_36 0 rfl ?_
        refine rv_aald hf 2 rfl hlt (by decide) d_Pool_family_38 ?_
        refine rv_eqv (y := .ref (L.2.1 (bz_low o))) ((by rw [hfp (bz_low o) hlt]; rfl)) ?_
        refine rv_get ka_Tx (hS.2.2 (bz_low o) hlt).1 rfl 7 (by decide) (wi_Pool_family _ (List.mem_of_getElem? (i := 2) rfl)) rfl d_Pool_family_39 ?_
        refine rv_lload_n d_Pool_family_42 rfl 3 rfl ?_
        refine rv_ldc2 (v := (-1)) d_Pool_family_43 (wi_Pool_family _ (List.mem_of_getElem? (i := 3) rfl)) ?_
        refine rv_lxor d_Pool_family_46 ?_
        refine rv_land d_Pool_family_47 ?_
        refine rv_lstore (lv' := [(9, .long (((S.2.2 (bz_low o)).2.2.2.2.2.2.2) &&& (a ^^^ (-1)))), (8, .int (nI (bz_low o))), (7, .int (nI i)), (5, .long o), (3, .long a), (0, .ref po), (1, .long x)]) d_Pool_family_48 (by decide) rfl ?_
        refine rv_lload_n d_Pool_family_50 rfl 4 rfl ?_
        refine rv_lload d_Pool_family_51 0 rfl ?_
        refine rv_lor d_Pool_family_53 ?_
        refine rv_lstore_n (lv' := [(3, .long (a ||| (((S.2.2 (bz_low o)).2.2.2.2.2.2.2) &&& (a ^^^ (-1))))), (9, .long (((S.2.2 (bz_low o)).2.2.2.2.2.2.2) &&& (a ^^^ (-1)))), (8, .int (nI (bz_low o))), (7, .int (nI i)), (5, .long o), (0, .ref po), (1, .long x)]) d_Pool_family_54 rfl (by decide) rfl ?_
        refine rv_lload d_Pool_family_55 4 rfl ?_
        refine rv_iload d_Pool_family_57 2 rfl ?_
        refine rv_callSN (kc' := 0) (ks' := 0) (kc1 := 0) (ks1 := 0) (As := [.int (nI (bz_low o))]) (rest := [.long o]) (c_Desk_bit) ok_Desk_bit (host := "PoolDesk") (List.mem_of_getElem? (i := 7) rfl) (wi_Pool_family _ (List.mem_of_getElem? (i := 4) rfl)) rfl rfl (Nat.le_of_ble_eq_true rfl) (Nat.le_of_ble_eq_true rfl) ⟨Nat.le_of_ble_eq_true rfl, Nat.le_of_ble_eq_true rfl⟩ d_Pool_family_59 (rv_kle ?_)
        refine rv_ldc2 (v := (-1)) d_Pool_family_62 (wi_Pool_family _ (List.mem_of_getElem? (i := 3) rfl)) ?_
        refine rv_lxor d_Pool_family_65 ?_
        refine rv_land d_Pool_family_66 ?_
        refine rv_lload d_Pool_family_67 1 rfl ?_
        refine rv_lor d_Pool_family_69 ?_
        refine rv_lstore (lv' := [(5, .long ((o &&& ((bz_b (bz_low o)) ^^^ (-1))) ||| (((S.2.2 (bz_low o)).2.2.2.2.2.2.2) &&& (a ^^^ (-1))))), (3, .long (a ||| (((S.2.2 (bz_low o)).2.2.2.2.2.2.2) &&& (a ^^^ (-1))))), (9, .long (((S.2.2 (bz_low o)).2.2.2.2.2.2.2) &&& (a ^^^ (-1)))), (8, .int (nI (bz_low o))), (7, .int (nI i)), (0, .ref po), (1, .long x)]) d_Pool_family_70 (by decide) rfl ?_
        refine rv_iinc (k := 4) (v := nI (i + 1)) (lv' := [(7, .int (nI (i + 1))), (5, .long ((o &&& ((bz_b (bz_low o)) ^^^ (-1))) ||| (((S.2.2 (bz_low o)).2.2.2.2.2.2.2) &&& (a ^^^ (-1))))), (3, .long (a ||| (((S.2.2 (bz_low o)).2.2.2.2.2.2.2) &&& (a ^^^ (-1))))), (9, .long (((S.2.2 (bz_low o)).2.2.2.2.2.2.2) &&& (a ^^^ (-1)))), (8, .int (nI (bz_low o))), (0, .ref po), (1, .long x)]) d_Pool_family_72 rfl (nI_1 _) (by decide) rfl ?_
        refine rv_goto (tgt := 8) d_Pool_family_75 (by decide) ?_
        rw [e]
        exact rv_lv [0, 1, 2, 5, 6] rfl (ih (i + 1) _ _ (by omega))
      · have e : cl_famL S (m + 1) a o = a := if_pos (Nat.not_lt.mp (fun z => c_26 (nI_lt z (by decide))))
        refine rv_goto (tgt := 78) d_Pool_family_29 (by decide) ?_
        refine rv_lload_n d_Pool_family_78 rfl 3 rfl ?_
        exact rv_lreturn ⟨_, rfl, e.symm, rfl⟩ d_Pool_family_79 rfl
set_option maxHeartbeats 4000000 in
set_option maxRecDepth 100000 in
theorem c_Pool_family {l : Launch} {D : va_G} {ca : Nat → ClassId} {hp : hp_T} {d : Nat} {po : Nat} {L : po_L} {S : po_S} (hS : po_At ca hp po L S) {x : Int64} : ma_V l D ca ma_T M_Pool_family (d + 2) 0 0 hp (ma_ql (ma_eq (cl_fam S x) hp)) 0 (lv_args 0 [.ref po, .long x]) [] := by
  change ma_V l D ca ma_T M_Pool_family (d + 2) 0 0 hp (ma_ql (ma_eq (cl_fam S x) hp)) 0 [(0, .ref po), (1, .long x)] []
  refine rv_lload_n d_Pool_family_0 rfl 1 rfl ?_
  refine rv_lstore_n (lv' := [(3, .long x), (0, .ref po), (1, .long x)]) d_Pool_family_1 rfl (by decide) rfl ?_
  refine rv_lload_n d_Pool_family_2 rfl 2 rfl ?_
  refine rv_lstore (lv' := [(5, .long x), (3, .long x), (0, .ref po), (1, .long x)]) d_Pool_family_3 (by decide) rfl ?_
  refine rv_iconst (v := nI 0) d_Pool_family_5 (by decide) ?_
  refine rv_istore (lv' := [(7, .int (nI 0)), (5, .long x), (3, .long x), (0, .ref po), (1, .long x)]) d_Pool_family_6 (by decide) rfl ?_
  exact rv_lv [0, 1, 2, 3, 4] rfl (c_Pool_family_l hS 41 0 x x (Nat.zero_add _))
set_option maxHeartbeats 4000000 in
set_option maxRecDepth 100000 in
theorem c_Pool_paysBetter {l : Launch} {D : va_G} {ca : Nat → ClassId} {hp : hp_T} {d : Nat} {t1 t2 p q : Nat} {L : po_L} {t u : tx_T} (h1 : hp t1 = some (.inr (2, tx_F L p t))) (h2 : hp t2 = some (.inr (2, tx_F L q u))) : ma_V l D ca ma_T M_Pool_paysBetter (d + 2) 0 0 hp (ma_qi (ma_eq (bI (cl_better t u)) hp)) 0 (lv_args 0 [.ref t1, .ref t2]) [] := by
  change ma_V l D ca ma_T M_Pool_paysBetter (d + 2) 0 0 hp (ma_qi (ma_eq (bI (cl_better t u)) hp)) 0 [(0, .ref t1), (1, .ref t2)] []
  refine rv_aload_n d_Pool_paysBetter_0 rfl 0 rfl ?_
  refine rv_get ka_Tx h1 rfl 2 (by decide) (wi_Pool_paysBetter _ (List.mem_of_getElem? (i := 0) rfl)) rfl d_Pool_paysBetter_1 ?_
  refine rv_aload_n d_Pool_paysBetter_4 rfl 0 rfl ?_
  refine rv_get ka_Tx h1 rfl 3 (by decide) (wi_Pool_paysBetter _ (List.mem_of_getElem? (i := 1) rfl)) rfl d_Pool_paysBetter_5 ?_
  refine rv_i2l d_Pool_paysBetter_8 ?_
  refine rv_aload_n d_Pool_paysBetter_9 rfl 1 rfl ?_
  refine rv_get ka_Tx h2 rfl 2 (by decide) (wi_Pool_paysBetter _ (List.mem_of_getElem? (i := 0) rfl)) rfl d_Pool_paysBetter_10 ?_
  refine rv_aload_n d_Pool_paysBetter_13 rfl 1 rfl ?_
  refine rv_get ka_Tx h2 rfl 3 (by decide) (wi_Pool_paysBetter _ (List.mem_of_getElem? (i := 1) rfl)) rfl d_Pool_paysBetter_14 ?_
  refine rv_i2l d_Pool_paysBetter_17 ?_
  refine rv_callSN (kc' := 0) (ks' := 0) (kc1 := 0) (ks1 := 0) (As := [.long t.2.2.1, .long t.2.2.2.1.toInt64, .long u.2.2.1, .long u.2.2.2.1.toInt64]) (rest := []) (c_Desk_compareRates) ok_Desk_compareRates (host := "PoolDesk") (List.mem_of_getElem? (i := 9) rfl) (wi_Pool_paysBetter _ (List.mem_of_getElem? (i := 2) rfl)) rfl rfl (Nat.le_of_ble_eq_true rfl) (Nat.le_of_ble_eq_true rfl) ⟨Nat.le_of_ble_eq_true rfl, Nat.le_of_ble_eq_true rfl⟩ d_Pool_paysBetter_18 (rv_kie ?_)
  refine rv_istore_n (lv' := [(2, .int (cl_cmp t.2.2.1 t.2.2.2.1.toInt64 u.2.2.1 u.2.2.2.1.toInt64)), (0, .ref t1), (1, .ref t2)]) d_Pool_paysBetter_21 rfl (by decide) rfl ?_
  refine rv_iload_n d_Pool_paysBetter_22 rfl 0 rfl ?_
  refine rv_if_gt (tgt := 41) d_Pool_paysBetter_23 (by decide) (fun c_23 => ?_) (fun c_23 => ?_)
  · have e : cl_better t u = true := by simp [cl_better, c_23]
    refine rv_iconst (v := nI 1) d_Pool_paysBetter_41 (by decide) ?_
    refine rv_goto (tgt := 46) d_Pool_paysBetter_42 (by decide) ?_
    refine rv_eqi (y := bI (cl_better t u)) (by rw [e]; rfl) ?_
    exact rv_ireturn ⟨_, rfl, rfl, rfl⟩ d_Pool_paysBetter_46 rfl (bI_nar _)
  · refine rv_iload_n d_Pool_paysBetter_26 rfl 0 rfl ?_
    refine rv_if_ne (tgt := 45) d_Pool_paysBetter_27 (by decide) (fun c_27 => ?_) (fun c_27 => ?_)
    · have e : cl_better t u = false := by simp [cl_better, c_23, c_27]
      refine rv_iconst (v := nI 0) d_Pool_paysBetter_45 (by decide) ?_
      refine rv_eqi (y := bI (cl_better t u)) (by rw [e]; rfl) ?_
      exact rv_ireturn ⟨_, rfl, rfl, rfl⟩ d_Pool_paysBetter_46 rfl (bI_nar _)
    · refine rv_aload_n d_Pool_paysBetter_30 rfl 1 rfl ?_
      refine rv_get ka_Tx h1 rfl 5 (by decide) (wi_Pool_paysBetter _ (List.mem_of_getElem? (i := 3) rfl)) rfl d_Pool_paysBetter_31 ?_
      refine rv_aload_n d_Pool_paysBetter_34 rfl 2 rfl ?_
      refine rv_get ka_Tx h2 rfl 5 (by decide) (wi_Pool_paysBetter _ (List.mem_of_getElem? (i := 3) rfl)) rfl d_Pool_paysBetter_35 ?_
      refine rv_icmp_ge (tgt := 45) d_Pool_paysBetter_38 (by decide) (fun c_38 => ?_) (fun c_38 => ?_)
      · have e : cl_better t u = false := by simp [cl_better, c_23, Int32.not_lt.mpr c_38]
        refine rv_iconst (v := nI 0) d_Pool_paysBetter_45 (by decide) ?_
        refine rv_eqi (y := bI (cl_better t u)) (by rw [e]; rfl) ?_
        exact rv_ireturn ⟨_, rfl, rfl, rfl⟩ d_Pool_paysBetter_46 rfl (bI_nar _)
      · have e : cl_better t u = true := by simp [cl_better, c_27, Int32.not_le.mp c_38]
        refine rv_iconst (v := nI 1) d_Pool_paysBetter_41 (by decide) ?_
        refine rv_goto (tgt := 46) d_Pool_paysBetter_42 (by decide) ?_
        refine rv_eqi (y := bI (cl_better t u)) (by rw [e]; rfl) ?_
        exact rv_ireturn ⟨_, rfl, rfl, rfl⟩ d_Pool_paysBetter_46 rfl (bI_nar _)
set_option maxHeartbeats 4000000 in
set_option maxRecDepth 100000 in
theorem c_Pool_bestPaying_l {l : Launch} {D : va_G} {ca : Nat → ClassId} {hp : hp_T} {d : Nat} {po : Nat} {L : po_L} {S : po_S} (hS : po_At ca hp po L S) {dn : Int64} {rm : Int32} : ∀ (m i : Nat) (acc : Option Nat), (∀ b, acc = some b → b < 41) → i + m = 41 → ma_V l D ca ma_T M_Pool_bestPaying (d + 3) 0 0 hp (ma_qi (ma_eq (ob_i (lp_fold (cl_bestF S dn rm) m i acc)) hp)) 6 [(5, .int (nI i)), (4, .int (ob_i acc)), (0, .ref po), (1, .long dn), (3, .int rm)] [] := by
  obtain ⟨f, hf, hfp⟩ := hS.2.1
  intro m
  induction m with
  | zero =>
    intro i acc hacc hi
    refine rv_iload d_Pool_bestPaying_6 0 rfl ?_
    refine rv_bipush (v := nI 41) d_Pool_bestPaying_8 (by decide) ?_
    refine rv_icmp_ge (tgt := 111) d_Pool_bestPaying_10 (by decide) (fun c_10 => ?_) (fun c_10 => ?_)
    · refine rv_iload d_Pool_bestPaying_111 1 rfl ?_
      exact rv_ireturn ⟨_, rfl, rfl, rfl⟩ d_Pool_bestPaying_113 rfl rfl
    · exact absurd (nI_le (by omega) (by omega)) c_10
  | succ m ih =>
    intro i acc hacc hi
    cases acc with
    | none =>
      change ma_V l D ca ma_T M_Pool_bestPaying (d + 3) 0 0 hp (ma_qi (ma_eq (ob_i (lp_fold (cl_bestF S dn rm) (m + 1) i (none))) hp)) 6 [(5, .int (nI i)), (4, .int (-1)), (0, .ref po), (1, .long dn), (3, .int rm)] []
      refine rv_iload d_Pool_bestPaying_6 0 rfl ?_
      refine rv_bipush (v := nI 41) d_Pool_bestPaying_8 (by decide) ?_
      refine rv_icmp_ge (tgt := 111) d_Pool_bestPaying_10 (by decide) (fun c_10 => ?_) (fun c_10 => ?_)
      · exact absurd c_10 (nI_ge (by omega) (by omega))
      · refine rv_aload_n d_Pool_bestPaying_13 rfl 2 rfl ?_
        refine rv_get ka_Pool hS.1 rfl 1 (by decide) (wi_Pool_bestPaying _ (List.mem_of_getElem? (i := 0) rfl)) rfl d_Pool_bestPaying_14 ?_
        refine rv_lload_n d_Pool_bestPaying_17 rfl 3 rfl ?_
        refine rv_ldc2 (v := (-1)) d_Pool_bestPaying_18 (wi_Pool_bestPaying _ (List.mem_of_getElem? (i := 1) rfl)) ?_
        refine rv_lxor d_Pool_bestPaying_21 ?_
        refine rv_land d_Pool_bestPaying_22 ?_
        refine rv_iload d_Pool_bestPaying_23 0 rfl ?_
        refine rv_callSN (kc' := 0) (ks' := 0) (kc1 := 0) (ks1 := 0) (As := [.long (S.1 &&& (dn ^^^ (-1))), .int (nI i)]) (rest := []) (c_Desk_has (by omega)) ok_Desk_has (host := "PoolDesk") (List.mem_of_getElem? (i := 6) rfl) (wi_Pool_bestPaying _ (List.mem_of_getElem? (i := 2) rfl)) rfl rfl (Nat.le_of_ble_eq_true rfl) (Nat.le_of_ble_eq_true rfl) ⟨Nat.le_of_ble_eq_true rfl, Nat.le_of_ble_eq_true rfl⟩ d_Pool_bestPaying_25 (rv_kie ?_)
        refine rv_if_ne (tgt := 34) d_Pool_bestPaying_28 (by decide) (fun c_28 => ?_) (fun c_28 => ?_)
        · have q0 := bI_n.mp c_28
          refine rv_aload_n d_Pool_bestPaying_34 rfl 2 rfl ?_
          refine rv_get ka_Pool hS.1 rfl 0 (by decide) (wi_Pool_bestPaying _ (List.mem_of_getElem? (i := 3) rfl)) rfl d_Pool_bestPaying_35 ?_
          refine rv_iload d_Pool_bestPaying_38 0 rfl ?_
          refine rv_aald hf 2 rfl (by omega) (by decide) d_Pool_bestPaying_40 ?_
          refine rv_eqv (y := .ref (L.2.1 i)) ((by rw [hfp i (by omega)]; rfl)) ?_
          refine rv_astore (lv' := [(6, .ref (L.2.1 i)), (5, .int (nI i)), (4, .int (-1)), (0, .ref po), (1, .long dn), (3, .int rm)]) d_Pool_bestPaying_41 (by decide) rfl ?_
          refine rv_aload d_Pool_bestPaying_43 0 rfl ?_
          refine rv_get ka_Tx (hS.2.2 i (by omega)).1 rfl 6 (by decide) (wi_Pool_bestPaying _ (List.mem_of_getElem? (i := 4) rfl)) rfl d_Pool_bestPaying_45 ?_
          refine rv_lload_n d_Pool_bestPaying_48 rfl 4 rfl ?_
          refine rv_ldc2 (v := (-1)) d_Pool_bestPaying_49 (wi_Pool_bestPaying _ (List.mem_of_getElem? (i := 1) rfl)) ?_
          refine rv_lxor d_Pool_bestPaying_52 ?_
          refine rv_land d_Pool_bestPaying_53 ?_
          refine rv_lconst (v := 0) d_Pool_bestPaying_54 (by decide) ?_
          refine rv_lcmp d_Pool_bestPaying_55 ?_
          refine rv_if_ne (tgt := 72) d_Pool_bestPaying_56 (by decide) (fun c_56 => ?_) (fun c_56 => ?_)
          · have e : cl_bestF S dn rm i (none) = none := if_neg (by show ¬ (_ && (_ && (_ && _))) = true; rw [decide_eq_false (fun z => c_56 (lc_0.mpr z)), Bool.false_and, Bool.and_false]; exact Bool.false_ne_true)
            refine rv_iconst (v := nI 0) d_Pool_bestPaying_72 (by decide) ?_
            refine rv_istore (lv' := [(7, .int (nI 0)), (6, .ref (L.2.1 i)), (5, .int (nI i)), (4, .int (-1)), (0, .ref po), (1, .long dn), (3, .int rm)]) d_Pool_bestPaying_73 (by decide) rfl ?_
            refine rv_iload d_Pool_bestPaying_75 0 rfl ?_
            refine rv_if_eq (tgt := 105) d_Pool_bestPaying_77 (by decide) (fun c_77 => ?_) (fun c_77 => ?_)
            · refine rv_iinc (k := 2) (v := nI (i + 1)) (lv' := [(5, .int (nI (i + 1))), (7, .int (nI 0)), (6, .ref (L.2.1 i)), (4, .int (-1)), (0, .ref po), (1, .long dn), (3, .int rm)]) d_Pool_bestPaying_105 rfl (nI_1 _) (by decide) rfl ?_
              refine rv_goto (tgt := 6) d_Pool_bestPaying_108 (by decide) ?_
              refine rv_post (Q' := ma_qi (ma_eq (ob_i (lp_fold (cl_bestF S dn rm) m (i + 1) (none))) hp)) (fun _ _ h => ?_) (rv_lv [0, 3, 4, 5, 6] rfl (ih (i + 1) (none) (fun b0 h0 => by cases h0) (by omega)))
              rw [← e] at h
              exact h
            · exact absurd (by decide) c_77
          · have q1 := lc_0.mp c_56
            refine rv_aload d_Pool_bestPaying_59 0 rfl ?_
            refine rv_get ka_Tx (hS.2.2 i (by omega)).1 rfl 3 (by decide) (wi_Pool_bestPaying _ (List.mem_of_getElem? (i := 5) rfl)) rfl d_Pool_bestPaying_61 ?_
            refine rv_iload_n d_Pool_bestPaying_64 rfl 5 rfl ?_
            refine rv_icmp_gt (tgt := 72) d_Pool_bestPaying_65 (by decide) (fun c_65 => ?_) (fun c_65 => ?_)
            · have e : cl_bestF S dn rm i (none) = none := if_neg (by show ¬ (_ && (_ && (_ && _))) = true; rw [decide_eq_false (Int32.not_le.mpr c_65), Bool.false_and, Bool.and_false, Bool.and_false]; exact Bool.false_ne_true)
              refine rv_iconst (v := nI 0) d_Pool_bestPaying_72 (by decide) ?_
              refine rv_istore (lv' := [(7, .int (nI 0)), (6, .ref (L.2.1 i)), (5, .int (nI i)), (4, .int (-1)), (0, .ref po), (1, .long dn), (3, .int rm)]) d_Pool_bestPaying_73 (by decide) rfl ?_
              refine rv_iload d_Pool_bestPaying_75 0 rfl ?_
              refine rv_if_eq (tgt := 105) d_Pool_bestPaying_77 (by decide) (fun c_77 => ?_) (fun c_77 => ?_)
              · refine rv_iinc (k := 2) (v := nI (i + 1)) (lv' := [(5, .int (nI (i + 1))), (7, .int (nI 0)), (6, .ref (L.2.1 i)), (4, .int (-1)), (0, .ref po), (1, .long dn), (3, .int rm)]) d_Pool_bestPaying_105 rfl (nI_1 _) (by decide) rfl ?_
                refine rv_goto (tgt := 6) d_Pool_bestPaying_108 (by decide) ?_
                refine rv_post (Q' := ma_qi (ma_eq (ob_i (lp_fold (cl_bestF S dn rm) m (i + 1) (none))) hp)) (fun _ _ h => ?_) (rv_lv [0, 3, 4, 5, 6] rfl (ih (i + 1) (none) (fun b0 h0 => by cases h0) (by omega)))
                rw [← e] at h
                exact h
              · exact absurd (by decide) c_77
            · have q2 := Int32.not_lt.mp c_65
              refine rv_iconst (v := nI 1) d_Pool_bestPaying_68 (by decide) ?_
              refine rv_goto (tgt := 73) d_Pool_bestPaying_69 (by decide) ?_
              refine rv_istore (lv' := [(7, .int (nI 1)), (6, .ref (L.2.1 i)), (5, .int (nI i)), (4, .int (-1)), (0, .ref po), (1, .long dn), (3, .int rm)]) d_Pool_bestPaying_73 (by decide) rfl ?_
              refine rv_iload d_Pool_bestPaying_75 0 rfl ?_
              refine rv_if_eq (tgt := 105) d_Pool_bestPaying_77 (by decide) (fun c_77 => ?_) (fun c_77 => ?_)
              · exact absurd c_77 (by decide)
              · refine rv_iload d_Pool_bestPaying_80 3 rfl ?_
                refine rv_iconst (v := (-1)) d_Pool_bestPaying_82 (by decide) ?_
                refine rv_icmp_eq (tgt := 101) d_Pool_bestPaying_83 (by decide) (fun c_83 => ?_) (fun c_83 => ?_)
                · have e : cl_bestF S dn rm i (none) = some i := if_pos (by show (_ && (_ && (_ && _))) = true; rw [q0, decide_eq_true q1, decide_eq_true q2]; rfl)
                  refine rv_iload d_Pool_bestPaying_101 2 rfl ?_
                  refine rv_istore (lv' := [(4, .int (nI i)), (7, .int (nI 1)), (6, .ref (L.2.1 i)), (5, .int (nI i)), (0, .ref po), (1, .long dn), (3, .int rm)]) d_Pool_bestPaying_103 (by decide) rfl ?_
                  refine rv_iinc (k := 3) (v := nI (i + 1)) (lv' := [(5, .int (nI (i + 1))), (4, .int (nI i)), (7, .int (nI 1)), (6, .ref (L.2.1 i)), (0, .ref po), (1, .long dn), (3, .int rm)]) d_Pool_bestPaying_105 rfl (nI_1 _) (by decide) rfl ?_
                  refine rv_goto (tgt := 6) d_Pool_bestPaying_108 (by decide) ?_
                  refine rv_post (Q' := ma_qi (ma_eq (ob_i (lp_fold (cl_bestF S dn rm) m (i + 1) (some i))) hp)) (fun _ _ h => ?_) (rv_lv [0, 1, 4, 5, 6] rfl (ih (i + 1) (some i) (fun b0 h0 => by cases h0; omega) (by omega)))
                  rw [← e] at h
                  exact h
                · exact absurd rfl c_83
        · have e : cl_bestF S dn rm i (none) = none := if_neg (by show ¬ (_ && (_ && (_ && _))) = true; rw [bI_0.mp c_28, Bool.false_and]; exact Bool.false_ne_true)
          refine rv_goto (tgt := 105) d_Pool_bestPaying_31 (by decide) ?_
          refine rv_iinc (k := 0) (v := nI (i + 1)) (lv' := [(5, .int (nI (i + 1))), (4, .int (-1)), (0, .ref po), (1, .long dn), (3, .int rm)]) d_Pool_bestPaying_105 rfl (nI_1 _) (by decide) rfl ?_
          refine rv_goto (tgt := 6) d_Pool_bestPaying_108 (by decide) ?_
          refine rv_post (Q' := ma_qi (ma_eq (ob_i (lp_fold (cl_bestF S dn rm) m (i + 1) (none))) hp)) (fun _ _ h => ?_) (rv_lv [0, 1, 2, 3, 4] rfl (ih (i + 1) (none) (fun b0 h0 => by cases h0) (by omega)))
          rw [← e] at h
          exact h
    | some b =>
      have hb : b < 41 := hacc b rfl
      change ma_V l D ca ma_T M_Pool_bestPaying (d + 3) 0 0 hp (ma_qi (ma_eq (ob_i (lp_fold (cl_bestF S dn rm) (m + 1) i (some b))) hp)) 6 [(5, .int (nI i)), (4, .int (nI b)), (0, .ref po), (1, .long dn), (3, .int rm)] []
      refine rv_iload d_Pool_bestPaying_6 0 rfl ?_
      refine rv_bipush (v := nI 41) d_Pool_bestPaying_8 (by decide) ?_
      refine rv_icmp_ge (tgt := 111) d_Pool_bestPaying_10 (by decide) (fun c_10 => ?_) (fun c_10 => ?_)
      · exact absurd c_10 (nI_ge (by omega) (by omega))
      · refine rv_aload_n d_Pool_bestPaying_13 rfl 2 rfl ?_
        refine rv_get ka_Pool hS.1 rfl 1 (by decide) (wi_Pool_bestPaying _ (List.mem_of_getElem? (i := 0) rfl)) rfl d_Pool_bestPaying_14 ?_
        refine rv_lload_n d_Pool_bestPaying_17 rfl 3 rfl ?_
        refine rv_ldc2 (v := (-1)) d_Pool_bestPaying_18 (wi_Pool_bestPaying _ (List.mem_of_getElem? (i := 1) rfl)) ?_
        refine rv_lxor d_Pool_bestPaying_21 ?_
        refine rv_land d_Pool_bestPaying_22 ?_
        refine rv_iload d_Pool_bestPaying_23 0 rfl ?_
        refine rv_callSN (kc' := 0) (ks' := 0) (kc1 := 0) (ks1 := 0) (As := [.long (S.1 &&& (dn ^^^ (-1))), .int (nI i)]) (rest := []) (c_Desk_has (by omega)) ok_Desk_has (host := "PoolDesk") (List.mem_of_getElem? (i := 6) rfl) (wi_Pool_bestPaying _ (List.mem_of_getElem? (i := 2) rfl)) rfl rfl (Nat.le_of_ble_eq_true rfl) (Nat.le_of_ble_eq_true rfl) ⟨Nat.le_of_ble_eq_true rfl, Nat.le_of_ble_eq_true rfl⟩ d_Pool_bestPaying_25 (rv_kie ?_)
        refine rv_if_ne (tgt := 34) d_Pool_bestPaying_28 (by decide) (fun c_28 => ?_) (fun c_28 => ?_)
        · have q0 := bI_n.mp c_28
          refine rv_aload_n d_Pool_bestPaying_34 rfl 2 rfl ?_
          refine rv_get ka_Pool hS.1 rfl 0 (by decide) (wi_Pool_bestPaying _ (List.mem_of_getElem? (i := 3) rfl)) rfl d_Pool_bestPaying_35 ?_
          refine rv_iload d_Pool_bestPaying_38 0 rfl ?_
          refine rv_aald hf 2 rfl (by omega) (by decide) d_Pool_bestPaying_40 ?_
          refine rv_eqv (y := .ref (L.2.1 i)) ((by rw [hfp i (by omega)]; rfl)) ?_
          refine rv_astore (lv' := [(6, .ref (L.2.1 i)), (5, .int (nI i)), (4, .int (nI b)), (0, .ref po), (1, .long dn), (3, .int rm)]) d_Pool_bestPaying_41 (by decide) rfl ?_
          refine rv_aload d_Pool_bestPaying_43 0 rfl ?_
          refine rv_get ka_Tx (hS.2.2 i (by omega)).1 rfl 6 (by decide) (wi_Pool_bestPaying _ (List.mem_of_getElem? (i := 4) rfl)) rfl d_Pool_bestPaying_45 ?_
          refine rv_lload_n d_Pool_bestPaying_48 rfl 4 rfl ?_
          refine rv_ldc2 (v := (-1)) d_Pool_bestPaying_49 (wi_Pool_bestPaying _ (List.mem_of_getElem? (i := 1) rfl)) ?_
          refine rv_lxor d_Pool_bestPaying_52 ?_
          refine rv_land d_Pool_bestPaying_53 ?_
          refine rv_lconst (v := 0) d_Pool_bestPaying_54 (by decide) ?_
          refine rv_lcmp d_Pool_bestPaying_55 ?_
          refine rv_if_ne (tgt := 72) d_Pool_bestPaying_56 (by decide) (fun c_56 => ?_) (fun c_56 => ?_)
          · have e : cl_bestF S dn rm i (some b) = some b := if_neg (by show ¬ (_ && (_ && (_ && _))) = true; rw [decide_eq_false (fun z => c_56 (lc_0.mpr z)), Bool.false_and, Bool.and_false]; exact Bool.false_ne_true)
            refine rv_iconst (v := nI 0) d_Pool_bestPaying_72 (by decide) ?_
            refine rv_istore (lv' := [(7, .int (nI 0)), (6, .ref (L.2.1 i)), (5, .int (nI i)), (4, .int (nI b)), (0, .ref po), (1, .long dn), (3, .int rm)]) d_Pool_bestPaying_73 (by decide) rfl ?_
            refine rv_iload d_Pool_bestPaying_75 0 rfl ?_
            refine rv_if_eq (tgt := 105) d_Pool_bestPaying_77 (by decide) (fun c_77 => ?_) (fun c_77 => ?_)
            · refine rv_iinc (k := 2) (v := nI (i + 1)) (lv' := [(5, .int (nI (i + 1))), (7, .int (nI 0)), (6, .ref (L.2.1 i)), (4, .int (nI b)), (0, .ref po), (1, .long dn), (3, .int rm)]) d_Pool_bestPaying_105 rfl (nI_1 _) (by decide) rfl ?_
              refine rv_goto (tgt := 6) d_Pool_bestPaying_108 (by decide) ?_
              refine rv_post (Q' := ma_qi (ma_eq (ob_i (lp_fold (cl_bestF S dn rm) m (i + 1) (some b))) hp)) (fun _ _ h => ?_) (rv_lv [0, 3, 4, 5, 6] rfl (ih (i + 1) (some b) (fun b0 h0 => by cases h0; exact hb) (by omega)))
              rw [← e] at h
              exact h
            · exact absurd (by decide) c_77
          · have q1 := lc_0.mp c_56
            refine rv_aload d_Pool_bestPaying_59 0 rfl ?_
            refine rv_get ka_Tx (hS.2.2 i (by omega)).1 rfl 3 (by decide) (wi_Pool_bestPaying _ (List.mem_of_getElem? (i := 5) rfl)) rfl d_Pool_bestPaying_61 ?_
            refine rv_iload_n d_Pool_bestPaying_64 rfl 5 rfl ?_
            refine rv_icmp_gt (tgt := 72) d_Pool_bestPaying_65 (by decide) (fun c_65 => ?_) (fun c_65 => ?_)
            · have e : cl_bestF S dn rm i (some b) = some b := if_neg (by show ¬ (_ && (_ && (_ && _))) = true; rw [decide_eq_false (Int32.not_le.mpr c_65), Bool.false_and, Bool.and_false, Bool.and_false]; exact Bool.false_ne_true)
              refine rv_iconst (v := nI 0) d_Pool_bestPaying_72 (by decide) ?_
              refine rv_istore (lv' := [(7, .int (nI 0)), (6, .ref (L.2.1 i)), (5, .int (nI i)), (4, .int (nI b)), (0, .ref po), (1, .long dn), (3, .int rm)]) d_Pool_bestPaying_73 (by decide) rfl ?_
              refine rv_iload d_Pool_bestPaying_75 0 rfl ?_
              refine rv_if_eq (tgt := 105) d_Pool_bestPaying_77 (by decide) (fun c_77 => ?_) (fun c_77 => ?_)
              · refine rv_iinc (k := 2) (v := nI (i + 1)) (lv' := [(5, .int (nI (i + 1))), (7, .int (nI 0)), (6, .ref (L.2.1 i)), (4, .int (nI b)), (0, .ref po), (1, .long dn), (3, .int rm)]) d_Pool_bestPaying_105 rfl (nI_1 _) (by decide) rfl ?_
                refine rv_goto (tgt := 6) d_Pool_bestPaying_108 (by decide) ?_
                refine rv_post (Q' := ma_qi (ma_eq (ob_i (lp_fold (cl_bestF S dn rm) m (i + 1) (some b))) hp)) (fun _ _ h => ?_) (rv_lv [0, 3, 4, 5, 6] rfl (ih (i + 1) (some b) (fun b0 h0 => by cases h0; exact hb) (by omega)))
                rw [← e] at h
                exact h
              · exact absurd (by decide) c_77
            · have q2 := Int32.not_lt.mp c_65
              refine rv_iconst (v := nI 1) d_Pool_bestPaying_68 (by decide) ?_
              refine rv_goto (tgt := 73) d_Pool_bestPaying_69 (by decide) ?_
              refine rv_istore (lv' := [(7, .int (nI 1)), (6, .ref (L.2.1 i)), (5, .int (nI i)), (4, .int (nI b)), (0, .ref po), (1, .long dn), (3, .int rm)]) d_Pool_bestPaying_73 (by decide) rfl ?_
              refine rv_iload d_Pool_bestPaying_75 0 rfl ?_
              refine rv_if_eq (tgt := 105) d_Pool_bestPaying_77 (by decide) (fun c_77 => ?_) (fun c_77 => ?_)
              · exact absurd c_77 (by decide)
              · refine rv_iload d_Pool_bestPaying_80 3 rfl ?_
                refine rv_iconst (v := (-1)) d_Pool_bestPaying_82 (by decide) ?_
                refine rv_icmp_eq (tgt := 101) d_Pool_bestPaying_83 (by decide) (fun c_83 => ?_) (fun c_83 => ?_)
                · exact absurd c_83 (nI_m1 (by omega))
                · refine rv_aload d_Pool_bestPaying_86 1 rfl ?_
                  refine rv_aload_n d_Pool_bestPaying_88 rfl 4 rfl ?_
                  refine rv_get ka_Pool hS.1 rfl 0 (by decide) (wi_Pool_bestPaying _ (List.mem_of_getElem? (i := 3) rfl)) rfl d_Pool_bestPaying_89 ?_
                  refine rv_iload d_Pool_bestPaying_92 3 rfl ?_
                  refine rv_aald hf 2 rfl (by omega) (by decide) d_Pool_bestPaying_94 ?_
                  refine rv_eqv (y := .ref (L.2.1 b)) ((by rw [hfp b (by omega)]; rfl)) ?_
                  refine rv_callS (kc' := 0) (ks' := 0) (kc1 := 0) (ks1 := 0) (As := [.ref (L.2.1 i), .ref (L.2.1 b)]) (rest := []) (c_Pool_paysBetter (hS.2.2 i (by omega)).1 (hS.2.2 b hb).1) ok_Pool_paysBetter (wi_Pool_bestPaying _ (List.mem_of_getElem? (i := 6) rfl)) (wi_Pool_bestPaying _ (List.mem_of_getElem? (i := 7) rfl)) rfl rfl (Nat.le_of_ble_eq_true rfl) (Nat.le_of_ble_eq_true rfl) ⟨Nat.le_of_ble_eq_true rfl, Nat.le_of_ble_eq_true rfl⟩ d_Pool_bestPaying_95 (rv_kie ?_)
                  refine rv_if_eq (tgt := 105) d_Pool_bestPaying_98 (by decide) (fun c_98 => ?_) (fun c_98 => ?_)
                  · have e : cl_bestF S dn rm i (some b) = some b := if_neg (by show ¬ (_ && (_ && (_ && _))) = true; rw [show cl_ob (fun b => cl_better (S.2.2 i) (S.2.2 b)) (some b) = false from bI_0.mp c_98, Bool.and_false, Bool.and_false, Bool.and_false]; exact Bool.false_ne_true)
                    refine rv_iinc (k := 2) (v := nI (i + 1)) (lv' := [(5, .int (nI (i + 1))), (7, .int (nI 1)), (6, .ref (L.2.1 i)), (4, .int (nI b)), (0, .ref po), (1, .long dn), (3, .int rm)]) d_Pool_bestPaying_105 rfl (nI_1 _) (by decide) rfl ?_
                    refine rv_goto (tgt := 6) d_Pool_bestPaying_108 (by decide) ?_
                    refine rv_post (Q' := ma_qi (ma_eq (ob_i (lp_fold (cl_bestF S dn rm) m (i + 1) (some b))) hp)) (fun _ _ h => ?_) (rv_lv [0, 3, 4, 5, 6] rfl (ih (i + 1) (some b) (fun b0 h0 => by cases h0; exact hb) (by omega)))
                    rw [← e] at h
                    exact h
                  · have e : cl_bestF S dn rm i (some b) = some i := if_pos (by show (_ && (_ && (_ && _))) = true; rw [q0, decide_eq_true q1, decide_eq_true q2, show cl_ob (fun b => cl_better (S.2.2 i) (S.2.2 b)) (some b) = true from bI_n.mp c_98]; rfl)
                    refine rv_iload d_Pool_bestPaying_101 2 rfl ?_
                    refine rv_istore (lv' := [(4, .int (nI i)), (7, .int (nI 1)), (6, .ref (L.2.1 i)), (5, .int (nI i)), (0, .ref po), (1, .long dn), (3, .int rm)]) d_Pool_bestPaying_103 (by decide) rfl ?_
                    refine rv_iinc (k := 3) (v := nI (i + 1)) (lv' := [(5, .int (nI (i + 1))), (4, .int (nI i)), (7, .int (nI 1)), (6, .ref (L.2.1 i)), (0, .ref po), (1, .long dn), (3, .int rm)]) d_Pool_bestPaying_105 rfl (nI_1 _) (by decide) rfl ?_
                    refine rv_goto (tgt := 6) d_Pool_bestPaying_108 (by decide) ?_
                    refine rv_post (Q' := ma_qi (ma_eq (ob_i (lp_fold (cl_bestF S dn rm) m (i + 1) (some i))) hp)) (fun _ _ h => ?_) (rv_lv [0, 1, 4, 5, 6] rfl (ih (i + 1) (some i) (fun b0 h0 => by cases h0; omega) (by omega)))
                    rw [← e] at h
                    exact h
        · have e : cl_bestF S dn rm i (some b) = some b := if_neg (by show ¬ (_ && (_ && (_ && _))) = true; rw [bI_0.mp c_28, Bool.false_and]; exact Bool.false_ne_true)
          refine rv_goto (tgt := 105) d_Pool_bestPaying_31 (by decide) ?_
          refine rv_iinc (k := 0) (v := nI (i + 1)) (lv' := [(5, .int (nI (i + 1))), (4, .int (nI b)), (0, .ref po), (1, .long dn), (3, .int rm)]) d_Pool_bestPaying_105 rfl (nI_1 _) (by decide) rfl ?_
          refine rv_goto (tgt := 6) d_Pool_bestPaying_108 (by decide) ?_
          refine rv_post (Q' := ma_qi (ma_eq (ob_i (lp_fold (cl_bestF S dn rm) m (i + 1) (some b))) hp)) (fun _ _ h => ?_) (rv_lv [0, 1, 2, 3, 4] rfl (ih (i + 1) (some b) (fun b0 h0 => by cases h0; exact hb) (by omega)))
          rw [← e] at h
          exact h
set_option maxHeartbeats 4000000 in
set_option maxRecDepth 100000 in
theorem c_Pool_bestPaying {l : Launch} {D : va_G} {ca : Nat → ClassId} {hp : hp_T} {d : Nat} {po : Nat} {L : po_L} {S : po_S} (hS : po_At ca hp po L S) {dn : Int64} {rm : Int32} : ma_V l D ca ma_T M_Pool_bestPaying (d + 3) 0 0 hp (ma_qi (ma_eq (ob_i (cl_best S dn rm)) hp)) 0 (lv_args 0 [.ref po, .long dn, .int rm]) [] := by
  change ma_V l D ca ma_T M_Pool_bestPaying (d + 3) 0 0 hp (ma_qi (ma_eq (ob_i (cl_best S dn rm)) hp)) 0 [(0, .ref po), (1, .long dn), (3, .int rm)] []
  refine rv_iconst (v := (-1)) d_Pool_bestPaying_0 (by decide) ?_
  refine rv_istore (lv' := [(4, .int (-1)), (0, .ref po), (1, .long dn), (3, .int rm)]) d_Pool_bestPaying_1 (by decide) rfl ?_
  refine rv_iconst (v := nI 0) d_Pool_bestPaying_3 (by decide) ?_
  refine rv_istore (lv' := [(5, .int (nI 0)), (4, .int (-1)), (0, .ref po), (1, .long dn), (3, .int rm)]) d_Pool_bestPaying_4 (by decide) rfl ?_
  exact c_Pool_bestPaying_l hS 41 0 none (fun b h => by cases h) (Nat.zero_add _)
def ll_c (S : po_S) (o : Option Nat) : Int32 := match o with
  | none => nI 0
  | some b => (S.2.2 b).2.2.2.2.2.1
def ll_f (S : po_S) (o : Option Nat) : Int64 := match o with
  | none => 0
  | some b => cl_ff S b
def ll_s (S : po_S) (o : Option Nat) : Int32 := match o with
  | none => nI 0
  | some b => cl_fs S b
set_option maxHeartbeats 4000000 in
set_option maxRecDepth 100000 in
theorem c_Pool_leastPaying_l {l : Launch} {D : va_G} {ca : Nat → ClassId} {hp : hp_T} {d : Nat} {po : Nat} {L : po_L} {S : po_S} (hS : po_At ca hp po L S) : ∀ (m i : Nat) (acc : Option Nat), (∀ b, acc = some b → b < 41) → i + m = 41 → ma_V l D ca ma_T M_Pool_leastPaying (d + 4) 0 0 hp (ma_qi (ma_eq (ob_i (lp_fold (cl_leastF S) m i acc)) hp)) 12 [(6, .int (nI i)), (5, .int (ll_s S acc)), (3, .long (ll_f S acc)), (2, .int (ll_c S acc)), (1, .int (ob_i acc)), (0, .ref po)] [] := by
  obtain ⟨f, hf, hfp⟩ := hS.2.1
  intro m
  induction m with
  | zero =>
    intro i acc hacc hi
    refine rv_iload d_Pool_leastPaying_12 0 rfl ?_
    refine rv_bipush (v := nI 41) d_Pool_leastPaying_14 (by decide) ?_
    refine rv_icmp_ge (tgt := 131) d_Pool_leastPaying_16 (by decide) (fun c_16 => ?_) (fun c_16 => ?_)
    · refine rv_iload_n d_Pool_leastPaying_131 rfl 4 rfl ?_
      exact rv_ireturn ⟨_, rfl, rfl, rfl⟩ d_Pool_leastPaying_132 rfl rfl
    · exact absurd (nI_le (by omega) (by omega)) c_16
  | succ m ih =>
    intro i acc hacc hi
    cases acc with
    | none =>
      change ma_V l D ca ma_T M_Pool_leastPaying (d + 4) 0 0 hp (ma_qi (ma_eq (ob_i (lp_fold (cl_leastF S) (m + 1) i (none))) hp)) 12 [(6, .int (nI i)), (5, .int (nI 0)), (3, .long 0), (2, .int (nI 0)), (1, .int (-1)), (0, .ref po)] []
      refine rv_iload d_Pool_leastPaying_12 0 rfl ?_
      refine rv_bipush (v := nI 41) d_Pool_leastPaying_14 (by decide) ?_
      refine rv_icmp_ge (tgt := 131) d_Pool_leastPaying_16 (by decide) (fun c_16 => ?_) (fun c_16 => ?_)
      · exact absurd c_16 (nI_ge (by omega) (by omega))
      · refine rv_aload_n d_Pool_leastPaying_19 rfl 5 rfl ?_
        refine rv_get ka_Pool hS.1 rfl 1 (by decide) (wi_Pool_leastPaying _ (List.mem_of_getElem? (i := 0) rfl)) rfl d_Pool_leastPaying_20 ?_
        refine rv_iload d_Pool_leastPaying_23 0 rfl ?_
        refine rv_callSN (kc' := 0) (ks' := 0) (kc1 := 0) (ks1 := 0) (As := [.long S.1, .int (nI i)]) (rest := []) (c_Desk_has (by omega)) ok_Desk_has (host := "PoolDesk") (List.mem_of_getElem? (i := 6) rfl) (wi_Pool_leastPaying _ (List.mem_of_getElem? (i := 1) rfl)) rfl rfl (Nat.le_of_ble_eq_true rfl) (Nat.le_of_ble_eq_true rfl) ⟨Nat.le_of_ble_eq_true rfl, Nat.le_of_ble_eq_true rfl⟩ d_Pool_leastPaying_25 (rv_kie ?_)
        refine rv_if_ne (tgt := 34) d_Pool_leastPaying_28 (by decide) (fun c_28 => ?_) (fun c_28 => ?_)
        · have q0 := bI_n.mp c_28
          refine rv_aload_n d_Pool_leastPaying_34 rfl 5 rfl ?_
          refine rv_iload d_Pool_leastPaying_35 0 rfl ?_
          refine rv_callSN (kc' := 0) (ks' := 0) (kc1 := 0) (ks1 := 0) (As := [.int (nI i)]) (rest := [.ref po]) (c_Desk_bit) ok_Desk_bit (host := "PoolDesk") (List.mem_of_getElem? (i := 7) rfl) (wi_Pool_leastPaying _ (List.mem_of_getElem? (i := 2) rfl)) rfl rfl (Nat.le_of_ble_eq_true rfl) (Nat.le_of_ble_eq_true rfl) ⟨Nat.le_of_ble_eq_true rfl, Nat.le_of_ble_eq_true rfl⟩ d_Pool_leastPaying_37 (rv_kle ?_)
          refine rv_callV (kc' := 0) (ks' := 0) (kc1 := 0) (ks1 := 0) (As := [.long (bz_b i)]) (rest := []) hS.1 rfl (c_Pool_family hS) ok_Pool_family (wi_Pool_leastPaying _ (List.mem_of_getElem? (i := 3) rfl)) (wi_Pool_leastPaying _ (List.mem_of_getElem? (i := 4) rfl)) (wi_Pool_leastPaying _ (List.mem_of_getElem? (i := 5) rfl)) rfl rfl (Nat.le_of_ble_eq_true rfl) (Nat.le_of_ble_eq_true rfl) ⟨Nat.le_of_ble_eq_true rfl, Nat.le_of_ble_eq_true rfl⟩ d_Pool_leastPaying_40 (rv_kle ?_)
          refine rv_lstore (lv' := [(7, .long (cl_fam S (bz_b i))), (6, .int (nI i)), (5, .int (nI 0)), (3, .long 0), (2, .int (nI 0)), (1, .int (-1)), (0, .ref po)]) d_Pool_leastPaying_43 (by decide) rfl ?_
          refine rv_aload_n d_Pool_leastPaying_45 rfl 6 rfl ?_
          refine rv_lload d_Pool_leastPaying_46 0 rfl ?_
          refine rv_callV (kc' := 0) (ks' := 0) (kc1 := 0) (ks1 := 0) (As := [.long (cl_fam S (bz_b i))]) (rest := []) hS.1 rfl (c_Pool_sumOfFees hS) ok_Pool_sumOfFees (wi_Pool_leastPaying _ (List.mem_of_getElem? (i := 6) rfl)) (wi_Pool_leastPaying _ (List.mem_of_getElem? (i := 7) rfl)) (wi_Pool_leastPaying _ (List.mem_of_getElem? (i := 8) rfl)) rfl rfl (Nat.le_of_ble_eq_true rfl) (Nat.le_of_ble_eq_true rfl) ⟨Nat.le_of_ble_eq_true rfl, Nat.le_of_ble_eq_true rfl⟩ d_Pool_leastPaying_48 (rv_kle ?_)
          refine rv_lstore (lv' := [(9, .long (cl_fees S (cl_fam S (bz_b i)))), (7, .long (cl_fam S (bz_b i))), (6, .int (nI i)), (5, .int (nI 0)), (3, .long 0), (2, .int (nI 0)), (1, .int (-1)), (0, .ref po)]) d_Pool_leastPaying_51 (by decide) rfl ?_
          refine rv_aload_n d_Pool_leastPaying_53 rfl 7 rfl ?_
          refine rv_lload d_Pool_leastPaying_54 1 rfl ?_
          refine rv_callV (kc' := 0) (ks' := 0) (kc1 := 0) (ks1 := 0) (As := [.long (cl_fam S (bz_b i))]) (rest := []) hS.1 rfl (c_Pool_sumOfSizes hS) ok_Pool_sumOfSizes (wi_Pool_leastPaying _ (List.mem_of_getElem? (i := 9) rfl)) (wi_Pool_leastPaying _ (List.mem_of_getElem? (i := 10) rfl)) (wi_Pool_leastPaying _ (List.mem_of_getElem? (i := 11) rfl)) rfl rfl (Nat.le_of_ble_eq_true rfl) (Nat.le_of_ble_eq_true rfl) ⟨Nat.le_of_ble_eq_true rfl, Nat.le_of_ble_eq_true rfl⟩ d_Pool_leastPaying_56 (rv_kie ?_)
          refine rv_istore (lv' := [(11, .int (cl_sizes S (cl_fam S (bz_b i)))), (9, .long (cl_fees S (cl_fam S (bz_b i)))), (7, .long (cl_fam S (bz_b i))), (6, .int (nI i)), (5, .int (nI 0)), (3, .long 0), (2, .int (nI 0)), (1, .int (-1)), (0, .ref po)]) d_Pool_leastPaying_59 (by decide) rfl ?_
          refine rv_lload d_Pool_leastPaying_61 1 rfl ?_
          refine rv_iload d_Pool_leastPaying_63 0 rfl ?_
          refine rv_i2l d_Pool_leastPaying_65 ?_
          refine rv_lload_n d_Pool_leastPaying_66 rfl 5 rfl ?_
          refine rv_iload d_Pool_leastPaying_67 4 rfl ?_
          refine rv_i2l d_Pool_leastPaying_69 ?_
          refine rv_callSN (kc' := 0) (ks' := 0) (kc1 := 0) (ks1 := 0) (As := [.long (cl_fees S (cl_fam S (bz_b i))), .long ((cl_sizes S (cl_fam S (bz_b i))).toInt64), .long 0, .long ((nI 0).toInt64)]) (rest := []) (c_Desk_compareRates) ok_Desk_compareRates (host := "PoolDesk") (List.mem_of_getElem? (i := 9) rfl) (wi_Pool_leastPaying _ (List.mem_of_getElem? (i := 12) rfl)) rfl rfl (Nat.le_of_ble_eq_true rfl) (Nat.le_of_ble_eq_true rfl) ⟨Nat.le_of_ble_eq_true rfl, Nat.le_of_ble_eq_true rfl⟩ d_Pool_leastPaying_70 (rv_kie ?_)
          refine rv_istore (lv' := [(12, .int (cl_cmp (cl_fees S (cl_fam S (bz_b i))) ((cl_sizes S (cl_fam S (bz_b i))).toInt64) 0 ((nI 0).toInt64))), (11, .int (cl_sizes S (cl_fam S (bz_b i)))), (9, .long (cl_fees S (cl_fam S (bz_b i)))), (7, .long (cl_fam S (bz_b i))), (6, .int (nI i)), (5, .int (nI 0)), (3, .long 0), (2, .int (nI 0)), (1, .int (-1)), (0, .ref po)]) d_Pool_leastPaying_73 (by decide) rfl ?_
          refine rv_iload_n d_Pool_leastPaying_75 rfl 8 rfl ?_
          refine rv_iconst (v := (-1)) d_Pool_leastPaying_76 (by decide) ?_
          refine rv_icmp_eq (tgt := 104) d_Pool_leastPaying_77 (by decide) (fun c_77 => ?_) (fun c_77 => ?_)
          · have e : cl_leastF S i (none) = some i := by simp [cl_leastF, cl_ob, q0]
            refine rv_iload d_Pool_leastPaying_104 4 rfl ?_
            refine rv_istore_n (lv' := [(1, .int (nI i)), (12, .int (cl_cmp (cl_fees S (cl_fam S (bz_b i))) ((cl_sizes S (cl_fam S (bz_b i))).toInt64) 0 ((nI 0).toInt64))), (11, .int (cl_sizes S (cl_fam S (bz_b i)))), (9, .long (cl_fees S (cl_fam S (bz_b i)))), (7, .long (cl_fam S (bz_b i))), (6, .int (nI i)), (5, .int (nI 0)), (3, .long 0), (2, .int (nI 0)), (0, .ref po)]) d_Pool_leastPaying_106 rfl (by decide) rfl ?_
            refine rv_aload_n d_Pool_leastPaying_107 rfl 9 rfl ?_
            refine rv_get ka_Pool hS.1 rfl 0 (by decide) (wi_Pool_leastPaying _ (List.mem_of_getElem? (i := 13) rfl)) rfl d_Pool_leastPaying_108 ?_
            refine rv_iload d_Pool_leastPaying_111 5 rfl ?_
            refine rv_aald hf 2 rfl (by omega) (by decide) d_Pool_leastPaying_113 ?_
            refine rv_eqv (y := .ref (L.2.1 i)) ((by rw [hfp i (by omega)]; rfl)) ?_
            refine rv_get ka_Tx (hS.2.2 i (by omega)).1 rfl 5 (by decide) (wi_Pool_leastPaying _ (List.mem_of_getElem? (i := 14) rfl)) rfl d_Pool_leastPaying_114 ?_
            refine rv_istore_n (lv' := [(2, .int ((S.2.2 i).2.2.2.2.2.1)), (1, .int (nI i)), (12, .int (cl_cmp (cl_fees S (cl_fam S (bz_b i))) ((cl_sizes S (cl_fam S (bz_b i))).toInt64) 0 ((nI 0).toInt64))), (11, .int (cl_sizes S (cl_fam S (bz_b i)))), (9, .long (cl_fees S (cl_fam S (bz_b i)))), (7, .long (cl_fam S (bz_b i))), (6, .int (nI i)), (5, .int (nI 0)), (3, .long 0), (0, .ref po)]) d_Pool_leastPaying_117 rfl (by decide) rfl ?_
            refine rv_lload d_Pool_leastPaying_118 4 rfl ?_
            refine rv_lstore_n (lv' := [(3, .long (cl_fees S (cl_fam S (bz_b i)))), (2, .int ((S.2.2 i).2.2.2.2.2.1)), (1, .int (nI i)), (12, .int (cl_cmp (cl_fees S (cl_fam S (bz_b i))) ((cl_sizes S (cl_fam S (bz_b i))).toInt64) 0 ((nI 0).toInt64))), (11, .int (cl_sizes S (cl_fam S (bz_b i)))), (9, .long (cl_fees S (cl_fam S (bz_b i)))), (7, .long (cl_fam S (bz_b i))), (6, .int (nI i)), (5, .int (nI 0)), (0, .ref po)]) d_Pool_leastPaying_120 rfl (by decide) rfl ?_
            refine rv_iload d_Pool_leastPaying_121 4 rfl ?_
            refine rv_istore (lv' := [(5, .int (cl_sizes S (cl_fam S (bz_b i)))), (3, .long (cl_fees S (cl_fam S (bz_b i)))), (2, .int ((S.2.2 i).2.2.2.2.2.1)), (1, .int (nI i)), (12, .int (cl_cmp (cl_fees S (cl_fam S (bz_b i))) ((cl_sizes S (cl_fam S (bz_b i))).toInt64) 0 ((nI 0).toInt64))), (11, .int (cl_sizes S (cl_fam S (bz_b i)))), (9, .long (cl_fees S (cl_fam S (bz_b i)))), (7, .long (cl_fam S (bz_b i))), (6, .int (nI i)), (0, .ref po)]) d_Pool_leastPaying_123 (by decide) rfl ?_
            refine rv_iinc (k := 8) (v := nI (i + 1)) (lv' := [(6, .int (nI (i + 1))), (5, .int (cl_sizes S (cl_fam S (bz_b i)))), (3, .long (cl_fees S (cl_fam S (bz_b i)))), (2, .int ((S.2.2 i).2.2.2.2.2.1)), (1, .int (nI i)), (12, .int (cl_cmp (cl_fees S (cl_fam S (bz_b i))) ((cl_sizes S (cl_fam S (bz_b i))).toInt64) 0 ((nI 0).toInt64))), (11, .int (cl_sizes S (cl_fam S (bz_b i)))), (9, .long (cl_fees S (cl_fam S (bz_b i)))), (7, .long (cl_fam S (bz_b i))), (0, .ref po)]) d_Pool_leastPaying_125 rfl (nI_1 _) (by decide) rfl ?_
            refine rv_goto (tgt := 12) d_Pool_leastPaying_128 (by decide) ?_
            refine rv_post (Q' := ma_qi (ma_eq (ob_i (lp_fold (cl_leastF S) m (i + 1) (some i))) hp)) (fun _ _ h => ?_) (rv_lv [0, 1, 2, 3, 4, 9] rfl (ih (i + 1) (some i) (fun b0 h0 => by cases h0; omega) (by omega)))
            rw [← e] at h
            exact h
          · exact absurd rfl c_77
        · have e : cl_leastF S i (none) = none := by simp [cl_leastF, cl_ob, bI_0.mp c_28]
          refine rv_goto (tgt := 125) d_Pool_leastPaying_31 (by decide) ?_
          refine rv_iinc (k := 0) (v := nI (i + 1)) (lv' := [(6, .int (nI (i + 1))), (5, .int (nI 0)), (3, .long 0), (2, .int (nI 0)), (1, .int (-1)), (0, .ref po)]) d_Pool_leastPaying_125 rfl (nI_1 _) (by decide) rfl ?_
          refine rv_goto (tgt := 12) d_Pool_leastPaying_128 (by decide) ?_
          refine rv_post (Q' := ma_qi (ma_eq (ob_i (lp_fold (cl_leastF S) m (i + 1) (none))) hp)) (fun _ _ h => ?_) (rv_lv [0, 1, 2, 3, 4, 5] rfl (ih (i + 1) (none) (fun b0 h0 => by cases h0) (by omega)))
          rw [← e] at h
          exact h
    | some b =>
      have hb : b < 41 := hacc b rfl
      change ma_V l D ca ma_T M_Pool_leastPaying (d + 4) 0 0 hp (ma_qi (ma_eq (ob_i (lp_fold (cl_leastF S) (m + 1) i (some b))) hp)) 12 [(6, .int (nI i)), (5, .int (cl_fs S b)), (3, .long (cl_ff S b)), (2, .int ((S.2.2 b).2.2.2.2.2.1)), (1, .int (nI b)), (0, .ref po)] []
      refine rv_iload d_Pool_leastPaying_12 0 rfl ?_
      refine rv_bipush (v := nI 41) d_Pool_leastPaying_14 (by decide) ?_
      refine rv_icmp_ge (tgt := 131) d_Pool_leastPaying_16 (by decide) (fun c_16 => ?_) (fun c_16 => ?_)
      · exact absurd c_16 (nI_ge (by omega) (by omega))
      · refine rv_aload_n d_Pool_leastPaying_19 rfl 5 rfl ?_
        refine rv_get ka_Pool hS.1 rfl 1 (by decide) (wi_Pool_leastPaying _ (List.mem_of_getElem? (i := 0) rfl)) rfl d_Pool_leastPaying_20 ?_
        refine rv_iload d_Pool_leastPaying_23 0 rfl ?_
        refine rv_callSN (kc' := 0) (ks' := 0) (kc1 := 0) (ks1 := 0) (As := [.long S.1, .int (nI i)]) (rest := []) (c_Desk_has (by omega)) ok_Desk_has (host := "PoolDesk") (List.mem_of_getElem? (i := 6) rfl) (wi_Pool_leastPaying _ (List.mem_of_getElem? (i := 1) rfl)) rfl rfl (Nat.le_of_ble_eq_true rfl) (Nat.le_of_ble_eq_true rfl) ⟨Nat.le_of_ble_eq_true rfl, Nat.le_of_ble_eq_true rfl⟩ d_Pool_leastPaying_25 (rv_kie ?_)
        refine rv_if_ne (tgt := 34) d_Pool_leastPaying_28 (by decide) (fun c_28 => ?_) (fun c_28 => ?_)
        · have q0 := bI_n.mp c_28
          refine rv_aload_n d_Pool_leastPaying_34 rfl 5 rfl ?_
          refine rv_iload d_Pool_leastPaying_35 0 rfl ?_
          refine rv_callSN (kc' := 0) (ks' := 0) (kc1 := 0) (ks1 := 0) (As := [.int (nI i)]) (rest := [.ref po]) (c_Desk_bit) ok_Desk_bit (host := "PoolDesk") (List.mem_of_getElem? (i := 7) rfl) (wi_Pool_leastPaying _ (List.mem_of_getElem? (i := 2) rfl)) rfl rfl (Nat.le_of_ble_eq_true rfl) (Nat.le_of_ble_eq_true rfl) ⟨Nat.le_of_ble_eq_true rfl, Nat.le_of_ble_eq_true rfl⟩ d_Pool_leastPaying_37 (rv_kle ?_)
          refine rv_callV (kc' := 0) (ks' := 0) (kc1 := 0) (ks1 := 0) (As := [.long (bz_b i)]) (rest := []) hS.1 rfl (c_Pool_family hS) ok_Pool_family (wi_Pool_leastPaying _ (List.mem_of_getElem? (i := 3) rfl)) (wi_Pool_leastPaying _ (List.mem_of_getElem? (i := 4) rfl)) (wi_Pool_leastPaying _ (List.mem_of_getElem? (i := 5) rfl)) rfl rfl (Nat.le_of_ble_eq_true rfl) (Nat.le_of_ble_eq_true rfl) ⟨Nat.le_of_ble_eq_true rfl, Nat.le_of_ble_eq_true rfl⟩ d_Pool_leastPaying_40 (rv_kle ?_)
          refine rv_lstore (lv' := [(7, .long (cl_fam S (bz_b i))), (6, .int (nI i)), (5, .int (cl_fs S b)), (3, .long (cl_ff S b)), (2, .int ((S.2.2 b).2.2.2.2.2.1)), (1, .int (nI b)), (0, .ref po)]) d_Pool_leastPaying_43 (by decide) rfl ?_
          refine rv_aload_n d_Pool_leastPaying_45 rfl 6 rfl ?_
          refine rv_lload d_Pool_leastPaying_46 0 rfl ?_
          refine rv_callV (kc' := 0) (ks' := 0) (kc1 := 0) (ks1 := 0) (As := [.long (cl_fam S (bz_b i))]) (rest := []) hS.1 rfl (c_Pool_sumOfFees hS) ok_Pool_sumOfFees (wi_Pool_leastPaying _ (List.mem_of_getElem? (i := 6) rfl)) (wi_Pool_leastPaying _ (List.mem_of_getElem? (i := 7) rfl)) (wi_Pool_leastPaying _ (List.mem_of_getElem? (i := 8) rfl)) rfl rfl (Nat.le_of_ble_eq_true rfl) (Nat.le_of_ble_eq_true rfl) ⟨Nat.le_of_ble_eq_true rfl, Nat.le_of_ble_eq_true rfl⟩ d_Pool_leastPaying_48 (rv_kle ?_)
          refine rv_lstore (lv' := [(9, .long (cl_fees S (cl_fam S (bz_b i)))), (7, .long (cl_fam S (bz_b i))), (6, .int (nI i)), (5, .int (cl_fs S b)), (3, .long (cl_ff S b)), (2, .int ((S.2.2 b).2.2.2.2.2.1)), (1, .int (nI b)), (0, .ref po)]) d_Pool_leastPaying_51 (by decide) rfl ?_
          refine rv_aload_n d_Pool_leastPaying_53 rfl 7 rfl ?_
          refine rv_lload d_Pool_leastPaying_54 1 rfl ?_
          refine rv_callV (kc' := 0) (ks' := 0) (kc1 := 0) (ks1 := 0) (As := [.long (cl_fam S (bz_b i))]) (rest := []) hS.1 rfl (c_Pool_sumOfSizes hS) ok_Pool_sumOfSizes (wi_Pool_leastPaying _ (List.mem_of_getElem? (i := 9) rfl)) (wi_Pool_leastPaying _ (List.mem_of_getElem? (i := 10) rfl)) (wi_Pool_leastPaying _ (List.mem_of_getElem? (i := 11) rfl)) rfl rfl (Nat.le_of_ble_eq_true rfl) (Nat.le_of_ble_eq_true rfl) ⟨Nat.le_of_ble_eq_true rfl, Nat.le_of_ble_eq_true rfl⟩ d_Pool_leastPaying_56 (rv_kie ?_)
          refine rv_istore (lv' := [(11, .int (cl_sizes S (cl_fam S (bz_b i)))), (9, .long (cl_fees S (cl_fam S (bz_b i)))), (7, .long (cl_fam S (bz_b i))), (6, .int (nI i)), (5, .int (cl_fs S b)), (3, .long (cl_ff S b)), (2, .int ((S.2.2 b).2.2.2.2.2.1)), (1, .int (nI b)), (0, .ref po)]) d_Pool_leastPaying_59 (by decide) rfl ?_
          refine rv_lload d_Pool_leastPaying_61 1 rfl ?_
          refine rv_iload d_Pool_leastPaying_63 0 rfl ?_
          refine rv_i2l d_Pool_leastPaying_65 ?_
          refine rv_lload_n d_Pool_leastPaying_66 rfl 5 rfl ?_
          refine rv_iload d_Pool_leastPaying_67 4 rfl ?_
          refine rv_i2l d_Pool_leastPaying_69 ?_
          refine rv_callSN (kc' := 0) (ks' := 0) (kc1 := 0) (ks1 := 0) (As := [.long (cl_fees S (cl_fam S (bz_b i))), .long ((cl_sizes S (cl_fam S (bz_b i))).toInt64), .long (cl_ff S b), .long ((cl_fs S b).toInt64)]) (rest := []) (c_Desk_compareRates) ok_Desk_compareRates (host := "PoolDesk") (List.mem_of_getElem? (i := 9) rfl) (wi_Pool_leastPaying _ (List.mem_of_getElem? (i := 12) rfl)) rfl rfl (Nat.le_of_ble_eq_true rfl) (Nat.le_of_ble_eq_true rfl) ⟨Nat.le_of_ble_eq_true rfl, Nat.le_of_ble_eq_true rfl⟩ d_Pool_leastPaying_70 (rv_kie ?_)
          refine rv_istore (lv' := [(12, .int (cl_cmp (cl_fees S (cl_fam S (bz_b i))) ((cl_sizes S (cl_fam S (bz_b i))).toInt64) (cl_ff S b) ((cl_fs S b).toInt64))), (11, .int (cl_sizes S (cl_fam S (bz_b i)))), (9, .long (cl_fees S (cl_fam S (bz_b i)))), (7, .long (cl_fam S (bz_b i))), (6, .int (nI i)), (5, .int (cl_fs S b)), (3, .long (cl_ff S b)), (2, .int ((S.2.2 b).2.2.2.2.2.1)), (1, .int (nI b)), (0, .ref po)]) d_Pool_leastPaying_73 (by decide) rfl ?_
          refine rv_iload_n d_Pool_leastPaying_75 rfl 8 rfl ?_
          refine rv_iconst (v := (-1)) d_Pool_leastPaying_76 (by decide) ?_
          refine rv_icmp_eq (tgt := 104) d_Pool_leastPaying_77 (by decide) (fun c_77 => ?_) (fun c_77 => ?_)
          · exact absurd c_77 (nI_m1 (by omega))
          · refine rv_iload d_Pool_leastPaying_80 0 rfl ?_
            refine rv_if_lt (tgt := 104) d_Pool_leastPaying_82 (by decide) (fun c_82 => ?_) (fun c_82 => ?_)
            · have r1 : cl_cmp (cl_ff S i) (cl_fs S i).toInt64 (cl_ff S b) (cl_fs S b).toInt64 < 0 := c_82
              have q1 : cl_less S i b = true := by simp only [cl_less, decide_eq_true r1, Bool.true_or]
              have e : cl_leastF S i (some b) = some i := by simp [cl_leastF, cl_ob, q0, q1]
              refine rv_iload d_Pool_leastPaying_104 4 rfl ?_
              refine rv_istore_n (lv' := [(1, .int (nI i)), (12, .int (cl_cmp (cl_fees S (cl_fam S (bz_b i))) ((cl_sizes S (cl_fam S (bz_b i))).toInt64) (cl_ff S b) ((cl_fs S b).toInt64))), (11, .int (cl_sizes S (cl_fam S (bz_b i)))), (9, .long (cl_fees S (cl_fam S (bz_b i)))), (7, .long (cl_fam S (bz_b i))), (6, .int (nI i)), (5, .int (cl_fs S b)), (3, .long (cl_ff S b)), (2, .int ((S.2.2 b).2.2.2.2.2.1)), (0, .ref po)]) d_Pool_leastPaying_106 rfl (by decide) rfl ?_
              refine rv_aload_n d_Pool_leastPaying_107 rfl 9 rfl ?_
              refine rv_get ka_Pool hS.1 rfl 0 (by decide) (wi_Pool_leastPaying _ (List.mem_of_getElem? (i := 13) rfl)) rfl d_Pool_leastPaying_108 ?_
              refine rv_iload d_Pool_leastPaying_111 5 rfl ?_
              refine rv_aald hf 2 rfl (by omega) (by decide) d_Pool_leastPaying_113 ?_
              refine rv_eqv (y := .ref (L.2.1 i)) ((by rw [hfp i (by omega)]; rfl)) ?_
              refine rv_get ka_Tx (hS.2.2 i (by omega)).1 rfl 5 (by decide) (wi_Pool_leastPaying _ (List.mem_of_getElem? (i := 14) rfl)) rfl d_Pool_leastPaying_114 ?_
              refine rv_istore_n (lv' := [(2, .int ((S.2.2 i).2.2.2.2.2.1)), (1, .int (nI i)), (12, .int (cl_cmp (cl_fees S (cl_fam S (bz_b i))) ((cl_sizes S (cl_fam S (bz_b i))).toInt64) (cl_ff S b) ((cl_fs S b).toInt64))), (11, .int (cl_sizes S (cl_fam S (bz_b i)))), (9, .long (cl_fees S (cl_fam S (bz_b i)))), (7, .long (cl_fam S (bz_b i))), (6, .int (nI i)), (5, .int (cl_fs S b)), (3, .long (cl_ff S b)), (0, .ref po)]) d_Pool_leastPaying_117 rfl (by decide) rfl ?_
              refine rv_lload d_Pool_leastPaying_118 4 rfl ?_
              refine rv_lstore_n (lv' := [(3, .long (cl_fees S (cl_fam S (bz_b i)))), (2, .int ((S.2.2 i).2.2.2.2.2.1)), (1, .int (nI i)), (12, .int (cl_cmp (cl_fees S (cl_fam S (bz_b i))) ((cl_sizes S (cl_fam S (bz_b i))).toInt64) (cl_ff S b) ((cl_fs S b).toInt64))), (11, .int (cl_sizes S (cl_fam S (bz_b i)))), (9, .long (cl_fees S (cl_fam S (bz_b i)))), (7, .long (cl_fam S (bz_b i))), (6, .int (nI i)), (5, .int (cl_fs S b)), (0, .ref po)]) d_Pool_leastPaying_120 rfl (by decide) rfl ?_
              refine rv_iload d_Pool_leastPaying_121 4 rfl ?_
              refine rv_istore (lv' := [(5, .int (cl_sizes S (cl_fam S (bz_b i)))), (3, .long (cl_fees S (cl_fam S (bz_b i)))), (2, .int ((S.2.2 i).2.2.2.2.2.1)), (1, .int (nI i)), (12, .int (cl_cmp (cl_fees S (cl_fam S (bz_b i))) ((cl_sizes S (cl_fam S (bz_b i))).toInt64) (cl_ff S b) ((cl_fs S b).toInt64))), (11, .int (cl_sizes S (cl_fam S (bz_b i)))), (9, .long (cl_fees S (cl_fam S (bz_b i)))), (7, .long (cl_fam S (bz_b i))), (6, .int (nI i)), (0, .ref po)]) d_Pool_leastPaying_123 (by decide) rfl ?_
              refine rv_iinc (k := 8) (v := nI (i + 1)) (lv' := [(6, .int (nI (i + 1))), (5, .int (cl_sizes S (cl_fam S (bz_b i)))), (3, .long (cl_fees S (cl_fam S (bz_b i)))), (2, .int ((S.2.2 i).2.2.2.2.2.1)), (1, .int (nI i)), (12, .int (cl_cmp (cl_fees S (cl_fam S (bz_b i))) ((cl_sizes S (cl_fam S (bz_b i))).toInt64) (cl_ff S b) ((cl_fs S b).toInt64))), (11, .int (cl_sizes S (cl_fam S (bz_b i)))), (9, .long (cl_fees S (cl_fam S (bz_b i)))), (7, .long (cl_fam S (bz_b i))), (0, .ref po)]) d_Pool_leastPaying_125 rfl (nI_1 _) (by decide) rfl ?_
              refine rv_goto (tgt := 12) d_Pool_leastPaying_128 (by decide) ?_
              refine rv_post (Q' := ma_qi (ma_eq (ob_i (lp_fold (cl_leastF S) m (i + 1) (some i))) hp)) (fun _ _ h => ?_) (rv_lv [0, 1, 2, 3, 4, 9] rfl (ih (i + 1) (some i) (fun b0 h0 => by cases h0; omega) (by omega)))
              rw [← e] at h
              exact h
            · refine rv_iload d_Pool_leastPaying_85 0 rfl ?_
              refine rv_if_ne (tgt := 125) d_Pool_leastPaying_87 (by decide) (fun c_87 => ?_) (fun c_87 => ?_)
              · have r1 : ¬ cl_cmp (cl_ff S i) (cl_fs S i).toInt64 (cl_ff S b) (cl_fs S b).toInt64 < 0 := c_82
                have r2 : ¬ cl_cmp (cl_ff S i) (cl_fs S i).toInt64 (cl_ff S b) (cl_fs S b).toInt64 = 0 := c_87
                have q1 : cl_less S i b = false := by simp only [cl_less, decide_eq_false r1, decide_eq_false r2, Bool.false_and, Bool.or_false]
                have e : cl_leastF S i (some b) = some b := by simp [cl_leastF, cl_ob, q1]
                refine rv_iinc (k := 4) (v := nI (i + 1)) (lv' := [(6, .int (nI (i + 1))), (12, .int (cl_cmp (cl_fees S (cl_fam S (bz_b i))) ((cl_sizes S (cl_fam S (bz_b i))).toInt64) (cl_ff S b) ((cl_fs S b).toInt64))), (11, .int (cl_sizes S (cl_fam S (bz_b i)))), (9, .long (cl_fees S (cl_fam S (bz_b i)))), (7, .long (cl_fam S (bz_b i))), (5, .int (cl_fs S b)), (3, .long (cl_ff S b)), (2, .int ((S.2.2 b).2.2.2.2.2.1)), (1, .int (nI b)), (0, .ref po)]) d_Pool_leastPaying_125 rfl (nI_1 _) (by decide) rfl ?_
                refine rv_goto (tgt := 12) d_Pool_leastPaying_128 (by decide) ?_
                refine rv_post (Q' := ma_qi (ma_eq (ob_i (lp_fold (cl_leastF S) m (i + 1) (some b))) hp)) (fun _ _ h => ?_) (rv_lv [0, 5, 6, 7, 8, 9] rfl (ih (i + 1) (some b) (fun b0 h0 => by cases h0; exact hb) (by omega)))
                rw [← e] at h
                exact h
              · refine rv_aload_n d_Pool_leastPaying_90 rfl 9 rfl ?_
                refine rv_get ka_Pool hS.1 rfl 0 (by decide) (wi_Pool_leastPaying _ (List.mem_of_getElem? (i := 13) rfl)) rfl d_Pool_leastPaying_91 ?_
                refine rv_iload d_Pool_leastPaying_94 4 rfl ?_
                refine rv_aald hf 2 rfl (by omega) (by decide) d_Pool_leastPaying_96 ?_
                refine rv_eqv (y := .ref (L.2.1 i)) ((by rw [hfp i (by omega)]; rfl)) ?_
                refine rv_get ka_Tx (hS.2.2 i (by omega)).1 rfl 5 (by decide) (wi_Pool_leastPaying _ (List.mem_of_getElem? (i := 14) rfl)) rfl d_Pool_leastPaying_97 ?_
                refine rv_iload_n d_Pool_leastPaying_100 rfl 7 rfl ?_
                refine rv_icmp_le (tgt := 125) d_Pool_leastPaying_101 (by decide) (fun c_101 => ?_) (fun c_101 => ?_)
                · have r1 : ¬ cl_cmp (cl_ff S i) (cl_fs S i).toInt64 (cl_ff S b) (cl_fs S b).toInt64 < 0 := c_82
                  have q1 : cl_less S i b = false := by simp only [cl_less, decide_eq_false r1, decide_eq_false (Int32.not_lt.mpr c_101), Bool.and_false, Bool.or_false]
                  have e : cl_leastF S i (some b) = some b := by simp [cl_leastF, cl_ob, q1]
                  refine rv_iinc (k := 4) (v := nI (i + 1)) (lv' := [(6, .int (nI (i + 1))), (12, .int (cl_cmp (cl_fees S (cl_fam S (bz_b i))) ((cl_sizes S (cl_fam S (bz_b i))).toInt64) (cl_ff S b) ((cl_fs S b).toInt64))), (11, .int (cl_sizes S (cl_fam S (bz_b i)))), (9, .long (cl_fees S (cl_fam S (bz_b i)))), (7, .long (cl_fam S (bz_b i))), (5, .int (cl_fs S b)), (3, .long (cl_ff S b)), (2, .int ((S.2.2 b).2.2.2.2.2.1)), (1, .int (nI b)), (0, .ref po)]) d_Pool_leastPaying_125 rfl (nI_1 _) (by decide) rfl ?_
                  refine rv_goto (tgt := 12) d_Pool_leastPaying_128 (by decide) ?_
                  refine rv_post (Q' := ma_qi (ma_eq (ob_i (lp_fold (cl_leastF S) m (i + 1) (some b))) hp)) (fun _ _ h => ?_) (rv_lv [0, 5, 6, 7, 8, 9] rfl (ih (i + 1) (some b) (fun b0 h0 => by cases h0; exact hb) (by omega)))
                  rw [← e] at h
                  exact h
                · have r2 : cl_cmp (cl_ff S i) (cl_fs S i).toInt64 (cl_ff S b) (cl_fs S b).toInt64 = 0 := c_87
                  have q1 : cl_less S i b = true := by simp only [cl_less, decide_eq_true r2, decide_eq_true (Int32.not_le.mp c_101), Bool.and_true, Bool.or_true]
                  have e : cl_leastF S i (some b) = some i := by simp [cl_leastF, cl_ob, q0, q1]
                  refine rv_iload d_Pool_leastPaying_104 4 rfl ?_
                  refine rv_istore_n (lv' := [(1, .int (nI i)), (12, .int (cl_cmp (cl_fees S (cl_fam S (bz_b i))) ((cl_sizes S (cl_fam S (bz_b i))).toInt64) (cl_ff S b) ((cl_fs S b).toInt64))), (11, .int (cl_sizes S (cl_fam S (bz_b i)))), (9, .long (cl_fees S (cl_fam S (bz_b i)))), (7, .long (cl_fam S (bz_b i))), (6, .int (nI i)), (5, .int (cl_fs S b)), (3, .long (cl_ff S b)), (2, .int ((S.2.2 b).2.2.2.2.2.1)), (0, .ref po)]) d_Pool_leastPaying_106 rfl (by decide) rfl ?_
                  refine rv_aload_n d_Pool_leastPaying_107 rfl 9 rfl ?_
                  refine rv_get ka_Pool hS.1 rfl 0 (by decide) (wi_Pool_leastPaying _ (List.mem_of_getElem? (i := 13) rfl)) rfl d_Pool_leastPaying_108 ?_
                  refine rv_iload d_Pool_leastPaying_111 5 rfl ?_
                  refine rv_aald hf 2 rfl (by omega) (by decide) d_Pool_leastPaying_113 ?_
                  refine rv_eqv (y := .ref (L.2.1 i)) ((by rw [hfp i (by omega)]; rfl)) ?_
                  refine rv_get ka_Tx (hS.2.2 i (by omega)).1 rfl 5 (by decide) (wi_Pool_leastPaying _ (List.mem_of_getElem? (i := 14) rfl)) rfl d_Pool_leastPaying_114 ?_
                  refine rv_istore_n (lv' := [(2, .int ((S.2.2 i).2.2.2.2.2.1)), (1, .int (nI i)), (12, .int (cl_cmp (cl_fees S (cl_fam S (bz_b i))) ((cl_sizes S (cl_fam S (bz_b i))).toInt64) (cl_ff S b) ((cl_fs S b).toInt64))), (11, .int (cl_sizes S (cl_fam S (bz_b i)))), (9, .long (cl_fees S (cl_fam S (bz_b i)))), (7, .long (cl_fam S (bz_b i))), (6, .int (nI i)), (5, .int (cl_fs S b)), (3, .long (cl_ff S b)), (0, .ref po)]) d_Pool_leastPaying_117 rfl (by decide) rfl ?_
                  refine rv_lload d_Pool_leastPaying_118 4 rfl ?_
                  refine rv_lstore_n (lv' := [(3, .long (cl_fees S (cl_fam S (bz_b i)))), (2, .int ((S.2.2 i).2.2.2.2.2.1)), (1, .int (nI i)), (12, .int (cl_cmp (cl_fees S (cl_fam S (bz_b i))) ((cl_sizes S (cl_fam S (bz_b i))).toInt64) (cl_ff S b) ((cl_fs S b).toInt64))), (11, .int (cl_sizes S (cl_fam S (bz_b i)))), (9, .long (cl_fees S (cl_fam S (bz_b i)))), (7, .long (cl_fam S (bz_b i))), (6, .int (nI i)), (5, .int (cl_fs S b)), (0, .ref po)]) d_Pool_leastPaying_120 rfl (by decide) rfl ?_
                  refine rv_iload d_Pool_leastPaying_121 4 rfl ?_
                  refine rv_istore (lv' := [(5, .int (cl_sizes S (cl_fam S (bz_b i)))), (3, .long (cl_fees S (cl_fam S (bz_b i)))), (2, .int ((S.2.2 i).2.2.2.2.2.1)), (1, .int (nI i)), (12, .int (cl_cmp (cl_fees S (cl_fam S (bz_b i))) ((cl_sizes S (cl_fam S (bz_b i))).toInt64) (cl_ff S b) ((cl_fs S b).toInt64))), (11, .int (cl_sizes S (cl_fam S (bz_b i)))), (9, .long (cl_fees S (cl_fam S (bz_b i)))), (7, .long (cl_fam S (bz_b i))), (6, .int (nI i)), (0, .ref po)]) d_Pool_leastPaying_123 (by decide) rfl ?_
                  refine rv_iinc (k := 8) (v := nI (i + 1)) (lv' := [(6, .int (nI (i + 1))), (5, .int (cl_sizes S (cl_fam S (bz_b i)))), (3, .long (cl_fees S (cl_fam S (bz_b i)))), (2, .int ((S.2.2 i).2.2.2.2.2.1)), (1, .int (nI i)), (12, .int (cl_cmp (cl_fees S (cl_fam S (bz_b i))) ((cl_sizes S (cl_fam S (bz_b i))).toInt64) (cl_ff S b) ((cl_fs S b).toInt64))), (11, .int (cl_sizes S (cl_fam S (bz_b i)))), (9, .long (cl_fees S (cl_fam S (bz_b i)))), (7, .long (cl_fam S (bz_b i))), (0, .ref po)]) d_Pool_leastPaying_125 rfl (nI_1 _) (by decide) rfl ?_
                  refine rv_goto (tgt := 12) d_Pool_leastPaying_128 (by decide) ?_
                  refine rv_post (Q' := ma_qi (ma_eq (ob_i (lp_fold (cl_leastF S) m (i + 1) (some i))) hp)) (fun _ _ h => ?_) (rv_lv [0, 1, 2, 3, 4, 9] rfl (ih (i + 1) (some i) (fun b0 h0 => by cases h0; omega) (by omega)))
                  rw [← e] at h
                  exact h
        · have e : cl_leastF S i (some b) = some b := by simp [cl_leastF, cl_ob, bI_0.mp c_28]
          refine rv_goto (tgt := 125) d_Pool_leastPaying_31 (by decide) ?_
          refine rv_iinc (k := 0) (v := nI (i + 1)) (lv' := [(6, .int (nI (i + 1))), (5, .int (cl_fs S b)), (3, .long (cl_ff S b)), (2, .int ((S.2.2 b).2.2.2.2.2.1)), (1, .int (nI b)), (0, .ref po)]) d_Pool_leastPaying_125 rfl (nI_1 _) (by decide) rfl ?_
          refine rv_goto (tgt := 12) d_Pool_leastPaying_128 (by decide) ?_
          refine rv_post (Q' := ma_qi (ma_eq (ob_i (lp_fold (cl_leastF S) m (i + 1) (some b))) hp)) (fun _ _ h => ?_) (rv_lv [0, 1, 2, 3, 4, 5] rfl (ih (i + 1) (some b) (fun b0 h0 => by cases h0; exact hb) (by omega)))
          rw [← e] at h
          exact h
set_option maxHeartbeats 4000000 in
set_option maxRecDepth 100000 in
theorem c_Pool_leastPaying {l : Launch} {D : va_G} {ca : Nat → ClassId} {hp : hp_T} {d : Nat} {po : Nat} {L : po_L} {S : po_S} (hS : po_At ca hp po L S) : ma_V l D ca ma_T M_Pool_leastPaying (d + 4) 0 0 hp (ma_qi (ma_eq (ob_i (cl_least S)) hp)) 0 (lv_args 0 [.ref po]) [] := by
  change ma_V l D ca ma_T M_Pool_leastPaying (d + 4) 0 0 hp (ma_qi (ma_eq (ob_i (cl_least S)) hp)) 0 [(0, .ref po)] []
  refine rv_iconst (v := (-1)) d_Pool_leastPaying_0 (by decide) ?_
  refine rv_istore_n (lv' := [(1, .int (-1)), (0, .ref po)]) d_Pool_leastPaying_1 rfl (by decide) rfl ?_
  refine rv_iconst (v := nI 0) d_Pool_leastPaying_2 (by decide) ?_
  refine rv_istore_n (lv' := [(2, .int (nI 0)), (1, .int (-1)), (0, .ref po)]) d_Pool_leastPaying_3 rfl (by decide) rfl ?_
  refine rv_lconst (v := 0) d_Pool_leastPaying_4 (by decide) ?_
  refine rv_lstore_n (lv' := [(3, .long 0), (2, .int (nI 0)), (1, .int (-1)), (0, .ref po)]) d_Pool_leastPaying_5 rfl (by decide) rfl ?_
  refine rv_iconst (v := nI 0) d_Pool_leastPaying_6 (by decide) ?_
  refine rv_istore (lv' := [(5, .int (nI 0)), (3, .long 0), (2, .int (nI 0)), (1, .int (-1)), (0, .ref po)]) d_Pool_leastPaying_7 (by decide) rfl ?_
  refine rv_iconst (v := nI 0) d_Pool_leastPaying_9 (by decide) ?_
  refine rv_istore (lv' := [(6, .int (nI 0)), (5, .int (nI 0)), (3, .long 0), (2, .int (nI 0)), (1, .int (-1)), (0, .ref po)]) d_Pool_leastPaying_10 (by decide) rfl ?_
  exact c_Pool_leastPaying_l hS 41 0 none (fun b h => by cases h) (Nat.zero_add _)
set_option maxHeartbeats 4000000 in
set_option maxRecDepth 100000 in
theorem c_Pool_hangsOnItself {l : Launch} {D : va_G} {ca : Nat → ClassId} {hp : hp_T} {d : Nat} {po : Nat} {L : po_L} {S : po_S} (hS : po_At ca hp po L S) {b : Nat} {m0 : nm_T} (hb : hp b = some (.inr (0, nm_F m0))) {k w i0 : Nat} {v : kv_T} (hk : kx_At ca hp k w i0 v) : ma_V l D ca ma_T M_Pool_hangsOnItself (d + 4) 0 0 hp (ma_qi (ma_eq (bI (cl_hang S m0 v)) hp)) 0 (lv_args 0 [.ref po, .ref b, .ref k]) [] := by
  change ma_V l D ca ma_T M_Pool_hangsOnItself (d + 4) 0 0 hp (ma_qi (ma_eq (bI (cl_hang S m0 v)) hp)) 0 [(0, .ref po), (1, .ref b), (2, .ref k)] []
  refine rv_aload_n d_Pool_hangsOnItself_0 rfl 2 rfl ?_
  refine rv_aload_n d_Pool_hangsOnItself_1 rfl 1 rfl ?_
  refine rv_callV (kc' := 0) (ks' := 0) (kc1 := 0) (ks1 := 0) (As := [.ref b]) (rest := []) hk.1 rfl (ck_bears hk hb) ok_Keys_bears (wi_Pool_hangsOnItself _ (List.mem_of_getElem? (i := 0) rfl)) (wi_Pool_hangsOnItself _ (List.mem_of_getElem? (i := 1) rfl)) (wi_Pool_hangsOnItself _ (List.mem_of_getElem? (i := 2) rfl)) rfl rfl (Nat.le_of_ble_eq_true rfl) (Nat.le_of_ble_eq_true rfl) ⟨Nat.le_of_ble_eq_true rfl, Nat.le_of_ble_eq_true rfl⟩ d_Pool_hangsOnItself_2 (rv_kie ?_)
  refine rv_if_ne (tgt := 28) d_Pool_hangsOnItself_5 (by decide) (fun c_5 => ?_) (fun c_5 => ?_)
  · have e : cl_hang S m0 v = true := by simp [cl_hang, bI_n.mp c_5]
    refine rv_iconst (v := nI 1) d_Pool_hangsOnItself_28 (by decide) ?_
    refine rv_goto (tgt := 33) d_Pool_hangsOnItself_29 (by decide) ?_
    refine rv_eqi (y := bI (cl_hang S m0 v)) (by rw [e]; rfl) ?_
    exact rv_ireturn ⟨_, rfl, rfl, rfl⟩ d_Pool_hangsOnItself_33 rfl (bI_nar _)
  · refine rv_aload_n d_Pool_hangsOnItself_8 rfl 0 rfl ?_
    refine rv_aload_n d_Pool_hangsOnItself_9 rfl 0 rfl ?_
    refine rv_aload_n d_Pool_hangsOnItself_10 rfl 1 rfl ?_
    refine rv_callV (kc' := 0) (ks' := 0) (kc1 := 0) (ks1 := 0) (As := [.ref b]) (rest := [.ref po]) hS.1 rfl (c_Pool_spendersOf hS hb) ok_Pool_spendersOf (wi_Pool_hangsOnItself _ (List.mem_of_getElem? (i := 3) rfl)) (wi_Pool_hangsOnItself _ (List.mem_of_getElem? (i := 4) rfl)) (wi_Pool_hangsOnItself _ (List.mem_of_getElem? (i := 5) rfl)) rfl rfl (Nat.le_of_ble_eq_true rfl) (Nat.le_of_ble_eq_true rfl) ⟨Nat.le_of_ble_eq_true rfl, Nat.le_of_ble_eq_true rfl⟩ d_Pool_hangsOnItself_11 (rv_kle ?_)
    refine rv_callV (kc' := 0) (ks' := 0) (kc1 := 0) (ks1 := 0) (As := [.long (cl_spenders S m0)]) (rest := []) hS.1 rfl (c_Pool_family hS) ok_Pool_family (wi_Pool_hangsOnItself _ (List.mem_of_getElem? (i := 6) rfl)) (wi_Pool_hangsOnItself _ (List.mem_of_getElem? (i := 7) rfl)) (wi_Pool_hangsOnItself _ (List.mem_of_getElem? (i := 8) rfl)) rfl rfl (Nat.le_of_ble_eq_true rfl) (Nat.le_of_ble_eq_true rfl) ⟨Nat.le_of_ble_eq_true rfl, Nat.le_of_ble_eq_true rfl⟩ d_Pool_hangsOnItself_14 (rv_kle ?_)
    refine rv_aload_n d_Pool_hangsOnItself_17 rfl 0 rfl ?_
    refine rv_aload_n d_Pool_hangsOnItself_18 rfl 2 rfl ?_
    refine rv_callV (kc' := 0) (ks' := 0) (kc1 := 0) (ks1 := 0) (As := [.ref k]) (rest := [.long (cl_fam S (cl_spenders S m0))]) hS.1 rfl (c_Pool_named hS hk) ok_Pool_named (wi_Pool_hangsOnItself _ (List.mem_of_getElem? (i := 9) rfl)) (wi_Pool_hangsOnItself _ (List.mem_of_getElem? (i := 10) rfl)) (wi_Pool_hangsOnItself _ (List.mem_of_getElem? (i := 11) rfl)) rfl rfl (Nat.le_of_ble_eq_true rfl) (Nat.le_of_ble_eq_true rfl) ⟨Nat.le_of_ble_eq_true rfl, Nat.le_of_ble_eq_true rfl⟩ d_Pool_hangsOnItself_19 (rv_kle ?_)
    refine rv_land d_Pool_hangsOnItself_22 ?_
    refine rv_lconst (v := 0) d_Pool_hangsOnItself_23 (by decide) ?_
    refine rv_lcmp d_Pool_hangsOnItself_24 ?_
    refine rv_if_eq (tgt := 32) d_Pool_hangsOnItself_25 (by decide) (fun c_25 => ?_) (fun c_25 => ?_)
    · have e : cl_hang S m0 v = false := by simp [cl_hang, bI_0.mp c_5, lc_0.mp c_25]
      refine rv_iconst (v := nI 0) d_Pool_hangsOnItself_32 (by decide) ?_
      refine rv_eqi (y := bI (cl_hang S m0 v)) (by rw [e]; rfl) ?_
      exact rv_ireturn ⟨_, rfl, rfl, rfl⟩ d_Pool_hangsOnItself_33 rfl (bI_nar _)
    · have e : cl_hang S m0 v = true := by unfold cl_hang; rw [decide_eq_false (fun z => c_25 (lc_0.mpr z))]; simp
      refine rv_iconst (v := nI 1) d_Pool_hangsOnItself_28 (by decide) ?_
      refine rv_goto (tgt := 33) d_Pool_hangsOnItself_29 (by decide) ?_
      refine rv_eqi (y := bI (cl_hang S m0 v)) (by rw [e]; rfl) ?_
      exact rv_ireturn ⟨_, rfl, rfl, rfl⟩ d_Pool_hangsOnItself_33 rfl (bI_nar _)
set_option maxHeartbeats 4000000 in
set_option maxRecDepth 100000 in
theorem c_Pool_hindrance {l : Launch} {D : va_G} {ca : Nat → ClassId} {hp : hp_T} {d : Nat} {po : Nat} {L : po_L} {S : po_S} (hS : po_At ca hp po L S) {b : Nat} {m0 : nm_T} (hb : hp b = some (.inr (0, nm_F m0))) {k w i0 : Nat} {v : kv_T} (hk : kx_At ca hp k w i0 v) {x : Int32} : ma_V l D ca ma_T M_Pool_hindrance (d + 5) 0 0 hp (ma_qi (ma_eq (cl_hind S m0 v x) hp)) 0 (lv_args 0 [.ref po, .ref b, .ref k, .int x]) [] := by
  change ma_V l D ca ma_T M_Pool_hindrance (d + 5) 0 0 hp (ma_qi (ma_eq (cl_hind S m0 v x) hp)) 0 [(0, .ref po), (1, .ref b), (2, .ref k), (3, .int x)] []
  refine rv_aload_n d_Pool_hindrance_0 rfl 0 rfl ?_
  refine rv_aload_n d_Pool_hindrance_1 rfl 1 rfl ?_
  refine rv_callV (kc' := 0) (ks' := 0) (kc1 := 0) (ks1 := 0) (As := [.ref b]) (rest := []) hS.1 rfl (c_Pool_find hS hb) ok_Pool_find (wi_Pool_hindrance _ (List.mem_of_getElem? (i := 0) rfl)) (wi_Pool_hindrance _ (List.mem_of_getElem? (i := 1) rfl)) (wi_Pool_hindrance _ (List.mem_of_getElem? (i := 2) rfl)) rfl rfl (Nat.le_of_ble_eq_true rfl) (Nat.le_of_ble_eq_true rfl) ⟨Nat.le_of_ble_eq_true rfl, Nat.le_of_ble_eq_true rfl⟩ d_Pool_hindrance_2 (rv_kie ?_)
  refine rv_iconst (v := (-1)) d_Pool_hindrance_5 (by decide) ?_
  refine rv_icmp_eq (tgt := 11) d_Pool_hindrance_6 (by decide) (fun c_6 => ?_) (fun c_6 => ?_)
  · refine rv_aload_n d_Pool_hindrance_11 rfl 0 rfl ?_
    refine rv_aload_n d_Pool_hindrance_12 rfl 2 rfl ?_
    refine rv_callV (kc' := 0) (ks' := 0) (kc1 := 0) (ks1 := 0) (As := [.ref k]) (rest := []) hS.1 rfl (c_Pool_isSpent hS hk) ok_Pool_isSpent (wi_Pool_hindrance _ (List.mem_of_getElem? (i := 3) rfl)) (wi_Pool_hindrance _ (List.mem_of_getElem? (i := 4) rfl)) (wi_Pool_hindrance _ (List.mem_of_getElem? (i := 5) rfl)) rfl rfl (Nat.le_of_ble_eq_true rfl) (Nat.le_of_ble_eq_true rfl) ⟨Nat.le_of_ble_eq_true rfl, Nat.le_of_ble_eq_true rfl⟩ d_Pool_hindrance_13 (rv_kie ?_)
    refine rv_if_eq (tgt := 21) d_Pool_hindrance_16 (by decide) (fun c_16 => ?_) (fun c_16 => ?_)
    · refine rv_aload_n d_Pool_hindrance_21 rfl 0 rfl ?_
      refine rv_aload_n d_Pool_hindrance_22 rfl 1 rfl ?_
      refine rv_aload_n d_Pool_hindrance_23 rfl 2 rfl ?_
      refine rv_iload_n d_Pool_hindrance_24 rfl 3 rfl ?_
      refine rv_callV (kc' := 0) (ks' := 0) (kc1 := 0) (ks1 := 0) (As := [.ref b, .ref k, .int x]) (rest := []) hS.1 rfl (c_Pool_missesOutput hS hb hk) ok_Pool_missesOutput (wi_Pool_hindrance _ (List.mem_of_getElem? (i := 6) rfl)) (wi_Pool_hindrance _ (List.mem_of_getElem? (i := 7) rfl)) (wi_Pool_hindrance _ (List.mem_of_getElem? (i := 8) rfl)) rfl rfl (Nat.le_of_ble_eq_true rfl) (Nat.le_of_ble_eq_true rfl) ⟨Nat.le_of_ble_eq_true rfl, Nat.le_of_ble_eq_true rfl⟩ d_Pool_hindrance_25 (rv_kie ?_)
      refine rv_if_eq (tgt := 33) d_Pool_hindrance_28 (by decide) (fun c_28 => ?_) (fun c_28 => ?_)
      · refine rv_aload_n d_Pool_hindrance_33 rfl 0 rfl ?_
        refine rv_aload_n d_Pool_hindrance_34 rfl 1 rfl ?_
        refine rv_aload_n d_Pool_hindrance_35 rfl 2 rfl ?_
        refine rv_callV (kc' := 0) (ks' := 0) (kc1 := 0) (ks1 := 0) (As := [.ref b, .ref k]) (rest := []) hS.1 rfl (c_Pool_hangsOnItself hS hb hk) ok_Pool_hangsOnItself (wi_Pool_hindrance _ (List.mem_of_getElem? (i := 9) rfl)) (wi_Pool_hindrance _ (List.mem_of_getElem? (i := 10) rfl)) (wi_Pool_hindrance _ (List.mem_of_getElem? (i := 11) rfl)) rfl rfl (Nat.le_of_ble_eq_true rfl) (Nat.le_of_ble_eq_true rfl) ⟨Nat.le_of_ble_eq_true rfl, Nat.le_of_ble_eq_true rfl⟩ d_Pool_hindrance_36 (rv_kie ?_)
        refine rv_if_eq (tgt := 46) d_Pool_hindrance_39 (by decide) (fun c_39 => ?_) (fun c_39 => ?_)
        · have e : cl_hind S m0 v x = nI 0 := by simp [cl_hind, c_6, bI_0.mp c_16, bI_0.mp c_28, bI_0.mp c_39]
          refine rv_iconst (v := nI 0) d_Pool_hindrance_46 (by decide) ?_
          exact rv_ireturn ⟨_, rfl, e.symm, rfl⟩ d_Pool_hindrance_47 rfl rfl
        · have e : cl_hind S m0 v x = nI 4 := by simp [cl_hind, c_6, bI_0.mp c_16, bI_0.mp c_28, bI_n.mp c_39]
          refine rv_iconst (v := nI 4) d_Pool_hindrance_42 (by decide) ?_
          refine rv_goto (tgt := 47) d_Pool_hindrance_43 (by decide) ?_
          exact rv_ireturn ⟨_, rfl, e.symm, rfl⟩ d_Pool_hindrance_47 rfl rfl
      · have e : cl_hind S m0 v x = nI 3 := by simp [cl_hind, c_6, bI_0.mp c_16, bI_n.mp c_28]
        refine rv_iconst (v := nI 3) d_Pool_hindrance_31 (by decide) ?_
        exact rv_ireturn ⟨_, rfl, e.symm, rfl⟩ d_Pool_hindrance_32 rfl rfl
    · have e : cl_hind S m0 v x = nI 2 := by simp [cl_hind, c_6, bI_n.mp c_16]
      refine rv_iconst (v := nI 2) d_Pool_hindrance_19 (by decide) ?_
      exact rv_ireturn ⟨_, rfl, e.symm, rfl⟩ d_Pool_hindrance_20 rfl rfl
  · have e : cl_hind S m0 v x = nI 1 := by simp [cl_hind, c_6]
    refine rv_iconst (v := nI 1) d_Pool_hindrance_9 (by decide) ?_
    exact rv_ireturn ⟨_, rfl, e.symm, rfl⟩ d_Pool_hindrance_10 rfl rfl
set_option maxHeartbeats 4000000 in
set_option maxRecDepth 100000 in
theorem c_Row_word {l : Launch} {D : va_G} {ca : Nat → ClassId} {hp : hp_T} {d : Nat} {r w n : Nat} {f : Nat → Int64} {x y : Int32} (hr : hp r = some (.inr (4, [.ref w, .int (nI n)]))) (hw : hp w = some (.inl (ca 1, 164, .inr (.inl f)))) (hn : n ≤ 41) : ma_V l D ca ma_T M_Row_word d 0 0 hp (ma_ql (ma_eq (rw_word n f x y) hp)) 0 (lv_args 0 [.ref r, .int x, .int y]) [] := by
  change ma_V l D ca ma_T M_Row_word d 0 0 hp (ma_ql (ma_eq (rw_word n f x y) hp)) 0 [(0, .ref r), (1, .int x), (2, .int y)] []
  refine rv_iload_n d_Row_word_0 rfl 1 rfl ?_
  refine rv_if_lt (tgt := 21) d_Row_word_1 (by decide) (fun c_1 => ?_) (fun c_1 => ?_)
  · have e : rw_word n f x y = 0 := if_pos (Or.inl c_1)
    refine rv_lconst (v := 0) d_Row_word_21 (by decide) ?_
    exact rv_lreturn ⟨_, rfl, e.symm, rfl⟩ d_Row_word_22 rfl
  · refine rv_iload_n d_Row_word_4 rfl 1 rfl ?_
    refine rv_aload_n d_Row_word_5 rfl 0 rfl ?_
    refine rv_get ka_Row hr rfl 1 (by decide) (wi_Row_word _ (List.mem_of_getElem? (i := 0) rfl)) rfl d_Row_word_6 ?_
    refine rv_icmp_ge (tgt := 21) d_Row_word_9 (by decide) (fun c_9 => ?_) (fun c_9 => ?_)
    · have e : rw_word n f x y = 0 := if_pos (Or.inr (Or.inl c_9))
      refine rv_lconst (v := 0) d_Row_word_21 (by decide) ?_
      exact rv_lreturn ⟨_, rfl, e.symm, rfl⟩ d_Row_word_22 rfl
    · refine rv_iload_n d_Row_word_12 rfl 2 rfl ?_
      refine rv_if_lt (tgt := 21) d_Row_word_13 (by decide) (fun c_13 => ?_) (fun c_13 => ?_)
      · have e : rw_word n f x y = 0 := if_pos (Or.inr (Or.inr (Or.inl c_13)))
        refine rv_lconst (v := 0) d_Row_word_21 (by decide) ?_
        exact rv_lreturn ⟨_, rfl, e.symm, rfl⟩ d_Row_word_22 rfl
      · refine rv_iload_n d_Row_word_16 rfl 2 rfl ?_
        refine rv_iconst (v := nI 4) d_Row_word_17 (by decide) ?_
        refine rv_icmp_lt (tgt := 23) d_Row_word_18 (by decide) (fun c_18 => ?_) (fun c_18 => ?_)
        · have e : rw_word n f x y = f (x.toNatClampNeg * 4 + y.toNatClampNeg) := if_neg (by rintro (z | z | z | z); exact c_1 z; exact c_9 z; exact c_13 z; exact absurd c_18 (Int32.not_lt.mpr z))
          obtain ⟨j, hj, rfl⟩ := ix_of (by omega) c_1 c_9
          obtain ⟨q, hq, rfl⟩ := ix_of (by decide) c_13 (Int32.not_le.mpr c_18)
          rw [nI_clamp (by omega), nI_clamp (by omega)] at e
          refine rv_aload_n d_Row_word_23 rfl 0 rfl ?_
          refine rv_get ka_Row hr rfl 0 (by decide) (wi_Row_word _ (List.mem_of_getElem? (i := 1) rfl)) rfl d_Row_word_24 ?_
          refine rv_iload_n d_Row_word_27 rfl 1 rfl ?_
          refine rv_iconst (v := nI 4) d_Row_word_28 (by decide) ?_
          refine rv_imul d_Row_word_29 ?_
          refine rv_eqi (pk_mul _ _) ?_
          refine rv_iload_n d_Row_word_30 rfl 2 rfl ?_
          refine rv_iadd d_Row_word_31 ?_
          refine rv_eqi (nI_add _ _) ?_
          refine rv_lald hw 1 rfl (by omega) (by decide) d_Row_word_32 ?_
          exact rv_lreturn ⟨_, rfl, e.symm, rfl⟩ d_Row_word_33 rfl
        · have e : rw_word n f x y = 0 := if_pos (Or.inr (Or.inr (Or.inr (Int32.not_lt.mp c_18))))
          refine rv_lconst (v := 0) d_Row_word_21 (by decide) ?_
          exact rv_lreturn ⟨_, rfl, e.symm, rfl⟩ d_Row_word_22 rfl
