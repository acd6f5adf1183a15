def wl_Desk_name : List Cond := [.fieldLink "PoolDesk" 12 "PoolDesk" "hand" "LPoolDesk$Name;", .methodLink "PoolDesk" 37 y_Name_set, .instanceMethod y_Name_set, .selects "PoolDesk$Name" y_Name_set y_Name_set]
theorem wi_Desk_name : ∀ w ∈ wl_Desk_name, w ∈ ma_tbl := by decide +kernel
def wl_Desk_spend : List Cond := [.fieldLink "PoolDesk" 19 "PoolDesk" "told" "LPoolDesk$Keys;", .fieldLink "PoolDesk" 12 "PoolDesk" "hand" "LPoolDesk$Name;", .methodLink "PoolDesk" 41 y_Keys_add, .instanceMethod y_Keys_add, .selects "PoolDesk$Keys" y_Keys_add y_Keys_add]
theorem wi_Desk_spend : ∀ w ∈ wl_Desk_spend, w ∈ ma_tbl := by decide +kernel
def wl_Desk_removeFamily : List Cond := [.fieldLink "PoolDesk" 26 "PoolDesk" "pool" "LPoolDesk$Pool;", .methodLink "PoolDesk" 68 y_Desk_bit, .static y_Desk_bit, .methodLink "PoolDesk" 117 y_Pool_family, .instanceMethod y_Pool_family, .selects "PoolDesk$Pool" y_Pool_family y_Pool_family, .methodLink "PoolDesk" 72 y_Pool_remove, .instanceMethod y_Pool_remove, .selects "PoolDesk$Pool" y_Pool_remove y_Pool_remove, .methodLink "PoolDesk" 108 y_Long_bitCount, .static y_Long_bitCount]
theorem wi_Desk_removeFamily : ∀ w ∈ wl_Desk_removeFamily, w ∈ ma_tbl := by decide +kernel
def wl_Desk_drop : List Cond := [.fieldLink "PoolDesk" 26 "PoolDesk" "pool" "LPoolDesk$Pool;", .fieldLink "PoolDesk" 12 "PoolDesk" "hand" "LPoolDesk$Name;", .methodLink "PoolDesk" 64 y_Pool_find, .instanceMethod y_Pool_find, .selects "PoolDesk$Pool" y_Pool_find y_Pool_find, .methodLink "PoolDesk" 76 y_Desk_removeFamily, .instanceMethod y_Desk_removeFamily, .selects "PoolDesk" y_Desk_removeFamily y_Desk_removeFamily]
theorem wi_Desk_drop : ∀ w ∈ wl_Desk_drop, w ∈ ma_tbl := by decide +kernel
def wl_Desk_strike : List Cond := [.fieldLink "PoolDesk" 26 "PoolDesk" "pool" "LPoolDesk$Pool;", .fieldLink "PoolDesk" 12 "PoolDesk" "hand" "LPoolDesk$Name;", .methodLink "PoolDesk" 80 y_Pool_findSpender, .instanceMethod y_Pool_findSpender, .selects "PoolDesk$Pool" y_Pool_findSpender y_Pool_findSpender, .methodLink "PoolDesk" 76 y_Desk_removeFamily, .instanceMethod y_Desk_removeFamily, .selects "PoolDesk" y_Desk_removeFamily y_Desk_removeFamily]
theorem wi_Desk_strike : ∀ w ∈ wl_Desk_strike, w ∈ ma_tbl := by decide +kernel
def wl_Desk_take : List Cond := [.fieldLink "PoolDesk" 26 "PoolDesk" "pool" "LPoolDesk$Pool;", .fieldLink "PoolDesk" 12 "PoolDesk" "hand" "LPoolDesk$Name;", .methodLink "PoolDesk" 64 y_Pool_find, .instanceMethod y_Pool_find, .selects "PoolDesk$Pool" y_Pool_find y_Pool_find, .methodLink "PoolDesk" 68 y_Desk_bit, .static y_Desk_bit, .methodLink "PoolDesk" 72 y_Pool_remove, .instanceMethod y_Pool_remove, .selects "PoolDesk$Pool" y_Pool_remove y_Pool_remove]
theorem wi_Desk_take : ∀ w ∈ wl_Desk_take, w ∈ ma_tbl := by decide +kernel
def wl_Desk_count : List Cond := [.fieldLink "PoolDesk" 26 "PoolDesk" "pool" "LPoolDesk$Pool;", .fieldLink "PoolDesk" 148 "PoolDesk$Pool" "present" "J", .methodLink "PoolDesk" 108 y_Long_bitCount, .static y_Long_bitCount, .methodLink "PoolDesk" 151 y_Pool_sumOfKeys, .instanceMethod y_Pool_sumOfKeys, .selects "PoolDesk$Pool" y_Pool_sumOfKeys y_Pool_sumOfKeys, .methodLink "PoolDesk" 124 y_Pool_sumOfSizes, .instanceMethod y_Pool_sumOfSizes, .selects "PoolDesk$Pool" y_Pool_sumOfSizes y_Pool_sumOfSizes, .fieldLink "PoolDesk" 19 "PoolDesk" "told" "LPoolDesk$Keys;", .fieldLink "PoolDesk" 45 "PoolDesk$Keys" "held" "I", .fieldLink "PoolDesk" 155 "PoolDesk$Pool" "came" "I"]
theorem wi_Desk_count : ∀ w ∈ wl_Desk_count, w ∈ ma_tbl := by decide +kernel
def wl_Desk_fees : List Cond := [.fieldLink "PoolDesk" 26 "PoolDesk" "pool" "LPoolDesk$Pool;", .fieldLink "PoolDesk" 148 "PoolDesk$Pool" "present" "J", .methodLink "PoolDesk" 121 y_Pool_sumOfFees, .instanceMethod y_Pool_sumOfFees, .selects "PoolDesk$Pool" y_Pool_sumOfFees y_Pool_sumOfFees]
theorem wi_Desk_fees : ∀ w ∈ wl_Desk_fees, w ∈ ma_tbl := by decide +kernel
def wl_Desk_row : List Cond := [.fieldLink "PoolDesk" 33 "PoolDesk" "block" "LPoolDesk$Row;", .methodLink "PoolDesk" 144 y_Row_word, .instanceMethod y_Row_word, .selects "PoolDesk$Row" y_Row_word y_Row_word]
theorem wi_Desk_row : ∀ w ∈ wl_Desk_row, w ∈ ma_tbl := by decide +kernel
def wl_Desk_look : List Cond := [.fieldLink "PoolDesk" 26 "PoolDesk" "pool" "LPoolDesk$Pool;", .fieldLink "PoolDesk" 12 "PoolDesk" "hand" "LPoolDesk$Name;", .methodLink "PoolDesk" 64 y_Pool_find, .instanceMethod y_Pool_find, .selects "PoolDesk$Pool" y_Pool_find y_Pool_find, .constantLong "PoolDesk" 84 (-1), .fieldLink "PoolDesk" 86 "PoolDesk$Pool" "places" "[LPoolDesk$Transaction;", .fieldLink "PoolDesk" 90 "PoolDesk$Transaction" "fee" "J", .fieldLink "PoolDesk" 96 "PoolDesk$Transaction" "size" "I", .fieldLink "PoolDesk" 99 "PoolDesk$Transaction" "outputs" "I", .fieldLink "PoolDesk" 102 "PoolDesk$Transaction" "keys" "LPoolDesk$Keys;", .fieldLink "PoolDesk" 45 "PoolDesk$Keys" "held" "I", .fieldLink "PoolDesk" 105 "PoolDesk$Transaction" "parents" "J", .methodLink "PoolDesk" 108 y_Long_bitCount, .static y_Long_bitCount, .fieldLink "PoolDesk" 114 "PoolDesk$Transaction" "children" "J", .methodLink "PoolDesk" 68 y_Desk_bit, .static y_Desk_bit, .methodLink "PoolDesk" 117 y_Pool_family, .instanceMethod y_Pool_family, .selects "PoolDesk$Pool" y_Pool_family y_Pool_family, .methodLink "PoolDesk" 121 y_Pool_sumOfFees, .instanceMethod y_Pool_sumOfFees, .selects "PoolDesk$Pool" y_Pool_sumOfFees y_Pool_sumOfFees, .methodLink "PoolDesk" 124 y_Pool_sumOfSizes, .instanceMethod y_Pool_sumOfSizes, .selects "PoolDesk$Pool" y_Pool_sumOfSizes y_Pool_sumOfSizes, .fieldLink "PoolDesk" 127 "PoolDesk$Transaction" "coming" "I"]
theorem wi_Desk_look : ∀ w ∈ wl_Desk_look, w ∈ ma_tbl := by decide +kernel
set_option maxHeartbeats 1000000 in
set_option maxRecDepth 100000 in
theorem c_Desk_name {l : Launch} {D : va_G} {ca : Nat → ClassId} {hp : hp_T} {d : Nat} {L : dk_L} {S : dk_S} (hD : dk_At ca hp L S) (hO : dk_ok L) {m : nm_T} : ma_V l D ca ma_T M_Desk_name (d + 1) 0 0 hp (ma_qv (fun hp1 => dk_At ca hp1 L (m, S.2) ∧ dk_out L hp hp1)) 0 (lv_args 0 [.ref (dk_x L), .long m.1, .long m.2.1, .long m.2.2.1, .long m.2.2.2]) [] := by
  change ma_V l D ca ma_T M_Desk_name (d + 1) 0 0 hp (ma_qv (fun hp1 => dk_At ca hp1 L (m, S.2) ∧ dk_out L hp hp1)) 0 [(0, .ref (dk_x L)), (1, .long m.1), (3, .long m.2.1), (5, .long m.2.2.1), (7, .long m.2.2.2)] []
  refine rv_aload_n d_Desk_name_0 rfl 0 rfl ?_
  refine rv_get ka_Desk hD.1 rfl 0 (by decide) (wi_Desk_name _ (List.mem_of_getElem? (i := 0) rfl)) rfl d_Desk_name_1 ?_
  refine rv_lload_n d_Desk_name_4 rfl 1 rfl ?_
  refine rv_lload_n d_Desk_name_5 rfl 2 rfl ?_
  refine rv_lload d_Desk_name_6 3 rfl ?_
  refine rv_lload d_Desk_name_8 4 rfl ?_
  refine rv_callV (kc' := 0) (ks' := 0) (kc1 := 0) (ks1 := 0) (As := [.long m.1, .long m.2.1, .long m.2.2.1, .long m.2.2.2]) (rest := []) hD.2.1 rfl (c_Name_set (m := m) hD.2.1) ok_Name_set (wi_Desk_name _ (List.mem_of_getElem? (i := 1) rfl)) (wi_Desk_name _ (List.mem_of_getElem? (i := 2) rfl)) (wi_Desk_name _ (List.mem_of_getElem? (i := 3) rfl)) rfl rfl (Nat.le_of_ble_eq_true rfl) (Nat.le_of_ble_eq_true rfl) ⟨Nat.le_of_ble_eq_true rfl, Nat.le_of_ble_eq_true rfl⟩ d_Desk_name_10 (rv_kv (fun hp64 ehp64 => ?_))
  exact rv_vreturn ⟨rfl, by rw [ehp64]; exact dk_setN hD hO m, by rw [ehp64]; exact dk_out_up (Or.inr (Or.inl rfl))⟩ d_Desk_name_13 rfl
set_option maxHeartbeats 1000000 in
set_option maxRecDepth 100000 in
theorem c_Desk_spend {l : Launch} {D : va_G} {ca : Nat → ClassId} {hp : hp_T} {d : Nat} {L : dk_L} {S : dk_S} (hD : dk_At ca hp L S) (hO : dk_ok L) {x : Int32} : ma_V l D ca ma_T M_Desk_spend (d + 3) 0 0 hp (ma_qi (fun r hp1 => r = bI (kv_may S.2.1 S.1 x) ∧ dk_At ca hp1 L (S.1, (if kv_may S.2.1 S.1 x = true then kv_add S.2.1 S.1 x else S.2.1), S.2.2) ∧ dk_out L hp hp1)) 0 (lv_args 0 [.ref (dk_x L), .int x]) [] := by
  change ma_V l D ca ma_T M_Desk_spend (d + 3) 0 0 hp (ma_qi (fun r hp1 => r = bI (kv_may S.2.1 S.1 x) ∧ dk_At ca hp1 L (S.1, (if kv_may S.2.1 S.1 x = true then kv_add S.2.1 S.1 x else S.2.1), S.2.2) ∧ dk_out L hp hp1)) 0 [(0, .ref (dk_x L)), (1, .int x)] []
  refine rv_aload_n d_Desk_spend_0 rfl 0 rfl ?_
  refine rv_get ka_Desk hD.1 rfl 1 (by decide) (wi_Desk_spend _ (List.mem_of_getElem? (i := 0) rfl)) rfl d_Desk_spend_1 ?_
  refine rv_aload_n d_Desk_spend_4 rfl 0 rfl ?_
  refine rv_get ka_Desk hD.1 rfl 0 (by decide) (wi_Desk_spend _ (List.mem_of_getElem? (i := 1) rfl)) rfl d_Desk_spend_5 ?_
  refine rv_iload_n d_Desk_spend_8 rfl 1 rfl ?_
  refine rv_callV (kc' := 0) (ks' := 0) (kc1 := 0) (ks1 := 0) (As := [.ref (dk_n L), .int x]) (rest := []) hD.2.2.1.1 rfl (c_Keys_add hD.2.2.1 hD.2.1) ok_Keys_add (wi_Desk_spend _ (List.mem_of_getElem? (i := 2) rfl)) (wi_Desk_spend _ (List.mem_of_getElem? (i := 3) rfl)) (wi_Desk_spend _ (List.mem_of_getElem? (i := 4) rfl)) rfl rfl (Nat.le_of_ble_eq_true rfl) (Nat.le_of_ble_eq_true rfl) ⟨Nat.le_of_ble_eq_true rfl, Nat.le_of_ble_eq_true rfl⟩ d_Desk_spend_9 (rv_kie ?_)
  by_cases e : kv_may S.2.1 S.1 x = true
  · rw [if_pos e]
    have h8 : S.2.1.1 < 8 := of_decide_eq_true (Bool.and_eq_true _ _ |>.mp e).1
    refine rv_ireturn ⟨_, rfl, rfl, ?_, dk_outK⟩ d_Desk_spend_12 rfl (bI_nar _)
    rw [if_pos e]
    exact dk_setK hD hO (v := kv_add S.2.1 S.1 x) h8
  · rw [if_neg e]
    refine rv_ireturn ⟨_, rfl, rfl, ?_, dk_out_rf⟩ d_Desk_spend_12 rfl (bI_nar _)
    rw [if_neg e]
    exact hD
set_option maxHeartbeats 1000000 in
set_option maxRecDepth 100000 in
theorem c_Desk_removeFamily {l : Launch} {D : va_G} {ca : Nat → ClassId} {hp : hp_T} {d : Nat} {L : dk_L} {S : dk_S} (hD : dk_At ca hp L S) (hO : dk_ok L) {o : Option Nat} (ho : ∀ p, o = some p → p < 41) : ma_V l D ca ma_T M_Desk_removeFamily (d + 3) 0 0 hp (ma_qi (fun r hp1 => r = (ds_rmf S.2.2.1 o).1 ∧ dk_At ca hp1 L (S.1, S.2.1, (ds_rmf S.2.2.1 o).2, S.2.2.2) ∧ dk_out L hp hp1)) 0 (lv_args 0 [.ref (dk_x L), .int (ob_i o)]) [] := by
  cases o with
  | none =>
    change ma_V l D ca ma_T M_Desk_removeFamily (d + 3) 0 0 hp (ma_qi (fun r hp1 => r = (ds_rmf S.2.2.1 (none)).1 ∧ dk_At ca hp1 L (S.1, S.2.1, (ds_rmf S.2.2.1 (none)).2, S.2.2.2) ∧ dk_out L hp hp1)) 0 [(0, .ref (dk_x L)), (1, .int (-1))] []
    refine rv_iload_n d_Desk_removeFamily_0 rfl 1 rfl ?_
    refine rv_iconst (v := (-1)) d_Desk_removeFamily_1 (by decide) ?_
    refine rv_icmp_ne (tgt := 7) d_Desk_removeFamily_2 (by decide) (fun c_2 => ?_) (fun c_2 => ?_)
    · exact absurd rfl c_2
    · refine rv_iconst (v := nI 0) d_Desk_removeFamily_5 (by decide) ?_
      exact rv_ireturn ⟨_, rfl, rfl, hD, dk_out_rf⟩ d_Desk_removeFamily_6 rfl rfl
  | some p =>
    change ma_V l D ca ma_T M_Desk_removeFamily (d + 3) 0 0 hp (ma_qi (fun r hp1 => r = (ds_rmf S.2.2.1 (some p)).1 ∧ dk_At ca hp1 L (S.1, S.2.1, (ds_rmf S.2.2.1 (some p)).2, S.2.2.2) ∧ dk_out L hp hp1)) 0 [(0, .ref (dk_x L)), (1, .int (nI p))] []
    have hp0 : p < 41 := ho p rfl
    refine rv_iload_n d_Desk_removeFamily_0 rfl 1 rfl ?_
    refine rv_iconst (v := (-1)) d_Desk_removeFamily_1 (by decide) ?_
    refine rv_icmp_ne (tgt := 7) d_Desk_removeFamily_2 (by decide) (fun c_2 => ?_) (fun c_2 => ?_)
    · refine rv_aload_n d_Desk_removeFamily_7 rfl 0 rfl ?_
      refine rv_get ka_Desk hD.1 rfl 2 (by decide) (wi_Desk_removeFamily _ (List.mem_of_getElem? (i := 0) rfl)) rfl d_Desk_removeFamily_8 ?_
      refine rv_iload_n d_Desk_removeFamily_11 rfl 1 rfl ?_
      refine rv_callS (kc' := 0) (ks' := 0) (kc1 := 0) (ks1 := 0) (As := [.int (nI p)]) (rest := [.ref (dk_p L)]) (c_Desk_bit) ok_Desk_bit (wi_Desk_removeFamily _ (List.mem_of_getElem? (i := 1) rfl)) (wi_Desk_removeFamily _ (List.mem_of_getElem? (i := 2) rfl)) rfl rfl (Nat.le_of_ble_eq_true rfl) (Nat.le_of_ble_eq_true rfl) ⟨Nat.le_of_ble_eq_true rfl, Nat.le_of_ble_eq_true rfl⟩ d_Desk_removeFamily_12 (rv_kle ?_)
      refine rv_callV (kc' := 0) (ks' := 0) (kc1 := 0) (ks1 := 0) (As := [.long (bz_b p)]) (rest := []) hD.2.2.2.1.1 rfl (c_Pool_family hD.2.2.2.1) ok_Pool_family (wi_Desk_removeFamily _ (List.mem_of_getElem? (i := 3) rfl)) (wi_Desk_removeFamily _ (List.mem_of_getElem? (i := 4) rfl)) (wi_Desk_removeFamily _ (List.mem_of_getElem? (i := 5) rfl)) rfl rfl (Nat.le_of_ble_eq_true rfl) (Nat.le_of_ble_eq_true rfl) ⟨Nat.le_of_ble_eq_true rfl, Nat.le_of_ble_eq_true rfl⟩ d_Desk_removeFamily_15 (rv_kle ?_)
      refine rv_lstore_n (lv' := [(2, .long (cl_fam S.2.2.1 (bz_b p))), (0, .ref (dk_x L)), (1, .int (nI p))]) d_Desk_removeFamily_18 rfl (by decide) rfl ?_
      refine rv_aload_n d_Desk_removeFamily_19 rfl 1 rfl ?_
      refine rv_get ka_Desk hD.1 rfl 2 (by decide) (wi_Desk_removeFamily _ (List.mem_of_getElem? (i := 0) rfl)) rfl d_Desk_removeFamily_20 ?_
      refine rv_lload_n d_Desk_removeFamily_23 rfl 0 rfl ?_
      refine rv_callV (kc' := 0) (ks' := 0) (kc1 := 0) (ks1 := 0) (As := [.long (cl_fam S.2.2.1 (bz_b p))]) (rest := []) hD.2.2.2.1.1 rfl (c_Pool_remove hD.2.2.2.1 hO.1) ok_Pool_remove (wi_Desk_removeFamily _ (List.mem_of_getElem? (i := 6) rfl)) (wi_Desk_removeFamily _ (List.mem_of_getElem? (i := 7) rfl)) (wi_Desk_removeFamily _ (List.mem_of_getElem? (i := 8) rfl)) rfl rfl (Nat.le_of_ble_eq_true rfl) (Nat.le_of_ble_eq_true rfl) ⟨Nat.le_of_ble_eq_true rfl, Nat.le_of_ble_eq_true rfl⟩ d_Desk_removeFamily_24 (rv_kv (fun hp65 ehp65 => ?_))
      obtain ⟨hP1, ho1⟩ := ehp65
      refine rv_lload_n d_Desk_removeFamily_27 rfl 0 rfl ?_
      refine rv_callS (kc' := 0) (ks' := 0) (kc1 := 0) (ks1 := 0) (As := [.long (cl_fam S.2.2.1 (bz_b p))]) (rest := []) (c_Long_bitCount) ok_Long_bitCount (wi_Desk_removeFamily _ (List.mem_of_getElem? (i := 9) rfl)) (wi_Desk_removeFamily _ (List.mem_of_getElem? (i := 10) rfl)) rfl rfl (Nat.le_of_ble_eq_true rfl) (Nat.le_of_ble_eq_true rfl) ⟨Nat.le_of_ble_eq_true rfl, Nat.le_of_ble_eq_true rfl⟩ d_Desk_removeFamily_28 (rv_kie ?_)
      exact rv_ireturn ⟨_, rfl, rfl, dk_setP hD hO hP1 ho1, dk_out_po ho1⟩ d_Desk_removeFamily_31 rfl rfl
    · exact absurd c_2 (nI_m1 (by omega))
set_option maxHeartbeats 1000000 in
set_option maxRecDepth 100000 in
theorem c_Desk_drop {l : Launch} {D : va_G} {ca : Nat → ClassId} {hp : hp_T} {d : Nat} {L : dk_L} {S : dk_S} (hD : dk_At ca hp L S) (hO : dk_ok L) : ma_V l D ca ma_T M_Desk_drop (d + 4) 0 0 hp (ma_qi (fun r hp1 => r = (ds_rmf S.2.2.1 (cl_findo S.2.2.1 S.1)).1 ∧ dk_At ca hp1 L (S.1, S.2.1, (ds_rmf S.2.2.1 (cl_findo S.2.2.1 S.1)).2, S.2.2.2) ∧ dk_out L hp hp1)) 0 (lv_args 0 [.ref (dk_x L)]) [] := by
  change ma_V l D ca ma_T M_Desk_drop (d + 4) 0 0 hp (ma_qi (fun r hp1 => r = (ds_rmf S.2.2.1 (cl_findo S.2.2.1 S.1)).1 ∧ dk_At ca hp1 L (S.1, S.2.1, (ds_rmf S.2.2.1 (cl_findo S.2.2.1 S.1)).2, S.2.2.2) ∧ dk_out L hp hp1)) 0 [(0, .ref (dk_x L))] []
  refine rv_aload_n d_Desk_drop_0 rfl 0 rfl ?_
  refine rv_aload_n d_Desk_drop_1 rfl 0 rfl ?_
  refine rv_get ka_Desk hD.1 rfl 2 (by decide) (wi_Desk_drop _ (List.mem_of_getElem? (i := 0) rfl)) rfl d_Desk_drop_2 ?_
  refine rv_aload_n d_Desk_drop_5 rfl 0 rfl ?_
  refine rv_get ka_Desk hD.1 rfl 0 (by decide) (wi_Desk_drop _ (List.mem_of_getElem? (i := 1) rfl)) rfl d_Desk_drop_6 ?_
  refine rv_callV (kc' := 0) (ks' := 0) (kc1 := 0) (ks1 := 0) (As := [.ref (dk_n L)]) (rest := [.ref (dk_x L)]) hD.2.2.2.1.1 rfl (c_Pool_find hD.2.2.2.1 hD.2.1) ok_Pool_find (wi_Desk_drop _ (List.mem_of_getElem? (i := 2) rfl)) (wi_Desk_drop _ (List.mem_of_getElem? (i := 3) rfl)) (wi_Desk_drop _ (List.mem_of_getElem? (i := 4) rfl)) rfl rfl (Nat.le_of_ble_eq_true rfl) (Nat.le_of_ble_eq_true rfl) ⟨Nat.le_of_ble_eq_true rfl, Nat.le_of_ble_eq_true rfl⟩ d_Desk_drop_9 (rv_kie ?_)
  refine rv_eqi (y := ob_i (cl_findo S.2.2.1 S.1)) (cl_find_o _ _) ?_
  refine rv_callV (kc' := 0) (ks' := 0) (kc1 := 0) (ks1 := 0) (As := [.int (ob_i (cl_findo S.2.2.1 S.1))]) (rest := []) hD.1 rfl (c_Desk_removeFamily hD hO (o := cl_findo S.2.2.1 S.1) (fun p h => cl_findo_lt h)) ok_Desk_removeFamily (wi_Desk_drop _ (List.mem_of_getElem? (i := 5) rfl)) (wi_Desk_drop _ (List.mem_of_getElem? (i := 6) rfl)) (wi_Desk_drop _ (List.mem_of_getElem? (i := 7) rfl)) rfl rfl (Nat.le_of_ble_eq_true rfl) (Nat.le_of_ble_eq_true rfl) ⟨Nat.le_of_ble_eq_true rfl, Nat.le_of_ble_eq_true rfl⟩ d_Desk_drop_12 (rv_ki (fun r66 hp66 ehp66 => ?_))
  exact rv_ireturn ⟨_, rfl, ehp66⟩ d_Desk_drop_15 rfl rfl
set_option maxHeartbeats 1000000 in
set_option maxRecDepth 100000 in
theorem c_Desk_strike {l : Launch} {D : va_G} {ca : Nat → ClassId} {hp : hp_T} {d : Nat} {L : dk_L} {S : dk_S} (hD : dk_At ca hp L S) (hO : dk_ok L) {x : Int32} : ma_V l D ca ma_T M_Desk_strike (d + 4) 0 0 hp (ma_qi (fun r hp1 => r = (ds_rmf S.2.2.1 (cl_spendero S.2.2.1 S.1 x)).1 ∧ dk_At ca hp1 L (S.1, S.2.1, (ds_rmf S.2.2.1 (cl_spendero S.2.2.1 S.1 x)).2, S.2.2.2) ∧ dk_out L hp hp1)) 0 (lv_args 0 [.ref (dk_x L), .int x]) [] := by
  change ma_V l D ca ma_T M_Desk_strike (d + 4) 0 0 hp (ma_qi (fun r hp1 => r = (ds_rmf S.2.2.1 (cl_spendero S.2.2.1 S.1 x)).1 ∧ dk_At ca hp1 L (S.1, S.2.1, (ds_rmf S.2.2.1 (cl_spendero S.2.2.1 S.1 x)).2, S.2.2.2) ∧ dk_out L hp hp1)) 0 [(0, .ref (dk_x L)), (1, .int x)] []
  refine rv_aload_n d_Desk_strike_0 rfl 0 rfl ?_
  refine rv_aload_n d_Desk_strike_1 rfl 0 rfl ?_
  refine rv_get ka_Desk hD.1 rfl 2 (by decide) (wi_Desk_strike _ (List.mem_of_getElem? (i := 0) rfl)) rfl d_Desk_strike_2 ?_
  refine rv_aload_n d_Desk_strike_5 rfl 0 rfl ?_
  refine rv_get ka_Desk hD.1 rfl 0 (by decide) (wi_Desk_strike _ (List.mem_of_getElem? (i := 1) rfl)) rfl d_Desk_strike_6 ?_
  refine rv_iload_n d_Desk_strike_9 rfl 1 rfl ?_
  refine rv_callV (kc' := 0) (ks' := 0) (kc1 := 0) (ks1 := 0) (As := [.ref (dk_n L), .int x]) (rest := [.ref (dk_x L)]) hD.2.2.2.1.1 rfl (c_Pool_findSpender hD.2.2.2.1 hD.2.1) ok_Pool_findSpender (wi_Desk_strike _ (List.mem_of_getElem? (i := 2) rfl)) (wi_Desk_strike _ (List.mem_of_getElem? (i := 3) rfl)) (wi_Desk_strike _ (List.mem_of_getElem? (i := 4) rfl)) rfl rfl (Nat.le_of_ble_eq_true rfl) (Nat.le_of_ble_eq_true rfl) ⟨Nat.le_of_ble_eq_true rfl, Nat.le_of_ble_eq_true rfl⟩ d_Desk_strike_10 (rv_kie ?_)
  refine rv_eqi (y := ob_i (cl_spendero S.2.2.1 S.1 x)) (cl_spender_o _ _ _) ?_
  refine rv_callV (kc' := 0) (ks' := 0) (kc1 := 0) (ks1 := 0) (As := [.int (ob_i (cl_spendero S.2.2.1 S.1 x))]) (rest := []) hD.1 rfl (c_Desk_removeFamily hD hO (o := cl_spendero S.2.2.1 S.1 x) (fun p h => cl_spendero_lt h)) ok_Desk_removeFamily (wi_Desk_strike _ (List.mem_of_getElem? (i := 5) rfl)) (wi_Desk_strike _ (List.mem_of_getElem? (i := 6) rfl)) (wi_Desk_strike _ (List.mem_of_getElem? (i := 7) rfl)) rfl rfl (Nat.le_of_ble_eq_true rfl) (Nat.le_of_ble_eq_true rfl) ⟨Nat.le_of_ble_eq_true rfl, Nat.le_of_ble_eq_true rfl⟩ d_Desk_strike_13 (rv_ki (fun r67 hp67 ehp67 => ?_))
  exact rv_ireturn ⟨_, rfl, ehp67⟩ d_Desk_strike_16 rfl rfl
set_option maxHeartbeats 1000000 in
set_option maxRecDepth 100000 in
theorem c_Desk_take {l : Launch} {D : va_G} {ca : Nat → ClassId} {hp : hp_T} {d : Nat} {L : dk_L} {S : dk_S} (hD : dk_At ca hp L S) (hO : dk_ok L) : ma_V l D ca ma_T M_Desk_take (d + 3) 0 0 hp (ma_qi (fun r hp1 => r = (ds_take S.2.2.1 (cl_findo S.2.2.1 S.1)).1 ∧ dk_At ca hp1 L (S.1, S.2.1, (ds_take S.2.2.1 (cl_findo S.2.2.1 S.1)).2, S.2.2.2) ∧ dk_out L hp hp1)) 0 (lv_args 0 [.ref (dk_x L)]) [] := by
  change ma_V l D ca ma_T M_Desk_take (d + 3) 0 0 hp (ma_qi (fun r hp1 => r = (ds_take S.2.2.1 (cl_findo S.2.2.1 S.1)).1 ∧ dk_At ca hp1 L (S.1, S.2.1, (ds_take S.2.2.1 (cl_findo S.2.2.1 S.1)).2, S.2.2.2) ∧ dk_out L hp hp1)) 0 [(0, .ref (dk_x L))] []
  refine rv_aload_n d_Desk_take_0 rfl 0 rfl ?_
  refine rv_get ka_Desk hD.1 rfl 2 (by decide) (wi_Desk_take _ (List.mem_of_getElem? (i := 0) rfl)) rfl d_Desk_take_1 ?_
  refine rv_aload_n d_Desk_take_4 rfl 0 rfl ?_
  refine rv_get ka_Desk hD.1 rfl 0 (by decide) (wi_Desk_take _ (List.mem_of_getElem? (i := 1) rfl)) rfl d_Desk_take_5 ?_
  refine rv_callV (kc' := 0) (ks' := 0) (kc1 := 0) (ks1 := 0) (As := [.ref (dk_n L)]) (rest := []) hD.2.2.2.1.1 rfl (c_Pool_find hD.2.2.2.1 hD.2.1) ok_Pool_find (wi_Desk_take _ (List.mem_of_getElem? (i := 2) rfl)) (wi_Desk_take _ (List.mem_of_getElem? (i := 3) rfl)) (wi_Desk_take _ (List.mem_of_getElem? (i := 4) rfl)) rfl rfl (Nat.le_of_ble_eq_true rfl) (Nat.le_of_ble_eq_true rfl) ⟨Nat.le_of_ble_eq_true rfl, Nat.le_of_ble_eq_true rfl⟩ d_Desk_take_8 (rv_kie ?_)
  refine rv_eqi (y := ob_i (cl_findo S.2.2.1 S.1)) (cl_find_o _ _) ?_
  cases eo : cl_findo S.2.2.1 S.1 with
  | none =>
    refine rv_eqi (y := (-1)) rfl ?_
    refine rv_istore_n (lv' := [(1, .int (-1)), (0, .ref (dk_x L))]) d_Desk_take_11 rfl (by decide) rfl ?_
    refine rv_iload_n d_Desk_take_12 rfl 0 rfl ?_
    refine rv_iconst (v := (-1)) d_Desk_take_13 (by decide) ?_
    refine rv_icmp_ne (tgt := 19) d_Desk_take_14 (by decide) (fun c_14 => ?_) (fun c_14 => ?_)
    · exact absurd rfl c_14
    · refine rv_iconst (v := nI 0) d_Desk_take_17 (by decide) ?_
      exact rv_ireturn ⟨_, rfl, rfl, hD, dk_out_rf⟩ d_Desk_take_18 rfl (bI_nar false)
  | some p =>
    refine rv_eqi (y := nI p) rfl ?_
    have hp0 : p < 41 := cl_findo_lt eo
    refine rv_istore_n (lv' := [(1, .int (nI p)), (0, .ref (dk_x L))]) d_Desk_take_11 rfl (by decide) rfl ?_
    refine rv_iload_n d_Desk_take_12 rfl 0 rfl ?_
    refine rv_iconst (v := (-1)) d_Desk_take_13 (by decide) ?_
    refine rv_icmp_ne (tgt := 19) d_Desk_take_14 (by decide) (fun c_14 => ?_) (fun c_14 => ?_)
    · refine rv_aload_n d_Desk_take_19 rfl 1 rfl ?_
      refine rv_get ka_Desk hD.1 rfl 2 (by decide) (wi_Desk_take _ (List.mem_of_getElem? (i := 0) rfl)) rfl d_Desk_take_20 ?_
      refine rv_iload_n d_Desk_take_23 rfl 0 rfl ?_
      refine rv_callS (kc' := 0) (ks' := 0) (kc1 := 0) (ks1 := 0) (As := [.int (nI p)]) (rest := [.ref (dk_p L)]) (c_Desk_bit) ok_Desk_bit (wi_Desk_take _ (List.mem_of_getElem? (i := 5) rfl)) (wi_Desk_take _ (List.mem_of_getElem? (i := 6) rfl)) rfl rfl (Nat.le_of_ble_eq_true rfl) (Nat.le_of_ble_eq_true rfl) ⟨Nat.le_of_ble_eq_true rfl, Nat.le_of_ble_eq_true rfl⟩ d_Desk_take_24 (rv_kle ?_)
      refine rv_callV (kc' := 0) (ks' := 0) (kc1 := 0) (ks1 := 0) (As := [.long (bz_b p)]) (rest := []) hD.2.2.2.1.1 rfl (c_Pool_remove hD.2.2.2.1 hO.1) ok_Pool_remove (wi_Desk_take _ (List.mem_of_getElem? (i := 7) rfl)) (wi_Desk_take _ (List.mem_of_getElem? (i := 8) rfl)) (wi_Desk_take _ (List.mem_of_getElem? (i := 9) rfl)) rfl rfl (Nat.le_of_ble_eq_true rfl) (Nat.le_of_ble_eq_true rfl) ⟨Nat.le_of_ble_eq_true rfl, Nat.le_of_ble_eq_true rfl⟩ d_Desk_take_27 (rv_kv (fun hp68 ehp68 => ?_))
      obtain ⟨hP1, ho1⟩ := ehp68
      refine rv_iconst (v := nI 1) d_Desk_take_30 (by decide) ?_
      exact rv_ireturn ⟨_, rfl, rfl, dk_setP hD hO hP1 ho1, dk_out_po ho1⟩ d_Desk_take_31 rfl (bI_nar true)
    · exact absurd c_14 (nI_m1 (by omega))
set_option maxHeartbeats 1000000 in
set_option maxRecDepth 100000 in
theorem c_Desk_count {l : Launch} {D : va_G} {ca : Nat → ClassId} {hp : hp_T} {d : Nat} {L : dk_L} {S : dk_S} (hD : dk_At ca hp L S) (hO : dk_ok L) {x : Int32} : ma_V l D ca ma_T M_Desk_count (d + 3) 0 0 hp (ma_qi (ma_eq (ds_count S x) hp)) 0 (lv_args 0 [.ref (dk_x L), .int x]) [] := by
  change ma_V l D ca ma_T M_Desk_count (d + 3) 0 0 hp (ma_qi (ma_eq (ds_count S x) hp)) 0 [(0, .ref (dk_x L)), (1, .int x)] []
  obtain ⟨f, hf, hfp⟩ := hD.2.2.2.1.2.1
  refine rv_iload_n d_Desk_count_0 rfl 1 rfl ?_
  rcases sw_cases x 4 (by decide) with ⟨k, hk, rfl⟩ | hx
  · rcases (show k = 0 ∨ k = 1 ∨ k = 2 ∨ k = 3 ∨ k = 4 by omega) with rfl | rfl | rfl | rfl | rfl
    · refine rv_tblI (off := 35) (tgt := 36) d_Desk_count_1 (by decide) (by decide) (by decide) (by decide) ?_
      refine rv_aload_n d_Desk_count_36 rfl 0 rfl ?_
      refine rv_get ka_Desk hD.1 rfl 2 (by decide) (wi_Desk_count _ (List.mem_of_getElem? (i := 0) rfl)) rfl d_Desk_count_37 ?_
      refine rv_get ka_Pool hD.2.2.2.1.1 rfl 1 (by decide) (wi_Desk_count _ (List.mem_of_getElem? (i := 1) rfl)) rfl d_Desk_count_40 ?_
      refine rv_callS (kc' := 0) (ks' := 0) (kc1 := 0) (ks1 := 0) (As := [.long S.2.2.1.1]) (rest := []) (c_Long_bitCount) ok_Long_bitCount (wi_Desk_count _ (List.mem_of_getElem? (i := 2) rfl)) (wi_Desk_count _ (List.mem_of_getElem? (i := 3) rfl)) rfl rfl (Nat.le_of_ble_eq_true rfl) (Nat.le_of_ble_eq_true rfl) ⟨Nat.le_of_ble_eq_true rfl, Nat.le_of_ble_eq_true rfl⟩ d_Desk_count_43 (rv_kie ?_)
      exact rv_ireturn ⟨_, rfl, rfl, rfl⟩ d_Desk_count_46 rfl rfl
    · refine rv_tblI (off := 46) (tgt := 47) d_Desk_count_1 (by decide) (by decide) (by decide) (by decide) ?_
      refine rv_aload_n d_Desk_count_47 rfl 0 rfl ?_
      refine rv_get ka_Desk hD.1 rfl 2 (by decide) (wi_Desk_count _ (List.mem_of_getElem? (i := 0) rfl)) rfl d_Desk_count_48 ?_
      refine rv_callV (kc' := 0) (ks' := 0) (kc1 := 0) (ks1 := 0) (As := []) (rest := []) hD.2.2.2.1.1 rfl (c_Pool_sumOfKeys hD.2.2.2.1) ok_Pool_sumOfKeys (wi_Desk_count _ (List.mem_of_getElem? (i := 4) rfl)) (wi_Desk_count _ (List.mem_of_getElem? (i := 5) rfl)) (wi_Desk_count _ (List.mem_of_getElem? (i := 6) rfl)) rfl rfl (Nat.le_of_ble_eq_true rfl) (Nat.le_of_ble_eq_true rfl) ⟨Nat.le_of_ble_eq_true rfl, Nat.le_of_ble_eq_true rfl⟩ d_Desk_count_51 (rv_kie ?_)
      exact rv_ireturn ⟨_, rfl, rfl, rfl⟩ d_Desk_count_54 rfl rfl
    · refine rv_tblI (off := 54) (tgt := 55) d_Desk_count_1 (by decide) (by decide) (by decide) (by decide) ?_
      refine rv_aload_n d_Desk_count_55 rfl 0 rfl ?_
      refine rv_get ka_Desk hD.1 rfl 2 (by decide) (wi_Desk_count _ (List.mem_of_getElem? (i := 0) rfl)) rfl d_Desk_count_56 ?_
      refine rv_aload_n d_Desk_count_59 rfl 0 rfl ?_
      refine rv_get ka_Desk hD.1 rfl 2 (by decide) (wi_Desk_count _ (List.mem_of_getElem? (i := 0) rfl)) rfl d_Desk_count_60 ?_
      refine rv_get ka_Pool hD.2.2.2.1.1 rfl 1 (by decide) (wi_Desk_count _ (List.mem_of_getElem? (i := 1) rfl)) rfl d_Desk_count_63 ?_
      refine rv_callV (kc' := 0) (ks' := 0) (kc1 := 0) (ks1 := 0) (As := [.long S.2.2.1.1]) (rest := []) hD.2.2.2.1.1 rfl (c_Pool_sumOfSizes hD.2.2.2.1) ok_Pool_sumOfSizes (wi_Desk_count _ (List.mem_of_getElem? (i := 7) rfl)) (wi_Desk_count _ (List.mem_of_getElem? (i := 8) rfl)) (wi_Desk_count _ (List.mem_of_getElem? (i := 9) rfl)) rfl rfl (Nat.le_of_ble_eq_true rfl) (Nat.le_of_ble_eq_true rfl) ⟨Nat.le_of_ble_eq_true rfl, Nat.le_of_ble_eq_true rfl⟩ d_Desk_count_66 (rv_kie ?_)
      exact rv_ireturn ⟨_, rfl, rfl, rfl⟩ d_Desk_count_69 rfl rfl
    · refine rv_tblI (off := 69) (tgt := 70) d_Desk_count_1 (by decide) (by decide) (by decide) (by decide) ?_
      refine rv_aload_n d_Desk_count_70 rfl 0 rfl ?_
      refine rv_get ka_Desk hD.1 rfl 1 (by decide) (wi_Desk_count _ (List.mem_of_getElem? (i := 10) rfl)) rfl d_Desk_count_71 ?_
      refine rv_get ka_Keys hD.2.2.1.1 rfl 2 (by decide) (wi_Desk_count _ (List.mem_of_getElem? (i := 11) rfl)) rfl d_Desk_count_74 ?_
      exact rv_ireturn ⟨_, rfl, rfl, rfl⟩ d_Desk_count_77 rfl rfl
    · refine rv_tblI (off := 77) (tgt := 78) d_Desk_count_1 (by decide) (by decide) (by decide) (by decide) ?_
      refine rv_aload_n d_Desk_count_78 rfl 0 rfl ?_
      refine rv_get ka_Desk hD.1 rfl 2 (by decide) (wi_Desk_count _ (List.mem_of_getElem? (i := 0) rfl)) rfl d_Desk_count_79 ?_
      refine rv_get ka_Pool hD.2.2.2.1.1 rfl 2 (by decide) (wi_Desk_count _ (List.mem_of_getElem? (i := 12) rfl)) rfl d_Desk_count_82 ?_
      exact rv_ireturn ⟨_, rfl, rfl, rfl⟩ d_Desk_count_85 rfl rfl
  · refine rv_tblO (tgt := 86) d_Desk_count_1 hx (by decide) ?_
    refine rv_iconst (v := (-1)) d_Desk_count_86 (by decide) ?_
    exact rv_ireturn ⟨_, rfl, (ds_count_out hx).symm, rfl⟩ d_Desk_count_87 rfl rfl
set_option maxHeartbeats 1000000 in
set_option maxRecDepth 100000 in
theorem c_Desk_fees {l : Launch} {D : va_G} {ca : Nat → ClassId} {hp : hp_T} {d : Nat} {L : dk_L} {S : dk_S} (hD : dk_At ca hp L S) (hO : dk_ok L) : ma_V l D ca ma_T M_Desk_fees (d + 3) 0 0 hp (ma_ql (ma_eq (cl_fees S.2.2.1 S.2.2.1.1) hp)) 0 (lv_args 0 [.ref (dk_x L)]) [] := by
  change ma_V l D ca ma_T M_Desk_fees (d + 3) 0 0 hp (ma_ql (ma_eq (cl_fees S.2.2.1 S.2.2.1.1) hp)) 0 [(0, .ref (dk_x L))] []
  refine rv_aload_n d_Desk_fees_0 rfl 0 rfl ?_
  refine rv_get ka_Desk hD.1 rfl 2 (by decide) (wi_Desk_fees _ (List.mem_of_getElem? (i := 0) rfl)) rfl d_Desk_fees_1 ?_
  refine rv_aload_n d_Desk_fees_4 rfl 0 rfl ?_
  refine rv_get ka_Desk hD.1 rfl 2 (by decide) (wi_Desk_fees _ (List.mem_of_getElem? (i := 0) rfl)) rfl d_Desk_fees_5 ?_
  refine rv_get ka_Pool hD.2.2.2.1.1 rfl 1 (by decide) (wi_Desk_fees _ (List.mem_of_getElem? (i := 1) rfl)) rfl d_Desk_fees_8 ?_
  refine rv_callV (kc' := 0) (ks' := 0) (kc1 := 0) (ks1 := 0) (As := [.long S.2.2.1.1]) (rest := []) hD.2.2.2.1.1 rfl (c_Pool_sumOfFees hD.2.2.2.1) ok_Pool_sumOfFees (wi_Desk_fees _ (List.mem_of_getElem? (i := 2) rfl)) (wi_Desk_fees _ (List.mem_of_getElem? (i := 3) rfl)) (wi_Desk_fees _ (List.mem_of_getElem? (i := 4) rfl)) rfl rfl (Nat.le_of_ble_eq_true rfl) (Nat.le_of_ble_eq_true rfl) ⟨Nat.le_of_ble_eq_true rfl, Nat.le_of_ble_eq_true rfl⟩ d_Desk_fees_11 (rv_kle ?_)
  exact rv_lreturn ⟨_, rfl, rfl, rfl⟩ d_Desk_fees_14 rfl
set_option maxHeartbeats 1000000 in
set_option maxRecDepth 100000 in
theorem c_Desk_row {l : Launch} {D : va_G} {ca : Nat → ClassId} {hp : hp_T} {d : Nat} {L : dk_L} {S : dk_S} (hD : dk_At ca hp L S) (hO : dk_ok L) {x y : Int32} : ma_V l D ca ma_T M_Desk_row (d + 1) 0 0 hp (ma_ql (ma_eq (rw_word S.2.2.2.1 S.2.2.2.2 x y) hp)) 0 (lv_args 0 [.ref (dk_x L), .int x, .int y]) [] := by
  change ma_V l D ca ma_T M_Desk_row (d + 1) 0 0 hp (ma_ql (ma_eq (rw_word S.2.2.2.1 S.2.2.2.2 x y) hp)) 0 [(0, .ref (dk_x L)), (1, .int x), (2, .int y)] []
  refine rv_aload_n d_Desk_row_0 rfl 0 rfl ?_
  refine rv_get ka_Desk hD.1 rfl 3 (by decide) (wi_Desk_row _ (List.mem_of_getElem? (i := 0) rfl)) rfl d_Desk_row_1 ?_
  refine rv_iload_n d_Desk_row_4 rfl 1 rfl ?_
  refine rv_iload_n d_Desk_row_5 rfl 2 rfl ?_
  refine rv_callV (kc' := 0) (ks' := 0) (kc1 := 0) (ks1 := 0) (As := [.int x, .int y]) (rest := []) hD.2.2.2.2.1 rfl (c_Row_word hD.2.2.2.2.1 hD.2.2.2.2.2.1 hD.2.2.2.2.2.2) ok_Row_word (wi_Desk_row _ (List.mem_of_getElem? (i := 1) rfl)) (wi_Desk_row _ (List.mem_of_getElem? (i := 2) rfl)) (wi_Desk_row _ (List.mem_of_getElem? (i := 3) rfl)) rfl rfl (Nat.le_of_ble_eq_true rfl) (Nat.le_of_ble_eq_true rfl) ⟨Nat.le_of_ble_eq_true rfl, Nat.le_of_ble_eq_true rfl⟩ d_Desk_row_6 (rv_kle ?_)
  exact rv_lreturn ⟨_, rfl, rfl, rfl⟩ d_Desk_row_9 rfl
set_option maxHeartbeats 1000000 in
set_option maxRecDepth 100000 in
theorem c_Desk_look {l : Launch} {D : va_G} {ca : Nat → ClassId} {hp : hp_T} {d : Nat} {L : dk_L} {S : dk_S} (hD : dk_At ca hp L S) (hO : dk_ok L) {x : Int32} : ma_V l D ca ma_T M_Desk_look (d + 3) 0 0 hp (ma_ql (ma_eq (ds_look S x) hp)) 0 (lv_args 0 [.ref (dk_x L), .int x]) [] := by
  change ma_V l D ca ma_T M_Desk_look (d + 3) 0 0 hp (ma_ql (ma_eq (ds_look S x) hp)) 0 [(0, .ref (dk_x L)), (1, .int x)] []
  obtain ⟨f, hf, hfp⟩ := hD.2.2.2.1.2.1
  refine rv_aload_n d_Desk_look_0 rfl 0 rfl ?_
  refine rv_get ka_Desk hD.1 rfl 2 (by decide) (wi_Desk_look _ (List.mem_of_getElem? (i := 0) rfl)) rfl d_Desk_look_1 ?_
  refine rv_aload_n d_Desk_look_4 rfl 0 rfl ?_
  refine rv_get ka_Desk hD.1 rfl 0 (by decide) (wi_Desk_look _ (List.mem_of_getElem? (i := 1) rfl)) rfl d_Desk_look_5 ?_
  refine rv_callV (kc' := 0) (ks' := 0) (kc1 := 0) (ks1 := 0) (As := [.ref (dk_n L)]) (rest := []) hD.2.2.2.1.1 rfl (c_Pool_find hD.2.2.2.1 hD.2.1) ok_Pool_find (wi_Desk_look _ (List.mem_of_getElem? (i := 2) rfl)) (wi_Desk_look _ (List.mem_of_getElem? (i := 3) rfl)) (wi_Desk_look _ (List.mem_of_getElem? (i := 4) rfl)) rfl rfl (Nat.le_of_ble_eq_true rfl) (Nat.le_of_ble_eq_true rfl) ⟨Nat.le_of_ble_eq_true rfl, Nat.le_of_ble_eq_true rfl⟩ d_Desk_look_8 (rv_kie ?_)
  refine rv_eqi (y := ob_i (cl_findo S.2.2.1 S.1)) (cl_find_o _ _) ?_
  cases eo : cl_findo S.2.2.1 S.1 with
  | none =>
    refine rv_eqi (y := (-1)) rfl ?_
    have e : ds_look S x = -1 := by unfold ds_look; rw [eo]
    refine rv_istore_n (lv' := [(2, .int (-1)), (0, .ref (dk_x L)), (1, .int x)]) d_Desk_look_11 rfl (by decide) rfl ?_
    refine rv_iload_n d_Desk_look_12 rfl 0 rfl ?_
    refine rv_iconst (v := (-1)) d_Desk_look_13 (by decide) ?_
    refine rv_icmp_ne (tgt := 21) d_Desk_look_14 (by decide) (fun c_14 => ?_) (fun c_14 => ?_)
    · exact absurd rfl c_14
    · refine rv_ldc2 (v := (-1)) d_Desk_look_17 (wi_Desk_look _ (List.mem_of_getElem? (i := 5) rfl)) ?_
      exact rv_lreturn ⟨_, rfl, e.symm, rfl⟩ d_Desk_look_20 rfl
  | some p =>
    refine rv_eqi (y := nI p) rfl ?_
    have hp0 : p < 41 := cl_findo_lt eo
    have e : ds_look S x = cl_look S.2.2.1 p x := by unfold ds_look; rw [eo]
    refine rv_istore_n (lv' := [(2, .int (nI p)), (0, .ref (dk_x L)), (1, .int x)]) d_Desk_look_11 rfl (by decide) rfl ?_
    refine rv_iload_n d_Desk_look_12 rfl 0 rfl ?_
    refine rv_iconst (v := (-1)) d_Desk_look_13 (by decide) ?_
    refine rv_icmp_ne (tgt := 21) d_Desk_look_14 (by decide) (fun c_14 => ?_) (fun c_14 => ?_)
    · refine rv_aload_n d_Desk_look_21 rfl 1 rfl ?_
      refine rv_get ka_Desk hD.1 rfl 2 (by decide) (wi_Desk_look _ (List.mem_of_getElem? (i := 0) rfl)) rfl d_Desk_look_22 ?_
      refine rv_get ka_Pool hD.2.2.2.1.1 rfl 0 (by decide) (wi_Desk_look _ (List.mem_of_getElem? (i := 6) rfl)) rfl d_Desk_look_25 ?_
      refine rv_iload_n d_Desk_look_28 rfl 0 rfl ?_
      refine rv_aald hf 2 rfl hp0 (by decide) d_Desk_look_29 ?_
      refine rv_eqv (y := .ref ((dk_P L).2.1 p)) ((by rw [hfp p hp0]; rfl)) ?_
      refine rv_astore_n (lv' := [(3, .ref ((dk_P L).2.1 p)), (2, .int (nI p)), (0, .ref (dk_x L)), (1, .int x)]) d_Desk_look_30 rfl (by decide) rfl ?_
      refine rv_iload_n d_Desk_look_31 rfl 3 rfl ?_
      rcases sw_cases x 9 (by decide) with ⟨k, hk, rfl⟩ | hx
      · rcases (show k = 0 ∨ k = 1 ∨ k = 2 ∨ k = 3 ∨ k = 4 ∨ k = 5 ∨ k = 6 ∨ k = 7 ∨ k = 8 ∨ k = 9 by omega) with rfl | rfl | rfl | rfl | rfl | rfl | rfl | rfl | rfl | rfl
        · refine rv_tblI (off := 56) (tgt := 88) d_Desk_look_32 (by decide) (by decide) (by decide) (by decide) ?_
          refine rv_aload_n d_Desk_look_88 rfl 0 rfl ?_
          refine rv_get ka_Tx (hD.2.2.2.1.2.2 p hp0).1 rfl 2 (by decide) (wi_Desk_look _ (List.mem_of_getElem? (i := 7) rfl)) rfl d_Desk_look_89 ?_
          exact rv_lreturn ⟨_, rfl, by rw [e]; rfl, rfl⟩ d_Desk_look_92 rfl
        · refine rv_tblI (off := 61) (tgt := 93) d_Desk_look_32 (by decide) (by decide) (by decide) (by decide) ?_
          refine rv_aload_n d_Desk_look_93 rfl 0 rfl ?_
          refine rv_get ka_Tx (hD.2.2.2.1.2.2 p hp0).1 rfl 3 (by decide) (wi_Desk_look _ (List.mem_of_getElem? (i := 8) rfl)) rfl d_Desk_look_94 ?_
          refine rv_i2l d_Desk_look_97 ?_
          exact rv_lreturn ⟨_, rfl, by rw [e]; rfl, rfl⟩ d_Desk_look_98 rfl
        · refine rv_tblI (off := 67) (tgt := 99) d_Desk_look_32 (by decide) (by decide) (by decide) (by decide) ?_
          refine rv_aload_n d_Desk_look_99 rfl 0 rfl ?_
          refine rv_get ka_Tx (hD.2.2.2.1.2.2 p hp0).1 rfl 4 (by decide) (wi_Desk_look _ (List.mem_of_getElem? (i := 9) rfl)) rfl d_Desk_look_100 ?_
          refine rv_i2l d_Desk_look_103 ?_
          exact rv_lreturn ⟨_, rfl, by rw [e]; rfl, rfl⟩ d_Desk_look_104 rfl
        · refine rv_tblI (off := 73) (tgt := 105) d_Desk_look_32 (by decide) (by decide) (by decide) (by decide) ?_
          refine rv_aload_n d_Desk_look_105 rfl 0 rfl ?_
          refine rv_get ka_Tx (hD.2.2.2.1.2.2 p hp0).1 rfl 1 (by decide) (wi_Desk_look _ (List.mem_of_getElem? (i := 10) rfl)) rfl d_Desk_look_106 ?_
          refine rv_get ka_Keys (hD.2.2.2.1.2.2 p hp0).2.2.1 rfl 2 (by decide) (wi_Desk_look _ (List.mem_of_getElem? (i := 11) rfl)) rfl d_Desk_look_109 ?_
          refine rv_i2l d_Desk_look_112 ?_
          exact rv_lreturn ⟨_, rfl, by rw [e]; rfl, rfl⟩ d_Desk_look_113 rfl
        · refine rv_tblI (off := 82) (tgt := 114) d_Desk_look_32 (by decide) (by decide) (by decide) (by decide) ?_
          refine rv_aload_n d_Desk_look_114 rfl 0 rfl ?_
          refine rv_get ka_Tx (hD.2.2.2.1.2.2 p hp0).1 rfl 6 (by decide) (wi_Desk_look _ (List.mem_of_getElem? (i := 12) rfl)) rfl d_Desk_look_115 ?_
          refine rv_callS (kc' := 0) (ks' := 0) (kc1 := 0) (ks1 := 0) (As := [.long ((S.2.2.1.2.2 p).2.2.2.2.2.2.1)]) (rest := []) (c_Long_bitCount) ok_Long_bitCount (wi_Desk_look _ (List.mem_of_getElem? (i := 13) rfl)) (wi_Desk_look _ (List.mem_of_getElem? (i := 14) rfl)) rfl rfl (Nat.le_of_ble_eq_true rfl) (Nat.le_of_ble_eq_true rfl) ⟨Nat.le_of_ble_eq_true rfl, Nat.le_of_ble_eq_true rfl⟩ d_Desk_look_118 (rv_kie ?_)
          refine rv_i2l d_Desk_look_121 ?_
          exact rv_lreturn ⟨_, rfl, by rw [e]; rfl, rfl⟩ d_Desk_look_122 rfl
        · refine rv_tblI (off := 91) (tgt := 123) d_Desk_look_32 (by decide) (by decide) (by decide) (by decide) ?_
          refine rv_aload_n d_Desk_look_123 rfl 0 rfl ?_
          refine rv_get ka_Tx (hD.2.2.2.1.2.2 p hp0).1 rfl 7 (by decide) (wi_Desk_look _ (List.mem_of_getElem? (i := 15) rfl)) rfl d_Desk_look_124 ?_
          refine rv_callS (kc' := 0) (ks' := 0) (kc1 := 0) (ks1 := 0) (As := [.long ((S.2.2.1.2.2 p).2.2.2.2.2.2.2)]) (rest := []) (c_Long_bitCount) ok_Long_bitCount (wi_Desk_look _ (List.mem_of_getElem? (i := 13) rfl)) (wi_Desk_look _ (List.mem_of_getElem? (i := 14) rfl)) rfl rfl (Nat.le_of_ble_eq_true rfl) (Nat.le_of_ble_eq_true rfl) ⟨Nat.le_of_ble_eq_true rfl, Nat.le_of_ble_eq_true rfl⟩ d_Desk_look_127 (rv_kie ?_)
          refine rv_i2l d_Desk_look_130 ?_
          exact rv_lreturn ⟨_, rfl, by rw [e]; rfl, rfl⟩ d_Desk_look_131 rfl
        · refine rv_tblI (off := 100) (tgt := 132) d_Desk_look_32 (by decide) (by decide) (by decide) (by decide) ?_
          refine rv_aload_n d_Desk_look_132 rfl 2 rfl ?_
          refine rv_get ka_Desk hD.1 rfl 2 (by decide) (wi_Desk_look _ (List.mem_of_getElem? (i := 0) rfl)) rfl d_Desk_look_133 ?_
          refine rv_iload_n d_Desk_look_136 rfl 1 rfl ?_
          refine rv_callS (kc' := 0) (ks' := 0) (kc1 := 0) (ks1 := 0) (As := [.int (nI p)]) (rest := [.ref (dk_p L)]) (c_Desk_bit) ok_Desk_bit (wi_Desk_look _ (List.mem_of_getElem? (i := 16) rfl)) (wi_Desk_look _ (List.mem_of_getElem? (i := 17) rfl)) rfl rfl (Nat.le_of_ble_eq_true rfl) (Nat.le_of_ble_eq_true rfl) ⟨Nat.le_of_ble_eq_true rfl, Nat.le_of_ble_eq_true rfl⟩ d_Desk_look_137 (rv_kle ?_)
          refine rv_callV (kc' := 0) (ks' := 0) (kc1 := 0) (ks1 := 0) (As := [.long (bz_b p)]) (rest := []) hD.2.2.2.1.1 rfl (c_Pool_family hD.2.2.2.1) ok_Pool_family (wi_Desk_look _ (List.mem_of_getElem? (i := 18) rfl)) (wi_Desk_look _ (List.mem_of_getElem? (i := 19) rfl)) (wi_Desk_look _ (List.mem_of_getElem? (i := 20) rfl)) rfl rfl (Nat.le_of_ble_eq_true rfl) (Nat.le_of_ble_eq_true rfl) ⟨Nat.le_of_ble_eq_true rfl, Nat.le_of_ble_eq_true rfl⟩ d_Desk_look_140 (rv_kle ?_)
          refine rv_callS (kc' := 0) (ks' := 0) (kc1 := 0) (ks1 := 0) (As := [.long (cl_fam S.2.2.1 (bz_b p))]) (rest := []) (c_Long_bitCount) ok_Long_bitCount (wi_Desk_look _ (List.mem_of_getElem? (i := 13) rfl)) (wi_Desk_look _ (List.mem_of_getElem? (i := 14) rfl)) rfl rfl (Nat.le_of_ble_eq_true rfl) (Nat.le_of_ble_eq_true rfl) ⟨Nat.le_of_ble_eq_true rfl, Nat.le_of_ble_eq_true rfl⟩ d_Desk_look_143 (rv_kie ?_)
          refine rv_i2l d_Desk_look_146 ?_
          exact rv_lreturn ⟨_, rfl, by rw [e]; rfl, rfl⟩ d_Desk_look_147 rfl
        · refine rv_tblI (off := 116) (tgt := 148) d_Desk_look_32 (by decide) (by decide) (by decide) (by decide) ?_
          refine rv_aload_n d_Desk_look_148 rfl 2 rfl ?_
          refine rv_get ka_Desk hD.1 rfl 2 (by decide) (wi_Desk_look _ (List.mem_of_getElem? (i := 0) rfl)) rfl d_Desk_look_149 ?_
          refine rv_aload_n d_Desk_look_152 rfl 2 rfl ?_
          refine rv_get ka_Desk hD.1 rfl 2 (by decide) (wi_Desk_look _ (List.mem_of_getElem? (i := 0) rfl)) rfl d_Desk_look_153 ?_
          refine rv_iload_n d_Desk_look_156 rfl 1 rfl ?_
          refine rv_callS (kc' := 0) (ks' := 0) (kc1 := 0) (ks1 := 0) (As := [.int (nI p)]) (rest := [.ref (dk_p L), .ref (dk_p L)]) (c_Desk_bit) ok_Desk_bit (wi_Desk_look _ (List.mem_of_getElem? (i := 16) rfl)) (wi_Desk_look _ (List.mem_of_getElem? (i := 17) rfl)) rfl rfl (Nat.le_of_ble_eq_true rfl) (Nat.le_of_ble_eq_true rfl) ⟨Nat.le_of_ble_eq_true rfl, Nat.le_of_ble_eq_true rfl⟩ d_Desk_look_157 (rv_kle ?_)
          refine rv_callV (kc' := 0) (ks' := 0) (kc1 := 0) (ks1 := 0) (As := [.long (bz_b p)]) (rest := [.ref (dk_p L)]) hD.2.2.2.1.1 rfl (c_Pool_family hD.2.2.2.1) ok_Pool_family (wi_Desk_look _ (List.mem_of_getElem? (i := 18) rfl)) (wi_Desk_look _ (List.mem_of_getElem? (i := 19) rfl)) (wi_Desk_look _ (List.mem_of_getElem? (i := 20) rfl)) rfl rfl (Nat.le_of_ble_eq_true rfl) (Nat.le_of_ble_eq_true rfl) ⟨Nat.le_of_ble_eq_true rfl, Nat.le_of_ble_eq_true rfl⟩ d_Desk_look_160 (rv_kle ?_)
          refine rv_callV (kc' := 0) (ks' := 0) (kc1 := 0) (ks1 := 0) (As := [.long (cl_fam S.2.2.1 (bz_b p))]) (rest := []) hD.2.2.2.1.1 rfl (c_Pool_sumOfFees hD.2.2.2.1) ok_Pool_sumOfFees (wi_Desk_look _ (List.mem_of_getElem? (i := 21) rfl)) (wi_Desk_look _ (List.mem_of_getElem? (i := 22) rfl)) (wi_Desk_look _ (List.mem_of_getElem? (i := 23) rfl)) rfl rfl (Nat.le_of_ble_eq_true rfl) (Nat.le_of_ble_eq_true rfl) ⟨Nat.le_of_ble_eq_true rfl, Nat.le_of_ble_eq_true rfl⟩ d_Desk_look_163 (rv_kle ?_)
          exact rv_lreturn ⟨_, rfl, by rw [e]; rfl, rfl⟩ d_Desk_look_166 rfl
        · refine rv_tblI (off := 135) (tgt := 167) d_Desk_look_32 (by decide) (by decide) (by decide) (by decide) ?_
          refine rv_aload_n d_Desk_look_167 rfl 2 rfl ?_
          refine rv_get ka_Desk hD.1 rfl 2 (by decide) (wi_Desk_look _ (List.mem_of_getElem? (i := 0) rfl)) rfl d_Desk_look_168 ?_
          refine rv_aload_n d_Desk_look_171 rfl 2 rfl ?_
          refine rv_get ka_Desk hD.1 rfl 2 (by decide) (wi_Desk_look _ (List.mem_of_getElem? (i := 0) rfl)) rfl d_Desk_look_172 ?_
          refine rv_iload_n d_Desk_look_175 rfl 1 rfl ?_
          refine rv_callS (kc' := 0) (ks' := 0) (kc1 := 0) (ks1 := 0) (As := [.int (nI p)]) (rest := [.ref (dk_p L), .ref (dk_p L)]) (c_Desk_bit) ok_Desk_bit (wi_Desk_look _ (List.mem_of_getElem? (i := 16) rfl)) (wi_Desk_look _ (List.mem_of_getElem? (i := 17) rfl)) rfl rfl (Nat.le_of_ble_eq_true rfl) (Nat.le_of_ble_eq_true rfl) ⟨Nat.le_of_ble_eq_true rfl, Nat.le_of_ble_eq_true rfl⟩ d_Desk_look_176 (rv_kle ?_)
          refine rv_callV (kc' := 0) (ks' := 0) (kc1 := 0) (ks1 := 0) (As := [.long (bz_b p)]) (rest := [.ref (dk_p L)]) hD.2.2.2.1.1 rfl (c_Pool_family hD.2.2.2.1) ok_Pool_family (wi_Desk_look _ (List.mem_of_getElem? (i := 18) rfl)) (wi_Desk_look _ (List.mem_of_getElem? (i := 19) rfl)) (wi_Desk_look _ (List.mem_of_getElem? (i := 20) rfl)) rfl rfl (Nat.le_of_ble_eq_true rfl) (Nat.le_of_ble_eq_true rfl) ⟨Nat.le_of_ble_eq_true rfl, Nat.le_of_ble_eq_true rfl⟩ d_Desk_look_179 (rv_kle ?_)
          refine rv_callV (kc' := 0) (ks' := 0) (kc1 := 0) (ks1 := 0) (As := [.long (cl_fam S.2.2.1 (bz_b p))]) (rest := []) hD.2.2.2.1.1 rfl (c_Pool_sumOfSizes hD.2.2.2.1) ok_Pool_sumOfSizes (wi_Desk_look _ (List.mem_of_getElem? (i := 24) rfl)) (wi_Desk_look _ (List.mem_of_getElem? (i := 25) rfl)) (wi_Desk_look _ (List.mem_of_getElem? (i := 26) rfl)) rfl rfl (Nat.le_of_ble_eq_true rfl) (Nat.le_of_ble_eq_true rfl) ⟨Nat.le_of_ble_eq_true rfl, Nat.le_of_ble_eq_true rfl⟩ d_Desk_look_182 (rv_kie ?_)
          refine rv_i2l d_Desk_look_185 ?_
          exact rv_lreturn ⟨_, rfl, by rw [e]; rfl, rfl⟩ d_Desk_look_186 rfl
        · refine rv_tblI (off := 155) (tgt := 187) d_Desk_look_32 (by decide) (by decide) (by decide) (by decide) ?_
          refine rv_aload_n d_Desk_look_187 rfl 0 rfl ?_
          refine rv_get ka_Tx (hD.2.2.2.1.2.2 p hp0).1 rfl 5 (by decide) (wi_Desk_look _ (List.mem_of_getElem? (i := 27) rfl)) rfl d_Desk_look_188 ?_
          refine rv_i2l d_Desk_look_191 ?_
          exact rv_lreturn ⟨_, rfl, by rw [e]; rfl, rfl⟩ d_Desk_look_192 rfl
      · refine rv_tblO (tgt := 193) d_Desk_look_32 hx (by decide) ?_
        refine rv_ldc2 (v := (-1)) d_Desk_look_193 (wi_Desk_look _ (List.mem_of_getElem? (i := 5) rfl)) ?_
        exact rv_lreturn ⟨_, rfl, by rw [e, cl_look_out hx], rfl⟩ d_Desk_look_196 rfl
    · exact absurd c_14 (nI_m1 (by omega))
