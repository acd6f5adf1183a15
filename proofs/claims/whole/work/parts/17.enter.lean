def wl_Desk_order : List Cond := [.fieldLink "PoolDesk" 33 "PoolDesk" "block" "LPoolDesk$Row;", .fieldLink "PoolDesk" 141 "PoolDesk$Row" "length" "I", .fieldLink "PoolDesk" 26 "PoolDesk" "pool" "LPoolDesk$Pool;", .methodLink "PoolDesk" 131 y_Pool_bestPaying, .instanceMethod y_Pool_bestPaying, .selects "PoolDesk$Pool" y_Pool_bestPaying y_Pool_bestPaying, .fieldLink "PoolDesk" 86 "PoolDesk$Pool" "places" "[LPoolDesk$Transaction;", .fieldLink "PoolDesk" 135 "PoolDesk$Transaction" "ownName" "LPoolDesk$Name;", .methodLink "PoolDesk" 138 y_Row_add, .instanceMethod y_Row_add, .selects "PoolDesk$Row" y_Row_add y_Row_add, .methodLink "PoolDesk" 68 y_Desk_bit, .static y_Desk_bit, .fieldLink "PoolDesk" 96 "PoolDesk$Transaction" "size" "I", .methodLink "PoolDesk" 130 y_Row_clear, .instanceMethod y_Row_clear, .selects "PoolDesk$Row" y_Row_clear y_Row_clear]
theorem wi_Desk_order : ∀ w ∈ wl_Desk_order, w ∈ ma_tbl := by decide +kernel
def wl_Desk_letIn : List Cond := [.fieldLink "PoolDesk" 26 "PoolDesk" "pool" "LPoolDesk$Pool;", .methodLink "PoolDesk" 160 y_Pool_freePlace, .instanceMethod y_Pool_freePlace, .selects "PoolDesk$Pool" y_Pool_freePlace y_Pool_freePlace, .fieldLink "PoolDesk" 86 "PoolDesk$Pool" "places" "[LPoolDesk$Transaction;", .methodLink "PoolDesk" 163 y_Tx_describe, .instanceMethod y_Tx_describe, .selects "PoolDesk$Transaction" y_Tx_describe y_Tx_describe, .fieldLink "PoolDesk" 12 "PoolDesk" "hand" "LPoolDesk$Name;", .fieldLink "PoolDesk" 19 "PoolDesk" "told" "LPoolDesk$Keys;", .methodLink "PoolDesk" 167 y_Pool_settle, .instanceMethod y_Pool_settle, .selects "PoolDesk$Pool" y_Pool_settle y_Pool_settle, .fieldLink "PoolDesk" 148 "PoolDesk$Pool" "present" "J", .methodLink "PoolDesk" 108 y_Long_bitCount, .static y_Long_bitCount, .methodLink "PoolDesk" 171 y_Pool_leastPaying, .instanceMethod y_Pool_leastPaying, .selects "PoolDesk$Pool" y_Pool_leastPaying y_Pool_leastPaying, .methodLink "PoolDesk" 76 y_Desk_removeFamily, .instanceMethod y_Desk_removeFamily, .selects "PoolDesk" y_Desk_removeFamily y_Desk_removeFamily, .methodLink "PoolDesk" 174 y_Desk_has, .static y_Desk_has]
theorem wi_Desk_letIn : ∀ w ∈ wl_Desk_letIn, w ∈ ma_tbl := by decide +kernel
def wl_Desk_enter : List Cond := [.fieldLink "PoolDesk" 19 "PoolDesk" "told" "LPoolDesk$Keys;", .fieldLink "PoolDesk" 45 "PoolDesk$Keys" "held" "I", .methodLink "PoolDesk" 49 y_Desk_isTransaction, .static y_Desk_isTransaction, .fieldLink "PoolDesk" 26 "PoolDesk" "pool" "LPoolDesk$Pool;", .fieldLink "PoolDesk" 12 "PoolDesk" "hand" "LPoolDesk$Name;", .methodLink "PoolDesk" 53 y_Pool_hindrance, .instanceMethod y_Pool_hindrance, .selects "PoolDesk$Pool" y_Pool_hindrance y_Pool_hindrance, .methodLink "PoolDesk" 61 y_Keys_clear, .instanceMethod y_Keys_clear, .selects "PoolDesk$Keys" y_Keys_clear y_Keys_clear, .methodLink "PoolDesk" 57 y_Desk_letIn, .instanceMethod y_Desk_letIn, .selects "PoolDesk" y_Desk_letIn y_Desk_letIn]
theorem wi_Desk_enter : ∀ w ∈ wl_Desk_enter, w ∈ ma_tbl := by decide +kernel
set_option maxHeartbeats 1000000 in
set_option maxRecDepth 100000 in
theorem c_Desk_order_l {l : Launch} {D : va_G} {ca : Nat → ClassId} {d : Nat} {L : dk_L} {S : dk_S} {hp0 : hp_T} (hO : dk_ok L) {z : Int32} : ∀ (m i : Nat) (hp : hp_T) (dn : Int64) (rm : Int32) (r : Nat × (Nat → Int64)), i + m = 41 → r.1 = i → dk_At ca hp L (S.1, S.2.1, S.2.2.1, r) → dk_out L hp0 hp → ma_V l D ca ma_T M_Desk_order (d + 4) 0 0 hp (ma_qi (fun x hp1 => x = nI (ds_ordL S.2.2.1 m dn rm r).1 ∧ dk_At ca hp1 L (S.1, S.2.1, S.2.2.1, (ds_ordL S.2.2.1 m dn rm r)) ∧ dk_out L hp0 hp1)) 15 [(5, .int (nI i)), (4, .int rm), (2, .long dn), (0, .ref (dk_x L)), (1, .int z)] [] := by
  intro m
  induction m with
  | zero =>
    intro i hp dn rm r hi hr hD hu
    refine rv_iload d_Desk_order_15 0 rfl ?_
    refine rv_bipush (v := nI 41) d_Desk_order_17 (by decide) ?_
    refine rv_icmp_ge (tgt := 91) d_Desk_order_19 (by decide) (fun c_19 => ?_) (fun c_19 => ?_)
    · refine rv_aload_n d_Desk_order_91 rfl 3 rfl ?_
      refine rv_get ka_Desk hD.1 rfl 3 (by decide) (wi_Desk_order _ (List.mem_of_getElem? (i := 0) rfl)) rfl d_Desk_order_92 ?_
      refine rv_get ka_Row hD.2.2.2.2.1 rfl 1 (by decide) (wi_Desk_order _ (List.mem_of_getElem? (i := 1) rfl)) rfl d_Desk_order_95 ?_
      exact rv_ireturn ⟨_, rfl, rfl, hD, hu⟩ d_Desk_order_98 rfl rfl
    · exact absurd (nI_le (by omega) (by omega)) c_19
  | succ m ih =>
    intro i hp dn rm r hi hr hD hu
    obtain ⟨f, hf, hfp⟩ := hD.2.2.2.1.2.1
    refine rv_iload d_Desk_order_15 0 rfl ?_
    refine rv_bipush (v := nI 41) d_Desk_order_17 (by decide) ?_
    refine rv_icmp_ge (tgt := 91) d_Desk_order_19 (by decide) (fun c_19 => ?_) (fun c_19 => ?_)
    · exact absurd c_19 (nI_ge (by omega) (by omega))
    · refine rv_aload_n d_Desk_order_22 rfl 3 rfl ?_
      refine rv_get ka_Desk hD.1 rfl 2 (by decide) (wi_Desk_order _ (List.mem_of_getElem? (i := 2) rfl)) rfl d_Desk_order_23 ?_
      refine rv_lload_n d_Desk_order_26 rfl 2 rfl ?_
      refine rv_iload d_Desk_order_27 1 rfl ?_
      refine rv_callV (kc' := 0) (ks' := 0) (kc1 := 0) (ks1 := 0) (As := [.long dn, .int rm]) (rest := []) hD.2.2.2.1.1 rfl (c_Pool_bestPaying hD.2.2.2.1) ok_Pool_bestPaying (wi_Desk_order _ (List.mem_of_getElem? (i := 3) rfl)) (wi_Desk_order _ (List.mem_of_getElem? (i := 4) rfl)) (wi_Desk_order _ (List.mem_of_getElem? (i := 5) rfl)) rfl rfl (Nat.le_of_ble_eq_true rfl) (Nat.le_of_ble_eq_true rfl) ⟨Nat.le_of_ble_eq_true rfl, Nat.le_of_ble_eq_true rfl⟩ d_Desk_order_29 (rv_kie ?_)
      cases eo : cl_best S.2.2.1 dn rm with
      | none =>
        refine rv_eqi (y := (-1)) rfl ?_
        have e : ds_ordL S.2.2.1 (m + 1) dn rm r = r := by unfold ds_ordL; rw [eo]
        rw [e]
        refine rv_istore (lv' := [(6, .int (-1)), (5, .int (nI i)), (4, .int rm), (2, .long dn), (0, .ref (dk_x L)), (1, .int z)]) d_Desk_order_32 (by decide) rfl ?_
        refine rv_iload d_Desk_order_34 0 rfl ?_
        refine rv_iconst (v := (-1)) d_Desk_order_36 (by decide) ?_
        refine rv_icmp_ne (tgt := 43) d_Desk_order_37 (by decide) (fun c_37 => ?_) (fun c_37 => ?_)
        · exact absurd rfl c_37
        · refine rv_goto (tgt := 91) d_Desk_order_40 (by decide) ?_
          refine rv_aload_n d_Desk_order_91 rfl 4 rfl ?_
          refine rv_get ka_Desk hD.1 rfl 3 (by decide) (wi_Desk_order _ (List.mem_of_getElem? (i := 0) rfl)) rfl d_Desk_order_92 ?_
          refine rv_get ka_Row hD.2.2.2.2.1 rfl 1 (by decide) (wi_Desk_order _ (List.mem_of_getElem? (i := 1) rfl)) rfl d_Desk_order_95 ?_
          exact rv_ireturn ⟨_, rfl, rfl, hD, hu⟩ d_Desk_order_98 rfl rfl
      | some p =>
        refine rv_eqi (y := nI p) rfl ?_
        have e : ds_ordL S.2.2.1 (m + 1) dn rm r = ds_ordL S.2.2.1 m (dn ||| bz_b p) (rm - (S.2.2.1.2.2 p).2.2.2.1) (r.1 + 1, kx_w r.2 (r.1 * 4) (S.2.2.1.2.2 p).1) := by
          rw [ds_ordL, eo]
        have hp0 : p < 41 := cl_best_lt eo
        refine rv_istore (lv' := [(6, .int (nI p)), (5, .int (nI i)), (4, .int rm), (2, .long dn), (0, .ref (dk_x L)), (1, .int z)]) d_Desk_order_32 (by decide) rfl ?_
        refine rv_iload d_Desk_order_34 0 rfl ?_
        refine rv_iconst (v := (-1)) d_Desk_order_36 (by decide) ?_
        refine rv_icmp_ne (tgt := 43) d_Desk_order_37 (by decide) (fun c_37 => ?_) (fun c_37 => ?_)
        · refine rv_aload_n d_Desk_order_43 rfl 4 rfl ?_
          refine rv_get ka_Desk hD.1 rfl 2 (by decide) (wi_Desk_order _ (List.mem_of_getElem? (i := 2) rfl)) rfl d_Desk_order_44 ?_
          refine rv_get ka_Pool hD.2.2.2.1.1 rfl 0 (by decide) (wi_Desk_order _ (List.mem_of_getElem? (i := 6) rfl)) rfl d_Desk_order_47 ?_
          refine rv_iload d_Desk_order_50 0 rfl ?_
          refine rv_aald hf 2 rfl hp0 (by decide) d_Desk_order_52 ?_
          refine rv_eqv (y := .ref ((dk_P L).2.1 p)) ((by rw [hfp p hp0]; rfl)) ?_
          refine rv_astore (lv' := [(7, .ref ((dk_P L).2.1 p)), (6, .int (nI p)), (5, .int (nI i)), (4, .int rm), (2, .long dn), (0, .ref (dk_x L)), (1, .int z)]) d_Desk_order_53 (by decide) rfl ?_
          refine rv_aload_n d_Desk_order_55 rfl 5 rfl ?_
          refine rv_get ka_Desk hD.1 rfl 3 (by decide) (wi_Desk_order _ (List.mem_of_getElem? (i := 0) rfl)) rfl d_Desk_order_56 ?_
          refine rv_aload d_Desk_order_59 0 rfl ?_
          refine rv_get ka_Tx (hD.2.2.2.1.2.2 p hp0).1 rfl 0 (by decide) (wi_Desk_order _ (List.mem_of_getElem? (i := 7) rfl)) rfl d_Desk_order_61 ?_
          refine rv_callV (kc' := 0) (ks' := 0) (kc1 := 0) (ks1 := 0) (As := [.ref ((dk_P L).2.2.1 p)]) (rest := []) hD.2.2.2.2.1 rfl (c_Row_add hD.2.2.2.2.1 hD.2.2.2.2.2.1 (hD.2.2.2.1.2.2 p hp0).2.1 (show r.1 < 41 by omega)) ok_Row_add (wi_Desk_order _ (List.mem_of_getElem? (i := 8) rfl)) (wi_Desk_order _ (List.mem_of_getElem? (i := 9) rfl)) (wi_Desk_order _ (List.mem_of_getElem? (i := 10) rfl)) rfl rfl (Nat.le_of_ble_eq_true rfl) (Nat.le_of_ble_eq_true rfl) ⟨Nat.le_of_ble_eq_true rfl, Nat.le_of_ble_eq_true rfl⟩ d_Desk_order_64 (rv_kv (fun hp69 ehp69 => ?_))
          have hD1 : dk_At ca hp69 L (S.1, S.2.1, S.2.2.1, r.1 + 1, kx_w r.2 (r.1 * 4) (S.2.2.1.2.2 p).1) := by rw [ehp69]; exact dk_setR hD hO (n := r.1 + 1) (by omega)
          have hu1 : dk_out L hp hp69 := by rw [ehp69]; exact dk_outR
          obtain ⟨f1, hf1, hfp1⟩ := hD1.2.2.2.1.2.1
          refine rv_lload_n d_Desk_order_67 rfl 4 rfl ?_
          refine rv_iload d_Desk_order_68 1 rfl ?_
          refine rv_callS (kc' := 0) (ks' := 0) (kc1 := 0) (ks1 := 0) (As := [.int (nI p)]) (rest := [.long dn]) (c_Desk_bit) ok_Desk_bit (wi_Desk_order _ (List.mem_of_getElem? (i := 11) rfl)) (wi_Desk_order _ (List.mem_of_getElem? (i := 12) rfl)) rfl rfl (Nat.le_of_ble_eq_true rfl) (Nat.le_of_ble_eq_true rfl) ⟨Nat.le_of_ble_eq_true rfl, Nat.le_of_ble_eq_true rfl⟩ d_Desk_order_70 (rv_kle ?_)
          refine rv_lor d_Desk_order_73 ?_
          refine rv_lstore_n (lv' := [(2, .long (dn ||| (bz_b p))), (7, .ref ((dk_P L).2.1 p)), (6, .int (nI p)), (5, .int (nI i)), (4, .int rm), (0, .ref (dk_x L)), (1, .int z)]) d_Desk_order_74 rfl (by decide) rfl ?_
          refine rv_iload d_Desk_order_75 4 rfl ?_
          refine rv_aload d_Desk_order_77 1 rfl ?_
          refine rv_get ka_Tx (hD1.2.2.2.1.2.2 p hp0).1 rfl 3 (by decide) (wi_Desk_order _ (List.mem_of_getElem? (i := 13) rfl)) rfl d_Desk_order_79 ?_
          refine rv_isub d_Desk_order_82 ?_
          refine rv_istore (lv' := [(4, .int (rm - ((S.2.2.1.2.2 p).2.2.2.1))), (2, .long (dn ||| (bz_b p))), (7, .ref ((dk_P L).2.1 p)), (6, .int (nI p)), (5, .int (nI i)), (0, .ref (dk_x L)), (1, .int z)]) d_Desk_order_83 (by decide) rfl ?_
          refine rv_iinc (k := 4) (v := nI (i + 1)) (lv' := [(5, .int (nI (i + 1))), (4, .int (rm - ((S.2.2.1.2.2 p).2.2.2.1))), (2, .long (dn ||| (bz_b p))), (7, .ref ((dk_P L).2.1 p)), (6, .int (nI p)), (0, .ref (dk_x L)), (1, .int z)]) d_Desk_order_85 rfl (nI_1 _) (by decide) rfl ?_
          refine rv_goto (tgt := 15) d_Desk_order_88 (by decide) ?_
          rw [e]
          exact rv_lv [0, 1, 2, 5, 6] rfl (ih (i + 1) hp69 _ _ (r.1 + 1, kx_w r.2 (r.1 * 4) (S.2.2.1.2.2 p).1) (by omega) (by show r.1 + 1 = i + 1; rw [hr]) hD1 (dk_out_tr hu hu1))
        · exact absurd c_37 (nI_m1 (by omega))
set_option maxHeartbeats 1000000 in
set_option maxRecDepth 100000 in
theorem c_Desk_order {l : Launch} {D : va_G} {ca : Nat → ClassId} {hp : hp_T} {d : Nat} {L : dk_L} {S : dk_S} (hD : dk_At ca hp L S) (hO : dk_ok L) {z : Int32} : ma_V l D ca ma_T M_Desk_order (d + 4) 0 0 hp (ma_qi (fun x hp1 => x = nI (ds_ord S z).1 ∧ dk_At ca hp1 L (S.1, S.2.1, S.2.2.1, ds_ord S z) ∧ dk_out L hp hp1)) 0 (lv_args 0 [.ref (dk_x L), .int z]) [] := by
  change ma_V l D ca ma_T M_Desk_order (d + 4) 0 0 hp (ma_qi (fun x hp1 => x = nI (ds_ord S z).1 ∧ dk_At ca hp1 L (S.1, S.2.1, S.2.2.1, ds_ord S z) ∧ dk_out L hp hp1)) 0 [(0, .ref (dk_x L)), (1, .int z)] []
  refine rv_aload_n d_Desk_order_0 rfl 0 rfl ?_
  refine rv_get ka_Desk hD.1 rfl 3 (by decide) (wi_Desk_order _ (List.mem_of_getElem? (i := 0) rfl)) rfl d_Desk_order_1 ?_
  refine rv_callV (kc' := 0) (ks' := 0) (kc1 := 0) (ks1 := 0) (As := []) (rest := []) hD.2.2.2.2.1 rfl (c_Row_clear hD.2.2.2.2.1 hD.2.2.2.2.2.1) ok_Row_clear (wi_Desk_order _ (List.mem_of_getElem? (i := 14) rfl)) (wi_Desk_order _ (List.mem_of_getElem? (i := 15) rfl)) (wi_Desk_order _ (List.mem_of_getElem? (i := 16) rfl)) rfl rfl (Nat.le_of_ble_eq_true rfl) (Nat.le_of_ble_eq_true rfl) ⟨Nat.le_of_ble_eq_true rfl, Nat.le_of_ble_eq_true rfl⟩ d_Desk_order_4 (rv_kv (fun hp70 ehp70 => ?_))
  rw [dk_clearR hD] at ehp70
  have hD1 : dk_At ca hp70 L (S.1, S.2.1, S.2.2.1, 0, S.2.2.2.2) := by rw [ehp70]; exact dk_setR hD hO (n := 0) (by omega)
  have hu1 : dk_out L hp hp70 := by rw [ehp70]; exact dk_outR
  refine rv_lconst (v := 0) d_Desk_order_7 (by decide) ?_
  refine rv_lstore_n (lv' := [(2, .long 0), (0, .ref (dk_x L)), (1, .int z)]) d_Desk_order_8 rfl (by decide) rfl ?_
  refine rv_iload_n d_Desk_order_9 rfl 2 rfl ?_
  refine rv_istore (lv' := [(4, .int z), (2, .long 0), (0, .ref (dk_x L)), (1, .int z)]) d_Desk_order_10 (by decide) rfl ?_
  refine rv_iconst (v := nI 0) d_Desk_order_12 (by decide) ?_
  refine rv_istore (lv' := [(5, .int (nI 0)), (4, .int z), (2, .long 0), (0, .ref (dk_x L)), (1, .int z)]) d_Desk_order_13 (by decide) rfl ?_
  exact rv_lv [0, 1, 2, 3, 4] rfl (c_Desk_order_l hO 41 0 hp70 0 z (0, S.2.2.2.2) (Nat.zero_add _) rfl hD1 hu1)
set_option maxHeartbeats 1000000 in
set_option maxRecDepth 100000 in
theorem c_Desk_letIn {l : Launch} {D : va_G} {ca : Nat → ClassId} {hp : hp_T} {d : Nat} {L : dk_L} {S : dk_S} (hD : dk_At ca hp L S) (hO : dk_ok L) {f0 : Int64} {z o : Int32} : ma_V l D ca ma_T M_Desk_letIn (d + 5) 0 0 hp (ma_qi (fun x hp1 => x = (ds_in S.2.2.1 S.1 S.2.1 f0 z o).1 ∧ dk_At ca hp1 L (S.1, S.2.1, (ds_in S.2.2.1 S.1 S.2.1 f0 z o).2, S.2.2.2) ∧ dk_out L hp hp1)) 0 (lv_args 0 [.ref (dk_x L), .long f0, .int z, .int o]) [] := by
  change ma_V l D ca ma_T M_Desk_letIn (d + 5) 0 0 hp (ma_qi (fun x hp1 => x = (ds_in S.2.2.1 S.1 S.2.1 f0 z o).1 ∧ dk_At ca hp1 L (S.1, S.2.1, (ds_in S.2.2.1 S.1 S.2.1 f0 z o).2, S.2.2.2) ∧ dk_out L hp hp1)) 0 [(0, .ref (dk_x L)), (1, .long f0), (3, .int z), (4, .int o)] []
  obtain ⟨f, hf, hfp⟩ := hD.2.2.2.1.2.1
  refine rv_aload_n d_Desk_letIn_0 rfl 0 rfl ?_
  refine rv_get ka_Desk hD.1 rfl 2 (by decide) (wi_Desk_letIn _ (List.mem_of_getElem? (i := 0) rfl)) rfl d_Desk_letIn_1 ?_
  refine rv_callV (kc' := 0) (ks' := 0) (kc1 := 0) (ks1 := 0) (As := []) (rest := []) hD.2.2.2.1.1 rfl (c_Pool_freePlace hD.2.2.2.1) ok_Pool_freePlace (wi_Desk_letIn _ (List.mem_of_getElem? (i := 1) rfl)) (wi_Desk_letIn _ (List.mem_of_getElem? (i := 2) rfl)) (wi_Desk_letIn _ (List.mem_of_getElem? (i := 3) rfl)) rfl rfl (Nat.le_of_ble_eq_true rfl) (Nat.le_of_ble_eq_true rfl) ⟨Nat.le_of_ble_eq_true rfl, Nat.le_of_ble_eq_true rfl⟩ d_Desk_letIn_4 (rv_kie ?_)
  refine rv_eqi (y := ob_i (cl_freeo S.2.2.1)) (cl_free_o _) ?_
  cases eo : cl_freeo S.2.2.1 with
  | none =>
    refine rv_eqi (y := (-1)) rfl ?_
    have e : (ds_in S.2.2.1 S.1 S.2.1 f0 z o) = (-1, S.2.2.1) := by unfold ds_in; rw [eo]
    rw [e]
    refine rv_istore (lv' := [(5, .int (-1)), (0, .ref (dk_x L)), (1, .long f0), (3, .int z), (4, .int o)]) d_Desk_letIn_7 (by decide) rfl ?_
    refine rv_iload d_Desk_letIn_9 0 rfl ?_
    refine rv_iconst (v := (-1)) d_Desk_letIn_11 (by decide) ?_
    refine rv_icmp_ne (tgt := 17) d_Desk_letIn_12 (by decide) (fun c_12 => ?_) (fun c_12 => ?_)
    · exact absurd rfl c_12
    · refine rv_iconst (v := (-1)) d_Desk_letIn_15 (by decide) ?_
      exact rv_ireturn ⟨_, rfl, rfl, hD, dk_out_rf⟩ d_Desk_letIn_16 rfl rfl
  | some q =>
    refine rv_eqi (y := nI q) rfl ?_
    obtain ⟨hq, hfree⟩ := cl_freeo_some eo
    have e : (ds_in S.2.2.1 S.1 S.2.1 f0 z o) = if bz_c (ds_in2 S.2.2.1 q S.1 S.2.1 f0 z o).1 64 ≤ 40 then (nI 0, (ds_in2 S.2.2.1 q S.1 S.2.1 f0 z o)) else (if bz_t (ds_in3 S.2.2.1 q S.1 S.2.1 f0 z o).1 q = true then nI 0 else nI 5, (ds_in3 S.2.2.1 q S.1 S.2.1 f0 z o)) := by unfold ds_in; rw [eo]
    refine rv_istore (lv' := [(5, .int (nI q)), (0, .ref (dk_x L)), (1, .long f0), (3, .int z), (4, .int o)]) d_Desk_letIn_7 (by decide) rfl ?_
    refine rv_iload d_Desk_letIn_9 0 rfl ?_
    refine rv_iconst (v := (-1)) d_Desk_letIn_11 (by decide) ?_
    refine rv_icmp_ne (tgt := 17) d_Desk_letIn_12 (by decide) (fun c_12 => ?_) (fun c_12 => ?_)
    · refine rv_aload_n d_Desk_letIn_17 rfl 1 rfl ?_
      refine rv_get ka_Desk hD.1 rfl 2 (by decide) (wi_Desk_letIn _ (List.mem_of_getElem? (i := 0) rfl)) rfl d_Desk_letIn_18 ?_
      refine rv_get ka_Pool hD.2.2.2.1.1 rfl 0 (by decide) (wi_Desk_letIn _ (List.mem_of_getElem? (i := 4) rfl)) rfl d_Desk_letIn_21 ?_
      refine rv_iload d_Desk_letIn_24 0 rfl ?_
      refine rv_aald hf 2 rfl hq (by decide) d_Desk_letIn_26 ?_
      refine rv_eqv (y := .ref ((dk_P L).2.1 q)) ((by rw [hfp q hq]; rfl)) ?_
      refine rv_lload_n d_Desk_letIn_27 rfl 2 rfl ?_
      refine rv_iload_n d_Desk_letIn_28 rfl 3 rfl ?_
      refine rv_iload d_Desk_letIn_29 4 rfl ?_
      refine rv_callV (kc' := 0) (ks' := 0) (kc1 := 0) (ks1 := 0) (As := [.long f0, .int z, .int o]) (rest := []) (hD.2.2.2.1.2.2 q hq).1 rfl (c_Tx_describe (hD.2.2.2.1.2.2 q hq).1) ok_Tx_describe (wi_Desk_letIn _ (List.mem_of_getElem? (i := 5) rfl)) (wi_Desk_letIn _ (List.mem_of_getElem? (i := 6) rfl)) (wi_Desk_letIn _ (List.mem_of_getElem? (i := 7) rfl)) rfl rfl (Nat.le_of_ble_eq_true rfl) (Nat.le_of_ble_eq_true rfl) ⟨Nat.le_of_ble_eq_true rfl, Nat.le_of_ble_eq_true rfl⟩ d_Desk_letIn_31 (rv_kv (fun hp71 ehp71 => ?_))
      have hP1 : po_At ca hp71 (dk_p L) (dk_P L) (ds_in1 S.2.2.1 q f0 z o) := by rw [ehp71]; exact po_setTx hD.2.2.2.1 hO.1 hq rfl rfl
      have ho1 : po_out (dk_p L) (dk_P L) hp hp71 := by rw [ehp71]; exact po_out_up po_out_rf (po_fp_tx hq)
      have hD1 := dk_setP hD hO hP1 ho1
      have hu1 : dk_out L hp hp71 := dk_out_po ho1
      obtain ⟨f1, hf1, hfp1⟩ := hD1.2.2.2.1.2.1
      refine rv_aload_n d_Desk_letIn_34 rfl 1 rfl ?_
      refine rv_get ka_Desk hD1.1 rfl 2 (by decide) (wi_Desk_letIn _ (List.mem_of_getElem? (i := 0) rfl)) rfl d_Desk_letIn_35 ?_
      refine rv_iload d_Desk_letIn_38 0 rfl ?_
      refine rv_aload_n d_Desk_letIn_40 rfl 1 rfl ?_
      refine rv_get ka_Desk hD1.1 rfl 0 (by decide) (wi_Desk_letIn _ (List.mem_of_getElem? (i := 8) rfl)) rfl d_Desk_letIn_41 ?_
      refine rv_aload_n d_Desk_letIn_44 rfl 1 rfl ?_
      refine rv_get ka_Desk hD1.1 rfl 1 (by decide) (wi_Desk_letIn _ (List.mem_of_getElem? (i := 9) rfl)) rfl d_Desk_letIn_45 ?_
      refine rv_callV (kc' := 0) (ks' := 0) (kc1 := 0) (ks1 := 0) (As := [.int (nI q), .ref (dk_n L), .ref (dk_k L)]) (rest := []) hD1.2.2.2.1.1 rfl (c_Pool_settle hP1 hO.1 hq hfree hD1.2.1 hO.2.1 hD1.2.2.1 hO.2.2.1) ok_Pool_settle (wi_Desk_letIn _ (List.mem_of_getElem? (i := 10) rfl)) (wi_Desk_letIn _ (List.mem_of_getElem? (i := 11) rfl)) (wi_Desk_letIn _ (List.mem_of_getElem? (i := 12) rfl)) rfl rfl (Nat.le_of_ble_eq_true rfl) (Nat.le_of_ble_eq_true rfl) ⟨Nat.le_of_ble_eq_true rfl, Nat.le_of_ble_eq_true rfl⟩ d_Desk_letIn_48 (rv_kv (fun hp72 ehp72 => ?_))
      obtain ⟨hP2, ho2⟩ := ehp72
      have hD2 : dk_At ca hp72 L (S.1, S.2.1, (ds_in2 S.2.2.1 q S.1 S.2.1 f0 z o), S.2.2.2) := dk_setP hD1 hO hP2 ho2
      have hu2 : dk_out L hp hp72 := dk_out_tr hu1 (dk_out_po ho2)
      obtain ⟨f2, hf2, hfp2⟩ := hD2.2.2.2.1.2.1
      have hc64 := bz_c_le (ds_in2 S.2.2.1 q S.1 S.2.1 f0 z o).1 64
      refine rv_aload_n d_Desk_letIn_51 rfl 1 rfl ?_
      refine rv_get ka_Desk hD2.1 rfl 2 (by decide) (wi_Desk_letIn _ (List.mem_of_getElem? (i := 0) rfl)) rfl d_Desk_letIn_52 ?_
      refine rv_get ka_Pool hD2.2.2.2.1.1 rfl 1 (by decide) (wi_Desk_letIn _ (List.mem_of_getElem? (i := 13) rfl)) rfl d_Desk_letIn_55 ?_
      refine rv_callS (kc' := 0) (ks' := 0) (kc1 := 0) (ks1 := 0) (As := [.long ((ds_in2 S.2.2.1 q S.1 S.2.1 f0 z o).1)]) (rest := []) (c_Long_bitCount) ok_Long_bitCount (wi_Desk_letIn _ (List.mem_of_getElem? (i := 14) rfl)) (wi_Desk_letIn _ (List.mem_of_getElem? (i := 15) rfl)) rfl rfl (Nat.le_of_ble_eq_true rfl) (Nat.le_of_ble_eq_true rfl) ⟨Nat.le_of_ble_eq_true rfl, Nat.le_of_ble_eq_true rfl⟩ d_Desk_letIn_58 (rv_kie ?_)
      refine rv_bipush (v := nI 40) d_Desk_letIn_61 (by decide) ?_
      refine rv_icmp_gt (tgt := 68) d_Desk_letIn_63 (by decide) (fun c_63 => ?_) (fun c_63 => ?_)
      · have hgt : ¬ bz_c (ds_in2 S.2.2.1 q S.1 S.2.1 f0 z o).1 64 ≤ 40 := Nat.not_le.mpr ((nI_ltI (by decide) (by omega)).mp c_63)
        rw [if_neg hgt] at e
        rw [e]
        refine rv_aload_n d_Desk_letIn_68 rfl 1 rfl ?_
        refine rv_aload_n d_Desk_letIn_69 rfl 1 rfl ?_
        refine rv_get ka_Desk hD2.1 rfl 2 (by decide) (wi_Desk_letIn _ (List.mem_of_getElem? (i := 0) rfl)) rfl d_Desk_letIn_70 ?_
        refine rv_callV (kc' := 0) (ks' := 0) (kc1 := 0) (ks1 := 0) (As := []) (rest := [.ref (dk_x L)]) hD2.2.2.2.1.1 rfl (c_Pool_leastPaying hP2) ok_Pool_leastPaying (wi_Desk_letIn _ (List.mem_of_getElem? (i := 16) rfl)) (wi_Desk_letIn _ (List.mem_of_getElem? (i := 17) rfl)) (wi_Desk_letIn _ (List.mem_of_getElem? (i := 18) rfl)) rfl rfl (Nat.le_of_ble_eq_true rfl) (Nat.le_of_ble_eq_true rfl) ⟨Nat.le_of_ble_eq_true rfl, Nat.le_of_ble_eq_true rfl⟩ d_Desk_letIn_73 (rv_kie ?_)
        refine rv_callV (kc' := 0) (ks' := 0) (kc1 := 0) (ks1 := 0) (As := [.int (ob_i (cl_least (ds_in2 S.2.2.1 q S.1 S.2.1 f0 z o)))]) (rest := []) hD2.1 rfl (c_Desk_removeFamily hD2 hO (o := cl_least (ds_in2 S.2.2.1 q S.1 S.2.1 f0 z o)) (fun p h => cl_least_lt h)) ok_Desk_removeFamily (wi_Desk_letIn _ (List.mem_of_getElem? (i := 19) rfl)) (wi_Desk_letIn _ (List.mem_of_getElem? (i := 20) rfl)) (wi_Desk_letIn _ (List.mem_of_getElem? (i := 21) rfl)) rfl rfl (Nat.le_of_ble_eq_true rfl) (Nat.le_of_ble_eq_true rfl) ⟨Nat.le_of_ble_eq_true rfl, Nat.le_of_ble_eq_true rfl⟩ d_Desk_letIn_76 (rv_ki (fun r73 hp73 ehp73 => ?_))
        obtain ⟨-, hD3, hu3⟩ := ehp73
        have hD3 : dk_At ca hp73 L (S.1, S.2.1, (ds_in3 S.2.2.1 q S.1 S.2.1 f0 z o), S.2.2.2) := hD3
        obtain ⟨f3, hf3, hfp3⟩ := hD3.2.2.2.1.2.1
        refine rv_pop d_Desk_letIn_79 rfl ?_
        refine rv_aload_n d_Desk_letIn_80 rfl 1 rfl ?_
        refine rv_get ka_Desk hD3.1 rfl 2 (by decide) (wi_Desk_letIn _ (List.mem_of_getElem? (i := 0) rfl)) rfl d_Desk_letIn_81 ?_
        refine rv_get ka_Pool hD3.2.2.2.1.1 rfl 1 (by decide) (wi_Desk_letIn _ (List.mem_of_getElem? (i := 13) rfl)) rfl d_Desk_letIn_84 ?_
        refine rv_iload d_Desk_letIn_87 0 rfl ?_
        refine rv_callS (kc' := 0) (ks' := 0) (kc1 := 0) (ks1 := 0) (As := [.long ((ds_in3 S.2.2.1 q S.1 S.2.1 f0 z o).1), .int (nI q)]) (rest := []) (c_Desk_has (by omega)) ok_Desk_has (wi_Desk_letIn _ (List.mem_of_getElem? (i := 22) rfl)) (wi_Desk_letIn _ (List.mem_of_getElem? (i := 23) rfl)) rfl rfl (Nat.le_of_ble_eq_true rfl) (Nat.le_of_ble_eq_true rfl) ⟨Nat.le_of_ble_eq_true rfl, Nat.le_of_ble_eq_true rfl⟩ d_Desk_letIn_89 (rv_kie ?_)
        refine rv_if_eq (tgt := 99) d_Desk_letIn_92 (by decide) (fun c_92 => ?_) (fun c_92 => ?_)
        · have r0 := bI_0.mp c_92
          refine rv_iconst (v := nI 5) d_Desk_letIn_99 (by decide) ?_
          exact rv_ireturn ⟨_, rfl, by rw [r0]; rfl, hD3, dk_out_tr hu2 hu3⟩ d_Desk_letIn_100 rfl rfl
        · have r0 := bI_n.mp c_92
          refine rv_iconst (v := nI 0) d_Desk_letIn_95 (by decide) ?_
          refine rv_goto (tgt := 100) d_Desk_letIn_96 (by decide) ?_
          exact rv_ireturn ⟨_, rfl, by rw [r0]; rfl, hD3, dk_out_tr hu2 hu3⟩ d_Desk_letIn_100 rfl rfl
      · have hle : bz_c (ds_in2 S.2.2.1 q S.1 S.2.1 f0 z o).1 64 ≤ 40 := Nat.not_lt.mp (fun z => c_63 (nI_lt z (by omega)))
        rw [if_pos hle] at e
        rw [e]
        refine rv_iconst (v := nI 0) d_Desk_letIn_66 (by decide) ?_
        exact rv_ireturn ⟨_, rfl, rfl, hD2, hu2⟩ d_Desk_letIn_67 rfl rfl
    · exact absurd c_12 (nI_m1 (by omega))
set_option maxHeartbeats 1000000 in
set_option maxRecDepth 100000 in
theorem c_Desk_enter {l : Launch} {D : va_G} {ca : Nat → ClassId} {hp : hp_T} {d : Nat} {L : dk_L} {S : dk_S} (hD : dk_At ca hp L S) (hO : dk_ok L) {f0 : Int64} {z o : Int32} : ma_V l D ca ma_T M_Desk_enter (d + 6) 0 0 hp (ma_qi (fun x hp1 => x = (ds_enter S f0 z o).1 ∧ dk_At ca hp1 L (ds_enter S f0 z o).2 ∧ dk_out L hp hp1)) 0 (lv_args 0 [.ref (dk_x L), .long f0, .int z, .int o]) [] := by
  change ma_V l D ca ma_T M_Desk_enter (d + 6) 0 0 hp (ma_qi (fun x hp1 => x = (ds_enter S f0 z o).1 ∧ dk_At ca hp1 L (ds_enter S f0 z o).2 ∧ dk_out L hp hp1)) 0 [(0, .ref (dk_x L)), (1, .long f0), (3, .int z), (4, .int o)] []
  have h8 := hD.2.2.1.2.2.2
  refine rv_aload_n d_Desk_enter_0 rfl 0 rfl ?_
  refine rv_get ka_Desk hD.1 rfl 1 (by decide) (wi_Desk_enter _ (List.mem_of_getElem? (i := 0) rfl)) rfl d_Desk_enter_1 ?_
  refine rv_get ka_Keys hD.2.2.1.1 rfl 2 (by decide) (wi_Desk_enter _ (List.mem_of_getElem? (i := 1) rfl)) rfl d_Desk_enter_4 ?_
  refine rv_if_eq (tgt := 20) d_Desk_enter_7 (by decide) (fun c_7 => ?_) (fun c_7 => ?_)
  · have e0 : S.2.1.1 = 0 := (nI_eq (b := 0) (by omega) (by decide)).mp c_7
    have e : (ds_enter S f0 z o) = (-1, S) := if_pos (Or.inl e0)
    rw [e]
    refine rv_iconst (v := (-1)) d_Desk_enter_20 (by decide) ?_
    exact rv_ireturn ⟨_, rfl, rfl, hD, dk_out_rf⟩ d_Desk_enter_21 rfl rfl
  · have e0 : ¬ S.2.1.1 = 0 := fun z => c_7 (by rw [z]; rfl)
    refine rv_lload_n d_Desk_enter_10 rfl 1 rfl ?_
    refine rv_iload_n d_Desk_enter_11 rfl 2 rfl ?_
    refine rv_iload d_Desk_enter_12 3 rfl ?_
    refine rv_callS (kc' := 0) (ks' := 0) (kc1 := 0) (ks1 := 0) (As := [.long f0, .int z, .int o]) (rest := []) (c_Desk_isTransaction) ok_Desk_isTransaction (wi_Desk_enter _ (List.mem_of_getElem? (i := 2) rfl)) (wi_Desk_enter _ (List.mem_of_getElem? (i := 3) rfl)) rfl rfl (Nat.le_of_ble_eq_true rfl) (Nat.le_of_ble_eq_true rfl) ⟨Nat.le_of_ble_eq_true rfl, Nat.le_of_ble_eq_true rfl⟩ d_Desk_enter_14 (rv_kie ?_)
    refine rv_if_ne (tgt := 22) d_Desk_enter_17 (by decide) (fun c_17 => ?_) (fun c_17 => ?_)
    · have e1 : (ds_enter S f0 z o) = (if cl_hind S.2.2.1 S.1 S.2.1 o = nI 0 then ((ds_in S.2.2.1 S.1 S.2.1 f0 z o).1, (S.1, (0, S.2.1.2), (ds_in S.2.2.1 S.1 S.2.1 f0 z o).2, S.2.2.2)) else (cl_hind S.2.2.1 S.1 S.2.1 o, (S.1, (0, S.2.1.2), S.2.2))) := if_neg (by rintro (z | z); exact e0 z; rw [bI_n.mp c_17] at z; cases z)
      refine rv_aload_n d_Desk_enter_22 rfl 0 rfl ?_
      refine rv_get ka_Desk hD.1 rfl 2 (by decide) (wi_Desk_enter _ (List.mem_of_getElem? (i := 4) rfl)) rfl d_Desk_enter_23 ?_
      refine rv_aload_n d_Desk_enter_26 rfl 0 rfl ?_
      refine rv_get ka_Desk hD.1 rfl 0 (by decide) (wi_Desk_enter _ (List.mem_of_getElem? (i := 5) rfl)) rfl d_Desk_enter_27 ?_
      refine rv_aload_n d_Desk_enter_30 rfl 0 rfl ?_
      refine rv_get ka_Desk hD.1 rfl 1 (by decide) (wi_Desk_enter _ (List.mem_of_getElem? (i := 0) rfl)) rfl d_Desk_enter_31 ?_
      refine rv_iload d_Desk_enter_34 3 rfl ?_
      refine rv_callV (kc' := 0) (ks' := 0) (kc1 := 0) (ks1 := 0) (As := [.ref (dk_n L), .ref (dk_k L), .int o]) (rest := []) hD.2.2.2.1.1 rfl (c_Pool_hindrance hD.2.2.2.1 hD.2.1 hD.2.2.1) ok_Pool_hindrance (wi_Desk_enter _ (List.mem_of_getElem? (i := 6) rfl)) (wi_Desk_enter _ (List.mem_of_getElem? (i := 7) rfl)) (wi_Desk_enter _ (List.mem_of_getElem? (i := 8) rfl)) rfl rfl (Nat.le_of_ble_eq_true rfl) (Nat.le_of_ble_eq_true rfl) ⟨Nat.le_of_ble_eq_true rfl, Nat.le_of_ble_eq_true rfl⟩ d_Desk_enter_36 (rv_kie ?_)
      refine rv_istore (lv' := [(5, .int (cl_hind S.2.2.1 S.1 S.2.1 o)), (0, .ref (dk_x L)), (1, .long f0), (3, .int z), (4, .int o)]) d_Desk_enter_39 (by decide) rfl ?_
      refine rv_iload d_Desk_enter_41 0 rfl ?_
      refine rv_if_ne (tgt := 56) d_Desk_enter_43 (by decide) (fun c_43 => ?_) (fun c_43 => ?_)
      · have e2 : ¬ cl_hind S.2.2.1 S.1 S.2.1 o = nI 0 := c_43
        rw [if_neg e2] at e1
        rw [e1]
        refine rv_aload_n d_Desk_enter_56 rfl 1 rfl ?_
        refine rv_get ka_Desk hD.1 rfl 1 (by decide) (wi_Desk_enter _ (List.mem_of_getElem? (i := 0) rfl)) rfl d_Desk_enter_57 ?_
        refine rv_callV (kc' := 0) (ks' := 0) (kc1 := 0) (ks1 := 0) (As := []) (rest := []) hD.2.2.1.1 rfl (c_Keys_clear hD.2.2.1) ok_Keys_clear (wi_Desk_enter _ (List.mem_of_getElem? (i := 9) rfl)) (wi_Desk_enter _ (List.mem_of_getElem? (i := 10) rfl)) (wi_Desk_enter _ (List.mem_of_getElem? (i := 11) rfl)) rfl rfl (Nat.le_of_ble_eq_true rfl) (Nat.le_of_ble_eq_true rfl) ⟨Nat.le_of_ble_eq_true rfl, Nat.le_of_ble_eq_true rfl⟩ d_Desk_enter_60 (rv_kv (fun hp74 ehp74 => ?_))
        rw [dk_clear hD] at ehp74
        have hDz := dk_setK hD hO (v := (0, S.2.1.2)) (Nat.zero_le _)
        rw [← ehp74] at hDz
        have huz : dk_out L hp hp74 := by rw [ehp74]; exact dk_outK
        refine rv_iload d_Desk_enter_63 0 rfl ?_
        exact rv_ireturn ⟨_, rfl, rfl, hDz, huz⟩ d_Desk_enter_65 rfl rfl
      · have e2 : cl_hind S.2.2.1 S.1 S.2.1 o = nI 0 := c_43
        rw [if_pos e2] at e1
        rw [e1]
        refine rv_aload_n d_Desk_enter_46 rfl 1 rfl ?_
        refine rv_lload_n d_Desk_enter_47 rfl 2 rfl ?_
        refine rv_iload_n d_Desk_enter_48 rfl 3 rfl ?_
        refine rv_iload d_Desk_enter_49 4 rfl ?_
        refine rv_callV (kc' := 0) (ks' := 0) (kc1 := 0) (ks1 := 0) (As := [.long f0, .int z, .int o]) (rest := []) hD.1 rfl (c_Desk_letIn hD hO) ok_Desk_letIn (wi_Desk_enter _ (List.mem_of_getElem? (i := 12) rfl)) (wi_Desk_enter _ (List.mem_of_getElem? (i := 13) rfl)) (wi_Desk_enter _ (List.mem_of_getElem? (i := 14) rfl)) rfl rfl (Nat.le_of_ble_eq_true rfl) (Nat.le_of_ble_eq_true rfl) ⟨Nat.le_of_ble_eq_true rfl, Nat.le_of_ble_eq_true rfl⟩ d_Desk_enter_51 (rv_ki (fun r75 hp75 ehp75 => ?_))
        obtain ⟨er, hD1, hu1⟩ := ehp75
        refine rv_istore (lv' := [(5, .int r75), (0, .ref (dk_x L)), (1, .long f0), (3, .int z), (4, .int o)]) d_Desk_enter_54 (by decide) rfl ?_
        refine rv_aload_n d_Desk_enter_56 rfl 1 rfl ?_
        refine rv_get ka_Desk hD1.1 rfl 1 (by decide) (wi_Desk_enter _ (List.mem_of_getElem? (i := 0) rfl)) rfl d_Desk_enter_57 ?_
        refine rv_callV (kc' := 0) (ks' := 0) (kc1 := 0) (ks1 := 0) (As := []) (rest := []) hD1.2.2.1.1 rfl (c_Keys_clear hD1.2.2.1) ok_Keys_clear (wi_Desk_enter _ (List.mem_of_getElem? (i := 9) rfl)) (wi_Desk_enter _ (List.mem_of_getElem? (i := 10) rfl)) (wi_Desk_enter _ (List.mem_of_getElem? (i := 11) rfl)) rfl rfl (Nat.le_of_ble_eq_true rfl) (Nat.le_of_ble_eq_true rfl) ⟨Nat.le_of_ble_eq_true rfl, Nat.le_of_ble_eq_true rfl⟩ d_Desk_enter_60 (rv_kv (fun hp76 ehp76 => ?_))
        rw [dk_clear hD1] at ehp76
        have hDz := dk_setK hD1 hO (v := (0, S.2.1.2)) (Nat.zero_le _)
        rw [← ehp76] at hDz
        have huz : dk_out L hp75 hp76 := by rw [ehp76]; exact dk_outK
        refine rv_iload d_Desk_enter_63 0 rfl ?_
        exact rv_ireturn ⟨_, rfl, er, hDz, dk_out_tr hu1 huz⟩ d_Desk_enter_65 rfl rfl
    · have e : (ds_enter S f0 z o) = (-1, S) := if_pos (Or.inr (bI_0.mp c_17))
      rw [e]
      refine rv_iconst (v := (-1)) d_Desk_enter_20 (by decide) ?_
      exact rv_ireturn ⟨_, rfl, rfl, hD, dk_out_rf⟩ d_Desk_enter_21 rfl rfl
