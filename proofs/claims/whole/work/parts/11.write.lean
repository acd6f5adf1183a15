def wl_Keys_clear : List Cond := [.fieldLink "PoolDesk$Keys" 19 "PoolDesk$Keys" "held" "I"]
theorem wi_Keys_clear : ∀ w ∈ wl_Keys_clear, w ∈ ma_tbl := by decide +kernel
def wl_Keys_add : List Cond := [.fieldLink "PoolDesk$Keys" 19 "PoolDesk$Keys" "held" "I", .methodLink "PoolDesk$Keys" 23 y_Keys_contains, .instanceMethod y_Keys_contains, .selects "PoolDesk$Keys" y_Keys_contains y_Keys_contains, .fieldLink "PoolDesk$Keys" 9 "PoolDesk$Keys" "words" "[J", .methodLink "PoolDesk$Keys" 27 y_Name_write, .instanceMethod y_Name_write, .selects "PoolDesk$Name" y_Name_write y_Name_write, .fieldLink "PoolDesk$Keys" 15 "PoolDesk$Keys" "indexes" "[I"]
theorem wi_Keys_add : ∀ w ∈ wl_Keys_add, w ∈ ma_tbl := by decide +kernel
def wl_Keys_copy : List Cond := [.fieldLink "PoolDesk$Keys" 9 "PoolDesk$Keys" "words" "[J", .methodLink "PoolDesk$Keys" 33 arraycopyName, .native arraycopyName, .static arraycopyName, .initialized "java/lang/System", .fieldLink "PoolDesk$Keys" 15 "PoolDesk$Keys" "indexes" "[I", .fieldLink "PoolDesk$Keys" 19 "PoolDesk$Keys" "held" "I"]
theorem wi_Keys_copy : ∀ w ∈ wl_Keys_copy, w ∈ ma_tbl := by decide +kernel
def wl_Tx_describe : List Cond := [.fieldLink "PoolDesk$Transaction" 23 "PoolDesk$Transaction" "fee" "J", .fieldLink "PoolDesk$Transaction" 27 "PoolDesk$Transaction" "size" "I", .fieldLink "PoolDesk$Transaction" 31 "PoolDesk$Transaction" "outputs" "I"]
theorem wi_Tx_describe : ∀ w ∈ wl_Tx_describe, w ∈ ma_tbl := by decide +kernel
def wl_Row_clear : List Cond := [.fieldLink "PoolDesk$Row" 15 "PoolDesk$Row" "length" "I"]
theorem wi_Row_clear : ∀ w ∈ wl_Row_clear, w ∈ ma_tbl := by decide +kernel
def wl_Row_add : List Cond := [.fieldLink "PoolDesk$Row" 15 "PoolDesk$Row" "length" "I", .fieldLink "PoolDesk$Row" 9 "PoolDesk$Row" "words" "[J", .methodLink "PoolDesk$Row" 19 y_Name_write, .instanceMethod y_Name_write, .selects "PoolDesk$Name" y_Name_write y_Name_write]
theorem wi_Row_add : ∀ w ∈ wl_Row_add, w ∈ ma_tbl := by decide +kernel
def wl_Pool_remove : List Cond := [.fieldLink "PoolDesk$Pool" 11 "PoolDesk$Pool" "places" "[LPoolDesk$Transaction;", .fieldLink "PoolDesk$Pool" 117 "PoolDesk$Transaction" "parents" "J", .constantLong "PoolDesk$Pool" 46 (-1), .fieldLink "PoolDesk$Pool" 120 "PoolDesk$Transaction" "children" "J", .fieldLink "PoolDesk$Pool" 18 "PoolDesk$Pool" "present" "J"]
theorem wi_Pool_remove : ∀ w ∈ wl_Pool_remove, w ∈ ma_tbl := by decide +kernel
def wl_Pool_settle : List Cond := [.fieldLink "PoolDesk$Pool" 117 "PoolDesk$Transaction" "parents" "J", .static y_Desk_has, .fieldLink "PoolDesk$Pool" 120 "PoolDesk$Transaction" "children" "J", .fieldLink "PoolDesk$Pool" 11 "PoolDesk$Pool" "places" "[LPoolDesk$Transaction;", .static y_Desk_bit, .fieldLink "PoolDesk$Pool" 26 "PoolDesk$Transaction" "ownName" "LPoolDesk$Name;", .fieldLink "PoolDesk$Pool" 97 "PoolDesk$Name" "a" "J", .fieldLink "PoolDesk$Pool" 100 "PoolDesk$Name" "b" "J", .fieldLink "PoolDesk$Pool" 103 "PoolDesk$Name" "c" "J", .fieldLink "PoolDesk$Pool" 106 "PoolDesk$Name" "d" "J", .methodLink "PoolDesk$Pool" 109 y_Name_set, .instanceMethod y_Name_set, .selects "PoolDesk$Name" y_Name_set y_Name_set, .fieldLink "PoolDesk$Pool" 36 "PoolDesk$Transaction" "keys" "LPoolDesk$Keys;", .methodLink "PoolDesk$Pool" 113 y_Keys_copy, .instanceMethod y_Keys_copy, .selects "PoolDesk$Keys" y_Keys_copy y_Keys_copy, .methodLink "PoolDesk$Pool" 89 y_Pool_named, .instanceMethod y_Pool_named, .selects "PoolDesk$Pool" y_Pool_named y_Pool_named, .methodLink "PoolDesk$Pool" 81 y_Pool_spendersOf, .instanceMethod y_Pool_spendersOf, .selects "PoolDesk$Pool" y_Pool_spendersOf y_Pool_spendersOf, .fieldLink "PoolDesk$Pool" 123 "PoolDesk$Pool" "came" "I", .fieldLink "PoolDesk$Pool" 126 "PoolDesk$Transaction" "coming" "I", .fieldLink "PoolDesk$Pool" 18 "PoolDesk$Pool" "present" "J"]
theorem wi_Pool_settle : ∀ w ∈ wl_Pool_settle, w ∈ ma_tbl := by decide +kernel
set_option maxHeartbeats 4000000 in
set_option maxRecDepth 100000 in
theorem c_Keys_clear {l : Launch} {D : va_G} {ca : Nat → ClassId} {hp : hp_T} {d : Nat} {k w i : Nat} {v : kv_T} (h : kx_At ca hp k w i v) : ma_V l D ca ma_T M_Keys_clear d 0 0 hp (ma_qv (fun hp1 => hp1 = hp_up hp k (.inr (1, [.ref w, .ref i, .int (nI 0)])))) 0 (lv_args 0 [.ref k]) [] := by
  change ma_V l D ca ma_T M_Keys_clear d 0 0 hp (ma_qv (fun hp1 => hp1 = hp_up hp k (.inr (1, [.ref w, .ref i, .int (nI 0)])))) 0 [(0, .ref k)] []
  refine rv_aload_n d_Keys_clear_0 rfl 0 rfl ?_
  refine rv_iconst (v := nI 0) d_Keys_clear_1 (by decide) ?_
  refine rv_put (fs' := [.ref w, .ref i, .int (nI 0)]) ka_Keys h.1 rfl 2 (by decide) (wi_Keys_clear _ (List.mem_of_getElem? (i := 0) rfl)) rfl rfl rfl (Nat.le_of_ble_eq_true rfl) rfl d_Keys_clear_2
    (fun hp9 ehp9 => ?_)
  have hf9_0 : hp9 k = some (.inr (1, [.ref w, .ref i, .int (nI 0)])) := by rw [ehp9]; exact hp_us
  have hf9_1 : hp9 w = some (.inl (ca 1, 32, .inr (.inl v.2.1))) := by rw [ehp9, hp_un (hp_ne h.2.1 h.1 (fun q => by first | cases q | simp at q))]; exact h.2.1
  have hf9_2 : hp9 i = some (.inl (ca 0, 8, .inl v.2.2)) := by rw [ehp9, hp_un (hp_ne h.2.2.1 h.1 (fun q => by first | cases q | simp at q))]; exact h.2.2.1
  exact rv_vreturn ⟨rfl, ehp9⟩ d_Keys_clear_5 rfl
set_option maxHeartbeats 4000000 in
set_option maxRecDepth 100000 in
theorem c_Keys_add {l : Launch} {D : va_G} {ca : Nat → ClassId} {hp : hp_T} {d : Nat} {k w i : Nat} {v : kv_T} (h : kx_At ca hp k w i v) {b : Nat} {m0 : nm_T} (hb : hp b = some (.inr (0, nm_F m0))) {x : Int32} : ma_V l D ca ma_T M_Keys_add (d + 2) 0 0 hp (ma_qi (ma_eq (bI (kv_may v m0 x)) (if kv_may v m0 x = true then kx_put ca hp k w i (kv_add v m0 x) else hp))) 0 (lv_args 0 [.ref k, .ref b, .int x]) [] := by
  change ma_V l D ca ma_T M_Keys_add (d + 2) 0 0 hp (ma_qi (ma_eq (bI (kv_may v m0 x)) (if kv_may v m0 x = true then kx_put ca hp k w i (kv_add v m0 x) else hp))) 0 [(0, .ref k), (1, .ref b), (2, .int x)] []
  have h8 := h.2.2.2
  refine rv_aload_n d_Keys_add_0 rfl 0 rfl ?_
  refine rv_get ka_Keys h.1 rfl 2 (by decide) (wi_Keys_add _ (List.mem_of_getElem? (i := 0) rfl)) rfl d_Keys_add_1 ?_
  refine rv_bipush (v := nI 8) d_Keys_add_4 (by decide) ?_
  refine rv_icmp_ge (tgt := 18) d_Keys_add_6 (by decide) (fun c_6 => ?_) (fun c_6 => ?_)
  · have e : kv_may v m0 x = false := by unfold kv_may; rw [decide_eq_false (fun z => nI_ge z (by decide) c_6)]; rfl
    refine rv_iconst (v := nI 0) d_Keys_add_18 (by decide) ?_
    exact rv_ireturn ⟨_, rfl, by rw [e]; rfl, by rw [e]; rfl⟩ d_Keys_add_19 rfl (bI_nar false)
  · have l8 : v.1 < 8 := Nat.not_le.mp (fun z => c_6 (nI_le z (by omega)))
    refine rv_aload_n d_Keys_add_9 rfl 0 rfl ?_
    refine rv_aload_n d_Keys_add_10 rfl 1 rfl ?_
    refine rv_iload_n d_Keys_add_11 rfl 2 rfl ?_
    refine rv_callV (kc' := 0) (ks' := 0) (kc1 := 0) (ks1 := 0) (As := [.ref b, .int x]) (rest := []) h.1 rfl (ck_has h hb) ok_Keys_contains (wi_Keys_add _ (List.mem_of_getElem? (i := 1) rfl)) (wi_Keys_add _ (List.mem_of_getElem? (i := 2) rfl)) (wi_Keys_add _ (List.mem_of_getElem? (i := 3) rfl)) rfl rfl (Nat.le_of_ble_eq_true rfl) (Nat.le_of_ble_eq_true rfl) ⟨Nat.le_of_ble_eq_true rfl, Nat.le_of_ble_eq_true rfl⟩ d_Keys_add_12 (rv_kie ?_)
    refine rv_if_eq (tgt := 20) d_Keys_add_15 (by decide) (fun c_15 => ?_) (fun c_15 => ?_)
    · have e : kv_may v m0 x = true := by unfold kv_may; rw [bI_0.mp c_15, decide_eq_true l8]; rfl
      refine rv_aload_n d_Keys_add_20 rfl 1 rfl ?_
      refine rv_aload_n d_Keys_add_21 rfl 0 rfl ?_
      refine rv_get ka_Keys h.1 rfl 0 (by decide) (wi_Keys_add _ (List.mem_of_getElem? (i := 4) rfl)) rfl d_Keys_add_22 ?_
      refine rv_aload_n d_Keys_add_25 rfl 0 rfl ?_
      refine rv_get ka_Keys h.1 rfl 2 (by decide) (wi_Keys_add _ (List.mem_of_getElem? (i := 0) rfl)) rfl d_Keys_add_26 ?_
      refine rv_iconst (v := nI 4) d_Keys_add_29 (by decide) ?_
      refine rv_imul d_Keys_add_30 ?_
      refine rv_eqi (pk_mul _ _) ?_
      refine rv_callV (kc' := 0) (ks' := 0) (kc1 := 0) (ks1 := 0) (As := [.ref w, .int (nI (v.1 * 4))]) (rest := []) hb rfl (c_Name_write hb h.2.1 (by decide) (by omega)) ok_Name_write (wi_Keys_add _ (List.mem_of_getElem? (i := 5) rfl)) (wi_Keys_add _ (List.mem_of_getElem? (i := 6) rfl)) (wi_Keys_add _ (List.mem_of_getElem? (i := 7) rfl)) rfl rfl (Nat.le_of_ble_eq_true rfl) (Nat.le_of_ble_eq_true rfl) ⟨Nat.le_of_ble_eq_true rfl, Nat.le_of_ble_eq_true rfl⟩ d_Keys_add_31 (rv_kv (fun hp10 ehp10 => ?_))
      have hf10_0 : hp10 k = some (.inr (1, [.ref w, .ref i, .int (nI v.1)])) := by rw [ehp10, hp_un (hp_ne h.1 h.2.1 (fun q => by first | cases q | simp at q))]; exact h.1
      have hf10_1 : hp10 w = some (.inl (ca 1, 32, .inr (.inl (kx_w v.2.1 (v.1 * 4) m0)))) := by rw [ehp10]; exact hp_us
      have hf10_2 : hp10 i = some (.inl (ca 0, 8, .inl v.2.2)) := by rw [ehp10, hp_un (hp_ne h.2.2.1 h.2.1 (fun q => by first | cases q | simp at q))]; exact h.2.2.1
      have hf10_3 : hp10 b = some (.inr (0, [.long m0.1, .long m0.2.1, .long m0.2.2.1, .long m0.2.2.2])) := by rw [ehp10, hp_un (hp_ne hb h.2.1 (fun q => by first | cases q | simp at q))]; exact hb
      refine rv_aload_n d_Keys_add_34 rfl 0 rfl ?_
      refine rv_get ka_Keys hf10_0 rfl 1 (by decide) (wi_Keys_add _ (List.mem_of_getElem? (i := 8) rfl)) rfl d_Keys_add_35 ?_
      refine rv_aload_n d_Keys_add_38 rfl 0 rfl ?_
      refine rv_get ka_Keys hf10_0 rfl 2 (by decide) (wi_Keys_add _ (List.mem_of_getElem? (i := 0) rfl)) rfl d_Keys_add_39 ?_
      refine rv_iload_n d_Keys_add_42 rfl 2 rfl ?_
      refine rv_iast hf10_2 0 rfl (by omega) (by decide) d_Keys_add_43
        (fun hp11 ehp11 => ?_)
      have hf11_0 : hp11 k = some (.inr (1, [.ref w, .ref i, .int (nI v.1)])) := by rw [ehp11, hp_un (hp_ne hf10_0 hf10_2 (fun q => by first | cases q | simp at q))]; exact hf10_0
      have hf11_1 : hp11 w = some (.inl (ca 1, 32, .inr (.inl (kx_w v.2.1 (v.1 * 4) m0)))) := by rw [ehp11, hp_un (hp_ne hf10_1 hf10_2 (fun q => by first | cases q | simp at q))]; exact hf10_1
      have hf11_2 : hp11 i = some (.inl (ca 0, 8, .inl (upd v.2.2 v.1 x))) := by rw [ehp11]; exact hp_us
      have hf11_3 : hp11 b = some (.inr (0, [.long m0.1, .long m0.2.1, .long m0.2.2.1, .long m0.2.2.2])) := by rw [ehp11, hp_un (hp_ne hf10_3 hf10_2 (fun q => by first | cases q | simp at q))]; exact hf10_3
      refine rv_aload_n d_Keys_add_44 rfl 0 rfl ?_
      refine rv_dup d_Keys_add_45 rfl ?_
      refine rv_get ka_Keys hf11_0 rfl 2 (by decide) (wi_Keys_add _ (List.mem_of_getElem? (i := 0) rfl)) rfl d_Keys_add_46 ?_
      refine rv_iconst (v := nI 1) d_Keys_add_49 (by decide) ?_
      refine rv_iadd d_Keys_add_50 ?_
      refine rv_eqi (nI_add _ _) ?_
      refine rv_put (fs' := [.ref w, .ref i, .int (nI (v.1 + 1))]) ka_Keys hf11_0 rfl 2 (by decide) (wi_Keys_add _ (List.mem_of_getElem? (i := 0) rfl)) rfl rfl rfl (Nat.le_of_ble_eq_true rfl) rfl d_Keys_add_51
        (fun hp12 ehp12 => ?_)
      have hf12_0 : hp12 k = some (.inr (1, [.ref w, .ref i, .int (nI (v.1 + 1))])) := by rw [ehp12]; exact hp_us
      have hf12_1 : hp12 w = some (.inl (ca 1, 32, .inr (.inl (kx_w v.2.1 (v.1 * 4) m0)))) := by rw [ehp12, hp_un (hp_ne hf11_1 hf11_0 (fun q => by first | cases q | simp at q))]; exact hf11_1
      have hf12_2 : hp12 i = some (.inl (ca 0, 8, .inl (upd v.2.2 v.1 x))) := by rw [ehp12, hp_un (hp_ne hf11_2 hf11_0 (fun q => by first | cases q | simp at q))]; exact hf11_2
      have hf12_3 : hp12 b = some (.inr (0, [.long m0.1, .long m0.2.1, .long m0.2.2.1, .long m0.2.2.2])) := by rw [ehp12, hp_un (hp_ne hf11_3 hf11_0 (fun q => by first | cases q | simp at q))]; exact hf11_3
      refine rv_iconst (v := nI 1) d_Keys_add_54 (by decide) ?_
      exact rv_ireturn ⟨_, rfl, by rw [e]; rfl, by rw [if_pos e, ehp12, ehp11, ehp10]; rfl⟩ d_Keys_add_55 rfl (bI_nar true)
    · have e : kv_may v m0 x = false := by unfold kv_may; rw [bI_n.mp c_15]; simp
      refine rv_iconst (v := nI 0) d_Keys_add_18 (by decide) ?_
      exact rv_ireturn ⟨_, rfl, by rw [e]; rfl, by rw [e]; rfl⟩ d_Keys_add_19 rfl (bI_nar false)
set_option maxHeartbeats 4000000 in
set_option maxRecDepth 100000 in
theorem c_Keys_copy {l : Launch} {D : va_G} {ca : Nat → ClassId} {hp : hp_T} {d : Nat} {k w i : Nat} {v : kv_T} (h : kx_At ca hp k w i v) {k2 w2 i2 : Nat} {u : kv_T} (h2 : kx_At ca hp k2 w2 i2 u) (hne : k2 ≠ k ∧ w2 ≠ w ∧ i2 ≠ i) : ma_V l D ca ma_T M_Keys_copy (d + 1) 0 0 hp (ma_qv (fun hp1 => hp1 = kx_put ca hp k w i (kv_cp u v))) 0 (lv_args 0 [.ref k, .ref k2]) [] := by
  change ma_V l D ca ma_T M_Keys_copy (d + 1) 0 0 hp (ma_qv (fun hp1 => hp1 = kx_put ca hp k w i (kv_cp u v))) 0 [(0, .ref k), (1, .ref k2)] []
  refine rv_aload_n d_Keys_copy_0 rfl 1 rfl ?_
  refine rv_get ka_Keys h2.1 rfl 0 (by decide) (wi_Keys_copy _ (List.mem_of_getElem? (i := 0) rfl)) rfl d_Keys_copy_1 ?_
  refine rv_iconst (v := nI 0) d_Keys_copy_4 (by decide) ?_
  refine rv_aload_n d_Keys_copy_5 rfl 0 rfl ?_
  refine rv_get ka_Keys h.1 rfl 0 (by decide) (wi_Keys_copy _ (List.mem_of_getElem? (i := 0) rfl)) rfl d_Keys_copy_6 ?_
  refine rv_iconst (v := nI 0) d_Keys_copy_9 (by decide) ?_
  refine rv_bipush (v := nI 32) d_Keys_copy_10 (by decide) ?_
  refine rv_copyl (sp := 0) (dp := 0) (n := 32) h2.2.1 h.2.1 1 rfl (wi_Keys_copy _ (List.mem_of_getElem? (i := 1) rfl)) (wi_Keys_copy _ (List.mem_of_getElem? (i := 2) rfl)) (wi_Keys_copy _ (List.mem_of_getElem? (i := 3) rfl)) (wi_Keys_copy _ (List.mem_of_getElem? (i := 4) rfl)) (by decide) (by decide) (by decide) (by decide) (by decide +kernel) d_Keys_copy_12
    (fun hp13 ehp13 => ?_)
  have hf13_0 : hp13 k = some (.inr (1, [.ref w, .ref i, .int (nI v.1)])) := by rw [ehp13, hp_un (hp_ne h.1 h.2.1 (fun q => by first | cases q | simp at q))]; exact h.1
  have hf13_1 : hp13 w = some (.inl (ca 1, 32, .inr (.inl (va_cpy u.2.1 v.2.1 0 0 32)))) := by rw [ehp13]; exact hp_us
  have hf13_2 : hp13 i = some (.inl (ca 0, 8, .inl v.2.2)) := by rw [ehp13, hp_un (hp_ne h.2.2.1 h.2.1 (fun q => by first | cases q | simp at q))]; exact h.2.2.1
  have hf13_3 : hp13 k2 = some (.inr (1, [.ref w2, .ref i2, .int (nI u.1)])) := by rw [ehp13, hp_un (hp_ne h2.1 h.2.1 (fun q => by first | cases q | simp at q))]; exact h2.1
  have hf13_4 : hp13 w2 = some (.inl (ca 1, 32, .inr (.inl u.2.1))) := by rw [ehp13, hp_un (hne.2.1)]; exact h2.2.1
  have hf13_5 : hp13 i2 = some (.inl (ca 0, 8, .inl u.2.2)) := by rw [ehp13, hp_un (hp_ne h2.2.2.1 h.2.1 (fun q => by first | cases q | simp at q))]; exact h2.2.2.1
  refine rv_aload_n d_Keys_copy_15 rfl 1 rfl ?_
  refine rv_get ka_Keys hf13_3 rfl 1 (by decide) (wi_Keys_copy _ (List.mem_of_getElem? (i := 5) rfl)) rfl d_Keys_copy_16 ?_
  refine rv_iconst (v := nI 0) d_Keys_copy_19 (by decide) ?_
  refine rv_aload_n d_Keys_copy_20 rfl 0 rfl ?_
  refine rv_get ka_Keys hf13_0 rfl 1 (by decide) (wi_Keys_copy _ (List.mem_of_getElem? (i := 5) rfl)) rfl d_Keys_copy_21 ?_
  refine rv_iconst (v := nI 0) d_Keys_copy_24 (by decide) ?_
  refine rv_bipush (v := nI 8) d_Keys_copy_25 (by decide) ?_
  refine rv_copyi (sp := 0) (dp := 0) (n := 8) hf13_5 hf13_2 0 rfl (wi_Keys_copy _ (List.mem_of_getElem? (i := 1) rfl)) (wi_Keys_copy _ (List.mem_of_getElem? (i := 2) rfl)) (wi_Keys_copy _ (List.mem_of_getElem? (i := 3) rfl)) (wi_Keys_copy _ (List.mem_of_getElem? (i := 4) rfl)) (by decide) (by decide) (by decide) (by decide) (by decide +kernel) d_Keys_copy_27
    (fun hp14 ehp14 => ?_)
  have hf14_0 : hp14 k = some (.inr (1, [.ref w, .ref i, .int (nI v.1)])) := by rw [ehp14, hp_un (hp_ne hf13_0 hf13_2 (fun q => by first | cases q | simp at q))]; exact hf13_0
  have hf14_1 : hp14 w = some (.inl (ca 1, 32, .inr (.inl (va_cpy u.2.1 v.2.1 0 0 32)))) := by rw [ehp14, hp_un (hp_ne hf13_1 hf13_2 (fun q => by first | cases q | simp at q))]; exact hf13_1
  have hf14_2 : hp14 i = some (.inl (ca 0, 8, .inl (va_cpy u.2.2 v.2.2 0 0 8))) := by rw [ehp14]; exact hp_us
  have hf14_3 : hp14 k2 = some (.inr (1, [.ref w2, .ref i2, .int (nI u.1)])) := by rw [ehp14, hp_un (hp_ne hf13_3 hf13_2 (fun q => by first | cases q | simp at q))]; exact hf13_3
  have hf14_4 : hp14 w2 = some (.inl (ca 1, 32, .inr (.inl u.2.1))) := by rw [ehp14, hp_un (hp_ne hf13_4 hf13_2 (fun q => by first | cases q | simp at q))]; exact hf13_4
  have hf14_5 : hp14 i2 = some (.inl (ca 0, 8, .inl u.2.2)) := by rw [ehp14, hp_un (hne.2.2)]; exact hf13_5
  refine rv_aload_n d_Keys_copy_30 rfl 0 rfl ?_
  refine rv_aload_n d_Keys_copy_31 rfl 1 rfl ?_
  refine rv_get ka_Keys hf14_3 rfl 2 (by decide) (wi_Keys_copy _ (List.mem_of_getElem? (i := 6) rfl)) rfl d_Keys_copy_32 ?_
  refine rv_put (fs' := [.ref w, .ref i, .int (nI u.1)]) ka_Keys hf14_0 rfl 2 (by decide) (wi_Keys_copy _ (List.mem_of_getElem? (i := 6) rfl)) rfl rfl rfl (Nat.le_of_ble_eq_true rfl) rfl d_Keys_copy_35
    (fun hp15 ehp15 => ?_)
  have hf15_0 : hp15 k = some (.inr (1, [.ref w, .ref i, .int (nI u.1)])) := by rw [ehp15]; exact hp_us
  have hf15_1 : hp15 w = some (.inl (ca 1, 32, .inr (.inl (va_cpy u.2.1 v.2.1 0 0 32)))) := by rw [ehp15, hp_un (hp_ne hf14_1 hf14_0 (fun q => by first | cases q | simp at q))]; exact hf14_1
  have hf15_2 : hp15 i = some (.inl (ca 0, 8, .inl (va_cpy u.2.2 v.2.2 0 0 8))) := by rw [ehp15, hp_un (hp_ne hf14_2 hf14_0 (fun q => by first | cases q | simp at q))]; exact hf14_2
  have hf15_3 : hp15 k2 = some (.inr (1, [.ref w2, .ref i2, .int (nI u.1)])) := by rw [ehp15, hp_un (hne.1)]; exact hf14_3
  have hf15_4 : hp15 w2 = some (.inl (ca 1, 32, .inr (.inl u.2.1))) := by rw [ehp15, hp_un (hp_ne hf14_4 hf14_0 (fun q => by first | cases q | simp at q))]; exact hf14_4
  have hf15_5 : hp15 i2 = some (.inl (ca 0, 8, .inl u.2.2)) := by rw [ehp15, hp_un (hp_ne hf14_5 hf14_0 (fun q => by first | cases q | simp at q))]; exact hf14_5
  refine rv_vreturn ⟨rfl, ?_⟩ d_Keys_copy_38 rfl
  rw [ehp15, ehp14, ehp13]
  rfl
set_option maxHeartbeats 4000000 in
set_option maxRecDepth 100000 in
theorem c_Tx_describe {l : Launch} {D : va_G} {ca : Nat → ClassId} {hp : hp_T} {d : Nat} {a p : Nat} {L : po_L} {t : tx_T} {f : Int64} {z o : Int32} (h : hp a = some (.inr (2, tx_F L p t))) : ma_V l D ca ma_T M_Tx_describe d 0 0 hp (ma_qv (fun hp1 => hp1 = hp_up hp a (.inr (2, tx_F L p (t.1, t.2.1, f, z, o, t.2.2.2.2.2.1, t.2.2.2.2.2.2.1, t.2.2.2.2.2.2.2))))) 0 (lv_args 0 [.ref a, .long f, .int z, .int o]) [] := by
  change ma_V l D ca ma_T M_Tx_describe d 0 0 hp (ma_qv (fun hp1 => hp1 = hp_up hp a (.inr (2, tx_F L p (t.1, t.2.1, f, z, o, t.2.2.2.2.2.1, t.2.2.2.2.2.2.1, t.2.2.2.2.2.2.2))))) 0 [(0, .ref a), (1, .long f), (3, .int z), (4, .int o)] []
  refine rv_aload_n d_Tx_describe_0 rfl 0 rfl ?_
  refine rv_lload_n d_Tx_describe_1 rfl 1 rfl ?_
  refine rv_put (fs' := [.ref (L.2.2.1 p), .ref (L.2.2.2.1 p), .long f, .int t.2.2.2.1, .int t.2.2.2.2.1, .int t.2.2.2.2.2.1, .long t.2.2.2.2.2.2.1, .long t.2.2.2.2.2.2.2]) ka_Tx h rfl 2 (by decide) (wi_Tx_describe _ (List.mem_of_getElem? (i := 0) rfl)) rfl rfl rfl (Nat.le_of_ble_eq_true rfl) rfl d_Tx_describe_2
    (fun hp16 ehp16 => ?_)
  have hf16_0 : hp16 a = some (.inr (2, [.ref (L.2.2.1 p), .ref (L.2.2.2.1 p), .long f, .int t.2.2.2.1, .int t.2.2.2.2.1, .int t.2.2.2.2.2.1, .long t.2.2.2.2.2.2.1, .long t.2.2.2.2.2.2.2])) := by rw [ehp16]; exact hp_us
  refine rv_aload_n d_Tx_describe_5 rfl 0 rfl ?_
  refine rv_iload_n d_Tx_describe_6 rfl 2 rfl ?_
  refine rv_put (fs' := [.ref (L.2.2.1 p), .ref (L.2.2.2.1 p), .long f, .int z, .int t.2.2.2.2.1, .int t.2.2.2.2.2.1, .long t.2.2.2.2.2.2.1, .long t.2.2.2.2.2.2.2]) ka_Tx hf16_0 rfl 3 (by decide) (wi_Tx_describe _ (List.mem_of_getElem? (i := 1) rfl)) rfl rfl rfl (Nat.le_of_ble_eq_true rfl) rfl d_Tx_describe_7
    (fun hp17 ehp17 => ?_)
  have hf17_0 : hp17 a = some (.inr (2, [.ref (L.2.2.1 p), .ref (L.2.2.2.1 p), .long f, .int z, .int t.2.2.2.2.1, .int t.2.2.2.2.2.1, .long t.2.2.2.2.2.2.1, .long t.2.2.2.2.2.2.2])) := by rw [ehp17]; exact hp_us
  refine rv_aload_n d_Tx_describe_10 rfl 0 rfl ?_
  refine rv_iload d_Tx_describe_11 3 rfl ?_
  refine rv_put (fs' := [.ref (L.2.2.1 p), .ref (L.2.2.2.1 p), .long f, .int z, .int o, .int t.2.2.2.2.2.1, .long t.2.2.2.2.2.2.1, .long t.2.2.2.2.2.2.2]) ka_Tx hf17_0 rfl 4 (by decide) (wi_Tx_describe _ (List.mem_of_getElem? (i := 2) rfl)) rfl rfl rfl (Nat.le_of_ble_eq_true rfl) rfl d_Tx_describe_13
    (fun hp18 ehp18 => ?_)
  have hf18_0 : hp18 a = some (.inr (2, [.ref (L.2.2.1 p), .ref (L.2.2.2.1 p), .long f, .int z, .int o, .int t.2.2.2.2.2.1, .long t.2.2.2.2.2.2.1, .long t.2.2.2.2.2.2.2])) := by rw [ehp18]; exact hp_us
  refine rv_vreturn ⟨rfl, ?_⟩ d_Tx_describe_16 rfl
  rw [ehp18, ehp17, ehp16, hp_uu, hp_uu]
set_option maxHeartbeats 4000000 in
set_option maxRecDepth 100000 in
theorem c_Row_clear {l : Launch} {D : va_G} {ca : Nat → ClassId} {hp : hp_T} {d : Nat} {r w n : Nat} {f : Nat → Int64} (hr : hp r = some (.inr (4, [.ref w, .int (nI n)]))) (hw : hp w = some (.inl (ca 1, 164, .inr (.inl f)))) : ma_V l D ca ma_T M_Row_clear d 0 0 hp (ma_qv (fun hp1 => hp1 = hp_up hp r (.inr (4, [.ref w, .int (nI 0)])))) 0 (lv_args 0 [.ref r]) [] := by
  change ma_V l D ca ma_T M_Row_clear d 0 0 hp (ma_qv (fun hp1 => hp1 = hp_up hp r (.inr (4, [.ref w, .int (nI 0)])))) 0 [(0, .ref r)] []
  refine rv_aload_n d_Row_clear_0 rfl 0 rfl ?_
  refine rv_iconst (v := nI 0) d_Row_clear_1 (by decide) ?_
  refine rv_put (fs' := [.ref w, .int (nI 0)]) ka_Row hr rfl 1 (by decide) (wi_Row_clear _ (List.mem_of_getElem? (i := 0) rfl)) rfl rfl rfl (Nat.le_of_ble_eq_true rfl) rfl d_Row_clear_2
    (fun hp19 ehp19 => ?_)
  have hf19_0 : hp19 r = some (.inr (4, [.ref w, .int (nI 0)])) := by rw [ehp19]; exact hp_us
  have hf19_1 : hp19 w = some (.inl (ca 1, 164, .inr (.inl f))) := by rw [ehp19, hp_un (hp_ne hw hr (fun q => by first | cases q | simp at q))]; exact hw
  exact rv_vreturn ⟨rfl, ehp19⟩ d_Row_clear_5 rfl
set_option maxHeartbeats 4000000 in
set_option maxRecDepth 100000 in
theorem c_Row_add {l : Launch} {D : va_G} {ca : Nat → ClassId} {hp : hp_T} {d : Nat} {r w n : Nat} {f : Nat → Int64} (hr : hp r = some (.inr (4, [.ref w, .int (nI n)]))) (hw : hp w = some (.inl (ca 1, 164, .inr (.inl f)))) {b : Nat} {m0 : nm_T} (hb : hp b = some (.inr (0, nm_F m0))) (hn : n < 41) : ma_V l D ca ma_T M_Row_add (d + 1) 0 0 hp (ma_qv (fun hp1 => hp1 = hp_up (hp_up hp w (.inl (ca 1, 164, .inr (.inl (kx_w f (n * 4) m0))))) r (.inr (4, [.ref w, .int (nI (n + 1))])))) 0 (lv_args 0 [.ref r, .ref b]) [] := by
  change ma_V l D ca ma_T M_Row_add (d + 1) 0 0 hp (ma_qv (fun hp1 => hp1 = hp_up (hp_up hp w (.inl (ca 1, 164, .inr (.inl (kx_w f (n * 4) m0))))) r (.inr (4, [.ref w, .int (nI (n + 1))])))) 0 [(0, .ref r), (1, .ref b)] []
  refine rv_aload_n d_Row_add_0 rfl 0 rfl ?_
  refine rv_get ka_Row hr rfl 1 (by decide) (wi_Row_add _ (List.mem_of_getElem? (i := 0) rfl)) rfl d_Row_add_1 ?_
  refine rv_bipush (v := nI 41) d_Row_add_4 (by decide) ?_
  refine rv_icmp_lt (tgt := 10) d_Row_add_6 (by decide) (fun c_6 => ?_) (fun c_6 => ?_)
  · refine rv_aload_n d_Row_add_10 rfl 1 rfl ?_
    refine rv_aload_n d_Row_add_11 rfl 0 rfl ?_
    refine rv_get ka_Row hr rfl 0 (by decide) (wi_Row_add _ (List.mem_of_getElem? (i := 1) rfl)) rfl d_Row_add_12 ?_
    refine rv_aload_n d_Row_add_15 rfl 0 rfl ?_
    refine rv_get ka_Row hr rfl 1 (by decide) (wi_Row_add _ (List.mem_of_getElem? (i := 0) rfl)) rfl d_Row_add_16 ?_
    refine rv_iconst (v := nI 4) d_Row_add_19 (by decide) ?_
    refine rv_imul d_Row_add_20 ?_
    refine rv_eqi (pk_mul _ _) ?_
    refine rv_callV (kc' := 0) (ks' := 0) (kc1 := 0) (ks1 := 0) (As := [.ref w, .int (nI (n * 4))]) (rest := []) hb rfl (c_Name_write hb hw (by decide) (by omega)) ok_Name_write (wi_Row_add _ (List.mem_of_getElem? (i := 2) rfl)) (wi_Row_add _ (List.mem_of_getElem? (i := 3) rfl)) (wi_Row_add _ (List.mem_of_getElem? (i := 4) rfl)) rfl rfl (Nat.le_of_ble_eq_true rfl) (Nat.le_of_ble_eq_true rfl) ⟨Nat.le_of_ble_eq_true rfl, Nat.le_of_ble_eq_true rfl⟩ d_Row_add_21 (rv_kv (fun hp20 ehp20 => ?_))
    have hf20_0 : hp20 r = some (.inr (4, [.ref w, .int (nI n)])) := by rw [ehp20, hp_un (hp_ne hr hw (fun q => by first | cases q | simp at q))]; exact hr
    have hf20_1 : hp20 w = some (.inl (ca 1, 164, .inr (.inl (kx_w f (n * 4) m0)))) := by rw [ehp20]; exact hp_us
    have hf20_2 : hp20 b = some (.inr (0, [.long m0.1, .long m0.2.1, .long m0.2.2.1, .long m0.2.2.2])) := by rw [ehp20, hp_un (hp_ne hb hw (fun q => by first | cases q | simp at q))]; exact hb
    refine rv_aload_n d_Row_add_24 rfl 0 rfl ?_
    refine rv_dup d_Row_add_25 rfl ?_
    refine rv_get ka_Row hf20_0 rfl 1 (by decide) (wi_Row_add _ (List.mem_of_getElem? (i := 0) rfl)) rfl d_Row_add_26 ?_
    refine rv_iconst (v := nI 1) d_Row_add_29 (by decide) ?_
    refine rv_iadd d_Row_add_30 ?_
    refine rv_eqi (nI_add _ _) ?_
    refine rv_put (fs' := [.ref w, .int (nI (n + 1))]) ka_Row hf20_0 rfl 1 (by decide) (wi_Row_add _ (List.mem_of_getElem? (i := 0) rfl)) rfl rfl rfl (Nat.le_of_ble_eq_true rfl) rfl d_Row_add_31
      (fun hp21 ehp21 => ?_)
    have hf21_0 : hp21 r = some (.inr (4, [.ref w, .int (nI (n + 1))])) := by rw [ehp21]; exact hp_us
    have hf21_1 : hp21 w = some (.inl (ca 1, 164, .inr (.inl (kx_w f (n * 4) m0)))) := by rw [ehp21, hp_un (hp_ne hf20_1 hf20_0 (fun q => by first | cases q | simp at q))]; exact hf20_1
    have hf21_2 : hp21 b = some (.inr (0, [.long m0.1, .long m0.2.1, .long m0.2.2.1, .long m0.2.2.2])) := by rw [ehp21, hp_un (hp_ne hf20_2 hf20_0 (fun q => by first | cases q | simp at q))]; exact hf20_2
    refine rv_vreturn ⟨rfl, ?_⟩ d_Row_add_34 rfl
    rw [ehp21, ehp20]
  · exact absurd (nI_lt (by omega) (by decide)) c_6
set_option maxHeartbeats 4000000 in
set_option maxRecDepth 100000 in
theorem c_Pool_remove_l {l : Launch} {D : va_G} {ca : Nat → ClassId} {d : Nat} {po : Nat} {L : po_L} {S : po_S} {g : Int64} {hp0 : hp_T} (hL : po_ok L) : ∀ (m i : Nat) (hp : hp_T), i + m = 41 → po_At ca hp po L (cl_rmI S g i) → po_out po L hp0 hp → ma_V l D ca ma_T M_Pool_remove d 0 0 hp (ma_qv (fun hp1 => po_At ca hp1 po L (cl_rm S g) ∧ po_out po L hp0 hp1)) 16 [(3, .int (nI i)), (0, .ref po), (1, .long g)] [] := by
  intro m
  induction m with
  | zero =>
    intro i hp hi hS ho
    obtain ⟨f, hf, hfp⟩ := hS.2.1
    refine rv_iload_n d_Pool_remove_16 rfl 0 rfl ?_
    refine rv_bipush (v := nI 41) d_Pool_remove_17 (by decide) ?_
    refine rv_icmp_ge (tgt := 66) d_Pool_remove_19 (by decide) (fun c_19 => ?_) (fun c_19 => ?_)
    · exact rv_vreturn ⟨rfl, po_ext hS rfl rfl (fun p hp0 => if_pos (by omega)), ho⟩ d_Pool_remove_66 rfl
    · exact absurd (nI_le (by omega) (by omega)) c_19
  | succ m ih =>
    intro i hp hi hS ho
    obtain ⟨f, hf, hfp⟩ := hS.2.1
    have hx : hp (L.2.1 i) = some (.inr (2, tx_F L i (S.2.2 i))) := by
      have q := (hS.2.2 i (by omega)).1
      rw [show (cl_rmI S g i).2.2 i = S.2.2 i from if_neg (Nat.lt_irrefl i)] at q
      exact q
    refine rv_iload_n d_Pool_remove_16 rfl 0 rfl ?_
    refine rv_bipush (v := nI 41) d_Pool_remove_17 (by decide) ?_
    refine rv_icmp_ge (tgt := 66) d_Pool_remove_19 (by decide) (fun c_19 => ?_) (fun c_19 => ?_)
    · exact absurd c_19 (nI_ge (by omega) (by omega))
    · refine rv_aload_n d_Pool_remove_22 rfl 1 rfl ?_
      refine rv_get ka_Pool hS.1 rfl 0 (by decide) (wi_Pool_remove _ (List.mem_of_getElem? (i := 0) rfl)) rfl d_Pool_remove_23 ?_
      refine rv_iload_n d_Pool_remove_26 rfl 0 rfl ?_
      refine rv_aald hf 2 rfl (by omega) (by decide) d_Pool_remove_27 ?_
      refine rv_eqv (y := .ref (L.2.1 i)) ((by rw [hfp i (by omega)]; rfl)) ?_
      refine rv_dup d_Pool_remove_28 rfl ?_
      refine rv_get ka_Tx hx rfl 6 (by decide) (wi_Pool_remove _ (List.mem_of_getElem? (i := 1) rfl)) rfl d_Pool_remove_29 ?_
      refine rv_lload_n d_Pool_remove_32 rfl 2 rfl ?_
      refine rv_ldc2 (v := (-1)) d_Pool_remove_33 (wi_Pool_remove _ (List.mem_of_getElem? (i := 2) rfl)) ?_
      refine rv_lxor d_Pool_remove_36 ?_
      refine rv_land d_Pool_remove_37 ?_
      refine rv_put (fs' := [.ref (L.2.2.1 i), .ref (L.2.2.2.1 i), .long ((S.2.2 i).2.2.1), .int ((S.2.2 i).2.2.2.1), .int ((S.2.2 i).2.2.2.2.1), .int ((S.2.2 i).2.2.2.2.2.1), .long (((S.2.2 i).2.2.2.2.2.2.1) &&& (g ^^^ (-1))), .long ((S.2.2 i).2.2.2.2.2.2.2)]) ka_Tx hx rfl 6 (by decide) (wi_Pool_remove _ (List.mem_of_getElem? (i := 1) rfl)) rfl rfl rfl (Nat.le_of_ble_eq_true rfl) rfl d_Pool_remove_38
        (fun hp22 ehp22 => ?_)
      have hf22_0 : hp22 po = some (.inr (3, [.ref L.1, .long ((cl_rmI S g i).1), .int ((cl_rmI S g i).2.1)])) := by rw [ehp22, hp_un (hp_ne hS.1 hx (fun q => by first | cases q | simp at q))]; exact hS.1
      have hf22_1 : hp22 L.1 = some (.inl (ca 2, 41, .inr (.inr (.inr (.inr f))))) := by rw [ehp22, hp_un (hp_ne hf hx (fun q => by first | cases q | simp at q))]; exact hf
      have hf22_2 : hp22 (L.2.1 i) = some (.inr (2, [.ref (L.2.2.1 i), .ref (L.2.2.2.1 i), .long ((S.2.2 i).2.2.1), .int ((S.2.2 i).2.2.2.1), .int ((S.2.2 i).2.2.2.2.1), .int ((S.2.2 i).2.2.2.2.2.1), .long (((S.2.2 i).2.2.2.2.2.2.1) &&& (g ^^^ (-1))), .long ((S.2.2 i).2.2.2.2.2.2.2)])) := by rw [ehp22]; exact hp_us
      refine rv_aload_n d_Pool_remove_41 rfl 1 rfl ?_
      refine rv_get ka_Pool hf22_0 rfl 0 (by decide) (wi_Pool_remove _ (List.mem_of_getElem? (i := 0) rfl)) rfl d_Pool_remove_42 ?_
      refine rv_iload_n d_Pool_remove_45 rfl 0 rfl ?_
      refine rv_aald hf22_1 2 rfl (by omega) (by decide) d_Pool_remove_46 ?_
      refine rv_eqv (y := .ref (L.2.1 i)) ((by rw [hfp i (by omega)]; rfl)) ?_
      refine rv_dup d_Pool_remove_47 rfl ?_
      refine rv_get ka_Tx hf22_2 rfl 7 (by decide) (wi_Pool_remove _ (List.mem_of_getElem? (i := 3) rfl)) rfl d_Pool_remove_48 ?_
      refine rv_lload_n d_Pool_remove_51 rfl 2 rfl ?_
      refine rv_ldc2 (v := (-1)) d_Pool_remove_52 (wi_Pool_remove _ (List.mem_of_getElem? (i := 2) rfl)) ?_
      refine rv_lxor d_Pool_remove_55 ?_
      refine rv_land d_Pool_remove_56 ?_
      refine rv_put (fs' := [.ref (L.2.2.1 i), .ref (L.2.2.2.1 i), .long ((S.2.2 i).2.2.1), .int ((S.2.2 i).2.2.2.1), .int ((S.2.2 i).2.2.2.2.1), .int ((S.2.2 i).2.2.2.2.2.1), .long (((S.2.2 i).2.2.2.2.2.2.1) &&& (g ^^^ (-1))), .long (((S.2.2 i).2.2.2.2.2.2.2) &&& (g ^^^ (-1)))]) ka_Tx hf22_2 rfl 7 (by decide) (wi_Pool_remove _ (List.mem_of_getElem? (i := 3) rfl)) rfl rfl rfl (Nat.le_of_ble_eq_true rfl) rfl d_Pool_remove_57
        (fun hp23 ehp23 => ?_)
      have hf23_0 : hp23 po = some (.inr (3, [.ref L.1, .long ((cl_rmI S g i).1), .int ((cl_rmI S g i).2.1)])) := by rw [ehp23, hp_un (hp_ne hf22_0 hf22_2 (fun q => by first | cases q | simp at q))]; exact hf22_0
      have hf23_1 : hp23 L.1 = some (.inl (ca 2, 41, .inr (.inr (.inr (.inr f))))) := by rw [ehp23, hp_un (hp_ne hf22_1 hf22_2 (fun q => by first | cases q | simp at q))]; exact hf22_1
      have hf23_2 : hp23 (L.2.1 i) = some (.inr (2, [.ref (L.2.2.1 i), .ref (L.2.2.2.1 i), .long ((S.2.2 i).2.2.1), .int ((S.2.2 i).2.2.2.1), .int ((S.2.2 i).2.2.2.2.1), .int ((S.2.2 i).2.2.2.2.2.1), .long (((S.2.2 i).2.2.2.2.2.2.1) &&& (g ^^^ (-1))), .long (((S.2.2 i).2.2.2.2.2.2.2) &&& (g ^^^ (-1)))])) := by rw [ehp23]; exact hp_us
      refine rv_iinc (k := 0) (v := nI (i + 1)) (lv' := [(3, .int (nI (i + 1))), (0, .ref po), (1, .long g)]) d_Pool_remove_60 rfl (nI_1 _) (by decide) rfl ?_
      refine rv_goto (tgt := 16) d_Pool_remove_63 (by decide) ?_
      have eh : hp23 = hp_up hp (L.2.1 i) (.inr (2, tx_F L i (tx_rm g (S.2.2 i)))) := by rw [ehp23, ehp22, hp_uu]; rfl
      have hS2 : po_At ca hp23 po L (cl_rmI S g (i + 1)) := by
        rw [eh]
        refine po_ext (po_setTx hS hL (p := i) (by omega) (t := tx_rm g (S.2.2 i)) (by rw [show (cl_rmI S g i).2.2 i = S.2.2 i from if_neg (Nat.lt_irrefl i)]; rfl) (by rw [show (cl_rmI S g i).2.2 i = S.2.2 i from if_neg (Nat.lt_irrefl i)]; rfl)) rfl rfl (fun p hp0 => ?_)
        by_cases e : p = i
        · subst e
          show va_up _ p _ p = (if p < p + 1 then _ else _)
          rw [va_up_s, if_pos (Nat.lt_succ_self p)]
        · show va_up _ i _ p = (if p < i + 1 then _ else _)
          rw [va_up_n e]
          show (if p < i then _ else _) = _
          by_cases q : p < i
          · rw [if_pos q, if_pos (by omega)]
          · rw [if_neg q, if_neg (by omega)]
      exact rv_lv [0, 1, 2] rfl (ih (i + 1) hp23 (by omega) hS2 (by rw [eh]; exact po_out_up ho (po_fp_tx (by omega))))
set_option maxHeartbeats 4000000 in
set_option maxRecDepth 100000 in
theorem c_Pool_remove {l : Launch} {D : va_G} {ca : Nat → ClassId} {hp : hp_T} {d : Nat} {po : Nat} {L : po_L} {S : po_S} (hS : po_At ca hp po L S) {g : Int64} (hL : po_ok L) : ma_V l D ca ma_T M_Pool_remove d 0 0 hp (ma_qv (fun hp1 => po_At ca hp1 po L (cl_rm S g) ∧ po_out po L hp hp1)) 0 (lv_args 0 [.ref po, .long g]) [] := by
  change ma_V l D ca ma_T M_Pool_remove d 0 0 hp (ma_qv (fun hp1 => po_At ca hp1 po L (cl_rm S g) ∧ po_out po L hp hp1)) 0 [(0, .ref po), (1, .long g)] []
  refine rv_aload_n d_Pool_remove_0 rfl 0 rfl ?_
  refine rv_dup d_Pool_remove_1 rfl ?_
  refine rv_get ka_Pool hS.1 rfl 1 (by decide) (wi_Pool_remove _ (List.mem_of_getElem? (i := 4) rfl)) rfl d_Pool_remove_2 ?_
  refine rv_lload_n d_Pool_remove_5 rfl 1 rfl ?_
  refine rv_ldc2 (v := (-1)) d_Pool_remove_6 (wi_Pool_remove _ (List.mem_of_getElem? (i := 2) rfl)) ?_
  refine rv_lxor d_Pool_remove_9 ?_
  refine rv_land d_Pool_remove_10 ?_
  refine rv_put (fs' := [.ref L.1, .long (S.1 &&& (g ^^^ (-1))), .int S.2.1]) ka_Pool hS.1 rfl 1 (by decide) (wi_Pool_remove _ (List.mem_of_getElem? (i := 4) rfl)) rfl rfl rfl (Nat.le_of_ble_eq_true rfl) rfl d_Pool_remove_11
    (fun hp24 ehp24 => ?_)
  have hf24_0 : hp24 po = some (.inr (3, [.ref L.1, .long (S.1 &&& (g ^^^ (-1))), .int S.2.1])) := by rw [ehp24]; exact hp_us
  refine rv_iconst (v := nI 0) d_Pool_remove_14 (by decide) ?_
  refine rv_istore_n (lv' := [(3, .int (nI 0)), (0, .ref po), (1, .long g)]) d_Pool_remove_15 rfl (by decide) rfl ?_
  refine rv_lv [0, 1, 2] rfl (c_Pool_remove_l hL 41 0 hp24 (Nat.zero_add _) ?_ ?_)
  · rw [ehp24]
    exact po_ext (po_setPo hS _ _) rfl rfl (fun p hp0 => cl_rmI_0)
  · rw [ehp24]
    exact po_out_up po_out_rf po_fp_po
set_option maxHeartbeats 4000000 in
set_option maxRecDepth 100000 in
theorem c_Pool_settle_l {l : Launch} {D : va_G} {ca : Nat → ClassId} {d : Nat} {po : Nat} {L : po_L} {S : po_S} {hp0 : hp_T} (hL : po_ok L) {q : Nat} (hq : q < 41) (hfree : bz_t S.1 q = false) {b k : Nat} {m0 : nm_T} {v : kv_T} : ∀ (m j : Nat) (hp : hp_T), j + m = 41 → po_At ca hp po L (cl_lnI (cl_st7 S q m0 v) q (cl_named (cl_st2 S q m0 v) v) (cl_spenders (cl_st3 S q m0 v) m0) j) → po_out po L hp0 hp → ma_V l D ca ma_T M_Pool_settle (d + 2) 0 0 hp (ma_qv (fun hp1 => po_At ca hp1 po L (cl_st S q m0 v) ∧ po_out po L hp0 hp1)) 96 [(5, .int (nI j)), (4, .ref (L.2.1 q)), (0, .ref po), (1, .int (nI q)), (2, .ref b), (3, .ref k)] [] := by
  intro m
  induction m with
  | zero =>
    intro j hp hj hS ho
    obtain rfl : j = 41 := by omega
    refine rv_iload d_Pool_settle_96 0 rfl ?_
    refine rv_bipush (v := nI 41) d_Pool_settle_98 (by decide) ?_
    refine rv_icmp_ge (tgt := 173) d_Pool_settle_100 (by decide) (fun c_100 => ?_) (fun c_100 => ?_)
    · exact rv_vreturn ⟨rfl, hS, ho⟩ d_Pool_settle_173 rfl
    · exact absurd (nI_le (by omega) (by omega)) c_100
  | succ m ih =>
    intro j hp hj hS ho
    obtain ⟨f, hf, hfp⟩ := hS.2.1
    have hpa := cl_pa_q (S := S) (q := q) (m := m0) (v := v) hfree
    have hch := cl_ch_q (S := S) (q := q) (m := m0) (v := v) hfree
    have hx : hp (L.2.1 j) = some (.inr (2, tx_F L j ((cl_st7 S q m0 v).2.2 j))) := by
      have z := (hS.2.2 j (by omega)).1
      rw [show (cl_lnI (cl_st7 S q m0 v) q (cl_named (cl_st2 S q m0 v) v) (cl_spenders (cl_st3 S q m0 v) m0) j).2.2 j = (cl_st7 S q m0 v).2.2 j from if_neg (Nat.lt_irrefl j)] at z
      exact z
    have hx1 : hp (L.2.1 q) = some (.inr (2, tx_F L q ((cl_st7 S q m0 v).2.2 q))) := by
      have z := (hS.2.2 q hq).1
      rw [cl_lnI_q hpa hch] at z
      exact z
    refine rv_iload d_Pool_settle_96 0 rfl ?_
    refine rv_bipush (v := nI 41) d_Pool_settle_98 (by decide) ?_
    refine rv_icmp_ge (tgt := 173) d_Pool_settle_100 (by decide) (fun c_100 => ?_) (fun c_100 => ?_)
    · exact absurd c_100 (nI_ge (by omega) (by omega))
    · refine rv_aload d_Pool_settle_103 1 rfl ?_
      refine rv_get ka_Tx hx1 rfl 6 (by decide) (wi_Pool_settle _ (List.mem_of_getElem? (i := 0) rfl)) rfl d_Pool_settle_105 ?_
      refine rv_eql (y := (cl_named (cl_st2 S q m0 v) v)) cl_st7_q.1 ?_
      refine rv_iload d_Pool_settle_108 0 rfl ?_
      refine rv_callSN (kc' := 0) (ks' := 0) (kc1 := 0) (ks1 := 0) (As := [.long (cl_named (cl_st2 S q m0 v) v), .int (nI j)]) (rest := []) (c_Desk_has (by omega)) ok_Desk_has (host := "PoolDesk") (List.mem_of_getElem? (i := 6) rfl) (wi_Pool_settle _ (List.mem_of_getElem? (i := 1) rfl)) rfl rfl (Nat.le_of_ble_eq_true rfl) (Nat.le_of_ble_eq_true rfl) ⟨Nat.le_of_ble_eq_true rfl, Nat.le_of_ble_eq_true rfl⟩ d_Pool_settle_110 (rv_kie ?_)
      refine rv_if_eq (tgt := 135) d_Pool_settle_113 (by decide) (fun c_113 => ?_) (fun c_113 => ?_)
      · have r1 := bI_0.mp c_113
        refine rv_aload d_Pool_settle_135 1 rfl ?_
        refine rv_get ka_Tx hx1 rfl 7 (by decide) (wi_Pool_settle _ (List.mem_of_getElem? (i := 2) rfl)) rfl d_Pool_settle_137 ?_
        refine rv_eql (y := (cl_spenders (cl_st3 S q m0 v) m0)) cl_st7_q.2 ?_
        refine rv_iload d_Pool_settle_140 0 rfl ?_
        refine rv_callSN (kc' := 0) (ks' := 0) (kc1 := 0) (ks1 := 0) (As := [.long (cl_spenders (cl_st3 S q m0 v) m0), .int (nI j)]) (rest := []) (c_Desk_has (by omega)) ok_Desk_has (host := "PoolDesk") (List.mem_of_getElem? (i := 6) rfl) (wi_Pool_settle _ (List.mem_of_getElem? (i := 1) rfl)) rfl rfl (Nat.le_of_ble_eq_true rfl) (Nat.le_of_ble_eq_true rfl) ⟨Nat.le_of_ble_eq_true rfl, Nat.le_of_ble_eq_true rfl⟩ d_Pool_settle_142 (rv_kie ?_)
        refine rv_if_eq (tgt := 167) d_Pool_settle_145 (by decide) (fun c_145 => ?_) (fun c_145 => ?_)
        · have r2 := bI_0.mp c_145
          refine rv_iinc (k := 0) (v := nI (j + 1)) (lv' := [(5, .int (nI (j + 1))), (4, .ref (L.2.1 q)), (0, .ref po), (1, .int (nI q)), (2, .ref b), (3, .ref k)]) d_Pool_settle_167 rfl (nI_1 _) (by decide) rfl ?_
          refine rv_goto (tgt := 96) d_Pool_settle_170 (by decide) ?_
          have et : (tx_ln q (cl_named (cl_st2 S q m0 v) v) (cl_spenders (cl_st3 S q m0 v) m0) j ((cl_st7 S q m0 v).2.2 j)) = (cl_st7 S q m0 v).2.2 j := by unfold tx_ln; rw [r1, r2, if_neg Bool.false_ne_true, if_neg Bool.false_ne_true]
          have eh : hp = hp_up hp (L.2.1 j) (.inr (2, tx_F L j (tx_ln q (cl_named (cl_st2 S q m0 v) v) (cl_spenders (cl_st3 S q m0 v) m0) j ((cl_st7 S q m0 v).2.2 j)))) := by rw [et]; exact (hp_self hx).symm
          have hS2 : po_At ca hp po L (cl_lnI (cl_st7 S q m0 v) q (cl_named (cl_st2 S q m0 v) v) (cl_spenders (cl_st3 S q m0 v) m0) (j + 1)) := by
            rw [eh]
            refine po_ext (po_setTx hS hL (p := j) (by omega) (t := (tx_ln q (cl_named (cl_st2 S q m0 v) v) (cl_spenders (cl_st3 S q m0 v) m0) j ((cl_st7 S q m0 v).2.2 j))) (by rw [show (cl_lnI (cl_st7 S q m0 v) q (cl_named (cl_st2 S q m0 v) v) (cl_spenders (cl_st3 S q m0 v) m0) j).2.2 j = (cl_st7 S q m0 v).2.2 j from if_neg (Nat.lt_irrefl j)]; rfl) (by rw [show (cl_lnI (cl_st7 S q m0 v) q (cl_named (cl_st2 S q m0 v) v) (cl_spenders (cl_st3 S q m0 v) m0) j).2.2 j = (cl_st7 S q m0 v).2.2 j from if_neg (Nat.lt_irrefl j)]; rfl)) rfl rfl (fun p hp0 => ?_)
            by_cases e : p = j
            · subst e
              show va_up _ p _ p = (if p < p + 1 then _ else _)
              rw [va_up_s, if_pos (Nat.lt_succ_self p)]
            · show va_up _ j _ p = (if p < j + 1 then _ else _)
              rw [va_up_n e]
              show (if p < j then _ else _) = _
              by_cases z : p < j
              · rw [if_pos z, if_pos (by omega)]
              · rw [if_neg z, if_neg (by omega)]
          exact rv_lv [0, 1, 2, 3, 4, 5] rfl (ih (j + 1) hp (by omega) hS2 (by rw [eh]; exact po_out_up ho (po_fp_tx (by omega))))
        · have r2 := bI_n.mp c_145
          have hne : j ≠ q := fun z => by subst z; rw [hch] at r2; cases r2
          refine rv_aload_n d_Pool_settle_148 rfl 2 rfl ?_
          refine rv_get ka_Pool hS.1 rfl 0 (by decide) (wi_Pool_settle _ (List.mem_of_getElem? (i := 3) rfl)) rfl d_Pool_settle_149 ?_
          refine rv_iload d_Pool_settle_152 0 rfl ?_
          refine rv_aald hf 2 rfl (by omega) (by decide) d_Pool_settle_154 ?_
          refine rv_eqv (y := .ref (L.2.1 j)) ((by rw [hfp j (by omega)]; rfl)) ?_
          refine rv_dup d_Pool_settle_155 rfl ?_
          refine rv_get ka_Tx hx rfl 6 (by decide) (wi_Pool_settle _ (List.mem_of_getElem? (i := 0) rfl)) rfl d_Pool_settle_156 ?_
          refine rv_iload_n d_Pool_settle_159 rfl 3 rfl ?_
          refine rv_callSN (kc' := 0) (ks' := 0) (kc1 := 0) (ks1 := 0) (As := [.int (nI q)]) (rest := [.long (((cl_st7 S q m0 v).2.2 j).2.2.2.2.2.2.1), .ref (L.2.1 j)]) (c_Desk_bit) ok_Desk_bit (host := "PoolDesk") (List.mem_of_getElem? (i := 7) rfl) (wi_Pool_settle _ (List.mem_of_getElem? (i := 4) rfl)) rfl rfl (Nat.le_of_ble_eq_true rfl) (Nat.le_of_ble_eq_true rfl) ⟨Nat.le_of_ble_eq_true rfl, Nat.le_of_ble_eq_true rfl⟩ d_Pool_settle_160 (rv_kle ?_)
          refine rv_lor d_Pool_settle_163 ?_
          refine rv_put (fs' := [.ref (L.2.2.1 j), .ref (L.2.2.2.1 j), .long (((cl_st7 S q m0 v).2.2 j).2.2.1), .int (((cl_st7 S q m0 v).2.2 j).2.2.2.1), .int (((cl_st7 S q m0 v).2.2 j).2.2.2.2.1), .int (((cl_st7 S q m0 v).2.2 j).2.2.2.2.2.1), .long ((((cl_st7 S q m0 v).2.2 j).2.2.2.2.2.2.1) ||| (bz_b q)), .long (((cl_st7 S q m0 v).2.2 j).2.2.2.2.2.2.2)]) ka_Tx hx rfl 6 (by decide) (wi_Pool_settle _ (List.mem_of_getElem? (i := 0) rfl)) rfl rfl rfl (Nat.le_of_ble_eq_true rfl) rfl d_Pool_settle_164
            (fun hp25 ehp25 => ?_)
          have hf25_0 : hp25 po = some (.inr (3, [.ref L.1, .long ((cl_lnI (cl_st7 S q m0 v) q (cl_named (cl_st2 S q m0 v) v) (cl_spenders (cl_st3 S q m0 v) m0) j).1), .int ((cl_lnI (cl_st7 S q m0 v) q (cl_named (cl_st2 S q m0 v) v) (cl_spenders (cl_st3 S q m0 v) m0) j).2.1)])) := by rw [ehp25, hp_un (hp_ne hS.1 hx (fun q => by first | cases q | simp at q))]; exact hS.1
          have hf25_1 : hp25 L.1 = some (.inl (ca 2, 41, .inr (.inr (.inr (.inr f))))) := by rw [ehp25, hp_un (hp_ne hf hx (fun q => by first | cases q | simp at q))]; exact hf
          have hf25_2 : hp25 (L.2.1 j) = some (.inr (2, [.ref (L.2.2.1 j), .ref (L.2.2.2.1 j), .long (((cl_st7 S q m0 v).2.2 j).2.2.1), .int (((cl_st7 S q m0 v).2.2 j).2.2.2.1), .int (((cl_st7 S q m0 v).2.2 j).2.2.2.2.1), .int (((cl_st7 S q m0 v).2.2 j).2.2.2.2.2.1), .long ((((cl_st7 S q m0 v).2.2 j).2.2.2.2.2.2.1) ||| (bz_b q)), .long (((cl_st7 S q m0 v).2.2 j).2.2.2.2.2.2.2)])) := by rw [ehp25]; exact hp_us
          have hf25_3 : hp25 (L.2.1 q) = some (.inr (2, [.ref (L.2.2.1 q), .ref (L.2.2.2.1 q), .long (((cl_st7 S q m0 v).2.2 q).2.2.1), .int (((cl_st7 S q m0 v).2.2 q).2.2.2.1), .int (((cl_st7 S q m0 v).2.2 q).2.2.2.2.1), .int (((cl_st7 S q m0 v).2.2 q).2.2.2.2.2.1), .long (((cl_st7 S q m0 v).2.2 q).2.2.2.2.2.2.1), .long (((cl_st7 S q m0 v).2.2 q).2.2.2.2.2.2.2)])) := by rw [ehp25, hp_un (fun z => hne (hL.1 q j hq (by omega) z).symm)]; exact hx1
          refine rv_iinc (k := 0) (v := nI (j + 1)) (lv' := [(5, .int (nI (j + 1))), (4, .ref (L.2.1 q)), (0, .ref po), (1, .int (nI q)), (2, .ref b), (3, .ref k)]) d_Pool_settle_167 rfl (nI_1 _) (by decide) rfl ?_
          refine rv_goto (tgt := 96) d_Pool_settle_170 (by decide) ?_
          have eh : hp25 = hp_up hp (L.2.1 j) (.inr (2, tx_F L j (tx_ln q (cl_named (cl_st2 S q m0 v) v) (cl_spenders (cl_st3 S q m0 v) m0) j ((cl_st7 S q m0 v).2.2 j)))) := by
            rw [ehp25]
            congr 3
            unfold tx_F tx_ln
            rw [r1, r2]
            rfl
          have hS2 : po_At ca hp25 po L (cl_lnI (cl_st7 S q m0 v) q (cl_named (cl_st2 S q m0 v) v) (cl_spenders (cl_st3 S q m0 v) m0) (j + 1)) := by
            rw [eh]
            refine po_ext (po_setTx hS hL (p := j) (by omega) (t := (tx_ln q (cl_named (cl_st2 S q m0 v) v) (cl_spenders (cl_st3 S q m0 v) m0) j ((cl_st7 S q m0 v).2.2 j))) (by rw [show (cl_lnI (cl_st7 S q m0 v) q (cl_named (cl_st2 S q m0 v) v) (cl_spenders (cl_st3 S q m0 v) m0) j).2.2 j = (cl_st7 S q m0 v).2.2 j from if_neg (Nat.lt_irrefl j)]; rfl) (by rw [show (cl_lnI (cl_st7 S q m0 v) q (cl_named (cl_st2 S q m0 v) v) (cl_spenders (cl_st3 S q m0 v) m0) j).2.2 j = (cl_st7 S q m0 v).2.2 j from if_neg (Nat.lt_irrefl j)]; rfl)) rfl rfl (fun p hp0 => ?_)
            by_cases e : p = j
            · subst e
              show va_up _ p _ p = (if p < p + 1 then _ else _)
              rw [va_up_s, if_pos (Nat.lt_succ_self p)]
            · show va_up _ j _ p = (if p < j + 1 then _ else _)
              rw [va_up_n e]
              show (if p < j then _ else _) = _
              by_cases z : p < j
              · rw [if_pos z, if_pos (by omega)]
              · rw [if_neg z, if_neg (by omega)]
          exact rv_lv [0, 1, 2, 3, 4, 5] rfl (ih (j + 1) hp25 (by omega) hS2 (by rw [eh]; exact po_out_up ho (po_fp_tx (by omega))))
      · have r1 := bI_n.mp c_113
        have hne : j ≠ q := fun z => by subst z; rw [hpa] at r1; cases r1
        refine rv_aload_n d_Pool_settle_116 rfl 2 rfl ?_
        refine rv_get ka_Pool hS.1 rfl 0 (by decide) (wi_Pool_settle _ (List.mem_of_getElem? (i := 3) rfl)) rfl d_Pool_settle_117 ?_
        refine rv_iload d_Pool_settle_120 0 rfl ?_
        refine rv_aald hf 2 rfl (by omega) (by decide) d_Pool_settle_122 ?_
        refine rv_eqv (y := .ref (L.2.1 j)) ((by rw [hfp j (by omega)]; rfl)) ?_
        refine rv_dup d_Pool_settle_123 rfl ?_
        refine rv_get ka_Tx hx rfl 7 (by decide) (wi_Pool_settle _ (List.mem_of_getElem? (i := 2) rfl)) rfl d_Pool_settle_124 ?_
        refine rv_iload_n d_Pool_settle_127 rfl 3 rfl ?_
        refine rv_callSN (kc' := 0) (ks' := 0) (kc1 := 0) (ks1 := 0) (As := [.int (nI q)]) (rest := [.long (((cl_st7 S q m0 v).2.2 j).2.2.2.2.2.2.2), .ref (L.2.1 j)]) (c_Desk_bit) ok_Desk_bit (host := "PoolDesk") (List.mem_of_getElem? (i := 7) rfl) (wi_Pool_settle _ (List.mem_of_getElem? (i := 4) rfl)) rfl rfl (Nat.le_of_ble_eq_true rfl) (Nat.le_of_ble_eq_true rfl) ⟨Nat.le_of_ble_eq_true rfl, Nat.le_of_ble_eq_true rfl⟩ d_Pool_settle_128 (rv_kle ?_)
        refine rv_lor d_Pool_settle_131 ?_
        refine rv_put (fs' := [.ref (L.2.2.1 j), .ref (L.2.2.2.1 j), .long (((cl_st7 S q m0 v).2.2 j).2.2.1), .int (((cl_st7 S q m0 v).2.2 j).2.2.2.1), .int (((cl_st7 S q m0 v).2.2 j).2.2.2.2.1), .int (((cl_st7 S q m0 v).2.2 j).2.2.2.2.2.1), .long (((cl_st7 S q m0 v).2.2 j).2.2.2.2.2.2.1), .long ((((cl_st7 S q m0 v).2.2 j).2.2.2.2.2.2.2) ||| (bz_b q))]) ka_Tx hx rfl 7 (by decide) (wi_Pool_settle _ (List.mem_of_getElem? (i := 2) rfl)) rfl rfl rfl (Nat.le_of_ble_eq_true rfl) rfl d_Pool_settle_132
          (fun hp26 ehp26 => ?_)
        have hf26_0 : hp26 po = some (.inr (3, [.ref L.1, .long ((cl_lnI (cl_st7 S q m0 v) q (cl_named (cl_st2 S q m0 v) v) (cl_spenders (cl_st3 S q m0 v) m0) j).1), .int ((cl_lnI (cl_st7 S q m0 v) q (cl_named (cl_st2 S q m0 v) v) (cl_spenders (cl_st3 S q m0 v) m0) j).2.1)])) := by rw [ehp26, hp_un (hp_ne hS.1 hx (fun q => by first | cases q | simp at q))]; exact hS.1
        have hf26_1 : hp26 L.1 = some (.inl (ca 2, 41, .inr (.inr (.inr (.inr f))))) := by rw [ehp26, hp_un (hp_ne hf hx (fun q => by first | cases q | simp at q))]; exact hf
        have hf26_2 : hp26 (L.2.1 j) = some (.inr (2, [.ref (L.2.2.1 j), .ref (L.2.2.2.1 j), .long (((cl_st7 S q m0 v).2.2 j).2.2.1), .int (((cl_st7 S q m0 v).2.2 j).2.2.2.1), .int (((cl_st7 S q m0 v).2.2 j).2.2.2.2.1), .int (((cl_st7 S q m0 v).2.2 j).2.2.2.2.2.1), .long (((cl_st7 S q m0 v).2.2 j).2.2.2.2.2.2.1), .long ((((cl_st7 S q m0 v).2.2 j).2.2.2.2.2.2.2) ||| (bz_b q))])) := by rw [ehp26]; exact hp_us
        have hf26_3 : hp26 (L.2.1 q) = some (.inr (2, [.ref (L.2.2.1 q), .ref (L.2.2.2.1 q), .long (((cl_st7 S q m0 v).2.2 q).2.2.1), .int (((cl_st7 S q m0 v).2.2 q).2.2.2.1), .int (((cl_st7 S q m0 v).2.2 q).2.2.2.2.1), .int (((cl_st7 S q m0 v).2.2 q).2.2.2.2.2.1), .long (((cl_st7 S q m0 v).2.2 q).2.2.2.2.2.2.1), .long (((cl_st7 S q m0 v).2.2 q).2.2.2.2.2.2.2)])) := by rw [ehp26, hp_un (fun z => hne (hL.1 q j hq (by omega) z).symm)]; exact hx1
        refine rv_aload d_Pool_settle_135 1 rfl ?_
        refine rv_get ka_Tx hf26_3 rfl 7 (by decide) (wi_Pool_settle _ (List.mem_of_getElem? (i := 2) rfl)) rfl d_Pool_settle_137 ?_
        refine rv_eql (y := (cl_spenders (cl_st3 S q m0 v) m0)) cl_st7_q.2 ?_
        refine rv_iload d_Pool_settle_140 0 rfl ?_
        refine rv_callSN (kc' := 0) (ks' := 0) (kc1 := 0) (ks1 := 0) (As := [.long (cl_spenders (cl_st3 S q m0 v) m0), .int (nI j)]) (rest := []) (c_Desk_has (by omega)) ok_Desk_has (host := "PoolDesk") (List.mem_of_getElem? (i := 6) rfl) (wi_Pool_settle _ (List.mem_of_getElem? (i := 1) rfl)) rfl rfl (Nat.le_of_ble_eq_true rfl) (Nat.le_of_ble_eq_true rfl) ⟨Nat.le_of_ble_eq_true rfl, Nat.le_of_ble_eq_true rfl⟩ d_Pool_settle_142 (rv_kie ?_)
        refine rv_if_eq (tgt := 167) d_Pool_settle_145 (by decide) (fun c_145 => ?_) (fun c_145 => ?_)
        · have r2 := bI_0.mp c_145
          refine rv_iinc (k := 0) (v := nI (j + 1)) (lv' := [(5, .int (nI (j + 1))), (4, .ref (L.2.1 q)), (0, .ref po), (1, .int (nI q)), (2, .ref b), (3, .ref k)]) d_Pool_settle_167 rfl (nI_1 _) (by decide) rfl ?_
          refine rv_goto (tgt := 96) d_Pool_settle_170 (by decide) ?_
          have eh : hp26 = hp_up hp (L.2.1 j) (.inr (2, tx_F L j (tx_ln q (cl_named (cl_st2 S q m0 v) v) (cl_spenders (cl_st3 S q m0 v) m0) j ((cl_st7 S q m0 v).2.2 j)))) := by
            rw [ehp26]
            congr 3
            unfold tx_F tx_ln
            rw [r1, r2]
            rfl
          have hS2 : po_At ca hp26 po L (cl_lnI (cl_st7 S q m0 v) q (cl_named (cl_st2 S q m0 v) v) (cl_spenders (cl_st3 S q m0 v) m0) (j + 1)) := by
            rw [eh]
            refine po_ext (po_setTx hS hL (p := j) (by omega) (t := (tx_ln q (cl_named (cl_st2 S q m0 v) v) (cl_spenders (cl_st3 S q m0 v) m0) j ((cl_st7 S q m0 v).2.2 j))) (by rw [show (cl_lnI (cl_st7 S q m0 v) q (cl_named (cl_st2 S q m0 v) v) (cl_spenders (cl_st3 S q m0 v) m0) j).2.2 j = (cl_st7 S q m0 v).2.2 j from if_neg (Nat.lt_irrefl j)]; rfl) (by rw [show (cl_lnI (cl_st7 S q m0 v) q (cl_named (cl_st2 S q m0 v) v) (cl_spenders (cl_st3 S q m0 v) m0) j).2.2 j = (cl_st7 S q m0 v).2.2 j from if_neg (Nat.lt_irrefl j)]; rfl)) rfl rfl (fun p hp0 => ?_)
            by_cases e : p = j
            · subst e
              show va_up _ p _ p = (if p < p + 1 then _ else _)
              rw [va_up_s, if_pos (Nat.lt_succ_self p)]
            · show va_up _ j _ p = (if p < j + 1 then _ else _)
              rw [va_up_n e]
              show (if p < j then _ else _) = _
              by_cases z : p < j
              · rw [if_pos z, if_pos (by omega)]
              · rw [if_neg z, if_neg (by omega)]
          exact rv_lv [0, 1, 2, 3, 4, 5] rfl (ih (j + 1) hp26 (by omega) hS2 (by rw [eh]; exact po_out_up ho (po_fp_tx (by omega))))
        · have r2 := bI_n.mp c_145
          have hne : j ≠ q := fun z => by subst z; rw [hch] at r2; cases r2
          refine rv_aload_n d_Pool_settle_148 rfl 2 rfl ?_
          refine rv_get ka_Pool hf26_0 rfl 0 (by decide) (wi_Pool_settle _ (List.mem_of_getElem? (i := 3) rfl)) rfl d_Pool_settle_149 ?_
          refine rv_iload d_Pool_settle_152 0 rfl ?_
          refine rv_aald hf26_1 2 rfl (by omega) (by decide) d_Pool_settle_154 ?_
          refine rv_eqv (y := .ref (L.2.1 j)) ((by rw [hfp j (by omega)]; rfl)) ?_
          refine rv_dup d_Pool_settle_155 rfl ?_
          refine rv_get ka_Tx hf26_2 rfl 6 (by decide) (wi_Pool_settle _ (List.mem_of_getElem? (i := 0) rfl)) rfl d_Pool_settle_156 ?_
          refine rv_iload_n d_Pool_settle_159 rfl 3 rfl ?_
          refine rv_callSN (kc' := 0) (ks' := 0) (kc1 := 0) (ks1 := 0) (As := [.int (nI q)]) (rest := [.long (((cl_st7 S q m0 v).2.2 j).2.2.2.2.2.2.1), .ref (L.2.1 j)]) (c_Desk_bit) ok_Desk_bit (host := "PoolDesk") (List.mem_of_getElem? (i := 7) rfl) (wi_Pool_settle _ (List.mem_of_getElem? (i := 4) rfl)) rfl rfl (Nat.le_of_ble_eq_true rfl) (Nat.le_of_ble_eq_true rfl) ⟨Nat.le_of_ble_eq_true rfl, Nat.le_of_ble_eq_true rfl⟩ d_Pool_settle_160 (rv_kle ?_)
          refine rv_lor d_Pool_settle_163 ?_
          refine rv_put (fs' := [.ref (L.2.2.1 j), .ref (L.2.2.2.1 j), .long (((cl_st7 S q m0 v).2.2 j).2.2.1), .int (((cl_st7 S q m0 v).2.2 j).2.2.2.1), .int (((cl_st7 S q m0 v).2.2 j).2.2.2.2.1), .int (((cl_st7 S q m0 v).2.2 j).2.2.2.2.2.1), .long ((((cl_st7 S q m0 v).2.2 j).2.2.2.2.2.2.1) ||| (bz_b q)), .long ((((cl_st7 S q m0 v).2.2 j).2.2.2.2.2.2.2) ||| (bz_b q))]) ka_Tx hf26_2 rfl 6 (by decide) (wi_Pool_settle _ (List.mem_of_getElem? (i := 0) rfl)) rfl rfl rfl (Nat.le_of_ble_eq_true rfl) rfl d_Pool_settle_164
            (fun hp27 ehp27 => ?_)
          have hf27_0 : hp27 po = some (.inr (3, [.ref L.1, .long ((cl_lnI (cl_st7 S q m0 v) q (cl_named (cl_st2 S q m0 v) v) (cl_spenders (cl_st3 S q m0 v) m0) j).1), .int ((cl_lnI (cl_st7 S q m0 v) q (cl_named (cl_st2 S q m0 v) v) (cl_spenders (cl_st3 S q m0 v) m0) j).2.1)])) := by rw [ehp27, hp_un (hp_ne hf26_0 hf26_2 (fun q => by first | cases q | simp at q))]; exact hf26_0
          have hf27_1 : hp27 L.1 = some (.inl (ca 2, 41, .inr (.inr (.inr (.inr f))))) := by rw [ehp27, hp_un (hp_ne hf26_1 hf26_2 (fun q => by first | cases q | simp at q))]; exact hf26_1
          have hf27_2 : hp27 (L.2.1 j) = some (.inr (2, [.ref (L.2.2.1 j), .ref (L.2.2.2.1 j), .long (((cl_st7 S q m0 v).2.2 j).2.2.1), .int (((cl_st7 S q m0 v).2.2 j).2.2.2.1), .int (((cl_st7 S q m0 v).2.2 j).2.2.2.2.1), .int (((cl_st7 S q m0 v).2.2 j).2.2.2.2.2.1), .long ((((cl_st7 S q m0 v).2.2 j).2.2.2.2.2.2.1) ||| (bz_b q)), .long ((((cl_st7 S q m0 v).2.2 j).2.2.2.2.2.2.2) ||| (bz_b q))])) := by rw [ehp27]; exact hp_us
          have hf27_3 : hp27 (L.2.1 q) = some (.inr (2, [.ref (L.2.2.1 q), .ref (L.2.2.2.1 q), .long (((cl_st7 S q m0 v).2.2 q).2.2.1), .int (((cl_st7 S q m0 v).2.2 q).2.2.2.1), .int (((cl_st7 S q m0 v).2.2 q).2.2.2.2.1), .int (((cl_st7 S q m0 v).2.2 q).2.2.2.2.2.1), .long (((cl_st7 S q m0 v).2.2 q).2.2.2.2.2.2.1), .long (((cl_st7 S q m0 v).2.2 q).2.2.2.2.2.2.2)])) := by rw [ehp27, hp_un (fun z => hne (hL.1 q j hq (by omega) z).symm)]; exact hf26_3
          refine rv_iinc (k := 0) (v := nI (j + 1)) (lv' := [(5, .int (nI (j + 1))), (4, .ref (L.2.1 q)), (0, .ref po), (1, .int (nI q)), (2, .ref b), (3, .ref k)]) d_Pool_settle_167 rfl (nI_1 _) (by decide) rfl ?_
          refine rv_goto (tgt := 96) d_Pool_settle_170 (by decide) ?_
          have eh : hp27 = hp_up hp (L.2.1 j) (.inr (2, tx_F L j (tx_ln q (cl_named (cl_st2 S q m0 v) v) (cl_spenders (cl_st3 S q m0 v) m0) j ((cl_st7 S q m0 v).2.2 j)))) := by
            rw [ehp27, ehp26, hp_uu]
            congr 3
            unfold tx_F tx_ln
            rw [r1, r2]
            rfl
          have hS2 : po_At ca hp27 po L (cl_lnI (cl_st7 S q m0 v) q (cl_named (cl_st2 S q m0 v) v) (cl_spenders (cl_st3 S q m0 v) m0) (j + 1)) := by
            rw [eh]
            refine po_ext (po_setTx hS hL (p := j) (by omega) (t := (tx_ln q (cl_named (cl_st2 S q m0 v) v) (cl_spenders (cl_st3 S q m0 v) m0) j ((cl_st7 S q m0 v).2.2 j))) (by rw [show (cl_lnI (cl_st7 S q m0 v) q (cl_named (cl_st2 S q m0 v) v) (cl_spenders (cl_st3 S q m0 v) m0) j).2.2 j = (cl_st7 S q m0 v).2.2 j from if_neg (Nat.lt_irrefl j)]; rfl) (by rw [show (cl_lnI (cl_st7 S q m0 v) q (cl_named (cl_st2 S q m0 v) v) (cl_spenders (cl_st3 S q m0 v) m0) j).2.2 j = (cl_st7 S q m0 v).2.2 j from if_neg (Nat.lt_irrefl j)]; rfl)) rfl rfl (fun p hp0 => ?_)
            by_cases e : p = j
            · subst e
              show va_up _ p _ p = (if p < p + 1 then _ else _)
              rw [va_up_s, if_pos (Nat.lt_succ_self p)]
            · show va_up _ j _ p = (if p < j + 1 then _ else _)
              rw [va_up_n e]
              show (if p < j then _ else _) = _
              by_cases z : p < j
              · rw [if_pos z, if_pos (by omega)]
              · rw [if_neg z, if_neg (by omega)]
          exact rv_lv [0, 1, 2, 3, 4, 5] rfl (ih (j + 1) hp27 (by omega) hS2 (by rw [eh]; exact po_out_up ho (po_fp_tx (by omega))))
set_option maxHeartbeats 4000000 in
set_option maxRecDepth 100000 in
theorem c_Pool_settle {l : Launch} {D : va_G} {ca : Nat → ClassId} {hp : hp_T} {d : Nat} {po : Nat} {L : po_L} {S : po_S} (hS : po_At ca hp po L S) (hL : po_ok L) {q : Nat} (hq : q < 41) (hfree : bz_t S.1 q = false) {b : Nat} {m0 : nm_T} (hb : hp b = some (.inr (0, nm_F m0))) (hbn : ∀ p, p < 41 → b ≠ L.2.2.1 p) {k w i : Nat} {v : kv_T} (hk : kx_At ca hp k w i v) (hkn : ∀ p, p < 41 → k ≠ L.2.2.2.1 p ∧ w ≠ L.2.2.2.2.1 p ∧ i ≠ L.2.2.2.2.2 p) : ma_V l D ca ma_T M_Pool_settle (d + 4) 0 0 hp (ma_qv (fun hp1 => po_At ca hp1 po L (cl_st S q m0 v) ∧ po_out po L hp hp1)) 0 (lv_args 0 [.ref po, .int (nI q), .ref b, .ref k]) [] := by
  change ma_V l D ca ma_T M_Pool_settle (d + 4) 0 0 hp (ma_qv (fun hp1 => po_At ca hp1 po L (cl_st S q m0 v) ∧ po_out po L hp hp1)) 0 [(0, .ref po), (1, .int (nI q)), (2, .ref b), (3, .ref k)] []
  obtain ⟨f, hf, hfp⟩ := hS.2.1
  have hkq := hkn q hq
  have hxq := hS.2.2 q hq
  refine rv_aload_n d_Pool_settle_0 rfl 0 rfl ?_
  refine rv_get ka_Pool hS.1 rfl 0 (by decide) (wi_Pool_settle _ (List.mem_of_getElem? (i := 3) rfl)) rfl d_Pool_settle_1 ?_
  refine rv_iload_n d_Pool_settle_4 rfl 1 rfl ?_
  refine rv_aald hf 2 rfl (by omega) (by decide) d_Pool_settle_5 ?_
  refine rv_eqv (y := .ref (L.2.1 q)) ((by rw [hfp q hq]; rfl)) ?_
  refine rv_astore (lv' := [(4, .ref (L.2.1 q)), (0, .ref po), (1, .int (nI q)), (2, .ref b), (3, .ref k)]) d_Pool_settle_6 (by decide) rfl ?_
  refine rv_aload d_Pool_settle_8 0 rfl ?_
  refine rv_get ka_Tx (hS.2.2 q hq).1 rfl 0 (by decide) (wi_Pool_settle _ (List.mem_of_getElem? (i := 5) rfl)) rfl d_Pool_settle_10 ?_
  refine rv_aload_n d_Pool_settle_13 rfl 3 rfl ?_
  refine rv_get ka_Name hb rfl 0 (by decide) (wi_Pool_settle _ (List.mem_of_getElem? (i := 6) rfl)) rfl d_Pool_settle_14 ?_
  refine rv_aload_n d_Pool_settle_17 rfl 3 rfl ?_
  refine rv_get ka_Name hb rfl 1 (by decide) (wi_Pool_settle _ (List.mem_of_getElem? (i := 7) rfl)) rfl d_Pool_settle_18 ?_
  refine rv_aload_n d_Pool_settle_21 rfl 3 rfl ?_
  refine rv_get ka_Name hb rfl 2 (by decide) (wi_Pool_settle _ (List.mem_of_getElem? (i := 8) rfl)) rfl d_Pool_settle_22 ?_
  refine rv_aload_n d_Pool_settle_25 rfl 3 rfl ?_
  refine rv_get ka_Name hb rfl 3 (by decide) (wi_Pool_settle _ (List.mem_of_getElem? (i := 9) rfl)) rfl d_Pool_settle_26 ?_
  refine rv_callV (kc' := 0) (ks' := 0) (kc1 := 0) (ks1 := 0) (As := [.long m0.1, .long m0.2.1, .long m0.2.2.1, .long m0.2.2.2]) (rest := []) (hS.2.2 q hq).2.1 rfl (c_Name_set (m := m0) hxq.2.1) ok_Name_set (wi_Pool_settle _ (List.mem_of_getElem? (i := 10) rfl)) (wi_Pool_settle _ (List.mem_of_getElem? (i := 11) rfl)) (wi_Pool_settle _ (List.mem_of_getElem? (i := 12) rfl)) rfl rfl (Nat.le_of_ble_eq_true rfl) (Nat.le_of_ble_eq_true rfl) ⟨Nat.le_of_ble_eq_true rfl, Nat.le_of_ble_eq_true rfl⟩ d_Pool_settle_29 (rv_kv (fun hp28 ehp28 => ?_))
  have hS1 : po_At ca hp28 po L (S.1, S.2.1, va_up S.2.2 q (m0, (S.2.2 q).2)) := by rw [ehp28]; exact po_setNm hS hL hq m0
  have hb1 : hp28 b = some (.inr (0, nm_F m0)) := by rw [ehp28, hp_un (hbn q hq)]; exact hb
  have hk1 : kx_At ca hp28 k w i v := by rw [ehp28]; exact kx_congr hk (hp_un (hp_ne hk.1 hxq.2.1 (fun q => by first | cases q | simp at q))) (hp_un (hp_ne hk.2.1 hxq.2.1 (fun q => by first | cases q | simp at q))) (hp_un (hp_ne hk.2.2.1 hxq.2.1 (fun q => by first | cases q | simp at q)))
  have ho1 : po_out po L hp hp28 := by rw [ehp28]; exact po_out_up po_out_rf (po_fp_nm hq)
  have hz1 := hS1.2.2 q hq
  rw [show (S.1, S.2.1, va_up S.2.2 q (m0, (S.2.2 q).2)).2.2 q = (m0, (S.2.2 q).2) from va_up_s] at hz1
  obtain ⟨f1, hf1, hfp1⟩ := hS1.2.1
  refine rv_aload d_Pool_settle_32 0 rfl ?_
  refine rv_get ka_Tx hz1.1 rfl 1 (by decide) (wi_Pool_settle _ (List.mem_of_getElem? (i := 13) rfl)) rfl d_Pool_settle_34 ?_
  refine rv_aload_n d_Pool_settle_37 rfl 4 rfl ?_
  refine rv_callV (kc' := 0) (ks' := 0) (kc1 := 0) (ks1 := 0) (As := [.ref k]) (rest := []) hz1.2.2.1 rfl (c_Keys_copy hz1.2.2 hk1 hkq) ok_Keys_copy (wi_Pool_settle _ (List.mem_of_getElem? (i := 14) rfl)) (wi_Pool_settle _ (List.mem_of_getElem? (i := 15) rfl)) (wi_Pool_settle _ (List.mem_of_getElem? (i := 16) rfl)) rfl rfl (Nat.le_of_ble_eq_true rfl) (Nat.le_of_ble_eq_true rfl) ⟨Nat.le_of_ble_eq_true rfl, Nat.le_of_ble_eq_true rfl⟩ d_Pool_settle_38 (rv_kv (fun hp29 ehp29 => ?_))
  have hS2 : po_At ca hp29 po L (cl_st2 S q m0 v) := by
    rw [ehp29]
    refine po_ext (po_setKs hS1 hL hq (kv_cp v (S.2.2 q).2.1) hk.2.2.2) rfl rfl (fun p hp0 => ?_)
    show va_up (va_up S.2.2 q (m0, (S.2.2 q).2)) q _ p = va_up S.2.2 q _ p
    rw [va_up_up, show (S.1, S.2.1, va_up S.2.2 q (m0, (S.2.2 q).2)).2.2 q = (m0, (S.2.2 q).2) from va_up_s]
  have hb2 : hp29 b = some (.inr (0, nm_F m0)) := by rw [ehp29, kx_put_un (hp_ne hb1 hz1.2.2.1 (fun q => by first | cases q | simp at q)) (hp_ne hb1 hz1.2.2.2.1 (fun q => by first | cases q | simp at q)) (hp_ne hb1 hz1.2.2.2.2.1 (fun q => by first | cases q | simp at q))]; exact hb1
  have hk2 : kx_At ca hp29 k w i v := by rw [ehp29]; exact kx_congr hk1 (kx_put_un hkq.1 (hp_ne hk1.1 hz1.2.2.2.1 (fun q => by first | cases q | simp at q)) (hp_ne hk1.1 hz1.2.2.2.2.1 (fun q => by first | cases q | simp at q))) (kx_put_un (hp_ne hk1.2.1 hz1.2.2.1 (fun q => by first | cases q | simp at q)) hkq.2.1 (hp_ne hk1.2.1 hz1.2.2.2.2.1 (fun q => by first | cases q | simp at q))) (kx_put_un (hp_ne hk1.2.2.1 hz1.2.2.1 (fun q => by first | cases q | simp at q)) (hp_ne hk1.2.2.1 hz1.2.2.2.1 (fun q => by first | cases q | simp at q)) hkq.2.2)
  have ho2 : po_out po L hp hp29 := by rw [ehp29]; exact po_out_put ho1 (po_fp_ks hq) (po_fp_wk hq) (po_fp_ik hq)
  obtain ⟨f2, hf2, hfp2⟩ := hS2.2.1
  refine rv_aload d_Pool_settle_41 0 rfl ?_
  refine rv_aload_n d_Pool_settle_43 rfl 1 rfl ?_
  refine rv_aload_n d_Pool_settle_44 rfl 4 rfl ?_
  refine rv_callV (kc' := 0) (ks' := 0) (kc1 := 0) (ks1 := 0) (As := [.ref k]) (rest := [.ref (L.2.1 q)]) hS2.1 rfl (c_Pool_named hS2 hk2) ok_Pool_named (wi_Pool_settle _ (List.mem_of_getElem? (i := 17) rfl)) (wi_Pool_settle _ (List.mem_of_getElem? (i := 18) rfl)) (wi_Pool_settle _ (List.mem_of_getElem? (i := 19) rfl)) rfl rfl (Nat.le_of_ble_eq_true rfl) (Nat.le_of_ble_eq_true rfl) ⟨Nat.le_of_ble_eq_true rfl, Nat.le_of_ble_eq_true rfl⟩ d_Pool_settle_45 (rv_kle ?_)
  refine rv_put (fs' := [.ref (L.2.2.1 q), .ref (L.2.2.2.1 q), .long (((cl_st2 S q m0 v).2.2 q).2.2.1), .int (((cl_st2 S q m0 v).2.2 q).2.2.2.1), .int (((cl_st2 S q m0 v).2.2 q).2.2.2.2.1), .int (((cl_st2 S q m0 v).2.2 q).2.2.2.2.2.1), .long (cl_named (cl_st2 S q m0 v) v), .long (((cl_st2 S q m0 v).2.2 q).2.2.2.2.2.2.2)]) ka_Tx (hS2.2.2 q hq).1 rfl 6 (by decide) (wi_Pool_settle _ (List.mem_of_getElem? (i := 0) rfl)) rfl rfl rfl (Nat.le_of_ble_eq_true rfl) rfl d_Pool_settle_48
    (fun hp30 ehp30 => ?_)
  have hS3 : po_At ca hp30 po L (cl_st3 S q m0 v) := by rw [ehp30]; exact po_setTx hS2 hL hq (t := tx_pa ((cl_st2 S q m0 v).2.2 q) (cl_named (cl_st2 S q m0 v) v)) rfl rfl
  have hb3 : hp30 b = some (.inr (0, nm_F m0)) := by rw [ehp30, hp_un (hp_ne hb2 (hS2.2.2 q hq |>.1) (fun q => by first | cases q | simp at q))]; exact hb2
  have hk3 : kx_At ca hp30 k w i v := by rw [ehp30]; exact kx_congr hk2 (hp_un (hp_ne hk2.1 (hS2.2.2 q hq |>.1) (fun q => by first | cases q | simp at q))) (hp_un (hp_ne hk2.2.1 (hS2.2.2 q hq |>.1) (fun q => by first | cases q | simp at q))) (hp_un (hp_ne hk2.2.2.1 (hS2.2.2 q hq |>.1) (fun q => by first | cases q | simp at q)))
  have ho3 : po_out po L hp hp30 := by rw [ehp30]; exact po_out_up ho2 (po_fp_tx hq)
  obtain ⟨f3, hf3, hfp3⟩ := hS3.2.1
  refine rv_aload d_Pool_settle_51 0 rfl ?_
  refine rv_aload_n d_Pool_settle_53 rfl 1 rfl ?_
  refine rv_aload_n d_Pool_settle_54 rfl 3 rfl ?_
  refine rv_callV (kc' := 0) (ks' := 0) (kc1 := 0) (ks1 := 0) (As := [.ref b]) (rest := [.ref (L.2.1 q)]) hS3.1 rfl (c_Pool_spendersOf hS3 hb3) ok_Pool_spendersOf (wi_Pool_settle _ (List.mem_of_getElem? (i := 20) rfl)) (wi_Pool_settle _ (List.mem_of_getElem? (i := 21) rfl)) (wi_Pool_settle _ (List.mem_of_getElem? (i := 22) rfl)) rfl rfl (Nat.le_of_ble_eq_true rfl) (Nat.le_of_ble_eq_true rfl) ⟨Nat.le_of_ble_eq_true rfl, Nat.le_of_ble_eq_true rfl⟩ d_Pool_settle_55 (rv_kle ?_)
  refine rv_put (fs' := [.ref (L.2.2.1 q), .ref (L.2.2.2.1 q), .long (((cl_st3 S q m0 v).2.2 q).2.2.1), .int (((cl_st3 S q m0 v).2.2 q).2.2.2.1), .int (((cl_st3 S q m0 v).2.2 q).2.2.2.2.1), .int (((cl_st3 S q m0 v).2.2 q).2.2.2.2.2.1), .long (((cl_st3 S q m0 v).2.2 q).2.2.2.2.2.2.1), .long (cl_spenders (cl_st3 S q m0 v) m0)]) ka_Tx (hS3.2.2 q hq).1 rfl 7 (by decide) (wi_Pool_settle _ (List.mem_of_getElem? (i := 2) rfl)) rfl rfl rfl (Nat.le_of_ble_eq_true rfl) rfl d_Pool_settle_58
    (fun hp31 ehp31 => ?_)
  have hS4 : po_At ca hp31 po L (cl_st4 S q m0 v) := by rw [ehp31]; exact po_setTx hS3 hL hq (t := tx_ch ((cl_st3 S q m0 v).2.2 q) (cl_spenders (cl_st3 S q m0 v) m0)) rfl rfl
  have hb4 : hp31 b = some (.inr (0, nm_F m0)) := by rw [ehp31, hp_un (hp_ne hb3 (hS3.2.2 q hq |>.1) (fun q => by first | cases q | simp at q))]; exact hb3
  have hk4 : kx_At ca hp31 k w i v := by rw [ehp31]; exact kx_congr hk3 (hp_un (hp_ne hk3.1 (hS3.2.2 q hq |>.1) (fun q => by first | cases q | simp at q))) (hp_un (hp_ne hk3.2.1 (hS3.2.2 q hq |>.1) (fun q => by first | cases q | simp at q))) (hp_un (hp_ne hk3.2.2.1 (hS3.2.2 q hq |>.1) (fun q => by first | cases q | simp at q)))
  have ho4 : po_out po L hp hp31 := by rw [ehp31]; exact po_out_up ho3 (po_fp_tx hq)
  obtain ⟨f4, hf4, hfp4⟩ := hS4.2.1
  refine rv_aload_n d_Pool_settle_61 rfl 1 rfl ?_
  refine rv_dup d_Pool_settle_62 rfl ?_
  refine rv_get ka_Pool hS4.1 rfl 2 (by decide) (wi_Pool_settle _ (List.mem_of_getElem? (i := 23) rfl)) rfl d_Pool_settle_63 ?_
  refine rv_iconst (v := nI 1) d_Pool_settle_66 (by decide) ?_
  refine rv_iadd d_Pool_settle_67 ?_
  refine rv_put (fs' := [.ref L.1, .long ((cl_st4 S q m0 v).1), .int (((cl_st4 S q m0 v).2.1) + (nI 1))]) ka_Pool hS4.1 rfl 2 (by decide) (wi_Pool_settle _ (List.mem_of_getElem? (i := 23) rfl)) rfl rfl rfl (Nat.le_of_ble_eq_true rfl) rfl d_Pool_settle_68
    (fun hp32 ehp32 => ?_)
  have hS5 : po_At ca hp32 po L (cl_st5 S q m0 v) := by rw [ehp32]; exact po_setPo hS4 _ _
  have hb5 : hp32 b = some (.inr (0, nm_F m0)) := by rw [ehp32, hp_un (hp_ne hb4 (hS4.1) (fun q => by first | cases q | simp at q))]; exact hb4
  have hk5 : kx_At ca hp32 k w i v := by rw [ehp32]; exact kx_congr hk4 (hp_un (hp_ne hk4.1 (hS4.1) (fun q => by first | cases q | simp at q))) (hp_un (hp_ne hk4.2.1 (hS4.1) (fun q => by first | cases q | simp at q))) (hp_un (hp_ne hk4.2.2.1 (hS4.1) (fun q => by first | cases q | simp at q)))
  have ho5 : po_out po L hp hp32 := by rw [ehp32]; exact po_out_up ho4 po_fp_po
  obtain ⟨f5, hf5, hfp5⟩ := hS5.2.1
  refine rv_aload d_Pool_settle_71 0 rfl ?_
  refine rv_aload_n d_Pool_settle_73 rfl 1 rfl ?_
  refine rv_get ka_Pool hS5.1 rfl 2 (by decide) (wi_Pool_settle _ (List.mem_of_getElem? (i := 23) rfl)) rfl d_Pool_settle_74 ?_
  refine rv_put (fs' := [.ref (L.2.2.1 q), .ref (L.2.2.2.1 q), .long (((cl_st5 S q m0 v).2.2 q).2.2.1), .int (((cl_st5 S q m0 v).2.2 q).2.2.2.1), .int (((cl_st5 S q m0 v).2.2 q).2.2.2.2.1), .int ((cl_st5 S q m0 v).2.1), .long (((cl_st5 S q m0 v).2.2 q).2.2.2.2.2.2.1), .long (((cl_st5 S q m0 v).2.2 q).2.2.2.2.2.2.2)]) ka_Tx (hS5.2.2 q hq).1 rfl 5 (by decide) (wi_Pool_settle _ (List.mem_of_getElem? (i := 24) rfl)) rfl rfl rfl (Nat.le_of_ble_eq_true rfl) rfl d_Pool_settle_77
    (fun hp33 ehp33 => ?_)
  have hS6 : po_At ca hp33 po L (cl_st6 S q m0 v) := by rw [ehp33]; exact po_setTx hS5 hL hq (t := tx_co ((cl_st5 S q m0 v).2.2 q) (cl_st5 S q m0 v).2.1) rfl rfl
  have hb6 : hp33 b = some (.inr (0, nm_F m0)) := by rw [ehp33, hp_un (hp_ne hb5 (hS5.2.2 q hq |>.1) (fun q => by first | cases q | simp at q))]; exact hb5
  have hk6 : kx_At ca hp33 k w i v := by rw [ehp33]; exact kx_congr hk5 (hp_un (hp_ne hk5.1 (hS5.2.2 q hq |>.1) (fun q => by first | cases q | simp at q))) (hp_un (hp_ne hk5.2.1 (hS5.2.2 q hq |>.1) (fun q => by first | cases q | simp at q))) (hp_un (hp_ne hk5.2.2.1 (hS5.2.2 q hq |>.1) (fun q => by first | cases q | simp at q)))
  have ho6 : po_out po L hp hp33 := by rw [ehp33]; exact po_out_up ho5 (po_fp_tx hq)
  obtain ⟨f6, hf6, hfp6⟩ := hS6.2.1
  refine rv_aload_n d_Pool_settle_80 rfl 1 rfl ?_
  refine rv_dup d_Pool_settle_81 rfl ?_
  refine rv_get ka_Pool hS6.1 rfl 1 (by decide) (wi_Pool_settle _ (List.mem_of_getElem? (i := 25) rfl)) rfl d_Pool_settle_82 ?_
  refine rv_iload_n d_Pool_settle_85 rfl 2 rfl ?_
  refine rv_callSN (kc' := 0) (ks' := 0) (kc1 := 0) (ks1 := 0) (As := [.int (nI q)]) (rest := [.long ((cl_st6 S q m0 v).1), .ref po]) (c_Desk_bit) ok_Desk_bit (host := "PoolDesk") (List.mem_of_getElem? (i := 7) rfl) (wi_Pool_settle _ (List.mem_of_getElem? (i := 4) rfl)) rfl rfl (Nat.le_of_ble_eq_true rfl) (Nat.le_of_ble_eq_true rfl) ⟨Nat.le_of_ble_eq_true rfl, Nat.le_of_ble_eq_true rfl⟩ d_Pool_settle_86 (rv_kle ?_)
  refine rv_lor d_Pool_settle_89 ?_
  refine rv_put (fs' := [.ref L.1, .long (((cl_st6 S q m0 v).1) ||| (bz_b q)), .int ((cl_st6 S q m0 v).2.1)]) ka_Pool hS6.1 rfl 1 (by decide) (wi_Pool_settle _ (List.mem_of_getElem? (i := 25) rfl)) rfl rfl rfl (Nat.le_of_ble_eq_true rfl) rfl d_Pool_settle_90
    (fun hp34 ehp34 => ?_)
  have hS7 : po_At ca hp34 po L (cl_st7 S q m0 v) := by rw [ehp34]; exact po_setPo hS6 _ _
  have hb7 : hp34 b = some (.inr (0, nm_F m0)) := by rw [ehp34, hp_un (hp_ne hb6 (hS6.1) (fun q => by first | cases q | simp at q))]; exact hb6
  have hk7 : kx_At ca hp34 k w i v := by rw [ehp34]; exact kx_congr hk6 (hp_un (hp_ne hk6.1 (hS6.1) (fun q => by first | cases q | simp at q))) (hp_un (hp_ne hk6.2.1 (hS6.1) (fun q => by first | cases q | simp at q))) (hp_un (hp_ne hk6.2.2.1 (hS6.1) (fun q => by first | cases q | simp at q)))
  have ho7 : po_out po L hp hp34 := by rw [ehp34]; exact po_out_up ho6 po_fp_po
  obtain ⟨f7, hf7, hfp7⟩ := hS7.2.1
  refine rv_iconst (v := nI 0) d_Pool_settle_93 (by decide) ?_
  refine rv_istore (lv' := [(5, .int (nI 0)), (4, .ref (L.2.1 q)), (0, .ref po), (1, .int (nI q)), (2, .ref b), (3, .ref k)]) d_Pool_settle_94 (by decide) rfl ?_
  exact rv_lv [0, 1, 2, 3, 4, 5] rfl (c_Pool_settle_l (d := d + 2) hL hq hfree 41 0 hp34 (Nat.zero_add _) (po_ext hS7 rfl rfl (fun p hp0 => cl_lnI_0)) ho7)
