def wl_Model_count : List Cond := [.fieldLink "PoolDeskModel" 51 "PoolDeskModel" "size" "I", .fieldLink "PoolDeskModel" 13 "PoolDeskModel" "spends" "[I", .methodLink "PoolDeskModel" 85 y_Model_sizesOf, .instanceMethod y_Model_sizesOf, .selects "PoolDeskModel" y_Model_sizesOf y_Model_sizesOf, .fieldLink "PoolDeskModel" 59 "PoolDeskModel" "told" "I", .fieldLink "PoolDeskModel" 108 "PoolDeskModel" "came" "I"]
theorem wi_Model_count : ∀ w ∈ wl_Model_count, w ∈ ma_tbl := by decide +kernel
def wl_Model_name : List Cond := [.fieldLink "PoolDeskModel" 35 "PoolDeskModel" "name" "[J"]
theorem wi_Model_name : ∀ w ∈ wl_Model_name, w ∈ ma_tbl := by decide +kernel
def wl_Model_spend : List Cond := [.fieldLink "PoolDeskModel" 38 "PoolDeskModel" "toldKeys" "[J", .fieldLink "PoolDeskModel" 35 "PoolDeskModel" "name" "[J", .fieldLink "PoolDeskModel" 59 "PoolDeskModel" "told" "I", .fieldLink "PoolDeskModel" 41 "PoolDeskModel" "toldIndexes" "[I"]
theorem wi_Model_spend : ∀ w ∈ wl_Model_spend, w ∈ ma_tbl := by decide +kernel
def wl_Model_take : List Cond := [.fieldLink "PoolDeskModel" 44 "PoolDeskModel" "marks" "[Z", .methodLink "PoolDeskModel" 98 y_Model_find, .instanceMethod y_Model_find, .selects "PoolDeskModel" y_Model_find y_Model_find, .methodLink "PoolDeskModel" 114 y_Model_remove, .instanceMethod y_Model_remove, .selects "PoolDeskModel" y_Model_remove y_Model_remove]
theorem wi_Model_take : ∀ w ∈ wl_Model_take, w ∈ ma_tbl := by decide +kernel
def wl_Model_drop : List Cond := [.methodLink "PoolDeskModel" 98 y_Model_find, .instanceMethod y_Model_find, .selects "PoolDeskModel" y_Model_find y_Model_find, .fieldLink "PoolDeskModel" 51 "PoolDeskModel" "size" "I", .methodLink "PoolDeskModel" 78 y_Model_family, .instanceMethod y_Model_family, .selects "PoolDeskModel" y_Model_family y_Model_family, .methodLink "PoolDeskModel" 114 y_Model_remove, .instanceMethod y_Model_remove, .selects "PoolDeskModel" y_Model_remove y_Model_remove]
theorem wi_Model_drop : ∀ w ∈ wl_Model_drop, w ∈ ma_tbl := by decide +kernel
def wl_Model_strike : List Cond := [.fieldLink "PoolDeskModel" 17 "PoolDeskModel" "keys" "[J", .fieldLink "PoolDeskModel" 35 "PoolDeskModel" "name" "[J", .fieldLink "PoolDeskModel" 13 "PoolDeskModel" "spends" "[I", .fieldLink "PoolDeskModel" 20 "PoolDeskModel" "indexes" "[I", .fieldLink "PoolDeskModel" 51 "PoolDeskModel" "size" "I", .methodLink "PoolDeskModel" 78 y_Model_family, .instanceMethod y_Model_family, .selects "PoolDeskModel" y_Model_family y_Model_family, .methodLink "PoolDeskModel" 114 y_Model_remove, .instanceMethod y_Model_remove, .selects "PoolDeskModel" y_Model_remove y_Model_remove]
theorem wi_Model_strike : ∀ w ∈ wl_Model_strike, w ∈ ma_tbl := by decide +kernel
def wl_Model_look : List Cond := [.fieldLink "PoolDeskModel" 51 "PoolDeskModel" "size" "I", .fieldLink "PoolDeskModel" 44 "PoolDeskModel" "marks" "[Z", .methodLink "PoolDeskModel" 98 y_Model_find, .instanceMethod y_Model_find, .selects "PoolDeskModel" y_Model_find y_Model_find, .constantLong "PoolDeskModel" 117 (-1), .methodLink "PoolDeskModel" 78 y_Model_family, .instanceMethod y_Model_family, .selects "PoolDeskModel" y_Model_family y_Model_family, .fieldLink "PoolDeskModel" 23 "PoolDeskModel" "fees" "[J", .fieldLink "PoolDeskModel" 26 "PoolDeskModel" "sizes" "[I", .fieldLink "PoolDeskModel" 29 "PoolDeskModel" "outputs" "[I", .fieldLink "PoolDeskModel" 13 "PoolDeskModel" "spends" "[I", .methodLink "PoolDeskModel" 119 y_Model_kin, .instanceMethod y_Model_kin, .selects "PoolDeskModel" y_Model_kin y_Model_kin, .methodLink "PoolDeskModel" 81 y_Model_feesOf, .instanceMethod y_Model_feesOf, .selects "PoolDeskModel" y_Model_feesOf y_Model_feesOf, .methodLink "PoolDeskModel" 85 y_Model_sizesOf, .instanceMethod y_Model_sizesOf, .selects "PoolDeskModel" y_Model_sizesOf y_Model_sizesOf, .fieldLink "PoolDeskModel" 32 "PoolDeskModel" "coming" "[I"]
theorem wi_Model_look : ∀ w ∈ wl_Model_look, w ∈ ma_tbl := by decide +kernel
set_option maxHeartbeats 1000000 in
set_option maxRecDepth 100000 in
theorem c_Model_count_l {l : Launch} {D : va_G} {ca : Nat → ClassId} {hp : hp_T} {d : Nat} {x : Nat} {A : Nat → Nat} {S : mo_S} (hS : mo_At ca hp x A S) {Q : Option Value → hp_T → Prop} {k0 : Int32} : ∀ (m i : Nat) (a : Int32), i + m = mo_z S → ma_V l D ca ma_T M_Model_count (d + 1) 0 0 hp Q 27 [(3, .int (nI (mo_z S))), (2, .int (lp_fold (fun t a => a + nI (md_sp S t)) m i a)), (0, .ref x), (1, .int k0)] [] → ma_V l D ca ma_T M_Model_count (d + 1) 0 0 hp Q 4 [(3, .int (nI i)), (2, .int a), (0, .ref x), (1, .int k0)] [] := by
  have hA1 : hp (A 1) = some (.inl (ca 0, 42, .inl (mo_i S 1))) := hS.2.1 1 (by decide)
  have hsz := hS.2.2.2.2.1
  have htd := hS.2.2.2.2.2.1
  have hrs := hS.2.2.2.2.2.2
  have hsp := hS.2.2.1
  have hmk : ∀ u, u < 42 → mo_i S 11 u = bI (md_mk S u) := fun u _ => congrFun hS.2.2.2.1 u
  intro m
  induction m with
  | zero =>
    intro i a hi K
    obtain rfl : i = mo_z S := by omega
    refine rv_iload_n d_Model_count_4 rfl 0 rfl ?_
    refine rv_aload_n d_Model_count_5 rfl 2 rfl ?_
    refine rv_get ka_Model hS.1 rfl 0 (by decide) (wi_Model_count _ (List.mem_of_getElem? (i := 0) rfl)) rfl d_Model_count_6 ?_
    refine rv_icmp_ge (tgt := 27) d_Model_count_9 (by decide) (fun c_9 => ?_) (fun c_9 => ?_)
    · exact K
    · exact absurd (nI_le (by omega) (by omega)) c_9
  | succ m ih =>
    intro i a hi K
    refine rv_iload_n d_Model_count_4 rfl 0 rfl ?_
    refine rv_aload_n d_Model_count_5 rfl 2 rfl ?_
    refine rv_get ka_Model hS.1 rfl 0 (by decide) (wi_Model_count _ (List.mem_of_getElem? (i := 0) rfl)) rfl d_Model_count_6 ?_
    refine rv_icmp_ge (tgt := 27) d_Model_count_9 (by decide) (fun c_9 => ?_) (fun c_9 => ?_)
    · exact absurd c_9 (nI_ge (by omega) (by omega))
    · refine rv_iload_n d_Model_count_12 rfl 1 rfl ?_
      refine rv_aload_n d_Model_count_13 rfl 2 rfl ?_
      refine rv_get ka_Model hS.1 rfl 2 (by decide) (wi_Model_count _ (List.mem_of_getElem? (i := 1) rfl)) rfl d_Model_count_14 ?_
      refine rv_iload_n d_Model_count_17 rfl 0 rfl ?_
      refine rv_iald hA1 0 rfl (by omega) (by decide) d_Model_count_18 ?_
      refine rv_eqi (y := nI (md_sp S i)) ((hsp i (by omega)).1) ?_
      refine rv_iadd d_Model_count_19 ?_
      refine rv_istore_n (lv' := [(2, .int (a + (nI (md_sp S i)))), (3, .int (nI i)), (0, .ref x), (1, .int k0)]) d_Model_count_20 rfl (by decide) rfl ?_
      refine rv_iinc (k := 1) (v := nI (i + 1)) (lv' := [(3, .int (nI (i + 1))), (2, .int (a + (nI (md_sp S i)))), (0, .ref x), (1, .int k0)]) d_Model_count_21 rfl (nI_1 _) (by decide) rfl ?_
      refine rv_goto (tgt := 4) d_Model_count_24 (by decide) ?_
      have e : (fun t a => a + nI (md_sp S t)) i a = a + (nI (md_sp S i)) := rfl
      refine rv_lv [0, 1, 2, 3] rfl (ih (i + 1) (a + (nI (md_sp S i))) (by omega) ?_)
      have z := K
      rw [show lp_fold (fun t a => a + nI (md_sp S t)) (m + 1) i a = lp_fold (fun t a => a + nI (md_sp S t)) m (i + 1) (a + (nI (md_sp S i))) from congrArg (lp_fold (fun t a => a + nI (md_sp S t)) m (i + 1)) e] at z
      exact z
set_option maxHeartbeats 1000000 in
set_option maxRecDepth 100000 in
theorem c_Model_count {l : Launch} {D : va_G} {ca : Nat → ClassId} {hp : hp_T} {d : Nat} {x : Nat} {A : Nat → Nat} {S : mo_S} (hS : mo_At ca hp x A S) {k0 : Int32} : ma_V l D ca ma_T M_Model_count (d + 1) 0 0 hp (ma_qi (ma_eq (md_count S k0) hp)) 0 (lv_args 0 [.ref x, .int k0]) [] := by
  change ma_V l D ca ma_T M_Model_count (d + 1) 0 0 hp (ma_qi (ma_eq (md_count S k0) hp)) 0 [(0, .ref x), (1, .int k0)] []
  have hA1 : hp (A 1) = some (.inl (ca 0, 42, .inl (mo_i S 1))) := hS.2.1 1 (by decide)
  have hsz := hS.2.2.2.2.1
  have htd := hS.2.2.2.2.2.1
  have hrs := hS.2.2.2.2.2.2
  have hsp := hS.2.2.1
  have hmk : ∀ u, u < 42 → mo_i S 11 u = bI (md_mk S u) := fun u _ => congrFun hS.2.2.2.1 u
  refine rv_iconst (v := nI 0) d_Model_count_0 (by decide) ?_
  refine rv_istore_n (lv' := [(2, .int (nI 0)), (0, .ref x), (1, .int k0)]) d_Model_count_1 rfl (by decide) rfl ?_
  refine rv_iconst (v := nI 0) d_Model_count_2 (by decide) ?_
  refine rv_istore_n (lv' := [(3, .int (nI 0)), (2, .int (nI 0)), (0, .ref x), (1, .int k0)]) d_Model_count_3 rfl (by decide) rfl ?_
  refine rv_lv [0, 1, 2, 3] rfl (c_Model_count_l hS (mo_z S) 0 (nI 0) (Nat.zero_add _) ?_)
  change ma_V l D ca ma_T M_Model_count (d + 1) 0 0 hp _ 27 [(3, .int (nI (mo_z S))), (2, .int (md_nkeys S)), (0, .ref x), (1, .int k0)] []
  refine rv_iload_n d_Model_count_27 rfl 3 rfl ?_
  rcases sw_cases k0 4 (by decide) with ⟨k, hk, rfl⟩ | hx
  · rcases (show k = 0 ∨ k = 1 ∨ k = 2 ∨ k = 3 ∨ k = 4 by omega) with rfl | rfl | rfl | rfl | rfl
    · refine rv_tblI (off := 36) (tgt := 64) d_Model_count_28 (by decide) (by decide) (by decide) (by decide) ?_
      refine rv_aload_n d_Model_count_64 rfl 2 rfl ?_
      refine rv_get ka_Model hS.1 rfl 0 (by decide) (wi_Model_count _ (List.mem_of_getElem? (i := 0) rfl)) rfl d_Model_count_65 ?_
      exact rv_ireturn ⟨_, rfl, rfl, rfl⟩ d_Model_count_68 rfl rfl
    · refine rv_tblI (off := 41) (tgt := 69) d_Model_count_28 (by decide) (by decide) (by decide) (by decide) ?_
      refine rv_iload_n d_Model_count_69 rfl 1 rfl ?_
      exact rv_ireturn ⟨_, rfl, rfl, rfl⟩ d_Model_count_70 rfl rfl
    · refine rv_tblI (off := 43) (tgt := 71) d_Model_count_28 (by decide) (by decide) (by decide) (by decide) ?_
      refine rv_aload_n d_Model_count_71 rfl 2 rfl ?_
      refine rv_iconst (v := nI 0) d_Model_count_72 (by decide) ?_
      refine rv_callV (kc' := 0) (ks' := 0) (kc1 := 0) (ks1 := 0) (As := [.int (nI 0)]) (rest := []) hS.1 rfl (c_Model_sizesOf (m0 := false) hS) ok_Model_sizesOf (wi_Model_count _ (List.mem_of_getElem? (i := 2) rfl)) (wi_Model_count _ (List.mem_of_getElem? (i := 3) rfl)) (wi_Model_count _ (List.mem_of_getElem? (i := 4) rfl)) rfl rfl (Nat.le_of_ble_eq_true rfl) (Nat.le_of_ble_eq_true rfl) ⟨Nat.le_of_ble_eq_true rfl, Nat.le_of_ble_eq_true rfl⟩ d_Model_count_73 (rv_kle ?_)
      refine rv_l2i d_Model_count_76 ?_
      exact rv_ireturn ⟨_, rfl, rfl, rfl⟩ d_Model_count_77 rfl rfl
    · refine rv_tblI (off := 50) (tgt := 78) d_Model_count_28 (by decide) (by decide) (by decide) (by decide) ?_
      refine rv_aload_n d_Model_count_78 rfl 2 rfl ?_
      refine rv_get ka_Model hS.1 rfl 11 (by decide) (wi_Model_count _ (List.mem_of_getElem? (i := 5) rfl)) rfl d_Model_count_79 ?_
      exact rv_ireturn ⟨_, rfl, rfl, rfl⟩ d_Model_count_82 rfl rfl
    · refine rv_tblI (off := 55) (tgt := 83) d_Model_count_28 (by decide) (by decide) (by decide) (by decide) ?_
      refine rv_aload_n d_Model_count_83 rfl 2 rfl ?_
      refine rv_get ka_Model hS.1 rfl 9 (by decide) (wi_Model_count _ (List.mem_of_getElem? (i := 6) rfl)) rfl d_Model_count_84 ?_
      exact rv_ireturn ⟨_, rfl, rfl, rfl⟩ d_Model_count_87 rfl rfl
  · refine rv_tblO (tgt := 88) d_Model_count_28 hx (by decide) ?_
    refine rv_iconst (v := (-1)) d_Model_count_88 (by decide) ?_
    exact rv_ireturn ⟨_, rfl, (md_count_out hx).symm, rfl⟩ d_Model_count_89 rfl rfl
set_option maxHeartbeats 1000000 in
set_option maxRecDepth 100000 in
theorem c_Model_name {l : Launch} {D : va_G} {ca : Nat → ClassId} {hp : hp_T} {d : Nat} {x : Nat} {A : Nat → Nat} {S : mo_S} (hS : mo_At ca hp x A S) (hA : pi_inj A 13) {m : nm_T} : ma_V l D ca ma_T M_Model_name d 0 0 hp (ma_qv (fun hp1 => mo_At ca hp1 x A (md_nameS S m) ∧ mo_out x A hp hp1)) 0 (lv_args 0 [.ref x, .long m.1, .long m.2.1, .long m.2.2.1, .long m.2.2.2]) [] := by
  change ma_V l D ca ma_T M_Model_name d 0 0 hp (ma_qv (fun hp1 => mo_At ca hp1 x A (md_nameS S m) ∧ mo_out x A hp hp1)) 0 [(0, .ref x), (1, .long m.1), (3, .long m.2.1), (5, .long m.2.2.1), (7, .long m.2.2.2)] []
  have hA8 : hp (A 8) = some (.inl (ca 1, 4, .inr (.inl (mo_l S 8)))) := hS.2.1 8 (by decide)
  refine rv_aload_n d_Model_name_0 rfl 0 rfl ?_
  refine rv_get ka_Model hS.1 rfl 10 (by decide) (wi_Model_name _ (List.mem_of_getElem? (i := 0) rfl)) rfl d_Model_name_1 ?_
  refine rv_iconst (v := nI 0) d_Model_name_4 (by decide) ?_
  refine rv_lload_n d_Model_name_5 rfl 1 rfl ?_
  refine rv_last hA8 1 rfl (by omega) (by decide) d_Model_name_6
    (fun hp92 ehp92 => ?_)
  have hf92_0 : hp92 (A 8) = some (.inl (ca 1, 4, .inr (.inl (vp_updL (mo_l S 8) 0 m.1)))) := by rw [ehp92]; exact hp_us
  have hf92_1 : hp92 x = some (.inr (6, [.int (nI (mo_z S)), .ref (A 0), .ref (A 1), .ref (A 2), .ref (A 3), .ref (A 4), .ref (A 5), .ref (A 6), .ref (A 7), .int (mo_c S), .ref (A 8), .int (nI (mo_t S)), .ref (A 9), .ref (A 10), .ref (A 11), .ref (A 12), .int (nI (mo_r S))])) := by rw [ehp92, hp_un (hp_ne hS.1 hA8 (fun q => by first | cases q | simp at q))]; exact hS.1
  refine rv_aload_n d_Model_name_7 rfl 0 rfl ?_
  refine rv_get ka_Model hf92_1 rfl 10 (by decide) (wi_Model_name _ (List.mem_of_getElem? (i := 0) rfl)) rfl d_Model_name_8 ?_
  refine rv_iconst (v := nI 1) d_Model_name_11 (by decide) ?_
  refine rv_lload_n d_Model_name_12 rfl 2 rfl ?_
  refine rv_last hf92_0 1 rfl (by omega) (by decide) d_Model_name_13
    (fun hp93 ehp93 => ?_)
  have hf93_0 : hp93 (A 8) = some (.inl (ca 1, 4, .inr (.inl (vp_updL (vp_updL (mo_l S 8) 0 m.1) 1 m.2.1)))) := by rw [ehp93]; exact hp_us
  have hf93_1 : hp93 x = some (.inr (6, [.int (nI (mo_z S)), .ref (A 0), .ref (A 1), .ref (A 2), .ref (A 3), .ref (A 4), .ref (A 5), .ref (A 6), .ref (A 7), .int (mo_c S), .ref (A 8), .int (nI (mo_t S)), .ref (A 9), .ref (A 10), .ref (A 11), .ref (A 12), .int (nI (mo_r S))])) := by rw [ehp93, hp_un (hp_ne hf92_1 hf92_0 (fun q => by first | cases q | simp at q))]; exact hf92_1
  refine rv_aload_n d_Model_name_14 rfl 0 rfl ?_
  refine rv_get ka_Model hf93_1 rfl 10 (by decide) (wi_Model_name _ (List.mem_of_getElem? (i := 0) rfl)) rfl d_Model_name_15 ?_
  refine rv_iconst (v := nI 2) d_Model_name_18 (by decide) ?_
  refine rv_lload d_Model_name_19 3 rfl ?_
  refine rv_last hf93_0 1 rfl (by omega) (by decide) d_Model_name_21
    (fun hp94 ehp94 => ?_)
  have hf94_0 : hp94 (A 8) = some (.inl (ca 1, 4, .inr (.inl (vp_updL (vp_updL (vp_updL (mo_l S 8) 0 m.1) 1 m.2.1) 2 m.2.2.1)))) := by rw [ehp94]; exact hp_us
  have hf94_1 : hp94 x = some (.inr (6, [.int (nI (mo_z S)), .ref (A 0), .ref (A 1), .ref (A 2), .ref (A 3), .ref (A 4), .ref (A 5), .ref (A 6), .ref (A 7), .int (mo_c S), .ref (A 8), .int (nI (mo_t S)), .ref (A 9), .ref (A 10), .ref (A 11), .ref (A 12), .int (nI (mo_r S))])) := by rw [ehp94, hp_un (hp_ne hf93_1 hf93_0 (fun q => by first | cases q | simp at q))]; exact hf93_1
  refine rv_aload_n d_Model_name_22 rfl 0 rfl ?_
  refine rv_get ka_Model hf94_1 rfl 10 (by decide) (wi_Model_name _ (List.mem_of_getElem? (i := 0) rfl)) rfl d_Model_name_23 ?_
  refine rv_iconst (v := nI 3) d_Model_name_26 (by decide) ?_
  refine rv_lload d_Model_name_27 4 rfl ?_
  refine rv_last hf94_0 1 rfl (by omega) (by decide) d_Model_name_29
    (fun hp95 ehp95 => ?_)
  have hf95_0 : hp95 (A 8) = some (.inl (ca 1, 4, .inr (.inl (vp_updL (vp_updL (vp_updL (vp_updL (mo_l S 8) 0 m.1) 1 m.2.1) 2 m.2.2.1) 3 m.2.2.2)))) := by rw [ehp95]; exact hp_us
  have hf95_1 : hp95 x = some (.inr (6, [.int (nI (mo_z S)), .ref (A 0), .ref (A 1), .ref (A 2), .ref (A 3), .ref (A 4), .ref (A 5), .ref (A 6), .ref (A 7), .int (mo_c S), .ref (A 8), .int (nI (mo_t S)), .ref (A 9), .ref (A 10), .ref (A 11), .ref (A 12), .int (nI (mo_r S))])) := by rw [ehp95, hp_un (hp_ne hf94_1 hf94_0 (fun q => by first | cases q | simp at q))]; exact hf94_1
  have eh : hp95 = hp_up hp (A 8) (mo_cell ca (md_nameS S m) 8) := by rw [ehp95, ehp94, ehp93, ehp92, hp_uu, hp_uu, hp_uu]; rfl
  exact rv_vreturn ⟨rfl, by rw [eh]; exact mo_putL hS hA (by decide) rfl (mo_okL hS.2.2), by rw [eh]; exact mo_out_a (by decide)⟩ d_Model_name_30 rfl
set_option maxHeartbeats 1000000 in
set_option maxRecDepth 100000 in
theorem c_Model_spend_i {l : Launch} {D : va_G} {ca : Nat → ClassId} {hp : hp_T} {d : Nat} {x : Nat} {A : Nat → Nat} {S : mo_S} (hS : mo_At ca hp x A S) {Q : Option Value → hp_T → Prop} {k0 : Int32} {k : Nat} (hk : k < mo_t S) : ∀ (m i : Nat) (a : Bool), i + m = 4 → ma_V l D ca ma_T M_Model_spend d 0 0 hp Q 84 [(4, .int (nI 4)), (3, .int (bI (lp_fold (fun i b => b && decide (mo_l S 9 (4 * k + i) = mo_l S 8 i)) m i a))), (2, .int (nI k)), (0, .ref x), (1, .int k0)] [] → ma_V l D ca ma_T M_Model_spend d 0 0 hp Q 40 [(4, .int (nI i)), (3, .int (bI a)), (2, .int (nI k)), (0, .ref x), (1, .int k0)] [] := by
  have hA8 : hp (A 8) = some (.inl (ca 1, 4, .inr (.inl (mo_l S 8)))) := hS.2.1 8 (by decide)
  have hA9 : hp (A 9) = some (.inl (ca 1, 32, .inr (.inl (mo_l S 9)))) := hS.2.1 9 (by decide)
  have hA10 : hp (A 10) = some (.inl (ca 0, 8, .inl (mo_i S 10))) := hS.2.1 10 (by decide)
  have hsz := hS.2.2.2.2.1
  have htd := hS.2.2.2.2.2.1
  have hrs := hS.2.2.2.2.2.2
  have hsp := hS.2.2.1
  have hmk : ∀ u, u < 42 → mo_i S 11 u = bI (md_mk S u) := fun u _ => congrFun hS.2.2.2.1 u
  intro m
  induction m with
  | zero =>
    intro i a hi K
    obtain rfl : i = 4 := by omega
    refine rv_iload d_Model_spend_40 0 rfl ?_
    refine rv_iconst (v := nI 4) d_Model_spend_42 (by decide) ?_
    refine rv_icmp_ge (tgt := 84) d_Model_spend_43 (by decide) (fun c_43 => ?_) (fun c_43 => ?_)
    · exact K
    · exact absurd (nI_le (by omega) (by omega)) c_43
  | succ m ih =>
    intro i a hi K
    refine rv_iload d_Model_spend_40 0 rfl ?_
    refine rv_iconst (v := nI 4) d_Model_spend_42 (by decide) ?_
    refine rv_icmp_ge (tgt := 84) d_Model_spend_43 (by decide) (fun c_43 => ?_) (fun c_43 => ?_)
    · exact absurd c_43 (nI_ge (by omega) (by omega))
    · refine rv_iload_n d_Model_spend_46 rfl 1 rfl ?_
      refine rv_if_eq (tgt := 76) d_Model_spend_47 (by decide) (fun c_47 => ?_) (fun c_47 => ?_)
      · have e : (fun i b => b && decide (mo_l S 9 (4 * k + i) = mo_l S 8 i)) i a = false := by show (a && _) = false; rw [bI_0.mp c_47, Bool.false_and]
        refine rv_iconst (v := nI 0) d_Model_spend_76 (by decide) ?_
        refine rv_istore_n (lv' := [(3, .int (nI 0)), (4, .int (nI i)), (2, .int (nI k)), (0, .ref x), (1, .int k0)]) d_Model_spend_77 rfl (by decide) rfl ?_
        refine rv_iinc (k := 1) (v := nI (i + 1)) (lv' := [(4, .int (nI (i + 1))), (3, .int (nI 0)), (2, .int (nI k)), (0, .ref x), (1, .int k0)]) d_Model_spend_78 rfl (nI_1 _) (by decide) rfl ?_
        refine rv_goto (tgt := 40) d_Model_spend_81 (by decide) ?_
        refine rv_lv [0, 1, 2, 3, 4] rfl (ih (i + 1) false (by omega) ?_)
        have z := K
        rw [show lp_fold (fun i b => b && decide (mo_l S 9 (4 * k + i) = mo_l S 8 i)) (m + 1) i a = lp_fold (fun i b => b && decide (mo_l S 9 (4 * k + i) = mo_l S 8 i)) m (i + 1) false from congrArg (lp_fold (fun i b => b && decide (mo_l S 9 (4 * k + i) = mo_l S 8 i)) m (i + 1)) e] at z
        exact z
      · refine rv_aload_n d_Model_spend_50 rfl 3 rfl ?_
        refine rv_get ka_Model hS.1 rfl 12 (by decide) (wi_Model_spend _ (List.mem_of_getElem? (i := 0) rfl)) rfl d_Model_spend_51 ?_
        refine rv_iconst (v := nI 4) d_Model_spend_54 (by decide) ?_
        refine rv_iload_n d_Model_spend_55 rfl 2 rfl ?_
        refine rv_imul d_Model_spend_56 ?_
        refine rv_eqi (pk_mul _ _) ?_
        refine rv_iload d_Model_spend_57 0 rfl ?_
        refine rv_iadd d_Model_spend_59 ?_
        refine rv_eqi (nI_add _ _) ?_
        refine rv_lald hA9 1 rfl (by omega) (by decide) d_Model_spend_60 ?_
        refine rv_aload_n d_Model_spend_61 rfl 3 rfl ?_
        refine rv_get ka_Model hS.1 rfl 10 (by decide) (wi_Model_spend _ (List.mem_of_getElem? (i := 1) rfl)) rfl d_Model_spend_62 ?_
        refine rv_iload d_Model_spend_65 0 rfl ?_
        refine rv_lald hA8 1 rfl (by omega) (by decide) d_Model_spend_67 ?_
        refine rv_lcmp d_Model_spend_68 ?_
        refine rv_if_ne (tgt := 76) d_Model_spend_69 (by decide) (fun c_69 => ?_) (fun c_69 => ?_)
        · have e : (fun i b => b && decide (mo_l S 9 (4 * k + i) = mo_l S 8 i)) i a = false := by show (a && decide _) = false; rw [decide_eq_false (fun z => c_69 (lc_0.mpr z)), Bool.and_false]
          refine rv_iconst (v := nI 0) d_Model_spend_76 (by decide) ?_
          refine rv_istore_n (lv' := [(3, .int (nI 0)), (4, .int (nI i)), (2, .int (nI k)), (0, .ref x), (1, .int k0)]) d_Model_spend_77 rfl (by decide) rfl ?_
          refine rv_iinc (k := 1) (v := nI (i + 1)) (lv' := [(4, .int (nI (i + 1))), (3, .int (nI 0)), (2, .int (nI k)), (0, .ref x), (1, .int k0)]) d_Model_spend_78 rfl (nI_1 _) (by decide) rfl ?_
          refine rv_goto (tgt := 40) d_Model_spend_81 (by decide) ?_
          refine rv_lv [0, 1, 2, 3, 4] rfl (ih (i + 1) false (by omega) ?_)
          have z := K
          rw [show lp_fold (fun i b => b && decide (mo_l S 9 (4 * k + i) = mo_l S 8 i)) (m + 1) i a = lp_fold (fun i b => b && decide (mo_l S 9 (4 * k + i) = mo_l S 8 i)) m (i + 1) false from congrArg (lp_fold (fun i b => b && decide (mo_l S 9 (4 * k + i) = mo_l S 8 i)) m (i + 1)) e] at z
          exact z
        · have e : (fun i b => b && decide (mo_l S 9 (4 * k + i) = mo_l S 8 i)) i a = true := by show (a && decide _) = true; rw [bI_n.mp c_47, decide_eq_true (lc_0.mp c_69)]; rfl
          refine rv_iconst (v := nI 1) d_Model_spend_72 (by decide) ?_
          refine rv_goto (tgt := 77) d_Model_spend_73 (by decide) ?_
          refine rv_istore_n (lv' := [(3, .int (nI 1)), (4, .int (nI i)), (2, .int (nI k)), (0, .ref x), (1, .int k0)]) d_Model_spend_77 rfl (by decide) rfl ?_
          refine rv_iinc (k := 1) (v := nI (i + 1)) (lv' := [(4, .int (nI (i + 1))), (3, .int (nI 1)), (2, .int (nI k)), (0, .ref x), (1, .int k0)]) d_Model_spend_78 rfl (nI_1 _) (by decide) rfl ?_
          refine rv_goto (tgt := 40) d_Model_spend_81 (by decide) ?_
          refine rv_lv [0, 1, 2, 3, 4] rfl (ih (i + 1) true (by omega) ?_)
          have z := K
          rw [show lp_fold (fun i b => b && decide (mo_l S 9 (4 * k + i) = mo_l S 8 i)) (m + 1) i a = lp_fold (fun i b => b && decide (mo_l S 9 (4 * k + i) = mo_l S 8 i)) m (i + 1) true from congrArg (lp_fold (fun i b => b && decide (mo_l S 9 (4 * k + i) = mo_l S 8 i)) m (i + 1)) e] at z
          exact z
set_option maxHeartbeats 1000000 in
set_option maxRecDepth 100000 in
theorem c_Model_spend_o {l : Launch} {D : va_G} {ca : Nat → ClassId} {hp : hp_T} {d : Nat} {x : Nat} {A : Nat → Nat} {S : mo_S} (hS : mo_At ca hp x A S) {Q : Option Value → hp_T → Prop} {k0 : Int32} : ∀ (m i : Nat), i + m = mo_t S → (lp_any (md_like S k0) m i = true → Q (some (.int (nI 0))) hp) → (lp_any (md_like S k0) m i = false → ma_V l D ca ma_T M_Model_spend d 0 0 hp Q 96 [(2, .int (nI (mo_t S))), (0, .ref x), (1, .int k0)] []) → ma_V l D ca ma_T M_Model_spend d 0 0 hp Q 13 [(2, .int (nI i)), (0, .ref x), (1, .int k0)] [] := by
  have hA8 : hp (A 8) = some (.inl (ca 1, 4, .inr (.inl (mo_l S 8)))) := hS.2.1 8 (by decide)
  have hA9 : hp (A 9) = some (.inl (ca 1, 32, .inr (.inl (mo_l S 9)))) := hS.2.1 9 (by decide)
  have hA10 : hp (A 10) = some (.inl (ca 0, 8, .inl (mo_i S 10))) := hS.2.1 10 (by decide)
  have hsz := hS.2.2.2.2.1
  have htd := hS.2.2.2.2.2.1
  have hrs := hS.2.2.2.2.2.2
  have hsp := hS.2.2.1
  have hmk : ∀ u, u < 42 → mo_i S 11 u = bI (md_mk S u) := fun u _ => congrFun hS.2.2.2.1 u
  intro m
  induction m with
  | zero =>
    intro i hi hT hF
    obtain rfl : i = mo_t S := by omega
    refine rv_iload_n d_Model_spend_13 rfl 0 rfl ?_
    refine rv_aload_n d_Model_spend_14 rfl 1 rfl ?_
    refine rv_get ka_Model hS.1 rfl 11 (by decide) (wi_Model_spend _ (List.mem_of_getElem? (i := 2) rfl)) rfl d_Model_spend_15 ?_
    refine rv_icmp_ge (tgt := 96) d_Model_spend_18 (by decide) (fun c_18 => ?_) (fun c_18 => ?_)
    · exact hF rfl
    · exact absurd (nI_le (by omega) (by omega)) c_18
  | succ m ih =>
    intro i hi hT hF
    refine rv_iload_n d_Model_spend_13 rfl 0 rfl ?_
    refine rv_aload_n d_Model_spend_14 rfl 1 rfl ?_
    refine rv_get ka_Model hS.1 rfl 11 (by decide) (wi_Model_spend _ (List.mem_of_getElem? (i := 2) rfl)) rfl d_Model_spend_15 ?_
    refine rv_icmp_ge (tgt := 96) d_Model_spend_18 (by decide) (fun c_18 => ?_) (fun c_18 => ?_)
    · exact absurd c_18 (nI_ge (by omega) (by omega))
    · refine rv_aload_n d_Model_spend_21 rfl 1 rfl ?_
      refine rv_get ka_Model hS.1 rfl 13 (by decide) (wi_Model_spend _ (List.mem_of_getElem? (i := 3) rfl)) rfl d_Model_spend_22 ?_
      refine rv_iload_n d_Model_spend_25 rfl 0 rfl ?_
      refine rv_iald hA10 0 rfl (by omega) (by decide) d_Model_spend_26 ?_
      refine rv_iload_n d_Model_spend_27 rfl 2 rfl ?_
      refine rv_icmp_ne (tgt := 35) d_Model_spend_28 (by decide) (fun c_28 => ?_) (fun c_28 => ?_)
      · have e0 : decide (mo_i S 10 i = k0) = false := decide_eq_false c_28
        refine rv_iconst (v := nI 0) d_Model_spend_35 (by decide) ?_
        refine rv_istore_n (lv' := [(3, .int (nI 0)), (2, .int (nI i)), (0, .ref x), (1, .int k0)]) d_Model_spend_36 rfl (by decide) rfl ?_
        refine rv_iconst (v := nI 0) d_Model_spend_37 (by decide) ?_
        refine rv_istore (lv' := [(4, .int (nI 0)), (3, .int (nI 0)), (2, .int (nI i)), (0, .ref x), (1, .int k0)]) d_Model_spend_38 (by decide) rfl ?_
        refine rv_lv [0, 1, 2, 3, 4] rfl (c_Model_spend_i (k := i) hS (by omega) 4 0 false rfl ?_)
        have e1 : md_like S k0 i = lp_fold (fun j b => b && decide (mo_l S 9 (4 * i + j) = mo_l S 8 j)) 4 0 false := by unfold md_like; rw [e0]
        rw [← e1]
        refine rv_iload_n d_Model_spend_84 rfl 1 rfl ?_
        refine rv_if_eq (tgt := 90) d_Model_spend_85 (by decide) (fun c_85 => ?_) (fun c_85 => ?_)
        · have e := bI_0.mp c_85
          refine rv_iinc (k := 2) (v := nI (i + 1)) (lv' := [(2, .int (nI (i + 1))), (4, .int (nI 4)), (3, .int (bI (md_like S k0 i))), (0, .ref x), (1, .int k0)]) d_Model_spend_90 rfl (nI_1 _) (by decide) rfl ?_
          refine rv_goto (tgt := 13) d_Model_spend_93 (by decide) ?_
          exact rv_lv [0, 3, 4] rfl (ih (i + 1) (by omega) (fun h => hT (by rw [lp_any_f e]; exact h)) (fun h => hF (by rw [lp_any_f e]; exact h)))
        · have e := bI_n.mp c_85
          refine rv_iconst (v := nI 0) d_Model_spend_88 (by decide) ?_
          exact rv_ireturn (hT (lp_any_t e)) d_Model_spend_89 rfl rfl
      · have e0 : decide (mo_i S 10 i = k0) = true := decide_eq_true c_28
        refine rv_iconst (v := nI 1) d_Model_spend_31 (by decide) ?_
        refine rv_goto (tgt := 36) d_Model_spend_32 (by decide) ?_
        refine rv_istore_n (lv' := [(3, .int (nI 1)), (2, .int (nI i)), (0, .ref x), (1, .int k0)]) d_Model_spend_36 rfl (by decide) rfl ?_
        refine rv_iconst (v := nI 0) d_Model_spend_37 (by decide) ?_
        refine rv_istore (lv' := [(4, .int (nI 0)), (3, .int (nI 1)), (2, .int (nI i)), (0, .ref x), (1, .int k0)]) d_Model_spend_38 (by decide) rfl ?_
        refine rv_lv [0, 1, 2, 3, 4] rfl (c_Model_spend_i (k := i) hS (by omega) 4 0 true rfl ?_)
        have e1 : md_like S k0 i = lp_fold (fun j b => b && decide (mo_l S 9 (4 * i + j) = mo_l S 8 j)) 4 0 true := by unfold md_like; rw [e0]
        rw [← e1]
        refine rv_iload_n d_Model_spend_84 rfl 1 rfl ?_
        refine rv_if_eq (tgt := 90) d_Model_spend_85 (by decide) (fun c_85 => ?_) (fun c_85 => ?_)
        · have e := bI_0.mp c_85
          refine rv_iinc (k := 2) (v := nI (i + 1)) (lv' := [(2, .int (nI (i + 1))), (4, .int (nI 4)), (3, .int (bI (md_like S k0 i))), (0, .ref x), (1, .int k0)]) d_Model_spend_90 rfl (nI_1 _) (by decide) rfl ?_
          refine rv_goto (tgt := 13) d_Model_spend_93 (by decide) ?_
          exact rv_lv [0, 3, 4] rfl (ih (i + 1) (by omega) (fun h => hT (by rw [lp_any_f e]; exact h)) (fun h => hF (by rw [lp_any_f e]; exact h)))
        · have e := bI_n.mp c_85
          refine rv_iconst (v := nI 0) d_Model_spend_88 (by decide) ?_
          exact rv_ireturn (hT (lp_any_t e)) d_Model_spend_89 rfl rfl
set_option maxHeartbeats 1000000 in
set_option maxRecDepth 100000 in
theorem c_Model_spend_w {l : Launch} {D : va_G} {ca : Nat → ClassId} {d : Nat} {x : Nat} {A : Nat → Nat} {S : mo_S} {hp0 : hp_T} {Q : Option Value → hp_T → Prop} (hA : pi_inj A 13) {k0 : Int32} (ht8 : mo_t S < 8) : ∀ (m i : Nat) (hp : hp_T) (f : Nat → Int64), i + m = 4 → mo_At ca hp x A (mo_setL S 9 f) → mo_out x A hp0 hp → (∀ hp1 : hp_T, mo_At ca hp1 x A (mo_setL S 9 (lp_fold (fun i f => vp_updL f (4 * mo_t S + i) (mo_l S 8 i)) m i f)) → mo_out x A hp0 hp1 → ma_V l D ca ma_T M_Model_spend d 0 0 hp1 Q 128 [(2, .int (nI 4)), (0, .ref x), (1, .int k0)] []) → ma_V l D ca ma_T M_Model_spend d 0 0 hp Q 98 [(2, .int (nI i)), (0, .ref x), (1, .int k0)] [] := by
  intro m
  induction m with
  | zero =>
    intro i hp f hi hS ho K
    obtain rfl : i = 4 := by omega
    have hA8 : hp (A 8) = some (.inl (ca 1, 4, .inr (.inl (mo_l S 8)))) := hS.2.1 8 (by decide)
    have hA9 : hp (A 9) = some (.inl (ca 1, 32, .inr (.inl f))) := hS.2.1 9 (by decide)
    refine rv_iload_n d_Model_spend_98 rfl 0 rfl ?_
    refine rv_iconst (v := nI 4) d_Model_spend_99 (by decide) ?_
    refine rv_icmp_ge (tgt := 128) d_Model_spend_100 (by decide) (fun c_100 => ?_) (fun c_100 => ?_)
    · exact K hp hS ho
    · exact absurd (nI_le (by omega) (by omega)) c_100
  | succ m ih =>
    intro i hp f hi hS ho K
    have htt : mo_t (mo_setL S 9 f) = mo_t S := rfl
    have hA8 : hp (A 8) = some (.inl (ca 1, 4, .inr (.inl (mo_l S 8)))) := hS.2.1 8 (by decide)
    have hA9 : hp (A 9) = some (.inl (ca 1, 32, .inr (.inl f))) := hS.2.1 9 (by decide)
    refine rv_iload_n d_Model_spend_98 rfl 0 rfl ?_
    refine rv_iconst (v := nI 4) d_Model_spend_99 (by decide) ?_
    refine rv_icmp_ge (tgt := 128) d_Model_spend_100 (by decide) (fun c_100 => ?_) (fun c_100 => ?_)
    · exact absurd c_100 (nI_ge (by omega) (by omega))
    · refine rv_aload_n d_Model_spend_103 rfl 1 rfl ?_
      refine rv_get ka_Model hS.1 rfl 12 (by decide) (wi_Model_spend _ (List.mem_of_getElem? (i := 0) rfl)) rfl d_Model_spend_104 ?_
      refine rv_iconst (v := nI 4) d_Model_spend_107 (by decide) ?_
      refine rv_aload_n d_Model_spend_108 rfl 1 rfl ?_
      refine rv_get ka_Model hS.1 rfl 11 (by decide) (wi_Model_spend _ (List.mem_of_getElem? (i := 2) rfl)) rfl d_Model_spend_109 ?_
      refine rv_imul d_Model_spend_112 ?_
      refine rv_eqi (pk_mul _ _) ?_
      refine rv_iload_n d_Model_spend_113 rfl 0 rfl ?_
      refine rv_iadd d_Model_spend_114 ?_
      refine rv_eqi (nI_add _ _) ?_
      refine rv_aload_n d_Model_spend_115 rfl 1 rfl ?_
      refine rv_get ka_Model hS.1 rfl 10 (by decide) (wi_Model_spend _ (List.mem_of_getElem? (i := 1) rfl)) rfl d_Model_spend_116 ?_
      refine rv_iload_n d_Model_spend_119 rfl 0 rfl ?_
      refine rv_lald hA8 1 rfl (by omega) (by decide) d_Model_spend_120 ?_
      refine rv_last hA9 1 rfl (by omega) (by decide) d_Model_spend_121
        (fun hp96 ehp96 => ?_)
      refine rv_iinc (k := 0) (v := nI (i + 1)) (lv' := [(2, .int (nI (i + 1))), (0, .ref x), (1, .int k0)]) d_Model_spend_122 rfl (nI_1 _) (by decide) rfl ?_
      refine rv_goto (tgt := 98) d_Model_spend_125 (by decide) ?_
      have hS2 := mo_putL hS hA (j := 9) (f := (fun i f => vp_updL f (4 * mo_t S + i) (mo_l S 8 i)) i f) (by decide) rfl (mo_okL hS.2.2)
      rw [mo_setLL] at hS2
      have eh : hp96 = hp_up hp (A 9) (mo_cell ca (mo_setL S 9 ((fun i f => vp_updL f (4 * mo_t S + i) (mo_l S 8 i)) i f)) 9) := ehp96
      rw [← eh] at hS2
      exact rv_lv [0, 1, 2] rfl (ih (i + 1) hp96 _ (by omega) hS2 (by rw [eh]; exact mo_out_tr ho (mo_out_a (by decide))) K)
set_option maxHeartbeats 1000000 in
set_option maxRecDepth 100000 in
theorem c_Model_spend {l : Launch} {D : va_G} {ca : Nat → ClassId} {hp : hp_T} {d : Nat} {x : Nat} {A : Nat → Nat} {S : mo_S} (hS : mo_At ca hp x A S) (hA : pi_inj A 13) {k0 : Int32} : ma_V l D ca ma_T M_Model_spend d 0 0 hp (ma_qi (fun y hp1 => y = bI (md_may S k0) ∧ mo_At ca hp1 x A (md_spend S k0) ∧ mo_out x A hp hp1)) 0 (lv_args 0 [.ref x, .int k0]) [] := by
  change ma_V l D ca ma_T M_Model_spend d 0 0 hp (ma_qi (fun y hp1 => y = bI (md_may S k0) ∧ mo_At ca hp1 x A (md_spend S k0) ∧ mo_out x A hp hp1)) 0 [(0, .ref x), (1, .int k0)] []
  have hA8 : hp (A 8) = some (.inl (ca 1, 4, .inr (.inl (mo_l S 8)))) := hS.2.1 8 (by decide)
  have hA9 : hp (A 9) = some (.inl (ca 1, 32, .inr (.inl (mo_l S 9)))) := hS.2.1 9 (by decide)
  have hA10 : hp (A 10) = some (.inl (ca 0, 8, .inl (mo_i S 10))) := hS.2.1 10 (by decide)
  have hsz := hS.2.2.2.2.1
  have htd := hS.2.2.2.2.2.1
  have hrs := hS.2.2.2.2.2.2
  have hsp := hS.2.2.1
  have hmk : ∀ u, u < 42 → mo_i S 11 u = bI (md_mk S u) := fun u _ => congrFun hS.2.2.2.1 u
  refine rv_aload_n d_Model_spend_0 rfl 0 rfl ?_
  refine rv_get ka_Model hS.1 rfl 11 (by decide) (wi_Model_spend _ (List.mem_of_getElem? (i := 2) rfl)) rfl d_Model_spend_1 ?_
  refine rv_bipush (v := nI 8) d_Model_spend_4 (by decide) ?_
  refine rv_icmp_ne (tgt := 11) d_Model_spend_6 (by decide) (fun c_6 => ?_) (fun c_6 => ?_)
  · have t8 : ¬ mo_t S = 8 := fun z => c_6 (by rw [z])
    refine rv_iconst (v := nI 0) d_Model_spend_11 (by decide) ?_
    refine rv_istore_n (lv' := [(2, .int (nI 0)), (0, .ref x), (1, .int k0)]) d_Model_spend_12 rfl (by decide) rfl ?_
    refine c_Model_spend_o hS (mo_t S) 0 (Nat.zero_add _) (fun h => ?_) (fun h => ?_)
    · have ef : md_may S k0 = false := by unfold md_may; rw [h, Bool.not_true, Bool.and_false]
      exact ⟨_, rfl, by rw [ef]; rfl, by rw [md_spend, ef, if_neg Bool.false_ne_true]; exact hS, mo_out_rf⟩
    · have ef : md_may S k0 = true := by unfold md_may; rw [h, decide_eq_false t8]; rfl
      refine rv_iconst (v := nI 0) d_Model_spend_96 (by decide) ?_
      refine rv_istore_n (lv' := [(2, .int (nI 0)), (0, .ref x), (1, .int k0)]) d_Model_spend_97 rfl (by decide) rfl ?_
      refine rv_lv [0, 1, 2] rfl (c_Model_spend_w (S := S) hA (by omega) 4 0 hp (mo_l S 9) (Nat.zero_add _) (by rw [mo_setL_id]; exact hS) mo_out_rf (fun hp1 hS1 ho1 => ?_))
      change mo_At ca hp1 x A (md_sp1 S) at hS1
      have ht1 : mo_t (md_sp1 S) = mo_t S := rfl
      have hA10 : hp1 (A 10) = some (.inl (ca 0, 8, .inl (mo_i (md_sp1 S) 10))) := hS1.2.1 10 (by decide)
      refine rv_aload_n d_Model_spend_128 rfl 1 rfl ?_
      refine rv_get ka_Model hS1.1 rfl 13 (by decide) (wi_Model_spend _ (List.mem_of_getElem? (i := 3) rfl)) rfl d_Model_spend_129 ?_
      refine rv_aload_n d_Model_spend_132 rfl 1 rfl ?_
      refine rv_get ka_Model hS1.1 rfl 11 (by decide) (wi_Model_spend _ (List.mem_of_getElem? (i := 2) rfl)) rfl d_Model_spend_133 ?_
      refine rv_iload_n d_Model_spend_136 rfl 2 rfl ?_
      refine rv_iast hA10 0 rfl (by omega) (by decide) d_Model_spend_137
        (fun hp97 ehp97 => ?_)
      have hS2 : mo_At ca hp97 x A (md_sp2 S k0) := by rw [ehp97]; exact mo_putI hS1 hA (j := 10) (by decide) rfl (mo_okI hS1.2.2 (by decide) (by decide))
      have ho2 : mo_out x A hp hp97 := by rw [ehp97]; exact mo_out_tr ho1 (mo_out_a (j := 10) (by decide))
      refine rv_aload_n d_Model_spend_138 rfl 1 rfl ?_
      refine rv_aload_n d_Model_spend_139 rfl 1 rfl ?_
      refine rv_get ka_Model hS2.1 rfl 11 (by decide) (wi_Model_spend _ (List.mem_of_getElem? (i := 2) rfl)) rfl d_Model_spend_140 ?_
      refine rv_iconst (v := nI 1) d_Model_spend_143 (by decide) ?_
      refine rv_iadd d_Model_spend_144 ?_
      refine rv_eqi (nI_add _ _) ?_
      refine rv_put (fs' := [.int (nI (mo_z (md_sp2 S k0))), .ref (A 0), .ref (A 1), .ref (A 2), .ref (A 3), .ref (A 4), .ref (A 5), .ref (A 6), .ref (A 7), .int (mo_c (md_sp2 S k0)), .ref (A 8), .int (nI ((mo_t (md_sp2 S k0)) + 1)), .ref (A 9), .ref (A 10), .ref (A 11), .ref (A 12), .int (nI (mo_r (md_sp2 S k0)))]) ka_Model hS2.1 rfl 11 (by decide) (wi_Model_spend _ (List.mem_of_getElem? (i := 2) rfl)) rfl rfl rfl (Nat.le_of_ble_eq_true rfl) rfl d_Model_spend_145
        (fun hp98 ehp98 => ?_)
      refine rv_iconst (v := nI 1) d_Model_spend_148 (by decide) ?_
      have hS3 : mo_At ca hp98 x A (md_spnd S k0) := by rw [ehp98]; exact mo_putX (z := mo_z S) (c := mo_c S) (t := mo_t S + 1) (r := mo_r S) hS2 ⟨hS2.2.2.1, hS2.2.2.2.1, hS2.2.2.2.2.1, by show mo_t S + 1 ≤ 8; omega, hS2.2.2.2.2.2.2⟩
      exact rv_ireturn ⟨_, rfl, by rw [ef]; rfl, by rw [md_spend, if_pos ef]; exact hS3, by rw [ehp98]; exact mo_out_tr ho2 mo_out_x⟩ d_Model_spend_149 rfl rfl
  · have t8 : mo_t S = 8 := (nI_eq (by omega) (by decide)).mp c_6
    have ef : md_may S k0 = false := by unfold md_may; rw [decide_eq_true t8]; rfl
    refine rv_iconst (v := nI 0) d_Model_spend_9 (by decide) ?_
    exact rv_ireturn ⟨_, rfl, by rw [ef]; rfl, by rw [md_spend, ef, if_neg Bool.false_ne_true]; exact hS, mo_out_rf⟩ d_Model_spend_10 rfl rfl
set_option maxHeartbeats 1000000 in
set_option maxRecDepth 100000 in
theorem c_Model_take_l {l : Launch} {D : va_G} {ca : Nat → ClassId} {d : Nat} {x : Nat} {A : Nat → Nat} {S : mo_S} {hp0 : hp_T} {Q : Option Value → hp_T → Prop} (hA : pi_inj A 13) {t : Nat} (ht : t < 42) : ∀ (m i : Nat) (hp : hp_T) (mk : Nat → Bool), i + m = 42 → mo_At ca hp x A (mo_M S mk) → mo_out x A hp0 hp → (∀ hp1 : hp_T, mo_At ca hp1 x A (mo_M S (lp_fold (fun u mk => va_up mk u (decide (u = t))) m i mk)) → mo_out x A hp0 hp1 → ma_V l D ca ma_T M_Model_take (d + 2) 0 0 hp1 Q 41 [(2, .int (nI 42)), (1, .int (nI t)), (0, .ref x)] []) → ma_V l D ca ma_T M_Model_take (d + 2) 0 0 hp Q 13 [(2, .int (nI i)), (1, .int (nI t)), (0, .ref x)] [] := by
  intro m
  induction m with
  | zero =>
    intro i hp mk hi hS ho K
    obtain rfl : i = 42 := by omega
    refine rv_iload_n d_Model_take_13 rfl 0 rfl ?_
    refine rv_bipush (v := nI 42) d_Model_take_14 (by decide) ?_
    refine rv_icmp_ge (tgt := 41) d_Model_take_16 (by decide) (fun c_16 => ?_) (fun c_16 => ?_)
    · exact K hp hS ho
    · exact absurd (nI_le (by omega) (by omega)) c_16
  | succ m ih =>
    intro i hp mk hi hS ho K
    have hA11 : hp (A 11) = some (.inl (ca 3, 42, .inl (fun u => bI (mk u)))) := hS.2.1 11 (by decide)
    refine rv_iload_n d_Model_take_13 rfl 0 rfl ?_
    refine rv_bipush (v := nI 42) d_Model_take_14 (by decide) ?_
    refine rv_icmp_ge (tgt := 41) d_Model_take_16 (by decide) (fun c_16 => ?_) (fun c_16 => ?_)
    · exact absurd c_16 (nI_ge (by omega) (by omega))
    · refine rv_aload_n d_Model_take_19 rfl 2 rfl ?_
      refine rv_get ka_Model hS.1 rfl 14 (by decide) (wi_Model_take _ (List.mem_of_getElem? (i := 0) rfl)) rfl d_Model_take_20 ?_
      refine rv_iload_n d_Model_take_23 rfl 0 rfl ?_
      refine rv_iload_n d_Model_take_24 rfl 0 rfl ?_
      refine rv_iload_n d_Model_take_25 rfl 1 rfl ?_
      refine rv_icmp_ne (tgt := 33) d_Model_take_26 (by decide) (fun c_26 => ?_) (fun c_26 => ?_)
      · have e0 : decide (i = t) = false := decide_eq_false (fun z => c_26 (by rw [z]))
        refine rv_iconst (v := nI 0) d_Model_take_33 (by decide) ?_
        refine rv_zast hA11 3 rfl (by omega) (by decide) rfl d_Model_take_34
          (fun hp99 ehp99 => ?_)
        refine rv_iinc (k := 0) (v := nI (i + 1)) (lv' := [(2, .int (nI (i + 1))), (1, .int (nI t)), (0, .ref x)]) d_Model_take_35 rfl (nI_1 _) (by decide) rfl ?_
        refine rv_goto (tgt := 13) d_Model_take_38 (by decide) ?_
        have hS2 := mo_putM hS hA (k := i) (b := decide (i = t)) (y := .inl (ca 3, 42, .inl (upd (fun u => bI (mk u)) i (bI (decide (i = t)))))) rfl
        have eh : hp99 = hp_up hp (A 11) (.inl (ca 3, 42, .inl (upd (fun u => bI (mk u)) i (bI (decide (i = t)))))) := by rw [ehp99, e0]; rfl
        rw [← eh] at hS2
        exact rv_lv [0, 1, 2] rfl (ih (i + 1) hp99 _ (by omega) hS2 (by rw [eh]; exact mo_out_tr ho (mo_out_a (by decide))) K)
      · have e0 : decide (i = t) = true := decide_eq_true ((nI_eq (by omega) (by omega)).mp c_26)
        refine rv_iconst (v := nI 1) d_Model_take_29 (by decide) ?_
        refine rv_goto (tgt := 34) d_Model_take_30 (by decide) ?_
        refine rv_zast hA11 3 rfl (by omega) (by decide) rfl d_Model_take_34
          (fun hp100 ehp100 => ?_)
        refine rv_iinc (k := 0) (v := nI (i + 1)) (lv' := [(2, .int (nI (i + 1))), (1, .int (nI t)), (0, .ref x)]) d_Model_take_35 rfl (nI_1 _) (by decide) rfl ?_
        refine rv_goto (tgt := 13) d_Model_take_38 (by decide) ?_
        have hS2 := mo_putM hS hA (k := i) (b := decide (i = t)) (y := .inl (ca 3, 42, .inl (upd (fun u => bI (mk u)) i (bI (decide (i = t)))))) rfl
        have eh : hp100 = hp_up hp (A 11) (.inl (ca 3, 42, .inl (upd (fun u => bI (mk u)) i (bI (decide (i = t)))))) := by rw [ehp100, e0]; rfl
        rw [← eh] at hS2
        exact rv_lv [0, 1, 2] rfl (ih (i + 1) hp100 _ (by omega) hS2 (by rw [eh]; exact mo_out_tr ho (mo_out_a (by decide))) K)
set_option maxHeartbeats 1000000 in
set_option maxRecDepth 100000 in
theorem c_Model_take {l : Launch} {D : va_G} {ca : Nat → ClassId} {hp : hp_T} {d : Nat} {x : Nat} {A : Nat → Nat} {S : mo_S} (hS : mo_At ca hp x A S) (hA : pi_inj A 13) : ma_V l D ca ma_T M_Model_take (d + 2) 0 0 hp (ma_qi (fun y hp1 => ∃ S1, md_tkRel S (md_findo S) y S1 ∧ mo_At ca hp1 x A S1 ∧ mo_out x A hp hp1)) 0 (lv_args 0 [.ref x]) [] := by
  change ma_V l D ca ma_T M_Model_take (d + 2) 0 0 hp (ma_qi (fun y hp1 => ∃ S1, md_tkRel S (md_findo S) y S1 ∧ mo_At ca hp1 x A S1 ∧ mo_out x A hp hp1)) 0 [(0, .ref x)] []
  have hA11 : hp (A 11) = some (.inl (ca 3, 42, .inl (mo_i S 11))) := hS.2.1 11 (by decide)
  have hsz := hS.2.2.2.2.1
  have htd := hS.2.2.2.2.2.1
  have hrs := hS.2.2.2.2.2.2
  have hsp := hS.2.2.1
  have hmk : ∀ u, u < 42 → mo_i S 11 u = bI (md_mk S u) := fun u _ => congrFun hS.2.2.2.1 u
  have hS0 : mo_At ca hp x A (mo_M S (md_mk S)) := by rw [mo_M_self hS.2.2]; exact hS
  refine rv_aload_n d_Model_take_0 rfl 0 rfl ?_
  refine rv_callV (kc' := 0) (ks' := 0) (kc1 := 0) (ks1 := 0) (As := []) (rest := []) hS.1 rfl (c_Model_find hS) ok_Model_find (wi_Model_take _ (List.mem_of_getElem? (i := 1) rfl)) (wi_Model_take _ (List.mem_of_getElem? (i := 2) rfl)) (wi_Model_take _ (List.mem_of_getElem? (i := 3) rfl)) rfl rfl (Nat.le_of_ble_eq_true rfl) (Nat.le_of_ble_eq_true rfl) ⟨Nat.le_of_ble_eq_true rfl, Nat.le_of_ble_eq_true rfl⟩ d_Model_take_1 (rv_kie ?_)
  cases eo : md_findo S with
  | none =>
    refine rv_eqi (y := (-1)) rfl ?_
    refine rv_istore_n (lv' := [(1, .int (-1)), (0, .ref x)]) d_Model_take_4 rfl (by decide) rfl ?_
    refine rv_iload_n d_Model_take_5 rfl 0 rfl ?_
    refine rv_if_ge (tgt := 11) d_Model_take_6 (by decide) (fun c_6 => ?_) (fun c_6 => ?_)
    · exact absurd c_6 (by decide)
    · refine rv_iconst (v := nI 0) d_Model_take_9 (by decide) ?_
      exact rv_ireturn ⟨_, rfl, S, ⟨rfl, rfl⟩, hS, mo_out_rf⟩ d_Model_take_10 rfl rfl
  | some t =>
    refine rv_eqi (y := nI t) rfl ?_
    have ht : t < mo_z S := fo_lt eo
    refine rv_istore_n (lv' := [(1, .int (nI t)), (0, .ref x)]) d_Model_take_4 rfl (by decide) rfl ?_
    refine rv_iload_n d_Model_take_5 rfl 0 rfl ?_
    refine rv_if_ge (tgt := 11) d_Model_take_6 (by decide) (fun c_6 => ?_) (fun c_6 => ?_)
    · refine rv_iconst (v := nI 0) d_Model_take_11 (by decide) ?_
      refine rv_istore_n (lv' := [(2, .int (nI 0)), (1, .int (nI t)), (0, .ref x)]) d_Model_take_12 rfl (by decide) rfl ?_
      refine rv_lv [0, 1, 2] rfl (c_Model_take_l (t := t) hA (by omega) 42 0 hp (md_mk S) (Nat.zero_add _) hS0 mo_out_rf (fun hp1 hS1 ho1 => ?_))
      have hS1 : mo_At ca hp1 x A (mo_M S (md_one t (md_mk S))) := hS1
      refine rv_aload_n d_Model_take_41 rfl 2 rfl ?_
      refine rv_callV (kc' := 0) (ks' := 0) (kc1 := 0) (ks1 := 0) (As := []) (rest := []) hS1.1 rfl (c_Model_remove hS1 hA) ok_Model_remove (wi_Model_take _ (List.mem_of_getElem? (i := 4) rfl)) (wi_Model_take _ (List.mem_of_getElem? (i := 5) rfl)) (wi_Model_take _ (List.mem_of_getElem? (i := 6) rfl)) rfl rfl (Nat.le_of_ble_eq_true rfl) (Nat.le_of_ble_eq_true rfl) ⟨Nat.le_of_ble_eq_true rfl, Nat.le_of_ble_eq_true rfl⟩ d_Model_take_42 (rv_ki (fun r101 hp101 ehp101 => ?_))
      obtain ⟨ey, hSr, hor⟩ := ehp101
      refine rv_pop d_Model_take_45 rfl ?_
      refine rv_iconst (v := nI 1) d_Model_take_46 (by decide) ?_
      exact rv_ireturn ⟨_, rfl, _, ⟨_, fun u hu => by unfold md_one; rw [md_one_at, if_pos (by omega)], rfl, rfl⟩, hSr, mo_out_tr ho1 hor⟩ d_Model_take_47 rfl rfl
    · exact absurd (nI_le (Nat.zero_le _) (by omega)) c_6
set_option maxHeartbeats 1000000 in
set_option maxRecDepth 100000 in
theorem c_Model_drop {l : Launch} {D : va_G} {ca : Nat → ClassId} {hp : hp_T} {d : Nat} {x : Nat} {A : Nat → Nat} {S : mo_S} (hS : mo_At ca hp x A S) (hA : pi_inj A 13) : ma_V l D ca ma_T M_Model_drop (d + 3) 0 0 hp (ma_qi (fun y hp1 => ∃ S1, md_rmRel S (md_findo S) y S1 ∧ mo_At ca hp1 x A S1 ∧ mo_out x A hp hp1)) 0 (lv_args 0 [.ref x]) [] := by
  change ma_V l D ca ma_T M_Model_drop (d + 3) 0 0 hp (ma_qi (fun y hp1 => ∃ S1, md_rmRel S (md_findo S) y S1 ∧ mo_At ca hp1 x A S1 ∧ mo_out x A hp hp1)) 0 [(0, .ref x)] []
  have hsz := hS.2.2.2.2.1
  have htd := hS.2.2.2.2.2.1
  have hrs := hS.2.2.2.2.2.2
  have hsp := hS.2.2.1
  have hmk : ∀ u, u < 42 → mo_i S 11 u = bI (md_mk S u) := fun u _ => congrFun hS.2.2.2.1 u
  refine rv_aload_n d_Model_drop_0 rfl 0 rfl ?_
  refine rv_callV (kc' := 0) (ks' := 0) (kc1 := 0) (ks1 := 0) (As := []) (rest := []) hS.1 rfl (c_Model_find hS) ok_Model_find (wi_Model_drop _ (List.mem_of_getElem? (i := 0) rfl)) (wi_Model_drop _ (List.mem_of_getElem? (i := 1) rfl)) (wi_Model_drop _ (List.mem_of_getElem? (i := 2) rfl)) rfl rfl (Nat.le_of_ble_eq_true rfl) (Nat.le_of_ble_eq_true rfl) ⟨Nat.le_of_ble_eq_true rfl, Nat.le_of_ble_eq_true rfl⟩ d_Model_drop_1 (rv_kie ?_)
  cases eo : md_findo S with
  | none =>
    refine rv_eqi (y := (-1)) rfl ?_
    refine rv_istore_n (lv' := [(1, .int (-1)), (0, .ref x)]) d_Model_drop_4 rfl (by decide) rfl ?_
    refine rv_iload_n d_Model_drop_5 rfl 0 rfl ?_
    refine rv_if_ge (tgt := 11) d_Model_drop_6 (by decide) (fun c_6 => ?_) (fun c_6 => ?_)
    · exact absurd c_6 (by decide)
    · refine rv_iconst (v := nI 0) d_Model_drop_9 (by decide) ?_
      exact rv_ireturn ⟨_, rfl, S, ⟨rfl, rfl⟩, hS, mo_out_rf⟩ d_Model_drop_10 rfl rfl
  | some t =>
    refine rv_eqi (y := nI t) rfl ?_
    have ht : t < mo_z S := fo_lt eo
    refine rv_istore_n (lv' := [(1, .int (nI t)), (0, .ref x)]) d_Model_drop_4 rfl (by decide) rfl ?_
    refine rv_iload_n d_Model_drop_5 rfl 0 rfl ?_
    refine rv_if_ge (tgt := 11) d_Model_drop_6 (by decide) (fun c_6 => ?_) (fun c_6 => ?_)
    · refine rv_aload_n d_Model_drop_11 rfl 1 rfl ?_
      refine rv_iload_n d_Model_drop_12 rfl 0 rfl ?_
      refine rv_aload_n d_Model_drop_13 rfl 1 rfl ?_
      refine rv_get ka_Model hS.1 rfl 0 (by decide) (wi_Model_drop _ (List.mem_of_getElem? (i := 3) rfl)) rfl d_Model_drop_14 ?_
      refine rv_callV (kc' := 0) (ks' := 0) (kc1 := 0) (ks1 := 0) (As := [.int (nI t), .int (nI (mo_z S))]) (rest := []) hS.1 rfl (cf_Model_family hS hA (by omega) (by omega)) ok_Model_family (wi_Model_drop _ (List.mem_of_getElem? (i := 4) rfl)) (wi_Model_drop _ (List.mem_of_getElem? (i := 5) rfl)) (wi_Model_drop _ (List.mem_of_getElem? (i := 6) rfl)) rfl rfl (Nat.le_of_ble_eq_true rfl) (Nat.le_of_ble_eq_true rfl) ⟨Nat.le_of_ble_eq_true rfl, Nat.le_of_ble_eq_true rfl⟩ d_Model_drop_17 (rv_kv (fun hp102 ehp102 => ?_))
      obtain ⟨g, hg, hS1, ho1⟩ := ehp102
      refine rv_aload_n d_Model_drop_20 rfl 1 rfl ?_
      refine rv_callV (kc' := 0) (ks' := 0) (kc1 := 0) (ks1 := 0) (As := []) (rest := []) hS1.1 rfl (c_Model_remove hS1 hA) ok_Model_remove (wi_Model_drop _ (List.mem_of_getElem? (i := 7) rfl)) (wi_Model_drop _ (List.mem_of_getElem? (i := 8) rfl)) (wi_Model_drop _ (List.mem_of_getElem? (i := 9) rfl)) rfl rfl (Nat.le_of_ble_eq_true rfl) (Nat.le_of_ble_eq_true rfl) ⟨Nat.le_of_ble_eq_true rfl, Nat.le_of_ble_eq_true rfl⟩ d_Model_drop_21 (rv_ki (fun r103 hp103 ehp103 => ?_))
      obtain ⟨ey, hSr, hor⟩ := ehp103
      exact rv_ireturn ⟨_, rfl, _, ⟨g, hg, ey, rfl⟩, hSr, mo_out_tr ho1 hor⟩ d_Model_drop_24 rfl rfl
    · exact absurd (nI_le (Nat.zero_le _) (by omega)) c_6
set_option maxHeartbeats 1000000 in
set_option maxRecDepth 100000 in
theorem c_Model_strike_i {l : Launch} {D : va_G} {ca : Nat → ClassId} {hp : hp_T} {d : Nat} {x : Nat} {A : Nat → Nat} {S : mo_S} (hS : mo_At ca hp x A S) {Q : Option Value → hp_T → Prop} {k0 : Int32} {t k : Nat} (ht : t < mo_z S) (hk : k < md_sp S t) : ∀ (m i : Nat) (a : Bool), i + m = 4 → ma_V l D ca ma_T M_Model_strike (d + 3) 0 0 hp Q 98 [(5, .int (nI 4)), (4, .int (bI (lp_fold (fun i b => b && decide (mo_l S 2 (32 * t + 4 * k + i) = mo_l S 8 i)) m i a))), (3, .int (nI k)), (2, .int (nI t)), (0, .ref x), (1, .int k0)] [] → ma_V l D ca ma_T M_Model_strike (d + 3) 0 0 hp Q 47 [(5, .int (nI i)), (4, .int (bI a)), (3, .int (nI k)), (2, .int (nI t)), (0, .ref x), (1, .int k0)] [] := by
  have hA1 : hp (A 1) = some (.inl (ca 0, 42, .inl (mo_i S 1))) := hS.2.1 1 (by decide)
  have hA2 : hp (A 2) = some (.inl (ca 1, 1344, .inr (.inl (mo_l S 2)))) := hS.2.1 2 (by decide)
  have hA3 : hp (A 3) = some (.inl (ca 0, 336, .inl (mo_i S 3))) := hS.2.1 3 (by decide)
  have hA8 : hp (A 8) = some (.inl (ca 1, 4, .inr (.inl (mo_l S 8)))) := hS.2.1 8 (by decide)
  have hsz := hS.2.2.2.2.1
  have htd := hS.2.2.2.2.2.1
  have hrs := hS.2.2.2.2.2.2
  have hsp := hS.2.2.1
  have hmk : ∀ u, u < 42 → mo_i S 11 u = bI (md_mk S u) := fun u _ => congrFun hS.2.2.2.1 u
  have hst := (hsp t (by omega)).2
  intro m
  induction m with
  | zero =>
    intro i a hi K
    obtain rfl : i = 4 := by omega
    refine rv_iload d_Model_strike_47 0 rfl ?_
    refine rv_iconst (v := nI 4) d_Model_strike_49 (by decide) ?_
    refine rv_icmp_ge (tgt := 98) d_Model_strike_50 (by decide) (fun c_50 => ?_) (fun c_50 => ?_)
    · exact K
    · exact absurd (nI_le (by omega) (by omega)) c_50
  | succ m ih =>
    intro i a hi K
    refine rv_iload d_Model_strike_47 0 rfl ?_
    refine rv_iconst (v := nI 4) d_Model_strike_49 (by decide) ?_
    refine rv_icmp_ge (tgt := 98) d_Model_strike_50 (by decide) (fun c_50 => ?_) (fun c_50 => ?_)
    · exact absurd c_50 (nI_ge (by omega) (by omega))
    · refine rv_iload d_Model_strike_53 1 rfl ?_
      refine rv_if_eq (tgt := 89) d_Model_strike_55 (by decide) (fun c_55 => ?_) (fun c_55 => ?_)
      · have e : (fun i b => b && decide (mo_l S 2 (32 * t + 4 * k + i) = mo_l S 8 i)) i a = false := by show (a && _) = false; rw [bI_0.mp c_55, Bool.false_and]
        refine rv_iconst (v := nI 0) d_Model_strike_89 (by decide) ?_
        refine rv_istore (lv' := [(4, .int (nI 0)), (5, .int (nI i)), (3, .int (nI k)), (2, .int (nI t)), (0, .ref x), (1, .int k0)]) d_Model_strike_90 (by decide) rfl ?_
        refine rv_iinc (k := 1) (v := nI (i + 1)) (lv' := [(5, .int (nI (i + 1))), (4, .int (nI 0)), (3, .int (nI k)), (2, .int (nI t)), (0, .ref x), (1, .int k0)]) d_Model_strike_92 rfl (nI_1 _) (by decide) rfl ?_
        refine rv_goto (tgt := 47) d_Model_strike_95 (by decide) ?_
        refine rv_lv [0, 1, 2, 3, 4, 5] rfl (ih (i + 1) false (by omega) ?_)
        have z := K
        rw [show lp_fold (fun i b => b && decide (mo_l S 2 (32 * t + 4 * k + i) = mo_l S 8 i)) (m + 1) i a = lp_fold (fun i b => b && decide (mo_l S 2 (32 * t + 4 * k + i) = mo_l S 8 i)) m (i + 1) false from congrArg (lp_fold (fun i b => b && decide (mo_l S 2 (32 * t + 4 * k + i) = mo_l S 8 i)) m (i + 1)) e] at z
        exact z
      · refine rv_aload_n d_Model_strike_58 rfl 4 rfl ?_
        refine rv_get ka_Model hS.1 rfl 3 (by decide) (wi_Model_strike _ (List.mem_of_getElem? (i := 0) rfl)) rfl d_Model_strike_59 ?_
        refine rv_bipush (v := nI 32) d_Model_strike_62 (by decide) ?_
        refine rv_iload_n d_Model_strike_64 rfl 3 rfl ?_
        refine rv_imul d_Model_strike_65 ?_
        refine rv_eqi (pk_mul _ _) ?_
        refine rv_iconst (v := nI 4) d_Model_strike_66 (by decide) ?_
        refine rv_iload_n d_Model_strike_67 rfl 2 rfl ?_
        refine rv_imul d_Model_strike_68 ?_
        refine rv_eqi (pk_mul _ _) ?_
        refine rv_iadd d_Model_strike_69 ?_
        refine rv_eqi (nI_add _ _) ?_
        refine rv_iload d_Model_strike_70 0 rfl ?_
        refine rv_iadd d_Model_strike_72 ?_
        refine rv_eqi (nI_add _ _) ?_
        refine rv_lald hA2 1 rfl (by omega) (by decide) d_Model_strike_73 ?_
        refine rv_aload_n d_Model_strike_74 rfl 4 rfl ?_
        refine rv_get ka_Model hS.1 rfl 10 (by decide) (wi_Model_strike _ (List.mem_of_getElem? (i := 1) rfl)) rfl d_Model_strike_75 ?_
        refine rv_iload d_Model_strike_78 0 rfl ?_
        refine rv_lald hA8 1 rfl (by omega) (by decide) d_Model_strike_80 ?_
        refine rv_lcmp d_Model_strike_81 ?_
        refine rv_if_ne (tgt := 89) d_Model_strike_82 (by decide) (fun c_82 => ?_) (fun c_82 => ?_)
        · have e : (fun i b => b && decide (mo_l S 2 (32 * t + 4 * k + i) = mo_l S 8 i)) i a = false := by show (a && decide _) = false; rw [decide_eq_false (fun z => c_82 (lc_0.mpr z)), Bool.and_false]
          refine rv_iconst (v := nI 0) d_Model_strike_89 (by decide) ?_
          refine rv_istore (lv' := [(4, .int (nI 0)), (5, .int (nI i)), (3, .int (nI k)), (2, .int (nI t)), (0, .ref x), (1, .int k0)]) d_Model_strike_90 (by decide) rfl ?_
          refine rv_iinc (k := 1) (v := nI (i + 1)) (lv' := [(5, .int (nI (i + 1))), (4, .int (nI 0)), (3, .int (nI k)), (2, .int (nI t)), (0, .ref x), (1, .int k0)]) d_Model_strike_92 rfl (nI_1 _) (by decide) rfl ?_
          refine rv_goto (tgt := 47) d_Model_strike_95 (by decide) ?_
          refine rv_lv [0, 1, 2, 3, 4, 5] rfl (ih (i + 1) false (by omega) ?_)
          have z := K
          rw [show lp_fold (fun i b => b && decide (mo_l S 2 (32 * t + 4 * k + i) = mo_l S 8 i)) (m + 1) i a = lp_fold (fun i b => b && decide (mo_l S 2 (32 * t + 4 * k + i) = mo_l S 8 i)) m (i + 1) false from congrArg (lp_fold (fun i b => b && decide (mo_l S 2 (32 * t + 4 * k + i) = mo_l S 8 i)) m (i + 1)) e] at z
          exact z
        · have e : (fun i b => b && decide (mo_l S 2 (32 * t + 4 * k + i) = mo_l S 8 i)) i a = true := by show (a && decide _) = true; rw [bI_n.mp c_55, decide_eq_true (lc_0.mp c_82)]; rfl
          refine rv_iconst (v := nI 1) d_Model_strike_85 (by decide) ?_
          refine rv_goto (tgt := 90) d_Model_strike_86 (by decide) ?_
          refine rv_istore (lv' := [(4, .int (nI 1)), (5, .int (nI i)), (3, .int (nI k)), (2, .int (nI t)), (0, .ref x), (1, .int k0)]) d_Model_strike_90 (by decide) rfl ?_
          refine rv_iinc (k := 1) (v := nI (i + 1)) (lv' := [(5, .int (nI (i + 1))), (4, .int (nI 1)), (3, .int (nI k)), (2, .int (nI t)), (0, .ref x), (1, .int k0)]) d_Model_strike_92 rfl (nI_1 _) (by decide) rfl ?_
          refine rv_goto (tgt := 47) d_Model_strike_95 (by decide) ?_
          refine rv_lv [0, 1, 2, 3, 4, 5] rfl (ih (i + 1) true (by omega) ?_)
          have z := K
          rw [show lp_fold (fun i b => b && decide (mo_l S 2 (32 * t + 4 * k + i) = mo_l S 8 i)) (m + 1) i a = lp_fold (fun i b => b && decide (mo_l S 2 (32 * t + 4 * k + i) = mo_l S 8 i)) m (i + 1) true from congrArg (lp_fold (fun i b => b && decide (mo_l S 2 (32 * t + 4 * k + i) = mo_l S 8 i)) m (i + 1)) e] at z
          exact z
set_option maxHeartbeats 1000000 in
set_option maxRecDepth 100000 in
theorem c_Model_strike_k {l : Launch} {D : va_G} {ca : Nat → ClassId} {hp : hp_T} {d : Nat} {x : Nat} {A : Nat → Nat} {S : mo_S} (hS : mo_At ca hp x A S) {Q : Option Value → hp_T → Prop} {k0 : Int32} {t : Nat} (ht : t < mo_z S) : ∀ (m i : Nat), i + m = md_sp S t → (lp_any (md_skey S k0 t) m i = true → ∀ k : Nat, ma_V l D ca ma_T M_Model_strike (d + 3) 0 0 hp Q 103 [(3, .int (nI k)), (2, .int (nI t)), (0, .ref x), (1, .int k0)] []) → (lp_any (md_skey S k0 t) m i = false → ma_V l D ca ma_T M_Model_strike (d + 3) 0 0 hp Q 123 [(3, .int (nI (md_sp S t))), (2, .int (nI t)), (0, .ref x), (1, .int k0)] []) → ma_V l D ca ma_T M_Model_strike (d + 3) 0 0 hp Q 12 [(3, .int (nI i)), (2, .int (nI t)), (0, .ref x), (1, .int k0)] [] := by
  have hA1 : hp (A 1) = some (.inl (ca 0, 42, .inl (mo_i S 1))) := hS.2.1 1 (by decide)
  have hA2 : hp (A 2) = some (.inl (ca 1, 1344, .inr (.inl (mo_l S 2)))) := hS.2.1 2 (by decide)
  have hA3 : hp (A 3) = some (.inl (ca 0, 336, .inl (mo_i S 3))) := hS.2.1 3 (by decide)
  have hA8 : hp (A 8) = some (.inl (ca 1, 4, .inr (.inl (mo_l S 8)))) := hS.2.1 8 (by decide)
  have hsz := hS.2.2.2.2.1
  have htd := hS.2.2.2.2.2.1
  have hrs := hS.2.2.2.2.2.2
  have hsp := hS.2.2.1
  have hmk : ∀ u, u < 42 → mo_i S 11 u = bI (md_mk S u) := fun u _ => congrFun hS.2.2.2.1 u
  have hst := (hsp t (by omega)).2
  intro m
  induction m with
  | zero =>
    intro i hi hT hF
    obtain rfl : i = md_sp S t := by omega
    refine rv_iload_n d_Model_strike_12 rfl 0 rfl ?_
    refine rv_aload_n d_Model_strike_13 rfl 2 rfl ?_
    refine rv_get ka_Model hS.1 rfl 2 (by decide) (wi_Model_strike _ (List.mem_of_getElem? (i := 2) rfl)) rfl d_Model_strike_14 ?_
    refine rv_iload_n d_Model_strike_17 rfl 1 rfl ?_
    refine rv_iald hA1 0 rfl (by omega) (by decide) d_Model_strike_18 ?_
    refine rv_eqi (y := nI (md_sp S t)) ((hsp t (by omega)).1) ?_
    refine rv_icmp_ge (tgt := 123) d_Model_strike_19 (by decide) (fun c_19 => ?_) (fun c_19 => ?_)
    · exact hF rfl
    · exact absurd (nI_le (by omega) (by omega)) c_19
  | succ m ih =>
    intro i hi hT hF
    refine rv_iload_n d_Model_strike_12 rfl 0 rfl ?_
    refine rv_aload_n d_Model_strike_13 rfl 2 rfl ?_
    refine rv_get ka_Model hS.1 rfl 2 (by decide) (wi_Model_strike _ (List.mem_of_getElem? (i := 2) rfl)) rfl d_Model_strike_14 ?_
    refine rv_iload_n d_Model_strike_17 rfl 1 rfl ?_
    refine rv_iald hA1 0 rfl (by omega) (by decide) d_Model_strike_18 ?_
    refine rv_eqi (y := nI (md_sp S t)) ((hsp t (by omega)).1) ?_
    refine rv_icmp_ge (tgt := 123) d_Model_strike_19 (by decide) (fun c_19 => ?_) (fun c_19 => ?_)
    · exact absurd c_19 (nI_ge (by omega) (by omega))
    · refine rv_aload_n d_Model_strike_22 rfl 2 rfl ?_
      refine rv_get ka_Model hS.1 rfl 4 (by decide) (wi_Model_strike _ (List.mem_of_getElem? (i := 3) rfl)) rfl d_Model_strike_23 ?_
      refine rv_bipush (v := nI 8) d_Model_strike_26 (by decide) ?_
      refine rv_iload_n d_Model_strike_28 rfl 1 rfl ?_
      refine rv_imul d_Model_strike_29 ?_
      refine rv_eqi (pk_mul _ _) ?_
      refine rv_iload_n d_Model_strike_30 rfl 0 rfl ?_
      refine rv_iadd d_Model_strike_31 ?_
      refine rv_eqi (nI_add _ _) ?_
      refine rv_iald hA3 0 rfl (by omega) (by decide) d_Model_strike_32 ?_
      refine rv_iload_n d_Model_strike_33 rfl 3 rfl ?_
      refine rv_icmp_ne (tgt := 41) d_Model_strike_34 (by decide) (fun c_34 => ?_) (fun c_34 => ?_)
      · have e0 : decide (mo_i S 3 (8 * t + i) = k0) = false := decide_eq_false c_34
        refine rv_iconst (v := nI 0) d_Model_strike_41 (by decide) ?_
        refine rv_istore (lv' := [(4, .int (nI 0)), (3, .int (nI i)), (2, .int (nI t)), (0, .ref x), (1, .int k0)]) d_Model_strike_42 (by decide) rfl ?_
        refine rv_iconst (v := nI 0) d_Model_strike_44 (by decide) ?_
        refine rv_istore (lv' := [(5, .int (nI 0)), (4, .int (nI 0)), (3, .int (nI i)), (2, .int (nI t)), (0, .ref x), (1, .int k0)]) d_Model_strike_45 (by decide) rfl ?_
        refine rv_lv [0, 1, 2, 3, 4, 5] rfl (c_Model_strike_i (t := t) (k := i) hS ht (by omega) 4 0 false rfl ?_)
        have e1 : md_skey S k0 t i = lp_fold (fun j b => b && decide (mo_l S 2 (32 * t + 4 * i + j) = mo_l S 8 j)) 4 0 false := by unfold md_skey; rw [e0]
        rw [← e1]
        refine rv_iload d_Model_strike_98 1 rfl ?_
        refine rv_if_eq (tgt := 117) d_Model_strike_100 (by decide) (fun c_100 => ?_) (fun c_100 => ?_)
        · have e := bI_0.mp c_100
          refine rv_iinc (k := 2) (v := nI (i + 1)) (lv' := [(3, .int (nI (i + 1))), (5, .int (nI 4)), (4, .int (bI (md_skey S k0 t i))), (2, .int (nI t)), (0, .ref x), (1, .int k0)]) d_Model_strike_117 rfl (nI_1 _) (by decide) rfl ?_
          refine rv_goto (tgt := 12) d_Model_strike_120 (by decide) ?_
          exact rv_lv [0, 3, 4, 5] rfl (ih (i + 1) (by omega) (fun h => hT (by rw [lp_any_f e]; exact h)) (fun h => hF (by rw [lp_any_f e]; exact h)))
        · have e := bI_n.mp c_100
          exact rv_lv [2, 3, 4, 5] rfl (hT (lp_any_t e) i)
      · have e0 : decide (mo_i S 3 (8 * t + i) = k0) = true := decide_eq_true c_34
        refine rv_iconst (v := nI 1) d_Model_strike_37 (by decide) ?_
        refine rv_goto (tgt := 42) d_Model_strike_38 (by decide) ?_
        refine rv_istore (lv' := [(4, .int (nI 1)), (3, .int (nI i)), (2, .int (nI t)), (0, .ref x), (1, .int k0)]) d_Model_strike_42 (by decide) rfl ?_
        refine rv_iconst (v := nI 0) d_Model_strike_44 (by decide) ?_
        refine rv_istore (lv' := [(5, .int (nI 0)), (4, .int (nI 1)), (3, .int (nI i)), (2, .int (nI t)), (0, .ref x), (1, .int k0)]) d_Model_strike_45 (by decide) rfl ?_
        refine rv_lv [0, 1, 2, 3, 4, 5] rfl (c_Model_strike_i (t := t) (k := i) hS ht (by omega) 4 0 true rfl ?_)
        have e1 : md_skey S k0 t i = lp_fold (fun j b => b && decide (mo_l S 2 (32 * t + 4 * i + j) = mo_l S 8 j)) 4 0 true := by unfold md_skey; rw [e0]
        rw [← e1]
        refine rv_iload d_Model_strike_98 1 rfl ?_
        refine rv_if_eq (tgt := 117) d_Model_strike_100 (by decide) (fun c_100 => ?_) (fun c_100 => ?_)
        · have e := bI_0.mp c_100
          refine rv_iinc (k := 2) (v := nI (i + 1)) (lv' := [(3, .int (nI (i + 1))), (5, .int (nI 4)), (4, .int (bI (md_skey S k0 t i))), (2, .int (nI t)), (0, .ref x), (1, .int k0)]) d_Model_strike_117 rfl (nI_1 _) (by decide) rfl ?_
          refine rv_goto (tgt := 12) d_Model_strike_120 (by decide) ?_
          exact rv_lv [0, 3, 4, 5] rfl (ih (i + 1) (by omega) (fun h => hT (by rw [lp_any_f e]; exact h)) (fun h => hF (by rw [lp_any_f e]; exact h)))
        · have e := bI_n.mp c_100
          exact rv_lv [2, 3, 4, 5] rfl (hT (lp_any_t e) i)
set_option maxHeartbeats 1000000 in
set_option maxRecDepth 100000 in
theorem c_Model_strike_l {l : Launch} {D : va_G} {ca : Nat → ClassId} {hp : hp_T} {d : Nat} {x : Nat} {A : Nat → Nat} {S : mo_S} (hS : mo_At ca hp x A S) (hA : pi_inj A 13) {k0 : Int32} : ∀ (m i : Nat), i + m = mo_z S → ma_V l D ca ma_T M_Model_strike (d + 3) 0 0 hp (ma_qi (fun y hp1 => ∃ S1, md_rmRel S (fo_find (fun t => lp_any (md_skey S k0 t) (md_sp S t) 0) m i) y S1 ∧ mo_At ca hp1 x A S1 ∧ mo_out x A hp hp1)) 2 [(2, .int (nI i)), (0, .ref x), (1, .int k0)] [] := by
  have hA1 : hp (A 1) = some (.inl (ca 0, 42, .inl (mo_i S 1))) := hS.2.1 1 (by decide)
  have hA2 : hp (A 2) = some (.inl (ca 1, 1344, .inr (.inl (mo_l S 2)))) := hS.2.1 2 (by decide)
  have hA3 : hp (A 3) = some (.inl (ca 0, 336, .inl (mo_i S 3))) := hS.2.1 3 (by decide)
  have hA8 : hp (A 8) = some (.inl (ca 1, 4, .inr (.inl (mo_l S 8)))) := hS.2.1 8 (by decide)
  have hsz := hS.2.2.2.2.1
  have htd := hS.2.2.2.2.2.1
  have hrs := hS.2.2.2.2.2.2
  have hsp := hS.2.2.1
  have hmk : ∀ u, u < 42 → mo_i S 11 u = bI (md_mk S u) := fun u _ => congrFun hS.2.2.2.1 u
  intro m
  induction m with
  | zero =>
    intro i hi
    refine rv_iload_n d_Model_strike_2 rfl 0 rfl ?_
    refine rv_aload_n d_Model_strike_3 rfl 1 rfl ?_
    refine rv_get ka_Model hS.1 rfl 0 (by decide) (wi_Model_strike _ (List.mem_of_getElem? (i := 4) rfl)) rfl d_Model_strike_4 ?_
    refine rv_icmp_ge (tgt := 129) d_Model_strike_7 (by decide) (fun c_7 => ?_) (fun c_7 => ?_)
    · refine rv_iconst (v := nI 0) d_Model_strike_129 (by decide) ?_
      exact rv_ireturn ⟨_, rfl, S, ⟨rfl, rfl⟩, hS, mo_out_rf⟩ d_Model_strike_130 rfl rfl
    · exact absurd (nI_le (by omega) (by omega)) c_7
  | succ m ih =>
    intro i hi
    refine rv_iload_n d_Model_strike_2 rfl 0 rfl ?_
    refine rv_aload_n d_Model_strike_3 rfl 1 rfl ?_
    refine rv_get ka_Model hS.1 rfl 0 (by decide) (wi_Model_strike _ (List.mem_of_getElem? (i := 4) rfl)) rfl d_Model_strike_4 ?_
    refine rv_icmp_ge (tgt := 129) d_Model_strike_7 (by decide) (fun c_7 => ?_) (fun c_7 => ?_)
    · exact absurd c_7 (nI_ge (by omega) (by omega))
    · refine rv_iconst (v := nI 0) d_Model_strike_10 (by decide) ?_
      refine rv_istore_n (lv' := [(3, .int (nI 0)), (2, .int (nI i)), (0, .ref x), (1, .int k0)]) d_Model_strike_11 rfl (by decide) rfl ?_
      refine rv_lv [0, 1, 2, 3] rfl (c_Model_strike_k (t := i) hS (by omega) (md_sp S i) 0 (Nat.zero_add _) (fun h k => ?_) (fun h => ?_))
      · rw [fo_t (P := fun t => lp_any (md_skey S k0 t) (md_sp S t) 0) h]
        refine rv_aload_n d_Model_strike_103 rfl 2 rfl ?_
        refine rv_iload_n d_Model_strike_104 rfl 1 rfl ?_
        refine rv_aload_n d_Model_strike_105 rfl 2 rfl ?_
        refine rv_get ka_Model hS.1 rfl 0 (by decide) (wi_Model_strike _ (List.mem_of_getElem? (i := 4) rfl)) rfl d_Model_strike_106 ?_
        refine rv_callV (kc' := 0) (ks' := 0) (kc1 := 0) (ks1 := 0) (As := [.int (nI i), .int (nI (mo_z S))]) (rest := []) hS.1 rfl (cf_Model_family hS hA (by omega) (by omega)) ok_Model_family (wi_Model_strike _ (List.mem_of_getElem? (i := 5) rfl)) (wi_Model_strike _ (List.mem_of_getElem? (i := 6) rfl)) (wi_Model_strike _ (List.mem_of_getElem? (i := 7) rfl)) rfl rfl (Nat.le_of_ble_eq_true rfl) (Nat.le_of_ble_eq_true rfl) ⟨Nat.le_of_ble_eq_true rfl, Nat.le_of_ble_eq_true rfl⟩ d_Model_strike_109 (rv_kv (fun hp104 ehp104 => ?_))
        obtain ⟨g, hg, hS1, ho1⟩ := ehp104
        refine rv_aload_n d_Model_strike_112 rfl 2 rfl ?_
        refine rv_callV (kc' := 0) (ks' := 0) (kc1 := 0) (ks1 := 0) (As := []) (rest := []) hS1.1 rfl (c_Model_remove hS1 hA) ok_Model_remove (wi_Model_strike _ (List.mem_of_getElem? (i := 8) rfl)) (wi_Model_strike _ (List.mem_of_getElem? (i := 9) rfl)) (wi_Model_strike _ (List.mem_of_getElem? (i := 10) rfl)) rfl rfl (Nat.le_of_ble_eq_true rfl) (Nat.le_of_ble_eq_true rfl) ⟨Nat.le_of_ble_eq_true rfl, Nat.le_of_ble_eq_true rfl⟩ d_Model_strike_113 (rv_ki (fun r105 hp105 ehp105 => ?_))
        obtain ⟨ey, hSr, hor⟩ := ehp105
        exact rv_ireturn ⟨_, rfl, _, ⟨g, hg, ey, rfl⟩, hSr, mo_out_tr ho1 hor⟩ d_Model_strike_116 rfl rfl
      · rw [fo_f (P := fun t => lp_any (md_skey S k0 t) (md_sp S t) 0) h]
        refine rv_iinc (k := 1) (v := nI (i + 1)) (lv' := [(2, .int (nI (i + 1))), (3, .int (nI (md_sp S i))), (0, .ref x), (1, .int k0)]) d_Model_strike_123 rfl (nI_1 _) (by decide) rfl ?_
        refine rv_goto (tgt := 2) d_Model_strike_126 (by decide) ?_
        exact rv_lv [0, 2, 3] rfl (ih (i + 1) (by omega))
set_option maxHeartbeats 1000000 in
set_option maxRecDepth 100000 in
theorem c_Model_strike {l : Launch} {D : va_G} {ca : Nat → ClassId} {hp : hp_T} {d : Nat} {x : Nat} {A : Nat → Nat} {S : mo_S} (hS : mo_At ca hp x A S) (hA : pi_inj A 13) {k0 : Int32} : ma_V l D ca ma_T M_Model_strike (d + 3) 0 0 hp (ma_qi (fun y hp1 => ∃ S1, md_rmRel S (md_strko S k0) y S1 ∧ mo_At ca hp1 x A S1 ∧ mo_out x A hp hp1)) 0 (lv_args 0 [.ref x, .int k0]) [] := by
  change ma_V l D ca ma_T M_Model_strike (d + 3) 0 0 hp (ma_qi (fun y hp1 => ∃ S1, md_rmRel S (md_strko S k0) y S1 ∧ mo_At ca hp1 x A S1 ∧ mo_out x A hp hp1)) 0 [(0, .ref x), (1, .int k0)] []
  refine rv_iconst (v := nI 0) d_Model_strike_0 (by decide) ?_
  refine rv_istore_n (lv' := [(2, .int (nI 0)), (0, .ref x), (1, .int k0)]) d_Model_strike_1 rfl (by decide) rfl ?_
  exact rv_lv [0, 1, 2] rfl (c_Model_strike_l hS hA (mo_z S) 0 (Nat.zero_add _))
set_option maxHeartbeats 1000000 in
set_option maxRecDepth 100000 in
theorem c_Model_look_l {l : Launch} {D : va_G} {ca : Nat → ClassId} {hp : hp_T} {d : Nat} {x : Nat} {A : Nat → Nat} {S : mo_S} {g : Nat → Bool} (hS : mo_At ca hp x A (mo_M S g)) {Q : Option Value → hp_T → Prop} {k0 : Int32} {t : Nat} : ∀ (m i : Nat) (a : Int32), i + m = mo_z S → ma_V l D ca ma_T M_Model_look (d + 3) 0 0 hp Q 188 [(4, .int (nI (mo_z S))), (3, .int (lp_fold (fun t a => a + (if g t = true then nI 1 else nI 0)) m i a)), (2, .int (nI t)), (0, .ref x), (1, .int k0)] [] → ma_V l D ca ma_T M_Model_look (d + 3) 0 0 hp Q 155 [(4, .int (nI i)), (3, .int a), (2, .int (nI t)), (0, .ref x), (1, .int k0)] [] := by
  have hA11 : hp (A 11) = some (.inl (ca 3, 42, .inl (fun u => bI (g u)))) := hS.2.1 11 (by decide)
  have hsz := hS.2.2.2.2.1
  have hzz : mo_z (mo_M S g) = mo_z S := rfl
  intro m
  induction m with
  | zero =>
    intro i a hi K
    obtain rfl : i = mo_z S := by omega
    refine rv_iload d_Model_look_155 0 rfl ?_
    refine rv_aload_n d_Model_look_157 rfl 3 rfl ?_
    refine rv_get ka_Model hS.1 rfl 0 (by decide) (wi_Model_look _ (List.mem_of_getElem? (i := 0) rfl)) rfl d_Model_look_158 ?_
    refine rv_icmp_ge (tgt := 188) d_Model_look_161 (by decide) (fun c_161 => ?_) (fun c_161 => ?_)
    · exact K
    · exact absurd (nI_le (by omega) (by omega)) c_161
  | succ m ih =>
    intro i a hi K
    refine rv_iload d_Model_look_155 0 rfl ?_
    refine rv_aload_n d_Model_look_157 rfl 3 rfl ?_
    refine rv_get ka_Model hS.1 rfl 0 (by decide) (wi_Model_look _ (List.mem_of_getElem? (i := 0) rfl)) rfl d_Model_look_158 ?_
    refine rv_icmp_ge (tgt := 188) d_Model_look_161 (by decide) (fun c_161 => ?_) (fun c_161 => ?_)
    · exact absurd c_161 (nI_ge (by omega) (by omega))
    · refine rv_iload_n d_Model_look_164 rfl 1 rfl ?_
      refine rv_aload_n d_Model_look_165 rfl 3 rfl ?_
      refine rv_get ka_Model hS.1 rfl 14 (by decide) (wi_Model_look _ (List.mem_of_getElem? (i := 1) rfl)) rfl d_Model_look_166 ?_
      refine rv_iload d_Model_look_169 0 rfl ?_
      refine rv_zald hA11 3 rfl (by omega) (by decide) d_Model_look_171 ?_
      refine rv_eqi (y := bI (g i)) (rfl) ?_
      refine rv_if_eq (tgt := 179) d_Model_look_172 (by decide) (fun c_172 => ?_) (fun c_172 => ?_)
      · have e : (fun t a => a + (if g t = true then nI 1 else nI 0)) i a = a + nI 0 := by show a + _ = _; rw [if_neg (by rw [bI_0.mp c_172]; exact Bool.false_ne_true)]
        refine rv_iconst (v := nI 0) d_Model_look_179 (by decide) ?_
        refine rv_iadd d_Model_look_180 ?_
        refine rv_istore_n (lv' := [(3, .int (a + (nI 0))), (4, .int (nI i)), (2, .int (nI t)), (0, .ref x), (1, .int k0)]) d_Model_look_181 rfl (by decide) rfl ?_
        refine rv_iinc (k := 1) (v := nI (i + 1)) (lv' := [(4, .int (nI (i + 1))), (3, .int (a + (nI 0))), (2, .int (nI t)), (0, .ref x), (1, .int k0)]) d_Model_look_182 rfl (nI_1 _) (by decide) rfl ?_
        refine rv_goto (tgt := 155) d_Model_look_185 (by decide) ?_
        refine rv_lv [0, 1, 2, 3, 4] rfl (ih (i + 1) (a + (nI 0)) (by omega) ?_)
        have z := K
        rw [show lp_fold (fun t a => a + (if g t = true then nI 1 else nI 0)) (m + 1) i a = lp_fold (fun t a => a + (if g t = true then nI 1 else nI 0)) m (i + 1) (a + (nI 0)) from congrArg (lp_fold (fun t a => a + (if g t = true then nI 1 else nI 0)) m (i + 1)) e] at z
        exact z
      · have e : (fun t a => a + (if g t = true then nI 1 else nI 0)) i a = a + nI 1 := by show a + _ = _; rw [if_pos (bI_n.mp c_172)]
        refine rv_iconst (v := nI 1) d_Model_look_175 (by decide) ?_
        refine rv_goto (tgt := 180) d_Model_look_176 (by decide) ?_
        refine rv_iadd d_Model_look_180 ?_
        refine rv_istore_n (lv' := [(3, .int (a + (nI 1))), (4, .int (nI i)), (2, .int (nI t)), (0, .ref x), (1, .int k0)]) d_Model_look_181 rfl (by decide) rfl ?_
        refine rv_iinc (k := 1) (v := nI (i + 1)) (lv' := [(4, .int (nI (i + 1))), (3, .int (a + (nI 1))), (2, .int (nI t)), (0, .ref x), (1, .int k0)]) d_Model_look_182 rfl (nI_1 _) (by decide) rfl ?_
        refine rv_goto (tgt := 155) d_Model_look_185 (by decide) ?_
        refine rv_lv [0, 1, 2, 3, 4] rfl (ih (i + 1) (a + (nI 1)) (by omega) ?_)
        have z := K
        rw [show lp_fold (fun t a => a + (if g t = true then nI 1 else nI 0)) (m + 1) i a = lp_fold (fun t a => a + (if g t = true then nI 1 else nI 0)) m (i + 1) (a + (nI 1)) from congrArg (lp_fold (fun t a => a + (if g t = true then nI 1 else nI 0)) m (i + 1)) e] at z
        exact z
set_option maxHeartbeats 1000000 in
set_option maxRecDepth 100000 in
theorem c_Model_look {l : Launch} {D : va_G} {ca : Nat → ClassId} {hp : hp_T} {d : Nat} {x : Nat} {A : Nat → Nat} {S : mo_S} (hS : mo_At ca hp x A S) (hA : pi_inj A 13) {k0 : Int32} : ma_V l D ca ma_T M_Model_look (d + 3) 0 0 hp (ma_ql (fun y hp1 => y = md_look S k0 ∧ (∃ mk, mo_At ca hp1 x A (mo_M S mk)) ∧ mo_out x A hp hp1)) 0 (lv_args 0 [.ref x, .int k0]) [] := by
  change ma_V l D ca ma_T M_Model_look (d + 3) 0 0 hp (ma_ql (fun y hp1 => y = md_look S k0 ∧ (∃ mk, mo_At ca hp1 x A (mo_M S mk)) ∧ mo_out x A hp hp1)) 0 [(0, .ref x), (1, .int k0)] []
  have hsz := hS.2.2.2.2.1
  have htd := hS.2.2.2.2.2.1
  have hrs := hS.2.2.2.2.2.2
  have hsp := hS.2.2.1
  have hmk : ∀ u, u < 42 → mo_i S 11 u = bI (md_mk S u) := fun u _ => congrFun hS.2.2.2.1 u
  have hS0 : mo_At ca hp x A (mo_M S (md_mk S)) := by rw [mo_M_self hS.2.2]; exact hS
  refine rv_aload_n d_Model_look_0 rfl 0 rfl ?_
  refine rv_callV (kc' := 0) (ks' := 0) (kc1 := 0) (ks1 := 0) (As := []) (rest := []) hS.1 rfl (c_Model_find hS) ok_Model_find (wi_Model_look _ (List.mem_of_getElem? (i := 2) rfl)) (wi_Model_look _ (List.mem_of_getElem? (i := 3) rfl)) (wi_Model_look _ (List.mem_of_getElem? (i := 4) rfl)) rfl rfl (Nat.le_of_ble_eq_true rfl) (Nat.le_of_ble_eq_true rfl) ⟨Nat.le_of_ble_eq_true rfl, Nat.le_of_ble_eq_true rfl⟩ d_Model_look_1 (rv_kie ?_)
  cases eo : md_findo S with
  | none =>
    refine rv_eqi (y := (-1)) rfl ?_
    have e : md_look S k0 = -1 := by unfold md_look; rw [eo]
    refine rv_istore_n (lv' := [(2, .int (-1)), (0, .ref x), (1, .int k0)]) d_Model_look_4 rfl (by decide) rfl ?_
    refine rv_iload_n d_Model_look_5 rfl 0 rfl ?_
    refine rv_if_ge (tgt := 13) d_Model_look_6 (by decide) (fun c_6 => ?_) (fun c_6 => ?_)
    · exact absurd c_6 (by decide)
    · refine rv_ldc2 (v := (-1)) d_Model_look_9 (wi_Model_look _ (List.mem_of_getElem? (i := 5) rfl)) ?_
      exact rv_lreturn ⟨_, rfl, e.symm, ⟨_, hS0⟩, mo_out_rf⟩ d_Model_look_12 rfl
  | some t =>
    refine rv_eqi (y := nI t) rfl ?_
    have ht : t < mo_z S := fo_lt eo
    have e : md_look S k0 = md_lookT S t k0 := by unfold md_look; rw [eo]
    refine rv_istore_n (lv' := [(2, .int (nI t)), (0, .ref x), (1, .int k0)]) d_Model_look_4 rfl (by decide) rfl ?_
    refine rv_iload_n d_Model_look_5 rfl 0 rfl ?_
    refine rv_if_ge (tgt := 13) d_Model_look_6 (by decide) (fun c_6 => ?_) (fun c_6 => ?_)
    · refine rv_aload_n d_Model_look_13 rfl 1 rfl ?_
      refine rv_iload_n d_Model_look_14 rfl 0 rfl ?_
      refine rv_aload_n d_Model_look_15 rfl 1 rfl ?_
      refine rv_get ka_Model hS.1 rfl 0 (by decide) (wi_Model_look _ (List.mem_of_getElem? (i := 0) rfl)) rfl d_Model_look_16 ?_
      refine rv_callV (kc' := 0) (ks' := 0) (kc1 := 0) (ks1 := 0) (As := [.int (nI t), .int (nI (mo_z S))]) (rest := []) hS.1 rfl (cf_Model_family hS hA (by omega) (by omega)) ok_Model_family (wi_Model_look _ (List.mem_of_getElem? (i := 6) rfl)) (wi_Model_look _ (List.mem_of_getElem? (i := 7) rfl)) (wi_Model_look _ (List.mem_of_getElem? (i := 8) rfl)) rfl rfl (Nat.le_of_ble_eq_true rfl) (Nat.le_of_ble_eq_true rfl) ⟨Nat.le_of_ble_eq_true rfl, Nat.le_of_ble_eq_true rfl⟩ d_Model_look_19 (rv_kv (fun hp106 ehp106 => ?_))
      obtain ⟨g, hg, hS1, ho1⟩ := ehp106
      have hA4 : hp106 (A 4) = some (.inl (ca 1, 42, .inr (.inl (mo_l S 4)))) := hS1.2.1 4 (by decide)
      have hA5 : hp106 (A 5) = some (.inl (ca 0, 42, .inl (mo_i S 5))) := hS1.2.1 5 (by decide)
      have hA6 : hp106 (A 6) = some (.inl (ca 0, 42, .inl (mo_i S 6))) := hS1.2.1 6 (by decide)
      have hA7 : hp106 (A 7) = some (.inl (ca 0, 42, .inl (mo_i S 7))) := hS1.2.1 7 (by decide)
      have hA1 : hp106 (A 1) = some (.inl (ca 0, 42, .inl (mo_i (mo_M S g) 1))) := hS1.2.1 1 (by decide)
      have hsp := hS1.2.2.1
      refine rv_iload_n d_Model_look_22 rfl 2 rfl ?_
      rcases sw_cases k0 9 (by decide) with ⟨k, hk, rfl⟩ | hx
      · rcases (show k = 0 ∨ k = 1 ∨ k = 2 ∨ k = 3 ∨ k = 4 ∨ k = 5 ∨ k = 6 ∨ k = 7 ∨ k = 8 ∨ k = 9 by omega) with rfl | rfl | rfl | rfl | rfl | rfl | rfl | rfl | rfl | rfl
        · refine rv_tblI (off := 53) (tgt := 76) d_Model_look_23 (by decide) (by decide) (by decide) (by decide) ?_
          refine rv_aload_n d_Model_look_76 rfl 1 rfl ?_
          refine rv_get ka_Model hS1.1 rfl 5 (by decide) (wi_Model_look _ (List.mem_of_getElem? (i := 9) rfl)) rfl d_Model_look_77 ?_
          refine rv_iload_n d_Model_look_80 rfl 0 rfl ?_
          refine rv_lald hA4 1 rfl (by omega) (by decide) d_Model_look_81 ?_
          exact rv_lreturn ⟨_, rfl, by rw [e]; rfl, ⟨g, hS1⟩, ho1⟩ d_Model_look_82 rfl
        · refine rv_tblI (off := 60) (tgt := 83) d_Model_look_23 (by decide) (by decide) (by decide) (by decide) ?_
          refine rv_aload_n d_Model_look_83 rfl 1 rfl ?_
          refine rv_get ka_Model hS1.1 rfl 6 (by decide) (wi_Model_look _ (List.mem_of_getElem? (i := 10) rfl)) rfl d_Model_look_84 ?_
          refine rv_iload_n d_Model_look_87 rfl 0 rfl ?_
          refine rv_iald hA5 0 rfl (by omega) (by decide) d_Model_look_88 ?_
          refine rv_i2l d_Model_look_89 ?_
          exact rv_lreturn ⟨_, rfl, by rw [e]; rfl, ⟨g, hS1⟩, ho1⟩ d_Model_look_90 rfl
        · refine rv_tblI (off := 68) (tgt := 91) d_Model_look_23 (by decide) (by decide) (by decide) (by decide) ?_
          refine rv_aload_n d_Model_look_91 rfl 1 rfl ?_
          refine rv_get ka_Model hS1.1 rfl 7 (by decide) (wi_Model_look _ (List.mem_of_getElem? (i := 11) rfl)) rfl d_Model_look_92 ?_
          refine rv_iload_n d_Model_look_95 rfl 0 rfl ?_
          refine rv_iald hA6 0 rfl (by omega) (by decide) d_Model_look_96 ?_
          refine rv_i2l d_Model_look_97 ?_
          exact rv_lreturn ⟨_, rfl, by rw [e]; rfl, ⟨g, hS1⟩, ho1⟩ d_Model_look_98 rfl
        · refine rv_tblI (off := 76) (tgt := 99) d_Model_look_23 (by decide) (by decide) (by decide) (by decide) ?_
          refine rv_aload_n d_Model_look_99 rfl 1 rfl ?_
          refine rv_get ka_Model hS1.1 rfl 2 (by decide) (wi_Model_look _ (List.mem_of_getElem? (i := 12) rfl)) rfl d_Model_look_100 ?_
          refine rv_iload_n d_Model_look_103 rfl 0 rfl ?_
          refine rv_iald hA1 0 rfl (by omega) (by decide) d_Model_look_104 ?_
          refine rv_eqi (y := nI (md_sp S t)) ((hsp t (by omega)).1) ?_
          refine rv_i2l d_Model_look_105 ?_
          exact rv_lreturn ⟨_, rfl, by rw [e]; rfl, ⟨g, hS1⟩, ho1⟩ d_Model_look_106 rfl
        · refine rv_tblI (off := 84) (tgt := 107) d_Model_look_23 (by decide) (by decide) (by decide) (by decide) ?_
          refine rv_aload_n d_Model_look_107 rfl 1 rfl ?_
          refine rv_iload_n d_Model_look_108 rfl 0 rfl ?_
          refine rv_iconst (v := nI 1) d_Model_look_109 (by decide) ?_
          refine rv_callV (kc' := 0) (ks' := 0) (kc1 := 0) (ks1 := 0) (As := [.int (nI t), .int (nI 1)]) (rest := []) hS1.1 rfl (c_Model_kin (t := t) (p := true) hS1 (by omega)) ok_Model_kin (wi_Model_look _ (List.mem_of_getElem? (i := 13) rfl)) (wi_Model_look _ (List.mem_of_getElem? (i := 14) rfl)) (wi_Model_look _ (List.mem_of_getElem? (i := 15) rfl)) rfl rfl (Nat.le_of_ble_eq_true rfl) (Nat.le_of_ble_eq_true rfl) ⟨Nat.le_of_ble_eq_true rfl, Nat.le_of_ble_eq_true rfl⟩ d_Model_look_110 (rv_kie ?_)
          refine rv_i2l d_Model_look_113 ?_
          exact rv_lreturn ⟨_, rfl, by rw [e]; rfl, ⟨g, hS1⟩, ho1⟩ d_Model_look_114 rfl
        · refine rv_tblI (off := 92) (tgt := 115) d_Model_look_23 (by decide) (by decide) (by decide) (by decide) ?_
          refine rv_aload_n d_Model_look_115 rfl 1 rfl ?_
          refine rv_iload_n d_Model_look_116 rfl 0 rfl ?_
          refine rv_iconst (v := nI 0) d_Model_look_117 (by decide) ?_
          refine rv_callV (kc' := 0) (ks' := 0) (kc1 := 0) (ks1 := 0) (As := [.int (nI t), .int (nI 0)]) (rest := []) hS1.1 rfl (c_Model_kin (t := t) (p := false) hS1 (by omega)) ok_Model_kin (wi_Model_look _ (List.mem_of_getElem? (i := 13) rfl)) (wi_Model_look _ (List.mem_of_getElem? (i := 14) rfl)) (wi_Model_look _ (List.mem_of_getElem? (i := 15) rfl)) rfl rfl (Nat.le_of_ble_eq_true rfl) (Nat.le_of_ble_eq_true rfl) ⟨Nat.le_of_ble_eq_true rfl, Nat.le_of_ble_eq_true rfl⟩ d_Model_look_118 (rv_kie ?_)
          refine rv_i2l d_Model_look_121 ?_
          exact rv_lreturn ⟨_, rfl, by rw [e]; rfl, ⟨g, hS1⟩, ho1⟩ d_Model_look_122 rfl
        · refine rv_tblI (off := 100) (tgt := 123) d_Model_look_23 (by decide) (by decide) (by decide) (by decide) ?_
          refine rv_goto (tgt := 150) d_Model_look_123 (by decide) ?_
          refine rv_iconst (v := nI 0) d_Model_look_150 (by decide) ?_
          refine rv_istore_n (lv' := [(3, .int (nI 0)), (2, .int (nI t)), (0, .ref x), (1, .int (nI 6))]) d_Model_look_151 rfl (by decide) rfl ?_
          refine rv_iconst (v := nI 0) d_Model_look_152 (by decide) ?_
          refine rv_istore (lv' := [(4, .int (nI 0)), (3, .int (nI 0)), (2, .int (nI t)), (0, .ref x), (1, .int (nI 6))]) d_Model_look_153 (by decide) rfl ?_
          refine rv_lv [0, 1, 2, 3, 4] rfl (c_Model_look_l (t := t) (k0 := nI 6) hS1 (mo_z S) 0 (nI 0) (Nat.zero_add _) ?_)
          refine rv_iload_n d_Model_look_188 rfl 1 rfl ?_
          refine rv_i2l d_Model_look_189 ?_
          exact rv_lreturn ⟨_, rfl, by rw [e]; exact congrArg Int32.toInt64 (md_cnt_like hg (by omega)), ⟨g, hS1⟩, ho1⟩ d_Model_look_190 rfl
        · refine rv_tblI (off := 103) (tgt := 126) d_Model_look_23 (by decide) (by decide) (by decide) (by decide) ?_
          refine rv_aload_n d_Model_look_126 rfl 1 rfl ?_
          refine rv_iconst (v := nI 1) d_Model_look_127 (by decide) ?_
          refine rv_callV (kc' := 0) (ks' := 0) (kc1 := 0) (ks1 := 0) (As := [.int (nI 1)]) (rest := []) hS1.1 rfl (c_Model_feesOf (m0 := true) hS1) ok_Model_feesOf (wi_Model_look _ (List.mem_of_getElem? (i := 16) rfl)) (wi_Model_look _ (List.mem_of_getElem? (i := 17) rfl)) (wi_Model_look _ (List.mem_of_getElem? (i := 18) rfl)) rfl rfl (Nat.le_of_ble_eq_true rfl) (Nat.le_of_ble_eq_true rfl) ⟨Nat.le_of_ble_eq_true rfl, Nat.le_of_ble_eq_true rfl⟩ d_Model_look_128 (rv_kle ?_)
          exact rv_lreturn ⟨_, rfl, by rw [e]; exact md_fees_like hg (by omega) true, ⟨g, hS1⟩, ho1⟩ d_Model_look_131 rfl
        · refine rv_tblI (off := 109) (tgt := 132) d_Model_look_23 (by decide) (by decide) (by decide) (by decide) ?_
          refine rv_aload_n d_Model_look_132 rfl 1 rfl ?_
          refine rv_iconst (v := nI 1) d_Model_look_133 (by decide) ?_
          refine rv_callV (kc' := 0) (ks' := 0) (kc1 := 0) (ks1 := 0) (As := [.int (nI 1)]) (rest := []) hS1.1 rfl (c_Model_sizesOf (m0 := true) hS1) ok_Model_sizesOf (wi_Model_look _ (List.mem_of_getElem? (i := 19) rfl)) (wi_Model_look _ (List.mem_of_getElem? (i := 20) rfl)) (wi_Model_look _ (List.mem_of_getElem? (i := 21) rfl)) rfl rfl (Nat.le_of_ble_eq_true rfl) (Nat.le_of_ble_eq_true rfl) ⟨Nat.le_of_ble_eq_true rfl, Nat.le_of_ble_eq_true rfl⟩ d_Model_look_134 (rv_kle ?_)
          exact rv_lreturn ⟨_, rfl, by rw [e]; exact md_sizes_like hg (by omega) true, ⟨g, hS1⟩, ho1⟩ d_Model_look_137 rfl
        · refine rv_tblI (off := 115) (tgt := 138) d_Model_look_23 (by decide) (by decide) (by decide) (by decide) ?_
          refine rv_aload_n d_Model_look_138 rfl 1 rfl ?_
          refine rv_get ka_Model hS1.1 rfl 8 (by decide) (wi_Model_look _ (List.mem_of_getElem? (i := 22) rfl)) rfl d_Model_look_139 ?_
          refine rv_iload_n d_Model_look_142 rfl 0 rfl ?_
          refine rv_iald hA7 0 rfl (by omega) (by decide) d_Model_look_143 ?_
          refine rv_i2l d_Model_look_144 ?_
          exact rv_lreturn ⟨_, rfl, by rw [e]; rfl, ⟨g, hS1⟩, ho1⟩ d_Model_look_145 rfl
      · refine rv_tblO (tgt := 146) d_Model_look_23 hx (by decide) ?_
        refine rv_ldc2 (v := (-1)) d_Model_look_146 (wi_Model_look _ (List.mem_of_getElem? (i := 5) rfl)) ?_
        exact rv_lreturn ⟨_, rfl, by rw [e, md_lookT_out hx], ⟨g, hS1⟩, ho1⟩ d_Model_look_149 rfl
    · exact absurd (nI_le (Nat.zero_le _) (by omega)) c_6
