def wl_Long_bitCount : List Cond := [.constantLong "java/lang/Long" 314 6148914691236517205, .constantLong "java/lang/Long" 316 3689348814741910323, .constantLong "java/lang/Long" 318 1085102592571150095]
theorem wi_Long_bitCount : ∀ w ∈ wl_Long_bitCount, w ∈ ma_tbl := by decide +kernel
def wl_Desk_has : List Cond := [.methodLink "PoolDesk" 68 y_Desk_bit, .static y_Desk_bit]
theorem wi_Desk_has : ∀ w ∈ wl_Desk_has, w ∈ ma_tbl := by decide +kernel
def wl_Name_init : List Cond := [.methodLink "PoolDesk$Name" 3 Lib.objectInit, .instanceMethod Lib.objectInit, .code Lib.objectInit ⟨#[0xb1]⟩ 1 none]
theorem wi_Name_init : ∀ w ∈ wl_Name_init, w ∈ ma_tbl := by decide +kernel
def wl_Name_set : List Cond := [.fieldLink "PoolDesk$Name" 9 "PoolDesk$Name" "a" "J", .fieldLink "PoolDesk$Name" 15 "PoolDesk$Name" "b" "J", .fieldLink "PoolDesk$Name" 18 "PoolDesk$Name" "c" "J", .fieldLink "PoolDesk$Name" 21 "PoolDesk$Name" "d" "J"]
theorem wi_Name_set : ∀ w ∈ wl_Name_set, w ∈ ma_tbl := by decide +kernel
def wl_Name_same : List Cond := [.fieldLink "PoolDesk$Name" 9 "PoolDesk$Name" "a" "J", .fieldLink "PoolDesk$Name" 15 "PoolDesk$Name" "b" "J", .fieldLink "PoolDesk$Name" 18 "PoolDesk$Name" "c" "J", .fieldLink "PoolDesk$Name" 21 "PoolDesk$Name" "d" "J"]
theorem wi_Name_same : ∀ w ∈ wl_Name_same, w ∈ ma_tbl := by decide +kernel
def wl_Name_write : List Cond := [.fieldLink "PoolDesk$Name" 9 "PoolDesk$Name" "a" "J", .fieldLink "PoolDesk$Name" 15 "PoolDesk$Name" "b" "J", .fieldLink "PoolDesk$Name" 18 "PoolDesk$Name" "c" "J", .fieldLink "PoolDesk$Name" 21 "PoolDesk$Name" "d" "J"]
theorem wi_Name_write : ∀ w ∈ wl_Name_write, w ∈ ma_tbl := by decide +kernel
def wl_Keys_isOf : List Cond := [.fieldLink "PoolDesk$Keys" 9 "PoolDesk$Keys" "words" "[J", .fieldLink "PoolDesk$Keys" 47 "PoolDesk$Name" "a" "J", .fieldLink "PoolDesk$Keys" 51 "PoolDesk$Name" "b" "J", .fieldLink "PoolDesk$Keys" 54 "PoolDesk$Name" "c" "J", .fieldLink "PoolDesk$Keys" 57 "PoolDesk$Name" "d" "J"]
theorem wi_Keys_isOf : ∀ w ∈ wl_Keys_isOf, w ∈ ma_tbl := by decide +kernel
def wl_Keys_bears : List Cond := [.fieldLink "PoolDesk$Keys" 19 "PoolDesk$Keys" "held" "I", .methodLink "PoolDesk$Keys" 39 y_Keys_isOf, .instanceMethod y_Keys_isOf, .selects "PoolDesk$Keys" y_Keys_isOf y_Keys_isOf]
theorem wi_Keys_bears : ∀ w ∈ wl_Keys_bears, w ∈ ma_tbl := by decide +kernel
def wl_Keys_contains : List Cond := [.fieldLink "PoolDesk$Keys" 19 "PoolDesk$Keys" "held" "I", .fieldLink "PoolDesk$Keys" 15 "PoolDesk$Keys" "indexes" "[I", .methodLink "PoolDesk$Keys" 39 y_Keys_isOf, .instanceMethod y_Keys_isOf, .selects "PoolDesk$Keys" y_Keys_isOf y_Keys_isOf]
theorem wi_Keys_contains : ∀ w ∈ wl_Keys_contains, w ∈ ma_tbl := by decide +kernel
def wl_Keys_misses : List Cond := [.fieldLink "PoolDesk$Keys" 19 "PoolDesk$Keys" "held" "I", .fieldLink "PoolDesk$Keys" 15 "PoolDesk$Keys" "indexes" "[I", .methodLink "PoolDesk$Keys" 39 y_Keys_isOf, .instanceMethod y_Keys_isOf, .selects "PoolDesk$Keys" y_Keys_isOf y_Keys_isOf]
theorem wi_Keys_misses : ∀ w ∈ wl_Keys_misses, w ∈ ma_tbl := by decide +kernel
def wl_Keys_sameName : List Cond := [.fieldLink "PoolDesk$Keys" 9 "PoolDesk$Keys" "words" "[J"]
theorem wi_Keys_sameName : ∀ w ∈ wl_Keys_sameName, w ∈ ma_tbl := by decide +kernel
def wl_Keys_containsOneOf : List Cond := [.fieldLink "PoolDesk$Keys" 19 "PoolDesk$Keys" "held" "I", .fieldLink "PoolDesk$Keys" 15 "PoolDesk$Keys" "indexes" "[I", .methodLink "PoolDesk$Keys" 43 y_Keys_sameName, .instanceMethod y_Keys_sameName, .selects "PoolDesk$Keys" y_Keys_sameName y_Keys_sameName]
theorem wi_Keys_containsOneOf : ∀ w ∈ wl_Keys_containsOneOf, w ∈ ma_tbl := by decide +kernel
set_option maxHeartbeats 4000000 in
set_option maxRecDepth 100000 in
theorem c_Long_compare {l : Launch} {D : va_G} {ca : Nat → ClassId} {hp : hp_T} {d : Nat} {x y : Int64} : ma_V l D ca ma_T M_Long_compare d 0 0 hp (ma_qi (ma_eq (lg_cmp x y) hp)) 0 (lv_args 0 [.long x, .long y]) [] := by
  change ma_V l D ca ma_T M_Long_compare d 0 0 hp (ma_qi (ma_eq (lg_cmp x y) hp)) 0 [(0, .long x), (2, .long y)] []
  refine rv_lload_n d_Long_compare_0 rfl 0 rfl ?_
  refine rv_lload_n d_Long_compare_1 rfl 1 rfl ?_
  refine rv_lcmp d_Long_compare_2 ?_
  refine rv_if_ge (tgt := 10) d_Long_compare_3 (by decide) (fun c_3 => ?_) (fun c_3 => ?_)
  · refine rv_lload_n d_Long_compare_10 rfl 0 rfl ?_
    refine rv_lload_n d_Long_compare_11 rfl 1 rfl ?_
    refine rv_lcmp d_Long_compare_12 ?_
    refine rv_if_ne (tgt := 20) d_Long_compare_13 (by decide) (fun c_13 => ?_) (fun c_13 => ?_)
    · have e : lg_cmp x y = nI 1 := by
        have h1 := (lg_cmp_ge _ _).mp c_3
        have h2 : ¬ x = y := fun z => c_13 (lc_0.mpr z)
        have h3 : y < x := by
          rcases Int64.lt_or_eq_of_le h1 with h | h
          · exact h
          · exact absurd h.symm h2
        unfold lg_cmp
        rw [if_pos h3]
        rfl
      refine rv_iconst (v := nI 1) d_Long_compare_20 (by decide) ?_
      exact rv_ireturn ⟨_, rfl, e.symm, rfl⟩ d_Long_compare_21 rfl rfl
    · have e : lg_cmp x y = nI 0 := c_13
      refine rv_iconst (v := nI 0) d_Long_compare_16 (by decide) ?_
      refine rv_goto (tgt := 21) d_Long_compare_17 (by decide) ?_
      exact rv_ireturn ⟨_, rfl, e.symm, rfl⟩ d_Long_compare_21 rfl rfl
  · have e : lg_cmp x y = -1 := by
      have h1 : x < y := Int64.not_le.mp (fun z => c_3 ((lg_cmp_ge _ _).mpr z))
      unfold lg_cmp
      rw [if_neg (Int64.not_lt.mpr (Int64.le_of_lt h1)), if_neg (Int64.ne_of_lt h1)]
    refine rv_iconst (v := (-1)) d_Long_compare_6 (by decide) ?_
    refine rv_goto (tgt := 21) d_Long_compare_7 (by decide) ?_
    exact rv_ireturn ⟨_, rfl, e.symm, rfl⟩ d_Long_compare_21 rfl rfl
set_option maxHeartbeats 4000000 in
set_option maxRecDepth 100000 in
theorem c_Long_bitCount {l : Launch} {D : va_G} {ca : Nat → ClassId} {hp : hp_T} {d : Nat} {x : Int64} : ma_V l D ca ma_T M_Long_bitCount d 0 0 hp (ma_qi (ma_eq (nI (bz_c x 64)) hp)) 0 (lv_args 0 [.long x]) [] := by
  change ma_V l D ca ma_T M_Long_bitCount d 0 0 hp (ma_qi (ma_eq (nI (bz_c x 64)) hp)) 0 [(0, .long x)] []
  refine rv_lload_n d_Long_bitCount_0 rfl 0 rfl ?_
  refine rv_lload_n d_Long_bitCount_1 rfl 0 rfl ?_
  refine rv_iconst (v := nI 1) d_Long_bitCount_2 (by decide) ?_
  refine rv_lushr d_Long_bitCount_3 ?_
  refine rv_ldc2 (v := 6148914691236517205) d_Long_bitCount_4 (wi_Long_bitCount _ (List.mem_of_getElem? (i := 0) rfl)) ?_
  refine rv_land d_Long_bitCount_7 ?_
  refine rv_lsub d_Long_bitCount_8 ?_
  refine rv_topl (fun x1 e1 => ?_)
  refine rv_lstore_n (lv' := [(0, .long x1)]) d_Long_bitCount_9 rfl (by decide) rfl ?_
  refine rv_lload_n d_Long_bitCount_10 rfl 0 rfl ?_
  refine rv_ldc2 (v := 3689348814741910323) d_Long_bitCount_11 (wi_Long_bitCount _ (List.mem_of_getElem? (i := 1) rfl)) ?_
  refine rv_land d_Long_bitCount_14 ?_
  refine rv_lload_n d_Long_bitCount_15 rfl 0 rfl ?_
  refine rv_iconst (v := nI 2) d_Long_bitCount_16 (by decide) ?_
  refine rv_lushr d_Long_bitCount_17 ?_
  refine rv_ldc2 (v := 3689348814741910323) d_Long_bitCount_18 (wi_Long_bitCount _ (List.mem_of_getElem? (i := 1) rfl)) ?_
  refine rv_land d_Long_bitCount_21 ?_
  refine rv_ladd d_Long_bitCount_22 ?_
  refine rv_topl (fun x2 e2 => ?_)
  refine rv_lstore_n (lv' := [(0, .long x2)]) d_Long_bitCount_23 rfl (by decide) rfl ?_
  refine rv_lload_n d_Long_bitCount_24 rfl 0 rfl ?_
  refine rv_lload_n d_Long_bitCount_25 rfl 0 rfl ?_
  refine rv_iconst (v := nI 4) d_Long_bitCount_26 (by decide) ?_
  refine rv_lushr d_Long_bitCount_27 ?_
  refine rv_ladd d_Long_bitCount_28 ?_
  refine rv_ldc2 (v := 1085102592571150095) d_Long_bitCount_29 (wi_Long_bitCount _ (List.mem_of_getElem? (i := 2) rfl)) ?_
  refine rv_land d_Long_bitCount_32 ?_
  refine rv_topl (fun x3 e3 => ?_)
  refine rv_lstore_n (lv' := [(0, .long x3)]) d_Long_bitCount_33 rfl (by decide) rfl ?_
  refine rv_lload_n d_Long_bitCount_34 rfl 0 rfl ?_
  refine rv_lload_n d_Long_bitCount_35 rfl 0 rfl ?_
  refine rv_bipush (v := nI 8) d_Long_bitCount_36 (by decide) ?_
  refine rv_lushr d_Long_bitCount_38 ?_
  refine rv_ladd d_Long_bitCount_39 ?_
  refine rv_topl (fun x4 e4 => ?_)
  refine rv_lstore_n (lv' := [(0, .long x4)]) d_Long_bitCount_40 rfl (by decide) rfl ?_
  refine rv_lload_n d_Long_bitCount_41 rfl 0 rfl ?_
  refine rv_lload_n d_Long_bitCount_42 rfl 0 rfl ?_
  refine rv_bipush (v := nI 16) d_Long_bitCount_43 (by decide) ?_
  refine rv_lushr d_Long_bitCount_45 ?_
  refine rv_ladd d_Long_bitCount_46 ?_
  refine rv_topl (fun x5 e5 => ?_)
  refine rv_lstore_n (lv' := [(0, .long x5)]) d_Long_bitCount_47 rfl (by decide) rfl ?_
  refine rv_lload_n d_Long_bitCount_48 rfl 0 rfl ?_
  refine rv_lload_n d_Long_bitCount_49 rfl 0 rfl ?_
  refine rv_bipush (v := nI 32) d_Long_bitCount_50 (by decide) ?_
  refine rv_lushr d_Long_bitCount_52 ?_
  refine rv_ladd d_Long_bitCount_53 ?_
  refine rv_topl (fun x6 e6 => ?_)
  refine rv_lstore_n (lv' := [(0, .long x6)]) d_Long_bitCount_54 rfl (by decide) rfl ?_
  refine rv_lload_n d_Long_bitCount_55 rfl 0 rfl ?_
  refine rv_l2i d_Long_bitCount_56 ?_
  refine rv_bipush (v := nI 127) d_Long_bitCount_57 (by decide) ?_
  refine rv_iand d_Long_bitCount_59 ?_
  exact rv_ireturn ⟨_, rfl, pc_main e1 e2 e3 e4 e5 e6, rfl⟩ d_Long_bitCount_60 rfl rfl
set_option maxHeartbeats 4000000 in
set_option maxRecDepth 100000 in
theorem c_Desk_bit {l : Launch} {D : va_G} {ca : Nat → ClassId} {hp : hp_T} {d : Nat} {p : Nat} : ma_V l D ca ma_T M_Desk_bit d 0 0 hp (ma_ql (ma_eq (bz_b p) hp)) 0 (lv_args 0 [.int (nI p)]) [] := by
  change ma_V l D ca ma_T M_Desk_bit d 0 0 hp (ma_ql (ma_eq (bz_b p) hp)) 0 [(0, .int (nI p))] []
  refine rv_lconst (v := 1) d_Desk_bit_0 (by decide) ?_
  refine rv_iload_n d_Desk_bit_1 rfl 0 rfl ?_
  refine rv_lshl d_Desk_bit_2 ?_
  exact rv_lreturn ⟨_, rfl, rfl, rfl⟩ d_Desk_bit_3 rfl
set_option maxHeartbeats 4000000 in
set_option maxRecDepth 100000 in
theorem c_Desk_has {l : Launch} {D : va_G} {ca : Nat → ClassId} {hp : hp_T} {d : Nat} {x : Int64} {p : Nat} (h : p < 64) : ma_V l D ca ma_T M_Desk_has (d + 1) 0 0 hp (ma_qi (ma_eq (bI (bz_t x p)) hp)) 0 (lv_args 0 [.long x, .int (nI p)]) [] := by
  change ma_V l D ca ma_T M_Desk_has (d + 1) 0 0 hp (ma_qi (ma_eq (bI (bz_t x p)) hp)) 0 [(0, .long x), (2, .int (nI p))] []
  refine rv_lload_n d_Desk_has_0 rfl 0 rfl ?_
  refine rv_iload_n d_Desk_has_1 rfl 1 rfl ?_
  refine rv_callS (kc' := 0) (ks' := 0) (kc1 := 0) (ks1 := 0) (As := [.int (nI p)]) (rest := [.long x]) (c_Desk_bit) ok_Desk_bit (wi_Desk_has _ (List.mem_of_getElem? (i := 0) rfl)) (wi_Desk_has _ (List.mem_of_getElem? (i := 1) rfl)) rfl rfl (Nat.le_of_ble_eq_true rfl) (Nat.le_of_ble_eq_true rfl) ⟨Nat.le_of_ble_eq_true rfl, Nat.le_of_ble_eq_true rfl⟩ d_Desk_has_2 (rv_kle ?_)
  refine rv_land d_Desk_has_5 ?_
  refine rv_lconst (v := 0) d_Desk_has_6 (by decide) ?_
  refine rv_lcmp d_Desk_has_7 ?_
  refine rv_if_eq (tgt := 15) d_Desk_has_8 (by decide) (fun c_8 => ?_) (fun c_8 => ?_)
  · have e : bz_t x p = false := (bz_has h).mp (lc_0.mp c_8)
    refine rv_iconst (v := nI 0) d_Desk_has_15 (by decide) ?_
    refine rv_eqi (y := bI (bz_t x p)) (by rw [e]; rfl) ?_
    exact rv_ireturn ⟨_, rfl, rfl, rfl⟩ d_Desk_has_16 rfl (bI_nar _)
  · have e : bz_t x p = true := by
      cases q : bz_t x p with
      | true => rfl
      | false => exact absurd (lc_0.mpr ((bz_has h).mpr q)) c_8
    refine rv_iconst (v := nI 1) d_Desk_has_11 (by decide) ?_
    refine rv_goto (tgt := 16) d_Desk_has_12 (by decide) ?_
    refine rv_eqi (y := bI (bz_t x p)) (by rw [e]; rfl) ?_
    exact rv_ireturn ⟨_, rfl, rfl, rfl⟩ d_Desk_has_16 rfl (bI_nar _)
set_option maxHeartbeats 4000000 in
set_option maxRecDepth 100000 in
theorem c_Name_init {l : Launch} {D : va_G} {ca : Nat → ClassId} {hp : hp_T} {d : Nat} {a : Nat} : ma_V l D ca ma_T M_Name_init (d + 1) 0 0 hp (ma_qv (fun hp1 => hp1 = hp)) 0 (lv_args 0 [.ref a]) [] := by
  change ma_V l D ca ma_T M_Name_init (d + 1) 0 0 hp (ma_qv (fun hp1 => hp1 = hp)) 0 [(0, .ref a)] []
  refine rv_aload_n d_Name_init_0 rfl 0 rfl ?_
  refine rv_obj (wi_Name_init _ (List.mem_of_getElem? (i := 0) rfl)) (wi_Name_init _ (List.mem_of_getElem? (i := 1) rfl)) (wi_Name_init _ (List.mem_of_getElem? (i := 2) rfl)) (Nat.le_of_ble_eq_true rfl) d_Name_init_1 ?_
  exact rv_vreturn ⟨rfl, rfl⟩ d_Name_init_4 rfl
set_option maxHeartbeats 4000000 in
set_option maxRecDepth 100000 in
theorem c_Name_set {l : Launch} {D : va_G} {ca : Nat → ClassId} {hp : hp_T} {d : Nat} {a : Nat} {n m : nm_T} (h0 : hp a = some (.inr (0, nm_F n))) : ma_V l D ca ma_T M_Name_set d 0 0 hp (ma_qv (fun hp1 => hp1 = hp_up hp a (.inr (0, nm_F m)))) 0 (lv_args 0 [.ref a, .long m.1, .long m.2.1, .long m.2.2.1, .long m.2.2.2]) [] := by
  change ma_V l D ca ma_T M_Name_set d 0 0 hp (ma_qv (fun hp1 => hp1 = hp_up hp a (.inr (0, nm_F m)))) 0 [(0, .ref a), (1, .long m.1), (3, .long m.2.1), (5, .long m.2.2.1), (7, .long m.2.2.2)] []
  refine rv_aload_n d_Name_set_0 rfl 0 rfl ?_
  refine rv_lload_n d_Name_set_1 rfl 1 rfl ?_
  refine rv_put (fs' := [.long m.1, .long n.2.1, .long n.2.2.1, .long n.2.2.2]) ka_Name h0 rfl 0 (by decide) (wi_Name_set _ (List.mem_of_getElem? (i := 0) rfl)) rfl rfl rfl (Nat.le_of_ble_eq_true rfl) rfl d_Name_set_2
    (fun hp1 ehp1 => ?_)
  have hf1_0 : hp1 a = some (.inr (0, [.long m.1, .long n.2.1, .long n.2.2.1, .long n.2.2.2])) := by rw [ehp1]; exact hp_us
  refine rv_aload_n d_Name_set_5 rfl 0 rfl ?_
  refine rv_lload_n d_Name_set_6 rfl 2 rfl ?_
  refine rv_put (fs' := [.long m.1, .long m.2.1, .long n.2.2.1, .long n.2.2.2]) ka_Name hf1_0 rfl 1 (by decide) (wi_Name_set _ (List.mem_of_getElem? (i := 1) rfl)) rfl rfl rfl (Nat.le_of_ble_eq_true rfl) rfl d_Name_set_7
    (fun hp2 ehp2 => ?_)
  have hf2_0 : hp2 a = some (.inr (0, [.long m.1, .long m.2.1, .long n.2.2.1, .long n.2.2.2])) := by rw [ehp2]; exact hp_us
  refine rv_aload_n d_Name_set_10 rfl 0 rfl ?_
  refine rv_lload d_Name_set_11 3 rfl ?_
  refine rv_put (fs' := [.long m.1, .long m.2.1, .long m.2.2.1, .long n.2.2.2]) ka_Name hf2_0 rfl 2 (by decide) (wi_Name_set _ (List.mem_of_getElem? (i := 2) rfl)) rfl rfl rfl (Nat.le_of_ble_eq_true rfl) rfl d_Name_set_13
    (fun hp3 ehp3 => ?_)
  have hf3_0 : hp3 a = some (.inr (0, [.long m.1, .long m.2.1, .long m.2.2.1, .long n.2.2.2])) := by rw [ehp3]; exact hp_us
  refine rv_aload_n d_Name_set_16 rfl 0 rfl ?_
  refine rv_lload d_Name_set_17 4 rfl ?_
  refine rv_put (fs' := [.long m.1, .long m.2.1, .long m.2.2.1, .long m.2.2.2]) ka_Name hf3_0 rfl 3 (by decide) (wi_Name_set _ (List.mem_of_getElem? (i := 3) rfl)) rfl rfl rfl (Nat.le_of_ble_eq_true rfl) rfl d_Name_set_19
    (fun hp4 ehp4 => ?_)
  have hf4_0 : hp4 a = some (.inr (0, [.long m.1, .long m.2.1, .long m.2.2.1, .long m.2.2.2])) := by rw [ehp4]; exact hp_us
  refine rv_vreturn ⟨rfl, ?_⟩ d_Name_set_22 rfl
  rw [ehp4, ehp3, ehp2, ehp1, hp_uu, hp_uu, hp_uu]
set_option maxHeartbeats 4000000 in
set_option maxRecDepth 100000 in
theorem c_Name_same {l : Launch} {D : va_G} {ca : Nat → ClassId} {hp : hp_T} {d : Nat} {a b : Nat} {n m : nm_T} (h0 : hp a = some (.inr (0, nm_F n))) (h1 : hp b = some (.inr (0, nm_F m))) : ma_V l D ca ma_T M_Name_same d 0 0 hp (ma_qi (ma_eq (bI (decide (n = m))) hp)) 0 (lv_args 0 [.ref a, .ref b]) [] := by
  change ma_V l D ca ma_T M_Name_same d 0 0 hp (ma_qi (ma_eq (bI (decide (n = m))) hp)) 0 [(0, .ref a), (1, .ref b)] []
  refine rv_aload_n d_Name_same_0 rfl 0 rfl ?_
  refine rv_get ka_Name h0 rfl 0 (by decide) (wi_Name_same _ (List.mem_of_getElem? (i := 0) rfl)) rfl d_Name_same_1 ?_
  refine rv_aload_n d_Name_same_4 rfl 1 rfl ?_
  refine rv_get ka_Name h1 rfl 0 (by decide) (wi_Name_same _ (List.mem_of_getElem? (i := 0) rfl)) rfl d_Name_same_5 ?_
  refine rv_lcmp d_Name_same_8 ?_
  refine rv_if_ne (tgt := 52) d_Name_same_9 (by decide) (fun c_9 => ?_) (fun c_9 => ?_)
  · have e : decide (n = m) = false := decide_eq_false (fun q => c_9 (lc_0.mpr (by rw [q])))
    refine rv_iconst (v := nI 0) d_Name_same_52 (by decide) ?_
    refine rv_eqi (y := bI (decide (n = m))) (by rw [e]; rfl) ?_
    exact rv_ireturn ⟨_, rfl, rfl, rfl⟩ d_Name_same_53 rfl (bI_nar _)
  · have q0 := lc_0.mp c_9
    refine rv_aload_n d_Name_same_12 rfl 0 rfl ?_
    refine rv_get ka_Name h0 rfl 1 (by decide) (wi_Name_same _ (List.mem_of_getElem? (i := 1) rfl)) rfl d_Name_same_13 ?_
    refine rv_aload_n d_Name_same_16 rfl 1 rfl ?_
    refine rv_get ka_Name h1 rfl 1 (by decide) (wi_Name_same _ (List.mem_of_getElem? (i := 1) rfl)) rfl d_Name_same_17 ?_
    refine rv_lcmp d_Name_same_20 ?_
    refine rv_if_ne (tgt := 52) d_Name_same_21 (by decide) (fun c_21 => ?_) (fun c_21 => ?_)
    · have e : decide (n = m) = false := decide_eq_false (fun q => c_21 (lc_0.mpr (by rw [q])))
      refine rv_iconst (v := nI 0) d_Name_same_52 (by decide) ?_
      refine rv_eqi (y := bI (decide (n = m))) (by rw [e]; rfl) ?_
      exact rv_ireturn ⟨_, rfl, rfl, rfl⟩ d_Name_same_53 rfl (bI_nar _)
    · have q1 := lc_0.mp c_21
      refine rv_aload_n d_Name_same_24 rfl 0 rfl ?_
      refine rv_get ka_Name h0 rfl 2 (by decide) (wi_Name_same _ (List.mem_of_getElem? (i := 2) rfl)) rfl d_Name_same_25 ?_
      refine rv_aload_n d_Name_same_28 rfl 1 rfl ?_
      refine rv_get ka_Name h1 rfl 2 (by decide) (wi_Name_same _ (List.mem_of_getElem? (i := 2) rfl)) rfl d_Name_same_29 ?_
      refine rv_lcmp d_Name_same_32 ?_
      refine rv_if_ne (tgt := 52) d_Name_same_33 (by decide) (fun c_33 => ?_) (fun c_33 => ?_)
      · have e : decide (n = m) = false := decide_eq_false (fun q => c_33 (lc_0.mpr (by rw [q])))
        refine rv_iconst (v := nI 0) d_Name_same_52 (by decide) ?_
        refine rv_eqi (y := bI (decide (n = m))) (by rw [e]; rfl) ?_
        exact rv_ireturn ⟨_, rfl, rfl, rfl⟩ d_Name_same_53 rfl (bI_nar _)
      · have q2 := lc_0.mp c_33
        refine rv_aload_n d_Name_same_36 rfl 0 rfl ?_
        refine rv_get ka_Name h0 rfl 3 (by decide) (wi_Name_same _ (List.mem_of_getElem? (i := 3) rfl)) rfl d_Name_same_37 ?_
        refine rv_aload_n d_Name_same_40 rfl 1 rfl ?_
        refine rv_get ka_Name h1 rfl 3 (by decide) (wi_Name_same _ (List.mem_of_getElem? (i := 3) rfl)) rfl d_Name_same_41 ?_
        refine rv_lcmp d_Name_same_44 ?_
        refine rv_if_ne (tgt := 52) d_Name_same_45 (by decide) (fun c_45 => ?_) (fun c_45 => ?_)
        · have e : decide (n = m) = false := decide_eq_false (fun q => c_45 (lc_0.mpr (by rw [q])))
          refine rv_iconst (v := nI 0) d_Name_same_52 (by decide) ?_
          refine rv_eqi (y := bI (decide (n = m))) (by rw [e]; rfl) ?_
          exact rv_ireturn ⟨_, rfl, rfl, rfl⟩ d_Name_same_53 rfl (bI_nar _)
        · have q3 := lc_0.mp c_45
          have e : decide (n = m) = true := decide_eq_true (nm_of q0 q1 q2 q3)
          refine rv_iconst (v := nI 1) d_Name_same_48 (by decide) ?_
          refine rv_goto (tgt := 53) d_Name_same_49 (by decide) ?_
          refine rv_eqi (y := bI (decide (n = m))) (by rw [e]; rfl) ?_
          exact rv_ireturn ⟨_, rfl, rfl, rfl⟩ d_Name_same_53 rfl (bI_nar _)
set_option maxHeartbeats 4000000 in
set_option maxRecDepth 100000 in
theorem c_Name_write {l : Launch} {D : va_G} {ca : Nat → ClassId} {hp : hp_T} {d : Nat} {a w N j : Nat} {n : nm_T} {f : Nat → Int64} (h0 : hp a = some (.inr (0, nm_F n))) (h1 : hp w = some (.inl (ca 1, N, .inr (.inl f)))) (hN : N < 65536) (hj : j + 4 ≤ N) : ma_V l D ca ma_T M_Name_write d 0 0 hp (ma_qv (fun hp1 => hp1 = hp_up hp w (.inl (ca 1, N, .inr (.inl (kx_w f j n)))))) 0 (lv_args 0 [.ref a, .ref w, .int (nI j)]) [] := by
  change ma_V l D ca ma_T M_Name_write d 0 0 hp (ma_qv (fun hp1 => hp1 = hp_up hp w (.inl (ca 1, N, .inr (.inl (kx_w f j n)))))) 0 [(0, .ref a), (1, .ref w), (2, .int (nI j))] []
  refine rv_iload_n d_Name_write_0 rfl 2 rfl ?_
  refine rv_if_lt (tgt := 12) d_Name_write_1 (by decide) (fun c_1 => ?_) (fun c_1 => ?_)
  · exact absurd c_1 (nI_pos (by omega))
  · refine rv_iload_n d_Name_write_4 rfl 2 rfl ?_
    refine rv_aload_n d_Name_write_5 rfl 1 rfl ?_
    refine rv_alen h1 1 rfl d_Name_write_6 ?_
    refine rv_iconst (v := nI 4) d_Name_write_7 (by decide) ?_
    refine rv_isub d_Name_write_8 ?_
    refine rv_eqi (y := nI (N - 4)) (pk_sub (by omega)) ?_
    refine rv_icmp_le (tgt := 13) d_Name_write_9 (by decide) (fun c_9 => ?_) (fun c_9 => ?_)
    · refine rv_aload_n d_Name_write_13 rfl 1 rfl ?_
      refine rv_iload_n d_Name_write_14 rfl 2 rfl ?_
      refine rv_aload_n d_Name_write_15 rfl 0 rfl ?_
      refine rv_get ka_Name h0 rfl 0 (by decide) (wi_Name_write _ (List.mem_of_getElem? (i := 0) rfl)) rfl d_Name_write_16 ?_
      refine rv_last h1 1 rfl (by omega) (by omega) d_Name_write_19
        (fun hp5 ehp5 => ?_)
      have hf5_0 : hp5 a = some (.inr (0, [.long n.1, .long n.2.1, .long n.2.2.1, .long n.2.2.2])) := by rw [ehp5, hp_un (hp_ne h0 h1 (fun q => by first | cases q | simp at q))]; exact h0
      have hf5_1 : hp5 w = some (.inl (ca 1, N, .inr (.inl (vp_updL f j n.1)))) := by rw [ehp5]; exact hp_us
      refine rv_aload_n d_Name_write_20 rfl 1 rfl ?_
      refine rv_iload_n d_Name_write_21 rfl 2 rfl ?_
      refine rv_iconst (v := nI 1) d_Name_write_22 (by decide) ?_
      refine rv_iadd d_Name_write_23 ?_
      refine rv_eqi (nI_add _ _) ?_
      refine rv_aload_n d_Name_write_24 rfl 0 rfl ?_
      refine rv_get ka_Name hf5_0 rfl 1 (by decide) (wi_Name_write _ (List.mem_of_getElem? (i := 1) rfl)) rfl d_Name_write_25 ?_
      refine rv_last hf5_1 1 rfl (by omega) (by omega) d_Name_write_28
        (fun hp6 ehp6 => ?_)
      have hf6_0 : hp6 a = some (.inr (0, [.long n.1, .long n.2.1, .long n.2.2.1, .long n.2.2.2])) := by rw [ehp6, hp_un (hp_ne hf5_0 hf5_1 (fun q => by first | cases q | simp at q))]; exact hf5_0
      have hf6_1 : hp6 w = some (.inl (ca 1, N, .inr (.inl (vp_updL (vp_updL f j n.1) (j + 1) n.2.1)))) := by rw [ehp6]; exact hp_us
      refine rv_aload_n d_Name_write_29 rfl 1 rfl ?_
      refine rv_iload_n d_Name_write_30 rfl 2 rfl ?_
      refine rv_iconst (v := nI 2) d_Name_write_31 (by decide) ?_
      refine rv_iadd d_Name_write_32 ?_
      refine rv_eqi (nI_add _ _) ?_
      refine rv_aload_n d_Name_write_33 rfl 0 rfl ?_
      refine rv_get ka_Name hf6_0 rfl 2 (by decide) (wi_Name_write _ (List.mem_of_getElem? (i := 2) rfl)) rfl d_Name_write_34 ?_
      refine rv_last hf6_1 1 rfl (by omega) (by omega) d_Name_write_37
        (fun hp7 ehp7 => ?_)
      have hf7_0 : hp7 a = some (.inr (0, [.long n.1, .long n.2.1, .long n.2.2.1, .long n.2.2.2])) := by rw [ehp7, hp_un (hp_ne hf6_0 hf6_1 (fun q => by first | cases q | simp at q))]; exact hf6_0
      have hf7_1 : hp7 w = some (.inl (ca 1, N, .inr (.inl (vp_updL (vp_updL (vp_updL f j n.1) (j + 1) n.2.1) (j + 2) n.2.2.1)))) := by rw [ehp7]; exact hp_us
      refine rv_aload_n d_Name_write_38 rfl 1 rfl ?_
      refine rv_iload_n d_Name_write_39 rfl 2 rfl ?_
      refine rv_iconst (v := nI 3) d_Name_write_40 (by decide) ?_
      refine rv_iadd d_Name_write_41 ?_
      refine rv_eqi (nI_add _ _) ?_
      refine rv_aload_n d_Name_write_42 rfl 0 rfl ?_
      refine rv_get ka_Name hf7_0 rfl 3 (by decide) (wi_Name_write _ (List.mem_of_getElem? (i := 3) rfl)) rfl d_Name_write_43 ?_
      refine rv_last hf7_1 1 rfl (by omega) (by omega) d_Name_write_46
        (fun hp8 ehp8 => ?_)
      have hf8_0 : hp8 a = some (.inr (0, [.long n.1, .long n.2.1, .long n.2.2.1, .long n.2.2.2])) := by rw [ehp8, hp_un (hp_ne hf7_0 hf7_1 (fun q => by first | cases q | simp at q))]; exact hf7_0
      have hf8_1 : hp8 w = some (.inl (ca 1, N, .inr (.inl (vp_updL (vp_updL (vp_updL (vp_updL f j n.1) (j + 1) n.2.1) (j + 2) n.2.2.1) (j + 3) n.2.2.2)))) := by rw [ehp8]; exact hp_us
      refine rv_vreturn ⟨rfl, ?_⟩ d_Name_write_47 rfl
      rw [ehp8, ehp7, ehp6, ehp5, hp_uu, hp_uu, hp_uu]
      rfl
    · exact absurd (nI_le (by omega) (by omega)) c_9
set_option maxHeartbeats 4000000 in
set_option maxRecDepth 100000 in
theorem c_Keys_isOf {l : Launch} {D : va_G} {ca : Nat → ClassId} {hp : hp_T} {d : Nat} {k w i b n j : Nat} {m : nm_T} {f : Nat → Int64} (hk : hp k = some (.inr (1, [.ref w, .ref i, .int (nI n)]))) (hw : hp w = some (.inl (ca 1, 32, .inr (.inl f)))) (hb : hp b = some (.inr (0, nm_F m))) (hj : j < 8) : ma_V l D ca ma_T M_Keys_isOf d 0 0 hp (ma_qi (ma_eq (bI (decide (kx_n f j = m))) hp)) 0 (lv_args 0 [.ref k, .int (nI j), .ref b]) [] := by
  change ma_V l D ca ma_T M_Keys_isOf d 0 0 hp (ma_qi (ma_eq (bI (decide (kx_n f j = m))) hp)) 0 [(0, .ref k), (1, .int (nI j)), (2, .ref b)] []
  refine rv_iload_n d_Keys_isOf_0 rfl 1 rfl ?_
  refine rv_iconst (v := nI 4) d_Keys_isOf_1 (by decide) ?_
  refine rv_imul d_Keys_isOf_2 ?_
  refine rv_eqi (pk_mul _ _) ?_
  refine rv_istore_n (lv' := [(3, .int (nI (j * 4))), (0, .ref k), (1, .int (nI j)), (2, .ref b)]) d_Keys_isOf_3 rfl (by decide) rfl ?_
  refine rv_aload_n d_Keys_isOf_4 rfl 1 rfl ?_
  refine rv_get ka_Keys hk rfl 0 (by decide) (wi_Keys_isOf _ (List.mem_of_getElem? (i := 0) rfl)) rfl d_Keys_isOf_5 ?_
  refine rv_iload_n d_Keys_isOf_8 rfl 0 rfl ?_
  refine rv_lald hw 1 rfl (by omega) (by decide) d_Keys_isOf_9 ?_
  refine rv_aload_n d_Keys_isOf_10 rfl 3 rfl ?_
  refine rv_get ka_Name hb rfl 0 (by decide) (wi_Keys_isOf _ (List.mem_of_getElem? (i := 1) rfl)) rfl d_Keys_isOf_11 ?_
  refine rv_lcmp d_Keys_isOf_14 ?_
  refine rv_if_ne (tgt := 70) d_Keys_isOf_15 (by decide) (fun c_15 => ?_) (fun c_15 => ?_)
  · have e : decide (kx_n f j = m) = false := decide_eq_false (fun q => c_15 (lc_0.mpr (by rw [← q]; rfl)))
    refine rv_iconst (v := nI 0) d_Keys_isOf_70 (by decide) ?_
    refine rv_eqi (y := bI (decide (kx_n f j = m))) (by rw [e]; rfl) ?_
    exact rv_ireturn ⟨_, rfl, rfl, rfl⟩ d_Keys_isOf_71 rfl (bI_nar _)
  · have q0 := lc_0.mp c_15
    refine rv_aload_n d_Keys_isOf_18 rfl 1 rfl ?_
    refine rv_get ka_Keys hk rfl 0 (by decide) (wi_Keys_isOf _ (List.mem_of_getElem? (i := 0) rfl)) rfl d_Keys_isOf_19 ?_
    refine rv_iload_n d_Keys_isOf_22 rfl 0 rfl ?_
    refine rv_iconst (v := nI 1) d_Keys_isOf_23 (by decide) ?_
    refine rv_iadd d_Keys_isOf_24 ?_
    refine rv_eqi (nI_add _ _) ?_
    refine rv_lald hw 1 rfl (by omega) (by decide) d_Keys_isOf_25 ?_
    refine rv_aload_n d_Keys_isOf_26 rfl 3 rfl ?_
    refine rv_get ka_Name hb rfl 1 (by decide) (wi_Keys_isOf _ (List.mem_of_getElem? (i := 2) rfl)) rfl d_Keys_isOf_27 ?_
    refine rv_lcmp d_Keys_isOf_30 ?_
    refine rv_if_ne (tgt := 70) d_Keys_isOf_31 (by decide) (fun c_31 => ?_) (fun c_31 => ?_)
    · have e : decide (kx_n f j = m) = false := decide_eq_false (fun q => c_31 (lc_0.mpr (by rw [← q]; rfl)))
      refine rv_iconst (v := nI 0) d_Keys_isOf_70 (by decide) ?_
      refine rv_eqi (y := bI (decide (kx_n f j = m))) (by rw [e]; rfl) ?_
      exact rv_ireturn ⟨_, rfl, rfl, rfl⟩ d_Keys_isOf_71 rfl (bI_nar _)
    · have q1 := lc_0.mp c_31
      refine rv_aload_n d_Keys_isOf_34 rfl 1 rfl ?_
      refine rv_get ka_Keys hk rfl 0 (by decide) (wi_Keys_isOf _ (List.mem_of_getElem? (i := 0) rfl)) rfl d_Keys_isOf_35 ?_
      refine rv_iload_n d_Keys_isOf_38 rfl 0 rfl ?_
      refine rv_iconst (v := nI 2) d_Keys_isOf_39 (by decide) ?_
      refine rv_iadd d_Keys_isOf_40 ?_
      refine rv_eqi (nI_add _ _) ?_
      refine rv_lald hw 1 rfl (by omega) (by decide) d_Keys_isOf_41 ?_
      refine rv_aload_n d_Keys_isOf_42 rfl 3 rfl ?_
      refine rv_get ka_Name hb rfl 2 (by decide) (wi_Keys_isOf _ (List.mem_of_getElem? (i := 3) rfl)) rfl d_Keys_isOf_43 ?_
      refine rv_lcmp d_Keys_isOf_46 ?_
      refine rv_if_ne (tgt := 70) d_Keys_isOf_47 (by decide) (fun c_47 => ?_) (fun c_47 => ?_)
      · have e : decide (kx_n f j = m) = false := decide_eq_false (fun q => c_47 (lc_0.mpr (by rw [← q]; rfl)))
        refine rv_iconst (v := nI 0) d_Keys_isOf_70 (by decide) ?_
        refine rv_eqi (y := bI (decide (kx_n f j = m))) (by rw [e]; rfl) ?_
        exact rv_ireturn ⟨_, rfl, rfl, rfl⟩ d_Keys_isOf_71 rfl (bI_nar _)
      · have q2 := lc_0.mp c_47
        refine rv_aload_n d_Keys_isOf_50 rfl 1 rfl ?_
        refine rv_get ka_Keys hk rfl 0 (by decide) (wi_Keys_isOf _ (List.mem_of_getElem? (i := 0) rfl)) rfl d_Keys_isOf_51 ?_
        refine rv_iload_n d_Keys_isOf_54 rfl 0 rfl ?_
        refine rv_iconst (v := nI 3) d_Keys_isOf_55 (by decide) ?_
        refine rv_iadd d_Keys_isOf_56 ?_
        refine rv_eqi (nI_add _ _) ?_
        refine rv_lald hw 1 rfl (by omega) (by decide) d_Keys_isOf_57 ?_
        refine rv_aload_n d_Keys_isOf_58 rfl 3 rfl ?_
        refine rv_get ka_Name hb rfl 3 (by decide) (wi_Keys_isOf _ (List.mem_of_getElem? (i := 4) rfl)) rfl d_Keys_isOf_59 ?_
        refine rv_lcmp d_Keys_isOf_62 ?_
        refine rv_if_ne (tgt := 70) d_Keys_isOf_63 (by decide) (fun c_63 => ?_) (fun c_63 => ?_)
        · have e : decide (kx_n f j = m) = false := decide_eq_false (fun q => c_63 (lc_0.mpr (by rw [← q]; rfl)))
          refine rv_iconst (v := nI 0) d_Keys_isOf_70 (by decide) ?_
          refine rv_eqi (y := bI (decide (kx_n f j = m))) (by rw [e]; rfl) ?_
          exact rv_ireturn ⟨_, rfl, rfl, rfl⟩ d_Keys_isOf_71 rfl (bI_nar _)
        · have q3 := lc_0.mp c_63
          have e : decide (kx_n f j = m) = true := decide_eq_true (nm_of q0 q1 q2 q3)
          refine rv_iconst (v := nI 1) d_Keys_isOf_66 (by decide) ?_
          refine rv_goto (tgt := 71) d_Keys_isOf_67 (by decide) ?_
          refine rv_eqi (y := bI (decide (kx_n f j = m))) (by rw [e]; rfl) ?_
          exact rv_ireturn ⟨_, rfl, rfl, rfl⟩ d_Keys_isOf_71 rfl (bI_nar _)
set_option maxHeartbeats 4000000 in
set_option maxRecDepth 100000 in
theorem c_Keys_bears_l {l : Launch} {D : va_G} {ca : Nat → ClassId} {hp : hp_T} {d : Nat} {k w i0 b n : Nat} {m0 : nm_T} {f : Nat → Int64} {g : Nat → Int32} (hk : hp k = some (.inr (1, [.ref w, .ref i0, .int (nI n)]))) (hw : hp w = some (.inl (ca 1, 32, .inr (.inl f)))) (hi0 : hp i0 = some (.inl (ca 0, 8, .inl g))) (hn : n ≤ 8) (hb : hp b = some (.inr (0, nm_F m0))) : ∀ (m i : Nat), i + m = n → ma_V l D ca ma_T M_Keys_bears (d + 1) 0 0 hp (ma_qi (ma_eq (bI (lp_any (fun j => decide (kx_n f j = m0)) m i)) hp)) 2 [(2, .int (nI i)), (0, .ref k), (1, .ref b)] [] := by
  intro m
  induction m with
  | zero =>
    intro i hi
    refine rv_iload_n d_Keys_bears_2 rfl 0 rfl ?_
    refine rv_aload_n d_Keys_bears_3 rfl 1 rfl ?_
    refine rv_get ka_Keys hk rfl 2 (by decide) (wi_Keys_bears _ (List.mem_of_getElem? (i := 0) rfl)) rfl d_Keys_bears_4 ?_
    refine rv_icmp_ge (tgt := 27) d_Keys_bears_7 (by decide) (fun c_7 => ?_) (fun c_7 => ?_)
    · refine rv_iconst (v := nI 0) d_Keys_bears_27 (by decide) ?_
      exact rv_ireturn ⟨_, rfl, rfl, rfl⟩ d_Keys_bears_28 rfl (bI_nar false)
    · exact absurd (nI_le (by omega) (by omega)) c_7
  | succ m ih =>
    intro i hi
    refine rv_iload_n d_Keys_bears_2 rfl 0 rfl ?_
    refine rv_aload_n d_Keys_bears_3 rfl 1 rfl ?_
    refine rv_get ka_Keys hk rfl 2 (by decide) (wi_Keys_bears _ (List.mem_of_getElem? (i := 0) rfl)) rfl d_Keys_bears_4 ?_
    refine rv_icmp_ge (tgt := 27) d_Keys_bears_7 (by decide) (fun c_7 => ?_) (fun c_7 => ?_)
    · exact absurd c_7 (nI_ge (by omega) (by omega))
    · refine rv_aload_n d_Keys_bears_10 rfl 1 rfl ?_
      refine rv_iload_n d_Keys_bears_11 rfl 0 rfl ?_
      refine rv_aload_n d_Keys_bears_12 rfl 2 rfl ?_
      refine rv_callV (kc' := 0) (ks' := 0) (kc1 := 0) (ks1 := 0) (As := [.int (nI i), .ref b]) (rest := []) hk rfl (c_Keys_isOf hk hw hb (by omega)) ok_Keys_isOf (wi_Keys_bears _ (List.mem_of_getElem? (i := 1) rfl)) (wi_Keys_bears _ (List.mem_of_getElem? (i := 2) rfl)) (wi_Keys_bears _ (List.mem_of_getElem? (i := 3) rfl)) rfl rfl (Nat.le_of_ble_eq_true rfl) (Nat.le_of_ble_eq_true rfl) ⟨Nat.le_of_ble_eq_true rfl, Nat.le_of_ble_eq_true rfl⟩ d_Keys_bears_13 (rv_kie ?_)
      refine rv_if_eq (tgt := 21) d_Keys_bears_16 (by decide) (fun c_16 => ?_) (fun c_16 => ?_)
      · have e : (fun j => decide (kx_n f j = m0)) i = false := bI_0.mp c_16
        refine rv_iinc (k := 0) (v := nI (i + 1)) (lv' := [(2, .int (nI (i + 1))), (0, .ref k), (1, .ref b)]) d_Keys_bears_21 rfl (nI_1 _) (by decide) rfl ?_
        refine rv_goto (tgt := 2) d_Keys_bears_24 (by decide) ?_
        rw [lp_any_f e]
        exact rv_lv [0, 1, 2] rfl (ih (i + 1) (by omega))
      · have e : (fun j => decide (kx_n f j = m0)) i = true := bI_n.mp c_16
        refine rv_iconst (v := nI 1) d_Keys_bears_19 (by decide) ?_
        rw [lp_any_t e]
        exact rv_ireturn ⟨_, rfl, rfl, rfl⟩ d_Keys_bears_20 rfl (bI_nar true)
set_option maxHeartbeats 4000000 in
set_option maxRecDepth 100000 in
theorem c_Keys_bears {l : Launch} {D : va_G} {ca : Nat → ClassId} {hp : hp_T} {d : Nat} {k w i0 b n : Nat} {m0 : nm_T} {f : Nat → Int64} {g : Nat → Int32} (hk : hp k = some (.inr (1, [.ref w, .ref i0, .int (nI n)]))) (hw : hp w = some (.inl (ca 1, 32, .inr (.inl f)))) (hi0 : hp i0 = some (.inl (ca 0, 8, .inl g))) (hn : n ≤ 8) (hb : hp b = some (.inr (0, nm_F m0))) : ma_V l D ca ma_T M_Keys_bears (d + 1) 0 0 hp (ma_qi (ma_eq (bI (lp_any (fun j => decide (kx_n f j = m0)) n 0)) hp)) 0 (lv_args 0 [.ref k, .ref b]) [] := by
  change ma_V l D ca ma_T M_Keys_bears (d + 1) 0 0 hp (ma_qi (ma_eq (bI (lp_any (fun j => decide (kx_n f j = m0)) n 0)) hp)) 0 [(0, .ref k), (1, .ref b)] []
  refine rv_iconst (v := nI 0) d_Keys_bears_0 (by decide) ?_
  refine rv_istore_n (lv' := [(2, .int (nI 0)), (0, .ref k), (1, .ref b)]) d_Keys_bears_1 rfl (by decide) rfl ?_
  exact c_Keys_bears_l hk hw hi0 hn hb n 0 (Nat.zero_add _)
set_option maxHeartbeats 4000000 in
set_option maxRecDepth 100000 in
theorem c_Keys_contains_l {l : Launch} {D : va_G} {ca : Nat → ClassId} {hp : hp_T} {d : Nat} {k w i0 b n : Nat} {m0 : nm_T} {f : Nat → Int64} {g : Nat → Int32} (hk : hp k = some (.inr (1, [.ref w, .ref i0, .int (nI n)]))) (hw : hp w = some (.inl (ca 1, 32, .inr (.inl f)))) (hi0 : hp i0 = some (.inl (ca 0, 8, .inl g))) (hn : n ≤ 8) (hb : hp b = some (.inr (0, nm_F m0))) {x : Int32} : ∀ (m i : Nat), i + m = n → ma_V l D ca ma_T M_Keys_contains (d + 1) 0 0 hp (ma_qi (ma_eq (bI (lp_any (fun j => decide (g j = x) && decide (kx_n f j = m0)) m i)) hp)) 2 [(3, .int (nI i)), (0, .ref k), (1, .ref b), (2, .int x)] [] := by
  intro m
  induction m with
  | zero =>
    intro i hi
    refine rv_iload_n d_Keys_contains_2 rfl 0 rfl ?_
    refine rv_aload_n d_Keys_contains_3 rfl 1 rfl ?_
    refine rv_get ka_Keys hk rfl 2 (by decide) (wi_Keys_contains _ (List.mem_of_getElem? (i := 0) rfl)) rfl d_Keys_contains_4 ?_
    refine rv_icmp_ge (tgt := 37) d_Keys_contains_7 (by decide) (fun c_7 => ?_) (fun c_7 => ?_)
    · refine rv_iconst (v := nI 0) d_Keys_contains_37 (by decide) ?_
      exact rv_ireturn ⟨_, rfl, rfl, rfl⟩ d_Keys_contains_38 rfl (bI_nar false)
    · exact absurd (nI_le (by omega) (by omega)) c_7
  | succ m ih =>
    intro i hi
    refine rv_iload_n d_Keys_contains_2 rfl 0 rfl ?_
    refine rv_aload_n d_Keys_contains_3 rfl 1 rfl ?_
    refine rv_get ka_Keys hk rfl 2 (by decide) (wi_Keys_contains _ (List.mem_of_getElem? (i := 0) rfl)) rfl d_Keys_contains_4 ?_
    refine rv_icmp_ge (tgt := 37) d_Keys_contains_7 (by decide) (fun c_7 => ?_) (fun c_7 => ?_)
    · exact absurd c_7 (nI_ge (by omega) (by omega))
    · refine rv_aload_n d_Keys_contains_10 rfl 1 rfl ?_
      refine rv_get ka_Keys hk rfl 1 (by decide) (wi_Keys_contains _ (List.mem_of_getElem? (i := 1) rfl)) rfl d_Keys_contains_11 ?_
      refine rv_iload_n d_Keys_contains_14 rfl 0 rfl ?_
      refine rv_iald hi0 0 rfl (by omega) (by decide) d_Keys_contains_15 ?_
      refine rv_iload_n d_Keys_contains_16 rfl 3 rfl ?_
      refine rv_icmp_ne (tgt := 31) d_Keys_contains_17 (by decide) (fun c_17 => ?_) (fun c_17 => ?_)
      · have e : (fun j => decide (g j = x) && decide (kx_n f j = m0)) i = false := by simp [c_17]
        refine rv_iinc (k := 0) (v := nI (i + 1)) (lv' := [(3, .int (nI (i + 1))), (0, .ref k), (1, .ref b), (2, .int x)]) d_Keys_contains_31 rfl (nI_1 _) (by decide) rfl ?_
        refine rv_goto (tgt := 2) d_Keys_contains_34 (by decide) ?_
        rw [lp_any_f e]
        exact rv_lv [0, 1, 2, 3] rfl (ih (i + 1) (by omega))
      · refine rv_aload_n d_Keys_contains_20 rfl 1 rfl ?_
        refine rv_iload_n d_Keys_contains_21 rfl 0 rfl ?_
        refine rv_aload_n d_Keys_contains_22 rfl 2 rfl ?_
        refine rv_callV (kc' := 0) (ks' := 0) (kc1 := 0) (ks1 := 0) (As := [.int (nI i), .ref b]) (rest := []) hk rfl (c_Keys_isOf hk hw hb (by omega)) ok_Keys_isOf (wi_Keys_contains _ (List.mem_of_getElem? (i := 2) rfl)) (wi_Keys_contains _ (List.mem_of_getElem? (i := 3) rfl)) (wi_Keys_contains _ (List.mem_of_getElem? (i := 4) rfl)) rfl rfl (Nat.le_of_ble_eq_true rfl) (Nat.le_of_ble_eq_true rfl) ⟨Nat.le_of_ble_eq_true rfl, Nat.le_of_ble_eq_true rfl⟩ d_Keys_contains_23 (rv_kie ?_)
        refine rv_if_eq (tgt := 31) d_Keys_contains_26 (by decide) (fun c_26 => ?_) (fun c_26 => ?_)
        · have e : (fun j => decide (g j = x) && decide (kx_n f j = m0)) i = false := by simp [bI_0.mp c_26]
          refine rv_iinc (k := 0) (v := nI (i + 1)) (lv' := [(3, .int (nI (i + 1))), (0, .ref k), (1, .ref b), (2, .int x)]) d_Keys_contains_31 rfl (nI_1 _) (by decide) rfl ?_
          refine rv_goto (tgt := 2) d_Keys_contains_34 (by decide) ?_
          rw [lp_any_f e]
          exact rv_lv [0, 1, 2, 3] rfl (ih (i + 1) (by omega))
        · have e : (fun j => decide (g j = x) && decide (kx_n f j = m0)) i = true := by simp [c_17, of_decide_eq_true (bI_n.mp c_26)]
          refine rv_iconst (v := nI 1) d_Keys_contains_29 (by decide) ?_
          rw [lp_any_t e]
          exact rv_ireturn ⟨_, rfl, rfl, rfl⟩ d_Keys_contains_30 rfl (bI_nar true)
set_option maxHeartbeats 4000000 in
set_option maxRecDepth 100000 in
theorem c_Keys_contains {l : Launch} {D : va_G} {ca : Nat → ClassId} {hp : hp_T} {d : Nat} {k w i0 b n : Nat} {m0 : nm_T} {f : Nat → Int64} {g : Nat → Int32} (hk : hp k = some (.inr (1, [.ref w, .ref i0, .int (nI n)]))) (hw : hp w = some (.inl (ca 1, 32, .inr (.inl f)))) (hi0 : hp i0 = some (.inl (ca 0, 8, .inl g))) (hn : n ≤ 8) (hb : hp b = some (.inr (0, nm_F m0))) {x : Int32} : ma_V l D ca ma_T M_Keys_contains (d + 1) 0 0 hp (ma_qi (ma_eq (bI (lp_any (fun j => decide (g j = x) && decide (kx_n f j = m0)) n 0)) hp)) 0 (lv_args 0 [.ref k, .ref b, .int x]) [] := by
  change ma_V l D ca ma_T M_Keys_contains (d + 1) 0 0 hp (ma_qi (ma_eq (bI (lp_any (fun j => decide (g j = x) && decide (kx_n f j = m0)) n 0)) hp)) 0 [(0, .ref k), (1, .ref b), (2, .int x)] []
  refine rv_iconst (v := nI 0) d_Keys_contains_0 (by decide) ?_
  refine rv_istore_n (lv' := [(3, .int (nI 0)), (0, .ref k), (1, .ref b), (2, .int x)]) d_Keys_contains_1 rfl (by decide) rfl ?_
  exact c_Keys_contains_l hk hw hi0 hn hb n 0 (Nat.zero_add _)
set_option maxHeartbeats 4000000 in
set_option maxRecDepth 100000 in
theorem c_Keys_misses_l {l : Launch} {D : va_G} {ca : Nat → ClassId} {hp : hp_T} {d : Nat} {k w i0 b n : Nat} {m0 : nm_T} {f : Nat → Int64} {g : Nat → Int32} (hk : hp k = some (.inr (1, [.ref w, .ref i0, .int (nI n)]))) (hw : hp w = some (.inl (ca 1, 32, .inr (.inl f)))) (hi0 : hp i0 = some (.inl (ca 0, 8, .inl g))) (hn : n ≤ 8) (hb : hp b = some (.inr (0, nm_F m0))) {x : Int32} : ∀ (m i : Nat), i + m = n → ma_V l D ca ma_T M_Keys_misses (d + 1) 0 0 hp (ma_qi (ma_eq (bI (lp_any (fun j => (decide (g j < 0) || decide (x ≤ g j)) && decide (kx_n f j = m0)) m i)) hp)) 2 [(3, .int (nI i)), (0, .ref k), (1, .ref b), (2, .int x)] [] := by
  intro m
  induction m with
  | zero =>
    intro i hi
    refine rv_iload_n d_Keys_misses_2 rfl 0 rfl ?_
    refine rv_aload_n d_Keys_misses_3 rfl 1 rfl ?_
    refine rv_get ka_Keys hk rfl 2 (by decide) (wi_Keys_misses _ (List.mem_of_getElem? (i := 0) rfl)) rfl d_Keys_misses_4 ?_
    refine rv_icmp_ge (tgt := 46) d_Keys_misses_7 (by decide) (fun c_7 => ?_) (fun c_7 => ?_)
    · refine rv_iconst (v := nI 0) d_Keys_misses_46 (by decide) ?_
      exact rv_ireturn ⟨_, rfl, rfl, rfl⟩ d_Keys_misses_47 rfl (bI_nar false)
    · exact absurd (nI_le (by omega) (by omega)) c_7
  | succ m ih =>
    intro i hi
    refine rv_iload_n d_Keys_misses_2 rfl 0 rfl ?_
    refine rv_aload_n d_Keys_misses_3 rfl 1 rfl ?_
    refine rv_get ka_Keys hk rfl 2 (by decide) (wi_Keys_misses _ (List.mem_of_getElem? (i := 0) rfl)) rfl d_Keys_misses_4 ?_
    refine rv_icmp_ge (tgt := 46) d_Keys_misses_7 (by decide) (fun c_7 => ?_) (fun c_7 => ?_)
    · exact absurd c_7 (nI_ge (by omega) (by omega))
    · refine rv_aload_n d_Keys_misses_10 rfl 1 rfl ?_
      refine rv_get ka_Keys hk rfl 1 (by decide) (wi_Keys_misses _ (List.mem_of_getElem? (i := 1) rfl)) rfl d_Keys_misses_11 ?_
      refine rv_iload_n d_Keys_misses_14 rfl 0 rfl ?_
      refine rv_iald hi0 0 rfl (by omega) (by decide) d_Keys_misses_15 ?_
      refine rv_if_lt (tgt := 29) d_Keys_misses_16 (by decide) (fun c_16 => ?_) (fun c_16 => ?_)
      · have e0 : (decide (g i < 0) || decide (x ≤ g i)) = true := by simp [c_16]
        refine rv_aload_n d_Keys_misses_29 rfl 1 rfl ?_
        refine rv_iload_n d_Keys_misses_30 rfl 0 rfl ?_
        refine rv_aload_n d_Keys_misses_31 rfl 2 rfl ?_
        refine rv_callV (kc' := 0) (ks' := 0) (kc1 := 0) (ks1 := 0) (As := [.int (nI i), .ref b]) (rest := []) hk rfl (c_Keys_isOf hk hw hb (by omega)) ok_Keys_isOf (wi_Keys_misses _ (List.mem_of_getElem? (i := 2) rfl)) (wi_Keys_misses _ (List.mem_of_getElem? (i := 3) rfl)) (wi_Keys_misses _ (List.mem_of_getElem? (i := 4) rfl)) rfl rfl (Nat.le_of_ble_eq_true rfl) (Nat.le_of_ble_eq_true rfl) ⟨Nat.le_of_ble_eq_true rfl, Nat.le_of_ble_eq_true rfl⟩ d_Keys_misses_32 (rv_kie ?_)
        refine rv_if_eq (tgt := 40) d_Keys_misses_35 (by decide) (fun c_35 => ?_) (fun c_35 => ?_)
        · have e : (fun j => (decide (g j < 0) || decide (x ≤ g j)) && decide (kx_n f j = m0)) i = false := by simp [bI_0.mp c_35]
          refine rv_iinc (k := 0) (v := nI (i + 1)) (lv' := [(3, .int (nI (i + 1))), (0, .ref k), (1, .ref b), (2, .int x)]) d_Keys_misses_40 rfl (nI_1 _) (by decide) rfl ?_
          refine rv_goto (tgt := 2) d_Keys_misses_43 (by decide) ?_
          rw [lp_any_f e]
          exact rv_lv [0, 1, 2, 3] rfl (ih (i + 1) (by omega))
        · have e : (fun j => (decide (g j < 0) || decide (x ≤ g j)) && decide (kx_n f j = m0)) i = true := by show (_ && _) = true; rw [e0, bI_n.mp c_35]; rfl
          refine rv_iconst (v := nI 1) d_Keys_misses_38 (by decide) ?_
          rw [lp_any_t e]
          exact rv_ireturn ⟨_, rfl, rfl, rfl⟩ d_Keys_misses_39 rfl (bI_nar true)
      · refine rv_aload_n d_Keys_misses_19 rfl 1 rfl ?_
        refine rv_get ka_Keys hk rfl 1 (by decide) (wi_Keys_misses _ (List.mem_of_getElem? (i := 1) rfl)) rfl d_Keys_misses_20 ?_
        refine rv_iload_n d_Keys_misses_23 rfl 0 rfl ?_
        refine rv_iald hi0 0 rfl (by omega) (by decide) d_Keys_misses_24 ?_
        refine rv_iload_n d_Keys_misses_25 rfl 3 rfl ?_
        refine rv_icmp_lt (tgt := 40) d_Keys_misses_26 (by decide) (fun c_26 => ?_) (fun c_26 => ?_)
        · have e : (fun j => (decide (g j < 0) || decide (x ≤ g j)) && decide (kx_n f j = m0)) i = false := by simp [c_16, Int32.not_le.mpr c_26]
          refine rv_iinc (k := 0) (v := nI (i + 1)) (lv' := [(3, .int (nI (i + 1))), (0, .ref k), (1, .ref b), (2, .int x)]) d_Keys_misses_40 rfl (nI_1 _) (by decide) rfl ?_
          refine rv_goto (tgt := 2) d_Keys_misses_43 (by decide) ?_
          rw [lp_any_f e]
          exact rv_lv [0, 1, 2, 3] rfl (ih (i + 1) (by omega))
        · have e0 : (decide (g i < 0) || decide (x ≤ g i)) = true := by simp [Int32.not_lt.mp c_26]
          refine rv_aload_n d_Keys_misses_29 rfl 1 rfl ?_
          refine rv_iload_n d_Keys_misses_30 rfl 0 rfl ?_
          refine rv_aload_n d_Keys_misses_31 rfl 2 rfl ?_
          refine rv_callV (kc' := 0) (ks' := 0) (kc1 := 0) (ks1 := 0) (As := [.int (nI i), .ref b]) (rest := []) hk rfl (c_Keys_isOf hk hw hb (by omega)) ok_Keys_isOf (wi_Keys_misses _ (List.mem_of_getElem? (i := 2) rfl)) (wi_Keys_misses _ (List.mem_of_getElem? (i := 3) rfl)) (wi_Keys_misses _ (List.mem_of_getElem? (i := 4) rfl)) rfl rfl (Nat.le_of_ble_eq_true rfl) (Nat.le_of_ble_eq_true rfl) ⟨Nat.le_of_ble_eq_true rfl, Nat.le_of_ble_eq_true rfl⟩ d_Keys_misses_32 (rv_kie ?_)
          refine rv_if_eq (tgt := 40) d_Keys_misses_35 (by decide) (fun c_35 => ?_) (fun c_35 => ?_)
          · have e : (fun j => (decide (g j < 0) || decide (x ≤ g j)) && decide (kx_n f j = m0)) i = false := by simp [bI_0.mp c_35]
            refine rv_iinc (k := 0) (v := nI (i + 1)) (lv' := [(3, .int (nI (i + 1))), (0, .ref k), (1, .ref b), (2, .int x)]) d_Keys_misses_40 rfl (nI_1 _) (by decide) rfl ?_
            refine rv_goto (tgt := 2) d_Keys_misses_43 (by decide) ?_
            rw [lp_any_f e]
            exact rv_lv [0, 1, 2, 3] rfl (ih (i + 1) (by omega))
          · have e : (fun j => (decide (g j < 0) || decide (x ≤ g j)) && decide (kx_n f j = m0)) i = true := by show (_ && _) = true; rw [e0, bI_n.mp c_35]; rfl
            refine rv_iconst (v := nI 1) d_Keys_misses_38 (by decide) ?_
            rw [lp_any_t e]
            exact rv_ireturn ⟨_, rfl, rfl, rfl⟩ d_Keys_misses_39 rfl (bI_nar true)
set_option maxHeartbeats 4000000 in
set_option maxRecDepth 100000 in
theorem c_Keys_misses {l : Launch} {D : va_G} {ca : Nat → ClassId} {hp : hp_T} {d : Nat} {k w i0 b n : Nat} {m0 : nm_T} {f : Nat → Int64} {g : Nat → Int32} (hk : hp k = some (.inr (1, [.ref w, .ref i0, .int (nI n)]))) (hw : hp w = some (.inl (ca 1, 32, .inr (.inl f)))) (hi0 : hp i0 = some (.inl (ca 0, 8, .inl g))) (hn : n ≤ 8) (hb : hp b = some (.inr (0, nm_F m0))) {x : Int32} : ma_V l D ca ma_T M_Keys_misses (d + 1) 0 0 hp (ma_qi (ma_eq (bI (lp_any (fun j => (decide (g j < 0) || decide (x ≤ g j)) && decide (kx_n f j = m0)) n 0)) hp)) 0 (lv_args 0 [.ref k, .ref b, .int x]) [] := by
  change ma_V l D ca ma_T M_Keys_misses (d + 1) 0 0 hp (ma_qi (ma_eq (bI (lp_any (fun j => (decide (g j < 0) || decide (x ≤ g j)) && decide (kx_n f j = m0)) n 0)) hp)) 0 [(0, .ref k), (1, .ref b), (2, .int x)] []
  refine rv_iconst (v := nI 0) d_Keys_misses_0 (by decide) ?_
  refine rv_istore_n (lv' := [(3, .int (nI 0)), (0, .ref k), (1, .ref b), (2, .int x)]) d_Keys_misses_1 rfl (by decide) rfl ?_
  exact c_Keys_misses_l hk hw hi0 hn hb n 0 (Nat.zero_add _)
set_option maxHeartbeats 4000000 in
set_option maxRecDepth 100000 in
theorem c_Keys_sameName_l {l : Launch} {D : va_G} {ca : Nat → ClassId} {hp : hp_T} {d : Nat} {k w i0 n k2 w2 i2 n2 : Nat} {f f2 : Nat → Int64} (hk : hp k = some (.inr (1, [.ref w, .ref i0, .int (nI n)]))) (hw : hp w = some (.inl (ca 1, 32, .inr (.inl f)))) (hk2 : hp k2 = some (.inr (1, [.ref w2, .ref i2, .int (nI n2)]))) (hw2 : hp w2 = some (.inl (ca 1, 32, .inr (.inl f2)))) {j q : Nat} (hj : j < 8) (hq : q < 8) : ∀ (m i : Nat), i + m = 4 → ma_V l D ca ma_T M_Keys_sameName d 0 0 hp (ma_qi (ma_eq (bI (!(lp_any (fun w => !decide (f (j * 4 + w) = f2 (q * 4 + w))) m i))) hp)) 3 [(4, .int (nI i)), (0, .ref k), (1, .int (nI j)), (2, .ref k2), (3, .int (nI q))] [] := by
  intro m
  induction m with
  | zero =>
    intro i hi
    refine rv_iload d_Keys_sameName_3 0 rfl ?_
    refine rv_iconst (v := nI 4) d_Keys_sameName_5 (by decide) ?_
    refine rv_icmp_ge (tgt := 43) d_Keys_sameName_6 (by decide) (fun c_6 => ?_) (fun c_6 => ?_)
    · refine rv_iconst (v := nI 1) d_Keys_sameName_43 (by decide) ?_
      exact rv_ireturn ⟨_, rfl, rfl, rfl⟩ d_Keys_sameName_44 rfl (bI_nar true)
    · exact absurd (nI_le (by omega) (by omega)) c_6
  | succ m ih =>
    intro i hi
    refine rv_iload d_Keys_sameName_3 0 rfl ?_
    refine rv_iconst (v := nI 4) d_Keys_sameName_5 (by decide) ?_
    refine rv_icmp_ge (tgt := 43) d_Keys_sameName_6 (by decide) (fun c_6 => ?_) (fun c_6 => ?_)
    · exact absurd c_6 (nI_ge (by omega) (by omega))
    · refine rv_aload_n d_Keys_sameName_9 rfl 1 rfl ?_
      refine rv_get ka_Keys hk rfl 0 (by decide) (wi_Keys_sameName _ (List.mem_of_getElem? (i := 0) rfl)) rfl d_Keys_sameName_10 ?_
      refine rv_iload_n d_Keys_sameName_13 rfl 2 rfl ?_
      refine rv_iconst (v := nI 4) d_Keys_sameName_14 (by decide) ?_
      refine rv_imul d_Keys_sameName_15 ?_
      refine rv_eqi (pk_mul _ _) ?_
      refine rv_iload d_Keys_sameName_16 0 rfl ?_
      refine rv_iadd d_Keys_sameName_18 ?_
      refine rv_eqi (nI_add _ _) ?_
      refine rv_lald hw 1 rfl (by omega) (by decide) d_Keys_sameName_19 ?_
      refine rv_aload_n d_Keys_sameName_20 rfl 3 rfl ?_
      refine rv_get ka_Keys hk2 rfl 0 (by decide) (wi_Keys_sameName _ (List.mem_of_getElem? (i := 0) rfl)) rfl d_Keys_sameName_21 ?_
      refine rv_iload_n d_Keys_sameName_24 rfl 4 rfl ?_
      refine rv_iconst (v := nI 4) d_Keys_sameName_25 (by decide) ?_
      refine rv_imul d_Keys_sameName_26 ?_
      refine rv_eqi (pk_mul _ _) ?_
      refine rv_iload d_Keys_sameName_27 0 rfl ?_
      refine rv_iadd d_Keys_sameName_29 ?_
      refine rv_eqi (nI_add _ _) ?_
      refine rv_lald hw2 1 rfl (by omega) (by decide) d_Keys_sameName_30 ?_
      refine rv_lcmp d_Keys_sameName_31 ?_
      refine rv_if_eq (tgt := 37) d_Keys_sameName_32 (by decide) (fun c_32 => ?_) (fun c_32 => ?_)
      · have e : (fun w => !decide (f (j * 4 + w) = f2 (q * 4 + w))) i = false := by simp [lc_0.mp c_32]
        refine rv_iinc (k := 0) (v := nI (i + 1)) (lv' := [(4, .int (nI (i + 1))), (0, .ref k), (1, .int (nI j)), (2, .ref k2), (3, .int (nI q))]) d_Keys_sameName_37 rfl (nI_1 _) (by decide) rfl ?_
        refine rv_goto (tgt := 3) d_Keys_sameName_40 (by decide) ?_
        rw [lp_any_f e]
        exact rv_lv [0, 1, 2, 3, 4] rfl (ih (i + 1) (by omega))
      · have e : (fun w => !decide (f (j * 4 + w) = f2 (q * 4 + w))) i = true := by show (!decide _) = true; rw [decide_eq_false (fun z => c_32 (lc_0.mpr z))]; rfl
        refine rv_iconst (v := nI 0) d_Keys_sameName_35 (by decide) ?_
        rw [lp_any_t e]
        exact rv_ireturn ⟨_, rfl, rfl, rfl⟩ d_Keys_sameName_36 rfl (bI_nar false)
set_option maxHeartbeats 4000000 in
set_option maxRecDepth 100000 in
theorem c_Keys_sameName {l : Launch} {D : va_G} {ca : Nat → ClassId} {hp : hp_T} {d : Nat} {k w i0 n k2 w2 i2 n2 : Nat} {f f2 : Nat → Int64} (hk : hp k = some (.inr (1, [.ref w, .ref i0, .int (nI n)]))) (hw : hp w = some (.inl (ca 1, 32, .inr (.inl f)))) (hk2 : hp k2 = some (.inr (1, [.ref w2, .ref i2, .int (nI n2)]))) (hw2 : hp w2 = some (.inl (ca 1, 32, .inr (.inl f2)))) {j q : Nat} (hj : j < 8) (hq : q < 8) : ma_V l D ca ma_T M_Keys_sameName d 0 0 hp (ma_qi (ma_eq (bI (!(lp_any (fun w => !decide (f (j * 4 + w) = f2 (q * 4 + w))) 4 0))) hp)) 0 (lv_args 0 [.ref k, .int (nI j), .ref k2, .int (nI q)]) [] := by
  change ma_V l D ca ma_T M_Keys_sameName d 0 0 hp (ma_qi (ma_eq (bI (!(lp_any (fun w => !decide (f (j * 4 + w) = f2 (q * 4 + w))) 4 0))) hp)) 0 [(0, .ref k), (1, .int (nI j)), (2, .ref k2), (3, .int (nI q))] []
  refine rv_iconst (v := nI 0) d_Keys_sameName_0 (by decide) ?_
  refine rv_istore (lv' := [(4, .int (nI 0)), (0, .ref k), (1, .int (nI j)), (2, .ref k2), (3, .int (nI q))]) d_Keys_sameName_1 (by decide) rfl ?_
  exact c_Keys_sameName_l hk hw hk2 hw2 hj hq 4 0 rfl
set_option maxHeartbeats 4000000 in
set_option maxRecDepth 100000 in
theorem c_Keys_containsOneOf_i {l : Launch} {D : va_G} {ca : Nat → ClassId} {hp : hp_T} {d : Nat} {Q : Option Value → hp_T → Prop} {k w i0 n k2 w2 i2 n2 : Nat} {f f2 : Nat → Int64} {g g2 : Nat → Int32} (hk : hp k = some (.inr (1, [.ref w, .ref i0, .int (nI n)]))) (hw : hp w = some (.inl (ca 1, 32, .inr (.inl f)))) (hk2 : hp k2 = some (.inr (1, [.ref w2, .ref i2, .int (nI n2)]))) (hw2 : hp w2 = some (.inl (ca 1, 32, .inr (.inl f2)))) (hi0 : hp i0 = some (.inl (ca 0, 8, .inl g))) (hn : n ≤ 8) (hi2 : hp i2 = some (.inl (ca 0, 8, .inl g2))) (hn2 : n2 ≤ 8) {i : Nat} (hi : i < n) : ∀ (m j : Nat), j + m = n2 → (lp_any (fun j => decide (g i = g2 j) && !(lp_any (fun w => !decide (f (i * 4 + w) = f2 (j * 4 + w))) 4 0)) m j = true → Q (some (.int (nI 1))) hp) → (lp_any (fun j => decide (g i = g2 j) && !(lp_any (fun w => !decide (f (i * 4 + w) = f2 (j * 4 + w))) 4 0)) m j = false → ∀ j1 : Nat, ma_V l D ca ma_T M_Keys_containsOneOf (d + 1) 0 0 hp Q 53 [(3, .int (nI j1)), (2, .int (nI i)), (0, .ref k), (1, .ref k2)] []) → ma_V l D ca ma_T M_Keys_containsOneOf (d + 1) 0 0 hp Q 12 [(3, .int (nI j)), (2, .int (nI i)), (0, .ref k), (1, .ref k2)] [] := by
  intro m
  induction m with
  | zero =>
    intro j hj hT hF
    refine rv_iload_n d_Keys_containsOneOf_12 rfl 0 rfl ?_
    refine rv_aload_n d_Keys_containsOneOf_13 rfl 3 rfl ?_
    refine rv_get ka_Keys hk2 rfl 2 (by decide) (wi_Keys_containsOneOf _ (List.mem_of_getElem? (i := 0) rfl)) rfl d_Keys_containsOneOf_14 ?_
    refine rv_icmp_ge (tgt := 53) d_Keys_containsOneOf_17 (by decide) (fun c_17 => ?_) (fun c_17 => ?_)
    · exact hF rfl j
    · exact absurd (nI_le (by omega) (by omega)) c_17
  | succ m ih =>
    intro j hj hT hF
    refine rv_iload_n d_Keys_containsOneOf_12 rfl 0 rfl ?_
    refine rv_aload_n d_Keys_containsOneOf_13 rfl 3 rfl ?_
    refine rv_get ka_Keys hk2 rfl 2 (by decide) (wi_Keys_containsOneOf _ (List.mem_of_getElem? (i := 0) rfl)) rfl d_Keys_containsOneOf_14 ?_
    refine rv_icmp_ge (tgt := 53) d_Keys_containsOneOf_17 (by decide) (fun c_17 => ?_) (fun c_17 => ?_)
    · exact absurd c_17 (nI_ge (by omega) (by omega))
    · refine rv_aload_n d_Keys_containsOneOf_20 rfl 2 rfl ?_
      refine rv_get ka_Keys hk rfl 1 (by decide) (wi_Keys_containsOneOf _ (List.mem_of_getElem? (i := 1) rfl)) rfl d_Keys_containsOneOf_21 ?_
      refine rv_iload_n d_Keys_containsOneOf_24 rfl 1 rfl ?_
      refine rv_iald hi0 0 rfl (by omega) (by decide) d_Keys_containsOneOf_25 ?_
      refine rv_aload_n d_Keys_containsOneOf_26 rfl 3 rfl ?_
      refine rv_get ka_Keys hk2 rfl 1 (by decide) (wi_Keys_containsOneOf _ (List.mem_of_getElem? (i := 1) rfl)) rfl d_Keys_containsOneOf_27 ?_
      refine rv_iload_n d_Keys_containsOneOf_30 rfl 0 rfl ?_
      refine rv_iald hi2 0 rfl (by omega) (by decide) d_Keys_containsOneOf_31 ?_
      refine rv_icmp_ne (tgt := 47) d_Keys_containsOneOf_32 (by decide) (fun c_32 => ?_) (fun c_32 => ?_)
      · have e : (fun j => decide (g i = g2 j) && !(lp_any (fun w => !decide (f (i * 4 + w) = f2 (j * 4 + w))) 4 0)) j = false := by show (_ && _) = false; rw [decide_eq_false c_32]; rfl
        refine rv_iinc (k := 0) (v := nI (j + 1)) (lv' := [(3, .int (nI (j + 1))), (2, .int (nI i)), (0, .ref k), (1, .ref k2)]) d_Keys_containsOneOf_47 rfl (nI_1 _) (by decide) rfl ?_
        refine rv_goto (tgt := 12) d_Keys_containsOneOf_50 (by decide) ?_
        exact rv_lv [0, 1, 2, 3] rfl (ih (j + 1) (by omega) (fun h => hT (by rw [lp_any_f e]; exact h)) (fun h => hF (by rw [lp_any_f e]; exact h)))
      · refine rv_aload_n d_Keys_containsOneOf_35 rfl 2 rfl ?_
        refine rv_iload_n d_Keys_containsOneOf_36 rfl 1 rfl ?_
        refine rv_aload_n d_Keys_containsOneOf_37 rfl 3 rfl ?_
        refine rv_iload_n d_Keys_containsOneOf_38 rfl 0 rfl ?_
        refine rv_callV (kc' := 0) (ks' := 0) (kc1 := 0) (ks1 := 0) (As := [.int (nI i), .ref k2, .int (nI j)]) (rest := []) hk rfl (c_Keys_sameName hk hw hk2 hw2 (by omega) (by omega)) ok_Keys_sameName (wi_Keys_containsOneOf _ (List.mem_of_getElem? (i := 2) rfl)) (wi_Keys_containsOneOf _ (List.mem_of_getElem? (i := 3) rfl)) (wi_Keys_containsOneOf _ (List.mem_of_getElem? (i := 4) rfl)) rfl rfl (Nat.le_of_ble_eq_true rfl) (Nat.le_of_ble_eq_true rfl) ⟨Nat.le_of_ble_eq_true rfl, Nat.le_of_ble_eq_true rfl⟩ d_Keys_containsOneOf_39 (rv_kie ?_)
        refine rv_if_eq (tgt := 47) d_Keys_containsOneOf_42 (by decide) (fun c_42 => ?_) (fun c_42 => ?_)
        · have e : (fun j => decide (g i = g2 j) && !(lp_any (fun w => !decide (f (i * 4 + w) = f2 (j * 4 + w))) 4 0)) j = false := by show (_ && _) = false; rw [bI_0.mp c_42, Bool.and_false]
          refine rv_iinc (k := 0) (v := nI (j + 1)) (lv' := [(3, .int (nI (j + 1))), (2, .int (nI i)), (0, .ref k), (1, .ref k2)]) d_Keys_containsOneOf_47 rfl (nI_1 _) (by decide) rfl ?_
          refine rv_goto (tgt := 12) d_Keys_containsOneOf_50 (by decide) ?_
          exact rv_lv [0, 1, 2, 3] rfl (ih (j + 1) (by omega) (fun h => hT (by rw [lp_any_f e]; exact h)) (fun h => hF (by rw [lp_any_f e]; exact h)))
        · have e : (fun j => decide (g i = g2 j) && !(lp_any (fun w => !decide (f (i * 4 + w) = f2 (j * 4 + w))) 4 0)) j = true := by show (_ && _) = true; rw [decide_eq_true c_32, bI_n.mp c_42]; rfl
          refine rv_iconst (v := nI 1) d_Keys_containsOneOf_45 (by decide) ?_
          exact rv_ireturn (hT (lp_any_t e)) d_Keys_containsOneOf_46 rfl (bI_nar true)
set_option maxHeartbeats 4000000 in
set_option maxRecDepth 100000 in
theorem c_Keys_containsOneOf_l {l : Launch} {D : va_G} {ca : Nat → ClassId} {hp : hp_T} {d : Nat} {k w i0 n k2 w2 i2 n2 : Nat} {f f2 : Nat → Int64} {g g2 : Nat → Int32} (hk : hp k = some (.inr (1, [.ref w, .ref i0, .int (nI n)]))) (hw : hp w = some (.inl (ca 1, 32, .inr (.inl f)))) (hk2 : hp k2 = some (.inr (1, [.ref w2, .ref i2, .int (nI n2)]))) (hw2 : hp w2 = some (.inl (ca 1, 32, .inr (.inl f2)))) (hi0 : hp i0 = some (.inl (ca 0, 8, .inl g))) (hn : n ≤ 8) (hi2 : hp i2 = some (.inl (ca 0, 8, .inl g2))) (hn2 : n2 ≤ 8) : ∀ (m i : Nat), i + m = n → ma_V l D ca ma_T M_Keys_containsOneOf (d + 1) 0 0 hp (ma_qi (ma_eq (bI (lp_any (fun i => lp_any (fun j => decide (g i = g2 j) && !(lp_any (fun w => !decide (f (i * 4 + w) = f2 (j * 4 + w))) 4 0)) n2 0) m i)) hp)) 2 [(2, .int (nI i)), (0, .ref k), (1, .ref k2)] [] := by
  intro m
  induction m with
  | zero =>
    intro i hi
    refine rv_iload_n d_Keys_containsOneOf_2 rfl 0 rfl ?_
    refine rv_aload_n d_Keys_containsOneOf_3 rfl 1 rfl ?_
    refine rv_get ka_Keys hk rfl 2 (by decide) (wi_Keys_containsOneOf _ (List.mem_of_getElem? (i := 0) rfl)) rfl d_Keys_containsOneOf_4 ?_
    refine rv_icmp_ge (tgt := 59) d_Keys_containsOneOf_7 (by decide) (fun c_7 => ?_) (fun c_7 => ?_)
    · refine rv_iconst (v := nI 0) d_Keys_containsOneOf_59 (by decide) ?_
      exact rv_ireturn ⟨_, rfl, rfl, rfl⟩ d_Keys_containsOneOf_60 rfl (bI_nar false)
    · exact absurd (nI_le (by omega) (by omega)) c_7
  | succ m ih =>
    intro i hi
    refine rv_iload_n d_Keys_containsOneOf_2 rfl 0 rfl ?_
    refine rv_aload_n d_Keys_containsOneOf_3 rfl 1 rfl ?_
    refine rv_get ka_Keys hk rfl 2 (by decide) (wi_Keys_containsOneOf _ (List.mem_of_getElem? (i := 0) rfl)) rfl d_Keys_containsOneOf_4 ?_
    refine rv_icmp_ge (tgt := 59) d_Keys_containsOneOf_7 (by decide) (fun c_7 => ?_) (fun c_7 => ?_)
    · exact absurd c_7 (nI_ge (by omega) (by omega))
    · refine rv_iconst (v := nI 0) d_Keys_containsOneOf_10 (by decide) ?_
      refine rv_istore_n (lv' := [(3, .int (nI 0)), (2, .int (nI i)), (0, .ref k), (1, .ref k2)]) d_Keys_containsOneOf_11 rfl (by decide) rfl ?_
      refine rv_lv [0, 1, 2, 3] rfl (c_Keys_containsOneOf_i (i := i) hk hw hk2 hw2 hi0 hn hi2 hn2 (by omega) n2 0 (Nat.zero_add _) (fun h => ?_) (fun h j1 => ?_))
      · exact ⟨_, rfl, by rw [lp_any_t (P := fun i => lp_any (fun j => decide (g i = g2 j) && !(lp_any (fun w => !decide (f (i * 4 + w) = f2 (j * 4 + w))) 4 0)) n2 0) h]; rfl, rfl⟩
      · refine rv_iinc (k := 1) (v := nI (i + 1)) (lv' := [(2, .int (nI (i + 1))), (3, .int (nI j1)), (0, .ref k), (1, .ref k2)]) d_Keys_containsOneOf_53 rfl (nI_1 _) (by decide) rfl ?_
        refine rv_goto (tgt := 2) d_Keys_containsOneOf_56 (by decide) ?_
        rw [lp_any_f (P := fun i => lp_any (fun j => decide (g i = g2 j) && !(lp_any (fun w => !decide (f (i * 4 + w) = f2 (j * 4 + w))) 4 0)) n2 0) h]
        exact rv_lv [0, 2, 3] rfl (ih (i + 1) (by omega))
set_option maxHeartbeats 4000000 in
set_option maxRecDepth 100000 in
theorem c_Keys_containsOneOf {l : Launch} {D : va_G} {ca : Nat → ClassId} {hp : hp_T} {d : Nat} {k w i0 n k2 w2 i2 n2 : Nat} {f f2 : Nat → Int64} {g g2 : Nat → Int32} (hk : hp k = some (.inr (1, [.ref w, .ref i0, .int (nI n)]))) (hw : hp w = some (.inl (ca 1, 32, .inr (.inl f)))) (hk2 : hp k2 = some (.inr (1, [.ref w2, .ref i2, .int (nI n2)]))) (hw2 : hp w2 = some (.inl (ca 1, 32, .inr (.inl f2)))) (hi0 : hp i0 = some (.inl (ca 0, 8, .inl g))) (hn : n ≤ 8) (hi2 : hp i2 = some (.inl (ca 0, 8, .inl g2))) (hn2 : n2 ≤ 8) : ma_V l D ca ma_T M_Keys_containsOneOf (d + 1) 0 0 hp (ma_qi (ma_eq (bI (lp_any (fun i => lp_any (fun j => decide (g i = g2 j) && !(lp_any (fun w => !decide (f (i * 4 + w) = f2 (j * 4 + w))) 4 0)) n2 0) n 0)) hp)) 0 (lv_args 0 [.ref k, .ref k2]) [] := by
  change ma_V l D ca ma_T M_Keys_containsOneOf (d + 1) 0 0 hp (ma_qi (ma_eq (bI (lp_any (fun i => lp_any (fun j => decide (g i = g2 j) && !(lp_any (fun w => !decide (f (i * 4 + w) = f2 (j * 4 + w))) 4 0)) n2 0) n 0)) hp)) 0 [(0, .ref k), (1, .ref k2)] []
  refine rv_iconst (v := nI 0) d_Keys_containsOneOf_0 (by decide) ?_
  refine rv_istore_n (lv' := [(2, .int (nI 0)), (0, .ref k), (1, .ref k2)]) d_Keys_containsOneOf_1 rfl (by decide) rfl ?_
  exact c_Keys_containsOneOf_l hk hw hk2 hw2 hi0 hn hi2 hn2 n 0 (Nat.zero_add _)
theorem ck_bears {l : Launch} {D : va_G} {ca : Nat → ClassId} {hp : hp_T} {d : Nat} {k w i : Nat} {v : kv_T} (h : kx_At ca hp k w i v) {b : Nat} {m0 : nm_T} (hb : hp b = some (.inr (0, nm_F m0))) : ma_V l D ca ma_T M_Keys_bears (d + 1) 0 0 hp (ma_qi (ma_eq (bI (kv_bears v m0)) hp)) 0 (lv_args 0 [.ref k, .ref b]) [] := c_Keys_bears h.1 h.2.1 h.2.2.1 h.2.2.2 hb
theorem ck_has {l : Launch} {D : va_G} {ca : Nat → ClassId} {hp : hp_T} {d : Nat} {k w i : Nat} {v : kv_T} (h : kx_At ca hp k w i v) {b : Nat} {m0 : nm_T} (hb : hp b = some (.inr (0, nm_F m0))) {x : Int32} : ma_V l D ca ma_T M_Keys_contains (d + 1) 0 0 hp (ma_qi (ma_eq (bI (kv_has v m0 x)) hp)) 0 (lv_args 0 [.ref k, .ref b, .int x]) [] := c_Keys_contains h.1 h.2.1 h.2.2.1 h.2.2.2 hb
theorem ck_miss {l : Launch} {D : va_G} {ca : Nat → ClassId} {hp : hp_T} {d : Nat} {k w i : Nat} {v : kv_T} (h : kx_At ca hp k w i v) {b : Nat} {m0 : nm_T} (hb : hp b = some (.inr (0, nm_F m0))) {x : Int32} : ma_V l D ca ma_T M_Keys_misses (d + 1) 0 0 hp (ma_qi (ma_eq (bI (kv_miss v m0 x)) hp)) 0 (lv_args 0 [.ref k, .ref b, .int x]) [] := c_Keys_misses h.1 h.2.1 h.2.2.1 h.2.2.2 hb
theorem ck_meet {l : Launch} {D : va_G} {ca : Nat → ClassId} {hp : hp_T} {d : Nat} {k w i : Nat} {v : kv_T} (h : kx_At ca hp k w i v) {k2 w2 i2 : Nat} {u : kv_T} (h2 : kx_At ca hp k2 w2 i2 u) : ma_V l D ca ma_T M_Keys_containsOneOf (d + 1) 0 0 hp (ma_qi (ma_eq (bI (kv_meet v u)) hp)) 0 (lv_args 0 [.ref k, .ref k2]) [] := c_Keys_containsOneOf h.1 h.2.1 h2.1 h2.2.1 h.2.2.1 h.2.2.2 h2.2.2.1 h2.2.2.2
