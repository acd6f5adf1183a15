def wl_Model_order : List Cond := [.fieldLink "PoolDeskModel" 51 "PoolDeskModel" "size" "I", .fieldLink "PoolDeskModel" 44 "PoolDeskModel" "marks" "[Z", .fieldLink "PoolDeskModel" 26 "PoolDeskModel" "sizes" "[I", .methodLink "PoolDeskModel" 126 y_Model_isFree, .instanceMethod y_Model_isFree, .selects "PoolDeskModel" y_Model_isFree y_Model_isFree, .fieldLink "PoolDeskModel" 23 "PoolDeskModel" "fees" "[J", .methodLink "PoolDeskModel" 88 y_Model_compare, .static y_Model_compare, .fieldLink "PoolDeskModel" 48 "PoolDeskModel" "row" "[J", .fieldLink "PoolDeskModel" 123 "PoolDeskModel" "rowSize" "I", .fieldLink "PoolDeskModel" 7 "PoolDeskModel" "names" "[J"]
theorem wi_Model_order : ∀ w ∈ wl_Model_order, w ∈ ma_tbl := by decide +kernel
def wl_Model_come : List Cond := [.fieldLink "PoolDeskModel" 51 "PoolDeskModel" "size" "I", .methodLink "PoolDeskModel" 102 y_Model_clash, .instanceMethod y_Model_clash, .selects "PoolDeskModel" y_Model_clash y_Model_clash, .methodLink "PoolDeskModel" 105 y_Model_misses, .instanceMethod y_Model_misses, .selects "PoolDeskModel" y_Model_misses y_Model_misses, .fieldLink "PoolDeskModel" 44 "PoolDeskModel" "marks" "[Z", .methodLink "PoolDeskModel" 70 y_Model_hangs, .instanceMethod y_Model_hangs, .selects "PoolDeskModel" y_Model_hangs y_Model_hangs, .fieldLink "PoolDeskModel" 32 "PoolDeskModel" "coming" "[I", .fieldLink "PoolDeskModel" 108 "PoolDeskModel" "came" "I", .methodLink "PoolDeskModel" 111 y_Model_least, .instanceMethod y_Model_least, .selects "PoolDeskModel" y_Model_least y_Model_least, .methodLink "PoolDeskModel" 78 y_Model_family, .instanceMethod y_Model_family, .selects "PoolDeskModel" y_Model_family y_Model_family, .methodLink "PoolDeskModel" 114 y_Model_remove, .instanceMethod y_Model_remove, .selects "PoolDeskModel" y_Model_remove y_Model_remove, .methodLink "PoolDeskModel" 98 y_Model_find, .instanceMethod y_Model_find, .selects "PoolDeskModel" y_Model_find y_Model_find, .methodLink "PoolDeskModel" 74 y_Model_copy, .instanceMethod y_Model_copy, .selects "PoolDeskModel" y_Model_copy y_Model_copy, .fieldLink "PoolDeskModel" 13 "PoolDeskModel" "spends" "[I"]
theorem wi_Model_come : ∀ w ∈ wl_Model_come, w ∈ ma_tbl := by decide +kernel
def wl_Model_enter : List Cond := [.fieldLink "PoolDeskModel" 7 "PoolDeskModel" "names" "[J", .fieldLink "PoolDeskModel" 35 "PoolDeskModel" "name" "[J", .fieldLink "PoolDeskModel" 17 "PoolDeskModel" "keys" "[J", .fieldLink "PoolDeskModel" 38 "PoolDeskModel" "toldKeys" "[J", .fieldLink "PoolDeskModel" 20 "PoolDeskModel" "indexes" "[I", .fieldLink "PoolDeskModel" 41 "PoolDeskModel" "toldIndexes" "[I", .fieldLink "PoolDeskModel" 59 "PoolDeskModel" "told" "I", .constantLong "PoolDeskModel" 92 2100000000000000, .fieldLink "PoolDeskModel" 13 "PoolDeskModel" "spends" "[I", .fieldLink "PoolDeskModel" 23 "PoolDeskModel" "fees" "[J", .fieldLink "PoolDeskModel" 26 "PoolDeskModel" "sizes" "[I", .fieldLink "PoolDeskModel" 29 "PoolDeskModel" "outputs" "[I", .methodLink "PoolDeskModel" 94 y_Model_come, .instanceMethod y_Model_come, .selects "PoolDeskModel" y_Model_come y_Model_come]
theorem wi_Model_enter : ∀ w ∈ wl_Model_enter, w ∈ ma_tbl := by decide +kernel
def wl_Model_init : List Cond := [.methodLink "PoolDeskModel" 1 Lib.objectInit, .instanceMethod Lib.objectInit, .code Lib.objectInit ⟨#[0xb1]⟩ 1 none, .arrayClass .long, .fieldLink "PoolDeskModel" 7 "PoolDeskModel" "names" "[J", .arrayClass .int, .fieldLink "PoolDeskModel" 13 "PoolDeskModel" "spends" "[I", .fieldLink "PoolDeskModel" 17 "PoolDeskModel" "keys" "[J", .fieldLink "PoolDeskModel" 20 "PoolDeskModel" "indexes" "[I", .fieldLink "PoolDeskModel" 23 "PoolDeskModel" "fees" "[J", .fieldLink "PoolDeskModel" 26 "PoolDeskModel" "sizes" "[I", .fieldLink "PoolDeskModel" 29 "PoolDeskModel" "outputs" "[I", .fieldLink "PoolDeskModel" 32 "PoolDeskModel" "coming" "[I", .fieldLink "PoolDeskModel" 35 "PoolDeskModel" "name" "[J", .fieldLink "PoolDeskModel" 38 "PoolDeskModel" "toldKeys" "[J", .fieldLink "PoolDeskModel" 41 "PoolDeskModel" "toldIndexes" "[I", .arrayClass .boolean, .fieldLink "PoolDeskModel" 44 "PoolDeskModel" "marks" "[Z", .fieldLink "PoolDeskModel" 48 "PoolDeskModel" "row" "[J"]
theorem wi_Model_init : ∀ w ∈ wl_Model_init, w ∈ ma_tbl := by decide +kernel
set_option maxHeartbeats 1000000 in
set_option maxRecDepth 100000 in
theorem c_Model_order_b {l : Launch} {D : va_G} {ca : Nat → ClassId} {hp : hp_T} {d : Nat} {x : Nat} {A : Nat → Nat} {S : mo_S} (hS : mo_At ca hp x A S) {Q : Option Value → hp_T → Prop} {k0 : Int32} {q : Nat} (hv : md_iv S) : ∀ (m i : Nat) (acc : Option Nat), i + m = mo_z S → (∀ b, acc = some b → b < mo_z S) → ma_V l D ca ma_T M_Model_order (d + 3) 0 0 hp Q 149 [(5, .int (nI (mo_z S))), (4, .int (ob_i (lp_fold (md_bestF S q k0) m i acc))), (2, .long (lN q)), (1, .int k0), (0, .ref x)] [] → ma_V l D ca ma_T M_Model_order (d + 3) 0 0 hp Q 42 [(5, .int (nI i)), (4, .int (ob_i acc)), (2, .long (lN q)), (1, .int k0), (0, .ref x)] [] := by
  have hA0 : hp (A 0) = some (.inl (ca 1, 168, .inr (.inl (mo_l S 0)))) := hS.2.1 0 (by decide)
  have hA4 : hp (A 4) = some (.inl (ca 1, 42, .inr (.inl (mo_l S 4)))) := hS.2.1 4 (by decide)
  have hA5 : hp (A 5) = some (.inl (ca 0, 42, .inl (mo_i S 5))) := hS.2.1 5 (by decide)
  have hA11 : hp (A 11) = some (.inl (ca 3, 42, .inl (mo_i S 11))) := hS.2.1 11 (by decide)
  have hA12 : hp (A 12) = some (.inl (ca 1, 164, .inr (.inl (mo_l S 12)))) := hS.2.1 12 (by decide)
  have hsz := hS.2.2.2.2.1
  have htd := hS.2.2.2.2.2.1
  have hrs := hS.2.2.2.2.2.2
  have hsp := hS.2.2.1
  have hmk : ∀ u, u < 42 → mo_i S 11 u = bI (md_mk S u) := fun u _ => congrFun hS.2.2.2.1 u
  intro m
  induction m with
  | zero =>
    intro i acc hi hb K
    obtain rfl : i = mo_z S := by omega
    refine rv_iload d_Model_order_42 0 rfl ?_
    refine rv_aload_n d_Model_order_44 rfl 4 rfl ?_
    refine rv_get ka_Model hS.1 rfl 0 (by decide) (wi_Model_order _ (List.mem_of_getElem? (i := 0) rfl)) rfl d_Model_order_45 ?_
    refine rv_icmp_ge (tgt := 149) d_Model_order_48 (by decide) (fun c_48 => ?_) (fun c_48 => ?_)
    · exact K
    · exact absurd (nI_le (by omega) (by omega)) c_48
  | succ m ih =>
    intro i acc hi hb K
    have vi := hv i (by omega)
    cases acc with
    | none =>
      change ma_V l D ca ma_T M_Model_order (d + 3) 0 0 hp Q 42 [(5, .int (nI i)), (4, .int (-1)), (2, .long (lN q)), (1, .int k0), (0, .ref x)] []
      refine rv_iload d_Model_order_42 0 rfl ?_
      refine rv_aload_n d_Model_order_44 rfl 4 rfl ?_
      refine rv_get ka_Model hS.1 rfl 0 (by decide) (wi_Model_order _ (List.mem_of_getElem? (i := 0) rfl)) rfl d_Model_order_45 ?_
      refine rv_icmp_ge (tgt := 149) d_Model_order_48 (by decide) (fun c_48 => ?_) (fun c_48 => ?_)
      · exact absurd c_48 (nI_ge (by omega) (by omega))
      · refine rv_aload_n d_Model_order_51 rfl 4 rfl ?_
        refine rv_get ka_Model hS.1 rfl 14 (by decide) (wi_Model_order _ (List.mem_of_getElem? (i := 1) rfl)) rfl d_Model_order_52 ?_
        refine rv_iload d_Model_order_55 0 rfl ?_
        refine rv_zald hA11 3 rfl (by omega) (by decide) d_Model_order_57 ?_
        refine rv_eqi (y := bI (md_mk S i)) (hmk i (by omega)) ?_
        refine rv_if_ne (tgt := 90) d_Model_order_58 (by decide) (fun c_58 => ?_) (fun c_58 => ?_)
        · have eo : md_open S q k0 i = false := by show (!_ && _) = false; rw [bI_n.mp c_58]; rfl
          refine rv_iconst (v := nI 0) d_Model_order_90 (by decide) ?_
          refine rv_istore (lv' := [(6, .int (nI 0)), (5, .int (nI i)), (4, .int (-1)), (2, .long (lN q)), (1, .int k0), (0, .ref x)]) d_Model_order_91 (by decide) rfl ?_
          refine rv_iload d_Model_order_93 0 rfl ?_
          refine rv_if_eq (tgt := 143) d_Model_order_95 (by decide) (fun c_95 => ?_) (fun c_95 => ?_)
          · have e : md_bestF S q k0 i none = none := if_neg (by rw [eo, Bool.false_and]; exact Bool.false_ne_true)
            refine rv_iinc (k := 1) (v := nI (i + 1)) (lv' := [(5, .int (nI (i + 1))), (6, .int (nI 0)), (4, .int (-1)), (2, .long (lN q)), (1, .int k0), (0, .ref x)]) d_Model_order_143 rfl (nI_1 _) (by decide) rfl ?_
            refine rv_goto (tgt := 42) d_Model_order_146 (by decide) ?_
            refine rv_lv [0, 2, 3, 4, 5] rfl (ih (i + 1) none (by omega) (fun b h => by cases h) ?_)
            have z := K
            rw [show lp_fold (md_bestF S q k0) (m + 1) i none = lp_fold (md_bestF S q k0) m (i + 1) none from congrArg (lp_fold (md_bestF S q k0) m (i + 1)) e] at z
            exact z
          · exact absurd (by decide) c_95
        · refine rv_lload_n d_Model_order_61 rfl 2 rfl ?_
          refine rv_aload_n d_Model_order_62 rfl 4 rfl ?_
          refine rv_get ka_Model hS.1 rfl 6 (by decide) (wi_Model_order _ (List.mem_of_getElem? (i := 2) rfl)) rfl d_Model_order_63 ?_
          refine rv_iload d_Model_order_66 0 rfl ?_
          refine rv_iald hA5 0 rfl (by omega) (by decide) d_Model_order_68 ?_
          refine rv_eqi (y := nI (md_si S i)) ((hv i (by omega)).2.2.1) ?_
          refine rv_i2l d_Model_order_69 ?_
          refine rv_eql (y := lN (md_si S i)) (nI_l (by omega)) ?_
          refine rv_ladd d_Model_order_70 ?_
          refine rv_eql (y := lN (q + md_si S i)) (lN_add _ _) ?_
          refine rv_iload_n d_Model_order_71 rfl 3 rfl ?_
          refine rv_i2l d_Model_order_72 ?_
          refine rv_lcmp d_Model_order_73 ?_
          refine rv_if_gt (tgt := 90) d_Model_order_74 (by decide) (fun c_74 => ?_) (fun c_74 => ?_)
          · have eo : md_open S q k0 i = false := by show (_ && (decide _ && _)) = false; rw [decide_eq_false (Int64.not_le.mpr ((lg_cmp_gt _ _).mp c_74)), Bool.false_and, Bool.and_false]
            refine rv_iconst (v := nI 0) d_Model_order_90 (by decide) ?_
            refine rv_istore (lv' := [(6, .int (nI 0)), (5, .int (nI i)), (4, .int (-1)), (2, .long (lN q)), (1, .int k0), (0, .ref x)]) d_Model_order_91 (by decide) rfl ?_
            refine rv_iload d_Model_order_93 0 rfl ?_
            refine rv_if_eq (tgt := 143) d_Model_order_95 (by decide) (fun c_95 => ?_) (fun c_95 => ?_)
            · have e : md_bestF S q k0 i none = none := if_neg (by rw [eo, Bool.false_and]; exact Bool.false_ne_true)
              refine rv_iinc (k := 1) (v := nI (i + 1)) (lv' := [(5, .int (nI (i + 1))), (6, .int (nI 0)), (4, .int (-1)), (2, .long (lN q)), (1, .int k0), (0, .ref x)]) d_Model_order_143 rfl (nI_1 _) (by decide) rfl ?_
              refine rv_goto (tgt := 42) d_Model_order_146 (by decide) ?_
              refine rv_lv [0, 2, 3, 4, 5] rfl (ih (i + 1) none (by omega) (fun b h => by cases h) ?_)
              have z := K
              rw [show lp_fold (md_bestF S q k0) (m + 1) i none = lp_fold (md_bestF S q k0) m (i + 1) none from congrArg (lp_fold (md_bestF S q k0) m (i + 1)) e] at z
              exact z
            · exact absurd (by decide) c_95
          · refine rv_aload_n d_Model_order_77 rfl 4 rfl ?_
            refine rv_iload d_Model_order_78 0 rfl ?_
            refine rv_callV (kc' := 0) (ks' := 0) (kc1 := 0) (ks1 := 0) (As := [.int (nI i)]) (rest := []) hS.1 rfl (c_Model_isFree (t := i) hS (by omega)) ok_Model_isFree (wi_Model_order _ (List.mem_of_getElem? (i := 3) rfl)) (wi_Model_order _ (List.mem_of_getElem? (i := 4) rfl)) (wi_Model_order _ (List.mem_of_getElem? (i := 5) rfl)) rfl rfl (Nat.le_of_ble_eq_true rfl) (Nat.le_of_ble_eq_true rfl) ⟨Nat.le_of_ble_eq_true rfl, Nat.le_of_ble_eq_true rfl⟩ d_Model_order_80 (rv_kie ?_)
            refine rv_if_eq (tgt := 90) d_Model_order_83 (by decide) (fun c_83 => ?_) (fun c_83 => ?_)
            · have eo : md_open S q k0 i = false := by show (_ && (_ && !md_stuck S i)) = false; rw [bI_0.mp c_83, Bool.and_false, Bool.and_false]
              refine rv_iconst (v := nI 0) d_Model_order_90 (by decide) ?_
              refine rv_istore (lv' := [(6, .int (nI 0)), (5, .int (nI i)), (4, .int (-1)), (2, .long (lN q)), (1, .int k0), (0, .ref x)]) d_Model_order_91 (by decide) rfl ?_
              refine rv_iload d_Model_order_93 0 rfl ?_
              refine rv_if_eq (tgt := 143) d_Model_order_95 (by decide) (fun c_95 => ?_) (fun c_95 => ?_)
              · have e : md_bestF S q k0 i none = none := if_neg (by rw [eo, Bool.false_and]; exact Bool.false_ne_true)
                refine rv_iinc (k := 1) (v := nI (i + 1)) (lv' := [(5, .int (nI (i + 1))), (6, .int (nI 0)), (4, .int (-1)), (2, .long (lN q)), (1, .int k0), (0, .ref x)]) d_Model_order_143 rfl (nI_1 _) (by decide) rfl ?_
                refine rv_goto (tgt := 42) d_Model_order_146 (by decide) ?_
                refine rv_lv [0, 2, 3, 4, 5] rfl (ih (i + 1) none (by omega) (fun b h => by cases h) ?_)
                have z := K
                rw [show lp_fold (md_bestF S q k0) (m + 1) i none = lp_fold (md_bestF S q k0) m (i + 1) none from congrArg (lp_fold (md_bestF S q k0) m (i + 1)) e] at z
                exact z
              · exact absurd (by decide) c_95
            · have eo : md_open S q k0 i = true := by show (!md_mk S i && (decide _ && !md_stuck S i)) = true; rw [bI_0.mp c_58, decide_eq_true ((lg_cmp_le _ _).mp (Int32.not_lt.mp c_74)), bI_n.mp c_83]; rfl
              refine rv_iconst (v := nI 1) d_Model_order_86 (by decide) ?_
              refine rv_goto (tgt := 91) d_Model_order_87 (by decide) ?_
              refine rv_istore (lv' := [(6, .int (nI 1)), (5, .int (nI i)), (4, .int (-1)), (2, .long (lN q)), (1, .int k0), (0, .ref x)]) d_Model_order_91 (by decide) rfl ?_
              refine rv_iload d_Model_order_93 0 rfl ?_
              refine rv_if_eq (tgt := 143) d_Model_order_95 (by decide) (fun c_95 => ?_) (fun c_95 => ?_)
              · exact absurd c_95 (by decide)
              · refine rv_iload d_Model_order_98 2 rfl ?_
                refine rv_if_lt (tgt := 139) d_Model_order_100 (by decide) (fun c_100 => ?_) (fun c_100 => ?_)
                · have e : md_bestF S q k0 i none = some i := if_pos (by rw [eo]; rfl)
                  refine rv_iload d_Model_order_139 1 rfl ?_
                  refine rv_istore (lv' := [(4, .int (nI i)), (6, .int (nI 1)), (5, .int (nI i)), (2, .long (lN q)), (1, .int k0), (0, .ref x)]) d_Model_order_141 (by decide) rfl ?_
                  refine rv_iinc (k := 2) (v := nI (i + 1)) (lv' := [(5, .int (nI (i + 1))), (4, .int (nI i)), (6, .int (nI 1)), (2, .long (lN q)), (1, .int k0), (0, .ref x)]) d_Model_order_143 rfl (nI_1 _) (by decide) rfl ?_
                  refine rv_goto (tgt := 42) d_Model_order_146 (by decide) ?_
                  refine rv_lv [0, 1, 3, 4, 5] rfl (ih (i + 1) (some i) (by omega) (fun b1 h => by injection h; omega) ?_)
                  have z := K
                  rw [show lp_fold (md_bestF S q k0) (m + 1) i none = lp_fold (md_bestF S q k0) m (i + 1) (some i) from congrArg (lp_fold (md_bestF S q k0) m (i + 1)) e] at z
                  exact z
                · exact absurd (by decide) c_100
    | some b =>
      have hb0 := hb b rfl
      have vb := hv b hb0
      change ma_V l D ca ma_T M_Model_order (d + 3) 0 0 hp Q 42 [(5, .int (nI i)), (4, .int (nI b)), (2, .long (lN q)), (1, .int k0), (0, .ref x)] []
      refine rv_iload d_Model_order_42 0 rfl ?_
      refine rv_aload_n d_Model_order_44 rfl 4 rfl ?_
      refine rv_get ka_Model hS.1 rfl 0 (by decide) (wi_Model_order _ (List.mem_of_getElem? (i := 0) rfl)) rfl d_Model_order_45 ?_
      refine rv_icmp_ge (tgt := 149) d_Model_order_48 (by decide) (fun c_48 => ?_) (fun c_48 => ?_)
      · exact absurd c_48 (nI_ge (by omega) (by omega))
      · refine rv_aload_n d_Model_order_51 rfl 4 rfl ?_
        refine rv_get ka_Model hS.1 rfl 14 (by decide) (wi_Model_order _ (List.mem_of_getElem? (i := 1) rfl)) rfl d_Model_order_52 ?_
        refine rv_iload d_Model_order_55 0 rfl ?_
        refine rv_zald hA11 3 rfl (by omega) (by decide) d_Model_order_57 ?_
        refine rv_eqi (y := bI (md_mk S i)) (hmk i (by omega)) ?_
        refine rv_if_ne (tgt := 90) d_Model_order_58 (by decide) (fun c_58 => ?_) (fun c_58 => ?_)
        · have eo : md_open S q k0 i = false := by show (!_ && _) = false; rw [bI_n.mp c_58]; rfl
          refine rv_iconst (v := nI 0) d_Model_order_90 (by decide) ?_
          refine rv_istore (lv' := [(6, .int (nI 0)), (5, .int (nI i)), (4, .int (nI b)), (2, .long (lN q)), (1, .int k0), (0, .ref x)]) d_Model_order_91 (by decide) rfl ?_
          refine rv_iload d_Model_order_93 0 rfl ?_
          refine rv_if_eq (tgt := 143) d_Model_order_95 (by decide) (fun c_95 => ?_) (fun c_95 => ?_)
          · have e : md_bestF S q k0 i (some b) = (some b) := if_neg (by rw [eo, Bool.false_and]; exact Bool.false_ne_true)
            refine rv_iinc (k := 1) (v := nI (i + 1)) (lv' := [(5, .int (nI (i + 1))), (6, .int (nI 0)), (4, .int (nI b)), (2, .long (lN q)), (1, .int k0), (0, .ref x)]) d_Model_order_143 rfl (nI_1 _) (by decide) rfl ?_
            refine rv_goto (tgt := 42) d_Model_order_146 (by decide) ?_
            refine rv_lv [0, 2, 3, 4, 5] rfl (ih (i + 1) (some b) (by omega) hb ?_)
            have z := K
            rw [show lp_fold (md_bestF S q k0) (m + 1) i (some b) = lp_fold (md_bestF S q k0) m (i + 1) (some b) from congrArg (lp_fold (md_bestF S q k0) m (i + 1)) e] at z
            exact z
          · exact absurd (by decide) c_95
        · refine rv_lload_n d_Model_order_61 rfl 2 rfl ?_
          refine rv_aload_n d_Model_order_62 rfl 4 rfl ?_
          refine rv_get ka_Model hS.1 rfl 6 (by decide) (wi_Model_order _ (List.mem_of_getElem? (i := 2) rfl)) rfl d_Model_order_63 ?_
          refine rv_iload d_Model_order_66 0 rfl ?_
          refine rv_iald hA5 0 rfl (by omega) (by decide) d_Model_order_68 ?_
          refine rv_eqi (y := nI (md_si S i)) ((hv i (by omega)).2.2.1) ?_
          refine rv_i2l d_Model_order_69 ?_
          refine rv_eql (y := lN (md_si S i)) (nI_l (by omega)) ?_
          refine rv_ladd d_Model_order_70 ?_
          refine rv_eql (y := lN (q + md_si S i)) (lN_add _ _) ?_
          refine rv_iload_n d_Model_order_71 rfl 3 rfl ?_
          refine rv_i2l d_Model_order_72 ?_
          refine rv_lcmp d_Model_order_73 ?_
          refine rv_if_gt (tgt := 90) d_Model_order_74 (by decide) (fun c_74 => ?_) (fun c_74 => ?_)
          · have eo : md_open S q k0 i = false := by show (_ && (decide _ && _)) = false; rw [decide_eq_false (Int64.not_le.mpr ((lg_cmp_gt _ _).mp c_74)), Bool.false_and, Bool.and_false]
            refine rv_iconst (v := nI 0) d_Model_order_90 (by decide) ?_
            refine rv_istore (lv' := [(6, .int (nI 0)), (5, .int (nI i)), (4, .int (nI b)), (2, .long (lN q)), (1, .int k0), (0, .ref x)]) d_Model_order_91 (by decide) rfl ?_
            refine rv_iload d_Model_order_93 0 rfl ?_
            refine rv_if_eq (tgt := 143) d_Model_order_95 (by decide) (fun c_95 => ?_) (fun c_95 => ?_)
            · have e : md_bestF S q k0 i (some b) = (some b) := if_neg (by rw [eo, Bool.false_and]; exact Bool.false_ne_true)
              refine rv_iinc (k := 1) (v := nI (i + 1)) (lv' := [(5, .int (nI (i + 1))), (6, .int (nI 0)), (4, .int (nI b)), (2, .long (lN q)), (1, .int k0), (0, .ref x)]) d_Model_order_143 rfl (nI_1 _) (by decide) rfl ?_
              refine rv_goto (tgt := 42) d_Model_order_146 (by decide) ?_
              refine rv_lv [0, 2, 3, 4, 5] rfl (ih (i + 1) (some b) (by omega) hb ?_)
              have z := K
              rw [show lp_fold (md_bestF S q k0) (m + 1) i (some b) = lp_fold (md_bestF S q k0) m (i + 1) (some b) from congrArg (lp_fold (md_bestF S q k0) m (i + 1)) e] at z
              exact z
            · exact absurd (by decide) c_95
          · refine rv_aload_n d_Model_order_77 rfl 4 rfl ?_
            refine rv_iload d_Model_order_78 0 rfl ?_
            refine rv_callV (kc' := 0) (ks' := 0) (kc1 := 0) (ks1 := 0) (As := [.int (nI i)]) (rest := []) hS.1 rfl (c_Model_isFree (t := i) hS (by omega)) ok_Model_isFree (wi_Model_order _ (List.mem_of_getElem? (i := 3) rfl)) (wi_Model_order _ (List.mem_of_getElem? (i := 4) rfl)) (wi_Model_order _ (List.mem_of_getElem? (i := 5) rfl)) rfl rfl (Nat.le_of_ble_eq_true rfl) (Nat.le_of_ble_eq_true rfl) ⟨Nat.le_of_ble_eq_true rfl, Nat.le_of_ble_eq_true rfl⟩ d_Model_order_80 (rv_kie ?_)
            refine rv_if_eq (tgt := 90) d_Model_order_83 (by decide) (fun c_83 => ?_) (fun c_83 => ?_)
            · have eo : md_open S q k0 i = false := by show (_ && (_ && !md_stuck S i)) = false; rw [bI_0.mp c_83, Bool.and_false, Bool.and_false]
              refine rv_iconst (v := nI 0) d_Model_order_90 (by decide) ?_
              refine rv_istore (lv' := [(6, .int (nI 0)), (5, .int (nI i)), (4, .int (nI b)), (2, .long (lN q)), (1, .int k0), (0, .ref x)]) d_Model_order_91 (by decide) rfl ?_
              refine rv_iload d_Model_order_93 0 rfl ?_
              refine rv_if_eq (tgt := 143) d_Model_order_95 (by decide) (fun c_95 => ?_) (fun c_95 => ?_)
              · have e : md_bestF S q k0 i (some b) = (some b) := if_neg (by rw [eo, Bool.false_and]; exact Bool.false_ne_true)
                refine rv_iinc (k := 1) (v := nI (i + 1)) (lv' := [(5, .int (nI (i + 1))), (6, .int (nI 0)), (4, .int (nI b)), (2, .long (lN q)), (1, .int k0), (0, .ref x)]) d_Model_order_143 rfl (nI_1 _) (by decide) rfl ?_
                refine rv_goto (tgt := 42) d_Model_order_146 (by decide) ?_
                refine rv_lv [0, 2, 3, 4, 5] rfl (ih (i + 1) (some b) (by omega) hb ?_)
                have z := K
                rw [show lp_fold (md_bestF S q k0) (m + 1) i (some b) = lp_fold (md_bestF S q k0) m (i + 1) (some b) from congrArg (lp_fold (md_bestF S q k0) m (i + 1)) e] at z
                exact z
              · exact absurd (by decide) c_95
            · have eo : md_open S q k0 i = true := by show (!md_mk S i && (decide _ && !md_stuck S i)) = true; rw [bI_0.mp c_58, decide_eq_true ((lg_cmp_le _ _).mp (Int32.not_lt.mp c_74)), bI_n.mp c_83]; rfl
              refine rv_iconst (v := nI 1) d_Model_order_86 (by decide) ?_
              refine rv_goto (tgt := 91) d_Model_order_87 (by decide) ?_
              refine rv_istore (lv' := [(6, .int (nI 1)), (5, .int (nI i)), (4, .int (nI b)), (2, .long (lN q)), (1, .int k0), (0, .ref x)]) d_Model_order_91 (by decide) rfl ?_
              refine rv_iload d_Model_order_93 0 rfl ?_
              refine rv_if_eq (tgt := 143) d_Model_order_95 (by decide) (fun c_95 => ?_) (fun c_95 => ?_)
              · exact absurd c_95 (by decide)
              · refine rv_iload d_Model_order_98 2 rfl ?_
                refine rv_if_lt (tgt := 139) d_Model_order_100 (by decide) (fun c_100 => ?_) (fun c_100 => ?_)
                · exact absurd c_100 (Int32.not_lt.mpr (nI_le (Nat.zero_le _) (by omega)))
                · refine rv_aload_n d_Model_order_103 rfl 5 rfl ?_
                  refine rv_get ka_Model hS.1 rfl 5 (by decide) (wi_Model_order _ (List.mem_of_getElem? (i := 6) rfl)) rfl d_Model_order_104 ?_
                  refine rv_iload d_Model_order_107 1 rfl ?_
                  refine rv_lald hA4 1 rfl (by omega) (by decide) d_Model_order_109 ?_
                  refine rv_eql (y := lN (md_fe S i)) ((hv i (by omega)).1) ?_
                  refine rv_aload_n d_Model_order_110 rfl 5 rfl ?_
                  refine rv_get ka_Model hS.1 rfl 6 (by decide) (wi_Model_order _ (List.mem_of_getElem? (i := 2) rfl)) rfl d_Model_order_111 ?_
                  refine rv_iload d_Model_order_114 1 rfl ?_
                  refine rv_iald hA5 0 rfl (by omega) (by decide) d_Model_order_116 ?_
                  refine rv_eqi (y := nI (md_si S i)) ((hv i (by omega)).2.2.1) ?_
                  refine rv_i2l d_Model_order_117 ?_
                  refine rv_eql (y := lN (md_si S i)) (nI_l (by omega)) ?_
                  refine rv_aload_n d_Model_order_118 rfl 5 rfl ?_
                  refine rv_get ka_Model hS.1 rfl 5 (by decide) (wi_Model_order _ (List.mem_of_getElem? (i := 6) rfl)) rfl d_Model_order_119 ?_
                  refine rv_iload d_Model_order_122 2 rfl ?_
                  refine rv_lald hA4 1 rfl (by omega) (by decide) d_Model_order_124 ?_
                  refine rv_eql (y := lN (md_fe S b)) ((hv b (by omega)).1) ?_
                  refine rv_aload_n d_Model_order_125 rfl 5 rfl ?_
                  refine rv_get ka_Model hS.1 rfl 6 (by decide) (wi_Model_order _ (List.mem_of_getElem? (i := 2) rfl)) rfl d_Model_order_126 ?_
                  refine rv_iload d_Model_order_129 2 rfl ?_
                  refine rv_iald hA5 0 rfl (by omega) (by decide) d_Model_order_131 ?_
                  refine rv_eqi (y := nI (md_si S b)) ((hv b (by omega)).2.2.1) ?_
                  refine rv_i2l d_Model_order_132 ?_
                  refine rv_eql (y := lN (md_si S b)) (nI_l (by omega)) ?_
                  refine rv_callS (kc' := 0) (ks' := 0) (kc1 := 0) (ks1 := 0) (As := [.long (lN (md_fe S i)), .long (lN (md_si S i)), .long (lN (md_fe S b)), .long (lN (md_si S b))]) (rest := []) (c_Model_compare vi.2.2.2.1 vb.2.2.2.1 (by omega) (by omega) (by omega) (by omega)) ok_Model_compare (wi_Model_order _ (List.mem_of_getElem? (i := 7) rfl)) (wi_Model_order _ (List.mem_of_getElem? (i := 8) rfl)) rfl rfl (Nat.le_of_ble_eq_true rfl) (Nat.le_of_ble_eq_true rfl) ⟨Nat.le_of_ble_eq_true rfl, Nat.le_of_ble_eq_true rfl⟩ d_Model_order_133 (rv_kie ?_)
                  refine rv_if_le (tgt := 143) d_Model_order_136 (by decide) (fun c_136 => ?_) (fun c_136 => ?_)
                  · have e : md_bestF S q k0 i (some b) = some b := if_neg (by rw [eo]; show ¬ (true && decide (0 < md_cm (md_fe S i) (md_si S i) (md_fe S b) (md_si S b))) = true; rw [decide_eq_false (Int32.not_lt.mpr c_136)]; exact Bool.false_ne_true)
                    refine rv_iinc (k := 1) (v := nI (i + 1)) (lv' := [(5, .int (nI (i + 1))), (6, .int (nI 1)), (4, .int (nI b)), (2, .long (lN q)), (1, .int k0), (0, .ref x)]) d_Model_order_143 rfl (nI_1 _) (by decide) rfl ?_
                    refine rv_goto (tgt := 42) d_Model_order_146 (by decide) ?_
                    refine rv_lv [0, 2, 3, 4, 5] rfl (ih (i + 1) (some b) (by omega) hb ?_)
                    have z := K
                    rw [show lp_fold (md_bestF S q k0) (m + 1) i (some b) = lp_fold (md_bestF S q k0) m (i + 1) (some b) from congrArg (lp_fold (md_bestF S q k0) m (i + 1)) e] at z
                    exact z
                  · have e : md_bestF S q k0 i (some b) = some i := if_pos (by rw [eo]; show (true && decide (0 < md_cm (md_fe S i) (md_si S i) (md_fe S b) (md_si S b))) = true; rw [decide_eq_true (Int32.not_le.mp c_136)]; rfl)
                    refine rv_iload d_Model_order_139 1 rfl ?_
                    refine rv_istore (lv' := [(4, .int (nI i)), (6, .int (nI 1)), (5, .int (nI i)), (2, .long (lN q)), (1, .int k0), (0, .ref x)]) d_Model_order_141 (by decide) rfl ?_
                    refine rv_iinc (k := 2) (v := nI (i + 1)) (lv' := [(5, .int (nI (i + 1))), (4, .int (nI i)), (6, .int (nI 1)), (2, .long (lN q)), (1, .int k0), (0, .ref x)]) d_Model_order_143 rfl (nI_1 _) (by decide) rfl ?_
                    refine rv_goto (tgt := 42) d_Model_order_146 (by decide) ?_
                    refine rv_lv [0, 1, 3, 4, 5] rfl (ih (i + 1) (some i) (by omega) (fun b1 h => by injection h; omega) ?_)
                    have z := K
                    rw [show lp_fold (md_bestF S q k0) (m + 1) i (some b) = lp_fold (md_bestF S q k0) m (i + 1) (some i) from congrArg (lp_fold (md_bestF S q k0) m (i + 1)) e] at z
                    exact z
set_option maxHeartbeats 1000000 in
set_option maxRecDepth 100000 in
theorem c_Model_order_w {l : Launch} {D : va_G} {ca : Nat → ClassId} {d : Nat} {x : Nat} {A : Nat → Nat} {S : mo_S} {hp0 : hp_T} {Q : Option Value → hp_T → Prop} (hA : pi_inj A 13) {k0 : Int32} {q b : Nat} (hb : b < 42) (hr : mo_r S < 41) : ∀ (m i : Nat) (hp : hp_T) (f : Nat → Int64), i + m = 4 → mo_At ca hp x A (mo_setL S 12 f) → mo_out x A hp0 hp → (∀ hp1 : hp_T, mo_At ca hp1 x A (mo_setL S 12 (lp_fold (fun i f => vp_updL f (4 * mo_r S + i) (mo_l S 0 (4 * b + i))) m i f)) → mo_out x A hp0 hp1 → ma_V l D ca ma_T M_Model_order (d + 3) 0 0 hp1 Q 214 [(5, .int (nI 4)), (4, .int (nI b)), (2, .long (lN q)), (1, .int k0), (0, .ref x)] []) → ma_V l D ca ma_T M_Model_order (d + 3) 0 0 hp Q 176 [(5, .int (nI i)), (4, .int (nI b)), (2, .long (lN q)), (1, .int k0), (0, .ref x)] [] := by
  intro m
  induction m with
  | zero =>
    intro i hp f hi hS ho K
    obtain rfl : i = 4 := by omega
    have hA0 : hp (A 0) = some (.inl (ca 1, 168, .inr (.inl (mo_l S 0)))) := hS.2.1 0 (by decide)
    have hA12 : hp (A 12) = some (.inl (ca 1, 164, .inr (.inl f))) := hS.2.1 12 (by decide)
    refine rv_iload d_Model_order_176 0 rfl ?_
    refine rv_iconst (v := nI 4) d_Model_order_178 (by decide) ?_
    refine rv_icmp_ge (tgt := 214) d_Model_order_179 (by decide) (fun c_179 => ?_) (fun c_179 => ?_)
    · exact K hp hS ho
    · exact absurd (nI_le (by omega) (by omega)) c_179
  | succ m ih =>
    intro i hp f hi hS ho K
    have hrr : mo_r (mo_setL S 12 f) = mo_r S := rfl
    have hA0 : hp (A 0) = some (.inl (ca 1, 168, .inr (.inl (mo_l S 0)))) := hS.2.1 0 (by decide)
    have hA12 : hp (A 12) = some (.inl (ca 1, 164, .inr (.inl f))) := hS.2.1 12 (by decide)
    refine rv_iload d_Model_order_176 0 rfl ?_
    refine rv_iconst (v := nI 4) d_Model_order_178 (by decide) ?_
    refine rv_icmp_ge (tgt := 214) d_Model_order_179 (by decide) (fun c_179 => ?_) (fun c_179 => ?_)
    · exact absurd c_179 (nI_ge (by omega) (by omega))
    · refine rv_aload_n d_Model_order_182 rfl 4 rfl ?_
      refine rv_get ka_Model hS.1 rfl 15 (by decide) (wi_Model_order _ (List.mem_of_getElem? (i := 9) rfl)) rfl d_Model_order_183 ?_
      refine rv_iconst (v := nI 4) d_Model_order_186 (by decide) ?_
      refine rv_aload_n d_Model_order_187 rfl 4 rfl ?_
      refine rv_get ka_Model hS.1 rfl 16 (by decide) (wi_Model_order _ (List.mem_of_getElem? (i := 10) rfl)) rfl d_Model_order_188 ?_
      refine rv_imul d_Model_order_191 ?_
      refine rv_eqi (pk_mul _ _) ?_
      refine rv_iload d_Model_order_192 0 rfl ?_
      refine rv_iadd d_Model_order_194 ?_
      refine rv_eqi (nI_add _ _) ?_
      refine rv_aload_n d_Model_order_195 rfl 4 rfl ?_
      refine rv_get ka_Model hS.1 rfl 1 (by decide) (wi_Model_order _ (List.mem_of_getElem? (i := 11) rfl)) rfl d_Model_order_196 ?_
      refine rv_iconst (v := nI 4) d_Model_order_199 (by decide) ?_
      refine rv_iload d_Model_order_200 1 rfl ?_
      refine rv_imul d_Model_order_202 ?_
      refine rv_eqi (pk_mul _ _) ?_
      refine rv_iload d_Model_order_203 0 rfl ?_
      refine rv_iadd d_Model_order_205 ?_
      refine rv_eqi (nI_add _ _) ?_
      refine rv_lald hA0 1 rfl (by omega) (by decide) d_Model_order_206 ?_
      refine rv_last hA12 1 rfl (by omega) (by decide) d_Model_order_207
        (fun hp107 ehp107 => ?_)
      refine rv_iinc (k := 0) (v := nI (i + 1)) (lv' := [(5, .int (nI (i + 1))), (4, .int (nI b)), (2, .long (lN q)), (1, .int k0), (0, .ref x)]) d_Model_order_208 rfl (nI_1 _) (by decide) rfl ?_
      refine rv_goto (tgt := 176) d_Model_order_211 (by decide) ?_
      have hS2 := mo_putL hS hA (j := 12) (f := (fun i f => vp_updL f (4 * mo_r S + i) (mo_l S 0 (4 * b + i))) i f) (by decide) rfl (mo_okL hS.2.2)
      rw [mo_setLL] at hS2
      have eh : hp107 = hp_up hp (A 12) (mo_cell ca (mo_setL S 12 ((fun i f => vp_updL f (4 * mo_r S + i) (mo_l S 0 (4 * b + i))) i f)) 12) := ehp107
      rw [← eh] at hS2
      exact rv_lv [0, 1, 2, 3, 4] rfl (ih (i + 1) hp107 _ (by omega) hS2 (by rw [eh]; exact mo_out_tr ho (mo_out_a (by decide))) K)
set_option maxHeartbeats 1000000 in
set_option maxRecDepth 100000 in
theorem c_Model_order_l {l : Launch} {D : va_G} {ca : Nat → ClassId} {d : Nat} {x : Nat} {A : Nat → Nat} {hp0 : hp_T} (hA : pi_inj A 13) {k0 : Int32} : ∀ (m : Nat) (hp : hp_T) (S : mo_S) (q b0 : Nat), mo_z S - ct_n (md_mk S) (mo_z S) < m → mo_r S ≤ ct_n (md_mk S) (mo_z S) → b0 < 2 ^ 31 → md_iv S → mo_At ca hp x A S → mo_out x A hp0 hp → ma_V l D ca ma_T M_Model_order (d + 3) 0 0 hp (ma_qi (fun y hp1 => y = nI (mo_r (md_ordL k0 m S q)) ∧ mo_At ca hp1 x A (md_ordL k0 m S q) ∧ mo_out x A hp0 hp1)) 31 [(4, .int (nI b0)), (2, .long (lN q)), (1, .int k0), (0, .ref x)] [] := by
  intro m
  induction m with
  | zero =>
    intro hp S q b0 hm
    omega
  | succ m ih =>
    intro hp S q b0 hm hr hb0 hv hS ho
    have hsz := hS.2.2.2.2.1
    have hcl := ct_le (md_mk S) (mo_z S)
    refine rv_iload d_Model_order_31 0 rfl ?_
    refine rv_if_lt (tgt := 227) d_Model_order_33 (by decide) (fun c_33 => ?_) (fun c_33 => ?_)
    · exact absurd c_33 (Int32.not_lt.mpr (nI_le (Nat.zero_le _) (by omega)))
    · refine rv_iconst (v := (-1)) d_Model_order_36 (by decide) ?_
      refine rv_istore (lv' := [(4, .int (-1)), (2, .long (lN q)), (1, .int k0), (0, .ref x)]) d_Model_order_37 (by decide) rfl ?_
      refine rv_iconst (v := nI 0) d_Model_order_39 (by decide) ?_
      refine rv_istore (lv' := [(5, .int (nI 0)), (4, .int (-1)), (2, .long (lN q)), (1, .int k0), (0, .ref x)]) d_Model_order_40 (by decide) rfl ?_
      refine rv_lv [0, 1, 2, 3, 4] rfl (c_Model_order_b hS hv (mo_z S) 0 none (Nat.zero_add _) (fun b h => by cases h) ?_)
      change ma_V l D ca ma_T M_Model_order (d + 3) 0 0 hp _ 149 [(5, .int (nI (mo_z S))), (4, .int (ob_i (md_best S q k0))), (2, .long (lN q)), (1, .int k0), (0, .ref x)] []
      cases eb : md_best S q k0 with
      | none =>
        refine rv_lv (lv' := [(5, .int (nI (mo_z S))), (4, .int (-1)), (2, .long (lN q)), (1, .int k0), (0, .ref x)]) [0, 1, 2, 3, 4] rfl ?_
        have e : md_ordL k0 (m + 1) S q = S := by show (match md_best S q k0 with | none => S | some b => md_ordL k0 m (md_or3 S b) (q + md_si S b)) = S; rw [eb]
        rw [e]
        refine rv_iload d_Model_order_149 1 rfl ?_
        refine rv_if_lt (tgt := 31) d_Model_order_151 (by decide) (fun c_151 => ?_) (fun c_151 => ?_)
        · refine rv_iload d_Model_order_31 1 rfl ?_
          refine rv_if_lt (tgt := 227) d_Model_order_33 (by decide) (fun c_33 => ?_) (fun c_33 => ?_)
          · refine rv_aload_n d_Model_order_227 rfl 4 rfl ?_
            refine rv_get ka_Model hS.1 rfl 16 (by decide) (wi_Model_order _ (List.mem_of_getElem? (i := 10) rfl)) rfl d_Model_order_228 ?_
            exact rv_ireturn ⟨_, rfl, rfl, hS, ho⟩ d_Model_order_231 rfl rfl
          · exact absurd (by decide) c_33
        · exact absurd (by decide) c_151
      | some b =>
        refine rv_lv (lv' := [(5, .int (nI (mo_z S))), (4, .int (nI b)), (2, .long (lN q)), (1, .int k0), (0, .ref x)]) [0, 1, 2, 3, 4] rfl ?_
        have e : md_ordL k0 (m + 1) S q = md_ordL k0 m (md_or3 S b) (q + md_si S b) := by show (match md_best S q k0 with | none => S | some b => md_ordL k0 m (md_or3 S b) (q + md_si S b)) = _; rw [eb]
        rw [e]
        have hbo : 0 ≤ b ∧ b < 0 + mo_z S ∧ md_open S q k0 b = true := (md_best_some (mo_z S) 0 none b eb).resolve_left (fun z => by cases z)
        have hbz : b < mo_z S := by omega
        have hbm : md_mk S b = false := by have z := (Bool.and_eq_true _ _ |>.mp hbo.2.2).1; cases h : md_mk S b; rfl; rw [h] at z; cases z
        have hgr : ct_n (md_mk S) (mo_z S) < ct_n (va_up (md_mk S) b true) (mo_z S) := ct_grow (fun i h => by by_cases z : i = b; rw [z]; exact va_up_s; rw [va_up_n z]; exact h) b hbz hbm va_up_s
        have hcl2 := ct_le (va_up (md_mk S) b true) (mo_z S)
        have vb := hv b hbz
        have hS0 : mo_At ca hp x A (mo_M S (md_mk S)) := by rw [mo_M_self hS.2.2]; exact hS
        have hA11 : hp (A 11) = some (.inl (ca 3, 42, .inl (fun u => bI (md_mk S u)))) := hS0.2.1 11 (by decide)
        refine rv_iload d_Model_order_149 1 rfl ?_
        refine rv_if_lt (tgt := 31) d_Model_order_151 (by decide) (fun c_151 => ?_) (fun c_151 => ?_)
        · exact absurd c_151 (Int32.not_lt.mpr (nI_le (Nat.zero_le _) (by omega)))
        · refine rv_aload_n d_Model_order_154 rfl 4 rfl ?_
          refine rv_get ka_Model hS.1 rfl 14 (by decide) (wi_Model_order _ (List.mem_of_getElem? (i := 1) rfl)) rfl d_Model_order_155 ?_
          refine rv_iload d_Model_order_158 1 rfl ?_
          refine rv_iconst (v := nI 1) d_Model_order_160 (by decide) ?_
          refine rv_zast hA11 3 rfl (by omega) (by decide) rfl d_Model_order_161
            (fun hp108 ehp108 => ?_)
          have hS1 : mo_At ca hp108 x A (md_or1 S b) := by rw [show hp108 = hp_up hp (A 11) (.inl (ca 3, 42, .inl (upd (fun u => bI (md_mk S u)) b (bI true)))) from ehp108]; exact mo_putM hS0 hA (k := b) (b := true) rfl
          have ho1 : mo_out x A hp0 hp108 := by rw [ehp108]; exact mo_out_tr ho (mo_out_a (by decide))
          have hA5 : hp108 (A 5) = some (.inl (ca 0, 42, .inl (mo_i S 5))) := hS1.2.1 5 (by decide)
          refine rv_lload_n d_Model_order_162 rfl 2 rfl ?_
          refine rv_aload_n d_Model_order_163 rfl 4 rfl ?_
          refine rv_get ka_Model hS1.1 rfl 6 (by decide) (wi_Model_order _ (List.mem_of_getElem? (i := 2) rfl)) rfl d_Model_order_164 ?_
          refine rv_iload d_Model_order_167 1 rfl ?_
          refine rv_iald hA5 0 rfl (by omega) (by decide) d_Model_order_169 ?_
          refine rv_eqi (y := nI (md_si S b)) (vb.2.2.1) ?_
          refine rv_i2l d_Model_order_170 ?_
          refine rv_eql (y := lN (md_si S b)) (nI_l (by omega)) ?_
          refine rv_ladd d_Model_order_171 ?_
          refine rv_eql (y := lN (q + md_si S b)) (lN_add _ _) ?_
          refine rv_lstore_n (lv' := [(2, .long (lN (q + md_si S b))), (5, .int (nI (mo_z S))), (4, .int (nI b)), (1, .int k0), (0, .ref x)]) d_Model_order_172 rfl (by decide) rfl ?_
          refine rv_iconst (v := nI 0) d_Model_order_173 (by decide) ?_
          refine rv_istore (lv' := [(5, .int (nI 0)), (2, .long (lN (q + md_si S b))), (4, .int (nI b)), (1, .int k0), (0, .ref x)]) d_Model_order_174 (by decide) rfl ?_
          refine rv_lv [0, 2, 1, 3, 4] rfl (c_Model_order_w (S := md_or1 S b) (b := b) hA (by omega) (show mo_r S < 41 by omega) 4 0 hp108 (mo_l (md_or1 S b) 12) (Nat.zero_add _) (by rw [mo_setL_id]; exact hS1) ho1 (fun hp2 hS2 ho2 => ?_))
          have hS2 : mo_At ca hp2 x A (md_or2 S b) := hS2
          refine rv_aload_n d_Model_order_214 rfl 4 rfl ?_
          refine rv_aload_n d_Model_order_215 rfl 4 rfl ?_
          refine rv_get ka_Model hS2.1 rfl 16 (by decide) (wi_Model_order _ (List.mem_of_getElem? (i := 10) rfl)) rfl d_Model_order_216 ?_
          refine rv_iconst (v := nI 1) d_Model_order_219 (by decide) ?_
          refine rv_iadd d_Model_order_220 ?_
          refine rv_eqi (nI_add _ _) ?_
          refine rv_put (fs' := [.int (nI (mo_z (md_or2 S b))), .ref (A 0), .ref (A 1), .ref (A 2), .ref (A 3), .ref (A 4), .ref (A 5), .ref (A 6), .ref (A 7), .int (mo_c (md_or2 S b)), .ref (A 8), .int (nI (mo_t (md_or2 S b))), .ref (A 9), .ref (A 10), .ref (A 11), .ref (A 12), .int (nI ((mo_r (md_or2 S b)) + 1))]) ka_Model hS2.1 rfl 16 (by decide) (wi_Model_order _ (List.mem_of_getElem? (i := 10) rfl)) rfl rfl rfl (Nat.le_of_ble_eq_true rfl) rfl d_Model_order_221
            (fun hp109 ehp109 => ?_)
          refine rv_goto (tgt := 31) d_Model_order_224 (by decide) ?_
          have hS3 : mo_At ca hp109 x A (md_or3 S b) := by rw [ehp109]; exact mo_putX (z := mo_z S) (c := mo_c S) (t := mo_t S) (r := mo_r S + 1) hS2 ⟨hS2.2.2.1, hS2.2.2.2.1, hS2.2.2.2.2.1, hS2.2.2.2.2.2.1, by show mo_r S + 1 ≤ 41; omega⟩
          exact rv_lv [1, 2, 3, 4] rfl (ih hp109 (md_or3 S b) (q + md_si S b) b (by rw [md_or3_mk]; show mo_z S - ct_n (va_up (md_mk S) b true) (mo_z S) < m; omega) (by rw [md_or3_mk]; show mo_r S + 1 ≤ ct_n (va_up (md_mk S) b true) (mo_z S); omega) (by omega) (md_or3_iv hv) hS3 (by rw [ehp109]; exact mo_out_tr ho2 mo_out_x))
set_option maxHeartbeats 1000000 in
set_option maxRecDepth 100000 in
theorem c_Model_order_m {l : Launch} {D : va_G} {ca : Nat → ClassId} {d : Nat} {x : Nat} {A : Nat → Nat} {S : mo_S} {hp0 : hp_T} {Q : Option Value → hp_T → Prop} (hA : pi_inj A 13) {k0 : Int32} : ∀ (m i : Nat) (hp : hp_T) (mk : Nat → Bool), i + m = 42 → mo_At ca hp x A (mo_M S mk) → mo_out x A hp0 hp → (∀ hp1 : hp_T, mo_At ca hp1 x A (mo_M S (lp_fold (fun u mk => va_up mk u false) m i mk)) → mo_out x A hp0 hp1 → ma_V l D ca ma_T M_Model_order (d + 3) 0 0 hp1 Q 21 [(2, .int (nI 42)), (0, .ref x), (1, .int k0)] []) → ma_V l D ca ma_T M_Model_order (d + 3) 0 0 hp Q 2 [(2, .int (nI i)), (0, .ref x), (1, .int k0)] [] := by
  intro m
  induction m with
  | zero =>
    intro i hp mk hi hS ho K
    obtain rfl : i = 42 := by omega
    refine rv_iload_n d_Model_order_2 rfl 0 rfl ?_
    refine rv_bipush (v := nI 42) d_Model_order_3 (by decide) ?_
    refine rv_icmp_ge (tgt := 21) d_Model_order_5 (by decide) (fun c_5 => ?_) (fun c_5 => ?_)
    · exact K hp hS ho
    · exact absurd (nI_le (by omega) (by omega)) c_5
  | succ m ih =>
    intro i hp mk hi hS ho K
    have hA11 : hp (A 11) = some (.inl (ca 3, 42, .inl (fun u => bI (mk u)))) := hS.2.1 11 (by decide)
    refine rv_iload_n d_Model_order_2 rfl 0 rfl ?_
    refine rv_bipush (v := nI 42) d_Model_order_3 (by decide) ?_
    refine rv_icmp_ge (tgt := 21) d_Model_order_5 (by decide) (fun c_5 => ?_) (fun c_5 => ?_)
    · exact absurd c_5 (nI_ge (by omega) (by omega))
    · refine rv_aload_n d_Model_order_8 rfl 1 rfl ?_
      refine rv_get ka_Model hS.1 rfl 14 (by decide) (wi_Model_order _ (List.mem_of_getElem? (i := 1) rfl)) rfl d_Model_order_9 ?_
      refine rv_iload_n d_Model_order_12 rfl 0 rfl ?_
      refine rv_iconst (v := nI 0) d_Model_order_13 (by decide) ?_
      refine rv_zast hA11 3 rfl (by omega) (by decide) rfl d_Model_order_14
        (fun hp110 ehp110 => ?_)
      refine rv_iinc (k := 0) (v := nI (i + 1)) (lv' := [(2, .int (nI (i + 1))), (0, .ref x), (1, .int k0)]) d_Model_order_15 rfl (nI_1 _) (by decide) rfl ?_
      refine rv_goto (tgt := 2) d_Model_order_18 (by decide) ?_
      have hS2 := mo_putM hS hA (k := i) (b := false) (y := .inl (ca 3, 42, .inl (upd (fun u => bI (mk u)) i (bI (false))))) rfl
      have e0 : false = false := rfl
      have eh : hp110 = hp_up hp (A 11) (.inl (ca 3, 42, .inl (upd (fun u => bI (mk u)) i (bI (false))))) := by rw [ehp110, e0]; rfl
      rw [← eh] at hS2
      exact rv_lv [0, 1, 2] rfl (ih (i + 1) hp110 _ (by omega) hS2 (by rw [eh]; exact mo_out_tr ho (mo_out_a (by decide))) K)
set_option maxHeartbeats 1000000 in
set_option maxRecDepth 100000 in
theorem c_Model_order {l : Launch} {D : va_G} {ca : Nat → ClassId} {hp : hp_T} {d : Nat} {x : Nat} {A : Nat → Nat} {S : mo_S} (hS : mo_At ca hp x A S) (hA : pi_inj A 13) {k0 : Int32} (hv : md_iv S) : ma_V l D ca ma_T M_Model_order (d + 3) 0 0 hp (ma_qi (fun y hp1 => y = nI (mo_r (md_ord S k0)) ∧ mo_At ca hp1 x A (md_ord S k0) ∧ mo_out x A hp hp1)) 0 (lv_args 0 [.ref x, .int k0]) [] := by
  change ma_V l D ca ma_T M_Model_order (d + 3) 0 0 hp (ma_qi (fun y hp1 => y = nI (mo_r (md_ord S k0)) ∧ mo_At ca hp1 x A (md_ord S k0) ∧ mo_out x A hp hp1)) 0 [(0, .ref x), (1, .int k0)] []
  have hS0 : mo_At ca hp x A (mo_M S (md_mk S)) := by rw [mo_M_self hS.2.2]; exact hS
  refine rv_iconst (v := nI 0) d_Model_order_0 (by decide) ?_
  refine rv_istore_n (lv' := [(2, .int (nI 0)), (0, .ref x), (1, .int k0)]) d_Model_order_1 rfl (by decide) rfl ?_
  refine rv_lv [0, 1, 2] rfl (c_Model_order_m hA 42 0 hp (md_mk S) (Nat.zero_add _) hS0 mo_out_rf (fun hp1 hS1 ho1 => ?_))
  refine rv_aload_n d_Model_order_21 rfl 1 rfl ?_
  refine rv_iconst (v := nI 0) d_Model_order_22 (by decide) ?_
  refine rv_put (fs' := [.int (nI (mo_z (mo_M S (lp_fold (fun u mk => va_up mk u false) 42 0 (md_mk S))))), .ref (A 0), .ref (A 1), .ref (A 2), .ref (A 3), .ref (A 4), .ref (A 5), .ref (A 6), .ref (A 7), .int (mo_c (mo_M S (lp_fold (fun u mk => va_up mk u false) 42 0 (md_mk S)))), .ref (A 8), .int (nI (mo_t (mo_M S (lp_fold (fun u mk => va_up mk u false) 42 0 (md_mk S))))), .ref (A 9), .ref (A 10), .ref (A 11), .ref (A 12), .int (nI 0)]) ka_Model hS1.1 rfl 16 (by decide) (wi_Model_order _ (List.mem_of_getElem? (i := 10) rfl)) rfl rfl rfl (Nat.le_of_ble_eq_true rfl) rfl d_Model_order_23
    (fun hp111 ehp111 => ?_)
  refine rv_lconst (v := 0) d_Model_order_26 (by decide) ?_
  refine rv_lstore_n (lv' := [(2, .long 0), (0, .ref x), (1, .int k0)]) d_Model_order_27 rfl (by decide) rfl ?_
  refine rv_iconst (v := nI 0) d_Model_order_28 (by decide) ?_
  refine rv_istore (lv' := [(4, .int (nI 0)), (2, .long 0), (0, .ref x), (1, .int k0)]) d_Model_order_29 (by decide) rfl ?_
  have hS2 : mo_At ca hp111 x A (md_or0 S) := by rw [ehp111]; exact mo_putX (z := mo_z S) (c := mo_c S) (t := mo_t S) (r := 0) hS1 ⟨hS1.2.2.1, hS1.2.2.2.1, hS1.2.2.2.2.1, hS1.2.2.2.2.2.1, Nat.zero_le _⟩
  have hsz := hS.2.2.2.2.1
  exact rv_lv [0, 1, 3, 2] rfl (c_Model_order_l hA 43 hp111 (md_or0 S) 0 0 (by show mo_z S - _ < 43; omega) (Nat.zero_le _) (by decide) (md_or0_iv hv) hS2 (by rw [ehp111]; exact mo_out_tr ho1 mo_out_x))
set_option maxHeartbeats 1000000 in
set_option maxRecDepth 100000 in
theorem c_Model_come_c {l : Launch} {D : va_G} {ca : Nat → ClassId} {hp : hp_T} {d : Nat} {x : Nat} {A : Nat → Nat} {S : mo_S} (hS : mo_At ca hp x A S) {Q : Option Value → hp_T → Prop}  : ∀ (m i : Nat), i + m = mo_z S → (lp_any (fun t => md_clash S 41 t) m i = true → Q (some (.int (nI 2))) hp) → (lp_any (fun t => md_clash S 41 t) m i = false → ma_V l D ca ma_T M_Model_come (d + 4) 0 0 hp Q 36 [(2, .int (nI (mo_z S))), (0, .ref x), (1, .int (nI 41))] []) → ma_V l D ca ma_T M_Model_come (d + 4) 0 0 hp Q 11 [(2, .int (nI i)), (0, .ref x), (1, .int (nI 41))] [] := by
  have hA1 : hp (A 1) = some (.inl (ca 0, 42, .inl (mo_i S 1))) := hS.2.1 1 (by decide)
  have hA7 : hp (A 7) = some (.inl (ca 0, 42, .inl (mo_i S 7))) := hS.2.1 7 (by decide)
  have hA11 : hp (A 11) = some (.inl (ca 3, 42, .inl (mo_i S 11))) := hS.2.1 11 (by decide)
  have hsz := hS.2.2.2.2.1
  have htd := hS.2.2.2.2.2.1
  have hrs := hS.2.2.2.2.2.2
  have hsp := hS.2.2.1
  have hmk : ∀ u, u < 42 → mo_i S 11 u = bI (md_mk S u) := fun u _ => congrFun hS.2.2.2.1 u
  intro m
  induction m with
  | zero =>
    intro i hi hT hF
    obtain rfl : i = mo_z S := by omega
    refine rv_iload_n d_Model_come_11 rfl 0 rfl ?_
    refine rv_aload_n d_Model_come_12 rfl 1 rfl ?_
    refine rv_get ka_Model hS.1 rfl 0 (by decide) (wi_Model_come _ (List.mem_of_getElem? (i := 0) rfl)) rfl d_Model_come_13 ?_
    refine rv_icmp_ge (tgt := 36) d_Model_come_16 (by decide) (fun c_16 => ?_) (fun c_16 => ?_)
    · exact hF rfl
    · exact absurd (nI_le (by omega) (by omega)) c_16
  | succ m ih =>
    intro i hi hT hF
    refine rv_iload_n d_Model_come_11 rfl 0 rfl ?_
    refine rv_aload_n d_Model_come_12 rfl 1 rfl ?_
    refine rv_get ka_Model hS.1 rfl 0 (by decide) (wi_Model_come _ (List.mem_of_getElem? (i := 0) rfl)) rfl d_Model_come_13 ?_
    refine rv_icmp_ge (tgt := 36) d_Model_come_16 (by decide) (fun c_16 => ?_) (fun c_16 => ?_)
    · exact absurd c_16 (nI_ge (by omega) (by omega))
    · refine rv_aload_n d_Model_come_19 rfl 1 rfl ?_
      refine rv_iload_n d_Model_come_20 rfl 2 rfl ?_
      refine rv_iload_n d_Model_come_21 rfl 0 rfl ?_
      refine rv_callV (kc' := 0) (ks' := 0) (kc1 := 0) (ks1 := 0) (As := [.int (nI 41), .int (nI i)]) (rest := []) hS.1 rfl (c_Model_clash (t := 41) hS (by decide) (by omega)) ok_Model_clash (wi_Model_come _ (List.mem_of_getElem? (i := 1) rfl)) (wi_Model_come _ (List.mem_of_getElem? (i := 2) rfl)) (wi_Model_come _ (List.mem_of_getElem? (i := 3) rfl)) rfl rfl (Nat.le_of_ble_eq_true rfl) (Nat.le_of_ble_eq_true rfl) ⟨Nat.le_of_ble_eq_true rfl, Nat.le_of_ble_eq_true rfl⟩ d_Model_come_22 (rv_kie ?_)
      refine rv_if_eq (tgt := 30) d_Model_come_25 (by decide) (fun c_25 => ?_) (fun c_25 => ?_)
      · have e := bI_0.mp c_25
        refine rv_iinc (k := 0) (v := nI (i + 1)) (lv' := [(2, .int (nI (i + 1))), (0, .ref x), (1, .int (nI 41))]) d_Model_come_30 rfl (nI_1 _) (by decide) rfl ?_
        refine rv_goto (tgt := 11) d_Model_come_33 (by decide) ?_
        exact rv_lv [0, 1, 2] rfl (ih (i + 1) (by omega) (fun h => hT (by rw [lp_any_f e]; exact h)) (fun h => hF (by rw [lp_any_f e]; exact h)))
      · have e := bI_n.mp c_25
        refine rv_iconst (v := nI 2) d_Model_come_28 (by decide) ?_
        exact rv_ireturn (hT (lp_any_t e)) d_Model_come_29 rfl rfl
set_option maxHeartbeats 1000000 in
set_option maxRecDepth 100000 in
theorem c_Model_come_m {l : Launch} {D : va_G} {ca : Nat → ClassId} {hp : hp_T} {d : Nat} {x : Nat} {A : Nat → Nat} {S : mo_S} (hS : mo_At ca hp x A S) {Q : Option Value → hp_T → Prop}  : ∀ (m i : Nat), i + m = mo_z S → (lp_any (fun t => md_miss S 41 t || md_miss S t 41) m i = true → Q (some (.int (nI 3))) hp) → (lp_any (fun t => md_miss S 41 t || md_miss S t 41) m i = false → ma_V l D ca ma_T M_Model_come (d + 4) 0 0 hp Q 72 [(2, .int (nI (mo_z S))), (0, .ref x), (1, .int (nI 41))] []) → ma_V l D ca ma_T M_Model_come (d + 4) 0 0 hp Q 38 [(2, .int (nI i)), (0, .ref x), (1, .int (nI 41))] [] := by
  have hA1 : hp (A 1) = some (.inl (ca 0, 42, .inl (mo_i S 1))) := hS.2.1 1 (by decide)
  have hA7 : hp (A 7) = some (.inl (ca 0, 42, .inl (mo_i S 7))) := hS.2.1 7 (by decide)
  have hA11 : hp (A 11) = some (.inl (ca 3, 42, .inl (mo_i S 11))) := hS.2.1 11 (by decide)
  have hsz := hS.2.2.2.2.1
  have htd := hS.2.2.2.2.2.1
  have hrs := hS.2.2.2.2.2.2
  have hsp := hS.2.2.1
  have hmk : ∀ u, u < 42 → mo_i S 11 u = bI (md_mk S u) := fun u _ => congrFun hS.2.2.2.1 u
  intro m
  induction m with
  | zero =>
    intro i hi hT hF
    obtain rfl : i = mo_z S := by omega
    refine rv_iload_n d_Model_come_38 rfl 0 rfl ?_
    refine rv_aload_n d_Model_come_39 rfl 1 rfl ?_
    refine rv_get ka_Model hS.1 rfl 0 (by decide) (wi_Model_come _ (List.mem_of_getElem? (i := 0) rfl)) rfl d_Model_come_40 ?_
    refine rv_icmp_ge (tgt := 72) d_Model_come_43 (by decide) (fun c_43 => ?_) (fun c_43 => ?_)
    · exact hF rfl
    · exact absurd (nI_le (by omega) (by omega)) c_43
  | succ m ih =>
    intro i hi hT hF
    refine rv_iload_n d_Model_come_38 rfl 0 rfl ?_
    refine rv_aload_n d_Model_come_39 rfl 1 rfl ?_
    refine rv_get ka_Model hS.1 rfl 0 (by decide) (wi_Model_come _ (List.mem_of_getElem? (i := 0) rfl)) rfl d_Model_come_40 ?_
    refine rv_icmp_ge (tgt := 72) d_Model_come_43 (by decide) (fun c_43 => ?_) (fun c_43 => ?_)
    · exact absurd c_43 (nI_ge (by omega) (by omega))
    · refine rv_aload_n d_Model_come_46 rfl 1 rfl ?_
      refine rv_iload_n d_Model_come_47 rfl 2 rfl ?_
      refine rv_iload_n d_Model_come_48 rfl 0 rfl ?_
      refine rv_callV (kc' := 0) (ks' := 0) (kc1 := 0) (ks1 := 0) (As := [.int (nI 41), .int (nI i)]) (rest := []) hS.1 rfl (c_Model_misses (t := 41) (o := i) hS (by omega) (by omega)) ok_Model_misses (wi_Model_come _ (List.mem_of_getElem? (i := 4) rfl)) (wi_Model_come _ (List.mem_of_getElem? (i := 5) rfl)) (wi_Model_come _ (List.mem_of_getElem? (i := 6) rfl)) rfl rfl (Nat.le_of_ble_eq_true rfl) (Nat.le_of_ble_eq_true rfl) ⟨Nat.le_of_ble_eq_true rfl, Nat.le_of_ble_eq_true rfl⟩ d_Model_come_49 (rv_kie ?_)
      refine rv_if_ne (tgt := 64) d_Model_come_52 (by decide) (fun c_52 => ?_) (fun c_52 => ?_)
      · have e : (fun t => md_miss S 41 t || md_miss S t 41) i = true := by show (_ || _) = true; rw [bI_n.mp c_52, Bool.true_or]
        refine rv_iconst (v := nI 3) d_Model_come_64 (by decide) ?_
        exact rv_ireturn (hT (lp_any_t e)) d_Model_come_65 rfl rfl
      · refine rv_aload_n d_Model_come_55 rfl 1 rfl ?_
        refine rv_iload_n d_Model_come_56 rfl 0 rfl ?_
        refine rv_iload_n d_Model_come_57 rfl 2 rfl ?_
        refine rv_callV (kc' := 0) (ks' := 0) (kc1 := 0) (ks1 := 0) (As := [.int (nI i), .int (nI 41)]) (rest := []) hS.1 rfl (c_Model_misses (t := i) (o := 41) hS (by omega) (by omega)) ok_Model_misses (wi_Model_come _ (List.mem_of_getElem? (i := 4) rfl)) (wi_Model_come _ (List.mem_of_getElem? (i := 5) rfl)) (wi_Model_come _ (List.mem_of_getElem? (i := 6) rfl)) rfl rfl (Nat.le_of_ble_eq_true rfl) (Nat.le_of_ble_eq_true rfl) ⟨Nat.le_of_ble_eq_true rfl, Nat.le_of_ble_eq_true rfl⟩ d_Model_come_58 (rv_kie ?_)
        refine rv_if_eq (tgt := 66) d_Model_come_61 (by decide) (fun c_61 => ?_) (fun c_61 => ?_)
        · have e : (fun t => md_miss S 41 t || md_miss S t 41) i = false := by show (_ || _) = false; rw [bI_0.mp c_52, bI_0.mp c_61]; rfl
          refine rv_iinc (k := 0) (v := nI (i + 1)) (lv' := [(2, .int (nI (i + 1))), (0, .ref x), (1, .int (nI 41))]) d_Model_come_66 rfl (nI_1 _) (by decide) rfl ?_
          refine rv_goto (tgt := 38) d_Model_come_69 (by decide) ?_
          exact rv_lv [0, 1, 2] rfl (ih (i + 1) (by omega) (fun h => hT (by rw [lp_any_f e]; exact h)) (fun h => hF (by rw [lp_any_f e]; exact h)))
        · have e : (fun t => md_miss S 41 t || md_miss S t 41) i = true := by show (_ || _) = true; rw [bI_n.mp c_61, Bool.or_true]
          refine rv_iconst (v := nI 3) d_Model_come_64 (by decide) ?_
          exact rv_ireturn (hT (lp_any_t e)) d_Model_come_65 rfl rfl
set_option maxHeartbeats 1000000 in
set_option maxRecDepth 100000 in
theorem c_Model_come_h {l : Launch} {D : va_G} {ca : Nat → ClassId} {hp : hp_T} {d : Nat} {x : Nat} {A : Nat → Nat} {S : mo_S} {g : Nat → Bool} (hS : mo_At ca hp x A (mo_M S g)) {Q : Option Value → hp_T → Prop}  : ∀ (m i : Nat), i + m = 42 → (lp_any (fun t => g t && md_hangs S 41 t) m i = true → Q (some (.int (nI 4))) hp) → (lp_any (fun t => g t && md_hangs S 41 t) m i = false → ma_V l D ca ma_T M_Model_come (d + 4) 0 0 hp Q 115 [(2, .int (nI 42)), (0, .ref x), (1, .int (nI 41))] []) → ma_V l D ca ma_T M_Model_come (d + 4) 0 0 hp Q 83 [(2, .int (nI i)), (0, .ref x), (1, .int (nI 41))] [] := by
  have hA11 : hp (A 11) = some (.inl (ca 3, 42, .inl (fun u => bI (g u)))) := hS.2.1 11 (by decide)
  have hsz := hS.2.2.2.2.1
  have hzz : mo_z (mo_M S g) = mo_z S := rfl
  intro m
  induction m with
  | zero =>
    intro i hi hT hF
    obtain rfl : i = 42 := by omega
    refine rv_iload_n d_Model_come_83 rfl 0 rfl ?_
    refine rv_bipush (v := nI 42) d_Model_come_84 (by decide) ?_
    refine rv_icmp_ge (tgt := 115) d_Model_come_86 (by decide) (fun c_86 => ?_) (fun c_86 => ?_)
    · exact hF rfl
    · exact absurd (nI_le (by omega) (by omega)) c_86
  | succ m ih =>
    intro i hi hT hF
    refine rv_iload_n d_Model_come_83 rfl 0 rfl ?_
    refine rv_bipush (v := nI 42) d_Model_come_84 (by decide) ?_
    refine rv_icmp_ge (tgt := 115) d_Model_come_86 (by decide) (fun c_86 => ?_) (fun c_86 => ?_)
    · exact absurd c_86 (nI_ge (by omega) (by omega))
    · refine rv_aload_n d_Model_come_89 rfl 1 rfl ?_
      refine rv_get ka_Model hS.1 rfl 14 (by decide) (wi_Model_come _ (List.mem_of_getElem? (i := 7) rfl)) rfl d_Model_come_90 ?_
      refine rv_iload_n d_Model_come_93 rfl 0 rfl ?_
      refine rv_zald hA11 3 rfl (by omega) (by decide) d_Model_come_94 ?_
      refine rv_eqi (y := bI (g i)) (rfl) ?_
      refine rv_if_eq (tgt := 109) d_Model_come_95 (by decide) (fun c_95 => ?_) (fun c_95 => ?_)
      · have e : (fun t => g t && md_hangs S 41 t) i = false := by show (_ && _) = false; rw [bI_0.mp c_95, Bool.false_and]
        refine rv_iinc (k := 0) (v := nI (i + 1)) (lv' := [(2, .int (nI (i + 1))), (0, .ref x), (1, .int (nI 41))]) d_Model_come_109 rfl (nI_1 _) (by decide) rfl ?_
        refine rv_goto (tgt := 83) d_Model_come_112 (by decide) ?_
        exact rv_lv [0, 1, 2] rfl (ih (i + 1) (by omega) (fun h => hT (by rw [lp_any_f e]; exact h)) (fun h => hF (by rw [lp_any_f e]; exact h)))
      · refine rv_aload_n d_Model_come_98 rfl 1 rfl ?_
        refine rv_iload_n d_Model_come_99 rfl 2 rfl ?_
        refine rv_iload_n d_Model_come_100 rfl 0 rfl ?_
        refine rv_callV (kc' := 0) (ks' := 0) (kc1 := 0) (ks1 := 0) (As := [.int (nI 41), .int (nI i)]) (rest := []) hS.1 rfl (c_Model_hangs (t := 41) (o := i) hS (by decide) (by omega)) ok_Model_hangs (wi_Model_come _ (List.mem_of_getElem? (i := 8) rfl)) (wi_Model_come _ (List.mem_of_getElem? (i := 9) rfl)) (wi_Model_come _ (List.mem_of_getElem? (i := 10) rfl)) rfl rfl (Nat.le_of_ble_eq_true rfl) (Nat.le_of_ble_eq_true rfl) ⟨Nat.le_of_ble_eq_true rfl, Nat.le_of_ble_eq_true rfl⟩ d_Model_come_101 (rv_kie ?_)
        refine rv_eqi (y := bI (md_hangs S 41 i)) rfl ?_
        refine rv_if_eq (tgt := 109) d_Model_come_104 (by decide) (fun c_104 => ?_) (fun c_104 => ?_)
        · have e : (fun t => g t && md_hangs S 41 t) i = false := by show (_ && _) = false; rw [bI_0.mp c_104, Bool.and_false]
          refine rv_iinc (k := 0) (v := nI (i + 1)) (lv' := [(2, .int (nI (i + 1))), (0, .ref x), (1, .int (nI 41))]) d_Model_come_109 rfl (nI_1 _) (by decide) rfl ?_
          refine rv_goto (tgt := 83) d_Model_come_112 (by decide) ?_
          exact rv_lv [0, 1, 2] rfl (ih (i + 1) (by omega) (fun h => hT (by rw [lp_any_f e]; exact h)) (fun h => hF (by rw [lp_any_f e]; exact h)))
        · have e : (fun t => g t && md_hangs S 41 t) i = true := by show (_ && _) = true; rw [bI_n.mp c_95, bI_n.mp c_104]; rfl
          refine rv_iconst (v := nI 4) d_Model_come_107 (by decide) ?_
          exact rv_ireturn (hT (lp_any_t e)) d_Model_come_108 rfl rfl
set_option maxHeartbeats 1000000 in
set_option maxRecDepth 100000 in
theorem c_Model_come_o {l : Launch} {D : va_G} {ca : Nat → ClassId} {hp : hp_T} {d : Nat} {x : Nat} {A : Nat → Nat} {S : mo_S} {g : Nat → Bool} (hS : mo_At ca hp x A (mo_M S g)) {Q : Option Value → hp_T → Prop} {k : Int32} : ∀ (m i : Nat) (a : Bool), i + m = mo_z S → ma_V l D ca ma_T M_Model_come (d + 4) 0 0 hp Q 240 [(4, .int (nI (mo_z S))), (3, .int (bI (lp_fold (fun t b => b || (g t && decide (mo_i S 7 t = k))) m i a))), (2, .int k), (0, .ref x), (1, .int (nI 41))] [] → ma_V l D ca ma_T M_Model_come (d + 4) 0 0 hp Q 194 [(4, .int (nI i)), (3, .int (bI a)), (2, .int k), (0, .ref x), (1, .int (nI 41))] [] := by
  have hA11 : hp (A 11) = some (.inl (ca 3, 42, .inl (fun u => bI (g u)))) := hS.2.1 11 (by decide)
  have hsz := hS.2.2.2.2.1
  have hzz : mo_z (mo_M S g) = mo_z S := rfl
  have hA7 : hp (A 7) = some (.inl (ca 0, 42, .inl (mo_i S 7))) := hS.2.1 7 (by decide)
  intro m
  induction m with
  | zero =>
    intro i a hi K
    obtain rfl : i = mo_z S := by omega
    refine rv_iload d_Model_come_194 0 rfl ?_
    refine rv_aload_n d_Model_come_196 rfl 3 rfl ?_
    refine rv_get ka_Model hS.1 rfl 0 (by decide) (wi_Model_come _ (List.mem_of_getElem? (i := 0) rfl)) rfl d_Model_come_197 ?_
    refine rv_icmp_ge (tgt := 240) d_Model_come_200 (by decide) (fun c_200 => ?_) (fun c_200 => ?_)
    · exact K
    · exact absurd (nI_le (by omega) (by omega)) c_200
  | succ m ih =>
    intro i a hi K
    refine rv_iload d_Model_come_194 0 rfl ?_
    refine rv_aload_n d_Model_come_196 rfl 3 rfl ?_
    refine rv_get ka_Model hS.1 rfl 0 (by decide) (wi_Model_come _ (List.mem_of_getElem? (i := 0) rfl)) rfl d_Model_come_197 ?_
    refine rv_icmp_ge (tgt := 240) d_Model_come_200 (by decide) (fun c_200 => ?_) (fun c_200 => ?_)
    · exact absurd c_200 (nI_ge (by omega) (by omega))
    · refine rv_iload_n d_Model_come_203 rfl 1 rfl ?_
      refine rv_if_ne (tgt := 228) d_Model_come_204 (by decide) (fun c_204 => ?_) (fun c_204 => ?_)
      · have e : (fun t b => b || (g t && decide (mo_i S 7 t = k))) i a = true := by show (a || _) = true; rw [bI_n.mp c_204, Bool.true_or]
        refine rv_iconst (v := nI 1) d_Model_come_228 (by decide) ?_
        refine rv_goto (tgt := 233) d_Model_come_229 (by decide) ?_
        refine rv_istore_n (lv' := [(3, .int (nI 1)), (4, .int (nI i)), (2, .int k), (0, .ref x), (1, .int (nI 41))]) d_Model_come_233 rfl (by decide) rfl ?_
        refine rv_iinc (k := 1) (v := nI (i + 1)) (lv' := [(4, .int (nI (i + 1))), (3, .int (nI 1)), (2, .int k), (0, .ref x), (1, .int (nI 41))]) d_Model_come_234 rfl (nI_1 _) (by decide) rfl ?_
        refine rv_goto (tgt := 194) d_Model_come_237 (by decide) ?_
        refine rv_lv [0, 1, 2, 3, 4] rfl (ih (i + 1) true (by omega) ?_)
        have z := K
        rw [show lp_fold (fun t b => b || (g t && decide (mo_i S 7 t = k))) (m + 1) i a = lp_fold (fun t b => b || (g t && decide (mo_i S 7 t = k))) m (i + 1) true from congrArg (lp_fold (fun t b => b || (g t && decide (mo_i S 7 t = k))) m (i + 1)) e] at z
        exact z
      · refine rv_aload_n d_Model_come_207 rfl 3 rfl ?_
        refine rv_get ka_Model hS.1 rfl 14 (by decide) (wi_Model_come _ (List.mem_of_getElem? (i := 7) rfl)) rfl d_Model_come_208 ?_
        refine rv_iload d_Model_come_211 0 rfl ?_
        refine rv_zald hA11 3 rfl (by omega) (by decide) d_Model_come_213 ?_
        refine rv_eqi (y := bI (g i)) (rfl) ?_
        refine rv_if_eq (tgt := 232) d_Model_come_214 (by decide) (fun c_214 => ?_) (fun c_214 => ?_)
        · have e : (fun t b => b || (g t && decide (mo_i S 7 t = k))) i a = false := by show (a || (_ && _)) = false; rw [bI_0.mp c_204, bI_0.mp c_214]; rfl
          refine rv_iconst (v := nI 0) d_Model_come_232 (by decide) ?_
          refine rv_istore_n (lv' := [(3, .int (nI 0)), (4, .int (nI i)), (2, .int k), (0, .ref x), (1, .int (nI 41))]) d_Model_come_233 rfl (by decide) rfl ?_
          refine rv_iinc (k := 1) (v := nI (i + 1)) (lv' := [(4, .int (nI (i + 1))), (3, .int (nI 0)), (2, .int k), (0, .ref x), (1, .int (nI 41))]) d_Model_come_234 rfl (nI_1 _) (by decide) rfl ?_
          refine rv_goto (tgt := 194) d_Model_come_237 (by decide) ?_
          refine rv_lv [0, 1, 2, 3, 4] rfl (ih (i + 1) false (by omega) ?_)
          have z := K
          rw [show lp_fold (fun t b => b || (g t && decide (mo_i S 7 t = k))) (m + 1) i a = lp_fold (fun t b => b || (g t && decide (mo_i S 7 t = k))) m (i + 1) false from congrArg (lp_fold (fun t b => b || (g t && decide (mo_i S 7 t = k))) m (i + 1)) e] at z
          exact z
        · refine rv_aload_n d_Model_come_217 rfl 3 rfl ?_
          refine rv_get ka_Model hS.1 rfl 8 (by decide) (wi_Model_come _ (List.mem_of_getElem? (i := 11) rfl)) rfl d_Model_come_218 ?_
          refine rv_iload d_Model_come_221 0 rfl ?_
          refine rv_iald hA7 0 rfl (by omega) (by decide) d_Model_come_223 ?_
          refine rv_iload_n d_Model_come_224 rfl 2 rfl ?_
          refine rv_icmp_ne (tgt := 232) d_Model_come_225 (by decide) (fun c_225 => ?_) (fun c_225 => ?_)
          · have e : (fun t b => b || (g t && decide (mo_i S 7 t = k))) i a = false := by show (a || (_ && decide _)) = false; rw [bI_0.mp c_204, decide_eq_false c_225, Bool.and_false]; rfl
            refine rv_iconst (v := nI 0) d_Model_come_232 (by decide) ?_
            refine rv_istore_n (lv' := [(3, .int (nI 0)), (4, .int (nI i)), (2, .int k), (0, .ref x), (1, .int (nI 41))]) d_Model_come_233 rfl (by decide) rfl ?_
            refine rv_iinc (k := 1) (v := nI (i + 1)) (lv' := [(4, .int (nI (i + 1))), (3, .int (nI 0)), (2, .int k), (0, .ref x), (1, .int (nI 41))]) d_Model_come_234 rfl (nI_1 _) (by decide) rfl ?_
            refine rv_goto (tgt := 194) d_Model_come_237 (by decide) ?_
            refine rv_lv [0, 1, 2, 3, 4] rfl (ih (i + 1) false (by omega) ?_)
            have z := K
            rw [show lp_fold (fun t b => b || (g t && decide (mo_i S 7 t = k))) (m + 1) i a = lp_fold (fun t b => b || (g t && decide (mo_i S 7 t = k))) m (i + 1) false from congrArg (lp_fold (fun t b => b || (g t && decide (mo_i S 7 t = k))) m (i + 1)) e] at z
            exact z
          · have e : (fun t b => b || (g t && decide (mo_i S 7 t = k))) i a = true := by show (a || (_ && decide _)) = true; rw [bI_n.mp c_214, decide_eq_true c_225]; simp
            refine rv_iconst (v := nI 1) d_Model_come_228 (by decide) ?_
            refine rv_goto (tgt := 233) d_Model_come_229 (by decide) ?_
            refine rv_istore_n (lv' := [(3, .int (nI 1)), (4, .int (nI i)), (2, .int k), (0, .ref x), (1, .int (nI 41))]) d_Model_come_233 rfl (by decide) rfl ?_
            refine rv_iinc (k := 1) (v := nI (i + 1)) (lv' := [(4, .int (nI (i + 1))), (3, .int (nI 1)), (2, .int k), (0, .ref x), (1, .int (nI 41))]) d_Model_come_234 rfl (nI_1 _) (by decide) rfl ?_
            refine rv_goto (tgt := 194) d_Model_come_237 (by decide) ?_
            refine rv_lv [0, 1, 2, 3, 4] rfl (ih (i + 1) true (by omega) ?_)
            have z := K
            rw [show lp_fold (fun t b => b || (g t && decide (mo_i S 7 t = k))) (m + 1) i a = lp_fold (fun t b => b || (g t && decide (mo_i S 7 t = k))) m (i + 1) true from congrArg (lp_fold (fun t b => b || (g t && decide (mo_i S 7 t = k))) m (i + 1)) e] at z
            exact z
set_option maxHeartbeats 1000000 in
set_option maxRecDepth 100000 in
theorem c_Model_come_2 {l : Launch} {D : va_G} {ca : Nat → ClassId} {d : Nat} {x : Nat} {A : Nat → Nat} {S : mo_S} {hp0 hp : hp_T} (hS : mo_At ca hp x A S) (hA : pi_inj A 13) (hv : md_iv S) (ho : mo_out x A hp0 hp) : ma_V l D ca ma_T M_Model_come (d + 4) 0 0 hp (ma_qi (fun y hp1 => ∃ S1, md_outR S y S1 ∧ mo_At ca hp1 x A S1 ∧ mo_out x A hp0 hp1)) 172 [(0, .ref x), (1, .int (nI 41))] [] := by
  have hsz := hS.2.2.2.2.1
  have hlw := md_leasto_lt' hsz
  refine rv_aload_n d_Model_come_172 rfl 0 rfl ?_
  refine rv_get ka_Model hS.1 rfl 9 (by decide) (wi_Model_come _ (List.mem_of_getElem? (i := 12) rfl)) rfl d_Model_come_173 ?_
  refine rv_istore_n (lv' := [(2, .int (mo_c S)), (0, .ref x), (1, .int (nI 41))]) d_Model_come_176 rfl (by decide) rfl ?_
  refine rv_aload_n d_Model_come_177 rfl 1 rfl ?_
  refine rv_aload_n d_Model_come_178 rfl 1 rfl ?_
  refine rv_callV (kc' := 0) (ks' := 0) (kc1 := 0) (ks1 := 0) (As := []) (rest := [.ref x]) hS.1 rfl (c_Model_least hS hA hv) ok_Model_least (wi_Model_come _ (List.mem_of_getElem? (i := 13) rfl)) (wi_Model_come _ (List.mem_of_getElem? (i := 14) rfl)) (wi_Model_come _ (List.mem_of_getElem? (i := 15) rfl)) rfl rfl (Nat.le_of_ble_eq_true rfl) (Nat.le_of_ble_eq_true rfl) ⟨Nat.le_of_ble_eq_true rfl, Nat.le_of_ble_eq_true rfl⟩ d_Model_come_179 (rv_ki (fun r112 hp112 ehp112 => ?_))
  obtain ⟨rfl, ⟨g1, hS1⟩, ho1⟩ := ehp112
  refine rv_aload_n d_Model_come_182 rfl 1 rfl ?_
  refine rv_get ka_Model hS1.1 rfl 0 (by decide) (wi_Model_come _ (List.mem_of_getElem? (i := 0) rfl)) rfl d_Model_come_183 ?_
  refine rv_callV (kc' := 0) (ks' := 0) (kc1 := 0) (ks1 := 0) (As := [.int (nI ((md_leasto S).getD 0)), .int (nI (mo_z (mo_M S g1)))]) (rest := []) hS1.1 rfl (cf_Model_family (t := (md_leasto S).getD 0) (n := mo_z S) hS1 hA hlw (by omega)) ok_Model_family (wi_Model_come _ (List.mem_of_getElem? (i := 16) rfl)) (wi_Model_come _ (List.mem_of_getElem? (i := 17) rfl)) (wi_Model_come _ (List.mem_of_getElem? (i := 18) rfl)) rfl rfl (Nat.le_of_ble_eq_true rfl) (Nat.le_of_ble_eq_true rfl) ⟨Nat.le_of_ble_eq_true rfl, Nat.le_of_ble_eq_true rfl⟩ d_Model_come_186 (rv_kv (fun hp113 ehp113 => ?_))
  obtain ⟨g, hg, hS2, ho2⟩ := ehp113
  rw [md_famC_M] at hg
  rw [mo_MM] at hS2
  refine rv_iconst (v := nI 0) d_Model_come_189 (by decide) ?_
  refine rv_istore_n (lv' := [(3, .int (nI 0)), (2, .int (mo_c S)), (0, .ref x), (1, .int (nI 41))]) d_Model_come_190 rfl (by decide) rfl ?_
  refine rv_iconst (v := nI 0) d_Model_come_191 (by decide) ?_
  refine rv_istore (lv' := [(4, .int (nI 0)), (3, .int (nI 0)), (2, .int (mo_c S)), (0, .ref x), (1, .int (nI 41))]) d_Model_come_192 (by decide) rfl ?_
  refine rv_lv [0, 1, 2, 3, 4] rfl (c_Model_come_o (S := S) (g := g) (k := mo_c S) hS2 (mo_z S) 0 false (Nat.zero_add _) ?_)
  change ma_V l D ca ma_T M_Model_come (d + 4) 0 0 hp113 _ 240 [(4, .int (nI (mo_z S))), (3, .int (bI (md_own S g (mo_c S)))), (2, .int (mo_c S)), (0, .ref x), (1, .int (nI 41))] []
  refine rv_aload_n d_Model_come_240 rfl 3 rfl ?_
  refine rv_callV (kc' := 0) (ks' := 0) (kc1 := 0) (ks1 := 0) (As := []) (rest := []) hS2.1 rfl (c_Model_remove hS2 hA) ok_Model_remove (wi_Model_come _ (List.mem_of_getElem? (i := 19) rfl)) (wi_Model_come _ (List.mem_of_getElem? (i := 20) rfl)) (wi_Model_come _ (List.mem_of_getElem? (i := 21) rfl)) rfl rfl (Nat.le_of_ble_eq_true rfl) (Nat.le_of_ble_eq_true rfl) ⟨Nat.le_of_ble_eq_true rfl, Nat.le_of_ble_eq_true rfl⟩ d_Model_come_241 (rv_ki (fun r114 hp114 ehp114 => ?_))
  obtain ⟨ey, hSr, hor⟩ := ehp114
  refine rv_pop d_Model_come_244 rfl ?_
  refine rv_iload_n d_Model_come_245 rfl 1 rfl ?_
  refine rv_if_eq (tgt := 253) d_Model_come_246 (by decide) (fun c_246 => ?_) (fun c_246 => ?_)
  · have eo : md_own S g (mo_c S) = false := bI_0.mp c_246
    refine rv_iconst (v := nI 0) d_Model_come_253 (by decide) ?_
    exact rv_ireturn ⟨_, rfl, _, ⟨g, hg, by rw [eo]; rfl, rfl⟩, hSr, mo_out_tr ho (mo_out_tr ho1 (mo_out_tr ho2 hor))⟩ d_Model_come_254 rfl rfl
  · have eo : md_own S g (mo_c S) = true := bI_n.mp c_246
    refine rv_iconst (v := nI 5) d_Model_come_249 (by decide) ?_
    refine rv_goto (tgt := 254) d_Model_come_250 (by decide) ?_
    exact rv_ireturn ⟨_, rfl, _, ⟨g, hg, by rw [eo]; rfl, rfl⟩, hSr, mo_out_tr ho (mo_out_tr ho1 (mo_out_tr ho2 hor))⟩ d_Model_come_254 rfl rfl
set_option maxHeartbeats 1000000 in
set_option maxRecDepth 100000 in
theorem c_Model_come {l : Launch} {D : va_G} {ca : Nat → ClassId} {hp : hp_T} {d : Nat} {x : Nat} {A : Nat → Nat} {S : mo_S} (hS : mo_At ca hp x A S) (hA : pi_inj A 13) (hz : mo_z S ≤ 40) (hv : ∀ g, md_iv (md_in (mo_M S g))) : ma_V l D ca ma_T M_Model_come (d + 4) 0 0 hp (ma_qi (fun y hp1 => ∃ S1, md_comeR S y S1 ∧ mo_At ca hp1 x A S1 ∧ mo_out x A hp hp1)) 0 (lv_args 0 [.ref x, .int (nI 41)]) [] := by
  change ma_V l D ca ma_T M_Model_come (d + 4) 0 0 hp (ma_qi (fun y hp1 => ∃ S1, md_comeR S y S1 ∧ mo_At ca hp1 x A S1 ∧ mo_out x A hp hp1)) 0 [(0, .ref x), (1, .int (nI 41))] []
  have hsz := hS.2.2.2.2.1
  have htd := hS.2.2.2.2.2.1
  have hrs := hS.2.2.2.2.2.2
  have hsp := hS.2.2.1
  have hmk : ∀ u, u < 42 → mo_i S 11 u = bI (md_mk S u) := fun u _ => congrFun hS.2.2.2.1 u
  have hS0 : mo_At ca hp x A (mo_M S (md_mk S)) := by rw [mo_M_self hS.2.2]; exact hS
  refine rv_aload_n d_Model_come_0 rfl 0 rfl ?_
  refine rv_callV (kc' := 0) (ks' := 0) (kc1 := 0) (ks1 := 0) (As := []) (rest := []) hS.1 rfl (c_Model_find hS) ok_Model_find (wi_Model_come _ (List.mem_of_getElem? (i := 22) rfl)) (wi_Model_come _ (List.mem_of_getElem? (i := 23) rfl)) (wi_Model_come _ (List.mem_of_getElem? (i := 24) rfl)) rfl rfl (Nat.le_of_ble_eq_true rfl) (Nat.le_of_ble_eq_true rfl) ⟨Nat.le_of_ble_eq_true rfl, Nat.le_of_ble_eq_true rfl⟩ d_Model_come_1 (rv_kie ?_)
  cases eo : md_findo S with
  | none =>
    refine rv_eqi (y := (-1)) rfl ?_
    refine rv_if_lt (tgt := 9) d_Model_come_4 (by decide) (fun c_4 => ?_) (fun c_4 => ?_)
    · refine rv_iconst (v := nI 0) d_Model_come_9 (by decide) ?_
      refine rv_istore_n (lv' := [(2, .int (nI 0)), (0, .ref x), (1, .int (nI 41))]) d_Model_come_10 rfl (by decide) rfl ?_
      refine rv_lv [0, 1, 2] rfl (c_Model_come_c hS (mo_z S) 0 (Nat.zero_add _) (fun h1 => ?_) (fun h1 => ?_))
      · have ec : md_ch S = nI 2 := by unfold md_ch; rw [if_neg (fun z => z eo), if_pos h1]
        exact ⟨_, rfl, _, Or.inl ⟨by rw [ec]; decide, ec.symm, _, rfl⟩, hS0, mo_out_rf⟩
      · refine rv_iconst (v := nI 0) d_Model_come_36 (by decide) ?_
        refine rv_istore_n (lv' := [(2, .int (nI 0)), (0, .ref x), (1, .int (nI 41))]) d_Model_come_37 rfl (by decide) rfl ?_
        refine rv_lv [0, 1, 2] rfl (c_Model_come_m hS (mo_z S) 0 (Nat.zero_add _) (fun h2 => ?_) (fun h2 => ?_))
        · have ec : md_ch S = nI 3 := by unfold md_ch; rw [if_neg (fun z => z eo), if_neg (by rw [h1]; exact Bool.false_ne_true), if_pos h2]
          exact ⟨_, rfl, _, Or.inl ⟨by rw [ec]; decide, ec.symm, _, rfl⟩, hS0, mo_out_rf⟩
        · refine rv_aload_n d_Model_come_72 rfl 1 rfl ?_
          refine rv_iload_n d_Model_come_73 rfl 2 rfl ?_
          refine rv_aload_n d_Model_come_74 rfl 1 rfl ?_
          refine rv_get ka_Model hS.1 rfl 0 (by decide) (wi_Model_come _ (List.mem_of_getElem? (i := 0) rfl)) rfl d_Model_come_75 ?_
          refine rv_callV (kc' := 0) (ks' := 0) (kc1 := 0) (ks1 := 0) (As := [.int (nI 41), .int (nI (mo_z S))]) (rest := []) hS.1 rfl (cf_Model_family (t := 41) (n := mo_z S) hS hA (by decide) (by omega)) ok_Model_family (wi_Model_come _ (List.mem_of_getElem? (i := 16) rfl)) (wi_Model_come _ (List.mem_of_getElem? (i := 17) rfl)) (wi_Model_come _ (List.mem_of_getElem? (i := 18) rfl)) rfl rfl (Nat.le_of_ble_eq_true rfl) (Nat.le_of_ble_eq_true rfl) ⟨Nat.le_of_ble_eq_true rfl, Nat.le_of_ble_eq_true rfl⟩ d_Model_come_78 (rv_kv (fun hp115 ehp115 => ?_))
          obtain ⟨g, hg, hS1, ho1⟩ := ehp115
          have eg : lp_any (fun t => g t && md_hangs S 41 t) 42 0 = lp_any (fun t => md_famC S 41 (mo_z S) t && md_hangs S 41 t) 42 0 := lp_any_ext (fun j _ h2 => by rw [hg j (by omega)])
          refine rv_iconst (v := nI 0) d_Model_come_81 (by decide) ?_
          refine rv_istore_n (lv' := [(2, .int (nI 0)), (0, .ref x), (1, .int (nI 41))]) d_Model_come_82 rfl (by decide) rfl ?_
          refine rv_lv [0, 1, 2] rfl (c_Model_come_h hS1 42 0 (Nat.zero_add _) (fun h3 => ?_) (fun h3 => ?_))
          · have ec : md_ch S = nI 4 := by unfold md_ch; rw [if_neg (fun z => z eo), if_neg (by rw [h1]; exact Bool.false_ne_true), if_neg (by rw [h2]; exact Bool.false_ne_true), if_pos (eg ▸ h3)]
            exact ⟨_, rfl, _, Or.inl ⟨by rw [ec]; decide, ec.symm, _, rfl⟩, hS1, ho1⟩
          · have ec : md_ch S = nI 0 := by unfold md_ch; rw [if_neg (fun z => z eo), if_neg (by rw [h1]; exact Bool.false_ne_true), if_neg (by rw [h2]; exact Bool.false_ne_true), if_neg (by rw [← eg, h3]; exact Bool.false_ne_true)]
            refine rv_aload_n d_Model_come_115 rfl 1 rfl ?_
            refine rv_aload_n d_Model_come_116 rfl 1 rfl ?_
            refine rv_get ka_Model hS1.1 rfl 9 (by decide) (wi_Model_come _ (List.mem_of_getElem? (i := 12) rfl)) rfl d_Model_come_117 ?_
            refine rv_iconst (v := nI 1) d_Model_come_120 (by decide) ?_
            refine rv_iadd d_Model_come_121 ?_
            refine rv_put (fs' := [.int (nI (mo_z (mo_M S g))), .ref (A 0), .ref (A 1), .ref (A 2), .ref (A 3), .ref (A 4), .ref (A 5), .ref (A 6), .ref (A 7), .int ((mo_c (mo_M S g)) + (nI 1)), .ref (A 8), .int (nI (mo_t (mo_M S g))), .ref (A 9), .ref (A 10), .ref (A 11), .ref (A 12), .int (nI (mo_r (mo_M S g)))]) ka_Model hS1.1 rfl 9 (by decide) (wi_Model_come _ (List.mem_of_getElem? (i := 12) rfl)) rfl rfl rfl (Nat.le_of_ble_eq_true rfl) rfl d_Model_come_122
              (fun hp116 ehp116 => ?_)
            have hS2 : mo_At ca hp116 x A (md_i1 (mo_M S g)) := by rw [ehp116]; exact mo_putX (z := mo_z S) (c := mo_c S + nI 1) (t := mo_t S) (r := mo_r S) hS1 hS1.2.2
            have ho2 : mo_out x A hp hp116 := by rw [ehp116]; exact mo_out_tr ho1 mo_out_x
            have hA7 : hp116 (A 7) = some (.inl (ca 0, 42, .inl (mo_i (md_i1 (mo_M S g)) 7))) := hS2.2.1 7 (by decide)
            refine rv_aload_n d_Model_come_125 rfl 1 rfl ?_
            refine rv_get ka_Model hS2.1 rfl 8 (by decide) (wi_Model_come _ (List.mem_of_getElem? (i := 11) rfl)) rfl d_Model_come_126 ?_
            refine rv_iload_n d_Model_come_129 rfl 2 rfl ?_
            refine rv_aload_n d_Model_come_130 rfl 1 rfl ?_
            refine rv_get ka_Model hS2.1 rfl 9 (by decide) (wi_Model_come _ (List.mem_of_getElem? (i := 12) rfl)) rfl d_Model_come_131 ?_
            refine rv_iast hA7 0 rfl (by omega) (by decide) d_Model_come_134
              (fun hp117 ehp117 => ?_)
            have hS3 : mo_At ca hp117 x A (md_i2 (mo_M S g)) := by rw [ehp117]; exact mo_putI hS2 hA (j := 7) (by decide) rfl (mo_okI hS2.2.2 (by decide) (by decide))
            have ho3 : mo_out x A hp hp117 := by rw [ehp117]; exact mo_out_tr ho2 (mo_out_a (j := 7) (by decide))
            refine rv_aload_n d_Model_come_135 rfl 1 rfl ?_
            refine rv_iload_n d_Model_come_136 rfl 2 rfl ?_
            refine rv_aload_n d_Model_come_137 rfl 1 rfl ?_
            refine rv_get ka_Model hS3.1 rfl 0 (by decide) (wi_Model_come _ (List.mem_of_getElem? (i := 0) rfl)) rfl d_Model_come_138 ?_
            refine rv_callV (kc' := 0) (ks' := 0) (kc1 := 0) (ks1 := 0) (As := [.int (nI 41), .int (nI (mo_z (md_i2 (mo_M S g))))]) (rest := []) hS3.1 rfl (c_Model_copy (a := 41) (b := mo_z S) hS3 hA (by decide) (by omega)) ok_Model_copy (wi_Model_come _ (List.mem_of_getElem? (i := 25) rfl)) (wi_Model_come _ (List.mem_of_getElem? (i := 26) rfl)) (wi_Model_come _ (List.mem_of_getElem? (i := 27) rfl)) rfl rfl (Nat.le_of_ble_eq_true rfl) (Nat.le_of_ble_eq_true rfl) ⟨Nat.le_of_ble_eq_true rfl, Nat.le_of_ble_eq_true rfl⟩ d_Model_come_141 (rv_kv (fun hp118 ehp118 => ?_))
            obtain ⟨hS4, ho4⟩ := ehp118
            have hS4 : mo_At ca hp118 x A (md_i3 (mo_M S g)) := hS4
            refine rv_aload_n d_Model_come_144 rfl 1 rfl ?_
            refine rv_aload_n d_Model_come_145 rfl 1 rfl ?_
            refine rv_get ka_Model hS4.1 rfl 0 (by decide) (wi_Model_come _ (List.mem_of_getElem? (i := 0) rfl)) rfl d_Model_come_146 ?_
            refine rv_iconst (v := nI 1) d_Model_come_149 (by decide) ?_
            refine rv_iadd d_Model_come_150 ?_
            refine rv_eqi (nI_add _ _) ?_
            refine rv_put (fs' := [.int (nI ((mo_z (md_i3 (mo_M S g))) + 1)), .ref (A 0), .ref (A 1), .ref (A 2), .ref (A 3), .ref (A 4), .ref (A 5), .ref (A 6), .ref (A 7), .int (mo_c (md_i3 (mo_M S g))), .ref (A 8), .int (nI (mo_t (md_i3 (mo_M S g)))), .ref (A 9), .ref (A 10), .ref (A 11), .ref (A 12), .int (nI (mo_r (md_i3 (mo_M S g))))]) ka_Model hS4.1 rfl 0 (by decide) (wi_Model_come _ (List.mem_of_getElem? (i := 0) rfl)) rfl rfl rfl (Nat.le_of_ble_eq_true rfl) rfl d_Model_come_151
              (fun hp119 ehp119 => ?_)
            have hS5 : mo_At ca hp119 x A (md_i4 (mo_M S g)) := by rw [ehp119]; exact mo_putX (z := mo_z S + 1) (c := mo_c (md_i3 (mo_M S g))) (t := mo_t (md_i3 (mo_M S g))) (r := mo_r (md_i3 (mo_M S g))) hS4 ⟨hS4.2.2.1, hS4.2.2.2.1, by show mo_z S + 1 ≤ 41; omega, hS4.2.2.2.2.2⟩
            have ho5 : mo_out x A hp hp119 := by rw [ehp119]; exact mo_out_tr ho3 (mo_out_tr ho4 mo_out_x)
            have hA1 : hp119 (A 1) = some (.inl (ca 0, 42, .inl (mo_i (md_i4 (mo_M S g)) 1))) := hS5.2.1 1 (by decide)
            refine rv_aload_n d_Model_come_154 rfl 1 rfl ?_
            refine rv_get ka_Model hS5.1 rfl 2 (by decide) (wi_Model_come _ (List.mem_of_getElem? (i := 28) rfl)) rfl d_Model_come_155 ?_
            refine rv_iload_n d_Model_come_158 rfl 2 rfl ?_
            refine rv_iconst (v := nI 0) d_Model_come_159 (by decide) ?_
            refine rv_iast hA1 0 rfl (by omega) (by decide) d_Model_come_160
              (fun hp120 ehp120 => ?_)
            have hS6 : mo_At ca hp120 x A (md_in (mo_M S g)) := by rw [ehp120]; exact mo_putI hS5 hA (j := 1) (by decide) rfl (mo_okS hS5.2.2 (by decide))
            have ho6 : mo_out x A hp hp120 := by rw [ehp120]; exact mo_out_tr ho5 (mo_out_a (j := 1) (by decide))
            have hz6 : mo_z (md_in (mo_M S g)) = mo_z S + 1 := rfl
            refine rv_aload_n d_Model_come_161 rfl 1 rfl ?_
            refine rv_get ka_Model hS6.1 rfl 0 (by decide) (wi_Model_come _ (List.mem_of_getElem? (i := 0) rfl)) rfl d_Model_come_162 ?_
            refine rv_bipush (v := nI 40) d_Model_come_165 (by decide) ?_
            refine rv_icmp_gt (tgt := 172) d_Model_come_167 (by decide) (fun c_167 => ?_) (fun c_167 => ?_)
            · have h40 : 40 < mo_z S + 1 := by rcases Nat.lt_or_ge 40 (mo_z S + 1) with q | q; exact q; exact absurd c_167 (Int32.not_lt.mpr (nI_le (b := 40) q (by decide)))
              exact rv_post (fun v hp1 h => by obtain ⟨y, h0, S1, h1, h2⟩ := h; exact ⟨y, h0, S1, Or.inr ⟨ec, g, Or.inr ⟨h40, h1⟩⟩, h2⟩) (rv_lv [1, 2] rfl (c_Model_come_2 hS6 hA (hv g) ho6))
            · have h40 : mo_z S + 1 ≤ 40 := by rcases Nat.lt_or_ge 40 (mo_z S + 1) with q | q; exact absurd (nI_lt q (by omega)) c_167; exact q
              refine rv_iconst (v := nI 0) d_Model_come_170 (by decide) ?_
              exact rv_ireturn ⟨_, rfl, _, Or.inr ⟨ec, g, Or.inl ⟨h40, rfl, rfl⟩⟩, hS6, ho6⟩ d_Model_come_171 rfl rfl
    · exact absurd (by decide) c_4
  | some t =>
    refine rv_eqi (y := nI t) rfl ?_
    have ht : t < mo_z S := fo_lt eo
    have ec : md_ch S = nI 1 := by unfold md_ch; rw [if_pos (by rw [eo]; intro z; cases z)]
    refine rv_if_lt (tgt := 9) d_Model_come_4 (by decide) (fun c_4 => ?_) (fun c_4 => ?_)
    · exact absurd c_4 (Int32.not_lt.mpr (nI_le (Nat.zero_le _) (by omega)))
    · refine rv_iconst (v := nI 1) d_Model_come_7 (by decide) ?_
      exact rv_ireturn ⟨_, rfl, _, Or.inl ⟨by rw [ec]; decide, ec.symm, _, rfl⟩, hS0, mo_out_rf⟩ d_Model_come_8 rfl rfl
set_option maxHeartbeats 1000000 in
set_option maxRecDepth 100000 in
theorem c_Model_enter_0 {l : Launch} {D : va_G} {ca : Nat → ClassId} {d : Nat} {x : Nat} {A : Nat → Nat} {S : mo_S} {hp0 : hp_T} {Q : Option Value → hp_T → Prop} (hA : pi_inj A 13) {f0 : Int64} {z0 o0 : Int32} : ∀ (m i : Nat) (hp : hp_T) (f : Nat → Int64), i + m = 4 → mo_At ca hp x A (mo_setL S 0 f) → mo_out x A hp0 hp → (∀ hp1 : hp_T, mo_At ca hp1 x A (mo_setL S 0 (lp_fold (fun i f => vp_updL f (4 * 41 + i) (mo_l S 8 i)) m i f)) → mo_out x A hp0 hp1 → ma_V l D ca ma_T M_Model_enter (d + 5) 0 0 hp1 Q 85 [(6, .int (nI 4)), (5, .int (nI 41)), (0, .ref x), (1, .long f0), (3, .int z0), (4, .int o0)] []) → ma_V l D ca ma_T M_Model_enter (d + 5) 0 0 hp Q 54 [(6, .int (nI i)), (5, .int (nI 41)), (0, .ref x), (1, .long f0), (3, .int z0), (4, .int o0)] [] := by
  intro m
  induction m with
  | zero =>
    intro i hp f hi hS ho K
    obtain rfl : i = 4 := by omega
    have hA0 : hp (A 0) = some (.inl (ca 1, 168, .inr (.inl f))) := hS.2.1 0 (by decide)
    have hA8 : hp (A 8) = some (.inl (ca 1, 4, .inr (.inl (mo_l S 8)))) := hS.2.1 8 (by decide)
    refine rv_iload d_Model_enter_54 0 rfl ?_
    refine rv_iconst (v := nI 4) d_Model_enter_56 (by decide) ?_
    refine rv_icmp_ge (tgt := 85) d_Model_enter_57 (by decide) (fun c_57 => ?_) (fun c_57 => ?_)
    · exact K hp hS ho
    · exact absurd (nI_le (by omega) (by omega)) c_57
  | succ m ih =>
    intro i hp f hi hS ho K
    have hA0 : hp (A 0) = some (.inl (ca 1, 168, .inr (.inl f))) := hS.2.1 0 (by decide)
    have hA8 : hp (A 8) = some (.inl (ca 1, 4, .inr (.inl (mo_l S 8)))) := hS.2.1 8 (by decide)
    refine rv_iload d_Model_enter_54 0 rfl ?_
    refine rv_iconst (v := nI 4) d_Model_enter_56 (by decide) ?_
    refine rv_icmp_ge (tgt := 85) d_Model_enter_57 (by decide) (fun c_57 => ?_) (fun c_57 => ?_)
    · exact absurd c_57 (nI_ge (by omega) (by omega))
    · refine rv_aload_n d_Model_enter_60 rfl 2 rfl ?_
      refine rv_get ka_Model hS.1 rfl 1 (by decide) (wi_Model_enter _ (List.mem_of_getElem? (i := 0) rfl)) rfl d_Model_enter_61 ?_
      refine rv_iconst (v := nI 4) d_Model_enter_64 (by decide) ?_
      refine rv_iload d_Model_enter_65 1 rfl ?_
      refine rv_imul d_Model_enter_67 ?_
      refine rv_eqi (pk_mul _ _) ?_
      refine rv_iload d_Model_enter_68 0 rfl ?_
      refine rv_iadd d_Model_enter_70 ?_
      refine rv_eqi (nI_add _ _) ?_
      refine rv_aload_n d_Model_enter_71 rfl 2 rfl ?_
      refine rv_get ka_Model hS.1 rfl 10 (by decide) (wi_Model_enter _ (List.mem_of_getElem? (i := 1) rfl)) rfl d_Model_enter_72 ?_
      refine rv_iload d_Model_enter_75 0 rfl ?_
      refine rv_lald hA8 1 rfl (by omega) (by decide) d_Model_enter_77 ?_
      refine rv_last hA0 1 rfl (by omega) (by decide) d_Model_enter_78
        (fun hp121 ehp121 => ?_)
      refine rv_iinc (k := 0) (v := nI (i + 1)) (lv' := [(6, .int (nI (i + 1))), (5, .int (nI 41)), (0, .ref x), (1, .long f0), (3, .int z0), (4, .int o0)]) d_Model_enter_79 rfl (nI_1 _) (by decide) rfl ?_
      refine rv_goto (tgt := 54) d_Model_enter_82 (by decide) ?_
      have hS2 := mo_putL hS hA (j := 0) (f := (fun i f => vp_updL f (4 * 41 + i) (mo_l S 8 i)) i f) (by decide) rfl (mo_okL hS.2.2)
      rw [mo_setLL] at hS2
      have eh : hp121 = hp_up hp (A 0) (mo_cell ca (mo_setL S 0 ((fun i f => vp_updL f (4 * 41 + i) (mo_l S 8 i)) i f)) 0) := ehp121
      rw [← eh] at hS2
      exact rv_lv [0, 1, 2, 3, 4, 5] rfl (ih (i + 1) hp121 _ (by omega) hS2 (by rw [eh]; exact mo_out_tr ho (mo_out_a (by decide))) K)
set_option maxHeartbeats 1000000 in
set_option maxRecDepth 100000 in
theorem c_Model_enter_1 {l : Launch} {D : va_G} {ca : Nat → ClassId} {d : Nat} {x : Nat} {A : Nat → Nat} {S : mo_S} {hp0 : hp_T} {Q : Option Value → hp_T → Prop} (hA : pi_inj A 13) {f0 : Int64} {z0 o0 : Int32} : ∀ (m i : Nat) (hp : hp_T) (f : Nat → Int64), i + m = 32 → mo_At ca hp x A (mo_setL S 2 f) → mo_out x A hp0 hp → (∀ hp1 : hp_T, mo_At ca hp1 x A (mo_setL S 2 (lp_fold (fun i f => vp_updL f (32 * 41 + i) (mo_l S 9 i)) m i f)) → mo_out x A hp0 hp1 → ma_V l D ca ma_T M_Model_enter (d + 5) 0 0 hp1 Q 121 [(6, .int (nI 32)), (5, .int (nI 41)), (0, .ref x), (1, .long f0), (3, .int z0), (4, .int o0)] []) → ma_V l D ca ma_T M_Model_enter (d + 5) 0 0 hp Q 88 [(6, .int (nI i)), (5, .int (nI 41)), (0, .ref x), (1, .long f0), (3, .int z0), (4, .int o0)] [] := by
  intro m
  induction m with
  | zero =>
    intro i hp f hi hS ho K
    obtain rfl : i = 32 := by omega
    have hA2 : hp (A 2) = some (.inl (ca 1, 1344, .inr (.inl f))) := hS.2.1 2 (by decide)
    have hA9 : hp (A 9) = some (.inl (ca 1, 32, .inr (.inl (mo_l S 9)))) := hS.2.1 9 (by decide)
    refine rv_iload d_Model_enter_88 0 rfl ?_
    refine rv_bipush (v := nI 32) d_Model_enter_90 (by decide) ?_
    refine rv_icmp_ge (tgt := 121) d_Model_enter_92 (by decide) (fun c_92 => ?_) (fun c_92 => ?_)
    · exact K hp hS ho
    · exact absurd (nI_le (by omega) (by omega)) c_92
  | succ m ih =>
    intro i hp f hi hS ho K
    have hA2 : hp (A 2) = some (.inl (ca 1, 1344, .inr (.inl f))) := hS.2.1 2 (by decide)
    have hA9 : hp (A 9) = some (.inl (ca 1, 32, .inr (.inl (mo_l S 9)))) := hS.2.1 9 (by decide)
    refine rv_iload d_Model_enter_88 0 rfl ?_
    refine rv_bipush (v := nI 32) d_Model_enter_90 (by decide) ?_
    refine rv_icmp_ge (tgt := 121) d_Model_enter_92 (by decide) (fun c_92 => ?_) (fun c_92 => ?_)
    · exact absurd c_92 (nI_ge (by omega) (by omega))
    · refine rv_aload_n d_Model_enter_95 rfl 2 rfl ?_
      refine rv_get ka_Model hS.1 rfl 3 (by decide) (wi_Model_enter _ (List.mem_of_getElem? (i := 2) rfl)) rfl d_Model_enter_96 ?_
      refine rv_bipush (v := nI 32) d_Model_enter_99 (by decide) ?_
      refine rv_iload d_Model_enter_101 1 rfl ?_
      refine rv_imul d_Model_enter_103 ?_
      refine rv_eqi (pk_mul _ _) ?_
      refine rv_iload d_Model_enter_104 0 rfl ?_
      refine rv_iadd d_Model_enter_106 ?_
      refine rv_eqi (nI_add _ _) ?_
      refine rv_aload_n d_Model_enter_107 rfl 2 rfl ?_
      refine rv_get ka_Model hS.1 rfl 12 (by decide) (wi_Model_enter _ (List.mem_of_getElem? (i := 3) rfl)) rfl d_Model_enter_108 ?_
      refine rv_iload d_Model_enter_111 0 rfl ?_
      refine rv_lald hA9 1 rfl (by omega) (by decide) d_Model_enter_113 ?_
      refine rv_last hA2 1 rfl (by omega) (by decide) d_Model_enter_114
        (fun hp122 ehp122 => ?_)
      refine rv_iinc (k := 0) (v := nI (i + 1)) (lv' := [(6, .int (nI (i + 1))), (5, .int (nI 41)), (0, .ref x), (1, .long f0), (3, .int z0), (4, .int o0)]) d_Model_enter_115 rfl (nI_1 _) (by decide) rfl ?_
      refine rv_goto (tgt := 88) d_Model_enter_118 (by decide) ?_
      have hS2 := mo_putL hS hA (j := 2) (f := (fun i f => vp_updL f (32 * 41 + i) (mo_l S 9 i)) i f) (by decide) rfl (mo_okL hS.2.2)
      rw [mo_setLL] at hS2
      have eh : hp122 = hp_up hp (A 2) (mo_cell ca (mo_setL S 2 ((fun i f => vp_updL f (32 * 41 + i) (mo_l S 9 i)) i f)) 2) := ehp122
      rw [← eh] at hS2
      exact rv_lv [0, 1, 2, 3, 4, 5] rfl (ih (i + 1) hp122 _ (by omega) hS2 (by rw [eh]; exact mo_out_tr ho (mo_out_a (by decide))) K)
set_option maxHeartbeats 1000000 in
set_option maxRecDepth 100000 in
theorem c_Model_enter_2 {l : Launch} {D : va_G} {ca : Nat → ClassId} {d : Nat} {x : Nat} {A : Nat → Nat} {S : mo_S} {hp0 : hp_T} {Q : Option Value → hp_T → Prop} (hA : pi_inj A 13) {f0 : Int64} {z0 o0 : Int32} : ∀ (m i : Nat) (hp : hp_T) (f : Nat → Int32), i + m = 8 → mo_At ca hp x A (mo_setI S 3 f) → mo_out x A hp0 hp → (∀ hp1 : hp_T, mo_At ca hp1 x A (mo_setI S 3 (lp_fold (fun i f => upd f (8 * 41 + i) (mo_i S 10 i)) m i f)) → mo_out x A hp0 hp1 → ma_V l D ca ma_T M_Model_enter (d + 5) 0 0 hp1 Q 157 [(6, .int (nI 8)), (5, .int (nI 41)), (0, .ref x), (1, .long f0), (3, .int z0), (4, .int o0)] []) → ma_V l D ca ma_T M_Model_enter (d + 5) 0 0 hp Q 124 [(6, .int (nI i)), (5, .int (nI 41)), (0, .ref x), (1, .long f0), (3, .int z0), (4, .int o0)] [] := by
  intro m
  induction m with
  | zero =>
    intro i hp f hi hS ho K
    obtain rfl : i = 8 := by omega
    have hA3 : hp (A 3) = some (.inl (ca 0, 336, .inl f)) := hS.2.1 3 (by decide)
    have hA10 : hp (A 10) = some (.inl (ca 0, 8, .inl (mo_i S 10))) := hS.2.1 10 (by decide)
    refine rv_iload d_Model_enter_124 0 rfl ?_
    refine rv_bipush (v := nI 8) d_Model_enter_126 (by decide) ?_
    refine rv_icmp_ge (tgt := 157) d_Model_enter_128 (by decide) (fun c_128 => ?_) (fun c_128 => ?_)
    · exact K hp hS ho
    · exact absurd (nI_le (by omega) (by omega)) c_128
  | succ m ih =>
    intro i hp f hi hS ho K
    have hA3 : hp (A 3) = some (.inl (ca 0, 336, .inl f)) := hS.2.1 3 (by decide)
    have hA10 : hp (A 10) = some (.inl (ca 0, 8, .inl (mo_i S 10))) := hS.2.1 10 (by decide)
    refine rv_iload d_Model_enter_124 0 rfl ?_
    refine rv_bipush (v := nI 8) d_Model_enter_126 (by decide) ?_
    refine rv_icmp_ge (tgt := 157) d_Model_enter_128 (by decide) (fun c_128 => ?_) (fun c_128 => ?_)
    · exact absurd c_128 (nI_ge (by omega) (by omega))
    · refine rv_aload_n d_Model_enter_131 rfl 2 rfl ?_
      refine rv_get ka_Model hS.1 rfl 4 (by decide) (wi_Model_enter _ (List.mem_of_getElem? (i := 4) rfl)) rfl d_Model_enter_132 ?_
      refine rv_bipush (v := nI 8) d_Model_enter_135 (by decide) ?_
      refine rv_iload d_Model_enter_137 1 rfl ?_
      refine rv_imul d_Model_enter_139 ?_
      refine rv_eqi (pk_mul _ _) ?_
      refine rv_iload d_Model_enter_140 0 rfl ?_
      refine rv_iadd d_Model_enter_142 ?_
      refine rv_eqi (nI_add _ _) ?_
      refine rv_aload_n d_Model_enter_143 rfl 2 rfl ?_
      refine rv_get ka_Model hS.1 rfl 13 (by decide) (wi_Model_enter _ (List.mem_of_getElem? (i := 5) rfl)) rfl d_Model_enter_144 ?_
      refine rv_iload d_Model_enter_147 0 rfl ?_
      refine rv_iald hA10 0 rfl (by omega) (by decide) d_Model_enter_149 ?_
      refine rv_iast hA3 0 rfl (by omega) (by decide) d_Model_enter_150
        (fun hp123 ehp123 => ?_)
      refine rv_iinc (k := 0) (v := nI (i + 1)) (lv' := [(6, .int (nI (i + 1))), (5, .int (nI 41)), (0, .ref x), (1, .long f0), (3, .int z0), (4, .int o0)]) d_Model_enter_151 rfl (nI_1 _) (by decide) rfl ?_
      refine rv_goto (tgt := 124) d_Model_enter_154 (by decide) ?_
      have hS2 := mo_putI hS hA (j := 3) (f := (fun i f => upd f (8 * 41 + i) (mo_i S 10 i)) i f) (by decide) rfl (mo_okI hS.2.2 (by decide) (by decide))
      rw [mo_setII] at hS2
      have eh : hp123 = hp_up hp (A 3) (mo_cell ca (mo_setI S 3 ((fun i f => upd f (8 * 41 + i) (mo_i S 10 i)) i f)) 3) := ehp123
      rw [← eh] at hS2
      exact rv_lv [0, 1, 2, 3, 4, 5] rfl (ih (i + 1) hp123 _ (by omega) hS2 (by rw [eh]; exact mo_out_tr ho (mo_out_a (by decide))) K)
set_option maxHeartbeats 1000000 in
set_option maxRecDepth 100000 in
theorem c_Model_enter {l : Launch} {D : va_G} {ca : Nat → ClassId} {hp : hp_T} {d : Nat} {x : Nat} {A : Nat → Nat} {S : mo_S} (hS : mo_At ca hp x A S) (hA : pi_inj A 13) {f0 : Int64} {z0 o0 : Int32} (hz : mo_z S ≤ 40) (hv : cl_isTx f0 z0 o0 = true → ∀ g, md_iv (md_in (mo_M (md_en S f0 z0 o0) g))) : ma_V l D ca ma_T M_Model_enter (d + 5) 0 0 hp (ma_qi (fun y hp1 => ∃ S1, md_enterR S f0 z0 o0 y S1 ∧ mo_At ca hp1 x A S1 ∧ mo_out x A hp hp1)) 0 (lv_args 0 [.ref x, .long f0, .int z0, .int o0]) [] := by
  change ma_V l D ca ma_T M_Model_enter (d + 5) 0 0 hp (ma_qi (fun y hp1 => ∃ S1, md_enterR S f0 z0 o0 y S1 ∧ mo_At ca hp1 x A S1 ∧ mo_out x A hp hp1)) 0 [(0, .ref x), (1, .long f0), (3, .int z0), (4, .int o0)] []
  have htd := hS.2.2.2.2.2.1
  refine rv_aload_n d_Model_enter_0 rfl 0 rfl ?_
  refine rv_get ka_Model hS.1 rfl 11 (by decide) (wi_Model_enter _ (List.mem_of_getElem? (i := 6) rfl)) rfl d_Model_enter_1 ?_
  refine rv_if_eq (tgt := 45) d_Model_enter_4 (by decide) (fun c_4 => ?_) (fun c_4 => ?_)
  · have e : mo_t S = 0 ∨ cl_isTx f0 z0 o0 = false := Or.inl ((nI_eq (b := 0) (by omega) (by decide)).mp c_4)
    refine rv_iconst (v := (-1)) d_Model_enter_45 (by decide) ?_
    exact rv_ireturn ⟨_, rfl, _, Or.inl ⟨e, rfl, rfl⟩, hS, mo_out_rf⟩ d_Model_enter_46 rfl rfl
  · have t0 : ¬ mo_t S = 0 := fun z => c_4 (by rw [z]; rfl)
    refine rv_lload_n d_Model_enter_7 rfl 1 rfl ?_
    refine rv_lconst (v := 0) d_Model_enter_8 (by decide) ?_
    refine rv_lcmp d_Model_enter_9 ?_
    refine rv_if_lt (tgt := 45) d_Model_enter_10 (by decide) (fun c_10 => ?_) (fun c_10 => ?_)
    · have e : mo_t S = 0 ∨ cl_isTx f0 z0 o0 = false := Or.inr (by simp [cl_isTx, Int64.not_le.mpr ((lg_cmp_lt _ _).mp c_10)])
      refine rv_iconst (v := (-1)) d_Model_enter_45 (by decide) ?_
      exact rv_ireturn ⟨_, rfl, _, Or.inl ⟨e, rfl, rfl⟩, hS, mo_out_rf⟩ d_Model_enter_46 rfl rfl
    · have q0 := (lg_cmp_ge _ _).mp (Int32.not_lt.mp c_10)
      refine rv_lload_n d_Model_enter_13 rfl 1 rfl ?_
      refine rv_ldc2 (v := 2100000000000000) d_Model_enter_14 (wi_Model_enter _ (List.mem_of_getElem? (i := 7) rfl)) ?_
      refine rv_lcmp d_Model_enter_17 ?_
      refine rv_if_gt (tgt := 45) d_Model_enter_18 (by decide) (fun c_18 => ?_) (fun c_18 => ?_)
      · have e : mo_t S = 0 ∨ cl_isTx f0 z0 o0 = false := Or.inr (by simp [cl_isTx, Int64.not_le.mpr ((lg_cmp_gt _ _).mp c_18)])
        refine rv_iconst (v := (-1)) d_Model_enter_45 (by decide) ?_
        exact rv_ireturn ⟨_, rfl, _, Or.inl ⟨e, rfl, rfl⟩, hS, mo_out_rf⟩ d_Model_enter_46 rfl rfl
      · have q1 := (lg_cmp_le _ _).mp (Int32.not_lt.mp c_18)
        refine rv_iload_n d_Model_enter_21 rfl 2 rfl ?_
        refine rv_iconst (v := nI 1) d_Model_enter_22 (by decide) ?_
        refine rv_icmp_lt (tgt := 45) d_Model_enter_23 (by decide) (fun c_23 => ?_) (fun c_23 => ?_)
        · have e : mo_t S = 0 ∨ cl_isTx f0 z0 o0 = false := Or.inr (by simp [cl_isTx, Int32.not_le.mpr c_23])
          refine rv_iconst (v := (-1)) d_Model_enter_45 (by decide) ?_
          exact rv_ireturn ⟨_, rfl, _, Or.inl ⟨e, rfl, rfl⟩, hS, mo_out_rf⟩ d_Model_enter_46 rfl rfl
        · have q2 := Int32.not_lt.mp c_23
          refine rv_iload_n d_Model_enter_26 rfl 2 rfl ?_
          refine rv_sipush (v := nI 2000) d_Model_enter_27 (by decide) ?_
          refine rv_icmp_gt (tgt := 45) d_Model_enter_30 (by decide) (fun c_30 => ?_) (fun c_30 => ?_)
          · have e : mo_t S = 0 ∨ cl_isTx f0 z0 o0 = false := Or.inr (by simp [cl_isTx, Int32.not_le.mpr c_30])
            refine rv_iconst (v := (-1)) d_Model_enter_45 (by decide) ?_
            exact rv_ireturn ⟨_, rfl, _, Or.inl ⟨e, rfl, rfl⟩, hS, mo_out_rf⟩ d_Model_enter_46 rfl rfl
          · have q3 := Int32.not_lt.mp c_30
            refine rv_iload d_Model_enter_33 3 rfl ?_
            refine rv_if_lt (tgt := 45) d_Model_enter_35 (by decide) (fun c_35 => ?_) (fun c_35 => ?_)
            · have e : mo_t S = 0 ∨ cl_isTx f0 z0 o0 = false := Or.inr (by simp [cl_isTx, Int32.not_le.mpr c_35])
              refine rv_iconst (v := (-1)) d_Model_enter_45 (by decide) ?_
              exact rv_ireturn ⟨_, rfl, _, Or.inl ⟨e, rfl, rfl⟩, hS, mo_out_rf⟩ d_Model_enter_46 rfl rfl
            · have q4 := Int32.not_lt.mp c_35
              refine rv_iload d_Model_enter_38 3 rfl ?_
              refine rv_bipush (v := nI 8) d_Model_enter_40 (by decide) ?_
              refine rv_icmp_le (tgt := 47) d_Model_enter_42 (by decide) (fun c_42 => ?_) (fun c_42 => ?_)
              · have eT : cl_isTx f0 z0 o0 = true := by simp [cl_isTx, q0, q1, q2, q3, q4, c_42]
                refine rv_bipush (v := nI 41) d_Model_enter_47 (by decide) ?_
                refine rv_istore (lv' := [(5, .int (nI 41)), (0, .ref x), (1, .long f0), (3, .int z0), (4, .int o0)]) d_Model_enter_49 (by decide) rfl ?_
                refine rv_iconst (v := nI 0) d_Model_enter_51 (by decide) ?_
                refine rv_istore (lv' := [(6, .int (nI 0)), (5, .int (nI 41)), (0, .ref x), (1, .long f0), (3, .int z0), (4, .int o0)]) d_Model_enter_52 (by decide) rfl ?_
                refine rv_lv [0, 1, 2, 3, 4, 5] rfl (c_Model_enter_0 (S := S) hA 4 0 hp (mo_l S 0) (Nat.zero_add _) (by rw [mo_setL_id]; exact hS) mo_out_rf (fun hp1 hS1 ho1 => ?_))
                have hS1 : mo_At ca hp1 x A (md_e1 S) := hS1
                refine rv_iconst (v := nI 0) d_Model_enter_85 (by decide) ?_
                refine rv_istore (lv' := [(6, .int (nI 0)), (5, .int (nI 41)), (0, .ref x), (1, .long f0), (3, .int z0), (4, .int o0)]) d_Model_enter_86 (by decide) rfl ?_
                refine rv_lv [0, 1, 2, 3, 4, 5] rfl (c_Model_enter_1 (S := md_e1 S) hA 32 0 hp1 (mo_l (md_e1 S) 2) (Nat.zero_add _) (by rw [mo_setL_id]; exact hS1) ho1 (fun hp2 hS2 ho2 => ?_))
                have hS2 : mo_At ca hp2 x A (md_e2 S) := hS2
                refine rv_iconst (v := nI 0) d_Model_enter_121 (by decide) ?_
                refine rv_istore (lv' := [(6, .int (nI 0)), (5, .int (nI 41)), (0, .ref x), (1, .long f0), (3, .int z0), (4, .int o0)]) d_Model_enter_122 (by decide) rfl ?_
                refine rv_lv [0, 1, 2, 3, 4, 5] rfl (c_Model_enter_2 (S := md_e2 S) hA 8 0 hp2 (mo_i (md_e2 S) 3) (Nat.zero_add _) (by rw [mo_setI_id]; exact hS2) ho2 (fun hp3 hS3 ho3 => ?_))
                have hS3 : mo_At ca hp3 x A (md_e3 S) := hS3
                have hA1 : hp3 (A 1) = some (.inl (ca 0, 42, .inl (mo_i (md_e3 S) 1))) := hS3.2.1 1 (by decide)
                refine rv_aload_n d_Model_enter_157 rfl 2 rfl ?_
                refine rv_get ka_Model hS3.1 rfl 2 (by decide) (wi_Model_enter _ (List.mem_of_getElem? (i := 8) rfl)) rfl d_Model_enter_158 ?_
                refine rv_iload d_Model_enter_161 1 rfl ?_
                refine rv_aload_n d_Model_enter_163 rfl 2 rfl ?_
                refine rv_get ka_Model hS3.1 rfl 11 (by decide) (wi_Model_enter _ (List.mem_of_getElem? (i := 6) rfl)) rfl d_Model_enter_164 ?_
                refine rv_iast hA1 0 rfl (by omega) (by decide) d_Model_enter_167
                  (fun hp124 ehp124 => ?_)
                have hS4 : mo_At ca hp124 x A (md_e4 S) := by rw [ehp124]; exact mo_putI hS3 hA (j := 1) (by decide) rfl (mo_okS hS3.2.2 htd)
                have ho4 : mo_out x A hp hp124 := by rw [ehp124]; exact mo_out_tr ho3 (mo_out_a (j := 1) (by decide))
                have hA4 : hp124 (A 4) = some (.inl (ca 1, 42, .inr (.inl (mo_l (md_e4 S) 4)))) := hS4.2.1 4 (by decide)
                refine rv_aload_n d_Model_enter_168 rfl 2 rfl ?_
                refine rv_get ka_Model hS4.1 rfl 5 (by decide) (wi_Model_enter _ (List.mem_of_getElem? (i := 9) rfl)) rfl d_Model_enter_169 ?_
                refine rv_iload d_Model_enter_172 1 rfl ?_
                refine rv_lload_n d_Model_enter_174 rfl 3 rfl ?_
                refine rv_last hA4 1 rfl (by omega) (by decide) d_Model_enter_175
                  (fun hp125 ehp125 => ?_)
                have hS5 : mo_At ca hp125 x A (md_e5 S f0) := by rw [ehp125]; exact mo_putL hS4 hA (j := 4) (by decide) rfl (mo_okL hS4.2.2)
                have ho5 : mo_out x A hp hp125 := by rw [ehp125]; exact mo_out_tr ho4 (mo_out_a (j := 4) (by decide))
                have hA5 : hp125 (A 5) = some (.inl (ca 0, 42, .inl (mo_i (md_e5 S f0) 5))) := hS5.2.1 5 (by decide)
                refine rv_aload_n d_Model_enter_176 rfl 2 rfl ?_
                refine rv_get ka_Model hS5.1 rfl 6 (by decide) (wi_Model_enter _ (List.mem_of_getElem? (i := 10) rfl)) rfl d_Model_enter_177 ?_
                refine rv_iload d_Model_enter_180 1 rfl ?_
                refine rv_iload_n d_Model_enter_182 rfl 4 rfl ?_
                refine rv_iast hA5 0 rfl (by omega) (by decide) d_Model_enter_183
                  (fun hp126 ehp126 => ?_)
                have hS6 : mo_At ca hp126 x A (md_e6 S f0 z0) := by rw [ehp126]; exact mo_putI hS5 hA (j := 5) (by decide) rfl (mo_okI hS5.2.2 (by decide) (by decide))
                have ho6 : mo_out x A hp hp126 := by rw [ehp126]; exact mo_out_tr ho5 (mo_out_a (j := 5) (by decide))
                have hA6 : hp126 (A 6) = some (.inl (ca 0, 42, .inl (mo_i (md_e6 S f0 z0) 6))) := hS6.2.1 6 (by decide)
                refine rv_aload_n d_Model_enter_184 rfl 2 rfl ?_
                refine rv_get ka_Model hS6.1 rfl 7 (by decide) (wi_Model_enter _ (List.mem_of_getElem? (i := 11) rfl)) rfl d_Model_enter_185 ?_
                refine rv_iload d_Model_enter_188 1 rfl ?_
                refine rv_iload d_Model_enter_190 5 rfl ?_
                refine rv_iast hA6 0 rfl (by omega) (by decide) d_Model_enter_192
                  (fun hp127 ehp127 => ?_)
                have hS7 : mo_At ca hp127 x A (md_e7 S f0 z0 o0) := by rw [ehp127]; exact mo_putI hS6 hA (j := 6) (by decide) rfl (mo_okI hS6.2.2 (by decide) (by decide))
                have ho7 : mo_out x A hp hp127 := by rw [ehp127]; exact mo_out_tr ho6 (mo_out_a (j := 6) (by decide))
                refine rv_aload_n d_Model_enter_193 rfl 2 rfl ?_
                refine rv_iconst (v := nI 0) d_Model_enter_194 (by decide) ?_
                refine rv_put (fs' := [.int (nI (mo_z (md_e7 S f0 z0 o0))), .ref (A 0), .ref (A 1), .ref (A 2), .ref (A 3), .ref (A 4), .ref (A 5), .ref (A 6), .ref (A 7), .int (mo_c (md_e7 S f0 z0 o0)), .ref (A 8), .int (nI 0), .ref (A 9), .ref (A 10), .ref (A 11), .ref (A 12), .int (nI (mo_r (md_e7 S f0 z0 o0)))]) ka_Model hS7.1 rfl 11 (by decide) (wi_Model_enter _ (List.mem_of_getElem? (i := 6) rfl)) rfl rfl rfl (Nat.le_of_ble_eq_true rfl) rfl d_Model_enter_195
                  (fun hp128 ehp128 => ?_)
                have hS8 : mo_At ca hp128 x A (md_en S f0 z0 o0) := by rw [ehp128]; exact mo_putX (z := mo_z S) (c := mo_c S) (t := 0) (r := mo_r S) hS7 ⟨hS7.2.2.1, hS7.2.2.2.1, hS7.2.2.2.2.1, Nat.zero_le _, hS7.2.2.2.2.2.2⟩
                have ho8 : mo_out x A hp hp128 := by rw [ehp128]; exact mo_out_tr ho7 mo_out_x
                refine rv_aload_n d_Model_enter_198 rfl 2 rfl ?_
                refine rv_iload d_Model_enter_199 1 rfl ?_
                refine rv_callV (kc' := 0) (ks' := 0) (kc1 := 0) (ks1 := 0) (As := [.int (nI 41)]) (rest := []) hS8.1 rfl (c_Model_come hS8 hA hz (hv eT)) ok_Model_come (wi_Model_enter _ (List.mem_of_getElem? (i := 12) rfl)) (wi_Model_enter _ (List.mem_of_getElem? (i := 13) rfl)) (wi_Model_enter _ (List.mem_of_getElem? (i := 14) rfl)) rfl rfl (Nat.le_of_ble_eq_true rfl) (Nat.le_of_ble_eq_true rfl) ⟨Nat.le_of_ble_eq_true rfl, Nat.le_of_ble_eq_true rfl⟩ d_Model_enter_201 (rv_ki (fun r129 hp129 ehp129 => ?_))
                obtain ⟨S1, ey, hSr, hor⟩ := ehp129
                exact rv_ireturn ⟨_, rfl, S1, Or.inr ⟨t0, eT, ey⟩, hSr, mo_out_tr ho8 hor⟩ d_Model_enter_204 rfl rfl
              · have e : mo_t S = 0 ∨ cl_isTx f0 z0 o0 = false := Or.inr (by simp [cl_isTx, c_42])
                refine rv_iconst (v := (-1)) d_Model_enter_45 (by decide) ?_
                exact rv_ireturn ⟨_, rfl, _, Or.inl ⟨e, rfl, rfl⟩, hS, mo_out_rf⟩ d_Model_enter_46 rfl rfl
set_option maxHeartbeats 1000000 in
set_option maxRecDepth 100000 in
theorem c_Model_init {l : Launch} {D : va_G} {ca : Nat → ClassId} {hp : hp_T} {d : Nat} {x : Nat} (h : hp x = some (.inr (6, [.int 0, .null, .null, .null, .null, .null, .null, .null, .null, .int 0, .null, .int 0, .null, .null, .null, .null, .int 0]))) : ma_V l D ca ma_T M_Model_init (d + 1) 13 2308 hp (ma_qv (fun hp1 => ∃ A : Nat → Nat, mo_At ca hp1 x A mo_0 ∧ pi_inj A 13 ∧ (∀ j, j < 13 → hp (A j) = none) ∧ hp_ke x hp hp1)) 0 (lv_args 0 [.ref x]) [] := by
  change ma_V l D ca ma_T M_Model_init (d + 1) 13 2308 hp (ma_qv (fun hp1 => ∃ A : Nat → Nat, mo_At ca hp1 x A mo_0 ∧ pi_inj A 13 ∧ (∀ j, j < 13 → hp (A j) = none) ∧ hp_ke x hp hp1)) 0 [(0, .ref x)] []
  have hM0 : mi_At ca hp hp x (fun _ => 0) 0 [.int 0, .null, .null, .null, .null, .null, .null, .null, .null, .int 0, .null, .int 0, .null, .null, .null, .null, .int 0] := mi_start h
  refine rv_aload_n d_Model_init_0 rfl 0 rfl ?_
  refine rv_obj (wi_Model_init _ (List.mem_of_getElem? (i := 0) rfl)) (wi_Model_init _ (List.mem_of_getElem? (i := 1) rfl)) (wi_Model_init _ (List.mem_of_getElem? (i := 2) rfl)) (Nat.le_of_ble_eq_true rfl) d_Model_init_1 ?_
  refine rv_aload_n d_Model_init_4 rfl 0 rfl ?_
  refine rv_sipush (v := nI 168) d_Model_init_5 (by decide) ?_
  refine rv_newa (atype := .long) (ty := .long) (cA := ca 1) (n := 168) (a0 := (168, .inr (.inl (fun _ => 0)))) (kc1 := 12) (ks1 := 2140) rfl 1 rfl (wi_Model_init _ (List.mem_of_getElem? (i := 3) rfl)) (fun c => vp_cell_l c 168 _) (by decide) (by decide) ⟨by omega, by omega⟩ d_Model_init_8 (fun q0 hp130 hfr130 ehp130 => ?_)
  have hx130 : hp130 x = some (.inr (6, [.int 0, .null, .null, .null, .null, .null, .null, .null, .null, .int 0, .null, .int 0, .null, .null, .null, .null, .int 0])) := by rw [ehp130, hp_un (hp_nn hM0.1 hfr130)]; exact hM0.1
  refine rv_putF (fs' := [.int 0, .ref q0, .null, .null, .null, .null, .null, .null, .null, .int 0, .null, .int 0, .null, .null, .null, .null, .int 0]) ka_Model hx130 rfl 1 (by decide) (wi_Model_init _ (List.mem_of_getElem? (i := 4) rfl)) rfl rfl rfl rfl rfl (Nat.le_of_ble_eq_true rfl) rfl d_Model_init_10
    (fun hp131 ehp131 => ?_)
  have hM1 : mi_At ca hp hp131 x (va_up (fun _ => 0) 0 q0) 1 [.int 0, .ref q0, .null, .null, .null, .null, .null, .null, .null, .int 0, .null, .int 0, .null, .null, .null, .null, .int 0] := by rw [ehp131, ehp130]; exact mi_step hM0 hfr130 rfl
  refine rv_aload_n d_Model_init_13 rfl 0 rfl ?_
  refine rv_bipush (v := nI 42) d_Model_init_14 (by decide) ?_
  refine rv_newa (atype := .int) (ty := .int) (cA := ca 0) (n := 42) (a0 := (42, .inl (fun _ => 0))) (kc1 := 11) (ks1 := 2098) rfl 0 rfl (wi_Model_init _ (List.mem_of_getElem? (i := 5) rfl)) (fun c => vp_cell_i c 42 _) (by decide) (by decide) ⟨by omega, by omega⟩ d_Model_init_16 (fun q1 hp132 hfr132 ehp132 => ?_)
  have hx132 : hp132 x = some (.inr (6, [.int 0, .ref q0, .null, .null, .null, .null, .null, .null, .null, .int 0, .null, .int 0, .null, .null, .null, .null, .int 0])) := by rw [ehp132, hp_un (hp_nn hM1.1 hfr132)]; exact hM1.1
  refine rv_putF (fs' := [.int 0, .ref q0, .ref q1, .null, .null, .null, .null, .null, .null, .int 0, .null, .int 0, .null, .null, .null, .null, .int 0]) ka_Model hx132 rfl 2 (by decide) (wi_Model_init _ (List.mem_of_getElem? (i := 6) rfl)) rfl rfl rfl rfl rfl (Nat.le_of_ble_eq_true rfl) rfl d_Model_init_18
    (fun hp133 ehp133 => ?_)
  have hM2 : mi_At ca hp hp133 x (va_up (va_up (fun _ => 0) 0 q0) 1 q1) 2 [.int 0, .ref q0, .ref q1, .null, .null, .null, .null, .null, .null, .int 0, .null, .int 0, .null, .null, .null, .null, .int 0] := by rw [ehp133, ehp132]; exact mi_step hM1 hfr132 rfl
  refine rv_aload_n d_Model_init_21 rfl 0 rfl ?_
  refine rv_sipush (v := nI 1344) d_Model_init_22 (by decide) ?_
  refine rv_newa (atype := .long) (ty := .long) (cA := ca 1) (n := 1344) (a0 := (1344, .inr (.inl (fun _ => 0)))) (kc1 := 10) (ks1 := 754) rfl 1 rfl (wi_Model_init _ (List.mem_of_getElem? (i := 3) rfl)) (fun c => vp_cell_l c 1344 _) (by decide) (by decide) ⟨by omega, by omega⟩ d_Model_init_25 (fun q2 hp134 hfr134 ehp134 => ?_)
  have hx134 : hp134 x = some (.inr (6, [.int 0, .ref q0, .ref q1, .null, .null, .null, .null, .null, .null, .int 0, .null, .int 0, .null, .null, .null, .null, .int 0])) := by rw [ehp134, hp_un (hp_nn hM2.1 hfr134)]; exact hM2.1
  refine rv_putF (fs' := [.int 0, .ref q0, .ref q1, .ref q2, .null, .null, .null, .null, .null, .int 0, .null, .int 0, .null, .null, .null, .null, .int 0]) ka_Model hx134 rfl 3 (by decide) (wi_Model_init _ (List.mem_of_getElem? (i := 7) rfl)) rfl rfl rfl rfl rfl (Nat.le_of_ble_eq_true rfl) rfl d_Model_init_27
    (fun hp135 ehp135 => ?_)
  have hM3 : mi_At ca hp hp135 x (va_up (va_up (va_up (fun _ => 0) 0 q0) 1 q1) 2 q2) 3 [.int 0, .ref q0, .ref q1, .ref q2, .null, .null, .null, .null, .null, .int 0, .null, .int 0, .null, .null, .null, .null, .int 0] := by rw [ehp135, ehp134]; exact mi_step hM2 hfr134 rfl
  refine rv_aload_n d_Model_init_30 rfl 0 rfl ?_
  refine rv_sipush (v := nI 336) d_Model_init_31 (by decide) ?_
  refine rv_newa (atype := .int) (ty := .int) (cA := ca 0) (n := 336) (a0 := (336, .inl (fun _ => 0))) (kc1 := 9) (ks1 := 418) rfl 0 rfl (wi_Model_init _ (List.mem_of_getElem? (i := 5) rfl)) (fun c => vp_cell_i c 336 _) (by decide) (by decide) ⟨by omega, by omega⟩ d_Model_init_34 (fun q3 hp136 hfr136 ehp136 => ?_)
  have hx136 : hp136 x = some (.inr (6, [.int 0, .ref q0, .ref q1, .ref q2, .null, .null, .null, .null, .null, .int 0, .null, .int 0, .null, .null, .null, .null, .int 0])) := by rw [ehp136, hp_un (hp_nn hM3.1 hfr136)]; exact hM3.1
  refine rv_putF (fs' := [.int 0, .ref q0, .ref q1, .ref q2, .ref q3, .null, .null, .null, .null, .int 0, .null, .int 0, .null, .null, .null, .null, .int 0]) ka_Model hx136 rfl 4 (by decide) (wi_Model_init _ (List.mem_of_getElem? (i := 8) rfl)) rfl rfl rfl rfl rfl (Nat.le_of_ble_eq_true rfl) rfl d_Model_init_36
    (fun hp137 ehp137 => ?_)
  have hM4 : mi_At ca hp hp137 x (va_up (va_up (va_up (va_up (fun _ => 0) 0 q0) 1 q1) 2 q2) 3 q3) 4 [.int 0, .ref q0, .ref q1, .ref q2, .ref q3, .null, .null, .null, .null, .int 0, .null, .int 0, .null, .null, .null, .null, .int 0] := by rw [ehp137, ehp136]; exact mi_step hM3 hfr136 rfl
  refine rv_aload_n d_Model_init_39 rfl 0 rfl ?_
  refine rv_bipush (v := nI 42) d_Model_init_40 (by decide) ?_
  refine rv_newa (atype := .long) (ty := .long) (cA := ca 1) (n := 42) (a0 := (42, .inr (.inl (fun _ => 0)))) (kc1 := 8) (ks1 := 376) rfl 1 rfl (wi_Model_init _ (List.mem_of_getElem? (i := 3) rfl)) (fun c => vp_cell_l c 42 _) (by decide) (by decide) ⟨by omega, by omega⟩ d_Model_init_42 (fun q4 hp138 hfr138 ehp138 => ?_)
  have hx138 : hp138 x = some (.inr (6, [.int 0, .ref q0, .ref q1, .ref q2, .ref q3, .null, .null, .null, .null, .int 0, .null, .int 0, .null, .null, .null, .null, .int 0])) := by rw [ehp138, hp_un (hp_nn hM4.1 hfr138)]; exact hM4.1
  refine rv_putF (fs' := [.int 0, .ref q0, .ref q1, .ref q2, .ref q3, .ref q4, .null, .null, .null, .int 0, .null, .int 0, .null, .null, .null, .null, .int 0]) ka_Model hx138 rfl 5 (by decide) (wi_Model_init _ (List.mem_of_getElem? (i := 9) rfl)) rfl rfl rfl rfl rfl (Nat.le_of_ble_eq_true rfl) rfl d_Model_init_44
    (fun hp139 ehp139 => ?_)
  have hM5 : mi_At ca hp hp139 x (va_up (va_up (va_up (va_up (va_up (fun _ => 0) 0 q0) 1 q1) 2 q2) 3 q3) 4 q4) 5 [.int 0, .ref q0, .ref q1, .ref q2, .ref q3, .ref q4, .null, .null, .null, .int 0, .null, .int 0, .null, .null, .null, .null, .int 0] := by rw [ehp139, ehp138]; exact mi_step hM4 hfr138 rfl
  refine rv_aload_n d_Model_init_47 rfl 0 rfl ?_
  refine rv_bipush (v := nI 42) d_Model_init_48 (by decide) ?_
  refine rv_newa (atype := .int) (ty := .int) (cA := ca 0) (n := 42) (a0 := (42, .inl (fun _ => 0))) (kc1 := 7) (ks1 := 334) rfl 0 rfl (wi_Model_init _ (List.mem_of_getElem? (i := 5) rfl)) (fun c => vp_cell_i c 42 _) (by decide) (by decide) ⟨by omega, by omega⟩ d_Model_init_50 (fun q5 hp140 hfr140 ehp140 => ?_)
  have hx140 : hp140 x = some (.inr (6, [.int 0, .ref q0, .ref q1, .ref q2, .ref q3, .ref q4, .null, .null, .null, .int 0, .null, .int 0, .null, .null, .null, .null, .int 0])) := by rw [ehp140, hp_un (hp_nn hM5.1 hfr140)]; exact hM5.1
  refine rv_putF (fs' := [.int 0, .ref q0, .ref q1, .ref q2, .ref q3, .ref q4, .ref q5, .null, .null, .int 0, .null, .int 0, .null, .null, .null, .null, .int 0]) ka_Model hx140 rfl 6 (by decide) (wi_Model_init _ (List.mem_of_getElem? (i := 10) rfl)) rfl rfl rfl rfl rfl (Nat.le_of_ble_eq_true rfl) rfl d_Model_init_52
    (fun hp141 ehp141 => ?_)
  have hM6 : mi_At ca hp hp141 x (va_up (va_up (va_up (va_up (va_up (va_up (fun _ => 0) 0 q0) 1 q1) 2 q2) 3 q3) 4 q4) 5 q5) 6 [.int 0, .ref q0, .ref q1, .ref q2, .ref q3, .ref q4, .ref q5, .null, .null, .int 0, .null, .int 0, .null, .null, .null, .null, .int 0] := by rw [ehp141, ehp140]; exact mi_step hM5 hfr140 rfl
  refine rv_aload_n d_Model_init_55 rfl 0 rfl ?_
  refine rv_bipush (v := nI 42) d_Model_init_56 (by decide) ?_
  refine rv_newa (atype := .int) (ty := .int) (cA := ca 0) (n := 42) (a0 := (42, .inl (fun _ => 0))) (kc1 := 6) (ks1 := 292) rfl 0 rfl (wi_Model_init _ (List.mem_of_getElem? (i := 5) rfl)) (fun c => vp_cell_i c 42 _) (by decide) (by decide) ⟨by omega, by omega⟩ d_Model_init_58 (fun q6 hp142 hfr142 ehp142 => ?_)
  have hx142 : hp142 x = some (.inr (6, [.int 0, .ref q0, .ref q1, .ref q2, .ref q3, .ref q4, .ref q5, .null, .null, .int 0, .null, .int 0, .null, .null, .null, .null, .int 0])) := by rw [ehp142, hp_un (hp_nn hM6.1 hfr142)]; exact hM6.1
  refine rv_putF (fs' := [.int 0, .ref q0, .ref q1, .ref q2, .ref q3, .ref q4, .ref q5, .ref q6, .null, .int 0, .null, .int 0, .null, .null, .null, .null, .int 0]) ka_Model hx142 rfl 7 (by decide) (wi_Model_init _ (List.mem_of_getElem? (i := 11) rfl)) rfl rfl rfl rfl rfl (Nat.le_of_ble_eq_true rfl) rfl d_Model_init_60
    (fun hp143 ehp143 => ?_)
  have hM7 : mi_At ca hp hp143 x (va_up (va_up (va_up (va_up (va_up (va_up (va_up (fun _ => 0) 0 q0) 1 q1) 2 q2) 3 q3) 4 q4) 5 q5) 6 q6) 7 [.int 0, .ref q0, .ref q1, .ref q2, .ref q3, .ref q4, .ref q5, .ref q6, .null, .int 0, .null, .int 0, .null, .null, .null, .null, .int 0] := by rw [ehp143, ehp142]; exact mi_step hM6 hfr142 rfl
  refine rv_aload_n d_Model_init_63 rfl 0 rfl ?_
  refine rv_bipush (v := nI 42) d_Model_init_64 (by decide) ?_
  refine rv_newa (atype := .int) (ty := .int) (cA := ca 0) (n := 42) (a0 := (42, .inl (fun _ => 0))) (kc1 := 5) (ks1 := 250) rfl 0 rfl (wi_Model_init _ (List.mem_of_getElem? (i := 5) rfl)) (fun c => vp_cell_i c 42 _) (by decide) (by decide) ⟨by omega, by omega⟩ d_Model_init_66 (fun q7 hp144 hfr144 ehp144 => ?_)
  have hx144 : hp144 x = some (.inr (6, [.int 0, .ref q0, .ref q1, .ref q2, .ref q3, .ref q4, .ref q5, .ref q6, .null, .int 0, .null, .int 0, .null, .null, .null, .null, .int 0])) := by rw [ehp144, hp_un (hp_nn hM7.1 hfr144)]; exact hM7.1
  refine rv_putF (fs' := [.int 0, .ref q0, .ref q1, .ref q2, .ref q3, .ref q4, .ref q5, .ref q6, .ref q7, .int 0, .null, .int 0, .null, .null, .null, .null, .int 0]) ka_Model hx144 rfl 8 (by decide) (wi_Model_init _ (List.mem_of_getElem? (i := 12) rfl)) rfl rfl rfl rfl rfl (Nat.le_of_ble_eq_true rfl) rfl d_Model_init_68
    (fun hp145 ehp145 => ?_)
  have hM8 : mi_At ca hp hp145 x (va_up (va_up (va_up (va_up (va_up (va_up (va_up (va_up (fun _ => 0) 0 q0) 1 q1) 2 q2) 3 q3) 4 q4) 5 q5) 6 q6) 7 q7) 8 [.int 0, .ref q0, .ref q1, .ref q2, .ref q3, .ref q4, .ref q5, .ref q6, .ref q7, .int 0, .null, .int 0, .null, .null, .null, .null, .int 0] := by rw [ehp145, ehp144]; exact mi_step hM7 hfr144 rfl
  refine rv_aload_n d_Model_init_71 rfl 0 rfl ?_
  refine rv_iconst (v := nI 4) d_Model_init_72 (by decide) ?_
  refine rv_newa (atype := .long) (ty := .long) (cA := ca 1) (n := 4) (a0 := (4, .inr (.inl (fun _ => 0)))) (kc1 := 4) (ks1 := 246) rfl 1 rfl (wi_Model_init _ (List.mem_of_getElem? (i := 3) rfl)) (fun c => vp_cell_l c 4 _) (by decide) (by decide) ⟨by omega, by omega⟩ d_Model_init_73 (fun q8 hp146 hfr146 ehp146 => ?_)
  have hx146 : hp146 x = some (.inr (6, [.int 0, .ref q0, .ref q1, .ref q2, .ref q3, .ref q4, .ref q5, .ref q6, .ref q7, .int 0, .null, .int 0, .null, .null, .null, .null, .int 0])) := by rw [ehp146, hp_un (hp_nn hM8.1 hfr146)]; exact hM8.1
  refine rv_putF (fs' := [.int 0, .ref q0, .ref q1, .ref q2, .ref q3, .ref q4, .ref q5, .ref q6, .ref q7, .int 0, .ref q8, .int 0, .null, .null, .null, .null, .int 0]) ka_Model hx146 rfl 10 (by decide) (wi_Model_init _ (List.mem_of_getElem? (i := 13) rfl)) rfl rfl rfl rfl rfl (Nat.le_of_ble_eq_true rfl) rfl d_Model_init_75
    (fun hp147 ehp147 => ?_)
  have hM9 : mi_At ca hp hp147 x (va_up (va_up (va_up (va_up (va_up (va_up (va_up (va_up (va_up (fun _ => 0) 0 q0) 1 q1) 2 q2) 3 q3) 4 q4) 5 q5) 6 q6) 7 q7) 8 q8) 9 [.int 0, .ref q0, .ref q1, .ref q2, .ref q3, .ref q4, .ref q5, .ref q6, .ref q7, .int 0, .ref q8, .int 0, .null, .null, .null, .null, .int 0] := by rw [ehp147, ehp146]; exact mi_step hM8 hfr146 rfl
  refine rv_aload_n d_Model_init_78 rfl 0 rfl ?_
  refine rv_bipush (v := nI 32) d_Model_init_79 (by decide) ?_
  refine rv_newa (atype := .long) (ty := .long) (cA := ca 1) (n := 32) (a0 := (32, .inr (.inl (fun _ => 0)))) (kc1 := 3) (ks1 := 214) rfl 1 rfl (wi_Model_init _ (List.mem_of_getElem? (i := 3) rfl)) (fun c => vp_cell_l c 32 _) (by decide) (by decide) ⟨by omega, by omega⟩ d_Model_init_81 (fun q9 hp148 hfr148 ehp148 => ?_)
  have hx148 : hp148 x = some (.inr (6, [.int 0, .ref q0, .ref q1, .ref q2, .ref q3, .ref q4, .ref q5, .ref q6, .ref q7, .int 0, .ref q8, .int 0, .null, .null, .null, .null, .int 0])) := by rw [ehp148, hp_un (hp_nn hM9.1 hfr148)]; exact hM9.1
  refine rv_putF (fs' := [.int 0, .ref q0, .ref q1, .ref q2, .ref q3, .ref q4, .ref q5, .ref q6, .ref q7, .int 0, .ref q8, .int 0, .ref q9, .null, .null, .null, .int 0]) ka_Model hx148 rfl 12 (by decide) (wi_Model_init _ (List.mem_of_getElem? (i := 14) rfl)) rfl rfl rfl rfl rfl (Nat.le_of_ble_eq_true rfl) rfl d_Model_init_83
    (fun hp149 ehp149 => ?_)
  have hM10 : mi_At ca hp hp149 x (va_up (va_up (va_up (va_up (va_up (va_up (va_up (va_up (va_up (va_up (fun _ => 0) 0 q0) 1 q1) 2 q2) 3 q3) 4 q4) 5 q5) 6 q6) 7 q7) 8 q8) 9 q9) 10 [.int 0, .ref q0, .ref q1, .ref q2, .ref q3, .ref q4, .ref q5, .ref q6, .ref q7, .int 0, .ref q8, .int 0, .ref q9, .null, .null, .null, .int 0] := by rw [ehp149, ehp148]; exact mi_step hM9 hfr148 rfl
  refine rv_aload_n d_Model_init_86 rfl 0 rfl ?_
  refine rv_bipush (v := nI 8) d_Model_init_87 (by decide) ?_
  refine rv_newa (atype := .int) (ty := .int) (cA := ca 0) (n := 8) (a0 := (8, .inl (fun _ => 0))) (kc1 := 2) (ks1 := 206) rfl 0 rfl (wi_Model_init _ (List.mem_of_getElem? (i := 5) rfl)) (fun c => vp_cell_i c 8 _) (by decide) (by decide) ⟨by omega, by omega⟩ d_Model_init_89 (fun q10 hp150 hfr150 ehp150 => ?_)
  have hx150 : hp150 x = some (.inr (6, [.int 0, .ref q0, .ref q1, .ref q2, .ref q3, .ref q4, .ref q5, .ref q6, .ref q7, .int 0, .ref q8, .int 0, .ref q9, .null, .null, .null, .int 0])) := by rw [ehp150, hp_un (hp_nn hM10.1 hfr150)]; exact hM10.1
  refine rv_putF (fs' := [.int 0, .ref q0, .ref q1, .ref q2, .ref q3, .ref q4, .ref q5, .ref q6, .ref q7, .int 0, .ref q8, .int 0, .ref q9, .ref q10, .null, .null, .int 0]) ka_Model hx150 rfl 13 (by decide) (wi_Model_init _ (List.mem_of_getElem? (i := 15) rfl)) rfl rfl rfl rfl rfl (Nat.le_of_ble_eq_true rfl) rfl d_Model_init_91
    (fun hp151 ehp151 => ?_)
  have hM11 : mi_At ca hp hp151 x (va_up (va_up (va_up (va_up (va_up (va_up (va_up (va_up (va_up (va_up (va_up (fun _ => 0) 0 q0) 1 q1) 2 q2) 3 q3) 4 q4) 5 q5) 6 q6) 7 q7) 8 q8) 9 q9) 10 q10) 11 [.int 0, .ref q0, .ref q1, .ref q2, .ref q3, .ref q4, .ref q5, .ref q6, .ref q7, .int 0, .ref q8, .int 0, .ref q9, .ref q10, .null, .null, .int 0] := by rw [ehp151, ehp150]; exact mi_step hM10 hfr150 rfl
  refine rv_aload_n d_Model_init_94 rfl 0 rfl ?_
  refine rv_bipush (v := nI 42) d_Model_init_95 (by decide) ?_
  refine rv_newa (atype := .boolean) (ty := .boolean) (cA := ca 3) (n := 42) (a0 := (42, .inl (fun _ => 0))) (kc1 := 1) (ks1 := 164) rfl 3 rfl (wi_Model_init _ (List.mem_of_getElem? (i := 16) rfl)) (fun c => vp_cell_i c 42 _) (by decide) (by decide) ⟨by omega, by omega⟩ d_Model_init_97 (fun q11 hp152 hfr152 ehp152 => ?_)
  have hx152 : hp152 x = some (.inr (6, [.int 0, .ref q0, .ref q1, .ref q2, .ref q3, .ref q4, .ref q5, .ref q6, .ref q7, .int 0, .ref q8, .int 0, .ref q9, .ref q10, .null, .null, .int 0])) := by rw [ehp152, hp_un (hp_nn hM11.1 hfr152)]; exact hM11.1
  refine rv_putF (fs' := [.int 0, .ref q0, .ref q1, .ref q2, .ref q3, .ref q4, .ref q5, .ref q6, .ref q7, .int 0, .ref q8, .int 0, .ref q9, .ref q10, .ref q11, .null, .int 0]) ka_Model hx152 rfl 14 (by decide) (wi_Model_init _ (List.mem_of_getElem? (i := 17) rfl)) rfl rfl rfl rfl rfl (Nat.le_of_ble_eq_true rfl) rfl d_Model_init_99
    (fun hp153 ehp153 => ?_)
  have hM12 : mi_At ca hp hp153 x (va_up (va_up (va_up (va_up (va_up (va_up (va_up (va_up (va_up (va_up (va_up (va_up (fun _ => 0) 0 q0) 1 q1) 2 q2) 3 q3) 4 q4) 5 q5) 6 q6) 7 q7) 8 q8) 9 q9) 10 q10) 11 q11) 12 [.int 0, .ref q0, .ref q1, .ref q2, .ref q3, .ref q4, .ref q5, .ref q6, .ref q7, .int 0, .ref q8, .int 0, .ref q9, .ref q10, .ref q11, .null, .int 0] := by rw [ehp153, ehp152]; exact mi_step hM11 hfr152 rfl
  refine rv_aload_n d_Model_init_102 rfl 0 rfl ?_
  refine rv_sipush (v := nI 164) d_Model_init_103 (by decide) ?_
  refine rv_newa (atype := .long) (ty := .long) (cA := ca 1) (n := 164) (a0 := (164, .inr (.inl (fun _ => 0)))) (kc1 := 0) (ks1 := 0) rfl 1 rfl (wi_Model_init _ (List.mem_of_getElem? (i := 3) rfl)) (fun c => vp_cell_l c 164 _) (by decide) (by decide) ⟨by omega, by omega⟩ d_Model_init_106 (fun q12 hp154 hfr154 ehp154 => ?_)
  have hx154 : hp154 x = some (.inr (6, [.int 0, .ref q0, .ref q1, .ref q2, .ref q3, .ref q4, .ref q5, .ref q6, .ref q7, .int 0, .ref q8, .int 0, .ref q9, .ref q10, .ref q11, .null, .int 0])) := by rw [ehp154, hp_un (hp_nn hM12.1 hfr154)]; exact hM12.1
  refine rv_putF (fs' := [.int 0, .ref q0, .ref q1, .ref q2, .ref q3, .ref q4, .ref q5, .ref q6, .ref q7, .int 0, .ref q8, .int 0, .ref q9, .ref q10, .ref q11, .ref q12, .int 0]) ka_Model hx154 rfl 15 (by decide) (wi_Model_init _ (List.mem_of_getElem? (i := 18) rfl)) rfl rfl rfl rfl rfl (Nat.le_of_ble_eq_true rfl) rfl d_Model_init_108
    (fun hp155 ehp155 => ?_)
  have hM13 : mi_At ca hp hp155 x (va_up (va_up (va_up (va_up (va_up (va_up (va_up (va_up (va_up (va_up (va_up (va_up (va_up (fun _ => 0) 0 q0) 1 q1) 2 q2) 3 q3) 4 q4) 5 q5) 6 q6) 7 q7) 8 q8) 9 q9) 10 q10) 11 q11) 12 q12) 13 [.int 0, .ref q0, .ref q1, .ref q2, .ref q3, .ref q4, .ref q5, .ref q6, .ref q7, .int 0, .ref q8, .int 0, .ref q9, .ref q10, .ref q11, .ref q12, .int 0] := by rw [ehp155, ehp154]; exact mi_step hM12 hfr154 rfl
  exact rv_vreturn ⟨rfl, (va_up (va_up (va_up (va_up (va_up (va_up (va_up (va_up (va_up (va_up (va_up (va_up (va_up (fun _ => 0) 0 q0) 1 q1) 2 q2) 3 q3) 4 q4) 5 q5) 6 q6) 7 q7) 8 q8) 9 q9) 10 q10) 11 q11) 12 q12), ⟨hM13.1, hM13.2.1, ⟨fun t _ => ⟨rfl, Nat.zero_le _⟩, funext (fun u => rfl), Nat.zero_le _, Nat.zero_le _, Nat.zero_le _⟩⟩, hM13.2.2.1, hM13.2.2.2.1, hM13.2.2.2.2⟩ d_Model_init_111 rfl
