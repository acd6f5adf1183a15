def wl_Model_least : List Cond := [.fieldLink "PoolDeskModel" 51 "PoolDeskModel" "size" "I", .methodLink "PoolDeskModel" 78 y_Model_family, .instanceMethod y_Model_family, .selects "PoolDeskModel" y_Model_family y_Model_family, .methodLink "PoolDeskModel" 81 y_Model_feesOf, .instanceMethod y_Model_feesOf, .selects "PoolDeskModel" y_Model_feesOf y_Model_feesOf, .methodLink "PoolDeskModel" 85 y_Model_sizesOf, .instanceMethod y_Model_sizesOf, .selects "PoolDeskModel" y_Model_sizesOf y_Model_sizesOf, .methodLink "PoolDeskModel" 88 y_Model_compare, .static y_Model_compare]
theorem wi_Model_least : ∀ w ∈ wl_Model_least, w ∈ ma_tbl := by decide +kernel
set_option maxHeartbeats 1000000 in
set_option maxRecDepth 100000 in
theorem cf_Model_family {l : Launch} {D : va_G} {ca : Nat → ClassId} {hp : hp_T} {d : Nat} {x : Nat} {A : Nat → Nat} {S : mo_S} (hS : mo_At ca hp x A S) (hA : pi_inj A 13) {t n : Nat} (ht : t < 42) (hn : n ≤ 42) : ma_V l D ca ma_T M_Model_family (d + 2) 0 0 hp (ma_qv (fun hp1 => ∃ mk, mk_like mk (md_famC S t n) ∧ mo_At ca hp1 x A (mo_M S mk) ∧ mo_out x A hp hp1)) 0 (lv_args 0 [.ref x, .int (nI t), .int (nI n)]) [] := by
  refine rv_post (fun v hp1 h => ?_) (c_Model_family hS hA ht hn)
  obtain ⟨h0, h1, h2⟩ := h
  exact ⟨h0, _, md_fam_C hn, h1, h2⟩
set_option maxHeartbeats 1000000 in
set_option maxRecDepth 100000 in
theorem c_Model_least_l {l : Launch} {D : va_G} {ca : Nat → ClassId} {d : Nat} {x : Nat} {A : Nat → Nat} {S : mo_S} {hp0 : hp_T} (hA : pi_inj A 13) (hv : md_iv S) : ∀ (m i : Nat) (hp : hp_T) (f : Nat → Bool) (o : Option Nat), i + m = mo_z S → (o = none ↔ i = 0) → (∀ w, o = some w → w < mo_z S) → mo_At ca hp x A (mo_M S f) → mo_out x A hp0 hp → ma_V l D ca ma_T M_Model_least (d + 3) 0 0 hp (ma_qi (fun y hp1 => y = oz_i (lp_fold (md_leastF S) m i o) ∧ (∃ mk, mo_At ca hp1 x A (mo_M S mk)) ∧ mo_out x A hp0 hp1)) 10 [(6, .int (nI i)), (4, .long (oz_z S o)), (2, .long (oz_f S o)), (1, .int (oz_i o)), (0, .ref x)] [] := by
  intro m
  induction m with
  | zero =>
    intro i hp f o hi h0 hw hS ho
    have hz := hS.2.2.2.2.1
    change mo_z S ≤ 41 at hz
    have hzz : mo_z (mo_M S f) = mo_z S := rfl
    refine rv_iload d_Model_least_10 0 rfl ?_
    refine rv_aload_n d_Model_least_12 rfl 4 rfl ?_
    refine rv_get ka_Model hS.1 rfl 0 (by decide) (wi_Model_least _ (List.mem_of_getElem? (i := 0) rfl)) rfl d_Model_least_13 ?_
    refine rv_icmp_ge (tgt := 77) d_Model_least_16 (by decide) (fun c_16 => ?_) (fun c_16 => ?_)
    · refine rv_iload_n d_Model_least_77 rfl 3 rfl ?_
      exact rv_ireturn ⟨_, rfl, rfl, ⟨f, hS⟩, ho⟩ d_Model_least_78 rfl rfl
    · exact absurd (nI_le (by omega) (by omega)) c_16
  | succ m ih =>
    intro i hp f o hi h0 hw hS ho
    have hz := hS.2.2.2.2.1
    change mo_z S ≤ 41 at hz
    have hzz : mo_z (mo_M S f) = mo_z S := rfl
    have bF := md_sF_le hv hz (md_famC S i (mo_z S))
    have bZ := md_sZ_le hv hz (md_famC S i (mo_z S))
    have pZ := md_sZ_pos hv (show i < mo_z S by omega) (md_famC_self (S := S) (t := i) (n := mo_z S))
    cases o with
    | none =>
      change ma_V l D ca ma_T M_Model_least (d + 3) 0 0 hp (ma_qi (fun y hp1 => y = oz_i (lp_fold (md_leastF S) (m + 1) i (none)) ∧ (∃ mk, mo_At ca hp1 x A (mo_M S mk)) ∧ mo_out x A hp0 hp1)) 10 [(6, .int (nI i)), (4, .long 0), (2, .long 0), (1, .int (nI 0)), (0, .ref x)] []
      have i0 : i = 0 := h0.mp rfl
      refine rv_iload d_Model_least_10 0 rfl ?_
      refine rv_aload_n d_Model_least_12 rfl 4 rfl ?_
      refine rv_get ka_Model hS.1 rfl 0 (by decide) (wi_Model_least _ (List.mem_of_getElem? (i := 0) rfl)) rfl d_Model_least_13 ?_
      refine rv_icmp_ge (tgt := 77) d_Model_least_16 (by decide) (fun c_16 => ?_) (fun c_16 => ?_)
      · exact absurd c_16 (nI_ge (by omega) (by omega))
      · refine rv_aload_n d_Model_least_19 rfl 4 rfl ?_
        refine rv_iload d_Model_least_20 0 rfl ?_
        refine rv_aload_n d_Model_least_22 rfl 4 rfl ?_
        refine rv_get ka_Model hS.1 rfl 0 (by decide) (wi_Model_least _ (List.mem_of_getElem? (i := 0) rfl)) rfl d_Model_least_23 ?_
        refine rv_callV (kc' := 0) (ks' := 0) (kc1 := 0) (ks1 := 0) (As := [.int (nI i), .int (nI (mo_z S))]) (rest := []) hS.1 rfl (cf_Model_family hS hA (by omega) (by omega)) ok_Model_family (wi_Model_least _ (List.mem_of_getElem? (i := 1) rfl)) (wi_Model_least _ (List.mem_of_getElem? (i := 2) rfl)) (wi_Model_least _ (List.mem_of_getElem? (i := 3) rfl)) rfl rfl (Nat.le_of_ble_eq_true rfl) (Nat.le_of_ble_eq_true rfl) ⟨Nat.le_of_ble_eq_true rfl, Nat.le_of_ble_eq_true rfl⟩ d_Model_least_26 (rv_kv (fun hp90 ehp90 => ?_))
        obtain ⟨g, hg, hS1, ho1⟩ := ehp90
        rw [md_famC_M] at hg
        rw [mo_MM] at hS1
        refine rv_aload_n d_Model_least_29 rfl 4 rfl ?_
        refine rv_iconst (v := nI 1) d_Model_least_30 (by decide) ?_
        refine rv_callV (kc' := 0) (ks' := 0) (kc1 := 0) (ks1 := 0) (As := [.int (nI 1)]) (rest := []) hS1.1 rfl (c_Model_feesOf (m0 := true) hS1) ok_Model_feesOf (wi_Model_least _ (List.mem_of_getElem? (i := 4) rfl)) (wi_Model_least _ (List.mem_of_getElem? (i := 5) rfl)) (wi_Model_least _ (List.mem_of_getElem? (i := 6) rfl)) rfl rfl (Nat.le_of_ble_eq_true rfl) (Nat.le_of_ble_eq_true rfl) ⟨Nat.le_of_ble_eq_true rfl, Nat.le_of_ble_eq_true rfl⟩ d_Model_least_31 (rv_kle ?_)
        refine rv_eql (y := lN (md_ff S i)) (by rw [md_fees_t hv, md_sF_like hg (by omega)]; rfl) ?_
        refine rv_lstore (lv' := [(7, .long (lN (md_ff S i))), (6, .int (nI i)), (4, .long 0), (2, .long 0), (1, .int (nI 0)), (0, .ref x)]) d_Model_least_34 (by decide) rfl ?_
        refine rv_aload_n d_Model_least_36 rfl 5 rfl ?_
        refine rv_iconst (v := nI 1) d_Model_least_37 (by decide) ?_
        refine rv_callV (kc' := 0) (ks' := 0) (kc1 := 0) (ks1 := 0) (As := [.int (nI 1)]) (rest := []) hS1.1 rfl (c_Model_sizesOf (m0 := true) hS1) ok_Model_sizesOf (wi_Model_least _ (List.mem_of_getElem? (i := 7) rfl)) (wi_Model_least _ (List.mem_of_getElem? (i := 8) rfl)) (wi_Model_least _ (List.mem_of_getElem? (i := 9) rfl)) rfl rfl (Nat.le_of_ble_eq_true rfl) (Nat.le_of_ble_eq_true rfl) ⟨Nat.le_of_ble_eq_true rfl, Nat.le_of_ble_eq_true rfl⟩ d_Model_least_38 (rv_kle ?_)
        refine rv_eql (y := lN (md_fz S i)) (by rw [md_sizes_t hv, md_sZ_like hg (by omega)]; rfl) ?_
        refine rv_lstore (lv' := [(9, .long (lN (md_fz S i))), (7, .long (lN (md_ff S i))), (6, .int (nI i)), (4, .long 0), (2, .long 0), (1, .int (nI 0)), (0, .ref x)]) d_Model_least_41 (by decide) rfl ?_
        refine rv_iload d_Model_least_43 2 rfl ?_
        refine rv_if_eq (tgt := 61) d_Model_least_45 (by decide) (fun c_45 => ?_) (fun c_45 => ?_)
        · refine rv_iload d_Model_least_61 2 rfl ?_
          refine rv_istore_n (lv' := [(1, .int (nI i)), (9, .long (lN (md_fz S i))), (7, .long (lN (md_ff S i))), (6, .int (nI i)), (4, .long 0), (2, .long 0), (0, .ref x)]) d_Model_least_63 rfl (by decide) rfl ?_
          refine rv_lload d_Model_least_64 2 rfl ?_
          refine rv_lstore_n (lv' := [(2, .long (lN (md_ff S i))), (1, .int (nI i)), (9, .long (lN (md_fz S i))), (7, .long (lN (md_ff S i))), (6, .int (nI i)), (4, .long 0), (0, .ref x)]) d_Model_least_66 rfl (by decide) rfl ?_
          refine rv_lload d_Model_least_67 2 rfl ?_
          refine rv_lstore (lv' := [(4, .long (lN (md_fz S i))), (2, .long (lN (md_ff S i))), (1, .int (nI i)), (9, .long (lN (md_fz S i))), (7, .long (lN (md_ff S i))), (6, .int (nI i)), (0, .ref x)]) d_Model_least_69 (by decide) rfl ?_
          refine rv_iinc (k := 5) (v := nI (i + 1)) (lv' := [(6, .int (nI (i + 1))), (4, .long (lN (md_fz S i))), (2, .long (lN (md_ff S i))), (1, .int (nI i)), (9, .long (lN (md_fz S i))), (7, .long (lN (md_ff S i))), (0, .ref x)]) d_Model_least_71 rfl (nI_1 _) (by decide) rfl ?_
          refine rv_goto (tgt := 10) d_Model_least_74 (by decide) ?_
          have e : md_leastF S i none = some i := rfl
          have z := ih (i + 1) hp90 g (some i) (by omega) ⟨fun q => (by cases q), fun q => (by omega)⟩ (fun w1 h1 => by injection h1; omega) hS1 (mo_out_tr ho ho1)
          rw [← e] at z
          exact rv_lv [0, 1, 2, 3, 6] (by rw [e]; rfl) z
        · exact absurd (by rw [i0]; rfl) c_45
    | some w =>
      change ma_V l D ca ma_T M_Model_least (d + 3) 0 0 hp (ma_qi (fun y hp1 => y = oz_i (lp_fold (md_leastF S) (m + 1) i (some w)) ∧ (∃ mk, mo_At ca hp1 x A (mo_M S mk)) ∧ mo_out x A hp0 hp1)) 10 [(6, .int (nI i)), (4, .long (lN (md_fz S w))), (2, .long (lN (md_ff S w))), (1, .int (nI w)), (0, .ref x)] []
      have i1 : ¬ i = 0 := fun z => by have q := h0.mpr z; cases q
      have hw0 := hw w rfl
      have bF2 := md_sF_le hv hz (md_famC S w (mo_z S))
      have bZ2 := md_sZ_le hv hz (md_famC S w (mo_z S))
      have pZ2 := md_sZ_pos hv hw0 (md_famC_self (S := S) (t := w) (n := mo_z S))
      refine rv_iload d_Model_least_10 0 rfl ?_
      refine rv_aload_n d_Model_least_12 rfl 4 rfl ?_
      refine rv_get ka_Model hS.1 rfl 0 (by decide) (wi_Model_least _ (List.mem_of_getElem? (i := 0) rfl)) rfl d_Model_least_13 ?_
      refine rv_icmp_ge (tgt := 77) d_Model_least_16 (by decide) (fun c_16 => ?_) (fun c_16 => ?_)
      · exact absurd c_16 (nI_ge (by omega) (by omega))
      · refine rv_aload_n d_Model_least_19 rfl 4 rfl ?_
        refine rv_iload d_Model_least_20 0 rfl ?_
        refine rv_aload_n d_Model_least_22 rfl 4 rfl ?_
        refine rv_get ka_Model hS.1 rfl 0 (by decide) (wi_Model_least _ (List.mem_of_getElem? (i := 0) rfl)) rfl d_Model_least_23 ?_
        refine rv_callV (kc' := 0) (ks' := 0) (kc1 := 0) (ks1 := 0) (As := [.int (nI i), .int (nI (mo_z S))]) (rest := []) hS.1 rfl (cf_Model_family hS hA (by omega) (by omega)) ok_Model_family (wi_Model_least _ (List.mem_of_getElem? (i := 1) rfl)) (wi_Model_least _ (List.mem_of_getElem? (i := 2) rfl)) (wi_Model_least _ (List.mem_of_getElem? (i := 3) rfl)) rfl rfl (Nat.le_of_ble_eq_true rfl) (Nat.le_of_ble_eq_true rfl) ⟨Nat.le_of_ble_eq_true rfl, Nat.le_of_ble_eq_true rfl⟩ d_Model_least_26 (rv_kv (fun hp91 ehp91 => ?_))
        obtain ⟨g, hg, hS1, ho1⟩ := ehp91
        rw [md_famC_M] at hg
        rw [mo_MM] at hS1
        refine rv_aload_n d_Model_least_29 rfl 4 rfl ?_
        refine rv_iconst (v := nI 1) d_Model_least_30 (by decide) ?_
        refine rv_callV (kc' := 0) (ks' := 0) (kc1 := 0) (ks1 := 0) (As := [.int (nI 1)]) (rest := []) hS1.1 rfl (c_Model_feesOf (m0 := true) hS1) ok_Model_feesOf (wi_Model_least _ (List.mem_of_getElem? (i := 4) rfl)) (wi_Model_least _ (List.mem_of_getElem? (i := 5) rfl)) (wi_Model_least _ (List.mem_of_getElem? (i := 6) rfl)) rfl rfl (Nat.le_of_ble_eq_true rfl) (Nat.le_of_ble_eq_true rfl) ⟨Nat.le_of_ble_eq_true rfl, Nat.le_of_ble_eq_true rfl⟩ d_Model_least_31 (rv_kle ?_)
        refine rv_eql (y := lN (md_ff S i)) (by rw [md_fees_t hv, md_sF_like hg (by omega)]; rfl) ?_
        refine rv_lstore (lv' := [(7, .long (lN (md_ff S i))), (6, .int (nI i)), (4, .long (lN (md_fz S w))), (2, .long (lN (md_ff S w))), (1, .int (nI w)), (0, .ref x)]) d_Model_least_34 (by decide) rfl ?_
        refine rv_aload_n d_Model_least_36 rfl 5 rfl ?_
        refine rv_iconst (v := nI 1) d_Model_least_37 (by decide) ?_
        refine rv_callV (kc' := 0) (ks' := 0) (kc1 := 0) (ks1 := 0) (As := [.int (nI 1)]) (rest := []) hS1.1 rfl (c_Model_sizesOf (m0 := true) hS1) ok_Model_sizesOf (wi_Model_least _ (List.mem_of_getElem? (i := 7) rfl)) (wi_Model_least _ (List.mem_of_getElem? (i := 8) rfl)) (wi_Model_least _ (List.mem_of_getElem? (i := 9) rfl)) rfl rfl (Nat.le_of_ble_eq_true rfl) (Nat.le_of_ble_eq_true rfl) ⟨Nat.le_of_ble_eq_true rfl, Nat.le_of_ble_eq_true rfl⟩ d_Model_least_38 (rv_kle ?_)
        refine rv_eql (y := lN (md_fz S i)) (by rw [md_sizes_t hv, md_sZ_like hg (by omega)]; rfl) ?_
        refine rv_lstore (lv' := [(9, .long (lN (md_fz S i))), (7, .long (lN (md_ff S i))), (6, .int (nI i)), (4, .long (lN (md_fz S w))), (2, .long (lN (md_ff S w))), (1, .int (nI w)), (0, .ref x)]) d_Model_least_41 (by decide) rfl ?_
        refine rv_iload d_Model_least_43 2 rfl ?_
        refine rv_if_eq (tgt := 61) d_Model_least_45 (by decide) (fun c_45 => ?_) (fun c_45 => ?_)
        · exact absurd ((nI_eq (b := 0) (by omega) (by decide)).mp c_45) i1
        · refine rv_lload d_Model_least_48 1 rfl ?_
          refine rv_lload d_Model_least_50 0 rfl ?_
          refine rv_lload_n d_Model_least_52 rfl 4 rfl ?_
          refine rv_lload d_Model_least_53 3 rfl ?_
          refine rv_callS (kc' := 0) (ks' := 0) (kc1 := 0) (ks1 := 0) (As := [.long (lN (md_ff S i)), .long (lN (md_fz S i)), .long (lN (md_ff S w)), .long (lN (md_fz S w))]) (rest := []) (c_Model_compare pZ pZ2 bF (show md_fz S i < 2 ^ 62 by unfold md_fz; omega) bF2 (show md_fz S w < 2 ^ 62 by unfold md_fz; omega)) ok_Model_compare (wi_Model_least _ (List.mem_of_getElem? (i := 10) rfl)) (wi_Model_least _ (List.mem_of_getElem? (i := 11) rfl)) rfl rfl (Nat.le_of_ble_eq_true rfl) (Nat.le_of_ble_eq_true rfl) ⟨Nat.le_of_ble_eq_true rfl, Nat.le_of_ble_eq_true rfl⟩ d_Model_least_55 (rv_kie ?_)
          refine rv_if_gt (tgt := 71) d_Model_least_58 (by decide) (fun c_58 => ?_) (fun c_58 => ?_)
          · have e : md_leastF S i (some w) = some w := if_pos c_58
            refine rv_iinc (k := 2) (v := nI (i + 1)) (lv' := [(6, .int (nI (i + 1))), (9, .long (lN (md_fz S i))), (7, .long (lN (md_ff S i))), (4, .long (lN (md_fz S w))), (2, .long (lN (md_ff S w))), (1, .int (nI w)), (0, .ref x)]) d_Model_least_71 rfl (nI_1 _) (by decide) rfl ?_
            refine rv_goto (tgt := 10) d_Model_least_74 (by decide) ?_
            have z := ih (i + 1) hp91 g (some w) (by omega) ⟨fun q => (by cases q), fun q => (by omega)⟩ (fun w1 h1 => by injection h1; omega) hS1 (mo_out_tr ho ho1)
            rw [← e] at z
            exact rv_lv [0, 3, 4, 5, 6] (by rw [e]; rfl) z
          · have e : md_leastF S i (some w) = some i := if_neg c_58
            refine rv_iload d_Model_least_61 2 rfl ?_
            refine rv_istore_n (lv' := [(1, .int (nI i)), (9, .long (lN (md_fz S i))), (7, .long (lN (md_ff S i))), (6, .int (nI i)), (4, .long (lN (md_fz S w))), (2, .long (lN (md_ff S w))), (0, .ref x)]) d_Model_least_63 rfl (by decide) rfl ?_
            refine rv_lload d_Model_least_64 2 rfl ?_
            refine rv_lstore_n (lv' := [(2, .long (lN (md_ff S i))), (1, .int (nI i)), (9, .long (lN (md_fz S i))), (7, .long (lN (md_ff S i))), (6, .int (nI i)), (4, .long (lN (md_fz S w))), (0, .ref x)]) d_Model_least_66 rfl (by decide) rfl ?_
            refine rv_lload d_Model_least_67 2 rfl ?_
            refine rv_lstore (lv' := [(4, .long (lN (md_fz S i))), (2, .long (lN (md_ff S i))), (1, .int (nI i)), (9, .long (lN (md_fz S i))), (7, .long (lN (md_ff S i))), (6, .int (nI i)), (0, .ref x)]) d_Model_least_69 (by decide) rfl ?_
            refine rv_iinc (k := 5) (v := nI (i + 1)) (lv' := [(6, .int (nI (i + 1))), (4, .long (lN (md_fz S i))), (2, .long (lN (md_ff S i))), (1, .int (nI i)), (9, .long (lN (md_fz S i))), (7, .long (lN (md_ff S i))), (0, .ref x)]) d_Model_least_71 rfl (nI_1 _) (by decide) rfl ?_
            refine rv_goto (tgt := 10) d_Model_least_74 (by decide) ?_
            have z := ih (i + 1) hp91 g (some i) (by omega) ⟨fun q => (by cases q), fun q => (by omega)⟩ (fun w1 h1 => by injection h1; omega) hS1 (mo_out_tr ho ho1)
            rw [← e] at z
            exact rv_lv [0, 1, 2, 3, 6] (by rw [e]; rfl) z
set_option maxHeartbeats 1000000 in
set_option maxRecDepth 100000 in
theorem c_Model_least {l : Launch} {D : va_G} {ca : Nat → ClassId} {hp : hp_T} {d : Nat} {x : Nat} {A : Nat → Nat} {S : mo_S} (hS : mo_At ca hp x A S) (hA : pi_inj A 13) (hv : md_iv S) : ma_V l D ca ma_T M_Model_least (d + 3) 0 0 hp (ma_qi (fun y hp1 => y = oz_i (md_leasto S) ∧ (∃ mk, mo_At ca hp1 x A (mo_M S mk)) ∧ mo_out x A hp hp1)) 0 (lv_args 0 [.ref x]) [] := by
  change ma_V l D ca ma_T M_Model_least (d + 3) 0 0 hp (ma_qi (fun y hp1 => y = oz_i (md_leasto S) ∧ (∃ mk, mo_At ca hp1 x A (mo_M S mk)) ∧ mo_out x A hp hp1)) 0 [(0, .ref x)] []
  have hS0 : mo_At ca hp x A (mo_M S (md_mk S)) := by rw [mo_M_self hS.2.2]; exact hS
  refine rv_iconst (v := nI 0) d_Model_least_0 (by decide) ?_
  refine rv_istore_n (lv' := [(1, .int (nI 0)), (0, .ref x)]) d_Model_least_1 rfl (by decide) rfl ?_
  refine rv_lconst (v := 0) d_Model_least_2 (by decide) ?_
  refine rv_lstore_n (lv' := [(2, .long 0), (1, .int (nI 0)), (0, .ref x)]) d_Model_least_3 rfl (by decide) rfl ?_
  refine rv_lconst (v := 0) d_Model_least_4 (by decide) ?_
  refine rv_lstore (lv' := [(4, .long 0), (2, .long 0), (1, .int (nI 0)), (0, .ref x)]) d_Model_least_5 (by decide) rfl ?_
  refine rv_iconst (v := nI 0) d_Model_least_7 (by decide) ?_
  refine rv_istore (lv' := [(6, .int (nI 0)), (4, .long 0), (2, .long 0), (1, .int (nI 0)), (0, .ref x)]) d_Model_least_8 (by decide) rfl ?_
  exact rv_lv [0, 1, 2, 3, 4] rfl (c_Model_least_l hA hv (mo_z S) 0 hp (md_mk S) none (Nat.zero_add _) ⟨fun _ => rfl, fun _ => rfl⟩ (fun w h => by cases h) hS0 mo_out_rf)
