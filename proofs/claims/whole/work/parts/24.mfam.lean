def wl_Model_family : List Cond := [.fieldLink "PoolDeskModel" 44 "PoolDeskModel" "marks" "[Z", .methodLink "PoolDeskModel" 70 y_Model_hangs, .instanceMethod y_Model_hangs, .selects "PoolDeskModel" y_Model_hangs y_Model_hangs]
theorem wi_Model_family : ∀ w ∈ wl_Model_family, w ∈ ma_tbl := by decide +kernel
set_option maxHeartbeats 1000000 in
set_option maxRecDepth 100000 in
theorem c_Model_family_1 {l : Launch} {D : va_G} {ca : Nat → ClassId} {d : Nat} {x : Nat} {A : Nat → Nat} {S : mo_S} {hp0 : hp_T} {Q : Option Value → hp_T → Prop} (hA : pi_inj A 13) {t n : Nat} (ht : t < 42) (hn : n ≤ 42) : ∀ (m i : Nat) (hp : hp_T) (mk : Nat → Bool), i + m = 42 → mo_At ca hp x A (mo_M S mk) → mo_out x A hp0 hp → (∀ hp1 : hp_T, mo_At ca hp1 x A (mo_M S (lp_fold (fun u mk => va_up mk u (decide (u = t))) m i mk)) → mo_out x A hp0 hp1 → ma_V l D ca ma_T M_Model_family (d + 2) 0 0 hp1 Q 30 [(3, .int (nI 42)), (0, .ref x), (1, .int (nI t)), (2, .int (nI n))] []) → ma_V l D ca ma_T M_Model_family (d + 2) 0 0 hp Q 2 [(3, .int (nI i)), (0, .ref x), (1, .int (nI t)), (2, .int (nI n))] [] := by
  intro m
  induction m with
  | zero =>
    intro i hp mk hi hS ho K
    obtain rfl : i = 42 := by omega
    refine rv_iload_n d_Model_family_2 rfl 0 rfl ?_
    refine rv_bipush (v := nI 42) d_Model_family_3 (by decide) ?_
    refine rv_icmp_ge (tgt := 30) d_Model_family_5 (by decide) (fun c_5 => ?_) (fun c_5 => ?_)
    · exact K hp hS ho
    · exact absurd (nI_le (by omega) (by omega)) c_5
  | succ m ih =>
    intro i hp mk hi hS ho K
    have hA11 : hp (A 11) = some (.inl (ca 3, 42, .inl (fun u => bI (mk u)))) := hS.2.1 11 (by decide)
    refine rv_iload_n d_Model_family_2 rfl 0 rfl ?_
    refine rv_bipush (v := nI 42) d_Model_family_3 (by decide) ?_
    refine rv_icmp_ge (tgt := 30) d_Model_family_5 (by decide) (fun c_5 => ?_) (fun c_5 => ?_)
    · exact absurd c_5 (nI_ge (by omega) (by omega))
    · refine rv_aload_n d_Model_family_8 rfl 1 rfl ?_
      refine rv_get ka_Model hS.1 rfl 14 (by decide) (wi_Model_family _ (List.mem_of_getElem? (i := 0) rfl)) rfl d_Model_family_9 ?_
      refine rv_iload_n d_Model_family_12 rfl 0 rfl ?_
      refine rv_iload_n d_Model_family_13 rfl 0 rfl ?_
      refine rv_iload_n d_Model_family_14 rfl 2 rfl ?_
      refine rv_icmp_ne (tgt := 22) d_Model_family_15 (by decide) (fun c_15 => ?_) (fun c_15 => ?_)
      · have e0 : decide (i = t) = false := decide_eq_false (fun z => c_15 (by rw [z]))
        refine rv_iconst (v := nI 0) d_Model_family_22 (by decide) ?_
        refine rv_zast hA11 3 rfl (by omega) (by decide) rfl d_Model_family_23
          (fun hp77 ehp77 => ?_)
        have hf77_0 : hp77 x = some (.inr (6, [.int (nI (mo_z S)), .ref (A 0), .ref (A 1), .ref (A 2), .ref (A 3), .ref (A 4), .ref (A 5), .ref (A 6), .ref (A 7), .int (mo_c S), .ref (A 8), .int (nI (mo_t S)), .ref (A 9), .ref (A 10), .ref (A 11), .ref (A 12), .int (nI (mo_r S))])) := by rw [ehp77, hp_un (hp_ne hS.1 hA11 (fun q => by first | cases q | simp at q))]; exact hS.1
        have hf77_1 : hp77 (A 11) = some (.inl (ca 3, 42, .inl (upd (fun u => bI (mk u)) i (nI 0)))) := by rw [ehp77]; exact hp_us
        refine rv_iinc (k := 0) (v := nI (i + 1)) (lv' := [(3, .int (nI (i + 1))), (0, .ref x), (1, .int (nI t)), (2, .int (nI n))]) d_Model_family_24 rfl (nI_1 _) (by decide) rfl ?_
        refine rv_goto (tgt := 2) d_Model_family_27 (by decide) ?_
        have hS2 := mo_putM hS hA (k := i) (b := decide (i = t)) (y := .inl (ca 3, 42, .inl (upd (fun u => bI (mk u)) i (bI (decide (i = t)))))) rfl
        have eh : hp77 = hp_up hp (A 11) (.inl (ca 3, 42, .inl (upd (fun u => bI (mk u)) i (bI (decide (i = t)))))) := by rw [ehp77, e0]; rfl
        rw [← eh] at hS2
        exact rv_lv [0, 1, 2, 3] rfl (ih (i + 1) hp77 _ (by omega) hS2 (by rw [eh]; exact mo_out_tr ho (mo_out_a (by decide))) K)
      · have e0 : decide (i = t) = true := decide_eq_true ((nI_eq (by omega) (by omega)).mp c_15)
        refine rv_iconst (v := nI 1) d_Model_family_18 (by decide) ?_
        refine rv_goto (tgt := 23) d_Model_family_19 (by decide) ?_
        refine rv_zast hA11 3 rfl (by omega) (by decide) rfl d_Model_family_23
          (fun hp78 ehp78 => ?_)
        have hf78_0 : hp78 x = some (.inr (6, [.int (nI (mo_z S)), .ref (A 0), .ref (A 1), .ref (A 2), .ref (A 3), .ref (A 4), .ref (A 5), .ref (A 6), .ref (A 7), .int (mo_c S), .ref (A 8), .int (nI (mo_t S)), .ref (A 9), .ref (A 10), .ref (A 11), .ref (A 12), .int (nI (mo_r S))])) := by rw [ehp78, hp_un (hp_ne hS.1 hA11 (fun q => by first | cases q | simp at q))]; exact hS.1
        have hf78_1 : hp78 (A 11) = some (.inl (ca 3, 42, .inl (upd (fun u => bI (mk u)) i (nI 1)))) := by rw [ehp78]; exact hp_us
        refine rv_iinc (k := 0) (v := nI (i + 1)) (lv' := [(3, .int (nI (i + 1))), (0, .ref x), (1, .int (nI t)), (2, .int (nI n))]) d_Model_family_24 rfl (nI_1 _) (by decide) rfl ?_
        refine rv_goto (tgt := 2) d_Model_family_27 (by decide) ?_
        have hS2 := mo_putM hS hA (k := i) (b := decide (i = t)) (y := .inl (ca 3, 42, .inl (upd (fun u => bI (mk u)) i (bI (decide (i = t)))))) rfl
        have eh : hp78 = hp_up hp (A 11) (.inl (ca 3, 42, .inl (upd (fun u => bI (mk u)) i (bI (decide (i = t)))))) := by rw [ehp78, e0]; rfl
        rw [← eh] at hS2
        exact rv_lv [0, 1, 2, 3] rfl (ih (i + 1) hp78 _ (by omega) hS2 (by rw [eh]; exact mo_out_tr ho (mo_out_a (by decide))) K)
set_option maxHeartbeats 1000000 in
set_option maxRecDepth 100000 in
theorem c_Model_family_2 {l : Launch} {D : va_G} {ca : Nat → ClassId} {d : Nat} {hp : hp_T} {mk : Nat → Bool} {ag : Bool} {u : Nat} {x : Nat} {A : Nat → Nat} {S : mo_S} {Q : Option Value → hp_T → Prop} (hA : pi_inj A 13) {t n : Nat} (ht : t < 42) (hn : n ≤ 42) (hS : mo_At ca hp x A (mo_M S mk)) (hun : u < n) (hu : mk u = false) : ∀ (m i : Nat), i + m = 42 → (lp_any (fun v => mk v && (!decide (u = v) && md_hangs S u v)) m i = true → ∀ (hp1 : hp_T) (j : Nat), mo_At ca hp1 x A (mo_M S (va_up mk u true)) → mo_out x A hp hp1 → ma_V l D ca ma_T M_Model_family (d + 2) 0 0 hp1 Q 111 [(5, .int (nI j)), (4, .int (nI u)), (3, .int (nI 1)), (0, .ref x), (1, .int (nI t)), (2, .int (nI n))] []) → (lp_any (fun v => mk v && (!decide (u = v) && md_hangs S u v)) m i = false → ∀ j : Nat, ma_V l D ca ma_T M_Model_family (d + 2) 0 0 hp Q 111 [(5, .int (nI j)), (4, .int (nI u)), (3, .int (bI ag)), (0, .ref x), (1, .int (nI t)), (2, .int (nI n))] []) → ma_V l D ca ma_T M_Model_family (d + 2) 0 0 hp Q 50 [(5, .int (nI i)), (4, .int (nI u)), (3, .int (bI ag)), (0, .ref x), (1, .int (nI t)), (2, .int (nI n))] [] := by
  have hA11 : hp (A 11) = some (.inl (ca 3, 42, .inl (fun u => bI (mk u)))) := hS.2.1 11 (by decide)
  intro m
  induction m with
  | zero =>
    intro i hi hT hF
    refine rv_iload d_Model_family_50 0 rfl ?_
    refine rv_bipush (v := nI 42) d_Model_family_52 (by decide) ?_
    refine rv_icmp_ge (tgt := 111) d_Model_family_54 (by decide) (fun c_54 => ?_) (fun c_54 => ?_)
    · exact hF rfl i
    · exact absurd (nI_le (by omega) (by omega)) c_54
  | succ m ih =>
    intro i hi hT hF
    refine rv_iload d_Model_family_50 0 rfl ?_
    refine rv_bipush (v := nI 42) d_Model_family_52 (by decide) ?_
    refine rv_icmp_ge (tgt := 111) d_Model_family_54 (by decide) (fun c_54 => ?_) (fun c_54 => ?_)
    · exact absurd c_54 (nI_ge (by omega) (by omega))
    · refine rv_aload_n d_Model_family_57 rfl 3 rfl ?_
      refine rv_get ka_Model hS.1 rfl 14 (by decide) (wi_Model_family _ (List.mem_of_getElem? (i := 0) rfl)) rfl d_Model_family_58 ?_
      refine rv_iload d_Model_family_61 1 rfl ?_
      refine rv_zald hA11 3 rfl (by omega) (by decide) d_Model_family_63 ?_
      refine rv_eqi (y := bI (mk u)) (rfl) ?_
      refine rv_if_ne (tgt := 111) d_Model_family_64 (by decide) (fun c_64 => ?_) (fun c_64 => ?_)
      · exact absurd (bI_n.mp c_64) (by rw [hu]; exact Bool.false_ne_true)
      · refine rv_aload_n d_Model_family_67 rfl 3 rfl ?_
        refine rv_get ka_Model hS.1 rfl 14 (by decide) (wi_Model_family _ (List.mem_of_getElem? (i := 0) rfl)) rfl d_Model_family_68 ?_
        refine rv_iload d_Model_family_71 0 rfl ?_
        refine rv_zald hA11 3 rfl (by omega) (by decide) d_Model_family_73 ?_
        refine rv_eqi (y := bI (mk i)) (rfl) ?_
        refine rv_if_eq (tgt := 105) d_Model_family_74 (by decide) (fun c_74 => ?_) (fun c_74 => ?_)
        · have e : (fun v => mk v && (!decide (u = v) && md_hangs S u v)) i = false := by show (_ && _) = false; rw [bI_0.mp c_74, Bool.false_and]
          refine rv_iinc (k := 0) (v := nI (i + 1)) (lv' := [(5, .int (nI (i + 1))), (4, .int (nI u)), (3, .int (bI ag)), (0, .ref x), (1, .int (nI t)), (2, .int (nI n))]) d_Model_family_105 rfl (nI_1 _) (by decide) rfl ?_
          refine rv_goto (tgt := 50) d_Model_family_108 (by decide) ?_
          exact rv_lv [0, 1, 2, 3, 4, 5] rfl (ih (i + 1) (by omega) (fun h => hT (by rw [lp_any_f e]; exact h)) (fun h => hF (by rw [lp_any_f e]; exact h)))
        · refine rv_iload d_Model_family_77 1 rfl ?_
          refine rv_iload d_Model_family_79 0 rfl ?_
          refine rv_icmp_eq (tgt := 105) d_Model_family_81 (by decide) (fun c_81 => ?_) (fun c_81 => ?_)
          · have e : (fun v => mk v && (!decide (u = v) && md_hangs S u v)) i = false := by show (_ && (!decide (u = i) && _)) = false; rw [decide_eq_true ((nI_eq (by omega) (by omega)).mp c_81)]; simp
            refine rv_iinc (k := 0) (v := nI (i + 1)) (lv' := [(5, .int (nI (i + 1))), (4, .int (nI u)), (3, .int (bI ag)), (0, .ref x), (1, .int (nI t)), (2, .int (nI n))]) d_Model_family_105 rfl (nI_1 _) (by decide) rfl ?_
            refine rv_goto (tgt := 50) d_Model_family_108 (by decide) ?_
            exact rv_lv [0, 1, 2, 3, 4, 5] rfl (ih (i + 1) (by omega) (fun h => hT (by rw [lp_any_f e]; exact h)) (fun h => hF (by rw [lp_any_f e]; exact h)))
          · have q0 : ¬ u = i := fun z => c_81 (by rw [z])
            refine rv_aload_n d_Model_family_84 rfl 3 rfl ?_
            refine rv_iload d_Model_family_85 1 rfl ?_
            refine rv_iload d_Model_family_87 0 rfl ?_
            refine rv_callV (kc' := 0) (ks' := 0) (kc1 := 0) (ks1 := 0) (As := [.int (nI u), .int (nI i)]) (rest := []) hS.1 rfl (c_Model_hangs hS (by omega) (by omega)) ok_Model_hangs (wi_Model_family _ (List.mem_of_getElem? (i := 1) rfl)) (wi_Model_family _ (List.mem_of_getElem? (i := 2) rfl)) (wi_Model_family _ (List.mem_of_getElem? (i := 3) rfl)) rfl rfl (Nat.le_of_ble_eq_true rfl) (Nat.le_of_ble_eq_true rfl) ⟨Nat.le_of_ble_eq_true rfl, Nat.le_of_ble_eq_true rfl⟩ d_Model_family_89 (rv_kie ?_)
            refine rv_eqi (y := bI (md_hangs S u i)) (congrArg bI md_hangsM) ?_
            refine rv_if_eq (tgt := 105) d_Model_family_92 (by decide) (fun c_92 => ?_) (fun c_92 => ?_)
            · have e : (fun v => mk v && (!decide (u = v) && md_hangs S u v)) i = false := by show (_ && (_ && _)) = false; rw [bI_0.mp c_92, Bool.and_false, Bool.and_false]
              refine rv_iinc (k := 0) (v := nI (i + 1)) (lv' := [(5, .int (nI (i + 1))), (4, .int (nI u)), (3, .int (bI ag)), (0, .ref x), (1, .int (nI t)), (2, .int (nI n))]) d_Model_family_105 rfl (nI_1 _) (by decide) rfl ?_
              refine rv_goto (tgt := 50) d_Model_family_108 (by decide) ?_
              exact rv_lv [0, 1, 2, 3, 4, 5] rfl (ih (i + 1) (by omega) (fun h => hT (by rw [lp_any_f e]; exact h)) (fun h => hF (by rw [lp_any_f e]; exact h)))
            · have e : (fun v => mk v && (!decide (u = v) && md_hangs S u v)) i = true := by show (_ && (!decide (u = i) && _)) = true; rw [bI_n.mp c_74, decide_eq_false q0, bI_n.mp c_92]; rfl
              refine rv_aload_n d_Model_family_95 rfl 3 rfl ?_
              refine rv_get ka_Model hS.1 rfl 14 (by decide) (wi_Model_family _ (List.mem_of_getElem? (i := 0) rfl)) rfl d_Model_family_96 ?_
              refine rv_iload d_Model_family_99 1 rfl ?_
              refine rv_iconst (v := nI 1) d_Model_family_101 (by decide) ?_
              refine rv_zast hA11 3 rfl (by omega) (by decide) rfl d_Model_family_102
                (fun hp79 ehp79 => ?_)
              have hf79_0 : hp79 x = some (.inr (6, [.int (nI (mo_z S)), .ref (A 0), .ref (A 1), .ref (A 2), .ref (A 3), .ref (A 4), .ref (A 5), .ref (A 6), .ref (A 7), .int (mo_c S), .ref (A 8), .int (nI (mo_t S)), .ref (A 9), .ref (A 10), .ref (A 11), .ref (A 12), .int (nI (mo_r S))])) := by rw [ehp79, hp_un (hp_ne hS.1 hA11 (fun q => by first | cases q | simp at q))]; exact hS.1
              have hf79_1 : hp79 (A 11) = some (.inl (ca 3, 42, .inl (upd (fun u => bI (mk u)) u (nI 1)))) := by rw [ehp79]; exact hp_us
              refine rv_iconst (v := nI 1) d_Model_family_103 (by decide) ?_
              refine rv_istore_n (lv' := [(3, .int (nI 1)), (5, .int (nI i)), (4, .int (nI u)), (0, .ref x), (1, .int (nI t)), (2, .int (nI n))]) d_Model_family_104 rfl (by decide) rfl ?_
              refine rv_iinc (k := 1) (v := nI (i + 1)) (lv' := [(5, .int (nI (i + 1))), (3, .int (nI 1)), (4, .int (nI u)), (0, .ref x), (1, .int (nI t)), (2, .int (nI n))]) d_Model_family_105 rfl (nI_1 _) (by decide) rfl ?_
              refine rv_goto (tgt := 50) d_Model_family_108 (by decide) ?_
              have hS2 := mo_putM hS hA (k := u) (b := true) (y := .inl (ca 3, 42, .inl (upd (fun u => bI (mk u)) u (bI true)))) rfl
              have eh : hp79 = hp_up hp (A 11) (.inl (ca 3, 42, .inl (upd (fun u => bI (mk u)) u (bI true)))) := ehp79
              rw [← eh] at hS2
              have ho2 : mo_out x A hp hp79 := by rw [eh]; exact mo_out_a (by decide)
              have hA11 : hp79 (A 11) = some (.inl (ca 3, 42, .inl (fun v => bI (va_up mk u true v)))) := hS2.2.1 11 (by decide)
              refine rv_iload d_Model_family_50 0 rfl ?_
              refine rv_bipush (v := nI 42) d_Model_family_52 (by decide) ?_
              refine rv_icmp_ge (tgt := 111) d_Model_family_54 (by decide) (fun c_54 => ?_) (fun c_54 => ?_)
              · exact rv_lv [0, 2, 1, 3, 4, 5] rfl (hT (lp_any_t e) hp79 (i + 1) hS2 ho2)
              · refine rv_aload_n d_Model_family_57 rfl 3 rfl ?_
                refine rv_get ka_Model hS2.1 rfl 14 (by decide) (wi_Model_family _ (List.mem_of_getElem? (i := 0) rfl)) rfl d_Model_family_58 ?_
                refine rv_iload d_Model_family_61 2 rfl ?_
                refine rv_zald hA11 3 rfl (by omega) (by decide) d_Model_family_63 ?_
                refine rv_eqi (y := bI (va_up mk u true u)) (rfl) ?_
                refine rv_if_ne (tgt := 111) d_Model_family_64 (by decide) (fun c_64 => ?_) (fun c_64 => ?_)
                · exact rv_lv [0, 2, 1, 3, 4, 5] rfl (hT (lp_any_t e) hp79 (i + 1) hS2 ho2)
                · exact absurd (bI_0.mp c_64) (by rw [va_up_s]; exact Bool.noConfusion)
set_option maxHeartbeats 1000000 in
set_option maxRecDepth 100000 in
theorem c_Model_family_3 {l : Launch} {D : va_G} {ca : Nat → ClassId} {d : Nat} {x : Nat} {A : Nat → Nat} {S : mo_S} {hp0 : hp_T} {Q : Option Value → hp_T → Prop} (hA : pi_inj A 13) {t n : Nat} (ht : t < 42) (hn : n ≤ 42) : ∀ (m i : Nat) (hp : hp_T) (r : (Nat → Bool) × Bool), i + m = n → mo_At ca hp x A (mo_M S r.1) → mo_out x A hp0 hp → (∀ hp1 : hp_T, mo_At ca hp1 x A (mo_M S (lp_fold (md_passF S) m i r).1) → mo_out x A hp0 hp1 → ma_V l D ca ma_T M_Model_family (d + 2) 0 0 hp1 Q 117 [(4, .int (nI n)), (3, .int (bI (lp_fold (md_passF S) m i r).2)), (0, .ref x), (1, .int (nI t)), (2, .int (nI n))] []) → ma_V l D ca ma_T M_Model_family (d + 2) 0 0 hp Q 41 [(4, .int (nI i)), (3, .int (bI r.2)), (0, .ref x), (1, .int (nI t)), (2, .int (nI n))] [] := by
  intro m
  induction m with
  | zero =>
    intro i hp r hi hS ho K
    obtain rfl : i = n := by omega
    refine rv_iload d_Model_family_41 0 rfl ?_
    refine rv_iload_n d_Model_family_43 rfl 4 rfl ?_
    refine rv_icmp_ge (tgt := 117) d_Model_family_44 (by decide) (fun c_44 => ?_) (fun c_44 => ?_)
    · exact K hp hS ho
    · exact absurd (nI_le (by omega) (by omega)) c_44
  | succ m ih =>
    intro i hp r hi hS ho K
    have K : ∀ hp1 : hp_T, mo_At ca hp1 x A (mo_M S (lp_fold (md_passF S) m (i + 1) (md_passF S i r)).1) → mo_out x A hp0 hp1 → ma_V l D ca ma_T M_Model_family (d + 2) 0 0 hp1 Q 117 [(4, .int (nI n)), (3, .int (bI (lp_fold (md_passF S) m (i + 1) (md_passF S i r)).2)), (0, .ref x), (1, .int (nI t)), (2, .int (nI n))] [] := K
    refine rv_iload d_Model_family_41 0 rfl ?_
    refine rv_iload_n d_Model_family_43 rfl 4 rfl ?_
    refine rv_icmp_ge (tgt := 117) d_Model_family_44 (by decide) (fun c_44 => ?_) (fun c_44 => ?_)
    · exact absurd c_44 (nI_ge (by omega) (by omega))
    · refine rv_iconst (v := nI 0) d_Model_family_47 (by decide) ?_
      refine rv_istore (lv' := [(5, .int (nI 0)), (4, .int (nI i)), (3, .int (bI r.2)), (0, .ref x), (1, .int (nI t)), (2, .int (nI n))]) d_Model_family_48 (by decide) rfl ?_
      by_cases hu : r.1 i = true
      · have hA11 : hp (A 11) = some (.inl (ca 3, 42, .inl (fun u => bI (r.1 u)))) := hS.2.1 11 (by decide)
        have e : md_passF S i r = r := if_pos hu
        rw [e] at K
        refine rv_iload d_Model_family_50 0 rfl ?_
        refine rv_bipush (v := nI 42) d_Model_family_52 (by decide) ?_
        refine rv_icmp_ge (tgt := 111) d_Model_family_54 (by decide) (fun c_54 => ?_) (fun c_54 => ?_)
        · exact absurd c_54 (nI_ge (by decide) (by decide))
        · refine rv_aload_n d_Model_family_57 rfl 3 rfl ?_
          refine rv_get ka_Model hS.1 rfl 14 (by decide) (wi_Model_family _ (List.mem_of_getElem? (i := 0) rfl)) rfl d_Model_family_58 ?_
          refine rv_iload d_Model_family_61 1 rfl ?_
          refine rv_zald hA11 3 rfl (by omega) (by decide) d_Model_family_63 ?_
          refine rv_eqi (y := bI (r.1 i)) (rfl) ?_
          refine rv_if_ne (tgt := 111) d_Model_family_64 (by decide) (fun c_64 => ?_) (fun c_64 => ?_)
          · refine rv_iinc (k := 1) (v := nI (i + 1)) (lv' := [(4, .int (nI (i + 1))), (5, .int (nI 0)), (3, .int (bI r.2)), (0, .ref x), (1, .int (nI t)), (2, .int (nI n))]) d_Model_family_111 rfl (nI_1 _) (by decide) rfl ?_
            refine rv_goto (tgt := 41) d_Model_family_114 (by decide) ?_
            exact rv_lv [0, 2, 3, 4, 5] rfl (ih (i + 1) hp r (by omega) hS ho K)
          · exact absurd hu (by rw [bI_0.mp c_64]; exact Bool.false_ne_true)
      · refine rv_lv [0, 1, 2, 3, 4, 5] rfl (c_Model_family_2 (ag := r.2) hA ht hn hS (by omega) (bt_f hu) 42 0 (Nat.zero_add _) (fun h hp1 j hS1 ho1 => ?_) (fun h j => ?_))
        · have e : md_passF S i r = (va_up r.1 i true, true) := by unfold md_passF; rw [if_neg hu, if_pos (show md_hit S r.1 i = true from h)]
          rw [e] at K
          refine rv_iinc (k := 1) (v := nI (i + 1)) (lv' := [(4, .int (nI (i + 1))), (5, .int (nI j)), (3, .int (nI 1)), (0, .ref x), (1, .int (nI t)), (2, .int (nI n))]) d_Model_family_111 rfl (nI_1 _) (by decide) rfl ?_
          refine rv_goto (tgt := 41) d_Model_family_114 (by decide) ?_
          exact rv_lv [0, 2, 3, 4, 5] rfl (ih (i + 1) hp1 (va_up r.1 i true, true) (by omega) hS1 (mo_out_tr ho ho1) K)
        · have e : md_passF S i r = r := by unfold md_passF; rw [if_neg hu, if_neg (by rw [show md_hit S r.1 i = false from h]; exact Bool.false_ne_true)]
          rw [e] at K
          refine rv_iinc (k := 1) (v := nI (i + 1)) (lv' := [(4, .int (nI (i + 1))), (5, .int (nI j)), (3, .int (bI r.2)), (0, .ref x), (1, .int (nI t)), (2, .int (nI n))]) d_Model_family_111 rfl (nI_1 _) (by decide) rfl ?_
          refine rv_goto (tgt := 41) d_Model_family_114 (by decide) ?_
          exact rv_lv [0, 2, 3, 4, 5] rfl (ih (i + 1) hp r (by omega) hS ho K)
set_option maxHeartbeats 1000000 in
set_option maxRecDepth 100000 in
theorem c_Model_family_4 {l : Launch} {D : va_G} {ca : Nat → ClassId} {d : Nat} {x : Nat} {A : Nat → Nat} {S : mo_S} {hp0 : hp_T} (hA : pi_inj A 13) {t n : Nat} (ht : t < 42) (hn : n ≤ 42) : ∀ (m : Nat) (hp : hp_T) (mk : Nat → Bool), n - ct_n mk n < m → mo_At ca hp x A (mo_M S mk) → mo_out x A hp0 hp → ma_V l D ca ma_T M_Model_family (d + 2) 0 0 hp (ma_qv (fun hp1 => mo_At ca hp1 x A (mo_M S (md_famW S n m mk)) ∧ mo_out x A hp0 hp1)) 32 [(3, .int (nI 1)), (0, .ref x), (1, .int (nI t)), (2, .int (nI n))] [] := by
  intro m
  induction m with
  | zero =>
    intro hp mk hm
    omega
  | succ m ih =>
    intro hp mk hm hS ho
    refine rv_iload_n d_Model_family_32 rfl 0 rfl ?_
    refine rv_if_eq (tgt := 120) d_Model_family_33 (by decide) (fun c_33 => ?_) (fun c_33 => ?_)
    · exact absurd c_33 (by decide)
    · refine rv_iconst (v := nI 0) d_Model_family_36 (by decide) ?_
      refine rv_istore_n (lv' := [(3, .int (nI 0)), (0, .ref x), (1, .int (nI t)), (2, .int (nI n))]) d_Model_family_37 rfl (by decide) rfl ?_
      refine rv_iconst (v := nI 0) d_Model_family_38 (by decide) ?_
      refine rv_istore (lv' := [(4, .int (nI 0)), (3, .int (nI 0)), (0, .ref x), (1, .int (nI t)), (2, .int (nI n))]) d_Model_family_39 (by decide) rfl ?_
      refine rv_lv [0, 1, 2, 3, 4] rfl (c_Model_family_3 hA ht hn n 0 hp (mk, false) (Nat.zero_add _) hS ho (fun hp1 hS1 ho1 => ?_))
      change mo_At ca hp1 x A (mo_M S (md_pass S n mk).1) at hS1
      change ma_V l D ca ma_T M_Model_family (d + 2) 0 0 hp1 _ 117 [(4, .int (nI n)), (3, .int (bI (md_pass S n mk).2)), (0, .ref x), (1, .int (nI t)), (2, .int (nI n))] []
      cases hg : (md_pass S n mk).2 with
      | true =>
        refine rv_lv (lv' := [(4, .int (nI n)), (3, .int (nI 1)), (0, .ref x), (1, .int (nI t)), (2, .int (nI n))]) [0, 1, 2, 3, 4] rfl ?_
        have e : md_famW S n (m + 1) mk = md_famW S n m (md_pass S n mk).1 := if_pos hg
        rw [e]
        have gr := md_pass_grow hg
        have cl := ct_le (md_pass S n mk).1 n
        refine rv_goto (tgt := 32) d_Model_family_117 (by decide) ?_
        exact rv_lv [1, 2, 3, 4] rfl (ih hp1 _ (by omega) hS1 ho1)
      | false =>
        refine rv_lv (lv' := [(4, .int (nI n)), (3, .int (nI 0)), (0, .ref x), (1, .int (nI t)), (2, .int (nI n))]) [0, 1, 2, 3, 4] rfl ?_
        have e : md_famW S n (m + 1) mk = (md_pass S n mk).1 := if_neg (by rw [hg]; exact Bool.false_ne_true)
        rw [e]
        refine rv_goto (tgt := 32) d_Model_family_117 (by decide) ?_
        refine rv_iload_n d_Model_family_32 rfl 1 rfl ?_
        refine rv_if_eq (tgt := 120) d_Model_family_33 (by decide) (fun c_33 => ?_) (fun c_33 => ?_)
        · exact rv_vreturn ⟨rfl, hS1, ho1⟩ d_Model_family_120 rfl
        · exact absurd (by decide) c_33
set_option maxHeartbeats 1000000 in
set_option maxRecDepth 100000 in
theorem c_Model_family {l : Launch} {D : va_G} {ca : Nat → ClassId} {hp : hp_T} {d : Nat} {x : Nat} {A : Nat → Nat} {S : mo_S} (hS : mo_At ca hp x A S) (hA : pi_inj A 13) {t n : Nat} (ht : t < 42) (hn : n ≤ 42) : ma_V l D ca ma_T M_Model_family (d + 2) 0 0 hp (ma_qv (fun hp1 => mo_At ca hp1 x A (mo_M S (md_fam S t n)) ∧ mo_out x A hp hp1)) 0 (lv_args 0 [.ref x, .int (nI t), .int (nI n)]) [] := by
  change ma_V l D ca ma_T M_Model_family (d + 2) 0 0 hp (ma_qv (fun hp1 => mo_At ca hp1 x A (mo_M S (md_fam S t n)) ∧ mo_out x A hp hp1)) 0 [(0, .ref x), (1, .int (nI t)), (2, .int (nI n))] []
  have hS0 : mo_At ca hp x A (mo_M S (md_mk S)) := by rw [mo_M_self hS.2.2]; exact hS
  refine rv_iconst (v := nI 0) d_Model_family_0 (by decide) ?_
  refine rv_istore_n (lv' := [(3, .int (nI 0)), (0, .ref x), (1, .int (nI t)), (2, .int (nI n))]) d_Model_family_1 rfl (by decide) rfl ?_
  refine rv_lv [0, 1, 2, 3] rfl (c_Model_family_1 hA ht hn 42 0 hp (md_mk S) (Nat.zero_add _) hS0 mo_out_rf (fun hp1 hS1 ho1 => ?_))
  refine rv_iconst (v := nI 1) d_Model_family_30 (by decide) ?_
  refine rv_istore_n (lv' := [(3, .int (nI 1)), (0, .ref x), (1, .int (nI t)), (2, .int (nI n))]) d_Model_family_31 rfl (by decide) rfl ?_
  exact rv_lv [0, 1, 2, 3] rfl (c_Model_family_4 hA ht hn 43 hp1 _ (by omega) hS1 ho1)
