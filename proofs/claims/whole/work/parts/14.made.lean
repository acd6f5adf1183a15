def wl_Pool_init : List Cond := [.fieldLink "PoolDesk$Pool" 11 "PoolDesk$Pool" "places" "[LPoolDesk$Transaction;", .classLink "PoolDesk$Pool" 9 "PoolDesk$Transaction", .instantiable "PoolDesk$Transaction" 8, .initialized "PoolDesk$Transaction", .instanceMethod y_Tx_init, .methodLink "PoolDesk$Pool" 3 Lib.objectInit, .instanceMethod Lib.objectInit, .code Lib.objectInit ⟨#[0xb1]⟩ 1 none]
theorem wi_Pool_init : ∀ w ∈ wl_Pool_init, w ∈ ma_tbl := by decide +kernel
def wl_Desk_init : List Cond := [.methodLink "PoolDesk" 3 Lib.objectInit, .instanceMethod Lib.objectInit, .code Lib.objectInit ⟨#[0xb1]⟩ 1 none, .classLink "PoolDesk" 9 "PoolDesk$Name", .instantiable "PoolDesk$Name" 4, .initialized "PoolDesk$Name", .instanceMethod y_Name_init, .fieldLink "PoolDesk" 12 "PoolDesk" "hand" "LPoolDesk$Name;", .classLink "PoolDesk" 16 "PoolDesk$Keys", .instantiable "PoolDesk$Keys" 3, .initialized "PoolDesk$Keys", .instanceMethod y_Keys_init, .fieldLink "PoolDesk" 19 "PoolDesk" "told" "LPoolDesk$Keys;", .classLink "PoolDesk" 23 "PoolDesk$Pool", .instantiable "PoolDesk$Pool" 3, .initialized "PoolDesk$Pool", .methodLink "PoolDesk" 25 y_Pool_init, .instanceMethod y_Pool_init, .fieldLink "PoolDesk" 26 "PoolDesk" "pool" "LPoolDesk$Pool;", .classLink "PoolDesk" 30 "PoolDesk$Row", .instantiable "PoolDesk$Row" 2, .initialized "PoolDesk$Row", .instanceMethod y_Row_init, .fieldLink "PoolDesk" 33 "PoolDesk" "block" "LPoolDesk$Row;"]
theorem wi_Desk_init : ∀ w ∈ wl_Desk_init, w ∈ ma_tbl := by decide +kernel
set_option maxHeartbeats 1000000 in
set_option maxRecDepth 100000 in
theorem c_Pool_init_l {l : Launch} {D : va_G} {ca : Nat → ClassId} {d : Nat} {po : Nat} {hp0 : hp_T} : ∀ (m i : Nat) (hp : hp_T) (L : po_L), i + m = 41 → pi_At ca hp0 hp po L i → ma_V l D ca ma_T M_Pool_init (d + 3) (5 * m) (55 * m) hp (ma_qv (fun hp1 => ∃ L, pi_At ca hp0 hp1 po L 41)) 15 [(1, .int (nI i)), (0, .ref po)] [] := by
  intro m
  induction m with
  | zero =>
    intro i hp L hi hS
    obtain rfl : i = 41 := by omega
    refine rv_iload_n d_Pool_init_15 rfl 0 rfl ?_
    refine rv_bipush (v := nI 41) d_Pool_init_16 (by decide) ?_
    refine rv_icmp_ge (tgt := 40) d_Pool_init_18 (by decide) (fun c_18 => ?_) (fun c_18 => ?_)
    · exact rv_vreturn ⟨rfl, L, hS⟩ d_Pool_init_40 rfl
    · exact absurd (nI_le (by omega) (by omega)) c_18
  | succ m ih =>
    intro i hp L hi hS
    obtain ⟨f, hf, hfp⟩ := hS.2.1
    refine rv_iload_n d_Pool_init_15 rfl 0 rfl ?_
    refine rv_bipush (v := nI 41) d_Pool_init_16 (by decide) ?_
    refine rv_icmp_ge (tgt := 40) d_Pool_init_18 (by decide) (fun c_18 => ?_) (fun c_18 => ?_)
    · exact absurd c_18 (nI_ge (by omega) (by omega))
    · refine rv_aload_n d_Pool_init_21 rfl 1 rfl ?_
      refine rv_get ka_Pool hS.1 rfl 0 (by decide) (wi_Pool_init _ (List.mem_of_getElem? (i := 0) rfl)) rfl d_Pool_init_22 ?_
      refine rv_iload_n d_Pool_init_25 rfl 0 rfl ?_
      refine rv_new (ci := 2) (fs := [.null, .null, .long 0, .int 0, .int 0, .int 0, .long 0, .long 0]) (kc1 := (5 * m + 4)) (ks1 := (55 * m + 47)) ka_Tx rfl (wi_Pool_init _ (List.mem_of_getElem? (i := 1) rfl)) (wi_Pool_init _ (List.mem_of_getElem? (i := 2) rfl)) (wi_Pool_init _ (List.mem_of_getElem? (i := 3) rfl)) (fun j hj => by rcases (show j = 0 ∨ j = 1 ∨ j = 2 ∨ j = 3 ∨ j = 4 ∨ j = 5 ∨ j = 6 ∨ j = 7 by omega) with rfl | rfl | rfl | rfl | rfl | rfl | rfl | rfl <;> rfl) ⟨by omega, by omega⟩ d_Pool_init_26 (fun t hp47 hfr47 ehp47 => ?_)
      have hf47_0 : hp47 po = some (.inr (3, [.ref L.1, .long 0, .int 0])) := by rw [ehp47, hp_un (hp_nn hS.1 hfr47)]; exact hS.1
      have hf47_1 : hp47 L.1 = some (.inl (ca 2, 41, .inr (.inr (.inr (.inr f))))) := by rw [ehp47, hp_un (hp_nn hf hfr47)]; exact hf
      have hf47_q : hp47 t = some (.inr (2, [.null, .null, .long 0, .int 0, .int 0, .int 0, .long 0, .long 0])) := by rw [ehp47]; exact hp_us
      refine rv_dup d_Pool_init_29 rfl ?_
      refine rv_callIN (kc' := 4) (ks' := 47) (kc1 := (5 * m)) (ks1 := (55 * m)) (As := []) (rest := [.ref t, .int (nI i), .ref L.1]) (c_Tx_init hf47_q) ok_Tx_init (host := "PoolDesk") (List.mem_of_getElem? (i := 2) rfl) (wi_Pool_init _ (List.mem_of_getElem? (i := 4) rfl)) rfl rfl rfl rfl (Nat.le_of_ble_eq_true rfl) (Nat.le_of_ble_eq_true rfl) ⟨by omega, by omega⟩ d_Pool_init_30 (rv_kv (fun hp48 ehp48 => ?_))
      obtain ⟨n, k, w, z, gn, gk, gw, gz, h2t, h2n, h2k, hke⟩ := ehp48
      have hg48_0 : hp48 po = some (.inr (3, [.ref L.1, .long 0, .int 0])) := by rw [hke po (by rw [hf47_0]; intro z; cases z) (hp_ne hf47_0 hf47_q (fun q => by first | cases q | simp at q))]; exact hf47_0
      have hg48_1 : hp48 L.1 = some (.inl (ca 2, 41, .inr (.inr (.inr (.inr f))))) := by rw [hke L.1 (by rw [hf47_1]; intro z; cases z) (hp_ne hf47_1 hf47_q (fun q => by first | cases q | simp at q))]; exact hf47_1
      refine rv_aast hg48_1 h2t rfl 2 rfl (by omega) (by decide) d_Pool_init_33
        (fun hp49 ehp49 => ?_)
      have hf49_0 : hp49 po = some (.inr (3, [.ref L.1, .long 0, .int 0])) := by rw [ehp49, hp_un (hp_ne hg48_0 hg48_1 (fun q => by first | cases q | simp at q))]; exact hg48_0
      have hf49_1 : hp49 L.1 = some (.inl (ca 2, 41, .inr (.inr (.inr (.inr (va_up f i (some t))))))) := by rw [ehp49]; exact hp_us
      have hf49_2 : hp49 t = some (.inr (2, [.ref n, .ref k, .long 0, .int 0, .int 0, .int 0, .long 0, .long 0])) := by rw [ehp49, hp_un (hp_ne h2t hg48_1 (fun q => by first | cases q | simp at q))]; exact h2t
      refine rv_iinc (k := 0) (v := nI (i + 1)) (lv' := [(1, .int (nI (i + 1))), (0, .ref po)]) d_Pool_init_34 rfl (nI_1 _) (by decide) rfl ?_
      refine rv_goto (tgt := 15) d_Pool_init_37 (by decide) ?_
      rw [ehp47] at gn gk gw gz hke
      have hS2 := pi_step hS hf hfp hfr47 gn gk gw gz h2t h2n h2k hke
      rw [← ehp49] at hS2
      exact rv_lv [0, 1] rfl (ih (i + 1) hp49 _ (by omega) hS2)
set_option maxHeartbeats 1000000 in
set_option maxRecDepth 100000 in
theorem c_Pool_init {l : Launch} {D : va_G} {ca : Nat → ClassId} {hp : hp_T} {d : Nat} {po : Nat} (h : hp po = some (.inr (3, [.null, .long 0, .int 0]))) : ma_V l D ca ma_T M_Pool_init (d + 3) 206 2296 hp (ma_qv (fun hp1 => ∃ L, pi_At ca hp hp1 po L 41)) 0 (lv_args 0 [.ref po]) [] := by
  change ma_V l D ca ma_T M_Pool_init (d + 3) 206 2296 hp (ma_qv (fun hp1 => ∃ L, pi_At ca hp hp1 po L 41)) 0 [(0, .ref po)] []
  refine rv_aload_n d_Pool_init_0 rfl 0 rfl ?_
  refine rv_obj (wi_Pool_init _ (List.mem_of_getElem? (i := 5) rfl)) (wi_Pool_init _ (List.mem_of_getElem? (i := 6) rfl)) (wi_Pool_init _ (List.mem_of_getElem? (i := 7) rfl)) (Nat.le_of_ble_eq_true rfl) d_Pool_init_1 ?_
  refine rv_aload_n d_Pool_init_4 rfl 0 rfl ?_
  refine rv_bipush (v := nI 41) d_Pool_init_5 (by decide) ?_
  refine rv_newq (cA := ca 2) (n := 41) (kc1 := 205) (ks1 := 2255) (C := "PoolDesk$Transaction") 2 rfl (wi_Pool_init _ (List.mem_of_getElem? (i := 1) rfl)) List.mem_cons_self (by decide) ⟨by omega, by omega⟩ d_Pool_init_7 (fun pl hp50 hfr50 ehp50 => ?_)
  have hf50_0 : hp50 po = some (.inr (3, [.null, .long 0, .int 0])) := by rw [ehp50, hp_un (hp_nn h hfr50)]; exact h
  have hf50_q : hp50 pl = some (.inl (ca 2, 41, .inr (.inr (.inr (.inr (fun _ => none)))))) := by rw [ehp50]; exact hp_us
  refine rv_putF (fs' := [.ref pl, .long 0, .int 0]) ka_Pool hf50_0 rfl 0 (by decide) (wi_Pool_init _ (List.mem_of_getElem? (i := 0) rfl)) rfl rfl rfl rfl rfl (Nat.le_of_ble_eq_true rfl) rfl d_Pool_init_10
    (fun hp51 ehp51 => ?_)
  have hf51_0 : hp51 po = some (.inr (3, [.ref pl, .long 0, .int 0])) := by rw [ehp51]; exact hp_us
  have hf51_1 : hp51 pl = some (.inl (ca 2, 41, .inr (.inr (.inr (.inr (fun _ => none)))))) := by rw [ehp51, hp_un (hp_ne hf50_q hf50_0 (fun q => by first | cases q | simp at q))]; exact hf50_q
  refine rv_iconst (v := nI 0) d_Pool_init_13 (by decide) ?_
  refine rv_istore_n (lv' := [(1, .int (nI 0)), (0, .ref po)]) d_Pool_init_14 rfl (by decide) rfl ?_
  have hz : ∀ (Z : Nat → Nat), pi_inj Z 0 := fun Z p q hp0 => absurd hp0 (Nat.not_lt_zero p)
  have hA : pi_At ca hp hp51 po (pl, fun _ => 0, fun _ => 0, fun _ => 0, fun _ => 0, fun _ => 0) 0 := ⟨hf51_0, ⟨_, hf51_1, fun p hp0 => absurd hp0 (Nat.not_lt_zero p)⟩, fun p hp0 => absurd hp0 (Nat.not_lt_zero p), ⟨hz _, hz _, hz _, hz _, hz _⟩, fun p hp0 => absurd hp0 (Nat.not_lt_zero p), hfr50, by rw [ehp51, ehp50]; exact hp_ke_own (hp_ke_new hp_ke_rf hfr50)⟩
  exact rv_lv [0, 1] rfl (c_Pool_init_l 41 0 hp51 _ (Nat.zero_add _) hA)
set_option maxHeartbeats 1000000 in
set_option maxRecDepth 100000 in
theorem c_Desk_init {l : Launch} {D : va_G} {ca : Nat → ClassId} {hp : hp_T} {d : Nat} {x : Nat} (h : hp x = some (.inr (5, [.null, .null, .null, .null]))) : ma_V l D ca ma_T M_Desk_init (d + 4) 213 2512 hp (ma_qv (fun hp1 => ∃ L : dk_L, dk_x L = x ∧ dk_At ca hp1 L (nm_0, kv_0, (0, 0, fun _ => tx_0), 0, fun _ => 0) ∧ dk_ok L ∧ (∀ b, dk_fp L b → b = x ∨ hp b = none) ∧ hp_ke x hp hp1)) 0 (lv_args 0 [.ref x]) [] := by
  change ma_V l D ca ma_T M_Desk_init (d + 4) 213 2512 hp (ma_qv (fun hp1 => ∃ L : dk_L, dk_x L = x ∧ dk_At ca hp1 L (nm_0, kv_0, (0, 0, fun _ => tx_0), 0, fun _ => 0) ∧ dk_ok L ∧ (∀ b, dk_fp L b → b = x ∨ hp b = none) ∧ hp_ke x hp hp1)) 0 [(0, .ref x)] []
  refine rv_aload_n d_Desk_init_0 rfl 0 rfl ?_
  refine rv_obj (wi_Desk_init _ (List.mem_of_getElem? (i := 0) rfl)) (wi_Desk_init _ (List.mem_of_getElem? (i := 1) rfl)) (wi_Desk_init _ (List.mem_of_getElem? (i := 2) rfl)) (Nat.le_of_ble_eq_true rfl) d_Desk_init_1 ?_
  refine rv_aload_n d_Desk_init_4 rfl 0 rfl ?_
  refine rv_new (ci := 0) (fs := [.long 0, .long 0, .long 0, .long 0]) (kc1 := 212) (ks1 := 2508) ka_Name rfl (wi_Desk_init _ (List.mem_of_getElem? (i := 3) rfl)) (wi_Desk_init _ (List.mem_of_getElem? (i := 4) rfl)) (wi_Desk_init _ (List.mem_of_getElem? (i := 5) rfl)) (fun j hj => by rcases (show j = 0 ∨ j = 1 ∨ j = 2 ∨ j = 3 by omega) with rfl | rfl | rfl | rfl <;> rfl) ⟨by omega, by omega⟩ d_Desk_init_5 (fun n hp52 hfr52 ehp52 => ?_)
  have hf52_0 : hp52 x = some (.inr (5, [.null, .null, .null, .null])) := by rw [ehp52, hp_un (hp_nn h hfr52)]; exact h
  have hf52_q : hp52 n = some (.inr (0, [.long 0, .long 0, .long 0, .long 0])) := by rw [ehp52]; exact hp_us
  refine rv_dup d_Desk_init_8 rfl ?_
  refine rv_callIN (kc' := 0) (ks' := 0) (kc1 := 212) (ks1 := 2508) (As := []) (rest := [.ref n, .ref x]) (c_Name_init) ok_Name_init (host := "PoolDesk") (List.mem_of_getElem? (i := 0) rfl) (wi_Desk_init _ (List.mem_of_getElem? (i := 6) rfl)) rfl rfl rfl rfl (Nat.le_of_ble_eq_true rfl) (Nat.le_of_ble_eq_true rfl) ⟨Nat.le_of_ble_eq_true rfl, Nat.le_of_ble_eq_true rfl⟩ d_Desk_init_9 (rv_kv (fun hp53 ehp53 => ?_))
  have ehs53 := ehp53.symm
  subst ehs53
  refine rv_putF (fs' := [.ref n, .null, .null, .null]) ka_Desk hf52_0 rfl 0 (by decide) (wi_Desk_init _ (List.mem_of_getElem? (i := 7) rfl)) rfl rfl rfl rfl rfl (Nat.le_of_ble_eq_true rfl) rfl d_Desk_init_12
    (fun hp54 ehp54 => ?_)
  have hf54_0 : hp54 x = some (.inr (5, [.ref n, .null, .null, .null])) := by rw [ehp54]; exact hp_us
  have hf54_1 : hp54 n = some (.inr (0, [.long 0, .long 0, .long 0, .long 0])) := by rw [ehp54, hp_un (hp_ne hf52_q hf52_0 (fun q => by first | cases q | simp at q))]; exact hf52_q
  refine rv_aload_n d_Desk_init_15 rfl 0 rfl ?_
  refine rv_new (ci := 1) (fs := [.null, .null, .int 0]) (kc1 := 211) (ks1 := 2505) ka_Keys rfl (wi_Desk_init _ (List.mem_of_getElem? (i := 8) rfl)) (wi_Desk_init _ (List.mem_of_getElem? (i := 9) rfl)) (wi_Desk_init _ (List.mem_of_getElem? (i := 10) rfl)) (fun j hj => by rcases (show j = 0 ∨ j = 1 ∨ j = 2 by omega) with rfl | rfl | rfl <;> rfl) ⟨by omega, by omega⟩ d_Desk_init_16 (fun k hp55 hfr55 ehp55 => ?_)
  have hf55_0 : hp55 x = some (.inr (5, [.ref n, .null, .null, .null])) := by rw [ehp55, hp_un (hp_nn hf54_0 hfr55)]; exact hf54_0
  have hf55_1 : hp55 n = some (.inr (0, [.long 0, .long 0, .long 0, .long 0])) := by rw [ehp55, hp_un (hp_nn hf54_1 hfr55)]; exact hf54_1
  have hf55_q : hp55 k = some (.inr (1, [.null, .null, .int 0])) := by rw [ehp55]; exact hp_us
  refine rv_dup d_Desk_init_19 rfl ?_
  refine rv_callIN (kc' := 2) (ks' := 40) (kc1 := 209) (ks1 := 2465) (As := []) (rest := [.ref k, .ref x]) (c_Keys_init hf55_q) ok_Keys_init (host := "PoolDesk") (List.mem_of_getElem? (i := 1) rfl) (wi_Desk_init _ (List.mem_of_getElem? (i := 11) rfl)) rfl rfl rfl rfl (Nat.le_of_ble_eq_true rfl) (Nat.le_of_ble_eq_true rfl) ⟨Nat.le_of_ble_eq_true rfl, Nat.le_of_ble_eq_true rfl⟩ d_Desk_init_20 (rv_kv (fun hp56 ehp56 => ?_))
  obtain ⟨w, i, gw, gi, gwi, ekp⟩ := ehp56
  have n1 : k ≠ w := hp_nn hf55_q gw
  have n2 : k ≠ i := hp_nn hf55_q gi
  have kek : hp_ke k hp55 hp56 := by rw [ekp]; exact kx_put_ke gw gi
  have kx : kx_At ca hp56 k w i kv_0 := by rw [ekp]; exact ⟨hp_us, by unfold kx_put; rw [hp_un n1.symm, hp_un gwi, hp_us], by unfold kx_put; rw [hp_un n2.symm, hp_us], Nat.zero_le _⟩
  have hg56_0 : hp56 x = some (.inr (5, [.ref n, .null, .null, .null])) := by rw [kek x (by rw [hf55_0]; intro z; cases z) (hp_ne hf55_0 hf55_q (fun q => by first | cases q | simp at q))]; exact hf55_0
  have hg56_1 : hp56 n = some (.inr (0, [.long 0, .long 0, .long 0, .long 0])) := by rw [kek n (by rw [hf55_1]; intro z; cases z) (hp_ne hf55_1 hf55_q (fun q => by first | cases q | simp at q))]; exact hf55_1
  refine rv_putF (fs' := [.ref n, .ref k, .null, .null]) ka_Desk hg56_0 rfl 1 (by decide) (wi_Desk_init _ (List.mem_of_getElem? (i := 12) rfl)) rfl rfl rfl rfl rfl (Nat.le_of_ble_eq_true rfl) rfl d_Desk_init_23
    (fun hp57 ehp57 => ?_)
  have hf57_0 : hp57 x = some (.inr (5, [.ref n, .ref k, .null, .null])) := by rw [ehp57]; exact hp_us
  have hf57_1 : hp57 n = some (.inr (0, [.long 0, .long 0, .long 0, .long 0])) := by rw [ehp57, hp_un (hp_ne hg56_1 hg56_0 (fun q => by first | cases q | simp at q))]; exact hg56_1
  have hf57_2 : hp57 k = some (.inr (1, [.ref w, .ref i, .int (nI 0)])) := by rw [ehp57, hp_un (hp_ne kx.1 hg56_0 (fun q => by first | cases q | simp at q))]; exact kx.1
  have hf57_3 : hp57 w = some (.inl (ca 1, 32, .inr (.inl (fun _ => 0)))) := by rw [ehp57, hp_un (hp_ne kx.2.1 hg56_0 (fun q => by first | cases q | simp at q))]; exact kx.2.1
  have hf57_4 : hp57 i = some (.inl (ca 0, 8, .inl (fun _ => 0))) := by rw [ehp57, hp_un (hp_ne kx.2.2.1 hg56_0 (fun q => by first | cases q | simp at q))]; exact kx.2.2.1
  refine rv_aload_n d_Desk_init_26 rfl 0 rfl ?_
  refine rv_new (ci := 3) (fs := [.null, .long 0, .int 0]) (kc1 := 208) (ks1 := 2462) ka_Pool rfl (wi_Desk_init _ (List.mem_of_getElem? (i := 13) rfl)) (wi_Desk_init _ (List.mem_of_getElem? (i := 14) rfl)) (wi_Desk_init _ (List.mem_of_getElem? (i := 15) rfl)) (fun j hj => by rcases (show j = 0 ∨ j = 1 ∨ j = 2 by omega) with rfl | rfl | rfl <;> rfl) ⟨by omega, by omega⟩ d_Desk_init_27 (fun po hp58 hfr58 ehp58 => ?_)
  have hf58_0 : hp58 x = some (.inr (5, [.ref n, .ref k, .null, .null])) := by rw [ehp58, hp_un (hp_nn hf57_0 hfr58)]; exact hf57_0
  have hf58_1 : hp58 n = some (.inr (0, [.long 0, .long 0, .long 0, .long 0])) := by rw [ehp58, hp_un (hp_nn hf57_1 hfr58)]; exact hf57_1
  have hf58_2 : hp58 k = some (.inr (1, [.ref w, .ref i, .int (nI 0)])) := by rw [ehp58, hp_un (hp_nn hf57_2 hfr58)]; exact hf57_2
  have hf58_3 : hp58 w = some (.inl (ca 1, 32, .inr (.inl (fun _ => 0)))) := by rw [ehp58, hp_un (hp_nn hf57_3 hfr58)]; exact hf57_3
  have hf58_4 : hp58 i = some (.inl (ca 0, 8, .inl (fun _ => 0))) := by rw [ehp58, hp_un (hp_nn hf57_4 hfr58)]; exact hf57_4
  have hf58_q : hp58 po = some (.inr (3, [.null, .long 0, .int 0])) := by rw [ehp58]; exact hp_us
  refine rv_dup d_Desk_init_30 rfl ?_
  refine rv_callI (kc' := 206) (ks' := 2296) (kc1 := 2) (ks1 := 166) (As := []) (rest := [.ref po, .ref x]) (c_Pool_init hf58_q) ok_Pool_init (wi_Desk_init _ (List.mem_of_getElem? (i := 16) rfl)) (wi_Desk_init _ (List.mem_of_getElem? (i := 17) rfl)) rfl rfl rfl rfl (Nat.le_of_ble_eq_true rfl) (Nat.le_of_ble_eq_true rfl) ⟨Nat.le_of_ble_eq_true rfl, Nat.le_of_ble_eq_true rfl⟩ d_Desk_init_31 (rv_kv (fun hp59 ehp59 => ?_))
  obtain ⟨PL, hPA⟩ := ehp59
  have kep := hPA.2.2.2.2.2.2
  obtain ⟨hPo, hPk⟩ := pi_end hPA
  have hg59_0 : hp59 x = some (.inr (5, [.ref n, .ref k, .null, .null])) := by rw [kep x (by rw [hf58_0]; intro z; cases z) (hp_ne hf58_0 hf58_q (fun q => by first | cases q | simp at q))]; exact hf58_0
  have hg59_1 : hp59 n = some (.inr (0, [.long 0, .long 0, .long 0, .long 0])) := by rw [kep n (by rw [hf58_1]; intro z; cases z) (hp_ne hf58_1 hf58_q (fun q => by first | cases q | simp at q))]; exact hf58_1
  have hg59_2 : hp59 k = some (.inr (1, [.ref w, .ref i, .int (nI 0)])) := by rw [kep k (by rw [hf58_2]; intro z; cases z) (hp_ne hf58_2 hf58_q (fun q => by first | cases q | simp at q))]; exact hf58_2
  have hg59_3 : hp59 w = some (.inl (ca 1, 32, .inr (.inl (fun _ => 0)))) := by rw [kep w (by rw [hf58_3]; intro z; cases z) (hp_ne hf58_3 hf58_q (fun q => by first | cases q | simp at q))]; exact hf58_3
  have hg59_4 : hp59 i = some (.inl (ca 0, 8, .inl (fun _ => 0))) := by rw [kep i (by rw [hf58_4]; intro z; cases z) (hp_ne hf58_4 hf58_q (fun q => by first | cases q | simp at q))]; exact hf58_4
  have hu0 : ∀ {b : Nat}, po_fp po PL b → b = po ∨ hp58 b = none := fun {b} hb => by
    rcases hb with e | e | ⟨p, hp0, e⟩
    · exact Or.inl e
    · exact Or.inr (by rw [e]; exact hPA.2.2.2.2.2.1)
    · have g := hPA.2.2.2.2.1 p hp0
      rcases e with e | e | e | e | e
      · exact Or.inr (by rw [e]; exact g.1)
      · exact Or.inr (by rw [e]; exact g.2.1)
      · exact Or.inr (by rw [e]; exact g.2.2.1)
      · exact Or.inr (by rw [e]; exact g.2.2.2.1)
      · exact Or.inr (by rw [e]; exact g.2.2.2.2)
  refine rv_putF (fs' := [.ref n, .ref k, .ref po, .null]) ka_Desk hg59_0 rfl 2 (by decide) (wi_Desk_init _ (List.mem_of_getElem? (i := 18) rfl)) rfl rfl rfl rfl rfl (Nat.le_of_ble_eq_true rfl) rfl d_Desk_init_34
    (fun hp60 ehp60 => ?_)
  have hf60_0 : hp60 x = some (.inr (5, [.ref n, .ref k, .ref po, .null])) := by rw [ehp60]; exact hp_us
  have hf60_1 : hp60 n = some (.inr (0, [.long 0, .long 0, .long 0, .long 0])) := by rw [ehp60, hp_un (hp_ne hg59_1 hg59_0 (fun q => by first | cases q | simp at q))]; exact hg59_1
  have hf60_2 : hp60 k = some (.inr (1, [.ref w, .ref i, .int (nI 0)])) := by rw [ehp60, hp_un (hp_ne hg59_2 hg59_0 (fun q => by first | cases q | simp at q))]; exact hg59_2
  have hf60_3 : hp60 w = some (.inl (ca 1, 32, .inr (.inl (fun _ => 0)))) := by rw [ehp60, hp_un (hp_ne hg59_3 hg59_0 (fun q => by first | cases q | simp at q))]; exact hg59_3
  have hf60_4 : hp60 i = some (.inl (ca 0, 8, .inl (fun _ => 0))) := by rw [ehp60, hp_un (hp_ne hg59_4 hg59_0 (fun q => by first | cases q | simp at q))]; exact hg59_4
  have hf60_5 : hp60 po = some (.inr (3, [.ref PL.1, .long 0, .int 0])) := by rw [ehp60, hp_un (hp_ne hPo.1 hg59_0 (fun q => by first | cases q | simp at q))]; exact hPo.1
  refine rv_aload_n d_Desk_init_37 rfl 0 rfl ?_
  refine rv_new (ci := 4) (fs := [.null, .int 0]) (kc1 := 1) (ks1 := 164) ka_Row rfl (wi_Desk_init _ (List.mem_of_getElem? (i := 19) rfl)) (wi_Desk_init _ (List.mem_of_getElem? (i := 20) rfl)) (wi_Desk_init _ (List.mem_of_getElem? (i := 21) rfl)) (fun j hj => by rcases (show j = 0 ∨ j = 1 by omega) with rfl | rfl <;> rfl) ⟨by omega, by omega⟩ d_Desk_init_38 (fun r hp61 hfr61 ehp61 => ?_)
  have hf61_0 : hp61 x = some (.inr (5, [.ref n, .ref k, .ref po, .null])) := by rw [ehp61, hp_un (hp_nn hf60_0 hfr61)]; exact hf60_0
  have hf61_1 : hp61 n = some (.inr (0, [.long 0, .long 0, .long 0, .long 0])) := by rw [ehp61, hp_un (hp_nn hf60_1 hfr61)]; exact hf60_1
  have hf61_2 : hp61 k = some (.inr (1, [.ref w, .ref i, .int (nI 0)])) := by rw [ehp61, hp_un (hp_nn hf60_2 hfr61)]; exact hf60_2
  have hf61_3 : hp61 w = some (.inl (ca 1, 32, .inr (.inl (fun _ => 0)))) := by rw [ehp61, hp_un (hp_nn hf60_3 hfr61)]; exact hf60_3
  have hf61_4 : hp61 i = some (.inl (ca 0, 8, .inl (fun _ => 0))) := by rw [ehp61, hp_un (hp_nn hf60_4 hfr61)]; exact hf60_4
  have hf61_5 : hp61 po = some (.inr (3, [.ref PL.1, .long 0, .int 0])) := by rw [ehp61, hp_un (hp_nn hf60_5 hfr61)]; exact hf60_5
  have hf61_q : hp61 r = some (.inr (4, [.null, .int 0])) := by rw [ehp61]; exact hp_us
  refine rv_dup d_Desk_init_41 rfl ?_
  refine rv_callIN (kc' := 1) (ks' := 164) (kc1 := 0) (ks1 := 0) (As := []) (rest := [.ref r, .ref x]) (c_Row_init hf61_q) ok_Row_init (host := "PoolDesk") (List.mem_of_getElem? (i := 5) rfl) (wi_Desk_init _ (List.mem_of_getElem? (i := 22) rfl)) rfl rfl rfl rfl (Nat.le_of_ble_eq_true rfl) (Nat.le_of_ble_eq_true rfl) ⟨Nat.le_of_ble_eq_true rfl, Nat.le_of_ble_eq_true rfl⟩ d_Desk_init_42 (rv_kv (fun hp62 ehp62 => ?_))
  obtain ⟨rw, grw, erw⟩ := ehp62
  have ker : hp_ke r hp61 hp62 := by rw [erw]; exact hp_ke_own (hp_ke_new hp_ke_rf grw)
  have n3 : rw ≠ r := (hp_nn hf61_q grw).symm
  have hrr : hp62 r = some (.inr (4, [.ref rw, .int 0])) := by rw [erw]; exact hp_us
  have hrw : hp62 rw = some (.inl (ca 1, 164, .inr (.inl (fun _ => 0)))) := by rw [erw, hp_un n3, hp_us]
  have hg62_0 : hp62 x = some (.inr (5, [.ref n, .ref k, .ref po, .null])) := by rw [ker x (by rw [hf61_0]; intro z; cases z) (hp_ne hf61_0 hf61_q (fun q => by first | cases q | simp at q))]; exact hf61_0
  have hg62_1 : hp62 n = some (.inr (0, [.long 0, .long 0, .long 0, .long 0])) := by rw [ker n (by rw [hf61_1]; intro z; cases z) (hp_ne hf61_1 hf61_q (fun q => by first | cases q | simp at q))]; exact hf61_1
  have hg62_2 : hp62 k = some (.inr (1, [.ref w, .ref i, .int (nI 0)])) := by rw [ker k (by rw [hf61_2]; intro z; cases z) (hp_ne hf61_2 hf61_q (fun q => by first | cases q | simp at q))]; exact hf61_2
  have hg62_3 : hp62 w = some (.inl (ca 1, 32, .inr (.inl (fun _ => 0)))) := by rw [ker w (by rw [hf61_3]; intro z; cases z) (hp_ne hf61_3 hf61_q (fun q => by first | cases q | simp at q))]; exact hf61_3
  have hg62_4 : hp62 i = some (.inl (ca 0, 8, .inl (fun _ => 0))) := by rw [ker i (by rw [hf61_4]; intro z; cases z) (hp_ne hf61_4 hf61_q (fun q => by first | cases q | simp at q))]; exact hf61_4
  have hg62_5 : hp62 po = some (.inr (3, [.ref PL.1, .long 0, .int 0])) := by rw [ker po (by rw [hf61_5]; intro z; cases z) (hp_ne hf61_5 hf61_q (fun q => by first | cases q | simp at q))]; exact hf61_5
  refine rv_putF (fs' := [.ref n, .ref k, .ref po, .ref r]) ka_Desk hg62_0 rfl 3 (by decide) (wi_Desk_init _ (List.mem_of_getElem? (i := 23) rfl)) rfl rfl rfl rfl rfl (Nat.le_of_ble_eq_true rfl) rfl d_Desk_init_45
    (fun hp63 ehp63 => ?_)
  have hf63_0 : hp63 x = some (.inr (5, [.ref n, .ref k, .ref po, .ref r])) := by rw [ehp63]; exact hp_us
  have hf63_1 : hp63 n = some (.inr (0, [.long 0, .long 0, .long 0, .long 0])) := by rw [ehp63, hp_un (hp_ne hg62_1 hg62_0 (fun q => by first | cases q | simp at q))]; exact hg62_1
  have hf63_2 : hp63 k = some (.inr (1, [.ref w, .ref i, .int (nI 0)])) := by rw [ehp63, hp_un (hp_ne hg62_2 hg62_0 (fun q => by first | cases q | simp at q))]; exact hg62_2
  have hf63_3 : hp63 w = some (.inl (ca 1, 32, .inr (.inl (fun _ => 0)))) := by rw [ehp63, hp_un (hp_ne hg62_3 hg62_0 (fun q => by first | cases q | simp at q))]; exact hg62_3
  have hf63_4 : hp63 i = some (.inl (ca 0, 8, .inl (fun _ => 0))) := by rw [ehp63, hp_un (hp_ne hg62_4 hg62_0 (fun q => by first | cases q | simp at q))]; exact hg62_4
  have hf63_5 : hp63 po = some (.inr (3, [.ref PL.1, .long 0, .int 0])) := by rw [ehp63, hp_un (hp_ne hg62_5 hg62_0 (fun q => by first | cases q | simp at q))]; exact hg62_5
  have hf63_6 : hp63 r = some (.inr (4, [.ref rw, .int 0])) := by rw [ehp63, hp_un (hp_ne hrr hg62_0 (fun q => by first | cases q | simp at q))]; exact hrr
  have hf63_7 : hp63 rw = some (.inl (ca 1, 164, .inr (.inl (fun _ => 0)))) := by rw [ehp63, hp_un (hp_ne hrw hg62_0 (fun q => by first | cases q | simp at q))]; exact hrw
  have f0 : hp n = none := hp_ke_none (a := x) (hp_ke_rf) hfr52 (hp_nn h hfr52).symm
  have c0 : hp_ke x hp hp52 := by rw [ehp52]; exact hp_ke_new (hp_ke_rf) f0
  have c1 : hp_ke x hp hp54 := by rw [ehp54]; exact hp_ke_own (c0)
  have f2 : hp k = none := hp_ke_none (a := x) (c1) hfr55 (hp_nn hf54_0 hfr55).symm
  have c2 : hp_ke x hp hp55 := by rw [ehp55]; exact hp_ke_new (c1) f2
  have c3 : hp_ke x hp hp56 := hp_ke_tr (c2) kek (Or.inl f2)
  have c4 : hp_ke x hp hp57 := by rw [ehp57]; exact hp_ke_own (c3)
  have f5 : hp po = none := hp_ke_none (a := x) (c4) hfr58 (hp_nn hf57_0 hfr58).symm
  have c5 : hp_ke x hp hp58 := by rw [ehp58]; exact hp_ke_new (c4) f5
  have c6 : hp_ke x hp hp59 := hp_ke_tr (c5) kep (Or.inl f5)
  have c7 : hp_ke x hp hp60 := by rw [ehp60]; exact hp_ke_own (c6)
  have f8 : hp r = none := hp_ke_none (a := x) (c7) hfr61 (hp_nn hf60_0 hfr61).symm
  have c8 : hp_ke x hp hp61 := by rw [ehp61]; exact hp_ke_new (c7) f8
  have c9 : hp_ke x hp hp62 := hp_ke_tr (c8) ker (Or.inl f8)
  have c10 : hp_ke x hp hp63 := by rw [ehp63]; exact hp_ke_own (c9)
  have fw : hp w = none := hp_ke_none c2 gw (by rintro rfl; rw [hf55_0] at gw; cases gw)
  have fi : hp i = none := hp_ke_none c2 gi (by rintro rfl; rw [hf55_0] at gi; cases gi)
  have frw : hp rw = none := hp_ke_none c8 grw (by rintro rfl; rw [hf61_0] at grw; cases grw)
  have fpo : ∀ {b : Nat}, po_fp po PL b → hp b = none := fun {b} hb => by
    rcases hu0 hb with e | e
    · rw [e]; exact f5
    · exact hp_ke_none c5 e (by rintro rfl; rw [hf58_0] at e; cases e)
  have hQ0 := hPo
  have hQ1 : po_At ca hp60 po PL (0, 0, fun _ => tx_0) := by rw [ehp60]; exact po_keep1 hQ0 (po_nx hQ0 hg59_0)
  have hQ2 : po_At ca hp61 po PL (0, 0, fun _ => tx_0) := by rw [ehp61]; exact po_keep1 hQ1 (fun hb => po_some hQ1 hb hfr61)
  have hQ3 : po_At ca hp62 po PL (0, 0, fun _ => tx_0) := po_keep hQ2 (fun b hb => ker b (by have z := po_some hQ2 hb; intro q; rw [q] at z; exact z rfl) (fun e => by have z := po_some hQ2 hb; rw [e] at z; exact po_nr hQ2 hf61_q (by rw [← e]; exact hb)))
  have hQ4 : po_At ca hp63 po PL (0, 0, fun _ => tx_0) := by rw [ehp63]; exact po_keep1 hQ3 (po_nx hQ3 hg62_0)
  have dO : dk_ok (x, n, k, w, i, po, r, rw, PL) := by
    have u : ∀ {b : Nat} {y : va_E}, hp58 b = some y → ∀ {a : Nat}, po_fp po PL a → a ≠ po → b ≠ a := fun hb a ha hap e => by
      rcases hu0 ha with z | z
      · exact hap z
      · rw [← e, hb] at z; cases z
    refine ⟨hPk, fun p hp0 => u hf58_1 (po_fp_nm hp0) (hp_ne (hPo.2.2 p hp0).2.1 hPo.1 (fun q => by first | cases q | simp at q)), fun p hp0 => ⟨(fun p hp0 => u hf58_2 (po_fp_ks hp0) (hp_ne (hPo.2.2 p hp0).2.2.1 hPo.1 (fun q => by first | cases q | simp at q))) p hp0, (fun p hp0 => u hf58_3 (po_fp_wk hp0) (hp_ne (hPo.2.2 p hp0).2.2.2.1 hPo.1 (fun q => by first | cases q | simp at q))) p hp0, (fun p hp0 => u hf58_4 (po_fp_ik hp0) (hp_ne (hPo.2.2 p hp0).2.2.2.2.1 hPo.1 (fun q => by first | cases q | simp at q))) p hp0⟩, ?_, ?_⟩
    · intro p hp0 e
      have z := po_some hQ2 (po_fp_wk (po := po) (L := PL) hp0)
      rw [← e] at z
      exact z grw
    · intro e
      have e2 : rw = w := e
      rw [e2, hf61_3] at grw
      cases grw
  refine rv_vreturn ⟨rfl, (x, n, k, w, i, po, r, rw, PL), rfl, ⟨hf63_0, hf63_1, ⟨hf63_2, hf63_3, hf63_4, Nat.zero_le _⟩, hQ4, hf63_6, hf63_7, Nat.zero_le _⟩, dO, ?_, c10⟩ d_Desk_init_48 rfl
  intro b hb
  rcases hb with e | e | e | e | e | e | e | e
  · exact Or.inl e
  · exact Or.inr (by rw [show b = n from e]; exact f0)
  · exact Or.inr (by rw [show b = k from e]; exact f2)
  · exact Or.inr (by rw [show b = w from e]; exact fw)
  · exact Or.inr (by rw [show b = i from e]; exact fi)
  · exact Or.inr (by rw [show b = r from e]; exact f8)
  · exact Or.inr (by rw [show b = rw from e]; exact frw)
  · exact Or.inr (fpo e)
