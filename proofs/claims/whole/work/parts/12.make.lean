def wl_Keys_init : List Cond := [.methodLink "PoolDesk$Keys" 3 Lib.objectInit, .instanceMethod Lib.objectInit, .code Lib.objectInit ⟨#[0xb1]⟩ 1 none, .arrayClass .long, .fieldLink "PoolDesk$Keys" 9 "PoolDesk$Keys" "words" "[J", .arrayClass .int, .fieldLink "PoolDesk$Keys" 15 "PoolDesk$Keys" "indexes" "[I"]
theorem wi_Keys_init : ∀ w ∈ wl_Keys_init, w ∈ ma_tbl := by decide +kernel
def wl_Row_init : List Cond := [.methodLink "PoolDesk$Row" 3 Lib.objectInit, .instanceMethod Lib.objectInit, .code Lib.objectInit ⟨#[0xb1]⟩ 1 none, .arrayClass .long, .fieldLink "PoolDesk$Row" 9 "PoolDesk$Row" "words" "[J"]
theorem wi_Row_init : ∀ w ∈ wl_Row_init, w ∈ ma_tbl := by decide +kernel
def wl_Tx_init : List Cond := [.methodLink "PoolDesk$Transaction" 1 Lib.objectInit, .instanceMethod Lib.objectInit, .code Lib.objectInit ⟨#[0xb1]⟩ 1 none, .classLink "PoolDesk$Transaction" 7 "PoolDesk$Name", .instantiable "PoolDesk$Name" 4, .initialized "PoolDesk$Name", .instanceMethod y_Name_init, .fieldLink "PoolDesk$Transaction" 10 "PoolDesk$Transaction" "ownName" "LPoolDesk$Name;", .classLink "PoolDesk$Transaction" 16 "PoolDesk$Keys", .instantiable "PoolDesk$Keys" 3, .initialized "PoolDesk$Keys", .instanceMethod y_Keys_init, .fieldLink "PoolDesk$Transaction" 19 "PoolDesk$Transaction" "keys" "LPoolDesk$Keys;"]
theorem wi_Tx_init : ∀ w ∈ wl_Tx_init, w ∈ ma_tbl := by decide +kernel
set_option maxHeartbeats 600000 in
set_option maxRecDepth 100000 in
theorem c_Keys_init {l : Launch} {D : va_G} {ca : Nat → ClassId} {hp : hp_T} {d : Nat} {k : Nat} (h : hp k = some (.inr (1, [.null, .null, .int 0]))) : ma_V l D ca ma_T M_Keys_init (d + 1) 2 40 hp (ma_qv (fun hp1 => ∃ w i, hp w = none ∧ hp i = none ∧ w ≠ i ∧ hp1 = kx_put ca hp k w i kv_0)) 0 (lv_args 0 [.ref k]) [] := by
  change ma_V l D ca ma_T M_Keys_init (d + 1) 2 40 hp (ma_qv (fun hp1 => ∃ w i, hp w = none ∧ hp i = none ∧ w ≠ i ∧ hp1 = kx_put ca hp k w i kv_0)) 0 [(0, .ref k)] []
  refine rv_aload_n d_Keys_init_0 rfl 0 rfl ?_
  refine rv_obj (wi_Keys_init _ (List.mem_of_getElem? (i := 0) rfl)) (wi_Keys_init _ (List.mem_of_getElem? (i := 1) rfl)) (wi_Keys_init _ (List.mem_of_getElem? (i := 2) rfl)) (Nat.le_of_ble_eq_true rfl) d_Keys_init_1 ?_
  refine rv_aload_n d_Keys_init_4 rfl 0 rfl ?_
  refine rv_bipush (v := nI 32) d_Keys_init_5 (by decide) ?_
  refine rv_newa (atype := .long) (ty := .long) (cA := ca 1) (n := 32) (a0 := (32, .inr (.inl (fun _ => 0)))) (kc1 := 1) (ks1 := 8) rfl 1 rfl (wi_Keys_init _ (List.mem_of_getElem? (i := 3) rfl)) (fun c => vp_cell_l c 32 _) (by decide) (by decide) ⟨by omega, by omega⟩ d_Keys_init_7 (fun w hp35 hfr35 ehp35 => ?_)
  have hf35_0 : hp35 k = some (.inr (1, [.null, .null, .int 0])) := by rw [ehp35, hp_un (hp_nn h hfr35)]; exact h
  have hf35_q : hp35 w = some (.inl (ca 1, 32, .inr (.inl (fun _ => 0)))) := by rw [ehp35]; exact hp_us
  refine rv_putF (fs' := [.ref w, .null, .int 0]) ka_Keys hf35_0 rfl 0 (by decide) (wi_Keys_init _ (List.mem_of_getElem? (i := 4) rfl)) rfl rfl rfl rfl rfl (Nat.le_of_ble_eq_true rfl) rfl d_Keys_init_9
    (fun hp36 ehp36 => ?_)
  have hf36_0 : hp36 k = some (.inr (1, [.ref w, .null, .int 0])) := by rw [ehp36]; exact hp_us
  have hf36_1 : hp36 w = some (.inl (ca 1, 32, .inr (.inl (fun _ => 0)))) := by rw [ehp36, hp_un (hp_ne hf35_q hf35_0 (fun q => by first | cases q | simp at q))]; exact hf35_q
  refine rv_aload_n d_Keys_init_12 rfl 0 rfl ?_
  refine rv_bipush (v := nI 8) d_Keys_init_13 (by decide) ?_
  refine rv_newa (atype := .int) (ty := .int) (cA := ca 0) (n := 8) (a0 := (8, .inl (fun _ => 0))) (kc1 := 0) (ks1 := 0) rfl 0 rfl (wi_Keys_init _ (List.mem_of_getElem? (i := 5) rfl)) (fun c => vp_cell_i c 8 _) (by decide) (by decide) ⟨by omega, by omega⟩ d_Keys_init_15 (fun i hp37 hfr37 ehp37 => ?_)
  have hf37_0 : hp37 k = some (.inr (1, [.ref w, .null, .int 0])) := by rw [ehp37, hp_un (hp_nn hf36_0 hfr37)]; exact hf36_0
  have hf37_1 : hp37 w = some (.inl (ca 1, 32, .inr (.inl (fun _ => 0)))) := by rw [ehp37, hp_un (hp_nn hf36_1 hfr37)]; exact hf36_1
  have hf37_q : hp37 i = some (.inl (ca 0, 8, .inl (fun _ => 0))) := by rw [ehp37]; exact hp_us
  refine rv_putF (fs' := [.ref w, .ref i, .int 0]) ka_Keys hf37_0 rfl 1 (by decide) (wi_Keys_init _ (List.mem_of_getElem? (i := 6) rfl)) rfl rfl rfl rfl rfl (Nat.le_of_ble_eq_true rfl) rfl d_Keys_init_17
    (fun hp38 ehp38 => ?_)
  have hf38_0 : hp38 k = some (.inr (1, [.ref w, .ref i, .int 0])) := by rw [ehp38]; exact hp_us
  have hf38_1 : hp38 w = some (.inl (ca 1, 32, .inr (.inl (fun _ => 0)))) := by rw [ehp38, hp_un (hp_ne hf37_1 hf37_0 (fun q => by first | cases q | simp at q))]; exact hf37_1
  have hf38_2 : hp38 i = some (.inl (ca 0, 8, .inl (fun _ => 0))) := by rw [ehp38, hp_un (hp_ne hf37_q hf37_0 (fun q => by first | cases q | simp at q))]; exact hf37_q
  have g1 := hfr37
  rw [ehp36, ehp35] at g1
  obtain ⟨g2, g3⟩ := hp_fu g1
  obtain ⟨g4, g5⟩ := hp_fu g3
  refine rv_vreturn ⟨rfl, w, i, hfr35, g5, g4.symm, ?_⟩ d_Keys_init_20 rfl
  rw [ehp38, ehp37, ehp36, ehp35, hp_uiu]
  rfl
set_option maxHeartbeats 600000 in
set_option maxRecDepth 100000 in
theorem c_Row_init {l : Launch} {D : va_G} {ca : Nat → ClassId} {hp : hp_T} {d : Nat} {r : Nat} (h : hp r = some (.inr (4, [.null, .int 0]))) : ma_V l D ca ma_T M_Row_init (d + 1) 1 164 hp (ma_qv (fun hp1 => ∃ w, hp w = none ∧ hp1 = hp_up (hp_up hp w (.inl (ca 1, 164, .inr (.inl (fun _ => 0))))) r (.inr (4, [.ref w, .int 0])))) 0 (lv_args 0 [.ref r]) [] := by
  change ma_V l D ca ma_T M_Row_init (d + 1) 1 164 hp (ma_qv (fun hp1 => ∃ w, hp w = none ∧ hp1 = hp_up (hp_up hp w (.inl (ca 1, 164, .inr (.inl (fun _ => 0))))) r (.inr (4, [.ref w, .int 0])))) 0 [(0, .ref r)] []
  refine rv_aload_n d_Row_init_0 rfl 0 rfl ?_
  refine rv_obj (wi_Row_init _ (List.mem_of_getElem? (i := 0) rfl)) (wi_Row_init _ (List.mem_of_getElem? (i := 1) rfl)) (wi_Row_init _ (List.mem_of_getElem? (i := 2) rfl)) (Nat.le_of_ble_eq_true rfl) d_Row_init_1 ?_
  refine rv_aload_n d_Row_init_4 rfl 0 rfl ?_
  refine rv_sipush (v := nI 164) d_Row_init_5 (by decide) ?_
  refine rv_newa (atype := .long) (ty := .long) (cA := ca 1) (n := 164) (a0 := (164, .inr (.inl (fun _ => 0)))) (kc1 := 0) (ks1 := 0) rfl 1 rfl (wi_Row_init _ (List.mem_of_getElem? (i := 3) rfl)) (fun c => vp_cell_l c 164 _) (by decide) (by decide) ⟨by omega, by omega⟩ d_Row_init_8 (fun w hp39 hfr39 ehp39 => ?_)
  have hf39_0 : hp39 r = some (.inr (4, [.null, .int 0])) := by rw [ehp39, hp_un (hp_nn h hfr39)]; exact h
  have hf39_q : hp39 w = some (.inl (ca 1, 164, .inr (.inl (fun _ => 0)))) := by rw [ehp39]; exact hp_us
  refine rv_putF (fs' := [.ref w, .int 0]) ka_Row hf39_0 rfl 0 (by decide) (wi_Row_init _ (List.mem_of_getElem? (i := 4) rfl)) rfl rfl rfl rfl rfl (Nat.le_of_ble_eq_true rfl) rfl d_Row_init_10
    (fun hp40 ehp40 => ?_)
  have hf40_0 : hp40 r = some (.inr (4, [.ref w, .int 0])) := by rw [ehp40]; exact hp_us
  have hf40_1 : hp40 w = some (.inl (ca 1, 164, .inr (.inl (fun _ => 0)))) := by rw [ehp40, hp_un (hp_ne hf39_q hf39_0 (fun q => by first | cases q | simp at q))]; exact hf39_q
  exact rv_vreturn ⟨rfl, w, hfr39, by rw [ehp40, ehp39]⟩ d_Row_init_13 rfl
set_option maxHeartbeats 600000 in
set_option maxRecDepth 100000 in
theorem c_Tx_init {l : Launch} {D : va_G} {ca : Nat → ClassId} {hp : hp_T} {d : Nat} {a : Nat} (h : hp a = some (.inr (2, [.null, .null, .long 0, .int 0, .int 0, .int 0, .long 0, .long 0]))) : ma_V l D ca ma_T M_Tx_init (d + 2) 4 47 hp (ma_qv (fun hp1 => ∃ n k w i, hp n = none ∧ hp k = none ∧ hp w = none ∧ hp i = none ∧ hp1 a = some (.inr (2, [.ref n, .ref k, .long 0, .int 0, .int 0, .int 0, .long 0, .long 0])) ∧ hp1 n = some (.inr (0, nm_F nm_0)) ∧ kx_At ca hp1 k w i kv_0 ∧ hp_ke a hp hp1)) 0 (lv_args 0 [.ref a]) [] := by
  change ma_V l D ca ma_T M_Tx_init (d + 2) 4 47 hp (ma_qv (fun hp1 => ∃ n k w i, hp n = none ∧ hp k = none ∧ hp w = none ∧ hp i = none ∧ hp1 a = some (.inr (2, [.ref n, .ref k, .long 0, .int 0, .int 0, .int 0, .long 0, .long 0])) ∧ hp1 n = some (.inr (0, nm_F nm_0)) ∧ kx_At ca hp1 k w i kv_0 ∧ hp_ke a hp hp1)) 0 [(0, .ref a)] []
  refine rv_aload_n d_Tx_init_0 rfl 0 rfl ?_
  refine rv_obj (wi_Tx_init _ (List.mem_of_getElem? (i := 0) rfl)) (wi_Tx_init _ (List.mem_of_getElem? (i := 1) rfl)) (wi_Tx_init _ (List.mem_of_getElem? (i := 2) rfl)) (Nat.le_of_ble_eq_true rfl) d_Tx_init_1 ?_
  refine rv_aload_n d_Tx_init_4 rfl 0 rfl ?_
  refine rv_new (ci := 0) (fs := [.long 0, .long 0, .long 0, .long 0]) (kc1 := 3) (ks1 := 43) ka_Name rfl (wi_Tx_init _ (List.mem_of_getElem? (i := 3) rfl)) (wi_Tx_init _ (List.mem_of_getElem? (i := 4) rfl)) (wi_Tx_init _ (List.mem_of_getElem? (i := 5) rfl)) (fun j hj => by rcases (show j = 0 ∨ j = 1 ∨ j = 2 ∨ j = 3 by omega) with rfl | rfl | rfl | rfl <;> rfl) ⟨by omega, by omega⟩ d_Tx_init_5 (fun n hp41 hfr41 ehp41 => ?_)
  have hf41_0 : hp41 a = some (.inr (2, [.null, .null, .long 0, .int 0, .int 0, .int 0, .long 0, .long 0])) := by rw [ehp41, hp_un (hp_nn h hfr41)]; exact h
  have hf41_q : hp41 n = some (.inr (0, [.long 0, .long 0, .long 0, .long 0])) := by rw [ehp41]; exact hp_us
  refine rv_dup d_Tx_init_8 rfl ?_
  refine rv_callIN (kc' := 0) (ks' := 0) (kc1 := 3) (ks1 := 43) (As := []) (rest := [.ref n, .ref a]) (c_Name_init) ok_Name_init (host := "PoolDesk") (List.mem_of_getElem? (i := 3) rfl) (wi_Tx_init _ (List.mem_of_getElem? (i := 6) rfl)) rfl rfl rfl rfl (Nat.le_of_ble_eq_true rfl) (Nat.le_of_ble_eq_true rfl) ⟨Nat.le_of_ble_eq_true rfl, Nat.le_of_ble_eq_true rfl⟩ d_Tx_init_9 (rv_kv (fun hp42 ehp42 => ?_))
  have ehs42 := ehp42.symm
  subst ehs42
  refine rv_putF (fs' := [.ref n, .null, .long 0, .int 0, .int 0, .int 0, .long 0, .long 0]) ka_Tx hf41_0 rfl 0 (by decide) (wi_Tx_init _ (List.mem_of_getElem? (i := 7) rfl)) rfl rfl rfl rfl rfl (Nat.le_of_ble_eq_true rfl) rfl d_Tx_init_12
    (fun hp43 ehp43 => ?_)
  have hf43_0 : hp43 a = some (.inr (2, [.ref n, .null, .long 0, .int 0, .int 0, .int 0, .long 0, .long 0])) := by rw [ehp43]; exact hp_us
  have hf43_1 : hp43 n = some (.inr (0, [.long 0, .long 0, .long 0, .long 0])) := by rw [ehp43, hp_un (hp_ne hf41_q hf41_0 (fun q => by first | cases q | simp at q))]; exact hf41_q
  refine rv_aload_n d_Tx_init_15 rfl 0 rfl ?_
  refine rv_new (ci := 1) (fs := [.null, .null, .int 0]) (kc1 := 2) (ks1 := 40) ka_Keys rfl (wi_Tx_init _ (List.mem_of_getElem? (i := 8) rfl)) (wi_Tx_init _ (List.mem_of_getElem? (i := 9) rfl)) (wi_Tx_init _ (List.mem_of_getElem? (i := 10) rfl)) (fun j hj => by rcases (show j = 0 ∨ j = 1 ∨ j = 2 by omega) with rfl | rfl | rfl <;> rfl) ⟨by omega, by omega⟩ d_Tx_init_16 (fun k hp44 hfr44 ehp44 => ?_)
  have hf44_0 : hp44 a = some (.inr (2, [.ref n, .null, .long 0, .int 0, .int 0, .int 0, .long 0, .long 0])) := by rw [ehp44, hp_un (hp_nn hf43_0 hfr44)]; exact hf43_0
  have hf44_1 : hp44 n = some (.inr (0, [.long 0, .long 0, .long 0, .long 0])) := by rw [ehp44, hp_un (hp_nn hf43_1 hfr44)]; exact hf43_1
  have hf44_q : hp44 k = some (.inr (1, [.null, .null, .int 0])) := by rw [ehp44]; exact hp_us
  refine rv_dup d_Tx_init_19 rfl ?_
  refine rv_callIN (kc' := 2) (ks' := 40) (kc1 := 0) (ks1 := 0) (As := []) (rest := [.ref k, .ref a]) (c_Keys_init hf44_q) ok_Keys_init (host := "PoolDesk") (List.mem_of_getElem? (i := 4) rfl) (wi_Tx_init _ (List.mem_of_getElem? (i := 11) rfl)) rfl rfl rfl rfl (Nat.le_of_ble_eq_true rfl) (Nat.le_of_ble_eq_true rfl) ⟨Nat.le_of_ble_eq_true rfl, Nat.le_of_ble_eq_true rfl⟩ d_Tx_init_20 (rv_kv (fun hp45 ehp45 => ?_))
  obtain ⟨w, i, gw, gi, gwi, ekp⟩ := ehp45
  have hg45_a : hp45 a = some (.inr (2, [.ref n, .null, .long 0, .int 0, .int 0, .int 0, .long 0, .long 0])) := by rw [ekp, kx_put_un (hp_ne hf44_0 hf44_q (fun q => by first | cases q | simp at q)) (hp_nn hf44_0 gw) (hp_nn hf44_0 gi)]; exact hf44_0
  have hg45_n : hp45 n = some (.inr (0, [.long 0, .long 0, .long 0, .long 0])) := by rw [ekp, kx_put_un (hp_ne hf44_1 hf44_q (fun q => by first | cases q | simp at q)) (hp_nn hf44_1 gw) (hp_nn hf44_1 gi)]; exact hf44_1
  have n1 : k ≠ w := hp_nn hf44_q gw
  have n2 : k ≠ i := hp_nn hf44_q gi
  have kx : kx_At ca hp45 k w i kv_0 := by rw [ekp]; exact ⟨hp_us, by unfold kx_put; rw [hp_un n1.symm, hp_un gwi, hp_us], by unfold kx_put; rw [hp_un n2.symm, hp_us], Nat.zero_le _⟩
  refine rv_putF (fs' := [.ref n, .ref k, .long 0, .int 0, .int 0, .int 0, .long 0, .long 0]) ka_Tx hg45_a rfl 1 (by decide) (wi_Tx_init _ (List.mem_of_getElem? (i := 12) rfl)) rfl rfl rfl rfl rfl (Nat.le_of_ble_eq_true rfl) rfl d_Tx_init_23
    (fun hp46 ehp46 => ?_)
  have hf46_0 : hp46 a = some (.inr (2, [.ref n, .ref k, .long 0, .int 0, .int 0, .int 0, .long 0, .long 0])) := by rw [ehp46]; exact hp_us
  have hf46_1 : hp46 n = some (.inr (0, [.long 0, .long 0, .long 0, .long 0])) := by rw [ehp46, hp_un (hp_ne hg45_n hg45_a (fun q => by first | cases q | simp at q))]; exact hg45_n
  have k1 : hp_ke a hp hp41 := by rw [ehp41]; exact hp_ke_new hp_ke_rf hfr41
  have k2 : hp_ke a hp hp43 := by rw [ehp43]; exact hp_ke_own k1
  have gk0 := hfr44
  have gka : k ≠ a := fun z => by subst z; rw [ehp43, hp_us] at gk0; cases gk0
  have gk : hp k = none := hp_ke_none k2 gk0 gka
  have k3 : hp_ke a hp hp44 := by rw [ehp44]; exact hp_ke_new k2 gk
  have k4 : hp_ke a hp hp45 := by rw [ekp]; exact hp_ke_tr k3 (kx_put_ke gw gi) (Or.inl gk)
  have k5 : hp_ke a hp hp46 := by rw [ehp46]; exact hp_ke_own k4
  have ga3 : hp44 a ≠ none := by rw [ehp44, hp_un gka.symm, ehp43, hp_us]; intro z; cases z
  have gwa : w ≠ a := fun z => ga3 (by rw [← z]; exact gw)
  have gia : i ≠ a := fun z => ga3 (by rw [← z]; exact gi)
  have fk : ∀ {b : Nat} {y : va_E}, hp45 b = some y → b ≠ a → hp46 b = some y := fun hb hba => by rw [ehp46, hp_un hba]; exact hb
  exact rv_vreturn ⟨rfl, n, k, w, i, hfr41, gk, hp_ke_none k3 gw gwa, hp_ke_none k3 gi gia, hf46_0, hf46_1, ⟨fk kx.1 gka, fk kx.2.1 gwa, fk kx.2.2.1 gia, kx.2.2.2⟩, k5⟩ d_Tx_init_26 rfl
