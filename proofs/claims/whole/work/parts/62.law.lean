def wl_Law_law : List Cond := [.constantLong "PoolDeskLaw" 13 4294967295, .methodLink "PoolDeskLaw" 15 y_Desk_name, .instanceMethod y_Desk_name, .selects "PoolDesk" y_Desk_name y_Desk_name, .methodLink "PoolDeskLaw" 19 y_Model_name, .instanceMethod y_Model_name, .selects "PoolDeskModel" y_Model_name y_Model_name, .methodLink "PoolDeskLaw" 20 y_Desk_spend, .instanceMethod y_Desk_spend, .selects "PoolDesk" y_Desk_spend y_Desk_spend, .methodLink "PoolDeskLaw" 24 y_Model_spend, .instanceMethod y_Model_spend, .selects "PoolDeskModel" y_Model_spend y_Model_spend, .methodLink "PoolDeskLaw" 25 y_Desk_enter, .instanceMethod y_Desk_enter, .selects "PoolDesk" y_Desk_enter y_Desk_enter, .methodLink "PoolDeskLaw" 29 y_Model_enter, .instanceMethod y_Model_enter, .selects "PoolDeskModel" y_Model_enter y_Model_enter, .methodLink "PoolDeskLaw" 30 y_Desk_take, .instanceMethod y_Desk_take, .selects "PoolDesk" y_Desk_take y_Desk_take, .methodLink "PoolDeskLaw" 34 y_Model_take, .instanceMethod y_Model_take, .selects "PoolDeskModel" y_Model_take y_Model_take, .methodLink "PoolDeskLaw" 35 y_Desk_drop, .instanceMethod y_Desk_drop, .selects "PoolDesk" y_Desk_drop y_Desk_drop, .methodLink "PoolDeskLaw" 39 y_Model_drop, .instanceMethod y_Model_drop, .selects "PoolDeskModel" y_Model_drop y_Model_drop, .methodLink "PoolDeskLaw" 40 y_Desk_strike, .instanceMethod y_Desk_strike, .selects "PoolDesk" y_Desk_strike y_Desk_strike, .methodLink "PoolDeskLaw" 44 y_Model_strike, .instanceMethod y_Model_strike, .selects "PoolDeskModel" y_Model_strike y_Model_strike, .methodLink "PoolDeskLaw" 45 y_Desk_look, .instanceMethod y_Desk_look, .selects "PoolDesk" y_Desk_look y_Desk_look, .methodLink "PoolDeskLaw" 49 y_Model_look, .instanceMethod y_Model_look, .selects "PoolDeskModel" y_Model_look y_Model_look, .methodLink "PoolDeskLaw" 50 y_Desk_order, .instanceMethod y_Desk_order, .selects "PoolDesk" y_Desk_order y_Desk_order, .methodLink "PoolDeskLaw" 53 y_Model_order, .instanceMethod y_Model_order, .selects "PoolDeskModel" y_Model_order y_Model_order, .methodLink "PoolDeskLaw" 54 y_Desk_row, .instanceMethod y_Desk_row, .selects "PoolDesk" y_Desk_row y_Desk_row, .methodLink "PoolDeskLaw" 58 y_Model_row, .instanceMethod y_Model_row, .selects "PoolDeskModel" y_Model_row y_Model_row, .methodLink "PoolDeskLaw" 59 y_Desk_count, .instanceMethod y_Desk_count, .selects "PoolDesk" y_Desk_count y_Desk_count, .methodLink "PoolDeskLaw" 62 y_Model_count, .instanceMethod y_Model_count, .selects "PoolDeskModel" y_Model_count y_Model_count, .methodLink "PoolDeskLaw" 63 y_Desk_fees, .instanceMethod y_Desk_fees, .selects "PoolDesk" y_Desk_fees y_Desk_fees, .methodLink "PoolDeskLaw" 67 y_Model_fees, .instanceMethod y_Model_fees, .selects "PoolDeskModel" y_Model_fees y_Model_fees, .classLink "PoolDeskLaw" 7 "PoolDesk", .instantiable "PoolDesk" 4, .initialized "PoolDesk", .methodLink "PoolDeskLaw" 9 y_Desk_init, .instanceMethod y_Desk_init, .classLink "PoolDeskLaw" 10 "PoolDeskModel", .instantiable "PoolDeskModel" 17, .initialized "PoolDeskModel", .methodLink "PoolDeskLaw" 12 y_Model_init, .instanceMethod y_Model_init]
theorem wi_Law_law : ∀ w ∈ wl_Law_law, w ∈ ma_tbl := by decide +kernel
set_option maxHeartbeats 4000000 in
set_option maxRecDepth 100000 in
theorem c_law_l {l : Launch} {D : va_G} {ca : Nat → ClassId} {b L : Nat} {xs : Nat → Int32} (hL : L ≤ 4608) {LL : dk_L} {x : Nat} {A : Nat → Nat} (hO : dk_ok LL) (hA : pi_inj A 13) (hs : lw_sep LL x A) : ∀ (m i k : Nat) (hp : hp_T) (S : dk_S) (T : mo_S), L < i + 9 * m + 9 → k + m ≤ 600 → i ≤ 4617 → lw_I ca hp LL x A k S T → ma_V l D ca (ma_X b L xs) M_Law_law 7 0 0 hp (fun v _ => v = some (.int 1)) 18 [(3, .int (nI i)), (2, .ref x), (1, .ref (dk_x LL)), (0, .ref b)] [] := by
  intro m
  induction m with
  | zero =>
    intro i k hp S T hi hk hb hI
    refine rv_iload_n d_Law_law_18 rfl 0 rfl ?_
    refine rv_aload_n d_Law_law_19 rfl 3 rfl ?_
    refine rv_slen rfl d_Law_law_20 ?_
    refine rv_bipush (v := nI 9) d_Law_law_21 (by decide) ?_
    refine rv_isub d_Law_law_23 ?_
    refine rv_icmp_gt (tgt := 538) d_Law_law_24 (by decide) (fun c_24 => ?_) (fun c_24 => ?_)
    · refine rv_iconst (v := nI 1) d_Law_law_538 (by decide) ?_
      exact rv_ireturn rfl d_Law_law_539 rfl rfl
    · exact absurd ((lw_end hL hb).mpr (by omega)) c_24
  | succ m ih =>
    intro i k hp S T hi hk hb hI
    obtain ⟨hD, hM, hR⟩ := hI
    have ho := hM.2.2
    refine rv_iload_n d_Law_law_18 rfl 0 rfl ?_
    refine rv_aload_n d_Law_law_19 rfl 3 rfl ?_
    refine rv_slen rfl d_Law_law_20 ?_
    refine rv_bipush (v := nI 9) d_Law_law_21 (by decide) ?_
    refine rv_isub d_Law_law_23 ?_
    refine rv_icmp_gt (tgt := 538) d_Law_law_24 (by decide) (fun c_24 => ?_) (fun c_24 => ?_)
    · refine rv_iconst (v := nI 1) d_Law_law_538 (by decide) ?_
      exact rv_ireturn rfl d_Law_law_539 rfl rfl
    · have hc : i + 9 ≤ L := by rcases Nat.lt_or_ge L (i + 9) with q | q; exact absurd ((lw_end hL hb).mpr q) c_24; exact q
      refine rv_aload_n d_Law_law_27 rfl 3 rfl ?_
      refine rv_iload_n d_Law_law_28 rfl 0 rfl ?_
      refine rv_sld rfl (by omega) (by omega) d_Law_law_29 ?_
      refine rv_bipush (v := nI 15) d_Law_law_30 (by decide) ?_
      refine rv_iand d_Law_law_32 ?_
      obtain ⟨w, hw⟩ : ∃ w : Int32, (xs i) &&& (nI 15) = w := ⟨_, rfl⟩
      refine rv_eqi hw ?_
      clear hw
      rcases sw_cases w 10 (by decide) with ⟨q, hq, rfl⟩ | hx
      · rcases (show q = 0 ∨ q = 1 ∨ q = 2 ∨ q = 3 ∨ q = 4 ∨ q = 5 ∨ q = 6 ∨ q = 7 ∨ q = 8 ∨ q = 9 ∨ q = 10 by omega) with rfl | rfl | rfl | rfl | rfl | rfl | rfl | rfl | rfl | rfl | rfl
        · refine rv_tblI (off := 59) (tgt := 92) d_Law_law_33 (by decide) (by decide) (by decide) (by decide) ?_
          refine rv_aload_n d_Law_law_92 rfl 2 rfl ?_
          refine rv_aload_n d_Law_law_93 rfl 3 rfl ?_
          refine rv_iload_n d_Law_law_94 rfl 0 rfl ?_
          refine rv_iconst (v := nI 1) d_Law_law_95 (by decide) ?_
          refine rv_iadd d_Law_law_96 ?_
          refine rv_eqi (nI_add _ _) ?_
          refine rv_sld rfl (by omega) (by omega) d_Law_law_97 ?_
          refine rv_i2l d_Law_law_98 ?_
          refine rv_bipush (v := nI 32) d_Law_law_99 (by decide) ?_
          refine rv_lshl d_Law_law_101 ?_
          refine rv_aload_n d_Law_law_102 rfl 3 rfl ?_
          refine rv_iload_n d_Law_law_103 rfl 0 rfl ?_
          refine rv_iconst (v := nI 2) d_Law_law_104 (by decide) ?_
          refine rv_iadd d_Law_law_105 ?_
          refine rv_eqi (nI_add _ _) ?_
          refine rv_sld rfl (by omega) (by omega) d_Law_law_106 ?_
          refine rv_i2l d_Law_law_107 ?_
          refine rv_ldc2 (v := 4294967295) d_Law_law_108 (wi_Law_law _ (List.mem_of_getElem? (i := 0) rfl)) ?_
          refine rv_land d_Law_law_111 ?_
          refine rv_lor d_Law_law_112 ?_
          refine rv_aload_n d_Law_law_113 rfl 3 rfl ?_
          refine rv_iload_n d_Law_law_114 rfl 0 rfl ?_
          refine rv_iconst (v := nI 3) d_Law_law_115 (by decide) ?_
          refine rv_iadd d_Law_law_116 ?_
          refine rv_eqi (nI_add _ _) ?_
          refine rv_sld rfl (by omega) (by omega) d_Law_law_117 ?_
          refine rv_i2l d_Law_law_118 ?_
          refine rv_bipush (v := nI 32) d_Law_law_119 (by decide) ?_
          refine rv_lshl d_Law_law_121 ?_
          refine rv_aload_n d_Law_law_122 rfl 3 rfl ?_
          refine rv_iload_n d_Law_law_123 rfl 0 rfl ?_
          refine rv_iconst (v := nI 4) d_Law_law_124 (by decide) ?_
          refine rv_iadd d_Law_law_125 ?_
          refine rv_eqi (nI_add _ _) ?_
          refine rv_sld rfl (by omega) (by omega) d_Law_law_126 ?_
          refine rv_i2l d_Law_law_127 ?_
          refine rv_ldc2 (v := 4294967295) d_Law_law_128 (wi_Law_law _ (List.mem_of_getElem? (i := 0) rfl)) ?_
          refine rv_land d_Law_law_131 ?_
          refine rv_lor d_Law_law_132 ?_
          refine rv_aload_n d_Law_law_133 rfl 3 rfl ?_
          refine rv_iload_n d_Law_law_134 rfl 0 rfl ?_
          refine rv_iconst (v := nI 5) d_Law_law_135 (by decide) ?_
          refine rv_iadd d_Law_law_136 ?_
          refine rv_eqi (nI_add _ _) ?_
          refine rv_sld rfl (by omega) (by omega) d_Law_law_137 ?_
          refine rv_i2l d_Law_law_138 ?_
          refine rv_bipush (v := nI 32) d_Law_law_139 (by decide) ?_
          refine rv_lshl d_Law_law_141 ?_
          refine rv_aload_n d_Law_law_142 rfl 3 rfl ?_
          refine rv_iload_n d_Law_law_143 rfl 0 rfl ?_
          refine rv_bipush (v := nI 6) d_Law_law_144 (by decide) ?_
          refine rv_iadd d_Law_law_146 ?_
          refine rv_eqi (nI_add _ _) ?_
          refine rv_sld rfl (by omega) (by omega) d_Law_law_147 ?_
          refine rv_i2l d_Law_law_148 ?_
          refine rv_ldc2 (v := 4294967295) d_Law_law_149 (wi_Law_law _ (List.mem_of_getElem? (i := 0) rfl)) ?_
          refine rv_land d_Law_law_152 ?_
          refine rv_lor d_Law_law_153 ?_
          refine rv_aload_n d_Law_law_154 rfl 3 rfl ?_
          refine rv_iload_n d_Law_law_155 rfl 0 rfl ?_
          refine rv_bipush (v := nI 7) d_Law_law_156 (by decide) ?_
          refine rv_iadd d_Law_law_158 ?_
          refine rv_eqi (nI_add _ _) ?_
          refine rv_sld rfl (by omega) (by omega) d_Law_law_159 ?_
          refine rv_i2l d_Law_law_160 ?_
          refine rv_bipush (v := nI 32) d_Law_law_161 (by decide) ?_
          refine rv_lshl d_Law_law_163 ?_
          refine rv_aload_n d_Law_law_164 rfl 3 rfl ?_
          refine rv_iload_n d_Law_law_165 rfl 0 rfl ?_
          refine rv_bipush (v := nI 8) d_Law_law_166 (by decide) ?_
          refine rv_iadd d_Law_law_168 ?_
          refine rv_eqi (nI_add _ _) ?_
          refine rv_sld rfl (by omega) (by omega) d_Law_law_169 ?_
          refine rv_i2l d_Law_law_170 ?_
          refine rv_ldc2 (v := 4294967295) d_Law_law_171 (wi_Law_law _ (List.mem_of_getElem? (i := 0) rfl)) ?_
          refine rv_land d_Law_law_174 ?_
          refine rv_lor d_Law_law_175 ?_
          refine rv_callV (kc' := 0) (ks' := 0) (kc1 := 0) (ks1 := 0) (As := [.long ((((xs (i + 1)).toInt64) <<< ((nI 32).toInt64 &&& 63)) ||| (((xs (i + 2)).toInt64) &&& 4294967295)), .long ((((xs (i + 3)).toInt64) <<< ((nI 32).toInt64 &&& 63)) ||| (((xs (i + 4)).toInt64) &&& 4294967295)), .long ((((xs (i + 5)).toInt64) <<< ((nI 32).toInt64 &&& 63)) ||| (((xs (i + 6)).toInt64) &&& 4294967295)), .long ((((xs (i + 7)).toInt64) <<< ((nI 32).toInt64 &&& 63)) ||| (((xs (i + 8)).toInt64) &&& 4294967295))]) (rest := []) hD.1 rfl (c_Desk_name (m := ((((xs (i + 1)).toInt64) <<< ((nI 32).toInt64 &&& 63)) ||| (((xs (i + 2)).toInt64) &&& 4294967295), (((xs (i + 3)).toInt64) <<< ((nI 32).toInt64 &&& 63)) ||| (((xs (i + 4)).toInt64) &&& 4294967295), (((xs (i + 5)).toInt64) <<< ((nI 32).toInt64 &&& 63)) ||| (((xs (i + 6)).toInt64) &&& 4294967295), (((xs (i + 7)).toInt64) <<< ((nI 32).toInt64 &&& 63)) ||| (((xs (i + 8)).toInt64) &&& 4294967295))) hD hO) ok_Desk_name (wi_Law_law _ (List.mem_of_getElem? (i := 1) rfl)) (wi_Law_law _ (List.mem_of_getElem? (i := 2) rfl)) (wi_Law_law _ (List.mem_of_getElem? (i := 3) rfl)) rfl rfl (Nat.le_of_ble_eq_true rfl) (Nat.le_of_ble_eq_true rfl) ⟨Nat.le_of_ble_eq_true rfl, Nat.le_of_ble_eq_true rfl⟩ d_Law_law_176 (rv_kv (fun hp1 h1 => ?_))
          obtain ⟨hD1, ho1⟩ := h1
          have hM1 := lw_keepM hM hs ho1
          refine rv_aload_n d_Law_law_179 rfl 1 rfl ?_
          refine rv_aload_n d_Law_law_180 rfl 3 rfl ?_
          refine rv_iload_n d_Law_law_181 rfl 0 rfl ?_
          refine rv_iconst (v := nI 1) d_Law_law_182 (by decide) ?_
          refine rv_iadd d_Law_law_183 ?_
          refine rv_eqi (nI_add _ _) ?_
          refine rv_sld rfl (by omega) (by omega) d_Law_law_184 ?_
          refine rv_i2l d_Law_law_185 ?_
          refine rv_bipush (v := nI 32) d_Law_law_186 (by decide) ?_
          refine rv_lshl d_Law_law_188 ?_
          refine rv_aload_n d_Law_law_189 rfl 3 rfl ?_
          refine rv_iload_n d_Law_law_190 rfl 0 rfl ?_
          refine rv_iconst (v := nI 2) d_Law_law_191 (by decide) ?_
          refine rv_iadd d_Law_law_192 ?_
          refine rv_eqi (nI_add _ _) ?_
          refine rv_sld rfl (by omega) (by omega) d_Law_law_193 ?_
          refine rv_i2l d_Law_law_194 ?_
          refine rv_ldc2 (v := 4294967295) d_Law_law_195 (wi_Law_law _ (List.mem_of_getElem? (i := 0) rfl)) ?_
          refine rv_land d_Law_law_198 ?_
          refine rv_lor d_Law_law_199 ?_
          refine rv_aload_n d_Law_law_200 rfl 3 rfl ?_
          refine rv_iload_n d_Law_law_201 rfl 0 rfl ?_
          refine rv_iconst (v := nI 3) d_Law_law_202 (by decide) ?_
          refine rv_iadd d_Law_law_203 ?_
          refine rv_eqi (nI_add _ _) ?_
          refine rv_sld rfl (by omega) (by omega) d_Law_law_204 ?_
          refine rv_i2l d_Law_law_205 ?_
          refine rv_bipush (v := nI 32) d_Law_law_206 (by decide) ?_
          refine rv_lshl d_Law_law_208 ?_
          refine rv_aload_n d_Law_law_209 rfl 3 rfl ?_
          refine rv_iload_n d_Law_law_210 rfl 0 rfl ?_
          refine rv_iconst (v := nI 4) d_Law_law_211 (by decide) ?_
          refine rv_iadd d_Law_law_212 ?_
          refine rv_eqi (nI_add _ _) ?_
          refine rv_sld rfl (by omega) (by omega) d_Law_law_213 ?_
          refine rv_i2l d_Law_law_214 ?_
          refine rv_ldc2 (v := 4294967295) d_Law_law_215 (wi_Law_law _ (List.mem_of_getElem? (i := 0) rfl)) ?_
          refine rv_land d_Law_law_218 ?_
          refine rv_lor d_Law_law_219 ?_
          refine rv_aload_n d_Law_law_220 rfl 3 rfl ?_
          refine rv_iload_n d_Law_law_221 rfl 0 rfl ?_
          refine rv_iconst (v := nI 5) d_Law_law_222 (by decide) ?_
          refine rv_iadd d_Law_law_223 ?_
          refine rv_eqi (nI_add _ _) ?_
          refine rv_sld rfl (by omega) (by omega) d_Law_law_224 ?_
          refine rv_i2l d_Law_law_225 ?_
          refine rv_bipush (v := nI 32) d_Law_law_226 (by decide) ?_
          refine rv_lshl d_Law_law_228 ?_
          refine rv_aload_n d_Law_law_229 rfl 3 rfl ?_
          refine rv_iload_n d_Law_law_230 rfl 0 rfl ?_
          refine rv_bipush (v := nI 6) d_Law_law_231 (by decide) ?_
          refine rv_iadd d_Law_law_233 ?_
          refine rv_eqi (nI_add _ _) ?_
          refine rv_sld rfl (by omega) (by omega) d_Law_law_234 ?_
          refine rv_i2l d_Law_law_235 ?_
          refine rv_ldc2 (v := 4294967295) d_Law_law_236 (wi_Law_law _ (List.mem_of_getElem? (i := 0) rfl)) ?_
          refine rv_land d_Law_law_239 ?_
          refine rv_lor d_Law_law_240 ?_
          refine rv_aload_n d_Law_law_241 rfl 3 rfl ?_
          refine rv_iload_n d_Law_law_242 rfl 0 rfl ?_
          refine rv_bipush (v := nI 7) d_Law_law_243 (by decide) ?_
          refine rv_iadd d_Law_law_245 ?_
          refine rv_eqi (nI_add _ _) ?_
          refine rv_sld rfl (by omega) (by omega) d_Law_law_246 ?_
          refine rv_i2l d_Law_law_247 ?_
          refine rv_bipush (v := nI 32) d_Law_law_248 (by decide) ?_
          refine rv_lshl d_Law_law_250 ?_
          refine rv_aload_n d_Law_law_251 rfl 3 rfl ?_
          refine rv_iload_n d_Law_law_252 rfl 0 rfl ?_
          refine rv_bipush (v := nI 8) d_Law_law_253 (by decide) ?_
          refine rv_iadd d_Law_law_255 ?_
          refine rv_eqi (nI_add _ _) ?_
          refine rv_sld rfl (by omega) (by omega) d_Law_law_256 ?_
          refine rv_i2l d_Law_law_257 ?_
          refine rv_ldc2 (v := 4294967295) d_Law_law_258 (wi_Law_law _ (List.mem_of_getElem? (i := 0) rfl)) ?_
          refine rv_land d_Law_law_261 ?_
          refine rv_lor d_Law_law_262 ?_
          refine rv_callV (kc' := 0) (ks' := 0) (kc1 := 0) (ks1 := 0) (As := [.long ((((xs (i + 1)).toInt64) <<< ((nI 32).toInt64 &&& 63)) ||| (((xs (i + 2)).toInt64) &&& 4294967295)), .long ((((xs (i + 3)).toInt64) <<< ((nI 32).toInt64 &&& 63)) ||| (((xs (i + 4)).toInt64) &&& 4294967295)), .long ((((xs (i + 5)).toInt64) <<< ((nI 32).toInt64 &&& 63)) ||| (((xs (i + 6)).toInt64) &&& 4294967295)), .long ((((xs (i + 7)).toInt64) <<< ((nI 32).toInt64 &&& 63)) ||| (((xs (i + 8)).toInt64) &&& 4294967295))]) (rest := []) hM1.1 rfl (c_Model_name (m := ((((xs (i + 1)).toInt64) <<< ((nI 32).toInt64 &&& 63)) ||| (((xs (i + 2)).toInt64) &&& 4294967295), (((xs (i + 3)).toInt64) <<< ((nI 32).toInt64 &&& 63)) ||| (((xs (i + 4)).toInt64) &&& 4294967295), (((xs (i + 5)).toInt64) <<< ((nI 32).toInt64 &&& 63)) ||| (((xs (i + 6)).toInt64) &&& 4294967295), (((xs (i + 7)).toInt64) <<< ((nI 32).toInt64 &&& 63)) ||| (((xs (i + 8)).toInt64) &&& 4294967295))) hM1 hA) ok_Model_name (wi_Law_law _ (List.mem_of_getElem? (i := 4) rfl)) (wi_Law_law _ (List.mem_of_getElem? (i := 5) rfl)) (wi_Law_law _ (List.mem_of_getElem? (i := 6) rfl)) rfl rfl (Nat.le_of_ble_eq_true rfl) (Nat.le_of_ble_eq_true rfl) ⟨Nat.le_of_ble_eq_true rfl, Nat.le_of_ble_eq_true rfl⟩ d_Law_law_263 (rv_kv (fun hp2 h2 => ?_))
          obtain ⟨hM2, ho2⟩ := h2
          have hD2 := lw_keepD' hD1 hs ho2
          have hR2 := sm_up (sm_name hR ((((xs (i + 1)).toInt64) <<< ((nI 32).toInt64 &&& 63)) ||| (((xs (i + 2)).toInt64) &&& 4294967295), (((xs (i + 3)).toInt64) <<< ((nI 32).toInt64 &&& 63)) ||| (((xs (i + 4)).toInt64) &&& 4294967295), (((xs (i + 5)).toInt64) <<< ((nI 32).toInt64 &&& 63)) ||| (((xs (i + 6)).toInt64) &&& 4294967295), (((xs (i + 7)).toInt64) <<< ((nI 32).toInt64 &&& 63)) ||| (((xs (i + 8)).toInt64) &&& 4294967295)))
          have hI2 : lw_I ca hp2 LL x A (k + 1) (((((xs (i + 1)).toInt64) <<< ((nI 32).toInt64 &&& 63)) ||| (((xs (i + 2)).toInt64) &&& 4294967295), (((xs (i + 3)).toInt64) <<< ((nI 32).toInt64 &&& 63)) ||| (((xs (i + 4)).toInt64) &&& 4294967295), (((xs (i + 5)).toInt64) <<< ((nI 32).toInt64 &&& 63)) ||| (((xs (i + 6)).toInt64) &&& 4294967295), (((xs (i + 7)).toInt64) <<< ((nI 32).toInt64 &&& 63)) ||| (((xs (i + 8)).toInt64) &&& 4294967295)), S.2) (md_nameS T ((((xs (i + 1)).toInt64) <<< ((nI 32).toInt64 &&& 63)) ||| (((xs (i + 2)).toInt64) &&& 4294967295), (((xs (i + 3)).toInt64) <<< ((nI 32).toInt64 &&& 63)) ||| (((xs (i + 4)).toInt64) &&& 4294967295), (((xs (i + 5)).toInt64) <<< ((nI 32).toInt64 &&& 63)) ||| (((xs (i + 6)).toInt64) &&& 4294967295), (((xs (i + 7)).toInt64) <<< ((nI 32).toInt64 &&& 63)) ||| (((xs (i + 8)).toInt64) &&& 4294967295))) := ⟨hD2, hM2, hR2⟩
          refine rv_goto (tgt := 532) d_Law_law_266 (by decide) ?_
          refine rv_iinc (k := 0) (v := nI (i + 9)) (lv' := [(3, .int (nI (i + 9))), (2, .ref x), (1, .ref (dk_x LL)), (0, .ref b)]) d_Law_law_532 rfl (nI_add _ 9) (by decide) rfl ?_
          refine rv_goto (tgt := 18) d_Law_law_535 (by decide) ?_
          exact rv_lv [0, 1, 2, 3] rfl (ih (i + 9) (k + 1) hp2 (((((xs (i + 1)).toInt64) <<< ((nI 32).toInt64 &&& 63)) ||| (((xs (i + 2)).toInt64) &&& 4294967295), (((xs (i + 3)).toInt64) <<< ((nI 32).toInt64 &&& 63)) ||| (((xs (i + 4)).toInt64) &&& 4294967295), (((xs (i + 5)).toInt64) <<< ((nI 32).toInt64 &&& 63)) ||| (((xs (i + 6)).toInt64) &&& 4294967295), (((xs (i + 7)).toInt64) <<< ((nI 32).toInt64 &&& 63)) ||| (((xs (i + 8)).toInt64) &&& 4294967295)), S.2) (md_nameS T ((((xs (i + 1)).toInt64) <<< ((nI 32).toInt64 &&& 63)) ||| (((xs (i + 2)).toInt64) &&& 4294967295), (((xs (i + 3)).toInt64) <<< ((nI 32).toInt64 &&& 63)) ||| (((xs (i + 4)).toInt64) &&& 4294967295), (((xs (i + 5)).toInt64) <<< ((nI 32).toInt64 &&& 63)) ||| (((xs (i + 6)).toInt64) &&& 4294967295), (((xs (i + 7)).toInt64) <<< ((nI 32).toInt64 &&& 63)) ||| (((xs (i + 8)).toInt64) &&& 4294967295))) (by omega) (by omega) (by omega) hI2)
        · refine rv_tblI (off := 236) (tgt := 269) d_Law_law_33 (by decide) (by decide) (by decide) (by decide) ?_
          refine rv_aload_n d_Law_law_269 rfl 2 rfl ?_
          refine rv_aload_n d_Law_law_270 rfl 3 rfl ?_
          refine rv_iload_n d_Law_law_271 rfl 0 rfl ?_
          refine rv_iconst (v := nI 1) d_Law_law_272 (by decide) ?_
          refine rv_iadd d_Law_law_273 ?_
          refine rv_eqi (nI_add _ _) ?_
          refine rv_sld rfl (by omega) (by omega) d_Law_law_274 ?_
          refine rv_callV (kc' := 0) (ks' := 0) (kc1 := 0) (ks1 := 0) (As := [.int (xs (i + 1))]) (rest := []) hD.1 rfl (c_Desk_spend hD hO) ok_Desk_spend (wi_Law_law _ (List.mem_of_getElem? (i := 7) rfl)) (wi_Law_law _ (List.mem_of_getElem? (i := 8) rfl)) (wi_Law_law _ (List.mem_of_getElem? (i := 9) rfl)) rfl rfl (Nat.le_of_ble_eq_true rfl) (Nat.le_of_ble_eq_true rfl) ⟨Nat.le_of_ble_eq_true rfl, Nat.le_of_ble_eq_true rfl⟩ d_Law_law_275 (rv_ki (fun r1 hp1 h1 => ?_))
          obtain ⟨e1, hD1, ho1⟩ := h1
          have hM1 := lw_keepM hM hs ho1
          refine rv_aload_n d_Law_law_278 rfl 1 rfl ?_
          refine rv_aload_n d_Law_law_279 rfl 3 rfl ?_
          refine rv_iload_n d_Law_law_280 rfl 0 rfl ?_
          refine rv_iconst (v := nI 1) d_Law_law_281 (by decide) ?_
          refine rv_iadd d_Law_law_282 ?_
          refine rv_eqi (nI_add _ _) ?_
          refine rv_sld rfl (by omega) (by omega) d_Law_law_283 ?_
          refine rv_callV (kc' := 0) (ks' := 0) (kc1 := 0) (ks1 := 0) (As := [.int (xs (i + 1))]) (rest := [.int r1]) hM1.1 rfl (c_Model_spend hM1 hA) ok_Model_spend (wi_Law_law _ (List.mem_of_getElem? (i := 10) rfl)) (wi_Law_law _ (List.mem_of_getElem? (i := 11) rfl)) (wi_Law_law _ (List.mem_of_getElem? (i := 12) rfl)) rfl rfl (Nat.le_of_ble_eq_true rfl) (Nat.le_of_ble_eq_true rfl) ⟨Nat.le_of_ble_eq_true rfl, Nat.le_of_ble_eq_true rfl⟩ d_Law_law_284 (rv_ki (fun r2 hp2 h2 => ?_))
          obtain ⟨e2, hM2, ho2⟩ := h2
          have hD2 := lw_keepD' hD1 hs ho2
          obtain ⟨q, hR1⟩ := sm_spend ho hR (xs (i + 1))
          have hR2 := sm_up hR1
          have eq : r1 = r2 := by rw [e1, e2, q]
          have hI2 : lw_I ca hp2 LL x A (k + 1) (S.1, (if kv_may S.2.1 S.1 (xs (i + 1)) = true then kv_add S.2.1 S.1 (xs (i + 1)) else S.2.1), S.2.2) (md_spend T (xs (i + 1))) := ⟨hD2, hM2, hR2⟩
          refine rv_icmp_eq (tgt := 532) d_Law_law_287 (by decide) (fun c_287 => ?_) (fun c_287 => ?_)
          · refine rv_iinc (k := 0) (v := nI (i + 9)) (lv' := [(3, .int (nI (i + 9))), (2, .ref x), (1, .ref (dk_x LL)), (0, .ref b)]) d_Law_law_532 rfl (nI_add _ 9) (by decide) rfl ?_
            refine rv_goto (tgt := 18) d_Law_law_535 (by decide) ?_
            exact rv_lv [0, 1, 2, 3] rfl (ih (i + 9) (k + 1) hp2 (S.1, (if kv_may S.2.1 S.1 (xs (i + 1)) = true then kv_add S.2.1 S.1 (xs (i + 1)) else S.2.1), S.2.2) (md_spend T (xs (i + 1))) (by omega) (by omega) (by omega) hI2)
          · exact absurd eq c_287
        · refine rv_tblI (off := 259) (tgt := 292) d_Law_law_33 (by decide) (by decide) (by decide) (by decide) ?_
          refine rv_aload_n d_Law_law_292 rfl 2 rfl ?_
          refine rv_aload_n d_Law_law_293 rfl 3 rfl ?_
          refine rv_iload_n d_Law_law_294 rfl 0 rfl ?_
          refine rv_iconst (v := nI 1) d_Law_law_295 (by decide) ?_
          refine rv_iadd d_Law_law_296 ?_
          refine rv_eqi (nI_add _ _) ?_
          refine rv_sld rfl (by omega) (by omega) d_Law_law_297 ?_
          refine rv_i2l d_Law_law_298 ?_
          refine rv_bipush (v := nI 32) d_Law_law_299 (by decide) ?_
          refine rv_lshl d_Law_law_301 ?_
          refine rv_aload_n d_Law_law_302 rfl 3 rfl ?_
          refine rv_iload_n d_Law_law_303 rfl 0 rfl ?_
          refine rv_iconst (v := nI 2) d_Law_law_304 (by decide) ?_
          refine rv_iadd d_Law_law_305 ?_
          refine rv_eqi (nI_add _ _) ?_
          refine rv_sld rfl (by omega) (by omega) d_Law_law_306 ?_
          refine rv_i2l d_Law_law_307 ?_
          refine rv_ldc2 (v := 4294967295) d_Law_law_308 (wi_Law_law _ (List.mem_of_getElem? (i := 0) rfl)) ?_
          refine rv_land d_Law_law_311 ?_
          refine rv_lor d_Law_law_312 ?_
          refine rv_aload_n d_Law_law_313 rfl 3 rfl ?_
          refine rv_iload_n d_Law_law_314 rfl 0 rfl ?_
          refine rv_iconst (v := nI 3) d_Law_law_315 (by decide) ?_
          refine rv_iadd d_Law_law_316 ?_
          refine rv_eqi (nI_add _ _) ?_
          refine rv_sld rfl (by omega) (by omega) d_Law_law_317 ?_
          refine rv_aload_n d_Law_law_318 rfl 3 rfl ?_
          refine rv_iload_n d_Law_law_319 rfl 0 rfl ?_
          refine rv_iconst (v := nI 4) d_Law_law_320 (by decide) ?_
          refine rv_iadd d_Law_law_321 ?_
          refine rv_eqi (nI_add _ _) ?_
          refine rv_sld rfl (by omega) (by omega) d_Law_law_322 ?_
          refine rv_callV (kc' := 0) (ks' := 0) (kc1 := 0) (ks1 := 0) (As := [.long ((((xs (i + 1)).toInt64) <<< ((nI 32).toInt64 &&& 63)) ||| (((xs (i + 2)).toInt64) &&& 4294967295)), .int (xs (i + 3)), .int (xs (i + 4))]) (rest := []) hD.1 rfl (c_Desk_enter hD hO) ok_Desk_enter (wi_Law_law _ (List.mem_of_getElem? (i := 13) rfl)) (wi_Law_law _ (List.mem_of_getElem? (i := 14) rfl)) (wi_Law_law _ (List.mem_of_getElem? (i := 15) rfl)) rfl rfl (Nat.le_of_ble_eq_true rfl) (Nat.le_of_ble_eq_true rfl) ⟨Nat.le_of_ble_eq_true rfl, Nat.le_of_ble_eq_true rfl⟩ d_Law_law_323 (rv_ki (fun r1 hp1 h1 => ?_))
          obtain ⟨e1, hD1, ho1⟩ := h1
          have hM1 := lw_keepM hM hs ho1
          refine rv_aload_n d_Law_law_326 rfl 1 rfl ?_
          refine rv_aload_n d_Law_law_327 rfl 3 rfl ?_
          refine rv_iload_n d_Law_law_328 rfl 0 rfl ?_
          refine rv_iconst (v := nI 1) d_Law_law_329 (by decide) ?_
          refine rv_iadd d_Law_law_330 ?_
          refine rv_eqi (nI_add _ _) ?_
          refine rv_sld rfl (by omega) (by omega) d_Law_law_331 ?_
          refine rv_i2l d_Law_law_332 ?_
          refine rv_bipush (v := nI 32) d_Law_law_333 (by decide) ?_
          refine rv_lshl d_Law_law_335 ?_
          refine rv_aload_n d_Law_law_336 rfl 3 rfl ?_
          refine rv_iload_n d_Law_law_337 rfl 0 rfl ?_
          refine rv_iconst (v := nI 2) d_Law_law_338 (by decide) ?_
          refine rv_iadd d_Law_law_339 ?_
          refine rv_eqi (nI_add _ _) ?_
          refine rv_sld rfl (by omega) (by omega) d_Law_law_340 ?_
          refine rv_i2l d_Law_law_341 ?_
          refine rv_ldc2 (v := 4294967295) d_Law_law_342 (wi_Law_law _ (List.mem_of_getElem? (i := 0) rfl)) ?_
          refine rv_land d_Law_law_345 ?_
          refine rv_lor d_Law_law_346 ?_
          refine rv_aload_n d_Law_law_347 rfl 3 rfl ?_
          refine rv_iload_n d_Law_law_348 rfl 0 rfl ?_
          refine rv_iconst (v := nI 3) d_Law_law_349 (by decide) ?_
          refine rv_iadd d_Law_law_350 ?_
          refine rv_eqi (nI_add _ _) ?_
          refine rv_sld rfl (by omega) (by omega) d_Law_law_351 ?_
          refine rv_aload_n d_Law_law_352 rfl 3 rfl ?_
          refine rv_iload_n d_Law_law_353 rfl 0 rfl ?_
          refine rv_iconst (v := nI 4) d_Law_law_354 (by decide) ?_
          refine rv_iadd d_Law_law_355 ?_
          refine rv_eqi (nI_add _ _) ?_
          refine rv_sld rfl (by omega) (by omega) d_Law_law_356 ?_
          refine rv_callV (kc' := 0) (ks' := 0) (kc1 := 0) (ks1 := 0) (As := [.long ((((xs (i + 1)).toInt64) <<< ((nI 32).toInt64 &&& 63)) ||| (((xs (i + 2)).toInt64) &&& 4294967295)), .int (xs (i + 3)), .int (xs (i + 4))]) (rest := [.int r1]) hM1.1 rfl (c_Model_enter hM1 hA (sm_z hR) (fun ht g => sm_eniv ho hR ht g)) ok_Model_enter (wi_Law_law _ (List.mem_of_getElem? (i := 16) rfl)) (wi_Law_law _ (List.mem_of_getElem? (i := 17) rfl)) (wi_Law_law _ (List.mem_of_getElem? (i := 18) rfl)) rfl rfl (Nat.le_of_ble_eq_true rfl) (Nat.le_of_ble_eq_true rfl) ⟨Nat.le_of_ble_eq_true rfl, Nat.le_of_ble_eq_true rfl⟩ d_Law_law_357 (rv_ki (fun r2 hp2 h2 => ?_))
          obtain ⟨T1, e2, hM2, ho2⟩ := h2
          have hD2 := lw_keepD' hD1 hs ho2
          obtain ⟨q, hR2⟩ := sm_enter ho (by omega) hR e2
          have eq : r1 = r2 := by rw [e1, q]
          have hI2 : lw_I ca hp2 LL x A (k + 1) ((ds_enter S ((((xs (i + 1)).toInt64) <<< ((nI 32).toInt64 &&& 63)) ||| (((xs (i + 2)).toInt64) &&& 4294967295)) (xs (i + 3)) (xs (i + 4))).2) T1 := ⟨hD2, hM2, hR2⟩
          refine rv_icmp_eq (tgt := 532) d_Law_law_360 (by decide) (fun c_360 => ?_) (fun c_360 => ?_)
          · refine rv_iinc (k := 0) (v := nI (i + 9)) (lv' := [(3, .int (nI (i + 9))), (2, .ref x), (1, .ref (dk_x LL)), (0, .ref b)]) d_Law_law_532 rfl (nI_add _ 9) (by decide) rfl ?_
            refine rv_goto (tgt := 18) d_Law_law_535 (by decide) ?_
            exact rv_lv [0, 1, 2, 3] rfl (ih (i + 9) (k + 1) hp2 ((ds_enter S ((((xs (i + 1)).toInt64) <<< ((nI 32).toInt64 &&& 63)) ||| (((xs (i + 2)).toInt64) &&& 4294967295)) (xs (i + 3)) (xs (i + 4))).2) T1 (by omega) (by omega) (by omega) hI2)
          · exact absurd eq c_360
        · refine rv_tblI (off := 332) (tgt := 365) d_Law_law_33 (by decide) (by decide) (by decide) (by decide) ?_
          refine rv_aload_n d_Law_law_365 rfl 2 rfl ?_
          refine rv_callV (kc' := 0) (ks' := 0) (kc1 := 0) (ks1 := 0) (As := []) (rest := []) hD.1 rfl (c_Desk_take hD hO) ok_Desk_take (wi_Law_law _ (List.mem_of_getElem? (i := 19) rfl)) (wi_Law_law _ (List.mem_of_getElem? (i := 20) rfl)) (wi_Law_law _ (List.mem_of_getElem? (i := 21) rfl)) rfl rfl (Nat.le_of_ble_eq_true rfl) (Nat.le_of_ble_eq_true rfl) ⟨Nat.le_of_ble_eq_true rfl, Nat.le_of_ble_eq_true rfl⟩ d_Law_law_366 (rv_ki (fun r1 hp1 h1 => ?_))
          obtain ⟨e1, hD1, ho1⟩ := h1
          have hM1 := lw_keepM hM hs ho1
          refine rv_aload_n d_Law_law_369 rfl 1 rfl ?_
          refine rv_callV (kc' := 0) (ks' := 0) (kc1 := 0) (ks1 := 0) (As := []) (rest := [.int r1]) hM1.1 rfl (c_Model_take hM1 hA) ok_Model_take (wi_Law_law _ (List.mem_of_getElem? (i := 22) rfl)) (wi_Law_law _ (List.mem_of_getElem? (i := 23) rfl)) (wi_Law_law _ (List.mem_of_getElem? (i := 24) rfl)) rfl rfl (Nat.le_of_ble_eq_true rfl) (Nat.le_of_ble_eq_true rfl) ⟨Nat.le_of_ble_eq_true rfl, Nat.le_of_ble_eq_true rfl⟩ d_Law_law_370 (rv_ki (fun r2 hp2 h2 => ?_))
          obtain ⟨T1, e2, hM2, ho2⟩ := h2
          have hD2 := lw_keepD' hD1 hs ho2
          obtain ⟨q, hR1⟩ := sm_take ho hR e2
          have hR2 := sm_up hR1
          have eq : r1 = r2 := by rw [e1, q]
          have hI2 : lw_I ca hp2 LL x A (k + 1) (S.1, S.2.1, (ds_take S.2.2.1 (cl_findo S.2.2.1 S.1)).2, S.2.2.2) T1 := ⟨hD2, hM2, hR2⟩
          refine rv_icmp_eq (tgt := 532) d_Law_law_373 (by decide) (fun c_373 => ?_) (fun c_373 => ?_)
          · refine rv_iinc (k := 0) (v := nI (i + 9)) (lv' := [(3, .int (nI (i + 9))), (2, .ref x), (1, .ref (dk_x LL)), (0, .ref b)]) d_Law_law_532 rfl (nI_add _ 9) (by decide) rfl ?_
            refine rv_goto (tgt := 18) d_Law_law_535 (by decide) ?_
            exact rv_lv [0, 1, 2, 3] rfl (ih (i + 9) (k + 1) hp2 (S.1, S.2.1, (ds_take S.2.2.1 (cl_findo S.2.2.1 S.1)).2, S.2.2.2) T1 (by omega) (by omega) (by omega) hI2)
          · exact absurd eq c_373
        · refine rv_tblI (off := 345) (tgt := 378) d_Law_law_33 (by decide) (by decide) (by decide) (by decide) ?_
          refine rv_aload_n d_Law_law_378 rfl 2 rfl ?_
          refine rv_callV (kc' := 0) (ks' := 0) (kc1 := 0) (ks1 := 0) (As := []) (rest := []) hD.1 rfl (c_Desk_drop hD hO) ok_Desk_drop (wi_Law_law _ (List.mem_of_getElem? (i := 25) rfl)) (wi_Law_law _ (List.mem_of_getElem? (i := 26) rfl)) (wi_Law_law _ (List.mem_of_getElem? (i := 27) rfl)) rfl rfl (Nat.le_of_ble_eq_true rfl) (Nat.le_of_ble_eq_true rfl) ⟨Nat.le_of_ble_eq_true rfl, Nat.le_of_ble_eq_true rfl⟩ d_Law_law_379 (rv_ki (fun r1 hp1 h1 => ?_))
          obtain ⟨e1, hD1, ho1⟩ := h1
          have hM1 := lw_keepM hM hs ho1
          refine rv_aload_n d_Law_law_382 rfl 1 rfl ?_
          refine rv_callV (kc' := 0) (ks' := 0) (kc1 := 0) (ks1 := 0) (As := []) (rest := [.int r1]) hM1.1 rfl (c_Model_drop hM1 hA) ok_Model_drop (wi_Law_law _ (List.mem_of_getElem? (i := 28) rfl)) (wi_Law_law _ (List.mem_of_getElem? (i := 29) rfl)) (wi_Law_law _ (List.mem_of_getElem? (i := 30) rfl)) rfl rfl (Nat.le_of_ble_eq_true rfl) (Nat.le_of_ble_eq_true rfl) ⟨Nat.le_of_ble_eq_true rfl, Nat.le_of_ble_eq_true rfl⟩ d_Law_law_383 (rv_ki (fun r2 hp2 h2 => ?_))
          obtain ⟨T1, e2, hM2, ho2⟩ := h2
          have hD2 := lw_keepD' hD1 hs ho2
          obtain ⟨q, hR1⟩ := sm_drop ho hR e2
          have hR2 := sm_up hR1
          have eq : r1 = r2 := by rw [e1, q]
          have hI2 : lw_I ca hp2 LL x A (k + 1) (S.1, S.2.1, (ds_rmf S.2.2.1 (cl_findo S.2.2.1 S.1)).2, S.2.2.2) T1 := ⟨hD2, hM2, hR2⟩
          refine rv_icmp_eq (tgt := 532) d_Law_law_386 (by decide) (fun c_386 => ?_) (fun c_386 => ?_)
          · refine rv_iinc (k := 0) (v := nI (i + 9)) (lv' := [(3, .int (nI (i + 9))), (2, .ref x), (1, .ref (dk_x LL)), (0, .ref b)]) d_Law_law_532 rfl (nI_add _ 9) (by decide) rfl ?_
            refine rv_goto (tgt := 18) d_Law_law_535 (by decide) ?_
            exact rv_lv [0, 1, 2, 3] rfl (ih (i + 9) (k + 1) hp2 (S.1, S.2.1, (ds_rmf S.2.2.1 (cl_findo S.2.2.1 S.1)).2, S.2.2.2) T1 (by omega) (by omega) (by omega) hI2)
          · exact absurd eq c_386
        · refine rv_tblI (off := 358) (tgt := 391) d_Law_law_33 (by decide) (by decide) (by decide) (by decide) ?_
          refine rv_aload_n d_Law_law_391 rfl 2 rfl ?_
          refine rv_aload_n d_Law_law_392 rfl 3 rfl ?_
          refine rv_iload_n d_Law_law_393 rfl 0 rfl ?_
          refine rv_iconst (v := nI 1) d_Law_law_394 (by decide) ?_
          refine rv_iadd d_Law_law_395 ?_
          refine rv_eqi (nI_add _ _) ?_
          refine rv_sld rfl (by omega) (by omega) d_Law_law_396 ?_
          refine rv_callV (kc' := 0) (ks' := 0) (kc1 := 0) (ks1 := 0) (As := [.int (xs (i + 1))]) (rest := []) hD.1 rfl (c_Desk_strike hD hO) ok_Desk_strike (wi_Law_law _ (List.mem_of_getElem? (i := 31) rfl)) (wi_Law_law _ (List.mem_of_getElem? (i := 32) rfl)) (wi_Law_law _ (List.mem_of_getElem? (i := 33) rfl)) rfl rfl (Nat.le_of_ble_eq_true rfl) (Nat.le_of_ble_eq_true rfl) ⟨Nat.le_of_ble_eq_true rfl, Nat.le_of_ble_eq_true rfl⟩ d_Law_law_397 (rv_ki (fun r1 hp1 h1 => ?_))
          obtain ⟨e1, hD1, ho1⟩ := h1
          have hM1 := lw_keepM hM hs ho1
          refine rv_aload_n d_Law_law_400 rfl 1 rfl ?_
          refine rv_aload_n d_Law_law_401 rfl 3 rfl ?_
          refine rv_iload_n d_Law_law_402 rfl 0 rfl ?_
          refine rv_iconst (v := nI 1) d_Law_law_403 (by decide) ?_
          refine rv_iadd d_Law_law_404 ?_
          refine rv_eqi (nI_add _ _) ?_
          refine rv_sld rfl (by omega) (by omega) d_Law_law_405 ?_
          refine rv_callV (kc' := 0) (ks' := 0) (kc1 := 0) (ks1 := 0) (As := [.int (xs (i + 1))]) (rest := [.int r1]) hM1.1 rfl (c_Model_strike hM1 hA) ok_Model_strike (wi_Law_law _ (List.mem_of_getElem? (i := 34) rfl)) (wi_Law_law _ (List.mem_of_getElem? (i := 35) rfl)) (wi_Law_law _ (List.mem_of_getElem? (i := 36) rfl)) rfl rfl (Nat.le_of_ble_eq_true rfl) (Nat.le_of_ble_eq_true rfl) ⟨Nat.le_of_ble_eq_true rfl, Nat.le_of_ble_eq_true rfl⟩ d_Law_law_406 (rv_ki (fun r2 hp2 h2 => ?_))
          obtain ⟨T1, e2, hM2, ho2⟩ := h2
          have hD2 := lw_keepD' hD1 hs ho2
          obtain ⟨q, hR1⟩ := sm_strike ho hR e2
          have hR2 := sm_up hR1
          have eq : r1 = r2 := by rw [e1, q]
          have hI2 : lw_I ca hp2 LL x A (k + 1) (S.1, S.2.1, (ds_rmf S.2.2.1 (cl_spendero S.2.2.1 S.1 (xs (i + 1)))).2, S.2.2.2) T1 := ⟨hD2, hM2, hR2⟩
          refine rv_icmp_eq (tgt := 532) d_Law_law_409 (by decide) (fun c_409 => ?_) (fun c_409 => ?_)
          · refine rv_iinc (k := 0) (v := nI (i + 9)) (lv' := [(3, .int (nI (i + 9))), (2, .ref x), (1, .ref (dk_x LL)), (0, .ref b)]) d_Law_law_532 rfl (nI_add _ 9) (by decide) rfl ?_
            refine rv_goto (tgt := 18) d_Law_law_535 (by decide) ?_
            exact rv_lv [0, 1, 2, 3] rfl (ih (i + 9) (k + 1) hp2 (S.1, S.2.1, (ds_rmf S.2.2.1 (cl_spendero S.2.2.1 S.1 (xs (i + 1)))).2, S.2.2.2) T1 (by omega) (by omega) (by omega) hI2)
          · exact absurd eq c_409
        · refine rv_tblI (off := 381) (tgt := 414) d_Law_law_33 (by decide) (by decide) (by decide) (by decide) ?_
          refine rv_aload_n d_Law_law_414 rfl 2 rfl ?_
          refine rv_aload_n d_Law_law_415 rfl 3 rfl ?_
          refine rv_iload_n d_Law_law_416 rfl 0 rfl ?_
          refine rv_iconst (v := nI 1) d_Law_law_417 (by decide) ?_
          refine rv_iadd d_Law_law_418 ?_
          refine rv_eqi (nI_add _ _) ?_
          refine rv_sld rfl (by omega) (by omega) d_Law_law_419 ?_
          refine rv_callV (kc' := 0) (ks' := 0) (kc1 := 0) (ks1 := 0) (As := [.int (xs (i + 1))]) (rest := []) hD.1 rfl (c_Desk_look hD hO) ok_Desk_look (wi_Law_law _ (List.mem_of_getElem? (i := 37) rfl)) (wi_Law_law _ (List.mem_of_getElem? (i := 38) rfl)) (wi_Law_law _ (List.mem_of_getElem? (i := 39) rfl)) rfl rfl (Nat.le_of_ble_eq_true rfl) (Nat.le_of_ble_eq_true rfl) ⟨Nat.le_of_ble_eq_true rfl, Nat.le_of_ble_eq_true rfl⟩ d_Law_law_420 (rv_kle ?_)
          refine rv_aload_n d_Law_law_423 rfl 1 rfl ?_
          refine rv_aload_n d_Law_law_424 rfl 3 rfl ?_
          refine rv_iload_n d_Law_law_425 rfl 0 rfl ?_
          refine rv_iconst (v := nI 1) d_Law_law_426 (by decide) ?_
          refine rv_iadd d_Law_law_427 ?_
          refine rv_eqi (nI_add _ _) ?_
          refine rv_sld rfl (by omega) (by omega) d_Law_law_428 ?_
          refine rv_callV (kc' := 0) (ks' := 0) (kc1 := 0) (ks1 := 0) (As := [.int (xs (i + 1))]) (rest := [.long (ds_look S (xs (i + 1)))]) hM.1 rfl (c_Model_look hM hA) ok_Model_look (wi_Law_law _ (List.mem_of_getElem? (i := 40) rfl)) (wi_Law_law _ (List.mem_of_getElem? (i := 41) rfl)) (wi_Law_law _ (List.mem_of_getElem? (i := 42) rfl)) rfl rfl (Nat.le_of_ble_eq_true rfl) (Nat.le_of_ble_eq_true rfl) ⟨Nat.le_of_ble_eq_true rfl, Nat.le_of_ble_eq_true rfl⟩ d_Law_law_429 (rv_kl (fun r2 hp2 h2 => ?_))
          obtain ⟨e2, ⟨mk0, hM2⟩, ho2⟩ := h2
          have hD2 := lw_keepD' hD hs ho2
          have hR2 := sm_up (sm_mark hR mk0)
          have eq : ds_look S (xs (i + 1)) = r2 := by rw [e2, sm_look ho hR]
          have hI2 : lw_I ca hp2 LL x A (k + 1) S (mo_M T mk0) := ⟨hD2, hM2, hR2⟩
          refine rv_lcmp d_Law_law_432 ?_
          refine rv_if_eq (tgt := 532) d_Law_law_433 (by decide) (fun c_433 => ?_) (fun c_433 => ?_)
          · refine rv_iinc (k := 0) (v := nI (i + 9)) (lv' := [(3, .int (nI (i + 9))), (2, .ref x), (1, .ref (dk_x LL)), (0, .ref b)]) d_Law_law_532 rfl (nI_add _ 9) (by decide) rfl ?_
            refine rv_goto (tgt := 18) d_Law_law_535 (by decide) ?_
            exact rv_lv [0, 1, 2, 3] rfl (ih (i + 9) (k + 1) hp2 S (mo_M T mk0) (by omega) (by omega) (by omega) hI2)
          · exact absurd (lc_0.mpr eq) c_433
        · refine rv_tblI (off := 405) (tgt := 438) d_Law_law_33 (by decide) (by decide) (by decide) (by decide) ?_
          refine rv_aload_n d_Law_law_438 rfl 2 rfl ?_
          refine rv_aload_n d_Law_law_439 rfl 3 rfl ?_
          refine rv_iload_n d_Law_law_440 rfl 0 rfl ?_
          refine rv_iconst (v := nI 1) d_Law_law_441 (by decide) ?_
          refine rv_iadd d_Law_law_442 ?_
          refine rv_eqi (nI_add _ _) ?_
          refine rv_sld rfl (by omega) (by omega) d_Law_law_443 ?_
          refine rv_callV (kc' := 0) (ks' := 0) (kc1 := 0) (ks1 := 0) (As := [.int (xs (i + 1))]) (rest := []) hD.1 rfl (c_Desk_order hD hO) ok_Desk_order (wi_Law_law _ (List.mem_of_getElem? (i := 43) rfl)) (wi_Law_law _ (List.mem_of_getElem? (i := 44) rfl)) (wi_Law_law _ (List.mem_of_getElem? (i := 45) rfl)) rfl rfl (Nat.le_of_ble_eq_true rfl) (Nat.le_of_ble_eq_true rfl) ⟨Nat.le_of_ble_eq_true rfl, Nat.le_of_ble_eq_true rfl⟩ d_Law_law_444 (rv_ki (fun r1 hp1 h1 => ?_))
          obtain ⟨e1, hD1, ho1⟩ := h1
          have hM1 := lw_keepM hM hs ho1
          refine rv_aload_n d_Law_law_447 rfl 1 rfl ?_
          refine rv_aload_n d_Law_law_448 rfl 3 rfl ?_
          refine rv_iload_n d_Law_law_449 rfl 0 rfl ?_
          refine rv_iconst (v := nI 1) d_Law_law_450 (by decide) ?_
          refine rv_iadd d_Law_law_451 ?_
          refine rv_eqi (nI_add _ _) ?_
          refine rv_sld rfl (by omega) (by omega) d_Law_law_452 ?_
          refine rv_callV (kc' := 0) (ks' := 0) (kc1 := 0) (ks1 := 0) (As := [.int (xs (i + 1))]) (rest := [.int r1]) hM1.1 rfl (c_Model_order hM1 hA (sm_iv hR)) ok_Model_order (wi_Law_law _ (List.mem_of_getElem? (i := 46) rfl)) (wi_Law_law _ (List.mem_of_getElem? (i := 47) rfl)) (wi_Law_law _ (List.mem_of_getElem? (i := 48) rfl)) rfl rfl (Nat.le_of_ble_eq_true rfl) (Nat.le_of_ble_eq_true rfl) ⟨Nat.le_of_ble_eq_true rfl, Nat.le_of_ble_eq_true rfl⟩ d_Law_law_453 (rv_ki (fun r2 hp2 h2 => ?_))
          obtain ⟨e2, hM2, ho2⟩ := h2
          have hD2 := lw_keepD' hD1 hs ho2
          obtain ⟨q, hR1⟩ := sm_order ho (by omega) hR (xs (i + 1))
          have hR2 := sm_up hR1
          have eq : r1 = r2 := by rw [e1, e2, q]
          have hI2 : lw_I ca hp2 LL x A (k + 1) (S.1, S.2.1, S.2.2.1, ds_ord S (xs (i + 1))) (md_ord T (xs (i + 1))) := ⟨hD2, hM2, hR2⟩
          refine rv_icmp_eq (tgt := 532) d_Law_law_456 (by decide) (fun c_456 => ?_) (fun c_456 => ?_)
          · refine rv_iinc (k := 0) (v := nI (i + 9)) (lv' := [(3, .int (nI (i + 9))), (2, .ref x), (1, .ref (dk_x LL)), (0, .ref b)]) d_Law_law_532 rfl (nI_add _ 9) (by decide) rfl ?_
            refine rv_goto (tgt := 18) d_Law_law_535 (by decide) ?_
            exact rv_lv [0, 1, 2, 3] rfl (ih (i + 9) (k + 1) hp2 (S.1, S.2.1, S.2.2.1, ds_ord S (xs (i + 1))) (md_ord T (xs (i + 1))) (by omega) (by omega) (by omega) hI2)
          · exact absurd eq c_456
        · refine rv_tblI (off := 428) (tgt := 461) d_Law_law_33 (by decide) (by decide) (by decide) (by decide) ?_
          refine rv_aload_n d_Law_law_461 rfl 2 rfl ?_
          refine rv_aload_n d_Law_law_462 rfl 3 rfl ?_
          refine rv_iload_n d_Law_law_463 rfl 0 rfl ?_
          refine rv_iconst (v := nI 1) d_Law_law_464 (by decide) ?_
          refine rv_iadd d_Law_law_465 ?_
          refine rv_eqi (nI_add _ _) ?_
          refine rv_sld rfl (by omega) (by omega) d_Law_law_466 ?_
          refine rv_aload_n d_Law_law_467 rfl 3 rfl ?_
          refine rv_iload_n d_Law_law_468 rfl 0 rfl ?_
          refine rv_iconst (v := nI 2) d_Law_law_469 (by decide) ?_
          refine rv_iadd d_Law_law_470 ?_
          refine rv_eqi (nI_add _ _) ?_
          refine rv_sld rfl (by omega) (by omega) d_Law_law_471 ?_
          refine rv_callV (kc' := 0) (ks' := 0) (kc1 := 0) (ks1 := 0) (As := [.int (xs (i + 1)), .int (xs (i + 2))]) (rest := []) hD.1 rfl (c_Desk_row hD hO) ok_Desk_row (wi_Law_law _ (List.mem_of_getElem? (i := 49) rfl)) (wi_Law_law _ (List.mem_of_getElem? (i := 50) rfl)) (wi_Law_law _ (List.mem_of_getElem? (i := 51) rfl)) rfl rfl (Nat.le_of_ble_eq_true rfl) (Nat.le_of_ble_eq_true rfl) ⟨Nat.le_of_ble_eq_true rfl, Nat.le_of_ble_eq_true rfl⟩ d_Law_law_472 (rv_kle ?_)
          refine rv_aload_n d_Law_law_475 rfl 1 rfl ?_
          refine rv_aload_n d_Law_law_476 rfl 3 rfl ?_
          refine rv_iload_n d_Law_law_477 rfl 0 rfl ?_
          refine rv_iconst (v := nI 1) d_Law_law_478 (by decide) ?_
          refine rv_iadd d_Law_law_479 ?_
          refine rv_eqi (nI_add _ _) ?_
          refine rv_sld rfl (by omega) (by omega) d_Law_law_480 ?_
          refine rv_aload_n d_Law_law_481 rfl 3 rfl ?_
          refine rv_iload_n d_Law_law_482 rfl 0 rfl ?_
          refine rv_iconst (v := nI 2) d_Law_law_483 (by decide) ?_
          refine rv_iadd d_Law_law_484 ?_
          refine rv_eqi (nI_add _ _) ?_
          refine rv_sld rfl (by omega) (by omega) d_Law_law_485 ?_
          refine rv_callV (kc' := 0) (ks' := 0) (kc1 := 0) (ks1 := 0) (As := [.int (xs (i + 1)), .int (xs (i + 2))]) (rest := [.long (rw_word S.2.2.2.1 S.2.2.2.2 (xs (i + 1)) (xs (i + 2)))]) hM.1 rfl (c_Model_row hM) ok_Model_row (wi_Law_law _ (List.mem_of_getElem? (i := 52) rfl)) (wi_Law_law _ (List.mem_of_getElem? (i := 53) rfl)) (wi_Law_law _ (List.mem_of_getElem? (i := 54) rfl)) rfl rfl (Nat.le_of_ble_eq_true rfl) (Nat.le_of_ble_eq_true rfl) ⟨Nat.le_of_ble_eq_true rfl, Nat.le_of_ble_eq_true rfl⟩ d_Law_law_486 (rv_kle ?_)
          have hI2 : lw_I ca hp LL x A (k + 1) S T := ⟨hD, hM, sm_up hR⟩
          have eq := sm_row hR (xs (i + 1)) (xs (i + 2))
          refine rv_lcmp d_Law_law_489 ?_
          refine rv_if_eq (tgt := 532) d_Law_law_490 (by decide) (fun c_490 => ?_) (fun c_490 => ?_)
          · refine rv_iinc (k := 0) (v := nI (i + 9)) (lv' := [(3, .int (nI (i + 9))), (2, .ref x), (1, .ref (dk_x LL)), (0, .ref b)]) d_Law_law_532 rfl (nI_add _ 9) (by decide) rfl ?_
            refine rv_goto (tgt := 18) d_Law_law_535 (by decide) ?_
            exact rv_lv [0, 1, 2, 3] rfl (ih (i + 9) (k + 1) hp S T (by omega) (by omega) (by omega) hI2)
          · exact absurd (lc_0.mpr eq) c_490
        · refine rv_tblI (off := 462) (tgt := 495) d_Law_law_33 (by decide) (by decide) (by decide) (by decide) ?_
          refine rv_aload_n d_Law_law_495 rfl 2 rfl ?_
          refine rv_aload_n d_Law_law_496 rfl 3 rfl ?_
          refine rv_iload_n d_Law_law_497 rfl 0 rfl ?_
          refine rv_iconst (v := nI 1) d_Law_law_498 (by decide) ?_
          refine rv_iadd d_Law_law_499 ?_
          refine rv_eqi (nI_add _ _) ?_
          refine rv_sld rfl (by omega) (by omega) d_Law_law_500 ?_
          refine rv_callV (kc' := 0) (ks' := 0) (kc1 := 0) (ks1 := 0) (As := [.int (xs (i + 1))]) (rest := []) hD.1 rfl (c_Desk_count hD hO) ok_Desk_count (wi_Law_law _ (List.mem_of_getElem? (i := 55) rfl)) (wi_Law_law _ (List.mem_of_getElem? (i := 56) rfl)) (wi_Law_law _ (List.mem_of_getElem? (i := 57) rfl)) rfl rfl (Nat.le_of_ble_eq_true rfl) (Nat.le_of_ble_eq_true rfl) ⟨Nat.le_of_ble_eq_true rfl, Nat.le_of_ble_eq_true rfl⟩ d_Law_law_501 (rv_kie ?_)
          refine rv_aload_n d_Law_law_504 rfl 1 rfl ?_
          refine rv_aload_n d_Law_law_505 rfl 3 rfl ?_
          refine rv_iload_n d_Law_law_506 rfl 0 rfl ?_
          refine rv_iconst (v := nI 1) d_Law_law_507 (by decide) ?_
          refine rv_iadd d_Law_law_508 ?_
          refine rv_eqi (nI_add _ _) ?_
          refine rv_sld rfl (by omega) (by omega) d_Law_law_509 ?_
          refine rv_callV (kc' := 0) (ks' := 0) (kc1 := 0) (ks1 := 0) (As := [.int (xs (i + 1))]) (rest := [.int (ds_count S (xs (i + 1)))]) hM.1 rfl (c_Model_count hM) ok_Model_count (wi_Law_law _ (List.mem_of_getElem? (i := 58) rfl)) (wi_Law_law _ (List.mem_of_getElem? (i := 59) rfl)) (wi_Law_law _ (List.mem_of_getElem? (i := 60) rfl)) rfl rfl (Nat.le_of_ble_eq_true rfl) (Nat.le_of_ble_eq_true rfl) ⟨Nat.le_of_ble_eq_true rfl, Nat.le_of_ble_eq_true rfl⟩ d_Law_law_510 (rv_kie ?_)
          have hI2 : lw_I ca hp LL x A (k + 1) S T := ⟨hD, hM, sm_up hR⟩
          have eq := sm_count ho hR (xs (i + 1))
          refine rv_icmp_eq (tgt := 532) d_Law_law_513 (by decide) (fun c_513 => ?_) (fun c_513 => ?_)
          · refine rv_iinc (k := 0) (v := nI (i + 9)) (lv' := [(3, .int (nI (i + 9))), (2, .ref x), (1, .ref (dk_x LL)), (0, .ref b)]) d_Law_law_532 rfl (nI_add _ 9) (by decide) rfl ?_
            refine rv_goto (tgt := 18) d_Law_law_535 (by decide) ?_
            exact rv_lv [0, 1, 2, 3] rfl (ih (i + 9) (k + 1) hp S T (by omega) (by omega) (by omega) hI2)
          · exact absurd eq c_513
        · refine rv_tblI (off := 485) (tgt := 518) d_Law_law_33 (by decide) (by decide) (by decide) (by decide) ?_
          refine rv_aload_n d_Law_law_518 rfl 2 rfl ?_
          refine rv_callV (kc' := 0) (ks' := 0) (kc1 := 0) (ks1 := 0) (As := []) (rest := []) hD.1 rfl (c_Desk_fees hD hO) ok_Desk_fees (wi_Law_law _ (List.mem_of_getElem? (i := 61) rfl)) (wi_Law_law _ (List.mem_of_getElem? (i := 62) rfl)) (wi_Law_law _ (List.mem_of_getElem? (i := 63) rfl)) rfl rfl (Nat.le_of_ble_eq_true rfl) (Nat.le_of_ble_eq_true rfl) ⟨Nat.le_of_ble_eq_true rfl, Nat.le_of_ble_eq_true rfl⟩ d_Law_law_519 (rv_kle ?_)
          refine rv_aload_n d_Law_law_522 rfl 1 rfl ?_
          refine rv_callV (kc' := 0) (ks' := 0) (kc1 := 0) (ks1 := 0) (As := []) (rest := [.long (cl_fees S.2.2.1 S.2.2.1.1)]) hM.1 rfl (c_Model_fees hM) ok_Model_fees (wi_Law_law _ (List.mem_of_getElem? (i := 64) rfl)) (wi_Law_law _ (List.mem_of_getElem? (i := 65) rfl)) (wi_Law_law _ (List.mem_of_getElem? (i := 66) rfl)) rfl rfl (Nat.le_of_ble_eq_true rfl) (Nat.le_of_ble_eq_true rfl) ⟨Nat.le_of_ble_eq_true rfl, Nat.le_of_ble_eq_true rfl⟩ d_Law_law_523 (rv_kle ?_)
          have hI2 : lw_I ca hp LL x A (k + 1) S T := ⟨hD, hM, sm_up hR⟩
          have eq := sm_fees ho hR
          refine rv_lcmp d_Law_law_526 ?_
          refine rv_if_eq (tgt := 532) d_Law_law_527 (by decide) (fun c_527 => ?_) (fun c_527 => ?_)
          · refine rv_iinc (k := 0) (v := nI (i + 9)) (lv' := [(3, .int (nI (i + 9))), (2, .ref x), (1, .ref (dk_x LL)), (0, .ref b)]) d_Law_law_532 rfl (nI_add _ 9) (by decide) rfl ?_
            refine rv_goto (tgt := 18) d_Law_law_535 (by decide) ?_
            exact rv_lv [0, 1, 2, 3] rfl (ih (i + 9) (k + 1) hp S T (by omega) (by omega) (by omega) hI2)
          · exact absurd (lc_0.mpr eq) c_527
      · refine rv_tblO (tgt := 532) d_Law_law_33 hx (by decide) ?_
        have hI2 : lw_I ca hp LL x A (k + 1) S T := ⟨hD, hM, sm_up hR⟩
        refine rv_iinc (k := 0) (v := nI (i + 9)) (lv' := [(3, .int (nI (i + 9))), (2, .ref x), (1, .ref (dk_x LL)), (0, .ref b)]) d_Law_law_532 rfl (nI_add _ 9) (by decide) rfl ?_
        refine rv_goto (tgt := 18) d_Law_law_535 (by decide) ?_
        exact rv_lv [0, 1, 2, 3] rfl (ih (i + 9) (k + 1) hp S T (by omega) (by omega) (by omega) hI2)
theorem lw_fpn {ca : Nat → ClassId} {hp : hp_T} {L : dk_L} {S : dk_S} (h : dk_At ca hp L S) : ∀ c, dk_fp L c → hp c ≠ none := by
  obtain ⟨a1, a2, a3, a4, a5, a6, a7⟩ := h
  obtain ⟨f, hf1, hf2⟩ := a4.2.1
  rintro c (rfl | rfl | rfl | rfl | rfl | rfl | rfl | rfl | rfl | ⟨p, hp0, rfl | rfl | rfl | rfl | rfl⟩)
  · rw [a1]; intro z; cases z
  · rw [a2]; intro z; cases z
  · rw [a3.1]; intro z; cases z
  · rw [a3.2.1]; intro z; cases z
  · rw [a3.2.2.1]; intro z; cases z
  · rw [a5]; intro z; cases z
  · rw [a6]; intro z; cases z
  · rw [a4.1]; intro z; cases z
  · rw [hf1]; intro z; cases z
  · rw [(a4.2.2 p hp0).1]; intro z; cases z
  · rw [(a4.2.2 p hp0).2.1]; intro z; cases z
  · rw [(a4.2.2 p hp0).2.2.1]; intro z; cases z
  · rw [(a4.2.2 p hp0).2.2.2.1]; intro z; cases z
  · rw [(a4.2.2 p hp0).2.2.2.2.1]; intro z; cases z
set_option maxHeartbeats 4000000 in
set_option maxRecDepth 100000 in
theorem c_law {l : Launch} {D : va_G} {ca : Nat → ClassId} {b L : Nat} {xs : Nat → Int32} {hp0 : hp_T} (hL : L ≤ 4608) : ma_V l D ca (ma_X b L xs) M_Law_law 7 228 4841 hp0 (fun v _ => v = some (.int 1)) 0 [(0, .ref b)] [] := by
  refine rv_new (ci := 5) (fs := [.null, .null, .null, .null]) (kc1 := 227) (ks1 := 4837) ka_Desk rfl (wi_Law_law _ (List.mem_of_getElem? (i := 67) rfl)) (wi_Law_law _ (List.mem_of_getElem? (i := 68) rfl)) (wi_Law_law _ (List.mem_of_getElem? (i := 69) rfl)) (fun j hj => by rcases (show j = 0 ∨ j = 1 ∨ j = 2 ∨ j = 3 by omega) with rfl | rfl | rfl | rfl <;> rfl) ⟨by omega, by omega⟩ d_Law_law_0 (fun y hp156 hfr156 ehp156 => ?_)
  have hf156_q : hp156 y = some (.inr (5, [.null, .null, .null, .null])) := by rw [ehp156]; exact hp_us
  refine rv_dup d_Law_law_3 rfl ?_
  refine rv_callI (kc' := 213) (ks' := 2512) (kc1 := 14) (ks1 := 2325) (As := []) (rest := [.ref y]) (c_Desk_init hf156_q) ok_Desk_init (wi_Law_law _ (List.mem_of_getElem? (i := 70) rfl)) (wi_Law_law _ (List.mem_of_getElem? (i := 71) rfl)) rfl rfl rfl rfl (Nat.le_of_ble_eq_true rfl) (Nat.le_of_ble_eq_true rfl) ⟨Nat.le_of_ble_eq_true rfl, Nat.le_of_ble_eq_true rfl⟩ d_Law_law_4 (rv_kv (fun hp157 h157 => ?_))
  obtain ⟨LL, eLL, hD, hO, hfD, hkD⟩ := h157
  subst eLL
  refine rv_astore_n (lv' := [(1, .ref (dk_x LL)), (0, .ref b)]) d_Law_law_7 rfl (by decide) rfl ?_
  refine rv_new (ci := 6) (fs := [.int 0, .null, .null, .null, .null, .null, .null, .null, .null, .int 0, .null, .int 0, .null, .null, .null, .null, .int 0]) (kc1 := 13) (ks1 := 2308) ka_Model rfl (wi_Law_law _ (List.mem_of_getElem? (i := 72) rfl)) (wi_Law_law _ (List.mem_of_getElem? (i := 73) rfl)) (wi_Law_law _ (List.mem_of_getElem? (i := 74) rfl)) (fun j hj => by rcases (show j = 0 ∨ j = 1 ∨ j = 2 ∨ j = 3 ∨ j = 4 ∨ j = 5 ∨ j = 6 ∨ j = 7 ∨ j = 8 ∨ j = 9 ∨ j = 10 ∨ j = 11 ∨ j = 12 ∨ j = 13 ∨ j = 14 ∨ j = 15 ∨ j = 16 by omega) with rfl | rfl | rfl | rfl | rfl | rfl | rfl | rfl | rfl | rfl | rfl | rfl | rfl | rfl | rfl | rfl | rfl <;> rfl) ⟨by omega, by omega⟩ d_Law_law_8 (fun x hp158 hfr158 ehp158 => ?_)
  have hf158_q : hp158 x = some (.inr (6, [.int 0, .null, .null, .null, .null, .null, .null, .null, .null, .int 0, .null, .int 0, .null, .null, .null, .null, .int 0])) := by rw [ehp158]; exact hp_us
  refine rv_dup d_Law_law_11 rfl ?_
  refine rv_callI (kc' := 13) (ks' := 2308) (kc1 := 0) (ks1 := 0) (As := []) (rest := [.ref x]) (c_Model_init hf158_q) ok_Model_init (wi_Law_law _ (List.mem_of_getElem? (i := 75) rfl)) (wi_Law_law _ (List.mem_of_getElem? (i := 76) rfl)) rfl rfl rfl rfl (Nat.le_of_ble_eq_true rfl) (Nat.le_of_ble_eq_true rfl) ⟨Nat.le_of_ble_eq_true rfl, Nat.le_of_ble_eq_true rfl⟩ d_Law_law_12 (rv_kv (fun hp159 h159 => ?_))
  obtain ⟨A, hM, hA, hfA, hkM⟩ := h159
  refine rv_astore_n (lv' := [(2, .ref x), (1, .ref (dk_x LL)), (0, .ref b)]) d_Law_law_15 rfl (by decide) rfl ?_
  refine rv_iconst (v := nI 0) d_Law_law_16 (by decide) ?_
  refine rv_istore_n (lv' := [(3, .int (nI 0)), (2, .ref x), (1, .ref (dk_x LL)), (0, .ref b)]) d_Law_law_17 rfl (by decide) rfl ?_
  have fpn : ∀ c, dk_fp LL c → hp157 c ≠ none := fun c hc => lw_fpn hD c hc
  have fx : ∀ c, dk_fp LL c → c ≠ x := fun c hc z => fpn c hc (by rw [z]; exact hfr158)
  have fy : ∀ c, dk_fp LL c → hp158 c = hp157 c := fun c hc => by rw [ehp158, hp_un (fx c hc)]
  have fz : ∀ c, dk_fp LL c → hp159 c = hp158 c := fun c hc => hkM c (by rw [fy c hc]; exact fpn c hc) (fx c hc)
  have hs : lw_sep LL x A := fun c hc => ⟨fx c hc, fun j hj z => by have := hfA j hj; rw [← z, fy c hc] at this; exact fpn c hc this⟩
  have hD2 := lw_keepD hD (fun c hc => (fz c hc).trans (fy c hc))
  exact rv_lv [0, 1, 2, 3] rfl (c_law_l hL hO hA hs 512 0 0 hp159 _ _ (by omega) (by omega) (by omega) ⟨hD2, hM, sm_init⟩)
