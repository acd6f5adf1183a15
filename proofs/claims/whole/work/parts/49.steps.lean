section Steps
variable {k : Nat} {S : dk_S} {T : mo_S}
theorem sm_name (h : sm_R k S T) (m : nm_T) : sm_R k (m, S.2) (md_nameS T m) := sorry
theorem sm_spend (ho : mo_ok T) (h : sm_R k S T) (x : Int32) : kv_may S.2.1 S.1 x = md_may T x ∧ sm_R k (S.1, (if kv_may S.2.1 S.1 x = true then kv_add S.2.1 S.1 x else S.2.1), S.2.2) (md_spend T x) := sorry
theorem sm_take (ho : mo_ok T) (h : sm_R k S T) {y : Int32} {T1 : mo_S} (hr : md_tkRel T (md_findo T) y T1) : (ds_take S.2.2.1 (cl_findo S.2.2.1 S.1)).1 = y ∧ sm_R k (S.1, S.2.1, (ds_take S.2.2.1 (cl_findo S.2.2.1 S.1)).2, S.2.2.2) T1 := sorry
theorem sm_drop (ho : mo_ok T) (h : sm_R k S T) {y : Int32} {T1 : mo_S} (hr : md_rmRel T (md_findo T) y T1) : (ds_rmf S.2.2.1 (cl_findo S.2.2.1 S.1)).1 = y ∧ sm_R k (S.1, S.2.1, (ds_rmf S.2.2.1 (cl_findo S.2.2.1 S.1)).2, S.2.2.2) T1 := sorry
theorem sm_strike (ho : mo_ok T) (h : sm_R k S T) {x y : Int32} {T1 : mo_S} (hr : md_rmRel T (md_strko T x) y T1) : (ds_rmf S.2.2.1 (cl_spendero S.2.2.1 S.1 x)).1 = y ∧ sm_R k (S.1, S.2.1, (ds_rmf S.2.2.1 (cl_spendero S.2.2.1 S.1 x)).2, S.2.2.2) T1 := sorry
theorem sm_look (ho : mo_ok T) (h : sm_R k S T) (x : Int32) : ds_look S x = md_look T x := sorry
theorem sm_order (ho : mo_ok T) (h : sm_R k S T) (z : Int32) : (ds_ord S z).1 = mo_r (md_ord T z) ∧ sm_R k (S.1, S.2.1, S.2.2.1, ds_ord S z) (md_ord T z) := sorry
theorem sm_row (h : sm_R k S T) (x y : Int32) : rw_word S.2.2.2.1 S.2.2.2.2 x y = md_row T x y := sorry
theorem sm_count (ho : mo_ok T) (h : sm_R k S T) (x : Int32) : ds_count S x = md_count T x := sorry
theorem sm_fees (ho : mo_ok T) (h : sm_R k S T) : cl_fees S.2.2.1 S.2.2.1.1 = md_fees T false := sorry
theorem sm_eniv (ho : mo_ok T) (h : sm_R k S T) {f : Int64} {z o : Int32} (ht : cl_isTx f z o = true) (g : Nat → Bool) : md_iv (md_in (mo_M (md_en T f z o) g)) := sorry
theorem sm_enter (ho : mo_ok T) (hk : k < 2 ^ 30) (h : sm_R k S T) {f : Int64} {z o y : Int32} {T1 : mo_S} (hr : md_enterR T f z o y T1) : (ds_enter S f z o).1 = y ∧ sm_R (k + 1) (ds_enter S f z o).2 T1 := sorry
end Steps
