/-! Entering: the newcomer's seat, and the step itself. -/
section SeatA
variable {P : po_S} {q : Nat} {m : nm_T} {v : kv_T}
theorem st_n {p : Nat} (hp : p ≠ q) : (cl_st7 P q m v).2.2 p = P.2.2 p := by
  have h2 : (cl_st2 P q m v).2.2 p = P.2.2 p := va_up_n hp
  have h3 : (cl_st3 P q m v).2.2 p = (cl_st2 P q m v).2.2 p := va_up_n hp
  have h4 : (cl_st4 P q m v).2.2 p = (cl_st3 P q m v).2.2 p := va_up_n hp
  have h6 : (cl_st6 P q m v).2.2 p = (cl_st5 P q m v).2.2 p := va_up_n hp
  show (cl_st6 P q m v).2.2 p = _
  rw [h6]
  show (cl_st4 P q m v).2.2 p = _
  rw [h4, h3, h2]
theorem st_q : (cl_st7 P q m v).2.2 q = (m, kv_cp v (P.2.2 q).2.1, (P.2.2 q).2.2.1, (P.2.2 q).2.2.2.1, (P.2.2 q).2.2.2.2.1, P.2.1 + nI 1, cl_named (cl_st2 P q m v) v, cl_spenders (cl_st3 P q m v) m) := by
  have h2 : (cl_st2 P q m v).2.2 q = (m, kv_cp v (P.2.2 q).2.1, (P.2.2 q).2.2) := va_up_s
  have h3 : (cl_st3 P q m v).2.2 q = tx_pa ((cl_st2 P q m v).2.2 q) (cl_named (cl_st2 P q m v) v) := va_up_s
  have h4 : (cl_st4 P q m v).2.2 q = tx_ch ((cl_st3 P q m v).2.2 q) (cl_spenders (cl_st3 P q m v) m) := va_up_s
  have h6 : (cl_st6 P q m v).2.2 q = tx_co ((cl_st5 P q m v).2.2 q) (cl_st5 P q m v).2.1 := va_up_s
  show (cl_st6 P q m v).2.2 q = _
  rw [h6]
  show tx_co ((cl_st4 P q m v).2.2 q) (P.2.1 + nI 1) = _
  rw [h4, h3, h2]
  rfl
theorem st_named (hq : bz_t P.1 q = false) : cl_named (cl_st2 P q m v) v = cl_named P v := by
  refine bz_ext (fun p _ => ?_)
  unfold cl_named
  rw [or_fold0 (Q := fun p => bz_t (cl_st2 P q m v).1 p && kv_bears v ((cl_st2 P q m v).2.2 p).1), or_fold0 (Q := fun p => bz_t P.1 p && kv_bears v (P.2.2 p).1)]
  show (_ && (bz_t P.1 p && kv_bears v ((cl_st2 P q m v).2.2 p).1)) = _
  by_cases e : p = q
  · rw [e, hq, Bool.false_and, Bool.false_and]
  · rw [show (cl_st2 P q m v).2.2 p = P.2.2 p from va_up_n e]
theorem st_spenders (hq : bz_t P.1 q = false) : cl_spenders (cl_st3 P q m v) m = cl_spenders P m := by
  refine bz_ext (fun p _ => ?_)
  unfold cl_spenders
  rw [or_fold0 (Q := fun p => bz_t (cl_st3 P q m v).1 p && kv_bears ((cl_st3 P q m v).2.2 p).2.1 m), or_fold0 (Q := fun p => bz_t P.1 p && kv_bears (P.2.2 p).2.1 m)]
  show (_ && (bz_t P.1 p && kv_bears ((cl_st3 P q m v).2.2 p).2.1 m)) = _
  by_cases e : p = q
  · rw [e, hq, Bool.false_and, Bool.false_and]
  · rw [show (cl_st3 P q m v).2.2 p = (cl_st2 P q m v).2.2 p from va_up_n e, show (cl_st2 P q m v).2.2 p = P.2.2 p from va_up_n e]
variable {f : Int64} {s o : Int32}
theorem in1_named (hq : bz_t P.1 q = false) : cl_named (ds_in1 P q f s o) v = cl_named P v := by
  refine bz_ext (fun p _ => ?_)
  unfold cl_named
  rw [or_fold0 (Q := fun p => bz_t (ds_in1 P q f s o).1 p && kv_bears v ((ds_in1 P q f s o).2.2 p).1), or_fold0 (Q := fun p => bz_t P.1 p && kv_bears v (P.2.2 p).1)]
  show (_ && (bz_t P.1 p && kv_bears v ((ds_in1 P q f s o).2.2 p).1)) = _
  by_cases e : p = q
  · rw [e, hq, Bool.false_and, Bool.false_and]
  · rw [show (ds_in1 P q f s o).2.2 p = P.2.2 p from va_up_n e]
theorem in1_spenders (hq : bz_t P.1 q = false) : cl_spenders (ds_in1 P q f s o) m = cl_spenders P m := by
  refine bz_ext (fun p _ => ?_)
  unfold cl_spenders
  rw [or_fold0 (Q := fun p => bz_t (ds_in1 P q f s o).1 p && kv_bears ((ds_in1 P q f s o).2.2 p).2.1 m), or_fold0 (Q := fun p => bz_t P.1 p && kv_bears (P.2.2 p).2.1 m)]
  show (_ && (bz_t P.1 p && kv_bears ((ds_in1 P q f s o).2.2 p).2.1 m)) = _
  by_cases e : p = q
  · rw [e, hq, Bool.false_and, Bool.false_and]
  · rw [show (ds_in1 P q f s o).2.2 p = P.2.2 p from va_up_n e]
theorem in2_n (hq : bz_t P.1 q = false) {p : Nat} (hp : p ≠ q) (h41 : p < 41) : (ds_in2 P q m v f s o).2.2 p = tx_ln q (cl_named P v) (cl_spenders P m) p (P.2.2 p) := by
  have hq1 : bz_t (ds_in1 P q f s o).1 q = false := hq
  show (if p < 41 then tx_ln q (cl_named (cl_st2 (ds_in1 P q f s o) q m v) v) (cl_spenders (cl_st3 (ds_in1 P q f s o) q m v) m) p ((cl_st7 (ds_in1 P q f s o) q m v).2.2 p) else _) = _
  rw [if_pos h41, st_named hq1, st_spenders hq1, in1_named hq, in1_spenders hq, st_n hp, show (ds_in1 P q f s o).2.2 p = P.2.2 p from va_up_n hp]
theorem in2_q (hq : bz_t P.1 q = false) (h41 : q < 41) (n1 : bz_t (cl_named P v) q = false) (n2 : bz_t (cl_spenders P m) q = false) : (ds_in2 P q m v f s o).2.2 q = (m, kv_cp v (P.2.2 q).2.1, f, s, o, P.2.1 + nI 1, cl_named P v, cl_spenders P m) := by
  have hq1 : bz_t (ds_in1 P q f s o).1 q = false := hq
  show (if q < 41 then tx_ln q (cl_named (cl_st2 (ds_in1 P q f s o) q m v) v) (cl_spenders (cl_st3 (ds_in1 P q f s o) q m v) m) q ((cl_st7 (ds_in1 P q f s o) q m v).2.2 q) else _) = _
  rw [if_pos h41, st_q, st_named hq1, st_spenders hq1, in1_named hq, in1_spenders hq, show (ds_in1 P q f s o).2.2 q = ((P.2.2 q).1, (P.2.2 q).2.1, f, s, o, (P.2.2 q).2.2.2.2.2.1, (P.2.2 q).2.2.2.2.2.2.1, (P.2.2 q).2.2.2.2.2.2.2) from va_up_s]
  unfold tx_ln
  rw [n1, n2, if_neg Bool.false_ne_true, if_neg Bool.false_ne_true]
  rfl
end SeatA
section SeatB
variable {g : Nat → Nat} {P : po_S} {T : mo_S} {n q : Nat} {m : nm_T} {v : kv_T} {f : Int64} {s o : Int32}
theorem i2_hangs {a b : Nat} : md_hangs (md_i2 T) a b = md_hangs T a b := rfl
theorem i2_nm {a : Nat} : md_nm (md_i2 T) a = md_nm T a := rfl
theorem i2_clash {a b : Nat} : md_clash (md_i2 T) a b = md_clash T a b := rfl
theorem in_hangs (ho : mo_ok T) (hz : mo_z T ≤ 40) : (∀ a b, a < mo_z T → b < mo_z T → md_hangs (md_in T) a b = md_hangs T a b) ∧ (∀ a, a < mo_z T → md_hangs (md_in T) a (mo_z T) = md_hangs T a 41) ∧ (∀ b, b < mo_z T → md_hangs (md_in T) (mo_z T) b = md_hangs T 41 b) ∧ md_hangs (md_in T) (mo_z T) (mo_z T) = md_hangs T 41 41 := by
  have hN := md_in_ok hz ho
  have h8 : ∀ t, t < 42 → md_sp (md_in T) t ≤ 8 := fun t ht => (hN.1 t ht).2
  have va : ∀ a, a < mo_z T → vw_eq (md_in T) a (md_i2 T) a := fun a ha => vw_tr (md_in_at (by omega) (by omega)) (vw_sym (md_i2_at (by omega)))
  have vz := md_in_new ho hz
  exact ⟨fun a b ha hb => (vw_hangs (va a ha) (va b hb) (h8 a (by omega))).trans i2_hangs, fun a ha => (vw_hangs (va a ha) vz (h8 a (by omega))).trans i2_hangs, fun b hb => (vw_hangs vz (va b hb) (h8 _ (by omega))).trans i2_hangs, (vw_hangs vz vz (h8 _ (by omega))).trans i2_hangs⟩
theorem sm_inP (ho : mo_ok T) (hz : mo_z T ≤ 40) (hP : sm_P g P T) (hq : q < 41) (hqb : bz_t P.1 q = false) (hm : m = md_nm T 41) (hv : sm_k v T 41) (hf : f = mo_l T 4 41) (hs : s = mo_i T 5 41) (hoo : o = mo_i T 6 41) (hc : P.2.1 = mo_c T) (hh : md_hangs T 41 41 = false) : sm_P (va_up g (mo_z T) q) (ds_in2 P q m v f s o) (md_in T) := by
  have h8 : ∀ t, t < mo_z T → md_sp T t ≤ 8 := fun t ht => (ho.1 t (by omega)).2
  have h41 := (ho.1 41 (by decide)).2
  obtain ⟨H1, H2, H3, H4⟩ := in_hangs ho hz
  have bs := sm_spenders h8 hP hm
  have bn := sm_namedb hP hv h41
  have hne : ∀ t, t < mo_z T → g t ≠ q := fun t ht e => by
    have := (hP.1 t ht).2
    rw [e, hqb] at this
    cases this
  have n1 : bz_t (cl_named P v) q = false := bt_f (fun z => by
    obtain ⟨u, u1, u2, -⟩ := (bn q).mp z
    exact hne u u1 u2)
  have n2 : bz_t (cl_spenders P m) q = false := bt_f (fun z => by
    obtain ⟨u, u1, u2, -⟩ := (bs q).mp z
    exact hne u u1 u2)
  have eq := in2_q (f := f) (s := s) (o := o) hqb hq n1 n2
  have en : ∀ t, t < mo_z T → (ds_in2 P q m v f s o).2.2 (g t) = tx_ln q (cl_named P v) (cl_spenders P m) (g t) (P.2.2 (g t)) := fun t ht => in2_n hqb (hne t ht) (hP.1 t ht).1
  have gz : va_up g (mo_z T) q (mo_z T) = q := va_up_s
  have gt : ∀ t, t < mo_z T → va_up g (mo_z T) q t = g t := fun t ht => va_up_n (by omega)
  have ez : mo_z (md_in T) = mo_z T + 1 := rfl
  have pb : ∀ p, bz_t (ds_in2 P q m v f s o).1 p = (bz_t P.1 p || decide (q = p)) := fun p => by
    show bz_t (P.1 ||| bz_b q) p = _
    rw [bz_or, bz_bit (by omega)]
  have vt : ∀ t, t < mo_z T → vw_eq (md_in T) t T t := fun t ht => md_in_at (by omega) (by omega)
  have vz := md_in_new ho hz
  have lt1 : ∀ t, t < mo_z (md_in T) → t < mo_z T ∨ t = mo_z T := fun t ht => by
    rw [ez] at ht
    omega
  refine ⟨fun t ht => ?_, fun t u ht hu e => ?_, fun p hp => ?_, fun t ht => ?_, fun t ht p => ?_⟩
  · rcases lt1 t ht with h | h
    · rw [gt t h, pb, (hP.1 t h).2]
      exact ⟨(hP.1 t h).1, rfl⟩
    · rw [h, gz, pb, decide_eq_true rfl, Bool.or_true]
      exact ⟨hq, rfl⟩
  · rcases lt1 t ht with h | h <;> rcases lt1 u hu with h' | h'
    · rw [gt t h, gt u h'] at e
      exact hP.2.1 t u h h' e
    · rw [gt t h, h', gz] at e
      exact absurd e (hne t h)
    · rw [gt u h', h, gz] at e
      exact absurd e.symm (hne u h')
    · omega
  · rw [pb] at hp
    rcases Bool.or_eq_true _ _ |>.mp hp with h | h
    · obtain ⟨t, t1, t2⟩ := hP.2.2.1 p h
      exact ⟨t, by rw [ez]; omega, by rw [gt t t1]; exact t2⟩
    · exact ⟨mo_z T, by rw [ez]; omega, by rw [gz]; exact of_decide_eq_true h⟩
  · rcases lt1 t ht with h | h
    · rw [gt t h, en t h]
      exact vw_tx (vw_sym (vt t h)) (hP.2.2.2.1 t h)
    · rw [h, gz, eq]
      refine vw_tx (vw_sym vz) ⟨hm, hv.1, fun j hj => ?_, fun j hj => ?_, hf, hs, hoo, ?_⟩
      · show va_cpy v.2.1 _ 0 0 32 j = _
        unfold va_cpy
        rw [if_pos (by omega), Nat.zero_add, Nat.sub_zero]
        exact hv.2.1 j hj
      · show va_cpy v.2.2 _ 0 0 8 j = _
        unfold va_cpy
        rw [if_pos (by omega), Nat.zero_add, Nat.sub_zero]
        exact hv.2.2 j hj
      · rw [md_i2_c, hc]
  · rcases lt1 t ht with h | h
    · rw [gt t h, en t h]
      have e1 : bz_t (tx_ln q (cl_named P v) (cl_spenders P m) (g t) (P.2.2 (g t))).2.2.2.2.2.2.1 p = true ↔ bz_t (P.2.2 (g t)).2.2.2.2.2.2.1 p = true ∨ (md_hangs T t 41 = true ∧ q = p) := by
        show bz_t (if bz_t (cl_spenders P m) (g t) = true then (P.2.2 (g t)).2.2.2.2.2.2.1 ||| bz_b q else (P.2.2 (g t)).2.2.2.2.2.2.1) p = true ↔ _
        by_cases c : bz_t (cl_spenders P m) (g t) = true
        · obtain ⟨u, u1, u2, u3⟩ := (bs (g t)).mp c
          rw [hP.2.1 u t u1 h u2] at u3
          rw [if_pos c, bz_or, bz_bit (by omega), Bool.or_eq_true, decide_eq_true_iff]
          exact ⟨fun z => z.imp id (fun y => ⟨u3, y⟩), fun z => z.imp id (fun y => y.2)⟩
        · rw [if_neg c]
          exact ⟨Or.inl, fun z => z.elim id (fun y => absurd ((bs (g t)).mpr ⟨t, h, rfl, y.1⟩) c)⟩
      have e2 : bz_t (tx_ln q (cl_named P v) (cl_spenders P m) (g t) (P.2.2 (g t))).2.2.2.2.2.2.2 p = true ↔ bz_t (P.2.2 (g t)).2.2.2.2.2.2.2 p = true ∨ (md_hangs T 41 t = true ∧ q = p) := by
        show bz_t (if bz_t (cl_named P v) (g t) = true then (P.2.2 (g t)).2.2.2.2.2.2.2 ||| bz_b q else (P.2.2 (g t)).2.2.2.2.2.2.2) p = true ↔ _
        by_cases c : bz_t (cl_named P v) (g t) = true
        · obtain ⟨u, u1, u2, u3⟩ := (bn (g t)).mp c
          rw [hP.2.1 u t u1 h u2] at u3
          rw [if_pos c, bz_or, bz_bit (by omega), Bool.or_eq_true, decide_eq_true_iff]
          exact ⟨fun z => z.imp id (fun y => ⟨u3, y⟩), fun z => z.imp id (fun y => y.2)⟩
        · rw [if_neg c]
          exact ⟨Or.inl, fun z => z.elim id (fun y => absurd ((bn (g t)).mpr ⟨t, h, rfl, y.1⟩) c)⟩
      constructor
      · rw [e1, (hP.2.2.2.2 t h p).1]
        constructor
        · rintro (⟨u, u1, u2, u3⟩ | ⟨u1, u2⟩)
          · exact ⟨u, by rw [ez]; omega, by rw [gt u u1]; exact u2, by rw [H1 t u h u1]; exact u3⟩
          · exact ⟨mo_z T, by rw [ez]; omega, by rw [gz]; exact u2, by rw [H2 t h]; exact u1⟩
        · rintro ⟨u, u1, u2, u3⟩
          rcases lt1 u u1 with h' | h'
          · rw [gt u h'] at u2
            rw [H1 t u h h'] at u3
            exact Or.inl ⟨u, h', u2, u3⟩
          · rw [h', gz] at u2
            rw [h', H2 t h] at u3
            exact Or.inr ⟨u3, u2⟩
      · rw [e2, (hP.2.2.2.2 t h p).2]
        constructor
        · rintro (⟨u, u1, u2, u3⟩ | ⟨u1, u2⟩)
          · exact ⟨u, by rw [ez]; omega, by rw [gt u u1]; exact u2, by rw [H1 u t u1 h]; exact u3⟩
          · exact ⟨mo_z T, by rw [ez]; omega, by rw [gz]; exact u2, by rw [H3 t h]; exact u1⟩
        · rintro ⟨u, u1, u2, u3⟩
          rcases lt1 u u1 with h' | h'
          · rw [gt u h'] at u2
            rw [H1 u t h' h] at u3
            exact Or.inl ⟨u, h', u2, u3⟩
          · rw [h', gz] at u2
            rw [h', H3 t h] at u3
            exact Or.inr ⟨u3, u2⟩
    · rw [h, gz, eq]
      constructor
      · show bz_t (cl_named P v) p = true ↔ _
        rw [bn p]
        constructor
        · rintro ⟨u, u1, u2, u3⟩
          exact ⟨u, by rw [ez]; omega, by rw [gt u u1]; exact u2, by rw [H3 u u1]; exact u3⟩
        · rintro ⟨u, u1, u2, u3⟩
          rcases lt1 u u1 with h' | h'
          · rw [gt u h'] at u2
            rw [H3 u h'] at u3
            exact ⟨u, h', u2, u3⟩
          · rw [h', H4, hh] at u3
            cases u3
      · show bz_t (cl_spenders P m) p = true ↔ _
        rw [bs p]
        constructor
        · rintro ⟨u, u1, u2, u3⟩
          exact ⟨u, by rw [ez]; omega, by rw [gt u u1]; exact u2, by rw [H2 u u1]; exact u3⟩
        · rintro ⟨u, u1, u2, u3⟩
          rcases lt1 u u1 with h' | h'
          · rw [gt u h'] at u2
            rw [H2 u h'] at u3
            exact ⟨u, h', u2, u3⟩
          · rw [h', H4, hh] at u3
            cases u3
/-- what a transaction may be -/
def md_i41 (T : mo_S) : Prop := mo_l T 4 41 = lN (md_fe T 41) ∧ md_fe T 41 ≤ 2100000000000000 ∧ mo_i T 5 41 = nI (md_si T 41) ∧ 1 ≤ md_si T 41 ∧ md_si T 41 ≤ 2000
theorem sm_inI (ho : mo_ok T) (hz : mo_z T ≤ 40) (hv : md_iv T) (h41 : md_i41 T) : md_iv (md_in T) := by
  intro t ht
  have ht : t < mo_z T + 1 := ht
  by_cases e : t = mo_z T
  · have vz := md_in_new ho hz
    rw [e, vw_fe vz, vw_si vz, vz.2.2.2.2.1, vz.2.2.2.2.2.1]
    exact h41
  · have vt : vw_eq (md_in T) t T t := md_in_at (by omega) e
    rw [vw_fe vt, vw_si vt, vt.2.2.2.2.1, vt.2.2.2.2.2.1]
    exact hv t (by omega)
theorem sm_inV (ho : mo_ok T) (hz : mo_z T ≤ 40) (hV : sm_V n T) (hn : mo_c T = nI n) (h1 : ∀ t, t < mo_z T → md_nm T t ≠ md_nm T 41) (h2 : ∀ t, t < mo_z T → md_clash T 41 t = false) (hh : md_hangs T 41 41 = false) (h41 : md_i41 T) : sm_V (n + 1) (md_in T) := by
  have hN := md_in_ok hz ho
  obtain ⟨V1, V2, V3, ⟨c, V4⟩, V5⟩ := hV
  obtain ⟨H1, H2, H3, H4⟩ := in_hangs ho hz
  have h8 : ∀ t, t < 42 → md_sp (md_in T) t ≤ 8 := fun t ht => (hN.1 t ht).2
  have vt : ∀ t, t < mo_z T → vw_eq (md_in T) t T t := fun t ht => md_in_at (by omega) (by omega)
  have va : ∀ a, a < mo_z T → vw_eq (md_in T) a (md_i2 T) a := fun a ha => vw_tr (vt a ha) (vw_sym (md_i2_at (by omega)))
  have vz := md_in_new ho hz
  have nz : md_nm (md_in T) (mo_z T) = md_nm T 41 := (vw_nm vz).trans i2_nm
  have lt1 : ∀ t, t < mo_z (md_in T) → t < mo_z T ∨ t = mo_z T := fun t ht => by
    have : t < mo_z T + 1 := ht
    omega
  refine ⟨fun t u ht hu e => ?_, fun t u ht hu e => ?_, fun t ht => ?_, ⟨va_up c (mo_z T) (n + 1), fun t ht => ?_⟩, sm_inI ho hz V5 h41⟩
  · rcases lt1 t ht with h | h <;> rcases lt1 u hu with h' | h'
    · rw [vw_nm (vt t h), vw_nm (vt u h')] at e
      exact V1 t u h h' e
    · rw [h', nz, vw_nm (vt t h)] at e
      exact absurd e (h1 t h)
    · rw [h, nz, vw_nm (vt u h')] at e
      exact absurd e.symm (h1 u h')
    · omega
  · rcases lt1 t ht with h | h <;> rcases lt1 u hu with h' | h'
    · rw [vw_clash (vt t h) (vt u h') (h8 t (by omega)) (h8 u (by omega))]
      exact V2 t u h h' e
    · rw [h', vw_clash (va t h) vz (h8 t (by omega)) (h8 _ (by omega)), i2_clash, md_clash_comm]
      exact h2 t h
    · rw [h, vw_clash vz (va u h') (h8 _ (by omega)) (h8 u (by omega)), i2_clash]
      exact h2 u h'
    · exact absurd (h.trans h'.symm) e
  · rcases lt1 t ht with h | h
    · rw [H1 t t h h]
      exact V3 t h
    · rw [h, H4]
      exact hh
  · rcases lt1 t ht with h | h
    · obtain ⟨c1, c2, c3⟩ := V4 t h
      rw [va_up_n (show t ≠ mo_z T by omega)]
      refine ⟨(vt t h).2.2.2.2.2.2.2.trans c1, by omega, fun u hu => ?_⟩
      rw [va_up_n (show u ≠ mo_z T by omega)]
      exact c3 u hu
    · rw [h, va_up_s]
      refine ⟨?_, Nat.le_refl _, fun u hu => ?_⟩
      · rw [vz.2.2.2.2.2.2.2, md_i2_c, hn, nI_add]
      · rw [va_up_n (show u ≠ mo_z T by omega)]
        have := (V4 u hu).2.1
        omega
theorem tx_range (h : cl_isTx f s o = true) : (f = lN f.toBitVec.toNat ∧ f.toBitVec.toNat ≤ 2100000000000000) ∧ s = nI s.toNatClampNeg ∧ 1 ≤ s.toNatClampNeg ∧ s.toNatClampNeg ≤ 2000 := by
  unfold cl_isTx at h
  obtain ⟨h1, h⟩ := Bool.and_eq_true _ _ |>.mp h
  obtain ⟨h2, h⟩ := Bool.and_eq_true _ _ |>.mp h
  obtain ⟨h3, h⟩ := Bool.and_eq_true _ _ |>.mp h
  obtain ⟨h4, -⟩ := Bool.and_eq_true _ _ |>.mp h
  have h1 := Int64.le_iff_toInt_le.mp (of_decide_eq_true h1)
  have h2 := Int64.le_iff_toInt_le.mp (of_decide_eq_true h2)
  have h3 := Int32.le_iff_toInt_le.mp (of_decide_eq_true h3)
  have h4 := Int32.le_iff_toInt_le.mp (of_decide_eq_true h4)
  have e0 : (0 : Int64).toInt = 0 := rfl
  have e1 : (2100000000000000 : Int64).toInt = 2100000000000000 := by decide
  rw [e0] at h1
  rw [e1] at h2
  rw [nI_toInt (by decide)] at h3 h4
  refine ⟨⟨(lN_self f).symm, ?_⟩, ?_⟩
  · have : f = lN f.toInt.toNat := by
      apply Int64.toInt_inj.mp
      rw [show (lN f.toInt.toNat).toInt = ((f.toInt.toNat : Nat) : Int) from Int64.toInt_ofNat_of_lt (by omega)]
      omega
    rw [this, wb_tn (by omega)]
    omega
  · obtain ⟨k, k1, k2, k3⟩ := nI_ofI (x := s) (by omega)
    rw [k2, nI_clamp k1]
    exact ⟨rfl, by omega, by omega⟩
theorem md_en_41 (h : cl_isTx f s o = true) : md_i41 (md_en T f s o) := by
  obtain ⟨⟨a1, a2⟩, a3, a4, a5⟩ := tx_range h
  have e1 : md_fe (md_en T f s o) 41 = f.toBitVec.toNat := by
    unfold md_fe
    rw [md_en_f]
  have e2 : md_si (md_en T f s o) 41 = s.toNatClampNeg := by
    unfold md_si
    rw [md_en_z]
  unfold md_i41
  rw [md_en_f, md_en_z, e1, e2]
  exact ⟨a1, a2, a3, a4, a5⟩
end SeatB
section Steps
variable {k : Nat} {S : dk_S} {T : mo_S} {f : Int64} {z o : Int32}
theorem md_en_iv (hv : md_iv T) (hz : mo_z T ≤ 40) : md_iv (md_en T f z o) := fun t ht => by
  have ht : t < mo_z T := ht
  have vt : vw_eq (md_en T f z o) t T t := md_en_at (by omega)
  rw [vw_fe vt, vw_si vt, vt.2.2.2.2.1, vt.2.2.2.2.2.1]
  exact hv t ht
theorem md_ivM {g : Nat → Bool} (h : md_iv T) : md_iv (mo_M T g) := h
theorem md_41M {g : Nat → Bool} (h : md_i41 T) : md_i41 (mo_M T g) := h
theorem md_zM {g : Nat → Bool} : mo_z (mo_M T g) = mo_z T := rfl
theorem md_zE : mo_z (md_en T f z o) = mo_z T := rfl
theorem sm_eniv (ho : mo_ok T) (h : sm_R k S T) (ht : cl_isTx f z o = true) (g : Nat → Bool) : md_iv (md_in (mo_M (md_en T f z o) g)) := by
  have h1 : mo_ok (md_en T f z o) := md_en_ok ho
  have h2 : md_iv (md_en T f z o) := md_en_iv (sm_iv h) (sm_z h)
  have h3 : md_i41 (md_en T f z o) := md_en_41 ht
  have h4 : mo_z (md_en T f z o) ≤ 40 := by rw [md_zE]; exact sm_z h
  generalize md_en T f z o = E at *
  exact sm_inI (mo_okMM h1) h4 (md_ivM h2) (md_41M h3)
theorem sm_V_vw {T' : mo_S} {n : Nat} (h8 : ∀ t, t < mo_z T → md_sp T t ≤ 8) (e : mo_z T' = mo_z T) (v : ∀ t, t < mo_z T → vw_eq T' t T t) (hV : sm_V n T) : sm_V n T' := by
  obtain ⟨V1, V2, V3, ⟨c, V4⟩, V5⟩ := hV
  have s8 : ∀ a, a < mo_z T → md_sp T' a ≤ 8 := fun a ha => by rw [vw_sp (v a ha)]; exact h8 a ha
  unfold sm_V md_iv
  rw [e]
  refine ⟨fun t u ht hu q => V1 t u ht hu (by rw [← vw_nm (v t ht), ← vw_nm (v u hu)]; exact q), fun t u ht hu q => by rw [vw_clash (v t ht) (v u hu) (s8 t ht) (s8 u hu)]; exact V2 t u ht hu q, fun t ht => by rw [vw_hangs (v t ht) (v t ht) (s8 t ht)]; exact V3 t ht, ⟨c, fun t ht => ⟨(v t ht).2.2.2.2.2.2.2.trans (V4 t ht).1, (V4 t ht).2⟩⟩, fun t ht => ?_⟩
  have := V5 t ht
  rw [vw_fe (v t ht), vw_si (v t ht), (v t ht).2.2.2.2.1, (v t ht).2.2.2.2.2.1]
  exact this
theorem sm_freeo {g : Nat → Nat} {P : po_S} (hP : sm_P g P T) (hz : mo_z T ≤ 40) : ∃ q, cl_freeo P = some q ∧ q < 41 ∧ bz_t P.1 q = false := by
  have hc := sm_sumN hP (sm_allT hP) (fun _ => 1) (N := 41) (Nat.le_refl _)
  have hall : ns_s (fun t => if (fun _ : Nat => true) t = true then (fun _ => 1) (g t) else 0) (mo_z T) 0 = mo_z T := md_n_all
  have hc : ns_s (fun p => if bz_t P.1 p = true then 1 else 0) 41 0 = mo_z T := hc.trans hall
  have hlow : bz_low (P.1 ^^^ (-1)) < 41 := by
    rcases Nat.lt_or_ge (bz_low (P.1 ^^^ (-1))) 41 with h | h
    · exact h
    · have hset : ∀ p, p < 41 → bz_t P.1 p = true := fun p hp => by
        have hb : bz_t (P.1 ^^^ (-1)) p = false := by
          rcases bz_low_spec (P.1 ^^^ (-1)) with ⟨e, -⟩ | ⟨-, -, e⟩
          · rw [e]; exact bz_0 p
          · exact e p (by omega)
        rw [bz_not _ (by omega)] at hb
        cases h2 : bz_t P.1 p with
        | true => rfl
        | false => rw [h2] at hb; cases hb
      have h3 : ns_s (fun p => if bz_t P.1 p = true then 1 else 0) 41 0 = 41 := (ns_ext (h := fun _ => 1) (fun p _ hp => if_pos (hset p (by omega)))).trans rfl
      omega
  refine ⟨bz_low (P.1 ^^^ (-1)), if_pos hlow, hlow, ?_⟩
  exact (cl_freeo_some (if_pos hlow)).2
def md_r6 (T : mo_S) : Nat × Nat × (Nat → Int64) × (Nat → Int64) × (Nat → Int64) × (Nat → Int32) := (mo_t T, mo_r T, mo_l T 8, mo_l T 9, mo_l T 12, mo_i T 10)
theorem md_r6_re {T T' : mo_S} (h : mo_re T = mo_re T') : md_r6 T = md_r6 T' := congrArg (fun q : Int32 × Nat × Nat × (Nat → Int64) × (Nat → Int64) × (Nat → Int64) × (Nat → Int32) × (Nat → Int32) => (q.2.1, q.2.2.1, q.2.2.2.1, q.2.2.2.2.1, q.2.2.2.2.2.1, q.2.2.2.2.2.2.1)) h
theorem md_c_re {T T' : mo_S} (h : mo_re T = mo_re T') : mo_c T = mo_c T' := congrArg (fun q : Int32 × Nat × Nat × (Nat → Int64) × (Nat → Int64) × (Nat → Int64) × (Nat → Int32) × (Nat → Int32) => q.1) h
theorem md_r6_M {g : Nat → Bool} : md_r6 (mo_M T g) = md_r6 T := rfl
theorem md_r6_i2 : md_r6 (md_i2 T) = md_r6 T := rfl
theorem md_r6_in : md_r6 (md_in T) = md_r6 T := by
  have h1 : md_r6 (md_in T) = md_r6 (md_i3 T) := rfl
  have h2 : md_r6 (md_i3 T) = md_r6 (md_i2 T) := md_r6_re md_copy_re
  rw [h1, h2]
  exact md_r6_i2
/-- too many: the least paying family goes, on both sides -/
theorem sm_full {g2 : Nat → Nat} {P2 : po_S} {N : mo_S} {n q t0 : Nat} (ok2 : mo_ok N) (hP2 : sm_P g2 P2 N) (hV2 : sm_V n N) (hn : n < 2 ^ 31) (hz : mo_z N = t0 + 1) (hz2 : t0 ≤ 40) (gq : g2 t0 = q) (hq : q < 41) (hcz : mo_i N 7 t0 = nI n) (hcm : mo_c N = nI n) {y : Int32} {T1 : mo_S} (hw : md_outR N y T1) : (if bz_t (ds_rmf P2 (cl_least P2)).2.1 q = true then nI 0 else nI 5) = y ∧ (∃ g', sm_P g' (ds_rmf P2 (cl_least P2)).2 T1) ∧ sm_V n T1 ∧ mo_z T1 ≤ 40 ∧ mo_c T1 = nI n ∧ md_r6 T1 = md_r6 N ∧ (ds_rmf P2 (cl_least P2)).2.2.1 = P2.2.1 := by
  obtain ⟨mk, m1, rfl, rfl⟩ := hw
  obtain ⟨l1, l2, l3⟩ := sm_least hP2 hV2 hn (by omega)
  cases hl : md_leasto N with
  | none => exact absurd (show 0 < mo_z N by omega) (l3 hl 0)
  | some w =>
    have hw := l2 w hl
    rw [hl] at m1 l1
    have m1 : mk_like mk (md_famC N w (mo_z N)) := m1
    have hb := sm_fam_like hP2 (by omega) hw m1
    obtain ⟨g1, h2, h3, h4⟩ := sm_gone ok2 (by omega) hP2 hV2 hb
    have e3 : (ds_rmf P2 (cl_least P2)).2 = cl_rm P2 (cl_fam P2 (bz_b (g2 w))) := by
      rw [l1]
      rfl
    have hmw : mk w = true := by rw [m1 w (by omega)]; exact md_famC_self
    have hone : 1 ≤ md_n N mk := by
      have := ns_ge (g := fun t => if mk t = true then 1 else 0) (m := mo_z N) (i := 0) (k := w) (Nat.zero_le _) (by omega)
      rw [if_pos hmw] at this
      exact this
    have hbit : bz_t (ds_rmf P2 (cl_least P2)).2.1 q = !mk t0 := by
      rw [e3]
      show bz_t (P2.1 &&& (cl_fam P2 (bz_b (g2 w)) ^^^ (-1))) q = _
      have p1 := (hP2.1 t0 (by omega)).2
      rw [gq] at p1
      rw [bz_and, p1, Bool.true_and, bz_not _ (by omega)]
      congr 1
      cases hx : mk t0 with
      | true => exact (hb q).mpr ⟨t0, by omega, gq, hx⟩
      | false =>
        refine bt_f (fun hy => ?_)
        obtain ⟨u, u1, u2, u3⟩ := (hb q).mp hy
        have u3 : mk u = true := u3
        rw [hP2.2.1 u t0 u1 (by omega) (u2.trans gq.symm), hx] at u3
        cases u3
    have hown : md_own N mk (mo_c N) = mk t0 := by
      unfold md_own
      rw [lp_or_any, Bool.false_or]
      obtain ⟨-, -, -, ⟨c, hcc⟩, -⟩ := hV2
      apply Bool.eq_iff_iff.mpr
      rw [lp_any_iff]
      constructor
      · rintro ⟨t, -, t2, t3⟩
        obtain ⟨t4, t5⟩ := Bool.and_eq_true _ _ |>.mp t3
        have t5 := of_decide_eq_true t5
        have ht : t < mo_z N := by omega
        have hct := hcc t ht
        have hc0 := hcc t0 (by omega)
        rw [hct.1, hcm] at t5
        have t6 := (nI_eq (by have := hct.2.1; omega) hn).mp t5
        by_cases e5 : t = t0
        · rw [← e5]; exact t4
        · have t7 := hc0.2.2 t (by omega)
          have t8 := hc0.2.1
          omega
      · intro hx
        exact ⟨t0, Nat.zero_le _, by omega, by rw [hx, hcz, hcm, decide_eq_true rfl]; rfl⟩
    refine ⟨?_, ?_, h2, by omega, (md_c_re h3).trans hcm, (md_r6_re h3).trans md_r6_M, ?_⟩
    · rw [hbit, hown]
      cases mk t0 <;> rfl
    · rw [e3]
      exact g1
    · rw [e3]
      rfl
set_option maxHeartbeats 4000000 in
theorem sm_enter (ho : mo_ok T) (hk : k < 2 ^ 30) (h : sm_R k S T) {y : Int32} {T1 : mo_S} (hr : md_enterR T f z o y T1) : (ds_enter S f z o).1 = y ∧ sm_R (k + 1) (ds_enter S f z o).2 T1 := by
  obtain ⟨⟨g, hP⟩, ⟨n, n1, n2, n3, hV⟩, h3, hK, h5, h6⟩ := id h
  have ht8 : mo_t T ≤ 8 := ho.2.2.2.1
  rcases hr with ⟨hc, rfl, rfl⟩ | ⟨ht0, htx, hc⟩
  · have e : ds_enter S f z o = (-1, S) := by
      unfold ds_enter
      rw [hK.1, if_pos hc]
    rw [e]
    exact ⟨rfl, sm_up h⟩
  · have hcond : ¬ (S.2.1.1 = 0 ∨ cl_isTx f z o = false) := by
      rw [hK.1, htx]
      rintro (q | q)
      · exact ht0 q
      · cases q
    have e : ds_enter S f z o = if cl_hind S.2.2.1 S.1 S.2.1 o = nI 0 then ((ds_in S.2.2.1 S.1 S.2.1 f z o).1, (S.1, (0, S.2.1.2), (ds_in S.2.2.1 S.1 S.2.1 f z o).2, S.2.2.2)) else (cl_hind S.2.2.1 S.1 S.2.1 o, (S.1, (0, S.2.1.2), S.2.2)) := if_neg hcond
    rw [e]
    generalize hE : md_en T f z o = E at hc
    have ok : mo_ok E := hE ▸ md_en_ok ho
    have h8 : ∀ t, t < mo_z T → md_sp T t ≤ 8 := fun t ht => (ho.1 t (by omega)).2
    have ez : mo_z E = mo_z T := by rw [← hE]; rfl
    have ec : mo_c E = mo_c T := by rw [← hE]; rfl
    have et : mo_t E = 0 := by rw [← hE]; rfl
    have er : mo_r E = mo_r T := by rw [← hE]; rfl
    have e8 : mo_l E 8 = mo_l T 8 := by rw [← hE]; rfl
    have e9 : mo_l E 9 = mo_l T 9 := by rw [← hE]; rfl
    have e12 : mo_l E 12 = mo_l T 12 := by rw [← hE]; rfl
    have e10 : mo_i E 10 = mo_i T 10 := by rw [← hE]; rfl
    have vt : ∀ t, t < mo_z T → vw_eq E t T t := fun t ht => hE ▸ md_en_at (by omega)
    have hPE : sm_P g S.2.2.1 E := sm_P_vw h8 ez vt hP
    have hVE : sm_V n E := sm_V_vw h8 ez vt hV
    have hm : S.1 = md_nm E 41 := by rw [← hE, md_en_nm]; exact h3
    have hv : sm_k S.2.1 E 41 := hE ▸ md_en_k ht8 hK
    have hf : f = mo_l E 4 41 := by rw [← hE, md_en_f]
    have hs : z = mo_i E 5 41 := by rw [← hE, md_en_z]
    have hoo : o = mo_i E 6 41 := by rw [← hE, md_en_o]
    have h41 : md_i41 E := hE ▸ md_en_41 htx
    have hfd : cl_findo S.2.2.1 (md_nm E 41) = (md_findo E).map g := by
      have q1 : md_findo E = md_findo T := by
        unfold md_findo
        rw [ez]
        have : ∀ m i, i + m = mo_z T → fo_find (md_named E) m i = fo_find (md_named T) m i := by
          intro m
          induction m with
          | zero => intro i _; rfl
          | succ m ih =>
            intro i hi
            show (if md_named E i = true then some i else fo_find (md_named E) m (i + 1)) = (if md_named T i = true then some i else fo_find (md_named T) m (i + 1))
            rw [ih (i + 1) (by omega), md_named_eq, md_named_eq, vw_nm (vt i (by omega)), show md_hn E = md_hn T from by unfold md_hn; rw [e8]]
        exact this _ _ (Nat.zero_add _)
      rw [q1, ← hm, h3]
      exact sm_find hP hV
    have hind : cl_hind S.2.2.1 S.1 S.2.1 o = md_ch E := by
      rw [hm]
      exact sm_hind ok (by omega) hPE hfd hv hoo
    rw [hind]
    -- the rest of a state, once its pool is known
    have rest : ∀ (P' : po_S) (T' : mo_S) (n' : Nat), (∃ g', sm_P g' P' T') → n' ≤ k + 1 → P'.2.1 = nI n' → sm_V n' T' → mo_z T' ≤ 40 → mo_c T' = nI n' → md_r6 T' = md_r6 E → sm_R (k + 1) (S.1, (0, S.2.1.2), P', S.2.2.2) T' := by
      intro P' T' n' a1 a2 a3 a4 a5 a6 a7
      have b1 : mo_t T' = 0 := (congrArg (fun q => q.1) a7).trans et
      have b2 : mo_r T' = mo_r T := (congrArg (fun q => q.2.1) a7).trans er
      have b3 : mo_l T' 8 = mo_l T 8 := (congrArg (fun q => q.2.2.1) a7).trans e8
      have b4 : mo_l T' 9 = mo_l T 9 := (congrArg (fun q => q.2.2.2.1) a7).trans e9
      have b5 : mo_l T' 12 = mo_l T 12 := (congrArg (fun q => q.2.2.2.2.1) a7).trans e12
      have b6 : mo_i T' 10 = mo_i T 10 := (congrArg (fun q => q.2.2.2.2.2) a7).trans e10
      refine ⟨a1, ⟨n', a2, a3, a6, a4⟩, ?_, ⟨b1.symm, fun i hi => ?_, fun i hi => ?_⟩, ⟨h5.1.trans b2.symm, fun i hi => ?_⟩, a5⟩
      · show S.1 = (mo_l T' 8 0, mo_l T' 8 1, mo_l T' 8 2, mo_l T' 8 3)
        rw [b3]
        exact h3
      · rw [b4]
        exact hK.2.1 i hi
      · rw [b6]
        exact hK.2.2 i hi
      · rw [b5]
        rw [b2] at hi
        exact h5.2 i hi
    rcases hc with ⟨c1, rfl, g0, rfl⟩ | ⟨c1, g0, hc⟩
    · rw [if_neg c1]
      exact ⟨rfl, rest S.2.2.1 (mo_M E g0) n ⟨g, hPE⟩ (by omega) n2 hVE (by show mo_z E ≤ 40; omega) (ec.trans n3) md_r6_M⟩
    · rw [if_pos c1]
      -- nothing stands against it
      unfold md_ch at c1
      by_cases d1 : md_findo E = none
      · rw [if_neg (show ¬ ¬ md_findo E = none from fun q => q d1)] at c1
        by_cases d2 : lp_any (fun t => md_clash E 41 t) (mo_z E) 0 = true
        · rw [if_pos d2] at c1
          exact absurd c1 (by decide)
        · rw [if_neg d2] at c1
          by_cases d3 : lp_any (fun t => md_miss E 41 t || md_miss E t 41) (mo_z E) 0 = true
          · rw [if_pos d3] at c1
            exact absurd c1 (by decide)
          · rw [if_neg d3] at c1
            by_cases d4 : lp_any (fun t => md_famC E 41 (mo_z E) t && md_hangs E 41 t) 42 0 = true
            · rw [if_pos d4] at c1
              exact absurd c1 (by decide)
            · have hh : md_hangs E 41 41 = false := bt_f (fun q => d4 (lp_any_iff.mpr ⟨41, Nat.zero_le _, by decide, by rw [md_famC_self, q]; rfl⟩))
              have hfr : ∀ t, t < mo_z E → md_nm E t ≠ md_nm E 41 := fun t ht q => by
                have := fo_none d1 t (Nat.zero_le _) (by omega)
                rw [md_named_eq] at this
                have hn8 : md_hn E = md_nm E 41 := by
                  rw [← hm, h3]
                  unfold md_hn
                  rw [e8]
                rw [decide_eq_true (q.trans hn8.symm)] at this
                cases this
              have hcl : ∀ t, t < mo_z E → md_clash E 41 t = false := fun t ht => bt_f (fun q => d2 (lp_any_iff.mpr ⟨t, Nat.zero_le _, by omega, q⟩))
              obtain ⟨q, q1, q2, q3⟩ := sm_freeo hPE (by omega)
              have okM : mo_ok (mo_M E g0) := mo_okMM ok
              have hP2 : sm_P (va_up g (mo_z E) q) (ds_in2 S.2.2.1 q S.1 S.2.1 f z o) (md_in (mo_M E g0)) := sm_inP (T := mo_M E g0) okM (by show mo_z E ≤ 40; omega) hPE q2 q3 hm hv hf hs hoo (by show S.2.2.1.2.1 = mo_c E; rw [n2, ec, n3]) hh
              have hV2 : sm_V (n + 1) (md_in (mo_M E g0)) := sm_inV (T := mo_M E g0) okM (by show mo_z E ≤ 40; omega) hVE (by show mo_c E = nI n; rw [ec, n3]) hfr hcl hh h41
              have hz2 : mo_z (md_in (mo_M E g0)) = mo_z E + 1 := rfl
              have hc2 : (ds_in2 S.2.2.1 q S.1 S.2.1 f z o).2.1 = nI (n + 1) := by
                show S.2.2.1.2.1 + nI 1 = nI (n + 1)
                rw [n2, nI_add]
              have hcm : mo_c (md_in (mo_M E g0)) = nI (n + 1) := by
                show mo_c E + nI 1 = nI (n + 1)
                rw [ec, n3, nI_add]
              have hcnt : bz_c (ds_in2 S.2.2.1 q S.1 S.2.1 f z o).1 64 = mo_z E + 1 := by rw [sm_cnt' hP2 (sm_allT hP2), md_n_all, hz2]
              have ein : ds_in S.2.2.1 S.1 S.2.1 f z o = if bz_c (ds_in2 S.2.2.1 q S.1 S.2.1 f z o).1 64 ≤ 40 then (nI 0, ds_in2 S.2.2.1 q S.1 S.2.1 f z o) else (if bz_t (ds_in3 S.2.2.1 q S.1 S.2.1 f z o).1 q = true then nI 0 else nI 5, ds_in3 S.2.2.1 q S.1 S.2.1 f z o) := by
                unfold ds_in
                rw [q1]
              rw [ein]
              rcases hc with ⟨w1, rfl, rfl⟩ | ⟨w1, hw⟩
              · rw [if_pos (by omega)]
                exact ⟨rfl, rest _ _ (n + 1) ⟨_, hP2⟩ (by omega) hc2 hV2 (by omega) hcm (md_r6_in.trans md_r6_M)⟩
              · rw [if_neg (by omega)]
                have ok2 := md_in_ok (T := mo_M E g0) (by rw [md_zM]; omega) okM
                have hcz : mo_i (md_in (mo_M E g0)) 7 (mo_z E) = nI (n + 1) := by
                  have t1 := (md_in_new (T := mo_M E g0) okM (by rw [md_zM]; omega)).2.2.2.2.2.2.2
                  have t2 : mo_i (md_in (mo_M E g0)) 7 (mo_z E) = mo_c E + nI 1 := t1.trans md_i2_c
                  rw [t2, ec, n3, nI_add]
                have h6N : md_r6 (md_in (mo_M E g0)) = md_r6 E := md_r6_in.trans md_r6_M
                obtain ⟨u1, u2, u3, u4, u5, u6, u7⟩ := sm_full (q := q) ok2 hP2 hV2 (by omega) (t0 := mo_z E) hz2 (by omega) va_up_s q2 hcz hcm hw
                exact ⟨u1, rest _ _ (n + 1) u2 (by omega) (u7.trans hc2) u3 u4 u5 (u6.trans h6N)⟩
      · rw [if_pos d1] at c1
        exact absurd c1 (by decide)
end Steps
