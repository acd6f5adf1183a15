/-! The least paying one. -/
section LeastP
variable {g : Nat → Nat} {P : po_S} {T : mo_S} {n : Nat}
theorem nI_ltN {a b : Nat} (ha : a < 2 ^ 31) (hb : b < 2 ^ 31) : nI a < nI b ↔ a < b := by
  constructor
  · intro h
    rcases Nat.lt_or_ge a b with q | q
    · exact q
    · exact absurd h (Int32.not_lt.mpr (nI_le q ha))
  · intro h
    exact nI_lt h hb
/-- who came when -/
theorem sm_came (hP : sm_P g P T) (hV : sm_V n T) (hn : n < 2 ^ 31) {t u : Nat} (ht : t < mo_z T) (hu : u < mo_z T) : (P.2.2 (g t)).2.2.2.2.2.1 < (P.2.2 (g u)).2.2.2.2.2.1 ↔ t < u := by
  obtain ⟨-, -, -, ⟨c, hc⟩, -⟩ := hV
  rw [(hP.2.2.2.1 t ht).2.2.2.2.2.2.2, (hP.2.2.2.1 u hu).2.2.2.2.2.2.2, (hc t ht).1, (hc u hu).1, nI_ltN (by have := (hc t ht).2.1; omega) (by have := (hc u hu).2.1; omega)]
  constructor
  · intro h
    rcases Nat.lt_trichotomy t u with q | q | q
    · exact q
    · rw [q] at h; omega
    · have := (hc t ht).2.2 u q; omega
  · intro h
    exact (hc u hu).2.2 t h
theorem sm_ff (hP : sm_P g P T) (hz : mo_z T ≤ 41) {t : Nat} (ht : t < mo_z T) : cl_ff P (g t) = lN (md_ff T t) := sm_fees' hP (sm_fam hP (by omega) ht)
theorem sm_fs (hP : sm_P g P T) (hv : md_iv T) (hz : mo_z T ≤ 41) {t : Nat} (ht : t < mo_z T) : (cl_fs P (g t)).toInt64 = lN (md_fz T t) := by
  have h : cl_fs P (g t) = nI (md_fz T t) := sm_sizes' hP hv (sm_fam hP (by omega) ht)
  have h2 : md_fz T t ≤ 82000 := md_sZ_le hv hz _
  rw [h, nI_l (by omega)]
theorem sm_least (hP : sm_P g P T) (hV : sm_V n T) (hn : n < 2 ^ 31) (hz : mo_z T ≤ 41) : cl_least P = (md_leasto T).map g ∧ (∀ w, md_leasto T = some w → w < mo_z T) ∧ (md_leasto T = none → ∀ t, ¬ t < mo_z T) := by
  have hv := hV.2.2.2.2
  have pos : ∀ t, t < mo_z T → 1 ≤ md_fz T t := fun t ht => md_sZ_pos hv ht md_famC_self
  have le : ∀ t, md_fz T t ≤ 82000 := fun t => md_sZ_le hv hz _
  have lf : ∀ t, md_ff T t < 2 ^ 62 := fun t => md_sF_le hv hz _
  have cmp : ∀ t u, t < mo_z T → u < mo_z T → cl_cmp (cl_ff P (g t)) (cl_fs P (g t)).toInt64 (cl_ff P (g u)) (cl_fs P (g u)).toInt64 = md_cm (md_ff T t) (md_fz T t) (md_ff T u) (md_fz T u) := fun t u ht hu => by
    rw [sm_ff hP hz ht, sm_ff hP hz hu, sm_fs hP hv hz ht, sm_fs hP hv hz hu]
    exact rt_eq (lf t) (pos t ht) (le t) (lf u) (pos u hu) (le u)
  have less : ∀ t u, t < mo_z T → u < mo_z T → (cl_less P (g t) (g u) = true ↔ lx (md_ff T) (md_fz T) (fun t u => u < t) t u) := fun t u ht hu => by
    unfold cl_less lx
    rw [cmp t u ht hu, Bool.or_eq_true, Bool.and_eq_true, decide_eq_true_iff, decide_eq_true_iff, decide_eq_true_iff, cm_lt0, cm_eq0, sm_came hP hV hn hu ht]
  refine mn_two (z := mo_z T) (Y := fun t => t < mo_z T) (L := lx (md_ff T) (md_fz T) (fun t u => u < t)) (fun t ht => ⟨ht, (hP.1 t ht).1⟩) (fun t u ht hu e => hP.2.1 t u ht hu e) (fun t u ht hu hne => ?_) (lx_tr (Y := fun t => t < mo_z T) pos (fun t u w h1 h2 => by omega)) (fun t ht h => ?_) (fun i a hi hn => absurd hi hn) (fun i hi => rfl) (fun i b hi hb hbi => ⟨fun h => ?_, fun h => ?_⟩) (fun p a hp hno => ?_) (fun t ht => ?_) (fun t u ht hu hne => ⟨fun h => ?_, fun h => ?_⟩)
  · unfold lx
    rcases Nat.lt_trichotomy (md_ff T t * md_fz T u) (md_ff T u * md_fz T t) with q | q | q
    · exact Or.inl (Or.inl q)
    · rcases Nat.lt_trichotomy t u with z | z | z
      · exact Or.inr (Or.inr ⟨q.symm, z⟩)
      · exact absurd z hne
      · exact Or.inl (Or.inr ⟨q, z⟩)
    · exact Or.inr (Or.inl q)
  · rcases h with h | ⟨-, h⟩ <;> omega
  · refine if_neg (fun z => ?_)
    have z' := cm_gt0.mp z
    rcases h with h | ⟨h, -⟩ <;> omega
  · refine if_pos (cm_gt0.mpr ?_)
    rcases h with h | ⟨-, h⟩
    · exact h
    · omega
  · unfold cl_leastF
    rw [if_neg]
    intro z
    obtain ⟨t, h1, h2⟩ := hP.2.2.1 p (Bool.and_eq_true _ _ |>.mp z).1
    exact hno ⟨t, h1, h2⟩
  · unfold cl_leastF
    rw [(hP.1 t ht).2, if_pos]
    rfl
  · unfold cl_leastF
    rw [(hP.1 t ht).2, if_pos]
    show (true && cl_less P (g t) (g u)) = true
    rw [(less t u ht hu).mpr h]
    rfl
  · unfold cl_leastF
    rw [(hP.1 t ht).2, if_neg]
    show ¬ (true && cl_less P (g t) (g u)) = true
    rw [Bool.true_and]
    intro z
    have z' := (less t u ht hu).mp z
    rcases h with h | ⟨h, q⟩ <;> rcases z' with z' | ⟨z', q'⟩ <;> omega
end LeastP
