/-! The law: both objects side by side. -/
section LawP
variable {ca : Nat → ClassId} {hp hp1 : hp_T} {L : dk_L} {S : dk_S} {x : Nat} {A : Nat → Nat} {T : mo_S}
/-- the two lie apart -/
def lw_sep (L : dk_L) (x : Nat) (A : Nat → Nat) : Prop := ∀ b, dk_fp L b → b ≠ x ∧ ∀ j, j < 13 → b ≠ A j
theorem lw_keepM (h : mo_At ca hp x A T) (hs : lw_sep L x A) (ho : dk_out L hp hp1) : mo_At ca hp1 x A T := ⟨by rw [ho x (fun z => (hs x z).1 rfl)]; exact h.1, fun j hj => by rw [ho (A j) (fun z => (hs (A j) z).2 j hj rfl)]; exact h.2.1 j hj, h.2.2⟩
theorem lw_keepD (h : dk_At ca hp L S) (hf : ∀ b, dk_fp L b → hp1 b = hp b) : dk_At ca hp1 L S := by
  obtain ⟨a1, a2, a3, a4, a5, a6, a7⟩ := h
  have pf : ∀ b, po_fp (dk_p L) (dk_P L) b → hp1 b = hp b := fun b hb => hf b (Or.inr (Or.inr (Or.inr (Or.inr (Or.inr (Or.inr (Or.inr hb)))))))
  refine ⟨by rw [hf _ (Or.inl rfl)]; exact a1, by rw [hf _ (Or.inr (Or.inl rfl))]; exact a2, ⟨by rw [hf _ (Or.inr (Or.inr (Or.inl rfl)))]; exact a3.1, by rw [hf _ (Or.inr (Or.inr (Or.inr (Or.inl rfl))))]; exact a3.2.1, by rw [hf _ (Or.inr (Or.inr (Or.inr (Or.inr (Or.inl rfl)))))]; exact a3.2.2.1, a3.2.2.2⟩, ⟨by rw [pf _ (Or.inl rfl)]; exact a4.1, ?_, fun p hp0 => ?_⟩, by rw [hf _ (Or.inr (Or.inr (Or.inr (Or.inr (Or.inr (Or.inl rfl))))))]; exact a5, by rw [hf _ (Or.inr (Or.inr (Or.inr (Or.inr (Or.inr (Or.inr (Or.inl rfl)))))))]; exact a6, a7⟩
  · obtain ⟨f, hf1, hf2⟩ := a4.2.1
    exact ⟨f, by rw [pf _ (Or.inr (Or.inl rfl))]; exact hf1, hf2⟩
  · obtain ⟨b1, b2, b3⟩ := a4.2.2 p hp0
    refine ⟨by rw [pf _ (Or.inr (Or.inr ⟨p, hp0, Or.inl rfl⟩))]; exact b1, by rw [pf _ (Or.inr (Or.inr ⟨p, hp0, Or.inr (Or.inl rfl)⟩))]; exact b2, by rw [pf _ (Or.inr (Or.inr ⟨p, hp0, Or.inr (Or.inr (Or.inl rfl))⟩))]; exact b3.1, by rw [pf _ (Or.inr (Or.inr ⟨p, hp0, Or.inr (Or.inr (Or.inr (Or.inl rfl)))⟩))]; exact b3.2.1, by rw [pf _ (Or.inr (Or.inr ⟨p, hp0, Or.inr (Or.inr (Or.inr (Or.inr rfl)))⟩))]; exact b3.2.2.1, b3.2.2.2⟩
theorem lw_keepD' (h : dk_At ca hp L S) (hs : lw_sep L x A) (ho : mo_out x A hp hp1) : dk_At ca hp1 L S := lw_keepD h (fun b hb => ho b (hs b hb).1 (hs b hb).2)
theorem lw_end {L i : Nat} (hL : L ≤ 4608) (hi : i ≤ 4617) : nI L - nI 9 < nI i ↔ L < i + 9 := by
  by_cases h : 9 ≤ L
  · rw [show nI L - nI 9 = nI (L - 9) from pk_sub h]
    constructor
    · intro c
      rcases Nat.lt_or_ge L (i + 9) with q | q
      · exact q
      · exact absurd c (Int32.not_lt.mpr (nI_le (by omega) (by omega)))
    · intro c
      exact nI_lt (by omega) (by omega)
  · constructor
    · intro _
      omega
    · intro _
      have h0 : nI L - nI 9 < nI 0 := by
        rcases (show L = 0 ∨ L = 1 ∨ L = 2 ∨ L = 3 ∨ L = 4 ∨ L = 5 ∨ L = 6 ∨ L = 7 ∨ L = 8 by omega) with rfl | rfl | rfl | rfl | rfl | rfl | rfl | rfl | rfl <;> decide
      exact Int32.lt_of_lt_of_le h0 (nI_le (Nat.zero_le _) (by omega))
def lw_I (ca : Nat → ClassId) (hp : hp_T) (L : dk_L) (x : Nat) (A : Nat → Nat) (k : Nat) (S : dk_S) (T : mo_S) : Prop := dk_At ca hp L S ∧ mo_At ca hp x A T ∧ sm_R k S T
end LawP
