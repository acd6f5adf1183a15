/-! What holds between the desk and the reference. -/
section Sim
def md_nm (T : mo_S) (i : Nat) : nm_T := (mo_l T 0 (4 * i), mo_l T 0 (4 * i + 1), mo_l T 0 (4 * i + 2), mo_l T 0 (4 * i + 3))
def md_hn (T : mo_S) : nm_T := (mo_l T 8 0, mo_l T 8 1, mo_l T 8 2, mo_l T 8 3)
/-- a place's transaction is the reference's i -/
def sm_tx (t : tx_T) (T : mo_S) (i : Nat) : Prop := t.1 = md_nm T i ∧ t.2.1.1 = md_sp T i ∧ (∀ j, j < 32 → t.2.1.2.1 j = mo_l T 2 (32 * i + j)) ∧ (∀ j, j < 8 → t.2.1.2.2 j = mo_i T 3 (8 * i + j)) ∧ t.2.2.1 = mo_l T 4 i ∧ t.2.2.2.1 = mo_i T 5 i ∧ t.2.2.2.2.1 = mo_i T 6 i ∧ t.2.2.2.2.2.1 = mo_i T 7 i
/-- who is where -/
def sm_P (g : Nat → Nat) (P : po_S) (T : mo_S) : Prop := (∀ t, t < mo_z T → g t < 41 ∧ bz_t P.1 (g t) = true) ∧ (∀ t u, t < mo_z T → u < mo_z T → g t = g u → t = u) ∧ (∀ p, bz_t P.1 p = true → ∃ t, t < mo_z T ∧ g t = p) ∧ (∀ t, t < mo_z T → sm_tx (P.2.2 (g t)) T t) ∧ (∀ t, t < mo_z T → ∀ p, (bz_t (P.2.2 (g t)).2.2.2.2.2.2.1 p = true ↔ ∃ u, u < mo_z T ∧ g u = p ∧ md_hangs T t u = true) ∧ (bz_t (P.2.2 (g t)).2.2.2.2.2.2.2 p = true ↔ ∃ u, u < mo_z T ∧ g u = p ∧ md_hangs T u t = true))
/-- the reference by itself, when n came -/
def sm_V (n : Nat) (T : mo_S) : Prop := (∀ t u, t < mo_z T → u < mo_z T → md_nm T t = md_nm T u → t = u) ∧ (∀ t u, t < mo_z T → u < mo_z T → t ≠ u → md_clash T t u = false) ∧ (∀ t, t < mo_z T → md_hangs T t t = false) ∧ (∃ c : Nat → Nat, ∀ t, t < mo_z T → mo_i T 7 t = nI (c t) ∧ c t ≤ n ∧ ∀ u, u < t → c u < c t) ∧ md_iv T
def sm_K (v : kv_T) (T : mo_S) : Prop := v.1 = mo_t T ∧ (∀ i, i < 32 → v.2.1 i = mo_l T 9 i) ∧ ∀ i, i < 8 → v.2.2 i = mo_i T 10 i
def sm_R (k : Nat) (S : dk_S) (T : mo_S) : Prop := (∃ g, sm_P g S.2.2.1 T) ∧ (∃ n, n ≤ k ∧ S.2.2.1.2.1 = nI n ∧ mo_c T = nI n ∧ sm_V n T) ∧ S.1 = md_hn T ∧ sm_K S.2.1 T ∧ (S.2.2.2.1 = mo_r T ∧ ∀ i, i < 4 * mo_r T → S.2.2.2.2 i = mo_l T 12 i) ∧ mo_z T ≤ 40
variable {k : Nat} {S : dk_S} {T : mo_S}
theorem sm_up (h : sm_R k S T) : sm_R (k + 1) S T := by
  obtain ⟨h1, ⟨n, hn, h2⟩, h3⟩ := h
  exact ⟨h1, ⟨n, by omega, h2⟩, h3⟩
theorem sm_iv (h : sm_R k S T) : md_iv T := by
  obtain ⟨-, ⟨n, -, -, -, h2⟩, -⟩ := h
  exact h2.2.2.2.2
theorem sm_z (h : sm_R k S T) : mo_z T ≤ 40 := h.2.2.2.2.2
theorem sm_init : sm_R 0 (nm_0, kv_0, (0, 0, fun _ => tx_0), 0, fun _ => 0) mo_0 := by
  refine ⟨⟨fun _ => 0, fun t ht => absurd ht (Nat.not_lt_zero _), fun t u ht => absurd ht (Nat.not_lt_zero _), fun p hp => ?_, fun t ht => absurd ht (Nat.not_lt_zero _), fun t ht => absurd ht (Nat.not_lt_zero _)⟩, ⟨0, Nat.le_refl _, rfl, rfl, fun t u ht => absurd ht (Nat.not_lt_zero _), fun t u ht => absurd ht (Nat.not_lt_zero _), fun t ht => absurd ht (Nat.not_lt_zero _), ⟨fun _ => 0, fun t ht => absurd ht (Nat.not_lt_zero _)⟩, fun t ht => absurd ht (Nat.not_lt_zero _)⟩, rfl, ⟨rfl, fun _ _ => rfl, fun _ _ => rfl⟩, ⟨rfl, fun i hi => absurd hi (by show ¬ i < 4 * 0; omega)⟩, Nat.zero_le _⟩
  have : bz_t (0 : Int64) p = true := hp
  rw [bz_0] at this
  cases this
theorem sm_mark (h : sm_R k S T) (mk : Nat → Bool) : sm_R k S (mo_M T mk) := h
end Sim
