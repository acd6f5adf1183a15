/-! Rates: both ways to compare are one. -/
section Rates
theorem lg3 {x y : Nat} (hx : x < 2 ^ 63) (hy : y < 2 ^ 63) : lg_cmp (lN x) (lN y) = if x < y then -1 else if x = y then nI 0 else nI 1 := by
  unfold lg_cmp
  by_cases h1 : x < y
  · rw [if_pos h1, if_neg (fun z => by have := (pk_lLT hy hx).mp z; omega), if_neg (fun z => by have := (pk_lEQ hx hy).mp z; omega)]
  · rw [if_neg h1]
    by_cases h2 : x = y
    · rw [if_pos h2, if_neg (fun z => by have := (pk_lLT hy hx).mp z; omega), if_pos (by rw [h2])]
      rfl
    · rw [if_neg h2, if_pos ((pk_lLT hy hx).mpr (by omega))]
      rfl
theorem rt_eq {a b c e : Nat} (ha : a < 2 ^ 62) (hb : 1 ≤ b) (hb2 : b ≤ 82000) (hc : c < 2 ^ 62) (he : 1 ≤ e) (he2 : e ≤ 82000) : cl_cmp (lN a) (lN b) (lN c) (lN e) = md_cm a b c e := by
  have n1 : ¬ lN b < 1 := fun z => by have := (pk_lLT (a := b) (b := 1) (by omega) (by decide)).mp z; omega
  have n2 : ¬ lN e < 1 := fun z => by have := (pk_lLT (a := e) (b := 1) (by omega) (by decide)).mp z; omega
  have dq : a / b ≤ a := Nat.div_le_self _ _
  have ds : c / e ≤ c := Nat.div_le_self _ _
  have mq := Nat.mod_lt a (show b > 0 by omega)
  have ms := Nat.mod_lt c (show e > 0 by omega)
  have p1 : a % b * e ≤ 82000 * 82000 := Nat.mul_le_mul (by omega) he2
  have p2 : c % e * b ≤ 82000 * 82000 := Nat.mul_le_mul (by omega) hb2
  unfold cl_cmp
  rw [if_neg n1, if_neg n2, show lN a / lN b = lN (a / b) from pk_lDiv (by omega) (by omega) (by omega), show lN c / lN e = lN (c / e) from pk_lDiv (by omega) (by omega) (by omega)]
  have r1 : lN a - lN (a / b) * lN b = lN (a % b) := by
    rw [← show lN a / lN b = lN (a / b) from pk_lDiv (by omega) (by omega) (by omega)]
    exact pk_lRem (by omega) (by omega) (by omega)
  have r2 : lN c - lN (c / e) * lN e = lN (c % e) := by
    rw [← show lN c / lN e = lN (c / e) from pk_lDiv (by omega) (by omega) (by omega)]
    exact pk_lRem (by omega) (by omega) (by omega)
  rw [r1, r2, lN_mul, lN_mul, lg3 (by omega) (by omega), lg3 (by omega) (by omega)]
  by_cases h : a / b = c / e
  · rw [if_neg (show ¬ a / b < c / e by omega), if_pos h, if_pos (show nI 0 = 0 from rfl)]
    obtain ⟨K, k1, k2⟩ := cq_rest h
    unfold md_cm
    rw [k1, k2]
    by_cases q1 : a % b * e < c % e * b
    · rw [if_pos q1, if_pos (by omega)]
    · by_cases q2 : a % b * e = c % e * b
      · rw [if_neg q1, if_pos q2, if_neg (by omega), if_pos (by omega)]
      · rw [if_neg q1, if_neg q2, if_neg (by omega), if_neg (by omega)]
  · by_cases h1 : a / b < c / e
    · rw [if_pos h1, if_neg (by decide), cq_lt (cq_div_lt he h1 hb)]
    · rw [if_neg h1, if_neg h, if_neg (by decide), cq_gt (cq_div_lt hb (by omega) he)]
/-- the order of rates -/
theorem rt_trans {a b c d e f : Nat} (hb : 1 ≤ b) (hd : 1 ≤ d) (hf : 1 ≤ f) (h1 : a * d ≤ c * b) (h2 : c * f ≤ e * d) : a * f ≤ e * b := by
  have x1 : a * d * f ≤ c * b * f := Nat.mul_le_mul_right _ h1
  have x2 : c * f * b ≤ e * d * b := Nat.mul_le_mul_right _ h2
  have x3 : a * f * d ≤ e * b * d := by
    rw [show a * f * d = a * d * f by rw [Nat.mul_assoc, Nat.mul_comm f d, ← Nat.mul_assoc], show e * b * d = e * d * b by rw [Nat.mul_assoc, Nat.mul_comm b d, ← Nat.mul_assoc]]
    rw [show c * b * f = c * f * b by rw [Nat.mul_assoc, Nat.mul_comm b f, ← Nat.mul_assoc]] at x1
    omega
  exact Nat.le_of_mul_le_mul_right x3 (by omega)
theorem rt_lt_trans {a b c d e f : Nat} (hb : 1 ≤ b) (hd : 1 ≤ d) (hf : 1 ≤ f) (h1 : a * d < c * b) (h2 : c * f ≤ e * d) : a * f < e * b := by
  have x1 : a * d * f < c * b * f := Nat.mul_lt_mul_of_pos_right h1 (by omega)
  have x2 : c * f * b ≤ e * d * b := Nat.mul_le_mul_right _ h2
  have x3 : a * f * d < e * b * d := by
    rw [show a * f * d = a * d * f by rw [Nat.mul_assoc, Nat.mul_comm f d, ← Nat.mul_assoc], show e * b * d = e * d * b by rw [Nat.mul_assoc, Nat.mul_comm b d, ← Nat.mul_assoc]]
    rw [show c * b * f = c * f * b by rw [Nat.mul_assoc, Nat.mul_comm b f, ← Nat.mul_assoc]] at x1
    omega
  exact Nat.lt_of_mul_lt_mul_right x3
theorem rt_lt_trans' {a b c d e f : Nat} (hb : 1 ≤ b) (hd : 1 ≤ d) (hf : 1 ≤ f) (h1 : a * d ≤ c * b) (h2 : c * f < e * d) : a * f < e * b := by
  have x1 : a * d * f ≤ c * b * f := Nat.mul_le_mul_right _ h1
  have x2 : c * f * b < e * d * b := Nat.mul_lt_mul_of_pos_right h2 (by omega)
  have x3 : a * f * d < e * b * d := by
    rw [show a * f * d = a * d * f by rw [Nat.mul_assoc, Nat.mul_comm f d, ← Nat.mul_assoc], show e * b * d = e * d * b by rw [Nat.mul_assoc, Nat.mul_comm b d, ← Nat.mul_assoc]]
    rw [show c * b * f = c * f * b by rw [Nat.mul_assoc, Nat.mul_comm b f, ← Nat.mul_assoc]] at x1
    omega
  exact Nat.lt_of_mul_lt_mul_right x3
theorem cm_lt0 {p q r s : Nat} : md_cm p q r s < 0 ↔ p * s < r * q := by
  unfold md_cm
  by_cases h1 : p * s < r * q
  · rw [if_pos h1]
    exact ⟨fun _ => h1, fun _ => by decide⟩
  · rw [if_neg h1]
    by_cases h2 : p * s = r * q
    · rw [if_pos h2]
      exact ⟨fun z => absurd z (by decide), fun z => absurd z h1⟩
    · rw [if_neg h2]
      exact ⟨fun z => absurd z (by decide), fun z => absurd z h1⟩
theorem cm_gt0 {p q r s : Nat} : 0 < md_cm p q r s ↔ r * q < p * s := by
  unfold md_cm
  by_cases h1 : p * s < r * q
  · rw [if_pos h1]
    exact ⟨fun z => absurd z (by decide), fun z => by omega⟩
  · rw [if_neg h1]
    by_cases h2 : p * s = r * q
    · rw [if_pos h2]
      exact ⟨fun z => absurd z (by decide), fun z => by omega⟩
    · rw [if_neg h2]
      exact ⟨fun _ => by omega, fun _ => by decide⟩
theorem cm_eq0 {p q r s : Nat} : md_cm p q r s = 0 ↔ p * s = r * q := by
  unfold md_cm
  by_cases h1 : p * s < r * q
  · rw [if_pos h1]
    exact ⟨fun z => absurd z (by decide), fun z => by omega⟩
  · rw [if_neg h1]
    by_cases h2 : p * s = r * q
    · rw [if_pos h2]
      exact ⟨fun _ => h2, fun _ => rfl⟩
    · rw [if_neg h2]
      exact ⟨fun z => absurd z (by decide), fun z => absurd z h2⟩
/-- the least of those of Y, by a strict order L -/
theorem mn_fold {N : Nat} {Y : Nat → Prop} {L : Nat → Nat → Prop} {F : Nat → Option Nat → Option Nat} (hno : ∀ i a, i < N → ¬ Y i → F i a = a) (h0 : ∀ i, Y i → F i none = some i) (h1 : ∀ i b, Y i → Y b → b < i → (L i b ∧ F i (some b) = some i) ∨ (L b i ∧ F i (some b) = some b)) (htr : ∀ a b c, Y a → Y b → Y c → L a b → L b c → L a c) :
    ∀ (m i : Nat) (acc : Option Nat), i + m ≤ N → (acc = none → ∀ u, u < i → ¬ Y u) → (∀ w, acc = some w → w < i ∧ Y w ∧ ∀ u, u < i → Y u → u ≠ w → L w u) → (lp_fold F m i acc = none → ∀ u, u < i + m → ¬ Y u) ∧ ∀ w, lp_fold F m i acc = some w → w < i + m ∧ Y w ∧ ∀ u, u < i + m → Y u → u ≠ w → L w u := by
  intro m
  induction m with
  | zero => intro i acc _ a1 a2; exact ⟨a1, a2⟩
  | succ m ih =>
    intro i acc hN a1 a2
    rw [show i + (m + 1) = i + 1 + m by omega]
    refine ih (i + 1) (F i acc) (by omega) (fun hn u hu => ?_) (fun w hw => ?_)
    · by_cases hy : Y i
      · cases acc with
        | none => rw [h0 i hy] at hn; cases hn
        | some b =>
          rcases h1 i b hy (a2 b rfl).2.1 (a2 b rfl).1 with ⟨-, z⟩ | ⟨-, z⟩ <;> rw [z] at hn <;> cases hn
      · rw [hno i acc (by omega) hy] at hn
        by_cases e : u = i
        · rw [e]; exact hy
        · exact a1 hn u (by omega)
    · by_cases hy : Y i
      · cases acc with
        | none =>
          rw [h0 i hy] at hw
          injection hw with hw
          subst hw
          refine ⟨by omega, hy, fun u hu hyu hne => absurd hyu (a1 rfl u (by omega))⟩
        | some b =>
          obtain ⟨b1, b2, b3⟩ := a2 b rfl
          rcases h1 i b hy b2 b1 with ⟨l, z⟩ | ⟨l, z⟩
          · rw [z] at hw
            injection hw with hw
            subst hw
            refine ⟨by omega, hy, fun u hu hyu hne => ?_⟩
            by_cases e : u = b
            · rw [e]; exact l
            · exact htr i b u hy b2 hyu l (b3 u (by omega) hyu e)
          · rw [z] at hw
            injection hw with hw
            subst hw
            refine ⟨by omega, b2, fun u hu hyu hne => ?_⟩
            by_cases e : u = i
            · rw [e]; exact l
            · exact b3 u (by omega) hyu hne
      · rw [hno i acc (by omega) hy] at hw
        obtain ⟨w1, w2, w3⟩ := a2 w hw
        refine ⟨by omega, w2, fun u hu hyu hne => ?_⟩
        by_cases e : u = i
        · rw [e] at hyu
          exact absurd hyu hy
        · exact w3 u (by omega) hyu hne
/-- both sides find the same one -/
theorem mn_two {z : Nat} {g : Nat → Nat} {Y : Nat → Prop} {L : Nat → Nat → Prop} {F FC : Nat → Option Nat → Option Nat} (hY : ∀ t, Y t → t < z ∧ g t < 41) (hinj : ∀ t u, Y t → Y u → g t = g u → t = u) (htot : ∀ t u, Y t → Y u → t ≠ u → L t u ∨ L u t) (htr : ∀ a b c, Y a → Y b → Y c → L a b → L b c → L a c) (hirr : ∀ t, Y t → ¬ L t t)
    (r0 : ∀ i a, i < z → ¬ Y i → F i a = a) (r1 : ∀ i, Y i → F i none = some i) (r2 : ∀ i b, Y i → Y b → b < i → (L i b → F i (some b) = some i) ∧ (L b i → F i (some b) = some b))
    (c0 : ∀ p a, p < 41 → (¬ ∃ t, Y t ∧ g t = p) → FC p a = a) (c1 : ∀ t, Y t → FC (g t) none = some (g t)) (c2 : ∀ t u, Y t → Y u → t ≠ u → (L t u → FC (g t) (some (g u)) = some (g t)) ∧ (L u t → FC (g t) (some (g u)) = some (g u))) :
    lp_fold FC 41 0 none = (lp_fold F z 0 none).map g ∧ (∀ w, lp_fold F z 0 none = some w → Y w) ∧ (lp_fold F z 0 none = none → ∀ t, ¬ Y t) := by
  obtain ⟨R1, R2⟩ := mn_fold (N := z) (Y := Y) (L := L) (F := F) r0 r1 (fun i b hi hb hbi => by
    rcases htot i b hi hb (by omega) with l | l
    · exact Or.inl ⟨l, (r2 i b hi hb hbi).1 l⟩
    · exact Or.inr ⟨l, (r2 i b hi hb hbi).2 l⟩) htr z 0 none (by omega) (fun _ u hu => absurd hu (Nat.not_lt_zero _)) (fun w hw => by cases hw)
  obtain ⟨C1, C2⟩ := mn_fold (N := 41) (Y := fun p => ∃ t, Y t ∧ g t = p) (L := fun p q => ∃ t u, Y t ∧ Y u ∧ g t = p ∧ g u = q ∧ L t u) (F := FC) c0 (fun p hp => by
    obtain ⟨t, ht, rfl⟩ := hp
    exact c1 t ht) (fun p q hp hq hqp => by
    obtain ⟨t, ht, rfl⟩ := hp
    obtain ⟨u, hu, rfl⟩ := hq
    have hne : t ≠ u := fun e => by rw [e] at hqp; omega
    rcases htot t u ht hu hne with l | l
    · exact Or.inl ⟨⟨t, u, ht, hu, rfl, rfl, l⟩, (c2 t u ht hu hne).1 l⟩
    · exact Or.inr ⟨⟨u, t, hu, ht, rfl, rfl, l⟩, (c2 t u ht hu hne).2 l⟩) (fun a b c _ _ _ hab hbc => by
    obtain ⟨t, u, ht, hu, e1, e2, l1⟩ := hab
    obtain ⟨u', w, hu', hw, e3, e4, l2⟩ := hbc
    have : u = u' := hinj u u' hu hu' (e2.trans e3.symm)
    subst this
    exact ⟨t, w, ht, hw, e1, e4, htr t u w ht hu hw l1 l2⟩) 41 0 none (by omega) (fun _ u hu => absurd hu (Nat.not_lt_zero _)) (fun w hw => by cases hw)
  rw [Nat.zero_add] at R1 R2 C1 C2
  refine ⟨?_, fun w hw => (R2 w hw).2.1, fun hn t ht => R1 hn t (hY t ht).1 ht⟩
  cases hr : lp_fold F z 0 none with
  | none =>
    cases hc : lp_fold FC 41 0 none with
    | none => rfl
    | some p =>
      obtain ⟨-, ⟨t, ht, -⟩, -⟩ := C2 p hc
      exact absurd ht (R1 hr t (hY t ht).1)
  | some w =>
    obtain ⟨w1, w2, w3⟩ := R2 w hr
    cases hc : lp_fold FC 41 0 none with
    | none => exact absurd ⟨w, w2, rfl⟩ (C1 hc (g w) (hY w w2).2)
    | some p =>
      obtain ⟨-, ⟨t, ht, e⟩, p3⟩ := C2 p hc
      by_cases h : t = w
      · show some p = some (g w)
        rw [← e, h]
      · have l1 := w3 t (hY t ht).1 ht h
        obtain ⟨t', u', ht', hu', e1, e2, l2⟩ := p3 (g w) (hY w w2).2 ⟨w, w2, rfl⟩ (fun z => h (hinj t w ht w2 (e.trans z.symm)))
        have h1 : t' = t := hinj t' t ht' ht (e1.trans e.symm)
        have h2 : u' = w := hinj u' w hu' w2 e2
        subst h1 h2
        exact absurd (htr u' t' u' w2 ht w2 l1 l2) (hirr u' w2)
/-- rates, then a second thing -/
def lx (a b : Nat → Nat) (R : Nat → Nat → Prop) (t u : Nat) : Prop := a t * b u < a u * b t ∨ (a t * b u = a u * b t ∧ R t u)
theorem lx_tr {a b : Nat → Nat} {R : Nat → Nat → Prop} {Y : Nat → Prop} (hb : ∀ t, Y t → 1 ≤ b t) (hR : ∀ t u w, R t u → R u w → R t w) : ∀ t u w, Y t → Y u → Y w → lx a b R t u → lx a b R u w → lx a b R t w := by
  intro t u w ht hu hw h1 h2
  have b1 := hb t ht
  have b2 := hb u hu
  have b3 := hb w hw
  rcases h1 with h1 | ⟨h1, q1⟩ <;> rcases h2 with h2 | ⟨h2, q2⟩
  · exact Or.inl (rt_lt_trans b1 b2 b3 h1 (Nat.le_of_lt h2))
  · exact Or.inl (rt_lt_trans b1 b2 b3 h1 (Nat.le_of_eq h2))
  · exact Or.inl (rt_lt_trans' b1 b2 b3 (Nat.le_of_eq h1) h2)
  · exact Or.inr ⟨Nat.le_antisymm (rt_trans b1 b2 b3 (Nat.le_of_eq h1) (Nat.le_of_eq h2)) (rt_trans b3 b2 b1 (Nat.le_of_eq h2.symm) (Nat.le_of_eq h1.symm)), hR t u w q1 q2⟩
end Rates
