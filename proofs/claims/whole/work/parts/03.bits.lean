/-! Sets of places as longs: bit p of x is bz_t x p. -/
section Bits
def bz_t (x : Int64) (p : Nat) : Bool := x.toBitVec.getLsbD p
theorem bz_ext {x y : Int64} (h : ∀ p, p < 64 → bz_t x p = bz_t y p) : x = y := Int64.toBitVec_inj.mp (BitVec.eq_of_getLsbD_eq (fun i hi => h i hi))
theorem bz_and (x y : Int64) (p : Nat) : bz_t (x &&& y) p = (bz_t x p && bz_t y p) := by
  unfold bz_t
  rw [Int64.toBitVec_and, BitVec.getLsbD_and]
theorem bz_or (x y : Int64) (p : Nat) : bz_t (x ||| y) p = (bz_t x p || bz_t y p) := by
  unfold bz_t
  rw [Int64.toBitVec_or, BitVec.getLsbD_or]
theorem bz_not (x : Int64) {p : Nat} (hp : p < 64) : bz_t (x ^^^ (-1)) p = !bz_t x p := by
  have ha : (-1 : Int64).toBitVec = BitVec.allOnes 64 := by decide
  unfold bz_t
  rw [Int64.toBitVec_xor, ha, BitVec.getLsbD_xor, BitVec.getLsbD_allOnes]
  simp [hp]
theorem bz_0 (p : Nat) : bz_t 0 p = false := by
  have ha : (0 : Int64).toBitVec = 0#64 := by decide
  unfold bz_t
  rw [ha]
  simp
theorem bz_big {x : Int64} {p : Nat} (h : 64 ≤ p) : bz_t x p = false := by
  unfold bz_t
  exact BitVec.getLsbD_of_ge _ _ h
def bz_b (p : Nat) : Int64 := 1 <<< ((nI p).toInt64 &&& 63)
theorem bz_b_tb : ∀ p, p < 64 → (bz_b p).toBitVec = BitVec.twoPow 64 p := by decide +kernel
theorem bz_bit {p q : Nat} (hp : p < 64) : bz_t (bz_b p) q = decide (p = q) := by
  unfold bz_t
  rw [bz_b_tb p hp, BitVec.getLsbD_twoPow]
  simp [hp]
theorem bz_has {x : Int64} {p : Nat} (hp : p < 64) : (x &&& bz_b p) = 0 ↔ bz_t x p = false := by
  constructor
  · intro h
    have t := congrArg (fun y => bz_t y p) h
    simp only [bz_and, bz_bit hp, bz_0, decide_true, Bool.and_true] at t
    exact t
  · intro h
    apply bz_ext
    intro q hq
    rw [bz_and, bz_bit hp, bz_0]
    by_cases e : p = q
    · subst e
      rw [h]
      rfl
    · simp [e]
theorem bz_eq0 {x : Int64} : x = 0 ↔ ∀ p, p < 64 → bz_t x p = false := by
  constructor
  · intro h p _
    rw [h]
    exact bz_0 p
  · intro h
    apply bz_ext
    intro p hp
    rw [h p hp, bz_0]
/-- how many of the first n bits stand -/
def bz_c (x : Int64) : Nat → Nat
  | 0 => 0
  | n + 1 => bz_c x n + (if bz_t x n = true then 1 else 0)
theorem bz_c_le (x : Int64) (n : Nat) : bz_c x n ≤ n := by
  induction n with
  | zero => exact Nat.le_refl _
  | succ n ih =>
    unfold bz_c
    split <;> omega
/-- a truth as an int -/
def bI (b : Bool) : Int32 := if b = true then nI 1 else nI 0
theorem bI_t : bI true = nI 1 := rfl
theorem bI_f : bI false = nI 0 := rfl
theorem bI_0 {b : Bool} : bI b = 0 ↔ b = false := by cases b <;> decide
theorem bI_n {b : Bool} : ¬ bI b = 0 ↔ b = true := by cases b <;> decide
theorem bI_nar (b : Bool) : narrow .boolean (.int (bI b)) = .int (bI b) := by cases b <;> rfl
theorem lc_0 {x y : Int64} : lg_cmp x y = 0 ↔ x = y := by
  unfold lg_cmp
  constructor
  · intro h
    by_cases h1 : x > y
    · rw [if_pos h1] at h
      exact absurd h (by decide)
    · rw [if_neg h1] at h
      by_cases h2 : x = y
      · exact h2
      · rw [if_neg h2] at h
        exact absurd h (by decide)
  · intro h
    subst h
    simp
end Bits
/-! Long.bitCount -/
section Pop
/-- masks of n bytes -/
def pc_m (m : Nat) : Nat → Nat
  | 0 => 0
  | n + 1 => 256 * pc_m m n + m
theorem pc_and {A B a b : Nat} (ha : a < 256) (hb : b < 256) : (256 * A + a) &&& (256 * B + b) = 256 * (A &&& B) + (a &&& b) := by
  apply Nat.eq_of_testBit_eq
  intro i
  have hab : (a &&& b) < 2 ^ 8 := Nat.and_lt_two_pow _ hb
  have ha' : a < 2 ^ 8 := ha
  have hb' : b < 2 ^ 8 := hb
  rw [Nat.testBit_and, show (256 : Nat) = 2 ^ 8 from rfl, Nat.testBit_two_pow_mul_add _ ha', Nat.testBit_two_pow_mul_add _ hb', Nat.testBit_two_pow_mul_add _ hab]
  split
  · rw [Nat.testBit_and]
  · rw [Nat.testBit_and]
def pc_1 (x : Nat) (n : Nat) : Nat := x - ((x / 2) &&& pc_m 85 n)
def pc_2 (x : Nat) (n : Nat) : Nat := (x &&& pc_m 51 n) + ((x / 4) &&& pc_m 51 n)
def pc_3 (x : Nat) (n : Nat) : Nat := (x + x / 16) &&& pc_m 15 n
/-- the bits of a byte -/
def pc_g (b : Nat) : Nat := pc_3 (pc_2 (pc_1 b 1) 1) 1
theorem pc_d1 : ∀ e, e < 2 → ∀ c, c < 128 → (128 * e + c) &&& 85 = c &&& 85 := by decide +kernel
theorem pc_d2 : ∀ e, e < 4 → ∀ c, c < 64 → (64 * e + c) &&& 51 = c &&& 51 := by decide +kernel
theorem pc_d3 : ∀ b, b < 256 → pc_1 b 1 < 256 ∧ ((b / 2) &&& 85) ≤ b ∧ (pc_1 b 1 &&& 51) + ((pc_1 b 1 / 4) &&& 51) = pc_2 (pc_1 b 1) 1 ∧ pc_2 (pc_1 b 1) 1 ≤ 68 ∧ pc_2 (pc_1 b 1) 1 % 16 ≤ 4 ∧ pc_g b ≤ 8 := by decide +kernel
theorem pc_d4 : ∀ e, e < 5 → ∀ c, c < 69 → c % 16 ≤ 4 → (c + c / 16 + 16 * e) &&& 15 = (c + c / 16) &&& 15 := by decide +kernel
theorem pc_s1 {A b n : Nat} (hb : b < 256) (hA : ((A / 2) &&& pc_m 85 n) ≤ A) : pc_1 (256 * A + b) (n + 1) = 256 * pc_1 A n + pc_1 b 1 ∧ (((256 * A + b) / 2) &&& pc_m 85 (n + 1)) ≤ 256 * A + b := by
  have e1 : (256 * A + b) / 2 = 256 * (A / 2) + (128 * (A % 2) + b / 2) := by omega
  have e2 : ((256 * A + b) / 2) &&& pc_m 85 (n + 1) = 256 * ((A / 2) &&& pc_m 85 n) + ((b / 2) &&& 85) := by
    rw [e1]
    show _ &&& (256 * pc_m 85 n + 85) = _
    rw [pc_and (by omega) (by decide), pc_d1 _ (by omega) _ (by omega)]
  have h3 := (pc_d3 b hb).2.1
  unfold pc_1
  rw [e2]
  have e3 : pc_m 85 1 = 85 := rfl
  rw [e3]
  constructor <;> omega
theorem pc_s2 {A b n : Nat} (hb : b < 256) : pc_2 (256 * A + b) (n + 1) = 256 * pc_2 A n + ((b &&& 51) + ((b / 4) &&& 51)) := by
  have e1 : (256 * A + b) / 4 = 256 * (A / 4) + (64 * (A % 4) + b / 4) := by omega
  unfold pc_2
  show ((256 * A + b) &&& (256 * pc_m 51 n + 51)) + (_ &&& (256 * pc_m 51 n + 51)) = _
  rw [e1, pc_and hb (by decide), pc_and (by omega) (by decide), pc_d2 _ (by omega) _ (by omega)]
  omega
theorem pc_s3 {A b n : Nat} (hb : b ≤ 68) (h1 : b % 16 ≤ 4) (hA : A % 16 ≤ 4) : pc_3 (256 * A + b) (n + 1) = 256 * pc_3 A n + ((b + b / 16) &&& 15) := by
  have e1 : 256 * A + b + (256 * A + b) / 16 = 256 * (A + A / 16) + (b + b / 16 + 16 * (A % 16)) := by omega
  unfold pc_3
  rw [e1]
  show _ &&& (256 * pc_m 15 n + 15) = _
  rw [pc_and (by omega) (by decide), pc_d4 _ (by omega) _ (by omega) h1]
/-- the three first steps on n bytes: each byte its own -/
def pc_S (x : Nat) (n : Nat) : Nat := pc_3 (pc_2 (pc_1 x n) n) n
theorem pc_ind (n : Nat) : ∀ x, x < 256 ^ n → ((x / 2) &&& pc_m 85 n) ≤ x ∧ pc_2 (pc_1 x n) n % 16 ≤ 4 ∧ ∀ b, b < 256 → pc_S (256 * x + b) (n + 1) = 256 * pc_S x n + pc_g b := by
  induction n with
  | zero =>
    intro x hx
    have : x = 0 := by
      rw [Nat.pow_zero] at hx
      omega
    subst this
    refine ⟨by decide, by decide, fun b hb => ?_⟩
    show pc_S (256 * 0 + b) 1 = 256 * pc_S 0 0 + pc_g b
    rw [show pc_S 0 0 = 0 from by decide]
    simp only [Nat.mul_zero, Nat.zero_add]
    rfl
  | succ n ih =>
    intro x hx
    have hx2 : x = 256 * (x / 256) + x % 256 := by omega
    have hq : x / 256 < 256 ^ n := by
      rw [Nat.pow_succ] at hx
      omega
    have hr : x % 256 < 256 := Nat.mod_lt _ (by decide)
    obtain ⟨i1, i2, i3⟩ := ih (x / 256) hq
    obtain ⟨d1, d2, d3, d4, d5, d6⟩ := pc_d3 (x % 256) hr
    have k1 := pc_s1 hr i1
    rw [← hx2] at k1
    have k2 : pc_2 (pc_1 x (n + 1)) (n + 1) = 256 * pc_2 (pc_1 (x / 256) n) n + pc_2 (pc_1 (x % 256) 1) 1 := by
      rw [k1.1, pc_s2 d1, d3]
    have k3 : pc_2 (pc_1 x (n + 1)) (n + 1) % 16 ≤ 4 := by
      rw [k2]
      omega
    refine ⟨k1.2, k3, fun b hb => ?_⟩
    obtain ⟨b1, b2, b3, b4, b5, b6⟩ := pc_d3 b hb
    have m1 := (pc_s1 hb k1.2).1
    have m2 : pc_2 (pc_1 (256 * x + b) (n + 1 + 1)) (n + 1 + 1) = 256 * pc_2 (pc_1 x (n + 1)) (n + 1) + pc_2 (pc_1 b 1) 1 := by
      rw [m1, pc_s2 b1, b3]
    unfold pc_S
    rw [m2, pc_s3 b4 b5 k3]
    rfl
end Pop
