/-! Long.bitCount: how many bits stand. -/
section WordBits
theorem wb_tb (n : Nat) : (lN n).toBitVec = BitVec.ofNat 64 n := rfl
theorem wb_inj {a b : Int64} (h : a.toBitVec = b.toBitVec) : a = b := Int64.toBitVec_inj.mp h
theorem wb_tn {n : Nat} (h : n < 2 ^ 64) : (lN n).toBitVec.toNat = n := by rw [wb_tb, BitVec.toNat_ofNat, Nat.mod_eq_of_lt h]
theorem wb_of (x : Int64) : ∃ n, n < 2 ^ 64 ∧ x = lN n := ⟨x.toBitVec.toNat, x.toBitVec.isLt, wb_inj (by rw [wb_tb]; simp)⟩
theorem wb_cu : ∀ k, k < 64 → ((nI k).toInt64.toUInt64 &&& Int64.toUInt64 63) = UInt64.ofNat k := by decide +kernel
theorem wb_shr {n k : Nat} (hn : n < 2 ^ 64) (hk : k < 64) : ((lN n).toUInt64 >>> ((nI k).toInt64.toUInt64 &&& Int64.toUInt64 63)).toInt64 = lN (n / 2 ^ k) := by
  rw [wb_cu k hk]
  apply wb_inj
  apply BitVec.eq_of_toNat_eq
  show ((lN n).toUInt64 >>> UInt64.ofNat k).toNat = (BitVec.ofNat 64 _).toNat
  have h1 : (UInt64.ofNat k).toNat = k := by
    show (BitVec.ofNat 64 k).toNat = k
    rw [BitVec.toNat_ofNat, Nat.mod_eq_of_lt (by omega)]
  have h2 : (lN n).toUInt64.toNat = n := wb_tn hn
  rw [UInt64.toNat_shiftRight, h1, h2, Nat.mod_eq_of_lt hk, Nat.shiftRight_eq_div_pow, BitVec.toNat_ofNat, Nat.mod_eq_of_lt (Nat.lt_of_le_of_lt (Nat.div_le_self _ _) hn)]
theorem wb_and {a b : Nat} (ha : a < 2 ^ 64) (hb : b < 2 ^ 64) : lN a &&& lN b = lN (a &&& b) := by
  apply wb_inj
  rw [Int64.toBitVec_and, wb_tb, wb_tb, wb_tb]
  apply BitVec.eq_of_toNat_eq
  rw [BitVec.toNat_and, BitVec.toNat_ofNat, BitVec.toNat_ofNat, BitVec.toNat_ofNat, Nat.mod_eq_of_lt ha, Nat.mod_eq_of_lt hb, Nat.mod_eq_of_lt (Nat.and_lt_two_pow _ hb)]
theorem bz_lN {n : Nat} (hn : n < 2 ^ 64) (p : Nat) : bz_t (lN n) p = n.testBit p := by
  unfold bz_t
  rw [← BitVec.testBit_toNat, wb_tn hn]
end WordBits
section Count
def ct_n (P : Nat → Bool) : Nat → Nat
  | 0 => 0
  | n + 1 => ct_n P n + (if P n = true then 1 else 0)
theorem ct_add (P : Nat → Bool) (a : Nat) : ∀ b, ct_n P (a + b) = ct_n P a + ct_n (fun i => P (a + i)) b := by
  intro b
  induction b with
  | zero => rfl
  | succ b ih =>
    show ct_n P (a + b) + (if P (a + b) = true then 1 else 0) = ct_n P a + (ct_n (fun i => P (a + i)) b + (if P (a + b) = true then 1 else 0))
    rw [ih]
    omega
theorem ct_ext {P R : Nat → Bool} {n : Nat} (h : ∀ i, i < n → P i = R i) : ct_n P n = ct_n R n := by
  induction n with
  | zero => rfl
  | succ n ih =>
    show ct_n P n + _ = ct_n R n + _
    rw [ih (fun i hi => h i (by omega)), h n (by omega)]
theorem bz_ct (x : Int64) (n : Nat) : bz_c x n = ct_n (bz_t x) n := by
  induction n with
  | zero => rfl
  | succ n ih =>
    show bz_c x n + _ = ct_n (bz_t x) n + _
    rw [ih]
theorem pc_gc : ∀ b, b < 256 → pc_g b = ct_n (fun i => b.testBit i) 8 := by decide +kernel
theorem ct_byte {a b k : Nat} (hb : b < 256) : ct_n (fun i => (256 * a + b).testBit i) (8 + k) = pc_g b + ct_n (fun i => a.testBit i) k := by
  have hb' : b < 2 ^ 8 := hb
  rw [ct_add, pc_gc b hb]
  congr 1
  · apply ct_ext
    intro i hi
    rw [show (256 : Nat) = 2 ^ 8 from rfl, Nat.testBit_two_pow_mul_add _ hb', if_pos hi]
  · apply ct_ext
    intro i _
    show (256 * a + b).testBit (8 + i) = _
    rw [show (256 : Nat) = 2 ^ 8 from rfl, Nat.testBit_two_pow_mul_add _ hb', if_neg (by omega), Nat.add_sub_cancel_left]
/-- n bytes of x: the number that the three steps make, and its bits -/
theorem pc_byte (n : Nat) {x : Nat} (h : x < 256 ^ (n + 1)) : ∃ a b, x = 256 * a + b ∧ b < 256 ∧ a < 256 ^ n ∧ pc_S x (n + 1) = 256 * pc_S a n + pc_g b ∧ ct_n (fun i => x.testBit i) (8 + 8 * n) = pc_g b + ct_n (fun i => a.testBit i) (8 * n) := by
  have hr : x % 256 < 256 := Nat.mod_lt _ (by decide)
  have hq : x / 256 < 256 ^ n := by
    rw [Nat.pow_succ] at h
    omega
  have e : 256 * (x / 256) + x % 256 = x := by omega
  refine ⟨x / 256, x % 256, by omega, hr, hq, ?_, ?_⟩
  · have := (pc_ind n (x / 256) hq).2.2 (x % 256) hr
    rw [e] at this
    exact this
  · have := ct_byte (a := x / 256) (k := 8 * n) hr
    rw [e] at this
    exact this
theorem pc_g8 {b : Nat} (h : b < 256) : pc_g b ≤ 8 := (pc_d3 b h).2.2.2.2.2
theorem pc_q {c X : Nat} (h : c < 256) : (c + 256 * X) / 256 = X := by omega
theorem pc_l {c X B : Nat} (hc : c ≤ 8) (hX : X < B) : c + 256 * X < 256 * B := by omega
theorem pc_y {a b x y : Nat} : (a + 256 * x) + (b + 256 * y) = (a + b) + 256 * (x + y) := by omega
theorem pc_2s {a b : Nat} (ha : a ≤ 8) (hb : b ≤ 8) : a + b < 256 := by omega
theorem pc_4 {a b c d : Nat} (ha : a ≤ 8) (hb : b ≤ 8) (hc : c ≤ 8) (hd : d ≤ 8) : a + b + (c + d) ≤ 32 := by omega
theorem pc_4s {a b c d : Nat} (ha : a ≤ 8) (hb : b ≤ 8) (hc : c ≤ 8) (hd : d ≤ 8) : a + b + (c + d) < 256 := by omega
theorem pc_z {a b u v : Nat} (ha : a ≤ 32) (hb : b ≤ 32) : ((a + 256 * u) + (b + 256 * v)) % 128 = a + b := by omega
theorem pc_ar {T c0 c1 c2 c3 c4 c5 c6 c7 : Nat} (g0 : c0 ≤ 8) (g1 : c1 ≤ 8) (g2 : c2 ≤ 8) (g3 : c3 ≤ 8) (g4 : c4 ≤ 8) (g5 : c5 ≤ 8) (g6 : c6 ≤ 8) (g7 : c7 ≤ 8) (t : T = c0 + 256 * (c1 + 256 * (c2 + 256 * (c3 + 256 * (c4 + 256 * (c5 + 256 * (c6 + 256 * c7))))))) : T < 2 ^ 60 ∧ (T + T / 256 + (T + T / 256) / 65536 + (T + T / 256 + (T + T / 256) / 65536) / 4294967296) % 128 = c0 + (c1 + (c2 + (c3 + (c4 + (c5 + (c6 + c7)))))) := by
  obtain ⟨x6, e6⟩ : ∃ z, z = c6 + 256 * c7 := ⟨_, rfl⟩
  obtain ⟨x5, e5⟩ : ∃ z, z = c5 + 256 * x6 := ⟨_, rfl⟩
  obtain ⟨x4, e4⟩ : ∃ z, z = c4 + 256 * x5 := ⟨_, rfl⟩
  obtain ⟨x3, e3⟩ : ∃ z, z = c3 + 256 * x4 := ⟨_, rfl⟩
  obtain ⟨x2, e2⟩ : ∃ z, z = c2 + 256 * x3 := ⟨_, rfl⟩
  obtain ⟨x1, e1⟩ : ∃ z, z = c1 + 256 * x2 := ⟨_, rfl⟩
  have e0 : T = c0 + 256 * x1 := by rw [t, e1, e2, e3, e4, e5, e6]
  clear t
  have l7 : c7 < 16 := Nat.lt_of_le_of_lt g7 (by decide)
  have l6 : x6 < 256 * 16 := e6 ▸ pc_l g6 l7
  have l5 : x5 < 256 * (256 * 16) := e5 ▸ pc_l g5 l6
  have l4 : x4 < 256 * (256 * (256 * 16)) := e4 ▸ pc_l g4 l5
  have l3 : x3 < 256 * (256 * (256 * (256 * 16))) := e3 ▸ pc_l g3 l4
  have l2 : x2 < 256 * (256 * (256 * (256 * (256 * 16)))) := e2 ▸ pc_l g2 l3
  have l1 : x1 < 256 * (256 * (256 * (256 * (256 * (256 * 16))))) := e1 ▸ pc_l g1 l2
  have l0 : T < 256 * (256 * (256 * (256 * (256 * (256 * (256 * 16)))))) := e0 ▸ pc_l g0 l1
  refine ⟨l0, ?_⟩
  have q1 : T / 256 = x1 := by rw [e0]; exact pc_q (Nat.lt_of_le_of_lt g0 (by decide))
  rw [q1]
  have y0 : T + x1 = (c0 + c1) + 256 * (x1 + x2) := by rw [← pc_y, ← e0, ← e1]
  have y1 : x1 + x2 = (c1 + c2) + 256 * (x2 + x3) := by rw [← pc_y, ← e1, ← e2]
  have y2 : x2 + x3 = (c2 + c3) + 256 * (x3 + x4) := by rw [← pc_y, ← e2, ← e3]
  have y3 : x3 + x4 = (c3 + c4) + 256 * (x4 + x5) := by rw [← pc_y, ← e3, ← e4]
  have y4 : x4 + x5 = (c4 + c5) + 256 * (x5 + x6) := by rw [← pc_y, ← e4, ← e5]
  have y5 : x5 + x6 = (c5 + c6) + 256 * (x6 + c7) := by rw [← pc_y, ← e5, ← e6]
  have y6 : x6 + c7 = (c6 + c7) + 256 * (c7 + 0) := by rw [← pc_y, ← e6, Nat.mul_zero, Nat.add_zero]
  have q2 : (T + x1) / 65536 = x2 + x3 := by
    rw [show (65536 : Nat) = 256 * 256 from rfl, ← Nat.div_div_eq_div_mul, y0, pc_q (pc_2s g0 g1), y1, pc_q (pc_2s g1 g2)]
  rw [q2]
  have z0 : T + x1 + (x2 + x3) = (c0 + c1 + (c2 + c3)) + 256 * ((x1 + x2) + (x3 + x4)) := by rw [← pc_y, ← y0, ← y2]
  have z1 : (x1 + x2) + (x3 + x4) = (c1 + c2 + (c3 + c4)) + 256 * ((x2 + x3) + (x4 + x5)) := by rw [← pc_y, ← y1, ← y3]
  have z2 : (x2 + x3) + (x4 + x5) = (c2 + c3 + (c4 + c5)) + 256 * ((x3 + x4) + (x5 + x6)) := by rw [← pc_y, ← y2, ← y4]
  have z3 : (x3 + x4) + (x5 + x6) = (c3 + c4 + (c5 + c6)) + 256 * ((x4 + x5) + (x6 + c7)) := by rw [← pc_y, ← y3, ← y5]
  have z4 : (x4 + x5) + (x6 + c7) = (c4 + c5 + (c6 + c7)) + 256 * ((x5 + x6) + (c7 + 0)) := by rw [← pc_y, ← y4, ← y6]
  have q3 : (T + x1 + (x2 + x3)) / 4294967296 = (x4 + x5) + (x6 + c7) := by
    rw [show (4294967296 : Nat) = 256 * 256 * 256 * 256 from rfl, ← Nat.div_div_eq_div_mul, ← Nat.div_div_eq_div_mul, ← Nat.div_div_eq_div_mul, z0, pc_q (pc_4s g0 g1 g2 g3), z1, pc_q (pc_4s g1 g2 g3 g4), z2, pc_q (pc_4s g2 g3 g4 g5), z3, pc_q (pc_4s g3 g4 g5 g6)]
  rw [q3, z0, z4, pc_z (pc_4 g0 g1 g2 g3) (pc_4 g4 g5 g6 g7)]
  simp only [Nat.add_assoc]
theorem pc_fold {x : Nat} (h : x < 256 ^ 8) : pc_S x 8 < 2 ^ 60 ∧ (pc_S x 8 + pc_S x 8 / 256 + (pc_S x 8 + pc_S x 8 / 256) / 65536 + (pc_S x 8 + pc_S x 8 / 256 + (pc_S x 8 + pc_S x 8 / 256) / 65536) / 4294967296) % 128 = ct_n (fun i => x.testBit i) 64 := by
  obtain ⟨a0, b0, -, l0, h0, s0, c0⟩ := pc_byte 7 h
  obtain ⟨a1, b1, -, l1, h1, s1, c1⟩ := pc_byte 6 h0
  obtain ⟨a2, b2, -, l2, h2, s2, c2⟩ := pc_byte 5 h1
  obtain ⟨a3, b3, -, l3, h3, s3, c3⟩ := pc_byte 4 h2
  obtain ⟨a4, b4, -, l4, h4, s4, c4⟩ := pc_byte 3 h3
  obtain ⟨a5, b5, -, l5, h5, s5, c5⟩ := pc_byte 2 h4
  obtain ⟨a6, b6, -, l6, h6, s6, c6⟩ := pc_byte 1 h5
  obtain ⟨a7, b7, -, l7, h7, s7, c7⟩ := pc_byte 0 h6
  have z7 : a7 = 0 := by
    rw [Nat.pow_zero] at h7
    omega
  subst z7
  rw [show pc_S 0 0 = 0 from by decide] at s7
  have d7 : ct_n (fun i => (0 : Nat).testBit i) (8 * 0) = 0 := rfl
  rw [d7] at c7
  have g0 := pc_g8 l0
  have g1 := pc_g8 l1
  have g2 := pc_g8 l2
  have g3 := pc_g8 l3
  have g4 := pc_g8 l4
  have g5 := pc_g8 l5
  have g6 := pc_g8 l6
  have g7 := pc_g8 l7
  have hc : ct_n (fun i => x.testBit i) 64 = pc_g b0 + (pc_g b1 + (pc_g b2 + (pc_g b3 + (pc_g b4 + (pc_g b5 + (pc_g b6 + pc_g b7)))))) := by
    have e0 : ct_n (fun i => x.testBit i) 64 = pc_g b0 + ct_n (fun i => a0.testBit i) 56 := c0
    have e1 : ct_n (fun i => a0.testBit i) 56 = pc_g b1 + ct_n (fun i => a1.testBit i) 48 := c1
    have e2 : ct_n (fun i => a1.testBit i) 48 = pc_g b2 + ct_n (fun i => a2.testBit i) 40 := c2
    have e3 : ct_n (fun i => a2.testBit i) 40 = pc_g b3 + ct_n (fun i => a3.testBit i) 32 := c3
    have e4 : ct_n (fun i => a3.testBit i) 32 = pc_g b4 + ct_n (fun i => a4.testBit i) 24 := c4
    have e5 : ct_n (fun i => a4.testBit i) 24 = pc_g b5 + ct_n (fun i => a5.testBit i) 16 := c5
    have e6 : ct_n (fun i => a5.testBit i) 16 = pc_g b6 + ct_n (fun i => a6.testBit i) 8 := c6
    have e7 : ct_n (fun i => a6.testBit i) 8 = pc_g b7 + 0 := c7
    omega
  have t : pc_S x 8 = pc_g b0 + 256 * (pc_g b1 + 256 * (pc_g b2 + 256 * (pc_g b3 + 256 * (pc_g b4 + 256 * (pc_g b5 + 256 * (pc_g b6 + 256 * pc_g b7)))))) := by
    rw [show pc_S x 8 = 256 * pc_S a0 7 + pc_g b0 from s0, show pc_S a0 7 = 256 * pc_S a1 6 + pc_g b1 from s1, show pc_S a1 6 = 256 * pc_S a2 5 + pc_g b2 from s2, show pc_S a2 5 = 256 * pc_S a3 4 + pc_g b3 from s3, show pc_S a3 4 = 256 * pc_S a4 3 + pc_g b4 from s4, show pc_S a4 3 = 256 * pc_S a5 2 + pc_g b5 from s5, show pc_S a5 2 = 256 * pc_S a6 1 + pc_g b6 from s6, show pc_S a6 1 = 256 * 0 + pc_g b7 from s7]
    simp only [Nat.mul_zero, Nat.zero_add, Nat.add_comm]
  rw [hc]
  exact pc_ar g0 g1 g2 g3 g4 g5 g6 g7 t
theorem pc_main {x x1 x2 x3 x4 x5 x6 : Int64} (e1 : x1 = x - ((x.toUInt64 >>> ((nI 1).toInt64.toUInt64 &&& Int64.toUInt64 63)).toInt64 &&& 6148914691236517205)) (e2 : x2 = (x1 &&& 3689348814741910323) + ((x1.toUInt64 >>> ((nI 2).toInt64.toUInt64 &&& Int64.toUInt64 63)).toInt64 &&& 3689348814741910323)) (e3 : x3 = (x2 + (x2.toUInt64 >>> ((nI 4).toInt64.toUInt64 &&& Int64.toUInt64 63)).toInt64) &&& 1085102592571150095) (e4 : x4 = x3 + (x3.toUInt64 >>> ((nI 8).toInt64.toUInt64 &&& Int64.toUInt64 63)).toInt64) (e5 : x5 = x4 + (x4.toUInt64 >>> ((nI 16).toInt64.toUInt64 &&& Int64.toUInt64 63)).toInt64) (e6 : x6 = x5 + (x5.toUInt64 >>> ((nI 32).toInt64.toUInt64 &&& Int64.toUInt64 63)).toInt64) : x6.toInt32 &&& nI 127 = nI (bz_c x 64) := by
  obtain ⟨n, hn, rfl⟩ := wb_of x
  have hn8 : n < 256 ^ 8 := hn
  have m1 : (6148914691236517205 : Int64) = lN (pc_m 85 8) := by decide +kernel
  have m2 : (3689348814741910323 : Int64) = lN (pc_m 51 8) := by decide +kernel
  have m3 : (1085102592571150095 : Int64) = lN (pc_m 15 8) := by decide +kernel
  have l1 : pc_m 85 8 < 2 ^ 64 := by decide +kernel
  have l2 : pc_m 51 8 < 2 ^ 62 := by decide +kernel
  have l3 : pc_m 15 8 < 2 ^ 60 := by decide +kernel
  have k1 : ((n / 2) &&& pc_m 85 8) ≤ n := by
    have h1 : ((n / 2) &&& pc_m 85 8) ≤ n / 2 := Nat.and_le_left
    omega
  have f1 : x1 = lN (pc_1 n 8) := by
    rw [e1, wb_shr hn (by decide), m1, wb_and (by omega) l1, lN_sub (by simpa using k1)]
    rfl
  have b1 : pc_1 n 8 < 2 ^ 64 := by
    unfold pc_1
    omega
  have f2 : x2 = lN (pc_2 (pc_1 n 8) 8) := by
    rw [e2, f1, wb_shr b1 (by decide), m2, wb_and b1 (by omega), wb_and (by omega) (by omega), lN_add]
    rfl
  have b2 : pc_2 (pc_1 n 8) 8 < 2 ^ 63 := by
    unfold pc_2
    have h1 : (pc_1 n 8 &&& pc_m 51 8) ≤ pc_m 51 8 := Nat.and_le_right
    have h2 : (pc_1 n 8 / 4 &&& pc_m 51 8) ≤ pc_m 51 8 := Nat.and_le_right
    omega
  have f3 : x3 = lN (pc_S n 8) := by
    rw [e3, f2, wb_shr (by omega) (by decide), lN_add, m3, wb_and (by omega) (by omega)]
    rfl
  obtain ⟨b3, hf⟩ := pc_fold hn8
  have f4 : x4 = lN (pc_S n 8 + pc_S n 8 / 256) := by
    rw [e4, f3, wb_shr (by omega) (by decide), lN_add]
  have f5 : x5 = lN (pc_S n 8 + pc_S n 8 / 256 + (pc_S n 8 + pc_S n 8 / 256) / 65536) := by
    rw [e5, f4, wb_shr (by omega) (by decide), lN_add]
  have f6 : x6 = lN (pc_S n 8 + pc_S n 8 / 256 + (pc_S n 8 + pc_S n 8 / 256) / 65536 + (pc_S n 8 + pc_S n 8 / 256 + (pc_S n 8 + pc_S n 8 / 256) / 65536) / 4294967296) := by
    rw [e6, f5, wb_shr (by omega) (by decide), lN_add]
  have hc : bz_c (lN n) 64 = ct_n (fun i => n.testBit i) 64 := by
    rw [bz_ct]
    exact ct_ext (fun i _ => bz_lN hn i)
  rw [hc, ← hf, f6, lN_i]
  generalize pc_S n 8 + pc_S n 8 / 256 + (pc_S n 8 + pc_S n 8 / 256) / 65536 + (pc_S n 8 + pc_S n 8 / 256 + (pc_S n 8 + pc_S n 8 / 256) / 65536) / 4294967296 = U
  rw [pk_and (nI U) (m := nI 127) 7 (by decide)]
  have ht : (nI U).toBitVec.toNat = U % 2 ^ 32 := by
    show (BitVec.ofNat 32 U).toNat = _
    rw [BitVec.toNat_ofNat]
  rw [ht]
  congr 1
  omega
end Count
