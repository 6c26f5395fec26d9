-- ===== how many bits a long has =====
def lI (N : Nat) : Int64 := Int64.ofNat N
theorem lI_bv (N : Nat) : (lI N).toBitVec = BitVec.ofNat 64 N := rfl
theorem lI_and (a b : Nat) : lI a &&& lI b = lI (a &&& b) := by
  apply Int64.toBitVec_inj.mp
  rw [Int64.toBitVec_and, lI_bv, lI_bv, lI_bv]
  apply BitVec.eq_of_toNat_eq
  simp [BitVec.toNat_and, Nat.and_mod_two_pow]
theorem lI_or (a b : Nat) : lI a ||| lI b = lI (a ||| b) := by
  apply Int64.toBitVec_inj.mp
  rw [Int64.toBitVec_or, lI_bv, lI_bv, lI_bv]
  apply BitVec.eq_of_toNat_eq
  simp [BitVec.toNat_or, Nat.or_mod_two_pow]
theorem lI_add (a b : Nat) : lI a + lI b = lI (a + b) := by
  apply Int64.toBitVec_inj.mp
  rw [Int64.toBitVec_add, lI_bv, lI_bv, lI_bv]
  apply BitVec.eq_of_toNat_eq
  simp [BitVec.toNat_add]
theorem lI_sub {a b : Nat} (h : b ≤ a) : lI a - lI b = lI (a - b) := by
  have e : lI (a - b) + lI b = lI a := by rw [lI_add, Nat.sub_add_cancel h]
  apply Int64.toBitVec_inj.mp
  have e2 := congrArg Int64.toBitVec e
  rw [Int64.toBitVec_add] at e2
  rw [Int64.toBitVec_sub, ← e2, BitVec.add_sub_cancel]
theorem lI_shr {N k : Nat} {s : UInt64} (hN : N < 2 ^ 64) (hs : s.toNat = k) (hk : k < 64) : ((lI N).toUInt64 >>> s).toInt64 = lI (N / 2 ^ k) := by
  apply Int64.toBitVec_inj.mp
  apply BitVec.eq_of_toNat_eq
  show ((lI N).toUInt64 >>> s).toNat = (BitVec.ofNat 64 (N / 2 ^ k)).toNat
  rw [UInt64.toNat_shiftRight, hs, Nat.mod_eq_of_lt hk, Nat.shiftRight_eq_div_pow, BitVec.toNat_ofNat]
  show (BitVec.ofNat 64 N).toNat / 2 ^ k = _
  rw [BitVec.toNat_ofNat, Nat.mod_eq_of_lt hN, Nat.mod_eq_of_lt (Nat.lt_of_le_of_lt (Nat.div_le_self _ _) hN)]
theorem and_b {a m : Nat} (ha : a < 256) (hm : m < 256) (A M : Nat) : (256 * A + a) &&& (256 * M + m) = 256 * (A &&& M) + (a &&& m) := by
  show (2 ^ 8 * A + a) &&& (2 ^ 8 * M + m) = 2 ^ 8 * (A &&& M) + (a &&& m)
  apply Nat.eq_of_testBit_eq
  intro k
  rw [Nat.testBit_and, Nat.testBit_two_pow_mul_add A ha, Nat.testBit_two_pow_mul_add M hm, Nat.testBit_two_pow_mul_add _ (Nat.and_lt_two_pow a (n := 8) hm)]
  by_cases h : k < 8
  · rw [if_pos h, if_pos h, if_pos h, Nat.testBit_and]
  · rw [if_neg h, if_neg h, if_neg h, Nat.testBit_and]
def rep (c : Nat) : Nat → Nat
  | 0 => 0
  | k + 1 => 256 * rep c k + c
def p1 (a : Nat) : Nat := a - (a / 2 &&& 85)
def p2 (a : Nat) : Nat := (a &&& 51) + (a / 4 &&& 51)
def p3 (a : Nat) : Nat := (a + a / 16) &&& 15
def G1 (k x : Nat) : Nat := x - (x / 2 &&& rep 85 k)
def G2 (k x : Nat) : Nat := (x &&& rep 51 k) + (x / 4 &&& rep 51 k)
def G3 (k x : Nat) : Nat := (x + x / 16) &&& rep 15 k
theorem b1_all : (List.range 256).all (fun a => (List.range 2).all fun r => decide (128 * r + a / 2 &&& 85 = a / 2 &&& 85)) = true := by decide +kernel
theorem b2_all : (List.range 256).all (fun a => (List.range 4).all fun r => decide (64 * r + a / 4 &&& 51 = a / 4 &&& 51)) = true := by decide +kernel
theorem b3_all : (List.range 69).all (fun a => (List.range 5).all fun r => decide (a + a / 16 + 16 * r &&& 15 = (a + a / 16) &&& 15)) = true := by decide +kernel
theorem b4_all : (List.range 256).all (fun a => decide (p3 (p2 (p1 a)) = qc (fun k => a.testBit k) 8 ∧ p1 a < 256 ∧ p2 (p1 a) ≤ 68 ∧ p2 (p1 a) % 16 ≤ 4)) = true := by decide +kernel
theorem b1_is {a r : Nat} (ha : a < 256) (hr : r < 2) : 128 * r + a / 2 &&& 85 = a / 2 &&& 85 := by
  have := List.all_eq_true.mp (List.all_eq_true.mp b1_all a (List.mem_range.mpr ha)) r (List.mem_range.mpr hr)
  simpa using this
theorem b2_is {a r : Nat} (ha : a < 256) (hr : r < 4) : 64 * r + a / 4 &&& 51 = a / 4 &&& 51 := by
  have := List.all_eq_true.mp (List.all_eq_true.mp b2_all a (List.mem_range.mpr ha)) r (List.mem_range.mpr hr)
  simpa using this
theorem b3_is {a r : Nat} (ha : a < 69) (hr : r < 5) : a + a / 16 + 16 * r &&& 15 = (a + a / 16) &&& 15 := by
  have := List.all_eq_true.mp (List.all_eq_true.mp b3_all a (List.mem_range.mpr ha)) r (List.mem_range.mpr hr)
  exact of_decide_eq_true this
theorem b4_is {a : Nat} (ha : a < 256) : p3 (p2 (p1 a)) = qc (fun k => a.testBit k) 8 ∧ p1 a < 256 ∧ p2 (p1 a) ≤ 68 ∧ p2 (p1 a) % 16 ≤ 4 := of_decide_eq_true (List.all_eq_true.mp b4_all a (List.mem_range.mpr ha))
theorem G1_s {a A k : Nat} (ha : a < 256) : G1 (k + 1) (256 * A + a) = 256 * G1 k A + p1 a := by
  unfold G1 p1
  have e : (256 * A + a) / 2 = 256 * (A / 2) + (128 * (A % 2) + a / 2) := by omega
  have t1 : A / 2 &&& rep 85 k ≤ A / 2 := Nat.and_le_left
  have t2 : a / 2 &&& 85 ≤ a / 2 := Nat.and_le_left
  rw [e, rep, and_b (by omega) (by omega), b1_is ha (by omega)]
  omega
theorem G2_s {a A k : Nat} (ha : a < 256) : G2 (k + 1) (256 * A + a) = 256 * G2 k A + p2 a := by
  unfold G2 p2
  have e : (256 * A + a) / 4 = 256 * (A / 4) + (64 * (A % 4) + a / 4) := by omega
  rw [e, rep, and_b ha (by omega), and_b (by omega) (by omega), b2_is ha (by omega)]
  omega
theorem G3_s {a A k : Nat} (ha : a ≤ 68) (hA : A % 16 ≤ 4) : G3 (k + 1) (256 * A + a) = 256 * G3 k A + p3 a := by
  unfold G3 p3
  have e : 256 * A + a + (256 * A + a) / 16 = 256 * (A + A / 16) + (a + a / 16 + 16 * (A % 16)) := by omega
  rw [e, rep, and_b (by omega) (by omega), b3_is (by omega) (by omega)]
/-- a number by its bytes -/
def bV (b : Nat → Nat) : Nat → Nat → Nat
  | _, 0 => 0
  | i, k + 1 => 256 * bV b (i + 1) k + b i
theorem bV_1 {b : Nat → Nat} (h : ∀ i, b i < 256) : ∀ k i, G1 k (bV b i k) = bV (fun j => p1 (b j)) i k := by
  intro k
  induction k with
  | zero => intro i; rw [bV, bV]; decide
  | succ k ih => intro i; rw [bV, G1_s (h i), ih, bV]
theorem bV_2 {b : Nat → Nat} (h : ∀ i, b i < 256) : ∀ k i, G2 k (bV b i k) = bV (fun j => p2 (b j)) i k := by
  intro k
  induction k with
  | zero => intro i; rw [bV, bV]; decide
  | succ k ih => intro i; rw [bV, G2_s (h i), ih, bV]
theorem bV_3 {b : Nat → Nat} (h : ∀ i, b i ≤ 68 ∧ b i % 16 ≤ 4) : ∀ k i, G3 k (bV b i k) = bV (fun j => p3 (b j)) i k := by
  intro k
  induction k with
  | zero => intro i; rw [bV, bV]; decide
  | succ k ih =>
    intro i
    rw [bV, G3_s (h i).1, ih, bV]
    cases k with
    | zero => exact Nat.zero_le _
    | succ k => rw [bV]; have := (h (i + 1)).2; omega
theorem bV_is (N : Nat) : ∀ k i, bV (fun j => N / 256 ^ j % 256) i k = N / 256 ^ i % 256 ^ k := by
  intro k
  induction k with
  | zero => intro i; rw [bV, Nat.pow_zero, Nat.mod_one]
  | succ k ih =>
    intro i
    rw [bV, ih (i + 1), Nat.pow_succ 256 k, Nat.mul_comm (256 ^ k) 256, Nat.mod_mul, Nat.pow_succ 256 i, Nat.div_div_eq_div_mul, Nat.add_comm]
theorem qc_add (P : Nat → Bool) (m : Nat) : ∀ k, qc P (m + k) = qc P m + qc (fun i => P (m + i)) k := by
  intro k
  induction k with
  | zero => rfl
  | succ k ih => rw [← Nat.add_assoc, qc_s, ih, qc_s, Nat.add_assoc]
theorem qc_byte (N j : Nat) : qc (fun k => (N / 256 ^ j % 256).testBit k) 8 = qc (fun k => N.testBit (8 * j + k)) 8 := by
  refine qc_cong fun k hk => ?_
  rw [show (256 : Nat) ^ j = 2 ^ (8 * j) by rw [show (256 : Nat) = 2 ^ 8 by decide, ← Nat.pow_mul], show (256 : Nat) = 2 ^ 8 by decide, Nat.testBit_mod_two_pow, decide_eq_true hk, Bool.true_and, Nat.testBit_div_two_pow, Nat.add_comm]
theorem dv2 {a b c d e : Nat} (h1 : a = 256 * b + d) (h2 : b = 256 * c + e) (hd : d < 256) (he : e < 256) : a / 65536 = c := by omega
theorem dv4 {a b c d e e0 e1 e2 e3 : Nat} (h1 : a = 256 * b + e0) (h2 : b = 256 * c + e1) (h3 : c = 256 * d + e2) (h4 : d = 256 * e + e3) (g0 : e0 < 256) (g1 : e1 < 256) (g2 : e2 < 256) (g3 : e3 < 256) : a / 4294967296 = e := by
  have a1 : a / 65536 = c := dv2 h1 h2 g0 g1
  have a2 : c / 65536 = e := dv2 h3 h4 g2 g3
  rw [← a2, ← a1, Nat.div_div_eq_div_mul]
theorem nx {p q r s x y : Nat} (h1 : p = 256 * q + x) (h2 : r = 256 * s + y) : p + r = 256 * (q + s) + (x + y) := by omega
theorem sum8 {X : Nat → Nat} {c : Nat → Nat} (h8 : ∀ i, 8 ≤ i → X i = 0 ∧ c i = 0) (hX : ∀ i, X i = 256 * X (i + 1) + c i) (hc : ∀ i, c i ≤ 8) : ((X 0 + X 0 / 256) + (X 0 + X 0 / 256) / 65536 + ((X 0 + X 0 / 256) + (X 0 + X 0 / 256) / 65536) / 4294967296) % 128 = c 0 + c 1 + c 2 + c 3 + c 4 + c 5 + c 6 + c 7 := by
  have hY : ∀ i, X i + X (i + 1) = 256 * (X (i + 1) + X (i + 2)) + (c i + c (i + 1)) := fun i => nx (hX i) (hX (i + 1))
  have hZ : ∀ i, (X i + X (i + 1)) + (X (i + 2) + X (i + 3)) = 256 * ((X (i + 1) + X (i + 2)) + (X (i + 3) + X (i + 4))) + ((c i + c (i + 1)) + (c (i + 2) + c (i + 3))) := fun i => nx (hY i) (hY (i + 2))
  have d1 : ∀ i, c i + c (i + 1) < 256 := fun i => by have := hc i; have := hc (i + 1); omega
  have d2 : ∀ i, (c i + c (i + 1)) + (c (i + 2) + c (i + 3)) < 256 := fun i => by have := hc i; have := hc (i + 1); have := hc (i + 2); have := hc (i + 3); omega
  have e1 : X 0 / 256 = X 1 := by
    have h0 : X 0 = 256 * X 1 + c 0 := hX 0
    have := hc 0
    omega
  have e2 : (X 0 + X 1) / 65536 = X 2 + X 3 := dv2 (hY 0) (hY 1) (d1 0) (d1 1)
  have e3 : ((X 0 + X 1) + (X 2 + X 3)) / 4294967296 = (X 4 + X 5) + (X 6 + X 7) := dv4 (hZ 0) (hZ 1) (hZ 2) (hZ 3) (d2 0) (d2 1) (d2 2) (d2 3)
  rw [e1, e2, e3]
  have z0 := hZ 0
  have z4 := hZ 4
  have q0 := d2 0
  have q4 := d2 4
  have k0 := hc 0
  have k1 := hc 1
  have k2 := hc 2
  have k3 := hc 3
  have k4 := hc 4
  have k5 := hc 5
  have k6 := hc 6
  have k7 := hc 7
  simp only [Nat.zero_add, Nat.reduceAdd] at z0 z4
  rw [z0, z4]
  generalize X 1 + X 2 + (X 3 + X 4) = P
  generalize X 5 + X 6 + (X 7 + X 8) = Q
  omega
theorem bV_lt {b : Nat → Nat} (h : ∀ i, b i < 256) : ∀ k i, bV b i k < 256 ^ k := by
  intro k
  induction k with
  | zero => intro i; exact Nat.zero_lt_one
  | succ k ih => intro i; rw [bV, Nat.pow_succ]; have := ih (i + 1); have := h i; omega
theorem bV_31 {b : Nat → Nat} (h : ∀ i, b i ≤ 8) : ∀ k i, 31 * bV b i k + 1 ≤ 256 ^ k := by
  intro k
  induction k with
  | zero => intro i; exact Nat.le_refl _
  | succ k ih => intro i; rw [bV, Nat.pow_succ]; have := ih (i + 1); have := h i; omega
theorem r55 : rep 85 8 = 6148914691236517205 := by decide
theorem r33 : rep 51 8 = 3689348814741910323 := by decide
theorem r0f : rep 15 8 = 1085102592571150095 := by decide
theorem p256 : (256 : Nat) ^ 8 = 2 ^ 64 := by decide
theorem pop64 {n : Nat} {σ : sp_St} {N : Nat} (hN : N < 2 ^ 64) : J13_bitCount_95d88 n σ (lI N) = some (σ, nI (qc (fun k => N.testBit k) 64)) := by
  have hb : ∀ j, N / 256 ^ j % 256 < 256 := fun j => Nat.mod_lt _ (by decide)
  have v0 : bV (fun j => N / 256 ^ j % 256) 0 8 = N := by
    rw [bV_is, Nat.pow_zero, Nat.div_one, p256, Nat.mod_eq_of_lt hN]
  have g1 : G1 8 N = bV (fun j => p1 (N / 256 ^ j % 256)) 0 8 := by
    have := bV_1 hb 8 0
    rw [v0] at this; exact this
  have h1 : ∀ j, p1 (N / 256 ^ j % 256) < 256 := fun j => (b4_is (hb j)).2.1
  have g2 : G2 8 (G1 8 N) = bV (fun j => p2 (p1 (N / 256 ^ j % 256))) 0 8 := by rw [g1]; exact bV_2 h1 8 0
  have h2 : ∀ j, p2 (p1 (N / 256 ^ j % 256)) ≤ 68 ∧ p2 (p1 (N / 256 ^ j % 256)) % 16 ≤ 4 := fun j => (b4_is (hb j)).2.2
  have g3 : G3 8 (G2 8 (G1 8 N)) = bV (fun j => p3 (p2 (p1 (N / 256 ^ j % 256)))) 0 8 := by rw [g2]; exact bV_3 h2 8 0
  have l1 : G1 8 N < 2 ^ 64 := by rw [g1, ← p256]; exact bV_lt h1 8 0
  have l2 : G2 8 (G1 8 N) < 2 ^ 64 := by rw [g2, ← p256]; exact bV_lt (fun j => Nat.lt_of_le_of_lt (h2 j).1 (by decide)) 8 0
  have hc : ∀ j, p3 (p2 (p1 (N / 256 ^ j % 256))) ≤ 8 := fun j => by rw [(b4_is (hb j)).1]; exact qc_le _ _
  have l3 : 31 * G3 8 (G2 8 (G1 8 N)) + 1 ≤ 2 ^ 64 := by rw [g3, ← p256]; exact bV_31 hc 8 0
  have s8 := sum8 (X := fun i => bV (fun j => p3 (p2 (p1 (N / 256 ^ j % 256)))) i (8 - i)) (c := fun j => p3 (p2 (p1 (N / 256 ^ j % 256)))) (fun i hi => by
    refine ⟨by rw [show 8 - i = 0 by omega]; rfl, ?_⟩
    have : N / 256 ^ i = 0 := Nat.div_eq_of_lt (Nat.lt_of_lt_of_le hN (by rw [← p256]; exact Nat.pow_le_pow_right (by decide) hi))
    rw [this]; decide) (fun i => by
    by_cases hi : i < 8
    · show bV _ i (8 - i) = 256 * bV _ (i + 1) (8 - (i + 1)) + _
      rw [show 8 - i = (8 - (i + 1)) + 1 by omega, bV]
    · show bV _ i (8 - i) = 256 * bV _ (i + 1) (8 - (i + 1)) + _
      rw [show 8 - i = 0 by omega, show 8 - (i + 1) = 0 by omega, bV, bV]
      have : N / 256 ^ i = 0 := Nat.div_eq_of_lt (Nat.lt_of_lt_of_le hN (by rw [← p256]; exact Nat.pow_le_pow_right (by decide) (by omega)))
      rw [this]; decide) hc
  have x0 : bV (fun j => p3 (p2 (p1 (N / 256 ^ j % 256)))) 0 (8 - 0) = G3 8 (G2 8 (G1 8 N)) := g3.symm
  simp only [x0] at s8
  have eq : qc (fun k => N.testBit k) 64 = p3 (p2 (p1 (N / 256 ^ 0 % 256))) + p3 (p2 (p1 (N / 256 ^ 1 % 256))) + p3 (p2 (p1 (N / 256 ^ 2 % 256))) + p3 (p2 (p1 (N / 256 ^ 3 % 256))) + p3 (p2 (p1 (N / 256 ^ 4 % 256))) + p3 (p2 (p1 (N / 256 ^ 5 % 256))) + p3 (p2 (p1 (N / 256 ^ 6 % 256))) + p3 (p2 (p1 (N / 256 ^ 7 % 256))) := by
    rw [(b4_is (hb 0)).1, (b4_is (hb 1)).1, (b4_is (hb 2)).1, (b4_is (hb 3)).1, (b4_is (hb 4)).1, (b4_is (hb 5)).1, (b4_is (hb 6)).1, (b4_is (hb 7)).1, qc_byte, qc_byte, qc_byte, qc_byte, qc_byte, qc_byte, qc_byte, qc_byte]
    rw [show (64 : Nat) = 8 * 7 + 8 by decide, qc_add, show (8 * 7 : Nat) = 8 * 6 + 8 by decide, qc_add, show (8 * 6 : Nat) = 8 * 5 + 8 by decide, qc_add, show (8 * 5 : Nat) = 8 * 4 + 8 by decide, qc_add, show (8 * 4 : Nat) = 8 * 3 + 8 by decide, qc_add, show (8 * 3 : Nat) = 8 * 2 + 8 by decide, qc_add, show (8 * 2 : Nat) = 8 * 1 + 8 by decide, qc_add, show (8 * 1 : Nat) = 8 * 0 + 8 by decide, qc_add]
    have : qc (fun k => N.testBit k) (8 * 0) = 0 := rfl
    rw [this, Nat.zero_add]
  rw [← eq] at s8
  have a1 : N / 2 ^ 1 &&& rep 85 8 ≤ N := Nat.le_trans Nat.and_le_left (Nat.div_le_self _ _)
  rw [J13_bitCount_95d88, lI_shr (k := 1) hN (by decide) (by decide), show (6148914691236517205 : Int64) = lI 6148914691236517205 from rfl, ← r55, lI_and, lI_sub a1, show N - (N / 2 ^ 1 &&& rep 85 8) = G1 8 N from rfl, sp_pl]
  rw [lI_shr (k := 2) l1 (by decide) (by decide), show (3689348814741910323 : Int64) = lI 3689348814741910323 from rfl, ← r33, lI_and, lI_and, lI_add, show (G1 8 N &&& rep 51 8) + (G1 8 N / 2 ^ 2 &&& rep 51 8) = G2 8 (G1 8 N) from rfl, sp_pl]
  rw [lI_shr (k := 4) l2 (by decide) (by decide), show (1085102592571150095 : Int64) = lI 1085102592571150095 from rfl, ← r0f, lI_add, lI_and, show (G2 8 (G1 8 N) + G2 8 (G1 8 N) / 2 ^ 4) &&& rep 15 8 = G3 8 (G2 8 (G1 8 N)) from rfl, sp_pl]
  generalize G3 8 (G2 8 (G1 8 N)) = x at *
  rw [lI_shr (k := 8) (by omega) (by decide) (by decide), lI_add, show (2 : Nat) ^ 8 = 256 by decide, sp_pl]
  have ly : x + x / 256 ≤ 2 * x := by omega
  generalize x + x / 256 = y at *
  rw [lI_shr (k := 16) (by omega) (by decide) (by decide), lI_add, show (2 : Nat) ^ 16 = 65536 by decide, sp_pl]
  have lz : y + y / 65536 ≤ 2 * y := by omega
  generalize y + y / 65536 = z at *
  rw [lI_shr (k := 32) (by omega) (by decide) (by decide), lI_add, show (2 : Nat) ^ 32 = 4294967296 by decide, sp_pl]
  generalize z + z / 4294967296 = w at *
  rw [show (lI w).toInt32 = nI w from Int64.toInt32_ofNat', show (127 : Int32) = nI 127 from rfl, qn_and, show w &&& 127 = w % 128 from Nat.and_two_pow_sub_one_eq_mod w 7, s8]
