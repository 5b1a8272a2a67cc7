/-! bits of Int32 (rows of the kit's BITS family first), sets of bones, bitCount -/
def bt (x : Int32) (i : Nat) : Bool := x.toBitVec.getLsbD i
theorem b_ext {x y : Int32} (h : ∀ i, i < 32 → bt x i = bt y i) : x = y := Int32.toBitVec_inj.mp (BitVec.eq_of_getLsbD_eq (fun i hi => h i hi))
theorem b_or (x y : Int32) (i : Nat) : bt (x ||| y) i = (bt x i || bt y i) := by unfold bt; rw [Int32.toBitVec_or, BitVec.getLsbD_or]
theorem b_and (x y : Int32) (i : Nat) : bt (x &&& y) i = (bt x i && bt y i) := by unfold bt; rw [Int32.toBitVec_and, BitVec.getLsbD_and]
theorem b_xor (x y : Int32) (i : Nat) : bt (x ^^^ y) i = (bt x i ^^ bt y i) := by unfold bt; rw [Int32.toBitVec_xor, BitVec.getLsbD_xor]
theorem b_big {x : Int32} {i : Nat} (h : 32 ≤ i) : bt x i = false := BitVec.getLsbD_of_ge _ _ h
theorem b_m1 : ∀ i, i < 32 → bt (-1) i = true := by decide +kernel
theorem b_0 (i : Nat) : bt 0 i = false := BitVec.getLsbD_zero
theorem s_l : ∀ n, n < 32 → ((nI n &&& 31).toBitVec.smod 32).toNat = n := by decide +kernel
theorem s_u : ∀ n, n < 32 → (((nI n).toUInt32 &&& Int32.toUInt32 31).toBitVec % 32).toNat = n := by decide +kernel
theorem b_shl (n : Nat) (hn : n < 32) (x : Int32) {i : Nat} (hi : i < 32) : bt (x <<< (nI n &&& 31)) i = (decide (n ≤ i) && bt x (i - n)) := by
  unfold bt
  rw [Int32.toBitVec_shiftLeft]
  show (x.toBitVec <<< ((nI n &&& 31).toBitVec.smod 32).toNat).getLsbD i = _
  rw [s_l n hn, BitVec.getLsbD_shiftLeft]
  rcases Nat.lt_or_ge i n with h | h
  · simp [h, Nat.not_le.mpr h]
  · simp [hi, h, Nat.not_lt.mpr h]
theorem b_ushr (n : Nat) (hn : n < 32) (x : Int32) (i : Nat) : bt ((x.toUInt32 >>> ((nI n).toUInt32 &&& Int32.toUInt32 31)).toInt32) i = bt x (n + i) := by
  show (x.toUInt32 >>> ((nI n).toUInt32 &&& Int32.toUInt32 31)).toBitVec.getLsbD i = x.toUInt32.toBitVec.getLsbD (n + i)
  rw [UInt32.toBitVec_shiftRight]
  show (x.toUInt32.toBitVec >>> (((nI n).toUInt32 &&& Int32.toUInt32 31).toBitVec % 32).toNat).getLsbD i = _
  rw [s_u n hn, BitVec.getLsbD_ushiftRight]
theorem b_sshr (n : Nat) (hn : n < 32) (x : Int32) {i : Nat} (hi : i < 32) : bt (x >>> (nI n &&& 31)) i = if n + i < 32 then bt x (n + i) else bt x 31 := by
  unfold bt
  rw [Int32.toBitVec_shiftRight]
  show (x.toBitVec.sshiftRight ((nI n &&& 31).toBitVec.smod 32).toNat).getLsbD i = _
  rw [s_l n hn, BitVec.getLsbD_sshiftRight, BitVec.msb_eq_getLsbD_last]
  simp [hi]
theorem b_one : ∀ i, bt 1 i = decide (i = 0) := by
  intro i
  rcases Nat.lt_or_ge i 32 with h | h
  · exact (by decide +kernel : ∀ i, i < 32 → bt 1 i = decide (i = 0)) i h
  · rw [b_big h, decide_eq_false (by omega)]
/-- the one bit of a bone -/
theorem b_bone {n : Nat} (hn : n < 32) {i : Nat} (hi : i < 32) : bt ((1 : Int32) <<< (nI n &&& 31)) i = decide (i = n) := by
  rw [b_shl n hn 1 hi, b_one]
  by_cases h : n ≤ i
  · by_cases h2 : i = n
    · subst h2; simp
    · simp [h, h2]; omega
  · simp [h]; omega
theorem b_zero_iff {x : Int32} : x = 0 ↔ ∀ i, i < 32 → bt x i = false := by
  constructor
  · rintro rfl i _; exact b_0 i
  · intro h; exact b_ext (fun i hi => by rw [h i hi, b_0])
theorem b_test {x : Int32} {n : Nat} (hn : n < 32) : (x &&& ((1 : Int32) <<< (nI n &&& 31))) = 0 ↔ bt x n = false := by
  rw [b_zero_iff]
  constructor
  · intro h
    have := h n hn
    rw [b_and, b_bone hn hn] at this
    simpa using this
  · intro h i hi
    rw [b_and, b_bone hn hi]
    by_cases e : i = n
    · subst e; rw [h]; rfl
    · simp [e]
theorem b_put {x : Int32} {n : Nat} (hn : n < 32) {i : Nat} (hi : i < 32) : bt (x ||| ((1 : Int32) <<< (nI n &&& 31))) i = (bt x i || decide (i = n)) := by rw [b_or, b_bone hn hi]
theorem b_off {x : Int32} {n : Nat} (hn : n < 32) {i : Nat} (hi : i < 32) : bt (x &&& (((1 : Int32) <<< (nI n &&& 31)) ^^^ (-1))) i = (bt x i && !decide (i = n)) := by
  rw [b_and, b_xor, b_bone hn hi, b_m1 i hi, Bool.xor_true]
theorem b_not {x : Int32} {i : Nat} (hi : i < 32) : bt (x ^^^ (-1)) i = !bt x i := by rw [b_xor, b_m1 i hi, Bool.xor_true]
theorem b_low {n : Nat} (hn : n < 32) : ∀ i, i < 32 → bt (((1 : Int32) <<< (nI n &&& 31)) - 1) i = decide (i < n) := by
  have : ∀ n, n < 32 → ∀ i, i < 32 → bt (((1 : Int32) <<< (nI n &&& 31)) - 1) i = decide (i < n) := by decide +kernel
  exact this n hn
theorem cn_add (p : Nat → Bool) (n : Nat) : ∀ m, cn p (n + m) = cn p n + cn (fun i => p (n + i)) m
  | 0 => rfl
  | m + 1 => by
    have := cn_add p n m
    show cn p (n + m) + (if p (n + m) then 1 else 0) = cn p n + (cn (fun i => p (n + i)) m + (if p (n + m) then 1 else 0))
    omega
def bc_1 (x : Int32) : Int32 := x - ((x.toUInt32 >>> ((1 : Int32).toUInt32 &&& Int32.toUInt32 31)).toInt32 &&& (1431655765 : Int32))
def bc_2 (x : Int32) : Int32 := (x &&& (858993459 : Int32)) + ((x.toUInt32 >>> ((2 : Int32).toUInt32 &&& Int32.toUInt32 31)).toInt32 &&& (858993459 : Int32))
def bc_3 (x : Int32) : Int32 := (x + (x.toUInt32 >>> ((4 : Int32).toUInt32 &&& Int32.toUInt32 31)).toInt32) &&& (252645135 : Int32)
def bc_4 (x : Int32) : Int32 := x + (x.toUInt32 >>> ((8 : Int32).toUInt32 &&& Int32.toUInt32 31)).toInt32
def bc_5 (x : Int32) : Int32 := x + (x.toUInt32 >>> ((16 : Int32).toUInt32 &&& Int32.toUInt32 31)).toInt32
def bc (x : Int32) : Int32 := bc_5 (bc_4 (bc_3 (bc_2 (bc_1 x)))) &&& (63 : Int32)
def tN (x : Int32) : Nat := x.toBitVec.toNat
theorem tN_lt (x : Int32) : tN x < 4294967296 := x.toBitVec.isLt
theorem tN_add (x y : Int32) : tN (x + y) = (tN x + tN y) % 4294967296 := by unfold tN; rw [Int32.toBitVec_add, BitVec.toNat_add]
theorem tN_sub (x y : Int32) : tN (x - y) = (4294967296 - tN y + tN x) % 4294967296 := by unfold tN; rw [Int32.toBitVec_sub, BitVec.toNat_sub]
theorem tN_and (x y : Int32) : tN (x &&& y) = tN x &&& tN y := by unfold tN; rw [Int32.toBitVec_and, BitVec.toNat_and]
theorem tN_shr (x s : Int32) (k : Nat) (hs : ((s.toUInt32 &&& Int32.toUInt32 31).toBitVec % 32).toNat = k) : tN (x.toUInt32 >>> (s.toUInt32 &&& Int32.toUInt32 31)).toInt32 = tN x / 2 ^ k := pk_ushr x s k hs
theorem tN_inj {x y : Int32} (h : tN x = tN y) : x = y := Int32.toBitVec_inj.mp (BitVec.eq_of_toNat_eq h)
theorem and_byte (a b c d : Nat) (ha : a < 256) (hc : c < 256) : (256 * b + a) &&& (256 * d + c) = 256 * (b &&& d) + (a &&& c) := by
  have hac : a &&& c < 256 := Nat.lt_of_le_of_lt Nat.and_le_left ha
  apply Nat.eq_of_testBit_eq
  intro i
  have e1 := Nat.testBit_two_pow_mul_add b (i := 8) ha i
  have e2 := Nat.testBit_two_pow_mul_add d (i := 8) hc i
  have e3 := Nat.testBit_two_pow_mul_add (b &&& d) (i := 8) hac i
  simp only [show (2 : Nat) ^ 8 = 256 from rfl] at e1 e2 e3
  rw [Nat.testBit_and, e1, e2, e3]
  split <;> simp [Nat.testBit_and]
theorem and4 (x0 x1 x2 x3 m : Nat) (h0 : x0 < 256) (h1 : x1 < 256) (h2 : x2 < 256) (hm : m < 256) : (256 * (256 * (256 * x3 + x2) + x1) + x0) &&& (256 * (256 * (256 * m + m) + m) + m) = 256 * (256 * (256 * (x3 &&& m) + (x2 &&& m)) + (x1 &&& m)) + (x0 &&& m) := by
  rw [and_byte _ _ _ _ h0 hm, and_byte _ _ _ _ h1 hm, and_byte _ _ _ _ h2 hm]
def q1 (v : Nat) : Nat := v - ((v / 2) &&& 85)
def q2 (v : Nat) : Nat := (v &&& 51) + ((v / 4) &&& 51)
def q3 (v : Nat) : Nat := (v + v / 16) &&& 15
theorem q1_ok : ∀ v, v < 256 → (v / 2) &&& 85 ≤ v := by decide +kernel
theorem q1_m : ∀ v, v < 256 → ∀ c, c < 2 → (v / 2 + 128 * c) &&& 85 = (v / 2) &&& 85 := by decide +kernel
theorem q2_m : ∀ v, v < 256 → ∀ c, c < 4 → (v / 4 + 64 * c) &&& 51 = (v / 4) &&& 51 := by decide +kernel
theorem q2_ok : ∀ v, v < 256 → q2 (q1 v) % 16 ≤ 4 ∧ q2 (q1 v) / 16 ≤ 4 := by decide +kernel
theorem q3_m : ∀ v, v ≤ 68 → ∀ c, c ≤ 4 → (v + v / 16 + 16 * c) &&& 15 = (v + v / 16) &&& 15 := by decide +kernel
theorem q3_ok : ∀ v, v < 256 → q3 (q2 (q1 v)) = cn (fun i => v.testBit i) 8 := by decide +kernel
theorem m4 (m : Nat) : 256 * (256 * (256 * m + m) + m) + m = 16843009 * m := by omega
set_option maxHeartbeats 1000000 in
theorem bc_ok (x : Int32) : bc x = nI (cn (bt x) 32) := by
  obtain ⟨x0, x1, x2, x3, h0, h1, h2, h3, hx⟩ : ∃ x0 x1 x2 x3 : Nat, x0 < 256 ∧ x1 < 256 ∧ x2 < 256 ∧ x3 < 256 ∧ tN x = 256 * (256 * (256 * x3 + x2) + x1) + x0 := by
    have := tN_lt x
    exact ⟨tN x % 256, tN x / 256 % 256, tN x / 65536 % 256, tN x / 16777216, by omega, by omega, by omega, by omega, by omega⟩
  have q1l : ∀ v, v < 256 → q1 v < 256 := fun v hv => by unfold q1; omega
  have s1 : tN (bc_1 x) = 256 * (256 * (256 * q1 x3 + q1 x2) + q1 x1) + q1 x0 := by
    unfold bc_1
    rw [tN_sub, tN_and, tN_shr x 1 1 (by decide), hx]
    have e : (256 * (256 * (256 * x3 + x2) + x1) + x0) / 2 ^ 1 = 256 * (256 * (256 * (x3 / 2) + (x2 / 2 + 128 * (x3 % 2))) + (x1 / 2 + 128 * (x2 % 2))) + (x0 / 2 + 128 * (x1 % 2)) := by omega
    have em : tN (1431655765 : Int32) = 256 * (256 * (256 * 85 + 85) + 85) + 85 := by decide
    rw [e, em, and4 _ _ _ _ 85 (by omega) (by omega) (by omega) (by omega), q1_m x2 h2 _ (by omega), q1_m x1 h1 _ (by omega), q1_m x0 h0 _ (by omega)]
    have a0 := q1_ok x0 h0
    have a1 := q1_ok x1 h1
    have a2 := q1_ok x2 h2
    have a3 := q1_ok x3 h3
    unfold q1
    omega
  have p0 := q1l x0 h0
  have p1 := q1l x1 h1
  have p2 := q1l x2 h2
  have p3 := q1l x3 h3
  have s2 : tN (bc_2 (bc_1 x)) = 256 * (256 * (256 * q2 (q1 x3) + q2 (q1 x2)) + q2 (q1 x1)) + q2 (q1 x0) := by
    unfold bc_2
    rw [tN_add, tN_and, tN_and, tN_shr _ 2 2 (by decide), s1]
    generalize q1 x0 = w0 at *
    generalize q1 x1 = w1 at *
    generalize q1 x2 = w2 at *
    generalize q1 x3 = w3 at *
    have e : (256 * (256 * (256 * w3 + w2) + w1) + w0) / 2 ^ 2 = 256 * (256 * (256 * (w3 / 4) + (w2 / 4 + 64 * (w3 % 4))) + (w1 / 4 + 64 * (w2 % 4))) + (w0 / 4 + 64 * (w1 % 4)) := by omega
    have em : tN (858993459 : Int32) = 256 * (256 * (256 * 51 + 51) + 51) + 51 := by decide
    rw [e, em, and4 _ _ _ _ 51 (by omega) (by omega) (by omega) (by omega), and4 _ _ _ _ 51 (by omega) (by omega) (by omega) (by omega), q2_m w2 p2 _ (by omega), q2_m w1 p1 _ (by omega), q2_m w0 p0 _ (by omega)]
    have b0 : w0 &&& 51 ≤ 51 := Nat.and_le_right
    have b1 : w1 &&& 51 ≤ 51 := Nat.and_le_right
    have b2 : w2 &&& 51 ≤ 51 := Nat.and_le_right
    have b3 : w3 &&& 51 ≤ 51 := Nat.and_le_right
    have c0 : w0 / 4 &&& 51 ≤ 51 := Nat.and_le_right
    have c1 : w1 / 4 &&& 51 ≤ 51 := Nat.and_le_right
    have c2 : w2 / 4 &&& 51 ≤ 51 := Nat.and_le_right
    have c3 : w3 / 4 &&& 51 ≤ 51 := Nat.and_le_right
    unfold q2
    omega
  have r0 := q2_ok x0 h0
  have r1 := q2_ok x1 h1
  have r2 := q2_ok x2 h2
  have r3 := q2_ok x3 h3
  have t0 := q3_ok x0 h0
  have t1 := q3_ok x1 h1
  have t2 := q3_ok x2 h2
  have t3 := q3_ok x3 h3
  have s3 : tN (bc_3 (bc_2 (bc_1 x))) = 256 * (256 * (256 * q3 (q2 (q1 x3)) + q3 (q2 (q1 x2))) + q3 (q2 (q1 x1))) + q3 (q2 (q1 x0)) := by
    unfold bc_3
    rw [tN_and, tN_add, tN_shr _ 4 4 (by decide), s2]
    generalize q2 (q1 x0) = w0 at *
    generalize q2 (q1 x1) = w1 at *
    generalize q2 (q1 x2) = w2 at *
    generalize q2 (q1 x3) = w3 at *
    have e : (256 * (256 * (256 * w3 + w2) + w1) + w0 + (256 * (256 * (256 * w3 + w2) + w1) + w0) / 2 ^ 4) % 4294967296 = 256 * (256 * (256 * (w3 + w3 / 16) + (w2 + w2 / 16 + 16 * (w3 % 16))) + (w1 + w1 / 16 + 16 * (w2 % 16))) + (w0 + w0 / 16 + 16 * (w1 % 16)) := by omega
    have em : tN (252645135 : Int32) = 256 * (256 * (256 * 15 + 15) + 15) + 15 := by decide
    rw [e, em, and4 _ _ _ _ 15 (by omega) (by omega) (by omega) (by omega), q3_m w2 (by omega) _ (by omega), q3_m w1 (by omega) _ (by omega), q3_m w0 (by omega) _ (by omega)]
    rfl
  rw [t0, t1, t2, t3] at s3
  have l0 := cn_le (fun i => x0.testBit i) 8
  have l1 := cn_le (fun i => x1.testBit i) 8
  have l2 := cn_le (fun i => x2.testBit i) 8
  have l3 := cn_le (fun i => x3.testBit i) 8
  have hcount : cn (bt x) 32 = cn (fun i => x0.testBit i) 8 + cn (fun i => x1.testBit i) 8 + cn (fun i => x2.testBit i) 8 + cn (fun i => x3.testBit i) 8 := by
    have hb : ∀ i, bt x i = (256 * (256 * (256 * x3 + x2) + x1) + x0).testBit i := fun i => by rw [← hx]; rfl
    have e32 : cn (bt x) 32 = cn (bt x) 8 + cn (fun i => bt x (8 + i)) 8 + cn (fun i => bt x (16 + i)) 8 + cn (fun i => bt x (24 + i)) 8 := by
      have a1 : cn (bt x) 32 = cn (bt x) 24 + cn (fun i => bt x (24 + i)) 8 := cn_add (bt x) 24 8
      have a2 : cn (bt x) 24 = cn (bt x) 16 + cn (fun i => bt x (16 + i)) 8 := cn_add (bt x) 16 8
      have a3 : cn (bt x) 16 = cn (bt x) 8 + cn (fun i => bt x (8 + i)) 8 := cn_add (bt x) 8 8
      omega
    have g0 : ∀ i, i < 8 → bt x i = x0.testBit i := fun i hi => by
      rw [hb]
      have := Nat.testBit_two_pow_mul_add (256 * (256 * x3 + x2) + x1) (i := 8) h0 i
      simp only [show (2 : Nat) ^ 8 = 256 from rfl] at this
      rw [this, if_pos hi]
    have g1 : ∀ i, i < 8 → bt x (8 + i) = x1.testBit i := fun i hi => by
      rw [hb]
      have e1 := Nat.testBit_two_pow_mul_add (256 * (256 * x3 + x2) + x1) (i := 8) h0 (8 + i)
      have e2 := Nat.testBit_two_pow_mul_add (256 * x3 + x2) (i := 8) h1 i
      simp only [show (2 : Nat) ^ 8 = 256 from rfl] at e1 e2
      rw [e1, if_neg (by omega), show 8 + i - 8 = i by omega, e2, if_pos hi]
    have g2 : ∀ i, i < 8 → bt x (16 + i) = x2.testBit i := fun i hi => by
      rw [hb]
      have e1 := Nat.testBit_two_pow_mul_add (256 * (256 * x3 + x2) + x1) (i := 8) h0 (16 + i)
      have e2 := Nat.testBit_two_pow_mul_add (256 * x3 + x2) (i := 8) h1 (8 + i)
      have e3 := Nat.testBit_two_pow_mul_add x3 (i := 8) h2 i
      simp only [show (2 : Nat) ^ 8 = 256 from rfl] at e1 e2 e3
      rw [e1, if_neg (by omega), show 16 + i - 8 = 8 + i by omega, e2, if_neg (by omega), show 8 + i - 8 = i by omega, e3, if_pos hi]
    have g3 : ∀ i, i < 8 → bt x (24 + i) = x3.testBit i := fun i hi => by
      rw [hb]
      have e1 := Nat.testBit_two_pow_mul_add (256 * (256 * x3 + x2) + x1) (i := 8) h0 (24 + i)
      have e2 := Nat.testBit_two_pow_mul_add (256 * x3 + x2) (i := 8) h1 (16 + i)
      have e3 := Nat.testBit_two_pow_mul_add x3 (i := 8) h2 (8 + i)
      simp only [show (2 : Nat) ^ 8 = 256 from rfl] at e1 e2 e3
      rw [e1, if_neg (by omega), show 24 + i - 8 = 16 + i by omega, e2, if_neg (by omega), show 16 + i - 8 = 8 + i by omega, e3, if_neg (by omega), show 8 + i - 8 = i by omega]
    rw [e32, cn_cong g0, cn_cong g1, cn_cong g2, cn_cong g3]
  rw [hcount]
  generalize cn (fun i => x0.testBit i) 8 = c0 at *
  generalize cn (fun i => x1.testBit i) 8 = c1 at *
  generalize cn (fun i => x2.testBit i) 8 = c2 at *
  generalize cn (fun i => x3.testBit i) 8 = c3 at *
  apply tN_inj
  unfold bc
  have e63 : tN (63 : Int32) = 63 := by decide
  rw [tN_and, e63]
  have s4 : tN (bc_4 (bc_3 (bc_2 (bc_1 x)))) = 16777216 * c3 + 65536 * (c2 + c3) + 256 * (c1 + c2) + (c0 + c1) := by
    unfold bc_4
    rw [tN_add, tN_shr _ 8 8 (by decide), s3]
    omega
  have s5 : tN (bc_5 (bc_4 (bc_3 (bc_2 (bc_1 x))))) = 16777216 * c3 + 65536 * (c2 + c3) + 256 * (c1 + c2 + c3) + (c0 + c1 + c2 + c3) := by
    unfold bc_5
    rw [tN_add, tN_shr _ 16 16 (by decide), s4]
    clear s1 s2 s3 s4 hx p0 p1 p2 p3 r0 r1 r2 r3 t0 t1 t2 t3 h0 h1 h2 h3 hcount
    have e : (16777216 * c3 + 65536 * (c2 + c3) + 256 * (c1 + c2) + (c0 + c1)) / 2 ^ 16 = 256 * c3 + (c2 + c3) := by omega
    rw [e]
    omega
  rw [s5, show (63 : Nat) = 2 ^ 6 - 1 from rfl, Nat.and_two_pow_sub_one_eq_mod]
  have : tN (nI (c0 + c1 + c2 + c3)) = c0 + c1 + c2 + c3 := pk_tn (by omega)
  rw [this]
  omega
