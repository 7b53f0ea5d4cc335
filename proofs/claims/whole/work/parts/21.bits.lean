/-! the count of bits -/
theorem land_split {a b m M s : Nat} (ha : a < 256) (hm : m < 2 ^ (8 - s)) (hs : s ≤ 8) : ((a + 256 * b) >>> s) &&& (m + 256 * M) = ((a >>> s) &&& m) + 256 * ((b >>> s) &&& M) := by
  have hm8 : m < 2 ^ 8 := Nat.lt_of_lt_of_le hm (Nat.pow_le_pow_right (by decide) (by omega))
  have e1 : a + 256 * b = 2 ^ 8 * b + a := by omega
  have e2 : m + 256 * M = 2 ^ 8 * M + m := by omega
  have e3 : ((a >>> s) &&& m) + 256 * ((b >>> s) &&& M) = 2 ^ 8 * ((b >>> s) &&& M) + ((a >>> s) &&& m) := by omega
  have h4 : (a >>> s) &&& m < 2 ^ 8 := Nat.lt_of_le_of_lt Nat.and_le_right hm8
  rw [e1, e2, e3]
  apply Nat.eq_of_testBit_eq
  intro i
  rw [Nat.testBit_and, Nat.testBit_shiftRight, Nat.testBit_two_pow_mul_add _ (by omega), Nat.testBit_two_pow_mul_add _ hm8, Nat.testBit_two_pow_mul_add _ h4, Nat.testBit_and, Nat.testBit_and, Nat.testBit_shiftRight, Nat.testBit_shiftRight]
  by_cases hi : i < 8
  · rw [if_pos hi, if_pos hi]
    by_cases hsi : s + i < 8
    · rw [if_pos hsi]
    · have h1 : m.testBit i = false := Nat.testBit_lt_two_pow (Nat.lt_of_lt_of_le hm (Nat.pow_le_pow_right (by decide) (by omega)))
      rw [h1, Bool.and_false, Bool.and_false]
  · rw [if_neg hi, if_neg hi, if_neg (by omega), show s + i - 8 = s + (i - 8) by omega]
def w1 (k m : Nat) : Nat := k - ((k >>> 1) &&& m)
def w2 (k m : Nat) : Nat := (k &&& m) + ((k >>> 2) &&& m)
theorem w1_split {a b m M : Nat} (ha : a < 256) (hm : m < 128) : w1 (a + 256 * b) (m + 256 * M) = w1 a m + 256 * w1 b M := by
  unfold w1
  rw [land_split ha hm (by decide)]
  have h1 : (a >>> 1) &&& m ≤ a := Nat.le_trans Nat.and_le_left (by rw [Nat.shiftRight_eq_div_pow]; exact Nat.div_le_self _ _)
  have h2 : (b >>> 1) &&& M ≤ b := Nat.le_trans Nat.and_le_left (by rw [Nat.shiftRight_eq_div_pow]; exact Nat.div_le_self _ _)
  omega
theorem w2_split {a b m M : Nat} (ha : a < 256) (hm : m < 64) : w2 (a + 256 * b) (m + 256 * M) = w2 a m + 256 * w2 b M := by
  unfold w2
  have h0 := land_split (a := a) (b := b) (m := m) (M := M) (s := 0) ha (by omega) (by decide)
  rw [Nat.shiftRight_zero, Nat.shiftRight_zero, Nat.shiftRight_zero] at h0
  rw [h0, land_split ha hm (by decide)]
  omega
/-- a byte through the first two steps -/
def w12 (a : Nat) : Nat := w2 (w1 a 0x55) 0x33
theorem w12_ok : ∀ a, a < 256 → w1 a 0x55 < 256 ∧ w12 a ≤ 0x44 ∧ w12 a % 16 ≤ 4 ∧ (w12 a + w12 a / 16) % 16 = pc 8 a ∧ w1 a 0x5555 = w1 a 0x55 ∧ w2 (w1 a 0x55) 0x3333 = w12 a ∧ pc 8 a ≤ 8 := by decide +kernel
theorem pc_bytes {a b c : Nat} (ha : a < 256) (hb : b < 256) (hc : c < 256) : pc 24 (a + 256 * (b + 256 * c)) = pc 8 a + (pc 8 b + pc 8 c) := by
  unfold pc
  rw [show (24 : Nat) = 8 + (8 + 8) from rfl, sm_split, sm_split]
  have e1 : a + 256 * (b + 256 * c) = 2 ^ 8 * (2 ^ 8 * c + b) + a := by omega
  rw [e1]
  congr 1
  · refine sm_congr fun i hi => ?_
    rw [Nat.testBit_two_pow_mul_add _ (by omega), if_pos hi]
  · congr 1
    · refine sm_congr fun i hi => ?_
      rw [Nat.testBit_two_pow_mul_add _ (by omega), if_neg (by omega), show 8 + i - 8 = i by omega, Nat.testBit_two_pow_mul_add _ (by omega), if_pos hi]
    · refine sm_congr fun i hi => ?_
      rw [Nat.testBit_two_pow_mul_add _ (by omega), if_neg (by omega), show 8 + (8 + i) - 8 = 8 + i by omega, Nat.testBit_two_pow_mul_add _ (by omega), if_neg (by omega), show 8 + i - 8 = i by omega]
theorem swar {k : Nat} (hk : k < 2 ^ 24) (X : sX) (S : sS) : Cal X 230 [.int (nI k)] S = some (some (.int (nI (pc 24 k))), S) := by
  obtain ⟨a, b, c, ha, hb, hc, rfl⟩ : ∃ a b c, a < 256 ∧ b < 256 ∧ c < 256 ∧ k = a + 256 * (b + 256 * c) := ⟨k % 256, k / 256 % 256, k / 65536, by omega, by omega, by omega, by omega⟩
  obtain ⟨a1, a2, a3, a4, a5, a6, a7⟩ := w12_ok a ha
  obtain ⟨b1, b2, b3, b4, b5, b6, b7⟩ := w12_ok b hb
  obtain ⟨c1, c2, c3, c4, c5, c6, c7⟩ := w12_ok c hc
  have s1 : w1 (a + 256 * (b + 256 * c)) 1431655765 = w1 a 0x55 + 256 * (w1 b 0x55 + 256 * w1 c 0x55) := by
    rw [show 1431655765 = 0x55 + 256 * (0x55 + 256 * 0x5555) from rfl, w1_split ha (by decide), w1_split hb (by decide), c5]
  have s2 : w2 (w1 a 0x55 + 256 * (w1 b 0x55 + 256 * w1 c 0x55)) 858993459 = w12 a + 256 * (w12 b + 256 * w12 c) := by
    rw [show 858993459 = 0x33 + 256 * (0x33 + 256 * 0x3333) from rfl, w2_split a1 (by decide), w2_split b1 (by decide), c6]
    rfl
  rw [C_J6_bitCount_0f7a4]
  have x1 : nI (a + 256 * (b + 256 * c)) - (oUshr (nI (a + 256 * (b + 256 * c))) 1 &&& 1431655765) = nI (w1 a 0x55 + 256 * (w1 b 0x55 + 256 * w1 c 0x55)) := by
    rw [l1, show (1431655765 : Int32) = nI 1431655765 from rfl, oUshr_nI (by omega) (by decide), and_nI, ← s1]
    unfold w1
    rw [Nat.shiftRight_eq_div_pow]
    exact pk_sub (Nat.le_trans Nat.and_le_left (Nat.div_le_self _ _))
  rw [x1]
  have x2 : (nI (w1 a 0x55 + 256 * (w1 b 0x55 + 256 * w1 c 0x55)) &&& 858993459) + (oUshr (nI (w1 a 0x55 + 256 * (w1 b 0x55 + 256 * w1 c 0x55))) 2 &&& 858993459) = nI (w12 a + 256 * (w12 b + 256 * w12 c)) := by
    rw [l2, show (858993459 : Int32) = nI 858993459 from rfl, oUshr_nI (by omega) (by decide), and_nI, and_nI, nI_add, ← s2]
    unfold w2
    rw [Nat.shiftRight_eq_div_pow]
  rw [x2]
  generalize hA : w12 a = A at *
  generalize hB : w12 b = B at *
  generalize hC : w12 c = C at *
  have x3 : (nI (A + 256 * (B + 256 * C)) + oUshr (nI (A + 256 * (B + 256 * C))) 4) &&& 252645135 = nI (pc 8 a + 256 * (pc 8 b + 256 * pc 8 c)) := by
    rw [l4, show (252645135 : Int32) = nI 252645135 from rfl, oUshr_nI (by omega) (by decide), nI_add, and_nI]
    have e : A + 256 * (B + 256 * C) + (A + 256 * (B + 256 * C)) / 2 ^ 4 = (A + A / 16 + 16 * (B % 16)) + 256 * ((B + B / 16 + 16 * (C % 16)) + 256 * (C + C / 16)) := by omega
    have m1 : ∀ x M, x < 256 → ∀ y, (x + 256 * y) &&& (15 + 256 * M) = x % 16 + 256 * (y &&& M) := by
      intro x M hx y
      have := land_split (a := x) (b := y) (m := 15) (M := M) (s := 0) hx (by decide) (by decide)
      rw [Nat.shiftRight_zero, Nat.shiftRight_zero, Nat.shiftRight_zero] at this
      rw [this, show (15 : Nat) = 2 ^ 4 - 1 from rfl, Nat.and_two_pow_sub_one_eq_mod]
    rw [e, show 252645135 = 15 + 256 * (15 + 256 * 3855) from rfl, m1 _ _ (by omega), m1 _ _ (by omega)]
    have m2 : ∀ C, C ≤ 0x44 → (C + C / 16) &&& 3855 = (C + C / 16) % 16 := by decide +kernel
    rw [m2 C (by omega)]
    congr 1
    omega
  rw [x3, pc_bytes ha hb hc]
  generalize pc 8 a = p at *
  generalize pc 8 b = q at *
  generalize pc 8 c = r at *
  have x4 : nI (p + 256 * (q + 256 * r)) + oUshr (nI (p + 256 * (q + 256 * r))) 8 = nI (p + 256 * (q + 256 * r) + (p + 256 * (q + 256 * r)) / 256) := by
    rw [l8, oUshr_nI (by omega) (by decide), nI_add]
  rw [x4, l16, oUshr_nI (by omega) (by decide), nI_add, show (63 : Int32) = nI 63 from rfl, and_nI, show (63 : Nat) = 2 ^ 6 - 1 from rfl, Nat.and_two_pow_sub_one_eq_mod]
  have h1 : (p + 256 * (q + 256 * r)) / 256 = q + 256 * r := by clear x1 x2 x3 x4 s1 s2; omega
  rw [h1]
  have h2 : (p + 256 * (q + 256 * r) + (q + 256 * r)) / 2 ^ 16 = r := by clear x1 x2 x3 x4 s1 s2; omega
  rw [h2]
  have h3 : (p + 256 * (q + 256 * r) + (q + 256 * r) + r) % 2 ^ 6 = p + (q + r) := by clear x1 x2 x3 x4 s1 s2 h1 h2; omega
  rw [h3]
