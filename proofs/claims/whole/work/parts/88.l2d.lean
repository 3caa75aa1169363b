/-! pure: the ones of a long -/
def uM (x : Int64) : Nat := x.toUInt64.toNat
theorem uM_lt (x : Int64) : uM x < 18446744073709551616 := x.toUInt64.toNat_lt
theorem uM_add (x y : Int64) : uM (x + y) = (uM x + uM y) % 18446744073709551616 := by
  show (x.toUInt64 + y.toUInt64).toNat = _
  exact UInt64.toNat_add _ _
theorem uM_and (x y : Int64) : uM (x &&& y) = uM x &&& uM y := by
  show (x.toUInt64 &&& y.toUInt64).toNat = _
  exact UInt64.toNat_and _ _
theorem uM_sub {x y : Int64} (h : uM y ≤ uM x) : uM (x - y) = uM x - uM y := by
  show (x.toUInt64 - y.toUInt64).toNat = _
  rw [UInt64.toNat_sub_of_le]
  · rfl
  · exact UInt64.le_iff_toNat_le.mpr h
theorem uM_shr (x : Int64) (s : UInt64) : uM (x.toUInt64 >>> s).toInt64 = uM x / 2 ^ (s.toNat % 64) := by
  show (x.toUInt64 >>> s).toNat = _
  rw [UInt64.toNat_shiftRight, Nat.shiftRight_eq_div_pow]
  rfl
theorem wb_uM (x : Int64) (j : Nat) : wb x j = (uM x).testBit j := rfl
theorem land_split {p q r t : Nat} (hp : p < 256) (hr : r < 256) : (p + 256 * q) &&& (r + 256 * t) = (p &&& r) + 256 * (q &&& t) := by
  have hl : p &&& r < 2 ^ 8 := Nat.and_lt_two_pow p hr
  apply Nat.eq_of_testBit_eq
  intro i
  have e : ∀ a b : Nat, a < 256 → (a + 256 * b).testBit i = if i < 8 then a.testBit i else b.testBit (i - 8) := by
    intro a b ha
    rw [Nat.add_comm]
    exact Nat.testBit_two_pow_mul_add b (i := 8) ha i
  rw [Nat.testBit_and, e p q hp, e r t hr, e (p &&& r) (q &&& t) hl]
  split <;> simp [Nat.testBit_and]
def mk8 (v : Nat) : Nat → Nat
  | 0 => 0
  | k + 1 => v + 256 * mk8 v k
def g8 (a : Nat) : Nat := ((a - (a / 2 &&& 85)) &&& 51) + ((a - (a / 2 &&& 85)) / 4 &&& 51)
def s8 (a : Nat) : Nat := (g8 a + g8 a / 16) &&& 15
def gN (k n : Nat) : Nat := ((n - (n / 2 &&& mk8 85 k)) &&& mk8 51 k) + ((n - (n / 2 &&& mk8 85 k)) / 4 &&& mk8 51 k)
theorem d1 : ∀ a, a < 256 → ∀ z, z < 2 → (a / 2 + 128 * z) &&& 85 = a / 2 &&& 85 := by decide +kernel
theorem d2 : ∀ a, a < 256 → ∀ z, z < 4 → (a / 4 + 64 * z) &&& 51 = a / 4 &&& 51 := by decide +kernel
theorem d3 : ∀ a, a < 256 → (a / 2 &&& 85) ≤ a := by decide +kernel
theorem d4 : ∀ a, a < 256 → g8 a < 120 ∧ g8 a % 16 ≤ 4 ∧ g8 a + g8 a / 16 < 128 := by decide +kernel
theorem d5 : ∀ a, a < 256 → ∀ z, z < 5 → (g8 a + g8 a / 16 + 16 * z) &&& 15 = s8 a := by decide +kernel
theorem gN_s (k a m : Nat) (ha : a < 256) : gN (k + 1) (a + 256 * m) = g8 a + 256 * gN k m := by
  have e1 : (a + 256 * m) / 2 = (a / 2 + 128 * (m % 2)) + 256 * (m / 2) := by omega
  have e2 : (a + 256 * m) / 2 &&& mk8 85 (k + 1) = (a / 2 &&& 85) + 256 * (m / 2 &&& mk8 85 k) := by
    rw [e1]
    show _ &&& (85 + 256 * mk8 85 k) = _
    rw [land_split (by omega) (by omega), d1 a ha (m % 2) (by omega)]
  have h1 := d3 a ha
  have h2 : (m / 2 &&& mk8 85 k) ≤ m := Nat.le_trans Nat.and_le_left (by omega)
  have e3 : (a + 256 * m) - ((a + 256 * m) / 2 &&& mk8 85 (k + 1)) = (a - (a / 2 &&& 85)) + 256 * (m - (m / 2 &&& mk8 85 k)) := by rw [e2]; omega
  unfold gN g8
  rw [e3]
  generalize hA : a - (a / 2 &&& 85) = A
  generalize m - (m / 2 &&& mk8 85 k) = B
  have hA2 : A < 256 := by omega
  have e4 : (A + 256 * B) / 4 = (A / 4 + 64 * (B % 4)) + 256 * (B / 4) := by omega
  rw [e4]
  show (_ &&& (51 + 256 * mk8 51 k)) + (_ &&& (51 + 256 * mk8 51 k)) = _
  rw [land_split hA2 (by omega), land_split (by omega) (by omega), d2 A hA2 (B % 4) (by omega)]
  omega
theorem gN_mod : ∀ (k m : Nat), m < 256 ^ k → gN k m % 16 ≤ 4
  | 0, m, h => by
    obtain rfl : m = 0 := by simpa using h
    decide
  | k + 1, m, h => by
    have h1 : gN (k + 1) m = g8 (m % 256) + 256 * gN k (m / 256) := by
      rw [← gN_s k (m % 256) (m / 256) (by omega)]
      congr 1
      omega
    have h2 := (d4 (m % 256) (by omega)).2.1
    rw [h1]
    omega
def hN (k n : Nat) : Nat := (gN k n + gN k n / 16) &&& mk8 15 k
theorem hN_s (k a m : Nat) (ha : a < 256) (hm : m < 256 ^ k) : hN (k + 1) (a + 256 * m) = s8 a + 256 * hN k m := by
  unfold hN
  rw [gN_s k a m ha]
  have h1 := gN_mod k m hm
  have h2 := d4 a ha
  generalize gN k m = B at *
  have e : (g8 a + 256 * B) + (g8 a + 256 * B) / 16 = (g8 a + g8 a / 16 + 16 * (B % 16)) + 256 * (B + B / 16) := by omega
  rw [e]
  show _ &&& (15 + 256 * mk8 15 k) = _
  rw [land_split (by omega) (by omega), d5 a ha (B % 16) (by omega)]
theorem s8_c : ∀ a, a < 256 → s8 a = fb_ct (fun i => a.testBit i) 8 := by decide +kernel
theorem s8_le {a : Nat} (ha : a < 256) : s8 a ≤ 8 := by rw [s8_c a ha]; exact fb_ct_le _ _
/-- eight bytes -/
theorem hN_8 (n : Nat) (h : n < 18446744073709551616) : hN 8 n = s8 (n % 256) + 256 * (s8 (n / 256 % 256) + 256 * (s8 (n / 65536 % 256) + 256 * (s8 (n / 16777216 % 256) + 256 * (s8 (n / 4294967296 % 256) + 256 * (s8 (n / 1099511627776 % 256) + 256 * (s8 (n / 281474976710656 % 256) + 256 * s8 (n / 72057594037927936 % 256))))))) := by
  have st : ∀ k m, m < 256 ^ (k + 1) → hN (k + 1) m = s8 (m % 256) + 256 * hN k (m / 256) := by
    intro k m hm
    rw [← hN_s k (m % 256) (m / 256) (by omega) (by rw [Nat.div_lt_iff_lt_mul (by omega)]; rw [Nat.pow_succ] at hm; exact hm)]
    congr 1
    omega
  have dd : ∀ a b : Nat, n / a / b = n / (a * b) := fun a b => Nat.div_div_eq_div_mul n a b
  rw [st 7 n (by omega), st 6 _ (by omega), st 5 _ (by omega), st 4 _ (by omega), st 3 _ (by omega), st 2 _ (by omega), st 1 _ (by omega), st 0 _ (by omega)]
  simp only [dd]
  have z : hN 0 (n / (256 * 256 * 256 * 256 * 256 * 256 * 256 * 256)) = 0 := by
    have : n / (256 * 256 * 256 * 256 * 256 * 256 * 256 * 256) = 0 := by omega
    rw [this]; decide
  rw [z]
  simp only [Nat.mul_zero, Nat.add_zero, Nat.reduceMul]
theorem byte_t (n q i : Nat) (hi : i < 8) : (n / 2 ^ q % 256).testBit i = n.testBit (q + i) := by
  rw [show (256 : Nat) = 2 ^ 8 from rfl, Nat.testBit_mod_two_pow, Nat.testBit_div_two_pow]
  simp [hi, Nat.add_comm]
theorem ct64 (n : Nat) : fb_ct (fun i => n.testBit i) 64 = s8 (n % 256) + s8 (n / 256 % 256) + s8 (n / 65536 % 256) + s8 (n / 16777216 % 256) + s8 (n / 4294967296 % 256) + s8 (n / 1099511627776 % 256) + s8 (n / 281474976710656 % 256) + s8 (n / 72057594037927936 % 256) := by
  have b : ∀ q, s8 (n / 2 ^ q % 256) = fb_ct (fun k => n.testBit (q + k)) 8 := by
    intro q
    rw [s8_c _ (by omega)]
    exact fb_ct_cong (fun k hk => byte_t n q k hk)
  have b0 := b 0
  have b1 := b 8
  have b2 := b 16
  have b3 := b 24
  have b4 := b 32
  have b5 := b 40
  have b6 := b 48
  have b7 := b 56
  have sp : ∀ q r : Nat, fb_ct (fun i => n.testBit i) (q + 8) = fb_ct (fun i => n.testBit i) q + fb_ct (fun k => n.testBit (q + k)) 8 := fun q r => fb_ct_split _ q 8
  rw [show (64 : Nat) = 56 + 8 from rfl, sp 56 0, show (56 : Nat) = 48 + 8 from rfl, sp 48 0, show (48 : Nat) = 40 + 8 from rfl, sp 40 0, show (40 : Nat) = 32 + 8 from rfl, sp 32 0, show (32 : Nat) = 24 + 8 from rfl, sp 24 0, show (24 : Nat) = 16 + 8 from rfl, sp 16 0, show (16 : Nat) = 8 + 8 from rfl, sp 8 0, show (8 : Nat) = 0 + 8 from rfl, sp 0 0]
  simp only [Nat.zero_add, Nat.pow_zero, Nat.div_one] at b0
  simp only [Nat.zero_add, Nat.reduceAdd, Nat.reducePow] at *
  rw [b0, b1, b2, b3, b4, b5, b6, b7]
  simp [fb_ct]
