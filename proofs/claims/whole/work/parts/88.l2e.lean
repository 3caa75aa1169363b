theorem lN_uM (y : Int64) : y = lN (uM y) := by
  apply Int64.toBitVec_inj.mp
  show y.toBitVec = BitVec.ofNat 64 y.toBitVec.toNat
  simp
theorem bt_ {t s u B : Nat} (g : t = s + 256 * u) (h : s ≤ 64) (b : u ≤ B) : t ≤ 64 + 256 * B := by omega
theorem qd_ {t s u : Nat} (g : t = s + 256 * u) (h : s < 256) : t / 256 = u := by omega
theorem qd2_ {t s u r v : Nat} (g : t = s + 256 * u) (g2 : u = r + 256 * v) (h : s < 256) (h2 : r < 256) : t / 65536 = v := by omega
theorem qd4_ {t a b c d u v w z : Nat} (g : t = a + 256 * u) (g2 : u = b + 256 * v) (g3 : v = c + 256 * w) (g4 : w = d + 256 * z) (h : a < 256) (h2 : b < 256) (h3 : c < 256) (h4 : d < 256) : t / 4294967296 = z := by
  have e1 : t / 65536 = v := qd2_ g g2 h h2
  have e2 : v / 65536 = z := qd2_ g3 g4 h3 h4
  rw [show (4294967296 : Nat) = 65536 * 65536 from rfl, ← Nat.div_div_eq_div_mul, e1, e2]
theorem qv_ {x y a b u v : Nat} (g : x = a + 256 * u) (g2 : y = b + 256 * v) : x + y = (a + b) + 256 * (u + v) := by omega
set_option maxHeartbeats 1000000 in
theorem nsum {s0 s1 s2 s3 s4 s5 s6 s7 n3 n4 n5 n6 : Nat} (h0 : s0 ≤ 8) (h1 : s1 ≤ 8) (h2 : s2 ≤ 8) (h3 : s3 ≤ 8) (h4 : s4 ≤ 8) (h5 : s5 ≤ 8) (h6 : s6 ≤ 8) (h7 : s7 ≤ 8)
    (e3 : n3 = s0 + 256 * (s1 + 256 * (s2 + 256 * (s3 + 256 * (s4 + 256 * (s5 + 256 * (s6 + 256 * s7))))))) (e4 : n4 = (n3 + n3 / 256) % 18446744073709551616) (e5 : n5 = (n4 + n4 / 65536) % 18446744073709551616) (e6 : n6 = (n5 + n5 / 4294967296) % 18446744073709551616) : n6 % 128 = s0 + s1 + s2 + s3 + s4 + s5 + s6 + s7 := by
  obtain ⟨t8, g8⟩ : ∃ t, t = 0 := ⟨_, rfl⟩
  obtain ⟨t7, g7⟩ : ∃ t, t = s7 + 256 * t8 := ⟨_, rfl⟩
  obtain ⟨t6, g6⟩ : ∃ t, t = s6 + 256 * t7 := ⟨_, rfl⟩
  obtain ⟨t5, g5⟩ : ∃ t, t = s5 + 256 * t6 := ⟨_, rfl⟩
  obtain ⟨t4, g4⟩ : ∃ t, t = s4 + 256 * t5 := ⟨_, rfl⟩
  obtain ⟨t3, g3⟩ : ∃ t, t = s3 + 256 * t4 := ⟨_, rfl⟩
  obtain ⟨t2, g2⟩ : ∃ t, t = s2 + 256 * t3 := ⟨_, rfl⟩
  obtain ⟨t1, g1⟩ : ∃ t, t = s1 + 256 * t2 := ⟨_, rfl⟩
  obtain ⟨t0, g0⟩ : ∃ t, t = s0 + 256 * t1 := ⟨_, rfl⟩
  have x7 : t7 = s7 := by rw [g7, g8]; rfl
  rw [← x7, ← g6, ← g5, ← g4, ← g3, ← g2, ← g1, ← g0] at e3
  have b8 : t8 ≤ 0 := Nat.le_of_eq g8
  have b7 : t7 ≤ 64 := bt_ g7 (Nat.le_trans h7 (by decide)) b8
  have b6 : t6 ≤ 16448 := bt_ g6 (Nat.le_trans h6 (by decide)) b7
  have b5 : t5 ≤ 4210752 := bt_ g5 (Nat.le_trans h5 (by decide)) b6
  have b4 : t4 ≤ 1077952576 := bt_ g4 (Nat.le_trans h4 (by decide)) b5
  have b3 : t3 ≤ 275955859520 := bt_ g3 (Nat.le_trans h3 (by decide)) b4
  have b2 : t2 ≤ 70644700037184 := bt_ g2 (Nat.le_trans h2 (by decide)) b3
  have b1 : t1 ≤ 18085043209519168 := bt_ g1 (Nat.le_trans h1 (by decide)) b2
  have b0 : t0 ≤ 4629771061636907072 := bt_ g0 (Nat.le_trans h0 (by decide)) b1
  have y8 : t8 ≤ 0 := b8
  have y7 : t7 ≤ 8 := by rw [g7]; exact Nat.add_le_add h7 (Nat.mul_le_mul_left 256 y8)
  have y6 : t6 ≤ 2056 := by rw [g6]; exact Nat.add_le_add h6 (Nat.mul_le_mul_left 256 y7)
  have y5 : t5 ≤ 526344 := by rw [g5]; exact Nat.add_le_add h5 (Nat.mul_le_mul_left 256 y6)
  have y4 : t4 ≤ 134744072 := by rw [g4]; exact Nat.add_le_add h4 (Nat.mul_le_mul_left 256 y5)
  have y3 : t3 ≤ 34494482440 := by rw [g3]; exact Nat.add_le_add h3 (Nat.mul_le_mul_left 256 y4)
  have y2 : t2 ≤ 8830587504648 := by rw [g2]; exact Nat.add_le_add h2 (Nat.mul_le_mul_left 256 y3)
  have y1 : t1 ≤ 2260630401189896 := by rw [g1]; exact Nat.add_le_add h1 (Nat.mul_le_mul_left 256 y2)
  have y0 : t0 ≤ 578721382704613384 := by rw [g0]; exact Nat.add_le_add h0 (Nat.mul_le_mul_left 256 y1)
  have d3 : n3 / 256 = t1 := by rw [e3]; exact qd_ g0 (Nat.lt_of_le_of_lt h0 (by decide))
  have l4 : t0 + t1 < 18446744073709551616 := Nat.lt_of_le_of_lt (Nat.add_le_add y0 y1) (by decide)
  rw [d3, e3, Nat.mod_eq_of_lt l4] at e4
  have u0 : t0 + t1 = (s0 + s1) + 256 * (t1 + t2) := qv_ g0 g1
  have u1 : t1 + t2 = (s1 + s2) + 256 * (t2 + t3) := qv_ g1 g2
  have u2 : t2 + t3 = (s2 + s3) + 256 * (t3 + t4) := qv_ g2 g3
  have u3 : t3 + t4 = (s3 + s4) + 256 * (t4 + t5) := qv_ g3 g4
  have u4 : t4 + t5 = (s4 + s5) + 256 * (t5 + t6) := qv_ g4 g5
  have u5 : t5 + t6 = (s5 + s6) + 256 * (t6 + t7) := qv_ g5 g6
  have u6 : t6 + t7 = (s6 + s7) + 256 * (t7 + t8) := qv_ g6 g7
  have u7 : t7 + t8 = (s7 + 0) + 256 * (t8 + 0) := by rw [g7, g8]
  have d4 : n4 / 65536 = t2 + t3 := by rw [e4]; exact qd2_ u0 u1 (by clear e4 e5 e6 u0 u1 u2 u3 u4 u5 u6 u7 l4 d3 e3 g0 g1 g2 g3 g4 g5 g6 g7 b0 b1 b2 b3 b4 b5 b6 b7 y0 y1 y2 y3 y4 y5 y6 y7; omega) (by clear e4 e5 e6 u0 u1 u2 u3 u4 u5 u6 u7 l4 d3 e3 g0 g1 g2 g3 g4 g5 g6 g7 b0 b1 b2 b3 b4 b5 b6 b7 y0 y1 y2 y3 y4 y5 y6 y7; omega)
  have l5 : (t0 + t1) + (t2 + t3) < 18446744073709551616 := Nat.lt_of_le_of_lt (Nat.add_le_add (Nat.add_le_add y0 y1) (Nat.add_le_add y2 y3)) (by decide)
  rw [d4, e4, Nat.mod_eq_of_lt l5] at e5
  have v0 : (t0 + t1) + (t2 + t3) = ((s0 + s1) + (s2 + s3)) + 256 * ((t1 + t2) + (t3 + t4)) := qv_ u0 u2
  have v1 : (t1 + t2) + (t3 + t4) = ((s1 + s2) + (s3 + s4)) + 256 * ((t2 + t3) + (t4 + t5)) := qv_ u1 u3
  have v2 : (t2 + t3) + (t4 + t5) = ((s2 + s3) + (s4 + s5)) + 256 * ((t3 + t4) + (t5 + t6)) := qv_ u2 u4
  have v3 : (t3 + t4) + (t5 + t6) = ((s3 + s4) + (s5 + s6)) + 256 * ((t4 + t5) + (t6 + t7)) := qv_ u3 u5
  have v4 : (t4 + t5) + (t6 + t7) = ((s4 + s5) + (s6 + s7)) + 256 * ((t5 + t6) + (t7 + t8)) := qv_ u4 u6
  have d5 : n5 / 4294967296 = (t4 + t5) + (t6 + t7) := by rw [e5]; exact qd4_ v0 v1 v2 v3 (by clear e4 e5 e6 u0 u1 u2 u3 u4 u5 u6 u7 l4 l5 d3 d4 e3 g0 g1 g2 g3 g4 g5 g6 g7 b0 b1 b2 b3 b4 b5 b6 b7 y0 y1 y2 y3 y4 y5 y6 y7 v0 v1 v2 v3 v4; omega) (by clear e4 e5 e6 u0 u1 u2 u3 u4 u5 u6 u7 l4 l5 d3 d4 e3 g0 g1 g2 g3 g4 g5 g6 g7 b0 b1 b2 b3 b4 b5 b6 b7 y0 y1 y2 y3 y4 y5 y6 y7 v0 v1 v2 v3 v4; omega) (by clear e4 e5 e6 u0 u1 u2 u3 u4 u5 u6 u7 l4 l5 d3 d4 e3 g0 g1 g2 g3 g4 g5 g6 g7 b0 b1 b2 b3 b4 b5 b6 b7 y0 y1 y2 y3 y4 y5 y6 y7 v0 v1 v2 v3 v4; omega) (by clear e4 e5 e6 u0 u1 u2 u3 u4 u5 u6 u7 l4 l5 d3 d4 e3 g0 g1 g2 g3 g4 g5 g6 g7 b0 b1 b2 b3 b4 b5 b6 b7 y0 y1 y2 y3 y4 y5 y6 y7 v0 v1 v2 v3 v4; omega)
  have l6 : ((t0 + t1) + (t2 + t3)) + ((t4 + t5) + (t6 + t7)) < 18446744073709551616 := Nat.lt_of_le_of_lt (Nat.add_le_add (Nat.add_le_add (Nat.add_le_add y0 y1) (Nat.add_le_add y2 y3)) (Nat.add_le_add (Nat.add_le_add y4 y5) (Nat.add_le_add y6 y7))) (by decide)
  rw [d5, e5, Nat.mod_eq_of_lt l6] at e6
  have r := qv_ v0 v4
  rw [e6, r]
  generalize ((t1 + t2) + (t3 + t4)) + ((t5 + t6) + (t7 + t8)) = z
  clear e4 e5 e6 u0 u1 u2 u3 u4 u5 u6 u7 l4 l5 l6 d3 d4 d5 e3 g0 g1 g2 g3 g4 g5 g6 g7 b0 b1 b2 b3 b4 b5 b6 b7 y0 y1 y2 y3 y4 y5 y6 y7 v0 v1 v2 v3 v4 r
  omega
set_option maxHeartbeats 1000000 in
theorem bc64 (x : Int64) : f_J13_bitCount_95d88 x = some (nI (fb_ct (fun j => wb x j) 64)) := by
  obtain ⟨y1, h1⟩ : ∃ y, y = x - ((Int64.toUInt64 x >>> (Int64.toUInt64 (Int32.toInt64 1) &&& Int64.toUInt64 63)).toInt64 &&& 6148914691236517205) := ⟨_, rfl⟩
  obtain ⟨y2, h2⟩ : ∃ y, y = (y1 &&& 3689348814741910323) + ((Int64.toUInt64 y1 >>> (Int64.toUInt64 (Int32.toInt64 2) &&& Int64.toUInt64 63)).toInt64 &&& 3689348814741910323) := ⟨_, rfl⟩
  obtain ⟨y3, h3⟩ : ∃ y, y = (y2 + (Int64.toUInt64 y2 >>> (Int64.toUInt64 (Int32.toInt64 4) &&& Int64.toUInt64 63)).toInt64) &&& 1085102592571150095 := ⟨_, rfl⟩
  obtain ⟨y4, h4⟩ : ∃ y, y = y3 + (Int64.toUInt64 y3 >>> (Int64.toUInt64 (Int32.toInt64 8) &&& Int64.toUInt64 63)).toInt64 := ⟨_, rfl⟩
  obtain ⟨y5, h5⟩ : ∃ y, y = y4 + (Int64.toUInt64 y4 >>> (Int64.toUInt64 (Int32.toInt64 16) &&& Int64.toUInt64 63)).toInt64 := ⟨_, rfl⟩
  obtain ⟨y6, h6⟩ : ∃ y, y = y5 + (Int64.toUInt64 y5 >>> (Int64.toUInt64 (Int32.toInt64 32) &&& Int64.toUInt64 63)).toInt64 := ⟨_, rfl⟩
  have e : f_J13_bitCount_95d88 x = some ((Int64.toInt32 y6) &&& 127) := by
    subst h6; subst h5; subst h4; subst h3; subst h2; subst h1
    rfl
  have m1 : uM 6148914691236517205 = mk8 85 8 := by decide +kernel
  have m2 : uM 3689348814741910323 = mk8 51 8 := by decide +kernel
  have m3 : uM 1085102592571150095 = mk8 15 8 := by decide +kernel
  have k1 : (Int64.toUInt64 (Int32.toInt64 1) &&& Int64.toUInt64 63).toNat % 64 = 1 := by decide +kernel
  have k2 : (Int64.toUInt64 (Int32.toInt64 2) &&& Int64.toUInt64 63).toNat % 64 = 2 := by decide +kernel
  have k4 : (Int64.toUInt64 (Int32.toInt64 4) &&& Int64.toUInt64 63).toNat % 64 = 4 := by decide +kernel
  have k8 : (Int64.toUInt64 (Int32.toInt64 8) &&& Int64.toUInt64 63).toNat % 64 = 8 := by decide +kernel
  have k16 : (Int64.toUInt64 (Int32.toInt64 16) &&& Int64.toUInt64 63).toNat % 64 = 16 := by decide +kernel
  have k32 : (Int64.toUInt64 (Int32.toInt64 32) &&& Int64.toUInt64 63).toNat % 64 = 32 := by decide +kernel
  have hx := uM_lt x
  have a1 : uM y1 = uM x - (uM x / 2 &&& mk8 85 8) := by
    have hle : (uM x / 2 &&& mk8 85 8) ≤ uM x := Nat.le_trans Nat.and_le_left (Nat.div_le_self _ _)
    have hh : uM ((Int64.toUInt64 x >>> (Int64.toUInt64 (Int32.toInt64 1) &&& Int64.toUInt64 63)).toInt64 &&& 6148914691236517205) = (uM x / 2 &&& mk8 85 8) := by rw [uM_and, uM_shr, k1, m1, Nat.pow_one]
    rw [h1, uM_sub (by rw [hh]; exact hle), hh]
  have mlt : mk8 51 8 = 3689348814741910323 := by decide +kernel
  have b2 : uM y2 = gN 8 (uM x) := by
    rw [h2, uM_add, uM_and, uM_and, uM_shr, k2, m2, a1]
    have q1 : ((uM x - (uM x / 2 &&& mk8 85 8)) &&& mk8 51 8) ≤ mk8 51 8 := Nat.and_le_right
    have q2 : ((uM x - (uM x / 2 &&& mk8 85 8)) / 2 ^ 2 &&& mk8 51 8) ≤ mk8 51 8 := Nat.and_le_right
    rw [Nat.mod_eq_of_lt (show _ < 18446744073709551616 from Nat.lt_of_le_of_lt (Nat.add_le_add q1 q2) (by rw [mlt]; decide))]
    rfl
  have glt : gN 8 (uM x) ≤ 7378697629483820646 := by
    unfold gN
    have q1 : ((uM x - (uM x / 2 &&& mk8 85 8)) &&& mk8 51 8) ≤ mk8 51 8 := Nat.and_le_right
    have q2 : ((uM x - (uM x / 2 &&& mk8 85 8)) / 4 &&& mk8 51 8) ≤ mk8 51 8 := Nat.and_le_right
    rw [mlt] at q1 q2
    exact Nat.le_trans (Nat.add_le_add q1 q2) (by decide)
  have b3 : uM y3 = hN 8 (uM x) := by
    rw [h3, uM_and, uM_add, uM_shr, k4, m3, b2, Nat.mod_eq_of_lt (show gN 8 (uM x) + gN 8 (uM x) / 2 ^ 4 < 18446744073709551616 from Nat.lt_of_le_of_lt (Nat.add_le_add glt (Nat.le_trans (Nat.div_le_self _ _) glt)) (by decide))]
    rfl
  have b4 : uM y4 = (uM y3 + uM y3 / 256) % 18446744073709551616 := by rw [h4, uM_add, uM_shr, k8]
  have b5 : uM y5 = (uM y4 + uM y4 / 65536) % 18446744073709551616 := by rw [h5, uM_add, uM_shr, k16]
  have b6 : uM y6 = (uM y5 + uM y5 / 4294967296) % 18446744073709551616 := by rw [h6, uM_add, uM_shr, k32]
  rw [hN_8 _ hx] at b3
  have r := nsum (s8_le (by omega)) (s8_le (by omega)) (s8_le (by omega)) (s8_le (by omega)) (s8_le (by omega)) (s8_le (by omega)) (s8_le (by omega)) (s8_le (by omega)) b3 b4 b5 b6
  rw [e, lN_uM y6, lN_i]
  have : nI (uM y6) &&& 127 = nI (uM y6 % 128) := fa_mask (uM y6) 7
  rw [this, r, ← ct64]
  rfl
