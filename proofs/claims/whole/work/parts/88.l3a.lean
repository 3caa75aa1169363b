/-! pure: fractions in least terms -/
theorem gcd_st (X Y : Nat) : Nat.gcd X Y = Nat.gcd Y (X % Y) := by
  rw [Nat.gcd_comm X Y, Nat.gcd_rec Y X, Nat.gcd_comm]
theorem mod_half {Y r : Nat} (h0 : 0 < r) (h : r < Y) : 2 * (Y % r) < Y := by
  have h1 := Nat.div_add_mod Y r
  have h2 : Y % r < r := Nat.mod_lt _ h0
  have h3 : 1 ≤ Y / r := Nat.div_pos (by omega) h0
  have h4 : r * 1 ≤ r * (Y / r) := Nat.mul_le_mul_left r h3
  omega
theorem gC_0 {X i n : Nat} (hi : i < 64) : f_X5_commonDivisor_7 (n + 1) (nI X) (nI 0) (nI i) = some (nI X) := by
  rw [q_X5_commonDivisor_7]
  unfold f_X5_commonDivisor_7_b
  rw [if_neg (show ¬ (64 : Int32) ≤ nI i from nI_ge (b := 64) (by omega) (by omega)), if_pos (show nI 0 = 0 from rfl)]
theorem gC_s {X Y i n : Nat} (hi : i < 64) (hX : X < 2 ^ 31) (hY : Y < 2 ^ 31) (h0 : 0 < Y) : f_X5_commonDivisor_7 (n + 1) (nI X) (nI Y) (nI i) = f_X5_commonDivisor_7 n (nI Y) (nI (X % Y)) (nI (i + 1)) := by
  rw [q_X5_commonDivisor_7]
  unfold f_X5_commonDivisor_7_b
  rw [if_neg (show ¬ (64 : Int32) ≤ nI i from nI_ge (b := 64) (by omega) (by omega)), if_neg (nI_ne0 h0 hY), if_neg (nI_ne0 h0 hY), pk_rem hX h0 hY, nI_1]
theorem gM_0 {X n : Nat} : f_X6_common_13 (n + 1) (nI X) (nI 0) = some (nI X) := by
  rw [q_X6_common_13]
  unfold f_X6_common_13_b
  rw [if_pos (show nI 0 = 0 from rfl)]
theorem gM_s {X Y n : Nat} (hX : X < 2 ^ 31) (hY : Y < 2 ^ 31) (h0 : 0 < Y) : f_X6_common_13 (n + 1) (nI X) (nI Y) = f_X6_common_13 n (nI Y) (nI (X % Y)) := by
  rw [q_X6_common_13]
  unfold f_X6_common_13_b
  rw [if_neg (nI_ne0 h0 hY), if_neg (nI_ne0 h0 hY), pk_rem hX h0 hY]
theorem gcdC : ∀ (k X Y i n : Nat), Y < 2 ^ k → X < 2 ^ 31 → Y < 2 ^ 31 → i + 2 * k + 1 ≤ 64 → 2 * k + 1 ≤ n → f_X5_commonDivisor_7 n (nI X) (nI Y) (nI i) = some (nI (Nat.gcd X Y))
  | 0, X, Y, i, n, h1, h2, h3, h4, h5 => by
    obtain ⟨n, rfl⟩ : ∃ k, n = k + 1 := ⟨n - 1, by omega⟩
    obtain rfl : Y = 0 := by simp at h1; exact h1
    rw [gC_0 (by omega), Nat.gcd_zero_right]
  | k + 1, X, Y, i, n, h1, h2, h3, h4, h5 => by
    obtain ⟨n, rfl⟩ : ∃ k, n = k + 1 := ⟨n - 1, by omega⟩
    by_cases z : Y = 0
    · subst z
      rw [gC_0 (by omega), Nat.gcd_zero_right]
    · have hr : X % Y < Y := Nat.mod_lt _ (by omega)
      obtain ⟨n, rfl⟩ : ∃ k, n = k + 1 := ⟨n - 1, by omega⟩
      rw [gC_s (by omega) h2 h3 (by omega), gcd_st X Y]
      by_cases y : X % Y = 0
      · rw [y, gC_0 (by omega), Nat.gcd_zero_right]
      · have hh := mod_half (show 0 < X % Y by omega) hr
        rw [gC_s (by omega) h3 (by omega) (by omega), gcd_st Y (X % Y)]
        exact gcdC k _ _ (i + 1 + 1) n (by rw [Nat.pow_succ] at h1; omega) (by omega) (by omega) (by omega) (by omega)
theorem gcdM : ∀ (k X Y n : Nat), Y < 2 ^ k → X < 2 ^ 31 → Y < 2 ^ 31 → 2 * k + 1 ≤ n → f_X6_common_13 n (nI X) (nI Y) = some (nI (Nat.gcd X Y))
  | 0, X, Y, n, h1, h2, h3, h5 => by
    obtain ⟨n, rfl⟩ : ∃ k, n = k + 1 := ⟨n - 1, by omega⟩
    obtain rfl : Y = 0 := by simp at h1; exact h1
    rw [gM_0, Nat.gcd_zero_right]
  | k + 1, X, Y, n, h1, h2, h3, h5 => by
    obtain ⟨n, rfl⟩ : ∃ k, n = k + 1 := ⟨n - 1, by omega⟩
    by_cases z : Y = 0
    · subst z
      rw [gM_0, Nat.gcd_zero_right]
    · have hr : X % Y < Y := Nat.mod_lt _ (by omega)
      obtain ⟨n, rfl⟩ : ∃ k, n = k + 1 := ⟨n - 1, by omega⟩
      rw [gM_s h2 h3 (by omega), gcd_st X Y]
      by_cases y : X % Y = 0
      · rw [y, gM_0, Nat.gcd_zero_right]
      · have hh := mod_half (show 0 < X % Y by omega) hr
        rw [gM_s h3 (by omega) (by omega), gcd_st Y (X % Y)]
        exact gcdM k _ _ n (by rw [Nat.pow_succ] at h1; omega) (by omega) (by omega) (by omega)
/-- what stands without its sign -/
theorem abs_n {a : Int32} (h : -2147483648 < a.toInt) : ∃ X : Nat, X < 2 ^ 31 ∧ (if 0 ≤ a then a else 0 - a) = nI X ∧ (0 ≤ a ∧ a = nI X ∨ ¬ 0 ≤ a ∧ -a = nI X) := by
  have hr := fb_rng a
  have z0 : (0 : Int32).toInt = 0 := rfl
  by_cases z : 0 ≤ a
  · refine ⟨a.toInt.toNat, ?_, ?_, Or.inl ⟨z, ?_⟩⟩
    · rw [fa_le, z0] at z; omega
    · rw [if_pos z, fa_eq, nI_i (by rw [fa_le, z0] at z; omega)]
      rw [fa_le, z0] at z; omega
    · rw [fa_eq, nI_i (by rw [fa_le, z0] at z; omega)]
      rw [fa_le, z0] at z; omega
  · have hn : (-a).toInt = -a.toInt := fb_negI (by omega)
    have hs : (0 - a).toInt = -a.toInt := by
      rw [fb_subI (by rw [z0]; omega) (by rw [z0]; rw [fa_le, z0] at z; omega), z0]
      omega
    refine ⟨(-a.toInt).toNat, ?_, ?_, Or.inr ⟨z, ?_⟩⟩
    · rw [fa_le, z0] at z; omega
    · rw [if_neg z, fa_eq, nI_i (by rw [fa_le, z0] at z; omega), hs]
      rw [fa_le, z0] at z; omega
    · rw [fa_eq, nI_i (by rw [fa_le, z0] at z; omega), hn]
      rw [fa_le, z0] at z; omega
def frM (a b u : Int32) : Option Int32 := ((f_X6_common a b).bind fun r => (if u = 0 then (if r = 0 then none else some (b / r)) else (if r = 0 then none else some (a / r))))
theorem part_e {a : Int32} {B : Nat} (ha : -2147483648 < a.toInt) (h0 : 0 < B) (hB : B < 2 ^ 14) (u : Int32) : ∃ r, f_X5_partOf a (nI B) u = some r ∧ frM a (nI B) u = some r ∧ f_X6_common a (nI B) = some (nI (Nat.gcd (if 0 ≤ a then a else 0 - a).toNatClampNeg B)) := by
  obtain ⟨X, hX, e1, e2⟩ := abs_n ha
  have eC : f_X5_commonDivisor (nI X) (nI B) = some (nI (Nat.gcd X B)) := gcdC 14 X B 0 200 hB hX (by omega) (by omega) (by omega)
  have eM : f_X6_common a (nI B) = some (nI (Nat.gcd X B)) := by
    have := gcdM 14 X B 200 hB hX (by omega) (by omega)
    unfold f_X6_common
    rcases e2 with ⟨y1, y2⟩ | ⟨y1, y2⟩
    · rw [if_pos y1, y2, this]
    · rw [if_neg y1, y2, this]
  have hg0 : 0 < Nat.gcd X B := Nat.gcd_pos_of_pos_right X h0
  have hgB : Nat.gcd X B ≤ B := Nat.gcd_le_right X h0
  have hg : ¬ nI (Nat.gcd X B) = 0 := nI_ne0 hg0 (by omega)
  have eX : (if 0 ≤ a then a else 0 - a).toNatClampNeg = X := by rw [e1, nI_clamp hX]
  rw [eX, eM]
  unfold f_X5_partOf frM
  rw [eM, Option.bind_some, if_neg hg, if_neg hg, if_pos (show (0 : Int32) < nI B from nI_lt (a := 0) h0 (by omega)), e1, eC, Option.bind_some]
  have hd : (if 1 < nI (Nat.gcd X B) then nI (Nat.gcd X B) else 1) = nI (Nat.gcd X B) := by
    by_cases z : 1 < Nat.gcd X B
    · rw [if_pos (show (1 : Int32) < nI (Nat.gcd X B) from nI_lt (a := 1) z (by omega))]
    · have : Nat.gcd X B = 1 := by omega
      rw [this]
      rfl
  rw [hd, if_neg hg, if_neg hg]
  by_cases z : a = 0
  · have hX0 : X = 0 := by
      have : nI X = nI 0 := by rw [← e1, z]; rfl
      exact (nI_eq hX (by omega)).mp this
    have hgz : Nat.gcd X B = B := by rw [hX0, Nat.gcd_zero_left]
    rw [if_pos z, hgz, z]
    have d1 : nI B / nI B = 1 := by
      rw [pk_div (by omega) h0 (by omega), Nat.div_self h0]
      rfl
    have d0 : (0 : Int32) / nI B = 0 := by
      have : nI 0 / nI B = nI (0 / B) := pk_div (by omega) h0 (by omega)
      rw [Nat.zero_div] at this
      exact this
    rw [d1, d0]
    by_cases y : u = 0
    · rw [if_pos y]; exact ⟨_, rfl, rfl, rfl⟩
    · rw [if_neg y]; exact ⟨_, rfl, rfl, rfl⟩
  · rw [if_neg z]
    by_cases y : u = 0
    · rw [if_pos y]; exact ⟨_, rfl, rfl, rfl⟩
    · rw [if_neg y]; exact ⟨_, rfl, rfl, rfl⟩
