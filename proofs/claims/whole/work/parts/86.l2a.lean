/-! pure: the small functions of both sides, by numbers -/
theorem rk_S {S O : Type} (b : (S → Option O) → S → Option O) (n : Nat) (x : S) : rk b (n + 1) x = b (rk b n) x := rfl
theorem in_e (a b c : Int64) : f_X6_in a b c = some (if b ≤ a ∧ a ≤ c then 1 else 0) := by
  unfold f_X6_in
  by_cases h1 : lg_cmp a b < 0
  · have h2 := (lg_cmp_lt a b).mp h1
    rw [if_pos h1, if_neg]
    rw [fa_lt64] at h2
    rw [fa_le64, fa_le64]
    omega
  · have h2 : ¬ a < b := fun h => h1 ((lg_cmp_lt a b).mpr h)
    rw [if_neg h1]
    rw [fa_lt64] at h2
    by_cases h3 : 0 < lg_cmp a c
    · have h4 := (lg_cmp_gt a c).mp h3
      rw [fa_lt64] at h4
      rw [if_pos h3, if_neg]
      rw [fa_le64, fa_le64]
      omega
    · have h4 : ¬ c < a := fun h => h3 ((lg_cmp_gt a c).mpr h)
      rw [fa_lt64] at h4
      rw [if_neg h3, if_pos]
      rw [fa_le64, fa_le64]
      omega
theorem sub1_i : ∀ c, c < 7 → (nI c - 1).toInt = (c : Int) - 1 := by decide
theorem nI_i {n : Nat} (h : n < 2 ^ 31) : (nI n).toInt = (n : Int) := nI_toInt h
theorem isC_no {c : Nat} (hc : c ≤ 6) {p : Int32} (h : p < 0 ∨ nI c ≤ p) : f_X6_isCasket (nI c) p = some 0 ∧ f_X1_hasCasket (nI c) p = some 0 ∧ f_X6_isWooer (nI c) p = some 0 ∧ f_X1_hasWooer (nI c) p = some 0 := by
  have e1 : ¬ ((0 : Int64) ≤ p.toInt64 ∧ p.toInt64 ≤ (nI c - 1).toInt64) := by
    rw [fa_wide_le, fa_le64, Int32.toInt_toInt64, fa_le, sub1_i c (by omega)]
    rw [fa_lt, fa_le, nI_i (by omega)] at h
    have : (0 : Int64).toInt = 0 := rfl
    have : (0 : Int32).toInt = 0 := rfl
    omega
  refine ⟨?_, ?_, ?_, ?_⟩
  · unfold f_X6_isCasket; rw [in_e, if_neg e1]; rfl
  · unfold f_X1_hasCasket
    rcases h with h | h
    · rw [if_pos h]
    · by_cases h0 : p < 0
      · rw [if_pos h0]
      · rw [if_neg h0, if_pos h]
  · unfold f_X6_isWooer; rw [in_e, if_neg e1]; rfl
  · unfold f_X1_hasWooer
    rcases h with h | h
    · rw [if_pos h]
    · by_cases h0 : p < 0
      · rw [if_pos h0]
      · rw [if_neg h0, if_pos h]
theorem isC_yes {c j : Nat} (hc : c ≤ 6) (hj : j < c) : f_X6_isCasket (nI c) (nI j) = some 1 ∧ f_X1_hasCasket (nI c) (nI j) = some 1 ∧ f_X6_isWooer (nI c) (nI j) = some 1 ∧ f_X1_hasWooer (nI c) (nI j) = some 1 := by
  have e1 : (0 : Int64) ≤ (nI j).toInt64 ∧ (nI j).toInt64 ≤ (nI c - 1).toInt64 := by
    rw [fa_wide_le, fa_le64, Int32.toInt_toInt64, fa_le, sub1_i c (by omega), nI_i (by omega)]
    have : (0 : Int64).toInt = 0 := rfl
    omega
  have e2 : ¬ nI j < 0 := nI_pos (by omega)
  have e3 : ¬ nI c ≤ nI j := nI_ge hj (by omega)
  refine ⟨?_, ?_, ?_, ?_⟩
  · unfold f_X6_isCasket; rw [in_e, if_pos e1]; rfl
  · unfold f_X1_hasCasket; rw [if_neg e2, if_neg e3]
  · unfold f_X6_isWooer; rw [in_e, if_pos e1]; rfl
  · unfold f_X1_hasWooer; rw [if_neg e2, if_neg e3]
/-- a flag as an int -/
def bI (b : Bool) : Int32 := if b then 1 else 0
theorem bI_01 (b : Bool) : bI b = 0 ∨ bI b = 1 := by cases b <;> simp [bI]
theorem bI_0 (b : Bool) : bI b = 0 ↔ b = false := by cases b <;> simp [bI]
theorem bI_inj (a b : Bool) : bI a = bI b ↔ a = b := by cases a <;> cases b <;> simp [bI]
theorem has_e : ∀ s, s < 16 → ∀ k, k < 4 → f_X6_has (nI s) (nI k) = some (bI (s.testBit k)) := by decide +kernel
def popc (s : Nat) : Nat := s % 2 + s / 2 % 2 + s / 4 % 2 + s / 8 % 2
theorem ones_e : ∀ s, s < 16 → f_X6_ones (nI s) = some (nI (popc s)) := by decide +kernel
theorem bc_e : ∀ s, s < 16 → f_J6_bitCount_0f7a4 (nI s) = some (nI (popc s)) := by decide +kernel
theorem popc_le : ∀ s, s < 16 → popc s ≤ 4 := by decide
theorem all_e : ∀ c, c < 5 → f_X6_all (nI c) = some (nI (2 ^ c - 1)) := by decide +kernel
theorem allC_e : ∀ c, c < 5 → ((1 : Int32) <<< (nI c &&& 31)) - 1 = nI (2 ^ c - 1) := by decide +kernel
theorem shl_e : ∀ c, c < 5 → ((1 : Int32) <<< (nI c &&& 31)) = nI (2 ^ c) := by decide +kernel
theorem shr_e : ∀ s, s < 16 → ∀ k, k < 4 → ((nI s >>> (nI k &&& 31)) &&& 1) = bI (s.testBit k) := by decide +kernel
theorem p2_lt {c : Nat} (hc : c ≤ 4) : 2 ^ c ≤ 16 := by
  have : ∀ c, c < 5 → 2 ^ c ≤ 16 := by decide
  exact this c (by omega)
/-- what line l on casket i says, in a house of c caskets -/
def sy (c l i there set : Nat) : Bool := if l / 4 = 0 then decide (there = i) else if l / 4 = 1 then !decide (there = i) else if l / 4 = 2 then decide (there = l % 4) else if l / 4 = 3 then !decide (there = l % 4) else if l / 4 = 4 then (decide (l % 4 < c) && set.testBit (l % 4)) else !(decide (l % 4 < c) && set.testBit (l % 4))
theorem ix_a : ∀ lv, lv < 2 → ∀ i, i < 4 → Int32.toNatClampNeg (((18 * nI lv) + 4) + nI i) = 18 * lv + 4 + i ∧ ¬ ((((18 * nI lv) + 4) + nI i) < 0) := by decide +kernel
theorem ix_b : ∀ lv, lv < 2 → ∀ i, i < 4 → Int32.toNatClampNeg ((18 * nI lv) + nI i) = 18 * lv + i ∧ ¬ (((18 * nI lv) + nI i) < 0) := by decide +kernel
theorem nI_dec {a b : Nat} (ha : a < 2 ^ 31) (hb : b < 2 ^ 31) (h : ¬ a = b) : ¬ nI a = nI b := fun e => h ((nI_eq ha hb).mp e)
theorem says_e {c l i there set lv : Nat} (hc : c ≤ 4) (hl : l < 24) (hi : i < 4) (ht : there < 4) (hs : set < 16) (hv : lv < 2) {now : Nat → Int32} (h1 : now (18 * lv + i) = nI (l / 4)) (h2 : now (18 * lv + 4 + i) = nI (l % 4)) :
    f_X6_says (nI c) now (nI lv) (nI i) (nI there) (nI set) = some (bI (sy c l i there set)) := by
  obtain ⟨e1, e2⟩ := ix_a lv hv i hi
  obtain ⟨e3, e4⟩ := ix_b lv hv i hi
  unfold f_X6_says
  rw [e1, e3, if_neg (by rintro (h | h); exact e2 h; omega), if_neg (by rintro (h | h); exact e4 h; omega), h1, h2]
  have hq : l % 4 < 4 := Nat.mod_lt _ (by omega)
  have hC : f_X6_isCasket (nI c) (nI (l % 4)) = some (bI (decide (l % 4 < c))) := by
    by_cases h : l % 4 < c
    · rw [(isC_yes (by omega) h).1]; simp [h, bI]
    · rw [(isC_no (by omega) (Or.inr (nI_le (by omega) (by omega)))).1]; simp [h, bI]
  have hH := has_e set hs (l % 4) hq
  rw [hC, hH]
  have k0 : (nI (l / 4) = 0) = (l / 4 = 0) := propext (nI_eq (b := 0) (by omega) (by omega))
  have k1 : (nI (l / 4) = 1) = (l / 4 = 1) := propext (nI_eq (b := 1) (by omega) (by omega))
  have k2 : (nI (l / 4) = 2) = (l / 4 = 2) := propext (nI_eq (b := 2) (by omega) (by omega))
  have k3 : (nI (l / 4) = 3) = (l / 4 = 3) := propext (nI_eq (b := 3) (by omega) (by omega))
  have k4 : (nI (l / 4) = 4) = (l / 4 = 4) := propext (nI_eq (b := 4) (by omega) (by omega))
  have kt : (nI there = nI i) = (there = i) := propext (nI_eq (by omega) (by omega))
  have ka : (nI there = nI (l % 4)) = (there = l % 4) := propext (nI_eq (by omega) (by omega))
  simp only [k0, k1, k2, k3, k4, kt, ka]
  unfold sy
  generalize (set.testBit (l % 4)) = bb
  by_cases q0 : l / 4 = 0
  · rw [if_pos q0, if_pos q0]; by_cases z : there = i <;> simp [z, bI]
  rw [if_neg q0, if_neg q0]
  by_cases q1 : l / 4 = 1
  · rw [if_pos q1, if_pos q1]; by_cases z : there = i <;> simp [z, bI]
  rw [if_neg q1, if_neg q1]
  by_cases q2 : l / 4 = 2
  · rw [if_pos q2, if_pos q2]; by_cases z : there = l % 4 <;> simp [z, bI]
  rw [if_neg q2, if_neg q2]
  by_cases q3 : l / 4 = 3
  · rw [if_pos q3, if_pos q3]; by_cases z : there = l % 4 <;> simp [z, bI]
  rw [if_neg q3, if_neg q3]
  by_cases q4 : l / 4 = 4
  · rw [if_pos q4, if_pos q4]; by_cases z : l % 4 < c <;> cases bb <;> simp [z, bI]
  · rw [if_neg q4, if_neg q4]; by_cases z : l % 4 < c <;> cases bb <;> simp [z, bI]
