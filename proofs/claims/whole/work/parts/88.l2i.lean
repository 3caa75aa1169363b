/-! pure: acts kept, on both sides -/
def shf (r : Nat → Int32) (i : Nat) : Nat → Int32 := fun j => if j + 1 < i then r (j + 1) else r j
theorem ix_m1 {i : Nat} (h1 : 1 ≤ i) (h : i < 2 ^ 30) : nI i - 1 = nI (i - 1) := by
  have := pk_sub (a := i) (b := 1) h1
  exact this
theorem forget_loop (r : Nat → Int32) : ∀ (d i n : Nat), i + d = 14 → 1 ≤ i → d < n → f_X0_forgetFirst_2 14 n (shf r i) (nI i) = some (shf r 14) := by
  intro d
  induction d with
  | zero =>
    intro i n hi h1 hn
    obtain ⟨n, rfl⟩ : ∃ k, n = k + 1 := ⟨n - 1, by omega⟩
    rw [q_X0_forgetFirst_2]
    unfold f_X0_forgetFirst_2_b
    rw [if_pos (show Int32.ofNat 14 ≤ nI i from nI_le (a := 14) (by omega) (by omega)), show i = 14 by omega]
  | succ d ih =>
    intro i n hi h1 hn
    obtain ⟨n, rfl⟩ : ∃ k, n = k + 1 := ⟨n - 1, by omega⟩
    have e := ih (i + 1) n (by omega) (by omega) (by omega)
    rw [q_X0_forgetFirst_2]
    unfold f_X0_forgetFirst_2_b
    rw [if_neg (show ¬ Int32.ofNat 14 ≤ nI i from nI_ge (b := 14) (by omega) (by omega)), ix_m1 h1 (by omega), nI_clamp (show i < 2 ^ 31 by omega), nI_clamp (show i - 1 < 2 ^ 31 by omega), if_neg (gdf (show i < 14 by omega) (by omega)), if_neg (gdf (show i - 1 < 14 by omega) (by omega)), nI_1]
    have hs : upd (shf r i) (i - 1) (shf r i i) = shf r (i + 1) := by
      funext j
      unfold upd shf
      by_cases z : j = i - 1
      · subst z
        rw [if_pos rfl, if_neg (by omega), if_pos (by omega)]
        congr 1
        omega
      · rw [if_neg z]
        by_cases y : j + 1 < i
        · rw [if_pos y, if_pos (by omega)]
        · rw [if_neg y, if_neg (by omega)]
    rw [hs]
    exact e
theorem forget_e (r : Nat → Int32) : f_X0_forgetFirst 14 r = some (shf r 14) := by
  have h0 : shf r 1 = r := by
    funext j
    unfold shf
    rw [if_neg (by omega)]
  have := forget_loop r 13 1 200 (by omega) (by omega) (by omega)
  rw [h0] at this
  exact this
/-- the records behind one more act: the newest is at the end -/
theorem add_e {k : Nat} (hk : k ≤ 14) (d a b : Nat → Int32) (x y z : Int32) : ∃ (k' : Nat) (d' a' b' : Nat → Int32), f_X0_add (nI k) d a b x y z = some (nI k', d', a', b') ∧ k' = (if k < 14 then k + 1 else 14) ∧ d' (k' - 1) = x ∧ a' (k' - 1) = y ∧ b' (k' - 1) = z ∧ ∀ j, 1 ≤ j → j + 1 ≤ k' → d' (k' - (j + 1)) = d (k - j) ∧ a' (k' - (j + 1)) = a (k - j) ∧ b' (k' - (j + 1)) = b (k - j) := by
  unfold f_X0_add f_X0_add_36
  by_cases h : k < 14
  · rw [if_pos (show nI k < 14 from nI_lt (b := 14) h (by omega)), put_e h (by omega), put_e h (by omega), put_e h (by omega)]
    refine ⟨k + 1, upd d k x, upd a k y, upd b k z, ?_, (if_pos h).symm, ?_, ?_, ?_, ?_⟩
    · simp only [Option.bind_some]; rw [nI_1]
    · exact upd_s d k x
    · exact upd_s a k y
    · exact upd_s b k z
    · intro j h1 h2
      rw [show k + 1 - (j + 1) = k - j by omega, upd_n (by omega), upd_n (by omega), upd_n (by omega)]
      exact ⟨rfl, rfl, rfl⟩
  · obtain rfl : k = 14 := by omega
    have h13 : (13 : Int32) = nI 13 := rfl
    rw [if_neg (show ¬ nI 14 < 14 by decide), forget_e, forget_e, forget_e]
    simp only [Option.bind_some]
    rw [h13, put_e (show 13 < 14 by omega) (by omega), put_e (show 13 < 14 by omega) (by omega), put_e (show 13 < 14 by omega) (by omega)]
    refine ⟨14, upd (shf d 14) 13 x, upd (shf a 14) 13 y, upd (shf b 14) 13 z, ?_, (if_neg (by omega)).symm, ?_, ?_, ?_, ?_⟩
    · simp only [Option.bind_some]; rfl
    · exact upd_s _ 13 x
    · exact upd_s _ 13 y
    · exact upd_s _ 13 z
    · intro j h1 h2
      rw [upd_n (by omega), upd_n (by omega), upd_n (by omega)]
      unfold shf
      rw [if_pos (by omega), if_pos (by omega), if_pos (by omega), show 14 - (j + 1) + 1 = 14 - j by omega]
      exact ⟨rfl, rfl, rfl⟩
theorem ix_row {nx i : Nat} (h : nx < 14) (hi : i < 18) : Int32.toNatClampNeg ((18 * nI nx) + nI i) = 18 * nx + i ∧ ¬ (((18 * nI nx) + nI i) < 0 ∨ 252 ≤ Int32.toNatClampNeg ((18 * nI nx) + nI i)) := by
  have e : (18 : Int32) * nI nx + nI i = nI (18 * nx + i) := by
    have : (18 : Int32) * nI nx = nI (18 * nx) := pk_mul 18 nx
    rw [this, nI_add]
  rw [e, nI_clamp (by omega)]
  exact ⟨rfl, gdf (by omega) (by omega)⟩
theorem keep_loop {k nx : Nat} (hn : nx < 14) (now row : Nat → Int32) : ∀ (d i n : Nat), i + d = 18 → d < n → f_X6_keepAct_2 (nI k) (nI nx) now n (fb_put row now (18 * nx) i) (nI i) = f_X6_keepAct_34 (nI k) (nI nx) (fb_put row now (18 * nx) 18) := by
  intro d
  induction d with
  | zero =>
    intro i n hi hn2
    obtain ⟨n, rfl⟩ : ∃ k, n = k + 1 := ⟨n - 1, by omega⟩
    rw [q_X6_keepAct_2]
    unfold f_X6_keepAct_2_b
    rw [if_pos (show (18 : Int32) ≤ nI i from nI_le (a := 18) (by omega) (by omega)), show i = 18 by omega]
  | succ d ih =>
    intro i n hi hn2
    obtain ⟨n, rfl⟩ : ∃ k, n = k + 1 := ⟨n - 1, by omega⟩
    have e := ih (i + 1) n (by omega) (by omega)
    obtain ⟨e1, e2⟩ := ix_row hn (show i < 18 by omega)
    rw [q_X6_keepAct_2]
    unfold f_X6_keepAct_2_b
    rw [if_neg (show ¬ (18 : Int32) ≤ nI i from nI_ge (b := 18) (by omega) (by omega)), if_neg e2, e1, nI_clamp (show i < 2 ^ 31 by omega), if_neg (gdf (show i < 36 by omega) (by omega)), fb_put_succ, nI_1]
    exact e
theorem mod14 {nx : Nat} (h : nx < 14) : (nI nx + 1) - (nI nx + 1) / 14 * 14 = nI ((nx + 1) % 14) := by
  have : ∀ nx, nx < 14 → (nI nx + 1) - (nI nx + 1) / 14 * 14 = nI ((nx + 1) % 14) := by decide +kernel
  exact this nx h
theorem keepAct_e {k nx : Nat} (hk : k ≤ 14) (hn : nx < 14) (now row : Nat → Int32) : f_X6_keepAct (nI k) (nI nx) now row = some (nI (if k < 14 then k + 1 else 14), nI ((nx + 1) % 14), fb_put row now (18 * nx) 18) := by
  unfold f_X6_keepAct
  have h := keep_loop (k := k) hn now row 18 0 200 (by omega) (by omega)
  rw [fb_put_0] at h
  have h' : f_X6_keepAct_2 (nI k) (nI nx) now 200 row 0 = f_X6_keepAct_34 (nI k) (nI nx) (fb_put row now (18 * nx) 18) := h
  rw [h']
  unfold f_X6_keepAct_34
  rw [mod14 hn]
  by_cases z : k < 14
  · rw [if_neg (show ¬ (14 : Int32) ≤ nI k from nI_ge (b := 14) z (by omega)), if_pos z, nI_1]
  · rw [if_pos (show (14 : Int32) ≤ nI k from nI_le (a := 14) (by omega) (by omega)), if_neg z]
    rfl
