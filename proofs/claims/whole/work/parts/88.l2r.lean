/-! pure: slots, the reference's side -/
theorem ix_2 {s i : Nat} (h : s < 2) (hi : i < 18) : Int32.toNatClampNeg ((18 * nI s) + nI i) = 18 * s + i ∧ ¬ (((18 * nI s) + nI i) < 0 ∨ 36 ≤ Int32.toNatClampNeg ((18 * nI s) + nI i)) := by
  rw [iy s h i hi, nI_clamp (by omega)]
  exact ⟨rfl, gdf (by omega) (by omega)⟩
theorem keepM_loop {s : Nat} (hs : s < 2) (mn ik kp : Nat → Int32) : ∀ (d i n : Nat), i + d = 18 → d < n → f_X6_keep_21 mn ik (nI s) n (fb_put kp mn (18 * s) i) (nI i) = some (mn 10, ik, fb_put kp mn (18 * s) 18) := by
  intro d
  induction d with
  | zero =>
    intro i n hi hn2
    obtain ⟨n, rfl⟩ : ∃ k, n = k + 1 := ⟨n - 1, by omega⟩
    rw [q_X6_keep_21]
    unfold f_X6_keep_21_b f_X6_keep_50
    rw [if_pos (show (18 : Int32) ≤ nI i from nI_le (a := 18) (by omega) (by omega)), show i = 18 by omega]
    rfl
  | succ d ih =>
    intro i n hi hn2
    obtain ⟨n, rfl⟩ : ∃ k, n = k + 1 := ⟨n - 1, by omega⟩
    have e := ih (i + 1) n (by omega) (by omega)
    obtain ⟨e1, e2⟩ := ix_2 hs (show i < 18 by omega)
    rw [q_X6_keep_21]
    unfold f_X6_keep_21_b
    rw [if_neg (show ¬ (18 : Int32) ≤ nI i from nI_ge (b := 18) (by omega) (by omega)), if_neg e2, e1, nI_clamp (show i < 2 ^ 31 by omega), if_neg (gdf (show i < 36 by omega) (by omega)), fb_put_succ, nI_1]
    exact e
theorem keepM_e {s : Nat} (hs : s < 2) (mn ik kp : Nat → Int32) : f_X6_keep mn ik kp (nI s) = some (mn 10, upd ik s 1, fb_put kp mn (18 * s) 18) := by
  unfold f_X6_keep
  have i1 : (1 : Int64) = lN 1 := rfl
  rw [i1, in_yes (m := 1) (by omega) (by omega)]
  simp only [Option.bind_some]
  have h := keepM_loop hs mn (upd ik s 1) kp 18 0 200 (by omega) (by omega)
  rw [fb_put_0] at h
  rw [if_neg (show ¬ (1 : Int32) = 0 by decide), nI_clamp (show s < 2 ^ 31 by omega), if_neg (gdf (show s < 2 by omega) (by omega))]
  exact h
theorem keepM_no {p : Int32} (h : p < 0 ∨ nI 2 ≤ p) (mn ik kp : Nat → Int32) : f_X6_keep mn ik kp p = some (-1, ik, kp) := by
  unfold f_X6_keep
  have i1 : (1 : Int64) = lN 1 := rfl
  rw [i1, in_no (m := 1) (by omega) h]
  rfl
