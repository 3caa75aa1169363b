/-! pure: again, the reference's side -/
theorem againM_loop {s : Nat} (hs : s < 2) (ac : Int32) (mn kp : Nat → Int32) : ∀ (d i n : Nat), i + d = 18 → d < n → f_X6_again_26 ac kp (nI s) n (fb_put mn (fun i => kp (18 * s + i)) 0 i) (nI i) = some (fb_put mn (fun i => kp (18 * s + i)) 0 18 10, 0, fb_put mn (fun i => kp (18 * s + i)) 0 18) := by
  intro d
  induction d with
  | zero =>
    intro i n hi hn2
    obtain ⟨n, rfl⟩ : ∃ k, n = k + 1 := ⟨n - 1, by omega⟩
    rw [q_X6_again_26]
    unfold f_X6_again_26_b f_X6_again_55
    rw [if_pos (show (18 : Int32) ≤ nI i from nI_le (a := 18) (by omega) (by omega)), show i = 18 by omega]
    rfl
  | succ d ih =>
    intro i n hi hn2
    obtain ⟨n, rfl⟩ : ∃ k, n = k + 1 := ⟨n - 1, by omega⟩
    have e := ih (i + 1) n (by omega) (by omega)
    obtain ⟨e1, e2⟩ := ix_2 hs (show i < 18 by omega)
    rw [q_X6_again_26]
    unfold f_X6_again_26_b
    have hq := fb_put_succ mn (fun i => kp (18 * s + i)) 0 i
    rw [Nat.zero_add] at hq
    rw [if_neg (show ¬ (18 : Int32) ≤ nI i from nI_ge (b := 18) (by omega) (by omega)), if_neg e2, e1, nI_clamp (show i < 2 ^ 31 by omega), if_neg (gdf (show i < 36 by omega) (by omega)), hq, nI_1]
    exact e
theorem againM_e {s : Nat} (hs : s < 2) (ac : Int32) (mn ik kp : Nat → Int32) : f_X6_again ac mn ik kp (nI s) = if ik s = 0 then some (-3, ac, mn) else some (kp (18 * s + 10), 0, fb_put mn (fun i => kp (18 * s + i)) 0 18) := by
  unfold f_X6_again
  have i1 : (1 : Int64) = lN 1 := rfl
  rw [i1, in_yes (m := 1) (by omega) (by omega)]
  simp only [Option.bind_some]
  have h := againM_loop hs ac mn kp 18 0 200 (by omega) (by omega)
  rw [fb_put_0, fb_put_in (by omega) (by omega), Nat.sub_zero] at h
  have h' : f_X6_again_26 ac kp (nI s) 200 mn 0 = some (kp (18 * s + 10), 0, fb_put mn (fun i => kp (18 * s + i)) 0 18) := h
  rw [if_neg (show ¬ (1 : Int32) = 0 by decide), nI_clamp (show s < 2 ^ 31 by omega), if_neg (gdf (show s < 2 by omega) (by omega)), h']
theorem againM_no {p : Int32} (h : p < 0 ∨ nI 2 ≤ p) (ac : Int32) (mn ik kp : Nat → Int32) : f_X6_again ac mn ik kp p = some (-1, ac, mn) := by
  unfold f_X6_again
  have i1 : (1 : Int64) = lN 1 := rfl
  rw [i1, in_no (m := 1) (by omega) h]
  rfl
