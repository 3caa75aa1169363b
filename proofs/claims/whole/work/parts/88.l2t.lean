/-! pure: the trial level -/
theorem lay_loop (mn : Nat → Int32) : ∀ (d i n : Nat), i + d = 18 → d < n → f_X6_layTrial_2 n (fb_put mn mn 18 i) (nI i) = some (fb_put mn mn 18 18) := by
  intro d
  induction d with
  | zero =>
    intro i n hi hn2
    obtain ⟨n, rfl⟩ : ∃ k, n = k + 1 := ⟨n - 1, by omega⟩
    rw [q_X6_layTrial_2]
    unfold f_X6_layTrial_2_b
    rw [if_pos (show (18 : Int32) ≤ nI i from nI_le (a := 18) (by omega) (by omega)), show i = 18 by omega]
  | succ d ih =>
    intro i n hi hn2
    obtain ⟨n, rfl⟩ : ∃ k, n = k + 1 := ⟨n - 1, by omega⟩
    have e := ih (i + 1) n (by omega) (by omega)
    have x18 : (18 : Int32) + nI i = nI (18 + i) := nI_add 18 i
    rw [q_X6_layTrial_2]
    unfold f_X6_layTrial_2_b
    rw [if_neg (show ¬ (18 : Int32) ≤ nI i from nI_ge (b := 18) (by omega) (by omega)), x18, nI_clamp (show i < 2 ^ 31 by omega), nI_clamp (show 18 + i < 2 ^ 31 by omega), if_neg (gdf (show i < 36 by omega) (by omega)), if_neg (gdf (show 18 + i < 36 by omega) (by omega)), fb_put_out (k := i) (by omega), fb_put_succ, nI_1]
    exact e
theorem layTrial_e (mn : Nat → Int32) : f_X6_layTrial mn = some (fb_put mn mn 18 18) := by
  have := lay_loop mn 18 0 200 (by omega) (by omega)
  rw [fb_put_0] at this
  exact this
theorem layLine_e {j l : Nat} (hj : j < 4) (hl : l < 24) (mn : Nat → Int32) : f_X6_layLine mn (nI j) (nI l) = some (upd (upd mn (18 + j) (nI (l / 4))) (22 + j) (nI (l % 4))) := by
  unfold f_X6_layLine
  have x18 : (18 : Int32) + nI j = nI (18 + j) := nI_add 18 j
  have x22 : (22 : Int32) + nI j = nI (22 + j) := nI_add 22 j
  obtain ⟨d1, d2⟩ := div4 l hl
  rw [x18, x22, nI_clamp (show 18 + j < 2 ^ 31 by omega), nI_clamp (show 22 + j < 2 ^ 31 by omega), if_neg (gdf (show 18 + j < 36 by omega) (by omega)), if_neg (gdf (show 22 + j < 36 by omega) (by omega)), d2, d1]
/-- a line laid on trial -/
theorem mS.lay {c j l : Nat} {g : Sg} {mn : Nat → Int32} (hc : c ≤ 4) (hj : j < c) (h : mS c g mn 18) : mS c (setL g j l) (upd (upd mn (18 + j) (nI (l / 4))) (22 + j) (nI (l % 4))) 18 := by
  refine ⟨fun i hi => ?_, ?_, ?_, ?_, ?_, fun i hi => ?_⟩
  · show upd (upd mn (18 + j) (nI (l / 4))) (22 + j) (nI (l % 4)) (18 + i) = nI ((if i = j then l else g.1 i) / 4) ∧ upd (upd mn (18 + j) (nI (l / 4))) (22 + j) (nI (l % 4)) (18 + 4 + i) = nI ((if i = j then l else g.1 i) % 4)
    by_cases z : i = j
    · subst z
      rw [upd_n (by omega), upd_s, show 18 + 4 + i = 22 + i by omega, upd_s, if_pos rfl]
      exact ⟨rfl, rfl⟩
    · rw [upd_n (by omega), upd_n (by omega), upd_n (by omega), upd_n (by omega), if_neg z]
      exact h.1 i hi
  · rw [upd_n (by omega), upd_n (by omega)]; exact h.2.1
  · rw [upd_n (by omega), upd_n (by omega)]; exact h.2.2.1
  · rw [upd_n (by omega), upd_n (by omega)]; exact h.2.2.2.1
  · rw [upd_n (by omega), upd_n (by omega)]; exact h.2.2.2.2.1
  · rw [upd_n (by omega), upd_n (by omega)]; exact h.2.2.2.2.2 i hi
