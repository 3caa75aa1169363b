/-! pure: undo -/
theorem mod13 {nx : Nat} (h : nx < 14) : (nI nx + 13) - (nI nx + 13) / 14 * 14 = nI ((nx + 13) % 14) := by
  have : ∀ nx, nx < 14 → (nI nx + 13) - (nI nx + 13) / 14 * 14 = nI ((nx + 13) % 14) := by decide +kernel
  exact this nx h
theorem undo_loop {x nx : Nat} (hn : nx < 14) (now row : Nat → Int32) : ∀ (d i n : Nat), i + d = 18 → d < n → f_X6_undo_36 (nI x) (nI nx) row n (fb_put now (fun i => row (18 * nx + i)) 0 i) (nI i) = some (nI x, nI x, nI nx, fb_put now (fun i => row (18 * nx + i)) 0 18) := by
  intro d
  induction d with
  | zero =>
    intro i n hi hn2
    obtain ⟨n, rfl⟩ : ∃ k, n = k + 1 := ⟨n - 1, by omega⟩
    rw [q_X6_undo_36]
    unfold f_X6_undo_36_b
    rw [if_pos (show (18 : Int32) ≤ nI i from nI_le (a := 18) (by omega) (by omega)), show i = 18 by omega]
  | succ d ih =>
    intro i n hi hn2
    obtain ⟨n, rfl⟩ : ∃ k, n = k + 1 := ⟨n - 1, by omega⟩
    have e := ih (i + 1) n (by omega) (by omega)
    obtain ⟨e1, e2⟩ := ix_row hn (show i < 18 by omega)
    rw [q_X6_undo_36]
    unfold f_X6_undo_36_b
    rw [if_neg (show ¬ (18 : Int32) ≤ nI i from nI_ge (b := 18) (by omega) (by omega)), if_neg e2, e1, nI_clamp (show i < 2 ^ 31 by omega), if_neg (gdf (show i < 36 by omega) (by omega)), nI_1]
    have hs := fb_put_succ now (fun i => row (18 * nx + i)) 0 i
    rw [Nat.zero_add] at hs
    rw [hs]
    exact e
theorem op_undo {c w : Nat} {g : Sg} {size macts mnext picture sung tried wed : Int32} {d a b mrow mn lines picked : Nat → Int32} (hc4 : c ≤ 4) (hw6 : w ≤ 6) (hc : cS c g lines picture sung tried wed picked) (hm : mS c g mn 0) (hU : RUndo c w g size d a b macts mnext mrow) :
    ∃ (z picture' sung' tried' wed' size' macts' mnext' : Int32) (lines' mn' : Nat → Int32) (g' : Sg), f_X5_undo picture sung tried wed lines size d a b = some (z, picture', sung', tried', wed', lines', size') ∧ f_X6_undo macts mnext mn mrow = some (z, macts', mnext', mn') ∧ okS c w g' ∧ cS c g' lines' picture' sung' tried' wed' picked ∧ mS c g' mn' 0 ∧ RUndo c w g' size' d a b macts' mnext' mrow := by
  obtain ⟨k, nx, gs, hk, hn, rfl, rfl, rfl, hg0, hok, hall⟩ := id hU
  subst hg0
  unfold f_X5_undo f_X6_undo
  by_cases k0 : k = 0
  · subst k0
    rw [if_neg (show ¬ (0 : Int32) < nI 0 by decide), if_pos (show nI 0 = 0 by decide)]
    exact ⟨-3, _, _, _, _, _, _, _, _, _, gs 0, rfl, rfl, hok 0 (by omega), hc, hm, hU⟩
  · obtain ⟨q1, q2⟩ := hall 1 (by omega) (by omega)
    rw [if_pos (show (0 : Int32) < nI k from nI_lt (a := 0) (by omega) (by omega)), if_neg (nI_ne0 (by omega) (by omega)), ix_m1 (by omega) (by omega), at_e (show k - 1 < 14 by omega) (by omega), at_e (show k - 1 < 14 by omega) (by omega), at_e (show k - 1 < 14 by omega) (by omega), mod13 hn]
    simp only [Option.bind_some]
    rw [Nat.sub_self] at q2
    obtain ⟨p', s', t', w', l', e1, e2⟩ := takeBack_e hc4 hw6 (hok 0 (by omega)) (hok 1 (by omega)) hc q2
    have hn' : (nx + 13) % 14 < 14 := Nat.mod_lt _ (by omega)
    have e3 := undo_loop (x := k - 1) hn' mn mrow 18 0 200 (by omega) (by omega)
    rw [fb_put_0] at e3
    have e3' : f_X6_undo_36 (nI (k - 1)) (nI ((nx + 13) % 14)) mrow 200 mn 0 = some (nI (k - 1), nI (k - 1), nI ((nx + 13) % 14), fb_put mn (fun i => mrow (18 * ((nx + 13) % 14) + i)) 0 18) := e3
    rw [e1, e3']
    refine ⟨nI (k - 1), p', s', t', w', nI (k - 1), nI (k - 1), nI ((nx + 13) % 14), l', _, gs 1, rfl, rfl, hok 1 (by omega), e2, ?_, k - 1, (nx + 13) % 14, fun j => gs (j + 1), by omega, hn', rfl, rfl, rfl, rfl, fun j hj => hok (j + 1) (by omega), fun j h1 h2 => ?_⟩
    · refine q1.to hc4 (fun i hi => ?_)
      rw [fb_put_in (by omega) (by omega), show nx + 14 - 1 = nx + 13 by omega]
      congr 1
      omega
    · obtain ⟨r1, r2⟩ := hall (j + 1) (by omega) (by omega)
      constructor
      · have : ((nx + 13) % 14 + 14 - j) % 14 = (nx + 14 - (j + 1)) % 14 := by omega
        rw [this]
        exact r1
      · have h5 : k - 1 - j = k - (j + 1) := by omega
        rw [h5]
        show Back c _ _ _ (gs (j - 1 + 1)) (gs (j + 1))
        rw [show j - 1 + 1 = j + 1 - 1 by omega]
        exact r2
