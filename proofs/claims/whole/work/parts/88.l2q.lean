/-! pure: copies of standings -/
theorem copy_loop {N : Nat} (hN : N < 100) (f t : Nat → Int32) : ∀ (d i n : Nat), i + d = N → d < n → f_X5_copyRow_2 N f N n (fb_put t f 0 i) (nI i) = some (fb_put t f 0 N) := by
  intro d
  induction d with
  | zero =>
    intro i n hi hn
    obtain ⟨n, rfl⟩ : ∃ k, n = k + 1 := ⟨n - 1, by omega⟩
    rw [q_X5_copyRow_2]
    unfold f_X5_copyRow_2_b
    rw [if_pos (show Int32.ofNat N ≤ nI i from nI_le (by omega) (by omega)), show i = N by omega]
  | succ d ih =>
    intro i n hi hn
    obtain ⟨n, rfl⟩ : ∃ k, n = k + 1 := ⟨n - 1, by omega⟩
    have e := ih (i + 1) n (by omega) (by omega)
    rw [q_X5_copyRow_2]
    unfold f_X5_copyRow_2_b
    have hs := fb_put_succ t f 0 i
    rw [Nat.zero_add] at hs
    rw [if_neg (show ¬ Int32.ofNat N ≤ nI i from nI_ge (by omega) (by omega)), if_neg (show ¬ Int32.ofNat N ≤ nI i from nI_ge (by omega) (by omega)), nI_clamp (show i < 2 ^ 31 by omega), if_neg (gdf (show i < N by omega) (by omega)), if_neg (gdf (show i < N by omega) (by omega)), hs, nI_1]
    exact e
theorem copyRow_e {N : Nat} (hN : N < 100) (f t : Nat → Int32) : f_X5_copyRow N f N t = some (fb_put t f 0 N) := by
  have := copy_loop hN f t N 0 200 (by omega) (by omega)
  rw [fb_put_0] at this
  exact this
theorem copyS_e {c w : Nat} {g : Sg} {p0 s0 t0 w0 picture sung tried wed : Int32} {l0 k0 lines picked : Nat → Int32} (hc4 : c ≤ 4) (hw6 : w ≤ 6) (ho : okS c w g) (hc : cS c g lines picture sung tried wed picked) :
    ∃ (l' k' : Nat → Int32), f_X4_copyFrom p0 s0 t0 w0 l0 k0 picture sung tried wed lines picked = some (picture, sung, tried, wed, l', k') ∧ cS c g l' picture sung tried wed k' := by
  unfold f_X4_copyFrom
  have hw : wed = 0 ∨ wed = 1 := by rw [hc.2.2.2.2.1]; exact ho.2.2.2.2.1
  rw [copyRow_e (by omega), copyRow_e (by omega)]
  simp only [Option.bind_some]
  rw [if_pos hw]
  have ht := ho.2.2.2.1
  refine ⟨_, _, rfl, fun i hi => ?_, hc.2.1, hc.2.2.1, hc.2.2.2.1, hc.2.2.2.2.1, fun i hi => ?_⟩
  · rw [fb_put_in (by omega) (by omega), Nat.sub_zero]; exact hc.1 i hi
  · rw [fb_put_in (by omega) (by omega), Nat.sub_zero]; exact hc.2.2.2.2.2 i hi
theorem op_seed {s m : Int64} (h : s = m) (v : Int64) : ∃ r, f_X5_seed s v = some (r, v) ∧ f_X6_seed m v = some (r, v) := by
  subst h
  exact ⟨s, rfl, rfl⟩
