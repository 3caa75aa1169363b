/-! pure: rests -/
theorem rests_all : ∀ p, p < 2 → ∀ c, c < 5 → ∀ s, s < 2 ^ c → f_X5_rests_33 (nI c) (nI p) (nI s) 200 0 (-9) 0 = f_X6_rests_32 (nI c) (nI p) (nI s) 200 0 (-9) 0 ∧ (f_X6_rests_32 (nI c) (nI p) (nI s) 200 0 (-9) 0).isSome = true := by decide +kernel
theorem op_rests {c w tr : Nat} {mt kd : Nat → Nat} {g : Sg} {truth caskets wooers mtr mca mwo picture sung tried wed : Int32} {metals kinds mme mki lines picked mn : Nat → Int32} (hH : RHs c w tr mt kd truth caskets wooers metals kinds mtr mca mwo mme mki) (ho : okS c w g) (hc : cS c g lines picture sung tried wed picked) (hm : mS c g mn 0) (p : Int32) :
    ∃ r, f_X5_rests truth caskets lines p = some r ∧ f_X6_rests mtr mca mn p = some r := by
  obtain ⟨hc4, hw6, htr, rfl, rfl, rfl, rfl, rfl, rfl, hmt, hkd⟩ := hH
  unfold f_X5_rests f_X6_rests
  have i1 : (1 : Int64) = lN 1 := rfl
  rw [i1]
  rcases rng0 p 1 (by omega) with ⟨r1, r2⟩ | ⟨f, f1, rfl, f2⟩
  · rw [r2, Option.bind_some, if_pos rfl]
    rcases r1 with r1 | r1
    · rw [if_pos r1]; exact ⟨-2, rfl, rfl⟩
    · have r1' : ¬ p ≤ 1 := r1
      by_cases y : p < 0
      · rw [if_pos y]; exact ⟨-2, rfl, rfl⟩
      · rw [if_neg y, if_neg r1']; exact ⟨-2, rfl, rfl⟩
  · obtain ⟨h1, h2⟩ := rests_all f (by omega) c (by omega) _ (fitS_lt tr g.1 (2 ^ c - 1))
    obtain ⟨r, hr⟩ := Option.isSome_iff_exists.mp h2
    rw [hr] at h1
    rw [f2, Option.bind_some, if_neg (show ¬ (1 : Int32) = 0 by decide), if_neg (nI_pos (by omega)), if_pos (show nI f ≤ 1 from nI_le (b := 1) (by omega) (by omega)), fit_e hc4 htr (ho.cln hc), Option.bind_some, all_e c (by omega), Option.bind_some, fitM hc4 htr ho hm, Option.bind_some, h1, hr]
    exact ⟨r, rfl, rfl⟩
