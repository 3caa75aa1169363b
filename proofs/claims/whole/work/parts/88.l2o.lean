/-! pure: one tries, the reference's side -/
theorem iy : ∀ lv, lv < 2 → ∀ k, k < 18 → (18 * nI lv) + nI k = nI (18 * lv + k) := by decide +kernel
theorem mS_try {c : Nat} {g : Sg} {mn : Nat → Int32} {off : Nat} {P s0 : Int32} (hc4 : c ≤ 4) (ht : g.2.2.2.1 < 6) (hm : mS c g mn off) (hs : s0 = (if P = -9 then 0 else if P = g.2.1 then 1 else 0)) :
    mS c (tryG g P) (upd (upd (upd mn (off + 12 + g.2.2.2.1) P) (off + 11) s0) (off + 10) (nI (g.2.2.2.1 + 1))) off := by
  refine ⟨fun i hi => ?_, ?_, ?_, upd_s _ _ _, ?_, fun i hi => ?_⟩
  · rw [upd_n (by omega), upd_n (by omega), upd_n (by omega), upd_n (by omega), upd_n (by omega), upd_n (by omega)]; exact hm.1 i hi
  · rw [upd_n (by omega), upd_n (by omega), upd_n (by omega)]; exact hm.2.1
  · rw [upd_n (by omega), upd_n (by omega), upd_n (by omega)]; exact hm.2.2.1
  · rw [upd_n (by omega), upd_s]; exact hs
  · rw [upd_n (by omega), upd_n (by omega)]
    show upd mn (off + 12 + g.2.2.2.1) P (off + 12 + i) = if i < g.2.2.2.1 + 1 then (if i = g.2.2.2.1 then P else g.2.2.2.2.2 i) else (if 100 = g.2.2.2.1 then P else g.2.2.2.2.2 100)
    have h6 := hm.2.2.2.2.2 i hi
    by_cases z : i = g.2.2.2.1
    · rw [z, upd_s, if_pos (by omega), if_pos rfl]
    · rw [upd_n (by omega), h6]
      by_cases y : i < g.2.2.2.1
      · rw [if_pos y, if_pos (by omega), if_neg z]
      · rw [if_neg y, if_neg (by omega), if_neg (by omega)]
theorem tryM {c w tr lv : Nat} {mt kd : Nat → Nat} {g : Sg} {mme mki mn : Nat → Int32} (hc4 : c ≤ 4) (hw6 : w ≤ 6) (htr : tr ≤ 4 ∨ tr = 9) (hmt : ∀ i, i < c → mt i < 4 ∧ mme i = nI (mt i)) (hkd : ∀ i, i < w → kd i < 4 ∧ mki i = nI (kd i)) (hv : lv < 2) (ho : okS c w g) (hm : mS c g mn (18 * lv)) (ht : g.2.2.2.1 < w) :
    ∃ mn' : Nat → Int32, f_X6_tryOn (nI tr) (nI c) mme mki mn (nI lv) = some (en (pkS c mt (kd g.2.2.2.1) (fitS c tr g.1 (2 ^ c - 1)) g.2.2.1), mn') ∧ mS c (tryG g (en (pkS c mt (kd g.2.2.2.1) (fitS c tr g.1 (2 ^ c - 1)) g.2.2.1))) mn' (18 * lv) ∧ ∀ q, (q < 18 * lv ∨ 18 * lv + 18 ≤ q) → mn' q = mn q := by
  have h16 := p2_lt hc4
  have hsg := ho.2.2.1
  obtain ⟨k1, k2⟩ := hkd _ ht
  have pm := pick_m (metals := mme) hc4 k1 (fit16 hc4 tr g.1 (2 ^ c - 1)) (show g.2.2.1 < 16 by omega) hmt
  have hfit := fitsOn_e hc4 (tr9 htr) (pow_sub_lt hc4) hv (ho.mln hm)
  generalize en (pkS c mt (kd g.2.2.2.1) (fitS c tr g.1 (2 ^ c - 1)) g.2.2.1) = P at *
  have e8 : (18 * nI lv) + 8 = nI (18 * lv + 8) := iy lv hv 8 (by omega)
  have e9 : (18 * nI lv) + 9 = nI (18 * lv + 9) := iy lv hv 9 (by omega)
  have e10 : (18 * nI lv) + 10 = nI (18 * lv + 10) := iy lv hv 10 (by omega)
  have e11 : (18 * nI lv) + 11 = nI (18 * lv + 11) := iy lv hv 11 (by omega)
  have e12 : (18 * nI lv) + 12 = nI (18 * lv + 12) := iy lv hv 12 (by omega)
  have key : ∀ s0 : Int32, f_X6_tryOn_92 (upd mn (18 * lv + 12 + g.2.2.2.1) P) (18 * nI lv) P s0 (nI (18 * lv + 11)) = some (P, upd (upd (upd mn (18 * lv + 12 + g.2.2.2.1) P) (18 * lv + 11) s0) (18 * lv + 10) (nI (g.2.2.2.1 + 1))) := by
    intro s0
    unfold f_X6_tryOn_92
    rw [e10, nI_clamp (show 18 * lv + 11 < 2 ^ 31 by omega), nI_clamp (show 18 * lv + 10 < 2 ^ 31 by omega), if_neg (gdf (show 18 * lv + 11 < 36 by omega) (by omega)), if_neg (gdf (show 18 * lv + 10 < 36 by omega) (by omega)), if_neg (gdf (show 18 * lv + 10 < 36 by omega) (by omega))]
    have : upd (upd mn (18 * lv + 12 + g.2.2.2.1) P) (18 * lv + 11) s0 (18 * lv + 10) = nI g.2.2.2.1 := by
      rw [upd_n (by omega), upd_n (by omega)]; exact hm.2.2.2.1
    rw [this, nI_1]
  have hout : ∀ (s0 : Int32) (q : Nat), (q < 18 * lv ∨ 18 * lv + 18 ≤ q) → upd (upd (upd mn (18 * lv + 12 + g.2.2.2.1) P) (18 * lv + 11) s0) (18 * lv + 10) (nI (g.2.2.2.1 + 1)) q = mn q := by
    intro s0 q hq
    rw [upd_n (by omega), upd_n (by omega), upd_n (by omega)]
  have u8 : upd mn (18 * lv + 12 + g.2.2.2.1) P (18 * lv + 8) = g.2.1 := by rw [upd_n (by omega)]; exact hm.2.1
  unfold f_X6_tryOn
  rw [e8, e9, e10, e11, e12, nI_clamp (show 18 * lv + 10 < 2 ^ 31 by omega), nI_clamp (show 18 * lv + 9 < 2 ^ 31 by omega), nI_clamp (show 18 * lv + 8 < 2 ^ 31 by omega), hm.2.2.2.1, hm.2.2.1, nI_add, nI_clamp (show 18 * lv + 12 + g.2.2.2.1 < 2 ^ 31 by omega), nI_clamp (show g.2.2.2.1 < 2 ^ 31 by omega), if_neg (gdf (show 18 * lv + 10 < 36 by omega) (by omega)), if_neg (gdf (show g.2.2.2.1 < 6 by omega) (by omega)), all_e c (by omega)]
  simp only [Option.bind_some]
  rw [hfit]
  simp only [Option.bind_some]
  rw [if_neg (gdf (show 18 * lv + 9 < 36 by omega) (by omega)), k2, pm]
  simp only [Option.bind_some]
  rw [if_neg (gdf (show 18 * lv + 12 + g.2.2.2.1 < 36 by omega) (by omega)), if_neg (gdf (show 18 * lv + 8 < 36 by omega) (by omega)), u8, key 0, key 1]
  by_cases q : P = -9
  · rw [if_pos q]
    exact ⟨_, rfl, mS_try hc4 (by omega) hm (by rw [if_pos q]), hout 0⟩
  · rw [if_neg q]
    by_cases q2 : P = g.2.1
    · rw [if_pos q2]
      exact ⟨_, rfl, mS_try hc4 (by omega) hm (by rw [if_neg q, if_pos q2]), hout 1⟩
    · rw [if_neg q2]
      exact ⟨_, rfl, mS_try hc4 (by omega) hm (by rw [if_neg q, if_neg q2]), hout 0⟩
