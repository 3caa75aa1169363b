/-! pure: attempt -/
theorem okS_try {c w : Nat} {g : Sg} {P : Int32} (hw6 : w ≤ 6) (ho : okS c w g) (ht : g.2.2.2.1 < w) : okS c w (tryG g P) := by
  refine ⟨ho.1, ho.2.1, ho.2.2.1, ht, ?_, Or.inr ?_⟩
  · show (if P = -9 then (0 : Int32) else if P = g.2.1 then 1 else 0) = 0 ∨ (if P = -9 then (0 : Int32) else if P = g.2.1 then 1 else 0) = 1
    split
    · exact Or.inl rfl
    · split
      · exact Or.inr rfl
      · exact Or.inl rfl
  · show (if 100 = g.2.2.2.1 then P else g.2.2.2.2.2 100) = -9
    rw [if_neg (by omega)]
    rcases ho.2.2.2.2.2 with h | h
    · omega
    · exact h
theorem op_attempt {c w tr : Nat} {mt kd : Nat → Nat} {g : Sg} {truth caskets wooers mtr mca mwo picture sung tried wed size macts mnext : Int32} {metals kinds mme mki lines picked mn d a b mrow : Nat → Int32} (hH : RHs c w tr mt kd truth caskets wooers metals kinds mtr mca mwo mme mki) (ho : okS c w g) (hc : cS c g lines picture sung tried wed picked) (hm : mS c g mn 0) (hU : RUndo c w g size d a b macts mnext mrow) :
    ∃ (r tried' wed' size' macts' mnext' : Int32) (picked' d' a' b' mn' mrow' : Nat → Int32) (g' : Sg), f_X5_attempt truth caskets wooers metals kinds picture sung tried wed lines picked size d a b = some (r, tried', wed', picked', size', d', a', b') ∧ f_X6_attempt mtr mca mwo macts mnext mme mki mn mrow = some (r, macts', mnext', mn', mrow') ∧ okS c w g' ∧ cS c g' lines picture sung tried' wed' picked' ∧ mS c g' mn' 0 ∧ RUndo c w g' size' d' a' b' macts' mnext' mrow' := by
  obtain ⟨hc4, hw6, htr, rfl, rfl, rfl, rfl, rfl, rfl, hmt, hkd⟩ := hH
  have n10 : mn (Int32.toNatClampNeg ((18 * 0) + 10)) = nI g.2.2.2.1 := hm.2.2.2.1
  have n11 : mn (Int32.toNatClampNeg ((18 * 0) + 11)) = g.2.2.2.2.1 := hm.2.2.2.2.1
  have ht6 := ho.2.2.2.1
  have mt0 : f_X4_mayTry tried wed (nI w) = some (bI (decide (g.2.2.2.2.1 = 0) && decide (g.2.2.2.1 < w))) := by
    unfold f_X4_mayTry
    rw [hc.2.2.2.1, hc.2.2.2.2.1]
    by_cases q : g.2.2.2.2.1 = 0
    · rw [if_pos q]
      by_cases z : g.2.2.2.1 < w
      · rw [if_neg (nI_ge z (by omega))]; simp [q, z, bI]
      · rw [if_pos (nI_le (by omega) (by omega))]; simp [z, bI]
    · rw [if_neg q]; simp [q, bI]
  have mt1 : f_X6_canTry (nI w) mn 0 = some (bI (decide (g.2.2.2.2.1 = 0) && decide (g.2.2.2.1 < w))) := by
    unfold f_X6_canTry
    rw [n10, n11, if_neg (show ¬ (((18 : Int32) * 0) + 10 < 0 ∨ 36 ≤ Int32.toNatClampNeg ((18 * 0) + 10)) by decide), if_neg (show ¬ (((18 : Int32) * 0) + 11 < 0 ∨ 36 ≤ Int32.toNatClampNeg ((18 * 0) + 11)) by decide)]
    by_cases z : g.2.2.2.1 < w
    · rw [if_neg (nI_ge z (by omega))]
      by_cases q : g.2.2.2.2.1 = 0
      · rw [if_pos q]; simp [q, z, bI]
      · rw [if_neg q]; simp [q, bI]
    · rw [if_pos (nI_le (by omega) (by omega))]; simp [z, bI]
  unfold f_X5_attempt f_X6_attempt
  rw [mt0, mt1]
  simp only [Option.bind_some, bI_0]
  by_cases q : g.2.2.2.2.1 = 0 ∧ g.2.2.2.1 < w
  · obtain ⟨q1, q2⟩ := q
    have qf : ¬ (decide (g.2.2.2.2.1 = 0) && decide (g.2.2.2.1 < w)) = false := by simp [q1, q2]
    rw [if_neg qf, if_neg qf]
    obtain ⟨t', w', p', c1, c2⟩ := tryC (metals := metals) (kinds := kinds) hc4 hw6 htr (fun i hi => ⟨(hmt i hi).1, (hmt i hi).2.1⟩) (fun i hi => ⟨(hkd i hi).1, (hkd i hi).2.1⟩) ho hc q2
    obtain ⟨mn', m1, m2, -⟩ := tryM (lv := 0) (mme := mme) (mki := mki) hc4 hw6 htr (fun i hi => ⟨(hmt i hi).1, (hmt i hi).2.2⟩) (fun i hi => ⟨(hkd i hi).1, (hkd i hi).2.2⟩) (by omega) ho hm q2
    have m1' : f_X6_tryOn (nI tr) (nI c) mme mki mn 0 = some (en (pkS c mt (kd g.2.2.2.1) (fitS c tr g.1 (2 ^ c - 1)) g.2.2.1), mn') := m1
    have ho' := okS_try (P := en (pkS c mt (kd g.2.2.2.1) (fitS c tr g.1 (2 ^ c - 1)) g.2.2.1)) hw6 ho q2
    have hB : Back c 0 0 0 (tryG g (en (pkS c mt (kd g.2.2.2.1) (fitS c tr g.1 (2 ^ c - 1)) g.2.2.1))) g := Or.inl ⟨rfl, fun _ _ => rfl, rfl, rfl, rfl, q1, fun i hi => if_neg (by omega)⟩
    obtain ⟨s', m', x', d', a', b', r', e1, e2, -, e4⟩ := hU.push hc4 hm ho' hB
    rw [e1, e2, c1, m1']
    exact ⟨_, t', w', s', m', x', p', d', a', b', mn', r', _, rfl, rfl, ho', c2, m2, e4⟩
  · have qf : (decide (g.2.2.2.2.1 = 0) && decide (g.2.2.2.1 < w)) = false := by
      by_cases z : g.2.2.2.2.1 = 0
      · have : ¬ g.2.2.2.1 < w := fun y => q ⟨z, y⟩
        simp [this]
      · simp [z]
    rw [if_pos qf, if_pos qf]
    exact ⟨-3, _, _, _, _, _, _, _, _, _, _, _, g, rfl, rfl, ho, hc, hm, hU⟩
