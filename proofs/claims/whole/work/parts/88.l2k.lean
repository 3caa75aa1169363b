/-! pure: move, sing -/
theorem mS.pic {c : Nat} {g : Sg} {mn : Nat → Int32} {x : Int32} (hc : c ≤ 4) (h : mS c g mn 0) : mS c (g.1, x, g.2.2) (upd mn 8 x) 0 := by
  refine ⟨fun i hi => ?_, upd_s _ _ _, ?_, ?_, ?_, fun i hi => ?_⟩
  · rw [upd_n (by omega), upd_n (by omega)]; exact h.1 i hi
  · rw [upd_n (by omega)]; exact h.2.2.1
  · rw [upd_n (by omega)]; exact h.2.2.2.1
  · rw [upd_n (by omega)]; exact h.2.2.2.2.1
  · rw [upd_n (by omega)]; exact h.2.2.2.2.2 i hi
theorem mS.sng {c : Nat} {g : Sg} {mn : Nat → Int32} {x : Nat} (hc : c ≤ 4) (h : mS c g mn 0) : mS c (g.1, g.2.1, x, g.2.2.2) (upd mn 9 (nI x)) 0 := by
  refine ⟨fun i hi => ?_, ?_, upd_s _ _ _, ?_, ?_, fun i hi => ?_⟩
  · rw [upd_n (by omega), upd_n (by omega)]; exact h.1 i hi
  · rw [upd_n (by omega)]; exact h.2.1
  · rw [upd_n (by omega)]; exact h.2.2.2.1
  · rw [upd_n (by omega)]; exact h.2.2.2.2.1
  · rw [upd_n (by omega)]; exact h.2.2.2.2.2 i hi
theorem op_move {c w : Nat} {g : Sg} {size macts mnext picture sung tried wed : Int32} {d a b mrow mn lines picked : Nat → Int32} (hc4 : c ≤ 4) (ho : okS c w g) (hc : cS c g lines picture sung tried wed picked) (hm : mS c g mn 0) (hU : RUndo c w g size d a b macts mnext mrow) (p : Int32) :
    ∃ (r picture' size' macts' mnext' : Int32) (d' a' b' mn' mrow' : Nat → Int32) (g' : Sg), f_X5_move (nI c) picture size d a b p = some (r, picture', size', d', a', b') ∧ f_X6_move (nI c) macts mnext mn mrow p = some (r, macts', mnext', mn', mrow') ∧ okS c w g' ∧ cS c g' lines picture' sung tried wed picked ∧ mS c g' mn' 0 ∧ RUndo c w g' size' d' a' b' macts' mnext' mrow' := by
  unfold f_X5_move f_X6_move
  have n8 : mn (Int32.toNatClampNeg 8) = g.2.1 := hm.2.1
  rcases pk_ix p (n := c) (by omega) with h | h | ⟨j, hj, rfl⟩
  · have z := isC_no (c := c) (by omega) (p := p) (Or.inl h)
    rw [z.1, z.2.1]
    exact ⟨-1, _, _, _, _, _, _, _, _, _, g, rfl, rfl, ho, hc, hm, hU⟩
  · have z := isC_no (c := c) (by omega) (p := p) (Or.inr h)
    rw [z.1, z.2.1]
    exact ⟨-1, _, _, _, _, _, _, _, _, _, g, rfl, rfl, ho, hc, hm, hU⟩
  · have z := isC_yes (c := c) (by omega) hj
    rw [z.1, z.2.1, n8]
    simp only [Option.bind_some]
    rw [if_neg (show ¬ (1 : Int32) = 0 by decide), if_neg (show ¬ (1 : Int32) = 0 by decide)]
    have hpic := hc.2.1
    by_cases q : g.2.1 = nI j
    · rw [if_pos (show picture = nI j by rw [hpic]; exact q), if_pos q]
      exact ⟨-3, _, _, _, _, _, _, _, _, _, g, rfl, rfl, ho, hc, hm, hU⟩
    · rw [if_neg (show ¬ picture = nI j by rw [hpic]; exact q), if_neg q]
      have ho' : okS c w (g.1, nI j, g.2.2) := ⟨ho.1, Or.inr ⟨j, hj, rfl⟩, ho.2.2⟩
      have hB : Back c 1 (nI j) picture (g.1, nI j, g.2.2) g := Or.inr (Or.inl ⟨rfl, fun _ _ => rfl, hpic, rfl⟩)
      obtain ⟨s', m', x', d', a', b', r', e1, e2, -, e4⟩ := hU.push hc4 hm ho' hB
      rw [e1, e2]
      refine ⟨g.2.1, nI j, s', m', x', d', a', b', upd mn 8 (nI j), r', (g.1, nI j, g.2.2), ?_, rfl, ho', ⟨hc.1, rfl, hc.2.2⟩, hm.pic hc4, e4⟩
      simp only [Option.bind_some]
      rw [hpic]
theorem op_sing {c w : Nat} {g : Sg} {size macts mnext picture sung tried wed : Int32} {d a b mrow mn lines picked : Nat → Int32} (hc4 : c ≤ 4) (ho : okS c w g) (hc : cS c g lines picture sung tried wed picked) (hm : mS c g mn 0) (hU : RUndo c w g size d a b macts mnext mrow) (p : Int32) :
    ∃ (r sung' size' macts' mnext' : Int32) (d' a' b' mn' mrow' : Nat → Int32) (g' : Sg), f_X5_sing (nI c) sung size d a b p = some (r, sung', size', d', a', b') ∧ f_X6_sing (nI c) macts mnext mn mrow p = some (r, macts', mnext', mn', mrow') ∧ okS c w g' ∧ cS c g' lines picture sung' tried wed picked ∧ mS c g' mn' 0 ∧ RUndo c w g' size' d' a' b' macts' mnext' mrow' := by
  unfold f_X5_sing f_X6_sing
  have n9 : mn (Int32.toNatClampNeg 9) = nI g.2.2.1 := hm.2.2.1
  rcases pk_ix p (n := c) (by omega) with h | h | ⟨j, hj, rfl⟩
  · have z := isC_no (c := c) (by omega) (p := p) (Or.inl h)
    rw [z.1, z.2.1]
    exact ⟨-1, _, _, _, _, _, _, _, _, _, g, rfl, rfl, ho, hc, hm, hU⟩
  · have z := isC_no (c := c) (by omega) (p := p) (Or.inr h)
    rw [z.1, z.2.1]
    exact ⟨-1, _, _, _, _, _, _, _, _, _, g, rfl, rfl, ho, hc, hm, hU⟩
  · have z := isC_yes (c := c) (by omega) hj
    have hx := two_pow_xor_lt ho.2.2.1 hj
    have ho' : okS c w (g.1, g.2.1, g.2.2.1 ^^^ 2 ^ j, g.2.2.2) := ⟨ho.1, ho.2.1, hx, ho.2.2.2⟩
    have hB : Back c 2 (nI j) 0 (g.1, g.2.1, g.2.2.1 ^^^ 2 ^ j, g.2.2.2) g := Or.inr (Or.inr (Or.inl ⟨rfl, fun _ _ => rfl, rfl, ⟨j, hj, rfl, by show g.2.2.1 = (g.2.2.1 ^^^ 2 ^ j) ^^^ 2 ^ j; rw [Nat.xor_assoc, Nat.xor_self, Nat.xor_zero]⟩, rfl⟩))
    obtain ⟨s', m', x', d', a', b', r', e1, e2, -, e4⟩ := hU.push hc4 hm ho' hB
    rw [z.1, z.2.1, n9]
    simp only [Option.bind_some]
    rw [if_neg (show ¬ (1 : Int32) = 0 by decide), if_neg (show ¬ (1 : Int32) = 0 by decide), e1, e2]
    unfold f_X4_turnSong
    rw [hc.2.2.1, song_e hc4 ho.2.2.1 hj]
    have u9 : upd mn (Int32.toNatClampNeg 9) (nI (g.2.2.1 ^^^ 2 ^ j)) (Int32.toNatClampNeg 9) = nI (g.2.2.1 ^^^ 2 ^ j) := upd_s mn 9 _
    simp only [Option.bind_some]
    rw [u9]
    exact ⟨_, _, s', m', x', d', a', b', _, r', (g.1, g.2.1, g.2.2.1 ^^^ 2 ^ j, g.2.2.2), rfl, rfl, ho', ⟨hc.1, hc.2.1, rfl, hc.2.2.2⟩, hm.sng hc4, e4⟩
