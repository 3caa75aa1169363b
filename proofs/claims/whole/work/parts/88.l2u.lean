/-! pure: keep, again -/
/-- one slot, on both sides -/
def RSl (c w s : Nat) (filled picture sung tried wed : Int32) (lines picked ik kp : Nat → Int32) : Prop :=
  filled = ik s ∧ (filled = 0 ∨ filled = 1) ∧ (filled = 0 ∨ ∃ g : Sg, okS c w g ∧ cS c g lines picture sung tried wed picked ∧ mS c g kp (18 * s))
theorem RSl.put {c w s t : Nat} {f a b d e : Int32} {l k ik kp mn : Nat → Int32} {x : Int32} (hc4 : c ≤ 4) (hs : s < 2) (ht : t < 2) (hne : ¬ s = t) (h : RSl c w s f a b d e l k ik kp) : RSl c w s f a b d e l k (upd ik t x) (fb_put kp mn (18 * t) 18) := by
  obtain ⟨h1, h2, h3⟩ := h
  refine ⟨by rw [upd_n hne]; exact h1, h2, ?_⟩
  rcases h3 with h3 | ⟨g, g1, g2, g3⟩
  · exact Or.inl h3
  · refine Or.inr ⟨g, g1, g2, g3.to hc4 (fun i hi => ?_)⟩
    rw [fb_put_out (by omega)]
theorem RSl.new {c w s : Nat} {g : Sg} {a b d e : Int32} {l k ik kp mn : Nat → Int32} (hc4 : c ≤ 4) (hs : s < 2) (ho : okS c w g) (hc : cS c g l a b d e k) (hm : mS c g mn 0) : RSl c w s 1 a b d e l k (upd ik s 1) (fb_put kp mn (18 * s) 18) := by
  refine ⟨by rw [upd_s], Or.inr rfl, Or.inr ⟨g, ho, hc, hm.to hc4 (fun i hi => ?_)⟩⟩
  rw [fb_put_in (by omega) (by omega)]
  congr 1
  omega
theorem op_keep {c w : Nat} {g : Sg} {picture sung tried wed a1 a2 a3 a4 a5 b1 b2 b3 b4 b5 : Int32} {lines picked mn a6 a7 b6 b7 ik kp : Nat → Int32} (hc4 : c ≤ 4) (hw6 : w ≤ 6) (ho : okS c w g) (hc : cS c g lines picture sung tried wed picked) (hm : mS c g mn 0) (h0 : RSl c w 0 a1 a2 a3 a4 a5 a6 a7 ik kp) (h1 : RSl c w 1 b1 b2 b3 b4 b5 b6 b7 ik kp) (p : Int32) :
    ∃ (r a1' a2' a3' a4' a5' b1' b2' b3' b4' b5' : Int32) (a6' a7' b6' b7' ik' kp' : Nat → Int32), f_X5_keep picture sung tried wed lines picked a1 a2 a3 a4 a5 a6 a7 b1 b2 b3 b4 b5 b6 b7 p = some (r, a1', a2', a3', a4', a5', a6', a7', b1', b2', b3', b4', b5', b6', b7') ∧ f_X6_keep mn ik kp p = some (r, ik', kp') ∧ RSl c w 0 a1' a2' a3' a4' a5' a6' a7' ik' kp' ∧ RSl c w 1 b1' b2' b3' b4' b5' b6' b7' ik' kp' := by
  have n10 : mn 10 = tried := by rw [hc.2.2.2.1]; exact hm.2.2.2.1
  have no : p < 0 ∨ nI 2 ≤ p → _ := fun h => keepM_no h mn ik kp
  rcases pk_ix p (n := 2) (by omega) with h | h | ⟨j, hj, rfl⟩
  · have q0 : ¬ p = 0 := by rintro rfl; exact absurd h (by decide)
    have q1 : ¬ p = 1 := by rintro rfl; exact absurd h (by decide)
    rw [no (Or.inl h)]
    unfold f_X5_keep
    rw [if_neg q0, if_neg q1]
    exact ⟨_, _, _, _, _, _, _, _, _, _, _, _, _, _, _, _, _, rfl, rfl, h0, h1⟩
  · have q0 : ¬ p = 0 := by rintro rfl; exact absurd h (by decide)
    have q1 : ¬ p = 1 := by rintro rfl; exact absurd h (by decide)
    rw [no (Or.inr h)]
    unfold f_X5_keep
    rw [if_neg q0, if_neg q1]
    exact ⟨_, _, _, _, _, _, _, _, _, _, _, _, _, _, _, _, _, rfl, rfl, h0, h1⟩
  · rw [keepM_e hj, n10]
    unfold f_X5_keep
    rcases (show j = 0 ∨ j = 1 by omega) with rfl | rfl
    · obtain ⟨l', k', e1, e2⟩ := copyS_e (p0 := a2) (s0 := a3) (t0 := a4) (w0 := a5) (l0 := a6) (k0 := a7) hc4 hw6 ho hc
      rw [if_pos (show nI 0 = 0 from rfl), e1]
      exact ⟨_, _, _, _, _, _, _, _, _, _, _, _, _, _, _, _, _, rfl, rfl, RSl.new hc4 (by omega) ho e2 hm, RSl.put hc4 (by omega) (by omega) (by omega) h1⟩
    · obtain ⟨l', k', e1, e2⟩ := copyS_e (p0 := b2) (s0 := b3) (t0 := b4) (w0 := b5) (l0 := b6) (k0 := b7) hc4 hw6 ho hc
      rw [if_neg (show ¬ nI 1 = 0 by decide), if_pos (show nI 1 = 1 from rfl), e1]
      exact ⟨_, _, _, _, _, _, _, _, _, _, _, _, _, _, _, _, _, rfl, rfl, RSl.put hc4 (by omega) (by omega) (by omega) h0, RSl.new hc4 (by omega) ho e2 hm⟩
theorem RUndo.none {c w : Nat} {g : Sg} {size macts mnext : Int32} {d a b mrow : Nat → Int32} {c0 w0 : Nat} {g0 : Sg} (ho : okS c w g) (h : RUndo c0 w0 g0 size d a b macts mnext mrow) : RUndo c w g 0 d a b 0 mnext mrow := by
  obtain ⟨k, nx, gs, hk, hn, rfl, rfl, rfl, -, -, -⟩ := h
  exact ⟨0, nx, fun _ => g, by omega, hn, rfl, rfl, rfl, rfl, fun _ _ => ho, fun j h1 h2 => by omega⟩
theorem op_again {c w : Nat} {g : Sg} {picture sung tried wed size macts mnext a1 a2 a3 a4 a5 b1 b2 b3 b4 b5 : Int32} {lines picked mn a6 a7 b6 b7 ik kp d a b mrow : Nat → Int32} (hc4 : c ≤ 4) (hw6 : w ≤ 6) (ho : okS c w g) (hc : cS c g lines picture sung tried wed picked) (hm : mS c g mn 0) (hU : RUndo c w g size d a b macts mnext mrow) (h0 : RSl c w 0 a1 a2 a3 a4 a5 a6 a7 ik kp) (h1 : RSl c w 1 b1 b2 b3 b4 b5 b6 b7 ik kp) (p : Int32) :
    ∃ (r picture' sung' tried' wed' size' macts' : Int32) (lines' picked' mn' : Nat → Int32) (g' : Sg), f_X5_again picture sung tried wed lines picked size a1 a2 a3 a4 a5 a6 a7 b1 b2 b3 b4 b5 b6 b7 p = some (r, picture', sung', tried', wed', lines', picked', size') ∧ f_X6_again macts mn ik kp p = some (r, macts', mn') ∧ okS c w g' ∧ cS c g' lines' picture' sung' tried' wed' picked' ∧ mS c g' mn' 0 ∧ RUndo c w g' size' d a b macts' mnext mrow := by
  have no : p < 0 ∨ nI 2 ≤ p → _ := fun h => againM_no h macts mn ik kp
  rcases pk_ix p (n := 2) (by omega) with h | h | ⟨j, hj, rfl⟩
  · have q0 : ¬ p = 0 := by rintro rfl; exact absurd h (by decide)
    have q1 : ¬ p = 1 := by rintro rfl; exact absurd h (by decide)
    rw [no (Or.inl h)]
    unfold f_X5_again
    rw [if_neg q0, if_neg q1]
    exact ⟨_, _, _, _, _, _, _, _, _, _, g, rfl, rfl, ho, hc, hm, hU⟩
  · have q0 : ¬ p = 0 := by rintro rfl; exact absurd h (by decide)
    have q1 : ¬ p = 1 := by rintro rfl; exact absurd h (by decide)
    rw [no (Or.inr h)]
    unfold f_X5_again
    rw [if_neg q0, if_neg q1]
    exact ⟨_, _, _, _, _, _, _, _, _, _, g, rfl, rfl, ho, hc, hm, hU⟩
  · rw [againM_e hj]
    unfold f_X5_again
    have hto : ∀ {g' : Sg}, mS c g' kp (18 * j) → mS c g' (fb_put mn (fun i => kp (18 * j + i)) 0 18) 0 := fun h => h.to hc4 (fun i hi => by
      rw [fb_put_in (by omega) (by omega)]
      congr 1
      omega)
    rcases (show j = 0 ∨ j = 1 by omega) with rfl | rfl
    · obtain ⟨z1, z2, z3⟩ := h0
      rw [if_pos (show nI 0 = 0 from rfl), ← z1]
      by_cases q : a1 = 0
      · rw [if_pos q, if_pos q]
        exact ⟨_, _, _, _, _, _, _, _, _, _, g, rfl, rfl, ho, hc, hm, hU⟩
      · rcases z3 with z3 | ⟨g', g1, g2, g3⟩
        · exact absurd z3 q
        · obtain ⟨l', k', e1, e2⟩ := copyS_e (p0 := picture) (s0 := sung) (t0 := tried) (w0 := wed) (l0 := lines) (k0 := picked) hc4 hw6 g1 g2
          have n10 : kp (18 * 0 + 10) = a4 := by rw [g2.2.2.2.1]; exact g3.2.2.2.1
          rw [if_neg q, if_neg q, e1, n10]
          exact ⟨_, _, _, _, _, _, _, _, _, _, g', rfl, rfl, g1, e2, hto g3, hU.none g1⟩
    · obtain ⟨z1, z2, z3⟩ := h1
      rw [if_neg (show ¬ nI 1 = 0 by decide), if_pos (show nI 1 = 1 from rfl), ← z1]
      by_cases q : b1 = 0
      · rw [if_pos q, if_pos q]
        exact ⟨_, _, _, _, _, _, _, _, _, _, g, rfl, rfl, ho, hc, hm, hU⟩
      · rcases z3 with z3 | ⟨g', g1, g2, g3⟩
        · exact absurd z3 q
        · obtain ⟨l', k', e1, e2⟩ := copyS_e (p0 := picture) (s0 := sung) (t0 := tried) (w0 := wed) (l0 := lines) (k0 := picked) hc4 hw6 g1 g2
          have n10 : kp (18 * 1 + 10) = b4 := by rw [g2.2.2.2.1]; exact g3.2.2.2.1
          rw [if_neg q, if_neg q, e1, n10]
          exact ⟨_, _, _, _, _, _, _, _, _, _, g', rfl, rfl, g1, e2, hto g3, hU.none g1⟩
