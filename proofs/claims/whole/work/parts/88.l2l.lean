/-! pure: mend, undo -/
theorem in_no {p : Int32} {m : Nat} (hm : m < 2 ^ 30) (h : p < 0 ∨ nI (m + 1) ≤ p) : f_X6_in p.toInt64 0 (lN m) = some 0 := by
  rw [in_e, if_neg]
  rw [fa_le64, fa_le64, Int32.toInt_toInt64, pk_lT (by omega)]
  rw [fa_lt, fa_le, nI_i (by omega)] at h
  have : (0 : Int64).toInt = 0 := rfl
  have : (0 : Int32).toInt = 0 := rfl
  omega
theorem in_yes {s m : Nat} (hm : m < 2 ^ 30) (h : s ≤ m) : f_X6_in (nI s).toInt64 0 (lN m) = some 1 := by
  rw [in_e, if_pos]
  rw [fa_le64, fa_le64, Int32.toInt_toInt64, pk_lT (by omega), nI_i (by omega)]
  have : (0 : Int64).toInt = 0 := rfl
  omega
theorem lin_c : ∀ s, s < 6 → ∀ e, e < 4 → (4 * nI s) + nI e = nI (4 * s + e) ∧ (10 * nI s) + nI e = nI (10 * s + e) := by decide +kernel
theorem fig_e : ∀ l, l < 24 → f_X5_figuresOf (nI l) = some (nI (10 * (l / 4) + l % 4)) := by decide +kernel
def setL (g : Sg) (j l : Nat) : Sg := (fun i => if i = j then l else g.1 i, g.2)
theorem op_mend {c w : Nat} {g : Sg} {size macts mnext picture sung tried wed : Int32} {d a b mrow mn lines picked : Nat → Int32} (hc4 : c ≤ 4) (ho : okS c w g) (hc : cS c g lines picture sung tried wed picked) (hm : mS c g mn 0) (hU : RUndo c w g size d a b macts mnext mrow) (p q r : Int32) :
    ∃ (z size' macts' mnext' : Int32) (lines' d' a' b' mn' mrow' : Nat → Int32) (g' : Sg), f_X5_mend (nI c) lines size d a b p q r = some (z, lines', size', d', a', b') ∧ f_X6_mend (nI c) macts mnext mn mrow p q r = some (z, macts', mnext', mn', mrow') ∧ okS c w g' ∧ cS c g' lines' picture sung tried wed picked ∧ mS c g' mn' 0 ∧ RUndo c w g' size' d' a' b' macts' mnext' mrow' := by
  unfold f_X5_mend f_X6_mend
  have i5 : (5 : Int64) = lN 5 := rfl
  have i3 : (3 : Int64) = lN 3 := rfl
  rw [i5, i3]
  rcases pk_ix p (n := c) (by omega) with h | h | ⟨j, hj, rfl⟩
  · have z := isC_no (c := c) (by omega) (p := p) (Or.inl h)
    rw [z.1, z.2.1]
    exact ⟨-1, _, _, _, _, _, _, _, _, _, g, rfl, rfl, ho, hc, hm, hU⟩
  · have z := isC_no (c := c) (by omega) (p := p) (Or.inr h)
    rw [z.1, z.2.1]
    exact ⟨-1, _, _, _, _, _, _, _, _, _, g, rfl, rfl, ho, hc, hm, hU⟩
  have z := isC_yes (c := c) (by omega) hj
  rw [z.1, z.2.1]
  simp only [Option.bind_some]
  rw [if_neg (show ¬ (1 : Int32) = 0 by decide), if_neg (show ¬ (1 : Int32) = 0 by decide)]
  rcases pk_ix q (n := 6) (by omega) with h | h | ⟨s, hs, rfl⟩
  · rw [in_no (m := 5) (by omega) (Or.inl h), if_pos h]
    exact ⟨-2, _, _, _, _, _, _, _, _, _, g, rfl, rfl, ho, hc, hm, hU⟩
  · rw [in_no (m := 5) (by omega) (Or.inr h)]
    by_cases q0 : q < 0
    · rw [if_pos q0]
      exact ⟨-2, _, _, _, _, _, _, _, _, _, g, rfl, rfl, ho, hc, hm, hU⟩
    · rw [if_neg q0, if_pos (show (6 : Int32) ≤ q from h)]
      exact ⟨-2, _, _, _, _, _, _, _, _, _, g, rfl, rfl, ho, hc, hm, hU⟩
  rw [in_yes (m := 5) (by omega) (by omega), if_neg (show ¬ nI s < 0 from nI_pos (by omega)), if_neg (show ¬ (6 : Int32) ≤ nI s from nI_ge (b := 6) (by omega) (by omega))]
  simp only [Option.bind_some]
  rw [if_neg (show ¬ (1 : Int32) = 0 by decide)]
  rcases pk_ix r (n := 4) (by omega) with h | h | ⟨e, he, rfl⟩
  · rw [in_no (m := 3) (by omega) (Or.inl h), if_pos h]
    exact ⟨-2, _, _, _, _, _, _, _, _, _, g, rfl, rfl, ho, hc, hm, hU⟩
  · rw [in_no (m := 3) (by omega) (Or.inr h)]
    have n4 : ¬ r < 4 := by
      have h' : (4 : Int32) ≤ r := h
      rw [fa_lt]
      rw [fa_le] at h'
      omega
    by_cases q0 : r < 0
    · rw [if_pos q0]
      exact ⟨-2, _, _, _, _, _, _, _, _, _, g, rfl, rfl, ho, hc, hm, hU⟩
    · rw [if_neg q0, if_neg n4]
      exact ⟨-2, _, _, _, _, _, _, _, _, _, g, rfl, rfl, ho, hc, hm, hU⟩
  obtain ⟨l1, l2⟩ := lin_c s hs e he
  have x4 : (4 : Int32) + nI j = nI (4 + j) := nI_add 4 j
  have hl := ho.1 j hj
  obtain ⟨n1, n2⟩ := hm.1 j hj
  rw [Nat.zero_add] at n1 n2
  have y10 : (10 * nI (g.1 j / 4)) + nI (g.1 j % 4) = nI (10 * (g.1 j / 4) + g.1 j % 4) := (lin_c _ (by omega) _ (by omega)).2
  rw [in_yes (m := 3) (by omega) (by omega), if_neg (show ¬ nI e < 0 from nI_pos (by omega)), if_pos (show nI e < 4 from nI_lt (b := 4) (by omega) (by omega)), at_e (show j < 4 by omega) (by omega), l1, l2, x4, nI_clamp (show j < 2 ^ 31 by omega), nI_clamp (show 4 + j < 2 ^ 31 by omega), hc.1 j hj, n1, n2, y10]
  simp only [Option.bind_some]
  rw [if_neg (show ¬ (1 : Int32) = 0 by decide), if_neg (gdf (show j < 36 by omega) (by omega)), if_neg (gdf (show 4 + j < 36 by omega) (by omega))]
  by_cases q0 : g.1 j = 4 * s + e
  · rw [if_pos (show nI (g.1 j) = nI (4 * s + e) by rw [q0]), if_pos (show nI (10 * (g.1 j / 4) + g.1 j % 4) = nI (10 * s + e) by congr 1; omega)]
    exact ⟨-3, _, _, _, _, _, _, _, _, _, g, rfl, rfl, ho, hc, hm, hU⟩
  · rw [if_neg (nI_dec (by omega) (by omega) q0), if_neg (nI_dec (by omega) (by omega) (show ¬ 10 * (g.1 j / 4) + g.1 j % 4 = 10 * s + e by omega))]
    have ho' : okS c w (setL g j (4 * s + e)) := ⟨fun i hi => by
      show (if i = j then 4 * s + e else g.1 i) < 24
      split
      · omega
      · exact ho.1 i hi, ho.2⟩
    have hB : Back c 3 (nI j) (nI (g.1 j)) (setL g j (4 * s + e)) g := Or.inr (Or.inr (Or.inr ⟨rfl, ⟨j, hj, rfl, rfl, fun i _ hne => if_neg hne⟩, rfl⟩))
    obtain ⟨s', m', x', d', a', b', r', e1, e2, -, e4⟩ := hU.push hc4 hm ho' hB
    rw [e1, e2, put_e (show j < 4 by omega) (by omega), fig_e _ hl]
    simp only [Option.bind_some]
    rw [if_neg (gdf (show j < 36 by omega) (by omega)), if_neg (gdf (show 4 + j < 36 by omega) (by omega))]
    refine ⟨_, s', m', x', _, d', a', b', _, r', setL g j (4 * s + e), rfl, rfl, ho', ⟨fun i hi => ?_, hc.2⟩, ⟨fun i hi => ?_, ?_, ?_, ?_, ?_, fun i hi => ?_⟩, e4⟩
    · show upd lines j _ i = nI (if i = j then 4 * s + e else g.1 i)
      by_cases zz : i = j
      · subst zz; rw [upd_s, if_pos rfl]
      · rw [upd_n zz, if_neg zz]; exact hc.1 i hi
    · show upd (upd mn j (nI s)) (4 + j) (nI e) (0 + i) = nI ((if i = j then 4 * s + e else g.1 i) / 4) ∧ upd (upd mn j (nI s)) (4 + j) (nI e) (0 + 4 + i) = nI ((if i = j then 4 * s + e else g.1 i) % 4)
      obtain ⟨w1, w2⟩ := hm.1 i hi
      rw [Nat.zero_add] at w1 w2 ⊢
      by_cases zz : i = j
      · subst zz
        rw [upd_n (by omega), upd_s, upd_s, if_pos rfl]
        constructor <;> congr 1 <;> omega
      · rw [upd_n (by omega), upd_n zz, upd_n (by omega), upd_n (by omega), if_neg zz]
        exact ⟨w1, w2⟩
    · rw [upd_n (by omega), upd_n (by omega)]; exact hm.2.1
    · rw [upd_n (by omega), upd_n (by omega)]; exact hm.2.2.1
    · rw [upd_n (by omega), upd_n (by omega)]; exact hm.2.2.2.1
    · rw [upd_n (by omega), upd_n (by omega)]; exact hm.2.2.2.2.1
    · rw [upd_n (by omega), upd_n (by omega)]; exact hm.2.2.2.2.2 i hi
