/-! pure: one tries (level 0: in earnest; level 1: on trial) -/
def tryG (g : Sg) (p : Int32) : Sg := (g.1, g.2.1, g.2.2.1, g.2.2.2.1 + 1, (if p = -9 then 0 else if p = g.2.1 then 1 else 0), fun i => if i = g.2.2.2.1 then p else g.2.2.2.2.2 i)
theorem tryC {c w tr : Nat} {mt kd : Nat → Nat} {g : Sg} {picture sung tried wed : Int32} {metals kinds lines picked : Nat → Int32} (hc4 : c ≤ 4) (hw6 : w ≤ 6) (htr : tr ≤ 4 ∨ tr = 9) (hmt : ∀ i, i < c → mt i < 4 ∧ metals i = nI (mt i)) (hkd : ∀ i, i < w → kd i < 4 ∧ kinds i = nI (kd i)) (ho : okS c w g) (hc : cS c g lines picture sung tried wed picked) (ht : g.2.2.2.1 < w) :
    ∃ (t' w' : Int32) (p' : Nat → Int32), f_X4_tryNext picture sung tried wed lines picked (nI tr) (nI c) metals kinds = some (en (pkS c mt (kd g.2.2.2.1) (fitS c tr g.1 (2 ^ c - 1)) g.2.2.1), t', w', p') ∧ cS c (tryG g (en (pkS c mt (kd g.2.2.2.1) (fitS c tr g.1 (2 ^ c - 1)) g.2.2.1))) lines picture sung t' w' p' := by
  have h16 := p2_lt hc4
  have hsg := ho.2.2.1
  obtain ⟨k1, k2⟩ := hkd _ ht
  have pc := pick_c (metals := metals) hc4 k1 (fit16 hc4 tr g.1 (2 ^ c - 1)) (show g.2.2.1 < 16 by omega) hmt
  generalize en (pkS c mt (kd g.2.2.2.1) (fitS c tr g.1 (2 ^ c - 1)) g.2.2.1) = P at *
  unfold f_X4_tryNext
  rw [hc.2.2.2.1, at_e (show g.2.2.2.1 < 6 by omega) (by omega), fit_e hc4 htr (ho.cln hc), k2, hc.2.2.1]
  simp only [Option.bind_some]
  rw [pc]
  simp only [Option.bind_some]
  rw [put_e (show g.2.2.2.1 < 6 by omega) (by omega), hc.2.1, nI_1]
  simp only [Option.bind_some]
  have hpk : ∀ i, i < g.2.2.2.1 + 1 → upd picked g.2.2.2.1 P i = (if i = g.2.2.2.1 then P else g.2.2.2.2.2 i) := by
    intro i hi
    by_cases z : i = g.2.2.2.1
    · rw [if_pos z, z, upd_s]
    · rw [if_neg z, upd_n z]; exact hc.2.2.2.2.2 i (by omega)
  by_cases q : P = -9
  · rw [if_pos q]
    exact ⟨_, _, _, rfl, hc.1, rfl, rfl, rfl, (if_pos q).symm, hpk⟩
  · rw [if_neg q]
    by_cases q2 : P = g.2.1
    · rw [if_pos q2]
      exact ⟨_, _, _, rfl, hc.1, rfl, rfl, rfl, by show (1 : Int32) = if P = -9 then 0 else if P = g.2.1 then 1 else 0; rw [if_neg q, if_pos q2], hpk⟩
    · rw [if_neg q2]
      exact ⟨_, _, _, rfl, hc.1, rfl, rfl, rfl, by show (0 : Int32) = if P = -9 then 0 else if P = g.2.1 then 1 else 0; rw [if_neg q, if_neg q2], hpk⟩
