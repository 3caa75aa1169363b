/-! pure: houses -/
theorem drw (x : Int64) : ∃ v : Nat, v < 96 ∧ Int64.toInt32 ((Int64.toUInt64 x >>> (Int64.toUInt64 (Int32.toInt64 33) &&& Int64.toUInt64 63)).toInt64 - (Int64.toUInt64 x >>> (Int64.toUInt64 (Int32.toInt64 33) &&& Int64.toUInt64 63)).toInt64 / 96 * 96) = nI v := by
  have hs : (Int64.toUInt64 (Int32.toInt64 33) &&& Int64.toUInt64 63).toNat % 64 = 33 := by decide +kernel
  have hx : x.toUInt64.toNat < 2 ^ 64 := x.toUInt64.toNat_lt
  have e : (Int64.toUInt64 x >>> (Int64.toUInt64 (Int32.toInt64 33) &&& Int64.toUInt64 63)).toNat = x.toUInt64.toNat / 2 ^ 33 := by
    rw [UInt64.toNat_shiftRight, hs, Nat.shiftRight_eq_div_pow]
  have hN : x.toUInt64.toNat / 2 ^ 33 < 2 ^ 31 := by omega
  have eS : (Int64.toUInt64 x >>> (Int64.toUInt64 (Int32.toInt64 33) &&& Int64.toUInt64 63)).toInt64 = lN (x.toUInt64.toNat / 2 ^ 33) := by
    apply congrArg UInt64.toInt64 (a₂ := (lN (x.toUInt64.toNat / 2 ^ 33)).toUInt64)
    apply UInt64.toNat_inj.mp
    rw [e]
    have h2 : (lN (x.toUInt64.toNat / 2 ^ 33)).toUInt64.toNat = (x.toUInt64.toNat / 2 ^ 33) % 2 ^ 64 := rfl
    rw [h2, Nat.mod_eq_of_lt (by omega)]
  have h96 : (96 : Int64) = lN 96 := rfl
  refine ⟨x.toUInt64.toNat / 2 ^ 33 % 96, Nat.mod_lt _ (by omega), ?_⟩
  rw [eS, h96, pk_lRem (by omega) (by omega) (by omega), lN_i]
theorem dv24 : ∀ v, v < 96 → nI v / 24 = nI (v / 24) ∧ nI v - nI v / 24 * 24 = nI (v % 24) := by decide +kernel
theorem rng1 (p : Int32) (m : Nat) (hm : m < 2 ^ 30) : ((p < 1 ∨ ¬ p ≤ nI m) ∧ f_X6_in p.toInt64 1 (lN m) = some 0) ∨ ∃ f, 1 ≤ f ∧ f ≤ m ∧ p = nI f ∧ f_X6_in p.toInt64 1 (lN m) = some 1 := by
  have o1 : (1 : Int64).toInt = 1 := rfl
  have o2 : (1 : Int32).toInt = 1 := rfl
  have o3 : (0 : Int32).toInt = 0 := rfl
  rw [in_e]
  rcases pk_ix p (n := m + 1) (by omega) with h | h | ⟨f, hf, rfl⟩
  · left
    rw [fa_lt, o3] at h
    refine ⟨Or.inl ?_, ?_⟩
    · rw [fa_lt, o2]; omega
    · rw [if_neg]
      rw [fa_le64, fa_le64, Int32.toInt_toInt64, o1]
      omega
  · left
    rw [fa_le, nI_i (by omega)] at h
    refine ⟨Or.inr ?_, ?_⟩
    · rw [fa_le, nI_i (by omega)]; omega
    · rw [if_neg]
      rw [fa_le64, fa_le64, Int32.toInt_toInt64, o1, lN_toInt (by omega)]
      omega
  · by_cases z : f = 0
    · left
      subst z
      refine ⟨Or.inl (by decide), ?_⟩
      rw [if_neg]
      rw [fa_le64, fa_le64, Int32.toInt_toInt64, o1, nI_i (by omega)]
      omega
    · right
      refine ⟨f, by omega, by omega, rfl, ?_⟩
      rw [if_pos]
      rw [fa_le64, fa_le64, Int32.toInt_toInt64, o1, nI_i (by omega), lN_toInt (by omega)]
      omega
theorem houses_loop {c w tr m : Nat} {g : Sg} {sp ss st sw : Int32} {sk : Nat → Int32} (hc : c ≤ 4) (htr : tr ≤ 4 ∨ tr = 9) (hm : m ≤ 20) : ∀ (d i n : Nat) (x : Int64) (sl mn : Nat → Int32) (g' : Sg) (v2 : Int32), i + d = m → d < n → okS c w g' → (∀ k, k < c → sl k = nI (g'.1 k)) → mS c g' mn 18 → mS c g mn 0 →
    ∃ (r : Int32) (x' : Int64) (sl' mn' : Nat → Int32), f_X5_houses_29 (nI tr) (nI c) sp ss st sw sk (nI m) n x sl v2 (nI i) = some (r, x', sp, ss, st, sw, sl', sk) ∧ f_X6_houses_23 (nI tr) (nI c) (nI m) n x mn v2 (nI i) = some (r, x', mn') ∧ mS c g mn' 0 := by
  intro d
  induction d with
  | zero =>
    intro i n x sl mn g' v2 hi hn ho hl h18 h0
    obtain ⟨n, rfl⟩ : ∃ k, n = k + 1 := ⟨n - 1, by omega⟩
    refine ⟨v2, x, sl, mn, ?_, ?_, h0⟩
    · rw [q_X5_houses_29]
      unfold f_X5_houses_29_b
      rw [if_pos (nI_le (by omega) (by omega))]
    · rw [q_X6_houses_23]
      unfold f_X6_houses_23_b
      rw [if_pos (nI_le (by omega) (by omega))]
  | succ d ih =>
    intro i n x sl mn g' v2 hi hn ho hl h18 h0
    obtain ⟨n, rfl⟩ : ∃ k, n = k + 1 := ⟨n - 1, by omega⟩
    obtain ⟨v, hv, ev⟩ := drw ((x * 6364136223846793005) + 1442695040888963407)
    obtain ⟨v1, v3⟩ := dv24 v hv
    have hn1 : ¬ nI m ≤ nI i := nI_ge (by omega) (by omega)
    by_cases z : v / 24 < c
    · have zc := isC_yes (c := c) (by omega) z
      have ho' := ho.setL (j := v / 24) (l := v % 24) (by omega)
      have hl' : ∀ k, k < c → upd sl (v / 24) (nI (v % 24)) k = nI ((setL g' (v / 24) (v % 24)).1 k) := by
        intro k hk
        show upd sl (v / 24) (nI (v % 24)) k = nI (if k = v / 24 then v % 24 else g'.1 k)
        by_cases y : k = v / 24
        · rw [if_pos y, y, upd_s]
        · rw [if_neg y, upd_n y]; exact hl k hk
      have h18' := h18.lay (l := v % 24) hc z
      have h0' := h0.lay0 (x := nI (v % 24 / 4)) (y := nI (v % 24 % 4)) hc z
      obtain ⟨r, x', sl', mn', e1, e2, e3⟩ := ih (i + 1) n ((x * 6364136223846793005) + 1442695040888963407) _ _ _ (v2 + nI (popc (fitS c tr (setL g' (v / 24) (v % 24)).1 (2 ^ c - 1)))) (by omega) (by omega) ho' hl' h18' h0'
      refine ⟨r, x', sl', mn', ?_, ?_, e3⟩
      · rw [q_X5_houses_29]
        unfold f_X5_houses_29_b f_X5_houses_100
        rw [if_neg hn1, Option.bind_some, Option.bind_some, ev, v3, v1, zc.2.1, Option.bind_some, if_neg (show ¬ (1 : Int32) = 0 by decide), put_e (show v / 24 < 4 by omega) (by omega), Option.bind_some, fit_e hc htr (fun k hk => ⟨ho'.1 k hk, hl' k hk⟩), Option.bind_some, bc_e _ (fit16 hc tr _ _), Option.bind_some, nI_1]
        exact e1
      · rw [q_X6_houses_23]
        unfold f_X6_houses_23_b f_X6_houses_84
        rw [if_neg hn1, Option.bind_some, Option.bind_some, ev, v3, v1, zc.1, Option.bind_some, if_neg (show ¬ (1 : Int32) = 0 by decide), layLine_e (by omega) (by omega), Option.bind_some, all_e c (by omega), Option.bind_some, fitM1 hc htr ho' h18', Option.bind_some, ones_e _ (fit16 hc tr _ _), Option.bind_some, nI_1]
        exact e2
    · have zc := isC_no (c := c) (by omega) (p := nI (v / 24)) (Or.inr (nI_le (by omega) (by omega)))
      obtain ⟨r, x', sl', mn', e1, e2, e3⟩ := ih (i + 1) n ((x * 6364136223846793005) + 1442695040888963407) _ _ _ (v2 + nI (popc (fitS c tr g'.1 (2 ^ c - 1)))) (by omega) (by omega) ho hl h18 h0
      refine ⟨r, x', sl', mn', ?_, ?_, e3⟩
      · rw [q_X5_houses_29]
        unfold f_X5_houses_29_b f_X5_houses_100
        rw [if_neg hn1, Option.bind_some, Option.bind_some, ev, v3, v1, zc.2.1, Option.bind_some, if_pos rfl, fit_e hc htr (fun k hk => ⟨ho.1 k hk, hl k hk⟩), Option.bind_some, bc_e _ (fit16 hc tr _ _), Option.bind_some, nI_1]
        exact e1
      · rw [q_X6_houses_23]
        unfold f_X6_houses_23_b f_X6_houses_84
        rw [if_neg hn1, Option.bind_some, Option.bind_some, ev, v3, v1, zc.1, Option.bind_some, if_pos rfl, all_e c (by omega), Option.bind_some, fitM1 hc htr ho h18, Option.bind_some, ones_e _ (fit16 hc tr _ _), Option.bind_some, nI_1]
        exact e2
theorem op_houses {c w tr : Nat} {mt kd : Nat → Nat} {g : Sg} {x mx : Int64} {truth caskets wooers mtr mca mwo picture sung tried wed p0 s0 t0 w0 : Int32} {metals kinds mme mki lines picked mn l0 k0 : Nat → Int32} (hH : RHs c w tr mt kd truth caskets wooers metals kinds mtr mca mwo mme mki) (ho : okS c w g) (hc : cS c g lines picture sung tried wed picked) (hm : mS c g mn 0) (hx : x = mx) (p : Int32) :
    ∃ (r : Int32) (x' : Int64) (p1 s1 t1 w1 : Int32) (l1 k1 mn' : Nat → Int32), f_X5_houses x truth caskets picture sung tried wed lines picked p0 s0 t0 w0 l0 k0 p = some (r, x', p1, s1, t1, w1, l1, k1) ∧ f_X6_houses mtr mca mx mn p = some (r, x', mn') ∧ mS c g mn' 0 := by
  obtain ⟨hc4, hw6, htr, rfl, rfl, rfl, rfl, rfl, rfl, hmt, hkd⟩ := hH
  subst hx
  unfold f_X5_houses f_X6_houses
  have i20 : (20 : Int64) = lN 20 := rfl
  rw [i20]
  rcases rng1 p 20 (by omega) with ⟨r1, r2⟩ | ⟨f, f0, f1, rfl, f2⟩
  · rw [r2, Option.bind_some, if_pos rfl]
    rcases r1 with r1 | r1
    · rw [if_pos r1]; exact ⟨-2, _, _, _, _, _, _, _, mn, rfl, rfl, hm⟩
    · have r1' : ¬ p ≤ 20 := r1
      by_cases y : p < 1
      · rw [if_pos y]; exact ⟨-2, _, _, _, _, _, _, _, mn, rfl, rfl, hm⟩
      · rw [if_neg y, if_neg r1']; exact ⟨-2, _, _, _, _, _, _, _, mn, rfl, rfl, hm⟩
  · obtain ⟨l', k', e1, e2⟩ := copyS_e (p0 := p0) (s0 := s0) (t0 := t0) (w0 := w0) (l0 := l0) (k0 := k0) hc4 hw6 ho hc
    obtain ⟨t18, t00⟩ := hm.trial hc4
    obtain ⟨r, x', sl', mn', q1, q2, q3⟩ := houses_loop (g := g) (m := f) (sp := picture) (ss := sung) (st := tried) (sw := wed) (sk := k') hc4 htr f1 f 0 200 x l' (fb_put mn mn 18 18) g 0 (by omega) (by omega) ho e2.1 t18 t00
    rw [show nI 0 = 0 from rfl] at q1 q2
    rw [f2, Option.bind_some, if_neg (show ¬ (1 : Int32) = 0 by decide), if_neg (show ¬ nI f < 1 from nI_nlt (b := 1) (by omega) (by omega)), if_pos (show nI f ≤ 20 from nI_le (b := 20) (by omega) (by omega)), e1, Option.bind_some, layTrial_e, Option.bind_some, q2]
    exact ⟨r, x', _, _, _, _, _, _, mn', q1, rfl, q3⟩
