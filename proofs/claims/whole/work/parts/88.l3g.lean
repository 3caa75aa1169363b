/-! pure: judge -/
theorem mS.pic18 {c : Nat} {g : Sg} {mn : Nat → Int32} {x : Int32} (hc : c ≤ 4) (h : mS c g mn 18) : mS c (g.1, x, g.2.2) (upd mn 26 x) 18 := by
  refine ⟨fun i hi => ?_, upd_s _ _ _, ?_, ?_, ?_, fun i hi => ?_⟩
  · rw [upd_n (by omega), upd_n (by omega)]; exact h.1 i hi
  · rw [upd_n (by omega)]; exact h.2.2.1
  · rw [upd_n (by omega)]; exact h.2.2.2.1
  · rw [upd_n (by omega)]; exact h.2.2.2.2.1
  · rw [upd_n (by omega)]; exact h.2.2.2.2.2 i hi
theorem mS.sng18 {c : Nat} {g : Sg} {mn : Nat → Int32} {x : Nat} (hc : c ≤ 4) (h : mS c g mn 18) : mS c (g.1, g.2.1, x, g.2.2.2) (upd mn 27 (nI x)) 18 := by
  refine ⟨fun i hi => ?_, ?_, upd_s _ _ _, ?_, ?_, fun i hi => ?_⟩
  · rw [upd_n (by omega), upd_n (by omega)]; exact h.1 i hi
  · rw [upd_n (by omega)]; exact h.2.1
  · rw [upd_n (by omega)]; exact h.2.2.2.1
  · rw [upd_n (by omega)]; exact h.2.2.2.2.1
  · rw [upd_n (by omega)]; exact h.2.2.2.2.2 i hi
theorem mS.up0 {c q : Nat} {g : Sg} {mn : Nat → Int32} {x : Int32} (hc : c ≤ 4) (hq : 18 ≤ q) (h : mS c g mn 0) : mS c g (upd mn q x) 0 := by
  refine h.to hc (fun i hi => ?_)
  rw [upd_n (by omega)]
def mayB (w : Nat) (g : Sg) : Bool := decide (g.2.2.2.2.1 = 0) && decide (g.2.2.2.1 < w)
theorem mayC {c w : Nat} {g : Sg} {picture sung tried wed : Int32} {lines picked : Nat → Int32} (hw6 : w ≤ 6) (ho : okS c w g) (hc : cS c g lines picture sung tried wed picked) : f_X4_mayTry tried wed (nI w) = some (bI (mayB w g)) := by
  have ht6 := ho.2.2.2.1
  unfold f_X4_mayTry mayB
  rw [hc.2.2.2.1, hc.2.2.2.2.1]
  by_cases q : g.2.2.2.2.1 = 0
  · rw [if_pos q]
    by_cases z : g.2.2.2.1 < w
    · rw [if_neg (nI_ge z (by omega))]; simp [q, z, bI]
    · rw [if_pos (nI_le (by omega) (by omega))]; simp [z, bI]
  · rw [if_neg q]; simp [q, bI]
theorem mayM1 {c w : Nat} {g : Sg} {mn : Nat → Int32} (hw6 : w ≤ 6) (ho : okS c w g) (hm : mS c g mn 18) : f_X6_canTry (nI w) mn 1 = some (bI (mayB w g)) := by
  have ht6 := ho.2.2.2.1
  have n10 : mn (Int32.toNatClampNeg ((18 * 1) + 10)) = nI g.2.2.2.1 := hm.2.2.2.1
  have n11 : mn (Int32.toNatClampNeg ((18 * 1) + 11)) = g.2.2.2.2.1 := hm.2.2.2.2.1
  unfold f_X6_canTry mayB
  rw [n10, n11, if_neg (show ¬ (((18 : Int32) * 1) + 10 < 0 ∨ 36 ≤ Int32.toNatClampNeg ((18 * 1) + 10)) by decide), if_neg (show ¬ (((18 : Int32) * 1) + 11 < 0 ∨ 36 ≤ Int32.toNatClampNeg ((18 * 1) + 11)) by decide)]
  by_cases z : g.2.2.2.1 < w
  · rw [if_neg (nI_ge z (by omega))]
    by_cases q : g.2.2.2.2.1 = 0
    · rw [if_pos q]; simp [q, z, bI]
    · rw [if_neg q]; simp [q, bI]
  · rw [if_pos (nI_le (by omega) (by omega))]; simp [z, bI]
theorem dv10 : ∀ t, t < 100 → nI t / 10 = nI (t / 10) ∧ nI t - nI t / 10 * 10 = nI (t % 10) := by decide +kernel
/-- one doing on trial -/
theorem thing {c w tr t : Nat} {mt kd : Nat → Nat} {g g' : Sg} {picture sung tried wed : Int32} {metals kinds mme mki lines picked mn : Nat → Int32} (hc4 : c ≤ 4) (hw6 : w ≤ 6) (htr : tr ≤ 4 ∨ tr = 9) (hmt : ∀ i, i < c → mt i < 4 ∧ metals i = nI (mt i) ∧ mme i = nI (mt i)) (hkd : ∀ i, i < w → kd i < 4 ∧ kinds i = nI (kd i) ∧ mki i = nI (kd i)) (ht : t < 100) (ho : okS c w g') (hc : cS c g' lines picture sung tried wed picked) (h18 : mS c g' mn 18) (h0 : mS c g mn 0) :
    ∃ (b : Bool) (p1 s1 t1 w1 : Int32) (k1 mn' : Nat → Int32), f_X4_couldDo picture sung tried wed lines picked (nI tr) (nI c) (nI w) metals kinds (nI (t / 10)) (nI (t % 10)) = some (bI b, p1, s1, t1, w1, k1) ∧ f_X6_tryThing (nI tr) (nI c) (nI w) mme mki mn (nI t) = some (bI b, mn') ∧ mS c g mn' 0 ∧ (b = true → ∃ g'' : Sg, okS c w g'' ∧ cS c g'' lines p1 s1 t1 w1 k1 ∧ mS c g'' mn' 18) := by
  obtain ⟨v1, v3⟩ := dv10 t ht
  have e10 : ∀ a b : Nat, a < 100 → b < 100 → ((nI a = nI b) = (a = b)) := fun a b ha hb => propext (nI_eq (by omega) (by omega))
  have k0 : (nI t = 0) = (t = 0) := e10 t 0 ht (by omega)
  have k1 : (nI (t / 10) = 1) = (t / 10 = 1) := e10 _ 1 (by omega) (by omega)
  have k2 : (nI (t / 10) = 2) = (t / 10 = 2) := e10 _ 2 (by omega) (by omega)
  have k3 : (nI (t / 10) = 0) = (t / 10 = 0) := e10 _ 0 (by omega) (by omega)
  have k4 : (nI (t % 10) = 0) = (t % 10 = 0) := e10 _ 0 (by omega) (by omega)
  unfold f_X4_couldDo f_X6_tryThing f_X6_tryThing_64
  rw [v3, v1]
  simp only [k0, k1, k2, k3, k4]
  by_cases z0 : t = 0
  · have za : t / 10 = 0 := by omega
    have zb : t % 10 = 0 := by omega
    rw [if_pos za, if_pos zb, if_pos z0, mayC hw6 ho hc, mayM1 hw6 ho h18, Option.bind_some, Option.bind_some, if_pos (bI_01 _)]
    by_cases q : mayB w g' = true
    · have qq : g'.2.2.2.2.1 = 0 ∧ g'.2.2.2.1 < w := by simpa [mayB] using q
      obtain ⟨q1, q2⟩ := qq
      have hb : ¬ bI (mayB w g') = 0 := by rw [bI_0]; simp [q]
      obtain ⟨t', w', p', c1, c2⟩ := tryC (metals := metals) (kinds := kinds) hc4 hw6 htr (fun i hi => ⟨(hmt i hi).1, (hmt i hi).2.1⟩) (fun i hi => ⟨(hkd i hi).1, (hkd i hi).2.1⟩) ho hc q2
      obtain ⟨mn', m1, m2, m3⟩ := tryM (lv := 1) (mme := mme) (mki := mki) hc4 hw6 htr (fun i hi => ⟨(hmt i hi).1, (hmt i hi).2.2⟩) (fun i hi => ⟨(hkd i hi).1, (hkd i hi).2.2⟩) (by omega) ho h18 q2
      have m1' : f_X6_tryOn (nI tr) (nI c) mme mki mn 1 = some (en (pkS c mt (kd g'.2.2.2.1) (fitS c tr g'.1 (2 ^ c - 1)) g'.2.2.1), mn') := m1
      rw [if_neg hb, if_neg hb, c1, m1', Option.bind_some, Option.bind_some, if_pos (bI_01 _)]
      refine ⟨true, _, _, _, _, _, mn', rfl, by rw [q], h0.to hc4 (fun i hi => m3 _ (Or.inl (by omega))), fun _ => ⟨_, okS_try hw6 ho q2, c2, m2⟩⟩
    · have q' : mayB w g' = false := by simpa using q
      have hb : bI (mayB w g') = 0 := by rw [bI_0]; exact q'
      rw [if_pos hb, if_pos hb]
      exact ⟨false, _, _, _, _, _, mn, rfl, by rw [q'], h0, fun h => by cases h⟩
  · rw [if_neg z0]
    by_cases za : t / 10 = 0
    · rw [if_pos za, if_neg (show ¬ t % 10 = 0 by omega), if_neg (show ¬ t / 10 = 1 by omega), if_neg (show ¬ t / 10 = 2 by omega)]
      exact ⟨false, _, _, _, _, _, mn, rfl, rfl, h0, fun h => by cases h⟩
    · rw [if_neg za]
      by_cases zc : t % 10 < c
      · have zz := isC_yes (c := c) (by omega) zc
        rw [zz.1, zz.2.1, Option.bind_some, Option.bind_some, Option.bind_some, if_neg (show ¬ (1 : Int32) = 0 by decide), if_neg (show ¬ (1 : Int32) = 0 by decide), if_neg (show ¬ (1 : Int32) = 0 by decide)]
        by_cases z1 : t / 10 = 1
        · have n26 : mn (Int32.toNatClampNeg 26) = g'.2.1 := h18.2.1
          rw [if_pos z1, if_pos z1, if_neg (show ¬ t / 10 = 2 by omega), n26, hc.2.1]
          by_cases y : g'.2.1 = nI (t % 10)
          · rw [if_pos y, if_pos y]
            exact ⟨false, _, _, _, _, _, mn, rfl, rfl, h0, fun h => by cases h⟩
          · rw [if_neg y, if_neg y]
            exact ⟨true, _, _, _, _, _, _, rfl, rfl, h0.up0 hc4 (by decide), fun _ => ⟨(g'.1, nI (t % 10), g'.2.2), ⟨ho.1, Or.inr ⟨_, zc, rfl⟩, ho.2.2⟩, ⟨hc.1, rfl, hc.2.2⟩, h18.pic18 hc4⟩⟩
        · rw [if_neg z1, if_neg z1]
          by_cases z2 : t / 10 = 2
          · have n27 : mn (Int32.toNatClampNeg 27) = nI g'.2.2.1 := h18.2.2.1
            have hx := two_pow_xor_lt ho.2.2.1 zc
            unfold f_X4_turnSong
            rw [if_pos z2, if_pos z2, Option.bind_some, n27, hc.2.2.1, song_e hc4 ho.2.2.1 zc]
            exact ⟨true, _, _, _, _, _, _, rfl, rfl, h0.up0 hc4 (by decide), fun _ => ⟨(g'.1, g'.2.1, g'.2.2.1 ^^^ 2 ^ (t % 10), g'.2.2.2), ⟨ho.1, ho.2.1, hx, ho.2.2.2⟩, ⟨hc.1, hc.2.1, rfl, hc.2.2.2⟩, h18.sng18 hc4⟩⟩
          · rw [if_neg z2, if_neg z2]
            exact ⟨false, _, _, _, _, _, mn, rfl, rfl, h0, fun h => by cases h⟩
      · have zz := isC_no (c := c) (by omega) (p := nI (t % 10)) (Or.inr (nI_le (by omega) (by omega)))
        rw [zz.1, zz.2.1, Option.bind_some, Option.bind_some, Option.bind_some, if_pos rfl, if_pos rfl, if_pos rfl]
        refine ⟨false, _, _, _, _, _, mn, rfl, ?_, h0, fun h => by cases h⟩
        by_cases z1 : t / 10 = 1
        · rw [if_pos z1, if_neg (show ¬ t / 10 = 2 by omega)]; rfl
        · rw [if_neg z1]
          by_cases z2 : t / 10 = 2
          · rw [if_pos z2]; rfl
          · rw [if_neg z2]; rfl
theorem unt : ∀ n, n < 5 → ∀ k, k < n → f_X6_tenTo (2 * ((nI n - 1) - nI k)) = some (nI (100 ^ (n - 1 - k))) ∧ (if 1 < nI (100 ^ (n - k)) / 100 then nI (100 ^ (n - k)) / 100 else 1) = nI (100 ^ (n - 1 - k)) ∧ 0 < 100 ^ (n - 1 - k) ∧ 100 ^ (n - 1 - k) < 2 ^ 31 := by decide +kernel
theorem unt0 : ∀ n, n < 5 → f_X6_tenTo (2 * nI n) = some (nI (100 ^ n)) ∧ f_X5_power 100 (nI n) = some (nI (100 ^ n)) ∧ 0 < 100 ^ n ∧ 100 ^ n < 2 ^ 30 := by decide +kernel
theorem judge_loop {c w tr N R : Nat} {mt kd : Nat → Nat} {g : Sg} {metals kinds mme mki lines : Nat → Int32} (hc4 : c ≤ 4) (hw6 : w ≤ 6) (htr : tr ≤ 4 ∨ tr = 9) (hmt : ∀ i, i < c → mt i < 4 ∧ metals i = nI (mt i) ∧ mme i = nI (mt i)) (hkd : ∀ i, i < w → kd i < 4 ∧ kinds i = nI (kd i) ∧ mki i = nI (kd i)) (hN : N < 5) (hR : R < 2 ^ 31) : ∀ (d i n : Nat) (p0 s0 t0 w0 : Int32) (k0 mn : Nat → Int32) (g' : Sg), i + d = N → d < n → okS c w g' → cS c g' lines p0 s0 t0 w0 k0 → mS c g' mn 18 → mS c g mn 0 →
    ∃ (r p1 s1 t1 w1 : Int32) (k1 mn' : Nat → Int32), f_X5_judge_46 (nI tr) (nI c) (nI w) metals kinds lines (nI N) (nI R) n p0 s0 t0 w0 k0 (nI (100 ^ (N - i))) (nI i) = some (r, p1, s1, t1, w1, lines, k1) ∧ f_X6_judge_39 (nI tr) (nI c) (nI w) mme mki (nI N) (nI R) n mn (nI i) = some (r, mn') ∧ mS c g mn' 0 := by
  intro d
  induction d with
  | zero =>
    intro i n p0 s0 t0 w0 k0 mn g' hi hn ho hc h18 h0
    obtain ⟨n, rfl⟩ : ∃ k, n = k + 1 := ⟨n - 1, by omega⟩
    refine ⟨-9, p0, s0, t0, w0, k0, mn, ?_, ?_, h0⟩
    · rw [q_X5_judge_46]
      unfold f_X5_judge_46_b
      rw [if_pos (nI_le (by omega) (by omega))]
    · rw [q_X6_judge_39]
      unfold f_X6_judge_39_b
      rw [if_pos (nI_le (by omega) (by omega))]
  | succ d ih =>
    intro i n p0 s0 t0 w0 k0 mn g' hi hn ho hc h18 h0
    obtain ⟨n, rfl⟩ : ∃ k, n = k + 1 := ⟨n - 1, by omega⟩
    obtain ⟨u1, u2, u3, u4⟩ := unt N hN i (by omega)
    have hn1 : ¬ nI N ≤ nI i := nI_ge (by omega) (by omega)
    have hd := pk_div hR u3 u4
    have hdl : R / 100 ^ (N - 1 - i) < 2 ^ 31 := Nat.lt_of_le_of_lt (Nat.div_le_self _ _) hR
    have hr : nI (R / 100 ^ (N - 1 - i)) - nI (R / 100 ^ (N - 1 - i)) / 100 * 100 = nI (R / 100 ^ (N - 1 - i) % 100) := pk_rem (d := 100) hdl (by omega) (by omega)
    have ht : R / 100 ^ (N - 1 - i) % 100 < 100 := Nat.mod_lt _ (by omega)
    obtain ⟨v1, v3⟩ := dv10 _ ht
    obtain ⟨b, p1, s1, t1, w1, k1, mn1, e1, e2, e3, e4⟩ := thing hc4 hw6 htr hmt hkd ht ho hc h18 h0
    have hC : f_X5_judge_46 (nI tr) (nI c) (nI w) metals kinds lines (nI N) (nI R) (n + 1) p0 s0 t0 w0 k0 (nI (100 ^ (N - i))) (nI i) = if bI b = 0 then some (nI i, p1, s1, t1, w1, lines, k1) else f_X5_judge_46 (nI tr) (nI c) (nI w) metals kinds lines (nI N) (nI R) n p1 s1 t1 w1 k1 (nI (100 ^ (N - 1 - i))) (nI (i + 1)) := by
      rw [q_X5_judge_46]
      unfold f_X5_judge_46_b
      rw [if_neg hn1, u2, if_neg (nI_ne0 u3 u4), hd, Option.bind_some, hr, v3, v1, e1, Option.bind_some, nI_1]
    have hM : f_X6_judge_39 (nI tr) (nI c) (nI w) mme mki (nI N) (nI R) (n + 1) mn (nI i) = if bI b = 0 then some (nI i, mn1) else f_X6_judge_39 (nI tr) (nI c) (nI w) mme mki (nI N) (nI R) n mn1 (nI (i + 1)) := by
      rw [q_X6_judge_39]
      unfold f_X6_judge_39_b
      rw [if_neg hn1, u1, Option.bind_some, if_neg (nI_ne0 u3 u4), hd, hr, e2, Option.bind_some, nI_1]
    rw [hC, hM]
    cases b with
    | false =>
      rw [if_pos (show bI false = 0 from rfl), if_pos (show bI false = 0 from rfl)]
      exact ⟨_, _, _, _, _, _, mn1, rfl, rfl, e3⟩
    | true =>
      obtain ⟨g'', o1, o2, o3⟩ := e4 rfl
      obtain ⟨r, p2, s2, t2, w2, k2, mn2, q1, q2, q3⟩ := ih (i + 1) n p1 s1 t1 w1 k1 mn1 g'' (by omega) (by omega) o1 o2 o3 e3
      rw [if_neg (show ¬ bI true = 0 by decide), if_neg (show ¬ bI true = 0 by decide), show N - 1 - i = N - (i + 1) by omega]
      exact ⟨r, p2, s2, t2, w2, k2, mn2, q1, q2, q3⟩
theorem op_judge {c w tr : Nat} {mt kd : Nat → Nat} {g : Sg} {truth caskets wooers mtr mca mwo picture sung tried wed p0 s0 t0 w0 : Int32} {metals kinds mme mki lines picked mn l0 k0 : Nat → Int32} (hH : RHs c w tr mt kd truth caskets wooers metals kinds mtr mca mwo mme mki) (ho : okS c w g) (hc : cS c g lines picture sung tried wed picked) (hm : mS c g mn 0) (p q : Int32) :
    ∃ (r p1 s1 t1 w1 : Int32) (l1 k1 mn' : Nat → Int32), f_X5_judge truth caskets wooers metals kinds picture sung tried wed lines picked p0 s0 t0 w0 l0 k0 p q = some (r, p1, s1, t1, w1, l1, k1) ∧ f_X6_judge mtr mca mwo mme mki mn p q = some (r, mn') ∧ mS c g mn' 0 := by
  obtain ⟨hc4, hw6, htr, rfl, rfl, rfl, rfl, rfl, rfl, hmt, hkd⟩ := hH
  unfold f_X5_judge f_X6_judge
  have i4 : (4 : Int64) = lN 4 := rfl
  rw [i4]
  rcases rng1 p 4 (by omega) with ⟨r1, r2⟩ | ⟨f, f0, f1, rfl, f2⟩
  · rw [r2, Option.bind_some, if_pos rfl]
    rcases r1 with r1 | r1
    · rw [if_pos r1]; exact ⟨-2, _, _, _, _, _, _, mn, rfl, rfl, hm⟩
    · have r1' : ¬ p ≤ 4 := r1
      by_cases y : p < 1
      · rw [if_pos y]; exact ⟨-2, _, _, _, _, _, _, mn, rfl, rfl, hm⟩
      · rw [if_neg y, if_neg r1']; exact ⟨-2, _, _, _, _, _, _, mn, rfl, rfl, hm⟩
  · obtain ⟨u1, u2, u3, u4⟩ := unt0 f (by omega)
    have hs : (nI (100 ^ f) - 1).toInt64 = lN (100 ^ f - 1) := by
      rw [ix_m1 (by omega) u4, nI_l (by omega)]
    rw [f2, Option.bind_some, if_neg (show ¬ (1 : Int32) = 0 by decide), if_neg (show ¬ nI f < 1 from nI_nlt (b := 1) (by omega) (by omega)), if_pos (show nI f ≤ 4 from nI_le (b := 4) (by omega) (by omega)), u2, Option.bind_some, u1, Option.bind_some, hs]
    rcases pk_ix q (n := 100 ^ f) (by omega) with h | h | ⟨R, hR, rfl⟩
    · rw [if_pos h, in_no (m := 100 ^ f - 1) (by omega) (Or.inl h), Option.bind_some, if_pos rfl]
      exact ⟨-2, _, _, _, _, _, _, mn, rfl, rfl, hm⟩
    · have hn : ¬ q < nI (100 ^ f) := by
        rw [fa_lt]
        rw [fa_le] at h
        omega
      rw [in_no (m := 100 ^ f - 1) (by omega) (Or.inr (by rw [show 100 ^ f - 1 + 1 = 100 ^ f by omega]; exact h)), Option.bind_some, if_pos rfl, if_neg hn]
      by_cases y : q < 0
      · rw [if_pos y]; exact ⟨-2, _, _, _, _, _, _, mn, rfl, rfl, hm⟩
      · rw [if_neg y]; exact ⟨-2, _, _, _, _, _, _, mn, rfl, rfl, hm⟩
    · obtain ⟨l', k', e1, e2⟩ := copyS_e (p0 := p0) (s0 := s0) (t0 := t0) (w0 := w0) (l0 := l0) (k0 := k0) hc4 hw6 ho hc
      obtain ⟨t18, t00⟩ := hm.trial hc4
      obtain ⟨r, p1, s1, t1, w1, k1, mn', q1, q2, q3⟩ := judge_loop (g := g) (N := f) (R := R) (metals := metals) (kinds := kinds) (mme := mme) (mki := mki) hc4 hw6 htr hmt hkd (by omega) (by omega) f 0 200 picture sung tried wed k' (fb_put mn mn 18 18) g (by omega) (by omega) ho e2 t18 t00
      rw [show nI 0 = 0 from rfl, Nat.sub_zero] at q1
      rw [show nI 0 = 0 from rfl] at q2
      rw [in_yes (m := 100 ^ f - 1) (by omega) (by omega), Option.bind_some, if_neg (show ¬ (1 : Int32) = 0 by decide), if_neg (nI_pos (by omega)), if_pos (nI_lt hR (by omega)), e1, Option.bind_some, layTrial_e, Option.bind_some, q2]
      exact ⟨r, _, _, _, _, _, _, mn', q1, rfl, q3⟩
