/-! pure: belief -/
theorem powC : ∀ a, a < 11 → ∀ f, f < 6 → f_X5_power (nI a) (nI f) = some (nI (a ^ f)) := by decide +kernel
theorem powM : ∀ a, a < 11 → ∀ f, f < 6 → f_X6_power (nI a) (nI f) = some (nI (a ^ f)) := by decide +kernel
theorem pow_le5 : ∀ m, m < 5 → ∀ f, f < 6 → m ^ f ≤ 1024 := by decide
def msP (c : Nat) (mt : Nat → Nat) (fits sg i k : Nat) : Bool := !decide (en (pkS c mt k fits sg) = nI i)
def wt (c : Nat) (mt : Nat → Nat) (fits sg f i : Nat) : Nat := if fits.testBit i = true then fb_ct (msP c mt fits sg i) 4 ^ f else 0
theorem wt_le {c fits sg f i : Nat} {mt : Nat → Nat} (hf : f < 6) : wt c mt fits sg f i ≤ 1024 := by
  unfold wt
  have := fb_ct_le (msP c mt fits sg i) 4
  split
  · exact pow_le5 _ (by omega) f hf
  · omega
theorem wtC_loop {c fits sg f j : Nat} {mt : Nat → Nat} {metals : Nat → Int32} (hc : c ≤ 4) (hf : fits < 16) (hs : sg < 16) (hm : ∀ i, i < c → mt i < 4 ∧ metals i = nI (mt i)) : ∀ (d i n : Nat), i + d = 4 → d < n →
    f_X5_weightOf_16 (nI c) metals (nI sg) (nI j) (nI f) (nI fits) n (nI (fb_ct (msP c mt fits sg j) i)) (nI i) = f_X5_weightOf_52 (nI f) (nI (fb_ct (msP c mt fits sg j) 4)) := by
  intro d
  induction d with
  | zero =>
    intro i n hi hn
    obtain ⟨n, rfl⟩ : ∃ k, n = k + 1 := ⟨n - 1, by omega⟩
    rw [q_X5_weightOf_16]
    unfold f_X5_weightOf_16_b
    rw [if_pos (show (4 : Int32) ≤ nI i from nI_le (a := 4) (by omega) (by omega)), show i = 4 by omega]
  | succ d ih =>
    intro i n hi hn
    obtain ⟨n, rfl⟩ : ∃ k, n = k + 1 := ⟨n - 1, by omega⟩
    have e := ih (i + 1) n (by omega) (by omega)
    have pc := pick_c (metals := metals) hc (show i < 4 by omega) hf hs hm
    rw [q_X5_weightOf_16]
    unfold f_X5_weightOf_16_b
    rw [if_neg (show ¬ (4 : Int32) ≤ nI i from nI_ge (b := 4) (by omega) (by omega)), pc, Option.bind_some, nI_1, nI_1]
    by_cases z : en (pkS c mt i fits sg) = nI j
    · rw [if_pos z]
      rw [ct_n (by simp [msP, z])] at e
      exact e
    · rw [if_neg z]
      rw [ct_y (by simp [msP, z])] at e
      exact e
theorem wtM_loop {c fits sg f j : Nat} {mt : Nat → Nat} {mme mn : Nat → Int32} (hc : c ≤ 4) (hf : fits < 16) (hs : sg < 16) (h9 : mn (Int32.toNatClampNeg 9) = nI sg) (hm : ∀ i, i < c → mt i < 4 ∧ mme i = nI (mt i)) : ∀ (d i n : Nat), i + d = 4 → d < n →
    f_X6_weightOf_6 (nI c) mme mn (nI j) (nI fits) (nI f) n (nI (fb_ct (msP c mt fits sg j) i)) (nI i) = f_X6_weightOf_46 (nI j) (nI fits) (nI f) (nI (fb_ct (msP c mt fits sg j) 4)) := by
  intro d
  induction d with
  | zero =>
    intro i n hi hn
    obtain ⟨n, rfl⟩ : ∃ k, n = k + 1 := ⟨n - 1, by omega⟩
    rw [q_X6_weightOf_6]
    unfold f_X6_weightOf_6_b
    rw [if_pos (show (4 : Int32) ≤ nI i from nI_le (a := 4) (by omega) (by omega)), show i = 4 by omega]
  | succ d ih =>
    intro i n hi hn
    obtain ⟨n, rfl⟩ : ∃ k, n = k + 1 := ⟨n - 1, by omega⟩
    have e := ih (i + 1) n (by omega) (by omega)
    have pm := pick_m (metals := mme) hc (show i < 4 by omega) hf hs hm
    have z0 : ∀ a, nI a + 0 = nI a := fun a => nI_add a 0
    rw [q_X6_weightOf_6]
    unfold f_X6_weightOf_6_b
    rw [if_neg (show ¬ (4 : Int32) ≤ nI i from nI_ge (b := 4) (by omega) (by omega)), h9, pm, Option.bind_some, nI_1, nI_1, z0]
    by_cases z : en (pkS c mt i fits sg) = nI j
    · rw [if_pos z]
      rw [ct_n (by simp [msP, z])] at e
      exact e
    · rw [if_neg z]
      rw [ct_y (by simp [msP, z])] at e
      exact e
theorem wtC {c fits sg f j : Nat} {mt : Nat → Nat} {metals : Nat → Int32} (hc : c ≤ 4) (hj : j < 4) (hf : fits < 16) (hs : sg < 16) (hf6 : f < 6) (hm : ∀ i, i < c → mt i < 4 ∧ metals i = nI (mt i)) : f_X5_weightOf (nI c) metals (nI sg) (nI j) (nI f) (nI fits) = some (nI (wt c mt fits sg f j)) := by
  have e := wtC_loop (f := f) (j := j) hc hf hs hm 4 0 200 (by omega) (by omega)
  rw [show fb_ct (msP c mt fits sg j) 0 = 0 from rfl, show nI 0 = 0 from rfl] at e
  have hle := fb_ct_le (msP c mt fits sg j) 4
  unfold f_X5_weightOf wt
  rw [shr_e fits hf j hj, e]
  unfold f_X5_weightOf_52
  rw [powC _ (by omega) f hf6, Option.bind_some]
  by_cases z : fits.testBit j = true
  · rw [if_neg (by rw [bI_0]; simp [z]), if_pos z]
  · rw [if_pos (by rw [bI_0]; simpa using z), if_neg z]
    rfl
theorem wtM {c fits sg f j : Nat} {mt : Nat → Nat} {mme mn : Nat → Int32} (hc : c ≤ 4) (hj : j < 4) (hf : fits < 16) (hs : sg < 16) (hf6 : f < 6) (h9 : mn (Int32.toNatClampNeg 9) = nI sg) (hm : ∀ i, i < c → mt i < 4 ∧ mme i = nI (mt i)) : f_X6_weightOf (nI c) mme mn (nI j) (nI fits) (nI f) = some (nI (wt c mt fits sg f j)) := by
  have e := wtM_loop (f := f) (j := j) hc hf hs h9 hm 4 0 200 (by omega) (by omega)
  rw [show fb_ct (msP c mt fits sg j) 0 = 0 from rfl, show nI 0 = 0 from rfl] at e
  have hle := fb_ct_le (msP c mt fits sg j) 4
  unfold f_X6_weightOf wt
  rw [e]
  unfold f_X6_weightOf_46
  rw [has_e fits hf j hj, Option.bind_some, powM _ (by omega) f hf6, Option.bind_some]
  by_cases z : fits.testBit j = true
  · rw [if_neg (by rw [bI_0]; simp [z]), if_pos z]
  · rw [if_pos (by rw [bI_0]; simpa using z), if_neg z]
    rfl
theorem blC_loop {c fits sg f j : Nat} {mt : Nat → Nat} {metals : Nat → Int32} {u : Int32} (hc : c ≤ 4) (hf : fits < 16) (hs : sg < 16) (hf6 : f < 6) (hm : ∀ i, i < c → mt i < 4 ∧ metals i = nI (mt i)) : ∀ (d i n : Nat), i + d = c → d < n →
    f_X5_belief_44 (nI c) metals (nI sg) (nI j) (nI f) u (nI fits) n (nI (fb_sm (wt c mt fits sg f) i)) (nI i) = f_X5_belief_82 (nI c) metals (nI sg) (nI j) (nI f) u (nI fits) (nI (fb_sm (wt c mt fits sg f) c)) := by
  intro d
  induction d with
  | zero =>
    intro i n hi hn
    obtain ⟨n, rfl⟩ : ∃ k, n = k + 1 := ⟨n - 1, by omega⟩
    rw [q_X5_belief_44]
    unfold f_X5_belief_44_b
    obtain rfl : i = c := by omega
    by_cases h4 : (4 : Int32) ≤ nI i
    · rw [if_pos h4]
    · rw [if_neg h4, if_pos (nI_le (by omega) (by omega))]
  | succ d ih =>
    intro i n hi hn
    obtain ⟨n, rfl⟩ : ∃ k, n = k + 1 := ⟨n - 1, by omega⟩
    have e := ih (i + 1) n (by omega) (by omega)
    rw [q_X5_belief_44]
    unfold f_X5_belief_44_b
    rw [if_neg (show ¬ (4 : Int32) ≤ nI i from nI_ge (b := 4) (by omega) (by omega)), if_neg (nI_ge (by omega) (by omega)), wtC hc (by omega) hf hs hf6 hm, Option.bind_some, nI_add, nI_1]
    rw [fb_sm_succ] at e
    exact e
theorem blM_loop {c fits sg f j : Nat} {mt : Nat → Nat} {mme mn : Nat → Int32} {u : Int32} (hc : c ≤ 4) (hf : fits < 16) (hs : sg < 16) (hf6 : f < 6) (h9 : mn (Int32.toNatClampNeg 9) = nI sg) (hm : ∀ i, i < c → mt i < 4 ∧ mme i = nI (mt i)) : ∀ (d i n : Nat), i + d = c → d < n →
    f_X6_belief_42 (nI c) mme mn (nI j) (nI f) u (nI fits) n (nI (fb_sm (wt c mt fits sg f) i)) (nI i) = f_X6_belief_71 (nI c) mme mn (nI j) (nI f) u (nI fits) (nI (fb_sm (wt c mt fits sg f) c)) := by
  intro d
  induction d with
  | zero =>
    intro i n hi hn
    obtain ⟨n, rfl⟩ : ∃ k, n = k + 1 := ⟨n - 1, by omega⟩
    rw [q_X6_belief_42]
    unfold f_X6_belief_42_b
    obtain rfl : i = c := by omega
    rw [if_pos (nI_le (by omega) (by omega))]
  | succ d ih =>
    intro i n hi hn
    obtain ⟨n, rfl⟩ : ∃ k, n = k + 1 := ⟨n - 1, by omega⟩
    have e := ih (i + 1) n (by omega) (by omega)
    rw [q_X6_belief_42]
    unfold f_X6_belief_42_b
    rw [if_neg (nI_ge (by omega) (by omega)), wtM hc (by omega) hf hs hf6 h9 hm, Option.bind_some, nI_add, nI_1]
    rw [fb_sm_succ] at e
    exact e
theorem nI_rng {n : Nat} (h : n < 2 ^ 31) : -2147483648 < (nI n).toInt := by
  rw [nI_i h]
  omega
/-- a number from 0 to m, or outside -/
theorem rng0 (p : Int32) (m : Nat) (hm : m < 2 ^ 30) : ((p < 0 ∨ ¬ p ≤ nI m) ∧ f_X6_in p.toInt64 0 (lN m) = some 0) ∨ ∃ f, f ≤ m ∧ p = nI f ∧ f_X6_in p.toInt64 0 (lN m) = some 1 := by
  rcases pk_ix p (n := m + 1) (by omega) with h | h | ⟨f, hf, rfl⟩
  · exact Or.inl ⟨Or.inl h, in_no hm (Or.inl h)⟩
  · refine Or.inl ⟨Or.inr ?_, in_no hm (Or.inr h)⟩
    rw [fa_le, nI_i (by omega)] at h ⊢
    omega
  · exact Or.inr ⟨f, by omega, rfl, in_yes hm (by omega)⟩
theorem op_belief {c w tr : Nat} {mt kd : Nat → Nat} {g : Sg} {truth caskets wooers mtr mca mwo picture sung tried wed : Int32} {metals kinds mme mki lines picked mn : Nat → Int32} (hH : RHs c w tr mt kd truth caskets wooers metals kinds mtr mca mwo mme mki) (ho : okS c w g) (hc : cS c g lines picture sung tried wed picked) (hm : mS c g mn 0) (p q u : Int32) :
    ∃ r, f_X5_belief truth caskets metals sung lines p q u = some r ∧ f_X6_belief mtr mca mme mn p q u = some r := by
  obtain ⟨hc4, hw6, htr, rfl, rfl, rfl, rfl, rfl, rfl, hmt, hkd⟩ := hH
  unfold f_X5_belief f_X6_belief
  rcases pk_ix p (n := c) (by omega) with h | h | ⟨j, hj, rfl⟩
  · have z := isC_no (c := c) (by omega) (p := p) (Or.inl h)
    rw [z.1, z.2.1, Option.bind_some, Option.bind_some, if_pos rfl, if_pos rfl]
    exact ⟨-1, rfl, rfl⟩
  · have z := isC_no (c := c) (by omega) (p := p) (Or.inr h)
    rw [z.1, z.2.1, Option.bind_some, Option.bind_some, if_pos rfl, if_pos rfl]
    exact ⟨-1, rfl, rfl⟩
  · have z := isC_yes (c := c) (by omega) hj
    have h16 := p2_lt hc4
    have hsg := ho.2.2.1
    have hf := fit16 hc4 tr g.1 (2 ^ c - 1)
    have i5 : (5 : Int64) = lN 5 := rfl
    have n9 : mn (Int32.toNatClampNeg 9) = nI g.2.2.1 := hm.2.2.1
    rw [z.1, z.2.1, Option.bind_some, Option.bind_some, if_neg (show ¬ (1 : Int32) = 0 by decide), if_neg (show ¬ (1 : Int32) = 0 by decide), i5]
    rcases rng0 q 5 (by omega) with ⟨r1, r2⟩ | ⟨f, f1, rfl, f2⟩
    · rw [r2, Option.bind_some, if_pos rfl]
      rcases r1 with r1 | r1
      · rw [if_pos r1]; exact ⟨-2, rfl, rfl⟩
      · have r1' : ¬ q ≤ 5 := r1
        by_cases y : q < 0
        · rw [if_pos y]; exact ⟨-2, rfl, rfl⟩
        · rw [if_neg y, if_neg r1']; exact ⟨-2, rfl, rfl⟩
    · have ec := blC_loop (f := f) (j := j) (u := u) (metals := metals) hc4 hf (show g.2.2.1 < 16 by omega) (by omega) (fun i hi => ⟨(hmt i hi).1, (hmt i hi).2.1⟩) c 0 200 (by omega) (by omega)
      have em := blM_loop (f := f) (j := j) (u := u) (mme := mme) hc4 hf (show g.2.2.1 < 16 by omega) (by omega) n9 (fun i hi => ⟨(hmt i hi).1, (hmt i hi).2.2⟩) c 0 200 (by omega) (by omega)
      have hw := wtC (f := f) (metals := metals) hc4 (show j < 4 by omega) hf (show g.2.2.1 < 16 by omega) (by omega) (fun i hi => ⟨(hmt i hi).1, (hmt i hi).2.1⟩)
      have hw' := wtM (f := f) (mme := mme) hc4 (show j < 4 by omega) hf (show g.2.2.1 < 16 by omega) (by omega) n9 (fun i hi => ⟨(hmt i hi).1, (hmt i hi).2.2⟩)
      have hb := fb_sm_bound (f := wt c mt (fitS c tr g.1 (2 ^ c - 1)) g.2.2.1 f) (c := 1024) (n := c) (fun k _ => wt_le (by omega))
      have hb1 := wt_le (c := c) (mt := mt) (fits := fitS c tr g.1 (2 ^ c - 1)) (sg := g.2.2.1) (i := j) (show f < 6 by omega)
      rw [show fb_sm (wt c mt (fitS c tr g.1 (2 ^ c - 1)) g.2.2.1 f) 0 = 0 from rfl, show nI 0 = 0 from rfl] at ec em
      rw [f2, Option.bind_some, if_neg (show ¬ (1 : Int32) = 0 by decide), if_neg (nI_pos (by omega)), if_pos (show nI f ≤ 5 from nI_le (b := 5) (by omega) (by omega)), fit_e hc4 htr (ho.cln hc), Option.bind_some, all_e c (by omega), Option.bind_some, fitM hc4 htr ho hm, Option.bind_some, hc.2.2.1, ec, em]
      unfold f_X5_belief_82 f_X6_belief_71
      rw [hw, hw', Option.bind_some, Option.bind_some]
      have hsum : fb_sm (wt c mt (fitS c tr g.1 (2 ^ c - 1)) g.2.2.1 f) c < 2 ^ 14 := by omega
      by_cases y : fb_sm (wt c mt (fitS c tr g.1 (2 ^ c - 1)) g.2.2.1 f) c = 0
      · rw [y, if_pos (show nI 0 = 0 from rfl)]
        unfold f_X5_partOf
        rw [if_neg (show ¬ (0 : Int32) < nI 0 by decide)]
        refine ⟨if u = 0 then 1 else 0, ?_, ?_⟩
        · by_cases y1 : nI (wt c mt (fitS c tr g.1 (2 ^ c - 1)) g.2.2.1 f j) = 0
          · rw [if_pos y1]; by_cases y2 : u = 0 <;> simp [y2]
          · rw [if_neg y1]; by_cases y2 : u = 0 <;> simp [y2]
        · by_cases y2 : u = 0 <;> simp [y2]
      · rw [if_neg (nI_ne0 (by omega) (by omega))]
        obtain ⟨r, e1, e2, -⟩ := part_e (a := nI (wt c mt (fitS c tr g.1 (2 ^ c - 1)) g.2.2.1 f j)) (nI_rng (by omega)) (show 0 < fb_sm (wt c mt (fitS c tr g.1 (2 ^ c - 1)) g.2.2.1 f) c by omega) hsum u
        rw [e1, Option.bind_some]
        exact ⟨r, rfl, e2⟩
