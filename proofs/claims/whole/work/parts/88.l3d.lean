/-! pure: share -/
theorem shF0 : ∀ c, c < 5 → ∀ a, a < c → f_X5_at 5 tabF (nI a) = some (tabF a) ∧ f_X5_at 5 tabF ((nI c - 1) - nI a) = some (tabF (c - 1 - a)) ∧ f_X6_factorial (nI a) = some (tabF a) ∧ f_X6_factorial ((nI c - 1) - nI a) = some (tabF (c - 1 - a)) := by decide +kernel
theorem shF1 : ∀ c, c < 5 → ∀ j, j < c → ∀ i, i < 2 ^ c → (i.testBit j || decide (popc i < c)) = true := by decide +kernel
theorem shF {c j i : Nat} (hc : c < 5) (hj : j < c) (hi : i < 2 ^ c) (h : i.testBit j = false) : f_X5_at 5 tabF (nI (popc i)) = some (tabF (popc i)) ∧ f_X5_at 5 tabF ((nI c - 1) - nI (popc i)) = some (tabF (c - 1 - popc i)) ∧ f_X6_factorial (nI (popc i)) = some (tabF (popc i)) ∧ f_X6_factorial ((nI c - 1) - nI (popc i)) = some (tabF (c - 1 - popc i)) := by
  have z := shF1 c hc j hj i hi
  rw [h, Bool.false_or, decide_eq_true_eq] at z
  exact shF0 c hc _ z
theorem facB : ∀ c, c < 5 → 0 < (tabF c).toNatClampNeg ∧ (tabF c).toNatClampNeg < 2 ^ 14 ∧ tabF c = nI (tabF c).toNatClampNeg ∧ f_X6_factorial (nI c) = some (tabF c) ∧ f_X5_at 5 tabF (nI c) = some (tabF c) := by decide +kernel
theorem notD : ∀ c, c < 5 → ∀ a, a < 5 → ∀ b, b < 5 → (nI c - nI b) - (nI c - nI a) = nI a - nI b := by decide +kernel
theorem shB : ∀ a, a < 5 → ∀ b, b < 5 → ∀ x, x < 5 → ∀ y, y < 5 → -2304 ≤ ((tabF a * tabF b) * (nI x - nI y)).toInt ∧ ((tabF a * tabF b) * (nI x - nI y)).toInt ≤ 2304 := by decide +kernel
theorem or_j : ∀ i, i < 16 → ∀ j, j < 4 → nI i ||| ((1 : Int32) <<< (nI j &&& 31)) = nI (i ||| 2 ^ j) ∧ (i ||| 2 ^ j) < 16 := by decide +kernel
def shT (c tr : Nat) (ln : Nat → Nat) (j i : Nat) : Int32 := (tabF (popc i) * tabF (c - 1 - popc i)) * (nI (popc (fitS c tr ln i)) - nI (popc (fitS c tr ln (i ||| 2 ^ j))))
def shS (c tr : Nat) (ln : Nat → Nat) (j : Nat) : Nat → Int32
  | 0 => 0
  | i + 1 => if i.testBit j = true then shS c tr ln j i else shS c tr ln j i + shT c tr ln j i
theorem shS_y {c tr j i : Nat} {ln : Nat → Nat} (h : i.testBit j = true) : shS c tr ln j (i + 1) = shS c tr ln j i := by
  simp only [shS]
  rw [if_pos h]
theorem shS_n {c tr j i : Nat} {ln : Nat → Nat} (h : ¬ i.testBit j = true) : shS c tr ln j (i + 1) = shS c tr ln j i + shT c tr ln j i := by
  simp only [shS]
  rw [if_neg h]
theorem shT_b {c tr j i : Nat} {ln : Nat → Nat} (hc : c ≤ 4) (hi : i < 16) : -2304 ≤ (shT c tr ln j i).toInt ∧ (shT c tr ln j i).toInt ≤ 2304 := by
  have h1 := popc_le i hi
  have h2 := popc_le _ (fit16 hc tr ln i)
  have h3 := popc_le _ (fit16 hc tr ln (i ||| 2 ^ j))
  exact shB _ (by omega) _ (by omega) _ (by omega) _ (by omega)
theorem shS_b {c tr j : Nat} {ln : Nat → Nat} (hc : c ≤ 4) : ∀ i : Nat, i ≤ 16 → -(2304 * (i : Int)) ≤ (shS c tr ln j i).toInt ∧ (shS c tr ln j i).toInt ≤ 2304 * (i : Int)
  | 0, _ => by
    have : (shS c tr ln j 0).toInt = 0 := rfl
    rw [this]
    omega
  | i + 1, h => by
    obtain ⟨h1, h2⟩ := shS_b (c := c) (tr := tr) (j := j) (ln := ln) hc i (by omega)
    obtain ⟨h3, h4⟩ := shT_b (c := c) (tr := tr) (j := j) (ln := ln) hc (show i < 16 by omega)
    by_cases z : i.testBit j = true
    · rw [shS_y z]
      omega
    · rw [shS_n z, fb_addI (by omega) (by omega)]
      omega
theorem shareC_loop {c tr j : Nat} {ln : Nat → Nat} {lines : Nat → Int32} {u : Int32} (hc : c ≤ 4) (hj : j < c) (htr : tr ≤ 4 ∨ tr = 9) (hln : ∀ i, i < c → ln i < 24 ∧ lines i = nI (ln i)) : ∀ (d i n : Nat), i + d = 2 ^ c → d < n →
    f_X5_share_18 (nI tr) (nI c) lines (nI j) u n (shS c tr ln j i) (nI i) = f_X5_share_141 (nI c) u (shS c tr ln j (2 ^ c)) := by
  have hp := p2_lt hc
  intro d
  induction d with
  | zero =>
    intro i n hi hn
    obtain ⟨n, rfl⟩ : ∃ k, n = k + 1 := ⟨n - 1, by omega⟩
    rw [q_X5_share_18]
    unfold f_X5_share_18_b
    rw [shl_e c (by omega), if_pos (nI_le (by omega) (by omega)), show i = 2 ^ c by omega]
  | succ d ih =>
    intro i n hi hn
    obtain ⟨n, rfl⟩ : ∃ k, n = k + 1 := ⟨n - 1, by omega⟩
    have e := ih (i + 1) n (by omega) (by omega)
    obtain ⟨o1, o2⟩ := or_j i (by omega) j (by omega)
    rw [q_X5_share_18]
    unfold f_X5_share_18_b
    rw [shl_e c (by omega), if_neg (nI_ge (by omega) (by omega)), if_neg (show ¬ (15 : Int32) < nI i from nI_nlt (a := 15) (by omega) (by omega)), shr_e i (by omega) j (by omega), nI_1]
    by_cases z : i.testBit j = true
    · rw [if_neg (by rw [bI_0]; simp [z])]
      rw [shS_y z] at e
      exact e
    · have z' : i.testBit j = false := by simpa using z
      obtain ⟨s1, s2, s3, s4⟩ := shF (c := c) (by omega) hj (show i < 2 ^ c by omega) z'
      rw [if_pos (by rw [bI_0]; exact z'), bc_e i (by omega), Option.bind_some, s1, Option.bind_some, s2, Option.bind_some, fitBy_e hc htr (by omega) hln, Option.bind_some, bc_e _ (fit16 hc tr ln i), Option.bind_some, o1, fitBy_e hc htr o2 hln, Option.bind_some, bc_e _ (fit16 hc tr ln _), Option.bind_some]
      rw [shS_n z] at e
      exact e
theorem shareM_fill {c tr j : Nat} {ln : Nat → Nat} {mn : Nat → Int32} {u : Int32} (hc : c ≤ 4) (htr : tr ≤ 4 ∨ tr = 9) (hln : mln c ln mn (18 * 0)) : ∀ (d i n : Nat) (nots : Nat → Int32), i + d = 2 ^ c → d < n → (∀ k, k < i → nots k = nI c - nI (popc (fitS c tr ln k))) →
    ∃ nots', f_X6_share_12 (nI tr) (nI c) mn (nI j) u n nots (nI i) = f_X6_share_46 (nI c) nots' (nI j) u ∧ ∀ k, k < 2 ^ c → nots' k = nI c - nI (popc (fitS c tr ln k)) := by
  have hp := p2_lt hc
  have hp0 : 0 < 2 ^ c := Nat.two_pow_pos c
  intro d
  induction d with
  | zero =>
    intro i n nots hi hn hk
    obtain ⟨n, rfl⟩ : ∃ k, n = k + 1 := ⟨n - 1, by omega⟩
    refine ⟨nots, ?_, fun k h => hk k (by omega)⟩
    rw [q_X6_share_12]
    unfold f_X6_share_12_b
    rw [all_e c (by omega), Option.bind_some, if_pos (nI_lt (by omega) (by omega))]
  | succ d ih =>
    intro i n nots hi hn hk
    obtain ⟨n, rfl⟩ : ∃ k, n = k + 1 := ⟨n - 1, by omega⟩
    obtain ⟨nots', e, hk'⟩ := ih (i + 1) n (upd nots i (nI c - nI (popc (fitS c tr ln i)))) (by omega) (by omega) (fun k h => by
      by_cases z : k = i
      · subst z; rw [upd_s]
      · rw [upd_n z]; exact hk k (by omega))
    refine ⟨nots', ?_, hk'⟩
    have hf : f_X6_fitsOn (nI tr) (nI c) mn 0 (nI i) = some (nI (fitS c tr ln i)) := fitsOn_e (lv := 0) hc (tr9 htr) (by omega) (by omega) hln
    rw [q_X6_share_12]
    unfold f_X6_share_12_b
    rw [all_e c (by omega), Option.bind_some, if_neg (nI_nlt (by omega) (by omega)), hf, Option.bind_some, ones_e _ (fit16 hc tr ln i), Option.bind_some, nI_clamp (show i < 2 ^ 31 by omega), if_neg (gdf (show i < 16 by omega) (by omega)), nI_1]
    exact e
theorem shareM_loop {c tr j : Nat} {ln : Nat → Nat} {nots : Nat → Int32} {u : Int32} (hc : c ≤ 4) (hj : j < c) (hk : ∀ k, k < 2 ^ c → nots k = nI c - nI (popc (fitS c tr ln k))) : ∀ (d i n : Nat), i + d = 2 ^ c → d < n →
    f_X6_share_51 (nI c) nots (nI j) u n (shS c tr ln j i) (nI i) = f_X6_share_126 (nI c) nots u (shS c tr ln j (2 ^ c)) := by
  have hp := p2_lt hc
  have hp0 : 0 < 2 ^ c := Nat.two_pow_pos c
  intro d
  induction d with
  | zero =>
    intro i n hi hn
    obtain ⟨n, rfl⟩ : ∃ k, n = k + 1 := ⟨n - 1, by omega⟩
    rw [q_X6_share_51]
    unfold f_X6_share_51_b
    rw [all_e c (by omega), Option.bind_some, if_pos (nI_lt (by omega) (by omega)), show i = 2 ^ c by omega]
  | succ d ih =>
    intro i n hi hn
    obtain ⟨n, rfl⟩ : ∃ k, n = k + 1 := ⟨n - 1, by omega⟩
    have e := ih (i + 1) n (by omega) (by omega)
    obtain ⟨o1, o2⟩ := or_j i (by omega) j (by omega)
    have o3 : (i ||| 2 ^ j) < 2 ^ c := Nat.or_lt_two_pow (by omega) (Nat.pow_lt_pow_right (by omega) hj)
    rw [q_X6_share_51]
    unfold f_X6_share_51_b
    rw [all_e c (by omega), Option.bind_some, if_neg (nI_nlt (by omega) (by omega)), has_e i (by omega) j (by omega), Option.bind_some, nI_1]
    by_cases z : i.testBit j = true
    · rw [if_neg (by rw [bI_0]; simp [z])]
      rw [shS_y z] at e
      exact e
    · have z' : i.testBit j = false := by simpa using z
      obtain ⟨s1, s2, s3, s4⟩ := shF (c := c) (by omega) hj (show i < 2 ^ c by omega) z'
      have h2 := popc_le _ (fit16 hc tr ln i)
      have h3 := popc_le _ (fit16 hc tr ln (i ||| 2 ^ j))
      rw [if_pos (by rw [bI_0]; exact z'), ones_e i (by omega), Option.bind_some, s3, Option.bind_some, Option.bind_some, s4, Option.bind_some, o1, nI_clamp (show (i ||| 2 ^ j) < 2 ^ 31 by omega), nI_clamp (show i < 2 ^ 31 by omega), if_neg (gdf o2 (by omega)), if_neg (gdf (show i < 16 by omega) (by omega)), Option.bind_some, hk i (by omega), hk _ o3, notD c (by omega) _ (by omega) _ (by omega)]
      rw [shS_n z] at e
      exact e
theorem op_share {c w tr : Nat} {mt kd : Nat → Nat} {g : Sg} {truth caskets wooers mtr mca mwo picture sung tried wed : Int32} {metals kinds mme mki lines picked mn nots : Nat → Int32} (hH : RHs c w tr mt kd truth caskets wooers metals kinds mtr mca mwo mme mki) (ho : okS c w g) (hc : cS c g lines picture sung tried wed picked) (hm : mS c g mn 0) (p u : Int32) :
    ∃ r nots', f_X5_share truth caskets lines p u = some r ∧ f_X6_share mtr mca mn nots p u = some (r, nots') := by
  obtain ⟨hc4, hw6, htr, rfl, rfl, rfl, rfl, rfl, rfl, hmt, hkd⟩ := hH
  unfold f_X5_share f_X6_share
  rcases pk_ix p (n := c) (by omega) with h | h | ⟨j, hj, rfl⟩
  · have z := isC_no (c := c) (by omega) (p := p) (Or.inl h)
    rw [z.1, z.2.1, Option.bind_some, Option.bind_some, if_pos rfl, if_pos rfl]
    exact ⟨-1, _, rfl, rfl⟩
  · have z := isC_no (c := c) (by omega) (p := p) (Or.inr h)
    rw [z.1, z.2.1, Option.bind_some, Option.bind_some, if_pos rfl, if_pos rfl]
    exact ⟨-1, _, rfl, rfl⟩
  · have z := isC_yes (c := c) (by omega) hj
    have h16 := p2_lt hc4
    obtain ⟨b1, b2, b3, b4, b5⟩ := facB c (by omega)
    have ec := shareC_loop (u := u) hc4 hj htr (ho.cln hc) (2 ^ c) 0 200 (by omega) (by omega)
    obtain ⟨nots', e1, hk⟩ := shareM_fill (j := j) (u := u) hc4 htr (ho.mln hm) (2 ^ c) 0 200 nots (by omega) (by omega) (fun k hk => by omega)
    have em := shareM_loop (u := u) hc4 hj hk (2 ^ c) 0 200 (by omega) (by omega)
    obtain ⟨sb1, sb2⟩ := shS_b (c := c) (tr := tr) (j := j) (ln := g.1) hc4 (2 ^ c) h16
    rw [show shS c tr g.1 j 0 = 0 from rfl, show nI 0 = 0 from rfl] at ec em
    rw [show nI 0 = 0 from rfl] at e1
    have hlo : -2147483648 < (shS c tr g.1 j (2 ^ c)).toInt := by omega
    rw [z.1, z.2.1, Option.bind_some, Option.bind_some, if_neg (show ¬ (1 : Int32) = 0 by decide), if_neg (show ¬ (1 : Int32) = 0 by decide), ec, e1]
    unfold f_X6_share_46
    rw [em]
    unfold f_X5_share_141 f_X6_share_126
    rw [b4, b5, Option.bind_some, Option.bind_some]
    obtain ⟨r, q1, q2, q3⟩ := part_e hlo b1 b2 u
    rw [← b3] at q1 q2 q3
    obtain ⟨G, q3⟩ : ∃ G, f_X6_common (shS c tr g.1 j (2 ^ c)) (tabF c) = some G := ⟨_, q3⟩
    unfold frM at q2
    rw [q3, Option.bind_some] at q2
    rw [q1, Option.bind_some, q3, Option.bind_some, Option.bind_some]
    refine ⟨r, nots', rfl, ?_⟩
    by_cases y2 : G = 0
    · rw [if_pos y2, if_pos y2] at q2
      by_cases y : u = 0
      · rw [if_pos y] at q2; cases q2
      · rw [if_neg y] at q2; cases q2
    · rw [if_neg y2, if_neg y2] at q2 ⊢
      by_cases y : u = 0
      · rw [if_pos y] at q2 ⊢
        cases q2
        rfl
      · rw [if_neg y] at q2 ⊢
        cases q2
        rfl
