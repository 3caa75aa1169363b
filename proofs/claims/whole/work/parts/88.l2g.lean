/-! pure: what a state is, on both sides; the plain calls -/
theorem gdf {i N : Nat} (h : i < N) (hN : N < 2 ^ 31) : ¬ (nI i < 0 ∨ N ≤ i) := by
  rintro (z | z)
  · exact nI_pos (by omega) z
  · omega
theorem at_e {n i : Nat} {r : Nat → Int32} (h : i < n) (hn : n < 2 ^ 31) : f_X5_at n r (nI i) = some (r i) := by
  unfold f_X5_at
  rw [if_neg (nI_pos (by omega)), if_neg (show ¬ Int32.ofNat n ≤ nI i from nI_ge h hn), nI_clamp (by omega), if_neg (gdf h hn)]
theorem put_e {n i : Nat} {r : Nat → Int32} {x : Int32} (h : i < n) (hn : n < 2 ^ 31) : f_X5_put n r (nI i) x = some (upd r i x) := by
  unfold f_X5_put
  rw [if_neg (nI_pos (by omega)), if_neg (show ¬ Int32.ofNat n ≤ nI i from nI_ge h hn), nI_clamp (by omega), if_neg (gdf h hn)]
/-- a standing: lines, picture, songs, how many tried, wed, picks (at place 100: what stands where nobody has tried; before the first house it is 0 in the reference, and nobody can ask for it) -/
abbrev Sg : Type := (Nat → Nat) × Int32 × Nat × Nat × Int32 × (Nat → Int32)
def okS (c w : Nat) (g : Sg) : Prop := (∀ i, i < c → g.1 i < 24) ∧ (g.2.1 = -9 ∨ ∃ j, j < c ∧ g.2.1 = nI j) ∧ g.2.2.1 < 2 ^ c ∧ g.2.2.2.1 ≤ w ∧ (g.2.2.2.2.1 = 0 ∨ g.2.2.2.2.1 = 1) ∧ (w = 0 ∨ g.2.2.2.2.2 100 = -9)
def cS (c : Nat) (g : Sg) (lines : Nat → Int32) (picture sung tried wed : Int32) (picked : Nat → Int32) : Prop := (∀ i, i < c → lines i = nI (g.1 i)) ∧ picture = g.2.1 ∧ sung = nI g.2.2.1 ∧ tried = nI g.2.2.2.1 ∧ wed = g.2.2.2.2.1 ∧ ∀ i, i < g.2.2.2.1 → picked i = g.2.2.2.2.2 i
def mS (c : Nat) (g : Sg) (mn : Nat → Int32) (off : Nat) : Prop := (∀ i, i < c → mn (off + i) = nI (g.1 i / 4) ∧ mn (off + 4 + i) = nI (g.1 i % 4)) ∧ mn (off + 8) = g.2.1 ∧ mn (off + 9) = nI g.2.2.1 ∧ mn (off + 10) = nI g.2.2.2.1 ∧ mn (off + 11) = g.2.2.2.2.1 ∧ ∀ i, i < 6 → mn (off + 12 + i) = if i < g.2.2.2.1 then g.2.2.2.2.2 i else g.2.2.2.2.2 100
def RHs (c w tr : Nat) (mt kd : Nat → Nat) (truth caskets wooers : Int32) (metals kinds : Nat → Int32) (mtr mca mwo : Int32) (mme mki : Nat → Int32) : Prop :=
  c ≤ 4 ∧ w ≤ 6 ∧ (tr ≤ 4 ∨ tr = 9) ∧ truth = nI tr ∧ mtr = nI tr ∧ caskets = nI c ∧ mca = nI c ∧ wooers = nI w ∧ mwo = nI w ∧ (∀ i, i < c → mt i < 4 ∧ metals i = nI (mt i) ∧ mme i = nI (mt i)) ∧ ∀ i, i < w → kd i < 4 ∧ kinds i = nI (kd i) ∧ mki i = nI (kd i)
def RTxt (len : Int32) (let_ : Nat → Int32) (mlen : Int32) (mtext : Nat → Int32) : Prop := ∃ n : Nat, n ≤ 40 ∧ len = nI n ∧ mlen = nI n ∧ ∀ i, i < n → mtext i = let_ i
theorem upd_s (f : Nat → Int32) (k : Nat) (x : Int32) : upd f k x k = x := by simp [upd]
theorem upd_n {f : Nat → Int32} {k j : Nat} {x : Int32} (h : ¬ j = k) : upd f k x j = f j := by simp [upd, h]
theorem op_write {len mlen : Int32} {let_ mtext : Nat → Int32} (h : RTxt len let_ mlen mtext) (p : Int32) : ∃ (r len' mlen' : Int32) (let' mtext' : Nat → Int32), f_X5_write len let_ p = some (r, len', let') ∧ f_X6_write mlen mtext p = some (r, mlen', mtext') ∧ RTxt len' let' mlen' mtext' := by
  obtain ⟨n, hn, rfl, rfl, ht⟩ := h
  have hR : RTxt (nI n) let_ (nI n) mtext := ⟨n, hn, rfl, rfl, ht⟩
  unfold f_X5_write f_X6_write
  rw [in_e]
  have ei : ((0 : Int64) ≤ p.toInt64 ∧ p.toInt64 ≤ 255) = (¬ p < 0 ∧ p ≤ 255) := by
    rw [fa_le64, fa_le64, Int32.toInt_toInt64, fa_lt, fa_le]
    have : (0 : Int64).toInt = 0 := rfl
    have : (255 : Int64).toInt = 255 := rfl
    have : (0 : Int32).toInt = 0 := rfl
    have : (255 : Int32).toInt = 255 := rfl
    apply propext
    omega
  simp only [ei, Option.bind_some]
  by_cases h1 : p < 0
  · rw [if_pos h1, if_neg (show ¬ (¬ p < 0 ∧ p ≤ 255) from fun z => z.1 h1), if_pos rfl]
    exact ⟨_, _, _, _, _, rfl, rfl, hR⟩
  · rw [if_neg h1]
    by_cases h2 : p ≤ 255
    · rw [if_pos h2, if_pos (show ¬ p < 0 ∧ p ≤ 255 from ⟨h1, h2⟩), if_neg (show ¬ (1 : Int32) = 0 by decide)]
      by_cases h3 : n = 40
      · subst h3
        rw [if_neg (show ¬ nI 40 < 40 by decide), if_pos (show nI 40 = 40 by decide)]
        exact ⟨_, _, _, _, _, rfl, rfl, hR⟩
      · rw [if_pos (show nI n < 40 from nI_lt (b := 40) (by omega) (by omega)), if_neg (show ¬ nI n = 40 from nI_dec (b := 40) (by omega) (by omega) h3), put_e (by omega) (by omega), nI_clamp (by omega), if_neg (gdf (by omega) (by omega)), nI_1]
        refine ⟨_, _, _, _, _, rfl, rfl, n + 1, by omega, rfl, rfl, fun i hi => ?_⟩
        by_cases z : i = n
        · subst z; rw [upd_s, upd_s]
        · rw [upd_n z, upd_n z]; exact ht i (by omega)
    · rw [if_neg h2, if_neg (show ¬ (¬ p < 0 ∧ p ≤ 255) from fun z => h2 z.2), if_pos rfl]
      exact ⟨_, _, _, _, _, rfl, rfl, hR⟩
theorem op_wipe {len mlen : Int32} {let_ mtext : Nat → Int32} (h : RTxt len let_ mlen mtext) : ∃ (r : Int32), f_X5_wipe len = some (r, 0) ∧ f_X6_wipe mlen = some (r, 0) ∧ RTxt 0 let_ 0 mtext := by
  obtain ⟨n, hn, rfl, rfl, ht⟩ := h
  exact ⟨nI n, rfl, rfl, 0, by omega, rfl, rfl, fun i hi => by omega⟩
theorem okS.mln {c w : Nat} {g : Sg} {mn : Nat → Int32} {off : Nat} (h : okS c w g) (hm : mS c g mn off) : mln c g.1 mn off := fun i hi => ⟨h.1 i hi, hm.1 i hi⟩
theorem okS.cln {c w : Nat} {g : Sg} {lines picked : Nat → Int32} {a b d e : Int32} (h : okS c w g) (hc : cS c g lines a b d e picked) : ∀ i, i < c → g.1 i < 24 ∧ lines i = nI (g.1 i) := fun i hi => ⟨h.1 i hi, hc.1 i hi⟩
theorem pow_sub_lt {c : Nat} (hc : c ≤ 4) : 2 ^ c - 1 < 16 := by
  have := p2_lt hc
  omega
theorem div4 : ∀ l, l < 24 → nI l / 4 = nI (l / 4) ∧ nI l - nI l / 4 * 4 = nI (l % 4) := by decide +kernel
theorem tr9 {tr : Nat} (h : tr ≤ 4 ∨ tr = 9) : tr ≤ 9 := by omega
theorem op_casket {c w tr : Nat} {mt kd : Nat → Nat} {g : Sg} {truth caskets wooers mtr mca mwo picture sung tried wed : Int32} {metals kinds mme mki lines picked mn : Nat → Int32} (hH : RHs c w tr mt kd truth caskets wooers metals kinds mtr mca mwo mme mki) (ho : okS c w g) (hc : cS c g lines picture sung tried wed picked) (hm : mS c g mn 0) (p q : Int32) :
    ∃ r, f_X5_casket truth caskets metals sung lines p q = some r ∧ f_X6_casket mtr mca mme mn p q = some r := by
  obtain ⟨hc4, hw6, htr, rfl, rfl, rfl, rfl, rfl, rfl, hmt, hkd⟩ := hH
  unfold f_X5_casket f_X6_casket
  rcases pk_ix p (n := c) (by omega) with h | h | ⟨j, hj, rfl⟩
  · have z := isC_no (c := c) (by omega) (p := p) (Or.inl h)
    rw [z.1, z.2.1]
    exact ⟨-1, rfl, rfl⟩
  · have z := isC_no (c := c) (by omega) (p := p) (Or.inr h)
    rw [z.1, z.2.1]
    exact ⟨-1, rfl, rfl⟩
  · have z := isC_yes (c := c) (by omega) hj
    obtain ⟨m1, m2, m3⟩ := hmt j hj
    have hl := ho.1 j hj
    have hcl := hc.1 j hj
    obtain ⟨n1, n2⟩ := hm.1 j hj
    obtain ⟨d1, d2⟩ := div4 _ hl
    have x4 : (4 : Int32) + nI j = nI (4 + j) := nI_add 4 j
    have hsg := ho.2.2.1
    have h16 := p2_lt hc4
    have hfit := fit_e hc4 htr (ho.cln hc)
    have hrd := readings_e hc4 (tr9 htr) (show j < 4 by omega) (pow_sub_lt hc4) (show 0 < 2 by omega) (ho.mln hm)
    obtain ⟨W, hW, hIs⟩ := rdOf_e (come := 15) hc4 htr (by omega) (ho.cln hc)
    have hW' : f_X4_readings lines (nI tr) (nI c) = some W := by
      unfold f_X4_readings
      have : f_X5_readingsOf (nI tr) (nI c) 4 lines 15 = some W := hW
      rw [this]; rfl
    have hbc := bc_cas hc4 hIs hj
    have hrdc : rd c tr g.1 15 j = rd c tr g.1 (2 ^ c - 1) j := funext fun s => rd_come hc4
    rw [hrdc] at hbc
    have hct := fb_ct_le (rd c tr g.1 (2 ^ c - 1) j) (2 ^ c)
    have hrd' : f_X6_readings (nI tr) (nI c) mn 0 (nI j) (nI (2 ^ c - 1)) = some (nI (fb_ct (rd c tr g.1 (2 ^ c - 1) j) (2 ^ c))) := hrd
    have n9 : mn (Int32.toNatClampNeg 9) = nI g.2.2.1 := hm.2.2.1
    have n1' : mn j = nI (g.1 j / 4) := by rw [Nat.zero_add] at n1; exact n1
    have n2' : mn (4 + j) = nI (g.1 j % 4) := by rw [Nat.zero_add] at n2; exact n2
    rw [z.1, z.2.1]
    simp only [Option.bind_some]
    rw [if_neg (show ¬ (1 : Int32) = 0 by decide), if_neg (show ¬ (1 : Int32) = 0 by decide), at_e (r := metals) (show j < 4 by omega) (by omega), at_e (r := lines) (show j < 4 by omega) (by omega), nI_clamp (show j < 2 ^ 31 by omega), x4, nI_clamp (show 4 + j < 2 ^ 31 by omega), if_neg (gdf (show j < 4 by omega) (by omega)), if_neg (gdf (show j < 36 by omega) (by omega)), if_neg (gdf (show 4 + j < 36 by omega) (by omega)), m2, m3, hcl, n1', n2', n9, hc.2.2.1, hfit, hW', ww_e j (by omega), all_e c (by omega)]
    simp only [Option.bind_some]
    rw [hbc, hrd', d2, d1, shr_e _ (by omega) j (by omega), shr_e _ (Nat.lt_of_lt_of_le (fitS_lt tr g.1 (2 ^ c - 1)) h16) j (by omega)]
    simp only [Option.bind_some]
    have hbit : bI ((fitS c tr g.1 (2 ^ c - 1)).testBit j) = if nI (fb_ct (rd c tr g.1 (2 ^ c - 1) j) (2 ^ c)) ≤ 0 then 0 else 1 := by
      unfold fitS
      rw [bitsF_t]
      by_cases q : 0 < fb_ct (rd c tr g.1 (2 ^ c - 1) j) (2 ^ c)
      · rw [if_neg (nI_nle q (by omega))]; simp [fitP, q, hj, bI]
      · have q0 : fb_ct (rd c tr g.1 (2 ^ c - 1) j) (2 ^ c) = 0 := by omega
        rw [q0, if_pos (by decide)]; simp [fitP, q0, bI]
    rw [hbit]
    by_cases q0 : q = 0
    · exact ⟨_, by rw [if_pos q0], by rw [if_pos q0]⟩
    by_cases q1 : q = 1
    · exact ⟨_, by rw [if_neg q0, if_pos q1], by rw [if_neg q0, if_pos q1]⟩
    by_cases q2 : q = 2
    · exact ⟨_, by rw [if_neg q0, if_neg q1, if_pos q2], by rw [if_neg q0, if_neg q1, if_pos q2]⟩
    by_cases q3 : q = 3
    · exact ⟨_, by rw [if_neg q0, if_neg q1, if_neg q2, if_pos q3], by rw [if_neg q0, if_neg q1, if_neg q2, if_pos q3]⟩
    by_cases q4 : q = 4
    · refine ⟨_, by rw [if_neg q0, if_neg q1, if_neg q2, if_neg q3, if_pos q4], ?_⟩
      rw [if_neg q0, if_neg q1, if_neg q2, if_neg q3, if_pos q4]
      split <;> rfl
    by_cases q5 : q = 5
    · exact ⟨_, by rw [if_neg q0, if_neg q1, if_neg q2, if_neg q3, if_neg q4, if_pos q5], by rw [if_neg q0, if_neg q1, if_neg q2, if_neg q3, if_neg q4, if_pos q5]⟩
    · exact ⟨_, by rw [if_neg q0, if_neg q1, if_neg q2, if_neg q3, if_neg q4, if_neg q5], by rw [if_neg q0, if_neg q1, if_neg q2, if_neg q3, if_neg q4, if_neg q5]⟩
