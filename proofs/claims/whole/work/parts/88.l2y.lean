/-! pure: songs -/
def fw (b : Option Nat) : Nat := match b with
  | none => 5
  | some b => popc b
def sgB (Q : Nat → Bool) : Nat → Option Nat
  | 0 => none
  | n + 1 => if Q n = true ∧ popc n < fw (sgB Q n) then some n else sgB Q n
theorem sgB_lt (Q : Nat → Bool) : ∀ n b, sgB Q n = some b → b < n
  | 0, b, h => by simp [sgB] at h
  | n + 1, b, h => by
    simp only [sgB] at h
    split at h
    · cases h; omega
    · have := sgB_lt Q n b h; omega
theorem sgB_y {Q : Nat → Bool} {n : Nat} (h : Q n = true ∧ popc n < fw (sgB Q n)) : sgB Q (n + 1) = some n := by
  simp only [sgB]
  rw [if_pos h]
theorem sgB_n {Q : Nat → Bool} {n : Nat} (h : ¬ (Q n = true ∧ popc n < fw (sgB Q n))) : sgB Q (n + 1) = sgB Q n := by
  simp only [sgB]
  rw [if_neg h]
theorem fw_min (Q : Nat → Bool) : ∀ n m, m < n → n ≤ 16 → Q m = true → fw (sgB Q n) ≤ popc m
  | 0, m, h, _, _ => by omega
  | n + 1, m, h, h16, hq => by
    by_cases z : Q n = true ∧ popc n < fw (sgB Q n)
    · rw [sgB_y z]
      show popc n ≤ popc m
      by_cases e : m = n
      · subst e; exact Nat.le_refl _
      · have := fw_min Q n m (by omega) (by omega) hq
        omega
    · rw [sgB_n z]
      by_cases e : m = n
      · subst e
        apply Classical.byContradiction
        intro hn
        exact z ⟨hq, by omega⟩
      · exact fw_min Q n m (by omega) (by omega) hq
theorem sub_set : ∀ sg, sg < 16 → ∀ m, m < 16 → ¬ m &&& sg = 0 → (m &&& (sg ^^^ 15)) < m ∧ popc (m &&& (sg ^^^ 15)) < popc m ∧ (sg ||| (m &&& (sg ^^^ 15))) = (sg ||| m) := by decide +kernel
theorem or16 {a b : Nat} (ha : a < 16) (hb : b < 16) : (a ||| b) < 16 := Nat.or_lt_two_pow (n := 4) ha hb
def snP (c : Nat) (mt : Nat → Nat) (k fits : Nat) (g : Sg) (m : Nat) : Bool := decide (en (pkS c mt k fits (g.2.2.1 ||| m)) = g.2.1)
/-- what is sung already is not sung for it -/
theorem sn_apart {c k fits i : Nat} {mt : Nat → Nat} {g : Sg} (hs : g.2.2.1 < 16) (hi : i < 16) (h : snP c mt k fits g i = true ∧ popc i < fw (sgB (snP c mt k fits g) i)) : i &&& g.2.2.1 = 0 := by
  apply Classical.byContradiction
  intro hn
  obtain ⟨h1, h2, h3⟩ := sub_set _ hs i hi hn
  have hq : snP c mt k fits g (i &&& (g.2.2.1 ^^^ 15)) = true := by
    have := h.1
    unfold snP at this ⊢
    rw [h3]
    exact this
  have := fw_min (snP c mt k fits g) i _ h1 (by omega) hq
  omega
theorem fw_nI {b : Option Nat} (h : ∀ x, b = some x → x < 16) : fw b ≤ 5 := by
  cases b with
  | none => exact Nat.le_refl _
  | some x =>
    have := popc_le x (h x rfl)
    show popc x ≤ 5
    omega
theorem songsC_loop {c k fits : Nat} {mt : Nat → Nat} {g : Sg} {metals : Nat → Int32} (hc : c ≤ 4) (hk : k < 4) (hf : fits < 16) (hs : g.2.2.1 < 16) (hm : ∀ i, i < c → mt i < 4 ∧ metals i = nI (mt i)) : ∀ (d i n : Nat), i + d = 2 ^ c → d < n →
    f_X5_songs_62 (nI c) metals g.2.1 (nI g.2.2.1) (nI k) (nI fits) n (en (sgB (snP c mt k fits g) i)) (nI (fw (sgB (snP c mt k fits g) i))) (nI i) = some (en (sgB (snP c mt k fits g) (2 ^ c))) := by
  have hp := p2_lt hc
  intro d
  induction d with
  | zero =>
    intro i n hi hn
    obtain ⟨n, rfl⟩ : ∃ k, n = k + 1 := ⟨n - 1, by omega⟩
    rw [q_X5_songs_62]
    unfold f_X5_songs_62_b
    rw [shl_e c (by omega), if_pos (nI_le (by omega) (by omega)), show i = 2 ^ c by omega]
  | succ d ih =>
    intro i n hi hn
    obtain ⟨n, rfl⟩ : ∃ k, n = k + 1 := ⟨n - 1, by omega⟩
    have e := ih (i + 1) n (by omega) (by omega)
    have hpc := popc_le i (by omega)
    have hfw := fw_nI (b := sgB (snP c mt k fits g) i) (fun x hx => by have := sgB_lt _ _ _ hx; omega)
    have pc := pick_c (metals := metals) hc hk hf (or16 hs (show i < 16 by omega)) hm
    rw [q_X5_songs_62]
    unfold f_X5_songs_62_b
    rw [shl_e c (by omega), if_neg (nI_ge (by omega) (by omega)), if_neg (show ¬ (15 : Int32) < nI i from nI_nlt (a := 15) (by omega) (by omega)), bc_e i (by omega), Option.bind_some, fa_or, pc, Option.bind_some, nI_1]
    by_cases z1 : popc i < fw (sgB (snP c mt k fits g) i)
    · rw [if_neg (nI_ge z1 (by omega))]
      by_cases z2 : en (pkS c mt k fits (g.2.2.1 ||| i)) = g.2.1
      · rw [if_pos z2]
        rw [sgB_y ⟨by simp [snP, z2], z1⟩] at e
        exact e
      · rw [if_neg z2]
        rw [sgB_n (fun h => by have := h.1; simp [snP, z2] at this)] at e
        exact e
    · rw [if_pos (nI_le (by omega) (by omega))]
      rw [sgB_n (fun h => z1 h.2)] at e
      exact e
theorem songsM_loop {c k fits w wj : Nat} {mt : Nat → Nat} {g : Sg} {mme mki mn : Nat → Int32} {pj : Nat} (hc : c ≤ 4) (hk : k < 4) (hf : fits < 16) (hs : g.2.2.1 < 16) (hwj : wj < 6) (hkd : mki wj = nI k) (hpj : g.2.1 = nI pj) (hpj4 : pj < 4) (hm : mS c g mn 0) (hmt : ∀ i, i < c → mt i < 4 ∧ mme i = nI (mt i)) : ∀ (d i n : Nat), i + d = 2 ^ c → d < n →
    f_X6_songs_26 (nI c) mme mki mn (nI wj) (nI fits) n (en (sgB (snP c mt k fits g) i)) (nI i) = some (en (sgB (snP c mt k fits g) (2 ^ c))) := by
  have hp := p2_lt hc
  have hp0 : 0 < 2 ^ c := Nat.two_pow_pos c
  have n8 : mn (Int32.toNatClampNeg 8) = g.2.1 := hm.2.1
  have n9 : mn (Int32.toNatClampNeg 9) = nI g.2.2.1 := hm.2.2.1
  have ne9 : ∀ b, b < 16 → ¬ nI b = -9 := by decide
  intro d
  induction d with
  | zero =>
    intro i n hi hn
    obtain ⟨n, rfl⟩ : ∃ k, n = k + 1 := ⟨n - 1, by omega⟩
    rw [q_X6_songs_26]
    unfold f_X6_songs_26_b
    rw [all_e c (by omega), Option.bind_some, if_pos (nI_lt (by omega) (by omega)), show i = 2 ^ c by omega]
  | succ d ih =>
    intro i n hi hn
    obtain ⟨n, rfl⟩ : ∃ k, n = k + 1 := ⟨n - 1, by omega⟩
    have e := ih (i + 1) n (by omega) (by omega)
    have hpc := popc_le i (by omega)
    have hfw := fw_nI (b := sgB (snP c mt k fits g) i) (fun x hx => by have := sgB_lt _ _ _ hx; omega)
    have pm := pick_m (metals := mme) hc hk hf (or16 hs (show i < 16 by omega)) hmt
    have hand : (nI i &&& nI g.2.2.1 = 0) ↔ i &&& g.2.2.1 = 0 := by
      rw [fa_and]
      exact nI_eq (b := 0) (Nat.lt_of_le_of_lt Nat.and_le_left (by omega)) (by omega)
    have r95a : ∀ v2 : Int32, f_X6_songs_95 (nI c) mme mki mn (nI wj) v2 (nI fits) (nI i) 0 (fun x => f_X6_songs_26 (nI c) mme mki mn (nI wj) (nI fits) n x.1 x.2) = f_X6_songs_26 (nI c) mme mki mn (nI wj) (nI fits) n v2 (nI (i + 1)) := by
      intro v2
      unfold f_X6_songs_95
      rw [if_pos rfl, nI_1]
    have r95b : ∀ v2 : Int32, f_X6_songs_95 (nI c) mme mki mn (nI wj) v2 (nI fits) (nI i) 1 (fun x => f_X6_songs_26 (nI c) mme mki mn (nI wj) (nI fits) n x.1 x.2) = f_X6_songs_26 (nI c) mme mki mn (nI wj) (nI fits) n (if en (pkS c mt k fits (g.2.2.1 ||| i)) = g.2.1 then nI i else v2) (nI (i + 1)) := by
      intro v2
      unfold f_X6_songs_95
      rw [if_neg (show ¬ (1 : Int32) = 0 by decide), nI_clamp (show wj < 2 ^ 31 by omega), if_neg (gdf hwj (by omega)), hkd, n9, n8, fa_or, pm, Option.bind_some, nI_1]
      by_cases z2 : en (pkS c mt k fits (g.2.2.1 ||| i)) = g.2.1
      · rw [if_pos z2, if_pos z2]
      · rw [if_neg z2, if_neg z2]
    have r70a : ∀ v2 : Int32, f_X6_songs_70 (nI c) mme mki mn (nI wj) v2 (nI fits) (nI i) 0 (fun x => f_X6_songs_26 (nI c) mme mki mn (nI wj) (nI fits) n x.1 x.2) = f_X6_songs_26 (nI c) mme mki mn (nI wj) (nI fits) n v2 (nI (i + 1)) := by
      intro v2
      unfold f_X6_songs_70
      rw [if_pos rfl, r95a]
    have r70b : popc i < fw (sgB (snP c mt k fits g) i) → f_X6_songs_70 (nI c) mme mki mn (nI wj) (en (sgB (snP c mt k fits g) i)) (nI fits) (nI i) 1 (fun x => f_X6_songs_26 (nI c) mme mki mn (nI wj) (nI fits) n x.1 x.2) = some (en (sgB (snP c mt k fits g) (2 ^ c))) := by
      intro z1
      unfold f_X6_songs_70
      rw [if_neg (show ¬ (1 : Int32) = 0 by decide), n9, r95a, r95b]
      by_cases z2 : en (pkS c mt k fits (g.2.2.1 ||| i)) = g.2.1
      · have hz : snP c mt k fits g i = true ∧ popc i < fw (sgB (snP c mt k fits g) i) := ⟨by simp [snP, z2], z1⟩
        rw [if_pos (hand.mpr (sn_apart hs (by omega) hz)), if_pos z2]
        rw [sgB_y hz] at e
        exact e
      · rw [sgB_n (fun h => by have := h.1; simp [snP, z2] at this)] at e
        rw [if_neg z2]
        by_cases z3 : nI i &&& nI g.2.2.1 = 0
        · rw [if_pos z3]; exact e
        · rw [if_neg z3]; exact e
    have n8' : ¬ g.2.1 = -9 := by rw [hpj]; exact ne9 pj (by omega)
    rw [q_X6_songs_26]
    unfold f_X6_songs_26_b
    rw [all_e c (by omega), Option.bind_some, if_neg (nI_nlt (by omega) (by omega)), n8, if_neg n8', r70a]
    cases hb : sgB (snP c mt k fits g) i with
    | none =>
      rw [hb] at r70b
      rw [if_pos (show en none = -9 from rfl), r70b (show popc i < 5 by omega)]
    | some b =>
      have hlt := sgB_lt _ _ _ hb
      have hpb := popc_le b (by omega)
      rw [hb] at r70b
      rw [if_neg (show ¬ en (some b) = -9 from ne9 b (by omega)), ones_e i (by omega), Option.bind_some, show f_X6_ones (en (some b)) = some (nI (popc b)) from ones_e b (by omega), Option.bind_some]
      by_cases z1 : popc i < popc b
      · rw [if_neg (nI_ge z1 (by omega)), r70b z1]
      · rw [if_pos (nI_le (by omega) (by omega))]
        have hs2 : sgB (snP c mt k fits g) (i + 1) = some b := by
          rw [sgB_n (fun h => z1 (by have := h.2; rw [hb] at this; exact this)), hb]
        rw [hs2] at e
        exact e
theorem op_songs {c w tr : Nat} {mt kd : Nat → Nat} {g : Sg} {truth caskets wooers mtr mca mwo picture sung tried wed : Int32} {metals kinds mme mki lines picked mn : Nat → Int32} (hH : RHs c w tr mt kd truth caskets wooers metals kinds mtr mca mwo mme mki) (ho : okS c w g) (hc : cS c g lines picture sung tried wed picked) (hm : mS c g mn 0) (p : Int32) :
    ∃ r, f_X5_songs truth caskets wooers metals kinds picture sung lines p = some r ∧ f_X6_songs mtr mca mwo mme mki mn p = some r := by
  obtain ⟨hc4, hw6, htr, rfl, rfl, rfl, rfl, rfl, rfl, hmt, hkd⟩ := hH
  unfold f_X5_songs f_X6_songs
  rcases pk_ix p (n := w) (by omega) with h | h | ⟨j, hj, rfl⟩
  · have z := isC_no (c := w) (by omega) (p := p) (Or.inl h)
    rw [z.2.2.1, z.2.2.2, Option.bind_some, Option.bind_some, if_pos rfl, if_pos rfl]
    exact ⟨-1, rfl, rfl⟩
  · have z := isC_no (c := w) (by omega) (p := p) (Or.inr h)
    rw [z.2.2.1, z.2.2.2, Option.bind_some, Option.bind_some, if_pos rfl, if_pos rfl]
    exact ⟨-1, rfl, rfl⟩
  · have z := isC_yes (c := w) (by omega) hj
    obtain ⟨k1, k2, k3⟩ := hkd j hj
    have h16 := p2_lt hc4
    have hsg := ho.2.2.1
    have hf := fit16 hc4 tr g.1 (2 ^ c - 1)
    rw [z.2.2.1, z.2.2.2, Option.bind_some, Option.bind_some, if_neg (show ¬ (1 : Int32) = 0 by decide), if_neg (show ¬ (1 : Int32) = 0 by decide), hc.2.1, at_e (r := kinds) (show j < 6 by omega) (by omega), Option.bind_some, k2, fit_e hc4 htr (ho.cln hc), Option.bind_some, all_e c (by omega), Option.bind_some, fitM hc4 htr ho hm, Option.bind_some, hc.2.2.1]
    rcases ho.2.1 with hp | ⟨pj, hpj, hp⟩
    · have n8 : mn (Int32.toNatClampNeg 8) = -9 := by rw [← hp]; exact hm.2.1
      have e : f_X6_songs_26 (nI c) mme mki mn (nI j) (nI (fitS c tr g.1 (2 ^ c - 1))) 200 (-9) 0 = some (-9) := by
        rw [show 200 = 199 + 1 from rfl, q_X6_songs_26]
        unfold f_X6_songs_26_b
        rw [all_e c (by omega), Option.bind_some, if_pos n8]
        by_cases zz : nI (2 ^ c - 1) < 0
        · rw [if_pos zz]
        · rw [if_neg zz]
      rw [if_pos hp, e]
      exact ⟨-9, rfl, rfl⟩
    · have n9 : ¬ g.2.1 = -9 := by
        have : ∀ b, b < 4 → ¬ nI b = -9 := by decide
        rw [hp]
        exact this pj (by omega)
      have ec := songsC_loop (metals := metals) (k := kd j) hc4 k1 hf (show g.2.2.1 < 16 by omega) (fun i hi => ⟨(hmt i hi).1, (hmt i hi).2.1⟩) (2 ^ c) 0 200 (by omega) (by omega)
      have em := songsM_loop (w := w) (mki := mki) (wj := j) (mme := mme) (k := kd j) hc4 k1 hf (show g.2.2.1 < 16 by omega) (by omega) k3 hp (by omega) hm (fun i hi => ⟨(hmt i hi).1, (hmt i hi).2.2⟩) (2 ^ c) 0 200 (by omega) (by omega)
      have ec' : f_X5_songs_62 (nI c) metals g.2.1 (nI g.2.2.1) (nI (kd j)) (nI (fitS c tr g.1 (2 ^ c - 1))) 200 (-9) 5 0 = some (en (sgB (snP c mt (kd j) (fitS c tr g.1 (2 ^ c - 1)) g) (2 ^ c))) := ec
      have em' : f_X6_songs_26 (nI c) mme mki mn (nI j) (nI (fitS c tr g.1 (2 ^ c - 1))) 200 (-9) 0 = some (en (sgB (snP c mt (kd j) (fitS c tr g.1 (2 ^ c - 1)) g) (2 ^ c))) := em
      rw [if_neg n9, ec', em']
      exact ⟨_, rfl, rfl⟩
