/-! pure: how many readings; who picks what -/
theorem ct_cut (p : Nat → Bool) (m : Nat) : ∀ n, m ≤ n → fb_ct (fun s => decide (s < m) && p s) n = fb_ct p m := by
  intro n h
  obtain ⟨d, rfl⟩ : ∃ d, n = m + d := ⟨n - m, by omega⟩
  rw [fb_ct_split]
  have e1 : fb_ct (fun s => decide (s < m) && p s) m = fb_ct p m := fb_ct_cong (fun k hk => by simp [hk])
  have e2 : fb_ct (fun k => decide (m + k < m) && p (m + k)) d = 0 := fb_ct_zero.mpr (fun k _ => by
    have : ¬ m + k < m := by omega
    simp [this])
  rw [e1, e2]
  rfl
theorem ct_none : ∀ n, fb_ct (fun _ => false) n = 0 := fun n => fb_ct_zero.mpr (fun _ _ => rfl)
theorem ct_w (w : Int64) : fb_ct (fun j => wb w j) 64 = fb_ct (fun s => wb w (16 * 0 + s)) 16 + fb_ct (fun s => wb w (16 * 1 + s)) 16 + fb_ct (fun s => wb w (16 * 2 + s)) 16 + fb_ct (fun s => wb w (16 * 3 + s)) 16 := by
  have sp : ∀ q : Nat, fb_ct (fun j => wb w j) (q + 16) = fb_ct (fun j => wb w j) q + fb_ct (fun k => wb w (q + k)) 16 := fun q => fb_ct_split _ q 16
  have e3 := sp 48
  have e2 := sp 32
  have e1 := sp 16
  have e0 := sp 0
  simp only [Nat.zero_add] at e0
  have z : fb_ct (fun j => wb w j) 0 = 0 := rfl
  simp only [Nat.reduceAdd, Nat.reduceMul, Nat.zero_add] at *
  rw [e3, e2, e1]
/-- the readings with the picture in one casket -/
theorem ct_isW {c tr come : Nat} {ln : Nat → Nat} {w : Int64} (hc : c ≤ 4) (h : isW c tr ln come w) {t : Nat} (ht : t < 4) : fb_ct (fun s => wb w (16 * t + s)) 16 = if t < c then fb_ct (rd c tr ln come t) (2 ^ c) else 0 := by
  have hp := p2_lt hc
  by_cases z : t < c
  · rw [if_pos z, ← ct_cut (rd c tr ln come t) (2 ^ c) 16 hp]
    exact fb_ct_cong (fun k hk => by rw [h t ht k hk]; simp [z])
  · rw [if_neg z]
    exact fb_ct_zero.mpr (fun k hk => by rw [h t ht k hk]; simp [z])
theorem bc_cas {c tr come : Nat} {ln : Nat → Nat} {w : Int64} (hc : c ≤ 4) (h : isW c tr ln come w) {t : Nat} (ht : t < c) : f_J13_bitCount_95d88 (w &&& ww t) = some (nI (fb_ct (rd c tr ln come t) (2 ^ c))) := by
  have hb : ∀ q, q < 4 → fb_ct (fun s => wb (w &&& ww t) (16 * q + s)) 16 = if q = t then fb_ct (fun s => wb w (16 * t + s)) 16 else 0 := by
    intro q hq
    by_cases z : q = t
    · subst z
      rw [if_pos rfl]
      exact fb_ct_cong (fun k hk => by rw [wb_and, ww_b q (by omega) _ (by omega), (j_ts (t := q) hk).1]; simp)
    · rw [if_neg z]
      exact fb_ct_zero.mpr (fun k hk => by rw [wb_and, ww_b t (by omega) _ (by omega), (j_ts (t := q) hk).1]; simp [z])
  have ht4 : t < 4 := by omega
  have e := ct_isW hc h ht4
  rw [if_pos ht] at e
  rw [bc64, ct_w, hb 0 (by omega), hb 1 (by omega), hb 2 (by omega), hb 3 (by omega), e]
  congr 1
  rcases (show t = 0 ∨ t = 1 ∨ t = 2 ∨ t = 3 by omega) with rfl | rfl | rfl | rfl <;> simp
theorem bc_all {c tr come : Nat} {ln : Nat → Nat} {w : Int64} (hc : c ≤ 4) (h : isW c tr ln come w) : f_J13_bitCount_95d88 w = some (nI (fb_sm (fun t => fb_ct (rd c tr ln come t) (2 ^ c)) c)) := by
  rw [bc64, ct_w, ct_isW hc h (t := 0) (by omega), ct_isW hc h (t := 1) (by omega), ct_isW hc h (t := 2) (by omega), ct_isW hc h (t := 3) (by omega)]
  congr 2
  rcases (show c = 0 ∨ c = 1 ∨ c = 2 ∨ c = 3 ∨ c = 4 by omega) with rfl | rfl | rfl | rfl | rfl <;> simp [fb_sm] <;> omega
def bst (mt : Nat → Nat) (o : Nat) : Nat → Option Nat
  | 0 => none
  | i + 1 => if o.testBit i then (match bst mt o i with
    | none => some i
    | some b => if mt b ≤ mt i then some b else some i) else bst mt o i
def en (b : Option Nat) : Int32 := match b with
  | none => -9
  | some b => nI b
theorem bst_lt (mt : Nat → Nat) (o : Nat) : ∀ i b, bst mt o i = some b → b < i
  | 0, b, h => by simp [bst] at h
  | i + 1, b, h => by
    simp only [bst] at h
    split at h
    · cases hb : bst mt o i with
      | none => rw [hb] at h; simp at h; omega
      | some b0 =>
        have := bst_lt mt o i b0 hb
        rw [hb] at h
        simp only at h
        split at h <;> (cases h; omega)
    · have := bst_lt mt o i b h
      omega
def drI (mt : Nat → Nat) (b : Option Nat) : Int32 := match b with
  | none => 4
  | some b => nI (mt b)
theorem dear_loop {c o : Nat} {mt : Nat → Nat} {metals : Nat → Int32} (hc : c ≤ 4) (ho : o < 2 ^ c) (hm : ∀ i, i < c → mt i < 4 ∧ metals i = nI (mt i)) : ∀ (d i n : Nat), i + d = 4 → d < n →
    f_X1_dearestOf_8 metals (nI o) n (en (bst mt o i)) (drI mt (bst mt o i)) (nI i) = some (en (bst mt o 4)) := by
  have hp := p2_lt hc
  intro d
  induction d with
  | zero =>
    intro i n hi hn
    obtain ⟨n, rfl⟩ : ∃ k, n = k + 1 := ⟨n - 1, by omega⟩
    rw [q_X1_dearestOf_8]
    unfold f_X1_dearestOf_8_b
    rw [if_pos (show (4 : Int32) ≤ nI i from nI_le (a := 4) (by omega) (by omega)), show i = 4 by omega]
  | succ d ih =>
    intro i n hi hn
    obtain ⟨n, rfl⟩ : ∃ k, n = k + 1 := ⟨n - 1, by omega⟩
    have e := ih (i + 1) n (by omega) (by omega)
    have hcl : (nI i).toNatClampNeg = i := nI_clamp (by omega)
    have hg : ¬ (nI i < 0 ∨ 4 ≤ i) := by rintro (h | h); exact nI_pos (by omega) h; omega
    have e1 : (bI (o.testBit i) = 1) = (o.testBit i = true) := by cases o.testBit i <;> simp [bI]
    rw [q_X1_dearestOf_8]
    unfold f_X1_dearestOf_8_b
    rw [if_neg (show ¬ (4 : Int32) ≤ nI i from nI_ge (b := 4) (by omega) (by omega)), shr_e o (by omega) i (by omega), hcl]
    simp only [e1]
    by_cases q : o.testBit i = true
    · have hic : i < c := by
        rcases Nat.lt_or_ge i c with z | z
        · exact z
        · rw [Nat.testBit_lt_two_pow (Nat.lt_of_lt_of_le ho (Nat.pow_le_pow_right (by omega) z))] at q
          cases q
      obtain ⟨h1, h2⟩ := hm i hic
      rw [if_pos q, if_neg hg, h2, nI_1]
      cases hb : bst mt o i with
      | none =>
        have hs : bst mt o (i + 1) = some i := by simp [bst, q, hb]
        rw [hs] at e
        rw [if_neg (show ¬ drI mt none ≤ nI (mt i) from nI_ge (b := 4) (by omega) (by omega)), if_neg hg]
        exact e
      | some b =>
        have hlt := bst_lt mt o i b hb
        have hbm := (hm b (by omega)).1
        by_cases z : mt b ≤ mt i
        · have hs : bst mt o (i + 1) = some b := by simp [bst, q, hb, z]
          rw [hs] at e
          rw [if_pos (show drI mt (some b) ≤ nI (mt i) from nI_le z (by omega))]
          exact e
        · have hs : bst mt o (i + 1) = some i := by simp [bst, q, hb, z]
          rw [hs] at e
          rw [if_neg (show ¬ drI mt (some b) ≤ nI (mt i) from nI_ge (by omega) (by omega)), if_neg hg]
          exact e
    · have hs : bst mt o (i + 1) = bst mt o i := by simp [bst, q]
      rw [hs] at e
      rw [if_neg q, nI_1]
      exact e
theorem mdear_loop {c o : Nat} {mt : Nat → Nat} {metals : Nat → Int32} (hc : c ≤ 4) (ho : o < 2 ^ c) (hm : ∀ i, i < c → mt i < 4 ∧ metals i = nI (mt i)) : ∀ (d i n : Nat), i + d = c → d < n →
    f_X6_picks_28 (nI c) metals (nI o) n (en (bst mt o i)) (nI i) = some (en (bst mt o c)) := by
  have hp := p2_lt hc
  intro d
  induction d with
  | zero =>
    intro i n hi hn
    obtain ⟨n, rfl⟩ : ∃ k, n = k + 1 := ⟨n - 1, by omega⟩
    rw [q_X6_picks_28]
    unfold f_X6_picks_28_b
    rw [if_pos (nI_le (by omega) (by omega)), show i = c by omega]
  | succ d ih =>
    intro i n hi hn
    obtain ⟨n, rfl⟩ : ∃ k, n = k + 1 := ⟨n - 1, by omega⟩
    have e := ih (i + 1) n (by omega) (by omega)
    have hcl : (nI i).toNatClampNeg = i := nI_clamp (by omega)
    have hg : ¬ (nI i < 0 ∨ 4 ≤ i) := by rintro (h | h); exact nI_pos (by omega) h; omega
    rw [q_X6_picks_28]
    unfold f_X6_picks_28_b
    rw [if_neg (nI_ge (by omega) (by omega)), has_e o (by omega) i (by omega)]
    simp only [Option.bind_some, bI_0]
    obtain ⟨h1, h2⟩ := hm i (by omega)
    by_cases q : o.testBit i = false
    · have hs : bst mt o (i + 1) = bst mt o i := by simp [bst, q]
      rw [hs] at e
      rw [if_pos q, nI_1]
      exact e
    · have q' : o.testBit i = true := by cases hh : o.testBit i <;> simp_all
      rw [if_neg q]
      cases hb : bst mt o i with
      | none =>
        have hs : bst mt o (i + 1) = some i := by simp [bst, q', hb]
        rw [hs] at e
        rw [if_pos (show en none = -9 from rfl), nI_1]
        exact e
      | some b =>
        have hlt := bst_lt mt o i b hb
        obtain ⟨h3, h4⟩ := hm b (by omega)
        have hcb : (nI b).toNatClampNeg = b := nI_clamp (by omega)
        have hgb : ¬ (nI b < 0 ∨ 4 ≤ b) := by rintro (h | h); exact nI_pos (by omega) h; omega
        have hne : ¬ en (some b) = -9 := by
          have : ∀ b, b < 4 → ¬ nI b = -9 := by decide
          exact this b (by omega)
        rw [if_neg hne, hcl, if_neg hg]
        show (if nI b < 0 ∨ 4 ≤ (nI b).toNatClampNeg then none else if metals (nI b).toNatClampNeg ≤ metals i then _ else _) = _
        rw [hcb, if_neg hgb, h2, h4, nI_1]
        by_cases z : mt b ≤ mt i
        · have hs : bst mt o (i + 1) = some b := by simp [bst, q', hb, z]
          rw [hs] at e
          rw [if_pos (nI_le z (by omega))]
          exact e
        · have hs : bst mt o (i + 1) = some i := by simp [bst, q', hb, z]
          rw [hs] at e
          rw [if_neg (nI_ge (by omega) (by omega))]
          exact e
theorem bst_cut {mt : Nat → Nat} {o c : Nat} (ho : o < 2 ^ c) : ∀ d, bst mt o (c + d) = bst mt o c
  | 0 => rfl
  | d + 1 => by
    have : o.testBit (c + d) = false := Nat.testBit_lt_two_pow (Nat.lt_of_lt_of_le ho (Nat.pow_le_pow_right (by omega) (by omega)))
    show bst mt o (c + d + 1) = _
    simp only [bst]
    rw [this]
    simpa using bst_cut ho d
def opS (c sg : Nat) : Nat := (2 ^ c - 1) &&& (sg ^^^ 15)
theorem opn_e : ∀ c, c < 5 → ∀ sg, sg < 16 → (((1 : Int32) <<< (nI c &&& 31)) - 1) &&& (nI sg ^^^ (-1)) = nI (opS c sg) := by decide +kernel
theorem opS_lt : ∀ c, c < 5 → ∀ sg, sg < 16 → opS c sg < 2 ^ c := by decide +kernel
def lst (s : Nat) : Option Nat := if s.testBit 0 then some 0 else if s.testBit 1 then some 1 else if s.testBit 2 then some 2 else if s.testBit 3 then some 3 else none
def gst (s : Nat) : Option Nat := if s.testBit 3 then some 3 else if s.testBit 2 then some 2 else if s.testBit 1 then some 1 else if s.testBit 0 then some 0 else none
theorem lst_c : ∀ s, s < 16 → f_X1_leastOf (nI s) = some (en (lst s)) := by decide +kernel
theorem lst_m : ∀ s, s < 16 → f_X6_leastOf (nI s) = some (en (lst s)) := by decide +kernel
theorem gst_c : ∀ s, s < 16 → f_X1_greatestOf (nI s) = some (en (gst s)) := by decide +kernel
theorem gst_m : ∀ c, c < 5 → ∀ s, s < 2 ^ c → ¬ s = 0 → f_X6_picks_116 (nI c) 3 (nI s) 200 (en (lst s)) 0 = some (en (gst s)) := by decide +kernel
theorem lst_2 (c s x : Int32) : f_X6_picks_116 c 2 s 200 x 0 = some x := by
  show f_X6_picks_116 c 2 s (199 + 1) x 0 = some x
  rw [q_X6_picks_116]
  unfold f_X6_picks_116_b
  by_cases h : c ≤ 0
  · rw [if_pos h]
  · rw [if_neg h, if_pos rfl]
/-- who picks what: k the kind, fits and sg the caskets that fit and that are sung -/
def pkS (c : Nat) (mt : Nat → Nat) (k fits sg : Nat) : Option Nat := if k = 1 then bst mt (opS c sg) c else if k = 0 then lst (opS c sg) else if (opS c sg &&& fits) = 0 then lst (opS c sg) else if k = 2 then lst (opS c sg &&& fits) else gst (opS c sg &&& fits)
theorem pick_c {c k fits sg : Nat} {mt : Nat → Nat} {metals : Nat → Int32} (hc : c ≤ 4) (hk : k < 4) (hf : fits < 16) (hs : sg < 16) (hm : ∀ i, i < c → mt i < 4 ∧ metals i = nI (mt i)) : f_X1_pickOf (nI c) metals (nI k) (nI fits) (nI sg) = some (en (pkS c mt k fits sg)) := by
  have ho := opS_lt c (by omega) sg hs
  have hp := p2_lt hc
  have hq : (opS c sg &&& fits) < 16 := Nat.lt_of_le_of_lt Nat.and_le_left (by omega)
  have hd : f_X1_dearestOf metals (nI (opS c sg)) = some (en (bst mt (opS c sg) c)) := by
    have := dear_loop hc ho hm 4 0 200 (by omega) (by omega)
    have hb : bst mt (opS c sg) 4 = bst mt (opS c sg) c := by
      have := bst_cut (mt := mt) ho (4 - c)
      rw [show c + (4 - c) = 4 by omega] at this
      exact this
    rw [hb] at this
    exact this
  have z0 : (nI (opS c sg &&& fits) = 0) = ((opS c sg &&& fits) = 0) := propext (nI_eq (b := 0) (by omega) (by omega))
  unfold f_X1_pickOf f_X1_pickOf_48 pkS
  rw [opn_e c (by omega) sg hs]
  simp only [Option.bind_some]
  rw [fa_and, hd, lst_c _ (by omega), lst_c _ hq, gst_c _ hq]
  simp only [z0, Option.bind_some]
  rcases (show k = 0 ∨ k = 1 ∨ k = 2 ∨ k = 3 by omega) with rfl | rfl | rfl | rfl
  · rw [if_neg (by decide), if_neg (by decide), if_neg (by decide)]; simp
  · rw [if_pos (by decide)]; simp
  · rw [if_neg (by decide), if_pos (by decide)]
    by_cases z : (opS c sg &&& fits) = 0
    · rw [if_pos z, if_neg (by decide)]; simp [z]
    · rw [if_neg z]; simp [z]
  · rw [if_neg (by decide), if_neg (by decide), if_pos (by decide)]
    by_cases z : (opS c sg &&& fits) = 0
    · rw [if_pos z]; simp [z]
    · rw [if_neg z]; simp [z]
theorem pick_m {c k fits sg : Nat} {mt : Nat → Nat} {metals : Nat → Int32} (hc : c ≤ 4) (hk : k < 4) (hf : fits < 16) (hs : sg < 16) (hm : ∀ i, i < c → mt i < 4 ∧ metals i = nI (mt i)) : f_X6_picks (nI c) metals (nI k) (nI fits) (nI sg) = some (en (pkS c mt k fits sg)) := by
  have ho := opS_lt c (by omega) sg hs
  have hp := p2_lt hc
  have hq : (opS c sg &&& fits) < 16 := Nat.lt_of_le_of_lt Nat.and_le_left (by omega)
  have hq2 : (opS c sg &&& fits) < 2 ^ c := Nat.lt_of_le_of_lt Nat.and_le_left ho
  have hd : f_X6_picks_28 (nI c) metals (nI (opS c sg)) 200 (-9) 0 = some (en (bst mt (opS c sg) c)) := mdear_loop hc ho hm c 0 200 (by omega) (by omega)
  have z0 : (nI (opS c sg &&& fits) = 0) = ((opS c sg &&& fits) = 0) := propext (nI_eq (b := 0) (by omega) (by omega))
  have oe : nI (2 ^ c - 1) &&& (nI sg ^^^ (-1)) = nI (opS c sg) := by
    have := opn_e c (by omega) sg hs
    rw [allC_e c (by omega)] at this
    exact this
  unfold f_X6_picks pkS
  rw [all_e c (by omega)]
  simp only [Option.bind_some]
  rw [oe, fa_and, hd, lst_m _ (by omega), lst_m _ hq]
  simp only [z0, Option.bind_some]
  rcases (show k = 0 ∨ k = 1 ∨ k = 2 ∨ k = 3 by omega) with rfl | rfl | rfl | rfl
  · rw [if_neg (by decide), if_pos (by decide)]; simp
  · rw [if_pos (by decide)]; simp
  · rw [if_neg (by decide), if_neg (by decide)]
    by_cases z : (opS c sg &&& fits) = 0
    · rw [if_pos z]; simp [z]
    · have : f_X6_picks_116 (nI c) (nI 2) (nI (opS c sg &&& fits)) 200 (en (lst (opS c sg &&& fits))) 0 = some (en (lst (opS c sg &&& fits))) := lst_2 _ _ _
      rw [if_neg z, this]; simp [z]
  · rw [if_neg (by decide), if_neg (by decide)]
    by_cases z : (opS c sg &&& fits) = 0
    · rw [if_pos z]; simp [z]
    · have : f_X6_picks_116 (nI c) (nI 3) (nI (opS c sg &&& fits)) 200 (en (lst (opS c sg &&& fits))) 0 = some (en (gst (opS c sg &&& fits))) := gst_m c (by omega) _ hq2 z
      rw [if_neg z, this]; simp [z]
theorem lst_lt : ∀ s, s < 16 → ∀ b, lst s = some b → s.testBit b = true ∧ b < 4 := by
  intro s _ b h
  unfold lst at h
  split at h
  · cases h; simp_all
  · split at h
    · cases h; simp_all
    · split at h
      · cases h; simp_all
      · split at h
        · cases h; simp_all
        · cases h
