/-! pure: said -/
def fsI (P : Nat → Bool) (f : Nat → Int32) : Nat → Int32
  | 0 => -9
  | n + 1 => if P n = true ∧ fb_ct P n = 0 then f n else fsI P f n
theorem fsI_no {P : Nat → Bool} {f : Nat → Int32} {N : Nat} (hf : ∀ l, l < N → ¬ f l = -9) : ∀ n, n ≤ N → (fsI P f n = -9 ↔ fb_ct P n = 0)
  | 0, _ => by simp [fsI, fb_ct]
  | n + 1, h => by
    have ih := fsI_no (P := P) hf n (by omega)
    rw [fb_ct_succ]
    simp only [fsI]
    by_cases z : P n = true
    · by_cases y : fb_ct P n = 0
      · rw [if_pos ⟨z, y⟩]
        constructor
        · intro e; exact absurd e (hf n (by omega))
        · intro e; simp [z] at e
      · rw [if_neg (fun q => y q.2), ih]
        constructor
        · intro e; exact absurd e y
        · intro e; simp [z] at e
    · rw [if_neg (fun q => z q.1), ih]
      simp [z]
theorem fsI_y {P : Nat → Bool} {f : Nat → Int32} {n : Nat} (h1 : P n = true) (h2 : fb_ct P n = 0) : fsI P f (n + 1) = f n := by
  simp only [fsI]
  rw [if_pos ⟨h1, h2⟩]
theorem fsI_s {P : Nat → Bool} {f : Nat → Int32} {n : Nat} (h : ¬ (P n = true ∧ fb_ct P n = 0)) : fsI P f (n + 1) = fsI P f n := by
  simp only [fsI]
  rw [if_neg h]
theorem ct_y {P : Nat → Bool} {n : Nat} (h : P n = true) : fb_ct P (n + 1) = fb_ct P n + 1 := by rw [fb_ct_succ, if_pos h]
theorem ct_n {P : Nat → Bool} {n : Nat} (h : P n = false) : fb_ct P (n + 1) = fb_ct P n := by rw [fb_ct_succ, h]; rfl
def fgI (l : Nat) : Int32 := nI (10 * (l / 4) + l % 4)
theorem fgI_no : ∀ l, l < 24 → ¬ fgI l = -9 := by decide +kernel
def sdP (c tr : Nat) (g : Sg) (j pj l : Nat) : Bool := decide (fitS c tr (setN g.1 j l) (2 ^ c - 1) = 2 ^ pj)
theorem pj16 : ∀ pj, pj < 4 → 2 ^ pj < 16 := by decide
theorem saidC_loop {c tr j pj : Nat} {g : Sg} {W : Int64} {v2 : Int32} (hc : c ≤ 4) (hj : j < c) (hp : pj < c) (hW : isW c tr g.1 (15 - 2 ^ j) W) : ∀ (d i n : Nat), i + d = 24 → d < n →
    f_X5_said_69 (nI pj) (nI j) v2 W n (nI (fb_ct (sdP c tr g j pj) i)) (fsI (sdP c tr g j pj) fgI i) (nI i) = f_X5_said_128 v2 (nI (fb_ct (sdP c tr g j pj) 24)) (fsI (sdP c tr g j pj) fgI 24) := by
  intro d
  induction d with
  | zero =>
    intro i n hi hn
    obtain ⟨n, rfl⟩ : ∃ k, n = k + 1 := ⟨n - 1, by omega⟩
    rw [q_X5_said_69]
    unfold f_X5_said_69_b
    rw [if_pos (show (24 : Int32) ≤ nI i from nI_le (a := 24) (by omega) (by omega)), show i = 24 by omega]
  | succ d ih =>
    intro i n hi hn
    obtain ⟨n, rfl⟩ : ∃ k, n = k + 1 := ⟨n - 1, by omega⟩
    have e := ih (i + 1) n (by omega) (by omega)
    obtain ⟨c1, c2, c3, c4⟩ := come_j j (by omega)
    have hs := isW_set hc hj (show i < 24 by omega) c2 hW
    rw [c3] at hs
    have hf := fitsOf_e hc hs
    rw [fitS_come hc] at hf
    have h16 := fit16 hc tr (setN g.1 j i) (2 ^ c - 1)
    have hp16 := pj16 pj (by omega)
    rw [q_X5_said_69]
    unfold f_X5_said_69_b
    rw [if_neg (show ¬ (24 : Int32) ≤ nI i from nI_ge (b := 24) (by omega) (by omega)), ag_e j (by omega) i (by omega), Option.bind_some, hf, Option.bind_some, shl_e pj (by omega), fig_e i (by omega), Option.bind_some]
    have hno := fsI_no (P := sdP c tr g j pj) fgI_no i (by omega)
    by_cases z : fitS c tr (setN g.1 j i) (2 ^ c - 1) = 2 ^ pj
    · have zs : sdP c tr g j pj i = true := by simp [sdP, z]
      rw [ct_y zs] at e
      rw [if_pos (show nI (fitS c tr (setN g.1 j i) (2 ^ c - 1)) = nI (2 ^ pj) by rw [z]), nI_1, nI_1]
      by_cases y : fb_ct (sdP c tr g j pj) i = 0
      · rw [if_pos (hno.mpr y)]
        rw [fsI_y zs y] at e
        exact e
      · rw [if_neg (fun q => y (hno.mp q))]
        rw [fsI_s (fun q => y q.2)] at e
        exact e
    · have zs : sdP c tr g j pj i = false := by simp [sdP, z]
      rw [ct_n zs, fsI_s (fun q => by rw [zs] at q; exact Bool.false_ne_true q.1)] at e
      rw [if_neg (nI_dec (by omega) (by omega) z), nI_1]
      exact e
theorem saidM_loop {c w tr j pj : Nat} {g : Sg} {v2 : Int32} (hc : c ≤ 4) (htr : tr ≤ 4 ∨ tr = 9) (ho : okS c w g) (hj : j < c) (hp : pj < c) (hpic : g.2.1 = nI pj) : ∀ (d i n : Nat) (mn : Nat → Int32), i + d = 24 → d < n → mS c g mn 0 →
    ∃ mn', f_X6_said_19 (nI tr) (nI c) (nI j) v2 n mn (nI (fb_ct (sdP c tr g j pj) i)) (fsI (sdP c tr g j pj) fgI i) (nI i) = f_X6_said_102 mn' v2 (nI (fb_ct (sdP c tr g j pj) 24)) (fsI (sdP c tr g j pj) fgI 24) ∧ mS c g mn' 0 := by
  intro d
  induction d with
  | zero =>
    intro i n mn hi hn hm
    obtain ⟨n, rfl⟩ : ∃ k, n = k + 1 := ⟨n - 1, by omega⟩
    refine ⟨mn, ?_, hm⟩
    rw [q_X6_said_19]
    unfold f_X6_said_19_b
    rw [if_pos (show (24 : Int32) ≤ nI i from nI_le (a := 24) (by omega) (by omega)), show i = 24 by omega]
  | succ d ih =>
    intro i n mn hi hn hm
    obtain ⟨n, rfl⟩ : ∃ k, n = k + 1 := ⟨n - 1, by omega⟩
    have n8 : mn (Int32.toNatClampNeg 8) = nI pj := by rw [← hpic]; exact hm.2.1
    have n9 : ¬ nI pj = -9 := by
      have : ∀ b, b < 4 → ¬ nI b = -9 := by decide
      exact this pj (by omega)
    obtain ⟨t1, t0⟩ := hm.trial hc
    have u1 := t1.lay (l := i) hc hj
    have u0 := t0.lay0 (x := nI (i / 4)) (y := nI (i % 4)) hc hj
    have hf := fitM1 hc htr (ho.setL (j := j) (show i < 24 by omega)) u1
    obtain ⟨mn', e, hm'⟩ := ih (i + 1) n _ (by omega) (by omega) u0
    refine ⟨mn', ?_, hm'⟩
    have m8 : upd (upd (fb_put mn mn 18 18) (18 + j) (nI (i / 4))) (22 + j) (nI (i % 4)) (Int32.toNatClampNeg 8) = nI pj := by rw [← hpic]; exact u0.2.1
    have h16 := fit16 hc tr (setN g.1 j i) (2 ^ c - 1)
    have hp16 := pj16 pj (by omega)
    obtain ⟨d1, d2⟩ := div4 i (by omega)
    have y10 : (10 * nI (i / 4)) + nI (i % 4) = fgI i := (lin_c _ (by omega) _ (by omega)).2
    rw [q_X6_said_19]
    unfold f_X6_said_19_b
    rw [if_neg (show ¬ (24 : Int32) ≤ nI i from nI_ge (b := 24) (by omega) (by omega)), n8, if_neg n9, layTrial_e, Option.bind_some, layLine_e (by omega) (by omega), Option.bind_some, all_e c (by omega), Option.bind_some, hf, Option.bind_some, m8, shl_e pj (by omega), d2, d1, y10, setL_1]
    have hlt := fb_ct_le (sdP c tr g j pj) i
    have k0 : (nI (fb_ct (sdP c tr g j pj) i) = 0) ↔ fb_ct (sdP c tr g j pj) i = 0 := nI_eq (b := 0) (by omega) (by omega)
    by_cases z : fitS c tr (setN g.1 j i) (2 ^ c - 1) = 2 ^ pj
    · have zs : sdP c tr g j pj i = true := by simp [sdP, z]
      rw [ct_y zs] at e
      rw [if_pos (show nI (fitS c tr (setN g.1 j i) (2 ^ c - 1)) = nI (2 ^ pj) by rw [z]), nI_1, nI_1]
      by_cases y : fb_ct (sdP c tr g j pj) i = 0
      · rw [if_pos (k0.mpr y)]
        rw [fsI_y zs y] at e
        exact e
      · rw [if_neg (fun q => y (k0.mp q))]
        rw [fsI_s (fun q => y q.2)] at e
        exact e
    · have zs : sdP c tr g j pj i = false := by simp [sdP, z]
      rw [ct_n zs, fsI_s (fun q => by rw [zs] at q; exact Bool.false_ne_true q.1)] at e
      rw [if_neg (nI_dec (by omega) (by omega) z), nI_1]
      exact e
theorem op_said {c w tr : Nat} {mt kd : Nat → Nat} {g : Sg} {truth caskets wooers mtr mca mwo picture sung tried wed : Int32} {metals kinds mme mki lines picked mn : Nat → Int32} (hH : RHs c w tr mt kd truth caskets wooers metals kinds mtr mca mwo mme mki) (ho : okS c w g) (hc : cS c g lines picture sung tried wed picked) (hm : mS c g mn 0) (p q : Int32) :
    ∃ r mn', f_X5_said truth caskets picture lines p q = some r ∧ f_X6_said mtr mca mn p q = some (r, mn') ∧ mS c g mn' 0 := by
  obtain ⟨hc4, hw6, htr, rfl, rfl, rfl, rfl, rfl, rfl, hmt, hkd⟩ := hH
  unfold f_X5_said f_X6_said
  rcases pk_ix p (n := c) (by omega) with h | h | ⟨j, hj, rfl⟩
  · have z := isC_no (c := c) (by omega) (p := p) (Or.inl h)
    rw [z.1, z.2.1, Option.bind_some, Option.bind_some, if_pos rfl, if_pos rfl]
    exact ⟨-1, mn, rfl, rfl, hm⟩
  · have z := isC_no (c := c) (by omega) (p := p) (Or.inr h)
    rw [z.1, z.2.1, Option.bind_some, Option.bind_some, if_pos rfl, if_pos rfl]
    exact ⟨-1, mn, rfl, rfl, hm⟩
  · have z := isC_yes (c := c) (by omega) hj
    rw [z.1, z.2.1, Option.bind_some, Option.bind_some, if_neg (show ¬ (1 : Int32) = 0 by decide), if_neg (show ¬ (1 : Int32) = 0 by decide), hc.2.1]
    rcases ho.2.1 with hp | ⟨pj, hpj, hp⟩
    · have n8 : mn (Int32.toNatClampNeg 8) = -9 := by rw [← hp]; exact hm.2.1
      have e : f_X6_said_19 (nI tr) (nI c) (nI j) q 200 mn 0 (-9) 0 = f_X6_said_102 mn q 0 (-9) := by
        rw [show 200 = 199 + 1 from rfl, q_X6_said_19]
        unfold f_X6_said_19_b
        rw [if_neg (show ¬ (24 : Int32) ≤ 0 by decide), if_pos n8]
      rw [hp, if_pos rfl, e]
      unfold f_X6_said_102
      by_cases y : q = 0
      · rw [if_pos y, if_pos y]; exact ⟨0, mn, rfl, rfl, hm⟩
      · rw [if_neg y, if_neg y]; exact ⟨-9, mn, rfl, rfl, hm⟩
    · have n9 : ¬ nI pj = -9 := by
        have : ∀ b, b < 4 → ¬ nI b = -9 := by decide
        exact this pj (by omega)
      obtain ⟨c1, c2, c3, c4⟩ := come_j j (by omega)
      obtain ⟨W, hW, hIs⟩ := rdOf_e (come := 15 - 2 ^ j) hc4 htr c4 (ho.cln hc)
      have ec := saidC_loop (v2 := q) hc4 hj hpj hIs 24 0 200 (by omega) (by omega)
      obtain ⟨mn', em, hm'⟩ := saidM_loop (v2 := q) hc4 htr ho hj hpj hp 24 0 200 mn (by omega) (by omega) hm
      rw [show fb_ct (sdP c tr g j pj) 0 = 0 from rfl, show fsI (sdP c tr g j pj) fgI 0 = -9 from rfl, show nI 0 = 0 from rfl] at ec em
      rw [hp, if_neg n9, c1, hW, Option.bind_some, ec, em]
      unfold f_X5_said_128 f_X6_said_102
      by_cases y : q = 0
      · rw [if_pos y, if_pos y]; exact ⟨_, mn', rfl, rfl, hm'⟩
      · rw [if_neg y, if_neg y]; exact ⟨_, mn', rfl, rfl, hm'⟩
