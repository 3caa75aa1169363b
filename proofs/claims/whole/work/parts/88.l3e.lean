/-! pure: lost -/
theorem sm_rev (f : Nat → Nat) : ∀ n, fb_sm (fun g => f (n - 1 - g)) n = fb_sm f n
  | 0 => rfl
  | n + 1 => by
    have ih := sm_rev f n
    rw [fb_sm_succ f n, show n + 1 = 1 + n by omega, fb_sm_split]
    have e1 : fb_sm (fun g => f (1 + n - 1 - g)) 1 = f n := by
      show 0 + f (1 + n - 1 - 0) = f n
      rw [Nat.zero_add]
      congr 1
      omega
    have e2 : fb_sm (fun k => f (1 + n - 1 - (1 + k))) n = fb_sm (fun g => f (n - 1 - g)) n := fb_sm_cong (fun k _ => by
      show f (1 + n - 1 - (1 + k)) = f (n - 1 - k)
      congr 1
      omega)
    rw [e1, e2, ih]
    omega
theorem pop_c : ∀ c, c < 5 → ∀ i, i < 2 ^ c → popc i ≤ c ∧ popc (2 ^ c - 1 - i) = c - popc i ∧ nI (2 ^ c - 1) &&& (nI i ^^^ (-1)) = nI (2 ^ c - 1 - i) := by decide +kernel
theorem ten_c : ∀ c, c < 5 → ∀ x, x < 11 → fb_sm (fun i => x ^ popc i * (10 - x) ^ (c - popc i)) (2 ^ c) = 10 ^ c := by decide +kernel
theorem ten_b : ∀ c, c < 5 → 0 < 10 ^ c ∧ 10 ^ c < 2 ^ 14 := by decide
def lwt (c x i : Nat) : Nat := x ^ popc i * (10 - x) ^ (c - popc i)
def ltm (c tr : Nat) (ln : Nat → Nat) (j x i : Nat) : Nat := if fitS c tr ln i = 2 ^ j then (10 - x) ^ popc i * x ^ (c - popc i) else 0
def ltr (c tr : Nat) (ln : Nat → Nat) (j x i : Nat) : Nat := ltm c tr ln j x (2 ^ c - 1 - i)
theorem ltr_e {c tr j x i : Nat} {ln : Nat → Nat} (hc : c ≤ 4) (hi : i < 2 ^ c) : ltr c tr ln j x i = if fitS c tr ln (2 ^ c - 1 - i) = 2 ^ j then lwt c x i else 0 := by
  obtain ⟨h1, h2, -⟩ := pop_c c (by omega) i hi
  unfold ltr ltm lwt
  rw [h2, Nat.mul_comm, show c - (c - popc i) = popc i by omega]
theorem lostC_loop {c tr j x : Nat} {ln : Nat → Nat} {lines : Nat → Int32} {u : Int32} (hc : c ≤ 4) (hj : j < c) (hx : x ≤ 10) (htr : tr ≤ 4 ∨ tr = 9) (hln : ∀ i, i < c → ln i < 24 ∧ lines i = nI (ln i)) : ∀ (d i n : Nat), i + d = 2 ^ c → d < n →
    f_X5_lost_32 (nI tr) (nI c) lines (nI j) (nI x) u n (nI (fb_sm (ltm c tr ln j x) i)) (nI i) = f_X5_lost_114 (nI c) u (nI (fb_sm (ltm c tr ln j x) (2 ^ c))) := by
  have hp := p2_lt hc
  have x10 : (10 : Int32) - nI x = nI (10 - x) := pk_sub (a := 10) hx
  intro d
  induction d with
  | zero =>
    intro i n hi hn
    obtain ⟨n, rfl⟩ : ∃ k, n = k + 1 := ⟨n - 1, by omega⟩
    rw [q_X5_lost_32]
    unfold f_X5_lost_32_b
    rw [shl_e c (by omega), if_pos (nI_le (by omega) (by omega)), show i = 2 ^ c by omega]
  | succ d ih =>
    intro i n hi hn
    obtain ⟨n, rfl⟩ : ∃ k, n = k + 1 := ⟨n - 1, by omega⟩
    have e := ih (i + 1) n (by omega) (by omega)
    obtain ⟨p1, p2, p3⟩ := pop_c c (by omega) i (by omega)
    have hp16 := pj16 j (by omega)
    have h16 := fit16 hc tr ln i
    rw [q_X5_lost_32]
    unfold f_X5_lost_32_b
    rw [shl_e c (by omega), if_neg (nI_ge (by omega) (by omega)), if_neg (show ¬ (15 : Int32) < nI i from nI_nlt (a := 15) (by omega) (by omega)), fitBy_e hc htr (by omega) hln, Option.bind_some, shl_e j (by omega), bc_e i (by omega), Option.bind_some, x10, powC _ (by omega) _ (by omega), Option.bind_some, pk_sub p1, powC x (by omega) _ (by omega), Option.bind_some, pk_mul, nI_add, nI_1]
    rw [fb_sm_succ] at e
    by_cases z : fitS c tr ln i = 2 ^ j
    · rw [if_pos (show nI (fitS c tr ln i) = nI (2 ^ j) by rw [z])]
      rw [show ltm c tr ln j x i = (10 - x) ^ popc i * x ^ (c - popc i) from if_pos z] at e
      exact e
    · rw [if_neg (nI_dec (by omega) (by omega) z)]
      rw [show ltm c tr ln j x i = 0 from if_neg z, Nat.add_zero] at e
      exact e
theorem lostM_loop {c tr j x : Nat} {ln : Nat → Nat} {mn : Nat → Int32} {u : Int32} (hc : c ≤ 4) (hj : j < c) (hx : x ≤ 10) (htr : tr ≤ 4 ∨ tr = 9) (hln : mln c ln mn (18 * 0)) : ∀ (d i n : Nat), i + d = 2 ^ c → d < n →
    f_X6_lost_34 (nI tr) (nI c) mn (nI j) (nI x) u n (nI (fb_sm (ltr c tr ln j x) i)) (nI (fb_sm (lwt c x) i)) (nI i) = f_X6_lost_116 u (nI (fb_sm (ltr c tr ln j x) (2 ^ c))) (nI (fb_sm (lwt c x) (2 ^ c))) := by
  have hp := p2_lt hc
  have hp0 : 0 < 2 ^ c := Nat.two_pow_pos c
  have x10 : (10 : Int32) - nI x = nI (10 - x) := pk_sub (a := 10) hx
  have z0 : ∀ a, nI a + 0 = nI a := fun a => nI_add a 0
  intro d
  induction d with
  | zero =>
    intro i n hi hn
    obtain ⟨n, rfl⟩ : ∃ k, n = k + 1 := ⟨n - 1, by omega⟩
    rw [q_X6_lost_34]
    unfold f_X6_lost_34_b
    rw [all_e c (by omega), Option.bind_some, if_pos (nI_lt (by omega) (by omega)), show i = 2 ^ c by omega]
  | succ d ih =>
    intro i n hi hn
    obtain ⟨n, rfl⟩ : ∃ k, n = k + 1 := ⟨n - 1, by omega⟩
    have e := ih (i + 1) n (by omega) (by omega)
    obtain ⟨p1, p2, p3⟩ := pop_c c (by omega) i (by omega)
    have hp16 := pj16 j (by omega)
    have h16 := fit16 hc tr ln (2 ^ c - 1 - i)
    have hf : f_X6_fitsOn (nI tr) (nI c) mn 0 (nI (2 ^ c - 1 - i)) = some (nI (fitS c tr ln (2 ^ c - 1 - i))) := fitsOn_e (lv := 0) hc (tr9 htr) (by omega) (by omega) hln
    rw [q_X6_lost_34]
    unfold f_X6_lost_34_b
    rw [all_e c (by omega), Option.bind_some, if_neg (nI_nlt (by omega) (by omega)), ones_e i (by omega), Option.bind_some, powM x (by omega) _ (by omega), Option.bind_some, Option.bind_some, x10, pk_sub p1, powM _ (by omega) _ (by omega), Option.bind_some, Option.bind_some, p3, hf, Option.bind_some, shl_e j (by omega), pk_mul, nI_add, nI_add, nI_1, z0]
    rw [fb_sm_succ, fb_sm_succ, ltr_e hc (by omega)] at e
    by_cases z : fitS c tr ln (2 ^ c - 1 - i) = 2 ^ j
    · rw [if_pos (show nI (fitS c tr ln (2 ^ c - 1 - i)) = nI (2 ^ j) by rw [z])]
      rw [if_pos z] at e
      exact e
    · rw [if_neg (nI_dec (by omega) (by omega) z)]
      rw [if_neg z, Nat.add_zero] at e
      exact e
theorem op_lost {c w tr : Nat} {mt kd : Nat → Nat} {g : Sg} {truth caskets wooers mtr mca mwo picture sung tried wed : Int32} {metals kinds mme mki lines picked mn : Nat → Int32} (hH : RHs c w tr mt kd truth caskets wooers metals kinds mtr mca mwo mme mki) (ho : okS c w g) (hc : cS c g lines picture sung tried wed picked) (hm : mS c g mn 0) (p q u : Int32) :
    ∃ r, f_X5_lost truth caskets lines p q u = some r ∧ f_X6_lost mtr mca mn p q u = some r := by
  obtain ⟨hc4, hw6, htr, rfl, rfl, rfl, rfl, rfl, rfl, hmt, hkd⟩ := hH
  unfold f_X5_lost f_X6_lost
  rcases pk_ix p (n := c) (by omega) with h | h | ⟨j, hj, rfl⟩
  · have z := isC_no (c := c) (by omega) (p := p) (Or.inl h)
    rw [z.1, z.2.1, Option.bind_some, Option.bind_some, if_pos rfl, if_pos rfl]
    exact ⟨-1, rfl, rfl⟩
  · have z := isC_no (c := c) (by omega) (p := p) (Or.inr h)
    rw [z.1, z.2.1, Option.bind_some, Option.bind_some, if_pos rfl, if_pos rfl]
    exact ⟨-1, rfl, rfl⟩
  · have z := isC_yes (c := c) (by omega) hj
    have h16 := p2_lt hc4
    have i10 : (10 : Int64) = lN 10 := rfl
    rw [z.1, z.2.1, Option.bind_some, Option.bind_some, if_neg (show ¬ (1 : Int32) = 0 by decide), if_neg (show ¬ (1 : Int32) = 0 by decide), i10]
    rcases rng0 q 10 (by omega) with ⟨r1, r2⟩ | ⟨x, x1, rfl, x2⟩
    · rw [r2, Option.bind_some, if_pos rfl]
      rcases r1 with r1 | r1
      · rw [if_pos r1]; exact ⟨-2, rfl, rfl⟩
      · have r1' : ¬ q ≤ 10 := r1
        by_cases y : q < 0
        · rw [if_pos y]; exact ⟨-2, rfl, rfl⟩
        · rw [if_neg y, if_neg r1']; exact ⟨-2, rfl, rfl⟩
    · have ec := lostC_loop (u := u) hc4 hj x1 htr (ho.cln hc) (2 ^ c) 0 200 (by omega) (by omega)
      have em := lostM_loop (u := u) hc4 hj x1 htr (ho.mln hm) (2 ^ c) 0 200 (by omega) (by omega)
      rw [show fb_sm (ltm c tr g.1 j x) 0 = 0 from rfl, show nI 0 = 0 from rfl] at ec
      rw [show fb_sm (ltr c tr g.1 j x) 0 = 0 from rfl, show fb_sm (lwt c x) 0 = 0 from rfl, show nI 0 = 0 from rfl] at em
      have hr : fb_sm (ltr c tr g.1 j x) (2 ^ c) = fb_sm (ltm c tr g.1 j x) (2 ^ c) := sm_rev (ltm c tr g.1 j x) (2 ^ c)
      have hw : fb_sm (lwt c x) (2 ^ c) = 10 ^ c := ten_c c (by omega) x (by omega)
      have hle : fb_sm (ltr c tr g.1 j x) (2 ^ c) ≤ fb_sm (lwt c x) (2 ^ c) := fb_sm_le (fun k hk => by
        rw [ltr_e hc4 hk]
        split
        · exact Nat.le_refl _
        · omega)
      obtain ⟨t1, t2⟩ := ten_b c (by omega)
      have ht : f_X5_power 10 (nI c) = some (nI (10 ^ c)) := powC 10 (by omega) c (by omega)
      rw [x2, Option.bind_some, if_neg (show ¬ (1 : Int32) = 0 by decide), if_neg (nI_pos (by omega)), if_pos (show nI x ≤ 10 from nI_le (b := 10) (by omega) (by omega)), ec, em, hr, hw]
      unfold f_X5_lost_114 f_X6_lost_116
      obtain ⟨r, e1, e2, -⟩ := part_e (a := nI (fb_sm (ltm c tr g.1 j x) (2 ^ c))) (nI_rng (by omega)) t1 t2 u
      rw [ht, Option.bind_some, e1, Option.bind_some]
      exact ⟨r, rfl, e2⟩
