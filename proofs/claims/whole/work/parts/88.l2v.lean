/-! pure: lines -/
def orF (p : Nat → Bool) : Nat → Nat
  | 0 => 0
  | n + 1 => if p n then orF p n ||| n else orF p n
def anF (a : Nat) (p : Nat → Bool) : Nat → Nat
  | 0 => a
  | n + 1 => if p n then anF a p n &&& n else anF a p n
theorem orF_t (p : Nat → Bool) (i : Nat) : ∀ n, (orF p n).testBit i = true ↔ ∃ s, s < n ∧ p s = true ∧ s.testBit i = true
  | 0 => by simp [orF]
  | n + 1 => by
    have ih := orF_t p i n
    simp only [orF]
    by_cases h : p n = true
    · rw [if_pos h, Nat.testBit_or, Bool.or_eq_true, ih]
      constructor
      · rintro (⟨s, h1, h2, h3⟩ | h3)
        · exact ⟨s, by omega, h2, h3⟩
        · exact ⟨n, by omega, h, h3⟩
      · rintro ⟨s, h1, h2, h3⟩
        by_cases e : s = n
        · subst e; exact Or.inr h3
        · exact Or.inl ⟨s, by omega, h2, h3⟩
    · rw [if_neg h, ih]
      constructor
      · rintro ⟨s, h1, h2, h3⟩
        exact ⟨s, by omega, h2, h3⟩
      · rintro ⟨s, h1, h2, h3⟩
        by_cases e : s = n
        · subst e; exact absurd h2 h
        · exact ⟨s, by omega, h2, h3⟩
theorem anF_t (a : Nat) (p : Nat → Bool) (i : Nat) : ∀ n, (anF a p n).testBit i = true ↔ a.testBit i = true ∧ ∀ s, s < n → p s = true → s.testBit i = true
  | 0 => by simp [anF]
  | n + 1 => by
    have ih := anF_t a p i n
    simp only [anF]
    by_cases h : p n = true
    · rw [if_pos h, Nat.testBit_and, Bool.and_eq_true, ih]
      constructor
      · rintro ⟨⟨h1, h2⟩, h3⟩
        refine ⟨h1, fun s hs hp => ?_⟩
        by_cases e : s = n
        · subst e; exact h3
        · exact h2 s (by omega) hp
      · rintro ⟨h1, h2⟩
        exact ⟨⟨h1, fun s hs hp => h2 s (by omega) hp⟩, h2 n (by omega) h⟩
    · rw [if_neg h, ih]
      constructor
      · rintro ⟨h1, h2⟩
        refine ⟨h1, fun s hs hp => ?_⟩
        by_cases e : s = n
        · subst e; exact absurd hp h
        · exact h2 s (by omega) hp
      · rintro ⟨h1, h2⟩
        exact ⟨h1, fun s hs hp => h2 s (by omega) hp⟩
theorem linesM_loop {c tr j : Nat} {ln : Nat → Nat} {now : Nat → Int32} {v2 : Int32} (hc : c ≤ 4) (htr : tr ≤ 9) (hj : j < 4) (hln : mln c ln now (18 * 0)) : ∀ (d i n : Nat), i + d = 2 ^ c → d < n →
    f_X6_lines_24 (nI tr) (nI c) now (nI j) v2 n (nI (fb_ct (rd c tr ln (2 ^ c - 1) j) i)) (nI (anF (2 ^ c - 1) (rd c tr ln (2 ^ c - 1) j) i)) (nI (orF (rd c tr ln (2 ^ c - 1) j) i)) (nI i) = f_X6_lines_71 v2 (nI (fb_ct (rd c tr ln (2 ^ c - 1) j) (2 ^ c))) (nI (anF (2 ^ c - 1) (rd c tr ln (2 ^ c - 1) j) (2 ^ c))) (nI (orF (rd c tr ln (2 ^ c - 1) j) (2 ^ c))) := by
  have hp := p2_lt hc
  have hp0 : 0 < 2 ^ c := Nat.two_pow_pos c
  intro d
  induction d with
  | zero =>
    intro i n hi hn
    obtain ⟨n, rfl⟩ : ∃ k, n = k + 1 := ⟨n - 1, by omega⟩
    rw [q_X6_lines_24]
    unfold f_X6_lines_24_b
    rw [all_e c (by omega)]
    simp only [Option.bind_some]
    rw [if_pos (nI_lt (by omega) (by omega)), show i = 2 ^ c by omega]
  | succ d ih =>
    intro i n hi hn
    obtain ⟨n, rfl⟩ : ∃ k, n = k + 1 := ⟨n - 1, by omega⟩
    have hr : f_X6_isReading (nI tr) (nI c) now 0 (nI j) (nI i) (nI (2 ^ c - 1)) = some (bI (rd c tr ln (2 ^ c - 1) j i)) := isRd_e (lv := 0) hc htr hj (by omega) (pow_sub_lt hc) (by omega) hln
    rw [q_X6_lines_24]
    unfold f_X6_lines_24_b
    rw [all_e c (by omega)]
    simp only [Option.bind_some]
    rw [if_neg (nI_nlt (by omega) (by omega)), hr]
    simp only [Option.bind_some, bI_0]
    have e := ih (i + 1) n (by omega) (by omega)
    rw [fb_ct_succ] at e
    simp only [anF, orF] at e
    cases hb : rd c tr ln (2 ^ c - 1) j i with
    | false => rw [hb] at e; rw [if_pos rfl, nI_1]; simpa using e
    | true => rw [hb] at e; rw [if_neg (by simp), nI_1, nI_1, fa_and, fa_or]; simpa using e
theorem linesC_loop {c : Nat} {w : Int64} {v2 : Int32} (hc : c ≤ 4) : ∀ (d i n : Nat), i + d = c → d < n →
    f_X5_lines_45 (nI c) v2 w n (nI (bitsF (fun i => if v2 = 0 then !decide (w &&& tabT i = 0) else decide (w &&& tabT i = w)) i)) (nI i) = some (nI (bitsF (fun i => if v2 = 0 then !decide (w &&& tabT i = 0) else decide (w &&& tabT i = w)) c)) := by
  intro d
  induction d with
  | zero =>
    intro i n hi hn
    obtain ⟨n, rfl⟩ : ∃ k, n = k + 1 := ⟨n - 1, by omega⟩
    rw [q_X5_lines_45]
    unfold f_X5_lines_45_b
    by_cases h4 : (4 : Int32) ≤ nI i
    · rw [if_pos h4, show i = c by omega]
    · rw [if_neg h4, if_pos (nI_le (by omega) (by omega)), show i = c by omega]
  | succ d ih =>
    intro i n hi hn
    obtain ⟨n, rfl⟩ : ∃ k, n = k + 1 := ⟨n - 1, by omega⟩
    have e := ih (i + 1) n (by omega) (by omega)
    rw [q_X5_lines_45]
    unfold f_X5_lines_45_b
    rw [if_neg (show ¬ (4 : Int32) ≤ nI i from nI_ge (b := 4) (by omega) (by omega)), if_neg (nI_ge (by omega) (by omega)), mkT i (by omega)]
    have ee : ∀ x y : Int64, (lg_cmp x y = 0) = (x = y) := fun x y => propext (lg_cmp_eq x y)
    simp only [Option.bind_some, ee]
    have yes : (if v2 = 0 then !decide (w &&& tabT i = 0) else decide (w &&& tabT i = w)) = true → f_X5_lines_45 (nI c) v2 w n (nI (bitsF (fun i => if v2 = 0 then !decide (w &&& tabT i = 0) else decide (w &&& tabT i = w)) i) ||| ((1 : Int32) <<< (nI i &&& 31))) (nI i + 1) = some (nI (bitsF (fun i => if v2 = 0 then !decide (w &&& tabT i = 0) else decide (w &&& tabT i = w)) c)) := by
      intro h
      rw [or_bit (p := fun i => if v2 = 0 then !decide (w &&& tabT i = 0) else decide (w &&& tabT i = w)) (by omega) h, nI_1]
      exact e
    have nos : ¬ (if v2 = 0 then !decide (w &&& tabT i = 0) else decide (w &&& tabT i = w)) = true → f_X5_lines_45 (nI c) v2 w n (nI (bitsF (fun i => if v2 = 0 then !decide (w &&& tabT i = 0) else decide (w &&& tabT i = w)) i)) (nI i + 1) = some (nI (bitsF (fun i => if v2 = 0 then !decide (w &&& tabT i = 0) else decide (w &&& tabT i = w)) c)) := by
      intro h
      have hs : bitsF (fun i => if v2 = 0 then !decide (w &&& tabT i = 0) else decide (w &&& tabT i = w)) (i + 1) = bitsF (fun i => if v2 = 0 then !decide (w &&& tabT i = 0) else decide (w &&& tabT i = w)) i := by
        simp only [bitsF]
        rw [if_neg h, Nat.add_zero]
      rw [hs] at e
      rw [nI_1]
      exact e
    by_cases z : v2 = 0
    · simp only [if_pos z] at yes nos ⊢
      by_cases y : w &&& tabT i = 0
      · rw [if_pos y]; exact nos (by simp [y])
      · rw [if_neg y]; exact yes (by simp [y])
    · simp only [if_neg z] at yes nos ⊢
      by_cases y : w &&& tabT i = w
      · rw [if_pos y]; exact yes (by simp [y])
      · rw [if_neg y]; exact nos (by simp [y])
/-- the worlds with the picture in one casket, bit by bit -/
theorem wone {c tr j : Nat} {ln : Nat → Nat} {W : Int64} (hc : c ≤ 4) (hj : j < c) (h : isW c tr ln 15 W) {k : Nat} (hk : k < 64) : wb (W &&& ww j) k = (decide (k / 16 = j) && (decide (k % 16 < 2 ^ c) && rd c tr ln (2 ^ c - 1) j (k % 16))) := by
  rw [wb_and, ww_b j (by omega) k hk]
  by_cases z : k / 16 = j
  · have := h j (by omega) (k % 16) (by omega)
    rw [show 16 * j + k % 16 = k by omega] at this
    rw [this, rd_come hc]
    simp [z, hj]
  · simp [z]
theorem wone_0 {c tr j i : Nat} {ln : Nat → Nat} {W : Int64} (hc : c ≤ 4) (hj : j < c) (hi : i < 4) (h : isW c tr ln 15 W) : ((W &&& ww j) &&& tabT i = 0) ↔ ∀ s, s < 2 ^ c → rd c tr ln (2 ^ c - 1) j s = true → s.testBit i = false := by
  have hp := p2_lt hc
  constructor
  · intro e s hs hr
    have h1 : wb ((W &&& ww j) &&& tabT i) (16 * j + s) = false := by rw [e, wb_zero]
    obtain ⟨e1, e2⟩ := j_ts (t := j) (show s < 16 by omega)
    rw [wb_and, wone hc hj h (by omega), tabT_b i hi _ (by omega), e1, e2] at h1
    simpa [hs, hr] using h1
  · intro e
    apply wb_ext
    intro k hk
    rw [wb_zero, wb_and, wone hc hj h hk, tabT_b i hi k hk]
    by_cases z1 : k % 16 < 2 ^ c
    · cases hr : rd c tr ln (2 ^ c - 1) j (k % 16) with
      | false => simp
      | true => rw [e _ z1 hr]; simp
    · simp [z1]
theorem wone_1 {c tr j i : Nat} {ln : Nat → Nat} {W : Int64} (hc : c ≤ 4) (hj : j < c) (hi : i < 4) (h : isW c tr ln 15 W) : ((W &&& ww j) &&& tabT i = W &&& ww j) ↔ ∀ s, s < 2 ^ c → rd c tr ln (2 ^ c - 1) j s = true → s.testBit i = true := by
  have hp := p2_lt hc
  constructor
  · intro e s hs hr
    have h1 : wb ((W &&& ww j) &&& tabT i) (16 * j + s) = wb (W &&& ww j) (16 * j + s) := by rw [e]
    obtain ⟨e1, e2⟩ := j_ts (t := j) (show s < 16 by omega)
    rw [wb_and, wone hc hj h (by omega), tabT_b i hi _ (by omega), e1, e2] at h1
    simpa [hs, hr] using h1
  · intro e
    apply wb_ext
    intro k hk
    rw [wb_and, wone hc hj h hk, tabT_b i hi k hk]
    by_cases z1 : k % 16 < 2 ^ c
    · cases hr : rd c tr ln (2 ^ c - 1) j (k % 16) with
      | false => simp
      | true => rw [e _ z1 hr]; simp
    · simp [z1]
theorem linesM_e {c tr j : Nat} {ln : Nat → Nat} {now : Nat → Int32} {v2 : Int32} (hc : c ≤ 4) (htr : tr ≤ 9) (hj : j < 4) (hln : mln c ln now (18 * 0)) :
    f_X6_lines_24 (nI tr) (nI c) now (nI j) v2 200 0 (nI (2 ^ c - 1)) 0 0 = f_X6_lines_71 v2 (nI (fb_ct (rd c tr ln (2 ^ c - 1) j) (2 ^ c))) (nI (anF (2 ^ c - 1) (rd c tr ln (2 ^ c - 1) j) (2 ^ c))) (nI (orF (rd c tr ln (2 ^ c - 1) j) (2 ^ c))) := by
  have hp := p2_lt hc
  have em := linesM_loop (v2 := v2) hc htr hj hln (2 ^ c) 0 200 (by omega) (by omega)
  rw [show fb_ct (rd c tr ln (2 ^ c - 1) j) 0 = 0 from rfl, show anF (2 ^ c - 1) (rd c tr ln (2 ^ c - 1) j) 0 = 2 ^ c - 1 from rfl, show orF (rd c tr ln (2 ^ c - 1) j) 0 = 0 from rfl, show nI 0 = 0 from rfl] at em
  exact em
theorem linesC_e {c : Nat} {w : Int64} {v2 : Int32} (hc : c ≤ 4) : f_X5_lines_45 (nI c) v2 w 200 0 0 = some (nI (bitsF (fun i => if v2 = 0 then !decide (w &&& tabT i = 0) else decide (w &&& tabT i = w)) c)) := by
  have ec := linesC_loop (v2 := v2) (w := w) hc c 0 200 (by omega) (by omega)
  rw [show bitsF (fun i => if v2 = 0 then !decide (w &&& tabT i = 0) else decide (w &&& tabT i = w)) 0 = 0 from rfl, show nI 0 = 0 from rfl] at ec
  exact ec
theorem op_lines {c w tr : Nat} {mt kd : Nat → Nat} {g : Sg} {truth caskets wooers mtr mca mwo picture sung tried wed : Int32} {metals kinds mme mki lines picked mn : Nat → Int32} (hH : RHs c w tr mt kd truth caskets wooers metals kinds mtr mca mwo mme mki) (ho : okS c w g) (hc : cS c g lines picture sung tried wed picked) (hm : mS c g mn 0) (p q : Int32) :
    ∃ r, f_X5_lines truth caskets lines p q = some r ∧ f_X6_lines mtr mca mn p q = some r := by
  obtain ⟨hc4, hw6, htr, rfl, rfl, rfl, rfl, rfl, rfl, hmt, hkd⟩ := hH
  unfold f_X5_lines f_X6_lines
  rcases pk_ix p (n := c) (by omega) with h | h | ⟨j, hj, rfl⟩
  · have z := isC_no (c := c) (by omega) (p := p) (Or.inl h)
    rw [z.1, z.2.1]
    simp only [Option.bind_some, if_true]
    exact ⟨-1, rfl, rfl⟩
  · have z := isC_no (c := c) (by omega) (p := p) (Or.inr h)
    rw [z.1, z.2.1]
    simp only [Option.bind_some, if_true]
    exact ⟨-1, rfl, rfl⟩
  · have z := isC_yes (c := c) (by omega) hj
    have hp := p2_lt hc4
    obtain ⟨W, hW, hIs⟩ := rdOf_e (come := 15) hc4 htr (by omega) (ho.cln hc)
    have hW' : f_X4_readings lines (nI tr) (nI c) = some W := by
      unfold f_X4_readings
      have : f_X5_readingsOf (nI tr) (nI c) 4 lines 15 = some W := hW
      rw [this]; rfl
    have em' := linesM_e (v2 := q) hc4 (tr9 htr) (show j < 4 by omega) (ho.mln hm)
    have ec := linesC_e (v2 := q) (w := W &&& ww j) hc4
    rw [z.1, z.2.1, hW', all_e c (by omega), Option.bind_some, Option.bind_some, Option.bind_some, Option.bind_some, if_neg (show ¬ (1 : Int32) = 0 by decide), if_neg (show ¬ (1 : Int32) = 0 by decide), ww_e j (by omega), Option.bind_some, ec, em']
    unfold f_X6_lines_71
    have hct := fb_ct_le (rd c tr g.1 (2 ^ c - 1) j) (2 ^ c)
    have k0 : (lg_cmp (W &&& ww j) 0 = 0) ↔ fb_ct (rd c tr g.1 (2 ^ c - 1) j) (2 ^ c) = 0 := by
      rw [lcmp0, isW_fit hc4 hIs (by omega)]
      have hrdc : rd c tr g.1 15 j = rd c tr g.1 (2 ^ c - 1) j := funext fun s => rd_come hc4
      unfold fitP
      rw [hrdc, decide_eq_true_eq]
      omega
    by_cases q0 : fb_ct (rd c tr g.1 (2 ^ c - 1) j) (2 ^ c) = 0
    · rw [if_pos (k0.mpr q0), q0, if_pos (show nI 0 = 0 from rfl)]
      exact ⟨_, rfl, rfl⟩
    · rw [if_neg (fun e => q0 (k0.mp e)), if_neg (nI_ne0 (by omega) (by omega))]
      by_cases y : q = 0
      · rw [if_pos y]
        refine ⟨_, rfl, ?_⟩
        congr 2
        apply Nat.eq_of_testBit_eq
        intro i
        rw [bitsF_t]
        simp only [if_pos y]
        apply Bool.eq_iff_iff.mpr
        rw [orF_t, Bool.and_eq_true, decide_eq_true_eq]
        constructor
        · rintro ⟨s, h1, h2, h3⟩
          have hi : i < c := by
            rcases Nat.lt_or_ge i c with zz | zz
            · exact zz
            · rw [Nat.testBit_lt_two_pow (Nat.lt_of_lt_of_le h1 (Nat.pow_le_pow_right (by omega) zz))] at h3
              cases h3
          refine ⟨hi, ?_⟩
          rw [Bool.not_eq_true', decide_eq_false_iff_not, wone_0 hc4 hj (by omega) hIs]
          intro hall
          rw [hall s h1 h2] at h3
          cases h3
        · rintro ⟨hi, h1⟩
          rw [Bool.not_eq_true', decide_eq_false_iff_not, wone_0 hc4 hj (by omega) hIs] at h1
          apply Classical.byContradiction
          intro hn
          apply h1
          intro s hs hr
          cases hb : s.testBit i with
          | false => rfl
          | true => exact absurd ⟨s, hs, hr, hb⟩ hn
      · rw [if_neg y]
        refine ⟨_, rfl, ?_⟩
        congr 2
        apply Nat.eq_of_testBit_eq
        intro i
        rw [bitsF_t]
        simp only [if_neg y]
        apply Bool.eq_iff_iff.mpr
        rw [anF_t, Bool.and_eq_true, decide_eq_true_eq, decide_eq_true_eq, Nat.testBit_two_pow_sub_one, decide_eq_true_eq]
        constructor
        · rintro ⟨hi, h1⟩
          exact ⟨hi, (wone_1 hc4 hj (by omega) hIs).mpr h1⟩
        · rintro ⟨hi, h1⟩
          exact ⟨hi, (wone_1 hc4 hj (by omega) hIs).mp h1⟩
