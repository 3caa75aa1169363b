/-! pure: the class's readings as a set of worlds -/
theorem alF_cong {p q : Nat → Bool} : ∀ (d i : Nat), (∀ k, i ≤ k → k < i + d → p k = q k) → alF p i d = alF q i d
  | 0, _, _ => rfl
  | d + 1, i, h => by
    simp only [alF]
    rw [h i (by omega) (by omega), alF_cong d (i + 1) (fun k h1 h2 => h k (by omega) (by omega))]
theorem sy_4 {c l i there set : Nat} (hs : set < 2 ^ c) : sy 4 l i there set = sy c l i there set := by
  unfold sy
  have h : (decide (l % 4 < 4) && set.testBit (l % 4)) = (decide (l % 4 < c) && set.testBit (l % 4)) := by
    have h4 : l % 4 < 4 := Nat.mod_lt _ (by omega)
    by_cases z : l % 4 < c
    · simp [h4, z]
    · have : set.testBit (l % 4) = false := Nat.testBit_lt_two_pow (Nat.lt_of_lt_of_le hs (Nat.pow_le_pow_right (by omega) (by omega)))
      simp [this]
  rw [h]
/-- the worlds of a house: bit 16 times casket and set -/
def isW (c tr : Nat) (ln : Nat → Nat) (come : Nat) (w : Int64) : Prop := ∀ t, t < 4 → ∀ s, s < 16 → wb w (16 * t + s) = (decide (t < c) && (decide (s < 2 ^ c) && rd c tr ln come t s))
theorem j_ts {t s : Nat} (hs : s < 16) : (16 * t + s) / 16 = t ∧ (16 * t + s) % 16 = s := by omega
theorem rdOf_e {c tr come : Nat} {ln : Nat → Nat} {lines : Nat → Int32} (hc : c ≤ 4) (htr : tr ≤ 4 ∨ tr = 9) (hm : come < 16) (hln : ∀ i, i < c → ln i < 24 ∧ lines i = nI (ln i)) :
    ∃ w : Int64, f_X5_readingsOf (nI tr) (nI c) 4 lines (nI come) = some w ∧ isW c tr ln come w := by
  have k9 : (nI tr = 9) = (tr = 9) := propext (nI_eq (b := 9) (by omega) (by omega))
  have key : ∀ t, t < 4 → ∀ s, s < 16 → s < 2 ^ c → alF (agP come ln (16 * t + s)) 0 c = alF (cnd c ln come t s) 0 c := by
    intro t ht s hs h2
    apply alF_cong
    intro k _ hk
    obtain ⟨e1, e2⟩ := j_ts (t := t) hs
    unfold agP cnd
    rw [ag_b k (by omega) (ln k) (hln k (by omega)).1 _ (by omega), e1, e2, sy_4 h2]
  unfold f_X5_readingsOf
  rw [mkW c (by omega)]
  simp only [Option.bind_some, k9]
  by_cases q : tr = 9
  · rw [if_pos q]
    obtain ⟨w, h1, h2⟩ := rdOf_loop hc hm hln c 0 200 (tabW c) (by omega) (by omega)
    refine ⟨w, h1, fun t ht s hs => ?_⟩
    obtain ⟨e1, e2⟩ := j_ts (t := t) hs
    rw [h2 _ (by omega), tabW_b c (by omega) _ (by omega), e1, e2]
    by_cases z : s < 2 ^ c
    · rw [key t ht s hs z]; simp [rd, q, z]
    · simp [z]
  · rw [if_neg q, mkM tr (by omega)]
    simp only [Option.bind_some]
    obtain ⟨w, h1, h2⟩ := rdOf_loop hc hm hln c 0 200 (tabW c &&& tabM tr) (by omega) (by omega)
    refine ⟨w, h1, fun t ht s hs => ?_⟩
    obtain ⟨e1, e2⟩ := j_ts (t := t) hs
    rw [h2 _ (by omega), wb_and, tabW_b c (by omega) _ (by omega), tabM_b tr (by omega) _ (by omega), e1, e2]
    by_cases z : s < 2 ^ c
    · rw [key t ht s hs z]; simp [rd, q, z, Bool.and_assoc]
    · simp [z]
theorem wwV : ∀ t, t < 4 → f_X5_worldsWith (nI t) = some ((f_X5_worldsWith (nI t)).getD 0) := by decide +kernel
def ww (t : Nat) : Int64 := (f_X5_worldsWith (nI t)).getD 0
theorem ww_e : ∀ t, t < 4 → f_X5_worldsWith (nI t) = some (ww t) := by decide +kernel
theorem ww_b : ∀ t, t < 4 → ∀ j, j < 64 → wb (ww t) j = decide (j / 16 = t) := by decide +kernel
/-- a world with the picture in casket t is among them -/
theorem ww_ne {w : Int64} {t : Nat} (ht : t < 4) : (w &&& ww t = 0) ↔ ∀ s, s < 16 → wb w (16 * t + s) = false := by
  constructor
  · intro h s hs
    obtain ⟨e1, e2⟩ := j_ts (t := t) hs
    have h1 : wb (w &&& ww t) (16 * t + s) = false := by rw [h, wb_zero]
    rw [wb_and, ww_b t ht _ (by omega), e1] at h1
    simpa using h1
  · intro h
    apply wb_ext
    intro j hj
    rw [wb_zero, wb_and, ww_b t ht j hj]
    by_cases z : j / 16 = t
    · have := h (j % 16) (by omega)
      rw [show 16 * t + j % 16 = j by omega] at this
      simp [this]
    · simp [z]
theorem isW_fit {c tr come : Nat} {ln : Nat → Nat} {w : Int64} (hc : c ≤ 4) (h : isW c tr ln come w) {t : Nat} (ht : t < 4) : (w &&& ww t = 0) ↔ ¬ (t < c ∧ fitP c tr ln come t = true) := by
  have hp := p2_lt hc
  rw [ww_ne ht]
  unfold fitP
  rw [decide_eq_true_eq, fb_ct_pos]
  constructor
  · rintro h1 ⟨h2, k, hk, h3⟩
    have := h1 k (by omega)
    rw [h t ht k (by omega)] at this
    simp [h2, hk, h3] at this
  · intro h1 s hs
    rw [h t ht s hs]
    by_cases z1 : t < c
    · by_cases z2 : s < 2 ^ c
      · cases hr : rd c tr ln come t s with
        | false => simp
        | true => exact absurd ⟨z1, s, z2, hr⟩ h1
      · simp [z2]
    · simp [z1]
theorem lcmp0 (x : Int64) : (lg_cmp x 0 = 0) = (x = 0) := propext (lg_cmp_eq x 0)
theorem fitsOf_loop {c tr come : Nat} {ln : Nat → Nat} {w : Int64} (hc : c ≤ 4) (h : isW c tr ln come w) : ∀ (d i n : Nat), i + d = 4 → d < n →
    f_X5_fitsOf_4 w n (nI (bitsF (fun t => decide (t < c) && fitP c tr ln come t) i)) (nI i) = some (nI (bitsF (fun t => decide (t < c) && fitP c tr ln come t) 4)) := by
  intro d
  induction d with
  | zero =>
    intro i n hi hn
    obtain ⟨n, rfl⟩ : ∃ k, n = k + 1 := ⟨n - 1, by omega⟩
    rw [q_X5_fitsOf_4]
    unfold f_X5_fitsOf_4_b
    rw [if_pos (show (4 : Int32) ≤ nI i from nI_le (a := 4) (by omega) (by omega)), show i = 4 by omega]
  | succ d ih =>
    intro i n hi hn
    obtain ⟨n, rfl⟩ : ∃ k, n = k + 1 := ⟨n - 1, by omega⟩
    rw [q_X5_fitsOf_4]
    unfold f_X5_fitsOf_4_b
    rw [if_neg (show ¬ (4 : Int32) ≤ nI i from nI_ge (b := 4) (by omega) (by omega)), ww_e i (by omega)]
    simp only [Option.bind_some, lcmp0]
    have e := ih (i + 1) n (by omega) (by omega)
    by_cases z : i < c ∧ fitP c tr ln come i = true
    · rw [if_neg (fun q => (isW_fit hc h (by omega)).mp q z), or_bit (by omega) (by simp [z.1, z.2]), nI_1]
      exact e
    · rw [if_pos ((isW_fit hc h (by omega)).mpr z), nI_1]
      have : bitsF (fun t => decide (t < c) && fitP c tr ln come t) (i + 1) = bitsF (fun t => decide (t < c) && fitP c tr ln come t) i := by
        simp only [bitsF]
        rw [if_neg (by simpa using z), Nat.add_zero]
      rw [this] at e
      exact e
theorem bitsF_cut (p : Nat → Bool) (c : Nat) : ∀ n, c ≤ n → bitsF (fun t => decide (t < c) && p t) n = bitsF p c
  | 0, h => by
    obtain rfl : c = 0 := by omega
    rfl
  | n + 1, h => by
    by_cases e : c = n + 1
    · subst e
      have : ∀ m, m ≤ n + 1 → bitsF (fun t => decide (t < n + 1) && p t) m = bitsF p m := by
        intro m
        induction m with
        | zero => intro _; rfl
        | succ m ih =>
          intro hm
          simp only [bitsF]
          rw [ih (by omega)]
          simp [show m < n + 1 by omega]
      exact this (n + 1) (Nat.le_refl _)
    · simp only [bitsF]
      rw [bitsF_cut p c n (by omega)]
      simp [show ¬ n < c by omega]
theorem fitsOf_e {c tr come : Nat} {ln : Nat → Nat} {w : Int64} (hc : c ≤ 4) (h : isW c tr ln come w) : f_X5_fitsOf w = some (nI (fitS c tr ln come)) := by
  have := fitsOf_loop hc h 4 0 200 (by omega) (by omega)
  rw [bitsF_cut _ c 4 hc] at this
  exact this
theorem fitBy_e {c tr come : Nat} {ln : Nat → Nat} {lines : Nat → Int32} (hc : c ≤ 4) (htr : tr ≤ 4 ∨ tr = 9) (hm : come < 16) (hln : ∀ i, i < c → ln i < 24 ∧ lines i = nI (ln i)) : f_X4_fittingBy lines (nI tr) (nI c) (nI come) = some (nI (fitS c tr ln come)) := by
  obtain ⟨w, h1, h2⟩ := rdOf_e hc htr hm hln
  unfold f_X4_fittingBy
  rw [h1]
  simp only [Option.bind_some]
  rw [fitsOf_e hc h2]
  rfl
theorem rd_come {c tr : Nat} {ln : Nat → Nat} {t s : Nat} (hc : c ≤ 4) : rd c tr ln 15 t s = rd c tr ln (2 ^ c - 1) t s := by
  unfold rd
  congr 1
  apply alF_cong
  intro k _ hk
  have : ∀ c, c < 5 → ∀ k, k < c → Nat.testBit 15 k = Nat.testBit (2 ^ c - 1) k := by decide
  unfold cnd
  rw [this c (by omega) k (by omega)]
theorem fitS_come {c tr : Nat} {ln : Nat → Nat} (hc : c ≤ 4) : fitS c tr ln 15 = fitS c tr ln (2 ^ c - 1) := by
  unfold fitS
  congr 1
  funext t
  unfold fitP
  have : rd c tr ln 15 t = rd c tr ln (2 ^ c - 1) t := funext fun s => rd_come hc
  rw [this]
theorem fit_e {c tr : Nat} {ln : Nat → Nat} {lines : Nat → Int32} (hc : c ≤ 4) (htr : tr ≤ 4 ∨ tr = 9) (hln : ∀ i, i < c → ln i < 24 ∧ lines i = nI (ln i)) : f_X4_fitting lines (nI tr) (nI c) = some (nI (fitS c tr ln (2 ^ c - 1))) := by
  obtain ⟨w, h1, h2⟩ := rdOf_e (come := 15) hc htr (by omega) hln
  unfold f_X4_fitting
  have h1' : f_X5_readingsOf (nI tr) (nI c) 4 lines 15 = some w := h1
  rw [h1']
  simp only [Option.bind_some]
  rw [fitsOf_e hc h2, fitS_come hc]
  rfl
