/-! pure: readings, the reference's side -/
def alF (p : Nat → Bool) : Nat → Nat → Bool
  | _, 0 => true
  | i, d + 1 => p i && alF p (i + 1) d
def cnd (c : Nat) (ln : Nat → Nat) (come there set k : Nat) : Bool := !come.testBit k || (sy c (ln k) k there set == set.testBit k)
def rd (c tr : Nat) (ln : Nat → Nat) (come there set : Nat) : Bool := (decide (tr = 9) || decide (popc set = tr)) && alF (cnd c ln come there set) 0 c
def mln (c : Nat) (ln : Nat → Nat) (now : Nat → Int32) (off : Nat) : Prop := ∀ i, i < c → ln i < 24 ∧ now (off + i) = nI (ln i / 4) ∧ now (off + 4 + i) = nI (ln i % 4)
theorem isRd_loop {c there set come lv : Nat} {ln : Nat → Nat} {now : Nat → Int32} (hc : c ≤ 4) (ht : there < 4) (hs : set < 16) (hm : come < 16) (hv : lv < 2) (hln : mln c ln now (18 * lv)) : ∀ (d i : Nat) (b : Bool) (n : Nat), i + d = c → d < n →
    f_X6_isReading_30 (nI c) now (nI lv) (nI there) (nI set) (nI come) n (bI b) (nI i) = some (bI (b && alF (cnd c ln come there set) i d)) := by
  intro d
  induction d with
  | zero =>
    intro i b n hi hn
    obtain ⟨n, rfl⟩ : ∃ k, n = k + 1 := ⟨n - 1, by omega⟩
    rw [q_X6_isReading_30]
    unfold f_X6_isReading_30_b
    rw [if_pos (nI_le (by omega) (by omega)), if_pos (bI_01 b)]
    simp [alF]
  | succ d ih =>
    intro i b n hi hn
    obtain ⟨n, rfl⟩ : ∃ k, n = k + 1 := ⟨n - 1, by omega⟩
    rw [q_X6_isReading_30]
    unfold f_X6_isReading_30_b
    rw [if_neg (nI_ge (by omega) (by omega))]
    cases b with
    | false => rw [if_pos (show bI false = 0 from rfl), if_pos (bI_01 false)]; simp
    | true =>
      rw [if_neg (show ¬ bI true = 0 by decide), has_e come hm i (by omega)]
      obtain ⟨h1, h2, h3⟩ := hln i (by omega)
      have e1 : f_X6_isReading_30 (nI c) now (nI lv) (nI there) (nI set) (nI come) n 1 (nI i + 1) = some (bI (true && alF (cnd c ln come there set) (i + 1) d)) := by
        rw [nI_1]; exact ih (i + 1) true n (by omega) (by omega)
      have e0 : f_X6_isReading_30 (nI c) now (nI lv) (nI there) (nI set) (nI come) n 0 (nI i + 1) = some (bI (false && alF (cnd c ln come there set) (i + 1) d)) := by
        rw [nI_1]; exact ih (i + 1) false n (by omega) (by omega)
      rw [says_e hc h1 (by omega) ht hs hv h2 h3, has_e set hs i (by omega)]
      simp only [Option.bind_some, bI_0, bI_inj]
      rw [e1, e0]
      simp only [alF]
      by_cases q : come.testBit i = false
      · rw [if_pos q]; simp [cnd, q]
      · rw [if_neg q]
        have q' : come.testBit i = true := by cases hh : come.testBit i <;> simp_all
        by_cases z : sy c (ln i) i there set = set.testBit i
        · rw [if_pos z]; simp [cnd, q', z]
        · rw [if_neg z]
          have : (sy c (ln i) i there set == set.testBit i) = false := by simp [z]
          simp [cnd, q', this]
/-- what the law's TRUE may be -/
def trI (tr : Nat) : Int32 := nI tr
theorem isRd_e {c tr there set come lv : Nat} {ln : Nat → Nat} {now : Nat → Int32} (hc : c ≤ 4) (htr : tr ≤ 9) (ht : there < 4) (hs : set < 16) (hm : come < 16) (hv : lv < 2) (hln : mln c ln now (18 * lv)) :
    f_X6_isReading (nI tr) (nI c) now (nI lv) (nI there) (nI set) (nI come) = some (bI (rd c tr ln come there set)) := by
  unfold f_X6_isReading
  have k9 : (nI tr = 9) = (tr = 9) := propext (nI_eq (b := 9) (by omega) (by omega))
  have h1 := isRd_loop hc ht hs hm hv hln c 0 true 200 (by omega) (by omega)
  have h0 := isRd_loop hc ht hs hm hv hln c 0 false 200 (by omega) (by omega)
  have h1' : f_X6_isReading_30 (nI c) now (nI lv) (nI there) (nI set) (nI come) 200 1 0 = some (bI (true && alF (cnd c ln come there set) 0 c)) := h1
  have h0' : f_X6_isReading_30 (nI c) now (nI lv) (nI there) (nI set) (nI come) 200 0 0 = some (bI (false && alF (cnd c ln come there set) 0 c)) := h0
  have hp := popc_le set hs
  have kp : (nI (popc set) = nI tr) = (popc set = tr) := propext (nI_eq (by omega) (by omega))
  rw [ones_e set hs, h1', h0']
  simp only [k9, Option.bind_some, kp]
  unfold rd
  by_cases q : tr = 9
  · rw [if_pos q]; simp [q]
  · rw [if_neg q]
    by_cases z : popc set = tr
    · rw [if_pos z]; simp [z]
    · rw [if_neg z]; simp [q, z]
/-- how many sets below n -/
theorem readings_loop {c tr there come lv : Nat} {ln : Nat → Nat} {now : Nat → Int32} (hc : c ≤ 4) (htr : tr ≤ 9) (ht : there < 4) (hm : come < 16) (hv : lv < 2) (hln : mln c ln now (18 * lv)) : ∀ (d i : Nat) (n : Nat), i + d = 2 ^ c → d < n →
    f_X6_readings_6 (nI tr) (nI c) now (nI lv) (nI there) (nI come) n (nI (fb_ct (rd c tr ln come there) i)) (nI i) = some (nI (fb_ct (rd c tr ln come there) (2 ^ c))) := by
  have hp := p2_lt hc
  have hp0 : 0 < 2 ^ c := Nat.two_pow_pos c
  intro d
  induction d with
  | zero =>
    intro i n hi hn
    obtain ⟨n, rfl⟩ : ∃ k, n = k + 1 := ⟨n - 1, by omega⟩
    rw [q_X6_readings_6]
    unfold f_X6_readings_6_b
    rw [all_e c (by omega)]
    simp only [Option.bind_some]
    rw [if_pos (nI_lt (by omega) (by omega)), show i = 2 ^ c by omega]
  | succ d ih =>
    intro i n hi hn
    obtain ⟨n, rfl⟩ : ∃ k, n = k + 1 := ⟨n - 1, by omega⟩
    rw [q_X6_readings_6]
    unfold f_X6_readings_6_b
    rw [all_e c (by omega), isRd_e hc htr ht (by omega) hm hv hln]
    simp only [Option.bind_some]
    rw [if_neg (nI_nlt (by omega) (by omega))]
    have e := ih (i + 1) n (by omega) (by omega)
    rw [fb_ct_succ] at e
    cases hb : rd c tr ln come there i with
    | false => rw [hb] at e; simp only [bI_0]; rw [if_pos trivial]; rw [nI_1]; simpa using e
    | true => rw [hb] at e; simp only [bI_0]; rw [if_neg (by simp)]; rw [nI_1, nI_1]; simpa using e
theorem readings_e {c tr there come lv : Nat} {ln : Nat → Nat} {now : Nat → Int32} (hc : c ≤ 4) (htr : tr ≤ 9) (ht : there < 4) (hm : come < 16) (hv : lv < 2) (hln : mln c ln now (18 * lv)) :
    f_X6_readings (nI tr) (nI c) now (nI lv) (nI there) (nI come) = some (nI (fb_ct (rd c tr ln come there) (2 ^ c))) := by
  have hp := p2_lt hc
  exact readings_loop hc htr ht hm hv hln (2 ^ c) 0 200 (by omega) (by omega)
def bitsF (p : Nat → Bool) : Nat → Nat
  | 0 => 0
  | n + 1 => bitsF p n + (if p n then 2 ^ n else 0)
theorem bitsF_lt (p : Nat → Bool) : ∀ n, bitsF p n < 2 ^ n
  | 0 => by simp [bitsF]
  | n + 1 => by
    have := bitsF_lt p n
    simp only [bitsF, Nat.pow_succ]
    split <;> omega
theorem bitsF_t (p : Nat → Bool) : ∀ n i, (bitsF p n).testBit i = (decide (i < n) && p i)
  | 0, i => by simp [bitsF]
  | n + 1, i => by
    have h := bitsF_lt p n
    have ih := bitsF_t p n i
    simp only [bitsF]
    by_cases hp : p n = true
    · rw [if_pos hp, Nat.add_comm, Nat.two_pow_add_eq_or_of_lt h 1 |> fun e => (by simpa using e : 2 ^ n + bitsF p n = 2 ^ n ||| bitsF p n), Nat.testBit_or, ih, Nat.testBit_two_pow]
      by_cases e : n = i
      · subst e; simp [hp]
      · by_cases l : i < n
        · simp [e, l, Nat.lt_succ_of_lt l]
        · have : ¬ i < n + 1 := by omega
          simp [e, l, this]
    · rw [if_neg hp, Nat.add_zero, ih]
      by_cases l : i < n
      · simp [l, Nat.lt_succ_of_lt l]
      · by_cases e : i = n
        · subst e; simp at hp; simp [hp]
        · have : ¬ i < n + 1 := by omega
          simp [l, this]
def fitP (c tr : Nat) (ln : Nat → Nat) (come there : Nat) : Bool := decide (0 < fb_ct (rd c tr ln come there) (2 ^ c))
def fitS (c tr : Nat) (ln : Nat → Nat) (come : Nat) : Nat := bitsF (fitP c tr ln come) c
theorem or_bit {p : Nat → Bool} {i : Nat} (hi : i < 4) (hp : p i = true) : nI (bitsF p i) ||| ((1 : Int32) <<< (nI i &&& 31)) = nI (bitsF p (i + 1)) := by
  have h := bitsF_lt p i
  rw [shl_e i (by omega), fa_or]
  simp only [bitsF]
  rw [if_pos hp, Nat.or_comm, Nat.add_comm]
  congr 1
  have := Nat.two_pow_add_eq_or_of_lt h 1
  simpa using this.symm
theorem or_zero (x : Int32) : x ||| 0 = x := by
  have : ∀ y : Int32, y ||| 0 = y := fun y => by simp
  exact this x
theorem fitsOn_loop {c tr come lv : Nat} {ln : Nat → Nat} {now : Nat → Int32} (hc : c ≤ 4) (htr : tr ≤ 9) (hm : come < 16) (hv : lv < 2) (hln : mln c ln now (18 * lv)) : ∀ (d i n : Nat), i + d = c → d < n →
    f_X6_fitsOn_5 (nI tr) (nI c) now (nI lv) (nI come) n (nI (bitsF (fitP c tr ln come) i)) (nI i) = some (nI (fitS c tr ln come)) := by
  intro d
  induction d with
  | zero =>
    intro i n hi hn
    obtain ⟨n, rfl⟩ : ∃ k, n = k + 1 := ⟨n - 1, by omega⟩
    rw [q_X6_fitsOn_5]
    unfold f_X6_fitsOn_5_b
    rw [if_pos (nI_le (by omega) (by omega)), show i = c by omega]
    rfl
  | succ d ih =>
    intro i n hi hn
    obtain ⟨n, rfl⟩ : ∃ k, n = k + 1 := ⟨n - 1, by omega⟩
    have hp := p2_lt hc
    have hct := fb_ct_le (rd c tr ln come i) (2 ^ c)
    rw [q_X6_fitsOn_5]
    unfold f_X6_fitsOn_5_b
    rw [if_neg (nI_ge (by omega) (by omega)), readings_e hc htr (by omega) hm hv hln]
    simp only [Option.bind_some]
    have e := ih (i + 1) n (by omega) (by omega)
    by_cases z : 0 < fb_ct (rd c tr ln come i) (2 ^ c)
    · rw [if_neg (nI_nle z (by omega)), or_bit (by omega) (by simp [fitP, z]), nI_1]
      exact e
    · have z0 : fb_ct (rd c tr ln come i) (2 ^ c) = 0 := by omega
      rw [z0, if_pos (show nI 0 ≤ 0 by decide), or_zero, nI_1]
      have : bitsF (fitP c tr ln come) (i + 1) = bitsF (fitP c tr ln come) i := by
        simp [bitsF, fitP, z0]
      rw [this] at e
      exact e
theorem fitsOn_e {c tr come lv : Nat} {ln : Nat → Nat} {now : Nat → Int32} (hc : c ≤ 4) (htr : tr ≤ 9) (hm : come < 16) (hv : lv < 2) (hln : mln c ln now (18 * lv)) :
    f_X6_fitsOn (nI tr) (nI c) now (nI lv) (nI come) = some (nI (fitS c tr ln come)) := fitsOn_loop hc htr hm hv hln c 0 200 (by omega) (by omega)
theorem fitS_lt {c : Nat} (tr : Nat) (ln : Nat → Nat) (come : Nat) : fitS c tr ln come < 2 ^ c := bitsF_lt _ _
/-! pure: readings, the class's side -/
def wb (w : Int64) (j : Nat) : Bool := w.toBitVec.getLsbD j
theorem wb_and (a b : Int64) (j : Nat) : wb (a &&& b) j = (wb a j && wb b j) := by simp [wb]
theorem wb_xor (a b : Int64) (j : Nat) : wb (a ^^^ b) j = (wb a j ^^ wb b j) := by simp [wb]
theorem wb_ext {a b : Int64} (h : ∀ j, j < 64 → wb a j = wb b j) : a = b := by
  apply Int64.toBitVec_inj.mp
  apply BitVec.eq_of_getLsbD_eq
  intro i hi
  exact h i hi
theorem wb_zero (j : Nat) : wb 0 j = false := by simp [wb]
theorem mkW : ∀ c, c < 5 → f_X5_maskAt 5 tabW (nI c) = some (tabW c) := by decide +kernel
theorem mkM : ∀ c, c < 5 → f_X5_maskAt 5 tabM (nI c) = some (tabM c) := by decide +kernel
theorem mkT : ∀ c, c < 4 → f_X5_maskAt 4 tabT (nI c) = some (tabT c) := by decide +kernel
theorem tabW_b : ∀ c, c < 5 → ∀ j, j < 64 → wb (tabW c) j = (decide (j / 16 < c) && decide (j % 16 < 2 ^ c)) := by decide +kernel
theorem tabM_b : ∀ c, c < 5 → ∀ j, j < 64 → wb (tabM c) j = decide (popc (j % 16) = c) := by decide +kernel
theorem tabT_b : ∀ c, c < 4 → ∀ j, j < 64 → wb (tabT c) j = (j % 16).testBit c := by decide +kernel
def agV (i l : Nat) : Int64 := (f_X5_agreeing (nI i) (nI l)).getD 0
theorem ag_e : ∀ i, i < 4 → ∀ l, l < 24 → f_X5_agreeing (nI i) (nI l) = some (agV i l) := by decide +kernel
theorem ag_b : ∀ i, i < 4 → ∀ l, l < 24 → ∀ j, j < 64 → wb (agV i l) j = (sy 4 l i (j / 16) (j % 16) == (j % 16).testBit i) := by decide +kernel
def agP (come : Nat) (ln : Nat → Nat) (j k : Nat) : Bool := !come.testBit k || wb (agV k (ln k)) j
theorem rdOf_loop {c come : Nat} {ln : Nat → Nat} {lines : Nat → Int32} (hc : c ≤ 4) (hm : come < 16) (hln : ∀ i, i < c → ln i < 24 ∧ lines i = nI (ln i)) : ∀ (d i n : Nat) (w : Int64), i + d = c → d < n →
    ∃ w' : Int64, f_X5_readingsOf_36 (nI c) 4 lines (nI come) n w (nI i) = some w' ∧ ∀ j, j < 64 → wb w' j = (wb w j && alF (agP come ln j) i d) := by
  intro d
  induction d with
  | zero =>
    intro i n w hi hn
    obtain ⟨n, rfl⟩ : ∃ k, n = k + 1 := ⟨n - 1, by omega⟩
    refine ⟨w, ?_, fun j _ => by simp [alF]⟩
    rw [q_X5_readingsOf_36]
    unfold f_X5_readingsOf_36_b
    by_cases h4 : (Int32.ofNat 4) ≤ nI i
    · rw [if_pos h4]
    · rw [if_neg h4, if_pos (nI_le (by omega) (by omega))]
  | succ d ih =>
    intro i n w hi hn
    obtain ⟨n, rfl⟩ : ∃ k, n = k + 1 := ⟨n - 1, by omega⟩
    obtain ⟨h1, h2⟩ := hln i (by omega)
    have hcl : (nI i).toNatClampNeg = i := nI_clamp (by omega)
    rw [q_X5_readingsOf_36]
    unfold f_X5_readingsOf_36_b
    rw [if_neg (show ¬ Int32.ofNat 4 ≤ nI i from nI_ge (by omega) (by omega)), if_neg (nI_ge (by omega) (by omega)), shr_e come hm i (by omega), hcl, h2, ag_e i (by omega) (ln i) h1]
    have e1 : (bI (come.testBit i) = 1) = (come.testBit i = true) := by cases come.testBit i <;> simp [bI]
    simp only [e1, Option.bind_some]
    by_cases q : come.testBit i = true
    · rw [if_pos q, if_neg (show ¬ (nI i < 0 ∨ 4 ≤ i) by rintro (h | h); exact nI_pos (by omega) h; omega), nI_1]
      obtain ⟨w', k1, k2⟩ := ih (i + 1) n (w &&& agV i (ln i)) (by omega) (by omega)
      refine ⟨w', k1, fun j hj => ?_⟩
      rw [k2 j hj, wb_and]
      simp [alF, agP, q, Bool.and_assoc]
    · rw [if_neg q, nI_1]
      obtain ⟨w', k1, k2⟩ := ih (i + 1) n w (by omega) (by omega)
      refine ⟨w', k1, fun j hj => ?_⟩
      rw [k2 j hj]
      simp at q
      simp [alF, agP, q]
