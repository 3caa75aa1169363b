/-! pure: which fits solve a riddle -/
theorem shl16 : ∀ i, i < 16 → ((1 : Int32) <<< (nI i &&& 31)) = nI (2 ^ i) := by decide +kernel
theorem s_l16 : ∀ n, n < 16 → ((nI n &&& 31).toBitVec.smod 32).toNat = n := by decide +kernel
theorem or_bit16 {p : Nat → Bool} {i : Nat} (hi : i < 16) (hp : p i = true) : nI (bitsF p i) ||| ((1 : Int32) <<< (nI i &&& 31)) = nI (bitsF p (i + 1)) := by
  have h := bitsF_lt p i
  rw [shl16 i hi, fa_or]
  simp only [bitsF]
  rw [if_pos hp, Nat.or_comm, Nat.add_comm]
  congr 1
  have := Nat.two_pow_add_eq_or_of_lt h 1
  simpa using this.symm
theorem shr16 {s k : Nat} (hs : s < 2 ^ 31) (hk : k < 16) : ((nI s >>> (nI k &&& 31)) &&& 1) = bI (s.testBit k) := by
  have hd : s / 2 ^ k < 2 ^ 32 := Nat.lt_of_le_of_lt (Nat.div_le_self _ _) (by omega)
  rw [pk_shrN hs (nI k &&& 31) k (s_l16 k hk), pk_andN hd 1 (by decide), Nat.testBit_eq_decide_div_mod_eq]
  have h2 : s / 2 ^ k % 2 < 2 := Nat.mod_lt _ (by omega)
  by_cases z : s / 2 ^ k % 2 = 1
  · rw [show s / 2 ^ k % 2 ^ 1 = 1 from z]
    simp [bI, z]
    rfl
  · rw [show s / 2 ^ k % 2 ^ 1 = 0 by simp only [Nat.pow_one]; omega]
    simp [bI, z]
    rfl
def ppP (c : Nat) (mt : Nat → Nat) (sg : Nat) (pic : Int32) (f k : Nat) : Bool := decide (en (pkS c mt k f sg) = pic)
def rsP (c : Nat) (mt : Nat → Nat) (sg : Nat) (pic : Int32) (kd f : Nat) : Bool := decide (bitsF (ppP c mt sg pic f) 4 = kd)
theorem solv_in {c f sg kd : Nat} {mt : Nat → Nat} {metals : Nat → Int32} {pic v2 : Int32} {k4 : Int32 × Int32 → Option Int32} (hc : c ≤ 4) (hf : f < 16) (hs : sg < 16) (hm : ∀ i, i < c → mt i < 4 ∧ metals i = nI (mt i)) : ∀ (d i n : Nat), i + d = 4 → d < n →
    f_X5_solvingFits_16 (nI c) metals pic (nI sg) (nI kd) v2 (nI f) k4 n (nI (bitsF (ppP c mt sg pic f) i)) (nI i) = f_X5_solvingFits_64 (nI c) metals pic (nI sg) (nI kd) v2 (nI f) (nI (bitsF (ppP c mt sg pic f) 4)) k4 := by
  intro d
  induction d with
  | zero =>
    intro i n hi hn
    obtain ⟨n, rfl⟩ : ∃ k, n = k + 1 := ⟨n - 1, by omega⟩
    rw [q_X5_solvingFits_16]
    unfold f_X5_solvingFits_16_b
    rw [if_pos (show (4 : Int32) ≤ nI i from nI_le (a := 4) (by omega) (by omega)), show i = 4 by omega]
  | succ d ih =>
    intro i n hi hn
    obtain ⟨n, rfl⟩ : ∃ k, n = k + 1 := ⟨n - 1, by omega⟩
    have e := ih (i + 1) n (by omega) (by omega)
    have pc := pick_c (metals := metals) hc (show i < 4 by omega) hf hs hm
    rw [q_X5_solvingFits_16]
    unfold f_X5_solvingFits_16_b
    rw [if_neg (show ¬ (4 : Int32) ≤ nI i from nI_ge (b := 4) (by omega) (by omega)), pc, Option.bind_some, nI_1]
    by_cases z : en (pkS c mt i f sg) = pic
    · rw [if_pos z, or_bit (p := ppP c mt sg pic f) (by omega) (by simp [ppP, z])]
      exact e
    · rw [if_neg z]
      have hs2 : bitsF (ppP c mt sg pic f) (i + 1) = bitsF (ppP c mt sg pic f) i := by
        simp only [bitsF]
        rw [if_neg (by simp [ppP, z]), Nat.add_zero]
      rw [hs2] at e
      exact e
theorem solv_out {c sg kd : Nat} {mt : Nat → Nat} {metals : Nat → Int32} {pic : Int32} (hc : c ≤ 4) (hs : sg < 16) (hk : kd < 16) (hm : ∀ i, i < c → mt i < 4 ∧ metals i = nI (mt i)) : ∀ (d i n : Nat), i + d = 16 → d < n →
    f_X5_solvingFits_4 (nI c) metals pic (nI sg) (nI kd) n (nI (bitsF (rsP c mt sg pic kd) i)) (nI i) = some (nI (bitsF (rsP c mt sg pic kd) 16)) := by
  intro d
  induction d with
  | zero =>
    intro i n hi hn
    obtain ⟨n, rfl⟩ : ∃ k, n = k + 1 := ⟨n - 1, by omega⟩
    rw [q_X5_solvingFits_4]
    unfold f_X5_solvingFits_4_b
    rw [if_pos (show (16 : Int32) ≤ nI i from nI_le (a := 16) (by omega) (by omega)), show i = 16 by omega]
  | succ d ih =>
    intro i n hi hn
    obtain ⟨n, rfl⟩ : ∃ k, n = k + 1 := ⟨n - 1, by omega⟩
    have e := ih (i + 1) n (by omega) (by omega)
    have hin := solv_in (f := i) (kd := kd) (metals := metals) (pic := pic) (v2 := nI (bitsF (rsP c mt sg pic kd) i)) (k4 := fun x => f_X5_solvingFits_4 (nI c) metals pic (nI sg) (nI kd) n x.1 x.2) hc (by omega) hs hm 4 0 200 (by omega) (by omega)
    rw [show bitsF (ppP c mt sg pic i) 0 = 0 from rfl, show nI 0 = 0 from rfl] at hin
    have hb4 := bitsF_lt (ppP c mt sg pic i) 4
    rw [q_X5_solvingFits_4]
    unfold f_X5_solvingFits_4_b
    rw [if_neg (show ¬ (16 : Int32) ≤ nI i from nI_ge (b := 16) (by omega) (by omega)), hin]
    unfold f_X5_solvingFits_64
    rw [nI_1]
    by_cases z : bitsF (ppP c mt sg pic i) 4 = kd
    · rw [if_pos (show nI (bitsF (ppP c mt sg pic i) 4) = nI kd by rw [z]), or_bit16 (p := rsP c mt sg pic kd) (by omega) (by simp [rsP, z])]
      exact e
    · rw [if_neg (nI_dec (by omega) (by omega) z)]
      have hs2 : bitsF (rsP c mt sg pic kd) (i + 1) = bitsF (rsP c mt sg pic kd) i := by
        simp only [bitsF]
        rw [if_neg (by simp [rsP, z]), Nat.add_zero]
      rw [hs2] at e
      exact e
theorem solv_e {c sg kd : Nat} {mt : Nat → Nat} {metals : Nat → Int32} {pic : Int32} (hc : c ≤ 4) (hs : sg < 16) (hk : kd < 16) (hm : ∀ i, i < c → mt i < 4 ∧ metals i = nI (mt i)) : f_X5_solvingFits (nI c) metals pic (nI sg) (nI kd) = some (nI (bitsF (rsP c mt sg pic kd) 16)) := by
  have e := solv_out (pic := pic) hc hs hk hm 16 0 200 (by omega) (by omega)
  rw [show bitsF (rsP c mt sg pic kd) 0 = 0 from rfl, show nI 0 = 0 from rfl] at e
  exact e
theorem solv_b {c sg kd f : Nat} {mt : Nat → Nat} {pic : Int32} (hf : f < 16) : ((nI (bitsF (rsP c mt sg pic kd) 16) >>> (nI f &&& 31)) &&& 1) = bI (rsP c mt sg pic kd f) := by
  have h := bitsF_lt (rsP c mt sg pic kd) 16
  rw [shr16 (by omega) hf, bitsF_t]
  simp [hf]
theorem bI_1 (b : Bool) : (bI b = 1) ↔ b = true := by cases b <;> simp [bI]
/-- the reference asks kind by kind -/
theorem rs_al {c sg kd f : Nat} {mt : Nat → Nat} {pic : Int32} (hk : kd < 16) : rsP c mt sg pic kd f = alF (fun k => ppP c mt sg pic f k == kd.testBit k) 0 4 := by
  apply Bool.eq_iff_iff.mpr
  unfold rsP
  rw [decide_eq_true_eq, alF_iff]
  constructor
  · intro h k _ h2
    rw [← h, bitsF_t]
    simp [show k < 4 by omega]
  · intro h
    apply Nat.eq_of_testBit_eq
    intro k
    rw [bitsF_t]
    by_cases z : k < 4
    · have := h k (by omega) (by omega)
      simpa [z] using this
    · rw [Nat.testBit_lt_two_pow (x := kd) (i := k) (Nat.lt_of_lt_of_le hk (show 2 ^ 4 ≤ 2 ^ k from Nat.pow_le_pow_right (by omega) (by omega)))]
      simp [z]
theorem isRid_loop {c sg kd f : Nat} {mt : Nat → Nat} {mme mn : Nat → Int32} {pic : Int32} (hc : c ≤ 4) (hf : f < 16) (hs : sg < 16) (hk : kd < 16) (h8 : mn (Int32.toNatClampNeg 8) = pic) (h9 : mn (Int32.toNatClampNeg 9) = nI sg) (hm : ∀ i, i < c → mt i < 4 ∧ mme i = nI (mt i)) : ∀ (d i n : Nat) (b : Bool), i + d = 4 → d < n →
    f_X6_isRiddle_15 (nI c) mme mn (nI kd) (nI f) n (bI b) (nI i) = some (bI (b && alF (fun k => ppP c mt sg pic f k == kd.testBit k) i d)) := by
  intro d
  induction d with
  | zero =>
    intro i n b hi hn
    obtain ⟨n, rfl⟩ : ∃ k, n = k + 1 := ⟨n - 1, by omega⟩
    rw [q_X6_isRiddle_15]
    unfold f_X6_isRiddle_15_b
    rw [if_pos (show (4 : Int32) ≤ nI i from nI_le (a := 4) (by omega) (by omega)), if_pos (bI_01 b)]
    simp [alF]
  | succ d ih =>
    intro i n b hi hn
    obtain ⟨n, rfl⟩ : ∃ k, n = k + 1 := ⟨n - 1, by omega⟩
    have e1 : f_X6_isRiddle_15 (nI c) mme mn (nI kd) (nI f) n 1 (nI (i + 1)) = _ := ih (i + 1) n true (by omega) (by omega)
    have e0 : f_X6_isRiddle_15 (nI c) mme mn (nI kd) (nI f) n 0 (nI (i + 1)) = _ := ih (i + 1) n false (by omega) (by omega)
    have pm := pick_m (metals := mme) hc (show i < 4 by omega) hf hs hm
    rw [q_X6_isRiddle_15]
    unfold f_X6_isRiddle_15_b f_X6_isRiddle_54
    rw [if_neg (show ¬ (4 : Int32) ≤ nI i from nI_ge (b := 4) (by omega) (by omega)), h9, h8, pm, Option.bind_some, has_e kd hk i (by omega), Option.bind_some, Option.bind_some, nI_1]
    dsimp only
    rw [e1, e0]
    simp only [alF]
    cases b with
    | false => rw [if_pos (show bI false = 0 from rfl)]; simp
    | true =>
      rw [if_neg (show ¬ bI true = 0 by decide)]
      have o0 : ((0 : Int32) = bI (kd.testBit i)) ↔ kd.testBit i = false := by cases kd.testBit i <;> simp [bI]
      have o1 : ((1 : Int32) = bI (kd.testBit i)) ↔ kd.testBit i = true := by cases kd.testBit i <;> simp [bI]
      by_cases z : en (pkS c mt i f sg) = pic
      · have zp : ppP c mt sg pic f i = true := by simp [ppP, z]
        rw [if_pos z, zp]
        by_cases y : kd.testBit i = true
        · rw [if_pos (o1.mpr y), y]; simp
        · rw [if_neg (fun q => y (o1.mp q))]
          simp at y
          simp [y]
      · have zp : ppP c mt sg pic f i = false := by simp [ppP, z]
        rw [if_neg z, zp]
        by_cases y : kd.testBit i = true
        · rw [if_neg (fun q => by rw [o0.mp q] at y; cases y), y]; simp
        · simp at y
          rw [if_pos (o0.mpr y), y]; simp
theorem isRid_e {c w tr sg kd : Nat} {mt : Nat → Nat} {g' : Sg} {mme mn : Nat → Int32} {pic : Int32} (hc : c ≤ 4) (htr : tr ≤ 4 ∨ tr = 9) (hs : sg < 16) (hk : kd < 16) (ho : okS c w g') (h18 : mS c g' mn 18) (h8 : mn (Int32.toNatClampNeg 8) = pic) (h9 : mn (Int32.toNatClampNeg 9) = nI sg) (hm : ∀ i, i < c → mt i < 4 ∧ mme i = nI (mt i)) :
    f_X6_isRiddle (nI tr) (nI c) mme mn (nI kd) = some (bI (rsP c mt sg pic kd (fitS c tr g'.1 (2 ^ c - 1)))) := by
  have e := isRid_loop (pic := pic) (mme := mme) hc (fit16 hc tr g'.1 (2 ^ c - 1)) hs hk h8 h9 hm 4 0 200 true (by omega) (by omega)
  have e' : f_X6_isRiddle_15 (nI c) mme mn (nI kd) (nI (fitS c tr g'.1 (2 ^ c - 1))) 200 1 0 = _ := e
  unfold f_X6_isRiddle
  rw [all_e c (by omega), Option.bind_some, fitM1 hc htr ho h18, Option.bind_some, e', rs_al hk, Bool.true_and]
