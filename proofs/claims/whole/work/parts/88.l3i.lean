/-! pure: the search for mendings, the class's side -/
def fnd (P : Nat → Bool) : Nat → Nat → Option Nat
  | _, 0 => none
  | i, d + 1 => if P i = true then some i else fnd P (i + 1) d
theorem fnd_add (P : Nat → Bool) : ∀ (d e i : Nat), fnd P i (d + e) = (match fnd P i d with
    | some m => some m
    | none => fnd P (i + d) e)
  | 0, e, i => by rw [Nat.zero_add]; rfl
  | d + 1, e, i => by
    rw [show d + 1 + e = (d + e) + 1 by omega]
    simp only [fnd]
    by_cases z : P i = true
    · rw [if_pos z, if_pos z]
    · rw [if_neg z, if_neg z, fnd_add P d e (i + 1), show i + 1 + d = i + (d + 1) by omega]
theorem fnd_no {P : Nat → Bool} (h : ∀ k, P k = false) : ∀ (d i : Nat), fnd P i d = none
  | 0, _ => rfl
  | d + 1, i => by
    simp only [fnd]
    rw [if_neg (by rw [h]; exact Bool.false_ne_true), fnd_no h d (i + 1)]
theorem fnd_lt {P : Nat → Bool} : ∀ (d i m : Nat), fnd P i d = some m → i ≤ m ∧ m < i + d
  | 0, i, m, h => by cases h
  | d + 1, i, m, h => by
    simp only [fnd] at h
    by_cases z : P i = true
    · rw [if_pos z] at h
      cases h
      omega
    · rw [if_neg z] at h
      have := fnd_lt d (i + 1) m h
      omega
def tdI (m : Nat) : Int32 := nI (100 * (m / 24) + 10 * (m % 24 / 4) + m % 4)
theorem tdI_no : ∀ m, m < 96 → ¬ tdI m = -9 := by decide +kernel
theorem told_e : ∀ m, m < 96 → f_X6_told (nI m) = some (tdI m) := by decide +kernel
theorem tdI_c {a l : Nat} (hl : l < 24) : (100 * nI a) + nI (10 * (l / 4) + l % 4) = tdI (24 * a + l) := by
  have e : (100 : Int32) * nI a = nI (100 * a) := pk_mul 100 a
  rw [e, nI_add]
  unfold tdI
  congr 1
  omega
/-- one more mending, over lines ln -/
def mdP (c tr : Nat) (ln : Nat → Nat) (Q : Nat → Bool) (m : Nat) : Bool := Q (fitS c tr (setN ln (m / 24) (m % 24)) (2 ^ c - 1))
def ofN (x : Option Nat) : Option Int32 := match x with
  | some m => some (tdI m)
  | none => some (-9)
theorem lm_in {c tr a come sg kd : Nat} {mt : Nat → Nat} {pic : Int32} {ln : Nat → Nat} {lines : Nat → Int32} {v3 W : Int64} {v5 : Int32} {k3 : Int32 → Option Int32} (hc : c ≤ 4) (ha : a < c) (hb : come.testBit a = false) (hor : come ||| 2 ^ a = 15) (hW : isW c tr ln come W) : ∀ (d l n : Nat), l + d = 24 → d < n →
    f_X5_leastMending_60 (nI tr) (nI c) lines (nI (bitsF (rsP c mt sg pic kd) 16)) v3 v5 (nI a) W k3 n (nI l) = (match fnd (mdP c tr ln (rsP c mt sg pic kd)) (24 * a + l) d with
      | some m => some (tdI m)
      | none => k3 (nI (a + 1))) := by
  intro d
  induction d with
  | zero =>
    intro l n hi hn
    obtain ⟨n, rfl⟩ : ∃ k, n = k + 1 := ⟨n - 1, by omega⟩
    rw [q_X5_leastMending_60]
    unfold f_X5_leastMending_60_b
    rw [if_pos (show (24 : Int32) ≤ nI l from nI_le (a := 24) (by omega) (by omega)), nI_1]
    rfl
  | succ d ih =>
    intro l n hi hn
    obtain ⟨n, rfl⟩ : ∃ k, n = k + 1 := ⟨n - 1, by omega⟩
    have e := ih (l + 1) n (by omega) (by omega)
    have hs := isW_set hc ha (show l < 24 by omega) hb hW
    rw [hor] at hs
    have hf := fitsOf_e hc hs
    rw [fitS_come hc] at hf
    have h16 := fit16 hc tr (setN ln a l) (2 ^ c - 1)
    have hm : mdP c tr ln (rsP c mt sg pic kd) (24 * a + l) = rsP c mt sg pic kd (fitS c tr (setN ln a l) (2 ^ c - 1)) := by
      unfold mdP
      rw [show (24 * a + l) / 24 = a by omega, show (24 * a + l) % 24 = l by omega]
    rw [q_X5_leastMending_60]
    unfold f_X5_leastMending_60_b
    rw [if_neg (show ¬ (24 : Int32) ≤ nI l from nI_ge (b := 24) (by omega) (by omega)), ag_e a (by omega) l (by omega), Option.bind_some, hf, Option.bind_some, solv_b h16, fig_e l (by omega), Option.bind_some, tdI_c (by omega), nI_1]
    simp only [fnd]
    rw [hm]
    by_cases z : rsP c mt sg pic kd (fitS c tr (setN ln a l) (2 ^ c - 1)) = true
    · rw [if_pos ((bI_1 _).mpr z), if_pos z]
    · rw [if_neg (fun q => z ((bI_1 _).mp q)), if_neg z, e]
      rfl
theorem lm_out {c tr a0 sg kd : Nat} {mt : Nat → Nat} {pic : Int32} {ln : Nat → Nat} {lines : Nat → Int32} {v3 : Int64} {v5 : Int32} (hc : c ≤ 4) (hY : ∀ a, a0 ≤ a → a < c → ∃ (W : Int64) (come : Nat), f_X5_readingsOf (nI tr) (nI c) 4 lines ((15 &&& (v5 ^^^ (-1))) &&& (((1 : Int32) <<< (nI a &&& 31)) ^^^ (-1))) = some W ∧ isW c tr ln come (v3 &&& W) ∧ come.testBit a = false ∧ come ||| 2 ^ a = 15) : ∀ (d a n : Nat), a + d = c → a0 ≤ a → d < n →
    f_X5_leastMending_3 (nI tr) (nI c) lines (nI (bitsF (rsP c mt sg pic kd) 16)) v3 v5 n (nI a) = ofN (fnd (mdP c tr ln (rsP c mt sg pic kd)) (24 * a) (24 * d)) := by
  intro d
  induction d with
  | zero =>
    intro a n hi h0 hn
    obtain ⟨n, rfl⟩ : ∃ k, n = k + 1 := ⟨n - 1, by omega⟩
    rw [q_X5_leastMending_3]
    unfold f_X5_leastMending_3_b
    by_cases h4 : (4 : Int32) ≤ nI a
    · rw [if_pos h4]; rfl
    · rw [if_neg h4, if_pos (nI_le (by omega) (by omega))]; rfl
  | succ d ih =>
    intro a n hi h0 hn
    obtain ⟨n, rfl⟩ : ∃ k, n = k + 1 := ⟨n - 1, by omega⟩
    have e := ih (a + 1) n (by omega) (by omega) (by omega)
    obtain ⟨W, come, y1, y2, y3, y4⟩ := hY a h0 (by omega)
    have hin := lm_in (lines := lines) (v3 := v3) (v5 := v5) (mt := mt) (sg := sg) (kd := kd) (pic := pic) (k3 := fun x => f_X5_leastMending_3 (nI tr) (nI c) lines (nI (bitsF (rsP c mt sg pic kd) 16)) v3 v5 n x) hc (show a < c by omega) y3 y4 y2 24 0 200 (by omega) (by omega)
    rw [show nI 0 = 0 from rfl, Nat.add_zero] at hin
    rw [q_X5_leastMending_3]
    unfold f_X5_leastMending_3_b
    rw [if_neg (show ¬ (4 : Int32) ≤ nI a from nI_ge (b := 4) (by omega) (by omega)), if_neg (nI_ge (by omega) (by omega)), Option.bind_some, y1, Option.bind_some, hin, show 24 * (d + 1) = 24 + 24 * d by omega, fnd_add, show 24 * a + 24 = 24 * (a + 1) by omega]
    cases hf : fnd (mdP c tr ln (rsP c mt sg pic kd)) (24 * a) 24 with
    | some m => rfl
    | none => exact e
theorem come_1 : ∀ a, a < 4 → ((15 : Int32) &&& (0 ^^^ (-1))) &&& (((1 : Int32) <<< (nI a &&& 31)) ^^^ (-1)) = nI (15 - 2 ^ a) := by decide +kernel
theorem come_2 : ∀ a, a < 4 → ∀ k, k < a → ((15 : Int32) &&& (((1 : Int32) <<< (nI k &&& 31)) ^^^ (-1))) &&& (((1 : Int32) <<< (nI a &&& 31)) ^^^ (-1)) = nI (15 - 2 ^ a - 2 ^ k) ∧ (15 - 2 ^ a - 2 ^ k).testBit k = false ∧ (15 - 2 ^ a - 2 ^ k) ||| 2 ^ k = 15 - 2 ^ a ∧ 15 - 2 ^ a - 2 ^ k < 16 := by decide +kernel
theorem and_all (w : Int64) : (-1 : Int64) &&& w = w := by
  apply wb_ext
  intro j hj
  rw [wb_and]
  have : ∀ j, j < 64 → wb (-1 : Int64) j = true := by decide +kernel
  rw [this j hj, Bool.true_and]
theorem and_cm (a b : Int64) : a &&& b = b &&& a := by
  apply wb_ext
  intro j _
  rw [wb_and, wb_and, Bool.and_comm]
theorem lm_one {c tr sg kd : Nat} {mt : Nat → Nat} {pic : Int32} {ln : Nat → Nat} {lines : Nat → Int32} (hc : c ≤ 4) (htr : tr ≤ 4 ∨ tr = 9) (hln : ∀ i, i < c → ln i < 24 ∧ lines i = nI (ln i)) : f_X5_leastMending (nI tr) (nI c) lines (nI (bitsF (rsP c mt sg pic kd) 16)) 0 (-1) 0 = ofN (fnd (mdP c tr ln (rsP c mt sg pic kd)) 0 (24 * c)) := by
  have e := lm_out (mt := mt) (sg := sg) (kd := kd) (pic := pic) (ln := ln) (lines := lines) (v3 := -1) (v5 := 0) (a0 := 0) hc (fun a _ ha => by
    obtain ⟨c1, c2, c3, c4⟩ := come_j a (by omega)
    obtain ⟨W, h1, h2⟩ := rdOf_e (come := 15 - 2 ^ a) hc htr c4 hln
    refine ⟨W, 15 - 2 ^ a, ?_, ?_, c2, c3⟩
    · rw [come_1 a (by omega)]; exact h1
    · rw [and_all]; exact h2) c 0 200 (by omega) (by omega) (by omega)
  exact e
theorem lm_two {c tr sg kd k l : Nat} {mt : Nat → Nat} {pic : Int32} {ln : Nat → Nat} {lines : Nat → Int32} (hc : c ≤ 4) (htr : tr ≤ 4 ∨ tr = 9) (hk : k < c) (hl : l < 24) (hln : ∀ i, i < c → ln i < 24 ∧ lines i = nI (ln i)) : f_X5_leastMending (nI tr) (nI c) lines (nI (bitsF (rsP c mt sg pic kd) 16)) (nI (k + 1)) (agV k l) ((1 : Int32) <<< (nI k &&& 31)) = ofN (fnd (mdP c tr (setN ln k l) (rsP c mt sg pic kd)) (24 * (k + 1)) (24 * c - 24 * (k + 1))) := by
  have e := lm_out (mt := mt) (sg := sg) (kd := kd) (pic := pic) (ln := setN ln k l) (lines := lines) (v3 := agV k l) (v5 := (1 : Int32) <<< (nI k &&& 31)) (a0 := k + 1) hc (fun a h1 ha => by
    obtain ⟨c1, c2, c3, c4⟩ := come_2 a (by omega) k (by omega)
    obtain ⟨d1, d2, d3, d4⟩ := come_j a (by omega)
    obtain ⟨W, h1, h2⟩ := rdOf_e (come := 15 - 2 ^ a - 2 ^ k) hc htr c4 hln
    refine ⟨W, 15 - 2 ^ a, ?_, ?_, d2, d3⟩
    · rw [c1]; exact h1
    · rw [and_cm, ← c3]; exact isW_set hc hk hl c2 h2) (c - (k + 1)) (k + 1) 200 (by omega) (by omega) (by omega)
  rw [show 24 * (c - (k + 1)) = 24 * c - 24 * (k + 1) by omega] at e
  exact e
/-- the second of two mendings, when n is the first -/
def sec (c tr : Nat) (ln : Nat → Nat) (Q : Nat → Bool) (n : Nat) : Option Nat := fnd (mdP c tr (setN ln (n / 24) (n % 24)) Q) (24 * (n / 24 + 1)) (24 * c - 24 * (n / 24 + 1))
def fn2 (F : Nat → Option Nat) : Nat → Nat → Option (Nat × Nat)
  | _, 0 => none
  | i, d + 1 => match F i with
    | some e => some (i, e)
    | none => fn2 F (i + 1) d
theorem fn2_add (F : Nat → Option Nat) : ∀ (d e i : Nat), fn2 F i (d + e) = (match fn2 F i d with
    | some m => some m
    | none => fn2 F (i + d) e)
  | 0, e, i => by rw [Nat.zero_add]; rfl
  | d + 1, e, i => by
    rw [show d + 1 + e = (d + e) + 1 by omega]
    simp only [fn2]
    cases h : F i with
    | some x => rfl
    | none => simp only [fn2_add F d e (i + 1), show i + 1 + d = i + (d + 1) by omega]
theorem fn2_no {F : Nat → Option Nat} (h : ∀ k, F k = none) : ∀ (d i : Nat), fn2 F i d = none
  | 0, _ => rfl
  | d + 1, i => by
    simp only [fn2]
    rw [h i]
    exact fn2_no h d (i + 1)
def td2 (n e : Nat) : Int32 := (1000 * tdI n) + tdI e
def ofN2 (x : Option (Nat × Nat)) : Option Int32 := match x with
  | some (n, e) => some (td2 n e)
  | none => some (-9)
theorem lt_in {c tr a sg kd : Nat} {mt : Nat → Nat} {pic : Int32} {ln : Nat → Nat} {lines : Nat → Int32} {k2 : Int32 → Option Int32} (hc : c ≤ 4) (ha : a < c) (htr : tr ≤ 4 ∨ tr = 9) (hln : ∀ i, i < c → ln i < 24 ∧ lines i = nI (ln i)) : ∀ (d l n : Nat), l + d = 24 → d < n →
    f_X5_leastTwoMendings_20 (nI tr) (nI c) lines (nI (bitsF (rsP c mt sg pic kd) 16)) (nI a) k2 n (nI l) = (match fn2 (sec c tr ln (rsP c mt sg pic kd)) (24 * a + l) d with
      | some (m, e) => some (td2 m e)
      | none => k2 (nI (a + 1))) := by
  intro d
  induction d with
  | zero =>
    intro l n hi hn
    obtain ⟨n, rfl⟩ : ∃ k, n = k + 1 := ⟨n - 1, by omega⟩
    rw [q_X5_leastTwoMendings_20]
    unfold f_X5_leastTwoMendings_20_b
    rw [if_pos (show (24 : Int32) ≤ nI l from nI_le (a := 24) (by omega) (by omega)), nI_1]
    rfl
  | succ d ih =>
    intro l n hi hn
    obtain ⟨n, rfl⟩ : ∃ k, n = k + 1 := ⟨n - 1, by omega⟩
    have e := ih (l + 1) n (by omega) (by omega)
    have h2 := lm_two (mt := mt) (sg := sg) (kd := kd) (pic := pic) hc htr ha (show l < 24 by omega) hln
    have hs : sec c tr ln (rsP c mt sg pic kd) (24 * a + l) = fnd (mdP c tr (setN ln a l) (rsP c mt sg pic kd)) (24 * (a + 1)) (24 * c - 24 * (a + 1)) := by
      unfold sec
      rw [show (24 * a + l) / 24 = a by omega, show (24 * a + l) % 24 = l by omega]
    rw [q_X5_leastTwoMendings_20]
    unfold f_X5_leastTwoMendings_20_b
    rw [if_neg (show ¬ (24 : Int32) ≤ nI l from nI_ge (b := 24) (by omega) (by omega)), ag_e a (by omega) l (by omega), Option.bind_some, nI_1, h2, fig_e l (by omega), nI_1]
    simp only [fn2]
    rw [hs]
    cases hf : fnd (mdP c tr (setN ln a l) (rsP c mt sg pic kd)) (24 * (a + 1)) (24 * c - 24 * (a + 1)) with
    | some m =>
      have hlt := fnd_lt _ _ _ hf
      unfold ofN
      rw [Option.bind_some, if_neg (tdI_no m (by omega)), Option.bind_some, tdI_c (by omega)]
      rfl
    | none =>
      unfold ofN
      rw [Option.bind_some, if_pos rfl, e]
      rfl
theorem lt_out {c tr sg kd : Nat} {mt : Nat → Nat} {pic : Int32} {ln : Nat → Nat} {lines : Nat → Int32} (hc : c ≤ 4) (htr : tr ≤ 4 ∨ tr = 9) (hln : ∀ i, i < c → ln i < 24 ∧ lines i = nI (ln i)) : ∀ (d a n : Nat), a + d = c → d < n →
    f_X5_leastTwoMendings_2 (nI tr) (nI c) lines (nI (bitsF (rsP c mt sg pic kd) 16)) n (nI a) = ofN2 (fn2 (sec c tr ln (rsP c mt sg pic kd)) (24 * a) (24 * d)) := by
  intro d
  induction d with
  | zero =>
    intro a n hi hn
    obtain ⟨n, rfl⟩ : ∃ k, n = k + 1 := ⟨n - 1, by omega⟩
    rw [q_X5_leastTwoMendings_2]
    unfold f_X5_leastTwoMendings_2_b
    by_cases h4 : (4 : Int32) ≤ nI a
    · rw [if_pos h4]; rfl
    · rw [if_neg h4, if_pos (nI_le (by omega) (by omega))]; rfl
  | succ d ih =>
    intro a n hi hn
    obtain ⟨n, rfl⟩ : ∃ k, n = k + 1 := ⟨n - 1, by omega⟩
    have e := ih (a + 1) n (by omega) (by omega)
    have hin := lt_in (lines := lines) (mt := mt) (sg := sg) (kd := kd) (pic := pic) (k2 := fun x => f_X5_leastTwoMendings_2 (nI tr) (nI c) lines (nI (bitsF (rsP c mt sg pic kd) 16)) n x) hc (show a < c by omega) htr hln 24 0 200 (by omega) (by omega)
    rw [show nI 0 = 0 from rfl, Nat.add_zero] at hin
    rw [q_X5_leastTwoMendings_2]
    unfold f_X5_leastTwoMendings_2_b
    rw [if_neg (show ¬ (4 : Int32) ≤ nI a from nI_ge (b := 4) (by omega) (by omega)), if_neg (nI_ge (by omega) (by omega)), hin, show 24 * (d + 1) = 24 + 24 * d by omega, fn2_add, show 24 * a + 24 = 24 * (a + 1) by omega]
    cases hf : fn2 (sec c tr ln (rsP c mt sg pic kd)) (24 * a) 24 with
    | some m => rfl
    | none => exact e
theorem lt_e {c tr sg kd : Nat} {mt : Nat → Nat} {pic : Int32} {ln : Nat → Nat} {lines : Nat → Int32} (hc : c ≤ 4) (htr : tr ≤ 4 ∨ tr = 9) (hln : ∀ i, i < c → ln i < 24 ∧ lines i = nI (ln i)) : f_X5_leastTwoMendings (nI tr) (nI c) lines (nI (bitsF (rsP c mt sg pic kd) 16)) = ofN2 (fn2 (sec c tr ln (rsP c mt sg pic kd)) 0 (24 * c)) :=
  lt_out hc htr hln c 0 200 (by omega) (by omega)
