/-! pure: one line taken for another -/
theorem alF_iff (p : Nat → Bool) : ∀ (d i : Nat), alF p i d = true ↔ ∀ k, i ≤ k → k < i + d → p k = true
  | 0, i => by
    constructor
    · intro _ k h1 h2; omega
    · intro _; rfl
  | d + 1, i => by
    simp only [alF, Bool.and_eq_true]
    rw [alF_iff p d (i + 1)]
    constructor
    · rintro ⟨h1, h2⟩ k h3 h4
      by_cases e : k = i
      · subst e; exact h1
      · exact h2 k (by omega) (by omega)
    · intro h
      exact ⟨h i (by omega) (by omega), fun k h1 h2 => h k (by omega) (by omega)⟩
def setN (ln : Nat → Nat) (j l : Nat) : Nat → Nat := fun i => if i = j then l else ln i
theorem setL_1 (g : Sg) (j l : Nat) : (setL g j l).1 = setN g.1 j l := rfl
theorem rd_set {c tr come j l t s : Nat} {ln : Nat → Nat} (hj : j < c) (hb : come.testBit j = false) : rd c tr (setN ln j l) (come ||| 2 ^ j) t s = (rd c tr ln come t s && (sy c l j t s == s.testBit j)) := by
  unfold rd
  rw [Bool.and_assoc]
  congr 1
  apply Bool.eq_iff_iff.mpr
  rw [Bool.and_eq_true, alF_iff, alF_iff]
  have hbit : ∀ k, (come ||| 2 ^ j).testBit k = (come.testBit k || decide (k = j)) := fun k => fb_bit_set come j k
  constructor
  · intro h
    constructor
    · intro k h1 h2
      have := h k h1 h2
      unfold cnd at this ⊢
      rw [hbit] at this
      by_cases e : k = j
      · subst e; simp [hb]
      · simpa [setN, e] using this
    · have := h j (by omega) (by omega)
      unfold cnd at this
      rw [hbit] at this
      simpa [setN] using this
  · rintro ⟨h1, h2⟩ k h3 h4
    unfold cnd
    rw [hbit]
    by_cases e : k = j
    · subst e; simpa [setN] using h2
    · have := h1 k h3 h4
      unfold cnd at this
      simpa [setN, e] using this
theorem isW_set {c tr come j l : Nat} {ln : Nat → Nat} {W : Int64} (hc : c ≤ 4) (hj : j < c) (hl : l < 24) (hb : come.testBit j = false) (h : isW c tr ln come W) : isW c tr (setN ln j l) (come ||| 2 ^ j) (W &&& agV j l) := by
  intro t ht s hs
  obtain ⟨e1, e2⟩ := j_ts (t := t) hs
  rw [wb_and, h t ht s hs, ag_b j (by omega) l hl _ (by omega), e1, e2, rd_set hj hb]
  by_cases z : s < 2 ^ c
  · rw [sy_4 z]; simp [Bool.and_assoc]
  · simp [z]
theorem come_j : ∀ j, j < 4 → (15 : Int32) &&& (((1 : Int32) <<< (nI j &&& 31)) ^^^ (-1)) = nI (15 - 2 ^ j) ∧ (15 - 2 ^ j).testBit j = false ∧ (15 - 2 ^ j) ||| 2 ^ j = 15 ∧ 15 - 2 ^ j < 16 := by decide +kernel
/-- a line laid on trial, from the standing -/
theorem mS.trial {c : Nat} {g : Sg} {mn : Nat → Int32} (hc : c ≤ 4) (h : mS c g mn 0) : mS c g (fb_put mn mn 18 18) 18 ∧ mS c g (fb_put mn mn 18 18) 0 := by
  constructor
  · refine h.to hc (fun i hi => ?_)
    rw [fb_put_in (by omega) (by omega)]
    congr 1
    omega
  · refine h.to hc (fun i hi => ?_)
    rw [fb_put_out (by omega)]
theorem mS.lay0 {c j : Nat} {g : Sg} {mn : Nat → Int32} {x y : Int32} (hc : c ≤ 4) (hj : j < c) (h : mS c g mn 0) : mS c g (upd (upd mn (18 + j) x) (22 + j) y) 0 := by
  refine h.to hc (fun i hi => ?_)
  rw [upd_n (by omega), upd_n (by omega)]
theorem okS.setL {c w j l : Nat} {g : Sg} (h : okS c w g) (hl : l < 24) : okS c w (setL g j l) := ⟨fun i hi => by
  show (if i = j then l else g.1 i) < 24
  split
  · exact hl
  · exact h.1 i hi, h.2⟩
theorem fitM1 {c w tr : Nat} {g : Sg} {mn : Nat → Int32} (hc4 : c ≤ 4) (htr : tr ≤ 4 ∨ tr = 9) (ho : okS c w g) (hm : mS c g mn 18) : f_X6_fitsOn (nI tr) (nI c) mn 1 (nI (2 ^ c - 1)) = some (nI (fitS c tr g.1 (2 ^ c - 1))) := fitsOn_e (lv := 1) hc4 (tr9 htr) (pow_sub_lt hc4) (by omega) (ho.mln hm)
