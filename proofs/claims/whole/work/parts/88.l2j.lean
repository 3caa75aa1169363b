/-! pure: what can be undone -/
def Back (c : Nat) (d a b : Int32) (g h : Sg) : Prop :=
  (d = 0 ∧ (∀ i, i < c → g.1 i = h.1 i) ∧ g.2.1 = h.2.1 ∧ g.2.2.1 = h.2.2.1 ∧ g.2.2.2.1 = h.2.2.2.1 + 1 ∧ h.2.2.2.2.1 = 0 ∧ ∀ i, i < h.2.2.2.1 → g.2.2.2.2.2 i = h.2.2.2.2.2 i) ∨
  (d = 1 ∧ (∀ i, i < c → g.1 i = h.1 i) ∧ b = h.2.1 ∧ g.2.2 = h.2.2) ∨
  (d = 2 ∧ (∀ i, i < c → g.1 i = h.1 i) ∧ g.2.1 = h.2.1 ∧ (∃ i, i < c ∧ a = nI i ∧ h.2.2.1 = g.2.2.1 ^^^ 2 ^ i) ∧ g.2.2.2 = h.2.2.2) ∨
  (d = 3 ∧ (∃ i, i < c ∧ a = nI i ∧ b = nI (h.1 i) ∧ ∀ j, j < c → ¬ j = i → g.1 j = h.1 j) ∧ g.2 = h.2)
theorem mS.to {c : Nat} {g : Sg} {mn mn' : Nat → Int32} {off off' : Nat} (hc : c ≤ 4) (h : mS c g mn off) (e : ∀ i, i < 18 → mn' (off' + i) = mn (off + i)) : mS c g mn' off' := by
  refine ⟨fun i hi => ?_, ?_, ?_, ?_, ?_, fun i hi => ?_⟩
  · have e1 := e i (by omega)
    have e2 := e (4 + i) (by omega)
    rw [← Nat.add_assoc, ← Nat.add_assoc] at e2
    rw [e1, e2]
    exact h.1 i hi
  · rw [e 8 (by omega)]; exact h.2.1
  · rw [e 9 (by omega)]; exact h.2.2.1
  · rw [e 10 (by omega)]; exact h.2.2.2.1
  · rw [e 11 (by omega)]; exact h.2.2.2.2.1
  · have e2 := e (12 + i) (by omega)
    rw [← Nat.add_assoc, ← Nat.add_assoc] at e2
    rw [e2]
    exact h.2.2.2.2.2 i hi
def RUndo (c w : Nat) (g : Sg) (size : Int32) (doings caskets before : Nat → Int32) (macts mnext : Int32) (mrow : Nat → Int32) : Prop := ∃ (k nx : Nat) (gs : Nat → Sg), k ≤ 14 ∧ nx < 14 ∧ size = nI k ∧ macts = nI k ∧ mnext = nI nx ∧ gs 0 = g ∧ (∀ j, j ≤ k → okS c w (gs j)) ∧ ∀ j, 1 ≤ j → j ≤ k → mS c (gs j) mrow (18 * ((nx + 14 - j) % 14)) ∧ Back c (doings (k - j)) (caskets (k - j)) (before (k - j)) (gs (j - 1)) (gs j)
theorem RUndo.zero {c w : Nat} {g : Sg} {d a b mrow : Nat → Int32} {nx : Nat} (hn : nx < 14) (ho : okS c w g) : RUndo c w g 0 d a b 0 (nI nx) mrow := ⟨0, nx, fun _ => g, by omega, hn, rfl, rfl, rfl, rfl, fun _ _ => ho, fun j h1 h2 => by omega⟩
def csS (h : Sg) (gs : Nat → Sg) (j : Nat) : Sg := if j = 0 then h else gs (j - 1)
theorem csS_0 (h : Sg) (gs : Nat → Sg) : csS h gs 0 = h := rfl
theorem csS_p (h : Sg) (gs : Nat → Sg) {j : Nat} (hj : 1 ≤ j) : csS h gs j = gs (j - 1) := if_neg (by omega)
/-- one more act -/
theorem RUndo.push {c w : Nat} {g h : Sg} {size macts mnext : Int32} {d a b mrow mn : Nat → Int32} (hc : c ≤ 4) (hU : RUndo c w g size d a b macts mnext mrow) (hm : mS c g mn 0) (ho : okS c w h) {x y z : Int32} (hb : Back c x y z h g) :
    ∃ (size' macts' mnext' : Int32) (d' a' b' mrow' : Nat → Int32), f_X0_add size d a b x y z = some (size', d', a', b') ∧ f_X6_keepAct macts mnext mn mrow = some (macts', mnext', mrow') ∧ size' = macts' ∧ RUndo c w h size' d' a' b' macts' mnext' mrow' := by
  obtain ⟨k, nx, gs, hk, hn, rfl, rfl, rfl, hg0, hok, hall⟩ := hU
  obtain ⟨k', d', a', b', e1, e2, e3, e4, e5, e6⟩ := add_e hk d a b x y z
  refine ⟨nI k', nI k', nI ((nx + 1) % 14), d', a', b', fb_put mrow mn (18 * nx) 18, e1, ?_, rfl, k', (nx + 1) % 14, csS h gs, ?_, Nat.mod_lt _ (by omega), rfl, rfl, rfl, rfl, ?_, ?_⟩
  · rw [keepAct_e hk hn, e2]
  · rw [e2]; split <;> omega
  · intro j hj
    by_cases z0 : j = 0
    · rw [z0, csS_0]; exact ho
    · rw [csS_p h gs (by omega)]
      apply hok
      rw [e2] at hj
      split at hj <;> omega
  · intro j h1 h2
    have hk14 : k' ≤ 14 := by rw [e2]; split <;> omega
    have hkk : k' ≤ k + 1 := by rw [e2]; split <;> omega
    by_cases z1 : j = 1
    · subst z1
      constructor
      · rw [csS_p h gs (Nat.le_refl 1), Nat.sub_self, hg0]
        refine hm.to hc (fun i hi => ?_)
        have : ((nx + 1) % 14 + 14 - 1) % 14 = nx := by omega
        rw [this, fb_put_in (by omega) (by omega)]
        congr 1
        omega
      · rw [e3, e4, e5]
        rw [csS_p h gs (Nat.le_refl 1), Nat.sub_self, csS_0, hg0]
        exact hb
    · obtain ⟨q1, q2⟩ := hall (j - 1) (by omega) (by omega)
      obtain ⟨r1, r2, r3⟩ := e6 (j - 1) (by omega) (by omega)
      rw [show j - 1 + 1 = j by omega] at r1 r2 r3
      constructor
      · rw [csS_p h gs h1]
        refine q1.to hc (fun i hi => ?_)
        have h5 : ((nx + 1) % 14 + 14 - j) % 14 = (nx + 14 - (j - 1)) % 14 := by omega
        have h6 : ¬ (nx + 14 - (j - 1)) % 14 = nx := by omega
        rw [h5]
        generalize (nx + 14 - (j - 1)) % 14 = q at *
        rw [fb_put_out (by omega)]
      · rw [csS_p h gs (show 1 ≤ j - 1 by omega), csS_p h gs h1, r1, r2, r3]
        exact q2
theorem two_pow_xor_lt {c s i : Nat} (hs : s < 2 ^ c) (hi : i < c) : s ^^^ 2 ^ i < 2 ^ c := Nat.xor_lt_two_pow hs (Nat.pow_lt_pow_right (by omega) hi)
theorem song_e {c s i : Nat} (hc : c ≤ 4) (hs : s < 2 ^ c) (hi : i < c) : nI s ^^^ ((1 : Int32) <<< (nI i &&& 31)) = nI (s ^^^ 2 ^ i) := by
  rw [shl_e i (by omega), fb_xorI]
/-- undone: the class's side -/
theorem takeBack_e {c w : Nat} {g h : Sg} {d a b picture sung tried wed : Int32} {lines picked : Nat → Int32} (hc4 : c ≤ 4) (hw : w ≤ 6) (ho : okS c w g) (ho' : okS c w h) (hc : cS c g lines picture sung tried wed picked) (hB : Back c d a b g h) :
    ∃ (p' s' t' w' : Int32) (l' : Nat → Int32), f_X4_takeBack picture sung tried wed lines d a b = some (p', s', t', w', l') ∧ cS c h l' p' s' t' w' picked := by
  obtain ⟨c1, c2, c3, c4, c5, c6⟩ := hc
  unfold f_X4_takeBack
  have ht := ho.2.2.2.1
  rcases hB with ⟨rfl, b1, b2, b3, b4, b5, b6⟩ | ⟨rfl, b1, b2, b3⟩ | ⟨rfl, b1, b2, ⟨i, hi, rfl, b3⟩, b4⟩ | ⟨rfl, ⟨i, hi, rfl, rfl, b1⟩, b2⟩
  · rw [if_pos rfl]
    have e : (if 0 < tried - 1 then tried - 1 else 0) = nI h.2.2.2.1 := by
      rw [c4, b4, show nI (h.2.2.2.1 + 1) - 1 = nI h.2.2.2.1 from nI_pred _]
      by_cases z : h.2.2.2.1 = 0
      · rw [z]; rfl
      · rw [if_pos (show (0 : Int32) < nI h.2.2.2.1 from nI_lt (a := 0) (by omega) (by omega))]
    rw [e]
    exact ⟨_, _, _, _, _, rfl, fun j hj => by rw [c1 j hj, b1 j hj], by rw [c2, b2], by rw [c3, b3], rfl, b5.symm, fun j hj => by rw [c6 j (by omega), b6 j hj]⟩
  · rw [if_neg (by decide), if_pos rfl]
    exact ⟨_, _, _, _, _, rfl, fun j hj => by rw [c1 j hj, b1 j hj], b2, by rw [c3, b3], by rw [c4, b3], by rw [c5, b3], fun j hj => by rw [← b3] at hj; rw [c6 j hj, b3]⟩
  · rw [if_neg (by decide), if_neg (by decide), if_pos rfl]
    unfold f_X4_turnSong
    rw [c3, song_e hc4 ho.2.2.1 hi]
    exact ⟨_, _, _, _, _, rfl, fun j hj => by rw [c1 j hj, b1 j hj], by rw [c2, b2], by rw [b3], by rw [c4, b4], by rw [c5, b4], fun j hj => by rw [← b4] at hj; rw [c6 j hj, b4]⟩
  · rw [if_neg (by decide), if_neg (by decide), if_neg (by decide), if_pos rfl, put_e (show i < 4 by omega) (by omega)]
    refine ⟨_, _, _, _, _, rfl, fun j hj => ?_, by rw [c2, b2], by rw [c3, b2], by rw [c4, b2], by rw [c5, b2], fun j hj => by rw [← b2] at hj; rw [c6 j hj, b2]⟩
    by_cases z : j = i
    · subst z; rw [upd_s]
    · rw [upd_n z, c1 j hj, b1 j hj z]
