/-! pure: letters read, one by one -/
theorem has15 : ∀ y, y < 10 → f_X6_has 15 (nI y) = some (bI (decide (y < 4))) := by decide +kernel
theorem has63 : ∀ y, y < 10 → f_X6_has 63 (nI y) = some (bI (decide (y < 6))) := by decide +kernel
theorem f37 {m : Nat} {al : Int32} (hm : m ≤ 10) (hal : ∀ y, y < 10 → f_X6_has al (nI y) = some (bI (decide (y < m)))) (x ap : Int32) :
    (∃ y, y < m ∧ x = nI y ∧ f_X6_figureOf_37 ap (-9) al x = some (nI y, ap + 1, -9) ∧ f_X2_isBelow x (nI m) = some 1) ∨ (f_X6_figureOf_37 ap (-9) al x = some (0, ap, ap) ∧ f_X2_isBelow x (nI m) = some 0) := by
  have i9 : (9 : Int64) = lN 9 := rfl
  unfold f_X6_figureOf_37 f_X2_isBelow f_X6_figureOf_58
  rw [i9]
  rcases pk_ix x (n := m) (by omega) with h | h | ⟨y, hy, rfl⟩
  · right
    rw [in_no (m := 9) (by omega) (Or.inl h), Option.bind_some, if_pos rfl, if_pos rfl, if_pos h]
    exact ⟨rfl, rfl⟩
  · right
    constructor
    · rcases pk_ix x (n := 10) (by omega) with h2 | h2 | ⟨y, hy, rfl⟩
      · rw [in_no (m := 9) (by omega) (Or.inl h2), Option.bind_some, if_pos rfl, if_pos rfl]
      · rw [in_no (m := 9) (by omega) (Or.inr h2), Option.bind_some, if_pos rfl, if_pos rfl]
      · have hge : m ≤ y := (nI_leI (by omega) (by omega)).mp h
        rw [in_yes (m := 9) (by omega) (by omega), Option.bind_some, if_neg (show ¬ (1 : Int32) = 0 by decide), hal y hy, Option.bind_some, if_pos (by rw [bI_0]; simpa using hge), if_pos rfl]
    · by_cases h0 : x < 0
      · rw [if_pos h0]
      · rw [if_neg h0, if_pos h]
  · left
    refine ⟨y, hy, rfl, ?_, ?_⟩
    · rw [in_yes (m := 9) (by omega) (by omega), Option.bind_some, if_neg (show ¬ (1 : Int32) = 0 by decide), hal y (by omega), Option.bind_some, if_neg (by rw [bI_0]; simp [hy])]
    · rw [if_neg (nI_pos (by omega)), if_neg (nI_ge hy (by omega))]
theorem ne9 {q : Nat} (h : q ≤ 1000) : ¬ nI q = -9 := by
  intro e
  have h2 := congrArg Int32.toInt e
  rw [nI_i (by omega)] at h2
  have h3 : (-9 : Int32).toInt = -9 := rfl
  rw [h3] at h2
  omega
/-- a figure, on both sides -/
theorem figG {m N q : Nat} {al : Int32} {L T : Nat → Int32} (hm : m ≤ 10) (hal : ∀ y, y < 10 → f_X6_has al (nI y) = some (bI (decide (y < m)))) (hN : N ≤ 40) (hT : ∀ i, i < N → T i = L i) (hq : q ≤ N) :
    (∃ y, y < m ∧ q < N ∧ L q - 48 = nI y ∧ f_X6_figureOf (nI N) (nI q) (-9) T al = some (nI y, nI (q + 1), -9) ∧ f_X2_isBelow (L q - 48) (nI m) = some 1) ∨ (f_X6_figureOf (nI N) (nI q) (-9) T al = some (0, nI q, nI q) ∧ (q = N ∨ (q < N ∧ f_X2_isBelow (L q - 48) (nI m) = some 0))) := by
  unfold f_X6_figureOf
  rw [if_pos rfl]
  by_cases z : q = N
  · right
    refine ⟨?_, Or.inl z⟩
    rw [if_pos (nI_le (by omega) (by omega))]
    rcases f37 hm hal (-9) (nI q) with ⟨y, h1, h2, -, -⟩ | ⟨h1, h2⟩
    · exact absurd h2.symm (ne9 (by omega))
    · exact h1
  · rw [if_neg (nI_ge (by omega) (by omega)), nI_clamp (show q < 2 ^ 31 by omega), if_neg (gdf (show q < 40 by omega) (by omega)), hT q (by omega)]
    rcases f37 hm hal (L q - 48) (nI q) with ⟨y, h1, h2, h3, h4⟩ | ⟨h1, h2⟩
    · left
      rw [nI_1] at h3
      exact ⟨y, h1, by omega, h2, h3, h4⟩
    · right
      exact ⟨h1, Or.inr ⟨by omega, h2⟩⟩
theorem figF {m q : Nat} {ln ap al : Int32} {T : Nat → Int32} (hq : q ≤ 1000) : f_X6_figureOf ln ap (nI q) T al = some (0, ap, nI q) := by
  unfold f_X6_figureOf f_X6_figureOf_37 f_X6_figureOf_58
  have i9 : (9 : Int64) = lN 9 := rfl
  rw [if_neg (ne9 hq), i9, in_no (m := 9) (by omega) (Or.inl (by decide)), Option.bind_some, if_pos rfl, if_neg (ne9 hq)]
abbrev FF (L : Nat → Int32) (N n : Nat) (wn so tr ca wo : Int32) (me ki : Nat → Int32) (pic : Int32) (li : Nat → Int32) (i : Int32) := f_X2_firstFault_6 0 0 0 40 L (nI N) n wn so tr ca wo me ki pic li i
def CF (r : Int32) (X : Option (Int32 × Int32 × Int32 × Int32 × Int32 × Int32 × (Nat → Int32) × (Nat → Int32) × Int32 × Int32 × Int32 × Int32 × (Nat → Int32))) : Prop := ∃ (wn so tr ca wo : Int32) (me ki : Nat → Int32) (pic : Int32) (li : Nat → Int32), X = some (r, wn, so, tr, ca, wo, me, ki, pic, 0, 0, 0, li)
theorem ff_end {L : Nat → Int32} {N n : Nat} {wn so tr ca wo pic : Int32} {me ki li : Nat → Int32} (hN : N ≤ 40) : FF L N (n + 1) wn so tr ca wo me ki pic li (nI N) = if wn = 2 then some (-9, wn, so, tr, ca, wo, me, ki, pic, 0, 0, 0, li) else some (nI N, wn, so, tr, ca, wo, me, ki, pic, 0, 0, 0, li) := by
  unfold FF
  rw [q_X2_firstFault_6]
  unfold f_X2_firstFault_6_b f_X2_firstFault_35
  rw [if_pos (nI_le (Nat.le_refl N) (by omega))]
theorem ff_step {L : Nat → Int32} {N n q : Nat} {wn so tr ca wo pic b wn' so' tr' ca' wo' pic' : Int32} {me ki li me' ki' li' : Nat → Int32} (hN : N ≤ 40) (hq : q < N) (h : f_X2_takes wn so tr ca wo me ki pic li (L q) = some (b, wn', so', tr', ca', wo', me', ki', pic', li')) : FF L N (n + 1) wn so tr ca wo me ki pic li (nI q) = if b = 0 then some (nI q, wn', so', tr', ca', wo', me', ki', pic', 0, 0, 0, li') else FF L N n wn' so' tr' ca' wo' me' ki' pic' li' (nI (q + 1)) := by
  unfold FF
  rw [q_X2_firstFault_6]
  unfold f_X2_firstFault_6_b
  rw [if_neg (nI_ge hq (by omega)), if_neg (show ¬ Int32.ofNat 40 ≤ nI q from nI_ge (b := 40) (by omega) (by omega)), nI_clamp (show q < 2 ^ 31 by omega), if_neg (gdf (show q < 40 by omega) (by omega)), h, Option.bind_some, nI_1]
theorem tk3 {c : Nat} {so tr wo pic x b : Int32} {me ki li : Nat → Int32} (hc : c < 4) (hb : f_X2_isBelow (x - 48) 4 = some b) (hb2 : b = 0 ∨ b = 1) : f_X2_takes 3 so tr (nI c) wo me ki pic li x = some (b, 4, so, tr, nI c, wo, upd me c (x - 48), ki, pic, li) := by
  unfold f_X2_takes
  rw [if_neg (by decide), if_neg (by decide), if_neg (by decide), if_pos rfl, put_e hc (by omega), Option.bind_some, hb, Option.bind_some, if_pos hb2]
theorem tk4 {so tr ca wo pic x b : Int32} {me ki li : Nat → Int32} (hb : f_X2_isBelow (x - 48) 6 = some b) (hb2 : b = 0 ∨ b = 1) : f_X2_takes 4 so tr ca wo me ki pic li x = some (b, 5, x - 48, tr, ca, wo, me, ki, pic, li) := by
  unfold f_X2_takes
  rw [if_neg (by decide), if_neg (by decide), if_neg (by decide), if_neg (by decide), if_pos rfl, hb, Option.bind_some, if_pos hb2]
theorem tk5 {c : Nat} {so tr wo pic x b : Int32} {me ki li : Nat → Int32} (hc : c < 4) (hb : f_X2_isBelow (x - 48) 4 = some b) (hb2 : b = 0 ∨ b = 1) : f_X2_takes 5 so tr (nI c) wo me ki pic li x = some (b, 2, so, tr, nI (c + 1), wo, me, ki, pic, upd li c ((4 * so) + (x - 48))) := by
  unfold f_X2_takes
  rw [if_neg (by decide), if_neg (by decide), if_neg (by decide), if_neg (by decide), if_neg (by decide), if_pos rfl, put_e hc (by omega), Option.bind_some, hb, Option.bind_some, if_pos hb2, nI_1]
theorem tk6 {w : Nat} {so tr ca pic x b : Int32} {me ki li : Nat → Int32} (hw : w < 6) (hb : f_X2_isBelow (x - 48) 4 = some b) (hb2 : b = 0 ∨ b = 1) : f_X2_takes 6 so tr ca (nI w) me ki pic li x = some (b, 2, so, tr, ca, nI (w + 1), me, upd ki w (x - 48), pic, li) := by
  unfold f_X2_takes
  rw [if_neg (by decide), if_neg (by decide), if_neg (by decide), if_neg (by decide), if_neg (by decide), if_neg (by decide), put_e hw (by omega), Option.bind_some, hb, Option.bind_some, if_pos hb2, nI_1]
theorem tk2 {so tr ca wo pic x b wn' pic' : Int32} {me ki li : Nat → Int32} (h : f_X2_opensPart 2 ca wo pic x = some (b, wn', pic')) (hb2 : b = 0 ∨ b = 1) : f_X2_takes 2 so tr ca wo me ki pic li x = some (b, wn', so, tr, ca, wo, me, ki, pic', li) := by
  unfold f_X2_takes
  rw [if_neg (by decide), if_neg (by decide), if_pos rfl, h, Option.bind_some, if_pos hb2]
/-- where the class finds a fault at a figure -/
theorem cf3 {L : Nat → Int32} {N n q c : Nat} {so tr wo pic : Int32} {me ki li : Nat → Int32} (hN : N ≤ 40) (hc : c < 4) (h : q = N ∨ (q < N ∧ f_X2_isBelow (L q - 48) (nI 4) = some 0)) : CF (nI q) (FF L N (n + 1) 3 so tr (nI c) wo me ki pic li (nI q)) := by
  rcases h with rfl | ⟨h1, h2⟩
  · rw [ff_end hN, if_neg (by decide)]
    exact ⟨_, _, _, _, _, _, _, _, _, rfl⟩
  · rw [ff_step hN h1 (tk3 hc h2 (Or.inl rfl)), if_pos rfl]
    exact ⟨_, _, _, _, _, _, _, _, _, rfl⟩
theorem cf4 {L : Nat → Int32} {N n q : Nat} {so tr ca wo pic : Int32} {me ki li : Nat → Int32} (hN : N ≤ 40) (h : q = N ∨ (q < N ∧ f_X2_isBelow (L q - 48) (nI 6) = some 0)) : CF (nI q) (FF L N (n + 1) 4 so tr ca wo me ki pic li (nI q)) := by
  rcases h with rfl | ⟨h1, h2⟩
  · rw [ff_end hN, if_neg (by decide)]
    exact ⟨_, _, _, _, _, _, _, _, _, rfl⟩
  · rw [ff_step hN h1 (tk4 h2 (Or.inl rfl)), if_pos rfl]
    exact ⟨_, _, _, _, _, _, _, _, _, rfl⟩
theorem cf5 {L : Nat → Int32} {N n q c : Nat} {so tr wo pic : Int32} {me ki li : Nat → Int32} (hN : N ≤ 40) (hc : c < 4) (h : q = N ∨ (q < N ∧ f_X2_isBelow (L q - 48) (nI 4) = some 0)) : CF (nI q) (FF L N (n + 1) 5 so tr (nI c) wo me ki pic li (nI q)) := by
  rcases h with rfl | ⟨h1, h2⟩
  · rw [ff_end hN, if_neg (by decide)]
    exact ⟨_, _, _, _, _, _, _, _, _, rfl⟩
  · rw [ff_step hN h1 (tk5 hc h2 (Or.inl rfl)), if_pos rfl]
    exact ⟨_, _, _, _, _, _, _, _, _, rfl⟩
theorem cf6 {L : Nat → Int32} {N n q w : Nat} {so tr ca pic : Int32} {me ki li : Nat → Int32} (hN : N ≤ 40) (hw : w < 6) (h : q = N ∨ (q < N ∧ f_X2_isBelow (L q - 48) (nI 4) = some 0)) : CF (nI q) (FF L N (n + 1) 6 so tr ca (nI w) me ki pic li (nI q)) := by
  rcases h with rfl | ⟨h1, h2⟩
  · rw [ff_end hN, if_neg (by decide)]
    exact ⟨_, _, _, _, _, _, _, _, _, rfl⟩
  · rw [ff_step hN h1 (tk6 hw h2 (Or.inl rfl)), if_pos rfl]
    exact ⟨_, _, _, _, _, _, _, _, _, rfl⟩
/-- the reference's loop -/
def MF (r rt : Int32) (X : Option (Int32 × Int32 × Int32 × Int32 × Int32 × Int32 × Int32 × (Nat → Int32) × (Nat → Int32))) : Prop := ∃ (rc rw rp a f : Int32) (of rk : Nat → Int32), X = some (r, rt, rc, rw, rp, a, f, of, rk)
theorem mf_fault {N q f : Nat} {rt rc rw rp a : Int32} {T of rk : Nat → Int32} (hq : q ≤ 1000) : MF (nI q) rt (f_X6_readText_63 rt (nI N) T (f + 1) rc rw rp a (nI q) of rk) := by
  rw [q_X6_readText_63]
  unfold f_X6_readText_63_b
  rw [if_neg (ne9 hq)]
  exact ⟨_, _, _, _, _, _, _, rfl⟩
theorem mt_end {N f : Nat} {rt rc rw rp : Int32} {T of rk : Nat → Int32} (hN : N ≤ 40) : f_X6_readText_63 rt (nI N) T (f + 1) rc rw rp (nI N) (-9) of rk = some (-9, rt, rc, rw, rp, nI N, -9, of, rk) := by
  rw [q_X6_readText_63]
  unfold f_X6_readText_63_b
  rw [if_pos rfl, if_pos (nI_le (Nat.le_refl N) (by omega))]
theorem mt_step {N f q : Nat} {rt rc rw rp rc' rw' rp' a' f' : Int32} {T of rk of' rk' : Nat → Int32} (hN : N ≤ 40) (hq : q < N) (h : f_X6_readPart rc rw rp (nI N) (nI q) (-9) of rk T (T q) = some (rc', rw', rp', a', f', of', rk')) : f_X6_readText_63 rt (nI N) T (f + 1) rc rw rp (nI q) (-9) of rk = f_X6_readText_63 rt (nI N) T f rc' rw' rp' a' f' of' rk' := by
  rw [q_X6_readText_63]
  unfold f_X6_readText_63_b
  rw [if_pos rfl, if_neg (nI_ge hq (by omega)), nI_clamp (show q < 2 ^ 31 by omega), if_neg (gdf (show q < 40 by omega) (by omega)), h, Option.bind_some]
theorem rp_cas {c a N : Nat} {rw rp v1 y1 a1 f1 y2 a2 f2 y3 a3 f3 : Int32} {of rk T : Nat → Int32} (hc : c < 4) (hv : v1 = 67 ∨ (v1 = 68 ∧ rp = -9)) (h1 : f_X6_figureOf (nI N) (nI (a + 1)) (-9) T 15 = some (y1, a1, f1)) (h2 : f_X6_figureOf (nI N) a1 f1 T 63 = some (y2, a2, f2)) (h3 : f_X6_figureOf (nI N) a2 f2 T 15 = some (y3, a3, f3)) : f_X6_readPart (nI c) rw rp (nI N) (nI a) (-9) of rk T v1 = some (nI (c + 1), rw, (if v1 = 68 then nI c else rp), a3, f3, upd (upd (upd of (3 * c) y1) (3 * c + 1) y2) (3 * c + 2) y3, rk) := by
  have e0 : (3 : Int32) * nI c = nI (3 * c) := pk_mul 3 c
  have e1 : nI (3 * c) + 1 = nI (3 * c + 1) := nI_1 _
  have e2 : nI (3 * c) + 2 = nI (3 * c + 2) := nI_add (3 * c) 2
  have hx : f_X6_readPart_26 (nI c) rw rp (nI N) (nI a) (-9) of rk T v1 1 = some (nI (c + 1), rw, (if v1 = 68 then nI c else rp), a3, f3, upd (upd (upd of (3 * c) y1) (3 * c + 1) y2) (3 * c + 2) y3, rk) := by
    unfold f_X6_readPart_26 f_X6_readPart_122
    rw [if_neg (show ¬ (1 : Int32) = 0 by decide), if_neg (show ¬ (4 : Int32) ≤ nI c from nI_ge (b := 4) (by omega) (by omega)), nI_1, h1, Option.bind_some, e0, e1, e2, nI_clamp (show 3 * c < 2 ^ 31 by omega), nI_clamp (show 3 * c + 1 < 2 ^ 31 by omega), nI_clamp (show 3 * c + 2 < 2 ^ 31 by omega), if_neg (gdf (show 3 * c < 12 by omega) (by omega)), h2, Option.bind_some, if_neg (gdf (show 3 * c + 1 < 12 by omega) (by omega)), h3, Option.bind_some, if_neg (gdf (show 3 * c + 2 < 12 by omega) (by omega)), nI_1]
    by_cases z : v1 = 68
    · rw [if_pos z, if_pos z]
    · rw [if_neg z, if_neg z]
  unfold f_X6_readPart
  rw [hx]
  rcases hv with hv | ⟨hv, hp⟩
  · rw [if_pos hv]
  · rw [if_neg (by rw [hv]; decide), if_pos hv, if_pos hp]
theorem rp_woo {w a N : Nat} {rc rp y1 a1 f1 : Int32} {of rk T : Nat → Int32} (hw : w < 6) (h1 : f_X6_figureOf (nI N) (nI (a + 1)) (-9) T 15 = some (y1, a1, f1)) : f_X6_readPart rc (nI w) rp (nI N) (nI a) (-9) of rk T 87 = some (rc, nI (w + 1), rp, a1, f1, of, upd rk w y1) := by
  unfold f_X6_readPart f_X6_readPart_26 f_X6_readPart_138
  rw [if_neg (by decide), if_neg (by decide), if_pos rfl, if_pos rfl, if_neg (show ¬ (6 : Int32) ≤ nI w from nI_ge (b := 6) (by omega) (by omega)), nI_1, h1, Option.bind_some, nI_clamp (show w < 2 ^ 31 by omega), if_neg (gdf hw (by omega)), nI_1]
/-- no part begins so -/
theorem rp_no {c w a N : Nat} {rp v1 : Int32} {of rk T : Nat → Int32} (hc : c ≤ 4) (hw : w ≤ 6) (h1 : ¬ (c < 4 ∧ (v1 = 67 ∨ (v1 = 68 ∧ rp = -9)))) (h2 : ¬ (v1 = 87 ∧ w < 6)) : f_X6_readPart (nI c) (nI w) rp (nI N) (nI a) (-9) of rk T v1 = some (nI c, nI w, rp, nI a, nI a, of, rk) := by
  have hy : f_X6_readPart_138 (nI c) (nI w) rp (nI N) (nI a) (-9) of rk T v1 = some (nI c, nI w, rp, nI a, nI a, of, rk) := by
    unfold f_X6_readPart_138
    by_cases z : v1 = 87
    · have hw6 : ¬ w < 6 := fun q => h2 ⟨z, q⟩
      rw [if_pos z, if_pos (show (6 : Int32) ≤ nI w from nI_le (a := 6) (by omega) (by omega))]
    · rw [if_neg z]
  unfold f_X6_readPart f_X6_readPart_26
  rw [hy, if_pos rfl]
  by_cases z : v1 = 67
  · have hc4 : ¬ c < 4 := fun q => h1 ⟨q, Or.inl z⟩
    rw [if_pos z, if_neg (show ¬ (1 : Int32) = 0 by decide), if_pos (show (4 : Int32) ≤ nI c from nI_le (a := 4) (by omega) (by omega))]
  · rw [if_neg z]
    by_cases z2 : v1 = 68
    · rw [if_pos z2]
      by_cases z3 : rp = -9
      · have hc4 : ¬ c < 4 := fun q => h1 ⟨q, Or.inr ⟨z2, z3⟩⟩
        rw [if_pos z3, if_neg (show ¬ (1 : Int32) = 0 by decide), if_pos (show (4 : Int32) ≤ nI c from nI_le (a := 4) (by omega) (by omega))]
      · rw [if_neg z3]
    · rw [if_neg z2]
theorem op_no {c w : Nat} {pic v1 : Int32} (hc : c ≤ 4) (hw : w ≤ 6) (h1 : ¬ (c < 4 ∧ (v1 = 67 ∨ (v1 = 68 ∧ pic = -9)))) (h2 : ¬ (v1 = 87 ∧ w < 6)) : ∃ wn, f_X2_opensPart 2 (nI c) (nI w) pic v1 = some (0, wn, pic) := by
  unfold f_X2_opensPart
  by_cases z : v1 = 87
  · have hw6 : ¬ w < 6 := fun q => h2 ⟨z, q⟩
    rw [if_pos z, if_pos (show (6 : Int32) ≤ nI w from nI_le (a := 6) (by omega) (by omega))]
    exact ⟨_, rfl⟩
  · rw [if_neg z]
    by_cases hc4 : c < 4
    · have h3 : ¬ v1 = 67 := fun q => h1 ⟨hc4, Or.inl q⟩
      rw [if_pos (show nI c < 4 from nI_lt (b := 4) hc4 (by omega)), if_neg h3]
      by_cases z2 : v1 = 68
      · have z3 : ¬ pic = -9 := fun q => h1 ⟨hc4, Or.inr ⟨z2, q⟩⟩
        rw [if_pos z2, if_neg z3]
        exact ⟨_, rfl⟩
      · rw [if_neg z2]
        exact ⟨_, rfl⟩
    · rw [if_neg (show ¬ nI c < 4 from nI_nlt (b := 4) (by omega) (by omega))]
      exact ⟨_, rfl⟩
theorem op_cas {c : Nat} {wo pic v1 : Int32} (hc : c < 4) (hv : v1 = 67 ∨ (v1 = 68 ∧ pic = -9)) : f_X2_opensPart 2 (nI c) wo pic v1 = some (1, 3, if v1 = 68 then nI c else pic) := by
  unfold f_X2_opensPart
  have h87 : ¬ v1 = 87 := by rcases hv with hv | ⟨hv, -⟩ <;> rw [hv] <;> decide
  rw [if_neg h87, if_pos (show nI c < 4 from nI_lt (b := 4) hc (by omega))]
  rcases hv with hv | ⟨hv, hp⟩
  · rw [if_neg (show ¬ v1 = 68 by rw [hv]; decide), if_neg (show ¬ v1 = 68 by rw [hv]; decide), if_pos hv]
  · rw [if_pos hv, if_pos hv, if_pos hp]
theorem op_woo {w : Nat} {ca pic : Int32} (hw : w < 6) : f_X2_opensPart 2 ca (nI w) pic 87 = some (1, 6, pic) := by
  unfold f_X2_opensPart
  rw [if_pos rfl, if_neg (show ¬ (6 : Int32) ≤ nI w from nI_ge (b := 6) (by omega) (by omega))]
