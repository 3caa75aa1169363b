/-! pure: the text from its first letter; fault, house -/
theorem has543 : ∀ y, y < 10 → f_X6_has 543 (nI y) = some (bI (decide (y < 5) || decide (y = 9))) := by decide +kernel
theorem bel5 : ∀ y, y < 10 → f_X2_isBelow (nI y) 5 = some (bI (decide (y < 5))) := by decide +kernel
theorem parse_e {N : Nat} {L T : Nat → Int32} (hN : N ≤ 40) (hT : ∀ i, i < N → T i = L i) (a1 a2 a3 a4 a5 : Int32) (a6 a7 : Nat → Int32) (a8 a9 a10 a11 : Int32) (a12 : Nat → Int32) (b1 b2 b3 b4 b5 b6 : Int32) (b7 b8 : Nat → Int32) :
    (∃ q rt, q ≤ 40 ∧ CF (nI q) (f_X2_firstFault a1 a2 a3 a4 a5 a6 a7 a8 a9 a10 a11 a12 40 L (nI N)) ∧ MF (nI q) rt (f_X6_readText b1 b2 b3 b4 (nI N) b5 b6 b7 b8 T)) ∨
    (∃ (tr c w : Nat) (pic so : Int32) (me li of ki rk : Nat → Int32), (tr ≤ 4 ∨ tr = 9) ∧ f_X2_firstFault a1 a2 a3 a4 a5 a6 a7 a8 a9 a10 a11 a12 40 L (nI N) = some (-9, 2, so, nI tr, nI c, nI w, me, ki, pic, 0, 0, 0, li) ∧ f_X6_readText b1 b2 b3 b4 (nI N) b5 b6 b7 b8 T = some (-9, nI tr, nI c, nI w, pic, nI N, -9, of, rk) ∧ RP c w pic me li of ki rk) := by
  have eC : f_X2_firstFault a1 a2 a3 a4 a5 a6 a7 a8 a9 a10 a11 a12 40 L (nI N) = FF L N 200 0 a2 9 0 0 a6 a7 (-9) a12 (nI 0) := by
    unfold f_X2_firstFault f_X2_begin
    rw [Option.bind_some]
    rfl
  have t0 : T (Int32.toNatClampNeg 0) = T 0 := rfl
  rw [eC]
  unfold f_X6_readText
  rw [t0]
  by_cases z : N = 0
  · subst z
    left
    refine ⟨0, b1, by omega, ?_, ?_⟩
    · rw [show 200 = 199 + 1 from rfl, ff_end hN, if_neg (by decide)]
      exact ⟨_, _, _, _, _, _, _, _, _, rfl⟩
    · rw [if_pos (show nI 0 = 0 from rfl)]
      exact ⟨_, _, _, _, _, _, _, rfl⟩
  · rw [if_neg (nI_ne0 (by omega) (by omega)), hT 0 (by omega)]
    by_cases y : L 0 = 71
    · have e0 : f_X2_takes 0 a2 9 0 0 a6 a7 (-9) a12 (L 0) = some (1, 1, a2, 9, 0, 0, a6, a7, -9, a12) := by
        unfold f_X2_takes
        rw [if_pos rfl, if_pos y]
      rw [if_pos y, show 200 = 199 + 1 from rfl, ff_step hN (by omega) e0, if_neg (show ¬ (1 : Int32) = 0 by decide)]
      have n1 : nI (0 + 1) = nI 1 := rfl
      have i1 : (1 : Int32) = nI 1 := rfl
      have i9 : (9 : Int64) = lN 9 := rfl
      by_cases x : N = 1
      · subst x
        left
        refine ⟨1, 0, by omega, ?_, ?_⟩
        · rw [n1, show 199 = 198 + 1 from rfl, ff_end hN, if_neg (by decide)]
          exact ⟨_, _, _, _, _, _, _, _, _, rfl⟩
        · have ef : f_X6_figureOf (nI 1) 1 (-9) T 543 = some (0, nI 1, nI 1) := by
            unfold f_X6_figureOf f_X6_figureOf_37 f_X6_figureOf_58
            rw [if_pos rfl, if_pos (show nI 1 ≤ 1 by decide), i9, in_no (m := 9) (by omega) (Or.inl (by decide)), Option.bind_some, if_pos rfl, if_pos rfl]
            rfl
          rw [ef, Option.bind_some]
          exact mf_fault (by omega)
      · have f1 : f_X6_figureOf (nI N) 1 (-9) T 543 = f_X6_figureOf_37 (nI 1) (-9) 543 (L 1 - 48) := by
          unfold f_X6_figureOf
          rw [if_pos rfl, i1, if_neg (nI_ge (by omega) (by omega)), nI_clamp (by omega), if_neg (gdf (show 1 < 40 by omega) (by omega)), hT 1 (by omega)]
        rw [f1, n1]
        have good : ∀ tr : Nat, (tr ≤ 4 ∨ tr = 9) → L 1 - 48 = nI tr → f_X6_figureOf_37 (nI 1) (-9) 543 (L 1 - 48) = some (nI tr, nI 2, -9) ∧ f_X2_takes 1 a2 9 0 0 a6 a7 (-9) a12 (L 1) = some (1, 2, a2, nI tr, 0, 0, a6, a7, -9, a12) := by
          intro tr htr e
          constructor
          · unfold f_X6_figureOf_37
            rw [e, i9, in_yes (m := 9) (by omega) (by omega), Option.bind_some, if_neg (show ¬ (1 : Int32) = 0 by decide), has543 tr (by omega), Option.bind_some, if_neg (by rw [bI_0]; rcases htr with h | h <;> simp [h]; omega), nI_1]
          · unfold f_X2_takes
            rw [if_neg (by decide), if_pos rfl, e]
            rcases htr with h | h
            · rw [if_neg (show ¬ nI tr = 9 from nI_dec (b := 9) (by omega) (by omega) (by omega)), bel5 tr (by omega), Option.bind_some, if_neg (by rw [bI_0]; simp; omega)]
            · rw [if_pos (show nI tr = 9 by rw [h]; rfl)]
        have bad : (∀ tr : Nat, (tr ≤ 4 ∨ tr = 9) → ¬ L 1 - 48 = nI tr) → f_X6_figureOf_37 (nI 1) (-9) 543 (L 1 - 48) = some (0, nI 1, nI 1) ∧ ∃ x1, f_X2_takes 1 a2 9 0 0 a6 a7 (-9) a12 (L 1) = some (0, 2, a2, x1, 0, 0, a6, a7, -9, a12) := by
          intro hb
          have h9 : ¬ L 1 - 48 = 9 := hb 9 (Or.inr rfl)
          have hbel : f_X2_isBelow (L 1 - 48) 5 = some 0 := by
            unfold f_X2_isBelow
            rcases pk_ix (L 1 - 48) (n := 5) (by omega) with h | h | ⟨y, hy, h⟩
            · rw [if_pos h]
            · by_cases h0 : L 1 - 48 < 0
              · rw [if_pos h0]
              · rw [if_neg h0, if_pos (show (5 : Int32) ≤ L 1 - 48 from h)]
            · exact absurd h (hb y (Or.inl (by omega)))
          constructor
          · unfold f_X6_figureOf_37 f_X6_figureOf_58
            rw [i9]
            rcases pk_ix (L 1 - 48) (n := 10) (by omega) with h | h | ⟨y, hy, h⟩
            · rw [in_no (m := 9) (by omega) (Or.inl h), Option.bind_some, if_pos rfl, if_pos rfl]
            · rw [in_no (m := 9) (by omega) (Or.inr h), Option.bind_some, if_pos rfl, if_pos rfl]
            · have hy2 : ¬ (y ≤ 4 ∨ y = 9) := fun q => hb y q h
              rw [h, in_yes (m := 9) (by omega) (by omega), Option.bind_some, if_neg (show ¬ (1 : Int32) = 0 by decide), has543 y hy, Option.bind_some, if_pos (by rw [bI_0]; simp; omega), if_pos rfl]
          · unfold f_X2_takes
            rw [if_neg (by decide), if_pos rfl, if_neg h9, hbel, Option.bind_some, if_pos rfl]
            exact ⟨_, rfl⟩
        by_cases hg : ∃ tr : Nat, (tr ≤ 4 ∨ tr = 9) ∧ L 1 - 48 = nI tr
        · obtain ⟨tr, h1, h2⟩ := hg
          obtain ⟨g1, g2⟩ := good tr h1 h2
          have hRP : RP 0 0 (-9) a6 a12 b7 a7 b8 := ⟨by omega, by omega, Or.inl rfl, fun i hi => by omega, fun i hi => by omega⟩
          rw [g1, Option.bind_some, show 199 = 198 + 1 from rfl, ff_step hN (by omega) g2, if_neg (show ¬ (1 : Int32) = 0 by decide)]
          rcases parse_loop hN hT (nI tr) 40 2 0 0 (-9) a2 (nI tr) a6 a12 b7 a7 b8 198 200 (by omega) (by omega) (by omega) (by omega) hRP with ⟨q, q1, q2, q3⟩ | ⟨c', w', pic', so', me', li', of', ki', rk', q1, q2, q3⟩
          · left
            exact ⟨q, nI tr, q1, q2, q3⟩
          · right
            exact ⟨tr, c', w', pic', so', me', li', of', ki', rk', h1, q1, q2, q3⟩
        · obtain ⟨g1, x1, g2⟩ := bad (fun tr h1 h2 => hg ⟨tr, h1, h2⟩)
          left
          refine ⟨1, 0, by omega, ?_, ?_⟩
          · rw [show 199 = 198 + 1 from rfl, ff_step hN (by omega) g2, if_pos rfl]
            exact ⟨_, _, _, _, _, _, _, _, _, rfl⟩
          · rw [g1, Option.bind_some]
            exact mf_fault (by omega)
    · left
      have e0 : f_X2_takes 0 a2 9 0 0 a6 a7 (-9) a12 (L 0) = some (0, 1, a2, 9, 0, 0, a6, a7, -9, a12) := by
        unfold f_X2_takes
        rw [if_pos rfl, if_neg y]
      refine ⟨0, b1, by omega, ?_, ?_⟩
      · rw [show 200 = 199 + 1 from rfl, ff_step hN (by omega) e0, if_pos rfl]
        exact ⟨_, _, _, _, _, _, _, _, _, rfl⟩
      · rw [if_neg y]
        exact ⟨_, _, _, _, _, _, _, rfl⟩
theorem op_fault {len mlen : Int32} {let_ mtext : Nat → Int32} (h : RTxt len let_ mlen mtext) (a1 a2 a3 a4 a5 : Int32) (a6 a7 : Nat → Int32) (a8 a9 a10 a11 : Int32) (a12 : Nat → Int32) (b1 b2 b3 b4 b5 b6 : Int32) (b7 b8 : Nat → Int32) :
    ∃ (r c1 c2 c3 c4 c5 : Int32) (c6 c7 : Nat → Int32) (c8 c9 c10 c11 : Int32) (c12 : Nat → Int32) (d1 d2 d3 d4 d5 d6 : Int32) (d7 d8 : Nat → Int32), f_X5_fault len let_ a1 a2 a3 a4 a5 a6 a7 a8 a9 a10 a11 a12 = some (r, c1, c2, c3, c4, c5, c6, c7, c8, c9, c10, c11, c12) ∧ f_X6_fault b1 b2 b3 b4 mlen b5 b6 b7 b8 mtext = some (r, d1, d2, d3, d4, d5, d6, d7, d8) := by
  obtain ⟨n, hn, rfl, rfl, ht⟩ := h
  unfold f_X5_fault f_X6_fault
  rcases parse_e hn ht a1 a2 a3 a4 a5 a6 a7 a8 a9 a10 a11 a12 b1 b2 b3 b4 b5 b6 b7 b8 with ⟨q, rt, -, ⟨_, _, _, _, _, _, _, _, _, e1⟩, ⟨_, _, _, _, _, _, _, e2⟩⟩ | ⟨tr, c, w, pic, so, me, li, of, ki, rk, -, e1, e2, -⟩
  · rw [e1, e2, Option.bind_some, Option.bind_some]
    exact ⟨_, _, _, _, _, _, _, _, _, _, _, _, _, _, _, _, _, _, _, _, _, rfl, rfl⟩
  · rw [e1, e2, Option.bind_some, Option.bind_some]
    exact ⟨_, _, _, _, _, _, _, _, _, _, _, _, _, _, _, _, _, _, _, _, _, rfl, rfl⟩
def nwF (k : Nat) : Int32 := if k < 12 then 0 else -9
theorem ho_38 {x1 x2 x3 x4 x5 x6 x7 x8 x9 x10 : Int32} {me ki of rk ik now : Nat → Int32} : ∀ (d i n : Nat), i + d = 18 → d < n →
    f_X6_house_38 x1 x2 x3 x4 x5 x6 x7 x8 x9 x10 me ki of rk ik n (fb_put now nwF 0 i) (nI i) = f_X6_house_70 x1 x2 x3 x4 x5 x6 x7 x8 x9 x10 ki of rk ik 200 me (fb_put now nwF 0 18) 0 := by
  intro d
  induction d with
  | zero =>
    intro i n hi hn
    obtain ⟨n, rfl⟩ : ∃ k, n = k + 1 := ⟨n - 1, by omega⟩
    rw [q_X6_house_38]
    unfold f_X6_house_38_b
    rw [if_pos (show (18 : Int32) ≤ nI i from nI_le (a := 18) (by omega) (by omega)), show i = 18 by omega]
  | succ d ih =>
    intro i n hi hn
    obtain ⟨n, rfl⟩ : ∃ k, n = k + 1 := ⟨n - 1, by omega⟩
    have e := ih (i + 1) n (by omega) (by omega)
    have hs := fb_put_succ now nwF 0 i
    rw [Nat.zero_add] at hs
    rw [← hs] at e
    rw [q_X6_house_38]
    unfold f_X6_house_38_b
    rw [if_neg (show ¬ (18 : Int32) ≤ nI i from nI_ge (b := 18) (by omega) (by omega)), nI_clamp (show i < 2 ^ 31 by omega), if_neg (gdf (show i < 36 by omega) (by omega)), if_neg (gdf (show i < 36 by omega) (by omega)), nI_1]
    by_cases z : i < 12
    · rw [if_neg (show ¬ (12 : Int32) ≤ nI i from nI_ge (b := 12) (by omega) (by omega))]
      rw [show nwF i = 0 from if_pos z] at e
      exact e
    · rw [if_pos (show (12 : Int32) ≤ nI i from nI_le (a := 12) (by omega) (by omega))]
      rw [show nwF i = -9 from if_neg z] at e
      exact e
theorem ho_70 {c : Nat} {x1 x3 x4 x5 x6 x7 x8 x9 x10 : Int32} {ki of rk ik : Nat → Int32} (hc : c ≤ 4) : ∀ (d i n : Nat) (me now : Nat → Int32), i + d = c → d < n → (∀ k, k < i → me k = of (3 * k) ∧ now k = of (3 * k + 1) ∧ now (4 + k) = of (3 * k + 2)) →
    ∃ me' now', f_X6_house_70 x1 (nI c) x3 x4 x5 x6 x7 x8 x9 x10 ki of rk ik n me now (nI i) = f_X6_house_134 x1 (nI c) x3 x4 x5 x6 x7 x8 x9 x10 me' now' of rk ik 200 ki 0 ∧ (∀ k, k < c → me' k = of (3 * k) ∧ now' k = of (3 * k + 1) ∧ now' (4 + k) = of (3 * k + 2)) ∧ ∀ q, 8 ≤ q → now' q = now q := by
  intro d
  induction d with
  | zero =>
    intro i n me now hi hn hk
    obtain ⟨n, rfl⟩ : ∃ k, n = k + 1 := ⟨n - 1, by omega⟩
    refine ⟨me, now, ?_, fun k h => hk k (by omega), fun _ _ => rfl⟩
    rw [q_X6_house_70]
    unfold f_X6_house_70_b
    rw [if_pos (nI_le (by omega) (by omega))]
  | succ d ih =>
    intro i n me now hi hn hk
    obtain ⟨n, rfl⟩ : ∃ k, n = k + 1 := ⟨n - 1, by omega⟩
    have e0 : (3 : Int32) * nI i = nI (3 * i) := pk_mul 3 i
    have e1 : nI (3 * i) + 1 = nI (3 * i + 1) := nI_1 _
    have e2 : nI (3 * i) + 2 = nI (3 * i + 2) := nI_add (3 * i) 2
    have e4 : (4 : Int32) + nI i = nI (4 + i) := nI_add 4 i
    obtain ⟨me', now', q1, q2, q3⟩ := ih (i + 1) n (upd me i (of (3 * i))) (upd (upd now i (of (3 * i + 1))) (4 + i) (of (3 * i + 2))) (by omega) (by omega) (fun k h => by
      by_cases z : k = i
      · subst z
        rw [upd_s, upd_n (by omega), upd_s, upd_s]
        exact ⟨rfl, rfl, rfl⟩
      · rw [upd_n z, upd_n (by omega), upd_n z, upd_n (by omega), upd_n (by omega)]
        exact hk k (by omega))
    refine ⟨me', now', ?_, q2, fun q hq => ?_⟩
    · rw [q_X6_house_70]
      unfold f_X6_house_70_b
      rw [if_neg (nI_ge (by omega) (by omega)), e0, e1, e2, e4, nI_clamp (show i < 2 ^ 31 by omega), nI_clamp (show 3 * i < 2 ^ 31 by omega), nI_clamp (show 3 * i + 1 < 2 ^ 31 by omega), nI_clamp (show 3 * i + 2 < 2 ^ 31 by omega), nI_clamp (show 4 + i < 2 ^ 31 by omega), if_neg (gdf (show 3 * i < 12 by omega) (by omega)), if_neg (gdf (show i < 4 by omega) (by omega)), if_neg (gdf (show 3 * i + 1 < 12 by omega) (by omega)), if_neg (gdf (show i < 36 by omega) (by omega)), if_neg (gdf (show 3 * i + 2 < 12 by omega) (by omega)), if_neg (gdf (show 4 + i < 36 by omega) (by omega)), nI_1]
      exact q1
    · rw [q3 q hq, upd_n (by omega), upd_n (by omega)]
theorem ho_134 {w : Nat} {x1 x2 x4 x5 x6 x7 x8 x9 x10 : Int32} {me now of rk ik : Nat → Int32} (hw : w ≤ 6) : ∀ (d i n : Nat) (ki : Nat → Int32), i + d = w → d < n → (∀ k, k < i → ki k = rk k) →
    ∃ ki', f_X6_house_134 x1 x2 (nI w) x4 x5 x6 x7 x8 x9 x10 me now of rk ik n ki (nI i) = f_X6_house_160 x1 x2 (nI w) x4 x5 x6 x7 x8 x9 x10 me ki' now of rk ik ∧ ∀ k, k < w → ki' k = rk k := by
  intro d
  induction d with
  | zero =>
    intro i n ki hi hn hk
    obtain ⟨n, rfl⟩ : ∃ k, n = k + 1 := ⟨n - 1, by omega⟩
    refine ⟨ki, ?_, fun k h => hk k (by omega)⟩
    rw [q_X6_house_134]
    unfold f_X6_house_134_b
    rw [if_pos (nI_le (by omega) (by omega))]
  | succ d ih =>
    intro i n ki hi hn hk
    obtain ⟨n, rfl⟩ : ∃ k, n = k + 1 := ⟨n - 1, by omega⟩
    obtain ⟨ki', q1, q2⟩ := ih (i + 1) n (upd ki i (rk i)) (by omega) (by omega) (fun k h => by
      by_cases z : k = i
      · subst z; rw [upd_s]
      · rw [upd_n z]; exact hk k (by omega))
    refine ⟨ki', ?_, q2⟩
    rw [q_X6_house_134]
    unfold f_X6_house_134_b
    rw [if_neg (nI_ge (by omega) (by omega)), nI_clamp (show i < 2 ^ 31 by omega), if_neg (gdf (show i < 6 by omega) (by omega)), if_neg (gdf (show i < 6 by omega) (by omega)), nI_1]
    exact q1
/-- both objects, side by side -/
def Rel (len : Int32) (seed : Int64) (letters : Nat → Int32) (truth caskets wooers : Int32) (metals kinds : Nat → Int32) (picture sung tried wed : Int32) (lines picked : Nat → Int32) (size : Int32) (doings acas before : Nat → Int32) (f0 p0 s0 t0 w0 : Int32) (l0 k0 : Nat → Int32) (f1 p1 s1 t1 w1 : Int32) (l1 k1 : Nat → Int32) (mtr mca mwo mlen macts mnext : Int32) (mseed : Int64) (mme mki mn mtext mrow ik kp : Nat → Int32) : Prop :=
  ∃ (c w tr : Nat) (mt kd : Nat → Nat) (g : Sg), RHs c w tr mt kd truth caskets wooers metals kinds mtr mca mwo mme mki ∧ okS c w g ∧ cS c g lines picture sung tried wed picked ∧ mS c g mn 0 ∧ RTxt len letters mlen mtext ∧ RUndo c w g size doings acas before macts mnext mrow ∧ RSl c w 0 f0 p0 s0 t0 w0 l0 k0 ik kp ∧ RSl c w 1 f1 p1 s1 t1 w1 l1 k1 ik kp ∧ seed = mseed
theorem op_house {len mlen truth caskets wooers picture sung tried wed size f0 p0 s0 t0 w0 f1 p1 s1 t1 w1 mtr mca mwo macts mnext : Int32} {seed mseed : Int64} {letters metals kinds lines picked doings acas before l0 k0 l1 k1 mme mki mn mtext mrow ik kp : Nat → Int32} (hR : Rel len seed letters truth caskets wooers metals kinds picture sung tried wed lines picked size doings acas before f0 p0 s0 t0 w0 l0 k0 f1 p1 s1 t1 w1 l1 k1 mtr mca mwo mlen macts mnext mseed mme mki mn mtext mrow ik kp) (a1 a2 a3 a4 a5 : Int32) (a6 a7 : Nat → Int32) (a8 a9 a10 a11 : Int32) (a12 a13 : Nat → Int32) (b1 b2 b3 b4 b5 b6 : Int32) (b7 b8 : Nat → Int32) :
    ∃ (r c1 c2 c3 c4 c5 : Int32) (c6 c7 : Nat → Int32) (c8 c9 c10 c11 : Int32) (c12 : Nat → Int32) (truth' caskets' wooers' : Int32) (metals' kinds' : Nat → Int32) (picture' sung' tried' wed' : Int32) (lines' picked' : Nat → Int32) (size' f0' f1' mtr' mca' mwo' d1 d2 d3 d4 d5 d6 macts' : Int32) (mme' mki' mn' d7 d8 ik' : Nat → Int32),
      f_X5_house len letters a1 a2 a3 a4 a5 a6 a7 a8 a9 a10 a11 a12 a13 truth caskets wooers metals kinds picture sung tried wed lines picked size f0 f1 = some (r, c1, c2, c3, c4, c5, c6, c7, c8, c9, c10, c11, c12, truth', caskets', wooers', metals', kinds', picture', sung', tried', wed', lines', picked', size', f0', f1') ∧
      f_X6_house mtr mca mwo b1 b2 b3 b4 mlen b5 b6 macts mme mki mn b7 b8 mtext ik = some (r, mtr', mca', mwo', d1, d2, d3, d4, d5, d6, macts', mme', mki', mn', d7, d8, ik') ∧
      Rel len seed letters truth' caskets' wooers' metals' kinds' picture' sung' tried' wed' lines' picked' size' doings acas before f0' p0 s0 t0 w0 l0 k0 f1' p1 s1 t1 w1 l1 k1 mtr' mca' mwo' mlen macts' mnext mseed mme' mki' mn' mtext mrow ik' kp := by
  have hR0 := hR
  obtain ⟨c0, w00, tr0, mt0, kd0, g0, hH, ho, hc, hm, hTx, hU, hs0, hs1, hsd⟩ := hR
  obtain ⟨n, hn, rfl, rfl, ht⟩ := id hTx
  unfold f_X5_house f_X6_house
  rcases parse_e hn ht a1 a2 a3 a4 a5 a6 a7 a8 a9 a10 a11 a12 b1 b2 b3 b4 b5 b6 b7 b8 with ⟨q, rt, hq, ⟨_, _, _, _, _, _, _, _, _, e1⟩, ⟨_, _, _, _, _, _, _, e2⟩⟩ | ⟨tr, c, w, pic, so, me, li, of, ki, rk, htr, e1, e2, hRP⟩
  · rw [e1, e2, Option.bind_some, Option.bind_some]
    dsimp only
    rw [if_neg (ne9 (by omega)), if_neg (ne9 (by omega))]
    exact ⟨_, _, _, _, _, _, _, _, _, _, _, _, _, _, _, _, _, _, _, _, _, _, _, _, _, _, _, _, _, _, _, _, _, _, _, _, _, _, _, _, _, _, _, rfl, rfl, hR0⟩
  · obtain ⟨hc4, hw6, hpic, hcas, hwoo⟩ := hRP
    have k38 := ho_38 (x1 := nI tr) (x2 := nI c) (x3 := nI w) (x4 := nI tr) (x5 := nI c) (x6 := nI w) (x7 := pic) (x8 := nI n) (x9 := -9) (x10 := macts) (me := mme) (ki := mki) (of := of) (rk := rk) (ik := ik) (now := mn) 18 0 200 (by omega) (by omega)
    rw [fb_put_0, show nI 0 = 0 from rfl] at k38
    obtain ⟨me2, now2, k70, h70, h70q⟩ := ho_70 (x1 := nI tr) (x3 := nI w) (x4 := nI tr) (x5 := nI c) (x6 := nI w) (x7 := pic) (x8 := nI n) (x9 := -9) (x10 := macts) (ki := mki) (of := of) (rk := rk) (ik := ik) hc4 c 0 200 mme (fb_put mn nwF 0 18) (by omega) (by omega) (fun k hk => by omega)
    obtain ⟨ki2, k134, h134⟩ := ho_134 (x1 := nI tr) (x2 := nI c) (x4 := nI tr) (x5 := nI c) (x6 := nI w) (x7 := pic) (x8 := nI n) (x9 := -9) (x10 := macts) (me := me2) (now := now2) (of := of) (rk := rk) (ik := ik) hw6 w 0 200 mki (by omega) (by omega) (fun k hk => by omega)
    rw [show nI 0 = 0 from rfl] at k70 k134
    have ecopy : f_X1_copyFrom truth caskets wooers metals kinds (nI tr) (nI c) (nI w) me ki = some (nI tr, nI c, nI w, fb_put metals me 0 4, fb_put kinds ki 0 6) := by
      unfold f_X1_copyFrom
      rw [copyRow_e (by omega), Option.bind_some, copyRow_e (by omega), Option.bind_some]
    have ecopy2 : f_X4_copyFrom picture sung tried wed lines picked pic 0 0 0 li a13 = some (pic, 0, 0, 0, fb_put lines li 0 4, fb_put picked a13 0 6) := by
      unfold f_X4_copyFrom
      rw [copyRow_e (by omega), Option.bind_some, copyRow_e (by omega), Option.bind_some, if_pos (Or.inl rfl)]
    have e160 : f_X6_house_160 (nI tr) (nI c) (nI w) (nI tr) (nI c) (nI w) pic (nI n) (-9) macts me2 ki2 now2 of rk ik = some ((10 * nI c) + nI w, nI tr, nI c, nI w, nI tr, nI c, nI w, pic, nI n, -9, 0, me2, ki2, upd now2 8 pic, of, rk, upd (upd ik 0 0) 1 0) := rfl
    rw [e1, e2, Option.bind_some, Option.bind_some]
    dsimp only
    rw [if_pos rfl, if_pos rfl, ecopy, Option.bind_some]
    dsimp only
    rw [ecopy2, Option.bind_some, k38, k70, k134, e160]
    dsimp only
    refine ⟨_, _, _, _, _, _, _, _, _, _, _, _, _, _, _, _, _, _, _, _, _, _, _, _, _, _, _, _, _, _, _, _, _, _, _, _, _, _, _, _, _, _, _, rfl, rfl, c, w, tr, fun i => (me i).toNatClampNeg, fun i => (ki i).toNatClampNeg, ((fun i => (li i).toNatClampNeg), pic, 0, 0, 0, fun _ => -9), ?_, ?_, ?_, ?_, hTx, ?_, ?_, ?_, hsd⟩
    · refine ⟨hc4, hw6, htr, rfl, rfl, rfl, rfl, rfl, rfl, fun i hi => ?_, fun i hi => ?_⟩
      · obtain ⟨m, l, b1, b2, b3, b4, b5, b6, b7⟩ := hcas i hi
        have em : (me i).toNatClampNeg = m := by rw [b3, nI_clamp (by omega)]
        dsimp only
        rw [em, fb_put_in (by omega) (by omega), Nat.sub_zero, (h70 i hi).1]
        exact ⟨b1, b3, b5⟩
      · obtain ⟨k, b1, b2, b3⟩ := hwoo i hi
        have em : (ki i).toNatClampNeg = k := by rw [b2, nI_clamp (by omega)]
        dsimp only
        rw [em, fb_put_in (by omega) (by omega), Nat.sub_zero, h134 i hi]
        exact ⟨b1, b2, b3⟩
    · refine ⟨fun i hi => ?_, hpic, Nat.two_pow_pos c, by show 0 ≤ w; omega, Or.inl rfl, Or.inr rfl⟩
      obtain ⟨m, l, b1, b2, b3, b4, b5, b6, b7⟩ := hcas i hi
      show (li i).toNatClampNeg < 24
      rw [b4, nI_clamp (by omega)]
      exact b2
    · refine ⟨fun i hi => ?_, rfl, rfl, rfl, rfl, fun i hi => ?_⟩
      · obtain ⟨m, l, b1, b2, b3, b4, b5, b6, b7⟩ := hcas i hi
        show fb_put lines li 0 4 i = nI (li i).toNatClampNeg
        rw [fb_put_in (by omega) (by omega), Nat.sub_zero, b4, nI_clamp (by omega)]
      · exact absurd hi (Nat.not_lt_zero i)
    · have hput : ∀ q, 8 ≤ q → q < 18 → now2 q = nwF q := by
        intro q h1 h2
        rw [h70q q h1, fb_put_in (by omega) (by omega), Nat.sub_zero]
      refine ⟨fun i hi => ?_, upd_s _ _ _, ?_, ?_, ?_, fun i hi => ?_⟩
      · obtain ⟨m, l, b1, b2, b3, b4, b5, b6, b7⟩ := hcas i hi
        obtain ⟨u1, u2, u3⟩ := h70 i hi
        have em : (li i).toNatClampNeg = l := by rw [b4, nI_clamp (by omega)]
        show upd now2 8 pic (0 + i) = nI ((li i).toNatClampNeg / 4) ∧ upd now2 8 pic (0 + 4 + i) = nI ((li i).toNatClampNeg % 4)
        rw [em, upd_n (by omega), upd_n (by omega), Nat.zero_add, Nat.zero_add, u2, u3]
        exact ⟨b6, b7⟩
      · rw [upd_n (by omega), hput _ (by omega) (by omega)]; rfl
      · rw [upd_n (by omega), hput _ (by omega) (by omega)]; rfl
      · rw [upd_n (by omega), hput _ (by omega) (by omega)]; rfl
      · rw [upd_n (by omega), hput _ (by omega) (by omega), if_neg (Nat.not_lt_zero i)]
        exact if_neg (by omega)
    · refine hU.none ⟨fun i hi => ?_, hpic, Nat.two_pow_pos c, by show 0 ≤ w; omega, Or.inl rfl, Or.inr rfl⟩
      obtain ⟨m, l, b1, b2, b3, b4, b5, b6, b7⟩ := hcas i hi
      show (li i).toNatClampNeg < 24
      rw [b4, nI_clamp (by omega)]
      exact b2
    · exact ⟨by rw [upd_n (by omega), upd_s], Or.inl rfl, Or.inl rfl⟩
    · exact ⟨by rw [upd_s], Or.inl rfl, Or.inl rfl⟩
