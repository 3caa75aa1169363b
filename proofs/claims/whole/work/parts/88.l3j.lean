/-! pure: the search for mendings, the reference's side -/
theorem lr_one {c w tr kd : Nat} {mt : Nat → Nat} {g : Sg} {mme : Nat → Int32} {my : Int32} (hc : c ≤ 4) (htr : tr ≤ 4 ∨ tr = 9) (hs : g.2.2.1 < 16) (hk : kd < 16) (ho : okS c w g) (hm : ∀ i, i < c → mt i < 4 ∧ mme i = nI (mt i)) : ∀ (d i n : Nat) (mn : Nat → Int32), i + d = 24 * c → d < n → mS c g mn 0 →
    ∃ mn', mS c g mn' 0 ∧ f_X6_layRiddle_26 (nI tr) (nI c) my mme (nI kd) n mn (nI i) = (match fnd (mdP c tr g.1 (rsP c mt g.2.2.1 g.2.1 kd)) i d with
      | some m => some (tdI m, my, mn')
      | none => f_X6_layRiddle_72 (nI tr) (nI c) my mme mn' (nI kd)) := by
  have e24 : (24 : Int32) * nI c = nI (24 * c) := pk_mul 24 c
  intro d
  induction d with
  | zero =>
    intro i n mn hi hn h0
    obtain ⟨n, rfl⟩ : ∃ k, n = k + 1 := ⟨n - 1, by omega⟩
    refine ⟨mn, h0, ?_⟩
    rw [q_X6_layRiddle_26]
    unfold f_X6_layRiddle_26_b
    rw [e24, if_pos (nI_le (by omega) (by omega))]
    rfl
  | succ d ih =>
    intro i n mn hi hn h0
    obtain ⟨n, rfl⟩ : ∃ k, n = k + 1 := ⟨n - 1, by omega⟩
    obtain ⟨v1, v3⟩ := dv24 i (by omega)
    obtain ⟨t18, t00⟩ := h0.trial hc
    have hj : i / 24 < c := by omega
    have hl : i % 24 < 24 := Nat.mod_lt _ (by omega)
    have u18 := t18.lay (l := i % 24) hc hj
    have u00 := t00.lay0 (x := nI (i % 24 / 4)) (y := nI (i % 24 % 4)) hc hj
    have hr := isRid_e (mme := mme) hc htr hs hk (ho.setL (j := i / 24) hl) u18 u00.2.1 u00.2.2.1 hm
    have hx : f_X6_layRiddle_26 (nI tr) (nI c) my mme (nI kd) (n + 1) mn (nI i) = if bI (mdP c tr g.1 (rsP c mt g.2.2.1 g.2.1 kd) i) = 0 then f_X6_layRiddle_26 (nI tr) (nI c) my mme (nI kd) n (upd (upd (fb_put mn mn 18 18) (18 + i / 24) (nI (i % 24 / 4))) (22 + i / 24) (nI (i % 24 % 4))) (nI (i + 1)) else some (tdI i, my, upd (upd (fb_put mn mn 18 18) (18 + i / 24) (nI (i % 24 / 4))) (22 + i / 24) (nI (i % 24 % 4))) := by
      rw [q_X6_layRiddle_26]
      unfold f_X6_layRiddle_26_b
      rw [e24, if_neg (nI_ge (by omega) (by omega)), layTrial_e, Option.bind_some, v3, v1, layLine_e (by omega) hl, Option.bind_some, hr, Option.bind_some, told_e i (by omega), Option.bind_some, nI_1]
      rfl
    simp only [fnd]
    by_cases z : mdP c tr g.1 (rsP c mt g.2.2.1 g.2.1 kd) i = true
    · refine ⟨_, u00, ?_⟩
      rw [hx, if_pos z, if_neg (by rw [bI_0, z]; exact fun q => by cases q)]
    · obtain ⟨mn', h1, h2⟩ := ih (i + 1) n _ (by omega) (by omega) u00
      refine ⟨mn', h1, ?_⟩
      rw [hx, if_neg z, if_pos (by rw [bI_0]; simpa using z), h2]
theorem lr_in {c w tr kd a : Nat} {mt : Nat → Nat} {g : Sg} {mme : Nat → Int32} {my : Int32} {k79 : (Nat → Int32) × Int32 → Option (Int32 × Int32 × (Nat → Int32))} (hc : c ≤ 4) (htr : tr ≤ 4 ∨ tr = 9) (hs : g.2.2.1 < 16) (hk : kd < 16) (ha : a < 24 * c) (ho : okS c w g) (hm : ∀ i, i < c → mt i < 4 ∧ mme i = nI (mt i)) : ∀ (d i n : Nat) (mn : Nat → Int32), i + d = 24 * c → d < n → mS c g mn 0 →
    ∃ mn', mS c g mn' 0 ∧ f_X6_layRiddle_100 (nI tr) (nI c) my mme (nI kd) (nI a) k79 n mn (nI i) = (match fnd (mdP c tr (setN g.1 (a / 24) (a % 24)) (rsP c mt g.2.2.1 g.2.1 kd)) i d with
      | some m => some (td2 a m, my, mn')
      | none => k79 (mn', nI (a + 1))) := by
  have e24 : (24 : Int32) * nI c = nI (24 * c) := pk_mul 24 c
  obtain ⟨w1, w3⟩ := dv24 a (by omega)
  have hja : a / 24 < c := by omega
  have hla : a % 24 < 24 := Nat.mod_lt _ (by omega)
  intro d
  induction d with
  | zero =>
    intro i n mn hi hn h0
    obtain ⟨n, rfl⟩ : ∃ k, n = k + 1 := ⟨n - 1, by omega⟩
    refine ⟨mn, h0, ?_⟩
    rw [q_X6_layRiddle_100]
    unfold f_X6_layRiddle_100_b
    rw [e24, if_pos (nI_le (by omega) (by omega)), nI_1]
    rfl
  | succ d ih =>
    intro i n mn hi hn h0
    obtain ⟨n, rfl⟩ : ∃ k, n = k + 1 := ⟨n - 1, by omega⟩
    obtain ⟨v1, v3⟩ := dv24 i (by omega)
    obtain ⟨t18, t00⟩ := h0.trial hc
    have hj : i / 24 < c := by omega
    have hl : i % 24 < 24 := Nat.mod_lt _ (by omega)
    have u18 := (t18.lay (l := a % 24) hc hja).lay (l := i % 24) hc hj
    have u00 := (t00.lay0 (x := nI (a % 24 / 4)) (y := nI (a % 24 % 4)) hc hja).lay0 (x := nI (i % 24 / 4)) (y := nI (i % 24 % 4)) hc hj
    have hr := isRid_e (mme := mme) hc htr hs hk ((ho.setL (j := a / 24) hla).setL (j := i / 24) hl) u18 u00.2.1 u00.2.2.1 hm
    have hx : f_X6_layRiddle_100 (nI tr) (nI c) my mme (nI kd) (nI a) k79 (n + 1) mn (nI i) = if bI (mdP c tr (setN g.1 (a / 24) (a % 24)) (rsP c mt g.2.2.1 g.2.1 kd) i) = 0 then f_X6_layRiddle_100 (nI tr) (nI c) my mme (nI kd) (nI a) k79 n (upd (upd (upd (upd (fb_put mn mn 18 18) (18 + a / 24) (nI (a % 24 / 4))) (22 + a / 24) (nI (a % 24 % 4))) (18 + i / 24) (nI (i % 24 / 4))) (22 + i / 24) (nI (i % 24 % 4))) (nI (i + 1)) else some (td2 a i, my, upd (upd (upd (upd (fb_put mn mn 18 18) (18 + a / 24) (nI (a % 24 / 4))) (22 + a / 24) (nI (a % 24 % 4))) (18 + i / 24) (nI (i % 24 / 4))) (22 + i / 24) (nI (i % 24 % 4))) := by
      rw [q_X6_layRiddle_100]
      unfold f_X6_layRiddle_100_b
      rw [e24, if_neg (nI_ge (by omega) (by omega)), layTrial_e, Option.bind_some, v3, v1, w3, w1, layLine_e (by omega) hla, Option.bind_some, layLine_e (by omega) hl, Option.bind_some, hr, Option.bind_some, told_e a (by omega), Option.bind_some, told_e i (by omega), Option.bind_some, nI_1]
      rfl
    simp only [fnd]
    by_cases z : mdP c tr (setN g.1 (a / 24) (a % 24)) (rsP c mt g.2.2.1 g.2.1 kd) i = true
    · refine ⟨_, u00, ?_⟩
      rw [hx, if_pos z, if_neg (by rw [bI_0, z]; exact fun q => by cases q)]
    · obtain ⟨mn', h1, h2⟩ := ih (i + 1) n _ (by omega) (by omega) u00
      refine ⟨mn', h1, ?_⟩
      rw [hx, if_neg z, if_pos (by rw [bI_0]; simpa using z), h2]
theorem lr_two {c w tr kd : Nat} {mt : Nat → Nat} {g : Sg} {mme : Nat → Int32} {my : Int32} (hc : c ≤ 4) (htr : tr ≤ 4 ∨ tr = 9) (hs : g.2.2.1 < 16) (hk : kd < 16) (ho : okS c w g) (hm : ∀ i, i < c → mt i < 4 ∧ mme i = nI (mt i)) : ∀ (d i n : Nat) (mn : Nat → Int32), i + d = 24 * c → d < n → mS c g mn 0 →
    ∃ mn', mS c g mn' 0 ∧ f_X6_layRiddle_79 (nI tr) (nI c) my mme (nI kd) n mn (nI i) = (match fn2 (sec c tr g.1 (rsP c mt g.2.2.1 g.2.1 kd)) i d with
      | some (m, e) => some (td2 m e, my, mn')
      | none => some (-9, -9, mn')) := by
  have e24 : (24 : Int32) * nI c = nI (24 * c) := pk_mul 24 c
  intro d
  induction d with
  | zero =>
    intro i n mn hi hn h0
    obtain ⟨n, rfl⟩ : ∃ k, n = k + 1 := ⟨n - 1, by omega⟩
    refine ⟨mn, h0, ?_⟩
    rw [q_X6_layRiddle_79]
    unfold f_X6_layRiddle_79_b f_X6_layRiddle_173
    rw [e24, if_pos (nI_le (by omega) (by omega))]
    rfl
  | succ d ih =>
    intro i n mn hi hn h0
    obtain ⟨n, rfl⟩ : ∃ k, n = k + 1 := ⟨n - 1, by omega⟩
    obtain ⟨v1, v3⟩ := dv24 i (by omega)
    have ei : (24 : Int32) * (nI (i / 24) + 1) = nI (24 * (i / 24 + 1)) := by
      rw [nI_1]
      exact pk_mul 24 _
    obtain ⟨mn1, h1, h2⟩ := lr_in (my := my) (mme := mme) (k79 := fun x => f_X6_layRiddle_79 (nI tr) (nI c) my mme (nI kd) n x.1 x.2) hc htr hs hk (show i < 24 * c by omega) ho hm (24 * c - 24 * (i / 24 + 1)) (24 * (i / 24 + 1)) 200 mn (by omega) (by omega) h0
    have hx : f_X6_layRiddle_79 (nI tr) (nI c) my mme (nI kd) (n + 1) mn (nI i) = f_X6_layRiddle_100 (nI tr) (nI c) my mme (nI kd) (nI i) (fun x => f_X6_layRiddle_79 (nI tr) (nI c) my mme (nI kd) n x.1 x.2) 200 mn (nI (24 * (i / 24 + 1))) := by
      rw [q_X6_layRiddle_79]
      unfold f_X6_layRiddle_79_b
      rw [e24, if_neg (nI_ge (by omega) (by omega)), v1, ei]
    rw [h2] at hx
    simp only [fn2]
    cases hf : sec c tr g.1 (rsP c mt g.2.2.1 g.2.1 kd) i with
    | some m =>
      refine ⟨mn1, h1, ?_⟩
      rw [hx]
      unfold sec at hf
      rw [hf]
    | none =>
      obtain ⟨mn', h3, h4⟩ := ih (i + 1) n mn1 (by omega) (by omega) h1
      refine ⟨mn', h3, ?_⟩
      rw [hx]
      unfold sec at hf
      rw [hf]
      exact h4
/-- what a riddle comes to: the row, and how many -/
def ridR (c tr : Nat) (g : Sg) (Q : Nat → Bool) : Int32 × Int32 := if Q (fitS c tr g.1 (2 ^ c - 1)) = true then (0, 0) else match fnd (mdP c tr g.1 Q) 0 (24 * c) with
  | some m => (tdI m, 1)
  | none => match fn2 (sec c tr g.1 Q) 0 (24 * c) with
    | some (m, e) => (td2 m e, 2)
    | none => (-9, -9)
theorem lr_e {c w tr kd : Nat} {mt : Nat → Nat} {g : Sg} {mme mn : Nat → Int32} {my : Int32} (hc : c ≤ 4) (htr : tr ≤ 4 ∨ tr = 9) (hs : g.2.2.1 < 16) (hk : kd < 16) (ho : okS c w g) (hm : ∀ i, i < c → mt i < 4 ∧ mme i = nI (mt i)) (h0 : mS c g mn 0) :
    ∃ mn', mS c g mn' 0 ∧ f_X6_layRiddle (nI tr) (nI c) my mme mn (nI kd) = some ((ridR c tr g (rsP c mt g.2.2.1 g.2.1 kd)).1, (ridR c tr g (rsP c mt g.2.2.1 g.2.1 kd)).2, mn') := by
  obtain ⟨t18, t00⟩ := h0.trial hc
  have hr := isRid_e (mme := mme) hc htr hs hk ho t18 t00.2.1 t00.2.2.1 hm
  obtain ⟨m1, a1, a2⟩ := lr_one (my := 1) (mme := mme) hc htr hs hk ho hm (24 * c) 0 200 (fb_put mn mn 18 18) (by omega) (by omega) t00
  obtain ⟨m2, b1, b2⟩ := lr_two (my := 2) (mme := mme) hc htr hs hk ho hm (24 * c) 0 200 m1 (by omega) (by omega) a1
  rw [show nI 0 = 0 from rfl] at a2 b2
  unfold f_X6_layRiddle ridR
  rw [layTrial_e, Option.bind_some, hr, Option.bind_some]
  by_cases z : rsP c mt g.2.2.1 g.2.1 kd (fitS c tr g.1 (2 ^ c - 1)) = true
  · rw [if_pos z, if_neg (by rw [bI_0, z]; exact fun q => by cases q)]
    exact ⟨_, t00, rfl⟩
  · rw [if_neg z, if_pos (by rw [bI_0]; simpa using z), a2]
    cases hf : fnd (mdP c tr g.1 (rsP c mt g.2.2.1 g.2.1 kd)) 0 (24 * c) with
    | some m => exact ⟨m1, a1, rfl⟩
    | none =>
      unfold f_X6_layRiddle_72
      simp only
      rw [b2]
      cases hf2 : fn2 (sec c tr g.1 (rsP c mt g.2.2.1 g.2.1 kd)) 0 (24 * c) with
      | some m => exact ⟨m2, b1, rfl⟩
      | none => exact ⟨m2, b1, rfl⟩
theorem td2_no {n e : Nat} (hn : n < 96) (he : e < 96) : ¬ td2 n e = -9 := by
  unfold td2 tdI
  have e1 : (1000 : Int32) * nI (100 * (n / 24) + 10 * (n % 24 / 4) + n % 4) = nI (1000 * (100 * (n / 24) + 10 * (n % 24 / 4) + n % 4)) := pk_mul 1000 _
  rw [e1, nI_add]
  intro h
  have h2 := congrArg Int32.toInt h
  rw [nI_i (by omega)] at h2
  have h3 : (-9 : Int32).toInt = -9 := rfl
  rw [h3] at h2
  omega
theorem fn2_lt {F : Nat → Option Nat} : ∀ (d i m e : Nat), fn2 F i d = some (m, e) → i ≤ m ∧ m < i + d ∧ F m = some e
  | 0, i, m, e, h => by cases h
  | d + 1, i, m, e, h => by
    simp only [fn2] at h
    cases hf : F i with
    | some x =>
      rw [hf] at h
      cases h
      exact ⟨by omega, by omega, hf⟩
    | none =>
      rw [hf] at h
      have := fn2_lt d (i + 1) m e h
      exact ⟨by omega, by omega, this.2.2⟩
theorem op_riddle {c w tr : Nat} {mt kd : Nat → Nat} {g : Sg} {truth caskets wooers mtr mca mwo picture sung tried wed my : Int32} {metals kinds mme mki lines picked mn : Nat → Int32} (hH : RHs c w tr mt kd truth caskets wooers metals kinds mtr mca mwo mme mki) (ho : okS c w g) (hc : cS c g lines picture sung tried wed picked) (hm : mS c g mn 0) (p q : Int32) :
    ∃ (r my' : Int32) (mn' : Nat → Int32), f_X5_riddle truth caskets metals picture sung lines p q = some r ∧ f_X6_riddle mtr mca my mme mn p q = some (r, my', mn') ∧ mS c g mn' 0 := by
  obtain ⟨hc4, hw6, htr, rfl, rfl, rfl, rfl, rfl, rfl, hmt, hkd⟩ := hH
  have hmtc : ∀ i, i < c → mt i < 4 ∧ metals i = nI (mt i) := fun i hi => ⟨(hmt i hi).1, (hmt i hi).2.1⟩
  have hmtm : ∀ i, i < c → mt i < 4 ∧ mme i = nI (mt i) := fun i hi => ⟨(hmt i hi).1, (hmt i hi).2.2⟩
  have h16 := p2_lt hc4
  have hsg : g.2.2.1 < 16 := by have := ho.2.2.1; omega
  unfold f_X5_riddle f_X6_riddle
  have i15 : (15 : Int64) = lN 15 := rfl
  have n8 : mn (Int32.toNatClampNeg 8) = g.2.1 := hm.2.1
  rw [i15]
  rcases pk_ix p (n := 16) (by omega) with h | h | ⟨k, hk, rfl⟩
  · rw [if_pos h, in_no (m := 15) (by omega) (Or.inl h), Option.bind_some, if_pos rfl]
    exact ⟨-2, _, mn, rfl, rfl, hm⟩
  · have hn : ¬ p < 16 := by
      have h' : (16 : Int32) ≤ p := h
      rw [fa_lt]
      rw [fa_le] at h'
      omega
    rw [in_no (m := 15) (by omega) (Or.inr h), Option.bind_some, if_pos rfl, if_neg hn]
    by_cases y : p < 0
    · rw [if_pos y]; exact ⟨-2, _, mn, rfl, rfl, hm⟩
    · rw [if_neg y]; exact ⟨-2, _, mn, rfl, rfl, hm⟩
  · rw [in_yes (m := 15) (by omega) (by omega), Option.bind_some, if_neg (show ¬ (1 : Int32) = 0 by decide), if_neg (nI_pos (by omega)), if_pos (show nI k < 16 from nI_lt (b := 16) (by omega) (by omega)), n8, hc.2.1]
    by_cases hp : g.2.1 = -9
    · rw [if_pos hp, if_pos hp]
      exact ⟨-9, _, mn, rfl, rfl, hm⟩
    · obtain ⟨mn', e1, e2⟩ := lr_e (my := my) (mme := mme) hc4 htr hsg hk ho hmtm hm
      rw [if_neg hp, if_neg hp, e2, Option.bind_some, hc.2.2.1, solv_e hc4 hsg hk hmtc, Option.bind_some, fit_e hc4 htr (ho.cln hc), Option.bind_some, solv_b (fit16 hc4 tr g.1 (2 ^ c - 1)), lm_one hc4 htr (ho.cln hc), lt_e hc4 htr (ho.cln hc)]
      have hlt := bitsF_lt (rsP c mt g.2.2.1 g.2.1 k) 16
      have key : (if nI (bitsF (rsP c mt g.2.2.1 g.2.1 k) 16) = 0 then some (-9) else if bI (rsP c mt g.2.2.1 g.2.1 k (fitS c tr g.1 (2 ^ c - 1))) = 1 then some 0 else ((ofN (fnd (mdP c tr g.1 (rsP c mt g.2.2.1 g.2.1 k)) 0 (24 * c))).bind fun r10 => (if r10 = (-9) then ((ofN2 (fn2 (sec c tr g.1 (rsP c mt g.2.2.1 g.2.1 k)) 0 (24 * c))).bind fun r13 => (if r13 = (-9) then some (-9) else (if q = 0 then some 2 else some r13))) else (if q = 0 then some 1 else some r10)))) = some (if q = 0 then (ridR c tr g (rsP c mt g.2.2.1 g.2.1 k)).2 else (ridR c tr g (rsP c mt g.2.2.1 g.2.1 k)).1) := by
        unfold ridR
        by_cases zS : bitsF (rsP c mt g.2.2.1 g.2.1 k) 16 = 0
        · have hall : ∀ f, f < 16 → rsP c mt g.2.2.1 g.2.1 k f = false := by
            intro f hf
            have := bitsF_t (rsP c mt g.2.2.1 g.2.1 k) 16 f
            rw [zS, Nat.zero_testBit] at this
            simpa [hf] using this.symm
          have hmd : ∀ ln m, mdP c tr ln (rsP c mt g.2.2.1 g.2.1 k) m = false := fun ln m => hall _ (fit16 hc4 _ _ _)
          have hz : ¬ rsP c mt g.2.2.1 g.2.1 k (fitS c tr g.1 (2 ^ c - 1)) = true := by rw [hall _ (fit16 hc4 _ _ _)]; exact Bool.false_ne_true
          rw [zS, if_pos (show nI 0 = 0 from rfl), if_neg hz, fnd_no (hmd g.1) (24 * c) 0, fn2_no (F := sec c tr g.1 (rsP c mt g.2.2.1 g.2.1 k)) (fun n => fnd_no (hmd _) _ _) (24 * c) 0]
          by_cases y : q = 0 <;> simp [y]
        · rw [if_neg (nI_ne0 (by omega) (by omega))]
          by_cases z : rsP c mt g.2.2.1 g.2.1 k (fitS c tr g.1 (2 ^ c - 1)) = true
          · rw [if_pos ((bI_1 _).mpr z), if_pos z]
            by_cases y : q = 0 <;> simp [y]
          · rw [if_neg (fun qq => z ((bI_1 _).mp qq)), if_neg z]
            cases hf : fnd (mdP c tr g.1 (rsP c mt g.2.2.1 g.2.1 k)) 0 (24 * c) with
            | some m =>
              have := fnd_lt _ _ _ hf
              unfold ofN
              rw [Option.bind_some, if_neg (tdI_no m (by omega))]
              by_cases y : q = 0 <;> simp [y]
            | none =>
              unfold ofN
              rw [Option.bind_some, if_pos rfl]
              cases hf2 : fn2 (sec c tr g.1 (rsP c mt g.2.2.1 g.2.1 k)) 0 (24 * c) with
              | some me =>
                obtain ⟨m, e⟩ := me
                obtain ⟨g1, g2, g3⟩ := fn2_lt _ _ _ _ hf2
                unfold sec at g3
                have g4 := fnd_lt _ _ _ g3
                unfold ofN2
                simp only [Option.bind_some]
                rw [if_neg (td2_no (by omega) (by omega))]
                by_cases y : q = 0 <;> simp [y]
              | none =>
                unfold ofN2
                simp only [Option.bind_some]
                by_cases y : q = 0 <;> simp [y]
      rw [key]
      by_cases y : q = 0
      · rw [if_pos y, if_pos y]; exact ⟨_, _, mn', rfl, rfl, e1⟩
      · rw [if_neg y, if_neg y]; exact ⟨_, _, mn', rfl, rfl, e1⟩
