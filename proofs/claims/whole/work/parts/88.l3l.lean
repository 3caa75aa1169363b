/-! pure: the text read, part by part -/
def RP (c w : Nat) (pic : Int32) (me li of ki rk : Nat → Int32) : Prop := c ≤ 4 ∧ w ≤ 6 ∧ (pic = -9 ∨ ∃ j, j < c ∧ pic = nI j) ∧ (∀ i, i < c → ∃ m l, m < 4 ∧ l < 24 ∧ me i = nI m ∧ li i = nI l ∧ of (3 * i) = nI m ∧ of (3 * i + 1) = nI (l / 4) ∧ of (3 * i + 2) = nI (l % 4)) ∧ ∀ i, i < w → ∃ k, k < 4 ∧ ki i = nI k ∧ rk i = nI k
theorem RP.cas {c w y1 y2 y3 : Nat} {pic v1 : Int32} {me li of ki rk : Nat → Int32} (h : RP c w pic me li of ki rk) (hc : c < 4) (h1 : y1 < 4) (h2 : y2 < 6) (h3 : y3 < 4) : RP (c + 1) w (if v1 = 68 then nI c else pic) (upd me c (nI y1)) (upd li c ((4 * nI y2) + nI y3)) (upd (upd (upd of (3 * c) (nI y1)) (3 * c + 1) (nI y2)) (3 * c + 2) (nI y3)) ki rk := by
  obtain ⟨a1, a2, a3, a4, a5⟩ := h
  refine ⟨by omega, a2, ?_, fun i hi => ?_, a5⟩
  · by_cases z : v1 = 68
    · rw [if_pos z]; exact Or.inr ⟨c, by omega, rfl⟩
    · rw [if_neg z]
      rcases a3 with a3 | ⟨j, j1, j2⟩
      · exact Or.inl a3
      · exact Or.inr ⟨j, by omega, j2⟩
  · by_cases z : i = c
    · subst z
      refine ⟨y1, 4 * y2 + y3, h1, by omega, upd_s _ _ _, ?_, ?_, ?_, ?_⟩
      · rw [upd_s]; exact (lin_c y2 h2 y3 h3).1
      · rw [upd_n (by omega), upd_n (by omega), upd_s]
      · rw [upd_n (by omega), upd_s]
        congr 1
        omega
      · rw [upd_s]
        congr 1
        omega
    · obtain ⟨m, l, b1, b2, b3, b4, b5, b6, b7⟩ := a4 i (by omega)
      refine ⟨m, l, b1, b2, ?_, ?_, ?_, ?_, ?_⟩
      · rw [upd_n z]; exact b3
      · rw [upd_n z]; exact b4
      · rw [upd_n (by omega), upd_n (by omega), upd_n (by omega)]; exact b5
      · rw [upd_n (by omega), upd_n (by omega), upd_n (by omega)]; exact b6
      · rw [upd_n (by omega), upd_n (by omega), upd_n (by omega)]; exact b7
theorem RP.woo {c w y1 : Nat} {pic : Int32} {me li of ki rk : Nat → Int32} (h : RP c w pic me li of ki rk) (hw : w < 6) (h1 : y1 < 4) : RP c (w + 1) pic me li of (upd ki w (nI y1)) (upd rk w (nI y1)) := by
  obtain ⟨a1, a2, a3, a4, a5⟩ := h
  refine ⟨a1, by omega, a3, a4, fun i hi => ?_⟩
  by_cases z : i = w
  · subst z
    exact ⟨y1, h1, upd_s _ _ _, upd_s _ _ _⟩
  · rw [upd_n z, upd_n z]
    exact a5 i (by omega)
theorem parse_loop {N : Nat} {L T : Nat → Int32} (hN : N ≤ 40) (hT : ∀ i, i < N → T i = L i) (rt : Int32) : ∀ (rem a c w : Nat) (pic so tr : Int32) (me li of ki rk : Nat → Int32) (fC fM : Nat), a ≤ N → N - a ≤ rem → rem < fC → rem + 1 < fM → RP c w pic me li of ki rk →
    (∃ q, q ≤ 40 ∧ CF (nI q) (FF L N fC 2 so tr (nI c) (nI w) me ki pic li (nI a)) ∧ MF (nI q) rt (f_X6_readText_63 rt (nI N) T fM (nI c) (nI w) pic (nI a) (-9) of rk)) ∨
    (∃ (c' w' : Nat) (pic' so' : Int32) (me' li' of' ki' rk' : Nat → Int32), FF L N fC 2 so tr (nI c) (nI w) me ki pic li (nI a) = some (-9, 2, so', tr, nI c', nI w', me', ki', pic', 0, 0, 0, li') ∧ f_X6_readText_63 rt (nI N) T fM (nI c) (nI w) pic (nI a) (-9) of rk = some (-9, rt, nI c', nI w', pic', nI N, -9, of', rk') ∧ RP c' w' pic' me' li' of' ki' rk') := by
  intro rem
  induction rem using Nat.strongRecOn with
  | ind rem ih =>
    intro a c w pic so tr me li of ki rk fC fM ha hrem hC hM hR
    obtain ⟨fC, rfl⟩ : ∃ k, fC = k + 1 := ⟨fC - 1, by omega⟩
    obtain ⟨fM, rfl⟩ : ∃ k, fM = k + 1 := ⟨fM - 1, by omega⟩
    by_cases z : a = N
    · subst z
      right
      refine ⟨c, w, pic, so, me, li, of, ki, rk, ?_, ?_, hR⟩
      · rw [ff_end hN, if_pos rfl]
      · exact mt_end hN
    · have hlt : a < N := by omega
      obtain ⟨fM, rfl⟩ : ∃ k, fM = k + 1 := ⟨fM - 1, by omega⟩
      obtain ⟨fC, rfl⟩ : ∃ k, fC = k + 1 := ⟨fC - 1, by omega⟩
      by_cases hcas : c < 4 ∧ (L a = 67 ∨ (L a = 68 ∧ pic = -9))
      · obtain ⟨hc, hv⟩ := hcas
        have hv' : T a = 67 ∨ (T a = 68 ∧ pic = -9) := by rw [hT a hlt]; exact hv
        have s0 : FF L N (fC + 1 + 1) 2 so tr (nI c) (nI w) me ki pic li (nI a) = FF L N (fC + 1) 3 so tr (nI c) (nI w) me ki (if L a = 68 then nI c else pic) li (nI (a + 1)) := by
          rw [ff_step hN hlt (tk2 (op_cas hc hv) (Or.inr rfl)), if_neg (show ¬ (1 : Int32) = 0 by decide)]
        rw [s0]
        rcases figG (m := 4) (al := 15) (by omega) has15 hN hT (show a + 1 ≤ N by omega) with ⟨y1, p1, p2, p3, p4, p5⟩ | ⟨p1, p2⟩
        · obtain ⟨fC, rfl⟩ : ∃ k, fC = k + 1 := ⟨fC - 1, by omega⟩
          have s1 : FF L N (fC + 1 + 1) 3 so tr (nI c) (nI w) me ki (if L a = 68 then nI c else pic) li (nI (a + 1)) = FF L N (fC + 1) 4 so tr (nI c) (nI w) (upd me c (nI y1)) ki (if L a = 68 then nI c else pic) li (nI (a + 1 + 1)) := by
            rw [ff_step hN p2 (tk3 hc p5 (Or.inr rfl)), if_neg (show ¬ (1 : Int32) = 0 by decide), p3]
          rw [s1]
          rcases figG (m := 6) (al := 63) (by omega) has63 hN hT (show a + 1 + 1 ≤ N by omega) with ⟨y2, q1, q2, q3, q4, q5⟩ | ⟨q1, q2⟩
          · obtain ⟨fC, rfl⟩ : ∃ k, fC = k + 1 := ⟨fC - 1, by omega⟩
            have s2 : FF L N (fC + 1 + 1) 4 so tr (nI c) (nI w) (upd me c (nI y1)) ki (if L a = 68 then nI c else pic) li (nI (a + 1 + 1)) = FF L N (fC + 1) 5 (nI y2) tr (nI c) (nI w) (upd me c (nI y1)) ki (if L a = 68 then nI c else pic) li (nI (a + 1 + 1 + 1)) := by
              rw [ff_step hN q2 (tk4 q5 (Or.inr rfl)), if_neg (show ¬ (1 : Int32) = 0 by decide), q3]
            rw [s2]
            rcases figG (m := 4) (al := 15) (by omega) has15 hN hT (show a + 1 + 1 + 1 ≤ N by omega) with ⟨y3, r1, r2, r3, r4, r5⟩ | ⟨r1, r2⟩
            · have s3 : FF L N (fC + 1) 5 (nI y2) tr (nI c) (nI w) (upd me c (nI y1)) ki (if L a = 68 then nI c else pic) li (nI (a + 1 + 1 + 1)) = FF L N fC 2 (nI y2) tr (nI (c + 1)) (nI w) (upd me c (nI y1)) ki (if L a = 68 then nI c else pic) (upd li c ((4 * nI y2) + nI y3)) (nI (a + 1 + 1 + 1 + 1)) := by
                rw [ff_step hN r2 (tk5 hc r5 (Or.inr rfl)), if_neg (show ¬ (1 : Int32) = 0 by decide), r3]
              have hR' := hR.cas (v1 := L a) hc p1 q1 r1
              rw [s3, mt_step hN hlt (rp_cas hc hv' p4 q4 r4), hT a hlt]
              exact ih (N - (a + 1 + 1 + 1 + 1)) (by omega) (a + 1 + 1 + 1 + 1) (c + 1) w _ _ _ _ _ _ _ _ fC (fM + 1) (by omega) (by omega) (by omega) (by omega) hR'
            · left
              refine ⟨a + 1 + 1 + 1, by omega, cf5 hN hc r2, ?_⟩
              rw [mt_step hN hlt (rp_cas hc hv' p4 q4 r1)]
              exact mf_fault (by omega)
          · left
            refine ⟨a + 1 + 1, by omega, cf4 hN q2, ?_⟩
            rw [mt_step hN hlt (rp_cas hc hv' p4 q1 (figF (m := 0) (by omega)))]
            exact mf_fault (by omega)
        · left
          refine ⟨a + 1, by omega, cf3 hN hc p2, ?_⟩
          rw [mt_step hN hlt (rp_cas hc hv' p1 (figF (m := 0) (by omega)) (figF (m := 0) (by omega)))]
          exact mf_fault (by omega)
      · by_cases hwoo : L a = 87 ∧ w < 6
        · obtain ⟨hv, hw⟩ := hwoo
          have hv' : T a = 87 := by rw [hT a hlt]; exact hv
          have ho := op_woo (ca := nI c) (pic := pic) hw
          rw [← hv] at ho
          have s0 : FF L N (fC + 1 + 1) 2 so tr (nI c) (nI w) me ki pic li (nI a) = FF L N (fC + 1) 6 so tr (nI c) (nI w) me ki pic li (nI (a + 1)) := by
            rw [ff_step hN hlt (tk2 ho (Or.inr rfl)), if_neg (show ¬ (1 : Int32) = 0 by decide)]
          rw [s0]
          rcases figG (m := 4) (al := 15) (by omega) has15 hN hT (show a + 1 ≤ N by omega) with ⟨y1, p1, p2, p3, p4, p5⟩ | ⟨p1, p2⟩
          · have s1 : FF L N (fC + 1) 6 so tr (nI c) (nI w) me ki pic li (nI (a + 1)) = FF L N fC 2 so tr (nI c) (nI (w + 1)) me (upd ki w (nI y1)) pic li (nI (a + 1 + 1)) := by
              rw [ff_step hN p2 (tk6 hw p5 (Or.inr rfl)), if_neg (show ¬ (1 : Int32) = 0 by decide), p3]
            have hp := rp_woo (rc := nI c) (rp := pic) (of := of) (rk := rk) hw p4
            rw [← hv'] at hp
            rw [s1, mt_step hN hlt hp]
            exact ih (N - (a + 1 + 1)) (by omega) (a + 1 + 1) c (w + 1) _ _ _ _ _ _ _ _ fC (fM + 1) (by omega) (by omega) (by omega) (by omega) (hR.woo hw p1)
          · left
            have hp := rp_woo (rc := nI c) (rp := pic) (of := of) (rk := rk) hw p1
            rw [← hv'] at hp
            refine ⟨a + 1, by omega, cf6 hN hw p2, ?_⟩
            rw [mt_step hN hlt hp]
            exact mf_fault (by omega)
        · left
          obtain ⟨wn, ho⟩ := op_no hR.1 hR.2.1 hcas hwoo
          have hcas' : ¬ (c < 4 ∧ (T a = 67 ∨ (T a = 68 ∧ pic = -9))) := by rw [hT a hlt]; exact hcas
          have hwoo' : ¬ (T a = 87 ∧ w < 6) := by rw [hT a hlt]; exact hwoo
          refine ⟨a, by omega, ?_, ?_⟩
          · rw [ff_step hN hlt (tk2 ho (Or.inl rfl)), if_pos rfl]
            exact ⟨_, _, _, _, _, _, _, _, _, rfl⟩
          · rw [mt_step hN hlt (rp_no hR.1 hR.2.1 hcas' hwoo')]
            exact mf_fault (by omega)
