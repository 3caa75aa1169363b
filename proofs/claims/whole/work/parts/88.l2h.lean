/-! pure: wooer, count -/
theorem fitM {c w tr : Nat} {g : Sg} {mn : Nat → Int32} (hc4 : c ≤ 4) (htr : tr ≤ 4 ∨ tr = 9) (ho : okS c w g) (hm : mS c g mn 0) : f_X6_fitsOn (nI tr) (nI c) mn 0 (nI (2 ^ c - 1)) = some (nI (fitS c tr g.1 (2 ^ c - 1))) := fitsOn_e (lv := 0) hc4 (tr9 htr) (pow_sub_lt hc4) (by omega) (ho.mln hm)
theorem fit16 {c : Nat} (hc4 : c ≤ 4) (tr : Nat) (ln : Nat → Nat) (come : Nat) : fitS c tr ln come < 16 := Nat.lt_of_lt_of_le (fitS_lt tr ln come) (p2_lt hc4)
theorem op_wooer {c w tr : Nat} {mt kd : Nat → Nat} {g : Sg} {truth caskets wooers mtr mca mwo picture sung tried wed : Int32} {metals kinds mme mki lines picked mn : Nat → Int32} (hH : RHs c w tr mt kd truth caskets wooers metals kinds mtr mca mwo mme mki) (ho : okS c w g) (hc : cS c g lines picture sung tried wed picked) (hm : mS c g mn 0) (p q : Int32) :
    ∃ r, f_X5_wooer truth caskets wooers metals kinds sung tried lines picked p q = some r ∧ f_X6_wooer mtr mca mwo mme mki mn p q = some r := by
  obtain ⟨hc4, hw6, htr, rfl, rfl, rfl, rfl, rfl, rfl, hmt, hkd⟩ := hH
  unfold f_X5_wooer f_X6_wooer
  rcases pk_ix p (n := w) (by omega) with h | h | ⟨j, hj, rfl⟩
  · have z := isC_no (c := w) (by omega) (p := p) (Or.inl h)
    rw [z.2.2.1, z.2.2.2]
    exact ⟨-1, rfl, rfl⟩
  · have z := isC_no (c := w) (by omega) (p := p) (Or.inr h)
    rw [z.2.2.1, z.2.2.2]
    exact ⟨-1, rfl, rfl⟩
  · have z := isC_yes (c := w) (by omega) hj
    obtain ⟨k1, k2, k3⟩ := hkd j hj
    have h16 := p2_lt hc4
    have x12 : (12 : Int32) + nI j = nI (12 + j) := nI_add 12 j
    have n9 : mn (Int32.toNatClampNeg 9) = nI g.2.2.1 := hm.2.2.1
    have nj := hm.2.2.2.2.2 j (by omega)
    rw [Nat.zero_add] at nj
    have hsg := ho.2.2.1
    have pc := pick_c (metals := metals) hc4 k1 (fit16 hc4 tr g.1 (2 ^ c - 1)) (show g.2.2.1 < 16 by omega) (fun i hi => ⟨(hmt i hi).1, (hmt i hi).2.1⟩)
    have pm := pick_m (metals := mme) hc4 k1 (fit16 hc4 tr g.1 (2 ^ c - 1)) (show g.2.2.1 < 16 by omega) (fun i hi => ⟨(hmt i hi).1, (hmt i hi).2.2⟩)
    rw [z.2.2.1, z.2.2.2]
    simp only [Option.bind_some]
    rw [if_neg (show ¬ (1 : Int32) = 0 by decide), if_neg (show ¬ (1 : Int32) = 0 by decide), at_e (r := kinds) (show j < 6 by omega) (by omega), at_e (r := picked) (show j < 6 by omega) (by omega), nI_clamp (show j < 2 ^ 31 by omega), x12, nI_clamp (show 12 + j < 2 ^ 31 by omega), if_neg (gdf (show j < 6 by omega) (by omega)), if_neg (gdf (show j < 6 by omega) (by omega)), if_neg (gdf (show 12 + j < 36 by omega) (by omega)), k2, k3, fit_e hc4 htr (ho.cln hc), all_e c (by omega), n9, nj, hc.2.2.1, hc.2.2.2.1]
    simp only [Option.bind_some]
    rw [fitM hc4 htr ho hm, pc]
    simp only [Option.bind_some]
    rw [pm]
    simp only [Option.bind_some]
    by_cases q0 : q = 0
    · exact ⟨_, by rw [if_pos q0], by rw [if_pos q0]⟩
    by_cases q1 : q = 1
    · exact ⟨_, by rw [if_neg q0, if_pos q1], by rw [if_neg q0, if_pos q1]⟩
    have hdf : g.2.2.2.2.2 100 = -9 := by
      rcases ho.2.2.2.2.2 with h | h
      · omega
      · exact h
    by_cases q2 : q = 2
    · by_cases t : j < g.2.2.2.1
      · refine ⟨picked j, ?_, ?_⟩
        · rw [if_neg q0, if_neg q1, if_pos q2, if_neg (nI_ge t (by have := ho.2.2.2.1; omega))]
        · rw [if_neg q0, if_neg q1, if_pos q2, if_pos t, hc.2.2.2.2.2 j t]
      · refine ⟨-9, ?_, ?_⟩
        · rw [if_neg q0, if_neg q1, if_pos q2, if_pos (nI_le (by omega) (by omega))]
        · rw [if_neg q0, if_neg q1, if_pos q2, if_neg t, hdf]
    · exact ⟨_, by rw [if_neg q0, if_neg q1, if_neg q2], by rw [if_neg q0, if_neg q1, if_neg q2]⟩
theorem count_loop {c w tr : Nat} {g : Sg} {mn : Nat → Int32} (hc4 : c ≤ 4) (htr : tr ≤ 4 ∨ tr = 9) (ho : okS c w g) (hm : mS c g mn 0) {mwo mlen mac v1 : Int32} : ∀ (d i n : Nat), i + d = c → d < n →
    f_X6_count_4 (nI tr) (nI c) mwo mlen mac mn v1 n (nI (fb_sm (fun t => fb_ct (rd c tr g.1 (2 ^ c - 1) t) (2 ^ c)) i)) (nI i) = f_X6_count_31 (nI tr) (nI c) mwo mlen mac mn v1 (nI (fb_sm (fun t => fb_ct (rd c tr g.1 (2 ^ c - 1) t) (2 ^ c)) c)) := by
  intro d
  induction d with
  | zero =>
    intro i n hi hn
    obtain ⟨n, rfl⟩ : ∃ k, n = k + 1 := ⟨n - 1, by omega⟩
    rw [q_X6_count_4]
    unfold f_X6_count_4_b
    rw [if_pos (nI_le (by omega) (by omega)), show i = c by omega]
  | succ d ih =>
    intro i n hi hn
    obtain ⟨n, rfl⟩ : ∃ k, n = k + 1 := ⟨n - 1, by omega⟩
    have e := ih (i + 1) n (by omega) (by omega)
    rw [q_X6_count_4]
    unfold f_X6_count_4_b
    have hrd : f_X6_readings (nI tr) (nI c) mn 0 (nI i) (nI (2 ^ c - 1)) = some (nI (fb_ct (rd c tr g.1 (2 ^ c - 1) i) (2 ^ c))) := readings_e (lv := 0) hc4 (tr9 htr) (show i < 4 by omega) (pow_sub_lt hc4) (by omega) (ho.mln hm)
    rw [if_neg (nI_ge (by omega) (by omega)), all_e c (by omega)]
    simp only [Option.bind_some]
    rw [hrd]
    simp only [Option.bind_some]
    rw [nI_add, nI_1]
    rw [fb_sm_succ] at e
    exact e
theorem op_count {c w tr : Nat} {mt kd : Nat → Nat} {g : Sg} {truth caskets wooers mtr mca mwo picture sung tried wed len mlen size macts : Int32} {metals kinds mme mki lines picked mn let_ mtext : Nat → Int32} (hH : RHs c w tr mt kd truth caskets wooers metals kinds mtr mca mwo mme mki) (ho : okS c w g) (hc : cS c g lines picture sung tried wed picked) (hm : mS c g mn 0) (hT : RTxt len let_ mlen mtext) (hA : size = macts) (q : Int32) :
    ∃ r, f_X5_count len truth caskets wooers picture tried wed lines size q = some r ∧ f_X6_count mtr mca mwo mlen macts mn q = some r := by
  obtain ⟨hc4, hw6, htr, rfl, rfl, rfl, rfl, rfl, rfl, hmt, hkd⟩ := hH
  obtain ⟨n, hn, rfl, rfl, -⟩ := hT
  subst hA
  have e : f_X6_count (nI tr) (nI c) (nI w) (nI n) size mn q = f_X6_count_31 (nI tr) (nI c) (nI w) (nI n) size mn q (nI (fb_sm (fun t => fb_ct (rd c tr g.1 (2 ^ c - 1) t) (2 ^ c)) c)) := count_loop hc4 htr ho hm c 0 200 (by omega) (by omega)
  rw [e]
  unfold f_X5_count f_X6_count_31
  obtain ⟨W, hW, hIs⟩ := rdOf_e (come := 15) hc4 htr (by omega) (ho.cln hc)
  have hW' : f_X4_readings lines (nI tr) (nI c) = some W := by
    unfold f_X4_readings
    have : f_X5_readingsOf (nI tr) (nI c) 4 lines 15 = some W := hW
    rw [this]; rfl
  have hbc := bc_all hc4 hIs
  have hrdc : (fun t => fb_ct (rd c tr g.1 15 t) (2 ^ c)) = (fun t => fb_ct (rd c tr g.1 (2 ^ c - 1) t) (2 ^ c)) := funext fun t => by
    have : rd c tr g.1 15 t = rd c tr g.1 (2 ^ c - 1) t := funext fun s => rd_come hc4
    rw [this]
  rw [hrdc] at hbc
  have n8 : mn (Int32.toNatClampNeg 8) = g.2.1 := hm.2.1
  have n10 : mn (Int32.toNatClampNeg 10) = nI g.2.2.2.1 := hm.2.2.2.1
  have n11 : mn (Int32.toNatClampNeg 11) = g.2.2.2.2.1 := hm.2.2.2.2.1
  rw [n8, n10, n11, fit_e hc4 htr (ho.cln hc), all_e c (by omega), hW', hc.2.1, hc.2.2.2.1, hc.2.2.2.2.1]
  simp only [Option.bind_some]
  rw [fitM hc4 htr ho hm, hbc]
  simp only [Option.bind_some]
  have hwd : (if g.2.2.2.2.1 = 0 then some (0 : Int32) else some 1) = some g.2.2.2.2.1 := by
    rcases ho.2.2.2.2.1 with h | h <;> rw [h] <;> rfl
  rw [hwd]
  by_cases q0 : q = 0
  · exact ⟨_, if_pos q0, if_pos q0⟩
  rw [if_neg q0]
  by_cases q1 : q = 1
  · exact ⟨_, if_pos q1, if_pos q1⟩
  rw [if_neg q1]
  by_cases q2 : q = 2
  · exact ⟨_, if_pos q2, if_pos q2⟩
  rw [if_neg q2]
  by_cases q3 : q = 3
  · exact ⟨_, if_pos q3, if_pos q3⟩
  rw [if_neg q3]
  by_cases q4 : q = 4
  · exact ⟨_, if_pos q4, if_pos q4⟩
  rw [if_neg q4]
  by_cases q5 : q = 5
  · exact ⟨_, if_pos q5, if_pos q5⟩
  rw [if_neg q5]
  by_cases q6 : q = 6
  · exact ⟨_, if_pos q6, if_pos q6⟩
  rw [if_neg q6]
  by_cases q7 : q = 7
  · exact ⟨_, if_pos q7, if_pos q7⟩
  rw [if_neg q7]
  by_cases q8 : q = 8
  · exact ⟨_, if_pos q8, if_pos q8⟩
  rw [if_neg q8]
  by_cases q9 : q = 9
  · exact ⟨_, if_pos q9, if_pos q9⟩
  rw [if_neg q9]
  exact ⟨_, rfl, rfl⟩
