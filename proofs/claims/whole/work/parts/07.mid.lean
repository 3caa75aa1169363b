set_option maxHeartbeats 4000000 in
set_option maxRecDepth 100000 in
theorem w_X1_pickOf_48 {p : Program} {l : Launch} {e : Env} {s : State} {m : MethodId} {args : Array Value} {below : List Frame} {meth : Method} {c : Code} {E : Ev} (a_t a_t_metals a_t_kinds : Nat) (x_t_truth : Int32) (x_t_caskets : Int32) (x_t_wooers : Int32) (r_t_metals : Nat → Int32) (v1 : Int32) (v4 : Int32) (v5 : Int32) (o_r : Int32) (X : Cxt p s m args meth c cX1_pickOf 6 wsX1_pickOf RX1 (some .int)) (hw : wd E [(a_t, .inr (1, [.int x_t_truth, .int x_t_caskets, .int x_t_wooers, .ref a_t_metals, .ref a_t_kinds])), (a_t_metals, .inl (E.2.1, 4, .inl r_t_metals))] s s.heap) (h : f_X1_pickOf_48 v1 v4 v5 = some o_r) (ls : Array Slot) (hl : lv_has ls 6 [(1, .int v1), (4, .int v4), (5, .int v5)]) : W p l e { frames := 1, cells := 0, slots := 0, locals := 24 } s m args below meth c s.heap [] 0 0 (MQ below (Qr (some (.int o_r))) args s 0 0 (fun _ => False)) (F0 m 48 ls []) := by
  obtain ⟨⟨hx, hb, hml, hown, hts⟩, hr, hlocks⟩ := id X
  obtain ⟨hC, hP⟩ := id hw
  have hiX1 : ∀ w ∈ u_ws RX1 TX1 5, w ∈ wsX1_pickOf := by decide +kernel
  have hK := hC.1
  unfold f_X1_pickOf_48 at h
  refine lv_iload_n hx hb dX1_pickOf_48 rfl (lv_at hl 0 rfl) ?_
  refine lv_iconst (v := 3) hx hb dX1_pickOf_49 (by decide) ?_
  refine lv_icmp_ne (tgt := 64) hx hb dX1_pickOf_50 (by decide) (fun c1 => ?_) (fun c1 => ?_)
  · have h := ifn c1 h
    refine lv_iload hx hb dX1_pickOf_64 (lv_at hl 1 rfl) ?_
    obtain ⟨r2, g3, h⟩ := bnd h
    refine rcS (As := [.int v4]) (rest := []) ⟨hx, hb, hml, hown, hts⟩ (k_X1_leastOf (l := l) (E := E) v4 r2 g3) (va_cwS 1 hts gX1_pickOf_X1_leastOf rfl rfl rfl (by decide +kernel) ⟨Nat.le_of_ble_eq_true rfl, Nat.le_of_ble_eq_true rfl⟩) hC hP [] rfl rfl hl.1 rfl (Nat.le_of_ble_eq_true rfl) dX1_pickOf_66 ⟨Nat.zero_le _, Nat.zero_le _⟩ ?_
    exact W.iret hx hb hr (fun t ht _ => ⟨by cases h; rfl, ht⟩) (fun _ hq => absurd hq List.not_mem_nil) dX1_pickOf_69
  · have h := ifp c1 h
    refine lv_iload hx hb dX1_pickOf_53 (lv_at hl 2 rfl) ?_
    refine lv_if_eq (tgt := 64) hx hb dX1_pickOf_55 (by decide) (fun c4 => ?_) (fun c4 => ?_)
    · have h := ifp c4 h
      refine lv_iload hx hb dX1_pickOf_64 (lv_at hl 1 rfl) ?_
      obtain ⟨r5, g6, h⟩ := bnd h
      refine rcS (As := [.int v4]) (rest := []) ⟨hx, hb, hml, hown, hts⟩ (k_X1_leastOf (l := l) (E := E) v4 r5 g6) (va_cwS 1 hts gX1_pickOf_X1_leastOf rfl rfl rfl (by decide +kernel) ⟨Nat.le_of_ble_eq_true rfl, Nat.le_of_ble_eq_true rfl⟩) hC hP [] rfl rfl hl.1 rfl (Nat.le_of_ble_eq_true rfl) dX1_pickOf_66 ⟨Nat.zero_le _, Nat.zero_le _⟩ ?_
      exact W.iret hx hb hr (fun t ht _ => ⟨by cases h; rfl, ht⟩) (fun _ hq => absurd hq List.not_mem_nil) dX1_pickOf_69
    · have h := ifn c4 h
      refine lv_iload hx hb dX1_pickOf_58 (lv_at hl 2 rfl) ?_
      obtain ⟨r7, g8, h⟩ := bnd h
      refine rcS (As := [.int v5]) (rest := []) ⟨hx, hb, hml, hown, hts⟩ (k_X1_greatestOf (l := l) (E := E) v5 r7 g8) (va_cwS 1 hts gX1_pickOf_X1_greatestOf rfl rfl rfl (by decide +kernel) ⟨Nat.le_of_ble_eq_true rfl, Nat.le_of_ble_eq_true rfl⟩) hC hP [] rfl rfl hl.1 rfl (Nat.le_of_ble_eq_true rfl) dX1_pickOf_60 ⟨Nat.zero_le _, Nat.zero_le _⟩ ?_
      exact W.iret hx hb hr (fun t ht _ => ⟨by cases h; rfl, ht⟩) (fun _ hq => absurd hq List.not_mem_nil) dX1_pickOf_63
set_option maxHeartbeats 4000000 in
set_option maxRecDepth 100000 in
theorem w_X1_pickOf {p : Program} {l : Launch} {e : Env} {s : State} {m : MethodId} {args : Array Value} {below : List Frame} {meth : Method} {c : Code} {E : Ev} (a_t a_t_metals a_t_kinds : Nat) (x_t_truth : Int32) (x_t_caskets : Int32) (x_t_wooers : Int32) (r_t_metals : Nat → Int32) (p1 : Int32) (p2 : Int32) (p3 : Int32) (o_r : Int32) (X : Cxt p s m args meth c cX1_pickOf 6 wsX1_pickOf RX1 (some .int)) (hw : wd E [(a_t, .inr (1, [.int x_t_truth, .int x_t_caskets, .int x_t_wooers, .ref a_t_metals, .ref a_t_kinds])), (a_t_metals, .inl (E.2.1, 4, .inl r_t_metals))] s s.heap) (h : f_X1_pickOf x_t_caskets r_t_metals p1 p2 p3 = some o_r) {ls : Array Slot} (hl : lv_has ls 6 [(0, .ref a_t), (1, .int p1), (2, .int p2), (3, .int p3)]) : W p l e { frames := 1, cells := 0, slots := 0, locals := 24 } s m args below meth c s.heap [] 0 0 (MQ below (Qr (some (.int o_r))) args s 0 0 (fun _ => False)) (F0 m 0 ls []) := by
  obtain ⟨⟨hx, hb, hml, hown, hts⟩, hr, hlocks⟩ := id X
  obtain ⟨hC, hP⟩ := id hw
  have hiX1 : ∀ w ∈ u_ws RX1 TX1 5, w ∈ wsX1_pickOf := by decide +kernel
  have hK := hC.1
  unfold f_X1_pickOf at h
  refine lv_iconst (v := 1) hx hb dX1_pickOf_0 (by decide) ?_
  refine lv_aload_n hx hb dX1_pickOf_1 rfl (lv_at hl 0 rfl) ?_
  refine va_get (D := E.1) (ci := 1) (v := .int x_t_caskets) (C := RX1) (T := TX1) (N := 5) hx hb hts hiX1 hown hK hP 0 rfl rfl 1 (by decide) (hts (.fieldLink RX1 22 "CasketLines$House" "caskets" "I") (by decide +kernel)) (fun _ h9 => h9) rfl dX1_pickOf_2 ?_
  refine lv_ishl hx hb dX1_pickOf_5 ?_
  refine lv_iconst (v := 1) hx hb dX1_pickOf_6 (by decide) ?_
  refine lv_isub hx hb dX1_pickOf_7 ?_
  refine lv_iload_n hx hb dX1_pickOf_8 rfl (lv_at hl 3 rfl) ?_
  refine lv_iconst (v := (-1)) hx hb dX1_pickOf_9 (by decide) ?_
  refine lv_ixor hx hb dX1_pickOf_10 ?_
  refine lv_iand hx hb dX1_pickOf_11 ?_
  obtain ⟨z9, g9, h⟩ := bnd h
  refine lv_topi (fun y9 ey9 => ?_)
  obtain rfl : y9 = z9 := ey9.trans (Option.some.inj g9)
  refine lv_istore (lv' := [(4, .int y9), (0, .ref a_t), (1, .int p1), (2, .int p2), (3, .int p3)]) hx hb dX1_pickOf_12 hl (by decide) rfl (fun ls hl => ?_)
  refine lv_iload hx hb dX1_pickOf_14 (lv_at hl 0 rfl) ?_
  refine lv_iload_n hx hb dX1_pickOf_16 rfl (lv_at hl 3 rfl) ?_
  refine lv_iand hx hb dX1_pickOf_17 ?_
  refine lv_istore (lv' := [(5, .int (y9 &&& p2)), (4, .int y9), (0, .ref a_t), (1, .int p1), (2, .int p2), (3, .int p3)]) hx hb dX1_pickOf_18 hl (by decide) rfl (fun ls hl => ?_)
  refine lv_iload_n hx hb dX1_pickOf_20 rfl (lv_at hl 3 rfl) ?_
  refine lv_iconst (v := 1) hx hb dX1_pickOf_21 (by decide) ?_
  refine lv_icmp_ne (tgt := 32) hx hb dX1_pickOf_22 (by decide) (fun c10 => ?_) (fun c10 => ?_)
  · have h := ifn c10 h
    refine lv_iload_n hx hb dX1_pickOf_32 rfl (lv_at hl 3 rfl) ?_
    refine lv_iconst (v := 2) hx hb dX1_pickOf_33 (by decide) ?_
    refine lv_icmp_ne (tgt := 48) hx hb dX1_pickOf_34 (by decide) (fun c11 => ?_) (fun c11 => ?_)
    · have h := ifn c11 h
      exact w_X1_pickOf_48 a_t a_t_metals a_t_kinds x_t_truth x_t_caskets x_t_wooers r_t_metals p1 y9 (y9 &&& p2)  o_r X hw  h ls (lv_sub hl [3, 1, 0] rfl)
    · have h := ifp c11 h
      refine lv_iload hx hb dX1_pickOf_37 (lv_at hl 0 rfl) ?_
      refine lv_if_eq (tgt := 48) hx hb dX1_pickOf_39 (by decide) (fun c12 => ?_) (fun c12 => ?_)
      · have h := ifp c12 h
        exact w_X1_pickOf_48 a_t a_t_metals a_t_kinds x_t_truth x_t_caskets x_t_wooers r_t_metals p1 y9 (y9 &&& p2)  o_r X hw  h ls (lv_sub hl [3, 1, 0] rfl)
      · have h := ifn c12 h
        refine lv_iload hx hb dX1_pickOf_42 (lv_at hl 0 rfl) ?_
        obtain ⟨r13, g14, h⟩ := bnd h
        refine rcS (As := [.int (y9 &&& p2)]) (rest := []) ⟨hx, hb, hml, hown, hts⟩ (k_X1_leastOf (l := l) (E := E) (y9 &&& p2) r13 g14) (va_cwS 1 hts gX1_pickOf_X1_leastOf rfl rfl rfl (by decide +kernel) ⟨Nat.le_of_ble_eq_true rfl, Nat.le_of_ble_eq_true rfl⟩) hC hP [] rfl rfl hl.1 rfl (Nat.le_of_ble_eq_true rfl) dX1_pickOf_44 ⟨Nat.zero_le _, Nat.zero_le _⟩ ?_
        exact W.iret hx hb hr (fun t ht _ => ⟨by cases h; rfl, ht⟩) (fun _ hq => absurd hq List.not_mem_nil) dX1_pickOf_47
  · have h := ifp c10 h
    refine lv_aload_n hx hb dX1_pickOf_25 rfl (lv_at hl 2 rfl) ?_
    refine lv_iload hx hb dX1_pickOf_26 (lv_at hl 1 rfl) ?_
    obtain ⟨r15, g16, h⟩ := bnd h
    refine rcV (As := [.int y9]) (rest := []) ⟨hx, hb, hml, hown, hts⟩ (k_X1_dearestOf (l := l) (E := E) a_t a_t_metals a_t_kinds x_t_truth x_t_caskets x_t_wooers r_t_metals y9 r15 g16) (cwV 1 hts gX1_pickOf_X1_dearestOf rfl rfl rfl (by decide +kernel) ⟨Nat.le_of_ble_eq_true rfl, Nat.le_of_ble_eq_true rfl⟩) hC hP [0, 1] rfl 0 1 rfl rfl rfl rfl hl.1 rfl (Nat.le_of_ble_eq_true rfl) dX1_pickOf_28 ⟨Nat.zero_le _, Nat.zero_le _⟩ ?_
    exact W.iret hx hb hr (fun t ht _ => ⟨by cases h; rfl, ht⟩) (fun _ hq => absurd hq List.not_mem_nil) dX1_pickOf_31
set_option maxHeartbeats 4000000 in
set_option maxRecDepth 100000 in
theorem k_X1_pickOf {l : Launch} {E : Ev} (a_t a_t_metals a_t_kinds : Nat) (x_t_truth : Int32) (x_t_caskets : Int32) (x_t_wooers : Int32) (r_t_metals : Nat → Int32) (p1 : Int32) (p2 : Int32) (p3 : Int32) (o_r : Int32) (hf : f_X1_pickOf x_t_caskets r_t_metals p1 p2 p3 = some o_r) : Met l yX1_pickOf wsX1_pickOf ({ frames := 1, cells := 0, slots := 0, locals := 24 }) (Pr E [.ref a_t, .int p1, .int p2, .int p3] [(a_t, .inr (1, [.int x_t_truth, .int x_t_caskets, .int x_t_wooers, .ref a_t_metals, .ref a_t_kinds])), (a_t_metals, .inl (E.2.1, 4, .inl r_t_metals))]) (Qr (some (.int o_r))) 0 0 (fun _ => False) := by
  refine Met.ofW (cc := cX1_pickOf) (maxL := 6) (ret := (some .int)) (by decide) rfl ?_
  intro p e s m args below meth c s₁ B hml hv
  obtain ⟨rfl, hw⟩ := hv
  have X := Cxt.of B hml
  have hl := lv_entry ([.ref a_t, .int p1, .int p2, .int p3]) (n := 6) (Nat.le_of_ble_eq_true rfl)
  rw [lg_entry_eq]
  exact w_X1_pickOf a_t a_t_metals a_t_kinds x_t_truth x_t_caskets x_t_wooers r_t_metals p1 p2 p3 o_r X hw hf hl
set_option maxHeartbeats 4000000 in
set_option maxRecDepth 100000 in
theorem w_X5_agreeing_60 {p : Program} {l : Launch} {e : Env} {s : State} {m : MethodId} {args : Array Value} {below : List Frame} {meth : Method} {c : Code} {E : Ev} (v0 : Int32) (s0 : Int64) (o_r : Int64) (X : Cxt p s m args meth c cX5_agreeing 8 wsX5_agreeing RX5 (some .long)) (hw : wd E [] s s.heap) (h : f_X5_agreeing_60 v0 s0 = some o_r) (ls : Array Slot) (hl : lv_has ls 8 [(0, .int v0)]) : W p l e { frames := 1, cells := 0, slots := 0, locals := 21 } s m args below meth c s.heap [] 0 0 (MQ below (Qr (some (.long o_r))) args s 0 0 (fun _ => False)) (F0 m 60 ls [.long s0]) := by
  obtain ⟨⟨hx, hb, hml, hown, hts⟩, hr, hlocks⟩ := id X
  obtain ⟨hC, hP⟩ := id hw
  unfold f_X5_agreeing_60 at h
  refine lv_lstore (lv' := [(6, .long s0), (0, .int v0)]) hx hb dX5_agreeing_60 hl (by decide) rfl (fun ls hl => ?_)
  refine lv_lload hx hb dX5_agreeing_62 (lv_at hl 0 rfl) ?_
  refine va_gets (C := RX5) hx hb hC.2.2.1.1 va_S.rf hown (hts (.fieldLink RX5 173 "CasketLines" "TRUE_LINE" "[J") (by decide +kernel)) (fun _ h9 => h9) dX5_agreeing_64 ?_
  refine lv_iload_n hx hb dX5_agreeing_67 rfl (lv_at hl 1 rfl) ?_
  obtain ⟨r2, g3, h⟩ := bnd h
  refine rcST (As := [.ref (eT E), .int v0]) (rest := [.long s0]) ⟨hx, hb, hml, hown, hts⟩ (k_X5_maskAt_T (l := l) (E := E) (eT E) 4 tabT v0 r2 g3) (va_cwS 2 hts gX5_agreeing_X5_maskAt rfl rfl rfl (by decide +kernel) ⟨Nat.le_of_ble_eq_true rfl, Nat.le_of_ble_eq_true rfl⟩) hC.2.2.1.2 rfl hl.1 rfl (Nat.le_of_ble_eq_true rfl) dX5_agreeing_68 ⟨Nat.zero_le _, Nat.zero_le _⟩ ?_
  refine lv_lxor hx hb dX5_agreeing_71 ?_
  refine lv_ldc2 (own := RX5) (v := (-1)) hx hb hown (hts (.constantLong RX5 184 (-1)) (by decide +kernel)) dX5_agreeing_72 ?_
  refine lv_lxor hx hb dX5_agreeing_75 ?_
  exact W.lret hx hb hr (fun t ht _ => ⟨by cases h; rfl, ht⟩) (fun _ hq => absurd hq List.not_mem_nil) dX5_agreeing_76
set_option maxHeartbeats 4000000 in
set_option maxRecDepth 100000 in
theorem w_X5_agreeing_43 {p : Program} {l : Launch} {e : Env} {s : State} {m : MethodId} {args : Array Value} {below : List Frame} {meth : Method} {c : Code} {E : Ev} (v0 : Int32) (v2 : Int32) (v4 : Int64) (o_r : Int64) (X : Cxt p s m args meth c cX5_agreeing 8 wsX5_agreeing RX5 (some .long)) (hw : wd E [] s s.heap) (h : f_X5_agreeing_43 v0 v2 v4 = some o_r) (ls : Array Slot) (hl : lv_has ls 8 [(0, .int v0), (2, .int v2), (4, .long v4)]) : W p l e { frames := 1, cells := 0, slots := 0, locals := 21 } s m args below meth c s.heap [] 0 0 (MQ below (Qr (some (.long o_r))) args s 0 0 (fun _ => False)) (F0 m 43 ls []) := by
  obtain ⟨⟨hx, hb, hml, hown, hts⟩, hr, hlocks⟩ := id X
  obtain ⟨hC, hP⟩ := id hw
  unfold f_X5_agreeing_43 at h
  refine lv_iload_n hx hb dX5_agreeing_43 rfl (lv_at hl 1 rfl) ?_
  refine lv_iconst (v := 2) hx hb dX5_agreeing_44 (by decide) ?_
  refine lv_irem hx hb dX5_agreeing_45 (by decide) ?_
  refine lv_if_ne (tgt := 54) hx hb dX5_agreeing_46 (by decide) (fun c1 => ?_) (fun c1 => ?_)
  · have h := ifn c1 h
    refine lv_lload hx hb dX5_agreeing_54 (lv_at hl 2 rfl) ?_
    refine lv_ldc2 (own := RX5) (v := (-1)) hx hb hown (hts (.constantLong RX5 184 (-1)) (by decide +kernel)) dX5_agreeing_56 ?_
    refine lv_lxor hx hb dX5_agreeing_59 ?_
    exact w_X5_agreeing_60   v0 (v4 ^^^ (-1))  o_r X hw  h ls (lv_sub hl [0] rfl)
  · have h := ifp c1 h
    refine lv_lload hx hb dX5_agreeing_49 (lv_at hl 2 rfl) ?_
    refine lv_goto (tgt := 60) hx hb dX5_agreeing_51 (by decide) ?_
    exact w_X5_agreeing_60   v0 v4  o_r X hw  h ls (lv_sub hl [0] rfl)
set_option maxHeartbeats 4000000 in
set_option maxRecDepth 100000 in
theorem w_X5_agreeing {p : Program} {l : Launch} {e : Env} {s : State} {m : MethodId} {args : Array Value} {below : List Frame} {meth : Method} {c : Code} {E : Ev} (p1 : Int32) (p2 : Int32) (o_r : Int64) (X : Cxt p s m args meth c cX5_agreeing 8 wsX5_agreeing RX5 (some .long)) (hw : wd E [] s s.heap) (h : f_X5_agreeing p1 p2 = some o_r) {ls : Array Slot} (hl : lv_has ls 8 [(0, .int p1), (1, .int p2)]) : W p l e { frames := 1, cells := 0, slots := 0, locals := 21 } s m args below meth c s.heap [] 0 0 (MQ below (Qr (some (.long o_r))) args s 0 0 (fun _ => False)) (F0 m 0 ls []) := by
  obtain ⟨⟨hx, hb, hml, hown, hts⟩, hr, hlocks⟩ := id X
  obtain ⟨hC, hP⟩ := id hw
  unfold f_X5_agreeing at h
  refine lv_iload_n hx hb dX5_agreeing_0 rfl (lv_at hl 1 rfl) ?_
  refine lv_iconst (v := 4) hx hb dX5_agreeing_1 (by decide) ?_
  refine lv_idiv hx hb dX5_agreeing_2 (by decide) ?_
  refine lv_istore_n (lv' := [(2, .int (p2 / 4)), (0, .int p1), (1, .int p2)]) hx hb dX5_agreeing_3 rfl hl (by decide) rfl (fun ls hl => ?_)
  refine lv_iload_n hx hb dX5_agreeing_4 rfl (lv_at hl 2 rfl) ?_
  refine lv_iconst (v := 4) hx hb dX5_agreeing_5 (by decide) ?_
  refine lv_irem hx hb dX5_agreeing_6 (by decide) ?_
  refine lv_istore_n (lv' := [(3, .int (p2 - p2 / 4 * 4)), (2, .int (p2 / 4)), (0, .int p1), (1, .int p2)]) hx hb dX5_agreeing_7 rfl hl (by decide) rfl (fun ls hl => ?_)
  refine lv_iload_n hx hb dX5_agreeing_8 rfl (lv_at hl 1 rfl) ?_
  refine lv_iconst (v := 2) hx hb dX5_agreeing_9 (by decide) ?_
  refine lv_icmp_ge (tgt := 22) hx hb dX5_agreeing_10 (by decide) (fun c4 => ?_) (fun c4 => ?_)
  · have h := ifp c4 h
    refine lv_iload_n hx hb dX5_agreeing_22 rfl (lv_at hl 1 rfl) ?_
    refine lv_iconst (v := 4) hx hb dX5_agreeing_23 (by decide) ?_
    refine lv_icmp_ge (tgt := 34) hx hb dX5_agreeing_24 (by decide) (fun c5 => ?_) (fun c5 => ?_)
    · have h := ifp c5 h
      refine va_gets (C := RX5) hx hb hC.2.2.1.1 va_S.rf hown (hts (.fieldLink RX5 173 "CasketLines" "TRUE_LINE" "[J") (by decide +kernel)) (fun _ h9 => h9) dX5_agreeing_34 ?_
      refine lv_iload_n hx hb dX5_agreeing_37 rfl (lv_at hl 0 rfl) ?_
      obtain ⟨r6, g7, h⟩ := bnd h
      refine rcST (As := [.ref (eT E), .int (p2 - p2 / 4 * 4)]) (rest := []) ⟨hx, hb, hml, hown, hts⟩ (k_X5_maskAt_T (l := l) (E := E) (eT E) 4 tabT (p2 - p2 / 4 * 4) r6 g7) (va_cwS 2 hts gX5_agreeing_X5_maskAt rfl rfl rfl (by decide +kernel) ⟨Nat.le_of_ble_eq_true rfl, Nat.le_of_ble_eq_true rfl⟩) hC.2.2.1.2 rfl hl.1 rfl (Nat.le_of_ble_eq_true rfl) dX5_agreeing_38 ⟨Nat.zero_le _, Nat.zero_le _⟩ ?_
      refine lv_lstore (lv' := [(4, .long r6), (3, .int (p2 - p2 / 4 * 4)), (2, .int (p2 / 4)), (0, .int p1), (1, .int p2)]) hx hb dX5_agreeing_41 hl (by decide) rfl (fun ls hl => ?_)
      exact w_X5_agreeing_43   p1 (p2 / 4) r6  o_r X hw  h ls (lv_sub hl [3, 2, 0] rfl)
    · have h := ifn c5 h
      refine lv_iload_n hx hb dX5_agreeing_27 rfl (lv_at hl 0 rfl) ?_
      obtain ⟨r8, g9, h⟩ := bnd h
      refine rcS (As := [.int (p2 - p2 / 4 * 4)]) (rest := []) ⟨hx, hb, hml, hown, hts⟩ (k_X5_worldsWith (l := l) (E := E) (p2 - p2 / 4 * 4) r8 g9) (va_cwS 1 hts gX5_agreeing_X5_worldsWith rfl rfl rfl (by decide +kernel) ⟨Nat.le_of_ble_eq_true rfl, Nat.le_of_ble_eq_true rfl⟩) hC hP [] rfl rfl hl.1 rfl (Nat.le_of_ble_eq_true rfl) dX5_agreeing_28 ⟨Nat.zero_le _, Nat.zero_le _⟩ ?_
      refine lv_goto (tgt := 41) hx hb dX5_agreeing_31 (by decide) ?_
      refine lv_lstore (lv' := [(4, .long r8), (3, .int (p2 - p2 / 4 * 4)), (2, .int (p2 / 4)), (0, .int p1), (1, .int p2)]) hx hb dX5_agreeing_41 hl (by decide) rfl (fun ls hl => ?_)
      exact w_X5_agreeing_43   p1 (p2 / 4) r8  o_r X hw  h ls (lv_sub hl [3, 2, 0] rfl)
  · have h := ifn c4 h
    refine lv_iload_n hx hb dX5_agreeing_13 rfl (lv_at hl 2 rfl) ?_
    obtain ⟨r10, g11, h⟩ := bnd h
    refine rcS (As := [.int p1]) (rest := []) ⟨hx, hb, hml, hown, hts⟩ (k_X5_worldsWith (l := l) (E := E) p1 r10 g11) (va_cwS 1 hts gX5_agreeing_X5_worldsWith rfl rfl rfl (by decide +kernel) ⟨Nat.le_of_ble_eq_true rfl, Nat.le_of_ble_eq_true rfl⟩) hC hP [] rfl rfl hl.1 rfl (Nat.le_of_ble_eq_true rfl) dX5_agreeing_14 ⟨Nat.zero_le _, Nat.zero_le _⟩ ?_
    refine lv_lstore (lv' := [(4, .long r10), (3, .int (p2 - p2 / 4 * 4)), (2, .int (p2 / 4)), (0, .int p1), (1, .int p2)]) hx hb dX5_agreeing_17 hl (by decide) rfl (fun ls hl => ?_)
    refine lv_goto (tgt := 43) hx hb dX5_agreeing_19 (by decide) ?_
    exact w_X5_agreeing_43   p1 (p2 / 4) r10  o_r X hw  h ls (lv_sub hl [3, 2, 0] rfl)
set_option maxHeartbeats 4000000 in
set_option maxRecDepth 100000 in
theorem k_X5_agreeing {l : Launch} {E : Ev} (p1 : Int32) (p2 : Int32) (o_r : Int64) (hf : f_X5_agreeing p1 p2 = some o_r) : Met l yX5_agreeing wsX5_agreeing ({ frames := 1, cells := 0, slots := 0, locals := 21 }) (Pr E [.int p1, .int p2] []) (Qr (some (.long o_r))) 0 0 (fun _ => False) := by
  refine Met.ofW (cc := cX5_agreeing) (maxL := 8) (ret := (some .long)) (by decide) rfl ?_
  intro p e s m args below meth c s₁ B hml hv
  obtain ⟨rfl, hw⟩ := hv
  have X := Cxt.of B hml
  have hl := lv_entry ([.int p1, .int p2]) (n := 8) (Nat.le_of_ble_eq_true rfl)
  rw [lg_entry_eq]
  exact w_X5_agreeing   p1 p2 o_r X hw hf hl
set_option maxHeartbeats 4000000 in
set_option maxRecDepth 100000 in
theorem w_X5_readingsOf_36_b {p : Program} {l : Launch} {e : Env} {s : State} {m : MethodId} {args : Array Value} {below : List Frame} {meth : Method} {c : Code} {E : Ev} (a_p1 a_p2 a_p1_metals a_p1_kinds : Nat) (x_p1_truth : Int32) (x_p1_caskets : Int32) (x_p1_wooers : Int32) (n_p2 : Nat) (r_p2 : Nat → Int32) (v2 : Int32) (o_r : Int64) (X : Cxt p s m args meth c cX5_readingsOf 6 wsX5_readingsOf RX5 (some .long)) (hw : wd E [(a_p1, .inr (1, [.int x_p1_truth, .int x_p1_caskets, .int x_p1_wooers, .ref a_p1_metals, .ref a_p1_kinds])), (a_p2, .inl (E.2.1, n_p2, .inl r_p2))] s s.heap) (k36 : Int64 × Int32 → Option (Int64)) (hk36 : ∀ (v3 : Int64) (v5 : Int32), k36 (v3, v5) = some o_r → ∀ (ls : Array Slot), lv_has ls 6 [(0, .ref a_p1), (1, .ref a_p2), (2, .int v2), (3, .long v3), (5, .int v5)] → W p l e { frames := 2, cells := 0, slots := 0, locals := 48 } s m args below meth c s.heap [] 0 0 (MQ below (Qr (some (.long o_r))) args s 0 0 (fun _ => False)) (F0 m 36 ls [])) (v3 : Int64) (v5 : Int32) (h : f_X5_readingsOf_36_b x_p1_caskets n_p2 r_p2 v2 k36 v3 v5 = some o_r) {ls : Array Slot} (hl : lv_has ls 6 [(0, .ref a_p1), (1, .ref a_p2), (2, .int v2), (3, .long v3), (5, .int v5)]) : W p l e { frames := 2, cells := 0, slots := 0, locals := 48 } s m args below meth c s.heap [] 0 0 (MQ below (Qr (some (.long o_r))) args s 0 0 (fun _ => False)) (F0 m 36 ls []) := by
  obtain ⟨⟨hx, hb, hml, hown, hts⟩, hr, hlocks⟩ := id X
  obtain ⟨hC, hP⟩ := id hw
  have hiX1 : ∀ w ∈ u_ws RX1 TX1 5, w ∈ wsX5_readingsOf := by decide +kernel
  have hK := hC.1
  unfold f_X5_readingsOf_36_b at h
  refine lv_iload hx hb dX5_readingsOf_36 (lv_at hl 4 rfl) ?_
  refine lv_aload_n hx hb dX5_readingsOf_38 rfl (lv_at hl 1 rfl) ?_
  refine va_alen (v := (Int32.ofNat n_p2)) hx hb hK hP 1 0 rfl rfl rfl dX5_readingsOf_39 ?_
  refine lv_icmp_ge (tgt := 80) hx hb dX5_readingsOf_40 (by decide) (fun c1 => ?_) (fun c1 => ?_)
  · have h := ifp c1 h
    refine lv_lload_n hx hb dX5_readingsOf_80 rfl (lv_at hl 3 rfl) ?_
    exact W.lret hx hb hr (fun t ht _ => ⟨by cases h; rfl, ht⟩) (fun _ hq => absurd hq List.not_mem_nil) dX5_readingsOf_81
  · have h := ifn c1 h
    refine lv_iload hx hb dX5_readingsOf_43 (lv_at hl 4 rfl) ?_
    refine lv_aload_n hx hb dX5_readingsOf_45 rfl (lv_at hl 0 rfl) ?_
    refine va_get (D := E.1) (ci := 1) (v := .int x_p1_caskets) (C := RX1) (T := TX1) (N := 5) hx hb hts hiX1 hown hK hP 0 rfl rfl 1 (by decide) (hts (.fieldLink RX5 84 "CasketLines$House" "caskets" "I") (by decide +kernel)) (fun _ h9 => h9) rfl dX5_readingsOf_46 ?_
    refine lv_icmp_ge (tgt := 80) hx hb dX5_readingsOf_49 (by decide) (fun c2 => ?_) (fun c2 => ?_)
    · have h := ifp c2 h
      refine lv_lload_n hx hb dX5_readingsOf_80 rfl (lv_at hl 3 rfl) ?_
      exact W.lret hx hb hr (fun t ht _ => ⟨by cases h; rfl, ht⟩) (fun _ hq => absurd hq List.not_mem_nil) dX5_readingsOf_81
    · have h := ifn c2 h
      refine lv_iload_n hx hb dX5_readingsOf_52 rfl (lv_at hl 2 rfl) ?_
      refine lv_iload hx hb dX5_readingsOf_53 (lv_at hl 4 rfl) ?_
      refine lv_ishr hx hb dX5_readingsOf_55 ?_
      refine lv_iconst (v := 1) hx hb dX5_readingsOf_56 (by decide) ?_
      refine lv_iand hx hb dX5_readingsOf_57 ?_
      refine lv_iconst (v := 1) hx hb dX5_readingsOf_58 (by decide) ?_
      refine lv_icmp_ne (tgt := 74) hx hb dX5_readingsOf_59 (by decide) (fun c3 => ?_) (fun c3 => ?_)
      · have h := ifn c3 h
        refine lv_iinc (v := (v5 + 1)) (lv' := [(5, .int (v5 + 1)), (0, .ref a_p1), (1, .ref a_p2), (2, .int v2), (3, .long v3)]) hx hb dX5_readingsOf_74 hl (k := 4) rfl rfl (by decide) rfl (fun ls hl => ?_)
        refine lv_goto (tgt := 36) hx hb dX5_readingsOf_77 (by decide) ?_
        exact hk36 v3 (v5 + 1) h ls (lv_sub hl [1, 2, 3, 4, 0] rfl)
      · have h := ifp c3 h
        refine lv_lload_n hx hb dX5_readingsOf_62 rfl (lv_at hl 3 rfl) ?_
        refine lv_iload hx hb dX5_readingsOf_63 (lv_at hl 4 rfl) ?_
        refine lv_aload_n hx hb dX5_readingsOf_65 rfl (lv_at hl 1 rfl) ?_
        refine lv_iload hx hb dX5_readingsOf_66 (lv_at hl 4 rfl) ?_
        obtain ⟨b4, h⟩ := gdn h
        refine va_iald hx hb hK hP 1 0 rfl rfl b4 dX5_readingsOf_68 ?_
        obtain ⟨r5, g6, h⟩ := bnd h
        refine rcS (As := [.int v5, .int (r_p2 (Int32.toNatClampNeg v5))]) (rest := [.long v3]) ⟨hx, hb, hml, hown, hts⟩ (k_X5_agreeing (l := l) (E := E) v5 (r_p2 (Int32.toNatClampNeg v5)) r5 g6) (va_cwS 2 hts gX5_readingsOf_X5_agreeing rfl rfl rfl (by decide +kernel) ⟨Nat.le_of_ble_eq_true rfl, Nat.le_of_ble_eq_true rfl⟩) hC hP [] rfl rfl hl.1 rfl (Nat.le_of_ble_eq_true rfl) dX5_readingsOf_69 ⟨Nat.zero_le _, Nat.zero_le _⟩ ?_
        refine lv_land hx hb dX5_readingsOf_72 ?_
        refine lv_lstore_n (lv' := [(3, .long (v3 &&& r5)), (0, .ref a_p1), (1, .ref a_p2), (2, .int v2), (5, .int v5)]) hx hb dX5_readingsOf_73 rfl hl (by decide) rfl (fun ls hl => ?_)
        refine lv_iinc (v := (v5 + 1)) (lv' := [(5, .int (v5 + 1)), (3, .long (v3 &&& r5)), (0, .ref a_p1), (1, .ref a_p2), (2, .int v2)]) hx hb dX5_readingsOf_74 hl (k := 4) rfl rfl (by decide) rfl (fun ls hl => ?_)
        refine lv_goto (tgt := 36) hx hb dX5_readingsOf_77 (by decide) ?_
        exact hk36 (v3 &&& r5) (v5 + 1) h ls (lv_sub hl [2, 3, 4, 1, 0] rfl)
set_option maxHeartbeats 4000000 in
set_option maxRecDepth 100000 in
theorem w_X5_readingsOf_36 {p : Program} {l : Launch} {e : Env} {s : State} {m : MethodId} {args : Array Value} {below : List Frame} {meth : Method} {c : Code} {E : Ev} (a_p1 a_p2 a_p1_metals a_p1_kinds : Nat) (x_p1_truth : Int32) (x_p1_caskets : Int32) (x_p1_wooers : Int32) (n_p2 : Nat) (r_p2 : Nat → Int32) (v2 : Int32) (o_r : Int64) (X : Cxt p s m args meth c cX5_readingsOf 6 wsX5_readingsOf RX5 (some .long)) (hw : wd E [(a_p1, .inr (1, [.int x_p1_truth, .int x_p1_caskets, .int x_p1_wooers, .ref a_p1_metals, .ref a_p1_kinds])), (a_p2, .inl (E.2.1, n_p2, .inl r_p2))] s s.heap) : ∀ (n : Nat) (v3 : Int64) (v5 : Int32), f_X5_readingsOf_36 x_p1_caskets n_p2 r_p2 v2 n v3 v5 = some o_r → ∀ (ls : Array Slot), lv_has ls 6 [(0, .ref a_p1), (1, .ref a_p2), (2, .int v2), (3, .long v3), (5, .int v5)] → W p l e { frames := 2, cells := 0, slots := 0, locals := 48 } s m args below meth c s.heap [] 0 0 (MQ below (Qr (some (.long o_r))) args s 0 0 (fun _ => False)) (F0 m 36 ls []) := by
  intro n
  induction n with
  | zero =>
    intro v3 v5 h
    exact (rk_z _ _ h).elim
  | succ n ih =>
    intro v3 v5 h ls hl
    exact w_X5_readingsOf_36_b a_p1 a_p2 a_p1_metals a_p1_kinds x_p1_truth x_p1_caskets x_p1_wooers n_p2 r_p2 v2  o_r X hw  (rk (fun k x => f_X5_readingsOf_36_b x_p1_caskets n_p2 r_p2 v2  k (x.1) (x.2)) n) (fun v3 v5 hh => ih v3 v5 hh) v3 v5 h hl
set_option maxHeartbeats 4000000 in
set_option maxRecDepth 100000 in
theorem w_X5_readingsOf {p : Program} {l : Launch} {e : Env} {s : State} {m : MethodId} {args : Array Value} {below : List Frame} {meth : Method} {c : Code} {E : Ev} (a_p1 a_p2 a_p1_metals a_p1_kinds : Nat) (x_p1_truth : Int32) (x_p1_caskets : Int32) (x_p1_wooers : Int32) (n_p2 : Nat) (r_p2 : Nat → Int32) (p3 : Int32) (o_r : Int64) (X : Cxt p s m args meth c cX5_readingsOf 6 wsX5_readingsOf RX5 (some .long)) (hw : wd E [(a_p1, .inr (1, [.int x_p1_truth, .int x_p1_caskets, .int x_p1_wooers, .ref a_p1_metals, .ref a_p1_kinds])), (a_p2, .inl (E.2.1, n_p2, .inl r_p2))] s s.heap) (h : f_X5_readingsOf x_p1_truth x_p1_caskets n_p2 r_p2 p3 = some o_r) {ls : Array Slot} (hl : lv_has ls 6 [(0, .ref a_p1), (1, .ref a_p2), (2, .int p3)]) : W p l e { frames := 2, cells := 0, slots := 0, locals := 48 } s m args below meth c s.heap [] 0 0 (MQ below (Qr (some (.long o_r))) args s 0 0 (fun _ => False)) (F0 m 0 ls []) := by
  obtain ⟨⟨hx, hb, hml, hown, hts⟩, hr, hlocks⟩ := id X
  obtain ⟨hC, hP⟩ := id hw
  have hiX1 : ∀ w ∈ u_ws RX1 TX1 5, w ∈ wsX5_readingsOf := by decide +kernel
  have hK := hC.1
  unfold f_X5_readingsOf at h
  refine va_gets (C := RX5) hx hb hC.2.2.2.2.1.1 va_S.rf hown (hts (.fieldLink RX5 265 "CasketLines" "WORLDS_OF" "[J") (by decide +kernel)) (fun _ h9 => h9) dX5_readingsOf_0 ?_
  refine lv_aload_n hx hb dX5_readingsOf_3 rfl (lv_at hl 0 rfl) ?_
  refine va_get (D := E.1) (ci := 1) (v := .int x_p1_caskets) (C := RX1) (T := TX1) (N := 5) hx hb hts hiX1 hown hK hP 0 rfl rfl 1 (by decide) (hts (.fieldLink RX5 84 "CasketLines$House" "caskets" "I") (by decide +kernel)) (fun _ h9 => h9) rfl dX5_readingsOf_4 ?_
  obtain ⟨r7, g8, h⟩ := bnd h
  refine rcST (As := [.ref (eW E), .int x_p1_caskets]) (rest := []) ⟨hx, hb, hml, hown, hts⟩ (k_X5_maskAt_T (l := l) (E := E) (eW E) 5 tabW x_p1_caskets r7 g8) (va_cwS 2 hts gX5_readingsOf_X5_maskAt rfl rfl rfl (by decide +kernel) ⟨Nat.le_of_ble_eq_true rfl, Nat.le_of_ble_eq_true rfl⟩) hC.2.2.2.2.1.2 rfl hl.1 rfl (Nat.le_of_ble_eq_true rfl) dX5_readingsOf_7 ⟨Nat.zero_le _, Nat.zero_le _⟩ ?_
  refine lv_lstore_n (lv' := [(3, .long r7), (0, .ref a_p1), (1, .ref a_p2), (2, .int p3)]) hx hb dX5_readingsOf_10 rfl hl (by decide) rfl (fun ls hl => ?_)
  refine lv_aload_n hx hb dX5_readingsOf_11 rfl (lv_at hl 1 rfl) ?_
  refine va_get (D := E.1) (ci := 1) (v := .int x_p1_truth) (C := RX1) (T := TX1) (N := 5) hx hb hts hiX1 hown hK hP 0 rfl rfl 0 (by decide) (hts (.fieldLink RX5 257 "CasketLines$House" "truth" "I") (by decide +kernel)) (fun _ h9 => h9) rfl dX5_readingsOf_12 ?_
  refine lv_bipush (v := 9) hx hb dX5_readingsOf_15 (by decide) ?_
  refine lv_icmp_eq (tgt := 33) hx hb dX5_readingsOf_17 (by decide) (fun c9 => ?_) (fun c9 => ?_)
  · have h := ifp c9 h
    refine lv_iconst (v := 0) hx hb dX5_readingsOf_33 (by decide) ?_
    refine lv_istore (lv' := [(5, .int 0), (3, .long r7), (0, .ref a_p1), (1, .ref a_p2), (2, .int p3)]) hx hb dX5_readingsOf_34 hl (by decide) rfl (fun ls hl => ?_)
    exact w_X5_readingsOf_36 a_p1 a_p2 a_p1_metals a_p1_kinds x_p1_truth x_p1_caskets x_p1_wooers n_p2 r_p2 p3  o_r X hw  200 r7 0 h ls (lv_sub hl [2, 3, 4, 1, 0] rfl)
  · have h := ifn c9 h
    refine lv_lload_n hx hb dX5_readingsOf_20 rfl (lv_at hl 0 rfl) ?_
    refine va_gets (C := RX5) hx hb hC.2.2.2.1.1 va_S.rf hown (hts (.fieldLink RX5 268 "CasketLines" "TRUE_MANY" "[J") (by decide +kernel)) (fun _ h9 => h9) dX5_readingsOf_21 ?_
    refine lv_aload_n hx hb dX5_readingsOf_24 rfl (lv_at hl 1 rfl) ?_
    refine va_get (D := E.1) (ci := 1) (v := .int x_p1_truth) (C := RX1) (T := TX1) (N := 5) hx hb hts hiX1 hown hK hP 0 rfl rfl 0 (by decide) (hts (.fieldLink RX5 257 "CasketLines$House" "truth" "I") (by decide +kernel)) (fun _ h9 => h9) rfl dX5_readingsOf_25 ?_
    obtain ⟨r10, g11, h⟩ := bnd h
    refine rcST (As := [.ref (eM E), .int x_p1_truth]) (rest := [.long r7]) ⟨hx, hb, hml, hown, hts⟩ (k_X5_maskAt_T (l := l) (E := E) (eM E) 5 tabM x_p1_truth r10 g11) (va_cwS 2 hts gX5_readingsOf_X5_maskAt rfl rfl rfl (by decide +kernel) ⟨Nat.le_of_ble_eq_true rfl, Nat.le_of_ble_eq_true rfl⟩) hC.2.2.2.1.2 rfl hl.1 rfl (Nat.le_of_ble_eq_true rfl) dX5_readingsOf_28 ⟨Nat.zero_le _, Nat.zero_le _⟩ ?_
    refine lv_land hx hb dX5_readingsOf_31 ?_
    refine lv_lstore_n (lv' := [(3, .long (r7 &&& r10)), (0, .ref a_p1), (1, .ref a_p2), (2, .int p3)]) hx hb dX5_readingsOf_32 rfl hl (by decide) rfl (fun ls hl => ?_)
    refine lv_iconst (v := 0) hx hb dX5_readingsOf_33 (by decide) ?_
    refine lv_istore (lv' := [(5, .int 0), (3, .long (r7 &&& r10)), (0, .ref a_p1), (1, .ref a_p2), (2, .int p3)]) hx hb dX5_readingsOf_34 hl (by decide) rfl (fun ls hl => ?_)
    exact w_X5_readingsOf_36 a_p1 a_p2 a_p1_metals a_p1_kinds x_p1_truth x_p1_caskets x_p1_wooers n_p2 r_p2 p3  o_r X hw  200 (r7 &&& r10) 0 h ls (lv_sub hl [2, 3, 4, 1, 0] rfl)
set_option maxHeartbeats 4000000 in
set_option maxRecDepth 100000 in
theorem k_X5_readingsOf {l : Launch} {E : Ev} (a_p1 a_p2 a_p1_metals a_p1_kinds : Nat) (x_p1_truth : Int32) (x_p1_caskets : Int32) (x_p1_wooers : Int32) (n_p2 : Nat) (r_p2 : Nat → Int32) (p3 : Int32) (o_r : Int64) (hf : f_X5_readingsOf x_p1_truth x_p1_caskets n_p2 r_p2 p3 = some o_r) : Met l yX5_readingsOf wsX5_readingsOf ({ frames := 2, cells := 0, slots := 0, locals := 48 }) (Pr E [.ref a_p1, .ref a_p2, .int p3] [(a_p1, .inr (1, [.int x_p1_truth, .int x_p1_caskets, .int x_p1_wooers, .ref a_p1_metals, .ref a_p1_kinds])), (a_p2, .inl (E.2.1, n_p2, .inl r_p2))]) (Qr (some (.long o_r))) 0 0 (fun _ => False) := by
  refine Met.ofW (cc := cX5_readingsOf) (maxL := 6) (ret := (some .long)) (by decide) rfl ?_
  intro p e s m args below meth c s₁ B hml hv
  obtain ⟨rfl, hw⟩ := hv
  have X := Cxt.of B hml
  have hl := lv_entry ([.ref a_p1, .ref a_p2, .int p3]) (n := 6) (Nat.le_of_ble_eq_true rfl)
  rw [lg_entry_eq]
  exact w_X5_readingsOf a_p1 a_p2 a_p1_metals a_p1_kinds x_p1_truth x_p1_caskets x_p1_wooers n_p2 r_p2 p3 o_r X hw hf hl
set_option maxHeartbeats 4000000 in
set_option maxRecDepth 100000 in
theorem w_X5_fitsOf_4_b {p : Program} {l : Launch} {e : Env} {s : State} {m : MethodId} {args : Array Value} {below : List Frame} {meth : Method} {c : Code} {E : Ev} (v0 : Int64) (o_r : Int32) (X : Cxt p s m args meth c cX5_fitsOf 4 wsX5_fitsOf RX5 (some .int)) (hw : wd E [] s s.heap) (k4 : Int32 × Int32 → Option (Int32)) (hk4 : ∀ (v2 : Int32) (v3 : Int32), k4 (v2, v3) = some o_r → ∀ (ls : Array Slot), lv_has ls 4 [(0, .long v0), (2, .int v2), (3, .int v3)] → W p l e { frames := 1, cells := 0, slots := 0, locals := 20 } s m args below meth c s.heap [] 0 0 (MQ below (Qr (some (.int o_r))) args s 0 0 (fun _ => False)) (F0 m 4 ls [])) (v2 : Int32) (v3 : Int32) (h : f_X5_fitsOf_4_b v0 k4 v2 v3 = some o_r) {ls : Array Slot} (hl : lv_has ls 4 [(0, .long v0), (2, .int v2), (3, .int v3)]) : W p l e { frames := 1, cells := 0, slots := 0, locals := 20 } s m args below meth c s.heap [] 0 0 (MQ below (Qr (some (.int o_r))) args s 0 0 (fun _ => False)) (F0 m 4 ls []) := by
  obtain ⟨⟨hx, hb, hml, hown, hts⟩, hr, hlocks⟩ := id X
  obtain ⟨hC, hP⟩ := id hw
  unfold f_X5_fitsOf_4_b at h
  refine lv_iload_n hx hb dX5_fitsOf_4 rfl (lv_at hl 2 rfl) ?_
  refine lv_iconst (v := 4) hx hb dX5_fitsOf_5 (by decide) ?_
  refine lv_icmp_ge (tgt := 32) hx hb dX5_fitsOf_6 (by decide) (fun c1 => ?_) (fun c1 => ?_)
  · have h := ifp c1 h
    refine lv_iload_n hx hb dX5_fitsOf_32 rfl (lv_at hl 1 rfl) ?_
    exact W.iret hx hb hr (fun t ht _ => ⟨by cases h; rfl, ht⟩) (fun _ hq => absurd hq List.not_mem_nil) dX5_fitsOf_33
  · have h := ifn c1 h
    refine lv_lload_n hx hb dX5_fitsOf_9 rfl (lv_at hl 0 rfl) ?_
    refine lv_iload_n hx hb dX5_fitsOf_10 rfl (lv_at hl 2 rfl) ?_
    obtain ⟨r2, g3, h⟩ := bnd h
    refine rcS (As := [.int v3]) (rest := [.long v0]) ⟨hx, hb, hml, hown, hts⟩ (k_X5_worldsWith (l := l) (E := E) v3 r2 g3) (va_cwS 1 hts gX5_fitsOf_X5_worldsWith rfl rfl rfl (by decide +kernel) ⟨Nat.le_of_ble_eq_true rfl, Nat.le_of_ble_eq_true rfl⟩) hC hP [] rfl rfl hl.1 rfl (Nat.le_of_ble_eq_true rfl) dX5_fitsOf_11 ⟨Nat.zero_le _, Nat.zero_le _⟩ ?_
    refine lv_land hx hb dX5_fitsOf_14 ?_
    refine lv_lconst (v := 0) hx hb dX5_fitsOf_15 (by decide) ?_
    refine W.lcmp hx hb dX5_fitsOf_16 ?_
    refine lv_if_eq (tgt := 26) hx hb dX5_fitsOf_17 (by decide) (fun c4 => ?_) (fun c4 => ?_)
    · have h := ifp c4 h
      refine lv_iinc (v := (v3 + 1)) (lv' := [(3, .int (v3 + 1)), (0, .long v0), (2, .int v2)]) hx hb dX5_fitsOf_26 hl (k := 2) rfl rfl (by decide) rfl (fun ls hl => ?_)
      refine lv_goto (tgt := 4) hx hb dX5_fitsOf_29 (by decide) ?_
      exact hk4 v2 (v3 + 1) h ls (lv_sub hl [1, 2, 0] rfl)
    · have h := ifn c4 h
      refine lv_iload_n hx hb dX5_fitsOf_20 rfl (lv_at hl 1 rfl) ?_
      refine lv_iconst (v := 1) hx hb dX5_fitsOf_21 (by decide) ?_
      refine lv_iload_n hx hb dX5_fitsOf_22 rfl (lv_at hl 2 rfl) ?_
      refine lv_ishl hx hb dX5_fitsOf_23 ?_
      refine lv_ior hx hb dX5_fitsOf_24 ?_
      refine lv_istore_n (lv' := [(2, .int (v2 ||| ((1 : Int32) <<< (v3 &&& 31)))), (0, .long v0), (3, .int v3)]) hx hb dX5_fitsOf_25 rfl hl (by decide) rfl (fun ls hl => ?_)
      refine lv_iinc (v := (v3 + 1)) (lv' := [(3, .int (v3 + 1)), (2, .int (v2 ||| ((1 : Int32) <<< (v3 &&& 31)))), (0, .long v0)]) hx hb dX5_fitsOf_26 hl (k := 2) rfl rfl (by decide) rfl (fun ls hl => ?_)
      refine lv_goto (tgt := 4) hx hb dX5_fitsOf_29 (by decide) ?_
      exact hk4 (v2 ||| ((1 : Int32) <<< (v3 &&& 31))) (v3 + 1) h ls (lv_sub hl [2, 1, 0] rfl)
set_option maxHeartbeats 4000000 in
set_option maxRecDepth 100000 in
theorem w_X5_fitsOf_4 {p : Program} {l : Launch} {e : Env} {s : State} {m : MethodId} {args : Array Value} {below : List Frame} {meth : Method} {c : Code} {E : Ev} (v0 : Int64) (o_r : Int32) (X : Cxt p s m args meth c cX5_fitsOf 4 wsX5_fitsOf RX5 (some .int)) (hw : wd E [] s s.heap) : ∀ (n : Nat) (v2 : Int32) (v3 : Int32), f_X5_fitsOf_4 v0 n v2 v3 = some o_r → ∀ (ls : Array Slot), lv_has ls 4 [(0, .long v0), (2, .int v2), (3, .int v3)] → W p l e { frames := 1, cells := 0, slots := 0, locals := 20 } s m args below meth c s.heap [] 0 0 (MQ below (Qr (some (.int o_r))) args s 0 0 (fun _ => False)) (F0 m 4 ls []) := by
  intro n
  induction n with
  | zero =>
    intro v2 v3 h
    exact (rk_z _ _ h).elim
  | succ n ih =>
    intro v2 v3 h ls hl
    exact w_X5_fitsOf_4_b   v0  o_r X hw  (rk (fun k x => f_X5_fitsOf_4_b v0  k (x.1) (x.2)) n) (fun v2 v3 hh => ih v2 v3 hh) v2 v3 h hl
set_option maxHeartbeats 4000000 in
set_option maxRecDepth 100000 in
theorem w_X5_fitsOf {p : Program} {l : Launch} {e : Env} {s : State} {m : MethodId} {args : Array Value} {below : List Frame} {meth : Method} {c : Code} {E : Ev} (p1 : Int64) (o_r : Int32) (X : Cxt p s m args meth c cX5_fitsOf 4 wsX5_fitsOf RX5 (some .int)) (hw : wd E [] s s.heap) (h : f_X5_fitsOf p1 = some o_r) {ls : Array Slot} (hl : lv_has ls 4 [(0, .long p1)]) : W p l e { frames := 1, cells := 0, slots := 0, locals := 20 } s m args below meth c s.heap [] 0 0 (MQ below (Qr (some (.int o_r))) args s 0 0 (fun _ => False)) (F0 m 0 ls []) := by
  obtain ⟨⟨hx, hb, hml, hown, hts⟩, hr, hlocks⟩ := id X
  obtain ⟨hC, hP⟩ := id hw
  unfold f_X5_fitsOf at h
  refine lv_iconst (v := 0) hx hb dX5_fitsOf_0 (by decide) ?_
  refine lv_istore_n (lv' := [(2, .int 0), (0, .long p1)]) hx hb dX5_fitsOf_1 rfl hl (by decide) rfl (fun ls hl => ?_)
  refine lv_iconst (v := 0) hx hb dX5_fitsOf_2 (by decide) ?_
  refine lv_istore_n (lv' := [(3, .int 0), (2, .int 0), (0, .long p1)]) hx hb dX5_fitsOf_3 rfl hl (by decide) rfl (fun ls hl => ?_)
  exact w_X5_fitsOf_4   p1  o_r X hw  200 0 0 h ls (lv_sub hl [2, 1, 0] rfl)
set_option maxHeartbeats 4000000 in
set_option maxRecDepth 100000 in
theorem k_X5_fitsOf {l : Launch} {E : Ev} (p1 : Int64) (o_r : Int32) (hf : f_X5_fitsOf p1 = some o_r) : Met l yX5_fitsOf wsX5_fitsOf ({ frames := 1, cells := 0, slots := 0, locals := 20 }) (Pr E [.long p1] []) (Qr (some (.int o_r))) 0 0 (fun _ => False) := by
  refine Met.ofW (cc := cX5_fitsOf) (maxL := 4) (ret := (some .int)) (by decide) rfl ?_
  intro p e s m args below meth c s₁ B hml hv
  obtain ⟨rfl, hw⟩ := hv
  have X := Cxt.of B hml
  have hl := lv_entry ([.long p1]) (n := 4) (Nat.le_of_ble_eq_true rfl)
  rw [lg_entry_eq]
  exact w_X5_fitsOf   p1 o_r X hw hf hl
set_option maxHeartbeats 4000000 in
set_option maxRecDepth 100000 in
theorem w_X4_readings {p : Program} {l : Launch} {e : Env} {s : State} {m : MethodId} {args : Array Value} {below : List Frame} {meth : Method} {c : Code} {E : Ev} (a_t a_p1 a_t_lines a_t_picked a_p1_metals a_p1_kinds : Nat) (x_t_picture : Int32) (x_t_sung : Int32) (x_t_tried : Int32) (x_t_wed : Int32) (r_t_lines : Nat → Int32) (x_p1_truth : Int32) (x_p1_caskets : Int32) (x_p1_wooers : Int32) (o_r : Int64) (X : Cxt p s m args meth c cX4_readings 2 wsX4_readings RX4 (some .long)) (hw : wd E [(a_t, .inr (4, [.ref a_t_lines, .int x_t_picture, .int x_t_sung, .int x_t_tried, .int x_t_wed, .ref a_t_picked])), (a_t_lines, .inl (E.2.1, 4, .inl r_t_lines)), (a_p1, .inr (1, [.int x_p1_truth, .int x_p1_caskets, .int x_p1_wooers, .ref a_p1_metals, .ref a_p1_kinds]))] s s.heap) (h : f_X4_readings r_t_lines x_p1_truth x_p1_caskets = some o_r) {ls : Array Slot} (hl : lv_has ls 2 [(0, .ref a_t), (1, .ref a_p1)]) : W p l e { frames := 3, cells := 0, slots := 0, locals := 73 } s m args below meth c s.heap [] 0 0 (MQ below (Qr (some (.long o_r))) args s 0 0 (fun _ => False)) (F0 m 0 ls []) := by
  obtain ⟨⟨hx, hb, hml, hown, hts⟩, hr, hlocks⟩ := id X
  obtain ⟨hC, hP⟩ := id hw
  have hiX1 : ∀ w ∈ u_ws RX1 TX1 5, w ∈ wsX4_readings := by decide +kernel
  have hiX4 : ∀ w ∈ u_ws RX4 TX4 6, w ∈ wsX4_readings := by decide +kernel
  have hK := hC.1
  unfold f_X4_readings at h
  refine lv_aload_n hx hb dX4_readings_0 rfl (lv_at hl 1 rfl) ?_
  refine lv_aload_n hx hb dX4_readings_1 rfl (lv_at hl 0 rfl) ?_
  refine va_get (D := E.1) (ci := 4) (v := .ref a_t_lines) (C := RX4) (T := TX4) (N := 6) hx hb hts hiX4 hown hK hP 0 rfl rfl 0 (by decide) (hts (.fieldLink RX4 9 "CasketLines$Standing" "lines" "[I") (by decide +kernel)) (fun _ h9 => h9) rfl dX4_readings_2 ?_
  refine lv_bipush (v := 15) hx hb dX4_readings_5 (by decide) ?_
  obtain ⟨r1, g2, h⟩ := bnd h
  refine rcSN (As := [.ref a_p1, .ref a_t_lines, .int 15]) (rest := []) ⟨hx, hb, hml, hown, hts⟩ (k_X5_readingsOf (l := l) (E := E) a_p1 a_t_lines a_p1_metals a_p1_kinds x_p1_truth x_p1_caskets x_p1_wooers 4 r_t_lines 15 r1 g2) ⟨va_cnB 3 hts gX4_readings_X5_readingsOf_n36 rfl rfl rfl (hC.2.1 (RX4, 36, yX5_readingsOf, "CasketLines") (List.mem_of_getElem? (i := 12) rfl)) (hts (.initialized RX5) (by decide +kernel)) (by decide +kernel) ⟨Nat.le_of_ble_eq_true rfl, Nat.le_of_ble_eq_true rfl⟩, hts (.static yX5_readingsOf) (by decide +kernel), trivial⟩ hC hP [2, 1] rfl rfl hl.1 rfl (Nat.le_of_ble_eq_true rfl) dX4_readings_7 ⟨Nat.zero_le _, Nat.zero_le _⟩ ?_
  exact W.lret hx hb hr (fun t ht _ => ⟨by cases h; rfl, ht⟩) (fun _ hq => absurd hq List.not_mem_nil) dX4_readings_10
set_option maxHeartbeats 4000000 in
set_option maxRecDepth 100000 in
theorem k_X4_readings {l : Launch} {E : Ev} (a_t a_p1 a_t_lines a_t_picked a_p1_metals a_p1_kinds : Nat) (x_t_picture : Int32) (x_t_sung : Int32) (x_t_tried : Int32) (x_t_wed : Int32) (r_t_lines : Nat → Int32) (x_p1_truth : Int32) (x_p1_caskets : Int32) (x_p1_wooers : Int32) (o_r : Int64) (hf : f_X4_readings r_t_lines x_p1_truth x_p1_caskets = some o_r) : Met l yX4_readings wsX4_readings ({ frames := 3, cells := 0, slots := 0, locals := 73 }) (Pr E [.ref a_t, .ref a_p1] [(a_t, .inr (4, [.ref a_t_lines, .int x_t_picture, .int x_t_sung, .int x_t_tried, .int x_t_wed, .ref a_t_picked])), (a_t_lines, .inl (E.2.1, 4, .inl r_t_lines)), (a_p1, .inr (1, [.int x_p1_truth, .int x_p1_caskets, .int x_p1_wooers, .ref a_p1_metals, .ref a_p1_kinds]))]) (Qr (some (.long o_r))) 0 0 (fun _ => False) := by
  refine Met.ofW (cc := cX4_readings) (maxL := 2) (ret := (some .long)) (by decide) rfl ?_
  intro p e s m args below meth c s₁ B hml hv
  obtain ⟨rfl, hw⟩ := hv
  have X := Cxt.of B hml
  have hl := lv_entry ([.ref a_t, .ref a_p1]) (n := 2) (Nat.le_of_ble_eq_true rfl)
  rw [lg_entry_eq]
  exact w_X4_readings a_t a_p1 a_t_lines a_t_picked a_p1_metals a_p1_kinds x_t_picture x_t_sung x_t_tried x_t_wed r_t_lines x_p1_truth x_p1_caskets x_p1_wooers  o_r X hw hf hl
set_option maxHeartbeats 4000000 in
set_option maxRecDepth 100000 in
theorem w_X4_fitting {p : Program} {l : Launch} {e : Env} {s : State} {m : MethodId} {args : Array Value} {below : List Frame} {meth : Method} {c : Code} {E : Ev} (a_t a_p1 a_t_lines a_t_picked a_p1_metals a_p1_kinds : Nat) (x_t_picture : Int32) (x_t_sung : Int32) (x_t_tried : Int32) (x_t_wed : Int32) (r_t_lines : Nat → Int32) (x_p1_truth : Int32) (x_p1_caskets : Int32) (x_p1_wooers : Int32) (o_r : Int32) (X : Cxt p s m args meth c cX4_fitting 2 wsX4_fitting RX4 (some .int)) (hw : wd E [(a_t, .inr (4, [.ref a_t_lines, .int x_t_picture, .int x_t_sung, .int x_t_tried, .int x_t_wed, .ref a_t_picked])), (a_t_lines, .inl (E.2.1, 4, .inl r_t_lines)), (a_p1, .inr (1, [.int x_p1_truth, .int x_p1_caskets, .int x_p1_wooers, .ref a_p1_metals, .ref a_p1_kinds]))] s s.heap) (h : f_X4_fitting r_t_lines x_p1_truth x_p1_caskets = some o_r) {ls : Array Slot} (hl : lv_has ls 2 [(0, .ref a_t), (1, .ref a_p1)]) : W p l e { frames := 3, cells := 0, slots := 0, locals := 73 } s m args below meth c s.heap [] 0 0 (MQ below (Qr (some (.int o_r))) args s 0 0 (fun _ => False)) (F0 m 0 ls []) := by
  obtain ⟨⟨hx, hb, hml, hown, hts⟩, hr, hlocks⟩ := id X
  obtain ⟨hC, hP⟩ := id hw
  have hiX1 : ∀ w ∈ u_ws RX1 TX1 5, w ∈ wsX4_fitting := by decide +kernel
  have hiX4 : ∀ w ∈ u_ws RX4 TX4 6, w ∈ wsX4_fitting := by decide +kernel
  have hK := hC.1
  unfold f_X4_fitting at h
  refine lv_aload_n hx hb dX4_fitting_0 rfl (lv_at hl 1 rfl) ?_
  refine lv_aload_n hx hb dX4_fitting_1 rfl (lv_at hl 0 rfl) ?_
  refine va_get (D := E.1) (ci := 4) (v := .ref a_t_lines) (C := RX4) (T := TX4) (N := 6) hx hb hts hiX4 hown hK hP 0 rfl rfl 0 (by decide) (hts (.fieldLink RX4 9 "CasketLines$Standing" "lines" "[I") (by decide +kernel)) (fun _ h9 => h9) rfl dX4_fitting_2 ?_
  refine lv_bipush (v := 15) hx hb dX4_fitting_5 (by decide) ?_
  obtain ⟨r1, g2, h⟩ := bnd h
  refine rcSN (As := [.ref a_p1, .ref a_t_lines, .int 15]) (rest := []) ⟨hx, hb, hml, hown, hts⟩ (k_X5_readingsOf (l := l) (E := E) a_p1 a_t_lines a_p1_metals a_p1_kinds x_p1_truth x_p1_caskets x_p1_wooers 4 r_t_lines 15 r1 g2) ⟨va_cnB 3 hts gX4_fitting_X5_readingsOf_n36 rfl rfl rfl (hC.2.1 (RX4, 36, yX5_readingsOf, "CasketLines") (List.mem_of_getElem? (i := 12) rfl)) (hts (.initialized RX5) (by decide +kernel)) (by decide +kernel) ⟨Nat.le_of_ble_eq_true rfl, Nat.le_of_ble_eq_true rfl⟩, hts (.static yX5_readingsOf) (by decide +kernel), trivial⟩ hC hP [2, 1] rfl rfl hl.1 rfl (Nat.le_of_ble_eq_true rfl) dX4_fitting_7 ⟨Nat.zero_le _, Nat.zero_le _⟩ ?_
  obtain ⟨r3, g4, h⟩ := bnd h
  refine rcSN (As := [.long r1]) (rest := []) ⟨hx, hb, hml, hown, hts⟩ (k_X5_fitsOf (l := l) (E := E) r1 r3 g4) ⟨va_cnB 1 hts gX4_fitting_X5_fitsOf_n40 rfl rfl rfl (hC.2.1 (RX4, 40, yX5_fitsOf, "CasketLines") (List.mem_of_getElem? (i := 13) rfl)) (hts (.initialized RX5) (by decide +kernel)) (by decide +kernel) ⟨Nat.le_of_ble_eq_true rfl, Nat.le_of_ble_eq_true rfl⟩, hts (.static yX5_fitsOf) (by decide +kernel), trivial⟩ hC hP [] rfl rfl hl.1 rfl (Nat.le_of_ble_eq_true rfl) dX4_fitting_10 ⟨Nat.zero_le _, Nat.zero_le _⟩ ?_
  exact W.iret hx hb hr (fun t ht _ => ⟨by cases h; rfl, ht⟩) (fun _ hq => absurd hq List.not_mem_nil) dX4_fitting_13
set_option maxHeartbeats 4000000 in
set_option maxRecDepth 100000 in
theorem k_X4_fitting {l : Launch} {E : Ev} (a_t a_p1 a_t_lines a_t_picked a_p1_metals a_p1_kinds : Nat) (x_t_picture : Int32) (x_t_sung : Int32) (x_t_tried : Int32) (x_t_wed : Int32) (r_t_lines : Nat → Int32) (x_p1_truth : Int32) (x_p1_caskets : Int32) (x_p1_wooers : Int32) (o_r : Int32) (hf : f_X4_fitting r_t_lines x_p1_truth x_p1_caskets = some o_r) : Met l yX4_fitting wsX4_fitting ({ frames := 3, cells := 0, slots := 0, locals := 73 }) (Pr E [.ref a_t, .ref a_p1] [(a_t, .inr (4, [.ref a_t_lines, .int x_t_picture, .int x_t_sung, .int x_t_tried, .int x_t_wed, .ref a_t_picked])), (a_t_lines, .inl (E.2.1, 4, .inl r_t_lines)), (a_p1, .inr (1, [.int x_p1_truth, .int x_p1_caskets, .int x_p1_wooers, .ref a_p1_metals, .ref a_p1_kinds]))]) (Qr (some (.int o_r))) 0 0 (fun _ => False) := by
  refine Met.ofW (cc := cX4_fitting) (maxL := 2) (ret := (some .int)) (by decide) rfl ?_
  intro p e s m args below meth c s₁ B hml hv
  obtain ⟨rfl, hw⟩ := hv
  have X := Cxt.of B hml
  have hl := lv_entry ([.ref a_t, .ref a_p1]) (n := 2) (Nat.le_of_ble_eq_true rfl)
  rw [lg_entry_eq]
  exact w_X4_fitting a_t a_p1 a_t_lines a_t_picked a_p1_metals a_p1_kinds x_t_picture x_t_sung x_t_tried x_t_wed r_t_lines x_p1_truth x_p1_caskets x_p1_wooers  o_r X hw hf hl
set_option maxHeartbeats 4000000 in
set_option maxRecDepth 100000 in
theorem w_X4_fittingBy {p : Program} {l : Launch} {e : Env} {s : State} {m : MethodId} {args : Array Value} {below : List Frame} {meth : Method} {c : Code} {E : Ev} (a_t a_p1 a_t_lines a_t_picked a_p1_metals a_p1_kinds : Nat) (x_t_picture : Int32) (x_t_sung : Int32) (x_t_tried : Int32) (x_t_wed : Int32) (r_t_lines : Nat → Int32) (x_p1_truth : Int32) (x_p1_caskets : Int32) (x_p1_wooers : Int32) (p2 : Int32) (o_r : Int32) (X : Cxt p s m args meth c cX4_fittingBy 3 wsX4_fittingBy RX4 (some .int)) (hw : wd E [(a_t, .inr (4, [.ref a_t_lines, .int x_t_picture, .int x_t_sung, .int x_t_tried, .int x_t_wed, .ref a_t_picked])), (a_t_lines, .inl (E.2.1, 4, .inl r_t_lines)), (a_p1, .inr (1, [.int x_p1_truth, .int x_p1_caskets, .int x_p1_wooers, .ref a_p1_metals, .ref a_p1_kinds]))] s s.heap) (h : f_X4_fittingBy r_t_lines x_p1_truth x_p1_caskets p2 = some o_r) {ls : Array Slot} (hl : lv_has ls 3 [(0, .ref a_t), (1, .ref a_p1), (2, .int p2)]) : W p l e { frames := 3, cells := 0, slots := 0, locals := 73 } s m args below meth c s.heap [] 0 0 (MQ below (Qr (some (.int o_r))) args s 0 0 (fun _ => False)) (F0 m 0 ls []) := by
  obtain ⟨⟨hx, hb, hml, hown, hts⟩, hr, hlocks⟩ := id X
  obtain ⟨hC, hP⟩ := id hw
  have hiX1 : ∀ w ∈ u_ws RX1 TX1 5, w ∈ wsX4_fittingBy := by decide +kernel
  have hiX4 : ∀ w ∈ u_ws RX4 TX4 6, w ∈ wsX4_fittingBy := by decide +kernel
  have hK := hC.1
  unfold f_X4_fittingBy at h
  refine lv_aload_n hx hb dX4_fittingBy_0 rfl (lv_at hl 1 rfl) ?_
  refine lv_aload_n hx hb dX4_fittingBy_1 rfl (lv_at hl 0 rfl) ?_
  refine va_get (D := E.1) (ci := 4) (v := .ref a_t_lines) (C := RX4) (T := TX4) (N := 6) hx hb hts hiX4 hown hK hP 0 rfl rfl 0 (by decide) (hts (.fieldLink RX4 9 "CasketLines$Standing" "lines" "[I") (by decide +kernel)) (fun _ h9 => h9) rfl dX4_fittingBy_2 ?_
  refine lv_iload_n hx hb dX4_fittingBy_5 rfl (lv_at hl 2 rfl) ?_
  obtain ⟨r1, g2, h⟩ := bnd h
  refine rcSN (As := [.ref a_p1, .ref a_t_lines, .int p2]) (rest := []) ⟨hx, hb, hml, hown, hts⟩ (k_X5_readingsOf (l := l) (E := E) a_p1 a_t_lines a_p1_metals a_p1_kinds x_p1_truth x_p1_caskets x_p1_wooers 4 r_t_lines p2 r1 g2) ⟨va_cnB 3 hts gX4_fittingBy_X5_readingsOf_n36 rfl rfl rfl (hC.2.1 (RX4, 36, yX5_readingsOf, "CasketLines") (List.mem_of_getElem? (i := 12) rfl)) (hts (.initialized RX5) (by decide +kernel)) (by decide +kernel) ⟨Nat.le_of_ble_eq_true rfl, Nat.le_of_ble_eq_true rfl⟩, hts (.static yX5_readingsOf) (by decide +kernel), trivial⟩ hC hP [2, 1] rfl rfl hl.1 rfl (Nat.le_of_ble_eq_true rfl) dX4_fittingBy_6 ⟨Nat.zero_le _, Nat.zero_le _⟩ ?_
  obtain ⟨r3, g4, h⟩ := bnd h
  refine rcSN (As := [.long r1]) (rest := []) ⟨hx, hb, hml, hown, hts⟩ (k_X5_fitsOf (l := l) (E := E) r1 r3 g4) ⟨va_cnB 1 hts gX4_fittingBy_X5_fitsOf_n40 rfl rfl rfl (hC.2.1 (RX4, 40, yX5_fitsOf, "CasketLines") (List.mem_of_getElem? (i := 13) rfl)) (hts (.initialized RX5) (by decide +kernel)) (by decide +kernel) ⟨Nat.le_of_ble_eq_true rfl, Nat.le_of_ble_eq_true rfl⟩, hts (.static yX5_fitsOf) (by decide +kernel), trivial⟩ hC hP [] rfl rfl hl.1 rfl (Nat.le_of_ble_eq_true rfl) dX4_fittingBy_9 ⟨Nat.zero_le _, Nat.zero_le _⟩ ?_
  exact W.iret hx hb hr (fun t ht _ => ⟨by cases h; rfl, ht⟩) (fun _ hq => absurd hq List.not_mem_nil) dX4_fittingBy_12
set_option maxHeartbeats 4000000 in
set_option maxRecDepth 100000 in
theorem k_X4_fittingBy {l : Launch} {E : Ev} (a_t a_p1 a_t_lines a_t_picked a_p1_metals a_p1_kinds : Nat) (x_t_picture : Int32) (x_t_sung : Int32) (x_t_tried : Int32) (x_t_wed : Int32) (r_t_lines : Nat → Int32) (x_p1_truth : Int32) (x_p1_caskets : Int32) (x_p1_wooers : Int32) (p2 : Int32) (o_r : Int32) (hf : f_X4_fittingBy r_t_lines x_p1_truth x_p1_caskets p2 = some o_r) : Met l yX4_fittingBy wsX4_fittingBy ({ frames := 3, cells := 0, slots := 0, locals := 73 }) (Pr E [.ref a_t, .ref a_p1, .int p2] [(a_t, .inr (4, [.ref a_t_lines, .int x_t_picture, .int x_t_sung, .int x_t_tried, .int x_t_wed, .ref a_t_picked])), (a_t_lines, .inl (E.2.1, 4, .inl r_t_lines)), (a_p1, .inr (1, [.int x_p1_truth, .int x_p1_caskets, .int x_p1_wooers, .ref a_p1_metals, .ref a_p1_kinds]))]) (Qr (some (.int o_r))) 0 0 (fun _ => False) := by
  refine Met.ofW (cc := cX4_fittingBy) (maxL := 3) (ret := (some .int)) (by decide) rfl ?_
  intro p e s m args below meth c s₁ B hml hv
  obtain ⟨rfl, hw⟩ := hv
  have X := Cxt.of B hml
  have hl := lv_entry ([.ref a_t, .ref a_p1, .int p2]) (n := 3) (Nat.le_of_ble_eq_true rfl)
  rw [lg_entry_eq]
  exact w_X4_fittingBy a_t a_p1 a_t_lines a_t_picked a_p1_metals a_p1_kinds x_t_picture x_t_sung x_t_tried x_t_wed r_t_lines x_p1_truth x_p1_caskets x_p1_wooers p2 o_r X hw hf hl
set_option maxHeartbeats 4000000 in
set_option maxRecDepth 100000 in
theorem w_X4_mayTry {p : Program} {l : Launch} {e : Env} {s : State} {m : MethodId} {args : Array Value} {below : List Frame} {meth : Method} {c : Code} {E : Ev} (a_t a_p1 a_t_lines a_t_picked a_p1_metals a_p1_kinds : Nat) (x_t_picture : Int32) (x_t_sung : Int32) (x_t_tried : Int32) (x_t_wed : Int32) (x_p1_truth : Int32) (x_p1_caskets : Int32) (x_p1_wooers : Int32) (o_r : Int32) (X : Cxt p s m args meth c cX4_mayTry 2 wsX4_mayTry RX4 (some .boolean)) (hw : wd E [(a_t, .inr (4, [.ref a_t_lines, .int x_t_picture, .int x_t_sung, .int x_t_tried, .int x_t_wed, .ref a_t_picked])), (a_p1, .inr (1, [.int x_p1_truth, .int x_p1_caskets, .int x_p1_wooers, .ref a_p1_metals, .ref a_p1_kinds]))] s s.heap) (h : f_X4_mayTry x_t_tried x_t_wed x_p1_wooers = some o_r) {ls : Array Slot} (hl : lv_has ls 2 [(0, .ref a_t), (1, .ref a_p1)]) : W p l e { frames := 0, cells := 0, slots := 0, locals := 0 } s m args below meth c s.heap [] 0 0 (MQ below (Qr (some (.int o_r))) args s 0 0 (fun _ => False)) (F0 m 0 ls []) := by
  obtain ⟨⟨hx, hb, hml, hown, hts⟩, hr, hlocks⟩ := id X
  obtain ⟨hC, hP⟩ := id hw
  have hiX1 : ∀ w ∈ u_ws RX1 TX1 5, w ∈ wsX4_mayTry := by decide +kernel
  have hiX4 : ∀ w ∈ u_ws RX4 TX4 6, w ∈ wsX4_mayTry := by decide +kernel
  have hK := hC.1
  unfold f_X4_mayTry at h
  refine lv_aload_n hx hb dX4_mayTry_0 rfl (lv_at hl 0 rfl) ?_
  refine va_get (D := E.1) (ci := 4) (v := .int x_t_wed) (C := RX4) (T := TX4) (N := 6) hx hb hts hiX4 hown hK hP 0 rfl rfl 4 (by decide) (hts (.fieldLink RX4 32 "CasketLines$Standing" "wed" "Z") (by decide +kernel)) (fun _ h9 => h9) rfl dX4_mayTry_1 ?_
  refine lv_if_ne (tgt := 22) hx hb dX4_mayTry_4 (by decide) (fun c1 => ?_) (fun c1 => ?_)
  · have h := ifn c1 h
    refine lv_iconst (v := 0) hx hb dX4_mayTry_22 (by decide) ?_
    exact W.zret hx hb hr rfl (fun t ht _ => ⟨by cases h; rfl, ht⟩) (fun _ hq => absurd hq List.not_mem_nil) dX4_mayTry_23
  · have h := ifp c1 h
    refine lv_aload_n hx hb dX4_mayTry_7 rfl (lv_at hl 0 rfl) ?_
    refine va_get (D := E.1) (ci := 4) (v := .int x_t_tried) (C := RX4) (T := TX4) (N := 6) hx hb hts hiX4 hown hK hP 0 rfl rfl 3 (by decide) (hts (.fieldLink RX4 29 "CasketLines$Standing" "tried" "I") (by decide +kernel)) (fun _ h9 => h9) rfl dX4_mayTry_8 ?_
    refine lv_aload_n hx hb dX4_mayTry_11 rfl (lv_at hl 1 rfl) ?_
    refine va_get (D := E.1) (ci := 1) (v := .int x_p1_wooers) (C := RX1) (T := TX1) (N := 5) hx hb hts hiX1 hown hK hP 1 rfl rfl 2 (by decide) (hts (.fieldLink RX4 44 "CasketLines$House" "wooers" "I") (by decide +kernel)) (fun _ h9 => h9) rfl dX4_mayTry_12 ?_
    refine lv_icmp_ge (tgt := 22) hx hb dX4_mayTry_15 (by decide) (fun c2 => ?_) (fun c2 => ?_)
    · have h := ifp c2 h
      refine lv_iconst (v := 0) hx hb dX4_mayTry_22 (by decide) ?_
      exact W.zret hx hb hr rfl (fun t ht _ => ⟨by cases h; rfl, ht⟩) (fun _ hq => absurd hq List.not_mem_nil) dX4_mayTry_23
    · have h := ifn c2 h
      refine lv_iconst (v := 1) hx hb dX4_mayTry_18 (by decide) ?_
      refine lv_goto (tgt := 23) hx hb dX4_mayTry_19 (by decide) ?_
      exact W.zret hx hb hr rfl (fun t ht _ => ⟨by cases h; rfl, ht⟩) (fun _ hq => absurd hq List.not_mem_nil) dX4_mayTry_23
set_option maxHeartbeats 4000000 in
set_option maxRecDepth 100000 in
theorem k_X4_mayTry {l : Launch} {E : Ev} (a_t a_p1 a_t_lines a_t_picked a_p1_metals a_p1_kinds : Nat) (x_t_picture : Int32) (x_t_sung : Int32) (x_t_tried : Int32) (x_t_wed : Int32) (x_p1_truth : Int32) (x_p1_caskets : Int32) (x_p1_wooers : Int32) (o_r : Int32) (hf : f_X4_mayTry x_t_tried x_t_wed x_p1_wooers = some o_r) : Met l yX4_mayTry wsX4_mayTry ({ frames := 0, cells := 0, slots := 0, locals := 0 }) (Pr E [.ref a_t, .ref a_p1] [(a_t, .inr (4, [.ref a_t_lines, .int x_t_picture, .int x_t_sung, .int x_t_tried, .int x_t_wed, .ref a_t_picked])), (a_p1, .inr (1, [.int x_p1_truth, .int x_p1_caskets, .int x_p1_wooers, .ref a_p1_metals, .ref a_p1_kinds]))]) (Qr (some (.int o_r))) 0 0 (fun _ => False) := by
  refine Met.ofW (cc := cX4_mayTry) (maxL := 2) (ret := (some .boolean)) (by decide) rfl ?_
  intro p e s m args below meth c s₁ B hml hv
  obtain ⟨rfl, hw⟩ := hv
  have X := Cxt.of B hml
  have hl := lv_entry ([.ref a_t, .ref a_p1]) (n := 2) (Nat.le_of_ble_eq_true rfl)
  rw [lg_entry_eq]
  exact w_X4_mayTry a_t a_p1 a_t_lines a_t_picked a_p1_metals a_p1_kinds x_t_picture x_t_sung x_t_tried x_t_wed x_p1_truth x_p1_caskets x_p1_wooers  o_r X hw hf hl
set_option maxHeartbeats 4000000 in
set_option maxRecDepth 100000 in
theorem w_X4_turnSong {p : Program} {l : Launch} {e : Env} {s : State} {m : MethodId} {args : Array Value} {below : List Frame} {meth : Method} {c : Code} {E : Ev} {A : Nat → Prop} (a_t a_t_lines a_t_picked : Nat) (x_t_picture : Int32) (x_t_sung : Int32) (x_t_tried : Int32) (x_t_wed : Int32) (p1 : Int32) (o_x_t_sung : Int32) (X : Cxt p s m args meth c cX4_turnSong 2 wsX4_turnSong RX4 none) (hw : Cw E A s [(a_t, .inr (4, [.ref a_t_lines, .int x_t_picture, .int x_t_sung, .int x_t_tried, .int x_t_wed, .ref a_t_picked]))]) (h : f_X4_turnSong x_t_sung p1 = some o_x_t_sung) {H : Heap} {locs : List Loc} (hP : va_P E.1 vwCl [(a_t, .inr (4, [.ref a_t_lines, .int x_t_picture, .int x_t_sung, .int x_t_tried, .int x_t_wed, .ref a_t_picked]))] H) (hS : va_S A s.heap H locs) {ls : Array Slot} (hl : lv_has ls 2 [(0, .ref a_t), (1, .int p1)]) : W p l e { frames := 0, cells := 0, slots := 0, locals := 0 } s m args below meth c H locs 0 0 (MQ below (Qw E none [(a_t, .inr (4, [.ref a_t_lines, .int x_t_picture, .int o_x_t_sung, .int x_t_tried, .int x_t_wed, .ref a_t_picked]))] A) args s 0 0 A) (F0 m 0 ls []) := by
  obtain ⟨⟨hx, hb, hml, hown, hts⟩, hr, hlocks⟩ := id X
  obtain ⟨hC, hAB, hA, hB, hD⟩ := id hw
  have hiX4 : ∀ w ∈ u_ws RX4 TX4 6, w ∈ wsX4_turnSong := by decide +kernel
  have hK := hC.1
  unfold f_X4_turnSong at h
  refine lv_aload_n hx hb dX4_turnSong_0 rfl (lv_at hl 0 rfl) ?_
  refine lv_dup hx hb dX4_turnSong_1 rfl ?_
  refine va_get (D := E.1) (ci := 4) (v := .int x_t_sung) (C := RX4) (T := TX4) (N := 6) hx hb hts hiX4 hown hK hP 0 rfl rfl 2 (by decide) (hts (.fieldLink RX4 26 "CasketLines$Standing" "sung" "I") (by decide +kernel)) (fun _ h9 => h9) rfl dX4_turnSong_2 ?_
  refine lv_iconst (v := 1) hx hb dX4_turnSong_5 (by decide) ?_
  refine lv_iload_n hx hb dX4_turnSong_6 rfl (lv_at hl 1 rfl) ?_
  refine lv_ishl hx hb dX4_turnSong_7 ?_
  refine lv_ixor hx hb dX4_turnSong_8 ?_
  refine va_put (D := E.1) (ci := 4) (v := .int (x_t_sung ^^^ ((1 : Int32) <<< (p1 &&& 31)))) (ty := .int) (C := RX4) (T := TX4) (N := 6) hx hb hts hiX4 tyX4 tyX4_ok nmX4 hown hK hP (hD.adr rfl) hS 0 rfl rfl 2 (by decide) (hts (.fieldLink RX4 26 "CasketLines$Standing" "sung" "I") (by decide +kernel)) (fun _ h9 => h9) rfl (by decide +kernel) rfl rfl (Nat.le_of_ble_eq_true rfl) dX4_turnSong_9 (fun H locs hP _ hS => ?_)
  have hP : va_P E.1 vwCl [(a_t, .inr (4, [.ref a_t_lines, .int x_t_picture, .int (x_t_sung ^^^ ((1 : Int32) <<< (p1 &&& 31))), .int x_t_tried, .int x_t_wed, .ref a_t_picked]))] H := hP
  exact W.vret hx hb hr (fun t ht _ => ⟨by cases h; rfl, by rw [ht]; cases h; exact hP, hS.F ht⟩) hS.2.2 dX4_turnSong_12
set_option maxHeartbeats 4000000 in
set_option maxRecDepth 100000 in
theorem k_X4_turnSong {l : Launch} {E : Ev} (a_t a_t_lines a_t_picked : Nat) (x_t_picture : Int32) (x_t_sung : Int32) (x_t_tried : Int32) (x_t_wed : Int32) (p1 : Int32) (sz : Nat) (o_x_t_sung : Int32) (hf : f_X4_turnSong x_t_sung p1 = some o_x_t_sung) : Met l yX4_turnSong wsX4_turnSong ({ frames := 0, cells := 0, slots := 0, locals := 0 }) (Pw E [.ref a_t, .int p1] [(a_t, .inr (4, [.ref a_t_lines, .int x_t_picture, .int x_t_sung, .int x_t_tried, .int x_t_wed, .ref a_t_picked]))] sz) (Qw E none [(a_t, .inr (4, [.ref a_t_lines, .int x_t_picture, .int o_x_t_sung, .int x_t_tried, .int x_t_wed, .ref a_t_picked]))] (va_A [(a_t, .inr (4, [.ref a_t_lines, .int x_t_picture, .int x_t_sung, .int x_t_tried, .int x_t_wed, .ref a_t_picked]))] sz)) 0 0 (va_A [(a_t, .inr (4, [.ref a_t_lines, .int x_t_picture, .int x_t_sung, .int x_t_tried, .int x_t_wed, .ref a_t_picked]))] sz) := by
  refine Met.ofW (cc := cX4_turnSong) (maxL := 2) (ret := none) (by decide) rfl ?_
  intro p e s m args below meth c s₁ B hml hv
  obtain ⟨rfl, rfl, hw, hP⟩ := Pw.start hv
  have X := Cxt.of B hml
  have hl := lv_entry ([.ref a_t, .int p1]) (n := 2) (Nat.le_of_ble_eq_true rfl)
  rw [lg_entry_eq]
  exact w_X4_turnSong a_t a_t_lines a_t_picked x_t_picture x_t_sung x_t_tried x_t_wed p1 o_x_t_sung X hw hf hP va_S.rf hl
set_option maxHeartbeats 4000000 in
set_option maxRecDepth 100000 in
theorem w_X4_copyFrom {p : Program} {l : Launch} {e : Env} {s : State} {m : MethodId} {args : Array Value} {below : List Frame} {meth : Method} {c : Code} {E : Ev} {A : Nat → Prop} (a_t a_p1 a_t_lines a_t_picked a_p1_lines a_p1_picked : Nat) (x_t_picture : Int32) (x_t_sung : Int32) (x_t_tried : Int32) (x_t_wed : Int32) (r_t_lines : Nat → Int32) (r_t_picked : Nat → Int32) (x_p1_picture : Int32) (x_p1_sung : Int32) (x_p1_tried : Int32) (x_p1_wed : Int32) (r_p1_lines : Nat → Int32) (r_p1_picked : Nat → Int32) (o_x_t_picture : Int32) (o_x_t_sung : Int32) (o_x_t_tried : Int32) (o_x_t_wed : Int32) (o_r_t_lines : Nat → Int32) (o_r_t_picked : Nat → Int32) (X : Cxt p s m args meth c cX4_copyFrom 2 wsX4_copyFrom RX4 none) (hw : Cw E A s [(a_t, .inr (4, [.ref a_t_lines, .int x_t_picture, .int x_t_sung, .int x_t_tried, .int x_t_wed, .ref a_t_picked])), (a_t_lines, .inl (E.2.1, 4, .inl r_t_lines)), (a_t_picked, .inl (E.2.1, 6, .inl r_t_picked)), (a_p1, .inr (4, [.ref a_p1_lines, .int x_p1_picture, .int x_p1_sung, .int x_p1_tried, .int x_p1_wed, .ref a_p1_picked])), (a_p1_lines, .inl (E.2.1, 4, .inl r_p1_lines)), (a_p1_picked, .inl (E.2.1, 6, .inl r_p1_picked))]) (h : f_X4_copyFrom x_t_picture x_t_sung x_t_tried x_t_wed r_t_lines r_t_picked x_p1_picture x_p1_sung x_p1_tried x_p1_wed r_p1_lines r_p1_picked = some (o_x_t_picture, o_x_t_sung, o_x_t_tried, o_x_t_wed, o_r_t_lines, o_r_t_picked)) {H : Heap} {locs : List Loc} (hP : va_P E.1 vwCl [(a_t, .inr (4, [.ref a_t_lines, .int x_t_picture, .int x_t_sung, .int x_t_tried, .int x_t_wed, .ref a_t_picked])), (a_t_lines, .inl (E.2.1, 4, .inl r_t_lines)), (a_t_picked, .inl (E.2.1, 6, .inl r_t_picked)), (a_p1, .inr (4, [.ref a_p1_lines, .int x_p1_picture, .int x_p1_sung, .int x_p1_tried, .int x_p1_wed, .ref a_p1_picked])), (a_p1_lines, .inl (E.2.1, 4, .inl r_p1_lines)), (a_p1_picked, .inl (E.2.1, 6, .inl r_p1_picked))] H) (hS : va_S A s.heap H locs) {ls : Array Slot} (hl : lv_has ls 2 [(0, .ref a_t), (1, .ref a_p1)]) : W p l e { frames := 1, cells := 0, slots := 0, locals := 22 } s m args below meth c H locs 0 0 (MQ below (Qw E none [(a_t, .inr (4, [.ref a_t_lines, .int o_x_t_picture, .int o_x_t_sung, .int o_x_t_tried, .int o_x_t_wed, .ref a_t_picked])), (a_t_lines, .inl (E.2.1, 4, .inl o_r_t_lines)), (a_t_picked, .inl (E.2.1, 6, .inl o_r_t_picked)), (a_p1, .inr (4, [.ref a_p1_lines, .int x_p1_picture, .int x_p1_sung, .int x_p1_tried, .int x_p1_wed, .ref a_p1_picked])), (a_p1_lines, .inl (E.2.1, 4, .inl r_p1_lines)), (a_p1_picked, .inl (E.2.1, 6, .inl r_p1_picked))] A) args s 0 0 A) (F0 m 0 ls []) := by
  obtain ⟨⟨hx, hb, hml, hown, hts⟩, hr, hlocks⟩ := id X
  obtain ⟨hC, hAB, hA, hB, hD⟩ := id hw
  have hiX4 : ∀ w ∈ u_ws RX4 TX4 6, w ∈ wsX4_copyFrom := by decide +kernel
  have hK := hC.1
  unfold f_X4_copyFrom at h
  refine lv_aload_n hx hb dX4_copyFrom_0 rfl (lv_at hl 1 rfl) ?_
  refine va_get (D := E.1) (ci := 4) (v := .ref a_p1_lines) (C := RX4) (T := TX4) (N := 6) hx hb hts hiX4 hown hK hP 3 rfl rfl 0 (by decide) (hts (.fieldLink RX4 9 "CasketLines$Standing" "lines" "[I") (by decide +kernel)) (fun _ h9 => h9) rfl dX4_copyFrom_1 ?_
  refine lv_aload_n hx hb dX4_copyFrom_4 rfl (lv_at hl 0 rfl) ?_
  refine va_get (D := E.1) (ci := 4) (v := .ref a_t_lines) (C := RX4) (T := TX4) (N := 6) hx hb hts hiX4 hown hK hP 0 rfl rfl 0 (by decide) (hts (.fieldLink RX4 9 "CasketLines$Standing" "lines" "[I") (by decide +kernel)) (fun _ h9 => h9) rfl dX4_copyFrom_5 ?_
  obtain ⟨u3, g2, h⟩ := bnd h
  refine wcSN (A := A) (As := [.ref a_p1_lines, .ref a_t_lines]) (rest := []) (ws' := [(a_t, .inr (4, [.ref a_t_lines, .int x_t_picture, .int x_t_sung, .int x_t_tried, .int x_t_wed, .ref a_t_picked])), (a_t_lines, .inl (E.2.1, 4, .inl u3)), (a_t_picked, .inl (E.2.1, 6, .inl r_t_picked)), (a_p1, .inr (4, [.ref a_p1_lines, .int x_p1_picture, .int x_p1_sung, .int x_p1_tried, .int x_p1_wed, .ref a_p1_picked])), (a_p1_lines, .inl (E.2.1, 4, .inl r_p1_lines)), (a_p1_picked, .inl (E.2.1, 6, .inl r_p1_picked))]) ⟨hx, hb, hml, hown, hts⟩ (k_X5_copyRow (l := l) (E := E) a_p1_lines a_t_lines 4 r_p1_lines 4 r_t_lines H.size u3 g2) ⟨va_cnB 2 hts gX4_copyFrom_X5_copyRow_n22 rfl rfl rfl (hC.2.1 (RX4, 22, yX5_copyRow, "CasketLines") (List.mem_of_getElem? (i := 11) rfl)) (hts (.initialized RX5) (by decide +kernel)) (by decide +kernel) ⟨Nat.le_of_ble_eq_true rfl, Nat.le_of_ble_eq_true rfl⟩, hts (.static yX5_copyRow) (by decide +kernel), trivial⟩ (hC.here hS hAB) hP (hD.adr rfl) hS hA hAB hB [4, 1] rfl rfl [none, some 1, none, none, some 0, none] rfl rfl rfl hl.1 rfl (Nat.le_of_ble_eq_true rfl) dX4_copyFrom_8 ⟨Nat.zero_le _, Nat.zero_le _⟩ (fun H locs hP hS => ?_)
  refine lv_aload_n hx hb dX4_copyFrom_11 rfl (lv_at hl 0 rfl) ?_
  refine lv_aload_n hx hb dX4_copyFrom_12 rfl (lv_at hl 1 rfl) ?_
  refine va_get (D := E.1) (ci := 4) (v := .int x_p1_picture) (C := RX4) (T := TX4) (N := 6) hx hb hts hiX4 hown hK hP 3 rfl rfl 1 (by decide) (hts (.fieldLink RX4 15 "CasketLines$Standing" "picture" "I") (by decide +kernel)) (fun _ h9 => h9) rfl dX4_copyFrom_13 ?_
  refine va_put (D := E.1) (ci := 4) (v := .int x_p1_picture) (ty := .int) (C := RX4) (T := TX4) (N := 6) hx hb hts hiX4 tyX4 tyX4_ok nmX4 hown hK hP (hD.adr rfl) hS 0 rfl rfl 1 (by decide) (hts (.fieldLink RX4 15 "CasketLines$Standing" "picture" "I") (by decide +kernel)) (fun _ h9 => h9) rfl (by decide +kernel) rfl rfl (Nat.le_of_ble_eq_true rfl) dX4_copyFrom_16 (fun H locs hP _ hS => ?_)
  have hP : va_P E.1 vwCl [(a_t, .inr (4, [.ref a_t_lines, .int x_p1_picture, .int x_t_sung, .int x_t_tried, .int x_t_wed, .ref a_t_picked])), (a_t_lines, .inl (E.2.1, 4, .inl u3)), (a_t_picked, .inl (E.2.1, 6, .inl r_t_picked)), (a_p1, .inr (4, [.ref a_p1_lines, .int x_p1_picture, .int x_p1_sung, .int x_p1_tried, .int x_p1_wed, .ref a_p1_picked])), (a_p1_lines, .inl (E.2.1, 4, .inl r_p1_lines)), (a_p1_picked, .inl (E.2.1, 6, .inl r_p1_picked))] H := hP
  refine lv_aload_n hx hb dX4_copyFrom_19 rfl (lv_at hl 0 rfl) ?_
  refine lv_aload_n hx hb dX4_copyFrom_20 rfl (lv_at hl 1 rfl) ?_
  refine va_get (D := E.1) (ci := 4) (v := .int x_p1_sung) (C := RX4) (T := TX4) (N := 6) hx hb hts hiX4 hown hK hP 3 rfl rfl 2 (by decide) (hts (.fieldLink RX4 26 "CasketLines$Standing" "sung" "I") (by decide +kernel)) (fun _ h9 => h9) rfl dX4_copyFrom_21 ?_
  refine va_put (D := E.1) (ci := 4) (v := .int x_p1_sung) (ty := .int) (C := RX4) (T := TX4) (N := 6) hx hb hts hiX4 tyX4 tyX4_ok nmX4 hown hK hP (hD.adr rfl) hS 0 rfl rfl 2 (by decide) (hts (.fieldLink RX4 26 "CasketLines$Standing" "sung" "I") (by decide +kernel)) (fun _ h9 => h9) rfl (by decide +kernel) rfl rfl (Nat.le_of_ble_eq_true rfl) dX4_copyFrom_24 (fun H locs hP _ hS => ?_)
  have hP : va_P E.1 vwCl [(a_t, .inr (4, [.ref a_t_lines, .int x_p1_picture, .int x_p1_sung, .int x_t_tried, .int x_t_wed, .ref a_t_picked])), (a_t_lines, .inl (E.2.1, 4, .inl u3)), (a_t_picked, .inl (E.2.1, 6, .inl r_t_picked)), (a_p1, .inr (4, [.ref a_p1_lines, .int x_p1_picture, .int x_p1_sung, .int x_p1_tried, .int x_p1_wed, .ref a_p1_picked])), (a_p1_lines, .inl (E.2.1, 4, .inl r_p1_lines)), (a_p1_picked, .inl (E.2.1, 6, .inl r_p1_picked))] H := hP
  refine lv_aload_n hx hb dX4_copyFrom_27 rfl (lv_at hl 0 rfl) ?_
  refine lv_aload_n hx hb dX4_copyFrom_28 rfl (lv_at hl 1 rfl) ?_
  refine va_get (D := E.1) (ci := 4) (v := .int x_p1_tried) (C := RX4) (T := TX4) (N := 6) hx hb hts hiX4 hown hK hP 3 rfl rfl 3 (by decide) (hts (.fieldLink RX4 29 "CasketLines$Standing" "tried" "I") (by decide +kernel)) (fun _ h9 => h9) rfl dX4_copyFrom_29 ?_
  refine va_put (D := E.1) (ci := 4) (v := .int x_p1_tried) (ty := .int) (C := RX4) (T := TX4) (N := 6) hx hb hts hiX4 tyX4 tyX4_ok nmX4 hown hK hP (hD.adr rfl) hS 0 rfl rfl 3 (by decide) (hts (.fieldLink RX4 29 "CasketLines$Standing" "tried" "I") (by decide +kernel)) (fun _ h9 => h9) rfl (by decide +kernel) rfl rfl (Nat.le_of_ble_eq_true rfl) dX4_copyFrom_32 (fun H locs hP _ hS => ?_)
  have hP : va_P E.1 vwCl [(a_t, .inr (4, [.ref a_t_lines, .int x_p1_picture, .int x_p1_sung, .int x_p1_tried, .int x_t_wed, .ref a_t_picked])), (a_t_lines, .inl (E.2.1, 4, .inl u3)), (a_t_picked, .inl (E.2.1, 6, .inl r_t_picked)), (a_p1, .inr (4, [.ref a_p1_lines, .int x_p1_picture, .int x_p1_sung, .int x_p1_tried, .int x_p1_wed, .ref a_p1_picked])), (a_p1_lines, .inl (E.2.1, 4, .inl r_p1_lines)), (a_p1_picked, .inl (E.2.1, 6, .inl r_p1_picked))] H := hP
  refine lv_aload_n hx hb dX4_copyFrom_35 rfl (lv_at hl 0 rfl) ?_
  refine lv_aload_n hx hb dX4_copyFrom_36 rfl (lv_at hl 1 rfl) ?_
  refine va_get (D := E.1) (ci := 4) (v := .int x_p1_wed) (C := RX4) (T := TX4) (N := 6) hx hb hts hiX4 hown hK hP 3 rfl rfl 4 (by decide) (hts (.fieldLink RX4 32 "CasketLines$Standing" "wed" "Z") (by decide +kernel)) (fun _ h9 => h9) rfl dX4_copyFrom_37 ?_
  obtain ⟨b5, h⟩ := gdy h
  refine va_put (D := E.1) (ci := 4) (v := .int x_p1_wed) (ty := .boolean) (C := RX4) (T := TX4) (N := 6) hx hb hts hiX4 tyX4 tyX4_ok nmX4 hown hK hP (hD.adr rfl) hS 0 rfl rfl 4 (by decide) (hts (.fieldLink RX4 32 "CasketLines$Standing" "wed" "Z") (by decide +kernel)) (fun _ h9 => h9) rfl (by decide +kernel) (nar_b b5) (fit_b b5) (Nat.le_of_ble_eq_true rfl) dX4_copyFrom_40 (fun H locs hP _ hS => ?_)
  have hP : va_P E.1 vwCl [(a_t, .inr (4, [.ref a_t_lines, .int x_p1_picture, .int x_p1_sung, .int x_p1_tried, .int x_p1_wed, .ref a_t_picked])), (a_t_lines, .inl (E.2.1, 4, .inl u3)), (a_t_picked, .inl (E.2.1, 6, .inl r_t_picked)), (a_p1, .inr (4, [.ref a_p1_lines, .int x_p1_picture, .int x_p1_sung, .int x_p1_tried, .int x_p1_wed, .ref a_p1_picked])), (a_p1_lines, .inl (E.2.1, 4, .inl r_p1_lines)), (a_p1_picked, .inl (E.2.1, 6, .inl r_p1_picked))] H := hP
  refine lv_aload_n hx hb dX4_copyFrom_43 rfl (lv_at hl 1 rfl) ?_
  refine va_get (D := E.1) (ci := 4) (v := .ref a_p1_picked) (C := RX4) (T := TX4) (N := 6) hx hb hts hiX4 hown hK hP 3 rfl rfl 5 (by decide) (hts (.fieldLink RX4 19 "CasketLines$Standing" "picked" "[I") (by decide +kernel)) (fun _ h9 => h9) rfl dX4_copyFrom_44 ?_
  refine lv_aload_n hx hb dX4_copyFrom_47 rfl (lv_at hl 0 rfl) ?_
  refine va_get (D := E.1) (ci := 4) (v := .ref a_t_picked) (C := RX4) (T := TX4) (N := 6) hx hb hts hiX4 hown hK hP 0 rfl rfl 5 (by decide) (hts (.fieldLink RX4 19 "CasketLines$Standing" "picked" "[I") (by decide +kernel)) (fun _ h9 => h9) rfl dX4_copyFrom_48 ?_
  obtain ⟨u8, g7, h⟩ := bnd h
  refine wcSN (A := A) (As := [.ref a_p1_picked, .ref a_t_picked]) (rest := []) (ws' := [(a_t, .inr (4, [.ref a_t_lines, .int x_p1_picture, .int x_p1_sung, .int x_p1_tried, .int x_p1_wed, .ref a_t_picked])), (a_t_lines, .inl (E.2.1, 4, .inl u3)), (a_t_picked, .inl (E.2.1, 6, .inl u8)), (a_p1, .inr (4, [.ref a_p1_lines, .int x_p1_picture, .int x_p1_sung, .int x_p1_tried, .int x_p1_wed, .ref a_p1_picked])), (a_p1_lines, .inl (E.2.1, 4, .inl r_p1_lines)), (a_p1_picked, .inl (E.2.1, 6, .inl r_p1_picked))]) ⟨hx, hb, hml, hown, hts⟩ (k_X5_copyRow (l := l) (E := E) a_p1_picked a_t_picked 6 r_p1_picked 6 r_t_picked H.size u8 g7) ⟨va_cnB 2 hts gX4_copyFrom_X5_copyRow_n22 rfl rfl rfl (hC.2.1 (RX4, 22, yX5_copyRow, "CasketLines") (List.mem_of_getElem? (i := 11) rfl)) (hts (.initialized RX5) (by decide +kernel)) (by decide +kernel) ⟨Nat.le_of_ble_eq_true rfl, Nat.le_of_ble_eq_true rfl⟩, hts (.static yX5_copyRow) (by decide +kernel), trivial⟩ (hC.here hS hAB) hP (hD.adr rfl) hS hA hAB hB [5, 2] rfl rfl [none, none, some 1, none, none, some 0] rfl rfl rfl hl.1 rfl (Nat.le_of_ble_eq_true rfl) dX4_copyFrom_51 ⟨Nat.zero_le _, Nat.zero_le _⟩ (fun H locs hP hS => ?_)
  exact W.vret hx hb hr (fun t ht _ => ⟨by cases h; rfl, by rw [ht]; cases h; exact hP, hS.F ht⟩) hS.2.2 dX4_copyFrom_54
set_option maxHeartbeats 4000000 in
set_option maxRecDepth 100000 in
theorem k_X4_copyFrom {l : Launch} {E : Ev} (a_t a_p1 a_t_lines a_t_picked a_p1_lines a_p1_picked : Nat) (x_t_picture : Int32) (x_t_sung : Int32) (x_t_tried : Int32) (x_t_wed : Int32) (r_t_lines : Nat → Int32) (r_t_picked : Nat → Int32) (x_p1_picture : Int32) (x_p1_sung : Int32) (x_p1_tried : Int32) (x_p1_wed : Int32) (r_p1_lines : Nat → Int32) (r_p1_picked : Nat → Int32) (sz : Nat) (o_x_t_picture : Int32) (o_x_t_sung : Int32) (o_x_t_tried : Int32) (o_x_t_wed : Int32) (o_r_t_lines : Nat → Int32) (o_r_t_picked : Nat → Int32) (hf : f_X4_copyFrom x_t_picture x_t_sung x_t_tried x_t_wed r_t_lines r_t_picked x_p1_picture x_p1_sung x_p1_tried x_p1_wed r_p1_lines r_p1_picked = some (o_x_t_picture, o_x_t_sung, o_x_t_tried, o_x_t_wed, o_r_t_lines, o_r_t_picked)) : Met l yX4_copyFrom wsX4_copyFrom ({ frames := 1, cells := 0, slots := 0, locals := 22 }) (Pw E [.ref a_t, .ref a_p1] [(a_t, .inr (4, [.ref a_t_lines, .int x_t_picture, .int x_t_sung, .int x_t_tried, .int x_t_wed, .ref a_t_picked])), (a_t_lines, .inl (E.2.1, 4, .inl r_t_lines)), (a_t_picked, .inl (E.2.1, 6, .inl r_t_picked)), (a_p1, .inr (4, [.ref a_p1_lines, .int x_p1_picture, .int x_p1_sung, .int x_p1_tried, .int x_p1_wed, .ref a_p1_picked])), (a_p1_lines, .inl (E.2.1, 4, .inl r_p1_lines)), (a_p1_picked, .inl (E.2.1, 6, .inl r_p1_picked))] sz) (Qw E none [(a_t, .inr (4, [.ref a_t_lines, .int o_x_t_picture, .int o_x_t_sung, .int o_x_t_tried, .int o_x_t_wed, .ref a_t_picked])), (a_t_lines, .inl (E.2.1, 4, .inl o_r_t_lines)), (a_t_picked, .inl (E.2.1, 6, .inl o_r_t_picked)), (a_p1, .inr (4, [.ref a_p1_lines, .int x_p1_picture, .int x_p1_sung, .int x_p1_tried, .int x_p1_wed, .ref a_p1_picked])), (a_p1_lines, .inl (E.2.1, 4, .inl r_p1_lines)), (a_p1_picked, .inl (E.2.1, 6, .inl r_p1_picked))] (va_A [(a_t, .inr (4, [.ref a_t_lines, .int x_t_picture, .int x_t_sung, .int x_t_tried, .int x_t_wed, .ref a_t_picked])), (a_t_lines, .inl (E.2.1, 4, .inl r_t_lines)), (a_t_picked, .inl (E.2.1, 6, .inl r_t_picked)), (a_p1, .inr (4, [.ref a_p1_lines, .int x_p1_picture, .int x_p1_sung, .int x_p1_tried, .int x_p1_wed, .ref a_p1_picked])), (a_p1_lines, .inl (E.2.1, 4, .inl r_p1_lines)), (a_p1_picked, .inl (E.2.1, 6, .inl r_p1_picked))] sz)) 0 0 (va_A [(a_t, .inr (4, [.ref a_t_lines, .int x_t_picture, .int x_t_sung, .int x_t_tried, .int x_t_wed, .ref a_t_picked])), (a_t_lines, .inl (E.2.1, 4, .inl r_t_lines)), (a_t_picked, .inl (E.2.1, 6, .inl r_t_picked)), (a_p1, .inr (4, [.ref a_p1_lines, .int x_p1_picture, .int x_p1_sung, .int x_p1_tried, .int x_p1_wed, .ref a_p1_picked])), (a_p1_lines, .inl (E.2.1, 4, .inl r_p1_lines)), (a_p1_picked, .inl (E.2.1, 6, .inl r_p1_picked))] sz) := by
  refine Met.ofW (cc := cX4_copyFrom) (maxL := 2) (ret := none) (by decide) rfl ?_
  intro p e s m args below meth c s₁ B hml hv
  obtain ⟨rfl, rfl, hw, hP⟩ := Pw.start hv
  have X := Cxt.of B hml
  have hl := lv_entry ([.ref a_t, .ref a_p1]) (n := 2) (Nat.le_of_ble_eq_true rfl)
  rw [lg_entry_eq]
  exact w_X4_copyFrom a_t a_p1 a_t_lines a_t_picked a_p1_lines a_p1_picked x_t_picture x_t_sung x_t_tried x_t_wed r_t_lines r_t_picked x_p1_picture x_p1_sung x_p1_tried x_p1_wed r_p1_lines r_p1_picked  o_x_t_picture o_x_t_sung o_x_t_tried o_x_t_wed o_r_t_lines o_r_t_picked X hw hf hP va_S.rf hl
set_option maxHeartbeats 4000000 in
set_option maxRecDepth 100000 in
theorem w_X1_copyFrom {p : Program} {l : Launch} {e : Env} {s : State} {m : MethodId} {args : Array Value} {below : List Frame} {meth : Method} {c : Code} {E : Ev} {A : Nat → Prop} (a_t a_p1 a_t_metals a_t_kinds a_p1_metals a_p1_kinds : Nat) (x_t_truth : Int32) (x_t_caskets : Int32) (x_t_wooers : Int32) (r_t_metals : Nat → Int32) (r_t_kinds : Nat → Int32) (x_p1_truth : Int32) (x_p1_caskets : Int32) (x_p1_wooers : Int32) (r_p1_metals : Nat → Int32) (r_p1_kinds : Nat → Int32) (o_x_t_truth : Int32) (o_x_t_caskets : Int32) (o_x_t_wooers : Int32) (o_r_t_metals : Nat → Int32) (o_r_t_kinds : Nat → Int32) (X : Cxt p s m args meth c cX1_copyFrom 2 wsX1_copyFrom RX1 none) (hw : Cw E A s [(a_t, .inr (1, [.int x_t_truth, .int x_t_caskets, .int x_t_wooers, .ref a_t_metals, .ref a_t_kinds])), (a_t_metals, .inl (E.2.1, 4, .inl r_t_metals)), (a_t_kinds, .inl (E.2.1, 6, .inl r_t_kinds)), (a_p1, .inr (1, [.int x_p1_truth, .int x_p1_caskets, .int x_p1_wooers, .ref a_p1_metals, .ref a_p1_kinds])), (a_p1_metals, .inl (E.2.1, 4, .inl r_p1_metals)), (a_p1_kinds, .inl (E.2.1, 6, .inl r_p1_kinds))]) (h : f_X1_copyFrom x_t_truth x_t_caskets x_t_wooers r_t_metals r_t_kinds x_p1_truth x_p1_caskets x_p1_wooers r_p1_metals r_p1_kinds = some (o_x_t_truth, o_x_t_caskets, o_x_t_wooers, o_r_t_metals, o_r_t_kinds)) {H : Heap} {locs : List Loc} (hP : va_P E.1 vwCl [(a_t, .inr (1, [.int x_t_truth, .int x_t_caskets, .int x_t_wooers, .ref a_t_metals, .ref a_t_kinds])), (a_t_metals, .inl (E.2.1, 4, .inl r_t_metals)), (a_t_kinds, .inl (E.2.1, 6, .inl r_t_kinds)), (a_p1, .inr (1, [.int x_p1_truth, .int x_p1_caskets, .int x_p1_wooers, .ref a_p1_metals, .ref a_p1_kinds])), (a_p1_metals, .inl (E.2.1, 4, .inl r_p1_metals)), (a_p1_kinds, .inl (E.2.1, 6, .inl r_p1_kinds))] H) (hS : va_S A s.heap H locs) {ls : Array Slot} (hl : lv_has ls 2 [(0, .ref a_t), (1, .ref a_p1)]) : W p l e { frames := 1, cells := 0, slots := 0, locals := 22 } s m args below meth c H locs 0 0 (MQ below (Qw E none [(a_t, .inr (1, [.int o_x_t_truth, .int o_x_t_caskets, .int o_x_t_wooers, .ref a_t_metals, .ref a_t_kinds])), (a_t_metals, .inl (E.2.1, 4, .inl o_r_t_metals)), (a_t_kinds, .inl (E.2.1, 6, .inl o_r_t_kinds)), (a_p1, .inr (1, [.int x_p1_truth, .int x_p1_caskets, .int x_p1_wooers, .ref a_p1_metals, .ref a_p1_kinds])), (a_p1_metals, .inl (E.2.1, 4, .inl r_p1_metals)), (a_p1_kinds, .inl (E.2.1, 6, .inl r_p1_kinds))] A) args s 0 0 A) (F0 m 0 ls []) := by
  obtain ⟨⟨hx, hb, hml, hown, hts⟩, hr, hlocks⟩ := id X
  obtain ⟨hC, hAB, hA, hB, hD⟩ := id hw
  have hiX1 : ∀ w ∈ u_ws RX1 TX1 5, w ∈ wsX1_copyFrom := by decide +kernel
  have hK := hC.1
  unfold f_X1_copyFrom at h
  refine lv_aload_n hx hb dX1_copyFrom_0 rfl (lv_at hl 0 rfl) ?_
  refine lv_aload_n hx hb dX1_copyFrom_1 rfl (lv_at hl 1 rfl) ?_
  refine va_get (D := E.1) (ci := 1) (v := .int x_p1_truth) (C := RX1) (T := TX1) (N := 5) hx hb hts hiX1 hown hK hP 3 rfl rfl 0 (by decide) (hts (.fieldLink RX1 9 "CasketLines$House" "truth" "I") (by decide +kernel)) (fun _ h9 => h9) rfl dX1_copyFrom_2 ?_
  refine va_put (D := E.1) (ci := 1) (v := .int x_p1_truth) (ty := .int) (C := RX1) (T := TX1) (N := 5) hx hb hts hiX1 tyX1 tyX1_ok nmX1 hown hK hP (hD.adr rfl) hS 0 rfl rfl 0 (by decide) (hts (.fieldLink RX1 9 "CasketLines$House" "truth" "I") (by decide +kernel)) (fun _ h9 => h9) rfl (by decide +kernel) rfl rfl (Nat.le_of_ble_eq_true rfl) dX1_copyFrom_5 (fun H locs hP _ hS => ?_)
  have hP : va_P E.1 vwCl [(a_t, .inr (1, [.int x_p1_truth, .int x_t_caskets, .int x_t_wooers, .ref a_t_metals, .ref a_t_kinds])), (a_t_metals, .inl (E.2.1, 4, .inl r_t_metals)), (a_t_kinds, .inl (E.2.1, 6, .inl r_t_kinds)), (a_p1, .inr (1, [.int x_p1_truth, .int x_p1_caskets, .int x_p1_wooers, .ref a_p1_metals, .ref a_p1_kinds])), (a_p1_metals, .inl (E.2.1, 4, .inl r_p1_metals)), (a_p1_kinds, .inl (E.2.1, 6, .inl r_p1_kinds))] H := hP
  refine lv_aload_n hx hb dX1_copyFrom_8 rfl (lv_at hl 0 rfl) ?_
  refine lv_aload_n hx hb dX1_copyFrom_9 rfl (lv_at hl 1 rfl) ?_
  refine va_get (D := E.1) (ci := 1) (v := .int x_p1_caskets) (C := RX1) (T := TX1) (N := 5) hx hb hts hiX1 hown hK hP 3 rfl rfl 1 (by decide) (hts (.fieldLink RX1 22 "CasketLines$House" "caskets" "I") (by decide +kernel)) (fun _ h9 => h9) rfl dX1_copyFrom_10 ?_
  refine va_put (D := E.1) (ci := 1) (v := .int x_p1_caskets) (ty := .int) (C := RX1) (T := TX1) (N := 5) hx hb hts hiX1 tyX1 tyX1_ok nmX1 hown hK hP (hD.adr rfl) hS 0 rfl rfl 1 (by decide) (hts (.fieldLink RX1 22 "CasketLines$House" "caskets" "I") (by decide +kernel)) (fun _ h9 => h9) rfl (by decide +kernel) rfl rfl (Nat.le_of_ble_eq_true rfl) dX1_copyFrom_13 (fun H locs hP _ hS => ?_)
  have hP : va_P E.1 vwCl [(a_t, .inr (1, [.int x_p1_truth, .int x_p1_caskets, .int x_t_wooers, .ref a_t_metals, .ref a_t_kinds])), (a_t_metals, .inl (E.2.1, 4, .inl r_t_metals)), (a_t_kinds, .inl (E.2.1, 6, .inl r_t_kinds)), (a_p1, .inr (1, [.int x_p1_truth, .int x_p1_caskets, .int x_p1_wooers, .ref a_p1_metals, .ref a_p1_kinds])), (a_p1_metals, .inl (E.2.1, 4, .inl r_p1_metals)), (a_p1_kinds, .inl (E.2.1, 6, .inl r_p1_kinds))] H := hP
  refine lv_aload_n hx hb dX1_copyFrom_16 rfl (lv_at hl 0 rfl) ?_
  refine lv_aload_n hx hb dX1_copyFrom_17 rfl (lv_at hl 1 rfl) ?_
  refine va_get (D := E.1) (ci := 1) (v := .int x_p1_wooers) (C := RX1) (T := TX1) (N := 5) hx hb hts hiX1 hown hK hP 3 rfl rfl 2 (by decide) (hts (.fieldLink RX1 25 "CasketLines$House" "wooers" "I") (by decide +kernel)) (fun _ h9 => h9) rfl dX1_copyFrom_18 ?_
  refine va_put (D := E.1) (ci := 1) (v := .int x_p1_wooers) (ty := .int) (C := RX1) (T := TX1) (N := 5) hx hb hts hiX1 tyX1 tyX1_ok nmX1 hown hK hP (hD.adr rfl) hS 0 rfl rfl 2 (by decide) (hts (.fieldLink RX1 25 "CasketLines$House" "wooers" "I") (by decide +kernel)) (fun _ h9 => h9) rfl (by decide +kernel) rfl rfl (Nat.le_of_ble_eq_true rfl) dX1_copyFrom_21 (fun H locs hP _ hS => ?_)
  have hP : va_P E.1 vwCl [(a_t, .inr (1, [.int x_p1_truth, .int x_p1_caskets, .int x_p1_wooers, .ref a_t_metals, .ref a_t_kinds])), (a_t_metals, .inl (E.2.1, 4, .inl r_t_metals)), (a_t_kinds, .inl (E.2.1, 6, .inl r_t_kinds)), (a_p1, .inr (1, [.int x_p1_truth, .int x_p1_caskets, .int x_p1_wooers, .ref a_p1_metals, .ref a_p1_kinds])), (a_p1_metals, .inl (E.2.1, 4, .inl r_p1_metals)), (a_p1_kinds, .inl (E.2.1, 6, .inl r_p1_kinds))] H := hP
  refine lv_aload_n hx hb dX1_copyFrom_24 rfl (lv_at hl 1 rfl) ?_
  refine va_get (D := E.1) (ci := 1) (v := .ref a_p1_metals) (C := RX1) (T := TX1) (N := 5) hx hb hts hiX1 hown hK hP 3 rfl rfl 3 (by decide) (hts (.fieldLink RX1 15 "CasketLines$House" "metals" "[I") (by decide +kernel)) (fun _ h9 => h9) rfl dX1_copyFrom_25 ?_
  refine lv_aload_n hx hb dX1_copyFrom_28 rfl (lv_at hl 0 rfl) ?_
  refine va_get (D := E.1) (ci := 1) (v := .ref a_t_metals) (C := RX1) (T := TX1) (N := 5) hx hb hts hiX1 hown hK hP 0 rfl rfl 3 (by decide) (hts (.fieldLink RX1 15 "CasketLines$House" "metals" "[I") (by decide +kernel)) (fun _ h9 => h9) rfl dX1_copyFrom_29 ?_
  obtain ⟨u3, g2, h⟩ := bnd h
  refine wcSN (A := A) (As := [.ref a_p1_metals, .ref a_t_metals]) (rest := []) (ws' := [(a_t, .inr (1, [.int x_p1_truth, .int x_p1_caskets, .int x_p1_wooers, .ref a_t_metals, .ref a_t_kinds])), (a_t_metals, .inl (E.2.1, 4, .inl u3)), (a_t_kinds, .inl (E.2.1, 6, .inl r_t_kinds)), (a_p1, .inr (1, [.int x_p1_truth, .int x_p1_caskets, .int x_p1_wooers, .ref a_p1_metals, .ref a_p1_kinds])), (a_p1_metals, .inl (E.2.1, 4, .inl r_p1_metals)), (a_p1_kinds, .inl (E.2.1, 6, .inl r_p1_kinds))]) ⟨hx, hb, hml, hown, hts⟩ (k_X5_copyRow (l := l) (E := E) a_p1_metals a_t_metals 4 r_p1_metals 4 r_t_metals H.size u3 g2) ⟨va_cnB 2 hts gX1_copyFrom_X5_copyRow_n28 rfl rfl rfl (hC.2.1 (RX1, 28, yX5_copyRow, "CasketLines") (List.mem_of_getElem? (i := 6) rfl)) (hts (.initialized RX5) (by decide +kernel)) (by decide +kernel) ⟨Nat.le_of_ble_eq_true rfl, Nat.le_of_ble_eq_true rfl⟩, hts (.static yX5_copyRow) (by decide +kernel), trivial⟩ (hC.here hS hAB) hP (hD.adr rfl) hS hA hAB hB [4, 1] rfl rfl [none, some 1, none, none, some 0, none] rfl rfl rfl hl.1 rfl (Nat.le_of_ble_eq_true rfl) dX1_copyFrom_32 ⟨Nat.zero_le _, Nat.zero_le _⟩ (fun H locs hP hS => ?_)
  refine lv_aload_n hx hb dX1_copyFrom_35 rfl (lv_at hl 1 rfl) ?_
  refine va_get (D := E.1) (ci := 1) (v := .ref a_p1_kinds) (C := RX1) (T := TX1) (N := 5) hx hb hts hiX1 hown hK hP 3 rfl rfl 4 (by decide) (hts (.fieldLink RX1 19 "CasketLines$House" "kinds" "[I") (by decide +kernel)) (fun _ h9 => h9) rfl dX1_copyFrom_36 ?_
  refine lv_aload_n hx hb dX1_copyFrom_39 rfl (lv_at hl 0 rfl) ?_
  refine va_get (D := E.1) (ci := 1) (v := .ref a_t_kinds) (C := RX1) (T := TX1) (N := 5) hx hb hts hiX1 hown hK hP 0 rfl rfl 4 (by decide) (hts (.fieldLink RX1 19 "CasketLines$House" "kinds" "[I") (by decide +kernel)) (fun _ h9 => h9) rfl dX1_copyFrom_40 ?_
  obtain ⟨u7, g6, h⟩ := bnd h
  refine wcSN (A := A) (As := [.ref a_p1_kinds, .ref a_t_kinds]) (rest := []) (ws' := [(a_t, .inr (1, [.int x_p1_truth, .int x_p1_caskets, .int x_p1_wooers, .ref a_t_metals, .ref a_t_kinds])), (a_t_metals, .inl (E.2.1, 4, .inl u3)), (a_t_kinds, .inl (E.2.1, 6, .inl u7)), (a_p1, .inr (1, [.int x_p1_truth, .int x_p1_caskets, .int x_p1_wooers, .ref a_p1_metals, .ref a_p1_kinds])), (a_p1_metals, .inl (E.2.1, 4, .inl r_p1_metals)), (a_p1_kinds, .inl (E.2.1, 6, .inl r_p1_kinds))]) ⟨hx, hb, hml, hown, hts⟩ (k_X5_copyRow (l := l) (E := E) a_p1_kinds a_t_kinds 6 r_p1_kinds 6 r_t_kinds H.size u7 g6) ⟨va_cnB 2 hts gX1_copyFrom_X5_copyRow_n28 rfl rfl rfl (hC.2.1 (RX1, 28, yX5_copyRow, "CasketLines") (List.mem_of_getElem? (i := 6) rfl)) (hts (.initialized RX5) (by decide +kernel)) (by decide +kernel) ⟨Nat.le_of_ble_eq_true rfl, Nat.le_of_ble_eq_true rfl⟩, hts (.static yX5_copyRow) (by decide +kernel), trivial⟩ (hC.here hS hAB) hP (hD.adr rfl) hS hA hAB hB [5, 2] rfl rfl [none, none, some 1, none, none, some 0] rfl rfl rfl hl.1 rfl (Nat.le_of_ble_eq_true rfl) dX1_copyFrom_43 ⟨Nat.zero_le _, Nat.zero_le _⟩ (fun H locs hP hS => ?_)
  exact W.vret hx hb hr (fun t ht _ => ⟨by cases h; rfl, by rw [ht]; cases h; exact hP, hS.F ht⟩) hS.2.2 dX1_copyFrom_46
set_option maxHeartbeats 4000000 in
set_option maxRecDepth 100000 in
theorem k_X1_copyFrom {l : Launch} {E : Ev} (a_t a_p1 a_t_metals a_t_kinds a_p1_metals a_p1_kinds : Nat) (x_t_truth : Int32) (x_t_caskets : Int32) (x_t_wooers : Int32) (r_t_metals : Nat → Int32) (r_t_kinds : Nat → Int32) (x_p1_truth : Int32) (x_p1_caskets : Int32) (x_p1_wooers : Int32) (r_p1_metals : Nat → Int32) (r_p1_kinds : Nat → Int32) (sz : Nat) (o_x_t_truth : Int32) (o_x_t_caskets : Int32) (o_x_t_wooers : Int32) (o_r_t_metals : Nat → Int32) (o_r_t_kinds : Nat → Int32) (hf : f_X1_copyFrom x_t_truth x_t_caskets x_t_wooers r_t_metals r_t_kinds x_p1_truth x_p1_caskets x_p1_wooers r_p1_metals r_p1_kinds = some (o_x_t_truth, o_x_t_caskets, o_x_t_wooers, o_r_t_metals, o_r_t_kinds)) : Met l yX1_copyFrom wsX1_copyFrom ({ frames := 1, cells := 0, slots := 0, locals := 22 }) (Pw E [.ref a_t, .ref a_p1] [(a_t, .inr (1, [.int x_t_truth, .int x_t_caskets, .int x_t_wooers, .ref a_t_metals, .ref a_t_kinds])), (a_t_metals, .inl (E.2.1, 4, .inl r_t_metals)), (a_t_kinds, .inl (E.2.1, 6, .inl r_t_kinds)), (a_p1, .inr (1, [.int x_p1_truth, .int x_p1_caskets, .int x_p1_wooers, .ref a_p1_metals, .ref a_p1_kinds])), (a_p1_metals, .inl (E.2.1, 4, .inl r_p1_metals)), (a_p1_kinds, .inl (E.2.1, 6, .inl r_p1_kinds))] sz) (Qw E none [(a_t, .inr (1, [.int o_x_t_truth, .int o_x_t_caskets, .int o_x_t_wooers, .ref a_t_metals, .ref a_t_kinds])), (a_t_metals, .inl (E.2.1, 4, .inl o_r_t_metals)), (a_t_kinds, .inl (E.2.1, 6, .inl o_r_t_kinds)), (a_p1, .inr (1, [.int x_p1_truth, .int x_p1_caskets, .int x_p1_wooers, .ref a_p1_metals, .ref a_p1_kinds])), (a_p1_metals, .inl (E.2.1, 4, .inl r_p1_metals)), (a_p1_kinds, .inl (E.2.1, 6, .inl r_p1_kinds))] (va_A [(a_t, .inr (1, [.int x_t_truth, .int x_t_caskets, .int x_t_wooers, .ref a_t_metals, .ref a_t_kinds])), (a_t_metals, .inl (E.2.1, 4, .inl r_t_metals)), (a_t_kinds, .inl (E.2.1, 6, .inl r_t_kinds)), (a_p1, .inr (1, [.int x_p1_truth, .int x_p1_caskets, .int x_p1_wooers, .ref a_p1_metals, .ref a_p1_kinds])), (a_p1_metals, .inl (E.2.1, 4, .inl r_p1_metals)), (a_p1_kinds, .inl (E.2.1, 6, .inl r_p1_kinds))] sz)) 0 0 (va_A [(a_t, .inr (1, [.int x_t_truth, .int x_t_caskets, .int x_t_wooers, .ref a_t_metals, .ref a_t_kinds])), (a_t_metals, .inl (E.2.1, 4, .inl r_t_metals)), (a_t_kinds, .inl (E.2.1, 6, .inl r_t_kinds)), (a_p1, .inr (1, [.int x_p1_truth, .int x_p1_caskets, .int x_p1_wooers, .ref a_p1_metals, .ref a_p1_kinds])), (a_p1_metals, .inl (E.2.1, 4, .inl r_p1_metals)), (a_p1_kinds, .inl (E.2.1, 6, .inl r_p1_kinds))] sz) := by
  refine Met.ofW (cc := cX1_copyFrom) (maxL := 2) (ret := none) (by decide) rfl ?_
  intro p e s m args below meth c s₁ B hml hv
  obtain ⟨rfl, rfl, hw, hP⟩ := Pw.start hv
  have X := Cxt.of B hml
  have hl := lv_entry ([.ref a_t, .ref a_p1]) (n := 2) (Nat.le_of_ble_eq_true rfl)
  rw [lg_entry_eq]
  exact w_X1_copyFrom a_t a_p1 a_t_metals a_t_kinds a_p1_metals a_p1_kinds x_t_truth x_t_caskets x_t_wooers r_t_metals r_t_kinds x_p1_truth x_p1_caskets x_p1_wooers r_p1_metals r_p1_kinds  o_x_t_truth o_x_t_caskets o_x_t_wooers o_r_t_metals o_r_t_kinds X hw hf hP va_S.rf hl
set_option maxHeartbeats 4000000 in
set_option maxRecDepth 100000 in
theorem w_X4_tryNext {p : Program} {l : Launch} {e : Env} {s : State} {m : MethodId} {args : Array Value} {below : List Frame} {meth : Method} {c : Code} {E : Ev} {A : Nat → Prop} (a_t a_p1 a_t_lines a_t_picked a_p1_metals a_p1_kinds : Nat) (x_t_picture : Int32) (x_t_sung : Int32) (x_t_tried : Int32) (x_t_wed : Int32) (r_t_lines : Nat → Int32) (r_t_picked : Nat → Int32) (x_p1_truth : Int32) (x_p1_caskets : Int32) (x_p1_wooers : Int32) (r_p1_metals : Nat → Int32) (r_p1_kinds : Nat → Int32) (o_r : Int32) (o_x_t_tried : Int32) (o_x_t_wed : Int32) (o_r_t_picked : Nat → Int32) (X : Cxt p s m args meth c cX4_tryNext 3 wsX4_tryNext RX4 (some .int)) (hw : Cw E A s [(a_t, .inr (4, [.ref a_t_lines, .int x_t_picture, .int x_t_sung, .int x_t_tried, .int x_t_wed, .ref a_t_picked])), (a_t_lines, .inl (E.2.1, 4, .inl r_t_lines)), (a_t_picked, .inl (E.2.1, 6, .inl r_t_picked)), (a_p1, .inr (1, [.int x_p1_truth, .int x_p1_caskets, .int x_p1_wooers, .ref a_p1_metals, .ref a_p1_kinds])), (a_p1_metals, .inl (E.2.1, 4, .inl r_p1_metals)), (a_p1_kinds, .inl (E.2.1, 6, .inl r_p1_kinds))]) (h : f_X4_tryNext x_t_picture x_t_sung x_t_tried x_t_wed r_t_lines r_t_picked x_p1_truth x_p1_caskets r_p1_metals r_p1_kinds = some (o_r, o_x_t_tried, o_x_t_wed, o_r_t_picked)) {H : Heap} {locs : List Loc} (hP : va_P E.1 vwCl [(a_t, .inr (4, [.ref a_t_lines, .int x_t_picture, .int x_t_sung, .int x_t_tried, .int x_t_wed, .ref a_t_picked])), (a_t_lines, .inl (E.2.1, 4, .inl r_t_lines)), (a_t_picked, .inl (E.2.1, 6, .inl r_t_picked)), (a_p1, .inr (1, [.int x_p1_truth, .int x_p1_caskets, .int x_p1_wooers, .ref a_p1_metals, .ref a_p1_kinds])), (a_p1_metals, .inl (E.2.1, 4, .inl r_p1_metals)), (a_p1_kinds, .inl (E.2.1, 6, .inl r_p1_kinds))] H) (hS : va_S A s.heap H locs) {ls : Array Slot} (hl : lv_has ls 3 [(0, .ref a_t), (1, .ref a_p1)]) : W p l e { frames := 4, cells := 0, slots := 0, locals := 94 } s m args below meth c H locs 0 0 (MQ below (Qw E (some (.int o_r)) [(a_t, .inr (4, [.ref a_t_lines, .int x_t_picture, .int x_t_sung, .int o_x_t_tried, .int o_x_t_wed, .ref a_t_picked])), (a_t_lines, .inl (E.2.1, 4, .inl r_t_lines)), (a_t_picked, .inl (E.2.1, 6, .inl o_r_t_picked)), (a_p1, .inr (1, [.int x_p1_truth, .int x_p1_caskets, .int x_p1_wooers, .ref a_p1_metals, .ref a_p1_kinds])), (a_p1_metals, .inl (E.2.1, 4, .inl r_p1_metals)), (a_p1_kinds, .inl (E.2.1, 6, .inl r_p1_kinds))] A) args s 0 0 A) (F0 m 0 ls []) := by
  obtain ⟨⟨hx, hb, hml, hown, hts⟩, hr, hlocks⟩ := id X
  obtain ⟨hC, hAB, hA, hB, hD⟩ := id hw
  have hiX1 : ∀ w ∈ u_ws RX1 TX1 5, w ∈ wsX4_tryNext := by decide +kernel
  have hiX4 : ∀ w ∈ u_ws RX4 TX4 6, w ∈ wsX4_tryNext := by decide +kernel
  have hK := hC.1
  unfold f_X4_tryNext at h
  refine lv_aload_n hx hb dX4_tryNext_0 rfl (lv_at hl 1 rfl) ?_
  refine lv_aload_n hx hb dX4_tryNext_1 rfl (lv_at hl 1 rfl) ?_
  refine va_get (D := E.1) (ci := 1) (v := .ref a_p1_kinds) (C := RX1) (T := TX1) (N := 5) hx hb hts hiX1 hown hK hP 3 rfl rfl 4 (by decide) (hts (.fieldLink RX4 49 "CasketLines$House" "kinds" "[I") (by decide +kernel)) (fun _ h9 => h9) rfl dX4_tryNext_2 ?_
  refine lv_aload_n hx hb dX4_tryNext_5 rfl (lv_at hl 0 rfl) ?_
  refine va_get (D := E.1) (ci := 4) (v := .int x_t_tried) (C := RX4) (T := TX4) (N := 6) hx hb hts hiX4 hown hK hP 0 rfl rfl 3 (by decide) (hts (.fieldLink RX4 29 "CasketLines$Standing" "tried" "I") (by decide +kernel)) (fun _ h9 => h9) rfl dX4_tryNext_6 ?_
  obtain ⟨r1, g2, h⟩ := bnd h
  refine rcSN (As := [.ref a_p1_kinds, .int x_t_tried]) (rest := [.ref a_p1]) ⟨hx, hb, hml, hown, hts⟩ (k_X5_at (l := l) (E := E) a_p1_kinds 6 r_p1_kinds x_t_tried r1 g2) ⟨va_cnB 2 hts gX4_tryNext_X5_at_n52 rfl rfl rfl (hC.2.1 (RX4, 52, yX5_at, "CasketLines") (List.mem_of_getElem? (i := 14) rfl)) (hts (.initialized RX5) (by decide +kernel)) (by decide +kernel) ⟨Nat.le_of_ble_eq_true rfl, Nat.le_of_ble_eq_true rfl⟩, hts (.static yX5_at) (by decide +kernel), trivial⟩ (hC.here hS hAB) hP [5] rfl rfl hl.1 rfl (Nat.le_of_ble_eq_true rfl) dX4_tryNext_9 ⟨Nat.zero_le _, Nat.zero_le _⟩ ?_
  refine lv_aload_n hx hb dX4_tryNext_12 rfl (lv_at hl 0 rfl) ?_
  refine lv_aload_n hx hb dX4_tryNext_13 rfl (lv_at hl 1 rfl) ?_
  obtain ⟨r3, g4, h⟩ := bnd h
  refine rcV (As := [.ref a_p1]) (rest := [.int r1, .ref a_p1]) ⟨hx, hb, hml, hown, hts⟩ (k_X4_fitting (l := l) (E := E) a_t a_p1 a_t_lines a_t_picked a_p1_metals a_p1_kinds x_t_picture x_t_sung x_t_tried x_t_wed r_t_lines x_p1_truth x_p1_caskets x_p1_wooers r3 g4) (cwV 1 hts gX4_tryNext_X4_fitting rfl rfl rfl (by decide +kernel) ⟨Nat.le_of_ble_eq_true rfl, Nat.le_of_ble_eq_true rfl⟩) (hC.here hS hAB) hP [0, 1, 3] rfl 0 4 rfl rfl rfl rfl hl.1 rfl (Nat.le_of_ble_eq_true rfl) dX4_tryNext_14 ⟨Nat.zero_le _, Nat.zero_le _⟩ ?_
  refine lv_aload_n hx hb dX4_tryNext_17 rfl (lv_at hl 0 rfl) ?_
  refine va_get (D := E.1) (ci := 4) (v := .int x_t_sung) (C := RX4) (T := TX4) (N := 6) hx hb hts hiX4 hown hK hP 0 rfl rfl 2 (by decide) (hts (.fieldLink RX4 26 "CasketLines$Standing" "sung" "I") (by decide +kernel)) (fun _ h9 => h9) rfl dX4_tryNext_18 ?_
  obtain ⟨r5, g6, h⟩ := bnd h
  refine rcV (As := [.int r1, .int r3, .int x_t_sung]) (rest := []) ⟨hx, hb, hml, hown, hts⟩ (k_X1_pickOf (l := l) (E := E) a_p1 a_p1_metals a_p1_kinds x_p1_truth x_p1_caskets x_p1_wooers r_p1_metals r1 r3 x_t_sung r5 g6) (cwV 3 hts gX4_tryNext_X1_pickOf rfl rfl rfl (by decide +kernel) ⟨Nat.le_of_ble_eq_true rfl, Nat.le_of_ble_eq_true rfl⟩) (hC.here hS hAB) hP [3, 4] rfl 3 1 rfl rfl rfl rfl hl.1 rfl (Nat.le_of_ble_eq_true rfl) dX4_tryNext_21 ⟨Nat.zero_le _, Nat.zero_le _⟩ ?_
  refine lv_istore_n (lv' := [(2, .int r5), (0, .ref a_t), (1, .ref a_p1)]) hx hb dX4_tryNext_24 rfl hl (by decide) rfl (fun ls hl => ?_)
  refine lv_aload_n hx hb dX4_tryNext_25 rfl (lv_at hl 1 rfl) ?_
  refine va_get (D := E.1) (ci := 4) (v := .ref a_t_picked) (C := RX4) (T := TX4) (N := 6) hx hb hts hiX4 hown hK hP 0 rfl rfl 5 (by decide) (hts (.fieldLink RX4 19 "CasketLines$Standing" "picked" "[I") (by decide +kernel)) (fun _ h9 => h9) rfl dX4_tryNext_26 ?_
  refine lv_aload_n hx hb dX4_tryNext_29 rfl (lv_at hl 1 rfl) ?_
  refine va_get (D := E.1) (ci := 4) (v := .int x_t_tried) (C := RX4) (T := TX4) (N := 6) hx hb hts hiX4 hown hK hP 0 rfl rfl 3 (by decide) (hts (.fieldLink RX4 29 "CasketLines$Standing" "tried" "I") (by decide +kernel)) (fun _ h9 => h9) rfl dX4_tryNext_30 ?_
  refine lv_iload_n hx hb dX4_tryNext_33 rfl (lv_at hl 0 rfl) ?_
  obtain ⟨u9, g8, h⟩ := bnd h
  refine wcSN (A := A) (As := [.ref a_t_picked, .int x_t_tried, .int r5]) (rest := []) (ws' := [(a_t, .inr (4, [.ref a_t_lines, .int x_t_picture, .int x_t_sung, .int x_t_tried, .int x_t_wed, .ref a_t_picked])), (a_t_lines, .inl (E.2.1, 4, .inl r_t_lines)), (a_t_picked, .inl (E.2.1, 6, .inl u9)), (a_p1, .inr (1, [.int x_p1_truth, .int x_p1_caskets, .int x_p1_wooers, .ref a_p1_metals, .ref a_p1_kinds])), (a_p1_metals, .inl (E.2.1, 4, .inl r_p1_metals)), (a_p1_kinds, .inl (E.2.1, 6, .inl r_p1_kinds))]) ⟨hx, hb, hml, hown, hts⟩ (k_X5_put (l := l) (E := E) a_t_picked 6 r_t_picked x_t_tried r5 H.size u9 g8) ⟨va_cnB 3 hts gX4_tryNext_X5_put_n64 rfl rfl rfl (hC.2.1 (RX4, 64, yX5_put, "CasketLines") (List.mem_of_getElem? (i := 15) rfl)) (hts (.initialized RX5) (by decide +kernel)) (by decide +kernel) ⟨Nat.le_of_ble_eq_true rfl, Nat.le_of_ble_eq_true rfl⟩, hts (.static yX5_put) (by decide +kernel), trivial⟩ (hC.here hS hAB) hP (hD.adr rfl) hS hA hAB hB [2] rfl rfl [none, none, some 0, none, none, none] rfl rfl rfl hl.1 rfl (Nat.le_of_ble_eq_true rfl) dX4_tryNext_34 ⟨Nat.zero_le _, Nat.zero_le _⟩ (fun H locs hP hS => ?_)
  refine lv_aload_n hx hb dX4_tryNext_37 rfl (lv_at hl 1 rfl) ?_
  refine lv_dup hx hb dX4_tryNext_38 rfl ?_
  refine va_get (D := E.1) (ci := 4) (v := .int x_t_tried) (C := RX4) (T := TX4) (N := 6) hx hb hts hiX4 hown hK hP 0 rfl rfl 3 (by decide) (hts (.fieldLink RX4 29 "CasketLines$Standing" "tried" "I") (by decide +kernel)) (fun _ h9 => h9) rfl dX4_tryNext_39 ?_
  refine lv_iconst (v := 1) hx hb dX4_tryNext_42 (by decide) ?_
  refine lv_iadd hx hb dX4_tryNext_43 ?_
  refine va_put (D := E.1) (ci := 4) (v := .int (x_t_tried + 1)) (ty := .int) (C := RX4) (T := TX4) (N := 6) hx hb hts hiX4 tyX4 tyX4_ok nmX4 hown hK hP (hD.adr rfl) hS 0 rfl rfl 3 (by decide) (hts (.fieldLink RX4 29 "CasketLines$Standing" "tried" "I") (by decide +kernel)) (fun _ h9 => h9) rfl (by decide +kernel) rfl rfl (Nat.le_of_ble_eq_true rfl) dX4_tryNext_44 (fun H locs hP _ hS => ?_)
  have hP : va_P E.1 vwCl [(a_t, .inr (4, [.ref a_t_lines, .int x_t_picture, .int x_t_sung, .int (x_t_tried + 1), .int x_t_wed, .ref a_t_picked])), (a_t_lines, .inl (E.2.1, 4, .inl r_t_lines)), (a_t_picked, .inl (E.2.1, 6, .inl u9)), (a_p1, .inr (1, [.int x_p1_truth, .int x_p1_caskets, .int x_p1_wooers, .ref a_p1_metals, .ref a_p1_kinds])), (a_p1_metals, .inl (E.2.1, 4, .inl r_p1_metals)), (a_p1_kinds, .inl (E.2.1, 6, .inl r_p1_kinds))] H := hP
  refine lv_aload_n hx hb dX4_tryNext_47 rfl (lv_at hl 1 rfl) ?_
  refine lv_iload_n hx hb dX4_tryNext_48 rfl (lv_at hl 0 rfl) ?_
  refine lv_bipush (v := (-9)) hx hb dX4_tryNext_49 (by decide) ?_
  refine lv_icmp_eq (tgt := 66) hx hb dX4_tryNext_51 (by decide) (fun c11 => ?_) (fun c11 => ?_)
  · have h := ifp c11 h
    refine lv_iconst (v := 0) hx hb dX4_tryNext_66 (by decide) ?_
    refine va_put (D := E.1) (ci := 4) (v := .int 0) (ty := .boolean) (C := RX4) (T := TX4) (N := 6) hx hb hts hiX4 tyX4 tyX4_ok nmX4 hown hK hP (hD.adr rfl) hS 0 rfl rfl 4 (by decide) (hts (.fieldLink RX4 32 "CasketLines$Standing" "wed" "Z") (by decide +kernel)) (fun _ h9 => h9) rfl (by decide +kernel) rfl rfl (Nat.le_of_ble_eq_true rfl) dX4_tryNext_67 (fun H locs hP _ hS => ?_)
    have hP : va_P E.1 vwCl [(a_t, .inr (4, [.ref a_t_lines, .int x_t_picture, .int x_t_sung, .int (x_t_tried + 1), .int 0, .ref a_t_picked])), (a_t_lines, .inl (E.2.1, 4, .inl r_t_lines)), (a_t_picked, .inl (E.2.1, 6, .inl u9)), (a_p1, .inr (1, [.int x_p1_truth, .int x_p1_caskets, .int x_p1_wooers, .ref a_p1_metals, .ref a_p1_kinds])), (a_p1_metals, .inl (E.2.1, 4, .inl r_p1_metals)), (a_p1_kinds, .inl (E.2.1, 6, .inl r_p1_kinds))] H := hP
    refine lv_iload_n hx hb dX4_tryNext_70 rfl (lv_at hl 0 rfl) ?_
    exact W.iret hx hb hr (fun t ht _ => ⟨by cases h; rfl, by rw [ht]; cases h; exact hP, hS.F ht⟩) hS.2.2 dX4_tryNext_71
  · have h := ifn c11 h
    refine lv_iload_n hx hb dX4_tryNext_54 rfl (lv_at hl 0 rfl) ?_
    refine lv_aload_n hx hb dX4_tryNext_55 rfl (lv_at hl 1 rfl) ?_
    refine va_get (D := E.1) (ci := 4) (v := .int x_t_picture) (C := RX4) (T := TX4) (N := 6) hx hb hts hiX4 hown hK hP 0 rfl rfl 1 (by decide) (hts (.fieldLink RX4 15 "CasketLines$Standing" "picture" "I") (by decide +kernel)) (fun _ h9 => h9) rfl dX4_tryNext_56 ?_
    refine lv_icmp_ne (tgt := 66) hx hb dX4_tryNext_59 (by decide) (fun c12 => ?_) (fun c12 => ?_)
    · have h := ifn c12 h
      refine lv_iconst (v := 0) hx hb dX4_tryNext_66 (by decide) ?_
      refine va_put (D := E.1) (ci := 4) (v := .int 0) (ty := .boolean) (C := RX4) (T := TX4) (N := 6) hx hb hts hiX4 tyX4 tyX4_ok nmX4 hown hK hP (hD.adr rfl) hS 0 rfl rfl 4 (by decide) (hts (.fieldLink RX4 32 "CasketLines$Standing" "wed" "Z") (by decide +kernel)) (fun _ h9 => h9) rfl (by decide +kernel) rfl rfl (Nat.le_of_ble_eq_true rfl) dX4_tryNext_67 (fun H locs hP _ hS => ?_)
      have hP : va_P E.1 vwCl [(a_t, .inr (4, [.ref a_t_lines, .int x_t_picture, .int x_t_sung, .int (x_t_tried + 1), .int 0, .ref a_t_picked])), (a_t_lines, .inl (E.2.1, 4, .inl r_t_lines)), (a_t_picked, .inl (E.2.1, 6, .inl u9)), (a_p1, .inr (1, [.int x_p1_truth, .int x_p1_caskets, .int x_p1_wooers, .ref a_p1_metals, .ref a_p1_kinds])), (a_p1_metals, .inl (E.2.1, 4, .inl r_p1_metals)), (a_p1_kinds, .inl (E.2.1, 6, .inl r_p1_kinds))] H := hP
      refine lv_iload_n hx hb dX4_tryNext_70 rfl (lv_at hl 0 rfl) ?_
      exact W.iret hx hb hr (fun t ht _ => ⟨by cases h; rfl, by rw [ht]; cases h; exact hP, hS.F ht⟩) hS.2.2 dX4_tryNext_71
    · have h := ifp c12 h
      refine lv_iconst (v := 1) hx hb dX4_tryNext_62 (by decide) ?_
      refine lv_goto (tgt := 67) hx hb dX4_tryNext_63 (by decide) ?_
      refine va_put (D := E.1) (ci := 4) (v := .int 1) (ty := .boolean) (C := RX4) (T := TX4) (N := 6) hx hb hts hiX4 tyX4 tyX4_ok nmX4 hown hK hP (hD.adr rfl) hS 0 rfl rfl 4 (by decide) (hts (.fieldLink RX4 32 "CasketLines$Standing" "wed" "Z") (by decide +kernel)) (fun _ h9 => h9) rfl (by decide +kernel) rfl rfl (Nat.le_of_ble_eq_true rfl) dX4_tryNext_67 (fun H locs hP _ hS => ?_)
      have hP : va_P E.1 vwCl [(a_t, .inr (4, [.ref a_t_lines, .int x_t_picture, .int x_t_sung, .int (x_t_tried + 1), .int 1, .ref a_t_picked])), (a_t_lines, .inl (E.2.1, 4, .inl r_t_lines)), (a_t_picked, .inl (E.2.1, 6, .inl u9)), (a_p1, .inr (1, [.int x_p1_truth, .int x_p1_caskets, .int x_p1_wooers, .ref a_p1_metals, .ref a_p1_kinds])), (a_p1_metals, .inl (E.2.1, 4, .inl r_p1_metals)), (a_p1_kinds, .inl (E.2.1, 6, .inl r_p1_kinds))] H := hP
      refine lv_iload_n hx hb dX4_tryNext_70 rfl (lv_at hl 0 rfl) ?_
      exact W.iret hx hb hr (fun t ht _ => ⟨by cases h; rfl, by rw [ht]; cases h; exact hP, hS.F ht⟩) hS.2.2 dX4_tryNext_71
set_option maxHeartbeats 4000000 in
set_option maxRecDepth 100000 in
theorem k_X4_tryNext {l : Launch} {E : Ev} (a_t a_p1 a_t_lines a_t_picked a_p1_metals a_p1_kinds : Nat) (x_t_picture : Int32) (x_t_sung : Int32) (x_t_tried : Int32) (x_t_wed : Int32) (r_t_lines : Nat → Int32) (r_t_picked : Nat → Int32) (x_p1_truth : Int32) (x_p1_caskets : Int32) (x_p1_wooers : Int32) (r_p1_metals : Nat → Int32) (r_p1_kinds : Nat → Int32) (sz : Nat) (o_r : Int32) (o_x_t_tried : Int32) (o_x_t_wed : Int32) (o_r_t_picked : Nat → Int32) (hf : f_X4_tryNext x_t_picture x_t_sung x_t_tried x_t_wed r_t_lines r_t_picked x_p1_truth x_p1_caskets r_p1_metals r_p1_kinds = some (o_r, o_x_t_tried, o_x_t_wed, o_r_t_picked)) : Met l yX4_tryNext wsX4_tryNext ({ frames := 4, cells := 0, slots := 0, locals := 94 }) (Pw E [.ref a_t, .ref a_p1] [(a_t, .inr (4, [.ref a_t_lines, .int x_t_picture, .int x_t_sung, .int x_t_tried, .int x_t_wed, .ref a_t_picked])), (a_t_lines, .inl (E.2.1, 4, .inl r_t_lines)), (a_t_picked, .inl (E.2.1, 6, .inl r_t_picked)), (a_p1, .inr (1, [.int x_p1_truth, .int x_p1_caskets, .int x_p1_wooers, .ref a_p1_metals, .ref a_p1_kinds])), (a_p1_metals, .inl (E.2.1, 4, .inl r_p1_metals)), (a_p1_kinds, .inl (E.2.1, 6, .inl r_p1_kinds))] sz) (Qw E (some (.int o_r)) [(a_t, .inr (4, [.ref a_t_lines, .int x_t_picture, .int x_t_sung, .int o_x_t_tried, .int o_x_t_wed, .ref a_t_picked])), (a_t_lines, .inl (E.2.1, 4, .inl r_t_lines)), (a_t_picked, .inl (E.2.1, 6, .inl o_r_t_picked)), (a_p1, .inr (1, [.int x_p1_truth, .int x_p1_caskets, .int x_p1_wooers, .ref a_p1_metals, .ref a_p1_kinds])), (a_p1_metals, .inl (E.2.1, 4, .inl r_p1_metals)), (a_p1_kinds, .inl (E.2.1, 6, .inl r_p1_kinds))] (va_A [(a_t, .inr (4, [.ref a_t_lines, .int x_t_picture, .int x_t_sung, .int x_t_tried, .int x_t_wed, .ref a_t_picked])), (a_t_lines, .inl (E.2.1, 4, .inl r_t_lines)), (a_t_picked, .inl (E.2.1, 6, .inl r_t_picked)), (a_p1, .inr (1, [.int x_p1_truth, .int x_p1_caskets, .int x_p1_wooers, .ref a_p1_metals, .ref a_p1_kinds])), (a_p1_metals, .inl (E.2.1, 4, .inl r_p1_metals)), (a_p1_kinds, .inl (E.2.1, 6, .inl r_p1_kinds))] sz)) 0 0 (va_A [(a_t, .inr (4, [.ref a_t_lines, .int x_t_picture, .int x_t_sung, .int x_t_tried, .int x_t_wed, .ref a_t_picked])), (a_t_lines, .inl (E.2.1, 4, .inl r_t_lines)), (a_t_picked, .inl (E.2.1, 6, .inl r_t_picked)), (a_p1, .inr (1, [.int x_p1_truth, .int x_p1_caskets, .int x_p1_wooers, .ref a_p1_metals, .ref a_p1_kinds])), (a_p1_metals, .inl (E.2.1, 4, .inl r_p1_metals)), (a_p1_kinds, .inl (E.2.1, 6, .inl r_p1_kinds))] sz) := by
  refine Met.ofW (cc := cX4_tryNext) (maxL := 3) (ret := (some .int)) (by decide) rfl ?_
  intro p e s m args below meth c s₁ B hml hv
  obtain ⟨rfl, rfl, hw, hP⟩ := Pw.start hv
  have X := Cxt.of B hml
  have hl := lv_entry ([.ref a_t, .ref a_p1]) (n := 3) (Nat.le_of_ble_eq_true rfl)
  rw [lg_entry_eq]
  exact w_X4_tryNext a_t a_p1 a_t_lines a_t_picked a_p1_metals a_p1_kinds x_t_picture x_t_sung x_t_tried x_t_wed r_t_lines r_t_picked x_p1_truth x_p1_caskets x_p1_wooers r_p1_metals r_p1_kinds  o_r o_x_t_tried o_x_t_wed o_r_t_picked X hw hf hP va_S.rf hl
set_option maxHeartbeats 4000000 in
set_option maxRecDepth 100000 in
theorem w_X4_couldDo {p : Program} {l : Launch} {e : Env} {s : State} {m : MethodId} {args : Array Value} {below : List Frame} {meth : Method} {c : Code} {E : Ev} {A : Nat → Prop} (a_t a_p1 a_t_lines a_t_picked a_p1_metals a_p1_kinds : Nat) (x_t_picture : Int32) (x_t_sung : Int32) (x_t_tried : Int32) (x_t_wed : Int32) (r_t_lines : Nat → Int32) (r_t_picked : Nat → Int32) (x_p1_truth : Int32) (x_p1_caskets : Int32) (x_p1_wooers : Int32) (r_p1_metals : Nat → Int32) (r_p1_kinds : Nat → Int32) (p2 : Int32) (p3 : Int32) (o_r : Int32) (o_x_t_picture : Int32) (o_x_t_sung : Int32) (o_x_t_tried : Int32) (o_x_t_wed : Int32) (o_r_t_picked : Nat → Int32) (X : Cxt p s m args meth c cX4_couldDo 5 wsX4_couldDo RX4 (some .boolean)) (hw : Cw E A s [(a_t, .inr (4, [.ref a_t_lines, .int x_t_picture, .int x_t_sung, .int x_t_tried, .int x_t_wed, .ref a_t_picked])), (a_t_lines, .inl (E.2.1, 4, .inl r_t_lines)), (a_t_picked, .inl (E.2.1, 6, .inl r_t_picked)), (a_p1, .inr (1, [.int x_p1_truth, .int x_p1_caskets, .int x_p1_wooers, .ref a_p1_metals, .ref a_p1_kinds])), (a_p1_metals, .inl (E.2.1, 4, .inl r_p1_metals)), (a_p1_kinds, .inl (E.2.1, 6, .inl r_p1_kinds))]) (h : f_X4_couldDo x_t_picture x_t_sung x_t_tried x_t_wed r_t_lines r_t_picked x_p1_truth x_p1_caskets x_p1_wooers r_p1_metals r_p1_kinds p2 p3 = some (o_r, o_x_t_picture, o_x_t_sung, o_x_t_tried, o_x_t_wed, o_r_t_picked)) {H : Heap} {locs : List Loc} (hP : va_P E.1 vwCl [(a_t, .inr (4, [.ref a_t_lines, .int x_t_picture, .int x_t_sung, .int x_t_tried, .int x_t_wed, .ref a_t_picked])), (a_t_lines, .inl (E.2.1, 4, .inl r_t_lines)), (a_t_picked, .inl (E.2.1, 6, .inl r_t_picked)), (a_p1, .inr (1, [.int x_p1_truth, .int x_p1_caskets, .int x_p1_wooers, .ref a_p1_metals, .ref a_p1_kinds])), (a_p1_metals, .inl (E.2.1, 4, .inl r_p1_metals)), (a_p1_kinds, .inl (E.2.1, 6, .inl r_p1_kinds))] H) (hS : va_S A s.heap H locs) {ls : Array Slot} (hl : lv_has ls 5 [(0, .ref a_t), (1, .ref a_p1), (2, .int p2), (3, .int p3)]) : W p l e { frames := 5, cells := 0, slots := 0, locals := 116 } s m args below meth c H locs 0 0 (MQ below (Qw E (some (.int o_r)) [(a_t, .inr (4, [.ref a_t_lines, .int o_x_t_picture, .int o_x_t_sung, .int o_x_t_tried, .int o_x_t_wed, .ref a_t_picked])), (a_t_lines, .inl (E.2.1, 4, .inl r_t_lines)), (a_t_picked, .inl (E.2.1, 6, .inl o_r_t_picked)), (a_p1, .inr (1, [.int x_p1_truth, .int x_p1_caskets, .int x_p1_wooers, .ref a_p1_metals, .ref a_p1_kinds])), (a_p1_metals, .inl (E.2.1, 4, .inl r_p1_metals)), (a_p1_kinds, .inl (E.2.1, 6, .inl r_p1_kinds))] A) args s 0 0 A) (F0 m 0 ls []) := by
  obtain ⟨⟨hx, hb, hml, hown, hts⟩, hr, hlocks⟩ := id X
  obtain ⟨hC, hAB, hA, hB, hD⟩ := id hw
  have hiX1 : ∀ w ∈ u_ws RX1 TX1 5, w ∈ wsX4_couldDo := by decide +kernel
  have hiX4 : ∀ w ∈ u_ws RX4 TX4 6, w ∈ wsX4_couldDo := by decide +kernel
  have hK := hC.1
  unfold f_X4_couldDo at h
  refine lv_iload_n hx hb dX4_couldDo_0 rfl (lv_at hl 2 rfl) ?_
  refine lv_if_ne (tgt := 26) hx hb dX4_couldDo_1 (by decide) (fun c1 => ?_) (fun c1 => ?_)
  · have h := ifn c1 h
    refine lv_aload_n hx hb dX4_couldDo_26 rfl (lv_at hl 1 rfl) ?_
    refine lv_iload_n hx hb dX4_couldDo_27 rfl (lv_at hl 3 rfl) ?_
    obtain ⟨r2, g3, h⟩ := bnd h
    refine rcV (As := [.int p3]) (rest := []) ⟨hx, hb, hml, hown, hts⟩ (k_X1_hasCasket (l := l) (E := E) a_p1 a_p1_metals a_p1_kinds x_p1_truth x_p1_caskets x_p1_wooers p3 r2 g3) (cwV 1 hts gX4_couldDo_X1_hasCasket rfl rfl rfl (by decide +kernel) ⟨Nat.le_of_ble_eq_true rfl, Nat.le_of_ble_eq_true rfl⟩) (hC.here hS hAB) hP [3] rfl 3 1 rfl rfl rfl rfl hl.1 rfl (Nat.le_of_ble_eq_true rfl) dX4_couldDo_28 ⟨Nat.zero_le _, Nat.zero_le _⟩ ?_
    refine lv_if_ne (tgt := 36) hx hb dX4_couldDo_31 (by decide) (fun c4 => ?_) (fun c4 => ?_)
    · have h := ifn c4 h
      refine lv_iload_n hx hb dX4_couldDo_36 rfl (lv_at hl 2 rfl) ?_
      refine lv_iconst (v := 1) hx hb dX4_couldDo_37 (by decide) ?_
      refine lv_icmp_ne (tgt := 64) hx hb dX4_couldDo_38 (by decide) (fun c5 => ?_) (fun c5 => ?_)
      · have h := ifn c5 h
        refine lv_iload_n hx hb dX4_couldDo_64 rfl (lv_at hl 2 rfl) ?_
        refine lv_iconst (v := 2) hx hb dX4_couldDo_65 (by decide) ?_
        refine lv_icmp_ne (tgt := 76) hx hb dX4_couldDo_66 (by decide) (fun c6 => ?_) (fun c6 => ?_)
        · have h := ifn c6 h
          refine lv_iconst (v := 0) hx hb dX4_couldDo_76 (by decide) ?_
          exact W.zret hx hb hr rfl (fun t ht _ => ⟨by cases h; rfl, by rw [ht]; cases h; exact hP, hS.F ht⟩) hS.2.2 dX4_couldDo_77
        · have h := ifp c6 h
          refine lv_aload_n hx hb dX4_couldDo_69 rfl (lv_at hl 0 rfl) ?_
          refine lv_iload_n hx hb dX4_couldDo_70 rfl (lv_at hl 3 rfl) ?_
          obtain ⟨u9, g8, h⟩ := bnd h
          refine wcV (A := A) (As := [.int p3]) (rest := []) (ws' := [(a_t, .inr (4, [.ref a_t_lines, .int x_t_picture, .int u9, .int x_t_tried, .int x_t_wed, .ref a_t_picked])), (a_t_lines, .inl (E.2.1, 4, .inl r_t_lines)), (a_t_picked, .inl (E.2.1, 6, .inl r_t_picked)), (a_p1, .inr (1, [.int x_p1_truth, .int x_p1_caskets, .int x_p1_wooers, .ref a_p1_metals, .ref a_p1_kinds])), (a_p1_metals, .inl (E.2.1, 4, .inl r_p1_metals)), (a_p1_kinds, .inl (E.2.1, 6, .inl r_p1_kinds))]) ⟨hx, hb, hml, hown, hts⟩ (k_X4_turnSong (l := l) (E := E) a_t a_t_lines a_t_picked x_t_picture x_t_sung x_t_tried x_t_wed p3 H.size u9 g8) (cwV 1 hts gX4_couldDo_X4_turnSong rfl rfl rfl (by decide +kernel) ⟨Nat.le_of_ble_eq_true rfl, Nat.le_of_ble_eq_true rfl⟩) (hC.here hS hAB) hP (hD.adr rfl) hS hA hAB hB [0] rfl rfl [some 0, none, none, none, none, none] rfl rfl 0 4 rfl rfl rfl rfl hl.1 rfl (Nat.le_of_ble_eq_true rfl) dX4_couldDo_71 ⟨Nat.zero_le _, Nat.zero_le _⟩ (fun H locs hP hS => ?_)
          refine lv_iconst (v := 1) hx hb dX4_couldDo_74 (by decide) ?_
          exact W.zret hx hb hr rfl (fun t ht _ => ⟨by cases h; rfl, by rw [ht]; cases h; exact hP, hS.F ht⟩) hS.2.2 dX4_couldDo_75
      · have h := ifp c5 h
        refine lv_aload_n hx hb dX4_couldDo_41 rfl (lv_at hl 0 rfl) ?_
        refine va_get (D := E.1) (ci := 4) (v := .int x_t_picture) (C := RX4) (T := TX4) (N := 6) hx hb hts hiX4 hown hK hP 0 rfl rfl 1 (by decide) (hts (.fieldLink RX4 15 "CasketLines$Standing" "picture" "I") (by decide +kernel)) (fun _ h9 => h9) rfl dX4_couldDo_42 ?_
        refine lv_iload_n hx hb dX4_couldDo_45 rfl (lv_at hl 3 rfl) ?_
        refine lv_icmp_eq (tgt := 53) hx hb dX4_couldDo_46 (by decide) (fun c11 => ?_) (fun c11 => ?_)
        · have h := ifp c11 h
          refine lv_iconst (v := 0) hx hb dX4_couldDo_53 (by decide) ?_
          refine lv_istore (lv' := [(4, .int 0), (0, .ref a_t), (1, .ref a_p1), (2, .int p2), (3, .int p3)]) hx hb dX4_couldDo_54 hl (by decide) rfl (fun ls hl => ?_)
          refine lv_aload_n hx hb dX4_couldDo_56 rfl (lv_at hl 1 rfl) ?_
          refine lv_iload_n hx hb dX4_couldDo_57 rfl (lv_at hl 4 rfl) ?_
          refine va_put (D := E.1) (ci := 4) (v := .int p3) (ty := .int) (C := RX4) (T := TX4) (N := 6) hx hb hts hiX4 tyX4 tyX4_ok nmX4 hown hK hP (hD.adr rfl) hS 0 rfl rfl 1 (by decide) (hts (.fieldLink RX4 15 "CasketLines$Standing" "picture" "I") (by decide +kernel)) (fun _ h9 => h9) rfl (by decide +kernel) rfl rfl (Nat.le_of_ble_eq_true rfl) dX4_couldDo_58 (fun H locs hP _ hS => ?_)
          have hP : va_P E.1 vwCl [(a_t, .inr (4, [.ref a_t_lines, .int p3, .int x_t_sung, .int x_t_tried, .int x_t_wed, .ref a_t_picked])), (a_t_lines, .inl (E.2.1, 4, .inl r_t_lines)), (a_t_picked, .inl (E.2.1, 6, .inl r_t_picked)), (a_p1, .inr (1, [.int x_p1_truth, .int x_p1_caskets, .int x_p1_wooers, .ref a_p1_metals, .ref a_p1_kinds])), (a_p1_metals, .inl (E.2.1, 4, .inl r_p1_metals)), (a_p1_kinds, .inl (E.2.1, 6, .inl r_p1_kinds))] H := hP
          refine lv_iload hx hb dX4_couldDo_61 (lv_at hl 0 rfl) ?_
          exact W.zret hx hb hr rfl (fun t ht _ => ⟨by cases h; rfl, by rw [ht]; cases h; exact hP, hS.F ht⟩) hS.2.2 dX4_couldDo_63
        · have h := ifn c11 h
          refine lv_iconst (v := 1) hx hb dX4_couldDo_49 (by decide) ?_
          refine lv_goto (tgt := 54) hx hb dX4_couldDo_50 (by decide) ?_
          refine lv_istore (lv' := [(4, .int 1), (0, .ref a_t), (1, .ref a_p1), (2, .int p2), (3, .int p3)]) hx hb dX4_couldDo_54 hl (by decide) rfl (fun ls hl => ?_)
          refine lv_aload_n hx hb dX4_couldDo_56 rfl (lv_at hl 1 rfl) ?_
          refine lv_iload_n hx hb dX4_couldDo_57 rfl (lv_at hl 4 rfl) ?_
          refine va_put (D := E.1) (ci := 4) (v := .int p3) (ty := .int) (C := RX4) (T := TX4) (N := 6) hx hb hts hiX4 tyX4 tyX4_ok nmX4 hown hK hP (hD.adr rfl) hS 0 rfl rfl 1 (by decide) (hts (.fieldLink RX4 15 "CasketLines$Standing" "picture" "I") (by decide +kernel)) (fun _ h9 => h9) rfl (by decide +kernel) rfl rfl (Nat.le_of_ble_eq_true rfl) dX4_couldDo_58 (fun H locs hP _ hS => ?_)
          have hP : va_P E.1 vwCl [(a_t, .inr (4, [.ref a_t_lines, .int p3, .int x_t_sung, .int x_t_tried, .int x_t_wed, .ref a_t_picked])), (a_t_lines, .inl (E.2.1, 4, .inl r_t_lines)), (a_t_picked, .inl (E.2.1, 6, .inl r_t_picked)), (a_p1, .inr (1, [.int x_p1_truth, .int x_p1_caskets, .int x_p1_wooers, .ref a_p1_metals, .ref a_p1_kinds])), (a_p1_metals, .inl (E.2.1, 4, .inl r_p1_metals)), (a_p1_kinds, .inl (E.2.1, 6, .inl r_p1_kinds))] H := hP
          refine lv_iload hx hb dX4_couldDo_61 (lv_at hl 0 rfl) ?_
          exact W.zret hx hb hr rfl (fun t ht _ => ⟨by cases h; rfl, by rw [ht]; cases h; exact hP, hS.F ht⟩) hS.2.2 dX4_couldDo_63
    · have h := ifp c4 h
      refine lv_iconst (v := 0) hx hb dX4_couldDo_34 (by decide) ?_
      exact W.zret hx hb hr rfl (fun t ht _ => ⟨by cases h; rfl, by rw [ht]; cases h; exact hP, hS.F ht⟩) hS.2.2 dX4_couldDo_35
  · have h := ifp c1 h
    refine lv_iload_n hx hb dX4_couldDo_4 rfl (lv_at hl 3 rfl) ?_
    refine lv_if_ne (tgt := 16) hx hb dX4_couldDo_5 (by decide) (fun c12 => ?_) (fun c12 => ?_)
    · have h := ifn c12 h
      refine lv_iconst (v := 0) hx hb dX4_couldDo_16 (by decide) ?_
      exact W.zret hx hb hr rfl (fun t ht _ => ⟨by cases h; rfl, by rw [ht]; cases h; exact hP, hS.F ht⟩) hS.2.2 dX4_couldDo_17
    · have h := ifp c12 h
      refine lv_aload_n hx hb dX4_couldDo_8 rfl (lv_at hl 0 rfl) ?_
      refine lv_aload_n hx hb dX4_couldDo_9 rfl (lv_at hl 1 rfl) ?_
      obtain ⟨r13, g14, h⟩ := bnd h
      refine rcV (As := [.ref a_p1]) (rest := []) ⟨hx, hb, hml, hown, hts⟩ (k_X4_mayTry (l := l) (E := E) a_t a_p1 a_t_lines a_t_picked a_p1_metals a_p1_kinds x_t_picture x_t_sung x_t_tried x_t_wed x_p1_truth x_p1_caskets x_p1_wooers r13 g14) (cwV 1 hts gX4_couldDo_X4_mayTry rfl rfl rfl (by decide +kernel) ⟨Nat.le_of_ble_eq_true rfl, Nat.le_of_ble_eq_true rfl⟩) (hC.here hS hAB) hP [0, 3] rfl 0 4 rfl rfl rfl rfl hl.1 rfl (Nat.le_of_ble_eq_true rfl) dX4_couldDo_10 ⟨Nat.zero_le _, Nat.zero_le _⟩ ?_
      refine lv_if_ne (tgt := 18) hx hb dX4_couldDo_13 (by decide) (fun c15 => ?_) (fun c15 => ?_)
      · have h := ifn c15 h
        refine lv_aload_n hx hb dX4_couldDo_18 rfl (lv_at hl 0 rfl) ?_
        refine lv_aload_n hx hb dX4_couldDo_19 rfl (lv_at hl 1 rfl) ?_
        obtain ⟨⟨r16, u18, u19, u20⟩, g17, h⟩ := bnd h
        refine wcV (A := A) (As := [.ref a_p1]) (rest := []) (ws' := [(a_t, .inr (4, [.ref a_t_lines, .int x_t_picture, .int x_t_sung, .int u18, .int u19, .ref a_t_picked])), (a_t_lines, .inl (E.2.1, 4, .inl r_t_lines)), (a_t_picked, .inl (E.2.1, 6, .inl u20)), (a_p1, .inr (1, [.int x_p1_truth, .int x_p1_caskets, .int x_p1_wooers, .ref a_p1_metals, .ref a_p1_kinds])), (a_p1_metals, .inl (E.2.1, 4, .inl r_p1_metals)), (a_p1_kinds, .inl (E.2.1, 6, .inl r_p1_kinds))]) ⟨hx, hb, hml, hown, hts⟩ (k_X4_tryNext (l := l) (E := E) a_t a_p1 a_t_lines a_t_picked a_p1_metals a_p1_kinds x_t_picture x_t_sung x_t_tried x_t_wed r_t_lines r_t_picked x_p1_truth x_p1_caskets x_p1_wooers r_p1_metals r_p1_kinds H.size r16 u18 u19 u20 g17) (cwV 1 hts gX4_couldDo_X4_tryNext rfl rfl rfl (by decide +kernel) ⟨Nat.le_of_ble_eq_true rfl, Nat.le_of_ble_eq_true rfl⟩) (hC.here hS hAB) hP (hD.adr rfl) hS hA hAB hB [0, 1, 2, 3, 4, 5] rfl rfl [some 0, some 1, some 2, some 3, some 4, some 5] rfl rfl 0 4 rfl rfl rfl rfl hl.1 rfl (Nat.le_of_ble_eq_true rfl) dX4_couldDo_20 ⟨Nat.zero_le _, Nat.zero_le _⟩ (fun H locs hP hS => ?_)
        refine lv_pop hx hb dX4_couldDo_23 rfl ?_
        refine lv_iconst (v := 1) hx hb dX4_couldDo_24 (by decide) ?_
        exact W.zret hx hb hr rfl (fun t ht _ => ⟨by cases h; rfl, by rw [ht]; cases h; exact hP, hS.F ht⟩) hS.2.2 dX4_couldDo_25
      · have h := ifp c15 h
        refine lv_iconst (v := 0) hx hb dX4_couldDo_16 (by decide) ?_
        exact W.zret hx hb hr rfl (fun t ht _ => ⟨by cases h; rfl, by rw [ht]; cases h; exact hP, hS.F ht⟩) hS.2.2 dX4_couldDo_17
set_option maxHeartbeats 4000000 in
set_option maxRecDepth 100000 in
theorem k_X4_couldDo {l : Launch} {E : Ev} (a_t a_p1 a_t_lines a_t_picked a_p1_metals a_p1_kinds : Nat) (x_t_picture : Int32) (x_t_sung : Int32) (x_t_tried : Int32) (x_t_wed : Int32) (r_t_lines : Nat → Int32) (r_t_picked : Nat → Int32) (x_p1_truth : Int32) (x_p1_caskets : Int32) (x_p1_wooers : Int32) (r_p1_metals : Nat → Int32) (r_p1_kinds : Nat → Int32) (p2 : Int32) (p3 : Int32) (sz : Nat) (o_r : Int32) (o_x_t_picture : Int32) (o_x_t_sung : Int32) (o_x_t_tried : Int32) (o_x_t_wed : Int32) (o_r_t_picked : Nat → Int32) (hf : f_X4_couldDo x_t_picture x_t_sung x_t_tried x_t_wed r_t_lines r_t_picked x_p1_truth x_p1_caskets x_p1_wooers r_p1_metals r_p1_kinds p2 p3 = some (o_r, o_x_t_picture, o_x_t_sung, o_x_t_tried, o_x_t_wed, o_r_t_picked)) : Met l yX4_couldDo wsX4_couldDo ({ frames := 5, cells := 0, slots := 0, locals := 116 }) (Pw E [.ref a_t, .ref a_p1, .int p2, .int p3] [(a_t, .inr (4, [.ref a_t_lines, .int x_t_picture, .int x_t_sung, .int x_t_tried, .int x_t_wed, .ref a_t_picked])), (a_t_lines, .inl (E.2.1, 4, .inl r_t_lines)), (a_t_picked, .inl (E.2.1, 6, .inl r_t_picked)), (a_p1, .inr (1, [.int x_p1_truth, .int x_p1_caskets, .int x_p1_wooers, .ref a_p1_metals, .ref a_p1_kinds])), (a_p1_metals, .inl (E.2.1, 4, .inl r_p1_metals)), (a_p1_kinds, .inl (E.2.1, 6, .inl r_p1_kinds))] sz) (Qw E (some (.int o_r)) [(a_t, .inr (4, [.ref a_t_lines, .int o_x_t_picture, .int o_x_t_sung, .int o_x_t_tried, .int o_x_t_wed, .ref a_t_picked])), (a_t_lines, .inl (E.2.1, 4, .inl r_t_lines)), (a_t_picked, .inl (E.2.1, 6, .inl o_r_t_picked)), (a_p1, .inr (1, [.int x_p1_truth, .int x_p1_caskets, .int x_p1_wooers, .ref a_p1_metals, .ref a_p1_kinds])), (a_p1_metals, .inl (E.2.1, 4, .inl r_p1_metals)), (a_p1_kinds, .inl (E.2.1, 6, .inl r_p1_kinds))] (va_A [(a_t, .inr (4, [.ref a_t_lines, .int x_t_picture, .int x_t_sung, .int x_t_tried, .int x_t_wed, .ref a_t_picked])), (a_t_lines, .inl (E.2.1, 4, .inl r_t_lines)), (a_t_picked, .inl (E.2.1, 6, .inl r_t_picked)), (a_p1, .inr (1, [.int x_p1_truth, .int x_p1_caskets, .int x_p1_wooers, .ref a_p1_metals, .ref a_p1_kinds])), (a_p1_metals, .inl (E.2.1, 4, .inl r_p1_metals)), (a_p1_kinds, .inl (E.2.1, 6, .inl r_p1_kinds))] sz)) 0 0 (va_A [(a_t, .inr (4, [.ref a_t_lines, .int x_t_picture, .int x_t_sung, .int x_t_tried, .int x_t_wed, .ref a_t_picked])), (a_t_lines, .inl (E.2.1, 4, .inl r_t_lines)), (a_t_picked, .inl (E.2.1, 6, .inl r_t_picked)), (a_p1, .inr (1, [.int x_p1_truth, .int x_p1_caskets, .int x_p1_wooers, .ref a_p1_metals, .ref a_p1_kinds])), (a_p1_metals, .inl (E.2.1, 4, .inl r_p1_metals)), (a_p1_kinds, .inl (E.2.1, 6, .inl r_p1_kinds))] sz) := by
  refine Met.ofW (cc := cX4_couldDo) (maxL := 5) (ret := (some .boolean)) (by decide) rfl ?_
  intro p e s m args below meth c s₁ B hml hv
  obtain ⟨rfl, rfl, hw, hP⟩ := Pw.start hv
  have X := Cxt.of B hml
  have hl := lv_entry ([.ref a_t, .ref a_p1, .int p2, .int p3]) (n := 5) (Nat.le_of_ble_eq_true rfl)
  rw [lg_entry_eq]
  exact w_X4_couldDo a_t a_p1 a_t_lines a_t_picked a_p1_metals a_p1_kinds x_t_picture x_t_sung x_t_tried x_t_wed r_t_lines r_t_picked x_p1_truth x_p1_caskets x_p1_wooers r_p1_metals r_p1_kinds p2 p3 o_r o_x_t_picture o_x_t_sung o_x_t_tried o_x_t_wed o_r_t_picked X hw hf hP va_S.rf hl
set_option maxHeartbeats 4000000 in
set_option maxRecDepth 100000 in
theorem w_X4_takeBack {p : Program} {l : Launch} {e : Env} {s : State} {m : MethodId} {args : Array Value} {below : List Frame} {meth : Method} {c : Code} {E : Ev} {A : Nat → Prop} (a_t a_t_lines a_t_picked : Nat) (x_t_picture : Int32) (x_t_sung : Int32) (x_t_tried : Int32) (x_t_wed : Int32) (r_t_lines : Nat → Int32) (p1 : Int32) (p2 : Int32) (p3 : Int32) (o_x_t_picture : Int32) (o_x_t_sung : Int32) (o_x_t_tried : Int32) (o_x_t_wed : Int32) (o_r_t_lines : Nat → Int32) (X : Cxt p s m args meth c cX4_takeBack 4 wsX4_takeBack RX4 none) (hw : Cw E A s [(a_t, .inr (4, [.ref a_t_lines, .int x_t_picture, .int x_t_sung, .int x_t_tried, .int x_t_wed, .ref a_t_picked])), (a_t_lines, .inl (E.2.1, 4, .inl r_t_lines))]) (h : f_X4_takeBack x_t_picture x_t_sung x_t_tried x_t_wed r_t_lines p1 p2 p3 = some (o_x_t_picture, o_x_t_sung, o_x_t_tried, o_x_t_wed, o_r_t_lines)) {H : Heap} {locs : List Loc} (hP : va_P E.1 vwCl [(a_t, .inr (4, [.ref a_t_lines, .int x_t_picture, .int x_t_sung, .int x_t_tried, .int x_t_wed, .ref a_t_picked])), (a_t_lines, .inl (E.2.1, 4, .inl r_t_lines))] H) (hS : va_S A s.heap H locs) {ls : Array Slot} (hl : lv_has ls 4 [(0, .ref a_t), (1, .int p1), (2, .int p2), (3, .int p3)]) : W p l e { frames := 1, cells := 0, slots := 0, locals := 22 } s m args below meth c H locs 0 0 (MQ below (Qw E none [(a_t, .inr (4, [.ref a_t_lines, .int o_x_t_picture, .int o_x_t_sung, .int o_x_t_tried, .int o_x_t_wed, .ref a_t_picked])), (a_t_lines, .inl (E.2.1, 4, .inl o_r_t_lines))] A) args s 0 0 A) (F0 m 0 ls []) := by
  obtain ⟨⟨hx, hb, hml, hown, hts⟩, hr, hlocks⟩ := id X
  obtain ⟨hC, hAB, hA, hB, hD⟩ := id hw
  have hiX4 : ∀ w ∈ u_ws RX4 TX4 6, w ∈ wsX4_takeBack := by decide +kernel
  have hK := hC.1
  unfold f_X4_takeBack at h
  refine lv_iload_n hx hb dX4_takeBack_0 rfl (lv_at hl 1 rfl) ?_
  by_cases c1 : p1 = 0
  · have h := ifp c1 h
    refine lv_tableIn (tgt := 32) (off := 31) hx hb dX4_takeBack_1 (by rw [c1]; decide) (by rw [c1]; decide) (by rw [c1]; rfl) (by decide) ?_
    refine lv_aload_n hx hb dX4_takeBack_32 rfl (lv_at hl 0 rfl) ?_
    refine lv_iconst (v := 0) hx hb dX4_takeBack_33 (by decide) ?_
    refine lv_aload_n hx hb dX4_takeBack_34 rfl (lv_at hl 0 rfl) ?_
    refine va_get (D := E.1) (ci := 4) (v := .int x_t_tried) (C := RX4) (T := TX4) (N := 6) hx hb hts hiX4 hown hK hP 0 rfl rfl 3 (by decide) (hts (.fieldLink RX4 29 "CasketLines$Standing" "tried" "I") (by decide +kernel)) (fun _ h9 => h9) rfl dX4_takeBack_35 ?_
    refine lv_iconst (v := 1) hx hb dX4_takeBack_38 (by decide) ?_
    refine lv_isub hx hb dX4_takeBack_39 ?_
    refine va_mmax hx hb (hml.trans hl.1.symm) hown (hts (.methodLink RX4 83 Lib.Math.max.name) (by decide +kernel)) (hts (.static Lib.Math.max.name) (by decide +kernel)) (hts (.initialized "java/lang/Math") (by decide +kernel)) (hts (.code Lib.Math.max.name Lib.Math.max.code 2 (some .int)) (by decide +kernel)) (Nat.le_of_ble_eq_true rfl) (Nat.le_of_ble_eq_true rfl) (Nat.zero_le _) (Nat.zero_le _) dX4_takeBack_40 ?_
    obtain ⟨z5, g5, h⟩ := bnd h
    refine lv_topi (fun y5 ey5 => ?_)
    obtain rfl : y5 = z5 := ey5.trans (Option.some.inj g5)
    refine va_put (D := E.1) (ci := 4) (v := .int y5) (ty := .int) (C := RX4) (T := TX4) (N := 6) hx hb hts hiX4 tyX4 tyX4_ok nmX4 hown hK hP (hD.adr rfl) hS 0 rfl rfl 3 (by decide) (hts (.fieldLink RX4 29 "CasketLines$Standing" "tried" "I") (by decide +kernel)) (fun _ h9 => h9) rfl (by decide +kernel) rfl rfl (Nat.le_of_ble_eq_true rfl) dX4_takeBack_43 (fun H locs hP _ hS => ?_)
    have hP : va_P E.1 vwCl [(a_t, .inr (4, [.ref a_t_lines, .int x_t_picture, .int x_t_sung, .int y5, .int x_t_wed, .ref a_t_picked])), (a_t_lines, .inl (E.2.1, 4, .inl r_t_lines))] H := hP
    refine lv_aload_n hx hb dX4_takeBack_46 rfl (lv_at hl 0 rfl) ?_
    refine lv_iconst (v := 0) hx hb dX4_takeBack_47 (by decide) ?_
    refine va_put (D := E.1) (ci := 4) (v := .int 0) (ty := .boolean) (C := RX4) (T := TX4) (N := 6) hx hb hts hiX4 tyX4 tyX4_ok nmX4 hown hK hP (hD.adr rfl) hS 0 rfl rfl 4 (by decide) (hts (.fieldLink RX4 32 "CasketLines$Standing" "wed" "Z") (by decide +kernel)) (fun _ h9 => h9) rfl (by decide +kernel) rfl rfl (Nat.le_of_ble_eq_true rfl) dX4_takeBack_48 (fun H locs hP _ hS => ?_)
    have hP : va_P E.1 vwCl [(a_t, .inr (4, [.ref a_t_lines, .int x_t_picture, .int x_t_sung, .int y5, .int 0, .ref a_t_picked])), (a_t_lines, .inl (E.2.1, 4, .inl r_t_lines))] H := hP
    refine lv_goto (tgt := 79) hx hb dX4_takeBack_51 (by decide) ?_
    exact W.vret hx hb hr (fun t ht _ => ⟨by cases h; rfl, by rw [ht]; cases h; exact hP, hS.F ht⟩) hS.2.2 dX4_takeBack_79
  · have h := ifn c1 h
    by_cases c2 : p1 = 1
    · have h := ifp c2 h
      refine lv_tableIn (tgt := 66) (off := 65) hx hb dX4_takeBack_1 (by rw [c2]; decide) (by rw [c2]; decide) (by rw [c2]; rfl) (by decide) ?_
      refine lv_aload_n hx hb dX4_takeBack_66 rfl (lv_at hl 0 rfl) ?_
      refine lv_iload_n hx hb dX4_takeBack_67 rfl (lv_at hl 3 rfl) ?_
      refine va_put (D := E.1) (ci := 4) (v := .int p3) (ty := .int) (C := RX4) (T := TX4) (N := 6) hx hb hts hiX4 tyX4 tyX4_ok nmX4 hown hK hP (hD.adr rfl) hS 0 rfl rfl 1 (by decide) (hts (.fieldLink RX4 15 "CasketLines$Standing" "picture" "I") (by decide +kernel)) (fun _ h9 => h9) rfl (by decide +kernel) rfl rfl (Nat.le_of_ble_eq_true rfl) dX4_takeBack_68 (fun H locs hP _ hS => ?_)
      have hP : va_P E.1 vwCl [(a_t, .inr (4, [.ref a_t_lines, .int p3, .int x_t_sung, .int x_t_tried, .int x_t_wed, .ref a_t_picked])), (a_t_lines, .inl (E.2.1, 4, .inl r_t_lines))] H := hP
      refine lv_goto (tgt := 79) hx hb dX4_takeBack_71 (by decide) ?_
      exact W.vret hx hb hr (fun t ht _ => ⟨by cases h; rfl, by rw [ht]; cases h; exact hP, hS.F ht⟩) hS.2.2 dX4_takeBack_79
    · have h := ifn c2 h
      by_cases c3 : p1 = 2
      · have h := ifp c3 h
        refine lv_tableIn (tgt := 74) (off := 73) hx hb dX4_takeBack_1 (by rw [c3]; decide) (by rw [c3]; decide) (by rw [c3]; rfl) (by decide) ?_
        refine lv_aload_n hx hb dX4_takeBack_74 rfl (lv_at hl 0 rfl) ?_
        refine lv_iload_n hx hb dX4_takeBack_75 rfl (lv_at hl 2 rfl) ?_
        obtain ⟨u8, g7, h⟩ := bnd h
        refine wcV (A := A) (As := [.int p2]) (rest := []) (ws' := [(a_t, .inr (4, [.ref a_t_lines, .int x_t_picture, .int u8, .int x_t_tried, .int x_t_wed, .ref a_t_picked])), (a_t_lines, .inl (E.2.1, 4, .inl r_t_lines))]) ⟨hx, hb, hml, hown, hts⟩ (k_X4_turnSong (l := l) (E := E) a_t a_t_lines a_t_picked x_t_picture x_t_sung x_t_tried x_t_wed p2 H.size u8 g7) (cwV 1 hts gX4_takeBack_X4_turnSong rfl rfl rfl (by decide +kernel) ⟨Nat.le_of_ble_eq_true rfl, Nat.le_of_ble_eq_true rfl⟩) (hC.here hS hAB) hP (hD.adr rfl) hS hA hAB hB [0] rfl rfl [some 0, none] rfl rfl 0 4 rfl rfl rfl rfl hl.1 rfl (Nat.le_of_ble_eq_true rfl) dX4_takeBack_76 ⟨Nat.zero_le _, Nat.zero_le _⟩ (fun H locs hP hS => ?_)
        exact W.vret hx hb hr (fun t ht _ => ⟨by cases h; rfl, by rw [ht]; cases h; exact hP, hS.F ht⟩) hS.2.2 dX4_takeBack_79
      · have h := ifn c3 h
        by_cases c4 : p1 = 3
        · have h := ifp c4 h
          refine lv_tableIn (tgt := 54) (off := 53) hx hb dX4_takeBack_1 (by rw [c4]; decide) (by rw [c4]; decide) (by rw [c4]; rfl) (by decide) ?_
          refine lv_aload_n hx hb dX4_takeBack_54 rfl (lv_at hl 0 rfl) ?_
          refine va_get (D := E.1) (ci := 4) (v := .ref a_t_lines) (C := RX4) (T := TX4) (N := 6) hx hb hts hiX4 hown hK hP 0 rfl rfl 0 (by decide) (hts (.fieldLink RX4 9 "CasketLines$Standing" "lines" "[I") (by decide +kernel)) (fun _ h9 => h9) rfl dX4_takeBack_55 ?_
          refine lv_iload_n hx hb dX4_takeBack_58 rfl (lv_at hl 2 rfl) ?_
          refine lv_iload_n hx hb dX4_takeBack_59 rfl (lv_at hl 3 rfl) ?_
          obtain ⟨u12, g11, h⟩ := bnd h
          refine wcSN (A := A) (As := [.ref a_t_lines, .int p2, .int p3]) (rest := []) (ws' := [(a_t, .inr (4, [.ref a_t_lines, .int x_t_picture, .int x_t_sung, .int x_t_tried, .int x_t_wed, .ref a_t_picked])), (a_t_lines, .inl (E.2.1, 4, .inl u12))]) ⟨hx, hb, hml, hown, hts⟩ (k_X5_put (l := l) (E := E) a_t_lines 4 r_t_lines p2 p3 H.size u12 g11) ⟨va_cnB 3 hts gX4_takeBack_X5_put_n64 rfl rfl rfl (hC.2.1 (RX4, 64, yX5_put, "CasketLines") (List.mem_of_getElem? (i := 15) rfl)) (hts (.initialized RX5) (by decide +kernel)) (by decide +kernel) ⟨Nat.le_of_ble_eq_true rfl, Nat.le_of_ble_eq_true rfl⟩, hts (.static yX5_put) (by decide +kernel), trivial⟩ (hC.here hS hAB) hP (hD.adr rfl) hS hA hAB hB [1] rfl rfl [none, some 0] rfl rfl rfl hl.1 rfl (Nat.le_of_ble_eq_true rfl) dX4_takeBack_60 ⟨Nat.zero_le _, Nat.zero_le _⟩ (fun H locs hP hS => ?_)
          refine lv_goto (tgt := 79) hx hb dX4_takeBack_63 (by decide) ?_
          exact W.vret hx hb hr (fun t ht _ => ⟨by cases h; rfl, by rw [ht]; cases h; exact hP, hS.F ht⟩) hS.2.2 dX4_takeBack_79
        · have h := ifn c4 h
          refine lv_tableOut (tgt := 74) hx hb dX4_takeBack_1 (by have z0 := tsw_ne (i := 0) (by decide) c1; have z1 := tsw_ne (i := 1) (by decide) c2; have z2 := tsw_ne (i := 2) (by decide) c3; have z3 := tsw_ne (i := 3) (by decide) c4; omega) (by decide) ?_
          refine lv_aload_n hx hb dX4_takeBack_74 rfl (lv_at hl 0 rfl) ?_
          refine lv_iload_n hx hb dX4_takeBack_75 rfl (lv_at hl 2 rfl) ?_
          obtain ⟨u16, g15, h⟩ := bnd h
          refine wcV (A := A) (As := [.int p2]) (rest := []) (ws' := [(a_t, .inr (4, [.ref a_t_lines, .int x_t_picture, .int u16, .int x_t_tried, .int x_t_wed, .ref a_t_picked])), (a_t_lines, .inl (E.2.1, 4, .inl r_t_lines))]) ⟨hx, hb, hml, hown, hts⟩ (k_X4_turnSong (l := l) (E := E) a_t a_t_lines a_t_picked x_t_picture x_t_sung x_t_tried x_t_wed p2 H.size u16 g15) (cwV 1 hts gX4_takeBack_X4_turnSong rfl rfl rfl (by decide +kernel) ⟨Nat.le_of_ble_eq_true rfl, Nat.le_of_ble_eq_true rfl⟩) (hC.here hS hAB) hP (hD.adr rfl) hS hA hAB hB [0] rfl rfl [some 0, none] rfl rfl 0 4 rfl rfl rfl rfl hl.1 rfl (Nat.le_of_ble_eq_true rfl) dX4_takeBack_76 ⟨Nat.zero_le _, Nat.zero_le _⟩ (fun H locs hP hS => ?_)
          exact W.vret hx hb hr (fun t ht _ => ⟨by cases h; rfl, by rw [ht]; cases h; exact hP, hS.F ht⟩) hS.2.2 dX4_takeBack_79
set_option maxHeartbeats 4000000 in
set_option maxRecDepth 100000 in
theorem k_X4_takeBack {l : Launch} {E : Ev} (a_t a_t_lines a_t_picked : Nat) (x_t_picture : Int32) (x_t_sung : Int32) (x_t_tried : Int32) (x_t_wed : Int32) (r_t_lines : Nat → Int32) (p1 : Int32) (p2 : Int32) (p3 : Int32) (sz : Nat) (o_x_t_picture : Int32) (o_x_t_sung : Int32) (o_x_t_tried : Int32) (o_x_t_wed : Int32) (o_r_t_lines : Nat → Int32) (hf : f_X4_takeBack x_t_picture x_t_sung x_t_tried x_t_wed r_t_lines p1 p2 p3 = some (o_x_t_picture, o_x_t_sung, o_x_t_tried, o_x_t_wed, o_r_t_lines)) : Met l yX4_takeBack wsX4_takeBack ({ frames := 1, cells := 0, slots := 0, locals := 22 }) (Pw E [.ref a_t, .int p1, .int p2, .int p3] [(a_t, .inr (4, [.ref a_t_lines, .int x_t_picture, .int x_t_sung, .int x_t_tried, .int x_t_wed, .ref a_t_picked])), (a_t_lines, .inl (E.2.1, 4, .inl r_t_lines))] sz) (Qw E none [(a_t, .inr (4, [.ref a_t_lines, .int o_x_t_picture, .int o_x_t_sung, .int o_x_t_tried, .int o_x_t_wed, .ref a_t_picked])), (a_t_lines, .inl (E.2.1, 4, .inl o_r_t_lines))] (va_A [(a_t, .inr (4, [.ref a_t_lines, .int x_t_picture, .int x_t_sung, .int x_t_tried, .int x_t_wed, .ref a_t_picked])), (a_t_lines, .inl (E.2.1, 4, .inl r_t_lines))] sz)) 0 0 (va_A [(a_t, .inr (4, [.ref a_t_lines, .int x_t_picture, .int x_t_sung, .int x_t_tried, .int x_t_wed, .ref a_t_picked])), (a_t_lines, .inl (E.2.1, 4, .inl r_t_lines))] sz) := by
  refine Met.ofW (cc := cX4_takeBack) (maxL := 4) (ret := none) (by decide) rfl ?_
  intro p e s m args below meth c s₁ B hml hv
  obtain ⟨rfl, rfl, hw, hP⟩ := Pw.start hv
  have X := Cxt.of B hml
  have hl := lv_entry ([.ref a_t, .int p1, .int p2, .int p3]) (n := 4) (Nat.le_of_ble_eq_true rfl)
  rw [lg_entry_eq]
  exact w_X4_takeBack a_t a_t_lines a_t_picked x_t_picture x_t_sung x_t_tried x_t_wed r_t_lines p1 p2 p3 o_x_t_picture o_x_t_sung o_x_t_tried o_x_t_wed o_r_t_lines X hw hf hP va_S.rf hl
set_option maxHeartbeats 4000000 in
set_option maxRecDepth 100000 in
theorem w_X0_add_36 {p : Program} {l : Launch} {e : Env} {s : State} {m : MethodId} {args : Array Value} {below : List Frame} {meth : Method} {c : Code} {E : Ev} {A : Nat → Prop} (a_t a_t_doings a_t_caskets a_t_before : Nat) (x_t_size : Int32) (r_t_doings : Nat → Int32) (r_t_caskets : Nat → Int32) (r_t_before : Nat → Int32) (v1 : Int32) (v2 : Int32) (v3 : Int32) (o_x_t_size : Int32) (o_r_t_doings : Nat → Int32) (o_r_t_caskets : Nat → Int32) (o_r_t_before : Nat → Int32) (X : Cxt p s m args meth c cX0_add 4 wsX0_add RX0 none) (hw : Cw E A s [(a_t, .inr (0, [.int x_t_size, .ref a_t_doings, .ref a_t_caskets, .ref a_t_before])), (a_t_doings, .inl (E.2.1, 14, .inl r_t_doings)), (a_t_caskets, .inl (E.2.1, 14, .inl r_t_caskets)), (a_t_before, .inl (E.2.1, 14, .inl r_t_before))]) (h : f_X0_add_36 x_t_size r_t_doings r_t_caskets r_t_before v1 v2 v3 = some (o_x_t_size, o_r_t_doings, o_r_t_caskets, o_r_t_before)) (H : Heap) (locs : List Loc) (hP : va_P E.1 vwCl [(a_t, .inr (0, [.int x_t_size, .ref a_t_doings, .ref a_t_caskets, .ref a_t_before])), (a_t_doings, .inl (E.2.1, 14, .inl r_t_doings)), (a_t_caskets, .inl (E.2.1, 14, .inl r_t_caskets)), (a_t_before, .inl (E.2.1, 14, .inl r_t_before))] H) (hS : va_S A s.heap H locs) (ls : Array Slot) (hl : lv_has ls 4 [(0, .ref a_t), (1, .int v1), (2, .int v2), (3, .int v3)]) : W p l e { frames := 1, cells := 0, slots := 0, locals := 22 } s m args below meth c H locs 0 0 (MQ below (Qw E none [(a_t, .inr (0, [.int o_x_t_size, .ref a_t_doings, .ref a_t_caskets, .ref a_t_before])), (a_t_doings, .inl (E.2.1, 14, .inl o_r_t_doings)), (a_t_caskets, .inl (E.2.1, 14, .inl o_r_t_caskets)), (a_t_before, .inl (E.2.1, 14, .inl o_r_t_before))] A) args s 0 0 A) (F0 m 36 ls []) := by
  obtain ⟨⟨hx, hb, hml, hown, hts⟩, hr, hlocks⟩ := id X
  obtain ⟨hC, hAB, hA, hB, hD⟩ := id hw
  have hiX0 : ∀ w ∈ u_ws RX0 TX0 4, w ∈ wsX0_add := by decide +kernel
  have hK := hC.1
  unfold f_X0_add_36 at h
  refine lv_aload_n hx hb dX0_add_36 rfl (lv_at hl 0 rfl) ?_
  refine va_get (D := E.1) (ci := 0) (v := .ref a_t_doings) (C := RX0) (T := TX0) (N := 4) hx hb hts hiX0 hown hK hP 0 rfl rfl 1 (by decide) (hts (.fieldLink RX0 9 "CasketLines$ActRow" "doings" "[I") (by decide +kernel)) (fun _ h9 => h9) rfl dX0_add_37 ?_
  refine lv_aload_n hx hb dX0_add_40 rfl (lv_at hl 0 rfl) ?_
  refine va_get (D := E.1) (ci := 0) (v := .int x_t_size) (C := RX0) (T := TX0) (N := 4) hx hb hts hiX0 hown hK hP 0 rfl rfl 0 (by decide) (hts (.fieldLink RX0 21 "CasketLines$ActRow" "size" "I") (by decide +kernel)) (fun _ h9 => h9) rfl dX0_add_41 ?_
  refine lv_iload_n hx hb dX0_add_44 rfl (lv_at hl 1 rfl) ?_
  obtain ⟨u3, g2, h⟩ := bnd h
  refine wcSN (A := A) (As := [.ref a_t_doings, .int x_t_size, .int v1]) (rest := []) (ws' := [(a_t, .inr (0, [.int x_t_size, .ref a_t_doings, .ref a_t_caskets, .ref a_t_before])), (a_t_doings, .inl (E.2.1, 14, .inl u3)), (a_t_caskets, .inl (E.2.1, 14, .inl r_t_caskets)), (a_t_before, .inl (E.2.1, 14, .inl r_t_before))]) ⟨hx, hb, hml, hown, hts⟩ (k_X5_put (l := l) (E := E) a_t_doings 14 r_t_doings x_t_size v1 H.size u3 g2) ⟨va_cnB 3 hts gX0_add_X5_put_n29 rfl rfl rfl (hC.2.1 (RX0, 29, yX5_put, "CasketLines") (List.mem_of_getElem? (i := 5) rfl)) (hts (.initialized RX5) (by decide +kernel)) (by decide +kernel) ⟨Nat.le_of_ble_eq_true rfl, Nat.le_of_ble_eq_true rfl⟩, hts (.static yX5_put) (by decide +kernel), trivial⟩ (hC.here hS hAB) hP (hD.adr rfl) hS hA hAB hB [1] rfl rfl [none, some 0, none, none] rfl rfl rfl hl.1 rfl (Nat.le_of_ble_eq_true rfl) dX0_add_45 ⟨Nat.zero_le _, Nat.zero_le _⟩ (fun H locs hP hS => ?_)
  refine lv_aload_n hx hb dX0_add_48 rfl (lv_at hl 0 rfl) ?_
  refine va_get (D := E.1) (ci := 0) (v := .ref a_t_caskets) (C := RX0) (T := TX0) (N := 4) hx hb hts hiX0 hown hK hP 0 rfl rfl 2 (by decide) (hts (.fieldLink RX0 15 "CasketLines$ActRow" "caskets" "[I") (by decide +kernel)) (fun _ h9 => h9) rfl dX0_add_49 ?_
  refine lv_aload_n hx hb dX0_add_52 rfl (lv_at hl 0 rfl) ?_
  refine va_get (D := E.1) (ci := 0) (v := .int x_t_size) (C := RX0) (T := TX0) (N := 4) hx hb hts hiX0 hown hK hP 0 rfl rfl 0 (by decide) (hts (.fieldLink RX0 21 "CasketLines$ActRow" "size" "I") (by decide +kernel)) (fun _ h9 => h9) rfl dX0_add_53 ?_
  refine lv_iload_n hx hb dX0_add_56 rfl (lv_at hl 2 rfl) ?_
  obtain ⟨u7, g6, h⟩ := bnd h
  refine wcSN (A := A) (As := [.ref a_t_caskets, .int x_t_size, .int v2]) (rest := []) (ws' := [(a_t, .inr (0, [.int x_t_size, .ref a_t_doings, .ref a_t_caskets, .ref a_t_before])), (a_t_doings, .inl (E.2.1, 14, .inl u3)), (a_t_caskets, .inl (E.2.1, 14, .inl u7)), (a_t_before, .inl (E.2.1, 14, .inl r_t_before))]) ⟨hx, hb, hml, hown, hts⟩ (k_X5_put (l := l) (E := E) a_t_caskets 14 r_t_caskets x_t_size v2 H.size u7 g6) ⟨va_cnB 3 hts gX0_add_X5_put_n29 rfl rfl rfl (hC.2.1 (RX0, 29, yX5_put, "CasketLines") (List.mem_of_getElem? (i := 5) rfl)) (hts (.initialized RX5) (by decide +kernel)) (by decide +kernel) ⟨Nat.le_of_ble_eq_true rfl, Nat.le_of_ble_eq_true rfl⟩, hts (.static yX5_put) (by decide +kernel), trivial⟩ (hC.here hS hAB) hP (hD.adr rfl) hS hA hAB hB [2] rfl rfl [none, none, some 0, none] rfl rfl rfl hl.1 rfl (Nat.le_of_ble_eq_true rfl) dX0_add_57 ⟨Nat.zero_le _, Nat.zero_le _⟩ (fun H locs hP hS => ?_)
  refine lv_aload_n hx hb dX0_add_60 rfl (lv_at hl 0 rfl) ?_
  refine va_get (D := E.1) (ci := 0) (v := .ref a_t_before) (C := RX0) (T := TX0) (N := 4) hx hb hts hiX0 hown hK hP 0 rfl rfl 3 (by decide) (hts (.fieldLink RX0 18 "CasketLines$ActRow" "before" "[I") (by decide +kernel)) (fun _ h9 => h9) rfl dX0_add_61 ?_
  refine lv_aload_n hx hb dX0_add_64 rfl (lv_at hl 0 rfl) ?_
  refine va_get (D := E.1) (ci := 0) (v := .int x_t_size) (C := RX0) (T := TX0) (N := 4) hx hb hts hiX0 hown hK hP 0 rfl rfl 0 (by decide) (hts (.fieldLink RX0 21 "CasketLines$ActRow" "size" "I") (by decide +kernel)) (fun _ h9 => h9) rfl dX0_add_65 ?_
  refine lv_iload_n hx hb dX0_add_68 rfl (lv_at hl 3 rfl) ?_
  obtain ⟨u11, g10, h⟩ := bnd h
  refine wcSN (A := A) (As := [.ref a_t_before, .int x_t_size, .int v3]) (rest := []) (ws' := [(a_t, .inr (0, [.int x_t_size, .ref a_t_doings, .ref a_t_caskets, .ref a_t_before])), (a_t_doings, .inl (E.2.1, 14, .inl u3)), (a_t_caskets, .inl (E.2.1, 14, .inl u7)), (a_t_before, .inl (E.2.1, 14, .inl u11))]) ⟨hx, hb, hml, hown, hts⟩ (k_X5_put (l := l) (E := E) a_t_before 14 r_t_before x_t_size v3 H.size u11 g10) ⟨va_cnB 3 hts gX0_add_X5_put_n29 rfl rfl rfl (hC.2.1 (RX0, 29, yX5_put, "CasketLines") (List.mem_of_getElem? (i := 5) rfl)) (hts (.initialized RX5) (by decide +kernel)) (by decide +kernel) ⟨Nat.le_of_ble_eq_true rfl, Nat.le_of_ble_eq_true rfl⟩, hts (.static yX5_put) (by decide +kernel), trivial⟩ (hC.here hS hAB) hP (hD.adr rfl) hS hA hAB hB [3] rfl rfl [none, none, none, some 0] rfl rfl rfl hl.1 rfl (Nat.le_of_ble_eq_true rfl) dX0_add_69 ⟨Nat.zero_le _, Nat.zero_le _⟩ (fun H locs hP hS => ?_)
  refine lv_aload_n hx hb dX0_add_72 rfl (lv_at hl 0 rfl) ?_
  refine lv_dup hx hb dX0_add_73 rfl ?_
  refine va_get (D := E.1) (ci := 0) (v := .int x_t_size) (C := RX0) (T := TX0) (N := 4) hx hb hts hiX0 hown hK hP 0 rfl rfl 0 (by decide) (hts (.fieldLink RX0 21 "CasketLines$ActRow" "size" "I") (by decide +kernel)) (fun _ h9 => h9) rfl dX0_add_74 ?_
  refine lv_iconst (v := 1) hx hb dX0_add_77 (by decide) ?_
  refine lv_iadd hx hb dX0_add_78 ?_
  refine va_put (D := E.1) (ci := 0) (v := .int (x_t_size + 1)) (ty := .int) (C := RX0) (T := TX0) (N := 4) hx hb hts hiX0 tyX0 tyX0_ok nmX0 hown hK hP (hD.adr rfl) hS 0 rfl rfl 0 (by decide) (hts (.fieldLink RX0 21 "CasketLines$ActRow" "size" "I") (by decide +kernel)) (fun _ h9 => h9) rfl (by decide +kernel) rfl rfl (Nat.le_of_ble_eq_true rfl) dX0_add_79 (fun H locs hP _ hS => ?_)
  have hP : va_P E.1 vwCl [(a_t, .inr (0, [.int (x_t_size + 1), .ref a_t_doings, .ref a_t_caskets, .ref a_t_before])), (a_t_doings, .inl (E.2.1, 14, .inl u3)), (a_t_caskets, .inl (E.2.1, 14, .inl u7)), (a_t_before, .inl (E.2.1, 14, .inl u11))] H := hP
  exact W.vret hx hb hr (fun t ht _ => ⟨by cases h; rfl, by rw [ht]; cases h; exact hP, hS.F ht⟩) hS.2.2 dX0_add_82
set_option maxHeartbeats 4000000 in
set_option maxRecDepth 100000 in
theorem w_X0_add {p : Program} {l : Launch} {e : Env} {s : State} {m : MethodId} {args : Array Value} {below : List Frame} {meth : Method} {c : Code} {E : Ev} {A : Nat → Prop} (a_t a_t_doings a_t_caskets a_t_before : Nat) (x_t_size : Int32) (r_t_doings : Nat → Int32) (r_t_caskets : Nat → Int32) (r_t_before : Nat → Int32) (p1 : Int32) (p2 : Int32) (p3 : Int32) (o_x_t_size : Int32) (o_r_t_doings : Nat → Int32) (o_r_t_caskets : Nat → Int32) (o_r_t_before : Nat → Int32) (X : Cxt p s m args meth c cX0_add 4 wsX0_add RX0 none) (hw : Cw E A s [(a_t, .inr (0, [.int x_t_size, .ref a_t_doings, .ref a_t_caskets, .ref a_t_before])), (a_t_doings, .inl (E.2.1, 14, .inl r_t_doings)), (a_t_caskets, .inl (E.2.1, 14, .inl r_t_caskets)), (a_t_before, .inl (E.2.1, 14, .inl r_t_before))]) (h : f_X0_add x_t_size r_t_doings r_t_caskets r_t_before p1 p2 p3 = some (o_x_t_size, o_r_t_doings, o_r_t_caskets, o_r_t_before)) {H : Heap} {locs : List Loc} (hP : va_P E.1 vwCl [(a_t, .inr (0, [.int x_t_size, .ref a_t_doings, .ref a_t_caskets, .ref a_t_before])), (a_t_doings, .inl (E.2.1, 14, .inl r_t_doings)), (a_t_caskets, .inl (E.2.1, 14, .inl r_t_caskets)), (a_t_before, .inl (E.2.1, 14, .inl r_t_before))] H) (hS : va_S A s.heap H locs) {ls : Array Slot} (hl : lv_has ls 4 [(0, .ref a_t), (1, .int p1), (2, .int p2), (3, .int p3)]) : W p l e { frames := 1, cells := 0, slots := 0, locals := 22 } s m args below meth c H locs 0 0 (MQ below (Qw E none [(a_t, .inr (0, [.int o_x_t_size, .ref a_t_doings, .ref a_t_caskets, .ref a_t_before])), (a_t_doings, .inl (E.2.1, 14, .inl o_r_t_doings)), (a_t_caskets, .inl (E.2.1, 14, .inl o_r_t_caskets)), (a_t_before, .inl (E.2.1, 14, .inl o_r_t_before))] A) args s 0 0 A) (F0 m 0 ls []) := by
  obtain ⟨⟨hx, hb, hml, hown, hts⟩, hr, hlocks⟩ := id X
  obtain ⟨hC, hAB, hA, hB, hD⟩ := id hw
  have hiX0 : ∀ w ∈ u_ws RX0 TX0 4, w ∈ wsX0_add := by decide +kernel
  have hK := hC.1
  unfold f_X0_add at h
  refine lv_aload_n hx hb dX0_add_0 rfl (lv_at hl 0 rfl) ?_
  refine va_get (D := E.1) (ci := 0) (v := .int x_t_size) (C := RX0) (T := TX0) (N := 4) hx hb hts hiX0 hown hK hP 0 rfl rfl 0 (by decide) (hts (.fieldLink RX0 21 "CasketLines$ActRow" "size" "I") (by decide +kernel)) (fun _ h9 => h9) rfl dX0_add_1 ?_
  refine lv_bipush (v := 14) hx hb dX0_add_4 (by decide) ?_
  refine lv_icmp_lt (tgt := 36) hx hb dX0_add_6 (by decide) (fun c13 => ?_) (fun c13 => ?_)
  · have h := ifp c13 h
    exact w_X0_add_36 a_t a_t_doings a_t_caskets a_t_before x_t_size r_t_doings r_t_caskets r_t_before p1 p2 p3  o_x_t_size o_r_t_doings o_r_t_caskets o_r_t_before X (hw.adr rfl)  h H locs hP hS ls (lv_sub hl [0, 1, 2, 3] rfl)
  · have h := ifn c13 h
    refine lv_aload_n hx hb dX0_add_9 rfl (lv_at hl 0 rfl) ?_
    refine va_get (D := E.1) (ci := 0) (v := .ref a_t_doings) (C := RX0) (T := TX0) (N := 4) hx hb hts hiX0 hown hK hP 0 rfl rfl 1 (by decide) (hts (.fieldLink RX0 9 "CasketLines$ActRow" "doings" "[I") (by decide +kernel)) (fun _ h9 => h9) rfl dX0_add_10 ?_
    obtain ⟨u16, g15, h⟩ := bnd h
    refine wcS (A := A) (As := [.ref a_t_doings]) (rest := []) (ws' := [(a_t, .inr (0, [.int x_t_size, .ref a_t_doings, .ref a_t_caskets, .ref a_t_before])), (a_t_doings, .inl (E.2.1, 14, .inl u16)), (a_t_caskets, .inl (E.2.1, 14, .inl r_t_caskets)), (a_t_before, .inl (E.2.1, 14, .inl r_t_before))]) ⟨hx, hb, hml, hown, hts⟩ (k_X0_forgetFirst (l := l) (E := E) a_t_doings 14 r_t_doings H.size u16 g15) (va_cwS 1 hts gX0_add_X0_forgetFirst rfl rfl rfl (by decide +kernel) ⟨Nat.le_of_ble_eq_true rfl, Nat.le_of_ble_eq_true rfl⟩) (hC.here hS hAB) hP (hD.adr rfl) hS hA hAB hB [1] rfl rfl [none, some 0, none, none] rfl rfl rfl hl.1 rfl (Nat.le_of_ble_eq_true rfl) dX0_add_13 ⟨Nat.zero_le _, Nat.zero_le _⟩ (fun H locs hP hS => ?_)
    refine lv_aload_n hx hb dX0_add_16 rfl (lv_at hl 0 rfl) ?_
    refine va_get (D := E.1) (ci := 0) (v := .ref a_t_caskets) (C := RX0) (T := TX0) (N := 4) hx hb hts hiX0 hown hK hP 0 rfl rfl 2 (by decide) (hts (.fieldLink RX0 15 "CasketLines$ActRow" "caskets" "[I") (by decide +kernel)) (fun _ h9 => h9) rfl dX0_add_17 ?_
    obtain ⟨u20, g19, h⟩ := bnd h
    refine wcS (A := A) (As := [.ref a_t_caskets]) (rest := []) (ws' := [(a_t, .inr (0, [.int x_t_size, .ref a_t_doings, .ref a_t_caskets, .ref a_t_before])), (a_t_doings, .inl (E.2.1, 14, .inl u16)), (a_t_caskets, .inl (E.2.1, 14, .inl u20)), (a_t_before, .inl (E.2.1, 14, .inl r_t_before))]) ⟨hx, hb, hml, hown, hts⟩ (k_X0_forgetFirst (l := l) (E := E) a_t_caskets 14 r_t_caskets H.size u20 g19) (va_cwS 1 hts gX0_add_X0_forgetFirst rfl rfl rfl (by decide +kernel) ⟨Nat.le_of_ble_eq_true rfl, Nat.le_of_ble_eq_true rfl⟩) (hC.here hS hAB) hP (hD.adr rfl) hS hA hAB hB [2] rfl rfl [none, none, some 0, none] rfl rfl rfl hl.1 rfl (Nat.le_of_ble_eq_true rfl) dX0_add_20 ⟨Nat.zero_le _, Nat.zero_le _⟩ (fun H locs hP hS => ?_)
    refine lv_aload_n hx hb dX0_add_23 rfl (lv_at hl 0 rfl) ?_
    refine va_get (D := E.1) (ci := 0) (v := .ref a_t_before) (C := RX0) (T := TX0) (N := 4) hx hb hts hiX0 hown hK hP 0 rfl rfl 3 (by decide) (hts (.fieldLink RX0 18 "CasketLines$ActRow" "before" "[I") (by decide +kernel)) (fun _ h9 => h9) rfl dX0_add_24 ?_
    obtain ⟨u24, g23, h⟩ := bnd h
    refine wcS (A := A) (As := [.ref a_t_before]) (rest := []) (ws' := [(a_t, .inr (0, [.int x_t_size, .ref a_t_doings, .ref a_t_caskets, .ref a_t_before])), (a_t_doings, .inl (E.2.1, 14, .inl u16)), (a_t_caskets, .inl (E.2.1, 14, .inl u20)), (a_t_before, .inl (E.2.1, 14, .inl u24))]) ⟨hx, hb, hml, hown, hts⟩ (k_X0_forgetFirst (l := l) (E := E) a_t_before 14 r_t_before H.size u24 g23) (va_cwS 1 hts gX0_add_X0_forgetFirst rfl rfl rfl (by decide +kernel) ⟨Nat.le_of_ble_eq_true rfl, Nat.le_of_ble_eq_true rfl⟩) (hC.here hS hAB) hP (hD.adr rfl) hS hA hAB hB [3] rfl rfl [none, none, none, some 0] rfl rfl rfl hl.1 rfl (Nat.le_of_ble_eq_true rfl) dX0_add_27 ⟨Nat.zero_le _, Nat.zero_le _⟩ (fun H locs hP hS => ?_)
    refine lv_aload_n hx hb dX0_add_30 rfl (lv_at hl 0 rfl) ?_
    refine lv_bipush (v := 13) hx hb dX0_add_31 (by decide) ?_
    refine va_put (D := E.1) (ci := 0) (v := .int 13) (ty := .int) (C := RX0) (T := TX0) (N := 4) hx hb hts hiX0 tyX0 tyX0_ok nmX0 hown hK hP (hD.adr rfl) hS 0 rfl rfl 0 (by decide) (hts (.fieldLink RX0 21 "CasketLines$ActRow" "size" "I") (by decide +kernel)) (fun _ h9 => h9) rfl (by decide +kernel) rfl rfl (Nat.le_of_ble_eq_true rfl) dX0_add_33 (fun H locs hP _ hS => ?_)
    have hP : va_P E.1 vwCl [(a_t, .inr (0, [.int 13, .ref a_t_doings, .ref a_t_caskets, .ref a_t_before])), (a_t_doings, .inl (E.2.1, 14, .inl u16)), (a_t_caskets, .inl (E.2.1, 14, .inl u20)), (a_t_before, .inl (E.2.1, 14, .inl u24))] H := hP
    exact w_X0_add_36 a_t a_t_doings a_t_caskets a_t_before 13 u16 u20 u24 p1 p2 p3  o_x_t_size o_r_t_doings o_r_t_caskets o_r_t_before X (hw.adr rfl)  h H locs hP hS ls (lv_sub hl [0, 1, 2, 3] rfl)
set_option maxHeartbeats 4000000 in
set_option maxRecDepth 100000 in
theorem k_X0_add {l : Launch} {E : Ev} (a_t a_t_doings a_t_caskets a_t_before : Nat) (x_t_size : Int32) (r_t_doings : Nat → Int32) (r_t_caskets : Nat → Int32) (r_t_before : Nat → Int32) (p1 : Int32) (p2 : Int32) (p3 : Int32) (sz : Nat) (o_x_t_size : Int32) (o_r_t_doings : Nat → Int32) (o_r_t_caskets : Nat → Int32) (o_r_t_before : Nat → Int32) (hf : f_X0_add x_t_size r_t_doings r_t_caskets r_t_before p1 p2 p3 = some (o_x_t_size, o_r_t_doings, o_r_t_caskets, o_r_t_before)) : Met l yX0_add wsX0_add ({ frames := 1, cells := 0, slots := 0, locals := 22 }) (Pw E [.ref a_t, .int p1, .int p2, .int p3] [(a_t, .inr (0, [.int x_t_size, .ref a_t_doings, .ref a_t_caskets, .ref a_t_before])), (a_t_doings, .inl (E.2.1, 14, .inl r_t_doings)), (a_t_caskets, .inl (E.2.1, 14, .inl r_t_caskets)), (a_t_before, .inl (E.2.1, 14, .inl r_t_before))] sz) (Qw E none [(a_t, .inr (0, [.int o_x_t_size, .ref a_t_doings, .ref a_t_caskets, .ref a_t_before])), (a_t_doings, .inl (E.2.1, 14, .inl o_r_t_doings)), (a_t_caskets, .inl (E.2.1, 14, .inl o_r_t_caskets)), (a_t_before, .inl (E.2.1, 14, .inl o_r_t_before))] (va_A [(a_t, .inr (0, [.int x_t_size, .ref a_t_doings, .ref a_t_caskets, .ref a_t_before])), (a_t_doings, .inl (E.2.1, 14, .inl r_t_doings)), (a_t_caskets, .inl (E.2.1, 14, .inl r_t_caskets)), (a_t_before, .inl (E.2.1, 14, .inl r_t_before))] sz)) 0 0 (va_A [(a_t, .inr (0, [.int x_t_size, .ref a_t_doings, .ref a_t_caskets, .ref a_t_before])), (a_t_doings, .inl (E.2.1, 14, .inl r_t_doings)), (a_t_caskets, .inl (E.2.1, 14, .inl r_t_caskets)), (a_t_before, .inl (E.2.1, 14, .inl r_t_before))] sz) := by
  refine Met.ofW (cc := cX0_add) (maxL := 4) (ret := none) (by decide) rfl ?_
  intro p e s m args below meth c s₁ B hml hv
  obtain ⟨rfl, rfl, hw, hP⟩ := Pw.start hv
  have X := Cxt.of B hml
  have hl := lv_entry ([.ref a_t, .int p1, .int p2, .int p3]) (n := 4) (Nat.le_of_ble_eq_true rfl)
  rw [lg_entry_eq]
  exact w_X0_add a_t a_t_doings a_t_caskets a_t_before x_t_size r_t_doings r_t_caskets r_t_before p1 p2 p3 o_x_t_size o_r_t_doings o_r_t_caskets o_r_t_before X hw hf hP va_S.rf hl
set_option maxHeartbeats 4000000 in
set_option maxRecDepth 100000 in
theorem w_X5_partOf {p : Program} {l : Launch} {e : Env} {s : State} {m : MethodId} {args : Array Value} {below : List Frame} {meth : Method} {c : Code} {E : Ev} (p1 : Int32) (p2 : Int32) (p3 : Int32) (o_r : Int32) (X : Cxt p s m args meth c cX5_partOf 4 wsX5_partOf RX5 (some .int)) (hw : wd E [] s s.heap) (h : f_X5_partOf p1 p2 p3 = some o_r) {ls : Array Slot} (hl : lv_has ls 4 [(0, .int p1), (1, .int p2), (2, .int p3)]) : W p l e { frames := 1, cells := 0, slots := 0, locals := 25 } s m args below meth c s.heap [] 0 0 (MQ below (Qr (some (.int o_r))) args s 0 0 (fun _ => False)) (F0 m 0 ls []) := by
  obtain ⟨⟨hx, hb, hml, hown, hts⟩, hr, hlocks⟩ := id X
  obtain ⟨hC, hP⟩ := id hw
  unfold f_X5_partOf at h
  refine lv_iload_n hx hb dX5_partOf_0 rfl (lv_at hl 0 rfl) ?_
  refine lv_if_eq (tgt := 8) hx hb dX5_partOf_1 (by decide) (fun c1 => ?_) (fun c1 => ?_)
  · have h := ifp c1 h
    refine lv_iload_n hx hb dX5_partOf_8 rfl (lv_at hl 2 rfl) ?_
    refine lv_if_eq (tgt := 16) hx hb dX5_partOf_9 (by decide) (fun c2 => ?_) (fun c2 => ?_)
    · have h := ifp c2 h
      refine lv_iconst (v := 1) hx hb dX5_partOf_16 (by decide) ?_
      exact W.iret hx hb hr (fun t ht _ => ⟨by cases h; rfl, ht⟩) (fun _ hq => absurd hq List.not_mem_nil) dX5_partOf_17
    · have h := ifn c2 h
      refine lv_iconst (v := 0) hx hb dX5_partOf_12 (by decide) ?_
      refine lv_goto (tgt := 17) hx hb dX5_partOf_13 (by decide) ?_
      exact W.iret hx hb hr (fun t ht _ => ⟨by cases h; rfl, ht⟩) (fun _ hq => absurd hq List.not_mem_nil) dX5_partOf_17
  · have h := ifn c1 h
    refine lv_iload_n hx hb dX5_partOf_4 rfl (lv_at hl 1 rfl) ?_
    refine lv_if_gt (tgt := 18) hx hb dX5_partOf_5 (by decide) (fun c3 => ?_) (fun c3 => ?_)
    · have h := ifp c3 h
      refine lv_iconst (v := 1) hx hb dX5_partOf_18 (by decide) ?_
      refine lv_iload_n hx hb dX5_partOf_19 rfl (lv_at hl 0 rfl) ?_
      refine va_mabs hx hb (hml.trans hl.1.symm) hown (hts (.methodLink RX5 271 Lib.Math.abs.name) (by decide +kernel)) (hts (.static Lib.Math.abs.name) (by decide +kernel)) (hts (.initialized "java/lang/Math") (by decide +kernel)) (hts (.code Lib.Math.abs.name Lib.Math.abs.code 1 (some .int)) (by decide +kernel)) (Nat.le_of_ble_eq_true rfl) (Nat.le_of_ble_eq_true rfl) (Nat.zero_le _) (Nat.zero_le _) dX5_partOf_20 ?_
      refine lv_iload_n hx hb dX5_partOf_23 rfl (lv_at hl 1 rfl) ?_
      obtain ⟨r4, g5, h⟩ := bnd h
      refine rcS (As := [.int (if 0 ≤ p1 then p1 else 0 - p1), .int p2]) (rest := [.int 1]) ⟨hx, hb, hml, hown, hts⟩ (k_X5_commonDivisor (l := l) (E := E) (if 0 ≤ p1 then p1 else 0 - p1) p2 r4 g5) (va_cwS 2 hts gX5_partOf_X5_commonDivisor rfl rfl rfl (by decide +kernel) ⟨Nat.le_of_ble_eq_true rfl, Nat.le_of_ble_eq_true rfl⟩) hC hP [] rfl rfl hl.1 rfl (Nat.le_of_ble_eq_true rfl) dX5_partOf_24 ⟨Nat.zero_le _, Nat.zero_le _⟩ ?_
      refine va_mmax hx hb (hml.trans hl.1.symm) hown (hts (.methodLink RX5 219 Lib.Math.max.name) (by decide +kernel)) (hts (.static Lib.Math.max.name) (by decide +kernel)) (hts (.initialized "java/lang/Math") (by decide +kernel)) (hts (.code Lib.Math.max.name Lib.Math.max.code 2 (some .int)) (by decide +kernel)) (Nat.le_of_ble_eq_true rfl) (Nat.le_of_ble_eq_true rfl) (Nat.zero_le _) (Nat.zero_le _) dX5_partOf_27 ?_
      refine lv_istore_n (lv' := [(3, .int (if 1 < r4 then r4 else 1)), (0, .int p1), (1, .int p2), (2, .int p3)]) hx hb dX5_partOf_30 rfl hl (by decide) rfl (fun ls hl => ?_)
      refine lv_iload_n hx hb dX5_partOf_31 rfl (lv_at hl 3 rfl) ?_
      refine lv_if_eq (tgt := 39) hx hb dX5_partOf_32 (by decide) (fun c6 => ?_) (fun c6 => ?_)
      · have h := ifp c6 h
        refine lv_iload_n hx hb dX5_partOf_39 rfl (lv_at hl 2 rfl) ?_
        refine lv_iload_n hx hb dX5_partOf_40 rfl (lv_at hl 0 rfl) ?_
        obtain ⟨b7, h⟩ := gdn h
        refine lv_idiv hx hb dX5_partOf_41 b7 ?_
        exact W.iret hx hb hr (fun t ht _ => ⟨by cases h; rfl, ht⟩) (fun _ hq => absurd hq List.not_mem_nil) dX5_partOf_42
      · have h := ifn c6 h
        refine lv_iload_n hx hb dX5_partOf_35 rfl (lv_at hl 1 rfl) ?_
        refine lv_goto (tgt := 40) hx hb dX5_partOf_36 (by decide) ?_
        refine lv_iload_n hx hb dX5_partOf_40 rfl (lv_at hl 0 rfl) ?_
        obtain ⟨b8, h⟩ := gdn h
        refine lv_idiv hx hb dX5_partOf_41 b8 ?_
        exact W.iret hx hb hr (fun t ht _ => ⟨by cases h; rfl, ht⟩) (fun _ hq => absurd hq List.not_mem_nil) dX5_partOf_42
    · have h := ifn c3 h
      refine lv_iload_n hx hb dX5_partOf_8 rfl (lv_at hl 2 rfl) ?_
      refine lv_if_eq (tgt := 16) hx hb dX5_partOf_9 (by decide) (fun c9 => ?_) (fun c9 => ?_)
      · have h := ifp c9 h
        refine lv_iconst (v := 1) hx hb dX5_partOf_16 (by decide) ?_
        exact W.iret hx hb hr (fun t ht _ => ⟨by cases h; rfl, ht⟩) (fun _ hq => absurd hq List.not_mem_nil) dX5_partOf_17
      · have h := ifn c9 h
        refine lv_iconst (v := 0) hx hb dX5_partOf_12 (by decide) ?_
        refine lv_goto (tgt := 17) hx hb dX5_partOf_13 (by decide) ?_
        exact W.iret hx hb hr (fun t ht _ => ⟨by cases h; rfl, ht⟩) (fun _ hq => absurd hq List.not_mem_nil) dX5_partOf_17
set_option maxHeartbeats 4000000 in
set_option maxRecDepth 100000 in
theorem k_X5_partOf {l : Launch} {E : Ev} (p1 : Int32) (p2 : Int32) (p3 : Int32) (o_r : Int32) (hf : f_X5_partOf p1 p2 p3 = some o_r) : Met l yX5_partOf wsX5_partOf ({ frames := 1, cells := 0, slots := 0, locals := 25 }) (Pr E [.int p1, .int p2, .int p3] []) (Qr (some (.int o_r))) 0 0 (fun _ => False) := by
  refine Met.ofW (cc := cX5_partOf) (maxL := 4) (ret := (some .int)) (by decide) rfl ?_
  intro p e s m args below meth c s₁ B hml hv
  obtain ⟨rfl, hw⟩ := hv
  have X := Cxt.of B hml
  have hl := lv_entry ([.int p1, .int p2, .int p3]) (n := 4) (Nat.le_of_ble_eq_true rfl)
  rw [lg_entry_eq]
  exact w_X5_partOf   p1 p2 p3 o_r X hw hf hl
