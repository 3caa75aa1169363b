set_option maxHeartbeats 4000000 in
set_option maxRecDepth 100000 in
theorem w_X5_solvingFits_64 {p : Program} {l : Launch} {e : Env} {s : State} {m : MethodId} {args : Array Value} {below : List Frame} {meth : Method} {c : Code} {E : Ev} (a_t a_t_letters a_t_parser a_t_house a_t_now a_t_spare a_t_acts a_t_slotZero a_t_slotOne a_t_house_metals a_t_house_kinds a_t_now_lines a_t_now_picked : Nat) (x_t_length : Int32) (x_t_seedNow : Int64) (x_t_house_truth : Int32) (x_t_house_caskets : Int32) (x_t_house_wooers : Int32) (r_t_house_metals : Nat → Int32) (x_t_now_picture : Int32) (x_t_now_sung : Int32) (x_t_now_tried : Int32) (x_t_now_wed : Int32) (v1 : Int32) (v2 : Int32) (v3 : Int32) (v4 : Int32) (k4 : Int32 × Int32 → Option (Int32)) (o_r : Int32) (X : Cxt p s m args meth c cX5_solvingFits 6 wsX5_solvingFits RX5 (some .int)) (hw : wd E [(a_t, .inr (5, [.ref a_t_letters, .int x_t_length, .ref a_t_parser, .ref a_t_house, .ref a_t_now, .ref a_t_spare, .ref a_t_acts, .ref a_t_slotZero, .ref a_t_slotOne, .long x_t_seedNow])), (a_t_house, .inr (1, [.int x_t_house_truth, .int x_t_house_caskets, .int x_t_house_wooers, .ref a_t_house_metals, .ref a_t_house_kinds])), (a_t_house_metals, .inl (E.2.1, 4, .inl r_t_house_metals)), (a_t_now, .inr (4, [.ref a_t_now_lines, .int x_t_now_picture, .int x_t_now_sung, .int x_t_now_tried, .int x_t_now_wed, .ref a_t_now_picked]))] s s.heap) (hk4 : ∀ (v2 : Int32) (v3 : Int32), k4 (v2, v3) = some o_r → ∀ (ls : Array Slot), lv_has ls 6 [(0, .ref a_t), (1, .int v1), (2, .int v2), (3, .int v3)] → W p l e { frames := 2, cells := 0, slots := 0, locals := 49 } s m args below meth c s.heap [] 0 0 (MQ below (Qr (some (.int o_r))) args s 0 0 (fun _ => False)) (F0 m 4 ls [])) (h : f_X5_solvingFits_64 x_t_house_caskets r_t_house_metals x_t_now_picture x_t_now_sung v1 v2 v3 v4 k4 = some o_r) (ls : Array Slot) (hl : lv_has ls 6 [(0, .ref a_t), (1, .int v1), (2, .int v2), (3, .int v3), (4, .int v4)]) : W p l e { frames := 2, cells := 0, slots := 0, locals := 49 } s m args below meth c s.heap [] 0 0 (MQ below (Qr (some (.int o_r))) args s 0 0 (fun _ => False)) (F0 m 64 ls []) := by
  obtain ⟨⟨hx, hb, hml, hown, hts⟩, hr, hlocks⟩ := id X
  obtain ⟨hC, hP⟩ := id hw
  have hiX1 : ∀ w ∈ u_ws RX1 TX1 5, w ∈ wsX5_solvingFits := by decide +kernel
  have hiX4 : ∀ w ∈ u_ws RX4 TX4 6, w ∈ wsX5_solvingFits := by decide +kernel
  have hiX5 : ∀ w ∈ u_ws RX5 TX5 10, w ∈ wsX5_solvingFits := by decide +kernel
  have hK := hC.1
  unfold f_X5_solvingFits_64 at h
  refine lv_iload hx hb dX5_solvingFits_64 (lv_at hl 4 rfl) ?_
  refine lv_iload_n hx hb dX5_solvingFits_66 rfl (lv_at hl 1 rfl) ?_
  refine lv_icmp_ne (tgt := 76) hx hb dX5_solvingFits_67 (by decide) (fun c6 => ?_) (fun c6 => ?_)
  · have h := ifn c6 h
    refine lv_iinc (v := (v3 + 1)) (lv' := [(3, .int (v3 + 1)), (0, .ref a_t), (1, .int v1), (2, .int v2), (4, .int v4)]) hx hb dX5_solvingFits_76 hl (k := 3) rfl rfl (by decide) rfl (fun ls hl => ?_)
    refine lv_goto (tgt := 4) hx hb dX5_solvingFits_79 (by decide) ?_
    exact hk4 v2 (v3 + 1) h ls (lv_sub hl [1, 2, 3, 0] rfl)
  · have h := ifp c6 h
    refine lv_iload_n hx hb dX5_solvingFits_70 rfl (lv_at hl 2 rfl) ?_
    refine lv_iconst (v := 1) hx hb dX5_solvingFits_71 (by decide) ?_
    refine lv_iload_n hx hb dX5_solvingFits_72 rfl (lv_at hl 3 rfl) ?_
    refine lv_ishl hx hb dX5_solvingFits_73 ?_
    refine lv_ior hx hb dX5_solvingFits_74 ?_
    refine lv_istore_n (lv' := [(2, .int (v2 ||| ((1 : Int32) <<< (v3 &&& 31)))), (0, .ref a_t), (1, .int v1), (3, .int v3), (4, .int v4)]) hx hb dX5_solvingFits_75 rfl hl (by decide) rfl (fun ls hl => ?_)
    refine lv_iinc (v := (v3 + 1)) (lv' := [(3, .int (v3 + 1)), (2, .int (v2 ||| ((1 : Int32) <<< (v3 &&& 31)))), (0, .ref a_t), (1, .int v1), (4, .int v4)]) hx hb dX5_solvingFits_76 hl (k := 3) rfl rfl (by decide) rfl (fun ls hl => ?_)
    refine lv_goto (tgt := 4) hx hb dX5_solvingFits_79 (by decide) ?_
    exact hk4 (v2 ||| ((1 : Int32) <<< (v3 &&& 31))) (v3 + 1) h ls (lv_sub hl [2, 3, 1, 0] rfl)
set_option maxHeartbeats 4000000 in
set_option maxRecDepth 100000 in
theorem w_X5_solvingFits_16_b {p : Program} {l : Launch} {e : Env} {s : State} {m : MethodId} {args : Array Value} {below : List Frame} {meth : Method} {c : Code} {E : Ev} (a_t a_t_letters a_t_parser a_t_house a_t_now a_t_spare a_t_acts a_t_slotZero a_t_slotOne a_t_house_metals a_t_house_kinds a_t_now_lines a_t_now_picked : Nat) (x_t_length : Int32) (x_t_seedNow : Int64) (x_t_house_truth : Int32) (x_t_house_caskets : Int32) (x_t_house_wooers : Int32) (r_t_house_metals : Nat → Int32) (x_t_now_picture : Int32) (x_t_now_sung : Int32) (x_t_now_tried : Int32) (x_t_now_wed : Int32) (v1 : Int32) (v2 : Int32) (v3 : Int32) (k4 : Int32 × Int32 → Option (Int32)) (o_r : Int32) (X : Cxt p s m args meth c cX5_solvingFits 6 wsX5_solvingFits RX5 (some .int)) (hw : wd E [(a_t, .inr (5, [.ref a_t_letters, .int x_t_length, .ref a_t_parser, .ref a_t_house, .ref a_t_now, .ref a_t_spare, .ref a_t_acts, .ref a_t_slotZero, .ref a_t_slotOne, .long x_t_seedNow])), (a_t_house, .inr (1, [.int x_t_house_truth, .int x_t_house_caskets, .int x_t_house_wooers, .ref a_t_house_metals, .ref a_t_house_kinds])), (a_t_house_metals, .inl (E.2.1, 4, .inl r_t_house_metals)), (a_t_now, .inr (4, [.ref a_t_now_lines, .int x_t_now_picture, .int x_t_now_sung, .int x_t_now_tried, .int x_t_now_wed, .ref a_t_now_picked]))] s s.heap) (hk4 : ∀ (v2 : Int32) (v3 : Int32), k4 (v2, v3) = some o_r → ∀ (ls : Array Slot), lv_has ls 6 [(0, .ref a_t), (1, .int v1), (2, .int v2), (3, .int v3)] → W p l e { frames := 2, cells := 0, slots := 0, locals := 49 } s m args below meth c s.heap [] 0 0 (MQ below (Qr (some (.int o_r))) args s 0 0 (fun _ => False)) (F0 m 4 ls [])) (k16 : Int32 × Int32 → Option (Int32)) (hk16 : ∀ (v4 : Int32) (v5 : Int32), k16 (v4, v5) = some o_r → ∀ (ls : Array Slot), lv_has ls 6 [(0, .ref a_t), (1, .int v1), (2, .int v2), (3, .int v3), (4, .int v4), (5, .int v5)] → W p l e { frames := 2, cells := 0, slots := 0, locals := 49 } s m args below meth c s.heap [] 0 0 (MQ below (Qr (some (.int o_r))) args s 0 0 (fun _ => False)) (F0 m 16 ls [])) (v4 : Int32) (v5 : Int32) (h : f_X5_solvingFits_16_b x_t_house_caskets r_t_house_metals x_t_now_picture x_t_now_sung v1 v2 v3 k4 k16 v4 v5 = some o_r) {ls : Array Slot} (hl : lv_has ls 6 [(0, .ref a_t), (1, .int v1), (2, .int v2), (3, .int v3), (4, .int v4), (5, .int v5)]) : W p l e { frames := 2, cells := 0, slots := 0, locals := 49 } s m args below meth c s.heap [] 0 0 (MQ below (Qr (some (.int o_r))) args s 0 0 (fun _ => False)) (F0 m 16 ls []) := by
  obtain ⟨⟨hx, hb, hml, hown, hts⟩, hr, hlocks⟩ := id X
  obtain ⟨hC, hP⟩ := id hw
  have hiX1 : ∀ w ∈ u_ws RX1 TX1 5, w ∈ wsX5_solvingFits := by decide +kernel
  have hiX4 : ∀ w ∈ u_ws RX4 TX4 6, w ∈ wsX5_solvingFits := by decide +kernel
  have hiX5 : ∀ w ∈ u_ws RX5 TX5 10, w ∈ wsX5_solvingFits := by decide +kernel
  have hK := hC.1
  unfold f_X5_solvingFits_16_b at h
  refine lv_iload hx hb dX5_solvingFits_16 (lv_at hl 5 rfl) ?_
  refine lv_iconst (v := 4) hx hb dX5_solvingFits_18 (by decide) ?_
  refine lv_icmp_ge (tgt := 64) hx hb dX5_solvingFits_19 (by decide) (fun c2 => ?_) (fun c2 => ?_)
  · have h := ifp c2 h
    exact w_X5_solvingFits_64 a_t a_t_letters a_t_parser a_t_house a_t_now a_t_spare a_t_acts a_t_slotZero a_t_slotOne a_t_house_metals a_t_house_kinds a_t_now_lines a_t_now_picked x_t_length x_t_seedNow x_t_house_truth x_t_house_caskets x_t_house_wooers r_t_house_metals x_t_now_picture x_t_now_sung x_t_now_tried x_t_now_wed v1 v2 v3 v4 k4 o_r X hw hk4 h ls (lv_sub hl [0, 1, 2, 3, 4] rfl)
  · have h := ifn c2 h
    refine lv_aload_n hx hb dX5_solvingFits_22 rfl (lv_at hl 0 rfl) ?_
    refine va_get (D := E.1) (ci := 5) (v := .ref a_t_house) (C := RX5) (T := TX5) (N := 10) hx hb hts hiX5 hown hK hP 0 rfl rfl 3 (by decide) (hts (.fieldLink RX5 23 "CasketLines" "house" "LCasketLines$House;") (by decide +kernel)) (fun _ h9 => h9) rfl dX5_solvingFits_23 ?_
    refine lv_iload hx hb dX5_solvingFits_26 (lv_at hl 5 rfl) ?_
    refine lv_iload_n hx hb dX5_solvingFits_28 rfl (lv_at hl 3 rfl) ?_
    refine lv_aload_n hx hb dX5_solvingFits_29 rfl (lv_at hl 0 rfl) ?_
    refine va_get (D := E.1) (ci := 5) (v := .ref a_t_now) (C := RX5) (T := TX5) (N := 10) hx hb hts hiX5 hown hK hP 0 rfl rfl 4 (by decide) (hts (.fieldLink RX5 30 "CasketLines" "now" "LCasketLines$Standing;") (by decide +kernel)) (fun _ h9 => h9) rfl dX5_solvingFits_30 ?_
    refine va_get (D := E.1) (ci := 4) (v := .int x_t_now_sung) (C := RX4) (T := TX4) (N := 6) hx hb hts hiX4 hown hK hP 3 rfl rfl 2 (by decide) (hts (.fieldLink RX5 103 "CasketLines$Standing" "sung" "I") (by decide +kernel)) (fun _ h9 => h9) rfl dX5_solvingFits_33 ?_
    obtain ⟨r3, g4, h⟩ := bnd h
    refine rcV (As := [.int v5, .int v3, .int x_t_now_sung]) (rest := []) ⟨hx, hb, hml, hown, hts⟩ (k_X1_pickOf (l := l) (E := E) a_t_house a_t_house_metals a_t_house_kinds x_t_house_truth x_t_house_caskets x_t_house_wooers r_t_house_metals v5 v3 x_t_now_sung r3 g4) (cwV 3 hts gX5_solvingFits_X1_pickOf rfl rfl rfl (by decide +kernel) ⟨Nat.le_of_ble_eq_true rfl, Nat.le_of_ble_eq_true rfl⟩) hC hP [1, 2] rfl 1 1 rfl rfl rfl rfl hl.1 rfl (Nat.le_of_ble_eq_true rfl) dX5_solvingFits_36 ⟨Nat.zero_le _, Nat.zero_le _⟩ ?_
    refine lv_aload_n hx hb dX5_solvingFits_39 rfl (lv_at hl 0 rfl) ?_
    refine va_get (D := E.1) (ci := 5) (v := .ref a_t_now) (C := RX5) (T := TX5) (N := 10) hx hb hts hiX5 hown hK hP 0 rfl rfl 4 (by decide) (hts (.fieldLink RX5 30 "CasketLines" "now" "LCasketLines$Standing;") (by decide +kernel)) (fun _ h9 => h9) rfl dX5_solvingFits_40 ?_
    refine va_get (D := E.1) (ci := 4) (v := .int x_t_now_picture) (C := RX4) (T := TX4) (N := 6) hx hb hts hiX4 hown hK hP 3 rfl rfl 1 (by decide) (hts (.fieldLink RX5 155 "CasketLines$Standing" "picture" "I") (by decide +kernel)) (fun _ h9 => h9) rfl dX5_solvingFits_43 ?_
    refine lv_icmp_ne (tgt := 58) hx hb dX5_solvingFits_46 (by decide) (fun c5 => ?_) (fun c5 => ?_)
    · have h := ifn c5 h
      refine lv_iinc (v := (v5 + 1)) (lv' := [(5, .int (v5 + 1)), (0, .ref a_t), (1, .int v1), (2, .int v2), (3, .int v3), (4, .int v4)]) hx hb dX5_solvingFits_58 hl (k := 5) rfl rfl (by decide) rfl (fun ls hl => ?_)
      refine lv_goto (tgt := 16) hx hb dX5_solvingFits_61 (by decide) ?_
      exact hk16 v4 (v5 + 1) h ls (lv_sub hl [1, 2, 3, 4, 5, 0] rfl)
    · have h := ifp c5 h
      refine lv_iload hx hb dX5_solvingFits_49 (lv_at hl 4 rfl) ?_
      refine lv_iconst (v := 1) hx hb dX5_solvingFits_51 (by decide) ?_
      refine lv_iload hx hb dX5_solvingFits_52 (lv_at hl 5 rfl) ?_
      refine lv_ishl hx hb dX5_solvingFits_54 ?_
      refine lv_ior hx hb dX5_solvingFits_55 ?_
      refine lv_istore (lv' := [(4, .int (v4 ||| ((1 : Int32) <<< (v5 &&& 31)))), (0, .ref a_t), (1, .int v1), (2, .int v2), (3, .int v3), (5, .int v5)]) hx hb dX5_solvingFits_56 hl (by decide) rfl (fun ls hl => ?_)
      refine lv_iinc (v := (v5 + 1)) (lv' := [(5, .int (v5 + 1)), (4, .int (v4 ||| ((1 : Int32) <<< (v5 &&& 31)))), (0, .ref a_t), (1, .int v1), (2, .int v2), (3, .int v3)]) hx hb dX5_solvingFits_58 hl (k := 5) rfl rfl (by decide) rfl (fun ls hl => ?_)
      refine lv_goto (tgt := 16) hx hb dX5_solvingFits_61 (by decide) ?_
      exact hk16 (v4 ||| ((1 : Int32) <<< (v5 &&& 31))) (v5 + 1) h ls (lv_sub hl [2, 3, 4, 5, 1, 0] rfl)
set_option maxHeartbeats 4000000 in
set_option maxRecDepth 100000 in
theorem w_X5_solvingFits_16 {p : Program} {l : Launch} {e : Env} {s : State} {m : MethodId} {args : Array Value} {below : List Frame} {meth : Method} {c : Code} {E : Ev} (a_t a_t_letters a_t_parser a_t_house a_t_now a_t_spare a_t_acts a_t_slotZero a_t_slotOne a_t_house_metals a_t_house_kinds a_t_now_lines a_t_now_picked : Nat) (x_t_length : Int32) (x_t_seedNow : Int64) (x_t_house_truth : Int32) (x_t_house_caskets : Int32) (x_t_house_wooers : Int32) (r_t_house_metals : Nat → Int32) (x_t_now_picture : Int32) (x_t_now_sung : Int32) (x_t_now_tried : Int32) (x_t_now_wed : Int32) (v1 : Int32) (v2 : Int32) (v3 : Int32) (k4 : Int32 × Int32 → Option (Int32)) (o_r : Int32) (X : Cxt p s m args meth c cX5_solvingFits 6 wsX5_solvingFits RX5 (some .int)) (hw : wd E [(a_t, .inr (5, [.ref a_t_letters, .int x_t_length, .ref a_t_parser, .ref a_t_house, .ref a_t_now, .ref a_t_spare, .ref a_t_acts, .ref a_t_slotZero, .ref a_t_slotOne, .long x_t_seedNow])), (a_t_house, .inr (1, [.int x_t_house_truth, .int x_t_house_caskets, .int x_t_house_wooers, .ref a_t_house_metals, .ref a_t_house_kinds])), (a_t_house_metals, .inl (E.2.1, 4, .inl r_t_house_metals)), (a_t_now, .inr (4, [.ref a_t_now_lines, .int x_t_now_picture, .int x_t_now_sung, .int x_t_now_tried, .int x_t_now_wed, .ref a_t_now_picked]))] s s.heap) (hk4 : ∀ (v2 : Int32) (v3 : Int32), k4 (v2, v3) = some o_r → ∀ (ls : Array Slot), lv_has ls 6 [(0, .ref a_t), (1, .int v1), (2, .int v2), (3, .int v3)] → W p l e { frames := 2, cells := 0, slots := 0, locals := 49 } s m args below meth c s.heap [] 0 0 (MQ below (Qr (some (.int o_r))) args s 0 0 (fun _ => False)) (F0 m 4 ls [])) : ∀ (n : Nat) (v4 : Int32) (v5 : Int32), f_X5_solvingFits_16 x_t_house_caskets r_t_house_metals x_t_now_picture x_t_now_sung v1 v2 v3 k4 n v4 v5 = some o_r → ∀ (ls : Array Slot), lv_has ls 6 [(0, .ref a_t), (1, .int v1), (2, .int v2), (3, .int v3), (4, .int v4), (5, .int v5)] → W p l e { frames := 2, cells := 0, slots := 0, locals := 49 } s m args below meth c s.heap [] 0 0 (MQ below (Qr (some (.int o_r))) args s 0 0 (fun _ => False)) (F0 m 16 ls []) := by
  intro n
  induction n with
  | zero =>
    intro v4 v5 h
    exact (rk_z _ _ h).elim
  | succ n ih =>
    intro v4 v5 h ls hl
    exact w_X5_solvingFits_16_b a_t a_t_letters a_t_parser a_t_house a_t_now a_t_spare a_t_acts a_t_slotZero a_t_slotOne a_t_house_metals a_t_house_kinds a_t_now_lines a_t_now_picked x_t_length x_t_seedNow x_t_house_truth x_t_house_caskets x_t_house_wooers r_t_house_metals x_t_now_picture x_t_now_sung x_t_now_tried x_t_now_wed v1 v2 v3 k4 o_r X hw hk4 (rk (fun k x => f_X5_solvingFits_16_b x_t_house_caskets r_t_house_metals x_t_now_picture x_t_now_sung v1 v2 v3 k4 k (x.1) (x.2)) n) (fun v4 v5 hh => ih v4 v5 hh) v4 v5 h hl
set_option maxHeartbeats 4000000 in
set_option maxRecDepth 100000 in
theorem w_X5_solvingFits_4_b {p : Program} {l : Launch} {e : Env} {s : State} {m : MethodId} {args : Array Value} {below : List Frame} {meth : Method} {c : Code} {E : Ev} (a_t a_t_letters a_t_parser a_t_house a_t_now a_t_spare a_t_acts a_t_slotZero a_t_slotOne a_t_house_metals a_t_house_kinds a_t_now_lines a_t_now_picked : Nat) (x_t_length : Int32) (x_t_seedNow : Int64) (x_t_house_truth : Int32) (x_t_house_caskets : Int32) (x_t_house_wooers : Int32) (r_t_house_metals : Nat → Int32) (x_t_now_picture : Int32) (x_t_now_sung : Int32) (x_t_now_tried : Int32) (x_t_now_wed : Int32) (v1 : Int32) (o_r : Int32) (X : Cxt p s m args meth c cX5_solvingFits 6 wsX5_solvingFits RX5 (some .int)) (hw : wd E [(a_t, .inr (5, [.ref a_t_letters, .int x_t_length, .ref a_t_parser, .ref a_t_house, .ref a_t_now, .ref a_t_spare, .ref a_t_acts, .ref a_t_slotZero, .ref a_t_slotOne, .long x_t_seedNow])), (a_t_house, .inr (1, [.int x_t_house_truth, .int x_t_house_caskets, .int x_t_house_wooers, .ref a_t_house_metals, .ref a_t_house_kinds])), (a_t_house_metals, .inl (E.2.1, 4, .inl r_t_house_metals)), (a_t_now, .inr (4, [.ref a_t_now_lines, .int x_t_now_picture, .int x_t_now_sung, .int x_t_now_tried, .int x_t_now_wed, .ref a_t_now_picked]))] s s.heap) (k4 : Int32 × Int32 → Option (Int32)) (hk4 : ∀ (v2 : Int32) (v3 : Int32), k4 (v2, v3) = some o_r → ∀ (ls : Array Slot), lv_has ls 6 [(0, .ref a_t), (1, .int v1), (2, .int v2), (3, .int v3)] → W p l e { frames := 2, cells := 0, slots := 0, locals := 49 } s m args below meth c s.heap [] 0 0 (MQ below (Qr (some (.int o_r))) args s 0 0 (fun _ => False)) (F0 m 4 ls [])) (v2 : Int32) (v3 : Int32) (h : f_X5_solvingFits_4_b x_t_house_caskets r_t_house_metals x_t_now_picture x_t_now_sung v1 k4 v2 v3 = some o_r) {ls : Array Slot} (hl : lv_has ls 6 [(0, .ref a_t), (1, .int v1), (2, .int v2), (3, .int v3)]) : W p l e { frames := 2, cells := 0, slots := 0, locals := 49 } s m args below meth c s.heap [] 0 0 (MQ below (Qr (some (.int o_r))) args s 0 0 (fun _ => False)) (F0 m 4 ls []) := by
  obtain ⟨⟨hx, hb, hml, hown, hts⟩, hr, hlocks⟩ := id X
  obtain ⟨hC, hP⟩ := id hw
  have hiX1 : ∀ w ∈ u_ws RX1 TX1 5, w ∈ wsX5_solvingFits := by decide +kernel
  have hiX4 : ∀ w ∈ u_ws RX4 TX4 6, w ∈ wsX5_solvingFits := by decide +kernel
  have hiX5 : ∀ w ∈ u_ws RX5 TX5 10, w ∈ wsX5_solvingFits := by decide +kernel
  have hK := hC.1
  unfold f_X5_solvingFits_4_b at h
  refine lv_iload_n hx hb dX5_solvingFits_4 rfl (lv_at hl 3 rfl) ?_
  refine lv_bipush (v := 16) hx hb dX5_solvingFits_5 (by decide) ?_
  refine lv_icmp_ge (tgt := 82) hx hb dX5_solvingFits_7 (by decide) (fun c1 => ?_) (fun c1 => ?_)
  · have h := ifp c1 h
    refine lv_iload_n hx hb dX5_solvingFits_82 rfl (lv_at hl 2 rfl) ?_
    exact W.iret hx hb hr (fun t ht _ => ⟨by cases h; rfl, ht⟩) (fun _ hq => absurd hq List.not_mem_nil) dX5_solvingFits_83
  · have h := ifn c1 h
    refine lv_iconst (v := 0) hx hb dX5_solvingFits_10 (by decide) ?_
    refine lv_istore (lv' := [(4, .int 0), (0, .ref a_t), (1, .int v1), (2, .int v2), (3, .int v3)]) hx hb dX5_solvingFits_11 hl (by decide) rfl (fun ls hl => ?_)
    refine lv_iconst (v := 0) hx hb dX5_solvingFits_13 (by decide) ?_
    refine lv_istore (lv' := [(5, .int 0), (4, .int 0), (0, .ref a_t), (1, .int v1), (2, .int v2), (3, .int v3)]) hx hb dX5_solvingFits_14 hl (by decide) rfl (fun ls hl => ?_)
    exact w_X5_solvingFits_16 a_t a_t_letters a_t_parser a_t_house a_t_now a_t_spare a_t_acts a_t_slotZero a_t_slotOne a_t_house_metals a_t_house_kinds a_t_now_lines a_t_now_picked x_t_length x_t_seedNow x_t_house_truth x_t_house_caskets x_t_house_wooers r_t_house_metals x_t_now_picture x_t_now_sung x_t_now_tried x_t_now_wed v1 v2 v3 k4 o_r X hw hk4 200 0 0 h ls (lv_sub hl [2, 3, 4, 5, 1, 0] rfl)
set_option maxHeartbeats 4000000 in
set_option maxRecDepth 100000 in
theorem w_X5_solvingFits_4 {p : Program} {l : Launch} {e : Env} {s : State} {m : MethodId} {args : Array Value} {below : List Frame} {meth : Method} {c : Code} {E : Ev} (a_t a_t_letters a_t_parser a_t_house a_t_now a_t_spare a_t_acts a_t_slotZero a_t_slotOne a_t_house_metals a_t_house_kinds a_t_now_lines a_t_now_picked : Nat) (x_t_length : Int32) (x_t_seedNow : Int64) (x_t_house_truth : Int32) (x_t_house_caskets : Int32) (x_t_house_wooers : Int32) (r_t_house_metals : Nat → Int32) (x_t_now_picture : Int32) (x_t_now_sung : Int32) (x_t_now_tried : Int32) (x_t_now_wed : Int32) (v1 : Int32) (o_r : Int32) (X : Cxt p s m args meth c cX5_solvingFits 6 wsX5_solvingFits RX5 (some .int)) (hw : wd E [(a_t, .inr (5, [.ref a_t_letters, .int x_t_length, .ref a_t_parser, .ref a_t_house, .ref a_t_now, .ref a_t_spare, .ref a_t_acts, .ref a_t_slotZero, .ref a_t_slotOne, .long x_t_seedNow])), (a_t_house, .inr (1, [.int x_t_house_truth, .int x_t_house_caskets, .int x_t_house_wooers, .ref a_t_house_metals, .ref a_t_house_kinds])), (a_t_house_metals, .inl (E.2.1, 4, .inl r_t_house_metals)), (a_t_now, .inr (4, [.ref a_t_now_lines, .int x_t_now_picture, .int x_t_now_sung, .int x_t_now_tried, .int x_t_now_wed, .ref a_t_now_picked]))] s s.heap) : ∀ (n : Nat) (v2 : Int32) (v3 : Int32), f_X5_solvingFits_4 x_t_house_caskets r_t_house_metals x_t_now_picture x_t_now_sung v1 n v2 v3 = some o_r → ∀ (ls : Array Slot), lv_has ls 6 [(0, .ref a_t), (1, .int v1), (2, .int v2), (3, .int v3)] → W p l e { frames := 2, cells := 0, slots := 0, locals := 49 } s m args below meth c s.heap [] 0 0 (MQ below (Qr (some (.int o_r))) args s 0 0 (fun _ => False)) (F0 m 4 ls []) := by
  intro n
  induction n with
  | zero =>
    intro v2 v3 h
    exact (rk_z _ _ h).elim
  | succ n ih =>
    intro v2 v3 h ls hl
    exact w_X5_solvingFits_4_b a_t a_t_letters a_t_parser a_t_house a_t_now a_t_spare a_t_acts a_t_slotZero a_t_slotOne a_t_house_metals a_t_house_kinds a_t_now_lines a_t_now_picked x_t_length x_t_seedNow x_t_house_truth x_t_house_caskets x_t_house_wooers r_t_house_metals x_t_now_picture x_t_now_sung x_t_now_tried x_t_now_wed v1  o_r X hw  (rk (fun k x => f_X5_solvingFits_4_b x_t_house_caskets r_t_house_metals x_t_now_picture x_t_now_sung v1  k (x.1) (x.2)) n) (fun v2 v3 hh => ih v2 v3 hh) v2 v3 h hl
set_option maxHeartbeats 4000000 in
set_option maxRecDepth 100000 in
theorem w_X5_solvingFits {p : Program} {l : Launch} {e : Env} {s : State} {m : MethodId} {args : Array Value} {below : List Frame} {meth : Method} {c : Code} {E : Ev} (a_t a_t_letters a_t_parser a_t_house a_t_now a_t_spare a_t_acts a_t_slotZero a_t_slotOne a_t_house_metals a_t_house_kinds a_t_now_lines a_t_now_picked : Nat) (x_t_length : Int32) (x_t_seedNow : Int64) (x_t_house_truth : Int32) (x_t_house_caskets : Int32) (x_t_house_wooers : Int32) (r_t_house_metals : Nat → Int32) (x_t_now_picture : Int32) (x_t_now_sung : Int32) (x_t_now_tried : Int32) (x_t_now_wed : Int32) (p1 : Int32) (o_r : Int32) (X : Cxt p s m args meth c cX5_solvingFits 6 wsX5_solvingFits RX5 (some .int)) (hw : wd E [(a_t, .inr (5, [.ref a_t_letters, .int x_t_length, .ref a_t_parser, .ref a_t_house, .ref a_t_now, .ref a_t_spare, .ref a_t_acts, .ref a_t_slotZero, .ref a_t_slotOne, .long x_t_seedNow])), (a_t_house, .inr (1, [.int x_t_house_truth, .int x_t_house_caskets, .int x_t_house_wooers, .ref a_t_house_metals, .ref a_t_house_kinds])), (a_t_house_metals, .inl (E.2.1, 4, .inl r_t_house_metals)), (a_t_now, .inr (4, [.ref a_t_now_lines, .int x_t_now_picture, .int x_t_now_sung, .int x_t_now_tried, .int x_t_now_wed, .ref a_t_now_picked]))] s s.heap) (h : f_X5_solvingFits x_t_house_caskets r_t_house_metals x_t_now_picture x_t_now_sung p1 = some o_r) {ls : Array Slot} (hl : lv_has ls 6 [(0, .ref a_t), (1, .int p1)]) : W p l e { frames := 2, cells := 0, slots := 0, locals := 49 } s m args below meth c s.heap [] 0 0 (MQ below (Qr (some (.int o_r))) args s 0 0 (fun _ => False)) (F0 m 0 ls []) := by
  obtain ⟨⟨hx, hb, hml, hown, hts⟩, hr, hlocks⟩ := id X
  obtain ⟨hC, hP⟩ := id hw
  have hiX1 : ∀ w ∈ u_ws RX1 TX1 5, w ∈ wsX5_solvingFits := by decide +kernel
  have hiX4 : ∀ w ∈ u_ws RX4 TX4 6, w ∈ wsX5_solvingFits := by decide +kernel
  have hiX5 : ∀ w ∈ u_ws RX5 TX5 10, w ∈ wsX5_solvingFits := by decide +kernel
  have hK := hC.1
  unfold f_X5_solvingFits at h
  refine lv_iconst (v := 0) hx hb dX5_solvingFits_0 (by decide) ?_
  refine lv_istore_n (lv' := [(2, .int 0), (0, .ref a_t), (1, .int p1)]) hx hb dX5_solvingFits_1 rfl hl (by decide) rfl (fun ls hl => ?_)
  refine lv_iconst (v := 0) hx hb dX5_solvingFits_2 (by decide) ?_
  refine lv_istore_n (lv' := [(3, .int 0), (2, .int 0), (0, .ref a_t), (1, .int p1)]) hx hb dX5_solvingFits_3 rfl hl (by decide) rfl (fun ls hl => ?_)
  exact w_X5_solvingFits_4 a_t a_t_letters a_t_parser a_t_house a_t_now a_t_spare a_t_acts a_t_slotZero a_t_slotOne a_t_house_metals a_t_house_kinds a_t_now_lines a_t_now_picked x_t_length x_t_seedNow x_t_house_truth x_t_house_caskets x_t_house_wooers r_t_house_metals x_t_now_picture x_t_now_sung x_t_now_tried x_t_now_wed p1  o_r X hw  200 0 0 h ls (lv_sub hl [2, 3, 1, 0] rfl)
set_option maxHeartbeats 4000000 in
set_option maxRecDepth 100000 in
theorem k_X5_solvingFits {l : Launch} {E : Ev} (a_t a_t_letters a_t_parser a_t_house a_t_now a_t_spare a_t_acts a_t_slotZero a_t_slotOne a_t_house_metals a_t_house_kinds a_t_now_lines a_t_now_picked : Nat) (x_t_length : Int32) (x_t_seedNow : Int64) (x_t_house_truth : Int32) (x_t_house_caskets : Int32) (x_t_house_wooers : Int32) (r_t_house_metals : Nat → Int32) (x_t_now_picture : Int32) (x_t_now_sung : Int32) (x_t_now_tried : Int32) (x_t_now_wed : Int32) (p1 : Int32) (o_r : Int32) (hf : f_X5_solvingFits x_t_house_caskets r_t_house_metals x_t_now_picture x_t_now_sung p1 = some o_r) : Met l yX5_solvingFits wsX5_solvingFits ({ frames := 2, cells := 0, slots := 0, locals := 49 }) (Pr E [.ref a_t, .int p1] [(a_t, .inr (5, [.ref a_t_letters, .int x_t_length, .ref a_t_parser, .ref a_t_house, .ref a_t_now, .ref a_t_spare, .ref a_t_acts, .ref a_t_slotZero, .ref a_t_slotOne, .long x_t_seedNow])), (a_t_house, .inr (1, [.int x_t_house_truth, .int x_t_house_caskets, .int x_t_house_wooers, .ref a_t_house_metals, .ref a_t_house_kinds])), (a_t_house_metals, .inl (E.2.1, 4, .inl r_t_house_metals)), (a_t_now, .inr (4, [.ref a_t_now_lines, .int x_t_now_picture, .int x_t_now_sung, .int x_t_now_tried, .int x_t_now_wed, .ref a_t_now_picked]))]) (Qr (some (.int o_r))) 0 0 (fun _ => False) := by
  refine Met.ofW (cc := cX5_solvingFits) (maxL := 6) (ret := (some .int)) (by decide) rfl ?_
  intro p e s m args below meth c s₁ B hml hv
  obtain ⟨rfl, hw⟩ := hv
  have X := Cxt.of B hml
  have hl := lv_entry ([.ref a_t, .int p1]) (n := 6) (Nat.le_of_ble_eq_true rfl)
  rw [lg_entry_eq]
  exact w_X5_solvingFits a_t a_t_letters a_t_parser a_t_house a_t_now a_t_spare a_t_acts a_t_slotZero a_t_slotOne a_t_house_metals a_t_house_kinds a_t_now_lines a_t_now_picked x_t_length x_t_seedNow x_t_house_truth x_t_house_caskets x_t_house_wooers r_t_house_metals x_t_now_picture x_t_now_sung x_t_now_tried x_t_now_wed p1 o_r X hw hf hl
set_option maxHeartbeats 4000000 in
set_option maxRecDepth 100000 in
theorem w_X5_leastMending_60_b {p : Program} {l : Launch} {e : Env} {s : State} {m : MethodId} {args : Array Value} {below : List Frame} {meth : Method} {c : Code} {E : Ev} (a_t a_t_letters a_t_parser a_t_house a_t_now a_t_spare a_t_acts a_t_slotZero a_t_slotOne a_t_house_metals a_t_house_kinds a_t_now_lines a_t_now_picked : Nat) (x_t_length : Int32) (x_t_seedNow : Int64) (x_t_house_truth : Int32) (x_t_house_caskets : Int32) (x_t_house_wooers : Int32) (x_t_now_picture : Int32) (x_t_now_sung : Int32) (x_t_now_tried : Int32) (x_t_now_wed : Int32) (r_t_now_lines : Nat → Int32) (v1 : Int32) (v3 : Int64) (v5 : Int32) (v6 : Int32) (v8 : Int64) (k3 : Int32 → Option (Int32)) (o_r : Int32) (X : Cxt p s m args meth c cX5_leastMending 12 wsX5_leastMending RX5 (some .int)) (hw : wd E [(a_t, .inr (5, [.ref a_t_letters, .int x_t_length, .ref a_t_parser, .ref a_t_house, .ref a_t_now, .ref a_t_spare, .ref a_t_acts, .ref a_t_slotZero, .ref a_t_slotOne, .long x_t_seedNow])), (a_t_house, .inr (1, [.int x_t_house_truth, .int x_t_house_caskets, .int x_t_house_wooers, .ref a_t_house_metals, .ref a_t_house_kinds])), (a_t_now, .inr (4, [.ref a_t_now_lines, .int x_t_now_picture, .int x_t_now_sung, .int x_t_now_tried, .int x_t_now_wed, .ref a_t_now_picked])), (a_t_now_lines, .inl (E.2.1, 4, .inl r_t_now_lines))] s s.heap) (hk3 : ∀ (v6 : Int32), k3 v6 = some o_r → ∀ (ls : Array Slot), lv_has ls 12 [(0, .ref a_t), (1, .int v1), (3, .long v3), (5, .int v5), (6, .int v6)] → W p l e { frames := 3, cells := 0, slots := 0, locals := 73 } s m args below meth c s.heap [] 0 0 (MQ below (Qr (some (.int o_r))) args s 0 0 (fun _ => False)) (F0 m 3 ls [])) (k60 : Int32 → Option (Int32)) (hk60 : ∀ (v10 : Int32), k60 v10 = some o_r → ∀ (ls : Array Slot), lv_has ls 12 [(0, .ref a_t), (1, .int v1), (3, .long v3), (5, .int v5), (6, .int v6), (8, .long v8), (10, .int v10)] → W p l e { frames := 3, cells := 0, slots := 0, locals := 73 } s m args below meth c s.heap [] 0 0 (MQ below (Qr (some (.int o_r))) args s 0 0 (fun _ => False)) (F0 m 60 ls [])) (v10 : Int32) (h : f_X5_leastMending_60_b x_t_house_truth x_t_house_caskets r_t_now_lines v1 v3 v5 v6 v8 k3 k60 v10 = some o_r) {ls : Array Slot} (hl : lv_has ls 12 [(0, .ref a_t), (1, .int v1), (3, .long v3), (5, .int v5), (6, .int v6), (8, .long v8), (10, .int v10)]) : W p l e { frames := 3, cells := 0, slots := 0, locals := 73 } s m args below meth c s.heap [] 0 0 (MQ below (Qr (some (.int o_r))) args s 0 0 (fun _ => False)) (F0 m 60 ls []) := by
  obtain ⟨⟨hx, hb, hml, hown, hts⟩, hr, hlocks⟩ := id X
  obtain ⟨hC, hP⟩ := id hw
  have hiX1 : ∀ w ∈ u_ws RX1 TX1 5, w ∈ wsX5_leastMending := by decide +kernel
  have hiX4 : ∀ w ∈ u_ws RX4 TX4 6, w ∈ wsX5_leastMending := by decide +kernel
  have hiX5 : ∀ w ∈ u_ws RX5 TX5 10, w ∈ wsX5_leastMending := by decide +kernel
  have hK := hC.1
  unfold f_X5_leastMending_60_b at h
  refine lv_iload hx hb dX5_leastMending_60 (lv_at hl 6 rfl) ?_
  refine lv_bipush (v := 24) hx hb dX5_leastMending_62 (by decide) ?_
  refine lv_icmp_ge (tgt := 110) hx hb dX5_leastMending_64 (by decide) (fun c6 => ?_) (fun c6 => ?_)
  · have h := ifp c6 h
    refine lv_iinc (v := (v6 + 1)) (lv' := [(6, .int (v6 + 1)), (0, .ref a_t), (1, .int v1), (3, .long v3), (5, .int v5), (8, .long v8), (10, .int v10)]) hx hb dX5_leastMending_110 hl (k := 4) rfl rfl (by decide) rfl (fun ls hl => ?_)
    refine lv_goto (tgt := 3) hx hb dX5_leastMending_113 (by decide) ?_
    exact hk3 (v6 + 1) h ls (lv_sub hl [1, 2, 3, 4, 0] rfl)
  · have h := ifn c6 h
    refine lv_lload hx hb dX5_leastMending_67 (lv_at hl 5 rfl) ?_
    refine lv_iload hx hb dX5_leastMending_69 (lv_at hl 4 rfl) ?_
    refine lv_iload hx hb dX5_leastMending_71 (lv_at hl 6 rfl) ?_
    obtain ⟨r7, g8, h⟩ := bnd h
    refine rcS (As := [.int v6, .int v10]) (rest := [.long v8]) ⟨hx, hb, hml, hown, hts⟩ (k_X5_agreeing (l := l) (E := E) v6 v10 r7 g8) (va_cwS 2 hts gX5_leastMending_X5_agreeing rfl rfl rfl (by decide +kernel) ⟨Nat.le_of_ble_eq_true rfl, Nat.le_of_ble_eq_true rfl⟩) hC hP [] rfl rfl hl.1 rfl (Nat.le_of_ble_eq_true rfl) dX5_leastMending_73 ⟨Nat.zero_le _, Nat.zero_le _⟩ ?_
    refine lv_land hx hb dX5_leastMending_76 ?_
    obtain ⟨r9, g10, h⟩ := bnd h
    refine rcS (As := [.long (v8 &&& r7)]) (rest := []) ⟨hx, hb, hml, hown, hts⟩ (k_X5_fitsOf (l := l) (E := E) (v8 &&& r7) r9 g10) (va_cwS 1 hts gX5_leastMending_X5_fitsOf rfl rfl rfl (by decide +kernel) ⟨Nat.le_of_ble_eq_true rfl, Nat.le_of_ble_eq_true rfl⟩) hC hP [] rfl rfl hl.1 rfl (Nat.le_of_ble_eq_true rfl) dX5_leastMending_77 ⟨Nat.zero_le _, Nat.zero_le _⟩ ?_
    refine lv_istore (lv' := [(11, .int r9), (0, .ref a_t), (1, .int v1), (3, .long v3), (5, .int v5), (6, .int v6), (8, .long v8), (10, .int v10)]) hx hb dX5_leastMending_80 hl (by decide) rfl (fun ls hl => ?_)
    refine lv_iload_n hx hb dX5_leastMending_82 rfl (lv_at hl 2 rfl) ?_
    refine lv_iload hx hb dX5_leastMending_83 (lv_at hl 0 rfl) ?_
    refine lv_ishr hx hb dX5_leastMending_85 ?_
    refine lv_iconst (v := 1) hx hb dX5_leastMending_86 (by decide) ?_
    refine lv_iand hx hb dX5_leastMending_87 ?_
    refine lv_iconst (v := 1) hx hb dX5_leastMending_88 (by decide) ?_
    refine lv_icmp_ne (tgt := 104) hx hb dX5_leastMending_89 (by decide) (fun c11 => ?_) (fun c11 => ?_)
    · have h := ifn c11 h
      refine lv_iinc (v := (v10 + 1)) (lv' := [(10, .int (v10 + 1)), (11, .int r9), (0, .ref a_t), (1, .int v1), (3, .long v3), (5, .int v5), (6, .int v6), (8, .long v8)]) hx hb dX5_leastMending_104 hl (k := 7) rfl rfl (by decide) rfl (fun ls hl => ?_)
      refine lv_goto (tgt := 60) hx hb dX5_leastMending_107 (by decide) ?_
      exact hk60 (v10 + 1) h ls (lv_sub hl [2, 3, 4, 5, 6, 7, 0] rfl)
    · have h := ifp c11 h
      refine lv_bipush (v := 100) hx hb dX5_leastMending_92 (by decide) ?_
      refine lv_iload hx hb dX5_leastMending_94 (lv_at hl 5 rfl) ?_
      refine lv_imul hx hb dX5_leastMending_96 ?_
      refine lv_iload hx hb dX5_leastMending_97 (lv_at hl 7 rfl) ?_
      obtain ⟨r12, g13, h⟩ := bnd h
      refine rcS (As := [.int v10]) (rest := [.int (100 * v6)]) ⟨hx, hb, hml, hown, hts⟩ (k_X5_figuresOf (l := l) (E := E) v10 r12 g13) (va_cwS 1 hts gX5_leastMending_X5_figuresOf rfl rfl rfl (by decide +kernel) ⟨Nat.le_of_ble_eq_true rfl, Nat.le_of_ble_eq_true rfl⟩) hC hP [] rfl rfl hl.1 rfl (Nat.le_of_ble_eq_true rfl) dX5_leastMending_99 ⟨Nat.zero_le _, Nat.zero_le _⟩ ?_
      refine lv_iadd hx hb dX5_leastMending_102 ?_
      exact W.iret hx hb hr (fun t ht _ => ⟨by cases h; rfl, ht⟩) (fun _ hq => absurd hq List.not_mem_nil) dX5_leastMending_103
set_option maxHeartbeats 4000000 in
set_option maxRecDepth 100000 in
theorem w_X5_leastMending_60 {p : Program} {l : Launch} {e : Env} {s : State} {m : MethodId} {args : Array Value} {below : List Frame} {meth : Method} {c : Code} {E : Ev} (a_t a_t_letters a_t_parser a_t_house a_t_now a_t_spare a_t_acts a_t_slotZero a_t_slotOne a_t_house_metals a_t_house_kinds a_t_now_lines a_t_now_picked : Nat) (x_t_length : Int32) (x_t_seedNow : Int64) (x_t_house_truth : Int32) (x_t_house_caskets : Int32) (x_t_house_wooers : Int32) (x_t_now_picture : Int32) (x_t_now_sung : Int32) (x_t_now_tried : Int32) (x_t_now_wed : Int32) (r_t_now_lines : Nat → Int32) (v1 : Int32) (v3 : Int64) (v5 : Int32) (v6 : Int32) (v8 : Int64) (k3 : Int32 → Option (Int32)) (o_r : Int32) (X : Cxt p s m args meth c cX5_leastMending 12 wsX5_leastMending RX5 (some .int)) (hw : wd E [(a_t, .inr (5, [.ref a_t_letters, .int x_t_length, .ref a_t_parser, .ref a_t_house, .ref a_t_now, .ref a_t_spare, .ref a_t_acts, .ref a_t_slotZero, .ref a_t_slotOne, .long x_t_seedNow])), (a_t_house, .inr (1, [.int x_t_house_truth, .int x_t_house_caskets, .int x_t_house_wooers, .ref a_t_house_metals, .ref a_t_house_kinds])), (a_t_now, .inr (4, [.ref a_t_now_lines, .int x_t_now_picture, .int x_t_now_sung, .int x_t_now_tried, .int x_t_now_wed, .ref a_t_now_picked])), (a_t_now_lines, .inl (E.2.1, 4, .inl r_t_now_lines))] s s.heap) (hk3 : ∀ (v6 : Int32), k3 v6 = some o_r → ∀ (ls : Array Slot), lv_has ls 12 [(0, .ref a_t), (1, .int v1), (3, .long v3), (5, .int v5), (6, .int v6)] → W p l e { frames := 3, cells := 0, slots := 0, locals := 73 } s m args below meth c s.heap [] 0 0 (MQ below (Qr (some (.int o_r))) args s 0 0 (fun _ => False)) (F0 m 3 ls [])) : ∀ (n : Nat) (v10 : Int32), f_X5_leastMending_60 x_t_house_truth x_t_house_caskets r_t_now_lines v1 v3 v5 v6 v8 k3 n v10 = some o_r → ∀ (ls : Array Slot), lv_has ls 12 [(0, .ref a_t), (1, .int v1), (3, .long v3), (5, .int v5), (6, .int v6), (8, .long v8), (10, .int v10)] → W p l e { frames := 3, cells := 0, slots := 0, locals := 73 } s m args below meth c s.heap [] 0 0 (MQ below (Qr (some (.int o_r))) args s 0 0 (fun _ => False)) (F0 m 60 ls []) := by
  intro n
  induction n with
  | zero =>
    intro v10 h
    exact (rk_z _ _ h).elim
  | succ n ih =>
    intro v10 h ls hl
    exact w_X5_leastMending_60_b a_t a_t_letters a_t_parser a_t_house a_t_now a_t_spare a_t_acts a_t_slotZero a_t_slotOne a_t_house_metals a_t_house_kinds a_t_now_lines a_t_now_picked x_t_length x_t_seedNow x_t_house_truth x_t_house_caskets x_t_house_wooers x_t_now_picture x_t_now_sung x_t_now_tried x_t_now_wed r_t_now_lines v1 v3 v5 v6 v8 k3 o_r X hw hk3 (rk (fun k x => f_X5_leastMending_60_b x_t_house_truth x_t_house_caskets r_t_now_lines v1 v3 v5 v6 v8 k3 k x) n) (fun v10 hh => ih v10 hh) v10 h hl
set_option maxHeartbeats 4000000 in
set_option maxRecDepth 100000 in
theorem w_X5_leastMending_3_b {p : Program} {l : Launch} {e : Env} {s : State} {m : MethodId} {args : Array Value} {below : List Frame} {meth : Method} {c : Code} {E : Ev} (a_t a_t_letters a_t_parser a_t_house a_t_now a_t_spare a_t_acts a_t_slotZero a_t_slotOne a_t_house_metals a_t_house_kinds a_t_now_lines a_t_now_picked : Nat) (x_t_length : Int32) (x_t_seedNow : Int64) (x_t_house_truth : Int32) (x_t_house_caskets : Int32) (x_t_house_wooers : Int32) (x_t_now_picture : Int32) (x_t_now_sung : Int32) (x_t_now_tried : Int32) (x_t_now_wed : Int32) (r_t_now_lines : Nat → Int32) (v1 : Int32) (v3 : Int64) (v5 : Int32) (o_r : Int32) (X : Cxt p s m args meth c cX5_leastMending 12 wsX5_leastMending RX5 (some .int)) (hw : wd E [(a_t, .inr (5, [.ref a_t_letters, .int x_t_length, .ref a_t_parser, .ref a_t_house, .ref a_t_now, .ref a_t_spare, .ref a_t_acts, .ref a_t_slotZero, .ref a_t_slotOne, .long x_t_seedNow])), (a_t_house, .inr (1, [.int x_t_house_truth, .int x_t_house_caskets, .int x_t_house_wooers, .ref a_t_house_metals, .ref a_t_house_kinds])), (a_t_now, .inr (4, [.ref a_t_now_lines, .int x_t_now_picture, .int x_t_now_sung, .int x_t_now_tried, .int x_t_now_wed, .ref a_t_now_picked])), (a_t_now_lines, .inl (E.2.1, 4, .inl r_t_now_lines))] s s.heap) (k3 : Int32 → Option (Int32)) (hk3 : ∀ (v6 : Int32), k3 v6 = some o_r → ∀ (ls : Array Slot), lv_has ls 12 [(0, .ref a_t), (1, .int v1), (3, .long v3), (5, .int v5), (6, .int v6)] → W p l e { frames := 3, cells := 0, slots := 0, locals := 73 } s m args below meth c s.heap [] 0 0 (MQ below (Qr (some (.int o_r))) args s 0 0 (fun _ => False)) (F0 m 3 ls [])) (v6 : Int32) (h : f_X5_leastMending_3_b x_t_house_truth x_t_house_caskets r_t_now_lines v1 v3 v5 k3 v6 = some o_r) {ls : Array Slot} (hl : lv_has ls 12 [(0, .ref a_t), (1, .int v1), (3, .long v3), (5, .int v5), (6, .int v6)]) : W p l e { frames := 3, cells := 0, slots := 0, locals := 73 } s m args below meth c s.heap [] 0 0 (MQ below (Qr (some (.int o_r))) args s 0 0 (fun _ => False)) (F0 m 3 ls []) := by
  obtain ⟨⟨hx, hb, hml, hown, hts⟩, hr, hlocks⟩ := id X
  obtain ⟨hC, hP⟩ := id hw
  have hiX1 : ∀ w ∈ u_ws RX1 TX1 5, w ∈ wsX5_leastMending := by decide +kernel
  have hiX4 : ∀ w ∈ u_ws RX4 TX4 6, w ∈ wsX5_leastMending := by decide +kernel
  have hiX5 : ∀ w ∈ u_ws RX5 TX5 10, w ∈ wsX5_leastMending := by decide +kernel
  have hK := hC.1
  unfold f_X5_leastMending_3_b at h
  refine lv_iload hx hb dX5_leastMending_3 (lv_at hl 4 rfl) ?_
  refine lv_iconst (v := 4) hx hb dX5_leastMending_5 (by decide) ?_
  refine lv_icmp_ge (tgt := 116) hx hb dX5_leastMending_6 (by decide) (fun c1 => ?_) (fun c1 => ?_)
  · have h := ifp c1 h
    refine lv_bipush (v := (-9)) hx hb dX5_leastMending_116 (by decide) ?_
    exact W.iret hx hb hr (fun t ht _ => ⟨by cases h; rfl, ht⟩) (fun _ hq => absurd hq List.not_mem_nil) dX5_leastMending_118
  · have h := ifn c1 h
    refine lv_iload hx hb dX5_leastMending_9 (lv_at hl 4 rfl) ?_
    refine lv_aload_n hx hb dX5_leastMending_11 rfl (lv_at hl 0 rfl) ?_
    refine va_get (D := E.1) (ci := 5) (v := .ref a_t_house) (C := RX5) (T := TX5) (N := 10) hx hb hts hiX5 hown hK hP 0 rfl rfl 3 (by decide) (hts (.fieldLink RX5 23 "CasketLines" "house" "LCasketLines$House;") (by decide +kernel)) (fun _ h9 => h9) rfl dX5_leastMending_12 ?_
    refine va_get (D := E.1) (ci := 1) (v := .int x_t_house_caskets) (C := RX1) (T := TX1) (N := 5) hx hb hts hiX1 hown hK hP 1 rfl rfl 1 (by decide) (hts (.fieldLink RX5 84 "CasketLines$House" "caskets" "I") (by decide +kernel)) (fun _ h9 => h9) rfl dX5_leastMending_15 ?_
    refine lv_icmp_ge (tgt := 116) hx hb dX5_leastMending_18 (by decide) (fun c2 => ?_) (fun c2 => ?_)
    · have h := ifp c2 h
      refine lv_bipush (v := (-9)) hx hb dX5_leastMending_116 (by decide) ?_
      exact W.iret hx hb hr (fun t ht _ => ⟨by cases h; rfl, ht⟩) (fun _ hq => absurd hq List.not_mem_nil) dX5_leastMending_118
    · have h := ifn c2 h
      refine lv_bipush (v := 15) hx hb dX5_leastMending_21 (by decide) ?_
      refine lv_iload hx hb dX5_leastMending_23 (lv_at hl 3 rfl) ?_
      refine lv_iconst (v := (-1)) hx hb dX5_leastMending_25 (by decide) ?_
      refine lv_ixor hx hb dX5_leastMending_26 ?_
      refine lv_iand hx hb dX5_leastMending_27 ?_
      refine lv_iconst (v := 1) hx hb dX5_leastMending_28 (by decide) ?_
      refine lv_iload hx hb dX5_leastMending_29 (lv_at hl 4 rfl) ?_
      refine lv_ishl hx hb dX5_leastMending_31 ?_
      refine lv_iconst (v := (-1)) hx hb dX5_leastMending_32 (by decide) ?_
      refine lv_ixor hx hb dX5_leastMending_33 ?_
      refine lv_iand hx hb dX5_leastMending_34 ?_
      obtain ⟨z3, g3, h⟩ := bnd h
      refine lv_topi (fun y3 ey3 => ?_)
      obtain rfl : y3 = z3 := ey3.trans (Option.some.inj g3)
      refine lv_istore (lv' := [(7, .int y3), (0, .ref a_t), (1, .int v1), (3, .long v3), (5, .int v5), (6, .int v6)]) hx hb dX5_leastMending_35 hl (by decide) rfl (fun ls hl => ?_)
      refine lv_lload_n hx hb dX5_leastMending_37 rfl (lv_at hl 3 rfl) ?_
      refine lv_aload_n hx hb dX5_leastMending_38 rfl (lv_at hl 1 rfl) ?_
      refine va_get (D := E.1) (ci := 5) (v := .ref a_t_house) (C := RX5) (T := TX5) (N := 10) hx hb hts hiX5 hown hK hP 0 rfl rfl 3 (by decide) (hts (.fieldLink RX5 23 "CasketLines" "house" "LCasketLines$House;") (by decide +kernel)) (fun _ h9 => h9) rfl dX5_leastMending_39 ?_
      refine lv_aload_n hx hb dX5_leastMending_42 rfl (lv_at hl 1 rfl) ?_
      refine va_get (D := E.1) (ci := 5) (v := .ref a_t_now) (C := RX5) (T := TX5) (N := 10) hx hb hts hiX5 hown hK hP 0 rfl rfl 4 (by decide) (hts (.fieldLink RX5 30 "CasketLines" "now" "LCasketLines$Standing;") (by decide +kernel)) (fun _ h9 => h9) rfl dX5_leastMending_43 ?_
      refine va_get (D := E.1) (ci := 4) (v := .ref a_t_now_lines) (C := RX4) (T := TX4) (N := 6) hx hb hts hiX4 hown hK hP 2 rfl rfl 0 (by decide) (hts (.fieldLink RX5 100 "CasketLines$Standing" "lines" "[I") (by decide +kernel)) (fun _ h9 => h9) rfl dX5_leastMending_46 ?_
      refine lv_iload hx hb dX5_leastMending_49 (lv_at hl 0 rfl) ?_
      obtain ⟨r4, g5, h⟩ := bnd h
      refine rcS (As := [.ref a_t_house, .ref a_t_now_lines, .int y3]) (rest := [.long v3]) ⟨hx, hb, hml, hown, hts⟩ (k_X5_readingsOf (l := l) (E := E) a_t_house a_t_now_lines a_t_house_metals a_t_house_kinds x_t_house_truth x_t_house_caskets x_t_house_wooers 4 r_t_now_lines y3 r4 g5) (va_cwS 3 hts gX5_leastMending_X5_readingsOf rfl rfl rfl (by decide +kernel) ⟨Nat.le_of_ble_eq_true rfl, Nat.le_of_ble_eq_true rfl⟩) hC hP [1, 3] rfl rfl hl.1 rfl (Nat.le_of_ble_eq_true rfl) dX5_leastMending_51 ⟨Nat.zero_le _, Nat.zero_le _⟩ ?_
      refine lv_land hx hb dX5_leastMending_54 ?_
      refine lv_lstore (lv' := [(8, .long (v3 &&& r4)), (7, .int y3), (0, .ref a_t), (1, .int v1), (3, .long v3), (5, .int v5), (6, .int v6)]) hx hb dX5_leastMending_55 hl (by decide) rfl (fun ls hl => ?_)
      refine lv_iconst (v := 0) hx hb dX5_leastMending_57 (by decide) ?_
      refine lv_istore (lv' := [(10, .int 0), (8, .long (v3 &&& r4)), (7, .int y3), (0, .ref a_t), (1, .int v1), (3, .long v3), (5, .int v5), (6, .int v6)]) hx hb dX5_leastMending_58 hl (by decide) rfl (fun ls hl => ?_)
      exact w_X5_leastMending_60 a_t a_t_letters a_t_parser a_t_house a_t_now a_t_spare a_t_acts a_t_slotZero a_t_slotOne a_t_house_metals a_t_house_kinds a_t_now_lines a_t_now_picked x_t_length x_t_seedNow x_t_house_truth x_t_house_caskets x_t_house_wooers x_t_now_picture x_t_now_sung x_t_now_tried x_t_now_wed r_t_now_lines v1 v3 v5 v6 (v3 &&& r4) k3 o_r X hw hk3 200 0 h ls (lv_sub hl [3, 4, 5, 6, 7, 1, 0] rfl)
set_option maxHeartbeats 4000000 in
set_option maxRecDepth 100000 in
theorem w_X5_leastMending_3 {p : Program} {l : Launch} {e : Env} {s : State} {m : MethodId} {args : Array Value} {below : List Frame} {meth : Method} {c : Code} {E : Ev} (a_t a_t_letters a_t_parser a_t_house a_t_now a_t_spare a_t_acts a_t_slotZero a_t_slotOne a_t_house_metals a_t_house_kinds a_t_now_lines a_t_now_picked : Nat) (x_t_length : Int32) (x_t_seedNow : Int64) (x_t_house_truth : Int32) (x_t_house_caskets : Int32) (x_t_house_wooers : Int32) (x_t_now_picture : Int32) (x_t_now_sung : Int32) (x_t_now_tried : Int32) (x_t_now_wed : Int32) (r_t_now_lines : Nat → Int32) (v1 : Int32) (v3 : Int64) (v5 : Int32) (o_r : Int32) (X : Cxt p s m args meth c cX5_leastMending 12 wsX5_leastMending RX5 (some .int)) (hw : wd E [(a_t, .inr (5, [.ref a_t_letters, .int x_t_length, .ref a_t_parser, .ref a_t_house, .ref a_t_now, .ref a_t_spare, .ref a_t_acts, .ref a_t_slotZero, .ref a_t_slotOne, .long x_t_seedNow])), (a_t_house, .inr (1, [.int x_t_house_truth, .int x_t_house_caskets, .int x_t_house_wooers, .ref a_t_house_metals, .ref a_t_house_kinds])), (a_t_now, .inr (4, [.ref a_t_now_lines, .int x_t_now_picture, .int x_t_now_sung, .int x_t_now_tried, .int x_t_now_wed, .ref a_t_now_picked])), (a_t_now_lines, .inl (E.2.1, 4, .inl r_t_now_lines))] s s.heap) : ∀ (n : Nat) (v6 : Int32), f_X5_leastMending_3 x_t_house_truth x_t_house_caskets r_t_now_lines v1 v3 v5 n v6 = some o_r → ∀ (ls : Array Slot), lv_has ls 12 [(0, .ref a_t), (1, .int v1), (3, .long v3), (5, .int v5), (6, .int v6)] → W p l e { frames := 3, cells := 0, slots := 0, locals := 73 } s m args below meth c s.heap [] 0 0 (MQ below (Qr (some (.int o_r))) args s 0 0 (fun _ => False)) (F0 m 3 ls []) := by
  intro n
  induction n with
  | zero =>
    intro v6 h
    exact (rk_z _ _ h).elim
  | succ n ih =>
    intro v6 h ls hl
    exact w_X5_leastMending_3_b a_t a_t_letters a_t_parser a_t_house a_t_now a_t_spare a_t_acts a_t_slotZero a_t_slotOne a_t_house_metals a_t_house_kinds a_t_now_lines a_t_now_picked x_t_length x_t_seedNow x_t_house_truth x_t_house_caskets x_t_house_wooers x_t_now_picture x_t_now_sung x_t_now_tried x_t_now_wed r_t_now_lines v1 v3 v5  o_r X hw  (rk (fun k x => f_X5_leastMending_3_b x_t_house_truth x_t_house_caskets r_t_now_lines v1 v3 v5  k x) n) (fun v6 hh => ih v6 hh) v6 h hl
set_option maxHeartbeats 4000000 in
set_option maxRecDepth 100000 in
theorem w_X5_leastMending {p : Program} {l : Launch} {e : Env} {s : State} {m : MethodId} {args : Array Value} {below : List Frame} {meth : Method} {c : Code} {E : Ev} (a_t a_t_letters a_t_parser a_t_house a_t_now a_t_spare a_t_acts a_t_slotZero a_t_slotOne a_t_house_metals a_t_house_kinds a_t_now_lines a_t_now_picked : Nat) (x_t_length : Int32) (x_t_seedNow : Int64) (x_t_house_truth : Int32) (x_t_house_caskets : Int32) (x_t_house_wooers : Int32) (x_t_now_picture : Int32) (x_t_now_sung : Int32) (x_t_now_tried : Int32) (x_t_now_wed : Int32) (r_t_now_lines : Nat → Int32) (p1 : Int32) (p2 : Int32) (p3 : Int64) (p4 : Int32) (o_r : Int32) (X : Cxt p s m args meth c cX5_leastMending 12 wsX5_leastMending RX5 (some .int)) (hw : wd E [(a_t, .inr (5, [.ref a_t_letters, .int x_t_length, .ref a_t_parser, .ref a_t_house, .ref a_t_now, .ref a_t_spare, .ref a_t_acts, .ref a_t_slotZero, .ref a_t_slotOne, .long x_t_seedNow])), (a_t_house, .inr (1, [.int x_t_house_truth, .int x_t_house_caskets, .int x_t_house_wooers, .ref a_t_house_metals, .ref a_t_house_kinds])), (a_t_now, .inr (4, [.ref a_t_now_lines, .int x_t_now_picture, .int x_t_now_sung, .int x_t_now_tried, .int x_t_now_wed, .ref a_t_now_picked])), (a_t_now_lines, .inl (E.2.1, 4, .inl r_t_now_lines))] s s.heap) (h : f_X5_leastMending x_t_house_truth x_t_house_caskets r_t_now_lines p1 p2 p3 p4 = some o_r) {ls : Array Slot} (hl : lv_has ls 12 [(0, .ref a_t), (1, .int p1), (2, .int p2), (3, .long p3), (5, .int p4)]) : W p l e { frames := 3, cells := 0, slots := 0, locals := 73 } s m args below meth c s.heap [] 0 0 (MQ below (Qr (some (.int o_r))) args s 0 0 (fun _ => False)) (F0 m 0 ls []) := by
  obtain ⟨⟨hx, hb, hml, hown, hts⟩, hr, hlocks⟩ := id X
  obtain ⟨hC, hP⟩ := id hw
  have hiX1 : ∀ w ∈ u_ws RX1 TX1 5, w ∈ wsX5_leastMending := by decide +kernel
  have hiX4 : ∀ w ∈ u_ws RX4 TX4 6, w ∈ wsX5_leastMending := by decide +kernel
  have hiX5 : ∀ w ∈ u_ws RX5 TX5 10, w ∈ wsX5_leastMending := by decide +kernel
  have hK := hC.1
  unfold f_X5_leastMending at h
  refine lv_iload_n hx hb dX5_leastMending_0 rfl (lv_at hl 2 rfl) ?_
  refine lv_istore (lv' := [(6, .int p2), (0, .ref a_t), (1, .int p1), (2, .int p2), (3, .long p3), (5, .int p4)]) hx hb dX5_leastMending_1 hl (by decide) rfl (fun ls hl => ?_)
  exact w_X5_leastMending_3 a_t a_t_letters a_t_parser a_t_house a_t_now a_t_spare a_t_acts a_t_slotZero a_t_slotOne a_t_house_metals a_t_house_kinds a_t_now_lines a_t_now_picked x_t_length x_t_seedNow x_t_house_truth x_t_house_caskets x_t_house_wooers x_t_now_picture x_t_now_sung x_t_now_tried x_t_now_wed r_t_now_lines p1 p3 p4  o_r X hw  200 p2 h ls (lv_sub hl [1, 2, 4, 5, 0] rfl)
set_option maxHeartbeats 4000000 in
set_option maxRecDepth 100000 in
theorem k_X5_leastMending {l : Launch} {E : Ev} (a_t a_t_letters a_t_parser a_t_house a_t_now a_t_spare a_t_acts a_t_slotZero a_t_slotOne a_t_house_metals a_t_house_kinds a_t_now_lines a_t_now_picked : Nat) (x_t_length : Int32) (x_t_seedNow : Int64) (x_t_house_truth : Int32) (x_t_house_caskets : Int32) (x_t_house_wooers : Int32) (x_t_now_picture : Int32) (x_t_now_sung : Int32) (x_t_now_tried : Int32) (x_t_now_wed : Int32) (r_t_now_lines : Nat → Int32) (p1 : Int32) (p2 : Int32) (p3 : Int64) (p4 : Int32) (o_r : Int32) (hf : f_X5_leastMending x_t_house_truth x_t_house_caskets r_t_now_lines p1 p2 p3 p4 = some o_r) : Met l yX5_leastMending wsX5_leastMending ({ frames := 3, cells := 0, slots := 0, locals := 73 }) (Pr E [.ref a_t, .int p1, .int p2, .long p3, .int p4] [(a_t, .inr (5, [.ref a_t_letters, .int x_t_length, .ref a_t_parser, .ref a_t_house, .ref a_t_now, .ref a_t_spare, .ref a_t_acts, .ref a_t_slotZero, .ref a_t_slotOne, .long x_t_seedNow])), (a_t_house, .inr (1, [.int x_t_house_truth, .int x_t_house_caskets, .int x_t_house_wooers, .ref a_t_house_metals, .ref a_t_house_kinds])), (a_t_now, .inr (4, [.ref a_t_now_lines, .int x_t_now_picture, .int x_t_now_sung, .int x_t_now_tried, .int x_t_now_wed, .ref a_t_now_picked])), (a_t_now_lines, .inl (E.2.1, 4, .inl r_t_now_lines))]) (Qr (some (.int o_r))) 0 0 (fun _ => False) := by
  refine Met.ofW (cc := cX5_leastMending) (maxL := 12) (ret := (some .int)) (by decide) rfl ?_
  intro p e s m args below meth c s₁ B hml hv
  obtain ⟨rfl, hw⟩ := hv
  have X := Cxt.of B hml
  have hl := lv_entry ([.ref a_t, .int p1, .int p2, .long p3, .int p4]) (n := 12) (Nat.le_of_ble_eq_true rfl)
  rw [lg_entry_eq]
  exact w_X5_leastMending a_t a_t_letters a_t_parser a_t_house a_t_now a_t_spare a_t_acts a_t_slotZero a_t_slotOne a_t_house_metals a_t_house_kinds a_t_now_lines a_t_now_picked x_t_length x_t_seedNow x_t_house_truth x_t_house_caskets x_t_house_wooers x_t_now_picture x_t_now_sung x_t_now_tried x_t_now_wed r_t_now_lines p1 p2 p3 p4 o_r X hw hf hl
set_option maxHeartbeats 4000000 in
set_option maxRecDepth 100000 in
theorem w_X5_leastTwoMendings_20_b {p : Program} {l : Launch} {e : Env} {s : State} {m : MethodId} {args : Array Value} {below : List Frame} {meth : Method} {c : Code} {E : Ev} (a_t a_t_letters a_t_parser a_t_house a_t_now a_t_spare a_t_acts a_t_slotZero a_t_slotOne a_t_house_metals a_t_house_kinds a_t_now_lines a_t_now_picked : Nat) (x_t_length : Int32) (x_t_seedNow : Int64) (x_t_house_truth : Int32) (x_t_house_caskets : Int32) (x_t_house_wooers : Int32) (x_t_now_picture : Int32) (x_t_now_sung : Int32) (x_t_now_tried : Int32) (x_t_now_wed : Int32) (r_t_now_lines : Nat → Int32) (v1 : Int32) (v2 : Int32) (k2 : Int32 → Option (Int32)) (o_r : Int32) (X : Cxt p s m args meth c cX5_leastTwoMendings 7 wsX5_leastTwoMendings RX5 (some .int)) (hw : wd E [(a_t, .inr (5, [.ref a_t_letters, .int x_t_length, .ref a_t_parser, .ref a_t_house, .ref a_t_now, .ref a_t_spare, .ref a_t_acts, .ref a_t_slotZero, .ref a_t_slotOne, .long x_t_seedNow])), (a_t_house, .inr (1, [.int x_t_house_truth, .int x_t_house_caskets, .int x_t_house_wooers, .ref a_t_house_metals, .ref a_t_house_kinds])), (a_t_now, .inr (4, [.ref a_t_now_lines, .int x_t_now_picture, .int x_t_now_sung, .int x_t_now_tried, .int x_t_now_wed, .ref a_t_now_picked])), (a_t_now_lines, .inl (E.2.1, 4, .inl r_t_now_lines))] s s.heap) (hk2 : ∀ (v2 : Int32), k2 v2 = some o_r → ∀ (ls : Array Slot), lv_has ls 7 [(0, .ref a_t), (1, .int v1), (2, .int v2)] → W p l e { frames := 4, cells := 0, slots := 0, locals := 104 } s m args below meth c s.heap [] 0 0 (MQ below (Qr (some (.int o_r))) args s 0 0 (fun _ => False)) (F0 m 2 ls [])) (k20 : Int32 → Option (Int32)) (hk20 : ∀ (v3 : Int32), k20 v3 = some o_r → ∀ (ls : Array Slot), lv_has ls 7 [(0, .ref a_t), (1, .int v1), (2, .int v2), (3, .int v3)] → W p l e { frames := 4, cells := 0, slots := 0, locals := 104 } s m args below meth c s.heap [] 0 0 (MQ below (Qr (some (.int o_r))) args s 0 0 (fun _ => False)) (F0 m 20 ls [])) (v3 : Int32) (h : f_X5_leastTwoMendings_20_b x_t_house_truth x_t_house_caskets r_t_now_lines v1 v2 k2 k20 v3 = some o_r) {ls : Array Slot} (hl : lv_has ls 7 [(0, .ref a_t), (1, .int v1), (2, .int v2), (3, .int v3)]) : W p l e { frames := 4, cells := 0, slots := 0, locals := 104 } s m args below meth c s.heap [] 0 0 (MQ below (Qr (some (.int o_r))) args s 0 0 (fun _ => False)) (F0 m 20 ls []) := by
  obtain ⟨⟨hx, hb, hml, hown, hts⟩, hr, hlocks⟩ := id X
  obtain ⟨hC, hP⟩ := id hw
  have hiX1 : ∀ w ∈ u_ws RX1 TX1 5, w ∈ wsX5_leastTwoMendings := by decide +kernel
  have hiX4 : ∀ w ∈ u_ws RX4 TX4 6, w ∈ wsX5_leastTwoMendings := by decide +kernel
  have hiX5 : ∀ w ∈ u_ws RX5 TX5 10, w ∈ wsX5_leastTwoMendings := by decide +kernel
  have hK := hC.1
  unfold f_X5_leastTwoMendings_20_b at h
  refine lv_iload_n hx hb dX5_leastTwoMendings_20 rfl (lv_at hl 3 rfl) ?_
  refine lv_bipush (v := 24) hx hb dX5_leastTwoMendings_21 (by decide) ?_
  refine lv_icmp_ge (tgt := 78) hx hb dX5_leastTwoMendings_23 (by decide) (fun c3 => ?_) (fun c3 => ?_)
  · have h := ifp c3 h
    refine lv_iinc (v := (v2 + 1)) (lv' := [(2, .int (v2 + 1)), (0, .ref a_t), (1, .int v1), (3, .int v3)]) hx hb dX5_leastTwoMendings_78 hl (k := 2) rfl rfl (by decide) rfl (fun ls hl => ?_)
    refine lv_goto (tgt := 2) hx hb dX5_leastTwoMendings_81 (by decide) ?_
    exact hk2 (v2 + 1) h ls (lv_sub hl [1, 2, 0] rfl)
  · have h := ifn c3 h
    refine lv_iload_n hx hb dX5_leastTwoMendings_26 rfl (lv_at hl 2 rfl) ?_
    refine lv_iload_n hx hb dX5_leastTwoMendings_27 rfl (lv_at hl 3 rfl) ?_
    obtain ⟨r4, g5, h⟩ := bnd h
    refine rcS (As := [.int v2, .int v3]) (rest := []) ⟨hx, hb, hml, hown, hts⟩ (k_X5_agreeing (l := l) (E := E) v2 v3 r4 g5) (va_cwS 2 hts gX5_leastTwoMendings_X5_agreeing rfl rfl rfl (by decide +kernel) ⟨Nat.le_of_ble_eq_true rfl, Nat.le_of_ble_eq_true rfl⟩) hC hP [] rfl rfl hl.1 rfl (Nat.le_of_ble_eq_true rfl) dX5_leastTwoMendings_28 ⟨Nat.zero_le _, Nat.zero_le _⟩ ?_
    refine lv_lstore (lv' := [(4, .long r4), (0, .ref a_t), (1, .int v1), (2, .int v2), (3, .int v3)]) hx hb dX5_leastTwoMendings_31 hl (by decide) rfl (fun ls hl => ?_)
    refine lv_aload_n hx hb dX5_leastTwoMendings_33 rfl (lv_at hl 1 rfl) ?_
    refine lv_iload_n hx hb dX5_leastTwoMendings_34 rfl (lv_at hl 2 rfl) ?_
    refine lv_iload_n hx hb dX5_leastTwoMendings_35 rfl (lv_at hl 3 rfl) ?_
    refine lv_iconst (v := 1) hx hb dX5_leastTwoMendings_36 (by decide) ?_
    refine lv_iadd hx hb dX5_leastTwoMendings_37 ?_
    refine lv_lload hx hb dX5_leastTwoMendings_38 (lv_at hl 0 rfl) ?_
    refine lv_iconst (v := 1) hx hb dX5_leastTwoMendings_40 (by decide) ?_
    refine lv_iload_n hx hb dX5_leastTwoMendings_41 rfl (lv_at hl 3 rfl) ?_
    refine lv_ishl hx hb dX5_leastTwoMendings_42 ?_
    obtain ⟨r6, g7, h⟩ := bnd h
    refine rcV (As := [.int v1, .int (v2 + 1), .long r4, .int ((1 : Int32) <<< (v2 &&& 31))]) (rest := []) ⟨hx, hb, hml, hown, hts⟩ (k_X5_leastMending (l := l) (E := E) a_t a_t_letters a_t_parser a_t_house a_t_now a_t_spare a_t_acts a_t_slotZero a_t_slotOne a_t_house_metals a_t_house_kinds a_t_now_lines a_t_now_picked x_t_length x_t_seedNow x_t_house_truth x_t_house_caskets x_t_house_wooers x_t_now_picture x_t_now_sung x_t_now_tried x_t_now_wed r_t_now_lines v1 (v2 + 1) r4 ((1 : Int32) <<< (v2 &&& 31)) r6 g7) (cwV 4 hts gX5_leastTwoMendings_X5_leastMending rfl rfl rfl (by decide +kernel) ⟨Nat.le_of_ble_eq_true rfl, Nat.le_of_ble_eq_true rfl⟩) hC hP [0, 1, 2, 3] rfl 0 5 rfl rfl rfl rfl hl.1 rfl (Nat.le_of_ble_eq_true rfl) dX5_leastTwoMendings_43 ⟨Nat.zero_le _, Nat.zero_le _⟩ ?_
    refine lv_istore (lv' := [(6, .int r6), (4, .long r4), (0, .ref a_t), (1, .int v1), (2, .int v2), (3, .int v3)]) hx hb dX5_leastTwoMendings_46 hl (by decide) rfl (fun ls hl => ?_)
    refine lv_iload hx hb dX5_leastTwoMendings_48 (lv_at hl 0 rfl) ?_
    refine lv_bipush (v := (-9)) hx hb dX5_leastTwoMendings_50 (by decide) ?_
    refine lv_icmp_eq (tgt := 72) hx hb dX5_leastTwoMendings_52 (by decide) (fun c8 => ?_) (fun c8 => ?_)
    · have h := ifp c8 h
      refine lv_iinc (v := (v3 + 1)) (lv' := [(3, .int (v3 + 1)), (6, .int r6), (4, .long r4), (0, .ref a_t), (1, .int v1), (2, .int v2)]) hx hb dX5_leastTwoMendings_72 hl (k := 5) rfl rfl (by decide) rfl (fun ls hl => ?_)
      refine lv_goto (tgt := 20) hx hb dX5_leastTwoMendings_75 (by decide) ?_
      exact hk20 (v3 + 1) h ls (lv_sub hl [3, 4, 5, 0] rfl)
    · have h := ifn c8 h
      refine lv_sipush (v := 1000) hx hb dX5_leastTwoMendings_55 (by decide) ?_
      refine lv_bipush (v := 100) hx hb dX5_leastTwoMendings_58 (by decide) ?_
      refine lv_iload_n hx hb dX5_leastTwoMendings_60 rfl (lv_at hl 4 rfl) ?_
      refine lv_imul hx hb dX5_leastTwoMendings_61 ?_
      refine lv_iload_n hx hb dX5_leastTwoMendings_62 rfl (lv_at hl 5 rfl) ?_
      obtain ⟨r9, g10, h⟩ := bnd h
      refine rcS (As := [.int v3]) (rest := [.int (100 * v2), .int 1000]) ⟨hx, hb, hml, hown, hts⟩ (k_X5_figuresOf (l := l) (E := E) v3 r9 g10) (va_cwS 1 hts gX5_leastTwoMendings_X5_figuresOf rfl rfl rfl (by decide +kernel) ⟨Nat.le_of_ble_eq_true rfl, Nat.le_of_ble_eq_true rfl⟩) hC hP [] rfl rfl hl.1 rfl (Nat.le_of_ble_eq_true rfl) dX5_leastTwoMendings_63 ⟨Nat.zero_le _, Nat.zero_le _⟩ ?_
      refine lv_iadd hx hb dX5_leastTwoMendings_66 ?_
      refine lv_imul hx hb dX5_leastTwoMendings_67 ?_
      refine lv_iload hx hb dX5_leastTwoMendings_68 (lv_at hl 0 rfl) ?_
      refine lv_iadd hx hb dX5_leastTwoMendings_70 ?_
      exact W.iret hx hb hr (fun t ht _ => ⟨by cases h; rfl, ht⟩) (fun _ hq => absurd hq List.not_mem_nil) dX5_leastTwoMendings_71
set_option maxHeartbeats 4000000 in
set_option maxRecDepth 100000 in
theorem w_X5_leastTwoMendings_20 {p : Program} {l : Launch} {e : Env} {s : State} {m : MethodId} {args : Array Value} {below : List Frame} {meth : Method} {c : Code} {E : Ev} (a_t a_t_letters a_t_parser a_t_house a_t_now a_t_spare a_t_acts a_t_slotZero a_t_slotOne a_t_house_metals a_t_house_kinds a_t_now_lines a_t_now_picked : Nat) (x_t_length : Int32) (x_t_seedNow : Int64) (x_t_house_truth : Int32) (x_t_house_caskets : Int32) (x_t_house_wooers : Int32) (x_t_now_picture : Int32) (x_t_now_sung : Int32) (x_t_now_tried : Int32) (x_t_now_wed : Int32) (r_t_now_lines : Nat → Int32) (v1 : Int32) (v2 : Int32) (k2 : Int32 → Option (Int32)) (o_r : Int32) (X : Cxt p s m args meth c cX5_leastTwoMendings 7 wsX5_leastTwoMendings RX5 (some .int)) (hw : wd E [(a_t, .inr (5, [.ref a_t_letters, .int x_t_length, .ref a_t_parser, .ref a_t_house, .ref a_t_now, .ref a_t_spare, .ref a_t_acts, .ref a_t_slotZero, .ref a_t_slotOne, .long x_t_seedNow])), (a_t_house, .inr (1, [.int x_t_house_truth, .int x_t_house_caskets, .int x_t_house_wooers, .ref a_t_house_metals, .ref a_t_house_kinds])), (a_t_now, .inr (4, [.ref a_t_now_lines, .int x_t_now_picture, .int x_t_now_sung, .int x_t_now_tried, .int x_t_now_wed, .ref a_t_now_picked])), (a_t_now_lines, .inl (E.2.1, 4, .inl r_t_now_lines))] s s.heap) (hk2 : ∀ (v2 : Int32), k2 v2 = some o_r → ∀ (ls : Array Slot), lv_has ls 7 [(0, .ref a_t), (1, .int v1), (2, .int v2)] → W p l e { frames := 4, cells := 0, slots := 0, locals := 104 } s m args below meth c s.heap [] 0 0 (MQ below (Qr (some (.int o_r))) args s 0 0 (fun _ => False)) (F0 m 2 ls [])) : ∀ (n : Nat) (v3 : Int32), f_X5_leastTwoMendings_20 x_t_house_truth x_t_house_caskets r_t_now_lines v1 v2 k2 n v3 = some o_r → ∀ (ls : Array Slot), lv_has ls 7 [(0, .ref a_t), (1, .int v1), (2, .int v2), (3, .int v3)] → W p l e { frames := 4, cells := 0, slots := 0, locals := 104 } s m args below meth c s.heap [] 0 0 (MQ below (Qr (some (.int o_r))) args s 0 0 (fun _ => False)) (F0 m 20 ls []) := by
  intro n
  induction n with
  | zero =>
    intro v3 h
    exact (rk_z _ _ h).elim
  | succ n ih =>
    intro v3 h ls hl
    exact w_X5_leastTwoMendings_20_b a_t a_t_letters a_t_parser a_t_house a_t_now a_t_spare a_t_acts a_t_slotZero a_t_slotOne a_t_house_metals a_t_house_kinds a_t_now_lines a_t_now_picked x_t_length x_t_seedNow x_t_house_truth x_t_house_caskets x_t_house_wooers x_t_now_picture x_t_now_sung x_t_now_tried x_t_now_wed r_t_now_lines v1 v2 k2 o_r X hw hk2 (rk (fun k x => f_X5_leastTwoMendings_20_b x_t_house_truth x_t_house_caskets r_t_now_lines v1 v2 k2 k x) n) (fun v3 hh => ih v3 hh) v3 h hl
set_option maxHeartbeats 4000000 in
set_option maxRecDepth 100000 in
theorem w_X5_leastTwoMendings_2_b {p : Program} {l : Launch} {e : Env} {s : State} {m : MethodId} {args : Array Value} {below : List Frame} {meth : Method} {c : Code} {E : Ev} (a_t a_t_letters a_t_parser a_t_house a_t_now a_t_spare a_t_acts a_t_slotZero a_t_slotOne a_t_house_metals a_t_house_kinds a_t_now_lines a_t_now_picked : Nat) (x_t_length : Int32) (x_t_seedNow : Int64) (x_t_house_truth : Int32) (x_t_house_caskets : Int32) (x_t_house_wooers : Int32) (x_t_now_picture : Int32) (x_t_now_sung : Int32) (x_t_now_tried : Int32) (x_t_now_wed : Int32) (r_t_now_lines : Nat → Int32) (v1 : Int32) (o_r : Int32) (X : Cxt p s m args meth c cX5_leastTwoMendings 7 wsX5_leastTwoMendings RX5 (some .int)) (hw : wd E [(a_t, .inr (5, [.ref a_t_letters, .int x_t_length, .ref a_t_parser, .ref a_t_house, .ref a_t_now, .ref a_t_spare, .ref a_t_acts, .ref a_t_slotZero, .ref a_t_slotOne, .long x_t_seedNow])), (a_t_house, .inr (1, [.int x_t_house_truth, .int x_t_house_caskets, .int x_t_house_wooers, .ref a_t_house_metals, .ref a_t_house_kinds])), (a_t_now, .inr (4, [.ref a_t_now_lines, .int x_t_now_picture, .int x_t_now_sung, .int x_t_now_tried, .int x_t_now_wed, .ref a_t_now_picked])), (a_t_now_lines, .inl (E.2.1, 4, .inl r_t_now_lines))] s s.heap) (k2 : Int32 → Option (Int32)) (hk2 : ∀ (v2 : Int32), k2 v2 = some o_r → ∀ (ls : Array Slot), lv_has ls 7 [(0, .ref a_t), (1, .int v1), (2, .int v2)] → W p l e { frames := 4, cells := 0, slots := 0, locals := 104 } s m args below meth c s.heap [] 0 0 (MQ below (Qr (some (.int o_r))) args s 0 0 (fun _ => False)) (F0 m 2 ls [])) (v2 : Int32) (h : f_X5_leastTwoMendings_2_b x_t_house_truth x_t_house_caskets r_t_now_lines v1 k2 v2 = some o_r) {ls : Array Slot} (hl : lv_has ls 7 [(0, .ref a_t), (1, .int v1), (2, .int v2)]) : W p l e { frames := 4, cells := 0, slots := 0, locals := 104 } s m args below meth c s.heap [] 0 0 (MQ below (Qr (some (.int o_r))) args s 0 0 (fun _ => False)) (F0 m 2 ls []) := by
  obtain ⟨⟨hx, hb, hml, hown, hts⟩, hr, hlocks⟩ := id X
  obtain ⟨hC, hP⟩ := id hw
  have hiX1 : ∀ w ∈ u_ws RX1 TX1 5, w ∈ wsX5_leastTwoMendings := by decide +kernel
  have hiX4 : ∀ w ∈ u_ws RX4 TX4 6, w ∈ wsX5_leastTwoMendings := by decide +kernel
  have hiX5 : ∀ w ∈ u_ws RX5 TX5 10, w ∈ wsX5_leastTwoMendings := by decide +kernel
  have hK := hC.1
  unfold f_X5_leastTwoMendings_2_b at h
  refine lv_iload_n hx hb dX5_leastTwoMendings_2 rfl (lv_at hl 2 rfl) ?_
  refine lv_iconst (v := 4) hx hb dX5_leastTwoMendings_3 (by decide) ?_
  refine lv_icmp_ge (tgt := 84) hx hb dX5_leastTwoMendings_4 (by decide) (fun c1 => ?_) (fun c1 => ?_)
  · have h := ifp c1 h
    refine lv_bipush (v := (-9)) hx hb dX5_leastTwoMendings_84 (by decide) ?_
    exact W.iret hx hb hr (fun t ht _ => ⟨by cases h; rfl, ht⟩) (fun _ hq => absurd hq List.not_mem_nil) dX5_leastTwoMendings_86
  · have h := ifn c1 h
    refine lv_iload_n hx hb dX5_leastTwoMendings_7 rfl (lv_at hl 2 rfl) ?_
    refine lv_aload_n hx hb dX5_leastTwoMendings_8 rfl (lv_at hl 0 rfl) ?_
    refine va_get (D := E.1) (ci := 5) (v := .ref a_t_house) (C := RX5) (T := TX5) (N := 10) hx hb hts hiX5 hown hK hP 0 rfl rfl 3 (by decide) (hts (.fieldLink RX5 23 "CasketLines" "house" "LCasketLines$House;") (by decide +kernel)) (fun _ h9 => h9) rfl dX5_leastTwoMendings_9 ?_
    refine va_get (D := E.1) (ci := 1) (v := .int x_t_house_caskets) (C := RX1) (T := TX1) (N := 5) hx hb hts hiX1 hown hK hP 1 rfl rfl 1 (by decide) (hts (.fieldLink RX5 84 "CasketLines$House" "caskets" "I") (by decide +kernel)) (fun _ h9 => h9) rfl dX5_leastTwoMendings_12 ?_
    refine lv_icmp_ge (tgt := 84) hx hb dX5_leastTwoMendings_15 (by decide) (fun c2 => ?_) (fun c2 => ?_)
    · have h := ifp c2 h
      refine lv_bipush (v := (-9)) hx hb dX5_leastTwoMendings_84 (by decide) ?_
      exact W.iret hx hb hr (fun t ht _ => ⟨by cases h; rfl, ht⟩) (fun _ hq => absurd hq List.not_mem_nil) dX5_leastTwoMendings_86
    · have h := ifn c2 h
      refine lv_iconst (v := 0) hx hb dX5_leastTwoMendings_18 (by decide) ?_
      refine lv_istore_n (lv' := [(3, .int 0), (0, .ref a_t), (1, .int v1), (2, .int v2)]) hx hb dX5_leastTwoMendings_19 rfl hl (by decide) rfl (fun ls hl => ?_)
      exact w_X5_leastTwoMendings_20 a_t a_t_letters a_t_parser a_t_house a_t_now a_t_spare a_t_acts a_t_slotZero a_t_slotOne a_t_house_metals a_t_house_kinds a_t_now_lines a_t_now_picked x_t_length x_t_seedNow x_t_house_truth x_t_house_caskets x_t_house_wooers x_t_now_picture x_t_now_sung x_t_now_tried x_t_now_wed r_t_now_lines v1 v2 k2 o_r X hw hk2 200 0 h ls (lv_sub hl [1, 2, 3, 0] rfl)
set_option maxHeartbeats 4000000 in
set_option maxRecDepth 100000 in
theorem w_X5_leastTwoMendings_2 {p : Program} {l : Launch} {e : Env} {s : State} {m : MethodId} {args : Array Value} {below : List Frame} {meth : Method} {c : Code} {E : Ev} (a_t a_t_letters a_t_parser a_t_house a_t_now a_t_spare a_t_acts a_t_slotZero a_t_slotOne a_t_house_metals a_t_house_kinds a_t_now_lines a_t_now_picked : Nat) (x_t_length : Int32) (x_t_seedNow : Int64) (x_t_house_truth : Int32) (x_t_house_caskets : Int32) (x_t_house_wooers : Int32) (x_t_now_picture : Int32) (x_t_now_sung : Int32) (x_t_now_tried : Int32) (x_t_now_wed : Int32) (r_t_now_lines : Nat → Int32) (v1 : Int32) (o_r : Int32) (X : Cxt p s m args meth c cX5_leastTwoMendings 7 wsX5_leastTwoMendings RX5 (some .int)) (hw : wd E [(a_t, .inr (5, [.ref a_t_letters, .int x_t_length, .ref a_t_parser, .ref a_t_house, .ref a_t_now, .ref a_t_spare, .ref a_t_acts, .ref a_t_slotZero, .ref a_t_slotOne, .long x_t_seedNow])), (a_t_house, .inr (1, [.int x_t_house_truth, .int x_t_house_caskets, .int x_t_house_wooers, .ref a_t_house_metals, .ref a_t_house_kinds])), (a_t_now, .inr (4, [.ref a_t_now_lines, .int x_t_now_picture, .int x_t_now_sung, .int x_t_now_tried, .int x_t_now_wed, .ref a_t_now_picked])), (a_t_now_lines, .inl (E.2.1, 4, .inl r_t_now_lines))] s s.heap) : ∀ (n : Nat) (v2 : Int32), f_X5_leastTwoMendings_2 x_t_house_truth x_t_house_caskets r_t_now_lines v1 n v2 = some o_r → ∀ (ls : Array Slot), lv_has ls 7 [(0, .ref a_t), (1, .int v1), (2, .int v2)] → W p l e { frames := 4, cells := 0, slots := 0, locals := 104 } s m args below meth c s.heap [] 0 0 (MQ below (Qr (some (.int o_r))) args s 0 0 (fun _ => False)) (F0 m 2 ls []) := by
  intro n
  induction n with
  | zero =>
    intro v2 h
    exact (rk_z _ _ h).elim
  | succ n ih =>
    intro v2 h ls hl
    exact w_X5_leastTwoMendings_2_b a_t a_t_letters a_t_parser a_t_house a_t_now a_t_spare a_t_acts a_t_slotZero a_t_slotOne a_t_house_metals a_t_house_kinds a_t_now_lines a_t_now_picked x_t_length x_t_seedNow x_t_house_truth x_t_house_caskets x_t_house_wooers x_t_now_picture x_t_now_sung x_t_now_tried x_t_now_wed r_t_now_lines v1  o_r X hw  (rk (fun k x => f_X5_leastTwoMendings_2_b x_t_house_truth x_t_house_caskets r_t_now_lines v1  k x) n) (fun v2 hh => ih v2 hh) v2 h hl
set_option maxHeartbeats 4000000 in
set_option maxRecDepth 100000 in
theorem w_X5_leastTwoMendings {p : Program} {l : Launch} {e : Env} {s : State} {m : MethodId} {args : Array Value} {below : List Frame} {meth : Method} {c : Code} {E : Ev} (a_t a_t_letters a_t_parser a_t_house a_t_now a_t_spare a_t_acts a_t_slotZero a_t_slotOne a_t_house_metals a_t_house_kinds a_t_now_lines a_t_now_picked : Nat) (x_t_length : Int32) (x_t_seedNow : Int64) (x_t_house_truth : Int32) (x_t_house_caskets : Int32) (x_t_house_wooers : Int32) (x_t_now_picture : Int32) (x_t_now_sung : Int32) (x_t_now_tried : Int32) (x_t_now_wed : Int32) (r_t_now_lines : Nat → Int32) (p1 : Int32) (o_r : Int32) (X : Cxt p s m args meth c cX5_leastTwoMendings 7 wsX5_leastTwoMendings RX5 (some .int)) (hw : wd E [(a_t, .inr (5, [.ref a_t_letters, .int x_t_length, .ref a_t_parser, .ref a_t_house, .ref a_t_now, .ref a_t_spare, .ref a_t_acts, .ref a_t_slotZero, .ref a_t_slotOne, .long x_t_seedNow])), (a_t_house, .inr (1, [.int x_t_house_truth, .int x_t_house_caskets, .int x_t_house_wooers, .ref a_t_house_metals, .ref a_t_house_kinds])), (a_t_now, .inr (4, [.ref a_t_now_lines, .int x_t_now_picture, .int x_t_now_sung, .int x_t_now_tried, .int x_t_now_wed, .ref a_t_now_picked])), (a_t_now_lines, .inl (E.2.1, 4, .inl r_t_now_lines))] s s.heap) (h : f_X5_leastTwoMendings x_t_house_truth x_t_house_caskets r_t_now_lines p1 = some o_r) {ls : Array Slot} (hl : lv_has ls 7 [(0, .ref a_t), (1, .int p1)]) : W p l e { frames := 4, cells := 0, slots := 0, locals := 104 } s m args below meth c s.heap [] 0 0 (MQ below (Qr (some (.int o_r))) args s 0 0 (fun _ => False)) (F0 m 0 ls []) := by
  obtain ⟨⟨hx, hb, hml, hown, hts⟩, hr, hlocks⟩ := id X
  obtain ⟨hC, hP⟩ := id hw
  have hiX1 : ∀ w ∈ u_ws RX1 TX1 5, w ∈ wsX5_leastTwoMendings := by decide +kernel
  have hiX4 : ∀ w ∈ u_ws RX4 TX4 6, w ∈ wsX5_leastTwoMendings := by decide +kernel
  have hiX5 : ∀ w ∈ u_ws RX5 TX5 10, w ∈ wsX5_leastTwoMendings := by decide +kernel
  have hK := hC.1
  unfold f_X5_leastTwoMendings at h
  refine lv_iconst (v := 0) hx hb dX5_leastTwoMendings_0 (by decide) ?_
  refine lv_istore_n (lv' := [(2, .int 0), (0, .ref a_t), (1, .int p1)]) hx hb dX5_leastTwoMendings_1 rfl hl (by decide) rfl (fun ls hl => ?_)
  exact w_X5_leastTwoMendings_2 a_t a_t_letters a_t_parser a_t_house a_t_now a_t_spare a_t_acts a_t_slotZero a_t_slotOne a_t_house_metals a_t_house_kinds a_t_now_lines a_t_now_picked x_t_length x_t_seedNow x_t_house_truth x_t_house_caskets x_t_house_wooers x_t_now_picture x_t_now_sung x_t_now_tried x_t_now_wed r_t_now_lines p1  o_r X hw  200 0 h ls (lv_sub hl [1, 2, 0] rfl)
set_option maxHeartbeats 4000000 in
set_option maxRecDepth 100000 in
theorem k_X5_leastTwoMendings {l : Launch} {E : Ev} (a_t a_t_letters a_t_parser a_t_house a_t_now a_t_spare a_t_acts a_t_slotZero a_t_slotOne a_t_house_metals a_t_house_kinds a_t_now_lines a_t_now_picked : Nat) (x_t_length : Int32) (x_t_seedNow : Int64) (x_t_house_truth : Int32) (x_t_house_caskets : Int32) (x_t_house_wooers : Int32) (x_t_now_picture : Int32) (x_t_now_sung : Int32) (x_t_now_tried : Int32) (x_t_now_wed : Int32) (r_t_now_lines : Nat → Int32) (p1 : Int32) (o_r : Int32) (hf : f_X5_leastTwoMendings x_t_house_truth x_t_house_caskets r_t_now_lines p1 = some o_r) : Met l yX5_leastTwoMendings wsX5_leastTwoMendings ({ frames := 4, cells := 0, slots := 0, locals := 104 }) (Pr E [.ref a_t, .int p1] [(a_t, .inr (5, [.ref a_t_letters, .int x_t_length, .ref a_t_parser, .ref a_t_house, .ref a_t_now, .ref a_t_spare, .ref a_t_acts, .ref a_t_slotZero, .ref a_t_slotOne, .long x_t_seedNow])), (a_t_house, .inr (1, [.int x_t_house_truth, .int x_t_house_caskets, .int x_t_house_wooers, .ref a_t_house_metals, .ref a_t_house_kinds])), (a_t_now, .inr (4, [.ref a_t_now_lines, .int x_t_now_picture, .int x_t_now_sung, .int x_t_now_tried, .int x_t_now_wed, .ref a_t_now_picked])), (a_t_now_lines, .inl (E.2.1, 4, .inl r_t_now_lines))]) (Qr (some (.int o_r))) 0 0 (fun _ => False) := by
  refine Met.ofW (cc := cX5_leastTwoMendings) (maxL := 7) (ret := (some .int)) (by decide) rfl ?_
  intro p e s m args below meth c s₁ B hml hv
  obtain ⟨rfl, hw⟩ := hv
  have X := Cxt.of B hml
  have hl := lv_entry ([.ref a_t, .int p1]) (n := 7) (Nat.le_of_ble_eq_true rfl)
  rw [lg_entry_eq]
  exact w_X5_leastTwoMendings a_t a_t_letters a_t_parser a_t_house a_t_now a_t_spare a_t_acts a_t_slotZero a_t_slotOne a_t_house_metals a_t_house_kinds a_t_now_lines a_t_now_picked x_t_length x_t_seedNow x_t_house_truth x_t_house_caskets x_t_house_wooers x_t_now_picture x_t_now_sung x_t_now_tried x_t_now_wed r_t_now_lines p1 o_r X hw hf hl
set_option maxHeartbeats 4000000 in
set_option maxRecDepth 100000 in
theorem w_X5_riddle {p : Program} {l : Launch} {e : Env} {s : State} {m : MethodId} {args : Array Value} {below : List Frame} {meth : Method} {c : Code} {E : Ev} (a_t a_t_letters a_t_parser a_t_house a_t_now a_t_spare a_t_acts a_t_slotZero a_t_slotOne a_t_house_metals a_t_house_kinds a_t_now_lines a_t_now_picked : Nat) (x_t_length : Int32) (x_t_seedNow : Int64) (x_t_house_truth : Int32) (x_t_house_caskets : Int32) (x_t_house_wooers : Int32) (r_t_house_metals : Nat → Int32) (x_t_now_picture : Int32) (x_t_now_sung : Int32) (x_t_now_tried : Int32) (x_t_now_wed : Int32) (r_t_now_lines : Nat → Int32) (p1 : Int32) (p2 : Int32) (o_r : Int32) (X : Cxt p s m args meth c cX5_riddle 6 wsX5_riddle RX5 (some .int)) (hw : wd E [(a_t, .inr (5, [.ref a_t_letters, .int x_t_length, .ref a_t_parser, .ref a_t_house, .ref a_t_now, .ref a_t_spare, .ref a_t_acts, .ref a_t_slotZero, .ref a_t_slotOne, .long x_t_seedNow])), (a_t_house, .inr (1, [.int x_t_house_truth, .int x_t_house_caskets, .int x_t_house_wooers, .ref a_t_house_metals, .ref a_t_house_kinds])), (a_t_house_metals, .inl (E.2.1, 4, .inl r_t_house_metals)), (a_t_now, .inr (4, [.ref a_t_now_lines, .int x_t_now_picture, .int x_t_now_sung, .int x_t_now_tried, .int x_t_now_wed, .ref a_t_now_picked])), (a_t_now_lines, .inl (E.2.1, 4, .inl r_t_now_lines))] s s.heap) (h : f_X5_riddle x_t_house_truth x_t_house_caskets r_t_house_metals x_t_now_picture x_t_now_sung r_t_now_lines p1 p2 = some o_r) {ls : Array Slot} (hl : lv_has ls 6 [(0, .ref a_t), (1, .int p1), (2, .int p2)]) : W p l e { frames := 5, cells := 0, slots := 0, locals := 130 } s m args below meth c s.heap [] 0 0 (MQ below (Qr (some (.int o_r))) args s 0 0 (fun _ => False)) (F0 m 0 ls []) := by
  obtain ⟨⟨hx, hb, hml, hown, hts⟩, hr, hlocks⟩ := id X
  obtain ⟨hC, hP⟩ := id hw
  have hiX1 : ∀ w ∈ u_ws RX1 TX1 5, w ∈ wsX5_riddle := by decide +kernel
  have hiX4 : ∀ w ∈ u_ws RX4 TX4 6, w ∈ wsX5_riddle := by decide +kernel
  have hiX5 : ∀ w ∈ u_ws RX5 TX5 10, w ∈ wsX5_riddle := by decide +kernel
  have hK := hC.1
  unfold f_X5_riddle at h
  refine lv_iload_n hx hb dX5_riddle_0 rfl (lv_at hl 1 rfl) ?_
  refine lv_if_lt (tgt := 10) hx hb dX5_riddle_1 (by decide) (fun c1 => ?_) (fun c1 => ?_)
  · have h := ifp c1 h
    refine lv_bipush (v := (-2)) hx hb dX5_riddle_10 (by decide) ?_
    exact W.iret hx hb hr (fun t ht _ => ⟨by cases h; rfl, ht⟩) (fun _ hq => absurd hq List.not_mem_nil) dX5_riddle_12
  · have h := ifn c1 h
    refine lv_iload_n hx hb dX5_riddle_4 rfl (lv_at hl 1 rfl) ?_
    refine lv_bipush (v := 16) hx hb dX5_riddle_5 (by decide) ?_
    refine lv_icmp_lt (tgt := 13) hx hb dX5_riddle_7 (by decide) (fun c2 => ?_) (fun c2 => ?_)
    · have h := ifp c2 h
      refine lv_aload_n hx hb dX5_riddle_13 rfl (lv_at hl 0 rfl) ?_
      refine va_get (D := E.1) (ci := 5) (v := .ref a_t_now) (C := RX5) (T := TX5) (N := 10) hx hb hts hiX5 hown hK hP 0 rfl rfl 4 (by decide) (hts (.fieldLink RX5 30 "CasketLines" "now" "LCasketLines$Standing;") (by decide +kernel)) (fun _ h9 => h9) rfl dX5_riddle_14 ?_
      refine va_get (D := E.1) (ci := 4) (v := .int x_t_now_picture) (C := RX4) (T := TX4) (N := 6) hx hb hts hiX4 hown hK hP 3 rfl rfl 1 (by decide) (hts (.fieldLink RX5 155 "CasketLines$Standing" "picture" "I") (by decide +kernel)) (fun _ h9 => h9) rfl dX5_riddle_17 ?_
      refine lv_bipush (v := (-9)) hx hb dX5_riddle_20 (by decide) ?_
      refine lv_icmp_ne (tgt := 28) hx hb dX5_riddle_22 (by decide) (fun c3 => ?_) (fun c3 => ?_)
      · have h := ifn c3 h
        refine lv_aload_n hx hb dX5_riddle_28 rfl (lv_at hl 0 rfl) ?_
        refine lv_iload_n hx hb dX5_riddle_29 rfl (lv_at hl 1 rfl) ?_
        obtain ⟨r4, g5, h⟩ := bnd h
        refine rcV (As := [.int p1]) (rest := []) ⟨hx, hb, hml, hown, hts⟩ (k_X5_solvingFits (l := l) (E := E) a_t a_t_letters a_t_parser a_t_house a_t_now a_t_spare a_t_acts a_t_slotZero a_t_slotOne a_t_house_metals a_t_house_kinds a_t_now_lines a_t_now_picked x_t_length x_t_seedNow x_t_house_truth x_t_house_caskets x_t_house_wooers r_t_house_metals x_t_now_picture x_t_now_sung x_t_now_tried x_t_now_wed p1 r4 g5) (cwV 1 hts gX5_riddle_X5_solvingFits rfl rfl rfl (by decide +kernel) ⟨Nat.le_of_ble_eq_true rfl, Nat.le_of_ble_eq_true rfl⟩) hC hP [0, 1, 2, 3] rfl 0 5 rfl rfl rfl rfl hl.1 rfl (Nat.le_of_ble_eq_true rfl) dX5_riddle_30 ⟨Nat.zero_le _, Nat.zero_le _⟩ ?_
        refine lv_istore_n (lv' := [(3, .int r4), (0, .ref a_t), (1, .int p1), (2, .int p2)]) hx hb dX5_riddle_33 rfl hl (by decide) rfl (fun ls hl => ?_)
        refine lv_iload_n hx hb dX5_riddle_34 rfl (lv_at hl 0 rfl) ?_
        refine lv_if_ne (tgt := 41) hx hb dX5_riddle_35 (by decide) (fun c6 => ?_) (fun c6 => ?_)
        · have h := ifn c6 h
          refine lv_iload_n hx hb dX5_riddle_41 rfl (lv_at hl 0 rfl) ?_
          refine lv_aload_n hx hb dX5_riddle_42 rfl (lv_at hl 1 rfl) ?_
          refine va_get (D := E.1) (ci := 5) (v := .ref a_t_now) (C := RX5) (T := TX5) (N := 10) hx hb hts hiX5 hown hK hP 0 rfl rfl 4 (by decide) (hts (.fieldLink RX5 30 "CasketLines" "now" "LCasketLines$Standing;") (by decide +kernel)) (fun _ h9 => h9) rfl dX5_riddle_43 ?_
          refine lv_aload_n hx hb dX5_riddle_46 rfl (lv_at hl 1 rfl) ?_
          refine va_get (D := E.1) (ci := 5) (v := .ref a_t_house) (C := RX5) (T := TX5) (N := 10) hx hb hts hiX5 hown hK hP 0 rfl rfl 3 (by decide) (hts (.fieldLink RX5 23 "CasketLines" "house" "LCasketLines$House;") (by decide +kernel)) (fun _ h9 => h9) rfl dX5_riddle_47 ?_
          obtain ⟨r7, g8, h⟩ := bnd h
          refine rcV (As := [.ref a_t_house]) (rest := [.int r4]) ⟨hx, hb, hml, hown, hts⟩ (k_X4_fitting (l := l) (E := E) a_t_now a_t_house a_t_now_lines a_t_now_picked a_t_house_metals a_t_house_kinds x_t_now_picture x_t_now_sung x_t_now_tried x_t_now_wed r_t_now_lines x_t_house_truth x_t_house_caskets x_t_house_wooers r7 g8) (cwV 1 hts gX5_riddle_X4_fitting rfl rfl rfl (by decide +kernel) ⟨Nat.le_of_ble_eq_true rfl, Nat.le_of_ble_eq_true rfl⟩) hC hP [3, 4, 1] rfl 3 4 rfl rfl rfl rfl hl.1 rfl (Nat.le_of_ble_eq_true rfl) dX5_riddle_50 ⟨Nat.zero_le _, Nat.zero_le _⟩ ?_
          refine lv_ishr hx hb dX5_riddle_53 ?_
          refine lv_iconst (v := 1) hx hb dX5_riddle_54 (by decide) ?_
          refine lv_iand hx hb dX5_riddle_55 ?_
          refine lv_iconst (v := 1) hx hb dX5_riddle_56 (by decide) ?_
          refine lv_icmp_ne (tgt := 62) hx hb dX5_riddle_57 (by decide) (fun c9 => ?_) (fun c9 => ?_)
          · have h := ifn c9 h
            refine lv_aload_n hx hb dX5_riddle_62 rfl (lv_at hl 1 rfl) ?_
            refine lv_iload_n hx hb dX5_riddle_63 rfl (lv_at hl 0 rfl) ?_
            refine lv_iconst (v := 0) hx hb dX5_riddle_64 (by decide) ?_
            refine lv_ldc2 (own := RX5) (v := (-1)) hx hb hown (hts (.constantLong RX5 184 (-1)) (by decide +kernel)) dX5_riddle_65 ?_
            refine lv_iconst (v := 0) hx hb dX5_riddle_68 (by decide) ?_
            obtain ⟨r10, g11, h⟩ := bnd h
            refine rcV (As := [.int r4, .int 0, .long (-1), .int 0]) (rest := []) ⟨hx, hb, hml, hown, hts⟩ (k_X5_leastMending (l := l) (E := E) a_t a_t_letters a_t_parser a_t_house a_t_now a_t_spare a_t_acts a_t_slotZero a_t_slotOne a_t_house_metals a_t_house_kinds a_t_now_lines a_t_now_picked x_t_length x_t_seedNow x_t_house_truth x_t_house_caskets x_t_house_wooers x_t_now_picture x_t_now_sung x_t_now_tried x_t_now_wed r_t_now_lines r4 0 (-1) 0 r10 g11) (cwV 4 hts gX5_riddle_X5_leastMending rfl rfl rfl (by decide +kernel) ⟨Nat.le_of_ble_eq_true rfl, Nat.le_of_ble_eq_true rfl⟩) hC hP [0, 1, 3, 4] rfl 0 5 rfl rfl rfl rfl hl.1 rfl (Nat.le_of_ble_eq_true rfl) dX5_riddle_69 ⟨Nat.zero_le _, Nat.zero_le _⟩ ?_
            refine lv_istore (lv' := [(4, .int r10), (3, .int r4), (0, .ref a_t), (1, .int p1), (2, .int p2)]) hx hb dX5_riddle_72 hl (by decide) rfl (fun ls hl => ?_)
            refine lv_iload hx hb dX5_riddle_74 (lv_at hl 0 rfl) ?_
            refine lv_bipush (v := (-9)) hx hb dX5_riddle_76 (by decide) ?_
            refine lv_icmp_eq (tgt := 92) hx hb dX5_riddle_78 (by decide) (fun c12 => ?_) (fun c12 => ?_)
            · have h := ifp c12 h
              refine lv_aload_n hx hb dX5_riddle_92 rfl (lv_at hl 2 rfl) ?_
              refine lv_iload_n hx hb dX5_riddle_93 rfl (lv_at hl 1 rfl) ?_
              obtain ⟨r13, g14, h⟩ := bnd h
              refine rcV (As := [.int r4]) (rest := []) ⟨hx, hb, hml, hown, hts⟩ (k_X5_leastTwoMendings (l := l) (E := E) a_t a_t_letters a_t_parser a_t_house a_t_now a_t_spare a_t_acts a_t_slotZero a_t_slotOne a_t_house_metals a_t_house_kinds a_t_now_lines a_t_now_picked x_t_length x_t_seedNow x_t_house_truth x_t_house_caskets x_t_house_wooers x_t_now_picture x_t_now_sung x_t_now_tried x_t_now_wed r_t_now_lines r4 r13 g14) (cwV 1 hts gX5_riddle_X5_leastTwoMendings rfl rfl rfl (by decide +kernel) ⟨Nat.le_of_ble_eq_true rfl, Nat.le_of_ble_eq_true rfl⟩) hC hP [0, 1, 3, 4] rfl 0 5 rfl rfl rfl rfl hl.1 rfl (Nat.le_of_ble_eq_true rfl) dX5_riddle_94 ⟨Nat.zero_le _, Nat.zero_le _⟩ ?_
              refine lv_istore (lv' := [(5, .int r13), (4, .int r10), (3, .int r4), (0, .ref a_t), (1, .int p1), (2, .int p2)]) hx hb dX5_riddle_97 hl (by decide) rfl (fun ls hl => ?_)
              refine lv_iload hx hb dX5_riddle_99 (lv_at hl 0 rfl) ?_
              refine lv_bipush (v := (-9)) hx hb dX5_riddle_101 (by decide) ?_
              refine lv_icmp_eq (tgt := 117) hx hb dX5_riddle_103 (by decide) (fun c15 => ?_) (fun c15 => ?_)
              · have h := ifp c15 h
                refine lv_bipush (v := (-9)) hx hb dX5_riddle_117 (by decide) ?_
                exact W.iret hx hb hr (fun t ht _ => ⟨by cases h; rfl, ht⟩) (fun _ hq => absurd hq List.not_mem_nil) dX5_riddle_119
              · have h := ifn c15 h
                refine lv_iload_n hx hb dX5_riddle_106 rfl (lv_at hl 5 rfl) ?_
                refine lv_if_eq (tgt := 115) hx hb dX5_riddle_107 (by decide) (fun c16 => ?_) (fun c16 => ?_)
                · have h := ifp c16 h
                  refine lv_iconst (v := 2) hx hb dX5_riddle_115 (by decide) ?_
                  exact W.iret hx hb hr (fun t ht _ => ⟨by cases h; rfl, ht⟩) (fun _ hq => absurd hq List.not_mem_nil) dX5_riddle_116
                · have h := ifn c16 h
                  refine lv_iload hx hb dX5_riddle_110 (lv_at hl 0 rfl) ?_
                  refine lv_goto (tgt := 116) hx hb dX5_riddle_112 (by decide) ?_
                  exact W.iret hx hb hr (fun t ht _ => ⟨by cases h; rfl, ht⟩) (fun _ hq => absurd hq List.not_mem_nil) dX5_riddle_116
            · have h := ifn c12 h
              refine lv_iload_n hx hb dX5_riddle_81 rfl (lv_at hl 4 rfl) ?_
              refine lv_if_eq (tgt := 90) hx hb dX5_riddle_82 (by decide) (fun c17 => ?_) (fun c17 => ?_)
              · have h := ifp c17 h
                refine lv_iconst (v := 1) hx hb dX5_riddle_90 (by decide) ?_
                exact W.iret hx hb hr (fun t ht _ => ⟨by cases h; rfl, ht⟩) (fun _ hq => absurd hq List.not_mem_nil) dX5_riddle_91
              · have h := ifn c17 h
                refine lv_iload hx hb dX5_riddle_85 (lv_at hl 0 rfl) ?_
                refine lv_goto (tgt := 91) hx hb dX5_riddle_87 (by decide) ?_
                exact W.iret hx hb hr (fun t ht _ => ⟨by cases h; rfl, ht⟩) (fun _ hq => absurd hq List.not_mem_nil) dX5_riddle_91
          · have h := ifp c9 h
            refine lv_iconst (v := 0) hx hb dX5_riddle_60 (by decide) ?_
            exact W.iret hx hb hr (fun t ht _ => ⟨by cases h; rfl, ht⟩) (fun _ hq => absurd hq List.not_mem_nil) dX5_riddle_61
        · have h := ifp c6 h
          refine lv_bipush (v := (-9)) hx hb dX5_riddle_38 (by decide) ?_
          exact W.iret hx hb hr (fun t ht _ => ⟨by cases h; rfl, ht⟩) (fun _ hq => absurd hq List.not_mem_nil) dX5_riddle_40
      · have h := ifp c3 h
        refine lv_bipush (v := (-9)) hx hb dX5_riddle_25 (by decide) ?_
        exact W.iret hx hb hr (fun t ht _ => ⟨by cases h; rfl, ht⟩) (fun _ hq => absurd hq List.not_mem_nil) dX5_riddle_27
    · have h := ifn c2 h
      refine lv_bipush (v := (-2)) hx hb dX5_riddle_10 (by decide) ?_
      exact W.iret hx hb hr (fun t ht _ => ⟨by cases h; rfl, ht⟩) (fun _ hq => absurd hq List.not_mem_nil) dX5_riddle_12
set_option maxHeartbeats 4000000 in
set_option maxRecDepth 100000 in
theorem k_X5_riddle {l : Launch} {E : Ev} (a_t a_t_letters a_t_parser a_t_house a_t_now a_t_spare a_t_acts a_t_slotZero a_t_slotOne a_t_house_metals a_t_house_kinds a_t_now_lines a_t_now_picked : Nat) (x_t_length : Int32) (x_t_seedNow : Int64) (x_t_house_truth : Int32) (x_t_house_caskets : Int32) (x_t_house_wooers : Int32) (r_t_house_metals : Nat → Int32) (x_t_now_picture : Int32) (x_t_now_sung : Int32) (x_t_now_tried : Int32) (x_t_now_wed : Int32) (r_t_now_lines : Nat → Int32) (p1 : Int32) (p2 : Int32) (o_r : Int32) (hf : f_X5_riddle x_t_house_truth x_t_house_caskets r_t_house_metals x_t_now_picture x_t_now_sung r_t_now_lines p1 p2 = some o_r) : Met l yX5_riddle wsX5_riddle ({ frames := 5, cells := 0, slots := 0, locals := 130 }) (Pr E [.ref a_t, .int p1, .int p2] [(a_t, .inr (5, [.ref a_t_letters, .int x_t_length, .ref a_t_parser, .ref a_t_house, .ref a_t_now, .ref a_t_spare, .ref a_t_acts, .ref a_t_slotZero, .ref a_t_slotOne, .long x_t_seedNow])), (a_t_house, .inr (1, [.int x_t_house_truth, .int x_t_house_caskets, .int x_t_house_wooers, .ref a_t_house_metals, .ref a_t_house_kinds])), (a_t_house_metals, .inl (E.2.1, 4, .inl r_t_house_metals)), (a_t_now, .inr (4, [.ref a_t_now_lines, .int x_t_now_picture, .int x_t_now_sung, .int x_t_now_tried, .int x_t_now_wed, .ref a_t_now_picked])), (a_t_now_lines, .inl (E.2.1, 4, .inl r_t_now_lines))]) (Qr (some (.int o_r))) 0 0 (fun _ => False) := by
  refine Met.ofW (cc := cX5_riddle) (maxL := 6) (ret := (some .int)) (by decide) rfl ?_
  intro p e s m args below meth c s₁ B hml hv
  obtain ⟨rfl, hw⟩ := hv
  have X := Cxt.of B hml
  have hl := lv_entry ([.ref a_t, .int p1, .int p2]) (n := 6) (Nat.le_of_ble_eq_true rfl)
  rw [lg_entry_eq]
  exact w_X5_riddle a_t a_t_letters a_t_parser a_t_house a_t_now a_t_spare a_t_acts a_t_slotZero a_t_slotOne a_t_house_metals a_t_house_kinds a_t_now_lines a_t_now_picked x_t_length x_t_seedNow x_t_house_truth x_t_house_caskets x_t_house_wooers r_t_house_metals x_t_now_picture x_t_now_sung x_t_now_tried x_t_now_wed r_t_now_lines p1 p2 o_r X hw hf hl
set_option maxHeartbeats 4000000 in
set_option maxRecDepth 100000 in
theorem w_X5_songs_62_b {p : Program} {l : Launch} {e : Env} {s : State} {m : MethodId} {args : Array Value} {below : List Frame} {meth : Method} {c : Code} {E : Ev} (a_t a_t_letters a_t_parser a_t_house a_t_now a_t_spare a_t_acts a_t_slotZero a_t_slotOne a_t_house_metals a_t_house_kinds a_t_now_lines a_t_now_picked : Nat) (x_t_length : Int32) (x_t_seedNow : Int64) (x_t_house_truth : Int32) (x_t_house_caskets : Int32) (x_t_house_wooers : Int32) (r_t_house_metals : Nat → Int32) (r_t_house_kinds : Nat → Int32) (x_t_now_picture : Int32) (x_t_now_sung : Int32) (x_t_now_tried : Int32) (x_t_now_wed : Int32) (r_t_now_lines : Nat → Int32) (v2 : Int32) (v3 : Int32) (o_r : Int32) (X : Cxt p s m args meth c cX5_songs 8 wsX5_songs RX5 (some .int)) (hw : wd E [(a_t, .inr (5, [.ref a_t_letters, .int x_t_length, .ref a_t_parser, .ref a_t_house, .ref a_t_now, .ref a_t_spare, .ref a_t_acts, .ref a_t_slotZero, .ref a_t_slotOne, .long x_t_seedNow])), (a_t_house, .inr (1, [.int x_t_house_truth, .int x_t_house_caskets, .int x_t_house_wooers, .ref a_t_house_metals, .ref a_t_house_kinds])), (a_t_house_metals, .inl (E.2.1, 4, .inl r_t_house_metals)), (a_t_house_kinds, .inl (E.2.1, 6, .inl r_t_house_kinds)), (a_t_now, .inr (4, [.ref a_t_now_lines, .int x_t_now_picture, .int x_t_now_sung, .int x_t_now_tried, .int x_t_now_wed, .ref a_t_now_picked])), (a_t_now_lines, .inl (E.2.1, 4, .inl r_t_now_lines))] s s.heap) (k62 : Int32 × Int32 × Int32 → Option (Int32)) (hk62 : ∀ (v4 : Int32) (v5 : Int32) (v6 : Int32), k62 (v4, v5, v6) = some o_r → ∀ (ls : Array Slot), lv_has ls 8 [(0, .ref a_t), (2, .int v2), (3, .int v3), (4, .int v4), (5, .int v5), (6, .int v6)] → W p l e { frames := 4, cells := 0, slots := 0, locals := 94 } s m args below meth c s.heap [] 0 0 (MQ below (Qr (some (.int o_r))) args s 0 0 (fun _ => False)) (F0 m 62 ls [])) (v4 : Int32) (v5 : Int32) (v6 : Int32) (h : f_X5_songs_62_b x_t_house_caskets r_t_house_metals x_t_now_picture x_t_now_sung v2 v3 k62 v4 v5 v6 = some o_r) {ls : Array Slot} (hl : lv_has ls 8 [(0, .ref a_t), (2, .int v2), (3, .int v3), (4, .int v4), (5, .int v5), (6, .int v6)]) : W p l e { frames := 4, cells := 0, slots := 0, locals := 94 } s m args below meth c s.heap [] 0 0 (MQ below (Qr (some (.int o_r))) args s 0 0 (fun _ => False)) (F0 m 62 ls []) := by
  obtain ⟨⟨hx, hb, hml, hown, hts⟩, hr, hlocks⟩ := id X
  obtain ⟨hC, hP⟩ := id hw
  have hiX1 : ∀ w ∈ u_ws RX1 TX1 5, w ∈ wsX5_songs := by decide +kernel
  have hiX4 : ∀ w ∈ u_ws RX4 TX4 6, w ∈ wsX5_songs := by decide +kernel
  have hiX5 : ∀ w ∈ u_ws RX5 TX5 10, w ∈ wsX5_songs := by decide +kernel
  have hK := hC.1
  unfold f_X5_songs_62_b at h
  refine lv_iload hx hb dX5_songs_62 (lv_at hl 5 rfl) ?_
  refine lv_iconst (v := 1) hx hb dX5_songs_64 (by decide) ?_
  refine lv_aload_n hx hb dX5_songs_65 rfl (lv_at hl 0 rfl) ?_
  refine va_get (D := E.1) (ci := 5) (v := .ref a_t_house) (C := RX5) (T := TX5) (N := 10) hx hb hts hiX5 hown hK hP 0 rfl rfl 3 (by decide) (hts (.fieldLink RX5 23 "CasketLines" "house" "LCasketLines$House;") (by decide +kernel)) (fun _ h9 => h9) rfl dX5_songs_66 ?_
  refine va_get (D := E.1) (ci := 1) (v := .int x_t_house_caskets) (C := RX1) (T := TX1) (N := 5) hx hb hts hiX1 hown hK hP 1 rfl rfl 1 (by decide) (hts (.fieldLink RX5 84 "CasketLines$House" "caskets" "I") (by decide +kernel)) (fun _ h9 => h9) rfl dX5_songs_69 ?_
  refine lv_ishl hx hb dX5_songs_72 ?_
  refine lv_icmp_ge (tgt := 140) hx hb dX5_songs_73 (by decide) (fun c1 => ?_) (fun c1 => ?_)
  · have h := ifp c1 h
    refine lv_iload hx hb dX5_songs_140 (lv_at hl 3 rfl) ?_
    exact W.iret hx hb hr (fun t ht _ => ⟨by cases h; rfl, ht⟩) (fun _ hq => absurd hq List.not_mem_nil) dX5_songs_142
  · have h := ifn c1 h
    refine lv_iload hx hb dX5_songs_76 (lv_at hl 5 rfl) ?_
    refine lv_bipush (v := 15) hx hb dX5_songs_78 (by decide) ?_
    refine lv_icmp_gt (tgt := 140) hx hb dX5_songs_80 (by decide) (fun c2 => ?_) (fun c2 => ?_)
    · have h := ifp c2 h
      refine lv_iload hx hb dX5_songs_140 (lv_at hl 3 rfl) ?_
      exact W.iret hx hb hr (fun t ht _ => ⟨by cases h; rfl, ht⟩) (fun _ hq => absurd hq List.not_mem_nil) dX5_songs_142
    · have h := ifn c2 h
      refine lv_iload hx hb dX5_songs_83 (lv_at hl 5 rfl) ?_
      obtain ⟨r3, g4, h⟩ := bnd h
      refine rcS (As := [.int v6]) (rest := []) ⟨hx, hb, hml, hown, hts⟩ (k_J6_bitCount_0f7a4 (l := l) (E := E) v6 r3 g4) (va_cwS 1 hts gX5_songs_J6_bitCount_0f7a4 rfl rfl rfl (by decide +kernel) ⟨Nat.le_of_ble_eq_true rfl, Nat.le_of_ble_eq_true rfl⟩) hC hP [] rfl rfl hl.1 rfl (Nat.le_of_ble_eq_true rfl) dX5_songs_85 ⟨Nat.zero_le _, Nat.zero_le _⟩ ?_
      refine lv_istore (lv' := [(7, .int r3), (0, .ref a_t), (2, .int v2), (3, .int v3), (4, .int v4), (5, .int v5), (6, .int v6)]) hx hb dX5_songs_88 hl (by decide) rfl (fun ls hl => ?_)
      refine lv_iload hx hb dX5_songs_90 (lv_at hl 0 rfl) ?_
      refine lv_iload hx hb dX5_songs_92 (lv_at hl 5 rfl) ?_
      refine lv_icmp_ge (tgt := 134) hx hb dX5_songs_94 (by decide) (fun c5 => ?_) (fun c5 => ?_)
      · have h := ifp c5 h
        refine lv_iinc (v := (v6 + 1)) (lv' := [(6, .int (v6 + 1)), (7, .int r3), (0, .ref a_t), (2, .int v2), (3, .int v3), (4, .int v4), (5, .int v5)]) hx hb dX5_songs_134 hl (k := 6) rfl rfl (by decide) rfl (fun ls hl => ?_)
        refine lv_goto (tgt := 62) hx hb dX5_songs_137 (by decide) ?_
        exact hk62 v4 v5 (v6 + 1) h ls (lv_sub hl [2, 3, 4, 5, 6, 0] rfl)
      · have h := ifn c5 h
        refine lv_aload_n hx hb dX5_songs_97 rfl (lv_at hl 1 rfl) ?_
        refine va_get (D := E.1) (ci := 5) (v := .ref a_t_house) (C := RX5) (T := TX5) (N := 10) hx hb hts hiX5 hown hK hP 0 rfl rfl 3 (by decide) (hts (.fieldLink RX5 23 "CasketLines" "house" "LCasketLines$House;") (by decide +kernel)) (fun _ h9 => h9) rfl dX5_songs_98 ?_
        refine lv_iload_n hx hb dX5_songs_101 rfl (lv_at hl 2 rfl) ?_
        refine lv_iload_n hx hb dX5_songs_102 rfl (lv_at hl 3 rfl) ?_
        refine lv_aload_n hx hb dX5_songs_103 rfl (lv_at hl 1 rfl) ?_
        refine va_get (D := E.1) (ci := 5) (v := .ref a_t_now) (C := RX5) (T := TX5) (N := 10) hx hb hts hiX5 hown hK hP 0 rfl rfl 4 (by decide) (hts (.fieldLink RX5 30 "CasketLines" "now" "LCasketLines$Standing;") (by decide +kernel)) (fun _ h9 => h9) rfl dX5_songs_104 ?_
        refine va_get (D := E.1) (ci := 4) (v := .int x_t_now_sung) (C := RX4) (T := TX4) (N := 6) hx hb hts hiX4 hown hK hP 4 rfl rfl 2 (by decide) (hts (.fieldLink RX5 103 "CasketLines$Standing" "sung" "I") (by decide +kernel)) (fun _ h9 => h9) rfl dX5_songs_107 ?_
        refine lv_iload hx hb dX5_songs_110 (lv_at hl 6 rfl) ?_
        refine lv_ior hx hb dX5_songs_112 ?_
        obtain ⟨r6, g7, h⟩ := bnd h
        refine rcV (As := [.int v2, .int v3, .int (x_t_now_sung ||| v6)]) (rest := []) ⟨hx, hb, hml, hown, hts⟩ (k_X1_pickOf (l := l) (E := E) a_t_house a_t_house_metals a_t_house_kinds x_t_house_truth x_t_house_caskets x_t_house_wooers r_t_house_metals v2 v3 (x_t_now_sung ||| v6) r6 g7) (cwV 3 hts gX5_songs_X1_pickOf rfl rfl rfl (by decide +kernel) ⟨Nat.le_of_ble_eq_true rfl, Nat.le_of_ble_eq_true rfl⟩) hC hP [1, 2] rfl 1 1 rfl rfl rfl rfl hl.1 rfl (Nat.le_of_ble_eq_true rfl) dX5_songs_113 ⟨Nat.zero_le _, Nat.zero_le _⟩ ?_
        refine lv_aload_n hx hb dX5_songs_116 rfl (lv_at hl 1 rfl) ?_
        refine va_get (D := E.1) (ci := 5) (v := .ref a_t_now) (C := RX5) (T := TX5) (N := 10) hx hb hts hiX5 hown hK hP 0 rfl rfl 4 (by decide) (hts (.fieldLink RX5 30 "CasketLines" "now" "LCasketLines$Standing;") (by decide +kernel)) (fun _ h9 => h9) rfl dX5_songs_117 ?_
        refine va_get (D := E.1) (ci := 4) (v := .int x_t_now_picture) (C := RX4) (T := TX4) (N := 6) hx hb hts hiX4 hown hK hP 4 rfl rfl 1 (by decide) (hts (.fieldLink RX5 155 "CasketLines$Standing" "picture" "I") (by decide +kernel)) (fun _ h9 => h9) rfl dX5_songs_120 ?_
        refine lv_icmp_ne (tgt := 134) hx hb dX5_songs_123 (by decide) (fun c8 => ?_) (fun c8 => ?_)
        · have h := ifn c8 h
          refine lv_iinc (v := (v6 + 1)) (lv' := [(6, .int (v6 + 1)), (7, .int r3), (0, .ref a_t), (2, .int v2), (3, .int v3), (4, .int v4), (5, .int v5)]) hx hb dX5_songs_134 hl (k := 6) rfl rfl (by decide) rfl (fun ls hl => ?_)
          refine lv_goto (tgt := 62) hx hb dX5_songs_137 (by decide) ?_
          exact hk62 v4 v5 (v6 + 1) h ls (lv_sub hl [2, 3, 4, 5, 6, 0] rfl)
        · have h := ifp c8 h
          refine lv_iload hx hb dX5_songs_126 (lv_at hl 6 rfl) ?_
          refine lv_istore (lv' := [(4, .int v6), (7, .int r3), (0, .ref a_t), (2, .int v2), (3, .int v3), (5, .int v5), (6, .int v6)]) hx hb dX5_songs_128 hl (by decide) rfl (fun ls hl => ?_)
          refine lv_iload hx hb dX5_songs_130 (lv_at hl 1 rfl) ?_
          refine lv_istore (lv' := [(5, .int r3), (4, .int v6), (7, .int r3), (0, .ref a_t), (2, .int v2), (3, .int v3), (6, .int v6)]) hx hb dX5_songs_132 hl (by decide) rfl (fun ls hl => ?_)
          refine lv_iinc (v := (v6 + 1)) (lv' := [(6, .int (v6 + 1)), (5, .int r3), (4, .int v6), (7, .int r3), (0, .ref a_t), (2, .int v2), (3, .int v3)]) hx hb dX5_songs_134 hl (k := 6) rfl rfl (by decide) rfl (fun ls hl => ?_)
          refine lv_goto (tgt := 62) hx hb dX5_songs_137 (by decide) ?_
          exact hk62 v6 r3 (v6 + 1) h ls (lv_sub hl [4, 5, 6, 2, 1, 0] rfl)
set_option maxHeartbeats 4000000 in
set_option maxRecDepth 100000 in
theorem w_X5_songs_62 {p : Program} {l : Launch} {e : Env} {s : State} {m : MethodId} {args : Array Value} {below : List Frame} {meth : Method} {c : Code} {E : Ev} (a_t a_t_letters a_t_parser a_t_house a_t_now a_t_spare a_t_acts a_t_slotZero a_t_slotOne a_t_house_metals a_t_house_kinds a_t_now_lines a_t_now_picked : Nat) (x_t_length : Int32) (x_t_seedNow : Int64) (x_t_house_truth : Int32) (x_t_house_caskets : Int32) (x_t_house_wooers : Int32) (r_t_house_metals : Nat → Int32) (r_t_house_kinds : Nat → Int32) (x_t_now_picture : Int32) (x_t_now_sung : Int32) (x_t_now_tried : Int32) (x_t_now_wed : Int32) (r_t_now_lines : Nat → Int32) (v2 : Int32) (v3 : Int32) (o_r : Int32) (X : Cxt p s m args meth c cX5_songs 8 wsX5_songs RX5 (some .int)) (hw : wd E [(a_t, .inr (5, [.ref a_t_letters, .int x_t_length, .ref a_t_parser, .ref a_t_house, .ref a_t_now, .ref a_t_spare, .ref a_t_acts, .ref a_t_slotZero, .ref a_t_slotOne, .long x_t_seedNow])), (a_t_house, .inr (1, [.int x_t_house_truth, .int x_t_house_caskets, .int x_t_house_wooers, .ref a_t_house_metals, .ref a_t_house_kinds])), (a_t_house_metals, .inl (E.2.1, 4, .inl r_t_house_metals)), (a_t_house_kinds, .inl (E.2.1, 6, .inl r_t_house_kinds)), (a_t_now, .inr (4, [.ref a_t_now_lines, .int x_t_now_picture, .int x_t_now_sung, .int x_t_now_tried, .int x_t_now_wed, .ref a_t_now_picked])), (a_t_now_lines, .inl (E.2.1, 4, .inl r_t_now_lines))] s s.heap) : ∀ (n : Nat) (v4 : Int32) (v5 : Int32) (v6 : Int32), f_X5_songs_62 x_t_house_caskets r_t_house_metals x_t_now_picture x_t_now_sung v2 v3 n v4 v5 v6 = some o_r → ∀ (ls : Array Slot), lv_has ls 8 [(0, .ref a_t), (2, .int v2), (3, .int v3), (4, .int v4), (5, .int v5), (6, .int v6)] → W p l e { frames := 4, cells := 0, slots := 0, locals := 94 } s m args below meth c s.heap [] 0 0 (MQ below (Qr (some (.int o_r))) args s 0 0 (fun _ => False)) (F0 m 62 ls []) := by
  intro n
  induction n with
  | zero =>
    intro v4 v5 v6 h
    exact (rk_z _ _ h).elim
  | succ n ih =>
    intro v4 v5 v6 h ls hl
    exact w_X5_songs_62_b a_t a_t_letters a_t_parser a_t_house a_t_now a_t_spare a_t_acts a_t_slotZero a_t_slotOne a_t_house_metals a_t_house_kinds a_t_now_lines a_t_now_picked x_t_length x_t_seedNow x_t_house_truth x_t_house_caskets x_t_house_wooers r_t_house_metals r_t_house_kinds x_t_now_picture x_t_now_sung x_t_now_tried x_t_now_wed r_t_now_lines v2 v3  o_r X hw  (rk (fun k x => f_X5_songs_62_b x_t_house_caskets r_t_house_metals x_t_now_picture x_t_now_sung v2 v3  k (x.1) (x.2.1) (x.2.2)) n) (fun v4 v5 v6 hh => ih v4 v5 v6 hh) v4 v5 v6 h hl
set_option maxHeartbeats 4000000 in
set_option maxRecDepth 100000 in
theorem w_X5_songs {p : Program} {l : Launch} {e : Env} {s : State} {m : MethodId} {args : Array Value} {below : List Frame} {meth : Method} {c : Code} {E : Ev} (a_t a_t_letters a_t_parser a_t_house a_t_now a_t_spare a_t_acts a_t_slotZero a_t_slotOne a_t_house_metals a_t_house_kinds a_t_now_lines a_t_now_picked : Nat) (x_t_length : Int32) (x_t_seedNow : Int64) (x_t_house_truth : Int32) (x_t_house_caskets : Int32) (x_t_house_wooers : Int32) (r_t_house_metals : Nat → Int32) (r_t_house_kinds : Nat → Int32) (x_t_now_picture : Int32) (x_t_now_sung : Int32) (x_t_now_tried : Int32) (x_t_now_wed : Int32) (r_t_now_lines : Nat → Int32) (p1 : Int32) (o_r : Int32) (X : Cxt p s m args meth c cX5_songs 8 wsX5_songs RX5 (some .int)) (hw : wd E [(a_t, .inr (5, [.ref a_t_letters, .int x_t_length, .ref a_t_parser, .ref a_t_house, .ref a_t_now, .ref a_t_spare, .ref a_t_acts, .ref a_t_slotZero, .ref a_t_slotOne, .long x_t_seedNow])), (a_t_house, .inr (1, [.int x_t_house_truth, .int x_t_house_caskets, .int x_t_house_wooers, .ref a_t_house_metals, .ref a_t_house_kinds])), (a_t_house_metals, .inl (E.2.1, 4, .inl r_t_house_metals)), (a_t_house_kinds, .inl (E.2.1, 6, .inl r_t_house_kinds)), (a_t_now, .inr (4, [.ref a_t_now_lines, .int x_t_now_picture, .int x_t_now_sung, .int x_t_now_tried, .int x_t_now_wed, .ref a_t_now_picked])), (a_t_now_lines, .inl (E.2.1, 4, .inl r_t_now_lines))] s s.heap) (h : f_X5_songs x_t_house_truth x_t_house_caskets x_t_house_wooers r_t_house_metals r_t_house_kinds x_t_now_picture x_t_now_sung r_t_now_lines p1 = some o_r) {ls : Array Slot} (hl : lv_has ls 8 [(0, .ref a_t), (1, .int p1)]) : W p l e { frames := 4, cells := 0, slots := 0, locals := 94 } s m args below meth c s.heap [] 0 0 (MQ below (Qr (some (.int o_r))) args s 0 0 (fun _ => False)) (F0 m 0 ls []) := by
  obtain ⟨⟨hx, hb, hml, hown, hts⟩, hr, hlocks⟩ := id X
  obtain ⟨hC, hP⟩ := id hw
  have hiX1 : ∀ w ∈ u_ws RX1 TX1 5, w ∈ wsX5_songs := by decide +kernel
  have hiX4 : ∀ w ∈ u_ws RX4 TX4 6, w ∈ wsX5_songs := by decide +kernel
  have hiX5 : ∀ w ∈ u_ws RX5 TX5 10, w ∈ wsX5_songs := by decide +kernel
  have hK := hC.1
  unfold f_X5_songs at h
  refine lv_aload_n hx hb dX5_songs_0 rfl (lv_at hl 0 rfl) ?_
  refine va_get (D := E.1) (ci := 5) (v := .ref a_t_house) (C := RX5) (T := TX5) (N := 10) hx hb hts hiX5 hown hK hP 0 rfl rfl 3 (by decide) (hts (.fieldLink RX5 23 "CasketLines" "house" "LCasketLines$House;") (by decide +kernel)) (fun _ h9 => h9) rfl dX5_songs_1 ?_
  refine lv_iload_n hx hb dX5_songs_4 rfl (lv_at hl 1 rfl) ?_
  obtain ⟨r9, g10, h⟩ := bnd h
  refine rcV (As := [.int p1]) (rest := []) ⟨hx, hb, hml, hown, hts⟩ (k_X1_hasWooer (l := l) (E := E) a_t_house a_t_house_metals a_t_house_kinds x_t_house_truth x_t_house_caskets x_t_house_wooers p1 r9 g10) (cwV 1 hts gX5_songs_X1_hasWooer rfl rfl rfl (by decide +kernel) ⟨Nat.le_of_ble_eq_true rfl, Nat.le_of_ble_eq_true rfl⟩) hC hP [1] rfl 1 1 rfl rfl rfl rfl hl.1 rfl (Nat.le_of_ble_eq_true rfl) dX5_songs_5 ⟨Nat.zero_le _, Nat.zero_le _⟩ ?_
  refine lv_if_ne (tgt := 13) hx hb dX5_songs_8 (by decide) (fun c11 => ?_) (fun c11 => ?_)
  · have h := ifn c11 h
    refine lv_aload_n hx hb dX5_songs_13 rfl (lv_at hl 0 rfl) ?_
    refine va_get (D := E.1) (ci := 5) (v := .ref a_t_now) (C := RX5) (T := TX5) (N := 10) hx hb hts hiX5 hown hK hP 0 rfl rfl 4 (by decide) (hts (.fieldLink RX5 30 "CasketLines" "now" "LCasketLines$Standing;") (by decide +kernel)) (fun _ h9 => h9) rfl dX5_songs_14 ?_
    refine va_get (D := E.1) (ci := 4) (v := .int x_t_now_picture) (C := RX4) (T := TX4) (N := 6) hx hb hts hiX4 hown hK hP 4 rfl rfl 1 (by decide) (hts (.fieldLink RX5 155 "CasketLines$Standing" "picture" "I") (by decide +kernel)) (fun _ h9 => h9) rfl dX5_songs_17 ?_
    refine lv_bipush (v := (-9)) hx hb dX5_songs_20 (by decide) ?_
    refine lv_icmp_ne (tgt := 28) hx hb dX5_songs_22 (by decide) (fun c12 => ?_) (fun c12 => ?_)
    · have h := ifn c12 h
      refine lv_aload_n hx hb dX5_songs_28 rfl (lv_at hl 0 rfl) ?_
      refine va_get (D := E.1) (ci := 5) (v := .ref a_t_house) (C := RX5) (T := TX5) (N := 10) hx hb hts hiX5 hown hK hP 0 rfl rfl 3 (by decide) (hts (.fieldLink RX5 23 "CasketLines" "house" "LCasketLines$House;") (by decide +kernel)) (fun _ h9 => h9) rfl dX5_songs_29 ?_
      refine va_get (D := E.1) (ci := 1) (v := .ref a_t_house_kinds) (C := RX1) (T := TX1) (N := 5) hx hb hts hiX1 hown hK hP 1 rfl rfl 4 (by decide) (hts (.fieldLink RX5 127 "CasketLines$House" "kinds" "[I") (by decide +kernel)) (fun _ h9 => h9) rfl dX5_songs_32 ?_
      refine lv_iload_n hx hb dX5_songs_35 rfl (lv_at hl 1 rfl) ?_
      obtain ⟨r13, g14, h⟩ := bnd h
      refine rcS (As := [.ref a_t_house_kinds, .int p1]) (rest := []) ⟨hx, hb, hml, hown, hts⟩ (k_X5_at (l := l) (E := E) a_t_house_kinds 6 r_t_house_kinds p1 r13 g14) (va_cwS 2 hts gX5_songs_X5_at rfl rfl rfl (by decide +kernel) ⟨Nat.le_of_ble_eq_true rfl, Nat.le_of_ble_eq_true rfl⟩) hC hP [3] rfl rfl hl.1 rfl (Nat.le_of_ble_eq_true rfl) dX5_songs_36 ⟨Nat.zero_le _, Nat.zero_le _⟩ ?_
      refine lv_istore_n (lv' := [(2, .int r13), (0, .ref a_t), (1, .int p1)]) hx hb dX5_songs_39 rfl hl (by decide) rfl (fun ls hl => ?_)
      refine lv_aload_n hx hb dX5_songs_40 rfl (lv_at hl 1 rfl) ?_
      refine va_get (D := E.1) (ci := 5) (v := .ref a_t_now) (C := RX5) (T := TX5) (N := 10) hx hb hts hiX5 hown hK hP 0 rfl rfl 4 (by decide) (hts (.fieldLink RX5 30 "CasketLines" "now" "LCasketLines$Standing;") (by decide +kernel)) (fun _ h9 => h9) rfl dX5_songs_41 ?_
      refine lv_aload_n hx hb dX5_songs_44 rfl (lv_at hl 1 rfl) ?_
      refine va_get (D := E.1) (ci := 5) (v := .ref a_t_house) (C := RX5) (T := TX5) (N := 10) hx hb hts hiX5 hown hK hP 0 rfl rfl 3 (by decide) (hts (.fieldLink RX5 23 "CasketLines" "house" "LCasketLines$House;") (by decide +kernel)) (fun _ h9 => h9) rfl dX5_songs_45 ?_
      obtain ⟨r15, g16, h⟩ := bnd h
      refine rcV (As := [.ref a_t_house]) (rest := []) ⟨hx, hb, hml, hown, hts⟩ (k_X4_fitting (l := l) (E := E) a_t_now a_t_house a_t_now_lines a_t_now_picked a_t_house_metals a_t_house_kinds x_t_now_picture x_t_now_sung x_t_now_tried x_t_now_wed r_t_now_lines x_t_house_truth x_t_house_caskets x_t_house_wooers r15 g16) (cwV 1 hts gX5_songs_X4_fitting rfl rfl rfl (by decide +kernel) ⟨Nat.le_of_ble_eq_true rfl, Nat.le_of_ble_eq_true rfl⟩) hC hP [4, 5, 1] rfl 4 4 rfl rfl rfl rfl hl.1 rfl (Nat.le_of_ble_eq_true rfl) dX5_songs_48 ⟨Nat.zero_le _, Nat.zero_le _⟩ ?_
      refine lv_istore_n (lv' := [(3, .int r15), (2, .int r13), (0, .ref a_t), (1, .int p1)]) hx hb dX5_songs_51 rfl hl (by decide) rfl (fun ls hl => ?_)
      refine lv_bipush (v := (-9)) hx hb dX5_songs_52 (by decide) ?_
      refine lv_istore (lv' := [(4, .int (-9)), (3, .int r15), (2, .int r13), (0, .ref a_t), (1, .int p1)]) hx hb dX5_songs_54 hl (by decide) rfl (fun ls hl => ?_)
      refine lv_iconst (v := 5) hx hb dX5_songs_56 (by decide) ?_
      refine lv_istore (lv' := [(5, .int 5), (4, .int (-9)), (3, .int r15), (2, .int r13), (0, .ref a_t), (1, .int p1)]) hx hb dX5_songs_57 hl (by decide) rfl (fun ls hl => ?_)
      refine lv_iconst (v := 0) hx hb dX5_songs_59 (by decide) ?_
      refine lv_istore (lv' := [(6, .int 0), (5, .int 5), (4, .int (-9)), (3, .int r15), (2, .int r13), (0, .ref a_t), (1, .int p1)]) hx hb dX5_songs_60 hl (by decide) rfl (fun ls hl => ?_)
      exact w_X5_songs_62 a_t a_t_letters a_t_parser a_t_house a_t_now a_t_spare a_t_acts a_t_slotZero a_t_slotOne a_t_house_metals a_t_house_kinds a_t_now_lines a_t_now_picked x_t_length x_t_seedNow x_t_house_truth x_t_house_caskets x_t_house_wooers r_t_house_metals r_t_house_kinds x_t_now_picture x_t_now_sung x_t_now_tried x_t_now_wed r_t_now_lines r13 r15  o_r X hw  200 (-9) 5 0 h ls (lv_sub hl [5, 4, 3, 2, 1, 0] rfl)
    · have h := ifp c12 h
      refine lv_bipush (v := (-9)) hx hb dX5_songs_25 (by decide) ?_
      exact W.iret hx hb hr (fun t ht _ => ⟨by cases h; rfl, ht⟩) (fun _ hq => absurd hq List.not_mem_nil) dX5_songs_27
  · have h := ifp c11 h
    refine lv_iconst (v := (-1)) hx hb dX5_songs_11 (by decide) ?_
    exact W.iret hx hb hr (fun t ht _ => ⟨by cases h; rfl, ht⟩) (fun _ hq => absurd hq List.not_mem_nil) dX5_songs_12
set_option maxHeartbeats 4000000 in
set_option maxRecDepth 100000 in
theorem k_X5_songs {l : Launch} {E : Ev} (a_t a_t_letters a_t_parser a_t_house a_t_now a_t_spare a_t_acts a_t_slotZero a_t_slotOne a_t_house_metals a_t_house_kinds a_t_now_lines a_t_now_picked : Nat) (x_t_length : Int32) (x_t_seedNow : Int64) (x_t_house_truth : Int32) (x_t_house_caskets : Int32) (x_t_house_wooers : Int32) (r_t_house_metals : Nat → Int32) (r_t_house_kinds : Nat → Int32) (x_t_now_picture : Int32) (x_t_now_sung : Int32) (x_t_now_tried : Int32) (x_t_now_wed : Int32) (r_t_now_lines : Nat → Int32) (p1 : Int32) (o_r : Int32) (hf : f_X5_songs x_t_house_truth x_t_house_caskets x_t_house_wooers r_t_house_metals r_t_house_kinds x_t_now_picture x_t_now_sung r_t_now_lines p1 = some o_r) : Met l yX5_songs wsX5_songs ({ frames := 4, cells := 0, slots := 0, locals := 94 }) (Pr E [.ref a_t, .int p1] [(a_t, .inr (5, [.ref a_t_letters, .int x_t_length, .ref a_t_parser, .ref a_t_house, .ref a_t_now, .ref a_t_spare, .ref a_t_acts, .ref a_t_slotZero, .ref a_t_slotOne, .long x_t_seedNow])), (a_t_house, .inr (1, [.int x_t_house_truth, .int x_t_house_caskets, .int x_t_house_wooers, .ref a_t_house_metals, .ref a_t_house_kinds])), (a_t_house_metals, .inl (E.2.1, 4, .inl r_t_house_metals)), (a_t_house_kinds, .inl (E.2.1, 6, .inl r_t_house_kinds)), (a_t_now, .inr (4, [.ref a_t_now_lines, .int x_t_now_picture, .int x_t_now_sung, .int x_t_now_tried, .int x_t_now_wed, .ref a_t_now_picked])), (a_t_now_lines, .inl (E.2.1, 4, .inl r_t_now_lines))]) (Qr (some (.int o_r))) 0 0 (fun _ => False) := by
  refine Met.ofW (cc := cX5_songs) (maxL := 8) (ret := (some .int)) (by decide) rfl ?_
  intro p e s m args below meth c s₁ B hml hv
  obtain ⟨rfl, hw⟩ := hv
  have X := Cxt.of B hml
  have hl := lv_entry ([.ref a_t, .int p1]) (n := 8) (Nat.le_of_ble_eq_true rfl)
  rw [lg_entry_eq]
  exact w_X5_songs a_t a_t_letters a_t_parser a_t_house a_t_now a_t_spare a_t_acts a_t_slotZero a_t_slotOne a_t_house_metals a_t_house_kinds a_t_now_lines a_t_now_picked x_t_length x_t_seedNow x_t_house_truth x_t_house_caskets x_t_house_wooers r_t_house_metals r_t_house_kinds x_t_now_picture x_t_now_sung x_t_now_tried x_t_now_wed r_t_now_lines p1 o_r X hw hf hl
set_option maxHeartbeats 4000000 in
set_option maxRecDepth 100000 in
theorem w_X5_said_128 {p : Program} {l : Launch} {e : Env} {s : State} {m : MethodId} {args : Array Value} {below : List Frame} {meth : Method} {c : Code} {E : Ev} (a_t a_t_letters a_t_parser a_t_house a_t_now a_t_spare a_t_acts a_t_slotZero a_t_slotOne a_t_house_metals a_t_house_kinds a_t_now_lines a_t_now_picked : Nat) (x_t_length : Int32) (x_t_seedNow : Int64) (x_t_house_truth : Int32) (x_t_house_caskets : Int32) (x_t_house_wooers : Int32) (x_t_now_picture : Int32) (x_t_now_sung : Int32) (x_t_now_tried : Int32) (x_t_now_wed : Int32) (r_t_now_lines : Nat → Int32) (v2 : Int32) (v3 : Int32) (v4 : Int32) (o_r : Int32) (X : Cxt p s m args meth c cX5_said 8 wsX5_said RX5 (some .int)) (hw : wd E [(a_t, .inr (5, [.ref a_t_letters, .int x_t_length, .ref a_t_parser, .ref a_t_house, .ref a_t_now, .ref a_t_spare, .ref a_t_acts, .ref a_t_slotZero, .ref a_t_slotOne, .long x_t_seedNow])), (a_t_house, .inr (1, [.int x_t_house_truth, .int x_t_house_caskets, .int x_t_house_wooers, .ref a_t_house_metals, .ref a_t_house_kinds])), (a_t_now, .inr (4, [.ref a_t_now_lines, .int x_t_now_picture, .int x_t_now_sung, .int x_t_now_tried, .int x_t_now_wed, .ref a_t_now_picked])), (a_t_now_lines, .inl (E.2.1, 4, .inl r_t_now_lines))] s s.heap) (h : f_X5_said_128 v2 v3 v4 = some o_r) (ls : Array Slot) (hl : lv_has ls 8 [(2, .int v2), (3, .int v3), (4, .int v4)]) : W p l e { frames := 3, cells := 0, slots := 0, locals := 73 } s m args below meth c s.heap [] 0 0 (MQ below (Qr (some (.int o_r))) args s 0 0 (fun _ => False)) (F0 m 128 ls []) := by
  obtain ⟨⟨hx, hb, hml, hown, hts⟩, hr, hlocks⟩ := id X
  obtain ⟨hC, hP⟩ := id hw
  have hiX1 : ∀ w ∈ u_ws RX1 TX1 5, w ∈ wsX5_said := by decide +kernel
  have hiX4 : ∀ w ∈ u_ws RX4 TX4 6, w ∈ wsX5_said := by decide +kernel
  have hiX5 : ∀ w ∈ u_ws RX5 TX5 10, w ∈ wsX5_said := by decide +kernel
  have hK := hC.1
  unfold f_X5_said_128 at h
  refine lv_iload_n hx hb dX5_said_128 rfl (lv_at hl 0 rfl) ?_
  refine lv_if_eq (tgt := 137) hx hb dX5_said_129 (by decide) (fun c10 => ?_) (fun c10 => ?_)
  · have h := ifp c10 h
    refine lv_iload_n hx hb dX5_said_137 rfl (lv_at hl 1 rfl) ?_
    exact W.iret hx hb hr (fun t ht _ => ⟨by cases h; rfl, ht⟩) (fun _ hq => absurd hq List.not_mem_nil) dX5_said_138
  · have h := ifn c10 h
    refine lv_iload hx hb dX5_said_132 (lv_at hl 2 rfl) ?_
    refine lv_goto (tgt := 138) hx hb dX5_said_134 (by decide) ?_
    exact W.iret hx hb hr (fun t ht _ => ⟨by cases h; rfl, ht⟩) (fun _ hq => absurd hq List.not_mem_nil) dX5_said_138
set_option maxHeartbeats 4000000 in
set_option maxRecDepth 100000 in
theorem w_X5_said_69_b {p : Program} {l : Launch} {e : Env} {s : State} {m : MethodId} {args : Array Value} {below : List Frame} {meth : Method} {c : Code} {E : Ev} (a_t a_t_letters a_t_parser a_t_house a_t_now a_t_spare a_t_acts a_t_slotZero a_t_slotOne a_t_house_metals a_t_house_kinds a_t_now_lines a_t_now_picked : Nat) (x_t_length : Int32) (x_t_seedNow : Int64) (x_t_house_truth : Int32) (x_t_house_caskets : Int32) (x_t_house_wooers : Int32) (x_t_now_picture : Int32) (x_t_now_sung : Int32) (x_t_now_tried : Int32) (x_t_now_wed : Int32) (r_t_now_lines : Nat → Int32) (v1 : Int32) (v2 : Int32) (v5 : Int64) (o_r : Int32) (X : Cxt p s m args meth c cX5_said 8 wsX5_said RX5 (some .int)) (hw : wd E [(a_t, .inr (5, [.ref a_t_letters, .int x_t_length, .ref a_t_parser, .ref a_t_house, .ref a_t_now, .ref a_t_spare, .ref a_t_acts, .ref a_t_slotZero, .ref a_t_slotOne, .long x_t_seedNow])), (a_t_house, .inr (1, [.int x_t_house_truth, .int x_t_house_caskets, .int x_t_house_wooers, .ref a_t_house_metals, .ref a_t_house_kinds])), (a_t_now, .inr (4, [.ref a_t_now_lines, .int x_t_now_picture, .int x_t_now_sung, .int x_t_now_tried, .int x_t_now_wed, .ref a_t_now_picked])), (a_t_now_lines, .inl (E.2.1, 4, .inl r_t_now_lines))] s s.heap) (k69 : Int32 × Int32 × Int32 → Option (Int32)) (hk69 : ∀ (v3 : Int32) (v4 : Int32) (v7 : Int32), k69 (v3, v4, v7) = some o_r → ∀ (ls : Array Slot), lv_has ls 8 [(0, .ref a_t), (1, .int v1), (2, .int v2), (3, .int v3), (4, .int v4), (5, .long v5), (7, .int v7)] → W p l e { frames := 3, cells := 0, slots := 0, locals := 73 } s m args below meth c s.heap [] 0 0 (MQ below (Qr (some (.int o_r))) args s 0 0 (fun _ => False)) (F0 m 69 ls [])) (v3 : Int32) (v4 : Int32) (v7 : Int32) (h : f_X5_said_69_b x_t_now_picture v1 v2 v5 k69 v3 v4 v7 = some o_r) {ls : Array Slot} (hl : lv_has ls 8 [(0, .ref a_t), (1, .int v1), (2, .int v2), (3, .int v3), (4, .int v4), (5, .long v5), (7, .int v7)]) : W p l e { frames := 3, cells := 0, slots := 0, locals := 73 } s m args below meth c s.heap [] 0 0 (MQ below (Qr (some (.int o_r))) args s 0 0 (fun _ => False)) (F0 m 69 ls []) := by
  obtain ⟨⟨hx, hb, hml, hown, hts⟩, hr, hlocks⟩ := id X
  obtain ⟨hC, hP⟩ := id hw
  have hiX1 : ∀ w ∈ u_ws RX1 TX1 5, w ∈ wsX5_said := by decide +kernel
  have hiX4 : ∀ w ∈ u_ws RX4 TX4 6, w ∈ wsX5_said := by decide +kernel
  have hiX5 : ∀ w ∈ u_ws RX5 TX5 10, w ∈ wsX5_said := by decide +kernel
  have hK := hC.1
  unfold f_X5_said_69_b at h
  refine lv_iload hx hb dX5_said_69 (lv_at hl 6 rfl) ?_
  refine lv_bipush (v := 24) hx hb dX5_said_71 (by decide) ?_
  refine lv_icmp_ge (tgt := 128) hx hb dX5_said_73 (by decide) (fun c1 => ?_) (fun c1 => ?_)
  · have h := ifp c1 h
    exact w_X5_said_128 a_t a_t_letters a_t_parser a_t_house a_t_now a_t_spare a_t_acts a_t_slotZero a_t_slotOne a_t_house_metals a_t_house_kinds a_t_now_lines a_t_now_picked x_t_length x_t_seedNow x_t_house_truth x_t_house_caskets x_t_house_wooers x_t_now_picture x_t_now_sung x_t_now_tried x_t_now_wed r_t_now_lines v2 v3 v4  o_r X hw  h ls (lv_sub hl [2, 3, 4] rfl)
  · have h := ifn c1 h
    refine lv_lload hx hb dX5_said_76 (lv_at hl 5 rfl) ?_
    refine lv_iload_n hx hb dX5_said_78 rfl (lv_at hl 1 rfl) ?_
    refine lv_iload hx hb dX5_said_79 (lv_at hl 6 rfl) ?_
    obtain ⟨r2, g3, h⟩ := bnd h
    refine rcS (As := [.int v1, .int v7]) (rest := [.long v5]) ⟨hx, hb, hml, hown, hts⟩ (k_X5_agreeing (l := l) (E := E) v1 v7 r2 g3) (va_cwS 2 hts gX5_said_X5_agreeing rfl rfl rfl (by decide +kernel) ⟨Nat.le_of_ble_eq_true rfl, Nat.le_of_ble_eq_true rfl⟩) hC hP [] rfl rfl hl.1 rfl (Nat.le_of_ble_eq_true rfl) dX5_said_81 ⟨Nat.zero_le _, Nat.zero_le _⟩ ?_
    refine lv_land hx hb dX5_said_84 ?_
    obtain ⟨r4, g5, h⟩ := bnd h
    refine rcS (As := [.long (v5 &&& r2)]) (rest := []) ⟨hx, hb, hml, hown, hts⟩ (k_X5_fitsOf (l := l) (E := E) (v5 &&& r2) r4 g5) (va_cwS 1 hts gX5_said_X5_fitsOf rfl rfl rfl (by decide +kernel) ⟨Nat.le_of_ble_eq_true rfl, Nat.le_of_ble_eq_true rfl⟩) hC hP [] rfl rfl hl.1 rfl (Nat.le_of_ble_eq_true rfl) dX5_said_85 ⟨Nat.zero_le _, Nat.zero_le _⟩ ?_
    refine lv_iconst (v := 1) hx hb dX5_said_88 (by decide) ?_
    refine lv_aload_n hx hb dX5_said_89 rfl (lv_at hl 0 rfl) ?_
    refine va_get (D := E.1) (ci := 5) (v := .ref a_t_now) (C := RX5) (T := TX5) (N := 10) hx hb hts hiX5 hown hK hP 0 rfl rfl 4 (by decide) (hts (.fieldLink RX5 30 "CasketLines" "now" "LCasketLines$Standing;") (by decide +kernel)) (fun _ h9 => h9) rfl dX5_said_90 ?_
    refine va_get (D := E.1) (ci := 4) (v := .int x_t_now_picture) (C := RX4) (T := TX4) (N := 6) hx hb hts hiX4 hown hK hP 2 rfl rfl 1 (by decide) (hts (.fieldLink RX5 155 "CasketLines$Standing" "picture" "I") (by decide +kernel)) (fun _ h9 => h9) rfl dX5_said_93 ?_
    refine lv_ishl hx hb dX5_said_96 ?_
    refine lv_icmp_ne (tgt := 122) hx hb dX5_said_97 (by decide) (fun c6 => ?_) (fun c6 => ?_)
    · have h := ifn c6 h
      refine lv_iinc (v := (v7 + 1)) (lv' := [(7, .int (v7 + 1)), (0, .ref a_t), (1, .int v1), (2, .int v2), (3, .int v3), (4, .int v4), (5, .long v5)]) hx hb dX5_said_122 hl (k := 6) rfl rfl (by decide) rfl (fun ls hl => ?_)
      refine lv_goto (tgt := 69) hx hb dX5_said_125 (by decide) ?_
      exact hk69 v3 v4 (v7 + 1) h ls (lv_sub hl [1, 2, 3, 4, 5, 6, 0] rfl)
    · have h := ifp c6 h
      refine lv_iinc (v := (v3 + 1)) (lv' := [(3, .int (v3 + 1)), (0, .ref a_t), (1, .int v1), (2, .int v2), (4, .int v4), (5, .long v5), (7, .int v7)]) hx hb dX5_said_100 hl (k := 3) rfl rfl (by decide) rfl (fun ls hl => ?_)
      refine lv_iload hx hb dX5_said_103 (lv_at hl 4 rfl) ?_
      refine lv_bipush (v := (-9)) hx hb dX5_said_105 (by decide) ?_
      refine lv_icmp_ne (tgt := 118) hx hb dX5_said_107 (by decide) (fun c7 => ?_) (fun c7 => ?_)
      · have h := ifn c7 h
        refine lv_iload hx hb dX5_said_118 (lv_at hl 4 rfl) ?_
        refine lv_istore (lv' := [(4, .int v4), (3, .int (v3 + 1)), (0, .ref a_t), (1, .int v1), (2, .int v2), (5, .long v5), (7, .int v7)]) hx hb dX5_said_120 hl (by decide) rfl (fun ls hl => ?_)
        refine lv_iinc (v := (v7 + 1)) (lv' := [(7, .int (v7 + 1)), (4, .int v4), (3, .int (v3 + 1)), (0, .ref a_t), (1, .int v1), (2, .int v2), (5, .long v5)]) hx hb dX5_said_122 hl (k := 6) rfl rfl (by decide) rfl (fun ls hl => ?_)
        refine lv_goto (tgt := 69) hx hb dX5_said_125 (by decide) ?_
        exact hk69 (v3 + 1) v4 (v7 + 1) h ls (lv_sub hl [3, 4, 5, 2, 1, 6, 0] rfl)
      · have h := ifp c7 h
        refine lv_iload hx hb dX5_said_110 (lv_at hl 6 rfl) ?_
        obtain ⟨r8, g9, h⟩ := bnd h
        refine rcS (As := [.int v7]) (rest := []) ⟨hx, hb, hml, hown, hts⟩ (k_X5_figuresOf (l := l) (E := E) v7 r8 g9) (va_cwS 1 hts gX5_said_X5_figuresOf rfl rfl rfl (by decide +kernel) ⟨Nat.le_of_ble_eq_true rfl, Nat.le_of_ble_eq_true rfl⟩) hC hP [] rfl rfl hl.1 rfl (Nat.le_of_ble_eq_true rfl) dX5_said_112 ⟨Nat.zero_le _, Nat.zero_le _⟩ ?_
        refine lv_goto (tgt := 120) hx hb dX5_said_115 (by decide) ?_
        refine lv_istore (lv' := [(4, .int r8), (3, .int (v3 + 1)), (0, .ref a_t), (1, .int v1), (2, .int v2), (5, .long v5), (7, .int v7)]) hx hb dX5_said_120 hl (by decide) rfl (fun ls hl => ?_)
        refine lv_iinc (v := (v7 + 1)) (lv' := [(7, .int (v7 + 1)), (4, .int r8), (3, .int (v3 + 1)), (0, .ref a_t), (1, .int v1), (2, .int v2), (5, .long v5)]) hx hb dX5_said_122 hl (k := 6) rfl rfl (by decide) rfl (fun ls hl => ?_)
        refine lv_goto (tgt := 69) hx hb dX5_said_125 (by decide) ?_
        exact hk69 (v3 + 1) r8 (v7 + 1) h ls (lv_sub hl [3, 4, 5, 2, 1, 6, 0] rfl)
set_option maxHeartbeats 4000000 in
set_option maxRecDepth 100000 in
theorem w_X5_said_69 {p : Program} {l : Launch} {e : Env} {s : State} {m : MethodId} {args : Array Value} {below : List Frame} {meth : Method} {c : Code} {E : Ev} (a_t a_t_letters a_t_parser a_t_house a_t_now a_t_spare a_t_acts a_t_slotZero a_t_slotOne a_t_house_metals a_t_house_kinds a_t_now_lines a_t_now_picked : Nat) (x_t_length : Int32) (x_t_seedNow : Int64) (x_t_house_truth : Int32) (x_t_house_caskets : Int32) (x_t_house_wooers : Int32) (x_t_now_picture : Int32) (x_t_now_sung : Int32) (x_t_now_tried : Int32) (x_t_now_wed : Int32) (r_t_now_lines : Nat → Int32) (v1 : Int32) (v2 : Int32) (v5 : Int64) (o_r : Int32) (X : Cxt p s m args meth c cX5_said 8 wsX5_said RX5 (some .int)) (hw : wd E [(a_t, .inr (5, [.ref a_t_letters, .int x_t_length, .ref a_t_parser, .ref a_t_house, .ref a_t_now, .ref a_t_spare, .ref a_t_acts, .ref a_t_slotZero, .ref a_t_slotOne, .long x_t_seedNow])), (a_t_house, .inr (1, [.int x_t_house_truth, .int x_t_house_caskets, .int x_t_house_wooers, .ref a_t_house_metals, .ref a_t_house_kinds])), (a_t_now, .inr (4, [.ref a_t_now_lines, .int x_t_now_picture, .int x_t_now_sung, .int x_t_now_tried, .int x_t_now_wed, .ref a_t_now_picked])), (a_t_now_lines, .inl (E.2.1, 4, .inl r_t_now_lines))] s s.heap) : ∀ (n : Nat) (v3 : Int32) (v4 : Int32) (v7 : Int32), f_X5_said_69 x_t_now_picture v1 v2 v5 n v3 v4 v7 = some o_r → ∀ (ls : Array Slot), lv_has ls 8 [(0, .ref a_t), (1, .int v1), (2, .int v2), (3, .int v3), (4, .int v4), (5, .long v5), (7, .int v7)] → W p l e { frames := 3, cells := 0, slots := 0, locals := 73 } s m args below meth c s.heap [] 0 0 (MQ below (Qr (some (.int o_r))) args s 0 0 (fun _ => False)) (F0 m 69 ls []) := by
  intro n
  induction n with
  | zero =>
    intro v3 v4 v7 h
    exact (rk_z _ _ h).elim
  | succ n ih =>
    intro v3 v4 v7 h ls hl
    exact w_X5_said_69_b a_t a_t_letters a_t_parser a_t_house a_t_now a_t_spare a_t_acts a_t_slotZero a_t_slotOne a_t_house_metals a_t_house_kinds a_t_now_lines a_t_now_picked x_t_length x_t_seedNow x_t_house_truth x_t_house_caskets x_t_house_wooers x_t_now_picture x_t_now_sung x_t_now_tried x_t_now_wed r_t_now_lines v1 v2 v5  o_r X hw  (rk (fun k x => f_X5_said_69_b x_t_now_picture v1 v2 v5  k (x.1) (x.2.1) (x.2.2)) n) (fun v3 v4 v7 hh => ih v3 v4 v7 hh) v3 v4 v7 h hl
set_option maxHeartbeats 4000000 in
set_option maxRecDepth 100000 in
theorem w_X5_said {p : Program} {l : Launch} {e : Env} {s : State} {m : MethodId} {args : Array Value} {below : List Frame} {meth : Method} {c : Code} {E : Ev} (a_t a_t_letters a_t_parser a_t_house a_t_now a_t_spare a_t_acts a_t_slotZero a_t_slotOne a_t_house_metals a_t_house_kinds a_t_now_lines a_t_now_picked : Nat) (x_t_length : Int32) (x_t_seedNow : Int64) (x_t_house_truth : Int32) (x_t_house_caskets : Int32) (x_t_house_wooers : Int32) (x_t_now_picture : Int32) (x_t_now_sung : Int32) (x_t_now_tried : Int32) (x_t_now_wed : Int32) (r_t_now_lines : Nat → Int32) (p1 : Int32) (p2 : Int32) (o_r : Int32) (X : Cxt p s m args meth c cX5_said 8 wsX5_said RX5 (some .int)) (hw : wd E [(a_t, .inr (5, [.ref a_t_letters, .int x_t_length, .ref a_t_parser, .ref a_t_house, .ref a_t_now, .ref a_t_spare, .ref a_t_acts, .ref a_t_slotZero, .ref a_t_slotOne, .long x_t_seedNow])), (a_t_house, .inr (1, [.int x_t_house_truth, .int x_t_house_caskets, .int x_t_house_wooers, .ref a_t_house_metals, .ref a_t_house_kinds])), (a_t_now, .inr (4, [.ref a_t_now_lines, .int x_t_now_picture, .int x_t_now_sung, .int x_t_now_tried, .int x_t_now_wed, .ref a_t_now_picked])), (a_t_now_lines, .inl (E.2.1, 4, .inl r_t_now_lines))] s s.heap) (h : f_X5_said x_t_house_truth x_t_house_caskets x_t_now_picture r_t_now_lines p1 p2 = some o_r) {ls : Array Slot} (hl : lv_has ls 8 [(0, .ref a_t), (1, .int p1), (2, .int p2)]) : W p l e { frames := 3, cells := 0, slots := 0, locals := 73 } s m args below meth c s.heap [] 0 0 (MQ below (Qr (some (.int o_r))) args s 0 0 (fun _ => False)) (F0 m 0 ls []) := by
  obtain ⟨⟨hx, hb, hml, hown, hts⟩, hr, hlocks⟩ := id X
  obtain ⟨hC, hP⟩ := id hw
  have hiX1 : ∀ w ∈ u_ws RX1 TX1 5, w ∈ wsX5_said := by decide +kernel
  have hiX4 : ∀ w ∈ u_ws RX4 TX4 6, w ∈ wsX5_said := by decide +kernel
  have hiX5 : ∀ w ∈ u_ws RX5 TX5 10, w ∈ wsX5_said := by decide +kernel
  have hK := hC.1
  unfold f_X5_said at h
  refine lv_aload_n hx hb dX5_said_0 rfl (lv_at hl 0 rfl) ?_
  refine va_get (D := E.1) (ci := 5) (v := .ref a_t_house) (C := RX5) (T := TX5) (N := 10) hx hb hts hiX5 hown hK hP 0 rfl rfl 3 (by decide) (hts (.fieldLink RX5 23 "CasketLines" "house" "LCasketLines$House;") (by decide +kernel)) (fun _ h9 => h9) rfl dX5_said_1 ?_
  refine lv_iload_n hx hb dX5_said_4 rfl (lv_at hl 1 rfl) ?_
  obtain ⟨r11, g12, h⟩ := bnd h
  refine rcV (As := [.int p1]) (rest := []) ⟨hx, hb, hml, hown, hts⟩ (k_X1_hasCasket (l := l) (E := E) a_t_house a_t_house_metals a_t_house_kinds x_t_house_truth x_t_house_caskets x_t_house_wooers p1 r11 g12) (cwV 1 hts gX5_said_X1_hasCasket rfl rfl rfl (by decide +kernel) ⟨Nat.le_of_ble_eq_true rfl, Nat.le_of_ble_eq_true rfl⟩) hC hP [1] rfl 1 1 rfl rfl rfl rfl hl.1 rfl (Nat.le_of_ble_eq_true rfl) dX5_said_5 ⟨Nat.zero_le _, Nat.zero_le _⟩ ?_
  refine lv_if_ne (tgt := 13) hx hb dX5_said_8 (by decide) (fun c13 => ?_) (fun c13 => ?_)
  · have h := ifn c13 h
    refine lv_aload_n hx hb dX5_said_13 rfl (lv_at hl 0 rfl) ?_
    refine va_get (D := E.1) (ci := 5) (v := .ref a_t_now) (C := RX5) (T := TX5) (N := 10) hx hb hts hiX5 hown hK hP 0 rfl rfl 4 (by decide) (hts (.fieldLink RX5 30 "CasketLines" "now" "LCasketLines$Standing;") (by decide +kernel)) (fun _ h9 => h9) rfl dX5_said_14 ?_
    refine va_get (D := E.1) (ci := 4) (v := .int x_t_now_picture) (C := RX4) (T := TX4) (N := 6) hx hb hts hiX4 hown hK hP 2 rfl rfl 1 (by decide) (hts (.fieldLink RX5 155 "CasketLines$Standing" "picture" "I") (by decide +kernel)) (fun _ h9 => h9) rfl dX5_said_17 ?_
    refine lv_bipush (v := (-9)) hx hb dX5_said_20 (by decide) ?_
    refine lv_icmp_ne (tgt := 36) hx hb dX5_said_22 (by decide) (fun c14 => ?_) (fun c14 => ?_)
    · have h := ifn c14 h
      refine lv_iconst (v := 0) hx hb dX5_said_36 (by decide) ?_
      refine lv_istore_n (lv' := [(3, .int 0), (0, .ref a_t), (1, .int p1), (2, .int p2)]) hx hb dX5_said_37 rfl hl (by decide) rfl (fun ls hl => ?_)
      refine lv_bipush (v := (-9)) hx hb dX5_said_38 (by decide) ?_
      refine lv_istore (lv' := [(4, .int (-9)), (3, .int 0), (0, .ref a_t), (1, .int p1), (2, .int p2)]) hx hb dX5_said_40 hl (by decide) rfl (fun ls hl => ?_)
      refine lv_aload_n hx hb dX5_said_42 rfl (lv_at hl 2 rfl) ?_
      refine va_get (D := E.1) (ci := 5) (v := .ref a_t_house) (C := RX5) (T := TX5) (N := 10) hx hb hts hiX5 hown hK hP 0 rfl rfl 3 (by decide) (hts (.fieldLink RX5 23 "CasketLines" "house" "LCasketLines$House;") (by decide +kernel)) (fun _ h9 => h9) rfl dX5_said_43 ?_
      refine lv_aload_n hx hb dX5_said_46 rfl (lv_at hl 2 rfl) ?_
      refine va_get (D := E.1) (ci := 5) (v := .ref a_t_now) (C := RX5) (T := TX5) (N := 10) hx hb hts hiX5 hown hK hP 0 rfl rfl 4 (by decide) (hts (.fieldLink RX5 30 "CasketLines" "now" "LCasketLines$Standing;") (by decide +kernel)) (fun _ h9 => h9) rfl dX5_said_47 ?_
      refine va_get (D := E.1) (ci := 4) (v := .ref a_t_now_lines) (C := RX4) (T := TX4) (N := 6) hx hb hts hiX4 hown hK hP 2 rfl rfl 0 (by decide) (hts (.fieldLink RX5 100 "CasketLines$Standing" "lines" "[I") (by decide +kernel)) (fun _ h9 => h9) rfl dX5_said_50 ?_
      refine lv_bipush (v := 15) hx hb dX5_said_53 (by decide) ?_
      refine lv_iconst (v := 1) hx hb dX5_said_55 (by decide) ?_
      refine lv_iload_n hx hb dX5_said_56 rfl (lv_at hl 3 rfl) ?_
      refine lv_ishl hx hb dX5_said_57 ?_
      refine lv_iconst (v := (-1)) hx hb dX5_said_58 (by decide) ?_
      refine lv_ixor hx hb dX5_said_59 ?_
      refine lv_iand hx hb dX5_said_60 ?_
      obtain ⟨r15, g16, h⟩ := bnd h
      refine rcS (As := [.ref a_t_house, .ref a_t_now_lines, .int (15 &&& (((1 : Int32) <<< (p1 &&& 31)) ^^^ (-1)))]) (rest := []) ⟨hx, hb, hml, hown, hts⟩ (k_X5_readingsOf (l := l) (E := E) a_t_house a_t_now_lines a_t_house_metals a_t_house_kinds x_t_house_truth x_t_house_caskets x_t_house_wooers 4 r_t_now_lines (15 &&& (((1 : Int32) <<< (p1 &&& 31)) ^^^ (-1))) r15 g16) (va_cwS 3 hts gX5_said_X5_readingsOf rfl rfl rfl (by decide +kernel) ⟨Nat.le_of_ble_eq_true rfl, Nat.le_of_ble_eq_true rfl⟩) hC hP [1, 3] rfl rfl hl.1 rfl (Nat.le_of_ble_eq_true rfl) dX5_said_61 ⟨Nat.zero_le _, Nat.zero_le _⟩ ?_
      refine lv_lstore (lv' := [(5, .long r15), (4, .int (-9)), (3, .int 0), (0, .ref a_t), (1, .int p1), (2, .int p2)]) hx hb dX5_said_64 hl (by decide) rfl (fun ls hl => ?_)
      refine lv_iconst (v := 0) hx hb dX5_said_66 (by decide) ?_
      refine lv_istore (lv' := [(7, .int 0), (5, .long r15), (4, .int (-9)), (3, .int 0), (0, .ref a_t), (1, .int p1), (2, .int p2)]) hx hb dX5_said_67 hl (by decide) rfl (fun ls hl => ?_)
      exact w_X5_said_69 a_t a_t_letters a_t_parser a_t_house a_t_now a_t_spare a_t_acts a_t_slotZero a_t_slotOne a_t_house_metals a_t_house_kinds a_t_now_lines a_t_now_picked x_t_length x_t_seedNow x_t_house_truth x_t_house_caskets x_t_house_wooers x_t_now_picture x_t_now_sung x_t_now_tried x_t_now_wed r_t_now_lines p1 p2 r15  o_r X hw  200 0 (-9) 0 h ls (lv_sub hl [4, 5, 6, 3, 2, 1, 0] rfl)
    · have h := ifp c14 h
      refine lv_iload_n hx hb dX5_said_25 rfl (lv_at hl 2 rfl) ?_
      refine lv_if_eq (tgt := 34) hx hb dX5_said_26 (by decide) (fun c17 => ?_) (fun c17 => ?_)
      · have h := ifp c17 h
        refine lv_iconst (v := 0) hx hb dX5_said_34 (by decide) ?_
        exact W.iret hx hb hr (fun t ht _ => ⟨by cases h; rfl, ht⟩) (fun _ hq => absurd hq List.not_mem_nil) dX5_said_35
      · have h := ifn c17 h
        refine lv_bipush (v := (-9)) hx hb dX5_said_29 (by decide) ?_
        refine lv_goto (tgt := 35) hx hb dX5_said_31 (by decide) ?_
        exact W.iret hx hb hr (fun t ht _ => ⟨by cases h; rfl, ht⟩) (fun _ hq => absurd hq List.not_mem_nil) dX5_said_35
  · have h := ifp c13 h
    refine lv_iconst (v := (-1)) hx hb dX5_said_11 (by decide) ?_
    exact W.iret hx hb hr (fun t ht _ => ⟨by cases h; rfl, ht⟩) (fun _ hq => absurd hq List.not_mem_nil) dX5_said_12
set_option maxHeartbeats 4000000 in
set_option maxRecDepth 100000 in
theorem k_X5_said {l : Launch} {E : Ev} (a_t a_t_letters a_t_parser a_t_house a_t_now a_t_spare a_t_acts a_t_slotZero a_t_slotOne a_t_house_metals a_t_house_kinds a_t_now_lines a_t_now_picked : Nat) (x_t_length : Int32) (x_t_seedNow : Int64) (x_t_house_truth : Int32) (x_t_house_caskets : Int32) (x_t_house_wooers : Int32) (x_t_now_picture : Int32) (x_t_now_sung : Int32) (x_t_now_tried : Int32) (x_t_now_wed : Int32) (r_t_now_lines : Nat → Int32) (p1 : Int32) (p2 : Int32) (o_r : Int32) (hf : f_X5_said x_t_house_truth x_t_house_caskets x_t_now_picture r_t_now_lines p1 p2 = some o_r) : Met l yX5_said wsX5_said ({ frames := 3, cells := 0, slots := 0, locals := 73 }) (Pr E [.ref a_t, .int p1, .int p2] [(a_t, .inr (5, [.ref a_t_letters, .int x_t_length, .ref a_t_parser, .ref a_t_house, .ref a_t_now, .ref a_t_spare, .ref a_t_acts, .ref a_t_slotZero, .ref a_t_slotOne, .long x_t_seedNow])), (a_t_house, .inr (1, [.int x_t_house_truth, .int x_t_house_caskets, .int x_t_house_wooers, .ref a_t_house_metals, .ref a_t_house_kinds])), (a_t_now, .inr (4, [.ref a_t_now_lines, .int x_t_now_picture, .int x_t_now_sung, .int x_t_now_tried, .int x_t_now_wed, .ref a_t_now_picked])), (a_t_now_lines, .inl (E.2.1, 4, .inl r_t_now_lines))]) (Qr (some (.int o_r))) 0 0 (fun _ => False) := by
  refine Met.ofW (cc := cX5_said) (maxL := 8) (ret := (some .int)) (by decide) rfl ?_
  intro p e s m args below meth c s₁ B hml hv
  obtain ⟨rfl, hw⟩ := hv
  have X := Cxt.of B hml
  have hl := lv_entry ([.ref a_t, .int p1, .int p2]) (n := 8) (Nat.le_of_ble_eq_true rfl)
  rw [lg_entry_eq]
  exact w_X5_said a_t a_t_letters a_t_parser a_t_house a_t_now a_t_spare a_t_acts a_t_slotZero a_t_slotOne a_t_house_metals a_t_house_kinds a_t_now_lines a_t_now_picked x_t_length x_t_seedNow x_t_house_truth x_t_house_caskets x_t_house_wooers x_t_now_picture x_t_now_sung x_t_now_tried x_t_now_wed r_t_now_lines p1 p2 o_r X hw hf hl
set_option maxHeartbeats 4000000 in
set_option maxRecDepth 100000 in
theorem w_X5_weightOf_52 {p : Program} {l : Launch} {e : Env} {s : State} {m : MethodId} {args : Array Value} {below : List Frame} {meth : Method} {c : Code} {E : Ev} (a_t a_t_letters a_t_parser a_t_house a_t_now a_t_spare a_t_acts a_t_slotZero a_t_slotOne a_t_house_metals a_t_house_kinds a_t_now_lines a_t_now_picked : Nat) (x_t_length : Int32) (x_t_seedNow : Int64) (x_t_house_truth : Int32) (x_t_house_caskets : Int32) (x_t_house_wooers : Int32) (r_t_house_metals : Nat → Int32) (x_t_now_picture : Int32) (x_t_now_sung : Int32) (x_t_now_tried : Int32) (x_t_now_wed : Int32) (v2 : Int32) (v4 : Int32) (o_r : Int32) (X : Cxt p s m args meth c cX5_weightOf 6 wsX5_weightOf RX5 (some .int)) (hw : wd E [(a_t, .inr (5, [.ref a_t_letters, .int x_t_length, .ref a_t_parser, .ref a_t_house, .ref a_t_now, .ref a_t_spare, .ref a_t_acts, .ref a_t_slotZero, .ref a_t_slotOne, .long x_t_seedNow])), (a_t_house, .inr (1, [.int x_t_house_truth, .int x_t_house_caskets, .int x_t_house_wooers, .ref a_t_house_metals, .ref a_t_house_kinds])), (a_t_house_metals, .inl (E.2.1, 4, .inl r_t_house_metals)), (a_t_now, .inr (4, [.ref a_t_now_lines, .int x_t_now_picture, .int x_t_now_sung, .int x_t_now_tried, .int x_t_now_wed, .ref a_t_now_picked]))] s s.heap) (h : f_X5_weightOf_52 v2 v4 = some o_r) (ls : Array Slot) (hl : lv_has ls 6 [(2, .int v2), (4, .int v4)]) : W p l e { frames := 2, cells := 0, slots := 0, locals := 49 } s m args below meth c s.heap [] 0 0 (MQ below (Qr (some (.int o_r))) args s 0 0 (fun _ => False)) (F0 m 52 ls []) := by
  obtain ⟨⟨hx, hb, hml, hown, hts⟩, hr, hlocks⟩ := id X
  obtain ⟨hC, hP⟩ := id hw
  have hiX1 : ∀ w ∈ u_ws RX1 TX1 5, w ∈ wsX5_weightOf := by decide +kernel
  have hiX4 : ∀ w ∈ u_ws RX4 TX4 6, w ∈ wsX5_weightOf := by decide +kernel
  have hiX5 : ∀ w ∈ u_ws RX5 TX5 10, w ∈ wsX5_weightOf := by decide +kernel
  have hK := hC.1
  unfold f_X5_weightOf_52 at h
  refine lv_iload hx hb dX5_weightOf_52 (lv_at hl 1 rfl) ?_
  refine lv_iload_n hx hb dX5_weightOf_54 rfl (lv_at hl 0 rfl) ?_
  obtain ⟨r5, g6, h⟩ := bnd h
  refine rcS (As := [.int v4, .int v2]) (rest := []) ⟨hx, hb, hml, hown, hts⟩ (k_X5_power (l := l) (E := E) v4 v2 r5 g6) (va_cwS 2 hts gX5_weightOf_X5_power rfl rfl rfl (by decide +kernel) ⟨Nat.le_of_ble_eq_true rfl, Nat.le_of_ble_eq_true rfl⟩) hC hP [] rfl rfl hl.1 rfl (Nat.le_of_ble_eq_true rfl) dX5_weightOf_55 ⟨Nat.zero_le _, Nat.zero_le _⟩ ?_
  exact W.iret hx hb hr (fun t ht _ => ⟨by cases h; rfl, ht⟩) (fun _ hq => absurd hq List.not_mem_nil) dX5_weightOf_58
set_option maxHeartbeats 4000000 in
set_option maxRecDepth 100000 in
theorem w_X5_weightOf_16_b {p : Program} {l : Launch} {e : Env} {s : State} {m : MethodId} {args : Array Value} {below : List Frame} {meth : Method} {c : Code} {E : Ev} (a_t a_t_letters a_t_parser a_t_house a_t_now a_t_spare a_t_acts a_t_slotZero a_t_slotOne a_t_house_metals a_t_house_kinds a_t_now_lines a_t_now_picked : Nat) (x_t_length : Int32) (x_t_seedNow : Int64) (x_t_house_truth : Int32) (x_t_house_caskets : Int32) (x_t_house_wooers : Int32) (r_t_house_metals : Nat → Int32) (x_t_now_picture : Int32) (x_t_now_sung : Int32) (x_t_now_tried : Int32) (x_t_now_wed : Int32) (v1 : Int32) (v2 : Int32) (v3 : Int32) (o_r : Int32) (X : Cxt p s m args meth c cX5_weightOf 6 wsX5_weightOf RX5 (some .int)) (hw : wd E [(a_t, .inr (5, [.ref a_t_letters, .int x_t_length, .ref a_t_parser, .ref a_t_house, .ref a_t_now, .ref a_t_spare, .ref a_t_acts, .ref a_t_slotZero, .ref a_t_slotOne, .long x_t_seedNow])), (a_t_house, .inr (1, [.int x_t_house_truth, .int x_t_house_caskets, .int x_t_house_wooers, .ref a_t_house_metals, .ref a_t_house_kinds])), (a_t_house_metals, .inl (E.2.1, 4, .inl r_t_house_metals)), (a_t_now, .inr (4, [.ref a_t_now_lines, .int x_t_now_picture, .int x_t_now_sung, .int x_t_now_tried, .int x_t_now_wed, .ref a_t_now_picked]))] s s.heap) (k16 : Int32 × Int32 → Option (Int32)) (hk16 : ∀ (v4 : Int32) (v5 : Int32), k16 (v4, v5) = some o_r → ∀ (ls : Array Slot), lv_has ls 6 [(0, .ref a_t), (1, .int v1), (2, .int v2), (3, .int v3), (4, .int v4), (5, .int v5)] → W p l e { frames := 2, cells := 0, slots := 0, locals := 49 } s m args below meth c s.heap [] 0 0 (MQ below (Qr (some (.int o_r))) args s 0 0 (fun _ => False)) (F0 m 16 ls [])) (v4 : Int32) (v5 : Int32) (h : f_X5_weightOf_16_b x_t_house_caskets r_t_house_metals x_t_now_sung v1 v2 v3 k16 v4 v5 = some o_r) {ls : Array Slot} (hl : lv_has ls 6 [(0, .ref a_t), (1, .int v1), (2, .int v2), (3, .int v3), (4, .int v4), (5, .int v5)]) : W p l e { frames := 2, cells := 0, slots := 0, locals := 49 } s m args below meth c s.heap [] 0 0 (MQ below (Qr (some (.int o_r))) args s 0 0 (fun _ => False)) (F0 m 16 ls []) := by
  obtain ⟨⟨hx, hb, hml, hown, hts⟩, hr, hlocks⟩ := id X
  obtain ⟨hC, hP⟩ := id hw
  have hiX1 : ∀ w ∈ u_ws RX1 TX1 5, w ∈ wsX5_weightOf := by decide +kernel
  have hiX4 : ∀ w ∈ u_ws RX4 TX4 6, w ∈ wsX5_weightOf := by decide +kernel
  have hiX5 : ∀ w ∈ u_ws RX5 TX5 10, w ∈ wsX5_weightOf := by decide +kernel
  have hK := hC.1
  unfold f_X5_weightOf_16_b at h
  refine lv_iload hx hb dX5_weightOf_16 (lv_at hl 5 rfl) ?_
  refine lv_iconst (v := 4) hx hb dX5_weightOf_18 (by decide) ?_
  refine lv_icmp_ge (tgt := 52) hx hb dX5_weightOf_19 (by decide) (fun c1 => ?_) (fun c1 => ?_)
  · have h := ifp c1 h
    exact w_X5_weightOf_52 a_t a_t_letters a_t_parser a_t_house a_t_now a_t_spare a_t_acts a_t_slotZero a_t_slotOne a_t_house_metals a_t_house_kinds a_t_now_lines a_t_now_picked x_t_length x_t_seedNow x_t_house_truth x_t_house_caskets x_t_house_wooers r_t_house_metals x_t_now_picture x_t_now_sung x_t_now_tried x_t_now_wed v2 v4  o_r X hw  h ls (lv_sub hl [2, 4] rfl)
  · have h := ifn c1 h
    refine lv_aload_n hx hb dX5_weightOf_22 rfl (lv_at hl 0 rfl) ?_
    refine va_get (D := E.1) (ci := 5) (v := .ref a_t_house) (C := RX5) (T := TX5) (N := 10) hx hb hts hiX5 hown hK hP 0 rfl rfl 3 (by decide) (hts (.fieldLink RX5 23 "CasketLines" "house" "LCasketLines$House;") (by decide +kernel)) (fun _ h9 => h9) rfl dX5_weightOf_23 ?_
    refine lv_iload hx hb dX5_weightOf_26 (lv_at hl 5 rfl) ?_
    refine lv_iload_n hx hb dX5_weightOf_28 rfl (lv_at hl 3 rfl) ?_
    refine lv_aload_n hx hb dX5_weightOf_29 rfl (lv_at hl 0 rfl) ?_
    refine va_get (D := E.1) (ci := 5) (v := .ref a_t_now) (C := RX5) (T := TX5) (N := 10) hx hb hts hiX5 hown hK hP 0 rfl rfl 4 (by decide) (hts (.fieldLink RX5 30 "CasketLines" "now" "LCasketLines$Standing;") (by decide +kernel)) (fun _ h9 => h9) rfl dX5_weightOf_30 ?_
    refine va_get (D := E.1) (ci := 4) (v := .int x_t_now_sung) (C := RX4) (T := TX4) (N := 6) hx hb hts hiX4 hown hK hP 3 rfl rfl 2 (by decide) (hts (.fieldLink RX5 103 "CasketLines$Standing" "sung" "I") (by decide +kernel)) (fun _ h9 => h9) rfl dX5_weightOf_33 ?_
    obtain ⟨r2, g3, h⟩ := bnd h
    refine rcV (As := [.int v5, .int v3, .int x_t_now_sung]) (rest := []) ⟨hx, hb, hml, hown, hts⟩ (k_X1_pickOf (l := l) (E := E) a_t_house a_t_house_metals a_t_house_kinds x_t_house_truth x_t_house_caskets x_t_house_wooers r_t_house_metals v5 v3 x_t_now_sung r2 g3) (cwV 3 hts gX5_weightOf_X1_pickOf rfl rfl rfl (by decide +kernel) ⟨Nat.le_of_ble_eq_true rfl, Nat.le_of_ble_eq_true rfl⟩) hC hP [1, 2] rfl 1 1 rfl rfl rfl rfl hl.1 rfl (Nat.le_of_ble_eq_true rfl) dX5_weightOf_36 ⟨Nat.zero_le _, Nat.zero_le _⟩ ?_
    refine lv_iload_n hx hb dX5_weightOf_39 rfl (lv_at hl 1 rfl) ?_
    refine lv_icmp_eq (tgt := 46) hx hb dX5_weightOf_40 (by decide) (fun c4 => ?_) (fun c4 => ?_)
    · have h := ifp c4 h
      refine lv_iinc (v := (v5 + 1)) (lv' := [(5, .int (v5 + 1)), (0, .ref a_t), (1, .int v1), (2, .int v2), (3, .int v3), (4, .int v4)]) hx hb dX5_weightOf_46 hl (k := 5) rfl rfl (by decide) rfl (fun ls hl => ?_)
      refine lv_goto (tgt := 16) hx hb dX5_weightOf_49 (by decide) ?_
      exact hk16 v4 (v5 + 1) h ls (lv_sub hl [1, 2, 3, 4, 5, 0] rfl)
    · have h := ifn c4 h
      refine lv_iinc (v := (v4 + 1)) (lv' := [(4, .int (v4 + 1)), (0, .ref a_t), (1, .int v1), (2, .int v2), (3, .int v3), (5, .int v5)]) hx hb dX5_weightOf_43 hl (k := 4) rfl rfl (by decide) rfl (fun ls hl => ?_)
      refine lv_iinc (v := (v5 + 1)) (lv' := [(5, .int (v5 + 1)), (4, .int (v4 + 1)), (0, .ref a_t), (1, .int v1), (2, .int v2), (3, .int v3)]) hx hb dX5_weightOf_46 hl (k := 5) rfl rfl (by decide) rfl (fun ls hl => ?_)
      refine lv_goto (tgt := 16) hx hb dX5_weightOf_49 (by decide) ?_
      exact hk16 (v4 + 1) (v5 + 1) h ls (lv_sub hl [2, 3, 4, 5, 1, 0] rfl)
set_option maxHeartbeats 4000000 in
set_option maxRecDepth 100000 in
theorem w_X5_weightOf_16 {p : Program} {l : Launch} {e : Env} {s : State} {m : MethodId} {args : Array Value} {below : List Frame} {meth : Method} {c : Code} {E : Ev} (a_t a_t_letters a_t_parser a_t_house a_t_now a_t_spare a_t_acts a_t_slotZero a_t_slotOne a_t_house_metals a_t_house_kinds a_t_now_lines a_t_now_picked : Nat) (x_t_length : Int32) (x_t_seedNow : Int64) (x_t_house_truth : Int32) (x_t_house_caskets : Int32) (x_t_house_wooers : Int32) (r_t_house_metals : Nat → Int32) (x_t_now_picture : Int32) (x_t_now_sung : Int32) (x_t_now_tried : Int32) (x_t_now_wed : Int32) (v1 : Int32) (v2 : Int32) (v3 : Int32) (o_r : Int32) (X : Cxt p s m args meth c cX5_weightOf 6 wsX5_weightOf RX5 (some .int)) (hw : wd E [(a_t, .inr (5, [.ref a_t_letters, .int x_t_length, .ref a_t_parser, .ref a_t_house, .ref a_t_now, .ref a_t_spare, .ref a_t_acts, .ref a_t_slotZero, .ref a_t_slotOne, .long x_t_seedNow])), (a_t_house, .inr (1, [.int x_t_house_truth, .int x_t_house_caskets, .int x_t_house_wooers, .ref a_t_house_metals, .ref a_t_house_kinds])), (a_t_house_metals, .inl (E.2.1, 4, .inl r_t_house_metals)), (a_t_now, .inr (4, [.ref a_t_now_lines, .int x_t_now_picture, .int x_t_now_sung, .int x_t_now_tried, .int x_t_now_wed, .ref a_t_now_picked]))] s s.heap) : ∀ (n : Nat) (v4 : Int32) (v5 : Int32), f_X5_weightOf_16 x_t_house_caskets r_t_house_metals x_t_now_sung v1 v2 v3 n v4 v5 = some o_r → ∀ (ls : Array Slot), lv_has ls 6 [(0, .ref a_t), (1, .int v1), (2, .int v2), (3, .int v3), (4, .int v4), (5, .int v5)] → W p l e { frames := 2, cells := 0, slots := 0, locals := 49 } s m args below meth c s.heap [] 0 0 (MQ below (Qr (some (.int o_r))) args s 0 0 (fun _ => False)) (F0 m 16 ls []) := by
  intro n
  induction n with
  | zero =>
    intro v4 v5 h
    exact (rk_z _ _ h).elim
  | succ n ih =>
    intro v4 v5 h ls hl
    exact w_X5_weightOf_16_b a_t a_t_letters a_t_parser a_t_house a_t_now a_t_spare a_t_acts a_t_slotZero a_t_slotOne a_t_house_metals a_t_house_kinds a_t_now_lines a_t_now_picked x_t_length x_t_seedNow x_t_house_truth x_t_house_caskets x_t_house_wooers r_t_house_metals x_t_now_picture x_t_now_sung x_t_now_tried x_t_now_wed v1 v2 v3  o_r X hw  (rk (fun k x => f_X5_weightOf_16_b x_t_house_caskets r_t_house_metals x_t_now_sung v1 v2 v3  k (x.1) (x.2)) n) (fun v4 v5 hh => ih v4 v5 hh) v4 v5 h hl
set_option maxHeartbeats 4000000 in
set_option maxRecDepth 100000 in
theorem w_X5_weightOf {p : Program} {l : Launch} {e : Env} {s : State} {m : MethodId} {args : Array Value} {below : List Frame} {meth : Method} {c : Code} {E : Ev} (a_t a_t_letters a_t_parser a_t_house a_t_now a_t_spare a_t_acts a_t_slotZero a_t_slotOne a_t_house_metals a_t_house_kinds a_t_now_lines a_t_now_picked : Nat) (x_t_length : Int32) (x_t_seedNow : Int64) (x_t_house_truth : Int32) (x_t_house_caskets : Int32) (x_t_house_wooers : Int32) (r_t_house_metals : Nat → Int32) (x_t_now_picture : Int32) (x_t_now_sung : Int32) (x_t_now_tried : Int32) (x_t_now_wed : Int32) (p1 : Int32) (p2 : Int32) (p3 : Int32) (o_r : Int32) (X : Cxt p s m args meth c cX5_weightOf 6 wsX5_weightOf RX5 (some .int)) (hw : wd E [(a_t, .inr (5, [.ref a_t_letters, .int x_t_length, .ref a_t_parser, .ref a_t_house, .ref a_t_now, .ref a_t_spare, .ref a_t_acts, .ref a_t_slotZero, .ref a_t_slotOne, .long x_t_seedNow])), (a_t_house, .inr (1, [.int x_t_house_truth, .int x_t_house_caskets, .int x_t_house_wooers, .ref a_t_house_metals, .ref a_t_house_kinds])), (a_t_house_metals, .inl (E.2.1, 4, .inl r_t_house_metals)), (a_t_now, .inr (4, [.ref a_t_now_lines, .int x_t_now_picture, .int x_t_now_sung, .int x_t_now_tried, .int x_t_now_wed, .ref a_t_now_picked]))] s s.heap) (h : f_X5_weightOf x_t_house_caskets r_t_house_metals x_t_now_sung p1 p2 p3 = some o_r) {ls : Array Slot} (hl : lv_has ls 6 [(0, .ref a_t), (1, .int p1), (2, .int p2), (3, .int p3)]) : W p l e { frames := 2, cells := 0, slots := 0, locals := 49 } s m args below meth c s.heap [] 0 0 (MQ below (Qr (some (.int o_r))) args s 0 0 (fun _ => False)) (F0 m 0 ls []) := by
  obtain ⟨⟨hx, hb, hml, hown, hts⟩, hr, hlocks⟩ := id X
  obtain ⟨hC, hP⟩ := id hw
  have hiX1 : ∀ w ∈ u_ws RX1 TX1 5, w ∈ wsX5_weightOf := by decide +kernel
  have hiX4 : ∀ w ∈ u_ws RX4 TX4 6, w ∈ wsX5_weightOf := by decide +kernel
  have hiX5 : ∀ w ∈ u_ws RX5 TX5 10, w ∈ wsX5_weightOf := by decide +kernel
  have hK := hC.1
  unfold f_X5_weightOf at h
  refine lv_iload_n hx hb dX5_weightOf_0 rfl (lv_at hl 3 rfl) ?_
  refine lv_iload_n hx hb dX5_weightOf_1 rfl (lv_at hl 1 rfl) ?_
  refine lv_ishr hx hb dX5_weightOf_2 ?_
  refine lv_iconst (v := 1) hx hb dX5_weightOf_3 (by decide) ?_
  refine lv_iand hx hb dX5_weightOf_4 ?_
  refine lv_if_ne (tgt := 10) hx hb dX5_weightOf_5 (by decide) (fun c7 => ?_) (fun c7 => ?_)
  · have h := ifn c7 h
    refine lv_iconst (v := 0) hx hb dX5_weightOf_10 (by decide) ?_
    refine lv_istore (lv' := [(4, .int 0), (0, .ref a_t), (1, .int p1), (2, .int p2), (3, .int p3)]) hx hb dX5_weightOf_11 hl (by decide) rfl (fun ls hl => ?_)
    refine lv_iconst (v := 0) hx hb dX5_weightOf_13 (by decide) ?_
    refine lv_istore (lv' := [(5, .int 0), (4, .int 0), (0, .ref a_t), (1, .int p1), (2, .int p2), (3, .int p3)]) hx hb dX5_weightOf_14 hl (by decide) rfl (fun ls hl => ?_)
    exact w_X5_weightOf_16 a_t a_t_letters a_t_parser a_t_house a_t_now a_t_spare a_t_acts a_t_slotZero a_t_slotOne a_t_house_metals a_t_house_kinds a_t_now_lines a_t_now_picked x_t_length x_t_seedNow x_t_house_truth x_t_house_caskets x_t_house_wooers r_t_house_metals x_t_now_picture x_t_now_sung x_t_now_tried x_t_now_wed p1 p2 p3  o_r X hw  200 0 0 h ls (lv_sub hl [2, 3, 4, 5, 1, 0] rfl)
  · have h := ifp c7 h
    refine lv_iconst (v := 0) hx hb dX5_weightOf_8 (by decide) ?_
    exact W.iret hx hb hr (fun t ht _ => ⟨by cases h; rfl, ht⟩) (fun _ hq => absurd hq List.not_mem_nil) dX5_weightOf_9
set_option maxHeartbeats 4000000 in
set_option maxRecDepth 100000 in
theorem k_X5_weightOf {l : Launch} {E : Ev} (a_t a_t_letters a_t_parser a_t_house a_t_now a_t_spare a_t_acts a_t_slotZero a_t_slotOne a_t_house_metals a_t_house_kinds a_t_now_lines a_t_now_picked : Nat) (x_t_length : Int32) (x_t_seedNow : Int64) (x_t_house_truth : Int32) (x_t_house_caskets : Int32) (x_t_house_wooers : Int32) (r_t_house_metals : Nat → Int32) (x_t_now_picture : Int32) (x_t_now_sung : Int32) (x_t_now_tried : Int32) (x_t_now_wed : Int32) (p1 : Int32) (p2 : Int32) (p3 : Int32) (o_r : Int32) (hf : f_X5_weightOf x_t_house_caskets r_t_house_metals x_t_now_sung p1 p2 p3 = some o_r) : Met l yX5_weightOf wsX5_weightOf ({ frames := 2, cells := 0, slots := 0, locals := 49 }) (Pr E [.ref a_t, .int p1, .int p2, .int p3] [(a_t, .inr (5, [.ref a_t_letters, .int x_t_length, .ref a_t_parser, .ref a_t_house, .ref a_t_now, .ref a_t_spare, .ref a_t_acts, .ref a_t_slotZero, .ref a_t_slotOne, .long x_t_seedNow])), (a_t_house, .inr (1, [.int x_t_house_truth, .int x_t_house_caskets, .int x_t_house_wooers, .ref a_t_house_metals, .ref a_t_house_kinds])), (a_t_house_metals, .inl (E.2.1, 4, .inl r_t_house_metals)), (a_t_now, .inr (4, [.ref a_t_now_lines, .int x_t_now_picture, .int x_t_now_sung, .int x_t_now_tried, .int x_t_now_wed, .ref a_t_now_picked]))]) (Qr (some (.int o_r))) 0 0 (fun _ => False) := by
  refine Met.ofW (cc := cX5_weightOf) (maxL := 6) (ret := (some .int)) (by decide) rfl ?_
  intro p e s m args below meth c s₁ B hml hv
  obtain ⟨rfl, hw⟩ := hv
  have X := Cxt.of B hml
  have hl := lv_entry ([.ref a_t, .int p1, .int p2, .int p3]) (n := 6) (Nat.le_of_ble_eq_true rfl)
  rw [lg_entry_eq]
  exact w_X5_weightOf a_t a_t_letters a_t_parser a_t_house a_t_now a_t_spare a_t_acts a_t_slotZero a_t_slotOne a_t_house_metals a_t_house_kinds a_t_now_lines a_t_now_picked x_t_length x_t_seedNow x_t_house_truth x_t_house_caskets x_t_house_wooers r_t_house_metals x_t_now_picture x_t_now_sung x_t_now_tried x_t_now_wed p1 p2 p3 o_r X hw hf hl
set_option maxHeartbeats 4000000 in
set_option maxRecDepth 100000 in
theorem w_X5_belief_82 {p : Program} {l : Launch} {e : Env} {s : State} {m : MethodId} {args : Array Value} {below : List Frame} {meth : Method} {c : Code} {E : Ev} (a_t a_t_letters a_t_parser a_t_house a_t_now a_t_spare a_t_acts a_t_slotZero a_t_slotOne a_t_house_metals a_t_house_kinds a_t_now_lines a_t_now_picked : Nat) (x_t_length : Int32) (x_t_seedNow : Int64) (x_t_house_truth : Int32) (x_t_house_caskets : Int32) (x_t_house_wooers : Int32) (r_t_house_metals : Nat → Int32) (x_t_now_picture : Int32) (x_t_now_sung : Int32) (x_t_now_tried : Int32) (x_t_now_wed : Int32) (r_t_now_lines : Nat → Int32) (v1 : Int32) (v2 : Int32) (v3 : Int32) (v4 : Int32) (v5 : Int32) (o_r : Int32) (X : Cxt p s m args meth c cX5_belief 7 wsX5_belief RX5 (some .int)) (hw : wd E [(a_t, .inr (5, [.ref a_t_letters, .int x_t_length, .ref a_t_parser, .ref a_t_house, .ref a_t_now, .ref a_t_spare, .ref a_t_acts, .ref a_t_slotZero, .ref a_t_slotOne, .long x_t_seedNow])), (a_t_house, .inr (1, [.int x_t_house_truth, .int x_t_house_caskets, .int x_t_house_wooers, .ref a_t_house_metals, .ref a_t_house_kinds])), (a_t_house_metals, .inl (E.2.1, 4, .inl r_t_house_metals)), (a_t_now, .inr (4, [.ref a_t_now_lines, .int x_t_now_picture, .int x_t_now_sung, .int x_t_now_tried, .int x_t_now_wed, .ref a_t_now_picked])), (a_t_now_lines, .inl (E.2.1, 4, .inl r_t_now_lines))] s s.heap) (h : f_X5_belief_82 x_t_house_caskets r_t_house_metals x_t_now_sung v1 v2 v3 v4 v5 = some o_r) (ls : Array Slot) (hl : lv_has ls 7 [(0, .ref a_t), (1, .int v1), (2, .int v2), (3, .int v3), (4, .int v4), (5, .int v5)]) : W p l e { frames := 4, cells := 0, slots := 0, locals := 94 } s m args below meth c s.heap [] 0 0 (MQ below (Qr (some (.int o_r))) args s 0 0 (fun _ => False)) (F0 m 82 ls []) := by
  obtain ⟨⟨hx, hb, hml, hown, hts⟩, hr, hlocks⟩ := id X
  obtain ⟨hC, hP⟩ := id hw
  have hiX1 : ∀ w ∈ u_ws RX1 TX1 5, w ∈ wsX5_belief := by decide +kernel
  have hiX4 : ∀ w ∈ u_ws RX4 TX4 6, w ∈ wsX5_belief := by decide +kernel
  have hiX5 : ∀ w ∈ u_ws RX5 TX5 10, w ∈ wsX5_belief := by decide +kernel
  have hK := hC.1
  unfold f_X5_belief_82 at h
  refine lv_aload_n hx hb dX5_belief_82 rfl (lv_at hl 0 rfl) ?_
  refine lv_iload_n hx hb dX5_belief_83 rfl (lv_at hl 1 rfl) ?_
  refine lv_iload_n hx hb dX5_belief_84 rfl (lv_at hl 2 rfl) ?_
  refine lv_iload hx hb dX5_belief_85 (lv_at hl 4 rfl) ?_
  obtain ⟨r5, g6, h⟩ := bnd h
  refine rcV (As := [.int v1, .int v2, .int v4]) (rest := []) ⟨hx, hb, hml, hown, hts⟩ (k_X5_weightOf (l := l) (E := E) a_t a_t_letters a_t_parser a_t_house a_t_now a_t_spare a_t_acts a_t_slotZero a_t_slotOne a_t_house_metals a_t_house_kinds a_t_now_lines a_t_now_picked x_t_length x_t_seedNow x_t_house_truth x_t_house_caskets x_t_house_wooers r_t_house_metals x_t_now_picture x_t_now_sung x_t_now_tried x_t_now_wed v1 v2 v4 r5 g6) (cwV 3 hts gX5_belief_X5_weightOf rfl rfl rfl (by decide +kernel) ⟨Nat.le_of_ble_eq_true rfl, Nat.le_of_ble_eq_true rfl⟩) hC hP [0, 1, 2, 3] rfl 0 5 rfl rfl rfl rfl hl.1 rfl (Nat.le_of_ble_eq_true rfl) dX5_belief_87 ⟨Nat.zero_le _, Nat.zero_le _⟩ ?_
  refine lv_iload hx hb dX5_belief_90 (lv_at hl 5 rfl) ?_
  refine lv_iload_n hx hb dX5_belief_92 rfl (lv_at hl 3 rfl) ?_
  obtain ⟨r7, g8, h⟩ := bnd h
  refine rcS (As := [.int r5, .int v5, .int v3]) (rest := []) ⟨hx, hb, hml, hown, hts⟩ (k_X5_partOf (l := l) (E := E) r5 v5 v3 r7 g8) (va_cwS 3 hts gX5_belief_X5_partOf rfl rfl rfl (by decide +kernel) ⟨Nat.le_of_ble_eq_true rfl, Nat.le_of_ble_eq_true rfl⟩) hC hP [] rfl rfl hl.1 rfl (Nat.le_of_ble_eq_true rfl) dX5_belief_93 ⟨Nat.zero_le _, Nat.zero_le _⟩ ?_
  exact W.iret hx hb hr (fun t ht _ => ⟨by cases h; rfl, ht⟩) (fun _ hq => absurd hq List.not_mem_nil) dX5_belief_96
set_option maxHeartbeats 4000000 in
set_option maxRecDepth 100000 in
theorem w_X5_belief_44_b {p : Program} {l : Launch} {e : Env} {s : State} {m : MethodId} {args : Array Value} {below : List Frame} {meth : Method} {c : Code} {E : Ev} (a_t a_t_letters a_t_parser a_t_house a_t_now a_t_spare a_t_acts a_t_slotZero a_t_slotOne a_t_house_metals a_t_house_kinds a_t_now_lines a_t_now_picked : Nat) (x_t_length : Int32) (x_t_seedNow : Int64) (x_t_house_truth : Int32) (x_t_house_caskets : Int32) (x_t_house_wooers : Int32) (r_t_house_metals : Nat → Int32) (x_t_now_picture : Int32) (x_t_now_sung : Int32) (x_t_now_tried : Int32) (x_t_now_wed : Int32) (r_t_now_lines : Nat → Int32) (v1 : Int32) (v2 : Int32) (v3 : Int32) (v4 : Int32) (o_r : Int32) (X : Cxt p s m args meth c cX5_belief 7 wsX5_belief RX5 (some .int)) (hw : wd E [(a_t, .inr (5, [.ref a_t_letters, .int x_t_length, .ref a_t_parser, .ref a_t_house, .ref a_t_now, .ref a_t_spare, .ref a_t_acts, .ref a_t_slotZero, .ref a_t_slotOne, .long x_t_seedNow])), (a_t_house, .inr (1, [.int x_t_house_truth, .int x_t_house_caskets, .int x_t_house_wooers, .ref a_t_house_metals, .ref a_t_house_kinds])), (a_t_house_metals, .inl (E.2.1, 4, .inl r_t_house_metals)), (a_t_now, .inr (4, [.ref a_t_now_lines, .int x_t_now_picture, .int x_t_now_sung, .int x_t_now_tried, .int x_t_now_wed, .ref a_t_now_picked])), (a_t_now_lines, .inl (E.2.1, 4, .inl r_t_now_lines))] s s.heap) (k44 : Int32 × Int32 → Option (Int32)) (hk44 : ∀ (v5 : Int32) (v6 : Int32), k44 (v5, v6) = some o_r → ∀ (ls : Array Slot), lv_has ls 7 [(0, .ref a_t), (1, .int v1), (2, .int v2), (3, .int v3), (4, .int v4), (5, .int v5), (6, .int v6)] → W p l e { frames := 4, cells := 0, slots := 0, locals := 94 } s m args below meth c s.heap [] 0 0 (MQ below (Qr (some (.int o_r))) args s 0 0 (fun _ => False)) (F0 m 44 ls [])) (v5 : Int32) (v6 : Int32) (h : f_X5_belief_44_b x_t_house_caskets r_t_house_metals x_t_now_sung v1 v2 v3 v4 k44 v5 v6 = some o_r) {ls : Array Slot} (hl : lv_has ls 7 [(0, .ref a_t), (1, .int v1), (2, .int v2), (3, .int v3), (4, .int v4), (5, .int v5), (6, .int v6)]) : W p l e { frames := 4, cells := 0, slots := 0, locals := 94 } s m args below meth c s.heap [] 0 0 (MQ below (Qr (some (.int o_r))) args s 0 0 (fun _ => False)) (F0 m 44 ls []) := by
  obtain ⟨⟨hx, hb, hml, hown, hts⟩, hr, hlocks⟩ := id X
  obtain ⟨hC, hP⟩ := id hw
  have hiX1 : ∀ w ∈ u_ws RX1 TX1 5, w ∈ wsX5_belief := by decide +kernel
  have hiX4 : ∀ w ∈ u_ws RX4 TX4 6, w ∈ wsX5_belief := by decide +kernel
  have hiX5 : ∀ w ∈ u_ws RX5 TX5 10, w ∈ wsX5_belief := by decide +kernel
  have hK := hC.1
  unfold f_X5_belief_44_b at h
  refine lv_iload hx hb dX5_belief_44 (lv_at hl 6 rfl) ?_
  refine lv_iconst (v := 4) hx hb dX5_belief_46 (by decide) ?_
  refine lv_icmp_ge (tgt := 82) hx hb dX5_belief_47 (by decide) (fun c1 => ?_) (fun c1 => ?_)
  · have h := ifp c1 h
    exact w_X5_belief_82 a_t a_t_letters a_t_parser a_t_house a_t_now a_t_spare a_t_acts a_t_slotZero a_t_slotOne a_t_house_metals a_t_house_kinds a_t_now_lines a_t_now_picked x_t_length x_t_seedNow x_t_house_truth x_t_house_caskets x_t_house_wooers r_t_house_metals x_t_now_picture x_t_now_sung x_t_now_tried x_t_now_wed r_t_now_lines v1 v2 v3 v4 v5  o_r X hw  h ls (lv_sub hl [0, 1, 2, 3, 4, 5] rfl)
  · have h := ifn c1 h
    refine lv_iload hx hb dX5_belief_50 (lv_at hl 6 rfl) ?_
    refine lv_aload_n hx hb dX5_belief_52 rfl (lv_at hl 0 rfl) ?_
    refine va_get (D := E.1) (ci := 5) (v := .ref a_t_house) (C := RX5) (T := TX5) (N := 10) hx hb hts hiX5 hown hK hP 0 rfl rfl 3 (by decide) (hts (.fieldLink RX5 23 "CasketLines" "house" "LCasketLines$House;") (by decide +kernel)) (fun _ h9 => h9) rfl dX5_belief_53 ?_
    refine va_get (D := E.1) (ci := 1) (v := .int x_t_house_caskets) (C := RX1) (T := TX1) (N := 5) hx hb hts hiX1 hown hK hP 1 rfl rfl 1 (by decide) (hts (.fieldLink RX5 84 "CasketLines$House" "caskets" "I") (by decide +kernel)) (fun _ h9 => h9) rfl dX5_belief_56 ?_
    refine lv_icmp_ge (tgt := 82) hx hb dX5_belief_59 (by decide) (fun c2 => ?_) (fun c2 => ?_)
    · have h := ifp c2 h
      exact w_X5_belief_82 a_t a_t_letters a_t_parser a_t_house a_t_now a_t_spare a_t_acts a_t_slotZero a_t_slotOne a_t_house_metals a_t_house_kinds a_t_now_lines a_t_now_picked x_t_length x_t_seedNow x_t_house_truth x_t_house_caskets x_t_house_wooers r_t_house_metals x_t_now_picture x_t_now_sung x_t_now_tried x_t_now_wed r_t_now_lines v1 v2 v3 v4 v5  o_r X hw  h ls (lv_sub hl [0, 1, 2, 3, 4, 5] rfl)
    · have h := ifn c2 h
      refine lv_iload hx hb dX5_belief_62 (lv_at hl 5 rfl) ?_
      refine lv_aload_n hx hb dX5_belief_64 rfl (lv_at hl 0 rfl) ?_
      refine lv_iload hx hb dX5_belief_65 (lv_at hl 6 rfl) ?_
      refine lv_iload_n hx hb dX5_belief_67 rfl (lv_at hl 2 rfl) ?_
      refine lv_iload hx hb dX5_belief_68 (lv_at hl 4 rfl) ?_
      obtain ⟨r3, g4, h⟩ := bnd h
      refine rcV (As := [.int v6, .int v2, .int v4]) (rest := [.int v5]) ⟨hx, hb, hml, hown, hts⟩ (k_X5_weightOf (l := l) (E := E) a_t a_t_letters a_t_parser a_t_house a_t_now a_t_spare a_t_acts a_t_slotZero a_t_slotOne a_t_house_metals a_t_house_kinds a_t_now_lines a_t_now_picked x_t_length x_t_seedNow x_t_house_truth x_t_house_caskets x_t_house_wooers r_t_house_metals x_t_now_picture x_t_now_sung x_t_now_tried x_t_now_wed v6 v2 v4 r3 g4) (cwV 3 hts gX5_belief_X5_weightOf rfl rfl rfl (by decide +kernel) ⟨Nat.le_of_ble_eq_true rfl, Nat.le_of_ble_eq_true rfl⟩) hC hP [0, 1, 2, 3] rfl 0 5 rfl rfl rfl rfl hl.1 rfl (Nat.le_of_ble_eq_true rfl) dX5_belief_70 ⟨Nat.zero_le _, Nat.zero_le _⟩ ?_
      refine lv_iadd hx hb dX5_belief_73 ?_
      refine lv_istore (lv' := [(5, .int (v5 + r3)), (0, .ref a_t), (1, .int v1), (2, .int v2), (3, .int v3), (4, .int v4), (6, .int v6)]) hx hb dX5_belief_74 hl (by decide) rfl (fun ls hl => ?_)
      refine lv_iinc (v := (v6 + 1)) (lv' := [(6, .int (v6 + 1)), (5, .int (v5 + r3)), (0, .ref a_t), (1, .int v1), (2, .int v2), (3, .int v3), (4, .int v4)]) hx hb dX5_belief_76 hl (k := 6) rfl rfl (by decide) rfl (fun ls hl => ?_)
      refine lv_goto (tgt := 44) hx hb dX5_belief_79 (by decide) ?_
      exact hk44 (v5 + r3) (v6 + 1) h ls (lv_sub hl [2, 3, 4, 5, 6, 1, 0] rfl)
set_option maxHeartbeats 4000000 in
set_option maxRecDepth 100000 in
theorem w_X5_belief_44 {p : Program} {l : Launch} {e : Env} {s : State} {m : MethodId} {args : Array Value} {below : List Frame} {meth : Method} {c : Code} {E : Ev} (a_t a_t_letters a_t_parser a_t_house a_t_now a_t_spare a_t_acts a_t_slotZero a_t_slotOne a_t_house_metals a_t_house_kinds a_t_now_lines a_t_now_picked : Nat) (x_t_length : Int32) (x_t_seedNow : Int64) (x_t_house_truth : Int32) (x_t_house_caskets : Int32) (x_t_house_wooers : Int32) (r_t_house_metals : Nat → Int32) (x_t_now_picture : Int32) (x_t_now_sung : Int32) (x_t_now_tried : Int32) (x_t_now_wed : Int32) (r_t_now_lines : Nat → Int32) (v1 : Int32) (v2 : Int32) (v3 : Int32) (v4 : Int32) (o_r : Int32) (X : Cxt p s m args meth c cX5_belief 7 wsX5_belief RX5 (some .int)) (hw : wd E [(a_t, .inr (5, [.ref a_t_letters, .int x_t_length, .ref a_t_parser, .ref a_t_house, .ref a_t_now, .ref a_t_spare, .ref a_t_acts, .ref a_t_slotZero, .ref a_t_slotOne, .long x_t_seedNow])), (a_t_house, .inr (1, [.int x_t_house_truth, .int x_t_house_caskets, .int x_t_house_wooers, .ref a_t_house_metals, .ref a_t_house_kinds])), (a_t_house_metals, .inl (E.2.1, 4, .inl r_t_house_metals)), (a_t_now, .inr (4, [.ref a_t_now_lines, .int x_t_now_picture, .int x_t_now_sung, .int x_t_now_tried, .int x_t_now_wed, .ref a_t_now_picked])), (a_t_now_lines, .inl (E.2.1, 4, .inl r_t_now_lines))] s s.heap) : ∀ (n : Nat) (v5 : Int32) (v6 : Int32), f_X5_belief_44 x_t_house_caskets r_t_house_metals x_t_now_sung v1 v2 v3 v4 n v5 v6 = some o_r → ∀ (ls : Array Slot), lv_has ls 7 [(0, .ref a_t), (1, .int v1), (2, .int v2), (3, .int v3), (4, .int v4), (5, .int v5), (6, .int v6)] → W p l e { frames := 4, cells := 0, slots := 0, locals := 94 } s m args below meth c s.heap [] 0 0 (MQ below (Qr (some (.int o_r))) args s 0 0 (fun _ => False)) (F0 m 44 ls []) := by
  intro n
  induction n with
  | zero =>
    intro v5 v6 h
    exact (rk_z _ _ h).elim
  | succ n ih =>
    intro v5 v6 h ls hl
    exact w_X5_belief_44_b a_t a_t_letters a_t_parser a_t_house a_t_now a_t_spare a_t_acts a_t_slotZero a_t_slotOne a_t_house_metals a_t_house_kinds a_t_now_lines a_t_now_picked x_t_length x_t_seedNow x_t_house_truth x_t_house_caskets x_t_house_wooers r_t_house_metals x_t_now_picture x_t_now_sung x_t_now_tried x_t_now_wed r_t_now_lines v1 v2 v3 v4  o_r X hw  (rk (fun k x => f_X5_belief_44_b x_t_house_caskets r_t_house_metals x_t_now_sung v1 v2 v3 v4  k (x.1) (x.2)) n) (fun v5 v6 hh => ih v5 v6 hh) v5 v6 h hl
set_option maxHeartbeats 4000000 in
set_option maxRecDepth 100000 in
theorem w_X5_belief {p : Program} {l : Launch} {e : Env} {s : State} {m : MethodId} {args : Array Value} {below : List Frame} {meth : Method} {c : Code} {E : Ev} (a_t a_t_letters a_t_parser a_t_house a_t_now a_t_spare a_t_acts a_t_slotZero a_t_slotOne a_t_house_metals a_t_house_kinds a_t_now_lines a_t_now_picked : Nat) (x_t_length : Int32) (x_t_seedNow : Int64) (x_t_house_truth : Int32) (x_t_house_caskets : Int32) (x_t_house_wooers : Int32) (r_t_house_metals : Nat → Int32) (x_t_now_picture : Int32) (x_t_now_sung : Int32) (x_t_now_tried : Int32) (x_t_now_wed : Int32) (r_t_now_lines : Nat → Int32) (p1 : Int32) (p2 : Int32) (p3 : Int32) (o_r : Int32) (X : Cxt p s m args meth c cX5_belief 7 wsX5_belief RX5 (some .int)) (hw : wd E [(a_t, .inr (5, [.ref a_t_letters, .int x_t_length, .ref a_t_parser, .ref a_t_house, .ref a_t_now, .ref a_t_spare, .ref a_t_acts, .ref a_t_slotZero, .ref a_t_slotOne, .long x_t_seedNow])), (a_t_house, .inr (1, [.int x_t_house_truth, .int x_t_house_caskets, .int x_t_house_wooers, .ref a_t_house_metals, .ref a_t_house_kinds])), (a_t_house_metals, .inl (E.2.1, 4, .inl r_t_house_metals)), (a_t_now, .inr (4, [.ref a_t_now_lines, .int x_t_now_picture, .int x_t_now_sung, .int x_t_now_tried, .int x_t_now_wed, .ref a_t_now_picked])), (a_t_now_lines, .inl (E.2.1, 4, .inl r_t_now_lines))] s s.heap) (h : f_X5_belief x_t_house_truth x_t_house_caskets r_t_house_metals x_t_now_sung r_t_now_lines p1 p2 p3 = some o_r) {ls : Array Slot} (hl : lv_has ls 7 [(0, .ref a_t), (1, .int p1), (2, .int p2), (3, .int p3)]) : W p l e { frames := 4, cells := 0, slots := 0, locals := 94 } s m args below meth c s.heap [] 0 0 (MQ below (Qr (some (.int o_r))) args s 0 0 (fun _ => False)) (F0 m 0 ls []) := by
  obtain ⟨⟨hx, hb, hml, hown, hts⟩, hr, hlocks⟩ := id X
  obtain ⟨hC, hP⟩ := id hw
  have hiX1 : ∀ w ∈ u_ws RX1 TX1 5, w ∈ wsX5_belief := by decide +kernel
  have hiX4 : ∀ w ∈ u_ws RX4 TX4 6, w ∈ wsX5_belief := by decide +kernel
  have hiX5 : ∀ w ∈ u_ws RX5 TX5 10, w ∈ wsX5_belief := by decide +kernel
  have hK := hC.1
  unfold f_X5_belief at h
  refine lv_aload_n hx hb dX5_belief_0 rfl (lv_at hl 0 rfl) ?_
  refine va_get (D := E.1) (ci := 5) (v := .ref a_t_house) (C := RX5) (T := TX5) (N := 10) hx hb hts hiX5 hown hK hP 0 rfl rfl 3 (by decide) (hts (.fieldLink RX5 23 "CasketLines" "house" "LCasketLines$House;") (by decide +kernel)) (fun _ h9 => h9) rfl dX5_belief_1 ?_
  refine lv_iload_n hx hb dX5_belief_4 rfl (lv_at hl 1 rfl) ?_
  obtain ⟨r9, g10, h⟩ := bnd h
  refine rcV (As := [.int p1]) (rest := []) ⟨hx, hb, hml, hown, hts⟩ (k_X1_hasCasket (l := l) (E := E) a_t_house a_t_house_metals a_t_house_kinds x_t_house_truth x_t_house_caskets x_t_house_wooers p1 r9 g10) (cwV 1 hts gX5_belief_X1_hasCasket rfl rfl rfl (by decide +kernel) ⟨Nat.le_of_ble_eq_true rfl, Nat.le_of_ble_eq_true rfl⟩) hC hP [1] rfl 1 1 rfl rfl rfl rfl hl.1 rfl (Nat.le_of_ble_eq_true rfl) dX5_belief_5 ⟨Nat.zero_le _, Nat.zero_le _⟩ ?_
  refine lv_if_ne (tgt := 13) hx hb dX5_belief_8 (by decide) (fun c11 => ?_) (fun c11 => ?_)
  · have h := ifn c11 h
    refine lv_iload_n hx hb dX5_belief_13 rfl (lv_at hl 2 rfl) ?_
    refine lv_if_lt (tgt := 22) hx hb dX5_belief_14 (by decide) (fun c12 => ?_) (fun c12 => ?_)
    · have h := ifp c12 h
      refine lv_bipush (v := (-2)) hx hb dX5_belief_22 (by decide) ?_
      exact W.iret hx hb hr (fun t ht _ => ⟨by cases h; rfl, ht⟩) (fun _ hq => absurd hq List.not_mem_nil) dX5_belief_24
    · have h := ifn c12 h
      refine lv_iload_n hx hb dX5_belief_17 rfl (lv_at hl 2 rfl) ?_
      refine lv_iconst (v := 5) hx hb dX5_belief_18 (by decide) ?_
      refine lv_icmp_le (tgt := 25) hx hb dX5_belief_19 (by decide) (fun c13 => ?_) (fun c13 => ?_)
      · have h := ifp c13 h
        refine lv_aload_n hx hb dX5_belief_25 rfl (lv_at hl 0 rfl) ?_
        refine va_get (D := E.1) (ci := 5) (v := .ref a_t_now) (C := RX5) (T := TX5) (N := 10) hx hb hts hiX5 hown hK hP 0 rfl rfl 4 (by decide) (hts (.fieldLink RX5 30 "CasketLines" "now" "LCasketLines$Standing;") (by decide +kernel)) (fun _ h9 => h9) rfl dX5_belief_26 ?_
        refine lv_aload_n hx hb dX5_belief_29 rfl (lv_at hl 0 rfl) ?_
        refine va_get (D := E.1) (ci := 5) (v := .ref a_t_house) (C := RX5) (T := TX5) (N := 10) hx hb hts hiX5 hown hK hP 0 rfl rfl 3 (by decide) (hts (.fieldLink RX5 23 "CasketLines" "house" "LCasketLines$House;") (by decide +kernel)) (fun _ h9 => h9) rfl dX5_belief_30 ?_
        obtain ⟨r14, g15, h⟩ := bnd h
        refine rcV (As := [.ref a_t_house]) (rest := []) ⟨hx, hb, hml, hown, hts⟩ (k_X4_fitting (l := l) (E := E) a_t_now a_t_house a_t_now_lines a_t_now_picked a_t_house_metals a_t_house_kinds x_t_now_picture x_t_now_sung x_t_now_tried x_t_now_wed r_t_now_lines x_t_house_truth x_t_house_caskets x_t_house_wooers r14 g15) (cwV 1 hts gX5_belief_X4_fitting rfl rfl rfl (by decide +kernel) ⟨Nat.le_of_ble_eq_true rfl, Nat.le_of_ble_eq_true rfl⟩) hC hP [3, 4, 1] rfl 3 4 rfl rfl rfl rfl hl.1 rfl (Nat.le_of_ble_eq_true rfl) dX5_belief_33 ⟨Nat.zero_le _, Nat.zero_le _⟩ ?_
        refine lv_istore (lv' := [(4, .int r14), (0, .ref a_t), (1, .int p1), (2, .int p2), (3, .int p3)]) hx hb dX5_belief_36 hl (by decide) rfl (fun ls hl => ?_)
        refine lv_iconst (v := 0) hx hb dX5_belief_38 (by decide) ?_
        refine lv_istore (lv' := [(5, .int 0), (4, .int r14), (0, .ref a_t), (1, .int p1), (2, .int p2), (3, .int p3)]) hx hb dX5_belief_39 hl (by decide) rfl (fun ls hl => ?_)
        refine lv_iconst (v := 0) hx hb dX5_belief_41 (by decide) ?_
        refine lv_istore (lv' := [(6, .int 0), (5, .int 0), (4, .int r14), (0, .ref a_t), (1, .int p1), (2, .int p2), (3, .int p3)]) hx hb dX5_belief_42 hl (by decide) rfl (fun ls hl => ?_)
        exact w_X5_belief_44 a_t a_t_letters a_t_parser a_t_house a_t_now a_t_spare a_t_acts a_t_slotZero a_t_slotOne a_t_house_metals a_t_house_kinds a_t_now_lines a_t_now_picked x_t_length x_t_seedNow x_t_house_truth x_t_house_caskets x_t_house_wooers r_t_house_metals x_t_now_picture x_t_now_sung x_t_now_tried x_t_now_wed r_t_now_lines p1 p2 p3 r14  o_r X hw  200 0 0 h ls (lv_sub hl [3, 4, 5, 6, 2, 1, 0] rfl)
      · have h := ifn c13 h
        refine lv_bipush (v := (-2)) hx hb dX5_belief_22 (by decide) ?_
        exact W.iret hx hb hr (fun t ht _ => ⟨by cases h; rfl, ht⟩) (fun _ hq => absurd hq List.not_mem_nil) dX5_belief_24
  · have h := ifp c11 h
    refine lv_iconst (v := (-1)) hx hb dX5_belief_11 (by decide) ?_
    exact W.iret hx hb hr (fun t ht _ => ⟨by cases h; rfl, ht⟩) (fun _ hq => absurd hq List.not_mem_nil) dX5_belief_12
set_option maxHeartbeats 4000000 in
set_option maxRecDepth 100000 in
theorem k_X5_belief {l : Launch} {E : Ev} (a_t a_t_letters a_t_parser a_t_house a_t_now a_t_spare a_t_acts a_t_slotZero a_t_slotOne a_t_house_metals a_t_house_kinds a_t_now_lines a_t_now_picked : Nat) (x_t_length : Int32) (x_t_seedNow : Int64) (x_t_house_truth : Int32) (x_t_house_caskets : Int32) (x_t_house_wooers : Int32) (r_t_house_metals : Nat → Int32) (x_t_now_picture : Int32) (x_t_now_sung : Int32) (x_t_now_tried : Int32) (x_t_now_wed : Int32) (r_t_now_lines : Nat → Int32) (p1 : Int32) (p2 : Int32) (p3 : Int32) (o_r : Int32) (hf : f_X5_belief x_t_house_truth x_t_house_caskets r_t_house_metals x_t_now_sung r_t_now_lines p1 p2 p3 = some o_r) : Met l yX5_belief wsX5_belief ({ frames := 4, cells := 0, slots := 0, locals := 94 }) (Pr E [.ref a_t, .int p1, .int p2, .int p3] [(a_t, .inr (5, [.ref a_t_letters, .int x_t_length, .ref a_t_parser, .ref a_t_house, .ref a_t_now, .ref a_t_spare, .ref a_t_acts, .ref a_t_slotZero, .ref a_t_slotOne, .long x_t_seedNow])), (a_t_house, .inr (1, [.int x_t_house_truth, .int x_t_house_caskets, .int x_t_house_wooers, .ref a_t_house_metals, .ref a_t_house_kinds])), (a_t_house_metals, .inl (E.2.1, 4, .inl r_t_house_metals)), (a_t_now, .inr (4, [.ref a_t_now_lines, .int x_t_now_picture, .int x_t_now_sung, .int x_t_now_tried, .int x_t_now_wed, .ref a_t_now_picked])), (a_t_now_lines, .inl (E.2.1, 4, .inl r_t_now_lines))]) (Qr (some (.int o_r))) 0 0 (fun _ => False) := by
  refine Met.ofW (cc := cX5_belief) (maxL := 7) (ret := (some .int)) (by decide) rfl ?_
  intro p e s m args below meth c s₁ B hml hv
  obtain ⟨rfl, hw⟩ := hv
  have X := Cxt.of B hml
  have hl := lv_entry ([.ref a_t, .int p1, .int p2, .int p3]) (n := 7) (Nat.le_of_ble_eq_true rfl)
  rw [lg_entry_eq]
  exact w_X5_belief a_t a_t_letters a_t_parser a_t_house a_t_now a_t_spare a_t_acts a_t_slotZero a_t_slotOne a_t_house_metals a_t_house_kinds a_t_now_lines a_t_now_picked x_t_length x_t_seedNow x_t_house_truth x_t_house_caskets x_t_house_wooers r_t_house_metals x_t_now_picture x_t_now_sung x_t_now_tried x_t_now_wed r_t_now_lines p1 p2 p3 o_r X hw hf hl
