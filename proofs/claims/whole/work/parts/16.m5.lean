set_option maxHeartbeats 4000000 in
set_option maxRecDepth 100000 in
theorem w_X6_share_126 {p : Program} {l : Launch} {e : Env} {s : State} {m : MethodId} {args : Array Value} {below : List Frame} {meth : Method} {c : Code} {E : Ev} {A : Nat → Prop} (a_t a_t_metal a_t_kind a_t_now a_t_readOf a_t_readKind a_t_text a_t_row a_t_nots a_t_isKept a_t_kept : Nat) (x_t_isTrue : Int32) (x_t_caskets : Int32) (x_t_wooers : Int32) (x_t_readTrue : Int32) (x_t_readCaskets : Int32) (x_t_readWooers : Int32) (x_t_readPicture : Int32) (x_t_length : Int32) (x_t_at : Int32) (x_t_faultAt : Int32) (x_t_acts : Int32) (x_t_next : Int32) (x_t_riddleMany : Int32) (x_t_seed : Int64) (r_t_now : Nat → Int32) (r_t_nots : Nat → Int32) (v2 : Int32) (v3 : Int32) (o_r : Int32) (o_r_t_nots : Nat → Int32) (X : Cxt p s m args meth c cX6_share 6 wsX6_share RX6 (some .int)) (hw : Cw E A s [(a_t, .inr (6, [.int x_t_isTrue, .int x_t_caskets, .int x_t_wooers, .ref a_t_metal, .ref a_t_kind, .ref a_t_now, .ref a_t_readOf, .ref a_t_readKind, .int x_t_readTrue, .int x_t_readCaskets, .int x_t_readWooers, .int x_t_readPicture, .ref a_t_text, .int x_t_length, .int x_t_at, .int x_t_faultAt, .int x_t_acts, .int x_t_next, .ref a_t_row, .int x_t_riddleMany, .ref a_t_nots, .long x_t_seed, .ref a_t_isKept, .ref a_t_kept])), (a_t_now, .inl (E.2.1, 36, .inl r_t_now)), (a_t_nots, .inl (E.2.1, 16, .inl r_t_nots))]) (h : f_X6_share_126 x_t_caskets r_t_nots v2 v3 = some (o_r, o_r_t_nots)) (H : Heap) (locs : List Loc) (hP : va_P E.1 vwCl [(a_t, .inr (6, [.int x_t_isTrue, .int x_t_caskets, .int x_t_wooers, .ref a_t_metal, .ref a_t_kind, .ref a_t_now, .ref a_t_readOf, .ref a_t_readKind, .int x_t_readTrue, .int x_t_readCaskets, .int x_t_readWooers, .int x_t_readPicture, .ref a_t_text, .int x_t_length, .int x_t_at, .int x_t_faultAt, .int x_t_acts, .int x_t_next, .ref a_t_row, .int x_t_riddleMany, .ref a_t_nots, .long x_t_seed, .ref a_t_isKept, .ref a_t_kept])), (a_t_now, .inl (E.2.1, 36, .inl r_t_now)), (a_t_nots, .inl (E.2.1, 16, .inl r_t_nots))] H) (hS : va_S A s.heap H locs) (ls : Array Slot) (hl : lv_has ls 6 [(0, .ref a_t), (2, .int v2), (3, .int v3)]) : W p l e { frames := 6, cells := 0, slots := 0, locals := 146 } s m args below meth c H locs 0 0 (MQ below (Qw E (some (.int o_r)) [(a_t, .inr (6, [.int x_t_isTrue, .int x_t_caskets, .int x_t_wooers, .ref a_t_metal, .ref a_t_kind, .ref a_t_now, .ref a_t_readOf, .ref a_t_readKind, .int x_t_readTrue, .int x_t_readCaskets, .int x_t_readWooers, .int x_t_readPicture, .ref a_t_text, .int x_t_length, .int x_t_at, .int x_t_faultAt, .int x_t_acts, .int x_t_next, .ref a_t_row, .int x_t_riddleMany, .ref a_t_nots, .long x_t_seed, .ref a_t_isKept, .ref a_t_kept])), (a_t_now, .inl (E.2.1, 36, .inl r_t_now)), (a_t_nots, .inl (E.2.1, 16, .inl o_r_t_nots))] A) args s 0 0 A) (F0 m 126 ls []) := by
  obtain ⟨⟨hx, hb, hml, hown, hts⟩, hr, hlocks⟩ := id X
  obtain ⟨hC, hAB, hA, hB, hD⟩ := id hw
  have hiX6 : ∀ w ∈ u_ws RX6 TX6 24, w ∈ wsX6_share := by decide +kernel
  have hK := hC.1
  unfold f_X6_share_126 at h
  refine lv_iload_n hx hb dX6_share_126 rfl (lv_at hl 2 rfl) ?_
  refine lv_aload_n hx hb dX6_share_127 rfl (lv_at hl 0 rfl) ?_
  refine va_get (D := E.1) (ci := 6) (v := .int x_t_caskets) (C := RX6) (T := TX6) (N := 24) hx hb hts hiX6 hown hK hP 0 rfl rfl 1 (by decide) (hts (.fieldLink RX6 90 "CasketLinesModel" "caskets" "I") (by decide +kernel)) (fun _ h9 => h9) rfl dX6_share_128 ?_
  obtain ⟨r26, g27, h⟩ := bnd h
  refine rcS (As := [.int x_t_caskets]) (rest := [.int v3]) ⟨hx, hb, hml, hown, hts⟩ (k_X6_factorial (l := l) (E := E) x_t_caskets r26 g27) (va_cwS 1 hts gX6_share_X6_factorial rfl rfl rfl (by decide +kernel) ⟨Nat.le_of_ble_eq_true rfl, Nat.le_of_ble_eq_true rfl⟩) (hC.here hS hAB) hP [] rfl rfl hl.1 rfl (Nat.le_of_ble_eq_true rfl) dX6_share_131 ⟨Nat.zero_le _, Nat.zero_le _⟩ ?_
  obtain ⟨r28, g29, h⟩ := bnd h
  refine rcS (As := [.int v3, .int r26]) (rest := []) ⟨hx, hb, hml, hown, hts⟩ (k_X6_common (l := l) (E := E) v3 r26 r28 g29) (va_cwS 2 hts gX6_share_X6_common rfl rfl rfl (by decide +kernel) ⟨Nat.le_of_ble_eq_true rfl, Nat.le_of_ble_eq_true rfl⟩) (hC.here hS hAB) hP [] rfl rfl hl.1 rfl (Nat.le_of_ble_eq_true rfl) dX6_share_134 ⟨Nat.zero_le _, Nat.zero_le _⟩ ?_
  refine lv_istore (lv' := [(4, .int r28), (0, .ref a_t), (2, .int v2), (3, .int v3)]) hx hb dX6_share_137 hl (by decide) rfl (fun ls hl => ?_)
  refine lv_iload_n hx hb dX6_share_139 rfl (lv_at hl 2 rfl) ?_
  refine lv_if_eq (tgt := 150) hx hb dX6_share_140 (by decide) (fun c30 => ?_) (fun c30 => ?_)
  · have h := ifp c30 h
    refine lv_aload_n hx hb dX6_share_150 rfl (lv_at hl 1 rfl) ?_
    refine va_get (D := E.1) (ci := 6) (v := .int x_t_caskets) (C := RX6) (T := TX6) (N := 24) hx hb hts hiX6 hown hK hP 0 rfl rfl 1 (by decide) (hts (.fieldLink RX6 90 "CasketLinesModel" "caskets" "I") (by decide +kernel)) (fun _ h9 => h9) rfl dX6_share_151 ?_
    obtain ⟨r31, g32, h⟩ := bnd h
    refine rcS (As := [.int x_t_caskets]) (rest := []) ⟨hx, hb, hml, hown, hts⟩ (k_X6_factorial (l := l) (E := E) x_t_caskets r31 g32) (va_cwS 1 hts gX6_share_X6_factorial rfl rfl rfl (by decide +kernel) ⟨Nat.le_of_ble_eq_true rfl, Nat.le_of_ble_eq_true rfl⟩) (hC.here hS hAB) hP [] rfl rfl hl.1 rfl (Nat.le_of_ble_eq_true rfl) dX6_share_154 ⟨Nat.zero_le _, Nat.zero_le _⟩ ?_
    refine lv_iload hx hb dX6_share_157 (lv_at hl 0 rfl) ?_
    obtain ⟨b33, h⟩ := gdn h
    refine lv_idiv hx hb dX6_share_159 b33 ?_
    exact W.iret hx hb hr (fun t ht _ => ⟨by cases h; rfl, by rw [ht]; cases h; exact hP, hS.F ht⟩) hS.2.2 dX6_share_160
  · have h := ifn c30 h
    refine lv_iload_n hx hb dX6_share_143 rfl (lv_at hl 3 rfl) ?_
    refine lv_iload hx hb dX6_share_144 (lv_at hl 0 rfl) ?_
    obtain ⟨b34, h⟩ := gdn h
    refine lv_idiv hx hb dX6_share_146 b34 ?_
    refine lv_goto (tgt := 160) hx hb dX6_share_147 (by decide) ?_
    exact W.iret hx hb hr (fun t ht _ => ⟨by cases h; rfl, by rw [ht]; cases h; exact hP, hS.F ht⟩) hS.2.2 dX6_share_160
set_option maxHeartbeats 4000000 in
set_option maxRecDepth 100000 in
theorem w_X6_share_51_b {p : Program} {l : Launch} {e : Env} {s : State} {m : MethodId} {args : Array Value} {below : List Frame} {meth : Method} {c : Code} {E : Ev} {A : Nat → Prop} (a_t a_t_metal a_t_kind a_t_now a_t_readOf a_t_readKind a_t_text a_t_row a_t_nots a_t_isKept a_t_kept : Nat) (x_t_isTrue : Int32) (x_t_caskets : Int32) (x_t_wooers : Int32) (x_t_readTrue : Int32) (x_t_readCaskets : Int32) (x_t_readWooers : Int32) (x_t_readPicture : Int32) (x_t_length : Int32) (x_t_at : Int32) (x_t_faultAt : Int32) (x_t_acts : Int32) (x_t_next : Int32) (x_t_riddleMany : Int32) (x_t_seed : Int64) (r_t_now : Nat → Int32) (r_t_nots : Nat → Int32) (v1 : Int32) (v2 : Int32) (o_r : Int32) (o_r_t_nots : Nat → Int32) (X : Cxt p s m args meth c cX6_share 6 wsX6_share RX6 (some .int)) (hw : Cw E A s [(a_t, .inr (6, [.int x_t_isTrue, .int x_t_caskets, .int x_t_wooers, .ref a_t_metal, .ref a_t_kind, .ref a_t_now, .ref a_t_readOf, .ref a_t_readKind, .int x_t_readTrue, .int x_t_readCaskets, .int x_t_readWooers, .int x_t_readPicture, .ref a_t_text, .int x_t_length, .int x_t_at, .int x_t_faultAt, .int x_t_acts, .int x_t_next, .ref a_t_row, .int x_t_riddleMany, .ref a_t_nots, .long x_t_seed, .ref a_t_isKept, .ref a_t_kept])), (a_t_now, .inl (E.2.1, 36, .inl r_t_now)), (a_t_nots, .inl (E.2.1, 16, .inl r_t_nots))]) (k51 : Int32 × Int32 → Option (Int32 × (Nat → Int32))) (hk51 : ∀ (v3 : Int32) (v4 : Int32), k51 (v3, v4) = some (o_r, o_r_t_nots) → ∀ (H : Heap) (locs : List Loc), va_P E.1 vwCl [(a_t, .inr (6, [.int x_t_isTrue, .int x_t_caskets, .int x_t_wooers, .ref a_t_metal, .ref a_t_kind, .ref a_t_now, .ref a_t_readOf, .ref a_t_readKind, .int x_t_readTrue, .int x_t_readCaskets, .int x_t_readWooers, .int x_t_readPicture, .ref a_t_text, .int x_t_length, .int x_t_at, .int x_t_faultAt, .int x_t_acts, .int x_t_next, .ref a_t_row, .int x_t_riddleMany, .ref a_t_nots, .long x_t_seed, .ref a_t_isKept, .ref a_t_kept])), (a_t_now, .inl (E.2.1, 36, .inl r_t_now)), (a_t_nots, .inl (E.2.1, 16, .inl r_t_nots))] H → va_S A s.heap H locs → ∀ (ls : Array Slot), lv_has ls 6 [(0, .ref a_t), (1, .int v1), (2, .int v2), (3, .int v3), (4, .int v4)] → W p l e { frames := 6, cells := 0, slots := 0, locals := 146 } s m args below meth c H locs 0 0 (MQ below (Qw E (some (.int o_r)) [(a_t, .inr (6, [.int x_t_isTrue, .int x_t_caskets, .int x_t_wooers, .ref a_t_metal, .ref a_t_kind, .ref a_t_now, .ref a_t_readOf, .ref a_t_readKind, .int x_t_readTrue, .int x_t_readCaskets, .int x_t_readWooers, .int x_t_readPicture, .ref a_t_text, .int x_t_length, .int x_t_at, .int x_t_faultAt, .int x_t_acts, .int x_t_next, .ref a_t_row, .int x_t_riddleMany, .ref a_t_nots, .long x_t_seed, .ref a_t_isKept, .ref a_t_kept])), (a_t_now, .inl (E.2.1, 36, .inl r_t_now)), (a_t_nots, .inl (E.2.1, 16, .inl o_r_t_nots))] A) args s 0 0 A) (F0 m 51 ls [])) (v3 : Int32) (v4 : Int32) (h : f_X6_share_51_b x_t_caskets r_t_nots v1 v2 k51 v3 v4 = some (o_r, o_r_t_nots)) {H : Heap} {locs : List Loc} (hP : va_P E.1 vwCl [(a_t, .inr (6, [.int x_t_isTrue, .int x_t_caskets, .int x_t_wooers, .ref a_t_metal, .ref a_t_kind, .ref a_t_now, .ref a_t_readOf, .ref a_t_readKind, .int x_t_readTrue, .int x_t_readCaskets, .int x_t_readWooers, .int x_t_readPicture, .ref a_t_text, .int x_t_length, .int x_t_at, .int x_t_faultAt, .int x_t_acts, .int x_t_next, .ref a_t_row, .int x_t_riddleMany, .ref a_t_nots, .long x_t_seed, .ref a_t_isKept, .ref a_t_kept])), (a_t_now, .inl (E.2.1, 36, .inl r_t_now)), (a_t_nots, .inl (E.2.1, 16, .inl r_t_nots))] H) (hS : va_S A s.heap H locs) {ls : Array Slot} (hl : lv_has ls 6 [(0, .ref a_t), (1, .int v1), (2, .int v2), (3, .int v3), (4, .int v4)]) : W p l e { frames := 6, cells := 0, slots := 0, locals := 146 } s m args below meth c H locs 0 0 (MQ below (Qw E (some (.int o_r)) [(a_t, .inr (6, [.int x_t_isTrue, .int x_t_caskets, .int x_t_wooers, .ref a_t_metal, .ref a_t_kind, .ref a_t_now, .ref a_t_readOf, .ref a_t_readKind, .int x_t_readTrue, .int x_t_readCaskets, .int x_t_readWooers, .int x_t_readPicture, .ref a_t_text, .int x_t_length, .int x_t_at, .int x_t_faultAt, .int x_t_acts, .int x_t_next, .ref a_t_row, .int x_t_riddleMany, .ref a_t_nots, .long x_t_seed, .ref a_t_isKept, .ref a_t_kept])), (a_t_now, .inl (E.2.1, 36, .inl r_t_now)), (a_t_nots, .inl (E.2.1, 16, .inl o_r_t_nots))] A) args s 0 0 A) (F0 m 51 ls []) := by
  obtain ⟨⟨hx, hb, hml, hown, hts⟩, hr, hlocks⟩ := id X
  obtain ⟨hC, hAB, hA, hB, hD⟩ := id hw
  have hiX6 : ∀ w ∈ u_ws RX6 TX6 24, w ∈ wsX6_share := by decide +kernel
  have hK := hC.1
  unfold f_X6_share_51_b at h
  refine lv_iload hx hb dX6_share_51 (lv_at hl 4 rfl) ?_
  refine lv_aload_n hx hb dX6_share_53 rfl (lv_at hl 0 rfl) ?_
  obtain ⟨r9, g10, h⟩ := bnd h
  refine rcV (As := []) (rest := [.int v4]) ⟨hx, hb, hml, hown, hts⟩ (k_X6_all (l := l) (E := E) a_t a_t_metal a_t_kind a_t_now a_t_readOf a_t_readKind a_t_text a_t_row a_t_nots a_t_isKept a_t_kept x_t_isTrue x_t_caskets x_t_wooers x_t_readTrue x_t_readCaskets x_t_readWooers x_t_readPicture x_t_length x_t_at x_t_faultAt x_t_acts x_t_next x_t_riddleMany x_t_seed r9 g10) (cwV 0 hts gX6_share_X6_all rfl rfl rfl (by decide +kernel) ⟨Nat.le_of_ble_eq_true rfl, Nat.le_of_ble_eq_true rfl⟩) (hC.here hS hAB) hP [0] rfl 0 6 rfl rfl rfl rfl hl.1 rfl (Nat.le_of_ble_eq_true rfl) dX6_share_54 ⟨Nat.zero_le _, Nat.zero_le _⟩ ?_
  refine lv_icmp_gt (tgt := 126) hx hb dX6_share_57 (by decide) (fun c11 => ?_) (fun c11 => ?_)
  · have h := ifp c11 h
    exact w_X6_share_126 a_t a_t_metal a_t_kind a_t_now a_t_readOf a_t_readKind a_t_text a_t_row a_t_nots a_t_isKept a_t_kept x_t_isTrue x_t_caskets x_t_wooers x_t_readTrue x_t_readCaskets x_t_readWooers x_t_readPicture x_t_length x_t_at x_t_faultAt x_t_acts x_t_next x_t_riddleMany x_t_seed r_t_now r_t_nots v2 v3  o_r o_r_t_nots X (hw.adr rfl)  h H locs hP hS ls (lv_sub hl [0, 2, 3] rfl)
  · have h := ifn c11 h
    refine lv_iload hx hb dX6_share_60 (lv_at hl 4 rfl) ?_
    refine lv_iload_n hx hb dX6_share_62 rfl (lv_at hl 1 rfl) ?_
    obtain ⟨r12, g13, h⟩ := bnd h
    refine rcS (As := [.int v4, .int v1]) (rest := []) ⟨hx, hb, hml, hown, hts⟩ (k_X6_has (l := l) (E := E) v4 v1 r12 g13) (va_cwS 2 hts gX6_share_X6_has rfl rfl rfl (by decide +kernel) ⟨Nat.le_of_ble_eq_true rfl, Nat.le_of_ble_eq_true rfl⟩) (hC.here hS hAB) hP [] rfl rfl hl.1 rfl (Nat.le_of_ble_eq_true rfl) dX6_share_63 ⟨Nat.zero_le _, Nat.zero_le _⟩ ?_
    refine lv_if_ne (tgt := 120) hx hb dX6_share_66 (by decide) (fun c14 => ?_) (fun c14 => ?_)
    · have h := ifn c14 h
      refine lv_iinc (v := (v4 + 1)) (lv' := [(4, .int (v4 + 1)), (0, .ref a_t), (1, .int v1), (2, .int v2), (3, .int v3)]) hx hb dX6_share_120 hl (k := 4) rfl rfl (by decide) rfl (fun ls hl => ?_)
      refine lv_goto (tgt := 51) hx hb dX6_share_123 (by decide) ?_
      exact hk51 v3 (v4 + 1) h H locs hP hS ls (lv_sub hl [1, 2, 3, 4, 0] rfl)
    · have h := ifp c14 h
      refine lv_iload hx hb dX6_share_69 (lv_at hl 4 rfl) ?_
      obtain ⟨r15, g16, h⟩ := bnd h
      refine rcS (As := [.int v4]) (rest := []) ⟨hx, hb, hml, hown, hts⟩ (k_X6_ones (l := l) (E := E) v4 r15 g16) (va_cwS 1 hts gX6_share_X6_ones rfl rfl rfl (by decide +kernel) ⟨Nat.le_of_ble_eq_true rfl, Nat.le_of_ble_eq_true rfl⟩) (hC.here hS hAB) hP [] rfl rfl hl.1 rfl (Nat.le_of_ble_eq_true rfl) dX6_share_71 ⟨Nat.zero_le _, Nat.zero_le _⟩ ?_
      obtain ⟨r17, g18, h⟩ := bnd h
      refine rcS (As := [.int r15]) (rest := []) ⟨hx, hb, hml, hown, hts⟩ (k_X6_factorial (l := l) (E := E) r15 r17 g18) (va_cwS 1 hts gX6_share_X6_factorial rfl rfl rfl (by decide +kernel) ⟨Nat.le_of_ble_eq_true rfl, Nat.le_of_ble_eq_true rfl⟩) (hC.here hS hAB) hP [] rfl rfl hl.1 rfl (Nat.le_of_ble_eq_true rfl) dX6_share_74 ⟨Nat.zero_le _, Nat.zero_le _⟩ ?_
      refine lv_aload_n hx hb dX6_share_77 rfl (lv_at hl 0 rfl) ?_
      refine va_get (D := E.1) (ci := 6) (v := .int x_t_caskets) (C := RX6) (T := TX6) (N := 24) hx hb hts hiX6 hown hK hP 0 rfl rfl 1 (by decide) (hts (.fieldLink RX6 90 "CasketLinesModel" "caskets" "I") (by decide +kernel)) (fun _ h9 => h9) rfl dX6_share_78 ?_
      refine lv_iconst (v := 1) hx hb dX6_share_81 (by decide) ?_
      refine lv_isub hx hb dX6_share_82 ?_
      refine lv_iload hx hb dX6_share_83 (lv_at hl 4 rfl) ?_
      obtain ⟨r19, g20, h⟩ := bnd h
      refine rcS (As := [.int v4]) (rest := [.int (x_t_caskets - 1), .int r17]) ⟨hx, hb, hml, hown, hts⟩ (k_X6_ones (l := l) (E := E) v4 r19 g20) (va_cwS 1 hts gX6_share_X6_ones rfl rfl rfl (by decide +kernel) ⟨Nat.le_of_ble_eq_true rfl, Nat.le_of_ble_eq_true rfl⟩) (hC.here hS hAB) hP [] rfl rfl hl.1 rfl (Nat.le_of_ble_eq_true rfl) dX6_share_85 ⟨Nat.zero_le _, Nat.zero_le _⟩ ?_
      refine lv_isub hx hb dX6_share_88 ?_
      obtain ⟨r21, g22, h⟩ := bnd h
      refine rcS (As := [.int ((x_t_caskets - 1) - r19)]) (rest := [.int r17]) ⟨hx, hb, hml, hown, hts⟩ (k_X6_factorial (l := l) (E := E) ((x_t_caskets - 1) - r19) r21 g22) (va_cwS 1 hts gX6_share_X6_factorial rfl rfl rfl (by decide +kernel) ⟨Nat.le_of_ble_eq_true rfl, Nat.le_of_ble_eq_true rfl⟩) (hC.here hS hAB) hP [] rfl rfl hl.1 rfl (Nat.le_of_ble_eq_true rfl) dX6_share_89 ⟨Nat.zero_le _, Nat.zero_le _⟩ ?_
      refine lv_imul hx hb dX6_share_92 ?_
      refine lv_istore (lv' := [(5, .int (r17 * r21)), (0, .ref a_t), (1, .int v1), (2, .int v2), (3, .int v3), (4, .int v4)]) hx hb dX6_share_93 hl (by decide) rfl (fun ls hl => ?_)
      refine lv_iload_n hx hb dX6_share_95 rfl (lv_at hl 4 rfl) ?_
      refine lv_iload hx hb dX6_share_96 (lv_at hl 0 rfl) ?_
      refine lv_aload_n hx hb dX6_share_98 rfl (lv_at hl 1 rfl) ?_
      refine va_get (D := E.1) (ci := 6) (v := .ref a_t_nots) (C := RX6) (T := TX6) (N := 24) hx hb hts hiX6 hown hK hP 0 rfl rfl 20 (by decide) (hts (.fieldLink RX6 31 "CasketLinesModel" "nots" "[I") (by decide +kernel)) (fun _ h9 => h9) rfl dX6_share_99 ?_
      refine lv_iload hx hb dX6_share_102 (lv_at hl 5 rfl) ?_
      refine lv_iconst (v := 1) hx hb dX6_share_104 (by decide) ?_
      refine lv_iload_n hx hb dX6_share_105 rfl (lv_at hl 2 rfl) ?_
      refine lv_ishl hx hb dX6_share_106 ?_
      refine lv_ior hx hb dX6_share_107 ?_
      obtain ⟨b23, h⟩ := gdn h
      refine va_iald hx hb hK hP 2 0 rfl rfl b23 dX6_share_108 ?_
      refine lv_aload_n hx hb dX6_share_109 rfl (lv_at hl 1 rfl) ?_
      refine va_get (D := E.1) (ci := 6) (v := .ref a_t_nots) (C := RX6) (T := TX6) (N := 24) hx hb hts hiX6 hown hK hP 0 rfl rfl 20 (by decide) (hts (.fieldLink RX6 31 "CasketLinesModel" "nots" "[I") (by decide +kernel)) (fun _ h9 => h9) rfl dX6_share_110 ?_
      refine lv_iload hx hb dX6_share_113 (lv_at hl 5 rfl) ?_
      obtain ⟨b24, h⟩ := gdn h
      refine va_iald hx hb hK hP 2 0 rfl rfl b24 dX6_share_115 ?_
      refine lv_isub hx hb dX6_share_116 ?_
      refine lv_imul hx hb dX6_share_117 ?_
      refine lv_iadd hx hb dX6_share_118 ?_
      obtain ⟨z25, g25, h⟩ := bnd h
      refine lv_topi (fun y25 ey25 => ?_)
      obtain rfl : y25 = z25 := ey25.trans (Option.some.inj g25)
      refine lv_istore_n (lv' := [(3, .int y25), (5, .int (r17 * r21)), (0, .ref a_t), (1, .int v1), (2, .int v2), (4, .int v4)]) hx hb dX6_share_119 rfl hl (by decide) rfl (fun ls hl => ?_)
      refine lv_iinc (v := (v4 + 1)) (lv' := [(4, .int (v4 + 1)), (3, .int y25), (5, .int (r17 * r21)), (0, .ref a_t), (1, .int v1), (2, .int v2)]) hx hb dX6_share_120 hl (k := 5) rfl rfl (by decide) rfl (fun ls hl => ?_)
      refine lv_goto (tgt := 51) hx hb dX6_share_123 (by decide) ?_
      exact hk51 y25 (v4 + 1) h H locs hP hS ls (lv_sub hl [3, 4, 5, 1, 0] rfl)
set_option maxHeartbeats 4000000 in
set_option maxRecDepth 100000 in
theorem w_X6_share_51 {p : Program} {l : Launch} {e : Env} {s : State} {m : MethodId} {args : Array Value} {below : List Frame} {meth : Method} {c : Code} {E : Ev} {A : Nat → Prop} (a_t a_t_metal a_t_kind a_t_now a_t_readOf a_t_readKind a_t_text a_t_row a_t_nots a_t_isKept a_t_kept : Nat) (x_t_isTrue : Int32) (x_t_caskets : Int32) (x_t_wooers : Int32) (x_t_readTrue : Int32) (x_t_readCaskets : Int32) (x_t_readWooers : Int32) (x_t_readPicture : Int32) (x_t_length : Int32) (x_t_at : Int32) (x_t_faultAt : Int32) (x_t_acts : Int32) (x_t_next : Int32) (x_t_riddleMany : Int32) (x_t_seed : Int64) (r_t_now : Nat → Int32) (r_t_nots : Nat → Int32) (v1 : Int32) (v2 : Int32) (o_r : Int32) (o_r_t_nots : Nat → Int32) (X : Cxt p s m args meth c cX6_share 6 wsX6_share RX6 (some .int)) (hw : Cw E A s [(a_t, .inr (6, [.int x_t_isTrue, .int x_t_caskets, .int x_t_wooers, .ref a_t_metal, .ref a_t_kind, .ref a_t_now, .ref a_t_readOf, .ref a_t_readKind, .int x_t_readTrue, .int x_t_readCaskets, .int x_t_readWooers, .int x_t_readPicture, .ref a_t_text, .int x_t_length, .int x_t_at, .int x_t_faultAt, .int x_t_acts, .int x_t_next, .ref a_t_row, .int x_t_riddleMany, .ref a_t_nots, .long x_t_seed, .ref a_t_isKept, .ref a_t_kept])), (a_t_now, .inl (E.2.1, 36, .inl r_t_now)), (a_t_nots, .inl (E.2.1, 16, .inl r_t_nots))]) : ∀ (n : Nat) (v3 : Int32) (v4 : Int32), f_X6_share_51 x_t_caskets r_t_nots v1 v2 n v3 v4 = some (o_r, o_r_t_nots) → ∀ (H : Heap) (locs : List Loc), va_P E.1 vwCl [(a_t, .inr (6, [.int x_t_isTrue, .int x_t_caskets, .int x_t_wooers, .ref a_t_metal, .ref a_t_kind, .ref a_t_now, .ref a_t_readOf, .ref a_t_readKind, .int x_t_readTrue, .int x_t_readCaskets, .int x_t_readWooers, .int x_t_readPicture, .ref a_t_text, .int x_t_length, .int x_t_at, .int x_t_faultAt, .int x_t_acts, .int x_t_next, .ref a_t_row, .int x_t_riddleMany, .ref a_t_nots, .long x_t_seed, .ref a_t_isKept, .ref a_t_kept])), (a_t_now, .inl (E.2.1, 36, .inl r_t_now)), (a_t_nots, .inl (E.2.1, 16, .inl r_t_nots))] H → va_S A s.heap H locs → ∀ (ls : Array Slot), lv_has ls 6 [(0, .ref a_t), (1, .int v1), (2, .int v2), (3, .int v3), (4, .int v4)] → W p l e { frames := 6, cells := 0, slots := 0, locals := 146 } s m args below meth c H locs 0 0 (MQ below (Qw E (some (.int o_r)) [(a_t, .inr (6, [.int x_t_isTrue, .int x_t_caskets, .int x_t_wooers, .ref a_t_metal, .ref a_t_kind, .ref a_t_now, .ref a_t_readOf, .ref a_t_readKind, .int x_t_readTrue, .int x_t_readCaskets, .int x_t_readWooers, .int x_t_readPicture, .ref a_t_text, .int x_t_length, .int x_t_at, .int x_t_faultAt, .int x_t_acts, .int x_t_next, .ref a_t_row, .int x_t_riddleMany, .ref a_t_nots, .long x_t_seed, .ref a_t_isKept, .ref a_t_kept])), (a_t_now, .inl (E.2.1, 36, .inl r_t_now)), (a_t_nots, .inl (E.2.1, 16, .inl o_r_t_nots))] A) args s 0 0 A) (F0 m 51 ls []) := by
  intro n
  induction n with
  | zero =>
    intro v3 v4 h
    exact (rk_z _ _ h).elim
  | succ n ih =>
    intro v3 v4 h H locs hP hS ls hl
    exact w_X6_share_51_b a_t a_t_metal a_t_kind a_t_now a_t_readOf a_t_readKind a_t_text a_t_row a_t_nots a_t_isKept a_t_kept x_t_isTrue x_t_caskets x_t_wooers x_t_readTrue x_t_readCaskets x_t_readWooers x_t_readPicture x_t_length x_t_at x_t_faultAt x_t_acts x_t_next x_t_riddleMany x_t_seed r_t_now r_t_nots v1 v2  o_r o_r_t_nots X (hw.adr rfl)  (rk (fun k x => f_X6_share_51_b x_t_caskets r_t_nots v1 v2  k (x.1) (x.2)) n) (fun v3 v4 hh => ih v3 v4 hh) v3 v4 h hP hS hl
set_option maxHeartbeats 4000000 in
set_option maxRecDepth 100000 in
theorem w_X6_share_46 {p : Program} {l : Launch} {e : Env} {s : State} {m : MethodId} {args : Array Value} {below : List Frame} {meth : Method} {c : Code} {E : Ev} {A : Nat → Prop} (a_t a_t_metal a_t_kind a_t_now a_t_readOf a_t_readKind a_t_text a_t_row a_t_nots a_t_isKept a_t_kept : Nat) (x_t_isTrue : Int32) (x_t_caskets : Int32) (x_t_wooers : Int32) (x_t_readTrue : Int32) (x_t_readCaskets : Int32) (x_t_readWooers : Int32) (x_t_readPicture : Int32) (x_t_length : Int32) (x_t_at : Int32) (x_t_faultAt : Int32) (x_t_acts : Int32) (x_t_next : Int32) (x_t_riddleMany : Int32) (x_t_seed : Int64) (r_t_now : Nat → Int32) (r_t_nots : Nat → Int32) (v1 : Int32) (v2 : Int32) (o_r : Int32) (o_r_t_nots : Nat → Int32) (X : Cxt p s m args meth c cX6_share 6 wsX6_share RX6 (some .int)) (hw : Cw E A s [(a_t, .inr (6, [.int x_t_isTrue, .int x_t_caskets, .int x_t_wooers, .ref a_t_metal, .ref a_t_kind, .ref a_t_now, .ref a_t_readOf, .ref a_t_readKind, .int x_t_readTrue, .int x_t_readCaskets, .int x_t_readWooers, .int x_t_readPicture, .ref a_t_text, .int x_t_length, .int x_t_at, .int x_t_faultAt, .int x_t_acts, .int x_t_next, .ref a_t_row, .int x_t_riddleMany, .ref a_t_nots, .long x_t_seed, .ref a_t_isKept, .ref a_t_kept])), (a_t_now, .inl (E.2.1, 36, .inl r_t_now)), (a_t_nots, .inl (E.2.1, 16, .inl r_t_nots))]) (h : f_X6_share_46 x_t_caskets r_t_nots v1 v2 = some (o_r, o_r_t_nots)) (H : Heap) (locs : List Loc) (hP : va_P E.1 vwCl [(a_t, .inr (6, [.int x_t_isTrue, .int x_t_caskets, .int x_t_wooers, .ref a_t_metal, .ref a_t_kind, .ref a_t_now, .ref a_t_readOf, .ref a_t_readKind, .int x_t_readTrue, .int x_t_readCaskets, .int x_t_readWooers, .int x_t_readPicture, .ref a_t_text, .int x_t_length, .int x_t_at, .int x_t_faultAt, .int x_t_acts, .int x_t_next, .ref a_t_row, .int x_t_riddleMany, .ref a_t_nots, .long x_t_seed, .ref a_t_isKept, .ref a_t_kept])), (a_t_now, .inl (E.2.1, 36, .inl r_t_now)), (a_t_nots, .inl (E.2.1, 16, .inl r_t_nots))] H) (hS : va_S A s.heap H locs) (ls : Array Slot) (hl : lv_has ls 6 [(0, .ref a_t), (1, .int v1), (2, .int v2)]) : W p l e { frames := 6, cells := 0, slots := 0, locals := 146 } s m args below meth c H locs 0 0 (MQ below (Qw E (some (.int o_r)) [(a_t, .inr (6, [.int x_t_isTrue, .int x_t_caskets, .int x_t_wooers, .ref a_t_metal, .ref a_t_kind, .ref a_t_now, .ref a_t_readOf, .ref a_t_readKind, .int x_t_readTrue, .int x_t_readCaskets, .int x_t_readWooers, .int x_t_readPicture, .ref a_t_text, .int x_t_length, .int x_t_at, .int x_t_faultAt, .int x_t_acts, .int x_t_next, .ref a_t_row, .int x_t_riddleMany, .ref a_t_nots, .long x_t_seed, .ref a_t_isKept, .ref a_t_kept])), (a_t_now, .inl (E.2.1, 36, .inl r_t_now)), (a_t_nots, .inl (E.2.1, 16, .inl o_r_t_nots))] A) args s 0 0 A) (F0 m 46 ls []) := by
  obtain ⟨⟨hx, hb, hml, hown, hts⟩, hr, hlocks⟩ := id X
  obtain ⟨hC, hAB, hA, hB, hD⟩ := id hw
  have hiX6 : ∀ w ∈ u_ws RX6 TX6 24, w ∈ wsX6_share := by decide +kernel
  have hK := hC.1
  unfold f_X6_share_46 at h
  refine lv_iconst (v := 0) hx hb dX6_share_46 (by decide) ?_
  refine lv_istore_n (lv' := [(3, .int 0), (0, .ref a_t), (1, .int v1), (2, .int v2)]) hx hb dX6_share_47 rfl hl (by decide) rfl (fun ls hl => ?_)
  refine lv_iconst (v := 0) hx hb dX6_share_48 (by decide) ?_
  refine lv_istore (lv' := [(4, .int 0), (3, .int 0), (0, .ref a_t), (1, .int v1), (2, .int v2)]) hx hb dX6_share_49 hl (by decide) rfl (fun ls hl => ?_)
  exact w_X6_share_51 a_t a_t_metal a_t_kind a_t_now a_t_readOf a_t_readKind a_t_text a_t_row a_t_nots a_t_isKept a_t_kept x_t_isTrue x_t_caskets x_t_wooers x_t_readTrue x_t_readCaskets x_t_readWooers x_t_readPicture x_t_length x_t_at x_t_faultAt x_t_acts x_t_next x_t_riddleMany x_t_seed r_t_now r_t_nots v1 v2  o_r o_r_t_nots X (hw.adr rfl)  200 0 0 h H locs hP hS ls (lv_sub hl [2, 3, 4, 1, 0] rfl)
set_option maxHeartbeats 4000000 in
set_option maxRecDepth 100000 in
theorem w_X6_share_12_b {p : Program} {l : Launch} {e : Env} {s : State} {m : MethodId} {args : Array Value} {below : List Frame} {meth : Method} {c : Code} {E : Ev} {A : Nat → Prop} (a_t a_t_metal a_t_kind a_t_now a_t_readOf a_t_readKind a_t_text a_t_row a_t_nots a_t_isKept a_t_kept : Nat) (x_t_isTrue : Int32) (x_t_caskets : Int32) (x_t_wooers : Int32) (x_t_readTrue : Int32) (x_t_readCaskets : Int32) (x_t_readWooers : Int32) (x_t_readPicture : Int32) (x_t_length : Int32) (x_t_at : Int32) (x_t_faultAt : Int32) (x_t_acts : Int32) (x_t_next : Int32) (x_t_riddleMany : Int32) (x_t_seed : Int64) (r_t_now : Nat → Int32) (r_t_nots : Nat → Int32) (v1 : Int32) (v2 : Int32) (o_r : Int32) (o_r_t_nots : Nat → Int32) (X : Cxt p s m args meth c cX6_share 6 wsX6_share RX6 (some .int)) (hw : Cw E A s [(a_t, .inr (6, [.int x_t_isTrue, .int x_t_caskets, .int x_t_wooers, .ref a_t_metal, .ref a_t_kind, .ref a_t_now, .ref a_t_readOf, .ref a_t_readKind, .int x_t_readTrue, .int x_t_readCaskets, .int x_t_readWooers, .int x_t_readPicture, .ref a_t_text, .int x_t_length, .int x_t_at, .int x_t_faultAt, .int x_t_acts, .int x_t_next, .ref a_t_row, .int x_t_riddleMany, .ref a_t_nots, .long x_t_seed, .ref a_t_isKept, .ref a_t_kept])), (a_t_now, .inl (E.2.1, 36, .inl r_t_now)), (a_t_nots, .inl (E.2.1, 16, .inl r_t_nots))]) (k12 : (Nat → Int32) × Int32 → Option (Int32 × (Nat → Int32))) (hk12 : ∀ (r_t_nots : Nat → Int32) (v3 : Int32), k12 (r_t_nots, v3) = some (o_r, o_r_t_nots) → ∀ (H : Heap) (locs : List Loc), va_P E.1 vwCl [(a_t, .inr (6, [.int x_t_isTrue, .int x_t_caskets, .int x_t_wooers, .ref a_t_metal, .ref a_t_kind, .ref a_t_now, .ref a_t_readOf, .ref a_t_readKind, .int x_t_readTrue, .int x_t_readCaskets, .int x_t_readWooers, .int x_t_readPicture, .ref a_t_text, .int x_t_length, .int x_t_at, .int x_t_faultAt, .int x_t_acts, .int x_t_next, .ref a_t_row, .int x_t_riddleMany, .ref a_t_nots, .long x_t_seed, .ref a_t_isKept, .ref a_t_kept])), (a_t_now, .inl (E.2.1, 36, .inl r_t_now)), (a_t_nots, .inl (E.2.1, 16, .inl r_t_nots))] H → va_S A s.heap H locs → ∀ (ls : Array Slot), lv_has ls 6 [(0, .ref a_t), (1, .int v1), (2, .int v2), (3, .int v3)] → W p l e { frames := 6, cells := 0, slots := 0, locals := 146 } s m args below meth c H locs 0 0 (MQ below (Qw E (some (.int o_r)) [(a_t, .inr (6, [.int x_t_isTrue, .int x_t_caskets, .int x_t_wooers, .ref a_t_metal, .ref a_t_kind, .ref a_t_now, .ref a_t_readOf, .ref a_t_readKind, .int x_t_readTrue, .int x_t_readCaskets, .int x_t_readWooers, .int x_t_readPicture, .ref a_t_text, .int x_t_length, .int x_t_at, .int x_t_faultAt, .int x_t_acts, .int x_t_next, .ref a_t_row, .int x_t_riddleMany, .ref a_t_nots, .long x_t_seed, .ref a_t_isKept, .ref a_t_kept])), (a_t_now, .inl (E.2.1, 36, .inl r_t_now)), (a_t_nots, .inl (E.2.1, 16, .inl o_r_t_nots))] A) args s 0 0 A) (F0 m 12 ls [])) (v3 : Int32) (h : f_X6_share_12_b x_t_isTrue x_t_caskets r_t_now v1 v2 k12 r_t_nots v3 = some (o_r, o_r_t_nots)) {H : Heap} {locs : List Loc} (hP : va_P E.1 vwCl [(a_t, .inr (6, [.int x_t_isTrue, .int x_t_caskets, .int x_t_wooers, .ref a_t_metal, .ref a_t_kind, .ref a_t_now, .ref a_t_readOf, .ref a_t_readKind, .int x_t_readTrue, .int x_t_readCaskets, .int x_t_readWooers, .int x_t_readPicture, .ref a_t_text, .int x_t_length, .int x_t_at, .int x_t_faultAt, .int x_t_acts, .int x_t_next, .ref a_t_row, .int x_t_riddleMany, .ref a_t_nots, .long x_t_seed, .ref a_t_isKept, .ref a_t_kept])), (a_t_now, .inl (E.2.1, 36, .inl r_t_now)), (a_t_nots, .inl (E.2.1, 16, .inl r_t_nots))] H) (hS : va_S A s.heap H locs) {ls : Array Slot} (hl : lv_has ls 6 [(0, .ref a_t), (1, .int v1), (2, .int v2), (3, .int v3)]) : W p l e { frames := 6, cells := 0, slots := 0, locals := 146 } s m args below meth c H locs 0 0 (MQ below (Qw E (some (.int o_r)) [(a_t, .inr (6, [.int x_t_isTrue, .int x_t_caskets, .int x_t_wooers, .ref a_t_metal, .ref a_t_kind, .ref a_t_now, .ref a_t_readOf, .ref a_t_readKind, .int x_t_readTrue, .int x_t_readCaskets, .int x_t_readWooers, .int x_t_readPicture, .ref a_t_text, .int x_t_length, .int x_t_at, .int x_t_faultAt, .int x_t_acts, .int x_t_next, .ref a_t_row, .int x_t_riddleMany, .ref a_t_nots, .long x_t_seed, .ref a_t_isKept, .ref a_t_kept])), (a_t_now, .inl (E.2.1, 36, .inl r_t_now)), (a_t_nots, .inl (E.2.1, 16, .inl o_r_t_nots))] A) args s 0 0 A) (F0 m 12 ls []) := by
  obtain ⟨⟨hx, hb, hml, hown, hts⟩, hr, hlocks⟩ := id X
  obtain ⟨hC, hAB, hA, hB, hD⟩ := id hw
  have hiX6 : ∀ w ∈ u_ws RX6 TX6 24, w ∈ wsX6_share := by decide +kernel
  have hK := hC.1
  unfold f_X6_share_12_b at h
  refine lv_iload_n hx hb dX6_share_12 rfl (lv_at hl 3 rfl) ?_
  refine lv_aload_n hx hb dX6_share_13 rfl (lv_at hl 0 rfl) ?_
  obtain ⟨r1, g2, h⟩ := bnd h
  refine rcV (As := []) (rest := [.int v3]) ⟨hx, hb, hml, hown, hts⟩ (k_X6_all (l := l) (E := E) a_t a_t_metal a_t_kind a_t_now a_t_readOf a_t_readKind a_t_text a_t_row a_t_nots a_t_isKept a_t_kept x_t_isTrue x_t_caskets x_t_wooers x_t_readTrue x_t_readCaskets x_t_readWooers x_t_readPicture x_t_length x_t_at x_t_faultAt x_t_acts x_t_next x_t_riddleMany x_t_seed r1 g2) (cwV 0 hts gX6_share_X6_all rfl rfl rfl (by decide +kernel) ⟨Nat.le_of_ble_eq_true rfl, Nat.le_of_ble_eq_true rfl⟩) (hC.here hS hAB) hP [0] rfl 0 6 rfl rfl rfl rfl hl.1 rfl (Nat.le_of_ble_eq_true rfl) dX6_share_14 ⟨Nat.zero_le _, Nat.zero_le _⟩ ?_
  refine lv_icmp_gt (tgt := 46) hx hb dX6_share_17 (by decide) (fun c3 => ?_) (fun c3 => ?_)
  · have h := ifp c3 h
    exact w_X6_share_46 a_t a_t_metal a_t_kind a_t_now a_t_readOf a_t_readKind a_t_text a_t_row a_t_nots a_t_isKept a_t_kept x_t_isTrue x_t_caskets x_t_wooers x_t_readTrue x_t_readCaskets x_t_readWooers x_t_readPicture x_t_length x_t_at x_t_faultAt x_t_acts x_t_next x_t_riddleMany x_t_seed r_t_now r_t_nots v1 v2  o_r o_r_t_nots X (hw.adr rfl)  h H locs hP hS ls (lv_sub hl [0, 1, 2] rfl)
  · have h := ifn c3 h
    refine lv_aload_n hx hb dX6_share_20 rfl (lv_at hl 0 rfl) ?_
    refine va_get (D := E.1) (ci := 6) (v := .ref a_t_nots) (C := RX6) (T := TX6) (N := 24) hx hb hts hiX6 hown hK hP 0 rfl rfl 20 (by decide) (hts (.fieldLink RX6 31 "CasketLinesModel" "nots" "[I") (by decide +kernel)) (fun _ h9 => h9) rfl dX6_share_21 ?_
    refine lv_iload_n hx hb dX6_share_24 rfl (lv_at hl 3 rfl) ?_
    refine lv_aload_n hx hb dX6_share_25 rfl (lv_at hl 0 rfl) ?_
    refine va_get (D := E.1) (ci := 6) (v := .int x_t_caskets) (C := RX6) (T := TX6) (N := 24) hx hb hts hiX6 hown hK hP 0 rfl rfl 1 (by decide) (hts (.fieldLink RX6 90 "CasketLinesModel" "caskets" "I") (by decide +kernel)) (fun _ h9 => h9) rfl dX6_share_26 ?_
    refine lv_aload_n hx hb dX6_share_29 rfl (lv_at hl 0 rfl) ?_
    refine lv_iconst (v := 0) hx hb dX6_share_30 (by decide) ?_
    refine lv_iload_n hx hb dX6_share_31 rfl (lv_at hl 3 rfl) ?_
    obtain ⟨r4, g5, h⟩ := bnd h
    refine rcV (As := [.int 0, .int v3]) (rest := [.int x_t_caskets, .int v3, .ref a_t_nots]) ⟨hx, hb, hml, hown, hts⟩ (k_X6_fitsOn (l := l) (E := E) a_t a_t_metal a_t_kind a_t_now a_t_readOf a_t_readKind a_t_text a_t_row a_t_nots a_t_isKept a_t_kept x_t_isTrue x_t_caskets x_t_wooers x_t_readTrue x_t_readCaskets x_t_readWooers x_t_readPicture x_t_length x_t_at x_t_faultAt x_t_acts x_t_next x_t_riddleMany x_t_seed r_t_now 0 v3 r4 g5) (cwV 2 hts gX6_share_X6_fitsOn rfl rfl rfl (by decide +kernel) ⟨Nat.le_of_ble_eq_true rfl, Nat.le_of_ble_eq_true rfl⟩) (hC.here hS hAB) hP [0, 1] rfl 0 6 rfl rfl rfl rfl hl.1 rfl (Nat.le_of_ble_eq_true rfl) dX6_share_32 ⟨Nat.zero_le _, Nat.zero_le _⟩ ?_
    obtain ⟨r6, g7, h⟩ := bnd h
    refine rcS (As := [.int r4]) (rest := [.int x_t_caskets, .int v3, .ref a_t_nots]) ⟨hx, hb, hml, hown, hts⟩ (k_X6_ones (l := l) (E := E) r4 r6 g7) (va_cwS 1 hts gX6_share_X6_ones rfl rfl rfl (by decide +kernel) ⟨Nat.le_of_ble_eq_true rfl, Nat.le_of_ble_eq_true rfl⟩) (hC.here hS hAB) hP [] rfl rfl hl.1 rfl (Nat.le_of_ble_eq_true rfl) dX6_share_35 ⟨Nat.zero_le _, Nat.zero_le _⟩ ?_
    refine lv_isub hx hb dX6_share_38 ?_
    obtain ⟨b8, h⟩ := gdn h
    refine va_iast hx hb hK hP (hD.adr rfl) hS 2 0 rfl rfl b8 dX6_share_39 (fun H locs hP _ hS => ?_)
    have hP : va_P E.1 vwCl [(a_t, .inr (6, [.int x_t_isTrue, .int x_t_caskets, .int x_t_wooers, .ref a_t_metal, .ref a_t_kind, .ref a_t_now, .ref a_t_readOf, .ref a_t_readKind, .int x_t_readTrue, .int x_t_readCaskets, .int x_t_readWooers, .int x_t_readPicture, .ref a_t_text, .int x_t_length, .int x_t_at, .int x_t_faultAt, .int x_t_acts, .int x_t_next, .ref a_t_row, .int x_t_riddleMany, .ref a_t_nots, .long x_t_seed, .ref a_t_isKept, .ref a_t_kept])), (a_t_now, .inl (E.2.1, 36, .inl r_t_now)), (a_t_nots, .inl (E.2.1, 16, .inl (upd r_t_nots (Int32.toNatClampNeg v3) (x_t_caskets - r6))))] H := hP
    refine lv_iinc (v := (v3 + 1)) (lv' := [(3, .int (v3 + 1)), (0, .ref a_t), (1, .int v1), (2, .int v2)]) hx hb dX6_share_40 hl (k := 3) rfl rfl (by decide) rfl (fun ls hl => ?_)
    refine lv_goto (tgt := 12) hx hb dX6_share_43 (by decide) ?_
    exact hk12 (upd r_t_nots (Int32.toNatClampNeg v3) (x_t_caskets - r6)) (v3 + 1) h H locs hP hS ls (lv_sub hl [1, 2, 3, 0] rfl)
set_option maxHeartbeats 4000000 in
set_option maxRecDepth 100000 in
theorem w_X6_share_12 {p : Program} {l : Launch} {e : Env} {s : State} {m : MethodId} {args : Array Value} {below : List Frame} {meth : Method} {c : Code} {E : Ev} {A : Nat → Prop} (a_t a_t_metal a_t_kind a_t_now a_t_readOf a_t_readKind a_t_text a_t_row a_t_nots a_t_isKept a_t_kept : Nat) (x_t_isTrue : Int32) (x_t_caskets : Int32) (x_t_wooers : Int32) (x_t_readTrue : Int32) (x_t_readCaskets : Int32) (x_t_readWooers : Int32) (x_t_readPicture : Int32) (x_t_length : Int32) (x_t_at : Int32) (x_t_faultAt : Int32) (x_t_acts : Int32) (x_t_next : Int32) (x_t_riddleMany : Int32) (x_t_seed : Int64) (r_t_now : Nat → Int32) (r_t_nots : Nat → Int32) (v1 : Int32) (v2 : Int32) (o_r : Int32) (o_r_t_nots : Nat → Int32) (X : Cxt p s m args meth c cX6_share 6 wsX6_share RX6 (some .int)) (hw : Cw E A s [(a_t, .inr (6, [.int x_t_isTrue, .int x_t_caskets, .int x_t_wooers, .ref a_t_metal, .ref a_t_kind, .ref a_t_now, .ref a_t_readOf, .ref a_t_readKind, .int x_t_readTrue, .int x_t_readCaskets, .int x_t_readWooers, .int x_t_readPicture, .ref a_t_text, .int x_t_length, .int x_t_at, .int x_t_faultAt, .int x_t_acts, .int x_t_next, .ref a_t_row, .int x_t_riddleMany, .ref a_t_nots, .long x_t_seed, .ref a_t_isKept, .ref a_t_kept])), (a_t_now, .inl (E.2.1, 36, .inl r_t_now)), (a_t_nots, .inl (E.2.1, 16, .inl r_t_nots))]) : ∀ (n : Nat) (r_t_nots : Nat → Int32) (v3 : Int32), f_X6_share_12 x_t_isTrue x_t_caskets r_t_now v1 v2 n r_t_nots v3 = some (o_r, o_r_t_nots) → ∀ (H : Heap) (locs : List Loc), va_P E.1 vwCl [(a_t, .inr (6, [.int x_t_isTrue, .int x_t_caskets, .int x_t_wooers, .ref a_t_metal, .ref a_t_kind, .ref a_t_now, .ref a_t_readOf, .ref a_t_readKind, .int x_t_readTrue, .int x_t_readCaskets, .int x_t_readWooers, .int x_t_readPicture, .ref a_t_text, .int x_t_length, .int x_t_at, .int x_t_faultAt, .int x_t_acts, .int x_t_next, .ref a_t_row, .int x_t_riddleMany, .ref a_t_nots, .long x_t_seed, .ref a_t_isKept, .ref a_t_kept])), (a_t_now, .inl (E.2.1, 36, .inl r_t_now)), (a_t_nots, .inl (E.2.1, 16, .inl r_t_nots))] H → va_S A s.heap H locs → ∀ (ls : Array Slot), lv_has ls 6 [(0, .ref a_t), (1, .int v1), (2, .int v2), (3, .int v3)] → W p l e { frames := 6, cells := 0, slots := 0, locals := 146 } s m args below meth c H locs 0 0 (MQ below (Qw E (some (.int o_r)) [(a_t, .inr (6, [.int x_t_isTrue, .int x_t_caskets, .int x_t_wooers, .ref a_t_metal, .ref a_t_kind, .ref a_t_now, .ref a_t_readOf, .ref a_t_readKind, .int x_t_readTrue, .int x_t_readCaskets, .int x_t_readWooers, .int x_t_readPicture, .ref a_t_text, .int x_t_length, .int x_t_at, .int x_t_faultAt, .int x_t_acts, .int x_t_next, .ref a_t_row, .int x_t_riddleMany, .ref a_t_nots, .long x_t_seed, .ref a_t_isKept, .ref a_t_kept])), (a_t_now, .inl (E.2.1, 36, .inl r_t_now)), (a_t_nots, .inl (E.2.1, 16, .inl o_r_t_nots))] A) args s 0 0 A) (F0 m 12 ls []) := by
  intro n
  induction n with
  | zero =>
    intro r_t_nots v3 h
    exact (rk_z _ _ h).elim
  | succ n ih =>
    intro r_t_nots v3 h H locs hP hS ls hl
    exact w_X6_share_12_b a_t a_t_metal a_t_kind a_t_now a_t_readOf a_t_readKind a_t_text a_t_row a_t_nots a_t_isKept a_t_kept x_t_isTrue x_t_caskets x_t_wooers x_t_readTrue x_t_readCaskets x_t_readWooers x_t_readPicture x_t_length x_t_at x_t_faultAt x_t_acts x_t_next x_t_riddleMany x_t_seed r_t_now r_t_nots v1 v2  o_r o_r_t_nots X (hw.adr rfl)  (rk (fun k x => f_X6_share_12_b x_t_isTrue x_t_caskets r_t_now v1 v2  k (x.1) (x.2)) n) (fun r_t_nots v3 hh => ih r_t_nots v3 hh) v3 h hP hS hl
set_option maxHeartbeats 4000000 in
set_option maxRecDepth 100000 in
theorem w_X6_share {p : Program} {l : Launch} {e : Env} {s : State} {m : MethodId} {args : Array Value} {below : List Frame} {meth : Method} {c : Code} {E : Ev} {A : Nat → Prop} (a_t a_t_metal a_t_kind a_t_now a_t_readOf a_t_readKind a_t_text a_t_row a_t_nots a_t_isKept a_t_kept : Nat) (x_t_isTrue : Int32) (x_t_caskets : Int32) (x_t_wooers : Int32) (x_t_readTrue : Int32) (x_t_readCaskets : Int32) (x_t_readWooers : Int32) (x_t_readPicture : Int32) (x_t_length : Int32) (x_t_at : Int32) (x_t_faultAt : Int32) (x_t_acts : Int32) (x_t_next : Int32) (x_t_riddleMany : Int32) (x_t_seed : Int64) (r_t_now : Nat → Int32) (r_t_nots : Nat → Int32) (p1 : Int32) (p2 : Int32) (o_r : Int32) (o_r_t_nots : Nat → Int32) (X : Cxt p s m args meth c cX6_share 6 wsX6_share RX6 (some .int)) (hw : Cw E A s [(a_t, .inr (6, [.int x_t_isTrue, .int x_t_caskets, .int x_t_wooers, .ref a_t_metal, .ref a_t_kind, .ref a_t_now, .ref a_t_readOf, .ref a_t_readKind, .int x_t_readTrue, .int x_t_readCaskets, .int x_t_readWooers, .int x_t_readPicture, .ref a_t_text, .int x_t_length, .int x_t_at, .int x_t_faultAt, .int x_t_acts, .int x_t_next, .ref a_t_row, .int x_t_riddleMany, .ref a_t_nots, .long x_t_seed, .ref a_t_isKept, .ref a_t_kept])), (a_t_now, .inl (E.2.1, 36, .inl r_t_now)), (a_t_nots, .inl (E.2.1, 16, .inl r_t_nots))]) (h : f_X6_share x_t_isTrue x_t_caskets r_t_now r_t_nots p1 p2 = some (o_r, o_r_t_nots)) {H : Heap} {locs : List Loc} (hP : va_P E.1 vwCl [(a_t, .inr (6, [.int x_t_isTrue, .int x_t_caskets, .int x_t_wooers, .ref a_t_metal, .ref a_t_kind, .ref a_t_now, .ref a_t_readOf, .ref a_t_readKind, .int x_t_readTrue, .int x_t_readCaskets, .int x_t_readWooers, .int x_t_readPicture, .ref a_t_text, .int x_t_length, .int x_t_at, .int x_t_faultAt, .int x_t_acts, .int x_t_next, .ref a_t_row, .int x_t_riddleMany, .ref a_t_nots, .long x_t_seed, .ref a_t_isKept, .ref a_t_kept])), (a_t_now, .inl (E.2.1, 36, .inl r_t_now)), (a_t_nots, .inl (E.2.1, 16, .inl r_t_nots))] H) (hS : va_S A s.heap H locs) {ls : Array Slot} (hl : lv_has ls 6 [(0, .ref a_t), (1, .int p1), (2, .int p2)]) : W p l e { frames := 6, cells := 0, slots := 0, locals := 146 } s m args below meth c H locs 0 0 (MQ below (Qw E (some (.int o_r)) [(a_t, .inr (6, [.int x_t_isTrue, .int x_t_caskets, .int x_t_wooers, .ref a_t_metal, .ref a_t_kind, .ref a_t_now, .ref a_t_readOf, .ref a_t_readKind, .int x_t_readTrue, .int x_t_readCaskets, .int x_t_readWooers, .int x_t_readPicture, .ref a_t_text, .int x_t_length, .int x_t_at, .int x_t_faultAt, .int x_t_acts, .int x_t_next, .ref a_t_row, .int x_t_riddleMany, .ref a_t_nots, .long x_t_seed, .ref a_t_isKept, .ref a_t_kept])), (a_t_now, .inl (E.2.1, 36, .inl r_t_now)), (a_t_nots, .inl (E.2.1, 16, .inl o_r_t_nots))] A) args s 0 0 A) (F0 m 0 ls []) := by
  obtain ⟨⟨hx, hb, hml, hown, hts⟩, hr, hlocks⟩ := id X
  obtain ⟨hC, hAB, hA, hB, hD⟩ := id hw
  have hiX6 : ∀ w ∈ u_ws RX6 TX6 24, w ∈ wsX6_share := by decide +kernel
  have hK := hC.1
  unfold f_X6_share at h
  refine lv_aload_n hx hb dX6_share_0 rfl (lv_at hl 0 rfl) ?_
  refine lv_iload_n hx hb dX6_share_1 rfl (lv_at hl 1 rfl) ?_
  obtain ⟨r35, g36, h⟩ := bnd h
  refine rcV (As := [.int p1]) (rest := []) ⟨hx, hb, hml, hown, hts⟩ (k_X6_isCasket (l := l) (E := E) a_t a_t_metal a_t_kind a_t_now a_t_readOf a_t_readKind a_t_text a_t_row a_t_nots a_t_isKept a_t_kept x_t_isTrue x_t_caskets x_t_wooers x_t_readTrue x_t_readCaskets x_t_readWooers x_t_readPicture x_t_length x_t_at x_t_faultAt x_t_acts x_t_next x_t_riddleMany x_t_seed p1 r35 g36) (cwV 1 hts gX6_share_X6_isCasket rfl rfl rfl (by decide +kernel) ⟨Nat.le_of_ble_eq_true rfl, Nat.le_of_ble_eq_true rfl⟩) (hC.here hS hAB) hP [0] rfl 0 6 rfl rfl rfl rfl hl.1 rfl (Nat.le_of_ble_eq_true rfl) dX6_share_2 ⟨Nat.zero_le _, Nat.zero_le _⟩ ?_
  refine lv_if_ne (tgt := 10) hx hb dX6_share_5 (by decide) (fun c37 => ?_) (fun c37 => ?_)
  · have h := ifn c37 h
    refine lv_iconst (v := 0) hx hb dX6_share_10 (by decide) ?_
    refine lv_istore_n (lv' := [(3, .int 0), (0, .ref a_t), (1, .int p1), (2, .int p2)]) hx hb dX6_share_11 rfl hl (by decide) rfl (fun ls hl => ?_)
    exact w_X6_share_12 a_t a_t_metal a_t_kind a_t_now a_t_readOf a_t_readKind a_t_text a_t_row a_t_nots a_t_isKept a_t_kept x_t_isTrue x_t_caskets x_t_wooers x_t_readTrue x_t_readCaskets x_t_readWooers x_t_readPicture x_t_length x_t_at x_t_faultAt x_t_acts x_t_next x_t_riddleMany x_t_seed r_t_now r_t_nots p1 p2  o_r o_r_t_nots X (hw.adr rfl)  200 r_t_nots 0 h H locs hP hS ls (lv_sub hl [1, 2, 3, 0] rfl)
  · have h := ifp c37 h
    refine lv_iconst (v := (-1)) hx hb dX6_share_8 (by decide) ?_
    exact W.iret hx hb hr (fun t ht _ => ⟨by cases h; rfl, by rw [ht]; cases h; exact hP, hS.F ht⟩) hS.2.2 dX6_share_9
set_option maxHeartbeats 4000000 in
set_option maxRecDepth 100000 in
theorem k_X6_share {l : Launch} {E : Ev} (a_t a_t_metal a_t_kind a_t_now a_t_readOf a_t_readKind a_t_text a_t_row a_t_nots a_t_isKept a_t_kept : Nat) (x_t_isTrue : Int32) (x_t_caskets : Int32) (x_t_wooers : Int32) (x_t_readTrue : Int32) (x_t_readCaskets : Int32) (x_t_readWooers : Int32) (x_t_readPicture : Int32) (x_t_length : Int32) (x_t_at : Int32) (x_t_faultAt : Int32) (x_t_acts : Int32) (x_t_next : Int32) (x_t_riddleMany : Int32) (x_t_seed : Int64) (r_t_now : Nat → Int32) (r_t_nots : Nat → Int32) (p1 : Int32) (p2 : Int32) (sz : Nat) (o_r : Int32) (o_r_t_nots : Nat → Int32) (hf : f_X6_share x_t_isTrue x_t_caskets r_t_now r_t_nots p1 p2 = some (o_r, o_r_t_nots)) : Met l yX6_share wsX6_share ({ frames := 6, cells := 0, slots := 0, locals := 146 }) (Pw E [.ref a_t, .int p1, .int p2] [(a_t, .inr (6, [.int x_t_isTrue, .int x_t_caskets, .int x_t_wooers, .ref a_t_metal, .ref a_t_kind, .ref a_t_now, .ref a_t_readOf, .ref a_t_readKind, .int x_t_readTrue, .int x_t_readCaskets, .int x_t_readWooers, .int x_t_readPicture, .ref a_t_text, .int x_t_length, .int x_t_at, .int x_t_faultAt, .int x_t_acts, .int x_t_next, .ref a_t_row, .int x_t_riddleMany, .ref a_t_nots, .long x_t_seed, .ref a_t_isKept, .ref a_t_kept])), (a_t_now, .inl (E.2.1, 36, .inl r_t_now)), (a_t_nots, .inl (E.2.1, 16, .inl r_t_nots))] sz) (Qw E (some (.int o_r)) [(a_t, .inr (6, [.int x_t_isTrue, .int x_t_caskets, .int x_t_wooers, .ref a_t_metal, .ref a_t_kind, .ref a_t_now, .ref a_t_readOf, .ref a_t_readKind, .int x_t_readTrue, .int x_t_readCaskets, .int x_t_readWooers, .int x_t_readPicture, .ref a_t_text, .int x_t_length, .int x_t_at, .int x_t_faultAt, .int x_t_acts, .int x_t_next, .ref a_t_row, .int x_t_riddleMany, .ref a_t_nots, .long x_t_seed, .ref a_t_isKept, .ref a_t_kept])), (a_t_now, .inl (E.2.1, 36, .inl r_t_now)), (a_t_nots, .inl (E.2.1, 16, .inl o_r_t_nots))] (va_A [(a_t, .inr (6, [.int x_t_isTrue, .int x_t_caskets, .int x_t_wooers, .ref a_t_metal, .ref a_t_kind, .ref a_t_now, .ref a_t_readOf, .ref a_t_readKind, .int x_t_readTrue, .int x_t_readCaskets, .int x_t_readWooers, .int x_t_readPicture, .ref a_t_text, .int x_t_length, .int x_t_at, .int x_t_faultAt, .int x_t_acts, .int x_t_next, .ref a_t_row, .int x_t_riddleMany, .ref a_t_nots, .long x_t_seed, .ref a_t_isKept, .ref a_t_kept])), (a_t_now, .inl (E.2.1, 36, .inl r_t_now)), (a_t_nots, .inl (E.2.1, 16, .inl r_t_nots))] sz)) 0 0 (va_A [(a_t, .inr (6, [.int x_t_isTrue, .int x_t_caskets, .int x_t_wooers, .ref a_t_metal, .ref a_t_kind, .ref a_t_now, .ref a_t_readOf, .ref a_t_readKind, .int x_t_readTrue, .int x_t_readCaskets, .int x_t_readWooers, .int x_t_readPicture, .ref a_t_text, .int x_t_length, .int x_t_at, .int x_t_faultAt, .int x_t_acts, .int x_t_next, .ref a_t_row, .int x_t_riddleMany, .ref a_t_nots, .long x_t_seed, .ref a_t_isKept, .ref a_t_kept])), (a_t_now, .inl (E.2.1, 36, .inl r_t_now)), (a_t_nots, .inl (E.2.1, 16, .inl r_t_nots))] sz) := by
  refine Met.ofW (cc := cX6_share) (maxL := 6) (ret := (some .int)) (by decide) rfl ?_
  intro p e s m args below meth c s₁ B hml hv
  obtain ⟨rfl, rfl, hw, hP⟩ := Pw.start hv
  have X := Cxt.of B hml
  have hl := lv_entry ([.ref a_t, .int p1, .int p2]) (n := 6) (Nat.le_of_ble_eq_true rfl)
  rw [lg_entry_eq]
  exact w_X6_share a_t a_t_metal a_t_kind a_t_now a_t_readOf a_t_readKind a_t_text a_t_row a_t_nots a_t_isKept a_t_kept x_t_isTrue x_t_caskets x_t_wooers x_t_readTrue x_t_readCaskets x_t_readWooers x_t_readPicture x_t_length x_t_at x_t_faultAt x_t_acts x_t_next x_t_riddleMany x_t_seed r_t_now r_t_nots p1 p2 o_r o_r_t_nots X hw hf hP va_S.rf hl
set_option maxHeartbeats 4000000 in
set_option maxRecDepth 100000 in
theorem w_X6_gain_27 {p : Program} {l : Launch} {e : Env} {s : State} {m : MethodId} {args : Array Value} {below : List Frame} {meth : Method} {c : Code} {E : Ev} (a_t : Nat) (v2 : Int32) (v3 : Int32) (s0 : Int32) (o_r : Int32) (X : Cxt p s m args meth c cX6_gain 5 wsX6_gain RX6 (some .int)) (hw : wd E [] s s.heap) (h : f_X6_gain_27 v2 v3 s0 = some o_r) (ls : Array Slot) (hl : lv_has ls 5 [(2, .int v2), (3, .int v3)]) : W p l e { frames := 1, cells := 0, slots := 0, locals := 22 } s m args below meth c s.heap [] 0 0 (MQ below (Qr (some (.int o_r))) args s 0 0 (fun _ => False)) (F0 m 27 ls [.int s0]) := by
  obtain ⟨⟨hx, hb, hml, hown, hts⟩, hr, hlocks⟩ := id X
  obtain ⟨hC, hP⟩ := id hw
  unfold f_X6_gain_27 at h
  refine lv_istore (lv' := [(4, .int s0), (2, .int v2), (3, .int v3)]) hx hb dX6_gain_27 hl (by decide) rfl (fun ls hl => ?_)
  refine lv_iload_n hx hb dX6_gain_29 rfl (lv_at hl 1 rfl) ?_
  refine lv_iload_n hx hb dX6_gain_30 rfl (lv_at hl 2 rfl) ?_
  refine lv_icmp_ne (tgt := 41) hx hb dX6_gain_31 (by decide) (fun c1 => ?_) (fun c1 => ?_)
  · have h := ifn c1 h
    refine lv_iload hx hb dX6_gain_41 (lv_at hl 0 rfl) ?_
    refine lv_iconst (v := 2) hx hb dX6_gain_43 (by decide) ?_
    refine lv_isub hx hb dX6_gain_44 ?_
    exact W.iret hx hb hr (fun t ht _ => ⟨by cases h; rfl, ht⟩) (fun _ hq => absurd hq List.not_mem_nil) dX6_gain_45
  · have h := ifp c1 h
    refine lv_iload hx hb dX6_gain_34 (lv_at hl 0 rfl) ?_
    refine lv_iconst (v := 2) hx hb dX6_gain_36 (by decide) ?_
    refine lv_idiv hx hb dX6_gain_37 (by decide) ?_
    refine lv_goto (tgt := 43) hx hb dX6_gain_38 (by decide) ?_
    refine lv_iconst (v := 2) hx hb dX6_gain_43 (by decide) ?_
    refine lv_isub hx hb dX6_gain_44 ?_
    exact W.iret hx hb hr (fun t ht _ => ⟨by cases h; rfl, ht⟩) (fun _ hq => absurd hq List.not_mem_nil) dX6_gain_45
set_option maxHeartbeats 4000000 in
set_option maxRecDepth 100000 in
theorem w_X6_gain {p : Program} {l : Launch} {e : Env} {s : State} {m : MethodId} {args : Array Value} {below : List Frame} {meth : Method} {c : Code} {E : Ev} (a_t : Nat) (p1 : Int32) (p2 : Int32) (p3 : Int32) (o_r : Int32) (X : Cxt p s m args meth c cX6_gain 5 wsX6_gain RX6 (some .int)) (hw : wd E [] s s.heap) (h : f_X6_gain p1 p2 p3 = some o_r) {ls : Array Slot} (hl : lv_has ls 5 [(0, .ref a_t), (1, .int p1), (2, .int p2), (3, .int p3)]) : W p l e { frames := 1, cells := 0, slots := 0, locals := 22 } s m args below meth c s.heap [] 0 0 (MQ below (Qr (some (.int o_r))) args s 0 0 (fun _ => False)) (F0 m 0 ls []) := by
  obtain ⟨⟨hx, hb, hml, hown, hts⟩, hr, hlocks⟩ := id X
  obtain ⟨hC, hP⟩ := id hw
  unfold f_X6_gain at h
  refine lv_iload_n hx hb dX6_gain_0 rfl (lv_at hl 2 rfl) ?_
  refine lv_if_ne (tgt := 6) hx hb dX6_gain_1 (by decide) (fun c2 => ?_) (fun c2 => ?_)
  · have h := ifn c2 h
    refine lv_iload_n hx hb dX6_gain_6 rfl (lv_at hl 1 rfl) ?_
    refine lv_iload_n hx hb dX6_gain_7 rfl (lv_at hl 2 rfl) ?_
    refine lv_iconst (v := 1) hx hb dX6_gain_8 (by decide) ?_
    refine lv_isub hx hb dX6_gain_9 ?_
    obtain ⟨r3, g4, h⟩ := bnd h
    refine rcS (As := [.int p1, .int (p2 - 1)]) (rest := []) ⟨hx, hb, hml, hown, hts⟩ (k_X6_has (l := l) (E := E) p1 (p2 - 1) r3 g4) (va_cwS 2 hts gX6_gain_X6_has rfl rfl rfl (by decide +kernel) ⟨Nat.le_of_ble_eq_true rfl, Nat.le_of_ble_eq_true rfl⟩) hC hP [] rfl rfl hl.1 rfl (Nat.le_of_ble_eq_true rfl) dX6_gain_10 ⟨Nat.zero_le _, Nat.zero_le _⟩ ?_
    refine lv_if_eq (tgt := 26) hx hb dX6_gain_13 (by decide) (fun c5 => ?_) (fun c5 => ?_)
    · have h := ifp c5 h
      refine lv_iconst (v := 0) hx hb dX6_gain_26 (by decide) ?_
      exact w_X6_gain_27 a_t  p2 p3 0  o_r X hw  h ls (lv_sub hl [2, 3] rfl)
    · have h := ifn c5 h
      refine lv_bipush (v := 12) hx hb dX6_gain_16 (by decide) ?_
      refine lv_iload_n hx hb dX6_gain_18 rfl (lv_at hl 1 rfl) ?_
      obtain ⟨r6, g7, h⟩ := bnd h
      refine rcS (As := [.int p1]) (rest := [.int 12]) ⟨hx, hb, hml, hown, hts⟩ (k_X6_ones (l := l) (E := E) p1 r6 g7) (va_cwS 1 hts gX6_gain_X6_ones rfl rfl rfl (by decide +kernel) ⟨Nat.le_of_ble_eq_true rfl, Nat.le_of_ble_eq_true rfl⟩) hC hP [] rfl rfl hl.1 rfl (Nat.le_of_ble_eq_true rfl) dX6_gain_19 ⟨Nat.zero_le _, Nat.zero_le _⟩ ?_
      obtain ⟨b8, h⟩ := gdn h
      refine lv_idiv hx hb dX6_gain_22 b8 ?_
      refine lv_goto (tgt := 27) hx hb dX6_gain_23 (by decide) ?_
      exact w_X6_gain_27 a_t  p2 p3 (12 / r6)  o_r X hw  h ls (lv_sub hl [2, 3] rfl)
  · have h := ifp c2 h
    refine lv_iconst (v := 0) hx hb dX6_gain_4 (by decide) ?_
    exact W.iret hx hb hr (fun t ht _ => ⟨by cases h; rfl, ht⟩) (fun _ hq => absurd hq List.not_mem_nil) dX6_gain_5
set_option maxHeartbeats 4000000 in
set_option maxRecDepth 100000 in
theorem k_X6_gain {l : Launch} {E : Ev} (a_t : Nat) (p1 : Int32) (p2 : Int32) (p3 : Int32) (o_r : Int32) (hf : f_X6_gain p1 p2 p3 = some o_r) : Met l yX6_gain wsX6_gain ({ frames := 1, cells := 0, slots := 0, locals := 22 }) (Pr E [.ref a_t, .int p1, .int p2, .int p3] []) (Qr (some (.int o_r))) 0 0 (fun _ => False) := by
  refine Met.ofW (cc := cX6_gain) (maxL := 5) (ret := (some .int)) (by decide) rfl ?_
  intro p e s m args below meth c s₁ B hml hv
  obtain ⟨rfl, hw⟩ := hv
  have X := Cxt.of B hml
  have hl := lv_entry ([.ref a_t, .int p1, .int p2, .int p3]) (n := 5) (Nat.le_of_ble_eq_true rfl)
  rw [lg_entry_eq]
  exact w_X6_gain a_t  p1 p2 p3 o_r X hw hf hl
set_option maxHeartbeats 4000000 in
set_option maxRecDepth 100000 in
theorem w_X6_isRest_6_b {p : Program} {l : Launch} {e : Env} {s : State} {m : MethodId} {args : Array Value} {below : List Frame} {meth : Method} {c : Code} {E : Ev} (a_t a_t_metal a_t_kind a_t_now a_t_readOf a_t_readKind a_t_text a_t_row a_t_nots a_t_isKept a_t_kept : Nat) (x_t_isTrue : Int32) (x_t_caskets : Int32) (x_t_wooers : Int32) (x_t_readTrue : Int32) (x_t_readCaskets : Int32) (x_t_readWooers : Int32) (x_t_readPicture : Int32) (x_t_length : Int32) (x_t_at : Int32) (x_t_faultAt : Int32) (x_t_acts : Int32) (x_t_next : Int32) (x_t_riddleMany : Int32) (x_t_seed : Int64) (v1 : Int32) (v2 : Int32) (v3 : Int32) (o_r : Int32) (X : Cxt p s m args meth c cX6_isRest 6 wsX6_isRest RX6 (some .boolean)) (hw : wd E [(a_t, .inr (6, [.int x_t_isTrue, .int x_t_caskets, .int x_t_wooers, .ref a_t_metal, .ref a_t_kind, .ref a_t_now, .ref a_t_readOf, .ref a_t_readKind, .int x_t_readTrue, .int x_t_readCaskets, .int x_t_readWooers, .int x_t_readPicture, .ref a_t_text, .int x_t_length, .int x_t_at, .int x_t_faultAt, .int x_t_acts, .int x_t_next, .ref a_t_row, .int x_t_riddleMany, .ref a_t_nots, .long x_t_seed, .ref a_t_isKept, .ref a_t_kept]))] s s.heap) (k6 : Int32 × Int32 → Option (Int32)) (hk6 : ∀ (v4 : Int32) (v5 : Int32), k6 (v4, v5) = some o_r → ∀ (ls : Array Slot), lv_has ls 6 [(0, .ref a_t), (1, .int v1), (2, .int v2), (3, .int v3), (4, .int v4), (5, .int v5)] → W p l e { frames := 2, cells := 0, slots := 0, locals := 46 } s m args below meth c s.heap [] 0 0 (MQ below (Qr (some (.int o_r))) args s 0 0 (fun _ => False)) (F0 m 6 ls [])) (v4 : Int32) (v5 : Int32) (h : f_X6_isRest_6_b x_t_caskets v1 v2 v3 k6 v4 v5 = some o_r) {ls : Array Slot} (hl : lv_has ls 6 [(0, .ref a_t), (1, .int v1), (2, .int v2), (3, .int v3), (4, .int v4), (5, .int v5)]) : W p l e { frames := 2, cells := 0, slots := 0, locals := 46 } s m args below meth c s.heap [] 0 0 (MQ below (Qr (some (.int o_r))) args s 0 0 (fun _ => False)) (F0 m 6 ls []) := by
  obtain ⟨⟨hx, hb, hml, hown, hts⟩, hr, hlocks⟩ := id X
  obtain ⟨hC, hP⟩ := id hw
  have hiX6 : ∀ w ∈ u_ws RX6 TX6 24, w ∈ wsX6_isRest := by decide +kernel
  have hK := hC.1
  unfold f_X6_isRest_6_b at h
  refine lv_iload hx hb dX6_isRest_6 (lv_at hl 5 rfl) ?_
  refine lv_aload_n hx hb dX6_isRest_8 rfl (lv_at hl 0 rfl) ?_
  refine va_get (D := E.1) (ci := 6) (v := .int x_t_caskets) (C := RX6) (T := TX6) (N := 24) hx hb hts hiX6 hown hK hP 0 rfl rfl 1 (by decide) (hts (.fieldLink RX6 90 "CasketLinesModel" "caskets" "I") (by decide +kernel)) (fun _ h9 => h9) rfl dX6_isRest_9 ?_
  refine lv_icmp_gt (tgt := 69) hx hb dX6_isRest_12 (by decide) (fun c1 => ?_) (fun c1 => ?_)
  · have h := ifp c1 h
    refine lv_iload hx hb dX6_isRest_69 (lv_at hl 4 rfl) ?_
    obtain ⟨b2, h⟩ := gdy h
    exact W.zret hx hb hr (nar_b b2) (fun t ht _ => ⟨by cases h; rfl, ht⟩) (fun _ hq => absurd hq List.not_mem_nil) dX6_isRest_71
  · have h := ifn c1 h
    refine lv_iload hx hb dX6_isRest_15 (lv_at hl 4 rfl) ?_
    refine lv_if_eq (tgt := 60) hx hb dX6_isRest_17 (by decide) (fun c3 => ?_) (fun c3 => ?_)
    · have h := ifp c3 h
      refine lv_iconst (v := 0) hx hb dX6_isRest_60 (by decide) ?_
      refine lv_istore (lv' := [(4, .int 0), (0, .ref a_t), (1, .int v1), (2, .int v2), (3, .int v3), (5, .int v5)]) hx hb dX6_isRest_61 hl (by decide) rfl (fun ls hl => ?_)
      refine lv_iinc (v := (v5 + 1)) (lv' := [(5, .int (v5 + 1)), (4, .int 0), (0, .ref a_t), (1, .int v1), (2, .int v2), (3, .int v3)]) hx hb dX6_isRest_63 hl (k := 5) rfl rfl (by decide) rfl (fun ls hl => ?_)
      refine lv_goto (tgt := 6) hx hb dX6_isRest_66 (by decide) ?_
      exact hk6 0 (v5 + 1) h ls (lv_sub hl [2, 3, 4, 5, 1, 0] rfl)
    · have h := ifn c3 h
      refine lv_aload_n hx hb dX6_isRest_20 rfl (lv_at hl 0 rfl) ?_
      refine lv_iload_n hx hb dX6_isRest_21 rfl (lv_at hl 1 rfl) ?_
      refine lv_iload hx hb dX6_isRest_22 (lv_at hl 5 rfl) ?_
      refine lv_iload_n hx hb dX6_isRest_24 rfl (lv_at hl 3 rfl) ?_
      obtain ⟨r4, g5, h⟩ := bnd h
      refine rcV (As := [.int v1, .int v5, .int v3]) (rest := []) ⟨hx, hb, hml, hown, hts⟩ (k_X6_gain (l := l) (E := E) a_t v1 v5 v3 r4 g5) (cwV 3 hts gX6_isRest_X6_gain rfl rfl rfl (by decide +kernel) ⟨Nat.le_of_ble_eq_true rfl, Nat.le_of_ble_eq_true rfl⟩) hC hP [] rfl 0 6 rfl rfl rfl rfl hl.1 rfl (Nat.le_of_ble_eq_true rfl) dX6_isRest_25 ⟨Nat.zero_le _, Nat.zero_le _⟩ ?_
      refine lv_aload_n hx hb dX6_isRest_28 rfl (lv_at hl 0 rfl) ?_
      refine lv_iload_n hx hb dX6_isRest_29 rfl (lv_at hl 1 rfl) ?_
      refine lv_iload_n hx hb dX6_isRest_30 rfl (lv_at hl 2 rfl) ?_
      refine lv_iload_n hx hb dX6_isRest_31 rfl (lv_at hl 3 rfl) ?_
      obtain ⟨r6, g7, h⟩ := bnd h
      refine rcV (As := [.int v1, .int v2, .int v3]) (rest := [.int r4]) ⟨hx, hb, hml, hown, hts⟩ (k_X6_gain (l := l) (E := E) a_t v1 v2 v3 r6 g7) (cwV 3 hts gX6_isRest_X6_gain rfl rfl rfl (by decide +kernel) ⟨Nat.le_of_ble_eq_true rfl, Nat.le_of_ble_eq_true rfl⟩) hC hP [] rfl 0 6 rfl rfl rfl rfl hl.1 rfl (Nat.le_of_ble_eq_true rfl) dX6_isRest_32 ⟨Nat.zero_le _, Nat.zero_le _⟩ ?_
      refine lv_icmp_gt (tgt := 60) hx hb dX6_isRest_35 (by decide) (fun c8 => ?_) (fun c8 => ?_)
      · have h := ifp c8 h
        refine lv_iconst (v := 0) hx hb dX6_isRest_60 (by decide) ?_
        refine lv_istore (lv' := [(4, .int 0), (0, .ref a_t), (1, .int v1), (2, .int v2), (3, .int v3), (5, .int v5)]) hx hb dX6_isRest_61 hl (by decide) rfl (fun ls hl => ?_)
        refine lv_iinc (v := (v5 + 1)) (lv' := [(5, .int (v5 + 1)), (4, .int 0), (0, .ref a_t), (1, .int v1), (2, .int v2), (3, .int v3)]) hx hb dX6_isRest_63 hl (k := 5) rfl rfl (by decide) rfl (fun ls hl => ?_)
        refine lv_goto (tgt := 6) hx hb dX6_isRest_66 (by decide) ?_
        exact hk6 0 (v5 + 1) h ls (lv_sub hl [2, 3, 4, 5, 1, 0] rfl)
      · have h := ifn c8 h
        refine lv_aload_n hx hb dX6_isRest_38 rfl (lv_at hl 0 rfl) ?_
        refine lv_iload_n hx hb dX6_isRest_39 rfl (lv_at hl 1 rfl) ?_
        refine lv_iload hx hb dX6_isRest_40 (lv_at hl 5 rfl) ?_
        refine lv_iload_n hx hb dX6_isRest_42 rfl (lv_at hl 2 rfl) ?_
        obtain ⟨r9, g10, h⟩ := bnd h
        refine rcV (As := [.int v1, .int v5, .int v2]) (rest := []) ⟨hx, hb, hml, hown, hts⟩ (k_X6_gain (l := l) (E := E) a_t v1 v5 v2 r9 g10) (cwV 3 hts gX6_isRest_X6_gain rfl rfl rfl (by decide +kernel) ⟨Nat.le_of_ble_eq_true rfl, Nat.le_of_ble_eq_true rfl⟩) hC hP [] rfl 0 6 rfl rfl rfl rfl hl.1 rfl (Nat.le_of_ble_eq_true rfl) dX6_isRest_43 ⟨Nat.zero_le _, Nat.zero_le _⟩ ?_
        refine lv_aload_n hx hb dX6_isRest_46 rfl (lv_at hl 0 rfl) ?_
        refine lv_iload_n hx hb dX6_isRest_47 rfl (lv_at hl 1 rfl) ?_
        refine lv_iload_n hx hb dX6_isRest_48 rfl (lv_at hl 3 rfl) ?_
        refine lv_iload_n hx hb dX6_isRest_49 rfl (lv_at hl 2 rfl) ?_
        obtain ⟨r11, g12, h⟩ := bnd h
        refine rcV (As := [.int v1, .int v3, .int v2]) (rest := [.int r9]) ⟨hx, hb, hml, hown, hts⟩ (k_X6_gain (l := l) (E := E) a_t v1 v3 v2 r11 g12) (cwV 3 hts gX6_isRest_X6_gain rfl rfl rfl (by decide +kernel) ⟨Nat.le_of_ble_eq_true rfl, Nat.le_of_ble_eq_true rfl⟩) hC hP [] rfl 0 6 rfl rfl rfl rfl hl.1 rfl (Nat.le_of_ble_eq_true rfl) dX6_isRest_50 ⟨Nat.zero_le _, Nat.zero_le _⟩ ?_
        refine lv_icmp_gt (tgt := 60) hx hb dX6_isRest_53 (by decide) (fun c13 => ?_) (fun c13 => ?_)
        · have h := ifp c13 h
          refine lv_iconst (v := 0) hx hb dX6_isRest_60 (by decide) ?_
          refine lv_istore (lv' := [(4, .int 0), (0, .ref a_t), (1, .int v1), (2, .int v2), (3, .int v3), (5, .int v5)]) hx hb dX6_isRest_61 hl (by decide) rfl (fun ls hl => ?_)
          refine lv_iinc (v := (v5 + 1)) (lv' := [(5, .int (v5 + 1)), (4, .int 0), (0, .ref a_t), (1, .int v1), (2, .int v2), (3, .int v3)]) hx hb dX6_isRest_63 hl (k := 5) rfl rfl (by decide) rfl (fun ls hl => ?_)
          refine lv_goto (tgt := 6) hx hb dX6_isRest_66 (by decide) ?_
          exact hk6 0 (v5 + 1) h ls (lv_sub hl [2, 3, 4, 5, 1, 0] rfl)
        · have h := ifn c13 h
          refine lv_iconst (v := 1) hx hb dX6_isRest_56 (by decide) ?_
          refine lv_goto (tgt := 61) hx hb dX6_isRest_57 (by decide) ?_
          refine lv_istore (lv' := [(4, .int 1), (0, .ref a_t), (1, .int v1), (2, .int v2), (3, .int v3), (5, .int v5)]) hx hb dX6_isRest_61 hl (by decide) rfl (fun ls hl => ?_)
          refine lv_iinc (v := (v5 + 1)) (lv' := [(5, .int (v5 + 1)), (4, .int 1), (0, .ref a_t), (1, .int v1), (2, .int v2), (3, .int v3)]) hx hb dX6_isRest_63 hl (k := 5) rfl rfl (by decide) rfl (fun ls hl => ?_)
          refine lv_goto (tgt := 6) hx hb dX6_isRest_66 (by decide) ?_
          exact hk6 1 (v5 + 1) h ls (lv_sub hl [2, 3, 4, 5, 1, 0] rfl)
set_option maxHeartbeats 4000000 in
set_option maxRecDepth 100000 in
theorem w_X6_isRest_6 {p : Program} {l : Launch} {e : Env} {s : State} {m : MethodId} {args : Array Value} {below : List Frame} {meth : Method} {c : Code} {E : Ev} (a_t a_t_metal a_t_kind a_t_now a_t_readOf a_t_readKind a_t_text a_t_row a_t_nots a_t_isKept a_t_kept : Nat) (x_t_isTrue : Int32) (x_t_caskets : Int32) (x_t_wooers : Int32) (x_t_readTrue : Int32) (x_t_readCaskets : Int32) (x_t_readWooers : Int32) (x_t_readPicture : Int32) (x_t_length : Int32) (x_t_at : Int32) (x_t_faultAt : Int32) (x_t_acts : Int32) (x_t_next : Int32) (x_t_riddleMany : Int32) (x_t_seed : Int64) (v1 : Int32) (v2 : Int32) (v3 : Int32) (o_r : Int32) (X : Cxt p s m args meth c cX6_isRest 6 wsX6_isRest RX6 (some .boolean)) (hw : wd E [(a_t, .inr (6, [.int x_t_isTrue, .int x_t_caskets, .int x_t_wooers, .ref a_t_metal, .ref a_t_kind, .ref a_t_now, .ref a_t_readOf, .ref a_t_readKind, .int x_t_readTrue, .int x_t_readCaskets, .int x_t_readWooers, .int x_t_readPicture, .ref a_t_text, .int x_t_length, .int x_t_at, .int x_t_faultAt, .int x_t_acts, .int x_t_next, .ref a_t_row, .int x_t_riddleMany, .ref a_t_nots, .long x_t_seed, .ref a_t_isKept, .ref a_t_kept]))] s s.heap) : ∀ (n : Nat) (v4 : Int32) (v5 : Int32), f_X6_isRest_6 x_t_caskets v1 v2 v3 n v4 v5 = some o_r → ∀ (ls : Array Slot), lv_has ls 6 [(0, .ref a_t), (1, .int v1), (2, .int v2), (3, .int v3), (4, .int v4), (5, .int v5)] → W p l e { frames := 2, cells := 0, slots := 0, locals := 46 } s m args below meth c s.heap [] 0 0 (MQ below (Qr (some (.int o_r))) args s 0 0 (fun _ => False)) (F0 m 6 ls []) := by
  intro n
  induction n with
  | zero =>
    intro v4 v5 h
    exact (rk_z _ _ h).elim
  | succ n ih =>
    intro v4 v5 h ls hl
    exact w_X6_isRest_6_b a_t a_t_metal a_t_kind a_t_now a_t_readOf a_t_readKind a_t_text a_t_row a_t_nots a_t_isKept a_t_kept x_t_isTrue x_t_caskets x_t_wooers x_t_readTrue x_t_readCaskets x_t_readWooers x_t_readPicture x_t_length x_t_at x_t_faultAt x_t_acts x_t_next x_t_riddleMany x_t_seed v1 v2 v3  o_r X hw  (rk (fun k x => f_X6_isRest_6_b x_t_caskets v1 v2 v3  k (x.1) (x.2)) n) (fun v4 v5 hh => ih v4 v5 hh) v4 v5 h hl
set_option maxHeartbeats 4000000 in
set_option maxRecDepth 100000 in
theorem w_X6_isRest {p : Program} {l : Launch} {e : Env} {s : State} {m : MethodId} {args : Array Value} {below : List Frame} {meth : Method} {c : Code} {E : Ev} (a_t a_t_metal a_t_kind a_t_now a_t_readOf a_t_readKind a_t_text a_t_row a_t_nots a_t_isKept a_t_kept : Nat) (x_t_isTrue : Int32) (x_t_caskets : Int32) (x_t_wooers : Int32) (x_t_readTrue : Int32) (x_t_readCaskets : Int32) (x_t_readWooers : Int32) (x_t_readPicture : Int32) (x_t_length : Int32) (x_t_at : Int32) (x_t_faultAt : Int32) (x_t_acts : Int32) (x_t_next : Int32) (x_t_riddleMany : Int32) (x_t_seed : Int64) (p1 : Int32) (p2 : Int32) (p3 : Int32) (o_r : Int32) (X : Cxt p s m args meth c cX6_isRest 6 wsX6_isRest RX6 (some .boolean)) (hw : wd E [(a_t, .inr (6, [.int x_t_isTrue, .int x_t_caskets, .int x_t_wooers, .ref a_t_metal, .ref a_t_kind, .ref a_t_now, .ref a_t_readOf, .ref a_t_readKind, .int x_t_readTrue, .int x_t_readCaskets, .int x_t_readWooers, .int x_t_readPicture, .ref a_t_text, .int x_t_length, .int x_t_at, .int x_t_faultAt, .int x_t_acts, .int x_t_next, .ref a_t_row, .int x_t_riddleMany, .ref a_t_nots, .long x_t_seed, .ref a_t_isKept, .ref a_t_kept]))] s s.heap) (h : f_X6_isRest x_t_caskets p1 p2 p3 = some o_r) {ls : Array Slot} (hl : lv_has ls 6 [(0, .ref a_t), (1, .int p1), (2, .int p2), (3, .int p3)]) : W p l e { frames := 2, cells := 0, slots := 0, locals := 46 } s m args below meth c s.heap [] 0 0 (MQ below (Qr (some (.int o_r))) args s 0 0 (fun _ => False)) (F0 m 0 ls []) := by
  obtain ⟨⟨hx, hb, hml, hown, hts⟩, hr, hlocks⟩ := id X
  obtain ⟨hC, hP⟩ := id hw
  have hiX6 : ∀ w ∈ u_ws RX6 TX6 24, w ∈ wsX6_isRest := by decide +kernel
  have hK := hC.1
  unfold f_X6_isRest at h
  refine lv_iconst (v := 1) hx hb dX6_isRest_0 (by decide) ?_
  refine lv_istore (lv' := [(4, .int 1), (0, .ref a_t), (1, .int p1), (2, .int p2), (3, .int p3)]) hx hb dX6_isRest_1 hl (by decide) rfl (fun ls hl => ?_)
  refine lv_iconst (v := 0) hx hb dX6_isRest_3 (by decide) ?_
  refine lv_istore (lv' := [(5, .int 0), (4, .int 1), (0, .ref a_t), (1, .int p1), (2, .int p2), (3, .int p3)]) hx hb dX6_isRest_4 hl (by decide) rfl (fun ls hl => ?_)
  exact w_X6_isRest_6 a_t a_t_metal a_t_kind a_t_now a_t_readOf a_t_readKind a_t_text a_t_row a_t_nots a_t_isKept a_t_kept x_t_isTrue x_t_caskets x_t_wooers x_t_readTrue x_t_readCaskets x_t_readWooers x_t_readPicture x_t_length x_t_at x_t_faultAt x_t_acts x_t_next x_t_riddleMany x_t_seed p1 p2 p3  o_r X hw  200 1 0 h ls (lv_sub hl [2, 3, 4, 5, 1, 0] rfl)
set_option maxHeartbeats 4000000 in
set_option maxRecDepth 100000 in
theorem k_X6_isRest {l : Launch} {E : Ev} (a_t a_t_metal a_t_kind a_t_now a_t_readOf a_t_readKind a_t_text a_t_row a_t_nots a_t_isKept a_t_kept : Nat) (x_t_isTrue : Int32) (x_t_caskets : Int32) (x_t_wooers : Int32) (x_t_readTrue : Int32) (x_t_readCaskets : Int32) (x_t_readWooers : Int32) (x_t_readPicture : Int32) (x_t_length : Int32) (x_t_at : Int32) (x_t_faultAt : Int32) (x_t_acts : Int32) (x_t_next : Int32) (x_t_riddleMany : Int32) (x_t_seed : Int64) (p1 : Int32) (p2 : Int32) (p3 : Int32) (o_r : Int32) (hf : f_X6_isRest x_t_caskets p1 p2 p3 = some o_r) : Met l yX6_isRest wsX6_isRest ({ frames := 2, cells := 0, slots := 0, locals := 46 }) (Pr E [.ref a_t, .int p1, .int p2, .int p3] [(a_t, .inr (6, [.int x_t_isTrue, .int x_t_caskets, .int x_t_wooers, .ref a_t_metal, .ref a_t_kind, .ref a_t_now, .ref a_t_readOf, .ref a_t_readKind, .int x_t_readTrue, .int x_t_readCaskets, .int x_t_readWooers, .int x_t_readPicture, .ref a_t_text, .int x_t_length, .int x_t_at, .int x_t_faultAt, .int x_t_acts, .int x_t_next, .ref a_t_row, .int x_t_riddleMany, .ref a_t_nots, .long x_t_seed, .ref a_t_isKept, .ref a_t_kept]))]) (Qr (some (.int o_r))) 0 0 (fun _ => False) := by
  refine Met.ofW (cc := cX6_isRest) (maxL := 6) (ret := (some .boolean)) (by decide) rfl ?_
  intro p e s m args below meth c s₁ B hml hv
  obtain ⟨rfl, hw⟩ := hv
  have X := Cxt.of B hml
  have hl := lv_entry ([.ref a_t, .int p1, .int p2, .int p3]) (n := 6) (Nat.le_of_ble_eq_true rfl)
  rw [lg_entry_eq]
  exact w_X6_isRest a_t a_t_metal a_t_kind a_t_now a_t_readOf a_t_readKind a_t_text a_t_row a_t_nots a_t_isKept a_t_kept x_t_isTrue x_t_caskets x_t_wooers x_t_readTrue x_t_readCaskets x_t_readWooers x_t_readPicture x_t_length x_t_at x_t_faultAt x_t_acts x_t_next x_t_riddleMany x_t_seed p1 p2 p3 o_r X hw hf hl
set_option maxHeartbeats 4000000 in
set_option maxRecDepth 100000 in
theorem w_X6_rests_44_b {p : Program} {l : Launch} {e : Env} {s : State} {m : MethodId} {args : Array Value} {below : List Frame} {meth : Method} {c : Code} {E : Ev} (a_t a_t_metal a_t_kind a_t_now a_t_readOf a_t_readKind a_t_text a_t_row a_t_nots a_t_isKept a_t_kept : Nat) (x_t_isTrue : Int32) (x_t_caskets : Int32) (x_t_wooers : Int32) (x_t_readTrue : Int32) (x_t_readCaskets : Int32) (x_t_readWooers : Int32) (x_t_readPicture : Int32) (x_t_length : Int32) (x_t_at : Int32) (x_t_faultAt : Int32) (x_t_acts : Int32) (x_t_next : Int32) (x_t_riddleMany : Int32) (x_t_seed : Int64) (r_t_now : Nat → Int32) (v1 : Int32) (v2 : Int32) (v5 : Int32) (k32 : Int32 × Int32 × Int32 → Option (Int32)) (o_r : Int32) (X : Cxt p s m args meth c cX6_rests 7 wsX6_rests RX6 (some .int)) (hw : wd E [(a_t, .inr (6, [.int x_t_isTrue, .int x_t_caskets, .int x_t_wooers, .ref a_t_metal, .ref a_t_kind, .ref a_t_now, .ref a_t_readOf, .ref a_t_readKind, .int x_t_readTrue, .int x_t_readCaskets, .int x_t_readWooers, .int x_t_readPicture, .ref a_t_text, .int x_t_length, .int x_t_at, .int x_t_faultAt, .int x_t_acts, .int x_t_next, .ref a_t_row, .int x_t_riddleMany, .ref a_t_nots, .long x_t_seed, .ref a_t_isKept, .ref a_t_kept])), (a_t_now, .inl (E.2.1, 36, .inl r_t_now))] s s.heap) (hk32 : ∀ (v3 : Int32) (v4 : Int32) (v5 : Int32), k32 (v3, v4, v5) = some o_r → ∀ (ls : Array Slot), lv_has ls 7 [(0, .ref a_t), (1, .int v1), (2, .int v2), (3, .int v3), (4, .int v4), (5, .int v5)] → W p l e { frames := 6, cells := 0, slots := 0, locals := 146 } s m args below meth c s.heap [] 0 0 (MQ below (Qr (some (.int o_r))) args s 0 0 (fun _ => False)) (F0 m 32 ls [])) (k44 : Int32 × Int32 × Int32 → Option (Int32)) (hk44 : ∀ (v3 : Int32) (v4 : Int32) (v6 : Int32), k44 (v3, v4, v6) = some o_r → ∀ (ls : Array Slot), lv_has ls 7 [(0, .ref a_t), (1, .int v1), (2, .int v2), (3, .int v3), (4, .int v4), (5, .int v5), (6, .int v6)] → W p l e { frames := 6, cells := 0, slots := 0, locals := 146 } s m args below meth c s.heap [] 0 0 (MQ below (Qr (some (.int o_r))) args s 0 0 (fun _ => False)) (F0 m 44 ls [])) (v3 : Int32) (v4 : Int32) (v6 : Int32) (h : f_X6_rests_44_b x_t_caskets v1 v2 v5 k32 k44 v3 v4 v6 = some o_r) {ls : Array Slot} (hl : lv_has ls 7 [(0, .ref a_t), (1, .int v1), (2, .int v2), (3, .int v3), (4, .int v4), (5, .int v5), (6, .int v6)]) : W p l e { frames := 6, cells := 0, slots := 0, locals := 146 } s m args below meth c s.heap [] 0 0 (MQ below (Qr (some (.int o_r))) args s 0 0 (fun _ => False)) (F0 m 44 ls []) := by
  obtain ⟨⟨hx, hb, hml, hown, hts⟩, hr, hlocks⟩ := id X
  obtain ⟨hC, hP⟩ := id hw
  have hiX6 : ∀ w ∈ u_ws RX6 TX6 24, w ∈ wsX6_rests := by decide +kernel
  have hK := hC.1
  unfold f_X6_rests_44_b at h
  refine lv_iload hx hb dX6_rests_44 (lv_at hl 6 rfl) ?_
  refine lv_aload_n hx hb dX6_rests_46 rfl (lv_at hl 0 rfl) ?_
  refine va_get (D := E.1) (ci := 6) (v := .int x_t_caskets) (C := RX6) (T := TX6) (N := 24) hx hb hts hiX6 hown hK hP 0 rfl rfl 1 (by decide) (hts (.fieldLink RX6 90 "CasketLinesModel" "caskets" "I") (by decide +kernel)) (fun _ h9 => h9) rfl dX6_rests_47 ?_
  refine lv_icmp_gt (tgt := 93) hx hb dX6_rests_50 (by decide) (fun c2 => ?_) (fun c2 => ?_)
  · have h := ifp c2 h
    refine lv_iinc (v := (v5 + 1)) (lv' := [(5, .int (v5 + 1)), (0, .ref a_t), (1, .int v1), (2, .int v2), (3, .int v3), (4, .int v4), (6, .int v6)]) hx hb dX6_rests_93 hl (k := 5) rfl rfl (by decide) rfl (fun ls hl => ?_)
    refine lv_goto (tgt := 32) hx hb dX6_rests_96 (by decide) ?_
    exact hk32 v3 v4 (v5 + 1) h ls (lv_sub hl [1, 2, 3, 4, 5, 0] rfl)
  · have h := ifn c2 h
    refine lv_aload_n hx hb dX6_rests_53 rfl (lv_at hl 0 rfl) ?_
    refine lv_iload_n hx hb dX6_rests_54 rfl (lv_at hl 2 rfl) ?_
    refine lv_iload hx hb dX6_rests_55 (lv_at hl 5 rfl) ?_
    refine lv_iload hx hb dX6_rests_57 (lv_at hl 6 rfl) ?_
    obtain ⟨r3, g4, h⟩ := bnd h
    refine rcV (As := [.int v2, .int v5, .int v6]) (rest := []) ⟨hx, hb, hml, hown, hts⟩ (k_X6_isRest (l := l) (E := E) a_t a_t_metal a_t_kind a_t_now a_t_readOf a_t_readKind a_t_text a_t_row a_t_nots a_t_isKept a_t_kept x_t_isTrue x_t_caskets x_t_wooers x_t_readTrue x_t_readCaskets x_t_readWooers x_t_readPicture x_t_length x_t_at x_t_faultAt x_t_acts x_t_next x_t_riddleMany x_t_seed v2 v5 v6 r3 g4) (cwV 3 hts gX6_rests_X6_isRest rfl rfl rfl (by decide +kernel) ⟨Nat.le_of_ble_eq_true rfl, Nat.le_of_ble_eq_true rfl⟩) hC hP [0] rfl 0 6 rfl rfl rfl rfl hl.1 rfl (Nat.le_of_ble_eq_true rfl) dX6_rests_59 ⟨Nat.zero_le _, Nat.zero_le _⟩ ?_
    refine lv_if_eq (tgt := 87) hx hb dX6_rests_62 (by decide) (fun c5 => ?_) (fun c5 => ?_)
    · have h := ifp c5 h
      refine lv_iinc (v := (v6 + 1)) (lv' := [(6, .int (v6 + 1)), (0, .ref a_t), (1, .int v1), (2, .int v2), (3, .int v3), (4, .int v4), (5, .int v5)]) hx hb dX6_rests_87 hl (k := 6) rfl rfl (by decide) rfl (fun ls hl => ?_)
      refine lv_goto (tgt := 44) hx hb dX6_rests_90 (by decide) ?_
      exact hk44 v3 v4 (v6 + 1) h ls (lv_sub hl [1, 2, 3, 4, 5, 6, 0] rfl)
    · have h := ifn c5 h
      refine lv_iload_n hx hb dX6_rests_65 rfl (lv_at hl 3 rfl) ?_
      refine lv_if_ne (tgt := 80) hx hb dX6_rests_66 (by decide) (fun c6 => ?_) (fun c6 => ?_)
      · have h := ifn c6 h
        refine lv_iload hx hb dX6_rests_80 (lv_at hl 4 rfl) ?_
        refine lv_istore (lv' := [(4, .int v4), (0, .ref a_t), (1, .int v1), (2, .int v2), (3, .int v3), (5, .int v5), (6, .int v6)]) hx hb dX6_rests_82 hl (by decide) rfl (fun ls hl => ?_)
        refine lv_iinc (v := (v3 + 1)) (lv' := [(3, .int (v3 + 1)), (4, .int v4), (0, .ref a_t), (1, .int v1), (2, .int v2), (5, .int v5), (6, .int v6)]) hx hb dX6_rests_84 hl (k := 4) rfl rfl (by decide) rfl (fun ls hl => ?_)
        refine lv_iinc (v := (v6 + 1)) (lv' := [(6, .int (v6 + 1)), (3, .int (v3 + 1)), (4, .int v4), (0, .ref a_t), (1, .int v1), (2, .int v2), (5, .int v5)]) hx hb dX6_rests_87 hl (k := 6) rfl rfl (by decide) rfl (fun ls hl => ?_)
        refine lv_goto (tgt := 44) hx hb dX6_rests_90 (by decide) ?_
        exact hk44 (v3 + 1) v4 (v6 + 1) h ls (lv_sub hl [3, 4, 5, 1, 2, 6, 0] rfl)
      · have h := ifp c6 h
        refine lv_bipush (v := 10) hx hb dX6_rests_69 (by decide) ?_
        refine lv_iload hx hb dX6_rests_71 (lv_at hl 5 rfl) ?_
        refine lv_imul hx hb dX6_rests_73 ?_
        refine lv_iload hx hb dX6_rests_74 (lv_at hl 6 rfl) ?_
        refine lv_iadd hx hb dX6_rests_76 ?_
        refine lv_goto (tgt := 82) hx hb dX6_rests_77 (by decide) ?_
        refine lv_istore (lv' := [(4, .int ((10 * v5) + v6)), (0, .ref a_t), (1, .int v1), (2, .int v2), (3, .int v3), (5, .int v5), (6, .int v6)]) hx hb dX6_rests_82 hl (by decide) rfl (fun ls hl => ?_)
        refine lv_iinc (v := (v3 + 1)) (lv' := [(3, .int (v3 + 1)), (4, .int ((10 * v5) + v6)), (0, .ref a_t), (1, .int v1), (2, .int v2), (5, .int v5), (6, .int v6)]) hx hb dX6_rests_84 hl (k := 4) rfl rfl (by decide) rfl (fun ls hl => ?_)
        refine lv_iinc (v := (v6 + 1)) (lv' := [(6, .int (v6 + 1)), (3, .int (v3 + 1)), (4, .int ((10 * v5) + v6)), (0, .ref a_t), (1, .int v1), (2, .int v2), (5, .int v5)]) hx hb dX6_rests_87 hl (k := 6) rfl rfl (by decide) rfl (fun ls hl => ?_)
        refine lv_goto (tgt := 44) hx hb dX6_rests_90 (by decide) ?_
        exact hk44 (v3 + 1) ((10 * v5) + v6) (v6 + 1) h ls (lv_sub hl [3, 4, 5, 1, 2, 6, 0] rfl)
set_option maxHeartbeats 4000000 in
set_option maxRecDepth 100000 in
theorem w_X6_rests_44 {p : Program} {l : Launch} {e : Env} {s : State} {m : MethodId} {args : Array Value} {below : List Frame} {meth : Method} {c : Code} {E : Ev} (a_t a_t_metal a_t_kind a_t_now a_t_readOf a_t_readKind a_t_text a_t_row a_t_nots a_t_isKept a_t_kept : Nat) (x_t_isTrue : Int32) (x_t_caskets : Int32) (x_t_wooers : Int32) (x_t_readTrue : Int32) (x_t_readCaskets : Int32) (x_t_readWooers : Int32) (x_t_readPicture : Int32) (x_t_length : Int32) (x_t_at : Int32) (x_t_faultAt : Int32) (x_t_acts : Int32) (x_t_next : Int32) (x_t_riddleMany : Int32) (x_t_seed : Int64) (r_t_now : Nat → Int32) (v1 : Int32) (v2 : Int32) (v5 : Int32) (k32 : Int32 × Int32 × Int32 → Option (Int32)) (o_r : Int32) (X : Cxt p s m args meth c cX6_rests 7 wsX6_rests RX6 (some .int)) (hw : wd E [(a_t, .inr (6, [.int x_t_isTrue, .int x_t_caskets, .int x_t_wooers, .ref a_t_metal, .ref a_t_kind, .ref a_t_now, .ref a_t_readOf, .ref a_t_readKind, .int x_t_readTrue, .int x_t_readCaskets, .int x_t_readWooers, .int x_t_readPicture, .ref a_t_text, .int x_t_length, .int x_t_at, .int x_t_faultAt, .int x_t_acts, .int x_t_next, .ref a_t_row, .int x_t_riddleMany, .ref a_t_nots, .long x_t_seed, .ref a_t_isKept, .ref a_t_kept])), (a_t_now, .inl (E.2.1, 36, .inl r_t_now))] s s.heap) (hk32 : ∀ (v3 : Int32) (v4 : Int32) (v5 : Int32), k32 (v3, v4, v5) = some o_r → ∀ (ls : Array Slot), lv_has ls 7 [(0, .ref a_t), (1, .int v1), (2, .int v2), (3, .int v3), (4, .int v4), (5, .int v5)] → W p l e { frames := 6, cells := 0, slots := 0, locals := 146 } s m args below meth c s.heap [] 0 0 (MQ below (Qr (some (.int o_r))) args s 0 0 (fun _ => False)) (F0 m 32 ls [])) : ∀ (n : Nat) (v3 : Int32) (v4 : Int32) (v6 : Int32), f_X6_rests_44 x_t_caskets v1 v2 v5 k32 n v3 v4 v6 = some o_r → ∀ (ls : Array Slot), lv_has ls 7 [(0, .ref a_t), (1, .int v1), (2, .int v2), (3, .int v3), (4, .int v4), (5, .int v5), (6, .int v6)] → W p l e { frames := 6, cells := 0, slots := 0, locals := 146 } s m args below meth c s.heap [] 0 0 (MQ below (Qr (some (.int o_r))) args s 0 0 (fun _ => False)) (F0 m 44 ls []) := by
  intro n
  induction n with
  | zero =>
    intro v3 v4 v6 h
    exact (rk_z _ _ h).elim
  | succ n ih =>
    intro v3 v4 v6 h ls hl
    exact w_X6_rests_44_b a_t a_t_metal a_t_kind a_t_now a_t_readOf a_t_readKind a_t_text a_t_row a_t_nots a_t_isKept a_t_kept x_t_isTrue x_t_caskets x_t_wooers x_t_readTrue x_t_readCaskets x_t_readWooers x_t_readPicture x_t_length x_t_at x_t_faultAt x_t_acts x_t_next x_t_riddleMany x_t_seed r_t_now v1 v2 v5 k32 o_r X hw hk32 (rk (fun k x => f_X6_rests_44_b x_t_caskets v1 v2 v5 k32 k (x.1) (x.2.1) (x.2.2)) n) (fun v3 v4 v6 hh => ih v3 v4 v6 hh) v3 v4 v6 h hl
set_option maxHeartbeats 4000000 in
set_option maxRecDepth 100000 in
theorem w_X6_rests_99 {p : Program} {l : Launch} {e : Env} {s : State} {m : MethodId} {args : Array Value} {below : List Frame} {meth : Method} {c : Code} {E : Ev} (a_t a_t_metal a_t_kind a_t_now a_t_readOf a_t_readKind a_t_text a_t_row a_t_nots a_t_isKept a_t_kept : Nat) (x_t_isTrue : Int32) (x_t_caskets : Int32) (x_t_wooers : Int32) (x_t_readTrue : Int32) (x_t_readCaskets : Int32) (x_t_readWooers : Int32) (x_t_readPicture : Int32) (x_t_length : Int32) (x_t_at : Int32) (x_t_faultAt : Int32) (x_t_acts : Int32) (x_t_next : Int32) (x_t_riddleMany : Int32) (x_t_seed : Int64) (r_t_now : Nat → Int32) (v1 : Int32) (v3 : Int32) (v4 : Int32) (o_r : Int32) (X : Cxt p s m args meth c cX6_rests 7 wsX6_rests RX6 (some .int)) (hw : wd E [(a_t, .inr (6, [.int x_t_isTrue, .int x_t_caskets, .int x_t_wooers, .ref a_t_metal, .ref a_t_kind, .ref a_t_now, .ref a_t_readOf, .ref a_t_readKind, .int x_t_readTrue, .int x_t_readCaskets, .int x_t_readWooers, .int x_t_readPicture, .ref a_t_text, .int x_t_length, .int x_t_at, .int x_t_faultAt, .int x_t_acts, .int x_t_next, .ref a_t_row, .int x_t_riddleMany, .ref a_t_nots, .long x_t_seed, .ref a_t_isKept, .ref a_t_kept])), (a_t_now, .inl (E.2.1, 36, .inl r_t_now))] s s.heap) (h : f_X6_rests_99 v1 v3 v4 = some o_r) (ls : Array Slot) (hl : lv_has ls 7 [(1, .int v1), (3, .int v3), (4, .int v4)]) : W p l e { frames := 6, cells := 0, slots := 0, locals := 146 } s m args below meth c s.heap [] 0 0 (MQ below (Qr (some (.int o_r))) args s 0 0 (fun _ => False)) (F0 m 99 ls []) := by
  obtain ⟨⟨hx, hb, hml, hown, hts⟩, hr, hlocks⟩ := id X
  obtain ⟨hC, hP⟩ := id hw
  have hiX6 : ∀ w ∈ u_ws RX6 TX6 24, w ∈ wsX6_rests := by decide +kernel
  have hK := hC.1
  unfold f_X6_rests_99 at h
  refine lv_iload_n hx hb dX6_rests_99 rfl (lv_at hl 0 rfl) ?_
  refine lv_if_ne (tgt := 107) hx hb dX6_rests_100 (by decide) (fun c7 => ?_) (fun c7 => ?_)
  · have h := ifn c7 h
    refine lv_iload hx hb dX6_rests_107 (lv_at hl 2 rfl) ?_
    exact W.iret hx hb hr (fun t ht _ => ⟨by cases h; rfl, ht⟩) (fun _ hq => absurd hq List.not_mem_nil) dX6_rests_109
  · have h := ifp c7 h
    refine lv_iload_n hx hb dX6_rests_103 rfl (lv_at hl 1 rfl) ?_
    refine lv_goto (tgt := 109) hx hb dX6_rests_104 (by decide) ?_
    exact W.iret hx hb hr (fun t ht _ => ⟨by cases h; rfl, ht⟩) (fun _ hq => absurd hq List.not_mem_nil) dX6_rests_109
set_option maxHeartbeats 4000000 in
set_option maxRecDepth 100000 in
theorem w_X6_rests_32_b {p : Program} {l : Launch} {e : Env} {s : State} {m : MethodId} {args : Array Value} {below : List Frame} {meth : Method} {c : Code} {E : Ev} (a_t a_t_metal a_t_kind a_t_now a_t_readOf a_t_readKind a_t_text a_t_row a_t_nots a_t_isKept a_t_kept : Nat) (x_t_isTrue : Int32) (x_t_caskets : Int32) (x_t_wooers : Int32) (x_t_readTrue : Int32) (x_t_readCaskets : Int32) (x_t_readWooers : Int32) (x_t_readPicture : Int32) (x_t_length : Int32) (x_t_at : Int32) (x_t_faultAt : Int32) (x_t_acts : Int32) (x_t_next : Int32) (x_t_riddleMany : Int32) (x_t_seed : Int64) (r_t_now : Nat → Int32) (v1 : Int32) (v2 : Int32) (o_r : Int32) (X : Cxt p s m args meth c cX6_rests 7 wsX6_rests RX6 (some .int)) (hw : wd E [(a_t, .inr (6, [.int x_t_isTrue, .int x_t_caskets, .int x_t_wooers, .ref a_t_metal, .ref a_t_kind, .ref a_t_now, .ref a_t_readOf, .ref a_t_readKind, .int x_t_readTrue, .int x_t_readCaskets, .int x_t_readWooers, .int x_t_readPicture, .ref a_t_text, .int x_t_length, .int x_t_at, .int x_t_faultAt, .int x_t_acts, .int x_t_next, .ref a_t_row, .int x_t_riddleMany, .ref a_t_nots, .long x_t_seed, .ref a_t_isKept, .ref a_t_kept])), (a_t_now, .inl (E.2.1, 36, .inl r_t_now))] s s.heap) (k32 : Int32 × Int32 × Int32 → Option (Int32)) (hk32 : ∀ (v3 : Int32) (v4 : Int32) (v5 : Int32), k32 (v3, v4, v5) = some o_r → ∀ (ls : Array Slot), lv_has ls 7 [(0, .ref a_t), (1, .int v1), (2, .int v2), (3, .int v3), (4, .int v4), (5, .int v5)] → W p l e { frames := 6, cells := 0, slots := 0, locals := 146 } s m args below meth c s.heap [] 0 0 (MQ below (Qr (some (.int o_r))) args s 0 0 (fun _ => False)) (F0 m 32 ls [])) (v3 : Int32) (v4 : Int32) (v5 : Int32) (h : f_X6_rests_32_b x_t_caskets v1 v2 k32 v3 v4 v5 = some o_r) {ls : Array Slot} (hl : lv_has ls 7 [(0, .ref a_t), (1, .int v1), (2, .int v2), (3, .int v3), (4, .int v4), (5, .int v5)]) : W p l e { frames := 6, cells := 0, slots := 0, locals := 146 } s m args below meth c s.heap [] 0 0 (MQ below (Qr (some (.int o_r))) args s 0 0 (fun _ => False)) (F0 m 32 ls []) := by
  obtain ⟨⟨hx, hb, hml, hown, hts⟩, hr, hlocks⟩ := id X
  obtain ⟨hC, hP⟩ := id hw
  have hiX6 : ∀ w ∈ u_ws RX6 TX6 24, w ∈ wsX6_rests := by decide +kernel
  have hK := hC.1
  unfold f_X6_rests_32_b at h
  refine lv_iload hx hb dX6_rests_32 (lv_at hl 5 rfl) ?_
  refine lv_aload_n hx hb dX6_rests_34 rfl (lv_at hl 0 rfl) ?_
  refine va_get (D := E.1) (ci := 6) (v := .int x_t_caskets) (C := RX6) (T := TX6) (N := 24) hx hb hts hiX6 hown hK hP 0 rfl rfl 1 (by decide) (hts (.fieldLink RX6 90 "CasketLinesModel" "caskets" "I") (by decide +kernel)) (fun _ h9 => h9) rfl dX6_rests_35 ?_
  refine lv_icmp_gt (tgt := 99) hx hb dX6_rests_38 (by decide) (fun c1 => ?_) (fun c1 => ?_)
  · have h := ifp c1 h
    exact w_X6_rests_99 a_t a_t_metal a_t_kind a_t_now a_t_readOf a_t_readKind a_t_text a_t_row a_t_nots a_t_isKept a_t_kept x_t_isTrue x_t_caskets x_t_wooers x_t_readTrue x_t_readCaskets x_t_readWooers x_t_readPicture x_t_length x_t_at x_t_faultAt x_t_acts x_t_next x_t_riddleMany x_t_seed r_t_now v1 v3 v4  o_r X hw  h ls (lv_sub hl [1, 3, 4] rfl)
  · have h := ifn c1 h
    refine lv_iconst (v := 0) hx hb dX6_rests_41 (by decide) ?_
    refine lv_istore (lv' := [(6, .int 0), (0, .ref a_t), (1, .int v1), (2, .int v2), (3, .int v3), (4, .int v4), (5, .int v5)]) hx hb dX6_rests_42 hl (by decide) rfl (fun ls hl => ?_)
    exact w_X6_rests_44 a_t a_t_metal a_t_kind a_t_now a_t_readOf a_t_readKind a_t_text a_t_row a_t_nots a_t_isKept a_t_kept x_t_isTrue x_t_caskets x_t_wooers x_t_readTrue x_t_readCaskets x_t_readWooers x_t_readPicture x_t_length x_t_at x_t_faultAt x_t_acts x_t_next x_t_riddleMany x_t_seed r_t_now v1 v2 v5 k32 o_r X hw hk32 200 v3 v4 0 h ls (lv_sub hl [1, 2, 3, 4, 5, 6, 0] rfl)
set_option maxHeartbeats 4000000 in
set_option maxRecDepth 100000 in
theorem w_X6_rests_32 {p : Program} {l : Launch} {e : Env} {s : State} {m : MethodId} {args : Array Value} {below : List Frame} {meth : Method} {c : Code} {E : Ev} (a_t a_t_metal a_t_kind a_t_now a_t_readOf a_t_readKind a_t_text a_t_row a_t_nots a_t_isKept a_t_kept : Nat) (x_t_isTrue : Int32) (x_t_caskets : Int32) (x_t_wooers : Int32) (x_t_readTrue : Int32) (x_t_readCaskets : Int32) (x_t_readWooers : Int32) (x_t_readPicture : Int32) (x_t_length : Int32) (x_t_at : Int32) (x_t_faultAt : Int32) (x_t_acts : Int32) (x_t_next : Int32) (x_t_riddleMany : Int32) (x_t_seed : Int64) (r_t_now : Nat → Int32) (v1 : Int32) (v2 : Int32) (o_r : Int32) (X : Cxt p s m args meth c cX6_rests 7 wsX6_rests RX6 (some .int)) (hw : wd E [(a_t, .inr (6, [.int x_t_isTrue, .int x_t_caskets, .int x_t_wooers, .ref a_t_metal, .ref a_t_kind, .ref a_t_now, .ref a_t_readOf, .ref a_t_readKind, .int x_t_readTrue, .int x_t_readCaskets, .int x_t_readWooers, .int x_t_readPicture, .ref a_t_text, .int x_t_length, .int x_t_at, .int x_t_faultAt, .int x_t_acts, .int x_t_next, .ref a_t_row, .int x_t_riddleMany, .ref a_t_nots, .long x_t_seed, .ref a_t_isKept, .ref a_t_kept])), (a_t_now, .inl (E.2.1, 36, .inl r_t_now))] s s.heap) : ∀ (n : Nat) (v3 : Int32) (v4 : Int32) (v5 : Int32), f_X6_rests_32 x_t_caskets v1 v2 n v3 v4 v5 = some o_r → ∀ (ls : Array Slot), lv_has ls 7 [(0, .ref a_t), (1, .int v1), (2, .int v2), (3, .int v3), (4, .int v4), (5, .int v5)] → W p l e { frames := 6, cells := 0, slots := 0, locals := 146 } s m args below meth c s.heap [] 0 0 (MQ below (Qr (some (.int o_r))) args s 0 0 (fun _ => False)) (F0 m 32 ls []) := by
  intro n
  induction n with
  | zero =>
    intro v3 v4 v5 h
    exact (rk_z _ _ h).elim
  | succ n ih =>
    intro v3 v4 v5 h ls hl
    exact w_X6_rests_32_b a_t a_t_metal a_t_kind a_t_now a_t_readOf a_t_readKind a_t_text a_t_row a_t_nots a_t_isKept a_t_kept x_t_isTrue x_t_caskets x_t_wooers x_t_readTrue x_t_readCaskets x_t_readWooers x_t_readPicture x_t_length x_t_at x_t_faultAt x_t_acts x_t_next x_t_riddleMany x_t_seed r_t_now v1 v2  o_r X hw  (rk (fun k x => f_X6_rests_32_b x_t_caskets v1 v2  k (x.1) (x.2.1) (x.2.2)) n) (fun v3 v4 v5 hh => ih v3 v4 v5 hh) v3 v4 v5 h hl
set_option maxHeartbeats 4000000 in
set_option maxRecDepth 100000 in
theorem w_X6_rests {p : Program} {l : Launch} {e : Env} {s : State} {m : MethodId} {args : Array Value} {below : List Frame} {meth : Method} {c : Code} {E : Ev} (a_t a_t_metal a_t_kind a_t_now a_t_readOf a_t_readKind a_t_text a_t_row a_t_nots a_t_isKept a_t_kept : Nat) (x_t_isTrue : Int32) (x_t_caskets : Int32) (x_t_wooers : Int32) (x_t_readTrue : Int32) (x_t_readCaskets : Int32) (x_t_readWooers : Int32) (x_t_readPicture : Int32) (x_t_length : Int32) (x_t_at : Int32) (x_t_faultAt : Int32) (x_t_acts : Int32) (x_t_next : Int32) (x_t_riddleMany : Int32) (x_t_seed : Int64) (r_t_now : Nat → Int32) (p1 : Int32) (o_r : Int32) (X : Cxt p s m args meth c cX6_rests 7 wsX6_rests RX6 (some .int)) (hw : wd E [(a_t, .inr (6, [.int x_t_isTrue, .int x_t_caskets, .int x_t_wooers, .ref a_t_metal, .ref a_t_kind, .ref a_t_now, .ref a_t_readOf, .ref a_t_readKind, .int x_t_readTrue, .int x_t_readCaskets, .int x_t_readWooers, .int x_t_readPicture, .ref a_t_text, .int x_t_length, .int x_t_at, .int x_t_faultAt, .int x_t_acts, .int x_t_next, .ref a_t_row, .int x_t_riddleMany, .ref a_t_nots, .long x_t_seed, .ref a_t_isKept, .ref a_t_kept])), (a_t_now, .inl (E.2.1, 36, .inl r_t_now))] s s.heap) (h : f_X6_rests x_t_isTrue x_t_caskets r_t_now p1 = some o_r) {ls : Array Slot} (hl : lv_has ls 7 [(0, .ref a_t), (1, .int p1)]) : W p l e { frames := 6, cells := 0, slots := 0, locals := 146 } s m args below meth c s.heap [] 0 0 (MQ below (Qr (some (.int o_r))) args s 0 0 (fun _ => False)) (F0 m 0 ls []) := by
  obtain ⟨⟨hx, hb, hml, hown, hts⟩, hr, hlocks⟩ := id X
  obtain ⟨hC, hP⟩ := id hw
  have hiX6 : ∀ w ∈ u_ws RX6 TX6 24, w ∈ wsX6_rests := by decide +kernel
  have hK := hC.1
  unfold f_X6_rests at h
  refine lv_iload_n hx hb dX6_rests_0 rfl (lv_at hl 1 rfl) ?_
  refine lv_i2l hx hb dX6_rests_1 rfl ?_
  refine lv_lconst (v := 0) hx hb dX6_rests_2 (by decide) ?_
  refine lv_lconst (v := 1) hx hb dX6_rests_3 (by decide) ?_
  obtain ⟨r8, g9, h⟩ := bnd h
  refine rcS (As := [.long (Int32.toInt64 p1), .long 0, .long 1]) (rest := []) ⟨hx, hb, hml, hown, hts⟩ (k_X6_in (l := l) (E := E) (Int32.toInt64 p1) 0 1 r8 g9) (va_cwS 3 hts gX6_rests_X6_in rfl rfl rfl (by decide +kernel) ⟨Nat.le_of_ble_eq_true rfl, Nat.le_of_ble_eq_true rfl⟩) hC hP [] rfl rfl hl.1 rfl (Nat.le_of_ble_eq_true rfl) dX6_rests_4 ⟨Nat.zero_le _, Nat.zero_le _⟩ ?_
  refine lv_if_ne (tgt := 13) hx hb dX6_rests_7 (by decide) (fun c10 => ?_) (fun c10 => ?_)
  · have h := ifn c10 h
    refine lv_aload_n hx hb dX6_rests_13 rfl (lv_at hl 0 rfl) ?_
    refine lv_iconst (v := 0) hx hb dX6_rests_14 (by decide) ?_
    refine lv_aload_n hx hb dX6_rests_15 rfl (lv_at hl 0 rfl) ?_
    obtain ⟨r11, g12, h⟩ := bnd h
    refine rcV (As := []) (rest := [.int 0, .ref a_t]) ⟨hx, hb, hml, hown, hts⟩ (k_X6_all (l := l) (E := E) a_t a_t_metal a_t_kind a_t_now a_t_readOf a_t_readKind a_t_text a_t_row a_t_nots a_t_isKept a_t_kept x_t_isTrue x_t_caskets x_t_wooers x_t_readTrue x_t_readCaskets x_t_readWooers x_t_readPicture x_t_length x_t_at x_t_faultAt x_t_acts x_t_next x_t_riddleMany x_t_seed r11 g12) (cwV 0 hts gX6_rests_X6_all rfl rfl rfl (by decide +kernel) ⟨Nat.le_of_ble_eq_true rfl, Nat.le_of_ble_eq_true rfl⟩) hC hP [0] rfl 0 6 rfl rfl rfl rfl hl.1 rfl (Nat.le_of_ble_eq_true rfl) dX6_rests_16 ⟨Nat.zero_le _, Nat.zero_le _⟩ ?_
    obtain ⟨r13, g14, h⟩ := bnd h
    refine rcV (As := [.int 0, .int r11]) (rest := []) ⟨hx, hb, hml, hown, hts⟩ (k_X6_fitsOn (l := l) (E := E) a_t a_t_metal a_t_kind a_t_now a_t_readOf a_t_readKind a_t_text a_t_row a_t_nots a_t_isKept a_t_kept x_t_isTrue x_t_caskets x_t_wooers x_t_readTrue x_t_readCaskets x_t_readWooers x_t_readPicture x_t_length x_t_at x_t_faultAt x_t_acts x_t_next x_t_riddleMany x_t_seed r_t_now 0 r11 r13 g14) (cwV 2 hts gX6_rests_X6_fitsOn rfl rfl rfl (by decide +kernel) ⟨Nat.le_of_ble_eq_true rfl, Nat.le_of_ble_eq_true rfl⟩) hC hP [0, 1] rfl 0 6 rfl rfl rfl rfl hl.1 rfl (Nat.le_of_ble_eq_true rfl) dX6_rests_19 ⟨Nat.zero_le _, Nat.zero_le _⟩ ?_
    refine lv_istore_n (lv' := [(2, .int r13), (0, .ref a_t), (1, .int p1)]) hx hb dX6_rests_22 rfl hl (by decide) rfl (fun ls hl => ?_)
    refine lv_iconst (v := 0) hx hb dX6_rests_23 (by decide) ?_
    refine lv_istore_n (lv' := [(3, .int 0), (2, .int r13), (0, .ref a_t), (1, .int p1)]) hx hb dX6_rests_24 rfl hl (by decide) rfl (fun ls hl => ?_)
    refine lv_bipush (v := (-9)) hx hb dX6_rests_25 (by decide) ?_
    refine lv_istore (lv' := [(4, .int (-9)), (3, .int 0), (2, .int r13), (0, .ref a_t), (1, .int p1)]) hx hb dX6_rests_27 hl (by decide) rfl (fun ls hl => ?_)
    refine lv_iconst (v := 0) hx hb dX6_rests_29 (by decide) ?_
    refine lv_istore (lv' := [(5, .int 0), (4, .int (-9)), (3, .int 0), (2, .int r13), (0, .ref a_t), (1, .int p1)]) hx hb dX6_rests_30 hl (by decide) rfl (fun ls hl => ?_)
    exact w_X6_rests_32 a_t a_t_metal a_t_kind a_t_now a_t_readOf a_t_readKind a_t_text a_t_row a_t_nots a_t_isKept a_t_kept x_t_isTrue x_t_caskets x_t_wooers x_t_readTrue x_t_readCaskets x_t_readWooers x_t_readPicture x_t_length x_t_at x_t_faultAt x_t_acts x_t_next x_t_riddleMany x_t_seed r_t_now p1 r13  o_r X hw  200 0 (-9) 0 h ls (lv_sub hl [4, 5, 3, 2, 1, 0] rfl)
  · have h := ifp c10 h
    refine lv_bipush (v := (-2)) hx hb dX6_rests_10 (by decide) ?_
    exact W.iret hx hb hr (fun t ht _ => ⟨by cases h; rfl, ht⟩) (fun _ hq => absurd hq List.not_mem_nil) dX6_rests_12
set_option maxHeartbeats 4000000 in
set_option maxRecDepth 100000 in
theorem k_X6_rests {l : Launch} {E : Ev} (a_t a_t_metal a_t_kind a_t_now a_t_readOf a_t_readKind a_t_text a_t_row a_t_nots a_t_isKept a_t_kept : Nat) (x_t_isTrue : Int32) (x_t_caskets : Int32) (x_t_wooers : Int32) (x_t_readTrue : Int32) (x_t_readCaskets : Int32) (x_t_readWooers : Int32) (x_t_readPicture : Int32) (x_t_length : Int32) (x_t_at : Int32) (x_t_faultAt : Int32) (x_t_acts : Int32) (x_t_next : Int32) (x_t_riddleMany : Int32) (x_t_seed : Int64) (r_t_now : Nat → Int32) (p1 : Int32) (o_r : Int32) (hf : f_X6_rests x_t_isTrue x_t_caskets r_t_now p1 = some o_r) : Met l yX6_rests wsX6_rests ({ frames := 6, cells := 0, slots := 0, locals := 146 }) (Pr E [.ref a_t, .int p1] [(a_t, .inr (6, [.int x_t_isTrue, .int x_t_caskets, .int x_t_wooers, .ref a_t_metal, .ref a_t_kind, .ref a_t_now, .ref a_t_readOf, .ref a_t_readKind, .int x_t_readTrue, .int x_t_readCaskets, .int x_t_readWooers, .int x_t_readPicture, .ref a_t_text, .int x_t_length, .int x_t_at, .int x_t_faultAt, .int x_t_acts, .int x_t_next, .ref a_t_row, .int x_t_riddleMany, .ref a_t_nots, .long x_t_seed, .ref a_t_isKept, .ref a_t_kept])), (a_t_now, .inl (E.2.1, 36, .inl r_t_now))]) (Qr (some (.int o_r))) 0 0 (fun _ => False) := by
  refine Met.ofW (cc := cX6_rests) (maxL := 7) (ret := (some .int)) (by decide) rfl ?_
  intro p e s m args below meth c s₁ B hml hv
  obtain ⟨rfl, hw⟩ := hv
  have X := Cxt.of B hml
  have hl := lv_entry ([.ref a_t, .int p1]) (n := 7) (Nat.le_of_ble_eq_true rfl)
  rw [lg_entry_eq]
  exact w_X6_rests a_t a_t_metal a_t_kind a_t_now a_t_readOf a_t_readKind a_t_text a_t_row a_t_nots a_t_isKept a_t_kept x_t_isTrue x_t_caskets x_t_wooers x_t_readTrue x_t_readCaskets x_t_readWooers x_t_readPicture x_t_length x_t_at x_t_faultAt x_t_acts x_t_next x_t_riddleMany x_t_seed r_t_now p1 o_r X hw hf hl
set_option maxHeartbeats 4000000 in
set_option maxRecDepth 100000 in
theorem w_X6_lost_116 {p : Program} {l : Launch} {e : Env} {s : State} {m : MethodId} {args : Array Value} {below : List Frame} {meth : Method} {c : Code} {E : Ev} (a_t a_t_metal a_t_kind a_t_now a_t_readOf a_t_readKind a_t_text a_t_row a_t_nots a_t_isKept a_t_kept : Nat) (x_t_isTrue : Int32) (x_t_caskets : Int32) (x_t_wooers : Int32) (x_t_readTrue : Int32) (x_t_readCaskets : Int32) (x_t_readWooers : Int32) (x_t_readPicture : Int32) (x_t_length : Int32) (x_t_at : Int32) (x_t_faultAt : Int32) (x_t_acts : Int32) (x_t_next : Int32) (x_t_riddleMany : Int32) (x_t_seed : Int64) (r_t_now : Nat → Int32) (v3 : Int32) (v4 : Int32) (v5 : Int32) (o_r : Int32) (X : Cxt p s m args meth c cX6_lost 8 wsX6_lost RX6 (some .int)) (hw : wd E [(a_t, .inr (6, [.int x_t_isTrue, .int x_t_caskets, .int x_t_wooers, .ref a_t_metal, .ref a_t_kind, .ref a_t_now, .ref a_t_readOf, .ref a_t_readKind, .int x_t_readTrue, .int x_t_readCaskets, .int x_t_readWooers, .int x_t_readPicture, .ref a_t_text, .int x_t_length, .int x_t_at, .int x_t_faultAt, .int x_t_acts, .int x_t_next, .ref a_t_row, .int x_t_riddleMany, .ref a_t_nots, .long x_t_seed, .ref a_t_isKept, .ref a_t_kept])), (a_t_now, .inl (E.2.1, 36, .inl r_t_now))] s s.heap) (h : f_X6_lost_116 v3 v4 v5 = some o_r) (ls : Array Slot) (hl : lv_has ls 8 [(3, .int v3), (4, .int v4), (5, .int v5)]) : W p l e { frames := 6, cells := 0, slots := 0, locals := 146 } s m args below meth c s.heap [] 0 0 (MQ below (Qr (some (.int o_r))) args s 0 0 (fun _ => False)) (F0 m 116 ls []) := by
  obtain ⟨⟨hx, hb, hml, hown, hts⟩, hr, hlocks⟩ := id X
  obtain ⟨hC, hP⟩ := id hw
  have hiX6 : ∀ w ∈ u_ws RX6 TX6 24, w ∈ wsX6_lost := by decide +kernel
  have hK := hC.1
  unfold f_X6_lost_116 at h
  refine lv_iload hx hb dX6_lost_116 (lv_at hl 1 rfl) ?_
  refine lv_iload hx hb dX6_lost_118 (lv_at hl 2 rfl) ?_
  obtain ⟨r17, g18, h⟩ := bnd h
  refine rcS (As := [.int v4, .int v5]) (rest := []) ⟨hx, hb, hml, hown, hts⟩ (k_X6_common (l := l) (E := E) v4 v5 r17 g18) (va_cwS 2 hts gX6_lost_X6_common rfl rfl rfl (by decide +kernel) ⟨Nat.le_of_ble_eq_true rfl, Nat.le_of_ble_eq_true rfl⟩) hC hP [] rfl rfl hl.1 rfl (Nat.le_of_ble_eq_true rfl) dX6_lost_120 ⟨Nat.zero_le _, Nat.zero_le _⟩ ?_
  refine lv_istore (lv' := [(6, .int r17), (3, .int v3), (4, .int v4), (5, .int v5)]) hx hb dX6_lost_123 hl (by decide) rfl (fun ls hl => ?_)
  refine lv_iload_n hx hb dX6_lost_125 rfl (lv_at hl 1 rfl) ?_
  refine lv_if_eq (tgt := 137) hx hb dX6_lost_126 (by decide) (fun c19 => ?_) (fun c19 => ?_)
  · have h := ifp c19 h
    refine lv_iload hx hb dX6_lost_137 (lv_at hl 3 rfl) ?_
    refine lv_iload hx hb dX6_lost_139 (lv_at hl 0 rfl) ?_
    obtain ⟨b20, h⟩ := gdn h
    refine lv_idiv hx hb dX6_lost_141 b20 ?_
    exact W.iret hx hb hr (fun t ht _ => ⟨by cases h; rfl, ht⟩) (fun _ hq => absurd hq List.not_mem_nil) dX6_lost_142
  · have h := ifn c19 h
    refine lv_iload hx hb dX6_lost_129 (lv_at hl 2 rfl) ?_
    refine lv_iload hx hb dX6_lost_131 (lv_at hl 0 rfl) ?_
    obtain ⟨b21, h⟩ := gdn h
    refine lv_idiv hx hb dX6_lost_133 b21 ?_
    refine lv_goto (tgt := 142) hx hb dX6_lost_134 (by decide) ?_
    exact W.iret hx hb hr (fun t ht _ => ⟨by cases h; rfl, ht⟩) (fun _ hq => absurd hq List.not_mem_nil) dX6_lost_142
set_option maxHeartbeats 4000000 in
set_option maxRecDepth 100000 in
theorem w_X6_lost_34_b {p : Program} {l : Launch} {e : Env} {s : State} {m : MethodId} {args : Array Value} {below : List Frame} {meth : Method} {c : Code} {E : Ev} (a_t a_t_metal a_t_kind a_t_now a_t_readOf a_t_readKind a_t_text a_t_row a_t_nots a_t_isKept a_t_kept : Nat) (x_t_isTrue : Int32) (x_t_caskets : Int32) (x_t_wooers : Int32) (x_t_readTrue : Int32) (x_t_readCaskets : Int32) (x_t_readWooers : Int32) (x_t_readPicture : Int32) (x_t_length : Int32) (x_t_at : Int32) (x_t_faultAt : Int32) (x_t_acts : Int32) (x_t_next : Int32) (x_t_riddleMany : Int32) (x_t_seed : Int64) (r_t_now : Nat → Int32) (v1 : Int32) (v2 : Int32) (v3 : Int32) (o_r : Int32) (X : Cxt p s m args meth c cX6_lost 8 wsX6_lost RX6 (some .int)) (hw : wd E [(a_t, .inr (6, [.int x_t_isTrue, .int x_t_caskets, .int x_t_wooers, .ref a_t_metal, .ref a_t_kind, .ref a_t_now, .ref a_t_readOf, .ref a_t_readKind, .int x_t_readTrue, .int x_t_readCaskets, .int x_t_readWooers, .int x_t_readPicture, .ref a_t_text, .int x_t_length, .int x_t_at, .int x_t_faultAt, .int x_t_acts, .int x_t_next, .ref a_t_row, .int x_t_riddleMany, .ref a_t_nots, .long x_t_seed, .ref a_t_isKept, .ref a_t_kept])), (a_t_now, .inl (E.2.1, 36, .inl r_t_now))] s s.heap) (k34 : Int32 × Int32 × Int32 → Option (Int32)) (hk34 : ∀ (v4 : Int32) (v5 : Int32) (v6 : Int32), k34 (v4, v5, v6) = some o_r → ∀ (ls : Array Slot), lv_has ls 8 [(0, .ref a_t), (1, .int v1), (2, .int v2), (3, .int v3), (4, .int v4), (5, .int v5), (6, .int v6)] → W p l e { frames := 6, cells := 0, slots := 0, locals := 146 } s m args below meth c s.heap [] 0 0 (MQ below (Qr (some (.int o_r))) args s 0 0 (fun _ => False)) (F0 m 34 ls [])) (v4 : Int32) (v5 : Int32) (v6 : Int32) (h : f_X6_lost_34_b x_t_isTrue x_t_caskets r_t_now v1 v2 v3 k34 v4 v5 v6 = some o_r) {ls : Array Slot} (hl : lv_has ls 8 [(0, .ref a_t), (1, .int v1), (2, .int v2), (3, .int v3), (4, .int v4), (5, .int v5), (6, .int v6)]) : W p l e { frames := 6, cells := 0, slots := 0, locals := 146 } s m args below meth c s.heap [] 0 0 (MQ below (Qr (some (.int o_r))) args s 0 0 (fun _ => False)) (F0 m 34 ls []) := by
  obtain ⟨⟨hx, hb, hml, hown, hts⟩, hr, hlocks⟩ := id X
  obtain ⟨hC, hP⟩ := id hw
  have hiX6 : ∀ w ∈ u_ws RX6 TX6 24, w ∈ wsX6_lost := by decide +kernel
  have hK := hC.1
  unfold f_X6_lost_34_b at h
  refine lv_iload hx hb dX6_lost_34 (lv_at hl 6 rfl) ?_
  refine lv_aload_n hx hb dX6_lost_36 rfl (lv_at hl 0 rfl) ?_
  obtain ⟨r1, g2, h⟩ := bnd h
  refine rcV (As := []) (rest := [.int v6]) ⟨hx, hb, hml, hown, hts⟩ (k_X6_all (l := l) (E := E) a_t a_t_metal a_t_kind a_t_now a_t_readOf a_t_readKind a_t_text a_t_row a_t_nots a_t_isKept a_t_kept x_t_isTrue x_t_caskets x_t_wooers x_t_readTrue x_t_readCaskets x_t_readWooers x_t_readPicture x_t_length x_t_at x_t_faultAt x_t_acts x_t_next x_t_riddleMany x_t_seed r1 g2) (cwV 0 hts gX6_lost_X6_all rfl rfl rfl (by decide +kernel) ⟨Nat.le_of_ble_eq_true rfl, Nat.le_of_ble_eq_true rfl⟩) hC hP [0] rfl 0 6 rfl rfl rfl rfl hl.1 rfl (Nat.le_of_ble_eq_true rfl) dX6_lost_37 ⟨Nat.zero_le _, Nat.zero_le _⟩ ?_
  refine lv_icmp_gt (tgt := 116) hx hb dX6_lost_40 (by decide) (fun c3 => ?_) (fun c3 => ?_)
  · have h := ifp c3 h
    exact w_X6_lost_116 a_t a_t_metal a_t_kind a_t_now a_t_readOf a_t_readKind a_t_text a_t_row a_t_nots a_t_isKept a_t_kept x_t_isTrue x_t_caskets x_t_wooers x_t_readTrue x_t_readCaskets x_t_readWooers x_t_readPicture x_t_length x_t_at x_t_faultAt x_t_acts x_t_next x_t_riddleMany x_t_seed r_t_now v3 v4 v5  o_r X hw  h ls (lv_sub hl [3, 4, 5] rfl)
  · have h := ifn c3 h
    refine lv_iload_n hx hb dX6_lost_43 rfl (lv_at hl 2 rfl) ?_
    refine lv_iload hx hb dX6_lost_44 (lv_at hl 6 rfl) ?_
    obtain ⟨r4, g5, h⟩ := bnd h
    refine rcS (As := [.int v6]) (rest := [.int v2]) ⟨hx, hb, hml, hown, hts⟩ (k_X6_ones (l := l) (E := E) v6 r4 g5) (va_cwS 1 hts gX6_lost_X6_ones rfl rfl rfl (by decide +kernel) ⟨Nat.le_of_ble_eq_true rfl, Nat.le_of_ble_eq_true rfl⟩) hC hP [] rfl rfl hl.1 rfl (Nat.le_of_ble_eq_true rfl) dX6_lost_46 ⟨Nat.zero_le _, Nat.zero_le _⟩ ?_
    obtain ⟨r6, g7, h⟩ := bnd h
    refine rcS (As := [.int v2, .int r4]) (rest := []) ⟨hx, hb, hml, hown, hts⟩ (k_X6_power (l := l) (E := E) v2 r4 r6 g7) (va_cwS 2 hts gX6_lost_X6_power rfl rfl rfl (by decide +kernel) ⟨Nat.le_of_ble_eq_true rfl, Nat.le_of_ble_eq_true rfl⟩) hC hP [] rfl rfl hl.1 rfl (Nat.le_of_ble_eq_true rfl) dX6_lost_49 ⟨Nat.zero_le _, Nat.zero_le _⟩ ?_
    refine lv_bipush (v := 10) hx hb dX6_lost_52 (by decide) ?_
    refine lv_iload_n hx hb dX6_lost_54 rfl (lv_at hl 2 rfl) ?_
    refine lv_isub hx hb dX6_lost_55 ?_
    refine lv_aload_n hx hb dX6_lost_56 rfl (lv_at hl 0 rfl) ?_
    refine va_get (D := E.1) (ci := 6) (v := .int x_t_caskets) (C := RX6) (T := TX6) (N := 24) hx hb hts hiX6 hown hK hP 0 rfl rfl 1 (by decide) (hts (.fieldLink RX6 90 "CasketLinesModel" "caskets" "I") (by decide +kernel)) (fun _ h9 => h9) rfl dX6_lost_57 ?_
    refine lv_iload hx hb dX6_lost_60 (lv_at hl 6 rfl) ?_
    obtain ⟨r8, g9, h⟩ := bnd h
    refine rcS (As := [.int v6]) (rest := [.int x_t_caskets, .int (10 - v2), .int r6]) ⟨hx, hb, hml, hown, hts⟩ (k_X6_ones (l := l) (E := E) v6 r8 g9) (va_cwS 1 hts gX6_lost_X6_ones rfl rfl rfl (by decide +kernel) ⟨Nat.le_of_ble_eq_true rfl, Nat.le_of_ble_eq_true rfl⟩) hC hP [] rfl rfl hl.1 rfl (Nat.le_of_ble_eq_true rfl) dX6_lost_62 ⟨Nat.zero_le _, Nat.zero_le _⟩ ?_
    refine lv_isub hx hb dX6_lost_65 ?_
    obtain ⟨r10, g11, h⟩ := bnd h
    refine rcS (As := [.int (10 - v2), .int (x_t_caskets - r8)]) (rest := [.int r6]) ⟨hx, hb, hml, hown, hts⟩ (k_X6_power (l := l) (E := E) (10 - v2) (x_t_caskets - r8) r10 g11) (va_cwS 2 hts gX6_lost_X6_power rfl rfl rfl (by decide +kernel) ⟨Nat.le_of_ble_eq_true rfl, Nat.le_of_ble_eq_true rfl⟩) hC hP [] rfl rfl hl.1 rfl (Nat.le_of_ble_eq_true rfl) dX6_lost_66 ⟨Nat.zero_le _, Nat.zero_le _⟩ ?_
    refine lv_imul hx hb dX6_lost_69 ?_
    refine lv_istore (lv' := [(7, .int (r6 * r10)), (0, .ref a_t), (1, .int v1), (2, .int v2), (3, .int v3), (4, .int v4), (5, .int v5), (6, .int v6)]) hx hb dX6_lost_70 hl (by decide) rfl (fun ls hl => ?_)
    refine lv_iload hx hb dX6_lost_72 (lv_at hl 6 rfl) ?_
    refine lv_iload hx hb dX6_lost_74 (lv_at hl 0 rfl) ?_
    refine lv_iadd hx hb dX6_lost_76 ?_
    refine lv_istore (lv' := [(5, .int (v5 + (r6 * r10))), (7, .int (r6 * r10)), (0, .ref a_t), (1, .int v1), (2, .int v2), (3, .int v3), (4, .int v4), (6, .int v6)]) hx hb dX6_lost_77 hl (by decide) rfl (fun ls hl => ?_)
    refine lv_iload hx hb dX6_lost_79 (lv_at hl 6 rfl) ?_
    refine lv_aload_n hx hb dX6_lost_81 rfl (lv_at hl 2 rfl) ?_
    refine lv_iconst (v := 0) hx hb dX6_lost_82 (by decide) ?_
    refine lv_aload_n hx hb dX6_lost_83 rfl (lv_at hl 2 rfl) ?_
    obtain ⟨r12, g13, h⟩ := bnd h
    refine rcV (As := []) (rest := [.int 0, .ref a_t, .int v4]) ⟨hx, hb, hml, hown, hts⟩ (k_X6_all (l := l) (E := E) a_t a_t_metal a_t_kind a_t_now a_t_readOf a_t_readKind a_t_text a_t_row a_t_nots a_t_isKept a_t_kept x_t_isTrue x_t_caskets x_t_wooers x_t_readTrue x_t_readCaskets x_t_readWooers x_t_readPicture x_t_length x_t_at x_t_faultAt x_t_acts x_t_next x_t_riddleMany x_t_seed r12 g13) (cwV 0 hts gX6_lost_X6_all rfl rfl rfl (by decide +kernel) ⟨Nat.le_of_ble_eq_true rfl, Nat.le_of_ble_eq_true rfl⟩) hC hP [0] rfl 0 6 rfl rfl rfl rfl hl.1 rfl (Nat.le_of_ble_eq_true rfl) dX6_lost_84 ⟨Nat.zero_le _, Nat.zero_le _⟩ ?_
    refine lv_iload hx hb dX6_lost_87 (lv_at hl 7 rfl) ?_
    refine lv_iconst (v := (-1)) hx hb dX6_lost_89 (by decide) ?_
    refine lv_ixor hx hb dX6_lost_90 ?_
    refine lv_iand hx hb dX6_lost_91 ?_
    obtain ⟨r14, g15, h⟩ := bnd h
    refine rcV (As := [.int 0, .int (r12 &&& (v6 ^^^ (-1)))]) (rest := [.int v4]) ⟨hx, hb, hml, hown, hts⟩ (k_X6_fitsOn (l := l) (E := E) a_t a_t_metal a_t_kind a_t_now a_t_readOf a_t_readKind a_t_text a_t_row a_t_nots a_t_isKept a_t_kept x_t_isTrue x_t_caskets x_t_wooers x_t_readTrue x_t_readCaskets x_t_readWooers x_t_readPicture x_t_length x_t_at x_t_faultAt x_t_acts x_t_next x_t_riddleMany x_t_seed r_t_now 0 (r12 &&& (v6 ^^^ (-1))) r14 g15) (cwV 2 hts gX6_lost_X6_fitsOn rfl rfl rfl (by decide +kernel) ⟨Nat.le_of_ble_eq_true rfl, Nat.le_of_ble_eq_true rfl⟩) hC hP [0, 1] rfl 0 6 rfl rfl rfl rfl hl.1 rfl (Nat.le_of_ble_eq_true rfl) dX6_lost_92 ⟨Nat.zero_le _, Nat.zero_le _⟩ ?_
    refine lv_iconst (v := 1) hx hb dX6_lost_95 (by decide) ?_
    refine lv_iload_n hx hb dX6_lost_96 rfl (lv_at hl 3 rfl) ?_
    refine lv_ishl hx hb dX6_lost_97 ?_
    refine lv_icmp_ne (tgt := 106) hx hb dX6_lost_98 (by decide) (fun c16 => ?_) (fun c16 => ?_)
    · have h := ifn c16 h
      refine lv_iconst (v := 0) hx hb dX6_lost_106 (by decide) ?_
      refine lv_iadd hx hb dX6_lost_107 ?_
      refine lv_istore (lv' := [(4, .int (v4 + 0)), (5, .int (v5 + (r6 * r10))), (7, .int (r6 * r10)), (0, .ref a_t), (1, .int v1), (2, .int v2), (3, .int v3), (6, .int v6)]) hx hb dX6_lost_108 hl (by decide) rfl (fun ls hl => ?_)
      refine lv_iinc (v := (v6 + 1)) (lv' := [(6, .int (v6 + 1)), (4, .int (v4 + 0)), (5, .int (v5 + (r6 * r10))), (7, .int (r6 * r10)), (0, .ref a_t), (1, .int v1), (2, .int v2), (3, .int v3)]) hx hb dX6_lost_110 hl (k := 7) rfl rfl (by decide) rfl (fun ls hl => ?_)
      refine lv_goto (tgt := 34) hx hb dX6_lost_113 (by decide) ?_
      exact hk34 (v4 + 0) (v5 + (r6 * r10)) (v6 + 1) h ls (lv_sub hl [4, 5, 6, 7, 1, 2, 0] rfl)
    · have h := ifp c16 h
      refine lv_iload hx hb dX6_lost_101 (lv_at hl 1 rfl) ?_
      refine lv_goto (tgt := 107) hx hb dX6_lost_103 (by decide) ?_
      refine lv_iadd hx hb dX6_lost_107 ?_
      refine lv_istore (lv' := [(4, .int (v4 + (r6 * r10))), (5, .int (v5 + (r6 * r10))), (7, .int (r6 * r10)), (0, .ref a_t), (1, .int v1), (2, .int v2), (3, .int v3), (6, .int v6)]) hx hb dX6_lost_108 hl (by decide) rfl (fun ls hl => ?_)
      refine lv_iinc (v := (v6 + 1)) (lv' := [(6, .int (v6 + 1)), (4, .int (v4 + (r6 * r10))), (5, .int (v5 + (r6 * r10))), (7, .int (r6 * r10)), (0, .ref a_t), (1, .int v1), (2, .int v2), (3, .int v3)]) hx hb dX6_lost_110 hl (k := 7) rfl rfl (by decide) rfl (fun ls hl => ?_)
      refine lv_goto (tgt := 34) hx hb dX6_lost_113 (by decide) ?_
      exact hk34 (v4 + (r6 * r10)) (v5 + (r6 * r10)) (v6 + 1) h ls (lv_sub hl [4, 5, 6, 7, 1, 2, 0] rfl)
set_option maxHeartbeats 4000000 in
set_option maxRecDepth 100000 in
theorem w_X6_lost_34 {p : Program} {l : Launch} {e : Env} {s : State} {m : MethodId} {args : Array Value} {below : List Frame} {meth : Method} {c : Code} {E : Ev} (a_t a_t_metal a_t_kind a_t_now a_t_readOf a_t_readKind a_t_text a_t_row a_t_nots a_t_isKept a_t_kept : Nat) (x_t_isTrue : Int32) (x_t_caskets : Int32) (x_t_wooers : Int32) (x_t_readTrue : Int32) (x_t_readCaskets : Int32) (x_t_readWooers : Int32) (x_t_readPicture : Int32) (x_t_length : Int32) (x_t_at : Int32) (x_t_faultAt : Int32) (x_t_acts : Int32) (x_t_next : Int32) (x_t_riddleMany : Int32) (x_t_seed : Int64) (r_t_now : Nat → Int32) (v1 : Int32) (v2 : Int32) (v3 : Int32) (o_r : Int32) (X : Cxt p s m args meth c cX6_lost 8 wsX6_lost RX6 (some .int)) (hw : wd E [(a_t, .inr (6, [.int x_t_isTrue, .int x_t_caskets, .int x_t_wooers, .ref a_t_metal, .ref a_t_kind, .ref a_t_now, .ref a_t_readOf, .ref a_t_readKind, .int x_t_readTrue, .int x_t_readCaskets, .int x_t_readWooers, .int x_t_readPicture, .ref a_t_text, .int x_t_length, .int x_t_at, .int x_t_faultAt, .int x_t_acts, .int x_t_next, .ref a_t_row, .int x_t_riddleMany, .ref a_t_nots, .long x_t_seed, .ref a_t_isKept, .ref a_t_kept])), (a_t_now, .inl (E.2.1, 36, .inl r_t_now))] s s.heap) : ∀ (n : Nat) (v4 : Int32) (v5 : Int32) (v6 : Int32), f_X6_lost_34 x_t_isTrue x_t_caskets r_t_now v1 v2 v3 n v4 v5 v6 = some o_r → ∀ (ls : Array Slot), lv_has ls 8 [(0, .ref a_t), (1, .int v1), (2, .int v2), (3, .int v3), (4, .int v4), (5, .int v5), (6, .int v6)] → W p l e { frames := 6, cells := 0, slots := 0, locals := 146 } s m args below meth c s.heap [] 0 0 (MQ below (Qr (some (.int o_r))) args s 0 0 (fun _ => False)) (F0 m 34 ls []) := by
  intro n
  induction n with
  | zero =>
    intro v4 v5 v6 h
    exact (rk_z _ _ h).elim
  | succ n ih =>
    intro v4 v5 v6 h ls hl
    exact w_X6_lost_34_b a_t a_t_metal a_t_kind a_t_now a_t_readOf a_t_readKind a_t_text a_t_row a_t_nots a_t_isKept a_t_kept x_t_isTrue x_t_caskets x_t_wooers x_t_readTrue x_t_readCaskets x_t_readWooers x_t_readPicture x_t_length x_t_at x_t_faultAt x_t_acts x_t_next x_t_riddleMany x_t_seed r_t_now v1 v2 v3  o_r X hw  (rk (fun k x => f_X6_lost_34_b x_t_isTrue x_t_caskets r_t_now v1 v2 v3  k (x.1) (x.2.1) (x.2.2)) n) (fun v4 v5 v6 hh => ih v4 v5 v6 hh) v4 v5 v6 h hl
set_option maxHeartbeats 4000000 in
set_option maxRecDepth 100000 in
theorem w_X6_lost {p : Program} {l : Launch} {e : Env} {s : State} {m : MethodId} {args : Array Value} {below : List Frame} {meth : Method} {c : Code} {E : Ev} (a_t a_t_metal a_t_kind a_t_now a_t_readOf a_t_readKind a_t_text a_t_row a_t_nots a_t_isKept a_t_kept : Nat) (x_t_isTrue : Int32) (x_t_caskets : Int32) (x_t_wooers : Int32) (x_t_readTrue : Int32) (x_t_readCaskets : Int32) (x_t_readWooers : Int32) (x_t_readPicture : Int32) (x_t_length : Int32) (x_t_at : Int32) (x_t_faultAt : Int32) (x_t_acts : Int32) (x_t_next : Int32) (x_t_riddleMany : Int32) (x_t_seed : Int64) (r_t_now : Nat → Int32) (p1 : Int32) (p2 : Int32) (p3 : Int32) (o_r : Int32) (X : Cxt p s m args meth c cX6_lost 8 wsX6_lost RX6 (some .int)) (hw : wd E [(a_t, .inr (6, [.int x_t_isTrue, .int x_t_caskets, .int x_t_wooers, .ref a_t_metal, .ref a_t_kind, .ref a_t_now, .ref a_t_readOf, .ref a_t_readKind, .int x_t_readTrue, .int x_t_readCaskets, .int x_t_readWooers, .int x_t_readPicture, .ref a_t_text, .int x_t_length, .int x_t_at, .int x_t_faultAt, .int x_t_acts, .int x_t_next, .ref a_t_row, .int x_t_riddleMany, .ref a_t_nots, .long x_t_seed, .ref a_t_isKept, .ref a_t_kept])), (a_t_now, .inl (E.2.1, 36, .inl r_t_now))] s s.heap) (h : f_X6_lost x_t_isTrue x_t_caskets r_t_now p1 p2 p3 = some o_r) {ls : Array Slot} (hl : lv_has ls 8 [(0, .ref a_t), (1, .int p1), (2, .int p2), (3, .int p3)]) : W p l e { frames := 6, cells := 0, slots := 0, locals := 146 } s m args below meth c s.heap [] 0 0 (MQ below (Qr (some (.int o_r))) args s 0 0 (fun _ => False)) (F0 m 0 ls []) := by
  obtain ⟨⟨hx, hb, hml, hown, hts⟩, hr, hlocks⟩ := id X
  obtain ⟨hC, hP⟩ := id hw
  have hiX6 : ∀ w ∈ u_ws RX6 TX6 24, w ∈ wsX6_lost := by decide +kernel
  have hK := hC.1
  unfold f_X6_lost at h
  refine lv_aload_n hx hb dX6_lost_0 rfl (lv_at hl 0 rfl) ?_
  refine lv_iload_n hx hb dX6_lost_1 rfl (lv_at hl 1 rfl) ?_
  obtain ⟨r22, g23, h⟩ := bnd h
  refine rcV (As := [.int p1]) (rest := []) ⟨hx, hb, hml, hown, hts⟩ (k_X6_isCasket (l := l) (E := E) a_t a_t_metal a_t_kind a_t_now a_t_readOf a_t_readKind a_t_text a_t_row a_t_nots a_t_isKept a_t_kept x_t_isTrue x_t_caskets x_t_wooers x_t_readTrue x_t_readCaskets x_t_readWooers x_t_readPicture x_t_length x_t_at x_t_faultAt x_t_acts x_t_next x_t_riddleMany x_t_seed p1 r22 g23) (cwV 1 hts gX6_lost_X6_isCasket rfl rfl rfl (by decide +kernel) ⟨Nat.le_of_ble_eq_true rfl, Nat.le_of_ble_eq_true rfl⟩) hC hP [0] rfl 0 6 rfl rfl rfl rfl hl.1 rfl (Nat.le_of_ble_eq_true rfl) dX6_lost_2 ⟨Nat.zero_le _, Nat.zero_le _⟩ ?_
  refine lv_if_ne (tgt := 10) hx hb dX6_lost_5 (by decide) (fun c24 => ?_) (fun c24 => ?_)
  · have h := ifn c24 h
    refine lv_iload_n hx hb dX6_lost_10 rfl (lv_at hl 2 rfl) ?_
    refine lv_i2l hx hb dX6_lost_11 rfl ?_
    refine lv_lconst (v := 0) hx hb dX6_lost_12 (by decide) ?_
    refine lv_ldc2 (own := RX6) (v := 10) hx hb hown (hts (.constantLong RX6 197 10) (by decide +kernel)) dX6_lost_13 ?_
    obtain ⟨r25, g26, h⟩ := bnd h
    refine rcS (As := [.long (Int32.toInt64 p2), .long 0, .long 10]) (rest := []) ⟨hx, hb, hml, hown, hts⟩ (k_X6_in (l := l) (E := E) (Int32.toInt64 p2) 0 10 r25 g26) (va_cwS 3 hts gX6_lost_X6_in rfl rfl rfl (by decide +kernel) ⟨Nat.le_of_ble_eq_true rfl, Nat.le_of_ble_eq_true rfl⟩) hC hP [] rfl rfl hl.1 rfl (Nat.le_of_ble_eq_true rfl) dX6_lost_16 ⟨Nat.zero_le _, Nat.zero_le _⟩ ?_
    refine lv_if_ne (tgt := 25) hx hb dX6_lost_19 (by decide) (fun c27 => ?_) (fun c27 => ?_)
    · have h := ifn c27 h
      refine lv_iconst (v := 0) hx hb dX6_lost_25 (by decide) ?_
      refine lv_istore (lv' := [(4, .int 0), (0, .ref a_t), (1, .int p1), (2, .int p2), (3, .int p3)]) hx hb dX6_lost_26 hl (by decide) rfl (fun ls hl => ?_)
      refine lv_iconst (v := 0) hx hb dX6_lost_28 (by decide) ?_
      refine lv_istore (lv' := [(5, .int 0), (4, .int 0), (0, .ref a_t), (1, .int p1), (2, .int p2), (3, .int p3)]) hx hb dX6_lost_29 hl (by decide) rfl (fun ls hl => ?_)
      refine lv_iconst (v := 0) hx hb dX6_lost_31 (by decide) ?_
      refine lv_istore (lv' := [(6, .int 0), (5, .int 0), (4, .int 0), (0, .ref a_t), (1, .int p1), (2, .int p2), (3, .int p3)]) hx hb dX6_lost_32 hl (by decide) rfl (fun ls hl => ?_)
      exact w_X6_lost_34 a_t a_t_metal a_t_kind a_t_now a_t_readOf a_t_readKind a_t_text a_t_row a_t_nots a_t_isKept a_t_kept x_t_isTrue x_t_caskets x_t_wooers x_t_readTrue x_t_readCaskets x_t_readWooers x_t_readPicture x_t_length x_t_at x_t_faultAt x_t_acts x_t_next x_t_riddleMany x_t_seed r_t_now p1 p2 p3  o_r X hw  200 0 0 0 h ls (lv_sub hl [3, 4, 5, 6, 2, 1, 0] rfl)
    · have h := ifp c27 h
      refine lv_bipush (v := (-2)) hx hb dX6_lost_22 (by decide) ?_
      exact W.iret hx hb hr (fun t ht _ => ⟨by cases h; rfl, ht⟩) (fun _ hq => absurd hq List.not_mem_nil) dX6_lost_24
  · have h := ifp c24 h
    refine lv_iconst (v := (-1)) hx hb dX6_lost_8 (by decide) ?_
    exact W.iret hx hb hr (fun t ht _ => ⟨by cases h; rfl, ht⟩) (fun _ hq => absurd hq List.not_mem_nil) dX6_lost_9
set_option maxHeartbeats 4000000 in
set_option maxRecDepth 100000 in
theorem k_X6_lost {l : Launch} {E : Ev} (a_t a_t_metal a_t_kind a_t_now a_t_readOf a_t_readKind a_t_text a_t_row a_t_nots a_t_isKept a_t_kept : Nat) (x_t_isTrue : Int32) (x_t_caskets : Int32) (x_t_wooers : Int32) (x_t_readTrue : Int32) (x_t_readCaskets : Int32) (x_t_readWooers : Int32) (x_t_readPicture : Int32) (x_t_length : Int32) (x_t_at : Int32) (x_t_faultAt : Int32) (x_t_acts : Int32) (x_t_next : Int32) (x_t_riddleMany : Int32) (x_t_seed : Int64) (r_t_now : Nat → Int32) (p1 : Int32) (p2 : Int32) (p3 : Int32) (o_r : Int32) (hf : f_X6_lost x_t_isTrue x_t_caskets r_t_now p1 p2 p3 = some o_r) : Met l yX6_lost wsX6_lost ({ frames := 6, cells := 0, slots := 0, locals := 146 }) (Pr E [.ref a_t, .int p1, .int p2, .int p3] [(a_t, .inr (6, [.int x_t_isTrue, .int x_t_caskets, .int x_t_wooers, .ref a_t_metal, .ref a_t_kind, .ref a_t_now, .ref a_t_readOf, .ref a_t_readKind, .int x_t_readTrue, .int x_t_readCaskets, .int x_t_readWooers, .int x_t_readPicture, .ref a_t_text, .int x_t_length, .int x_t_at, .int x_t_faultAt, .int x_t_acts, .int x_t_next, .ref a_t_row, .int x_t_riddleMany, .ref a_t_nots, .long x_t_seed, .ref a_t_isKept, .ref a_t_kept])), (a_t_now, .inl (E.2.1, 36, .inl r_t_now))]) (Qr (some (.int o_r))) 0 0 (fun _ => False) := by
  refine Met.ofW (cc := cX6_lost) (maxL := 8) (ret := (some .int)) (by decide) rfl ?_
  intro p e s m args below meth c s₁ B hml hv
  obtain ⟨rfl, hw⟩ := hv
  have X := Cxt.of B hml
  have hl := lv_entry ([.ref a_t, .int p1, .int p2, .int p3]) (n := 8) (Nat.le_of_ble_eq_true rfl)
  rw [lg_entry_eq]
  exact w_X6_lost a_t a_t_metal a_t_kind a_t_now a_t_readOf a_t_readKind a_t_text a_t_row a_t_nots a_t_isKept a_t_kept x_t_isTrue x_t_caskets x_t_wooers x_t_readTrue x_t_readCaskets x_t_readWooers x_t_readPicture x_t_length x_t_at x_t_faultAt x_t_acts x_t_next x_t_riddleMany x_t_seed r_t_now p1 p2 p3 o_r X hw hf hl
set_option maxHeartbeats 4000000 in
set_option maxRecDepth 100000 in
theorem w_X6_seed {p : Program} {l : Launch} {e : Env} {s : State} {m : MethodId} {args : Array Value} {below : List Frame} {meth : Method} {c : Code} {E : Ev} {A : Nat → Prop} (a_t a_t_metal a_t_kind a_t_now a_t_readOf a_t_readKind a_t_text a_t_row a_t_nots a_t_isKept a_t_kept : Nat) (x_t_isTrue : Int32) (x_t_caskets : Int32) (x_t_wooers : Int32) (x_t_readTrue : Int32) (x_t_readCaskets : Int32) (x_t_readWooers : Int32) (x_t_readPicture : Int32) (x_t_length : Int32) (x_t_at : Int32) (x_t_faultAt : Int32) (x_t_acts : Int32) (x_t_next : Int32) (x_t_riddleMany : Int32) (x_t_seed : Int64) (p1 : Int64) (o_r : Int64) (o_x_t_seed : Int64) (X : Cxt p s m args meth c cX6_seed 5 wsX6_seed RX6 (some .long)) (hw : Cw E A s [(a_t, .inr (6, [.int x_t_isTrue, .int x_t_caskets, .int x_t_wooers, .ref a_t_metal, .ref a_t_kind, .ref a_t_now, .ref a_t_readOf, .ref a_t_readKind, .int x_t_readTrue, .int x_t_readCaskets, .int x_t_readWooers, .int x_t_readPicture, .ref a_t_text, .int x_t_length, .int x_t_at, .int x_t_faultAt, .int x_t_acts, .int x_t_next, .ref a_t_row, .int x_t_riddleMany, .ref a_t_nots, .long x_t_seed, .ref a_t_isKept, .ref a_t_kept]))]) (h : f_X6_seed x_t_seed p1 = some (o_r, o_x_t_seed)) {H : Heap} {locs : List Loc} (hP : va_P E.1 vwCl [(a_t, .inr (6, [.int x_t_isTrue, .int x_t_caskets, .int x_t_wooers, .ref a_t_metal, .ref a_t_kind, .ref a_t_now, .ref a_t_readOf, .ref a_t_readKind, .int x_t_readTrue, .int x_t_readCaskets, .int x_t_readWooers, .int x_t_readPicture, .ref a_t_text, .int x_t_length, .int x_t_at, .int x_t_faultAt, .int x_t_acts, .int x_t_next, .ref a_t_row, .int x_t_riddleMany, .ref a_t_nots, .long x_t_seed, .ref a_t_isKept, .ref a_t_kept]))] H) (hS : va_S A s.heap H locs) {ls : Array Slot} (hl : lv_has ls 5 [(0, .ref a_t), (1, .long p1)]) : W p l e { frames := 0, cells := 0, slots := 0, locals := 0 } s m args below meth c H locs 0 0 (MQ below (Qw E (some (.long o_r)) [(a_t, .inr (6, [.int x_t_isTrue, .int x_t_caskets, .int x_t_wooers, .ref a_t_metal, .ref a_t_kind, .ref a_t_now, .ref a_t_readOf, .ref a_t_readKind, .int x_t_readTrue, .int x_t_readCaskets, .int x_t_readWooers, .int x_t_readPicture, .ref a_t_text, .int x_t_length, .int x_t_at, .int x_t_faultAt, .int x_t_acts, .int x_t_next, .ref a_t_row, .int x_t_riddleMany, .ref a_t_nots, .long o_x_t_seed, .ref a_t_isKept, .ref a_t_kept]))] A) args s 0 0 A) (F0 m 0 ls []) := by
  obtain ⟨⟨hx, hb, hml, hown, hts⟩, hr, hlocks⟩ := id X
  obtain ⟨hC, hAB, hA, hB, hD⟩ := id hw
  have hiX6 : ∀ w ∈ u_ws RX6 TX6 24, w ∈ wsX6_seed := by decide +kernel
  have hK := hC.1
  unfold f_X6_seed at h
  refine lv_aload_n hx hb dX6_seed_0 rfl (lv_at hl 0 rfl) ?_
  refine va_get (D := E.1) (ci := 6) (v := .long x_t_seed) (C := RX6) (T := TX6) (N := 24) hx hb hts hiX6 hown hK hP 0 rfl rfl 21 (by decide) (hts (.fieldLink RX6 199 "CasketLinesModel" "seed" "J") (by decide +kernel)) (fun _ h9 => h9) rfl dX6_seed_1 ?_
  refine lv_lstore_n (lv' := [(3, .long x_t_seed), (0, .ref a_t), (1, .long p1)]) hx hb dX6_seed_4 rfl hl (by decide) rfl (fun ls hl => ?_)
  refine lv_aload_n hx hb dX6_seed_5 rfl (lv_at hl 1 rfl) ?_
  refine lv_lload_n hx hb dX6_seed_6 rfl (lv_at hl 2 rfl) ?_
  refine va_put (D := E.1) (ci := 6) (v := .long p1) (ty := .long) (C := RX6) (T := TX6) (N := 24) hx hb hts hiX6 tyX6 tyX6_ok nmX6 hown hK hP (hD.adr rfl) hS 0 rfl rfl 21 (by decide) (hts (.fieldLink RX6 199 "CasketLinesModel" "seed" "J") (by decide +kernel)) (fun _ h9 => h9) rfl (by decide +kernel) rfl rfl (Nat.le_of_ble_eq_true rfl) dX6_seed_7 (fun H locs hP _ hS => ?_)
  have hP : va_P E.1 vwCl [(a_t, .inr (6, [.int x_t_isTrue, .int x_t_caskets, .int x_t_wooers, .ref a_t_metal, .ref a_t_kind, .ref a_t_now, .ref a_t_readOf, .ref a_t_readKind, .int x_t_readTrue, .int x_t_readCaskets, .int x_t_readWooers, .int x_t_readPicture, .ref a_t_text, .int x_t_length, .int x_t_at, .int x_t_faultAt, .int x_t_acts, .int x_t_next, .ref a_t_row, .int x_t_riddleMany, .ref a_t_nots, .long p1, .ref a_t_isKept, .ref a_t_kept]))] H := hP
  refine lv_lload_n hx hb dX6_seed_10 rfl (lv_at hl 0 rfl) ?_
  exact W.lret hx hb hr (fun t ht _ => ⟨by cases h; rfl, by rw [ht]; cases h; exact hP, hS.F ht⟩) hS.2.2 dX6_seed_11
set_option maxHeartbeats 4000000 in
set_option maxRecDepth 100000 in
theorem k_X6_seed {l : Launch} {E : Ev} (a_t a_t_metal a_t_kind a_t_now a_t_readOf a_t_readKind a_t_text a_t_row a_t_nots a_t_isKept a_t_kept : Nat) (x_t_isTrue : Int32) (x_t_caskets : Int32) (x_t_wooers : Int32) (x_t_readTrue : Int32) (x_t_readCaskets : Int32) (x_t_readWooers : Int32) (x_t_readPicture : Int32) (x_t_length : Int32) (x_t_at : Int32) (x_t_faultAt : Int32) (x_t_acts : Int32) (x_t_next : Int32) (x_t_riddleMany : Int32) (x_t_seed : Int64) (p1 : Int64) (sz : Nat) (o_r : Int64) (o_x_t_seed : Int64) (hf : f_X6_seed x_t_seed p1 = some (o_r, o_x_t_seed)) : Met l yX6_seed wsX6_seed ({ frames := 0, cells := 0, slots := 0, locals := 0 }) (Pw E [.ref a_t, .long p1] [(a_t, .inr (6, [.int x_t_isTrue, .int x_t_caskets, .int x_t_wooers, .ref a_t_metal, .ref a_t_kind, .ref a_t_now, .ref a_t_readOf, .ref a_t_readKind, .int x_t_readTrue, .int x_t_readCaskets, .int x_t_readWooers, .int x_t_readPicture, .ref a_t_text, .int x_t_length, .int x_t_at, .int x_t_faultAt, .int x_t_acts, .int x_t_next, .ref a_t_row, .int x_t_riddleMany, .ref a_t_nots, .long x_t_seed, .ref a_t_isKept, .ref a_t_kept]))] sz) (Qw E (some (.long o_r)) [(a_t, .inr (6, [.int x_t_isTrue, .int x_t_caskets, .int x_t_wooers, .ref a_t_metal, .ref a_t_kind, .ref a_t_now, .ref a_t_readOf, .ref a_t_readKind, .int x_t_readTrue, .int x_t_readCaskets, .int x_t_readWooers, .int x_t_readPicture, .ref a_t_text, .int x_t_length, .int x_t_at, .int x_t_faultAt, .int x_t_acts, .int x_t_next, .ref a_t_row, .int x_t_riddleMany, .ref a_t_nots, .long o_x_t_seed, .ref a_t_isKept, .ref a_t_kept]))] (va_A [(a_t, .inr (6, [.int x_t_isTrue, .int x_t_caskets, .int x_t_wooers, .ref a_t_metal, .ref a_t_kind, .ref a_t_now, .ref a_t_readOf, .ref a_t_readKind, .int x_t_readTrue, .int x_t_readCaskets, .int x_t_readWooers, .int x_t_readPicture, .ref a_t_text, .int x_t_length, .int x_t_at, .int x_t_faultAt, .int x_t_acts, .int x_t_next, .ref a_t_row, .int x_t_riddleMany, .ref a_t_nots, .long x_t_seed, .ref a_t_isKept, .ref a_t_kept]))] sz)) 0 0 (va_A [(a_t, .inr (6, [.int x_t_isTrue, .int x_t_caskets, .int x_t_wooers, .ref a_t_metal, .ref a_t_kind, .ref a_t_now, .ref a_t_readOf, .ref a_t_readKind, .int x_t_readTrue, .int x_t_readCaskets, .int x_t_readWooers, .int x_t_readPicture, .ref a_t_text, .int x_t_length, .int x_t_at, .int x_t_faultAt, .int x_t_acts, .int x_t_next, .ref a_t_row, .int x_t_riddleMany, .ref a_t_nots, .long x_t_seed, .ref a_t_isKept, .ref a_t_kept]))] sz) := by
  refine Met.ofW (cc := cX6_seed) (maxL := 5) (ret := (some .long)) (by decide) rfl ?_
  intro p e s m args below meth c s₁ B hml hv
  obtain ⟨rfl, rfl, hw, hP⟩ := Pw.start hv
  have X := Cxt.of B hml
  have hl := lv_entry ([.ref a_t, .long p1]) (n := 5) (Nat.le_of_ble_eq_true rfl)
  rw [lg_entry_eq]
  exact w_X6_seed a_t a_t_metal a_t_kind a_t_now a_t_readOf a_t_readKind a_t_text a_t_row a_t_nots a_t_isKept a_t_kept x_t_isTrue x_t_caskets x_t_wooers x_t_readTrue x_t_readCaskets x_t_readWooers x_t_readPicture x_t_length x_t_at x_t_faultAt x_t_acts x_t_next x_t_riddleMany x_t_seed p1 o_r o_x_t_seed X hw hf hP va_S.rf hl
set_option maxHeartbeats 4000000 in
set_option maxRecDepth 100000 in
theorem w_X6_houses_84 {p : Program} {l : Launch} {e : Env} {s : State} {m : MethodId} {args : Array Value} {below : List Frame} {meth : Method} {c : Code} {E : Ev} {A : Nat → Prop} (a_t a_t_metal a_t_kind a_t_now a_t_readOf a_t_readKind a_t_text a_t_row a_t_nots a_t_isKept a_t_kept : Nat) (x_t_isTrue : Int32) (x_t_caskets : Int32) (x_t_wooers : Int32) (x_t_readTrue : Int32) (x_t_readCaskets : Int32) (x_t_readWooers : Int32) (x_t_readPicture : Int32) (x_t_length : Int32) (x_t_at : Int32) (x_t_faultAt : Int32) (x_t_acts : Int32) (x_t_next : Int32) (x_t_riddleMany : Int32) (x_t_seed : Int64) (r_t_now : Nat → Int32) (v1 : Int32) (v2 : Int32) (v3 : Int32) (k23 : Int64 × (Nat → Int32) × Int32 × Int32 → Option (Int32 × Int64 × (Nat → Int32))) (o_r : Int32) (o_x_t_seed : Int64) (o_r_t_now : Nat → Int32) (X : Cxt p s m args meth c cX6_houses 5 wsX6_houses RX6 (some .int)) (hw : Cw E A s [(a_t, .inr (6, [.int x_t_isTrue, .int x_t_caskets, .int x_t_wooers, .ref a_t_metal, .ref a_t_kind, .ref a_t_now, .ref a_t_readOf, .ref a_t_readKind, .int x_t_readTrue, .int x_t_readCaskets, .int x_t_readWooers, .int x_t_readPicture, .ref a_t_text, .int x_t_length, .int x_t_at, .int x_t_faultAt, .int x_t_acts, .int x_t_next, .ref a_t_row, .int x_t_riddleMany, .ref a_t_nots, .long x_t_seed, .ref a_t_isKept, .ref a_t_kept])), (a_t_now, .inl (E.2.1, 36, .inl r_t_now))]) (hk23 : ∀ (x_t_seed : Int64) (r_t_now : Nat → Int32) (v2 : Int32) (v3 : Int32), k23 (x_t_seed, r_t_now, v2, v3) = some (o_r, o_x_t_seed, o_r_t_now) → ∀ (H : Heap) (locs : List Loc), va_P E.1 vwCl [(a_t, .inr (6, [.int x_t_isTrue, .int x_t_caskets, .int x_t_wooers, .ref a_t_metal, .ref a_t_kind, .ref a_t_now, .ref a_t_readOf, .ref a_t_readKind, .int x_t_readTrue, .int x_t_readCaskets, .int x_t_readWooers, .int x_t_readPicture, .ref a_t_text, .int x_t_length, .int x_t_at, .int x_t_faultAt, .int x_t_acts, .int x_t_next, .ref a_t_row, .int x_t_riddleMany, .ref a_t_nots, .long x_t_seed, .ref a_t_isKept, .ref a_t_kept])), (a_t_now, .inl (E.2.1, 36, .inl r_t_now))] H → va_S A s.heap H locs → ∀ (ls : Array Slot), lv_has ls 5 [(0, .ref a_t), (1, .int v1), (2, .int v2), (3, .int v3)] → W p l e { frames := 6, cells := 0, slots := 0, locals := 146 } s m args below meth c H locs 0 0 (MQ below (Qw E (some (.int o_r)) [(a_t, .inr (6, [.int x_t_isTrue, .int x_t_caskets, .int x_t_wooers, .ref a_t_metal, .ref a_t_kind, .ref a_t_now, .ref a_t_readOf, .ref a_t_readKind, .int x_t_readTrue, .int x_t_readCaskets, .int x_t_readWooers, .int x_t_readPicture, .ref a_t_text, .int x_t_length, .int x_t_at, .int x_t_faultAt, .int x_t_acts, .int x_t_next, .ref a_t_row, .int x_t_riddleMany, .ref a_t_nots, .long o_x_t_seed, .ref a_t_isKept, .ref a_t_kept])), (a_t_now, .inl (E.2.1, 36, .inl o_r_t_now))] A) args s 0 0 A) (F0 m 23 ls [])) (h : f_X6_houses_84 x_t_isTrue x_t_caskets x_t_seed r_t_now v1 v2 v3 k23 = some (o_r, o_x_t_seed, o_r_t_now)) (H : Heap) (locs : List Loc) (hP : va_P E.1 vwCl [(a_t, .inr (6, [.int x_t_isTrue, .int x_t_caskets, .int x_t_wooers, .ref a_t_metal, .ref a_t_kind, .ref a_t_now, .ref a_t_readOf, .ref a_t_readKind, .int x_t_readTrue, .int x_t_readCaskets, .int x_t_readWooers, .int x_t_readPicture, .ref a_t_text, .int x_t_length, .int x_t_at, .int x_t_faultAt, .int x_t_acts, .int x_t_next, .ref a_t_row, .int x_t_riddleMany, .ref a_t_nots, .long x_t_seed, .ref a_t_isKept, .ref a_t_kept])), (a_t_now, .inl (E.2.1, 36, .inl r_t_now))] H) (hS : va_S A s.heap H locs) (ls : Array Slot) (hl : lv_has ls 5 [(0, .ref a_t), (1, .int v1), (2, .int v2), (3, .int v3)]) : W p l e { frames := 6, cells := 0, slots := 0, locals := 146 } s m args below meth c H locs 0 0 (MQ below (Qw E (some (.int o_r)) [(a_t, .inr (6, [.int x_t_isTrue, .int x_t_caskets, .int x_t_wooers, .ref a_t_metal, .ref a_t_kind, .ref a_t_now, .ref a_t_readOf, .ref a_t_readKind, .int x_t_readTrue, .int x_t_readCaskets, .int x_t_readWooers, .int x_t_readPicture, .ref a_t_text, .int x_t_length, .int x_t_at, .int x_t_faultAt, .int x_t_acts, .int x_t_next, .ref a_t_row, .int x_t_riddleMany, .ref a_t_nots, .long o_x_t_seed, .ref a_t_isKept, .ref a_t_kept])), (a_t_now, .inl (E.2.1, 36, .inl o_r_t_now))] A) args s 0 0 A) (F0 m 84 ls []) := by
  obtain ⟨⟨hx, hb, hml, hown, hts⟩, hr, hlocks⟩ := id X
  obtain ⟨hC, hAB, hA, hB, hD⟩ := id hw
  have hiX6 : ∀ w ∈ u_ws RX6 TX6 24, w ∈ wsX6_houses := by decide +kernel
  have hK := hC.1
  unfold f_X6_houses_84 at h
  refine lv_iload_n hx hb dX6_houses_84 rfl (lv_at hl 2 rfl) ?_
  refine lv_aload_n hx hb dX6_houses_85 rfl (lv_at hl 0 rfl) ?_
  refine lv_iconst (v := 1) hx hb dX6_houses_86 (by decide) ?_
  refine lv_aload_n hx hb dX6_houses_87 rfl (lv_at hl 0 rfl) ?_
  obtain ⟨r11, g12, h⟩ := bnd h
  refine rcV (As := []) (rest := [.int 1, .ref a_t, .int v2]) ⟨hx, hb, hml, hown, hts⟩ (k_X6_all (l := l) (E := E) a_t a_t_metal a_t_kind a_t_now a_t_readOf a_t_readKind a_t_text a_t_row a_t_nots a_t_isKept a_t_kept x_t_isTrue x_t_caskets x_t_wooers x_t_readTrue x_t_readCaskets x_t_readWooers x_t_readPicture x_t_length x_t_at x_t_faultAt x_t_acts x_t_next x_t_riddleMany x_t_seed r11 g12) (cwV 0 hts gX6_houses_X6_all rfl rfl rfl (by decide +kernel) ⟨Nat.le_of_ble_eq_true rfl, Nat.le_of_ble_eq_true rfl⟩) (hC.here hS hAB) hP [0] rfl 0 6 rfl rfl rfl rfl hl.1 rfl (Nat.le_of_ble_eq_true rfl) dX6_houses_88 ⟨Nat.zero_le _, Nat.zero_le _⟩ ?_
  obtain ⟨r13, g14, h⟩ := bnd h
  refine rcV (As := [.int 1, .int r11]) (rest := [.int v2]) ⟨hx, hb, hml, hown, hts⟩ (k_X6_fitsOn (l := l) (E := E) a_t a_t_metal a_t_kind a_t_now a_t_readOf a_t_readKind a_t_text a_t_row a_t_nots a_t_isKept a_t_kept x_t_isTrue x_t_caskets x_t_wooers x_t_readTrue x_t_readCaskets x_t_readWooers x_t_readPicture x_t_length x_t_at x_t_faultAt x_t_acts x_t_next x_t_riddleMany x_t_seed r_t_now 1 r11 r13 g14) (cwV 2 hts gX6_houses_X6_fitsOn rfl rfl rfl (by decide +kernel) ⟨Nat.le_of_ble_eq_true rfl, Nat.le_of_ble_eq_true rfl⟩) (hC.here hS hAB) hP [0, 1] rfl 0 6 rfl rfl rfl rfl hl.1 rfl (Nat.le_of_ble_eq_true rfl) dX6_houses_91 ⟨Nat.zero_le _, Nat.zero_le _⟩ ?_
  obtain ⟨r15, g16, h⟩ := bnd h
  refine rcS (As := [.int r13]) (rest := [.int v2]) ⟨hx, hb, hml, hown, hts⟩ (k_X6_ones (l := l) (E := E) r13 r15 g16) (va_cwS 1 hts gX6_houses_X6_ones rfl rfl rfl (by decide +kernel) ⟨Nat.le_of_ble_eq_true rfl, Nat.le_of_ble_eq_true rfl⟩) (hC.here hS hAB) hP [] rfl rfl hl.1 rfl (Nat.le_of_ble_eq_true rfl) dX6_houses_94 ⟨Nat.zero_le _, Nat.zero_le _⟩ ?_
  refine lv_iadd hx hb dX6_houses_97 ?_
  refine lv_istore_n (lv' := [(2, .int (v2 + r15)), (0, .ref a_t), (1, .int v1), (3, .int v3)]) hx hb dX6_houses_98 rfl hl (by decide) rfl (fun ls hl => ?_)
  refine lv_iinc (v := (v3 + 1)) (lv' := [(3, .int (v3 + 1)), (2, .int (v2 + r15)), (0, .ref a_t), (1, .int v1)]) hx hb dX6_houses_99 hl (k := 3) rfl rfl (by decide) rfl (fun ls hl => ?_)
  refine lv_goto (tgt := 23) hx hb dX6_houses_102 (by decide) ?_
  exact hk23 x_t_seed r_t_now (v2 + r15) (v3 + 1) h H locs hP hS ls (lv_sub hl [2, 3, 1, 0] rfl)
set_option maxHeartbeats 4000000 in
set_option maxRecDepth 100000 in
theorem w_X6_houses_23_b {p : Program} {l : Launch} {e : Env} {s : State} {m : MethodId} {args : Array Value} {below : List Frame} {meth : Method} {c : Code} {E : Ev} {A : Nat → Prop} (a_t a_t_metal a_t_kind a_t_now a_t_readOf a_t_readKind a_t_text a_t_row a_t_nots a_t_isKept a_t_kept : Nat) (x_t_isTrue : Int32) (x_t_caskets : Int32) (x_t_wooers : Int32) (x_t_readTrue : Int32) (x_t_readCaskets : Int32) (x_t_readWooers : Int32) (x_t_readPicture : Int32) (x_t_length : Int32) (x_t_at : Int32) (x_t_faultAt : Int32) (x_t_acts : Int32) (x_t_next : Int32) (x_t_riddleMany : Int32) (x_t_seed : Int64) (r_t_now : Nat → Int32) (v1 : Int32) (o_r : Int32) (o_x_t_seed : Int64) (o_r_t_now : Nat → Int32) (X : Cxt p s m args meth c cX6_houses 5 wsX6_houses RX6 (some .int)) (hw : Cw E A s [(a_t, .inr (6, [.int x_t_isTrue, .int x_t_caskets, .int x_t_wooers, .ref a_t_metal, .ref a_t_kind, .ref a_t_now, .ref a_t_readOf, .ref a_t_readKind, .int x_t_readTrue, .int x_t_readCaskets, .int x_t_readWooers, .int x_t_readPicture, .ref a_t_text, .int x_t_length, .int x_t_at, .int x_t_faultAt, .int x_t_acts, .int x_t_next, .ref a_t_row, .int x_t_riddleMany, .ref a_t_nots, .long x_t_seed, .ref a_t_isKept, .ref a_t_kept])), (a_t_now, .inl (E.2.1, 36, .inl r_t_now))]) (k23 : Int64 × (Nat → Int32) × Int32 × Int32 → Option (Int32 × Int64 × (Nat → Int32))) (hk23 : ∀ (x_t_seed : Int64) (r_t_now : Nat → Int32) (v2 : Int32) (v3 : Int32), k23 (x_t_seed, r_t_now, v2, v3) = some (o_r, o_x_t_seed, o_r_t_now) → ∀ (H : Heap) (locs : List Loc), va_P E.1 vwCl [(a_t, .inr (6, [.int x_t_isTrue, .int x_t_caskets, .int x_t_wooers, .ref a_t_metal, .ref a_t_kind, .ref a_t_now, .ref a_t_readOf, .ref a_t_readKind, .int x_t_readTrue, .int x_t_readCaskets, .int x_t_readWooers, .int x_t_readPicture, .ref a_t_text, .int x_t_length, .int x_t_at, .int x_t_faultAt, .int x_t_acts, .int x_t_next, .ref a_t_row, .int x_t_riddleMany, .ref a_t_nots, .long x_t_seed, .ref a_t_isKept, .ref a_t_kept])), (a_t_now, .inl (E.2.1, 36, .inl r_t_now))] H → va_S A s.heap H locs → ∀ (ls : Array Slot), lv_has ls 5 [(0, .ref a_t), (1, .int v1), (2, .int v2), (3, .int v3)] → W p l e { frames := 6, cells := 0, slots := 0, locals := 146 } s m args below meth c H locs 0 0 (MQ below (Qw E (some (.int o_r)) [(a_t, .inr (6, [.int x_t_isTrue, .int x_t_caskets, .int x_t_wooers, .ref a_t_metal, .ref a_t_kind, .ref a_t_now, .ref a_t_readOf, .ref a_t_readKind, .int x_t_readTrue, .int x_t_readCaskets, .int x_t_readWooers, .int x_t_readPicture, .ref a_t_text, .int x_t_length, .int x_t_at, .int x_t_faultAt, .int x_t_acts, .int x_t_next, .ref a_t_row, .int x_t_riddleMany, .ref a_t_nots, .long o_x_t_seed, .ref a_t_isKept, .ref a_t_kept])), (a_t_now, .inl (E.2.1, 36, .inl o_r_t_now))] A) args s 0 0 A) (F0 m 23 ls [])) (v2 : Int32) (v3 : Int32) (h : f_X6_houses_23_b x_t_isTrue x_t_caskets v1 k23 x_t_seed r_t_now v2 v3 = some (o_r, o_x_t_seed, o_r_t_now)) {H : Heap} {locs : List Loc} (hP : va_P E.1 vwCl [(a_t, .inr (6, [.int x_t_isTrue, .int x_t_caskets, .int x_t_wooers, .ref a_t_metal, .ref a_t_kind, .ref a_t_now, .ref a_t_readOf, .ref a_t_readKind, .int x_t_readTrue, .int x_t_readCaskets, .int x_t_readWooers, .int x_t_readPicture, .ref a_t_text, .int x_t_length, .int x_t_at, .int x_t_faultAt, .int x_t_acts, .int x_t_next, .ref a_t_row, .int x_t_riddleMany, .ref a_t_nots, .long x_t_seed, .ref a_t_isKept, .ref a_t_kept])), (a_t_now, .inl (E.2.1, 36, .inl r_t_now))] H) (hS : va_S A s.heap H locs) {ls : Array Slot} (hl : lv_has ls 5 [(0, .ref a_t), (1, .int v1), (2, .int v2), (3, .int v3)]) : W p l e { frames := 6, cells := 0, slots := 0, locals := 146 } s m args below meth c H locs 0 0 (MQ below (Qw E (some (.int o_r)) [(a_t, .inr (6, [.int x_t_isTrue, .int x_t_caskets, .int x_t_wooers, .ref a_t_metal, .ref a_t_kind, .ref a_t_now, .ref a_t_readOf, .ref a_t_readKind, .int x_t_readTrue, .int x_t_readCaskets, .int x_t_readWooers, .int x_t_readPicture, .ref a_t_text, .int x_t_length, .int x_t_at, .int x_t_faultAt, .int x_t_acts, .int x_t_next, .ref a_t_row, .int x_t_riddleMany, .ref a_t_nots, .long o_x_t_seed, .ref a_t_isKept, .ref a_t_kept])), (a_t_now, .inl (E.2.1, 36, .inl o_r_t_now))] A) args s 0 0 A) (F0 m 23 ls []) := by
  obtain ⟨⟨hx, hb, hml, hown, hts⟩, hr, hlocks⟩ := id X
  obtain ⟨hC, hAB, hA, hB, hD⟩ := id hw
  have hiX6 : ∀ w ∈ u_ws RX6 TX6 24, w ∈ wsX6_houses := by decide +kernel
  have hK := hC.1
  unfold f_X6_houses_23_b at h
  refine lv_iload_n hx hb dX6_houses_23 rfl (lv_at hl 3 rfl) ?_
  refine lv_iload_n hx hb dX6_houses_24 rfl (lv_at hl 1 rfl) ?_
  refine lv_icmp_ge (tgt := 105) hx hb dX6_houses_25 (by decide) (fun c1 => ?_) (fun c1 => ?_)
  · have h := ifp c1 h
    refine lv_iload_n hx hb dX6_houses_105 rfl (lv_at hl 2 rfl) ?_
    exact W.iret hx hb hr (fun t ht _ => ⟨by cases h; rfl, by rw [ht]; cases h; exact hP, hS.F ht⟩) hS.2.2 dX6_houses_106
  · have h := ifn c1 h
    refine lv_aload_n hx hb dX6_houses_28 rfl (lv_at hl 0 rfl) ?_
    refine lv_aload_n hx hb dX6_houses_29 rfl (lv_at hl 0 rfl) ?_
    refine va_get (D := E.1) (ci := 6) (v := .long x_t_seed) (C := RX6) (T := TX6) (N := 24) hx hb hts hiX6 hown hK hP 0 rfl rfl 21 (by decide) (hts (.fieldLink RX6 199 "CasketLinesModel" "seed" "J") (by decide +kernel)) (fun _ h9 => h9) rfl dX6_houses_30 ?_
    refine lv_ldc2 (own := RX6) (v := 6364136223846793005) hx hb hown (hts (.constantLong RX6 205 6364136223846793005) (by decide +kernel)) dX6_houses_33 ?_
    refine lv_lmul hx hb dX6_houses_36 ?_
    refine lv_ldc2 (own := RX6) (v := 1442695040888963407) hx hb hown (hts (.constantLong RX6 207 1442695040888963407) (by decide +kernel)) dX6_houses_37 ?_
    refine lv_ladd hx hb dX6_houses_40 ?_
    obtain ⟨z2, g2, h⟩ := bnd h
    refine lv_topl (fun y2 ey2 => ?_)
    obtain rfl : y2 = z2 := ey2.trans (Option.some.inj g2)
    refine va_put (D := E.1) (ci := 6) (v := .long y2) (ty := .long) (C := RX6) (T := TX6) (N := 24) hx hb hts hiX6 tyX6 tyX6_ok nmX6 hown hK hP (hD.adr rfl) hS 0 rfl rfl 21 (by decide) (hts (.fieldLink RX6 199 "CasketLinesModel" "seed" "J") (by decide +kernel)) (fun _ h9 => h9) rfl (by decide +kernel) rfl rfl (Nat.le_of_ble_eq_true rfl) dX6_houses_41 (fun H locs hP _ hS => ?_)
    have hP : va_P E.1 vwCl [(a_t, .inr (6, [.int x_t_isTrue, .int x_t_caskets, .int x_t_wooers, .ref a_t_metal, .ref a_t_kind, .ref a_t_now, .ref a_t_readOf, .ref a_t_readKind, .int x_t_readTrue, .int x_t_readCaskets, .int x_t_readWooers, .int x_t_readPicture, .ref a_t_text, .int x_t_length, .int x_t_at, .int x_t_faultAt, .int x_t_acts, .int x_t_next, .ref a_t_row, .int x_t_riddleMany, .ref a_t_nots, .long y2, .ref a_t_isKept, .ref a_t_kept])), (a_t_now, .inl (E.2.1, 36, .inl r_t_now))] H := hP
    refine lv_aload_n hx hb dX6_houses_44 rfl (lv_at hl 0 rfl) ?_
    refine va_get (D := E.1) (ci := 6) (v := .long y2) (C := RX6) (T := TX6) (N := 24) hx hb hts hiX6 hown hK hP 0 rfl rfl 21 (by decide) (hts (.fieldLink RX6 199 "CasketLinesModel" "seed" "J") (by decide +kernel)) (fun _ h9 => h9) rfl dX6_houses_45 ?_
    refine lv_bipush (v := 33) hx hb dX6_houses_48 (by decide) ?_
    refine lv_lushr hx hb dX6_houses_50 rfl ?_
    refine lv_ldc2 (own := RX6) (v := 96) hx hb hown (hts (.constantLong RX6 209 96) (by decide +kernel)) dX6_houses_51 ?_
    refine lv_lrem hx hb dX6_houses_54 (by decide) ?_
    refine lv_l2i hx hb dX6_houses_55 rfl ?_
    obtain ⟨z3, g3, h⟩ := bnd h
    refine lv_topi (fun y3 ey3 => ?_)
    obtain rfl : y3 = z3 := ey3.trans (Option.some.inj g3)
    refine lv_istore (lv' := [(4, .int y3), (0, .ref a_t), (1, .int v1), (2, .int v2), (3, .int v3)]) hx hb dX6_houses_56 hl (by decide) rfl (fun ls hl => ?_)
    refine lv_aload_n hx hb dX6_houses_58 rfl (lv_at hl 1 rfl) ?_
    refine lv_iload hx hb dX6_houses_59 (lv_at hl 0 rfl) ?_
    refine lv_bipush (v := 24) hx hb dX6_houses_61 (by decide) ?_
    refine lv_idiv hx hb dX6_houses_63 (by decide) ?_
    obtain ⟨r4, g5, h⟩ := bnd h
    refine rcV (As := [.int (y3 / 24)]) (rest := []) ⟨hx, hb, hml, hown, hts⟩ (k_X6_isCasket (l := l) (E := E) a_t a_t_metal a_t_kind a_t_now a_t_readOf a_t_readKind a_t_text a_t_row a_t_nots a_t_isKept a_t_kept x_t_isTrue x_t_caskets x_t_wooers x_t_readTrue x_t_readCaskets x_t_readWooers x_t_readPicture x_t_length x_t_at x_t_faultAt x_t_acts x_t_next x_t_riddleMany y2 (y3 / 24) r4 g5) (cwV 1 hts gX6_houses_X6_isCasket rfl rfl rfl (by decide +kernel) ⟨Nat.le_of_ble_eq_true rfl, Nat.le_of_ble_eq_true rfl⟩) (hC.here hS hAB) hP [0] rfl 0 6 rfl rfl rfl rfl hl.1 rfl (Nat.le_of_ble_eq_true rfl) dX6_houses_64 ⟨Nat.zero_le _, Nat.zero_le _⟩ ?_
    refine lv_if_eq (tgt := 84) hx hb dX6_houses_67 (by decide) (fun c6 => ?_) (fun c6 => ?_)
    · have h := ifp c6 h
      exact w_X6_houses_84 a_t a_t_metal a_t_kind a_t_now a_t_readOf a_t_readKind a_t_text a_t_row a_t_nots a_t_isKept a_t_kept x_t_isTrue x_t_caskets x_t_wooers x_t_readTrue x_t_readCaskets x_t_readWooers x_t_readPicture x_t_length x_t_at x_t_faultAt x_t_acts x_t_next x_t_riddleMany y2 r_t_now v1 v2 v3 k23 o_r o_x_t_seed o_r_t_now X (hw.adr rfl) hk23 h H locs hP hS ls (lv_sub hl [1, 2, 3, 4] rfl)
    · have h := ifn c6 h
      refine lv_aload_n hx hb dX6_houses_70 rfl (lv_at hl 1 rfl) ?_
      refine lv_iload hx hb dX6_houses_71 (lv_at hl 0 rfl) ?_
      refine lv_bipush (v := 24) hx hb dX6_houses_73 (by decide) ?_
      refine lv_idiv hx hb dX6_houses_75 (by decide) ?_
      refine lv_iload hx hb dX6_houses_76 (lv_at hl 0 rfl) ?_
      refine lv_bipush (v := 24) hx hb dX6_houses_78 (by decide) ?_
      refine lv_irem hx hb dX6_houses_80 (by decide) ?_
      obtain ⟨u9, g8, h⟩ := bnd h
      refine wcV (A := A) (As := [.int (y3 / 24), .int (y3 - y3 / 24 * 24)]) (rest := []) (ws' := [(a_t, .inr (6, [.int x_t_isTrue, .int x_t_caskets, .int x_t_wooers, .ref a_t_metal, .ref a_t_kind, .ref a_t_now, .ref a_t_readOf, .ref a_t_readKind, .int x_t_readTrue, .int x_t_readCaskets, .int x_t_readWooers, .int x_t_readPicture, .ref a_t_text, .int x_t_length, .int x_t_at, .int x_t_faultAt, .int x_t_acts, .int x_t_next, .ref a_t_row, .int x_t_riddleMany, .ref a_t_nots, .long y2, .ref a_t_isKept, .ref a_t_kept])), (a_t_now, .inl (E.2.1, 36, .inl u9))]) ⟨hx, hb, hml, hown, hts⟩ (k_X6_layLine (l := l) (E := E) a_t a_t_metal a_t_kind a_t_now a_t_readOf a_t_readKind a_t_text a_t_row a_t_nots a_t_isKept a_t_kept x_t_isTrue x_t_caskets x_t_wooers x_t_readTrue x_t_readCaskets x_t_readWooers x_t_readPicture x_t_length x_t_at x_t_faultAt x_t_acts x_t_next x_t_riddleMany y2 r_t_now (y3 / 24) (y3 - y3 / 24 * 24) H.size u9 g8) (cwV 2 hts gX6_houses_X6_layLine rfl rfl rfl (by decide +kernel) ⟨Nat.le_of_ble_eq_true rfl, Nat.le_of_ble_eq_true rfl⟩) (hC.here hS hAB) hP (hD.adr rfl) hS hA hAB hB [0, 1] rfl rfl [some 0, some 1] rfl rfl 0 6 rfl rfl rfl rfl hl.1 rfl (Nat.le_of_ble_eq_true rfl) dX6_houses_81 ⟨Nat.zero_le _, Nat.zero_le _⟩ (fun H locs hP hS => ?_)
      exact w_X6_houses_84 a_t a_t_metal a_t_kind a_t_now a_t_readOf a_t_readKind a_t_text a_t_row a_t_nots a_t_isKept a_t_kept x_t_isTrue x_t_caskets x_t_wooers x_t_readTrue x_t_readCaskets x_t_readWooers x_t_readPicture x_t_length x_t_at x_t_faultAt x_t_acts x_t_next x_t_riddleMany y2 u9 v1 v2 v3 k23 o_r o_x_t_seed o_r_t_now X (hw.adr rfl) hk23 h H locs hP hS ls (lv_sub hl [1, 2, 3, 4] rfl)
set_option maxHeartbeats 4000000 in
set_option maxRecDepth 100000 in
theorem w_X6_houses_23 {p : Program} {l : Launch} {e : Env} {s : State} {m : MethodId} {args : Array Value} {below : List Frame} {meth : Method} {c : Code} {E : Ev} {A : Nat → Prop} (a_t a_t_metal a_t_kind a_t_now a_t_readOf a_t_readKind a_t_text a_t_row a_t_nots a_t_isKept a_t_kept : Nat) (x_t_isTrue : Int32) (x_t_caskets : Int32) (x_t_wooers : Int32) (x_t_readTrue : Int32) (x_t_readCaskets : Int32) (x_t_readWooers : Int32) (x_t_readPicture : Int32) (x_t_length : Int32) (x_t_at : Int32) (x_t_faultAt : Int32) (x_t_acts : Int32) (x_t_next : Int32) (x_t_riddleMany : Int32) (x_t_seed : Int64) (r_t_now : Nat → Int32) (v1 : Int32) (o_r : Int32) (o_x_t_seed : Int64) (o_r_t_now : Nat → Int32) (X : Cxt p s m args meth c cX6_houses 5 wsX6_houses RX6 (some .int)) (hw : Cw E A s [(a_t, .inr (6, [.int x_t_isTrue, .int x_t_caskets, .int x_t_wooers, .ref a_t_metal, .ref a_t_kind, .ref a_t_now, .ref a_t_readOf, .ref a_t_readKind, .int x_t_readTrue, .int x_t_readCaskets, .int x_t_readWooers, .int x_t_readPicture, .ref a_t_text, .int x_t_length, .int x_t_at, .int x_t_faultAt, .int x_t_acts, .int x_t_next, .ref a_t_row, .int x_t_riddleMany, .ref a_t_nots, .long x_t_seed, .ref a_t_isKept, .ref a_t_kept])), (a_t_now, .inl (E.2.1, 36, .inl r_t_now))]) : ∀ (n : Nat) (x_t_seed : Int64) (r_t_now : Nat → Int32) (v2 : Int32) (v3 : Int32), f_X6_houses_23 x_t_isTrue x_t_caskets v1 n x_t_seed r_t_now v2 v3 = some (o_r, o_x_t_seed, o_r_t_now) → ∀ (H : Heap) (locs : List Loc), va_P E.1 vwCl [(a_t, .inr (6, [.int x_t_isTrue, .int x_t_caskets, .int x_t_wooers, .ref a_t_metal, .ref a_t_kind, .ref a_t_now, .ref a_t_readOf, .ref a_t_readKind, .int x_t_readTrue, .int x_t_readCaskets, .int x_t_readWooers, .int x_t_readPicture, .ref a_t_text, .int x_t_length, .int x_t_at, .int x_t_faultAt, .int x_t_acts, .int x_t_next, .ref a_t_row, .int x_t_riddleMany, .ref a_t_nots, .long x_t_seed, .ref a_t_isKept, .ref a_t_kept])), (a_t_now, .inl (E.2.1, 36, .inl r_t_now))] H → va_S A s.heap H locs → ∀ (ls : Array Slot), lv_has ls 5 [(0, .ref a_t), (1, .int v1), (2, .int v2), (3, .int v3)] → W p l e { frames := 6, cells := 0, slots := 0, locals := 146 } s m args below meth c H locs 0 0 (MQ below (Qw E (some (.int o_r)) [(a_t, .inr (6, [.int x_t_isTrue, .int x_t_caskets, .int x_t_wooers, .ref a_t_metal, .ref a_t_kind, .ref a_t_now, .ref a_t_readOf, .ref a_t_readKind, .int x_t_readTrue, .int x_t_readCaskets, .int x_t_readWooers, .int x_t_readPicture, .ref a_t_text, .int x_t_length, .int x_t_at, .int x_t_faultAt, .int x_t_acts, .int x_t_next, .ref a_t_row, .int x_t_riddleMany, .ref a_t_nots, .long o_x_t_seed, .ref a_t_isKept, .ref a_t_kept])), (a_t_now, .inl (E.2.1, 36, .inl o_r_t_now))] A) args s 0 0 A) (F0 m 23 ls []) := by
  intro n
  induction n with
  | zero =>
    intro x_t_seed r_t_now v2 v3 h
    exact (rk_z _ _ h).elim
  | succ n ih =>
    intro x_t_seed r_t_now v2 v3 h H locs hP hS ls hl
    exact w_X6_houses_23_b a_t a_t_metal a_t_kind a_t_now a_t_readOf a_t_readKind a_t_text a_t_row a_t_nots a_t_isKept a_t_kept x_t_isTrue x_t_caskets x_t_wooers x_t_readTrue x_t_readCaskets x_t_readWooers x_t_readPicture x_t_length x_t_at x_t_faultAt x_t_acts x_t_next x_t_riddleMany x_t_seed r_t_now v1  o_r o_x_t_seed o_r_t_now X (hw.adr rfl)  (rk (fun k x => f_X6_houses_23_b x_t_isTrue x_t_caskets v1  k (x.1) (x.2.1) (x.2.2.1) (x.2.2.2)) n) (fun x_t_seed r_t_now v2 v3 hh => ih x_t_seed r_t_now v2 v3 hh) v2 v3 h hP hS hl
set_option maxHeartbeats 4000000 in
set_option maxRecDepth 100000 in
theorem w_X6_houses {p : Program} {l : Launch} {e : Env} {s : State} {m : MethodId} {args : Array Value} {below : List Frame} {meth : Method} {c : Code} {E : Ev} {A : Nat → Prop} (a_t a_t_metal a_t_kind a_t_now a_t_readOf a_t_readKind a_t_text a_t_row a_t_nots a_t_isKept a_t_kept : Nat) (x_t_isTrue : Int32) (x_t_caskets : Int32) (x_t_wooers : Int32) (x_t_readTrue : Int32) (x_t_readCaskets : Int32) (x_t_readWooers : Int32) (x_t_readPicture : Int32) (x_t_length : Int32) (x_t_at : Int32) (x_t_faultAt : Int32) (x_t_acts : Int32) (x_t_next : Int32) (x_t_riddleMany : Int32) (x_t_seed : Int64) (r_t_now : Nat → Int32) (p1 : Int32) (o_r : Int32) (o_x_t_seed : Int64) (o_r_t_now : Nat → Int32) (X : Cxt p s m args meth c cX6_houses 5 wsX6_houses RX6 (some .int)) (hw : Cw E A s [(a_t, .inr (6, [.int x_t_isTrue, .int x_t_caskets, .int x_t_wooers, .ref a_t_metal, .ref a_t_kind, .ref a_t_now, .ref a_t_readOf, .ref a_t_readKind, .int x_t_readTrue, .int x_t_readCaskets, .int x_t_readWooers, .int x_t_readPicture, .ref a_t_text, .int x_t_length, .int x_t_at, .int x_t_faultAt, .int x_t_acts, .int x_t_next, .ref a_t_row, .int x_t_riddleMany, .ref a_t_nots, .long x_t_seed, .ref a_t_isKept, .ref a_t_kept])), (a_t_now, .inl (E.2.1, 36, .inl r_t_now))]) (h : f_X6_houses x_t_isTrue x_t_caskets x_t_seed r_t_now p1 = some (o_r, o_x_t_seed, o_r_t_now)) {H : Heap} {locs : List Loc} (hP : va_P E.1 vwCl [(a_t, .inr (6, [.int x_t_isTrue, .int x_t_caskets, .int x_t_wooers, .ref a_t_metal, .ref a_t_kind, .ref a_t_now, .ref a_t_readOf, .ref a_t_readKind, .int x_t_readTrue, .int x_t_readCaskets, .int x_t_readWooers, .int x_t_readPicture, .ref a_t_text, .int x_t_length, .int x_t_at, .int x_t_faultAt, .int x_t_acts, .int x_t_next, .ref a_t_row, .int x_t_riddleMany, .ref a_t_nots, .long x_t_seed, .ref a_t_isKept, .ref a_t_kept])), (a_t_now, .inl (E.2.1, 36, .inl r_t_now))] H) (hS : va_S A s.heap H locs) {ls : Array Slot} (hl : lv_has ls 5 [(0, .ref a_t), (1, .int p1)]) : W p l e { frames := 6, cells := 0, slots := 0, locals := 146 } s m args below meth c H locs 0 0 (MQ below (Qw E (some (.int o_r)) [(a_t, .inr (6, [.int x_t_isTrue, .int x_t_caskets, .int x_t_wooers, .ref a_t_metal, .ref a_t_kind, .ref a_t_now, .ref a_t_readOf, .ref a_t_readKind, .int x_t_readTrue, .int x_t_readCaskets, .int x_t_readWooers, .int x_t_readPicture, .ref a_t_text, .int x_t_length, .int x_t_at, .int x_t_faultAt, .int x_t_acts, .int x_t_next, .ref a_t_row, .int x_t_riddleMany, .ref a_t_nots, .long o_x_t_seed, .ref a_t_isKept, .ref a_t_kept])), (a_t_now, .inl (E.2.1, 36, .inl o_r_t_now))] A) args s 0 0 A) (F0 m 0 ls []) := by
  obtain ⟨⟨hx, hb, hml, hown, hts⟩, hr, hlocks⟩ := id X
  obtain ⟨hC, hAB, hA, hB, hD⟩ := id hw
  have hiX6 : ∀ w ∈ u_ws RX6 TX6 24, w ∈ wsX6_houses := by decide +kernel
  have hK := hC.1
  unfold f_X6_houses at h
  refine lv_iload_n hx hb dX6_houses_0 rfl (lv_at hl 1 rfl) ?_
  refine lv_i2l hx hb dX6_houses_1 rfl ?_
  refine lv_lconst (v := 1) hx hb dX6_houses_2 (by decide) ?_
  refine lv_ldc2 (own := RX6) (v := 20) hx hb hown (hts (.constantLong RX6 203 20) (by decide +kernel)) dX6_houses_3 ?_
  obtain ⟨r17, g18, h⟩ := bnd h
  refine rcS (As := [.long (Int32.toInt64 p1), .long 1, .long 20]) (rest := []) ⟨hx, hb, hml, hown, hts⟩ (k_X6_in (l := l) (E := E) (Int32.toInt64 p1) 1 20 r17 g18) (va_cwS 3 hts gX6_houses_X6_in rfl rfl rfl (by decide +kernel) ⟨Nat.le_of_ble_eq_true rfl, Nat.le_of_ble_eq_true rfl⟩) (hC.here hS hAB) hP [] rfl rfl hl.1 rfl (Nat.le_of_ble_eq_true rfl) dX6_houses_6 ⟨Nat.zero_le _, Nat.zero_le _⟩ ?_
  refine lv_if_ne (tgt := 15) hx hb dX6_houses_9 (by decide) (fun c19 => ?_) (fun c19 => ?_)
  · have h := ifn c19 h
    refine lv_aload_n hx hb dX6_houses_15 rfl (lv_at hl 0 rfl) ?_
    obtain ⟨u22, g21, h⟩ := bnd h
    refine wcV (A := A) (As := []) (rest := []) (ws' := [(a_t, .inr (6, [.int x_t_isTrue, .int x_t_caskets, .int x_t_wooers, .ref a_t_metal, .ref a_t_kind, .ref a_t_now, .ref a_t_readOf, .ref a_t_readKind, .int x_t_readTrue, .int x_t_readCaskets, .int x_t_readWooers, .int x_t_readPicture, .ref a_t_text, .int x_t_length, .int x_t_at, .int x_t_faultAt, .int x_t_acts, .int x_t_next, .ref a_t_row, .int x_t_riddleMany, .ref a_t_nots, .long x_t_seed, .ref a_t_isKept, .ref a_t_kept])), (a_t_now, .inl (E.2.1, 36, .inl u22))]) ⟨hx, hb, hml, hown, hts⟩ (k_X6_layTrial (l := l) (E := E) a_t a_t_metal a_t_kind a_t_now a_t_readOf a_t_readKind a_t_text a_t_row a_t_nots a_t_isKept a_t_kept x_t_isTrue x_t_caskets x_t_wooers x_t_readTrue x_t_readCaskets x_t_readWooers x_t_readPicture x_t_length x_t_at x_t_faultAt x_t_acts x_t_next x_t_riddleMany x_t_seed r_t_now H.size u22 g21) (cwV 0 hts gX6_houses_X6_layTrial rfl rfl rfl (by decide +kernel) ⟨Nat.le_of_ble_eq_true rfl, Nat.le_of_ble_eq_true rfl⟩) (hC.here hS hAB) hP (hD.adr rfl) hS hA hAB hB [0, 1] rfl rfl [some 0, some 1] rfl rfl 0 6 rfl rfl rfl rfl hl.1 rfl (Nat.le_of_ble_eq_true rfl) dX6_houses_16 ⟨Nat.zero_le _, Nat.zero_le _⟩ (fun H locs hP hS => ?_)
    refine lv_iconst (v := 0) hx hb dX6_houses_19 (by decide) ?_
    refine lv_istore_n (lv' := [(2, .int 0), (0, .ref a_t), (1, .int p1)]) hx hb dX6_houses_20 rfl hl (by decide) rfl (fun ls hl => ?_)
    refine lv_iconst (v := 0) hx hb dX6_houses_21 (by decide) ?_
    refine lv_istore_n (lv' := [(3, .int 0), (2, .int 0), (0, .ref a_t), (1, .int p1)]) hx hb dX6_houses_22 rfl hl (by decide) rfl (fun ls hl => ?_)
    exact w_X6_houses_23 a_t a_t_metal a_t_kind a_t_now a_t_readOf a_t_readKind a_t_text a_t_row a_t_nots a_t_isKept a_t_kept x_t_isTrue x_t_caskets x_t_wooers x_t_readTrue x_t_readCaskets x_t_readWooers x_t_readPicture x_t_length x_t_at x_t_faultAt x_t_acts x_t_next x_t_riddleMany x_t_seed u22 p1  o_r o_x_t_seed o_r_t_now X (hw.adr rfl)  200 x_t_seed u22 0 0 h H locs hP hS ls (lv_sub hl [2, 3, 1, 0] rfl)
  · have h := ifp c19 h
    refine lv_bipush (v := (-2)) hx hb dX6_houses_12 (by decide) ?_
    exact W.iret hx hb hr (fun t ht _ => ⟨by cases h; rfl, by rw [ht]; cases h; exact hP, hS.F ht⟩) hS.2.2 dX6_houses_14
set_option maxHeartbeats 4000000 in
set_option maxRecDepth 100000 in
theorem k_X6_houses {l : Launch} {E : Ev} (a_t a_t_metal a_t_kind a_t_now a_t_readOf a_t_readKind a_t_text a_t_row a_t_nots a_t_isKept a_t_kept : Nat) (x_t_isTrue : Int32) (x_t_caskets : Int32) (x_t_wooers : Int32) (x_t_readTrue : Int32) (x_t_readCaskets : Int32) (x_t_readWooers : Int32) (x_t_readPicture : Int32) (x_t_length : Int32) (x_t_at : Int32) (x_t_faultAt : Int32) (x_t_acts : Int32) (x_t_next : Int32) (x_t_riddleMany : Int32) (x_t_seed : Int64) (r_t_now : Nat → Int32) (p1 : Int32) (sz : Nat) (o_r : Int32) (o_x_t_seed : Int64) (o_r_t_now : Nat → Int32) (hf : f_X6_houses x_t_isTrue x_t_caskets x_t_seed r_t_now p1 = some (o_r, o_x_t_seed, o_r_t_now)) : Met l yX6_houses wsX6_houses ({ frames := 6, cells := 0, slots := 0, locals := 146 }) (Pw E [.ref a_t, .int p1] [(a_t, .inr (6, [.int x_t_isTrue, .int x_t_caskets, .int x_t_wooers, .ref a_t_metal, .ref a_t_kind, .ref a_t_now, .ref a_t_readOf, .ref a_t_readKind, .int x_t_readTrue, .int x_t_readCaskets, .int x_t_readWooers, .int x_t_readPicture, .ref a_t_text, .int x_t_length, .int x_t_at, .int x_t_faultAt, .int x_t_acts, .int x_t_next, .ref a_t_row, .int x_t_riddleMany, .ref a_t_nots, .long x_t_seed, .ref a_t_isKept, .ref a_t_kept])), (a_t_now, .inl (E.2.1, 36, .inl r_t_now))] sz) (Qw E (some (.int o_r)) [(a_t, .inr (6, [.int x_t_isTrue, .int x_t_caskets, .int x_t_wooers, .ref a_t_metal, .ref a_t_kind, .ref a_t_now, .ref a_t_readOf, .ref a_t_readKind, .int x_t_readTrue, .int x_t_readCaskets, .int x_t_readWooers, .int x_t_readPicture, .ref a_t_text, .int x_t_length, .int x_t_at, .int x_t_faultAt, .int x_t_acts, .int x_t_next, .ref a_t_row, .int x_t_riddleMany, .ref a_t_nots, .long o_x_t_seed, .ref a_t_isKept, .ref a_t_kept])), (a_t_now, .inl (E.2.1, 36, .inl o_r_t_now))] (va_A [(a_t, .inr (6, [.int x_t_isTrue, .int x_t_caskets, .int x_t_wooers, .ref a_t_metal, .ref a_t_kind, .ref a_t_now, .ref a_t_readOf, .ref a_t_readKind, .int x_t_readTrue, .int x_t_readCaskets, .int x_t_readWooers, .int x_t_readPicture, .ref a_t_text, .int x_t_length, .int x_t_at, .int x_t_faultAt, .int x_t_acts, .int x_t_next, .ref a_t_row, .int x_t_riddleMany, .ref a_t_nots, .long x_t_seed, .ref a_t_isKept, .ref a_t_kept])), (a_t_now, .inl (E.2.1, 36, .inl r_t_now))] sz)) 0 0 (va_A [(a_t, .inr (6, [.int x_t_isTrue, .int x_t_caskets, .int x_t_wooers, .ref a_t_metal, .ref a_t_kind, .ref a_t_now, .ref a_t_readOf, .ref a_t_readKind, .int x_t_readTrue, .int x_t_readCaskets, .int x_t_readWooers, .int x_t_readPicture, .ref a_t_text, .int x_t_length, .int x_t_at, .int x_t_faultAt, .int x_t_acts, .int x_t_next, .ref a_t_row, .int x_t_riddleMany, .ref a_t_nots, .long x_t_seed, .ref a_t_isKept, .ref a_t_kept])), (a_t_now, .inl (E.2.1, 36, .inl r_t_now))] sz) := by
  refine Met.ofW (cc := cX6_houses) (maxL := 5) (ret := (some .int)) (by decide) rfl ?_
  intro p e s m args below meth c s₁ B hml hv
  obtain ⟨rfl, rfl, hw, hP⟩ := Pw.start hv
  have X := Cxt.of B hml
  have hl := lv_entry ([.ref a_t, .int p1]) (n := 5) (Nat.le_of_ble_eq_true rfl)
  rw [lg_entry_eq]
  exact w_X6_houses a_t a_t_metal a_t_kind a_t_now a_t_readOf a_t_readKind a_t_text a_t_row a_t_nots a_t_isKept a_t_kept x_t_isTrue x_t_caskets x_t_wooers x_t_readTrue x_t_readCaskets x_t_readWooers x_t_readPicture x_t_length x_t_at x_t_faultAt x_t_acts x_t_next x_t_riddleMany x_t_seed r_t_now p1 o_r o_x_t_seed o_r_t_now X hw hf hP va_S.rf hl
set_option maxHeartbeats 4000000 in
set_option maxRecDepth 100000 in
theorem w_X6_keep_50 {p : Program} {l : Launch} {e : Env} {s : State} {m : MethodId} {args : Array Value} {below : List Frame} {meth : Method} {c : Code} {E : Ev} {A : Nat → Prop} (a_t a_t_metal a_t_kind a_t_now a_t_readOf a_t_readKind a_t_text a_t_row a_t_nots a_t_isKept a_t_kept : Nat) (x_t_isTrue : Int32) (x_t_caskets : Int32) (x_t_wooers : Int32) (x_t_readTrue : Int32) (x_t_readCaskets : Int32) (x_t_readWooers : Int32) (x_t_readPicture : Int32) (x_t_length : Int32) (x_t_at : Int32) (x_t_faultAt : Int32) (x_t_acts : Int32) (x_t_next : Int32) (x_t_riddleMany : Int32) (x_t_seed : Int64) (r_t_now : Nat → Int32) (r_t_isKept : Nat → Int32) (r_t_kept : Nat → Int32) (o_r : Int32) (o_r_t_isKept : Nat → Int32) (o_r_t_kept : Nat → Int32) (X : Cxt p s m args meth c cX6_keep 3 wsX6_keep RX6 (some .int)) (hw : Cw E A s [(a_t, .inr (6, [.int x_t_isTrue, .int x_t_caskets, .int x_t_wooers, .ref a_t_metal, .ref a_t_kind, .ref a_t_now, .ref a_t_readOf, .ref a_t_readKind, .int x_t_readTrue, .int x_t_readCaskets, .int x_t_readWooers, .int x_t_readPicture, .ref a_t_text, .int x_t_length, .int x_t_at, .int x_t_faultAt, .int x_t_acts, .int x_t_next, .ref a_t_row, .int x_t_riddleMany, .ref a_t_nots, .long x_t_seed, .ref a_t_isKept, .ref a_t_kept])), (a_t_now, .inl (E.2.1, 36, .inl r_t_now)), (a_t_isKept, .inl (E.2.2.1, 2, .inl r_t_isKept)), (a_t_kept, .inl (E.2.1, 36, .inl r_t_kept))]) (h : f_X6_keep_50 r_t_now r_t_isKept r_t_kept = some (o_r, o_r_t_isKept, o_r_t_kept)) (H : Heap) (locs : List Loc) (hP : va_P E.1 vwCl [(a_t, .inr (6, [.int x_t_isTrue, .int x_t_caskets, .int x_t_wooers, .ref a_t_metal, .ref a_t_kind, .ref a_t_now, .ref a_t_readOf, .ref a_t_readKind, .int x_t_readTrue, .int x_t_readCaskets, .int x_t_readWooers, .int x_t_readPicture, .ref a_t_text, .int x_t_length, .int x_t_at, .int x_t_faultAt, .int x_t_acts, .int x_t_next, .ref a_t_row, .int x_t_riddleMany, .ref a_t_nots, .long x_t_seed, .ref a_t_isKept, .ref a_t_kept])), (a_t_now, .inl (E.2.1, 36, .inl r_t_now)), (a_t_isKept, .inl (E.2.2.1, 2, .inl r_t_isKept)), (a_t_kept, .inl (E.2.1, 36, .inl r_t_kept))] H) (hS : va_S A s.heap H locs) (ls : Array Slot) (hl : lv_has ls 3 [(0, .ref a_t)]) : W p l e { frames := 1, cells := 0, slots := 0, locals := 25 } s m args below meth c H locs 0 0 (MQ below (Qw E (some (.int o_r)) [(a_t, .inr (6, [.int x_t_isTrue, .int x_t_caskets, .int x_t_wooers, .ref a_t_metal, .ref a_t_kind, .ref a_t_now, .ref a_t_readOf, .ref a_t_readKind, .int x_t_readTrue, .int x_t_readCaskets, .int x_t_readWooers, .int x_t_readPicture, .ref a_t_text, .int x_t_length, .int x_t_at, .int x_t_faultAt, .int x_t_acts, .int x_t_next, .ref a_t_row, .int x_t_riddleMany, .ref a_t_nots, .long x_t_seed, .ref a_t_isKept, .ref a_t_kept])), (a_t_now, .inl (E.2.1, 36, .inl r_t_now)), (a_t_isKept, .inl (E.2.2.1, 2, .inl o_r_t_isKept)), (a_t_kept, .inl (E.2.1, 36, .inl o_r_t_kept))] A) args s 0 0 A) (F0 m 50 ls []) := by
  obtain ⟨⟨hx, hb, hml, hown, hts⟩, hr, hlocks⟩ := id X
  obtain ⟨hC, hAB, hA, hB, hD⟩ := id hw
  have hiX6 : ∀ w ∈ u_ws RX6 TX6 24, w ∈ wsX6_keep := by decide +kernel
  have hK := hC.1
  unfold f_X6_keep_50 at h
  refine lv_aload_n hx hb dX6_keep_50 rfl (lv_at hl 0 rfl) ?_
  refine va_get (D := E.1) (ci := 6) (v := .ref a_t_now) (C := RX6) (T := TX6) (N := 24) hx hb hts hiX6 hown hK hP 0 rfl rfl 5 (by decide) (hts (.fieldLink RX6 16 "CasketLinesModel" "now" "[I") (by decide +kernel)) (fun _ h9 => h9) rfl dX6_keep_51 ?_
  refine lv_bipush (v := 10) hx hb dX6_keep_54 (by decide) ?_
  refine va_iald hx hb hK hP 1 0 rfl rfl (vin rfl) dX6_keep_56 ?_
  exact W.iret hx hb hr (fun t ht _ => ⟨by cases h; rfl, by rw [ht]; cases h; exact hP, hS.F ht⟩) hS.2.2 dX6_keep_57
set_option maxHeartbeats 4000000 in
set_option maxRecDepth 100000 in
theorem w_X6_keep_21_b {p : Program} {l : Launch} {e : Env} {s : State} {m : MethodId} {args : Array Value} {below : List Frame} {meth : Method} {c : Code} {E : Ev} {A : Nat → Prop} (a_t a_t_metal a_t_kind a_t_now a_t_readOf a_t_readKind a_t_text a_t_row a_t_nots a_t_isKept a_t_kept : Nat) (x_t_isTrue : Int32) (x_t_caskets : Int32) (x_t_wooers : Int32) (x_t_readTrue : Int32) (x_t_readCaskets : Int32) (x_t_readWooers : Int32) (x_t_readPicture : Int32) (x_t_length : Int32) (x_t_at : Int32) (x_t_faultAt : Int32) (x_t_acts : Int32) (x_t_next : Int32) (x_t_riddleMany : Int32) (x_t_seed : Int64) (r_t_now : Nat → Int32) (r_t_isKept : Nat → Int32) (r_t_kept : Nat → Int32) (v1 : Int32) (o_r : Int32) (o_r_t_isKept : Nat → Int32) (o_r_t_kept : Nat → Int32) (X : Cxt p s m args meth c cX6_keep 3 wsX6_keep RX6 (some .int)) (hw : Cw E A s [(a_t, .inr (6, [.int x_t_isTrue, .int x_t_caskets, .int x_t_wooers, .ref a_t_metal, .ref a_t_kind, .ref a_t_now, .ref a_t_readOf, .ref a_t_readKind, .int x_t_readTrue, .int x_t_readCaskets, .int x_t_readWooers, .int x_t_readPicture, .ref a_t_text, .int x_t_length, .int x_t_at, .int x_t_faultAt, .int x_t_acts, .int x_t_next, .ref a_t_row, .int x_t_riddleMany, .ref a_t_nots, .long x_t_seed, .ref a_t_isKept, .ref a_t_kept])), (a_t_now, .inl (E.2.1, 36, .inl r_t_now)), (a_t_isKept, .inl (E.2.2.1, 2, .inl r_t_isKept)), (a_t_kept, .inl (E.2.1, 36, .inl r_t_kept))]) (k21 : (Nat → Int32) × Int32 → Option (Int32 × (Nat → Int32) × (Nat → Int32))) (hk21 : ∀ (r_t_kept : Nat → Int32) (v2 : Int32), k21 (r_t_kept, v2) = some (o_r, o_r_t_isKept, o_r_t_kept) → ∀ (H : Heap) (locs : List Loc), va_P E.1 vwCl [(a_t, .inr (6, [.int x_t_isTrue, .int x_t_caskets, .int x_t_wooers, .ref a_t_metal, .ref a_t_kind, .ref a_t_now, .ref a_t_readOf, .ref a_t_readKind, .int x_t_readTrue, .int x_t_readCaskets, .int x_t_readWooers, .int x_t_readPicture, .ref a_t_text, .int x_t_length, .int x_t_at, .int x_t_faultAt, .int x_t_acts, .int x_t_next, .ref a_t_row, .int x_t_riddleMany, .ref a_t_nots, .long x_t_seed, .ref a_t_isKept, .ref a_t_kept])), (a_t_now, .inl (E.2.1, 36, .inl r_t_now)), (a_t_isKept, .inl (E.2.2.1, 2, .inl r_t_isKept)), (a_t_kept, .inl (E.2.1, 36, .inl r_t_kept))] H → va_S A s.heap H locs → ∀ (ls : Array Slot), lv_has ls 3 [(0, .ref a_t), (1, .int v1), (2, .int v2)] → W p l e { frames := 1, cells := 0, slots := 0, locals := 25 } s m args below meth c H locs 0 0 (MQ below (Qw E (some (.int o_r)) [(a_t, .inr (6, [.int x_t_isTrue, .int x_t_caskets, .int x_t_wooers, .ref a_t_metal, .ref a_t_kind, .ref a_t_now, .ref a_t_readOf, .ref a_t_readKind, .int x_t_readTrue, .int x_t_readCaskets, .int x_t_readWooers, .int x_t_readPicture, .ref a_t_text, .int x_t_length, .int x_t_at, .int x_t_faultAt, .int x_t_acts, .int x_t_next, .ref a_t_row, .int x_t_riddleMany, .ref a_t_nots, .long x_t_seed, .ref a_t_isKept, .ref a_t_kept])), (a_t_now, .inl (E.2.1, 36, .inl r_t_now)), (a_t_isKept, .inl (E.2.2.1, 2, .inl o_r_t_isKept)), (a_t_kept, .inl (E.2.1, 36, .inl o_r_t_kept))] A) args s 0 0 A) (F0 m 21 ls [])) (v2 : Int32) (h : f_X6_keep_21_b r_t_now r_t_isKept v1 k21 r_t_kept v2 = some (o_r, o_r_t_isKept, o_r_t_kept)) {H : Heap} {locs : List Loc} (hP : va_P E.1 vwCl [(a_t, .inr (6, [.int x_t_isTrue, .int x_t_caskets, .int x_t_wooers, .ref a_t_metal, .ref a_t_kind, .ref a_t_now, .ref a_t_readOf, .ref a_t_readKind, .int x_t_readTrue, .int x_t_readCaskets, .int x_t_readWooers, .int x_t_readPicture, .ref a_t_text, .int x_t_length, .int x_t_at, .int x_t_faultAt, .int x_t_acts, .int x_t_next, .ref a_t_row, .int x_t_riddleMany, .ref a_t_nots, .long x_t_seed, .ref a_t_isKept, .ref a_t_kept])), (a_t_now, .inl (E.2.1, 36, .inl r_t_now)), (a_t_isKept, .inl (E.2.2.1, 2, .inl r_t_isKept)), (a_t_kept, .inl (E.2.1, 36, .inl r_t_kept))] H) (hS : va_S A s.heap H locs) {ls : Array Slot} (hl : lv_has ls 3 [(0, .ref a_t), (1, .int v1), (2, .int v2)]) : W p l e { frames := 1, cells := 0, slots := 0, locals := 25 } s m args below meth c H locs 0 0 (MQ below (Qw E (some (.int o_r)) [(a_t, .inr (6, [.int x_t_isTrue, .int x_t_caskets, .int x_t_wooers, .ref a_t_metal, .ref a_t_kind, .ref a_t_now, .ref a_t_readOf, .ref a_t_readKind, .int x_t_readTrue, .int x_t_readCaskets, .int x_t_readWooers, .int x_t_readPicture, .ref a_t_text, .int x_t_length, .int x_t_at, .int x_t_faultAt, .int x_t_acts, .int x_t_next, .ref a_t_row, .int x_t_riddleMany, .ref a_t_nots, .long x_t_seed, .ref a_t_isKept, .ref a_t_kept])), (a_t_now, .inl (E.2.1, 36, .inl r_t_now)), (a_t_isKept, .inl (E.2.2.1, 2, .inl o_r_t_isKept)), (a_t_kept, .inl (E.2.1, 36, .inl o_r_t_kept))] A) args s 0 0 A) (F0 m 21 ls []) := by
  obtain ⟨⟨hx, hb, hml, hown, hts⟩, hr, hlocks⟩ := id X
  obtain ⟨hC, hAB, hA, hB, hD⟩ := id hw
  have hiX6 : ∀ w ∈ u_ws RX6 TX6 24, w ∈ wsX6_keep := by decide +kernel
  have hK := hC.1
  unfold f_X6_keep_21_b at h
  refine lv_iload_n hx hb dX6_keep_21 rfl (lv_at hl 2 rfl) ?_
  refine lv_bipush (v := 18) hx hb dX6_keep_22 (by decide) ?_
  refine lv_icmp_ge (tgt := 50) hx hb dX6_keep_24 (by decide) (fun c1 => ?_) (fun c1 => ?_)
  · have h := ifp c1 h
    exact w_X6_keep_50 a_t a_t_metal a_t_kind a_t_now a_t_readOf a_t_readKind a_t_text a_t_row a_t_nots a_t_isKept a_t_kept x_t_isTrue x_t_caskets x_t_wooers x_t_readTrue x_t_readCaskets x_t_readWooers x_t_readPicture x_t_length x_t_at x_t_faultAt x_t_acts x_t_next x_t_riddleMany x_t_seed r_t_now r_t_isKept r_t_kept   o_r o_r_t_isKept o_r_t_kept X (hw.adr rfl)  h H locs hP hS ls (lv_sub hl [0] rfl)
  · have h := ifn c1 h
    refine lv_aload_n hx hb dX6_keep_27 rfl (lv_at hl 0 rfl) ?_
    refine va_get (D := E.1) (ci := 6) (v := .ref a_t_kept) (C := RX6) (T := TX6) (N := 24) hx hb hts hiX6 hown hK hP 0 rfl rfl 23 (by decide) (hts (.fieldLink RX6 38 "CasketLinesModel" "kept" "[I") (by decide +kernel)) (fun _ h9 => h9) rfl dX6_keep_28 ?_
    refine lv_bipush (v := 18) hx hb dX6_keep_31 (by decide) ?_
    refine lv_iload_n hx hb dX6_keep_33 rfl (lv_at hl 1 rfl) ?_
    refine lv_imul hx hb dX6_keep_34 ?_
    refine lv_iload_n hx hb dX6_keep_35 rfl (lv_at hl 2 rfl) ?_
    refine lv_iadd hx hb dX6_keep_36 ?_
    refine lv_aload_n hx hb dX6_keep_37 rfl (lv_at hl 0 rfl) ?_
    refine va_get (D := E.1) (ci := 6) (v := .ref a_t_now) (C := RX6) (T := TX6) (N := 24) hx hb hts hiX6 hown hK hP 0 rfl rfl 5 (by decide) (hts (.fieldLink RX6 16 "CasketLinesModel" "now" "[I") (by decide +kernel)) (fun _ h9 => h9) rfl dX6_keep_38 ?_
    refine lv_iload_n hx hb dX6_keep_41 rfl (lv_at hl 2 rfl) ?_
    obtain ⟨b2, h⟩ := gdn h
    refine va_iald hx hb hK hP 1 0 rfl rfl b2 dX6_keep_42 ?_
    obtain ⟨b3, h⟩ := gdn h
    refine va_iast hx hb hK hP (hD.adr rfl) hS 3 0 rfl rfl b3 dX6_keep_43 (fun H locs hP _ hS => ?_)
    have hP : va_P E.1 vwCl [(a_t, .inr (6, [.int x_t_isTrue, .int x_t_caskets, .int x_t_wooers, .ref a_t_metal, .ref a_t_kind, .ref a_t_now, .ref a_t_readOf, .ref a_t_readKind, .int x_t_readTrue, .int x_t_readCaskets, .int x_t_readWooers, .int x_t_readPicture, .ref a_t_text, .int x_t_length, .int x_t_at, .int x_t_faultAt, .int x_t_acts, .int x_t_next, .ref a_t_row, .int x_t_riddleMany, .ref a_t_nots, .long x_t_seed, .ref a_t_isKept, .ref a_t_kept])), (a_t_now, .inl (E.2.1, 36, .inl r_t_now)), (a_t_isKept, .inl (E.2.2.1, 2, .inl r_t_isKept)), (a_t_kept, .inl (E.2.1, 36, .inl (upd r_t_kept (Int32.toNatClampNeg ((18 * v1) + v2)) (r_t_now (Int32.toNatClampNeg v2)))))] H := hP
    refine lv_iinc (v := (v2 + 1)) (lv' := [(2, .int (v2 + 1)), (0, .ref a_t), (1, .int v1)]) hx hb dX6_keep_44 hl (k := 2) rfl rfl (by decide) rfl (fun ls hl => ?_)
    refine lv_goto (tgt := 21) hx hb dX6_keep_47 (by decide) ?_
    exact hk21 (upd r_t_kept (Int32.toNatClampNeg ((18 * v1) + v2)) (r_t_now (Int32.toNatClampNeg v2))) (v2 + 1) h H locs hP hS ls (lv_sub hl [1, 2, 0] rfl)
set_option maxHeartbeats 4000000 in
set_option maxRecDepth 100000 in
theorem w_X6_keep_21 {p : Program} {l : Launch} {e : Env} {s : State} {m : MethodId} {args : Array Value} {below : List Frame} {meth : Method} {c : Code} {E : Ev} {A : Nat → Prop} (a_t a_t_metal a_t_kind a_t_now a_t_readOf a_t_readKind a_t_text a_t_row a_t_nots a_t_isKept a_t_kept : Nat) (x_t_isTrue : Int32) (x_t_caskets : Int32) (x_t_wooers : Int32) (x_t_readTrue : Int32) (x_t_readCaskets : Int32) (x_t_readWooers : Int32) (x_t_readPicture : Int32) (x_t_length : Int32) (x_t_at : Int32) (x_t_faultAt : Int32) (x_t_acts : Int32) (x_t_next : Int32) (x_t_riddleMany : Int32) (x_t_seed : Int64) (r_t_now : Nat → Int32) (r_t_isKept : Nat → Int32) (r_t_kept : Nat → Int32) (v1 : Int32) (o_r : Int32) (o_r_t_isKept : Nat → Int32) (o_r_t_kept : Nat → Int32) (X : Cxt p s m args meth c cX6_keep 3 wsX6_keep RX6 (some .int)) (hw : Cw E A s [(a_t, .inr (6, [.int x_t_isTrue, .int x_t_caskets, .int x_t_wooers, .ref a_t_metal, .ref a_t_kind, .ref a_t_now, .ref a_t_readOf, .ref a_t_readKind, .int x_t_readTrue, .int x_t_readCaskets, .int x_t_readWooers, .int x_t_readPicture, .ref a_t_text, .int x_t_length, .int x_t_at, .int x_t_faultAt, .int x_t_acts, .int x_t_next, .ref a_t_row, .int x_t_riddleMany, .ref a_t_nots, .long x_t_seed, .ref a_t_isKept, .ref a_t_kept])), (a_t_now, .inl (E.2.1, 36, .inl r_t_now)), (a_t_isKept, .inl (E.2.2.1, 2, .inl r_t_isKept)), (a_t_kept, .inl (E.2.1, 36, .inl r_t_kept))]) : ∀ (n : Nat) (r_t_kept : Nat → Int32) (v2 : Int32), f_X6_keep_21 r_t_now r_t_isKept v1 n r_t_kept v2 = some (o_r, o_r_t_isKept, o_r_t_kept) → ∀ (H : Heap) (locs : List Loc), va_P E.1 vwCl [(a_t, .inr (6, [.int x_t_isTrue, .int x_t_caskets, .int x_t_wooers, .ref a_t_metal, .ref a_t_kind, .ref a_t_now, .ref a_t_readOf, .ref a_t_readKind, .int x_t_readTrue, .int x_t_readCaskets, .int x_t_readWooers, .int x_t_readPicture, .ref a_t_text, .int x_t_length, .int x_t_at, .int x_t_faultAt, .int x_t_acts, .int x_t_next, .ref a_t_row, .int x_t_riddleMany, .ref a_t_nots, .long x_t_seed, .ref a_t_isKept, .ref a_t_kept])), (a_t_now, .inl (E.2.1, 36, .inl r_t_now)), (a_t_isKept, .inl (E.2.2.1, 2, .inl r_t_isKept)), (a_t_kept, .inl (E.2.1, 36, .inl r_t_kept))] H → va_S A s.heap H locs → ∀ (ls : Array Slot), lv_has ls 3 [(0, .ref a_t), (1, .int v1), (2, .int v2)] → W p l e { frames := 1, cells := 0, slots := 0, locals := 25 } s m args below meth c H locs 0 0 (MQ below (Qw E (some (.int o_r)) [(a_t, .inr (6, [.int x_t_isTrue, .int x_t_caskets, .int x_t_wooers, .ref a_t_metal, .ref a_t_kind, .ref a_t_now, .ref a_t_readOf, .ref a_t_readKind, .int x_t_readTrue, .int x_t_readCaskets, .int x_t_readWooers, .int x_t_readPicture, .ref a_t_text, .int x_t_length, .int x_t_at, .int x_t_faultAt, .int x_t_acts, .int x_t_next, .ref a_t_row, .int x_t_riddleMany, .ref a_t_nots, .long x_t_seed, .ref a_t_isKept, .ref a_t_kept])), (a_t_now, .inl (E.2.1, 36, .inl r_t_now)), (a_t_isKept, .inl (E.2.2.1, 2, .inl o_r_t_isKept)), (a_t_kept, .inl (E.2.1, 36, .inl o_r_t_kept))] A) args s 0 0 A) (F0 m 21 ls []) := by
  intro n
  induction n with
  | zero =>
    intro r_t_kept v2 h
    exact (rk_z _ _ h).elim
  | succ n ih =>
    intro r_t_kept v2 h H locs hP hS ls hl
    exact w_X6_keep_21_b a_t a_t_metal a_t_kind a_t_now a_t_readOf a_t_readKind a_t_text a_t_row a_t_nots a_t_isKept a_t_kept x_t_isTrue x_t_caskets x_t_wooers x_t_readTrue x_t_readCaskets x_t_readWooers x_t_readPicture x_t_length x_t_at x_t_faultAt x_t_acts x_t_next x_t_riddleMany x_t_seed r_t_now r_t_isKept r_t_kept v1  o_r o_r_t_isKept o_r_t_kept X (hw.adr rfl)  (rk (fun k x => f_X6_keep_21_b r_t_now r_t_isKept v1  k (x.1) (x.2)) n) (fun r_t_kept v2 hh => ih r_t_kept v2 hh) v2 h hP hS hl
set_option maxHeartbeats 4000000 in
set_option maxRecDepth 100000 in
theorem w_X6_keep {p : Program} {l : Launch} {e : Env} {s : State} {m : MethodId} {args : Array Value} {below : List Frame} {meth : Method} {c : Code} {E : Ev} {A : Nat → Prop} (a_t a_t_metal a_t_kind a_t_now a_t_readOf a_t_readKind a_t_text a_t_row a_t_nots a_t_isKept a_t_kept : Nat) (x_t_isTrue : Int32) (x_t_caskets : Int32) (x_t_wooers : Int32) (x_t_readTrue : Int32) (x_t_readCaskets : Int32) (x_t_readWooers : Int32) (x_t_readPicture : Int32) (x_t_length : Int32) (x_t_at : Int32) (x_t_faultAt : Int32) (x_t_acts : Int32) (x_t_next : Int32) (x_t_riddleMany : Int32) (x_t_seed : Int64) (r_t_now : Nat → Int32) (r_t_isKept : Nat → Int32) (r_t_kept : Nat → Int32) (p1 : Int32) (o_r : Int32) (o_r_t_isKept : Nat → Int32) (o_r_t_kept : Nat → Int32) (X : Cxt p s m args meth c cX6_keep 3 wsX6_keep RX6 (some .int)) (hw : Cw E A s [(a_t, .inr (6, [.int x_t_isTrue, .int x_t_caskets, .int x_t_wooers, .ref a_t_metal, .ref a_t_kind, .ref a_t_now, .ref a_t_readOf, .ref a_t_readKind, .int x_t_readTrue, .int x_t_readCaskets, .int x_t_readWooers, .int x_t_readPicture, .ref a_t_text, .int x_t_length, .int x_t_at, .int x_t_faultAt, .int x_t_acts, .int x_t_next, .ref a_t_row, .int x_t_riddleMany, .ref a_t_nots, .long x_t_seed, .ref a_t_isKept, .ref a_t_kept])), (a_t_now, .inl (E.2.1, 36, .inl r_t_now)), (a_t_isKept, .inl (E.2.2.1, 2, .inl r_t_isKept)), (a_t_kept, .inl (E.2.1, 36, .inl r_t_kept))]) (h : f_X6_keep r_t_now r_t_isKept r_t_kept p1 = some (o_r, o_r_t_isKept, o_r_t_kept)) {H : Heap} {locs : List Loc} (hP : va_P E.1 vwCl [(a_t, .inr (6, [.int x_t_isTrue, .int x_t_caskets, .int x_t_wooers, .ref a_t_metal, .ref a_t_kind, .ref a_t_now, .ref a_t_readOf, .ref a_t_readKind, .int x_t_readTrue, .int x_t_readCaskets, .int x_t_readWooers, .int x_t_readPicture, .ref a_t_text, .int x_t_length, .int x_t_at, .int x_t_faultAt, .int x_t_acts, .int x_t_next, .ref a_t_row, .int x_t_riddleMany, .ref a_t_nots, .long x_t_seed, .ref a_t_isKept, .ref a_t_kept])), (a_t_now, .inl (E.2.1, 36, .inl r_t_now)), (a_t_isKept, .inl (E.2.2.1, 2, .inl r_t_isKept)), (a_t_kept, .inl (E.2.1, 36, .inl r_t_kept))] H) (hS : va_S A s.heap H locs) {ls : Array Slot} (hl : lv_has ls 3 [(0, .ref a_t), (1, .int p1)]) : W p l e { frames := 1, cells := 0, slots := 0, locals := 25 } s m args below meth c H locs 0 0 (MQ below (Qw E (some (.int o_r)) [(a_t, .inr (6, [.int x_t_isTrue, .int x_t_caskets, .int x_t_wooers, .ref a_t_metal, .ref a_t_kind, .ref a_t_now, .ref a_t_readOf, .ref a_t_readKind, .int x_t_readTrue, .int x_t_readCaskets, .int x_t_readWooers, .int x_t_readPicture, .ref a_t_text, .int x_t_length, .int x_t_at, .int x_t_faultAt, .int x_t_acts, .int x_t_next, .ref a_t_row, .int x_t_riddleMany, .ref a_t_nots, .long x_t_seed, .ref a_t_isKept, .ref a_t_kept])), (a_t_now, .inl (E.2.1, 36, .inl r_t_now)), (a_t_isKept, .inl (E.2.2.1, 2, .inl o_r_t_isKept)), (a_t_kept, .inl (E.2.1, 36, .inl o_r_t_kept))] A) args s 0 0 A) (F0 m 0 ls []) := by
  obtain ⟨⟨hx, hb, hml, hown, hts⟩, hr, hlocks⟩ := id X
  obtain ⟨hC, hAB, hA, hB, hD⟩ := id hw
  have hiX6 : ∀ w ∈ u_ws RX6 TX6 24, w ∈ wsX6_keep := by decide +kernel
  have hK := hC.1
  unfold f_X6_keep at h
  refine lv_iload_n hx hb dX6_keep_0 rfl (lv_at hl 1 rfl) ?_
  refine lv_i2l hx hb dX6_keep_1 rfl ?_
  refine lv_lconst (v := 0) hx hb dX6_keep_2 (by decide) ?_
  refine lv_lconst (v := 1) hx hb dX6_keep_3 (by decide) ?_
  obtain ⟨r4, g5, h⟩ := bnd h
  refine rcS (As := [.long (Int32.toInt64 p1), .long 0, .long 1]) (rest := []) ⟨hx, hb, hml, hown, hts⟩ (k_X6_in (l := l) (E := E) (Int32.toInt64 p1) 0 1 r4 g5) (va_cwS 3 hts gX6_keep_X6_in rfl rfl rfl (by decide +kernel) ⟨Nat.le_of_ble_eq_true rfl, Nat.le_of_ble_eq_true rfl⟩) (hC.here hS hAB) hP [] rfl rfl hl.1 rfl (Nat.le_of_ble_eq_true rfl) dX6_keep_4 ⟨Nat.zero_le _, Nat.zero_le _⟩ ?_
  refine lv_if_ne (tgt := 12) hx hb dX6_keep_7 (by decide) (fun c6 => ?_) (fun c6 => ?_)
  · have h := ifn c6 h
    refine lv_aload_n hx hb dX6_keep_12 rfl (lv_at hl 0 rfl) ?_
    refine va_get (D := E.1) (ci := 6) (v := .ref a_t_isKept) (C := RX6) (T := TX6) (N := 24) hx hb hts hiX6 hown hK hP 0 rfl rfl 22 (by decide) (hts (.fieldLink RX6 34 "CasketLinesModel" "isKept" "[Z") (by decide +kernel)) (fun _ h9 => h9) rfl dX6_keep_13 ?_
    refine lv_iload_n hx hb dX6_keep_16 rfl (lv_at hl 1 rfl) ?_
    refine lv_iconst (v := 1) hx hb dX6_keep_17 (by decide) ?_
    obtain ⟨b7, h⟩ := gdn h
    refine va_zast hx hb hK hP (hD.adr rfl) hS 2 1 rfl rfl b7 dX6_keep_18 (fun H locs hP _ hS => ?_)
    have hP : va_P E.1 vwCl [(a_t, .inr (6, [.int x_t_isTrue, .int x_t_caskets, .int x_t_wooers, .ref a_t_metal, .ref a_t_kind, .ref a_t_now, .ref a_t_readOf, .ref a_t_readKind, .int x_t_readTrue, .int x_t_readCaskets, .int x_t_readWooers, .int x_t_readPicture, .ref a_t_text, .int x_t_length, .int x_t_at, .int x_t_faultAt, .int x_t_acts, .int x_t_next, .ref a_t_row, .int x_t_riddleMany, .ref a_t_nots, .long x_t_seed, .ref a_t_isKept, .ref a_t_kept])), (a_t_now, .inl (E.2.1, 36, .inl r_t_now)), (a_t_isKept, .inl (E.2.2.1, 2, .inl (upd r_t_isKept (Int32.toNatClampNeg p1) 1))), (a_t_kept, .inl (E.2.1, 36, .inl r_t_kept))] H := hP
    refine lv_iconst (v := 0) hx hb dX6_keep_19 (by decide) ?_
    refine lv_istore_n (lv' := [(2, .int 0), (0, .ref a_t), (1, .int p1)]) hx hb dX6_keep_20 rfl hl (by decide) rfl (fun ls hl => ?_)
    exact w_X6_keep_21 a_t a_t_metal a_t_kind a_t_now a_t_readOf a_t_readKind a_t_text a_t_row a_t_nots a_t_isKept a_t_kept x_t_isTrue x_t_caskets x_t_wooers x_t_readTrue x_t_readCaskets x_t_readWooers x_t_readPicture x_t_length x_t_at x_t_faultAt x_t_acts x_t_next x_t_riddleMany x_t_seed r_t_now (upd r_t_isKept (Int32.toNatClampNeg p1) 1) r_t_kept p1  o_r o_r_t_isKept o_r_t_kept X (hw.adr rfl)  200 r_t_kept 0 h H locs hP hS ls (lv_sub hl [1, 2, 0] rfl)
  · have h := ifp c6 h
    refine lv_iconst (v := (-1)) hx hb dX6_keep_10 (by decide) ?_
    exact W.iret hx hb hr (fun t ht _ => ⟨by cases h; rfl, by rw [ht]; cases h; exact hP, hS.F ht⟩) hS.2.2 dX6_keep_11
set_option maxHeartbeats 4000000 in
set_option maxRecDepth 100000 in
theorem k_X6_keep {l : Launch} {E : Ev} (a_t a_t_metal a_t_kind a_t_now a_t_readOf a_t_readKind a_t_text a_t_row a_t_nots a_t_isKept a_t_kept : Nat) (x_t_isTrue : Int32) (x_t_caskets : Int32) (x_t_wooers : Int32) (x_t_readTrue : Int32) (x_t_readCaskets : Int32) (x_t_readWooers : Int32) (x_t_readPicture : Int32) (x_t_length : Int32) (x_t_at : Int32) (x_t_faultAt : Int32) (x_t_acts : Int32) (x_t_next : Int32) (x_t_riddleMany : Int32) (x_t_seed : Int64) (r_t_now : Nat → Int32) (r_t_isKept : Nat → Int32) (r_t_kept : Nat → Int32) (p1 : Int32) (sz : Nat) (o_r : Int32) (o_r_t_isKept : Nat → Int32) (o_r_t_kept : Nat → Int32) (hf : f_X6_keep r_t_now r_t_isKept r_t_kept p1 = some (o_r, o_r_t_isKept, o_r_t_kept)) : Met l yX6_keep wsX6_keep ({ frames := 1, cells := 0, slots := 0, locals := 25 }) (Pw E [.ref a_t, .int p1] [(a_t, .inr (6, [.int x_t_isTrue, .int x_t_caskets, .int x_t_wooers, .ref a_t_metal, .ref a_t_kind, .ref a_t_now, .ref a_t_readOf, .ref a_t_readKind, .int x_t_readTrue, .int x_t_readCaskets, .int x_t_readWooers, .int x_t_readPicture, .ref a_t_text, .int x_t_length, .int x_t_at, .int x_t_faultAt, .int x_t_acts, .int x_t_next, .ref a_t_row, .int x_t_riddleMany, .ref a_t_nots, .long x_t_seed, .ref a_t_isKept, .ref a_t_kept])), (a_t_now, .inl (E.2.1, 36, .inl r_t_now)), (a_t_isKept, .inl (E.2.2.1, 2, .inl r_t_isKept)), (a_t_kept, .inl (E.2.1, 36, .inl r_t_kept))] sz) (Qw E (some (.int o_r)) [(a_t, .inr (6, [.int x_t_isTrue, .int x_t_caskets, .int x_t_wooers, .ref a_t_metal, .ref a_t_kind, .ref a_t_now, .ref a_t_readOf, .ref a_t_readKind, .int x_t_readTrue, .int x_t_readCaskets, .int x_t_readWooers, .int x_t_readPicture, .ref a_t_text, .int x_t_length, .int x_t_at, .int x_t_faultAt, .int x_t_acts, .int x_t_next, .ref a_t_row, .int x_t_riddleMany, .ref a_t_nots, .long x_t_seed, .ref a_t_isKept, .ref a_t_kept])), (a_t_now, .inl (E.2.1, 36, .inl r_t_now)), (a_t_isKept, .inl (E.2.2.1, 2, .inl o_r_t_isKept)), (a_t_kept, .inl (E.2.1, 36, .inl o_r_t_kept))] (va_A [(a_t, .inr (6, [.int x_t_isTrue, .int x_t_caskets, .int x_t_wooers, .ref a_t_metal, .ref a_t_kind, .ref a_t_now, .ref a_t_readOf, .ref a_t_readKind, .int x_t_readTrue, .int x_t_readCaskets, .int x_t_readWooers, .int x_t_readPicture, .ref a_t_text, .int x_t_length, .int x_t_at, .int x_t_faultAt, .int x_t_acts, .int x_t_next, .ref a_t_row, .int x_t_riddleMany, .ref a_t_nots, .long x_t_seed, .ref a_t_isKept, .ref a_t_kept])), (a_t_now, .inl (E.2.1, 36, .inl r_t_now)), (a_t_isKept, .inl (E.2.2.1, 2, .inl r_t_isKept)), (a_t_kept, .inl (E.2.1, 36, .inl r_t_kept))] sz)) 0 0 (va_A [(a_t, .inr (6, [.int x_t_isTrue, .int x_t_caskets, .int x_t_wooers, .ref a_t_metal, .ref a_t_kind, .ref a_t_now, .ref a_t_readOf, .ref a_t_readKind, .int x_t_readTrue, .int x_t_readCaskets, .int x_t_readWooers, .int x_t_readPicture, .ref a_t_text, .int x_t_length, .int x_t_at, .int x_t_faultAt, .int x_t_acts, .int x_t_next, .ref a_t_row, .int x_t_riddleMany, .ref a_t_nots, .long x_t_seed, .ref a_t_isKept, .ref a_t_kept])), (a_t_now, .inl (E.2.1, 36, .inl r_t_now)), (a_t_isKept, .inl (E.2.2.1, 2, .inl r_t_isKept)), (a_t_kept, .inl (E.2.1, 36, .inl r_t_kept))] sz) := by
  refine Met.ofW (cc := cX6_keep) (maxL := 3) (ret := (some .int)) (by decide) rfl ?_
  intro p e s m args below meth c s₁ B hml hv
  obtain ⟨rfl, rfl, hw, hP⟩ := Pw.start hv
  have X := Cxt.of B hml
  have hl := lv_entry ([.ref a_t, .int p1]) (n := 3) (Nat.le_of_ble_eq_true rfl)
  rw [lg_entry_eq]
  exact w_X6_keep a_t a_t_metal a_t_kind a_t_now a_t_readOf a_t_readKind a_t_text a_t_row a_t_nots a_t_isKept a_t_kept x_t_isTrue x_t_caskets x_t_wooers x_t_readTrue x_t_readCaskets x_t_readWooers x_t_readPicture x_t_length x_t_at x_t_faultAt x_t_acts x_t_next x_t_riddleMany x_t_seed r_t_now r_t_isKept r_t_kept p1 o_r o_r_t_isKept o_r_t_kept X hw hf hP va_S.rf hl
set_option maxHeartbeats 4000000 in
set_option maxRecDepth 100000 in
theorem w_X6_again_55 {p : Program} {l : Launch} {e : Env} {s : State} {m : MethodId} {args : Array Value} {below : List Frame} {meth : Method} {c : Code} {E : Ev} {A : Nat → Prop} (a_t a_t_metal a_t_kind a_t_now a_t_readOf a_t_readKind a_t_text a_t_row a_t_nots a_t_isKept a_t_kept : Nat) (x_t_isTrue : Int32) (x_t_caskets : Int32) (x_t_wooers : Int32) (x_t_readTrue : Int32) (x_t_readCaskets : Int32) (x_t_readWooers : Int32) (x_t_readPicture : Int32) (x_t_length : Int32) (x_t_at : Int32) (x_t_faultAt : Int32) (x_t_acts : Int32) (x_t_next : Int32) (x_t_riddleMany : Int32) (x_t_seed : Int64) (r_t_now : Nat → Int32) (r_t_isKept : Nat → Int32) (r_t_kept : Nat → Int32) (o_r : Int32) (o_x_t_acts : Int32) (o_r_t_now : Nat → Int32) (X : Cxt p s m args meth c cX6_again 3 wsX6_again RX6 (some .int)) (hw : Cw E A s [(a_t, .inr (6, [.int x_t_isTrue, .int x_t_caskets, .int x_t_wooers, .ref a_t_metal, .ref a_t_kind, .ref a_t_now, .ref a_t_readOf, .ref a_t_readKind, .int x_t_readTrue, .int x_t_readCaskets, .int x_t_readWooers, .int x_t_readPicture, .ref a_t_text, .int x_t_length, .int x_t_at, .int x_t_faultAt, .int x_t_acts, .int x_t_next, .ref a_t_row, .int x_t_riddleMany, .ref a_t_nots, .long x_t_seed, .ref a_t_isKept, .ref a_t_kept])), (a_t_now, .inl (E.2.1, 36, .inl r_t_now)), (a_t_isKept, .inl (E.2.2.1, 2, .inl r_t_isKept)), (a_t_kept, .inl (E.2.1, 36, .inl r_t_kept))]) (h : f_X6_again_55 x_t_acts r_t_now = some (o_r, o_x_t_acts, o_r_t_now)) (H : Heap) (locs : List Loc) (hP : va_P E.1 vwCl [(a_t, .inr (6, [.int x_t_isTrue, .int x_t_caskets, .int x_t_wooers, .ref a_t_metal, .ref a_t_kind, .ref a_t_now, .ref a_t_readOf, .ref a_t_readKind, .int x_t_readTrue, .int x_t_readCaskets, .int x_t_readWooers, .int x_t_readPicture, .ref a_t_text, .int x_t_length, .int x_t_at, .int x_t_faultAt, .int x_t_acts, .int x_t_next, .ref a_t_row, .int x_t_riddleMany, .ref a_t_nots, .long x_t_seed, .ref a_t_isKept, .ref a_t_kept])), (a_t_now, .inl (E.2.1, 36, .inl r_t_now)), (a_t_isKept, .inl (E.2.2.1, 2, .inl r_t_isKept)), (a_t_kept, .inl (E.2.1, 36, .inl r_t_kept))] H) (hS : va_S A s.heap H locs) (ls : Array Slot) (hl : lv_has ls 3 [(0, .ref a_t)]) : W p l e { frames := 1, cells := 0, slots := 0, locals := 25 } s m args below meth c H locs 0 0 (MQ below (Qw E (some (.int o_r)) [(a_t, .inr (6, [.int x_t_isTrue, .int x_t_caskets, .int x_t_wooers, .ref a_t_metal, .ref a_t_kind, .ref a_t_now, .ref a_t_readOf, .ref a_t_readKind, .int x_t_readTrue, .int x_t_readCaskets, .int x_t_readWooers, .int x_t_readPicture, .ref a_t_text, .int x_t_length, .int x_t_at, .int x_t_faultAt, .int o_x_t_acts, .int x_t_next, .ref a_t_row, .int x_t_riddleMany, .ref a_t_nots, .long x_t_seed, .ref a_t_isKept, .ref a_t_kept])), (a_t_now, .inl (E.2.1, 36, .inl o_r_t_now)), (a_t_isKept, .inl (E.2.2.1, 2, .inl r_t_isKept)), (a_t_kept, .inl (E.2.1, 36, .inl r_t_kept))] A) args s 0 0 A) (F0 m 55 ls []) := by
  obtain ⟨⟨hx, hb, hml, hown, hts⟩, hr, hlocks⟩ := id X
  obtain ⟨hC, hAB, hA, hB, hD⟩ := id hw
  have hiX6 : ∀ w ∈ u_ws RX6 TX6 24, w ∈ wsX6_again := by decide +kernel
  have hK := hC.1
  unfold f_X6_again_55 at h
  refine lv_aload_n hx hb dX6_again_55 rfl (lv_at hl 0 rfl) ?_
  refine lv_iconst (v := 0) hx hb dX6_again_56 (by decide) ?_
  refine va_put (D := E.1) (ci := 6) (v := .int 0) (ty := .int) (C := RX6) (T := TX6) (N := 24) hx hb hts hiX6 tyX6 tyX6_ok nmX6 hown hK hP (hD.adr rfl) hS 0 rfl rfl 16 (by decide) (hts (.fieldLink RX6 96 "CasketLinesModel" "acts" "I") (by decide +kernel)) (fun _ h9 => h9) rfl (by decide +kernel) rfl rfl (Nat.le_of_ble_eq_true rfl) dX6_again_57 (fun H locs hP _ hS => ?_)
  have hP : va_P E.1 vwCl [(a_t, .inr (6, [.int x_t_isTrue, .int x_t_caskets, .int x_t_wooers, .ref a_t_metal, .ref a_t_kind, .ref a_t_now, .ref a_t_readOf, .ref a_t_readKind, .int x_t_readTrue, .int x_t_readCaskets, .int x_t_readWooers, .int x_t_readPicture, .ref a_t_text, .int x_t_length, .int x_t_at, .int x_t_faultAt, .int 0, .int x_t_next, .ref a_t_row, .int x_t_riddleMany, .ref a_t_nots, .long x_t_seed, .ref a_t_isKept, .ref a_t_kept])), (a_t_now, .inl (E.2.1, 36, .inl r_t_now)), (a_t_isKept, .inl (E.2.2.1, 2, .inl r_t_isKept)), (a_t_kept, .inl (E.2.1, 36, .inl r_t_kept))] H := hP
  refine lv_aload_n hx hb dX6_again_60 rfl (lv_at hl 0 rfl) ?_
  refine va_get (D := E.1) (ci := 6) (v := .ref a_t_now) (C := RX6) (T := TX6) (N := 24) hx hb hts hiX6 hown hK hP 0 rfl rfl 5 (by decide) (hts (.fieldLink RX6 16 "CasketLinesModel" "now" "[I") (by decide +kernel)) (fun _ h9 => h9) rfl dX6_again_61 ?_
  refine lv_bipush (v := 10) hx hb dX6_again_64 (by decide) ?_
  refine va_iald hx hb hK hP 1 0 rfl rfl (vin rfl) dX6_again_66 ?_
  exact W.iret hx hb hr (fun t ht _ => ⟨by cases h; rfl, by rw [ht]; cases h; exact hP, hS.F ht⟩) hS.2.2 dX6_again_67
set_option maxHeartbeats 4000000 in
set_option maxRecDepth 100000 in
theorem w_X6_again_26_b {p : Program} {l : Launch} {e : Env} {s : State} {m : MethodId} {args : Array Value} {below : List Frame} {meth : Method} {c : Code} {E : Ev} {A : Nat → Prop} (a_t a_t_metal a_t_kind a_t_now a_t_readOf a_t_readKind a_t_text a_t_row a_t_nots a_t_isKept a_t_kept : Nat) (x_t_isTrue : Int32) (x_t_caskets : Int32) (x_t_wooers : Int32) (x_t_readTrue : Int32) (x_t_readCaskets : Int32) (x_t_readWooers : Int32) (x_t_readPicture : Int32) (x_t_length : Int32) (x_t_at : Int32) (x_t_faultAt : Int32) (x_t_acts : Int32) (x_t_next : Int32) (x_t_riddleMany : Int32) (x_t_seed : Int64) (r_t_now : Nat → Int32) (r_t_isKept : Nat → Int32) (r_t_kept : Nat → Int32) (v1 : Int32) (o_r : Int32) (o_x_t_acts : Int32) (o_r_t_now : Nat → Int32) (X : Cxt p s m args meth c cX6_again 3 wsX6_again RX6 (some .int)) (hw : Cw E A s [(a_t, .inr (6, [.int x_t_isTrue, .int x_t_caskets, .int x_t_wooers, .ref a_t_metal, .ref a_t_kind, .ref a_t_now, .ref a_t_readOf, .ref a_t_readKind, .int x_t_readTrue, .int x_t_readCaskets, .int x_t_readWooers, .int x_t_readPicture, .ref a_t_text, .int x_t_length, .int x_t_at, .int x_t_faultAt, .int x_t_acts, .int x_t_next, .ref a_t_row, .int x_t_riddleMany, .ref a_t_nots, .long x_t_seed, .ref a_t_isKept, .ref a_t_kept])), (a_t_now, .inl (E.2.1, 36, .inl r_t_now)), (a_t_isKept, .inl (E.2.2.1, 2, .inl r_t_isKept)), (a_t_kept, .inl (E.2.1, 36, .inl r_t_kept))]) (k26 : (Nat → Int32) × Int32 → Option (Int32 × Int32 × (Nat → Int32))) (hk26 : ∀ (r_t_now : Nat → Int32) (v2 : Int32), k26 (r_t_now, v2) = some (o_r, o_x_t_acts, o_r_t_now) → ∀ (H : Heap) (locs : List Loc), va_P E.1 vwCl [(a_t, .inr (6, [.int x_t_isTrue, .int x_t_caskets, .int x_t_wooers, .ref a_t_metal, .ref a_t_kind, .ref a_t_now, .ref a_t_readOf, .ref a_t_readKind, .int x_t_readTrue, .int x_t_readCaskets, .int x_t_readWooers, .int x_t_readPicture, .ref a_t_text, .int x_t_length, .int x_t_at, .int x_t_faultAt, .int x_t_acts, .int x_t_next, .ref a_t_row, .int x_t_riddleMany, .ref a_t_nots, .long x_t_seed, .ref a_t_isKept, .ref a_t_kept])), (a_t_now, .inl (E.2.1, 36, .inl r_t_now)), (a_t_isKept, .inl (E.2.2.1, 2, .inl r_t_isKept)), (a_t_kept, .inl (E.2.1, 36, .inl r_t_kept))] H → va_S A s.heap H locs → ∀ (ls : Array Slot), lv_has ls 3 [(0, .ref a_t), (1, .int v1), (2, .int v2)] → W p l e { frames := 1, cells := 0, slots := 0, locals := 25 } s m args below meth c H locs 0 0 (MQ below (Qw E (some (.int o_r)) [(a_t, .inr (6, [.int x_t_isTrue, .int x_t_caskets, .int x_t_wooers, .ref a_t_metal, .ref a_t_kind, .ref a_t_now, .ref a_t_readOf, .ref a_t_readKind, .int x_t_readTrue, .int x_t_readCaskets, .int x_t_readWooers, .int x_t_readPicture, .ref a_t_text, .int x_t_length, .int x_t_at, .int x_t_faultAt, .int o_x_t_acts, .int x_t_next, .ref a_t_row, .int x_t_riddleMany, .ref a_t_nots, .long x_t_seed, .ref a_t_isKept, .ref a_t_kept])), (a_t_now, .inl (E.2.1, 36, .inl o_r_t_now)), (a_t_isKept, .inl (E.2.2.1, 2, .inl r_t_isKept)), (a_t_kept, .inl (E.2.1, 36, .inl r_t_kept))] A) args s 0 0 A) (F0 m 26 ls [])) (v2 : Int32) (h : f_X6_again_26_b x_t_acts r_t_kept v1 k26 r_t_now v2 = some (o_r, o_x_t_acts, o_r_t_now)) {H : Heap} {locs : List Loc} (hP : va_P E.1 vwCl [(a_t, .inr (6, [.int x_t_isTrue, .int x_t_caskets, .int x_t_wooers, .ref a_t_metal, .ref a_t_kind, .ref a_t_now, .ref a_t_readOf, .ref a_t_readKind, .int x_t_readTrue, .int x_t_readCaskets, .int x_t_readWooers, .int x_t_readPicture, .ref a_t_text, .int x_t_length, .int x_t_at, .int x_t_faultAt, .int x_t_acts, .int x_t_next, .ref a_t_row, .int x_t_riddleMany, .ref a_t_nots, .long x_t_seed, .ref a_t_isKept, .ref a_t_kept])), (a_t_now, .inl (E.2.1, 36, .inl r_t_now)), (a_t_isKept, .inl (E.2.2.1, 2, .inl r_t_isKept)), (a_t_kept, .inl (E.2.1, 36, .inl r_t_kept))] H) (hS : va_S A s.heap H locs) {ls : Array Slot} (hl : lv_has ls 3 [(0, .ref a_t), (1, .int v1), (2, .int v2)]) : W p l e { frames := 1, cells := 0, slots := 0, locals := 25 } s m args below meth c H locs 0 0 (MQ below (Qw E (some (.int o_r)) [(a_t, .inr (6, [.int x_t_isTrue, .int x_t_caskets, .int x_t_wooers, .ref a_t_metal, .ref a_t_kind, .ref a_t_now, .ref a_t_readOf, .ref a_t_readKind, .int x_t_readTrue, .int x_t_readCaskets, .int x_t_readWooers, .int x_t_readPicture, .ref a_t_text, .int x_t_length, .int x_t_at, .int x_t_faultAt, .int o_x_t_acts, .int x_t_next, .ref a_t_row, .int x_t_riddleMany, .ref a_t_nots, .long x_t_seed, .ref a_t_isKept, .ref a_t_kept])), (a_t_now, .inl (E.2.1, 36, .inl o_r_t_now)), (a_t_isKept, .inl (E.2.2.1, 2, .inl r_t_isKept)), (a_t_kept, .inl (E.2.1, 36, .inl r_t_kept))] A) args s 0 0 A) (F0 m 26 ls []) := by
  obtain ⟨⟨hx, hb, hml, hown, hts⟩, hr, hlocks⟩ := id X
  obtain ⟨hC, hAB, hA, hB, hD⟩ := id hw
  have hiX6 : ∀ w ∈ u_ws RX6 TX6 24, w ∈ wsX6_again := by decide +kernel
  have hK := hC.1
  unfold f_X6_again_26_b at h
  refine lv_iload_n hx hb dX6_again_26 rfl (lv_at hl 2 rfl) ?_
  refine lv_bipush (v := 18) hx hb dX6_again_27 (by decide) ?_
  refine lv_icmp_ge (tgt := 55) hx hb dX6_again_29 (by decide) (fun c1 => ?_) (fun c1 => ?_)
  · have h := ifp c1 h
    exact w_X6_again_55 a_t a_t_metal a_t_kind a_t_now a_t_readOf a_t_readKind a_t_text a_t_row a_t_nots a_t_isKept a_t_kept x_t_isTrue x_t_caskets x_t_wooers x_t_readTrue x_t_readCaskets x_t_readWooers x_t_readPicture x_t_length x_t_at x_t_faultAt x_t_acts x_t_next x_t_riddleMany x_t_seed r_t_now r_t_isKept r_t_kept   o_r o_x_t_acts o_r_t_now X (hw.adr rfl)  h H locs hP hS ls (lv_sub hl [0] rfl)
  · have h := ifn c1 h
    refine lv_aload_n hx hb dX6_again_32 rfl (lv_at hl 0 rfl) ?_
    refine va_get (D := E.1) (ci := 6) (v := .ref a_t_now) (C := RX6) (T := TX6) (N := 24) hx hb hts hiX6 hown hK hP 0 rfl rfl 5 (by decide) (hts (.fieldLink RX6 16 "CasketLinesModel" "now" "[I") (by decide +kernel)) (fun _ h9 => h9) rfl dX6_again_33 ?_
    refine lv_iload_n hx hb dX6_again_36 rfl (lv_at hl 2 rfl) ?_
    refine lv_aload_n hx hb dX6_again_37 rfl (lv_at hl 0 rfl) ?_
    refine va_get (D := E.1) (ci := 6) (v := .ref a_t_kept) (C := RX6) (T := TX6) (N := 24) hx hb hts hiX6 hown hK hP 0 rfl rfl 23 (by decide) (hts (.fieldLink RX6 38 "CasketLinesModel" "kept" "[I") (by decide +kernel)) (fun _ h9 => h9) rfl dX6_again_38 ?_
    refine lv_bipush (v := 18) hx hb dX6_again_41 (by decide) ?_
    refine lv_iload_n hx hb dX6_again_43 rfl (lv_at hl 1 rfl) ?_
    refine lv_imul hx hb dX6_again_44 ?_
    refine lv_iload_n hx hb dX6_again_45 rfl (lv_at hl 2 rfl) ?_
    refine lv_iadd hx hb dX6_again_46 ?_
    obtain ⟨b2, h⟩ := gdn h
    refine va_iald hx hb hK hP 3 0 rfl rfl b2 dX6_again_47 ?_
    obtain ⟨b3, h⟩ := gdn h
    refine va_iast hx hb hK hP (hD.adr rfl) hS 1 0 rfl rfl b3 dX6_again_48 (fun H locs hP _ hS => ?_)
    have hP : va_P E.1 vwCl [(a_t, .inr (6, [.int x_t_isTrue, .int x_t_caskets, .int x_t_wooers, .ref a_t_metal, .ref a_t_kind, .ref a_t_now, .ref a_t_readOf, .ref a_t_readKind, .int x_t_readTrue, .int x_t_readCaskets, .int x_t_readWooers, .int x_t_readPicture, .ref a_t_text, .int x_t_length, .int x_t_at, .int x_t_faultAt, .int x_t_acts, .int x_t_next, .ref a_t_row, .int x_t_riddleMany, .ref a_t_nots, .long x_t_seed, .ref a_t_isKept, .ref a_t_kept])), (a_t_now, .inl (E.2.1, 36, .inl (upd r_t_now (Int32.toNatClampNeg v2) (r_t_kept (Int32.toNatClampNeg ((18 * v1) + v2)))))), (a_t_isKept, .inl (E.2.2.1, 2, .inl r_t_isKept)), (a_t_kept, .inl (E.2.1, 36, .inl r_t_kept))] H := hP
    refine lv_iinc (v := (v2 + 1)) (lv' := [(2, .int (v2 + 1)), (0, .ref a_t), (1, .int v1)]) hx hb dX6_again_49 hl (k := 2) rfl rfl (by decide) rfl (fun ls hl => ?_)
    refine lv_goto (tgt := 26) hx hb dX6_again_52 (by decide) ?_
    exact hk26 (upd r_t_now (Int32.toNatClampNeg v2) (r_t_kept (Int32.toNatClampNeg ((18 * v1) + v2)))) (v2 + 1) h H locs hP hS ls (lv_sub hl [1, 2, 0] rfl)
set_option maxHeartbeats 4000000 in
set_option maxRecDepth 100000 in
theorem w_X6_again_26 {p : Program} {l : Launch} {e : Env} {s : State} {m : MethodId} {args : Array Value} {below : List Frame} {meth : Method} {c : Code} {E : Ev} {A : Nat → Prop} (a_t a_t_metal a_t_kind a_t_now a_t_readOf a_t_readKind a_t_text a_t_row a_t_nots a_t_isKept a_t_kept : Nat) (x_t_isTrue : Int32) (x_t_caskets : Int32) (x_t_wooers : Int32) (x_t_readTrue : Int32) (x_t_readCaskets : Int32) (x_t_readWooers : Int32) (x_t_readPicture : Int32) (x_t_length : Int32) (x_t_at : Int32) (x_t_faultAt : Int32) (x_t_acts : Int32) (x_t_next : Int32) (x_t_riddleMany : Int32) (x_t_seed : Int64) (r_t_now : Nat → Int32) (r_t_isKept : Nat → Int32) (r_t_kept : Nat → Int32) (v1 : Int32) (o_r : Int32) (o_x_t_acts : Int32) (o_r_t_now : Nat → Int32) (X : Cxt p s m args meth c cX6_again 3 wsX6_again RX6 (some .int)) (hw : Cw E A s [(a_t, .inr (6, [.int x_t_isTrue, .int x_t_caskets, .int x_t_wooers, .ref a_t_metal, .ref a_t_kind, .ref a_t_now, .ref a_t_readOf, .ref a_t_readKind, .int x_t_readTrue, .int x_t_readCaskets, .int x_t_readWooers, .int x_t_readPicture, .ref a_t_text, .int x_t_length, .int x_t_at, .int x_t_faultAt, .int x_t_acts, .int x_t_next, .ref a_t_row, .int x_t_riddleMany, .ref a_t_nots, .long x_t_seed, .ref a_t_isKept, .ref a_t_kept])), (a_t_now, .inl (E.2.1, 36, .inl r_t_now)), (a_t_isKept, .inl (E.2.2.1, 2, .inl r_t_isKept)), (a_t_kept, .inl (E.2.1, 36, .inl r_t_kept))]) : ∀ (n : Nat) (r_t_now : Nat → Int32) (v2 : Int32), f_X6_again_26 x_t_acts r_t_kept v1 n r_t_now v2 = some (o_r, o_x_t_acts, o_r_t_now) → ∀ (H : Heap) (locs : List Loc), va_P E.1 vwCl [(a_t, .inr (6, [.int x_t_isTrue, .int x_t_caskets, .int x_t_wooers, .ref a_t_metal, .ref a_t_kind, .ref a_t_now, .ref a_t_readOf, .ref a_t_readKind, .int x_t_readTrue, .int x_t_readCaskets, .int x_t_readWooers, .int x_t_readPicture, .ref a_t_text, .int x_t_length, .int x_t_at, .int x_t_faultAt, .int x_t_acts, .int x_t_next, .ref a_t_row, .int x_t_riddleMany, .ref a_t_nots, .long x_t_seed, .ref a_t_isKept, .ref a_t_kept])), (a_t_now, .inl (E.2.1, 36, .inl r_t_now)), (a_t_isKept, .inl (E.2.2.1, 2, .inl r_t_isKept)), (a_t_kept, .inl (E.2.1, 36, .inl r_t_kept))] H → va_S A s.heap H locs → ∀ (ls : Array Slot), lv_has ls 3 [(0, .ref a_t), (1, .int v1), (2, .int v2)] → W p l e { frames := 1, cells := 0, slots := 0, locals := 25 } s m args below meth c H locs 0 0 (MQ below (Qw E (some (.int o_r)) [(a_t, .inr (6, [.int x_t_isTrue, .int x_t_caskets, .int x_t_wooers, .ref a_t_metal, .ref a_t_kind, .ref a_t_now, .ref a_t_readOf, .ref a_t_readKind, .int x_t_readTrue, .int x_t_readCaskets, .int x_t_readWooers, .int x_t_readPicture, .ref a_t_text, .int x_t_length, .int x_t_at, .int x_t_faultAt, .int o_x_t_acts, .int x_t_next, .ref a_t_row, .int x_t_riddleMany, .ref a_t_nots, .long x_t_seed, .ref a_t_isKept, .ref a_t_kept])), (a_t_now, .inl (E.2.1, 36, .inl o_r_t_now)), (a_t_isKept, .inl (E.2.2.1, 2, .inl r_t_isKept)), (a_t_kept, .inl (E.2.1, 36, .inl r_t_kept))] A) args s 0 0 A) (F0 m 26 ls []) := by
  intro n
  induction n with
  | zero =>
    intro r_t_now v2 h
    exact (rk_z _ _ h).elim
  | succ n ih =>
    intro r_t_now v2 h H locs hP hS ls hl
    exact w_X6_again_26_b a_t a_t_metal a_t_kind a_t_now a_t_readOf a_t_readKind a_t_text a_t_row a_t_nots a_t_isKept a_t_kept x_t_isTrue x_t_caskets x_t_wooers x_t_readTrue x_t_readCaskets x_t_readWooers x_t_readPicture x_t_length x_t_at x_t_faultAt x_t_acts x_t_next x_t_riddleMany x_t_seed r_t_now r_t_isKept r_t_kept v1  o_r o_x_t_acts o_r_t_now X (hw.adr rfl)  (rk (fun k x => f_X6_again_26_b x_t_acts r_t_kept v1  k (x.1) (x.2)) n) (fun r_t_now v2 hh => ih r_t_now v2 hh) v2 h hP hS hl
set_option maxHeartbeats 4000000 in
set_option maxRecDepth 100000 in
theorem w_X6_again {p : Program} {l : Launch} {e : Env} {s : State} {m : MethodId} {args : Array Value} {below : List Frame} {meth : Method} {c : Code} {E : Ev} {A : Nat → Prop} (a_t a_t_metal a_t_kind a_t_now a_t_readOf a_t_readKind a_t_text a_t_row a_t_nots a_t_isKept a_t_kept : Nat) (x_t_isTrue : Int32) (x_t_caskets : Int32) (x_t_wooers : Int32) (x_t_readTrue : Int32) (x_t_readCaskets : Int32) (x_t_readWooers : Int32) (x_t_readPicture : Int32) (x_t_length : Int32) (x_t_at : Int32) (x_t_faultAt : Int32) (x_t_acts : Int32) (x_t_next : Int32) (x_t_riddleMany : Int32) (x_t_seed : Int64) (r_t_now : Nat → Int32) (r_t_isKept : Nat → Int32) (r_t_kept : Nat → Int32) (p1 : Int32) (o_r : Int32) (o_x_t_acts : Int32) (o_r_t_now : Nat → Int32) (X : Cxt p s m args meth c cX6_again 3 wsX6_again RX6 (some .int)) (hw : Cw E A s [(a_t, .inr (6, [.int x_t_isTrue, .int x_t_caskets, .int x_t_wooers, .ref a_t_metal, .ref a_t_kind, .ref a_t_now, .ref a_t_readOf, .ref a_t_readKind, .int x_t_readTrue, .int x_t_readCaskets, .int x_t_readWooers, .int x_t_readPicture, .ref a_t_text, .int x_t_length, .int x_t_at, .int x_t_faultAt, .int x_t_acts, .int x_t_next, .ref a_t_row, .int x_t_riddleMany, .ref a_t_nots, .long x_t_seed, .ref a_t_isKept, .ref a_t_kept])), (a_t_now, .inl (E.2.1, 36, .inl r_t_now)), (a_t_isKept, .inl (E.2.2.1, 2, .inl r_t_isKept)), (a_t_kept, .inl (E.2.1, 36, .inl r_t_kept))]) (h : f_X6_again x_t_acts r_t_now r_t_isKept r_t_kept p1 = some (o_r, o_x_t_acts, o_r_t_now)) {H : Heap} {locs : List Loc} (hP : va_P E.1 vwCl [(a_t, .inr (6, [.int x_t_isTrue, .int x_t_caskets, .int x_t_wooers, .ref a_t_metal, .ref a_t_kind, .ref a_t_now, .ref a_t_readOf, .ref a_t_readKind, .int x_t_readTrue, .int x_t_readCaskets, .int x_t_readWooers, .int x_t_readPicture, .ref a_t_text, .int x_t_length, .int x_t_at, .int x_t_faultAt, .int x_t_acts, .int x_t_next, .ref a_t_row, .int x_t_riddleMany, .ref a_t_nots, .long x_t_seed, .ref a_t_isKept, .ref a_t_kept])), (a_t_now, .inl (E.2.1, 36, .inl r_t_now)), (a_t_isKept, .inl (E.2.2.1, 2, .inl r_t_isKept)), (a_t_kept, .inl (E.2.1, 36, .inl r_t_kept))] H) (hS : va_S A s.heap H locs) {ls : Array Slot} (hl : lv_has ls 3 [(0, .ref a_t), (1, .int p1)]) : W p l e { frames := 1, cells := 0, slots := 0, locals := 25 } s m args below meth c H locs 0 0 (MQ below (Qw E (some (.int o_r)) [(a_t, .inr (6, [.int x_t_isTrue, .int x_t_caskets, .int x_t_wooers, .ref a_t_metal, .ref a_t_kind, .ref a_t_now, .ref a_t_readOf, .ref a_t_readKind, .int x_t_readTrue, .int x_t_readCaskets, .int x_t_readWooers, .int x_t_readPicture, .ref a_t_text, .int x_t_length, .int x_t_at, .int x_t_faultAt, .int o_x_t_acts, .int x_t_next, .ref a_t_row, .int x_t_riddleMany, .ref a_t_nots, .long x_t_seed, .ref a_t_isKept, .ref a_t_kept])), (a_t_now, .inl (E.2.1, 36, .inl o_r_t_now)), (a_t_isKept, .inl (E.2.2.1, 2, .inl r_t_isKept)), (a_t_kept, .inl (E.2.1, 36, .inl r_t_kept))] A) args s 0 0 A) (F0 m 0 ls []) := by
  obtain ⟨⟨hx, hb, hml, hown, hts⟩, hr, hlocks⟩ := id X
  obtain ⟨hC, hAB, hA, hB, hD⟩ := id hw
  have hiX6 : ∀ w ∈ u_ws RX6 TX6 24, w ∈ wsX6_again := by decide +kernel
  have hK := hC.1
  unfold f_X6_again at h
  refine lv_iload_n hx hb dX6_again_0 rfl (lv_at hl 1 rfl) ?_
  refine lv_i2l hx hb dX6_again_1 rfl ?_
  refine lv_lconst (v := 0) hx hb dX6_again_2 (by decide) ?_
  refine lv_lconst (v := 1) hx hb dX6_again_3 (by decide) ?_
  obtain ⟨r4, g5, h⟩ := bnd h
  refine rcS (As := [.long (Int32.toInt64 p1), .long 0, .long 1]) (rest := []) ⟨hx, hb, hml, hown, hts⟩ (k_X6_in (l := l) (E := E) (Int32.toInt64 p1) 0 1 r4 g5) (va_cwS 3 hts gX6_again_X6_in rfl rfl rfl (by decide +kernel) ⟨Nat.le_of_ble_eq_true rfl, Nat.le_of_ble_eq_true rfl⟩) (hC.here hS hAB) hP [] rfl rfl hl.1 rfl (Nat.le_of_ble_eq_true rfl) dX6_again_4 ⟨Nat.zero_le _, Nat.zero_le _⟩ ?_
  refine lv_if_ne (tgt := 12) hx hb dX6_again_7 (by decide) (fun c6 => ?_) (fun c6 => ?_)
  · have h := ifn c6 h
    refine lv_aload_n hx hb dX6_again_12 rfl (lv_at hl 0 rfl) ?_
    refine va_get (D := E.1) (ci := 6) (v := .ref a_t_isKept) (C := RX6) (T := TX6) (N := 24) hx hb hts hiX6 hown hK hP 0 rfl rfl 22 (by decide) (hts (.fieldLink RX6 34 "CasketLinesModel" "isKept" "[Z") (by decide +kernel)) (fun _ h9 => h9) rfl dX6_again_13 ?_
    refine lv_iload_n hx hb dX6_again_16 rfl (lv_at hl 1 rfl) ?_
    obtain ⟨b7, h⟩ := gdn h
    refine va_zald hx hb hK hP 2 1 rfl rfl b7 dX6_again_17 ?_
    refine lv_if_ne (tgt := 24) hx hb dX6_again_18 (by decide) (fun c8 => ?_) (fun c8 => ?_)
    · have h := ifn c8 h
      refine lv_iconst (v := 0) hx hb dX6_again_24 (by decide) ?_
      refine lv_istore_n (lv' := [(2, .int 0), (0, .ref a_t), (1, .int p1)]) hx hb dX6_again_25 rfl hl (by decide) rfl (fun ls hl => ?_)
      exact w_X6_again_26 a_t a_t_metal a_t_kind a_t_now a_t_readOf a_t_readKind a_t_text a_t_row a_t_nots a_t_isKept a_t_kept x_t_isTrue x_t_caskets x_t_wooers x_t_readTrue x_t_readCaskets x_t_readWooers x_t_readPicture x_t_length x_t_at x_t_faultAt x_t_acts x_t_next x_t_riddleMany x_t_seed r_t_now r_t_isKept r_t_kept p1  o_r o_x_t_acts o_r_t_now X (hw.adr rfl)  200 r_t_now 0 h H locs hP hS ls (lv_sub hl [1, 2, 0] rfl)
    · have h := ifp c8 h
      refine lv_bipush (v := (-3)) hx hb dX6_again_21 (by decide) ?_
      exact W.iret hx hb hr (fun t ht _ => ⟨by cases h; rfl, by rw [ht]; cases h; exact hP, hS.F ht⟩) hS.2.2 dX6_again_23
  · have h := ifp c6 h
    refine lv_iconst (v := (-1)) hx hb dX6_again_10 (by decide) ?_
    exact W.iret hx hb hr (fun t ht _ => ⟨by cases h; rfl, by rw [ht]; cases h; exact hP, hS.F ht⟩) hS.2.2 dX6_again_11
set_option maxHeartbeats 4000000 in
set_option maxRecDepth 100000 in
theorem k_X6_again {l : Launch} {E : Ev} (a_t a_t_metal a_t_kind a_t_now a_t_readOf a_t_readKind a_t_text a_t_row a_t_nots a_t_isKept a_t_kept : Nat) (x_t_isTrue : Int32) (x_t_caskets : Int32) (x_t_wooers : Int32) (x_t_readTrue : Int32) (x_t_readCaskets : Int32) (x_t_readWooers : Int32) (x_t_readPicture : Int32) (x_t_length : Int32) (x_t_at : Int32) (x_t_faultAt : Int32) (x_t_acts : Int32) (x_t_next : Int32) (x_t_riddleMany : Int32) (x_t_seed : Int64) (r_t_now : Nat → Int32) (r_t_isKept : Nat → Int32) (r_t_kept : Nat → Int32) (p1 : Int32) (sz : Nat) (o_r : Int32) (o_x_t_acts : Int32) (o_r_t_now : Nat → Int32) (hf : f_X6_again x_t_acts r_t_now r_t_isKept r_t_kept p1 = some (o_r, o_x_t_acts, o_r_t_now)) : Met l yX6_again wsX6_again ({ frames := 1, cells := 0, slots := 0, locals := 25 }) (Pw E [.ref a_t, .int p1] [(a_t, .inr (6, [.int x_t_isTrue, .int x_t_caskets, .int x_t_wooers, .ref a_t_metal, .ref a_t_kind, .ref a_t_now, .ref a_t_readOf, .ref a_t_readKind, .int x_t_readTrue, .int x_t_readCaskets, .int x_t_readWooers, .int x_t_readPicture, .ref a_t_text, .int x_t_length, .int x_t_at, .int x_t_faultAt, .int x_t_acts, .int x_t_next, .ref a_t_row, .int x_t_riddleMany, .ref a_t_nots, .long x_t_seed, .ref a_t_isKept, .ref a_t_kept])), (a_t_now, .inl (E.2.1, 36, .inl r_t_now)), (a_t_isKept, .inl (E.2.2.1, 2, .inl r_t_isKept)), (a_t_kept, .inl (E.2.1, 36, .inl r_t_kept))] sz) (Qw E (some (.int o_r)) [(a_t, .inr (6, [.int x_t_isTrue, .int x_t_caskets, .int x_t_wooers, .ref a_t_metal, .ref a_t_kind, .ref a_t_now, .ref a_t_readOf, .ref a_t_readKind, .int x_t_readTrue, .int x_t_readCaskets, .int x_t_readWooers, .int x_t_readPicture, .ref a_t_text, .int x_t_length, .int x_t_at, .int x_t_faultAt, .int o_x_t_acts, .int x_t_next, .ref a_t_row, .int x_t_riddleMany, .ref a_t_nots, .long x_t_seed, .ref a_t_isKept, .ref a_t_kept])), (a_t_now, .inl (E.2.1, 36, .inl o_r_t_now)), (a_t_isKept, .inl (E.2.2.1, 2, .inl r_t_isKept)), (a_t_kept, .inl (E.2.1, 36, .inl r_t_kept))] (va_A [(a_t, .inr (6, [.int x_t_isTrue, .int x_t_caskets, .int x_t_wooers, .ref a_t_metal, .ref a_t_kind, .ref a_t_now, .ref a_t_readOf, .ref a_t_readKind, .int x_t_readTrue, .int x_t_readCaskets, .int x_t_readWooers, .int x_t_readPicture, .ref a_t_text, .int x_t_length, .int x_t_at, .int x_t_faultAt, .int x_t_acts, .int x_t_next, .ref a_t_row, .int x_t_riddleMany, .ref a_t_nots, .long x_t_seed, .ref a_t_isKept, .ref a_t_kept])), (a_t_now, .inl (E.2.1, 36, .inl r_t_now)), (a_t_isKept, .inl (E.2.2.1, 2, .inl r_t_isKept)), (a_t_kept, .inl (E.2.1, 36, .inl r_t_kept))] sz)) 0 0 (va_A [(a_t, .inr (6, [.int x_t_isTrue, .int x_t_caskets, .int x_t_wooers, .ref a_t_metal, .ref a_t_kind, .ref a_t_now, .ref a_t_readOf, .ref a_t_readKind, .int x_t_readTrue, .int x_t_readCaskets, .int x_t_readWooers, .int x_t_readPicture, .ref a_t_text, .int x_t_length, .int x_t_at, .int x_t_faultAt, .int x_t_acts, .int x_t_next, .ref a_t_row, .int x_t_riddleMany, .ref a_t_nots, .long x_t_seed, .ref a_t_isKept, .ref a_t_kept])), (a_t_now, .inl (E.2.1, 36, .inl r_t_now)), (a_t_isKept, .inl (E.2.2.1, 2, .inl r_t_isKept)), (a_t_kept, .inl (E.2.1, 36, .inl r_t_kept))] sz) := by
  refine Met.ofW (cc := cX6_again) (maxL := 3) (ret := (some .int)) (by decide) rfl ?_
  intro p e s m args below meth c s₁ B hml hv
  obtain ⟨rfl, rfl, hw, hP⟩ := Pw.start hv
  have X := Cxt.of B hml
  have hl := lv_entry ([.ref a_t, .int p1]) (n := 3) (Nat.le_of_ble_eq_true rfl)
  rw [lg_entry_eq]
  exact w_X6_again a_t a_t_metal a_t_kind a_t_now a_t_readOf a_t_readKind a_t_text a_t_row a_t_nots a_t_isKept a_t_kept x_t_isTrue x_t_caskets x_t_wooers x_t_readTrue x_t_readCaskets x_t_readWooers x_t_readPicture x_t_length x_t_at x_t_faultAt x_t_acts x_t_next x_t_riddleMany x_t_seed r_t_now r_t_isKept r_t_kept p1 o_r o_x_t_acts o_r_t_now X hw hf hP va_S.rf hl
set_option maxHeartbeats 4000000 in
set_option maxRecDepth 100000 in
theorem w_X6_count_31 {p : Program} {l : Launch} {e : Env} {s : State} {m : MethodId} {args : Array Value} {below : List Frame} {meth : Method} {c : Code} {E : Ev} (a_t a_t_metal a_t_kind a_t_now a_t_readOf a_t_readKind a_t_text a_t_row a_t_nots a_t_isKept a_t_kept : Nat) (x_t_isTrue : Int32) (x_t_caskets : Int32) (x_t_wooers : Int32) (x_t_readTrue : Int32) (x_t_readCaskets : Int32) (x_t_readWooers : Int32) (x_t_readPicture : Int32) (x_t_length : Int32) (x_t_at : Int32) (x_t_faultAt : Int32) (x_t_acts : Int32) (x_t_next : Int32) (x_t_riddleMany : Int32) (x_t_seed : Int64) (r_t_now : Nat → Int32) (v1 : Int32) (v2 : Int32) (o_r : Int32) (X : Cxt p s m args meth c cX6_count 4 wsX6_count RX6 (some .int)) (hw : wd E [(a_t, .inr (6, [.int x_t_isTrue, .int x_t_caskets, .int x_t_wooers, .ref a_t_metal, .ref a_t_kind, .ref a_t_now, .ref a_t_readOf, .ref a_t_readKind, .int x_t_readTrue, .int x_t_readCaskets, .int x_t_readWooers, .int x_t_readPicture, .ref a_t_text, .int x_t_length, .int x_t_at, .int x_t_faultAt, .int x_t_acts, .int x_t_next, .ref a_t_row, .int x_t_riddleMany, .ref a_t_nots, .long x_t_seed, .ref a_t_isKept, .ref a_t_kept])), (a_t_now, .inl (E.2.1, 36, .inl r_t_now))] s s.heap) (h : f_X6_count_31 x_t_isTrue x_t_caskets x_t_wooers x_t_length x_t_acts r_t_now v1 v2 = some o_r) (ls : Array Slot) (hl : lv_has ls 4 [(0, .ref a_t), (1, .int v1), (2, .int v2)]) : W p l e { frames := 6, cells := 0, slots := 0, locals := 146 } s m args below meth c s.heap [] 0 0 (MQ below (Qr (some (.int o_r))) args s 0 0 (fun _ => False)) (F0 m 31 ls []) := by
  obtain ⟨⟨hx, hb, hml, hown, hts⟩, hr, hlocks⟩ := id X
  obtain ⟨hC, hP⟩ := id hw
  have hiX6 : ∀ w ∈ u_ws RX6 TX6 24, w ∈ wsX6_count := by decide +kernel
  have hK := hC.1
  unfold f_X6_count_31 at h
  refine lv_iload_n hx hb dX6_count_31 rfl (lv_at hl 1 rfl) ?_
  by_cases c6 : v1 = 0
  · have h := ifp c6 h
    refine lv_tableIn (tgt := 88) (off := 56) hx hb dX6_count_32 (by rw [c6]; decide) (by rw [c6]; decide) (by rw [c6]; rfl) (by decide) ?_
    refine lv_aload_n hx hb dX6_count_88 rfl (lv_at hl 0 rfl) ?_
    refine va_get (D := E.1) (ci := 6) (v := .int x_t_length) (C := RX6) (T := TX6) (N := 24) hx hb hts hiX6 hown hK hP 0 rfl rfl 13 (by decide) (hts (.fieldLink RX6 51 "CasketLinesModel" "length" "I") (by decide +kernel)) (fun _ h9 => h9) rfl dX6_count_89 ?_
    exact W.iret hx hb hr (fun t ht _ => ⟨by cases h; rfl, ht⟩) (fun _ hq => absurd hq List.not_mem_nil) dX6_count_92
  · have h := ifn c6 h
    by_cases c7 : v1 = 1
    · have h := ifp c7 h
      refine lv_tableIn (tgt := 93) (off := 61) hx hb dX6_count_32 (by rw [c7]; decide) (by rw [c7]; decide) (by rw [c7]; rfl) (by decide) ?_
      refine lv_aload_n hx hb dX6_count_93 rfl (lv_at hl 0 rfl) ?_
      refine va_get (D := E.1) (ci := 6) (v := .int x_t_caskets) (C := RX6) (T := TX6) (N := 24) hx hb hts hiX6 hown hK hP 0 rfl rfl 1 (by decide) (hts (.fieldLink RX6 90 "CasketLinesModel" "caskets" "I") (by decide +kernel)) (fun _ h9 => h9) rfl dX6_count_94 ?_
      exact W.iret hx hb hr (fun t ht _ => ⟨by cases h; rfl, ht⟩) (fun _ hq => absurd hq List.not_mem_nil) dX6_count_97
    · have h := ifn c7 h
      by_cases c8 : v1 = 2
      · have h := ifp c8 h
        refine lv_tableIn (tgt := 98) (off := 66) hx hb dX6_count_32 (by rw [c8]; decide) (by rw [c8]; decide) (by rw [c8]; rfl) (by decide) ?_
        refine lv_aload_n hx hb dX6_count_98 rfl (lv_at hl 0 rfl) ?_
        refine va_get (D := E.1) (ci := 6) (v := .int x_t_wooers) (C := RX6) (T := TX6) (N := 24) hx hb hts hiX6 hown hK hP 0 rfl rfl 2 (by decide) (hts (.fieldLink RX6 93 "CasketLinesModel" "wooers" "I") (by decide +kernel)) (fun _ h9 => h9) rfl dX6_count_99 ?_
        exact W.iret hx hb hr (fun t ht _ => ⟨by cases h; rfl, ht⟩) (fun _ hq => absurd hq List.not_mem_nil) dX6_count_102
      · have h := ifn c8 h
        by_cases c9 : v1 = 3
        · have h := ifp c9 h
          refine lv_tableIn (tgt := 103) (off := 71) hx hb dX6_count_32 (by rw [c9]; decide) (by rw [c9]; decide) (by rw [c9]; rfl) (by decide) ?_
          refine lv_aload_n hx hb dX6_count_103 rfl (lv_at hl 0 rfl) ?_
          refine va_get (D := E.1) (ci := 6) (v := .int x_t_isTrue) (C := RX6) (T := TX6) (N := 24) hx hb hts hiX6 hown hK hP 0 rfl rfl 0 (by decide) (hts (.fieldLink RX6 41 "CasketLinesModel" "isTrue" "I") (by decide +kernel)) (fun _ h9 => h9) rfl dX6_count_104 ?_
          exact W.iret hx hb hr (fun t ht _ => ⟨by cases h; rfl, ht⟩) (fun _ hq => absurd hq List.not_mem_nil) dX6_count_107
        · have h := ifn c9 h
          by_cases c10 : v1 = 4
          · have h := ifp c10 h
            refine lv_tableIn (tgt := 108) (off := 76) hx hb dX6_count_32 (by rw [c10]; decide) (by rw [c10]; decide) (by rw [c10]; rfl) (by decide) ?_
            refine lv_aload_n hx hb dX6_count_108 rfl (lv_at hl 0 rfl) ?_
            refine va_get (D := E.1) (ci := 6) (v := .ref a_t_now) (C := RX6) (T := TX6) (N := 24) hx hb hts hiX6 hown hK hP 0 rfl rfl 5 (by decide) (hts (.fieldLink RX6 16 "CasketLinesModel" "now" "[I") (by decide +kernel)) (fun _ h9 => h9) rfl dX6_count_109 ?_
            refine lv_bipush (v := 8) hx hb dX6_count_112 (by decide) ?_
            refine va_iald hx hb hK hP 1 0 rfl rfl (vin rfl) dX6_count_114 ?_
            exact W.iret hx hb hr (fun t ht _ => ⟨by cases h; rfl, ht⟩) (fun _ hq => absurd hq List.not_mem_nil) dX6_count_115
          · have h := ifn c10 h
            by_cases c11 : v1 = 5
            · have h := ifp c11 h
              refine lv_tableIn (tgt := 116) (off := 84) hx hb dX6_count_32 (by rw [c11]; decide) (by rw [c11]; decide) (by rw [c11]; rfl) (by decide) ?_
              refine lv_aload_n hx hb dX6_count_116 rfl (lv_at hl 0 rfl) ?_
              refine lv_iconst (v := 0) hx hb dX6_count_117 (by decide) ?_
              refine lv_aload_n hx hb dX6_count_118 rfl (lv_at hl 0 rfl) ?_
              obtain ⟨r16, g17, h⟩ := bnd h
              refine rcV (As := []) (rest := [.int 0, .ref a_t]) ⟨hx, hb, hml, hown, hts⟩ (k_X6_all (l := l) (E := E) a_t a_t_metal a_t_kind a_t_now a_t_readOf a_t_readKind a_t_text a_t_row a_t_nots a_t_isKept a_t_kept x_t_isTrue x_t_caskets x_t_wooers x_t_readTrue x_t_readCaskets x_t_readWooers x_t_readPicture x_t_length x_t_at x_t_faultAt x_t_acts x_t_next x_t_riddleMany x_t_seed r16 g17) (cwV 0 hts gX6_count_X6_all rfl rfl rfl (by decide +kernel) ⟨Nat.le_of_ble_eq_true rfl, Nat.le_of_ble_eq_true rfl⟩) hC hP [0] rfl 0 6 rfl rfl rfl rfl hl.1 rfl (Nat.le_of_ble_eq_true rfl) dX6_count_119 ⟨Nat.zero_le _, Nat.zero_le _⟩ ?_
              obtain ⟨r18, g19, h⟩ := bnd h
              refine rcV (As := [.int 0, .int r16]) (rest := []) ⟨hx, hb, hml, hown, hts⟩ (k_X6_fitsOn (l := l) (E := E) a_t a_t_metal a_t_kind a_t_now a_t_readOf a_t_readKind a_t_text a_t_row a_t_nots a_t_isKept a_t_kept x_t_isTrue x_t_caskets x_t_wooers x_t_readTrue x_t_readCaskets x_t_readWooers x_t_readPicture x_t_length x_t_at x_t_faultAt x_t_acts x_t_next x_t_riddleMany x_t_seed r_t_now 0 r16 r18 g19) (cwV 2 hts gX6_count_X6_fitsOn rfl rfl rfl (by decide +kernel) ⟨Nat.le_of_ble_eq_true rfl, Nat.le_of_ble_eq_true rfl⟩) hC hP [0, 1] rfl 0 6 rfl rfl rfl rfl hl.1 rfl (Nat.le_of_ble_eq_true rfl) dX6_count_122 ⟨Nat.zero_le _, Nat.zero_le _⟩ ?_
              exact W.iret hx hb hr (fun t ht _ => ⟨by cases h; rfl, ht⟩) (fun _ hq => absurd hq List.not_mem_nil) dX6_count_125
            · have h := ifn c11 h
              by_cases c12 : v1 = 6
              · have h := ifp c12 h
                refine lv_tableIn (tgt := 126) (off := 94) hx hb dX6_count_32 (by rw [c12]; decide) (by rw [c12]; decide) (by rw [c12]; rfl) (by decide) ?_
                refine lv_iload_n hx hb dX6_count_126 rfl (lv_at hl 2 rfl) ?_
                exact W.iret hx hb hr (fun t ht _ => ⟨by cases h; rfl, ht⟩) (fun _ hq => absurd hq List.not_mem_nil) dX6_count_127
              · have h := ifn c12 h
                by_cases c13 : v1 = 7
                · have h := ifp c13 h
                  refine lv_tableIn (tgt := 128) (off := 96) hx hb dX6_count_32 (by rw [c13]; decide) (by rw [c13]; decide) (by rw [c13]; rfl) (by decide) ?_
                  refine lv_aload_n hx hb dX6_count_128 rfl (lv_at hl 0 rfl) ?_
                  refine va_get (D := E.1) (ci := 6) (v := .ref a_t_now) (C := RX6) (T := TX6) (N := 24) hx hb hts hiX6 hown hK hP 0 rfl rfl 5 (by decide) (hts (.fieldLink RX6 16 "CasketLinesModel" "now" "[I") (by decide +kernel)) (fun _ h9 => h9) rfl dX6_count_129 ?_
                  refine lv_bipush (v := 10) hx hb dX6_count_132 (by decide) ?_
                  refine va_iald hx hb hK hP 1 0 rfl rfl (vin rfl) dX6_count_134 ?_
                  exact W.iret hx hb hr (fun t ht _ => ⟨by cases h; rfl, ht⟩) (fun _ hq => absurd hq List.not_mem_nil) dX6_count_135
                · have h := ifn c13 h
                  by_cases c14 : v1 = 8
                  · have h := ifp c14 h
                    refine lv_tableIn (tgt := 136) (off := 104) hx hb dX6_count_32 (by rw [c14]; decide) (by rw [c14]; decide) (by rw [c14]; rfl) (by decide) ?_
                    refine lv_aload_n hx hb dX6_count_136 rfl (lv_at hl 0 rfl) ?_
                    refine va_get (D := E.1) (ci := 6) (v := .ref a_t_now) (C := RX6) (T := TX6) (N := 24) hx hb hts hiX6 hown hK hP 0 rfl rfl 5 (by decide) (hts (.fieldLink RX6 16 "CasketLinesModel" "now" "[I") (by decide +kernel)) (fun _ h9 => h9) rfl dX6_count_137 ?_
                    refine lv_bipush (v := 11) hx hb dX6_count_140 (by decide) ?_
                    refine va_iald hx hb hK hP 1 0 rfl rfl (vin rfl) dX6_count_142 ?_
                    exact W.iret hx hb hr (fun t ht _ => ⟨by cases h; rfl, ht⟩) (fun _ hq => absurd hq List.not_mem_nil) dX6_count_143
                  · have h := ifn c14 h
                    by_cases c15 : v1 = 9
                    · have h := ifp c15 h
                      refine lv_tableIn (tgt := 144) (off := 112) hx hb dX6_count_32 (by rw [c15]; decide) (by rw [c15]; decide) (by rw [c15]; rfl) (by decide) ?_
                      refine lv_aload_n hx hb dX6_count_144 rfl (lv_at hl 0 rfl) ?_
                      refine va_get (D := E.1) (ci := 6) (v := .int x_t_acts) (C := RX6) (T := TX6) (N := 24) hx hb hts hiX6 hown hK hP 0 rfl rfl 16 (by decide) (hts (.fieldLink RX6 96 "CasketLinesModel" "acts" "I") (by decide +kernel)) (fun _ h9 => h9) rfl dX6_count_145 ?_
                      exact W.iret hx hb hr (fun t ht _ => ⟨by cases h; rfl, ht⟩) (fun _ hq => absurd hq List.not_mem_nil) dX6_count_148
                    · have h := ifn c15 h
                      refine lv_tableOut (tgt := 149) hx hb dX6_count_32 (by have z0 := tsw_ne (i := 0) (by decide) c6; have z1 := tsw_ne (i := 1) (by decide) c7; have z2 := tsw_ne (i := 2) (by decide) c8; have z3 := tsw_ne (i := 3) (by decide) c9; have z4 := tsw_ne (i := 4) (by decide) c10; have z5 := tsw_ne (i := 5) (by decide) c11; have z6 := tsw_ne (i := 6) (by decide) c12; have z7 := tsw_ne (i := 7) (by decide) c13; have z8 := tsw_ne (i := 8) (by decide) c14; have z9 := tsw_ne (i := 9) (by decide) c15; omega) (by decide) ?_
                      refine lv_bipush (v := (-2)) hx hb dX6_count_149 (by decide) ?_
                      exact W.iret hx hb hr (fun t ht _ => ⟨by cases h; rfl, ht⟩) (fun _ hq => absurd hq List.not_mem_nil) dX6_count_151
set_option maxHeartbeats 4000000 in
set_option maxRecDepth 100000 in
theorem w_X6_count_4_b {p : Program} {l : Launch} {e : Env} {s : State} {m : MethodId} {args : Array Value} {below : List Frame} {meth : Method} {c : Code} {E : Ev} (a_t a_t_metal a_t_kind a_t_now a_t_readOf a_t_readKind a_t_text a_t_row a_t_nots a_t_isKept a_t_kept : Nat) (x_t_isTrue : Int32) (x_t_caskets : Int32) (x_t_wooers : Int32) (x_t_readTrue : Int32) (x_t_readCaskets : Int32) (x_t_readWooers : Int32) (x_t_readPicture : Int32) (x_t_length : Int32) (x_t_at : Int32) (x_t_faultAt : Int32) (x_t_acts : Int32) (x_t_next : Int32) (x_t_riddleMany : Int32) (x_t_seed : Int64) (r_t_now : Nat → Int32) (v1 : Int32) (o_r : Int32) (X : Cxt p s m args meth c cX6_count 4 wsX6_count RX6 (some .int)) (hw : wd E [(a_t, .inr (6, [.int x_t_isTrue, .int x_t_caskets, .int x_t_wooers, .ref a_t_metal, .ref a_t_kind, .ref a_t_now, .ref a_t_readOf, .ref a_t_readKind, .int x_t_readTrue, .int x_t_readCaskets, .int x_t_readWooers, .int x_t_readPicture, .ref a_t_text, .int x_t_length, .int x_t_at, .int x_t_faultAt, .int x_t_acts, .int x_t_next, .ref a_t_row, .int x_t_riddleMany, .ref a_t_nots, .long x_t_seed, .ref a_t_isKept, .ref a_t_kept])), (a_t_now, .inl (E.2.1, 36, .inl r_t_now))] s s.heap) (k4 : Int32 × Int32 → Option (Int32)) (hk4 : ∀ (v2 : Int32) (v3 : Int32), k4 (v2, v3) = some o_r → ∀ (ls : Array Slot), lv_has ls 4 [(0, .ref a_t), (1, .int v1), (2, .int v2), (3, .int v3)] → W p l e { frames := 6, cells := 0, slots := 0, locals := 146 } s m args below meth c s.heap [] 0 0 (MQ below (Qr (some (.int o_r))) args s 0 0 (fun _ => False)) (F0 m 4 ls [])) (v2 : Int32) (v3 : Int32) (h : f_X6_count_4_b x_t_isTrue x_t_caskets x_t_wooers x_t_length x_t_acts r_t_now v1 k4 v2 v3 = some o_r) {ls : Array Slot} (hl : lv_has ls 4 [(0, .ref a_t), (1, .int v1), (2, .int v2), (3, .int v3)]) : W p l e { frames := 6, cells := 0, slots := 0, locals := 146 } s m args below meth c s.heap [] 0 0 (MQ below (Qr (some (.int o_r))) args s 0 0 (fun _ => False)) (F0 m 4 ls []) := by
  obtain ⟨⟨hx, hb, hml, hown, hts⟩, hr, hlocks⟩ := id X
  obtain ⟨hC, hP⟩ := id hw
  have hiX6 : ∀ w ∈ u_ws RX6 TX6 24, w ∈ wsX6_count := by decide +kernel
  have hK := hC.1
  unfold f_X6_count_4_b at h
  refine lv_iload_n hx hb dX6_count_4 rfl (lv_at hl 3 rfl) ?_
  refine lv_aload_n hx hb dX6_count_5 rfl (lv_at hl 0 rfl) ?_
  refine va_get (D := E.1) (ci := 6) (v := .int x_t_caskets) (C := RX6) (T := TX6) (N := 24) hx hb hts hiX6 hown hK hP 0 rfl rfl 1 (by decide) (hts (.fieldLink RX6 90 "CasketLinesModel" "caskets" "I") (by decide +kernel)) (fun _ h9 => h9) rfl dX6_count_6 ?_
  refine lv_icmp_ge (tgt := 31) hx hb dX6_count_9 (by decide) (fun c1 => ?_) (fun c1 => ?_)
  · have h := ifp c1 h
    exact w_X6_count_31 a_t a_t_metal a_t_kind a_t_now a_t_readOf a_t_readKind a_t_text a_t_row a_t_nots a_t_isKept a_t_kept x_t_isTrue x_t_caskets x_t_wooers x_t_readTrue x_t_readCaskets x_t_readWooers x_t_readPicture x_t_length x_t_at x_t_faultAt x_t_acts x_t_next x_t_riddleMany x_t_seed r_t_now v1 v2  o_r X hw  h ls (lv_sub hl [0, 1, 2] rfl)
  · have h := ifn c1 h
    refine lv_iload_n hx hb dX6_count_12 rfl (lv_at hl 2 rfl) ?_
    refine lv_aload_n hx hb dX6_count_13 rfl (lv_at hl 0 rfl) ?_
    refine lv_iconst (v := 0) hx hb dX6_count_14 (by decide) ?_
    refine lv_iload_n hx hb dX6_count_15 rfl (lv_at hl 3 rfl) ?_
    refine lv_aload_n hx hb dX6_count_16 rfl (lv_at hl 0 rfl) ?_
    obtain ⟨r2, g3, h⟩ := bnd h
    refine rcV (As := []) (rest := [.int v3, .int 0, .ref a_t, .int v2]) ⟨hx, hb, hml, hown, hts⟩ (k_X6_all (l := l) (E := E) a_t a_t_metal a_t_kind a_t_now a_t_readOf a_t_readKind a_t_text a_t_row a_t_nots a_t_isKept a_t_kept x_t_isTrue x_t_caskets x_t_wooers x_t_readTrue x_t_readCaskets x_t_readWooers x_t_readPicture x_t_length x_t_at x_t_faultAt x_t_acts x_t_next x_t_riddleMany x_t_seed r2 g3) (cwV 0 hts gX6_count_X6_all rfl rfl rfl (by decide +kernel) ⟨Nat.le_of_ble_eq_true rfl, Nat.le_of_ble_eq_true rfl⟩) hC hP [0] rfl 0 6 rfl rfl rfl rfl hl.1 rfl (Nat.le_of_ble_eq_true rfl) dX6_count_17 ⟨Nat.zero_le _, Nat.zero_le _⟩ ?_
    obtain ⟨r4, g5, h⟩ := bnd h
    refine rcV (As := [.int 0, .int v3, .int r2]) (rest := [.int v2]) ⟨hx, hb, hml, hown, hts⟩ (k_X6_readings (l := l) (E := E) a_t a_t_metal a_t_kind a_t_now a_t_readOf a_t_readKind a_t_text a_t_row a_t_nots a_t_isKept a_t_kept x_t_isTrue x_t_caskets x_t_wooers x_t_readTrue x_t_readCaskets x_t_readWooers x_t_readPicture x_t_length x_t_at x_t_faultAt x_t_acts x_t_next x_t_riddleMany x_t_seed r_t_now 0 v3 r2 r4 g5) (cwV 3 hts gX6_count_X6_readings rfl rfl rfl (by decide +kernel) ⟨Nat.le_of_ble_eq_true rfl, Nat.le_of_ble_eq_true rfl⟩) hC hP [0, 1] rfl 0 6 rfl rfl rfl rfl hl.1 rfl (Nat.le_of_ble_eq_true rfl) dX6_count_20 ⟨Nat.zero_le _, Nat.zero_le _⟩ ?_
    refine lv_iadd hx hb dX6_count_23 ?_
    refine lv_istore_n (lv' := [(2, .int (v2 + r4)), (0, .ref a_t), (1, .int v1), (3, .int v3)]) hx hb dX6_count_24 rfl hl (by decide) rfl (fun ls hl => ?_)
    refine lv_iinc (v := (v3 + 1)) (lv' := [(3, .int (v3 + 1)), (2, .int (v2 + r4)), (0, .ref a_t), (1, .int v1)]) hx hb dX6_count_25 hl (k := 3) rfl rfl (by decide) rfl (fun ls hl => ?_)
    refine lv_goto (tgt := 4) hx hb dX6_count_28 (by decide) ?_
    exact hk4 (v2 + r4) (v3 + 1) h ls (lv_sub hl [2, 3, 1, 0] rfl)
set_option maxHeartbeats 4000000 in
set_option maxRecDepth 100000 in
theorem w_X6_count_4 {p : Program} {l : Launch} {e : Env} {s : State} {m : MethodId} {args : Array Value} {below : List Frame} {meth : Method} {c : Code} {E : Ev} (a_t a_t_metal a_t_kind a_t_now a_t_readOf a_t_readKind a_t_text a_t_row a_t_nots a_t_isKept a_t_kept : Nat) (x_t_isTrue : Int32) (x_t_caskets : Int32) (x_t_wooers : Int32) (x_t_readTrue : Int32) (x_t_readCaskets : Int32) (x_t_readWooers : Int32) (x_t_readPicture : Int32) (x_t_length : Int32) (x_t_at : Int32) (x_t_faultAt : Int32) (x_t_acts : Int32) (x_t_next : Int32) (x_t_riddleMany : Int32) (x_t_seed : Int64) (r_t_now : Nat → Int32) (v1 : Int32) (o_r : Int32) (X : Cxt p s m args meth c cX6_count 4 wsX6_count RX6 (some .int)) (hw : wd E [(a_t, .inr (6, [.int x_t_isTrue, .int x_t_caskets, .int x_t_wooers, .ref a_t_metal, .ref a_t_kind, .ref a_t_now, .ref a_t_readOf, .ref a_t_readKind, .int x_t_readTrue, .int x_t_readCaskets, .int x_t_readWooers, .int x_t_readPicture, .ref a_t_text, .int x_t_length, .int x_t_at, .int x_t_faultAt, .int x_t_acts, .int x_t_next, .ref a_t_row, .int x_t_riddleMany, .ref a_t_nots, .long x_t_seed, .ref a_t_isKept, .ref a_t_kept])), (a_t_now, .inl (E.2.1, 36, .inl r_t_now))] s s.heap) : ∀ (n : Nat) (v2 : Int32) (v3 : Int32), f_X6_count_4 x_t_isTrue x_t_caskets x_t_wooers x_t_length x_t_acts r_t_now v1 n v2 v3 = some o_r → ∀ (ls : Array Slot), lv_has ls 4 [(0, .ref a_t), (1, .int v1), (2, .int v2), (3, .int v3)] → W p l e { frames := 6, cells := 0, slots := 0, locals := 146 } s m args below meth c s.heap [] 0 0 (MQ below (Qr (some (.int o_r))) args s 0 0 (fun _ => False)) (F0 m 4 ls []) := by
  intro n
  induction n with
  | zero =>
    intro v2 v3 h
    exact (rk_z _ _ h).elim
  | succ n ih =>
    intro v2 v3 h ls hl
    exact w_X6_count_4_b a_t a_t_metal a_t_kind a_t_now a_t_readOf a_t_readKind a_t_text a_t_row a_t_nots a_t_isKept a_t_kept x_t_isTrue x_t_caskets x_t_wooers x_t_readTrue x_t_readCaskets x_t_readWooers x_t_readPicture x_t_length x_t_at x_t_faultAt x_t_acts x_t_next x_t_riddleMany x_t_seed r_t_now v1  o_r X hw  (rk (fun k x => f_X6_count_4_b x_t_isTrue x_t_caskets x_t_wooers x_t_length x_t_acts r_t_now v1  k (x.1) (x.2)) n) (fun v2 v3 hh => ih v2 v3 hh) v2 v3 h hl
set_option maxHeartbeats 4000000 in
set_option maxRecDepth 100000 in
theorem w_X6_count {p : Program} {l : Launch} {e : Env} {s : State} {m : MethodId} {args : Array Value} {below : List Frame} {meth : Method} {c : Code} {E : Ev} (a_t a_t_metal a_t_kind a_t_now a_t_readOf a_t_readKind a_t_text a_t_row a_t_nots a_t_isKept a_t_kept : Nat) (x_t_isTrue : Int32) (x_t_caskets : Int32) (x_t_wooers : Int32) (x_t_readTrue : Int32) (x_t_readCaskets : Int32) (x_t_readWooers : Int32) (x_t_readPicture : Int32) (x_t_length : Int32) (x_t_at : Int32) (x_t_faultAt : Int32) (x_t_acts : Int32) (x_t_next : Int32) (x_t_riddleMany : Int32) (x_t_seed : Int64) (r_t_now : Nat → Int32) (p1 : Int32) (o_r : Int32) (X : Cxt p s m args meth c cX6_count 4 wsX6_count RX6 (some .int)) (hw : wd E [(a_t, .inr (6, [.int x_t_isTrue, .int x_t_caskets, .int x_t_wooers, .ref a_t_metal, .ref a_t_kind, .ref a_t_now, .ref a_t_readOf, .ref a_t_readKind, .int x_t_readTrue, .int x_t_readCaskets, .int x_t_readWooers, .int x_t_readPicture, .ref a_t_text, .int x_t_length, .int x_t_at, .int x_t_faultAt, .int x_t_acts, .int x_t_next, .ref a_t_row, .int x_t_riddleMany, .ref a_t_nots, .long x_t_seed, .ref a_t_isKept, .ref a_t_kept])), (a_t_now, .inl (E.2.1, 36, .inl r_t_now))] s s.heap) (h : f_X6_count x_t_isTrue x_t_caskets x_t_wooers x_t_length x_t_acts r_t_now p1 = some o_r) {ls : Array Slot} (hl : lv_has ls 4 [(0, .ref a_t), (1, .int p1)]) : W p l e { frames := 6, cells := 0, slots := 0, locals := 146 } s m args below meth c s.heap [] 0 0 (MQ below (Qr (some (.int o_r))) args s 0 0 (fun _ => False)) (F0 m 0 ls []) := by
  obtain ⟨⟨hx, hb, hml, hown, hts⟩, hr, hlocks⟩ := id X
  obtain ⟨hC, hP⟩ := id hw
  have hiX6 : ∀ w ∈ u_ws RX6 TX6 24, w ∈ wsX6_count := by decide +kernel
  have hK := hC.1
  unfold f_X6_count at h
  refine lv_iconst (v := 0) hx hb dX6_count_0 (by decide) ?_
  refine lv_istore_n (lv' := [(2, .int 0), (0, .ref a_t), (1, .int p1)]) hx hb dX6_count_1 rfl hl (by decide) rfl (fun ls hl => ?_)
  refine lv_iconst (v := 0) hx hb dX6_count_2 (by decide) ?_
  refine lv_istore_n (lv' := [(3, .int 0), (2, .int 0), (0, .ref a_t), (1, .int p1)]) hx hb dX6_count_3 rfl hl (by decide) rfl (fun ls hl => ?_)
  exact w_X6_count_4 a_t a_t_metal a_t_kind a_t_now a_t_readOf a_t_readKind a_t_text a_t_row a_t_nots a_t_isKept a_t_kept x_t_isTrue x_t_caskets x_t_wooers x_t_readTrue x_t_readCaskets x_t_readWooers x_t_readPicture x_t_length x_t_at x_t_faultAt x_t_acts x_t_next x_t_riddleMany x_t_seed r_t_now p1  o_r X hw  200 0 0 h ls (lv_sub hl [2, 3, 1, 0] rfl)
set_option maxHeartbeats 4000000 in
set_option maxRecDepth 100000 in
theorem k_X6_count {l : Launch} {E : Ev} (a_t a_t_metal a_t_kind a_t_now a_t_readOf a_t_readKind a_t_text a_t_row a_t_nots a_t_isKept a_t_kept : Nat) (x_t_isTrue : Int32) (x_t_caskets : Int32) (x_t_wooers : Int32) (x_t_readTrue : Int32) (x_t_readCaskets : Int32) (x_t_readWooers : Int32) (x_t_readPicture : Int32) (x_t_length : Int32) (x_t_at : Int32) (x_t_faultAt : Int32) (x_t_acts : Int32) (x_t_next : Int32) (x_t_riddleMany : Int32) (x_t_seed : Int64) (r_t_now : Nat → Int32) (p1 : Int32) (o_r : Int32) (hf : f_X6_count x_t_isTrue x_t_caskets x_t_wooers x_t_length x_t_acts r_t_now p1 = some o_r) : Met l yX6_count wsX6_count ({ frames := 6, cells := 0, slots := 0, locals := 146 }) (Pr E [.ref a_t, .int p1] [(a_t, .inr (6, [.int x_t_isTrue, .int x_t_caskets, .int x_t_wooers, .ref a_t_metal, .ref a_t_kind, .ref a_t_now, .ref a_t_readOf, .ref a_t_readKind, .int x_t_readTrue, .int x_t_readCaskets, .int x_t_readWooers, .int x_t_readPicture, .ref a_t_text, .int x_t_length, .int x_t_at, .int x_t_faultAt, .int x_t_acts, .int x_t_next, .ref a_t_row, .int x_t_riddleMany, .ref a_t_nots, .long x_t_seed, .ref a_t_isKept, .ref a_t_kept])), (a_t_now, .inl (E.2.1, 36, .inl r_t_now))]) (Qr (some (.int o_r))) 0 0 (fun _ => False) := by
  refine Met.ofW (cc := cX6_count) (maxL := 4) (ret := (some .int)) (by decide) rfl ?_
  intro p e s m args below meth c s₁ B hml hv
  obtain ⟨rfl, hw⟩ := hv
  have X := Cxt.of B hml
  have hl := lv_entry ([.ref a_t, .int p1]) (n := 4) (Nat.le_of_ble_eq_true rfl)
  rw [lg_entry_eq]
  exact w_X6_count a_t a_t_metal a_t_kind a_t_now a_t_readOf a_t_readKind a_t_text a_t_row a_t_nots a_t_isKept a_t_kept x_t_isTrue x_t_caskets x_t_wooers x_t_readTrue x_t_readCaskets x_t_readWooers x_t_readPicture x_t_length x_t_at x_t_faultAt x_t_acts x_t_next x_t_riddleMany x_t_seed r_t_now p1 o_r X hw hf hl
