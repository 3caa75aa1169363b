set_option maxHeartbeats 4000000 in
set_option maxRecDepth 100000 in
theorem w_X6_says {p : Program} {l : Launch} {e : Env} {s : State} {m : MethodId} {args : Array Value} {below : List Frame} {meth : Method} {c : Code} {E : Ev} (a_t a_t_metal a_t_kind a_t_now a_t_readOf a_t_readKind a_t_text a_t_row a_t_nots a_t_isKept a_t_kept : Nat) (x_t_isTrue : Int32) (x_t_caskets : Int32) (x_t_wooers : Int32) (x_t_readTrue : Int32) (x_t_readCaskets : Int32) (x_t_readWooers : Int32) (x_t_readPicture : Int32) (x_t_length : Int32) (x_t_at : Int32) (x_t_faultAt : Int32) (x_t_acts : Int32) (x_t_next : Int32) (x_t_riddleMany : Int32) (x_t_seed : Int64) (r_t_now : Nat → Int32) (p1 : Int32) (p2 : Int32) (p3 : Int32) (p4 : Int32) (o_r : Int32) (X : Cxt p s m args meth c cX6_says 6 wsX6_says RX6 (some .boolean)) (hw : wd E [(a_t, .inr (6, [.int x_t_isTrue, .int x_t_caskets, .int x_t_wooers, .ref a_t_metal, .ref a_t_kind, .ref a_t_now, .ref a_t_readOf, .ref a_t_readKind, .int x_t_readTrue, .int x_t_readCaskets, .int x_t_readWooers, .int x_t_readPicture, .ref a_t_text, .int x_t_length, .int x_t_at, .int x_t_faultAt, .int x_t_acts, .int x_t_next, .ref a_t_row, .int x_t_riddleMany, .ref a_t_nots, .long x_t_seed, .ref a_t_isKept, .ref a_t_kept])), (a_t_now, .inl (E.2.1, 36, .inl r_t_now))] s s.heap) (h : f_X6_says x_t_caskets r_t_now p1 p2 p3 p4 = some o_r) {ls : Array Slot} (hl : lv_has ls 6 [(0, .ref a_t), (1, .int p1), (2, .int p2), (3, .int p3), (4, .int p4)]) : W p l e { frames := 2, cells := 0, slots := 0, locals := 46 } s m args below meth c s.heap [] 0 0 (MQ below (Qr (some (.int o_r))) args s 0 0 (fun _ => False)) (F0 m 0 ls []) := by
  obtain ⟨⟨hx, hb, hml, hown, hts⟩, hr, hlocks⟩ := id X
  obtain ⟨hC, hP⟩ := id hw
  have hiX6 : ∀ w ∈ u_ws RX6 TX6 24, w ∈ wsX6_says := by decide +kernel
  have hK := hC.1
  unfold f_X6_says at h
  refine lv_aload_n hx hb dX6_says_0 rfl (lv_at hl 0 rfl) ?_
  refine va_get (D := E.1) (ci := 6) (v := .ref a_t_now) (C := RX6) (T := TX6) (N := 24) hx hb hts hiX6 hown hK hP 0 rfl rfl 5 (by decide) (hts (.fieldLink RX6 16 "CasketLinesModel" "now" "[I") (by decide +kernel)) (fun _ h9 => h9) rfl dX6_says_1 ?_
  refine lv_bipush (v := 18) hx hb dX6_says_4 (by decide) ?_
  refine lv_iload_n hx hb dX6_says_6 rfl (lv_at hl 1 rfl) ?_
  refine lv_imul hx hb dX6_says_7 ?_
  refine lv_iconst (v := 4) hx hb dX6_says_8 (by decide) ?_
  refine lv_iadd hx hb dX6_says_9 ?_
  refine lv_iload_n hx hb dX6_says_10 rfl (lv_at hl 2 rfl) ?_
  refine lv_iadd hx hb dX6_says_11 ?_
  obtain ⟨b1, h⟩ := gdn h
  refine va_iald hx hb hK hP 1 0 rfl rfl b1 dX6_says_12 ?_
  refine lv_istore (lv' := [(5, .int (r_t_now (Int32.toNatClampNeg (((18 * p1) + 4) + p2)))), (0, .ref a_t), (1, .int p1), (2, .int p2), (3, .int p3), (4, .int p4)]) hx hb dX6_says_13 hl (by decide) rfl (fun ls hl => ?_)
  refine lv_aload_n hx hb dX6_says_15 rfl (lv_at hl 1 rfl) ?_
  refine va_get (D := E.1) (ci := 6) (v := .ref a_t_now) (C := RX6) (T := TX6) (N := 24) hx hb hts hiX6 hown hK hP 0 rfl rfl 5 (by decide) (hts (.fieldLink RX6 16 "CasketLinesModel" "now" "[I") (by decide +kernel)) (fun _ h9 => h9) rfl dX6_says_16 ?_
  refine lv_bipush (v := 18) hx hb dX6_says_19 (by decide) ?_
  refine lv_iload_n hx hb dX6_says_21 rfl (lv_at hl 2 rfl) ?_
  refine lv_imul hx hb dX6_says_22 ?_
  refine lv_iload_n hx hb dX6_says_23 rfl (lv_at hl 3 rfl) ?_
  refine lv_iadd hx hb dX6_says_24 ?_
  obtain ⟨b2, h⟩ := gdn h
  refine va_iald hx hb hK hP 1 0 rfl rfl b2 dX6_says_25 ?_
  by_cases c3 : (r_t_now (Int32.toNatClampNeg ((18 * p1) + p2))) = 0
  · have h := ifp c3 h
    refine lv_tableIn (tgt := 60) (off := 34) hx hb dX6_says_26 (by rw [c3]; decide) (by rw [c3]; decide) (by rw [c3]; rfl) (by decide) ?_
    refine lv_iload_n hx hb dX6_says_60 rfl (lv_at hl 4 rfl) ?_
    refine lv_iload_n hx hb dX6_says_61 rfl (lv_at hl 3 rfl) ?_
    refine lv_icmp_ne (tgt := 69) hx hb dX6_says_62 (by decide) (fun c8 => ?_) (fun c8 => ?_)
    · have h := ifn c8 h
      refine lv_iconst (v := 0) hx hb dX6_says_69 (by decide) ?_
      exact W.zret hx hb hr rfl (fun t ht _ => ⟨by cases h; rfl, ht⟩) (fun _ hq => absurd hq List.not_mem_nil) dX6_says_70
    · have h := ifp c8 h
      refine lv_iconst (v := 1) hx hb dX6_says_65 (by decide) ?_
      refine lv_goto (tgt := 70) hx hb dX6_says_66 (by decide) ?_
      exact W.zret hx hb hr rfl (fun t ht _ => ⟨by cases h; rfl, ht⟩) (fun _ hq => absurd hq List.not_mem_nil) dX6_says_70
  · have h := ifn c3 h
    by_cases c4 : (r_t_now (Int32.toNatClampNeg ((18 * p1) + p2))) = 1
    · have h := ifp c4 h
      refine lv_tableIn (tgt := 71) (off := 45) hx hb dX6_says_26 (by rw [c4]; decide) (by rw [c4]; decide) (by rw [c4]; rfl) (by decide) ?_
      refine lv_iload_n hx hb dX6_says_71 rfl (lv_at hl 4 rfl) ?_
      refine lv_iload_n hx hb dX6_says_72 rfl (lv_at hl 3 rfl) ?_
      refine lv_icmp_eq (tgt := 80) hx hb dX6_says_73 (by decide) (fun c9 => ?_) (fun c9 => ?_)
      · have h := ifp c9 h
        refine lv_iconst (v := 0) hx hb dX6_says_80 (by decide) ?_
        exact W.zret hx hb hr rfl (fun t ht _ => ⟨by cases h; rfl, ht⟩) (fun _ hq => absurd hq List.not_mem_nil) dX6_says_81
      · have h := ifn c9 h
        refine lv_iconst (v := 1) hx hb dX6_says_76 (by decide) ?_
        refine lv_goto (tgt := 81) hx hb dX6_says_77 (by decide) ?_
        exact W.zret hx hb hr rfl (fun t ht _ => ⟨by cases h; rfl, ht⟩) (fun _ hq => absurd hq List.not_mem_nil) dX6_says_81
    · have h := ifn c4 h
      by_cases c5 : (r_t_now (Int32.toNatClampNeg ((18 * p1) + p2))) = 2
      · have h := ifp c5 h
        refine lv_tableIn (tgt := 82) (off := 56) hx hb dX6_says_26 (by rw [c5]; decide) (by rw [c5]; decide) (by rw [c5]; rfl) (by decide) ?_
        refine lv_iload_n hx hb dX6_says_82 rfl (lv_at hl 4 rfl) ?_
        refine lv_iload hx hb dX6_says_83 (lv_at hl 0 rfl) ?_
        refine lv_icmp_ne (tgt := 92) hx hb dX6_says_85 (by decide) (fun c10 => ?_) (fun c10 => ?_)
        · have h := ifn c10 h
          refine lv_iconst (v := 0) hx hb dX6_says_92 (by decide) ?_
          exact W.zret hx hb hr rfl (fun t ht _ => ⟨by cases h; rfl, ht⟩) (fun _ hq => absurd hq List.not_mem_nil) dX6_says_93
        · have h := ifp c10 h
          refine lv_iconst (v := 1) hx hb dX6_says_88 (by decide) ?_
          refine lv_goto (tgt := 93) hx hb dX6_says_89 (by decide) ?_
          exact W.zret hx hb hr rfl (fun t ht _ => ⟨by cases h; rfl, ht⟩) (fun _ hq => absurd hq List.not_mem_nil) dX6_says_93
      · have h := ifn c5 h
        by_cases c6 : (r_t_now (Int32.toNatClampNeg ((18 * p1) + p2))) = 3
        · have h := ifp c6 h
          refine lv_tableIn (tgt := 94) (off := 68) hx hb dX6_says_26 (by rw [c6]; decide) (by rw [c6]; decide) (by rw [c6]; rfl) (by decide) ?_
          refine lv_iload_n hx hb dX6_says_94 rfl (lv_at hl 4 rfl) ?_
          refine lv_iload hx hb dX6_says_95 (lv_at hl 0 rfl) ?_
          refine lv_icmp_eq (tgt := 104) hx hb dX6_says_97 (by decide) (fun c11 => ?_) (fun c11 => ?_)
          · have h := ifp c11 h
            refine lv_iconst (v := 0) hx hb dX6_says_104 (by decide) ?_
            exact W.zret hx hb hr rfl (fun t ht _ => ⟨by cases h; rfl, ht⟩) (fun _ hq => absurd hq List.not_mem_nil) dX6_says_105
          · have h := ifn c11 h
            refine lv_iconst (v := 1) hx hb dX6_says_100 (by decide) ?_
            refine lv_goto (tgt := 105) hx hb dX6_says_101 (by decide) ?_
            exact W.zret hx hb hr rfl (fun t ht _ => ⟨by cases h; rfl, ht⟩) (fun _ hq => absurd hq List.not_mem_nil) dX6_says_105
        · have h := ifn c6 h
          by_cases c7 : (r_t_now (Int32.toNatClampNeg ((18 * p1) + p2))) = 4
          · have h := ifp c7 h
            refine lv_tableIn (tgt := 106) (off := 80) hx hb dX6_says_26 (by rw [c7]; decide) (by rw [c7]; decide) (by rw [c7]; rfl) (by decide) ?_
            refine lv_aload_n hx hb dX6_says_106 rfl (lv_at hl 1 rfl) ?_
            refine lv_iload hx hb dX6_says_107 (lv_at hl 0 rfl) ?_
            obtain ⟨r12, g13, h⟩ := bnd h
            refine rcV (As := [.int (r_t_now (Int32.toNatClampNeg (((18 * p1) + 4) + p2)))]) (rest := []) ⟨hx, hb, hml, hown, hts⟩ (k_X6_isCasket (l := l) (E := E) a_t a_t_metal a_t_kind a_t_now a_t_readOf a_t_readKind a_t_text a_t_row a_t_nots a_t_isKept a_t_kept x_t_isTrue x_t_caskets x_t_wooers x_t_readTrue x_t_readCaskets x_t_readWooers x_t_readPicture x_t_length x_t_at x_t_faultAt x_t_acts x_t_next x_t_riddleMany x_t_seed (r_t_now (Int32.toNatClampNeg (((18 * p1) + 4) + p2))) r12 g13) (cwV 1 hts gX6_says_X6_isCasket rfl rfl rfl (by decide +kernel) ⟨Nat.le_of_ble_eq_true rfl, Nat.le_of_ble_eq_true rfl⟩) hC hP [0] rfl 0 6 rfl rfl rfl rfl hl.1 rfl (Nat.le_of_ble_eq_true rfl) dX6_says_109 ⟨Nat.zero_le _, Nat.zero_le _⟩ ?_
            refine lv_if_eq (tgt := 129) hx hb dX6_says_112 (by decide) (fun c14 => ?_) (fun c14 => ?_)
            · have h := ifp c14 h
              refine lv_iconst (v := 0) hx hb dX6_says_129 (by decide) ?_
              exact W.zret hx hb hr rfl (fun t ht _ => ⟨by cases h; rfl, ht⟩) (fun _ hq => absurd hq List.not_mem_nil) dX6_says_130
            · have h := ifn c14 h
              refine lv_iload hx hb dX6_says_115 (lv_at hl 5 rfl) ?_
              refine lv_iload hx hb dX6_says_117 (lv_at hl 0 rfl) ?_
              obtain ⟨r15, g16, h⟩ := bnd h
              refine rcS (As := [.int p4, .int (r_t_now (Int32.toNatClampNeg (((18 * p1) + 4) + p2)))]) (rest := []) ⟨hx, hb, hml, hown, hts⟩ (k_X6_has (l := l) (E := E) p4 (r_t_now (Int32.toNatClampNeg (((18 * p1) + 4) + p2))) r15 g16) (va_cwS 2 hts gX6_says_X6_has rfl rfl rfl (by decide +kernel) ⟨Nat.le_of_ble_eq_true rfl, Nat.le_of_ble_eq_true rfl⟩) hC hP [] rfl rfl hl.1 rfl (Nat.le_of_ble_eq_true rfl) dX6_says_119 ⟨Nat.zero_le _, Nat.zero_le _⟩ ?_
              refine lv_if_eq (tgt := 129) hx hb dX6_says_122 (by decide) (fun c17 => ?_) (fun c17 => ?_)
              · have h := ifp c17 h
                refine lv_iconst (v := 0) hx hb dX6_says_129 (by decide) ?_
                exact W.zret hx hb hr rfl (fun t ht _ => ⟨by cases h; rfl, ht⟩) (fun _ hq => absurd hq List.not_mem_nil) dX6_says_130
              · have h := ifn c17 h
                refine lv_iconst (v := 1) hx hb dX6_says_125 (by decide) ?_
                refine lv_goto (tgt := 130) hx hb dX6_says_126 (by decide) ?_
                exact W.zret hx hb hr rfl (fun t ht _ => ⟨by cases h; rfl, ht⟩) (fun _ hq => absurd hq List.not_mem_nil) dX6_says_130
          · have h := ifn c7 h
            refine lv_tableOut (tgt := 131) hx hb dX6_says_26 (by have z0 := tsw_ne (i := 0) (by decide) c3; have z1 := tsw_ne (i := 1) (by decide) c4; have z2 := tsw_ne (i := 2) (by decide) c5; have z3 := tsw_ne (i := 3) (by decide) c6; have z4 := tsw_ne (i := 4) (by decide) c7; omega) (by decide) ?_
            refine lv_aload_n hx hb dX6_says_131 rfl (lv_at hl 1 rfl) ?_
            refine lv_iload hx hb dX6_says_132 (lv_at hl 0 rfl) ?_
            obtain ⟨r18, g19, h⟩ := bnd h
            refine rcV (As := [.int (r_t_now (Int32.toNatClampNeg (((18 * p1) + 4) + p2)))]) (rest := []) ⟨hx, hb, hml, hown, hts⟩ (k_X6_isCasket (l := l) (E := E) a_t a_t_metal a_t_kind a_t_now a_t_readOf a_t_readKind a_t_text a_t_row a_t_nots a_t_isKept a_t_kept x_t_isTrue x_t_caskets x_t_wooers x_t_readTrue x_t_readCaskets x_t_readWooers x_t_readPicture x_t_length x_t_at x_t_faultAt x_t_acts x_t_next x_t_riddleMany x_t_seed (r_t_now (Int32.toNatClampNeg (((18 * p1) + 4) + p2))) r18 g19) (cwV 1 hts gX6_says_X6_isCasket rfl rfl rfl (by decide +kernel) ⟨Nat.le_of_ble_eq_true rfl, Nat.le_of_ble_eq_true rfl⟩) hC hP [0] rfl 0 6 rfl rfl rfl rfl hl.1 rfl (Nat.le_of_ble_eq_true rfl) dX6_says_134 ⟨Nat.zero_le _, Nat.zero_le _⟩ ?_
            refine lv_if_eq (tgt := 150) hx hb dX6_says_137 (by decide) (fun c20 => ?_) (fun c20 => ?_)
            · have h := ifp c20 h
              refine lv_iconst (v := 1) hx hb dX6_says_150 (by decide) ?_
              refine lv_goto (tgt := 155) hx hb dX6_says_151 (by decide) ?_
              exact W.zret hx hb hr rfl (fun t ht _ => ⟨by cases h; rfl, ht⟩) (fun _ hq => absurd hq List.not_mem_nil) dX6_says_155
            · have h := ifn c20 h
              refine lv_iload hx hb dX6_says_140 (lv_at hl 5 rfl) ?_
              refine lv_iload hx hb dX6_says_142 (lv_at hl 0 rfl) ?_
              obtain ⟨r21, g22, h⟩ := bnd h
              refine rcS (As := [.int p4, .int (r_t_now (Int32.toNatClampNeg (((18 * p1) + 4) + p2)))]) (rest := []) ⟨hx, hb, hml, hown, hts⟩ (k_X6_has (l := l) (E := E) p4 (r_t_now (Int32.toNatClampNeg (((18 * p1) + 4) + p2))) r21 g22) (va_cwS 2 hts gX6_says_X6_has rfl rfl rfl (by decide +kernel) ⟨Nat.le_of_ble_eq_true rfl, Nat.le_of_ble_eq_true rfl⟩) hC hP [] rfl rfl hl.1 rfl (Nat.le_of_ble_eq_true rfl) dX6_says_144 ⟨Nat.zero_le _, Nat.zero_le _⟩ ?_
              refine lv_if_ne (tgt := 154) hx hb dX6_says_147 (by decide) (fun c23 => ?_) (fun c23 => ?_)
              · have h := ifn c23 h
                refine lv_iconst (v := 0) hx hb dX6_says_154 (by decide) ?_
                exact W.zret hx hb hr rfl (fun t ht _ => ⟨by cases h; rfl, ht⟩) (fun _ hq => absurd hq List.not_mem_nil) dX6_says_155
              · have h := ifp c23 h
                refine lv_iconst (v := 1) hx hb dX6_says_150 (by decide) ?_
                refine lv_goto (tgt := 155) hx hb dX6_says_151 (by decide) ?_
                exact W.zret hx hb hr rfl (fun t ht _ => ⟨by cases h; rfl, ht⟩) (fun _ hq => absurd hq List.not_mem_nil) dX6_says_155
set_option maxHeartbeats 4000000 in
set_option maxRecDepth 100000 in
theorem k_X6_says {l : Launch} {E : Ev} (a_t a_t_metal a_t_kind a_t_now a_t_readOf a_t_readKind a_t_text a_t_row a_t_nots a_t_isKept a_t_kept : Nat) (x_t_isTrue : Int32) (x_t_caskets : Int32) (x_t_wooers : Int32) (x_t_readTrue : Int32) (x_t_readCaskets : Int32) (x_t_readWooers : Int32) (x_t_readPicture : Int32) (x_t_length : Int32) (x_t_at : Int32) (x_t_faultAt : Int32) (x_t_acts : Int32) (x_t_next : Int32) (x_t_riddleMany : Int32) (x_t_seed : Int64) (r_t_now : Nat → Int32) (p1 : Int32) (p2 : Int32) (p3 : Int32) (p4 : Int32) (o_r : Int32) (hf : f_X6_says x_t_caskets r_t_now p1 p2 p3 p4 = some o_r) : Met l yX6_says wsX6_says ({ frames := 2, cells := 0, slots := 0, locals := 46 }) (Pr E [.ref a_t, .int p1, .int p2, .int p3, .int p4] [(a_t, .inr (6, [.int x_t_isTrue, .int x_t_caskets, .int x_t_wooers, .ref a_t_metal, .ref a_t_kind, .ref a_t_now, .ref a_t_readOf, .ref a_t_readKind, .int x_t_readTrue, .int x_t_readCaskets, .int x_t_readWooers, .int x_t_readPicture, .ref a_t_text, .int x_t_length, .int x_t_at, .int x_t_faultAt, .int x_t_acts, .int x_t_next, .ref a_t_row, .int x_t_riddleMany, .ref a_t_nots, .long x_t_seed, .ref a_t_isKept, .ref a_t_kept])), (a_t_now, .inl (E.2.1, 36, .inl r_t_now))]) (Qr (some (.int o_r))) 0 0 (fun _ => False) := by
  refine Met.ofW (cc := cX6_says) (maxL := 6) (ret := (some .boolean)) (by decide) rfl ?_
  intro p e s m args below meth c s₁ B hml hv
  obtain ⟨rfl, hw⟩ := hv
  have X := Cxt.of B hml
  have hl := lv_entry ([.ref a_t, .int p1, .int p2, .int p3, .int p4]) (n := 6) (Nat.le_of_ble_eq_true rfl)
  rw [lg_entry_eq]
  exact w_X6_says a_t a_t_metal a_t_kind a_t_now a_t_readOf a_t_readKind a_t_text a_t_row a_t_nots a_t_isKept a_t_kept x_t_isTrue x_t_caskets x_t_wooers x_t_readTrue x_t_readCaskets x_t_readWooers x_t_readPicture x_t_length x_t_at x_t_faultAt x_t_acts x_t_next x_t_riddleMany x_t_seed r_t_now p1 p2 p3 p4 o_r X hw hf hl
set_option maxHeartbeats 4000000 in
set_option maxRecDepth 100000 in
theorem w_X6_isReading_30_b {p : Program} {l : Launch} {e : Env} {s : State} {m : MethodId} {args : Array Value} {below : List Frame} {meth : Method} {c : Code} {E : Ev} (a_t a_t_metal a_t_kind a_t_now a_t_readOf a_t_readKind a_t_text a_t_row a_t_nots a_t_isKept a_t_kept : Nat) (x_t_isTrue : Int32) (x_t_caskets : Int32) (x_t_wooers : Int32) (x_t_readTrue : Int32) (x_t_readCaskets : Int32) (x_t_readWooers : Int32) (x_t_readPicture : Int32) (x_t_length : Int32) (x_t_at : Int32) (x_t_faultAt : Int32) (x_t_acts : Int32) (x_t_next : Int32) (x_t_riddleMany : Int32) (x_t_seed : Int64) (r_t_now : Nat → Int32) (v1 : Int32) (v2 : Int32) (v3 : Int32) (v4 : Int32) (o_r : Int32) (X : Cxt p s m args meth c cX6_isReading 7 wsX6_isReading RX6 (some .boolean)) (hw : wd E [(a_t, .inr (6, [.int x_t_isTrue, .int x_t_caskets, .int x_t_wooers, .ref a_t_metal, .ref a_t_kind, .ref a_t_now, .ref a_t_readOf, .ref a_t_readKind, .int x_t_readTrue, .int x_t_readCaskets, .int x_t_readWooers, .int x_t_readPicture, .ref a_t_text, .int x_t_length, .int x_t_at, .int x_t_faultAt, .int x_t_acts, .int x_t_next, .ref a_t_row, .int x_t_riddleMany, .ref a_t_nots, .long x_t_seed, .ref a_t_isKept, .ref a_t_kept])), (a_t_now, .inl (E.2.1, 36, .inl r_t_now))] s s.heap) (k30 : Int32 × Int32 → Option (Int32)) (hk30 : ∀ (v5 : Int32) (v6 : Int32), k30 (v5, v6) = some o_r → ∀ (ls : Array Slot), lv_has ls 7 [(0, .ref a_t), (1, .int v1), (2, .int v2), (3, .int v3), (4, .int v4), (5, .int v5), (6, .int v6)] → W p l e { frames := 3, cells := 0, slots := 0, locals := 71 } s m args below meth c s.heap [] 0 0 (MQ below (Qr (some (.int o_r))) args s 0 0 (fun _ => False)) (F0 m 30 ls [])) (v5 : Int32) (v6 : Int32) (h : f_X6_isReading_30_b x_t_caskets r_t_now v1 v2 v3 v4 k30 v5 v6 = some o_r) {ls : Array Slot} (hl : lv_has ls 7 [(0, .ref a_t), (1, .int v1), (2, .int v2), (3, .int v3), (4, .int v4), (5, .int v5), (6, .int v6)]) : W p l e { frames := 3, cells := 0, slots := 0, locals := 71 } s m args below meth c s.heap [] 0 0 (MQ below (Qr (some (.int o_r))) args s 0 0 (fun _ => False)) (F0 m 30 ls []) := by
  obtain ⟨⟨hx, hb, hml, hown, hts⟩, hr, hlocks⟩ := id X
  obtain ⟨hC, hP⟩ := id hw
  have hiX6 : ∀ w ∈ u_ws RX6 TX6 24, w ∈ wsX6_isReading := by decide +kernel
  have hK := hC.1
  unfold f_X6_isReading_30_b at h
  refine lv_iload hx hb dX6_isReading_30 (lv_at hl 6 rfl) ?_
  refine lv_aload_n hx hb dX6_isReading_32 rfl (lv_at hl 0 rfl) ?_
  refine va_get (D := E.1) (ci := 6) (v := .int x_t_caskets) (C := RX6) (T := TX6) (N := 24) hx hb hts hiX6 hown hK hP 0 rfl rfl 1 (by decide) (hts (.fieldLink RX6 90 "CasketLinesModel" "caskets" "I") (by decide +kernel)) (fun _ h9 => h9) rfl dX6_isReading_33 ?_
  refine lv_icmp_ge (tgt := 85) hx hb dX6_isReading_36 (by decide) (fun c1 => ?_) (fun c1 => ?_)
  · have h := ifp c1 h
    refine lv_iload hx hb dX6_isReading_85 (lv_at hl 5 rfl) ?_
    obtain ⟨b2, h⟩ := gdy h
    exact W.zret hx hb hr (nar_b b2) (fun t ht _ => ⟨by cases h; rfl, ht⟩) (fun _ hq => absurd hq List.not_mem_nil) dX6_isReading_87
  · have h := ifn c1 h
    refine lv_iload hx hb dX6_isReading_39 (lv_at hl 5 rfl) ?_
    refine lv_if_eq (tgt := 85) hx hb dX6_isReading_41 (by decide) (fun c3 => ?_) (fun c3 => ?_)
    · have h := ifp c3 h
      refine lv_iload hx hb dX6_isReading_85 (lv_at hl 5 rfl) ?_
      obtain ⟨b4, h⟩ := gdy h
      exact W.zret hx hb hr (nar_b b4) (fun t ht _ => ⟨by cases h; rfl, ht⟩) (fun _ hq => absurd hq List.not_mem_nil) dX6_isReading_87
    · have h := ifn c3 h
      refine lv_iload hx hb dX6_isReading_44 (lv_at hl 4 rfl) ?_
      refine lv_iload hx hb dX6_isReading_46 (lv_at hl 6 rfl) ?_
      obtain ⟨r5, g6, h⟩ := bnd h
      refine rcS (As := [.int v4, .int v6]) (rest := []) ⟨hx, hb, hml, hown, hts⟩ (k_X6_has (l := l) (E := E) v4 v6 r5 g6) (va_cwS 2 hts gX6_isReading_X6_has rfl rfl rfl (by decide +kernel) ⟨Nat.le_of_ble_eq_true rfl, Nat.le_of_ble_eq_true rfl⟩) hC hP [] rfl rfl hl.1 rfl (Nat.le_of_ble_eq_true rfl) dX6_isReading_48 ⟨Nat.zero_le _, Nat.zero_le _⟩ ?_
      refine lv_if_eq (tgt := 72) hx hb dX6_isReading_51 (by decide) (fun c7 => ?_) (fun c7 => ?_)
      · have h := ifp c7 h
        refine lv_iconst (v := 1) hx hb dX6_isReading_72 (by decide) ?_
        refine lv_goto (tgt := 77) hx hb dX6_isReading_73 (by decide) ?_
        refine lv_istore (lv' := [(5, .int 1), (0, .ref a_t), (1, .int v1), (2, .int v2), (3, .int v3), (4, .int v4), (6, .int v6)]) hx hb dX6_isReading_77 hl (by decide) rfl (fun ls hl => ?_)
        refine lv_iinc (v := (v6 + 1)) (lv' := [(6, .int (v6 + 1)), (5, .int 1), (0, .ref a_t), (1, .int v1), (2, .int v2), (3, .int v3), (4, .int v4)]) hx hb dX6_isReading_79 hl (k := 6) rfl rfl (by decide) rfl (fun ls hl => ?_)
        refine lv_goto (tgt := 30) hx hb dX6_isReading_82 (by decide) ?_
        exact hk30 1 (v6 + 1) h ls (lv_sub hl [2, 3, 4, 5, 6, 1, 0] rfl)
      · have h := ifn c7 h
        refine lv_aload_n hx hb dX6_isReading_54 rfl (lv_at hl 0 rfl) ?_
        refine lv_iload_n hx hb dX6_isReading_55 rfl (lv_at hl 1 rfl) ?_
        refine lv_iload hx hb dX6_isReading_56 (lv_at hl 6 rfl) ?_
        refine lv_iload_n hx hb dX6_isReading_58 rfl (lv_at hl 2 rfl) ?_
        refine lv_iload_n hx hb dX6_isReading_59 rfl (lv_at hl 3 rfl) ?_
        obtain ⟨r8, g9, h⟩ := bnd h
        refine rcV (As := [.int v1, .int v6, .int v2, .int v3]) (rest := []) ⟨hx, hb, hml, hown, hts⟩ (k_X6_says (l := l) (E := E) a_t a_t_metal a_t_kind a_t_now a_t_readOf a_t_readKind a_t_text a_t_row a_t_nots a_t_isKept a_t_kept x_t_isTrue x_t_caskets x_t_wooers x_t_readTrue x_t_readCaskets x_t_readWooers x_t_readPicture x_t_length x_t_at x_t_faultAt x_t_acts x_t_next x_t_riddleMany x_t_seed r_t_now v1 v6 v2 v3 r8 g9) (cwV 4 hts gX6_isReading_X6_says rfl rfl rfl (by decide +kernel) ⟨Nat.le_of_ble_eq_true rfl, Nat.le_of_ble_eq_true rfl⟩) hC hP [0, 1] rfl 0 6 rfl rfl rfl rfl hl.1 rfl (Nat.le_of_ble_eq_true rfl) dX6_isReading_60 ⟨Nat.zero_le _, Nat.zero_le _⟩ ?_
        refine lv_iload_n hx hb dX6_isReading_63 rfl (lv_at hl 3 rfl) ?_
        refine lv_iload hx hb dX6_isReading_64 (lv_at hl 6 rfl) ?_
        obtain ⟨r10, g11, h⟩ := bnd h
        refine rcS (As := [.int v3, .int v6]) (rest := [.int r8]) ⟨hx, hb, hml, hown, hts⟩ (k_X6_has (l := l) (E := E) v3 v6 r10 g11) (va_cwS 2 hts gX6_isReading_X6_has rfl rfl rfl (by decide +kernel) ⟨Nat.le_of_ble_eq_true rfl, Nat.le_of_ble_eq_true rfl⟩) hC hP [] rfl rfl hl.1 rfl (Nat.le_of_ble_eq_true rfl) dX6_isReading_66 ⟨Nat.zero_le _, Nat.zero_le _⟩ ?_
        refine lv_icmp_ne (tgt := 76) hx hb dX6_isReading_69 (by decide) (fun c12 => ?_) (fun c12 => ?_)
        · have h := ifn c12 h
          refine lv_iconst (v := 0) hx hb dX6_isReading_76 (by decide) ?_
          refine lv_istore (lv' := [(5, .int 0), (0, .ref a_t), (1, .int v1), (2, .int v2), (3, .int v3), (4, .int v4), (6, .int v6)]) hx hb dX6_isReading_77 hl (by decide) rfl (fun ls hl => ?_)
          refine lv_iinc (v := (v6 + 1)) (lv' := [(6, .int (v6 + 1)), (5, .int 0), (0, .ref a_t), (1, .int v1), (2, .int v2), (3, .int v3), (4, .int v4)]) hx hb dX6_isReading_79 hl (k := 6) rfl rfl (by decide) rfl (fun ls hl => ?_)
          refine lv_goto (tgt := 30) hx hb dX6_isReading_82 (by decide) ?_
          exact hk30 0 (v6 + 1) h ls (lv_sub hl [2, 3, 4, 5, 6, 1, 0] rfl)
        · have h := ifp c12 h
          refine lv_iconst (v := 1) hx hb dX6_isReading_72 (by decide) ?_
          refine lv_goto (tgt := 77) hx hb dX6_isReading_73 (by decide) ?_
          refine lv_istore (lv' := [(5, .int 1), (0, .ref a_t), (1, .int v1), (2, .int v2), (3, .int v3), (4, .int v4), (6, .int v6)]) hx hb dX6_isReading_77 hl (by decide) rfl (fun ls hl => ?_)
          refine lv_iinc (v := (v6 + 1)) (lv' := [(6, .int (v6 + 1)), (5, .int 1), (0, .ref a_t), (1, .int v1), (2, .int v2), (3, .int v3), (4, .int v4)]) hx hb dX6_isReading_79 hl (k := 6) rfl rfl (by decide) rfl (fun ls hl => ?_)
          refine lv_goto (tgt := 30) hx hb dX6_isReading_82 (by decide) ?_
          exact hk30 1 (v6 + 1) h ls (lv_sub hl [2, 3, 4, 5, 6, 1, 0] rfl)
set_option maxHeartbeats 4000000 in
set_option maxRecDepth 100000 in
theorem w_X6_isReading_30 {p : Program} {l : Launch} {e : Env} {s : State} {m : MethodId} {args : Array Value} {below : List Frame} {meth : Method} {c : Code} {E : Ev} (a_t a_t_metal a_t_kind a_t_now a_t_readOf a_t_readKind a_t_text a_t_row a_t_nots a_t_isKept a_t_kept : Nat) (x_t_isTrue : Int32) (x_t_caskets : Int32) (x_t_wooers : Int32) (x_t_readTrue : Int32) (x_t_readCaskets : Int32) (x_t_readWooers : Int32) (x_t_readPicture : Int32) (x_t_length : Int32) (x_t_at : Int32) (x_t_faultAt : Int32) (x_t_acts : Int32) (x_t_next : Int32) (x_t_riddleMany : Int32) (x_t_seed : Int64) (r_t_now : Nat → Int32) (v1 : Int32) (v2 : Int32) (v3 : Int32) (v4 : Int32) (o_r : Int32) (X : Cxt p s m args meth c cX6_isReading 7 wsX6_isReading RX6 (some .boolean)) (hw : wd E [(a_t, .inr (6, [.int x_t_isTrue, .int x_t_caskets, .int x_t_wooers, .ref a_t_metal, .ref a_t_kind, .ref a_t_now, .ref a_t_readOf, .ref a_t_readKind, .int x_t_readTrue, .int x_t_readCaskets, .int x_t_readWooers, .int x_t_readPicture, .ref a_t_text, .int x_t_length, .int x_t_at, .int x_t_faultAt, .int x_t_acts, .int x_t_next, .ref a_t_row, .int x_t_riddleMany, .ref a_t_nots, .long x_t_seed, .ref a_t_isKept, .ref a_t_kept])), (a_t_now, .inl (E.2.1, 36, .inl r_t_now))] s s.heap) : ∀ (n : Nat) (v5 : Int32) (v6 : Int32), f_X6_isReading_30 x_t_caskets r_t_now v1 v2 v3 v4 n v5 v6 = some o_r → ∀ (ls : Array Slot), lv_has ls 7 [(0, .ref a_t), (1, .int v1), (2, .int v2), (3, .int v3), (4, .int v4), (5, .int v5), (6, .int v6)] → W p l e { frames := 3, cells := 0, slots := 0, locals := 71 } s m args below meth c s.heap [] 0 0 (MQ below (Qr (some (.int o_r))) args s 0 0 (fun _ => False)) (F0 m 30 ls []) := by
  intro n
  induction n with
  | zero =>
    intro v5 v6 h
    exact (rk_z _ _ h).elim
  | succ n ih =>
    intro v5 v6 h ls hl
    exact w_X6_isReading_30_b a_t a_t_metal a_t_kind a_t_now a_t_readOf a_t_readKind a_t_text a_t_row a_t_nots a_t_isKept a_t_kept x_t_isTrue x_t_caskets x_t_wooers x_t_readTrue x_t_readCaskets x_t_readWooers x_t_readPicture x_t_length x_t_at x_t_faultAt x_t_acts x_t_next x_t_riddleMany x_t_seed r_t_now v1 v2 v3 v4  o_r X hw  (rk (fun k x => f_X6_isReading_30_b x_t_caskets r_t_now v1 v2 v3 v4  k (x.1) (x.2)) n) (fun v5 v6 hh => ih v5 v6 hh) v5 v6 h hl
set_option maxHeartbeats 4000000 in
set_option maxRecDepth 100000 in
theorem w_X6_isReading {p : Program} {l : Launch} {e : Env} {s : State} {m : MethodId} {args : Array Value} {below : List Frame} {meth : Method} {c : Code} {E : Ev} (a_t a_t_metal a_t_kind a_t_now a_t_readOf a_t_readKind a_t_text a_t_row a_t_nots a_t_isKept a_t_kept : Nat) (x_t_isTrue : Int32) (x_t_caskets : Int32) (x_t_wooers : Int32) (x_t_readTrue : Int32) (x_t_readCaskets : Int32) (x_t_readWooers : Int32) (x_t_readPicture : Int32) (x_t_length : Int32) (x_t_at : Int32) (x_t_faultAt : Int32) (x_t_acts : Int32) (x_t_next : Int32) (x_t_riddleMany : Int32) (x_t_seed : Int64) (r_t_now : Nat → Int32) (p1 : Int32) (p2 : Int32) (p3 : Int32) (p4 : Int32) (o_r : Int32) (X : Cxt p s m args meth c cX6_isReading 7 wsX6_isReading RX6 (some .boolean)) (hw : wd E [(a_t, .inr (6, [.int x_t_isTrue, .int x_t_caskets, .int x_t_wooers, .ref a_t_metal, .ref a_t_kind, .ref a_t_now, .ref a_t_readOf, .ref a_t_readKind, .int x_t_readTrue, .int x_t_readCaskets, .int x_t_readWooers, .int x_t_readPicture, .ref a_t_text, .int x_t_length, .int x_t_at, .int x_t_faultAt, .int x_t_acts, .int x_t_next, .ref a_t_row, .int x_t_riddleMany, .ref a_t_nots, .long x_t_seed, .ref a_t_isKept, .ref a_t_kept])), (a_t_now, .inl (E.2.1, 36, .inl r_t_now))] s s.heap) (h : f_X6_isReading x_t_isTrue x_t_caskets r_t_now p1 p2 p3 p4 = some o_r) {ls : Array Slot} (hl : lv_has ls 7 [(0, .ref a_t), (1, .int p1), (2, .int p2), (3, .int p3), (4, .int p4)]) : W p l e { frames := 3, cells := 0, slots := 0, locals := 71 } s m args below meth c s.heap [] 0 0 (MQ below (Qr (some (.int o_r))) args s 0 0 (fun _ => False)) (F0 m 0 ls []) := by
  obtain ⟨⟨hx, hb, hml, hown, hts⟩, hr, hlocks⟩ := id X
  obtain ⟨hC, hP⟩ := id hw
  have hiX6 : ∀ w ∈ u_ws RX6 TX6 24, w ∈ wsX6_isReading := by decide +kernel
  have hK := hC.1
  unfold f_X6_isReading at h
  refine lv_aload_n hx hb dX6_isReading_0 rfl (lv_at hl 0 rfl) ?_
  refine va_get (D := E.1) (ci := 6) (v := .int x_t_isTrue) (C := RX6) (T := TX6) (N := 24) hx hb hts hiX6 hown hK hP 0 rfl rfl 0 (by decide) (hts (.fieldLink RX6 41 "CasketLinesModel" "isTrue" "I") (by decide +kernel)) (fun _ h9 => h9) rfl dX6_isReading_1 ?_
  refine lv_bipush (v := 9) hx hb dX6_isReading_4 (by decide) ?_
  refine lv_icmp_eq (tgt := 20) hx hb dX6_isReading_6 (by decide) (fun c13 => ?_) (fun c13 => ?_)
  · have h := ifp c13 h
    refine lv_iconst (v := 1) hx hb dX6_isReading_20 (by decide) ?_
    refine lv_goto (tgt := 25) hx hb dX6_isReading_21 (by decide) ?_
    refine lv_istore (lv' := [(5, .int 1), (0, .ref a_t), (1, .int p1), (2, .int p2), (3, .int p3), (4, .int p4)]) hx hb dX6_isReading_25 hl (by decide) rfl (fun ls hl => ?_)
    refine lv_iconst (v := 0) hx hb dX6_isReading_27 (by decide) ?_
    refine lv_istore (lv' := [(6, .int 0), (5, .int 1), (0, .ref a_t), (1, .int p1), (2, .int p2), (3, .int p3), (4, .int p4)]) hx hb dX6_isReading_28 hl (by decide) rfl (fun ls hl => ?_)
    exact w_X6_isReading_30 a_t a_t_metal a_t_kind a_t_now a_t_readOf a_t_readKind a_t_text a_t_row a_t_nots a_t_isKept a_t_kept x_t_isTrue x_t_caskets x_t_wooers x_t_readTrue x_t_readCaskets x_t_readWooers x_t_readPicture x_t_length x_t_at x_t_faultAt x_t_acts x_t_next x_t_riddleMany x_t_seed r_t_now p1 p2 p3 p4  o_r X hw  200 1 0 h ls (lv_sub hl [2, 3, 4, 5, 6, 1, 0] rfl)
  · have h := ifn c13 h
    refine lv_iload_n hx hb dX6_isReading_9 rfl (lv_at hl 3 rfl) ?_
    obtain ⟨r14, g15, h⟩ := bnd h
    refine rcS (As := [.int p3]) (rest := []) ⟨hx, hb, hml, hown, hts⟩ (k_X6_ones (l := l) (E := E) p3 r14 g15) (va_cwS 1 hts gX6_isReading_X6_ones rfl rfl rfl (by decide +kernel) ⟨Nat.le_of_ble_eq_true rfl, Nat.le_of_ble_eq_true rfl⟩) hC hP [] rfl rfl hl.1 rfl (Nat.le_of_ble_eq_true rfl) dX6_isReading_10 ⟨Nat.zero_le _, Nat.zero_le _⟩ ?_
    refine lv_aload_n hx hb dX6_isReading_13 rfl (lv_at hl 0 rfl) ?_
    refine va_get (D := E.1) (ci := 6) (v := .int x_t_isTrue) (C := RX6) (T := TX6) (N := 24) hx hb hts hiX6 hown hK hP 0 rfl rfl 0 (by decide) (hts (.fieldLink RX6 41 "CasketLinesModel" "isTrue" "I") (by decide +kernel)) (fun _ h9 => h9) rfl dX6_isReading_14 ?_
    refine lv_icmp_ne (tgt := 24) hx hb dX6_isReading_17 (by decide) (fun c16 => ?_) (fun c16 => ?_)
    · have h := ifn c16 h
      refine lv_iconst (v := 0) hx hb dX6_isReading_24 (by decide) ?_
      refine lv_istore (lv' := [(5, .int 0), (0, .ref a_t), (1, .int p1), (2, .int p2), (3, .int p3), (4, .int p4)]) hx hb dX6_isReading_25 hl (by decide) rfl (fun ls hl => ?_)
      refine lv_iconst (v := 0) hx hb dX6_isReading_27 (by decide) ?_
      refine lv_istore (lv' := [(6, .int 0), (5, .int 0), (0, .ref a_t), (1, .int p1), (2, .int p2), (3, .int p3), (4, .int p4)]) hx hb dX6_isReading_28 hl (by decide) rfl (fun ls hl => ?_)
      exact w_X6_isReading_30 a_t a_t_metal a_t_kind a_t_now a_t_readOf a_t_readKind a_t_text a_t_row a_t_nots a_t_isKept a_t_kept x_t_isTrue x_t_caskets x_t_wooers x_t_readTrue x_t_readCaskets x_t_readWooers x_t_readPicture x_t_length x_t_at x_t_faultAt x_t_acts x_t_next x_t_riddleMany x_t_seed r_t_now p1 p2 p3 p4  o_r X hw  200 0 0 h ls (lv_sub hl [2, 3, 4, 5, 6, 1, 0] rfl)
    · have h := ifp c16 h
      refine lv_iconst (v := 1) hx hb dX6_isReading_20 (by decide) ?_
      refine lv_goto (tgt := 25) hx hb dX6_isReading_21 (by decide) ?_
      refine lv_istore (lv' := [(5, .int 1), (0, .ref a_t), (1, .int p1), (2, .int p2), (3, .int p3), (4, .int p4)]) hx hb dX6_isReading_25 hl (by decide) rfl (fun ls hl => ?_)
      refine lv_iconst (v := 0) hx hb dX6_isReading_27 (by decide) ?_
      refine lv_istore (lv' := [(6, .int 0), (5, .int 1), (0, .ref a_t), (1, .int p1), (2, .int p2), (3, .int p3), (4, .int p4)]) hx hb dX6_isReading_28 hl (by decide) rfl (fun ls hl => ?_)
      exact w_X6_isReading_30 a_t a_t_metal a_t_kind a_t_now a_t_readOf a_t_readKind a_t_text a_t_row a_t_nots a_t_isKept a_t_kept x_t_isTrue x_t_caskets x_t_wooers x_t_readTrue x_t_readCaskets x_t_readWooers x_t_readPicture x_t_length x_t_at x_t_faultAt x_t_acts x_t_next x_t_riddleMany x_t_seed r_t_now p1 p2 p3 p4  o_r X hw  200 1 0 h ls (lv_sub hl [2, 3, 4, 5, 6, 1, 0] rfl)
set_option maxHeartbeats 4000000 in
set_option maxRecDepth 100000 in
theorem k_X6_isReading {l : Launch} {E : Ev} (a_t a_t_metal a_t_kind a_t_now a_t_readOf a_t_readKind a_t_text a_t_row a_t_nots a_t_isKept a_t_kept : Nat) (x_t_isTrue : Int32) (x_t_caskets : Int32) (x_t_wooers : Int32) (x_t_readTrue : Int32) (x_t_readCaskets : Int32) (x_t_readWooers : Int32) (x_t_readPicture : Int32) (x_t_length : Int32) (x_t_at : Int32) (x_t_faultAt : Int32) (x_t_acts : Int32) (x_t_next : Int32) (x_t_riddleMany : Int32) (x_t_seed : Int64) (r_t_now : Nat → Int32) (p1 : Int32) (p2 : Int32) (p3 : Int32) (p4 : Int32) (o_r : Int32) (hf : f_X6_isReading x_t_isTrue x_t_caskets r_t_now p1 p2 p3 p4 = some o_r) : Met l yX6_isReading wsX6_isReading ({ frames := 3, cells := 0, slots := 0, locals := 71 }) (Pr E [.ref a_t, .int p1, .int p2, .int p3, .int p4] [(a_t, .inr (6, [.int x_t_isTrue, .int x_t_caskets, .int x_t_wooers, .ref a_t_metal, .ref a_t_kind, .ref a_t_now, .ref a_t_readOf, .ref a_t_readKind, .int x_t_readTrue, .int x_t_readCaskets, .int x_t_readWooers, .int x_t_readPicture, .ref a_t_text, .int x_t_length, .int x_t_at, .int x_t_faultAt, .int x_t_acts, .int x_t_next, .ref a_t_row, .int x_t_riddleMany, .ref a_t_nots, .long x_t_seed, .ref a_t_isKept, .ref a_t_kept])), (a_t_now, .inl (E.2.1, 36, .inl r_t_now))]) (Qr (some (.int o_r))) 0 0 (fun _ => False) := by
  refine Met.ofW (cc := cX6_isReading) (maxL := 7) (ret := (some .boolean)) (by decide) rfl ?_
  intro p e s m args below meth c s₁ B hml hv
  obtain ⟨rfl, hw⟩ := hv
  have X := Cxt.of B hml
  have hl := lv_entry ([.ref a_t, .int p1, .int p2, .int p3, .int p4]) (n := 7) (Nat.le_of_ble_eq_true rfl)
  rw [lg_entry_eq]
  exact w_X6_isReading a_t a_t_metal a_t_kind a_t_now a_t_readOf a_t_readKind a_t_text a_t_row a_t_nots a_t_isKept a_t_kept x_t_isTrue x_t_caskets x_t_wooers x_t_readTrue x_t_readCaskets x_t_readWooers x_t_readPicture x_t_length x_t_at x_t_faultAt x_t_acts x_t_next x_t_riddleMany x_t_seed r_t_now p1 p2 p3 p4 o_r X hw hf hl
set_option maxHeartbeats 4000000 in
set_option maxRecDepth 100000 in
theorem w_X6_readings_6_b {p : Program} {l : Launch} {e : Env} {s : State} {m : MethodId} {args : Array Value} {below : List Frame} {meth : Method} {c : Code} {E : Ev} (a_t a_t_metal a_t_kind a_t_now a_t_readOf a_t_readKind a_t_text a_t_row a_t_nots a_t_isKept a_t_kept : Nat) (x_t_isTrue : Int32) (x_t_caskets : Int32) (x_t_wooers : Int32) (x_t_readTrue : Int32) (x_t_readCaskets : Int32) (x_t_readWooers : Int32) (x_t_readPicture : Int32) (x_t_length : Int32) (x_t_at : Int32) (x_t_faultAt : Int32) (x_t_acts : Int32) (x_t_next : Int32) (x_t_riddleMany : Int32) (x_t_seed : Int64) (r_t_now : Nat → Int32) (v1 : Int32) (v2 : Int32) (v3 : Int32) (o_r : Int32) (X : Cxt p s m args meth c cX6_readings 6 wsX6_readings RX6 (some .int)) (hw : wd E [(a_t, .inr (6, [.int x_t_isTrue, .int x_t_caskets, .int x_t_wooers, .ref a_t_metal, .ref a_t_kind, .ref a_t_now, .ref a_t_readOf, .ref a_t_readKind, .int x_t_readTrue, .int x_t_readCaskets, .int x_t_readWooers, .int x_t_readPicture, .ref a_t_text, .int x_t_length, .int x_t_at, .int x_t_faultAt, .int x_t_acts, .int x_t_next, .ref a_t_row, .int x_t_riddleMany, .ref a_t_nots, .long x_t_seed, .ref a_t_isKept, .ref a_t_kept])), (a_t_now, .inl (E.2.1, 36, .inl r_t_now))] s s.heap) (k6 : Int32 × Int32 → Option (Int32)) (hk6 : ∀ (v4 : Int32) (v5 : Int32), k6 (v4, v5) = some o_r → ∀ (ls : Array Slot), lv_has ls 6 [(0, .ref a_t), (1, .int v1), (2, .int v2), (3, .int v3), (4, .int v4), (5, .int v5)] → W p l e { frames := 4, cells := 0, slots := 0, locals := 97 } s m args below meth c s.heap [] 0 0 (MQ below (Qr (some (.int o_r))) args s 0 0 (fun _ => False)) (F0 m 6 ls [])) (v4 : Int32) (v5 : Int32) (h : f_X6_readings_6_b x_t_isTrue x_t_caskets r_t_now v1 v2 v3 k6 v4 v5 = some o_r) {ls : Array Slot} (hl : lv_has ls 6 [(0, .ref a_t), (1, .int v1), (2, .int v2), (3, .int v3), (4, .int v4), (5, .int v5)]) : W p l e { frames := 4, cells := 0, slots := 0, locals := 97 } s m args below meth c s.heap [] 0 0 (MQ below (Qr (some (.int o_r))) args s 0 0 (fun _ => False)) (F0 m 6 ls []) := by
  obtain ⟨⟨hx, hb, hml, hown, hts⟩, hr, hlocks⟩ := id X
  obtain ⟨hC, hP⟩ := id hw
  have hK := hC.1
  unfold f_X6_readings_6_b at h
  refine lv_iload hx hb dX6_readings_6 (lv_at hl 5 rfl) ?_
  refine lv_aload_n hx hb dX6_readings_8 rfl (lv_at hl 0 rfl) ?_
  obtain ⟨r1, g2, h⟩ := bnd h
  refine rcV (As := []) (rest := [.int v5]) ⟨hx, hb, hml, hown, hts⟩ (k_X6_all (l := l) (E := E) a_t a_t_metal a_t_kind a_t_now a_t_readOf a_t_readKind a_t_text a_t_row a_t_nots a_t_isKept a_t_kept x_t_isTrue x_t_caskets x_t_wooers x_t_readTrue x_t_readCaskets x_t_readWooers x_t_readPicture x_t_length x_t_at x_t_faultAt x_t_acts x_t_next x_t_riddleMany x_t_seed r1 g2) (cwV 0 hts gX6_readings_X6_all rfl rfl rfl (by decide +kernel) ⟨Nat.le_of_ble_eq_true rfl, Nat.le_of_ble_eq_true rfl⟩) hC hP [0] rfl 0 6 rfl rfl rfl rfl hl.1 rfl (Nat.le_of_ble_eq_true rfl) dX6_readings_9 ⟨Nat.zero_le _, Nat.zero_le _⟩ ?_
  refine lv_icmp_gt (tgt := 43) hx hb dX6_readings_12 (by decide) (fun c3 => ?_) (fun c3 => ?_)
  · have h := ifp c3 h
    refine lv_iload hx hb dX6_readings_43 (lv_at hl 4 rfl) ?_
    exact W.iret hx hb hr (fun t ht _ => ⟨by cases h; rfl, ht⟩) (fun _ hq => absurd hq List.not_mem_nil) dX6_readings_45
  · have h := ifn c3 h
    refine lv_iload hx hb dX6_readings_15 (lv_at hl 4 rfl) ?_
    refine lv_aload_n hx hb dX6_readings_17 rfl (lv_at hl 0 rfl) ?_
    refine lv_iload_n hx hb dX6_readings_18 rfl (lv_at hl 1 rfl) ?_
    refine lv_iload_n hx hb dX6_readings_19 rfl (lv_at hl 2 rfl) ?_
    refine lv_iload hx hb dX6_readings_20 (lv_at hl 5 rfl) ?_
    refine lv_iload_n hx hb dX6_readings_22 rfl (lv_at hl 3 rfl) ?_
    obtain ⟨r4, g5, h⟩ := bnd h
    refine rcV (As := [.int v1, .int v2, .int v5, .int v3]) (rest := [.int v4]) ⟨hx, hb, hml, hown, hts⟩ (k_X6_isReading (l := l) (E := E) a_t a_t_metal a_t_kind a_t_now a_t_readOf a_t_readKind a_t_text a_t_row a_t_nots a_t_isKept a_t_kept x_t_isTrue x_t_caskets x_t_wooers x_t_readTrue x_t_readCaskets x_t_readWooers x_t_readPicture x_t_length x_t_at x_t_faultAt x_t_acts x_t_next x_t_riddleMany x_t_seed r_t_now v1 v2 v5 v3 r4 g5) (cwV 4 hts gX6_readings_X6_isReading rfl rfl rfl (by decide +kernel) ⟨Nat.le_of_ble_eq_true rfl, Nat.le_of_ble_eq_true rfl⟩) hC hP [0, 1] rfl 0 6 rfl rfl rfl rfl hl.1 rfl (Nat.le_of_ble_eq_true rfl) dX6_readings_23 ⟨Nat.zero_le _, Nat.zero_le _⟩ ?_
    refine lv_if_eq (tgt := 33) hx hb dX6_readings_26 (by decide) (fun c6 => ?_) (fun c6 => ?_)
    · have h := ifp c6 h
      refine lv_iconst (v := 0) hx hb dX6_readings_33 (by decide) ?_
      refine lv_iadd hx hb dX6_readings_34 ?_
      refine lv_istore (lv' := [(4, .int (v4 + 0)), (0, .ref a_t), (1, .int v1), (2, .int v2), (3, .int v3), (5, .int v5)]) hx hb dX6_readings_35 hl (by decide) rfl (fun ls hl => ?_)
      refine lv_iinc (v := (v5 + 1)) (lv' := [(5, .int (v5 + 1)), (4, .int (v4 + 0)), (0, .ref a_t), (1, .int v1), (2, .int v2), (3, .int v3)]) hx hb dX6_readings_37 hl (k := 5) rfl rfl (by decide) rfl (fun ls hl => ?_)
      refine lv_goto (tgt := 6) hx hb dX6_readings_40 (by decide) ?_
      exact hk6 (v4 + 0) (v5 + 1) h ls (lv_sub hl [2, 3, 4, 5, 1, 0] rfl)
    · have h := ifn c6 h
      refine lv_iconst (v := 1) hx hb dX6_readings_29 (by decide) ?_
      refine lv_goto (tgt := 34) hx hb dX6_readings_30 (by decide) ?_
      refine lv_iadd hx hb dX6_readings_34 ?_
      refine lv_istore (lv' := [(4, .int (v4 + 1)), (0, .ref a_t), (1, .int v1), (2, .int v2), (3, .int v3), (5, .int v5)]) hx hb dX6_readings_35 hl (by decide) rfl (fun ls hl => ?_)
      refine lv_iinc (v := (v5 + 1)) (lv' := [(5, .int (v5 + 1)), (4, .int (v4 + 1)), (0, .ref a_t), (1, .int v1), (2, .int v2), (3, .int v3)]) hx hb dX6_readings_37 hl (k := 5) rfl rfl (by decide) rfl (fun ls hl => ?_)
      refine lv_goto (tgt := 6) hx hb dX6_readings_40 (by decide) ?_
      exact hk6 (v4 + 1) (v5 + 1) h ls (lv_sub hl [2, 3, 4, 5, 1, 0] rfl)
set_option maxHeartbeats 4000000 in
set_option maxRecDepth 100000 in
theorem w_X6_readings_6 {p : Program} {l : Launch} {e : Env} {s : State} {m : MethodId} {args : Array Value} {below : List Frame} {meth : Method} {c : Code} {E : Ev} (a_t a_t_metal a_t_kind a_t_now a_t_readOf a_t_readKind a_t_text a_t_row a_t_nots a_t_isKept a_t_kept : Nat) (x_t_isTrue : Int32) (x_t_caskets : Int32) (x_t_wooers : Int32) (x_t_readTrue : Int32) (x_t_readCaskets : Int32) (x_t_readWooers : Int32) (x_t_readPicture : Int32) (x_t_length : Int32) (x_t_at : Int32) (x_t_faultAt : Int32) (x_t_acts : Int32) (x_t_next : Int32) (x_t_riddleMany : Int32) (x_t_seed : Int64) (r_t_now : Nat → Int32) (v1 : Int32) (v2 : Int32) (v3 : Int32) (o_r : Int32) (X : Cxt p s m args meth c cX6_readings 6 wsX6_readings RX6 (some .int)) (hw : wd E [(a_t, .inr (6, [.int x_t_isTrue, .int x_t_caskets, .int x_t_wooers, .ref a_t_metal, .ref a_t_kind, .ref a_t_now, .ref a_t_readOf, .ref a_t_readKind, .int x_t_readTrue, .int x_t_readCaskets, .int x_t_readWooers, .int x_t_readPicture, .ref a_t_text, .int x_t_length, .int x_t_at, .int x_t_faultAt, .int x_t_acts, .int x_t_next, .ref a_t_row, .int x_t_riddleMany, .ref a_t_nots, .long x_t_seed, .ref a_t_isKept, .ref a_t_kept])), (a_t_now, .inl (E.2.1, 36, .inl r_t_now))] s s.heap) : ∀ (n : Nat) (v4 : Int32) (v5 : Int32), f_X6_readings_6 x_t_isTrue x_t_caskets r_t_now v1 v2 v3 n v4 v5 = some o_r → ∀ (ls : Array Slot), lv_has ls 6 [(0, .ref a_t), (1, .int v1), (2, .int v2), (3, .int v3), (4, .int v4), (5, .int v5)] → W p l e { frames := 4, cells := 0, slots := 0, locals := 97 } s m args below meth c s.heap [] 0 0 (MQ below (Qr (some (.int o_r))) args s 0 0 (fun _ => False)) (F0 m 6 ls []) := by
  intro n
  induction n with
  | zero =>
    intro v4 v5 h
    exact (rk_z _ _ h).elim
  | succ n ih =>
    intro v4 v5 h ls hl
    exact w_X6_readings_6_b a_t a_t_metal a_t_kind a_t_now a_t_readOf a_t_readKind a_t_text a_t_row a_t_nots a_t_isKept a_t_kept x_t_isTrue x_t_caskets x_t_wooers x_t_readTrue x_t_readCaskets x_t_readWooers x_t_readPicture x_t_length x_t_at x_t_faultAt x_t_acts x_t_next x_t_riddleMany x_t_seed r_t_now v1 v2 v3  o_r X hw  (rk (fun k x => f_X6_readings_6_b x_t_isTrue x_t_caskets r_t_now v1 v2 v3  k (x.1) (x.2)) n) (fun v4 v5 hh => ih v4 v5 hh) v4 v5 h hl
set_option maxHeartbeats 4000000 in
set_option maxRecDepth 100000 in
theorem w_X6_readings {p : Program} {l : Launch} {e : Env} {s : State} {m : MethodId} {args : Array Value} {below : List Frame} {meth : Method} {c : Code} {E : Ev} (a_t a_t_metal a_t_kind a_t_now a_t_readOf a_t_readKind a_t_text a_t_row a_t_nots a_t_isKept a_t_kept : Nat) (x_t_isTrue : Int32) (x_t_caskets : Int32) (x_t_wooers : Int32) (x_t_readTrue : Int32) (x_t_readCaskets : Int32) (x_t_readWooers : Int32) (x_t_readPicture : Int32) (x_t_length : Int32) (x_t_at : Int32) (x_t_faultAt : Int32) (x_t_acts : Int32) (x_t_next : Int32) (x_t_riddleMany : Int32) (x_t_seed : Int64) (r_t_now : Nat → Int32) (p1 : Int32) (p2 : Int32) (p3 : Int32) (o_r : Int32) (X : Cxt p s m args meth c cX6_readings 6 wsX6_readings RX6 (some .int)) (hw : wd E [(a_t, .inr (6, [.int x_t_isTrue, .int x_t_caskets, .int x_t_wooers, .ref a_t_metal, .ref a_t_kind, .ref a_t_now, .ref a_t_readOf, .ref a_t_readKind, .int x_t_readTrue, .int x_t_readCaskets, .int x_t_readWooers, .int x_t_readPicture, .ref a_t_text, .int x_t_length, .int x_t_at, .int x_t_faultAt, .int x_t_acts, .int x_t_next, .ref a_t_row, .int x_t_riddleMany, .ref a_t_nots, .long x_t_seed, .ref a_t_isKept, .ref a_t_kept])), (a_t_now, .inl (E.2.1, 36, .inl r_t_now))] s s.heap) (h : f_X6_readings x_t_isTrue x_t_caskets r_t_now p1 p2 p3 = some o_r) {ls : Array Slot} (hl : lv_has ls 6 [(0, .ref a_t), (1, .int p1), (2, .int p2), (3, .int p3)]) : W p l e { frames := 4, cells := 0, slots := 0, locals := 97 } s m args below meth c s.heap [] 0 0 (MQ below (Qr (some (.int o_r))) args s 0 0 (fun _ => False)) (F0 m 0 ls []) := by
  obtain ⟨⟨hx, hb, hml, hown, hts⟩, hr, hlocks⟩ := id X
  obtain ⟨hC, hP⟩ := id hw
  have hK := hC.1
  unfold f_X6_readings at h
  refine lv_iconst (v := 0) hx hb dX6_readings_0 (by decide) ?_
  refine lv_istore (lv' := [(4, .int 0), (0, .ref a_t), (1, .int p1), (2, .int p2), (3, .int p3)]) hx hb dX6_readings_1 hl (by decide) rfl (fun ls hl => ?_)
  refine lv_iconst (v := 0) hx hb dX6_readings_3 (by decide) ?_
  refine lv_istore (lv' := [(5, .int 0), (4, .int 0), (0, .ref a_t), (1, .int p1), (2, .int p2), (3, .int p3)]) hx hb dX6_readings_4 hl (by decide) rfl (fun ls hl => ?_)
  exact w_X6_readings_6 a_t a_t_metal a_t_kind a_t_now a_t_readOf a_t_readKind a_t_text a_t_row a_t_nots a_t_isKept a_t_kept x_t_isTrue x_t_caskets x_t_wooers x_t_readTrue x_t_readCaskets x_t_readWooers x_t_readPicture x_t_length x_t_at x_t_faultAt x_t_acts x_t_next x_t_riddleMany x_t_seed r_t_now p1 p2 p3  o_r X hw  200 0 0 h ls (lv_sub hl [2, 3, 4, 5, 1, 0] rfl)
set_option maxHeartbeats 4000000 in
set_option maxRecDepth 100000 in
theorem k_X6_readings {l : Launch} {E : Ev} (a_t a_t_metal a_t_kind a_t_now a_t_readOf a_t_readKind a_t_text a_t_row a_t_nots a_t_isKept a_t_kept : Nat) (x_t_isTrue : Int32) (x_t_caskets : Int32) (x_t_wooers : Int32) (x_t_readTrue : Int32) (x_t_readCaskets : Int32) (x_t_readWooers : Int32) (x_t_readPicture : Int32) (x_t_length : Int32) (x_t_at : Int32) (x_t_faultAt : Int32) (x_t_acts : Int32) (x_t_next : Int32) (x_t_riddleMany : Int32) (x_t_seed : Int64) (r_t_now : Nat → Int32) (p1 : Int32) (p2 : Int32) (p3 : Int32) (o_r : Int32) (hf : f_X6_readings x_t_isTrue x_t_caskets r_t_now p1 p2 p3 = some o_r) : Met l yX6_readings wsX6_readings ({ frames := 4, cells := 0, slots := 0, locals := 97 }) (Pr E [.ref a_t, .int p1, .int p2, .int p3] [(a_t, .inr (6, [.int x_t_isTrue, .int x_t_caskets, .int x_t_wooers, .ref a_t_metal, .ref a_t_kind, .ref a_t_now, .ref a_t_readOf, .ref a_t_readKind, .int x_t_readTrue, .int x_t_readCaskets, .int x_t_readWooers, .int x_t_readPicture, .ref a_t_text, .int x_t_length, .int x_t_at, .int x_t_faultAt, .int x_t_acts, .int x_t_next, .ref a_t_row, .int x_t_riddleMany, .ref a_t_nots, .long x_t_seed, .ref a_t_isKept, .ref a_t_kept])), (a_t_now, .inl (E.2.1, 36, .inl r_t_now))]) (Qr (some (.int o_r))) 0 0 (fun _ => False) := by
  refine Met.ofW (cc := cX6_readings) (maxL := 6) (ret := (some .int)) (by decide) rfl ?_
  intro p e s m args below meth c s₁ B hml hv
  obtain ⟨rfl, hw⟩ := hv
  have X := Cxt.of B hml
  have hl := lv_entry ([.ref a_t, .int p1, .int p2, .int p3]) (n := 6) (Nat.le_of_ble_eq_true rfl)
  rw [lg_entry_eq]
  exact w_X6_readings a_t a_t_metal a_t_kind a_t_now a_t_readOf a_t_readKind a_t_text a_t_row a_t_nots a_t_isKept a_t_kept x_t_isTrue x_t_caskets x_t_wooers x_t_readTrue x_t_readCaskets x_t_readWooers x_t_readPicture x_t_length x_t_at x_t_faultAt x_t_acts x_t_next x_t_riddleMany x_t_seed r_t_now p1 p2 p3 o_r X hw hf hl
set_option maxHeartbeats 4000000 in
set_option maxRecDepth 100000 in
theorem w_X6_fitsOn_5_b {p : Program} {l : Launch} {e : Env} {s : State} {m : MethodId} {args : Array Value} {below : List Frame} {meth : Method} {c : Code} {E : Ev} (a_t a_t_metal a_t_kind a_t_now a_t_readOf a_t_readKind a_t_text a_t_row a_t_nots a_t_isKept a_t_kept : Nat) (x_t_isTrue : Int32) (x_t_caskets : Int32) (x_t_wooers : Int32) (x_t_readTrue : Int32) (x_t_readCaskets : Int32) (x_t_readWooers : Int32) (x_t_readPicture : Int32) (x_t_length : Int32) (x_t_at : Int32) (x_t_faultAt : Int32) (x_t_acts : Int32) (x_t_next : Int32) (x_t_riddleMany : Int32) (x_t_seed : Int64) (r_t_now : Nat → Int32) (v1 : Int32) (v2 : Int32) (o_r : Int32) (X : Cxt p s m args meth c cX6_fitsOn 5 wsX6_fitsOn RX6 (some .int)) (hw : wd E [(a_t, .inr (6, [.int x_t_isTrue, .int x_t_caskets, .int x_t_wooers, .ref a_t_metal, .ref a_t_kind, .ref a_t_now, .ref a_t_readOf, .ref a_t_readKind, .int x_t_readTrue, .int x_t_readCaskets, .int x_t_readWooers, .int x_t_readPicture, .ref a_t_text, .int x_t_length, .int x_t_at, .int x_t_faultAt, .int x_t_acts, .int x_t_next, .ref a_t_row, .int x_t_riddleMany, .ref a_t_nots, .long x_t_seed, .ref a_t_isKept, .ref a_t_kept])), (a_t_now, .inl (E.2.1, 36, .inl r_t_now))] s s.heap) (k5 : Int32 × Int32 → Option (Int32)) (hk5 : ∀ (v3 : Int32) (v4 : Int32), k5 (v3, v4) = some o_r → ∀ (ls : Array Slot), lv_has ls 5 [(0, .ref a_t), (1, .int v1), (2, .int v2), (3, .int v3), (4, .int v4)] → W p l e { frames := 5, cells := 0, slots := 0, locals := 122 } s m args below meth c s.heap [] 0 0 (MQ below (Qr (some (.int o_r))) args s 0 0 (fun _ => False)) (F0 m 5 ls [])) (v3 : Int32) (v4 : Int32) (h : f_X6_fitsOn_5_b x_t_isTrue x_t_caskets r_t_now v1 v2 k5 v3 v4 = some o_r) {ls : Array Slot} (hl : lv_has ls 5 [(0, .ref a_t), (1, .int v1), (2, .int v2), (3, .int v3), (4, .int v4)]) : W p l e { frames := 5, cells := 0, slots := 0, locals := 122 } s m args below meth c s.heap [] 0 0 (MQ below (Qr (some (.int o_r))) args s 0 0 (fun _ => False)) (F0 m 5 ls []) := by
  obtain ⟨⟨hx, hb, hml, hown, hts⟩, hr, hlocks⟩ := id X
  obtain ⟨hC, hP⟩ := id hw
  have hiX6 : ∀ w ∈ u_ws RX6 TX6 24, w ∈ wsX6_fitsOn := by decide +kernel
  have hK := hC.1
  unfold f_X6_fitsOn_5_b at h
  refine lv_iload hx hb dX6_fitsOn_5 (lv_at hl 4 rfl) ?_
  refine lv_aload_n hx hb dX6_fitsOn_7 rfl (lv_at hl 0 rfl) ?_
  refine va_get (D := E.1) (ci := 6) (v := .int x_t_caskets) (C := RX6) (T := TX6) (N := 24) hx hb hts hiX6 hown hK hP 0 rfl rfl 1 (by decide) (hts (.fieldLink RX6 90 "CasketLinesModel" "caskets" "I") (by decide +kernel)) (fun _ h9 => h9) rfl dX6_fitsOn_8 ?_
  refine lv_icmp_ge (tgt := 42) hx hb dX6_fitsOn_11 (by decide) (fun c1 => ?_) (fun c1 => ?_)
  · have h := ifp c1 h
    refine lv_iload_n hx hb dX6_fitsOn_42 rfl (lv_at hl 3 rfl) ?_
    exact W.iret hx hb hr (fun t ht _ => ⟨by cases h; rfl, ht⟩) (fun _ hq => absurd hq List.not_mem_nil) dX6_fitsOn_43
  · have h := ifn c1 h
    refine lv_iload_n hx hb dX6_fitsOn_14 rfl (lv_at hl 3 rfl) ?_
    refine lv_aload_n hx hb dX6_fitsOn_15 rfl (lv_at hl 0 rfl) ?_
    refine lv_iload_n hx hb dX6_fitsOn_16 rfl (lv_at hl 1 rfl) ?_
    refine lv_iload hx hb dX6_fitsOn_17 (lv_at hl 4 rfl) ?_
    refine lv_iload_n hx hb dX6_fitsOn_19 rfl (lv_at hl 2 rfl) ?_
    obtain ⟨r2, g3, h⟩ := bnd h
    refine rcV (As := [.int v1, .int v4, .int v2]) (rest := [.int v3]) ⟨hx, hb, hml, hown, hts⟩ (k_X6_readings (l := l) (E := E) a_t a_t_metal a_t_kind a_t_now a_t_readOf a_t_readKind a_t_text a_t_row a_t_nots a_t_isKept a_t_kept x_t_isTrue x_t_caskets x_t_wooers x_t_readTrue x_t_readCaskets x_t_readWooers x_t_readPicture x_t_length x_t_at x_t_faultAt x_t_acts x_t_next x_t_riddleMany x_t_seed r_t_now v1 v4 v2 r2 g3) (cwV 3 hts gX6_fitsOn_X6_readings rfl rfl rfl (by decide +kernel) ⟨Nat.le_of_ble_eq_true rfl, Nat.le_of_ble_eq_true rfl⟩) hC hP [0, 1] rfl 0 6 rfl rfl rfl rfl hl.1 rfl (Nat.le_of_ble_eq_true rfl) dX6_fitsOn_20 ⟨Nat.zero_le _, Nat.zero_le _⟩ ?_
    refine lv_if_le (tgt := 33) hx hb dX6_fitsOn_23 (by decide) (fun c4 => ?_) (fun c4 => ?_)
    · have h := ifp c4 h
      refine lv_iconst (v := 0) hx hb dX6_fitsOn_33 (by decide) ?_
      refine lv_ior hx hb dX6_fitsOn_34 ?_
      refine lv_istore_n (lv' := [(3, .int (v3 ||| 0)), (0, .ref a_t), (1, .int v1), (2, .int v2), (4, .int v4)]) hx hb dX6_fitsOn_35 rfl hl (by decide) rfl (fun ls hl => ?_)
      refine lv_iinc (v := (v4 + 1)) (lv' := [(4, .int (v4 + 1)), (3, .int (v3 ||| 0)), (0, .ref a_t), (1, .int v1), (2, .int v2)]) hx hb dX6_fitsOn_36 hl (k := 4) rfl rfl (by decide) rfl (fun ls hl => ?_)
      refine lv_goto (tgt := 5) hx hb dX6_fitsOn_39 (by decide) ?_
      exact hk5 (v3 ||| 0) (v4 + 1) h ls (lv_sub hl [2, 3, 4, 1, 0] rfl)
    · have h := ifn c4 h
      refine lv_iconst (v := 1) hx hb dX6_fitsOn_26 (by decide) ?_
      refine lv_iload hx hb dX6_fitsOn_27 (lv_at hl 4 rfl) ?_
      refine lv_ishl hx hb dX6_fitsOn_29 ?_
      refine lv_goto (tgt := 34) hx hb dX6_fitsOn_30 (by decide) ?_
      refine lv_ior hx hb dX6_fitsOn_34 ?_
      refine lv_istore_n (lv' := [(3, .int (v3 ||| ((1 : Int32) <<< (v4 &&& 31)))), (0, .ref a_t), (1, .int v1), (2, .int v2), (4, .int v4)]) hx hb dX6_fitsOn_35 rfl hl (by decide) rfl (fun ls hl => ?_)
      refine lv_iinc (v := (v4 + 1)) (lv' := [(4, .int (v4 + 1)), (3, .int (v3 ||| ((1 : Int32) <<< (v4 &&& 31)))), (0, .ref a_t), (1, .int v1), (2, .int v2)]) hx hb dX6_fitsOn_36 hl (k := 4) rfl rfl (by decide) rfl (fun ls hl => ?_)
      refine lv_goto (tgt := 5) hx hb dX6_fitsOn_39 (by decide) ?_
      exact hk5 (v3 ||| ((1 : Int32) <<< (v4 &&& 31))) (v4 + 1) h ls (lv_sub hl [2, 3, 4, 1, 0] rfl)
set_option maxHeartbeats 4000000 in
set_option maxRecDepth 100000 in
theorem w_X6_fitsOn_5 {p : Program} {l : Launch} {e : Env} {s : State} {m : MethodId} {args : Array Value} {below : List Frame} {meth : Method} {c : Code} {E : Ev} (a_t a_t_metal a_t_kind a_t_now a_t_readOf a_t_readKind a_t_text a_t_row a_t_nots a_t_isKept a_t_kept : Nat) (x_t_isTrue : Int32) (x_t_caskets : Int32) (x_t_wooers : Int32) (x_t_readTrue : Int32) (x_t_readCaskets : Int32) (x_t_readWooers : Int32) (x_t_readPicture : Int32) (x_t_length : Int32) (x_t_at : Int32) (x_t_faultAt : Int32) (x_t_acts : Int32) (x_t_next : Int32) (x_t_riddleMany : Int32) (x_t_seed : Int64) (r_t_now : Nat → Int32) (v1 : Int32) (v2 : Int32) (o_r : Int32) (X : Cxt p s m args meth c cX6_fitsOn 5 wsX6_fitsOn RX6 (some .int)) (hw : wd E [(a_t, .inr (6, [.int x_t_isTrue, .int x_t_caskets, .int x_t_wooers, .ref a_t_metal, .ref a_t_kind, .ref a_t_now, .ref a_t_readOf, .ref a_t_readKind, .int x_t_readTrue, .int x_t_readCaskets, .int x_t_readWooers, .int x_t_readPicture, .ref a_t_text, .int x_t_length, .int x_t_at, .int x_t_faultAt, .int x_t_acts, .int x_t_next, .ref a_t_row, .int x_t_riddleMany, .ref a_t_nots, .long x_t_seed, .ref a_t_isKept, .ref a_t_kept])), (a_t_now, .inl (E.2.1, 36, .inl r_t_now))] s s.heap) : ∀ (n : Nat) (v3 : Int32) (v4 : Int32), f_X6_fitsOn_5 x_t_isTrue x_t_caskets r_t_now v1 v2 n v3 v4 = some o_r → ∀ (ls : Array Slot), lv_has ls 5 [(0, .ref a_t), (1, .int v1), (2, .int v2), (3, .int v3), (4, .int v4)] → W p l e { frames := 5, cells := 0, slots := 0, locals := 122 } s m args below meth c s.heap [] 0 0 (MQ below (Qr (some (.int o_r))) args s 0 0 (fun _ => False)) (F0 m 5 ls []) := by
  intro n
  induction n with
  | zero =>
    intro v3 v4 h
    exact (rk_z _ _ h).elim
  | succ n ih =>
    intro v3 v4 h ls hl
    exact w_X6_fitsOn_5_b a_t a_t_metal a_t_kind a_t_now a_t_readOf a_t_readKind a_t_text a_t_row a_t_nots a_t_isKept a_t_kept x_t_isTrue x_t_caskets x_t_wooers x_t_readTrue x_t_readCaskets x_t_readWooers x_t_readPicture x_t_length x_t_at x_t_faultAt x_t_acts x_t_next x_t_riddleMany x_t_seed r_t_now v1 v2  o_r X hw  (rk (fun k x => f_X6_fitsOn_5_b x_t_isTrue x_t_caskets r_t_now v1 v2  k (x.1) (x.2)) n) (fun v3 v4 hh => ih v3 v4 hh) v3 v4 h hl
set_option maxHeartbeats 4000000 in
set_option maxRecDepth 100000 in
theorem w_X6_fitsOn {p : Program} {l : Launch} {e : Env} {s : State} {m : MethodId} {args : Array Value} {below : List Frame} {meth : Method} {c : Code} {E : Ev} (a_t a_t_metal a_t_kind a_t_now a_t_readOf a_t_readKind a_t_text a_t_row a_t_nots a_t_isKept a_t_kept : Nat) (x_t_isTrue : Int32) (x_t_caskets : Int32) (x_t_wooers : Int32) (x_t_readTrue : Int32) (x_t_readCaskets : Int32) (x_t_readWooers : Int32) (x_t_readPicture : Int32) (x_t_length : Int32) (x_t_at : Int32) (x_t_faultAt : Int32) (x_t_acts : Int32) (x_t_next : Int32) (x_t_riddleMany : Int32) (x_t_seed : Int64) (r_t_now : Nat → Int32) (p1 : Int32) (p2 : Int32) (o_r : Int32) (X : Cxt p s m args meth c cX6_fitsOn 5 wsX6_fitsOn RX6 (some .int)) (hw : wd E [(a_t, .inr (6, [.int x_t_isTrue, .int x_t_caskets, .int x_t_wooers, .ref a_t_metal, .ref a_t_kind, .ref a_t_now, .ref a_t_readOf, .ref a_t_readKind, .int x_t_readTrue, .int x_t_readCaskets, .int x_t_readWooers, .int x_t_readPicture, .ref a_t_text, .int x_t_length, .int x_t_at, .int x_t_faultAt, .int x_t_acts, .int x_t_next, .ref a_t_row, .int x_t_riddleMany, .ref a_t_nots, .long x_t_seed, .ref a_t_isKept, .ref a_t_kept])), (a_t_now, .inl (E.2.1, 36, .inl r_t_now))] s s.heap) (h : f_X6_fitsOn x_t_isTrue x_t_caskets r_t_now p1 p2 = some o_r) {ls : Array Slot} (hl : lv_has ls 5 [(0, .ref a_t), (1, .int p1), (2, .int p2)]) : W p l e { frames := 5, cells := 0, slots := 0, locals := 122 } s m args below meth c s.heap [] 0 0 (MQ below (Qr (some (.int o_r))) args s 0 0 (fun _ => False)) (F0 m 0 ls []) := by
  obtain ⟨⟨hx, hb, hml, hown, hts⟩, hr, hlocks⟩ := id X
  obtain ⟨hC, hP⟩ := id hw
  have hiX6 : ∀ w ∈ u_ws RX6 TX6 24, w ∈ wsX6_fitsOn := by decide +kernel
  have hK := hC.1
  unfold f_X6_fitsOn at h
  refine lv_iconst (v := 0) hx hb dX6_fitsOn_0 (by decide) ?_
  refine lv_istore_n (lv' := [(3, .int 0), (0, .ref a_t), (1, .int p1), (2, .int p2)]) hx hb dX6_fitsOn_1 rfl hl (by decide) rfl (fun ls hl => ?_)
  refine lv_iconst (v := 0) hx hb dX6_fitsOn_2 (by decide) ?_
  refine lv_istore (lv' := [(4, .int 0), (3, .int 0), (0, .ref a_t), (1, .int p1), (2, .int p2)]) hx hb dX6_fitsOn_3 hl (by decide) rfl (fun ls hl => ?_)
  exact w_X6_fitsOn_5 a_t a_t_metal a_t_kind a_t_now a_t_readOf a_t_readKind a_t_text a_t_row a_t_nots a_t_isKept a_t_kept x_t_isTrue x_t_caskets x_t_wooers x_t_readTrue x_t_readCaskets x_t_readWooers x_t_readPicture x_t_length x_t_at x_t_faultAt x_t_acts x_t_next x_t_riddleMany x_t_seed r_t_now p1 p2  o_r X hw  200 0 0 h ls (lv_sub hl [2, 3, 4, 1, 0] rfl)
set_option maxHeartbeats 4000000 in
set_option maxRecDepth 100000 in
theorem k_X6_fitsOn {l : Launch} {E : Ev} (a_t a_t_metal a_t_kind a_t_now a_t_readOf a_t_readKind a_t_text a_t_row a_t_nots a_t_isKept a_t_kept : Nat) (x_t_isTrue : Int32) (x_t_caskets : Int32) (x_t_wooers : Int32) (x_t_readTrue : Int32) (x_t_readCaskets : Int32) (x_t_readWooers : Int32) (x_t_readPicture : Int32) (x_t_length : Int32) (x_t_at : Int32) (x_t_faultAt : Int32) (x_t_acts : Int32) (x_t_next : Int32) (x_t_riddleMany : Int32) (x_t_seed : Int64) (r_t_now : Nat → Int32) (p1 : Int32) (p2 : Int32) (o_r : Int32) (hf : f_X6_fitsOn x_t_isTrue x_t_caskets r_t_now p1 p2 = some o_r) : Met l yX6_fitsOn wsX6_fitsOn ({ frames := 5, cells := 0, slots := 0, locals := 122 }) (Pr E [.ref a_t, .int p1, .int p2] [(a_t, .inr (6, [.int x_t_isTrue, .int x_t_caskets, .int x_t_wooers, .ref a_t_metal, .ref a_t_kind, .ref a_t_now, .ref a_t_readOf, .ref a_t_readKind, .int x_t_readTrue, .int x_t_readCaskets, .int x_t_readWooers, .int x_t_readPicture, .ref a_t_text, .int x_t_length, .int x_t_at, .int x_t_faultAt, .int x_t_acts, .int x_t_next, .ref a_t_row, .int x_t_riddleMany, .ref a_t_nots, .long x_t_seed, .ref a_t_isKept, .ref a_t_kept])), (a_t_now, .inl (E.2.1, 36, .inl r_t_now))]) (Qr (some (.int o_r))) 0 0 (fun _ => False) := by
  refine Met.ofW (cc := cX6_fitsOn) (maxL := 5) (ret := (some .int)) (by decide) rfl ?_
  intro p e s m args below meth c s₁ B hml hv
  obtain ⟨rfl, hw⟩ := hv
  have X := Cxt.of B hml
  have hl := lv_entry ([.ref a_t, .int p1, .int p2]) (n := 5) (Nat.le_of_ble_eq_true rfl)
  rw [lg_entry_eq]
  exact w_X6_fitsOn a_t a_t_metal a_t_kind a_t_now a_t_readOf a_t_readKind a_t_text a_t_row a_t_nots a_t_isKept a_t_kept x_t_isTrue x_t_caskets x_t_wooers x_t_readTrue x_t_readCaskets x_t_readWooers x_t_readPicture x_t_length x_t_at x_t_faultAt x_t_acts x_t_next x_t_riddleMany x_t_seed r_t_now p1 p2 o_r X hw hf hl
set_option maxHeartbeats 4000000 in
set_option maxRecDepth 100000 in
theorem w_X6_picks_28_b {p : Program} {l : Launch} {e : Env} {s : State} {m : MethodId} {args : Array Value} {below : List Frame} {meth : Method} {c : Code} {E : Ev} (a_t a_t_metal a_t_kind a_t_now a_t_readOf a_t_readKind a_t_text a_t_row a_t_nots a_t_isKept a_t_kept : Nat) (x_t_isTrue : Int32) (x_t_caskets : Int32) (x_t_wooers : Int32) (x_t_readTrue : Int32) (x_t_readCaskets : Int32) (x_t_readWooers : Int32) (x_t_readPicture : Int32) (x_t_length : Int32) (x_t_at : Int32) (x_t_faultAt : Int32) (x_t_acts : Int32) (x_t_next : Int32) (x_t_riddleMany : Int32) (x_t_seed : Int64) (r_t_metal : Nat → Int32) (v4 : Int32) (o_r : Int32) (X : Cxt p s m args meth c cX6_picks 8 wsX6_picks RX6 (some .int)) (hw : wd E [(a_t, .inr (6, [.int x_t_isTrue, .int x_t_caskets, .int x_t_wooers, .ref a_t_metal, .ref a_t_kind, .ref a_t_now, .ref a_t_readOf, .ref a_t_readKind, .int x_t_readTrue, .int x_t_readCaskets, .int x_t_readWooers, .int x_t_readPicture, .ref a_t_text, .int x_t_length, .int x_t_at, .int x_t_faultAt, .int x_t_acts, .int x_t_next, .ref a_t_row, .int x_t_riddleMany, .ref a_t_nots, .long x_t_seed, .ref a_t_isKept, .ref a_t_kept])), (a_t_metal, .inl (E.2.1, 4, .inl r_t_metal))] s s.heap) (k28 : Int32 × Int32 → Option (Int32)) (hk28 : ∀ (v6 : Int32) (v7 : Int32), k28 (v6, v7) = some o_r → ∀ (ls : Array Slot), lv_has ls 8 [(0, .ref a_t), (4, .int v4), (6, .int v6), (7, .int v7)] → W p l e { frames := 2, cells := 0, slots := 0, locals := 43 } s m args below meth c s.heap [] 0 0 (MQ below (Qr (some (.int o_r))) args s 0 0 (fun _ => False)) (F0 m 28 ls [])) (v6 : Int32) (v7 : Int32) (h : f_X6_picks_28_b x_t_caskets r_t_metal v4 k28 v6 v7 = some o_r) {ls : Array Slot} (hl : lv_has ls 8 [(0, .ref a_t), (4, .int v4), (6, .int v6), (7, .int v7)]) : W p l e { frames := 2, cells := 0, slots := 0, locals := 43 } s m args below meth c s.heap [] 0 0 (MQ below (Qr (some (.int o_r))) args s 0 0 (fun _ => False)) (F0 m 28 ls []) := by
  obtain ⟨⟨hx, hb, hml, hown, hts⟩, hr, hlocks⟩ := id X
  obtain ⟨hC, hP⟩ := id hw
  have hiX6 : ∀ w ∈ u_ws RX6 TX6 24, w ∈ wsX6_picks := by decide +kernel
  have hK := hC.1
  unfold f_X6_picks_28_b at h
  refine lv_iload hx hb dX6_picks_28 (lv_at hl 3 rfl) ?_
  refine lv_aload_n hx hb dX6_picks_30 rfl (lv_at hl 0 rfl) ?_
  refine va_get (D := E.1) (ci := 6) (v := .int x_t_caskets) (C := RX6) (T := TX6) (N := 24) hx hb hts hiX6 hown hK hP 0 rfl rfl 1 (by decide) (hts (.fieldLink RX6 90 "CasketLinesModel" "caskets" "I") (by decide +kernel)) (fun _ h9 => h9) rfl dX6_picks_31 ?_
  refine lv_icmp_ge (tgt := 86) hx hb dX6_picks_34 (by decide) (fun c1 => ?_) (fun c1 => ?_)
  · have h := ifp c1 h
    refine lv_iload hx hb dX6_picks_86 (lv_at hl 2 rfl) ?_
    exact W.iret hx hb hr (fun t ht _ => ⟨by cases h; rfl, ht⟩) (fun _ hq => absurd hq List.not_mem_nil) dX6_picks_88
  · have h := ifn c1 h
    refine lv_iload hx hb dX6_picks_37 (lv_at hl 1 rfl) ?_
    refine lv_iload hx hb dX6_picks_39 (lv_at hl 3 rfl) ?_
    obtain ⟨r2, g3, h⟩ := bnd h
    refine rcS (As := [.int v4, .int v7]) (rest := []) ⟨hx, hb, hml, hown, hts⟩ (k_X6_has (l := l) (E := E) v4 v7 r2 g3) (va_cwS 2 hts gX6_picks_X6_has rfl rfl rfl (by decide +kernel) ⟨Nat.le_of_ble_eq_true rfl, Nat.le_of_ble_eq_true rfl⟩) hC hP [] rfl rfl hl.1 rfl (Nat.le_of_ble_eq_true rfl) dX6_picks_41 ⟨Nat.zero_le _, Nat.zero_le _⟩ ?_
    refine lv_if_eq (tgt := 76) hx hb dX6_picks_44 (by decide) (fun c4 => ?_) (fun c4 => ?_)
    · have h := ifp c4 h
      refine lv_iload hx hb dX6_picks_76 (lv_at hl 2 rfl) ?_
      refine lv_istore (lv' := [(6, .int v6), (0, .ref a_t), (4, .int v4), (7, .int v7)]) hx hb dX6_picks_78 hl (by decide) rfl (fun ls hl => ?_)
      refine lv_iinc (v := (v7 + 1)) (lv' := [(7, .int (v7 + 1)), (6, .int v6), (0, .ref a_t), (4, .int v4)]) hx hb dX6_picks_80 hl (k := 3) rfl rfl (by decide) rfl (fun ls hl => ?_)
      refine lv_goto (tgt := 28) hx hb dX6_picks_83 (by decide) ?_
      exact hk28 v6 (v7 + 1) h ls (lv_sub hl [2, 3, 1, 0] rfl)
    · have h := ifn c4 h
      refine lv_iload hx hb dX6_picks_47 (lv_at hl 2 rfl) ?_
      refine lv_bipush (v := (-9)) hx hb dX6_picks_49 (by decide) ?_
      refine lv_icmp_eq (tgt := 71) hx hb dX6_picks_51 (by decide) (fun c5 => ?_) (fun c5 => ?_)
      · have h := ifp c5 h
        refine lv_iload hx hb dX6_picks_71 (lv_at hl 3 rfl) ?_
        refine lv_goto (tgt := 78) hx hb dX6_picks_73 (by decide) ?_
        refine lv_istore (lv' := [(6, .int v7), (0, .ref a_t), (4, .int v4), (7, .int v7)]) hx hb dX6_picks_78 hl (by decide) rfl (fun ls hl => ?_)
        refine lv_iinc (v := (v7 + 1)) (lv' := [(7, .int (v7 + 1)), (6, .int v7), (0, .ref a_t), (4, .int v4)]) hx hb dX6_picks_80 hl (k := 3) rfl rfl (by decide) rfl (fun ls hl => ?_)
        refine lv_goto (tgt := 28) hx hb dX6_picks_83 (by decide) ?_
        exact hk28 v7 (v7 + 1) h ls (lv_sub hl [2, 3, 1, 0] rfl)
      · have h := ifn c5 h
        refine lv_aload_n hx hb dX6_picks_54 rfl (lv_at hl 0 rfl) ?_
        refine va_get (D := E.1) (ci := 6) (v := .ref a_t_metal) (C := RX6) (T := TX6) (N := 24) hx hb hts hiX6 hown hK hP 0 rfl rfl 3 (by decide) (hts (.fieldLink RX6 7 "CasketLinesModel" "metal" "[I") (by decide +kernel)) (fun _ h9 => h9) rfl dX6_picks_55 ?_
        refine lv_iload hx hb dX6_picks_58 (lv_at hl 3 rfl) ?_
        obtain ⟨b6, h⟩ := gdn h
        refine va_iald hx hb hK hP 1 0 rfl rfl b6 dX6_picks_60 ?_
        refine lv_aload_n hx hb dX6_picks_61 rfl (lv_at hl 0 rfl) ?_
        refine va_get (D := E.1) (ci := 6) (v := .ref a_t_metal) (C := RX6) (T := TX6) (N := 24) hx hb hts hiX6 hown hK hP 0 rfl rfl 3 (by decide) (hts (.fieldLink RX6 7 "CasketLinesModel" "metal" "[I") (by decide +kernel)) (fun _ h9 => h9) rfl dX6_picks_62 ?_
        refine lv_iload hx hb dX6_picks_65 (lv_at hl 2 rfl) ?_
        obtain ⟨b7, h⟩ := gdn h
        refine va_iald hx hb hK hP 1 0 rfl rfl b7 dX6_picks_67 ?_
        refine lv_icmp_ge (tgt := 76) hx hb dX6_picks_68 (by decide) (fun c8 => ?_) (fun c8 => ?_)
        · have h := ifp c8 h
          refine lv_iload hx hb dX6_picks_76 (lv_at hl 2 rfl) ?_
          refine lv_istore (lv' := [(6, .int v6), (0, .ref a_t), (4, .int v4), (7, .int v7)]) hx hb dX6_picks_78 hl (by decide) rfl (fun ls hl => ?_)
          refine lv_iinc (v := (v7 + 1)) (lv' := [(7, .int (v7 + 1)), (6, .int v6), (0, .ref a_t), (4, .int v4)]) hx hb dX6_picks_80 hl (k := 3) rfl rfl (by decide) rfl (fun ls hl => ?_)
          refine lv_goto (tgt := 28) hx hb dX6_picks_83 (by decide) ?_
          exact hk28 v6 (v7 + 1) h ls (lv_sub hl [2, 3, 1, 0] rfl)
        · have h := ifn c8 h
          refine lv_iload hx hb dX6_picks_71 (lv_at hl 3 rfl) ?_
          refine lv_goto (tgt := 78) hx hb dX6_picks_73 (by decide) ?_
          refine lv_istore (lv' := [(6, .int v7), (0, .ref a_t), (4, .int v4), (7, .int v7)]) hx hb dX6_picks_78 hl (by decide) rfl (fun ls hl => ?_)
          refine lv_iinc (v := (v7 + 1)) (lv' := [(7, .int (v7 + 1)), (6, .int v7), (0, .ref a_t), (4, .int v4)]) hx hb dX6_picks_80 hl (k := 3) rfl rfl (by decide) rfl (fun ls hl => ?_)
          refine lv_goto (tgt := 28) hx hb dX6_picks_83 (by decide) ?_
          exact hk28 v7 (v7 + 1) h ls (lv_sub hl [2, 3, 1, 0] rfl)
set_option maxHeartbeats 4000000 in
set_option maxRecDepth 100000 in
theorem w_X6_picks_28 {p : Program} {l : Launch} {e : Env} {s : State} {m : MethodId} {args : Array Value} {below : List Frame} {meth : Method} {c : Code} {E : Ev} (a_t a_t_metal a_t_kind a_t_now a_t_readOf a_t_readKind a_t_text a_t_row a_t_nots a_t_isKept a_t_kept : Nat) (x_t_isTrue : Int32) (x_t_caskets : Int32) (x_t_wooers : Int32) (x_t_readTrue : Int32) (x_t_readCaskets : Int32) (x_t_readWooers : Int32) (x_t_readPicture : Int32) (x_t_length : Int32) (x_t_at : Int32) (x_t_faultAt : Int32) (x_t_acts : Int32) (x_t_next : Int32) (x_t_riddleMany : Int32) (x_t_seed : Int64) (r_t_metal : Nat → Int32) (v4 : Int32) (o_r : Int32) (X : Cxt p s m args meth c cX6_picks 8 wsX6_picks RX6 (some .int)) (hw : wd E [(a_t, .inr (6, [.int x_t_isTrue, .int x_t_caskets, .int x_t_wooers, .ref a_t_metal, .ref a_t_kind, .ref a_t_now, .ref a_t_readOf, .ref a_t_readKind, .int x_t_readTrue, .int x_t_readCaskets, .int x_t_readWooers, .int x_t_readPicture, .ref a_t_text, .int x_t_length, .int x_t_at, .int x_t_faultAt, .int x_t_acts, .int x_t_next, .ref a_t_row, .int x_t_riddleMany, .ref a_t_nots, .long x_t_seed, .ref a_t_isKept, .ref a_t_kept])), (a_t_metal, .inl (E.2.1, 4, .inl r_t_metal))] s s.heap) : ∀ (n : Nat) (v6 : Int32) (v7 : Int32), f_X6_picks_28 x_t_caskets r_t_metal v4 n v6 v7 = some o_r → ∀ (ls : Array Slot), lv_has ls 8 [(0, .ref a_t), (4, .int v4), (6, .int v6), (7, .int v7)] → W p l e { frames := 2, cells := 0, slots := 0, locals := 43 } s m args below meth c s.heap [] 0 0 (MQ below (Qr (some (.int o_r))) args s 0 0 (fun _ => False)) (F0 m 28 ls []) := by
  intro n
  induction n with
  | zero =>
    intro v6 v7 h
    exact (rk_z _ _ h).elim
  | succ n ih =>
    intro v6 v7 h ls hl
    exact w_X6_picks_28_b a_t a_t_metal a_t_kind a_t_now a_t_readOf a_t_readKind a_t_text a_t_row a_t_nots a_t_isKept a_t_kept x_t_isTrue x_t_caskets x_t_wooers x_t_readTrue x_t_readCaskets x_t_readWooers x_t_readPicture x_t_length x_t_at x_t_faultAt x_t_acts x_t_next x_t_riddleMany x_t_seed r_t_metal v4  o_r X hw  (rk (fun k x => f_X6_picks_28_b x_t_caskets r_t_metal v4  k (x.1) (x.2)) n) (fun v6 v7 hh => ih v6 v7 hh) v6 v7 h hl
set_option maxHeartbeats 4000000 in
set_option maxRecDepth 100000 in
theorem w_X6_picks_116_b {p : Program} {l : Launch} {e : Env} {s : State} {m : MethodId} {args : Array Value} {below : List Frame} {meth : Method} {c : Code} {E : Ev} (a_t a_t_metal a_t_kind a_t_now a_t_readOf a_t_readKind a_t_text a_t_row a_t_nots a_t_isKept a_t_kept : Nat) (x_t_isTrue : Int32) (x_t_caskets : Int32) (x_t_wooers : Int32) (x_t_readTrue : Int32) (x_t_readCaskets : Int32) (x_t_readWooers : Int32) (x_t_readPicture : Int32) (x_t_length : Int32) (x_t_at : Int32) (x_t_faultAt : Int32) (x_t_acts : Int32) (x_t_next : Int32) (x_t_riddleMany : Int32) (x_t_seed : Int64) (r_t_metal : Nat → Int32) (v1 : Int32) (v5 : Int32) (o_r : Int32) (X : Cxt p s m args meth c cX6_picks 8 wsX6_picks RX6 (some .int)) (hw : wd E [(a_t, .inr (6, [.int x_t_isTrue, .int x_t_caskets, .int x_t_wooers, .ref a_t_metal, .ref a_t_kind, .ref a_t_now, .ref a_t_readOf, .ref a_t_readKind, .int x_t_readTrue, .int x_t_readCaskets, .int x_t_readWooers, .int x_t_readPicture, .ref a_t_text, .int x_t_length, .int x_t_at, .int x_t_faultAt, .int x_t_acts, .int x_t_next, .ref a_t_row, .int x_t_riddleMany, .ref a_t_nots, .long x_t_seed, .ref a_t_isKept, .ref a_t_kept])), (a_t_metal, .inl (E.2.1, 4, .inl r_t_metal))] s s.heap) (k116 : Int32 × Int32 → Option (Int32)) (hk116 : ∀ (v6 : Int32) (v7 : Int32), k116 (v6, v7) = some o_r → ∀ (ls : Array Slot), lv_has ls 8 [(0, .ref a_t), (1, .int v1), (5, .int v5), (6, .int v6), (7, .int v7)] → W p l e { frames := 2, cells := 0, slots := 0, locals := 43 } s m args below meth c s.heap [] 0 0 (MQ below (Qr (some (.int o_r))) args s 0 0 (fun _ => False)) (F0 m 116 ls [])) (v6 : Int32) (v7 : Int32) (h : f_X6_picks_116_b x_t_caskets v1 v5 k116 v6 v7 = some o_r) {ls : Array Slot} (hl : lv_has ls 8 [(0, .ref a_t), (1, .int v1), (5, .int v5), (6, .int v6), (7, .int v7)]) : W p l e { frames := 2, cells := 0, slots := 0, locals := 43 } s m args below meth c s.heap [] 0 0 (MQ below (Qr (some (.int o_r))) args s 0 0 (fun _ => False)) (F0 m 116 ls []) := by
  obtain ⟨⟨hx, hb, hml, hown, hts⟩, hr, hlocks⟩ := id X
  obtain ⟨hC, hP⟩ := id hw
  have hiX6 : ∀ w ∈ u_ws RX6 TX6 24, w ∈ wsX6_picks := by decide +kernel
  have hK := hC.1
  unfold f_X6_picks_116_b at h
  refine lv_iload hx hb dX6_picks_116 (lv_at hl 4 rfl) ?_
  refine lv_aload_n hx hb dX6_picks_118 rfl (lv_at hl 0 rfl) ?_
  refine va_get (D := E.1) (ci := 6) (v := .int x_t_caskets) (C := RX6) (T := TX6) (N := 24) hx hb hts hiX6 hown hK hP 0 rfl rfl 1 (by decide) (hts (.fieldLink RX6 90 "CasketLinesModel" "caskets" "I") (by decide +kernel)) (fun _ h9 => h9) rfl dX6_picks_119 ?_
  refine lv_icmp_ge (tgt := 155) hx hb dX6_picks_122 (by decide) (fun c9 => ?_) (fun c9 => ?_)
  · have h := ifp c9 h
    refine lv_iload hx hb dX6_picks_155 (lv_at hl 3 rfl) ?_
    exact W.iret hx hb hr (fun t ht _ => ⟨by cases h; rfl, ht⟩) (fun _ hq => absurd hq List.not_mem_nil) dX6_picks_157
  · have h := ifn c9 h
    refine lv_iload_n hx hb dX6_picks_125 rfl (lv_at hl 1 rfl) ?_
    refine lv_iconst (v := 2) hx hb dX6_picks_126 (by decide) ?_
    refine lv_icmp_eq (tgt := 155) hx hb dX6_picks_127 (by decide) (fun c10 => ?_) (fun c10 => ?_)
    · have h := ifp c10 h
      refine lv_iload hx hb dX6_picks_155 (lv_at hl 3 rfl) ?_
      exact W.iret hx hb hr (fun t ht _ => ⟨by cases h; rfl, ht⟩) (fun _ hq => absurd hq List.not_mem_nil) dX6_picks_157
    · have h := ifn c10 h
      refine lv_iload hx hb dX6_picks_130 (lv_at hl 2 rfl) ?_
      refine lv_iload hx hb dX6_picks_132 (lv_at hl 4 rfl) ?_
      obtain ⟨r11, g12, h⟩ := bnd h
      refine rcS (As := [.int v5, .int v7]) (rest := []) ⟨hx, hb, hml, hown, hts⟩ (k_X6_has (l := l) (E := E) v5 v7 r11 g12) (va_cwS 2 hts gX6_picks_X6_has rfl rfl rfl (by decide +kernel) ⟨Nat.le_of_ble_eq_true rfl, Nat.le_of_ble_eq_true rfl⟩) hC hP [] rfl rfl hl.1 rfl (Nat.le_of_ble_eq_true rfl) dX6_picks_134 ⟨Nat.zero_le _, Nat.zero_le _⟩ ?_
      refine lv_if_eq (tgt := 145) hx hb dX6_picks_137 (by decide) (fun c13 => ?_) (fun c13 => ?_)
      · have h := ifp c13 h
        refine lv_iload hx hb dX6_picks_145 (lv_at hl 3 rfl) ?_
        refine lv_istore (lv' := [(6, .int v6), (0, .ref a_t), (1, .int v1), (5, .int v5), (7, .int v7)]) hx hb dX6_picks_147 hl (by decide) rfl (fun ls hl => ?_)
        refine lv_iinc (v := (v7 + 1)) (lv' := [(7, .int (v7 + 1)), (6, .int v6), (0, .ref a_t), (1, .int v1), (5, .int v5)]) hx hb dX6_picks_149 hl (k := 4) rfl rfl (by decide) rfl (fun ls hl => ?_)
        refine lv_goto (tgt := 116) hx hb dX6_picks_152 (by decide) ?_
        exact hk116 v6 (v7 + 1) h ls (lv_sub hl [2, 3, 4, 1, 0] rfl)
      · have h := ifn c13 h
        refine lv_iload hx hb dX6_picks_140 (lv_at hl 4 rfl) ?_
        refine lv_goto (tgt := 147) hx hb dX6_picks_142 (by decide) ?_
        refine lv_istore (lv' := [(6, .int v7), (0, .ref a_t), (1, .int v1), (5, .int v5), (7, .int v7)]) hx hb dX6_picks_147 hl (by decide) rfl (fun ls hl => ?_)
        refine lv_iinc (v := (v7 + 1)) (lv' := [(7, .int (v7 + 1)), (6, .int v7), (0, .ref a_t), (1, .int v1), (5, .int v5)]) hx hb dX6_picks_149 hl (k := 4) rfl rfl (by decide) rfl (fun ls hl => ?_)
        refine lv_goto (tgt := 116) hx hb dX6_picks_152 (by decide) ?_
        exact hk116 v7 (v7 + 1) h ls (lv_sub hl [2, 3, 4, 1, 0] rfl)
set_option maxHeartbeats 4000000 in
set_option maxRecDepth 100000 in
theorem w_X6_picks_116 {p : Program} {l : Launch} {e : Env} {s : State} {m : MethodId} {args : Array Value} {below : List Frame} {meth : Method} {c : Code} {E : Ev} (a_t a_t_metal a_t_kind a_t_now a_t_readOf a_t_readKind a_t_text a_t_row a_t_nots a_t_isKept a_t_kept : Nat) (x_t_isTrue : Int32) (x_t_caskets : Int32) (x_t_wooers : Int32) (x_t_readTrue : Int32) (x_t_readCaskets : Int32) (x_t_readWooers : Int32) (x_t_readPicture : Int32) (x_t_length : Int32) (x_t_at : Int32) (x_t_faultAt : Int32) (x_t_acts : Int32) (x_t_next : Int32) (x_t_riddleMany : Int32) (x_t_seed : Int64) (r_t_metal : Nat → Int32) (v1 : Int32) (v5 : Int32) (o_r : Int32) (X : Cxt p s m args meth c cX6_picks 8 wsX6_picks RX6 (some .int)) (hw : wd E [(a_t, .inr (6, [.int x_t_isTrue, .int x_t_caskets, .int x_t_wooers, .ref a_t_metal, .ref a_t_kind, .ref a_t_now, .ref a_t_readOf, .ref a_t_readKind, .int x_t_readTrue, .int x_t_readCaskets, .int x_t_readWooers, .int x_t_readPicture, .ref a_t_text, .int x_t_length, .int x_t_at, .int x_t_faultAt, .int x_t_acts, .int x_t_next, .ref a_t_row, .int x_t_riddleMany, .ref a_t_nots, .long x_t_seed, .ref a_t_isKept, .ref a_t_kept])), (a_t_metal, .inl (E.2.1, 4, .inl r_t_metal))] s s.heap) : ∀ (n : Nat) (v6 : Int32) (v7 : Int32), f_X6_picks_116 x_t_caskets v1 v5 n v6 v7 = some o_r → ∀ (ls : Array Slot), lv_has ls 8 [(0, .ref a_t), (1, .int v1), (5, .int v5), (6, .int v6), (7, .int v7)] → W p l e { frames := 2, cells := 0, slots := 0, locals := 43 } s m args below meth c s.heap [] 0 0 (MQ below (Qr (some (.int o_r))) args s 0 0 (fun _ => False)) (F0 m 116 ls []) := by
  intro n
  induction n with
  | zero =>
    intro v6 v7 h
    exact (rk_z _ _ h).elim
  | succ n ih =>
    intro v6 v7 h ls hl
    exact w_X6_picks_116_b a_t a_t_metal a_t_kind a_t_now a_t_readOf a_t_readKind a_t_text a_t_row a_t_nots a_t_isKept a_t_kept x_t_isTrue x_t_caskets x_t_wooers x_t_readTrue x_t_readCaskets x_t_readWooers x_t_readPicture x_t_length x_t_at x_t_faultAt x_t_acts x_t_next x_t_riddleMany x_t_seed r_t_metal v1 v5  o_r X hw  (rk (fun k x => f_X6_picks_116_b x_t_caskets v1 v5  k (x.1) (x.2)) n) (fun v6 v7 hh => ih v6 v7 hh) v6 v7 h hl
set_option maxHeartbeats 4000000 in
set_option maxRecDepth 100000 in
theorem w_X6_picks {p : Program} {l : Launch} {e : Env} {s : State} {m : MethodId} {args : Array Value} {below : List Frame} {meth : Method} {c : Code} {E : Ev} (a_t a_t_metal a_t_kind a_t_now a_t_readOf a_t_readKind a_t_text a_t_row a_t_nots a_t_isKept a_t_kept : Nat) (x_t_isTrue : Int32) (x_t_caskets : Int32) (x_t_wooers : Int32) (x_t_readTrue : Int32) (x_t_readCaskets : Int32) (x_t_readWooers : Int32) (x_t_readPicture : Int32) (x_t_length : Int32) (x_t_at : Int32) (x_t_faultAt : Int32) (x_t_acts : Int32) (x_t_next : Int32) (x_t_riddleMany : Int32) (x_t_seed : Int64) (r_t_metal : Nat → Int32) (p1 : Int32) (p2 : Int32) (p3 : Int32) (o_r : Int32) (X : Cxt p s m args meth c cX6_picks 8 wsX6_picks RX6 (some .int)) (hw : wd E [(a_t, .inr (6, [.int x_t_isTrue, .int x_t_caskets, .int x_t_wooers, .ref a_t_metal, .ref a_t_kind, .ref a_t_now, .ref a_t_readOf, .ref a_t_readKind, .int x_t_readTrue, .int x_t_readCaskets, .int x_t_readWooers, .int x_t_readPicture, .ref a_t_text, .int x_t_length, .int x_t_at, .int x_t_faultAt, .int x_t_acts, .int x_t_next, .ref a_t_row, .int x_t_riddleMany, .ref a_t_nots, .long x_t_seed, .ref a_t_isKept, .ref a_t_kept])), (a_t_metal, .inl (E.2.1, 4, .inl r_t_metal))] s s.heap) (h : f_X6_picks x_t_caskets r_t_metal p1 p2 p3 = some o_r) {ls : Array Slot} (hl : lv_has ls 8 [(0, .ref a_t), (1, .int p1), (2, .int p2), (3, .int p3)]) : W p l e { frames := 2, cells := 0, slots := 0, locals := 43 } s m args below meth c s.heap [] 0 0 (MQ below (Qr (some (.int o_r))) args s 0 0 (fun _ => False)) (F0 m 0 ls []) := by
  obtain ⟨⟨hx, hb, hml, hown, hts⟩, hr, hlocks⟩ := id X
  obtain ⟨hC, hP⟩ := id hw
  have hiX6 : ∀ w ∈ u_ws RX6 TX6 24, w ∈ wsX6_picks := by decide +kernel
  have hK := hC.1
  unfold f_X6_picks at h
  refine lv_aload_n hx hb dX6_picks_0 rfl (lv_at hl 0 rfl) ?_
  obtain ⟨r14, g15, h⟩ := bnd h
  refine rcV (As := []) (rest := []) ⟨hx, hb, hml, hown, hts⟩ (k_X6_all (l := l) (E := E) a_t a_t_metal a_t_kind a_t_now a_t_readOf a_t_readKind a_t_text a_t_row a_t_nots a_t_isKept a_t_kept x_t_isTrue x_t_caskets x_t_wooers x_t_readTrue x_t_readCaskets x_t_readWooers x_t_readPicture x_t_length x_t_at x_t_faultAt x_t_acts x_t_next x_t_riddleMany x_t_seed r14 g15) (cwV 0 hts gX6_picks_X6_all rfl rfl rfl (by decide +kernel) ⟨Nat.le_of_ble_eq_true rfl, Nat.le_of_ble_eq_true rfl⟩) hC hP [0] rfl 0 6 rfl rfl rfl rfl hl.1 rfl (Nat.le_of_ble_eq_true rfl) dX6_picks_1 ⟨Nat.zero_le _, Nat.zero_le _⟩ ?_
  refine lv_iload_n hx hb dX6_picks_4 rfl (lv_at hl 3 rfl) ?_
  refine lv_iconst (v := (-1)) hx hb dX6_picks_5 (by decide) ?_
  refine lv_ixor hx hb dX6_picks_6 ?_
  refine lv_iand hx hb dX6_picks_7 ?_
  refine lv_istore (lv' := [(4, .int (r14 &&& (p3 ^^^ (-1)))), (0, .ref a_t), (1, .int p1), (2, .int p2), (3, .int p3)]) hx hb dX6_picks_8 hl (by decide) rfl (fun ls hl => ?_)
  refine lv_iload hx hb dX6_picks_10 (lv_at hl 0 rfl) ?_
  refine lv_iload_n hx hb dX6_picks_12 rfl (lv_at hl 3 rfl) ?_
  refine lv_iand hx hb dX6_picks_13 ?_
  refine lv_istore (lv' := [(5, .int ((r14 &&& (p3 ^^^ (-1))) &&& p2)), (4, .int (r14 &&& (p3 ^^^ (-1)))), (0, .ref a_t), (1, .int p1), (2, .int p2), (3, .int p3)]) hx hb dX6_picks_14 hl (by decide) rfl (fun ls hl => ?_)
  refine lv_iload_n hx hb dX6_picks_16 rfl (lv_at hl 3 rfl) ?_
  refine lv_iconst (v := 1) hx hb dX6_picks_17 (by decide) ?_
  refine lv_icmp_ne (tgt := 89) hx hb dX6_picks_18 (by decide) (fun c16 => ?_) (fun c16 => ?_)
  · have h := ifn c16 h
    refine lv_iload_n hx hb dX6_picks_89 rfl (lv_at hl 3 rfl) ?_
    refine lv_if_eq (tgt := 98) hx hb dX6_picks_90 (by decide) (fun c17 => ?_) (fun c17 => ?_)
    · have h := ifp c17 h
      refine lv_aload_n hx hb dX6_picks_98 rfl (lv_at hl 2 rfl) ?_
      refine lv_iload hx hb dX6_picks_99 (lv_at hl 1 rfl) ?_
      obtain ⟨r18, g19, h⟩ := bnd h
      refine rcV (As := [.int (r14 &&& (p3 ^^^ (-1)))]) (rest := []) ⟨hx, hb, hml, hown, hts⟩ (k_X6_leastOf (l := l) (E := E) a_t (r14 &&& (p3 ^^^ (-1))) r18 g19) (cwV 1 hts gX6_picks_X6_leastOf rfl rfl rfl (by decide +kernel) ⟨Nat.le_of_ble_eq_true rfl, Nat.le_of_ble_eq_true rfl⟩) hC hP [] rfl 0 6 rfl rfl rfl rfl hl.1 rfl (Nat.le_of_ble_eq_true rfl) dX6_picks_101 ⟨Nat.zero_le _, Nat.zero_le _⟩ ?_
      exact W.iret hx hb hr (fun t ht _ => ⟨by cases h; rfl, ht⟩) (fun _ hq => absurd hq List.not_mem_nil) dX6_picks_104
    · have h := ifn c17 h
      refine lv_iload hx hb dX6_picks_93 (lv_at hl 0 rfl) ?_
      refine lv_if_ne (tgt := 105) hx hb dX6_picks_95 (by decide) (fun c20 => ?_) (fun c20 => ?_)
      · have h := ifn c20 h
        refine lv_aload_n hx hb dX6_picks_105 rfl (lv_at hl 2 rfl) ?_
        refine lv_iload hx hb dX6_picks_106 (lv_at hl 0 rfl) ?_
        obtain ⟨r21, g22, h⟩ := bnd h
        refine rcV (As := [.int ((r14 &&& (p3 ^^^ (-1))) &&& p2)]) (rest := []) ⟨hx, hb, hml, hown, hts⟩ (k_X6_leastOf (l := l) (E := E) a_t ((r14 &&& (p3 ^^^ (-1))) &&& p2) r21 g22) (cwV 1 hts gX6_picks_X6_leastOf rfl rfl rfl (by decide +kernel) ⟨Nat.le_of_ble_eq_true rfl, Nat.le_of_ble_eq_true rfl⟩) hC hP [] rfl 0 6 rfl rfl rfl rfl hl.1 rfl (Nat.le_of_ble_eq_true rfl) dX6_picks_108 ⟨Nat.zero_le _, Nat.zero_le _⟩ ?_
        refine lv_istore (lv' := [(6, .int r21), (5, .int ((r14 &&& (p3 ^^^ (-1))) &&& p2)), (4, .int (r14 &&& (p3 ^^^ (-1)))), (0, .ref a_t), (1, .int p1), (2, .int p2), (3, .int p3)]) hx hb dX6_picks_111 hl (by decide) rfl (fun ls hl => ?_)
        refine lv_iconst (v := 0) hx hb dX6_picks_113 (by decide) ?_
        refine lv_istore (lv' := [(7, .int 0), (6, .int r21), (5, .int ((r14 &&& (p3 ^^^ (-1))) &&& p2)), (4, .int (r14 &&& (p3 ^^^ (-1)))), (0, .ref a_t), (1, .int p1), (2, .int p2), (3, .int p3)]) hx hb dX6_picks_114 hl (by decide) rfl (fun ls hl => ?_)
        exact w_X6_picks_116 a_t a_t_metal a_t_kind a_t_now a_t_readOf a_t_readKind a_t_text a_t_row a_t_nots a_t_isKept a_t_kept x_t_isTrue x_t_caskets x_t_wooers x_t_readTrue x_t_readCaskets x_t_readWooers x_t_readPicture x_t_length x_t_at x_t_faultAt x_t_acts x_t_next x_t_riddleMany x_t_seed r_t_metal p1 ((r14 &&& (p3 ^^^ (-1))) &&& p2)  o_r X hw  200 r21 0 h ls (lv_sub hl [4, 5, 2, 1, 0] rfl)
      · have h := ifp c20 h
        refine lv_aload_n hx hb dX6_picks_98 rfl (lv_at hl 2 rfl) ?_
        refine lv_iload hx hb dX6_picks_99 (lv_at hl 1 rfl) ?_
        obtain ⟨r23, g24, h⟩ := bnd h
        refine rcV (As := [.int (r14 &&& (p3 ^^^ (-1)))]) (rest := []) ⟨hx, hb, hml, hown, hts⟩ (k_X6_leastOf (l := l) (E := E) a_t (r14 &&& (p3 ^^^ (-1))) r23 g24) (cwV 1 hts gX6_picks_X6_leastOf rfl rfl rfl (by decide +kernel) ⟨Nat.le_of_ble_eq_true rfl, Nat.le_of_ble_eq_true rfl⟩) hC hP [] rfl 0 6 rfl rfl rfl rfl hl.1 rfl (Nat.le_of_ble_eq_true rfl) dX6_picks_101 ⟨Nat.zero_le _, Nat.zero_le _⟩ ?_
        exact W.iret hx hb hr (fun t ht _ => ⟨by cases h; rfl, ht⟩) (fun _ hq => absurd hq List.not_mem_nil) dX6_picks_104
  · have h := ifp c16 h
    refine lv_bipush (v := (-9)) hx hb dX6_picks_21 (by decide) ?_
    refine lv_istore (lv' := [(6, .int (-9)), (5, .int ((r14 &&& (p3 ^^^ (-1))) &&& p2)), (4, .int (r14 &&& (p3 ^^^ (-1)))), (0, .ref a_t), (1, .int p1), (2, .int p2), (3, .int p3)]) hx hb dX6_picks_23 hl (by decide) rfl (fun ls hl => ?_)
    refine lv_iconst (v := 0) hx hb dX6_picks_25 (by decide) ?_
    refine lv_istore (lv' := [(7, .int 0), (6, .int (-9)), (5, .int ((r14 &&& (p3 ^^^ (-1))) &&& p2)), (4, .int (r14 &&& (p3 ^^^ (-1)))), (0, .ref a_t), (1, .int p1), (2, .int p2), (3, .int p3)]) hx hb dX6_picks_26 hl (by decide) rfl (fun ls hl => ?_)
    exact w_X6_picks_28 a_t a_t_metal a_t_kind a_t_now a_t_readOf a_t_readKind a_t_text a_t_row a_t_nots a_t_isKept a_t_kept x_t_isTrue x_t_caskets x_t_wooers x_t_readTrue x_t_readCaskets x_t_readWooers x_t_readPicture x_t_length x_t_at x_t_faultAt x_t_acts x_t_next x_t_riddleMany x_t_seed r_t_metal (r14 &&& (p3 ^^^ (-1)))  o_r X hw  200 (-9) 0 h ls (lv_sub hl [4, 3, 1, 0] rfl)
set_option maxHeartbeats 4000000 in
set_option maxRecDepth 100000 in
theorem k_X6_picks {l : Launch} {E : Ev} (a_t a_t_metal a_t_kind a_t_now a_t_readOf a_t_readKind a_t_text a_t_row a_t_nots a_t_isKept a_t_kept : Nat) (x_t_isTrue : Int32) (x_t_caskets : Int32) (x_t_wooers : Int32) (x_t_readTrue : Int32) (x_t_readCaskets : Int32) (x_t_readWooers : Int32) (x_t_readPicture : Int32) (x_t_length : Int32) (x_t_at : Int32) (x_t_faultAt : Int32) (x_t_acts : Int32) (x_t_next : Int32) (x_t_riddleMany : Int32) (x_t_seed : Int64) (r_t_metal : Nat → Int32) (p1 : Int32) (p2 : Int32) (p3 : Int32) (o_r : Int32) (hf : f_X6_picks x_t_caskets r_t_metal p1 p2 p3 = some o_r) : Met l yX6_picks wsX6_picks ({ frames := 2, cells := 0, slots := 0, locals := 43 }) (Pr E [.ref a_t, .int p1, .int p2, .int p3] [(a_t, .inr (6, [.int x_t_isTrue, .int x_t_caskets, .int x_t_wooers, .ref a_t_metal, .ref a_t_kind, .ref a_t_now, .ref a_t_readOf, .ref a_t_readKind, .int x_t_readTrue, .int x_t_readCaskets, .int x_t_readWooers, .int x_t_readPicture, .ref a_t_text, .int x_t_length, .int x_t_at, .int x_t_faultAt, .int x_t_acts, .int x_t_next, .ref a_t_row, .int x_t_riddleMany, .ref a_t_nots, .long x_t_seed, .ref a_t_isKept, .ref a_t_kept])), (a_t_metal, .inl (E.2.1, 4, .inl r_t_metal))]) (Qr (some (.int o_r))) 0 0 (fun _ => False) := by
  refine Met.ofW (cc := cX6_picks) (maxL := 8) (ret := (some .int)) (by decide) rfl ?_
  intro p e s m args below meth c s₁ B hml hv
  obtain ⟨rfl, hw⟩ := hv
  have X := Cxt.of B hml
  have hl := lv_entry ([.ref a_t, .int p1, .int p2, .int p3]) (n := 8) (Nat.le_of_ble_eq_true rfl)
  rw [lg_entry_eq]
  exact w_X6_picks a_t a_t_metal a_t_kind a_t_now a_t_readOf a_t_readKind a_t_text a_t_row a_t_nots a_t_isKept a_t_kept x_t_isTrue x_t_caskets x_t_wooers x_t_readTrue x_t_readCaskets x_t_readWooers x_t_readPicture x_t_length x_t_at x_t_faultAt x_t_acts x_t_next x_t_riddleMany x_t_seed r_t_metal p1 p2 p3 o_r X hw hf hl
set_option maxHeartbeats 4000000 in
set_option maxRecDepth 100000 in
theorem w_X6_canTry {p : Program} {l : Launch} {e : Env} {s : State} {m : MethodId} {args : Array Value} {below : List Frame} {meth : Method} {c : Code} {E : Ev} (a_t a_t_metal a_t_kind a_t_now a_t_readOf a_t_readKind a_t_text a_t_row a_t_nots a_t_isKept a_t_kept : Nat) (x_t_isTrue : Int32) (x_t_caskets : Int32) (x_t_wooers : Int32) (x_t_readTrue : Int32) (x_t_readCaskets : Int32) (x_t_readWooers : Int32) (x_t_readPicture : Int32) (x_t_length : Int32) (x_t_at : Int32) (x_t_faultAt : Int32) (x_t_acts : Int32) (x_t_next : Int32) (x_t_riddleMany : Int32) (x_t_seed : Int64) (r_t_now : Nat → Int32) (p1 : Int32) (o_r : Int32) (X : Cxt p s m args meth c cX6_canTry 2 wsX6_canTry RX6 (some .boolean)) (hw : wd E [(a_t, .inr (6, [.int x_t_isTrue, .int x_t_caskets, .int x_t_wooers, .ref a_t_metal, .ref a_t_kind, .ref a_t_now, .ref a_t_readOf, .ref a_t_readKind, .int x_t_readTrue, .int x_t_readCaskets, .int x_t_readWooers, .int x_t_readPicture, .ref a_t_text, .int x_t_length, .int x_t_at, .int x_t_faultAt, .int x_t_acts, .int x_t_next, .ref a_t_row, .int x_t_riddleMany, .ref a_t_nots, .long x_t_seed, .ref a_t_isKept, .ref a_t_kept])), (a_t_now, .inl (E.2.1, 36, .inl r_t_now))] s s.heap) (h : f_X6_canTry x_t_wooers r_t_now p1 = some o_r) {ls : Array Slot} (hl : lv_has ls 2 [(0, .ref a_t), (1, .int p1)]) : W p l e { frames := 0, cells := 0, slots := 0, locals := 0 } s m args below meth c s.heap [] 0 0 (MQ below (Qr (some (.int o_r))) args s 0 0 (fun _ => False)) (F0 m 0 ls []) := by
  obtain ⟨⟨hx, hb, hml, hown, hts⟩, hr, hlocks⟩ := id X
  obtain ⟨hC, hP⟩ := id hw
  have hiX6 : ∀ w ∈ u_ws RX6 TX6 24, w ∈ wsX6_canTry := by decide +kernel
  have hK := hC.1
  unfold f_X6_canTry at h
  refine lv_aload_n hx hb dX6_canTry_0 rfl (lv_at hl 0 rfl) ?_
  refine va_get (D := E.1) (ci := 6) (v := .ref a_t_now) (C := RX6) (T := TX6) (N := 24) hx hb hts hiX6 hown hK hP 0 rfl rfl 5 (by decide) (hts (.fieldLink RX6 16 "CasketLinesModel" "now" "[I") (by decide +kernel)) (fun _ h9 => h9) rfl dX6_canTry_1 ?_
  refine lv_bipush (v := 18) hx hb dX6_canTry_4 (by decide) ?_
  refine lv_iload_n hx hb dX6_canTry_6 rfl (lv_at hl 1 rfl) ?_
  refine lv_imul hx hb dX6_canTry_7 ?_
  refine lv_bipush (v := 10) hx hb dX6_canTry_8 (by decide) ?_
  refine lv_iadd hx hb dX6_canTry_10 ?_
  obtain ⟨b1, h⟩ := gdn h
  refine va_iald hx hb hK hP 1 0 rfl rfl b1 dX6_canTry_11 ?_
  refine lv_aload_n hx hb dX6_canTry_12 rfl (lv_at hl 0 rfl) ?_
  refine va_get (D := E.1) (ci := 6) (v := .int x_t_wooers) (C := RX6) (T := TX6) (N := 24) hx hb hts hiX6 hown hK hP 0 rfl rfl 2 (by decide) (hts (.fieldLink RX6 93 "CasketLinesModel" "wooers" "I") (by decide +kernel)) (fun _ h9 => h9) rfl dX6_canTry_13 ?_
  refine lv_icmp_ge (tgt := 38) hx hb dX6_canTry_16 (by decide) (fun c2 => ?_) (fun c2 => ?_)
  · have h := ifp c2 h
    refine lv_iconst (v := 0) hx hb dX6_canTry_38 (by decide) ?_
    exact W.zret hx hb hr rfl (fun t ht _ => ⟨by cases h; rfl, ht⟩) (fun _ hq => absurd hq List.not_mem_nil) dX6_canTry_39
  · have h := ifn c2 h
    refine lv_aload_n hx hb dX6_canTry_19 rfl (lv_at hl 0 rfl) ?_
    refine va_get (D := E.1) (ci := 6) (v := .ref a_t_now) (C := RX6) (T := TX6) (N := 24) hx hb hts hiX6 hown hK hP 0 rfl rfl 5 (by decide) (hts (.fieldLink RX6 16 "CasketLinesModel" "now" "[I") (by decide +kernel)) (fun _ h9 => h9) rfl dX6_canTry_20 ?_
    refine lv_bipush (v := 18) hx hb dX6_canTry_23 (by decide) ?_
    refine lv_iload_n hx hb dX6_canTry_25 rfl (lv_at hl 1 rfl) ?_
    refine lv_imul hx hb dX6_canTry_26 ?_
    refine lv_bipush (v := 11) hx hb dX6_canTry_27 (by decide) ?_
    refine lv_iadd hx hb dX6_canTry_29 ?_
    obtain ⟨b3, h⟩ := gdn h
    refine va_iald hx hb hK hP 1 0 rfl rfl b3 dX6_canTry_30 ?_
    refine lv_if_ne (tgt := 38) hx hb dX6_canTry_31 (by decide) (fun c4 => ?_) (fun c4 => ?_)
    · have h := ifn c4 h
      refine lv_iconst (v := 0) hx hb dX6_canTry_38 (by decide) ?_
      exact W.zret hx hb hr rfl (fun t ht _ => ⟨by cases h; rfl, ht⟩) (fun _ hq => absurd hq List.not_mem_nil) dX6_canTry_39
    · have h := ifp c4 h
      refine lv_iconst (v := 1) hx hb dX6_canTry_34 (by decide) ?_
      refine lv_goto (tgt := 39) hx hb dX6_canTry_35 (by decide) ?_
      exact W.zret hx hb hr rfl (fun t ht _ => ⟨by cases h; rfl, ht⟩) (fun _ hq => absurd hq List.not_mem_nil) dX6_canTry_39
set_option maxHeartbeats 4000000 in
set_option maxRecDepth 100000 in
theorem k_X6_canTry {l : Launch} {E : Ev} (a_t a_t_metal a_t_kind a_t_now a_t_readOf a_t_readKind a_t_text a_t_row a_t_nots a_t_isKept a_t_kept : Nat) (x_t_isTrue : Int32) (x_t_caskets : Int32) (x_t_wooers : Int32) (x_t_readTrue : Int32) (x_t_readCaskets : Int32) (x_t_readWooers : Int32) (x_t_readPicture : Int32) (x_t_length : Int32) (x_t_at : Int32) (x_t_faultAt : Int32) (x_t_acts : Int32) (x_t_next : Int32) (x_t_riddleMany : Int32) (x_t_seed : Int64) (r_t_now : Nat → Int32) (p1 : Int32) (o_r : Int32) (hf : f_X6_canTry x_t_wooers r_t_now p1 = some o_r) : Met l yX6_canTry wsX6_canTry ({ frames := 0, cells := 0, slots := 0, locals := 0 }) (Pr E [.ref a_t, .int p1] [(a_t, .inr (6, [.int x_t_isTrue, .int x_t_caskets, .int x_t_wooers, .ref a_t_metal, .ref a_t_kind, .ref a_t_now, .ref a_t_readOf, .ref a_t_readKind, .int x_t_readTrue, .int x_t_readCaskets, .int x_t_readWooers, .int x_t_readPicture, .ref a_t_text, .int x_t_length, .int x_t_at, .int x_t_faultAt, .int x_t_acts, .int x_t_next, .ref a_t_row, .int x_t_riddleMany, .ref a_t_nots, .long x_t_seed, .ref a_t_isKept, .ref a_t_kept])), (a_t_now, .inl (E.2.1, 36, .inl r_t_now))]) (Qr (some (.int o_r))) 0 0 (fun _ => False) := by
  refine Met.ofW (cc := cX6_canTry) (maxL := 2) (ret := (some .boolean)) (by decide) rfl ?_
  intro p e s m args below meth c s₁ B hml hv
  obtain ⟨rfl, hw⟩ := hv
  have X := Cxt.of B hml
  have hl := lv_entry ([.ref a_t, .int p1]) (n := 2) (Nat.le_of_ble_eq_true rfl)
  rw [lg_entry_eq]
  exact w_X6_canTry a_t a_t_metal a_t_kind a_t_now a_t_readOf a_t_readKind a_t_text a_t_row a_t_nots a_t_isKept a_t_kept x_t_isTrue x_t_caskets x_t_wooers x_t_readTrue x_t_readCaskets x_t_readWooers x_t_readPicture x_t_length x_t_at x_t_faultAt x_t_acts x_t_next x_t_riddleMany x_t_seed r_t_now p1 o_r X hw hf hl
set_option maxHeartbeats 4000000 in
set_option maxRecDepth 100000 in
theorem w_X6_keepAct_34 {p : Program} {l : Launch} {e : Env} {s : State} {m : MethodId} {args : Array Value} {below : List Frame} {meth : Method} {c : Code} {E : Ev} {A : Nat → Prop} (a_t a_t_metal a_t_kind a_t_now a_t_readOf a_t_readKind a_t_text a_t_row a_t_nots a_t_isKept a_t_kept : Nat) (x_t_isTrue : Int32) (x_t_caskets : Int32) (x_t_wooers : Int32) (x_t_readTrue : Int32) (x_t_readCaskets : Int32) (x_t_readWooers : Int32) (x_t_readPicture : Int32) (x_t_length : Int32) (x_t_at : Int32) (x_t_faultAt : Int32) (x_t_acts : Int32) (x_t_next : Int32) (x_t_riddleMany : Int32) (x_t_seed : Int64) (r_t_now : Nat → Int32) (r_t_row : Nat → Int32) (o_x_t_acts : Int32) (o_x_t_next : Int32) (o_r_t_row : Nat → Int32) (X : Cxt p s m args meth c cX6_keepAct 2 wsX6_keepAct RX6 none) (hw : Cw E A s [(a_t, .inr (6, [.int x_t_isTrue, .int x_t_caskets, .int x_t_wooers, .ref a_t_metal, .ref a_t_kind, .ref a_t_now, .ref a_t_readOf, .ref a_t_readKind, .int x_t_readTrue, .int x_t_readCaskets, .int x_t_readWooers, .int x_t_readPicture, .ref a_t_text, .int x_t_length, .int x_t_at, .int x_t_faultAt, .int x_t_acts, .int x_t_next, .ref a_t_row, .int x_t_riddleMany, .ref a_t_nots, .long x_t_seed, .ref a_t_isKept, .ref a_t_kept])), (a_t_now, .inl (E.2.1, 36, .inl r_t_now)), (a_t_row, .inl (E.2.1, 252, .inl r_t_row))]) (h : f_X6_keepAct_34 x_t_acts x_t_next r_t_row = some (o_x_t_acts, o_x_t_next, o_r_t_row)) (H : Heap) (locs : List Loc) (hP : va_P E.1 vwCl [(a_t, .inr (6, [.int x_t_isTrue, .int x_t_caskets, .int x_t_wooers, .ref a_t_metal, .ref a_t_kind, .ref a_t_now, .ref a_t_readOf, .ref a_t_readKind, .int x_t_readTrue, .int x_t_readCaskets, .int x_t_readWooers, .int x_t_readPicture, .ref a_t_text, .int x_t_length, .int x_t_at, .int x_t_faultAt, .int x_t_acts, .int x_t_next, .ref a_t_row, .int x_t_riddleMany, .ref a_t_nots, .long x_t_seed, .ref a_t_isKept, .ref a_t_kept])), (a_t_now, .inl (E.2.1, 36, .inl r_t_now)), (a_t_row, .inl (E.2.1, 252, .inl r_t_row))] H) (hS : va_S A s.heap H locs) (ls : Array Slot) (hl : lv_has ls 2 [(0, .ref a_t)]) : W p l e { frames := 0, cells := 0, slots := 0, locals := 0 } s m args below meth c H locs 0 0 (MQ below (Qw E none [(a_t, .inr (6, [.int x_t_isTrue, .int x_t_caskets, .int x_t_wooers, .ref a_t_metal, .ref a_t_kind, .ref a_t_now, .ref a_t_readOf, .ref a_t_readKind, .int x_t_readTrue, .int x_t_readCaskets, .int x_t_readWooers, .int x_t_readPicture, .ref a_t_text, .int x_t_length, .int x_t_at, .int x_t_faultAt, .int o_x_t_acts, .int o_x_t_next, .ref a_t_row, .int x_t_riddleMany, .ref a_t_nots, .long x_t_seed, .ref a_t_isKept, .ref a_t_kept])), (a_t_now, .inl (E.2.1, 36, .inl r_t_now)), (a_t_row, .inl (E.2.1, 252, .inl o_r_t_row))] A) args s 0 0 A) (F0 m 34 ls []) := by
  obtain ⟨⟨hx, hb, hml, hown, hts⟩, hr, hlocks⟩ := id X
  obtain ⟨hC, hAB, hA, hB, hD⟩ := id hw
  have hiX6 : ∀ w ∈ u_ws RX6 TX6 24, w ∈ wsX6_keepAct := by decide +kernel
  have hK := hC.1
  unfold f_X6_keepAct_34 at h
  refine lv_aload_n hx hb dX6_keepAct_34 rfl (lv_at hl 0 rfl) ?_
  refine lv_aload_n hx hb dX6_keepAct_35 rfl (lv_at hl 0 rfl) ?_
  refine va_get (D := E.1) (ci := 6) (v := .int x_t_next) (C := RX6) (T := TX6) (N := 24) hx hb hts hiX6 hown hK hP 0 rfl rfl 17 (by decide) (hts (.fieldLink RX6 133 "CasketLinesModel" "next" "I") (by decide +kernel)) (fun _ h9 => h9) rfl dX6_keepAct_36 ?_
  refine lv_iconst (v := 1) hx hb dX6_keepAct_39 (by decide) ?_
  refine lv_iadd hx hb dX6_keepAct_40 ?_
  refine lv_bipush (v := 14) hx hb dX6_keepAct_41 (by decide) ?_
  refine lv_irem hx hb dX6_keepAct_43 (by decide) ?_
  refine va_put (D := E.1) (ci := 6) (v := .int ((x_t_next + 1) - (x_t_next + 1) / 14 * 14)) (ty := .int) (C := RX6) (T := TX6) (N := 24) hx hb hts hiX6 tyX6 tyX6_ok nmX6 hown hK hP (hD.adr rfl) hS 0 rfl rfl 17 (by decide) (hts (.fieldLink RX6 133 "CasketLinesModel" "next" "I") (by decide +kernel)) (fun _ h9 => h9) rfl (by decide +kernel) rfl rfl (Nat.le_of_ble_eq_true rfl) dX6_keepAct_44 (fun H locs hP _ hS => ?_)
  have hP : va_P E.1 vwCl [(a_t, .inr (6, [.int x_t_isTrue, .int x_t_caskets, .int x_t_wooers, .ref a_t_metal, .ref a_t_kind, .ref a_t_now, .ref a_t_readOf, .ref a_t_readKind, .int x_t_readTrue, .int x_t_readCaskets, .int x_t_readWooers, .int x_t_readPicture, .ref a_t_text, .int x_t_length, .int x_t_at, .int x_t_faultAt, .int x_t_acts, .int ((x_t_next + 1) - (x_t_next + 1) / 14 * 14), .ref a_t_row, .int x_t_riddleMany, .ref a_t_nots, .long x_t_seed, .ref a_t_isKept, .ref a_t_kept])), (a_t_now, .inl (E.2.1, 36, .inl r_t_now)), (a_t_row, .inl (E.2.1, 252, .inl r_t_row))] H := hP
  refine lv_aload_n hx hb dX6_keepAct_47 rfl (lv_at hl 0 rfl) ?_
  refine lv_aload_n hx hb dX6_keepAct_48 rfl (lv_at hl 0 rfl) ?_
  refine va_get (D := E.1) (ci := 6) (v := .int x_t_acts) (C := RX6) (T := TX6) (N := 24) hx hb hts hiX6 hown hK hP 0 rfl rfl 16 (by decide) (hts (.fieldLink RX6 96 "CasketLinesModel" "acts" "I") (by decide +kernel)) (fun _ h9 => h9) rfl dX6_keepAct_49 ?_
  refine lv_bipush (v := 14) hx hb dX6_keepAct_52 (by decide) ?_
  refine lv_icmp_ge (tgt := 66) hx hb dX6_keepAct_54 (by decide) (fun c4 => ?_) (fun c4 => ?_)
  · have h := ifp c4 h
    refine lv_bipush (v := 14) hx hb dX6_keepAct_66 (by decide) ?_
    refine va_put (D := E.1) (ci := 6) (v := .int 14) (ty := .int) (C := RX6) (T := TX6) (N := 24) hx hb hts hiX6 tyX6 tyX6_ok nmX6 hown hK hP (hD.adr rfl) hS 0 rfl rfl 16 (by decide) (hts (.fieldLink RX6 96 "CasketLinesModel" "acts" "I") (by decide +kernel)) (fun _ h9 => h9) rfl (by decide +kernel) rfl rfl (Nat.le_of_ble_eq_true rfl) dX6_keepAct_68 (fun H locs hP _ hS => ?_)
    have hP : va_P E.1 vwCl [(a_t, .inr (6, [.int x_t_isTrue, .int x_t_caskets, .int x_t_wooers, .ref a_t_metal, .ref a_t_kind, .ref a_t_now, .ref a_t_readOf, .ref a_t_readKind, .int x_t_readTrue, .int x_t_readCaskets, .int x_t_readWooers, .int x_t_readPicture, .ref a_t_text, .int x_t_length, .int x_t_at, .int x_t_faultAt, .int 14, .int ((x_t_next + 1) - (x_t_next + 1) / 14 * 14), .ref a_t_row, .int x_t_riddleMany, .ref a_t_nots, .long x_t_seed, .ref a_t_isKept, .ref a_t_kept])), (a_t_now, .inl (E.2.1, 36, .inl r_t_now)), (a_t_row, .inl (E.2.1, 252, .inl r_t_row))] H := hP
    exact W.vret hx hb hr (fun t ht _ => ⟨by cases h; rfl, by rw [ht]; cases h; exact hP, hS.F ht⟩) hS.2.2 dX6_keepAct_71
  · have h := ifn c4 h
    refine lv_aload_n hx hb dX6_keepAct_57 rfl (lv_at hl 0 rfl) ?_
    refine va_get (D := E.1) (ci := 6) (v := .int x_t_acts) (C := RX6) (T := TX6) (N := 24) hx hb hts hiX6 hown hK hP 0 rfl rfl 16 (by decide) (hts (.fieldLink RX6 96 "CasketLinesModel" "acts" "I") (by decide +kernel)) (fun _ h9 => h9) rfl dX6_keepAct_58 ?_
    refine lv_iconst (v := 1) hx hb dX6_keepAct_61 (by decide) ?_
    refine lv_iadd hx hb dX6_keepAct_62 ?_
    refine lv_goto (tgt := 68) hx hb dX6_keepAct_63 (by decide) ?_
    refine va_put (D := E.1) (ci := 6) (v := .int (x_t_acts + 1)) (ty := .int) (C := RX6) (T := TX6) (N := 24) hx hb hts hiX6 tyX6 tyX6_ok nmX6 hown hK hP (hD.adr rfl) hS 0 rfl rfl 16 (by decide) (hts (.fieldLink RX6 96 "CasketLinesModel" "acts" "I") (by decide +kernel)) (fun _ h9 => h9) rfl (by decide +kernel) rfl rfl (Nat.le_of_ble_eq_true rfl) dX6_keepAct_68 (fun H locs hP _ hS => ?_)
    have hP : va_P E.1 vwCl [(a_t, .inr (6, [.int x_t_isTrue, .int x_t_caskets, .int x_t_wooers, .ref a_t_metal, .ref a_t_kind, .ref a_t_now, .ref a_t_readOf, .ref a_t_readKind, .int x_t_readTrue, .int x_t_readCaskets, .int x_t_readWooers, .int x_t_readPicture, .ref a_t_text, .int x_t_length, .int x_t_at, .int x_t_faultAt, .int (x_t_acts + 1), .int ((x_t_next + 1) - (x_t_next + 1) / 14 * 14), .ref a_t_row, .int x_t_riddleMany, .ref a_t_nots, .long x_t_seed, .ref a_t_isKept, .ref a_t_kept])), (a_t_now, .inl (E.2.1, 36, .inl r_t_now)), (a_t_row, .inl (E.2.1, 252, .inl r_t_row))] H := hP
    exact W.vret hx hb hr (fun t ht _ => ⟨by cases h; rfl, by rw [ht]; cases h; exact hP, hS.F ht⟩) hS.2.2 dX6_keepAct_71
set_option maxHeartbeats 4000000 in
set_option maxRecDepth 100000 in
theorem w_X6_keepAct_2_b {p : Program} {l : Launch} {e : Env} {s : State} {m : MethodId} {args : Array Value} {below : List Frame} {meth : Method} {c : Code} {E : Ev} {A : Nat → Prop} (a_t a_t_metal a_t_kind a_t_now a_t_readOf a_t_readKind a_t_text a_t_row a_t_nots a_t_isKept a_t_kept : Nat) (x_t_isTrue : Int32) (x_t_caskets : Int32) (x_t_wooers : Int32) (x_t_readTrue : Int32) (x_t_readCaskets : Int32) (x_t_readWooers : Int32) (x_t_readPicture : Int32) (x_t_length : Int32) (x_t_at : Int32) (x_t_faultAt : Int32) (x_t_acts : Int32) (x_t_next : Int32) (x_t_riddleMany : Int32) (x_t_seed : Int64) (r_t_now : Nat → Int32) (r_t_row : Nat → Int32) (o_x_t_acts : Int32) (o_x_t_next : Int32) (o_r_t_row : Nat → Int32) (X : Cxt p s m args meth c cX6_keepAct 2 wsX6_keepAct RX6 none) (hw : Cw E A s [(a_t, .inr (6, [.int x_t_isTrue, .int x_t_caskets, .int x_t_wooers, .ref a_t_metal, .ref a_t_kind, .ref a_t_now, .ref a_t_readOf, .ref a_t_readKind, .int x_t_readTrue, .int x_t_readCaskets, .int x_t_readWooers, .int x_t_readPicture, .ref a_t_text, .int x_t_length, .int x_t_at, .int x_t_faultAt, .int x_t_acts, .int x_t_next, .ref a_t_row, .int x_t_riddleMany, .ref a_t_nots, .long x_t_seed, .ref a_t_isKept, .ref a_t_kept])), (a_t_now, .inl (E.2.1, 36, .inl r_t_now)), (a_t_row, .inl (E.2.1, 252, .inl r_t_row))]) (k2 : (Nat → Int32) × Int32 → Option (Int32 × Int32 × (Nat → Int32))) (hk2 : ∀ (r_t_row : Nat → Int32) (v1 : Int32), k2 (r_t_row, v1) = some (o_x_t_acts, o_x_t_next, o_r_t_row) → ∀ (H : Heap) (locs : List Loc), va_P E.1 vwCl [(a_t, .inr (6, [.int x_t_isTrue, .int x_t_caskets, .int x_t_wooers, .ref a_t_metal, .ref a_t_kind, .ref a_t_now, .ref a_t_readOf, .ref a_t_readKind, .int x_t_readTrue, .int x_t_readCaskets, .int x_t_readWooers, .int x_t_readPicture, .ref a_t_text, .int x_t_length, .int x_t_at, .int x_t_faultAt, .int x_t_acts, .int x_t_next, .ref a_t_row, .int x_t_riddleMany, .ref a_t_nots, .long x_t_seed, .ref a_t_isKept, .ref a_t_kept])), (a_t_now, .inl (E.2.1, 36, .inl r_t_now)), (a_t_row, .inl (E.2.1, 252, .inl r_t_row))] H → va_S A s.heap H locs → ∀ (ls : Array Slot), lv_has ls 2 [(0, .ref a_t), (1, .int v1)] → W p l e { frames := 0, cells := 0, slots := 0, locals := 0 } s m args below meth c H locs 0 0 (MQ below (Qw E none [(a_t, .inr (6, [.int x_t_isTrue, .int x_t_caskets, .int x_t_wooers, .ref a_t_metal, .ref a_t_kind, .ref a_t_now, .ref a_t_readOf, .ref a_t_readKind, .int x_t_readTrue, .int x_t_readCaskets, .int x_t_readWooers, .int x_t_readPicture, .ref a_t_text, .int x_t_length, .int x_t_at, .int x_t_faultAt, .int o_x_t_acts, .int o_x_t_next, .ref a_t_row, .int x_t_riddleMany, .ref a_t_nots, .long x_t_seed, .ref a_t_isKept, .ref a_t_kept])), (a_t_now, .inl (E.2.1, 36, .inl r_t_now)), (a_t_row, .inl (E.2.1, 252, .inl o_r_t_row))] A) args s 0 0 A) (F0 m 2 ls [])) (v1 : Int32) (h : f_X6_keepAct_2_b x_t_acts x_t_next r_t_now k2 r_t_row v1 = some (o_x_t_acts, o_x_t_next, o_r_t_row)) {H : Heap} {locs : List Loc} (hP : va_P E.1 vwCl [(a_t, .inr (6, [.int x_t_isTrue, .int x_t_caskets, .int x_t_wooers, .ref a_t_metal, .ref a_t_kind, .ref a_t_now, .ref a_t_readOf, .ref a_t_readKind, .int x_t_readTrue, .int x_t_readCaskets, .int x_t_readWooers, .int x_t_readPicture, .ref a_t_text, .int x_t_length, .int x_t_at, .int x_t_faultAt, .int x_t_acts, .int x_t_next, .ref a_t_row, .int x_t_riddleMany, .ref a_t_nots, .long x_t_seed, .ref a_t_isKept, .ref a_t_kept])), (a_t_now, .inl (E.2.1, 36, .inl r_t_now)), (a_t_row, .inl (E.2.1, 252, .inl r_t_row))] H) (hS : va_S A s.heap H locs) {ls : Array Slot} (hl : lv_has ls 2 [(0, .ref a_t), (1, .int v1)]) : W p l e { frames := 0, cells := 0, slots := 0, locals := 0 } s m args below meth c H locs 0 0 (MQ below (Qw E none [(a_t, .inr (6, [.int x_t_isTrue, .int x_t_caskets, .int x_t_wooers, .ref a_t_metal, .ref a_t_kind, .ref a_t_now, .ref a_t_readOf, .ref a_t_readKind, .int x_t_readTrue, .int x_t_readCaskets, .int x_t_readWooers, .int x_t_readPicture, .ref a_t_text, .int x_t_length, .int x_t_at, .int x_t_faultAt, .int o_x_t_acts, .int o_x_t_next, .ref a_t_row, .int x_t_riddleMany, .ref a_t_nots, .long x_t_seed, .ref a_t_isKept, .ref a_t_kept])), (a_t_now, .inl (E.2.1, 36, .inl r_t_now)), (a_t_row, .inl (E.2.1, 252, .inl o_r_t_row))] A) args s 0 0 A) (F0 m 2 ls []) := by
  obtain ⟨⟨hx, hb, hml, hown, hts⟩, hr, hlocks⟩ := id X
  obtain ⟨hC, hAB, hA, hB, hD⟩ := id hw
  have hiX6 : ∀ w ∈ u_ws RX6 TX6 24, w ∈ wsX6_keepAct := by decide +kernel
  have hK := hC.1
  unfold f_X6_keepAct_2_b at h
  refine lv_iload_n hx hb dX6_keepAct_2 rfl (lv_at hl 1 rfl) ?_
  refine lv_bipush (v := 18) hx hb dX6_keepAct_3 (by decide) ?_
  refine lv_icmp_ge (tgt := 34) hx hb dX6_keepAct_5 (by decide) (fun c1 => ?_) (fun c1 => ?_)
  · have h := ifp c1 h
    exact w_X6_keepAct_34 a_t a_t_metal a_t_kind a_t_now a_t_readOf a_t_readKind a_t_text a_t_row a_t_nots a_t_isKept a_t_kept x_t_isTrue x_t_caskets x_t_wooers x_t_readTrue x_t_readCaskets x_t_readWooers x_t_readPicture x_t_length x_t_at x_t_faultAt x_t_acts x_t_next x_t_riddleMany x_t_seed r_t_now r_t_row   o_x_t_acts o_x_t_next o_r_t_row X (hw.adr rfl)  h H locs hP hS ls (lv_sub hl [0] rfl)
  · have h := ifn c1 h
    refine lv_aload_n hx hb dX6_keepAct_8 rfl (lv_at hl 0 rfl) ?_
    refine va_get (D := E.1) (ci := 6) (v := .ref a_t_row) (C := RX6) (T := TX6) (N := 24) hx hb hts hiX6 hown hK hP 0 rfl rfl 18 (by decide) (hts (.fieldLink RX6 28 "CasketLinesModel" "row" "[I") (by decide +kernel)) (fun _ h9 => h9) rfl dX6_keepAct_9 ?_
    refine lv_bipush (v := 18) hx hb dX6_keepAct_12 (by decide) ?_
    refine lv_aload_n hx hb dX6_keepAct_14 rfl (lv_at hl 0 rfl) ?_
    refine va_get (D := E.1) (ci := 6) (v := .int x_t_next) (C := RX6) (T := TX6) (N := 24) hx hb hts hiX6 hown hK hP 0 rfl rfl 17 (by decide) (hts (.fieldLink RX6 133 "CasketLinesModel" "next" "I") (by decide +kernel)) (fun _ h9 => h9) rfl dX6_keepAct_15 ?_
    refine lv_imul hx hb dX6_keepAct_18 ?_
    refine lv_iload_n hx hb dX6_keepAct_19 rfl (lv_at hl 1 rfl) ?_
    refine lv_iadd hx hb dX6_keepAct_20 ?_
    refine lv_aload_n hx hb dX6_keepAct_21 rfl (lv_at hl 0 rfl) ?_
    refine va_get (D := E.1) (ci := 6) (v := .ref a_t_now) (C := RX6) (T := TX6) (N := 24) hx hb hts hiX6 hown hK hP 0 rfl rfl 5 (by decide) (hts (.fieldLink RX6 16 "CasketLinesModel" "now" "[I") (by decide +kernel)) (fun _ h9 => h9) rfl dX6_keepAct_22 ?_
    refine lv_iload_n hx hb dX6_keepAct_25 rfl (lv_at hl 1 rfl) ?_
    obtain ⟨b2, h⟩ := gdn h
    refine va_iald hx hb hK hP 1 0 rfl rfl b2 dX6_keepAct_26 ?_
    obtain ⟨b3, h⟩ := gdn h
    refine va_iast hx hb hK hP (hD.adr rfl) hS 2 0 rfl rfl b3 dX6_keepAct_27 (fun H locs hP _ hS => ?_)
    have hP : va_P E.1 vwCl [(a_t, .inr (6, [.int x_t_isTrue, .int x_t_caskets, .int x_t_wooers, .ref a_t_metal, .ref a_t_kind, .ref a_t_now, .ref a_t_readOf, .ref a_t_readKind, .int x_t_readTrue, .int x_t_readCaskets, .int x_t_readWooers, .int x_t_readPicture, .ref a_t_text, .int x_t_length, .int x_t_at, .int x_t_faultAt, .int x_t_acts, .int x_t_next, .ref a_t_row, .int x_t_riddleMany, .ref a_t_nots, .long x_t_seed, .ref a_t_isKept, .ref a_t_kept])), (a_t_now, .inl (E.2.1, 36, .inl r_t_now)), (a_t_row, .inl (E.2.1, 252, .inl (upd r_t_row (Int32.toNatClampNeg ((18 * x_t_next) + v1)) (r_t_now (Int32.toNatClampNeg v1)))))] H := hP
    refine lv_iinc (v := (v1 + 1)) (lv' := [(1, .int (v1 + 1)), (0, .ref a_t)]) hx hb dX6_keepAct_28 hl (k := 1) rfl rfl (by decide) rfl (fun ls hl => ?_)
    refine lv_goto (tgt := 2) hx hb dX6_keepAct_31 (by decide) ?_
    exact hk2 (upd r_t_row (Int32.toNatClampNeg ((18 * x_t_next) + v1)) (r_t_now (Int32.toNatClampNeg v1))) (v1 + 1) h H locs hP hS ls (lv_sub hl [1, 0] rfl)
set_option maxHeartbeats 4000000 in
set_option maxRecDepth 100000 in
theorem w_X6_keepAct_2 {p : Program} {l : Launch} {e : Env} {s : State} {m : MethodId} {args : Array Value} {below : List Frame} {meth : Method} {c : Code} {E : Ev} {A : Nat → Prop} (a_t a_t_metal a_t_kind a_t_now a_t_readOf a_t_readKind a_t_text a_t_row a_t_nots a_t_isKept a_t_kept : Nat) (x_t_isTrue : Int32) (x_t_caskets : Int32) (x_t_wooers : Int32) (x_t_readTrue : Int32) (x_t_readCaskets : Int32) (x_t_readWooers : Int32) (x_t_readPicture : Int32) (x_t_length : Int32) (x_t_at : Int32) (x_t_faultAt : Int32) (x_t_acts : Int32) (x_t_next : Int32) (x_t_riddleMany : Int32) (x_t_seed : Int64) (r_t_now : Nat → Int32) (r_t_row : Nat → Int32) (o_x_t_acts : Int32) (o_x_t_next : Int32) (o_r_t_row : Nat → Int32) (X : Cxt p s m args meth c cX6_keepAct 2 wsX6_keepAct RX6 none) (hw : Cw E A s [(a_t, .inr (6, [.int x_t_isTrue, .int x_t_caskets, .int x_t_wooers, .ref a_t_metal, .ref a_t_kind, .ref a_t_now, .ref a_t_readOf, .ref a_t_readKind, .int x_t_readTrue, .int x_t_readCaskets, .int x_t_readWooers, .int x_t_readPicture, .ref a_t_text, .int x_t_length, .int x_t_at, .int x_t_faultAt, .int x_t_acts, .int x_t_next, .ref a_t_row, .int x_t_riddleMany, .ref a_t_nots, .long x_t_seed, .ref a_t_isKept, .ref a_t_kept])), (a_t_now, .inl (E.2.1, 36, .inl r_t_now)), (a_t_row, .inl (E.2.1, 252, .inl r_t_row))]) : ∀ (n : Nat) (r_t_row : Nat → Int32) (v1 : Int32), f_X6_keepAct_2 x_t_acts x_t_next r_t_now n r_t_row v1 = some (o_x_t_acts, o_x_t_next, o_r_t_row) → ∀ (H : Heap) (locs : List Loc), va_P E.1 vwCl [(a_t, .inr (6, [.int x_t_isTrue, .int x_t_caskets, .int x_t_wooers, .ref a_t_metal, .ref a_t_kind, .ref a_t_now, .ref a_t_readOf, .ref a_t_readKind, .int x_t_readTrue, .int x_t_readCaskets, .int x_t_readWooers, .int x_t_readPicture, .ref a_t_text, .int x_t_length, .int x_t_at, .int x_t_faultAt, .int x_t_acts, .int x_t_next, .ref a_t_row, .int x_t_riddleMany, .ref a_t_nots, .long x_t_seed, .ref a_t_isKept, .ref a_t_kept])), (a_t_now, .inl (E.2.1, 36, .inl r_t_now)), (a_t_row, .inl (E.2.1, 252, .inl r_t_row))] H → va_S A s.heap H locs → ∀ (ls : Array Slot), lv_has ls 2 [(0, .ref a_t), (1, .int v1)] → W p l e { frames := 0, cells := 0, slots := 0, locals := 0 } s m args below meth c H locs 0 0 (MQ below (Qw E none [(a_t, .inr (6, [.int x_t_isTrue, .int x_t_caskets, .int x_t_wooers, .ref a_t_metal, .ref a_t_kind, .ref a_t_now, .ref a_t_readOf, .ref a_t_readKind, .int x_t_readTrue, .int x_t_readCaskets, .int x_t_readWooers, .int x_t_readPicture, .ref a_t_text, .int x_t_length, .int x_t_at, .int x_t_faultAt, .int o_x_t_acts, .int o_x_t_next, .ref a_t_row, .int x_t_riddleMany, .ref a_t_nots, .long x_t_seed, .ref a_t_isKept, .ref a_t_kept])), (a_t_now, .inl (E.2.1, 36, .inl r_t_now)), (a_t_row, .inl (E.2.1, 252, .inl o_r_t_row))] A) args s 0 0 A) (F0 m 2 ls []) := by
  intro n
  induction n with
  | zero =>
    intro r_t_row v1 h
    exact (rk_z _ _ h).elim
  | succ n ih =>
    intro r_t_row v1 h H locs hP hS ls hl
    exact w_X6_keepAct_2_b a_t a_t_metal a_t_kind a_t_now a_t_readOf a_t_readKind a_t_text a_t_row a_t_nots a_t_isKept a_t_kept x_t_isTrue x_t_caskets x_t_wooers x_t_readTrue x_t_readCaskets x_t_readWooers x_t_readPicture x_t_length x_t_at x_t_faultAt x_t_acts x_t_next x_t_riddleMany x_t_seed r_t_now r_t_row   o_x_t_acts o_x_t_next o_r_t_row X (hw.adr rfl)  (rk (fun k x => f_X6_keepAct_2_b x_t_acts x_t_next r_t_now  k (x.1) (x.2)) n) (fun r_t_row v1 hh => ih r_t_row v1 hh) v1 h hP hS hl
set_option maxHeartbeats 4000000 in
set_option maxRecDepth 100000 in
theorem w_X6_keepAct {p : Program} {l : Launch} {e : Env} {s : State} {m : MethodId} {args : Array Value} {below : List Frame} {meth : Method} {c : Code} {E : Ev} {A : Nat → Prop} (a_t a_t_metal a_t_kind a_t_now a_t_readOf a_t_readKind a_t_text a_t_row a_t_nots a_t_isKept a_t_kept : Nat) (x_t_isTrue : Int32) (x_t_caskets : Int32) (x_t_wooers : Int32) (x_t_readTrue : Int32) (x_t_readCaskets : Int32) (x_t_readWooers : Int32) (x_t_readPicture : Int32) (x_t_length : Int32) (x_t_at : Int32) (x_t_faultAt : Int32) (x_t_acts : Int32) (x_t_next : Int32) (x_t_riddleMany : Int32) (x_t_seed : Int64) (r_t_now : Nat → Int32) (r_t_row : Nat → Int32) (o_x_t_acts : Int32) (o_x_t_next : Int32) (o_r_t_row : Nat → Int32) (X : Cxt p s m args meth c cX6_keepAct 2 wsX6_keepAct RX6 none) (hw : Cw E A s [(a_t, .inr (6, [.int x_t_isTrue, .int x_t_caskets, .int x_t_wooers, .ref a_t_metal, .ref a_t_kind, .ref a_t_now, .ref a_t_readOf, .ref a_t_readKind, .int x_t_readTrue, .int x_t_readCaskets, .int x_t_readWooers, .int x_t_readPicture, .ref a_t_text, .int x_t_length, .int x_t_at, .int x_t_faultAt, .int x_t_acts, .int x_t_next, .ref a_t_row, .int x_t_riddleMany, .ref a_t_nots, .long x_t_seed, .ref a_t_isKept, .ref a_t_kept])), (a_t_now, .inl (E.2.1, 36, .inl r_t_now)), (a_t_row, .inl (E.2.1, 252, .inl r_t_row))]) (h : f_X6_keepAct x_t_acts x_t_next r_t_now r_t_row = some (o_x_t_acts, o_x_t_next, o_r_t_row)) {H : Heap} {locs : List Loc} (hP : va_P E.1 vwCl [(a_t, .inr (6, [.int x_t_isTrue, .int x_t_caskets, .int x_t_wooers, .ref a_t_metal, .ref a_t_kind, .ref a_t_now, .ref a_t_readOf, .ref a_t_readKind, .int x_t_readTrue, .int x_t_readCaskets, .int x_t_readWooers, .int x_t_readPicture, .ref a_t_text, .int x_t_length, .int x_t_at, .int x_t_faultAt, .int x_t_acts, .int x_t_next, .ref a_t_row, .int x_t_riddleMany, .ref a_t_nots, .long x_t_seed, .ref a_t_isKept, .ref a_t_kept])), (a_t_now, .inl (E.2.1, 36, .inl r_t_now)), (a_t_row, .inl (E.2.1, 252, .inl r_t_row))] H) (hS : va_S A s.heap H locs) {ls : Array Slot} (hl : lv_has ls 2 [(0, .ref a_t)]) : W p l e { frames := 0, cells := 0, slots := 0, locals := 0 } s m args below meth c H locs 0 0 (MQ below (Qw E none [(a_t, .inr (6, [.int x_t_isTrue, .int x_t_caskets, .int x_t_wooers, .ref a_t_metal, .ref a_t_kind, .ref a_t_now, .ref a_t_readOf, .ref a_t_readKind, .int x_t_readTrue, .int x_t_readCaskets, .int x_t_readWooers, .int x_t_readPicture, .ref a_t_text, .int x_t_length, .int x_t_at, .int x_t_faultAt, .int o_x_t_acts, .int o_x_t_next, .ref a_t_row, .int x_t_riddleMany, .ref a_t_nots, .long x_t_seed, .ref a_t_isKept, .ref a_t_kept])), (a_t_now, .inl (E.2.1, 36, .inl r_t_now)), (a_t_row, .inl (E.2.1, 252, .inl o_r_t_row))] A) args s 0 0 A) (F0 m 0 ls []) := by
  obtain ⟨⟨hx, hb, hml, hown, hts⟩, hr, hlocks⟩ := id X
  obtain ⟨hC, hAB, hA, hB, hD⟩ := id hw
  have hiX6 : ∀ w ∈ u_ws RX6 TX6 24, w ∈ wsX6_keepAct := by decide +kernel
  have hK := hC.1
  unfold f_X6_keepAct at h
  refine lv_iconst (v := 0) hx hb dX6_keepAct_0 (by decide) ?_
  refine lv_istore_n (lv' := [(1, .int 0), (0, .ref a_t)]) hx hb dX6_keepAct_1 rfl hl (by decide) rfl (fun ls hl => ?_)
  exact w_X6_keepAct_2 a_t a_t_metal a_t_kind a_t_now a_t_readOf a_t_readKind a_t_text a_t_row a_t_nots a_t_isKept a_t_kept x_t_isTrue x_t_caskets x_t_wooers x_t_readTrue x_t_readCaskets x_t_readWooers x_t_readPicture x_t_length x_t_at x_t_faultAt x_t_acts x_t_next x_t_riddleMany x_t_seed r_t_now r_t_row   o_x_t_acts o_x_t_next o_r_t_row X (hw.adr rfl)  200 r_t_row 0 h H locs hP hS ls (lv_sub hl [1, 0] rfl)
set_option maxHeartbeats 4000000 in
set_option maxRecDepth 100000 in
theorem k_X6_keepAct {l : Launch} {E : Ev} (a_t a_t_metal a_t_kind a_t_now a_t_readOf a_t_readKind a_t_text a_t_row a_t_nots a_t_isKept a_t_kept : Nat) (x_t_isTrue : Int32) (x_t_caskets : Int32) (x_t_wooers : Int32) (x_t_readTrue : Int32) (x_t_readCaskets : Int32) (x_t_readWooers : Int32) (x_t_readPicture : Int32) (x_t_length : Int32) (x_t_at : Int32) (x_t_faultAt : Int32) (x_t_acts : Int32) (x_t_next : Int32) (x_t_riddleMany : Int32) (x_t_seed : Int64) (r_t_now : Nat → Int32) (r_t_row : Nat → Int32) (sz : Nat) (o_x_t_acts : Int32) (o_x_t_next : Int32) (o_r_t_row : Nat → Int32) (hf : f_X6_keepAct x_t_acts x_t_next r_t_now r_t_row = some (o_x_t_acts, o_x_t_next, o_r_t_row)) : Met l yX6_keepAct wsX6_keepAct ({ frames := 0, cells := 0, slots := 0, locals := 0 }) (Pw E [.ref a_t] [(a_t, .inr (6, [.int x_t_isTrue, .int x_t_caskets, .int x_t_wooers, .ref a_t_metal, .ref a_t_kind, .ref a_t_now, .ref a_t_readOf, .ref a_t_readKind, .int x_t_readTrue, .int x_t_readCaskets, .int x_t_readWooers, .int x_t_readPicture, .ref a_t_text, .int x_t_length, .int x_t_at, .int x_t_faultAt, .int x_t_acts, .int x_t_next, .ref a_t_row, .int x_t_riddleMany, .ref a_t_nots, .long x_t_seed, .ref a_t_isKept, .ref a_t_kept])), (a_t_now, .inl (E.2.1, 36, .inl r_t_now)), (a_t_row, .inl (E.2.1, 252, .inl r_t_row))] sz) (Qw E none [(a_t, .inr (6, [.int x_t_isTrue, .int x_t_caskets, .int x_t_wooers, .ref a_t_metal, .ref a_t_kind, .ref a_t_now, .ref a_t_readOf, .ref a_t_readKind, .int x_t_readTrue, .int x_t_readCaskets, .int x_t_readWooers, .int x_t_readPicture, .ref a_t_text, .int x_t_length, .int x_t_at, .int x_t_faultAt, .int o_x_t_acts, .int o_x_t_next, .ref a_t_row, .int x_t_riddleMany, .ref a_t_nots, .long x_t_seed, .ref a_t_isKept, .ref a_t_kept])), (a_t_now, .inl (E.2.1, 36, .inl r_t_now)), (a_t_row, .inl (E.2.1, 252, .inl o_r_t_row))] (va_A [(a_t, .inr (6, [.int x_t_isTrue, .int x_t_caskets, .int x_t_wooers, .ref a_t_metal, .ref a_t_kind, .ref a_t_now, .ref a_t_readOf, .ref a_t_readKind, .int x_t_readTrue, .int x_t_readCaskets, .int x_t_readWooers, .int x_t_readPicture, .ref a_t_text, .int x_t_length, .int x_t_at, .int x_t_faultAt, .int x_t_acts, .int x_t_next, .ref a_t_row, .int x_t_riddleMany, .ref a_t_nots, .long x_t_seed, .ref a_t_isKept, .ref a_t_kept])), (a_t_now, .inl (E.2.1, 36, .inl r_t_now)), (a_t_row, .inl (E.2.1, 252, .inl r_t_row))] sz)) 0 0 (va_A [(a_t, .inr (6, [.int x_t_isTrue, .int x_t_caskets, .int x_t_wooers, .ref a_t_metal, .ref a_t_kind, .ref a_t_now, .ref a_t_readOf, .ref a_t_readKind, .int x_t_readTrue, .int x_t_readCaskets, .int x_t_readWooers, .int x_t_readPicture, .ref a_t_text, .int x_t_length, .int x_t_at, .int x_t_faultAt, .int x_t_acts, .int x_t_next, .ref a_t_row, .int x_t_riddleMany, .ref a_t_nots, .long x_t_seed, .ref a_t_isKept, .ref a_t_kept])), (a_t_now, .inl (E.2.1, 36, .inl r_t_now)), (a_t_row, .inl (E.2.1, 252, .inl r_t_row))] sz) := by
  refine Met.ofW (cc := cX6_keepAct) (maxL := 2) (ret := none) (by decide) rfl ?_
  intro p e s m args below meth c s₁ B hml hv
  obtain ⟨rfl, rfl, hw, hP⟩ := Pw.start hv
  have X := Cxt.of B hml
  have hl := lv_entry ([.ref a_t]) (n := 2) (Nat.le_of_ble_eq_true rfl)
  rw [lg_entry_eq]
  exact w_X6_keepAct a_t a_t_metal a_t_kind a_t_now a_t_readOf a_t_readKind a_t_text a_t_row a_t_nots a_t_isKept a_t_kept x_t_isTrue x_t_caskets x_t_wooers x_t_readTrue x_t_readCaskets x_t_readWooers x_t_readPicture x_t_length x_t_at x_t_faultAt x_t_acts x_t_next x_t_riddleMany x_t_seed r_t_now r_t_row  o_x_t_acts o_x_t_next o_r_t_row X hw hf hP va_S.rf hl
set_option maxHeartbeats 4000000 in
set_option maxRecDepth 100000 in
theorem w_X6_tryOn_92 {p : Program} {l : Launch} {e : Env} {s : State} {m : MethodId} {args : Array Value} {below : List Frame} {meth : Method} {c : Code} {E : Ev} {A : Nat → Prop} (a_t a_t_metal a_t_kind a_t_now a_t_readOf a_t_readKind a_t_text a_t_row a_t_nots a_t_isKept a_t_kept : Nat) (x_t_isTrue : Int32) (x_t_caskets : Int32) (x_t_wooers : Int32) (x_t_readTrue : Int32) (x_t_readCaskets : Int32) (x_t_readWooers : Int32) (x_t_readPicture : Int32) (x_t_length : Int32) (x_t_at : Int32) (x_t_faultAt : Int32) (x_t_acts : Int32) (x_t_next : Int32) (x_t_riddleMany : Int32) (x_t_seed : Int64) (r_t_metal : Nat → Int32) (r_t_kind : Nat → Int32) (r_t_now : Nat → Int32) (v2 : Int32) (v4 : Int32) (s0 : Int32) (s1 : Int32) (o_r : Int32) (o_r_t_now : Nat → Int32) (X : Cxt p s m args meth c cX6_tryOn 5 wsX6_tryOn RX6 (some .int)) (hw : Cw E A s [(a_t, .inr (6, [.int x_t_isTrue, .int x_t_caskets, .int x_t_wooers, .ref a_t_metal, .ref a_t_kind, .ref a_t_now, .ref a_t_readOf, .ref a_t_readKind, .int x_t_readTrue, .int x_t_readCaskets, .int x_t_readWooers, .int x_t_readPicture, .ref a_t_text, .int x_t_length, .int x_t_at, .int x_t_faultAt, .int x_t_acts, .int x_t_next, .ref a_t_row, .int x_t_riddleMany, .ref a_t_nots, .long x_t_seed, .ref a_t_isKept, .ref a_t_kept])), (a_t_metal, .inl (E.2.1, 4, .inl r_t_metal)), (a_t_kind, .inl (E.2.1, 6, .inl r_t_kind)), (a_t_now, .inl (E.2.1, 36, .inl r_t_now))]) (h : f_X6_tryOn_92 r_t_now v2 v4 s0 s1 = some (o_r, o_r_t_now)) (H : Heap) (locs : List Loc) (hP : va_P E.1 vwCl [(a_t, .inr (6, [.int x_t_isTrue, .int x_t_caskets, .int x_t_wooers, .ref a_t_metal, .ref a_t_kind, .ref a_t_now, .ref a_t_readOf, .ref a_t_readKind, .int x_t_readTrue, .int x_t_readCaskets, .int x_t_readWooers, .int x_t_readPicture, .ref a_t_text, .int x_t_length, .int x_t_at, .int x_t_faultAt, .int x_t_acts, .int x_t_next, .ref a_t_row, .int x_t_riddleMany, .ref a_t_nots, .long x_t_seed, .ref a_t_isKept, .ref a_t_kept])), (a_t_metal, .inl (E.2.1, 4, .inl r_t_metal)), (a_t_kind, .inl (E.2.1, 6, .inl r_t_kind)), (a_t_now, .inl (E.2.1, 36, .inl r_t_now))] H) (hS : va_S A s.heap H locs) (ls : Array Slot) (hl : lv_has ls 5 [(0, .ref a_t), (2, .int v2), (4, .int v4)]) : W p l e { frames := 6, cells := 0, slots := 0, locals := 146 } s m args below meth c H locs 0 0 (MQ below (Qw E (some (.int o_r)) [(a_t, .inr (6, [.int x_t_isTrue, .int x_t_caskets, .int x_t_wooers, .ref a_t_metal, .ref a_t_kind, .ref a_t_now, .ref a_t_readOf, .ref a_t_readKind, .int x_t_readTrue, .int x_t_readCaskets, .int x_t_readWooers, .int x_t_readPicture, .ref a_t_text, .int x_t_length, .int x_t_at, .int x_t_faultAt, .int x_t_acts, .int x_t_next, .ref a_t_row, .int x_t_riddleMany, .ref a_t_nots, .long x_t_seed, .ref a_t_isKept, .ref a_t_kept])), (a_t_metal, .inl (E.2.1, 4, .inl r_t_metal)), (a_t_kind, .inl (E.2.1, 6, .inl r_t_kind)), (a_t_now, .inl (E.2.1, 36, .inl o_r_t_now))] A) args s 0 0 A) (F0 m 92 ls [.int s0, .int s1, .ref a_t_now]) := by
  obtain ⟨⟨hx, hb, hml, hown, hts⟩, hr, hlocks⟩ := id X
  obtain ⟨hC, hAB, hA, hB, hD⟩ := id hw
  have hiX6 : ∀ w ∈ u_ws RX6 TX6 24, w ∈ wsX6_tryOn := by decide +kernel
  have hK := hC.1
  unfold f_X6_tryOn_92 at h
  obtain ⟨b1, h⟩ := gdn h
  refine va_iast hx hb hK hP (hD.adr rfl) hS 3 0 rfl rfl b1 dX6_tryOn_92 (fun H locs hP _ hS => ?_)
  have hP : va_P E.1 vwCl [(a_t, .inr (6, [.int x_t_isTrue, .int x_t_caskets, .int x_t_wooers, .ref a_t_metal, .ref a_t_kind, .ref a_t_now, .ref a_t_readOf, .ref a_t_readKind, .int x_t_readTrue, .int x_t_readCaskets, .int x_t_readWooers, .int x_t_readPicture, .ref a_t_text, .int x_t_length, .int x_t_at, .int x_t_faultAt, .int x_t_acts, .int x_t_next, .ref a_t_row, .int x_t_riddleMany, .ref a_t_nots, .long x_t_seed, .ref a_t_isKept, .ref a_t_kept])), (a_t_metal, .inl (E.2.1, 4, .inl r_t_metal)), (a_t_kind, .inl (E.2.1, 6, .inl r_t_kind)), (a_t_now, .inl (E.2.1, 36, .inl (upd r_t_now (Int32.toNatClampNeg s1) s0)))] H := hP
  refine lv_aload_n hx hb dX6_tryOn_93 rfl (lv_at hl 0 rfl) ?_
  refine va_get (D := E.1) (ci := 6) (v := .ref a_t_now) (C := RX6) (T := TX6) (N := 24) hx hb hts hiX6 hown hK hP 0 rfl rfl 5 (by decide) (hts (.fieldLink RX6 16 "CasketLinesModel" "now" "[I") (by decide +kernel)) (fun _ h9 => h9) rfl dX6_tryOn_94 ?_
  refine lv_iload_n hx hb dX6_tryOn_97 rfl (lv_at hl 1 rfl) ?_
  refine lv_bipush (v := 10) hx hb dX6_tryOn_98 (by decide) ?_
  refine lv_iadd hx hb dX6_tryOn_100 ?_
  refine lv_dup2_11 hx hb dX6_tryOn_101 rfl rfl ?_
  obtain ⟨b2, h⟩ := gdn h
  refine va_iald hx hb hK hP 3 0 rfl rfl b2 dX6_tryOn_102 ?_
  refine lv_iconst (v := 1) hx hb dX6_tryOn_103 (by decide) ?_
  refine lv_iadd hx hb dX6_tryOn_104 ?_
  obtain ⟨b3, h⟩ := gdn h
  refine va_iast hx hb hK hP (hD.adr rfl) hS 3 0 rfl rfl b3 dX6_tryOn_105 (fun H locs hP _ hS => ?_)
  have hP : va_P E.1 vwCl [(a_t, .inr (6, [.int x_t_isTrue, .int x_t_caskets, .int x_t_wooers, .ref a_t_metal, .ref a_t_kind, .ref a_t_now, .ref a_t_readOf, .ref a_t_readKind, .int x_t_readTrue, .int x_t_readCaskets, .int x_t_readWooers, .int x_t_readPicture, .ref a_t_text, .int x_t_length, .int x_t_at, .int x_t_faultAt, .int x_t_acts, .int x_t_next, .ref a_t_row, .int x_t_riddleMany, .ref a_t_nots, .long x_t_seed, .ref a_t_isKept, .ref a_t_kept])), (a_t_metal, .inl (E.2.1, 4, .inl r_t_metal)), (a_t_kind, .inl (E.2.1, 6, .inl r_t_kind)), (a_t_now, .inl (E.2.1, 36, .inl (upd (upd r_t_now (Int32.toNatClampNeg s1) s0) (Int32.toNatClampNeg (v2 + 10)) (((upd r_t_now (Int32.toNatClampNeg s1) s0) (Int32.toNatClampNeg (v2 + 10))) + 1))))] H := hP
  refine lv_iload hx hb dX6_tryOn_106 (lv_at hl 2 rfl) ?_
  exact W.iret hx hb hr (fun t ht _ => ⟨by cases h; rfl, by rw [ht]; cases h; exact hP, hS.F ht⟩) hS.2.2 dX6_tryOn_108
set_option maxHeartbeats 4000000 in
set_option maxRecDepth 100000 in
theorem w_X6_tryOn {p : Program} {l : Launch} {e : Env} {s : State} {m : MethodId} {args : Array Value} {below : List Frame} {meth : Method} {c : Code} {E : Ev} {A : Nat → Prop} (a_t a_t_metal a_t_kind a_t_now a_t_readOf a_t_readKind a_t_text a_t_row a_t_nots a_t_isKept a_t_kept : Nat) (x_t_isTrue : Int32) (x_t_caskets : Int32) (x_t_wooers : Int32) (x_t_readTrue : Int32) (x_t_readCaskets : Int32) (x_t_readWooers : Int32) (x_t_readPicture : Int32) (x_t_length : Int32) (x_t_at : Int32) (x_t_faultAt : Int32) (x_t_acts : Int32) (x_t_next : Int32) (x_t_riddleMany : Int32) (x_t_seed : Int64) (r_t_metal : Nat → Int32) (r_t_kind : Nat → Int32) (r_t_now : Nat → Int32) (p1 : Int32) (o_r : Int32) (o_r_t_now : Nat → Int32) (X : Cxt p s m args meth c cX6_tryOn 5 wsX6_tryOn RX6 (some .int)) (hw : Cw E A s [(a_t, .inr (6, [.int x_t_isTrue, .int x_t_caskets, .int x_t_wooers, .ref a_t_metal, .ref a_t_kind, .ref a_t_now, .ref a_t_readOf, .ref a_t_readKind, .int x_t_readTrue, .int x_t_readCaskets, .int x_t_readWooers, .int x_t_readPicture, .ref a_t_text, .int x_t_length, .int x_t_at, .int x_t_faultAt, .int x_t_acts, .int x_t_next, .ref a_t_row, .int x_t_riddleMany, .ref a_t_nots, .long x_t_seed, .ref a_t_isKept, .ref a_t_kept])), (a_t_metal, .inl (E.2.1, 4, .inl r_t_metal)), (a_t_kind, .inl (E.2.1, 6, .inl r_t_kind)), (a_t_now, .inl (E.2.1, 36, .inl r_t_now))]) (h : f_X6_tryOn x_t_isTrue x_t_caskets r_t_metal r_t_kind r_t_now p1 = some (o_r, o_r_t_now)) {H : Heap} {locs : List Loc} (hP : va_P E.1 vwCl [(a_t, .inr (6, [.int x_t_isTrue, .int x_t_caskets, .int x_t_wooers, .ref a_t_metal, .ref a_t_kind, .ref a_t_now, .ref a_t_readOf, .ref a_t_readKind, .int x_t_readTrue, .int x_t_readCaskets, .int x_t_readWooers, .int x_t_readPicture, .ref a_t_text, .int x_t_length, .int x_t_at, .int x_t_faultAt, .int x_t_acts, .int x_t_next, .ref a_t_row, .int x_t_riddleMany, .ref a_t_nots, .long x_t_seed, .ref a_t_isKept, .ref a_t_kept])), (a_t_metal, .inl (E.2.1, 4, .inl r_t_metal)), (a_t_kind, .inl (E.2.1, 6, .inl r_t_kind)), (a_t_now, .inl (E.2.1, 36, .inl r_t_now))] H) (hS : va_S A s.heap H locs) {ls : Array Slot} (hl : lv_has ls 5 [(0, .ref a_t), (1, .int p1)]) : W p l e { frames := 6, cells := 0, slots := 0, locals := 146 } s m args below meth c H locs 0 0 (MQ below (Qw E (some (.int o_r)) [(a_t, .inr (6, [.int x_t_isTrue, .int x_t_caskets, .int x_t_wooers, .ref a_t_metal, .ref a_t_kind, .ref a_t_now, .ref a_t_readOf, .ref a_t_readKind, .int x_t_readTrue, .int x_t_readCaskets, .int x_t_readWooers, .int x_t_readPicture, .ref a_t_text, .int x_t_length, .int x_t_at, .int x_t_faultAt, .int x_t_acts, .int x_t_next, .ref a_t_row, .int x_t_riddleMany, .ref a_t_nots, .long x_t_seed, .ref a_t_isKept, .ref a_t_kept])), (a_t_metal, .inl (E.2.1, 4, .inl r_t_metal)), (a_t_kind, .inl (E.2.1, 6, .inl r_t_kind)), (a_t_now, .inl (E.2.1, 36, .inl o_r_t_now))] A) args s 0 0 A) (F0 m 0 ls []) := by
  obtain ⟨⟨hx, hb, hml, hown, hts⟩, hr, hlocks⟩ := id X
  obtain ⟨hC, hAB, hA, hB, hD⟩ := id hw
  have hiX6 : ∀ w ∈ u_ws RX6 TX6 24, w ∈ wsX6_tryOn := by decide +kernel
  have hK := hC.1
  unfold f_X6_tryOn at h
  refine lv_bipush (v := 18) hx hb dX6_tryOn_0 (by decide) ?_
  refine lv_iload_n hx hb dX6_tryOn_2 rfl (lv_at hl 1 rfl) ?_
  refine lv_imul hx hb dX6_tryOn_3 ?_
  refine lv_istore_n (lv' := [(2, .int (18 * p1)), (0, .ref a_t), (1, .int p1)]) hx hb dX6_tryOn_4 rfl hl (by decide) rfl (fun ls hl => ?_)
  refine lv_aload_n hx hb dX6_tryOn_5 rfl (lv_at hl 1 rfl) ?_
  refine va_get (D := E.1) (ci := 6) (v := .ref a_t_now) (C := RX6) (T := TX6) (N := 24) hx hb hts hiX6 hown hK hP 0 rfl rfl 5 (by decide) (hts (.fieldLink RX6 16 "CasketLinesModel" "now" "[I") (by decide +kernel)) (fun _ h9 => h9) rfl dX6_tryOn_6 ?_
  refine lv_iload_n hx hb dX6_tryOn_9 rfl (lv_at hl 0 rfl) ?_
  refine lv_bipush (v := 10) hx hb dX6_tryOn_10 (by decide) ?_
  refine lv_iadd hx hb dX6_tryOn_12 ?_
  obtain ⟨b4, h⟩ := gdn h
  refine va_iald hx hb hK hP 3 0 rfl rfl b4 dX6_tryOn_13 ?_
  refine lv_istore_n (lv' := [(3, .int (r_t_now (Int32.toNatClampNeg ((18 * p1) + 10)))), (2, .int (18 * p1)), (0, .ref a_t), (1, .int p1)]) hx hb dX6_tryOn_14 rfl hl (by decide) rfl (fun ls hl => ?_)
  refine lv_aload_n hx hb dX6_tryOn_15 rfl (lv_at hl 2 rfl) ?_
  refine lv_aload_n hx hb dX6_tryOn_16 rfl (lv_at hl 2 rfl) ?_
  refine va_get (D := E.1) (ci := 6) (v := .ref a_t_kind) (C := RX6) (T := TX6) (N := 24) hx hb hts hiX6 hown hK hP 0 rfl rfl 4 (by decide) (hts (.fieldLink RX6 13 "CasketLinesModel" "kind" "[I") (by decide +kernel)) (fun _ h9 => h9) rfl dX6_tryOn_17 ?_
  refine lv_iload_n hx hb dX6_tryOn_20 rfl (lv_at hl 0 rfl) ?_
  obtain ⟨b5, h⟩ := gdn h
  refine va_iald hx hb hK hP 2 0 rfl rfl b5 dX6_tryOn_21 ?_
  refine lv_aload_n hx hb dX6_tryOn_22 rfl (lv_at hl 2 rfl) ?_
  refine lv_iload_n hx hb dX6_tryOn_23 rfl (lv_at hl 3 rfl) ?_
  refine lv_aload_n hx hb dX6_tryOn_24 rfl (lv_at hl 2 rfl) ?_
  obtain ⟨r6, g7, h⟩ := bnd h
  refine rcV (As := []) (rest := [.int p1, .ref a_t, .int (r_t_kind (Int32.toNatClampNeg (r_t_now (Int32.toNatClampNeg ((18 * p1) + 10))))), .ref a_t]) ⟨hx, hb, hml, hown, hts⟩ (k_X6_all (l := l) (E := E) a_t a_t_metal a_t_kind a_t_now a_t_readOf a_t_readKind a_t_text a_t_row a_t_nots a_t_isKept a_t_kept x_t_isTrue x_t_caskets x_t_wooers x_t_readTrue x_t_readCaskets x_t_readWooers x_t_readPicture x_t_length x_t_at x_t_faultAt x_t_acts x_t_next x_t_riddleMany x_t_seed r6 g7) (cwV 0 hts gX6_tryOn_X6_all rfl rfl rfl (by decide +kernel) ⟨Nat.le_of_ble_eq_true rfl, Nat.le_of_ble_eq_true rfl⟩) (hC.here hS hAB) hP [0] rfl 0 6 rfl rfl rfl rfl hl.1 rfl (Nat.le_of_ble_eq_true rfl) dX6_tryOn_25 ⟨Nat.zero_le _, Nat.zero_le _⟩ ?_
  obtain ⟨r8, g9, h⟩ := bnd h
  refine rcV (As := [.int p1, .int r6]) (rest := [.int (r_t_kind (Int32.toNatClampNeg (r_t_now (Int32.toNatClampNeg ((18 * p1) + 10))))), .ref a_t]) ⟨hx, hb, hml, hown, hts⟩ (k_X6_fitsOn (l := l) (E := E) a_t a_t_metal a_t_kind a_t_now a_t_readOf a_t_readKind a_t_text a_t_row a_t_nots a_t_isKept a_t_kept x_t_isTrue x_t_caskets x_t_wooers x_t_readTrue x_t_readCaskets x_t_readWooers x_t_readPicture x_t_length x_t_at x_t_faultAt x_t_acts x_t_next x_t_riddleMany x_t_seed r_t_now p1 r6 r8 g9) (cwV 2 hts gX6_tryOn_X6_fitsOn rfl rfl rfl (by decide +kernel) ⟨Nat.le_of_ble_eq_true rfl, Nat.le_of_ble_eq_true rfl⟩) (hC.here hS hAB) hP [0, 3] rfl 0 6 rfl rfl rfl rfl hl.1 rfl (Nat.le_of_ble_eq_true rfl) dX6_tryOn_28 ⟨Nat.zero_le _, Nat.zero_le _⟩ ?_
  refine lv_aload_n hx hb dX6_tryOn_31 rfl (lv_at hl 2 rfl) ?_
  refine va_get (D := E.1) (ci := 6) (v := .ref a_t_now) (C := RX6) (T := TX6) (N := 24) hx hb hts hiX6 hown hK hP 0 rfl rfl 5 (by decide) (hts (.fieldLink RX6 16 "CasketLinesModel" "now" "[I") (by decide +kernel)) (fun _ h9 => h9) rfl dX6_tryOn_32 ?_
  refine lv_iload_n hx hb dX6_tryOn_35 rfl (lv_at hl 1 rfl) ?_
  refine lv_bipush (v := 9) hx hb dX6_tryOn_36 (by decide) ?_
  refine lv_iadd hx hb dX6_tryOn_38 ?_
  obtain ⟨b10, h⟩ := gdn h
  refine va_iald hx hb hK hP 3 0 rfl rfl b10 dX6_tryOn_39 ?_
  obtain ⟨r11, g12, h⟩ := bnd h
  refine rcV (As := [.int (r_t_kind (Int32.toNatClampNeg (r_t_now (Int32.toNatClampNeg ((18 * p1) + 10))))), .int r8, .int (r_t_now (Int32.toNatClampNeg ((18 * p1) + 9)))]) (rest := []) ⟨hx, hb, hml, hown, hts⟩ (k_X6_picks (l := l) (E := E) a_t a_t_metal a_t_kind a_t_now a_t_readOf a_t_readKind a_t_text a_t_row a_t_nots a_t_isKept a_t_kept x_t_isTrue x_t_caskets x_t_wooers x_t_readTrue x_t_readCaskets x_t_readWooers x_t_readPicture x_t_length x_t_at x_t_faultAt x_t_acts x_t_next x_t_riddleMany x_t_seed r_t_metal (r_t_kind (Int32.toNatClampNeg (r_t_now (Int32.toNatClampNeg ((18 * p1) + 10))))) r8 (r_t_now (Int32.toNatClampNeg ((18 * p1) + 9))) r11 g12) (cwV 3 hts gX6_tryOn_X6_picks rfl rfl rfl (by decide +kernel) ⟨Nat.le_of_ble_eq_true rfl, Nat.le_of_ble_eq_true rfl⟩) (hC.here hS hAB) hP [0, 1] rfl 0 6 rfl rfl rfl rfl hl.1 rfl (Nat.le_of_ble_eq_true rfl) dX6_tryOn_40 ⟨Nat.zero_le _, Nat.zero_le _⟩ ?_
  refine lv_istore (lv' := [(4, .int r11), (3, .int (r_t_now (Int32.toNatClampNeg ((18 * p1) + 10)))), (2, .int (18 * p1)), (0, .ref a_t), (1, .int p1)]) hx hb dX6_tryOn_43 hl (by decide) rfl (fun ls hl => ?_)
  refine lv_aload_n hx hb dX6_tryOn_45 rfl (lv_at hl 3 rfl) ?_
  refine va_get (D := E.1) (ci := 6) (v := .ref a_t_now) (C := RX6) (T := TX6) (N := 24) hx hb hts hiX6 hown hK hP 0 rfl rfl 5 (by decide) (hts (.fieldLink RX6 16 "CasketLinesModel" "now" "[I") (by decide +kernel)) (fun _ h9 => h9) rfl dX6_tryOn_46 ?_
  refine lv_iload_n hx hb dX6_tryOn_49 rfl (lv_at hl 2 rfl) ?_
  refine lv_bipush (v := 12) hx hb dX6_tryOn_50 (by decide) ?_
  refine lv_iadd hx hb dX6_tryOn_52 ?_
  refine lv_iload_n hx hb dX6_tryOn_53 rfl (lv_at hl 1 rfl) ?_
  refine lv_iadd hx hb dX6_tryOn_54 ?_
  refine lv_iload hx hb dX6_tryOn_55 (lv_at hl 0 rfl) ?_
  obtain ⟨b13, h⟩ := gdn h
  refine va_iast hx hb hK hP (hD.adr rfl) hS 3 0 rfl rfl b13 dX6_tryOn_57 (fun H locs hP _ hS => ?_)
  have hP : va_P E.1 vwCl [(a_t, .inr (6, [.int x_t_isTrue, .int x_t_caskets, .int x_t_wooers, .ref a_t_metal, .ref a_t_kind, .ref a_t_now, .ref a_t_readOf, .ref a_t_readKind, .int x_t_readTrue, .int x_t_readCaskets, .int x_t_readWooers, .int x_t_readPicture, .ref a_t_text, .int x_t_length, .int x_t_at, .int x_t_faultAt, .int x_t_acts, .int x_t_next, .ref a_t_row, .int x_t_riddleMany, .ref a_t_nots, .long x_t_seed, .ref a_t_isKept, .ref a_t_kept])), (a_t_metal, .inl (E.2.1, 4, .inl r_t_metal)), (a_t_kind, .inl (E.2.1, 6, .inl r_t_kind)), (a_t_now, .inl (E.2.1, 36, .inl (upd r_t_now (Int32.toNatClampNeg (((18 * p1) + 12) + (r_t_now (Int32.toNatClampNeg ((18 * p1) + 10))))) r11)))] H := hP
  refine lv_aload_n hx hb dX6_tryOn_58 rfl (lv_at hl 3 rfl) ?_
  refine va_get (D := E.1) (ci := 6) (v := .ref a_t_now) (C := RX6) (T := TX6) (N := 24) hx hb hts hiX6 hown hK hP 0 rfl rfl 5 (by decide) (hts (.fieldLink RX6 16 "CasketLinesModel" "now" "[I") (by decide +kernel)) (fun _ h9 => h9) rfl dX6_tryOn_59 ?_
  refine lv_iload_n hx hb dX6_tryOn_62 rfl (lv_at hl 2 rfl) ?_
  refine lv_bipush (v := 11) hx hb dX6_tryOn_63 (by decide) ?_
  refine lv_iadd hx hb dX6_tryOn_65 ?_
  refine lv_iload hx hb dX6_tryOn_66 (lv_at hl 0 rfl) ?_
  refine lv_bipush (v := (-9)) hx hb dX6_tryOn_68 (by decide) ?_
  refine lv_icmp_eq (tgt := 91) hx hb dX6_tryOn_70 (by decide) (fun c14 => ?_) (fun c14 => ?_)
  · have h := ifp c14 h
    refine lv_iconst (v := 0) hx hb dX6_tryOn_91 (by decide) ?_
    exact w_X6_tryOn_92 a_t a_t_metal a_t_kind a_t_now a_t_readOf a_t_readKind a_t_text a_t_row a_t_nots a_t_isKept a_t_kept x_t_isTrue x_t_caskets x_t_wooers x_t_readTrue x_t_readCaskets x_t_readWooers x_t_readPicture x_t_length x_t_at x_t_faultAt x_t_acts x_t_next x_t_riddleMany x_t_seed r_t_metal r_t_kind (upd r_t_now (Int32.toNatClampNeg (((18 * p1) + 12) + (r_t_now (Int32.toNatClampNeg ((18 * p1) + 10))))) r11) (18 * p1) r11 0 ((18 * p1) + 11)  o_r o_r_t_now X (hw.adr rfl)  h H locs hP hS ls (lv_sub hl [3, 2, 0] rfl)
  · have h := ifn c14 h
    refine lv_iload hx hb dX6_tryOn_73 (lv_at hl 0 rfl) ?_
    refine lv_aload_n hx hb dX6_tryOn_75 rfl (lv_at hl 3 rfl) ?_
    refine va_get (D := E.1) (ci := 6) (v := .ref a_t_now) (C := RX6) (T := TX6) (N := 24) hx hb hts hiX6 hown hK hP 0 rfl rfl 5 (by decide) (hts (.fieldLink RX6 16 "CasketLinesModel" "now" "[I") (by decide +kernel)) (fun _ h9 => h9) rfl dX6_tryOn_76 ?_
    refine lv_iload_n hx hb dX6_tryOn_79 rfl (lv_at hl 2 rfl) ?_
    refine lv_bipush (v := 8) hx hb dX6_tryOn_80 (by decide) ?_
    refine lv_iadd hx hb dX6_tryOn_82 ?_
    obtain ⟨b15, h⟩ := gdn h
    refine va_iald hx hb hK hP 3 0 rfl rfl b15 dX6_tryOn_83 ?_
    refine lv_icmp_ne (tgt := 91) hx hb dX6_tryOn_84 (by decide) (fun c16 => ?_) (fun c16 => ?_)
    · have h := ifn c16 h
      refine lv_iconst (v := 0) hx hb dX6_tryOn_91 (by decide) ?_
      exact w_X6_tryOn_92 a_t a_t_metal a_t_kind a_t_now a_t_readOf a_t_readKind a_t_text a_t_row a_t_nots a_t_isKept a_t_kept x_t_isTrue x_t_caskets x_t_wooers x_t_readTrue x_t_readCaskets x_t_readWooers x_t_readPicture x_t_length x_t_at x_t_faultAt x_t_acts x_t_next x_t_riddleMany x_t_seed r_t_metal r_t_kind (upd r_t_now (Int32.toNatClampNeg (((18 * p1) + 12) + (r_t_now (Int32.toNatClampNeg ((18 * p1) + 10))))) r11) (18 * p1) r11 0 ((18 * p1) + 11)  o_r o_r_t_now X (hw.adr rfl)  h H locs hP hS ls (lv_sub hl [3, 2, 0] rfl)
    · have h := ifp c16 h
      refine lv_iconst (v := 1) hx hb dX6_tryOn_87 (by decide) ?_
      refine lv_goto (tgt := 92) hx hb dX6_tryOn_88 (by decide) ?_
      exact w_X6_tryOn_92 a_t a_t_metal a_t_kind a_t_now a_t_readOf a_t_readKind a_t_text a_t_row a_t_nots a_t_isKept a_t_kept x_t_isTrue x_t_caskets x_t_wooers x_t_readTrue x_t_readCaskets x_t_readWooers x_t_readPicture x_t_length x_t_at x_t_faultAt x_t_acts x_t_next x_t_riddleMany x_t_seed r_t_metal r_t_kind (upd r_t_now (Int32.toNatClampNeg (((18 * p1) + 12) + (r_t_now (Int32.toNatClampNeg ((18 * p1) + 10))))) r11) (18 * p1) r11 1 ((18 * p1) + 11)  o_r o_r_t_now X (hw.adr rfl)  h H locs hP hS ls (lv_sub hl [3, 2, 0] rfl)
set_option maxHeartbeats 4000000 in
set_option maxRecDepth 100000 in
theorem k_X6_tryOn {l : Launch} {E : Ev} (a_t a_t_metal a_t_kind a_t_now a_t_readOf a_t_readKind a_t_text a_t_row a_t_nots a_t_isKept a_t_kept : Nat) (x_t_isTrue : Int32) (x_t_caskets : Int32) (x_t_wooers : Int32) (x_t_readTrue : Int32) (x_t_readCaskets : Int32) (x_t_readWooers : Int32) (x_t_readPicture : Int32) (x_t_length : Int32) (x_t_at : Int32) (x_t_faultAt : Int32) (x_t_acts : Int32) (x_t_next : Int32) (x_t_riddleMany : Int32) (x_t_seed : Int64) (r_t_metal : Nat → Int32) (r_t_kind : Nat → Int32) (r_t_now : Nat → Int32) (p1 : Int32) (sz : Nat) (o_r : Int32) (o_r_t_now : Nat → Int32) (hf : f_X6_tryOn x_t_isTrue x_t_caskets r_t_metal r_t_kind r_t_now p1 = some (o_r, o_r_t_now)) : Met l yX6_tryOn wsX6_tryOn ({ frames := 6, cells := 0, slots := 0, locals := 146 }) (Pw E [.ref a_t, .int p1] [(a_t, .inr (6, [.int x_t_isTrue, .int x_t_caskets, .int x_t_wooers, .ref a_t_metal, .ref a_t_kind, .ref a_t_now, .ref a_t_readOf, .ref a_t_readKind, .int x_t_readTrue, .int x_t_readCaskets, .int x_t_readWooers, .int x_t_readPicture, .ref a_t_text, .int x_t_length, .int x_t_at, .int x_t_faultAt, .int x_t_acts, .int x_t_next, .ref a_t_row, .int x_t_riddleMany, .ref a_t_nots, .long x_t_seed, .ref a_t_isKept, .ref a_t_kept])), (a_t_metal, .inl (E.2.1, 4, .inl r_t_metal)), (a_t_kind, .inl (E.2.1, 6, .inl r_t_kind)), (a_t_now, .inl (E.2.1, 36, .inl r_t_now))] sz) (Qw E (some (.int o_r)) [(a_t, .inr (6, [.int x_t_isTrue, .int x_t_caskets, .int x_t_wooers, .ref a_t_metal, .ref a_t_kind, .ref a_t_now, .ref a_t_readOf, .ref a_t_readKind, .int x_t_readTrue, .int x_t_readCaskets, .int x_t_readWooers, .int x_t_readPicture, .ref a_t_text, .int x_t_length, .int x_t_at, .int x_t_faultAt, .int x_t_acts, .int x_t_next, .ref a_t_row, .int x_t_riddleMany, .ref a_t_nots, .long x_t_seed, .ref a_t_isKept, .ref a_t_kept])), (a_t_metal, .inl (E.2.1, 4, .inl r_t_metal)), (a_t_kind, .inl (E.2.1, 6, .inl r_t_kind)), (a_t_now, .inl (E.2.1, 36, .inl o_r_t_now))] (va_A [(a_t, .inr (6, [.int x_t_isTrue, .int x_t_caskets, .int x_t_wooers, .ref a_t_metal, .ref a_t_kind, .ref a_t_now, .ref a_t_readOf, .ref a_t_readKind, .int x_t_readTrue, .int x_t_readCaskets, .int x_t_readWooers, .int x_t_readPicture, .ref a_t_text, .int x_t_length, .int x_t_at, .int x_t_faultAt, .int x_t_acts, .int x_t_next, .ref a_t_row, .int x_t_riddleMany, .ref a_t_nots, .long x_t_seed, .ref a_t_isKept, .ref a_t_kept])), (a_t_metal, .inl (E.2.1, 4, .inl r_t_metal)), (a_t_kind, .inl (E.2.1, 6, .inl r_t_kind)), (a_t_now, .inl (E.2.1, 36, .inl r_t_now))] sz)) 0 0 (va_A [(a_t, .inr (6, [.int x_t_isTrue, .int x_t_caskets, .int x_t_wooers, .ref a_t_metal, .ref a_t_kind, .ref a_t_now, .ref a_t_readOf, .ref a_t_readKind, .int x_t_readTrue, .int x_t_readCaskets, .int x_t_readWooers, .int x_t_readPicture, .ref a_t_text, .int x_t_length, .int x_t_at, .int x_t_faultAt, .int x_t_acts, .int x_t_next, .ref a_t_row, .int x_t_riddleMany, .ref a_t_nots, .long x_t_seed, .ref a_t_isKept, .ref a_t_kept])), (a_t_metal, .inl (E.2.1, 4, .inl r_t_metal)), (a_t_kind, .inl (E.2.1, 6, .inl r_t_kind)), (a_t_now, .inl (E.2.1, 36, .inl r_t_now))] sz) := by
  refine Met.ofW (cc := cX6_tryOn) (maxL := 5) (ret := (some .int)) (by decide) rfl ?_
  intro p e s m args below meth c s₁ B hml hv
  obtain ⟨rfl, rfl, hw, hP⟩ := Pw.start hv
  have X := Cxt.of B hml
  have hl := lv_entry ([.ref a_t, .int p1]) (n := 5) (Nat.le_of_ble_eq_true rfl)
  rw [lg_entry_eq]
  exact w_X6_tryOn a_t a_t_metal a_t_kind a_t_now a_t_readOf a_t_readKind a_t_text a_t_row a_t_nots a_t_isKept a_t_kept x_t_isTrue x_t_caskets x_t_wooers x_t_readTrue x_t_readCaskets x_t_readWooers x_t_readPicture x_t_length x_t_at x_t_faultAt x_t_acts x_t_next x_t_riddleMany x_t_seed r_t_metal r_t_kind r_t_now p1 o_r o_r_t_now X hw hf hP va_S.rf hl
set_option maxHeartbeats 4000000 in
set_option maxRecDepth 100000 in
theorem w_X6_layTrial_2_b {p : Program} {l : Launch} {e : Env} {s : State} {m : MethodId} {args : Array Value} {below : List Frame} {meth : Method} {c : Code} {E : Ev} {A : Nat → Prop} (a_t a_t_metal a_t_kind a_t_now a_t_readOf a_t_readKind a_t_text a_t_row a_t_nots a_t_isKept a_t_kept : Nat) (x_t_isTrue : Int32) (x_t_caskets : Int32) (x_t_wooers : Int32) (x_t_readTrue : Int32) (x_t_readCaskets : Int32) (x_t_readWooers : Int32) (x_t_readPicture : Int32) (x_t_length : Int32) (x_t_at : Int32) (x_t_faultAt : Int32) (x_t_acts : Int32) (x_t_next : Int32) (x_t_riddleMany : Int32) (x_t_seed : Int64) (r_t_now : Nat → Int32) (o_r_t_now : Nat → Int32) (X : Cxt p s m args meth c cX6_layTrial 2 wsX6_layTrial RX6 none) (hw : Cw E A s [(a_t, .inr (6, [.int x_t_isTrue, .int x_t_caskets, .int x_t_wooers, .ref a_t_metal, .ref a_t_kind, .ref a_t_now, .ref a_t_readOf, .ref a_t_readKind, .int x_t_readTrue, .int x_t_readCaskets, .int x_t_readWooers, .int x_t_readPicture, .ref a_t_text, .int x_t_length, .int x_t_at, .int x_t_faultAt, .int x_t_acts, .int x_t_next, .ref a_t_row, .int x_t_riddleMany, .ref a_t_nots, .long x_t_seed, .ref a_t_isKept, .ref a_t_kept])), (a_t_now, .inl (E.2.1, 36, .inl r_t_now))]) (k2 : (Nat → Int32) × Int32 → Option ((Nat → Int32))) (hk2 : ∀ (r_t_now : Nat → Int32) (v1 : Int32), k2 (r_t_now, v1) = some o_r_t_now → ∀ (H : Heap) (locs : List Loc), va_P E.1 vwCl [(a_t, .inr (6, [.int x_t_isTrue, .int x_t_caskets, .int x_t_wooers, .ref a_t_metal, .ref a_t_kind, .ref a_t_now, .ref a_t_readOf, .ref a_t_readKind, .int x_t_readTrue, .int x_t_readCaskets, .int x_t_readWooers, .int x_t_readPicture, .ref a_t_text, .int x_t_length, .int x_t_at, .int x_t_faultAt, .int x_t_acts, .int x_t_next, .ref a_t_row, .int x_t_riddleMany, .ref a_t_nots, .long x_t_seed, .ref a_t_isKept, .ref a_t_kept])), (a_t_now, .inl (E.2.1, 36, .inl r_t_now))] H → va_S A s.heap H locs → ∀ (ls : Array Slot), lv_has ls 2 [(0, .ref a_t), (1, .int v1)] → W p l e { frames := 0, cells := 0, slots := 0, locals := 0 } s m args below meth c H locs 0 0 (MQ below (Qw E none [(a_t, .inr (6, [.int x_t_isTrue, .int x_t_caskets, .int x_t_wooers, .ref a_t_metal, .ref a_t_kind, .ref a_t_now, .ref a_t_readOf, .ref a_t_readKind, .int x_t_readTrue, .int x_t_readCaskets, .int x_t_readWooers, .int x_t_readPicture, .ref a_t_text, .int x_t_length, .int x_t_at, .int x_t_faultAt, .int x_t_acts, .int x_t_next, .ref a_t_row, .int x_t_riddleMany, .ref a_t_nots, .long x_t_seed, .ref a_t_isKept, .ref a_t_kept])), (a_t_now, .inl (E.2.1, 36, .inl o_r_t_now))] A) args s 0 0 A) (F0 m 2 ls [])) (v1 : Int32) (h : f_X6_layTrial_2_b k2 r_t_now v1 = some o_r_t_now) {H : Heap} {locs : List Loc} (hP : va_P E.1 vwCl [(a_t, .inr (6, [.int x_t_isTrue, .int x_t_caskets, .int x_t_wooers, .ref a_t_metal, .ref a_t_kind, .ref a_t_now, .ref a_t_readOf, .ref a_t_readKind, .int x_t_readTrue, .int x_t_readCaskets, .int x_t_readWooers, .int x_t_readPicture, .ref a_t_text, .int x_t_length, .int x_t_at, .int x_t_faultAt, .int x_t_acts, .int x_t_next, .ref a_t_row, .int x_t_riddleMany, .ref a_t_nots, .long x_t_seed, .ref a_t_isKept, .ref a_t_kept])), (a_t_now, .inl (E.2.1, 36, .inl r_t_now))] H) (hS : va_S A s.heap H locs) {ls : Array Slot} (hl : lv_has ls 2 [(0, .ref a_t), (1, .int v1)]) : W p l e { frames := 0, cells := 0, slots := 0, locals := 0 } s m args below meth c H locs 0 0 (MQ below (Qw E none [(a_t, .inr (6, [.int x_t_isTrue, .int x_t_caskets, .int x_t_wooers, .ref a_t_metal, .ref a_t_kind, .ref a_t_now, .ref a_t_readOf, .ref a_t_readKind, .int x_t_readTrue, .int x_t_readCaskets, .int x_t_readWooers, .int x_t_readPicture, .ref a_t_text, .int x_t_length, .int x_t_at, .int x_t_faultAt, .int x_t_acts, .int x_t_next, .ref a_t_row, .int x_t_riddleMany, .ref a_t_nots, .long x_t_seed, .ref a_t_isKept, .ref a_t_kept])), (a_t_now, .inl (E.2.1, 36, .inl o_r_t_now))] A) args s 0 0 A) (F0 m 2 ls []) := by
  obtain ⟨⟨hx, hb, hml, hown, hts⟩, hr, hlocks⟩ := id X
  obtain ⟨hC, hAB, hA, hB, hD⟩ := id hw
  have hiX6 : ∀ w ∈ u_ws RX6 TX6 24, w ∈ wsX6_layTrial := by decide +kernel
  have hK := hC.1
  unfold f_X6_layTrial_2_b at h
  refine lv_iload_n hx hb dX6_layTrial_2 rfl (lv_at hl 1 rfl) ?_
  refine lv_bipush (v := 18) hx hb dX6_layTrial_3 (by decide) ?_
  refine lv_icmp_ge (tgt := 29) hx hb dX6_layTrial_5 (by decide) (fun c1 => ?_) (fun c1 => ?_)
  · have h := ifp c1 h
    exact W.vret hx hb hr (fun t ht _ => ⟨by cases h; rfl, by rw [ht]; cases h; exact hP, hS.F ht⟩) hS.2.2 dX6_layTrial_29
  · have h := ifn c1 h
    refine lv_aload_n hx hb dX6_layTrial_8 rfl (lv_at hl 0 rfl) ?_
    refine va_get (D := E.1) (ci := 6) (v := .ref a_t_now) (C := RX6) (T := TX6) (N := 24) hx hb hts hiX6 hown hK hP 0 rfl rfl 5 (by decide) (hts (.fieldLink RX6 16 "CasketLinesModel" "now" "[I") (by decide +kernel)) (fun _ h9 => h9) rfl dX6_layTrial_9 ?_
    refine lv_bipush (v := 18) hx hb dX6_layTrial_12 (by decide) ?_
    refine lv_iload_n hx hb dX6_layTrial_14 rfl (lv_at hl 1 rfl) ?_
    refine lv_iadd hx hb dX6_layTrial_15 ?_
    refine lv_aload_n hx hb dX6_layTrial_16 rfl (lv_at hl 0 rfl) ?_
    refine va_get (D := E.1) (ci := 6) (v := .ref a_t_now) (C := RX6) (T := TX6) (N := 24) hx hb hts hiX6 hown hK hP 0 rfl rfl 5 (by decide) (hts (.fieldLink RX6 16 "CasketLinesModel" "now" "[I") (by decide +kernel)) (fun _ h9 => h9) rfl dX6_layTrial_17 ?_
    refine lv_iload_n hx hb dX6_layTrial_20 rfl (lv_at hl 1 rfl) ?_
    obtain ⟨b2, h⟩ := gdn h
    refine va_iald hx hb hK hP 1 0 rfl rfl b2 dX6_layTrial_21 ?_
    obtain ⟨b3, h⟩ := gdn h
    refine va_iast hx hb hK hP (hD.adr rfl) hS 1 0 rfl rfl b3 dX6_layTrial_22 (fun H locs hP _ hS => ?_)
    have hP : va_P E.1 vwCl [(a_t, .inr (6, [.int x_t_isTrue, .int x_t_caskets, .int x_t_wooers, .ref a_t_metal, .ref a_t_kind, .ref a_t_now, .ref a_t_readOf, .ref a_t_readKind, .int x_t_readTrue, .int x_t_readCaskets, .int x_t_readWooers, .int x_t_readPicture, .ref a_t_text, .int x_t_length, .int x_t_at, .int x_t_faultAt, .int x_t_acts, .int x_t_next, .ref a_t_row, .int x_t_riddleMany, .ref a_t_nots, .long x_t_seed, .ref a_t_isKept, .ref a_t_kept])), (a_t_now, .inl (E.2.1, 36, .inl (upd r_t_now (Int32.toNatClampNeg (18 + v1)) (r_t_now (Int32.toNatClampNeg v1)))))] H := hP
    refine lv_iinc (v := (v1 + 1)) (lv' := [(1, .int (v1 + 1)), (0, .ref a_t)]) hx hb dX6_layTrial_23 hl (k := 1) rfl rfl (by decide) rfl (fun ls hl => ?_)
    refine lv_goto (tgt := 2) hx hb dX6_layTrial_26 (by decide) ?_
    exact hk2 (upd r_t_now (Int32.toNatClampNeg (18 + v1)) (r_t_now (Int32.toNatClampNeg v1))) (v1 + 1) h H locs hP hS ls (lv_sub hl [1, 0] rfl)
set_option maxHeartbeats 4000000 in
set_option maxRecDepth 100000 in
theorem w_X6_layTrial_2 {p : Program} {l : Launch} {e : Env} {s : State} {m : MethodId} {args : Array Value} {below : List Frame} {meth : Method} {c : Code} {E : Ev} {A : Nat → Prop} (a_t a_t_metal a_t_kind a_t_now a_t_readOf a_t_readKind a_t_text a_t_row a_t_nots a_t_isKept a_t_kept : Nat) (x_t_isTrue : Int32) (x_t_caskets : Int32) (x_t_wooers : Int32) (x_t_readTrue : Int32) (x_t_readCaskets : Int32) (x_t_readWooers : Int32) (x_t_readPicture : Int32) (x_t_length : Int32) (x_t_at : Int32) (x_t_faultAt : Int32) (x_t_acts : Int32) (x_t_next : Int32) (x_t_riddleMany : Int32) (x_t_seed : Int64) (r_t_now : Nat → Int32) (o_r_t_now : Nat → Int32) (X : Cxt p s m args meth c cX6_layTrial 2 wsX6_layTrial RX6 none) (hw : Cw E A s [(a_t, .inr (6, [.int x_t_isTrue, .int x_t_caskets, .int x_t_wooers, .ref a_t_metal, .ref a_t_kind, .ref a_t_now, .ref a_t_readOf, .ref a_t_readKind, .int x_t_readTrue, .int x_t_readCaskets, .int x_t_readWooers, .int x_t_readPicture, .ref a_t_text, .int x_t_length, .int x_t_at, .int x_t_faultAt, .int x_t_acts, .int x_t_next, .ref a_t_row, .int x_t_riddleMany, .ref a_t_nots, .long x_t_seed, .ref a_t_isKept, .ref a_t_kept])), (a_t_now, .inl (E.2.1, 36, .inl r_t_now))]) : ∀ (n : Nat) (r_t_now : Nat → Int32) (v1 : Int32), f_X6_layTrial_2 n r_t_now v1 = some o_r_t_now → ∀ (H : Heap) (locs : List Loc), va_P E.1 vwCl [(a_t, .inr (6, [.int x_t_isTrue, .int x_t_caskets, .int x_t_wooers, .ref a_t_metal, .ref a_t_kind, .ref a_t_now, .ref a_t_readOf, .ref a_t_readKind, .int x_t_readTrue, .int x_t_readCaskets, .int x_t_readWooers, .int x_t_readPicture, .ref a_t_text, .int x_t_length, .int x_t_at, .int x_t_faultAt, .int x_t_acts, .int x_t_next, .ref a_t_row, .int x_t_riddleMany, .ref a_t_nots, .long x_t_seed, .ref a_t_isKept, .ref a_t_kept])), (a_t_now, .inl (E.2.1, 36, .inl r_t_now))] H → va_S A s.heap H locs → ∀ (ls : Array Slot), lv_has ls 2 [(0, .ref a_t), (1, .int v1)] → W p l e { frames := 0, cells := 0, slots := 0, locals := 0 } s m args below meth c H locs 0 0 (MQ below (Qw E none [(a_t, .inr (6, [.int x_t_isTrue, .int x_t_caskets, .int x_t_wooers, .ref a_t_metal, .ref a_t_kind, .ref a_t_now, .ref a_t_readOf, .ref a_t_readKind, .int x_t_readTrue, .int x_t_readCaskets, .int x_t_readWooers, .int x_t_readPicture, .ref a_t_text, .int x_t_length, .int x_t_at, .int x_t_faultAt, .int x_t_acts, .int x_t_next, .ref a_t_row, .int x_t_riddleMany, .ref a_t_nots, .long x_t_seed, .ref a_t_isKept, .ref a_t_kept])), (a_t_now, .inl (E.2.1, 36, .inl o_r_t_now))] A) args s 0 0 A) (F0 m 2 ls []) := by
  intro n
  induction n with
  | zero =>
    intro r_t_now v1 h
    exact (rk_z _ _ h).elim
  | succ n ih =>
    intro r_t_now v1 h H locs hP hS ls hl
    exact w_X6_layTrial_2_b a_t a_t_metal a_t_kind a_t_now a_t_readOf a_t_readKind a_t_text a_t_row a_t_nots a_t_isKept a_t_kept x_t_isTrue x_t_caskets x_t_wooers x_t_readTrue x_t_readCaskets x_t_readWooers x_t_readPicture x_t_length x_t_at x_t_faultAt x_t_acts x_t_next x_t_riddleMany x_t_seed r_t_now   o_r_t_now X (hw.adr rfl)  (rk (fun k x => f_X6_layTrial_2_b   k (x.1) (x.2)) n) (fun r_t_now v1 hh => ih r_t_now v1 hh) v1 h hP hS hl
set_option maxHeartbeats 4000000 in
set_option maxRecDepth 100000 in
theorem w_X6_layTrial {p : Program} {l : Launch} {e : Env} {s : State} {m : MethodId} {args : Array Value} {below : List Frame} {meth : Method} {c : Code} {E : Ev} {A : Nat → Prop} (a_t a_t_metal a_t_kind a_t_now a_t_readOf a_t_readKind a_t_text a_t_row a_t_nots a_t_isKept a_t_kept : Nat) (x_t_isTrue : Int32) (x_t_caskets : Int32) (x_t_wooers : Int32) (x_t_readTrue : Int32) (x_t_readCaskets : Int32) (x_t_readWooers : Int32) (x_t_readPicture : Int32) (x_t_length : Int32) (x_t_at : Int32) (x_t_faultAt : Int32) (x_t_acts : Int32) (x_t_next : Int32) (x_t_riddleMany : Int32) (x_t_seed : Int64) (r_t_now : Nat → Int32) (o_r_t_now : Nat → Int32) (X : Cxt p s m args meth c cX6_layTrial 2 wsX6_layTrial RX6 none) (hw : Cw E A s [(a_t, .inr (6, [.int x_t_isTrue, .int x_t_caskets, .int x_t_wooers, .ref a_t_metal, .ref a_t_kind, .ref a_t_now, .ref a_t_readOf, .ref a_t_readKind, .int x_t_readTrue, .int x_t_readCaskets, .int x_t_readWooers, .int x_t_readPicture, .ref a_t_text, .int x_t_length, .int x_t_at, .int x_t_faultAt, .int x_t_acts, .int x_t_next, .ref a_t_row, .int x_t_riddleMany, .ref a_t_nots, .long x_t_seed, .ref a_t_isKept, .ref a_t_kept])), (a_t_now, .inl (E.2.1, 36, .inl r_t_now))]) (h : f_X6_layTrial r_t_now = some o_r_t_now) {H : Heap} {locs : List Loc} (hP : va_P E.1 vwCl [(a_t, .inr (6, [.int x_t_isTrue, .int x_t_caskets, .int x_t_wooers, .ref a_t_metal, .ref a_t_kind, .ref a_t_now, .ref a_t_readOf, .ref a_t_readKind, .int x_t_readTrue, .int x_t_readCaskets, .int x_t_readWooers, .int x_t_readPicture, .ref a_t_text, .int x_t_length, .int x_t_at, .int x_t_faultAt, .int x_t_acts, .int x_t_next, .ref a_t_row, .int x_t_riddleMany, .ref a_t_nots, .long x_t_seed, .ref a_t_isKept, .ref a_t_kept])), (a_t_now, .inl (E.2.1, 36, .inl r_t_now))] H) (hS : va_S A s.heap H locs) {ls : Array Slot} (hl : lv_has ls 2 [(0, .ref a_t)]) : W p l e { frames := 0, cells := 0, slots := 0, locals := 0 } s m args below meth c H locs 0 0 (MQ below (Qw E none [(a_t, .inr (6, [.int x_t_isTrue, .int x_t_caskets, .int x_t_wooers, .ref a_t_metal, .ref a_t_kind, .ref a_t_now, .ref a_t_readOf, .ref a_t_readKind, .int x_t_readTrue, .int x_t_readCaskets, .int x_t_readWooers, .int x_t_readPicture, .ref a_t_text, .int x_t_length, .int x_t_at, .int x_t_faultAt, .int x_t_acts, .int x_t_next, .ref a_t_row, .int x_t_riddleMany, .ref a_t_nots, .long x_t_seed, .ref a_t_isKept, .ref a_t_kept])), (a_t_now, .inl (E.2.1, 36, .inl o_r_t_now))] A) args s 0 0 A) (F0 m 0 ls []) := by
  obtain ⟨⟨hx, hb, hml, hown, hts⟩, hr, hlocks⟩ := id X
  obtain ⟨hC, hAB, hA, hB, hD⟩ := id hw
  have hiX6 : ∀ w ∈ u_ws RX6 TX6 24, w ∈ wsX6_layTrial := by decide +kernel
  have hK := hC.1
  unfold f_X6_layTrial at h
  refine lv_iconst (v := 0) hx hb dX6_layTrial_0 (by decide) ?_
  refine lv_istore_n (lv' := [(1, .int 0), (0, .ref a_t)]) hx hb dX6_layTrial_1 rfl hl (by decide) rfl (fun ls hl => ?_)
  exact w_X6_layTrial_2 a_t a_t_metal a_t_kind a_t_now a_t_readOf a_t_readKind a_t_text a_t_row a_t_nots a_t_isKept a_t_kept x_t_isTrue x_t_caskets x_t_wooers x_t_readTrue x_t_readCaskets x_t_readWooers x_t_readPicture x_t_length x_t_at x_t_faultAt x_t_acts x_t_next x_t_riddleMany x_t_seed r_t_now   o_r_t_now X (hw.adr rfl)  200 r_t_now 0 h H locs hP hS ls (lv_sub hl [1, 0] rfl)
set_option maxHeartbeats 4000000 in
set_option maxRecDepth 100000 in
theorem k_X6_layTrial {l : Launch} {E : Ev} (a_t a_t_metal a_t_kind a_t_now a_t_readOf a_t_readKind a_t_text a_t_row a_t_nots a_t_isKept a_t_kept : Nat) (x_t_isTrue : Int32) (x_t_caskets : Int32) (x_t_wooers : Int32) (x_t_readTrue : Int32) (x_t_readCaskets : Int32) (x_t_readWooers : Int32) (x_t_readPicture : Int32) (x_t_length : Int32) (x_t_at : Int32) (x_t_faultAt : Int32) (x_t_acts : Int32) (x_t_next : Int32) (x_t_riddleMany : Int32) (x_t_seed : Int64) (r_t_now : Nat → Int32) (sz : Nat) (o_r_t_now : Nat → Int32) (hf : f_X6_layTrial r_t_now = some o_r_t_now) : Met l yX6_layTrial wsX6_layTrial ({ frames := 0, cells := 0, slots := 0, locals := 0 }) (Pw E [.ref a_t] [(a_t, .inr (6, [.int x_t_isTrue, .int x_t_caskets, .int x_t_wooers, .ref a_t_metal, .ref a_t_kind, .ref a_t_now, .ref a_t_readOf, .ref a_t_readKind, .int x_t_readTrue, .int x_t_readCaskets, .int x_t_readWooers, .int x_t_readPicture, .ref a_t_text, .int x_t_length, .int x_t_at, .int x_t_faultAt, .int x_t_acts, .int x_t_next, .ref a_t_row, .int x_t_riddleMany, .ref a_t_nots, .long x_t_seed, .ref a_t_isKept, .ref a_t_kept])), (a_t_now, .inl (E.2.1, 36, .inl r_t_now))] sz) (Qw E none [(a_t, .inr (6, [.int x_t_isTrue, .int x_t_caskets, .int x_t_wooers, .ref a_t_metal, .ref a_t_kind, .ref a_t_now, .ref a_t_readOf, .ref a_t_readKind, .int x_t_readTrue, .int x_t_readCaskets, .int x_t_readWooers, .int x_t_readPicture, .ref a_t_text, .int x_t_length, .int x_t_at, .int x_t_faultAt, .int x_t_acts, .int x_t_next, .ref a_t_row, .int x_t_riddleMany, .ref a_t_nots, .long x_t_seed, .ref a_t_isKept, .ref a_t_kept])), (a_t_now, .inl (E.2.1, 36, .inl o_r_t_now))] (va_A [(a_t, .inr (6, [.int x_t_isTrue, .int x_t_caskets, .int x_t_wooers, .ref a_t_metal, .ref a_t_kind, .ref a_t_now, .ref a_t_readOf, .ref a_t_readKind, .int x_t_readTrue, .int x_t_readCaskets, .int x_t_readWooers, .int x_t_readPicture, .ref a_t_text, .int x_t_length, .int x_t_at, .int x_t_faultAt, .int x_t_acts, .int x_t_next, .ref a_t_row, .int x_t_riddleMany, .ref a_t_nots, .long x_t_seed, .ref a_t_isKept, .ref a_t_kept])), (a_t_now, .inl (E.2.1, 36, .inl r_t_now))] sz)) 0 0 (va_A [(a_t, .inr (6, [.int x_t_isTrue, .int x_t_caskets, .int x_t_wooers, .ref a_t_metal, .ref a_t_kind, .ref a_t_now, .ref a_t_readOf, .ref a_t_readKind, .int x_t_readTrue, .int x_t_readCaskets, .int x_t_readWooers, .int x_t_readPicture, .ref a_t_text, .int x_t_length, .int x_t_at, .int x_t_faultAt, .int x_t_acts, .int x_t_next, .ref a_t_row, .int x_t_riddleMany, .ref a_t_nots, .long x_t_seed, .ref a_t_isKept, .ref a_t_kept])), (a_t_now, .inl (E.2.1, 36, .inl r_t_now))] sz) := by
  refine Met.ofW (cc := cX6_layTrial) (maxL := 2) (ret := none) (by decide) rfl ?_
  intro p e s m args below meth c s₁ B hml hv
  obtain ⟨rfl, rfl, hw, hP⟩ := Pw.start hv
  have X := Cxt.of B hml
  have hl := lv_entry ([.ref a_t]) (n := 2) (Nat.le_of_ble_eq_true rfl)
  rw [lg_entry_eq]
  exact w_X6_layTrial a_t a_t_metal a_t_kind a_t_now a_t_readOf a_t_readKind a_t_text a_t_row a_t_nots a_t_isKept a_t_kept x_t_isTrue x_t_caskets x_t_wooers x_t_readTrue x_t_readCaskets x_t_readWooers x_t_readPicture x_t_length x_t_at x_t_faultAt x_t_acts x_t_next x_t_riddleMany x_t_seed r_t_now  o_r_t_now X hw hf hP va_S.rf hl
set_option maxHeartbeats 4000000 in
set_option maxRecDepth 100000 in
theorem w_X6_layLine {p : Program} {l : Launch} {e : Env} {s : State} {m : MethodId} {args : Array Value} {below : List Frame} {meth : Method} {c : Code} {E : Ev} {A : Nat → Prop} (a_t a_t_metal a_t_kind a_t_now a_t_readOf a_t_readKind a_t_text a_t_row a_t_nots a_t_isKept a_t_kept : Nat) (x_t_isTrue : Int32) (x_t_caskets : Int32) (x_t_wooers : Int32) (x_t_readTrue : Int32) (x_t_readCaskets : Int32) (x_t_readWooers : Int32) (x_t_readPicture : Int32) (x_t_length : Int32) (x_t_at : Int32) (x_t_faultAt : Int32) (x_t_acts : Int32) (x_t_next : Int32) (x_t_riddleMany : Int32) (x_t_seed : Int64) (r_t_now : Nat → Int32) (p1 : Int32) (p2 : Int32) (o_r_t_now : Nat → Int32) (X : Cxt p s m args meth c cX6_layLine 3 wsX6_layLine RX6 none) (hw : Cw E A s [(a_t, .inr (6, [.int x_t_isTrue, .int x_t_caskets, .int x_t_wooers, .ref a_t_metal, .ref a_t_kind, .ref a_t_now, .ref a_t_readOf, .ref a_t_readKind, .int x_t_readTrue, .int x_t_readCaskets, .int x_t_readWooers, .int x_t_readPicture, .ref a_t_text, .int x_t_length, .int x_t_at, .int x_t_faultAt, .int x_t_acts, .int x_t_next, .ref a_t_row, .int x_t_riddleMany, .ref a_t_nots, .long x_t_seed, .ref a_t_isKept, .ref a_t_kept])), (a_t_now, .inl (E.2.1, 36, .inl r_t_now))]) (h : f_X6_layLine r_t_now p1 p2 = some o_r_t_now) {H : Heap} {locs : List Loc} (hP : va_P E.1 vwCl [(a_t, .inr (6, [.int x_t_isTrue, .int x_t_caskets, .int x_t_wooers, .ref a_t_metal, .ref a_t_kind, .ref a_t_now, .ref a_t_readOf, .ref a_t_readKind, .int x_t_readTrue, .int x_t_readCaskets, .int x_t_readWooers, .int x_t_readPicture, .ref a_t_text, .int x_t_length, .int x_t_at, .int x_t_faultAt, .int x_t_acts, .int x_t_next, .ref a_t_row, .int x_t_riddleMany, .ref a_t_nots, .long x_t_seed, .ref a_t_isKept, .ref a_t_kept])), (a_t_now, .inl (E.2.1, 36, .inl r_t_now))] H) (hS : va_S A s.heap H locs) {ls : Array Slot} (hl : lv_has ls 3 [(0, .ref a_t), (1, .int p1), (2, .int p2)]) : W p l e { frames := 0, cells := 0, slots := 0, locals := 0 } s m args below meth c H locs 0 0 (MQ below (Qw E none [(a_t, .inr (6, [.int x_t_isTrue, .int x_t_caskets, .int x_t_wooers, .ref a_t_metal, .ref a_t_kind, .ref a_t_now, .ref a_t_readOf, .ref a_t_readKind, .int x_t_readTrue, .int x_t_readCaskets, .int x_t_readWooers, .int x_t_readPicture, .ref a_t_text, .int x_t_length, .int x_t_at, .int x_t_faultAt, .int x_t_acts, .int x_t_next, .ref a_t_row, .int x_t_riddleMany, .ref a_t_nots, .long x_t_seed, .ref a_t_isKept, .ref a_t_kept])), (a_t_now, .inl (E.2.1, 36, .inl o_r_t_now))] A) args s 0 0 A) (F0 m 0 ls []) := by
  obtain ⟨⟨hx, hb, hml, hown, hts⟩, hr, hlocks⟩ := id X
  obtain ⟨hC, hAB, hA, hB, hD⟩ := id hw
  have hiX6 : ∀ w ∈ u_ws RX6 TX6 24, w ∈ wsX6_layLine := by decide +kernel
  have hK := hC.1
  unfold f_X6_layLine at h
  refine lv_aload_n hx hb dX6_layLine_0 rfl (lv_at hl 0 rfl) ?_
  refine va_get (D := E.1) (ci := 6) (v := .ref a_t_now) (C := RX6) (T := TX6) (N := 24) hx hb hts hiX6 hown hK hP 0 rfl rfl 5 (by decide) (hts (.fieldLink RX6 16 "CasketLinesModel" "now" "[I") (by decide +kernel)) (fun _ h9 => h9) rfl dX6_layLine_1 ?_
  refine lv_bipush (v := 18) hx hb dX6_layLine_4 (by decide) ?_
  refine lv_iload_n hx hb dX6_layLine_6 rfl (lv_at hl 1 rfl) ?_
  refine lv_iadd hx hb dX6_layLine_7 ?_
  refine lv_iload_n hx hb dX6_layLine_8 rfl (lv_at hl 2 rfl) ?_
  refine lv_iconst (v := 4) hx hb dX6_layLine_9 (by decide) ?_
  refine lv_idiv hx hb dX6_layLine_10 (by decide) ?_
  obtain ⟨b1, h⟩ := gdn h
  refine va_iast hx hb hK hP (hD.adr rfl) hS 1 0 rfl rfl b1 dX6_layLine_11 (fun H locs hP _ hS => ?_)
  have hP : va_P E.1 vwCl [(a_t, .inr (6, [.int x_t_isTrue, .int x_t_caskets, .int x_t_wooers, .ref a_t_metal, .ref a_t_kind, .ref a_t_now, .ref a_t_readOf, .ref a_t_readKind, .int x_t_readTrue, .int x_t_readCaskets, .int x_t_readWooers, .int x_t_readPicture, .ref a_t_text, .int x_t_length, .int x_t_at, .int x_t_faultAt, .int x_t_acts, .int x_t_next, .ref a_t_row, .int x_t_riddleMany, .ref a_t_nots, .long x_t_seed, .ref a_t_isKept, .ref a_t_kept])), (a_t_now, .inl (E.2.1, 36, .inl (upd r_t_now (Int32.toNatClampNeg (18 + p1)) (p2 / 4))))] H := hP
  refine lv_aload_n hx hb dX6_layLine_12 rfl (lv_at hl 0 rfl) ?_
  refine va_get (D := E.1) (ci := 6) (v := .ref a_t_now) (C := RX6) (T := TX6) (N := 24) hx hb hts hiX6 hown hK hP 0 rfl rfl 5 (by decide) (hts (.fieldLink RX6 16 "CasketLinesModel" "now" "[I") (by decide +kernel)) (fun _ h9 => h9) rfl dX6_layLine_13 ?_
  refine lv_bipush (v := 22) hx hb dX6_layLine_16 (by decide) ?_
  refine lv_iload_n hx hb dX6_layLine_18 rfl (lv_at hl 1 rfl) ?_
  refine lv_iadd hx hb dX6_layLine_19 ?_
  refine lv_iload_n hx hb dX6_layLine_20 rfl (lv_at hl 2 rfl) ?_
  refine lv_iconst (v := 4) hx hb dX6_layLine_21 (by decide) ?_
  refine lv_irem hx hb dX6_layLine_22 (by decide) ?_
  obtain ⟨b2, h⟩ := gdn h
  refine va_iast hx hb hK hP (hD.adr rfl) hS 1 0 rfl rfl b2 dX6_layLine_23 (fun H locs hP _ hS => ?_)
  have hP : va_P E.1 vwCl [(a_t, .inr (6, [.int x_t_isTrue, .int x_t_caskets, .int x_t_wooers, .ref a_t_metal, .ref a_t_kind, .ref a_t_now, .ref a_t_readOf, .ref a_t_readKind, .int x_t_readTrue, .int x_t_readCaskets, .int x_t_readWooers, .int x_t_readPicture, .ref a_t_text, .int x_t_length, .int x_t_at, .int x_t_faultAt, .int x_t_acts, .int x_t_next, .ref a_t_row, .int x_t_riddleMany, .ref a_t_nots, .long x_t_seed, .ref a_t_isKept, .ref a_t_kept])), (a_t_now, .inl (E.2.1, 36, .inl (upd (upd r_t_now (Int32.toNatClampNeg (18 + p1)) (p2 / 4)) (Int32.toNatClampNeg (22 + p1)) (p2 - p2 / 4 * 4))))] H := hP
  exact W.vret hx hb hr (fun t ht _ => ⟨by cases h; rfl, by rw [ht]; cases h; exact hP, hS.F ht⟩) hS.2.2 dX6_layLine_24
set_option maxHeartbeats 4000000 in
set_option maxRecDepth 100000 in
theorem k_X6_layLine {l : Launch} {E : Ev} (a_t a_t_metal a_t_kind a_t_now a_t_readOf a_t_readKind a_t_text a_t_row a_t_nots a_t_isKept a_t_kept : Nat) (x_t_isTrue : Int32) (x_t_caskets : Int32) (x_t_wooers : Int32) (x_t_readTrue : Int32) (x_t_readCaskets : Int32) (x_t_readWooers : Int32) (x_t_readPicture : Int32) (x_t_length : Int32) (x_t_at : Int32) (x_t_faultAt : Int32) (x_t_acts : Int32) (x_t_next : Int32) (x_t_riddleMany : Int32) (x_t_seed : Int64) (r_t_now : Nat → Int32) (p1 : Int32) (p2 : Int32) (sz : Nat) (o_r_t_now : Nat → Int32) (hf : f_X6_layLine r_t_now p1 p2 = some o_r_t_now) : Met l yX6_layLine wsX6_layLine ({ frames := 0, cells := 0, slots := 0, locals := 0 }) (Pw E [.ref a_t, .int p1, .int p2] [(a_t, .inr (6, [.int x_t_isTrue, .int x_t_caskets, .int x_t_wooers, .ref a_t_metal, .ref a_t_kind, .ref a_t_now, .ref a_t_readOf, .ref a_t_readKind, .int x_t_readTrue, .int x_t_readCaskets, .int x_t_readWooers, .int x_t_readPicture, .ref a_t_text, .int x_t_length, .int x_t_at, .int x_t_faultAt, .int x_t_acts, .int x_t_next, .ref a_t_row, .int x_t_riddleMany, .ref a_t_nots, .long x_t_seed, .ref a_t_isKept, .ref a_t_kept])), (a_t_now, .inl (E.2.1, 36, .inl r_t_now))] sz) (Qw E none [(a_t, .inr (6, [.int x_t_isTrue, .int x_t_caskets, .int x_t_wooers, .ref a_t_metal, .ref a_t_kind, .ref a_t_now, .ref a_t_readOf, .ref a_t_readKind, .int x_t_readTrue, .int x_t_readCaskets, .int x_t_readWooers, .int x_t_readPicture, .ref a_t_text, .int x_t_length, .int x_t_at, .int x_t_faultAt, .int x_t_acts, .int x_t_next, .ref a_t_row, .int x_t_riddleMany, .ref a_t_nots, .long x_t_seed, .ref a_t_isKept, .ref a_t_kept])), (a_t_now, .inl (E.2.1, 36, .inl o_r_t_now))] (va_A [(a_t, .inr (6, [.int x_t_isTrue, .int x_t_caskets, .int x_t_wooers, .ref a_t_metal, .ref a_t_kind, .ref a_t_now, .ref a_t_readOf, .ref a_t_readKind, .int x_t_readTrue, .int x_t_readCaskets, .int x_t_readWooers, .int x_t_readPicture, .ref a_t_text, .int x_t_length, .int x_t_at, .int x_t_faultAt, .int x_t_acts, .int x_t_next, .ref a_t_row, .int x_t_riddleMany, .ref a_t_nots, .long x_t_seed, .ref a_t_isKept, .ref a_t_kept])), (a_t_now, .inl (E.2.1, 36, .inl r_t_now))] sz)) 0 0 (va_A [(a_t, .inr (6, [.int x_t_isTrue, .int x_t_caskets, .int x_t_wooers, .ref a_t_metal, .ref a_t_kind, .ref a_t_now, .ref a_t_readOf, .ref a_t_readKind, .int x_t_readTrue, .int x_t_readCaskets, .int x_t_readWooers, .int x_t_readPicture, .ref a_t_text, .int x_t_length, .int x_t_at, .int x_t_faultAt, .int x_t_acts, .int x_t_next, .ref a_t_row, .int x_t_riddleMany, .ref a_t_nots, .long x_t_seed, .ref a_t_isKept, .ref a_t_kept])), (a_t_now, .inl (E.2.1, 36, .inl r_t_now))] sz) := by
  refine Met.ofW (cc := cX6_layLine) (maxL := 3) (ret := none) (by decide) rfl ?_
  intro p e s m args below meth c s₁ B hml hv
  obtain ⟨rfl, rfl, hw, hP⟩ := Pw.start hv
  have X := Cxt.of B hml
  have hl := lv_entry ([.ref a_t, .int p1, .int p2]) (n := 3) (Nat.le_of_ble_eq_true rfl)
  rw [lg_entry_eq]
  exact w_X6_layLine a_t a_t_metal a_t_kind a_t_now a_t_readOf a_t_readKind a_t_text a_t_row a_t_nots a_t_isKept a_t_kept x_t_isTrue x_t_caskets x_t_wooers x_t_readTrue x_t_readCaskets x_t_readWooers x_t_readPicture x_t_length x_t_at x_t_faultAt x_t_acts x_t_next x_t_riddleMany x_t_seed r_t_now p1 p2 o_r_t_now X hw hf hP va_S.rf hl
