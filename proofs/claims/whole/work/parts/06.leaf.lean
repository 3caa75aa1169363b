set_option maxHeartbeats 4000000 in
set_option maxRecDepth 100000 in
theorem w_X1_hasCasket {p : Program} {l : Launch} {e : Env} {s : State} {m : MethodId} {args : Array Value} {below : List Frame} {meth : Method} {c : Code} {E : Ev} (a_t a_t_metals a_t_kinds : Nat) (x_t_truth : Int32) (x_t_caskets : Int32) (x_t_wooers : Int32) (p1 : Int32) (o_r : Int32) (X : Cxt p s m args meth c cX1_hasCasket 2 wsX1_hasCasket RX1 (some .boolean)) (hw : wd E [(a_t, .inr (1, [.int x_t_truth, .int x_t_caskets, .int x_t_wooers, .ref a_t_metals, .ref a_t_kinds]))] s s.heap) (h : f_X1_hasCasket x_t_caskets p1 = some o_r) {ls : Array Slot} (hl : lv_has ls 2 [(0, .ref a_t), (1, .int p1)]) : W p l e { frames := 0, cells := 0, slots := 0, locals := 0 } s m args below meth c s.heap [] 0 0 (MQ below (Qr (some (.int o_r))) args s 0 0 (fun _ => False)) (F0 m 0 ls []) := by
  obtain ⟨⟨hx, hb, hml, hown, hts⟩, hr, hlocks⟩ := id X
  obtain ⟨hC, hP⟩ := id hw
  have hiX1 : ∀ w ∈ u_ws RX1 TX1 5, w ∈ wsX1_hasCasket := by decide +kernel
  have hK := hC.1
  unfold f_X1_hasCasket at h
  refine lv_iload_n hx hb dX1_hasCasket_0 rfl (lv_at hl 1 rfl) ?_
  refine lv_if_lt (tgt := 16) hx hb dX1_hasCasket_1 (by decide) (fun c1 => ?_) (fun c1 => ?_)
  · have h := ifp c1 h
    refine lv_iconst (v := 0) hx hb dX1_hasCasket_16 (by decide) ?_
    exact W.zret hx hb hr rfl (fun t ht _ => ⟨by cases h; rfl, ht⟩) (fun _ hq => absurd hq List.not_mem_nil) dX1_hasCasket_17
  · have h := ifn c1 h
    refine lv_iload_n hx hb dX1_hasCasket_4 rfl (lv_at hl 1 rfl) ?_
    refine lv_aload_n hx hb dX1_hasCasket_5 rfl (lv_at hl 0 rfl) ?_
    refine va_get (D := E.1) (ci := 1) (v := .int x_t_caskets) (C := RX1) (T := TX1) (N := 5) hx hb hts hiX1 hown hK hP 0 rfl rfl 1 (by decide) (hts (.fieldLink RX1 22 "CasketLines$House" "caskets" "I") (by decide +kernel)) (fun _ h9 => h9) rfl dX1_hasCasket_6 ?_
    refine lv_icmp_ge (tgt := 16) hx hb dX1_hasCasket_9 (by decide) (fun c2 => ?_) (fun c2 => ?_)
    · have h := ifp c2 h
      refine lv_iconst (v := 0) hx hb dX1_hasCasket_16 (by decide) ?_
      exact W.zret hx hb hr rfl (fun t ht _ => ⟨by cases h; rfl, ht⟩) (fun _ hq => absurd hq List.not_mem_nil) dX1_hasCasket_17
    · have h := ifn c2 h
      refine lv_iconst (v := 1) hx hb dX1_hasCasket_12 (by decide) ?_
      refine lv_goto (tgt := 17) hx hb dX1_hasCasket_13 (by decide) ?_
      exact W.zret hx hb hr rfl (fun t ht _ => ⟨by cases h; rfl, ht⟩) (fun _ hq => absurd hq List.not_mem_nil) dX1_hasCasket_17
set_option maxHeartbeats 4000000 in
set_option maxRecDepth 100000 in
theorem k_X1_hasCasket {l : Launch} {E : Ev} (a_t a_t_metals a_t_kinds : Nat) (x_t_truth : Int32) (x_t_caskets : Int32) (x_t_wooers : Int32) (p1 : Int32) (o_r : Int32) (hf : f_X1_hasCasket x_t_caskets p1 = some o_r) : Met l yX1_hasCasket wsX1_hasCasket ({ frames := 0, cells := 0, slots := 0, locals := 0 }) (Pr E [.ref a_t, .int p1] [(a_t, .inr (1, [.int x_t_truth, .int x_t_caskets, .int x_t_wooers, .ref a_t_metals, .ref a_t_kinds]))]) (Qr (some (.int o_r))) 0 0 (fun _ => False) := by
  refine Met.ofW (cc := cX1_hasCasket) (maxL := 2) (ret := (some .boolean)) (by decide) rfl ?_
  intro p e s m args below meth c s₁ B hml hv
  obtain ⟨rfl, hw⟩ := hv
  have X := Cxt.of B hml
  have hl := lv_entry ([.ref a_t, .int p1]) (n := 2) (Nat.le_of_ble_eq_true rfl)
  rw [lg_entry_eq]
  exact w_X1_hasCasket a_t a_t_metals a_t_kinds x_t_truth x_t_caskets x_t_wooers p1 o_r X hw hf hl
set_option maxHeartbeats 4000000 in
set_option maxRecDepth 100000 in
theorem w_X1_hasWooer {p : Program} {l : Launch} {e : Env} {s : State} {m : MethodId} {args : Array Value} {below : List Frame} {meth : Method} {c : Code} {E : Ev} (a_t a_t_metals a_t_kinds : Nat) (x_t_truth : Int32) (x_t_caskets : Int32) (x_t_wooers : Int32) (p1 : Int32) (o_r : Int32) (X : Cxt p s m args meth c cX1_hasWooer 2 wsX1_hasWooer RX1 (some .boolean)) (hw : wd E [(a_t, .inr (1, [.int x_t_truth, .int x_t_caskets, .int x_t_wooers, .ref a_t_metals, .ref a_t_kinds]))] s s.heap) (h : f_X1_hasWooer x_t_wooers p1 = some o_r) {ls : Array Slot} (hl : lv_has ls 2 [(0, .ref a_t), (1, .int p1)]) : W p l e { frames := 0, cells := 0, slots := 0, locals := 0 } s m args below meth c s.heap [] 0 0 (MQ below (Qr (some (.int o_r))) args s 0 0 (fun _ => False)) (F0 m 0 ls []) := by
  obtain ⟨⟨hx, hb, hml, hown, hts⟩, hr, hlocks⟩ := id X
  obtain ⟨hC, hP⟩ := id hw
  have hiX1 : ∀ w ∈ u_ws RX1 TX1 5, w ∈ wsX1_hasWooer := by decide +kernel
  have hK := hC.1
  unfold f_X1_hasWooer at h
  refine lv_iload_n hx hb dX1_hasWooer_0 rfl (lv_at hl 1 rfl) ?_
  refine lv_if_lt (tgt := 16) hx hb dX1_hasWooer_1 (by decide) (fun c1 => ?_) (fun c1 => ?_)
  · have h := ifp c1 h
    refine lv_iconst (v := 0) hx hb dX1_hasWooer_16 (by decide) ?_
    exact W.zret hx hb hr rfl (fun t ht _ => ⟨by cases h; rfl, ht⟩) (fun _ hq => absurd hq List.not_mem_nil) dX1_hasWooer_17
  · have h := ifn c1 h
    refine lv_iload_n hx hb dX1_hasWooer_4 rfl (lv_at hl 1 rfl) ?_
    refine lv_aload_n hx hb dX1_hasWooer_5 rfl (lv_at hl 0 rfl) ?_
    refine va_get (D := E.1) (ci := 1) (v := .int x_t_wooers) (C := RX1) (T := TX1) (N := 5) hx hb hts hiX1 hown hK hP 0 rfl rfl 2 (by decide) (hts (.fieldLink RX1 25 "CasketLines$House" "wooers" "I") (by decide +kernel)) (fun _ h9 => h9) rfl dX1_hasWooer_6 ?_
    refine lv_icmp_ge (tgt := 16) hx hb dX1_hasWooer_9 (by decide) (fun c2 => ?_) (fun c2 => ?_)
    · have h := ifp c2 h
      refine lv_iconst (v := 0) hx hb dX1_hasWooer_16 (by decide) ?_
      exact W.zret hx hb hr rfl (fun t ht _ => ⟨by cases h; rfl, ht⟩) (fun _ hq => absurd hq List.not_mem_nil) dX1_hasWooer_17
    · have h := ifn c2 h
      refine lv_iconst (v := 1) hx hb dX1_hasWooer_12 (by decide) ?_
      refine lv_goto (tgt := 17) hx hb dX1_hasWooer_13 (by decide) ?_
      exact W.zret hx hb hr rfl (fun t ht _ => ⟨by cases h; rfl, ht⟩) (fun _ hq => absurd hq List.not_mem_nil) dX1_hasWooer_17
set_option maxHeartbeats 4000000 in
set_option maxRecDepth 100000 in
theorem k_X1_hasWooer {l : Launch} {E : Ev} (a_t a_t_metals a_t_kinds : Nat) (x_t_truth : Int32) (x_t_caskets : Int32) (x_t_wooers : Int32) (p1 : Int32) (o_r : Int32) (hf : f_X1_hasWooer x_t_wooers p1 = some o_r) : Met l yX1_hasWooer wsX1_hasWooer ({ frames := 0, cells := 0, slots := 0, locals := 0 }) (Pr E [.ref a_t, .int p1] [(a_t, .inr (1, [.int x_t_truth, .int x_t_caskets, .int x_t_wooers, .ref a_t_metals, .ref a_t_kinds]))]) (Qr (some (.int o_r))) 0 0 (fun _ => False) := by
  refine Met.ofW (cc := cX1_hasWooer) (maxL := 2) (ret := (some .boolean)) (by decide) rfl ?_
  intro p e s m args below meth c s₁ B hml hv
  obtain ⟨rfl, hw⟩ := hv
  have X := Cxt.of B hml
  have hl := lv_entry ([.ref a_t, .int p1]) (n := 2) (Nat.le_of_ble_eq_true rfl)
  rw [lg_entry_eq]
  exact w_X1_hasWooer a_t a_t_metals a_t_kinds x_t_truth x_t_caskets x_t_wooers p1 o_r X hw hf hl
set_option maxHeartbeats 4000000 in
set_option maxRecDepth 100000 in
theorem w_X1_leastOf_2_b {p : Program} {l : Launch} {e : Env} {s : State} {m : MethodId} {args : Array Value} {below : List Frame} {meth : Method} {c : Code} {E : Ev} (v0 : Int32) (o_r : Int32) (X : Cxt p s m args meth c cX1_leastOf 2 wsX1_leastOf RX1 (some .int)) (hw : wd E [] s s.heap) (k2 : Int32 → Option (Int32)) (hk2 : ∀ (v1 : Int32), k2 v1 = some o_r → ∀ (ls : Array Slot), lv_has ls 2 [(0, .int v0), (1, .int v1)] → W p l e { frames := 0, cells := 0, slots := 0, locals := 0 } s m args below meth c s.heap [] 0 0 (MQ below (Qr (some (.int o_r))) args s 0 0 (fun _ => False)) (F0 m 2 ls [])) (v1 : Int32) (h : f_X1_leastOf_2_b v0 k2 v1 = some o_r) {ls : Array Slot} (hl : lv_has ls 2 [(0, .int v0), (1, .int v1)]) : W p l e { frames := 0, cells := 0, slots := 0, locals := 0 } s m args below meth c s.heap [] 0 0 (MQ below (Qr (some (.int o_r))) args s 0 0 (fun _ => False)) (F0 m 2 ls []) := by
  obtain ⟨⟨hx, hb, hml, hown, hts⟩, hr, hlocks⟩ := id X
  obtain ⟨hC, hP⟩ := id hw
  unfold f_X1_leastOf_2_b at h
  refine lv_iload_n hx hb dX1_leastOf_2 rfl (lv_at hl 1 rfl) ?_
  refine lv_iconst (v := 4) hx hb dX1_leastOf_3 (by decide) ?_
  refine lv_icmp_ge (tgt := 24) hx hb dX1_leastOf_4 (by decide) (fun c1 => ?_) (fun c1 => ?_)
  · have h := ifp c1 h
    refine lv_bipush (v := (-9)) hx hb dX1_leastOf_24 (by decide) ?_
    exact W.iret hx hb hr (fun t ht _ => ⟨by cases h; rfl, ht⟩) (fun _ hq => absurd hq List.not_mem_nil) dX1_leastOf_26
  · have h := ifn c1 h
    refine lv_iload_n hx hb dX1_leastOf_7 rfl (lv_at hl 0 rfl) ?_
    refine lv_iload_n hx hb dX1_leastOf_8 rfl (lv_at hl 1 rfl) ?_
    refine lv_ishr hx hb dX1_leastOf_9 ?_
    refine lv_iconst (v := 1) hx hb dX1_leastOf_10 (by decide) ?_
    refine lv_iand hx hb dX1_leastOf_11 ?_
    refine lv_iconst (v := 1) hx hb dX1_leastOf_12 (by decide) ?_
    refine lv_icmp_ne (tgt := 18) hx hb dX1_leastOf_13 (by decide) (fun c2 => ?_) (fun c2 => ?_)
    · have h := ifn c2 h
      refine lv_iinc (v := (v1 + 1)) (lv' := [(1, .int (v1 + 1)), (0, .int v0)]) hx hb dX1_leastOf_18 hl (k := 1) rfl rfl (by decide) rfl (fun ls hl => ?_)
      refine lv_goto (tgt := 2) hx hb dX1_leastOf_21 (by decide) ?_
      exact hk2 (v1 + 1) h ls (lv_sub hl [1, 0] rfl)
    · have h := ifp c2 h
      refine lv_iload_n hx hb dX1_leastOf_16 rfl (lv_at hl 1 rfl) ?_
      exact W.iret hx hb hr (fun t ht _ => ⟨by cases h; rfl, ht⟩) (fun _ hq => absurd hq List.not_mem_nil) dX1_leastOf_17
set_option maxHeartbeats 4000000 in
set_option maxRecDepth 100000 in
theorem w_X1_leastOf_2 {p : Program} {l : Launch} {e : Env} {s : State} {m : MethodId} {args : Array Value} {below : List Frame} {meth : Method} {c : Code} {E : Ev} (v0 : Int32) (o_r : Int32) (X : Cxt p s m args meth c cX1_leastOf 2 wsX1_leastOf RX1 (some .int)) (hw : wd E [] s s.heap) : ∀ (n : Nat) (v1 : Int32), f_X1_leastOf_2 v0 n v1 = some o_r → ∀ (ls : Array Slot), lv_has ls 2 [(0, .int v0), (1, .int v1)] → W p l e { frames := 0, cells := 0, slots := 0, locals := 0 } s m args below meth c s.heap [] 0 0 (MQ below (Qr (some (.int o_r))) args s 0 0 (fun _ => False)) (F0 m 2 ls []) := by
  intro n
  induction n with
  | zero =>
    intro v1 h
    exact (rk_z _ _ h).elim
  | succ n ih =>
    intro v1 h ls hl
    exact w_X1_leastOf_2_b   v0  o_r X hw  (rk (fun k x => f_X1_leastOf_2_b v0  k x) n) (fun v1 hh => ih v1 hh) v1 h hl
set_option maxHeartbeats 4000000 in
set_option maxRecDepth 100000 in
theorem w_X1_leastOf {p : Program} {l : Launch} {e : Env} {s : State} {m : MethodId} {args : Array Value} {below : List Frame} {meth : Method} {c : Code} {E : Ev} (p1 : Int32) (o_r : Int32) (X : Cxt p s m args meth c cX1_leastOf 2 wsX1_leastOf RX1 (some .int)) (hw : wd E [] s s.heap) (h : f_X1_leastOf p1 = some o_r) {ls : Array Slot} (hl : lv_has ls 2 [(0, .int p1)]) : W p l e { frames := 0, cells := 0, slots := 0, locals := 0 } s m args below meth c s.heap [] 0 0 (MQ below (Qr (some (.int o_r))) args s 0 0 (fun _ => False)) (F0 m 0 ls []) := by
  obtain ⟨⟨hx, hb, hml, hown, hts⟩, hr, hlocks⟩ := id X
  obtain ⟨hC, hP⟩ := id hw
  unfold f_X1_leastOf at h
  refine lv_iconst (v := 0) hx hb dX1_leastOf_0 (by decide) ?_
  refine lv_istore_n (lv' := [(1, .int 0), (0, .int p1)]) hx hb dX1_leastOf_1 rfl hl (by decide) rfl (fun ls hl => ?_)
  exact w_X1_leastOf_2   p1  o_r X hw  200 0 h ls (lv_sub hl [1, 0] rfl)
set_option maxHeartbeats 4000000 in
set_option maxRecDepth 100000 in
theorem k_X1_leastOf {l : Launch} {E : Ev} (p1 : Int32) (o_r : Int32) (hf : f_X1_leastOf p1 = some o_r) : Met l yX1_leastOf wsX1_leastOf ({ frames := 0, cells := 0, slots := 0, locals := 0 }) (Pr E [.int p1] []) (Qr (some (.int o_r))) 0 0 (fun _ => False) := by
  refine Met.ofW (cc := cX1_leastOf) (maxL := 2) (ret := (some .int)) (by decide) rfl ?_
  intro p e s m args below meth c s₁ B hml hv
  obtain ⟨rfl, hw⟩ := hv
  have X := Cxt.of B hml
  have hl := lv_entry ([.int p1]) (n := 2) (Nat.le_of_ble_eq_true rfl)
  rw [lg_entry_eq]
  exact w_X1_leastOf   p1 o_r X hw hf hl
set_option maxHeartbeats 4000000 in
set_option maxRecDepth 100000 in
theorem w_X1_greatestOf_2_b {p : Program} {l : Launch} {e : Env} {s : State} {m : MethodId} {args : Array Value} {below : List Frame} {meth : Method} {c : Code} {E : Ev} (v0 : Int32) (o_r : Int32) (X : Cxt p s m args meth c cX1_greatestOf 2 wsX1_greatestOf RX1 (some .int)) (hw : wd E [] s s.heap) (k2 : Int32 → Option (Int32)) (hk2 : ∀ (v1 : Int32), k2 v1 = some o_r → ∀ (ls : Array Slot), lv_has ls 2 [(0, .int v0), (1, .int v1)] → W p l e { frames := 0, cells := 0, slots := 0, locals := 0 } s m args below meth c s.heap [] 0 0 (MQ below (Qr (some (.int o_r))) args s 0 0 (fun _ => False)) (F0 m 2 ls [])) (v1 : Int32) (h : f_X1_greatestOf_2_b v0 k2 v1 = some o_r) {ls : Array Slot} (hl : lv_has ls 2 [(0, .int v0), (1, .int v1)]) : W p l e { frames := 0, cells := 0, slots := 0, locals := 0 } s m args below meth c s.heap [] 0 0 (MQ below (Qr (some (.int o_r))) args s 0 0 (fun _ => False)) (F0 m 2 ls []) := by
  obtain ⟨⟨hx, hb, hml, hown, hts⟩, hr, hlocks⟩ := id X
  obtain ⟨hC, hP⟩ := id hw
  unfold f_X1_greatestOf_2_b at h
  refine lv_iload_n hx hb dX1_greatestOf_2 rfl (lv_at hl 1 rfl) ?_
  refine lv_if_lt (tgt := 23) hx hb dX1_greatestOf_3 (by decide) (fun c1 => ?_) (fun c1 => ?_)
  · have h := ifp c1 h
    refine lv_bipush (v := (-9)) hx hb dX1_greatestOf_23 (by decide) ?_
    exact W.iret hx hb hr (fun t ht _ => ⟨by cases h; rfl, ht⟩) (fun _ hq => absurd hq List.not_mem_nil) dX1_greatestOf_25
  · have h := ifn c1 h
    refine lv_iload_n hx hb dX1_greatestOf_6 rfl (lv_at hl 0 rfl) ?_
    refine lv_iload_n hx hb dX1_greatestOf_7 rfl (lv_at hl 1 rfl) ?_
    refine lv_ishr hx hb dX1_greatestOf_8 ?_
    refine lv_iconst (v := 1) hx hb dX1_greatestOf_9 (by decide) ?_
    refine lv_iand hx hb dX1_greatestOf_10 ?_
    refine lv_iconst (v := 1) hx hb dX1_greatestOf_11 (by decide) ?_
    refine lv_icmp_ne (tgt := 17) hx hb dX1_greatestOf_12 (by decide) (fun c2 => ?_) (fun c2 => ?_)
    · have h := ifn c2 h
      refine lv_iinc (v := (v1 + (-1))) (lv' := [(1, .int (v1 + (-1))), (0, .int v0)]) hx hb dX1_greatestOf_17 hl (k := 1) rfl rfl (by decide) rfl (fun ls hl => ?_)
      refine lv_goto (tgt := 2) hx hb dX1_greatestOf_20 (by decide) ?_
      exact hk2 (v1 + (-1)) h ls (lv_sub hl [1, 0] rfl)
    · have h := ifp c2 h
      refine lv_iload_n hx hb dX1_greatestOf_15 rfl (lv_at hl 1 rfl) ?_
      exact W.iret hx hb hr (fun t ht _ => ⟨by cases h; rfl, ht⟩) (fun _ hq => absurd hq List.not_mem_nil) dX1_greatestOf_16
set_option maxHeartbeats 4000000 in
set_option maxRecDepth 100000 in
theorem w_X1_greatestOf_2 {p : Program} {l : Launch} {e : Env} {s : State} {m : MethodId} {args : Array Value} {below : List Frame} {meth : Method} {c : Code} {E : Ev} (v0 : Int32) (o_r : Int32) (X : Cxt p s m args meth c cX1_greatestOf 2 wsX1_greatestOf RX1 (some .int)) (hw : wd E [] s s.heap) : ∀ (n : Nat) (v1 : Int32), f_X1_greatestOf_2 v0 n v1 = some o_r → ∀ (ls : Array Slot), lv_has ls 2 [(0, .int v0), (1, .int v1)] → W p l e { frames := 0, cells := 0, slots := 0, locals := 0 } s m args below meth c s.heap [] 0 0 (MQ below (Qr (some (.int o_r))) args s 0 0 (fun _ => False)) (F0 m 2 ls []) := by
  intro n
  induction n with
  | zero =>
    intro v1 h
    exact (rk_z _ _ h).elim
  | succ n ih =>
    intro v1 h ls hl
    exact w_X1_greatestOf_2_b   v0  o_r X hw  (rk (fun k x => f_X1_greatestOf_2_b v0  k x) n) (fun v1 hh => ih v1 hh) v1 h hl
set_option maxHeartbeats 4000000 in
set_option maxRecDepth 100000 in
theorem w_X1_greatestOf {p : Program} {l : Launch} {e : Env} {s : State} {m : MethodId} {args : Array Value} {below : List Frame} {meth : Method} {c : Code} {E : Ev} (p1 : Int32) (o_r : Int32) (X : Cxt p s m args meth c cX1_greatestOf 2 wsX1_greatestOf RX1 (some .int)) (hw : wd E [] s s.heap) (h : f_X1_greatestOf p1 = some o_r) {ls : Array Slot} (hl : lv_has ls 2 [(0, .int p1)]) : W p l e { frames := 0, cells := 0, slots := 0, locals := 0 } s m args below meth c s.heap [] 0 0 (MQ below (Qr (some (.int o_r))) args s 0 0 (fun _ => False)) (F0 m 0 ls []) := by
  obtain ⟨⟨hx, hb, hml, hown, hts⟩, hr, hlocks⟩ := id X
  obtain ⟨hC, hP⟩ := id hw
  unfold f_X1_greatestOf at h
  refine lv_iconst (v := 3) hx hb dX1_greatestOf_0 (by decide) ?_
  refine lv_istore_n (lv' := [(1, .int 3), (0, .int p1)]) hx hb dX1_greatestOf_1 rfl hl (by decide) rfl (fun ls hl => ?_)
  exact w_X1_greatestOf_2   p1  o_r X hw  200 3 h ls (lv_sub hl [1, 0] rfl)
set_option maxHeartbeats 4000000 in
set_option maxRecDepth 100000 in
theorem k_X1_greatestOf {l : Launch} {E : Ev} (p1 : Int32) (o_r : Int32) (hf : f_X1_greatestOf p1 = some o_r) : Met l yX1_greatestOf wsX1_greatestOf ({ frames := 0, cells := 0, slots := 0, locals := 0 }) (Pr E [.int p1] []) (Qr (some (.int o_r))) 0 0 (fun _ => False) := by
  refine Met.ofW (cc := cX1_greatestOf) (maxL := 2) (ret := (some .int)) (by decide) rfl ?_
  intro p e s m args below meth c s₁ B hml hv
  obtain ⟨rfl, hw⟩ := hv
  have X := Cxt.of B hml
  have hl := lv_entry ([.int p1]) (n := 2) (Nat.le_of_ble_eq_true rfl)
  rw [lg_entry_eq]
  exact w_X1_greatestOf   p1 o_r X hw hf hl
set_option maxHeartbeats 4000000 in
set_option maxRecDepth 100000 in
theorem w_X1_dearestOf_8_b {p : Program} {l : Launch} {e : Env} {s : State} {m : MethodId} {args : Array Value} {below : List Frame} {meth : Method} {c : Code} {E : Ev} (a_t a_t_metals a_t_kinds : Nat) (x_t_truth : Int32) (x_t_caskets : Int32) (x_t_wooers : Int32) (r_t_metals : Nat → Int32) (v1 : Int32) (o_r : Int32) (X : Cxt p s m args meth c cX1_dearestOf 5 wsX1_dearestOf RX1 (some .int)) (hw : wd E [(a_t, .inr (1, [.int x_t_truth, .int x_t_caskets, .int x_t_wooers, .ref a_t_metals, .ref a_t_kinds])), (a_t_metals, .inl (E.2.1, 4, .inl r_t_metals))] s s.heap) (k8 : Int32 × Int32 × Int32 → Option (Int32)) (hk8 : ∀ (v2 : Int32) (v3 : Int32) (v4 : Int32), k8 (v2, v3, v4) = some o_r → ∀ (ls : Array Slot), lv_has ls 5 [(0, .ref a_t), (1, .int v1), (2, .int v2), (3, .int v3), (4, .int v4)] → W p l e { frames := 0, cells := 0, slots := 0, locals := 0 } s m args below meth c s.heap [] 0 0 (MQ below (Qr (some (.int o_r))) args s 0 0 (fun _ => False)) (F0 m 8 ls [])) (v2 : Int32) (v3 : Int32) (v4 : Int32) (h : f_X1_dearestOf_8_b r_t_metals v1 k8 v2 v3 v4 = some o_r) {ls : Array Slot} (hl : lv_has ls 5 [(0, .ref a_t), (1, .int v1), (2, .int v2), (3, .int v3), (4, .int v4)]) : W p l e { frames := 0, cells := 0, slots := 0, locals := 0 } s m args below meth c s.heap [] 0 0 (MQ below (Qr (some (.int o_r))) args s 0 0 (fun _ => False)) (F0 m 8 ls []) := by
  obtain ⟨⟨hx, hb, hml, hown, hts⟩, hr, hlocks⟩ := id X
  obtain ⟨hC, hP⟩ := id hw
  have hiX1 : ∀ w ∈ u_ws RX1 TX1 5, w ∈ wsX1_dearestOf := by decide +kernel
  have hK := hC.1
  unfold f_X1_dearestOf_8_b at h
  refine lv_iload hx hb dX1_dearestOf_8 (lv_at hl 4 rfl) ?_
  refine lv_aload_n hx hb dX1_dearestOf_10 rfl (lv_at hl 0 rfl) ?_
  refine va_get (D := E.1) (ci := 1) (v := .ref a_t_metals) (C := RX1) (T := TX1) (N := 5) hx hb hts hiX1 hown hK hP 0 rfl rfl 3 (by decide) (hts (.fieldLink RX1 15 "CasketLines$House" "metals" "[I") (by decide +kernel)) (fun _ h9 => h9) rfl dX1_dearestOf_11 ?_
  refine va_alen (v := 4) hx hb hK hP 1 0 rfl rfl rfl dX1_dearestOf_14 ?_
  refine lv_icmp_ge (tgt := 56) hx hb dX1_dearestOf_15 (by decide) (fun c1 => ?_) (fun c1 => ?_)
  · have h := ifp c1 h
    refine lv_iload_n hx hb dX1_dearestOf_56 rfl (lv_at hl 2 rfl) ?_
    exact W.iret hx hb hr (fun t ht _ => ⟨by cases h; rfl, ht⟩) (fun _ hq => absurd hq List.not_mem_nil) dX1_dearestOf_57
  · have h := ifn c1 h
    refine lv_iload_n hx hb dX1_dearestOf_18 rfl (lv_at hl 1 rfl) ?_
    refine lv_iload hx hb dX1_dearestOf_19 (lv_at hl 4 rfl) ?_
    refine lv_ishr hx hb dX1_dearestOf_21 ?_
    refine lv_iconst (v := 1) hx hb dX1_dearestOf_22 (by decide) ?_
    refine lv_iand hx hb dX1_dearestOf_23 ?_
    refine lv_iconst (v := 1) hx hb dX1_dearestOf_24 (by decide) ?_
    refine lv_icmp_ne (tgt := 50) hx hb dX1_dearestOf_25 (by decide) (fun c2 => ?_) (fun c2 => ?_)
    · have h := ifn c2 h
      refine lv_iinc (v := (v4 + 1)) (lv' := [(4, .int (v4 + 1)), (0, .ref a_t), (1, .int v1), (2, .int v2), (3, .int v3)]) hx hb dX1_dearestOf_50 hl (k := 4) rfl rfl (by decide) rfl (fun ls hl => ?_)
      refine lv_goto (tgt := 8) hx hb dX1_dearestOf_53 (by decide) ?_
      exact hk8 v2 v3 (v4 + 1) h ls (lv_sub hl [1, 2, 3, 4, 0] rfl)
    · have h := ifp c2 h
      refine lv_aload_n hx hb dX1_dearestOf_28 rfl (lv_at hl 0 rfl) ?_
      refine va_get (D := E.1) (ci := 1) (v := .ref a_t_metals) (C := RX1) (T := TX1) (N := 5) hx hb hts hiX1 hown hK hP 0 rfl rfl 3 (by decide) (hts (.fieldLink RX1 15 "CasketLines$House" "metals" "[I") (by decide +kernel)) (fun _ h9 => h9) rfl dX1_dearestOf_29 ?_
      refine lv_iload hx hb dX1_dearestOf_32 (lv_at hl 4 rfl) ?_
      obtain ⟨b3, h⟩ := gdn h
      refine va_iald hx hb hK hP 1 0 rfl rfl b3 dX1_dearestOf_34 ?_
      refine lv_iload_n hx hb dX1_dearestOf_35 rfl (lv_at hl 3 rfl) ?_
      refine lv_icmp_ge (tgt := 50) hx hb dX1_dearestOf_36 (by decide) (fun c4 => ?_) (fun c4 => ?_)
      · have h := ifp c4 h
        refine lv_iinc (v := (v4 + 1)) (lv' := [(4, .int (v4 + 1)), (0, .ref a_t), (1, .int v1), (2, .int v2), (3, .int v3)]) hx hb dX1_dearestOf_50 hl (k := 4) rfl rfl (by decide) rfl (fun ls hl => ?_)
        refine lv_goto (tgt := 8) hx hb dX1_dearestOf_53 (by decide) ?_
        exact hk8 v2 v3 (v4 + 1) h ls (lv_sub hl [1, 2, 3, 4, 0] rfl)
      · have h := ifn c4 h
        refine lv_iload hx hb dX1_dearestOf_39 (lv_at hl 4 rfl) ?_
        refine lv_istore_n (lv' := [(2, .int v4), (0, .ref a_t), (1, .int v1), (3, .int v3), (4, .int v4)]) hx hb dX1_dearestOf_41 rfl hl (by decide) rfl (fun ls hl => ?_)
        refine lv_aload_n hx hb dX1_dearestOf_42 rfl (lv_at hl 1 rfl) ?_
        refine va_get (D := E.1) (ci := 1) (v := .ref a_t_metals) (C := RX1) (T := TX1) (N := 5) hx hb hts hiX1 hown hK hP 0 rfl rfl 3 (by decide) (hts (.fieldLink RX1 15 "CasketLines$House" "metals" "[I") (by decide +kernel)) (fun _ h9 => h9) rfl dX1_dearestOf_43 ?_
        refine lv_iload hx hb dX1_dearestOf_46 (lv_at hl 4 rfl) ?_
        obtain ⟨b5, h⟩ := gdn h
        refine va_iald hx hb hK hP 1 0 rfl rfl b5 dX1_dearestOf_48 ?_
        refine lv_istore_n (lv' := [(3, .int (r_t_metals (Int32.toNatClampNeg v4))), (2, .int v4), (0, .ref a_t), (1, .int v1), (4, .int v4)]) hx hb dX1_dearestOf_49 rfl hl (by decide) rfl (fun ls hl => ?_)
        refine lv_iinc (v := (v4 + 1)) (lv' := [(4, .int (v4 + 1)), (3, .int (r_t_metals (Int32.toNatClampNeg v4))), (2, .int v4), (0, .ref a_t), (1, .int v1)]) hx hb dX1_dearestOf_50 hl (k := 4) rfl rfl (by decide) rfl (fun ls hl => ?_)
        refine lv_goto (tgt := 8) hx hb dX1_dearestOf_53 (by decide) ?_
        exact hk8 v4 (r_t_metals (Int32.toNatClampNeg v4)) (v4 + 1) h ls (lv_sub hl [3, 4, 2, 1, 0] rfl)
set_option maxHeartbeats 4000000 in
set_option maxRecDepth 100000 in
theorem w_X1_dearestOf_8 {p : Program} {l : Launch} {e : Env} {s : State} {m : MethodId} {args : Array Value} {below : List Frame} {meth : Method} {c : Code} {E : Ev} (a_t a_t_metals a_t_kinds : Nat) (x_t_truth : Int32) (x_t_caskets : Int32) (x_t_wooers : Int32) (r_t_metals : Nat → Int32) (v1 : Int32) (o_r : Int32) (X : Cxt p s m args meth c cX1_dearestOf 5 wsX1_dearestOf RX1 (some .int)) (hw : wd E [(a_t, .inr (1, [.int x_t_truth, .int x_t_caskets, .int x_t_wooers, .ref a_t_metals, .ref a_t_kinds])), (a_t_metals, .inl (E.2.1, 4, .inl r_t_metals))] s s.heap) : ∀ (n : Nat) (v2 : Int32) (v3 : Int32) (v4 : Int32), f_X1_dearestOf_8 r_t_metals v1 n v2 v3 v4 = some o_r → ∀ (ls : Array Slot), lv_has ls 5 [(0, .ref a_t), (1, .int v1), (2, .int v2), (3, .int v3), (4, .int v4)] → W p l e { frames := 0, cells := 0, slots := 0, locals := 0 } s m args below meth c s.heap [] 0 0 (MQ below (Qr (some (.int o_r))) args s 0 0 (fun _ => False)) (F0 m 8 ls []) := by
  intro n
  induction n with
  | zero =>
    intro v2 v3 v4 h
    exact (rk_z _ _ h).elim
  | succ n ih =>
    intro v2 v3 v4 h ls hl
    exact w_X1_dearestOf_8_b a_t a_t_metals a_t_kinds x_t_truth x_t_caskets x_t_wooers r_t_metals v1  o_r X hw  (rk (fun k x => f_X1_dearestOf_8_b r_t_metals v1  k (x.1) (x.2.1) (x.2.2)) n) (fun v2 v3 v4 hh => ih v2 v3 v4 hh) v2 v3 v4 h hl
set_option maxHeartbeats 4000000 in
set_option maxRecDepth 100000 in
theorem w_X1_dearestOf {p : Program} {l : Launch} {e : Env} {s : State} {m : MethodId} {args : Array Value} {below : List Frame} {meth : Method} {c : Code} {E : Ev} (a_t a_t_metals a_t_kinds : Nat) (x_t_truth : Int32) (x_t_caskets : Int32) (x_t_wooers : Int32) (r_t_metals : Nat → Int32) (p1 : Int32) (o_r : Int32) (X : Cxt p s m args meth c cX1_dearestOf 5 wsX1_dearestOf RX1 (some .int)) (hw : wd E [(a_t, .inr (1, [.int x_t_truth, .int x_t_caskets, .int x_t_wooers, .ref a_t_metals, .ref a_t_kinds])), (a_t_metals, .inl (E.2.1, 4, .inl r_t_metals))] s s.heap) (h : f_X1_dearestOf r_t_metals p1 = some o_r) {ls : Array Slot} (hl : lv_has ls 5 [(0, .ref a_t), (1, .int p1)]) : W p l e { frames := 0, cells := 0, slots := 0, locals := 0 } s m args below meth c s.heap [] 0 0 (MQ below (Qr (some (.int o_r))) args s 0 0 (fun _ => False)) (F0 m 0 ls []) := by
  obtain ⟨⟨hx, hb, hml, hown, hts⟩, hr, hlocks⟩ := id X
  obtain ⟨hC, hP⟩ := id hw
  have hiX1 : ∀ w ∈ u_ws RX1 TX1 5, w ∈ wsX1_dearestOf := by decide +kernel
  have hK := hC.1
  unfold f_X1_dearestOf at h
  refine lv_bipush (v := (-9)) hx hb dX1_dearestOf_0 (by decide) ?_
  refine lv_istore_n (lv' := [(2, .int (-9)), (0, .ref a_t), (1, .int p1)]) hx hb dX1_dearestOf_2 rfl hl (by decide) rfl (fun ls hl => ?_)
  refine lv_iconst (v := 4) hx hb dX1_dearestOf_3 (by decide) ?_
  refine lv_istore_n (lv' := [(3, .int 4), (2, .int (-9)), (0, .ref a_t), (1, .int p1)]) hx hb dX1_dearestOf_4 rfl hl (by decide) rfl (fun ls hl => ?_)
  refine lv_iconst (v := 0) hx hb dX1_dearestOf_5 (by decide) ?_
  refine lv_istore (lv' := [(4, .int 0), (3, .int 4), (2, .int (-9)), (0, .ref a_t), (1, .int p1)]) hx hb dX1_dearestOf_6 hl (by decide) rfl (fun ls hl => ?_)
  exact w_X1_dearestOf_8 a_t a_t_metals a_t_kinds x_t_truth x_t_caskets x_t_wooers r_t_metals p1  o_r X hw  200 (-9) 4 0 h ls (lv_sub hl [3, 4, 2, 1, 0] rfl)
set_option maxHeartbeats 4000000 in
set_option maxRecDepth 100000 in
theorem k_X1_dearestOf {l : Launch} {E : Ev} (a_t a_t_metals a_t_kinds : Nat) (x_t_truth : Int32) (x_t_caskets : Int32) (x_t_wooers : Int32) (r_t_metals : Nat → Int32) (p1 : Int32) (o_r : Int32) (hf : f_X1_dearestOf r_t_metals p1 = some o_r) : Met l yX1_dearestOf wsX1_dearestOf ({ frames := 0, cells := 0, slots := 0, locals := 0 }) (Pr E [.ref a_t, .int p1] [(a_t, .inr (1, [.int x_t_truth, .int x_t_caskets, .int x_t_wooers, .ref a_t_metals, .ref a_t_kinds])), (a_t_metals, .inl (E.2.1, 4, .inl r_t_metals))]) (Qr (some (.int o_r))) 0 0 (fun _ => False) := by
  refine Met.ofW (cc := cX1_dearestOf) (maxL := 5) (ret := (some .int)) (by decide) rfl ?_
  intro p e s m args below meth c s₁ B hml hv
  obtain ⟨rfl, hw⟩ := hv
  have X := Cxt.of B hml
  have hl := lv_entry ([.ref a_t, .int p1]) (n := 5) (Nat.le_of_ble_eq_true rfl)
  rw [lg_entry_eq]
  exact w_X1_dearestOf a_t a_t_metals a_t_kinds x_t_truth x_t_caskets x_t_wooers r_t_metals p1 o_r X hw hf hl
set_option maxHeartbeats 4000000 in
set_option maxRecDepth 100000 in
theorem w_X2_isBelow {p : Program} {l : Launch} {e : Env} {s : State} {m : MethodId} {args : Array Value} {below : List Frame} {meth : Method} {c : Code} {E : Ev} (p1 : Int32) (p2 : Int32) (o_r : Int32) (X : Cxt p s m args meth c cX2_isBelow 2 wsX2_isBelow RX2 (some .boolean)) (hw : wd E [] s s.heap) (h : f_X2_isBelow p1 p2 = some o_r) {ls : Array Slot} (hl : lv_has ls 2 [(0, .int p1), (1, .int p2)]) : W p l e { frames := 0, cells := 0, slots := 0, locals := 0 } s m args below meth c s.heap [] 0 0 (MQ below (Qr (some (.int o_r))) args s 0 0 (fun _ => False)) (F0 m 0 ls []) := by
  obtain ⟨⟨hx, hb, hml, hown, hts⟩, hr, hlocks⟩ := id X
  obtain ⟨hC, hP⟩ := id hw
  unfold f_X2_isBelow at h
  refine lv_iload_n hx hb dX2_isBelow_0 rfl (lv_at hl 0 rfl) ?_
  refine lv_if_lt (tgt := 13) hx hb dX2_isBelow_1 (by decide) (fun c1 => ?_) (fun c1 => ?_)
  · have h := ifp c1 h
    refine lv_iconst (v := 0) hx hb dX2_isBelow_13 (by decide) ?_
    exact W.zret hx hb hr rfl (fun t ht _ => ⟨by cases h; rfl, ht⟩) (fun _ hq => absurd hq List.not_mem_nil) dX2_isBelow_14
  · have h := ifn c1 h
    refine lv_iload_n hx hb dX2_isBelow_4 rfl (lv_at hl 0 rfl) ?_
    refine lv_iload_n hx hb dX2_isBelow_5 rfl (lv_at hl 1 rfl) ?_
    refine lv_icmp_ge (tgt := 13) hx hb dX2_isBelow_6 (by decide) (fun c2 => ?_) (fun c2 => ?_)
    · have h := ifp c2 h
      refine lv_iconst (v := 0) hx hb dX2_isBelow_13 (by decide) ?_
      exact W.zret hx hb hr rfl (fun t ht _ => ⟨by cases h; rfl, ht⟩) (fun _ hq => absurd hq List.not_mem_nil) dX2_isBelow_14
    · have h := ifn c2 h
      refine lv_iconst (v := 1) hx hb dX2_isBelow_9 (by decide) ?_
      refine lv_goto (tgt := 14) hx hb dX2_isBelow_10 (by decide) ?_
      exact W.zret hx hb hr rfl (fun t ht _ => ⟨by cases h; rfl, ht⟩) (fun _ hq => absurd hq List.not_mem_nil) dX2_isBelow_14
set_option maxHeartbeats 4000000 in
set_option maxRecDepth 100000 in
theorem k_X2_isBelow {l : Launch} {E : Ev} (p1 : Int32) (p2 : Int32) (o_r : Int32) (hf : f_X2_isBelow p1 p2 = some o_r) : Met l yX2_isBelow wsX2_isBelow ({ frames := 0, cells := 0, slots := 0, locals := 0 }) (Pr E [.int p1, .int p2] []) (Qr (some (.int o_r))) 0 0 (fun _ => False) := by
  refine Met.ofW (cc := cX2_isBelow) (maxL := 2) (ret := (some .boolean)) (by decide) rfl ?_
  intro p e s m args below meth c s₁ B hml hv
  obtain ⟨rfl, hw⟩ := hv
  have X := Cxt.of B hml
  have hl := lv_entry ([.int p1, .int p2]) (n := 2) (Nat.le_of_ble_eq_true rfl)
  rw [lg_entry_eq]
  exact w_X2_isBelow   p1 p2 o_r X hw hf hl
set_option maxHeartbeats 4000000 in
set_option maxRecDepth 100000 in
theorem w_X5_at {p : Program} {l : Launch} {e : Env} {s : State} {m : MethodId} {args : Array Value} {below : List Frame} {meth : Method} {c : Code} {E : Ev} (a_p1 : Nat) (n_p1 : Nat) (r_p1 : Nat → Int32) (p2 : Int32) (o_r : Int32) (X : Cxt p s m args meth c cX5_at 2 wsX5_at RX5 (some .int)) (hw : wd E [(a_p1, .inl (E.2.1, n_p1, .inl r_p1))] s s.heap) (h : f_X5_at n_p1 r_p1 p2 = some o_r) {ls : Array Slot} (hl : lv_has ls 2 [(0, .ref a_p1), (1, .int p2)]) : W p l e { frames := 0, cells := 0, slots := 0, locals := 0 } s m args below meth c s.heap [] 0 0 (MQ below (Qr (some (.int o_r))) args s 0 0 (fun _ => False)) (F0 m 0 ls []) := by
  obtain ⟨⟨hx, hb, hml, hown, hts⟩, hr, hlocks⟩ := id X
  obtain ⟨hC, hP⟩ := id hw
  have hK := hC.1
  unfold f_X5_at at h
  refine lv_iload_n hx hb dX5_at_0 rfl (lv_at hl 1 rfl) ?_
  refine lv_if_lt (tgt := 16) hx hb dX5_at_1 (by decide) (fun c1 => ?_) (fun c1 => ?_)
  · have h := ifp c1 h
    refine lv_iconst (v := 0) hx hb dX5_at_16 (by decide) ?_
    exact W.iret hx hb hr (fun t ht _ => ⟨by cases h; rfl, ht⟩) (fun _ hq => absurd hq List.not_mem_nil) dX5_at_17
  · have h := ifn c1 h
    refine lv_iload_n hx hb dX5_at_4 rfl (lv_at hl 1 rfl) ?_
    refine lv_aload_n hx hb dX5_at_5 rfl (lv_at hl 0 rfl) ?_
    refine va_alen (v := (Int32.ofNat n_p1)) hx hb hK hP 0 0 rfl rfl rfl dX5_at_6 ?_
    refine lv_icmp_ge (tgt := 16) hx hb dX5_at_7 (by decide) (fun c2 => ?_) (fun c2 => ?_)
    · have h := ifp c2 h
      refine lv_iconst (v := 0) hx hb dX5_at_16 (by decide) ?_
      exact W.iret hx hb hr (fun t ht _ => ⟨by cases h; rfl, ht⟩) (fun _ hq => absurd hq List.not_mem_nil) dX5_at_17
    · have h := ifn c2 h
      refine lv_aload_n hx hb dX5_at_10 rfl (lv_at hl 0 rfl) ?_
      refine lv_iload_n hx hb dX5_at_11 rfl (lv_at hl 1 rfl) ?_
      obtain ⟨b3, h⟩ := gdn h
      refine va_iald hx hb hK hP 0 0 rfl rfl b3 dX5_at_12 ?_
      refine lv_goto (tgt := 17) hx hb dX5_at_13 (by decide) ?_
      exact W.iret hx hb hr (fun t ht _ => ⟨by cases h; rfl, ht⟩) (fun _ hq => absurd hq List.not_mem_nil) dX5_at_17
set_option maxHeartbeats 4000000 in
set_option maxRecDepth 100000 in
theorem k_X5_at {l : Launch} {E : Ev} (a_p1 : Nat) (n_p1 : Nat) (r_p1 : Nat → Int32) (p2 : Int32) (o_r : Int32) (hf : f_X5_at n_p1 r_p1 p2 = some o_r) : Met l yX5_at wsX5_at ({ frames := 0, cells := 0, slots := 0, locals := 0 }) (Pr E [.ref a_p1, .int p2] [(a_p1, .inl (E.2.1, n_p1, .inl r_p1))]) (Qr (some (.int o_r))) 0 0 (fun _ => False) := by
  refine Met.ofW (cc := cX5_at) (maxL := 2) (ret := (some .int)) (by decide) rfl ?_
  intro p e s m args below meth c s₁ B hml hv
  obtain ⟨rfl, hw⟩ := hv
  have X := Cxt.of B hml
  have hl := lv_entry ([.ref a_p1, .int p2]) (n := 2) (Nat.le_of_ble_eq_true rfl)
  rw [lg_entry_eq]
  exact w_X5_at a_p1 n_p1 r_p1 p2 o_r X hw hf hl
set_option maxHeartbeats 4000000 in
set_option maxRecDepth 100000 in
theorem w_X5_at_T {p : Program} {l : Launch} {e : Env} {s : State} {m : MethodId} {args : Array Value} {below : List Frame} {meth : Method} {c : Code} {E : Ev} (a_p1 : Nat) (n_p1 : Nat) (r_p1 : Nat → Int32) (p2 : Int32) (o_r : Int32) (X : Cxt p s m args meth c cX5_at 2 wsX5_at RX5 (some .int)) (hT : va_T .int a_p1 n_p1 (fun j => .int (r_p1 j)) (eA E) s s.heap) (h : f_X5_at n_p1 r_p1 p2 = some o_r) {ls : Array Slot} (hl : lv_has ls 2 [(0, .ref a_p1), (1, .int p2)]) : W p l e { frames := 0, cells := 0, slots := 0, locals := 0 } s m args below meth c s.heap [] 0 0 (MQ below (Qr (some (.int o_r))) args s 0 0 (fun _ => False)) (F0 m 0 ls []) := by
  obtain ⟨⟨hx, hb, hml, hown, hts⟩, hr, hlocks⟩ := id X
  unfold f_X5_at at h
  refine lv_iload_n hx hb dX5_at_0 rfl (lv_at hl 1 rfl) ?_
  refine lv_if_lt (tgt := 16) hx hb dX5_at_1 (by decide) (fun c1 => ?_) (fun c1 => ?_)
  · have h := ifp c1 h
    refine lv_iconst (v := 0) hx hb dX5_at_16 (by decide) ?_
    exact W.iret hx hb hr (fun t ht _ => ⟨by cases h; rfl, ht⟩) (fun _ hq => absurd hq List.not_mem_nil) dX5_at_17
  · have h := ifn c1 h
    refine lv_iload_n hx hb dX5_at_4 rfl (lv_at hl 1 rfl) ?_
    refine lv_aload_n hx hb dX5_at_5 rfl (lv_at hl 0 rfl) ?_
    refine va_tlen hx hb hT va_S.rf rfl dX5_at_6 ?_
    refine lv_icmp_ge (tgt := 16) hx hb dX5_at_7 (by decide) (fun c2 => ?_) (fun c2 => ?_)
    · have h := ifp c2 h
      refine lv_iconst (v := 0) hx hb dX5_at_16 (by decide) ?_
      exact W.iret hx hb hr (fun t ht _ => ⟨by cases h; rfl, ht⟩) (fun _ hq => absurd hq List.not_mem_nil) dX5_at_17
    · have h := ifn c2 h
      refine lv_aload_n hx hb dX5_at_10 rfl (lv_at hl 0 rfl) ?_
      refine lv_iload_n hx hb dX5_at_11 rfl (lv_at hl 1 rfl) ?_
      obtain ⟨b3, h⟩ := gdn h
      refine va_ti hx hb hT va_S.rf b3 rfl dX5_at_12 ?_
      refine lv_goto (tgt := 17) hx hb dX5_at_13 (by decide) ?_
      exact W.iret hx hb hr (fun t ht _ => ⟨by cases h; rfl, ht⟩) (fun _ hq => absurd hq List.not_mem_nil) dX5_at_17
set_option maxHeartbeats 4000000 in
set_option maxRecDepth 100000 in
theorem k_X5_at_T {l : Launch} {E : Ev} (a_p1 : Nat) (n_p1 : Nat) (r_p1 : Nat → Int32) (p2 : Int32) (o_r : Int32) (hf : f_X5_at n_p1 r_p1 p2 = some o_r) : Met l yX5_at wsX5_at ({ frames := 0, cells := 0, slots := 0, locals := 0 }) (PrT E [.ref a_p1, .int p2] .int a_p1 n_p1 (fun j => .int (r_p1 j))) (Qr (some (.int o_r))) 0 0 (fun _ => False) := by
  refine Met.ofW (cc := cX5_at) (maxL := 2) (ret := (some .int)) (by decide) rfl ?_
  intro p e s m args below meth c s₁ B hml hv
  obtain ⟨rfl, hw⟩ := hv
  have X := Cxt.of B hml
  have hl := lv_entry ([.ref a_p1, .int p2]) (n := 2) (Nat.le_of_ble_eq_true rfl)
  rw [lg_entry_eq]
  exact w_X5_at_T a_p1 n_p1 r_p1 p2 o_r X hw hf hl
set_option maxHeartbeats 4000000 in
set_option maxRecDepth 100000 in
theorem w_X5_maskAt_T {p : Program} {l : Launch} {e : Env} {s : State} {m : MethodId} {args : Array Value} {below : List Frame} {meth : Method} {c : Code} {E : Ev} (a_p1 : Nat) (n_p1 : Nat) (r_p1 : Nat → Int64) (p2 : Int32) (o_r : Int64) (X : Cxt p s m args meth c cX5_maskAt 2 wsX5_maskAt RX5 (some .long)) (hT : va_T .long a_p1 n_p1 (fun j => .long (r_p1 j)) (eA E) s s.heap) (h : f_X5_maskAt n_p1 r_p1 p2 = some o_r) {ls : Array Slot} (hl : lv_has ls 2 [(0, .ref a_p1), (1, .int p2)]) : W p l e { frames := 0, cells := 0, slots := 0, locals := 0 } s m args below meth c s.heap [] 0 0 (MQ below (Qr (some (.long o_r))) args s 0 0 (fun _ => False)) (F0 m 0 ls []) := by
  obtain ⟨⟨hx, hb, hml, hown, hts⟩, hr, hlocks⟩ := id X
  unfold f_X5_maskAt at h
  refine lv_iload_n hx hb dX5_maskAt_0 rfl (lv_at hl 1 rfl) ?_
  refine lv_if_lt (tgt := 16) hx hb dX5_maskAt_1 (by decide) (fun c1 => ?_) (fun c1 => ?_)
  · have h := ifp c1 h
    refine lv_lconst (v := 0) hx hb dX5_maskAt_16 (by decide) ?_
    exact W.lret hx hb hr (fun t ht _ => ⟨by cases h; rfl, ht⟩) (fun _ hq => absurd hq List.not_mem_nil) dX5_maskAt_17
  · have h := ifn c1 h
    refine lv_iload_n hx hb dX5_maskAt_4 rfl (lv_at hl 1 rfl) ?_
    refine lv_aload_n hx hb dX5_maskAt_5 rfl (lv_at hl 0 rfl) ?_
    refine va_tlen hx hb hT va_S.rf rfl dX5_maskAt_6 ?_
    refine lv_icmp_ge (tgt := 16) hx hb dX5_maskAt_7 (by decide) (fun c2 => ?_) (fun c2 => ?_)
    · have h := ifp c2 h
      refine lv_lconst (v := 0) hx hb dX5_maskAt_16 (by decide) ?_
      exact W.lret hx hb hr (fun t ht _ => ⟨by cases h; rfl, ht⟩) (fun _ hq => absurd hq List.not_mem_nil) dX5_maskAt_17
    · have h := ifn c2 h
      refine lv_aload_n hx hb dX5_maskAt_10 rfl (lv_at hl 0 rfl) ?_
      refine lv_iload_n hx hb dX5_maskAt_11 rfl (lv_at hl 1 rfl) ?_
      obtain ⟨b3, h⟩ := gdn h
      refine va_tl hx hb hT va_S.rf b3 rfl dX5_maskAt_12 ?_
      refine lv_goto (tgt := 17) hx hb dX5_maskAt_13 (by decide) ?_
      exact W.lret hx hb hr (fun t ht _ => ⟨by cases h; rfl, ht⟩) (fun _ hq => absurd hq List.not_mem_nil) dX5_maskAt_17
set_option maxHeartbeats 4000000 in
set_option maxRecDepth 100000 in
theorem k_X5_maskAt_T {l : Launch} {E : Ev} (a_p1 : Nat) (n_p1 : Nat) (r_p1 : Nat → Int64) (p2 : Int32) (o_r : Int64) (hf : f_X5_maskAt n_p1 r_p1 p2 = some o_r) : Met l yX5_maskAt wsX5_maskAt ({ frames := 0, cells := 0, slots := 0, locals := 0 }) (PrT E [.ref a_p1, .int p2] .long a_p1 n_p1 (fun j => .long (r_p1 j))) (Qr (some (.long o_r))) 0 0 (fun _ => False) := by
  refine Met.ofW (cc := cX5_maskAt) (maxL := 2) (ret := (some .long)) (by decide) rfl ?_
  intro p e s m args below meth c s₁ B hml hv
  obtain ⟨rfl, hw⟩ := hv
  have X := Cxt.of B hml
  have hl := lv_entry ([.ref a_p1, .int p2]) (n := 2) (Nat.le_of_ble_eq_true rfl)
  rw [lg_entry_eq]
  exact w_X5_maskAt_T a_p1 n_p1 r_p1 p2 o_r X hw hf hl
set_option maxHeartbeats 4000000 in
set_option maxRecDepth 100000 in
theorem w_X5_worldsWith {p : Program} {l : Launch} {e : Env} {s : State} {m : MethodId} {args : Array Value} {below : List Frame} {meth : Method} {c : Code} {E : Ev} (p1 : Int32) (o_r : Int64) (X : Cxt p s m args meth c cX5_worldsWith 1 wsX5_worldsWith RX5 (some .long)) (hw : wd E [] s s.heap) (h : f_X5_worldsWith p1 = some o_r) {ls : Array Slot} (hl : lv_has ls 1 [(0, .int p1)]) : W p l e { frames := 0, cells := 0, slots := 0, locals := 0 } s m args below meth c s.heap [] 0 0 (MQ below (Qr (some (.long o_r))) args s 0 0 (fun _ => False)) (F0 m 0 ls []) := by
  obtain ⟨⟨hx, hb, hml, hown, hts⟩, hr, hlocks⟩ := id X
  obtain ⟨hC, hP⟩ := id hw
  unfold f_X5_worldsWith at h
  refine lv_iload_n hx hb dX5_worldsWith_0 rfl (lv_at hl 0 rfl) ?_
  refine lv_if_lt (tgt := 9) hx hb dX5_worldsWith_1 (by decide) (fun c1 => ?_) (fun c1 => ?_)
  · have h := ifp c1 h
    refine lv_lconst (v := 0) hx hb dX5_worldsWith_9 (by decide) ?_
    refine lv_goto (tgt := 21) hx hb dX5_worldsWith_10 (by decide) ?_
    exact W.lret hx hb hr (fun t ht _ => ⟨by cases h; rfl, ht⟩) (fun _ hq => absurd hq List.not_mem_nil) dX5_worldsWith_21
  · have h := ifn c1 h
    refine lv_iload_n hx hb dX5_worldsWith_4 rfl (lv_at hl 0 rfl) ?_
    refine lv_iconst (v := 4) hx hb dX5_worldsWith_5 (by decide) ?_
    refine lv_icmp_lt (tgt := 13) hx hb dX5_worldsWith_6 (by decide) (fun c2 => ?_) (fun c2 => ?_)
    · have h := ifp c2 h
      refine lv_ldc2 (own := RX5) (v := 65535) hx hb hown (hts (.constantLong RX5 263 65535) (by decide +kernel)) dX5_worldsWith_13 ?_
      refine lv_bipush (v := 16) hx hb dX5_worldsWith_16 (by decide) ?_
      refine lv_iload_n hx hb dX5_worldsWith_18 rfl (lv_at hl 0 rfl) ?_
      refine lv_imul hx hb dX5_worldsWith_19 ?_
      refine lv_lshl hx hb dX5_worldsWith_20 rfl ?_
      exact W.lret hx hb hr (fun t ht _ => ⟨by cases h; rfl, ht⟩) (fun _ hq => absurd hq List.not_mem_nil) dX5_worldsWith_21
    · have h := ifn c2 h
      refine lv_lconst (v := 0) hx hb dX5_worldsWith_9 (by decide) ?_
      refine lv_goto (tgt := 21) hx hb dX5_worldsWith_10 (by decide) ?_
      exact W.lret hx hb hr (fun t ht _ => ⟨by cases h; rfl, ht⟩) (fun _ hq => absurd hq List.not_mem_nil) dX5_worldsWith_21
set_option maxHeartbeats 4000000 in
set_option maxRecDepth 100000 in
theorem k_X5_worldsWith {l : Launch} {E : Ev} (p1 : Int32) (o_r : Int64) (hf : f_X5_worldsWith p1 = some o_r) : Met l yX5_worldsWith wsX5_worldsWith ({ frames := 0, cells := 0, slots := 0, locals := 0 }) (Pr E [.int p1] []) (Qr (some (.long o_r))) 0 0 (fun _ => False) := by
  refine Met.ofW (cc := cX5_worldsWith) (maxL := 1) (ret := (some .long)) (by decide) rfl ?_
  intro p e s m args below meth c s₁ B hml hv
  obtain ⟨rfl, hw⟩ := hv
  have X := Cxt.of B hml
  have hl := lv_entry ([.int p1]) (n := 1) (Nat.le_of_ble_eq_true rfl)
  rw [lg_entry_eq]
  exact w_X5_worldsWith   p1 o_r X hw hf hl
set_option maxHeartbeats 4000000 in
set_option maxRecDepth 100000 in
theorem w_X5_figuresOf {p : Program} {l : Launch} {e : Env} {s : State} {m : MethodId} {args : Array Value} {below : List Frame} {meth : Method} {c : Code} {E : Ev} (p1 : Int32) (o_r : Int32) (X : Cxt p s m args meth c cX5_figuresOf 1 wsX5_figuresOf RX5 (some .int)) (hw : wd E [] s s.heap) (h : f_X5_figuresOf p1 = some o_r) {ls : Array Slot} (hl : lv_has ls 1 [(0, .int p1)]) : W p l e { frames := 0, cells := 0, slots := 0, locals := 0 } s m args below meth c s.heap [] 0 0 (MQ below (Qr (some (.int o_r))) args s 0 0 (fun _ => False)) (F0 m 0 ls []) := by
  obtain ⟨⟨hx, hb, hml, hown, hts⟩, hr, hlocks⟩ := id X
  obtain ⟨hC, hP⟩ := id hw
  unfold f_X5_figuresOf at h
  refine lv_bipush (v := 10) hx hb dX5_figuresOf_0 (by decide) ?_
  refine lv_iload_n hx hb dX5_figuresOf_2 rfl (lv_at hl 0 rfl) ?_
  refine lv_iconst (v := 4) hx hb dX5_figuresOf_3 (by decide) ?_
  refine lv_idiv hx hb dX5_figuresOf_4 (by decide) ?_
  refine lv_imul hx hb dX5_figuresOf_5 ?_
  refine lv_iload_n hx hb dX5_figuresOf_6 rfl (lv_at hl 0 rfl) ?_
  refine lv_iconst (v := 4) hx hb dX5_figuresOf_7 (by decide) ?_
  refine lv_irem hx hb dX5_figuresOf_8 (by decide) ?_
  refine lv_iadd hx hb dX5_figuresOf_9 ?_
  exact W.iret hx hb hr (fun t ht _ => ⟨by cases h; rfl, ht⟩) (fun _ hq => absurd hq List.not_mem_nil) dX5_figuresOf_10
set_option maxHeartbeats 4000000 in
set_option maxRecDepth 100000 in
theorem k_X5_figuresOf {l : Launch} {E : Ev} (p1 : Int32) (o_r : Int32) (hf : f_X5_figuresOf p1 = some o_r) : Met l yX5_figuresOf wsX5_figuresOf ({ frames := 0, cells := 0, slots := 0, locals := 0 }) (Pr E [.int p1] []) (Qr (some (.int o_r))) 0 0 (fun _ => False) := by
  refine Met.ofW (cc := cX5_figuresOf) (maxL := 1) (ret := (some .int)) (by decide) rfl ?_
  intro p e s m args below meth c s₁ B hml hv
  obtain ⟨rfl, hw⟩ := hv
  have X := Cxt.of B hml
  have hl := lv_entry ([.int p1]) (n := 1) (Nat.le_of_ble_eq_true rfl)
  rw [lg_entry_eq]
  exact w_X5_figuresOf   p1 o_r X hw hf hl
set_option maxHeartbeats 4000000 in
set_option maxRecDepth 100000 in
theorem w_X5_power_4_b {p : Program} {l : Launch} {e : Env} {s : State} {m : MethodId} {args : Array Value} {below : List Frame} {meth : Method} {c : Code} {E : Ev} (v0 : Int32) (v1 : Int32) (o_r : Int32) (X : Cxt p s m args meth c cX5_power 4 wsX5_power RX5 (some .int)) (hw : wd E [] s s.heap) (k4 : Int32 × Int32 → Option (Int32)) (hk4 : ∀ (v2 : Int32) (v3 : Int32), k4 (v2, v3) = some o_r → ∀ (ls : Array Slot), lv_has ls 4 [(0, .int v0), (1, .int v1), (2, .int v2), (3, .int v3)] → W p l e { frames := 0, cells := 0, slots := 0, locals := 0 } s m args below meth c s.heap [] 0 0 (MQ below (Qr (some (.int o_r))) args s 0 0 (fun _ => False)) (F0 m 4 ls [])) (v2 : Int32) (v3 : Int32) (h : f_X5_power_4_b v0 v1 k4 v2 v3 = some o_r) {ls : Array Slot} (hl : lv_has ls 4 [(0, .int v0), (1, .int v1), (2, .int v2), (3, .int v3)]) : W p l e { frames := 0, cells := 0, slots := 0, locals := 0 } s m args below meth c s.heap [] 0 0 (MQ below (Qr (some (.int o_r))) args s 0 0 (fun _ => False)) (F0 m 4 ls []) := by
  obtain ⟨⟨hx, hb, hml, hown, hts⟩, hr, hlocks⟩ := id X
  obtain ⟨hC, hP⟩ := id hw
  unfold f_X5_power_4_b at h
  refine lv_iload_n hx hb dX5_power_4 rfl (lv_at hl 3 rfl) ?_
  refine lv_iload_n hx hb dX5_power_5 rfl (lv_at hl 1 rfl) ?_
  refine lv_icmp_ge (tgt := 19) hx hb dX5_power_6 (by decide) (fun c1 => ?_) (fun c1 => ?_)
  · have h := ifp c1 h
    refine lv_iload_n hx hb dX5_power_19 rfl (lv_at hl 2 rfl) ?_
    exact W.iret hx hb hr (fun t ht _ => ⟨by cases h; rfl, ht⟩) (fun _ hq => absurd hq List.not_mem_nil) dX5_power_20
  · have h := ifn c1 h
    refine lv_iload_n hx hb dX5_power_9 rfl (lv_at hl 2 rfl) ?_
    refine lv_iload_n hx hb dX5_power_10 rfl (lv_at hl 0 rfl) ?_
    refine lv_imul hx hb dX5_power_11 ?_
    refine lv_istore_n (lv' := [(2, .int (v2 * v0)), (0, .int v0), (1, .int v1), (3, .int v3)]) hx hb dX5_power_12 rfl hl (by decide) rfl (fun ls hl => ?_)
    refine lv_iinc (v := (v3 + 1)) (lv' := [(3, .int (v3 + 1)), (2, .int (v2 * v0)), (0, .int v0), (1, .int v1)]) hx hb dX5_power_13 hl (k := 3) rfl rfl (by decide) rfl (fun ls hl => ?_)
    refine lv_goto (tgt := 4) hx hb dX5_power_16 (by decide) ?_
    exact hk4 (v2 * v0) (v3 + 1) h ls (lv_sub hl [2, 3, 1, 0] rfl)
set_option maxHeartbeats 4000000 in
set_option maxRecDepth 100000 in
theorem w_X5_power_4 {p : Program} {l : Launch} {e : Env} {s : State} {m : MethodId} {args : Array Value} {below : List Frame} {meth : Method} {c : Code} {E : Ev} (v0 : Int32) (v1 : Int32) (o_r : Int32) (X : Cxt p s m args meth c cX5_power 4 wsX5_power RX5 (some .int)) (hw : wd E [] s s.heap) : ∀ (n : Nat) (v2 : Int32) (v3 : Int32), f_X5_power_4 v0 v1 n v2 v3 = some o_r → ∀ (ls : Array Slot), lv_has ls 4 [(0, .int v0), (1, .int v1), (2, .int v2), (3, .int v3)] → W p l e { frames := 0, cells := 0, slots := 0, locals := 0 } s m args below meth c s.heap [] 0 0 (MQ below (Qr (some (.int o_r))) args s 0 0 (fun _ => False)) (F0 m 4 ls []) := by
  intro n
  induction n with
  | zero =>
    intro v2 v3 h
    exact (rk_z _ _ h).elim
  | succ n ih =>
    intro v2 v3 h ls hl
    exact w_X5_power_4_b   v0 v1  o_r X hw  (rk (fun k x => f_X5_power_4_b v0 v1  k (x.1) (x.2)) n) (fun v2 v3 hh => ih v2 v3 hh) v2 v3 h hl
set_option maxHeartbeats 4000000 in
set_option maxRecDepth 100000 in
theorem w_X5_power {p : Program} {l : Launch} {e : Env} {s : State} {m : MethodId} {args : Array Value} {below : List Frame} {meth : Method} {c : Code} {E : Ev} (p1 : Int32) (p2 : Int32) (o_r : Int32) (X : Cxt p s m args meth c cX5_power 4 wsX5_power RX5 (some .int)) (hw : wd E [] s s.heap) (h : f_X5_power p1 p2 = some o_r) {ls : Array Slot} (hl : lv_has ls 4 [(0, .int p1), (1, .int p2)]) : W p l e { frames := 0, cells := 0, slots := 0, locals := 0 } s m args below meth c s.heap [] 0 0 (MQ below (Qr (some (.int o_r))) args s 0 0 (fun _ => False)) (F0 m 0 ls []) := by
  obtain ⟨⟨hx, hb, hml, hown, hts⟩, hr, hlocks⟩ := id X
  obtain ⟨hC, hP⟩ := id hw
  unfold f_X5_power at h
  refine lv_iconst (v := 1) hx hb dX5_power_0 (by decide) ?_
  refine lv_istore_n (lv' := [(2, .int 1), (0, .int p1), (1, .int p2)]) hx hb dX5_power_1 rfl hl (by decide) rfl (fun ls hl => ?_)
  refine lv_iconst (v := 0) hx hb dX5_power_2 (by decide) ?_
  refine lv_istore_n (lv' := [(3, .int 0), (2, .int 1), (0, .int p1), (1, .int p2)]) hx hb dX5_power_3 rfl hl (by decide) rfl (fun ls hl => ?_)
  exact w_X5_power_4   p1 p2  o_r X hw  200 1 0 h ls (lv_sub hl [2, 3, 1, 0] rfl)
set_option maxHeartbeats 4000000 in
set_option maxRecDepth 100000 in
theorem k_X5_power {l : Launch} {E : Ev} (p1 : Int32) (p2 : Int32) (o_r : Int32) (hf : f_X5_power p1 p2 = some o_r) : Met l yX5_power wsX5_power ({ frames := 0, cells := 0, slots := 0, locals := 0 }) (Pr E [.int p1, .int p2] []) (Qr (some (.int o_r))) 0 0 (fun _ => False) := by
  refine Met.ofW (cc := cX5_power) (maxL := 4) (ret := (some .int)) (by decide) rfl ?_
  intro p e s m args below meth c s₁ B hml hv
  obtain ⟨rfl, hw⟩ := hv
  have X := Cxt.of B hml
  have hl := lv_entry ([.int p1, .int p2]) (n := 4) (Nat.le_of_ble_eq_true rfl)
  rw [lg_entry_eq]
  exact w_X5_power   p1 p2 o_r X hw hf hl
set_option maxHeartbeats 4000000 in
set_option maxRecDepth 100000 in
theorem w_X5_commonDivisor_7_b {p : Program} {l : Launch} {e : Env} {s : State} {m : MethodId} {args : Array Value} {below : List Frame} {meth : Method} {c : Code} {E : Ev} (o_r : Int32) (X : Cxt p s m args meth c cX5_commonDivisor 6 wsX5_commonDivisor RX5 (some .int)) (hw : wd E [] s s.heap) (k7 : Int32 × Int32 × Int32 → Option (Int32)) (hk7 : ∀ (v2 : Int32) (v3 : Int32) (v4 : Int32), k7 (v2, v3, v4) = some o_r → ∀ (ls : Array Slot), lv_has ls 6 [(2, .int v2), (3, .int v3), (4, .int v4)] → W p l e { frames := 0, cells := 0, slots := 0, locals := 0 } s m args below meth c s.heap [] 0 0 (MQ below (Qr (some (.int o_r))) args s 0 0 (fun _ => False)) (F0 m 7 ls [])) (v2 : Int32) (v3 : Int32) (v4 : Int32) (h : f_X5_commonDivisor_7_b k7 v2 v3 v4 = some o_r) {ls : Array Slot} (hl : lv_has ls 6 [(2, .int v2), (3, .int v3), (4, .int v4)]) : W p l e { frames := 0, cells := 0, slots := 0, locals := 0 } s m args below meth c s.heap [] 0 0 (MQ below (Qr (some (.int o_r))) args s 0 0 (fun _ => False)) (F0 m 7 ls []) := by
  obtain ⟨⟨hx, hb, hml, hown, hts⟩, hr, hlocks⟩ := id X
  obtain ⟨hC, hP⟩ := id hw
  unfold f_X5_commonDivisor_7_b at h
  refine lv_iload hx hb dX5_commonDivisor_7 (lv_at hl 2 rfl) ?_
  refine lv_bipush (v := 64) hx hb dX5_commonDivisor_9 (by decide) ?_
  refine lv_icmp_ge (tgt := 34) hx hb dX5_commonDivisor_11 (by decide) (fun c1 => ?_) (fun c1 => ?_)
  · have h := ifp c1 h
    refine lv_iload_n hx hb dX5_commonDivisor_34 rfl (lv_at hl 0 rfl) ?_
    exact W.iret hx hb hr (fun t ht _ => ⟨by cases h; rfl, ht⟩) (fun _ hq => absurd hq List.not_mem_nil) dX5_commonDivisor_35
  · have h := ifn c1 h
    refine lv_iload_n hx hb dX5_commonDivisor_14 rfl (lv_at hl 1 rfl) ?_
    refine lv_if_eq (tgt := 34) hx hb dX5_commonDivisor_15 (by decide) (fun c2 => ?_) (fun c2 => ?_)
    · have h := ifp c2 h
      refine lv_iload_n hx hb dX5_commonDivisor_34 rfl (lv_at hl 0 rfl) ?_
      exact W.iret hx hb hr (fun t ht _ => ⟨by cases h; rfl, ht⟩) (fun _ hq => absurd hq List.not_mem_nil) dX5_commonDivisor_35
    · have h := ifn c2 h
      refine lv_iload_n hx hb dX5_commonDivisor_18 rfl (lv_at hl 0 rfl) ?_
      refine lv_iload_n hx hb dX5_commonDivisor_19 rfl (lv_at hl 1 rfl) ?_
      obtain ⟨b3, h⟩ := gdn h
      refine lv_irem hx hb dX5_commonDivisor_20 b3 ?_
      refine lv_istore (lv' := [(5, .int (v2 - v2 / v3 * v3)), (2, .int v2), (3, .int v3), (4, .int v4)]) hx hb dX5_commonDivisor_21 hl (by decide) rfl (fun ls hl => ?_)
      refine lv_iload_n hx hb dX5_commonDivisor_23 rfl (lv_at hl 2 rfl) ?_
      refine lv_istore_n (lv' := [(2, .int v3), (5, .int (v2 - v2 / v3 * v3)), (3, .int v3), (4, .int v4)]) hx hb dX5_commonDivisor_24 rfl hl (by decide) rfl (fun ls hl => ?_)
      refine lv_iload hx hb dX5_commonDivisor_25 (lv_at hl 1 rfl) ?_
      refine lv_istore_n (lv' := [(3, .int (v2 - v2 / v3 * v3)), (2, .int v3), (5, .int (v2 - v2 / v3 * v3)), (4, .int v4)]) hx hb dX5_commonDivisor_27 rfl hl (by decide) rfl (fun ls hl => ?_)
      refine lv_iinc (v := (v4 + 1)) (lv' := [(4, .int (v4 + 1)), (3, .int (v2 - v2 / v3 * v3)), (2, .int v3), (5, .int (v2 - v2 / v3 * v3))]) hx hb dX5_commonDivisor_28 hl (k := 3) rfl rfl (by decide) rfl (fun ls hl => ?_)
      refine lv_goto (tgt := 7) hx hb dX5_commonDivisor_31 (by decide) ?_
      exact hk7 v3 (v2 - v2 / v3 * v3) (v4 + 1) h ls (lv_sub hl [2, 1, 0] rfl)
set_option maxHeartbeats 4000000 in
set_option maxRecDepth 100000 in
theorem w_X5_commonDivisor_7 {p : Program} {l : Launch} {e : Env} {s : State} {m : MethodId} {args : Array Value} {below : List Frame} {meth : Method} {c : Code} {E : Ev} (o_r : Int32) (X : Cxt p s m args meth c cX5_commonDivisor 6 wsX5_commonDivisor RX5 (some .int)) (hw : wd E [] s s.heap) : ∀ (n : Nat) (v2 : Int32) (v3 : Int32) (v4 : Int32), f_X5_commonDivisor_7 n v2 v3 v4 = some o_r → ∀ (ls : Array Slot), lv_has ls 6 [(2, .int v2), (3, .int v3), (4, .int v4)] → W p l e { frames := 0, cells := 0, slots := 0, locals := 0 } s m args below meth c s.heap [] 0 0 (MQ below (Qr (some (.int o_r))) args s 0 0 (fun _ => False)) (F0 m 7 ls []) := by
  intro n
  induction n with
  | zero =>
    intro v2 v3 v4 h
    exact (rk_z _ _ h).elim
  | succ n ih =>
    intro v2 v3 v4 h ls hl
    exact w_X5_commonDivisor_7_b     o_r X hw  (rk (fun k x => f_X5_commonDivisor_7_b   k (x.1) (x.2.1) (x.2.2)) n) (fun v2 v3 v4 hh => ih v2 v3 v4 hh) v2 v3 v4 h hl
set_option maxHeartbeats 4000000 in
set_option maxRecDepth 100000 in
theorem w_X5_commonDivisor {p : Program} {l : Launch} {e : Env} {s : State} {m : MethodId} {args : Array Value} {below : List Frame} {meth : Method} {c : Code} {E : Ev} (p1 : Int32) (p2 : Int32) (o_r : Int32) (X : Cxt p s m args meth c cX5_commonDivisor 6 wsX5_commonDivisor RX5 (some .int)) (hw : wd E [] s s.heap) (h : f_X5_commonDivisor p1 p2 = some o_r) {ls : Array Slot} (hl : lv_has ls 6 [(0, .int p1), (1, .int p2)]) : W p l e { frames := 0, cells := 0, slots := 0, locals := 0 } s m args below meth c s.heap [] 0 0 (MQ below (Qr (some (.int o_r))) args s 0 0 (fun _ => False)) (F0 m 0 ls []) := by
  obtain ⟨⟨hx, hb, hml, hown, hts⟩, hr, hlocks⟩ := id X
  obtain ⟨hC, hP⟩ := id hw
  unfold f_X5_commonDivisor at h
  refine lv_iload_n hx hb dX5_commonDivisor_0 rfl (lv_at hl 0 rfl) ?_
  refine lv_istore_n (lv' := [(2, .int p1), (0, .int p1), (1, .int p2)]) hx hb dX5_commonDivisor_1 rfl hl (by decide) rfl (fun ls hl => ?_)
  refine lv_iload_n hx hb dX5_commonDivisor_2 rfl (lv_at hl 2 rfl) ?_
  refine lv_istore_n (lv' := [(3, .int p2), (2, .int p1), (0, .int p1), (1, .int p2)]) hx hb dX5_commonDivisor_3 rfl hl (by decide) rfl (fun ls hl => ?_)
  refine lv_iconst (v := 0) hx hb dX5_commonDivisor_4 (by decide) ?_
  refine lv_istore (lv' := [(4, .int 0), (3, .int p2), (2, .int p1), (0, .int p1), (1, .int p2)]) hx hb dX5_commonDivisor_5 hl (by decide) rfl (fun ls hl => ?_)
  exact w_X5_commonDivisor_7     o_r X hw  200 p1 p2 0 h ls (lv_sub hl [2, 1, 0] rfl)
set_option maxHeartbeats 4000000 in
set_option maxRecDepth 100000 in
theorem k_X5_commonDivisor {l : Launch} {E : Ev} (p1 : Int32) (p2 : Int32) (o_r : Int32) (hf : f_X5_commonDivisor p1 p2 = some o_r) : Met l yX5_commonDivisor wsX5_commonDivisor ({ frames := 0, cells := 0, slots := 0, locals := 0 }) (Pr E [.int p1, .int p2] []) (Qr (some (.int o_r))) 0 0 (fun _ => False) := by
  refine Met.ofW (cc := cX5_commonDivisor) (maxL := 6) (ret := (some .int)) (by decide) rfl ?_
  intro p e s m args below meth c s₁ B hml hv
  obtain ⟨rfl, hw⟩ := hv
  have X := Cxt.of B hml
  have hl := lv_entry ([.int p1, .int p2]) (n := 6) (Nat.le_of_ble_eq_true rfl)
  rw [lg_entry_eq]
  exact w_X5_commonDivisor   p1 p2 o_r X hw hf hl
set_option maxHeartbeats 4000000 in
set_option maxRecDepth 100000 in
theorem w_J6_bitCount_0f7a4 {p : Program} {l : Launch} {e : Env} {s : State} {m : MethodId} {args : Array Value} {below : List Frame} {meth : Method} {c : Code} {E : Ev} (p1 : Int32) (o_r : Int32) (X : Cxt p s m args meth c cJ6_bitCount_0f7a4 1 wsJ6_bitCount_0f7a4 RJ6 (some .int)) (hw : wd E [] s s.heap) (h : f_J6_bitCount_0f7a4 p1 = some o_r) {ls : Array Slot} (hl : lv_has ls 1 [(0, .int p1)]) : W p l e { frames := 0, cells := 0, slots := 0, locals := 0 } s m args below meth c s.heap [] 0 0 (MQ below (Qr (some (.int o_r))) args s 0 0 (fun _ => False)) (F0 m 0 ls []) := by
  obtain ⟨⟨hx, hb, hml, hown, hts⟩, hr, hlocks⟩ := id X
  obtain ⟨hC, hP⟩ := id hw
  unfold f_J6_bitCount_0f7a4 at h
  refine lv_iload_n hx hb dJ6_bitCount_0f7a4_0 rfl (lv_at hl 0 rfl) ?_
  refine lv_iload_n hx hb dJ6_bitCount_0f7a4_1 rfl (lv_at hl 0 rfl) ?_
  refine lv_iconst (v := 1) hx hb dJ6_bitCount_0f7a4_2 (by decide) ?_
  refine lv_iushr hx hb dJ6_bitCount_0f7a4_3 rfl ?_
  refine lv_ldcw (own := RJ6) (v := 1431655765) hx hb hown (hts (.constant RJ6 265 1431655765) (by decide +kernel)) dJ6_bitCount_0f7a4_4 ?_
  refine lv_iand hx hb dJ6_bitCount_0f7a4_7 ?_
  refine lv_isub hx hb dJ6_bitCount_0f7a4_8 ?_
  obtain ⟨z1, g1, h⟩ := bnd h
  refine lv_topi (fun y1 ey1 => ?_)
  obtain rfl : y1 = z1 := ey1.trans (Option.some.inj g1)
  refine lv_istore_n (lv' := [(0, .int y1)]) hx hb dJ6_bitCount_0f7a4_9 rfl hl (by decide) rfl (fun ls hl => ?_)
  refine lv_iload_n hx hb dJ6_bitCount_0f7a4_10 rfl (lv_at hl 0 rfl) ?_
  refine lv_ldcw (own := RJ6) (v := 858993459) hx hb hown (hts (.constant RJ6 266 858993459) (by decide +kernel)) dJ6_bitCount_0f7a4_11 ?_
  refine lv_iand hx hb dJ6_bitCount_0f7a4_14 ?_
  refine lv_iload_n hx hb dJ6_bitCount_0f7a4_15 rfl (lv_at hl 0 rfl) ?_
  refine lv_iconst (v := 2) hx hb dJ6_bitCount_0f7a4_16 (by decide) ?_
  refine lv_iushr hx hb dJ6_bitCount_0f7a4_17 rfl ?_
  refine lv_ldcw (own := RJ6) (v := 858993459) hx hb hown (hts (.constant RJ6 266 858993459) (by decide +kernel)) dJ6_bitCount_0f7a4_18 ?_
  refine lv_iand hx hb dJ6_bitCount_0f7a4_21 ?_
  refine lv_iadd hx hb dJ6_bitCount_0f7a4_22 ?_
  obtain ⟨z2, g2, h⟩ := bnd h
  refine lv_topi (fun y2 ey2 => ?_)
  obtain rfl : y2 = z2 := ey2.trans (Option.some.inj g2)
  refine lv_istore_n (lv' := [(0, .int y2)]) hx hb dJ6_bitCount_0f7a4_23 rfl hl (by decide) rfl (fun ls hl => ?_)
  refine lv_iload_n hx hb dJ6_bitCount_0f7a4_24 rfl (lv_at hl 0 rfl) ?_
  refine lv_iload_n hx hb dJ6_bitCount_0f7a4_25 rfl (lv_at hl 0 rfl) ?_
  refine lv_iconst (v := 4) hx hb dJ6_bitCount_0f7a4_26 (by decide) ?_
  refine lv_iushr hx hb dJ6_bitCount_0f7a4_27 rfl ?_
  refine lv_iadd hx hb dJ6_bitCount_0f7a4_28 ?_
  refine lv_ldcw (own := RJ6) (v := 252645135) hx hb hown (hts (.constant RJ6 267 252645135) (by decide +kernel)) dJ6_bitCount_0f7a4_29 ?_
  refine lv_iand hx hb dJ6_bitCount_0f7a4_32 ?_
  obtain ⟨z3, g3, h⟩ := bnd h
  refine lv_topi (fun y3 ey3 => ?_)
  obtain rfl : y3 = z3 := ey3.trans (Option.some.inj g3)
  refine lv_istore_n (lv' := [(0, .int y3)]) hx hb dJ6_bitCount_0f7a4_33 rfl hl (by decide) rfl (fun ls hl => ?_)
  refine lv_iload_n hx hb dJ6_bitCount_0f7a4_34 rfl (lv_at hl 0 rfl) ?_
  refine lv_iload_n hx hb dJ6_bitCount_0f7a4_35 rfl (lv_at hl 0 rfl) ?_
  refine lv_bipush (v := 8) hx hb dJ6_bitCount_0f7a4_36 (by decide) ?_
  refine lv_iushr hx hb dJ6_bitCount_0f7a4_38 rfl ?_
  refine lv_iadd hx hb dJ6_bitCount_0f7a4_39 ?_
  obtain ⟨z4, g4, h⟩ := bnd h
  refine lv_topi (fun y4 ey4 => ?_)
  obtain rfl : y4 = z4 := ey4.trans (Option.some.inj g4)
  refine lv_istore_n (lv' := [(0, .int y4)]) hx hb dJ6_bitCount_0f7a4_40 rfl hl (by decide) rfl (fun ls hl => ?_)
  refine lv_iload_n hx hb dJ6_bitCount_0f7a4_41 rfl (lv_at hl 0 rfl) ?_
  refine lv_iload_n hx hb dJ6_bitCount_0f7a4_42 rfl (lv_at hl 0 rfl) ?_
  refine lv_bipush (v := 16) hx hb dJ6_bitCount_0f7a4_43 (by decide) ?_
  refine lv_iushr hx hb dJ6_bitCount_0f7a4_45 rfl ?_
  refine lv_iadd hx hb dJ6_bitCount_0f7a4_46 ?_
  obtain ⟨z5, g5, h⟩ := bnd h
  refine lv_topi (fun y5 ey5 => ?_)
  obtain rfl : y5 = z5 := ey5.trans (Option.some.inj g5)
  refine lv_istore_n (lv' := [(0, .int y5)]) hx hb dJ6_bitCount_0f7a4_47 rfl hl (by decide) rfl (fun ls hl => ?_)
  refine lv_iload_n hx hb dJ6_bitCount_0f7a4_48 rfl (lv_at hl 0 rfl) ?_
  refine lv_bipush (v := 63) hx hb dJ6_bitCount_0f7a4_49 (by decide) ?_
  refine lv_iand hx hb dJ6_bitCount_0f7a4_51 ?_
  exact W.iret hx hb hr (fun t ht _ => ⟨by cases h; rfl, ht⟩) (fun _ hq => absurd hq List.not_mem_nil) dJ6_bitCount_0f7a4_52
set_option maxHeartbeats 4000000 in
set_option maxRecDepth 100000 in
theorem k_J6_bitCount_0f7a4 {l : Launch} {E : Ev} (p1 : Int32) (o_r : Int32) (hf : f_J6_bitCount_0f7a4 p1 = some o_r) : Met l yJ6_bitCount_0f7a4 wsJ6_bitCount_0f7a4 ({ frames := 0, cells := 0, slots := 0, locals := 0 }) (Pr E [.int p1] []) (Qr (some (.int o_r))) 0 0 (fun _ => False) := by
  refine Met.ofW (cc := cJ6_bitCount_0f7a4) (maxL := 1) (ret := (some .int)) (by decide) rfl ?_
  intro p e s m args below meth c s₁ B hml hv
  obtain ⟨rfl, hw⟩ := hv
  have X := Cxt.of B hml
  have hl := lv_entry ([.int p1]) (n := 1) (Nat.le_of_ble_eq_true rfl)
  rw [lg_entry_eq]
  exact w_J6_bitCount_0f7a4   p1 o_r X hw hf hl
set_option maxHeartbeats 4000000 in
set_option maxRecDepth 100000 in
theorem w_J13_bitCount_95d88 {p : Program} {l : Launch} {e : Env} {s : State} {m : MethodId} {args : Array Value} {below : List Frame} {meth : Method} {c : Code} {E : Ev} (p1 : Int64) (o_r : Int32) (X : Cxt p s m args meth c cJ13_bitCount_95d88 2 wsJ13_bitCount_95d88 RJ13 (some .int)) (hw : wd E [] s s.heap) (h : f_J13_bitCount_95d88 p1 = some o_r) {ls : Array Slot} (hl : lv_has ls 2 [(0, .long p1)]) : W p l e { frames := 0, cells := 0, slots := 0, locals := 0 } s m args below meth c s.heap [] 0 0 (MQ below (Qr (some (.int o_r))) args s 0 0 (fun _ => False)) (F0 m 0 ls []) := by
  obtain ⟨⟨hx, hb, hml, hown, hts⟩, hr, hlocks⟩ := id X
  obtain ⟨hC, hP⟩ := id hw
  unfold f_J13_bitCount_95d88 at h
  refine lv_lload_n hx hb dJ13_bitCount_95d88_0 rfl (lv_at hl 0 rfl) ?_
  refine lv_lload_n hx hb dJ13_bitCount_95d88_1 rfl (lv_at hl 0 rfl) ?_
  refine lv_iconst (v := 1) hx hb dJ13_bitCount_95d88_2 (by decide) ?_
  refine lv_lushr hx hb dJ13_bitCount_95d88_3 rfl ?_
  refine lv_ldc2 (own := RJ13) (v := 6148914691236517205) hx hb hown (hts (.constantLong RJ13 314 6148914691236517205) (by decide +kernel)) dJ13_bitCount_95d88_4 ?_
  refine lv_land hx hb dJ13_bitCount_95d88_7 ?_
  refine lv_lsub hx hb dJ13_bitCount_95d88_8 ?_
  obtain ⟨z1, g1, h⟩ := bnd h
  refine lv_topl (fun y1 ey1 => ?_)
  obtain rfl : y1 = z1 := ey1.trans (Option.some.inj g1)
  refine lv_lstore_n (lv' := [(0, .long y1)]) hx hb dJ13_bitCount_95d88_9 rfl hl (by decide) rfl (fun ls hl => ?_)
  refine lv_lload_n hx hb dJ13_bitCount_95d88_10 rfl (lv_at hl 0 rfl) ?_
  refine lv_ldc2 (own := RJ13) (v := 3689348814741910323) hx hb hown (hts (.constantLong RJ13 316 3689348814741910323) (by decide +kernel)) dJ13_bitCount_95d88_11 ?_
  refine lv_land hx hb dJ13_bitCount_95d88_14 ?_
  refine lv_lload_n hx hb dJ13_bitCount_95d88_15 rfl (lv_at hl 0 rfl) ?_
  refine lv_iconst (v := 2) hx hb dJ13_bitCount_95d88_16 (by decide) ?_
  refine lv_lushr hx hb dJ13_bitCount_95d88_17 rfl ?_
  refine lv_ldc2 (own := RJ13) (v := 3689348814741910323) hx hb hown (hts (.constantLong RJ13 316 3689348814741910323) (by decide +kernel)) dJ13_bitCount_95d88_18 ?_
  refine lv_land hx hb dJ13_bitCount_95d88_21 ?_
  refine lv_ladd hx hb dJ13_bitCount_95d88_22 ?_
  obtain ⟨z2, g2, h⟩ := bnd h
  refine lv_topl (fun y2 ey2 => ?_)
  obtain rfl : y2 = z2 := ey2.trans (Option.some.inj g2)
  refine lv_lstore_n (lv' := [(0, .long y2)]) hx hb dJ13_bitCount_95d88_23 rfl hl (by decide) rfl (fun ls hl => ?_)
  refine lv_lload_n hx hb dJ13_bitCount_95d88_24 rfl (lv_at hl 0 rfl) ?_
  refine lv_lload_n hx hb dJ13_bitCount_95d88_25 rfl (lv_at hl 0 rfl) ?_
  refine lv_iconst (v := 4) hx hb dJ13_bitCount_95d88_26 (by decide) ?_
  refine lv_lushr hx hb dJ13_bitCount_95d88_27 rfl ?_
  refine lv_ladd hx hb dJ13_bitCount_95d88_28 ?_
  refine lv_ldc2 (own := RJ13) (v := 1085102592571150095) hx hb hown (hts (.constantLong RJ13 318 1085102592571150095) (by decide +kernel)) dJ13_bitCount_95d88_29 ?_
  refine lv_land hx hb dJ13_bitCount_95d88_32 ?_
  obtain ⟨z3, g3, h⟩ := bnd h
  refine lv_topl (fun y3 ey3 => ?_)
  obtain rfl : y3 = z3 := ey3.trans (Option.some.inj g3)
  refine lv_lstore_n (lv' := [(0, .long y3)]) hx hb dJ13_bitCount_95d88_33 rfl hl (by decide) rfl (fun ls hl => ?_)
  refine lv_lload_n hx hb dJ13_bitCount_95d88_34 rfl (lv_at hl 0 rfl) ?_
  refine lv_lload_n hx hb dJ13_bitCount_95d88_35 rfl (lv_at hl 0 rfl) ?_
  refine lv_bipush (v := 8) hx hb dJ13_bitCount_95d88_36 (by decide) ?_
  refine lv_lushr hx hb dJ13_bitCount_95d88_38 rfl ?_
  refine lv_ladd hx hb dJ13_bitCount_95d88_39 ?_
  obtain ⟨z4, g4, h⟩ := bnd h
  refine lv_topl (fun y4 ey4 => ?_)
  obtain rfl : y4 = z4 := ey4.trans (Option.some.inj g4)
  refine lv_lstore_n (lv' := [(0, .long y4)]) hx hb dJ13_bitCount_95d88_40 rfl hl (by decide) rfl (fun ls hl => ?_)
  refine lv_lload_n hx hb dJ13_bitCount_95d88_41 rfl (lv_at hl 0 rfl) ?_
  refine lv_lload_n hx hb dJ13_bitCount_95d88_42 rfl (lv_at hl 0 rfl) ?_
  refine lv_bipush (v := 16) hx hb dJ13_bitCount_95d88_43 (by decide) ?_
  refine lv_lushr hx hb dJ13_bitCount_95d88_45 rfl ?_
  refine lv_ladd hx hb dJ13_bitCount_95d88_46 ?_
  obtain ⟨z5, g5, h⟩ := bnd h
  refine lv_topl (fun y5 ey5 => ?_)
  obtain rfl : y5 = z5 := ey5.trans (Option.some.inj g5)
  refine lv_lstore_n (lv' := [(0, .long y5)]) hx hb dJ13_bitCount_95d88_47 rfl hl (by decide) rfl (fun ls hl => ?_)
  refine lv_lload_n hx hb dJ13_bitCount_95d88_48 rfl (lv_at hl 0 rfl) ?_
  refine lv_lload_n hx hb dJ13_bitCount_95d88_49 rfl (lv_at hl 0 rfl) ?_
  refine lv_bipush (v := 32) hx hb dJ13_bitCount_95d88_50 (by decide) ?_
  refine lv_lushr hx hb dJ13_bitCount_95d88_52 rfl ?_
  refine lv_ladd hx hb dJ13_bitCount_95d88_53 ?_
  obtain ⟨z6, g6, h⟩ := bnd h
  refine lv_topl (fun y6 ey6 => ?_)
  obtain rfl : y6 = z6 := ey6.trans (Option.some.inj g6)
  refine lv_lstore_n (lv' := [(0, .long y6)]) hx hb dJ13_bitCount_95d88_54 rfl hl (by decide) rfl (fun ls hl => ?_)
  refine lv_lload_n hx hb dJ13_bitCount_95d88_55 rfl (lv_at hl 0 rfl) ?_
  refine lv_l2i hx hb dJ13_bitCount_95d88_56 rfl ?_
  refine lv_bipush (v := 127) hx hb dJ13_bitCount_95d88_57 (by decide) ?_
  refine lv_iand hx hb dJ13_bitCount_95d88_59 ?_
  exact W.iret hx hb hr (fun t ht _ => ⟨by cases h; rfl, ht⟩) (fun _ hq => absurd hq List.not_mem_nil) dJ13_bitCount_95d88_60
set_option maxHeartbeats 4000000 in
set_option maxRecDepth 100000 in
theorem k_J13_bitCount_95d88 {l : Launch} {E : Ev} (p1 : Int64) (o_r : Int32) (hf : f_J13_bitCount_95d88 p1 = some o_r) : Met l yJ13_bitCount_95d88 wsJ13_bitCount_95d88 ({ frames := 0, cells := 0, slots := 0, locals := 0 }) (Pr E [.long p1] []) (Qr (some (.int o_r))) 0 0 (fun _ => False) := by
  refine Met.ofW (cc := cJ13_bitCount_95d88) (maxL := 2) (ret := (some .int)) (by decide) rfl ?_
  intro p e s m args below meth c s₁ B hml hv
  obtain ⟨rfl, hw⟩ := hv
  have X := Cxt.of B hml
  have hl := lv_entry ([.long p1]) (n := 2) (Nat.le_of_ble_eq_true rfl)
  rw [lg_entry_eq]
  exact w_J13_bitCount_95d88   p1 o_r X hw hf hl
set_option maxHeartbeats 4000000 in
set_option maxRecDepth 100000 in
theorem w_X5_put {p : Program} {l : Launch} {e : Env} {s : State} {m : MethodId} {args : Array Value} {below : List Frame} {meth : Method} {c : Code} {E : Ev} {A : Nat → Prop} (a_p1 : Nat) (n_p1 : Nat) (r_p1 : Nat → Int32) (p2 : Int32) (p3 : Int32) (o_r_p1 : Nat → Int32) (X : Cxt p s m args meth c cX5_put 3 wsX5_put RX5 none) (hw : Cw E A s [(a_p1, .inl (E.2.1, n_p1, .inl r_p1))]) (h : f_X5_put n_p1 r_p1 p2 p3 = some o_r_p1) {H : Heap} {locs : List Loc} (hP : va_P E.1 vwCl [(a_p1, .inl (E.2.1, n_p1, .inl r_p1))] H) (hS : va_S A s.heap H locs) {ls : Array Slot} (hl : lv_has ls 3 [(0, .ref a_p1), (1, .int p2), (2, .int p3)]) : W p l e { frames := 0, cells := 0, slots := 0, locals := 0 } s m args below meth c H locs 0 0 (MQ below (Qw E none [(a_p1, .inl (E.2.1, n_p1, .inl o_r_p1))] A) args s 0 0 A) (F0 m 0 ls []) := by
  obtain ⟨⟨hx, hb, hml, hown, hts⟩, hr, hlocks⟩ := id X
  obtain ⟨hC, hAB, hA, hB, hD⟩ := id hw
  have hK := hC.1
  unfold f_X5_put at h
  refine lv_iload_n hx hb dX5_put_0 rfl (lv_at hl 1 rfl) ?_
  refine lv_if_lt (tgt := 14) hx hb dX5_put_1 (by decide) (fun c1 => ?_) (fun c1 => ?_)
  · have h := ifp c1 h
    exact W.vret hx hb hr (fun t ht _ => ⟨by cases h; rfl, by rw [ht]; cases h; exact hP, hS.F ht⟩) hS.2.2 dX5_put_14
  · have h := ifn c1 h
    refine lv_iload_n hx hb dX5_put_4 rfl (lv_at hl 1 rfl) ?_
    refine lv_aload_n hx hb dX5_put_5 rfl (lv_at hl 0 rfl) ?_
    refine va_alen (v := (Int32.ofNat n_p1)) hx hb hK hP 0 0 rfl rfl rfl dX5_put_6 ?_
    refine lv_icmp_ge (tgt := 14) hx hb dX5_put_7 (by decide) (fun c2 => ?_) (fun c2 => ?_)
    · have h := ifp c2 h
      exact W.vret hx hb hr (fun t ht _ => ⟨by cases h; rfl, by rw [ht]; cases h; exact hP, hS.F ht⟩) hS.2.2 dX5_put_14
    · have h := ifn c2 h
      refine lv_aload_n hx hb dX5_put_10 rfl (lv_at hl 0 rfl) ?_
      refine lv_iload_n hx hb dX5_put_11 rfl (lv_at hl 1 rfl) ?_
      refine lv_iload_n hx hb dX5_put_12 rfl (lv_at hl 2 rfl) ?_
      obtain ⟨b3, h⟩ := gdn h
      refine va_iast hx hb hK hP (hD.adr rfl) hS 0 0 rfl rfl b3 dX5_put_13 (fun H locs hP _ hS => ?_)
      have hP : va_P E.1 vwCl [(a_p1, .inl (E.2.1, n_p1, .inl (upd r_p1 (Int32.toNatClampNeg p2) p3)))] H := hP
      exact W.vret hx hb hr (fun t ht _ => ⟨by cases h; rfl, by rw [ht]; cases h; exact hP, hS.F ht⟩) hS.2.2 dX5_put_14
set_option maxHeartbeats 4000000 in
set_option maxRecDepth 100000 in
theorem k_X5_put {l : Launch} {E : Ev} (a_p1 : Nat) (n_p1 : Nat) (r_p1 : Nat → Int32) (p2 : Int32) (p3 : Int32) (sz : Nat) (o_r_p1 : Nat → Int32) (hf : f_X5_put n_p1 r_p1 p2 p3 = some o_r_p1) : Met l yX5_put wsX5_put ({ frames := 0, cells := 0, slots := 0, locals := 0 }) (Pw E [.ref a_p1, .int p2, .int p3] [(a_p1, .inl (E.2.1, n_p1, .inl r_p1))] sz) (Qw E none [(a_p1, .inl (E.2.1, n_p1, .inl o_r_p1))] (va_A [(a_p1, .inl (E.2.1, n_p1, .inl r_p1))] sz)) 0 0 (va_A [(a_p1, .inl (E.2.1, n_p1, .inl r_p1))] sz) := by
  refine Met.ofW (cc := cX5_put) (maxL := 3) (ret := none) (by decide) rfl ?_
  intro p e s m args below meth c s₁ B hml hv
  obtain ⟨rfl, rfl, hw, hP⟩ := Pw.start hv
  have X := Cxt.of B hml
  have hl := lv_entry ([.ref a_p1, .int p2, .int p3]) (n := 3) (Nat.le_of_ble_eq_true rfl)
  rw [lg_entry_eq]
  exact w_X5_put a_p1 n_p1 r_p1 p2 p3 o_r_p1 X hw hf hP va_S.rf hl
set_option maxHeartbeats 4000000 in
set_option maxRecDepth 100000 in
theorem w_X5_copyRow_2_b {p : Program} {l : Launch} {e : Env} {s : State} {m : MethodId} {args : Array Value} {below : List Frame} {meth : Method} {c : Code} {E : Ev} {A : Nat → Prop} (a_p1 a_p2 : Nat) (n_p1 : Nat) (r_p1 : Nat → Int32) (n_p2 : Nat) (r_p2 : Nat → Int32) (o_r_p2 : Nat → Int32) (X : Cxt p s m args meth c cX5_copyRow 3 wsX5_copyRow RX5 none) (hw : Cw E A s [(a_p1, .inl (E.2.1, n_p1, .inl r_p1)), (a_p2, .inl (E.2.1, n_p2, .inl r_p2))]) (k2 : (Nat → Int32) × Int32 → Option ((Nat → Int32))) (hk2 : ∀ (r_p2 : Nat → Int32) (v2 : Int32), k2 (r_p2, v2) = some o_r_p2 → ∀ (H : Heap) (locs : List Loc), va_P E.1 vwCl [(a_p1, .inl (E.2.1, n_p1, .inl r_p1)), (a_p2, .inl (E.2.1, n_p2, .inl r_p2))] H → va_S A s.heap H locs → ∀ (ls : Array Slot), lv_has ls 3 [(0, .ref a_p1), (1, .ref a_p2), (2, .int v2)] → W p l e { frames := 0, cells := 0, slots := 0, locals := 0 } s m args below meth c H locs 0 0 (MQ below (Qw E none [(a_p1, .inl (E.2.1, n_p1, .inl r_p1)), (a_p2, .inl (E.2.1, n_p2, .inl o_r_p2))] A) args s 0 0 A) (F0 m 2 ls [])) (v2 : Int32) (h : f_X5_copyRow_2_b n_p1 r_p1 n_p2 k2 r_p2 v2 = some o_r_p2) {H : Heap} {locs : List Loc} (hP : va_P E.1 vwCl [(a_p1, .inl (E.2.1, n_p1, .inl r_p1)), (a_p2, .inl (E.2.1, n_p2, .inl r_p2))] H) (hS : va_S A s.heap H locs) {ls : Array Slot} (hl : lv_has ls 3 [(0, .ref a_p1), (1, .ref a_p2), (2, .int v2)]) : W p l e { frames := 0, cells := 0, slots := 0, locals := 0 } s m args below meth c H locs 0 0 (MQ below (Qw E none [(a_p1, .inl (E.2.1, n_p1, .inl r_p1)), (a_p2, .inl (E.2.1, n_p2, .inl o_r_p2))] A) args s 0 0 A) (F0 m 2 ls []) := by
  obtain ⟨⟨hx, hb, hml, hown, hts⟩, hr, hlocks⟩ := id X
  obtain ⟨hC, hAB, hA, hB, hD⟩ := id hw
  have hK := hC.1
  unfold f_X5_copyRow_2_b at h
  refine lv_iload_n hx hb dX5_copyRow_2 rfl (lv_at hl 2 rfl) ?_
  refine lv_aload_n hx hb dX5_copyRow_3 rfl (lv_at hl 0 rfl) ?_
  refine va_alen (v := (Int32.ofNat n_p1)) hx hb hK hP 0 0 rfl rfl rfl dX5_copyRow_4 ?_
  refine lv_icmp_ge (tgt := 26) hx hb dX5_copyRow_5 (by decide) (fun c1 => ?_) (fun c1 => ?_)
  · have h := ifp c1 h
    exact W.vret hx hb hr (fun t ht _ => ⟨by cases h; rfl, by rw [ht]; cases h; exact hP, hS.F ht⟩) hS.2.2 dX5_copyRow_26
  · have h := ifn c1 h
    refine lv_iload_n hx hb dX5_copyRow_8 rfl (lv_at hl 2 rfl) ?_
    refine lv_aload_n hx hb dX5_copyRow_9 rfl (lv_at hl 1 rfl) ?_
    refine va_alen (v := (Int32.ofNat n_p2)) hx hb hK hP 1 0 rfl rfl rfl dX5_copyRow_10 ?_
    refine lv_icmp_ge (tgt := 26) hx hb dX5_copyRow_11 (by decide) (fun c2 => ?_) (fun c2 => ?_)
    · have h := ifp c2 h
      exact W.vret hx hb hr (fun t ht _ => ⟨by cases h; rfl, by rw [ht]; cases h; exact hP, hS.F ht⟩) hS.2.2 dX5_copyRow_26
    · have h := ifn c2 h
      refine lv_aload_n hx hb dX5_copyRow_14 rfl (lv_at hl 1 rfl) ?_
      refine lv_iload_n hx hb dX5_copyRow_15 rfl (lv_at hl 2 rfl) ?_
      refine lv_aload_n hx hb dX5_copyRow_16 rfl (lv_at hl 0 rfl) ?_
      refine lv_iload_n hx hb dX5_copyRow_17 rfl (lv_at hl 2 rfl) ?_
      obtain ⟨b3, h⟩ := gdn h
      refine va_iald hx hb hK hP 0 0 rfl rfl b3 dX5_copyRow_18 ?_
      obtain ⟨b4, h⟩ := gdn h
      refine va_iast hx hb hK hP (hD.adr rfl) hS 1 0 rfl rfl b4 dX5_copyRow_19 (fun H locs hP _ hS => ?_)
      have hP : va_P E.1 vwCl [(a_p1, .inl (E.2.1, n_p1, .inl r_p1)), (a_p2, .inl (E.2.1, n_p2, .inl (upd r_p2 (Int32.toNatClampNeg v2) (r_p1 (Int32.toNatClampNeg v2)))))] H := hP
      refine lv_iinc (v := (v2 + 1)) (lv' := [(2, .int (v2 + 1)), (0, .ref a_p1), (1, .ref a_p2)]) hx hb dX5_copyRow_20 hl (k := 2) rfl rfl (by decide) rfl (fun ls hl => ?_)
      refine lv_goto (tgt := 2) hx hb dX5_copyRow_23 (by decide) ?_
      exact hk2 (upd r_p2 (Int32.toNatClampNeg v2) (r_p1 (Int32.toNatClampNeg v2))) (v2 + 1) h H locs hP hS ls (lv_sub hl [1, 2, 0] rfl)
set_option maxHeartbeats 4000000 in
set_option maxRecDepth 100000 in
theorem w_X5_copyRow_2 {p : Program} {l : Launch} {e : Env} {s : State} {m : MethodId} {args : Array Value} {below : List Frame} {meth : Method} {c : Code} {E : Ev} {A : Nat → Prop} (a_p1 a_p2 : Nat) (n_p1 : Nat) (r_p1 : Nat → Int32) (n_p2 : Nat) (r_p2 : Nat → Int32) (o_r_p2 : Nat → Int32) (X : Cxt p s m args meth c cX5_copyRow 3 wsX5_copyRow RX5 none) (hw : Cw E A s [(a_p1, .inl (E.2.1, n_p1, .inl r_p1)), (a_p2, .inl (E.2.1, n_p2, .inl r_p2))]) : ∀ (n : Nat) (r_p2 : Nat → Int32) (v2 : Int32), f_X5_copyRow_2 n_p1 r_p1 n_p2 n r_p2 v2 = some o_r_p2 → ∀ (H : Heap) (locs : List Loc), va_P E.1 vwCl [(a_p1, .inl (E.2.1, n_p1, .inl r_p1)), (a_p2, .inl (E.2.1, n_p2, .inl r_p2))] H → va_S A s.heap H locs → ∀ (ls : Array Slot), lv_has ls 3 [(0, .ref a_p1), (1, .ref a_p2), (2, .int v2)] → W p l e { frames := 0, cells := 0, slots := 0, locals := 0 } s m args below meth c H locs 0 0 (MQ below (Qw E none [(a_p1, .inl (E.2.1, n_p1, .inl r_p1)), (a_p2, .inl (E.2.1, n_p2, .inl o_r_p2))] A) args s 0 0 A) (F0 m 2 ls []) := by
  intro n
  induction n with
  | zero =>
    intro r_p2 v2 h
    exact (rk_z _ _ h).elim
  | succ n ih =>
    intro r_p2 v2 h H locs hP hS ls hl
    exact w_X5_copyRow_2_b a_p1 a_p2 n_p1 r_p1 n_p2 r_p2   o_r_p2 X (hw.adr rfl)  (rk (fun k x => f_X5_copyRow_2_b n_p1 r_p1 n_p2  k (x.1) (x.2)) n) (fun r_p2 v2 hh => ih r_p2 v2 hh) v2 h hP hS hl
set_option maxHeartbeats 4000000 in
set_option maxRecDepth 100000 in
theorem w_X5_copyRow {p : Program} {l : Launch} {e : Env} {s : State} {m : MethodId} {args : Array Value} {below : List Frame} {meth : Method} {c : Code} {E : Ev} {A : Nat → Prop} (a_p1 a_p2 : Nat) (n_p1 : Nat) (r_p1 : Nat → Int32) (n_p2 : Nat) (r_p2 : Nat → Int32) (o_r_p2 : Nat → Int32) (X : Cxt p s m args meth c cX5_copyRow 3 wsX5_copyRow RX5 none) (hw : Cw E A s [(a_p1, .inl (E.2.1, n_p1, .inl r_p1)), (a_p2, .inl (E.2.1, n_p2, .inl r_p2))]) (h : f_X5_copyRow n_p1 r_p1 n_p2 r_p2 = some o_r_p2) {H : Heap} {locs : List Loc} (hP : va_P E.1 vwCl [(a_p1, .inl (E.2.1, n_p1, .inl r_p1)), (a_p2, .inl (E.2.1, n_p2, .inl r_p2))] H) (hS : va_S A s.heap H locs) {ls : Array Slot} (hl : lv_has ls 3 [(0, .ref a_p1), (1, .ref a_p2)]) : W p l e { frames := 0, cells := 0, slots := 0, locals := 0 } s m args below meth c H locs 0 0 (MQ below (Qw E none [(a_p1, .inl (E.2.1, n_p1, .inl r_p1)), (a_p2, .inl (E.2.1, n_p2, .inl o_r_p2))] A) args s 0 0 A) (F0 m 0 ls []) := by
  obtain ⟨⟨hx, hb, hml, hown, hts⟩, hr, hlocks⟩ := id X
  obtain ⟨hC, hAB, hA, hB, hD⟩ := id hw
  have hK := hC.1
  unfold f_X5_copyRow at h
  refine lv_iconst (v := 0) hx hb dX5_copyRow_0 (by decide) ?_
  refine lv_istore_n (lv' := [(2, .int 0), (0, .ref a_p1), (1, .ref a_p2)]) hx hb dX5_copyRow_1 rfl hl (by decide) rfl (fun ls hl => ?_)
  exact w_X5_copyRow_2 a_p1 a_p2 n_p1 r_p1 n_p2 r_p2   o_r_p2 X (hw.adr rfl)  200 r_p2 0 h H locs hP hS ls (lv_sub hl [1, 2, 0] rfl)
set_option maxHeartbeats 4000000 in
set_option maxRecDepth 100000 in
theorem k_X5_copyRow {l : Launch} {E : Ev} (a_p1 a_p2 : Nat) (n_p1 : Nat) (r_p1 : Nat → Int32) (n_p2 : Nat) (r_p2 : Nat → Int32) (sz : Nat) (o_r_p2 : Nat → Int32) (hf : f_X5_copyRow n_p1 r_p1 n_p2 r_p2 = some o_r_p2) : Met l yX5_copyRow wsX5_copyRow ({ frames := 0, cells := 0, slots := 0, locals := 0 }) (Pw E [.ref a_p1, .ref a_p2] [(a_p1, .inl (E.2.1, n_p1, .inl r_p1)), (a_p2, .inl (E.2.1, n_p2, .inl r_p2))] sz) (Qw E none [(a_p1, .inl (E.2.1, n_p1, .inl r_p1)), (a_p2, .inl (E.2.1, n_p2, .inl o_r_p2))] (va_A [(a_p1, .inl (E.2.1, n_p1, .inl r_p1)), (a_p2, .inl (E.2.1, n_p2, .inl r_p2))] sz)) 0 0 (va_A [(a_p1, .inl (E.2.1, n_p1, .inl r_p1)), (a_p2, .inl (E.2.1, n_p2, .inl r_p2))] sz) := by
  refine Met.ofW (cc := cX5_copyRow) (maxL := 3) (ret := none) (by decide) rfl ?_
  intro p e s m args below meth c s₁ B hml hv
  obtain ⟨rfl, rfl, hw, hP⟩ := Pw.start hv
  have X := Cxt.of B hml
  have hl := lv_entry ([.ref a_p1, .ref a_p2]) (n := 3) (Nat.le_of_ble_eq_true rfl)
  rw [lg_entry_eq]
  exact w_X5_copyRow a_p1 a_p2 n_p1 r_p1 n_p2 r_p2  o_r_p2 X hw hf hP va_S.rf hl
set_option maxHeartbeats 4000000 in
set_option maxRecDepth 100000 in
theorem w_X0_forgetFirst_2_b {p : Program} {l : Launch} {e : Env} {s : State} {m : MethodId} {args : Array Value} {below : List Frame} {meth : Method} {c : Code} {E : Ev} {A : Nat → Prop} (a_p1 : Nat) (n_p1 : Nat) (r_p1 : Nat → Int32) (o_r_p1 : Nat → Int32) (X : Cxt p s m args meth c cX0_forgetFirst 2 wsX0_forgetFirst RX0 none) (hw : Cw E A s [(a_p1, .inl (E.2.1, n_p1, .inl r_p1))]) (k2 : (Nat → Int32) × Int32 → Option ((Nat → Int32))) (hk2 : ∀ (r_p1 : Nat → Int32) (v1 : Int32), k2 (r_p1, v1) = some o_r_p1 → ∀ (H : Heap) (locs : List Loc), va_P E.1 vwCl [(a_p1, .inl (E.2.1, n_p1, .inl r_p1))] H → va_S A s.heap H locs → ∀ (ls : Array Slot), lv_has ls 2 [(0, .ref a_p1), (1, .int v1)] → W p l e { frames := 0, cells := 0, slots := 0, locals := 0 } s m args below meth c H locs 0 0 (MQ below (Qw E none [(a_p1, .inl (E.2.1, n_p1, .inl o_r_p1))] A) args s 0 0 A) (F0 m 2 ls [])) (v1 : Int32) (h : f_X0_forgetFirst_2_b n_p1 k2 r_p1 v1 = some o_r_p1) {H : Heap} {locs : List Loc} (hP : va_P E.1 vwCl [(a_p1, .inl (E.2.1, n_p1, .inl r_p1))] H) (hS : va_S A s.heap H locs) {ls : Array Slot} (hl : lv_has ls 2 [(0, .ref a_p1), (1, .int v1)]) : W p l e { frames := 0, cells := 0, slots := 0, locals := 0 } s m args below meth c H locs 0 0 (MQ below (Qw E none [(a_p1, .inl (E.2.1, n_p1, .inl o_r_p1))] A) args s 0 0 A) (F0 m 2 ls []) := by
  obtain ⟨⟨hx, hb, hml, hown, hts⟩, hr, hlocks⟩ := id X
  obtain ⟨hC, hAB, hA, hB, hD⟩ := id hw
  have hK := hC.1
  unfold f_X0_forgetFirst_2_b at h
  refine lv_iload_n hx hb dX0_forgetFirst_2 rfl (lv_at hl 1 rfl) ?_
  refine lv_aload_n hx hb dX0_forgetFirst_3 rfl (lv_at hl 0 rfl) ?_
  refine va_alen (v := (Int32.ofNat n_p1)) hx hb hK hP 0 0 rfl rfl rfl dX0_forgetFirst_4 ?_
  refine lv_icmp_ge (tgt := 22) hx hb dX0_forgetFirst_5 (by decide) (fun c1 => ?_) (fun c1 => ?_)
  · have h := ifp c1 h
    exact W.vret hx hb hr (fun t ht _ => ⟨by cases h; rfl, by rw [ht]; cases h; exact hP, hS.F ht⟩) hS.2.2 dX0_forgetFirst_22
  · have h := ifn c1 h
    refine lv_aload_n hx hb dX0_forgetFirst_8 rfl (lv_at hl 0 rfl) ?_
    refine lv_iload_n hx hb dX0_forgetFirst_9 rfl (lv_at hl 1 rfl) ?_
    refine lv_iconst (v := 1) hx hb dX0_forgetFirst_10 (by decide) ?_
    refine lv_isub hx hb dX0_forgetFirst_11 ?_
    refine lv_aload_n hx hb dX0_forgetFirst_12 rfl (lv_at hl 0 rfl) ?_
    refine lv_iload_n hx hb dX0_forgetFirst_13 rfl (lv_at hl 1 rfl) ?_
    obtain ⟨b2, h⟩ := gdn h
    refine va_iald hx hb hK hP 0 0 rfl rfl b2 dX0_forgetFirst_14 ?_
    obtain ⟨b3, h⟩ := gdn h
    refine va_iast hx hb hK hP (hD.adr rfl) hS 0 0 rfl rfl b3 dX0_forgetFirst_15 (fun H locs hP _ hS => ?_)
    have hP : va_P E.1 vwCl [(a_p1, .inl (E.2.1, n_p1, .inl (upd r_p1 (Int32.toNatClampNeg (v1 - 1)) (r_p1 (Int32.toNatClampNeg v1)))))] H := hP
    refine lv_iinc (v := (v1 + 1)) (lv' := [(1, .int (v1 + 1)), (0, .ref a_p1)]) hx hb dX0_forgetFirst_16 hl (k := 1) rfl rfl (by decide) rfl (fun ls hl => ?_)
    refine lv_goto (tgt := 2) hx hb dX0_forgetFirst_19 (by decide) ?_
    exact hk2 (upd r_p1 (Int32.toNatClampNeg (v1 - 1)) (r_p1 (Int32.toNatClampNeg v1))) (v1 + 1) h H locs hP hS ls (lv_sub hl [1, 0] rfl)
set_option maxHeartbeats 4000000 in
set_option maxRecDepth 100000 in
theorem w_X0_forgetFirst_2 {p : Program} {l : Launch} {e : Env} {s : State} {m : MethodId} {args : Array Value} {below : List Frame} {meth : Method} {c : Code} {E : Ev} {A : Nat → Prop} (a_p1 : Nat) (n_p1 : Nat) (r_p1 : Nat → Int32) (o_r_p1 : Nat → Int32) (X : Cxt p s m args meth c cX0_forgetFirst 2 wsX0_forgetFirst RX0 none) (hw : Cw E A s [(a_p1, .inl (E.2.1, n_p1, .inl r_p1))]) : ∀ (n : Nat) (r_p1 : Nat → Int32) (v1 : Int32), f_X0_forgetFirst_2 n_p1 n r_p1 v1 = some o_r_p1 → ∀ (H : Heap) (locs : List Loc), va_P E.1 vwCl [(a_p1, .inl (E.2.1, n_p1, .inl r_p1))] H → va_S A s.heap H locs → ∀ (ls : Array Slot), lv_has ls 2 [(0, .ref a_p1), (1, .int v1)] → W p l e { frames := 0, cells := 0, slots := 0, locals := 0 } s m args below meth c H locs 0 0 (MQ below (Qw E none [(a_p1, .inl (E.2.1, n_p1, .inl o_r_p1))] A) args s 0 0 A) (F0 m 2 ls []) := by
  intro n
  induction n with
  | zero =>
    intro r_p1 v1 h
    exact (rk_z _ _ h).elim
  | succ n ih =>
    intro r_p1 v1 h H locs hP hS ls hl
    exact w_X0_forgetFirst_2_b a_p1 n_p1 r_p1   o_r_p1 X (hw.adr rfl)  (rk (fun k x => f_X0_forgetFirst_2_b n_p1  k (x.1) (x.2)) n) (fun r_p1 v1 hh => ih r_p1 v1 hh) v1 h hP hS hl
set_option maxHeartbeats 4000000 in
set_option maxRecDepth 100000 in
theorem w_X0_forgetFirst {p : Program} {l : Launch} {e : Env} {s : State} {m : MethodId} {args : Array Value} {below : List Frame} {meth : Method} {c : Code} {E : Ev} {A : Nat → Prop} (a_p1 : Nat) (n_p1 : Nat) (r_p1 : Nat → Int32) (o_r_p1 : Nat → Int32) (X : Cxt p s m args meth c cX0_forgetFirst 2 wsX0_forgetFirst RX0 none) (hw : Cw E A s [(a_p1, .inl (E.2.1, n_p1, .inl r_p1))]) (h : f_X0_forgetFirst n_p1 r_p1 = some o_r_p1) {H : Heap} {locs : List Loc} (hP : va_P E.1 vwCl [(a_p1, .inl (E.2.1, n_p1, .inl r_p1))] H) (hS : va_S A s.heap H locs) {ls : Array Slot} (hl : lv_has ls 2 [(0, .ref a_p1)]) : W p l e { frames := 0, cells := 0, slots := 0, locals := 0 } s m args below meth c H locs 0 0 (MQ below (Qw E none [(a_p1, .inl (E.2.1, n_p1, .inl o_r_p1))] A) args s 0 0 A) (F0 m 0 ls []) := by
  obtain ⟨⟨hx, hb, hml, hown, hts⟩, hr, hlocks⟩ := id X
  obtain ⟨hC, hAB, hA, hB, hD⟩ := id hw
  have hK := hC.1
  unfold f_X0_forgetFirst at h
  refine lv_iconst (v := 1) hx hb dX0_forgetFirst_0 (by decide) ?_
  refine lv_istore_n (lv' := [(1, .int 1), (0, .ref a_p1)]) hx hb dX0_forgetFirst_1 rfl hl (by decide) rfl (fun ls hl => ?_)
  exact w_X0_forgetFirst_2 a_p1 n_p1 r_p1   o_r_p1 X (hw.adr rfl)  200 r_p1 1 h H locs hP hS ls (lv_sub hl [1, 0] rfl)
set_option maxHeartbeats 4000000 in
set_option maxRecDepth 100000 in
theorem k_X0_forgetFirst {l : Launch} {E : Ev} (a_p1 : Nat) (n_p1 : Nat) (r_p1 : Nat → Int32) (sz : Nat) (o_r_p1 : Nat → Int32) (hf : f_X0_forgetFirst n_p1 r_p1 = some o_r_p1) : Met l yX0_forgetFirst wsX0_forgetFirst ({ frames := 0, cells := 0, slots := 0, locals := 0 }) (Pw E [.ref a_p1] [(a_p1, .inl (E.2.1, n_p1, .inl r_p1))] sz) (Qw E none [(a_p1, .inl (E.2.1, n_p1, .inl o_r_p1))] (va_A [(a_p1, .inl (E.2.1, n_p1, .inl r_p1))] sz)) 0 0 (va_A [(a_p1, .inl (E.2.1, n_p1, .inl r_p1))] sz) := by
  refine Met.ofW (cc := cX0_forgetFirst) (maxL := 2) (ret := none) (by decide) rfl ?_
  intro p e s m args below meth c s₁ B hml hv
  obtain ⟨rfl, rfl, hw, hP⟩ := Pw.start hv
  have X := Cxt.of B hml
  have hl := lv_entry ([.ref a_p1]) (n := 2) (Nat.le_of_ble_eq_true rfl)
  rw [lg_entry_eq]
  exact w_X0_forgetFirst a_p1 n_p1 r_p1  o_r_p1 X hw hf hP va_S.rf hl
set_option maxHeartbeats 4000000 in
set_option maxRecDepth 100000 in
theorem k_X5_slotOf {l : Launch} {E : Ev} (a_t a_t_letters a_t_parser a_t_house a_t_now a_t_spare a_t_acts a_t_slotZero a_t_slotOne : Nat) (x_t_length : Int32) (x_t_seedNow : Int64) (p1 : Int32) : Met l yX5_slotOf wsX5_slotOf ({ frames := 0, cells := 0, slots := 0, locals := 0 }) (Pr E [.ref a_t, .int p1] [(a_t, .inr (5, [.ref a_t_letters, .int x_t_length, .ref a_t_parser, .ref a_t_house, .ref a_t_now, .ref a_t_spare, .ref a_t_acts, .ref a_t_slotZero, .ref a_t_slotOne, .long x_t_seedNow]))]) (Qr (some (if p1 = 0 then .ref a_t_slotZero else if p1 = 1 then .ref a_t_slotOne else .null))) 0 0 (fun _ => False) := by
  refine Met.ofW (cc := cX5_slotOf) (maxL := 2) (ret := (some (.object "CasketLines$Slot"))) (by decide) rfl ?_
  intro p e s m args below meth c s₁ B hml hv
  obtain ⟨rfl, hw⟩ := hv
  have X := Cxt.of B hml
  obtain ⟨⟨hx, hb, hml, hown, hts⟩, hr, hlocks⟩ := id X
  obtain ⟨hC, hP⟩ := id hw
  have hK := hC.1
  have hiX5 : ∀ w ∈ u_ws RX5 TX5 10, w ∈ wsX5_slotOf := by decide +kernel
  have hl := lv_entry ([.ref a_t, .int p1]) (n := 2) (Nat.le_of_ble_eq_true rfl)
  rw [lg_entry_eq]
  generalize (lg_sl ([.ref a_t, .int p1]) ++ List.replicate (2 - (lg_sl ([.ref a_t, .int p1])).length) Slot.unset).toArray = ls at hl ⊢
  have hl : lv_has ls 2 [(0, .ref a_t), (1, .int p1)] := hl
  refine lv_iload_n hx hb dX5_slotOf_0 rfl (lv_at hl 1 rfl) ?_
  refine lv_if_ne (tgt := 9) hx hb dX5_slotOf_1 (by decide) (fun c1 => ?_) (fun c1 => ?_)
  · refine lv_iload_n hx hb dX5_slotOf_9 rfl (lv_at hl 1 rfl) ?_
    refine lv_iconst (v := 1) hx hb dX5_slotOf_10 (by decide) ?_
    refine lv_icmp_ne (tgt := 21) hx hb dX5_slotOf_11 (by decide) (fun c2 => ?_) (fun c2 => ?_)
    · refine lv_null hx hb dX5_slotOf_21 ?_
      exact W.aret hx hb hr (Or.inl ⟨_, rfl⟩) (Or.inl rfl) (fun t ht _ => ⟨by rw [if_neg c1, if_neg c2], ht⟩) (fun _ hq => absurd hq List.not_mem_nil) dX5_slotOf_22
    · refine lv_aload_n hx hb dX5_slotOf_14 rfl (lv_at hl 0 rfl) ?_
      refine va_get (D := E.1) (ci := 5) (v := .ref a_t_slotOne) (C := RX5) (T := TX5) (N := 10) hx hb hts hiX5 hown hK hP 0 rfl rfl 8 (by decide) (hts (.fieldLink RX5 51 "CasketLines" "slotOne" "LCasketLines$Slot;") (by decide +kernel)) (fun _ h9 => h9) rfl dX5_slotOf_15 ?_
      refine lv_goto (tgt := 22) hx hb dX5_slotOf_18 (by decide) ?_
      exact W.aret hx hb hr (Or.inl ⟨_, rfl⟩) (Or.inr ⟨_, rfl⟩) (fun t ht _ => ⟨by rw [if_neg c1, if_pos c2], ht⟩) (fun _ hq => absurd hq List.not_mem_nil) dX5_slotOf_22
  · refine lv_aload_n hx hb dX5_slotOf_4 rfl (lv_at hl 0 rfl) ?_
    refine va_get (D := E.1) (ci := 5) (v := .ref a_t_slotZero) (C := RX5) (T := TX5) (N := 10) hx hb hts hiX5 hown hK hP 0 rfl rfl 7 (by decide) (hts (.fieldLink RX5 47 "CasketLines" "slotZero" "LCasketLines$Slot;") (by decide +kernel)) (fun _ h9 => h9) rfl dX5_slotOf_5 ?_
    exact W.aret hx hb hr (Or.inl ⟨_, rfl⟩) (Or.inr ⟨_, rfl⟩) (fun t ht _ => ⟨by rw [if_pos c1], ht⟩) (fun _ hq => absurd hq List.not_mem_nil) dX5_slotOf_8
