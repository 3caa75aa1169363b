set_option maxHeartbeats 4000000 in
set_option maxRecDepth 100000 in
theorem w_X6_in {p : Program} {l : Launch} {e : Env} {s : State} {m : MethodId} {args : Array Value} {below : List Frame} {meth : Method} {c : Code} {E : Ev} (p1 : Int64) (p2 : Int64) (p3 : Int64) (o_r : Int32) (X : Cxt p s m args meth c cX6_in 6 wsX6_in RX6 (some .boolean)) (hw : wd E [] s s.heap) (h : f_X6_in p1 p2 p3 = some o_r) {ls : Array Slot} (hl : lv_has ls 6 [(0, .long p1), (2, .long p2), (4, .long p3)]) : W p l e { frames := 0, cells := 0, slots := 0, locals := 0 } s m args below meth c s.heap [] 0 0 (MQ below (Qr (some (.int o_r))) args s 0 0 (fun _ => False)) (F0 m 0 ls []) := by
  obtain ⟨⟨hx, hb, hml, hown, hts⟩, hr, hlocks⟩ := id X
  obtain ⟨hC, hP⟩ := id hw
  unfold f_X6_in at h
  refine lv_lload_n hx hb dX6_in_0 rfl (lv_at hl 0 rfl) ?_
  refine lv_lload_n hx hb dX6_in_1 rfl (lv_at hl 1 rfl) ?_
  refine W.lcmp hx hb dX6_in_2 ?_
  refine lv_if_lt (tgt := 17) hx hb dX6_in_3 (by decide) (fun c1 => ?_) (fun c1 => ?_)
  · have h := ifp c1 h
    refine lv_iconst (v := 0) hx hb dX6_in_17 (by decide) ?_
    exact W.zret hx hb hr rfl (fun t ht _ => ⟨by cases h; rfl, ht⟩) (fun _ hq => absurd hq List.not_mem_nil) dX6_in_18
  · have h := ifn c1 h
    refine lv_lload_n hx hb dX6_in_6 rfl (lv_at hl 0 rfl) ?_
    refine lv_lload hx hb dX6_in_7 (lv_at hl 2 rfl) ?_
    refine W.lcmp hx hb dX6_in_9 ?_
    refine lv_if_gt (tgt := 17) hx hb dX6_in_10 (by decide) (fun c2 => ?_) (fun c2 => ?_)
    · have h := ifp c2 h
      refine lv_iconst (v := 0) hx hb dX6_in_17 (by decide) ?_
      exact W.zret hx hb hr rfl (fun t ht _ => ⟨by cases h; rfl, ht⟩) (fun _ hq => absurd hq List.not_mem_nil) dX6_in_18
    · have h := ifn c2 h
      refine lv_iconst (v := 1) hx hb dX6_in_13 (by decide) ?_
      refine lv_goto (tgt := 18) hx hb dX6_in_14 (by decide) ?_
      exact W.zret hx hb hr rfl (fun t ht _ => ⟨by cases h; rfl, ht⟩) (fun _ hq => absurd hq List.not_mem_nil) dX6_in_18
set_option maxHeartbeats 4000000 in
set_option maxRecDepth 100000 in
theorem k_X6_in {l : Launch} {E : Ev} (p1 : Int64) (p2 : Int64) (p3 : Int64) (o_r : Int32) (hf : f_X6_in p1 p2 p3 = some o_r) : Met l yX6_in wsX6_in ({ frames := 0, cells := 0, slots := 0, locals := 0 }) (Pr E [.long p1, .long p2, .long p3] []) (Qr (some (.int o_r))) 0 0 (fun _ => False) := by
  refine Met.ofW (cc := cX6_in) (maxL := 6) (ret := (some .boolean)) (by decide) rfl ?_
  intro p e s m args below meth c s₁ B hml hv
  obtain ⟨rfl, hw⟩ := hv
  have X := Cxt.of B hml
  have hl := lv_entry ([.long p1, .long p2, .long p3]) (n := 6) (Nat.le_of_ble_eq_true rfl)
  rw [lg_entry_eq]
  exact w_X6_in   p1 p2 p3 o_r X hw hf hl
set_option maxHeartbeats 4000000 in
set_option maxRecDepth 100000 in
theorem w_X6_has {p : Program} {l : Launch} {e : Env} {s : State} {m : MethodId} {args : Array Value} {below : List Frame} {meth : Method} {c : Code} {E : Ev} (p1 : Int32) (p2 : Int32) (o_r : Int32) (X : Cxt p s m args meth c cX6_has 2 wsX6_has RX6 (some .boolean)) (hw : wd E [] s s.heap) (h : f_X6_has p1 p2 = some o_r) {ls : Array Slot} (hl : lv_has ls 2 [(0, .int p1), (1, .int p2)]) : W p l e { frames := 0, cells := 0, slots := 0, locals := 0 } s m args below meth c s.heap [] 0 0 (MQ below (Qr (some (.int o_r))) args s 0 0 (fun _ => False)) (F0 m 0 ls []) := by
  obtain ⟨⟨hx, hb, hml, hown, hts⟩, hr, hlocks⟩ := id X
  obtain ⟨hC, hP⟩ := id hw
  unfold f_X6_has at h
  refine lv_iload_n hx hb dX6_has_0 rfl (lv_at hl 0 rfl) ?_
  refine lv_iload_n hx hb dX6_has_1 rfl (lv_at hl 1 rfl) ?_
  refine lv_ishr hx hb dX6_has_2 ?_
  refine lv_iconst (v := 1) hx hb dX6_has_3 (by decide) ?_
  refine lv_iand hx hb dX6_has_4 ?_
  refine lv_iconst (v := 1) hx hb dX6_has_5 (by decide) ?_
  refine lv_icmp_ne (tgt := 13) hx hb dX6_has_6 (by decide) (fun c1 => ?_) (fun c1 => ?_)
  · have h := ifn c1 h
    refine lv_iconst (v := 0) hx hb dX6_has_13 (by decide) ?_
    exact W.zret hx hb hr rfl (fun t ht _ => ⟨by cases h; rfl, ht⟩) (fun _ hq => absurd hq List.not_mem_nil) dX6_has_14
  · have h := ifp c1 h
    refine lv_iconst (v := 1) hx hb dX6_has_9 (by decide) ?_
    refine lv_goto (tgt := 14) hx hb dX6_has_10 (by decide) ?_
    exact W.zret hx hb hr rfl (fun t ht _ => ⟨by cases h; rfl, ht⟩) (fun _ hq => absurd hq List.not_mem_nil) dX6_has_14
set_option maxHeartbeats 4000000 in
set_option maxRecDepth 100000 in
theorem k_X6_has {l : Launch} {E : Ev} (p1 : Int32) (p2 : Int32) (o_r : Int32) (hf : f_X6_has p1 p2 = some o_r) : Met l yX6_has wsX6_has ({ frames := 0, cells := 0, slots := 0, locals := 0 }) (Pr E [.int p1, .int p2] []) (Qr (some (.int o_r))) 0 0 (fun _ => False) := by
  refine Met.ofW (cc := cX6_has) (maxL := 2) (ret := (some .boolean)) (by decide) rfl ?_
  intro p e s m args below meth c s₁ B hml hv
  obtain ⟨rfl, hw⟩ := hv
  have X := Cxt.of B hml
  have hl := lv_entry ([.int p1, .int p2]) (n := 2) (Nat.le_of_ble_eq_true rfl)
  rw [lg_entry_eq]
  exact w_X6_has   p1 p2 o_r X hw hf hl
set_option maxHeartbeats 4000000 in
set_option maxRecDepth 100000 in
theorem w_X6_ones_4_b {p : Program} {l : Launch} {e : Env} {s : State} {m : MethodId} {args : Array Value} {below : List Frame} {meth : Method} {c : Code} {E : Ev} (v0 : Int32) (o_r : Int32) (X : Cxt p s m args meth c cX6_ones 3 wsX6_ones RX6 (some .int)) (hw : wd E [] s s.heap) (k4 : Int32 × Int32 → Option (Int32)) (hk4 : ∀ (v1 : Int32) (v2 : Int32), k4 (v1, v2) = some o_r → ∀ (ls : Array Slot), lv_has ls 3 [(0, .int v0), (1, .int v1), (2, .int v2)] → W p l e { frames := 0, cells := 0, slots := 0, locals := 0 } s m args below meth c s.heap [] 0 0 (MQ below (Qr (some (.int o_r))) args s 0 0 (fun _ => False)) (F0 m 4 ls [])) (v1 : Int32) (v2 : Int32) (h : f_X6_ones_4_b v0 k4 v1 v2 = some o_r) {ls : Array Slot} (hl : lv_has ls 3 [(0, .int v0), (1, .int v1), (2, .int v2)]) : W p l e { frames := 0, cells := 0, slots := 0, locals := 0 } s m args below meth c s.heap [] 0 0 (MQ below (Qr (some (.int o_r))) args s 0 0 (fun _ => False)) (F0 m 4 ls []) := by
  obtain ⟨⟨hx, hb, hml, hown, hts⟩, hr, hlocks⟩ := id X
  obtain ⟨hC, hP⟩ := id hw
  unfold f_X6_ones_4_b at h
  refine lv_iload_n hx hb dX6_ones_4 rfl (lv_at hl 2 rfl) ?_
  refine lv_iconst (v := 4) hx hb dX6_ones_5 (by decide) ?_
  refine lv_icmp_ge (tgt := 23) hx hb dX6_ones_6 (by decide) (fun c1 => ?_) (fun c1 => ?_)
  · have h := ifp c1 h
    refine lv_iload_n hx hb dX6_ones_23 rfl (lv_at hl 1 rfl) ?_
    exact W.iret hx hb hr (fun t ht _ => ⟨by cases h; rfl, ht⟩) (fun _ hq => absurd hq List.not_mem_nil) dX6_ones_24
  · have h := ifn c1 h
    refine lv_iload_n hx hb dX6_ones_9 rfl (lv_at hl 1 rfl) ?_
    refine lv_iload_n hx hb dX6_ones_10 rfl (lv_at hl 0 rfl) ?_
    refine lv_iload_n hx hb dX6_ones_11 rfl (lv_at hl 2 rfl) ?_
    refine lv_ishr hx hb dX6_ones_12 ?_
    refine lv_iconst (v := 1) hx hb dX6_ones_13 (by decide) ?_
    refine lv_iand hx hb dX6_ones_14 ?_
    refine lv_iadd hx hb dX6_ones_15 ?_
    refine lv_istore_n (lv' := [(1, .int (v1 + ((v0 >>> (v2 &&& 31)) &&& 1))), (0, .int v0), (2, .int v2)]) hx hb dX6_ones_16 rfl hl (by decide) rfl (fun ls hl => ?_)
    refine lv_iinc (v := (v2 + 1)) (lv' := [(2, .int (v2 + 1)), (1, .int (v1 + ((v0 >>> (v2 &&& 31)) &&& 1))), (0, .int v0)]) hx hb dX6_ones_17 hl (k := 2) rfl rfl (by decide) rfl (fun ls hl => ?_)
    refine lv_goto (tgt := 4) hx hb dX6_ones_20 (by decide) ?_
    exact hk4 (v1 + ((v0 >>> (v2 &&& 31)) &&& 1)) (v2 + 1) h ls (lv_sub hl [2, 1, 0] rfl)
set_option maxHeartbeats 4000000 in
set_option maxRecDepth 100000 in
theorem w_X6_ones_4 {p : Program} {l : Launch} {e : Env} {s : State} {m : MethodId} {args : Array Value} {below : List Frame} {meth : Method} {c : Code} {E : Ev} (v0 : Int32) (o_r : Int32) (X : Cxt p s m args meth c cX6_ones 3 wsX6_ones RX6 (some .int)) (hw : wd E [] s s.heap) : ∀ (n : Nat) (v1 : Int32) (v2 : Int32), f_X6_ones_4 v0 n v1 v2 = some o_r → ∀ (ls : Array Slot), lv_has ls 3 [(0, .int v0), (1, .int v1), (2, .int v2)] → W p l e { frames := 0, cells := 0, slots := 0, locals := 0 } s m args below meth c s.heap [] 0 0 (MQ below (Qr (some (.int o_r))) args s 0 0 (fun _ => False)) (F0 m 4 ls []) := by
  intro n
  induction n with
  | zero =>
    intro v1 v2 h
    exact (rk_z _ _ h).elim
  | succ n ih =>
    intro v1 v2 h ls hl
    exact w_X6_ones_4_b   v0  o_r X hw  (rk (fun k x => f_X6_ones_4_b v0  k (x.1) (x.2)) n) (fun v1 v2 hh => ih v1 v2 hh) v1 v2 h hl
set_option maxHeartbeats 4000000 in
set_option maxRecDepth 100000 in
theorem w_X6_ones {p : Program} {l : Launch} {e : Env} {s : State} {m : MethodId} {args : Array Value} {below : List Frame} {meth : Method} {c : Code} {E : Ev} (p1 : Int32) (o_r : Int32) (X : Cxt p s m args meth c cX6_ones 3 wsX6_ones RX6 (some .int)) (hw : wd E [] s s.heap) (h : f_X6_ones p1 = some o_r) {ls : Array Slot} (hl : lv_has ls 3 [(0, .int p1)]) : W p l e { frames := 0, cells := 0, slots := 0, locals := 0 } s m args below meth c s.heap [] 0 0 (MQ below (Qr (some (.int o_r))) args s 0 0 (fun _ => False)) (F0 m 0 ls []) := by
  obtain ⟨⟨hx, hb, hml, hown, hts⟩, hr, hlocks⟩ := id X
  obtain ⟨hC, hP⟩ := id hw
  unfold f_X6_ones at h
  refine lv_iconst (v := 0) hx hb dX6_ones_0 (by decide) ?_
  refine lv_istore_n (lv' := [(1, .int 0), (0, .int p1)]) hx hb dX6_ones_1 rfl hl (by decide) rfl (fun ls hl => ?_)
  refine lv_iconst (v := 0) hx hb dX6_ones_2 (by decide) ?_
  refine lv_istore_n (lv' := [(2, .int 0), (1, .int 0), (0, .int p1)]) hx hb dX6_ones_3 rfl hl (by decide) rfl (fun ls hl => ?_)
  exact w_X6_ones_4   p1  o_r X hw  200 0 0 h ls (lv_sub hl [2, 1, 0] rfl)
set_option maxHeartbeats 4000000 in
set_option maxRecDepth 100000 in
theorem k_X6_ones {l : Launch} {E : Ev} (p1 : Int32) (o_r : Int32) (hf : f_X6_ones p1 = some o_r) : Met l yX6_ones wsX6_ones ({ frames := 0, cells := 0, slots := 0, locals := 0 }) (Pr E [.int p1] []) (Qr (some (.int o_r))) 0 0 (fun _ => False) := by
  refine Met.ofW (cc := cX6_ones) (maxL := 3) (ret := (some .int)) (by decide) rfl ?_
  intro p e s m args below meth c s₁ B hml hv
  obtain ⟨rfl, hw⟩ := hv
  have X := Cxt.of B hml
  have hl := lv_entry ([.int p1]) (n := 3) (Nat.le_of_ble_eq_true rfl)
  rw [lg_entry_eq]
  exact w_X6_ones   p1 o_r X hw hf hl
set_option maxHeartbeats 4000000 in
set_option maxRecDepth 100000 in
theorem w_X6_told {p : Program} {l : Launch} {e : Env} {s : State} {m : MethodId} {args : Array Value} {below : List Frame} {meth : Method} {c : Code} {E : Ev} (p1 : Int32) (o_r : Int32) (X : Cxt p s m args meth c cX6_told 1 wsX6_told RX6 (some .int)) (hw : wd E [] s s.heap) (h : f_X6_told p1 = some o_r) {ls : Array Slot} (hl : lv_has ls 1 [(0, .int p1)]) : W p l e { frames := 0, cells := 0, slots := 0, locals := 0 } s m args below meth c s.heap [] 0 0 (MQ below (Qr (some (.int o_r))) args s 0 0 (fun _ => False)) (F0 m 0 ls []) := by
  obtain ⟨⟨hx, hb, hml, hown, hts⟩, hr, hlocks⟩ := id X
  obtain ⟨hC, hP⟩ := id hw
  unfold f_X6_told at h
  refine lv_bipush (v := 100) hx hb dX6_told_0 (by decide) ?_
  refine lv_iload_n hx hb dX6_told_2 rfl (lv_at hl 0 rfl) ?_
  refine lv_bipush (v := 24) hx hb dX6_told_3 (by decide) ?_
  refine lv_idiv hx hb dX6_told_5 (by decide) ?_
  refine lv_imul hx hb dX6_told_6 ?_
  refine lv_bipush (v := 10) hx hb dX6_told_7 (by decide) ?_
  refine lv_iload_n hx hb dX6_told_9 rfl (lv_at hl 0 rfl) ?_
  refine lv_bipush (v := 24) hx hb dX6_told_10 (by decide) ?_
  refine lv_irem hx hb dX6_told_12 (by decide) ?_
  refine lv_iconst (v := 4) hx hb dX6_told_13 (by decide) ?_
  refine lv_idiv hx hb dX6_told_14 (by decide) ?_
  refine lv_imul hx hb dX6_told_15 ?_
  refine lv_iadd hx hb dX6_told_16 ?_
  refine lv_iload_n hx hb dX6_told_17 rfl (lv_at hl 0 rfl) ?_
  refine lv_iconst (v := 4) hx hb dX6_told_18 (by decide) ?_
  refine lv_irem hx hb dX6_told_19 (by decide) ?_
  refine lv_iadd hx hb dX6_told_20 ?_
  exact W.iret hx hb hr (fun t ht _ => ⟨by cases h; rfl, ht⟩) (fun _ hq => absurd hq List.not_mem_nil) dX6_told_21
set_option maxHeartbeats 4000000 in
set_option maxRecDepth 100000 in
theorem k_X6_told {l : Launch} {E : Ev} (p1 : Int32) (o_r : Int32) (hf : f_X6_told p1 = some o_r) : Met l yX6_told wsX6_told ({ frames := 0, cells := 0, slots := 0, locals := 0 }) (Pr E [.int p1] []) (Qr (some (.int o_r))) 0 0 (fun _ => False) := by
  refine Met.ofW (cc := cX6_told) (maxL := 1) (ret := (some .int)) (by decide) rfl ?_
  intro p e s m args below meth c s₁ B hml hv
  obtain ⟨rfl, hw⟩ := hv
  have X := Cxt.of B hml
  have hl := lv_entry ([.int p1]) (n := 1) (Nat.le_of_ble_eq_true rfl)
  rw [lg_entry_eq]
  exact w_X6_told   p1 o_r X hw hf hl
set_option maxHeartbeats 4000000 in
set_option maxRecDepth 100000 in
theorem w_X6_power_4_b {p : Program} {l : Launch} {e : Env} {s : State} {m : MethodId} {args : Array Value} {below : List Frame} {meth : Method} {c : Code} {E : Ev} (v0 : Int32) (v1 : Int32) (o_r : Int32) (X : Cxt p s m args meth c cX6_power 4 wsX6_power RX6 (some .int)) (hw : wd E [] s s.heap) (k4 : Int32 × Int32 → Option (Int32)) (hk4 : ∀ (v2 : Int32) (v3 : Int32), k4 (v2, v3) = some o_r → ∀ (ls : Array Slot), lv_has ls 4 [(0, .int v0), (1, .int v1), (2, .int v2), (3, .int v3)] → W p l e { frames := 0, cells := 0, slots := 0, locals := 0 } s m args below meth c s.heap [] 0 0 (MQ below (Qr (some (.int o_r))) args s 0 0 (fun _ => False)) (F0 m 4 ls [])) (v2 : Int32) (v3 : Int32) (h : f_X6_power_4_b v0 v1 k4 v2 v3 = some o_r) {ls : Array Slot} (hl : lv_has ls 4 [(0, .int v0), (1, .int v1), (2, .int v2), (3, .int v3)]) : W p l e { frames := 0, cells := 0, slots := 0, locals := 0 } s m args below meth c s.heap [] 0 0 (MQ below (Qr (some (.int o_r))) args s 0 0 (fun _ => False)) (F0 m 4 ls []) := by
  obtain ⟨⟨hx, hb, hml, hown, hts⟩, hr, hlocks⟩ := id X
  obtain ⟨hC, hP⟩ := id hw
  unfold f_X6_power_4_b at h
  refine lv_iload_n hx hb dX6_power_4 rfl (lv_at hl 3 rfl) ?_
  refine lv_iload_n hx hb dX6_power_5 rfl (lv_at hl 1 rfl) ?_
  refine lv_icmp_ge (tgt := 19) hx hb dX6_power_6 (by decide) (fun c1 => ?_) (fun c1 => ?_)
  · have h := ifp c1 h
    refine lv_iload_n hx hb dX6_power_19 rfl (lv_at hl 2 rfl) ?_
    exact W.iret hx hb hr (fun t ht _ => ⟨by cases h; rfl, ht⟩) (fun _ hq => absurd hq List.not_mem_nil) dX6_power_20
  · have h := ifn c1 h
    refine lv_iload_n hx hb dX6_power_9 rfl (lv_at hl 2 rfl) ?_
    refine lv_iload_n hx hb dX6_power_10 rfl (lv_at hl 0 rfl) ?_
    refine lv_imul hx hb dX6_power_11 ?_
    refine lv_istore_n (lv' := [(2, .int (v2 * v0)), (0, .int v0), (1, .int v1), (3, .int v3)]) hx hb dX6_power_12 rfl hl (by decide) rfl (fun ls hl => ?_)
    refine lv_iinc (v := (v3 + 1)) (lv' := [(3, .int (v3 + 1)), (2, .int (v2 * v0)), (0, .int v0), (1, .int v1)]) hx hb dX6_power_13 hl (k := 3) rfl rfl (by decide) rfl (fun ls hl => ?_)
    refine lv_goto (tgt := 4) hx hb dX6_power_16 (by decide) ?_
    exact hk4 (v2 * v0) (v3 + 1) h ls (lv_sub hl [2, 3, 1, 0] rfl)
set_option maxHeartbeats 4000000 in
set_option maxRecDepth 100000 in
theorem w_X6_power_4 {p : Program} {l : Launch} {e : Env} {s : State} {m : MethodId} {args : Array Value} {below : List Frame} {meth : Method} {c : Code} {E : Ev} (v0 : Int32) (v1 : Int32) (o_r : Int32) (X : Cxt p s m args meth c cX6_power 4 wsX6_power RX6 (some .int)) (hw : wd E [] s s.heap) : ∀ (n : Nat) (v2 : Int32) (v3 : Int32), f_X6_power_4 v0 v1 n v2 v3 = some o_r → ∀ (ls : Array Slot), lv_has ls 4 [(0, .int v0), (1, .int v1), (2, .int v2), (3, .int v3)] → W p l e { frames := 0, cells := 0, slots := 0, locals := 0 } s m args below meth c s.heap [] 0 0 (MQ below (Qr (some (.int o_r))) args s 0 0 (fun _ => False)) (F0 m 4 ls []) := by
  intro n
  induction n with
  | zero =>
    intro v2 v3 h
    exact (rk_z _ _ h).elim
  | succ n ih =>
    intro v2 v3 h ls hl
    exact w_X6_power_4_b   v0 v1  o_r X hw  (rk (fun k x => f_X6_power_4_b v0 v1  k (x.1) (x.2)) n) (fun v2 v3 hh => ih v2 v3 hh) v2 v3 h hl
set_option maxHeartbeats 4000000 in
set_option maxRecDepth 100000 in
theorem w_X6_power {p : Program} {l : Launch} {e : Env} {s : State} {m : MethodId} {args : Array Value} {below : List Frame} {meth : Method} {c : Code} {E : Ev} (p1 : Int32) (p2 : Int32) (o_r : Int32) (X : Cxt p s m args meth c cX6_power 4 wsX6_power RX6 (some .int)) (hw : wd E [] s s.heap) (h : f_X6_power p1 p2 = some o_r) {ls : Array Slot} (hl : lv_has ls 4 [(0, .int p1), (1, .int p2)]) : W p l e { frames := 0, cells := 0, slots := 0, locals := 0 } s m args below meth c s.heap [] 0 0 (MQ below (Qr (some (.int o_r))) args s 0 0 (fun _ => False)) (F0 m 0 ls []) := by
  obtain ⟨⟨hx, hb, hml, hown, hts⟩, hr, hlocks⟩ := id X
  obtain ⟨hC, hP⟩ := id hw
  unfold f_X6_power at h
  refine lv_iconst (v := 1) hx hb dX6_power_0 (by decide) ?_
  refine lv_istore_n (lv' := [(2, .int 1), (0, .int p1), (1, .int p2)]) hx hb dX6_power_1 rfl hl (by decide) rfl (fun ls hl => ?_)
  refine lv_iconst (v := 0) hx hb dX6_power_2 (by decide) ?_
  refine lv_istore_n (lv' := [(3, .int 0), (2, .int 1), (0, .int p1), (1, .int p2)]) hx hb dX6_power_3 rfl hl (by decide) rfl (fun ls hl => ?_)
  exact w_X6_power_4   p1 p2  o_r X hw  200 1 0 h ls (lv_sub hl [2, 3, 1, 0] rfl)
set_option maxHeartbeats 4000000 in
set_option maxRecDepth 100000 in
theorem k_X6_power {l : Launch} {E : Ev} (p1 : Int32) (p2 : Int32) (o_r : Int32) (hf : f_X6_power p1 p2 = some o_r) : Met l yX6_power wsX6_power ({ frames := 0, cells := 0, slots := 0, locals := 0 }) (Pr E [.int p1, .int p2] []) (Qr (some (.int o_r))) 0 0 (fun _ => False) := by
  refine Met.ofW (cc := cX6_power) (maxL := 4) (ret := (some .int)) (by decide) rfl ?_
  intro p e s m args below meth c s₁ B hml hv
  obtain ⟨rfl, hw⟩ := hv
  have X := Cxt.of B hml
  have hl := lv_entry ([.int p1, .int p2]) (n := 4) (Nat.le_of_ble_eq_true rfl)
  rw [lg_entry_eq]
  exact w_X6_power   p1 p2 o_r X hw hf hl
set_option maxHeartbeats 4000000 in
set_option maxRecDepth 100000 in
theorem w_X6_common_13_b {p : Program} {l : Launch} {e : Env} {s : State} {m : MethodId} {args : Array Value} {below : List Frame} {meth : Method} {c : Code} {E : Ev} (o_r : Int32) (X : Cxt p s m args meth c cX6_common 5 wsX6_common RX6 (some .int)) (hw : wd E [] s s.heap) (k13 : Int32 × Int32 → Option (Int32)) (hk13 : ∀ (v2 : Int32) (v3 : Int32), k13 (v2, v3) = some o_r → ∀ (ls : Array Slot), lv_has ls 5 [(2, .int v2), (3, .int v3)] → W p l e { frames := 0, cells := 0, slots := 0, locals := 0 } s m args below meth c s.heap [] 0 0 (MQ below (Qr (some (.int o_r))) args s 0 0 (fun _ => False)) (F0 m 13 ls [])) (v2 : Int32) (v3 : Int32) (h : f_X6_common_13_b k13 v2 v3 = some o_r) {ls : Array Slot} (hl : lv_has ls 5 [(2, .int v2), (3, .int v3)]) : W p l e { frames := 0, cells := 0, slots := 0, locals := 0 } s m args below meth c s.heap [] 0 0 (MQ below (Qr (some (.int o_r))) args s 0 0 (fun _ => False)) (F0 m 13 ls []) := by
  obtain ⟨⟨hx, hb, hml, hown, hts⟩, hr, hlocks⟩ := id X
  obtain ⟨hC, hP⟩ := id hw
  unfold f_X6_common_13_b at h
  refine lv_iload_n hx hb dX6_common_13 rfl (lv_at hl 1 rfl) ?_
  refine lv_if_eq (tgt := 30) hx hb dX6_common_14 (by decide) (fun c1 => ?_) (fun c1 => ?_)
  · have h := ifp c1 h
    refine lv_iload_n hx hb dX6_common_30 rfl (lv_at hl 0 rfl) ?_
    exact W.iret hx hb hr (fun t ht _ => ⟨by cases h; rfl, ht⟩) (fun _ hq => absurd hq List.not_mem_nil) dX6_common_31
  · have h := ifn c1 h
    refine lv_iload_n hx hb dX6_common_17 rfl (lv_at hl 0 rfl) ?_
    refine lv_iload_n hx hb dX6_common_18 rfl (lv_at hl 1 rfl) ?_
    obtain ⟨b2, h⟩ := gdn h
    refine lv_irem hx hb dX6_common_19 b2 ?_
    refine lv_istore (lv' := [(4, .int (v2 - v2 / v3 * v3)), (2, .int v2), (3, .int v3)]) hx hb dX6_common_20 hl (by decide) rfl (fun ls hl => ?_)
    refine lv_iload_n hx hb dX6_common_22 rfl (lv_at hl 2 rfl) ?_
    refine lv_istore_n (lv' := [(2, .int v3), (4, .int (v2 - v2 / v3 * v3)), (3, .int v3)]) hx hb dX6_common_23 rfl hl (by decide) rfl (fun ls hl => ?_)
    refine lv_iload hx hb dX6_common_24 (lv_at hl 1 rfl) ?_
    refine lv_istore_n (lv' := [(3, .int (v2 - v2 / v3 * v3)), (2, .int v3), (4, .int (v2 - v2 / v3 * v3))]) hx hb dX6_common_26 rfl hl (by decide) rfl (fun ls hl => ?_)
    refine lv_goto (tgt := 13) hx hb dX6_common_27 (by decide) ?_
    exact hk13 v3 (v2 - v2 / v3 * v3) h ls (lv_sub hl [1, 0] rfl)
set_option maxHeartbeats 4000000 in
set_option maxRecDepth 100000 in
theorem w_X6_common_13 {p : Program} {l : Launch} {e : Env} {s : State} {m : MethodId} {args : Array Value} {below : List Frame} {meth : Method} {c : Code} {E : Ev} (o_r : Int32) (X : Cxt p s m args meth c cX6_common 5 wsX6_common RX6 (some .int)) (hw : wd E [] s s.heap) : ∀ (n : Nat) (v2 : Int32) (v3 : Int32), f_X6_common_13 n v2 v3 = some o_r → ∀ (ls : Array Slot), lv_has ls 5 [(2, .int v2), (3, .int v3)] → W p l e { frames := 0, cells := 0, slots := 0, locals := 0 } s m args below meth c s.heap [] 0 0 (MQ below (Qr (some (.int o_r))) args s 0 0 (fun _ => False)) (F0 m 13 ls []) := by
  intro n
  induction n with
  | zero =>
    intro v2 v3 h
    exact (rk_z _ _ h).elim
  | succ n ih =>
    intro v2 v3 h ls hl
    exact w_X6_common_13_b     o_r X hw  (rk (fun k x => f_X6_common_13_b   k (x.1) (x.2)) n) (fun v2 v3 hh => ih v2 v3 hh) v2 v3 h hl
set_option maxHeartbeats 4000000 in
set_option maxRecDepth 100000 in
theorem w_X6_common {p : Program} {l : Launch} {e : Env} {s : State} {m : MethodId} {args : Array Value} {below : List Frame} {meth : Method} {c : Code} {E : Ev} (p1 : Int32) (p2 : Int32) (o_r : Int32) (X : Cxt p s m args meth c cX6_common 5 wsX6_common RX6 (some .int)) (hw : wd E [] s s.heap) (h : f_X6_common p1 p2 = some o_r) {ls : Array Slot} (hl : lv_has ls 5 [(0, .int p1), (1, .int p2)]) : W p l e { frames := 0, cells := 0, slots := 0, locals := 0 } s m args below meth c s.heap [] 0 0 (MQ below (Qr (some (.int o_r))) args s 0 0 (fun _ => False)) (F0 m 0 ls []) := by
  obtain ⟨⟨hx, hb, hml, hown, hts⟩, hr, hlocks⟩ := id X
  obtain ⟨hC, hP⟩ := id hw
  unfold f_X6_common at h
  refine lv_iload_n hx hb dX6_common_0 rfl (lv_at hl 0 rfl) ?_
  refine lv_if_ge (tgt := 9) hx hb dX6_common_1 (by decide) (fun c3 => ?_) (fun c3 => ?_)
  · have h := ifp c3 h
    refine lv_iload_n hx hb dX6_common_9 rfl (lv_at hl 0 rfl) ?_
    refine lv_istore_n (lv' := [(2, .int p1), (0, .int p1), (1, .int p2)]) hx hb dX6_common_10 rfl hl (by decide) rfl (fun ls hl => ?_)
    refine lv_iload_n hx hb dX6_common_11 rfl (lv_at hl 2 rfl) ?_
    refine lv_istore_n (lv' := [(3, .int p2), (2, .int p1), (0, .int p1), (1, .int p2)]) hx hb dX6_common_12 rfl hl (by decide) rfl (fun ls hl => ?_)
    exact w_X6_common_13     o_r X hw  200 p1 p2 h ls (lv_sub hl [1, 0] rfl)
  · have h := ifn c3 h
    refine lv_iload_n hx hb dX6_common_4 rfl (lv_at hl 0 rfl) ?_
    refine lv_ineg hx hb dX6_common_5 ?_
    refine lv_goto (tgt := 10) hx hb dX6_common_6 (by decide) ?_
    refine lv_istore_n (lv' := [(2, .int (-p1)), (0, .int p1), (1, .int p2)]) hx hb dX6_common_10 rfl hl (by decide) rfl (fun ls hl => ?_)
    refine lv_iload_n hx hb dX6_common_11 rfl (lv_at hl 2 rfl) ?_
    refine lv_istore_n (lv' := [(3, .int p2), (2, .int (-p1)), (0, .int p1), (1, .int p2)]) hx hb dX6_common_12 rfl hl (by decide) rfl (fun ls hl => ?_)
    exact w_X6_common_13     o_r X hw  200 (-p1) p2 h ls (lv_sub hl [1, 0] rfl)
set_option maxHeartbeats 4000000 in
set_option maxRecDepth 100000 in
theorem k_X6_common {l : Launch} {E : Ev} (p1 : Int32) (p2 : Int32) (o_r : Int32) (hf : f_X6_common p1 p2 = some o_r) : Met l yX6_common wsX6_common ({ frames := 0, cells := 0, slots := 0, locals := 0 }) (Pr E [.int p1, .int p2] []) (Qr (some (.int o_r))) 0 0 (fun _ => False) := by
  refine Met.ofW (cc := cX6_common) (maxL := 5) (ret := (some .int)) (by decide) rfl ?_
  intro p e s m args below meth c s₁ B hml hv
  obtain ⟨rfl, hw⟩ := hv
  have X := Cxt.of B hml
  have hl := lv_entry ([.int p1, .int p2]) (n := 5) (Nat.le_of_ble_eq_true rfl)
  rw [lg_entry_eq]
  exact w_X6_common   p1 p2 o_r X hw hf hl
set_option maxHeartbeats 4000000 in
set_option maxRecDepth 100000 in
theorem w_X6_tenTo {p : Program} {l : Launch} {e : Env} {s : State} {m : MethodId} {args : Array Value} {below : List Frame} {meth : Method} {c : Code} {E : Ev} (p1 : Int32) (o_r : Int32) (X : Cxt p s m args meth c cX6_tenTo 1 wsX6_tenTo RX6 (some .int)) (hw : wd E [] s s.heap) (h : f_X6_tenTo p1 = some o_r) {ls : Array Slot} (hl : lv_has ls 1 [(0, .int p1)]) : W p l e { frames := 1, cells := 0, slots := 0, locals := 23 } s m args below meth c s.heap [] 0 0 (MQ below (Qr (some (.int o_r))) args s 0 0 (fun _ => False)) (F0 m 0 ls []) := by
  obtain ⟨⟨hx, hb, hml, hown, hts⟩, hr, hlocks⟩ := id X
  obtain ⟨hC, hP⟩ := id hw
  unfold f_X6_tenTo at h
  refine lv_bipush (v := 10) hx hb dX6_tenTo_0 (by decide) ?_
  refine lv_iload_n hx hb dX6_tenTo_2 rfl (lv_at hl 0 rfl) ?_
  obtain ⟨r1, g2, h⟩ := bnd h
  refine rcS (As := [.int 10, .int p1]) (rest := []) ⟨hx, hb, hml, hown, hts⟩ (k_X6_power (l := l) (E := E) 10 p1 r1 g2) (va_cwS 2 hts gX6_tenTo_X6_power rfl rfl rfl (by decide +kernel) ⟨Nat.le_of_ble_eq_true rfl, Nat.le_of_ble_eq_true rfl⟩) hC hP [] rfl rfl hl.1 rfl (Nat.le_of_ble_eq_true rfl) dX6_tenTo_3 ⟨Nat.zero_le _, Nat.zero_le _⟩ ?_
  exact W.iret hx hb hr (fun t ht _ => ⟨by cases h; rfl, ht⟩) (fun _ hq => absurd hq List.not_mem_nil) dX6_tenTo_6
set_option maxHeartbeats 4000000 in
set_option maxRecDepth 100000 in
theorem k_X6_tenTo {l : Launch} {E : Ev} (p1 : Int32) (o_r : Int32) (hf : f_X6_tenTo p1 = some o_r) : Met l yX6_tenTo wsX6_tenTo ({ frames := 1, cells := 0, slots := 0, locals := 23 }) (Pr E [.int p1] []) (Qr (some (.int o_r))) 0 0 (fun _ => False) := by
  refine Met.ofW (cc := cX6_tenTo) (maxL := 1) (ret := (some .int)) (by decide) rfl ?_
  intro p e s m args below meth c s₁ B hml hv
  obtain ⟨rfl, hw⟩ := hv
  have X := Cxt.of B hml
  have hl := lv_entry ([.int p1]) (n := 1) (Nat.le_of_ble_eq_true rfl)
  rw [lg_entry_eq]
  exact w_X6_tenTo   p1 o_r X hw hf hl
set_option maxHeartbeats 4000000 in
set_option maxRecDepth 100000 in
theorem w_X6_factorial_4_b {p : Program} {l : Launch} {e : Env} {s : State} {m : MethodId} {args : Array Value} {below : List Frame} {meth : Method} {c : Code} {E : Ev} (v0 : Int32) (o_r : Int32) (X : Cxt p s m args meth c cX6_factorial 3 wsX6_factorial RX6 (some .int)) (hw : wd E [] s s.heap) (k4 : Int32 × Int32 → Option (Int32)) (hk4 : ∀ (v1 : Int32) (v2 : Int32), k4 (v1, v2) = some o_r → ∀ (ls : Array Slot), lv_has ls 3 [(0, .int v0), (1, .int v1), (2, .int v2)] → W p l e { frames := 0, cells := 0, slots := 0, locals := 0 } s m args below meth c s.heap [] 0 0 (MQ below (Qr (some (.int o_r))) args s 0 0 (fun _ => False)) (F0 m 4 ls [])) (v1 : Int32) (v2 : Int32) (h : f_X6_factorial_4_b v0 k4 v1 v2 = some o_r) {ls : Array Slot} (hl : lv_has ls 3 [(0, .int v0), (1, .int v1), (2, .int v2)]) : W p l e { frames := 0, cells := 0, slots := 0, locals := 0 } s m args below meth c s.heap [] 0 0 (MQ below (Qr (some (.int o_r))) args s 0 0 (fun _ => False)) (F0 m 4 ls []) := by
  obtain ⟨⟨hx, hb, hml, hown, hts⟩, hr, hlocks⟩ := id X
  obtain ⟨hC, hP⟩ := id hw
  unfold f_X6_factorial_4_b at h
  refine lv_iload_n hx hb dX6_factorial_4 rfl (lv_at hl 2 rfl) ?_
  refine lv_iload_n hx hb dX6_factorial_5 rfl (lv_at hl 0 rfl) ?_
  refine lv_icmp_gt (tgt := 19) hx hb dX6_factorial_6 (by decide) (fun c1 => ?_) (fun c1 => ?_)
  · have h := ifp c1 h
    refine lv_iload_n hx hb dX6_factorial_19 rfl (lv_at hl 1 rfl) ?_
    exact W.iret hx hb hr (fun t ht _ => ⟨by cases h; rfl, ht⟩) (fun _ hq => absurd hq List.not_mem_nil) dX6_factorial_20
  · have h := ifn c1 h
    refine lv_iload_n hx hb dX6_factorial_9 rfl (lv_at hl 1 rfl) ?_
    refine lv_iload_n hx hb dX6_factorial_10 rfl (lv_at hl 2 rfl) ?_
    refine lv_imul hx hb dX6_factorial_11 ?_
    refine lv_istore_n (lv' := [(1, .int (v1 * v2)), (0, .int v0), (2, .int v2)]) hx hb dX6_factorial_12 rfl hl (by decide) rfl (fun ls hl => ?_)
    refine lv_iinc (v := (v2 + 1)) (lv' := [(2, .int (v2 + 1)), (1, .int (v1 * v2)), (0, .int v0)]) hx hb dX6_factorial_13 hl (k := 2) rfl rfl (by decide) rfl (fun ls hl => ?_)
    refine lv_goto (tgt := 4) hx hb dX6_factorial_16 (by decide) ?_
    exact hk4 (v1 * v2) (v2 + 1) h ls (lv_sub hl [2, 1, 0] rfl)
set_option maxHeartbeats 4000000 in
set_option maxRecDepth 100000 in
theorem w_X6_factorial_4 {p : Program} {l : Launch} {e : Env} {s : State} {m : MethodId} {args : Array Value} {below : List Frame} {meth : Method} {c : Code} {E : Ev} (v0 : Int32) (o_r : Int32) (X : Cxt p s m args meth c cX6_factorial 3 wsX6_factorial RX6 (some .int)) (hw : wd E [] s s.heap) : ∀ (n : Nat) (v1 : Int32) (v2 : Int32), f_X6_factorial_4 v0 n v1 v2 = some o_r → ∀ (ls : Array Slot), lv_has ls 3 [(0, .int v0), (1, .int v1), (2, .int v2)] → W p l e { frames := 0, cells := 0, slots := 0, locals := 0 } s m args below meth c s.heap [] 0 0 (MQ below (Qr (some (.int o_r))) args s 0 0 (fun _ => False)) (F0 m 4 ls []) := by
  intro n
  induction n with
  | zero =>
    intro v1 v2 h
    exact (rk_z _ _ h).elim
  | succ n ih =>
    intro v1 v2 h ls hl
    exact w_X6_factorial_4_b   v0  o_r X hw  (rk (fun k x => f_X6_factorial_4_b v0  k (x.1) (x.2)) n) (fun v1 v2 hh => ih v1 v2 hh) v1 v2 h hl
set_option maxHeartbeats 4000000 in
set_option maxRecDepth 100000 in
theorem w_X6_factorial {p : Program} {l : Launch} {e : Env} {s : State} {m : MethodId} {args : Array Value} {below : List Frame} {meth : Method} {c : Code} {E : Ev} (p1 : Int32) (o_r : Int32) (X : Cxt p s m args meth c cX6_factorial 3 wsX6_factorial RX6 (some .int)) (hw : wd E [] s s.heap) (h : f_X6_factorial p1 = some o_r) {ls : Array Slot} (hl : lv_has ls 3 [(0, .int p1)]) : W p l e { frames := 0, cells := 0, slots := 0, locals := 0 } s m args below meth c s.heap [] 0 0 (MQ below (Qr (some (.int o_r))) args s 0 0 (fun _ => False)) (F0 m 0 ls []) := by
  obtain ⟨⟨hx, hb, hml, hown, hts⟩, hr, hlocks⟩ := id X
  obtain ⟨hC, hP⟩ := id hw
  unfold f_X6_factorial at h
  refine lv_iconst (v := 1) hx hb dX6_factorial_0 (by decide) ?_
  refine lv_istore_n (lv' := [(1, .int 1), (0, .int p1)]) hx hb dX6_factorial_1 rfl hl (by decide) rfl (fun ls hl => ?_)
  refine lv_iconst (v := 2) hx hb dX6_factorial_2 (by decide) ?_
  refine lv_istore_n (lv' := [(2, .int 2), (1, .int 1), (0, .int p1)]) hx hb dX6_factorial_3 rfl hl (by decide) rfl (fun ls hl => ?_)
  exact w_X6_factorial_4   p1  o_r X hw  200 1 2 h ls (lv_sub hl [2, 1, 0] rfl)
set_option maxHeartbeats 4000000 in
set_option maxRecDepth 100000 in
theorem k_X6_factorial {l : Launch} {E : Ev} (p1 : Int32) (o_r : Int32) (hf : f_X6_factorial p1 = some o_r) : Met l yX6_factorial wsX6_factorial ({ frames := 0, cells := 0, slots := 0, locals := 0 }) (Pr E [.int p1] []) (Qr (some (.int o_r))) 0 0 (fun _ => False) := by
  refine Met.ofW (cc := cX6_factorial) (maxL := 3) (ret := (some .int)) (by decide) rfl ?_
  intro p e s m args below meth c s₁ B hml hv
  obtain ⟨rfl, hw⟩ := hv
  have X := Cxt.of B hml
  have hl := lv_entry ([.int p1]) (n := 3) (Nat.le_of_ble_eq_true rfl)
  rw [lg_entry_eq]
  exact w_X6_factorial   p1 o_r X hw hf hl
set_option maxHeartbeats 4000000 in
set_option maxRecDepth 100000 in
theorem w_X6_all {p : Program} {l : Launch} {e : Env} {s : State} {m : MethodId} {args : Array Value} {below : List Frame} {meth : Method} {c : Code} {E : Ev} (a_t a_t_metal a_t_kind a_t_now a_t_readOf a_t_readKind a_t_text a_t_row a_t_nots a_t_isKept a_t_kept : Nat) (x_t_isTrue : Int32) (x_t_caskets : Int32) (x_t_wooers : Int32) (x_t_readTrue : Int32) (x_t_readCaskets : Int32) (x_t_readWooers : Int32) (x_t_readPicture : Int32) (x_t_length : Int32) (x_t_at : Int32) (x_t_faultAt : Int32) (x_t_acts : Int32) (x_t_next : Int32) (x_t_riddleMany : Int32) (x_t_seed : Int64) (o_r : Int32) (X : Cxt p s m args meth c cX6_all 1 wsX6_all RX6 (some .int)) (hw : wd E [(a_t, .inr (6, [.int x_t_isTrue, .int x_t_caskets, .int x_t_wooers, .ref a_t_metal, .ref a_t_kind, .ref a_t_now, .ref a_t_readOf, .ref a_t_readKind, .int x_t_readTrue, .int x_t_readCaskets, .int x_t_readWooers, .int x_t_readPicture, .ref a_t_text, .int x_t_length, .int x_t_at, .int x_t_faultAt, .int x_t_acts, .int x_t_next, .ref a_t_row, .int x_t_riddleMany, .ref a_t_nots, .long x_t_seed, .ref a_t_isKept, .ref a_t_kept]))] s s.heap) (h : f_X6_all x_t_caskets = some o_r) {ls : Array Slot} (hl : lv_has ls 1 [(0, .ref a_t)]) : W p l e { frames := 0, cells := 0, slots := 0, locals := 0 } s m args below meth c s.heap [] 0 0 (MQ below (Qr (some (.int o_r))) args s 0 0 (fun _ => False)) (F0 m 0 ls []) := by
  obtain ⟨⟨hx, hb, hml, hown, hts⟩, hr, hlocks⟩ := id X
  obtain ⟨hC, hP⟩ := id hw
  have hiX6 : ∀ w ∈ u_ws RX6 TX6 24, w ∈ wsX6_all := by decide +kernel
  have hK := hC.1
  unfold f_X6_all at h
  refine lv_iconst (v := 1) hx hb dX6_all_0 (by decide) ?_
  refine lv_aload_n hx hb dX6_all_1 rfl (lv_at hl 0 rfl) ?_
  refine va_get (D := E.1) (ci := 6) (v := .int x_t_caskets) (C := RX6) (T := TX6) (N := 24) hx hb hts hiX6 hown hK hP 0 rfl rfl 1 (by decide) (hts (.fieldLink RX6 90 "CasketLinesModel" "caskets" "I") (by decide +kernel)) (fun _ h9 => h9) rfl dX6_all_2 ?_
  refine lv_ishl hx hb dX6_all_5 ?_
  refine lv_iconst (v := 1) hx hb dX6_all_6 (by decide) ?_
  refine lv_isub hx hb dX6_all_7 ?_
  exact W.iret hx hb hr (fun t ht _ => ⟨by cases h; rfl, ht⟩) (fun _ hq => absurd hq List.not_mem_nil) dX6_all_8
set_option maxHeartbeats 4000000 in
set_option maxRecDepth 100000 in
theorem k_X6_all {l : Launch} {E : Ev} (a_t a_t_metal a_t_kind a_t_now a_t_readOf a_t_readKind a_t_text a_t_row a_t_nots a_t_isKept a_t_kept : Nat) (x_t_isTrue : Int32) (x_t_caskets : Int32) (x_t_wooers : Int32) (x_t_readTrue : Int32) (x_t_readCaskets : Int32) (x_t_readWooers : Int32) (x_t_readPicture : Int32) (x_t_length : Int32) (x_t_at : Int32) (x_t_faultAt : Int32) (x_t_acts : Int32) (x_t_next : Int32) (x_t_riddleMany : Int32) (x_t_seed : Int64) (o_r : Int32) (hf : f_X6_all x_t_caskets = some o_r) : Met l yX6_all wsX6_all ({ frames := 0, cells := 0, slots := 0, locals := 0 }) (Pr E [.ref a_t] [(a_t, .inr (6, [.int x_t_isTrue, .int x_t_caskets, .int x_t_wooers, .ref a_t_metal, .ref a_t_kind, .ref a_t_now, .ref a_t_readOf, .ref a_t_readKind, .int x_t_readTrue, .int x_t_readCaskets, .int x_t_readWooers, .int x_t_readPicture, .ref a_t_text, .int x_t_length, .int x_t_at, .int x_t_faultAt, .int x_t_acts, .int x_t_next, .ref a_t_row, .int x_t_riddleMany, .ref a_t_nots, .long x_t_seed, .ref a_t_isKept, .ref a_t_kept]))]) (Qr (some (.int o_r))) 0 0 (fun _ => False) := by
  refine Met.ofW (cc := cX6_all) (maxL := 1) (ret := (some .int)) (by decide) rfl ?_
  intro p e s m args below meth c s₁ B hml hv
  obtain ⟨rfl, hw⟩ := hv
  have X := Cxt.of B hml
  have hl := lv_entry ([.ref a_t]) (n := 1) (Nat.le_of_ble_eq_true rfl)
  rw [lg_entry_eq]
  exact w_X6_all a_t a_t_metal a_t_kind a_t_now a_t_readOf a_t_readKind a_t_text a_t_row a_t_nots a_t_isKept a_t_kept x_t_isTrue x_t_caskets x_t_wooers x_t_readTrue x_t_readCaskets x_t_readWooers x_t_readPicture x_t_length x_t_at x_t_faultAt x_t_acts x_t_next x_t_riddleMany x_t_seed  o_r X hw hf hl
set_option maxHeartbeats 4000000 in
set_option maxRecDepth 100000 in
theorem w_X6_isCasket {p : Program} {l : Launch} {e : Env} {s : State} {m : MethodId} {args : Array Value} {below : List Frame} {meth : Method} {c : Code} {E : Ev} (a_t a_t_metal a_t_kind a_t_now a_t_readOf a_t_readKind a_t_text a_t_row a_t_nots a_t_isKept a_t_kept : Nat) (x_t_isTrue : Int32) (x_t_caskets : Int32) (x_t_wooers : Int32) (x_t_readTrue : Int32) (x_t_readCaskets : Int32) (x_t_readWooers : Int32) (x_t_readPicture : Int32) (x_t_length : Int32) (x_t_at : Int32) (x_t_faultAt : Int32) (x_t_acts : Int32) (x_t_next : Int32) (x_t_riddleMany : Int32) (x_t_seed : Int64) (p1 : Int32) (o_r : Int32) (X : Cxt p s m args meth c cX6_isCasket 2 wsX6_isCasket RX6 (some .boolean)) (hw : wd E [(a_t, .inr (6, [.int x_t_isTrue, .int x_t_caskets, .int x_t_wooers, .ref a_t_metal, .ref a_t_kind, .ref a_t_now, .ref a_t_readOf, .ref a_t_readKind, .int x_t_readTrue, .int x_t_readCaskets, .int x_t_readWooers, .int x_t_readPicture, .ref a_t_text, .int x_t_length, .int x_t_at, .int x_t_faultAt, .int x_t_acts, .int x_t_next, .ref a_t_row, .int x_t_riddleMany, .ref a_t_nots, .long x_t_seed, .ref a_t_isKept, .ref a_t_kept]))] s s.heap) (h : f_X6_isCasket x_t_caskets p1 = some o_r) {ls : Array Slot} (hl : lv_has ls 2 [(0, .ref a_t), (1, .int p1)]) : W p l e { frames := 1, cells := 0, slots := 0, locals := 25 } s m args below meth c s.heap [] 0 0 (MQ below (Qr (some (.int o_r))) args s 0 0 (fun _ => False)) (F0 m 0 ls []) := by
  obtain ⟨⟨hx, hb, hml, hown, hts⟩, hr, hlocks⟩ := id X
  obtain ⟨hC, hP⟩ := id hw
  have hiX6 : ∀ w ∈ u_ws RX6 TX6 24, w ∈ wsX6_isCasket := by decide +kernel
  have hK := hC.1
  unfold f_X6_isCasket at h
  refine lv_iload_n hx hb dX6_isCasket_0 rfl (lv_at hl 1 rfl) ?_
  refine lv_i2l hx hb dX6_isCasket_1 rfl ?_
  refine lv_lconst (v := 0) hx hb dX6_isCasket_2 (by decide) ?_
  refine lv_aload_n hx hb dX6_isCasket_3 rfl (lv_at hl 0 rfl) ?_
  refine va_get (D := E.1) (ci := 6) (v := .int x_t_caskets) (C := RX6) (T := TX6) (N := 24) hx hb hts hiX6 hown hK hP 0 rfl rfl 1 (by decide) (hts (.fieldLink RX6 90 "CasketLinesModel" "caskets" "I") (by decide +kernel)) (fun _ h9 => h9) rfl dX6_isCasket_4 ?_
  refine lv_iconst (v := 1) hx hb dX6_isCasket_7 (by decide) ?_
  refine lv_isub hx hb dX6_isCasket_8 ?_
  refine lv_i2l hx hb dX6_isCasket_9 rfl ?_
  obtain ⟨r1, g2, h⟩ := bnd h
  refine rcS (As := [.long (Int32.toInt64 p1), .long 0, .long (Int32.toInt64 (x_t_caskets - 1))]) (rest := []) ⟨hx, hb, hml, hown, hts⟩ (k_X6_in (l := l) (E := E) (Int32.toInt64 p1) 0 (Int32.toInt64 (x_t_caskets - 1)) r1 g2) (va_cwS 3 hts gX6_isCasket_X6_in rfl rfl rfl (by decide +kernel) ⟨Nat.le_of_ble_eq_true rfl, Nat.le_of_ble_eq_true rfl⟩) hC hP [] rfl rfl hl.1 rfl (Nat.le_of_ble_eq_true rfl) dX6_isCasket_10 ⟨Nat.zero_le _, Nat.zero_le _⟩ ?_
  obtain ⟨b3, h⟩ := gdy h
  exact W.zret hx hb hr (nar_b b3) (fun t ht _ => ⟨by cases h; rfl, ht⟩) (fun _ hq => absurd hq List.not_mem_nil) dX6_isCasket_13
set_option maxHeartbeats 4000000 in
set_option maxRecDepth 100000 in
theorem k_X6_isCasket {l : Launch} {E : Ev} (a_t a_t_metal a_t_kind a_t_now a_t_readOf a_t_readKind a_t_text a_t_row a_t_nots a_t_isKept a_t_kept : Nat) (x_t_isTrue : Int32) (x_t_caskets : Int32) (x_t_wooers : Int32) (x_t_readTrue : Int32) (x_t_readCaskets : Int32) (x_t_readWooers : Int32) (x_t_readPicture : Int32) (x_t_length : Int32) (x_t_at : Int32) (x_t_faultAt : Int32) (x_t_acts : Int32) (x_t_next : Int32) (x_t_riddleMany : Int32) (x_t_seed : Int64) (p1 : Int32) (o_r : Int32) (hf : f_X6_isCasket x_t_caskets p1 = some o_r) : Met l yX6_isCasket wsX6_isCasket ({ frames := 1, cells := 0, slots := 0, locals := 25 }) (Pr E [.ref a_t, .int p1] [(a_t, .inr (6, [.int x_t_isTrue, .int x_t_caskets, .int x_t_wooers, .ref a_t_metal, .ref a_t_kind, .ref a_t_now, .ref a_t_readOf, .ref a_t_readKind, .int x_t_readTrue, .int x_t_readCaskets, .int x_t_readWooers, .int x_t_readPicture, .ref a_t_text, .int x_t_length, .int x_t_at, .int x_t_faultAt, .int x_t_acts, .int x_t_next, .ref a_t_row, .int x_t_riddleMany, .ref a_t_nots, .long x_t_seed, .ref a_t_isKept, .ref a_t_kept]))]) (Qr (some (.int o_r))) 0 0 (fun _ => False) := by
  refine Met.ofW (cc := cX6_isCasket) (maxL := 2) (ret := (some .boolean)) (by decide) rfl ?_
  intro p e s m args below meth c s₁ B hml hv
  obtain ⟨rfl, hw⟩ := hv
  have X := Cxt.of B hml
  have hl := lv_entry ([.ref a_t, .int p1]) (n := 2) (Nat.le_of_ble_eq_true rfl)
  rw [lg_entry_eq]
  exact w_X6_isCasket a_t a_t_metal a_t_kind a_t_now a_t_readOf a_t_readKind a_t_text a_t_row a_t_nots a_t_isKept a_t_kept x_t_isTrue x_t_caskets x_t_wooers x_t_readTrue x_t_readCaskets x_t_readWooers x_t_readPicture x_t_length x_t_at x_t_faultAt x_t_acts x_t_next x_t_riddleMany x_t_seed p1 o_r X hw hf hl
set_option maxHeartbeats 4000000 in
set_option maxRecDepth 100000 in
theorem w_X6_isWooer {p : Program} {l : Launch} {e : Env} {s : State} {m : MethodId} {args : Array Value} {below : List Frame} {meth : Method} {c : Code} {E : Ev} (a_t a_t_metal a_t_kind a_t_now a_t_readOf a_t_readKind a_t_text a_t_row a_t_nots a_t_isKept a_t_kept : Nat) (x_t_isTrue : Int32) (x_t_caskets : Int32) (x_t_wooers : Int32) (x_t_readTrue : Int32) (x_t_readCaskets : Int32) (x_t_readWooers : Int32) (x_t_readPicture : Int32) (x_t_length : Int32) (x_t_at : Int32) (x_t_faultAt : Int32) (x_t_acts : Int32) (x_t_next : Int32) (x_t_riddleMany : Int32) (x_t_seed : Int64) (p1 : Int32) (o_r : Int32) (X : Cxt p s m args meth c cX6_isWooer 2 wsX6_isWooer RX6 (some .boolean)) (hw : wd E [(a_t, .inr (6, [.int x_t_isTrue, .int x_t_caskets, .int x_t_wooers, .ref a_t_metal, .ref a_t_kind, .ref a_t_now, .ref a_t_readOf, .ref a_t_readKind, .int x_t_readTrue, .int x_t_readCaskets, .int x_t_readWooers, .int x_t_readPicture, .ref a_t_text, .int x_t_length, .int x_t_at, .int x_t_faultAt, .int x_t_acts, .int x_t_next, .ref a_t_row, .int x_t_riddleMany, .ref a_t_nots, .long x_t_seed, .ref a_t_isKept, .ref a_t_kept]))] s s.heap) (h : f_X6_isWooer x_t_wooers p1 = some o_r) {ls : Array Slot} (hl : lv_has ls 2 [(0, .ref a_t), (1, .int p1)]) : W p l e { frames := 1, cells := 0, slots := 0, locals := 25 } s m args below meth c s.heap [] 0 0 (MQ below (Qr (some (.int o_r))) args s 0 0 (fun _ => False)) (F0 m 0 ls []) := by
  obtain ⟨⟨hx, hb, hml, hown, hts⟩, hr, hlocks⟩ := id X
  obtain ⟨hC, hP⟩ := id hw
  have hiX6 : ∀ w ∈ u_ws RX6 TX6 24, w ∈ wsX6_isWooer := by decide +kernel
  have hK := hC.1
  unfold f_X6_isWooer at h
  refine lv_iload_n hx hb dX6_isWooer_0 rfl (lv_at hl 1 rfl) ?_
  refine lv_i2l hx hb dX6_isWooer_1 rfl ?_
  refine lv_lconst (v := 0) hx hb dX6_isWooer_2 (by decide) ?_
  refine lv_aload_n hx hb dX6_isWooer_3 rfl (lv_at hl 0 rfl) ?_
  refine va_get (D := E.1) (ci := 6) (v := .int x_t_wooers) (C := RX6) (T := TX6) (N := 24) hx hb hts hiX6 hown hK hP 0 rfl rfl 2 (by decide) (hts (.fieldLink RX6 93 "CasketLinesModel" "wooers" "I") (by decide +kernel)) (fun _ h9 => h9) rfl dX6_isWooer_4 ?_
  refine lv_iconst (v := 1) hx hb dX6_isWooer_7 (by decide) ?_
  refine lv_isub hx hb dX6_isWooer_8 ?_
  refine lv_i2l hx hb dX6_isWooer_9 rfl ?_
  obtain ⟨r1, g2, h⟩ := bnd h
  refine rcS (As := [.long (Int32.toInt64 p1), .long 0, .long (Int32.toInt64 (x_t_wooers - 1))]) (rest := []) ⟨hx, hb, hml, hown, hts⟩ (k_X6_in (l := l) (E := E) (Int32.toInt64 p1) 0 (Int32.toInt64 (x_t_wooers - 1)) r1 g2) (va_cwS 3 hts gX6_isWooer_X6_in rfl rfl rfl (by decide +kernel) ⟨Nat.le_of_ble_eq_true rfl, Nat.le_of_ble_eq_true rfl⟩) hC hP [] rfl rfl hl.1 rfl (Nat.le_of_ble_eq_true rfl) dX6_isWooer_10 ⟨Nat.zero_le _, Nat.zero_le _⟩ ?_
  obtain ⟨b3, h⟩ := gdy h
  exact W.zret hx hb hr (nar_b b3) (fun t ht _ => ⟨by cases h; rfl, ht⟩) (fun _ hq => absurd hq List.not_mem_nil) dX6_isWooer_13
set_option maxHeartbeats 4000000 in
set_option maxRecDepth 100000 in
theorem k_X6_isWooer {l : Launch} {E : Ev} (a_t a_t_metal a_t_kind a_t_now a_t_readOf a_t_readKind a_t_text a_t_row a_t_nots a_t_isKept a_t_kept : Nat) (x_t_isTrue : Int32) (x_t_caskets : Int32) (x_t_wooers : Int32) (x_t_readTrue : Int32) (x_t_readCaskets : Int32) (x_t_readWooers : Int32) (x_t_readPicture : Int32) (x_t_length : Int32) (x_t_at : Int32) (x_t_faultAt : Int32) (x_t_acts : Int32) (x_t_next : Int32) (x_t_riddleMany : Int32) (x_t_seed : Int64) (p1 : Int32) (o_r : Int32) (hf : f_X6_isWooer x_t_wooers p1 = some o_r) : Met l yX6_isWooer wsX6_isWooer ({ frames := 1, cells := 0, slots := 0, locals := 25 }) (Pr E [.ref a_t, .int p1] [(a_t, .inr (6, [.int x_t_isTrue, .int x_t_caskets, .int x_t_wooers, .ref a_t_metal, .ref a_t_kind, .ref a_t_now, .ref a_t_readOf, .ref a_t_readKind, .int x_t_readTrue, .int x_t_readCaskets, .int x_t_readWooers, .int x_t_readPicture, .ref a_t_text, .int x_t_length, .int x_t_at, .int x_t_faultAt, .int x_t_acts, .int x_t_next, .ref a_t_row, .int x_t_riddleMany, .ref a_t_nots, .long x_t_seed, .ref a_t_isKept, .ref a_t_kept]))]) (Qr (some (.int o_r))) 0 0 (fun _ => False) := by
  refine Met.ofW (cc := cX6_isWooer) (maxL := 2) (ret := (some .boolean)) (by decide) rfl ?_
  intro p e s m args below meth c s₁ B hml hv
  obtain ⟨rfl, hw⟩ := hv
  have X := Cxt.of B hml
  have hl := lv_entry ([.ref a_t, .int p1]) (n := 2) (Nat.le_of_ble_eq_true rfl)
  rw [lg_entry_eq]
  exact w_X6_isWooer a_t a_t_metal a_t_kind a_t_now a_t_readOf a_t_readKind a_t_text a_t_row a_t_nots a_t_isKept a_t_kept x_t_isTrue x_t_caskets x_t_wooers x_t_readTrue x_t_readCaskets x_t_readWooers x_t_readPicture x_t_length x_t_at x_t_faultAt x_t_acts x_t_next x_t_riddleMany x_t_seed p1 o_r X hw hf hl
set_option maxHeartbeats 4000000 in
set_option maxRecDepth 100000 in
theorem w_X6_leastOf_2_b {p : Program} {l : Launch} {e : Env} {s : State} {m : MethodId} {args : Array Value} {below : List Frame} {meth : Method} {c : Code} {E : Ev} (a_t : Nat) (v1 : Int32) (o_r : Int32) (X : Cxt p s m args meth c cX6_leastOf 3 wsX6_leastOf RX6 (some .int)) (hw : wd E [] s s.heap) (k2 : Int32 → Option (Int32)) (hk2 : ∀ (v2 : Int32), k2 v2 = some o_r → ∀ (ls : Array Slot), lv_has ls 3 [(1, .int v1), (2, .int v2)] → W p l e { frames := 1, cells := 0, slots := 0, locals := 21 } s m args below meth c s.heap [] 0 0 (MQ below (Qr (some (.int o_r))) args s 0 0 (fun _ => False)) (F0 m 2 ls [])) (v2 : Int32) (h : f_X6_leastOf_2_b v1 k2 v2 = some o_r) {ls : Array Slot} (hl : lv_has ls 3 [(1, .int v1), (2, .int v2)]) : W p l e { frames := 1, cells := 0, slots := 0, locals := 21 } s m args below meth c s.heap [] 0 0 (MQ below (Qr (some (.int o_r))) args s 0 0 (fun _ => False)) (F0 m 2 ls []) := by
  obtain ⟨⟨hx, hb, hml, hown, hts⟩, hr, hlocks⟩ := id X
  obtain ⟨hC, hP⟩ := id hw
  unfold f_X6_leastOf_2_b at h
  refine lv_iload_n hx hb dX6_leastOf_2 rfl (lv_at hl 1 rfl) ?_
  refine lv_iconst (v := 4) hx hb dX6_leastOf_3 (by decide) ?_
  refine lv_icmp_ge (tgt := 23) hx hb dX6_leastOf_4 (by decide) (fun c1 => ?_) (fun c1 => ?_)
  · have h := ifp c1 h
    refine lv_bipush (v := (-9)) hx hb dX6_leastOf_23 (by decide) ?_
    exact W.iret hx hb hr (fun t ht _ => ⟨by cases h; rfl, ht⟩) (fun _ hq => absurd hq List.not_mem_nil) dX6_leastOf_25
  · have h := ifn c1 h
    refine lv_iload_n hx hb dX6_leastOf_7 rfl (lv_at hl 0 rfl) ?_
    refine lv_iload_n hx hb dX6_leastOf_8 rfl (lv_at hl 1 rfl) ?_
    obtain ⟨r2, g3, h⟩ := bnd h
    refine rcS (As := [.int v1, .int v2]) (rest := []) ⟨hx, hb, hml, hown, hts⟩ (k_X6_has (l := l) (E := E) v1 v2 r2 g3) (va_cwS 2 hts gX6_leastOf_X6_has rfl rfl rfl (by decide +kernel) ⟨Nat.le_of_ble_eq_true rfl, Nat.le_of_ble_eq_true rfl⟩) hC hP [] rfl rfl hl.1 rfl (Nat.le_of_ble_eq_true rfl) dX6_leastOf_9 ⟨Nat.zero_le _, Nat.zero_le _⟩ ?_
    refine lv_if_eq (tgt := 17) hx hb dX6_leastOf_12 (by decide) (fun c4 => ?_) (fun c4 => ?_)
    · have h := ifp c4 h
      refine lv_iinc (v := (v2 + 1)) (lv' := [(2, .int (v2 + 1)), (1, .int v1)]) hx hb dX6_leastOf_17 hl (k := 1) rfl rfl (by decide) rfl (fun ls hl => ?_)
      refine lv_goto (tgt := 2) hx hb dX6_leastOf_20 (by decide) ?_
      exact hk2 (v2 + 1) h ls (lv_sub hl [1, 0] rfl)
    · have h := ifn c4 h
      refine lv_iload_n hx hb dX6_leastOf_15 rfl (lv_at hl 1 rfl) ?_
      exact W.iret hx hb hr (fun t ht _ => ⟨by cases h; rfl, ht⟩) (fun _ hq => absurd hq List.not_mem_nil) dX6_leastOf_16
set_option maxHeartbeats 4000000 in
set_option maxRecDepth 100000 in
theorem w_X6_leastOf_2 {p : Program} {l : Launch} {e : Env} {s : State} {m : MethodId} {args : Array Value} {below : List Frame} {meth : Method} {c : Code} {E : Ev} (a_t : Nat) (v1 : Int32) (o_r : Int32) (X : Cxt p s m args meth c cX6_leastOf 3 wsX6_leastOf RX6 (some .int)) (hw : wd E [] s s.heap) : ∀ (n : Nat) (v2 : Int32), f_X6_leastOf_2 v1 n v2 = some o_r → ∀ (ls : Array Slot), lv_has ls 3 [(1, .int v1), (2, .int v2)] → W p l e { frames := 1, cells := 0, slots := 0, locals := 21 } s m args below meth c s.heap [] 0 0 (MQ below (Qr (some (.int o_r))) args s 0 0 (fun _ => False)) (F0 m 2 ls []) := by
  intro n
  induction n with
  | zero =>
    intro v2 h
    exact (rk_z _ _ h).elim
  | succ n ih =>
    intro v2 h ls hl
    exact w_X6_leastOf_2_b a_t  v1  o_r X hw  (rk (fun k x => f_X6_leastOf_2_b v1  k x) n) (fun v2 hh => ih v2 hh) v2 h hl
set_option maxHeartbeats 4000000 in
set_option maxRecDepth 100000 in
theorem w_X6_leastOf {p : Program} {l : Launch} {e : Env} {s : State} {m : MethodId} {args : Array Value} {below : List Frame} {meth : Method} {c : Code} {E : Ev} (a_t : Nat) (p1 : Int32) (o_r : Int32) (X : Cxt p s m args meth c cX6_leastOf 3 wsX6_leastOf RX6 (some .int)) (hw : wd E [] s s.heap) (h : f_X6_leastOf p1 = some o_r) {ls : Array Slot} (hl : lv_has ls 3 [(0, .ref a_t), (1, .int p1)]) : W p l e { frames := 1, cells := 0, slots := 0, locals := 21 } s m args below meth c s.heap [] 0 0 (MQ below (Qr (some (.int o_r))) args s 0 0 (fun _ => False)) (F0 m 0 ls []) := by
  obtain ⟨⟨hx, hb, hml, hown, hts⟩, hr, hlocks⟩ := id X
  obtain ⟨hC, hP⟩ := id hw
  unfold f_X6_leastOf at h
  refine lv_iconst (v := 0) hx hb dX6_leastOf_0 (by decide) ?_
  refine lv_istore_n (lv' := [(2, .int 0), (0, .ref a_t), (1, .int p1)]) hx hb dX6_leastOf_1 rfl hl (by decide) rfl (fun ls hl => ?_)
  exact w_X6_leastOf_2 a_t  p1  o_r X hw  200 0 h ls (lv_sub hl [2, 0] rfl)
set_option maxHeartbeats 4000000 in
set_option maxRecDepth 100000 in
theorem k_X6_leastOf {l : Launch} {E : Ev} (a_t : Nat) (p1 : Int32) (o_r : Int32) (hf : f_X6_leastOf p1 = some o_r) : Met l yX6_leastOf wsX6_leastOf ({ frames := 1, cells := 0, slots := 0, locals := 21 }) (Pr E [.ref a_t, .int p1] []) (Qr (some (.int o_r))) 0 0 (fun _ => False) := by
  refine Met.ofW (cc := cX6_leastOf) (maxL := 3) (ret := (some .int)) (by decide) rfl ?_
  intro p e s m args below meth c s₁ B hml hv
  obtain ⟨rfl, hw⟩ := hv
  have X := Cxt.of B hml
  have hl := lv_entry ([.ref a_t, .int p1]) (n := 3) (Nat.le_of_ble_eq_true rfl)
  rw [lg_entry_eq]
  exact w_X6_leastOf a_t  p1 o_r X hw hf hl
set_option maxHeartbeats 4000000 in
set_option maxRecDepth 100000 in
theorem w_X6_write {p : Program} {l : Launch} {e : Env} {s : State} {m : MethodId} {args : Array Value} {below : List Frame} {meth : Method} {c : Code} {E : Ev} {A : Nat → Prop} (a_t a_t_metal a_t_kind a_t_now a_t_readOf a_t_readKind a_t_text a_t_row a_t_nots a_t_isKept a_t_kept : Nat) (x_t_isTrue : Int32) (x_t_caskets : Int32) (x_t_wooers : Int32) (x_t_readTrue : Int32) (x_t_readCaskets : Int32) (x_t_readWooers : Int32) (x_t_readPicture : Int32) (x_t_length : Int32) (x_t_at : Int32) (x_t_faultAt : Int32) (x_t_acts : Int32) (x_t_next : Int32) (x_t_riddleMany : Int32) (x_t_seed : Int64) (r_t_text : Nat → Int32) (p1 : Int32) (o_r : Int32) (o_x_t_length : Int32) (o_r_t_text : Nat → Int32) (X : Cxt p s m args meth c cX6_write 2 wsX6_write RX6 (some .int)) (hw : Cw E A s [(a_t, .inr (6, [.int x_t_isTrue, .int x_t_caskets, .int x_t_wooers, .ref a_t_metal, .ref a_t_kind, .ref a_t_now, .ref a_t_readOf, .ref a_t_readKind, .int x_t_readTrue, .int x_t_readCaskets, .int x_t_readWooers, .int x_t_readPicture, .ref a_t_text, .int x_t_length, .int x_t_at, .int x_t_faultAt, .int x_t_acts, .int x_t_next, .ref a_t_row, .int x_t_riddleMany, .ref a_t_nots, .long x_t_seed, .ref a_t_isKept, .ref a_t_kept])), (a_t_text, .inl (E.2.1, 40, .inl r_t_text))]) (h : f_X6_write x_t_length r_t_text p1 = some (o_r, o_x_t_length, o_r_t_text)) {H : Heap} {locs : List Loc} (hP : va_P E.1 vwCl [(a_t, .inr (6, [.int x_t_isTrue, .int x_t_caskets, .int x_t_wooers, .ref a_t_metal, .ref a_t_kind, .ref a_t_now, .ref a_t_readOf, .ref a_t_readKind, .int x_t_readTrue, .int x_t_readCaskets, .int x_t_readWooers, .int x_t_readPicture, .ref a_t_text, .int x_t_length, .int x_t_at, .int x_t_faultAt, .int x_t_acts, .int x_t_next, .ref a_t_row, .int x_t_riddleMany, .ref a_t_nots, .long x_t_seed, .ref a_t_isKept, .ref a_t_kept])), (a_t_text, .inl (E.2.1, 40, .inl r_t_text))] H) (hS : va_S A s.heap H locs) {ls : Array Slot} (hl : lv_has ls 2 [(0, .ref a_t), (1, .int p1)]) : W p l e { frames := 1, cells := 0, slots := 0, locals := 25 } s m args below meth c H locs 0 0 (MQ below (Qw E (some (.int o_r)) [(a_t, .inr (6, [.int x_t_isTrue, .int x_t_caskets, .int x_t_wooers, .ref a_t_metal, .ref a_t_kind, .ref a_t_now, .ref a_t_readOf, .ref a_t_readKind, .int x_t_readTrue, .int x_t_readCaskets, .int x_t_readWooers, .int x_t_readPicture, .ref a_t_text, .int o_x_t_length, .int x_t_at, .int x_t_faultAt, .int x_t_acts, .int x_t_next, .ref a_t_row, .int x_t_riddleMany, .ref a_t_nots, .long x_t_seed, .ref a_t_isKept, .ref a_t_kept])), (a_t_text, .inl (E.2.1, 40, .inl o_r_t_text))] A) args s 0 0 A) (F0 m 0 ls []) := by
  obtain ⟨⟨hx, hb, hml, hown, hts⟩, hr, hlocks⟩ := id X
  obtain ⟨hC, hAB, hA, hB, hD⟩ := id hw
  have hiX6 : ∀ w ∈ u_ws RX6 TX6 24, w ∈ wsX6_write := by decide +kernel
  have hK := hC.1
  unfold f_X6_write at h
  refine lv_iload_n hx hb dX6_write_0 rfl (lv_at hl 1 rfl) ?_
  refine lv_i2l hx hb dX6_write_1 rfl ?_
  refine lv_lconst (v := 0) hx hb dX6_write_2 (by decide) ?_
  refine lv_ldc2 (own := RX6) (v := 255) hx hb hown (hts (.constantLong RX6 45 255) (by decide +kernel)) dX6_write_3 ?_
  obtain ⟨r1, g2, h⟩ := bnd h
  refine rcS (As := [.long (Int32.toInt64 p1), .long 0, .long 255]) (rest := []) ⟨hx, hb, hml, hown, hts⟩ (k_X6_in (l := l) (E := E) (Int32.toInt64 p1) 0 255 r1 g2) (va_cwS 3 hts gX6_write_X6_in rfl rfl rfl (by decide +kernel) ⟨Nat.le_of_ble_eq_true rfl, Nat.le_of_ble_eq_true rfl⟩) (hC.here hS hAB) hP [] rfl rfl hl.1 rfl (Nat.le_of_ble_eq_true rfl) dX6_write_6 ⟨Nat.zero_le _, Nat.zero_le _⟩ ?_
  refine lv_if_ne (tgt := 15) hx hb dX6_write_9 (by decide) (fun c3 => ?_) (fun c3 => ?_)
  · have h := ifn c3 h
    refine lv_aload_n hx hb dX6_write_15 rfl (lv_at hl 0 rfl) ?_
    refine va_get (D := E.1) (ci := 6) (v := .int x_t_length) (C := RX6) (T := TX6) (N := 24) hx hb hts hiX6 hown hK hP 0 rfl rfl 13 (by decide) (hts (.fieldLink RX6 51 "CasketLinesModel" "length" "I") (by decide +kernel)) (fun _ h9 => h9) rfl dX6_write_16 ?_
    refine lv_bipush (v := 40) hx hb dX6_write_19 (by decide) ?_
    refine lv_icmp_ne (tgt := 27) hx hb dX6_write_21 (by decide) (fun c4 => ?_) (fun c4 => ?_)
    · have h := ifn c4 h
      refine lv_aload_n hx hb dX6_write_27 rfl (lv_at hl 0 rfl) ?_
      refine va_get (D := E.1) (ci := 6) (v := .ref a_t_text) (C := RX6) (T := TX6) (N := 24) hx hb hts hiX6 hown hK hP 0 rfl rfl 12 (by decide) (hts (.fieldLink RX6 25 "CasketLinesModel" "text" "[I") (by decide +kernel)) (fun _ h9 => h9) rfl dX6_write_28 ?_
      refine lv_aload_n hx hb dX6_write_31 rfl (lv_at hl 0 rfl) ?_
      refine va_get (D := E.1) (ci := 6) (v := .int x_t_length) (C := RX6) (T := TX6) (N := 24) hx hb hts hiX6 hown hK hP 0 rfl rfl 13 (by decide) (hts (.fieldLink RX6 51 "CasketLinesModel" "length" "I") (by decide +kernel)) (fun _ h9 => h9) rfl dX6_write_32 ?_
      refine lv_iload_n hx hb dX6_write_35 rfl (lv_at hl 1 rfl) ?_
      obtain ⟨b5, h⟩ := gdn h
      refine va_iast hx hb hK hP (hD.adr rfl) hS 1 0 rfl rfl b5 dX6_write_36 (fun H locs hP _ hS => ?_)
      have hP : va_P E.1 vwCl [(a_t, .inr (6, [.int x_t_isTrue, .int x_t_caskets, .int x_t_wooers, .ref a_t_metal, .ref a_t_kind, .ref a_t_now, .ref a_t_readOf, .ref a_t_readKind, .int x_t_readTrue, .int x_t_readCaskets, .int x_t_readWooers, .int x_t_readPicture, .ref a_t_text, .int x_t_length, .int x_t_at, .int x_t_faultAt, .int x_t_acts, .int x_t_next, .ref a_t_row, .int x_t_riddleMany, .ref a_t_nots, .long x_t_seed, .ref a_t_isKept, .ref a_t_kept])), (a_t_text, .inl (E.2.1, 40, .inl (upd r_t_text (Int32.toNatClampNeg x_t_length) p1)))] H := hP
      refine lv_aload_n hx hb dX6_write_37 rfl (lv_at hl 0 rfl) ?_
      refine lv_dup hx hb dX6_write_38 rfl ?_
      refine va_get (D := E.1) (ci := 6) (v := .int x_t_length) (C := RX6) (T := TX6) (N := 24) hx hb hts hiX6 hown hK hP 0 rfl rfl 13 (by decide) (hts (.fieldLink RX6 51 "CasketLinesModel" "length" "I") (by decide +kernel)) (fun _ h9 => h9) rfl dX6_write_39 ?_
      refine lv_iconst (v := 1) hx hb dX6_write_42 (by decide) ?_
      refine lv_iadd hx hb dX6_write_43 ?_
      refine va_put (D := E.1) (ci := 6) (v := .int (x_t_length + 1)) (ty := .int) (C := RX6) (T := TX6) (N := 24) hx hb hts hiX6 tyX6 tyX6_ok nmX6 hown hK hP (hD.adr rfl) hS 0 rfl rfl 13 (by decide) (hts (.fieldLink RX6 51 "CasketLinesModel" "length" "I") (by decide +kernel)) (fun _ h9 => h9) rfl (by decide +kernel) rfl rfl (Nat.le_of_ble_eq_true rfl) dX6_write_44 (fun H locs hP _ hS => ?_)
      have hP : va_P E.1 vwCl [(a_t, .inr (6, [.int x_t_isTrue, .int x_t_caskets, .int x_t_wooers, .ref a_t_metal, .ref a_t_kind, .ref a_t_now, .ref a_t_readOf, .ref a_t_readKind, .int x_t_readTrue, .int x_t_readCaskets, .int x_t_readWooers, .int x_t_readPicture, .ref a_t_text, .int (x_t_length + 1), .int x_t_at, .int x_t_faultAt, .int x_t_acts, .int x_t_next, .ref a_t_row, .int x_t_riddleMany, .ref a_t_nots, .long x_t_seed, .ref a_t_isKept, .ref a_t_kept])), (a_t_text, .inl (E.2.1, 40, .inl (upd r_t_text (Int32.toNatClampNeg x_t_length) p1)))] H := hP
      refine lv_aload_n hx hb dX6_write_47 rfl (lv_at hl 0 rfl) ?_
      refine va_get (D := E.1) (ci := 6) (v := .int (x_t_length + 1)) (C := RX6) (T := TX6) (N := 24) hx hb hts hiX6 hown hK hP 0 rfl rfl 13 (by decide) (hts (.fieldLink RX6 51 "CasketLinesModel" "length" "I") (by decide +kernel)) (fun _ h9 => h9) rfl dX6_write_48 ?_
      exact W.iret hx hb hr (fun t ht _ => ⟨by cases h; rfl, by rw [ht]; cases h; exact hP, hS.F ht⟩) hS.2.2 dX6_write_51
    · have h := ifp c4 h
      refine lv_bipush (v := (-4)) hx hb dX6_write_24 (by decide) ?_
      exact W.iret hx hb hr (fun t ht _ => ⟨by cases h; rfl, by rw [ht]; cases h; exact hP, hS.F ht⟩) hS.2.2 dX6_write_26
  · have h := ifp c3 h
    refine lv_bipush (v := (-2)) hx hb dX6_write_12 (by decide) ?_
    exact W.iret hx hb hr (fun t ht _ => ⟨by cases h; rfl, by rw [ht]; cases h; exact hP, hS.F ht⟩) hS.2.2 dX6_write_14
set_option maxHeartbeats 4000000 in
set_option maxRecDepth 100000 in
theorem k_X6_write {l : Launch} {E : Ev} (a_t a_t_metal a_t_kind a_t_now a_t_readOf a_t_readKind a_t_text a_t_row a_t_nots a_t_isKept a_t_kept : Nat) (x_t_isTrue : Int32) (x_t_caskets : Int32) (x_t_wooers : Int32) (x_t_readTrue : Int32) (x_t_readCaskets : Int32) (x_t_readWooers : Int32) (x_t_readPicture : Int32) (x_t_length : Int32) (x_t_at : Int32) (x_t_faultAt : Int32) (x_t_acts : Int32) (x_t_next : Int32) (x_t_riddleMany : Int32) (x_t_seed : Int64) (r_t_text : Nat → Int32) (p1 : Int32) (sz : Nat) (o_r : Int32) (o_x_t_length : Int32) (o_r_t_text : Nat → Int32) (hf : f_X6_write x_t_length r_t_text p1 = some (o_r, o_x_t_length, o_r_t_text)) : Met l yX6_write wsX6_write ({ frames := 1, cells := 0, slots := 0, locals := 25 }) (Pw E [.ref a_t, .int p1] [(a_t, .inr (6, [.int x_t_isTrue, .int x_t_caskets, .int x_t_wooers, .ref a_t_metal, .ref a_t_kind, .ref a_t_now, .ref a_t_readOf, .ref a_t_readKind, .int x_t_readTrue, .int x_t_readCaskets, .int x_t_readWooers, .int x_t_readPicture, .ref a_t_text, .int x_t_length, .int x_t_at, .int x_t_faultAt, .int x_t_acts, .int x_t_next, .ref a_t_row, .int x_t_riddleMany, .ref a_t_nots, .long x_t_seed, .ref a_t_isKept, .ref a_t_kept])), (a_t_text, .inl (E.2.1, 40, .inl r_t_text))] sz) (Qw E (some (.int o_r)) [(a_t, .inr (6, [.int x_t_isTrue, .int x_t_caskets, .int x_t_wooers, .ref a_t_metal, .ref a_t_kind, .ref a_t_now, .ref a_t_readOf, .ref a_t_readKind, .int x_t_readTrue, .int x_t_readCaskets, .int x_t_readWooers, .int x_t_readPicture, .ref a_t_text, .int o_x_t_length, .int x_t_at, .int x_t_faultAt, .int x_t_acts, .int x_t_next, .ref a_t_row, .int x_t_riddleMany, .ref a_t_nots, .long x_t_seed, .ref a_t_isKept, .ref a_t_kept])), (a_t_text, .inl (E.2.1, 40, .inl o_r_t_text))] (va_A [(a_t, .inr (6, [.int x_t_isTrue, .int x_t_caskets, .int x_t_wooers, .ref a_t_metal, .ref a_t_kind, .ref a_t_now, .ref a_t_readOf, .ref a_t_readKind, .int x_t_readTrue, .int x_t_readCaskets, .int x_t_readWooers, .int x_t_readPicture, .ref a_t_text, .int x_t_length, .int x_t_at, .int x_t_faultAt, .int x_t_acts, .int x_t_next, .ref a_t_row, .int x_t_riddleMany, .ref a_t_nots, .long x_t_seed, .ref a_t_isKept, .ref a_t_kept])), (a_t_text, .inl (E.2.1, 40, .inl r_t_text))] sz)) 0 0 (va_A [(a_t, .inr (6, [.int x_t_isTrue, .int x_t_caskets, .int x_t_wooers, .ref a_t_metal, .ref a_t_kind, .ref a_t_now, .ref a_t_readOf, .ref a_t_readKind, .int x_t_readTrue, .int x_t_readCaskets, .int x_t_readWooers, .int x_t_readPicture, .ref a_t_text, .int x_t_length, .int x_t_at, .int x_t_faultAt, .int x_t_acts, .int x_t_next, .ref a_t_row, .int x_t_riddleMany, .ref a_t_nots, .long x_t_seed, .ref a_t_isKept, .ref a_t_kept])), (a_t_text, .inl (E.2.1, 40, .inl r_t_text))] sz) := by
  refine Met.ofW (cc := cX6_write) (maxL := 2) (ret := (some .int)) (by decide) rfl ?_
  intro p e s m args below meth c s₁ B hml hv
  obtain ⟨rfl, rfl, hw, hP⟩ := Pw.start hv
  have X := Cxt.of B hml
  have hl := lv_entry ([.ref a_t, .int p1]) (n := 2) (Nat.le_of_ble_eq_true rfl)
  rw [lg_entry_eq]
  exact w_X6_write a_t a_t_metal a_t_kind a_t_now a_t_readOf a_t_readKind a_t_text a_t_row a_t_nots a_t_isKept a_t_kept x_t_isTrue x_t_caskets x_t_wooers x_t_readTrue x_t_readCaskets x_t_readWooers x_t_readPicture x_t_length x_t_at x_t_faultAt x_t_acts x_t_next x_t_riddleMany x_t_seed r_t_text p1 o_r o_x_t_length o_r_t_text X hw hf hP va_S.rf hl
set_option maxHeartbeats 4000000 in
set_option maxRecDepth 100000 in
theorem w_X6_wipe {p : Program} {l : Launch} {e : Env} {s : State} {m : MethodId} {args : Array Value} {below : List Frame} {meth : Method} {c : Code} {E : Ev} {A : Nat → Prop} (a_t a_t_metal a_t_kind a_t_now a_t_readOf a_t_readKind a_t_text a_t_row a_t_nots a_t_isKept a_t_kept : Nat) (x_t_isTrue : Int32) (x_t_caskets : Int32) (x_t_wooers : Int32) (x_t_readTrue : Int32) (x_t_readCaskets : Int32) (x_t_readWooers : Int32) (x_t_readPicture : Int32) (x_t_length : Int32) (x_t_at : Int32) (x_t_faultAt : Int32) (x_t_acts : Int32) (x_t_next : Int32) (x_t_riddleMany : Int32) (x_t_seed : Int64) (o_r : Int32) (o_x_t_length : Int32) (X : Cxt p s m args meth c cX6_wipe 2 wsX6_wipe RX6 (some .int)) (hw : Cw E A s [(a_t, .inr (6, [.int x_t_isTrue, .int x_t_caskets, .int x_t_wooers, .ref a_t_metal, .ref a_t_kind, .ref a_t_now, .ref a_t_readOf, .ref a_t_readKind, .int x_t_readTrue, .int x_t_readCaskets, .int x_t_readWooers, .int x_t_readPicture, .ref a_t_text, .int x_t_length, .int x_t_at, .int x_t_faultAt, .int x_t_acts, .int x_t_next, .ref a_t_row, .int x_t_riddleMany, .ref a_t_nots, .long x_t_seed, .ref a_t_isKept, .ref a_t_kept]))]) (h : f_X6_wipe x_t_length = some (o_r, o_x_t_length)) {H : Heap} {locs : List Loc} (hP : va_P E.1 vwCl [(a_t, .inr (6, [.int x_t_isTrue, .int x_t_caskets, .int x_t_wooers, .ref a_t_metal, .ref a_t_kind, .ref a_t_now, .ref a_t_readOf, .ref a_t_readKind, .int x_t_readTrue, .int x_t_readCaskets, .int x_t_readWooers, .int x_t_readPicture, .ref a_t_text, .int x_t_length, .int x_t_at, .int x_t_faultAt, .int x_t_acts, .int x_t_next, .ref a_t_row, .int x_t_riddleMany, .ref a_t_nots, .long x_t_seed, .ref a_t_isKept, .ref a_t_kept]))] H) (hS : va_S A s.heap H locs) {ls : Array Slot} (hl : lv_has ls 2 [(0, .ref a_t)]) : W p l e { frames := 0, cells := 0, slots := 0, locals := 0 } s m args below meth c H locs 0 0 (MQ below (Qw E (some (.int o_r)) [(a_t, .inr (6, [.int x_t_isTrue, .int x_t_caskets, .int x_t_wooers, .ref a_t_metal, .ref a_t_kind, .ref a_t_now, .ref a_t_readOf, .ref a_t_readKind, .int x_t_readTrue, .int x_t_readCaskets, .int x_t_readWooers, .int x_t_readPicture, .ref a_t_text, .int o_x_t_length, .int x_t_at, .int x_t_faultAt, .int x_t_acts, .int x_t_next, .ref a_t_row, .int x_t_riddleMany, .ref a_t_nots, .long x_t_seed, .ref a_t_isKept, .ref a_t_kept]))] A) args s 0 0 A) (F0 m 0 ls []) := by
  obtain ⟨⟨hx, hb, hml, hown, hts⟩, hr, hlocks⟩ := id X
  obtain ⟨hC, hAB, hA, hB, hD⟩ := id hw
  have hiX6 : ∀ w ∈ u_ws RX6 TX6 24, w ∈ wsX6_wipe := by decide +kernel
  have hK := hC.1
  unfold f_X6_wipe at h
  refine lv_aload_n hx hb dX6_wipe_0 rfl (lv_at hl 0 rfl) ?_
  refine va_get (D := E.1) (ci := 6) (v := .int x_t_length) (C := RX6) (T := TX6) (N := 24) hx hb hts hiX6 hown hK hP 0 rfl rfl 13 (by decide) (hts (.fieldLink RX6 51 "CasketLinesModel" "length" "I") (by decide +kernel)) (fun _ h9 => h9) rfl dX6_wipe_1 ?_
  refine lv_istore_n (lv' := [(1, .int x_t_length), (0, .ref a_t)]) hx hb dX6_wipe_4 rfl hl (by decide) rfl (fun ls hl => ?_)
  refine lv_aload_n hx hb dX6_wipe_5 rfl (lv_at hl 1 rfl) ?_
  refine lv_iconst (v := 0) hx hb dX6_wipe_6 (by decide) ?_
  refine va_put (D := E.1) (ci := 6) (v := .int 0) (ty := .int) (C := RX6) (T := TX6) (N := 24) hx hb hts hiX6 tyX6 tyX6_ok nmX6 hown hK hP (hD.adr rfl) hS 0 rfl rfl 13 (by decide) (hts (.fieldLink RX6 51 "CasketLinesModel" "length" "I") (by decide +kernel)) (fun _ h9 => h9) rfl (by decide +kernel) rfl rfl (Nat.le_of_ble_eq_true rfl) dX6_wipe_7 (fun H locs hP _ hS => ?_)
  have hP : va_P E.1 vwCl [(a_t, .inr (6, [.int x_t_isTrue, .int x_t_caskets, .int x_t_wooers, .ref a_t_metal, .ref a_t_kind, .ref a_t_now, .ref a_t_readOf, .ref a_t_readKind, .int x_t_readTrue, .int x_t_readCaskets, .int x_t_readWooers, .int x_t_readPicture, .ref a_t_text, .int 0, .int x_t_at, .int x_t_faultAt, .int x_t_acts, .int x_t_next, .ref a_t_row, .int x_t_riddleMany, .ref a_t_nots, .long x_t_seed, .ref a_t_isKept, .ref a_t_kept]))] H := hP
  refine lv_iload_n hx hb dX6_wipe_10 rfl (lv_at hl 0 rfl) ?_
  exact W.iret hx hb hr (fun t ht _ => ⟨by cases h; rfl, by rw [ht]; cases h; exact hP, hS.F ht⟩) hS.2.2 dX6_wipe_11
set_option maxHeartbeats 4000000 in
set_option maxRecDepth 100000 in
theorem k_X6_wipe {l : Launch} {E : Ev} (a_t a_t_metal a_t_kind a_t_now a_t_readOf a_t_readKind a_t_text a_t_row a_t_nots a_t_isKept a_t_kept : Nat) (x_t_isTrue : Int32) (x_t_caskets : Int32) (x_t_wooers : Int32) (x_t_readTrue : Int32) (x_t_readCaskets : Int32) (x_t_readWooers : Int32) (x_t_readPicture : Int32) (x_t_length : Int32) (x_t_at : Int32) (x_t_faultAt : Int32) (x_t_acts : Int32) (x_t_next : Int32) (x_t_riddleMany : Int32) (x_t_seed : Int64) (sz : Nat) (o_r : Int32) (o_x_t_length : Int32) (hf : f_X6_wipe x_t_length = some (o_r, o_x_t_length)) : Met l yX6_wipe wsX6_wipe ({ frames := 0, cells := 0, slots := 0, locals := 0 }) (Pw E [.ref a_t] [(a_t, .inr (6, [.int x_t_isTrue, .int x_t_caskets, .int x_t_wooers, .ref a_t_metal, .ref a_t_kind, .ref a_t_now, .ref a_t_readOf, .ref a_t_readKind, .int x_t_readTrue, .int x_t_readCaskets, .int x_t_readWooers, .int x_t_readPicture, .ref a_t_text, .int x_t_length, .int x_t_at, .int x_t_faultAt, .int x_t_acts, .int x_t_next, .ref a_t_row, .int x_t_riddleMany, .ref a_t_nots, .long x_t_seed, .ref a_t_isKept, .ref a_t_kept]))] sz) (Qw E (some (.int o_r)) [(a_t, .inr (6, [.int x_t_isTrue, .int x_t_caskets, .int x_t_wooers, .ref a_t_metal, .ref a_t_kind, .ref a_t_now, .ref a_t_readOf, .ref a_t_readKind, .int x_t_readTrue, .int x_t_readCaskets, .int x_t_readWooers, .int x_t_readPicture, .ref a_t_text, .int o_x_t_length, .int x_t_at, .int x_t_faultAt, .int x_t_acts, .int x_t_next, .ref a_t_row, .int x_t_riddleMany, .ref a_t_nots, .long x_t_seed, .ref a_t_isKept, .ref a_t_kept]))] (va_A [(a_t, .inr (6, [.int x_t_isTrue, .int x_t_caskets, .int x_t_wooers, .ref a_t_metal, .ref a_t_kind, .ref a_t_now, .ref a_t_readOf, .ref a_t_readKind, .int x_t_readTrue, .int x_t_readCaskets, .int x_t_readWooers, .int x_t_readPicture, .ref a_t_text, .int x_t_length, .int x_t_at, .int x_t_faultAt, .int x_t_acts, .int x_t_next, .ref a_t_row, .int x_t_riddleMany, .ref a_t_nots, .long x_t_seed, .ref a_t_isKept, .ref a_t_kept]))] sz)) 0 0 (va_A [(a_t, .inr (6, [.int x_t_isTrue, .int x_t_caskets, .int x_t_wooers, .ref a_t_metal, .ref a_t_kind, .ref a_t_now, .ref a_t_readOf, .ref a_t_readKind, .int x_t_readTrue, .int x_t_readCaskets, .int x_t_readWooers, .int x_t_readPicture, .ref a_t_text, .int x_t_length, .int x_t_at, .int x_t_faultAt, .int x_t_acts, .int x_t_next, .ref a_t_row, .int x_t_riddleMany, .ref a_t_nots, .long x_t_seed, .ref a_t_isKept, .ref a_t_kept]))] sz) := by
  refine Met.ofW (cc := cX6_wipe) (maxL := 2) (ret := (some .int)) (by decide) rfl ?_
  intro p e s m args below meth c s₁ B hml hv
  obtain ⟨rfl, rfl, hw, hP⟩ := Pw.start hv
  have X := Cxt.of B hml
  have hl := lv_entry ([.ref a_t]) (n := 2) (Nat.le_of_ble_eq_true rfl)
  rw [lg_entry_eq]
  exact w_X6_wipe a_t a_t_metal a_t_kind a_t_now a_t_readOf a_t_readKind a_t_text a_t_row a_t_nots a_t_isKept a_t_kept x_t_isTrue x_t_caskets x_t_wooers x_t_readTrue x_t_readCaskets x_t_readWooers x_t_readPicture x_t_length x_t_at x_t_faultAt x_t_acts x_t_next x_t_riddleMany x_t_seed  o_r o_x_t_length X hw hf hP va_S.rf hl
set_option maxHeartbeats 4000000 in
set_option maxRecDepth 100000 in
theorem w_X6_figureOf_58 {p : Program} {l : Launch} {e : Env} {s : State} {m : MethodId} {args : Array Value} {below : List Frame} {meth : Method} {c : Code} {E : Ev} {A : Nat → Prop} (a_t a_t_metal a_t_kind a_t_now a_t_readOf a_t_readKind a_t_text a_t_row a_t_nots a_t_isKept a_t_kept : Nat) (x_t_isTrue : Int32) (x_t_caskets : Int32) (x_t_wooers : Int32) (x_t_readTrue : Int32) (x_t_readCaskets : Int32) (x_t_readWooers : Int32) (x_t_readPicture : Int32) (x_t_length : Int32) (x_t_at : Int32) (x_t_faultAt : Int32) (x_t_acts : Int32) (x_t_next : Int32) (x_t_riddleMany : Int32) (x_t_seed : Int64) (r_t_text : Nat → Int32) (o_r : Int32) (o_x_t_at : Int32) (o_x_t_faultAt : Int32) (X : Cxt p s m args meth c cX6_figureOf 3 wsX6_figureOf RX6 (some .int)) (hw : Cw E A s [(a_t, .inr (6, [.int x_t_isTrue, .int x_t_caskets, .int x_t_wooers, .ref a_t_metal, .ref a_t_kind, .ref a_t_now, .ref a_t_readOf, .ref a_t_readKind, .int x_t_readTrue, .int x_t_readCaskets, .int x_t_readWooers, .int x_t_readPicture, .ref a_t_text, .int x_t_length, .int x_t_at, .int x_t_faultAt, .int x_t_acts, .int x_t_next, .ref a_t_row, .int x_t_riddleMany, .ref a_t_nots, .long x_t_seed, .ref a_t_isKept, .ref a_t_kept])), (a_t_text, .inl (E.2.1, 40, .inl r_t_text))]) (h : f_X6_figureOf_58 x_t_at x_t_faultAt = some (o_r, o_x_t_at, o_x_t_faultAt)) (H : Heap) (locs : List Loc) (hP : va_P E.1 vwCl [(a_t, .inr (6, [.int x_t_isTrue, .int x_t_caskets, .int x_t_wooers, .ref a_t_metal, .ref a_t_kind, .ref a_t_now, .ref a_t_readOf, .ref a_t_readKind, .int x_t_readTrue, .int x_t_readCaskets, .int x_t_readWooers, .int x_t_readPicture, .ref a_t_text, .int x_t_length, .int x_t_at, .int x_t_faultAt, .int x_t_acts, .int x_t_next, .ref a_t_row, .int x_t_riddleMany, .ref a_t_nots, .long x_t_seed, .ref a_t_isKept, .ref a_t_kept])), (a_t_text, .inl (E.2.1, 40, .inl r_t_text))] H) (hS : va_S A s.heap H locs) (ls : Array Slot) (hl : lv_has ls 3 [(0, .ref a_t)]) : W p l e { frames := 1, cells := 0, slots := 0, locals := 25 } s m args below meth c H locs 0 0 (MQ below (Qw E (some (.int o_r)) [(a_t, .inr (6, [.int x_t_isTrue, .int x_t_caskets, .int x_t_wooers, .ref a_t_metal, .ref a_t_kind, .ref a_t_now, .ref a_t_readOf, .ref a_t_readKind, .int x_t_readTrue, .int x_t_readCaskets, .int x_t_readWooers, .int x_t_readPicture, .ref a_t_text, .int x_t_length, .int o_x_t_at, .int o_x_t_faultAt, .int x_t_acts, .int x_t_next, .ref a_t_row, .int x_t_riddleMany, .ref a_t_nots, .long x_t_seed, .ref a_t_isKept, .ref a_t_kept])), (a_t_text, .inl (E.2.1, 40, .inl r_t_text))] A) args s 0 0 A) (F0 m 58 ls []) := by
  obtain ⟨⟨hx, hb, hml, hown, hts⟩, hr, hlocks⟩ := id X
  obtain ⟨hC, hAB, hA, hB, hD⟩ := id hw
  have hiX6 : ∀ w ∈ u_ws RX6 TX6 24, w ∈ wsX6_figureOf := by decide +kernel
  have hK := hC.1
  unfold f_X6_figureOf_58 at h
  refine lv_aload_n hx hb dX6_figureOf_58 rfl (lv_at hl 0 rfl) ?_
  refine lv_aload_n hx hb dX6_figureOf_59 rfl (lv_at hl 0 rfl) ?_
  refine va_get (D := E.1) (ci := 6) (v := .int x_t_faultAt) (C := RX6) (T := TX6) (N := 24) hx hb hts hiX6 hown hK hP 0 rfl rfl 15 (by decide) (hts (.fieldLink RX6 54 "CasketLinesModel" "faultAt" "I") (by decide +kernel)) (fun _ h9 => h9) rfl dX6_figureOf_60 ?_
  refine lv_bipush (v := (-9)) hx hb dX6_figureOf_63 (by decide) ?_
  refine lv_icmp_ne (tgt := 75) hx hb dX6_figureOf_65 (by decide) (fun c7 => ?_) (fun c7 => ?_)
  · have h := ifn c7 h
    refine lv_aload_n hx hb dX6_figureOf_75 rfl (lv_at hl 0 rfl) ?_
    refine va_get (D := E.1) (ci := 6) (v := .int x_t_faultAt) (C := RX6) (T := TX6) (N := 24) hx hb hts hiX6 hown hK hP 0 rfl rfl 15 (by decide) (hts (.fieldLink RX6 54 "CasketLinesModel" "faultAt" "I") (by decide +kernel)) (fun _ h9 => h9) rfl dX6_figureOf_76 ?_
    refine va_put (D := E.1) (ci := 6) (v := .int x_t_faultAt) (ty := .int) (C := RX6) (T := TX6) (N := 24) hx hb hts hiX6 tyX6 tyX6_ok nmX6 hown hK hP (hD.adr rfl) hS 0 rfl rfl 15 (by decide) (hts (.fieldLink RX6 54 "CasketLinesModel" "faultAt" "I") (by decide +kernel)) (fun _ h9 => h9) rfl (by decide +kernel) rfl rfl (Nat.le_of_ble_eq_true rfl) dX6_figureOf_79 (fun H locs hP _ hS => ?_)
    have hP : va_P E.1 vwCl [(a_t, .inr (6, [.int x_t_isTrue, .int x_t_caskets, .int x_t_wooers, .ref a_t_metal, .ref a_t_kind, .ref a_t_now, .ref a_t_readOf, .ref a_t_readKind, .int x_t_readTrue, .int x_t_readCaskets, .int x_t_readWooers, .int x_t_readPicture, .ref a_t_text, .int x_t_length, .int x_t_at, .int x_t_faultAt, .int x_t_acts, .int x_t_next, .ref a_t_row, .int x_t_riddleMany, .ref a_t_nots, .long x_t_seed, .ref a_t_isKept, .ref a_t_kept])), (a_t_text, .inl (E.2.1, 40, .inl r_t_text))] H := hP
    refine lv_iconst (v := 0) hx hb dX6_figureOf_82 (by decide) ?_
    exact W.iret hx hb hr (fun t ht _ => ⟨by cases h; rfl, by rw [ht]; cases h; exact hP, hS.F ht⟩) hS.2.2 dX6_figureOf_83
  · have h := ifp c7 h
    refine lv_aload_n hx hb dX6_figureOf_68 rfl (lv_at hl 0 rfl) ?_
    refine va_get (D := E.1) (ci := 6) (v := .int x_t_at) (C := RX6) (T := TX6) (N := 24) hx hb hts hiX6 hown hK hP 0 rfl rfl 14 (by decide) (hts (.fieldLink RX6 57 "CasketLinesModel" "at" "I") (by decide +kernel)) (fun _ h9 => h9) rfl dX6_figureOf_69 ?_
    refine lv_goto (tgt := 79) hx hb dX6_figureOf_72 (by decide) ?_
    refine va_put (D := E.1) (ci := 6) (v := .int x_t_at) (ty := .int) (C := RX6) (T := TX6) (N := 24) hx hb hts hiX6 tyX6 tyX6_ok nmX6 hown hK hP (hD.adr rfl) hS 0 rfl rfl 15 (by decide) (hts (.fieldLink RX6 54 "CasketLinesModel" "faultAt" "I") (by decide +kernel)) (fun _ h9 => h9) rfl (by decide +kernel) rfl rfl (Nat.le_of_ble_eq_true rfl) dX6_figureOf_79 (fun H locs hP _ hS => ?_)
    have hP : va_P E.1 vwCl [(a_t, .inr (6, [.int x_t_isTrue, .int x_t_caskets, .int x_t_wooers, .ref a_t_metal, .ref a_t_kind, .ref a_t_now, .ref a_t_readOf, .ref a_t_readKind, .int x_t_readTrue, .int x_t_readCaskets, .int x_t_readWooers, .int x_t_readPicture, .ref a_t_text, .int x_t_length, .int x_t_at, .int x_t_at, .int x_t_acts, .int x_t_next, .ref a_t_row, .int x_t_riddleMany, .ref a_t_nots, .long x_t_seed, .ref a_t_isKept, .ref a_t_kept])), (a_t_text, .inl (E.2.1, 40, .inl r_t_text))] H := hP
    refine lv_iconst (v := 0) hx hb dX6_figureOf_82 (by decide) ?_
    exact W.iret hx hb hr (fun t ht _ => ⟨by cases h; rfl, by rw [ht]; cases h; exact hP, hS.F ht⟩) hS.2.2 dX6_figureOf_83
set_option maxHeartbeats 4000000 in
set_option maxRecDepth 100000 in
theorem w_X6_figureOf_37 {p : Program} {l : Launch} {e : Env} {s : State} {m : MethodId} {args : Array Value} {below : List Frame} {meth : Method} {c : Code} {E : Ev} {A : Nat → Prop} (a_t a_t_metal a_t_kind a_t_now a_t_readOf a_t_readKind a_t_text a_t_row a_t_nots a_t_isKept a_t_kept : Nat) (x_t_isTrue : Int32) (x_t_caskets : Int32) (x_t_wooers : Int32) (x_t_readTrue : Int32) (x_t_readCaskets : Int32) (x_t_readWooers : Int32) (x_t_readPicture : Int32) (x_t_length : Int32) (x_t_at : Int32) (x_t_faultAt : Int32) (x_t_acts : Int32) (x_t_next : Int32) (x_t_riddleMany : Int32) (x_t_seed : Int64) (r_t_text : Nat → Int32) (v1 : Int32) (s0 : Int32) (o_r : Int32) (o_x_t_at : Int32) (o_x_t_faultAt : Int32) (X : Cxt p s m args meth c cX6_figureOf 3 wsX6_figureOf RX6 (some .int)) (hw : Cw E A s [(a_t, .inr (6, [.int x_t_isTrue, .int x_t_caskets, .int x_t_wooers, .ref a_t_metal, .ref a_t_kind, .ref a_t_now, .ref a_t_readOf, .ref a_t_readKind, .int x_t_readTrue, .int x_t_readCaskets, .int x_t_readWooers, .int x_t_readPicture, .ref a_t_text, .int x_t_length, .int x_t_at, .int x_t_faultAt, .int x_t_acts, .int x_t_next, .ref a_t_row, .int x_t_riddleMany, .ref a_t_nots, .long x_t_seed, .ref a_t_isKept, .ref a_t_kept])), (a_t_text, .inl (E.2.1, 40, .inl r_t_text))]) (h : f_X6_figureOf_37 x_t_at x_t_faultAt v1 s0 = some (o_r, o_x_t_at, o_x_t_faultAt)) (H : Heap) (locs : List Loc) (hP : va_P E.1 vwCl [(a_t, .inr (6, [.int x_t_isTrue, .int x_t_caskets, .int x_t_wooers, .ref a_t_metal, .ref a_t_kind, .ref a_t_now, .ref a_t_readOf, .ref a_t_readKind, .int x_t_readTrue, .int x_t_readCaskets, .int x_t_readWooers, .int x_t_readPicture, .ref a_t_text, .int x_t_length, .int x_t_at, .int x_t_faultAt, .int x_t_acts, .int x_t_next, .ref a_t_row, .int x_t_riddleMany, .ref a_t_nots, .long x_t_seed, .ref a_t_isKept, .ref a_t_kept])), (a_t_text, .inl (E.2.1, 40, .inl r_t_text))] H) (hS : va_S A s.heap H locs) (ls : Array Slot) (hl : lv_has ls 3 [(0, .ref a_t), (1, .int v1)]) : W p l e { frames := 1, cells := 0, slots := 0, locals := 25 } s m args below meth c H locs 0 0 (MQ below (Qw E (some (.int o_r)) [(a_t, .inr (6, [.int x_t_isTrue, .int x_t_caskets, .int x_t_wooers, .ref a_t_metal, .ref a_t_kind, .ref a_t_now, .ref a_t_readOf, .ref a_t_readKind, .int x_t_readTrue, .int x_t_readCaskets, .int x_t_readWooers, .int x_t_readPicture, .ref a_t_text, .int x_t_length, .int o_x_t_at, .int o_x_t_faultAt, .int x_t_acts, .int x_t_next, .ref a_t_row, .int x_t_riddleMany, .ref a_t_nots, .long x_t_seed, .ref a_t_isKept, .ref a_t_kept])), (a_t_text, .inl (E.2.1, 40, .inl r_t_text))] A) args s 0 0 A) (F0 m 37 ls [.int s0]) := by
  obtain ⟨⟨hx, hb, hml, hown, hts⟩, hr, hlocks⟩ := id X
  obtain ⟨hC, hAB, hA, hB, hD⟩ := id hw
  have hiX6 : ∀ w ∈ u_ws RX6 TX6 24, w ∈ wsX6_figureOf := by decide +kernel
  have hK := hC.1
  unfold f_X6_figureOf_37 at h
  refine lv_istore_n (lv' := [(2, .int s0), (0, .ref a_t), (1, .int v1)]) hx hb dX6_figureOf_37 rfl hl (by decide) rfl (fun ls hl => ?_)
  refine lv_iload_n hx hb dX6_figureOf_38 rfl (lv_at hl 0 rfl) ?_
  refine lv_i2l hx hb dX6_figureOf_39 rfl ?_
  refine lv_lconst (v := 0) hx hb dX6_figureOf_40 (by decide) ?_
  refine lv_ldc2 (own := RX6) (v := 9) hx hb hown (hts (.constantLong RX6 60 9) (by decide +kernel)) dX6_figureOf_41 ?_
  obtain ⟨r1, g2, h⟩ := bnd h
  refine rcS (As := [.long (Int32.toInt64 s0), .long 0, .long 9]) (rest := []) ⟨hx, hb, hml, hown, hts⟩ (k_X6_in (l := l) (E := E) (Int32.toInt64 s0) 0 9 r1 g2) (va_cwS 3 hts gX6_figureOf_X6_in rfl rfl rfl (by decide +kernel) ⟨Nat.le_of_ble_eq_true rfl, Nat.le_of_ble_eq_true rfl⟩) (hC.here hS hAB) hP [] rfl rfl hl.1 rfl (Nat.le_of_ble_eq_true rfl) dX6_figureOf_44 ⟨Nat.zero_le _, Nat.zero_le _⟩ ?_
  refine lv_if_eq (tgt := 58) hx hb dX6_figureOf_47 (by decide) (fun c3 => ?_) (fun c3 => ?_)
  · have h := ifp c3 h
    exact w_X6_figureOf_58 a_t a_t_metal a_t_kind a_t_now a_t_readOf a_t_readKind a_t_text a_t_row a_t_nots a_t_isKept a_t_kept x_t_isTrue x_t_caskets x_t_wooers x_t_readTrue x_t_readCaskets x_t_readWooers x_t_readPicture x_t_length x_t_at x_t_faultAt x_t_acts x_t_next x_t_riddleMany x_t_seed r_t_text   o_r o_x_t_at o_x_t_faultAt X (hw.adr rfl)  h H locs hP hS ls (lv_sub hl [1] rfl)
  · have h := ifn c3 h
    refine lv_iload_n hx hb dX6_figureOf_50 rfl (lv_at hl 2 rfl) ?_
    refine lv_iload_n hx hb dX6_figureOf_51 rfl (lv_at hl 0 rfl) ?_
    obtain ⟨r4, g5, h⟩ := bnd h
    refine rcS (As := [.int v1, .int s0]) (rest := []) ⟨hx, hb, hml, hown, hts⟩ (k_X6_has (l := l) (E := E) v1 s0 r4 g5) (va_cwS 2 hts gX6_figureOf_X6_has rfl rfl rfl (by decide +kernel) ⟨Nat.le_of_ble_eq_true rfl, Nat.le_of_ble_eq_true rfl⟩) (hC.here hS hAB) hP [] rfl rfl hl.1 rfl (Nat.le_of_ble_eq_true rfl) dX6_figureOf_52 ⟨Nat.zero_le _, Nat.zero_le _⟩ ?_
    refine lv_if_ne (tgt := 84) hx hb dX6_figureOf_55 (by decide) (fun c6 => ?_) (fun c6 => ?_)
    · have h := ifn c6 h
      refine lv_aload_n hx hb dX6_figureOf_84 rfl (lv_at hl 1 rfl) ?_
      refine lv_dup hx hb dX6_figureOf_85 rfl ?_
      refine va_get (D := E.1) (ci := 6) (v := .int x_t_at) (C := RX6) (T := TX6) (N := 24) hx hb hts hiX6 hown hK hP 0 rfl rfl 14 (by decide) (hts (.fieldLink RX6 57 "CasketLinesModel" "at" "I") (by decide +kernel)) (fun _ h9 => h9) rfl dX6_figureOf_86 ?_
      refine lv_iconst (v := 1) hx hb dX6_figureOf_89 (by decide) ?_
      refine lv_iadd hx hb dX6_figureOf_90 ?_
      refine va_put (D := E.1) (ci := 6) (v := .int (x_t_at + 1)) (ty := .int) (C := RX6) (T := TX6) (N := 24) hx hb hts hiX6 tyX6 tyX6_ok nmX6 hown hK hP (hD.adr rfl) hS 0 rfl rfl 14 (by decide) (hts (.fieldLink RX6 57 "CasketLinesModel" "at" "I") (by decide +kernel)) (fun _ h9 => h9) rfl (by decide +kernel) rfl rfl (Nat.le_of_ble_eq_true rfl) dX6_figureOf_91 (fun H locs hP _ hS => ?_)
      have hP : va_P E.1 vwCl [(a_t, .inr (6, [.int x_t_isTrue, .int x_t_caskets, .int x_t_wooers, .ref a_t_metal, .ref a_t_kind, .ref a_t_now, .ref a_t_readOf, .ref a_t_readKind, .int x_t_readTrue, .int x_t_readCaskets, .int x_t_readWooers, .int x_t_readPicture, .ref a_t_text, .int x_t_length, .int (x_t_at + 1), .int x_t_faultAt, .int x_t_acts, .int x_t_next, .ref a_t_row, .int x_t_riddleMany, .ref a_t_nots, .long x_t_seed, .ref a_t_isKept, .ref a_t_kept])), (a_t_text, .inl (E.2.1, 40, .inl r_t_text))] H := hP
      refine lv_iload_n hx hb dX6_figureOf_94 rfl (lv_at hl 0 rfl) ?_
      exact W.iret hx hb hr (fun t ht _ => ⟨by cases h; rfl, by rw [ht]; cases h; exact hP, hS.F ht⟩) hS.2.2 dX6_figureOf_95
    · have h := ifp c6 h
      exact w_X6_figureOf_58 a_t a_t_metal a_t_kind a_t_now a_t_readOf a_t_readKind a_t_text a_t_row a_t_nots a_t_isKept a_t_kept x_t_isTrue x_t_caskets x_t_wooers x_t_readTrue x_t_readCaskets x_t_readWooers x_t_readPicture x_t_length x_t_at x_t_faultAt x_t_acts x_t_next x_t_riddleMany x_t_seed r_t_text   o_r o_x_t_at o_x_t_faultAt X (hw.adr rfl)  h H locs hP hS ls (lv_sub hl [1] rfl)
set_option maxHeartbeats 4000000 in
set_option maxRecDepth 100000 in
theorem w_X6_figureOf {p : Program} {l : Launch} {e : Env} {s : State} {m : MethodId} {args : Array Value} {below : List Frame} {meth : Method} {c : Code} {E : Ev} {A : Nat → Prop} (a_t a_t_metal a_t_kind a_t_now a_t_readOf a_t_readKind a_t_text a_t_row a_t_nots a_t_isKept a_t_kept : Nat) (x_t_isTrue : Int32) (x_t_caskets : Int32) (x_t_wooers : Int32) (x_t_readTrue : Int32) (x_t_readCaskets : Int32) (x_t_readWooers : Int32) (x_t_readPicture : Int32) (x_t_length : Int32) (x_t_at : Int32) (x_t_faultAt : Int32) (x_t_acts : Int32) (x_t_next : Int32) (x_t_riddleMany : Int32) (x_t_seed : Int64) (r_t_text : Nat → Int32) (p1 : Int32) (o_r : Int32) (o_x_t_at : Int32) (o_x_t_faultAt : Int32) (X : Cxt p s m args meth c cX6_figureOf 3 wsX6_figureOf RX6 (some .int)) (hw : Cw E A s [(a_t, .inr (6, [.int x_t_isTrue, .int x_t_caskets, .int x_t_wooers, .ref a_t_metal, .ref a_t_kind, .ref a_t_now, .ref a_t_readOf, .ref a_t_readKind, .int x_t_readTrue, .int x_t_readCaskets, .int x_t_readWooers, .int x_t_readPicture, .ref a_t_text, .int x_t_length, .int x_t_at, .int x_t_faultAt, .int x_t_acts, .int x_t_next, .ref a_t_row, .int x_t_riddleMany, .ref a_t_nots, .long x_t_seed, .ref a_t_isKept, .ref a_t_kept])), (a_t_text, .inl (E.2.1, 40, .inl r_t_text))]) (h : f_X6_figureOf x_t_length x_t_at x_t_faultAt r_t_text p1 = some (o_r, o_x_t_at, o_x_t_faultAt)) {H : Heap} {locs : List Loc} (hP : va_P E.1 vwCl [(a_t, .inr (6, [.int x_t_isTrue, .int x_t_caskets, .int x_t_wooers, .ref a_t_metal, .ref a_t_kind, .ref a_t_now, .ref a_t_readOf, .ref a_t_readKind, .int x_t_readTrue, .int x_t_readCaskets, .int x_t_readWooers, .int x_t_readPicture, .ref a_t_text, .int x_t_length, .int x_t_at, .int x_t_faultAt, .int x_t_acts, .int x_t_next, .ref a_t_row, .int x_t_riddleMany, .ref a_t_nots, .long x_t_seed, .ref a_t_isKept, .ref a_t_kept])), (a_t_text, .inl (E.2.1, 40, .inl r_t_text))] H) (hS : va_S A s.heap H locs) {ls : Array Slot} (hl : lv_has ls 3 [(0, .ref a_t), (1, .int p1)]) : W p l e { frames := 1, cells := 0, slots := 0, locals := 25 } s m args below meth c H locs 0 0 (MQ below (Qw E (some (.int o_r)) [(a_t, .inr (6, [.int x_t_isTrue, .int x_t_caskets, .int x_t_wooers, .ref a_t_metal, .ref a_t_kind, .ref a_t_now, .ref a_t_readOf, .ref a_t_readKind, .int x_t_readTrue, .int x_t_readCaskets, .int x_t_readWooers, .int x_t_readPicture, .ref a_t_text, .int x_t_length, .int o_x_t_at, .int o_x_t_faultAt, .int x_t_acts, .int x_t_next, .ref a_t_row, .int x_t_riddleMany, .ref a_t_nots, .long x_t_seed, .ref a_t_isKept, .ref a_t_kept])), (a_t_text, .inl (E.2.1, 40, .inl r_t_text))] A) args s 0 0 A) (F0 m 0 ls []) := by
  obtain ⟨⟨hx, hb, hml, hown, hts⟩, hr, hlocks⟩ := id X
  obtain ⟨hC, hAB, hA, hB, hD⟩ := id hw
  have hiX6 : ∀ w ∈ u_ws RX6 TX6 24, w ∈ wsX6_figureOf := by decide +kernel
  have hK := hC.1
  unfold f_X6_figureOf at h
  refine lv_aload_n hx hb dX6_figureOf_0 rfl (lv_at hl 0 rfl) ?_
  refine va_get (D := E.1) (ci := 6) (v := .int x_t_faultAt) (C := RX6) (T := TX6) (N := 24) hx hb hts hiX6 hown hK hP 0 rfl rfl 15 (by decide) (hts (.fieldLink RX6 54 "CasketLinesModel" "faultAt" "I") (by decide +kernel)) (fun _ h9 => h9) rfl dX6_figureOf_1 ?_
  refine lv_bipush (v := (-9)) hx hb dX6_figureOf_4 (by decide) ?_
  refine lv_icmp_ne (tgt := 35) hx hb dX6_figureOf_6 (by decide) (fun c8 => ?_) (fun c8 => ?_)
  · have h := ifn c8 h
    refine lv_bipush (v := (-9)) hx hb dX6_figureOf_35 (by decide) ?_
    exact w_X6_figureOf_37 a_t a_t_metal a_t_kind a_t_now a_t_readOf a_t_readKind a_t_text a_t_row a_t_nots a_t_isKept a_t_kept x_t_isTrue x_t_caskets x_t_wooers x_t_readTrue x_t_readCaskets x_t_readWooers x_t_readPicture x_t_length x_t_at x_t_faultAt x_t_acts x_t_next x_t_riddleMany x_t_seed r_t_text p1 (-9)  o_r o_x_t_at o_x_t_faultAt X (hw.adr rfl)  h H locs hP hS ls (lv_sub hl [0, 1] rfl)
  · have h := ifp c8 h
    refine lv_aload_n hx hb dX6_figureOf_9 rfl (lv_at hl 0 rfl) ?_
    refine va_get (D := E.1) (ci := 6) (v := .int x_t_at) (C := RX6) (T := TX6) (N := 24) hx hb hts hiX6 hown hK hP 0 rfl rfl 14 (by decide) (hts (.fieldLink RX6 57 "CasketLinesModel" "at" "I") (by decide +kernel)) (fun _ h9 => h9) rfl dX6_figureOf_10 ?_
    refine lv_aload_n hx hb dX6_figureOf_13 rfl (lv_at hl 0 rfl) ?_
    refine va_get (D := E.1) (ci := 6) (v := .int x_t_length) (C := RX6) (T := TX6) (N := 24) hx hb hts hiX6 hown hK hP 0 rfl rfl 13 (by decide) (hts (.fieldLink RX6 51 "CasketLinesModel" "length" "I") (by decide +kernel)) (fun _ h9 => h9) rfl dX6_figureOf_14 ?_
    refine lv_icmp_ge (tgt := 35) hx hb dX6_figureOf_17 (by decide) (fun c9 => ?_) (fun c9 => ?_)
    · have h := ifp c9 h
      refine lv_bipush (v := (-9)) hx hb dX6_figureOf_35 (by decide) ?_
      exact w_X6_figureOf_37 a_t a_t_metal a_t_kind a_t_now a_t_readOf a_t_readKind a_t_text a_t_row a_t_nots a_t_isKept a_t_kept x_t_isTrue x_t_caskets x_t_wooers x_t_readTrue x_t_readCaskets x_t_readWooers x_t_readPicture x_t_length x_t_at x_t_faultAt x_t_acts x_t_next x_t_riddleMany x_t_seed r_t_text p1 (-9)  o_r o_x_t_at o_x_t_faultAt X (hw.adr rfl)  h H locs hP hS ls (lv_sub hl [0, 1] rfl)
    · have h := ifn c9 h
      refine lv_aload_n hx hb dX6_figureOf_20 rfl (lv_at hl 0 rfl) ?_
      refine va_get (D := E.1) (ci := 6) (v := .ref a_t_text) (C := RX6) (T := TX6) (N := 24) hx hb hts hiX6 hown hK hP 0 rfl rfl 12 (by decide) (hts (.fieldLink RX6 25 "CasketLinesModel" "text" "[I") (by decide +kernel)) (fun _ h9 => h9) rfl dX6_figureOf_21 ?_
      refine lv_aload_n hx hb dX6_figureOf_24 rfl (lv_at hl 0 rfl) ?_
      refine va_get (D := E.1) (ci := 6) (v := .int x_t_at) (C := RX6) (T := TX6) (N := 24) hx hb hts hiX6 hown hK hP 0 rfl rfl 14 (by decide) (hts (.fieldLink RX6 57 "CasketLinesModel" "at" "I") (by decide +kernel)) (fun _ h9 => h9) rfl dX6_figureOf_25 ?_
      obtain ⟨b10, h⟩ := gdn h
      refine va_iald hx hb hK hP 1 0 rfl rfl b10 dX6_figureOf_28 ?_
      refine lv_bipush (v := 48) hx hb dX6_figureOf_29 (by decide) ?_
      refine lv_isub hx hb dX6_figureOf_31 ?_
      refine lv_goto (tgt := 37) hx hb dX6_figureOf_32 (by decide) ?_
      exact w_X6_figureOf_37 a_t a_t_metal a_t_kind a_t_now a_t_readOf a_t_readKind a_t_text a_t_row a_t_nots a_t_isKept a_t_kept x_t_isTrue x_t_caskets x_t_wooers x_t_readTrue x_t_readCaskets x_t_readWooers x_t_readPicture x_t_length x_t_at x_t_faultAt x_t_acts x_t_next x_t_riddleMany x_t_seed r_t_text p1 ((r_t_text (Int32.toNatClampNeg x_t_at)) - 48)  o_r o_x_t_at o_x_t_faultAt X (hw.adr rfl)  h H locs hP hS ls (lv_sub hl [0, 1] rfl)
set_option maxHeartbeats 4000000 in
set_option maxRecDepth 100000 in
theorem k_X6_figureOf {l : Launch} {E : Ev} (a_t a_t_metal a_t_kind a_t_now a_t_readOf a_t_readKind a_t_text a_t_row a_t_nots a_t_isKept a_t_kept : Nat) (x_t_isTrue : Int32) (x_t_caskets : Int32) (x_t_wooers : Int32) (x_t_readTrue : Int32) (x_t_readCaskets : Int32) (x_t_readWooers : Int32) (x_t_readPicture : Int32) (x_t_length : Int32) (x_t_at : Int32) (x_t_faultAt : Int32) (x_t_acts : Int32) (x_t_next : Int32) (x_t_riddleMany : Int32) (x_t_seed : Int64) (r_t_text : Nat → Int32) (p1 : Int32) (sz : Nat) (o_r : Int32) (o_x_t_at : Int32) (o_x_t_faultAt : Int32) (hf : f_X6_figureOf x_t_length x_t_at x_t_faultAt r_t_text p1 = some (o_r, o_x_t_at, o_x_t_faultAt)) : Met l yX6_figureOf wsX6_figureOf ({ frames := 1, cells := 0, slots := 0, locals := 25 }) (Pw E [.ref a_t, .int p1] [(a_t, .inr (6, [.int x_t_isTrue, .int x_t_caskets, .int x_t_wooers, .ref a_t_metal, .ref a_t_kind, .ref a_t_now, .ref a_t_readOf, .ref a_t_readKind, .int x_t_readTrue, .int x_t_readCaskets, .int x_t_readWooers, .int x_t_readPicture, .ref a_t_text, .int x_t_length, .int x_t_at, .int x_t_faultAt, .int x_t_acts, .int x_t_next, .ref a_t_row, .int x_t_riddleMany, .ref a_t_nots, .long x_t_seed, .ref a_t_isKept, .ref a_t_kept])), (a_t_text, .inl (E.2.1, 40, .inl r_t_text))] sz) (Qw E (some (.int o_r)) [(a_t, .inr (6, [.int x_t_isTrue, .int x_t_caskets, .int x_t_wooers, .ref a_t_metal, .ref a_t_kind, .ref a_t_now, .ref a_t_readOf, .ref a_t_readKind, .int x_t_readTrue, .int x_t_readCaskets, .int x_t_readWooers, .int x_t_readPicture, .ref a_t_text, .int x_t_length, .int o_x_t_at, .int o_x_t_faultAt, .int x_t_acts, .int x_t_next, .ref a_t_row, .int x_t_riddleMany, .ref a_t_nots, .long x_t_seed, .ref a_t_isKept, .ref a_t_kept])), (a_t_text, .inl (E.2.1, 40, .inl r_t_text))] (va_A [(a_t, .inr (6, [.int x_t_isTrue, .int x_t_caskets, .int x_t_wooers, .ref a_t_metal, .ref a_t_kind, .ref a_t_now, .ref a_t_readOf, .ref a_t_readKind, .int x_t_readTrue, .int x_t_readCaskets, .int x_t_readWooers, .int x_t_readPicture, .ref a_t_text, .int x_t_length, .int x_t_at, .int x_t_faultAt, .int x_t_acts, .int x_t_next, .ref a_t_row, .int x_t_riddleMany, .ref a_t_nots, .long x_t_seed, .ref a_t_isKept, .ref a_t_kept])), (a_t_text, .inl (E.2.1, 40, .inl r_t_text))] sz)) 0 0 (va_A [(a_t, .inr (6, [.int x_t_isTrue, .int x_t_caskets, .int x_t_wooers, .ref a_t_metal, .ref a_t_kind, .ref a_t_now, .ref a_t_readOf, .ref a_t_readKind, .int x_t_readTrue, .int x_t_readCaskets, .int x_t_readWooers, .int x_t_readPicture, .ref a_t_text, .int x_t_length, .int x_t_at, .int x_t_faultAt, .int x_t_acts, .int x_t_next, .ref a_t_row, .int x_t_riddleMany, .ref a_t_nots, .long x_t_seed, .ref a_t_isKept, .ref a_t_kept])), (a_t_text, .inl (E.2.1, 40, .inl r_t_text))] sz) := by
  refine Met.ofW (cc := cX6_figureOf) (maxL := 3) (ret := (some .int)) (by decide) rfl ?_
  intro p e s m args below meth c s₁ B hml hv
  obtain ⟨rfl, rfl, hw, hP⟩ := Pw.start hv
  have X := Cxt.of B hml
  have hl := lv_entry ([.ref a_t, .int p1]) (n := 3) (Nat.le_of_ble_eq_true rfl)
  rw [lg_entry_eq]
  exact w_X6_figureOf a_t a_t_metal a_t_kind a_t_now a_t_readOf a_t_readKind a_t_text a_t_row a_t_nots a_t_isKept a_t_kept x_t_isTrue x_t_caskets x_t_wooers x_t_readTrue x_t_readCaskets x_t_readWooers x_t_readPicture x_t_length x_t_at x_t_faultAt x_t_acts x_t_next x_t_riddleMany x_t_seed r_t_text p1 o_r o_x_t_at o_x_t_faultAt X hw hf hP va_S.rf hl
set_option maxHeartbeats 4000000 in
set_option maxRecDepth 100000 in
theorem w_X6_readPart_122 {p : Program} {l : Launch} {e : Env} {s : State} {m : MethodId} {args : Array Value} {below : List Frame} {meth : Method} {c : Code} {E : Ev} {A : Nat → Prop} (a_t a_t_metal a_t_kind a_t_now a_t_readOf a_t_readKind a_t_text a_t_row a_t_nots a_t_isKept a_t_kept : Nat) (x_t_isTrue : Int32) (x_t_caskets : Int32) (x_t_wooers : Int32) (x_t_readTrue : Int32) (x_t_readCaskets : Int32) (x_t_readWooers : Int32) (x_t_readPicture : Int32) (x_t_length : Int32) (x_t_at : Int32) (x_t_faultAt : Int32) (x_t_acts : Int32) (x_t_next : Int32) (x_t_riddleMany : Int32) (x_t_seed : Int64) (r_t_readOf : Nat → Int32) (r_t_readKind : Nat → Int32) (r_t_text : Nat → Int32) (s0 : Int32) (o_x_t_readCaskets : Int32) (o_x_t_readWooers : Int32) (o_x_t_readPicture : Int32) (o_x_t_at : Int32) (o_x_t_faultAt : Int32) (o_r_t_readOf : Nat → Int32) (o_r_t_readKind : Nat → Int32) (X : Cxt p s m args meth c cX6_readPart 3 wsX6_readPart RX6 none) (hw : Cw E A s [(a_t, .inr (6, [.int x_t_isTrue, .int x_t_caskets, .int x_t_wooers, .ref a_t_metal, .ref a_t_kind, .ref a_t_now, .ref a_t_readOf, .ref a_t_readKind, .int x_t_readTrue, .int x_t_readCaskets, .int x_t_readWooers, .int x_t_readPicture, .ref a_t_text, .int x_t_length, .int x_t_at, .int x_t_faultAt, .int x_t_acts, .int x_t_next, .ref a_t_row, .int x_t_riddleMany, .ref a_t_nots, .long x_t_seed, .ref a_t_isKept, .ref a_t_kept])), (a_t_readOf, .inl (E.2.1, 12, .inl r_t_readOf)), (a_t_readKind, .inl (E.2.1, 6, .inl r_t_readKind)), (a_t_text, .inl (E.2.1, 40, .inl r_t_text))]) (h : f_X6_readPart_122 x_t_readCaskets x_t_readWooers x_t_readPicture x_t_at x_t_faultAt r_t_readOf r_t_readKind s0 = some (o_x_t_readCaskets, o_x_t_readWooers, o_x_t_readPicture, o_x_t_at, o_x_t_faultAt, o_r_t_readOf, o_r_t_readKind)) (H : Heap) (locs : List Loc) (hP : va_P E.1 vwCl [(a_t, .inr (6, [.int x_t_isTrue, .int x_t_caskets, .int x_t_wooers, .ref a_t_metal, .ref a_t_kind, .ref a_t_now, .ref a_t_readOf, .ref a_t_readKind, .int x_t_readTrue, .int x_t_readCaskets, .int x_t_readWooers, .int x_t_readPicture, .ref a_t_text, .int x_t_length, .int x_t_at, .int x_t_faultAt, .int x_t_acts, .int x_t_next, .ref a_t_row, .int x_t_riddleMany, .ref a_t_nots, .long x_t_seed, .ref a_t_isKept, .ref a_t_kept])), (a_t_readOf, .inl (E.2.1, 12, .inl r_t_readOf)), (a_t_readKind, .inl (E.2.1, 6, .inl r_t_readKind)), (a_t_text, .inl (E.2.1, 40, .inl r_t_text))] H) (hS : va_S A s.heap H locs) (ls : Array Slot) (hl : lv_has ls 3 [(0, .ref a_t)]) : W p l e { frames := 2, cells := 0, slots := 0, locals := 47 } s m args below meth c H locs 0 0 (MQ below (Qw E none [(a_t, .inr (6, [.int x_t_isTrue, .int x_t_caskets, .int x_t_wooers, .ref a_t_metal, .ref a_t_kind, .ref a_t_now, .ref a_t_readOf, .ref a_t_readKind, .int x_t_readTrue, .int o_x_t_readCaskets, .int o_x_t_readWooers, .int o_x_t_readPicture, .ref a_t_text, .int x_t_length, .int o_x_t_at, .int o_x_t_faultAt, .int x_t_acts, .int x_t_next, .ref a_t_row, .int x_t_riddleMany, .ref a_t_nots, .long x_t_seed, .ref a_t_isKept, .ref a_t_kept])), (a_t_readOf, .inl (E.2.1, 12, .inl o_r_t_readOf)), (a_t_readKind, .inl (E.2.1, 6, .inl o_r_t_readKind)), (a_t_text, .inl (E.2.1, 40, .inl r_t_text))] A) args s 0 0 A) (F0 m 122 ls [.int s0, .ref a_t]) := by
  obtain ⟨⟨hx, hb, hml, hown, hts⟩, hr, hlocks⟩ := id X
  obtain ⟨hC, hAB, hA, hB, hD⟩ := id hw
  have hiX6 : ∀ w ∈ u_ws RX6 TX6 24, w ∈ wsX6_readPart := by decide +kernel
  have hK := hC.1
  unfold f_X6_readPart_122 at h
  refine va_put (D := E.1) (ci := 6) (v := .int s0) (ty := .int) (C := RX6) (T := TX6) (N := 24) hx hb hts hiX6 tyX6 tyX6_ok nmX6 hown hK hP (hD.adr rfl) hS 0 rfl rfl 11 (by decide) (hts (.fieldLink RX6 72 "CasketLinesModel" "readPicture" "I") (by decide +kernel)) (fun _ h9 => h9) rfl (by decide +kernel) rfl rfl (Nat.le_of_ble_eq_true rfl) dX6_readPart_122 (fun H locs hP _ hS => ?_)
  have hP : va_P E.1 vwCl [(a_t, .inr (6, [.int x_t_isTrue, .int x_t_caskets, .int x_t_wooers, .ref a_t_metal, .ref a_t_kind, .ref a_t_now, .ref a_t_readOf, .ref a_t_readKind, .int x_t_readTrue, .int x_t_readCaskets, .int x_t_readWooers, .int s0, .ref a_t_text, .int x_t_length, .int x_t_at, .int x_t_faultAt, .int x_t_acts, .int x_t_next, .ref a_t_row, .int x_t_riddleMany, .ref a_t_nots, .long x_t_seed, .ref a_t_isKept, .ref a_t_kept])), (a_t_readOf, .inl (E.2.1, 12, .inl r_t_readOf)), (a_t_readKind, .inl (E.2.1, 6, .inl r_t_readKind)), (a_t_text, .inl (E.2.1, 40, .inl r_t_text))] H := hP
  refine lv_aload_n hx hb dX6_readPart_125 rfl (lv_at hl 0 rfl) ?_
  refine lv_dup hx hb dX6_readPart_126 rfl ?_
  refine va_get (D := E.1) (ci := 6) (v := .int x_t_readCaskets) (C := RX6) (T := TX6) (N := 24) hx hb hts hiX6 hown hK hP 0 rfl rfl 9 (by decide) (hts (.fieldLink RX6 66 "CasketLinesModel" "readCaskets" "I") (by decide +kernel)) (fun _ h9 => h9) rfl dX6_readPart_127 ?_
  refine lv_iconst (v := 1) hx hb dX6_readPart_130 (by decide) ?_
  refine lv_iadd hx hb dX6_readPart_131 ?_
  refine va_put (D := E.1) (ci := 6) (v := .int (x_t_readCaskets + 1)) (ty := .int) (C := RX6) (T := TX6) (N := 24) hx hb hts hiX6 tyX6 tyX6_ok nmX6 hown hK hP (hD.adr rfl) hS 0 rfl rfl 9 (by decide) (hts (.fieldLink RX6 66 "CasketLinesModel" "readCaskets" "I") (by decide +kernel)) (fun _ h9 => h9) rfl (by decide +kernel) rfl rfl (Nat.le_of_ble_eq_true rfl) dX6_readPart_132 (fun H locs hP _ hS => ?_)
  have hP : va_P E.1 vwCl [(a_t, .inr (6, [.int x_t_isTrue, .int x_t_caskets, .int x_t_wooers, .ref a_t_metal, .ref a_t_kind, .ref a_t_now, .ref a_t_readOf, .ref a_t_readKind, .int x_t_readTrue, .int (x_t_readCaskets + 1), .int x_t_readWooers, .int s0, .ref a_t_text, .int x_t_length, .int x_t_at, .int x_t_faultAt, .int x_t_acts, .int x_t_next, .ref a_t_row, .int x_t_riddleMany, .ref a_t_nots, .long x_t_seed, .ref a_t_isKept, .ref a_t_kept])), (a_t_readOf, .inl (E.2.1, 12, .inl r_t_readOf)), (a_t_readKind, .inl (E.2.1, 6, .inl r_t_readKind)), (a_t_text, .inl (E.2.1, 40, .inl r_t_text))] H := hP
  refine lv_goto (tgt := 199) hx hb dX6_readPart_135 (by decide) ?_
  exact W.vret hx hb hr (fun t ht _ => ⟨by cases h; rfl, by rw [ht]; cases h; exact hP, hS.F ht⟩) hS.2.2 dX6_readPart_199
set_option maxHeartbeats 4000000 in
set_option maxRecDepth 100000 in
theorem w_X6_readPart_138 {p : Program} {l : Launch} {e : Env} {s : State} {m : MethodId} {args : Array Value} {below : List Frame} {meth : Method} {c : Code} {E : Ev} {A : Nat → Prop} (a_t a_t_metal a_t_kind a_t_now a_t_readOf a_t_readKind a_t_text a_t_row a_t_nots a_t_isKept a_t_kept : Nat) (x_t_isTrue : Int32) (x_t_caskets : Int32) (x_t_wooers : Int32) (x_t_readTrue : Int32) (x_t_readCaskets : Int32) (x_t_readWooers : Int32) (x_t_readPicture : Int32) (x_t_length : Int32) (x_t_at : Int32) (x_t_faultAt : Int32) (x_t_acts : Int32) (x_t_next : Int32) (x_t_riddleMany : Int32) (x_t_seed : Int64) (r_t_readOf : Nat → Int32) (r_t_readKind : Nat → Int32) (r_t_text : Nat → Int32) (v1 : Int32) (o_x_t_readCaskets : Int32) (o_x_t_readWooers : Int32) (o_x_t_readPicture : Int32) (o_x_t_at : Int32) (o_x_t_faultAt : Int32) (o_r_t_readOf : Nat → Int32) (o_r_t_readKind : Nat → Int32) (X : Cxt p s m args meth c cX6_readPart 3 wsX6_readPart RX6 none) (hw : Cw E A s [(a_t, .inr (6, [.int x_t_isTrue, .int x_t_caskets, .int x_t_wooers, .ref a_t_metal, .ref a_t_kind, .ref a_t_now, .ref a_t_readOf, .ref a_t_readKind, .int x_t_readTrue, .int x_t_readCaskets, .int x_t_readWooers, .int x_t_readPicture, .ref a_t_text, .int x_t_length, .int x_t_at, .int x_t_faultAt, .int x_t_acts, .int x_t_next, .ref a_t_row, .int x_t_riddleMany, .ref a_t_nots, .long x_t_seed, .ref a_t_isKept, .ref a_t_kept])), (a_t_readOf, .inl (E.2.1, 12, .inl r_t_readOf)), (a_t_readKind, .inl (E.2.1, 6, .inl r_t_readKind)), (a_t_text, .inl (E.2.1, 40, .inl r_t_text))]) (h : f_X6_readPart_138 x_t_readCaskets x_t_readWooers x_t_readPicture x_t_length x_t_at x_t_faultAt r_t_readOf r_t_readKind r_t_text v1 = some (o_x_t_readCaskets, o_x_t_readWooers, o_x_t_readPicture, o_x_t_at, o_x_t_faultAt, o_r_t_readOf, o_r_t_readKind)) (H : Heap) (locs : List Loc) (hP : va_P E.1 vwCl [(a_t, .inr (6, [.int x_t_isTrue, .int x_t_caskets, .int x_t_wooers, .ref a_t_metal, .ref a_t_kind, .ref a_t_now, .ref a_t_readOf, .ref a_t_readKind, .int x_t_readTrue, .int x_t_readCaskets, .int x_t_readWooers, .int x_t_readPicture, .ref a_t_text, .int x_t_length, .int x_t_at, .int x_t_faultAt, .int x_t_acts, .int x_t_next, .ref a_t_row, .int x_t_riddleMany, .ref a_t_nots, .long x_t_seed, .ref a_t_isKept, .ref a_t_kept])), (a_t_readOf, .inl (E.2.1, 12, .inl r_t_readOf)), (a_t_readKind, .inl (E.2.1, 6, .inl r_t_readKind)), (a_t_text, .inl (E.2.1, 40, .inl r_t_text))] H) (hS : va_S A s.heap H locs) (ls : Array Slot) (hl : lv_has ls 3 [(0, .ref a_t), (1, .int v1)]) : W p l e { frames := 2, cells := 0, slots := 0, locals := 47 } s m args below meth c H locs 0 0 (MQ below (Qw E none [(a_t, .inr (6, [.int x_t_isTrue, .int x_t_caskets, .int x_t_wooers, .ref a_t_metal, .ref a_t_kind, .ref a_t_now, .ref a_t_readOf, .ref a_t_readKind, .int x_t_readTrue, .int o_x_t_readCaskets, .int o_x_t_readWooers, .int o_x_t_readPicture, .ref a_t_text, .int x_t_length, .int o_x_t_at, .int o_x_t_faultAt, .int x_t_acts, .int x_t_next, .ref a_t_row, .int x_t_riddleMany, .ref a_t_nots, .long x_t_seed, .ref a_t_isKept, .ref a_t_kept])), (a_t_readOf, .inl (E.2.1, 12, .inl o_r_t_readOf)), (a_t_readKind, .inl (E.2.1, 6, .inl o_r_t_readKind)), (a_t_text, .inl (E.2.1, 40, .inl r_t_text))] A) args s 0 0 A) (F0 m 138 ls []) := by
  obtain ⟨⟨hx, hb, hml, hown, hts⟩, hr, hlocks⟩ := id X
  obtain ⟨hC, hAB, hA, hB, hD⟩ := id hw
  have hiX6 : ∀ w ∈ u_ws RX6 TX6 24, w ∈ wsX6_readPart := by decide +kernel
  have hK := hC.1
  unfold f_X6_readPart_138 at h
  refine lv_iload_n hx hb dX6_readPart_138 rfl (lv_at hl 1 rfl) ?_
  refine lv_bipush (v := 87) hx hb dX6_readPart_139 (by decide) ?_
  refine lv_icmp_ne (tgt := 191) hx hb dX6_readPart_141 (by decide) (fun c22 => ?_) (fun c22 => ?_)
  · have h := ifn c22 h
    refine lv_aload_n hx hb dX6_readPart_191 rfl (lv_at hl 0 rfl) ?_
    refine lv_aload_n hx hb dX6_readPart_192 rfl (lv_at hl 0 rfl) ?_
    refine va_get (D := E.1) (ci := 6) (v := .int x_t_at) (C := RX6) (T := TX6) (N := 24) hx hb hts hiX6 hown hK hP 0 rfl rfl 14 (by decide) (hts (.fieldLink RX6 57 "CasketLinesModel" "at" "I") (by decide +kernel)) (fun _ h9 => h9) rfl dX6_readPart_193 ?_
    refine va_put (D := E.1) (ci := 6) (v := .int x_t_at) (ty := .int) (C := RX6) (T := TX6) (N := 24) hx hb hts hiX6 tyX6 tyX6_ok nmX6 hown hK hP (hD.adr rfl) hS 0 rfl rfl 15 (by decide) (hts (.fieldLink RX6 54 "CasketLinesModel" "faultAt" "I") (by decide +kernel)) (fun _ h9 => h9) rfl (by decide +kernel) rfl rfl (Nat.le_of_ble_eq_true rfl) dX6_readPart_196 (fun H locs hP _ hS => ?_)
    have hP : va_P E.1 vwCl [(a_t, .inr (6, [.int x_t_isTrue, .int x_t_caskets, .int x_t_wooers, .ref a_t_metal, .ref a_t_kind, .ref a_t_now, .ref a_t_readOf, .ref a_t_readKind, .int x_t_readTrue, .int x_t_readCaskets, .int x_t_readWooers, .int x_t_readPicture, .ref a_t_text, .int x_t_length, .int x_t_at, .int x_t_at, .int x_t_acts, .int x_t_next, .ref a_t_row, .int x_t_riddleMany, .ref a_t_nots, .long x_t_seed, .ref a_t_isKept, .ref a_t_kept])), (a_t_readOf, .inl (E.2.1, 12, .inl r_t_readOf)), (a_t_readKind, .inl (E.2.1, 6, .inl r_t_readKind)), (a_t_text, .inl (E.2.1, 40, .inl r_t_text))] H := hP
    exact W.vret hx hb hr (fun t ht _ => ⟨by cases h; rfl, by rw [ht]; cases h; exact hP, hS.F ht⟩) hS.2.2 dX6_readPart_199
  · have h := ifp c22 h
    refine lv_aload_n hx hb dX6_readPart_144 rfl (lv_at hl 0 rfl) ?_
    refine va_get (D := E.1) (ci := 6) (v := .int x_t_readWooers) (C := RX6) (T := TX6) (N := 24) hx hb hts hiX6 hown hK hP 0 rfl rfl 10 (by decide) (hts (.fieldLink RX6 69 "CasketLinesModel" "readWooers" "I") (by decide +kernel)) (fun _ h9 => h9) rfl dX6_readPart_145 ?_
    refine lv_bipush (v := 6) hx hb dX6_readPart_148 (by decide) ?_
    refine lv_icmp_ge (tgt := 191) hx hb dX6_readPart_150 (by decide) (fun c23 => ?_) (fun c23 => ?_)
    · have h := ifp c23 h
      refine lv_aload_n hx hb dX6_readPart_191 rfl (lv_at hl 0 rfl) ?_
      refine lv_aload_n hx hb dX6_readPart_192 rfl (lv_at hl 0 rfl) ?_
      refine va_get (D := E.1) (ci := 6) (v := .int x_t_at) (C := RX6) (T := TX6) (N := 24) hx hb hts hiX6 hown hK hP 0 rfl rfl 14 (by decide) (hts (.fieldLink RX6 57 "CasketLinesModel" "at" "I") (by decide +kernel)) (fun _ h9 => h9) rfl dX6_readPart_193 ?_
      refine va_put (D := E.1) (ci := 6) (v := .int x_t_at) (ty := .int) (C := RX6) (T := TX6) (N := 24) hx hb hts hiX6 tyX6 tyX6_ok nmX6 hown hK hP (hD.adr rfl) hS 0 rfl rfl 15 (by decide) (hts (.fieldLink RX6 54 "CasketLinesModel" "faultAt" "I") (by decide +kernel)) (fun _ h9 => h9) rfl (by decide +kernel) rfl rfl (Nat.le_of_ble_eq_true rfl) dX6_readPart_196 (fun H locs hP _ hS => ?_)
      have hP : va_P E.1 vwCl [(a_t, .inr (6, [.int x_t_isTrue, .int x_t_caskets, .int x_t_wooers, .ref a_t_metal, .ref a_t_kind, .ref a_t_now, .ref a_t_readOf, .ref a_t_readKind, .int x_t_readTrue, .int x_t_readCaskets, .int x_t_readWooers, .int x_t_readPicture, .ref a_t_text, .int x_t_length, .int x_t_at, .int x_t_at, .int x_t_acts, .int x_t_next, .ref a_t_row, .int x_t_riddleMany, .ref a_t_nots, .long x_t_seed, .ref a_t_isKept, .ref a_t_kept])), (a_t_readOf, .inl (E.2.1, 12, .inl r_t_readOf)), (a_t_readKind, .inl (E.2.1, 6, .inl r_t_readKind)), (a_t_text, .inl (E.2.1, 40, .inl r_t_text))] H := hP
      exact W.vret hx hb hr (fun t ht _ => ⟨by cases h; rfl, by rw [ht]; cases h; exact hP, hS.F ht⟩) hS.2.2 dX6_readPart_199
    · have h := ifn c23 h
      refine lv_aload_n hx hb dX6_readPart_153 rfl (lv_at hl 0 rfl) ?_
      refine lv_dup hx hb dX6_readPart_154 rfl ?_
      refine va_get (D := E.1) (ci := 6) (v := .int x_t_at) (C := RX6) (T := TX6) (N := 24) hx hb hts hiX6 hown hK hP 0 rfl rfl 14 (by decide) (hts (.fieldLink RX6 57 "CasketLinesModel" "at" "I") (by decide +kernel)) (fun _ h9 => h9) rfl dX6_readPart_155 ?_
      refine lv_iconst (v := 1) hx hb dX6_readPart_158 (by decide) ?_
      refine lv_iadd hx hb dX6_readPart_159 ?_
      refine va_put (D := E.1) (ci := 6) (v := .int (x_t_at + 1)) (ty := .int) (C := RX6) (T := TX6) (N := 24) hx hb hts hiX6 tyX6 tyX6_ok nmX6 hown hK hP (hD.adr rfl) hS 0 rfl rfl 14 (by decide) (hts (.fieldLink RX6 57 "CasketLinesModel" "at" "I") (by decide +kernel)) (fun _ h9 => h9) rfl (by decide +kernel) rfl rfl (Nat.le_of_ble_eq_true rfl) dX6_readPart_160 (fun H locs hP _ hS => ?_)
      have hP : va_P E.1 vwCl [(a_t, .inr (6, [.int x_t_isTrue, .int x_t_caskets, .int x_t_wooers, .ref a_t_metal, .ref a_t_kind, .ref a_t_now, .ref a_t_readOf, .ref a_t_readKind, .int x_t_readTrue, .int x_t_readCaskets, .int x_t_readWooers, .int x_t_readPicture, .ref a_t_text, .int x_t_length, .int (x_t_at + 1), .int x_t_faultAt, .int x_t_acts, .int x_t_next, .ref a_t_row, .int x_t_riddleMany, .ref a_t_nots, .long x_t_seed, .ref a_t_isKept, .ref a_t_kept])), (a_t_readOf, .inl (E.2.1, 12, .inl r_t_readOf)), (a_t_readKind, .inl (E.2.1, 6, .inl r_t_readKind)), (a_t_text, .inl (E.2.1, 40, .inl r_t_text))] H := hP
      refine lv_aload_n hx hb dX6_readPart_163 rfl (lv_at hl 0 rfl) ?_
      refine va_get (D := E.1) (ci := 6) (v := .ref a_t_readKind) (C := RX6) (T := TX6) (N := 24) hx hb hts hiX6 hown hK hP 0 rfl rfl 7 (by decide) (hts (.fieldLink RX6 22 "CasketLinesModel" "readKind" "[I") (by decide +kernel)) (fun _ h9 => h9) rfl dX6_readPart_164 ?_
      refine lv_aload_n hx hb dX6_readPart_167 rfl (lv_at hl 0 rfl) ?_
      refine va_get (D := E.1) (ci := 6) (v := .int x_t_readWooers) (C := RX6) (T := TX6) (N := 24) hx hb hts hiX6 hown hK hP 0 rfl rfl 10 (by decide) (hts (.fieldLink RX6 69 "CasketLinesModel" "readWooers" "I") (by decide +kernel)) (fun _ h9 => h9) rfl dX6_readPart_168 ?_
      refine lv_aload_n hx hb dX6_readPart_171 rfl (lv_at hl 0 rfl) ?_
      refine lv_bipush (v := 15) hx hb dX6_readPart_172 (by decide) ?_
      obtain ⟨⟨r24, u26, u27⟩, g25, h⟩ := bnd h
      refine wcV (A := A) (As := [.int 15]) (rest := [.int x_t_readWooers, .ref a_t_readKind]) (ws' := [(a_t, .inr (6, [.int x_t_isTrue, .int x_t_caskets, .int x_t_wooers, .ref a_t_metal, .ref a_t_kind, .ref a_t_now, .ref a_t_readOf, .ref a_t_readKind, .int x_t_readTrue, .int x_t_readCaskets, .int x_t_readWooers, .int x_t_readPicture, .ref a_t_text, .int x_t_length, .int u26, .int u27, .int x_t_acts, .int x_t_next, .ref a_t_row, .int x_t_riddleMany, .ref a_t_nots, .long x_t_seed, .ref a_t_isKept, .ref a_t_kept])), (a_t_readOf, .inl (E.2.1, 12, .inl r_t_readOf)), (a_t_readKind, .inl (E.2.1, 6, .inl r_t_readKind)), (a_t_text, .inl (E.2.1, 40, .inl r_t_text))]) ⟨hx, hb, hml, hown, hts⟩ (k_X6_figureOf (l := l) (E := E) a_t a_t_metal a_t_kind a_t_now a_t_readOf a_t_readKind a_t_text a_t_row a_t_nots a_t_isKept a_t_kept x_t_isTrue x_t_caskets x_t_wooers x_t_readTrue x_t_readCaskets x_t_readWooers x_t_readPicture x_t_length (x_t_at + 1) x_t_faultAt x_t_acts x_t_next x_t_riddleMany x_t_seed r_t_text 15 H.size r24 u26 u27 g25) (cwV 1 hts gX6_readPart_X6_figureOf rfl rfl rfl (by decide +kernel) ⟨Nat.le_of_ble_eq_true rfl, Nat.le_of_ble_eq_true rfl⟩) (hC.here hS hAB) hP (hD.adr rfl) hS hA hAB hB [0, 3] rfl rfl [some 0, none, none, some 1] rfl rfl 0 6 rfl rfl rfl rfl hl.1 rfl (Nat.le_of_ble_eq_true rfl) dX6_readPart_174 ⟨Nat.zero_le _, Nat.zero_le _⟩ (fun H locs hP hS => ?_)
      obtain ⟨b29, h⟩ := gdn h
      refine va_iast hx hb hK hP (hD.adr rfl) hS 2 0 rfl rfl b29 dX6_readPart_177 (fun H locs hP _ hS => ?_)
      have hP : va_P E.1 vwCl [(a_t, .inr (6, [.int x_t_isTrue, .int x_t_caskets, .int x_t_wooers, .ref a_t_metal, .ref a_t_kind, .ref a_t_now, .ref a_t_readOf, .ref a_t_readKind, .int x_t_readTrue, .int x_t_readCaskets, .int x_t_readWooers, .int x_t_readPicture, .ref a_t_text, .int x_t_length, .int u26, .int u27, .int x_t_acts, .int x_t_next, .ref a_t_row, .int x_t_riddleMany, .ref a_t_nots, .long x_t_seed, .ref a_t_isKept, .ref a_t_kept])), (a_t_readOf, .inl (E.2.1, 12, .inl r_t_readOf)), (a_t_readKind, .inl (E.2.1, 6, .inl (upd r_t_readKind (Int32.toNatClampNeg x_t_readWooers) r24))), (a_t_text, .inl (E.2.1, 40, .inl r_t_text))] H := hP
      refine lv_aload_n hx hb dX6_readPart_178 rfl (lv_at hl 0 rfl) ?_
      refine lv_dup hx hb dX6_readPart_179 rfl ?_
      refine va_get (D := E.1) (ci := 6) (v := .int x_t_readWooers) (C := RX6) (T := TX6) (N := 24) hx hb hts hiX6 hown hK hP 0 rfl rfl 10 (by decide) (hts (.fieldLink RX6 69 "CasketLinesModel" "readWooers" "I") (by decide +kernel)) (fun _ h9 => h9) rfl dX6_readPart_180 ?_
      refine lv_iconst (v := 1) hx hb dX6_readPart_183 (by decide) ?_
      refine lv_iadd hx hb dX6_readPart_184 ?_
      refine va_put (D := E.1) (ci := 6) (v := .int (x_t_readWooers + 1)) (ty := .int) (C := RX6) (T := TX6) (N := 24) hx hb hts hiX6 tyX6 tyX6_ok nmX6 hown hK hP (hD.adr rfl) hS 0 rfl rfl 10 (by decide) (hts (.fieldLink RX6 69 "CasketLinesModel" "readWooers" "I") (by decide +kernel)) (fun _ h9 => h9) rfl (by decide +kernel) rfl rfl (Nat.le_of_ble_eq_true rfl) dX6_readPart_185 (fun H locs hP _ hS => ?_)
      have hP : va_P E.1 vwCl [(a_t, .inr (6, [.int x_t_isTrue, .int x_t_caskets, .int x_t_wooers, .ref a_t_metal, .ref a_t_kind, .ref a_t_now, .ref a_t_readOf, .ref a_t_readKind, .int x_t_readTrue, .int x_t_readCaskets, .int (x_t_readWooers + 1), .int x_t_readPicture, .ref a_t_text, .int x_t_length, .int u26, .int u27, .int x_t_acts, .int x_t_next, .ref a_t_row, .int x_t_riddleMany, .ref a_t_nots, .long x_t_seed, .ref a_t_isKept, .ref a_t_kept])), (a_t_readOf, .inl (E.2.1, 12, .inl r_t_readOf)), (a_t_readKind, .inl (E.2.1, 6, .inl (upd r_t_readKind (Int32.toNatClampNeg x_t_readWooers) r24))), (a_t_text, .inl (E.2.1, 40, .inl r_t_text))] H := hP
      refine lv_goto (tgt := 199) hx hb dX6_readPart_188 (by decide) ?_
      exact W.vret hx hb hr (fun t ht _ => ⟨by cases h; rfl, by rw [ht]; cases h; exact hP, hS.F ht⟩) hS.2.2 dX6_readPart_199
set_option maxHeartbeats 4000000 in
set_option maxRecDepth 100000 in
theorem w_X6_readPart_26 {p : Program} {l : Launch} {e : Env} {s : State} {m : MethodId} {args : Array Value} {below : List Frame} {meth : Method} {c : Code} {E : Ev} {A : Nat → Prop} (a_t a_t_metal a_t_kind a_t_now a_t_readOf a_t_readKind a_t_text a_t_row a_t_nots a_t_isKept a_t_kept : Nat) (x_t_isTrue : Int32) (x_t_caskets : Int32) (x_t_wooers : Int32) (x_t_readTrue : Int32) (x_t_readCaskets : Int32) (x_t_readWooers : Int32) (x_t_readPicture : Int32) (x_t_length : Int32) (x_t_at : Int32) (x_t_faultAt : Int32) (x_t_acts : Int32) (x_t_next : Int32) (x_t_riddleMany : Int32) (x_t_seed : Int64) (r_t_readOf : Nat → Int32) (r_t_readKind : Nat → Int32) (r_t_text : Nat → Int32) (v1 : Int32) (s0 : Int32) (o_x_t_readCaskets : Int32) (o_x_t_readWooers : Int32) (o_x_t_readPicture : Int32) (o_x_t_at : Int32) (o_x_t_faultAt : Int32) (o_r_t_readOf : Nat → Int32) (o_r_t_readKind : Nat → Int32) (X : Cxt p s m args meth c cX6_readPart 3 wsX6_readPart RX6 none) (hw : Cw E A s [(a_t, .inr (6, [.int x_t_isTrue, .int x_t_caskets, .int x_t_wooers, .ref a_t_metal, .ref a_t_kind, .ref a_t_now, .ref a_t_readOf, .ref a_t_readKind, .int x_t_readTrue, .int x_t_readCaskets, .int x_t_readWooers, .int x_t_readPicture, .ref a_t_text, .int x_t_length, .int x_t_at, .int x_t_faultAt, .int x_t_acts, .int x_t_next, .ref a_t_row, .int x_t_riddleMany, .ref a_t_nots, .long x_t_seed, .ref a_t_isKept, .ref a_t_kept])), (a_t_readOf, .inl (E.2.1, 12, .inl r_t_readOf)), (a_t_readKind, .inl (E.2.1, 6, .inl r_t_readKind)), (a_t_text, .inl (E.2.1, 40, .inl r_t_text))]) (h : f_X6_readPart_26 x_t_readCaskets x_t_readWooers x_t_readPicture x_t_length x_t_at x_t_faultAt r_t_readOf r_t_readKind r_t_text v1 s0 = some (o_x_t_readCaskets, o_x_t_readWooers, o_x_t_readPicture, o_x_t_at, o_x_t_faultAt, o_r_t_readOf, o_r_t_readKind)) (H : Heap) (locs : List Loc) (hP : va_P E.1 vwCl [(a_t, .inr (6, [.int x_t_isTrue, .int x_t_caskets, .int x_t_wooers, .ref a_t_metal, .ref a_t_kind, .ref a_t_now, .ref a_t_readOf, .ref a_t_readKind, .int x_t_readTrue, .int x_t_readCaskets, .int x_t_readWooers, .int x_t_readPicture, .ref a_t_text, .int x_t_length, .int x_t_at, .int x_t_faultAt, .int x_t_acts, .int x_t_next, .ref a_t_row, .int x_t_riddleMany, .ref a_t_nots, .long x_t_seed, .ref a_t_isKept, .ref a_t_kept])), (a_t_readOf, .inl (E.2.1, 12, .inl r_t_readOf)), (a_t_readKind, .inl (E.2.1, 6, .inl r_t_readKind)), (a_t_text, .inl (E.2.1, 40, .inl r_t_text))] H) (hS : va_S A s.heap H locs) (ls : Array Slot) (hl : lv_has ls 3 [(0, .ref a_t), (1, .int v1)]) : W p l e { frames := 2, cells := 0, slots := 0, locals := 47 } s m args below meth c H locs 0 0 (MQ below (Qw E none [(a_t, .inr (6, [.int x_t_isTrue, .int x_t_caskets, .int x_t_wooers, .ref a_t_metal, .ref a_t_kind, .ref a_t_now, .ref a_t_readOf, .ref a_t_readKind, .int x_t_readTrue, .int o_x_t_readCaskets, .int o_x_t_readWooers, .int o_x_t_readPicture, .ref a_t_text, .int x_t_length, .int o_x_t_at, .int o_x_t_faultAt, .int x_t_acts, .int x_t_next, .ref a_t_row, .int x_t_riddleMany, .ref a_t_nots, .long x_t_seed, .ref a_t_isKept, .ref a_t_kept])), (a_t_readOf, .inl (E.2.1, 12, .inl o_r_t_readOf)), (a_t_readKind, .inl (E.2.1, 6, .inl o_r_t_readKind)), (a_t_text, .inl (E.2.1, 40, .inl r_t_text))] A) args s 0 0 A) (F0 m 26 ls [.int s0]) := by
  obtain ⟨⟨hx, hb, hml, hown, hts⟩, hr, hlocks⟩ := id X
  obtain ⟨hC, hAB, hA, hB, hD⟩ := id hw
  have hiX6 : ∀ w ∈ u_ws RX6 TX6 24, w ∈ wsX6_readPart := by decide +kernel
  have hK := hC.1
  unfold f_X6_readPart_26 at h
  refine lv_istore_n (lv' := [(2, .int s0), (0, .ref a_t), (1, .int v1)]) hx hb dX6_readPart_26 rfl hl (by decide) rfl (fun ls hl => ?_)
  refine lv_iload_n hx hb dX6_readPart_27 rfl (lv_at hl 0 rfl) ?_
  refine lv_if_eq (tgt := 138) hx hb dX6_readPart_28 (by decide) (fun c1 => ?_) (fun c1 => ?_)
  · have h := ifp c1 h
    exact w_X6_readPart_138 a_t a_t_metal a_t_kind a_t_now a_t_readOf a_t_readKind a_t_text a_t_row a_t_nots a_t_isKept a_t_kept x_t_isTrue x_t_caskets x_t_wooers x_t_readTrue x_t_readCaskets x_t_readWooers x_t_readPicture x_t_length x_t_at x_t_faultAt x_t_acts x_t_next x_t_riddleMany x_t_seed r_t_readOf r_t_readKind r_t_text v1  o_x_t_readCaskets o_x_t_readWooers o_x_t_readPicture o_x_t_at o_x_t_faultAt o_r_t_readOf o_r_t_readKind X (hw.adr rfl)  h H locs hP hS ls (lv_sub hl [1, 2] rfl)
  · have h := ifn c1 h
    refine lv_aload_n hx hb dX6_readPart_31 rfl (lv_at hl 1 rfl) ?_
    refine va_get (D := E.1) (ci := 6) (v := .int x_t_readCaskets) (C := RX6) (T := TX6) (N := 24) hx hb hts hiX6 hown hK hP 0 rfl rfl 9 (by decide) (hts (.fieldLink RX6 66 "CasketLinesModel" "readCaskets" "I") (by decide +kernel)) (fun _ h9 => h9) rfl dX6_readPart_32 ?_
    refine lv_iconst (v := 4) hx hb dX6_readPart_35 (by decide) ?_
    refine lv_icmp_ge (tgt := 138) hx hb dX6_readPart_36 (by decide) (fun c2 => ?_) (fun c2 => ?_)
    · have h := ifp c2 h
      exact w_X6_readPart_138 a_t a_t_metal a_t_kind a_t_now a_t_readOf a_t_readKind a_t_text a_t_row a_t_nots a_t_isKept a_t_kept x_t_isTrue x_t_caskets x_t_wooers x_t_readTrue x_t_readCaskets x_t_readWooers x_t_readPicture x_t_length x_t_at x_t_faultAt x_t_acts x_t_next x_t_riddleMany x_t_seed r_t_readOf r_t_readKind r_t_text v1  o_x_t_readCaskets o_x_t_readWooers o_x_t_readPicture o_x_t_at o_x_t_faultAt o_r_t_readOf o_r_t_readKind X (hw.adr rfl)  h H locs hP hS ls (lv_sub hl [1, 2] rfl)
    · have h := ifn c2 h
      refine lv_aload_n hx hb dX6_readPart_39 rfl (lv_at hl 1 rfl) ?_
      refine lv_dup hx hb dX6_readPart_40 rfl ?_
      refine va_get (D := E.1) (ci := 6) (v := .int x_t_at) (C := RX6) (T := TX6) (N := 24) hx hb hts hiX6 hown hK hP 0 rfl rfl 14 (by decide) (hts (.fieldLink RX6 57 "CasketLinesModel" "at" "I") (by decide +kernel)) (fun _ h9 => h9) rfl dX6_readPart_41 ?_
      refine lv_iconst (v := 1) hx hb dX6_readPart_44 (by decide) ?_
      refine lv_iadd hx hb dX6_readPart_45 ?_
      refine va_put (D := E.1) (ci := 6) (v := .int (x_t_at + 1)) (ty := .int) (C := RX6) (T := TX6) (N := 24) hx hb hts hiX6 tyX6 tyX6_ok nmX6 hown hK hP (hD.adr rfl) hS 0 rfl rfl 14 (by decide) (hts (.fieldLink RX6 57 "CasketLinesModel" "at" "I") (by decide +kernel)) (fun _ h9 => h9) rfl (by decide +kernel) rfl rfl (Nat.le_of_ble_eq_true rfl) dX6_readPart_46 (fun H locs hP _ hS => ?_)
      have hP : va_P E.1 vwCl [(a_t, .inr (6, [.int x_t_isTrue, .int x_t_caskets, .int x_t_wooers, .ref a_t_metal, .ref a_t_kind, .ref a_t_now, .ref a_t_readOf, .ref a_t_readKind, .int x_t_readTrue, .int x_t_readCaskets, .int x_t_readWooers, .int x_t_readPicture, .ref a_t_text, .int x_t_length, .int (x_t_at + 1), .int x_t_faultAt, .int x_t_acts, .int x_t_next, .ref a_t_row, .int x_t_riddleMany, .ref a_t_nots, .long x_t_seed, .ref a_t_isKept, .ref a_t_kept])), (a_t_readOf, .inl (E.2.1, 12, .inl r_t_readOf)), (a_t_readKind, .inl (E.2.1, 6, .inl r_t_readKind)), (a_t_text, .inl (E.2.1, 40, .inl r_t_text))] H := hP
      refine lv_aload_n hx hb dX6_readPart_49 rfl (lv_at hl 1 rfl) ?_
      refine va_get (D := E.1) (ci := 6) (v := .ref a_t_readOf) (C := RX6) (T := TX6) (N := 24) hx hb hts hiX6 hown hK hP 0 rfl rfl 6 (by decide) (hts (.fieldLink RX6 19 "CasketLinesModel" "readOf" "[I") (by decide +kernel)) (fun _ h9 => h9) rfl dX6_readPart_50 ?_
      refine lv_iconst (v := 3) hx hb dX6_readPart_53 (by decide) ?_
      refine lv_aload_n hx hb dX6_readPart_54 rfl (lv_at hl 1 rfl) ?_
      refine va_get (D := E.1) (ci := 6) (v := .int x_t_readCaskets) (C := RX6) (T := TX6) (N := 24) hx hb hts hiX6 hown hK hP 0 rfl rfl 9 (by decide) (hts (.fieldLink RX6 66 "CasketLinesModel" "readCaskets" "I") (by decide +kernel)) (fun _ h9 => h9) rfl dX6_readPart_55 ?_
      refine lv_imul hx hb dX6_readPart_58 ?_
      refine lv_aload_n hx hb dX6_readPart_59 rfl (lv_at hl 1 rfl) ?_
      refine lv_bipush (v := 15) hx hb dX6_readPart_60 (by decide) ?_
      obtain ⟨⟨r3, u5, u6⟩, g4, h⟩ := bnd h
      refine wcV (A := A) (As := [.int 15]) (rest := [.int (3 * x_t_readCaskets), .ref a_t_readOf]) (ws' := [(a_t, .inr (6, [.int x_t_isTrue, .int x_t_caskets, .int x_t_wooers, .ref a_t_metal, .ref a_t_kind, .ref a_t_now, .ref a_t_readOf, .ref a_t_readKind, .int x_t_readTrue, .int x_t_readCaskets, .int x_t_readWooers, .int x_t_readPicture, .ref a_t_text, .int x_t_length, .int u5, .int u6, .int x_t_acts, .int x_t_next, .ref a_t_row, .int x_t_riddleMany, .ref a_t_nots, .long x_t_seed, .ref a_t_isKept, .ref a_t_kept])), (a_t_readOf, .inl (E.2.1, 12, .inl r_t_readOf)), (a_t_readKind, .inl (E.2.1, 6, .inl r_t_readKind)), (a_t_text, .inl (E.2.1, 40, .inl r_t_text))]) ⟨hx, hb, hml, hown, hts⟩ (k_X6_figureOf (l := l) (E := E) a_t a_t_metal a_t_kind a_t_now a_t_readOf a_t_readKind a_t_text a_t_row a_t_nots a_t_isKept a_t_kept x_t_isTrue x_t_caskets x_t_wooers x_t_readTrue x_t_readCaskets x_t_readWooers x_t_readPicture x_t_length (x_t_at + 1) x_t_faultAt x_t_acts x_t_next x_t_riddleMany x_t_seed r_t_text 15 H.size r3 u5 u6 g4) (cwV 1 hts gX6_readPart_X6_figureOf rfl rfl rfl (by decide +kernel) ⟨Nat.le_of_ble_eq_true rfl, Nat.le_of_ble_eq_true rfl⟩) (hC.here hS hAB) hP (hD.adr rfl) hS hA hAB hB [0, 3] rfl rfl [some 0, none, none, some 1] rfl rfl 0 6 rfl rfl rfl rfl hl.1 rfl (Nat.le_of_ble_eq_true rfl) dX6_readPart_62 ⟨Nat.zero_le _, Nat.zero_le _⟩ (fun H locs hP hS => ?_)
      obtain ⟨b8, h⟩ := gdn h
      refine va_iast hx hb hK hP (hD.adr rfl) hS 1 0 rfl rfl b8 dX6_readPart_65 (fun H locs hP _ hS => ?_)
      have hP : va_P E.1 vwCl [(a_t, .inr (6, [.int x_t_isTrue, .int x_t_caskets, .int x_t_wooers, .ref a_t_metal, .ref a_t_kind, .ref a_t_now, .ref a_t_readOf, .ref a_t_readKind, .int x_t_readTrue, .int x_t_readCaskets, .int x_t_readWooers, .int x_t_readPicture, .ref a_t_text, .int x_t_length, .int u5, .int u6, .int x_t_acts, .int x_t_next, .ref a_t_row, .int x_t_riddleMany, .ref a_t_nots, .long x_t_seed, .ref a_t_isKept, .ref a_t_kept])), (a_t_readOf, .inl (E.2.1, 12, .inl (upd r_t_readOf (Int32.toNatClampNeg (3 * x_t_readCaskets)) r3))), (a_t_readKind, .inl (E.2.1, 6, .inl r_t_readKind)), (a_t_text, .inl (E.2.1, 40, .inl r_t_text))] H := hP
      refine lv_aload_n hx hb dX6_readPart_66 rfl (lv_at hl 1 rfl) ?_
      refine va_get (D := E.1) (ci := 6) (v := .ref a_t_readOf) (C := RX6) (T := TX6) (N := 24) hx hb hts hiX6 hown hK hP 0 rfl rfl 6 (by decide) (hts (.fieldLink RX6 19 "CasketLinesModel" "readOf" "[I") (by decide +kernel)) (fun _ h9 => h9) rfl dX6_readPart_67 ?_
      refine lv_iconst (v := 3) hx hb dX6_readPart_70 (by decide) ?_
      refine lv_aload_n hx hb dX6_readPart_71 rfl (lv_at hl 1 rfl) ?_
      refine va_get (D := E.1) (ci := 6) (v := .int x_t_readCaskets) (C := RX6) (T := TX6) (N := 24) hx hb hts hiX6 hown hK hP 0 rfl rfl 9 (by decide) (hts (.fieldLink RX6 66 "CasketLinesModel" "readCaskets" "I") (by decide +kernel)) (fun _ h9 => h9) rfl dX6_readPart_72 ?_
      refine lv_imul hx hb dX6_readPart_75 ?_
      refine lv_iconst (v := 1) hx hb dX6_readPart_76 (by decide) ?_
      refine lv_iadd hx hb dX6_readPart_77 ?_
      refine lv_aload_n hx hb dX6_readPart_78 rfl (lv_at hl 1 rfl) ?_
      refine lv_bipush (v := 63) hx hb dX6_readPart_79 (by decide) ?_
      obtain ⟨⟨r9, u11, u12⟩, g10, h⟩ := bnd h
      refine wcV (A := A) (As := [.int 63]) (rest := [.int ((3 * x_t_readCaskets) + 1), .ref a_t_readOf]) (ws' := [(a_t, .inr (6, [.int x_t_isTrue, .int x_t_caskets, .int x_t_wooers, .ref a_t_metal, .ref a_t_kind, .ref a_t_now, .ref a_t_readOf, .ref a_t_readKind, .int x_t_readTrue, .int x_t_readCaskets, .int x_t_readWooers, .int x_t_readPicture, .ref a_t_text, .int x_t_length, .int u11, .int u12, .int x_t_acts, .int x_t_next, .ref a_t_row, .int x_t_riddleMany, .ref a_t_nots, .long x_t_seed, .ref a_t_isKept, .ref a_t_kept])), (a_t_readOf, .inl (E.2.1, 12, .inl (upd r_t_readOf (Int32.toNatClampNeg (3 * x_t_readCaskets)) r3))), (a_t_readKind, .inl (E.2.1, 6, .inl r_t_readKind)), (a_t_text, .inl (E.2.1, 40, .inl r_t_text))]) ⟨hx, hb, hml, hown, hts⟩ (k_X6_figureOf (l := l) (E := E) a_t a_t_metal a_t_kind a_t_now a_t_readOf a_t_readKind a_t_text a_t_row a_t_nots a_t_isKept a_t_kept x_t_isTrue x_t_caskets x_t_wooers x_t_readTrue x_t_readCaskets x_t_readWooers x_t_readPicture x_t_length u5 u6 x_t_acts x_t_next x_t_riddleMany x_t_seed r_t_text 63 H.size r9 u11 u12 g10) (cwV 1 hts gX6_readPart_X6_figureOf rfl rfl rfl (by decide +kernel) ⟨Nat.le_of_ble_eq_true rfl, Nat.le_of_ble_eq_true rfl⟩) (hC.here hS hAB) hP (hD.adr rfl) hS hA hAB hB [0, 3] rfl rfl [some 0, none, none, some 1] rfl rfl 0 6 rfl rfl rfl rfl hl.1 rfl (Nat.le_of_ble_eq_true rfl) dX6_readPart_81 ⟨Nat.zero_le _, Nat.zero_le _⟩ (fun H locs hP hS => ?_)
      obtain ⟨b14, h⟩ := gdn h
      refine va_iast hx hb hK hP (hD.adr rfl) hS 1 0 rfl rfl b14 dX6_readPart_84 (fun H locs hP _ hS => ?_)
      have hP : va_P E.1 vwCl [(a_t, .inr (6, [.int x_t_isTrue, .int x_t_caskets, .int x_t_wooers, .ref a_t_metal, .ref a_t_kind, .ref a_t_now, .ref a_t_readOf, .ref a_t_readKind, .int x_t_readTrue, .int x_t_readCaskets, .int x_t_readWooers, .int x_t_readPicture, .ref a_t_text, .int x_t_length, .int u11, .int u12, .int x_t_acts, .int x_t_next, .ref a_t_row, .int x_t_riddleMany, .ref a_t_nots, .long x_t_seed, .ref a_t_isKept, .ref a_t_kept])), (a_t_readOf, .inl (E.2.1, 12, .inl (upd (upd r_t_readOf (Int32.toNatClampNeg (3 * x_t_readCaskets)) r3) (Int32.toNatClampNeg ((3 * x_t_readCaskets) + 1)) r9))), (a_t_readKind, .inl (E.2.1, 6, .inl r_t_readKind)), (a_t_text, .inl (E.2.1, 40, .inl r_t_text))] H := hP
      refine lv_aload_n hx hb dX6_readPart_85 rfl (lv_at hl 1 rfl) ?_
      refine va_get (D := E.1) (ci := 6) (v := .ref a_t_readOf) (C := RX6) (T := TX6) (N := 24) hx hb hts hiX6 hown hK hP 0 rfl rfl 6 (by decide) (hts (.fieldLink RX6 19 "CasketLinesModel" "readOf" "[I") (by decide +kernel)) (fun _ h9 => h9) rfl dX6_readPart_86 ?_
      refine lv_iconst (v := 3) hx hb dX6_readPart_89 (by decide) ?_
      refine lv_aload_n hx hb dX6_readPart_90 rfl (lv_at hl 1 rfl) ?_
      refine va_get (D := E.1) (ci := 6) (v := .int x_t_readCaskets) (C := RX6) (T := TX6) (N := 24) hx hb hts hiX6 hown hK hP 0 rfl rfl 9 (by decide) (hts (.fieldLink RX6 66 "CasketLinesModel" "readCaskets" "I") (by decide +kernel)) (fun _ h9 => h9) rfl dX6_readPart_91 ?_
      refine lv_imul hx hb dX6_readPart_94 ?_
      refine lv_iconst (v := 2) hx hb dX6_readPart_95 (by decide) ?_
      refine lv_iadd hx hb dX6_readPart_96 ?_
      refine lv_aload_n hx hb dX6_readPart_97 rfl (lv_at hl 1 rfl) ?_
      refine lv_bipush (v := 15) hx hb dX6_readPart_98 (by decide) ?_
      obtain ⟨⟨r15, u17, u18⟩, g16, h⟩ := bnd h
      refine wcV (A := A) (As := [.int 15]) (rest := [.int ((3 * x_t_readCaskets) + 2), .ref a_t_readOf]) (ws' := [(a_t, .inr (6, [.int x_t_isTrue, .int x_t_caskets, .int x_t_wooers, .ref a_t_metal, .ref a_t_kind, .ref a_t_now, .ref a_t_readOf, .ref a_t_readKind, .int x_t_readTrue, .int x_t_readCaskets, .int x_t_readWooers, .int x_t_readPicture, .ref a_t_text, .int x_t_length, .int u17, .int u18, .int x_t_acts, .int x_t_next, .ref a_t_row, .int x_t_riddleMany, .ref a_t_nots, .long x_t_seed, .ref a_t_isKept, .ref a_t_kept])), (a_t_readOf, .inl (E.2.1, 12, .inl (upd (upd r_t_readOf (Int32.toNatClampNeg (3 * x_t_readCaskets)) r3) (Int32.toNatClampNeg ((3 * x_t_readCaskets) + 1)) r9))), (a_t_readKind, .inl (E.2.1, 6, .inl r_t_readKind)), (a_t_text, .inl (E.2.1, 40, .inl r_t_text))]) ⟨hx, hb, hml, hown, hts⟩ (k_X6_figureOf (l := l) (E := E) a_t a_t_metal a_t_kind a_t_now a_t_readOf a_t_readKind a_t_text a_t_row a_t_nots a_t_isKept a_t_kept x_t_isTrue x_t_caskets x_t_wooers x_t_readTrue x_t_readCaskets x_t_readWooers x_t_readPicture x_t_length u11 u12 x_t_acts x_t_next x_t_riddleMany x_t_seed r_t_text 15 H.size r15 u17 u18 g16) (cwV 1 hts gX6_readPart_X6_figureOf rfl rfl rfl (by decide +kernel) ⟨Nat.le_of_ble_eq_true rfl, Nat.le_of_ble_eq_true rfl⟩) (hC.here hS hAB) hP (hD.adr rfl) hS hA hAB hB [0, 3] rfl rfl [some 0, none, none, some 1] rfl rfl 0 6 rfl rfl rfl rfl hl.1 rfl (Nat.le_of_ble_eq_true rfl) dX6_readPart_100 ⟨Nat.zero_le _, Nat.zero_le _⟩ (fun H locs hP hS => ?_)
      obtain ⟨b20, h⟩ := gdn h
      refine va_iast hx hb hK hP (hD.adr rfl) hS 1 0 rfl rfl b20 dX6_readPart_103 (fun H locs hP _ hS => ?_)
      have hP : va_P E.1 vwCl [(a_t, .inr (6, [.int x_t_isTrue, .int x_t_caskets, .int x_t_wooers, .ref a_t_metal, .ref a_t_kind, .ref a_t_now, .ref a_t_readOf, .ref a_t_readKind, .int x_t_readTrue, .int x_t_readCaskets, .int x_t_readWooers, .int x_t_readPicture, .ref a_t_text, .int x_t_length, .int u17, .int u18, .int x_t_acts, .int x_t_next, .ref a_t_row, .int x_t_riddleMany, .ref a_t_nots, .long x_t_seed, .ref a_t_isKept, .ref a_t_kept])), (a_t_readOf, .inl (E.2.1, 12, .inl (upd (upd (upd r_t_readOf (Int32.toNatClampNeg (3 * x_t_readCaskets)) r3) (Int32.toNatClampNeg ((3 * x_t_readCaskets) + 1)) r9) (Int32.toNatClampNeg ((3 * x_t_readCaskets) + 2)) r15))), (a_t_readKind, .inl (E.2.1, 6, .inl r_t_readKind)), (a_t_text, .inl (E.2.1, 40, .inl r_t_text))] H := hP
      refine lv_aload_n hx hb dX6_readPart_104 rfl (lv_at hl 1 rfl) ?_
      refine lv_iload_n hx hb dX6_readPart_105 rfl (lv_at hl 2 rfl) ?_
      refine lv_bipush (v := 68) hx hb dX6_readPart_106 (by decide) ?_
      refine lv_icmp_ne (tgt := 118) hx hb dX6_readPart_108 (by decide) (fun c21 => ?_) (fun c21 => ?_)
      · have h := ifn c21 h
        refine lv_aload_n hx hb dX6_readPart_118 rfl (lv_at hl 1 rfl) ?_
        refine va_get (D := E.1) (ci := 6) (v := .int x_t_readPicture) (C := RX6) (T := TX6) (N := 24) hx hb hts hiX6 hown hK hP 0 rfl rfl 11 (by decide) (hts (.fieldLink RX6 72 "CasketLinesModel" "readPicture" "I") (by decide +kernel)) (fun _ h9 => h9) rfl dX6_readPart_119 ?_
        exact w_X6_readPart_122 a_t a_t_metal a_t_kind a_t_now a_t_readOf a_t_readKind a_t_text a_t_row a_t_nots a_t_isKept a_t_kept x_t_isTrue x_t_caskets x_t_wooers x_t_readTrue x_t_readCaskets x_t_readWooers x_t_readPicture x_t_length u17 u18 x_t_acts x_t_next x_t_riddleMany x_t_seed (upd (upd (upd r_t_readOf (Int32.toNatClampNeg (3 * x_t_readCaskets)) r3) (Int32.toNatClampNeg ((3 * x_t_readCaskets) + 1)) r9) (Int32.toNatClampNeg ((3 * x_t_readCaskets) + 2)) r15) r_t_readKind r_t_text x_t_readPicture  o_x_t_readCaskets o_x_t_readWooers o_x_t_readPicture o_x_t_at o_x_t_faultAt o_r_t_readOf o_r_t_readKind X (hw.adr rfl)  h H locs hP hS ls (lv_sub hl [1] rfl)
      · have h := ifp c21 h
        refine lv_aload_n hx hb dX6_readPart_111 rfl (lv_at hl 1 rfl) ?_
        refine va_get (D := E.1) (ci := 6) (v := .int x_t_readCaskets) (C := RX6) (T := TX6) (N := 24) hx hb hts hiX6 hown hK hP 0 rfl rfl 9 (by decide) (hts (.fieldLink RX6 66 "CasketLinesModel" "readCaskets" "I") (by decide +kernel)) (fun _ h9 => h9) rfl dX6_readPart_112 ?_
        refine lv_goto (tgt := 122) hx hb dX6_readPart_115 (by decide) ?_
        exact w_X6_readPart_122 a_t a_t_metal a_t_kind a_t_now a_t_readOf a_t_readKind a_t_text a_t_row a_t_nots a_t_isKept a_t_kept x_t_isTrue x_t_caskets x_t_wooers x_t_readTrue x_t_readCaskets x_t_readWooers x_t_readPicture x_t_length u17 u18 x_t_acts x_t_next x_t_riddleMany x_t_seed (upd (upd (upd r_t_readOf (Int32.toNatClampNeg (3 * x_t_readCaskets)) r3) (Int32.toNatClampNeg ((3 * x_t_readCaskets) + 1)) r9) (Int32.toNatClampNeg ((3 * x_t_readCaskets) + 2)) r15) r_t_readKind r_t_text x_t_readCaskets  o_x_t_readCaskets o_x_t_readWooers o_x_t_readPicture o_x_t_at o_x_t_faultAt o_r_t_readOf o_r_t_readKind X (hw.adr rfl)  h H locs hP hS ls (lv_sub hl [1] rfl)
set_option maxHeartbeats 4000000 in
set_option maxRecDepth 100000 in
theorem w_X6_readPart {p : Program} {l : Launch} {e : Env} {s : State} {m : MethodId} {args : Array Value} {below : List Frame} {meth : Method} {c : Code} {E : Ev} {A : Nat → Prop} (a_t a_t_metal a_t_kind a_t_now a_t_readOf a_t_readKind a_t_text a_t_row a_t_nots a_t_isKept a_t_kept : Nat) (x_t_isTrue : Int32) (x_t_caskets : Int32) (x_t_wooers : Int32) (x_t_readTrue : Int32) (x_t_readCaskets : Int32) (x_t_readWooers : Int32) (x_t_readPicture : Int32) (x_t_length : Int32) (x_t_at : Int32) (x_t_faultAt : Int32) (x_t_acts : Int32) (x_t_next : Int32) (x_t_riddleMany : Int32) (x_t_seed : Int64) (r_t_readOf : Nat → Int32) (r_t_readKind : Nat → Int32) (r_t_text : Nat → Int32) (p1 : Int32) (o_x_t_readCaskets : Int32) (o_x_t_readWooers : Int32) (o_x_t_readPicture : Int32) (o_x_t_at : Int32) (o_x_t_faultAt : Int32) (o_r_t_readOf : Nat → Int32) (o_r_t_readKind : Nat → Int32) (X : Cxt p s m args meth c cX6_readPart 3 wsX6_readPart RX6 none) (hw : Cw E A s [(a_t, .inr (6, [.int x_t_isTrue, .int x_t_caskets, .int x_t_wooers, .ref a_t_metal, .ref a_t_kind, .ref a_t_now, .ref a_t_readOf, .ref a_t_readKind, .int x_t_readTrue, .int x_t_readCaskets, .int x_t_readWooers, .int x_t_readPicture, .ref a_t_text, .int x_t_length, .int x_t_at, .int x_t_faultAt, .int x_t_acts, .int x_t_next, .ref a_t_row, .int x_t_riddleMany, .ref a_t_nots, .long x_t_seed, .ref a_t_isKept, .ref a_t_kept])), (a_t_readOf, .inl (E.2.1, 12, .inl r_t_readOf)), (a_t_readKind, .inl (E.2.1, 6, .inl r_t_readKind)), (a_t_text, .inl (E.2.1, 40, .inl r_t_text))]) (h : f_X6_readPart x_t_readCaskets x_t_readWooers x_t_readPicture x_t_length x_t_at x_t_faultAt r_t_readOf r_t_readKind r_t_text p1 = some (o_x_t_readCaskets, o_x_t_readWooers, o_x_t_readPicture, o_x_t_at, o_x_t_faultAt, o_r_t_readOf, o_r_t_readKind)) {H : Heap} {locs : List Loc} (hP : va_P E.1 vwCl [(a_t, .inr (6, [.int x_t_isTrue, .int x_t_caskets, .int x_t_wooers, .ref a_t_metal, .ref a_t_kind, .ref a_t_now, .ref a_t_readOf, .ref a_t_readKind, .int x_t_readTrue, .int x_t_readCaskets, .int x_t_readWooers, .int x_t_readPicture, .ref a_t_text, .int x_t_length, .int x_t_at, .int x_t_faultAt, .int x_t_acts, .int x_t_next, .ref a_t_row, .int x_t_riddleMany, .ref a_t_nots, .long x_t_seed, .ref a_t_isKept, .ref a_t_kept])), (a_t_readOf, .inl (E.2.1, 12, .inl r_t_readOf)), (a_t_readKind, .inl (E.2.1, 6, .inl r_t_readKind)), (a_t_text, .inl (E.2.1, 40, .inl r_t_text))] H) (hS : va_S A s.heap H locs) {ls : Array Slot} (hl : lv_has ls 3 [(0, .ref a_t), (1, .int p1)]) : W p l e { frames := 2, cells := 0, slots := 0, locals := 47 } s m args below meth c H locs 0 0 (MQ below (Qw E none [(a_t, .inr (6, [.int x_t_isTrue, .int x_t_caskets, .int x_t_wooers, .ref a_t_metal, .ref a_t_kind, .ref a_t_now, .ref a_t_readOf, .ref a_t_readKind, .int x_t_readTrue, .int o_x_t_readCaskets, .int o_x_t_readWooers, .int o_x_t_readPicture, .ref a_t_text, .int x_t_length, .int o_x_t_at, .int o_x_t_faultAt, .int x_t_acts, .int x_t_next, .ref a_t_row, .int x_t_riddleMany, .ref a_t_nots, .long x_t_seed, .ref a_t_isKept, .ref a_t_kept])), (a_t_readOf, .inl (E.2.1, 12, .inl o_r_t_readOf)), (a_t_readKind, .inl (E.2.1, 6, .inl o_r_t_readKind)), (a_t_text, .inl (E.2.1, 40, .inl r_t_text))] A) args s 0 0 A) (F0 m 0 ls []) := by
  obtain ⟨⟨hx, hb, hml, hown, hts⟩, hr, hlocks⟩ := id X
  obtain ⟨hC, hAB, hA, hB, hD⟩ := id hw
  have hiX6 : ∀ w ∈ u_ws RX6 TX6 24, w ∈ wsX6_readPart := by decide +kernel
  have hK := hC.1
  unfold f_X6_readPart at h
  refine lv_iload_n hx hb dX6_readPart_0 rfl (lv_at hl 1 rfl) ?_
  refine lv_bipush (v := 67) hx hb dX6_readPart_1 (by decide) ?_
  refine lv_icmp_eq (tgt := 21) hx hb dX6_readPart_3 (by decide) (fun c30 => ?_) (fun c30 => ?_)
  · have h := ifp c30 h
    refine lv_iconst (v := 1) hx hb dX6_readPart_21 (by decide) ?_
    refine lv_goto (tgt := 26) hx hb dX6_readPart_22 (by decide) ?_
    exact w_X6_readPart_26 a_t a_t_metal a_t_kind a_t_now a_t_readOf a_t_readKind a_t_text a_t_row a_t_nots a_t_isKept a_t_kept x_t_isTrue x_t_caskets x_t_wooers x_t_readTrue x_t_readCaskets x_t_readWooers x_t_readPicture x_t_length x_t_at x_t_faultAt x_t_acts x_t_next x_t_riddleMany x_t_seed r_t_readOf r_t_readKind r_t_text p1 1  o_x_t_readCaskets o_x_t_readWooers o_x_t_readPicture o_x_t_at o_x_t_faultAt o_r_t_readOf o_r_t_readKind X (hw.adr rfl)  h H locs hP hS ls (lv_sub hl [0, 1] rfl)
  · have h := ifn c30 h
    refine lv_iload_n hx hb dX6_readPart_6 rfl (lv_at hl 1 rfl) ?_
    refine lv_bipush (v := 68) hx hb dX6_readPart_7 (by decide) ?_
    refine lv_icmp_ne (tgt := 25) hx hb dX6_readPart_9 (by decide) (fun c31 => ?_) (fun c31 => ?_)
    · have h := ifn c31 h
      refine lv_iconst (v := 0) hx hb dX6_readPart_25 (by decide) ?_
      exact w_X6_readPart_26 a_t a_t_metal a_t_kind a_t_now a_t_readOf a_t_readKind a_t_text a_t_row a_t_nots a_t_isKept a_t_kept x_t_isTrue x_t_caskets x_t_wooers x_t_readTrue x_t_readCaskets x_t_readWooers x_t_readPicture x_t_length x_t_at x_t_faultAt x_t_acts x_t_next x_t_riddleMany x_t_seed r_t_readOf r_t_readKind r_t_text p1 0  o_x_t_readCaskets o_x_t_readWooers o_x_t_readPicture o_x_t_at o_x_t_faultAt o_r_t_readOf o_r_t_readKind X (hw.adr rfl)  h H locs hP hS ls (lv_sub hl [0, 1] rfl)
    · have h := ifp c31 h
      refine lv_aload_n hx hb dX6_readPart_12 rfl (lv_at hl 0 rfl) ?_
      refine va_get (D := E.1) (ci := 6) (v := .int x_t_readPicture) (C := RX6) (T := TX6) (N := 24) hx hb hts hiX6 hown hK hP 0 rfl rfl 11 (by decide) (hts (.fieldLink RX6 72 "CasketLinesModel" "readPicture" "I") (by decide +kernel)) (fun _ h9 => h9) rfl dX6_readPart_13 ?_
      refine lv_bipush (v := (-9)) hx hb dX6_readPart_16 (by decide) ?_
      refine lv_icmp_ne (tgt := 25) hx hb dX6_readPart_18 (by decide) (fun c32 => ?_) (fun c32 => ?_)
      · have h := ifn c32 h
        refine lv_iconst (v := 0) hx hb dX6_readPart_25 (by decide) ?_
        exact w_X6_readPart_26 a_t a_t_metal a_t_kind a_t_now a_t_readOf a_t_readKind a_t_text a_t_row a_t_nots a_t_isKept a_t_kept x_t_isTrue x_t_caskets x_t_wooers x_t_readTrue x_t_readCaskets x_t_readWooers x_t_readPicture x_t_length x_t_at x_t_faultAt x_t_acts x_t_next x_t_riddleMany x_t_seed r_t_readOf r_t_readKind r_t_text p1 0  o_x_t_readCaskets o_x_t_readWooers o_x_t_readPicture o_x_t_at o_x_t_faultAt o_r_t_readOf o_r_t_readKind X (hw.adr rfl)  h H locs hP hS ls (lv_sub hl [0, 1] rfl)
      · have h := ifp c32 h
        refine lv_iconst (v := 1) hx hb dX6_readPart_21 (by decide) ?_
        refine lv_goto (tgt := 26) hx hb dX6_readPart_22 (by decide) ?_
        exact w_X6_readPart_26 a_t a_t_metal a_t_kind a_t_now a_t_readOf a_t_readKind a_t_text a_t_row a_t_nots a_t_isKept a_t_kept x_t_isTrue x_t_caskets x_t_wooers x_t_readTrue x_t_readCaskets x_t_readWooers x_t_readPicture x_t_length x_t_at x_t_faultAt x_t_acts x_t_next x_t_riddleMany x_t_seed r_t_readOf r_t_readKind r_t_text p1 1  o_x_t_readCaskets o_x_t_readWooers o_x_t_readPicture o_x_t_at o_x_t_faultAt o_r_t_readOf o_r_t_readKind X (hw.adr rfl)  h H locs hP hS ls (lv_sub hl [0, 1] rfl)
set_option maxHeartbeats 4000000 in
set_option maxRecDepth 100000 in
theorem k_X6_readPart {l : Launch} {E : Ev} (a_t a_t_metal a_t_kind a_t_now a_t_readOf a_t_readKind a_t_text a_t_row a_t_nots a_t_isKept a_t_kept : Nat) (x_t_isTrue : Int32) (x_t_caskets : Int32) (x_t_wooers : Int32) (x_t_readTrue : Int32) (x_t_readCaskets : Int32) (x_t_readWooers : Int32) (x_t_readPicture : Int32) (x_t_length : Int32) (x_t_at : Int32) (x_t_faultAt : Int32) (x_t_acts : Int32) (x_t_next : Int32) (x_t_riddleMany : Int32) (x_t_seed : Int64) (r_t_readOf : Nat → Int32) (r_t_readKind : Nat → Int32) (r_t_text : Nat → Int32) (p1 : Int32) (sz : Nat) (o_x_t_readCaskets : Int32) (o_x_t_readWooers : Int32) (o_x_t_readPicture : Int32) (o_x_t_at : Int32) (o_x_t_faultAt : Int32) (o_r_t_readOf : Nat → Int32) (o_r_t_readKind : Nat → Int32) (hf : f_X6_readPart x_t_readCaskets x_t_readWooers x_t_readPicture x_t_length x_t_at x_t_faultAt r_t_readOf r_t_readKind r_t_text p1 = some (o_x_t_readCaskets, o_x_t_readWooers, o_x_t_readPicture, o_x_t_at, o_x_t_faultAt, o_r_t_readOf, o_r_t_readKind)) : Met l yX6_readPart wsX6_readPart ({ frames := 2, cells := 0, slots := 0, locals := 47 }) (Pw E [.ref a_t, .int p1] [(a_t, .inr (6, [.int x_t_isTrue, .int x_t_caskets, .int x_t_wooers, .ref a_t_metal, .ref a_t_kind, .ref a_t_now, .ref a_t_readOf, .ref a_t_readKind, .int x_t_readTrue, .int x_t_readCaskets, .int x_t_readWooers, .int x_t_readPicture, .ref a_t_text, .int x_t_length, .int x_t_at, .int x_t_faultAt, .int x_t_acts, .int x_t_next, .ref a_t_row, .int x_t_riddleMany, .ref a_t_nots, .long x_t_seed, .ref a_t_isKept, .ref a_t_kept])), (a_t_readOf, .inl (E.2.1, 12, .inl r_t_readOf)), (a_t_readKind, .inl (E.2.1, 6, .inl r_t_readKind)), (a_t_text, .inl (E.2.1, 40, .inl r_t_text))] sz) (Qw E none [(a_t, .inr (6, [.int x_t_isTrue, .int x_t_caskets, .int x_t_wooers, .ref a_t_metal, .ref a_t_kind, .ref a_t_now, .ref a_t_readOf, .ref a_t_readKind, .int x_t_readTrue, .int o_x_t_readCaskets, .int o_x_t_readWooers, .int o_x_t_readPicture, .ref a_t_text, .int x_t_length, .int o_x_t_at, .int o_x_t_faultAt, .int x_t_acts, .int x_t_next, .ref a_t_row, .int x_t_riddleMany, .ref a_t_nots, .long x_t_seed, .ref a_t_isKept, .ref a_t_kept])), (a_t_readOf, .inl (E.2.1, 12, .inl o_r_t_readOf)), (a_t_readKind, .inl (E.2.1, 6, .inl o_r_t_readKind)), (a_t_text, .inl (E.2.1, 40, .inl r_t_text))] (va_A [(a_t, .inr (6, [.int x_t_isTrue, .int x_t_caskets, .int x_t_wooers, .ref a_t_metal, .ref a_t_kind, .ref a_t_now, .ref a_t_readOf, .ref a_t_readKind, .int x_t_readTrue, .int x_t_readCaskets, .int x_t_readWooers, .int x_t_readPicture, .ref a_t_text, .int x_t_length, .int x_t_at, .int x_t_faultAt, .int x_t_acts, .int x_t_next, .ref a_t_row, .int x_t_riddleMany, .ref a_t_nots, .long x_t_seed, .ref a_t_isKept, .ref a_t_kept])), (a_t_readOf, .inl (E.2.1, 12, .inl r_t_readOf)), (a_t_readKind, .inl (E.2.1, 6, .inl r_t_readKind)), (a_t_text, .inl (E.2.1, 40, .inl r_t_text))] sz)) 0 0 (va_A [(a_t, .inr (6, [.int x_t_isTrue, .int x_t_caskets, .int x_t_wooers, .ref a_t_metal, .ref a_t_kind, .ref a_t_now, .ref a_t_readOf, .ref a_t_readKind, .int x_t_readTrue, .int x_t_readCaskets, .int x_t_readWooers, .int x_t_readPicture, .ref a_t_text, .int x_t_length, .int x_t_at, .int x_t_faultAt, .int x_t_acts, .int x_t_next, .ref a_t_row, .int x_t_riddleMany, .ref a_t_nots, .long x_t_seed, .ref a_t_isKept, .ref a_t_kept])), (a_t_readOf, .inl (E.2.1, 12, .inl r_t_readOf)), (a_t_readKind, .inl (E.2.1, 6, .inl r_t_readKind)), (a_t_text, .inl (E.2.1, 40, .inl r_t_text))] sz) := by
  refine Met.ofW (cc := cX6_readPart) (maxL := 3) (ret := none) (by decide) rfl ?_
  intro p e s m args below meth c s₁ B hml hv
  obtain ⟨rfl, rfl, hw, hP⟩ := Pw.start hv
  have X := Cxt.of B hml
  have hl := lv_entry ([.ref a_t, .int p1]) (n := 3) (Nat.le_of_ble_eq_true rfl)
  rw [lg_entry_eq]
  exact w_X6_readPart a_t a_t_metal a_t_kind a_t_now a_t_readOf a_t_readKind a_t_text a_t_row a_t_nots a_t_isKept a_t_kept x_t_isTrue x_t_caskets x_t_wooers x_t_readTrue x_t_readCaskets x_t_readWooers x_t_readPicture x_t_length x_t_at x_t_faultAt x_t_acts x_t_next x_t_riddleMany x_t_seed r_t_readOf r_t_readKind r_t_text p1 o_x_t_readCaskets o_x_t_readWooers o_x_t_readPicture o_x_t_at o_x_t_faultAt o_r_t_readOf o_r_t_readKind X hw hf hP va_S.rf hl
set_option maxHeartbeats 4000000 in
set_option maxRecDepth 100000 in
theorem w_X6_readText_63_b {p : Program} {l : Launch} {e : Env} {s : State} {m : MethodId} {args : Array Value} {below : List Frame} {meth : Method} {c : Code} {E : Ev} {A : Nat → Prop} (a_t a_t_metal a_t_kind a_t_now a_t_readOf a_t_readKind a_t_text a_t_row a_t_nots a_t_isKept a_t_kept : Nat) (x_t_isTrue : Int32) (x_t_caskets : Int32) (x_t_wooers : Int32) (x_t_readTrue : Int32) (x_t_readCaskets : Int32) (x_t_readWooers : Int32) (x_t_readPicture : Int32) (x_t_length : Int32) (x_t_at : Int32) (x_t_faultAt : Int32) (x_t_acts : Int32) (x_t_next : Int32) (x_t_riddleMany : Int32) (x_t_seed : Int64) (r_t_readOf : Nat → Int32) (r_t_readKind : Nat → Int32) (r_t_text : Nat → Int32) (o_r : Int32) (o_x_t_readTrue : Int32) (o_x_t_readCaskets : Int32) (o_x_t_readWooers : Int32) (o_x_t_readPicture : Int32) (o_x_t_at : Int32) (o_x_t_faultAt : Int32) (o_r_t_readOf : Nat → Int32) (o_r_t_readKind : Nat → Int32) (X : Cxt p s m args meth c cX6_readText 1 wsX6_readText RX6 (some .int)) (hw : Cw E A s [(a_t, .inr (6, [.int x_t_isTrue, .int x_t_caskets, .int x_t_wooers, .ref a_t_metal, .ref a_t_kind, .ref a_t_now, .ref a_t_readOf, .ref a_t_readKind, .int x_t_readTrue, .int x_t_readCaskets, .int x_t_readWooers, .int x_t_readPicture, .ref a_t_text, .int x_t_length, .int x_t_at, .int x_t_faultAt, .int x_t_acts, .int x_t_next, .ref a_t_row, .int x_t_riddleMany, .ref a_t_nots, .long x_t_seed, .ref a_t_isKept, .ref a_t_kept])), (a_t_readOf, .inl (E.2.1, 12, .inl r_t_readOf)), (a_t_readKind, .inl (E.2.1, 6, .inl r_t_readKind)), (a_t_text, .inl (E.2.1, 40, .inl r_t_text))]) (k63 : Int32 × Int32 × Int32 × Int32 × Int32 × (Nat → Int32) × (Nat → Int32) → Option (Int32 × Int32 × Int32 × Int32 × Int32 × Int32 × Int32 × (Nat → Int32) × (Nat → Int32))) (hk63 : ∀ (x_t_readCaskets : Int32) (x_t_readWooers : Int32) (x_t_readPicture : Int32) (x_t_at : Int32) (x_t_faultAt : Int32) (r_t_readOf : Nat → Int32) (r_t_readKind : Nat → Int32), k63 (x_t_readCaskets, x_t_readWooers, x_t_readPicture, x_t_at, x_t_faultAt, r_t_readOf, r_t_readKind) = some (o_r, o_x_t_readTrue, o_x_t_readCaskets, o_x_t_readWooers, o_x_t_readPicture, o_x_t_at, o_x_t_faultAt, o_r_t_readOf, o_r_t_readKind) → ∀ (H : Heap) (locs : List Loc), va_P E.1 vwCl [(a_t, .inr (6, [.int x_t_isTrue, .int x_t_caskets, .int x_t_wooers, .ref a_t_metal, .ref a_t_kind, .ref a_t_now, .ref a_t_readOf, .ref a_t_readKind, .int x_t_readTrue, .int x_t_readCaskets, .int x_t_readWooers, .int x_t_readPicture, .ref a_t_text, .int x_t_length, .int x_t_at, .int x_t_faultAt, .int x_t_acts, .int x_t_next, .ref a_t_row, .int x_t_riddleMany, .ref a_t_nots, .long x_t_seed, .ref a_t_isKept, .ref a_t_kept])), (a_t_readOf, .inl (E.2.1, 12, .inl r_t_readOf)), (a_t_readKind, .inl (E.2.1, 6, .inl r_t_readKind)), (a_t_text, .inl (E.2.1, 40, .inl r_t_text))] H → va_S A s.heap H locs → ∀ (ls : Array Slot), lv_has ls 1 [(0, .ref a_t)] → W p l e { frames := 3, cells := 0, slots := 0, locals := 69 } s m args below meth c H locs 0 0 (MQ below (Qw E (some (.int o_r)) [(a_t, .inr (6, [.int x_t_isTrue, .int x_t_caskets, .int x_t_wooers, .ref a_t_metal, .ref a_t_kind, .ref a_t_now, .ref a_t_readOf, .ref a_t_readKind, .int o_x_t_readTrue, .int o_x_t_readCaskets, .int o_x_t_readWooers, .int o_x_t_readPicture, .ref a_t_text, .int x_t_length, .int o_x_t_at, .int o_x_t_faultAt, .int x_t_acts, .int x_t_next, .ref a_t_row, .int x_t_riddleMany, .ref a_t_nots, .long x_t_seed, .ref a_t_isKept, .ref a_t_kept])), (a_t_readOf, .inl (E.2.1, 12, .inl o_r_t_readOf)), (a_t_readKind, .inl (E.2.1, 6, .inl o_r_t_readKind)), (a_t_text, .inl (E.2.1, 40, .inl r_t_text))] A) args s 0 0 A) (F0 m 63 ls [])) (h : f_X6_readText_63_b x_t_readTrue x_t_length r_t_text k63 x_t_readCaskets x_t_readWooers x_t_readPicture x_t_at x_t_faultAt r_t_readOf r_t_readKind = some (o_r, o_x_t_readTrue, o_x_t_readCaskets, o_x_t_readWooers, o_x_t_readPicture, o_x_t_at, o_x_t_faultAt, o_r_t_readOf, o_r_t_readKind)) {H : Heap} {locs : List Loc} (hP : va_P E.1 vwCl [(a_t, .inr (6, [.int x_t_isTrue, .int x_t_caskets, .int x_t_wooers, .ref a_t_metal, .ref a_t_kind, .ref a_t_now, .ref a_t_readOf, .ref a_t_readKind, .int x_t_readTrue, .int x_t_readCaskets, .int x_t_readWooers, .int x_t_readPicture, .ref a_t_text, .int x_t_length, .int x_t_at, .int x_t_faultAt, .int x_t_acts, .int x_t_next, .ref a_t_row, .int x_t_riddleMany, .ref a_t_nots, .long x_t_seed, .ref a_t_isKept, .ref a_t_kept])), (a_t_readOf, .inl (E.2.1, 12, .inl r_t_readOf)), (a_t_readKind, .inl (E.2.1, 6, .inl r_t_readKind)), (a_t_text, .inl (E.2.1, 40, .inl r_t_text))] H) (hS : va_S A s.heap H locs) {ls : Array Slot} (hl : lv_has ls 1 [(0, .ref a_t)]) : W p l e { frames := 3, cells := 0, slots := 0, locals := 69 } s m args below meth c H locs 0 0 (MQ below (Qw E (some (.int o_r)) [(a_t, .inr (6, [.int x_t_isTrue, .int x_t_caskets, .int x_t_wooers, .ref a_t_metal, .ref a_t_kind, .ref a_t_now, .ref a_t_readOf, .ref a_t_readKind, .int o_x_t_readTrue, .int o_x_t_readCaskets, .int o_x_t_readWooers, .int o_x_t_readPicture, .ref a_t_text, .int x_t_length, .int o_x_t_at, .int o_x_t_faultAt, .int x_t_acts, .int x_t_next, .ref a_t_row, .int x_t_riddleMany, .ref a_t_nots, .long x_t_seed, .ref a_t_isKept, .ref a_t_kept])), (a_t_readOf, .inl (E.2.1, 12, .inl o_r_t_readOf)), (a_t_readKind, .inl (E.2.1, 6, .inl o_r_t_readKind)), (a_t_text, .inl (E.2.1, 40, .inl r_t_text))] A) args s 0 0 A) (F0 m 63 ls []) := by
  obtain ⟨⟨hx, hb, hml, hown, hts⟩, hr, hlocks⟩ := id X
  obtain ⟨hC, hAB, hA, hB, hD⟩ := id hw
  have hiX6 : ∀ w ∈ u_ws RX6 TX6 24, w ∈ wsX6_readText := by decide +kernel
  have hK := hC.1
  unfold f_X6_readText_63_b at h
  refine lv_aload_n hx hb dX6_readText_63 rfl (lv_at hl 0 rfl) ?_
  refine va_get (D := E.1) (ci := 6) (v := .int x_t_faultAt) (C := RX6) (T := TX6) (N := 24) hx hb hts hiX6 hown hK hP 0 rfl rfl 15 (by decide) (hts (.fieldLink RX6 54 "CasketLinesModel" "faultAt" "I") (by decide +kernel)) (fun _ h9 => h9) rfl dX6_readText_64 ?_
  refine lv_bipush (v := (-9)) hx hb dX6_readText_67 (by decide) ?_
  refine lv_icmp_ne (tgt := 99) hx hb dX6_readText_69 (by decide) (fun c1 => ?_) (fun c1 => ?_)
  · have h := ifn c1 h
    refine lv_aload_n hx hb dX6_readText_99 rfl (lv_at hl 0 rfl) ?_
    refine va_get (D := E.1) (ci := 6) (v := .int x_t_faultAt) (C := RX6) (T := TX6) (N := 24) hx hb hts hiX6 hown hK hP 0 rfl rfl 15 (by decide) (hts (.fieldLink RX6 54 "CasketLinesModel" "faultAt" "I") (by decide +kernel)) (fun _ h9 => h9) rfl dX6_readText_100 ?_
    exact W.iret hx hb hr (fun t ht _ => ⟨by cases h; rfl, by rw [ht]; cases h; exact hP, hS.F ht⟩) hS.2.2 dX6_readText_103
  · have h := ifp c1 h
    refine lv_aload_n hx hb dX6_readText_72 rfl (lv_at hl 0 rfl) ?_
    refine va_get (D := E.1) (ci := 6) (v := .int x_t_at) (C := RX6) (T := TX6) (N := 24) hx hb hts hiX6 hown hK hP 0 rfl rfl 14 (by decide) (hts (.fieldLink RX6 57 "CasketLinesModel" "at" "I") (by decide +kernel)) (fun _ h9 => h9) rfl dX6_readText_73 ?_
    refine lv_aload_n hx hb dX6_readText_76 rfl (lv_at hl 0 rfl) ?_
    refine va_get (D := E.1) (ci := 6) (v := .int x_t_length) (C := RX6) (T := TX6) (N := 24) hx hb hts hiX6 hown hK hP 0 rfl rfl 13 (by decide) (hts (.fieldLink RX6 51 "CasketLinesModel" "length" "I") (by decide +kernel)) (fun _ h9 => h9) rfl dX6_readText_77 ?_
    refine lv_icmp_ge (tgt := 99) hx hb dX6_readText_80 (by decide) (fun c2 => ?_) (fun c2 => ?_)
    · have h := ifp c2 h
      refine lv_aload_n hx hb dX6_readText_99 rfl (lv_at hl 0 rfl) ?_
      refine va_get (D := E.1) (ci := 6) (v := .int x_t_faultAt) (C := RX6) (T := TX6) (N := 24) hx hb hts hiX6 hown hK hP 0 rfl rfl 15 (by decide) (hts (.fieldLink RX6 54 "CasketLinesModel" "faultAt" "I") (by decide +kernel)) (fun _ h9 => h9) rfl dX6_readText_100 ?_
      exact W.iret hx hb hr (fun t ht _ => ⟨by cases h; rfl, by rw [ht]; cases h; exact hP, hS.F ht⟩) hS.2.2 dX6_readText_103
    · have h := ifn c2 h
      refine lv_aload_n hx hb dX6_readText_83 rfl (lv_at hl 0 rfl) ?_
      refine lv_aload_n hx hb dX6_readText_84 rfl (lv_at hl 0 rfl) ?_
      refine va_get (D := E.1) (ci := 6) (v := .ref a_t_text) (C := RX6) (T := TX6) (N := 24) hx hb hts hiX6 hown hK hP 0 rfl rfl 12 (by decide) (hts (.fieldLink RX6 25 "CasketLinesModel" "text" "[I") (by decide +kernel)) (fun _ h9 => h9) rfl dX6_readText_85 ?_
      refine lv_aload_n hx hb dX6_readText_88 rfl (lv_at hl 0 rfl) ?_
      refine va_get (D := E.1) (ci := 6) (v := .int x_t_at) (C := RX6) (T := TX6) (N := 24) hx hb hts hiX6 hown hK hP 0 rfl rfl 14 (by decide) (hts (.fieldLink RX6 57 "CasketLinesModel" "at" "I") (by decide +kernel)) (fun _ h9 => h9) rfl dX6_readText_89 ?_
      obtain ⟨b3, h⟩ := gdn h
      refine va_iald hx hb hK hP 3 0 rfl rfl b3 dX6_readText_92 ?_
      obtain ⟨⟨u6, u7, u8, u9, u10, u11, u12⟩, g5, h⟩ := bnd h
      refine wcV (A := A) (As := [.int (r_t_text (Int32.toNatClampNeg x_t_at))]) (rest := []) (ws' := [(a_t, .inr (6, [.int x_t_isTrue, .int x_t_caskets, .int x_t_wooers, .ref a_t_metal, .ref a_t_kind, .ref a_t_now, .ref a_t_readOf, .ref a_t_readKind, .int x_t_readTrue, .int u6, .int u7, .int u8, .ref a_t_text, .int x_t_length, .int u9, .int u10, .int x_t_acts, .int x_t_next, .ref a_t_row, .int x_t_riddleMany, .ref a_t_nots, .long x_t_seed, .ref a_t_isKept, .ref a_t_kept])), (a_t_readOf, .inl (E.2.1, 12, .inl u11)), (a_t_readKind, .inl (E.2.1, 6, .inl u12)), (a_t_text, .inl (E.2.1, 40, .inl r_t_text))]) ⟨hx, hb, hml, hown, hts⟩ (k_X6_readPart (l := l) (E := E) a_t a_t_metal a_t_kind a_t_now a_t_readOf a_t_readKind a_t_text a_t_row a_t_nots a_t_isKept a_t_kept x_t_isTrue x_t_caskets x_t_wooers x_t_readTrue x_t_readCaskets x_t_readWooers x_t_readPicture x_t_length x_t_at x_t_faultAt x_t_acts x_t_next x_t_riddleMany x_t_seed r_t_readOf r_t_readKind r_t_text (r_t_text (Int32.toNatClampNeg x_t_at)) H.size u6 u7 u8 u9 u10 u11 u12 g5) (cwV 1 hts gX6_readText_X6_readPart rfl rfl rfl (by decide +kernel) ⟨Nat.le_of_ble_eq_true rfl, Nat.le_of_ble_eq_true rfl⟩) (hC.here hS hAB) hP (hD.adr rfl) hS hA hAB hB [0, 1, 2, 3] rfl rfl [some 0, some 1, some 2, some 3] rfl rfl 0 6 rfl rfl rfl rfl hl.1 rfl (Nat.le_of_ble_eq_true rfl) dX6_readText_93 ⟨Nat.zero_le _, Nat.zero_le _⟩ (fun H locs hP hS => ?_)
      refine lv_goto (tgt := 63) hx hb dX6_readText_96 (by decide) ?_
      exact hk63 u6 u7 u8 u9 u10 u11 u12 h H locs hP hS ls (lv_sub hl [0] rfl)
set_option maxHeartbeats 4000000 in
set_option maxRecDepth 100000 in
theorem w_X6_readText_63 {p : Program} {l : Launch} {e : Env} {s : State} {m : MethodId} {args : Array Value} {below : List Frame} {meth : Method} {c : Code} {E : Ev} {A : Nat → Prop} (a_t a_t_metal a_t_kind a_t_now a_t_readOf a_t_readKind a_t_text a_t_row a_t_nots a_t_isKept a_t_kept : Nat) (x_t_isTrue : Int32) (x_t_caskets : Int32) (x_t_wooers : Int32) (x_t_readTrue : Int32) (x_t_readCaskets : Int32) (x_t_readWooers : Int32) (x_t_readPicture : Int32) (x_t_length : Int32) (x_t_at : Int32) (x_t_faultAt : Int32) (x_t_acts : Int32) (x_t_next : Int32) (x_t_riddleMany : Int32) (x_t_seed : Int64) (r_t_readOf : Nat → Int32) (r_t_readKind : Nat → Int32) (r_t_text : Nat → Int32) (o_r : Int32) (o_x_t_readTrue : Int32) (o_x_t_readCaskets : Int32) (o_x_t_readWooers : Int32) (o_x_t_readPicture : Int32) (o_x_t_at : Int32) (o_x_t_faultAt : Int32) (o_r_t_readOf : Nat → Int32) (o_r_t_readKind : Nat → Int32) (X : Cxt p s m args meth c cX6_readText 1 wsX6_readText RX6 (some .int)) (hw : Cw E A s [(a_t, .inr (6, [.int x_t_isTrue, .int x_t_caskets, .int x_t_wooers, .ref a_t_metal, .ref a_t_kind, .ref a_t_now, .ref a_t_readOf, .ref a_t_readKind, .int x_t_readTrue, .int x_t_readCaskets, .int x_t_readWooers, .int x_t_readPicture, .ref a_t_text, .int x_t_length, .int x_t_at, .int x_t_faultAt, .int x_t_acts, .int x_t_next, .ref a_t_row, .int x_t_riddleMany, .ref a_t_nots, .long x_t_seed, .ref a_t_isKept, .ref a_t_kept])), (a_t_readOf, .inl (E.2.1, 12, .inl r_t_readOf)), (a_t_readKind, .inl (E.2.1, 6, .inl r_t_readKind)), (a_t_text, .inl (E.2.1, 40, .inl r_t_text))]) : ∀ (n : Nat) (x_t_readCaskets : Int32) (x_t_readWooers : Int32) (x_t_readPicture : Int32) (x_t_at : Int32) (x_t_faultAt : Int32) (r_t_readOf : Nat → Int32) (r_t_readKind : Nat → Int32), f_X6_readText_63 x_t_readTrue x_t_length r_t_text n x_t_readCaskets x_t_readWooers x_t_readPicture x_t_at x_t_faultAt r_t_readOf r_t_readKind = some (o_r, o_x_t_readTrue, o_x_t_readCaskets, o_x_t_readWooers, o_x_t_readPicture, o_x_t_at, o_x_t_faultAt, o_r_t_readOf, o_r_t_readKind) → ∀ (H : Heap) (locs : List Loc), va_P E.1 vwCl [(a_t, .inr (6, [.int x_t_isTrue, .int x_t_caskets, .int x_t_wooers, .ref a_t_metal, .ref a_t_kind, .ref a_t_now, .ref a_t_readOf, .ref a_t_readKind, .int x_t_readTrue, .int x_t_readCaskets, .int x_t_readWooers, .int x_t_readPicture, .ref a_t_text, .int x_t_length, .int x_t_at, .int x_t_faultAt, .int x_t_acts, .int x_t_next, .ref a_t_row, .int x_t_riddleMany, .ref a_t_nots, .long x_t_seed, .ref a_t_isKept, .ref a_t_kept])), (a_t_readOf, .inl (E.2.1, 12, .inl r_t_readOf)), (a_t_readKind, .inl (E.2.1, 6, .inl r_t_readKind)), (a_t_text, .inl (E.2.1, 40, .inl r_t_text))] H → va_S A s.heap H locs → ∀ (ls : Array Slot), lv_has ls 1 [(0, .ref a_t)] → W p l e { frames := 3, cells := 0, slots := 0, locals := 69 } s m args below meth c H locs 0 0 (MQ below (Qw E (some (.int o_r)) [(a_t, .inr (6, [.int x_t_isTrue, .int x_t_caskets, .int x_t_wooers, .ref a_t_metal, .ref a_t_kind, .ref a_t_now, .ref a_t_readOf, .ref a_t_readKind, .int o_x_t_readTrue, .int o_x_t_readCaskets, .int o_x_t_readWooers, .int o_x_t_readPicture, .ref a_t_text, .int x_t_length, .int o_x_t_at, .int o_x_t_faultAt, .int x_t_acts, .int x_t_next, .ref a_t_row, .int x_t_riddleMany, .ref a_t_nots, .long x_t_seed, .ref a_t_isKept, .ref a_t_kept])), (a_t_readOf, .inl (E.2.1, 12, .inl o_r_t_readOf)), (a_t_readKind, .inl (E.2.1, 6, .inl o_r_t_readKind)), (a_t_text, .inl (E.2.1, 40, .inl r_t_text))] A) args s 0 0 A) (F0 m 63 ls []) := by
  intro n
  induction n with
  | zero =>
    intro x_t_readCaskets x_t_readWooers x_t_readPicture x_t_at x_t_faultAt r_t_readOf r_t_readKind h
    exact (rk_z _ _ h).elim
  | succ n ih =>
    intro x_t_readCaskets x_t_readWooers x_t_readPicture x_t_at x_t_faultAt r_t_readOf r_t_readKind h H locs hP hS ls hl
    exact w_X6_readText_63_b a_t a_t_metal a_t_kind a_t_now a_t_readOf a_t_readKind a_t_text a_t_row a_t_nots a_t_isKept a_t_kept x_t_isTrue x_t_caskets x_t_wooers x_t_readTrue x_t_readCaskets x_t_readWooers x_t_readPicture x_t_length x_t_at x_t_faultAt x_t_acts x_t_next x_t_riddleMany x_t_seed r_t_readOf r_t_readKind r_t_text   o_r o_x_t_readTrue o_x_t_readCaskets o_x_t_readWooers o_x_t_readPicture o_x_t_at o_x_t_faultAt o_r_t_readOf o_r_t_readKind X (hw.adr rfl)  (rk (fun k x => f_X6_readText_63_b x_t_readTrue x_t_length r_t_text  k (x.1) (x.2.1) (x.2.2.1) (x.2.2.2.1) (x.2.2.2.2.1) (x.2.2.2.2.2.1) (x.2.2.2.2.2.2)) n) (fun x_t_readCaskets x_t_readWooers x_t_readPicture x_t_at x_t_faultAt r_t_readOf r_t_readKind hh => ih x_t_readCaskets x_t_readWooers x_t_readPicture x_t_at x_t_faultAt r_t_readOf r_t_readKind hh)  h hP hS hl
set_option maxHeartbeats 4000000 in
set_option maxRecDepth 100000 in
theorem w_X6_readText {p : Program} {l : Launch} {e : Env} {s : State} {m : MethodId} {args : Array Value} {below : List Frame} {meth : Method} {c : Code} {E : Ev} {A : Nat → Prop} (a_t a_t_metal a_t_kind a_t_now a_t_readOf a_t_readKind a_t_text a_t_row a_t_nots a_t_isKept a_t_kept : Nat) (x_t_isTrue : Int32) (x_t_caskets : Int32) (x_t_wooers : Int32) (x_t_readTrue : Int32) (x_t_readCaskets : Int32) (x_t_readWooers : Int32) (x_t_readPicture : Int32) (x_t_length : Int32) (x_t_at : Int32) (x_t_faultAt : Int32) (x_t_acts : Int32) (x_t_next : Int32) (x_t_riddleMany : Int32) (x_t_seed : Int64) (r_t_readOf : Nat → Int32) (r_t_readKind : Nat → Int32) (r_t_text : Nat → Int32) (o_r : Int32) (o_x_t_readTrue : Int32) (o_x_t_readCaskets : Int32) (o_x_t_readWooers : Int32) (o_x_t_readPicture : Int32) (o_x_t_at : Int32) (o_x_t_faultAt : Int32) (o_r_t_readOf : Nat → Int32) (o_r_t_readKind : Nat → Int32) (X : Cxt p s m args meth c cX6_readText 1 wsX6_readText RX6 (some .int)) (hw : Cw E A s [(a_t, .inr (6, [.int x_t_isTrue, .int x_t_caskets, .int x_t_wooers, .ref a_t_metal, .ref a_t_kind, .ref a_t_now, .ref a_t_readOf, .ref a_t_readKind, .int x_t_readTrue, .int x_t_readCaskets, .int x_t_readWooers, .int x_t_readPicture, .ref a_t_text, .int x_t_length, .int x_t_at, .int x_t_faultAt, .int x_t_acts, .int x_t_next, .ref a_t_row, .int x_t_riddleMany, .ref a_t_nots, .long x_t_seed, .ref a_t_isKept, .ref a_t_kept])), (a_t_readOf, .inl (E.2.1, 12, .inl r_t_readOf)), (a_t_readKind, .inl (E.2.1, 6, .inl r_t_readKind)), (a_t_text, .inl (E.2.1, 40, .inl r_t_text))]) (h : f_X6_readText x_t_readTrue x_t_readCaskets x_t_readWooers x_t_readPicture x_t_length x_t_at x_t_faultAt r_t_readOf r_t_readKind r_t_text = some (o_r, o_x_t_readTrue, o_x_t_readCaskets, o_x_t_readWooers, o_x_t_readPicture, o_x_t_at, o_x_t_faultAt, o_r_t_readOf, o_r_t_readKind)) {H : Heap} {locs : List Loc} (hP : va_P E.1 vwCl [(a_t, .inr (6, [.int x_t_isTrue, .int x_t_caskets, .int x_t_wooers, .ref a_t_metal, .ref a_t_kind, .ref a_t_now, .ref a_t_readOf, .ref a_t_readKind, .int x_t_readTrue, .int x_t_readCaskets, .int x_t_readWooers, .int x_t_readPicture, .ref a_t_text, .int x_t_length, .int x_t_at, .int x_t_faultAt, .int x_t_acts, .int x_t_next, .ref a_t_row, .int x_t_riddleMany, .ref a_t_nots, .long x_t_seed, .ref a_t_isKept, .ref a_t_kept])), (a_t_readOf, .inl (E.2.1, 12, .inl r_t_readOf)), (a_t_readKind, .inl (E.2.1, 6, .inl r_t_readKind)), (a_t_text, .inl (E.2.1, 40, .inl r_t_text))] H) (hS : va_S A s.heap H locs) {ls : Array Slot} (hl : lv_has ls 1 [(0, .ref a_t)]) : W p l e { frames := 3, cells := 0, slots := 0, locals := 69 } s m args below meth c H locs 0 0 (MQ below (Qw E (some (.int o_r)) [(a_t, .inr (6, [.int x_t_isTrue, .int x_t_caskets, .int x_t_wooers, .ref a_t_metal, .ref a_t_kind, .ref a_t_now, .ref a_t_readOf, .ref a_t_readKind, .int o_x_t_readTrue, .int o_x_t_readCaskets, .int o_x_t_readWooers, .int o_x_t_readPicture, .ref a_t_text, .int x_t_length, .int o_x_t_at, .int o_x_t_faultAt, .int x_t_acts, .int x_t_next, .ref a_t_row, .int x_t_riddleMany, .ref a_t_nots, .long x_t_seed, .ref a_t_isKept, .ref a_t_kept])), (a_t_readOf, .inl (E.2.1, 12, .inl o_r_t_readOf)), (a_t_readKind, .inl (E.2.1, 6, .inl o_r_t_readKind)), (a_t_text, .inl (E.2.1, 40, .inl r_t_text))] A) args s 0 0 A) (F0 m 0 ls []) := by
  obtain ⟨⟨hx, hb, hml, hown, hts⟩, hr, hlocks⟩ := id X
  obtain ⟨hC, hAB, hA, hB, hD⟩ := id hw
  have hiX6 : ∀ w ∈ u_ws RX6 TX6 24, w ∈ wsX6_readText := by decide +kernel
  have hK := hC.1
  unfold f_X6_readText at h
  refine lv_aload_n hx hb dX6_readText_0 rfl (lv_at hl 0 rfl) ?_
  refine lv_iconst (v := 0) hx hb dX6_readText_1 (by decide) ?_
  refine va_put (D := E.1) (ci := 6) (v := .int 0) (ty := .int) (C := RX6) (T := TX6) (N := 24) hx hb hts hiX6 tyX6 tyX6_ok nmX6 hown hK hP (hD.adr rfl) hS 0 rfl rfl 14 (by decide) (hts (.fieldLink RX6 57 "CasketLinesModel" "at" "I") (by decide +kernel)) (fun _ h9 => h9) rfl (by decide +kernel) rfl rfl (Nat.le_of_ble_eq_true rfl) dX6_readText_2 (fun H locs hP _ hS => ?_)
  have hP : va_P E.1 vwCl [(a_t, .inr (6, [.int x_t_isTrue, .int x_t_caskets, .int x_t_wooers, .ref a_t_metal, .ref a_t_kind, .ref a_t_now, .ref a_t_readOf, .ref a_t_readKind, .int x_t_readTrue, .int x_t_readCaskets, .int x_t_readWooers, .int x_t_readPicture, .ref a_t_text, .int x_t_length, .int 0, .int x_t_faultAt, .int x_t_acts, .int x_t_next, .ref a_t_row, .int x_t_riddleMany, .ref a_t_nots, .long x_t_seed, .ref a_t_isKept, .ref a_t_kept])), (a_t_readOf, .inl (E.2.1, 12, .inl r_t_readOf)), (a_t_readKind, .inl (E.2.1, 6, .inl r_t_readKind)), (a_t_text, .inl (E.2.1, 40, .inl r_t_text))] H := hP
  refine lv_aload_n hx hb dX6_readText_5 rfl (lv_at hl 0 rfl) ?_
  refine lv_bipush (v := (-9)) hx hb dX6_readText_6 (by decide) ?_
  refine va_put (D := E.1) (ci := 6) (v := .int (-9)) (ty := .int) (C := RX6) (T := TX6) (N := 24) hx hb hts hiX6 tyX6 tyX6_ok nmX6 hown hK hP (hD.adr rfl) hS 0 rfl rfl 15 (by decide) (hts (.fieldLink RX6 54 "CasketLinesModel" "faultAt" "I") (by decide +kernel)) (fun _ h9 => h9) rfl (by decide +kernel) rfl rfl (Nat.le_of_ble_eq_true rfl) dX6_readText_8 (fun H locs hP _ hS => ?_)
  have hP : va_P E.1 vwCl [(a_t, .inr (6, [.int x_t_isTrue, .int x_t_caskets, .int x_t_wooers, .ref a_t_metal, .ref a_t_kind, .ref a_t_now, .ref a_t_readOf, .ref a_t_readKind, .int x_t_readTrue, .int x_t_readCaskets, .int x_t_readWooers, .int x_t_readPicture, .ref a_t_text, .int x_t_length, .int 0, .int (-9), .int x_t_acts, .int x_t_next, .ref a_t_row, .int x_t_riddleMany, .ref a_t_nots, .long x_t_seed, .ref a_t_isKept, .ref a_t_kept])), (a_t_readOf, .inl (E.2.1, 12, .inl r_t_readOf)), (a_t_readKind, .inl (E.2.1, 6, .inl r_t_readKind)), (a_t_text, .inl (E.2.1, 40, .inl r_t_text))] H := hP
  refine lv_aload_n hx hb dX6_readText_11 rfl (lv_at hl 0 rfl) ?_
  refine lv_iconst (v := 0) hx hb dX6_readText_12 (by decide) ?_
  refine va_put (D := E.1) (ci := 6) (v := .int 0) (ty := .int) (C := RX6) (T := TX6) (N := 24) hx hb hts hiX6 tyX6 tyX6_ok nmX6 hown hK hP (hD.adr rfl) hS 0 rfl rfl 9 (by decide) (hts (.fieldLink RX6 66 "CasketLinesModel" "readCaskets" "I") (by decide +kernel)) (fun _ h9 => h9) rfl (by decide +kernel) rfl rfl (Nat.le_of_ble_eq_true rfl) dX6_readText_13 (fun H locs hP _ hS => ?_)
  have hP : va_P E.1 vwCl [(a_t, .inr (6, [.int x_t_isTrue, .int x_t_caskets, .int x_t_wooers, .ref a_t_metal, .ref a_t_kind, .ref a_t_now, .ref a_t_readOf, .ref a_t_readKind, .int x_t_readTrue, .int 0, .int x_t_readWooers, .int x_t_readPicture, .ref a_t_text, .int x_t_length, .int 0, .int (-9), .int x_t_acts, .int x_t_next, .ref a_t_row, .int x_t_riddleMany, .ref a_t_nots, .long x_t_seed, .ref a_t_isKept, .ref a_t_kept])), (a_t_readOf, .inl (E.2.1, 12, .inl r_t_readOf)), (a_t_readKind, .inl (E.2.1, 6, .inl r_t_readKind)), (a_t_text, .inl (E.2.1, 40, .inl r_t_text))] H := hP
  refine lv_aload_n hx hb dX6_readText_16 rfl (lv_at hl 0 rfl) ?_
  refine lv_iconst (v := 0) hx hb dX6_readText_17 (by decide) ?_
  refine va_put (D := E.1) (ci := 6) (v := .int 0) (ty := .int) (C := RX6) (T := TX6) (N := 24) hx hb hts hiX6 tyX6 tyX6_ok nmX6 hown hK hP (hD.adr rfl) hS 0 rfl rfl 10 (by decide) (hts (.fieldLink RX6 69 "CasketLinesModel" "readWooers" "I") (by decide +kernel)) (fun _ h9 => h9) rfl (by decide +kernel) rfl rfl (Nat.le_of_ble_eq_true rfl) dX6_readText_18 (fun H locs hP _ hS => ?_)
  have hP : va_P E.1 vwCl [(a_t, .inr (6, [.int x_t_isTrue, .int x_t_caskets, .int x_t_wooers, .ref a_t_metal, .ref a_t_kind, .ref a_t_now, .ref a_t_readOf, .ref a_t_readKind, .int x_t_readTrue, .int 0, .int 0, .int x_t_readPicture, .ref a_t_text, .int x_t_length, .int 0, .int (-9), .int x_t_acts, .int x_t_next, .ref a_t_row, .int x_t_riddleMany, .ref a_t_nots, .long x_t_seed, .ref a_t_isKept, .ref a_t_kept])), (a_t_readOf, .inl (E.2.1, 12, .inl r_t_readOf)), (a_t_readKind, .inl (E.2.1, 6, .inl r_t_readKind)), (a_t_text, .inl (E.2.1, 40, .inl r_t_text))] H := hP
  refine lv_aload_n hx hb dX6_readText_21 rfl (lv_at hl 0 rfl) ?_
  refine lv_bipush (v := (-9)) hx hb dX6_readText_22 (by decide) ?_
  refine va_put (D := E.1) (ci := 6) (v := .int (-9)) (ty := .int) (C := RX6) (T := TX6) (N := 24) hx hb hts hiX6 tyX6 tyX6_ok nmX6 hown hK hP (hD.adr rfl) hS 0 rfl rfl 11 (by decide) (hts (.fieldLink RX6 72 "CasketLinesModel" "readPicture" "I") (by decide +kernel)) (fun _ h9 => h9) rfl (by decide +kernel) rfl rfl (Nat.le_of_ble_eq_true rfl) dX6_readText_24 (fun H locs hP _ hS => ?_)
  have hP : va_P E.1 vwCl [(a_t, .inr (6, [.int x_t_isTrue, .int x_t_caskets, .int x_t_wooers, .ref a_t_metal, .ref a_t_kind, .ref a_t_now, .ref a_t_readOf, .ref a_t_readKind, .int x_t_readTrue, .int 0, .int 0, .int (-9), .ref a_t_text, .int x_t_length, .int 0, .int (-9), .int x_t_acts, .int x_t_next, .ref a_t_row, .int x_t_riddleMany, .ref a_t_nots, .long x_t_seed, .ref a_t_isKept, .ref a_t_kept])), (a_t_readOf, .inl (E.2.1, 12, .inl r_t_readOf)), (a_t_readKind, .inl (E.2.1, 6, .inl r_t_readKind)), (a_t_text, .inl (E.2.1, 40, .inl r_t_text))] H := hP
  refine lv_aload_n hx hb dX6_readText_27 rfl (lv_at hl 0 rfl) ?_
  refine va_get (D := E.1) (ci := 6) (v := .int x_t_length) (C := RX6) (T := TX6) (N := 24) hx hb hts hiX6 hown hK hP 0 rfl rfl 13 (by decide) (hts (.fieldLink RX6 51 "CasketLinesModel" "length" "I") (by decide +kernel)) (fun _ h9 => h9) rfl dX6_readText_28 ?_
  refine lv_if_eq (tgt := 45) hx hb dX6_readText_31 (by decide) (fun c14 => ?_) (fun c14 => ?_)
  · have h := ifp c14 h
    refine lv_iconst (v := 0) hx hb dX6_readText_45 (by decide) ?_
    exact W.iret hx hb hr (fun t ht _ => ⟨by cases h; rfl, by rw [ht]; cases h; exact hP, hS.F ht⟩) hS.2.2 dX6_readText_46
  · have h := ifn c14 h
    refine lv_aload_n hx hb dX6_readText_34 rfl (lv_at hl 0 rfl) ?_
    refine va_get (D := E.1) (ci := 6) (v := .ref a_t_text) (C := RX6) (T := TX6) (N := 24) hx hb hts hiX6 hown hK hP 0 rfl rfl 12 (by decide) (hts (.fieldLink RX6 25 "CasketLinesModel" "text" "[I") (by decide +kernel)) (fun _ h9 => h9) rfl dX6_readText_35 ?_
    refine lv_iconst (v := 0) hx hb dX6_readText_38 (by decide) ?_
    refine va_iald hx hb hK hP 3 0 rfl rfl (vin rfl) dX6_readText_39 ?_
    refine lv_bipush (v := 71) hx hb dX6_readText_40 (by decide) ?_
    refine lv_icmp_eq (tgt := 47) hx hb dX6_readText_42 (by decide) (fun c15 => ?_) (fun c15 => ?_)
    · have h := ifp c15 h
      refine lv_aload_n hx hb dX6_readText_47 rfl (lv_at hl 0 rfl) ?_
      refine lv_iconst (v := 1) hx hb dX6_readText_48 (by decide) ?_
      refine va_put (D := E.1) (ci := 6) (v := .int 1) (ty := .int) (C := RX6) (T := TX6) (N := 24) hx hb hts hiX6 tyX6 tyX6_ok nmX6 hown hK hP (hD.adr rfl) hS 0 rfl rfl 14 (by decide) (hts (.fieldLink RX6 57 "CasketLinesModel" "at" "I") (by decide +kernel)) (fun _ h9 => h9) rfl (by decide +kernel) rfl rfl (Nat.le_of_ble_eq_true rfl) dX6_readText_49 (fun H locs hP _ hS => ?_)
      have hP : va_P E.1 vwCl [(a_t, .inr (6, [.int x_t_isTrue, .int x_t_caskets, .int x_t_wooers, .ref a_t_metal, .ref a_t_kind, .ref a_t_now, .ref a_t_readOf, .ref a_t_readKind, .int x_t_readTrue, .int 0, .int 0, .int (-9), .ref a_t_text, .int x_t_length, .int 1, .int (-9), .int x_t_acts, .int x_t_next, .ref a_t_row, .int x_t_riddleMany, .ref a_t_nots, .long x_t_seed, .ref a_t_isKept, .ref a_t_kept])), (a_t_readOf, .inl (E.2.1, 12, .inl r_t_readOf)), (a_t_readKind, .inl (E.2.1, 6, .inl r_t_readKind)), (a_t_text, .inl (E.2.1, 40, .inl r_t_text))] H := hP
      refine lv_aload_n hx hb dX6_readText_52 rfl (lv_at hl 0 rfl) ?_
      refine lv_aload_n hx hb dX6_readText_53 rfl (lv_at hl 0 rfl) ?_
      refine lv_sipush (v := 543) hx hb dX6_readText_54 (by decide) ?_
      obtain ⟨⟨r16, u18, u19⟩, g17, h⟩ := bnd h
      refine wcV (A := A) (As := [.int 543]) (rest := [.ref a_t]) (ws' := [(a_t, .inr (6, [.int x_t_isTrue, .int x_t_caskets, .int x_t_wooers, .ref a_t_metal, .ref a_t_kind, .ref a_t_now, .ref a_t_readOf, .ref a_t_readKind, .int x_t_readTrue, .int 0, .int 0, .int (-9), .ref a_t_text, .int x_t_length, .int u18, .int u19, .int x_t_acts, .int x_t_next, .ref a_t_row, .int x_t_riddleMany, .ref a_t_nots, .long x_t_seed, .ref a_t_isKept, .ref a_t_kept])), (a_t_readOf, .inl (E.2.1, 12, .inl r_t_readOf)), (a_t_readKind, .inl (E.2.1, 6, .inl r_t_readKind)), (a_t_text, .inl (E.2.1, 40, .inl r_t_text))]) ⟨hx, hb, hml, hown, hts⟩ (k_X6_figureOf (l := l) (E := E) a_t a_t_metal a_t_kind a_t_now a_t_readOf a_t_readKind a_t_text a_t_row a_t_nots a_t_isKept a_t_kept x_t_isTrue x_t_caskets x_t_wooers x_t_readTrue 0 0 (-9) x_t_length 1 (-9) x_t_acts x_t_next x_t_riddleMany x_t_seed r_t_text 543 H.size r16 u18 u19 g17) (cwV 1 hts gX6_readText_X6_figureOf rfl rfl rfl (by decide +kernel) ⟨Nat.le_of_ble_eq_true rfl, Nat.le_of_ble_eq_true rfl⟩) (hC.here hS hAB) hP (hD.adr rfl) hS hA hAB hB [0, 3] rfl rfl [some 0, none, none, some 1] rfl rfl 0 6 rfl rfl rfl rfl hl.1 rfl (Nat.le_of_ble_eq_true rfl) dX6_readText_57 ⟨Nat.zero_le _, Nat.zero_le _⟩ (fun H locs hP hS => ?_)
      refine va_put (D := E.1) (ci := 6) (v := .int r16) (ty := .int) (C := RX6) (T := TX6) (N := 24) hx hb hts hiX6 tyX6 tyX6_ok nmX6 hown hK hP (hD.adr rfl) hS 0 rfl rfl 8 (by decide) (hts (.fieldLink RX6 79 "CasketLinesModel" "readTrue" "I") (by decide +kernel)) (fun _ h9 => h9) rfl (by decide +kernel) rfl rfl (Nat.le_of_ble_eq_true rfl) dX6_readText_60 (fun H locs hP _ hS => ?_)
      have hP : va_P E.1 vwCl [(a_t, .inr (6, [.int x_t_isTrue, .int x_t_caskets, .int x_t_wooers, .ref a_t_metal, .ref a_t_kind, .ref a_t_now, .ref a_t_readOf, .ref a_t_readKind, .int r16, .int 0, .int 0, .int (-9), .ref a_t_text, .int x_t_length, .int u18, .int u19, .int x_t_acts, .int x_t_next, .ref a_t_row, .int x_t_riddleMany, .ref a_t_nots, .long x_t_seed, .ref a_t_isKept, .ref a_t_kept])), (a_t_readOf, .inl (E.2.1, 12, .inl r_t_readOf)), (a_t_readKind, .inl (E.2.1, 6, .inl r_t_readKind)), (a_t_text, .inl (E.2.1, 40, .inl r_t_text))] H := hP
      exact w_X6_readText_63 a_t a_t_metal a_t_kind a_t_now a_t_readOf a_t_readKind a_t_text a_t_row a_t_nots a_t_isKept a_t_kept x_t_isTrue x_t_caskets x_t_wooers r16 0 0 (-9) x_t_length u18 u19 x_t_acts x_t_next x_t_riddleMany x_t_seed r_t_readOf r_t_readKind r_t_text   o_r o_x_t_readTrue o_x_t_readCaskets o_x_t_readWooers o_x_t_readPicture o_x_t_at o_x_t_faultAt o_r_t_readOf o_r_t_readKind X (hw.adr rfl)  200 0 0 (-9) u18 u19 r_t_readOf r_t_readKind h H locs hP hS ls (lv_sub hl [0] rfl)
    · have h := ifn c15 h
      refine lv_iconst (v := 0) hx hb dX6_readText_45 (by decide) ?_
      exact W.iret hx hb hr (fun t ht _ => ⟨by cases h; rfl, by rw [ht]; cases h; exact hP, hS.F ht⟩) hS.2.2 dX6_readText_46
set_option maxHeartbeats 4000000 in
set_option maxRecDepth 100000 in
theorem k_X6_readText {l : Launch} {E : Ev} (a_t a_t_metal a_t_kind a_t_now a_t_readOf a_t_readKind a_t_text a_t_row a_t_nots a_t_isKept a_t_kept : Nat) (x_t_isTrue : Int32) (x_t_caskets : Int32) (x_t_wooers : Int32) (x_t_readTrue : Int32) (x_t_readCaskets : Int32) (x_t_readWooers : Int32) (x_t_readPicture : Int32) (x_t_length : Int32) (x_t_at : Int32) (x_t_faultAt : Int32) (x_t_acts : Int32) (x_t_next : Int32) (x_t_riddleMany : Int32) (x_t_seed : Int64) (r_t_readOf : Nat → Int32) (r_t_readKind : Nat → Int32) (r_t_text : Nat → Int32) (sz : Nat) (o_r : Int32) (o_x_t_readTrue : Int32) (o_x_t_readCaskets : Int32) (o_x_t_readWooers : Int32) (o_x_t_readPicture : Int32) (o_x_t_at : Int32) (o_x_t_faultAt : Int32) (o_r_t_readOf : Nat → Int32) (o_r_t_readKind : Nat → Int32) (hf : f_X6_readText x_t_readTrue x_t_readCaskets x_t_readWooers x_t_readPicture x_t_length x_t_at x_t_faultAt r_t_readOf r_t_readKind r_t_text = some (o_r, o_x_t_readTrue, o_x_t_readCaskets, o_x_t_readWooers, o_x_t_readPicture, o_x_t_at, o_x_t_faultAt, o_r_t_readOf, o_r_t_readKind)) : Met l yX6_readText wsX6_readText ({ frames := 3, cells := 0, slots := 0, locals := 69 }) (Pw E [.ref a_t] [(a_t, .inr (6, [.int x_t_isTrue, .int x_t_caskets, .int x_t_wooers, .ref a_t_metal, .ref a_t_kind, .ref a_t_now, .ref a_t_readOf, .ref a_t_readKind, .int x_t_readTrue, .int x_t_readCaskets, .int x_t_readWooers, .int x_t_readPicture, .ref a_t_text, .int x_t_length, .int x_t_at, .int x_t_faultAt, .int x_t_acts, .int x_t_next, .ref a_t_row, .int x_t_riddleMany, .ref a_t_nots, .long x_t_seed, .ref a_t_isKept, .ref a_t_kept])), (a_t_readOf, .inl (E.2.1, 12, .inl r_t_readOf)), (a_t_readKind, .inl (E.2.1, 6, .inl r_t_readKind)), (a_t_text, .inl (E.2.1, 40, .inl r_t_text))] sz) (Qw E (some (.int o_r)) [(a_t, .inr (6, [.int x_t_isTrue, .int x_t_caskets, .int x_t_wooers, .ref a_t_metal, .ref a_t_kind, .ref a_t_now, .ref a_t_readOf, .ref a_t_readKind, .int o_x_t_readTrue, .int o_x_t_readCaskets, .int o_x_t_readWooers, .int o_x_t_readPicture, .ref a_t_text, .int x_t_length, .int o_x_t_at, .int o_x_t_faultAt, .int x_t_acts, .int x_t_next, .ref a_t_row, .int x_t_riddleMany, .ref a_t_nots, .long x_t_seed, .ref a_t_isKept, .ref a_t_kept])), (a_t_readOf, .inl (E.2.1, 12, .inl o_r_t_readOf)), (a_t_readKind, .inl (E.2.1, 6, .inl o_r_t_readKind)), (a_t_text, .inl (E.2.1, 40, .inl r_t_text))] (va_A [(a_t, .inr (6, [.int x_t_isTrue, .int x_t_caskets, .int x_t_wooers, .ref a_t_metal, .ref a_t_kind, .ref a_t_now, .ref a_t_readOf, .ref a_t_readKind, .int x_t_readTrue, .int x_t_readCaskets, .int x_t_readWooers, .int x_t_readPicture, .ref a_t_text, .int x_t_length, .int x_t_at, .int x_t_faultAt, .int x_t_acts, .int x_t_next, .ref a_t_row, .int x_t_riddleMany, .ref a_t_nots, .long x_t_seed, .ref a_t_isKept, .ref a_t_kept])), (a_t_readOf, .inl (E.2.1, 12, .inl r_t_readOf)), (a_t_readKind, .inl (E.2.1, 6, .inl r_t_readKind)), (a_t_text, .inl (E.2.1, 40, .inl r_t_text))] sz)) 0 0 (va_A [(a_t, .inr (6, [.int x_t_isTrue, .int x_t_caskets, .int x_t_wooers, .ref a_t_metal, .ref a_t_kind, .ref a_t_now, .ref a_t_readOf, .ref a_t_readKind, .int x_t_readTrue, .int x_t_readCaskets, .int x_t_readWooers, .int x_t_readPicture, .ref a_t_text, .int x_t_length, .int x_t_at, .int x_t_faultAt, .int x_t_acts, .int x_t_next, .ref a_t_row, .int x_t_riddleMany, .ref a_t_nots, .long x_t_seed, .ref a_t_isKept, .ref a_t_kept])), (a_t_readOf, .inl (E.2.1, 12, .inl r_t_readOf)), (a_t_readKind, .inl (E.2.1, 6, .inl r_t_readKind)), (a_t_text, .inl (E.2.1, 40, .inl r_t_text))] sz) := by
  refine Met.ofW (cc := cX6_readText) (maxL := 1) (ret := (some .int)) (by decide) rfl ?_
  intro p e s m args below meth c s₁ B hml hv
  obtain ⟨rfl, rfl, hw, hP⟩ := Pw.start hv
  have X := Cxt.of B hml
  have hl := lv_entry ([.ref a_t]) (n := 1) (Nat.le_of_ble_eq_true rfl)
  rw [lg_entry_eq]
  exact w_X6_readText a_t a_t_metal a_t_kind a_t_now a_t_readOf a_t_readKind a_t_text a_t_row a_t_nots a_t_isKept a_t_kept x_t_isTrue x_t_caskets x_t_wooers x_t_readTrue x_t_readCaskets x_t_readWooers x_t_readPicture x_t_length x_t_at x_t_faultAt x_t_acts x_t_next x_t_riddleMany x_t_seed r_t_readOf r_t_readKind r_t_text  o_r o_x_t_readTrue o_x_t_readCaskets o_x_t_readWooers o_x_t_readPicture o_x_t_at o_x_t_faultAt o_r_t_readOf o_r_t_readKind X hw hf hP va_S.rf hl
set_option maxHeartbeats 4000000 in
set_option maxRecDepth 100000 in
theorem w_X6_fault {p : Program} {l : Launch} {e : Env} {s : State} {m : MethodId} {args : Array Value} {below : List Frame} {meth : Method} {c : Code} {E : Ev} {A : Nat → Prop} (a_t a_t_metal a_t_kind a_t_now a_t_readOf a_t_readKind a_t_text a_t_row a_t_nots a_t_isKept a_t_kept : Nat) (x_t_isTrue : Int32) (x_t_caskets : Int32) (x_t_wooers : Int32) (x_t_readTrue : Int32) (x_t_readCaskets : Int32) (x_t_readWooers : Int32) (x_t_readPicture : Int32) (x_t_length : Int32) (x_t_at : Int32) (x_t_faultAt : Int32) (x_t_acts : Int32) (x_t_next : Int32) (x_t_riddleMany : Int32) (x_t_seed : Int64) (r_t_readOf : Nat → Int32) (r_t_readKind : Nat → Int32) (r_t_text : Nat → Int32) (o_r : Int32) (o_x_t_readTrue : Int32) (o_x_t_readCaskets : Int32) (o_x_t_readWooers : Int32) (o_x_t_readPicture : Int32) (o_x_t_at : Int32) (o_x_t_faultAt : Int32) (o_r_t_readOf : Nat → Int32) (o_r_t_readKind : Nat → Int32) (X : Cxt p s m args meth c cX6_fault 1 wsX6_fault RX6 (some .int)) (hw : Cw E A s [(a_t, .inr (6, [.int x_t_isTrue, .int x_t_caskets, .int x_t_wooers, .ref a_t_metal, .ref a_t_kind, .ref a_t_now, .ref a_t_readOf, .ref a_t_readKind, .int x_t_readTrue, .int x_t_readCaskets, .int x_t_readWooers, .int x_t_readPicture, .ref a_t_text, .int x_t_length, .int x_t_at, .int x_t_faultAt, .int x_t_acts, .int x_t_next, .ref a_t_row, .int x_t_riddleMany, .ref a_t_nots, .long x_t_seed, .ref a_t_isKept, .ref a_t_kept])), (a_t_readOf, .inl (E.2.1, 12, .inl r_t_readOf)), (a_t_readKind, .inl (E.2.1, 6, .inl r_t_readKind)), (a_t_text, .inl (E.2.1, 40, .inl r_t_text))]) (h : f_X6_fault x_t_readTrue x_t_readCaskets x_t_readWooers x_t_readPicture x_t_length x_t_at x_t_faultAt r_t_readOf r_t_readKind r_t_text = some (o_r, o_x_t_readTrue, o_x_t_readCaskets, o_x_t_readWooers, o_x_t_readPicture, o_x_t_at, o_x_t_faultAt, o_r_t_readOf, o_r_t_readKind)) {H : Heap} {locs : List Loc} (hP : va_P E.1 vwCl [(a_t, .inr (6, [.int x_t_isTrue, .int x_t_caskets, .int x_t_wooers, .ref a_t_metal, .ref a_t_kind, .ref a_t_now, .ref a_t_readOf, .ref a_t_readKind, .int x_t_readTrue, .int x_t_readCaskets, .int x_t_readWooers, .int x_t_readPicture, .ref a_t_text, .int x_t_length, .int x_t_at, .int x_t_faultAt, .int x_t_acts, .int x_t_next, .ref a_t_row, .int x_t_riddleMany, .ref a_t_nots, .long x_t_seed, .ref a_t_isKept, .ref a_t_kept])), (a_t_readOf, .inl (E.2.1, 12, .inl r_t_readOf)), (a_t_readKind, .inl (E.2.1, 6, .inl r_t_readKind)), (a_t_text, .inl (E.2.1, 40, .inl r_t_text))] H) (hS : va_S A s.heap H locs) {ls : Array Slot} (hl : lv_has ls 1 [(0, .ref a_t)]) : W p l e { frames := 4, cells := 0, slots := 0, locals := 89 } s m args below meth c H locs 0 0 (MQ below (Qw E (some (.int o_r)) [(a_t, .inr (6, [.int x_t_isTrue, .int x_t_caskets, .int x_t_wooers, .ref a_t_metal, .ref a_t_kind, .ref a_t_now, .ref a_t_readOf, .ref a_t_readKind, .int o_x_t_readTrue, .int o_x_t_readCaskets, .int o_x_t_readWooers, .int o_x_t_readPicture, .ref a_t_text, .int x_t_length, .int o_x_t_at, .int o_x_t_faultAt, .int x_t_acts, .int x_t_next, .ref a_t_row, .int x_t_riddleMany, .ref a_t_nots, .long x_t_seed, .ref a_t_isKept, .ref a_t_kept])), (a_t_readOf, .inl (E.2.1, 12, .inl o_r_t_readOf)), (a_t_readKind, .inl (E.2.1, 6, .inl o_r_t_readKind)), (a_t_text, .inl (E.2.1, 40, .inl r_t_text))] A) args s 0 0 A) (F0 m 0 ls []) := by
  obtain ⟨⟨hx, hb, hml, hown, hts⟩, hr, hlocks⟩ := id X
  obtain ⟨hC, hAB, hA, hB, hD⟩ := id hw
  have hK := hC.1
  unfold f_X6_fault at h
  refine lv_aload_n hx hb dX6_fault_0 rfl (lv_at hl 0 rfl) ?_
  obtain ⟨⟨r1, u3, u4, u5, u6, u7, u8, u9, u10⟩, g2, h⟩ := bnd h
  refine wcV (A := A) (As := []) (rest := []) (ws' := [(a_t, .inr (6, [.int x_t_isTrue, .int x_t_caskets, .int x_t_wooers, .ref a_t_metal, .ref a_t_kind, .ref a_t_now, .ref a_t_readOf, .ref a_t_readKind, .int u3, .int u4, .int u5, .int u6, .ref a_t_text, .int x_t_length, .int u7, .int u8, .int x_t_acts, .int x_t_next, .ref a_t_row, .int x_t_riddleMany, .ref a_t_nots, .long x_t_seed, .ref a_t_isKept, .ref a_t_kept])), (a_t_readOf, .inl (E.2.1, 12, .inl u9)), (a_t_readKind, .inl (E.2.1, 6, .inl u10)), (a_t_text, .inl (E.2.1, 40, .inl r_t_text))]) ⟨hx, hb, hml, hown, hts⟩ (k_X6_readText (l := l) (E := E) a_t a_t_metal a_t_kind a_t_now a_t_readOf a_t_readKind a_t_text a_t_row a_t_nots a_t_isKept a_t_kept x_t_isTrue x_t_caskets x_t_wooers x_t_readTrue x_t_readCaskets x_t_readWooers x_t_readPicture x_t_length x_t_at x_t_faultAt x_t_acts x_t_next x_t_riddleMany x_t_seed r_t_readOf r_t_readKind r_t_text H.size r1 u3 u4 u5 u6 u7 u8 u9 u10 g2) (cwV 0 hts gX6_fault_X6_readText rfl rfl rfl (by decide +kernel) ⟨Nat.le_of_ble_eq_true rfl, Nat.le_of_ble_eq_true rfl⟩) (hC.here hS hAB) hP (hD.adr rfl) hS hA hAB hB [0, 1, 2, 3] rfl rfl [some 0, some 1, some 2, some 3] rfl rfl 0 6 rfl rfl rfl rfl hl.1 rfl (Nat.le_of_ble_eq_true rfl) dX6_fault_1 ⟨Nat.zero_le _, Nat.zero_le _⟩ (fun H locs hP hS => ?_)
  exact W.iret hx hb hr (fun t ht _ => ⟨by cases h; rfl, by rw [ht]; cases h; exact hP, hS.F ht⟩) hS.2.2 dX6_fault_4
set_option maxHeartbeats 4000000 in
set_option maxRecDepth 100000 in
theorem k_X6_fault {l : Launch} {E : Ev} (a_t a_t_metal a_t_kind a_t_now a_t_readOf a_t_readKind a_t_text a_t_row a_t_nots a_t_isKept a_t_kept : Nat) (x_t_isTrue : Int32) (x_t_caskets : Int32) (x_t_wooers : Int32) (x_t_readTrue : Int32) (x_t_readCaskets : Int32) (x_t_readWooers : Int32) (x_t_readPicture : Int32) (x_t_length : Int32) (x_t_at : Int32) (x_t_faultAt : Int32) (x_t_acts : Int32) (x_t_next : Int32) (x_t_riddleMany : Int32) (x_t_seed : Int64) (r_t_readOf : Nat → Int32) (r_t_readKind : Nat → Int32) (r_t_text : Nat → Int32) (sz : Nat) (o_r : Int32) (o_x_t_readTrue : Int32) (o_x_t_readCaskets : Int32) (o_x_t_readWooers : Int32) (o_x_t_readPicture : Int32) (o_x_t_at : Int32) (o_x_t_faultAt : Int32) (o_r_t_readOf : Nat → Int32) (o_r_t_readKind : Nat → Int32) (hf : f_X6_fault x_t_readTrue x_t_readCaskets x_t_readWooers x_t_readPicture x_t_length x_t_at x_t_faultAt r_t_readOf r_t_readKind r_t_text = some (o_r, o_x_t_readTrue, o_x_t_readCaskets, o_x_t_readWooers, o_x_t_readPicture, o_x_t_at, o_x_t_faultAt, o_r_t_readOf, o_r_t_readKind)) : Met l yX6_fault wsX6_fault ({ frames := 4, cells := 0, slots := 0, locals := 89 }) (Pw E [.ref a_t] [(a_t, .inr (6, [.int x_t_isTrue, .int x_t_caskets, .int x_t_wooers, .ref a_t_metal, .ref a_t_kind, .ref a_t_now, .ref a_t_readOf, .ref a_t_readKind, .int x_t_readTrue, .int x_t_readCaskets, .int x_t_readWooers, .int x_t_readPicture, .ref a_t_text, .int x_t_length, .int x_t_at, .int x_t_faultAt, .int x_t_acts, .int x_t_next, .ref a_t_row, .int x_t_riddleMany, .ref a_t_nots, .long x_t_seed, .ref a_t_isKept, .ref a_t_kept])), (a_t_readOf, .inl (E.2.1, 12, .inl r_t_readOf)), (a_t_readKind, .inl (E.2.1, 6, .inl r_t_readKind)), (a_t_text, .inl (E.2.1, 40, .inl r_t_text))] sz) (Qw E (some (.int o_r)) [(a_t, .inr (6, [.int x_t_isTrue, .int x_t_caskets, .int x_t_wooers, .ref a_t_metal, .ref a_t_kind, .ref a_t_now, .ref a_t_readOf, .ref a_t_readKind, .int o_x_t_readTrue, .int o_x_t_readCaskets, .int o_x_t_readWooers, .int o_x_t_readPicture, .ref a_t_text, .int x_t_length, .int o_x_t_at, .int o_x_t_faultAt, .int x_t_acts, .int x_t_next, .ref a_t_row, .int x_t_riddleMany, .ref a_t_nots, .long x_t_seed, .ref a_t_isKept, .ref a_t_kept])), (a_t_readOf, .inl (E.2.1, 12, .inl o_r_t_readOf)), (a_t_readKind, .inl (E.2.1, 6, .inl o_r_t_readKind)), (a_t_text, .inl (E.2.1, 40, .inl r_t_text))] (va_A [(a_t, .inr (6, [.int x_t_isTrue, .int x_t_caskets, .int x_t_wooers, .ref a_t_metal, .ref a_t_kind, .ref a_t_now, .ref a_t_readOf, .ref a_t_readKind, .int x_t_readTrue, .int x_t_readCaskets, .int x_t_readWooers, .int x_t_readPicture, .ref a_t_text, .int x_t_length, .int x_t_at, .int x_t_faultAt, .int x_t_acts, .int x_t_next, .ref a_t_row, .int x_t_riddleMany, .ref a_t_nots, .long x_t_seed, .ref a_t_isKept, .ref a_t_kept])), (a_t_readOf, .inl (E.2.1, 12, .inl r_t_readOf)), (a_t_readKind, .inl (E.2.1, 6, .inl r_t_readKind)), (a_t_text, .inl (E.2.1, 40, .inl r_t_text))] sz)) 0 0 (va_A [(a_t, .inr (6, [.int x_t_isTrue, .int x_t_caskets, .int x_t_wooers, .ref a_t_metal, .ref a_t_kind, .ref a_t_now, .ref a_t_readOf, .ref a_t_readKind, .int x_t_readTrue, .int x_t_readCaskets, .int x_t_readWooers, .int x_t_readPicture, .ref a_t_text, .int x_t_length, .int x_t_at, .int x_t_faultAt, .int x_t_acts, .int x_t_next, .ref a_t_row, .int x_t_riddleMany, .ref a_t_nots, .long x_t_seed, .ref a_t_isKept, .ref a_t_kept])), (a_t_readOf, .inl (E.2.1, 12, .inl r_t_readOf)), (a_t_readKind, .inl (E.2.1, 6, .inl r_t_readKind)), (a_t_text, .inl (E.2.1, 40, .inl r_t_text))] sz) := by
  refine Met.ofW (cc := cX6_fault) (maxL := 1) (ret := (some .int)) (by decide) rfl ?_
  intro p e s m args below meth c s₁ B hml hv
  obtain ⟨rfl, rfl, hw, hP⟩ := Pw.start hv
  have X := Cxt.of B hml
  have hl := lv_entry ([.ref a_t]) (n := 1) (Nat.le_of_ble_eq_true rfl)
  rw [lg_entry_eq]
  exact w_X6_fault a_t a_t_metal a_t_kind a_t_now a_t_readOf a_t_readKind a_t_text a_t_row a_t_nots a_t_isKept a_t_kept x_t_isTrue x_t_caskets x_t_wooers x_t_readTrue x_t_readCaskets x_t_readWooers x_t_readPicture x_t_length x_t_at x_t_faultAt x_t_acts x_t_next x_t_riddleMany x_t_seed r_t_readOf r_t_readKind r_t_text  o_r o_x_t_readTrue o_x_t_readCaskets o_x_t_readWooers o_x_t_readPicture o_x_t_at o_x_t_faultAt o_r_t_readOf o_r_t_readKind X hw hf hP va_S.rf hl
