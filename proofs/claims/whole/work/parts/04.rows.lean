/-! my own rows: the surroundings of a method (tables, nest mates, static tables), readers and writers, calls, loops -/
abbrev Ev : Type := va_G × ClassId × ClassId × Nat × Nat × Nat × Nat × Nat
abbrev eT (E : Ev) : Nat := E.2.2.2.1
abbrev eM (E : Ev) : Nat := E.2.2.2.2.1
abbrev eW (E : Ev) : Nat := E.2.2.2.2.2.1
abbrev eF (E : Ev) : Nat := E.2.2.2.2.2.2.1
abbrev eB (E : Ev) : Nat := E.2.2.2.2.2.2.2
/-- the cells that may change at all -/
def eA (E : Ev) : Nat → Prop := fun q => eB E ≤ q
def st_T (E : Ev) (C n d : String) (ty : FieldType) (t N : Nat) (f : Nat → Value) (U : State) (H : Heap) : Prop := va_Z C n d (.ref t) (eA E) U H ∧ va_T ty t N f (eA E) U H
theorem st_T.alike {E : Ev} {C n d : String} {ty : FieldType} {t N : Nat} {f : Nat → Value} {u U : State} {H : Heap} (hvm : u.vm.Alike U.vm) (h : st_T E C n d ty t N f u H) : st_T E C n d ty t N f U H := ⟨h.1.moved hvm, h.2.moved hvm⟩
theorem st_T.kept {E : Ev} {C n d : String} {ty : FieldType} {t N : Nat} {f : Nat → Value} {U : State} {H H1 : Heap} (h : st_T E C n d ty t N f U H) (hq : ∀ a : Nat, a < H.size → ¬ eA E a → H1[a]? = H[a]?) : st_T E C n d ty t N f U H1 := ⟨h.1.kept hq, h.2.kept hq⟩
def nestL : List (String × Nat × MethodName × String) := [(RX5, 15, yX2_init, "CasketLines"), (RX5, 22, yX1_init, "CasketLines"), (RX5, 29, yX4_init, "CasketLines"), (RX5, 39, yX0_init, "CasketLines"), (RX5, 46, yX3_init, "CasketLines"), (RX0, 29, yX5_put, "CasketLines"), (RX1, 28, yX5_copyRow, "CasketLines"), (RX2, 11, yX1_init, "CasketLines"), (RX2, 20, yX4_init, "CasketLines"), (RX2, 69, yX5_put, "CasketLines"), (RX3, 9, yX4_init, "CasketLines"), (RX4, 22, yX5_copyRow, "CasketLines"), (RX4, 36, yX5_readingsOf, "CasketLines"), (RX4, 40, yX5_fitsOf, "CasketLines"), (RX4, 52, yX5_at, "CasketLines"), (RX4, 64, yX5_put, "CasketLines")]
def tabT : Nat → Int64 := fun j => match j with
  | 0 => (-6148914691236517206)
  | 1 => (-3689348814741910324)
  | 2 => (-1085102592571150096)
  | _ => (-71777214294589696)
def tabM : Nat → Int64 := fun j => match j with
  | 0 => 281479271743489
  | 1 => 78251237544689942
  | 2 => 1614565102720652904
  | 3 => 7530133477681817728
  | _ => (-9223231297218904064)
def tabW : Nat → Int64 := fun j => match j with
  | 0 => 0
  | 1 => 3
  | 2 => 983055
  | 3 => 1095233372415
  | _ => (-1)
def tabF : Nat → Int32 := fun j => match j with
  | 0 => 1
  | 1 => 1
  | 2 => 2
  | 3 => 6
  | _ => 24
def cxT (E : Ev) (U : State) (H : Heap) : Prop := st_T E RX5 "TRUE_LINE" "[J" .long (eT E) 4 (fun j => .long (tabT j)) U H ∧ st_T E RX5 "TRUE_MANY" "[J" .long (eM E) 5 (fun j => .long (tabM j)) U H ∧ st_T E RX5 "WORLDS_OF" "[J" .long (eW E) 5 (fun j => .long (tabW j)) U H ∧ st_T E RX5 "FACTORIALS" "[I" .int (eF E) 5 (fun j => .int (tabF j)) U H
theorem cxT.alike {E : Ev} {u U : State} {H : Heap} (hvm : u.vm.Alike U.vm) (h : cxT E u H) : cxT E U H := ⟨h.1.alike hvm, h.2.1.alike hvm, h.2.2.1.alike hvm, h.2.2.2.alike hvm⟩
theorem cxT.kept {E : Ev} {U : State} {H H1 : Heap} (h : cxT E U H) (hq : ∀ a : Nat, a < H.size → ¬ eA E a → H1[a]? = H[a]?) : cxT E U H1 := ⟨h.1.kept hq, h.2.1.kept hq, h.2.2.1.kept hq, h.2.2.2.kept hq⟩
def cx (E : Ev) (U : State) (H : Heap) : Prop := va_K E.1 vwCl [(E.2.1, .int), (E.2.2.1, .boolean)] U ∧ (∀ q ∈ nestL, va_Nw (.methodLinkNest q.1 q.2.1 q.2.2.1 q.2.2.2) U) ∧ cxT E U H
theorem cx.warm {E : Ev} {u U : State} {H : Heap} (hW : u.WarmedH U.vm) (h : cx E u H) : cx E U H := ⟨va_K.moved hW.alike h.1, fun q hq => va_Nw.warmM hW (h.2.1 q hq), h.2.2.alike hW.alike⟩
theorem cx.calling {E : Ev} {U : State} {H : Heap} {g : JFrame} {mk : MethodId} {a : Array Value} (h : cx E U H) : cx E (U.calling g mk a) H := ⟨va_K.moved (u := U) (U := U.calling g mk a) (Vm.Alike.refl U.vm) h.1, fun q hq => va_Nw.same (u := U) rfl rfl (h.2.1 q hq), h.2.2.alike (u := U) (U := U.calling g mk a) (Vm.Alike.refl U.vm)⟩
theorem cx.kept {E : Ev} {U : State} {H H1 : Heap} (h : cx E U H) (hq : ∀ a : Nat, a < H.size → ¬ eA E a → H1[a]? = H[a]?) : cx E U H1 := ⟨h.1, h.2.1, h.2.2.kept hq⟩
theorem cx.here {E : Ev} {s : State} {H : Heap} {A : Nat → Prop} {locs : List Loc} (h : cx E s s.heap) (hS : va_S A s.heap H locs) (hAB : ∀ q, A q → eA E q) : cx E s H := h.kept (fun a h1 h2 => hS.2.1 a h1 (fun z => h2 (hAB a z)))
/-- the surroundings, and the cells ws -/
def wd (E : Ev) (ws : va_W) (U : State) (H : Heap) : Prop := cx E U H ∧ va_P E.1 vwCl ws H
/-- a reader's start and end -/
def Pr (E : Ev) (av : List Value) (ws : va_W) : Array Value → State → Prop := va_Pc av (fun U => wd E ws U U.heap)
def Qr (v : Option Value) : Array Value → State → Outcome → State → Prop := fun _ st oc t => oc = .returned v ∧ t.heap = st.heap
/-- a writer's -/
def Pw (E : Ev) (av : List Value) (ws : va_W) (sz : Nat) : Array Value → State → Prop := va_Pc av (fun U => U.heap.size = sz ∧ wd E ws U U.heap ∧ va_D (eA E) ws ∧ eB E ≤ sz)
def Qw (E : Ev) (v : Option Value) (ws : va_W) (A : Nat → Prop) : Array Value → State → Outcome → State → Prop := fun _ st oc t => oc = .returned v ∧ va_P E.1 vwCl ws t.heap ∧ va_F A st t
theorem fb_Pr {E : Ev} {av : List Value} {ws : va_W} : FrameBlind (Pr E av ws) := fun a U g mk q => ⟨q.1, q.2.1.calling, q.2.2⟩
theorem fb_Pw {E : Ev} {av : List Value} {ws : va_W} {sz : Nat} : FrameBlind (Pw E av ws sz) := fun a U g mk q => ⟨q.1, q.2.1, ⟨q.2.2.1.1.calling, q.2.2.1.2⟩, q.2.2.2⟩
/-- the cells' addresses alone -/
theorem va_D.adr {A : Nat → Prop} {ws ws' : va_W} (hD : va_D A ws) (h : ws.map Prod.fst = ws'.map Prod.fst) : va_D A ws' := by
  have key : ∀ (k : Nat) (q : Nat × va_E), ws'[k]? = some q → ∃ q0, ws[k]? = some q0 ∧ q0.1 = q.1 := by
    intro k q hk
    have h1 : (ws'.map Prod.fst)[k]? = some q.1 := by rw [List.getElem?_map, hk]; rfl
    rw [← h, List.getElem?_map] at h1
    cases h2 : ws[k]? with
    | none => rw [h2] at h1; cases h1
    | some q0 => rw [h2] at h1; exact ⟨q0, rfl, Option.some.inj h1⟩
  refine ⟨fun i j x y hi hj hxy => ?_, fun k q hk => ?_⟩
  · obtain ⟨x0, h1, h2⟩ := key i x hi
    obtain ⟨y0, h3, h4⟩ := key j y hj
    exact hD.1 i j x0 y0 h1 h3 (h2.trans (hxy.trans h4.symm))
  · obtain ⟨q0, h1, h2⟩ := key k q hk
    rw [← h2]
    exact hD.2 k q0 h1
def wmix (ws w1 : va_W) : Nat → List (Option Nat) → List (Option (Nat × va_E))
  | _, [] => []
  | k, none :: r => ws[k]? :: wmix ws w1 (k + 1) r
  | k, some j :: r => w1[j]? :: wmix ws w1 (k + 1) r
theorem wmix_get (ws w1 : va_W) : ∀ (src : List (Option Nat)) (k0 k : Nat) (o : Option (Nat × va_E)), (wmix ws w1 k0 src)[k]? = some o → (src[k]? = some none ∧ o = ws[k0 + k]?) ∨ ∃ j, src[k]? = some (some j) ∧ o = w1[j]?
  | [], k0, k, o, h => by simp [wmix] at h
  | none :: r, k0, k, o, h => by
    cases k with
    | zero => simp [wmix] at h; exact Or.inl ⟨rfl, by simp [h]⟩
    | succ k =>
      simp only [wmix, List.getElem?_cons_succ] at h ⊢
      have := wmix_get ws w1 r (k0 + 1) k o h
      rw [show k0 + (k + 1) = k0 + 1 + k by omega]
      exact this
  | some j :: r, k0, k, o, h => by
    cases k with
    | zero => simp [wmix] at h; exact Or.inr ⟨j, rfl, by simp [h]⟩
    | succ k =>
      simp only [wmix, List.getElem?_cons_succ] at h ⊢
      have := wmix_get ws w1 r (k0 + 1) k o h
      rw [show k0 + (k + 1) = k0 + 1 + k by omega]
      exact this
def wkeep (isC : List Nat) : Nat → List (Option Nat) → Bool
  | _, [] => true
  | k, none :: r => !(isC.contains k) && wkeep isC (k + 1) r
  | k, some _ :: r => wkeep isC (k + 1) r
theorem wkeep_get (isC : List Nat) : ∀ (src : List (Option Nat)) (k0 k : Nat), wkeep isC k0 src = true → src[k]? = some none → k0 + k ∉ isC
  | [], k0, k, _, h => by simp at h
  | none :: r, k0, k, hw, h => by
    simp only [wkeep, Bool.and_eq_true, Bool.not_eq_true'] at hw
    cases k with
    | zero => intro hm; have := hw.1; simp [List.contains_iff_mem] at this; exact this hm
    | succ k =>
      rw [List.getElem?_cons_succ] at h
      have := wkeep_get isC r (k0 + 1) k hw.2 h
      rw [show k0 + (k + 1) = k0 + 1 + k by omega]; exact this
  | some _ :: r, k0, k, hw, h => by
    simp only [wkeep] at hw
    cases k with
    | zero => simp at h
    | succ k =>
      rw [List.getElem?_cons_succ] at h
      have := wkeep_get isC r (k0 + 1) k hw h
      rw [show k0 + (k + 1) = k0 + 1 + k by omega]; exact this
/-- behind a writer's call: its cells anew, the others as they were, all in their places -/
theorem wd_join {A0 : Nat → Prop} {D : va_G} {cl : List vw_C} {ws wc w1 ws' : va_W} {H H1 : Heap} (hP : va_P D cl ws H) (hD : va_D A0 ws) (isC : List Nat) (hC : isC.map (fun i => ws[i]?) = wc.map some) (src : List (Option Nat)) (hs : wmix ws w1 0 src = ws'.map some) (hk0 : wkeep isC 0 src = true)
    (hk : ∀ q : Nat, q < H.size → ¬ va_A wc H.size q → H1[q]? = H[q]?) (hP1 : va_P D cl w1 H1) : va_P D cl ws' H1 := by
  intro k q hq
  have h1 : (wmix ws w1 0 src)[k]? = some (some q) := by rw [hs, List.getElem?_map, hq]; rfl
  rcases wmix_get ws w1 src 0 k _ h1 with ⟨h2, h3⟩ | ⟨j, h2, h3⟩
  · rw [Nat.zero_add] at h3
    have hn := wkeep_get isC src 0 k hk0 h2
    rw [Nat.zero_add] at hn
    have hl := (hP k q h3.symm).lt
    refine (hP k q h3.symm).kept (hk q.1 hl fun h => ?_)
    rcases h with ⟨k2, e, h⟩ | h
    · have h5 : (isC.map (fun i => ws[i]?))[k2]? = some (some (q.1, e)) := by rw [hC, List.getElem?_map, h]; rfl
      rw [List.getElem?_map] at h5
      cases hi : isC[k2]? with
      | none => rw [hi] at h5; cases h5
      | some i =>
        rw [hi] at h5
        have h6 := hD.1 k i q (q.1, e) h3.symm (Option.some.inj h5) rfl
        subst h6
        exact hn (List.mem_of_getElem? hi)
    · omega
  · exact hP1 j q h3.symm
/-- where a walk stands: the machine, the method, its tables -/
def Cxt (p : Program) (s : State) (m : MethodId) (args : Array Value) (meth : Method) (c : Code) (cc : ByteArray) (nL : Nat) (Ts : List Cond) (own : String) (ret : Option FieldType) : Prop := CallFix p m c cc nL s args Ts own ∧ meth.sig.returnType = ret ∧ meth.locks = false
section MyRows
variable {p : Program} {l : Launch} {e : Env} {R : Room} {s : State} {m : MethodId} {args : Array Value} {below : List Frame} {meth : Method} {c : Code} {H : Heap} {locs : List Loc} {cells slots : Nat} {Q : State → Prop}
variable {pc : Nat} {ls : Array Slot} {rest st0 As : List Value} {a : Array Value} {v : Option Value} {E : Ev} {ws wc w1 : va_W} {A : Nat → Prop} {H0 : Heap}
variable {y : MethodName} {bytes cc : ByteArray} {maxL nL n index : Nat} {ret : Option FieldType} {wsy : List Cond} {rm : Room} {Ts : List Cond} {own C host : String} {b : Addr}
theorem Cxt.of {y : MethodName} {ws : List Cond} {rm : Room} {cc : ByteArray} {maxL : Nat} {ret : Option FieldType} {s₁ : State} (B : BodyLoose p l y (headSpec ws rm) cc maxL ret e s m args below meth c s₁) (hml : c.maxLocals = maxL) : Cxt p s m args meth c cc maxL ws y.cls ret :=
  ⟨⟨B.exec, B.bytes, hml, findClass_of_methodNamed B.named, atoms_spec (ws := ws) B.pre⟩, B.returns, B.notSynchronized⟩
theorem rcont (hr : va_Run p l e R s m args below meth c H locs cells slots 0 0 (F0 m pc ls st0) rest (Qr v a) (fun _ => False)) (kk : W p l e R s m args below meth c H locs cells slots Q (F0 m (pc + 3) ls (v.toList ++ rest))) : W p l e R s m args below meth c H locs cells slots Q (F0 m pc ls st0) := by
  intro T hT X
  obtain ⟨v', st₀, t, T', L, h0, X', hL, e1, e2, ⟨hv, hh⟩, st⟩ := hr T hT X
  cases hv
  have hL0 : L = [] := by
    cases L with
    | nil => rfl
    | cons q r => exact absurd (hL q List.mem_cons_self) (fun z => z)
  subst hL0
  rw [List.append_nil] at X'
  obtain ⟨t2, a1, b1⟩ := kk T' (by rw [e1, hh, h0]) X'
  exact ⟨t2, st t2 a1, b1⟩
theorem wcont (hr : va_Run p l e R s m args below meth c H locs cells slots 0 0 (F0 m pc ls st0) rest (Qw E v w1 (va_A wc H.size) a) (va_A wc H.size)) (hP : va_P E.1 vwCl ws H) (hD : va_D A ws) (hS : va_S A s.heap H locs) (hA : ∀ q, s.heap.size ≤ q → A q) (isC : List Nat) (hC : isC.map (fun i => ws[i]?) = wc.map some) (src : List (Option Nat)) {ws' : va_W} (hs : wmix ws w1 0 src = ws'.map some) (hk0 : wkeep isC 0 src = true)
    (kk : ∀ (H1 : Heap) (locs1 : List Loc), va_P E.1 vwCl ws' H1 → va_S A s.heap H1 locs1 → W p l e R s m args below meth c H1 locs1 cells slots Q (F0 m (pc + 3) ls (v.toList ++ rest))) : W p l e R s m args below meth c H locs cells slots Q (F0 m pc ls st0) := by
  intro T hT X
  obtain ⟨v', st₀, t, T', L, h0, X', hL, e1, e2, ⟨hv, hP1, hz, hk⟩, st⟩ := hr T hT X
  cases hv
  rw [h0] at hz hk
  have hF := va_free (wc := wc) hD hS hA isC hC
  obtain ⟨t2, a1, b1⟩ := kk T'.heap (locs ++ L) (by rw [e1]; exact wd_join hP hD isC hC src hs hk0 hk hP1)
    ⟨Nat.le_trans hS.1 (by rw [e1]; exact hz), fun q h1 h2 => by rw [e1, hk q (Nat.lt_of_lt_of_le h1 hS.1) (fun z => h2 (hF q z))]; exact hS.2.1 q h1 h2, fun q hq => by
      rcases List.mem_append.mp hq with h | h
      · exact hS.2.2 q h
      · exact hF _ (hL q h)⟩ T' rfl X'
  exact ⟨t2, st t2 a1, b1⟩
/-- a reader's start at a call -/
theorem pr_at (hC : cx E s H) (hP : va_P E.1 vwCl ws H) (is : List Nat) (hsub : is.filterMap (fun i => ws[i]?) = wc) (av : List Value) : ∀ U : State, U.heap = H → s.WarmedH U.vm → Pr E av wc av.toArray U := fun U hU hW => ⟨rfl, by show wd E wc U U.heap; rw [hU]; exact ⟨hC.warm hW, hP.sub is hsub⟩⟩
theorem pw_at (hC : cx E s H) (hP : va_P E.1 vwCl ws H) (hD : va_D A ws) (hAB : ∀ q, A q → eA E q) (hB : eB E ≤ H.size) (is : List Nat) (hn : va_nd is = true) (hsub : is.map (fun i => ws[i]?) = wc.map some) (av : List Value) : ∀ U : State, U.heap = H → s.WarmedH U.vm → Pw E av wc H.size av.toArray U := by
  intro U hU hW
  have hsub' : is.filterMap (fun i => ws[i]?) = wc := by
    have h1 : is.filterMap (fun i => ws[i]?) = (is.map (fun i => ws[i]?)).filterMap id := by rw [List.filterMap_map]; rfl
    rw [h1, hsub, List.filterMap_map]
    simp
  refine ⟨rfl, by rw [hU], ?_, (hD.sub is hn hsub).weaken (fun _ q _ h => hAB q.1 h), hB⟩
  rw [hU]
  exact ⟨hC.warm hW, hP.sub is hsub'⟩
theorem rcV (S : CallFix p m c cc nL s args Ts own) (hM : Met l y wsy rm (Pr E (.ref b :: As) wc) (Qr v) 0 0 (fun _ => False)) (cw : CallW R s args own C index y bytes maxL ret wsy rm 0 0 n) (hC : cx E s H) (hP : va_P E.1 vwCl ws H) (is : List Nat) (hsub : is.filterMap (fun i => ws[i]?) = wc) (q0 ci : Nat) {r0 : vw_C} {fs : List Value} (hc : vwCl[ci]? = some r0) (hcC : r0.1 = C) (he : ws[q0]? = some (b, .inr (ci, fs)))
    (hn : As.length = n) (hsize : ls.size = nL) (hst : st0 = As.reverse ++ .ref b :: rest) (hW : (rest.map fun v => v.category).sum ≤ 8) (hdg : decode cc pc = .ok (.invokevirtual index, 3)) (hf : cells ≤ R.cells ∧ slots ≤ R.slots) (kk : W p l e R s m args below meth c H locs cells slots Q (F0 m (pc + 3) ls (v.toList ++ rest))) : W p l e R s m args below meth c H locs cells slots Q (F0 m pc ls st0) := by
  subst hcC
  exact rcont (va_runV S hM cw ⟨fb_Pr, va_recv hC.1 hP hc he, pr_at hC hP is hsub (.ref b :: As)⟩ rfl hn hsize hst (lv_room hW) hdg hf) kk
theorem rcS (S : CallFix p m c cc nL s args Ts own) (hM : Met l y wsy rm (Pr E As wc) (Qr v) 0 0 (fun _ => False)) (cw : CallB R s args own index y bytes maxL ret wsy rm 0 0 n ∧ (Cond.static y).before args s = true) (hC : cx E s H) (hP : va_P E.1 vwCl ws H) (is : List Nat) (hsub : is.filterMap (fun i => ws[i]?) = wc)
    (hn : As.length = n) (hsize : ls.size = nL) (hst : st0 = As.reverse ++ rest) (hW : (rest.map fun v => v.category).sum ≤ 8) (hdg : decode cc pc = .ok (.invokestatic index, 3)) (hf : cells ≤ R.cells ∧ slots ≤ R.slots) (kk : W p l e R s m args below meth c H locs cells slots Q (F0 m (pc + 3) ls (v.toList ++ rest))) : W p l e R s m args below meth c H locs cells slots Q (F0 m pc ls st0) :=
  rcont (va_runS S hM cw ⟨fb_Pr, pr_at hC hP is hsub As⟩ rfl hn hsize hst (lv_room hW) hdg hf) kk
theorem rcSN (S : CallFix p m c cc nL s args Ts own) (hM : Met l y wsy rm (Pr E As wc) (Qr v) 0 0 (fun _ => False)) (cw : va_CN R s args own index y host bytes maxL ret wsy rm 0 0 n ∧ (Cond.static y).before args s = true ∧ True) (hC : cx E s H) (hP : va_P E.1 vwCl ws H) (is : List Nat) (hsub : is.filterMap (fun i => ws[i]?) = wc)
    (hn : As.length = n) (hsize : ls.size = nL) (hst : st0 = As.reverse ++ rest) (hW : (rest.map fun v => v.category).sum ≤ 8) (hdg : decode cc pc = .ok (.invokestatic index, 3)) (hf : cells ≤ R.cells ∧ slots ≤ R.slots) (kk : W p l e R s m args below meth c H locs cells slots Q (F0 m (pc + 3) ls (v.toList ++ rest))) : W p l e R s m args below meth c H locs cells slots Q (F0 m pc ls st0) :=
  rcont (va_runSN S hM cw ⟨fb_Pr, pr_at hC hP is hsub As⟩ rfl hn hsize hst (lv_room hW) hdg hf) kk
theorem wcV (S : CallFix p m c cc nL s args Ts own) (hM : Met l y wsy rm (Pw E (.ref b :: As) wc H.size) (Qw E v w1 (va_A wc H.size)) 0 0 (va_A wc H.size)) (cw : CallW R s args own C index y bytes maxL ret wsy rm 0 0 n) (hC : cx E s H) (hP : va_P E.1 vwCl ws H) (hD : va_D A ws) (hS : va_S A s.heap H locs) (hA : ∀ q, s.heap.size ≤ q → A q) (hAB : ∀ q, A q → eA E q) (hB : eB E ≤ s.heap.size) (isC : List Nat) (hnd : va_nd isC = true) (hsub : isC.map (fun i => ws[i]?) = wc.map some) (src : List (Option Nat)) {ws' : va_W} (hs : wmix ws w1 0 src = ws'.map some) (hk0 : wkeep isC 0 src = true) (q0 ci : Nat) {r0 : vw_C} {fs : List Value} (hc : vwCl[ci]? = some r0) (hcC : r0.1 = C) (he : ws[q0]? = some (b, .inr (ci, fs)))
    (hn : As.length = n) (hsize : ls.size = nL) (hst : st0 = As.reverse ++ .ref b :: rest) (hW : (rest.map fun v => v.category).sum ≤ 8) (hdg : decode cc pc = .ok (.invokevirtual index, 3)) (hf : cells ≤ R.cells ∧ slots ≤ R.slots) (kk : ∀ (H1 : Heap) (locs1 : List Loc), va_P E.1 vwCl ws' H1 → va_S A s.heap H1 locs1 → W p l e R s m args below meth c H1 locs1 cells slots Q (F0 m (pc + 3) ls (v.toList ++ rest))) : W p l e R s m args below meth c H locs cells slots Q (F0 m pc ls st0) := by
  subst hcC
  exact wcont (va_runV S hM cw ⟨fb_Pw, va_recv hC.1 hP hc he, pw_at hC hP hD hAB (Nat.le_trans hB hS.1) isC hnd hsub (.ref b :: As)⟩ rfl hn hsize hst (lv_room hW) hdg hf) hP hD hS hA isC hsub src hs hk0 kk
theorem wcS (S : CallFix p m c cc nL s args Ts own) (hM : Met l y wsy rm (Pw E As wc H.size) (Qw E v w1 (va_A wc H.size)) 0 0 (va_A wc H.size)) (cw : CallB R s args own index y bytes maxL ret wsy rm 0 0 n ∧ (Cond.static y).before args s = true) (hC : cx E s H) (hP : va_P E.1 vwCl ws H) (hD : va_D A ws) (hS : va_S A s.heap H locs) (hA : ∀ q, s.heap.size ≤ q → A q) (hAB : ∀ q, A q → eA E q) (hB : eB E ≤ s.heap.size) (isC : List Nat) (hnd : va_nd isC = true) (hsub : isC.map (fun i => ws[i]?) = wc.map some) (src : List (Option Nat)) {ws' : va_W} (hs : wmix ws w1 0 src = ws'.map some) (hk0 : wkeep isC 0 src = true)
    (hn : As.length = n) (hsize : ls.size = nL) (hst : st0 = As.reverse ++ rest) (hW : (rest.map fun v => v.category).sum ≤ 8) (hdg : decode cc pc = .ok (.invokestatic index, 3)) (hf : cells ≤ R.cells ∧ slots ≤ R.slots) (kk : ∀ (H1 : Heap) (locs1 : List Loc), va_P E.1 vwCl ws' H1 → va_S A s.heap H1 locs1 → W p l e R s m args below meth c H1 locs1 cells slots Q (F0 m (pc + 3) ls (v.toList ++ rest))) : W p l e R s m args below meth c H locs cells slots Q (F0 m pc ls st0) :=
  wcont (va_runS S hM cw ⟨fb_Pw, pw_at hC hP hD hAB (Nat.le_trans hB hS.1) isC hnd hsub As⟩ rfl hn hsize hst (lv_room hW) hdg hf) hP hD hS hA isC hsub src hs hk0 kk
theorem wcSN (S : CallFix p m c cc nL s args Ts own) (hM : Met l y wsy rm (Pw E As wc H.size) (Qw E v w1 (va_A wc H.size)) 0 0 (va_A wc H.size)) (cw : va_CN R s args own index y host bytes maxL ret wsy rm 0 0 n ∧ (Cond.static y).before args s = true ∧ True) (hC : cx E s H) (hP : va_P E.1 vwCl ws H) (hD : va_D A ws) (hS : va_S A s.heap H locs) (hA : ∀ q, s.heap.size ≤ q → A q) (hAB : ∀ q, A q → eA E q) (hB : eB E ≤ s.heap.size) (isC : List Nat) (hnd : va_nd isC = true) (hsub : isC.map (fun i => ws[i]?) = wc.map some) (src : List (Option Nat)) {ws' : va_W} (hs : wmix ws w1 0 src = ws'.map some) (hk0 : wkeep isC 0 src = true)
    (hn : As.length = n) (hsize : ls.size = nL) (hst : st0 = As.reverse ++ rest) (hW : (rest.map fun v => v.category).sum ≤ 8) (hdg : decode cc pc = .ok (.invokestatic index, 3)) (hf : cells ≤ R.cells ∧ slots ≤ R.slots) (kk : ∀ (H1 : Heap) (locs1 : List Loc), va_P E.1 vwCl ws' H1 → va_S A s.heap H1 locs1 → W p l e R s m args below meth c H1 locs1 cells slots Q (F0 m (pc + 3) ls (v.toList ++ rest))) : W p l e R s m args below meth c H locs cells slots Q (F0 m pc ls st0) :=
  wcont (va_runSN S hM cw ⟨fb_Pw, pw_at hC hP hD hAB (Nat.le_trans hB hS.1) isC hnd hsub As⟩ rfl hn hsize hst (lv_room hW) hdg hf) hP hD hS hA isC hsub src hs hk0 kk
end MyRows
/-- a loop: its body, told what goes on from its head; by rounds -/
def rk {S O : Type} (b : (S → Option O) → S → Option O) : Nat → S → Option O
  | 0 => fun _ => none
  | n + 1 => b (rk b n)
theorem rk_z {S O : Type} (b : (S → Option O) → S → Option O) (x : S) {o : O} (h : rk b 0 x = some o) : False := by cases h
theorem gdn {C : Prop} [Decidable C] {O : Type} {X : Option O} {o : O} (h : (if C then none else X) = some o) : ¬ C ∧ X = some o := by
  by_cases hc : C
  · rw [if_pos hc] at h; cases h
  · rw [if_neg hc] at h; exact ⟨hc, h⟩
theorem gdy {C : Prop} [Decidable C] {O : Type} {X : Option O} {o : O} (h : (if C then X else none) = some o) : C ∧ X = some o := by
  by_cases hc : C
  · rw [if_pos hc] at h; exact ⟨hc, h⟩
  · rw [if_neg hc] at h; cases h
theorem bnd {O P : Type} {X : Option P} {k : P → Option O} {o : O} (h : X.bind k = some o) : ∃ x, X = some x ∧ k x = some o := Option.bind_eq_some_iff.mp h
theorem nar_b {v : Int32} (h : v = 0 ∨ v = 1) : narrow .boolean (.int v) = .int v := by rcases h with rfl | rfl <;> decide
theorem fit_b {v : Int32} (h : v = 0 ∨ v = 1) : fits .boolean (.int v) = true := by rcases h with rfl | rfl <;> decide
theorem tsw_ne {x k : Int32} {i : Int} (hk : k.toInt = i) (h : ¬ x = k) : ¬ x.toInt = i := fun z => h (Int32.toInt_inj.mp (by rw [hk]; exact z))
theorem ifp {C : Prop} [Decidable C] {O : Type} {X Y : Option O} {o : O} (c : C) (h : (if C then X else Y) = some o) : X = some o := by rwa [if_pos c] at h
theorem ifn {C : Prop} [Decidable C] {O : Type} {X Y : Option O} {o : O} (c : ¬ C) (h : (if C then X else Y) = some o) : Y = some o := by rwa [if_neg c] at h
theorem vin {i : Int32} {n : Nat} (h : decide (i < 0 ∨ n ≤ i.toNatClampNeg) = false) : vp_in i n := of_decide_eq_false h
def Cw (E : Ev) (A : Nat → Prop) (s : State) (ws : va_W) : Prop := cx E s s.heap ∧ (∀ q, A q → eA E q) ∧ (∀ q, s.heap.size ≤ q → A q) ∧ eB E ≤ s.heap.size ∧ va_D A ws
theorem Cw.adr {E : Ev} {A : Nat → Prop} {s : State} {ws ws' : va_W} (h : Cw E A s ws) (hw : ws.map Prod.fst = ws'.map Prod.fst) : Cw E A s ws' := ⟨h.1, h.2.1, h.2.2.1, h.2.2.2.1, h.2.2.2.2.adr hw⟩
theorem Pw.start {E : Ev} {av : List Value} {ws : va_W} {sz : Nat} {args : Array Value} {s : State} (h : Pw E av ws sz args s) : args = av.toArray ∧ s.heap.size = sz ∧ Cw E (va_A ws sz) s ws ∧ va_P E.1 vwCl ws s.heap := by
  obtain ⟨h1, h2, ⟨h3, h4⟩, h5, h6⟩ := h
  refine ⟨h1, h2, ⟨h3, fun q hq => ?_, fun q hq => Or.inr (by omega), by omega, h5.self⟩, h4⟩
  rcases hq with ⟨k, e, hk⟩ | hq
  · exact h5.2 k _ hk
  · exact Nat.le_trans h6 hq
/-- a reader whose array is a static table -/
def PrT (E : Ev) (av : List Value) (ty : FieldType) (t N : Nat) (f : Nat → Value) : Array Value → State → Prop := va_Pc av (fun U => va_T ty t N f (eA E) U U.heap)
theorem fb_PrT {E : Ev} {av : List Value} {ty : FieldType} {t N : Nat} {f : Nat → Value} : FrameBlind (PrT E av ty t N f) := fun a U g mk q => ⟨q.1, va_T.moved (u := U) (U := U.calling g mk a) (Vm.Alike.refl U.vm) q.2⟩
theorem rcST {p : Program} {l : Launch} {e : Env} {R : Room} {s : State} {m : MethodId} {args : Array Value} {below : List Frame} {meth : Method} {c : Code} {H : Heap} {locs : List Loc} {cells slots : Nat} {Q : State → Prop} {pc : Nat} {ls : Array Slot} {rest st0 As : List Value} {v : Option Value} {E : Ev} {y : MethodName} {bytes cc : ByteArray} {maxL nL n index : Nat} {ret : Option FieldType} {wsy : List Cond} {rm : Room} {Ts : List Cond} {own : String} {ty : FieldType} {t N : Nat} {f : Nat → Value}
    (S : CallFix p m c cc nL s args Ts own) (hM : Met l y wsy rm (PrT E As ty t N f) (Qr v) 0 0 (fun _ => False)) (cw : CallB R s args own index y bytes maxL ret wsy rm 0 0 n ∧ (Cond.static y).before args s = true) (hT : va_T ty t N f (eA E) s H)
    (hn : As.length = n) (hsize : ls.size = nL) (hst : st0 = As.reverse ++ rest) (hW : (rest.map fun v => v.category).sum ≤ 8) (hdg : decode cc pc = .ok (.invokestatic index, 3)) (hf : cells ≤ R.cells ∧ slots ≤ R.slots) (kk : W p l e R s m args below meth c H locs cells slots Q (F0 m (pc + 3) ls (v.toList ++ rest))) : W p l e R s m args below meth c H locs cells slots Q (F0 m pc ls st0) :=
  rcont (va_runS S hM cw ⟨fb_PrT, fun U hU hW2 => ⟨rfl, by show va_T ty t N f (eA E) U U.heap; rw [hU]; exact va_T.moved hW2.alike hT⟩⟩ rfl hn hsize hst (lv_room hW) hdg hf) kk
