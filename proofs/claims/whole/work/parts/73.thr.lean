/-! THE THROW: a cycle of no tick; the law's helper catches it -/
def tx_E : String := "java/lang/ArithmeticException"
def tx_up : List String := ["java/lang/RuntimeException", "java/lang/Exception"]
def tx_at : List Cond := Bundle.ownAtoms "EthernetGates" 98 tx_E tx_up
def tx_no : Cond → Bool
  | .isRef _ => false
  | .laysStatic _ _ _ => false
  | _ => true
def tx_T : List Cond := tx_at.filter tx_no
theorem tx_p : tx_T = ([50, 566, 575, 577, 580, 582, 567, 568, 68, 69, 569, 574, 578, 598, 556, 599, 558, 600, 560, 570, 572, 562, 594, 595, 597, 562, 585, 586, 587, 588, 548, 588, 589, 590, 591, 550, 591, 592, 593, 594, 552, 584, 545, 546, 553, 554, 555, 557, 559, 561, 565, 564, 563] : List Nat).filterMap (fun i => lw_tbl[i]?) := by decide +kernel
theorem tx_in : ∀ w ∈ tx_T, w ∈ lw_tbl := fun w hw => by rw [tx_p] at hw; obtain ⟨i, -, hi⟩ := List.mem_filterMap.mp hw; exact List.mem_of_getElem? hi
/-- the words by which they stay true -/
def tx_ok : Cond → Bool
  | .declares _ => true
  | .castable _ _ => true
  | w => goodWord w
theorem tx_T_ok : tx_T.all tx_ok = true := by decide +kernel
theorem tx_warm {s U : State} (hW : s.WarmedH U.vm) {w : Cond} (hw : w ∈ tx_T) {A A' : Array Value} (h : w.before A s = true) : w.before A' U = true := by
  have hk := List.all_eq_true.mp tx_T_ok w hw
  have ge : goodWord w = true → w.before A' U = true := fun hg => word_at hW (good_of_word hg) h
  unfold tx_ok at hk
  split at hk
  · exact va_Nw.use rfl (va_Nw.warmD hW (va_Nw.of rfl h))
  · exact va_Nw.use rfl (va_Nw.warmC hW (va_Nw.of rfl h))
  · exact ge hk
/-- a static of Throwable that holds a reference -/
def tx_Z (n d : String) (B : Nat) (U : State) : Prop := ∃ (c : Nat) (k : Class) (i : Nat) (f : Field) (a : Nat) (cell : Cell) (v : Value), U.vm.findClass Bundle.tN = some c ∧ U.fieldFound? Bundle.tN n d = some (c, k, i, f) ∧ f.isStatic = true ∧ k.statics = some a ∧ U.heap[a]? = some cell ∧ cell.vm.isStatics = true ∧ cell.cls = c ∧ f.slot < cell.slots.size ∧ k.staticTypes[f.slot]? = some f.type ∧ cell.slots[f.slot]? = some v ∧ v.isRef = true ∧ a < B
theorem tx_Z_of {n d : String} {args : Array Value} {s : State} (h1 : (Cond.laysStatic Bundle.tN n d).before args s = true) (h2 : (Cond.isRef (.static Bundle.tN n d)).before args s = true) : tx_Z n d s.heap.size s := by
  obtain ⟨c, k, i, f, a, cell, hc, hi, hst, ha, hcell, hs, hcls, hlt, hty⟩ := Cond.laysStatic_spec h1
  obtain ⟨v, hv, hr⟩ := Cond.isRef_spec h2
  have hsl : cell.slots[f.slot]? = some v := by
    simp [Term.eval, State.fieldNamed?, hi, hst, ha, hcell, hs] at hv
    exact hv
  exact ⟨c, k, i, f, a, cell, v, hc, hi, hst, ha, hcell, hs, hcls, hlt, hty, hsl, hr, (Array.getElem?_eq_some_iff.mp hcell).1⟩
theorem tx_Z_go {n d : String} {B : Nat} {s U : State} (h : tx_Z n d B s) (hB : B ≤ s.heap.size) (hW : s.WarmedH U.vm) (ho : ∀ q, q < s.heap.size → ¬ B ≤ q → U.heap[q]? = s.heap[q]?) : tx_Z n d B U := by
  obtain ⟨c, k, i, f, a, cell, v, hc, hi, hst, ha, hcell, hs, hcls, hlt, hty, hsl, hr, hb⟩ := h
  obtain ⟨k', hi', hek⟩ := State.fieldFound?_setVm hW.alike hi
  exact ⟨c, k', i, f, a, cell, v, by rw [hW.alike.findClass]; exact hc, hi', hst, by rw [hek]; exact ha, by rw [ho a (by omega) (by omega)]; exact hcell, hs, hcls, hlt, by rw [hek]; exact hty, hsl, hr, hb⟩
theorem tx_Z_is {n d : String} {B : Nat} {args : Array Value} {U : State} (h : tx_Z n d B U) : (Cond.isRef (.static Bundle.tN n d)).before args U = true ∧ (Cond.laysStatic Bundle.tN n d).before args U = true := by
  obtain ⟨c, k, i, f, a, cell, v, hc, hi, hst, ha, hcell, hs, hcls, hlt, hty, hsl, hr, hb⟩ := h
  refine ⟨?_, Cond.laysStatic_of hc hi hst ha hcell hs hcls hlt hty⟩
  cases v <;> simp [Value.isRef] at hr <;> simp [Cond.before, Cond.holds, Cond.value, Term.eval, State.fieldNamed?, hi, hst, ha, hcell, hs, hsl]
/-- what the throw asks of a state -/
def tx_W (B : Nat) (U : State) : Prop := (∀ w ∈ tx_T, w.before #[] U = true) ∧ (∃ sa : Nat, vk_R "EthernetGates" 96 "a cycle has at least one tick" sa U) ∧ tx_Z "UNASSIGNED_STACK" Bundle.steD B U ∧ tx_Z "SUPPRESSED_SENTINEL" Bundle.listD B U ∧ (Cond.classLink "EthernetGates" 94 tx_E).before #[] U = true ∧ (Cond.initialized tx_E).before #[] U = true ∧ (Cond.classLink "EthernetGatesLaw" 13 tx_E).before #[] U = true
theorem tx_W_go {B : Nat} {s U : State} {H : Heap} {locs : List Loc} (h : tx_W B s) (hB : B ≤ s.heap.size) (hW : s.WarmedH U.vm) (hU : U.heap = H) (hS : va_S (fun q => B ≤ q) s.heap H locs) : tx_W B U := by
  obtain ⟨h1, ⟨sa, h2⟩, h3, h4, h5, h6, h7⟩ := h
  refine ⟨fun w hw => tx_warm hW hw (h1 w hw), ⟨sa, h2.warm hW⟩, tx_Z_go h3 hB hW (by rw [hU]; exact hS.2.1), tx_Z_go h4 hB hW (by rw [hU]; exact hS.2.1), word_at hW (Or.inl rfl) h5, word_at hW (Or.inl rfl) h6, word_at hW (Or.inl rfl) h7⟩
theorem tx_all {B : Nat} {s : State} (h : tx_W B s) (args : Array Value) : ∀ w ∈ tx_at, w.before args s = true := by
  intro w hw
  by_cases hn : tx_no w = true
  · exact tx_warm (s := s) (U := s) (State.WarmedH.refl s) (List.mem_filter.mpr ⟨hw, hn⟩) (h.1 w (List.mem_filter.mpr ⟨hw, hn⟩))
  · have hr : w = .isRef (.static Bundle.tN "UNASSIGNED_STACK" Bundle.steD) ∨ w = .isRef (.static Bundle.tN "SUPPRESSED_SENTINEL" Bundle.listD) ∨ w = .laysStatic Bundle.tN "UNASSIGNED_STACK" Bundle.steD ∨ w = .laysStatic Bundle.tN "SUPPRESSED_SENTINEL" Bundle.listD := by
      have hb : ∀ w ∈ tx_at, tx_no w = true ∨ w = .isRef (.static Bundle.tN "UNASSIGNED_STACK" Bundle.steD) ∨ w = .isRef (.static Bundle.tN "SUPPRESSED_SENTINEL" Bundle.listD) ∨ w = .laysStatic Bundle.tN "UNASSIGNED_STACK" Bundle.steD ∨ w = .laysStatic Bundle.tN "SUPPRESSED_SENTINEL" Bundle.listD := by decide +kernel
      rcases hb w hw with q | q
      · exact absurd q hn
      · exact q
    rcases hr with rfl | rfl | rfl | rfl
    · exact (tx_Z_is h.2.2.1).1
    · exact (tx_Z_is h.2.2.2.1).1
    · exact (tx_Z_is h.2.2.1).2
    · exact (tx_Z_is h.2.2.2.1).2
/-- what is left of an old heap when nothing of it was written -/
theorem tx_old {s t : State} {k n : Nat} (h : s.sameButNew t [] k n) : ∀ q, q < s.heap.size → t.heap[q]? = s.heap[q]? := by
  intro q hq
  obtain ⟨c', h1, h2, h3, h4⟩ := h.2.2.2.2.2 q s.heap[q] (Array.getElem?_eq_getElem hq)
  rw [h1, Array.getElem?_eq_getElem hq]
  congr 1
  have e : c'.slots = (s.heap[q]).slots := by
    apply Array.ext_getElem?
    intro i
    exact h4 i (List.not_mem_nil)
  rw [h2, e]
/-- the end of a throw -/
def tx_Q (B : Nat) (below : List Frame) (s : State) : State → Prop := fun t => ∃ (a : Addr) (ce : Cell), t.status = .running ∧ Ended t below (.threw a) ∧ s.WarmedH t.vm ∧ s.sameButNew ({ t with vm := s.vm } : State) [] 1 6 ∧ t.heap[a]? = some ce ∧ ce.vm = .none ∧ s.vm.findClass tx_E = some ce.cls ∧ a = s.heap.size
section TX
variable {p : Program} {l : Launch} {e : Env} {R : Room} {s : State} {m : MethodId} {args : Array Value} {below : List Frame} {meth : Method} {c : Code}
abbrev tx_cX : ByteArray := prog_1_method_4_code
/-- new, dup, ldc, the constructor, athrow -/
theorem tx_32 {B : Nat} {ls : Array Slot} (hl : l.stackTraces = false) (hx : p.tables.exec = Jvm.exec) (hb : c.code = tx_cX) (hml : c.maxLocals = ls.size) (hnh : c.exceptionTable.isEmpty = true) (hown : s.vm.findClass "EthernetGates" = some m.cls) (hT : tx_W B s) (hR : 6 ≤ R.frames ∧ 100 ≤ R.locals ∧ 1 ≤ R.cells ∧ 6 ≤ R.slots) (hlocks : meth.locks = false) : W p l e R s m args below meth c s.heap [] 0 0 (tx_Q B below s) (F0 m 32 ls []) := by
  intro T hT0 X
  have htr : e.platform.stackTraces = false := (show e.platform.stackTraces = l.stackTraces by rw [X.admits.platform]).trans hl
  have hat := tx_all hT args
  obtain ⟨-, ⟨sa, hsa⟩, -, -, hcl, hini, -⟩ := hT
  obtain ⟨vm₁, cX, kX, hfX, hkX, -, -, X₁, st1⟩ := X.newCold hx (own := "EthernetGates") (C := tx_E) (index := 94) (n := 6) hown (va_any rfl hcl) (hat (.instantiable tx_E 6) (by decide +kernel)) (va_any rfl hini)
    (g := F0 m 32 ls []) rfl (show decode c.code 32 = _ by rw [hb]; decide +kernel) (by omega) (by omega)
  generalize hT1 : (T.setVm vm₁).pushCell { cls := cX, slots := kX.instanceTypes.map defaultValue, vm := .none } = T1 at X₁ st1
  have hcellA : T1.heap[T.heap.size]? = some (freshCell cX kX) := by rw [← hT1]; exact State.heap_pushCell_size _ _
  obtain ⟨U, hsteps, hrun, hend, hW, hsame, ce, hce, K⟩ := X₁.ctorThrowS hx htr (own := "EthernetGates") (cls := tx_E) (names := tx_up) (ic := 98) hown (by decide +kernel) (by decide +kernel)
    hat (fun y hy => by cases hy) hfX hkX hcellA (by rw [hT0]; exact Nat.le_refl _) (msg := .ref sa) rfl
    (g := F0 m 38 ls [.ref sa, .ref T.heap.size, .ref T.heap.size]) rfl (by rw [hml]) rfl rfl (rest := []) rfl
    (show decode c.code 38 = _ by rw [hb]; decide +kernel) (show decode c.code 41 = _ by rw [hb]; decide +kernel) (covers_of_empty hnh _) (by show 2 + 3 < R.frames; omega) (by show 2 * 0 + (1 + 0) + (13 * (2 + 1) + 42) ≤ R.locals; omega) (hlocks := hlocks)
  refine ⟨U, ?_, T.heap.size, ce, hrun, hend, hW, hsame, hce, K.vm, hfX.trans (by have := K.cls; rw [hfX] at this; exact this), by rw [hT0]⟩
  refine st1 _ ?_
  have d35 : decode c.code 35 = .ok (.dup, 1) := by rw [hb]; decide +kernel
  show Steps p.tables e below (T1.setTop (F0 m 35 ls [.ref T.heap.size])) _
  jvm_step X₁.here [X₁.here.top, hx, d35, Value.category]
  have hev : (Term.string "EthernetGates" 96).eval args s none [] s = some (.ref sa) := hsa.2
  exact X₁.ldcString hx (own := "EthernetGates") (text := "a cycle has at least one tick") (index := 96) (a := sa) hown hsa.1 hev (g := F0 m 36 ls [.ref T.heap.size, .ref T.heap.size]) rfl (show decode c.code 36 = _ by rw [hb]; decide +kernel) _ hsteps
end TX
/-! the class's method, when it throws -/
def tx_yX : MethodName := ⟨"EthernetGates", "cycle", "(J)I"⟩
def tx_yW : MethodName := ⟨"EthernetGatesLaw", "cycle", "(LEthernetGates;J[J)I"⟩
abbrev tx_hh : List (Nat × Nat × Nat × Nat) := [(0, 9, 12, 13)]
theorem tx_w : Cond.code tx_yX tx_cX 3 (some .int) ∈ am_Tg ∧ Cond.constantLong "EthernetGates" 92 1000000 ∈ am_Tg ∧ Cond.codeWith tx_yW method_3_code 5 (some .int) tx_hh ∈ am_Tg ∧ Cond.methodLink "EthernetGatesLaw" 7 tx_yX ∈ am_Tg ∧ Cond.instanceMethod tx_yX ∈ am_Tg ∧ Cond.selects "EthernetGates" tx_yX tx_yX ∈ am_Tg ∧ Cond.initialized "EthernetGates" ∈ am_Tg ∧ Cond.initialized "EthernetGatesLaw" ∈ am_Tg ∧ Cond.methodLink "EthernetGatesLaw" 39 tx_yW ∈ am_Tg ∧ Cond.static tx_yW ∈ am_Tg :=
  ⟨am_iQ (by decide +kernel), am_iC (by decide +kernel), am_iK (by decide +kernel), am_iM (by decide +kernel), am_iK (by decide +kernel), am_iK (by decide +kernel), am_iI (by decide +kernel), am_iI (by decide +kernel), am_iM (by decide +kernel), am_iK (by decide +kernel)⟩
/-- when a cycle is refused by a throw -/
def tx_c (h : am_H) (x : Nat) (v : Int64) : Prop := am_T h x = 10 ∧ ¬ lg_cmp v 0 < 0 ∧ ¬ 0 < lg_cmp v 1000000 ∧ 0 ≤ lg_cmp v (am_J h 8 x) ∧ lg_cmp v 0 = 0
section TY
variable {l : Launch} {D : va_G} {dA : Nat → ClassId} {B : Nat}
theorem tx_MX {d x : Nat} {v : Int64} {h : am_H} (hl : l.stackTraces = false) (hd : 5 ≤ d) (hc : tx_c h x v) : MetFree l tx_yX (headSpec (Cond.code tx_yX tx_cX 3 (some .int) :: am_Tg) (am_rm d 1 6)) (fun a U => va_Pc (([.inr (.inr x), .inr (.inl v)] : am_Sk).map am_v2) (am_Pb D dA B h) a U ∧ tx_W B U) (fun _ _ _ _ _ => True) (fun _ s o t => ∃ (a : Addr) (ce : Cell), o = .threw a ∧ s.WarmedH t.vm ∧ s.sameButNew ({ t with vm := s.vm } : State) [] 1 6 ∧ t.heap[a]? = some ce ∧ ce.vm = .none ∧ s.vm.findClass tx_E = some ce.cls ∧ a = s.heap.size) := by
  obtain ⟨c1, c2, c3, c4, c5⟩ := hc
  refine MetFree.of_bodyS (code := tx_cX) (maxLocals := 3) (ret := some .int) (by decide) ?_ ?_
  · intro args s m h hn
    obtain ⟨meth, c, h1, h2, h3, h4, h5, h6, -, -⟩ := Cond.code_spec hn (atoms_spec (ws := Cond.code tx_yX tx_cX 3 (some .int) :: am_Tg) h _ List.mem_cons_self)
    exact ⟨meth, c, h1, h2, h3, h4, h5, h6⟩
  · intro p e s m args below meth c s₁ B9 hml9 hP _
    obtain ⟨⟨hargs, hO, hB, hKw⟩, hT⟩ := hP
    have hts := atoms_spec (ws := Cond.code tx_yX tx_cX 3 (some .int) :: am_Tg) B9.pre
    have hts' : ∀ w ∈ am_Tg, w.before args s = true := fun w hw => hts w (List.mem_cons_of_mem _ hw)
    have hown : s.vm.findClass "EthernetGates" = some m.cls := findClass_of_methodNamed B9.named
    obtain ⟨ls, hen, hlk⟩ := am_en_ok (mid := mi_X_cycle) (mL := 3) (as := [.inr (.inr x), .inr (.inl v)]) rfl (show (3 : Nat) ≤ 3 by decide)
    have hnh : c.exceptionTable.isEmpty = true := B9.noHandlers (hts _ List.mem_cons_self)
    have l0 := am_Lk_at (k := 0) (v := .inr (.inr x)) hlk rfl
    have l1 := am_Lk_at (k := 1) (v := .inr (.inl v)) hlk rfl
    have hx := B9.exec
    have hb := B9.bytes
    have hfin : W p l e (am_rm d 1 6) s m args below meth c s.heap [] 0 0 (tx_Q B below s) (F0 m 32 ls []) := tx_32 hl hx hb (hml9.trans hlk.2.1.symm) hnh hown hT ⟨by show 6 ≤ d + 1; omega, by show 100 ≤ 36 * d + 30; omega, Nat.le_refl _, Nat.le_refl _⟩ B9.notSynchronized
    have k29 : W p l e (am_rm d 1 6) s m args below meth c s.heap [] 0 0 (tx_Q B below s) (F0 m 29 ls [.int (lg_cmp v 0)]) := lv_if_ne (tgt := 42) hx hb (off := 13) (by decide +kernel) rfl (fun q => absurd c5 q) (fun _ => hfin)
    have k26 : W p l e (am_rm d 1 6) s m args below meth c s.heap [] 0 0 (tx_Q B below s) (F0 m 26 ls []) := lv_lload_n (k := 1) hx hb (by decide +kernel) rfl l1 (lv_lconst (n := 0) hx hb (by decide +kernel) rfl (W.lcmp hx hb (by decide +kernel) k29))
    have k20 : W p l e (am_rm d 1 6) s m args below meth c s.heap [] 0 0 (tx_Q B below s) (F0 m 20 ls [.int (lg_cmp v (am_J h 8 x))]) := lv_if_ge (tgt := 26) hx hb (off := 6) (by decide +kernel) rfl (fun _ => k26) (fun q => absurd c4 q)
    have k16 : W p l e (am_rm d 1 6) s m args below meth c s.heap [] 0 0 (tx_Q B below s) (F0 m 16 ls [am_v2 (.inr (.inr x)), .long v]) := by
      have hf : am_okF "EthernetGates" 79 0 8 = true := by decide +kernel
      obtain ⟨q, hq, hy, hl9⟩ := am_okF_x hf
      obtain ⟨hg, hx9⟩ := am_cok hq
      exact am_w_get (x := 0) (y := 8) (r := x) (rest := [.long v]) hx hb hts' hown hKw.1 hKw.2.1 hO c1 hq hg hx9 hy hl9 (by decide +kernel) (W.lcmp hx hb (by decide +kernel) k20)
    have k14 : W p l e (am_rm d 1 6) s m args below meth c s.heap [] 0 0 (tx_Q B below s) (F0 m 14 ls []) := by
      refine lv_lload_n (k := 1) hx hb (by decide +kernel) rfl l1 ?_
      cases x with
      | zero => rw [hO.1] at c1; cases c1
      | succ a => exact lv_aload_n (k := 0) hx hb (by decide +kernel) rfl l0 k16
    have k11 : W p l e (am_rm d 1 6) s m args below meth c s.heap [] 0 0 (tx_Q B below s) (F0 m 11 ls [.int (lg_cmp v 1000000)]) := lv_if_gt (tgt := 23) hx hb (off := 12) (by decide +kernel) rfl (fun q => absurd q c3) (fun _ => k14)
    have k6 : W p l e (am_rm d 1 6) s m args below meth c s.heap [] 0 0 (tx_Q B below s) (F0 m 6 ls []) := lv_lload_n (k := 1) hx hb (by decide +kernel) rfl l1 (lv_ldc2 hx hb hown (hts' _ tx_w.2.1) (by decide +kernel) (W.lcmp hx hb (by decide +kernel) k11))
    have k3 : W p l e (am_rm d 1 6) s m args below meth c s.heap [] 0 0 (tx_Q B below s) (F0 m 3 ls [.int (lg_cmp v 0)]) := lv_if_lt (tgt := 23) hx hb (off := 20) (by decide +kernel) rfl (fun q => absurd q c2) (fun _ => k6)
    have k0 : W p l e (am_rm d 1 6) s m args below meth c s.heap [] 0 0 (tx_Q B below s) (F0 m 0 ls []) := lv_lload_n (k := 1) hx hb (by decide +kernel) rfl l1 (lv_lconst (n := 0) hx hb (by decide +kernel) rfl (W.lcmp hx hb (by decide +kernel) k3))
    have hh0 : s₁.heap = s.heap := by rw [B9.state]; rfl
    obtain ⟨t, a1, a, ce, b1, b2, b3, b4, b5, b6, b7, b8⟩ := k0 s₁ hh0 (Stand.of_body B9)
    rw [show entryFrame m args 3 = F0 m 0 ls [] from by rw [hargs]; exact hen m]
    exact ⟨t, .threw a, a1, b1, b2, a, ce, rfl, b3, b4, b5, b6, b7, b8⟩
end TY
/-! a call that throws, in a method that catches it -/
/-- the heap behind it: one cell of which nothing is said -/
def am_ex (h : am_H) : am_H := (va_up (am_T h) (am_Z h + 1) 0, am_N h, am_I h, am_J h, am_R h, am_aI h, am_aJ h, am_aR h, am_Z h + 1, am_C h + 1, am_S h + 6)
section TZ
variable {p : Program} {l : Launch} {e : Env} {R : Room} {s : State} {m : MethodId} {args : Array Value} {below : List Frame} {meth : Method} {c : Code} {H : Heap} {locs : List Loc} {cells slots : Nat} {Q : State → Prop} {D : va_G} {dA : Nat → ClassId} {B : Nat} {h : am_H}
theorem am_Ok_ex {H1 : Heap} (hO : am_Ok D dA B h s H) (hB : B ≤ H.size) (z1 : H1.size = H.size + 1) (o1 : ∀ q, q < H.size → H1[q]? = H[q]?) : am_Ok D dA B (am_ex h) s H1 := by
  obtain ⟨h0, hs, hr, h3, L, hL, hP, hD⟩ := hO
  have hk : ∀ (k : Nat) (x : Nat × va_E), (va_pl L (am_e dA h))[k]? = some x → H1[x.1]? = H[x.1]? := fun k x hx => o1 x.1 ((hP k x hx).lt)
  have hlt : ∀ a, a ∈ L → a < H.size := fun a ha => by
    obtain ⟨k, hk⟩ := va_pl_get (X := []) (f := am_e dA h) ha
    exact (hP k _ hk).lt
  have hT : ∀ b, ¬ b = am_Z h → am_T (am_ex h) (b + 1) = am_T h (b + 1) := fun b hb => va_up_ne _ _ (by omega)
  have hZT : am_T (am_ex h) (am_Z h + 1) = 0 := va_up_self _ _ _
  have hno : ¬ am_ow (am_T h (am_Z h + 1)) := fun z => by
    have := hlt _ ((hL (am_Z h)).mpr z)
    omega
  refine ⟨?_, ?_, fun a ha => ?_, ?_, L, fun a => ?_, ?_, ?_⟩
  · have e : am_T (am_ex h) 0 = am_T h 0 := (show va_up (am_T h) (am_Z h + 1) 0 0 = am_T h 0 from va_up_ne _ _ (by omega))
    rw [e]; exact h0
  · rw [z1, hs]; rfl
  · by_cases hb : a = am_Z h + 1
    · subst hb; rw [hZT] at ha; omega
    · have e : am_T (am_ex h) a = am_T h a := va_up_ne _ _ hb
      rw [e] at ha ⊢
      exact hr a ha
  · refine am_Ro_keep h3 (fun a ha => ⟨hT a (by omega), rfl⟩) (fun a ha _ => rfl) rfl (fun a ha z => ?_) (fun q hq => o1 q (by omega))
    by_cases hb : a = am_Z h
    · subst hb; rw [hZT] at z; omega
    · rw [hT a hb] at z
      obtain ⟨r1, ⟨t, r2, r3, r4, r5, r6⟩, r7⟩ := h3
      rcases z with z | z
      · exact absurd (r1 a z).1 (by omega)
      · have e1 := r7 a z
        obtain ⟨_, _, _, _, _, _, _, q⟩ := r6
        have : t = a := by omega
        exact q (by show B ≤ t; omega)
  · by_cases hb : a = am_Z h
    · subst hb
      rw [hZT]
      exact ⟨fun z => absurd ((hL _).mp z) hno, fun z => absurd z (by unfold am_ow; omega)⟩
    · rw [hT a hb]; exact hL a
  · have e : ∀ b ∈ L, am_e dA (am_ex h) b = am_e dA h b := fun b hb => am_e_same (hT b (by have := hlt b hb; omega)) rfl rfl rfl rfl (fun u f => rfl)
    rw [show va_pl L (am_e dA (am_ex h)) = va_pl L (am_e dA h) from List.map_congr_left (fun b hb => by rw [e b hb])]
    exact hP.kept hk
  · have e : ∀ b ∈ L, am_e dA (am_ex h) b = am_e dA h b := fun b hb => am_e_same (hT b (by have := hlt b hb; omega)) rfl rfl rfl rfl (fun u f => rfl)
    rw [show va_pl L (am_e dA (am_ex h)) = va_pl L (am_e dA h) from List.map_congr_left (fun b hb => by rw [e b hb])]
    exact hD
end TZ
/-! the law's helper: the search for its one handler, whose class may not be looked up yet -/
theorem tx_find {Q : Handler → Pre} {E : CtlPost} {e : Env} {d : Bool} {acts : List Action} {s : State} {f : JFrame} {a : Addr} {x : ExceptionTableEntry} {c : ClassId} {cell : Cell} (hx : covers x f.pc = true) (h0 : x.catchType ≠ 0) (hl : s.vm.ClassLinks e.platform f.method.cls x.catchType c) (hcell : s.heap[a]? = some cell) (hobj : ∀ k, cell.vm ≠ .statics k)
    (hk : ∃ k, s.vm.classes[cell.cls]? = some k) (hc : ∃ k, s.vm.classes[c]? = some k) (hfit : s.vm.assignable cell.cls c = true) : wp (findHandler.go f a [x]) Q E e d acts s ↔ Q (.found x.handlerPc) d acts (s.setVm (s.vm.noted f.method.cls x.catchType (.cls c))) := by
  simp only [covers] at hx
  obtain ⟨r1, r2⟩ := (resolveClass_links e.toSetting hl).op (op := VmOp.resolveClass f.method.cls x.catchType) rfl
  have hal : s.vm.Alike (s.vm.noted f.method.cls x.catchType (.cls c)) := (Vm.Alike.refl s.vm).noted _ _ _
  obtain ⟨k1, hk1⟩ := hk
  obtain ⟨k2, hk2⟩ := hc
  obtain ⟨k3, hk3, -⟩ := hal.2.2 _ _ hk1
  obtain ⟨k4, hk4, -⟩ := hal.2.2 _ _ hk2
  have hf : (s.vm.noted f.method.cls x.catchType (.cls c)).assignable cell.cls c = true := by rw [hal.assignable]; exact hfit
  simp [findHandler.go, hx, h0, r1, r2, hcell, hobj, hk3, hk4, hf, VmOp.dirties, VmOp.acts]
theorem tx_step {e : Env} {s : State} {a : Addr} {f : JFrame} {r : List Frame} {pc : Nat} {vm' : Vm} (hfind : ∀ (Q : Handler → Pre) (E : CtlPost) (d : Bool) (acts : List Action), wp (findHandler f a) Q E e d acts s ↔ Q (.found pc) d acts (s.setVm vm')) : (stepThrowing e s a (.java f :: r)).1 = (s.setVm vm').setFrames (.java { f with pc := pc, stack := [.ref a] } :: r) := by
  simp only [stepThrowing, searchFrame, vmDo]
  generalize hr : Sem.go _ e false [] s = res
  obtain ⟨as, rfl, ha⟩ := Sem.eq_ok_of hr (a := Handler.found pc) (s' := s.setVm vm') (acts' := []) (by simp [hfind _ _ _ _])
  rfl
theorem tx_caught {tb : Tables} {e : Env} {s target : State} {g : JFrame} {c : Code} {below : List Frame} {a : Addr} (h : At s g.method c below) {pc : Nat} {vm' : Vm} (hfind : ∀ (Q : Handler → Pre) (E : CtlPost) (d : Bool) (acts : List Action), wp (findHandler g a) Q E e d acts ((s.setTop g).pushFrame (.throwing a)) ↔ Q (.found pc) d acts (((s.setTop g).pushFrame (.throwing a)).setVm vm'))
    (hrest : Steps tb e below ((s.setVm vm').setTop { g with pc := pc, stack := [.ref a] }) target) : Steps tb e below ((s.setTop g).pushFrame (.throwing a)) target := by
  obtain ⟨hgo, hw⟩ := h.throwing a
  refine Steps.head hgo hw ?_
  rw [stepThread_throwing (frames_entered h.top _), tx_step (s := (s.setTop g).pushFrame (.throwing a)) hfind]
  obtain ⟨g₀, hg⟩ := Option.isSome_iff_exists.mp h.top
  obtain ⟨r, hr⟩ := State.topJava?_eq_some.mp hg
  have hr' : (s.setVm vm').frames = .java g₀ :: r := hr
  rw [State.setTop_of_frames _ hr'] at hrest
  rw [hr, List.tail_cons, State.pushFrame, State.setTop_of_frames _ hr, State.setFrames_setFrames]
  have e1 : ∀ (u : State) (F G : List Frame), ((u.setFrames F).setVm vm').setFrames G = (u.setVm vm').setFrames G := fun u F G => by
    have h1 : (u.setFrames F).setVm vm' = (u.setVm vm').setFrames F := rfl
    rw [h1, State.setFrames_setFrames]
  rw [e1]
  exact hrest
section TU
variable {p : Program} {l : Launch} {e : Env} {R : Room} {s : State} {m : MethodId} {args : Array Value} {below : List Frame} {meth : Method} {c : Code} {H : Heap} {locs : List Loc} {cells slots : Nat} {Q : State → Prop} {D : va_G} {dA : Nat → ClassId} {B : Nat} {h : am_H}
theorem tx_call {ls : Array Slot} {x : Nat} {v : Int64} {rest : List Value} (hlT : l.stackTraces = false) (hx : p.tables.exec = Jvm.exec) (hb : c.code = method_3_code) (hml : c.maxLocals = ls.size) (hown : s.vm.findClass "EthernetGatesLaw" = some m.cls) (hts : ∀ w ∈ am_Tg, w.before args s = true) (hKw : am_Kw D dA s) (hB : B ≤ s.heap.size) (hTw : tx_W B s)
    (hex : c.exceptionTable.toList.map (fun h => (h.startPc, h.endPc, h.handlerPc, h.catchType)) = tx_hh) (hO : am_Ok D dA B h s H) (hS : va_S (fun q => B ≤ q) s.heap H locs) (hc : tx_c h x v) (hR : 7 ≤ R.frames ∧ 240 ≤ R.locals) (hRc : cells + 1 ≤ R.cells) (hRs : slots + 6 ≤ R.slots) (hrest : (rest.map fun v => v.category).sum ≤ 8)
    (kk : ∀ H1, am_Ok D dA B (am_ex h) s H1 → va_S (fun q => B ≤ q) s.heap H1 locs → W p l e R s m args below meth c H1 locs (cells + 1) (slots + 6) Q (F0 m 12 ls [am_v2 (.inr (.inr (am_Z h + 1)))])) : W p l e R s m args below meth c H locs cells slots Q (F0 m 4 ls (.long v :: am_v2 (.inr (.inr x)) :: rest)) := by
  intro T hT X
  have hy : tx_yX.cls ≠ "java/lang/invoke/MethodHandle" ∧ tx_yX.cls ≠ "java/lang/invoke/VarHandle" := by decide
  obtain ⟨a, rfl⟩ : ∃ a, x = a + 1 := by
    cases x with
    | zero => have := hc.1; rw [hO.1] at this; cases this
    | succ a => exact ⟨a, rfl⟩
  obtain ⟨cellB, hcB, hoB, hclB⟩ := am_recv (x := 0) hKw.1 hO hc.1 rfl
  have hclB : s.vm.findClass "EthernetGates" = some cellB.cls := hclB
  obtain ⟨mk, methM, hnamed, hmethM, hstM, habM⟩ := Cond.instanceMethod_spec (hts _ tx_w.2.2.2.2.1)
  obtain ⟨methM', cM, hmethM', hcodeM', -, hlocalsM, -, -, -, hsigM⟩ := Cond.code_spec hnamed (hts _ tx_w.1)
  cases hmethM.symm.trans hmethM'
  obtain ⟨c2, r2, m2, q1, q2, q3, q4, kP, hkP, hkPi⟩ := Cond.selects_spec (hts _ tx_w.2.2.2.2.2.1)
  cases hclB.symm.trans q1
  cases (State.methodFound?_of_named hnamed hy).symm.trans q2
  cases hnamed.symm.trans q3
  have hselP : selectMethod e.platform s.vm cellB.cls mk = .method mk := by rw [Launch.admits_selectMethod X.admits]; exact q4
  have hinitP : kP.init = .initialized := Cond.initialized_spec (findClass_of_methodNamed hnamed) hkP (hts _ tx_w.2.2.2.2.2.2.1)
  have d4 : decode c.code 4 = .ok (.invokevirtual 7, 3) := by rw [hb]; decide +kernel
  have hlen : ([.long v] : List Value).length = methM.sig.parameters.length := by
    have e1 : parseMethodDescriptor tx_yX.desc = some ⟨[.long], some .int⟩ := by decide +kernel
    rw [e1] at hsigM
    rw [← Option.some.inj hsigM]
    rfl
  obtain ⟨vm₁, X₁, hstep₁⟩ := X.invokevirtual hx hown (hts _ tx_w.2.2.2.1) hnamed hmethM hstM hkP hkPi hy (a := a) (cell := cellB) (by rw [hT]; exact hcB) (fun z h => by rw [h] at hoB; cases hoB) hselP hmethM habM hkP hkPi (g := F0 m 4 ls (.long v :: .ref a :: rest)) rfl (argsL := [.long v]) (rest := rest) hlen rfl d4
  have hW : s.WarmedH (T.setVm vm₁).vm := X₁.warmed
  obtain ⟨kP₁, hkP₁, heP₁⟩ := hW.alike.2.2 _ _ hkP
  -- the callee
  have hMx := tx_MX (l := l) (D := D) (dA := dA) (B := B) (d := 5) (x := a + 1) (v := v) (h := h) hlT (Nat.le_refl _) hc
  have happ : (headSpec (Cond.code tx_yX tx_cX 3 (some .int) :: am_Tg) (am_rm 5 1 6)).appliesLoose tx_yX e.platform ((T.setVm vm₁).calling (F0 m 4 ls rest) mk #[.ref a, .long v]) = true :=
    Spec.appliesLoose_calling (g := F0 m 4 ls rest) (by exact X₁.here) d4
      (show (T.setVm vm₁).methodNamed? tx_yX = some mk by
        have q : (s.setVm (T.setVm vm₁).vm).methodNamed? tx_yX = some mk := by rw [State.methodNamed?_setVm hW.alike]; exact hnamed
        exact q)
      hkP₁ (by rw [heP₁]; exact hinitP)
      (X₁.room_calling (g := F0 m 4 ls rest) (R' := (headSpec (Cond.code tx_yX tx_cX 3 (some .int) :: am_Tg) (am_rm 5 1 6)).room) hml.symm (show (T.setVm vm₁).vm.method? mk = some methM by rw [hW.alike.method?]; exact hmethM) hcodeM' (by show 6 + 1 ≤ R.frames; omega) (by rw [hlocalsM]; show 2 * 0 + (rest.map fun v => v.category).sum + (3 + 11) + (36 * 5 + 30) ≤ R.locals; omega) (by show cells + 1 ≤ _; omega) (by show slots + 6 ≤ _; omega))
      (atoms_intro fun w hw => word_at hW ((am_good tx_w.1) w hw).2 (hts w ((am_good tx_w.1) w hw).1))
  have hfr : ((T.setVm vm₁).setTop (F0 m 4 ls rest)).frames = .java (F0 m 4 ls rest) :: below := by
    rw [State.frames_setTop' _ X₁.here.top, X₁.tail]
  obtain ⟨o, s₂, hsteps, -, hend, hq⟩ := Steps.callFree hMx p X₁.admits X₁.cas X₁.clock (acts := []) (mid := [.java (F0 m 4 ls rest)]) (below := below) hfr happ ⟨am_blind _ _ _ _ (am_pre (as := [.inr (.inr (a + 1)), .inr (.inl v)]) hKw hB hO hS (T.setVm vm₁) hT hW), tx_W_go (s := s) (H := H) (locs := locs) hTw hB hW hT hS⟩ trivial
  obtain ⟨ad, ce, rfl, hW₂, hsame₂, hce, hcv, hcc, hadr⟩ := hq
  have hf₂ : s₂.frames = .throwing ad :: ((T.setVm vm₁).setTop (F0 m 4 ls rest)).frames := hend
  obtain ⟨e2, z2, z3, z4, z5, z6⟩ := id hsame₂
  obtain ⟨g₀, hg⟩ := Option.isSome_iff_exists.mp X₁.here.top
  obtain ⟨r, hr⟩ := State.topJava?_eq_some.mp hg
  have htl : r = below := by have := X₁.tail; rw [hr] at this; exact this
  subst htl
  have e3 : s₂ = ({ ((T.setVm vm₁).calling (F0 m 4 ls rest) mk #[.ref a, .long v]).setFrames s₂.frames with heap := s₂.heap, slotsUsed := s₂.slotsUsed } : State).setVm s₂.vm := by
    have : s₂ = ({ s₂ with vm := (((T.setVm vm₁).setTop (F0 m 4 ls rest)).pushFrame (.invoking mk #[.ref a, .long v])).vm } : State).setVm s₂.vm := rfl
    rw [e2] at this
    exact this
  have hW₂' : (T.setVm vm₁).WarmedH s₂.vm := hW₂
  have hs₂ : s₂ = ((({ T.setVm vm₁ with heap := s₂.heap, slotsUsed := s₂.slotsUsed } : State).setVm s₂.vm).setTop (F0 m 4 ls rest)).pushFrame (.throwing ad) := by
    have hr' : (({ T.setVm vm₁ with heap := s₂.heap, slotsUsed := s₂.slotsUsed } : State).setVm s₂.vm).frames = .java g₀ :: r := hr
    refine e3.trans ?_
    rw [hf₂, hfr, State.calling_eq X₁.here.top, State.setFrames_setFrames, State.pushFrame, State.frames_setTop _ hr', State.setTop_of_frames _ hr', State.setFrames_setFrames]
    rfl
  have hsame₃ : (T.setVm vm₁).sameButNew ({ T.setVm vm₁ with heap := s₂.heap, slotsUsed := s₂.slotsUsed } : State) [] 1 6 := by
    refine ⟨?_, z2, z3, z4, z5, z6⟩
    obtain ⟨t, ht, -⟩ := State.frames_cons hr
    show ({ T.setVm vm₁ with heap := s₂.heap, slotsUsed := s₂.slotsUsed } : State) = { (T.setVm vm₁).setFrames (T.setVm vm₁).frames with heap := s₂.heap, slotsUsed := s₂.slotsUsed }
    rw [State.setFrames_self ht]
  have X₂ : Stand p l e R s m args r meth c (({ T.setVm vm₁ with heap := s₂.heap, slotsUsed := s₂.slotsUsed } : State).setVm s₂.vm) (locs ++ []) (cells + 1) (slots + 6) :=
    ⟨X₁.admits, X₁.cas, X₁.clock, X₁.frames, X₁.room, X₁.hears, X₁.method, X₁.code, (X₁.here.setHeapUsed s₂.heap s₂.slotsUsed).setVm hW₂'.alike, X₁.tail, State.WarmedH.trans X₁.warmed hW₂', X₁.limits, X₁.bytes, X₁.same.trans (hsame₃.setVm s.vm)⟩
  rw [List.append_nil] at X₂
  -- the heap
  have hhT : (T.setVm vm₁).heap = H := hT
  have hsz : s₂.heap.size = H.size + 1 := by
    have h1 := (Array.getElem?_eq_some_iff.mp hce).1
    have h2 : ad = H.size := hadr.trans (by show (T.setVm vm₁).heap.size = _; rw [hhT])
    have h3 : s₂.heap.size ≤ H.size + 1 := by rw [← hhT]; exact z3
    rw [h2] at h1
    exact Nat.le_antisymm h3 h1
  have hold : ∀ q, q < H.size → s₂.heap[q]? = H[q]? := fun q hq => by
    have := tx_old hsame₃ q (by rw [hhT]; exact hq)
    rw [hhT] at this
    exact this
  have had : ad = am_Z h := by rw [← hO.2.1]; exact hadr.trans (by show (T.setVm vm₁).heap.size = _; rw [hhT])
  -- the handler
  have hpl : e.platform.magicAccessors = ({} : Platform).magicAccessors := by rw [X.admits.platform]
  obtain ⟨cT, hcT, hcl⟩ := Cond.classLink_spec hown (va_any (A' := args) rfl hTw.2.2.2.2.2.2) e.platform hpl
  obtain ⟨dk, _, _, kt, hd, _, _, _, _, hkt, _, hopen⟩ := hcl.here
  have hcc' : s.vm.findClass tx_E = some ce.cls := by
    have : (T.setVm vm₁).vm.findClass tx_E = some ce.cls := hcc
    rw [hW.alike.findClass] at this
    exact this
  cases hcT.symm.trans hcc'
  obtain ⟨cA, cB, f1, f2, f3⟩ := Cond.castable_spec (tx_all hTw args (.castable tx_E tx_E) (by decide +kernel))
  cases hcT.symm.trans f1
  cases hcT.symm.trans f2
  obtain ⟨xe, hxe, x1, x2, x3, x4⟩ : ∃ xe : ExceptionTableEntry, c.exceptionTable.toList = [xe] ∧ xe.startPc = 0 ∧ xe.endPc = 9 ∧ xe.handlerPc = 12 ∧ xe.catchType = 13 := by
    match hl : c.exceptionTable.toList, hex with
    | [xe], hex => 
      simp [tx_hh] at hex
      exact ⟨xe, rfl, hex.1, hex.2.1, hex.2.2.1, hex.2.2.2⟩
    | [], hex => simp [tx_hh] at hex
    | _ :: _ :: _, hex => simp [tx_hh] at hex
  have hal₂ : s.vm.Alike s₂.vm := X₂.warmed.alike
  have hasg : s₂.vm.assignable ce.cls ce.cls = true := by rw [hal₂.assignable]; exact f3
  have hcl₀ := X₂.warmed.classLinks hcl
  have hW₃ := X₂.warmed.noted hd hopen (State.rightAt_cls hcl)
  have X₃ := X₂.noted hW₃
  obtain ⟨kt', hkt', -⟩ := X₂.warmed.alike.2.2 _ _ hkt
  have hheap : (((({ T.setVm vm₁ with heap := s₂.heap, slotsUsed := s₂.slotsUsed } : State).setVm s₂.vm).setTop (F0 m 4 ls rest)).pushFrame (.throwing ad)).heap = s₂.heap := Stand.throwing_heap _ _ _
  have hvm : (((({ T.setVm vm₁ with heap := s₂.heap, slotsUsed := s₂.slotsUsed } : State).setVm s₂.vm).setTop (F0 m 4 ls rest)).pushFrame (.throwing ad)).vm = s₂.vm := Stand.throwing_vm _ _ _
  obtain ⟨t, a1, b1⟩ := kk s₂.heap (am_Ok_ex hO (Nat.le_trans hB hS.1) hsz hold) (am_S_push hS hsz hold) _ (by rfl) X₃
  refine ⟨t, hstep₁ _ (fun acts => ?_), b1⟩
  rw [doInvoke_state]
  refine hsteps.trans ?_
  rw [hs₂]
  rw [am_v2_ref, ← had] at a1
  refine tx_caught (g := F0 m 4 ls rest) (pc := 12) (vm' := s₂.vm.noted m.cls 13 (.cls ce.cls)) X₂.here (fun Q E d acts => ?_) a1
  rw [W.findHandler_eq (meth := meth) (code := c) (by rw [hvm]; exact X₂.method') X₂.code, hxe]
  rw [tx_find (x := xe) (c := ce.cls) (cell := ce) (by rw [show covers xe (F0 m 4 ls rest).pc = (decide (xe.startPc ≤ 4) && decide (4 < xe.endPc)) from rfl, x1, x2]; rfl) (by rw [x4]; decide) (by rw [hvm, x4]; exact hcl₀) (by rw [hheap]; exact hce) (fun k z => by rw [hcv] at z; cases z) ⟨kt', by rw [hvm]; exact hkt'⟩ ⟨kt', by rw [hvm]; exact hkt'⟩ (by rw [hvm]; exact hasg), hvm, x3, x4]
end TU
