/-! locals of the machine -/
def am_lst (l : am_Ls) : List (Nat × Value) := (List.range l.length).filterMap fun k => (l.getD k none).map fun v => (k, am_v2 v)
theorem am_lst_mem {l : am_Ls} {k : Nat} {w : Value} : (k, w) ∈ am_lst l ↔ ∃ v, l.getD k none = some v ∧ w = am_v2 v := by
  unfold am_lst
  rw [List.mem_filterMap]
  constructor
  · rintro ⟨j, -, hj⟩
    cases hv : l.getD j none with
    | none => rw [hv] at hj; cases hj
    | some v =>
      rw [hv] at hj
      cases hj
      exact ⟨v, hv, rfl⟩
  · rintro ⟨v, hv, rfl⟩
    refine ⟨k, List.mem_range.mpr ?_, by rw [hv]; rfl⟩
    rcases Nat.lt_or_ge k l.length with q | q
    · exact q
    · rw [List.getD_eq_getElem?_getD, List.getElem?_eq_none q] at hv
      cases hv
def am_Lk (ls : Array Slot) (nL : Nat) (l : am_Ls) : Prop := l.length = nL ∧ lv_has ls nL (am_lst l)
theorem am_Lk_at {ls : Array Slot} {nL k : Nat} {l : am_Ls} {v : am_V} (h : am_Lk ls nL l) (hk : l.getD k none = some v) : ls[k]? = some (.val (am_v2 v)) := h.2.2.2 (k, am_v2 v) (am_lst_mem.mpr ⟨v, hk, rfl⟩)
theorem am_cat_v2 (v : am_V) : (am_v2 v).category = am_cat v := by
  rcases v with a | a | a
  · rfl
  · rfl
  · cases a <;> rfl
theorem am_Lk_s1 {ls ls' : Array Slot} {nL i : Nat} {l : am_Ls} {v : am_V} (h : am_Lk ls nL l) (h' : lv_has ls' nL ((i, am_v2 v) :: (am_lst l).filter (fun q => !(q.1 == i) && !(q.1 + 1 == i && q.2.category == 2)))) (hi : i < nL) : am_Lk ls' nL (am_s1 l i v) := by
  refine ⟨by rw [am_s1_len]; exact h.1, h'.1, h'.2.1, fun q hq => ?_⟩
  obtain ⟨k, w⟩ := q
  obtain ⟨x, hx, rfl⟩ := am_lst_mem.mp hq
  rcases am_s1_get.mp hx with ⟨rfl, -, rfl⟩ | ⟨h1, h2, h3⟩
  · exact h'.2.2 _ List.mem_cons_self
  · refine h'.2.2 _ (List.mem_cons_of_mem _ (List.mem_filter.mpr ⟨am_lst_mem.mpr ⟨x, h2, rfl⟩, ?_⟩))
    have hki : ¬ k = i := fun z => h1 ⟨z, by rw [h.1]; exact hi⟩
    simp only [am_cat_v2, Bool.and_eq_true, Bool.not_eq_true', beq_eq_false_iff_ne, ne_eq, Bool.and_eq_false_iff]
    refine ⟨hki, ?_⟩
    by_cases hz : k + 1 = i
    · exact Or.inr (fun z => h3 ⟨hz, z⟩)
    · exact Or.inl hz
theorem am_Lk_s2 {ls ls' : Array Slot} {nL i : Nat} {l : am_Ls} {v : am_V} (h : am_Lk ls nL l) (h' : lv_has ls' nL ((i, am_v2 v) :: (am_lst l).filter (fun q => !(q.1 == i) && (!(q.1 == i + 1) && !(q.1 + 1 == i && q.2.category == 2))))) (hi : i + 1 < nL) : am_Lk ls' nL (am_s2 l i v) := by
  refine ⟨by rw [am_s2_len]; exact h.1, h'.1, h'.2.1, fun q hq => ?_⟩
  obtain ⟨k, w⟩ := q
  obtain ⟨x, hx, rfl⟩ := am_lst_mem.mp hq
  rcases (am_s2_get (by rw [h.1]; exact hi)).mp hx with ⟨rfl, rfl⟩ | ⟨h0, h1, h2, h3⟩
  · exact h'.2.2 _ List.mem_cons_self
  · refine h'.2.2 _ (List.mem_cons_of_mem _ (List.mem_filter.mpr ⟨am_lst_mem.mpr ⟨x, h2, rfl⟩, ?_⟩))
    simp only [am_cat_v2, Bool.and_eq_true, Bool.not_eq_true', beq_eq_false_iff_ne, ne_eq, Bool.and_eq_false_iff]
    refine ⟨h0, h1, ?_⟩
    by_cases hz : k + 1 = i
    · exact Or.inr (fun z => h3 ⟨hz, z⟩)
    · exact Or.inl hz
theorem am_o_inj {a b : Nat} (h : am_o a = am_o b) : a = b := by
  cases a <;> cases b
  · rfl
  · cases h
  · cases h
  · cases h; rfl
theorem am_gA {a b : am_Ls} {k : Nat} (h : k < a.length) : (a ++ b).getD k none = a.getD k none := by
  rw [List.getD_eq_getElem?_getD, List.getD_eq_getElem?_getD, List.getElem?_append_left h]
theorem am_gB {a b : am_Ls} {k : Nat} (h : a.length ≤ k) : (a ++ b).getD k none = b.getD (k - a.length) none := by
  rw [List.getD_eq_getElem?_getD, List.getD_eq_getElem?_getD, List.getElem?_append_right h]
/-- the locals with which a method begins -/
theorem am_en_get : ∀ (vs : am_Sk) (i : Nat) (pre : am_Ls), pre.length = i → ∀ (k : Nat) (v : am_V), (pre ++ vs.flatMap fun v => if am_cat v = 2 then [some v, none] else [some v]).getD k none = some v → (pre.getD k none = some v) ∨ (k, am_v2 v) ∈ lv_args i (vs.map am_v2)
  | [], i, pre, _, k, v, h => Or.inl (by simpa using h)
  | x :: vs, i, pre, hi, k, v, h => by
    have hc : (am_v2 x).category = am_cat x := am_cat_v2 x
    by_cases h2 : am_cat x = 2
    · have e : pre ++ List.flatMap (fun v => if am_cat v = 2 then [some v, none] else [some v]) (x :: vs) = (pre ++ [some x, none]) ++ List.flatMap (fun v => if am_cat v = 2 then [some v, none] else [some v]) vs := by
        simp [List.flatMap_cons, h2]
      rw [e] at h
      rcases am_en_get vs (i + 2) (pre ++ [some x, none]) (by simp [hi]) k v h with q | q
      · by_cases hk : k < pre.length
        · rw [am_gA hk] at q
          exact Or.inl q
        · rw [am_gB (by omega)] at q
          right
          have hz : k - pre.length = 0 := by
            rcases hd : k - pre.length with _ | _ | n
            · rfl
            · rw [hd] at q; cases q
            · rw [hd] at q; cases q
          rw [hz] at q
          cases q
          have hki : k = i := by omega
          subst hki
          exact List.mem_cons_self
      · right
        show _ ∈ (i, am_v2 x) :: lv_args (if (am_v2 x).category = 2 then i + 2 else i + 1) (vs.map am_v2)
        rw [hc, if_pos h2]
        exact List.mem_cons_of_mem _ q
    · have e : pre ++ List.flatMap (fun v => if am_cat v = 2 then [some v, none] else [some v]) (x :: vs) = (pre ++ [some x]) ++ List.flatMap (fun v => if am_cat v = 2 then [some v, none] else [some v]) vs := by
        simp [List.flatMap_cons, h2]
      rw [e] at h
      rcases am_en_get vs (i + 1) (pre ++ [some x]) (by simp [hi]) k v h with q | q
      · by_cases hk : k < pre.length
        · rw [am_gA hk] at q
          exact Or.inl q
        · rw [am_gB (by omega)] at q
          right
          have hz : k - pre.length = 0 := by
            rcases hd : k - pre.length with _ | n
            · rfl
            · rw [hd] at q; cases q
          rw [hz] at q
          cases q
          have hki : k = i := by omega
          subst hki
          exact List.mem_cons_self
      · right
        show _ ∈ (i, am_v2 x) :: lv_args (if (am_v2 x).category = 2 then i + 2 else i + 1) (vs.map am_v2)
        rw [hc, if_neg h2]
        exact List.mem_cons_of_mem _ q
/-! THE MACHINE DOES WHAT THE ABSTRACT MACHINE DOES -/
/-- what Arrays.copyOf asks of the tables beside words: the mirror of the arrays of objects; getClass is declared -/
def am_getC : MethodName := ⟨"java/lang/Object", "getClass", "()Ljava/lang/Class;"⟩
def am_Kx (U : State) : Prop := (∃ mi : Nat, va_Mi "[Ljava/lang/Object;" mi U) ∧ va_Nw (.declares am_getC) U
def am_Kw (D : va_G) (dA : Nat → ClassId) (U : State) : Prop := va_K D am_cl (am_tys dA) U ∧ (∀ w ∈ am_Tn, va_Nw w U) ∧ (∀ x ∈ am_rc, va_AO (am_an x) U) ∧ am_Kx U
theorem am_Kw_warm {D : va_G} {dA : Nat → ClassId} {s U : State} (hW : s.WarmedH U.vm) (h : am_Kw D dA s) : am_Kw D dA U := by
  refine ⟨va_K.moved hW.alike h.1, fun w hw => ?_, fun x hx => (h.2.2.1 x hx).moved hW.alike, h.2.2.2.1.imp (fun mi q => q.moved hW.alike), va_Nw.warmD hW h.2.2.2.2⟩
  have h1 := h.2.1 w hw
  rcases am_Tn_ok w hw with ⟨a, i, b, n, d, z, rfl⟩ | ⟨a, i, b, z, rfl⟩ | ⟨a, b, rfl⟩
  · exact va_Nw.warmF hW h1
  · exact va_Nw.warmM hW h1
  · exact va_Nw.warmC hW h1
theorem am_Kw_same {D : va_G} {dA : Nat → ClassId} {s U : State} (hv : s.vm = U.vm) (h : am_Kw D dA s) : am_Kw D dA U := by
  have hal : s.vm.Alike U.vm := hv ▸ Vm.Alike.refl s.vm
  refine ⟨va_K.moved hal h.1, fun w hw => ?_, fun x hx => (h.2.2.1 x hx).moved hal, h.2.2.2.1.imp (fun mi q => q.moved hal), va_Nw.same rfl hv h.2.2.2.2⟩
  have h1 := h.2.1 w hw
  rcases am_Tn_ok w hw with ⟨a, i, b, n, d, z, rfl⟩ | ⟨a, i, b, z, rfl⟩ | ⟨a, b, rfl⟩
  · exact va_Nw.same rfl hv h1
  · exact va_Nw.same rfl hv h1
  · exact va_Nw.same rfl hv h1
def am_rm (d mc ms : Nat) : Room := { frames := d + 1, cells := mc, slots := ms, locals := 36 * d + 30 }
def am_Pb (D : va_G) (dA : Nat → ClassId) (B : Nat) (h : am_H) (U : State) : Prop := am_Ok D dA B h U U.heap ∧ B ≤ U.heap.size ∧ am_Kw D dA U
def am_Qb (D : va_G) (dA : Nat → ClassId) (B : Nat) (r : Option am_V) (h' : am_H) : Array Value → State → Outcome → State → Prop := fun _ st o t => o = .returned (r.map am_v2) ∧ am_Ok D dA B h' t t.heap ∧ va_F (fun q => B ≤ q) st t
/-- method 'mid', called with 'as' in h, answers r and leaves h': its contract -/
def am_MX (l : Launch) (D : va_G) (dA : Nat → ClassId) (B d mid : Nat) (as : am_Sk) (h : am_H) (r : Option am_V) (h' : am_H) : Prop := ∀ (y : MethodName) (cc : ByteArray) (mL : Nat) (ret : Option FieldType), am_mi mid = some (y, cc, mL, ret) →
  Met l y (Cond.code y cc mL ret :: am_Tg) (am_rm d (am_C h' - am_C h) (am_S h' - am_S h)) (va_Pc (as.map am_v2) (am_Pb D dA B h)) (am_Qb D dA B r h') (am_C h' - am_C h) (am_S h' - am_S h) (fun q => B ≤ q)
section AMS
variable {p : Program} {l : Launch} {e : Env} {R : Room} {s : State} {m : MethodId} {args : Array Value} {below : List Frame} {meth : Method} {c : Code} {Q : State → Prop} {D : va_G} {dA : Nat → ClassId} {B : Nat}
def am_Fx (p : Program) (s : State) (m : MethodId) (args : Array Value) (meth : Method) (c : Code) (D : va_G) (dA : Nat → ClassId) (B : Nat) (own : String) (cc : ByteArray) (mL : Nat) (ini : Bool) : Prop := p.tables.exec = Jvm.exec ∧ c.code = cc ∧ c.maxLocals = mL ∧ s.vm.findClass own = some m.cls ∧ (∀ w ∈ am_Tg, w.before args s = true) ∧ am_Kw D dA s ∧ (ini = true → meth.name = "<init>") ∧ B ≤ s.heap.size
def am_G (p : Program) (l : Launch) (e : Env) (R : Room) (s : State) (m : MethodId) (args : Array Value) (below : List Frame) (meth : Method) (c : Code) (Q : State → Prop) (D : va_G) (dA : Nat → ClassId) (B mL c0 s0 : Nat) (pc : Nat) (lc : am_Ls) (st : am_Sk) (h : am_H) : Prop :=
  ∀ (H : Heap) (locs : List Loc) (ls : Array Slot) (cells slots : Nat), am_Ok D dA B h s H → va_S (fun q => B ≤ q) s.heap H locs → am_Lk ls mL lc → cells + c0 = am_C h → slots + s0 = am_S h → W p l e R s m args below meth c H locs cells slots Q (F0 m pc ls (st.map am_v2))
/-- behind a call -/
theorem am_w_back {H : Heap} {locs : List Loc} {cells slots mc ms pc : Nat} {ls : Array Slot} {st0 rest : List Value} {rv : Option Value} {Pt : State → Prop} (hr : va_Run p l e R s m args below meth c H locs cells slots mc ms (F0 m pc ls st0) rest (fun st o t => o = .returned rv ∧ Pt t ∧ va_F (fun q => B ≤ q) st t) (fun q => B ≤ q)) (hS : va_S (fun q => B ≤ q) s.heap H locs)
    (kk : ∀ (t : State) (locs1 : List Loc), s.vm.Alike t.vm → Pt t → va_S (fun q => B ≤ q) s.heap t.heap locs1 → W p l e R s m args below meth c t.heap locs1 (cells + mc) (slots + ms) Q (F0 m (pc + 3) ls (rv.toList ++ rest))) : W p l e R s m args below meth c H locs cells slots Q (F0 m pc ls st0) := by
  intro T hT X
  obtain ⟨v, st₀, t, T', L, h0, X', hL, e1, e2, ⟨hv, hp, hz, hk⟩, st⟩ := hr T hT X
  cases hv
  rw [h0] at hz hk
  obtain ⟨t2, a1, b1⟩ := kk t (locs ++ L) (by rw [← e2]; exact X'.warmed.alike) hp
    ⟨Nat.le_trans hS.1 hz, fun q h1 h2 => by rw [hk q (Nat.lt_of_lt_of_le h1 hS.1) h2]; exact hS.2.1 q h1 h2, fun q hq => by
      rcases List.mem_append.mp hq with h | h
      · exact hS.2.2 q h
      · exact hL q h⟩ T' e1 X'
  exact ⟨t2, st t2 a1, b1⟩
theorem am_okF_x {own : String} {idx x y : Nat} (h : am_okF own idx x y = true) : ∃ q, am_cl[x]? = some q ∧ y < q.2.2 ∧ am_fl own idx q y := by
  unfold am_okF at h
  split at h
  · rename_i q hq
    simp only [Bool.and_eq_true, Bool.or_eq_true, decide_eq_true_eq] at h
    refine ⟨q, hq, h.1, ?_⟩
    rcases h.2 with (h2 | h2) | ⟨h2, h3⟩
    · exact Or.inl (am_iF h2)
    · exact Or.inr (Or.inl ⟨_, h2⟩)
    · exact Or.inr (Or.inr ⟨_, am_iF h2, am_iI h3⟩)
  · cases h
theorem am_okN_x {own : String} {idx x y : Nat} {ini : Bool} {q : vw_C} {meth : Method} (hq : am_cl[x]? = some q) (h : am_okN own idx ini x y = true) (hini : ini = true → meth.name = "<init>") : (q.2.1 y).2.2.2 = true → meth.name = "<init>" ∧ (q.2.1 y).1 = own ∧ Cond.fieldLink own idx (q.2.1 y).1 (q.2.1 y).2.1 (q.2.1 y).2.2.1 ∈ am_Tg := by
  intro hf
  unfold am_okN at h
  rw [hq] at h
  simp only [hf, Bool.not_true, Bool.false_or, Bool.and_eq_true, decide_eq_true_eq] at h
  exact ⟨hini h.1.1, h.1.2, am_iF h.2⟩
theorem am_recv {H : Heap} {h : am_H} {a x : Nat} {q : vw_C} (hK : va_K D am_cl (am_tys dA) s) (hO : am_Ok D dA B h s H) (hr : am_T h (a + 1) = 10 + x) (hq : am_cl[x]? = some q) : ∃ cell : Cell, H[a]? = some cell ∧ cell.vm.isStatics = false ∧ s.vm.findClass q.1 = some cell.cls := by
  obtain ⟨a', e9, L, k, hL, hP, hD, ha, hk⟩ := am_pos hO (r := a + 1) (by unfold am_ow; omega)
  cases e9
  rw [am_e_o hr (am_cok hq).2] at hk
  exact va_recv hK hP hq hk
theorem am_okM_x {x y u : Nat} (h : am_okM x y u = true) : ∃ w cc mL ret, am_mi x = some (w, cc, mL, ret) ∧ Cond.code w cc mL ret ∈ am_Tg ∧ Cond.initialized w.cls ∈ am_Tg ∧ (w.cls ≠ "java/lang/invoke/MethodHandle" ∧ w.cls ≠ "java/lang/invoke/VarHandle") ∧ (parseMethodDescriptor w.desc).map (fun d => d.parameters.length) = some y ∧ am_uk ret = u ∧ am_ml x = mL ∧ mL ≤ 17 := by
  unfold am_okM at h
  simp only [Bool.and_eq_true] at h
  obtain ⟨h0, h⟩ := h
  split at h
  · rename_i w cc mL ret hq
    simp only [Bool.and_eq_true, decide_eq_true_eq] at h
    obtain ⟨⟨⟨h4, h5⟩, h6⟩, h7⟩ := h
    obtain ⟨h1, h2, h3⟩ := am_mok_x h0 hq
    exact ⟨w, cc, mL, ret, hq, h1, h2, h3, h4, h5, h6, h7⟩
  · cases h
theorem am_good {y : MethodName} {cc : ByteArray} {mL : Nat} {ret : Option FieldType} (h : Cond.code y cc mL ret ∈ am_Tg) : GoodIn am_Tg (Cond.code y cc mL ret :: am_Tg) := by
  intro w hw
  rcases List.mem_cons.mp hw with rfl | hw
  · exact ⟨h, am_Tg_ok _ h⟩
  · exact ⟨hw, am_Tg_ok _ hw⟩
theorem am_v2_map (r : Option am_V) (rest : am_Sk) : (r.map am_v2).toList ++ rest.map am_v2 = (r.toList ++ rest).map am_v2 := by cases r <;> rfl
theorem am_cat_sum (st : am_Sk) : ((st.map am_v2).map fun v => v.category).sum = (st.map am_cat).sum := by
  rw [List.map_map]
  congr 1
  apply List.map_congr_left
  intro v _
  exact am_cat_v2 v
/-- the words and the room of a call -/
theorem am_cB {own : String} {idx x y u d : Nat} {w : MethodName} {cc : ByteArray} {mL : Nat} {ret : Option FieldType} {mc ms : Nat} (hts : ∀ w ∈ am_Tg, w.before args s = true) (hmi : am_mi x = some (w, cc, mL, ret)) (hcode : Cond.code w cc mL ret ∈ am_Tg) (hini : Cond.initialized w.cls ∈ am_Tg) (hmh : w.cls ≠ "java/lang/invoke/MethodHandle" ∧ w.cls ≠ "java/lang/invoke/VarHandle") (hpd : (parseMethodDescriptor w.desc).map (fun d => d.parameters.length) = some y) (hmL : mL ≤ 17) (hRf : d + 2 ≤ R.frames ∧ 36 * d + 66 ≤ R.locals) (hlk : Cond.methodLink own idx w ∈ am_Tg) :
    CallB R s args own idx w cc mL ret (Cond.code w cc mL ret :: am_Tg) (am_rm d mc ms) mc ms y :=
  callB_of y hts (am_good hcode) rfl rfl rfl (hts _ hini) (hts _ hlk) ⟨hmh.1, hmh.2, hpd⟩ ⟨by show d + 1 + 1 ≤ _; omega, by show 8 + (mL + 11) + (36 * d + 30) ≤ _; omega⟩
theorem am_cN {own : String} {idx x y u d : Nat} {w : MethodName} {cc : ByteArray} {mL : Nat} {ret : Option FieldType} {mc ms : Nat} (hts : ∀ w ∈ am_Tg, w.before args s = true) (hN : ∀ w ∈ am_Tn, va_Nw w s) (hmi : am_mi x = some (w, cc, mL, ret)) (hcode : Cond.code w cc mL ret ∈ am_Tg) (hini : Cond.initialized w.cls ∈ am_Tg) (hmh : w.cls ≠ "java/lang/invoke/MethodHandle" ∧ w.cls ≠ "java/lang/invoke/VarHandle") (hpd : (parseMethodDescriptor w.desc).map (fun d => d.parameters.length) = some y) (hmL : mL ≤ 17) (hRf : d + 2 ≤ R.frames ∧ 36 * d + 66 ≤ R.locals) (hlk : Cond.methodLinkNest own idx w am_host ∈ am_Tn) :
    va_CN R s args own idx w am_host cc mL ret (Cond.code w cc mL ret :: am_Tg) (am_rm d mc ms) mc ms y :=
  va_cnB y hts (am_good hcode) rfl rfl rfl (hN _ hlk) (hts _ hini) ⟨hmh.1, hmh.2, hpd⟩ ⟨by show d + 1 + 1 ≤ _; omega, by show 8 + (mL + 11) + (36 * d + 30) ≤ _; omega⟩
theorem am_blind {D : va_G} {dA : Nat → ClassId} {B : Nat} {as : am_Sk} {h : am_H} : FrameBlind (va_Pc (as.map am_v2) (am_Pb D dA B h)) := by
  intro a U g mk q
  obtain ⟨q0, q1, q2, q3⟩ := q
  exact ⟨q0, am_Ok_moved (u := U) (U := U.calling g mk a) (Vm.Alike.refl U.vm) q1, q2, am_Kw_same (s := U) (U := U.calling g mk a) rfl q3⟩
theorem am_pre {H : Heap} {h : am_H} {locs : List Loc} {as : am_Sk} (hKw : am_Kw D dA s) (hB : B ≤ s.heap.size) (hO : am_Ok D dA B h s H) (hS : va_S (fun q => B ≤ q) s.heap H locs) (U : State) (hU : U.heap = H) (hW : s.WarmedH U.vm) : va_Pc (as.map am_v2) (am_Pb D dA B h) (as.map am_v2).toArray U :=
  ⟨rfl, by rw [hU]; exact am_Ok_moved hW.alike hO, by rw [hU]; exact Nat.le_trans hB hS.1, am_Kw_warm hW hKw⟩
/-- what comes behind a call, whatever its kind -/
theorem am_w_after {mL c0 s0 pc u : Nat} {lc : am_Ls} {rest : am_Sk} {h h1 : am_H} {r : Option am_V} {H : Heap} {locs : List Loc} {ls : Array Slot} {cells slots : Nat} {st0 : List Value} {a9 : Array Value} (hS : va_S (fun q => B ≤ q) s.heap H locs) (hl : am_Lk ls mL lc) (hc : cells + c0 = am_C h) (hs : slots + s0 = am_S h) (hle : am_C h ≤ am_C h1 ∧ am_S h ≤ am_S h1 ∧ am_C h1 ≤ c0 + R.cells ∧ am_S h1 ≤ s0 + R.slots)
    (H9 : am_rk u rest r (fun st' => am_G p l e R s m args below meth c Q D dA B mL c0 s0 (pc + 3) lc st' h1))
    (hr : va_Run p l e R s m args below meth c H locs cells slots (am_C h1 - am_C h) (am_S h1 - am_S h) (F0 m pc ls st0) (rest.map am_v2) (am_Qb D dA B r h1 a9) (fun q => B ≤ q)) : W p l e R s m args below meth c H locs cells slots Q (F0 m pc ls st0) := by
  refine am_w_back (rv := r.map am_v2) (Pt := fun t => am_Ok D dA B h1 t t.heap) hr hS (fun t locs1 hal hO1 hS1 => ?_)
  have hG : am_G p l e R s m args below meth c Q D dA B mL c0 s0 (pc + 3) lc (r.toList ++ rest) h1 := by
    unfold am_rk at H9
    split at H9
    · obtain ⟨rfl, H9⟩ := H9; exact H9
    · obtain ⟨x, rfl, H9⟩ := H9; exact H9
    · obtain ⟨x, rfl, H9⟩ := H9; exact H9
    · obtain ⟨x, rfl, H9⟩ := H9; exact H9
  rw [am_v2_map]
  exact hG _ _ _ _ _ (am_Ok_moved hal.symm hO1) hS1 hl (by omega) (by omega)
theorem am_w_callV {own : String} {cc : ByteArray} {mL c0 s0 pc idx x y z u d a : Nat} {lc : am_Ls} {as rest : am_Sk} {h h1 : am_H} {r : Option am_V} {H : Heap} {locs : List Loc} {ls : Array Slot} {cells slots : Nat} (hx : p.tables.exec = Jvm.exec) (hb : c.code = cc) (hml : c.maxLocals = mL) (hown : s.vm.findClass own = some m.cls) (hts : ∀ w ∈ am_Tg, w.before args s = true) (hKw : am_Kw D dA s) (hB : B ≤ s.heap.size) (hO : am_Ok D dA B h s H) (hS : va_S (fun q => B ≤ q) s.heap H locs) (hl : am_Lk ls mL lc) (hc : cells + c0 = am_C h) (hs : slots + s0 = am_S h)
    (hd : decode cc pc = .ok (.invokevirtual idx, 3)) (hok : am_okV own idx x y z u = true) (hn : as.length = y) (g : am_T h a = 10 + z) (hsz : (rest.map am_cat).sum ≤ 8 ∧ 1 + ((as ++ []).map am_cat).sum ≤ am_ml x) (hM : am_MX l D dA B d x (.inr (.inr a) :: (as ++ [])) h r h1) (hRf : d + 2 ≤ R.frames ∧ 36 * d + 66 ≤ R.locals) (hle : am_C h ≤ am_C h1 ∧ am_S h ≤ am_S h1 ∧ am_C h1 ≤ c0 + R.cells ∧ am_S h1 ≤ s0 + R.slots)
    (H9 : am_rk u rest r (fun st' => am_G p l e R s m args below meth c Q D dA B mL c0 s0 (pc + 3) lc st' h1)) : W p l e R s m args below meth c H locs cells slots Q (F0 m pc ls ((as.reverse ++ .inr (.inr a) :: rest).map am_v2)) := by
  unfold am_okV at hok
  simp only [Bool.and_eq_true] at hok
  obtain ⟨⟨⟨hokM, hokL⟩, hokV⟩, hok⟩ := hok
  obtain ⟨w, cw, mw, rw_, hmi, hcode, hini, hmh, hpd, huk, hmlx, hmL⟩ := am_okM_x hokM
  simp only [am_okL, hmi, Bool.or_eq_true, decide_eq_true_eq] at hokL
  simp only [hmi, Bool.and_eq_true, decide_eq_true_eq] at hok
  obtain ⟨hin, hsel⟩ := am_mov_x hokV hmi
  obtain ⟨hz, hcn⟩ := hok
  have hq : am_cl[z]? = some am_cl[z] := List.getElem?_eq_getElem hz
  rw [am_cn_of hq] at hcn
  cases a with
  | zero => rw [hO.1] at g; omega
  | succ a =>
    rw [List.append_nil] at hM hsz
    refine am_w_after (rest := rest) hS hl hc hs hle H9 (a9 := (Value.ref a :: as.map am_v2).toArray) ?_
    have hstk : ((as.reverse ++ .inr (.inr (a + 1)) :: rest).map am_v2) = (as.map am_v2).reverse ++ .ref a :: rest.map am_v2 := by
      rw [List.map_append, List.map_cons, List.map_reverse]; rfl
    have hpre : PreV s H w.cls a (va_Pc ((Sum.inr (Sum.inr (a + 1)) :: as : am_Sk).map am_v2) (am_Pb D dA B h)) (as.map am_v2) := by
      refine ⟨am_blind, ?_, fun U hU hW => am_pre hKw hB hO hS U hU hW⟩
      rw [← hcn]
      exact am_recv hKw.1 hO g hq
    rcases hokL with hlk | hlk
    · have hlk := am_iM hlk
      exact va_runV (Ts := am_Tg) ⟨hx, hb, hml, hown, hts⟩ (hM w cw mw rw_ hmi) ⟨am_cB (u := u) hts hmi hcode hini hmh hpd hmL hRf hlk, hts _ hin, hts _ hsel⟩ hpre rfl (by rw [List.length_map]; exact hn) hl.2.1 hstk (lv_room (by rw [am_cat_sum]; exact hsz.1)) hd ⟨by omega, by omega⟩
    · exact va_runVN (Ts := am_Tg) ⟨hx, hb, hml, hown, hts⟩ (hM w cw mw rw_ hmi) ⟨am_cN (u := u) hts hKw.2.1 hmi hcode hini hmh hpd hmL hRf hlk, hts _ hin, hts _ hsel⟩ hpre rfl (by rw [List.length_map]; exact hn) hl.2.1 hstk (lv_room (by rw [am_cat_sum]; exact hsz.1)) hd ⟨by omega, by omega⟩
theorem am_w_callI {own : String} {cc : ByteArray} {mL c0 s0 pc idx x y u d a : Nat} {lc : am_Ls} {as rest : am_Sk} {h h1 : am_H} {r : Option am_V} {H : Heap} {locs : List Loc} {ls : Array Slot} {cells slots : Nat} (hx : p.tables.exec = Jvm.exec) (hb : c.code = cc) (hml : c.maxLocals = mL) (hown : s.vm.findClass own = some m.cls) (hts : ∀ w ∈ am_Tg, w.before args s = true) (hKw : am_Kw D dA s) (hB : B ≤ s.heap.size) (hO : am_Ok D dA B h s H) (hS : va_S (fun q => B ≤ q) s.heap H locs) (hl : am_Lk ls mL lc) (hc : cells + c0 = am_C h) (hs : slots + s0 = am_S h)
    (hd : decode cc pc = .ok (.invokespecial idx, 3)) (hok : am_okI own idx x y u = true) (hn : as.length = y) (g : ¬ a = 0) (hsz : (rest.map am_cat).sum ≤ 8 ∧ 1 + ((as ++ []).map am_cat).sum ≤ am_ml x) (hM : am_MX l D dA B d x (.inr (.inr a) :: (as ++ [])) h r h1) (hRf : d + 2 ≤ R.frames ∧ 36 * d + 66 ≤ R.locals) (hle : am_C h ≤ am_C h1 ∧ am_S h ≤ am_S h1 ∧ am_C h1 ≤ c0 + R.cells ∧ am_S h1 ≤ s0 + R.slots)
    (H9 : am_rk u rest r (fun st' => am_G p l e R s m args below meth c Q D dA B mL c0 s0 (pc + 3) lc st' h1)) : W p l e R s m args below meth c H locs cells slots Q (F0 m pc ls ((as.reverse ++ .inr (.inr a) :: rest).map am_v2)) := by
  unfold am_okI at hok
  simp only [Bool.and_eq_true] at hok
  obtain ⟨⟨hokM, hokL⟩, hok⟩ := hok
  obtain ⟨w, cw, mw, rw_, hmi, hcode, hini, hmh, hpd, huk, hmlx, hmL⟩ := am_okM_x hokM
  simp only [am_okL, hmi, Bool.or_eq_true, decide_eq_true_eq] at hokL
  obtain ⟨hin, hnm, rfl⟩ := am_moi_x hok hmi
  cases a with
  | zero => exact absurd rfl g
  | succ a =>
    rw [List.append_nil] at hM hsz
    refine am_w_after (rest := rest) hS hl hc hs hle H9 (a9 := (Value.ref a :: as.map am_v2).toArray) ?_
    have hstk : ((as.reverse ++ .inr (.inr (a + 1)) :: rest).map am_v2) = (as.map am_v2).reverse ++ .ref a :: rest.map am_v2 := by
      rw [List.map_append, List.map_cons, List.map_reverse]; rfl
    have hpre : PreS s H (va_Pc ((Sum.inr (Sum.inr (a + 1)) :: as : am_Sk).map am_v2) (am_Pb D dA B h)) (.ref a :: as.map am_v2) := ⟨am_blind, fun U hU hW => am_pre hKw hB hO hS U hU hW⟩
    rcases hokL with hlk | hlk
    · have hlk := am_iM hlk
      exact va_runI (Ts := am_Tg) ⟨hx, hb, hml, hown, hts⟩ (hM w cw mw none hmi) ⟨am_cB (u := u) hts hmi hcode hini hmh hpd hmL hRf hlk, hnm, hts _ hin⟩ hpre rfl (by rw [List.length_map]; exact hn) hl.2.1 hstk (lv_room (by rw [am_cat_sum]; exact hsz.1)) hd ⟨by omega, by omega⟩
    · exact va_runIN (Ts := am_Tg) ⟨hx, hb, hml, hown, hts⟩ (hM w cw mw none hmi) ⟨am_cN (u := u) hts hKw.2.1 hmi hcode hini hmh hpd hmL hRf hlk, hnm, hts _ hin⟩ hpre rfl (by rw [List.length_map]; exact hn) hl.2.1 hstk (lv_room (by rw [am_cat_sum]; exact hsz.1)) hd ⟨by omega, by omega⟩
theorem am_w_callS {own : String} {cc : ByteArray} {mL c0 s0 pc idx x y u d : Nat} {lc : am_Ls} {as rest : am_Sk} {h h1 : am_H} {r : Option am_V} {H : Heap} {locs : List Loc} {ls : Array Slot} {cells slots : Nat} (hx : p.tables.exec = Jvm.exec) (hb : c.code = cc) (hml : c.maxLocals = mL) (hown : s.vm.findClass own = some m.cls) (hts : ∀ w ∈ am_Tg, w.before args s = true) (hKw : am_Kw D dA s) (hB : B ≤ s.heap.size) (hO : am_Ok D dA B h s H) (hS : va_S (fun q => B ≤ q) s.heap H locs) (hl : am_Lk ls mL lc) (hc : cells + c0 = am_C h) (hs : slots + s0 = am_S h)
    (hd : decode cc pc = .ok (.invokestatic idx, 3)) (hok : am_okS own idx x y u = true) (hn : as.length = y) (hsz : (rest.map am_cat).sum ≤ 8 ∧ ((as ++ []).map am_cat).sum ≤ am_ml x) (hM : am_MX l D dA B d x (as ++ []) h r h1) (hRf : d + 2 ≤ R.frames ∧ 36 * d + 66 ≤ R.locals) (hle : am_C h ≤ am_C h1 ∧ am_S h ≤ am_S h1 ∧ am_C h1 ≤ c0 + R.cells ∧ am_S h1 ≤ s0 + R.slots)
    (H9 : am_rk u rest r (fun st' => am_G p l e R s m args below meth c Q D dA B mL c0 s0 (pc + 3) lc st' h1)) : W p l e R s m args below meth c H locs cells slots Q (F0 m pc ls ((as.reverse ++ rest).map am_v2)) := by
  unfold am_okS at hok
  simp only [Bool.and_eq_true] at hok
  obtain ⟨⟨hokM, hokL⟩, hok⟩ := hok
  obtain ⟨w, cw, mw, rw_, hmi, hcode, hini, hmh, hpd, huk, hmlx, hmL⟩ := am_okM_x hokM
  simp only [am_okL, hmi, Bool.or_eq_true, decide_eq_true_eq] at hokL
  have hok := am_mos_x hok hmi
  rw [List.append_nil] at hM hsz
  refine am_w_after (rest := rest) hS hl hc hs hle H9 (a9 := (as.map am_v2).toArray) ?_
  have hstk : ((as.reverse ++ rest).map am_v2) = (as.map am_v2).reverse ++ rest.map am_v2 := by
    rw [List.map_append, List.map_reverse]
  have hpre : PreS s H (va_Pc (as.map am_v2) (am_Pb D dA B h)) (as.map am_v2) := ⟨am_blind, fun U hU hW => am_pre hKw hB hO hS U hU hW⟩
  rcases hokL with hlk | hlk
  · have hlk := am_iM hlk
    exact va_runS (Ts := am_Tg) ⟨hx, hb, hml, hown, hts⟩ (hM w cw mw rw_ hmi) ⟨am_cB (u := u) hts hmi hcode hini hmh hpd hmL hRf hlk, hts _ hok⟩ hpre rfl (by rw [List.length_map]; exact hn) hl.2.1 hstk (lv_room (by rw [am_cat_sum]; exact hsz.1)) hd ⟨by omega, by omega⟩
  · exact va_runSN (Ts := am_Tg) ⟨hx, hb, hml, hown, hts⟩ (hM w cw mw rw_ hmi) ⟨am_cN (u := u) hts hKw.2.1 hmi hcode hini hmh hpd hmL hRf hlk, hts _ hok, trivial⟩ hpre rfl (by rw [List.length_map]; exact hn) hl.2.1 hstk (lv_room (by rw [am_cat_sum]; exact hsz.1)) hd ⟨by omega, by omega⟩
theorem am_w_objInit {own : String} {cc : ByteArray} {mL pc idx y a : Nat} {lc : am_Ls} {as rest : am_Sk} {H : Heap} {locs : List Loc} {ls : Array Slot} {cells slots : Nat} (hx : p.tables.exec = Jvm.exec) (hb : c.code = cc) (hml : c.maxLocals = mL) (hown : s.vm.findClass own = some m.cls) (hts : ∀ w ∈ am_Tg, w.before args s = true) (hl : am_Lk ls mL lc) (hd : decode cc pc = .ok (.invokespecial idx, 3)) (hok : am_okO own idx y = true) (hn : as.length = y) (g : ¬ a = 0) (hsz : (rest.map am_cat).sum ≤ 8) (hRm : 1 ≤ R.frames ∧ 23 ≤ R.locals)
    (kk : W p l e R s m args below meth c H locs cells slots Q (F0 m (pc + 3) ls (rest.map am_v2))) : W p l e R s m args below meth c H locs cells slots Q (F0 m pc ls ((as.reverse ++ .inr (.inr a) :: rest).map am_v2)) := by
  simp only [am_okO, Bool.and_eq_true, decide_eq_true_eq] at hok
  obtain ⟨rfl, w1⟩ := hok
  have w1 := am_iM w1
  have w2 := am_obj.1
  have w3 := am_obj.2
  have has : as = [] := List.eq_nil_of_length_eq_zero hn
  subst has
  cases a with
  | zero => exact absurd rfl g
  | succ a =>
    refine W.objInit hx hb hown (hts _ w1) (hts _ w2) (hts _ w3) rfl (by rw [hml]; exact hl.2.1) rfl hd hRm.1 ?_ kk
    have h8 := lv_room (m := m) (pc := pc) (ls := ls) (rest := rest.map am_v2) (st := rest.map am_v2) (by rw [am_cat_sum]; exact hsz)
    exact Nat.le_trans (Nat.add_le_add_right h8 12) (Nat.le_trans (by omega) hRm.2)
theorem am_w_mth {own : String} {cc : ByteArray} {mL pc idx z : Nat} {lc : am_Ls} {st : am_Sk} {H : Heap} {locs : List Loc} {ls : Array Slot} {cells slots : Nat} {k : am_Sk → Prop} (hx : p.tables.exec = Jvm.exec) (hb : c.code = cc) (hml : c.maxLocals = mL) (hown : s.vm.findClass own = some m.cls) (hts : ∀ w ∈ am_Tg, w.before args s = true) (hl : am_Lk ls mL lc) (hd : decode cc pc = .ok (.invokestatic idx, 3)) (hok : am_okH own idx z = true) (hRm : 1 ≤ R.frames ∧ 23 ≤ R.locals) (H9 : am_mth z st k)
    (kk : ∀ st', k st' → cells ≤ R.cells ∧ slots ≤ R.slots ∧ W p l e R s m args below meth c H locs cells slots Q (F0 m (pc + 3) ls (st'.map am_v2))) : W p l e R s m args below meth c H locs cells slots Q (F0 m pc ls (st.map am_v2)) := by
  simp only [am_okH, decide_eq_true_eq] at hok
  have hlk := hts _ (am_iM hok)
  have hmx : c.maxLocals = ls.size := by rw [hml]; exact hl.2.1.symm
  have hin := hts _ am_math.1
  unfold am_mth at H9
  split at H9
  · obtain ⟨a, b, st', hst, H2⟩ := am_p2I_x H9
    subst hst
    split at H2
    · rename_i hs
      obtain ⟨h1, h2, h3⟩ := kk _ H2
      exact va_mmax hx hb hmx hown hlk (hts _ am_math.2.1) hin (hts _ am_math.2.2.1) hRm.1 (by rw [am_cat_sum]; omega) h1 h2 hd h3
    · exact H2.elim
  · obtain ⟨a, b, st', hst, H2⟩ := am_p2I_x H9
    subst hst
    split at H2
    · rename_i hs
      obtain ⟨h1, h2, h3⟩ := kk _ H2
      exact va_mmin hx hb hmx hown hlk (hts _ am_math.2.2.2.1) hin (hts _ am_math.2.2.2.2.1) hRm.1 (by rw [am_cat_sum]; omega) h1 h2 hd h3
    · exact H2.elim
  · obtain ⟨a, b, st', hst, H2⟩ := am_p2J_x H9
    subst hst
    split at H2
    · rename_i hs
      obtain ⟨h1, h2, h3⟩ := kk _ H2
      exact va_mmax_long hx hb hmx hown hlk (hts _ am_math.2.2.2.2.2.1) hin (hts _ am_math.2.2.2.2.2.2.1) hRm.1 (by rw [am_cat_sum]; omega) h1 h2 hd h3
    · exact H2.elim
  · obtain ⟨a, b, st', hst, H2⟩ := am_p2J_x H9
    subst hst
    split at H2
    · rename_i hs
      obtain ⟨h1, h2, h3⟩ := kk _ H2
      exact va_mmin_long hx hb hmx hown hlk (hts _ am_math.2.2.2.2.2.2.2.1) hin (hts _ am_math.2.2.2.2.2.2.2.2) hRm.1 (by rw [am_cat_sum]; omega) h1 h2 hd h3
    · exact H2.elim
  · exact H9.elim
set_option maxHeartbeats 16000000 in
theorem am_step {own : String} {cc : ByteArray} {mL : Nat} {ini : Bool} {ret : Option FieldType} {c0 s0 pc : Nat} {q : am_E} {lc : am_Ls} {st : am_Sk} {h : am_H} (F : am_Fx p s m args meth c D dA B own cc mL ini) (hRm : 1 ≤ R.frames ∧ 23 ≤ R.locals) (hok : am_okE own cc mL ini ret pc q = true)
    (H : am_cps pc q lc st h (fun pc lc st h => am_C h ≤ c0 + R.cells ∧ am_S h ≤ s0 + R.slots ∧ am_G p l e R s m args below meth c Q D dA B mL c0 s0 pc lc st h) (fun _ => False)
      (fun m' as rest => ∃ d r h1, am_MX l D dA B d m' as h r h1 ∧ (d + 2 ≤ R.frames ∧ 36 * d + 66 ≤ R.locals) ∧ (am_C h ≤ am_C h1 ∧ am_S h ≤ am_S h1 ∧ am_C h1 ≤ c0 + R.cells ∧ am_S h1 ≤ s0 + R.slots) ∧ am_rk q.2.2.2.2.1 rest r (fun st' => am_G p l e R s m args below meth c Q D dA B mL c0 s0 (pc + 3) lc st' h1))) :
    am_G p l e R s m args below meth c Q D dA B mL c0 s0 pc lc st h := by
  obtain ⟨hx, hb, hml, hown, hts, hKw, hini, hB⟩ := F
  obtain ⟨i, x, y, z, u, cI, cJ, ts⟩ := q
  intro HH locs ls cells slots hO hS hl hc hs
  cases i <;> simp only [am_cps] at H <;> simp only [am_okE, Bool.and_eq_true, decide_eq_true_eq] at hok
  case aconst_null =>
    obtain ⟨-, -, kG⟩ := H
    exact lv_null hx hb hok (kG _ _ _ _ _ hO hS hl hc hs)
  case iconst n =>
    obtain ⟨-, -, kG⟩ := H
    exact lv_iconst hx hb hok.1 hok.2 (kG _ _ _ _ _ hO hS hl hc hs)
  case bipush n =>
    obtain ⟨-, -, kG⟩ := H
    exact lv_bipush hx hb hok.1 hok.2 (kG _ _ _ _ _ hO hS hl hc hs)
  case sipush n =>
    obtain ⟨-, -, kG⟩ := H
    exact lv_sipush hx hb hok.1 hok.2 (kG _ _ _ _ _ hO hS hl hc hs)
  case lconst n =>
    obtain ⟨-, -, kG⟩ := H
    exact lv_lconst hx hb hok.1 hok.2 (kG _ _ _ _ _ hO hS hl hc hs)
  case ldc n =>
    obtain ⟨-, -, kG⟩ := H
    exact lv_ldc hx hb hown (hts _ (am_iC hok.2)) hok.1 (kG _ _ _ _ _ hO hS hl hc hs)
  case ldc2_w n =>
    obtain ⟨-, -, kG⟩ := H
    exact lv_ldc2 hx hb hown (hts _ (am_iC hok.2)) hok.1 (kG _ _ _ _ _ hO hS hl hc hs)
  case iload_n n =>
    obtain ⟨v, e9, -, -, kG⟩ := am_lI_x H
    exact lv_iload_n hx hb hok.1 hok.2 (am_Lk_at hl e9) (kG _ _ _ _ _ hO hS hl hc hs)
  case iload n =>
    obtain ⟨v, e9, -, -, kG⟩ := am_lI_x H
    obtain ⟨hd, rfl⟩ := hok
    exact lv_iload hx hb hd (am_Lk_at hl e9) (kG _ _ _ _ _ hO hS hl hc hs)
  case lload_n n =>
    obtain ⟨v, e9, -, -, kG⟩ := am_lJ_x H
    exact lv_lload_n hx hb hok.1 hok.2 (am_Lk_at hl e9) (kG _ _ _ _ _ hO hS hl hc hs)
  case lload n =>
    obtain ⟨v, e9, -, -, kG⟩ := am_lJ_x H
    obtain ⟨hd, rfl⟩ := hok
    exact lv_lload hx hb hd (am_Lk_at hl e9) (kG _ _ _ _ _ hO hS hl hc hs)
  case aload_n n =>
    obtain ⟨v, e9, -, -, kG⟩ := am_lR_x H
    have e8 := am_Lk_at hl e9
    cases v with
    | zero => exact lv_aload_nN hx hb hok.1 hok.2 e8 (kG _ _ _ _ _ hO hS hl hc hs)
    | succ a => exact lv_aload_n hx hb hok.1 hok.2 e8 (kG _ _ _ _ _ hO hS hl hc hs)
  case aload n =>
    obtain ⟨v, e9, -, -, kG⟩ := am_lR_x H
    obtain ⟨hd, rfl⟩ := hok
    have e8 := am_Lk_at hl e9
    cases v with
    | zero => exact lv_aloadN hx hb hd e8 (kG _ _ _ _ _ hO hS hl hc hs)
    | succ a => exact lv_aload hx hb hd e8 (kG _ _ _ _ _ hO hS hl hc hs)
  case istore_n n =>
    obtain ⟨a, st', rfl, -, -, kG⟩ := am_p1I_x H
    obtain ⟨⟨hd, rfl⟩, hlt⟩ := hok
    exact lv_istore_n hx hb hd rfl hl.2 hlt rfl (fun ls' h' => kG _ _ _ _ _ hO hS (am_Lk_s1 (v := .inl a) hl h' hlt) hc hs)
  case istore n =>
    obtain ⟨a, st', rfl, -, -, kG⟩ := am_p1I_x H
    obtain ⟨⟨hd, rfl⟩, hlt⟩ := hok
    exact lv_istore hx hb hd hl.2 hlt rfl (fun ls' h' => kG _ _ _ _ _ hO hS (am_Lk_s1 (v := .inl a) hl h' hlt) hc hs)
  case lstore_n n =>
    obtain ⟨a, st', rfl, -, -, kG⟩ := am_p1J_x H
    obtain ⟨⟨hd, rfl⟩, hlt⟩ := hok
    exact lv_lstore_n hx hb hd rfl hl.2 hlt rfl (fun ls' h' => kG _ _ _ _ _ hO hS (am_Lk_s2 (v := .inr (.inl a)) hl h' hlt) hc hs)
  case lstore n =>
    obtain ⟨a, st', rfl, -, -, kG⟩ := am_p1J_x H
    obtain ⟨⟨hd, rfl⟩, hlt⟩ := hok
    exact lv_lstore hx hb hd hl.2 hlt rfl (fun ls' h' => kG _ _ _ _ _ hO hS (am_Lk_s2 (v := .inr (.inl a)) hl h' hlt) hc hs)
  case astore_n n =>
    obtain ⟨a, st', rfl, -, -, kG⟩ := am_p1R_x H
    obtain ⟨⟨hd, rfl⟩, hlt⟩ := hok
    cases a with
    | zero => exact lv_astore_nN hx hb hd rfl hl.2 hlt rfl (fun ls' h' => kG _ _ _ _ _ hO hS (am_Lk_s1 (v := .inr (.inr 0)) hl h' hlt) hc hs)
    | succ a => exact lv_astore_n hx hb hd rfl hl.2 hlt rfl (fun ls' h' => kG _ _ _ _ _ hO hS (am_Lk_s1 (v := .inr (.inr (a + 1))) hl h' hlt) hc hs)
  case astore n =>
    obtain ⟨a, st', rfl, -, -, kG⟩ := am_p1R_x H
    obtain ⟨⟨hd, rfl⟩, hlt⟩ := hok
    cases a with
    | zero => exact lv_astoreN hx hb hd hl.2 hlt rfl (fun ls' h' => kG _ _ _ _ _ hO hS (am_Lk_s1 (v := .inr (.inr 0)) hl h' hlt) hc hs)
    | succ a => exact lv_astore hx hb hd hl.2 hlt rfl (fun ls' h' => kG _ _ _ _ _ hO hS (am_Lk_s1 (v := .inr (.inr (a + 1))) hl h' hlt) hc hs)
  case iinc n k =>
    obtain ⟨v, e9, -, -, kG⟩ := am_lI_x H
    obtain ⟨⟨⟨hd, rfl⟩, hv⟩, hlt⟩ := hok
    obtain ⟨j, hj⟩ := List.getElem?_of_mem (am_lst_mem.mpr ⟨_, e9, rfl⟩)
    exact lv_iinc hx hb hd hl.2 hj (by rw [hv]) hlt rfl (fun ls' h' => kG _ _ _ _ _ hO hS (am_Lk_s1 (v := .inl (v + cI)) hl h' hlt) hc hs)
  case iadd =>
    obtain ⟨a, b, st', rfl, -, -, kG⟩ := am_p2I_x H
    exact lv_iadd hx hb hok (kG _ _ _ _ _ hO hS hl hc hs)
  case isub =>
    obtain ⟨a, b, st', rfl, -, -, kG⟩ := am_p2I_x H
    exact lv_isub hx hb hok (kG _ _ _ _ _ hO hS hl hc hs)
  case imul =>
    obtain ⟨a, b, st', rfl, -, -, kG⟩ := am_p2I_x H
    exact lv_imul hx hb hok (kG _ _ _ _ _ hO hS hl hc hs)
  case ishr =>
    obtain ⟨a, b, st', rfl, -, -, kG⟩ := am_p2I_x H
    exact lv_ishr hx hb hok (kG _ _ _ _ _ hO hS hl hc hs)
  case iand =>
    obtain ⟨a, b, st', rfl, -, -, kG⟩ := am_p2I_x H
    exact lv_iand hx hb hok (kG _ _ _ _ _ hO hS hl hc hs)
  case idiv =>
    obtain ⟨a, b, st', rfl, g, -, -, kG⟩ := am_p2I_x H
    exact lv_idiv hx hb hok g (kG _ _ _ _ _ hO hS hl hc hs)
  case irem =>
    obtain ⟨a, b, st', rfl, g, -, -, kG⟩ := am_p2I_x H
    exact lv_irem hx hb hok g (kG _ _ _ _ _ hO hS hl hc hs)
  case ladd =>
    obtain ⟨a, b, st', rfl, -, -, kG⟩ := am_p2J_x H
    exact lv_ladd hx hb hok (kG _ _ _ _ _ hO hS hl hc hs)
  case lsub =>
    obtain ⟨a, b, st', rfl, -, -, kG⟩ := am_p2J_x H
    exact lv_lsub hx hb hok (kG _ _ _ _ _ hO hS hl hc hs)
  case lmul =>
    obtain ⟨a, b, st', rfl, -, -, kG⟩ := am_p2J_x H
    exact lv_lmul hx hb hok (kG _ _ _ _ _ hO hS hl hc hs)
  case land =>
    obtain ⟨a, b, st', rfl, -, -, kG⟩ := am_p2J_x H
    exact lv_land hx hb hok (kG _ _ _ _ _ hO hS hl hc hs)
  case lor =>
    obtain ⟨a, b, st', rfl, -, -, kG⟩ := am_p2J_x H
    exact lv_lor hx hb hok (kG _ _ _ _ _ hO hS hl hc hs)
  case ldiv =>
    obtain ⟨a, b, st', rfl, g, -, -, kG⟩ := am_p2J_x H
    exact lv_ldiv hx hb hok g (kG _ _ _ _ _ hO hS hl hc hs)
  case lrem =>
    obtain ⟨a, b, st', rfl, g, -, -, kG⟩ := am_p2J_x H
    exact lv_lrem hx hb hok g (kG _ _ _ _ _ hO hS hl hc hs)
  case lcmp =>
    obtain ⟨a, b, st', rfl, -, -, kG⟩ := am_p2J_x H
    exact W.lcmp hx hb hok (kG _ _ _ _ _ hO hS hl hc hs)
  case lneg =>
    obtain ⟨a, st', rfl, -, -, kG⟩ := am_p1J_x H
    exact lv_lneg hx hb hok (kG _ _ _ _ _ hO hS hl hc hs)
  case lshl =>
    obtain ⟨a, b, st', rfl, -, -, kG⟩ := am_pJI_x H
    exact lv_lshl hx hb hok rfl (kG _ _ _ _ _ hO hS hl hc hs)
  case i2l =>
    obtain ⟨a, st', rfl, -, -, kG⟩ := am_p1I_x H
    exact lv_i2l hx hb hok rfl (kG _ _ _ _ _ hO hS hl hc hs)
  case l2i =>
    obtain ⟨a, st', rfl, -, -, kG⟩ := am_p1J_x H
    exact lv_l2i hx hb hok rfl (kG _ _ _ _ _ hO hS hl hc hs)
  case dup =>
    obtain ⟨a, st', rfl, g, -, -, kG⟩ := am_w1_x H
    exact lv_dup hx hb hok (by rw [am_cat_v2]; exact g) (kG _ _ _ _ _ hO hS hl hc hs)
  case pop =>
    obtain ⟨a, st', rfl, g, -, -, kG⟩ := am_w1_x H
    exact lv_pop hx hb hok (by rw [am_cat_v2]; exact g) (kG _ _ _ _ _ hO hS hl hc hs)
  case dup_x1 =>
    obtain ⟨a, b, st', rfl, g1, g2, -, -, kG⟩ := am_w2_x H
    exact lv_dup_x1 hx hb hok (by rw [am_cat_v2]; exact g1) (by rw [am_cat_v2]; exact g2) (kG _ _ _ _ _ hO hS hl hc hs)
  case dup2 =>
    split at H
    · obtain ⟨-, -, kG⟩ := H
      exact lv_dup2_2 hx hb hok rfl (kG _ _ _ _ _ hO hS hl hc hs)
    · obtain ⟨a, b, st', rfl, g1, g2, -, -, kG⟩ := am_w2_x H
      exact lv_dup2_11 hx hb hok (by rw [am_cat_v2]; exact g1) (by rw [am_cat_v2]; exact g2) (kG _ _ _ _ _ hO hS hl hc hs)
  case ifCond cd off =>
    obtain ⟨a, st', rfl, H⟩ := am_p1I_x H
    cases cd with
    | eq => exact lv_if_eq hx hb hok.1 hok.2 (fun q => by obtain ⟨-, -, kG⟩ := H.1 q; exact kG _ _ _ _ _ hO hS hl hc hs) (fun q => by obtain ⟨-, -, kG⟩ := H.2 q; exact kG _ _ _ _ _ hO hS hl hc hs)
    | ne => exact lv_if_ne hx hb hok.1 hok.2 (fun q => by obtain ⟨-, -, kG⟩ := H.2 q; exact kG _ _ _ _ _ hO hS hl hc hs) (fun q => by obtain ⟨-, -, kG⟩ := H.1 q; exact kG _ _ _ _ _ hO hS hl hc hs)
    | lt => exact lv_if_lt hx hb hok.1 hok.2 (fun q => by obtain ⟨-, -, kG⟩ := H.1 q; exact kG _ _ _ _ _ hO hS hl hc hs) (fun q => by obtain ⟨-, -, kG⟩ := H.2 q; exact kG _ _ _ _ _ hO hS hl hc hs)
    | ge => exact lv_if_ge hx hb hok.1 hok.2 (fun q => by obtain ⟨-, -, kG⟩ := H.1 q; exact kG _ _ _ _ _ hO hS hl hc hs) (fun q => by obtain ⟨-, -, kG⟩ := H.2 q; exact kG _ _ _ _ _ hO hS hl hc hs)
    | gt => exact lv_if_gt hx hb hok.1 hok.2 (fun q => by obtain ⟨-, -, kG⟩ := H.1 q; exact kG _ _ _ _ _ hO hS hl hc hs) (fun q => by obtain ⟨-, -, kG⟩ := H.2 q; exact kG _ _ _ _ _ hO hS hl hc hs)
    | le => exact lv_if_le hx hb hok.1 hok.2 (fun q => by obtain ⟨-, -, kG⟩ := H.1 q; exact kG _ _ _ _ _ hO hS hl hc hs) (fun q => by obtain ⟨-, -, kG⟩ := H.2 q; exact kG _ _ _ _ _ hO hS hl hc hs)
  case if_icmp cd off =>
    obtain ⟨a, b, st', rfl, H⟩ := am_p2I_x H
    cases cd with
    | eq => exact lv_icmp_eq hx hb hok.1 hok.2 (fun q => by obtain ⟨-, -, kG⟩ := H.1 q; exact kG _ _ _ _ _ hO hS hl hc hs) (fun q => by obtain ⟨-, -, kG⟩ := H.2 q; exact kG _ _ _ _ _ hO hS hl hc hs)
    | ne => exact lv_icmp_ne hx hb hok.1 hok.2 (fun q => by obtain ⟨-, -, kG⟩ := H.2 q; exact kG _ _ _ _ _ hO hS hl hc hs) (fun q => by obtain ⟨-, -, kG⟩ := H.1 q; exact kG _ _ _ _ _ hO hS hl hc hs)
    | lt => exact lv_icmp_lt hx hb hok.1 hok.2 (fun q => by obtain ⟨-, -, kG⟩ := H.1 q; exact kG _ _ _ _ _ hO hS hl hc hs) (fun q => by obtain ⟨-, -, kG⟩ := H.2 q; exact kG _ _ _ _ _ hO hS hl hc hs)
    | ge => exact lv_icmp_ge hx hb hok.1 hok.2 (fun q => by obtain ⟨-, -, kG⟩ := H.1 q; exact kG _ _ _ _ _ hO hS hl hc hs) (fun q => by obtain ⟨-, -, kG⟩ := H.2 q; exact kG _ _ _ _ _ hO hS hl hc hs)
    | gt => exact lv_icmp_gt hx hb hok.1 hok.2 (fun q => by obtain ⟨-, -, kG⟩ := H.1 q; exact kG _ _ _ _ _ hO hS hl hc hs) (fun q => by obtain ⟨-, -, kG⟩ := H.2 q; exact kG _ _ _ _ _ hO hS hl hc hs)
    | le => exact lv_icmp_le hx hb hok.1 hok.2 (fun q => by obtain ⟨-, -, kG⟩ := H.1 q; exact kG _ _ _ _ _ hO hS hl hc hs) (fun q => by obtain ⟨-, -, kG⟩ := H.2 q; exact kG _ _ _ _ _ hO hS hl hc hs)
  case if_acmp cd off =>
    obtain ⟨a, b, st', rfl, H⟩ := am_p2R_x H
    cases cd with
    | eq => exact lv_acmp_eq hx hb hok.1 hok.2 (fun q => by obtain ⟨-, -, kG⟩ := H.1 (am_o_inj q); exact kG _ _ _ _ _ hO hS hl hc hs) (fun q => by obtain ⟨-, -, kG⟩ := H.2 (fun z => q (by rw [z])); exact kG _ _ _ _ _ hO hS hl hc hs)
    | ne => exact lv_acmp_ne hx hb hok.1 hok.2 (fun q => by obtain ⟨-, -, kG⟩ := H.2 (fun z => q (by rw [z])); exact kG _ _ _ _ _ hO hS hl hc hs) (fun q => by obtain ⟨-, -, kG⟩ := H.1 (am_o_inj q); exact kG _ _ _ _ _ hO hS hl hc hs)
  case ifnull off =>
    obtain ⟨a, st', rfl, H⟩ := am_p1R_x H
    cases a with
    | zero =>
      obtain ⟨-, -, kG⟩ := H.1 rfl
      exact lv_ifnullN hx hb hok.1 hok.2 (kG _ _ _ _ _ hO hS hl hc hs)
    | succ a =>
      obtain ⟨-, -, kG⟩ := H.2 (Nat.succ_ne_zero a)
      exact lv_ifnull hx hb hok.1 (kG _ _ _ _ _ hO hS hl hc hs)
  case ifnonnull off =>
    obtain ⟨a, st', rfl, H⟩ := am_p1R_x H
    cases a with
    | zero =>
      obtain ⟨-, -, kG⟩ := H.1 rfl
      exact lv_ifnonnullN hx hb hok.1 (kG _ _ _ _ _ hO hS hl hc hs)
    | succ a =>
      obtain ⟨-, -, kG⟩ := H.2 (Nat.succ_ne_zero a)
      exact lv_ifnonnull hx hb hok.1 hok.2 (kG _ _ _ _ _ hO hS hl hc hs)
  case goto off =>
    obtain ⟨-, -, kG⟩ := H
    exact lv_goto hx hb hok.1 hok.2 (kG _ _ _ _ _ hO hS hl hc hs)
  case tableswitch df lo hi offs =>
    obtain ⟨a, st', rfl, H⟩ := am_p1I_x H
    obtain ⟨⟨⟨⟨hd, hx0⟩, hhi⟩, hlen⟩, hall⟩ := hok
    obtain ⟨len, hd⟩ : ∃ len, decode cc pc = .ok (.tableswitch df lo hi offs, len) := by
      split at hd
      · rename_i j len e9
        exact ⟨len, by rw [e9, of_decide_eq_true hd]⟩
      · cases hd
    have hrow : ∀ j, j < ts.length → (ts.getD j (0, 0)).1.toInt = lo + j ∧ (pc : Int) + offs.getD j 0 = ((ts.getD j (0, 0)).2 : Int) := by
      intro j hj
      have h9 := List.all_eq_true.mp hall j (List.mem_range.mpr hj)
      simpa using h9
    rcases am_tsw_x H with ⟨t, hm, ⟨-, -, kG⟩, -⟩ | ⟨hno, ⟨-, -, kG⟩, -⟩
    · obtain ⟨j, hj⟩ := List.getElem?_of_mem hm
      have hjl : j < ts.length := (List.getElem?_eq_some_iff.mp hj).1
      have hg : ts.getD j (0, 0) = (a, t) := by rw [List.getD_eq_getElem?_getD, hj]; rfl
      obtain ⟨r1, r2⟩ := hrow j hjl
      rw [hg] at r1 r2
      dsimp only at r1 r2
      have hjo : j < offs.size := by omega
      refine lv_tableIn (off := offs.getD j 0) (tgt := t) hx hb hd (by omega) (by omega) ?_ r2 (kG _ _ _ _ _ hO hS hl hc hs)
      rw [show (a.toInt - lo).toNat = j by omega]
      simp [Array.getD, hjo]
    · refine lv_tableOut hx hb hd ?_ hx0 (kG _ _ _ _ _ hO hS hl hc hs)
      by_cases h1 : a.toInt < lo
      · exact Or.inl h1
      · right
        rcases Int.lt_or_le hi a.toInt with h2 | h2
        · exact h2
        · exfalso
          have hjl : (a.toInt - lo).toNat < ts.length := by omega
          have hm : ts.getD (a.toInt - lo).toNat (0, 0) ∈ ts := by
            rw [List.getD_eq_getElem?_getD, List.getElem?_eq_getElem hjl]
            exact List.getElem_mem hjl
          obtain ⟨r1, -⟩ := hrow _ hjl
          refine hno _ hm (Int32.toInt_inj.mp ?_)
          rw [r1]
          omega
  case getstatic idx =>
    obtain ⟨-, -, kG⟩ := H
    exact am_w_gets hx hb hts hown hB hO hS (am_iF hok.2) hok.1 (kG _ _ _ _ _ hO hS hl hc hs)
  case getfield idx =>
    obtain ⟨a, st', rfl, g, -, -, kG⟩ := am_p1R_x H
    obtain ⟨⟨hd, hf⟩, hu⟩ := hok
    obtain ⟨q, hq, hy, hl9⟩ := am_okF_x hf
    obtain ⟨hg, hx9⟩ := am_cok hq
    subst hu
    exact am_w_get hx hb hts hown hKw.1 hKw.2.1 hO g hq hg hx9 hy hl9 hd (kG _ _ _ _ _ hO hS hl hc hs)
  case putfield idx =>
    obtain ⟨⟨⟨hd, hf⟩, hu⟩, hn9⟩ := hok
    obtain ⟨q, hq, hy, hl9⟩ := am_okF_x hf
    obtain ⟨hg, hx9⟩ := am_cok hq
    rcases am_pRv_x H with ⟨rfl, a, v, st', rfl, g, H9⟩ | ⟨rfl, a, v, st', rfl, g, H9⟩ | ⟨rfl, a, v, st', rfl, g, H9⟩
    · obtain ⟨-, -, kG⟩ := H9 _ rfl
      exact am_w_put hx hb hts hown hKw.1 hKw.2.1 hO hS g hq hg hx9 hy hl9 (am_okN_x hq hn9 hini) hd (v := .inl v) (h' := am_sI h (32 * x + y) a v) rfl rfl rfl rfl rfl rfl (fun u f b hb => am_gt_sI u h _ _ v hb) (by rw [hu]; show Sum.inl (am_u2 (am_I h) _ _ _ _ _) = _; rw [am_u2, if_pos ⟨rfl, rfl⟩]) rfl (fun H1 locs1 hO1 hS1 => kG _ _ _ _ _ hO1 hS1 hl hc hs)
    · obtain ⟨-, -, kG⟩ := H9 _ rfl
      exact am_w_put hx hb hts hown hKw.1 hKw.2.1 hO hS g hq hg hx9 hy hl9 (am_okN_x hq hn9 hini) hd (v := .inr (.inl v)) (h' := am_sJ h (32 * x + y) a v) rfl rfl rfl rfl rfl rfl (fun u f b hb => am_gt_sJ u h _ _ v hb) (by rw [hu]; show Sum.inr (Sum.inl (am_u2 (am_J h) _ _ _ _ _)) = _; rw [am_u2, if_pos ⟨rfl, rfl⟩]) rfl (fun H1 locs1 hO1 hS1 => kG _ _ _ _ _ hO1 hS1 hl hc hs)
    · obtain ⟨-, -, kG⟩ := H9 _ rfl
      exact am_w_put hx hb hts hown hKw.1 hKw.2.1 hO hS g hq hg hx9 hy hl9 (am_okN_x hq hn9 hini) hd (v := .inr (.inr v)) (h' := am_sR h (32 * x + y) a v) rfl rfl rfl rfl rfl rfl (fun u f b hb => am_gt_sR u h _ _ v hb) (by rw [hu]; show Sum.inr (Sum.inr (am_u2 (am_R h) _ _ _ _ _)) = _; rw [am_u2, if_pos ⟨rfl, rfl⟩]) (by show am_u2 (am_R h) (32 * x + y) a v 9000 0 = _; rw [am_u2, if_neg (fun q => by rw [← q.2, hO.1] at g; omega)]) (fun H1 locs1 hO1 hS1 => kG _ _ _ _ _ hO1 hS1 hl hc hs)
  case iaload =>
    obtain ⟨a, b, st', rfl, g1, g2, -, -, kG⟩ := am_pRI_x H
    exact am_w_iald hx hb hKw.1 hO g1 g2 hok (kG _ _ _ _ _ hO hS hl hc hs)
  case laload =>
    obtain ⟨a, b, st', rfl, g1, g2, -, -, kG⟩ := am_pRI_x H
    exact am_w_lald hx hb hKw.1 hO g1 g2 hok (kG _ _ _ _ _ hO hS hl hc hs)
  case aaload =>
    obtain ⟨a, b, st', rfl, g1, g2, -, -, kG⟩ := am_pRI_x H
    exact am_w_aald hx hb hKw.1 hO g1 g2 hok (kG _ _ _ _ _ hO hS hl hc hs)
  case iastore =>
    obtain ⟨a, b, v, st', rfl, g1, g2, H9⟩ := am_pRII_x H
    obtain ⟨-, -, kG⟩ := H9 _ rfl
    exact am_w_iast hx hb hKw.1 hO hS g1 g2 hok (fun H1 locs1 hO1 hS1 => kG _ _ _ _ _ hO1 hS1 hl hc hs)
  case lastore =>
    obtain ⟨a, b, v, st', rfl, g1, g2, H9⟩ := am_pRIJ_x H
    obtain ⟨-, -, kG⟩ := H9 _ rfl
    exact am_w_last hx hb hKw.1 hO hS g1 g2 hok (fun H1 locs1 hO1 hS1 => kG _ _ _ _ _ hO1 hS1 hl hc hs)
  case aastore =>
    obtain ⟨a, b, v, st', rfl, g1, g2, g3, H9⟩ := am_pRIR_x H
    obtain ⟨-, -, kG⟩ := H9 _ rfl
    exact am_w_aast hx hb hKw.1 hKw.2.1 hO hS g1 g2 g3 hok (fun H1 locs1 hO1 hS1 => kG _ _ _ _ _ hO1 hS1 hl hc hs)
  case arraylength =>
    obtain ⟨a, st', rfl, g, -, -, kG⟩ := am_p1R_x H
    exact am_w_alen hx hb hKw.1 hO g hok (kG _ _ _ _ _ hO hS hl hc hs)
  case newarray at_ =>
    obtain ⟨a, st', rfl, g1, g2, H9⟩ := am_p1I_x H
    obtain ⟨k1, k2, kG⟩ := H9 _ rfl
    obtain ⟨⟨hd, hat⟩, hw⟩ := hok
    have k1 : am_C h + 1 ≤ c0 + R.cells := k1
    have k2 : am_S h + a.toNatClampNeg ≤ s0 + R.slots := k2
    exact am_w_newa hx hb hKw.1 hO (Nat.le_trans hB hS.1) hS (by simpa using hat) (hts _ (am_iI hw)) g1 g2 (by omega) (by omega) hd (fun H1 hO1 hS1 => kG _ _ _ _ _ hO1 hS1 hl (by show _ = am_C h + 1; omega) (by show _ = am_S h + a.toNatClampNeg; omega))
  case anewarray idx =>
    obtain ⟨a, st', rfl, g1, g2, H9⟩ := am_p1I_x H
    obtain ⟨k1, k2, kG⟩ := H9 _ rfl
    obtain ⟨⟨hd, hxr⟩, hw⟩ := hok
    have k1 : am_C h + 1 ≤ c0 + R.cells := k1
    have k2 : am_S h + a.toNatClampNeg ≤ s0 + R.slots := k2
    exact am_w_newq hx hb hts hown hKw.1 hO (Nat.le_trans hB hS.1) hS hxr (am_iC hw) (hKw.2.2.1 _ hxr) g1 g2 (by omega) (by omega) hd (fun H1 hO1 hS1 => kG _ _ _ _ _ hO1 hS1 hl (by show _ = am_C h + 1; omega) (by show _ = am_S h + a.toNatClampNeg; omega))
  case new idx =>
    obtain ⟨k1, k2, kG⟩ := H _ rfl
    obtain ⟨hd, hw⟩ := hok
    split at hw
    · rename_i q hq
      simp only [Bool.and_eq_true, decide_eq_true_eq] at hw
      obtain ⟨⟨⟨rfl, w1⟩, w2⟩, w3⟩ := hw
      obtain ⟨hg, hx9⟩ := am_cok hq
      have k1 : am_C h + 1 ≤ c0 + R.cells := k1
      have k2 : am_S h + q.2.2 ≤ s0 + R.slots := k2
      exact am_w_new hx hb hts hown hKw.1 hO (Nat.le_trans hB hS.1) hS hq hg hx9 ⟨am_iC w1, am_iI w2, am_iI w3⟩ (by omega) (by omega) hd (fun H1 hO1 hS1 => kG _ _ _ _ _ hO1 hS1 hl (by show _ = am_C h + 1; omega) (by show _ = am_S h + q.2.2; omega))
    · cases hw
  case checkcast idx =>
    obtain ⟨a, st', rfl, g, -, -, kG⟩ := am_p1R_x H
    obtain ⟨⟨hd, hx9⟩, hw⟩ := hok
    have hq : am_cl[x]? = some am_cl[x] := List.getElem?_eq_getElem hx9
    cases a with
    | zero => exact lv_castN hx hb hd (kG _ _ _ _ _ hO hS hl hc hs)
    | succ a =>
      have g : am_T h (a + 1) = 10 + x := by rcases g with q | q; cases q; exact q
      rw [am_cn_of hq] at hw
      exact va_castS hx hb hown (hts _ (am_iC hw)) (hKw.1.1 x _ hq).2 (am_recv hKw.1 hO g hq) hd (kG _ _ _ _ _ hO hS hl hc hs)
  case invokevirtual idx =>
    obtain ⟨as, rest, hn, hst, H2⟩ := am_pn_x H
    subst hst
    obtain ⟨a, st', hst, g, H3⟩ := am_p1R_x H2
    subst hst
    clear H H2
    have H := H3
    clear H3
    split at H
    · rename_i hsz
      obtain ⟨d, r, h1, hM, hRf, hle, H⟩ := H
      exact am_w_callV hx hb hml hown hts hKw hB hO hS hl hc hs hok.1 hok.2 hn g hsz hM hRf hle H
    · exact H.elim
  case invokespecial idx =>
    obtain ⟨as, rest, hn, hst, H2⟩ := am_pn_x H
    subst hst
    obtain ⟨a, st', hst, g, H3⟩ := am_p1R_x H2
    subst hst
    clear H H2
    have H := H3
    clear H3
    split at H
    · rename_i hsz
      split at H
      · rename_i hx0
        obtain ⟨-, -, kG⟩ := H
        obtain ⟨hd, hw⟩ := hok
        rw [if_pos hx0] at hw
        exact am_w_objInit hx hb hml hown hts hl hd hw hn g hsz.1 hRm (kG _ _ _ _ _ hO hS hl hc hs)
      · rename_i hx0
        obtain ⟨d, r, h1, hM, hRf, hle, H⟩ := H
        obtain ⟨hd, hw⟩ := hok
        rw [if_neg hx0] at hw
        exact am_w_callI hx hb hml hown hts hKw hB hO hS hl hc hs hd hw hn g hsz hM hRf hle H
    · exact H.elim
  case invokestatic idx =>
    obtain ⟨hd, hw⟩ := hok
    by_cases hx0 : x = 0
    · simp only [if_pos hx0] at H hw
      exact am_w_mth hx hb hml hown hts hl hd hw hRm H (fun st' h9 => by obtain ⟨k1, k2, kG⟩ := h9; exact ⟨by omega, by omega, kG _ _ _ _ _ hO hS hl hc hs⟩)
    · simp only [if_neg hx0] at H hw
      obtain ⟨as, rest, hn, hst, H2⟩ := am_pn_x H
      clear H
      have H := H2
      clear H2
      subst hst
      split at H
      · rename_i hsz
        obtain ⟨d, r, h1, hM, hRf, hle, H⟩ := H
        exact am_w_callS hx hb hml hown hts hKw hB hO hS hl hc hs hd hw hn hsz hM hRf hle H
      · exact H.elim
  case ireturn =>
    split at H
    · split at H
      · exact H.elim
      · exact H.2.elim
    · exact H.elim
  case lreturn =>
    split at H
    · exact H.elim
    · exact H.elim
  case areturn =>
    split at H
    · exact H.elim
    · exact H.elim
  case return_ =>
    split at H
    · exact H.elim
    · exact H.elim
end AMS
