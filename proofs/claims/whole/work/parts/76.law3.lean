/-! THE CLAIM OUT OF ONE WALK OF THE LAW'S BODY. Your part is whole_start (and what it stands on); all else here is the same for every law, but numbers. -/
def R_law : String := "EthernetGatesLaw"
def lw_P (b : Addr) (xs : List Int32) (args : Array Value) (s : State) : Prop := args = #[.ref b] ∧ s.IntsAt b xs ∧ xs.length ≤ 3585 ∧ (Jvm.Cond.and given_1 narrow_1).before args s = true
def lw_Q (_ : Array Value) (s : State) (o : Outcome) (t : State) : Prop := o = .returned (some (.int 1)) ∧ Framed s o t [] 601024 7293000
def lw_Z (below : List Frame) (a : Array Value) (s : State) : State → Prop := fun t => ∃ o, t.status = .running ∧ Ended t below o ∧ lw_Q a s o t
/-- the law's own end, with 1 on the stack, nothing written that was there before, its room as the claim has it -/
theorem lw_ret {p : Program} {l : Launch} {e : Env} {s : State} {m : MethodId} {below : List Frame} {meth : Method} {c : Code} {b : Nat} (hx : p.tables.exec = Jvm.exec) (hb : c.code = code) (hr : meth.sig.returnType = ret) (hlocks : meth.locks = false) {pc : Nat} {H : Heap} {ls : Array Slot} (hdg : decode code pc = .ok (.ireturn, 1)) : W p l e room_1 s m #[Value.ref b] below meth c H [] 601024 7293000 (lw_Z below #[Value.ref b] s) (F0 m pc ls [.int 1]) := by
  intro T hT X
  obtain ⟨fs, hret, hrun, hended, hW, hframe⟩ := X.leave (v := some (.int 1)) (hlocks := hlocks) (fun h => by rw [hr] at h; cases h)
  have hmeth' : T.vm.method? m = some meth := X.method'
  refine ⟨T.setFrames fs, ?_, .returned (some (.int 1)), hrun, hended, rfl, ⟨_, rfl⟩, hW, hframe⟩
  jvm_step X.here [X.here.top, hx, hb, hdg, hmeth', hr, ret, narrow_b1]
  (try refine ⟨rfl, ?_⟩); (try refine ⟨rfl, ?_⟩)
  first | (intro acts; rw [hret _ acts rfl rfl rfl]) | rw [hret _ _ rfl rfl rfl]
  exact Steps.refl _
/-- what holds at the law's entry: the machine, the code, the tables' words (any of lw_tbl by 'hts w (by decide +kernel)'), the script of L ints xs at the cell b, what the Statement gives of the start (any of its parts by flat_of_before) -/
def lw_At (p : Program) (s : State) (m : MethodId) (meth : Method) (c : Code) (b L : Nat) (xs : Nat → Int32) : Prop :=
  p.tables.exec = Jvm.exec ∧ c.code = code ∧ meth.sig.returnType = ret ∧ c.maxLocals = 7 ∧ s.vm.findClass R_law = some m.cls ∧ (∀ w ∈ lw_tbl, w.before #[Value.ref b] s = true) ∧ va_X b L xs s s.heap ∧ b < s.heap.size ∧ meth.locks = false ∧ (Jvm.Cond.and given_1 narrow_1).before #[Value.ref b] s = true
/-! THE LAW'S LOOP -/
section LW
variable {p : Program} {l : Launch} {e : Env} {s : State} {m : MethodId} {below : List Frame} {meth : Method} {c : Code} {D : va_G} {dA : Nat → ClassId} {b : Nat}
theorem lw_end {pc cells slots : Nat} {H : Heap} {locs : List Loc} {ls : Array Slot} (hx : p.tables.exec = Jvm.exec) (hb : c.code = code) (hr : meth.sig.returnType = ret) (hlocks : meth.locks = false) (hd : decode code pc = .ok (.ireturn, 1)) (hS : va_S (fun q => s.heap.size ≤ q) s.heap H locs) (hc : cells ≤ 601024) (hs : slots ≤ 7293000) : W p l e room_1 s m #[Value.ref b] below meth c H locs cells slots (lw_Z below #[Value.ref b] s) (F0 m pc ls [.int 1]) := by
  intro T hT X
  exact lw_ret hx hb hr hlocks hd T hT { X with same := X.same.weaken (fun y hy hlt => absurd hlt (Nat.not_lt.mpr (hS.2.2 y hy))) hc hs }
/-- the law's goals: at its places, at its end -/
def lg_G (p : Program) (l : Launch) (e : Env) (s : State) (m : MethodId) (below : List Frame) (meth : Method) (c : Code) (D : va_G) (dA : Nat → ClassId) (b : Nat) (pc : Nat) (lc : am_Ls) (st : am_Sk) (h : am_H) : Prop := am_C h ≤ 0 + room_1.cells ∧ am_S h ≤ 0 + room_1.slots ∧ am_G p l e room_1 s m #[Value.ref b] below meth c (lw_Z below #[Value.ref b] s) D dA s.heap.size 7 0 0 pc lc st h
def lg_R (r : Option am_V) (h : am_H) : Prop := r = some (.inl 1) ∧ am_C h ≤ 601024 ∧ am_S h ≤ 7293000
theorem lw_go (F : am_Fx p s m #[Value.ref b] meth c D dA s.heap.size "EthernetGatesLaw" code 7 false) (hr : meth.sig.returnType = ret) (hlocks : meth.locks = false) {k : Nat} {stops : List Nat} {pc : Nat} {lc : am_Ls} {st : am_Sk} {h : am_H} (H : am_BG (lg_G p l e s m below meth c D dA b) lg_R k stops 10 mi_W_law pc lc st h) : lg_G p l e s m below meth c D dA b pc lc st h := by
  have hok : ∀ pc q, am_at mi_W_law pc = some q → am_okE "EthernetGatesLaw" code 7 false (some .boolean) pc q = true := fun pc q hq => List.all_eq_true.mp am_pk_89 (pc, q) (am_lookup_mem hq)
  refine am_BG_G (R := room_1) (c0 := 0) (s0 := 0) (Q := lw_Z below #[Value.ref b] s) cp_X9 F hok (fun _ _ _ _ g => g) ?_ (d := 10) ⟨by decide, by decide⟩ ⟨by decide, by decide⟩ k stops pc lc st h H
  intro pc q lc st h r hq hiR hR
  obtain ⟨rfl, c1, c2⟩ := hR
  refine ⟨by show am_C h ≤ 0 + 601024; omega, by show am_S h ≤ 0 + 7293000; omega, ?_⟩
  have ho := hok pc q hq
  obtain ⟨i, x, y, z, u, cI, cJ, ts⟩ := q
  rcases hiR with ⟨q1, v, rfl, e1, -⟩ | ⟨-, v, -, e1⟩ | ⟨-, v, -, e1⟩ | ⟨-, -, e1⟩
  · cases e1
    cases q1
    simp only [am_okE, Bool.and_eq_true, decide_eq_true_eq] at ho
    intro HH locs ls cells slots hO hS hl hc hs
    exact lw_end F.1 F.2.1 hr hlocks ho.1 hS (by omega) (by omega)
  · cases e1
  · cases e1
  · cases e1
theorem J_room {h : am_H} {x n k : Nat} {σ : sg} (hJ : J h x n σ k) (hk : k ≤ 513) : am_C h ≤ 601024 ∧ am_S h ≤ 7293000 := by
  obtain ⟨α, e, hX, -⟩ := hJ
  obtain ⟨-, -, ⟨-, -, d3, d4, -⟩, ⟨o1, o2⟩, -⟩ := hX
  have : am_N h e ≤ 7500 := by rcases d4 with ⟨-, -, -, -, q⟩ | ⟨-, -, -, -, -, q⟩ <;> omega
  omega
theorem RX_room {h : am_H} {x n e k : Nat} {α : Nat → Nat} {σ : sg} (hX : RX h x n σ α e k) (hk : k ≤ 513) : am_C h ≤ 601024 ∧ am_S h ≤ 7293000 := by
  obtain ⟨-, -, ⟨-, -, d3, d4, -⟩, ⟨o1, o2⟩, -⟩ := hX
  have : am_N h e ≤ 7500 := by rcases d4 with ⟨-, -, -, -, q⟩ | ⟨-, -, -, -, -, q⟩ <;> omega
  omega
theorem lw_332 (F : am_Fx p s m #[Value.ref b] meth c D dA s.heap.size "EthernetGatesLaw" code 7 false) (hTw : tx_W s.heap.size s) (hlT : l.stackTraces = false) {h : am_H} {x n k l0 : Nat} {σ : sg} {l4 : Int32} {y5 y6 : Option am_V} (hJ : J h x n σ k) (hk : k ≤ 511) (hW : WF n σ) (hI : LI h x l0 l4) (hO : am_T h (ax x n + 30) = 2 ∧ am_N h (ax x n + 30) = 1)
    (K : ∀ (h1 : am_H) (sX : sg) (α : Nat → Nat) (e9 : Nat) (r : Int32) (v : Int), RX h1 x n sX α e9 (k + 1) → RM h1 (ax x n + 5) n σ → eqon (fun a => a < x) h h1 → am_T h1 (ax x n + 30) = 2 ∧ am_N h1 (ax x n + 30) = 1 → rJ v → jJ v = lv h l0 l4 → LR h1 x n σ sX v r → lg_G p l e s m below meth c D dA b 335 [some (.inr (.inr l0)), some (.inr (.inr x)), some (.inr (.inr (ax x n + 5))), some (.inr (.inr (ax x n + 30))), some (.inl l4), y5, y6] [.inl r] h1) :
    lg_G p l e s m below meth c D dA b 332 [some (.inr (.inr l0)), some (.inr (.inr x)), some (.inr (.inr (ax x n + 5))), some (.inr (.inr (ax x n + 30))), some (.inl l4), y5, y6] [.inr (.inr (ax x n + 30)), .inr (.inl (lv h l0 l4)), .inr (.inr x)] h := by
  have hrm := J_room hJ (by omega)
  have hJ0 := hJ
  obtain ⟨α, e9, hX, hM⟩ := hJ
  obtain ⟨v, hvr, hve⟩ : ∃ z : Int, rJ z ∧ jJ z = lv h l0 l4 := ⟨_, rJ_self _, jJ_self _⟩
  have h30 := hW.2.2.2.1.1
  have hz : ax x n + 30 ≤ am_Z h := hX.2.2.2.2
  have hax := ax_x (x := x) (n := n)
  have hF : CallFix p m c code 7 s #[Value.ref b] am_Tg "EthernetGatesLaw" := ⟨F.1, F.2.1, F.2.2.1, F.2.2.2.1, F.2.2.2.2.1⟩
  have hKw := F.2.2.2.2.2.1
  have hdec : decode code 332 = .ok (.invokestatic 39, 3) := by decide +kernel
  rw [← hve]
  by_cases hT : ¬ (v < 0 ∨ 1000000 < v ∨ v < σ 30 0) ∧ v = 0
  · have hc : tx_c h x (jJ v) := by
      refine ⟨X_T hX, ?_, ?_, ?_, ?_⟩
      · rw [show (0 : Int64) = jJ 0 from rfl, cmp_lt hvr (by unfold rJ; omega)]; omega
      · rw [show (1000000 : Int64) = jJ 1000000 from rfl, cmp_gt hvr (by unfold rJ; omega)]; omega
      · rw [X_8 hX, cmp_ge hvr (by unfold rJ; omega)]; omega
      · rw [show (0 : Int64) = jJ 0 from rfl, cmp_eq hvr (by unfold rJ; omega)]; exact hT.2
    have eo : eqon (fun a => a ≤ am_Z h) h (am_ex h) := fun a ha => by
      have ha : a ≤ am_Z h := ha
      refine ⟨?_, rfl, fun _ => rfl, fun _ => rfl, fun _ => rfl, fun _ => rfl, fun _ => rfl, fun _ => rfl⟩
      show va_up (am_T h) (am_Z h + 1) 0 a = am_T h a
      unfold va_up
      rw [if_neg (by omega)]
    have hG := K (am_ex h) σ α e9 1 v (RX_grow (k := 1) hX eo (by show am_Z h ≤ am_Z h + 1; omega) (by show am_C h + 1 ≤ _; omega) (by show am_S h + 6 ≤ _; omega)) (RM_eqon hM (eqon_mono (fun a ha => show a ≤ am_Z h by have := ha.2; omega) eo)) (eqon_mono (fun a (ha : a < x) => show a ≤ am_Z h by omega) eo) (by obtain ⟨q1, q2, -⟩ := eo (ax x n + 30) hz; rw [q1, q2]; exact hO) hvr hve (Or.inr (Or.inl ⟨hT.1, hT.2, rfl, rfl⟩))
    refine ⟨by show am_C h ≤ 0 + 601024; omega, by show am_S h ≤ 0 + 7293000; omega, ?_⟩
    intro H locs ls cells slots hOk hS hl hc' hs
    have eC : am_C (am_ex h) = am_C h + 1 := rfl
    have eS : am_S (am_ex h) = am_S h + 6 := rfl
    have g1 := hG.1
    have g2 := hG.2.1
    refine am_w_after (u := 1) (rest := []) (r := some (.inl 1)) (h := h) (h1 := am_ex h) (a9 := (([.inr (.inr x), .inr (.inl (jJ v)), .inr (.inr (ax x n + 30))] : am_Sk).map am_v2).toArray) hS hl hc' hs ⟨by omega, by omega, g1, g2⟩ ⟨1, rfl, hG.2.2⟩ ?_
    refine tx_runS (As := ([.inr (.inr x), .inr (.inl (jJ v)), .inr (.inr (ax x n + 30))] : am_Sk).map am_v2) (rest := []) hF (tx_W1 (d := 9) (o := ax x n + 30) (D := D) (dA := dA) (B := s.heap.size) hlT (by decide) hc) rfl rfl (by show 9 + 1 + 1 ≤ 11; decide) (by show 8 + (5 + 11) + (36 * 9 + 30) ≤ 420; decide) ⟨?_, fun U hU hW9 => ⟨am_pre hKw (Nat.le_refl _) hOk hS U hU hW9, tx_W_go hTw (Nat.le_refl _) hW9 hU hS⟩⟩ rfl rfl hl.2.1 rfl (show (0 : Nat) ≤ 8 from Nat.zero_le 8) hdec ⟨by omega, by omega⟩
    intro a U g mk q
    exact ⟨am_blind a U g mk q.1, tx_W_go (s := U) (U := U.calling g mk a) q.2 q.1.2.2.1 (State.WarmedH.refl U) rfl va_S.rf⟩
  · have hno : (v < 0 ∨ 1000000 < v ∨ v < σ 30 0) ∨ ¬ v = 0 := by
      by_cases hz0 : v = 0
      · exact Or.inl (Classical.not_not.mp (fun q => hT ⟨q, hz0⟩))
      · exact Or.inr hz0
    have P : am_PC 9 mi_X_cycle [.inr (.inr x), .inr (.inl (jJ v))] h (fun r h1 => ∃ (w : Int32) (sX : sg), r = some (.inl w) ∧ gX x n h sX α e9 k h1 ∧ (((v < 0 ∨ 1000000 < v ∨ v < σ 30 0) ∧ w = -2 ∧ sX = σ) ∨ (¬ (v < 0 ∨ 1000000 < v ∨ v < σ 30 0) ∧ ¬ v = 0 ∧ w = 1 ∧ sX = am_u2 σ 0 1 v))) := sp_X_cycle (d := 8) hX hvr h30 hno (fun hb => ⟨-2, σ, rfl, gX_rf hX, Or.inl ⟨hb, rfl, rfl⟩⟩) (fun hb hz h1 g => ⟨1, _, rfl, g, Or.inr ⟨hb, hz, rfl, rfl⟩⟩)
    obtain ⟨r, h1, hMX, hCC, w, sX, rfl, g, hres⟩ := am_PC_MX (l := l) (D := D) (dA := dA) (B := s.heap.size) (d := 8) (m' := mi_X_cycle) (as := [.inr (.inr x), .inr (.inl (jJ v))]) cp_X9 (show (3 : Nat) ≤ 3 from Nat.le_refl 3) P
    obtain ⟨o1, o2, -⟩ := g.2 (ax x n + 30) (Or.inr ⟨by omega, by omega⟩)
    have oT : am_T h1 (ax x n + 30) = 2 := by rw [o1]; exact hO.1
    have oN : am_N h1 (ax x n + 30) = 1 := by rw [o2]; exact hO.2
    have hM1 := J_M hJ0 g
    have hX2 : RX (am_xJ h1 (ax x n + 30) 0 w.toInt64) x n sX α e9 (k + 1) := RX_eqon g.1 (eqon_xJ (fun q => q.2 ⟨by omega, by omega⟩)) (Nat.le_refl _) (by show am_C h1 ≤ _; omega) (by show am_S h1 ≤ _; omega)
    have hM2 : RM (am_xJ h1 (ax x n + 30) 0 w.toInt64) (ax x n + 5) n σ := RM_eqon hM1 (eqon_xJ (fun q => by have := q.2; omega))
    have eo : eqon (fun a => a < x) h (am_xJ h1 (ax x n + 30) 0 w.toInt64) := eqon_tr (eqon_mono (fun a ha => Or.inl ha) g.2) (eqon_xJ (fun q => by have q : ax x n + 30 < x := q; omega))
    have hw : am_aJ (am_xJ h1 (ax x n + 30) 0 w.toInt64) (ax x n + 30) 0 = w.toInt64 := by rw [hp_aJ_xJ, if_pos ⟨rfl, rfl⟩]
    have hG := K _ sX α e9 0 v hX2 hM2 eo ⟨oT, oN⟩ hvr hve (by
      rcases hres with ⟨q1, rfl, q3⟩ | ⟨q1, q2, rfl, q4⟩
      · exact Or.inl ⟨q1, rfl, hw, q3⟩
      · exact Or.inr (Or.inr ⟨q1, q2, rfl, hw, q4⟩))
    refine ⟨by show am_C h ≤ 0 + 601024; omega, by show am_S h ≤ 0 + 7293000; omega, ?_⟩
    intro H locs ls cells slots hOk hS hl hc' hs
    have g1 := hG.1
    have g2 := hG.2.1
    have eC : am_C (am_xJ h1 (ax x n + 30) 0 w.toInt64) = am_C h1 := rfl
    have eS : am_S (am_xJ h1 (ax x n + 30) 0 w.toInt64) = am_S h1 := rfl
    refine am_w_after (u := 1) (rest := []) (r := some (.inl 0)) (h := h) (h1 := am_xJ h1 (ax x n + 30) 0 w.toInt64) (a9 := (([.inr (.inr x), .inr (.inl (jJ v)), .inr (.inr (ax x n + 30))] : am_Sk).map am_v2).toArray) hS hl hc' hs ⟨by omega, by omega, g1, g2⟩ ⟨0, rfl, hG.2.2⟩ ?_
    exact tx_runS (As := ([.inr (.inr x), .inr (.inl (jJ v)), .inr (.inr (ax x n + 30))] : am_Sk).map am_v2) (rest := []) hF (tx_W0 hMX (X_T hX) oT (by omega) hCC) rfl rfl (by show 9 + 1 + 1 ≤ 11; decide) (by show 8 + (5 + 11) + (36 * 9 + 30) ≤ 420; decide) ⟨am_blind, fun U hU hW9 => am_pre hKw (Nat.le_refl _) hOk hS U hU hW9⟩ rfl rfl hl.2.1 rfl (show (0 : Nat) ≤ 8 from Nat.zero_le 8) hdec ⟨by omega, by omega⟩
theorem lw_i7 (k : Nat) : iI (7 * (k : Int) + 1) + (7 : Int32) = iI (7 * ((k + 1 : Nat) : Int) + 1) := by
  rw [show (7 : Int32) = iI 7 from rfl, iI_add]
  congr 1 <;> omega
theorem lw_in {k L : Nat} (hL : L ≤ 3585) (h7 : 7 * k + 8 ≤ L) (j : Int32) (j0 : 0 ≤ j) (j6 : j ≤ 6) : vp_in (iI (7 * (k : Int) + 1) + j) L := by
  obtain ⟨z, zr, rfl⟩ : ∃ z : Int, rI z ∧ iI z = j := ⟨j.toInt, rI_self j, iI_self j⟩
  rw [show (0 : Int32) = iI 0 from rfl, iI_le (by unfold rI; omega) zr] at j0
  rw [show (6 : Int32) = iI 6 from rfl, iI_le zr (by unfold rI; omega)] at j6
  rw [iI_add]
  rintro (q | q)
  · rw [show (0 : Int32) = iI 0 from rfl, iI_lt (by unfold rI; omega) (by unfold rI; omega)] at q
    omega
  · rw [iI_clamp (by omega) (by unfold rI; omega)] at q
    omega
set_option maxRecDepth 100000 in
theorem lw_loop (F : am_Fx p s m #[Value.ref b] meth c D dA s.heap.size "EthernetGatesLaw" code 7 false) (hr : meth.sig.returnType = ret) (hlocks : meth.locks = false) (hTw : tx_W s.heap.size s) (hlT : l.stackTraces = false) {x n l0 L : Nat} (hL : L ≤ 3585) (hl0 : l0 < x) : ∀ (j k : Nat) (h : am_H) (σ : sg) (y5 y6 : Option am_V), L < 7 * (k + j) + 8 → k ≤ 512 → J h x n σ k → WF n σ → σ 0 0 ≤ 2000 * (k : Int) → am_T h l0 = 3 → am_N h l0 = L → am_T h (ax x n + 30) = 2 → am_N h (ax x n + 30) = 1 →
    lg_G p l e s m below meth c D dA b 33 [some (.inr (.inr l0)), some (.inr (.inr x)), some (.inr (.inr (ax x n + 5))), some (.inr (.inr (ax x n + 30))), some (.inl (iI (7 * (k : Int) + 1))), y5, y6] [] h := by
  intro j
  induction j with
  | zero =>
    intro k h σ y5 y6 hf hk hJ hW ht hT hN hT3 hN3
    have hrm := J_room hJ (by omega)
    refine lw_go F hr hlocks (bg_33 ⟨by rw [hT]; decide, fun _ => ⟨by decide, rfl, hrm⟩, fun hge => absurd ?_ hge⟩)
    rw [hN, show Int32.ofNat L = iI (L : Int) from (iI_nat L).symm, show (7 : Int32) = iI 7 from rfl, iI_sub, iI_lt (by unfold rI; omega) (by unfold rI; omega)]
    omega
  | succ j ih =>
    intro k h σ y5 y6 hf hk hJ hW ht hT hN hT3 hN3
    have hrm := J_room hJ (by omega)
    refine lw_go F hr hlocks (bg_33 ⟨by rw [hT]; decide, fun _ => ⟨by decide, rfl, hrm⟩, fun hge => ?_⟩)
    have h7 : 7 * k + 8 ≤ L := by
      rw [hN, show Int32.ofNat L = iI (L : Int) from (iI_nat L).symm, show (7 : Int32) = iI 7 from rfl, iI_sub, iI_lt (by unfold rI; omega) (by unfold rI; omega)] at hge
      omega
    have hI : ∀ h', am_T h' l0 = 3 → am_N h' l0 = L → LI h' x l0 (iI (7 * (k : Int) + 1)) := fun h' t1 t2 => ⟨hl0, t1, fun j j0 j6 => by rw [t2]; exact lw_in hL h7 j j0 j6⟩
    have hv0 : vp_in (iI (7 * (k : Int) + 1)) (am_N h l0) := by
      have := lw_in hL h7 0 (by decide) (by decide)
      rw [hN]
      rwa [Int32.add_zero] at this
    have ht2 : σ 0 0 + 2000 ≤ 2000000 := by omega
    have K : ∀ h2 σ' y5 y6, J h2 x n σ' (k + 1) → WF n σ' → am_T h2 l0 = 3 → am_N h2 l0 = L → am_T h2 (ax x n + 30) = 2 → am_N h2 (ax x n + 30) = 1 → σ' 0 0 ≤ σ 0 0 + 2000 → lg_G p l e s m below meth c D dA b 959 [some (.inr (.inr l0)), some (.inr (.inr x)), some (.inr (.inr (ax x n + 5))), some (.inr (.inr (ax x n + 30))), some (.inl (iI (7 * (k : Int) + 1))), y5, y6] [] h2 := by
      intro h2 σ' y5 y6 a1 a2 a3 a4 a5 a6 a7
      refine lw_go F hr hlocks (bg_959 ?_)
      rw [lw_i7]
      exact ih (k + 1) h2 σ' y5 y6 (by omega) (by omega) a1 a2 (by omega) a3 a4 a5 a6
    have KE : ∀ h1 : am_H, am_T h1 l0 = 3 → am_N h1 l0 = L → am_T h1 (ax x n + 30) = 2 → am_N h1 (ax x n + 30) = 1 → ∀ h2 σ' y5 y6, J h2 x n σ' (k + 1) → WF n σ' → eqon (OO x n) h1 h2 → σ' 0 0 ≤ σ 0 0 + 2000 → lg_G p l e s m below meth c D dA b 959 [some (.inr (.inr l0)), some (.inr (.inr x)), some (.inr (.inr (ax x n + 5))), some (.inr (.inr (ax x n + 30))), some (.inl (iI (7 * (k : Int) + 1))), y5, y6] [] h2 := by
      intro h1 t1 t2 t3 t4 h2 σ' y5 y6 a1 a2 a3 a4
      obtain ⟨e1, e2, -⟩ := a3 l0 (Or.inl hl0)
      obtain ⟨e3, e4, -⟩ := a3 (ax x n + 30) (Or.inr rfl)
      exact K h2 σ' y5 y6 a1 a2 (by rw [e1]; exact t1) (by rw [e2]; exact t2) (by rw [e3]; exact t3) (by rw [e4]; exact t4) a4
    have KH := KE h hT hN hT3 hN3
    have hI0 := hI h hT hN
    refine ⟨Or.inr hT, hv0, fun _ => lw_go F hr hlocks (lo_112 hJ hW ht2 hI0 (fun h2 s' => KH h2 s' y5 y6)), fun _ => ⟨fun _ => lw_go F hr hlocks (lo_181 hJ hW ht2 hI0 (fun h2 s' => KH h2 s' y5 y6)), fun _ => ⟨fun _ => lw_go F hr hlocks (lo_308 hI0 ?_), fun _ => ⟨fun _ => lw_go F hr hlocks (lo_396 hJ hW ht2 hI0 (fun h2 s' => KH h2 s' y5 y6)), fun _ => ⟨fun _ => lw_go F hr hlocks (lo_457 hJ hW ht2 hI0 (fun h2 s' => KH h2 s' y5 y6)), fun _ => ⟨fun _ => lw_go F hr hlocks (lo_514 hJ hW ht2 hI0 (fun h2 s' => KH h2 s' y5 y6)), fun _ => ⟨fun _ => lw_go F hr hlocks (lo_551 hJ hW ht2 hI0 (fun h2 s' => KH h2 s' y5 y6)), fun _ => ⟨fun _ => lw_go F hr hlocks (lo_632 hJ hW ht2 hI0 (fun h2 s' => KH h2 s' y5 y6)), fun _ => ⟨fun _ => lw_go F hr hlocks (lo_759 hJ hW ht2 hI0 (fun h2 s' => KH h2 s' y5 y6)), fun _ => ⟨fun _ => lw_go F hr hlocks (lo_828 hJ hW ht2 hI0 (fun h2 s' => KH h2 s' y5 y6)), fun _ => ⟨fun _ => lw_go F hr hlocks (lo_897 hJ hW ht2 hI0 (fun h2 s' => KH h2 s' y5 y6)), fun _ => ⟨fun _ => lw_go F hr hlocks (lo_922 hJ hW ht2 hI0 (fun h2 s' => KH h2 s' y5 y6)), fun _ => K h σ y5 y6 (J_up hJ) hW hT hN hT3 hN3 (by omega)⟩⟩⟩⟩⟩⟩⟩⟩⟩⟩⟩⟩
    refine lw_332 F hTw hlT hJ (by omega) hW hI0 ⟨hT3, hN3⟩ (fun h1 sX α e9 r v b1 b2 b3 b4 b5 b6 b7 => ?_)
    obtain ⟨e1, e2, -, -, -, e6, -, -⟩ := b3 l0 hl0
    refine lw_go F hr hlocks (lo_335 b1 b2 hW (hI h1 (by rw [e1]; exact hT) (by rw [e2]; exact hN)) b4 b5 ?_ b7 (KE h1 (by rw [e1]; exact hT) (by rw [e2]; exact hN) b4.1 b4.2))
    rw [b6]
    unfold lv
    rw [e6, e6]
end LW
