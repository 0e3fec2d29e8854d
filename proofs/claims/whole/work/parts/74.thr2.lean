/-! THE LAW'S HELPER: its contracts -/
section TV
variable {l : Launch} {D : va_G} {dA : Nat → ClassId} {B : Nat}
abbrev tx_ws : List Cond := Cond.codeWith tx_yW method_3_code 5 (some .int) tx_hh :: am_Tg
theorem tx_W0 {d x o : Nat} {v : Int64} {w : Int32} {h h1 : am_H} (hM : am_MX l D dA B d mi_X_cycle [.inr (.inr x), .inr (.inl v)] h (some (.inl w)) h1) (hx : am_T h x = 10) (ho : am_T h1 o = 2) (hn : 1 ≤ am_N h1 o) (hCC : am_C h ≤ am_C h1 ∧ am_S h ≤ am_S h1) : Met l tx_yW tx_ws (am_rm (d + 1) (am_C (am_xJ h1 o 0 w.toInt64) - am_C h) (am_S (am_xJ h1 o 0 w.toInt64) - am_S h)) (va_Pc (([.inr (.inr x), .inr (.inl v), .inr (.inr o)] : am_Sk).map am_v2) (am_Pb D dA B h)) (am_Qb D dA B (some (.inl 0)) (am_xJ h1 o 0 w.toInt64)) (am_C (am_xJ h1 o 0 w.toInt64) - am_C h) (am_S (am_xJ h1 o 0 w.toInt64) - am_S h) (fun q => B ≤ q) := by
  have eC : am_C (am_xJ h1 o 0 w.toInt64) = am_C h1 := rfl
  have eS : am_S (am_xJ h1 o 0 w.toInt64) = am_S h1 := rfl
  refine va_MetW (cc := method_3_code) (maxL := 5) (ret := some .int) (hh := tx_hh) (by decide) rfl ?_
  intro p e s m args below meth c s₁ B9 hml9 hv
  obtain ⟨hargs, hO, hB, hKw⟩ := hv
  have hts := atoms_spec (ws := tx_ws) B9.pre
  have hts' : ∀ w ∈ am_Tg, w.before args s = true := fun w hw => hts w (List.mem_cons_of_mem _ hw)
  have hown : s.vm.findClass "EthernetGatesLaw" = some m.cls := findClass_of_methodNamed B9.named
  obtain ⟨ls, hen, hlk⟩ := am_en_ok (mid := mi_W_cycle) (mL := 5) (as := [.inr (.inr x), .inr (.inl v), .inr (.inr o)]) rfl (show (4 : Nat) ≤ 5 by decide)
  rw [show entryFrame m args 5 = F0 m 0 ls [] from by rw [hargs]; exact hen m]
  have F : am_Fx p s m args meth c D dA B "EthernetGatesLaw" method_3_code 5 false := ⟨B9.exec, B9.bytes, hml9, hown, hts', hKw, fun hi => absurd hi (by decide), hB⟩
  generalize hR : (headSpec tx_ws (am_rm (d + 1) (am_C (am_xJ h1 o 0 w.toInt64) - am_C h) (am_S (am_xJ h1 o 0 w.toInt64) - am_S h))).room = R
  have hRf : R.frames = d + 2 := by rw [← hR]; rfl
  have hRl : R.locals = 36 * (d + 1) + 30 := by rw [← hR]; rfl
  have hRc : R.cells = am_C (am_xJ h1 o 0 w.toInt64) - am_C h := by rw [← hR]; rfl
  have hRs : R.slots = am_S (am_xJ h1 o 0 w.toInt64) - am_S h := by rw [← hR]; rfl
  have hRm : 1 ≤ R.frames ∧ 23 ≤ R.locals := by omega
  generalize hQ9 : MQ below (am_Qb D dA B (some (.inl 0)) (am_xJ h1 o 0 w.toInt64)) args s (am_C (am_xJ h1 o 0 w.toInt64) - am_C h) (am_S (am_xJ h1 o 0 w.toInt64) - am_S h) (fun q => B ≤ q) = Q9
  have hC : am_C h1 ≤ am_C h + R.cells := by omega
  have hS9 : am_S h1 ≤ am_S h + R.slots := by omega
  have hC0 : am_C h ≤ am_C h + R.cells := by omega
  have hS0 : am_S h ≤ am_S h + R.slots := by omega
  have g17 : am_G p l e R s m args below meth c Q9 D dA B 5 (am_C h) (am_S h) 17 [some (.inr (.inr x)), some (.inr (.inl v)), none, some (.inr (.inr o)), none] [.inl 0] (am_xJ h1 o 0 w.toInt64) := by
    intro HH locs ls cells slots hO hS hl hc hs
    obtain rfl : cells = am_C (am_xJ h1 o 0 w.toInt64) - am_C h := by omega
    obtain rfl : slots = am_S (am_xJ h1 o 0 w.toInt64) - am_S h := by omega
    subst hQ9
    exact W.iret B9.exec B9.bytes (B9.returns.trans rfl) (fun t ht hW => ⟨rfl, by rw [ht]; exact am_Ok_moved hW.alike hO, hS.F ht⟩) hS.2.2 (by decide +kernel) (hlocks := B9.notSynchronized)
  have g16 : am_G p l e R s m args below meth c Q9 D dA B 5 (am_C h) (am_S h) 16 [some (.inr (.inr x)), some (.inr (.inl v)), none, some (.inr (.inr o)), none] [] (am_xJ h1 o 0 w.toInt64) := am_step F hRm (q := (.iconst 0, 0, 0, 0, 0, 0, 0, [])) (ret := some .int) (by decide +kernel) (And.intro hC (And.intro hS9 g17))
  have g9 : am_G p l e R s m args below meth c Q9 D dA B 5 (am_C h) (am_S h) 9 [some (.inr (.inr x)), some (.inr (.inl v)), none, some (.inr (.inr o)), none] [] (am_xJ h1 o 0 w.toInt64) := am_step F hRm (q := (.goto 7, 16, 0, 0, 0, 0, 0, [])) (ret := some .int) (by decide +kernel) (And.intro hC (And.intro hS9 g16))
  have g8 : am_G p l e R s m args below meth c Q9 D dA B 5 (am_C h) (am_S h) 8 [some (.inr (.inr x)), some (.inr (.inl v)), none, some (.inr (.inr o)), none] [.inr (.inl w.toInt64), .inl 0, .inr (.inr o)] h1 := am_step F hRm (q := (.lastore, 0, 0, 0, 0, 0, 0, [])) (ret := some .int) (by decide +kernel) (And.intro ho (And.intro (fun z => by rcases z with z | z; exact absurd z (by decide); exact absurd z (show ¬ am_N h1 o ≤ 0 by omega)) (fun h9 e9 => by subst e9; exact And.intro hC (And.intro hS9 g9))))
  have g7 : am_G p l e R s m args below meth c Q9 D dA B 5 (am_C h) (am_S h) 7 [some (.inr (.inr x)), some (.inr (.inl v)), none, some (.inr (.inr o)), none] [.inl w, .inl 0, .inr (.inr o)] h1 := am_step F hRm (q := (.i2l, 0, 0, 0, 0, 0, 0, [])) (ret := some .int) (by decide +kernel) (And.intro hC (And.intro hS9 g8))
  have g4 : am_G p l e R s m args below meth c Q9 D dA B 5 (am_C h) (am_S h) 4 [some (.inr (.inr x)), some (.inr (.inl v)), none, some (.inr (.inr o)), none] [.inr (.inl v), .inr (.inr x), .inl 0, .inr (.inr o)] h := by
    refine am_step F hRm (q := (.invokevirtual 7, 64, 1, 0, 1, 0, 0, [])) (ret := some .int) (by decide +kernel) ?_
    have hcps : ∀ K Rt Cl, am_cps 4 (.invokevirtual 7, 64, 1, 0, 1, 0, 0, []) [some (.inr (.inr x)), some (.inr (.inl v)), none, some (.inr (.inr o)), none] [.inr (.inl v), .inr (.inr x), .inl 0, .inr (.inr o)] h K Rt Cl = (am_T h x = 10 + 0 ∧ Cl 64 [.inr (.inr x), .inr (.inl v)] [.inl 0, .inr (.inr o)]) := fun K Rt Cl => rfl
    rw [hcps]
    refine ⟨hx, ?_⟩
    exact ⟨d, some (.inl w), h1, hM, ⟨by omega, by omega⟩, ⟨hCC.1, hCC.2, hC, hS9⟩, w, rfl, g7⟩
  have g3 : am_G p l e R s m args below meth c Q9 D dA B 5 (am_C h) (am_S h) 3 [some (.inr (.inr x)), some (.inr (.inl v)), none, some (.inr (.inr o)), none] [.inr (.inr x), .inl 0, .inr (.inr o)] h := am_step F hRm (q := (.lload_n 1, 1, 0, 0, 0, 0, 0, [])) (ret := some .int) (by decide +kernel) (And.intro hC0 (And.intro hS0 g4))
  have g2 : am_G p l e R s m args below meth c Q9 D dA B 5 (am_C h) (am_S h) 2 [some (.inr (.inr x)), some (.inr (.inl v)), none, some (.inr (.inr o)), none] [.inl 0, .inr (.inr o)] h := am_step F hRm (q := (.aload_n 0, 0, 0, 0, 0, 0, 0, [])) (ret := some .int) (by decide +kernel) (And.intro hC0 (And.intro hS0 g3))
  have g1 : am_G p l e R s m args below meth c Q9 D dA B 5 (am_C h) (am_S h) 1 [some (.inr (.inr x)), some (.inr (.inl v)), none, some (.inr (.inr o)), none] [.inr (.inr o)] h := am_step F hRm (q := (.iconst 0, 0, 0, 0, 0, 0, 0, [])) (ret := some .int) (by decide +kernel) (And.intro hC0 (And.intro hS0 g2))
  have g0 : am_G p l e R s m args below meth c Q9 D dA B 5 (am_C h) (am_S h) 0 [some (.inr (.inr x)), some (.inr (.inl v)), none, some (.inr (.inr o)), none] [] h := am_step F hRm (q := (.aload_n 3, 3, 0, 0, 0, 0, 0, [])) (ret := some .int) (by decide +kernel) (And.intro hC0 (And.intro hS0 g1))
  exact g0 _ _ _ _ _ hO va_S.rf hlk (Nat.zero_add _) (Nat.zero_add _)
theorem tx_W1 {d x o : Nat} {v : Int64} {h : am_H} (hlT : l.stackTraces = false) (hd : 6 ≤ d) (hc : tx_c h x v) : Met l tx_yW tx_ws (am_rm d (am_C (am_ex h) - am_C h) (am_S (am_ex h) - am_S h)) (fun a U => va_Pc (([.inr (.inr x), .inr (.inl v), .inr (.inr o)] : am_Sk).map am_v2) (am_Pb D dA B h) a U ∧ tx_W B U) (am_Qb D dA B (some (.inl 1)) (am_ex h)) (am_C (am_ex h) - am_C h) (am_S (am_ex h) - am_S h) (fun q => B ≤ q) := by
  have eC : am_C (am_ex h) = am_C h + 1 := rfl
  have eS : am_S (am_ex h) = am_S h + 6 := rfl
  refine va_MetW (cc := method_3_code) (maxL := 5) (ret := some .int) (hh := tx_hh) (by decide) rfl ?_
  intro p e s m args below meth c s₁ B9 hml9 hv
  obtain ⟨⟨hargs, hO, hB, hKw⟩, hTw⟩ := hv
  have hts := atoms_spec (ws := tx_ws) B9.pre
  have hts' : ∀ w ∈ am_Tg, w.before args s = true := fun w hw => hts w (List.mem_cons_of_mem _ hw)
  have hown : s.vm.findClass "EthernetGatesLaw" = some m.cls := findClass_of_methodNamed B9.named
  obtain ⟨ls, hen, hlk⟩ := am_en_ok (mid := mi_W_cycle) (mL := 5) (as := [.inr (.inr x), .inr (.inl v), .inr (.inr o)]) rfl (show (4 : Nat) ≤ 5 by decide)
  rw [show entryFrame m args 5 = F0 m 0 ls [] from by rw [hargs]; exact hen m]
  have F : am_Fx p s m args meth c D dA B "EthernetGatesLaw" method_3_code 5 false := ⟨B9.exec, B9.bytes, hml9, hown, hts', hKw, fun hi => absurd hi (by decide), hB⟩
  generalize hR : (headSpec tx_ws (am_rm d (am_C (am_ex h) - am_C h) (am_S (am_ex h) - am_S h))).room = R
  have hRf : R.frames = d + 1 := by rw [← hR]; rfl
  have hRl : R.locals = 36 * d + 30 := by rw [← hR]; rfl
  have hRc : R.cells = am_C (am_ex h) - am_C h := by rw [← hR]; rfl
  have hRs : R.slots = am_S (am_ex h) - am_S h := by rw [← hR]; rfl
  have hRm : 1 ≤ R.frames ∧ 23 ≤ R.locals := by omega
  generalize hQ9 : MQ below (am_Qb D dA B (some (.inl 1)) (am_ex h)) args s (am_C (am_ex h) - am_C h) (am_S (am_ex h) - am_S h) (fun q => B ≤ q) = Q9
  have hC : am_C h + 1 ≤ am_C h + R.cells := by omega
  have hS9 : am_S h + 6 ≤ am_S h + R.slots := by omega
  have hC0 : am_C h ≤ am_C h + R.cells := by omega
  have hS0 : am_S h ≤ am_S h + R.slots := by omega
  have g15 : am_G p l e R s m args below meth c Q9 D dA B 5 (am_C h) (am_S h) 15 [some (.inr (.inr x)), some (.inr (.inl v)), none, some (.inr (.inr o)), some (.inr (.inr (am_Z h + 1)))] [.inl 1] (am_ex h) := by
    intro HH locs ls cells slots hO hS hl hc hs
    obtain rfl : cells = am_C (am_ex h) - am_C h := by omega
    obtain rfl : slots = am_S (am_ex h) - am_S h := by omega
    subst hQ9
    exact W.iret B9.exec B9.bytes (B9.returns.trans rfl) (fun t ht hW => ⟨rfl, by rw [ht]; exact am_Ok_moved hW.alike hO, hS.F ht⟩) hS.2.2 (by decide +kernel) (hlocks := B9.notSynchronized)
  have g14 : am_G p l e R s m args below meth c Q9 D dA B 5 (am_C h) (am_S h) 14 [some (.inr (.inr x)), some (.inr (.inl v)), none, some (.inr (.inr o)), some (.inr (.inr (am_Z h + 1)))] [] (am_ex h) := am_step F hRm (q := (.iconst 1, 0, 0, 0, 0, 1, 0, [])) (ret := some .int) (by decide +kernel) (And.intro hC (And.intro hS9 g15))
  have g12 : am_G p l e R s m args below meth c Q9 D dA B 5 (am_C h) (am_S h) 12 [some (.inr (.inr x)), some (.inr (.inl v)), none, some (.inr (.inr o)), none] [.inr (.inr (am_Z h + 1))] (am_ex h) := am_step F hRm (q := (.astore 4, 4, 0, 0, 0, 0, 0, [])) (ret := some .int) (by decide +kernel) (And.intro hC (And.intro hS9 g14))
  have hex : c.exceptionTable.toList.map (fun h => (h.startPc, h.endPc, h.handlerPc, h.catchType)) = tx_hh := by
    obtain ⟨m9, meth9, c9, n9, k9, j9, -, -, x9, -⟩ := Cond.codeWith_spec (hts _ List.mem_cons_self)
    cases B9.named.symm.trans n9
    cases (Stand.of_body B9).method.symm.trans k9
    cases (Stand.of_body B9).code.symm.trans j9
    exact x9
  have g4 : am_G p l e R s m args below meth c Q9 D dA B 5 (am_C h) (am_S h) 4 [some (.inr (.inr x)), some (.inr (.inl v)), none, some (.inr (.inr o)), none] [.inr (.inl v), .inr (.inr x), .inl 0, .inr (.inr o)] h := by
    intro HH locs ls cells slots hO hS hl hc' hs
    exact tx_call (rest := [.int 0, am_v2 (.inr (.inr o))]) hlT B9.exec B9.bytes (hml9.trans hl.2.1.symm) hown hts' hKw hB hTw hex hO hS hc ⟨by omega, by omega⟩ (by omega) (by omega) (by cases o <;> exact (show (2 : Nat) ≤ 8 by decide)) (fun H1 hO1 hS1 => g12 H1 locs ls (cells + 1) (slots + 6) hO1 hS1 hl (by show cells + 1 + am_C h = am_C h + 1; omega) (by show slots + 6 + am_S h = am_S h + 6; omega))
  have g3 : am_G p l e R s m args below meth c Q9 D dA B 5 (am_C h) (am_S h) 3 [some (.inr (.inr x)), some (.inr (.inl v)), none, some (.inr (.inr o)), none] [.inr (.inr x), .inl 0, .inr (.inr o)] h := am_step F hRm (q := (.lload_n 1, 1, 0, 0, 0, 0, 0, [])) (ret := some .int) (by decide +kernel) (And.intro hC0 (And.intro hS0 g4))
  have g2 : am_G p l e R s m args below meth c Q9 D dA B 5 (am_C h) (am_S h) 2 [some (.inr (.inr x)), some (.inr (.inl v)), none, some (.inr (.inr o)), none] [.inl 0, .inr (.inr o)] h := am_step F hRm (q := (.aload_n 0, 0, 0, 0, 0, 0, 0, [])) (ret := some .int) (by decide +kernel) (And.intro hC0 (And.intro hS0 g3))
  have g1 : am_G p l e R s m args below meth c Q9 D dA B 5 (am_C h) (am_S h) 1 [some (.inr (.inr x)), some (.inr (.inl v)), none, some (.inr (.inr o)), none] [.inr (.inr o)] h := am_step F hRm (q := (.iconst 0, 0, 0, 0, 0, 0, 0, [])) (ret := some .int) (by decide +kernel) (And.intro hC0 (And.intro hS0 g2))
  have g0 : am_G p l e R s m args below meth c Q9 D dA B 5 (am_C h) (am_S h) 0 [some (.inr (.inr x)), some (.inr (.inl v)), none, some (.inr (.inr o)), none] [] h := am_step F hRm (q := (.aload_n 3, 3, 0, 0, 0, 0, 0, [])) (ret := some .int) (by decide +kernel) (And.intro hC0 (And.intro hS0 g1))
  exact g0 _ _ _ _ _ hO va_S.rf hlk (Nat.zero_add _) (Nat.zero_add _)
end TV
/-! a static call of a method that has handlers -/
section TS
variable {p : Program} {l : Launch} {e : Env} {R : Room} {s : State} {m : MethodId} {args : Array Value} {below : List Frame} {meth : Method} {c : Code} {H : Heap} {locs : List Loc} {cells slots : Nat} {Q : State → Prop} {D : va_G} {dA : Nat → ClassId} {B : Nat} {h h1 : am_H}
theorem tx_good : GoodIn am_Tg tx_ws := by
  intro w hw
  rcases List.mem_cons.mp hw with rfl | hw
  · exact ⟨tx_w.2.2.1, am_Tg_ok _ tx_w.2.2.1⟩
  · exact ⟨hw, am_Tg_ok _ hw⟩
theorem tx_runS {cc : ByteArray} {nL mc ms : Nat} {rm : Room} {Pc : Array Value → State → Prop} {Qc : Array Value → State → Outcome → State → Prop} {free : Addr → Prop} {As rest : List Value} {g : JFrame} (S : CallFix p m c cc nL s args am_Tg "EthernetGatesLaw") (hM : Met l tx_yW tx_ws rm Pc Qc mc ms free) (hrc : rm.cells = mc) (hrs : rm.slots = ms) (hfr : rm.frames + 1 ≤ R.frames) (hlo : 8 + (5 + 11) + rm.locals ≤ R.locals) (hp : PreS s H Pc As)
    (hg : g.method = m) (hn : As.length = 3) (hsize : g.locals.size = nL) (hstack : g.stack = As.reverse ++ rest) (hW : 2 * g.monitorRoom + (rest.map fun v => v.category).sum ≤ 8) (hdg : decode cc g.pc = .ok (.invokestatic 39, 3)) (hf : cells + mc ≤ R.cells ∧ slots + ms ≤ R.slots) :
    va_Run p l e R s m args below meth c H locs cells slots mc ms g rest (Qc As.toArray) (free) := by
  obtain ⟨hx, hb, hml, ho, hts⟩ := S
  have hini := hts _ tx_w.2.2.2.2.2.2.2.1
  have hcode := hts _ tx_w.2.2.1
  have hK : Back l R p e below s args tx_yW 3 8 (PreOf R mc ms Pc) (PostOf Qc mc ms free) := va_backW (hh := tx_hh) (bytes := method_3_code) (maxL := 5) (ret := some .int) hM hp.1 hrc hrs hfr hlo (pay_in hts tx_good) List.mem_cons_self (fun a' U hW => word_at hW (Or.inl rfl) hini)
  intro T hT X
  obtain ⟨m9, methY, cY, hn9, hmY, hcY, -, -, -, -, -, hsig⟩ := Cond.codeWith_spec hcode
  have hstatic : methY.isStatic = true := Cond.static_spec hn9 hmY (hts _ tx_w.2.2.2.2.2.2.2.2.2)
  obtain ⟨kP, hkP, -⟩ := className_of_methodNamed hn9
  have hinitP : kP.init = .initialized := Cond.initialized_spec (findClass_of_methodNamed hn9) hkP hini
  have hlen : As.length = methY.sig.parameters.length := by
    have e1 : (parseMethodDescriptor tx_yW.desc).map (fun d => d.parameters.length) = some 3 := by decide +kernel
    rw [hsig] at e1
    rw [hn]
    exact (Option.some.inj e1).symm
  obtain ⟨vm₁, X₁, hstep₁⟩ := X.invokestatic hx ho (hts _ tx_w.2.2.2.2.2.2.2.2.1) hn9 hmY hstatic hkP hinitP (by decide) (g := g) hg (argsL := As) (rest := rest) hlen hstack (by rw [hb]; exact hdg)
  obtain ⟨v, ⟨U', l2, c2, s2⟩, X', ⟨g', mk, t, L, e1, e2, hq, h1, hL, h2, h3⟩, hsteps⟩ := hK m meth c ⟨T.setVm vm₁, locs, cells, slots⟩ { g with stack := rest } (.invokestatic 39) m9 As.toArray X₁ hg (hsize.trans hml.symm) (by rw [hb]; exact hdg) hW (X₁.named hn9) ⟨hf.1, hf.2, hp.2 (T.setVm vm₁) hT X₁.warmed⟩
  dsimp only [Pt.U, Pt.locs, Pt.cells, Pt.slots] at X' e1 e2 h1 h2 h3 hsteps
  subst h1; subst h2; subst h3
  exact ⟨v, (T.setVm vm₁).calling g' mk As.toArray, t, U', L, hT, X', hL, e1, e2, hq, fun target h => hstep₁ _ fun acts => by rw [doInvoke_state]; exact hsteps.trans h⟩
end TS
