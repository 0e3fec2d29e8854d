/-! THE LAW'S START -/
theorem lw_inst : am_cl.all (fun q => decide (Cond.instantiable q.1 q.2.2 ∈ am_Ti)) = true := by decide +kernel
theorem lw_ao : ∀ x ∈ am_rc, Cond.arrayOver (.object (am_an x)) ∈ lw_tbl := by
  intro x hx
  have h : x = 0 ∨ x = 1 ∨ x = 2 ∨ x = 3 ∨ x = 4 := by simpa [am_rc] using hx
  rcases h with rfl | rfl | rfl | rfl | rfl
  · exact (List.mem_of_getElem? (i := 71) (by decide +kernel))
  · exact (List.mem_of_getElem? (i := 78) (by decide +kernel))
  · exact (List.mem_of_getElem? (i := 155) (by decide +kernel))
  · exact (List.mem_of_getElem? (i := 266) (by decide +kernel))
  · exact (List.mem_of_getElem? (i := 410) (by decide +kernel))
theorem lw_known {s : State} {args : Array Value} (hts : ∀ w ∈ lw_tbl, w.before args s = true) : ∃ (D : va_G) (dA : Nat → ClassId), va_K D am_cl (am_tys dA) s := by
  have h1 : ∀ c : Nat, ∃ (cC : ClassId) (iS : Nat → Nat), ∀ q : vw_C, am_cl[c]? = some q → u_Kn s q.1 q.2.1 q.2.2 cC iS := by
    intro c
    cases hq : am_cl[c]? with
    | none => exact ⟨(0 : Nat), fun _ => 0, fun q h => by cases h⟩
    | some q =>
      have hm := List.mem_of_getElem? hq
      obtain ⟨cC, iS, h⟩ := u_known (ws := lw_tbl) (s := s) (args := args) (C := q.1) (T := q.2.1) (N := q.2.2) (n := q.2.2) hts (fun w hw => am_Tx_in w (of_decide_eq_true (List.all_eq_true.mp (List.all_eq_true.mp am_lays_ok q hm) w hw))) (hts _ (am_Ti_in _ (of_decide_eq_true (List.all_eq_true.mp lw_inst q hm))))
      exact ⟨cC, iS, fun q' h' => by cases h'; exact h⟩
  obtain ⟨c0, k0, p0, a1, a2, a3⟩ := Cond.arrayClass_spec (hts (.arrayClass .int) (List.mem_of_getElem? (i := 117) (by decide +kernel)))
  obtain ⟨c1, k1, p1, b1, b2, b3⟩ := Cond.arrayClass_spec (hts (.arrayClass .long) (List.mem_of_getElem? (i := 118) (by decide +kernel)))
  have h2 : ∀ x : Nat, ∃ cA : ClassId, x ∈ am_rc → ArrOfT s cA (.object (am_an x)) ∧ va_RA s cA (.object (am_an x)) := by
    intro x
    by_cases hx : x ∈ am_rc
    · obtain ⟨comp, cA, kA, f1, -, f3, f4, f5⟩ := Cond.arrayOver_spec (hts _ (lw_ao x hx))
      exact ⟨cA, fun _ => ⟨fun N z => ⟨(fun k h => by cases h), kA, f3, comp, f4⟩, kA, comp, f3, f4, f1, f5⟩⟩
    · exact ⟨(0 : Nat), fun h => absurd h hx⟩
  refine ⟨(fun c => Classical.choose (h1 c), fun c => Classical.choose (Classical.choose_spec (h1 c))), fun k => if k = 0 then c0 else if k = 1 then c1 else Classical.choose (h2 (k - 2)), fun c q hq => Classical.choose_spec (Classical.choose_spec (h1 c)) q hq, fun k q hq => ?_⟩
  unfold am_tys at hq
  match k, hq with
  | 0, hq =>
    cases hq
    exact ⟨fun N z => ⟨(fun k h => by cases h), k0, a2, p0, a3⟩, a1⟩
  | 1, hq =>
    cases hq
    exact ⟨fun N z => ⟨(fun k h => by cases h), k1, b2, p1, b3⟩, b1⟩
  | k + 2, hq =>
    have hq : (am_rc.map (fun c => ((if 2 + c = 0 then c0 else if 2 + c = 1 then c1 else Classical.choose (h2 (2 + c - 2))), FieldType.object (am_an c))))[k]? = some q := hq
    rw [List.getElem?_map] at hq
    obtain ⟨x, hx, rfl⟩ := Option.map_eq_some_iff.mp hq
    have hm := List.mem_of_getElem? hx
    dsimp only
    rw [if_neg (by omega), if_neg (by omega), Nat.add_sub_cancel_left]
    exact Classical.choose_spec (h2 x) hm
/-- the heap at the law's entry -/
def am_h0 (b L t z : Nat) (xs : Nat → Int32) : am_H := (fun a => if a = b + 1 then 3 else if a = t + 1 then 4 else 0, fun a => if a = b + 1 then L else 0, fun _ _ => 0, fun _ _ => 0, fun f a => if f = 9000 ∧ a = 0 then t + 1 else 0, fun a j => if a = b + 1 then xs j else 0, fun _ _ => 0, fun _ _ => 0, z, 0, 0)
theorem lw_Ok {D : va_G} {dA : Nat → ClassId} {s : State} {b L t : Nat} {xs : Nat → Int32} (hX : va_X b L xs s s.heap) (hbl : b < s.heap.size) (hZ : va_Z "java/util/ArrayList" "DEFAULTCAPACITY_EMPTY_ELEMENTDATA" "[Ljava/lang/Object;" (.ref t) (fun q => s.heap.size ≤ q) s s.heap) (hT : va_T (.object "java/lang/Object") t 0 (fun _ => .null) (fun q => s.heap.size ≤ q) s s.heap) (hbt : ¬ b = t) : am_Ok D dA s.heap.size (am_h0 b L t s.heap.size xs) s s.heap := by
  have kT : ∀ a, am_T (am_h0 b L t s.heap.size xs) a = if a = b + 1 then 3 else if a = t + 1 then 4 else 0 := fun _ => rfl
  have kN : ∀ a, am_N (am_h0 b L t s.heap.size xs) a = if a = b + 1 then L else 0 := fun _ => rfl
  have kA : ∀ a j, am_aI (am_h0 b L t s.heap.size xs) a j = if a = b + 1 then xs j else 0 := fun _ _ => rfl
  have kR : am_R (am_h0 b L t s.heap.size xs) 9000 0 = t + 1 := rfl
  refine ⟨?_, rfl, fun a ha => ?_, ⟨fun a ha => ?_, ⟨t, kR, ?_, ?_, hZ, hT⟩, fun a ha => ?_⟩, [], fun a => ?_, fun k q hq => (by cases hq), ⟨fun i j p q hp => (by cases hp), fun k q hq => (by cases hq)⟩⟩
  · rw [kT, if_neg (by omega), if_neg (by omega)]
  · rw [kT] at ha
    split at ha
    · omega
    · split at ha <;> omega
  · rw [kT] at ha
    have hab : a = b := by
      split at ha
      · omega
      · split at ha <;> omega
    subst hab
    refine ⟨hbl, ?_⟩
    rw [kN, if_pos rfl]
    obtain ⟨scr, q1, q2, q3, q4, q5⟩ := hX
    exact ⟨scr, q1, q2, q3, q4, fun j hj => by rw [kA, if_pos rfl]; exact q5 j hj⟩
  · rw [kT, if_neg (by omega), if_pos rfl]
  · rw [kN, if_neg (by omega)]
  · rw [kT] at ha
    rw [kR]
    split at ha
    · omega
    · split at ha <;> omega
  · rw [kT]
    unfold am_ow
    constructor
    · intro q; cases q
    · intro q
      split at q
      · omega
      · split at q <;> omega
theorem tx_tabs : tx_T.all (fun w => w.onTables) = true := by decide +kernel
section LS
variable {p : Program} {e : Env} {s : State} {m : MethodId} {below : List Frame} {meth : Method} {c : Code}
theorem lw_Kw {D : va_G} {dA : Nat → ClassId} {args : Array Value} (hK : va_K D am_cl (am_tys dA) s) (hts : ∀ w ∈ lw_tbl, w.before args s = true) (hM : (Cond.isRef (.mirror "[Ljava/lang/Object;")).before args s = true) : am_Kw D dA s := by
  refine ⟨hK, fun w hw => ?_, fun x hx => va_AO.of (hts _ (lw_ao x hx)), va_Mi.of hM, va_Nw.of rfl (hts _ (List.mem_of_getElem? (i := 817) (by decide +kernel)))⟩
  have h1 := hts w (am_Tn_in w hw)
  rcases am_Tn_ok w hw with ⟨a, i, b, n, d, z, rfl⟩ | ⟨a, i, b, z, rfl⟩ | ⟨a, b, rfl⟩
  · exact va_Nw.of rfl h1
  · exact va_Nw.of rfl h1
  · exact va_Nw.of rfl h1
theorem lw_tx {D : va_G} {dA : Nat → ClassId} {args : Array Value} (hK : va_K D am_cl (am_tys dA) s) (hts : ∀ w ∈ lw_tbl, w.before args s = true) (h1 : (Cond.isRef (.static Bundle.tN "UNASSIGNED_STACK" Bundle.steD)).before args s = true) (h2 : (Cond.isRef (.static Bundle.tN "SUPPRESSED_SENTINEL" Bundle.listD)).before args s = true) : tx_W s.heap.size s := by
  refine ⟨fun w hw => va_Nw.of (List.all_eq_true.mp tx_tabs w hw) (hts w (tx_in w hw)), ?_, tx_Z_of (hts _ (List.mem_of_getElem? (i := 571) (by decide +kernel))) h1, tx_Z_of (hts _ (List.mem_of_getElem? (i := 573) (by decide +kernel))) h2, va_Nw.of rfl (hts _ (List.mem_of_getElem? (i := 544) (by decide +kernel))), va_Nw.of rfl (hts _ (List.mem_of_getElem? (i := 53) (by decide +kernel))), va_Nw.of rfl (hts _ (List.mem_of_getElem? (i := 539) (by decide +kernel)))⟩
  have hw : (Cond.stringRef "EthernetGates" 96 "a cycle has at least one tick").before args s = true := hts _ (List.mem_of_getElem? (i := 583) (by decide +kernel))
  have hc : s.vm.findClass "EthernetGates" = some (D.1 0) := (hK.1 0 (am_R0, am_F0, 11) rfl).2.1
  obtain ⟨k, cf, i, a, -, -, -, -, -, h⟩ := Cond.stringRef_spec hc hw
  exact ⟨a, vk_R.of hw h⟩
theorem whole_start (l : Launch) (hlT : l.stackTraces = false) {b L : Nat} {xs : Nat → Int32} (hL : L ≤ 3585) (C0 : lw_At p s m meth c b L xs) : W p l e room_1 s m #[Value.ref b] below meth c s.heap [] 0 0 (lw_Z below #[Value.ref b] s) (entryFrame m ([Value.ref b] : List Value).toArray 7) := by
  obtain ⟨hx, hb, hr, hml, hown, hts, hX, hbl, hlocks, hgv⟩ := C0
  have hs := flat_of_before _ hgv
  obtain ⟨D, dA, hK⟩ := lw_known hts
  have hA : ∀ a : Nat, a < s.heap.size → ¬ s.heap.size ≤ a := fun a ha => Nat.not_le.mpr ha
  have g1 : (Cond.arrayOf (.static "java/util/ArrayList" "DEFAULTCAPACITY_EMPTY_ELEMENTDATA" "[Ljava/lang/Object;") (.object "java/lang/Object")).before #[Value.ref b] s = true := hs _ (by decide +kernel)
  have g2 : (Cond.eq (.length (.static "java/util/ArrayList" "DEFAULTCAPACITY_EMPTY_ELEMENTDATA" "[Ljava/lang/Object;")) (.int 0)).before #[Value.ref b] s = true := hs _ (by decide +kernel)
  have g3 : (Cond.isRef (.mirror "[Ljava/lang/Object;")).before #[Value.ref b] s = true := hs _ (by decide +kernel)
  have g4 : (Cond.isRef (.static Bundle.tN "UNASSIGNED_STACK" Bundle.steD)).before #[Value.ref b] s = true := hs _ (by decide +kernel)
  have g5 : (Cond.isRef (.static Bundle.tN "SUPPRESSED_SENTINEL" Bundle.listD)).before #[Value.ref b] s = true := hs _ (by decide +kernel)
  obtain ⟨t, ht, hT⟩ := va_Tof (N := 0) (f := fun _ => .null) (A := fun q => s.heap.size ≤ q) (by decide) g1 (va_eqt g2) (fun j hj => absurd hj (Nat.not_lt_zero j)) hA
  have hZ : va_Z "java/util/ArrayList" "DEFAULTCAPACITY_EMPTY_ELEMENTDATA" "[Ljava/lang/Object;" (.ref t) (fun q => s.heap.size ≤ q) s s.heap := va_Zref (hts _ (List.mem_of_getElem? (i := 169) (by decide +kernel))) (hts _ (List.mem_of_getElem? (i := 47) (by decide +kernel))) ht hA
  have htl : t < s.heap.size := Nat.not_le.mp hT.out
  have hbt : ¬ b = t := by
    rintro rfl
    obtain ⟨scr, q1, q2, -⟩ := hX
    obtain ⟨cell, r1, r2, -⟩ := hT
    cases q1.symm.trans r1
    obtain ⟨-, k1, e1, p1, f1⟩ := q2
    obtain ⟨-, k2, e2, p2, f2⟩ := r2
    cases e1.symm.trans e2
    cases f1.symm.trans f2
  have hOk := lw_Ok (D := D) (dA := dA) hX hbl hZ hT hbt
  have hKw := lw_Kw hK hts g3
  have hTw := lw_tx hK hts g4 g5
  have F : am_Fx p s m #[Value.ref b] meth c D dA s.heap.size "EthernetGatesLaw" code 7 false := ⟨hx, hb, hml, hown, fun w hw => hts w (am_Tg_in w hw), hKw, fun h => absurd h (by decide), Nat.le_refl _⟩
  obtain ⟨ls, hen, hlk⟩ := am_en_ok (mid := mi_W_law) (mL := 7) (as := [.inr (.inr (b + 1))]) rfl (show (1 : Nat) ≤ 7 by decide)
  rw [show entryFrame m ([Value.ref b] : List Value).toArray 7 = F0 m 0 ls [] from hen m]
  have kT : am_T (am_h0 b L t s.heap.size xs) (b + 1) = 3 := if_pos rfl
  have kN : am_N (am_h0 b L t s.heap.size xs) (b + 1) = L := if_pos rfl
  have kR : am_R (am_h0 b L t s.heap.size xs) 9000 0 = t + 1 := rfl
  have kZ : am_Z (am_h0 b L t s.heap.size xs) = s.heap.size := rfl
  have kT4 : am_T (am_h0 b L t s.heap.size xs) (t + 1) = 4 := by
    show (if t + 1 = b + 1 then 3 else if t + 1 = t + 1 then 4 else 0) = 4
    rw [if_neg (by omega), if_pos rfl]
  have kN4 : am_N (am_h0 b L t s.heap.size xs) (t + 1) = 0 := by
    show (if t + 1 = b + 1 then L else 0) = 0
    rw [if_neg (by omega)]
  have G0 : lg_G p l e s m below meth c D dA b 0 [some (.inr (.inr (b + 1))), none, none, none, none, none, none] [] (am_h0 b L t s.heap.size xs) := by
    refine lw_go F hr hlocks (lo_0 (l0 := b + 1) (h := am_h0 b L t s.heap.size xs) ⟨by omega, by rw [kZ]; omega⟩ kT (by rw [kN]; exact hL) (by rw [kR, kT4, kN4, kZ]; exact ⟨by omega, rfl, rfl⟩) rfl rfl (fun hF n q1 q2 q3 q4 q5 => ?_))
    obtain ⟨e1, e2, -⟩ := q5 (b + 1) (show b + 1 < am_Z (am_h0 b L t s.heap.size xs) + 1 by rw [kZ]; omega)
    exact lw_loop F hr hlocks hTw hlT hL (l0 := b + 1) (x := am_Z (am_h0 b L t s.heap.size xs) + 1) (by rw [kZ]; omega) 512 0 hF s00 none none (by omega) (by omega) q1 q2 (by decide) (by rw [e1]; exact kT) (by rw [e2]; exact kN) q3 q4
  exact G0.2.2 s.heap [] ls 0 0 hOk va_S.rf hlk rfl rfl
end LS
set_option maxHeartbeats 4000000 in
theorem lw_walk (l : Launch) (hlT : l.stackTraces = false) (b : Addr) (xs : List Int32) : MetFree l x (headSpec (Jvm.Cond.code x code maxLocals ret :: tables_1) room_1) (lw_P b xs) (fun _ _ _ _ _ => True) lw_Q := by
  refine MetFree.of_bodyS (code := code) (maxLocals := maxLocals) (ret := ret) (by decide) ?_ ?_
  · intro args s m h hn
    obtain ⟨meth, c, h1, h2, h3, h4, h5, h6, -, -⟩ := Cond.code_spec hn (atoms_spec (ws := Jvm.Cond.code x code maxLocals ret :: tables_1) h _ List.mem_cons_self)
    exact ⟨meth, c, h1, h2, h3, h4, h5, h6⟩
  · intro p e s m args below meth c s₁ B hml0 hP _
    obtain ⟨rfl, hx, hbd, hgv⟩ := hP
    obtain ⟨scr, harrAt, hlist, hof, hsmall⟩ := hx
    obtain ⟨hcb, hkn, -, -⟩ := State.arrayAt?_spec harrAt
    have hown : s.vm.findClass R_law = some m.cls := findClass_of_methodNamed B.named
    have hts0 : ∀ c ∈ (Jvm.Cond.code x code maxLocals ret :: tables_1), c.before #[Value.ref b] s = true := atoms_spec (ws := Jvm.Cond.code x code maxLocals ret :: tables_1) B.pre
    have hts : ∀ w ∈ lw_tbl, w.before #[Value.ref b] s = true := k2_hts_sels lw_privs (fun w hw => hts0 w (List.mem_cons_of_mem _ hw)) lw_privs_ok
    have hml : c.maxLocals = 7 := B.maxLocals_eq (hts0 _ List.mem_cons_self)
    have X₀ : Stand p l e room_1 s m #[Value.ref b] below meth c s₁ [] 0 0 := Stand.of_body B
    have hh0 : s₁.heap = s.heap := by rw [B.state]; rfl
    have hsz : scr.slots.size = xs.length := by rw [← Array.length_toList, hlist, List.length_map]
    have hval : ∀ j : Nat, j < xs.length → scr.slots[j]? = some (.int (xs.getD j 0)) := fun j hj => by
      rw [← Array.getElem?_toList, hlist]
      simp [hj]
    have hbl : b < s.heap.size := (Array.getElem?_eq_some_iff.mp hcb).1
    have hX : va_X b xs.length (fun j => xs.getD j 0) s s.heap := ⟨scr, hcb, hof, hkn, hsz, hval⟩
    have K : W p l e room_1 s m #[Value.ref b] below meth c s₁.heap [] 0 0 (lw_Z below #[Value.ref b] s) (entryFrame m ([Value.ref b] : List Value).toArray 7) := by
      rw [hh0]
      exact whole_start l hlT hbd ⟨B.exec, B.bytes, B.returns, hml, hown, hts, hX, hbl, B.notSynchronized, hgv⟩
    obtain ⟨t, a1, o, b1, b2, b3⟩ := K s₁ rfl X₀
    exact ⟨t, o, a1, b1, b2, b3⟩
theorem lw_pre_spec {args : Array Value} {s : State} (h : (Jvm.Cond.and given_1 narrow_1).before args s = true) (hr : rest_1_c.before args s = true) : ∃ (b : Addr) (xs : List Int32), lw_P b xs args s := by
  have hs := flat_of_before _ h
  have hq := flat_of_before _ hr
  have hc : (Cond.count 1).before args s = true := hs _ (by decide +kernel)
  have harr : (Cond.arrayOf (.arg 0) .int).before args s = true := hs _ (by decide +kernel)
  have hle : (Cond.le (.length (.arg 0)) (.int 3585)).before args s = true := hs _ (by decide +kernel)
  have hlen : (Cond.isInt (.length (.arg 0))).before args s = true := hq _ (by decide +kernel)
  have hall : (Cond.all (.arg 0) (.isInt (.elem (.arg 0) (.index 0)))).before args s = true := hq _ (by decide +kernel)
  obtain ⟨b, xs, hb, hx⟩ := State.ints_of_pre rfl harr hlen hall
  have hsm : xs.length < 2 ^ 31 := hx.choose_spec.2.2.2
  have hev : (Term.length (.arg 0)).eval args s none [] s = some (.int xs.length.toInt32) := hx.length_eval hb
  have hv := Cond.le_ints hev (show (Term.int 3585).eval args s none [] s = some (.int 3585) from rfl)
  have hd : xs.length.toInt32 ≤ 3585 := by
    simpa [Cond.before, Cond.holds, hv] using hle
  have hN : xs.length ≤ 3585 := (Int32.ofNat_le_ofNat hsm (by decide)).mp (show Int32.ofNat xs.length ≤ Int32.ofNat 3585 from hd)
  exact ⟨b, xs, Cond.one_arg hc (show args[0]? = some (.ref b) from hb), hx, hN, h⟩
theorem lw_comes (l : Launch) (hlT : l.stackTraces = false) : Comes l x (Jvm.Cond.code x code maxLocals ret :: tables_1) room_1 (fun tb e args s => Calls_1 tb e args s ∧ rest_1 tb e args s ∧ Pre_1 tb e args s)
    (fun _ _ args s o t => lw_Q args s o t) := by
  intro p e ha hc hk s m args below hf hfit hheap happ hpre
  obtain ⟨b, xs, hP⟩ := lw_pre_spec hpre.2.2 hpre.2.1
  obtain ⟨k, o, h1, h2, h3, hQ⟩ := lw_walk l hlT b xs p e ha hc hk s m args below hf ((Spec.applies_iff_loose hf).mp happ).1 hP trivial
  exact ⟨k, o, h1, h2, h3, hQ⟩
theorem lw_frame {s t : State} {o : Outcome} {args : Array Value} (h : Framed s o t [] 601024 7293000) :
    Framed s o t (fieldLocs frame_1_writes args s ++ arrayLocs frame_1_arrays args s ++ staticLocs frame_1_statics s) 601024 7293000 := h
theorem lw_limb (L : Cond) (hL : ∀ (args : Array Value) (s t : State), L.after args s (.returned (some (.int 1))) t = true) :
    ArmFor flags0 classFile x code maxLocals ret World_1 tables_1 room_1 Calls_1 rest_1 Pre_1
      (fun tb e a s o t => postC L tb e a s o t ∧ Framed s o t (fieldLocs frame_1_writes a s ++ arrayLocs frame_1_arrays a s ++ staticLocs frame_1_statics s) 601024 7293000) := by
  intro l hfl _ _ p e ha hc hk s m args below hf hfit hheap happ hpre
  have hlT : l.stackTraces = false := by unfold Launch.stackTraces; rw [hfl]; decide
  obtain ⟨k, o, h1, h2, h3, rfl, hF⟩ := lw_comes l hlT p e ha hc hk s m args below hf hfit hheap happ hpre
  exact ⟨k, _, h1, h2, h3, hL args s _, lw_frame hF⟩
theorem i_vc : Claimed_1_1 ∧ Claimed_1_2 := ⟨lw_limb limb_1_1 (fun args s t => by simp [limb_1_1, Cond.after, Cond.holds, Cond.value]), lw_limb limb_1_2 (fun args s t => Cond.after_iff.mpr (by
  first | (rw [show limb_1_2 = Cond.eq .result (.int 1) from rfl, Cond.eq_ints (x := 1) (y := 1) rfl rfl]; simp; done) | (simp [limb_1_2, Cond.value, Term.eval]; done)))⟩
