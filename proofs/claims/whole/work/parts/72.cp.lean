/-! Arrays.copyOf: its contract, over the machine -/
section AMCP
variable {p : Program} {l : Launch} {e : Env} {R : Room} {s : State} {m : MethodId} {args : Array Value} {below : List Frame} {meth : Method} {c : Code} {H : Heap} {locs : List Loc} {cells slots : Nat} {Q : State → Prop}
variable {cc : ByteArray} {pc : Nat} {ls : Array Slot} {rest : List Value} {D : va_G} {dA : Nat → ClassId} {B : Nat} {h h' : am_H} {own : String}
/-- what lies in an array of objects may be put into another one -/
theorem cp_any (args : Array Value) (hK : va_K D am_cl (am_tys dA) s) (hN9 : ∀ w ∈ am_Tn, va_Nw w s) (hO : am_Ok D dA B h s H) {v y : Nat} (hv : am_o v = some y) (hT : 10 ≤ am_T h v ∧ am_asg 4 (am_T h v - 10) = true) : va_Any "java/lang/Object" s H y := by
  obtain ⟨q, hc, hx9, hasg⟩ := am_asg_ok hT.2
  obtain ⟨b, rfl, L2, k2, hL2, hP2, hD2, hb2, hkb⟩ := am_pos hO (r := v) (by unfold am_ow; omega)
  have hy : b = y := by simpa [am_o] using hv
  subst hy
  have hTb : am_T h (b + 1) = 10 + (am_T h (b + 1) - 10) := by omega
  rw [am_e_o hTb hx9] at hkb
  refine va_rAny hK hP2 hkb hc (fun comp c0 f1 f2 => ?_)
  rcases hasg with hasg | hasg
  · have hno : ∀ z ∈ am_cl, z.1 ≠ "java/lang/Object" := by decide +kernel
    exact absurd hasg.symm (hno q (List.mem_of_getElem? hc))
  · obtain ⟨c1, t1, w1, w2, w3⟩ := Cond.castable_spec (va_Nw.use (A := args) rfl (hN9 _ hasg))
    cases Option.some.inj (f2.symm.trans w1)
    cases Option.some.inj (f1.symm.trans w2)
    exact w3
theorem cp_nn {z : Int32} (hz : ¬ z < 0) : z.toInt = (z.toNatClampNeg : Int) := by
  have hz0 : (0 : Int) ≤ z.toInt := by
    have := Int32.not_lt.mp hz
    simpa using Int32.le_iff_toInt_le.mp this
  show z.toInt = ((z.toInt.toNat : Nat) : Int)
  omega
/-- System.arraycopy of the first k places, of an array of objects to another one -/
theorem am_w_copy (hx : p.tables.exec = Jvm.exec) (hb : c.code = cc) (hml : c.maxLocals = ls.size) (hts : ∀ w ∈ am_Tg, w.before args s = true) (hown : s.vm.findClass own = some m.cls) {index : Nat} (hlk : Cond.methodLink own index arraycopyName ∈ am_Tg) (hnat : Cond.native arraycopyName ∈ am_Tg) (hst : Cond.static arraycopyName ∈ am_Tg) (hin : Cond.initialized "java/lang/System" ∈ am_Tg)
    (hKw : am_Kw D dA s) (hO : am_Ok D dA B h s H) (hS : va_S (fun q => B ≤ q) s.heap H locs) {r z : Nat} {k : Int32} (hr : am_T h r = 104) (hz : am_T h z = 104) (hne : ¬ r = z) (h3 : ¬ k < 0) (h4 : k.toNatClampNeg ≤ am_N h r) (h5 : k.toNatClampNeg ≤ am_N h z) (hel : ∀ j, j < k.toNatClampNeg → am_aR h r j = 0 ∨ (10 ≤ am_T h (am_aR h r j) ∧ am_asg 4 (am_T h (am_aR h r j) - 10) = true))
    (e1 : am_T h' = am_T h) (e2 : am_N h' = am_N h) (e3 : am_aI h' = am_aI h) (e4 : am_aJ h' = am_aJ h) (e5 : ∀ b, ¬ b = z → am_aR h' b = am_aR h b) (e6 : ∀ j, am_aR h' z j = if j < k.toNatClampNeg then am_aR h r j else am_aR h z j) (e7 : ∀ u f b, am_gt u h' f b = am_gt u h f b) (e8 : am_R h' 9000 0 = am_R h 9000 0) (e9 : am_Z h' = am_Z h)
    (hframes : 1 ≤ R.frames) (hlocals : (rest.map fun v => v.category).sum + (nativeFrameWords "java/lang/System" "arraycopy" 5 + 11) ≤ R.locals) (hdg : decode cc pc = .ok (.invokestatic index, 3))
    (kk : ∀ (H1 : Heap) (locs1 : List Loc), am_Ok D dA B h' s H1 → va_S (fun q => B ≤ q) s.heap H1 locs1 → W p l e R s m args below meth c H1 locs1 cells slots Q (F0 m (pc + 3) ls rest)) : W p l e R s m args below meth c H locs cells slots Q (F0 m pc ls (.int k :: .int 0 :: am_v2 (.inr (.inr z)) :: .int 0 :: am_v2 (.inr (.inr r)) :: rest)) := by
  have hK := hKw.1
  obtain ⟨a, rfl, L, q1, hL, hP, hD, ha, hk1⟩ := am_pos hO (r := z) (by unfold am_ow; omega)
  obtain ⟨a0, rfl, L0, q0, hL0, hP0, hD0, ha0, hk0⟩ := am_pos hO (r := r) (by unfold am_ow; omega)
  have hk1' := hk1
  rw [am_e_q (by omega), hz] at hk1
  rw [am_e_q (by omega), hr] at hk0
  have h4m : (4 : Nat) ∈ am_rc := by decide
  obtain ⟨hA1, hA2⟩ := am_tyq (dA := dA) hK h4m
  have z0 : (0 : Int32).toNatClampNeg = 0 := rfl
  have hc0 : H[a0]? = some (vp_cell (dA (2 + 4)) (am_N h (a0 + 1), .inr (.inr (.inr (.inr (fun j => am_o (am_aR h (a0 + 1) j))))))) := hP0 q0 _ hk0
  have hc1 : H[a]? = some (vp_cell (dA (2 + 4)) (am_N h (a + 1), .inr (.inr (.inr (.inr (fun j => am_o (am_aR h (a + 1) j))))))) := hP q1 _ hk1
  rw [am_v2_ref, am_v2_ref]
  intro T hT X
  obtain ⟨-, k0, hk0', cm0, hkk0⟩ := hA1 (am_N h (a0 + 1)) (fun j => va_rf (am_o (am_aR h (a0 + 1) j)))
  obtain ⟨-, k1, hk1'', cm1, hkk1⟩ := hA1 (am_N h (a + 1)) (fun j => va_rf (am_o (am_aR h (a + 1) j)))
  obtain ⟨vm', X', step⟩ := X.arraycopy hx hown (hts _ hlk) (hts _ hnat) (hts _ hst) (hts _ hin) (src := a0) (dst := a) (cs := vp_cell (dA (2 + 4)) (am_N h (a0 + 1), .inr (.inr (.inr (.inr (fun j => am_o (am_aR h (a0 + 1) j))))))) (cd := vp_cell (dA (2 + 4)) (am_N h (a + 1), .inr (.inr (.inr (.inr (fun j => am_o (am_aR h (a + 1) j))))))) (srcPos := 0) (destPos := 0) (n := k) (by rw [hT]; exact hc0) (by rw [hT]; exact hc1)
    (fun _ h => by cases h) (fun _ h => by cases h) (fun h => by cases h) (fun h => by cases h) hk0' hk1'' hkk0 hkk1 rfl (by decide) (by decide) h3
    (by rw [cp_nn h3]; show ¬ (0 : Int) + _ > ((arrV _ (am_N h (a0 + 1)) _).slots.size : Int); rw [arrV_size]; omega)
    (by rw [cp_nn h3]; show ¬ (0 : Int) + _ > ((arrV _ (am_N h (a + 1)) _).slots.size : Int); rw [arrV_size]; omega)
    (fun vm₁ hal i hi => by
      have eg : (vp_cell (dA (2 + 4)) (am_N h (a0 + 1), .inr (.inr (.inr (.inr (fun j => am_o (am_aR h (a0 + 1) j))))))).slots.getD ((0 : Int32).toNatClampNeg + i) .null = va_rf (am_o (am_aR h (a0 + 1) i)) := by
        show (arrV _ (am_N h (a0 + 1)) (fun j => va_rf (am_o (am_aR h (a0 + 1) j)))).slots.getD _ _ = _
        rw [z0, Nat.zero_add, Array.getD_eq_getD_getElem?, arrV_read _ _ (by omega)]
        rfl
      rw [eg]
      cases hy : am_o (am_aR h (a0 + 1) i) with
      | none => exact ⟨rfl, trivial⟩
      | some y =>
        have hTy : 10 ≤ am_T h (am_aR h (a0 + 1) i) ∧ am_asg 4 (am_T h (am_aR h (a0 + 1) i) - 10) = true := by
          rcases hel i hi with q | q
          · rw [q] at hy; cases hy
          · exact q
        obtain ⟨cellV, g1, g2, ⟨kC, hkC⟩, hasg⟩ := cp_any args hK hKw.2.1 hO hy hTy
        obtain ⟨kA, comp, r1, r2, r3, -⟩ := hA2
        cases hk1''.symm.trans r1
        cases hkk1.symm.trans r2
        obtain ⟨kE, hkE, -⟩ := Vm.findClass_spec r3
        obtain ⟨kC', hkC', -⟩ := hal.2.2 _ _ hkC
        obtain ⟨kE', hkE', -⟩ := hal.2.2 _ _ hkE
        refine ⟨rfl, cellV, (show T.heap[y]? = some cellV by rw [hT]; exact g1), (fun q h => by rw [h] at g2; cases g2), ⟨kC', hkC'⟩, ?_, ?_⟩
        · exact ⟨kE', hkE'⟩
        · show vm₁.assignable _ _ = true
          rw [hal.assignable]
          exact hasg _ r3)
    (g := F0 m pc ls (.int k :: .int 0 :: .ref a :: .int 0 :: .ref a0 :: rest)) rfl (by rw [hml]) (rest := rest) rfl (by rw [hb]; exact hdg) hframes (by show 2 * 0 + _ + _ ≤ _; omega)
  have ec : copied (vp_cell (dA (2 + 4)) (am_N h (a0 + 1), .inr (.inr (.inr (.inr (fun j => am_o (am_aR h (a0 + 1) j))))))) (vp_cell (dA (2 + 4)) (am_N h (a + 1), .inr (.inr (.inr (.inr (fun j => am_o (am_aR h (a + 1) j))))))) 0 0 k = vp_cell (dA (2 + 4)) (am_N h (a + 1), .inr (.inr (.inr (.inr (va_cpy (fun j => am_o (am_aR h (a0 + 1) j)) (fun j => am_o (am_aR h (a + 1) j)) 0 0 k.toNatClampNeg))))) := by
    rw [vp_cell_q, vp_cell_q, vp_cell_q]
    exact va_copied (fun z => va_rf z) _ _ _ _ (by rw [z0]; omega)
  rw [ec] at X' step
  have hl : a < H.size := (Array.getElem?_eq_some_iff.mp hc1).1
  generalize hH1 : H.setIfInBounds a (vp_cell (dA (2 + 4)) (am_N h (a + 1), .inr (.inr (.inr (.inr (va_cpy (fun j => am_o (am_aR h (a0 + 1) j)) (fun j => am_o (am_aR h (a + 1) j)) 0 0 k.toNatClampNeg)))))) = H1
  have hheap : ((T.setVm vm').setCell a (vp_cell (dA (2 + 4)) (am_N h (a + 1), .inr (.inr (.inr (.inr (va_cpy (fun j => am_o (am_aR h (a0 + 1) j)) (fun j => am_o (am_aR h (a + 1) j)) 0 0 k.toNatClampNeg))))))).heap = H1 := by rw [← hH1, ← hT]; rfl
  have oq : ∀ q : Nat, q ≠ a → H1[q]? = H[q]? := fun q hq => by rw [← hH1]; simp [Array.getElem?_setIfInBounds, Ne.symm hq]
  have os : H1.size = H.size := by rw [← hH1]; simp
  have o1 : H1[a]? = some (vp_cell (dA (2 + 4)) (am_N h (a + 1), .inr (.inr (.inr (.inr (va_cpy (fun j => am_o (am_aR h (a0 + 1) j)) (fun j => am_o (am_aR h (a + 1) j)) 0 0 k.toNatClampNeg)))))) := by rw [← hH1]; simp [Array.getElem?_setIfInBounds, hl]
  have he : ∀ b, va_up (am_e dA h) a (.inl (dA (2 + 4), am_N h (a + 1), .inr (.inr (.inr (.inr (va_cpy (fun j => am_o (am_aR h (a0 + 1) j)) (fun j => am_o (am_aR h (a + 1) j)) 0 0 k.toNatClampNeg)))))) b = am_e dA h' b := by
    intro b
    by_cases hb' : b = a
    · subst hb'
      rw [va_up_self, am_e_q (h := h') (by rw [e1]; omega), e1, e2, hz]
      have : va_cpy (fun j => am_o (am_aR h (a0 + 1) j)) (fun j => am_o (am_aR h (b + 1) j)) 0 0 k.toNatClampNeg = fun j => am_o (am_aR h' (b + 1) j) := by
        funext j
        rw [e6]
        unfold va_cpy
        by_cases hj : j < k.toNatClampNeg
        · rw [if_pos ⟨Nat.zero_le _, by omega⟩, if_pos hj, Nat.zero_add, Nat.sub_zero]
        · rw [if_neg (fun z => hj (by omega)), if_neg hj]
      rw [this]
    · rw [va_up_ne _ _ hb']
      exact (am_e_same (by rw [e1]) (by rw [e2]) (by rw [e3]) (by rw [e4]) (e5 _ (by omega)) (fun u f => e7 u f _)).symm
  obtain ⟨t, a1, b1⟩ := kk H1 _ (am_Ok_set hO hL hD ha hk1' e1 e2 (fun b _ => by rw [e3]) e8 e9 he os oq (hP.set hD hk1' o1 oq) (hD.set hk1')) ⟨by rw [os]; exact hS.1, fun q g1 g2 => by
      rw [oq q (fun e => g2 (by rw [e]; exact hD.2 q1 _ hk1'))]
      exact hS.2.1 q g1 g2, fun q hq => by
      rcases List.mem_append.mp hq with h | h
      · exact hS.2.2 q h
      · obtain ⟨z, -, hz⟩ := List.mem_map.mp h
        rw [← hz]
        exact hD.2 q1 _ hk1'⟩ _ hheap X'
  exact ⟨t, step t a1, b1⟩
end AMCP
/-! the two methods -/
def cp_y2 : MethodName := ⟨"java/util/Arrays", "copyOf", "([Ljava/lang/Object;I)[Ljava/lang/Object;"⟩
def cp_y3 : MethodName := ⟨"java/util/Arrays", "copyOf", "([Ljava/lang/Object;ILjava/lang/Class;)[Ljava/lang/Object;"⟩
abbrev cp_rt : Option FieldType := some (.array (.object "java/lang/Object"))
theorem cp_w : Cond.code cp_y3 prog_22_method_120_code 4 cp_rt ∈ am_Tg ∧ Cond.methodLink "java/util/Arrays" 150 arraycopyName ∈ am_Tg ∧ Cond.native arraycopyName ∈ am_Tg ∧ Cond.static arraycopyName ∈ am_Tg ∧ Cond.initialized "java/lang/System" ∈ am_Tg ∧ Cond.initialized "java/util/Arrays" ∈ am_Tg ∧ Cond.classLink "java/util/Arrays" 110 "[Ljava/lang/Object;" ∈ am_Tg ∧ Cond.methodLink "java/util/Arrays" 300 cp_y3 ∈ am_Tg ∧ Cond.static cp_y3 ∈ am_Tg ∧ Cond.methodLink "java/util/Arrays" 86 am_getC ∈ am_Tg ∧ Cond.selects "[Ljava/lang/Object;" am_getC am_getC ∈ am_Tg ∧ Cond.instanceMethod am_getC ∈ am_Tg ∧ Cond.native am_getC ∈ am_Tg :=
  ⟨am_iQ (by decide +kernel), am_iM (by decide +kernel), am_iK (by decide +kernel), am_iK (by decide +kernel), am_iI (by decide +kernel), am_iI (by decide +kernel), am_iC (by decide +kernel), am_iM (by decide +kernel), am_iK (by decide +kernel), am_iM (by decide +kernel), am_iK (by decide +kernel), am_iK (by decide +kernel), am_iK (by decide +kernel)⟩
section AMCQ
variable {l : Launch} {D : va_G} {dA : Nat → ClassId} {B : Nat}
/-- an array of objects in hand -/
theorem cp_recv {h : am_H} {s : State} {H : Heap} (hK : va_K D am_cl (am_tys dA) s) (hO : am_Ok D dA B h s H) {a : Nat} (hT : am_T h (a + 1) = 104) : ∃ cell : Cell, H[a]? = some cell ∧ cell.vm.isStatics = false ∧ s.vm.findClass "[Ljava/lang/Object;" = some cell.cls := by
  obtain ⟨a', e, L, k, hL, hP, hD, ha, hk⟩ := am_pos hO (r := a + 1) (by unfold am_ow; omega)
  cases e
  rw [am_e_q (by omega), hT] at hk
  refine ⟨_, hP k _ hk, rfl, ?_⟩
  obtain ⟨kA, comp, k1, k2, k3, k4⟩ := (am_tyq (dA := dA) hK (show (4 : Nat) ∈ am_rc by decide)).2
  exact k4
theorem cp_3 {d a : Nat} {n : Int32} {h : am_H} {mi : Nat} (hd : 1 ≤ d) (hT : am_T h a = 104) (hn : ¬ n < 0) (hn1 : n.toNatClampNeg ≤ 1000000) (hNa : am_N h a ≤ 1000000) (hel : ∀ j, j < am_N h a → am_aR h a j = 0 ∨ (10 ≤ am_T h (am_aR h a j) ∧ am_asg 4 (am_T h (am_aR h a j) - 10) = true)) :
    Met l cp_y3 (Cond.code cp_y3 prog_22_method_120_code 4 cp_rt :: am_Tg) (am_rm d (am_C (am_cp h a n.toNatClampNeg) - am_C h) (am_S (am_cp h a n.toNatClampNeg) - am_S h)) (fun as U => va_Pc (([.inr (.inr a), .inl n, .inr (.inr (mi + 1))] : am_Sk).map am_v2) (am_Pb D dA B h) as U ∧ va_Mi "[Ljava/lang/Object;" mi U) (am_Qb D dA B (some (.inr (.inr (am_Z h + 1)))) (am_cp h a n.toNatClampNeg)) (am_C (am_cp h a n.toNatClampNeg) - am_C h) (am_S (am_cp h a n.toNatClampNeg) - am_S h) (fun q => B ≤ q) := by
  refine Met.ofW (cc := prog_22_method_120_code) (maxL := 4) (ret := cp_rt) (by decide) rfl ?_
  intro p e s m args below meth c s₁ B9 hml9 hv
  obtain ⟨⟨hargs, hO, hB, hKw⟩, hMi⟩ := hv
  have hts := atoms_spec (ws := Cond.code cp_y3 prog_22_method_120_code 4 cp_rt :: am_Tg) B9.pre
  have hts' : ∀ w ∈ am_Tg, w.before args s = true := fun w hw => hts w (List.mem_cons_of_mem _ hw)
  have hown : s.vm.findClass "java/util/Arrays" = some m.cls := findClass_of_methodNamed B9.named
  obtain ⟨ls, hen, hl⟩ := am_en_ok (mid := mi_X_init) (mL := 4) (as := [.inr (.inr a), .inl n, .inr (.inr (mi + 1))]) rfl (show (3 : Nat) ≤ 4 by decide)
  rw [show entryFrame m args 4 = F0 m 0 ls [] from by rw [hargs]; exact hen m]
  have F : am_Fx p s m args meth c D dA B "java/util/Arrays" prog_22_method_120_code 4 false := ⟨B9.exec, B9.bytes, hml9, hown, hts', hKw, fun hi => absurd hi (by decide), hB⟩
  have hc1 : am_C (am_cp h a n.toNatClampNeg) = am_C h + 1 := rfl
  have hs1 : am_S (am_cp h a n.toNatClampNeg) = am_S h + n.toNatClampNeg := rfl
  generalize hR : am_rm d (am_C (am_cp h a n.toNatClampNeg) - am_C h) (am_S (am_cp h a n.toNatClampNeg) - am_S h) = R
  have hRf : R.frames = d + 1 := by rw [← hR]; rfl
  have hRl : R.locals = 36 * d + 30 := by rw [← hR]; rfl
  have hRc : R.cells = 1 := by rw [← hR]; show am_C h + 1 - am_C h = 1; omega
  have hRs : R.slots = n.toNatClampNeg := by rw [← hR]; show am_S h + n.toNatClampNeg - am_S h = _; omega
  have hRm : 1 ≤ R.frames ∧ 23 ≤ R.locals := by omega
  generalize hQ9 : MQ below (am_Qb D dA B (some (.inr (.inr (am_Z h + 1)))) (am_cp h a n.toNatClampNeg)) args s (am_C (am_cp h a n.toNatClampNeg) - am_C h) (am_S (am_cp h a n.toNatClampNeg) - am_S h) (fun q => B ≤ q) = Q9
  have hna : ¬ a = am_Z h + 1 := fun z => by
    obtain ⟨a', rfl, L, k, hL, hP, hD, ha, hk⟩ := am_pos hO (r := a) (by unfold am_ow; omega)
    rw [am_e_q (by omega)] at hk
    have h9 := (Array.getElem?_eq_some_iff.mp (hP k _ hk)).1
    have h8 := hO.2.1
    omega
  have T1 : am_T (am_nA h 104 n.toNatClampNeg) a = 104 := by rw [hp_T_nA, if_neg hna]; exact hT
  have T2 : am_T (am_nA h 104 n.toNatClampNeg) (am_Z h + 1) = 104 := by rw [hp_T_nA, if_pos rfl]
  have N1 : am_N (am_nA h 104 n.toNatClampNeg) a = am_N h a := by rw [hp_N_nA, if_neg hna]
  have N2 : am_N (am_nA h 104 n.toNatClampNeg) (am_Z h + 1) = n.toNatClampNeg := by rw [hp_N_nA, if_pos rfl]
  -- the end
  have g39 : am_G p l e R s m args below meth c Q9 D dA B 4 (am_C h) (am_S h) 39 [some (.inr (.inr a)), some (.inl n), some (.inr (.inr (mi + 1))), some (.inr (.inr (am_Z h + 1)))] [.inr (.inr (am_Z h + 1))] (am_cp h a n.toNatClampNeg) := by
    intro HH locs ls cells slots hO hS hl hc hs
    obtain rfl : cells = am_C (am_cp h a n.toNatClampNeg) - am_C h := by omega
    obtain rfl : slots = am_S (am_cp h a n.toNatClampNeg) - am_S h := by omega
    subst hQ9
    refine W.aret B9.exec B9.bytes (B9.returns.trans rfl) (Or.inr ⟨_, rfl⟩) (Or.inr ⟨am_Z h, rfl⟩) (fun t ht hW => ⟨rfl, by rw [ht]; exact am_Ok_moved hW.alike hO, hS.F ht⟩) hS.2.2 (by decide +kernel) (hlocks := B9.notSynchronized)
  have g38 : am_G p l e R s m args below meth c Q9 D dA B 4 (am_C h) (am_S h) 38 [some (.inr (.inr a)), some (.inl n), some (.inr (.inr (mi + 1))), some (.inr (.inr (am_Z h + 1)))] [] (am_cp h a n.toNatClampNeg) :=
    am_step F hRm (q := (.aload_n 3, 3, 0, 0, 0, 0, 0, [])) (ret := cp_rt) (by decide +kernel) (And.intro (by omega) (And.intro (by omega) g39))
  have g35 : ∀ k : Int32, ¬ k < 0 → k.toNatClampNeg ≤ am_N h a → k.toNatClampNeg ≤ n.toNatClampNeg → (am_N h a ≤ k.toNatClampNeg ∨ n.toNatClampNeg ≤ k.toNatClampNeg) → am_G p l e R s m args below meth c Q9 D dA B 4 (am_C h) (am_S h) 35 [some (.inr (.inr a)), some (.inl n), some (.inr (.inr (mi + 1))), some (.inr (.inr (am_Z h + 1)))] [.inl k, .inl 0, .inr (.inr (am_Z h + 1)), .inl 0, .inr (.inr a)] (am_nA h 104 n.toNatClampNeg) := by
    intro k k0 k1 k2 k3 HH locs ls cells slots hO hS hl hc hs
    refine am_w_copy (own := "java/util/Arrays") (index := 150) (rest := []) B9.exec B9.bytes (hml9.trans hl.2.1.symm) hts' hown cp_w.2.1 cp_w.2.2.1 cp_w.2.2.2.1 cp_w.2.2.2.2.1 hKw hO hS (h' := am_cp h a n.toNatClampNeg) T1 T2 hna k0 (by rw [N1]; exact k1) (by rw [N2]; exact k2) (fun j hj => ?_) rfl rfl rfl rfl (fun b hb => ?_) (fun j => ?_) (fun u f b => rfl) rfl rfl hRm.1 ?_ (by decide +kernel) (fun H1 locs1 hO1 hS1 => g38 H1 locs1 ls cells slots hO1 hS1 hl hc hs)
    · rw [hp_aR_nA, if_neg hna]
      rcases hel j (by omega) with q | q
      · exact Or.inl q
      · refine Or.inr ?_
        have hnv : ¬ am_aR h a j = am_Z h + 1 := fun z => by
          obtain ⟨a', e', L, k, hL, hP, hD, ha, hk⟩ := am_pos ‹am_Ok D dA B h s s.heap› (r := am_aR h a j) (by unfold am_ow; omega)
          obtain ⟨q9, hc9, hx9, -⟩ := am_asg_ok q.2
          rw [am_e_o (show am_T h (a' + 1) = 10 + (am_T h (am_aR h a j) - 10) by rw [← e']; omega) hx9] at hk
          obtain ⟨r9, -, cell9, g9, -⟩ := hP k _ hk
          have h9 := (Array.getElem?_eq_some_iff.mp g9).1
          have h8 := (‹am_Ok D dA B h s s.heap›).2.1
          omega
        rw [hp_T_nA, if_neg hnv]
        exact q
    · funext j
      show (if b = am_Z h + 1 then _ else _) = am_ua _ _ _ _ _
      rw [if_neg hb, am_ua, if_neg hb]
    · show (if am_Z h + 1 = am_Z h + 1 then (if j < am_N h a ∧ j < n.toNatClampNeg then am_aR h a j else 0) else _) = _
      rw [if_pos rfl, hp_aR_nA, if_neg hna, hp_aR_nA, if_pos rfl]
      by_cases hj : j < k.toNatClampNeg
      · rw [if_pos hj, if_pos ⟨by omega, by omega⟩]
      · rw [if_neg hj, if_neg (by omega)]
    · show 0 + (nativeFrameWords "java/lang/System" "arraycopy" 5 + 11) ≤ R.locals
      have : nativeFrameWords "java/lang/System" "arraycopy" 5 + 11 ≤ 66 := by decide
      omega
  have g32 : am_G p l e R s m args below meth c Q9 D dA B 4 (am_C h) (am_S h) 32 [some (.inr (.inr a)), some (.inl n), some (.inr (.inr (mi + 1))), some (.inr (.inr (am_Z h + 1)))] [.inl n, .inl (Int32.ofNat (am_N (am_nA h 104 n.toNatClampNeg) a)), .inl 0, .inr (.inr (am_Z h + 1)), .inl 0, .inr (.inr a)] (am_nA h 104 n.toNatClampNeg) := by
    refine am_step F hRm (q := (.invokestatic 304, 0, 0, 2, 0, 0, 0, [])) (ret := cp_rt) (by decide +kernel) ?_
    have hcps : ∀ K Rt Cl, am_cps 32 (.invokestatic 304, 0, 0, 2, 0, 0, 0, []) [some (.inr (.inr a)), some (.inl n), some (.inr (.inr (mi + 1))), some (.inr (.inr (am_Z h + 1)))] (.inl n :: .inl (Int32.ofNat (am_N (am_nA h 104 n.toNatClampNeg) a)) :: [.inl 0, .inr (.inr (am_Z h + 1)), .inl 0, .inr (.inr a)]) (am_nA h 104 n.toNatClampNeg) K Rt Cl = K 35 [some (.inr (.inr a)), some (.inl n), some (.inr (.inr (mi + 1))), some (.inr (.inr (am_Z h + 1)))] (.inl (if n < Int32.ofNat (am_N (am_nA h 104 n.toNatClampNeg) a) then n else Int32.ofNat (am_N (am_nA h 104 n.toNatClampNeg) a)) :: [.inl 0, .inr (.inr (am_Z h + 1)), .inl 0, .inr (.inr a)]) (am_nA h 104 n.toNatClampNeg) := fun K Rt Cl => rfl
    rw [hcps]
    have eN : (Int32.ofNat (am_N (am_nA h 104 n.toNatClampNeg) a)).toNatClampNeg = am_N h a := by rw [N1]; exact nI_clamp (by omega)
    have e0 : ¬ Int32.ofNat (am_N (am_nA h 104 n.toNatClampNeg) a) < 0 := by rw [N1]; exact nI_pos (by omega)
    refine ⟨by rw [hRc]; exact Nat.le_refl _, by rw [hRs]; exact Nat.le_refl _, ?_⟩
    by_cases hlt : n < Int32.ofNat (am_N (am_nA h 104 n.toNatClampNeg) a)
    · rw [if_pos hlt]
      have hle : n.toNatClampNeg ≤ am_N h a := by
        have q1 := Int32.lt_iff_toInt_lt.mp hlt
        rw [cp_nn hn, cp_nn e0, eN] at q1
        omega
      exact g35 n hn hle (Nat.le_refl _) (Or.inr (Nat.le_refl _))
    · rw [if_neg hlt]
      have hle : am_N h a ≤ n.toNatClampNeg := by
        have q1 := Int32.le_iff_toInt_le.mp (Int32.not_lt.mp hlt)
        rw [cp_nn hn, cp_nn e0, eN] at q1
        omega
      exact g35 _ e0 (by rw [eN]; exact Nat.le_refl _) (by rw [eN]; exact hle) (Or.inl (by rw [eN]; exact Nat.le_refl _))
  have g31 : am_G p l e R s m args below meth c Q9 D dA B 4 (am_C h) (am_S h) 31 [some (.inr (.inr a)), some (.inl n), some (.inr (.inr (mi + 1))), some (.inr (.inr (am_Z h + 1)))] [.inl (Int32.ofNat (am_N (am_nA h 104 n.toNatClampNeg) a)), .inl 0, .inr (.inr (am_Z h + 1)), .inl 0, .inr (.inr a)] (am_nA h 104 n.toNatClampNeg) := am_step F hRm (q := (.iload_n 1, 1, 0, 0, 0, 0, 0, [])) (ret := cp_rt) (by decide +kernel) (And.intro (by rw [hRc]; exact Nat.le_refl _) (And.intro (by rw [hRs]; exact Nat.le_refl _) g32))
  have g30 : am_G p l e R s m args below meth c Q9 D dA B 4 (am_C h) (am_S h) 30 [some (.inr (.inr a)), some (.inl n), some (.inr (.inr (mi + 1))), some (.inr (.inr (am_Z h + 1)))] [.inr (.inr a), .inl 0, .inr (.inr (am_Z h + 1)), .inl 0, .inr (.inr a)] (am_nA h 104 n.toNatClampNeg) := am_step F hRm (q := (.arraylength, 0, 0, 0, 0, 0, 0, [])) (ret := cp_rt) (by decide +kernel) (And.intro (Or.inr (Or.inr (Or.inr (Or.inr (by rw [T1]; decide))))) (And.intro (by rw [hRc]; exact Nat.le_refl _) (And.intro (by rw [hRs]; exact Nat.le_refl _) g31)))
  have g29 : am_G p l e R s m args below meth c Q9 D dA B 4 (am_C h) (am_S h) 29 [some (.inr (.inr a)), some (.inl n), some (.inr (.inr (mi + 1))), some (.inr (.inr (am_Z h + 1)))] [.inl 0, .inr (.inr (am_Z h + 1)), .inl 0, .inr (.inr a)] (am_nA h 104 n.toNatClampNeg) := am_step F hRm (q := (.aload_n 0, 0, 0, 0, 0, 0, 0, [])) (ret := cp_rt) (by decide +kernel) (And.intro (by rw [hRc]; exact Nat.le_refl _) (And.intro (by rw [hRs]; exact Nat.le_refl _) g30))
  have g28 : am_G p l e R s m args below meth c Q9 D dA B 4 (am_C h) (am_S h) 28 [some (.inr (.inr a)), some (.inl n), some (.inr (.inr (mi + 1))), some (.inr (.inr (am_Z h + 1)))] [.inr (.inr (am_Z h + 1)), .inl 0, .inr (.inr a)] (am_nA h 104 n.toNatClampNeg) := am_step F hRm (q := (.iconst 0, 0, 0, 0, 0, 0, 0, [])) (ret := cp_rt) (by decide +kernel) (And.intro (by rw [hRc]; exact Nat.le_refl _) (And.intro (by rw [hRs]; exact Nat.le_refl _) g29))
  have g27 : am_G p l e R s m args below meth c Q9 D dA B 4 (am_C h) (am_S h) 27 [some (.inr (.inr a)), some (.inl n), some (.inr (.inr (mi + 1))), some (.inr (.inr (am_Z h + 1)))] [.inl 0, .inr (.inr a)] (am_nA h 104 n.toNatClampNeg) := am_step F hRm (q := (.aload_n 3, 3, 0, 0, 0, 0, 0, [])) (ret := cp_rt) (by decide +kernel) (And.intro (by rw [hRc]; exact Nat.le_refl _) (And.intro (by rw [hRs]; exact Nat.le_refl _) g28))
  have g26 : am_G p l e R s m args below meth c Q9 D dA B 4 (am_C h) (am_S h) 26 [some (.inr (.inr a)), some (.inl n), some (.inr (.inr (mi + 1))), some (.inr (.inr (am_Z h + 1)))] [.inr (.inr a)] (am_nA h 104 n.toNatClampNeg) := am_step F hRm (q := (.iconst 0, 0, 0, 0, 0, 0, 0, [])) (ret := cp_rt) (by decide +kernel) (And.intro (by rw [hRc]; exact Nat.le_refl _) (And.intro (by rw [hRs]; exact Nat.le_refl _) g27))
  have g25 : am_G p l e R s m args below meth c Q9 D dA B 4 (am_C h) (am_S h) 25 [some (.inr (.inr a)), some (.inl n), some (.inr (.inr (mi + 1))), some (.inr (.inr (am_Z h + 1)))] [] (am_nA h 104 n.toNatClampNeg) := am_step F hRm (q := (.aload_n 0, 0, 0, 0, 0, 0, 0, [])) (ret := cp_rt) (by decide +kernel) (And.intro (by rw [hRc]; exact Nat.le_refl _) (And.intro (by rw [hRs]; exact Nat.le_refl _) g26))
  have g24 : am_G p l e R s m args below meth c Q9 D dA B 4 (am_C h) (am_S h) 24 [some (.inr (.inr a)), some (.inl n), some (.inr (.inr (mi + 1))), none] [.inr (.inr (am_Z h + 1))] (am_nA h 104 n.toNatClampNeg) := am_step F hRm (q := (.astore_n 3, 3, 0, 0, 0, 0, 0, [])) (ret := cp_rt) (by decide +kernel) (And.intro (by rw [hRc]; exact Nat.le_refl _) (And.intro (by rw [hRs]; exact Nat.le_refl _) g25))
  have g10 : am_G p l e R s m args below meth c Q9 D dA B 4 (am_C h) (am_S h) 10 [some (.inr (.inr a)), some (.inl n), some (.inr (.inr (mi + 1))), none] [.inr (.inr (am_Z h + 1))] (am_nA h 104 n.toNatClampNeg) := am_step F hRm (q := (.goto 14, 24, 0, 0, 0, 0, 0, [])) (ret := cp_rt) (by decide +kernel) (And.intro (by rw [hRc]; exact Nat.le_refl _) (And.intro (by rw [hRs]; exact Nat.le_refl _) g24))
  have g7 : am_G p l e R s m args below meth c Q9 D dA B 4 (am_C h) (am_S h) 7 [some (.inr (.inr a)), some (.inl n), some (.inr (.inr (mi + 1))), none] [.inl n] h := am_step F hRm (q := (.anewarray 2, 4, 0, 0, 0, 0, 0, [])) (ret := cp_rt) (by decide +kernel) (And.intro hn (And.intro hn1 (fun h9 e9 => by subst e9; exact And.intro (by rw [hRc]; exact Nat.le_refl _) (And.intro (by rw [hRs]; exact Nat.le_refl _) g10))))
  have g6 : am_G p l e R s m args below meth c Q9 D dA B 4 (am_C h) (am_S h) 6 [some (.inr (.inr a)), some (.inl n), some (.inr (.inr (mi + 1))), none] [] h := am_step F hRm (q := (.iload_n 1, 1, 0, 0, 0, 0, 0, [])) (ret := cp_rt) (by decide +kernel) (And.intro (by omega) (And.intro (by omega) g7))
  have g3 : am_G p l e R s m args below meth c Q9 D dA B 4 (am_C h) (am_S h) 3 [some (.inr (.inr a)), some (.inl n), some (.inr (.inr (mi + 1))), none] [.inr (.inr (mi + 1)), .inr (.inr (mi + 1))] h := am_step F hRm (q := (.if_acmp .ne 10, 13, 0, 0, 0, 0, 0, [])) (ret := cp_rt) (by decide +kernel) (And.intro (fun _ => And.intro (by omega) (And.intro (by omega) g6)) (fun z => absurd rfl z))
  have g1 : am_G p l e R s m args below meth c Q9 D dA B 4 (am_C h) (am_S h) 1 [some (.inr (.inr a)), some (.inl n), some (.inr (.inr (mi + 1))), none] [.inr (.inr (mi + 1))] h := by
    intro HH locs ls cells slots hO hS hl hc hs
    exact va_ldcM B9.exec B9.bytes hown (hts' _ cp_w.2.2.2.2.2.2.1) hMi (by decide +kernel) (g3 HH locs ls cells slots hO hS hl hc hs)
  have g0 : am_G p l e R s m args below meth c Q9 D dA B 4 (am_C h) (am_S h) 0 [some (.inr (.inr a)), some (.inl n), some (.inr (.inr (mi + 1))), none] [] h := am_step F hRm (q := (.aload_n 2, 2, 0, 0, 0, 0, 0, [])) (ret := cp_rt) (by decide +kernel) (And.intro (by omega) (And.intro (by omega) g1))
  exact g0 _ _ _ _ _ hO va_S.rf hl (Nat.zero_add _) (Nat.zero_add _)
end AMCQ
section AMCR
variable {l : Launch} {D : va_G} {dA : Nat → ClassId} {B : Nat}
theorem cp_2 {d a : Nat} {n : Int32} {h : am_H} (hd : 3 ≤ d) (hT : am_T h a = 104) (hn : ¬ n < 0) (hn1 : n.toNatClampNeg ≤ 1000000) (hNa : am_N h a ≤ 1000000) (hel : ∀ j, j < am_N h a → am_aR h a j = 0 ∨ (10 ≤ am_T h (am_aR h a j) ∧ am_asg 4 (am_T h (am_aR h a j) - 10) = true)) : am_MX l D dA B d mi_R_copyOf [.inr (.inr a), .inl n] h (some (.inr (.inr (am_Z h + 1)))) (am_cp h a n.toNatClampNeg) := by
  intro y cc mL ret hmi
  obtain ⟨rfl, rfl, rfl, rfl⟩ : y = cp_y2 ∧ cc = prog_22_method_119_code ∧ mL = 2 ∧ ret = cp_rt := by
    have e : am_mi mi_R_copyOf = some (cp_y2, prog_22_method_119_code, 2, cp_rt) := rfl
    rw [e] at hmi
    cases hmi
    exact ⟨rfl, rfl, rfl, rfl⟩
  refine Met.ofW (cc := prog_22_method_119_code) (maxL := 2) (ret := cp_rt) (by decide) rfl ?_
  intro p e s m args below meth c s₁ B9 hml9 hv
  obtain ⟨hargs, hO, hB, hKw⟩ := hv
  have hts := atoms_spec (ws := Cond.code cp_y2 prog_22_method_119_code 2 cp_rt :: am_Tg) B9.pre
  have hts' : ∀ w ∈ am_Tg, w.before args s = true := fun w hw => hts w (List.mem_cons_of_mem _ hw)
  have hown : s.vm.findClass "java/util/Arrays" = some m.cls := findClass_of_methodNamed B9.named
  obtain ⟨ls, hen, hl⟩ := am_en_ok (mid := mi_R_copyOf) (mL := 2) (as := [.inr (.inr a), .inl n]) rfl (show (2 : Nat) ≤ 2 by decide)
  rw [show entryFrame m args 2 = F0 m 0 ls [] from by rw [hargs]; exact hen m]
  have F : am_Fx p s m args meth c D dA B "java/util/Arrays" prog_22_method_119_code 2 false := ⟨B9.exec, B9.bytes, hml9, hown, hts', hKw, fun hi => absurd hi (by decide), hB⟩
  obtain ⟨mi, hMi⟩ := hKw.2.2.2.1
  generalize hR : am_rm d (am_C (am_cp h a n.toNatClampNeg) - am_C h) (am_S (am_cp h a n.toNatClampNeg) - am_S h) = R
  have hRf : R.frames = d + 1 := by rw [← hR]; rfl
  have hRl : R.locals = 36 * d + 30 := by rw [← hR]; rfl
  have hRc : R.cells = am_C (am_cp h a n.toNatClampNeg) - am_C h := by rw [← hR]; rfl
  have hRs : R.slots = am_S (am_cp h a n.toNatClampNeg) - am_S h := by rw [← hR]; rfl
  have hRm : 1 ≤ R.frames ∧ 23 ≤ R.locals := by omega
  have hc1 : am_C (am_cp h a n.toNatClampNeg) = am_C h + 1 := rfl
  have hs1 : am_S (am_cp h a n.toNatClampNeg) = am_S h + n.toNatClampNeg := rfl
  generalize hQ9 : MQ below (am_Qb D dA B (some (.inr (.inr (am_Z h + 1)))) (am_cp h a n.toNatClampNeg)) args s (am_C (am_cp h a n.toNatClampNeg) - am_C h) (am_S (am_cp h a n.toNatClampNeg) - am_S h) (fun q => B ≤ q) = Q9
  have g9 : am_G p l e R s m args below meth c Q9 D dA B 2 (am_C h) (am_S h) 9 [some (.inr (.inr a)), some (.inl n)] [.inr (.inr (am_Z h + 1))] (am_cp h a n.toNatClampNeg) := by
    intro HH locs ls cells slots hO hS hl hc hs
    obtain rfl : cells = am_C (am_cp h a n.toNatClampNeg) - am_C h := by omega
    obtain rfl : slots = am_S (am_cp h a n.toNatClampNeg) - am_S h := by omega
    subst hQ9
    refine W.aret B9.exec B9.bytes (B9.returns.trans rfl) (Or.inr ⟨_, rfl⟩) (Or.inr ⟨am_Z h, rfl⟩) (fun t ht hW => ⟨rfl, by rw [ht]; exact am_Ok_moved hW.alike hO, hS.F ht⟩) hS.2.2 (by decide +kernel) (hlocks := B9.notSynchronized)
  have g6 : am_G p l e R s m args below meth c Q9 D dA B 2 (am_C h) (am_S h) 6 [some (.inr (.inr a)), some (.inl n)] [.inr (.inr (mi + 1)), .inl n, .inr (.inr a)] h := by
    intro HH locs ls cells slots hO hS hl hc hs
    refine am_w_after (u := 3) (r := some (.inr (.inr (am_Z h + 1)))) (rest := []) (h1 := am_cp h a n.toNatClampNeg) hS hl hc hs ⟨by omega, by omega, by omega, by omega⟩ ⟨_, rfl, g9⟩ (a9 := (([.inr (.inr a), .inl n, .inr (.inr (mi + 1))] : am_Sk).map am_v2).toArray) ?_
    have hcB : CallB R s args "java/util/Arrays" 300 cp_y3 prog_22_method_120_code 4 cp_rt (Cond.code cp_y3 prog_22_method_120_code 4 cp_rt :: am_Tg) (am_rm (d - 1) (am_C (am_cp h a n.toNatClampNeg) - am_C h) (am_S (am_cp h a n.toNatClampNeg) - am_S h)) (am_C (am_cp h a n.toNatClampNeg) - am_C h) (am_S (am_cp h a n.toNatClampNeg) - am_S h) 3 :=
      callB_of 3 hts' (am_good cp_w.1) rfl rfl rfl (hts' _ cp_w.2.2.2.2.2.1) (hts' _ cp_w.2.2.2.2.2.2.2.1) ⟨by decide, by decide, by decide +kernel⟩ ⟨by show d - 1 + 1 + 1 ≤ _; omega, by show 8 + (4 + 11) + (36 * (d - 1) + 30) ≤ _; omega⟩
    refine va_runS (Ts := am_Tg) ⟨B9.exec, B9.bytes, hml9, hown, hts'⟩ (cp_3 (l := l) (D := D) (dA := dA) (B := B) (d := d - 1) (mi := mi) (by omega) hT hn hn1 hNa hel) ⟨hcB, hts' _ cp_w.2.2.2.2.2.2.2.2.1⟩ ⟨?_, fun U hU hW => ⟨am_pre hKw hB hO hS U hU hW, hMi.moved hW.alike⟩⟩ rfl rfl hl.2.1 rfl (show (0 : Nat) ≤ 8 by decide) (show decode prog_22_method_119_code 6 = _ by decide +kernel) ⟨by omega, by omega⟩
    intro a9 U g mk q
    exact ⟨am_blind a9 U g mk q.1, q.2.moved (Vm.Alike.refl U.vm)⟩
  have g3 : am_G p l e R s m args below meth c Q9 D dA B 2 (am_C h) (am_S h) 3 [some (.inr (.inr a)), some (.inl n)] [.inr (.inr a), .inl n, .inr (.inr a)] h := by
    intro HH locs ls cells slots hO hS hl hc hs
    cases a with
    | zero => rw [hO.1] at hT; cases hT
    | succ a =>
      exact va_getC (C := "[Ljava/lang/Object;") B9.exec B9.bytes (hml9.trans hl.2.1.symm) hown (hts' _ cp_w.2.2.2.2.2.2.2.2.2.1) (va_Nw.use rfl hKw.2.2.2.2) (hts' _ cp_w.2.2.2.2.2.2.2.2.2.2.1) (hts' _ cp_w.2.2.2.2.2.2.2.2.2.2.2.1) (hts' _ cp_w.2.2.2.2.2.2.2.2.2.2.2.2) hMi (cp_recv hKw.1 hO hT) hRm.1 (by show 1 + (1 + 0) + 14 ≤ R.locals; omega) (by decide +kernel) (g6 HH locs ls cells slots hO hS hl hc hs)
  have g2 : am_G p l e R s m args below meth c Q9 D dA B 2 (am_C h) (am_S h) 2 [some (.inr (.inr a)), some (.inl n)] [.inl n, .inr (.inr a)] h := am_step F hRm (q := (.aload_n 0, 0, 0, 0, 0, 0, 0, [])) (ret := cp_rt) (by decide +kernel) (And.intro (by omega) (And.intro (by omega) g3))
  have g1 : am_G p l e R s m args below meth c Q9 D dA B 2 (am_C h) (am_S h) 1 [some (.inr (.inr a)), some (.inl n)] [.inr (.inr a)] h := am_step F hRm (q := (.iload_n 1, 1, 0, 0, 0, 0, 0, [])) (ret := cp_rt) (by decide +kernel) (And.intro (by omega) (And.intro (by omega) g2))
  have g0 : am_G p l e R s m args below meth c Q9 D dA B 2 (am_C h) (am_S h) 0 [some (.inr (.inr a)), some (.inl n)] [] h := am_step F hRm (q := (.aload_n 0, 0, 0, 0, 0, 0, 0, [])) (ret := cp_rt) (by decide +kernel) (And.intro (by omega) (And.intro (by omega) g1))
  exact g0 _ _ _ _ _ hO va_S.rf hl (Nat.zero_add _) (Nat.zero_add _)
theorem cp_X9 : am_X9 l D dA B := by
  intro d m as h r h1 hX H
  have hm : m = mi_R_copyOf := by
    unfold am_isX at hX
    exact Nat.eq_of_beq_eq_true hX
  subst hm
  unfold am_ext at H
  split at H
  · obtain ⟨h1', h2, h3, h4, h5, h6, rfl, rfl⟩ := H
    exact cp_2 h1' h2 h3 h4 h5 h6
  · exact H.elim
end AMCR
