/-! WHAT AN ENTRY SAYS, checked against the class file and the tables' words -/
def am_okF (own : String) (idx x y : Nat) : Bool := match am_cl[x]? with
  | some q => decide (y < q.2.2) && (decide (Cond.fieldLink own idx (q.2.1 y).1 (q.2.1 y).2.1 (q.2.1 y).2.2.1 ∈ am_Tf) || decide (Cond.fieldLinkNest own idx (q.2.1 y).1 (q.2.1 y).2.1 (q.2.1 y).2.2.1 am_host ∈ am_Tn) || (decide (Cond.fieldLink own idx own (q.2.1 y).2.1 (q.2.1 y).2.2.1 ∈ am_Tf) && decide (Cond.sameField own (q.2.1 y).1 (q.2.1 y).2.1 (q.2.1 y).2.2.1 ∈ am_Ti)))
  | none => false
/-- a final field is written by its own class's constructor -/
def am_okN (own : String) (idx : Nat) (ini : Bool) (x y : Nat) : Bool := match am_cl[x]? with
  | some q => !(q.2.1 y).2.2.2 || (ini && decide ((q.2.1 y).1 = own) && decide (Cond.fieldLink own idx (q.2.1 y).1 (q.2.1 y).2.1 (q.2.1 y).2.2.1 ∈ am_Tf))
  | none => false
def am_uk (ret : Option FieldType) : Nat := match ret with
  | none => 0
  | some .long => 2
  | some (.object _) => 3
  | some (.array _) => 3
  | _ => 1
/-- what a method's place in the tables says -/
def am_okM (x y u : Nat) : Bool := am_mok.contains x && (match am_mi x with
  | some (w, _, mL, ret) => decide ((parseMethodDescriptor w.desc).map (fun d => d.parameters.length) = some y) && decide (am_uk ret = u) && decide (am_ml x = mL) && decide (mL ≤ 17)
  | none => false)
def am_okL (own : String) (idx x : Nat) : Bool := match am_mi x with
  | some (w, _, _, _) => decide (Cond.methodLink own idx w ∈ am_Tm) || decide (Cond.methodLinkNest own idx w am_host ∈ am_Tn)
  | none => false
def am_okV (own : String) (idx x y z u : Nat) : Bool := am_okM x y u && am_okL own idx x && am_mov.contains x && (match am_mi x with
  | some (w, _, _, _) => decide (z < am_cl.length) && decide (am_cn z = w.cls)
  | none => false)
def am_okI (own : String) (idx x y u : Nat) : Bool := am_okM x y u && am_okL own idx x && am_moi.contains x
def am_okS (own : String) (idx x y u : Nat) : Bool := am_okM x y u && am_okL own idx x && am_mos.contains x
def am_hn (z : Nat) : MethodName := match z with
  | 1 => Lib.Math.max.name
  | 2 => Lib.Math.min.name
  | 3 => Lib.MathLoose.max_long.x
  | _ => Lib.MathLoose.min_long.x
def am_okH (own : String) (idx z : Nat) : Bool := decide (Cond.methodLink own idx (am_hn z) ∈ am_Tm)
def am_okO (own : String) (idx y : Nat) : Bool := decide (y = 0) && decide (Cond.methodLink own idx Lib.objectInit ∈ am_Tm)
def am_okE (own : String) (cc : ByteArray) (mL : Nat) (ini : Bool) (ret : Option FieldType) (pc : Nat) (q : am_E) : Bool := match q with
  | (i, x, y, z, u, cI, cJ, ts) => match i with
    | .aconst_null => decide (decode cc pc = .ok (.aconst_null, 1))
    | .iconst n => decide (decode cc pc = .ok (.iconst n, 1)) && decide (Int32.ofInt n = cI)
    | .bipush n => decide (decode cc pc = .ok (.bipush n, 2)) && decide ((Int8.ofInt n).toInt32 = cI)
    | .sipush n => decide (decode cc pc = .ok (.sipush n, 3)) && decide ((Int16.ofInt n).toInt32 = cI)
    | .ldc n => decide (decode cc pc = .ok (.ldc n, 2)) && decide (Cond.constant own n cI ∈ am_Tc)
    | .lconst n => decide (decode cc pc = .ok (.lconst n, 1)) && decide (Int64.ofNat (n : Nat) = cJ)
    | .ldc2_w n => decide (decode cc pc = .ok (.ldc2_w n, 3)) && decide (Cond.constantLong own n cJ ∈ am_Tc)
    | .iload_n n => decide (decode cc pc = .ok (.iload_n n, 1)) && decide ((n : Nat) = x)
    | .iload n => decide (decode cc pc = .ok (.iload n, 2)) && decide (n = x)
    | .istore_n n => decide (decode cc pc = .ok (.istore_n n, 1)) && decide ((n : Nat) = x) && decide (x < mL)
    | .istore n => decide (decode cc pc = .ok (.istore n, 2)) && decide (n = x) && decide (x < mL)
    | .lload_n n => decide (decode cc pc = .ok (.lload_n n, 1)) && decide ((n : Nat) = x)
    | .lload n => decide (decode cc pc = .ok (.lload n, 2)) && decide (n = x)
    | .lstore_n n => decide (decode cc pc = .ok (.lstore_n n, 1)) && decide ((n : Nat) = x) && decide (x + 1 < mL)
    | .lstore n => decide (decode cc pc = .ok (.lstore n, 2)) && decide (n = x) && decide (x + 1 < mL)
    | .aload_n n => decide (decode cc pc = .ok (.aload_n n, 1)) && decide ((n : Nat) = x)
    | .aload n => decide (decode cc pc = .ok (.aload n, 2)) && decide (n = x)
    | .astore_n n => decide (decode cc pc = .ok (.astore_n n, 1)) && decide ((n : Nat) = x) && decide (x < mL)
    | .astore n => decide (decode cc pc = .ok (.astore n, 2)) && decide (n = x) && decide (x < mL)
    | .iinc n k => decide (decode cc pc = .ok (.iinc n k, 3)) && decide (n = x) && decide (Int32.ofInt k = cI) && decide (x < mL)
    | .iadd => decide (decode cc pc = .ok (.iadd, 1))
    | .isub => decide (decode cc pc = .ok (.isub, 1))
    | .imul => decide (decode cc pc = .ok (.imul, 1))
    | .ishr => decide (decode cc pc = .ok (.ishr, 1))
    | .iand => decide (decode cc pc = .ok (.iand, 1))
    | .idiv => decide (decode cc pc = .ok (.idiv, 1))
    | .irem => decide (decode cc pc = .ok (.irem, 1))
    | .ladd => decide (decode cc pc = .ok (.ladd, 1))
    | .lsub => decide (decode cc pc = .ok (.lsub, 1))
    | .lmul => decide (decode cc pc = .ok (.lmul, 1))
    | .land => decide (decode cc pc = .ok (.land, 1))
    | .lor => decide (decode cc pc = .ok (.lor, 1))
    | .ldiv => decide (decode cc pc = .ok (.ldiv, 1))
    | .lrem => decide (decode cc pc = .ok (.lrem, 1))
    | .lneg => decide (decode cc pc = .ok (.lneg, 1))
    | .lshl => decide (decode cc pc = .ok (.lshl, 1))
    | .i2l => decide (decode cc pc = .ok (.i2l, 1))
    | .l2i => decide (decode cc pc = .ok (.l2i, 1))
    | .lcmp => decide (decode cc pc = .ok (.lcmp, 1))
    | .dup => decide (decode cc pc = .ok (.dup, 1))
    | .pop => decide (decode cc pc = .ok (.pop, 1))
    | .dup_x1 => decide (decode cc pc = .ok (.dup_x1, 1))
    | .dup2 => decide (decode cc pc = .ok (.dup2, 1))
    | .iaload => decide (decode cc pc = .ok (.iaload, 1))
    | .laload => decide (decode cc pc = .ok (.laload, 1))
    | .aaload => decide (decode cc pc = .ok (.aaload, 1))
    | .iastore => decide (decode cc pc = .ok (.iastore, 1))
    | .lastore => decide (decode cc pc = .ok (.lastore, 1))
    | .aastore => decide (decode cc pc = .ok (.aastore, 1))
    | .arraylength => decide (decode cc pc = .ok (.arraylength, 1))
    | .ireturn => decide (decode cc pc = .ok (.ireturn, 1)) && decide ((u = 1 ∧ ret = some .boolean) ∨ (u = 0 ∧ ret = some .int))
    | .lreturn => decide (decode cc pc = .ok (.lreturn, 1)) && decide (ret = some .long)
    | .areturn => decide (decode cc pc = .ok (.areturn, 1)) && decide (am_uk ret = 3)
    | .return_ => decide (decode cc pc = .ok (.return_, 1)) && decide (ret = none)
    | .ifCond cd off => decide (decode cc pc = .ok (.ifCond cd off, 3)) && decide ((pc : Int) + off = (x : Int))
    | .if_icmp cd off => decide (decode cc pc = .ok (.if_icmp cd off, 3)) && decide ((pc : Int) + off = (x : Int))
    | .if_acmp cd off => decide (decode cc pc = .ok (.if_acmp cd off, 3)) && decide ((pc : Int) + off = (x : Int))
    | .ifnull off => decide (decode cc pc = .ok (.ifnull off, 3)) && decide ((pc : Int) + off = (x : Int))
    | .ifnonnull off => decide (decode cc pc = .ok (.ifnonnull off, 3)) && decide ((pc : Int) + off = (x : Int))
    | .goto off => decide (decode cc pc = .ok (.goto off, 3)) && decide ((pc : Int) + off = (x : Int))
    | .tableswitch df lo hi offs => (match decode cc pc with | .ok (j, _) => decide (j = .tableswitch df lo hi offs) | _ => false) && decide ((pc : Int) + df = (x : Int)) && decide (hi = lo + offs.size - 1) && decide (ts.length = offs.size) && (List.range ts.length).all (fun j => decide ((ts.getD j (0, 0)).1.toInt = lo + j) && decide ((pc : Int) + offs.getD j 0 = ((ts.getD j (0, 0)).2 : Int)))
    | .getstatic idx => decide (decode cc pc = .ok (.getstatic idx, 3)) && decide (Cond.fieldLink own idx "java/util/ArrayList" "DEFAULTCAPACITY_EMPTY_ELEMENTDATA" "[Ljava/lang/Object;" ∈ am_Tf)
    | .getfield idx => decide (decode cc pc = .ok (.getfield idx, 3)) && am_okF own idx x y && decide (am_tk x y = u)
    | .putfield idx => decide (decode cc pc = .ok (.putfield idx, 3)) && am_okF own idx x y && decide (am_tk x y = u) && am_okN own idx ini x y
    | .newarray at_ => decide (decode cc pc = .ok (.newarray at_, 2)) && (decide (newarray.typeOf at_ = .int ∧ x = 1) || decide (newarray.typeOf at_ = .long ∧ x = 2)) && decide (Cond.arrayClass (newarray.typeOf at_) ∈ am_Ti)
    | .anewarray idx => decide (decode cc pc = .ok (.anewarray idx, 3)) && decide (x ∈ am_rc) && decide (Cond.classLink own idx (am_an x) ∈ am_Tc)
    | .new idx => decide (decode cc pc = .ok (.new idx, 3)) && (match am_cl[x]? with | some q => decide (y = q.2.2) && decide (Cond.classLink own idx q.1 ∈ am_Tc) && decide (Cond.instantiable q.1 q.2.2 ∈ am_Ti) && decide (Cond.initialized q.1 ∈ am_Ti) | none => false)
    | .checkcast idx => decide (decode cc pc = .ok (.checkcast idx, 3)) && decide (x < am_cl.length) && decide (Cond.classLink own idx (am_cn x) ∈ am_Tc)
    | .invokevirtual idx => decide (decode cc pc = .ok (.invokevirtual idx, 3)) && am_okV own idx x y z u
    | .invokespecial idx => decide (decode cc pc = .ok (.invokespecial idx, 3)) && (if x = 0 then am_okO own idx y else am_okI own idx x y u)
    | .invokestatic idx => decide (decode cc pc = .ok (.invokestatic idx, 3)) && (if x = 0 then am_okH own idx z else am_okS own idx x y u)
    | _ => false
/-! CHECKS of the methods -/
theorem am_mk_1 : ∀ (w : MethodName) (cc : ByteArray) (mL : Nat) (ret : Option FieldType), am_mi 1 = some (w, cc, mL, ret) → Cond.code w cc mL ret ∈ am_Tq := fun w cc mL ret h => by
  have e : some (((⟨"EthernetGates", "<init>", "(I)V"⟩, prog_1_method_1_code, 4, none) : MethodName × ByteArray × Nat × Option FieldType)) = some (w, cc, mL, ret) := h
  cases e
  exact List.mem_of_getElem? (i := 0) rfl
theorem am_mk_2 : ∀ (w : MethodName) (cc : ByteArray) (mL : Nat) (ret : Option FieldType), am_mi 2 = some (w, cc, mL, ret) → Cond.code w cc mL ret ∈ am_Tq := fun w cc mL ret h => by
  have e : some (((⟨"EthernetGates$Port", "<init>", "(I)V"⟩, prog_4_method_1_code, 3, none) : MethodName × ByteArray × Nat × Option FieldType)) = some (w, cc, mL, ret) := h
  cases e
  exact List.mem_of_getElem? (i := 2) rfl
theorem am_mk_3 : ∀ (w : MethodName) (cc : ByteArray) (mL : Nat) (ret : Option FieldType), am_mi 3 = some (w, cc, mL, ret) → Cond.code w cc mL ret ∈ am_Tq := fun w cc mL ret h => by
  have e : some (((⟨"EthernetGates$PortRank", "<init>", "()V"⟩, prog_5_method_1_code, 1, none) : MethodName × ByteArray × Nat × Option FieldType)) = some (w, cc, mL, ret) := h
  cases e
  exact List.mem_of_getElem? (i := 3) rfl
theorem am_mk_4 : ∀ (w : MethodName) (cc : ByteArray) (mL : Nat) (ret : Option FieldType), am_mi 4 = some (w, cc, mL, ret) → Cond.code w cc mL ret ∈ am_Tq := fun w cc mL ret h => by
  have e : some (((⟨"java/util/ArrayList", "<init>", "()V"⟩, prog_21_method_2_code, 1, none) : MethodName × ByteArray × Nat × Option FieldType)) = some (w, cc, mL, ret) := h
  cases e
  exact List.mem_of_getElem? (i := 4) rfl
theorem am_mk_5 : ∀ (w : MethodName) (cc : ByteArray) (mL : Nat) (ret : Option FieldType), am_mi 5 = some (w, cc, mL, ret) → Cond.code w cc mL ret ∈ am_Tq := fun w cc mL ret h => by
  have e : some (((⟨"java/util/AbstractList", "<init>", "()V"⟩, prog_20_method_1_code, 1, none) : MethodName × ByteArray × Nat × Option FieldType)) = some (w, cc, mL, ret) := h
  cases e
  exact List.mem_of_getElem? (i := 5) rfl
theorem am_mk_6 : ∀ (w : MethodName) (cc : ByteArray) (mL : Nat) (ret : Option FieldType), am_mi 6 = some (w, cc, mL, ret) → Cond.code w cc mL ret ∈ am_Tq := fun w cc mL ret h => by
  have e : some (((⟨"java/util/AbstractCollection", "<init>", "()V"⟩, prog_19_method_1_code, 1, none) : MethodName × ByteArray × Nat × Option FieldType)) = some (w, cc, mL, ret) := h
  cases e
  exact List.mem_of_getElem? (i := 6) rfl
theorem am_mk_7 : ∀ (w : MethodName) (cc : ByteArray) (mL : Nat) (ret : Option FieldType), am_mi 7 = some (w, cc, mL, ret) → Cond.code w cc mL ret ∈ am_Tq := fun w cc mL ret h => by
  have e : some (((⟨"EthernetGates", "link", "(IJ)I"⟩, prog_1_method_2_code, 6, (some FieldType.int)) : MethodName × ByteArray × Nat × Option FieldType)) = some (w, cc, mL, ret) := h
  cases e
  exact List.mem_of_getElem? (i := 7) rfl
theorem am_mk_8 : ∀ (w : MethodName) (cc : ByteArray) (mL : Nat) (ret : Option FieldType), am_mi 8 = some (w, cc, mL, ret) → Cond.code w cc mL ret ∈ am_Tq := fun w cc mL ret h => by
  have e : some (((⟨"EthernetGates", "findPort", "(I)LEthernetGates$Port;"⟩, prog_1_method_15_code, 2, (some (FieldType.object "EthernetGates$Port"))) : MethodName × ByteArray × Nat × Option FieldType)) = some (w, cc, mL, ret) := h
  cases e
  exact List.mem_of_getElem? (i := 8) rfl
theorem am_mk_9 : ∀ (w : MethodName) (cc : ByteArray) (mL : Nat) (ret : Option FieldType), am_mi 9 = some (w, cc, mL, ret) → Cond.code w cc mL ret ∈ am_Tq := fun w cc mL ret h => by
  have e : some (((⟨"EthernetGates$Port", "isSending", "()Z"⟩, prog_4_method_2_code, 1, (some FieldType.boolean)) : MethodName × ByteArray × Nat × Option FieldType)) = some (w, cc, mL, ret) := h
  cases e
  exact List.mem_of_getElem? (i := 9) rfl
theorem am_mk_10 : ∀ (w : MethodName) (cc : ByteArray) (mL : Nat) (ret : Option FieldType), am_mi 10 = some (w, cc, mL, ret) → Cond.code w cc mL ret ∈ am_Tq := fun w cc mL ret h => by
  have e : some (((⟨"EthernetGates$Port", "loseFrames", "()I"⟩, prog_4_method_4_code, 3, (some FieldType.int)) : MethodName × ByteArray × Nat × Option FieldType)) = some (w, cc, mL, ret) := h
  cases e
  exact List.mem_of_getElem? (i := 10) rfl
theorem am_mk_11 : ∀ (w : MethodName) (cc : ByteArray) (mL : Nat) (ret : Option FieldType), am_mi 11 = some (w, cc, mL, ret) → Cond.code w cc mL ret ∈ am_Tq := fun w cc mL ret h => by
  have e : some (((⟨"EthernetGates", "gate", "(IIJJ)I"⟩, prog_1_method_3_code, 9, (some FieldType.int)) : MethodName × ByteArray × Nat × Option FieldType)) = some (w, cc, mL, ret) := h
  cases e
  exact List.mem_of_getElem? (i := 11) rfl
theorem am_mk_12 : ∀ (w : MethodName) (cc : ByteArray) (mL : Nat) (ret : Option FieldType), am_mi 12 = some (w, cc, mL, ret) → Cond.code w cc mL ret ∈ am_Tq := fun w cc mL ret h => by
  have e : some (((⟨"EthernetGates", "isRank", "(I)Z"⟩, prog_1_method_17_code, 1, (some FieldType.boolean)) : MethodName × ByteArray × Nat × Option FieldType)) = some (w, cc, mL, ret) := h
  cases e
  exact List.mem_of_getElem? (i := 12) rfl
theorem am_mk_13 : ∀ (w : MethodName) (cc : ByteArray) (mL : Nat) (ret : Option FieldType), am_mi 13 = some (w, cc, mL, ret) → Cond.code w cc mL ret ∈ am_Tq := fun w cc mL ret h => by
  have e : some (((⟨"EthernetGates$PortRank", "addWindow", "(JJ)Z"⟩, prog_5_method_5_code, 5, (some FieldType.boolean)) : MethodName × ByteArray × Nat × Option FieldType)) = some (w, cc, mL, ret) := h
  cases e
  exact List.mem_of_getElem? (i := 13) rfl
theorem am_mk_14 : ∀ (w : MethodName) (cc : ByteArray) (mL : Nat) (ret : Option FieldType), am_mi 14 = some (w, cc, mL, ret) → Cond.code w cc mL ret ∈ am_Tq := fun w cc mL ret h => by
  have e : some (((⟨"EthernetGates", "frame", "(IIII)I"⟩, prog_1_method_5_code, 7, (some FieldType.int)) : MethodName × ByteArray × Nat × Option FieldType)) = some (w, cc, mL, ret) := h
  cases e
  exact List.mem_of_getElem? (i := 15) rfl
theorem am_mk_15 : ∀ (w : MethodName) (cc : ByteArray) (mL : Nat) (ret : Option FieldType), am_mi 15 = some (w, cc, mL, ret) → Cond.code w cc mL ret ∈ am_Tq := fun w cc mL ret h => by
  have e : some (((⟨"EthernetGates", "isAddress", "(I)Z"⟩, prog_1_method_18_code, 1, (some FieldType.boolean)) : MethodName × ByteArray × Nat × Option FieldType)) = some (w, cc, mL, ret) := h
  cases e
  exact List.mem_of_getElem? (i := 16) rfl
theorem am_mk_16 : ∀ (w : MethodName) (cc : ByteArray) (mL : Nat) (ret : Option FieldType), am_mi 16 = some (w, cc, mL, ret) → Cond.code w cc mL ret ∈ am_Tq := fun w cc mL ret h => by
  have e : some (((⟨"EthernetGates", "addressOf", "(I)LEthernetGates$Address;"⟩, prog_1_method_16_code, 3, (some (FieldType.object "EthernetGates$Address"))) : MethodName × ByteArray × Nat × Option FieldType)) = some (w, cc, mL, ret) := h
  cases e
  exact List.mem_of_getElem? (i := 17) rfl
theorem am_mk_17 : ∀ (w : MethodName) (cc : ByteArray) (mL : Nat) (ret : Option FieldType), am_mi 17 = some (w, cc, mL, ret) → Cond.code w cc mL ret ∈ am_Tq := fun w cc mL ret h => by
  have e : some (((⟨"EthernetGates$Address", "<init>", "()V"⟩, prog_2_method_1_code, 2, none) : MethodName × ByteArray × Nat × Option FieldType)) = some (w, cc, mL, ret) := h
  cases e
  exact List.mem_of_getElem? (i := 18) rfl
theorem am_mk_18 : ∀ (w : MethodName) (cc : ByteArray) (mL : Nat) (ret : Option FieldType), am_mi 18 = some (w, cc, mL, ret) → Cond.code w cc mL ret ∈ am_Tq := fun w cc mL ret h => by
  have e : some (((⟨"EthernetGates$Stream", "<init>", "()V"⟩, prog_6_method_1_code, 1, none) : MethodName × ByteArray × Nat × Option FieldType)) = some (w, cc, mL, ret) := h
  cases e
  exact List.mem_of_getElem? (i := 19) rfl
theorem am_mk_19 : ∀ (w : MethodName) (cc : ByteArray) (mL : Nat) (ret : Option FieldType), am_mi 19 = some (w, cc, mL, ret) → Cond.code w cc mL ret ∈ am_Tq := fun w cc mL ret h => by
  have e : some (((⟨"EthernetGates$Stream", "takesOne", "(J)Z"⟩, prog_6_method_3_code, 4, (some FieldType.boolean)) : MethodName × ByteArray × Nat × Option FieldType)) = some (w, cc, mL, ret) := h
  cases e
  exact List.mem_of_getElem? (i := 20) rfl
theorem am_mk_20 : ∀ (w : MethodName) (cc : ByteArray) (mL : Nat) (ret : Option FieldType), am_mi 20 = some (w, cc, mL, ret) → Cond.code w cc mL ret ∈ am_Tq := fun w cc mL ret h => by
  have e : some (((⟨"EthernetGates$Stream", "takenAt", "(J)I"⟩, prog_6_method_2_code, 3, (some FieldType.int)) : MethodName × ByteArray × Nat × Option FieldType)) = some (w, cc, mL, ret) := h
  cases e
  exact List.mem_of_getElem? (i := 21) rfl
theorem am_mk_21 : ∀ (w : MethodName) (cc : ByteArray) (mL : Nat) (ret : Option FieldType), am_mi 21 = some (w, cc, mL, ret) → Cond.code w cc mL ret ∈ am_Tq := fun w cc mL ret h => by
  have e : some (((⟨"EthernetGates$Address", "portAt", "(J)I"⟩, prog_2_method_3_code, 3, (some FieldType.int)) : MethodName × ByteArray × Nat × Option FieldType)) = some (w, cc, mL, ret) := h
  cases e
  exact List.mem_of_getElem? (i := 22) rfl
theorem am_mk_22 : ∀ (w : MethodName) (cc : ByteArray) (mL : Nat) (ret : Option FieldType), am_mi 22 = some (w, cc, mL, ret) → Cond.code w cc mL ret ∈ am_Tq := fun w cc mL ret h => by
  have e : some (((⟨"EthernetGates$Address", "isFixed", "()Z"⟩, prog_2_method_2_code, 1, (some FieldType.boolean)) : MethodName × ByteArray × Nat × Option FieldType)) = some (w, cc, mL, ret) := h
  cases e
  exact List.mem_of_getElem? (i := 23) rfl
theorem am_mk_23 : ∀ (w : MethodName) (cc : ByteArray) (mL : Nat) (ret : Option FieldType), am_mi 23 = some (w, cc, mL, ret) → Cond.code w cc mL ret ∈ am_Tq := fun w cc mL ret h => by
  have e : some (((⟨"EthernetGates", "queueCopies", "(LEthernetGates$Port;III)I"⟩, prog_1_method_20_code, 9, (some FieldType.int)) : MethodName × ByteArray × Nat × Option FieldType)) = some (w, cc, mL, ret) := h
  cases e
  exact List.mem_of_getElem? (i := 24) rfl
theorem am_mk_24 : ∀ (w : MethodName) (cc : ByteArray) (mL : Nat) (ret : Option FieldType), am_mi 24 = some (w, cc, mL, ret) → Cond.code w cc mL ret ∈ am_Tq := fun w cc mL ret h => by
  have e : some (((⟨"EthernetGates$Port", "queue", "(III)Z"⟩, prog_4_method_3_code, 4, (some FieldType.boolean)) : MethodName × ByteArray × Nat × Option FieldType)) = some (w, cc, mL, ret) := h
  cases e
  exact List.mem_of_getElem? (i := 25) rfl
theorem am_mk_25 : ∀ (w : MethodName) (cc : ByteArray) (mL : Nat) (ret : Option FieldType), am_mi 25 = some (w, cc, mL, ret) → Cond.code w cc mL ret ∈ am_Tq := fun w cc mL ret h => by
  have e : some (((⟨"EthernetGates$PortRank", "add", "(II)Z"⟩, prog_5_method_2_code, 4, (some FieldType.boolean)) : MethodName × ByteArray × Nat × Option FieldType)) = some (w, cc, mL, ret) := h
  cases e
  exact List.mem_of_getElem? (i := 26) rfl
theorem am_mk_26 : ∀ (w : MethodName) (cc : ByteArray) (mL : Nat) (ret : Option FieldType), am_mi 26 = some (w, cc, mL, ret) → Cond.code w cc mL ret ∈ am_Tq := fun w cc mL ret h => by
  have e : some (((⟨"EthernetGates", "run", "(J)I"⟩, prog_1_method_6_code, 9, (some FieldType.int)) : MethodName × ByteArray × Nat × Option FieldType)) = some (w, cc, mL, ret) := h
  cases e
  exact List.mem_of_getElem? (i := 27) rfl
theorem am_mk_27 : ∀ (w : MethodName) (cc : ByteArray) (mL : Nat) (ret : Option FieldType), am_mi 27 = some (w, cc, mL, ret) → Cond.code w cc mL ret ∈ am_Tq := fun w cc mL ret h => by
  have e : some (((⟨"EthernetGates", "endSendings", "()V"⟩, prog_1_method_21_code, 3, none) : MethodName × ByteArray × Nat × Option FieldType)) = some (w, cc, mL, ret) := h
  cases e
  exact List.mem_of_getElem? (i := 28) rfl
theorem am_mk_28 : ∀ (w : MethodName) (cc : ByteArray) (mL : Nat) (ret : Option FieldType), am_mi 28 = some (w, cc, mL, ret) → Cond.code w cc mL ret ∈ am_Tq := fun w cc mL ret h => by
  have e : some (((⟨"java/util/ArrayList", "size", "()I"⟩, prog_21_method_8_code, 1, (some FieldType.int)) : MethodName × ByteArray × Nat × Option FieldType)) = some (w, cc, mL, ret) := h
  cases e
  exact List.mem_of_getElem? (i := 29) rfl
theorem am_mk_29 : ∀ (w : MethodName) (cc : ByteArray) (mL : Nat) (ret : Option FieldType), am_mi 29 = some (w, cc, mL, ret) → Cond.code w cc mL ret ∈ am_Tq := fun w cc mL ret h => by
  have e : some (((⟨"EthernetGates$Departure", "<init>", "(IIJJ)V"⟩, prog_3_method_1_code, 7, none) : MethodName × ByteArray × Nat × Option FieldType)) = some (w, cc, mL, ret) := h
  cases e
  exact List.mem_of_getElem? (i := 30) rfl
theorem am_mk_30 : ∀ (w : MethodName) (cc : ByteArray) (mL : Nat) (ret : Option FieldType), am_mi 30 = some (w, cc, mL, ret) → Cond.code w cc mL ret ∈ am_Tq := fun w cc mL ret h => by
  have e : some (((⟨"java/util/ArrayList", "add", "(Ljava/lang/Object;)Z"⟩, prog_21_method_25_code, 2, (some FieldType.boolean)) : MethodName × ByteArray × Nat × Option FieldType)) = some (w, cc, mL, ret) := h
  cases e
  exact List.mem_of_getElem? (i := 31) rfl
theorem am_mk_31 : ∀ (w : MethodName) (cc : ByteArray) (mL : Nat) (ret : Option FieldType), am_mi 31 = some (w, cc, mL, ret) → Cond.code w cc mL ret ∈ am_Tq := fun w cc mL ret h => by
  have e : some (((⟨"java/util/ArrayList", "add", "(Ljava/lang/Object;[Ljava/lang/Object;I)V"⟩, prog_21_method_24_code, 4, none) : MethodName × ByteArray × Nat × Option FieldType)) = some (w, cc, mL, ret) := h
  cases e
  exact List.mem_of_getElem? (i := 32) rfl
theorem am_mk_32 : ∀ (w : MethodName) (cc : ByteArray) (mL : Nat) (ret : Option FieldType), am_mi 32 = some (w, cc, mL, ret) → Cond.code w cc mL ret ∈ am_Tq := fun w cc mL ret h => by
  have e : some (((⟨"java/util/ArrayList", "grow", "()[Ljava/lang/Object;"⟩, prog_21_method_7_code, 1, (some (FieldType.array (FieldType.object "java/lang/Object")))) : MethodName × ByteArray × Nat × Option FieldType)) = some (w, cc, mL, ret) := h
  cases e
  exact List.mem_of_getElem? (i := 33) rfl
theorem am_mk_33 : ∀ (w : MethodName) (cc : ByteArray) (mL : Nat) (ret : Option FieldType), am_mi 33 = some (w, cc, mL, ret) → Cond.code w cc mL ret ∈ am_Tq := fun w cc mL ret h => by
  have e : some (((⟨"java/util/ArrayList", "grow", "(I)[Ljava/lang/Object;"⟩, prog_21_method_6_code, 4, (some (FieldType.array (FieldType.object "java/lang/Object")))) : MethodName × ByteArray × Nat × Option FieldType)) = some (w, cc, mL, ret) := h
  cases e
  exact List.mem_of_getElem? (i := 34) rfl
theorem am_mk_34 : ∀ (w : MethodName) (cc : ByteArray) (mL : Nat) (ret : Option FieldType), am_mi 34 = some (w, cc, mL, ret) → Cond.code w cc mL ret ∈ am_Tq := fun w cc mL ret h => by
  have e : some (((⟨"jdk/internal/util/ArraysSupport", "newLength", "(III)I"⟩, prog_28_method_27_code, 4, (some FieldType.int)) : MethodName × ByteArray × Nat × Option FieldType)) = some (w, cc, mL, ret) := h
  cases e
  exact List.mem_of_getElem? (i := 35) rfl
theorem am_mk_35 : ∀ (w : MethodName) (cc : ByteArray) (mL : Nat) (ret : Option FieldType), am_mi 35 = some (w, cc, mL, ret) → Cond.code w cc mL ret ∈ am_Tq := fun w cc mL ret h => by
  have e : some (((⟨"jdk/internal/util/ArraysSupport", "hugeLength", "(II)I"⟩, prog_28_method_28_code, 3, (some FieldType.int)) : MethodName × ByteArray × Nat × Option FieldType)) = some (w, cc, mL, ret) := h
  cases e
  exact List.mem_of_getElem? (i := 37) rfl
theorem am_mk_36 : ∀ (w : MethodName) (cc : ByteArray) (mL : Nat) (ret : Option FieldType), am_mi 36 = some (w, cc, mL, ret) → Cond.code w cc mL ret ∈ am_Tq := fun w cc mL ret h => by
  have e : some (((⟨"java/util/Arrays", "copyOf", "([Ljava/lang/Object;I)[Ljava/lang/Object;"⟩, prog_22_method_119_code, 2, (some (FieldType.array (FieldType.object "java/lang/Object")))) : MethodName × ByteArray × Nat × Option FieldType)) = some (w, cc, mL, ret) := h
  cases e
  exact List.mem_of_getElem? (i := 38) rfl
theorem am_mk_37 : ∀ (w : MethodName) (cc : ByteArray) (mL : Nat) (ret : Option FieldType), am_mi 37 = some (w, cc, mL, ret) → Cond.code w cc mL ret ∈ am_Tq := fun w cc mL ret h => by
  have e : some (((⟨"EthernetGates", "beginSendings", "()V"⟩, prog_1_method_22_code, 2, none) : MethodName × ByteArray × Nat × Option FieldType)) = some (w, cc, mL, ret) := h
  cases e
  exact List.mem_of_getElem? (i := 41) rfl
theorem am_mk_38 : ∀ (w : MethodName) (cc : ByteArray) (mL : Nat) (ret : Option FieldType), am_mi 38 = some (w, cc, mL, ret) → Cond.code w cc mL ret ∈ am_Tq := fun w cc mL ret h => by
  have e : some (((⟨"EthernetGates$Port", "beginNext", "(JJ)V"⟩, prog_4_method_5_code, 11, none) : MethodName × ByteArray × Nat × Option FieldType)) = some (w, cc, mL, ret) := h
  cases e
  exact List.mem_of_getElem? (i := 42) rfl
theorem am_mk_39 : ∀ (w : MethodName) (cc : ByteArray) (mL : Nat) (ret : Option FieldType), am_mi 39 = some (w, cc, mL, ret) → Cond.code w cc mL ret ∈ am_Tq := fun w cc mL ret h => by
  have e : some (((⟨"EthernetGates$PortRank", "firstBits", "()I"⟩, prog_5_method_4_code, 1, (some FieldType.int)) : MethodName × ByteArray × Nat × Option FieldType)) = some (w, cc, mL, ret) := h
  cases e
  exact List.mem_of_getElem? (i := 43) rfl
theorem am_mk_40 : ∀ (w : MethodName) (cc : ByteArray) (mL : Nat) (ret : Option FieldType), am_mi 40 = some (w, cc, mL, ret) → Cond.code w cc mL ret ∈ am_Tq := fun w cc mL ret h => by
  have e : some (((⟨"EthernetGates$PortRank", "letsBegin", "(JJ)Z"⟩, prog_5_method_8_code, 5, (some FieldType.boolean)) : MethodName × ByteArray × Nat × Option FieldType)) = some (w, cc, mL, ret) := h
  cases e
  exact List.mem_of_getElem? (i := 44) rfl
theorem am_mk_41 : ∀ (w : MethodName) (cc : ByteArray) (mL : Nat) (ret : Option FieldType), am_mi 41 = some (w, cc, mL, ret) → Cond.code w cc mL ret ∈ am_Tq := fun w cc mL ret h => by
  have e : some (((⟨"EthernetGates$PortRank", "isShaped", "()Z"⟩, prog_5_method_6_code, 1, (some FieldType.boolean)) : MethodName × ByteArray × Nat × Option FieldType)) = some (w, cc, mL, ret) := h
  cases e
  exact List.mem_of_getElem? (i := 45) rfl
theorem am_mk_42 : ∀ (w : MethodName) (cc : ByteArray) (mL : Nat) (ret : Option FieldType), am_mi 42 = some (w, cc, mL, ret) → Cond.code w cc mL ret ∈ am_Tq := fun w cc mL ret h => by
  have e : some (((⟨"EthernetGates$PortRank", "isOpenFor", "(JJ)Z"⟩, prog_5_method_9_code, 6, (some FieldType.boolean)) : MethodName × ByteArray × Nat × Option FieldType)) = some (w, cc, mL, ret) := h
  cases e
  exact List.mem_of_getElem? (i := 46) rfl
theorem am_mk_43 : ∀ (w : MethodName) (cc : ByteArray) (mL : Nat) (ret : Option FieldType), am_mi 43 = some (w, cc, mL, ret) → Cond.code w cc mL ret ∈ am_Tq := fun w cc mL ret h => by
  have e : some (((⟨"EthernetGates$PortRank", "removeFirst", "()I"⟩, prog_5_method_3_code, 2, (some FieldType.int)) : MethodName × ByteArray × Nat × Option FieldType)) = some (w, cc, mL, ret) := h
  cases e
  exact List.mem_of_getElem? (i := 47) rfl
theorem am_mk_44 : ∀ (w : MethodName) (cc : ByteArray) (mL : Nat) (ret : Option FieldType), am_mi 44 = some (w, cc, mL, ret) → Cond.code w cc mL ret ∈ am_Tq := fun w cc mL ret h => by
  have e : some (((⟨"EthernetGates", "ticksUntilChange", "()J"⟩, prog_1_method_23_code, 4, (some FieldType.long)) : MethodName × ByteArray × Nat × Option FieldType)) = some (w, cc, mL, ret) := h
  cases e
  exact List.mem_of_getElem? (i := 48) rfl
theorem am_mk_45 : ∀ (w : MethodName) (cc : ByteArray) (mL : Nat) (ret : Option FieldType), am_mi 45 = some (w, cc, mL, ret) → Cond.code w cc mL ret ∈ am_Tq := fun w cc mL ret h => by
  have e : some (((⟨"EthernetGates$Port", "ticksUntilChange", "(J)J"⟩, prog_4_method_6_code, 3, (some FieldType.long)) : MethodName × ByteArray × Nat × Option FieldType)) = some (w, cc, mL, ret) := h
  cases e
  exact List.mem_of_getElem? (i := 49) rfl
theorem am_mk_46 : ∀ (w : MethodName) (cc : ByteArray) (mL : Nat) (ret : Option FieldType), am_mi 46 = some (w, cc, mL, ret) → Cond.code w cc mL ret ∈ am_Tq := fun w cc mL ret h => by
  have e : some (((⟨"EthernetGates", "moveCredits", "(J)V"⟩, prog_1_method_24_code, 4, none) : MethodName × ByteArray × Nat × Option FieldType)) = some (w, cc, mL, ret) := h
  cases e
  exact List.mem_of_getElem? (i := 51) rfl
theorem am_mk_47 : ∀ (w : MethodName) (cc : ByteArray) (mL : Nat) (ret : Option FieldType), am_mi 47 = some (w, cc, mL, ret) → Cond.code w cc mL ret ∈ am_Tq := fun w cc mL ret h => by
  have e : some (((⟨"EthernetGates$Port", "moveCredits", "(J)V"⟩, prog_4_method_7_code, 5, none) : MethodName × ByteArray × Nat × Option FieldType)) = some (w, cc, mL, ret) := h
  cases e
  exact List.mem_of_getElem? (i := 52) rfl
theorem am_mk_48 : ∀ (w : MethodName) (cc : ByteArray) (mL : Nat) (ret : Option FieldType), am_mi 48 = some (w, cc, mL, ret) → Cond.code w cc mL ret ∈ am_Tq := fun w cc mL ret h => by
  have e : some (((⟨"EthernetGates$PortRank", "moveCredit", "(JJ)V"⟩, prog_5_method_10_code, 5, none) : MethodName × ByteArray × Nat × Option FieldType)) = some (w, cc, mL, ret) := h
  cases e
  exact List.mem_of_getElem? (i := 53) rfl
theorem am_mk_49 : ∀ (w : MethodName) (cc : ByteArray) (mL : Nat) (ret : Option FieldType), am_mi 49 = some (w, cc, mL, ret) → Cond.code w cc mL ret ∈ am_Tq := fun w cc mL ret h => by
  have e : some (((⟨"EthernetGates", "left", "(II)I"⟩, prog_1_method_7_code, 4, (some FieldType.int)) : MethodName × ByteArray × Nat × Option FieldType)) = some (w, cc, mL, ret) := h
  cases e
  exact List.mem_of_getElem? (i := 54) rfl
theorem am_mk_50 : ∀ (w : MethodName) (cc : ByteArray) (mL : Nat) (ret : Option FieldType), am_mi 50 = some (w, cc, mL, ret) → Cond.code w cc mL ret ∈ am_Tq := fun w cc mL ret h => by
  have e : some (((⟨"java/util/ArrayList", "get", "(I)Ljava/lang/Object;"⟩, prog_21_method_20_code, 2, (some (FieldType.object "java/lang/Object"))) : MethodName × ByteArray × Nat × Option FieldType)) = some (w, cc, mL, ret) := h
  cases e
  exact List.mem_of_getElem? (i := 55) rfl
theorem am_mk_51 : ∀ (w : MethodName) (cc : ByteArray) (mL : Nat) (ret : Option FieldType), am_mi 51 = some (w, cc, mL, ret) → Cond.code w cc mL ret ∈ am_Tq := fun w cc mL ret h => by
  have e : some (((⟨"java/util/Objects", "checkIndex", "(II)I"⟩, prog_25_method_17_code, 2, (some FieldType.int)) : MethodName × ByteArray × Nat × Option FieldType)) = some (w, cc, mL, ret) := h
  cases e
  exact List.mem_of_getElem? (i := 56) rfl
theorem am_mk_52 : ∀ (w : MethodName) (cc : ByteArray) (mL : Nat) (ret : Option FieldType), am_mi 52 = some (w, cc, mL, ret) → Cond.code w cc mL ret ∈ am_Tq := fun w cc mL ret h => by
  have e : some (((⟨"jdk/internal/util/Preconditions", "checkIndex", "(IILjava/util/function/BiFunction;)I"⟩, prog_29_method_11_code, 3, (some FieldType.int)) : MethodName × ByteArray × Nat × Option FieldType)) = some (w, cc, mL, ret) := h
  cases e
  exact List.mem_of_getElem? (i := 57) rfl
theorem am_mk_53 : ∀ (w : MethodName) (cc : ByteArray) (mL : Nat) (ret : Option FieldType), am_mi 53 = some (w, cc, mL, ret) → Cond.code w cc mL ret ∈ am_Tq := fun w cc mL ret h => by
  have e : some (((⟨"java/util/ArrayList", "elementData", "(I)Ljava/lang/Object;"⟩, prog_21_method_18_code, 2, (some (FieldType.object "java/lang/Object"))) : MethodName × ByteArray × Nat × Option FieldType)) = some (w, cc, mL, ret) := h
  cases e
  exact List.mem_of_getElem? (i := 58) rfl
theorem am_mk_54 : ∀ (w : MethodName) (cc : ByteArray) (mL : Nat) (ret : Option FieldType), am_mi 54 = some (w, cc, mL, ret) → Cond.code w cc mL ret ∈ am_Tq := fun w cc mL ret h => by
  have e : some (((⟨"EthernetGates", "learn", "(IIJ)I"⟩, prog_1_method_8_code, 7, (some FieldType.int)) : MethodName × ByteArray × Nat × Option FieldType)) = some (w, cc, mL, ret) := h
  cases e
  exact List.mem_of_getElem? (i := 59) rfl
theorem am_mk_55 : ∀ (w : MethodName) (cc : ByteArray) (mL : Nat) (ret : Option FieldType), am_mi 55 = some (w, cc, mL, ret) → Cond.code w cc mL ret ∈ am_Tq := fun w cc mL ret h => by
  have e : some (((⟨"EthernetGates", "credit", "(IIJJ)I"⟩, prog_1_method_9_code, 8, (some FieldType.int)) : MethodName × ByteArray × Nat × Option FieldType)) = some (w, cc, mL, ret) := h
  cases e
  exact List.mem_of_getElem? (i := 60) rfl
theorem am_mk_56 : ∀ (w : MethodName) (cc : ByteArray) (mL : Nat) (ret : Option FieldType), am_mi 56 = some (w, cc, mL, ret) → Cond.code w cc mL ret ∈ am_Tq := fun w cc mL ret h => by
  have e : some (((⟨"EthernetGates$PortRank", "shape", "(JJ)V"⟩, prog_5_method_7_code, 5, none) : MethodName × ByteArray × Nat × Option FieldType)) = some (w, cc, mL, ret) := h
  cases e
  exact List.mem_of_getElem? (i := 61) rfl
theorem am_mk_57 : ∀ (w : MethodName) (cc : ByteArray) (mL : Nat) (ret : Option FieldType), am_mi 57 = some (w, cc, mL, ret) → Cond.code w cc mL ret ∈ am_Tq := fun w cc mL ret h => by
  have e : some (((⟨"EthernetGates", "filter", "(IJ)I"⟩, prog_1_method_10_code, 6, (some FieldType.int)) : MethodName × ByteArray × Nat × Option FieldType)) = some (w, cc, mL, ret) := h
  cases e
  exact List.mem_of_getElem? (i := 62) rfl
theorem am_mk_58 : ∀ (w : MethodName) (cc : ByteArray) (mL : Nat) (ret : Option FieldType), am_mi 58 = some (w, cc, mL, ret) → Cond.code w cc mL ret ∈ am_Tq := fun w cc mL ret h => by
  have e : some (((⟨"EthernetGates", "clock", "(IJ)I"⟩, prog_1_method_11_code, 7, (some FieldType.int)) : MethodName × ByteArray × Nat × Option FieldType)) = some (w, cc, mL, ret) := h
  cases e
  exact List.mem_of_getElem? (i := 63) rfl
theorem am_mk_59 : ∀ (w : MethodName) (cc : ByteArray) (mL : Nat) (ret : Option FieldType), am_mi 59 = some (w, cc, mL, ret) → Cond.code w cc mL ret ∈ am_Tq := fun w cc mL ret h => by
  have e : some (((⟨"EthernetGates", "dropped", "(I)I"⟩, prog_1_method_12_code, 2, (some FieldType.int)) : MethodName × ByteArray × Nat × Option FieldType)) = some (w, cc, mL, ret) := h
  cases e
  exact List.mem_of_getElem? (i := 64) rfl
theorem am_mk_60 : ∀ (w : MethodName) (cc : ByteArray) (mL : Nat) (ret : Option FieldType), am_mi 60 = some (w, cc, mL, ret) → Cond.code w cc mL ret ∈ am_Tq := fun w cc mL ret h => by
  have e : some (((⟨"EthernetGates", "service", "(II)I"⟩, prog_1_method_13_code, 3, (some FieldType.int)) : MethodName × ByteArray × Nat × Option FieldType)) = some (w, cc, mL, ret) := h
  cases e
  exact List.mem_of_getElem? (i := 65) rfl
theorem am_mk_61 : ∀ (w : MethodName) (cc : ByteArray) (mL : Nat) (ret : Option FieldType), am_mi 61 = some (w, cc, mL, ret) → Cond.code w cc mL ret ∈ am_Tq := fun w cc mL ret h => by
  have e : some (((⟨"EthernetGates", "offererOf", "(I)I"⟩, prog_1_method_14_code, 2, (some FieldType.int)) : MethodName × ByteArray × Nat × Option FieldType)) = some (w, cc, mL, ret) := h
  cases e
  exact List.mem_of_getElem? (i := 66) rfl
theorem am_mk_62 : ∀ (w : MethodName) (cc : ByteArray) (mL : Nat) (ret : Option FieldType), am_mi 62 = some (w, cc, mL, ret) → Cond.code w cc mL ret ∈ am_Tq := fun w cc mL ret h => by
  have e : some (((⟨"EthernetGates", "isService", "(I)Z"⟩, prog_1_method_19_code, 1, (some FieldType.boolean)) : MethodName × ByteArray × Nat × Option FieldType)) = some (w, cc, mL, ret) := h
  cases e
  exact List.mem_of_getElem? (i := 67) rfl
theorem am_mk_63 : ∀ (w : MethodName) (cc : ByteArray) (mL : Nat) (ret : Option FieldType), am_mi 63 = some (w, cc, mL, ret) → Cond.code w cc mL ret ∈ am_Tq := fun w cc mL ret h => by
  have e : some (((⟨"EthernetGatesLaw", "cell", "([II)I"⟩, method_2_code, 2, (some FieldType.int)) : MethodName × ByteArray × Nat × Option FieldType)) = some (w, cc, mL, ret) := h
  cases e
  exact List.mem_of_getElem? (i := 68) rfl
theorem am_mk_64 : ∀ (w : MethodName) (cc : ByteArray) (mL : Nat) (ret : Option FieldType), am_mi 64 = some (w, cc, mL, ret) → Cond.code w cc mL ret ∈ am_Tq := fun w cc mL ret h => by
  have e : some (((⟨"EthernetGates", "cycle", "(J)I"⟩, prog_1_method_4_code, 3, (some FieldType.int)) : MethodName × ByteArray × Nat × Option FieldType)) = some (w, cc, mL, ret) := h
  cases e
  exact List.mem_of_getElem? (i := 69) rfl
theorem am_mk_65 : ∀ (w : MethodName) (cc : ByteArray) (mL : Nat) (ret : Option FieldType), am_mi 65 = some (w, cc, mL, ret) → Cond.code w cc mL ret ∈ am_Tq := fun w cc mL ret h => by
  have e : some (((⟨"EthernetGatesModel", "<init>", "(I)V"⟩, prog_8_method_1_code, 2, none) : MethodName × ByteArray × Nat × Option FieldType)) = some (w, cc, mL, ret) := h
  cases e
  exact List.mem_of_getElem? (i := 75) rfl
theorem am_mk_66 : ∀ (w : MethodName) (cc : ByteArray) (mL : Nat) (ret : Option FieldType), am_mi 66 = some (w, cc, mL, ret) → Cond.code w cc mL ret ∈ am_Tq := fun w cc mL ret h => by
  have e : some (((⟨"EthernetGatesModel", "thrown", "()I"⟩, prog_8_method_2_code, 1, (some FieldType.int)) : MethodName × ByteArray × Nat × Option FieldType)) = some (w, cc, mL, ret) := h
  cases e
  exact List.mem_of_getElem? (i := 76) rfl
theorem am_mk_67 : ∀ (w : MethodName) (cc : ByteArray) (mL : Nat) (ret : Option FieldType), am_mi 67 = some (w, cc, mL, ret) → Cond.code w cc mL ret ∈ am_Tq := fun w cc mL ret h => by
  have e : some (((⟨"EthernetGatesModel", "link", "(IJ)I"⟩, prog_8_method_5_code, 6, (some FieldType.int)) : MethodName × ByteArray × Nat × Option FieldType)) = some (w, cc, mL, ret) := h
  cases e
  exact List.mem_of_getElem? (i := 77) rfl
theorem am_mk_68 : ∀ (w : MethodName) (cc : ByteArray) (mL : Nat) (ret : Option FieldType), am_mi 68 = some (w, cc, mL, ret) → Cond.code w cc mL ret ∈ am_Tq := fun w cc mL ret h => by
  have e : some (((⟨"EthernetGatesModel", "none", "(I)Z"⟩, prog_8_method_3_code, 2, (some FieldType.boolean)) : MethodName × ByteArray × Nat × Option FieldType)) = some (w, cc, mL, ret) := h
  cases e
  exact List.mem_of_getElem? (i := 78) rfl
theorem am_mk_69 : ∀ (w : MethodName) (cc : ByteArray) (mL : Nat) (ret : Option FieldType), am_mi 69 = some (w, cc, mL, ret) → Cond.code w cc mL ret ∈ am_Tq := fun w cc mL ret h => by
  have e : some (((⟨"EthernetGatesModel", "gate", "(IIJJ)I"⟩, prog_8_method_6_code, 8, (some FieldType.int)) : MethodName × ByteArray × Nat × Option FieldType)) = some (w, cc, mL, ret) := h
  cases e
  exact List.mem_of_getElem? (i := 79) rfl
theorem am_mk_70 : ∀ (w : MethodName) (cc : ByteArray) (mL : Nat) (ret : Option FieldType), am_mi 70 = some (w, cc, mL, ret) → Cond.code w cc mL ret ∈ am_Tq := fun w cc mL ret h => by
  have e : some (((⟨"EthernetGatesModel", "noRank", "(II)Z"⟩, prog_8_method_4_code, 3, (some FieldType.boolean)) : MethodName × ByteArray × Nat × Option FieldType)) = some (w, cc, mL, ret) := h
  cases e
  exact List.mem_of_getElem? (i := 80) rfl
theorem am_mk_71 : ∀ (w : MethodName) (cc : ByteArray) (mL : Nat) (ret : Option FieldType), am_mi 71 = some (w, cc, mL, ret) → Cond.code w cc mL ret ∈ am_Tq := fun w cc mL ret h => by
  have e : some (((⟨"EthernetGatesModel", "cycle", "(J)I"⟩, prog_8_method_7_code, 5, (some FieldType.int)) : MethodName × ByteArray × Nat × Option FieldType)) = some (w, cc, mL, ret) := h
  cases e
  exact List.mem_of_getElem? (i := 81) rfl
theorem am_mk_72 : ∀ (w : MethodName) (cc : ByteArray) (mL : Nat) (ret : Option FieldType), am_mi 72 = some (w, cc, mL, ret) → Cond.code w cc mL ret ∈ am_Tq := fun w cc mL ret h => by
  have e : some (((⟨"EthernetGatesModel", "learn", "(IIJ)I"⟩, prog_8_method_9_code, 6, (some FieldType.int)) : MethodName × ByteArray × Nat × Option FieldType)) = some (w, cc, mL, ret) := h
  cases e
  exact List.mem_of_getElem? (i := 82) rfl
theorem am_mk_73 : ∀ (w : MethodName) (cc : ByteArray) (mL : Nat) (ret : Option FieldType), am_mi 73 = some (w, cc, mL, ret) → Cond.code w cc mL ret ∈ am_Tq := fun w cc mL ret h => by
  have e : some (((⟨"EthernetGatesModel", "isAt", "(I)Z"⟩, prog_8_method_8_code, 2, (some FieldType.boolean)) : MethodName × ByteArray × Nat × Option FieldType)) = some (w, cc, mL, ret) := h
  cases e
  exact List.mem_of_getElem? (i := 83) rfl
theorem am_mk_74 : ∀ (w : MethodName) (cc : ByteArray) (mL : Nat) (ret : Option FieldType), am_mi 74 = some (w, cc, mL, ret) → Cond.code w cc mL ret ∈ am_Tq := fun w cc mL ret h => by
  have e : some (((⟨"EthernetGatesModel", "credit", "(IIJJ)I"⟩, prog_8_method_10_code, 7, (some FieldType.int)) : MethodName × ByteArray × Nat × Option FieldType)) = some (w, cc, mL, ret) := h
  cases e
  exact List.mem_of_getElem? (i := 84) rfl
theorem am_mk_75 : ∀ (w : MethodName) (cc : ByteArray) (mL : Nat) (ret : Option FieldType), am_mi 75 = some (w, cc, mL, ret) → Cond.code w cc mL ret ∈ am_Tq := fun w cc mL ret h => by
  have e : some (((⟨"EthernetGatesModel", "filter", "(IJ)I"⟩, prog_8_method_12_code, 4, (some FieldType.int)) : MethodName × ByteArray × Nat × Option FieldType)) = some (w, cc, mL, ret) := h
  cases e
  exact List.mem_of_getElem? (i := 85) rfl
theorem am_mk_76 : ∀ (w : MethodName) (cc : ByteArray) (mL : Nat) (ret : Option FieldType), am_mi 76 = some (w, cc, mL, ret) → Cond.code w cc mL ret ∈ am_Tq := fun w cc mL ret h => by
  have e : some (((⟨"EthernetGatesModel", "look", "(I)V"⟩, prog_8_method_11_code, 2, none) : MethodName × ByteArray × Nat × Option FieldType)) = some (w, cc, mL, ret) := h
  cases e
  exact List.mem_of_getElem? (i := 86) rfl
theorem am_mk_77 : ∀ (w : MethodName) (cc : ByteArray) (mL : Nat) (ret : Option FieldType), am_mi 77 = some (w, cc, mL, ret) → Cond.code w cc mL ret ∈ am_Tq := fun w cc mL ret h => by
  have e : some (((⟨"EthernetGatesModel", "clock", "(IJ)I"⟩, prog_8_method_13_code, 4, (some FieldType.int)) : MethodName × ByteArray × Nat × Option FieldType)) = some (w, cc, mL, ret) := h
  cases e
  exact List.mem_of_getElem? (i := 87) rfl
theorem am_mk_78 : ∀ (w : MethodName) (cc : ByteArray) (mL : Nat) (ret : Option FieldType), am_mi 78 = some (w, cc, mL, ret) → Cond.code w cc mL ret ∈ am_Tq := fun w cc mL ret h => by
  have e : some (((⟨"EthernetGatesModel", "service", "(II)I"⟩, prog_8_method_14_code, 3, (some FieldType.int)) : MethodName × ByteArray × Nat × Option FieldType)) = some (w, cc, mL, ret) := h
  cases e
  exact List.mem_of_getElem? (i := 88) rfl
theorem am_mk_79 : ∀ (w : MethodName) (cc : ByteArray) (mL : Nat) (ret : Option FieldType), am_mi 79 = some (w, cc, mL, ret) → Cond.code w cc mL ret ∈ am_Tq := fun w cc mL ret h => by
  have e : some (((⟨"EthernetGatesModel", "frame", "(IIII)I"⟩, prog_8_method_16_code, 10, (some FieldType.int)) : MethodName × ByteArray × Nat × Option FieldType)) = some (w, cc, mL, ret) := h
  cases e
  exact List.mem_of_getElem? (i := 89) rfl
theorem am_mk_80 : ∀ (w : MethodName) (cc : ByteArray) (mL : Nat) (ret : Option FieldType), am_mi 80 = some (w, cc, mL, ret) → Cond.code w cc mL ret ∈ am_Tq := fun w cc mL ret h => by
  have e : some (((⟨"EthernetGatesModel", "enter", "(III)I"⟩, prog_8_method_15_code, 5, (some FieldType.int)) : MethodName × ByteArray × Nat × Option FieldType)) = some (w, cc, mL, ret) := h
  cases e
  exact List.mem_of_getElem? (i := 90) rfl
theorem am_mk_81 : ∀ (w : MethodName) (cc : ByteArray) (mL : Nat) (ret : Option FieldType), am_mi 81 = some (w, cc, mL, ret) → Cond.code w cc mL ret ∈ am_Tq := fun w cc mL ret h => by
  have e : some (((⟨"EthernetGatesModel", "run", "(J)I"⟩, prog_8_method_22_code, 6, (some FieldType.int)) : MethodName × ByteArray × Nat × Option FieldType)) = some (w, cc, mL, ret) := h
  cases e
  exact List.mem_of_getElem? (i := 91) rfl
theorem am_mk_82 : ∀ (w : MethodName) (cc : ByteArray) (mL : Nat) (ret : Option FieldType), am_mi 82 = some (w, cc, mL, ret) → Cond.code w cc mL ret ∈ am_Tq := fun w cc mL ret h => by
  have e : some (((⟨"EthernetGatesModel", "tick", "()V"⟩, prog_8_method_21_code, 3, none) : MethodName × ByteArray × Nat × Option FieldType)) = some (w, cc, mL, ret) := h
  cases e
  exact List.mem_of_getElem? (i := 92) rfl
theorem am_mk_83 : ∀ (w : MethodName) (cc : ByteArray) (mL : Nat) (ret : Option FieldType), am_mi 83 = some (w, cc, mL, ret) → Cond.code w cc mL ret ∈ am_Tq := fun w cc mL ret h => by
  have e : some (((⟨"EthernetGatesModel", "may", "(II)Z"⟩, prog_8_method_19_code, 5, (some FieldType.boolean)) : MethodName × ByteArray × Nat × Option FieldType)) = some (w, cc, mL, ret) := h
  cases e
  exact List.mem_of_getElem? (i := 93) rfl
theorem am_mk_84 : ∀ (w : MethodName) (cc : ByteArray) (mL : Nat) (ret : Option FieldType), am_mi 84 = some (w, cc, mL, ret) → Cond.code w cc mL ret ∈ am_Tq := fun w cc mL ret h => by
  have e : some (((⟨"EthernetGatesModel", "time", "(II)J"⟩, prog_8_method_17_code, 5, (some FieldType.long)) : MethodName × ByteArray × Nat × Option FieldType)) = some (w, cc, mL, ret) := h
  cases e
  exact List.mem_of_getElem? (i := 94) rfl
theorem am_mk_85 : ∀ (w : MethodName) (cc : ByteArray) (mL : Nat) (ret : Option FieldType), am_mi 85 = some (w, cc, mL, ret) → Cond.code w cc mL ret ∈ am_Tq := fun w cc mL ret h => by
  have e : some (((⟨"EthernetGatesModel", "open", "(IJJ)Z"⟩, prog_8_method_18_code, 8, (some FieldType.boolean)) : MethodName × ByteArray × Nat × Option FieldType)) = some (w, cc, mL, ret) := h
  cases e
  exact List.mem_of_getElem? (i := 95) rfl
theorem am_mk_86 : ∀ (w : MethodName) (cc : ByteArray) (mL : Nat) (ret : Option FieldType), am_mi 86 = some (w, cc, mL, ret) → Cond.code w cc mL ret ∈ am_Tq := fun w cc mL ret h => by
  have e : some (((⟨"EthernetGatesModel", "begin", "(II)V"⟩, prog_8_method_20_code, 5, none) : MethodName × ByteArray × Nat × Option FieldType)) = some (w, cc, mL, ret) := h
  cases e
  exact List.mem_of_getElem? (i := 96) rfl
theorem am_mk_87 : ∀ (w : MethodName) (cc : ByteArray) (mL : Nat) (ret : Option FieldType), am_mi 87 = some (w, cc, mL, ret) → Cond.code w cc mL ret ∈ am_Tq := fun w cc mL ret h => by
  have e : some (((⟨"EthernetGatesModel", "left", "(II)I"⟩, prog_8_method_23_code, 3, (some FieldType.int)) : MethodName × ByteArray × Nat × Option FieldType)) = some (w, cc, mL, ret) := h
  cases e
  exact List.mem_of_getElem? (i := 97) rfl
theorem am_mk_88 : ∀ (w : MethodName) (cc : ByteArray) (mL : Nat) (ret : Option FieldType), am_mi 88 = some (w, cc, mL, ret) → Cond.code w cc mL ret ∈ am_Tq := fun w cc mL ret h => by
  have e : some (((⟨"EthernetGatesModel", "dropped", "(I)I"⟩, prog_8_method_24_code, 2, (some FieldType.int)) : MethodName × ByteArray × Nat × Option FieldType)) = some (w, cc, mL, ret) := h
  cases e
  exact List.mem_of_getElem? (i := 98) rfl
theorem am_mk_all : ∀ x ∈ am_mok, ∀ (w : MethodName) (cc : ByteArray) (mL : Nat) (ret : Option FieldType), am_mi x = some (w, cc, mL, ret) → Cond.code w cc mL ret ∈ am_Tq := List.forall_mem_cons.mpr ⟨am_mk_1, List.forall_mem_cons.mpr ⟨am_mk_2, List.forall_mem_cons.mpr ⟨am_mk_3, List.forall_mem_cons.mpr ⟨am_mk_4, List.forall_mem_cons.mpr ⟨am_mk_5, List.forall_mem_cons.mpr ⟨am_mk_6, List.forall_mem_cons.mpr ⟨am_mk_7, List.forall_mem_cons.mpr ⟨am_mk_8, List.forall_mem_cons.mpr ⟨am_mk_9, List.forall_mem_cons.mpr ⟨am_mk_10, List.forall_mem_cons.mpr ⟨am_mk_11, List.forall_mem_cons.mpr ⟨am_mk_12, List.forall_mem_cons.mpr ⟨am_mk_13, List.forall_mem_cons.mpr ⟨am_mk_14, List.forall_mem_cons.mpr ⟨am_mk_15, List.forall_mem_cons.mpr ⟨am_mk_16, List.forall_mem_cons.mpr ⟨am_mk_17, List.forall_mem_cons.mpr ⟨am_mk_18, List.forall_mem_cons.mpr ⟨am_mk_19, List.forall_mem_cons.mpr ⟨am_mk_20, List.forall_mem_cons.mpr ⟨am_mk_21, List.forall_mem_cons.mpr ⟨am_mk_22, List.forall_mem_cons.mpr ⟨am_mk_23, List.forall_mem_cons.mpr ⟨am_mk_24, List.forall_mem_cons.mpr ⟨am_mk_25, List.forall_mem_cons.mpr ⟨am_mk_26, List.forall_mem_cons.mpr ⟨am_mk_27, List.forall_mem_cons.mpr ⟨am_mk_28, List.forall_mem_cons.mpr ⟨am_mk_29, List.forall_mem_cons.mpr ⟨am_mk_30, List.forall_mem_cons.mpr ⟨am_mk_31, List.forall_mem_cons.mpr ⟨am_mk_32, List.forall_mem_cons.mpr ⟨am_mk_33, List.forall_mem_cons.mpr ⟨am_mk_34, List.forall_mem_cons.mpr ⟨am_mk_35, List.forall_mem_cons.mpr ⟨am_mk_36, List.forall_mem_cons.mpr ⟨am_mk_37, List.forall_mem_cons.mpr ⟨am_mk_38, List.forall_mem_cons.mpr ⟨am_mk_39, List.forall_mem_cons.mpr ⟨am_mk_40, List.forall_mem_cons.mpr ⟨am_mk_41, List.forall_mem_cons.mpr ⟨am_mk_42, List.forall_mem_cons.mpr ⟨am_mk_43, List.forall_mem_cons.mpr ⟨am_mk_44, List.forall_mem_cons.mpr ⟨am_mk_45, List.forall_mem_cons.mpr ⟨am_mk_46, List.forall_mem_cons.mpr ⟨am_mk_47, List.forall_mem_cons.mpr ⟨am_mk_48, List.forall_mem_cons.mpr ⟨am_mk_49, List.forall_mem_cons.mpr ⟨am_mk_50, List.forall_mem_cons.mpr ⟨am_mk_51, List.forall_mem_cons.mpr ⟨am_mk_52, List.forall_mem_cons.mpr ⟨am_mk_53, List.forall_mem_cons.mpr ⟨am_mk_54, List.forall_mem_cons.mpr ⟨am_mk_55, List.forall_mem_cons.mpr ⟨am_mk_56, List.forall_mem_cons.mpr ⟨am_mk_57, List.forall_mem_cons.mpr ⟨am_mk_58, List.forall_mem_cons.mpr ⟨am_mk_59, List.forall_mem_cons.mpr ⟨am_mk_60, List.forall_mem_cons.mpr ⟨am_mk_61, List.forall_mem_cons.mpr ⟨am_mk_62, List.forall_mem_cons.mpr ⟨am_mk_63, List.forall_mem_cons.mpr ⟨am_mk_64, List.forall_mem_cons.mpr ⟨am_mk_65, List.forall_mem_cons.mpr ⟨am_mk_66, List.forall_mem_cons.mpr ⟨am_mk_67, List.forall_mem_cons.mpr ⟨am_mk_68, List.forall_mem_cons.mpr ⟨am_mk_69, List.forall_mem_cons.mpr ⟨am_mk_70, List.forall_mem_cons.mpr ⟨am_mk_71, List.forall_mem_cons.mpr ⟨am_mk_72, List.forall_mem_cons.mpr ⟨am_mk_73, List.forall_mem_cons.mpr ⟨am_mk_74, List.forall_mem_cons.mpr ⟨am_mk_75, List.forall_mem_cons.mpr ⟨am_mk_76, List.forall_mem_cons.mpr ⟨am_mk_77, List.forall_mem_cons.mpr ⟨am_mk_78, List.forall_mem_cons.mpr ⟨am_mk_79, List.forall_mem_cons.mpr ⟨am_mk_80, List.forall_mem_cons.mpr ⟨am_mk_81, List.forall_mem_cons.mpr ⟨am_mk_82, List.forall_mem_cons.mpr ⟨am_mk_83, List.forall_mem_cons.mpr ⟨am_mk_84, List.forall_mem_cons.mpr ⟨am_mk_85, List.forall_mem_cons.mpr ⟨am_mk_86, List.forall_mem_cons.mpr ⟨am_mk_87, List.forall_mem_cons.mpr ⟨am_mk_88, fun _ h => absurd h List.not_mem_nil⟩⟩⟩⟩⟩⟩⟩⟩⟩⟩⟩⟩⟩⟩⟩⟩⟩⟩⟩⟩⟩⟩⟩⟩⟩⟩⟩⟩⟩⟩⟩⟩⟩⟩⟩⟩⟩⟩⟩⟩⟩⟩⟩⟩⟩⟩⟩⟩⟩⟩⟩⟩⟩⟩⟩⟩⟩⟩⟩⟩⟩⟩⟩⟩⟩⟩⟩⟩⟩⟩⟩⟩⟩⟩⟩⟩⟩⟩⟩⟩⟩⟩⟩⟩⟩⟩⟩⟩
theorem am_mok_b : am_mok.all (fun x => match am_mi x with | some (w, _, _, _) => decide (Cond.initialized w.cls ∈ am_Ti) && decide (w.cls ≠ "java/lang/invoke/MethodHandle" ∧ w.cls ≠ "java/lang/invoke/VarHandle") | none => false) = true := by decide +kernel
theorem am_mok_x {x : Nat} {w : MethodName} {cc : ByteArray} {mL : Nat} {ret : Option FieldType} (h : am_mok.contains x = true) (hq : am_mi x = some (w, cc, mL, ret)) : Cond.code w cc mL ret ∈ am_Tg ∧ Cond.initialized w.cls ∈ am_Tg ∧ (w.cls ≠ "java/lang/invoke/MethodHandle" ∧ w.cls ≠ "java/lang/invoke/VarHandle") := by
  have hm : x ∈ am_mok := List.contains_iff_mem.mp h
  have h1 := List.all_eq_true.mp am_mok_b x hm
  rw [hq] at h1
  simp only [Bool.and_eq_true, decide_eq_true_eq] at h1
  exact ⟨am_iQ (am_mk_all x hm w cc mL ret hq), am_iI h1.1, h1.2⟩
theorem am_mov_b : am_mov.all (fun x => match am_mi x with | some (w, _, _, _) => decide (Cond.instanceMethod w ∈ am_Tk) && (decide (Cond.selects w.cls w w ∈ am_Tk) || decide (Cond.selects w.cls w w ∈ am_Ts)) | none => false) = true := by decide +kernel
theorem am_mov_x {x : Nat} {w : MethodName} {cc : ByteArray} {mL : Nat} {ret : Option FieldType} (h : am_mov.contains x = true) (hq : am_mi x = some (w, cc, mL, ret)) : Cond.instanceMethod w ∈ am_Tg ∧ Cond.selects w.cls w w ∈ am_Tg := by
  have h1 := List.all_eq_true.mp am_mov_b x (List.contains_iff_mem.mp h)
  rw [hq] at h1
  simp only [Bool.and_eq_true, Bool.or_eq_true, decide_eq_true_eq] at h1
  refine ⟨am_iK h1.1, ?_⟩
  rcases h1.2 with q | q
  · exact am_iK q
  · exact am_iS q
theorem am_moi_b : am_moi.all (fun x => match am_mi x with | some (w, _, _, ret) => decide (Cond.instanceMethod w ∈ am_Tk) && decide (w.name = "<init>") && decide (ret = none) | none => false) = true := by decide +kernel
theorem am_moi_x {x : Nat} {w : MethodName} {cc : ByteArray} {mL : Nat} {ret : Option FieldType} (h : am_moi.contains x = true) (hq : am_mi x = some (w, cc, mL, ret)) : Cond.instanceMethod w ∈ am_Tg ∧ w.name = "<init>" ∧ ret = none := by
  have h1 := List.all_eq_true.mp am_moi_b x (List.contains_iff_mem.mp h)
  rw [hq] at h1
  simp only [Bool.and_eq_true, decide_eq_true_eq] at h1
  exact ⟨am_iK h1.1.1, h1.1.2, h1.2⟩
theorem am_mos_b : am_mos.all (fun x => match am_mi x with | some (w, _, _, _) => decide (Cond.static w ∈ am_Tk) | none => false) = true := by decide +kernel
theorem am_mos_x {x : Nat} {w : MethodName} {cc : ByteArray} {mL : Nat} {ret : Option FieldType} (h : am_mos.contains x = true) (hq : am_mi x = some (w, cc, mL, ret)) : Cond.static w ∈ am_Tg := by
  have h1 := List.all_eq_true.mp am_mos_b x (List.contains_iff_mem.mp h)
  rw [hq] at h1
  simp only [decide_eq_true_eq] at h1
  exact am_iK h1
theorem am_obj : Cond.instanceMethod Lib.objectInit ∈ am_Tg ∧ Cond.code Lib.objectInit ⟨#[0xb1]⟩ 1 none ∈ am_Tg := ⟨am_iK (by decide +kernel), am_iQ (List.mem_of_getElem? (i := 1) rfl)⟩
theorem am_math : Cond.initialized "java/lang/Math" ∈ am_Tg ∧ Cond.static Lib.Math.max.name ∈ am_Tg ∧ Cond.code Lib.Math.max.name Lib.Math.max.code 2 (some .int) ∈ am_Tg ∧ Cond.static Lib.Math.min.name ∈ am_Tg ∧ Cond.code Lib.Math.min.name Lib.Math.min.code 2 (some .int) ∈ am_Tg ∧ Cond.static Lib.MathLoose.max_long.x ∈ am_Tg ∧ Cond.code Lib.MathLoose.max_long.x Lib.MathLoose.max_long.code 4 (some .long) ∈ am_Tg ∧ Cond.static Lib.MathLoose.min_long.x ∈ am_Tg ∧ Cond.code Lib.MathLoose.min_long.x Lib.MathLoose.min_long.code 4 (some .long) ∈ am_Tg :=
  ⟨am_iI (by decide +kernel), am_iK (by decide +kernel), am_iQ (List.mem_of_getElem? (i := 36) rfl), am_iK (by decide +kernel), am_iQ (List.mem_of_getElem? (i := 40) rfl), am_iK (by decide +kernel), am_iQ (List.mem_of_getElem? (i := 14) rfl), am_iK (by decide +kernel), am_iQ (List.mem_of_getElem? (i := 50) rfl)⟩
theorem am_mi_b : (List.range am_mis.length).all (fun x => match am_mi x with | some (w, _, mL, _) => decide (x = 0) || (Jvm.plainName w.cls && decide (am_ml x = mL)) | none => true) = true := by decide +kernel
theorem am_mi_lt {x : Nat} {q : MethodName × ByteArray × Nat × Option FieldType} (h : am_mi x = some q) : x < am_mis.length := (List.getElem?_eq_some_iff.mp h).1
theorem am_mi_ok {x : Nat} {w : MethodName} {cc : ByteArray} {mL : Nat} {ret : Option FieldType} (h : am_mi x = some (w, cc, mL, ret)) (h0 : ¬ x = 0) : Jvm.plainName w.cls = true ∧ am_ml x = mL := by
  have h1 := List.all_eq_true.mp am_mi_b x (List.mem_range.mpr (am_mi_lt h))
  rw [h] at h1
  simpa [h0] using h1
