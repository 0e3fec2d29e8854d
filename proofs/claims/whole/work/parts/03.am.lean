/-! THE ABSTRACT MACHINE (am_): values, heaps, steps -/
abbrev am_V : Type := Int32 ⊕ (Int64 ⊕ Nat)
abbrev am_Ls : Type := List (Option am_V)
abbrev am_Sk : Type := List am_V
/-- a reference is 0 (null) or its address and one -/
def am_o : Nat → Option Nat
  | 0 => none
  | a + 1 => some a
def am_v2 : am_V → Value
  | .inl x => .int x
  | .inr (.inl x) => .long x
  | .inr (.inr r) => va_rf (am_o r)
/-- kinds, lengths, fields of ints, longs, references (field, object), arrays of ints, longs, references (array, place), then: the heap's size, cells made, slots made -/
abbrev am_H : Type := (Nat → Nat) × (Nat → Nat) × (Nat → Nat → Int32) × (Nat → Nat → Int64) × (Nat → Nat → Nat) × (Nat → Nat → Int32) × (Nat → Nat → Int64) × (Nat → Nat → Nat) × (Nat × Nat × Nat)
def am_T (h : am_H) : Nat → Nat := h.1
def am_N (h : am_H) : Nat → Nat := h.2.1
def am_I (h : am_H) : Nat → Nat → Int32 := h.2.2.1
def am_J (h : am_H) : Nat → Nat → Int64 := h.2.2.2.1
def am_R (h : am_H) : Nat → Nat → Nat := h.2.2.2.2.1
def am_aI (h : am_H) : Nat → Nat → Int32 := h.2.2.2.2.2.1
def am_aJ (h : am_H) : Nat → Nat → Int64 := h.2.2.2.2.2.2.1
def am_aR (h : am_H) : Nat → Nat → Nat := h.2.2.2.2.2.2.2.1
def am_Z (h : am_H) : Nat := h.2.2.2.2.2.2.2.2.1
def am_C (h : am_H) : Nat := h.2.2.2.2.2.2.2.2.2.1
def am_S (h : am_H) : Nat := h.2.2.2.2.2.2.2.2.2.2
def am_u2 {α : Type} (g : Nat → Nat → α) (f a : Nat) (v : α) : Nat → Nat → α := fun f' a' => if f' = f ∧ a' = a then v else g f' a'
/-- row a of an array's table is all of one value -/
def am_ua {α : Type} (g : Nat → Nat → α) (a : Nat) (v : α) : Nat → Nat → α := fun a' j => if a' = a then v else g a' j
def am_uf {α : Type} (g : Nat → Nat → α) (a : Nat) (v : α) : Nat → Nat → α := fun f a' => if a' = a then v else g f a'
def am_sI (h : am_H) (f a : Nat) (v : Int32) : am_H := (am_T h, am_N h, am_u2 (am_I h) f a v, am_J h, am_R h, am_aI h, am_aJ h, am_aR h, am_Z h, am_C h, am_S h)
def am_sJ (h : am_H) (f a : Nat) (v : Int64) : am_H := (am_T h, am_N h, am_I h, am_u2 (am_J h) f a v, am_R h, am_aI h, am_aJ h, am_aR h, am_Z h, am_C h, am_S h)
def am_sR (h : am_H) (f a : Nat) (v : Nat) : am_H := (am_T h, am_N h, am_I h, am_J h, am_u2 (am_R h) f a v, am_aI h, am_aJ h, am_aR h, am_Z h, am_C h, am_S h)
def am_xI (h : am_H) (a j : Nat) (v : Int32) : am_H := (am_T h, am_N h, am_I h, am_J h, am_R h, am_u2 (am_aI h) a j v, am_aJ h, am_aR h, am_Z h, am_C h, am_S h)
def am_xJ (h : am_H) (a j : Nat) (v : Int64) : am_H := (am_T h, am_N h, am_I h, am_J h, am_R h, am_aI h, am_u2 (am_aJ h) a j v, am_aR h, am_Z h, am_C h, am_S h)
def am_xR (h : am_H) (a j : Nat) (v : Nat) : am_H := (am_T h, am_N h, am_I h, am_J h, am_R h, am_aI h, am_aJ h, am_u2 (am_aR h) a j v, am_Z h, am_C h, am_S h)
/-- a new object of class c with n fields -/
def am_nO (h : am_H) (c n : Nat) : am_H := (va_up (am_T h) (am_Z h + 1) (10 + c), am_N h, am_uf (am_I h) (am_Z h + 1) 0, am_uf (am_J h) (am_Z h + 1) 0, am_uf (am_R h) (am_Z h + 1) 0, am_aI h, am_aJ h, am_aR h, am_Z h + 1, am_C h + 1, am_S h + n)
/-- a new array of kind t with n places -/
def am_nA (h : am_H) (t n : Nat) : am_H := (va_up (am_T h) (am_Z h + 1) t, va_up (am_N h) (am_Z h + 1) n, am_I h, am_J h, am_R h, am_ua (am_aI h) (am_Z h + 1) 0, am_ua (am_aJ h) (am_Z h + 1) 0, am_ua (am_aR h) (am_Z h + 1) 0, am_Z h + 1, am_C h + 1, am_S h + n)
/-- locals: a store of one slot, of two -/
def am_kl (l : am_Ls) (i : Nat) : am_Ls := match i with
  | 0 => l
  | j + 1 => match l.getD j none with
    | some (.inr (.inl _)) => l.set j none
    | _ => l
def am_s1 (l : am_Ls) (i : Nat) (v : am_V) : am_Ls := (am_kl l i).set i (some v)
def am_s2 (l : am_Ls) (i : Nat) (v : am_V) : am_Ls := ((am_kl l i).set i (some v)).set (i + 1) none
def am_to (pc : Nat) (off : Int) : Nat := ((pc : Int) + off).toNat
/-! ONE STEP. An entry: the instruction, x, y, z, u (slot, target, class, method, ..), its int, its long, a switch's rows -/
abbrev am_E : Type := Instr × Nat × Nat × Nat × Nat × Int32 × Int64 × List (Int32 × Nat)
def am_p1I (st : am_Sk) (f : Int32 → am_Sk → Prop) : Prop := match st with
  | .inl a :: st => f a st
  | _ => False
def am_p2I (st : am_Sk) (f : Int32 → Int32 → am_Sk → Prop) : Prop := match st with
  | .inl b :: .inl a :: st => f a b st
  | _ => False
def am_p1J (st : am_Sk) (f : Int64 → am_Sk → Prop) : Prop := match st with
  | .inr (.inl a) :: st => f a st
  | _ => False
def am_p2J (st : am_Sk) (f : Int64 → Int64 → am_Sk → Prop) : Prop := match st with
  | .inr (.inl b) :: .inr (.inl a) :: st => f a b st
  | _ => False
def am_pJI (st : am_Sk) (f : Int64 → Int32 → am_Sk → Prop) : Prop := match st with
  | .inl b :: .inr (.inl a) :: st => f a b st
  | _ => False
def am_p1R (st : am_Sk) (f : Nat → am_Sk → Prop) : Prop := match st with
  | .inr (.inr a) :: st => f a st
  | _ => False
def am_p2R (st : am_Sk) (f : Nat → Nat → am_Sk → Prop) : Prop := match st with
  | .inr (.inr b) :: .inr (.inr a) :: st => f a b st
  | _ => False
/-- an array's reference, an index -/
def am_pRI (st : am_Sk) (f : Nat → Int32 → am_Sk → Prop) : Prop := match st with
  | .inl i :: .inr (.inr a) :: st => f a i st
  | _ => False
def am_pRII (st : am_Sk) (f : Nat → Int32 → Int32 → am_Sk → Prop) : Prop := match st with
  | .inl v :: .inl i :: .inr (.inr a) :: st => f a i v st
  | _ => False
def am_pRIJ (st : am_Sk) (f : Nat → Int32 → Int64 → am_Sk → Prop) : Prop := match st with
  | .inr (.inl v) :: .inl i :: .inr (.inr a) :: st => f a i v st
  | _ => False
def am_pRIR (st : am_Sk) (f : Nat → Int32 → Nat → am_Sk → Prop) : Prop := match st with
  | .inr (.inr v) :: .inl i :: .inr (.inr a) :: st => f a i v st
  | _ => False
/-- an object's reference below a value of one of the kinds -/
def am_pRv (u : Nat) (st : am_Sk) (h : am_H) (f : Nat) (k : Nat → am_Sk → am_H → Prop) : Prop := match u, st with
  | 0, .inl v :: .inr (.inr a) :: st => k a st (am_sI h f a v)
  | 1, .inr (.inl v) :: .inr (.inr a) :: st => k a st (am_sJ h f a v)
  | 2, .inr (.inr v) :: .inr (.inr a) :: st => k a st (am_sR h f a v)
  | _, _ => False
def am_gt (u : Nat) (h : am_H) (f a : Nat) : am_V := match u with
  | 0 => .inl (am_I h f a)
  | 1 => .inr (.inl (am_J h f a))
  | _ => .inr (.inr (am_R h f a))
def am_lI (l : am_Ls) (x : Nat) (f : Int32 → Prop) : Prop := match l.getD x none with
  | some (.inl v) => f v
  | _ => False
def am_lJ (l : am_Ls) (x : Nat) (f : Int64 → Prop) : Prop := match l.getD x none with
  | some (.inr (.inl v)) => f v
  | _ => False
def am_lR (l : am_Ls) (x : Nat) (f : Nat → Prop) : Prop := match l.getD x none with
  | some (.inr (.inr v)) => f v
  | _ => False
def am_pn : Nat → am_Sk → am_Sk → (am_Sk → am_Sk → Prop) → Prop
  | 0, st, acc, f => f acc st
  | _ + 1, [], _, _ => False
  | n + 1, v :: st, acc, f => am_pn n st (v :: acc) f
def am_br (c : Prop) (a b : Prop) : Prop := (c → a) ∧ (¬ c → b)
def am_tsw (v : Int32) (ts : List (Int32 × Nat)) (k : Nat → Prop) (d : Prop) : Prop := match ts with
  | [] => d
  | (x, t) :: ts => (v = x → k t) ∧ (¬ v = x → am_tsw v ts k d)
def am_cat (v : am_V) : Nat := match v with
  | .inr (.inl _) => 2
  | _ => 1
def am_w1 (st : am_Sk) (f : am_V → am_Sk → Prop) : Prop := match st with
  | v :: st => am_cat v = 1 ∧ f v st
  | _ => False
def am_w2 (st : am_Sk) (f : am_V → am_V → am_Sk → Prop) : Prop := match st with
  | w :: v :: st => am_cat w = 1 ∧ am_cat v = 1 ∧ f v w st
  | _ => False
/-- Math.max, Math.min of ints, of longs -/
def am_mth (z : Nat) (st : am_Sk) (k : am_Sk → Prop) : Prop := match z with
  | 1 => am_p2I st fun a b st => if (st.map am_cat).sum ≤ 8 then k (.inl (if a < b then b else a) :: st) else False
  | 2 => am_p2I st fun a b st => if (st.map am_cat).sum ≤ 8 then k (.inl (if b < a then b else a) :: st) else False
  | 3 => am_p2J st fun a b st => if (st.map am_cat).sum ≤ 8 then k (.inr (.inl (if b < a then a else b)) :: st) else False
  | 4 => am_p2J st fun a b st => if (st.map am_cat).sum ≤ 8 then k (.inr (.inl (if b < a then b else a)) :: st) else False
  | _ => False
/-- the heap behind a write gets a name -/
def am_nh (e : am_H) (k : am_H → Prop) : Prop := ∀ h' : am_H, h' = e → k h'
def am_cps (pc : Nat) (q : am_E) (l : am_Ls) (st : am_Sk) (h : am_H) (K : Nat → am_Ls → am_Sk → am_H → Prop) (Rt : Option am_V → Prop) (Cl : Nat → am_Sk → am_Sk → Prop) : Prop :=
  match q with
  | (i, x, y, z, u, cI, cJ, ts) => match i with
    | .aconst_null => K (pc + 1) l (.inr (.inr 0) :: st) h
    | .iconst _ => K (pc + 1) l (.inl cI :: st) h
    | .bipush _ => K (pc + 2) l (.inl cI :: st) h
    | .sipush _ => K (pc + 3) l (.inl cI :: st) h
    | .ldc _ => K (pc + 2) l (.inl cI :: st) h
    | .lconst _ => K (pc + 1) l (.inr (.inl cJ) :: st) h
    | .ldc2_w _ => K (pc + 3) l (.inr (.inl cJ) :: st) h
    | .iload_n _ => am_lI l x fun v => K (pc + 1) l (.inl v :: st) h
    | .iload _ => am_lI l x fun v => K (pc + 2) l (.inl v :: st) h
    | .lload_n _ => am_lJ l x fun v => K (pc + 1) l (.inr (.inl v) :: st) h
    | .lload _ => am_lJ l x fun v => K (pc + 2) l (.inr (.inl v) :: st) h
    | .aload_n _ => am_lR l x fun v => K (pc + 1) l (.inr (.inr v) :: st) h
    | .aload _ => am_lR l x fun v => K (pc + 2) l (.inr (.inr v) :: st) h
    | .istore_n _ => am_p1I st fun v st => K (pc + 1) (am_s1 l x (.inl v)) st h
    | .istore _ => am_p1I st fun v st => K (pc + 2) (am_s1 l x (.inl v)) st h
    | .lstore_n _ => am_p1J st fun v st => K (pc + 1) (am_s2 l x (.inr (.inl v))) st h
    | .lstore _ => am_p1J st fun v st => K (pc + 2) (am_s2 l x (.inr (.inl v))) st h
    | .astore_n _ => am_p1R st fun v st => K (pc + 1) (am_s1 l x (.inr (.inr v))) st h
    | .astore _ => am_p1R st fun v st => K (pc + 2) (am_s1 l x (.inr (.inr v))) st h
    | .iinc _ _ => am_lI l x fun v => K (pc + 3) (am_s1 l x (.inl (v + cI))) st h
    | .iadd => am_p2I st fun a b st => K (pc + 1) l (.inl (a + b) :: st) h
    | .isub => am_p2I st fun a b st => K (pc + 1) l (.inl (a - b) :: st) h
    | .imul => am_p2I st fun a b st => K (pc + 1) l (.inl (a * b) :: st) h
    | .ishr => am_p2I st fun a b st => K (pc + 1) l (.inl (a >>> (b &&& 31)) :: st) h
    | .iand => am_p2I st fun a b st => K (pc + 1) l (.inl (a &&& b) :: st) h
    | .idiv => am_p2I st fun a b st => ¬ b = 0 ∧ K (pc + 1) l (.inl (a / b) :: st) h
    | .irem => am_p2I st fun a b st => ¬ b = 0 ∧ K (pc + 1) l (.inl (a - a / b * b) :: st) h
    | .ladd => am_p2J st fun a b st => K (pc + 1) l (.inr (.inl (a + b)) :: st) h
    | .lsub => am_p2J st fun a b st => K (pc + 1) l (.inr (.inl (a - b)) :: st) h
    | .lmul => am_p2J st fun a b st => K (pc + 1) l (.inr (.inl (a * b)) :: st) h
    | .land => am_p2J st fun a b st => K (pc + 1) l (.inr (.inl (a &&& b)) :: st) h
    | .lor => am_p2J st fun a b st => K (pc + 1) l (.inr (.inl (a ||| b)) :: st) h
    | .ldiv => am_p2J st fun a b st => ¬ b = 0 ∧ K (pc + 1) l (.inr (.inl (a / b)) :: st) h
    | .lrem => am_p2J st fun a b st => ¬ b = 0 ∧ K (pc + 1) l (.inr (.inl (a - a / b * b)) :: st) h
    | .lneg => am_p1J st fun a st => K (pc + 1) l (.inr (.inl (-a)) :: st) h
    | .lshl => am_pJI st fun a b st => K (pc + 1) l (.inr (.inl (a <<< (b.toInt64 &&& 63))) :: st) h
    | .i2l => am_p1I st fun a st => K (pc + 1) l (.inr (.inl a.toInt64) :: st) h
    | .l2i => am_p1J st fun a st => K (pc + 1) l (.inl a.toInt32 :: st) h
    | .lcmp => am_p2J st fun a b st => K (pc + 1) l (.inl (lg_cmp a b) :: st) h
    | .dup => am_w1 st fun v st => K (pc + 1) l (v :: v :: st) h
    | .pop => am_w1 st fun _ st => K (pc + 1) l st h
    | .dup_x1 => am_w2 st fun v w st => K (pc + 1) l (w :: v :: w :: st) h
    | .dup2 => match st with
      | .inr (.inl a) :: st => K (pc + 1) l (.inr (.inl a) :: .inr (.inl a) :: st) h
      | st => am_w2 st fun v w st => K (pc + 1) l (w :: v :: w :: v :: st) h
    | .ifCond c _ => am_p1I st fun a st => match c with
      | .eq => am_br (a = 0) (K x l st h) (K (pc + 3) l st h)
      | .ne => am_br (a = 0) (K (pc + 3) l st h) (K x l st h)
      | .lt => am_br (a < 0) (K x l st h) (K (pc + 3) l st h)
      | .ge => am_br (0 ≤ a) (K x l st h) (K (pc + 3) l st h)
      | .gt => am_br (0 < a) (K x l st h) (K (pc + 3) l st h)
      | .le => am_br (a ≤ 0) (K x l st h) (K (pc + 3) l st h)
    | .if_icmp c _ => am_p2I st fun a b st => match c with
      | .eq => am_br (a = b) (K x l st h) (K (pc + 3) l st h)
      | .ne => am_br (a = b) (K (pc + 3) l st h) (K x l st h)
      | .lt => am_br (a < b) (K x l st h) (K (pc + 3) l st h)
      | .ge => am_br (b ≤ a) (K x l st h) (K (pc + 3) l st h)
      | .gt => am_br (b < a) (K x l st h) (K (pc + 3) l st h)
      | .le => am_br (a ≤ b) (K x l st h) (K (pc + 3) l st h)
    | .if_acmp c _ => am_p2R st fun a b st => match c with
      | .eq => am_br (a = b) (K x l st h) (K (pc + 3) l st h)
      | .ne => am_br (a = b) (K (pc + 3) l st h) (K x l st h)
    | .ifnull _ => am_p1R st fun a st => am_br (a = 0) (K x l st h) (K (pc + 3) l st h)
    | .ifnonnull _ => am_p1R st fun a st => am_br (a = 0) (K (pc + 3) l st h) (K x l st h)
    | .goto _ => K x l st h
    | .tableswitch _ _ _ _ => am_p1I st fun v st => am_tsw v ts (fun t => K t l st h) (K x l st h)
    | .getstatic _ => K (pc + 3) l (.inr (.inr (am_R h 9000 0)) :: st) h
    | .getfield _ => am_p1R st fun a st => am_T h a = 10 + x ∧ K (pc + 3) l (am_gt u h (32 * x + y) a :: st) h
    | .putfield _ => am_pRv u st h (32 * x + y) fun a st e => am_T h a = 10 + x ∧ am_nh e fun h' => K (pc + 3) l st h'
    | .iaload => am_pRI st fun a i st => (am_T h a = 1 ∨ am_T h a = 3) ∧ vp_in i (am_N h a) ∧ K (pc + 1) l (.inl (am_aI h a i.toNatClampNeg) :: st) h
    | .laload => am_pRI st fun a i st => am_T h a = 2 ∧ vp_in i (am_N h a) ∧ K (pc + 1) l (.inr (.inl (am_aJ h a i.toNatClampNeg)) :: st) h
    | .aaload => am_pRI st fun a i st => 100 ≤ am_T h a ∧ vp_in i (am_N h a) ∧ K (pc + 1) l (.inr (.inr (am_aR h a i.toNatClampNeg)) :: st) h
    | .iastore => am_pRII st fun a i v st => am_T h a = 1 ∧ vp_in i (am_N h a) ∧ am_nh (am_xI h a i.toNatClampNeg v) fun h' => K (pc + 1) l st h'
    | .lastore => am_pRIJ st fun a i v st => am_T h a = 2 ∧ vp_in i (am_N h a) ∧ am_nh (am_xJ h a i.toNatClampNeg v) fun h' => K (pc + 1) l st h'
    | .aastore => am_pRIR st fun a i v st => 100 ≤ am_T h a ∧ vp_in i (am_N h a) ∧ (v = 0 ∨ (10 ≤ am_T h v ∧ am_asg (am_T h a - 100) (am_T h v - 10) = true)) ∧ am_nh (am_xR h a i.toNatClampNeg v) fun h' => K (pc + 1) l st h'
    | .arraylength => am_p1R st fun a st => (am_T h a = 1 ∨ am_T h a = 2 ∨ am_T h a = 3 ∨ am_T h a = 4 ∨ 100 ≤ am_T h a) ∧ K (pc + 1) l (.inl (Int32.ofNat (am_N h a)) :: st) h
    | .newarray _ => am_p1I st fun n st => (¬ n < 0) ∧ n.toNatClampNeg ≤ 1000000 ∧ am_nh (am_nA h x n.toNatClampNeg) fun h' => K (pc + 2) l (.inr (.inr (am_Z h + 1)) :: st) h'
    | .anewarray _ => am_p1I st fun n st => (¬ n < 0) ∧ n.toNatClampNeg ≤ 1000000 ∧ am_nh (am_nA h (100 + x) n.toNatClampNeg) fun h' => K (pc + 3) l (.inr (.inr (am_Z h + 1)) :: st) h'
    | .new _ => am_nh (am_nO h x y) fun h' => K (pc + 3) l (.inr (.inr (am_Z h + 1)) :: st) h'
    | .checkcast _ => am_p1R st fun a st => (a = 0 ∨ am_T h a = 10 + x) ∧ K (pc + 3) l (.inr (.inr a) :: st) h
    | .invokevirtual _ => am_pn y st [] fun as rest => am_p1R rest fun a rest => am_T h a = 10 + z ∧ if (rest.map am_cat).sum ≤ 8 ∧ 1 + (as.map am_cat).sum ≤ am_ml x then Cl x (.inr (.inr a) :: as) rest else False
    | .invokespecial _ => am_pn y st [] fun as rest => am_p1R rest fun a rest => ¬ a = 0 ∧ if (rest.map am_cat).sum ≤ 8 ∧ 1 + (as.map am_cat).sum ≤ am_ml x then (if x = 0 then K (pc + 3) l rest h else Cl x (.inr (.inr a) :: as) rest) else False
    | .invokestatic _ => if x = 0 then am_mth z st fun st => K (pc + 3) l st h else am_pn y st [] fun as rest => if (rest.map am_cat).sum ≤ 8 ∧ (as.map am_cat).sum ≤ am_ml x then Cl x as rest else False
    | .ireturn => match st with
      | [.inl v] => if u = 0 then Rt (some (.inl v)) else (v = 0 ∨ v = 1) ∧ Rt (some (.inl v))
      | _ => False
    | .lreturn => match st with
      | [.inr (.inl v)] => Rt (some (.inr (.inl v)))
      | _ => False
    | .areturn => match st with
      | [.inr (.inr v)] => Rt (some (.inr (.inr v)))
      | _ => False
    | .return_ => match st with
      | [] => Rt none
      | _ => False
    | _ => False
/-- what a call of kind u leaves on the stack -/
def am_rk (u : Nat) (rest : am_Sk) (r : Option am_V) (k : am_Sk → Prop) : Prop := match u with
  | 0 => r = none ∧ k rest
  | 1 => ∃ x : Int32, r = some (.inl x) ∧ k (.inl x :: rest)
  | 2 => ∃ x : Int64, r = some (.inr (.inl x)) ∧ k (.inr (.inl x) :: rest)
  | _ => ∃ x : Nat, r = some (.inr (.inr x)) ∧ k (.inr (.inr x) :: rest)
