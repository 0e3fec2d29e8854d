/-! THE WORLD: what the machine's heap is, of an abstract heap. am_cl: the classes; am_rc: those with arrays of them; am_Tg: the words -/
def am_nf (c : Nat) : Nat := match am_cl[c]? with
  | some q => q.2.2
  | none => 0
def am_kd (d : String) : Nat := if d = "I" then 0 else if d = "J" then 1 else 2
def am_tk (c k : Nat) : Nat := match am_cl[c]? with
  | some q => am_kd (q.2.1 k).2.2.1
  | none => 0
def am_cn (c : Nat) : String := match am_cl[c]? with
  | some q => q.1
  | none => ""
theorem am_nf_of {c : Nat} {q : vw_C} (h : am_cl[c]? = some q) : am_nf c = q.2.2 := by simp [am_nf, h]
theorem am_tk_of {c : Nat} {q : vw_C} (h : am_cl[c]? = some q) (k : Nat) : am_tk c k = am_kd (q.2.1 k).2.2.1 := by simp [am_tk, h]
theorem am_cn_of {c : Nat} {q : vw_C} (h : am_cl[c]? = some q) : am_cn c = q.1 := by simp [am_cn, h]
def am_fs (h : am_H) (c r : Nat) : List Value := (List.range (am_nf c)).map fun k => am_v2 (am_gt (am_tk c k) h (32 * c + k) r)
def am_e (dA : Nat → ClassId) (h : am_H) (a : Nat) : va_E :=
  if am_T h (a + 1) = 1 then .inl (dA 0, am_N h (a + 1), .inl (am_aI h (a + 1)))
  else if am_T h (a + 1) = 2 then .inl (dA 1, am_N h (a + 1), .inr (.inl (am_aJ h (a + 1))))
  else if 100 ≤ am_T h (a + 1) then .inl (dA (2 + (am_T h (a + 1) - 100)), am_N h (a + 1), .inr (.inr (.inr (.inr (fun j => am_o (am_aR h (a + 1) j))))))
  else .inr (am_T h (a + 1) - 10, am_fs h (am_T h (a + 1) - 10) (a + 1))
def am_an (j : Nat) : String := am_rn.getD j ""
/-- kinds of cells that are the run's own (made since it began) -/
def am_ow (t : Nat) : Prop := t = 1 ∨ t = 2 ∨ 10 ≤ t
/-- what lies there from before: the script (kind 3), the list's empty array (kind 4) and the static that holds it -/
def am_Ro (B : Nat) (h : am_H) (U : State) (H : Heap) : Prop := (∀ a, am_T h (a + 1) = 3 → a < B ∧ va_X a (am_N h (a + 1)) (am_aI h (a + 1)) U H) ∧
  (∃ t, am_R h 9000 0 = t + 1 ∧ am_T h (t + 1) = 4 ∧ am_N h (t + 1) = 0 ∧ va_Z "java/util/ArrayList" "DEFAULTCAPACITY_EMPTY_ELEMENTDATA" "[Ljava/lang/Object;" (.ref t) (fun q => B ≤ q) U H ∧ va_T (.object "java/lang/Object") t 0 (fun _ => .null) (fun q => B ≤ q) U H) ∧ ∀ a, am_T h (a + 1) = 4 → am_R h 9000 0 = a + 1
theorem am_Ro_moved {B : Nat} {h : am_H} {u U : State} {H : Heap} (hvm : u.vm.Alike U.vm) (hO : am_Ro B h u H) : am_Ro B h U H := by
  obtain ⟨h1, ⟨t, a1, a2, a3, a4, a5⟩, h3⟩ := hO
  exact ⟨fun a ha => ⟨(h1 a ha).1, (h1 a ha).2.moved hvm⟩, ⟨t, a1, a2, a3, a4.moved hvm, a5.moved hvm⟩, h3⟩
theorem am_Ro_keep {B : Nat} {h h' : am_H} {U : State} {H H1 : Heap} (hO : am_Ro B h U H) (k1 : ∀ a, a < B → am_T h' (a + 1) = am_T h (a + 1) ∧ am_N h' (a + 1) = am_N h (a + 1)) (k2 : ∀ a, a < B → am_T h (a + 1) = 3 → am_aI h' (a + 1) = am_aI h (a + 1)) (k3 : am_R h' 9000 0 = am_R h 9000 0) (k4 : ∀ a, B ≤ a → ¬ (am_T h' (a + 1) = 3 ∨ am_T h' (a + 1) = 4)) (ho : ∀ q, q < B → H1[q]? = H[q]?) : am_Ro B h' U H1 := by
  obtain ⟨h1, ⟨t, a1, a2, a3, a4, a5⟩, h3⟩ := hO
  have ht : t < B := by
    obtain ⟨_, _, _, _, _, _, _, q⟩ := a5
    exact Nat.not_le.mp q
  refine ⟨fun a ha => ?_, ⟨t, by rw [k3]; exact a1, by rw [(k1 t ht).1]; exact a2, by rw [(k1 t ht).2]; exact a3, a4.kept (fun a _ hn => ho a (Nat.not_le.mp hn)), a5.kept (fun a _ hn => ho a (Nat.not_le.mp hn))⟩, fun a ha => ?_⟩
  · rcases Nat.lt_or_ge a B with q | q
    · rw [(k1 a q).1] at ha
      obtain ⟨g1, g2⟩ := h1 a ha
      rw [(k1 a q).2, k2 a q ha]
      exact ⟨g1, g2.kept (ho a q)⟩
    · exact absurd (Or.inl ha) (k4 a q)
  · rcases Nat.lt_or_ge a B with q | q
    · rw [(k1 a q).1] at ha
      rw [k3]
      exact h3 a ha
    · exact absurd (Or.inr ha) (k4 a q)
def am_Ok (D : va_G) (dA : Nat → ClassId) (B : Nat) (h : am_H) (U : State) (H : Heap) : Prop := am_T h 0 = 0 ∧ H.size = am_Z h ∧ (∀ a, 100 ≤ am_T h a → am_T h a - 100 ∈ am_rc) ∧ am_Ro B h U H ∧ ∃ L : List Nat, (∀ a, a ∈ L ↔ am_ow (am_T h (a + 1))) ∧ va_P D am_cl (va_pl L (am_e dA h)) H ∧ va_D (fun q => B ≤ q) (va_pl L (am_e dA h))
theorem am_Ok_moved {D : va_G} {dA : Nat → ClassId} {B : Nat} {h : am_H} {u U : State} {H : Heap} (hvm : u.vm.Alike U.vm) (hO : am_Ok D dA B h u H) : am_Ok D dA B h U H :=
  ⟨hO.1, hO.2.1, hO.2.2.1, am_Ro_moved hvm hO.2.2.2.1, hO.2.2.2.2⟩
def am_tys (dA : Nat → ClassId) : List (ClassId × FieldType) := (dA 0, .int) :: (dA 1, .long) :: am_rc.map (fun c => (dA (2 + c), .object (am_an c)))
theorem am_e_i {dA : Nat → ClassId} {h : am_H} {a : Nat} (e : am_T h (a + 1) = 1) : am_e dA h a = .inl (dA 0, am_N h (a + 1), .inl (am_aI h (a + 1))) := by simp [am_e, e]
theorem am_e_l {dA : Nat → ClassId} {h : am_H} {a : Nat} (e : am_T h (a + 1) = 2) : am_e dA h a = .inl (dA 1, am_N h (a + 1), .inr (.inl (am_aJ h (a + 1)))) := by simp [am_e, e]
theorem am_e_q {dA : Nat → ClassId} {h : am_H} {a : Nat} (e : 100 ≤ am_T h (a + 1)) : am_e dA h a = .inl (dA (2 + (am_T h (a + 1) - 100)), am_N h (a + 1), .inr (.inr (.inr (.inr (fun j => am_o (am_aR h (a + 1) j)))))) := by
  unfold am_e
  rw [if_neg (by omega), if_neg (by omega), if_pos e]
theorem am_e_o {dA : Nat → ClassId} {h : am_H} {a c : Nat} (e : am_T h (a + 1) = 10 + c) (hc : c < 90) : am_e dA h a = .inr (c, am_fs h c (a + 1)) := by
  unfold am_e
  rw [if_neg (by omega), if_neg (by omega), if_neg (by omega), e, Nat.add_sub_cancel_left]
theorem am_fs_get {h : am_H} {c r k : Nat} (hk : k < am_nf c) : (am_fs h c r)[k]? = some (am_v2 (am_gt (am_tk c k) h (32 * c + k) r)) := by
  simp [am_fs, hk]
theorem am_fs_len (h : am_H) (c r : Nat) : (am_fs h c r).length = am_nf c := by simp [am_fs]
/-- one field of one object is written -/
theorem am_fs_set {h h' : am_H} {c r k : Nat} {v : am_V} (hk : am_gt (am_tk c k) h' (32 * c + k) r = v) (ho : ∀ j, j ≠ k → am_gt (am_tk c j) h' (32 * c + j) r = am_gt (am_tk c j) h (32 * c + j) r) : am_fs h' c r = (am_fs h c r).set k (am_v2 v) := by
  apply List.ext_getElem?
  intro j
  by_cases hj : j < am_nf c
  · rw [am_fs_get hj]
    by_cases hjk : j = k
    · subst hjk
      rw [List.getElem?_set_self (by rw [am_fs_len]; exact hj), hk]
    · rw [List.getElem?_set_ne (Ne.symm hjk), am_fs_get hj, ho j hjk]
  · rw [List.getElem?_eq_none (by rw [am_fs_len]; omega), List.getElem?_eq_none (by rw [List.length_set, am_fs_len]; omega)]
theorem am_fs_same {h h' : am_H} {c r : Nat} (ho : ∀ u f, am_gt u h' f r = am_gt u h f r) : am_fs h' c r = am_fs h c r := by
  unfold am_fs
  apply List.map_congr_left
  intro k _
  rw [ho]
theorem am_e_same {dA : Nat → ClassId} {h h' : am_H} {b : Nat} (e1 : am_T h' (b + 1) = am_T h (b + 1)) (e2 : am_N h' (b + 1) = am_N h (b + 1)) (e3 : am_aI h' (b + 1) = am_aI h (b + 1)) (e4 : am_aJ h' (b + 1) = am_aJ h (b + 1)) (e5 : am_aR h' (b + 1) = am_aR h (b + 1)) (e6 : ∀ u f, am_gt u h' f (b + 1) = am_gt u h f (b + 1)) : am_e dA h' b = am_e dA h b := by
  unfold am_e
  rw [e1, e2, e3, e4, e5, am_fs_same e6]
theorem am_gt_sI (u : Nat) (h : am_H) (f a : Nat) (v : Int32) {f' b : Nat} (hb : ¬ (f' = f ∧ b = a)) : am_gt u (am_sI h f a v) f' b = am_gt u h f' b := by
  unfold am_gt
  split
  · show Sum.inl (am_u2 (am_I h) f a v f' b) = _
    rw [am_u2, if_neg hb]
  · rfl
  · rfl
theorem am_gt_sJ (u : Nat) (h : am_H) (f a : Nat) (v : Int64) {f' b : Nat} (hb : ¬ (f' = f ∧ b = a)) : am_gt u (am_sJ h f a v) f' b = am_gt u h f' b := by
  unfold am_gt
  split
  · rfl
  · show Sum.inr (Sum.inl (am_u2 (am_J h) f a v f' b)) = _
    rw [am_u2, if_neg hb]
  · rfl
theorem am_gt_sR (u : Nat) (h : am_H) (f a : Nat) (v : Nat) {f' b : Nat} (hb : ¬ (f' = f ∧ b = a)) : am_gt u (am_sR h f a v) f' b = am_gt u h f' b := by
  unfold am_gt
  split
  · rfl
  · rfl
  · show Sum.inr (Sum.inr (am_u2 (am_R h) f a v f' b)) = _
    rw [am_u2, if_neg hb]
/-- a heap in which one field is written; v of the field's kind -/
theorem am_e_put {dA : Nat → ClassId} {h h' : am_H} {a c k : Nat} {v : am_V} (hT : am_T h' = am_T h) (hN : am_N h' = am_N h) (h1 : am_aI h' = am_aI h) (h2 : am_aJ h' = am_aJ h) (h3 : am_aR h' = am_aR h) (hg : ∀ (u f' b : Nat), ¬ (f' = 32 * c + k ∧ b = a + 1) → am_gt u h' f' b = am_gt u h f' b)
    (hc : am_T h (a + 1) = 10 + c) (hlt : c < 90) (hk : am_gt (am_tk c k) h' (32 * c + k) (a + 1) = v) (b : Nat) : va_up (am_e dA h) a (.inr (c, (am_fs h c (a + 1)).set k (am_v2 v))) b = am_e dA h' b := by
  by_cases hb : b = a
  · subst hb
    rw [va_up_self, am_e_o (by rw [hT]; exact hc) hlt, am_fs_set hk (fun j hj => hg _ _ _ (fun q => hj (by omega)))]
  · rw [va_up_ne _ _ hb]
    exact (am_e_same (by rw [hT]) (by rw [hN]) (by rw [h1]) (by rw [h2]) (by rw [h3]) (fun u f => hg _ _ _ (fun q => hb (by omega)))).symm
theorem am_e_xI {dA : Nat → ClassId} {h : am_H} {a j : Nat} {v : Int32} (hc : am_T h (a + 1) = 1) (b : Nat) : va_up (am_e dA h) a (.inl (dA 0, am_N h (a + 1), .inl (upd (am_aI h (a + 1)) j v))) b = am_e dA (am_xI h (a + 1) j v) b := by
  by_cases hb : b = a
  · subst hb
    rw [va_up_self, am_e_i (show am_T (am_xI h (b + 1) j v) (b + 1) = 1 from hc)]
    have e1 : am_aI (am_xI h (b + 1) j v) (b + 1) = upd (am_aI h (b + 1)) j v := by
      funext i
      show am_u2 _ _ _ _ _ _ = upd _ _ _ _
      simp [upd, am_u2]
    rw [e1]
    rfl
  · rw [va_up_ne _ _ hb]
    refine (am_e_same (h := h) (h' := am_xI h (a + 1) j v) rfl rfl ?_ rfl rfl (fun u f => rfl)).symm
    funext i
    show am_u2 _ _ _ _ _ _ = _
    rw [am_u2, if_neg (fun q => hb (by omega))]
theorem am_e_xJ {dA : Nat → ClassId} {h : am_H} {a j : Nat} {v : Int64} (hc : am_T h (a + 1) = 2) (b : Nat) : va_up (am_e dA h) a (.inl (dA 1, am_N h (a + 1), .inr (.inl (vp_updL (am_aJ h (a + 1)) j v)))) b = am_e dA (am_xJ h (a + 1) j v) b := by
  by_cases hb : b = a
  · subst hb
    rw [va_up_self, am_e_l (show am_T (am_xJ h (b + 1) j v) (b + 1) = 2 from hc)]
    have e1 : am_aJ (am_xJ h (b + 1) j v) (b + 1) = vp_updL (am_aJ h (b + 1)) j v := by
      funext i
      show am_u2 _ _ _ _ _ _ = vp_updL _ _ _ _
      simp [vp_updL, am_u2]
    rw [e1]
    rfl
  · rw [va_up_ne _ _ hb]
    refine (am_e_same (h := h) (h' := am_xJ h (a + 1) j v) rfl rfl rfl ?_ rfl (fun u f => rfl)).symm
    funext i
    show am_u2 _ _ _ _ _ _ = _
    rw [am_u2, if_neg (fun q => hb (by omega))]
theorem am_e_xR {dA : Nat → ClassId} {h : am_H} {a j : Nat} {v : Nat} (hc : 100 ≤ am_T h (a + 1)) (b : Nat) : va_up (am_e dA h) a (.inl (dA (2 + (am_T h (a + 1) - 100)), am_N h (a + 1), .inr (.inr (.inr (.inr (va_up (fun j => am_o (am_aR h (a + 1) j)) j (am_o v))))))) b = am_e dA (am_xR h (a + 1) j v) b := by
  by_cases hb : b = a
  · subst hb
    rw [va_up_self, am_e_q (show 100 ≤ am_T (am_xR h (b + 1) j v) (b + 1) from hc)]
    have e1 : (fun i => am_o (am_aR (am_xR h (b + 1) j v) (b + 1) i)) = va_up (fun j => am_o (am_aR h (b + 1) j)) j (am_o v) := by
      funext i
      show am_o (am_u2 _ _ _ _ _ _) = va_up _ _ _ _
      by_cases hi : i = j
      · simp [va_up, am_u2, hi]
      · simp [va_up, am_u2, hi]
    rw [e1]
    rfl
  · rw [va_up_ne _ _ hb]
    refine (am_e_same (h := h) (h' := am_xR h (a + 1) j v) rfl rfl rfl rfl ?_ (fun u f => rfl)).symm
    funext i
    show am_u2 _ _ _ _ _ _ = _
    rw [am_u2, if_neg (fun q => hb (by omega))]
theorem am_gt_nO (u : Nat) (h : am_H) (c n f : Nat) {b : Nat} (hb : ¬ b = am_Z h + 1) : am_gt u (am_nO h c n) f b = am_gt u h f b := by
  unfold am_gt
  split
  · show Sum.inl (am_uf _ _ _ _ _) = _
    rw [am_uf, if_neg hb]
  · show Sum.inr (Sum.inl (am_uf _ _ _ _ _)) = _
    rw [am_uf, if_neg hb]
  · show Sum.inr (Sum.inr (am_uf _ _ _ _ _)) = _
    rw [am_uf, if_neg hb]
theorem am_e_nO {dA : Nat → ClassId} {h : am_H} {c n : Nat} (hlt : c < 90) (b : Nat) : va_up (am_e dA h) (am_Z h) (.inr (c, am_fs (am_nO h c n) c (am_Z h + 1))) b = am_e dA (am_nO h c n) b := by
  by_cases hb : b = am_Z h
  · subst hb
    rw [va_up_self, am_e_o (show am_T (am_nO h c n) (am_Z h + 1) = 10 + c from va_up_self _ _ _) hlt]
  · rw [va_up_ne _ _ hb]
    refine (am_e_same (h := h) (h' := am_nO h c n) (va_up_ne _ _ (by omega)) rfl rfl rfl rfl (fun u f => am_gt_nO u h c n f (by omega))).symm
theorem am_e_nA {dA : Nat → ClassId} {h : am_H} {t n : Nat} (b : Nat) (hb : ¬ b = am_Z h) : am_e dA (am_nA h t n) b = am_e dA h b := by
  refine am_e_same (va_up_ne _ _ (by omega)) (va_up_ne _ _ (by omega)) ?_ ?_ ?_ (fun u f => rfl)
  all_goals
    funext i
    show am_ua _ _ _ _ _ = _
    rw [am_ua, if_neg (by omega)]
/-! ROWS of the machine over the world -/
/-- how a field of class q (its place y) is linked from 'own' at 'idx' -/
def am_fl (own : String) (idx : Nat) (q : vw_C) (y : Nat) : Prop :=
  Cond.fieldLink own idx (q.2.1 y).1 (q.2.1 y).2.1 (q.2.1 y).2.2.1 ∈ am_Tg ∨ (∃ host, Cond.fieldLinkNest own idx (q.2.1 y).1 (q.2.1 y).2.1 (q.2.1 y).2.2.1 host ∈ am_Tn) ∨
  (∃ ref, Cond.fieldLink own idx ref (q.2.1 y).2.1 (q.2.1 y).2.2.1 ∈ am_Tg ∧ Cond.sameField ref (q.2.1 y).1 (q.2.1 y).2.1 (q.2.1 y).2.2.1 ∈ am_Tg)
/-- what holds of each class of the table -/
def am_cg (q : vw_C) : Prop := (∀ w ∈ u_ws q.1 q.2.1 q.2.2, w ∈ am_Tg) ∧ (∃ ty : Nat → FieldType, ∀ k, k < q.2.2 → parseFieldDescriptor (q.2.1 k).2.2.1 = some (ty k) ∧ ((am_kd (q.2.1 k).2.2.1 = 0 ∧ ty k = .int) ∨ (am_kd (q.2.1 k).2.2.1 = 1 ∧ ty k = .long) ∨ (am_kd (q.2.1 k).2.2.1 = 2 ∧ ((∃ n, ty k = .object n) ∨ ∃ t, ty k = .array t)))) ∧ (∀ a, a < q.2.2 → ∀ b, b < q.2.2 → a ≠ b → (q.2.1 a).2.1 ≠ (q.2.1 b).2.1)
theorem am_lays_ok : am_cl.all (fun q => (u_ws q.1 q.2.1 q.2.2).all (fun w => decide (w ∈ am_Tx))) = true := by decide +kernel
def am_ftb (d : String) : Bool := match parseFieldDescriptor d with
  | some .int => decide (am_kd d = 0)
  | some .long => decide (am_kd d = 1)
  | some (.object _) => decide (am_kd d = 2)
  | some (.array _) => decide (am_kd d = 2)
  | _ => false
theorem am_ft_ok : am_cl.all (fun q => (List.range q.2.2).all (fun k => am_ftb (q.2.1 k).2.2.1)) = true := by decide +kernel
theorem am_nm_ok : am_cl.all (fun q => (List.range q.2.2).all (fun a => (List.range q.2.2).all (fun b => decide (a = b) || !decide ((q.2.1 a).2.1 = (q.2.1 b).2.1)))) = true := by decide +kernel
theorem am_cok {x : Nat} {q : vw_C} (h : am_cl[x]? = some q) : am_cg q ∧ x < 90 := by
  have hm := List.mem_of_getElem? h
  have hlt := (List.getElem?_eq_some_iff.mp h).1
  refine ⟨⟨fun w hw => ?_, ?_, fun a ha b hb hne he => ?_⟩, Nat.lt_of_lt_of_le hlt (by decide)⟩
  · have h1 := List.all_eq_true.mp (List.all_eq_true.mp am_lays_ok q hm) w hw
    exact am_iX (of_decide_eq_true h1)
  · refine ⟨fun k => (parseFieldDescriptor (q.2.1 k).2.2.1).getD .int, fun k hk => ?_⟩
    have h1 := List.all_eq_true.mp (List.all_eq_true.mp am_ft_ok q hm) k (List.mem_range.mpr hk)
    unfold am_ftb at h1
    dsimp only
    split at h1
    · rename_i e; rw [e]; exact ⟨rfl, Or.inl ⟨of_decide_eq_true h1, rfl⟩⟩
    · rename_i e; rw [e]; exact ⟨rfl, Or.inr (Or.inl ⟨of_decide_eq_true h1, rfl⟩)⟩
    · rename_i e; rw [e]; exact ⟨rfl, Or.inr (Or.inr ⟨of_decide_eq_true h1, Or.inl ⟨_, rfl⟩⟩)⟩
    · rename_i e; rw [e]; exact ⟨rfl, Or.inr (Or.inr ⟨of_decide_eq_true h1, Or.inr ⟨_, rfl⟩⟩)⟩
    · cases h1
  · have h1 := List.all_eq_true.mp (List.all_eq_true.mp (List.all_eq_true.mp am_nm_ok q hm) a (List.mem_range.mpr ha)) b (List.mem_range.mpr hb)
    simp only [Bool.or_eq_true, decide_eq_true_eq, Bool.not_eq_true', decide_eq_false_iff_not] at h1
    rcases h1 with q1 | q1
    · exact hne q1
    · exact q1 he
theorem am_asl_ok : am_asl.all (fun p => match am_cl[p.2]? with | some q => decide (am_an p.1 = q.1) || decide (Cond.castable q.1 (am_an p.1) ∈ am_Tn) | none => false) = true := by decide +kernel
theorem am_asg_ok {j c : Nat} (h : am_asg j c = true) : ∃ q, am_cl[c]? = some q ∧ c < 90 ∧ (am_an j = q.1 ∨ Cond.castable q.1 (am_an j) ∈ am_Tn) := by
  have hm : (j, c) ∈ am_asl := List.contains_iff_mem.mp h
  have h1 := List.all_eq_true.mp am_asl_ok _ hm
  dsimp only at h1
  split at h1
  · rename_i q hq
    simp only [Bool.or_eq_true, decide_eq_true_eq] at h1
    exact ⟨q, hq, (am_cok hq).2, h1⟩
  · cases h1
section AMW
variable {p : Program} {l : Launch} {e : Env} {R : Room} {s : State} {m : MethodId} {args : Array Value} {below : List Frame} {meth : Method} {c : Code} {H : Heap} {locs : List Loc} {cells slots : Nat} {Q : State → Prop}
variable {cc : ByteArray} {pc : Nat} {ls : Array Slot} {rest : List Value} {D : va_G} {dA : Nat → ClassId} {B : Nat} {h : am_H} {own : String}
theorem am_v2_ref (a : Nat) : am_v2 (.inr (.inr (a + 1))) = .ref a := rfl
theorem am_v2_null : am_v2 (.inr (.inr 0)) = .null := rfl
theorem am_pos (hO : am_Ok D dA B h s H) {r : Nat} (hr : am_ow (am_T h r)) : ∃ a, r = a + 1 ∧ ∃ (L : List Nat) (k : Nat), (∀ a, a ∈ L ↔ am_ow (am_T h (a + 1))) ∧ va_P D am_cl (va_pl L (am_e dA h)) H ∧ va_D (fun q => B ≤ q) (va_pl L (am_e dA h)) ∧ a ∈ L ∧ (va_pl L (am_e dA h))[k]? = some (a, am_e dA h a) := by
  obtain ⟨h0, -, -, -, L, hL, hP, hD⟩ := hO
  cases r with
  | zero => rw [h0] at hr; unfold am_ow at hr; omega
  | succ a =>
    have ha : a ∈ L := (hL a).mpr hr
    obtain ⟨k, hk⟩ := va_pl_get (X := []) (f := am_e dA h) ha
    exact ⟨a, rfl, L, k, hL, hP, hD, ha, hk⟩
/-- a heap in which the cell of one reference is another one -/
theorem am_Ok_set {h' : am_H} {H1 : Heap} {a k : Nat} {L : List Nat} {x : va_E} (hO : am_Ok D dA B h s H) (hL : ∀ a, a ∈ L ↔ am_ow (am_T h (a + 1))) (hD : va_D (fun q => B ≤ q) (va_pl L (am_e dA h))) (ha : a ∈ L) (hk : (va_pl L (am_e dA h))[k]? = some (a, am_e dA h a)) (hT : am_T h' = am_T h) (hN : am_N h' = am_N h) (hI : ∀ b, ¬ b = a → am_aI h' (b + 1) = am_aI h (b + 1)) (hR : am_R h' 9000 0 = am_R h 9000 0) (hZ : am_Z h' = am_Z h) (he : ∀ b, va_up (am_e dA h) a x b = am_e dA h' b)
    (hz : H1.size = H.size) (ho : ∀ q, q ≠ a → H1[q]? = H[q]?) (hP1 : va_P D am_cl ((va_pl L (am_e dA h)).set k (a, x)) H1) (hD1 : va_D (fun q => B ≤ q) ((va_pl L (am_e dA h)).set k (a, x))) : am_Ok D dA B h' s H1 := by
  obtain ⟨h0, hs, hr, h3, hLs⟩ := hO
  have hBa : B ≤ a := hD.2 k _ hk
  have e : (va_pl L (am_e dA h)).set k (a, x) = va_pl L (am_e dA h') := (va_pl_set (X := []) hD ha hk).trans (va_pl_congr he)
  rw [e] at hP1 hD1
  have h4 : ∀ b, B ≤ b → ¬ (am_T h (b + 1) = 3 ∨ am_T h (b + 1) = 4) := by
    intro b hb q
    rcases q with q | q
    · exact absurd (h3.1 b q).1 (Nat.not_lt.mpr hb)
    · obtain ⟨t, a1, -, -, -, a5⟩ := h3.2.1
      have := h3.2.2 b q
      obtain ⟨_, _, _, _, _, _, _, q9⟩ := a5
      have : t = b := by omega
      subst this
      exact q9 hb
  exact ⟨by rw [hT]; exact h0, by rw [hz, hs, hZ], by rw [hT]; exact hr, am_Ro_keep h3 (fun b _ => by rw [hT, hN]; exact ⟨rfl, rfl⟩) (fun b hb _ => hI b (by omega)) hR (by rw [hT]; exact h4) (fun q hq => ho q (by omega)), L, by rw [hT]; exact hL, hP1, hD1⟩
theorem am_w_get (hx : p.tables.exec = Jvm.exec) (hb : c.code = cc) (hts : ∀ w ∈ am_Tg, w.before args s = true) (hown : s.vm.findClass own = some m.cls) (hK : va_K D am_cl (am_tys dA) s) (hN9 : ∀ w ∈ am_Tn, va_Nw w s) (hO : am_Ok D dA B h s H) {x y idx r : Nat} {q : vw_C} (hr : am_T h r = 10 + x) (hc : am_cl[x]? = some q) (hg : am_cg q) (hx9 : x < 90) (hy : y < q.2.2) (hl : am_fl own idx q y) (hdg : decode cc pc = .ok (.getfield idx, 3))
    (kk : W p l e R s m args below meth c H locs cells slots Q (F0 m (pc + 3) ls (am_v2 (am_gt (am_tk x y) h (32 * x + y) r) :: rest))) : W p l e R s m args below meth c H locs cells slots Q (F0 m pc ls (am_v2 (.inr (.inr r)) :: rest)) := by
  obtain ⟨a, rfl, L, k, hL, hP, hD, ha, hk⟩ := am_pos hO (r := r) (by unfold am_ow; omega)
  rw [am_e_o hr hx9] at hk
  obtain ⟨C, T, N⟩ := q
  have hv := am_fs_get (h := h) (r := a + 1) (show y < am_nf x by rw [am_nf_of hc]; exact hy)
  rw [am_v2_ref]
  rcases hl with hl | ⟨host, hl⟩ | ⟨ref, hl, hl2⟩
  · exact va_get hx hb hts hg.1 hown hK hP k hk hc y hy (hts _ hl) (fun _ h9 => h9) hv hdg kk
  · exact va_getN hx hb hts hg.1 hown hK hP k hk hc y hy (va_Nw.use rfl (hN9 _ hl)) (fun _ h9 => h9) hv hdg kk
  · exact va_get hx hb hts hg.1 hown hK hP k hk hc y hy (hts _ hl) (fun x9 h9 => u_same (hts _ hl2) x9 h9) hv hdg kk
theorem am_w_put (hx : p.tables.exec = Jvm.exec) (hb : c.code = cc) (hts : ∀ w ∈ am_Tg, w.before args s = true) (hown : s.vm.findClass own = some m.cls) (hK : va_K D am_cl (am_tys dA) s) (hN9 : ∀ w ∈ am_Tn, va_Nw w s) (hO : am_Ok D dA B h s H) (hS : va_S (fun q => B ≤ q) s.heap H locs) {x y idx r : Nat} {q : vw_C} (hr : am_T h r = 10 + x) (hc : am_cl[x]? = some q) (hg : am_cg q) (hx9 : x < 90) (hy : y < q.2.2) (hl : am_fl own idx q y) (hfin : (q.2.1 y).2.2.2 = true → meth.name = "<init>" ∧ (q.2.1 y).1 = own ∧ Cond.fieldLink own idx (q.2.1 y).1 (q.2.1 y).2.1 (q.2.1 y).2.2.1 ∈ am_Tg) (hdg : decode cc pc = .ok (.putfield idx, 3))
    {v : am_V} {h' : am_H} (hT : am_T h' = am_T h) (hN : am_N h' = am_N h) (h1 : am_aI h' = am_aI h) (h2 : am_aJ h' = am_aJ h) (h3 : am_aR h' = am_aR h) (hZ : am_Z h' = am_Z h) (hgt : ∀ (u f' b : Nat), ¬ (f' = 32 * x + y ∧ b = r) → am_gt u h' f' b = am_gt u h f' b) (hv : am_gt (am_tk x y) h' (32 * x + y) r = v) (hR9 : am_R h' 9000 0 = am_R h 9000 0)
    (kk : ∀ (H1 : Heap) (locs1 : List Loc), am_Ok D dA B h' s H1 → va_S (fun q => B ≤ q) s.heap H1 locs1 → W p l e R s m args below meth c H1 locs1 cells slots Q (F0 m (pc + 3) ls rest)) : W p l e R s m args below meth c H locs cells slots Q (F0 m pc ls (am_v2 v :: am_v2 (.inr (.inr r)) :: rest)) := by
  obtain ⟨a, rfl, L, k, hL, hP, hD, ha, hk⟩ := am_pos hO (r := r) (by unfold am_ow; omega)
  have hk' := hk
  rw [am_e_o hr hx9] at hk
  obtain ⟨C, T, N⟩ := q
  obtain ⟨g1, ⟨ty, g2⟩, g3⟩ := hg
  obtain ⟨hp, hkd⟩ := g2 y hy
  have hnf : narrow (ty y) (am_v2 v) = am_v2 v ∧ fits (ty y) (am_v2 v) = true := by
    rw [← hv, am_tk_of hc]
    rcases hkd with ⟨e1, e2⟩ | ⟨e1, e2⟩ | ⟨e1, ⟨n, e2⟩ | ⟨t, e2⟩⟩
    · rw [e1, e2]; exact ⟨rfl, rfl⟩
    · rw [e1, e2]; exact ⟨rfl, rfl⟩
    · rw [e1, e2]
      show narrow _ (va_rf (am_o _)) = va_rf (am_o _) ∧ fits _ (va_rf (am_o _)) = true
      cases am_o (am_R h' (32 * x + y) (a + 1)) <;> exact ⟨rfl, rfl⟩
    · rw [e1, e2]
      show narrow _ (va_rf (am_o _)) = va_rf (am_o _) ∧ fits _ (va_rf (am_o _)) = true
      cases am_o (am_R h' (32 * x + y) (a + 1)) <;> exact ⟨rfl, rfl⟩
  have hlen : y < (am_fs h x (a + 1)).length := by rw [am_fs_len, am_nf_of hc]; exact hy
  have hap := va_apart (own := own) hts g1 ty (fun k hk => (g2 k hk).1) g3 hK hc
  obtain ⟨r0, hr0, cell, q1, q2, q3, q4⟩ := hP k _ hk
  have hr0 : r0 = (C, T, N) := Option.some.inj (hr0.symm.trans hc)
  subst hr0
  obtain ⟨hSl, hfc, kC, hkC, hkind⟩ := hK.1 x _ hc
  obtain ⟨cf, kf, fi, f, hi, hsl⟩ := hSl y hy
  have hlays := u_lays hts g1 hy
  have hst := (u_facts hfc hkC hlays hi).1
  have hfit := u_fits hfc hkC hkind hlays hi hp hnf.1 hnf.2
  have hlt : f.slot < cell.slots.size := by rw [hsl]; exact k2_hasslot (q4 y hy)
  have fin : ∀ H1 : Heap, H1[a]? = some (cell.setSlot f.slot (am_v2 v)) → H1.size = H.size → (∀ q, q ≠ a → H1[q]? = H[q]?) → W p l e R s m args below meth c H1 (locs ++ [⟨a, f.slot⟩]) cells slots Q (F0 m (pc + 3) ls rest) := by
    intro H1 e1 e2 e3
    rw [hsl] at e1
    refine kk H1 _ (am_Ok_set hO hL hD ha hk' hT hN (fun b _ => by rw [h1]) hR9 hZ (am_e_put hT hN h1 h2 h3 hgt hr hx9 hv) e2 e3 (hP.set hD hk' ⟨_, hc, t_OB.to (V := updV (vp_V (am_fs h x (a + 1))) y (am_v2 v)) ⟨_, e1, q2, q3, t_set q4 hap hy _⟩ (fun j _ => vp_updV_set hlen _ j)⟩ e3) (hD.set hk')) (hS.put e2 e3 (show B ≤ a from hD.2 k _ hk'))
  rw [am_v2_ref]
  cases hf : (T y).2.2.2 with
  | true =>
    obtain ⟨z1, z2, z3⟩ := hfin hf
    have hlay := hts _ (g1 _ (u_in_lay hy))
    unfold u_lay at hlay
    rw [if_pos hf] at hlay
    have hcf : m.cls = cf := by
      obtain ⟨_, _, c', _, _, _, -, -, hf', -, -, -, hown2, -⟩ := Cond.laysFinal_spec hlay
      have e1 : c' = cf := by have := hi.symm.trans hf'; simp at this; exact this.1.symm
      rw [z2] at hown2
      rw [← e1]; exact Option.some.inj (hown.symm.trans hown2)
    exact W.putFinK hx hb hown (hts _ z3) hi hst hcf z1 (by rw [q2]; exact hfit) q1 q3 hlt rfl rfl hdg fin
  | false =>
    have hlay := hts _ (g1 _ (u_in_lay hy))
    unfold u_lay at hlay
    rw [if_neg (by rw [hf]; decide)] at hlay
    have h6 := u_store hfc hkC hkind hlay hi hp hnf.1 hnf.2
    rcases hl with hl | ⟨host, hl⟩ | ⟨ref, hl, hl2⟩
    · exact W.putK hx hb (f := f) ⟨hown, hts _ hl, ⟨_, _, _, hi⟩, hst⟩ (by rw [q2]; exact h6) q1 q3 hlt rfl rfl hdg fin
    · exact va_WputK hx hb (f := f) hown (va_Nw.use rfl (hN9 _ hl)) hi hst (by rw [q2]; exact h6) q1 q3 hlt rfl rfl hdg fin
    · exact W.putK hx hb (f := f) ⟨hown, hts _ hl, ⟨_, _, _, u_same (hts _ hl2) _ hi⟩, hst⟩ (by rw [q2]; exact h6) q1 q3 hlt rfl rfl hdg fin
/-- arrays: of ints -/
theorem am_ty0 (hK : va_K D am_cl (am_tys dA) s) (n : Nat) (z : Nat → Value) : s.isArrayOf (arrV (dA 0) n z) .int := (hK.2 0 _ rfl).1 n z
theorem am_ty1 (hK : va_K D am_cl (am_tys dA) s) (n : Nat) (z : Nat → Value) : s.isArrayOf (arrV (dA 1) n z) .long := (hK.2 1 _ rfl).1 n z
theorem am_tyq (hK : va_K D am_cl (am_tys dA) s) {x : Nat} (hx : x ∈ am_rc) : ArrOfT s (dA (2 + x)) (.object (am_an x)) ∧ va_RA s (dA (2 + x)) (.object (am_an x)) := by
  have hm : (dA (2 + x), FieldType.object (am_an x)) ∈ am_tys dA := List.mem_cons_of_mem _ (List.mem_cons_of_mem _ (List.mem_map.mpr ⟨x, hx, rfl⟩))
  obtain ⟨i, hi⟩ := List.getElem?_of_mem hm
  exact hK.2 i _ hi
theorem am_w_iald (hx : p.tables.exec = Jvm.exec) (hb : c.code = cc) (hK : va_K D am_cl (am_tys dA) s) (hO : am_Ok D dA B h s H) {r : Nat} {i : Int32} (hr : am_T h r = 1 ∨ am_T h r = 3) (hin : vp_in i (am_N h r)) (hdg : decode cc pc = .ok (.iaload, 1))
    (kk : W p l e R s m args below meth c H locs cells slots Q (F0 m (pc + 1) ls (.int (am_aI h r i.toNatClampNeg) :: rest))) : W p l e R s m args below meth c H locs cells slots Q (F0 m pc ls (.int i :: am_v2 (.inr (.inr r)) :: rest)) := by
  rcases hr with hr | hr
  · obtain ⟨a, rfl, L, k, hL, hP, hD, ha, hk⟩ := am_pos hO (r := r) (by unfold am_ow; omega)
    rw [am_e_i hr] at hk
    exact va_iald hx hb hK hP k 0 hk rfl hin hdg kk
  · cases r with
    | zero => rw [hO.1] at hr; cases hr
    | succ a =>
      obtain ⟨-, scr, h1, h2, h3, h4, h5⟩ := hO.2.2.2.1.1 a hr
      have hlt : i.toNatClampNeg < am_N h (a + 1) := Nat.not_le.mp fun q => hin (Or.inr q)
      exact W.iald (v := .int (am_aI h (a + 1) i.toNatClampNeg)) hx hb h1 h2 h3 (by rw [h4]; exact hin) (h5 _ hlt) rfl rfl hdg kk
theorem am_w_lald (hx : p.tables.exec = Jvm.exec) (hb : c.code = cc) (hK : va_K D am_cl (am_tys dA) s) (hO : am_Ok D dA B h s H) {r : Nat} {i : Int32} (hr : am_T h r = 2) (hin : vp_in i (am_N h r)) (hdg : decode cc pc = .ok (.laload, 1))
    (kk : W p l e R s m args below meth c H locs cells slots Q (F0 m (pc + 1) ls (.long (am_aJ h r i.toNatClampNeg) :: rest))) : W p l e R s m args below meth c H locs cells slots Q (F0 m pc ls (.int i :: am_v2 (.inr (.inr r)) :: rest)) := by
  obtain ⟨a, rfl, L, k, hL, hP, hD, ha, hk⟩ := am_pos hO (r := r) (by unfold am_ow; omega)
  rw [am_e_l hr] at hk
  exact va_lald hx hb hK hP k 1 hk rfl hin hdg kk
theorem am_w_aald (hx : p.tables.exec = Jvm.exec) (hb : c.code = cc) (hK : va_K D am_cl (am_tys dA) s) (hO : am_Ok D dA B h s H) {r : Nat} {i : Int32} (hr : 100 ≤ am_T h r) (hin : vp_in i (am_N h r)) (hdg : decode cc pc = .ok (.aaload, 1))
    (kk : W p l e R s m args below meth c H locs cells slots Q (F0 m (pc + 1) ls (am_v2 (.inr (.inr (am_aR h r i.toNatClampNeg))) :: rest))) : W p l e R s m args below meth c H locs cells slots Q (F0 m pc ls (.int i :: am_v2 (.inr (.inr r)) :: rest)) := by
  obtain ⟨a, rfl, L, k, hL, hP, hD, ha, hk⟩ := am_pos hO (r := r) (by unfold am_ow; omega)
  have hm : (dA (2 + (am_T h (a + 1) - 100)), FieldType.object (am_an (am_T h (a + 1) - 100))) ∈ am_tys dA := List.mem_cons_of_mem _ (List.mem_cons_of_mem _ (List.mem_map.mpr ⟨_, hO.2.2.1 _ hr, rfl⟩))
  obtain ⟨t0, ht⟩ := List.getElem?_of_mem hm
  rw [am_e_q hr] at hk
  exact va_aldq hx hb hK hP k t0 hk ht hin hdg kk
theorem am_w_alen (hx : p.tables.exec = Jvm.exec) (hb : c.code = cc) (hK : va_K D am_cl (am_tys dA) s) (hO : am_Ok D dA B h s H) {r : Nat} (hr : am_T h r = 1 ∨ am_T h r = 2 ∨ am_T h r = 3 ∨ am_T h r = 4 ∨ 100 ≤ am_T h r) (hdg : decode cc pc = .ok (.arraylength, 1))
    (kk : W p l e R s m args below meth c H locs cells slots Q (F0 m (pc + 1) ls (.int (Int32.ofNat (am_N h r)) :: rest))) : W p l e R s m args below meth c H locs cells slots Q (F0 m pc ls (am_v2 (.inr (.inr r)) :: rest)) := by
  rcases hr with hr | hr | hr | hr | hr
  · obtain ⟨a, rfl, L, k, hL, hP, hD, ha, hk⟩ := am_pos hO (r := r) (by unfold am_ow; omega)
    rw [am_e_i hr] at hk
    exact va_alen hx hb hK hP k 0 hk rfl rfl hdg kk
  · obtain ⟨a, rfl, L, k, hL, hP, hD, ha, hk⟩ := am_pos hO (r := r) (by unfold am_ow; omega)
    rw [am_e_l hr] at hk
    exact va_alen hx hb hK hP k 1 hk rfl rfl hdg kk
  · cases r with
    | zero => rw [hO.1] at hr; cases hr
    | succ a =>
      obtain ⟨-, scr, h1, h2, h3, h4, h5⟩ := hO.2.2.2.1.1 a hr
      exact W.alen (n := Int32.ofNat (am_N h (a + 1))) hx hb h1 h2 (by rw [h4] <;> rfl) rfl rfl hdg kk
  · obtain ⟨t, a1, a2, a3, -, cell, b1, b2, b3, b4, b5, b6, b7⟩ := hO.2.2.2.1.2.1
    cases r with
    | zero => rw [hO.1] at hr; cases hr
    | succ a =>
      have ha := hO.2.2.2.1.2.2 a hr
      have : t = a := by omega
      subst this
      rw [a3] at kk
      exact W.alen (n := Int32.ofNat 0) hx hb b1 b2 b5 rfl rfl hdg kk
  · obtain ⟨a, rfl, L, k, hL, hP, hD, ha, hk⟩ := am_pos hO (r := r) (by unfold am_ow; omega)
    have hm : (dA (2 + (am_T h (a + 1) - 100)), FieldType.object (am_an (am_T h (a + 1) - 100))) ∈ am_tys dA := List.mem_cons_of_mem _ (List.mem_cons_of_mem _ (List.mem_map.mpr ⟨_, hO.2.2.1 _ hr, rfl⟩))
    obtain ⟨t0, ht⟩ := List.getElem?_of_mem hm
    rw [am_e_q hr] at hk
    exact va_alen hx hb hK hP k t0 hk ht rfl hdg kk
theorem am_w_gets (hx : p.tables.exec = Jvm.exec) (hb : c.code = cc) (hts : ∀ w ∈ am_Tg, w.before args s = true) (hown : s.vm.findClass own = some m.cls) (hB : B ≤ s.heap.size) (hO : am_Ok D dA B h s H) (hS : va_S (fun q => B ≤ q) s.heap H locs) {idx : Nat} (hl : Cond.fieldLink own idx "java/util/ArrayList" "DEFAULTCAPACITY_EMPTY_ELEMENTDATA" "[Ljava/lang/Object;" ∈ am_Tg) (hdg : decode cc pc = .ok (.getstatic idx, 3))
    (kk : W p l e R s m args below meth c H locs cells slots Q (F0 m (pc + 3) ls (am_v2 (.inr (.inr (am_R h 9000 0))) :: rest))) : W p l e R s m args below meth c H locs cells slots Q (F0 m pc ls rest) := by
  obtain ⟨t, a1, a2, a3, a4, -⟩ := hO.2.2.2.1.2.1
  rw [a1, am_v2_ref] at kk
  have hZ : va_Z "java/util/ArrayList" "DEFAULTCAPACITY_EMPTY_ELEMENTDATA" "[Ljava/lang/Object;" (.ref t) (fun q => B ≤ q) s s.heap := by
    obtain ⟨cf, kf, fi, f, a, cell, z1, z2, z3, z4, z5, z6, z7, z8⟩ := a4
    have hlt : a < s.heap.size := Nat.lt_of_lt_of_le (Nat.not_le.mp z8) hB
    exact ⟨cf, kf, fi, f, a, cell, z1, z2, z3, z4, by rw [← hS.2.1 a hlt z8]; exact z5, z6, z7, z8⟩
  exact va_gets hx hb hZ hS hown (hts _ hl) (fun _ h9 => h9) hdg kk
theorem am_w_iast (hx : p.tables.exec = Jvm.exec) (hb : c.code = cc) (hK : va_K D am_cl (am_tys dA) s) (hO : am_Ok D dA B h s H) (hS : va_S (fun q => B ≤ q) s.heap H locs) {r : Nat} {i v : Int32} (hr : am_T h r = 1) (hin : vp_in i (am_N h r)) (hdg : decode cc pc = .ok (.iastore, 1))
    (kk : ∀ (H1 : Heap) (locs1 : List Loc), am_Ok D dA B (am_xI h r i.toNatClampNeg v) s H1 → va_S (fun q => B ≤ q) s.heap H1 locs1 → W p l e R s m args below meth c H1 locs1 cells slots Q (F0 m (pc + 1) ls rest)) : W p l e R s m args below meth c H locs cells slots Q (F0 m pc ls (.int v :: .int i :: am_v2 (.inr (.inr r)) :: rest)) := by
  obtain ⟨a, rfl, L, k, hL, hP, hD, ha, hk⟩ := am_pos hO (r := r) (by unfold am_ow; omega)
  have hk' := hk
  rw [am_e_i hr] at hk
  refine W.iast hx hb (hP k _ hk) (am_ty0 hK _ _) (fun q => by cases q) (by show ¬ (i < 0 ∨ (arrV _ _ _).slots.size ≤ _); rw [arrV_size]; exact hin) rfl rfl hdg fun H1 e1 e2 e3 => ?_
  refine kk H1 _ (am_Ok_set hO hL hD ha hk' rfl rfl (fun b hb => funext fun i => by show am_u2 _ _ _ _ _ _ = _; rw [am_u2, if_neg (fun q => hb (by omega))]) rfl rfl (am_e_xI hr) e2 e3 (hP.set hD hk' ?_ e3) (hD.set hk')) (hS.put e2 e3 (show B ≤ a from hD.2 k _ hk'))
  show H1[a]? = some (vp_cell _ _)
  rw [e1, vp_cell_i, vp_cell_i, arrV_store]
  congr 2
  funext q
  by_cases hq : q = i.toNatClampNeg
  · simp [updV, upd, hq]
  · simp [updV, upd, hq]
theorem am_w_last (hx : p.tables.exec = Jvm.exec) (hb : c.code = cc) (hK : va_K D am_cl (am_tys dA) s) (hO : am_Ok D dA B h s H) (hS : va_S (fun q => B ≤ q) s.heap H locs) {r : Nat} {i : Int32} {v : Int64} (hr : am_T h r = 2) (hin : vp_in i (am_N h r)) (hdg : decode cc pc = .ok (.lastore, 1))
    (kk : ∀ (H1 : Heap) (locs1 : List Loc), am_Ok D dA B (am_xJ h r i.toNatClampNeg v) s H1 → va_S (fun q => B ≤ q) s.heap H1 locs1 → W p l e R s m args below meth c H1 locs1 cells slots Q (F0 m (pc + 1) ls rest)) : W p l e R s m args below meth c H locs cells slots Q (F0 m pc ls (.long v :: .int i :: am_v2 (.inr (.inr r)) :: rest)) := by
  obtain ⟨a, rfl, L, k, hL, hP, hD, ha, hk⟩ := am_pos hO (r := r) (by unfold am_ow; omega)
  have hk' := hk
  rw [am_e_l hr] at hk
  refine W.last hx hb (hP k _ hk) (am_ty1 hK _ _) (fun q => by cases q) (by show ¬ (i < 0 ∨ (arrV _ _ _).slots.size ≤ _); rw [arrV_size]; exact hin) rfl rfl hdg fun H1 e1 e2 e3 => ?_
  refine kk H1 _ (am_Ok_set hO hL hD ha hk' rfl rfl (fun b _ => rfl) rfl rfl (am_e_xJ hr) e2 e3 (hP.set hD hk' ?_ e3) (hD.set hk')) (hS.put e2 e3 (show B ≤ a from hD.2 k _ hk'))
  show H1[a]? = some (vp_cell _ _)
  rw [e1, vp_cell_l, vp_cell_l, arrV_store]
  congr 2
  funext q
  by_cases hq : q = i.toNatClampNeg
  · simp [updV, vp_updL, hq]
  · simp [updV, vp_updL, hq]
end AMW
section AMX
variable {p : Program} {l : Launch} {e : Env} {R : Room} {s : State} {m : MethodId} {args : Array Value} {below : List Frame} {meth : Method} {c : Code} {H : Heap} {locs : List Loc} {cells slots : Nat} {Q : State → Prop}
variable {cc : ByteArray} {pc : Nat} {ls : Array Slot} {rest : List Value} {D : va_G} {dA : Nat → ClassId} {B : Nat} {h : am_H} {own : String}
theorem am_w_aast (hx : p.tables.exec = Jvm.exec) (hb : c.code = cc) (hK : va_K D am_cl (am_tys dA) s) (hN9 : ∀ w ∈ am_Tn, va_Nw w s) (hO : am_Ok D dA B h s H) (hS : va_S (fun q => B ≤ q) s.heap H locs) {r v : Nat} {i : Int32} (hr : 100 ≤ am_T h r) (hin : vp_in i (am_N h r)) (hv : v = 0 ∨ (10 ≤ am_T h v ∧ am_asg (am_T h r - 100) (am_T h v - 10) = true)) (hdg : decode cc pc = .ok (.aastore, 1))
    (kk : ∀ (H1 : Heap) (locs1 : List Loc), am_Ok D dA B (am_xR h r i.toNatClampNeg v) s H1 → va_S (fun q => B ≤ q) s.heap H1 locs1 → W p l e R s m args below meth c H1 locs1 cells slots Q (F0 m (pc + 1) ls rest)) : W p l e R s m args below meth c H locs cells slots Q (F0 m pc ls (am_v2 (.inr (.inr v)) :: .int i :: am_v2 (.inr (.inr r)) :: rest)) := by
  have hxr := hO.2.2.1 r hr
  obtain ⟨a, rfl, L, k, hL, hP, hD, ha, hk⟩ := am_pos hO (r := r) (by unfold am_ow; omega)
  have hk' := hk
  rw [am_e_q hr] at hk
  have hlt : i.toNatClampNeg < am_N h (a + 1) := Nat.not_le.mp fun q => hin (Or.inr q)
  have h0 : ¬ i < 0 := fun q => hin (Or.inl q)
  obtain ⟨hA1, hA2⟩ := am_tyq hK hxr
  have fin : ∀ (w : Value) (H1 : Heap), w = va_rf (am_o v) → H1[a]? = some ((vp_cell (dA (2 + (am_T h (a + 1) - 100))) (am_N h (a + 1), .inr (.inr (.inr (.inr (fun j => am_o (am_aR h (a + 1) j))))))).setSlot i.toNatClampNeg w) → H1.size = H.size → (∀ q, q ≠ a → H1[q]? = H[q]?) → W p l e R s m args below meth c H1 (locs ++ [⟨a, i.toNatClampNeg⟩]) cells slots Q (F0 m (pc + 1) ls rest) := by
    intro w H1 hw e1 e2 e3
    refine kk H1 _ (am_Ok_set hO hL hD ha hk' rfl rfl (fun b _ => rfl) rfl rfl (am_e_xR (v := v) hr) e2 e3 (hP.set hD hk' ?_ e3) (hD.set hk')) (hS.put e2 e3 (show B ≤ a from hD.2 k _ hk'))
    show H1[a]? = some (vp_cell _ _)
    rw [e1, vp_cell_q, vp_cell_q, arrV_store]
    congr 2
    funext q
    by_cases hq : q = i.toNatClampNeg
    · simp [updV, va_up, hq, hw]
    · simp [updV, va_up, hq]
  by_cases hv0 : v = 0
  · subst hv0
    rw [am_v2_null, am_v2_ref]
    exact va_WaastN (C := am_an (am_T h (a + 1) - 100)) hx hb (hP k _ hk) (hA1 _ _) (fun h => by cases h) (by show ¬ (i < 0 ∨ (arrV _ _ _).slots.size ≤ _); rw [arrV_size]; exact hin) rfl rfl hdg (fun H1 e1 e2 e3 => fin .null H1 rfl e1 e2 e3)
  · have hv1 : 10 ≤ am_T h v ∧ am_asg (am_T h (a + 1) - 100) (am_T h v - 10) = true := by rcases hv with q | q; exact absurd q hv0; exact q
    obtain ⟨q, hc, hx9, hasg⟩ := am_asg_ok hv1.2
    obtain ⟨b, rfl, L2, k2, hL2, hP2, hD2, hb2, hkb⟩ := am_pos hO (r := v) (by unfold am_ow; omega)
    have hTb : am_T h (b + 1) = 10 + (am_T h (b + 1) - 10) := by omega
    rw [am_e_o hTb hx9] at hkb
    obtain ⟨r', hr', cellV, g1, g2, g3, -⟩ := hP2 k2 _ hkb
    have hcls := (hK.1 _ q hc).2
    obtain ⟨kA, comp, k1, k3, k4, -⟩ := hA2
    obtain ⟨kE, hkE, -⟩ := Vm.findClass_spec k4
    obtain ⟨kC, hkC, -⟩ := hcls.2
    have has : s.vm.assignable (D.1 (am_T h (b + 1) - 10)) comp = true := by
      rcases hasg with e9 | e9
      · rw [e9] at k4
        rw [Option.some.inj (k4.symm.trans hcls.1)]
        exact va_assign hcls
      · obtain ⟨c0, t1, f1, f2, f3⟩ := Cond.castable_spec (va_Nw.use (A := args) rfl (hN9 _ e9))
        cases hcls.1.symm.trans f1
        cases k4.symm.trans f2
        exact f3
    rw [am_v2_ref, am_v2_ref]
    exact W.aast hx hb (hP k _ hk) (fun q h => by cases h) (fun h => by cases h) k1 k3 rfl hkE ⟨h0, by show _ < (arrV _ _ _).slots.size; rw [arrV_size]; exact hlt⟩ g1 (fun q h => by rw [g3] at h; cases h) (by rw [g2]; exact hkC) (by rw [g2]; exact has) rfl rfl hdg (fun H1 e1 e2 e3 => fin (.ref b) H1 rfl e1 e2 e3)
theorem am_Ok_push {h' : am_H} {H1 : Heap} {x : va_E} {t : Nat} (hO : am_Ok D dA B h s H) (hB : B ≤ H.size) (z1 : H1.size = H.size + 1) (o1 : ∀ q, q < H.size → H1[q]? = H[q]?) (hT : am_T h' = va_up (am_T h) (am_Z h + 1) t) (hN : ∀ b, ¬ b = am_Z h → am_N h' (b + 1) = am_N h (b + 1)) (hI : ∀ b, ¬ b = am_Z h → am_aI h' (b + 1) = am_aI h (b + 1)) (hR : am_R h' 9000 0 = am_R h 9000 0) (ht : am_ow t) (htr : 100 ≤ t → t - 100 ∈ am_rc) (hZ : am_Z h' = am_Z h + 1) (he : ∀ b, va_up (am_e dA h) (am_Z h) x b = am_e dA h' b)
    (hat : va_at D am_cl (H.size, x) H1) : am_Ok D dA B h' s H1 := by
  obtain ⟨h0, hs, hr, h3, L, hL, hP, hD⟩ := hO
  have hk : ∀ (k : Nat) (x : Nat × va_E), (va_pl L (am_e dA h))[k]? = some x → H1[x.1]? = H[x.1]? := fun k x hx => o1 x.1 ((hP k x hx).lt)
  have hfr : H.size ∉ L := va_pl_fresh (X := []) hP (Nat.le_refl _)
  have eL : va_pl L (am_e dA h) ++ [(H.size, x)] = va_pl (L ++ [H.size]) (am_e dA h') := by
    rw [va_pl_push hfr, hs]
    exact va_pl_congr he
  have h4 : ∀ b, B ≤ b → ¬ (am_T h (b + 1) = 3 ∨ am_T h (b + 1) = 4) := by
    intro b hb q
    rcases q with q | q
    · exact absurd (h3.1 b q).1 (Nat.not_lt.mpr hb)
    · obtain ⟨t, a1, -, -, -, a5⟩ := h3.2.1
      have := h3.2.2 b q
      obtain ⟨_, _, _, _, _, _, _, q9⟩ := a5
      have : t = b := by omega
      subst this
      exact q9 hb
  have hBZ : B ≤ am_Z h := by rw [← hs]; exact hB
  refine ⟨?_, by rw [z1, hs, hZ], fun a ha => ?_, am_Ro_keep h3 (fun b hb => ?_) (fun b hb _ => hI b (by omega)) hR (fun b hb => ?_) (fun q hq => o1 q (by omega)), L ++ [H.size], fun a => ?_, ?_, ?_⟩
  · rw [hT, va_up_ne _ _ (by omega)]
    exact h0
  · rw [hT] at ha ⊢
    by_cases hq : a = am_Z h + 1
    · subst hq
      rw [va_up_self] at ha ⊢
      exact htr ha
    · rw [va_up_ne _ _ hq] at ha ⊢
      exact hr a ha
  · rw [hT, va_up_ne _ _ (by omega)]
    exact ⟨rfl, hN b (by omega)⟩
  · rw [hT]
    by_cases hq : b = am_Z h
    · subst hq
      rw [va_up_self]
      unfold am_ow at ht
      omega
    · rw [va_up_ne _ _ (by omega)]
      exact h4 b hb
  · rw [hT, List.mem_append, List.mem_singleton, hs]
    by_cases hq : a = am_Z h
    · subst hq
      rw [va_up_self]
      exact ⟨fun _ => ht, fun _ => Or.inr rfl⟩
    · rw [va_up_ne _ _ (by omega), ← hL a]
      exact ⟨fun z => z.resolve_right hq, Or.inl⟩
  · rw [← eL]
    refine (hP.kept hk).app (fun k y hy => ?_)
    have hz : k < 1 := (List.getElem?_eq_some_iff.mp hy).1
    rw [show k = 0 by omega] at hy
    cases hy
    exact hat
  · rw [← eL]
    exact hD.push hP rfl hB
theorem am_S_push {H1 : Heap} (hS : va_S (fun q => B ≤ q) s.heap H locs) (z1 : H1.size = H.size + 1) (o1 : ∀ q, q < H.size → H1[q]? = H[q]?) : va_S (fun q => B ≤ q) s.heap H1 locs :=
  ⟨Nat.le_trans hS.1 (by omega), fun x h1 h2 => (o1 x (Nat.lt_of_lt_of_le h1 hS.1)).trans (hS.2.1 x h1 h2), hS.2.2⟩
theorem am_w_new (hx : p.tables.exec = Jvm.exec) (hb : c.code = cc) (hts : ∀ w ∈ am_Tg, w.before args s = true) (hown : s.vm.findClass own = some m.cls) (hK : va_K D am_cl (am_tys dA) s) (hO : am_Ok D dA B h s H) (hB : B ≤ H.size) (hS : va_S (fun q => B ≤ q) s.heap H locs) {x idx : Nat} {q : vw_C} (hc : am_cl[x]? = some q) (hg : am_cg q) (hx9 : x < 90) (hl : Cond.classLink own idx q.1 ∈ am_Tg ∧ Cond.instantiable q.1 q.2.2 ∈ am_Tg ∧ Cond.initialized q.1 ∈ am_Tg) (hcells : cells + 1 ≤ R.cells) (hslots : slots + q.2.2 ≤ R.slots) (hdg : decode cc pc = .ok (.new idx, 3))
    (kk : ∀ H1 : Heap, am_Ok D dA B (am_nO h x q.2.2) s H1 → va_S (fun q => B ≤ q) s.heap H1 locs → W p l e R s m args below meth c H1 locs (cells + 1) (slots + q.2.2) Q (F0 m (pc + 3) ls (am_v2 (.inr (.inr (am_Z h + 1))) :: rest))) : W p l e R s m args below meth c H locs cells slots Q (F0 m pc ls rest) := by
  obtain ⟨C, T, N⟩ := q
  obtain ⟨g1, ⟨ty, g2⟩, g3⟩ := hg
  have hKn := hK.1 x _ hc
  refine W.newcK hx hb hown (hts _ hl.1) (hts _ hl.2.1) (hts _ hl.2.2) rfl hdg hcells hslots hKn.2.1 hO.2.1 fun H1 kC hkC e1 z1 o1 => ?_
  rw [← hO.2.1] at e1 z1 o1
  refine kk H1 (am_Ok_push hO hB z1 o1 rfl (fun b _ => rfl) (fun b _ => rfl) (by show am_uf (am_R h) (am_Z h + 1) 0 9000 0 = _; rw [am_uf, if_neg (by omega)]) (by unfold am_ow; omega) (fun q => by omega) rfl (am_e_nO hx9) ?_) (am_S_push hS z1 o1)
  refine ⟨_, hc, (u_born ty hts g1 hKn hkC e1 (fun k hk => (g2 k hk).1)).to (fun j hj => ?_)⟩
  have hv := am_fs_get (h := am_nO h x N) (r := am_Z h + 1) (show j < am_nf x by rw [am_nf_of hc]; exact hj)
  have e2 : vp_V (am_fs (am_nO h x N) x (am_Z h + 1)) j = am_v2 (am_gt (am_tk x j) (am_nO h x N) (32 * x + j) (am_Z h + 1)) := by
    simp only [vp_V, List.getD_eq_getElem?_getD, hv]
    rfl
  show defaultValue (ty j) = vp_V (am_fs (am_nO h x N) x (am_Z h + 1)) j
  rw [e2, am_tk_of hc]
  have u0 : ∀ {α : Type} (g : Nat → Nat → α) (f a : Nat) (v : α), am_uf g a v f a = v := fun g f a v => if_pos rfl
  rcases (g2 j hj).2 with ⟨k1, k2⟩ | ⟨k1, k2⟩ | ⟨k1, ⟨n, k2⟩ | ⟨t, k2⟩⟩
  · rw [k1, k2]
    show Value.int 0 = .int (am_uf _ _ _ _ _)
    rw [u0]
  · rw [k1, k2]
    show Value.long 0 = .long (am_uf _ _ _ _ _)
    rw [u0]
  · rw [k1, k2]
    show Value.null = va_rf (am_o (am_uf _ _ _ _ _))
    rw [u0]
    rfl
  · rw [k1, k2]
    show Value.null = va_rf (am_o (am_uf _ _ _ _ _))
    rw [u0]
    rfl
theorem am_w_newa (hx : p.tables.exec = Jvm.exec) (hb : c.code = cc) (hK : va_K D am_cl (am_tys dA) s) (hO : am_Ok D dA B h s H) (hB : B ≤ H.size) (hS : va_S (fun q => B ≤ q) s.heap H locs) {atype : ArrayType} {x : Nat} (hat : (newarray.typeOf atype = .int ∧ x = 1) ∨ (newarray.typeOf atype = .long ∧ x = 2)) (harr : (Cond.arrayClass (newarray.typeOf atype)).before args s = true) {n : Int32} (hn : ¬ n < 0) (hn1 : n.toNatClampNeg ≤ 1000000) (hcells : cells + 1 ≤ R.cells) (hslots : slots + n.toNatClampNeg ≤ R.slots) (hdg : decode cc pc = .ok (.newarray atype, 2))
    (kk : ∀ H1 : Heap, am_Ok D dA B (am_nA h x n.toNatClampNeg) s H1 → va_S (fun q => B ≤ q) s.heap H1 locs → W p l e R s m args below meth c H1 locs (cells + 1) (slots + n.toNatClampNeg) Q (F0 m (pc + 2) ls (am_v2 (.inr (.inr (am_Z h + 1))) :: rest))) : W p l e R s m args below meth c H locs cells slots Q (F0 m pc ls (.int n :: rest)) := by
  have hby : n.toNatClampNeg * componentBytes (newarray.typeOf atype) ≤ 536870912 := by
    rcases hat with ⟨q, -⟩ | ⟨q, -⟩ <;> rw [q]
    · show n.toNatClampNeg * 4 ≤ 536870912; omega
    · show n.toNatClampNeg * 8 ≤ 536870912; omega
  refine va_newaK hx hb harr rfl hdg rfl hn rfl hby hcells hslots hO.2.1 fun H1 cA e1 z1 o1 hAr hNm => ?_
  rw [← hO.2.1] at e1 z1 o1
  refine kk H1 ?_ (am_S_push hS z1 o1)
  have ua : ∀ {α : Type} (g : Nat → Nat → α) (a : Nat) (v : α), am_ua g a v a = fun _ => v := fun g a v => funext fun _ => if_pos rfl
  rcases hat with ⟨q, rfl⟩ | ⟨q, rfl⟩
  · rw [q] at e1 hNm
    have hcA : cA = dA 0 := Option.some.inj (hNm.symm.trans (hK.2 0 _ rfl).2)
    subst hcA
    refine am_Ok_push (x := .inl (dA 0, n.toNatClampNeg, .inl (fun _ => 0))) hO hB z1 o1 rfl (fun b hb => va_up_ne _ _ (by omega)) (fun b hb => funext fun i => by show am_ua _ _ _ _ _ = _; rw [am_ua, if_neg (by omega)]) rfl (by unfold am_ow; omega) (fun q => by omega) rfl (fun b => ?_) e1
    by_cases hb : b = am_Z h
    · subst hb
      rw [va_up_self, am_e_i (show am_T (am_nA h 1 n.toNatClampNeg) (am_Z h + 1) = 1 from va_up_self _ _ _)]
      show _ = Sum.inl (dA 0, va_up _ _ _ _, Sum.inl (am_ua _ _ _ _))
      rw [va_up_self, ua]
    · rw [va_up_ne _ _ hb, am_e_nA b hb]
  · rw [q] at e1 hNm
    have hcA : cA = dA 1 := Option.some.inj (hNm.symm.trans (hK.2 1 _ rfl).2)
    subst hcA
    refine am_Ok_push (x := .inl (dA 1, n.toNatClampNeg, .inr (.inl (fun _ => 0)))) hO hB z1 o1 rfl (fun b hb => va_up_ne _ _ (by omega)) (fun b hb => funext fun i => by show am_ua _ _ _ _ _ = _; rw [am_ua, if_neg (by omega)]) rfl (by unfold am_ow; omega) (fun q => by omega) rfl (fun b => ?_) e1
    by_cases hb : b = am_Z h
    · subst hb
      rw [va_up_self, am_e_l (show am_T (am_nA h 2 n.toNatClampNeg) (am_Z h + 1) = 2 from va_up_self _ _ _)]
      show _ = Sum.inl (dA 1, va_up _ _ _ _, Sum.inr (Sum.inl (am_ua _ _ _ _)))
      rw [va_up_self, ua]
    · rw [va_up_ne _ _ hb, am_e_nA b hb]
theorem am_w_newq (hx : p.tables.exec = Jvm.exec) (hb : c.code = cc) (hts : ∀ w ∈ am_Tg, w.before args s = true) (hown : s.vm.findClass own = some m.cls) (hK : va_K D am_cl (am_tys dA) s) (hO : am_Ok D dA B h s H) (hB : B ≤ H.size) (hS : va_S (fun q => B ≤ q) s.heap H locs) {x idx : Nat} (hxr : x ∈ am_rc) (hl : Cond.classLink own idx (am_an x) ∈ am_Tg) (hao : va_AO (am_an x) s) {n : Int32} (hn : ¬ n < 0) (hn1 : n.toNatClampNeg ≤ 1000000) (hcells : cells + 1 ≤ R.cells) (hslots : slots + n.toNatClampNeg ≤ R.slots) (hdg : decode cc pc = .ok (.anewarray idx, 3))
    (kk : ∀ H1 : Heap, am_Ok D dA B (am_nA h (100 + x) n.toNatClampNeg) s H1 → va_S (fun q => B ≤ q) s.heap H1 locs → W p l e R s m args below meth c H1 locs (cells + 1) (slots + n.toNatClampNeg) Q (F0 m (pc + 3) ls (am_v2 (.inr (.inr (am_Z h + 1))) :: rest))) : W p l e R s m args below meth c H locs cells slots Q (F0 m pc ls (.int n :: rest)) := by
  refine W.anew hx hb hown (hts _ hl) (va_AO.use hao) rfl hdg rfl hn (by omega) hcells hslots fun cA kA comp f1 f2 f3 f4 => ?_
  generalize hH1 : H.push ({ cls := cA, slots := Array.replicate n.toNatClampNeg .null, vm := .none } : Cell) = H1
  have z1 : H1.size = H.size + 1 := by rw [← hH1, Array.size_push]
  have e1 : H1[H.size]? = some (arrV cA n.toNatClampNeg (fun _ => .null)) := by rw [← hH1, Array.getElem?_push_size, ← arrV_new]
  have o1 : ∀ q, q < H.size → H1[q]? = H[q]? := fun q hq => by rw [← hH1, Array.getElem?_push, if_neg (Nat.ne_of_lt hq)]
  have ez : (Value.ref H.size) = am_v2 (.inr (.inr (am_Z h + 1))) := by rw [am_v2_ref, hO.2.1]
  rw [ez]
  refine kk H1 ?_ (am_S_push hS z1 o1)
  have ua : ∀ {α : Type} (g : Nat → Nat → α) (a : Nat) (v : α), am_ua g a v a = fun _ => v := fun g a v => funext fun _ => if_pos rfl
  have hcA : cA = dA (2 + x) := by
    obtain ⟨kA', comp', q1, q2, q3, q4⟩ := (am_tyq hK hxr).2
    exact Option.some.inj (f1.symm.trans q4)
  subst hcA
  refine am_Ok_push (x := .inl (dA (2 + x), n.toNatClampNeg, .inr (.inr (.inr (.inr (fun _ => none)))))) hO hB z1 o1 rfl (fun b hb => va_up_ne _ _ (by omega)) (fun b hb => funext fun i => by show am_ua _ _ _ _ _ = _; rw [am_ua, if_neg (by omega)]) rfl (by unfold am_ow; omega) (fun q => by rw [Nat.add_sub_cancel_left]; exact hxr) rfl (fun b => ?_) e1
  by_cases hb : b = am_Z h
  · subst hb
    have eT : am_T (am_nA h (100 + x) n.toNatClampNeg) (am_Z h + 1) = 100 + x := va_up_self _ _ _
    rw [va_up_self, am_e_q (by rw [eT]; omega), eT, Nat.add_sub_cancel_left]
    show _ = Sum.inl (dA (2 + x), va_up _ _ _ _, Sum.inr (Sum.inr (Sum.inr (Sum.inr (fun j => am_o (am_ua _ _ _ _ j))))))
    rw [va_up_self, ua]
    rfl
  · rw [va_up_ne _ _ hb, am_e_nA b hb]
end AMX
