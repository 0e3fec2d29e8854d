/-! SOUND: a run of the abstract machine is a run of the machine -/
section AMT
variable {l : Launch} {D : va_G} {dA : Nat → ClassId} {B : Nat}
theorem am_lookup_mem {α : Type} : ∀ {xs : List (Nat × α)} {k : Nat} {v : α}, xs.lookup k = some v → (k, v) ∈ xs
  | [], k, v, h => by cases h
  | (a, b) :: xs, k, v, h => by
    rw [List.lookup_cons] at h
    cases hk : k == a with
    | true =>
      rw [hk] at h
      cases h
      rw [eq_of_beq hk]
      exact List.mem_cons_self
    | false =>
      rw [hk] at h
      exact List.mem_cons_of_mem _ (am_lookup_mem h)
theorem am_W_hf {n d mid pc : Nat} {lc : am_Ls} {st : am_Sk} {h hf : am_H} {rf : Option am_V} (H : am_W n d mid pc lc st h (fun r h' => r = rf ∧ h' = hf)) : am_C h ≤ am_C hf ∧ am_S h ≤ am_S hf := by
  obtain ⟨r, h', ⟨-, rfl⟩, q, -⟩ := am_W_ex H
  exact q
theorem am_en_ok {mid mL : Nat} {as : am_Sk} (hml : am_ml mid = mL) (hsz : (as.map am_cat).sum ≤ mL) : ∃ ls : Array Slot, (∀ m : MethodId, entryFrame m (as.map am_v2).toArray mL = F0 m 0 ls []) ∧ am_Lk ls mL (am_en mid as) := by
  have hlen : ∀ vs : am_Sk, (vs.flatMap fun v => if am_cat v = 2 then [some v, none] else [some v]).length = (vs.map am_cat).sum := by
    intro vs
    induction vs with
    | nil => rfl
    | cons v vs ih =>
      rw [List.flatMap_cons, List.length_append, ih, List.map_cons, List.sum_cons]
      congr 1
      rcases v with a | a | a <;> rfl
  have hsl : ∀ vs : am_Sk, (lg_sl (vs.map am_v2)).length = (vs.map am_cat).sum := by
    intro vs
    induction vs with
    | nil => rfl
    | cons v vs ih =>
      have e1 : lg_sl ((v :: vs).map am_v2) = (if (am_v2 v).category = 2 then [Slot.val (am_v2 v), .second] else [.val (am_v2 v)]) ++ lg_sl (vs.map am_v2) := by
        simp [lg_sl, List.flatMap_cons]
      rw [e1, List.length_append, ih, List.map_cons, List.sum_cons, am_cat_v2]
      congr 1
      rcases v with a | a | a <;> rfl
  refine ⟨_, fun m => lg_entry_eq m _ _, ?_, ?_⟩
  · unfold am_en
    rw [List.length_append, List.length_replicate, hlen, hml]
    omega
  · have hh := lv_entry (as.map am_v2) (n := mL) (by rw [hsl]; exact hsz)
    refine ⟨hh.1, hh.2.1, fun q hq => ?_⟩
    obtain ⟨k, w⟩ := q
    obtain ⟨v, hv, rfl⟩ := am_lst_mem.mp hq
    refine hh.2.2 _ ?_
    unfold am_en at hv
    rcases Nat.lt_or_ge k (as.flatMap fun v => if am_cat v = 2 then [some v, none] else [some v]).length with hk | hk
    · rw [am_gA hk] at hv
      rcases am_en_get as 0 [] rfl k v (by simpa using hv) with q | q
      · simp at q
      · exact q
    · rw [am_gB hk] at hv
      rw [List.getD_eq_getElem?_getD, List.getElem?_replicate] at hv
      split at hv <;> cases hv
def am_Snd (l : Launch) (D : va_G) (dA : Nat → ClassId) (B n : Nat) : Prop :=
  ∀ {d mid : Nat} {y : MethodName} {cc : ByteArray} {mL : Nat} {ret : Option FieldType} (_ : am_mi mid = some (y, cc, mL, ret)) {p : Program} {e : Env} {s : State} {m : MethodId} {args : Array Value} {below : List Frame} {meth : Method} {c : Code} (_ : am_Fx p s m args meth c D dA B y.cls cc mL (decide (y.name = "<init>"))) (_ : meth.sig.returnType = ret) (_ : meth.locks = false) {c0 s0 : Nat} {rf : Option am_V} {hf : am_H} {pc : Nat} {lc : am_Ls} {st : am_Sk} {h : am_H},
    am_W n d mid pc lc st h (fun r h' => r = rf ∧ h' = hf) → c0 ≤ am_C h → s0 ≤ am_S h → am_G p l e (am_rm d (am_C hf - c0) (am_S hf - s0)) s m args below meth c (MQ below (am_Qb D dA B rf hf) args s (am_C hf - c0) (am_S hf - s0) (fun q => B ≤ q)) D dA B mL c0 s0 pc lc st h
theorem am_MX_of {n : Nat} (hS : am_Snd l D dA B n) {d mid : Nat} {as : am_Sk} {h hf : am_H} {rf : Option am_V} (hsz : (as.map am_cat).sum ≤ am_ml mid) (hm0 : ¬ mid = 0) (H : am_W n d mid 0 (am_en mid as) [] h (fun r h' => r = rf ∧ h' = hf)) : am_MX l D dA B d mid as h rf hf := by
  intro y cc mL ret hmi
  obtain ⟨hpl, hml⟩ := am_mi_ok hmi hm0
  refine Met.ofW (cc := cc) (maxL := mL) (ret := ret) hpl rfl ?_
  intro p e s m args below meth c s₁ B9 hml9 hv
  obtain ⟨rfl, hO, hB, hKw⟩ := hv
  have hts := atoms_spec (ws := Cond.code y cc mL ret :: am_Tg) B9.pre
  obtain ⟨ls, hen, hl⟩ := am_en_ok (mid := mid) (mL := mL) (as := as) hml (by rw [← hml]; exact hsz)
  rw [hen m]
  exact hS hmi (p := p) (e := e) (below := below) ⟨B9.exec, B9.bytes, hml9, findClass_of_methodNamed B9.named, fun w hw => hts w (List.mem_cons_of_mem _ hw), hKw, fun hi => (name_of_methodNamed B9.named B9.method).1.trans (of_decide_eq_true hi), hB⟩ B9.returns B9.notSynchronized H (Nat.le_refl _) (Nat.le_refl _) _ _ _ _ _ hO va_S.rf hl (Nat.zero_add _) (Nat.zero_add _)
theorem am_W0 {n d pc : Nat} {lc : am_Ls} {st : am_Sk} {h : am_H} {Q : Option am_V → am_H → Prop} (H : am_W n d 0 pc lc st h Q) : False := by
  cases n with
  | zero => exact H
  | succ n =>
    simp only [am_W] at H
    have e : am_at 0 pc = none := rfl
    rw [e] at H
    exact H
/-- what is left to the contract of Arrays.copyOf -/
def am_X9 (l : Launch) (D : va_G) (dA : Nat → ClassId) (B : Nat) : Prop := ∀ (d m : Nat) (as : am_Sk) (h : am_H) (r : Option am_V) (h1 : am_H), am_isX m = true → am_ext d as h (fun r' h' => r' = r ∧ h' = h1) → am_MX l D dA B d m as h r h1
theorem am_sound (hX9 : am_X9 l D dA B) : ∀ n, am_Snd l D dA B n := by
  intro n
  induction n with
  | zero => intro d mid y cc mL ret hmi p e s m args below meth c F hr hlk c0 s0 rf hf pc lc st h H; exact H.elim
  | succ n ih =>
    intro d mid y cc mL ret hmi p e s m args below meth c F hr hlk c0 s0 rf hf pc lc st h H hc0 hs0
    have hCf := am_W_hf H
    simp only [am_W] at H
    cases hq : am_at mid pc with
    | none => rw [hq] at H; exact H.elim
    | some q =>
      rw [hq] at H
      dsimp only at H
      have hok := am_pg_ok hmi (am_lookup_mem hq)
      rcases am_det H with ⟨pc', l', st', h', H1, hc, k⟩ | ⟨r, ⟨rfl, rfl⟩, hiR, -⟩ | ⟨m', as, rest, H1, hsz, k⟩
      · refine am_step F ⟨by show 1 ≤ d + 1; omega, by show 23 ≤ 36 * d + 30; omega⟩ hok (k _ _ _ ?_)
        have hb := am_W_hf H1
        refine ⟨?_, ?_, ih hmi F hr hlk H1 (Nat.le_trans hc0 hc.1) (Nat.le_trans hs0 hc.2)⟩
        · show _ ≤ c0 + (am_C hf - c0); omega
        · show _ ≤ s0 + (am_S hf - s0); omega
      · obtain ⟨hx, hb, hml, hown, hts, hKw, hini, hB⟩ := F
        intro HH locs ls cells slots hO hS hl hc hs
        obtain rfl : cells = am_C h - c0 := by omega
        obtain rfl : slots = am_S h - s0 := by omega
        obtain ⟨i, x, y9, z, u, cI, cJ, ts⟩ := q
        have hQ : ∀ t : State, t.heap = HH → s.WarmedH t.vm → am_Qb D dA B r h args s (.returned (r.map am_v2)) t := fun t ht hW => ⟨rfl, by rw [ht]; exact am_Ok_moved hW.alike hO, hS.F ht⟩
        rcases hiR with ⟨rfl, v, rfl, rfl, hu⟩ | ⟨rfl, v, rfl, rfl⟩ | ⟨rfl, v, rfl, rfl⟩ | ⟨rfl, rfl, rfl⟩
        · simp only [am_okE, Bool.and_eq_true, decide_eq_true_eq] at hok
          obtain ⟨hd, ⟨hu1, hrt⟩ | ⟨hu1, hrt⟩⟩ := hok
          · have hv : v = 0 ∨ v = 1 := by
              rcases hu with q | q
              · rw [show u = 0 from q] at hu1; cases hu1
              · exact q
            refine W.zret (ty := .boolean) hx hb (hr.trans hrt) ?_ hQ hS.2.2 hd
            rcases hv with rfl | rfl <;> rfl
          · exact W.iret hx hb (hr.trans hrt) hQ hS.2.2 hd
        · simp only [am_okE, Bool.and_eq_true, decide_eq_true_eq] at hok
          exact W.lret hx hb (hr.trans hok.2) hQ hS.2.2 hok.1
        · simp only [am_okE, Bool.and_eq_true, decide_eq_true_eq] at hok
          obtain ⟨hd, hrt⟩ := hok
          obtain ⟨rt, hrt1, hrt2⟩ : ∃ rt, ret = some rt ∧ ((∃ n, rt = .object n) ∨ ∃ t, rt = .array t) := by
            unfold am_uk at hrt
            split at hrt
            · cases hrt
            · cases hrt
            · exact ⟨_, rfl, Or.inl ⟨_, rfl⟩⟩
            · exact ⟨_, rfl, Or.inr ⟨_, rfl⟩⟩
            · cases hrt
          refine W.aret hx hb (hr.trans hrt1) hrt2 ?_ hQ hS.2.2 hd
          show va_rf (am_o v) = .null ∨ ∃ a, va_rf (am_o v) = .ref a
          cases v with
          | zero => exact Or.inl rfl
          | succ a => exact Or.inr ⟨a, rfl⟩
        · simp only [am_okE, Bool.and_eq_true, decide_eq_true_eq] at hok
          exact W.vret hx hb (hr.trans hok.2) hQ hS.2.2 hok.1
      · refine am_step F ⟨by show 1 ≤ d + 1; omega, by show 23 ≤ 36 * d + 30; omega⟩ hok (k _ _ _ ?_)
        cases d with
        | zero => exact H1.elim
        | succ d =>
          cases hX : am_isX m' with
          | true =>
            simp only [hX] at H1
            obtain ⟨r1, h1, q1, q2, k2⟩ := am_ext_x H1
            obtain ⟨st', a1, a2⟩ := am_rk_x q1
            have hb := am_W_hf a1
            refine ⟨d, r1, h1, hX9 d m' as h r1 h1 hX (k2 _ _ (Nat.le_refl _) ⟨rfl, rfl⟩), ⟨by show _ ≤ d + 1 + 1; omega, by show _ ≤ 36 * (d + 1) + 30; omega⟩, ⟨q2.1, q2.2, ?_, ?_⟩, a2 _ (ih hmi F hr hlk a1 (Nat.le_trans hc0 q2.1) (Nat.le_trans hs0 q2.2))⟩
            · show _ ≤ c0 + (am_C hf - c0); omega
            · show _ ≤ s0 + (am_S hf - s0); omega
          | false =>
            simp only [hX] at H1
            obtain ⟨r1, h1, q1, q2, q3⟩ := am_W_ex H1
            obtain ⟨st', a1, a2⟩ := am_rk_x q1
            have hb := am_W_hf a1
            have hm0 : ¬ m' = 0 := fun q => by subst q; exact am_W0 q3
            refine ⟨d, r1, h1, am_MX_of ih hsz hm0 q3, ⟨by show _ ≤ d + 1 + 1; omega, by show _ ≤ 36 * (d + 1) + 30; omega⟩, ⟨q2.1, q2.2, ?_, ?_⟩, a2 _ (ih hmi F hr hlk a1 (Nat.le_trans hc0 q2.1) (Nat.le_trans hs0 q2.2))⟩
            · show _ ≤ c0 + (am_C hf - c0); omega
            · show _ ≤ s0 + (am_S hf - s0); omega
end AMT
