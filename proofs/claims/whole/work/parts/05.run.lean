/-! locals -/
theorem am_gset (l : am_Ls) (i j : Nat) (a : Option am_V) : (l.set i a).getD j none = if i = j ∧ j < l.length then a else l.getD j none := by
  simp only [List.getD_eq_getElem?_getD, List.getElem?_set]
  by_cases hij : i = j
  · subst hij
    by_cases hl : i < l.length
    · simp [hl]
    · simp [hl]
  · simp [hij]
theorem am_kl_len (l : am_Ls) (i : Nat) : (am_kl l i).length = l.length := by
  unfold am_kl
  split
  · rfl
  · split
    · simp
    · rfl
theorem am_kl_get {l : am_Ls} {i j : Nat} {w : am_V} : (am_kl l i).getD j none = some w ↔ l.getD j none = some w ∧ ¬ (j + 1 = i ∧ am_cat w = 2) := by
  unfold am_kl
  split
  · constructor
    · exact fun h => ⟨h, fun q => absurd q.1 (Nat.succ_ne_zero j)⟩
    · exact fun h => h.1
  · rename_i k
    split
    · rename_i v e
      rw [am_gset]
      by_cases hk : k = j
      · subst hk
        have hlt : k < l.length := by
          rcases Nat.lt_or_ge k l.length with q | q
          · exact q
          · rw [List.getD_eq_getElem?_getD, List.getElem?_eq_none q] at e
            cases e
        rw [if_pos ⟨rfl, hlt⟩, e]
        constructor
        · intro h; cases h
        · rintro ⟨h, n⟩
          cases h
          exact absurd ⟨rfl, rfl⟩ n
      · rw [if_neg (fun q => hk q.1)]
        constructor
        · exact fun h => ⟨h, fun q => hk (by omega)⟩
        · exact fun h => h.1
    · rename_i hno
      constructor
      · intro h
        refine ⟨h, fun q => ?_⟩
        have hk : j = k := by omega
        subst hk
        rcases w with a | a | a
        · exact absurd q.2 (show ¬ (1 = 2) by decide)
        · exact hno a h
        · exact absurd q.2 (show ¬ (1 = 2) by decide)
      · exact fun h => h.1
theorem am_s1_get {l : am_Ls} {i j : Nat} {v w : am_V} : (am_s1 l i v).getD j none = some w ↔ (j = i ∧ i < l.length ∧ w = v) ∨ (¬ (j = i ∧ i < l.length) ∧ l.getD j none = some w ∧ ¬ (j + 1 = i ∧ am_cat w = 2)) := by
  unfold am_s1
  rw [am_gset, am_kl_len]
  by_cases h : i = j ∧ j < l.length
  · obtain ⟨rfl, h⟩ := h
    rw [if_pos ⟨rfl, h⟩]
    constructor
    · intro q; cases q; exact Or.inl ⟨rfl, h, rfl⟩
    · rintro (⟨-, -, rfl⟩ | ⟨n, -⟩)
      · rfl
      · exact absurd ⟨rfl, h⟩ n
  · rw [if_neg h, am_kl_get]
    constructor
    · exact fun q => Or.inr ⟨fun z => h ⟨z.1.symm, by rw [z.1]; exact z.2⟩, q⟩
    · rintro (⟨rfl, h2, -⟩ | ⟨-, q⟩)
      · exact absurd ⟨rfl, h2⟩ h
      · exact q
theorem am_s2_get {l : am_Ls} {i j : Nat} {v w : am_V} (hi : i + 1 < l.length) : (am_s2 l i v).getD j none = some w ↔ (j = i ∧ w = v) ∨ (¬ j = i ∧ ¬ j = i + 1 ∧ l.getD j none = some w ∧ ¬ (j + 1 = i ∧ am_cat w = 2)) := by
  unfold am_s2
  rw [am_gset, List.length_set, am_kl_len]
  by_cases h1 : i + 1 = j
  · subst h1
    rw [if_pos ⟨rfl, hi⟩]
    constructor
    · intro q; cases q
    · rintro (⟨q, -⟩ | ⟨-, q, -⟩)
      · omega
      · exact absurd rfl q
  · rw [if_neg (fun q => h1 q.1), am_gset, am_kl_len]
    by_cases h2 : i = j
    · subst h2
      rw [if_pos ⟨rfl, by omega⟩]
      constructor
      · intro q; cases q; exact Or.inl ⟨rfl, rfl⟩
      · rintro (⟨-, rfl⟩ | ⟨n, -⟩)
        · rfl
        · exact absurd rfl n
    · rw [if_neg (fun q => h2 q.1), am_kl_get]
      constructor
      · exact fun q => Or.inr ⟨fun z => h2 z.symm, fun z => h1 z.symm, q⟩
      · rintro (⟨q, -⟩ | ⟨-, -, q⟩)
        · exact absurd q.symm h2
        · exact q
theorem am_s1_len (l : am_Ls) (i : Nat) (v : am_V) : (am_s1 l i v).length = l.length := by simp [am_s1, am_kl_len]
theorem am_s2_len (l : am_Ls) (i : Nat) (v : am_V) : (am_s2 l i v).length = l.length := by simp [am_s2, am_kl_len]
/-- l' knows what l knows -/
def am_le (l l' : am_Ls) : Prop := l.length = l'.length ∧ ∀ (i : Nat) (v : am_V), l.getD i none = some v → l'.getD i none = some v
theorem am_le_s1 {l l' : am_Ls} {i : Nat} {v : am_V} (h : am_le l l') : am_le (am_s1 l i v) (am_s1 l' i v) := by
  refine ⟨by rw [am_s1_len, am_s1_len]; exact h.1, fun j w hw => ?_⟩
  rw [am_s1_get] at hw ⊢
  rw [← h.1]
  rcases hw with q | ⟨q1, q2, q3⟩
  · exact Or.inl q
  · exact Or.inr ⟨q1, h.2 j w q2, q3⟩
theorem am_le_s2 {l l' : am_Ls} {i : Nat} {v : am_V} (h : am_le l l') : am_le (am_s2 l i v) (am_s2 l' i v) := by
  refine ⟨by rw [am_s2_len, am_s2_len]; exact h.1, fun j w hw => ?_⟩
  by_cases hi : i + 1 < l.length
  · rw [am_s2_get hi] at hw
    rw [am_s2_get (by rw [← h.1]; exact hi)]
    rcases hw with q | ⟨q1, q2, q3, q4⟩
    · exact Or.inl q
    · exact Or.inr ⟨q1, q2, h.2 j w q3, q4⟩
  · have hlen := h.1
    have key : ∀ m : am_Ls, ¬ i + 1 < m.length → am_s2 m i v = am_s1 m i v := by
      intro m hm
      unfold am_s2 am_s1
      rw [List.set_eq_of_length_le]
      rw [List.length_set, am_kl_len]
      omega
    rw [key l hi] at hw
    rw [key l' (by omega)]
    exact (am_le_s1 (i := i) (v := v) h).2 j w hw
/-- by places: nothing, or the same -/
def am_leb : am_Ls → am_Ls → Prop
  | [], [] => True
  | x :: xs, y :: ys => (x = none ∨ x = y) ∧ am_leb xs ys
  | _, _ => False
theorem am_le_of : ∀ {l l' : am_Ls}, am_leb l l' → am_le l l'
  | [], [], _ => ⟨rfl, fun _ _ h => h⟩
  | [], _ :: _, h => h.elim
  | _ :: _, [], h => h.elim
  | x :: xs, y :: ys, h => by
    have ih := am_le_of (l := xs) (l' := ys) h.2
    refine ⟨by simp [ih.1], fun i v hv => ?_⟩
    cases i with
    | zero =>
      simp only [List.getD_cons_zero] at hv ⊢
      rcases h.1 with q | q
      · rw [q] at hv; cases hv
      · rw [← q]; exact hv
    | succ i =>
      simp only [List.getD_cons_succ] at hv ⊢
      exact ih.2 i v hv
theorem am_p1I_x {st : am_Sk} {f : Int32 → am_Sk → Prop} (H : am_p1I st f) : ∃ a s, st = .inl a :: s ∧ f a s := by
  unfold am_p1I at H
  split at H
  · exact ⟨_, _, rfl, H⟩
  · exact H.elim
theorem am_p2I_x {st : am_Sk} {f : Int32 → Int32 → am_Sk → Prop} (H : am_p2I st f) : ∃ a b s, st = .inl b :: .inl a :: s ∧ f a b s := by
  unfold am_p2I at H
  split at H
  · exact ⟨_, _, _, rfl, H⟩
  · exact H.elim
theorem am_p1J_x {st : am_Sk} {f : Int64 → am_Sk → Prop} (H : am_p1J st f) : ∃ a s, st = .inr (.inl a) :: s ∧ f a s := by
  unfold am_p1J at H
  split at H
  · exact ⟨_, _, rfl, H⟩
  · exact H.elim
theorem am_p2J_x {st : am_Sk} {f : Int64 → Int64 → am_Sk → Prop} (H : am_p2J st f) : ∃ a b s, st = .inr (.inl b) :: .inr (.inl a) :: s ∧ f a b s := by
  unfold am_p2J at H
  split at H
  · exact ⟨_, _, _, rfl, H⟩
  · exact H.elim
theorem am_pJI_x {st : am_Sk} {f : Int64 → Int32 → am_Sk → Prop} (H : am_pJI st f) : ∃ a b s, st = .inl b :: .inr (.inl a) :: s ∧ f a b s := by
  unfold am_pJI at H
  split at H
  · exact ⟨_, _, _, rfl, H⟩
  · exact H.elim
theorem am_p1R_x {st : am_Sk} {f : Nat → am_Sk → Prop} (H : am_p1R st f) : ∃ a s, st = .inr (.inr a) :: s ∧ f a s := by
  unfold am_p1R at H
  split at H
  · exact ⟨_, _, rfl, H⟩
  · exact H.elim
theorem am_p2R_x {st : am_Sk} {f : Nat → Nat → am_Sk → Prop} (H : am_p2R st f) : ∃ a b s, st = .inr (.inr b) :: .inr (.inr a) :: s ∧ f a b s := by
  unfold am_p2R at H
  split at H
  · exact ⟨_, _, _, rfl, H⟩
  · exact H.elim
theorem am_pRI_x {st : am_Sk} {f : Nat → Int32 → am_Sk → Prop} (H : am_pRI st f) : ∃ a b s, st = .inl b :: .inr (.inr a) :: s ∧ f a b s := by
  unfold am_pRI at H
  split at H
  · exact ⟨_, _, _, rfl, H⟩
  · exact H.elim
theorem am_pRII_x {st : am_Sk} {f : Nat → Int32 → Int32 → am_Sk → Prop} (H : am_pRII st f) : ∃ a b v s, st = .inl v :: .inl b :: .inr (.inr a) :: s ∧ f a b v s := by
  unfold am_pRII at H
  split at H
  · exact ⟨_, _, _, _, rfl, H⟩
  · exact H.elim
theorem am_pRIJ_x {st : am_Sk} {f : Nat → Int32 → Int64 → am_Sk → Prop} (H : am_pRIJ st f) : ∃ a b v s, st = .inr (.inl v) :: .inl b :: .inr (.inr a) :: s ∧ f a b v s := by
  unfold am_pRIJ at H
  split at H
  · exact ⟨_, _, _, _, rfl, H⟩
  · exact H.elim
theorem am_pRIR_x {st : am_Sk} {f : Nat → Int32 → Nat → am_Sk → Prop} (H : am_pRIR st f) : ∃ a b v s, st = .inr (.inr v) :: .inl b :: .inr (.inr a) :: s ∧ f a b v s := by
  unfold am_pRIR at H
  split at H
  · exact ⟨_, _, _, _, rfl, H⟩
  · exact H.elim
theorem am_w1_x {st : am_Sk} {f : am_V → am_Sk → Prop} (H : am_w1 st f) : ∃ a s, st = a :: s ∧ am_cat a = 1 ∧ f a s := by
  unfold am_w1 at H
  split at H
  · exact ⟨_, _, rfl, H.1, H.2⟩
  · exact H.elim
theorem am_w2_x {st : am_Sk} {f : am_V → am_V → am_Sk → Prop} (H : am_w2 st f) : ∃ a b s, st = b :: a :: s ∧ am_cat b = 1 ∧ am_cat a = 1 ∧ f a b s := by
  unfold am_w2 at H
  split at H
  · exact ⟨_, _, _, rfl, H.1, H.2.1, H.2.2⟩
  · exact H.elim
theorem am_lI_x {l : am_Ls} {x : Nat} {f : Int32 → Prop} (H : am_lI l x f) : ∃ v, l.getD x none = some (.inl v) ∧ f v := by
  unfold am_lI at H
  split at H
  · rename_i v e
    exact ⟨v, e, H⟩
  · exact H.elim
theorem am_lI_i {l : am_Ls} {x : Nat} {f : Int32 → Prop} {v : Int32} (e : l.getD x none = some (.inl v)) (H : f v) : am_lI l x f := by
  unfold am_lI
  rw [e]
  exact H
theorem am_lJ_x {l : am_Ls} {x : Nat} {f : Int64 → Prop} (H : am_lJ l x f) : ∃ v, l.getD x none = some (.inr (.inl v)) ∧ f v := by
  unfold am_lJ at H
  split at H
  · rename_i v e
    exact ⟨v, e, H⟩
  · exact H.elim
theorem am_lJ_i {l : am_Ls} {x : Nat} {f : Int64 → Prop} {v : Int64} (e : l.getD x none = some (.inr (.inl v))) (H : f v) : am_lJ l x f := by
  unfold am_lJ
  rw [e]
  exact H
theorem am_lR_x {l : am_Ls} {x : Nat} {f : Nat → Prop} (H : am_lR l x f) : ∃ v, l.getD x none = some (.inr (.inr v)) ∧ f v := by
  unfold am_lR at H
  split at H
  · rename_i v e
    exact ⟨v, e, H⟩
  · exact H.elim
theorem am_lR_i {l : am_Ls} {x : Nat} {f : Nat → Prop} {v : Nat} (e : l.getD x none = some (.inr (.inr v))) (H : f v) : am_lR l x f := by
  unfold am_lR
  rw [e]
  exact H
theorem am_pRv_x {u : Nat} {st : am_Sk} {h : am_H} {f : Nat} {k : Nat → am_Sk → am_H → Prop} (H : am_pRv u st h f k) : (u = 0 ∧ ∃ a v s, st = .inl v :: .inr (.inr a) :: s ∧ k a s (am_sI h f a v)) ∨ (u = 1 ∧ ∃ a v s, st = .inr (.inl v) :: .inr (.inr a) :: s ∧ k a s (am_sJ h f a v)) ∨ (u = 2 ∧ ∃ a v s, st = .inr (.inr v) :: .inr (.inr a) :: s ∧ k a s (am_sR h f a v)) := by
  unfold am_pRv at H
  split at H
  · exact Or.inl ⟨rfl, _, _, _, rfl, H⟩
  · exact Or.inr (Or.inl ⟨rfl, _, _, _, rfl, H⟩)
  · exact Or.inr (Or.inr ⟨rfl, _, _, _, rfl, H⟩)
  · exact H.elim
theorem am_pn_x : ∀ {n : Nat} {st acc : am_Sk} {f : am_Sk → am_Sk → Prop}, am_pn n st acc f → ∃ as rest, as.length = n ∧ st = as.reverse ++ rest ∧ f (as ++ acc) rest
  | 0, st, acc, f, H => ⟨[], st, rfl, rfl, H⟩
  | n + 1, [], acc, f, H => H.elim
  | n + 1, v :: st, acc, f, H => by
    obtain ⟨as, rest, h1, h2, h3⟩ := am_pn_x (n := n) (st := st) (acc := v :: acc) (f := f) H
    exact ⟨as ++ [v], rest, by simp [h1], by simp [h2], by simpa using h3⟩
theorem am_pn_i : ∀ {n : Nat} {as acc rest : am_Sk} {f : am_Sk → am_Sk → Prop}, as.length = n → f (as ++ acc) rest → am_pn n (as.reverse ++ rest) acc f
  | 0, [], acc, rest, f, _, H => H
  | n + 1, as, acc, rest, f, hn, H => by
    have hne : as ≠ [] := by intro q; rw [q] at hn; cases hn
    have e : as = as.dropLast ++ [as.getLast hne] := (List.dropLast_concat_getLast hne).symm
    have hl : as.dropLast.length = n := by simp [hn]
    rw [e]
    rw [List.reverse_append]
    show am_pn n (as.dropLast.reverse ++ rest) (as.getLast hne :: acc) f
    refine am_pn_i hl ?_
    have e2 : as.dropLast ++ as.getLast hne :: acc = as ++ acc := by
      conv => rhs; rw [e]
      simp
    rw [e2]
    exact H
theorem am_mth_x {z : Nat} {st : am_Sk} {k : am_Sk → Prop} (H : am_mth z st k) : ∃ st', k st' ∧ ∀ k' : am_Sk → Prop, k' st' → am_mth z st k' := by
  unfold am_mth at H ⊢
  split at H
  · obtain ⟨a, b, s, hst, H2⟩ := am_p2I_x H
    subst hst
    split at H2
    · rename_i hs
      exact ⟨_, H2, fun k' h => by show (if _ then _ else _); rw [if_pos hs]; exact h⟩
    · exact H2.elim
  · obtain ⟨a, b, s, hst, H2⟩ := am_p2I_x H
    subst hst
    split at H2
    · rename_i hs
      exact ⟨_, H2, fun k' h => by show (if _ then _ else _); rw [if_pos hs]; exact h⟩
    · exact H2.elim
  · obtain ⟨a, b, s, hst, H2⟩ := am_p2J_x H
    subst hst
    split at H2
    · rename_i hs
      exact ⟨_, H2, fun k' h => by show (if _ then _ else _); rw [if_pos hs]; exact h⟩
    · exact H2.elim
  · obtain ⟨a, b, s, hst, H2⟩ := am_p2J_x H
    subst hst
    split at H2
    · rename_i hs
      exact ⟨_, H2, fun k' h => by show (if _ then _ else _); rw [if_pos hs]; exact h⟩
    · exact H2.elim
  · exact H.elim
theorem am_nh_i {e : am_H} {k : am_H → Prop} (h : k e) : am_nh e k := fun _ q => q ▸ h
theorem am_br_x {c a b : Prop} (H : am_br c a b) : (c ∧ a) ∨ (¬ c ∧ b) := by
  by_cases h : c
  · exact Or.inl ⟨h, H.1 h⟩
  · exact Or.inr ⟨h, H.2 h⟩
theorem am_br_t {c a b : Prop} (h : c) (H : a) : am_br c a b := ⟨fun _ => H, fun q => absurd h q⟩
theorem am_br_f {c a b : Prop} (h : ¬ c) (H : b) : am_br c a b := ⟨fun q => absurd q h, fun _ => H⟩
theorem am_tsw_x {v : Int32} : ∀ {ts : List (Int32 × Nat)} {k : Nat → Prop} {d : Prop}, am_tsw v ts k d → (∃ t, (v, t) ∈ ts ∧ k t ∧ ∀ (k' : Nat → Prop) (d' : Prop), k' t → am_tsw v ts k' d') ∨ ((∀ q ∈ ts, ¬ v = q.1) ∧ d ∧ ∀ (k' : Nat → Prop) (d' : Prop), d' → am_tsw v ts k' d')
  | [], k, d, H => Or.inr ⟨fun _ h => absurd h List.not_mem_nil, H, fun _ _ h => h⟩
  | (x, t) :: ts, k, d, H => by
    by_cases e : v = x
    · subst e
      exact Or.inl ⟨t, List.mem_cons_self, H.1 rfl, fun k' d' hk => ⟨fun _ => hk, fun q => absurd rfl q⟩⟩
    · rcases am_tsw_x (H.2 e) with ⟨t', h1, h2, h3⟩ | ⟨h1, h2, h3⟩
      · exact Or.inl ⟨t', List.mem_cons_of_mem _ h1, h2, fun k' d' hk => ⟨fun q => absurd q e, fun _ => h3 k' d' hk⟩⟩
      · exact Or.inr ⟨fun q hq => by
          rcases List.mem_cons.mp hq with rfl | hq
          · exact e
          · exact h1 q hq, h2, fun k' d' hk => ⟨fun q => absurd q e, fun _ => h3 k' d' hk⟩⟩
/-- the return r of entry q on the stack st -/
def am_iR (q : am_E) (st : am_Sk) (r : Option am_V) : Prop := (q.1 = .ireturn ∧ ∃ v, st = [.inl v] ∧ r = some (.inl v) ∧ (q.2.2.2.2.1 = 0 ∨ v = 0 ∨ v = 1)) ∨ (q.1 = .lreturn ∧ ∃ v, st = [.inr (.inl v)] ∧ r = some (.inr (.inl v))) ∨ (q.1 = .areturn ∧ ∃ v, st = [.inr (.inr v)] ∧ r = some (.inr (.inr v))) ∨ (q.1 = .return_ ∧ st = [] ∧ r = none)
set_option maxHeartbeats 4000000 in
theorem am_det {pc : Nat} {q : am_E} {l : am_Ls} {st : am_Sk} {h : am_H} {K : Nat → am_Ls → am_Sk → am_H → Prop} {Rt : Option am_V → Prop} {Cl : Nat → am_Sk → am_Sk → Prop} (H : am_cps pc q l st h K Rt Cl) :
    (∃ pc' l' st' h', K pc' l' st' h' ∧ (am_C h ≤ am_C h' ∧ am_S h ≤ am_S h') ∧ ∀ (K' : Nat → am_Ls → am_Sk → am_H → Prop) (Rt' : Option am_V → Prop) (Cl' : Nat → am_Sk → am_Sk → Prop), K' pc' l' st' h' → am_cps pc q l st h K' Rt' Cl') ∨
    (∃ r, Rt r ∧ am_iR q st r ∧ ∀ (K' : Nat → am_Ls → am_Sk → am_H → Prop) (Rt' : Option am_V → Prop) (Cl' : Nat → am_Sk → am_Sk → Prop), Rt' r → am_cps pc q l st h K' Rt' Cl') ∨
    (∃ m as rest, Cl m as rest ∧ (as.map am_cat).sum ≤ am_ml m ∧ ∀ (K' : Nat → am_Ls → am_Sk → am_H → Prop) (Rt' : Option am_V → Prop) (Cl' : Nat → am_Sk → am_Sk → Prop), Cl' m as rest → am_cps pc q l st h K' Rt' Cl') := by
  obtain ⟨i, x, y, z, u, cI, cJ, ts⟩ := q
  cases i <;> simp only [am_cps] at H ⊢
  case getstatic _ =>
    exact Or.inl ⟨_, _, _, _, H, ⟨Nat.le_refl _, Nat.le_refl _⟩, fun K' _ _ h => h⟩
  case aconst_null =>
    exact Or.inl ⟨_, _, _, _, H, ⟨Nat.le_refl _, Nat.le_refl _⟩, fun K' _ _ h => h⟩
  case iconst _ =>
    exact Or.inl ⟨_, _, _, _, H, ⟨Nat.le_refl _, Nat.le_refl _⟩, fun K' _ _ h => h⟩
  case bipush _ =>
    exact Or.inl ⟨_, _, _, _, H, ⟨Nat.le_refl _, Nat.le_refl _⟩, fun K' _ _ h => h⟩
  case sipush _ =>
    exact Or.inl ⟨_, _, _, _, H, ⟨Nat.le_refl _, Nat.le_refl _⟩, fun K' _ _ h => h⟩
  case ldc _ =>
    exact Or.inl ⟨_, _, _, _, H, ⟨Nat.le_refl _, Nat.le_refl _⟩, fun K' _ _ h => h⟩
  case lconst _ =>
    exact Or.inl ⟨_, _, _, _, H, ⟨Nat.le_refl _, Nat.le_refl _⟩, fun K' _ _ h => h⟩
  case ldc2_w _ =>
    exact Or.inl ⟨_, _, _, _, H, ⟨Nat.le_refl _, Nat.le_refl _⟩, fun K' _ _ h => h⟩
  case goto _ =>
    exact Or.inl ⟨_, _, _, _, H, ⟨Nat.le_refl _, Nat.le_refl _⟩, fun K' _ _ h => h⟩
  case new _ =>
    have H := H _ rfl
    exact Or.inl ⟨_, _, _, _, H, ⟨Nat.le_succ _, Nat.le_add_right _ _⟩, fun K' _ _ h => am_nh_i h⟩
  case iload_n _ =>
    obtain ⟨v, e, H⟩ := am_lI_x H
    exact Or.inl ⟨_, _, _, _, H, ⟨Nat.le_refl _, Nat.le_refl _⟩, fun K' _ _ h => am_lI_i e h⟩
  case iload _ =>
    obtain ⟨v, e, H⟩ := am_lI_x H
    exact Or.inl ⟨_, _, _, _, H, ⟨Nat.le_refl _, Nat.le_refl _⟩, fun K' _ _ h => am_lI_i e h⟩
  case lload_n _ =>
    obtain ⟨v, e, H⟩ := am_lJ_x H
    exact Or.inl ⟨_, _, _, _, H, ⟨Nat.le_refl _, Nat.le_refl _⟩, fun K' _ _ h => am_lJ_i e h⟩
  case lload _ =>
    obtain ⟨v, e, H⟩ := am_lJ_x H
    exact Or.inl ⟨_, _, _, _, H, ⟨Nat.le_refl _, Nat.le_refl _⟩, fun K' _ _ h => am_lJ_i e h⟩
  case aload_n _ =>
    obtain ⟨v, e, H⟩ := am_lR_x H
    exact Or.inl ⟨_, _, _, _, H, ⟨Nat.le_refl _, Nat.le_refl _⟩, fun K' _ _ h => am_lR_i e h⟩
  case aload _ =>
    obtain ⟨v, e, H⟩ := am_lR_x H
    exact Or.inl ⟨_, _, _, _, H, ⟨Nat.le_refl _, Nat.le_refl _⟩, fun K' _ _ h => am_lR_i e h⟩
  case iinc _ _ =>
    obtain ⟨v, e, H⟩ := am_lI_x H
    exact Or.inl ⟨_, _, _, _, H, ⟨Nat.le_refl _, Nat.le_refl _⟩, fun K' _ _ h => am_lI_i e h⟩
  case istore_n _ =>
    obtain ⟨a, s, rfl, H⟩ := am_p1I_x H
    exact Or.inl ⟨_, _, _, _, H, ⟨Nat.le_refl _, Nat.le_refl _⟩, fun K' _ _ h => h⟩
  case istore _ =>
    obtain ⟨a, s, rfl, H⟩ := am_p1I_x H
    exact Or.inl ⟨_, _, _, _, H, ⟨Nat.le_refl _, Nat.le_refl _⟩, fun K' _ _ h => h⟩
  case i2l =>
    obtain ⟨a, s, rfl, H⟩ := am_p1I_x H
    exact Or.inl ⟨_, _, _, _, H, ⟨Nat.le_refl _, Nat.le_refl _⟩, fun K' _ _ h => h⟩
  case lstore_n _ =>
    obtain ⟨a, s, rfl, H⟩ := am_p1J_x H
    exact Or.inl ⟨_, _, _, _, H, ⟨Nat.le_refl _, Nat.le_refl _⟩, fun K' _ _ h => h⟩
  case lstore _ =>
    obtain ⟨a, s, rfl, H⟩ := am_p1J_x H
    exact Or.inl ⟨_, _, _, _, H, ⟨Nat.le_refl _, Nat.le_refl _⟩, fun K' _ _ h => h⟩
  case lneg =>
    obtain ⟨a, s, rfl, H⟩ := am_p1J_x H
    exact Or.inl ⟨_, _, _, _, H, ⟨Nat.le_refl _, Nat.le_refl _⟩, fun K' _ _ h => h⟩
  case l2i =>
    obtain ⟨a, s, rfl, H⟩ := am_p1J_x H
    exact Or.inl ⟨_, _, _, _, H, ⟨Nat.le_refl _, Nat.le_refl _⟩, fun K' _ _ h => h⟩
  case astore_n _ =>
    obtain ⟨a, s, rfl, H⟩ := am_p1R_x H
    exact Or.inl ⟨_, _, _, _, H, ⟨Nat.le_refl _, Nat.le_refl _⟩, fun K' _ _ h => h⟩
  case astore _ =>
    obtain ⟨a, s, rfl, H⟩ := am_p1R_x H
    exact Or.inl ⟨_, _, _, _, H, ⟨Nat.le_refl _, Nat.le_refl _⟩, fun K' _ _ h => h⟩
  case iadd =>
    obtain ⟨a, b, s, rfl, H⟩ := am_p2I_x H
    exact Or.inl ⟨_, _, _, _, H, ⟨Nat.le_refl _, Nat.le_refl _⟩, fun K' _ _ h => h⟩
  case isub =>
    obtain ⟨a, b, s, rfl, H⟩ := am_p2I_x H
    exact Or.inl ⟨_, _, _, _, H, ⟨Nat.le_refl _, Nat.le_refl _⟩, fun K' _ _ h => h⟩
  case imul =>
    obtain ⟨a, b, s, rfl, H⟩ := am_p2I_x H
    exact Or.inl ⟨_, _, _, _, H, ⟨Nat.le_refl _, Nat.le_refl _⟩, fun K' _ _ h => h⟩
  case iand =>
    obtain ⟨a, b, s, rfl, H⟩ := am_p2I_x H
    exact Or.inl ⟨_, _, _, _, H, ⟨Nat.le_refl _, Nat.le_refl _⟩, fun K' _ _ h => h⟩
  case ishr =>
    obtain ⟨a, b, s, rfl, H⟩ := am_p2I_x H
    exact Or.inl ⟨_, _, _, _, H, ⟨Nat.le_refl _, Nat.le_refl _⟩, fun K' _ _ h => h⟩
  case idiv =>
    obtain ⟨a, b, s, rfl, g, H⟩ := am_p2I_x H
    exact Or.inl ⟨_, _, _, _, H, ⟨Nat.le_refl _, Nat.le_refl _⟩, fun K' _ _ h => ⟨g, h⟩⟩
  case irem =>
    obtain ⟨a, b, s, rfl, g, H⟩ := am_p2I_x H
    exact Or.inl ⟨_, _, _, _, H, ⟨Nat.le_refl _, Nat.le_refl _⟩, fun K' _ _ h => ⟨g, h⟩⟩
  case ladd =>
    obtain ⟨a, b, s, rfl, H⟩ := am_p2J_x H
    exact Or.inl ⟨_, _, _, _, H, ⟨Nat.le_refl _, Nat.le_refl _⟩, fun K' _ _ h => h⟩
  case lsub =>
    obtain ⟨a, b, s, rfl, H⟩ := am_p2J_x H
    exact Or.inl ⟨_, _, _, _, H, ⟨Nat.le_refl _, Nat.le_refl _⟩, fun K' _ _ h => h⟩
  case lmul =>
    obtain ⟨a, b, s, rfl, H⟩ := am_p2J_x H
    exact Or.inl ⟨_, _, _, _, H, ⟨Nat.le_refl _, Nat.le_refl _⟩, fun K' _ _ h => h⟩
  case land =>
    obtain ⟨a, b, s, rfl, H⟩ := am_p2J_x H
    exact Or.inl ⟨_, _, _, _, H, ⟨Nat.le_refl _, Nat.le_refl _⟩, fun K' _ _ h => h⟩
  case lor =>
    obtain ⟨a, b, s, rfl, H⟩ := am_p2J_x H
    exact Or.inl ⟨_, _, _, _, H, ⟨Nat.le_refl _, Nat.le_refl _⟩, fun K' _ _ h => h⟩
  case lcmp =>
    obtain ⟨a, b, s, rfl, H⟩ := am_p2J_x H
    exact Or.inl ⟨_, _, _, _, H, ⟨Nat.le_refl _, Nat.le_refl _⟩, fun K' _ _ h => h⟩
  case ldiv =>
    obtain ⟨a, b, s, rfl, g, H⟩ := am_p2J_x H
    exact Or.inl ⟨_, _, _, _, H, ⟨Nat.le_refl _, Nat.le_refl _⟩, fun K' _ _ h => ⟨g, h⟩⟩
  case lrem =>
    obtain ⟨a, b, s, rfl, g, H⟩ := am_p2J_x H
    exact Or.inl ⟨_, _, _, _, H, ⟨Nat.le_refl _, Nat.le_refl _⟩, fun K' _ _ h => ⟨g, h⟩⟩
  case lshl =>
    obtain ⟨a, b, s, rfl, H⟩ := am_pJI_x H
    exact Or.inl ⟨_, _, _, _, H, ⟨Nat.le_refl _, Nat.le_refl _⟩, fun K' _ _ h => h⟩
  case dup =>
    obtain ⟨a, s, rfl, g, H⟩ := am_w1_x H
    exact Or.inl ⟨_, _, _, _, H, ⟨Nat.le_refl _, Nat.le_refl _⟩, fun K' _ _ h => ⟨g, h⟩⟩
  case pop =>
    obtain ⟨a, s, rfl, g, H⟩ := am_w1_x H
    exact Or.inl ⟨_, _, _, _, H, ⟨Nat.le_refl _, Nat.le_refl _⟩, fun K' _ _ h => ⟨g, h⟩⟩
  case dup_x1 =>
    obtain ⟨a, b, s, rfl, g1, g2, H⟩ := am_w2_x H
    exact Or.inl ⟨_, _, _, _, H, ⟨Nat.le_refl _, Nat.le_refl _⟩, fun K' _ _ h => ⟨g1, g2, h⟩⟩
  case dup2 =>
    split at H
    · exact Or.inl ⟨_, _, _, _, H, ⟨Nat.le_refl _, Nat.le_refl _⟩, fun K' _ _ h => h⟩
    · rename_i hno
      obtain ⟨a, b, s, rfl, g1, g2, H⟩ := am_w2_x H
      exact Or.inl ⟨_, _, _, _, H, ⟨Nat.le_refl _, Nat.le_refl _⟩, fun K' _ _ h => ⟨g1, g2, h⟩⟩
  case ifCond c off =>
    obtain ⟨a, s, rfl, H⟩ := am_p1I_x H
    cases c <;> (rcases am_br_x H with ⟨g, H⟩ | ⟨g, H⟩ <;> first | (exact Or.inl ⟨_, _, _, _, H, ⟨Nat.le_refl _, Nat.le_refl _⟩, fun K' _ _ h => am_br_t g h⟩) | (exact Or.inl ⟨_, _, _, _, H, ⟨Nat.le_refl _, Nat.le_refl _⟩, fun K' _ _ h => am_br_f g h⟩))
  case if_icmp c off =>
    obtain ⟨a, b, s, rfl, H⟩ := am_p2I_x H
    cases c <;> (rcases am_br_x H with ⟨g, H⟩ | ⟨g, H⟩ <;> first | (exact Or.inl ⟨_, _, _, _, H, ⟨Nat.le_refl _, Nat.le_refl _⟩, fun K' _ _ h => am_br_t g h⟩) | (exact Or.inl ⟨_, _, _, _, H, ⟨Nat.le_refl _, Nat.le_refl _⟩, fun K' _ _ h => am_br_f g h⟩))
  case if_acmp c off =>
    obtain ⟨a, b, s, rfl, H⟩ := am_p2R_x H
    cases c <;> (rcases am_br_x H with ⟨g, H⟩ | ⟨g, H⟩ <;> first | (exact Or.inl ⟨_, _, _, _, H, ⟨Nat.le_refl _, Nat.le_refl _⟩, fun K' _ _ h => am_br_t g h⟩) | (exact Or.inl ⟨_, _, _, _, H, ⟨Nat.le_refl _, Nat.le_refl _⟩, fun K' _ _ h => am_br_f g h⟩))
  case ifnull _ =>
    obtain ⟨a, s, rfl, H⟩ := am_p1R_x H
    rcases am_br_x H with ⟨g, H⟩ | ⟨g, H⟩
    · exact Or.inl ⟨_, _, _, _, H, ⟨Nat.le_refl _, Nat.le_refl _⟩, fun K' _ _ h => am_br_t g h⟩
    · exact Or.inl ⟨_, _, _, _, H, ⟨Nat.le_refl _, Nat.le_refl _⟩, fun K' _ _ h => am_br_f g h⟩
  case ifnonnull _ =>
    obtain ⟨a, s, rfl, H⟩ := am_p1R_x H
    rcases am_br_x H with ⟨g, H⟩ | ⟨g, H⟩
    · exact Or.inl ⟨_, _, _, _, H, ⟨Nat.le_refl _, Nat.le_refl _⟩, fun K' _ _ h => am_br_t g h⟩
    · exact Or.inl ⟨_, _, _, _, H, ⟨Nat.le_refl _, Nat.le_refl _⟩, fun K' _ _ h => am_br_f g h⟩
  case tableswitch _ _ _ _ =>
    obtain ⟨a, s, rfl, H⟩ := am_p1I_x H
    rcases am_tsw_x H with ⟨t, -, H, k⟩ | ⟨-, H, k⟩
    · exact Or.inl ⟨_, _, _, _, H, ⟨Nat.le_refl _, Nat.le_refl _⟩, fun K' _ _ h => k _ _ h⟩
    · exact Or.inl ⟨_, _, _, _, H, ⟨Nat.le_refl _, Nat.le_refl _⟩, fun K' _ _ h => k _ _ h⟩
  case getfield _ =>
    obtain ⟨a, s, rfl, g, H⟩ := am_p1R_x H
    exact Or.inl ⟨_, _, _, _, H, ⟨Nat.le_refl _, Nat.le_refl _⟩, fun K' _ _ h => ⟨g, h⟩⟩
  case putfield _ =>
    rcases am_pRv_x H with ⟨rfl, a, v, s, rfl, g, H9⟩ | ⟨rfl, a, v, s, rfl, g, H9⟩ | ⟨rfl, a, v, s, rfl, g, H9⟩
    · have H := H9 _ rfl
      exact Or.inl ⟨_, _, _, _, H, ⟨Nat.le_refl _, Nat.le_refl _⟩, fun K' _ _ h => ⟨g, am_nh_i h⟩⟩
    · have H := H9 _ rfl
      exact Or.inl ⟨_, _, _, _, H, ⟨Nat.le_refl _, Nat.le_refl _⟩, fun K' _ _ h => ⟨g, am_nh_i h⟩⟩
    · have H := H9 _ rfl
      exact Or.inl ⟨_, _, _, _, H, ⟨Nat.le_refl _, Nat.le_refl _⟩, fun K' _ _ h => ⟨g, am_nh_i h⟩⟩
  case iaload =>
    obtain ⟨a, b, s, rfl, g1, g2, H⟩ := am_pRI_x H
    exact Or.inl ⟨_, _, _, _, H, ⟨Nat.le_refl _, Nat.le_refl _⟩, fun K' _ _ h => ⟨g1, g2, h⟩⟩
  case laload =>
    obtain ⟨a, b, s, rfl, g1, g2, H⟩ := am_pRI_x H
    exact Or.inl ⟨_, _, _, _, H, ⟨Nat.le_refl _, Nat.le_refl _⟩, fun K' _ _ h => ⟨g1, g2, h⟩⟩
  case aaload =>
    obtain ⟨a, b, s, rfl, g1, g2, H⟩ := am_pRI_x H
    exact Or.inl ⟨_, _, _, _, H, ⟨Nat.le_refl _, Nat.le_refl _⟩, fun K' _ _ h => ⟨g1, g2, h⟩⟩
  case iastore =>
    obtain ⟨a, b, v, s, rfl, g1, g2, H9⟩ := am_pRII_x H
    have H := H9 _ rfl
    exact Or.inl ⟨_, _, _, _, H, ⟨Nat.le_refl _, Nat.le_refl _⟩, fun K' _ _ h => ⟨g1, g2, am_nh_i h⟩⟩
  case lastore =>
    obtain ⟨a, b, v, s, rfl, g1, g2, H9⟩ := am_pRIJ_x H
    have H := H9 _ rfl
    exact Or.inl ⟨_, _, _, _, H, ⟨Nat.le_refl _, Nat.le_refl _⟩, fun K' _ _ h => ⟨g1, g2, am_nh_i h⟩⟩
  case aastore =>
    obtain ⟨a, b, v, s, rfl, g1, g2, g3, H9⟩ := am_pRIR_x H
    have H := H9 _ rfl
    exact Or.inl ⟨_, _, _, _, H, ⟨Nat.le_refl _, Nat.le_refl _⟩, fun K' _ _ h => ⟨g1, g2, g3, am_nh_i h⟩⟩
  case arraylength =>
    obtain ⟨a, s, rfl, g, H⟩ := am_p1R_x H
    exact Or.inl ⟨_, _, _, _, H, ⟨Nat.le_refl _, Nat.le_refl _⟩, fun K' _ _ h => ⟨g, h⟩⟩
  case newarray _ =>
    obtain ⟨a, s, rfl, g1, g2, H9⟩ := am_p1I_x H
    have H := H9 _ rfl
    exact Or.inl ⟨_, _, _, _, H, ⟨Nat.le_succ _, Nat.le_add_right _ _⟩, fun K' _ _ h => ⟨g1, g2, am_nh_i h⟩⟩
  case anewarray _ =>
    obtain ⟨a, s, rfl, g1, g2, H9⟩ := am_p1I_x H
    have H := H9 _ rfl
    exact Or.inl ⟨_, _, _, _, H, ⟨Nat.le_succ _, Nat.le_add_right _ _⟩, fun K' _ _ h => ⟨g1, g2, am_nh_i h⟩⟩
  case checkcast _ =>
    obtain ⟨a, s, rfl, g, H⟩ := am_p1R_x H
    exact Or.inl ⟨_, _, _, _, H, ⟨Nat.le_refl _, Nat.le_refl _⟩, fun K' _ _ h => ⟨g, h⟩⟩
  case invokevirtual _ =>
    obtain ⟨as, rest, hn, hst, H2⟩ := am_pn_x H
    subst hst
    obtain ⟨a, s, hst, g, H3⟩ := am_p1R_x H2
    subst hst
    clear H H2
    have H := H3
    clear H3
    split at H
    · rename_i hs
      exact Or.inr (Or.inr ⟨_, _, _, H, hs.2, fun _ _ Cl' h => am_pn_i hn ⟨g, by rw [if_pos hs]; exact h⟩⟩)
    · exact H.elim
  case invokespecial _ =>
    obtain ⟨as, rest, hn, hst, H2⟩ := am_pn_x H
    subst hst
    obtain ⟨a, s, hst, g, H3⟩ := am_p1R_x H2
    subst hst
    clear H H2
    have H := H3
    clear H3
    split at H
    · rename_i hs
      split at H
      · rename_i hx
        exact Or.inl ⟨_, _, _, _, H, ⟨Nat.le_refl _, Nat.le_refl _⟩, fun K' _ _ h => am_pn_i hn ⟨g, by rw [if_pos hs, if_pos hx]; exact h⟩⟩
      · rename_i hx
        exact Or.inr (Or.inr ⟨_, _, _, H, hs.2, fun _ _ Cl' h => am_pn_i hn ⟨g, by rw [if_pos hs, if_neg hx]; exact h⟩⟩)
    · exact H.elim
  case invokestatic _ =>
    by_cases hx0 : x = 0
    · simp only [if_pos hx0] at H ⊢
      obtain ⟨st', H, k⟩ := am_mth_x H
      exact Or.inl ⟨_, _, _, _, H, ⟨Nat.le_refl _, Nat.le_refl _⟩, fun K' _ _ h => k _ h⟩
    · simp only [if_neg hx0] at H ⊢
      obtain ⟨as, rest, hn, hst, H2⟩ := am_pn_x H
      clear H
      have H := H2
      clear H2
      subst hst
      split at H
      · rename_i hs
        exact Or.inr (Or.inr ⟨_, _, _, H, hs.2, fun _ _ Cl' h => am_pn_i hn (by show (if _ then _ else _); rw [if_pos hs]; exact h)⟩)
      · exact H.elim
  case ireturn =>
    split at H
    · split at H
      · rename_i g
        exact Or.inr (Or.inl ⟨_, H, Or.inl ⟨rfl, _, rfl, rfl, Or.inl g⟩, fun _ _ _ h => by rw [if_pos g]; exact h⟩)
      · rename_i g
        exact Or.inr (Or.inl ⟨_, H.2, Or.inl ⟨rfl, _, rfl, rfl, Or.inr H.1⟩, fun _ _ _ h => by rw [if_neg g]; exact ⟨H.1, h⟩⟩)
    · exact H.elim
  case lreturn =>
    split at H
    · exact Or.inr (Or.inl ⟨_, H, Or.inr (Or.inl ⟨rfl, _, rfl, rfl⟩), fun _ _ _ h => h⟩)
    · exact H.elim
  case areturn =>
    split at H
    · exact Or.inr (Or.inl ⟨_, H, Or.inr (Or.inr (Or.inl ⟨rfl, _, rfl, rfl⟩)), fun _ _ _ h => h⟩)
    · exact H.elim
  case return_ =>
    split at H
    · exact Or.inr (Or.inl ⟨_, H, Or.inr (Or.inr (Or.inr ⟨rfl, rfl, rfl⟩)), fun _ _ _ h => h⟩)
    · exact H.elim
set_option maxHeartbeats 4000000 in
theorem am_cps_le {pc : Nat} {q : am_E} {l l' : am_Ls} {st : am_Sk} {h : am_H} {K K' : Nat → am_Ls → am_Sk → am_H → Prop} {Rt : Option am_V → Prop} {Cl : Nat → am_Sk → am_Sk → Prop} (hl : am_le l l') (H : am_cps pc q l st h K Rt Cl)
    (hK : ∀ (pc : Nat) (l1 l2 : am_Ls) (st : am_Sk) (h : am_H), am_le l1 l2 → K pc l1 st h → K' pc l2 st h) : am_cps pc q l' st h K' Rt Cl := by
  obtain ⟨i, x, y, z, u, cI, cJ, ts⟩ := q
  cases i <;> simp only [am_cps] at H ⊢
  case getstatic _ =>
    exact (hK _ _ _ _ _ hl H)
  case aconst_null =>
    exact (hK _ _ _ _ _ hl H)
  case iconst _ =>
    exact (hK _ _ _ _ _ hl H)
  case bipush _ =>
    exact (hK _ _ _ _ _ hl H)
  case sipush _ =>
    exact (hK _ _ _ _ _ hl H)
  case ldc _ =>
    exact (hK _ _ _ _ _ hl H)
  case lconst _ =>
    exact (hK _ _ _ _ _ hl H)
  case ldc2_w _ =>
    exact (hK _ _ _ _ _ hl H)
  case goto _ =>
    exact (hK _ _ _ _ _ hl H)
  case new _ =>
    have H := H _ rfl
    exact am_nh_i (hK _ _ _ _ _ hl H)
  case iload_n _ =>
    obtain ⟨v, e, H⟩ := am_lI_x H
    exact am_lI_i (hl.2 _ _ e) (hK _ _ _ _ _ hl H)
  case iload _ =>
    obtain ⟨v, e, H⟩ := am_lI_x H
    exact am_lI_i (hl.2 _ _ e) (hK _ _ _ _ _ hl H)
  case lload_n _ =>
    obtain ⟨v, e, H⟩ := am_lJ_x H
    exact am_lJ_i (hl.2 _ _ e) (hK _ _ _ _ _ hl H)
  case lload _ =>
    obtain ⟨v, e, H⟩ := am_lJ_x H
    exact am_lJ_i (hl.2 _ _ e) (hK _ _ _ _ _ hl H)
  case aload_n _ =>
    obtain ⟨v, e, H⟩ := am_lR_x H
    exact am_lR_i (hl.2 _ _ e) (hK _ _ _ _ _ hl H)
  case aload _ =>
    obtain ⟨v, e, H⟩ := am_lR_x H
    exact am_lR_i (hl.2 _ _ e) (hK _ _ _ _ _ hl H)
  case iinc _ _ =>
    obtain ⟨v, e, H⟩ := am_lI_x H
    exact am_lI_i (hl.2 _ _ e) (hK _ _ _ _ _ (am_le_s1 hl) H)
  case istore_n _ =>
    obtain ⟨a, s, rfl, H⟩ := am_p1I_x H
    exact (hK _ _ _ _ _ (am_le_s1 hl) H)
  case istore _ =>
    obtain ⟨a, s, rfl, H⟩ := am_p1I_x H
    exact (hK _ _ _ _ _ (am_le_s1 hl) H)
  case i2l =>
    obtain ⟨a, s, rfl, H⟩ := am_p1I_x H
    exact (hK _ _ _ _ _ hl H)
  case lstore_n _ =>
    obtain ⟨a, s, rfl, H⟩ := am_p1J_x H
    exact (hK _ _ _ _ _ (am_le_s2 hl) H)
  case lstore _ =>
    obtain ⟨a, s, rfl, H⟩ := am_p1J_x H
    exact (hK _ _ _ _ _ (am_le_s2 hl) H)
  case lneg =>
    obtain ⟨a, s, rfl, H⟩ := am_p1J_x H
    exact (hK _ _ _ _ _ hl H)
  case l2i =>
    obtain ⟨a, s, rfl, H⟩ := am_p1J_x H
    exact (hK _ _ _ _ _ hl H)
  case astore_n _ =>
    obtain ⟨a, s, rfl, H⟩ := am_p1R_x H
    exact (hK _ _ _ _ _ (am_le_s1 hl) H)
  case astore _ =>
    obtain ⟨a, s, rfl, H⟩ := am_p1R_x H
    exact (hK _ _ _ _ _ (am_le_s1 hl) H)
  case iadd =>
    obtain ⟨a, b, s, rfl, H⟩ := am_p2I_x H
    exact (hK _ _ _ _ _ hl H)
  case isub =>
    obtain ⟨a, b, s, rfl, H⟩ := am_p2I_x H
    exact (hK _ _ _ _ _ hl H)
  case imul =>
    obtain ⟨a, b, s, rfl, H⟩ := am_p2I_x H
    exact (hK _ _ _ _ _ hl H)
  case iand =>
    obtain ⟨a, b, s, rfl, H⟩ := am_p2I_x H
    exact (hK _ _ _ _ _ hl H)
  case ishr =>
    obtain ⟨a, b, s, rfl, H⟩ := am_p2I_x H
    exact (hK _ _ _ _ _ hl H)
  case idiv =>
    obtain ⟨a, b, s, rfl, g, H⟩ := am_p2I_x H
    exact ⟨g, (hK _ _ _ _ _ hl H)⟩
  case irem =>
    obtain ⟨a, b, s, rfl, g, H⟩ := am_p2I_x H
    exact ⟨g, (hK _ _ _ _ _ hl H)⟩
  case ladd =>
    obtain ⟨a, b, s, rfl, H⟩ := am_p2J_x H
    exact (hK _ _ _ _ _ hl H)
  case lsub =>
    obtain ⟨a, b, s, rfl, H⟩ := am_p2J_x H
    exact (hK _ _ _ _ _ hl H)
  case lmul =>
    obtain ⟨a, b, s, rfl, H⟩ := am_p2J_x H
    exact (hK _ _ _ _ _ hl H)
  case land =>
    obtain ⟨a, b, s, rfl, H⟩ := am_p2J_x H
    exact (hK _ _ _ _ _ hl H)
  case lor =>
    obtain ⟨a, b, s, rfl, H⟩ := am_p2J_x H
    exact (hK _ _ _ _ _ hl H)
  case lcmp =>
    obtain ⟨a, b, s, rfl, H⟩ := am_p2J_x H
    exact (hK _ _ _ _ _ hl H)
  case ldiv =>
    obtain ⟨a, b, s, rfl, g, H⟩ := am_p2J_x H
    exact ⟨g, (hK _ _ _ _ _ hl H)⟩
  case lrem =>
    obtain ⟨a, b, s, rfl, g, H⟩ := am_p2J_x H
    exact ⟨g, (hK _ _ _ _ _ hl H)⟩
  case lshl =>
    obtain ⟨a, b, s, rfl, H⟩ := am_pJI_x H
    exact (hK _ _ _ _ _ hl H)
  case dup =>
    obtain ⟨a, s, rfl, g, H⟩ := am_w1_x H
    exact ⟨g, (hK _ _ _ _ _ hl H)⟩
  case pop =>
    obtain ⟨a, s, rfl, g, H⟩ := am_w1_x H
    exact ⟨g, (hK _ _ _ _ _ hl H)⟩
  case dup_x1 =>
    obtain ⟨a, b, s, rfl, g1, g2, H⟩ := am_w2_x H
    exact ⟨g1, g2, (hK _ _ _ _ _ hl H)⟩
  case dup2 =>
    split at H
    · exact (hK _ _ _ _ _ hl H)
    · rename_i hno
      obtain ⟨a, b, s, rfl, g1, g2, H⟩ := am_w2_x H
      exact ⟨g1, g2, (hK _ _ _ _ _ hl H)⟩
  case ifCond c off =>
    obtain ⟨a, s, rfl, H⟩ := am_p1I_x H
    cases c <;> (rcases am_br_x H with ⟨g, H⟩ | ⟨g, H⟩ <;> first | (exact am_br_t g (hK _ _ _ _ _ hl H)) | (exact am_br_f g (hK _ _ _ _ _ hl H)))
  case if_icmp c off =>
    obtain ⟨a, b, s, rfl, H⟩ := am_p2I_x H
    cases c <;> (rcases am_br_x H with ⟨g, H⟩ | ⟨g, H⟩ <;> first | (exact am_br_t g (hK _ _ _ _ _ hl H)) | (exact am_br_f g (hK _ _ _ _ _ hl H)))
  case if_acmp c off =>
    obtain ⟨a, b, s, rfl, H⟩ := am_p2R_x H
    cases c <;> (rcases am_br_x H with ⟨g, H⟩ | ⟨g, H⟩ <;> first | (exact am_br_t g (hK _ _ _ _ _ hl H)) | (exact am_br_f g (hK _ _ _ _ _ hl H)))
  case ifnull _ =>
    obtain ⟨a, s, rfl, H⟩ := am_p1R_x H
    rcases am_br_x H with ⟨g, H⟩ | ⟨g, H⟩
    · exact am_br_t g (hK _ _ _ _ _ hl H)
    · exact am_br_f g (hK _ _ _ _ _ hl H)
  case ifnonnull _ =>
    obtain ⟨a, s, rfl, H⟩ := am_p1R_x H
    rcases am_br_x H with ⟨g, H⟩ | ⟨g, H⟩
    · exact am_br_t g (hK _ _ _ _ _ hl H)
    · exact am_br_f g (hK _ _ _ _ _ hl H)
  case tableswitch _ _ _ _ =>
    obtain ⟨a, s, rfl, H⟩ := am_p1I_x H
    rcases am_tsw_x H with ⟨t, -, H, k⟩ | ⟨-, H, k⟩
    · exact k _ _ (hK _ _ _ _ _ hl H)
    · exact k _ _ (hK _ _ _ _ _ hl H)
  case getfield _ =>
    obtain ⟨a, s, rfl, g, H⟩ := am_p1R_x H
    exact ⟨g, (hK _ _ _ _ _ hl H)⟩
  case putfield _ =>
    rcases am_pRv_x H with ⟨rfl, a, v, s, rfl, g, H9⟩ | ⟨rfl, a, v, s, rfl, g, H9⟩ | ⟨rfl, a, v, s, rfl, g, H9⟩
    · have H := H9 _ rfl
      exact ⟨g, am_nh_i (hK _ _ _ _ _ hl H)⟩
    · have H := H9 _ rfl
      exact ⟨g, am_nh_i (hK _ _ _ _ _ hl H)⟩
    · have H := H9 _ rfl
      exact ⟨g, am_nh_i (hK _ _ _ _ _ hl H)⟩
  case iaload =>
    obtain ⟨a, b, s, rfl, g1, g2, H⟩ := am_pRI_x H
    exact ⟨g1, g2, (hK _ _ _ _ _ hl H)⟩
  case laload =>
    obtain ⟨a, b, s, rfl, g1, g2, H⟩ := am_pRI_x H
    exact ⟨g1, g2, (hK _ _ _ _ _ hl H)⟩
  case aaload =>
    obtain ⟨a, b, s, rfl, g1, g2, H⟩ := am_pRI_x H
    exact ⟨g1, g2, (hK _ _ _ _ _ hl H)⟩
  case iastore =>
    obtain ⟨a, b, v, s, rfl, g1, g2, H9⟩ := am_pRII_x H
    have H := H9 _ rfl
    exact ⟨g1, g2, am_nh_i (hK _ _ _ _ _ hl H)⟩
  case lastore =>
    obtain ⟨a, b, v, s, rfl, g1, g2, H9⟩ := am_pRIJ_x H
    have H := H9 _ rfl
    exact ⟨g1, g2, am_nh_i (hK _ _ _ _ _ hl H)⟩
  case aastore =>
    obtain ⟨a, b, v, s, rfl, g1, g2, g3, H9⟩ := am_pRIR_x H
    have H := H9 _ rfl
    exact ⟨g1, g2, g3, am_nh_i (hK _ _ _ _ _ hl H)⟩
  case arraylength =>
    obtain ⟨a, s, rfl, g, H⟩ := am_p1R_x H
    exact ⟨g, (hK _ _ _ _ _ hl H)⟩
  case newarray _ =>
    obtain ⟨a, s, rfl, g1, g2, H9⟩ := am_p1I_x H
    have H := H9 _ rfl
    exact ⟨g1, g2, am_nh_i (hK _ _ _ _ _ hl H)⟩
  case anewarray _ =>
    obtain ⟨a, s, rfl, g1, g2, H9⟩ := am_p1I_x H
    have H := H9 _ rfl
    exact ⟨g1, g2, am_nh_i (hK _ _ _ _ _ hl H)⟩
  case checkcast _ =>
    obtain ⟨a, s, rfl, g, H⟩ := am_p1R_x H
    exact ⟨g, (hK _ _ _ _ _ hl H)⟩
  case invokevirtual _ =>
    exact H
  case invokespecial _ =>
    obtain ⟨as, rest, hn, hst, H2⟩ := am_pn_x H
    subst hst
    obtain ⟨a, s, hst, g, H3⟩ := am_p1R_x H2
    subst hst
    clear H H2
    have H := H3
    clear H3
    split at H
    · rename_i hs
      split at H
      · rename_i hx
        exact am_pn_i hn ⟨g, by rw [if_pos hs, if_pos hx]; exact (hK _ _ _ _ _ hl H)⟩
      · rename_i hx
        exact am_pn_i hn ⟨g, by rw [if_pos hs, if_neg hx]; exact H⟩
    · exact H.elim
  case invokestatic _ =>
    by_cases hx0 : x = 0
    · simp only [if_pos hx0] at H ⊢
      obtain ⟨st', H, k⟩ := am_mth_x H
      exact k _ (hK _ _ _ _ _ hl H)
    · simp only [if_neg hx0] at H ⊢
      exact H
  case ireturn =>
    exact H
  case lreturn =>
    exact H
  case areturn =>
    exact H
  case return_ =>
    exact H
/-! RUNS: am_W (n steps, d calls deep), am_P (some number of steps), am_PC (a call), am_B (blocks) -/
def am_at (mid pc : Nat) : Option am_E := (am_pg mid).lookup pc
def am_en (mid : Nat) (as : am_Sk) : am_Ls := (as.flatMap fun v => if am_cat v = 2 then [some v, none] else [some v]) ++ List.replicate (am_ml mid - (as.flatMap fun v => if am_cat v = 2 then [some v, none] else [some v]).length) none
/-- Arrays.copyOf of an array of objects: no program of ours, its own contract -/
def am_cp (h : am_H) (a n : Nat) : am_H := (va_up (am_T h) (am_Z h + 1) 104, va_up (am_N h) (am_Z h + 1) n, am_I h, am_J h, am_R h, am_ua (am_aI h) (am_Z h + 1) 0, am_ua (am_aJ h) (am_Z h + 1) 0, (fun b j => if b = am_Z h + 1 then (if j < am_N h a ∧ j < n then am_aR h a j else 0) else am_aR h b j), am_Z h + 1, am_C h + 1, am_S h + n)
def am_isX (m : Nat) : Bool := Nat.beq m mi_R_copyOf
def am_ext (d : Nat) (as : am_Sk) (h : am_H) (K : Option am_V → am_H → Prop) : Prop := match as with
  | [.inr (.inr a), .inl n] => 3 ≤ d ∧ am_T h a = 104 ∧ (¬ n < 0) ∧ n.toNatClampNeg ≤ 1000000 ∧ am_N h a ≤ 1000000 ∧ (∀ j, j < am_N h a → am_aR h a j = 0 ∨ (10 ≤ am_T h (am_aR h a j) ∧ am_asg 4 (am_T h (am_aR h a j) - 10) = true)) ∧ K (some (.inr (.inr (am_Z h + 1)))) (am_cp h a n.toNatClampNeg)
  | _ => False
theorem am_ext_x {d : Nat} {as : am_Sk} {h : am_H} {K : Option am_V → am_H → Prop} (H : am_ext d as h K) : ∃ r h', K r h' ∧ (am_C h ≤ am_C h' ∧ am_S h ≤ am_S h') ∧ ∀ (d' : Nat) (K' : Option am_V → am_H → Prop), d ≤ d' → K' r h' → am_ext d' as h K' := by
  unfold am_ext at H
  split at H
  · obtain ⟨h1, h2, h3, h4, h5, h6, H⟩ := H
    exact ⟨_, _, H, ⟨Nat.le_succ _, Nat.le_add_right _ _⟩, fun d' K' hd hK => ⟨Nat.le_trans h1 hd, h2, h3, h4, h5, h6, hK⟩⟩
  · exact H.elim
def am_W : Nat → Nat → Nat → Nat → am_Ls → am_Sk → am_H → (Option am_V → am_H → Prop) → Prop
  | 0, _, _, _, _, _, _, _ => False
  | n + 1, d, mid, pc, l, st, h, Q => match am_at mid pc with
    | none => False
    | some q => am_cps pc q l st h (fun pc l st h => am_W n d mid pc l st h Q) (fun r => Q r h)
        (fun m as rest => match d with
          | 0 => False
          | d + 1 => match am_isX m with
            | true => am_ext d as h (fun r h' => am_rk q.2.2.2.2.1 rest r (fun st' => am_W n (d + 1) mid (pc + 3) l st' h' Q))
            | false => am_W n d m 0 (am_en m as) [] h (fun r h' => am_rk q.2.2.2.2.1 rest r (fun st' => am_W n (d + 1) mid (pc + 3) l st' h' Q)))
theorem am_rk_x {u : Nat} {rest : am_Sk} {r : Option am_V} {k : am_Sk → Prop} (H : am_rk u rest r k) : ∃ st', k st' ∧ (∀ k' : am_Sk → Prop, k' st' → am_rk u rest r k') := by
  unfold am_rk at H
  split at H
  · exact ⟨_, H.2, fun k' h => ⟨H.1, h⟩⟩
  · obtain ⟨x, e, H⟩ := H
    exact ⟨_, H, fun k' h => ⟨x, e, h⟩⟩
  · obtain ⟨x, e, H⟩ := H
    exact ⟨_, H, fun k' h => ⟨x, e, h⟩⟩
  · rename_i h0 h1 h2
    obtain ⟨x, e, H⟩ := H
    refine ⟨_, H, fun k' h => ?_⟩
    unfold am_rk
    split
    · exact absurd rfl h0
    · exact absurd rfl h1
    · exact absurd rfl h2
    · exact ⟨x, e, h⟩
/-- more steps, a weaker end -/
theorem am_W_mono : ∀ {n n' d mid pc : Nat} {l : am_Ls} {st : am_Sk} {h : am_H} {Q Q' : Option am_V → am_H → Prop}, n ≤ n' → (∀ r h, Q r h → Q' r h) → am_W n d mid pc l st h Q → am_W n' d mid pc l st h Q' := by
  intro n
  induction n with
  | zero => intro n' d mid pc l st h Q Q' _ _ H; exact H.elim
  | succ n ih =>
    intro n' d mid pc l st h Q Q' hn hQ H
    obtain ⟨m, rfl⟩ : ∃ m, n' = m + 1 := ⟨n' - 1, by omega⟩
    have hnm : n ≤ m := by omega
    simp only [am_W] at H ⊢
    cases hq : am_at mid pc with
    | none => rw [hq] at H; exact H.elim
    | some q =>
      rw [hq] at H
      dsimp only at H ⊢
      rcases am_det H with ⟨pc', l', st', h', H1, -, k⟩ | ⟨r, H1, -, k⟩ | ⟨m', as, rest, H1, -, k⟩
      · exact k _ _ _ (ih hnm hQ H1)
      · exact k _ _ _ (hQ _ _ H1)
      · refine k _ _ _ ?_
        cases d with
        | zero => exact H1.elim
        | succ d =>
          cases hX : am_isX m' with
          | true =>
            simp only [hX] at H1 ⊢
            obtain ⟨r, h', h2, -, k2⟩ := am_ext_x H1
            refine k2 _ _ (Nat.le_refl _) ?_
            obtain ⟨st', h3, h4⟩ := am_rk_x h2
            exact h4 _ (ih hnm hQ h3)
          | false =>
            simp only [hX] at H1 ⊢
            refine ih hnm (fun r h1 h2 => ?_) H1
            obtain ⟨st', h3, h4⟩ := am_rk_x h2
            exact h4 _ (ih hnm hQ h3)
theorem am_W_d : ∀ {n d d' mid pc : Nat} {l : am_Ls} {st : am_Sk} {h : am_H} {Q : Option am_V → am_H → Prop}, d ≤ d' → am_W n d mid pc l st h Q → am_W n d' mid pc l st h Q := by
  intro n
  induction n with
  | zero => intro d d' mid pc l st h Q _ H; exact H.elim
  | succ n ih =>
    intro d d' mid pc l st h Q hd H
    simp only [am_W] at H ⊢
    cases hq : am_at mid pc with
    | none => rw [hq] at H; exact H.elim
    | some q =>
      rw [hq] at H
      dsimp only at H ⊢
      rcases am_det H with ⟨pc', l', st', h', H1, -, k⟩ | ⟨r, H1, -, k⟩ | ⟨m', as, rest, H1, -, k⟩
      · exact k _ _ _ (ih hd H1)
      · exact k _ _ _ H1
      · refine k _ _ _ ?_
        cases d with
        | zero => exact H1.elim
        | succ d =>
          obtain ⟨d2, rfl⟩ : ∃ d2, d' = d2 + 1 := ⟨d' - 1, by omega⟩
          cases hX : am_isX m' with
          | true =>
            simp only [hX] at H1 ⊢
            obtain ⟨r, h', h2, -, k2⟩ := am_ext_x H1
            refine k2 _ _ (by omega) ?_
            obtain ⟨st', h3, h4⟩ := am_rk_x h2
            exact h4 _ (ih hd h3)
          | false =>
            simp only [hX] at H1 ⊢
            refine am_W_mono (Nat.le_refl n) (fun r h1 h2 => ?_) (ih (d' := d2) (by omega) H1)
            obtain ⟨st', h3, h4⟩ := am_rk_x h2
            exact h4 _ (ih hd h3)
theorem am_W_le : ∀ {n d mid pc : Nat} {l l' : am_Ls} {st : am_Sk} {h : am_H} {Q : Option am_V → am_H → Prop}, am_le l l' → am_W n d mid pc l st h Q → am_W n d mid pc l' st h Q := by
  intro n
  induction n with
  | zero => intro d mid pc l l' st h Q _ H; exact H.elim
  | succ n ih =>
    intro d mid pc l l' st h Q hl H
    simp only [am_W] at H ⊢
    cases hq : am_at mid pc with
    | none => rw [hq] at H; exact H.elim
    | some q =>
      rw [hq] at H
      dsimp only at H ⊢
      have H2 := am_cps_le (K' := fun pc l st h => am_W n d mid pc l st h Q) hl H (fun pc l1 l2 st h h1 h2 => ih h1 h2)
      rcases am_det H2 with ⟨pc', l', st', h', H1, -, k⟩ | ⟨r, H1, -, k⟩ | ⟨m', as, rest, H1, -, k⟩
      · exact k _ _ _ H1
      · exact k _ _ _ H1
      · refine k _ _ _ ?_
        cases d with
        | zero => exact H1.elim
        | succ d =>
          cases hX : am_isX m' with
          | true =>
            simp only [hX] at H1 ⊢
            obtain ⟨r, h', h2, -, k2⟩ := am_ext_x H1
            refine k2 _ _ (Nat.le_refl _) ?_
            obtain ⟨st', h3, h4⟩ := am_rk_x h2
            exact h4 _ (ih hl h3)
          | false =>
            simp only [hX] at H1 ⊢
            refine am_W_mono (Nat.le_refl n) (fun r h1 h2 => ?_) H1
            obtain ⟨st', h3, h4⟩ := am_rk_x h2
            exact h4 _ (ih hl h3)
/-- a run has one end -/
theorem am_W_ex : ∀ {n d mid pc : Nat} {l : am_Ls} {st : am_Sk} {h : am_H} {Q : Option am_V → am_H → Prop}, am_W n d mid pc l st h Q → ∃ r h', Q r h' ∧ (am_C h ≤ am_C h' ∧ am_S h ≤ am_S h') ∧ am_W n d mid pc l st h (fun r' h'' => r' = r ∧ h'' = h') := by
  intro n
  induction n with
  | zero => intro d mid pc l st h Q H; exact H.elim
  | succ n ih =>
    intro d mid pc l st h Q H
    simp only [am_W] at H ⊢
    cases hq : am_at mid pc with
    | none => rw [hq] at H; exact H.elim
    | some q =>
      rw [hq] at H
      dsimp only at H ⊢
      rcases am_det H with ⟨pc', l', st', h', H1, hc, k⟩ | ⟨r, H1, -, k⟩ | ⟨m', as, rest, H1, -, k⟩
      · obtain ⟨r, h2, q1, q2, q3⟩ := ih H1
        exact ⟨r, h2, q1, ⟨Nat.le_trans hc.1 q2.1, Nat.le_trans hc.2 q2.2⟩, k _ _ _ q3⟩
      · exact ⟨r, h, H1, ⟨Nat.le_refl _, Nat.le_refl _⟩, k _ _ _ ⟨rfl, rfl⟩⟩
      · cases d with
        | zero => exact H1.elim
        | succ d =>
          cases hX : am_isX m' with
          | true =>
            simp only [hX] at H1
            obtain ⟨r1, h1, q1, q2, k2⟩ := am_ext_x H1
            obtain ⟨st', a1, a2⟩ := am_rk_x q1
            obtain ⟨r, h2, b1, b2, b3⟩ := ih a1
            refine ⟨r, h2, b1, ⟨Nat.le_trans q2.1 b2.1, Nat.le_trans q2.2 b2.2⟩, k _ _ _ ?_⟩
            simp only [hX]
            exact k2 _ _ (Nat.le_refl _) (a2 _ b3)
          | false =>
            simp only [hX] at H1
            obtain ⟨r1, h1, q1, q2, q3⟩ := ih H1
            obtain ⟨st', a1, a2⟩ := am_rk_x q1
            obtain ⟨r, h2, b1, b2, b3⟩ := ih a1
            refine ⟨r, h2, b1, ⟨Nat.le_trans q2.1 b2.1, Nat.le_trans q2.2 b2.2⟩, k _ _ _ ?_⟩
            simp only [hX]
            refine am_W_mono (Nat.le_refl n) (fun r' h' e => ?_) q3
            obtain ⟨rfl, rfl⟩ := e
            exact a2 _ b3
def am_P (d mid pc : Nat) (l : am_Ls) (st : am_Sk) (h : am_H) (Q : Option am_V → am_H → Prop) : Prop := ∃ n, am_W n d mid pc l st h Q
def am_PC (d m : Nat) (as : am_Sk) (h : am_H) (Q : Option am_V → am_H → Prop) : Prop := match d with
  | 0 => False
  | d + 1 => match am_isX m with
    | true => am_ext d as h Q
    | false => am_P d m 0 (am_en m as) [] h Q
theorem am_P_mono {d mid pc : Nat} {l : am_Ls} {st : am_Sk} {h : am_H} {Q Q' : Option am_V → am_H → Prop} (H : am_P d mid pc l st h Q) (hQ : ∀ r h, Q r h → Q' r h) : am_P d mid pc l st h Q' := by
  obtain ⟨n, H⟩ := H
  exact ⟨n, am_W_mono (Nat.le_refl n) hQ H⟩
theorem am_PC_mono {d m : Nat} {as : am_Sk} {h : am_H} {Q Q' : Option am_V → am_H → Prop} (H : am_PC d m as h Q) (hQ : ∀ r h, Q r h → Q' r h) : am_PC d m as h Q' := by
  cases d with
  | zero => exact H
  | succ d =>
    unfold am_PC at H ⊢
    cases hX : am_isX m with
    | true =>
      simp only [hX] at H ⊢
      obtain ⟨r, h', h2, -, k2⟩ := am_ext_x H
      exact k2 _ _ (Nat.le_refl _) (hQ _ _ h2)
    | false =>
      simp only [hX] at H ⊢
      exact am_P_mono H hQ
theorem am_P_d {d d' mid pc : Nat} {l : am_Ls} {st : am_Sk} {h : am_H} {Q : Option am_V → am_H → Prop} (hd : d ≤ d') (H : am_P d mid pc l st h Q) : am_P d' mid pc l st h Q := by
  obtain ⟨n, H⟩ := H
  exact ⟨n, am_W_d hd H⟩
theorem am_P_le {d mid pc : Nat} {l l' : am_Ls} {st : am_Sk} {h : am_H} {Q : Option am_V → am_H → Prop} (hl : am_leb l l') (H : am_P d mid pc l st h Q) : am_P d mid pc l' st h Q := by
  obtain ⟨n, H⟩ := H
  exact ⟨n, am_W_le (am_le_of hl) H⟩
/-- k steps, calls by what they promise, up to the places in 'stops' -/
def am_B : Nat → List Nat → Nat → Nat → Nat → am_Ls → am_Sk → am_H → (Option am_V → am_H → Prop) → Prop
  | 0, _, d, mid, pc, l, st, h, Q => am_P d mid pc l st h Q
  | k + 1, stops, d, mid, pc, l, st, h, Q => match am_at mid pc with
    | none => False
    | some q => am_cps pc q l st h (fun pc l st h => bif stops.elem pc then am_P d mid pc l st h Q else am_B k stops d mid pc l st h Q) (fun r => Q r h)
        (fun m as rest => am_PC d m as h (fun r h' => am_rk q.2.2.2.2.1 rest r (fun st' => am_B k stops d mid (pc + 3) l st' h' Q)))
theorem am_B_P : ∀ {k : Nat} {stops : List Nat} {d mid pc : Nat} {l : am_Ls} {st : am_Sk} {h : am_H} {Q : Option am_V → am_H → Prop}, am_B k stops d mid pc l st h Q → am_P d mid pc l st h Q := by
  intro k
  induction k with
  | zero => intro stops d mid pc l st h Q H; exact H
  | succ k ih =>
    intro stops d mid pc l st h Q H
    simp only [am_B] at H
    cases hq : am_at mid pc with
    | none => rw [hq] at H; exact H.elim
    | some q =>
      rw [hq] at H
      dsimp only at H
      rcases am_det H with ⟨pc', l', st', h', H1, -, k⟩ | ⟨r, H1, -, k⟩ | ⟨m', as, rest, H1, -, k⟩
      · have H2 : am_P d mid pc' l' st' h' Q := by
          cases hs : stops.elem pc' with
          | true => rw [hs] at H1; exact H1
          | false => rw [hs] at H1; exact ih H1
        obtain ⟨n, H2⟩ := H2
        refine ⟨n + 1, ?_⟩
        simp only [am_W]
        rw [hq]
        exact k _ _ _ H2
      · refine ⟨1, ?_⟩
        simp only [am_W]
        rw [hq]
        exact k _ _ _ H1
      · cases d with
        | zero => exact H1.elim
        | succ d =>
          unfold am_PC at H1
          cases hX : am_isX m' with
          | true =>
            simp only [hX] at H1
            obtain ⟨r1, h1, q1, -, k2⟩ := am_ext_x H1
            obtain ⟨st', a1, a2⟩ := am_rk_x q1
            obtain ⟨n2, b⟩ := ih a1
            refine ⟨n2 + 1, ?_⟩
            simp only [am_W]
            rw [hq]
            refine k _ _ _ ?_
            simp only [hX]
            exact k2 _ _ (Nat.le_refl _) (a2 _ b)
          | false =>
            simp only [hX] at H1
            obtain ⟨n1, H1⟩ := H1
            obtain ⟨r1, h1, q1, -, q3⟩ := am_W_ex H1
            obtain ⟨st', a1, a2⟩ := am_rk_x q1
            obtain ⟨n2, b⟩ := ih a1
            refine ⟨n1 + n2 + 1, ?_⟩
            simp only [am_W]
            rw [hq]
            refine k _ _ _ ?_
            simp only [hX]
            refine am_W_mono (n := n1) (by omega) (fun r' h' e => ?_) q3
            obtain ⟨rfl, rfl⟩ := e
            exact a2 _ (am_W_mono (n := n2) (by omega) (fun _ _ h => h) b)
