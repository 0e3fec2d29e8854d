/-! THE LAW'S WALK: blocks of a method over the machine itself, calls by the abstract machine -/
/-- k steps from pc; at the places in 'stops' G holds, at the end Rt -/
def am_BG (G : Nat → am_Ls → am_Sk → am_H → Prop) (Rt : Option am_V → am_H → Prop) : Nat → List Nat → Nat → Nat → Nat → am_Ls → am_Sk → am_H → Prop
  | 0, _, _, _, pc, l, st, h => G pc l st h
  | k + 1, stops, d, mid, pc, l, st, h => match am_at mid pc with
    | none => False
    | some q => am_cps pc q l st h (fun pc l st h => bif stops.elem pc then G pc l st h else am_BG G Rt k stops d mid pc l st h) (fun r => Rt r h)
        (fun m as rest => am_PC d m as h (fun r h' => am_rk q.2.2.2.2.1 rest r (fun st' => am_BG G Rt k stops d mid (pc + 3) l st' h')))
section AML
variable {p : Program} {l : Launch} {e : Env} {R : Room} {s : State} {m : MethodId} {args : Array Value} {below : List Frame} {meth : Method} {c : Code} {Q : State → Prop} {D : va_G} {dA : Nat → ClassId} {B : Nat}
/-- a call of the abstract machine is a contract -/
theorem am_PC_MX (hX9 : am_X9 l D dA B) {d m' : Nat} {as : am_Sk} {h : am_H} {K : Option am_V → am_H → Prop} (hsz : (as.map am_cat).sum ≤ am_ml m') (H : am_PC (d + 1) m' as h K) : ∃ r h1, am_MX l D dA B d m' as h r h1 ∧ (am_C h ≤ am_C h1 ∧ am_S h ≤ am_S h1) ∧ K r h1 := by
  unfold am_PC at H
  cases hX : am_isX m' with
  | true =>
    simp only [hX] at H
    obtain ⟨r1, h1, q1, q2, k2⟩ := am_ext_x H
    exact ⟨r1, h1, hX9 d m' as h r1 h1 hX (k2 _ _ (Nat.le_refl _) ⟨rfl, rfl⟩), q2, q1⟩
  | false =>
    simp only [hX] at H
    obtain ⟨n, H⟩ := H
    obtain ⟨r1, h1, q1, q2, q3⟩ := am_W_ex H
    have hm0 : ¬ m' = 0 := fun q => by subst q; exact am_W0 q3
    exact ⟨r1, h1, am_MX_of (am_sound hX9 n) hsz hm0 q3, q2, q1⟩
/-- a block of the machine -/
theorem am_BG_G (hX9 : am_X9 l D dA B) {own : String} {cc : ByteArray} {mL mid : Nat} {ini : Bool} {ret : Option FieldType} {c0 s0 : Nat} (F : am_Fx p s m args meth c D dA B own cc mL ini) (hok : ∀ pc q, am_at mid pc = some q → am_okE own cc mL ini ret pc q = true)
    {G : Nat → am_Ls → am_Sk → am_H → Prop} {Rt : Option am_V → am_H → Prop} (hG : ∀ pc lc st h, G pc lc st h → am_C h ≤ c0 + R.cells ∧ am_S h ≤ s0 + R.slots ∧ am_G p l e R s m args below meth c Q D dA B mL c0 s0 pc lc st h)
    (hRt : ∀ pc q lc st h r, am_at mid pc = some q → am_iR q st r → Rt r h → am_C h ≤ c0 + R.cells ∧ am_S h ≤ s0 + R.slots ∧ am_G p l e R s m args below meth c Q D dA B mL c0 s0 pc lc st h)
    {d : Nat} (hRm : 1 ≤ R.frames ∧ 23 ≤ R.locals) (hRd : d + 1 ≤ R.frames ∧ 36 * d + 30 ≤ R.locals) : ∀ (k : Nat) (stops : List Nat) (pc : Nat) (lc : am_Ls) (st : am_Sk) (h : am_H), am_BG G Rt k stops d mid pc lc st h → am_C h ≤ c0 + R.cells ∧ am_S h ≤ s0 + R.slots ∧ am_G p l e R s m args below meth c Q D dA B mL c0 s0 pc lc st h := by
  intro k
  induction k with
  | zero => intro stops pc lc st h H; exact hG _ _ _ _ H
  | succ k ih =>
    intro stops pc lc st h H
    simp only [am_BG] at H
    cases hq : am_at mid pc with
    | none => rw [hq] at H; exact H.elim
    | some q =>
      rw [hq] at H
      dsimp only at H
      rcases am_det H with ⟨pc', l', st', h', H1, hc, kk⟩ | ⟨r, H1, hiR, -⟩ | ⟨m', as, rest, H1, hsz, kk⟩
      · have H2 : am_C h' ≤ c0 + R.cells ∧ am_S h' ≤ s0 + R.slots ∧ am_G p l e R s m args below meth c Q D dA B mL c0 s0 pc' l' st' h' := by
          cases hs : stops.elem pc' with
          | true => rw [hs] at H1; exact hG _ _ _ _ H1
          | false => rw [hs] at H1; exact ih _ _ _ _ _ H1
        exact ⟨Nat.le_trans hc.1 H2.1, Nat.le_trans hc.2 H2.2.1, am_step F hRm (hok pc q hq) (kk _ _ _ H2)⟩
      · exact hRt pc q lc st h r hq hiR H1
      · cases d with
        | zero => exact H1.elim
        | succ d =>
          obtain ⟨r1, h1, hM, q2, q1⟩ := am_PC_MX hX9 hsz H1
          obtain ⟨st', a1, a2⟩ := am_rk_x q1
          have H2 := ih _ _ _ _ _ a1
          exact ⟨Nat.le_trans q2.1 H2.1, Nat.le_trans q2.2 H2.2.1, am_step F hRm (hok pc q hq) (kk _ _ _ ⟨d, r1, h1, hM, ⟨by omega, by omega⟩, ⟨q2.1, q2.2, H2.1, H2.2.1⟩, a2 _ H2.2.2⟩)⟩
end AML
