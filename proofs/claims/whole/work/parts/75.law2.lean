/-! THE LAW'S BLOCKS; one row for each call -/
set_option maxRecDepth 100000 in
theorem bg_0 {G : Nat → am_Ls → am_Sk → am_H → Prop} {Rt : Option am_V → am_H → Prop} {d : Nat} {l0 : Nat} {h : am_H} (H : (∀ h1 : am_H, h1 = am_nO h 0 11 → 1 = 1 ∧ am_PC d mi_W_cell [.inr (.inr l0), .inl (0 : Int32)] h1 (fun r2 h3 => ∃ x4 : Int32, r2 = some (.inl x4) ∧ ¬ (am_Z h + 1) = 0 ∧ am_PC d mi_X_init [.inr (.inr (am_Z h + 1)), .inl x4] h3 (fun r5 h6 => r5 = none ∧ (∀ h7 : am_H, h7 = am_nO h6 7 31 → 1 = 1 ∧ am_PC d mi_W_cell [.inr (.inr l0), .inl (0 : Int32)] h7 (fun r8 h9 => ∃ x10 : Int32, r8 = some (.inl x10) ∧ ¬ (am_Z h6 + 1) = 0 ∧ am_PC d mi_M_init [.inr (.inr (am_Z h6 + 1)), .inl x10] h9 (fun r11 h12 => r11 = none ∧ (¬ (1 : Int32) < 0) ∧ (1 : Int32).toNatClampNeg ≤ 1000000 ∧ (∀ h13 : am_H, h13 = am_nA h12 2 (1 : Int32).toNatClampNeg → G 33 [some (.inr (.inr l0)), some (.inr (.inr (am_Z h + 1))), some (.inr (.inr (am_Z h6 + 1))), some (.inr (.inr (am_Z h12 + 1))), some (.inl (1 : Int32)), none, none] [] h13)))))))) : am_BG G Rt 21 [33, 112, 181, 308, 332, 396, 457, 514, 551, 632, 759, 828, 897, 922, 959] d mi_W_law 0 [some (.inr (.inr l0)), none, none, none, none, none, none] [] h := H
set_option maxRecDepth 100000 in
theorem bg_33 {G : Nat → am_Ls → am_Sk → am_H → Prop} {Rt : Option am_V → am_H → Prop} {d : Nat} {l0 : Nat} {l1 : Nat} {l2 : Nat} {l3 : Nat} {l4 : Int32} {y5 : Option am_V} {y6 : Option am_V} {h : am_H} (H : (am_T h l0 = 1 ∨ am_T h l0 = 2 ∨ am_T h l0 = 3 ∨ am_T h l0 = 4 ∨ 100 ≤ am_T h l0) ∧ ((((Int32.ofNat (am_N h l0)) - (7 : Int32)) < l4) → ((1 : Int32) = 0 ∨ (1 : Int32) = 1) ∧ Rt (some (.inl (1 : Int32))) h) ∧ (¬ (((Int32.ofNat (am_N h l0)) - (7 : Int32)) < l4) → (am_T h l0 = 1 ∨ am_T h l0 = 3) ∧ vp_in l4 (am_N h l0) ∧ (((am_aI h l0 l4.toNatClampNeg) &&& (15 : Int32)) = (0 : Int32) → G 112 [some (.inr (.inr l0)), some (.inr (.inr l1)), some (.inr (.inr l2)), some (.inr (.inr l3)), some (.inl l4), y5, y6] [] h) ∧ (¬ ((am_aI h l0 l4.toNatClampNeg) &&& (15 : Int32)) = (0 : Int32) → (((am_aI h l0 l4.toNatClampNeg) &&& (15 : Int32)) = (1 : Int32) → G 181 [some (.inr (.inr l0)), some (.inr (.inr l1)), some (.inr (.inr l2)), some (.inr (.inr l3)), some (.inl l4), y5, y6] [] h) ∧ (¬ ((am_aI h l0 l4.toNatClampNeg) &&& (15 : Int32)) = (1 : Int32) → (((am_aI h l0 l4.toNatClampNeg) &&& (15 : Int32)) = (2 : Int32) → G 308 [some (.inr (.inr l0)), some (.inr (.inr l1)), some (.inr (.inr l2)), some (.inr (.inr l3)), some (.inl l4), y5, y6] [] h) ∧ (¬ ((am_aI h l0 l4.toNatClampNeg) &&& (15 : Int32)) = (2 : Int32) → (((am_aI h l0 l4.toNatClampNeg) &&& (15 : Int32)) = (3 : Int32) → G 396 [some (.inr (.inr l0)), some (.inr (.inr l1)), some (.inr (.inr l2)), some (.inr (.inr l3)), some (.inl l4), y5, y6] [] h) ∧ (¬ ((am_aI h l0 l4.toNatClampNeg) &&& (15 : Int32)) = (3 : Int32) → (((am_aI h l0 l4.toNatClampNeg) &&& (15 : Int32)) = (4 : Int32) → G 457 [some (.inr (.inr l0)), some (.inr (.inr l1)), some (.inr (.inr l2)), some (.inr (.inr l3)), some (.inl l4), y5, y6] [] h) ∧ (¬ ((am_aI h l0 l4.toNatClampNeg) &&& (15 : Int32)) = (4 : Int32) → (((am_aI h l0 l4.toNatClampNeg) &&& (15 : Int32)) = (5 : Int32) → G 514 [some (.inr (.inr l0)), some (.inr (.inr l1)), some (.inr (.inr l2)), some (.inr (.inr l3)), some (.inl l4), y5, y6] [] h) ∧ (¬ ((am_aI h l0 l4.toNatClampNeg) &&& (15 : Int32)) = (5 : Int32) → (((am_aI h l0 l4.toNatClampNeg) &&& (15 : Int32)) = (6 : Int32) → G 551 [some (.inr (.inr l0)), some (.inr (.inr l1)), some (.inr (.inr l2)), some (.inr (.inr l3)), some (.inl l4), y5, y6] [] h) ∧ (¬ ((am_aI h l0 l4.toNatClampNeg) &&& (15 : Int32)) = (6 : Int32) → (((am_aI h l0 l4.toNatClampNeg) &&& (15 : Int32)) = (7 : Int32) → G 632 [some (.inr (.inr l0)), some (.inr (.inr l1)), some (.inr (.inr l2)), some (.inr (.inr l3)), some (.inl l4), y5, y6] [] h) ∧ (¬ ((am_aI h l0 l4.toNatClampNeg) &&& (15 : Int32)) = (7 : Int32) → (((am_aI h l0 l4.toNatClampNeg) &&& (15 : Int32)) = (8 : Int32) → G 759 [some (.inr (.inr l0)), some (.inr (.inr l1)), some (.inr (.inr l2)), some (.inr (.inr l3)), some (.inl l4), y5, y6] [] h) ∧ (¬ ((am_aI h l0 l4.toNatClampNeg) &&& (15 : Int32)) = (8 : Int32) → (((am_aI h l0 l4.toNatClampNeg) &&& (15 : Int32)) = (9 : Int32) → G 828 [some (.inr (.inr l0)), some (.inr (.inr l1)), some (.inr (.inr l2)), some (.inr (.inr l3)), some (.inl l4), y5, y6] [] h) ∧ (¬ ((am_aI h l0 l4.toNatClampNeg) &&& (15 : Int32)) = (9 : Int32) → (((am_aI h l0 l4.toNatClampNeg) &&& (15 : Int32)) = (10 : Int32) → G 897 [some (.inr (.inr l0)), some (.inr (.inr l1)), some (.inr (.inr l2)), some (.inr (.inr l3)), some (.inl l4), y5, y6] [] h) ∧ (¬ ((am_aI h l0 l4.toNatClampNeg) &&& (15 : Int32)) = (10 : Int32) → (((am_aI h l0 l4.toNatClampNeg) &&& (15 : Int32)) = (11 : Int32) → G 922 [some (.inr (.inr l0)), some (.inr (.inr l1)), some (.inr (.inr l2)), some (.inr (.inr l3)), some (.inl l4), y5, y6] [] h) ∧ (¬ ((am_aI h l0 l4.toNatClampNeg) &&& (15 : Int32)) = (11 : Int32) → G 959 [some (.inr (.inr l0)), some (.inr (.inr l1)), some (.inr (.inr l2)), some (.inr (.inr l3)), some (.inl l4), y5, y6] [] h)))))))))))))) : am_BG G Rt 14 [33, 112, 181, 308, 332, 396, 457, 514, 551, 632, 759, 828, 897, 922, 959] d mi_W_law 33 [some (.inr (.inr l0)), some (.inr (.inr l1)), some (.inr (.inr l2)), some (.inr (.inr l3)), some (.inl l4), y5, y6] [] h := H
set_option maxRecDepth 100000 in
theorem bg_112 {G : Nat → am_Ls → am_Sk → am_H → Prop} {Rt : Option am_V → am_H → Prop} {d : Nat} {l0 : Nat} {l1 : Nat} {l2 : Nat} {l3 : Nat} {l4 : Int32} {y5 : Option am_V} {y6 : Option am_V} {h : am_H} (H : (am_T h l0 = 1 ∨ am_T h l0 = 3) ∧ vp_in (l4 + (1 : Int32)) (am_N h l0) ∧ (am_T h l0 = 1 ∨ am_T h l0 = 3) ∧ vp_in (l4 + (2 : Int32)) (am_N h l0) ∧ (am_T h l0 = 1 ∨ am_T h l0 = 3) ∧ vp_in (l4 + (3 : Int32)) (am_N h l0) ∧ am_T h l1 = 10 ∧ am_PC d mi_X_link [.inr (.inr l1), .inl (am_aI h l0 (l4 + (1 : Int32)).toNatClampNeg), .inr (.inl (((am_aI h l0 (l4 + (2 : Int32)).toNatClampNeg).toInt64 <<< ((32 : Int32).toInt64 &&& 63)) ||| ((am_aI h l0 (l4 + (3 : Int32)).toNatClampNeg).toInt64 &&& (4294967295 : Int64))))] h (fun r1 h2 => ∃ x3 : Int32, r1 = some (.inl x3) ∧ (am_T h2 l0 = 1 ∨ am_T h2 l0 = 3) ∧ vp_in (l4 + (1 : Int32)) (am_N h2 l0) ∧ (am_T h2 l0 = 1 ∨ am_T h2 l0 = 3) ∧ vp_in (l4 + (2 : Int32)) (am_N h2 l0) ∧ (am_T h2 l0 = 1 ∨ am_T h2 l0 = 3) ∧ vp_in (l4 + (3 : Int32)) (am_N h2 l0) ∧ am_T h2 l2 = 17 ∧ am_PC d mi_M_link [.inr (.inr l2), .inl (am_aI h2 l0 (l4 + (1 : Int32)).toNatClampNeg), .inr (.inl (((am_aI h2 l0 (l4 + (2 : Int32)).toNatClampNeg).toInt64 <<< ((32 : Int32).toInt64 &&& 63)) ||| ((am_aI h2 l0 (l4 + (3 : Int32)).toNatClampNeg).toInt64 &&& (4294967295 : Int64))))] h2 (fun r4 h5 => ∃ x6 : Int32, r4 = some (.inl x6) ∧ ((x3 = x6) → G 959 [some (.inr (.inr l0)), some (.inr (.inr l1)), some (.inr (.inr l2)), some (.inr (.inr l3)), some (.inl l4), y5, y6] [] h5) ∧ (¬ (x3 = x6) → ((0 : Int32) = 0 ∨ (0 : Int32) = 1) ∧ Rt (some (.inl (0 : Int32))) h5)))) : am_BG G Rt 52 [33, 112, 181, 308, 332, 396, 457, 514, 551, 632, 759, 828, 897, 922, 959] d mi_W_law 112 [some (.inr (.inr l0)), some (.inr (.inr l1)), some (.inr (.inr l2)), some (.inr (.inr l3)), some (.inl l4), y5, y6] [] h := H
set_option maxRecDepth 100000 in
theorem bg_181 {G : Nat → am_Ls → am_Sk → am_H → Prop} {Rt : Option am_V → am_H → Prop} {d : Nat} {l0 : Nat} {l1 : Nat} {l2 : Nat} {l3 : Nat} {l4 : Int32} {y5 : Option am_V} {y6 : Option am_V} {h : am_H} (H : (am_T h l0 = 1 ∨ am_T h l0 = 3) ∧ vp_in (l4 + (1 : Int32)) (am_N h l0) ∧ (am_T h l0 = 1 ∨ am_T h l0 = 3) ∧ vp_in (l4 + (2 : Int32)) (am_N h l0) ∧ (am_T h l0 = 1 ∨ am_T h l0 = 3) ∧ vp_in (l4 + (3 : Int32)) (am_N h l0) ∧ (am_T h l0 = 1 ∨ am_T h l0 = 3) ∧ vp_in (l4 + (4 : Int32)) (am_N h l0) ∧ (am_T h l0 = 1 ∨ am_T h l0 = 3) ∧ vp_in (l4 + (5 : Int32)) (am_N h l0) ∧ (am_T h l0 = 1 ∨ am_T h l0 = 3) ∧ vp_in (l4 + (6 : Int32)) (am_N h l0) ∧ am_T h l1 = 10 ∧ am_PC d mi_X_gate [.inr (.inr l1), .inl (am_aI h l0 (l4 + (1 : Int32)).toNatClampNeg), .inl (am_aI h l0 (l4 + (2 : Int32)).toNatClampNeg), .inr (.inl (((am_aI h l0 (l4 + (3 : Int32)).toNatClampNeg).toInt64 <<< ((32 : Int32).toInt64 &&& 63)) ||| ((am_aI h l0 (l4 + (4 : Int32)).toNatClampNeg).toInt64 &&& (4294967295 : Int64)))), .inr (.inl (((am_aI h l0 (l4 + (5 : Int32)).toNatClampNeg).toInt64 <<< ((32 : Int32).toInt64 &&& 63)) ||| ((am_aI h l0 (l4 + (6 : Int32)).toNatClampNeg).toInt64 &&& (4294967295 : Int64))))] h (fun r1 h2 => ∃ x3 : Int32, r1 = some (.inl x3) ∧ (am_T h2 l0 = 1 ∨ am_T h2 l0 = 3) ∧ vp_in (l4 + (1 : Int32)) (am_N h2 l0) ∧ (am_T h2 l0 = 1 ∨ am_T h2 l0 = 3) ∧ vp_in (l4 + (2 : Int32)) (am_N h2 l0) ∧ (am_T h2 l0 = 1 ∨ am_T h2 l0 = 3) ∧ vp_in (l4 + (3 : Int32)) (am_N h2 l0) ∧ (am_T h2 l0 = 1 ∨ am_T h2 l0 = 3) ∧ vp_in (l4 + (4 : Int32)) (am_N h2 l0) ∧ (am_T h2 l0 = 1 ∨ am_T h2 l0 = 3) ∧ vp_in (l4 + (5 : Int32)) (am_N h2 l0) ∧ (am_T h2 l0 = 1 ∨ am_T h2 l0 = 3) ∧ vp_in (l4 + (6 : Int32)) (am_N h2 l0) ∧ am_T h2 l2 = 17 ∧ am_PC d mi_M_gate [.inr (.inr l2), .inl (am_aI h2 l0 (l4 + (1 : Int32)).toNatClampNeg), .inl (am_aI h2 l0 (l4 + (2 : Int32)).toNatClampNeg), .inr (.inl (((am_aI h2 l0 (l4 + (3 : Int32)).toNatClampNeg).toInt64 <<< ((32 : Int32).toInt64 &&& 63)) ||| ((am_aI h2 l0 (l4 + (4 : Int32)).toNatClampNeg).toInt64 &&& (4294967295 : Int64)))), .inr (.inl (((am_aI h2 l0 (l4 + (5 : Int32)).toNatClampNeg).toInt64 <<< ((32 : Int32).toInt64 &&& 63)) ||| ((am_aI h2 l0 (l4 + (6 : Int32)).toNatClampNeg).toInt64 &&& (4294967295 : Int64))))] h2 (fun r4 h5 => ∃ x6 : Int32, r4 = some (.inl x6) ∧ ((x3 = x6) → G 959 [some (.inr (.inr l0)), some (.inr (.inr l1)), some (.inr (.inr l2)), some (.inr (.inr l3)), some (.inl l4), y5, y6] [] h5) ∧ (¬ (x3 = x6) → ((0 : Int32) = 0 ∨ (0 : Int32) = 1) ∧ Rt (some (.inl (0 : Int32))) h5)))) : am_BG G Rt 96 [33, 112, 181, 308, 332, 396, 457, 514, 551, 632, 759, 828, 897, 922, 959] d mi_W_law 181 [some (.inr (.inr l0)), some (.inr (.inr l1)), some (.inr (.inr l2)), some (.inr (.inr l3)), some (.inl l4), y5, y6] [] h := H
set_option maxRecDepth 100000 in
theorem bg_308 {G : Nat → am_Ls → am_Sk → am_H → Prop} {Rt : Option am_V → am_H → Prop} {d : Nat} {l0 : Nat} {l1 : Nat} {l2 : Nat} {l3 : Nat} {l4 : Int32} {y5 : Option am_V} {y6 : Option am_V} {h : am_H} (H : (am_T h l0 = 1 ∨ am_T h l0 = 3) ∧ vp_in (l4 + (1 : Int32)) (am_N h l0) ∧ (am_T h l0 = 1 ∨ am_T h l0 = 3) ∧ vp_in (l4 + (2 : Int32)) (am_N h l0) ∧ G 332 [some (.inr (.inr l0)), some (.inr (.inr l1)), some (.inr (.inr l2)), some (.inr (.inr l3)), some (.inl l4), y5, y6] [.inr (.inr l3), .inr (.inl (((am_aI h l0 (l4 + (1 : Int32)).toNatClampNeg).toInt64 <<< ((32 : Int32).toInt64 &&& 63)) ||| ((am_aI h l0 (l4 + (2 : Int32)).toNatClampNeg).toInt64 &&& (4294967295 : Int64)))), .inr (.inr l1)] h) : am_BG G Rt 21 [33, 112, 181, 308, 332, 396, 457, 514, 551, 632, 759, 828, 897, 922, 959] d mi_W_law 308 [some (.inr (.inr l0)), some (.inr (.inr l1)), some (.inr (.inr l2)), some (.inr (.inr l3)), some (.inl l4), y5, y6] [] h := H
set_option maxRecDepth 100000 in
theorem bg_396 {G : Nat → am_Ls → am_Sk → am_H → Prop} {Rt : Option am_V → am_H → Prop} {d : Nat} {l0 : Nat} {l1 : Nat} {l2 : Nat} {l3 : Nat} {l4 : Int32} {y5 : Option am_V} {y6 : Option am_V} {h : am_H} (H : (am_T h l0 = 1 ∨ am_T h l0 = 3) ∧ vp_in (l4 + (1 : Int32)) (am_N h l0) ∧ (am_T h l0 = 1 ∨ am_T h l0 = 3) ∧ vp_in (l4 + (2 : Int32)) (am_N h l0) ∧ (am_T h l0 = 1 ∨ am_T h l0 = 3) ∧ vp_in (l4 + (3 : Int32)) (am_N h l0) ∧ (am_T h l0 = 1 ∨ am_T h l0 = 3) ∧ vp_in (l4 + (4 : Int32)) (am_N h l0) ∧ am_T h l1 = 10 ∧ am_PC d mi_X_frame [.inr (.inr l1), .inl (am_aI h l0 (l4 + (1 : Int32)).toNatClampNeg), .inl (am_aI h l0 (l4 + (2 : Int32)).toNatClampNeg), .inl (am_aI h l0 (l4 + (3 : Int32)).toNatClampNeg), .inl (am_aI h l0 (l4 + (4 : Int32)).toNatClampNeg)] h (fun r1 h2 => ∃ x3 : Int32, r1 = some (.inl x3) ∧ (am_T h2 l0 = 1 ∨ am_T h2 l0 = 3) ∧ vp_in (l4 + (1 : Int32)) (am_N h2 l0) ∧ (am_T h2 l0 = 1 ∨ am_T h2 l0 = 3) ∧ vp_in (l4 + (2 : Int32)) (am_N h2 l0) ∧ (am_T h2 l0 = 1 ∨ am_T h2 l0 = 3) ∧ vp_in (l4 + (3 : Int32)) (am_N h2 l0) ∧ (am_T h2 l0 = 1 ∨ am_T h2 l0 = 3) ∧ vp_in (l4 + (4 : Int32)) (am_N h2 l0) ∧ am_T h2 l2 = 17 ∧ am_PC d mi_M_frame [.inr (.inr l2), .inl (am_aI h2 l0 (l4 + (1 : Int32)).toNatClampNeg), .inl (am_aI h2 l0 (l4 + (2 : Int32)).toNatClampNeg), .inl (am_aI h2 l0 (l4 + (3 : Int32)).toNatClampNeg), .inl (am_aI h2 l0 (l4 + (4 : Int32)).toNatClampNeg)] h2 (fun r4 h5 => ∃ x6 : Int32, r4 = some (.inl x6) ∧ ((x3 = x6) → G 959 [some (.inr (.inr l0)), some (.inr (.inr l1)), some (.inr (.inr l2)), some (.inr (.inr l3)), some (.inl l4), y5, y6] [] h5) ∧ (¬ (x3 = x6) → ((0 : Int32) = 0 ∨ (0 : Int32) = 1) ∧ Rt (some (.inl (0 : Int32))) h5)))) : am_BG G Rt 48 [33, 112, 181, 308, 332, 396, 457, 514, 551, 632, 759, 828, 897, 922, 959] d mi_W_law 396 [some (.inr (.inr l0)), some (.inr (.inr l1)), some (.inr (.inr l2)), some (.inr (.inr l3)), some (.inl l4), y5, y6] [] h := H
set_option maxRecDepth 100000 in
theorem bg_457 {G : Nat → am_Ls → am_Sk → am_H → Prop} {Rt : Option am_V → am_H → Prop} {d : Nat} {l0 : Nat} {l1 : Nat} {l2 : Nat} {l3 : Nat} {l4 : Int32} {y5 : Option am_V} {y6 : Option am_V} {h : am_H} (H : (am_T h l0 = 1 ∨ am_T h l0 = 3) ∧ vp_in (l4 + (1 : Int32)) (am_N h l0) ∧ (am_T h l0 = 1 ∨ am_T h l0 = 3) ∧ vp_in (l4 + (2 : Int32)) (am_N h l0) ∧ am_T h l1 = 10 ∧ am_PC d mi_X_run [.inr (.inr l1), .inr (.inl (((am_aI h l0 (l4 + (1 : Int32)).toNatClampNeg).toInt64 <<< ((32 : Int32).toInt64 &&& 63)) ||| ((am_aI h l0 (l4 + (2 : Int32)).toNatClampNeg).toInt64 &&& (4294967295 : Int64))))] h (fun r1 h2 => ∃ x3 : Int32, r1 = some (.inl x3) ∧ (am_T h2 l0 = 1 ∨ am_T h2 l0 = 3) ∧ vp_in (l4 + (1 : Int32)) (am_N h2 l0) ∧ (am_T h2 l0 = 1 ∨ am_T h2 l0 = 3) ∧ vp_in (l4 + (2 : Int32)) (am_N h2 l0) ∧ am_T h2 l2 = 17 ∧ am_PC d mi_M_run [.inr (.inr l2), .inr (.inl (((am_aI h2 l0 (l4 + (1 : Int32)).toNatClampNeg).toInt64 <<< ((32 : Int32).toInt64 &&& 63)) ||| ((am_aI h2 l0 (l4 + (2 : Int32)).toNatClampNeg).toInt64 &&& (4294967295 : Int64))))] h2 (fun r4 h5 => ∃ x6 : Int32, r4 = some (.inl x6) ∧ ((x3 = x6) → G 959 [some (.inr (.inr l0)), some (.inr (.inr l1)), some (.inr (.inr l2)), some (.inr (.inr l3)), some (.inl l4), y5, y6] [] h5) ∧ (¬ (x3 = x6) → ((0 : Int32) = 0 ∨ (0 : Int32) = 1) ∧ Rt (some (.inl (0 : Int32))) h5)))) : am_BG G Rt 42 [33, 112, 181, 308, 332, 396, 457, 514, 551, 632, 759, 828, 897, 922, 959] d mi_W_law 457 [some (.inr (.inr l0)), some (.inr (.inr l1)), some (.inr (.inr l2)), some (.inr (.inr l3)), some (.inl l4), y5, y6] [] h := H
set_option maxRecDepth 100000 in
theorem bg_514 {G : Nat → am_Ls → am_Sk → am_H → Prop} {Rt : Option am_V → am_H → Prop} {d : Nat} {l0 : Nat} {l1 : Nat} {l2 : Nat} {l3 : Nat} {l4 : Int32} {y5 : Option am_V} {y6 : Option am_V} {h : am_H} (H : (am_T h l0 = 1 ∨ am_T h l0 = 3) ∧ vp_in (l4 + (1 : Int32)) (am_N h l0) ∧ (am_T h l0 = 1 ∨ am_T h l0 = 3) ∧ vp_in (l4 + (2 : Int32)) (am_N h l0) ∧ am_T h l1 = 10 ∧ am_PC d mi_X_left [.inr (.inr l1), .inl (am_aI h l0 (l4 + (1 : Int32)).toNatClampNeg), .inl (am_aI h l0 (l4 + (2 : Int32)).toNatClampNeg)] h (fun r1 h2 => ∃ x3 : Int32, r1 = some (.inl x3) ∧ (am_T h2 l0 = 1 ∨ am_T h2 l0 = 3) ∧ vp_in (l4 + (1 : Int32)) (am_N h2 l0) ∧ (am_T h2 l0 = 1 ∨ am_T h2 l0 = 3) ∧ vp_in (l4 + (2 : Int32)) (am_N h2 l0) ∧ am_T h2 l2 = 17 ∧ am_PC d mi_M_left [.inr (.inr l2), .inl (am_aI h2 l0 (l4 + (1 : Int32)).toNatClampNeg), .inl (am_aI h2 l0 (l4 + (2 : Int32)).toNatClampNeg)] h2 (fun r4 h5 => ∃ x6 : Int32, r4 = some (.inl x6) ∧ ((x3 = x6) → G 959 [some (.inr (.inr l0)), some (.inr (.inr l1)), some (.inr (.inr l2)), some (.inr (.inr l3)), some (.inl l4), y5, y6] [] h5) ∧ (¬ (x3 = x6) → ((0 : Int32) = 0 ∨ (0 : Int32) = 1) ∧ Rt (some (.inl (0 : Int32))) h5)))) : am_BG G Rt 28 [33, 112, 181, 308, 332, 396, 457, 514, 551, 632, 759, 828, 897, 922, 959] d mi_W_law 514 [some (.inr (.inr l0)), some (.inr (.inr l1)), some (.inr (.inr l2)), some (.inr (.inr l3)), some (.inl l4), y5, y6] [] h := H
set_option maxRecDepth 100000 in
theorem bg_551 {G : Nat → am_Ls → am_Sk → am_H → Prop} {Rt : Option am_V → am_H → Prop} {d : Nat} {l0 : Nat} {l1 : Nat} {l2 : Nat} {l3 : Nat} {l4 : Int32} {y5 : Option am_V} {y6 : Option am_V} {h : am_H} (H : (am_T h l0 = 1 ∨ am_T h l0 = 3) ∧ vp_in (l4 + (1 : Int32)) (am_N h l0) ∧ (am_T h l0 = 1 ∨ am_T h l0 = 3) ∧ vp_in (l4 + (2 : Int32)) (am_N h l0) ∧ (am_T h l0 = 1 ∨ am_T h l0 = 3) ∧ vp_in (l4 + (3 : Int32)) (am_N h l0) ∧ (am_T h l0 = 1 ∨ am_T h l0 = 3) ∧ vp_in (l4 + (4 : Int32)) (am_N h l0) ∧ am_T h l1 = 10 ∧ am_PC d mi_X_learn [.inr (.inr l1), .inl (am_aI h l0 (l4 + (1 : Int32)).toNatClampNeg), .inl (am_aI h l0 (l4 + (2 : Int32)).toNatClampNeg), .inr (.inl (((am_aI h l0 (l4 + (3 : Int32)).toNatClampNeg).toInt64 <<< ((32 : Int32).toInt64 &&& 63)) ||| ((am_aI h l0 (l4 + (4 : Int32)).toNatClampNeg).toInt64 &&& (4294967295 : Int64))))] h (fun r1 h2 => ∃ x3 : Int32, r1 = some (.inl x3) ∧ (am_T h2 l0 = 1 ∨ am_T h2 l0 = 3) ∧ vp_in (l4 + (1 : Int32)) (am_N h2 l0) ∧ (am_T h2 l0 = 1 ∨ am_T h2 l0 = 3) ∧ vp_in (l4 + (2 : Int32)) (am_N h2 l0) ∧ (am_T h2 l0 = 1 ∨ am_T h2 l0 = 3) ∧ vp_in (l4 + (3 : Int32)) (am_N h2 l0) ∧ (am_T h2 l0 = 1 ∨ am_T h2 l0 = 3) ∧ vp_in (l4 + (4 : Int32)) (am_N h2 l0) ∧ am_T h2 l2 = 17 ∧ am_PC d mi_M_learn [.inr (.inr l2), .inl (am_aI h2 l0 (l4 + (1 : Int32)).toNatClampNeg), .inl (am_aI h2 l0 (l4 + (2 : Int32)).toNatClampNeg), .inr (.inl (((am_aI h2 l0 (l4 + (3 : Int32)).toNatClampNeg).toInt64 <<< ((32 : Int32).toInt64 &&& 63)) ||| ((am_aI h2 l0 (l4 + (4 : Int32)).toNatClampNeg).toInt64 &&& (4294967295 : Int64))))] h2 (fun r4 h5 => ∃ x6 : Int32, r4 = some (.inl x6) ∧ ((x3 = x6) → G 959 [some (.inr (.inr l0)), some (.inr (.inr l1)), some (.inr (.inr l2)), some (.inr (.inr l3)), some (.inl l4), y5, y6] [] h5) ∧ (¬ (x3 = x6) → ((0 : Int32) = 0 ∨ (0 : Int32) = 1) ∧ Rt (some (.inl (0 : Int32))) h5)))) : am_BG G Rt 62 [33, 112, 181, 308, 332, 396, 457, 514, 551, 632, 759, 828, 897, 922, 959] d mi_W_law 551 [some (.inr (.inr l0)), some (.inr (.inr l1)), some (.inr (.inr l2)), some (.inr (.inr l3)), some (.inl l4), y5, y6] [] h := H
set_option maxRecDepth 100000 in
theorem bg_632 {G : Nat → am_Ls → am_Sk → am_H → Prop} {Rt : Option am_V → am_H → Prop} {d : Nat} {l0 : Nat} {l1 : Nat} {l2 : Nat} {l3 : Nat} {l4 : Int32} {y5 : Option am_V} {y6 : Option am_V} {h : am_H} (H : (am_T h l0 = 1 ∨ am_T h l0 = 3) ∧ vp_in (l4 + (1 : Int32)) (am_N h l0) ∧ (am_T h l0 = 1 ∨ am_T h l0 = 3) ∧ vp_in (l4 + (2 : Int32)) (am_N h l0) ∧ (am_T h l0 = 1 ∨ am_T h l0 = 3) ∧ vp_in (l4 + (3 : Int32)) (am_N h l0) ∧ (am_T h l0 = 1 ∨ am_T h l0 = 3) ∧ vp_in (l4 + (4 : Int32)) (am_N h l0) ∧ (am_T h l0 = 1 ∨ am_T h l0 = 3) ∧ vp_in (l4 + (5 : Int32)) (am_N h l0) ∧ (am_T h l0 = 1 ∨ am_T h l0 = 3) ∧ vp_in (l4 + (6 : Int32)) (am_N h l0) ∧ am_T h l1 = 10 ∧ am_PC d mi_X_credit [.inr (.inr l1), .inl (am_aI h l0 (l4 + (1 : Int32)).toNatClampNeg), .inl (am_aI h l0 (l4 + (2 : Int32)).toNatClampNeg), .inr (.inl (((am_aI h l0 (l4 + (3 : Int32)).toNatClampNeg).toInt64 <<< ((32 : Int32).toInt64 &&& 63)) ||| ((am_aI h l0 (l4 + (4 : Int32)).toNatClampNeg).toInt64 &&& (4294967295 : Int64)))), .inr (.inl (((am_aI h l0 (l4 + (5 : Int32)).toNatClampNeg).toInt64 <<< ((32 : Int32).toInt64 &&& 63)) ||| ((am_aI h l0 (l4 + (6 : Int32)).toNatClampNeg).toInt64 &&& (4294967295 : Int64))))] h (fun r1 h2 => ∃ x3 : Int32, r1 = some (.inl x3) ∧ (am_T h2 l0 = 1 ∨ am_T h2 l0 = 3) ∧ vp_in (l4 + (1 : Int32)) (am_N h2 l0) ∧ (am_T h2 l0 = 1 ∨ am_T h2 l0 = 3) ∧ vp_in (l4 + (2 : Int32)) (am_N h2 l0) ∧ (am_T h2 l0 = 1 ∨ am_T h2 l0 = 3) ∧ vp_in (l4 + (3 : Int32)) (am_N h2 l0) ∧ (am_T h2 l0 = 1 ∨ am_T h2 l0 = 3) ∧ vp_in (l4 + (4 : Int32)) (am_N h2 l0) ∧ (am_T h2 l0 = 1 ∨ am_T h2 l0 = 3) ∧ vp_in (l4 + (5 : Int32)) (am_N h2 l0) ∧ (am_T h2 l0 = 1 ∨ am_T h2 l0 = 3) ∧ vp_in (l4 + (6 : Int32)) (am_N h2 l0) ∧ am_T h2 l2 = 17 ∧ am_PC d mi_M_credit [.inr (.inr l2), .inl (am_aI h2 l0 (l4 + (1 : Int32)).toNatClampNeg), .inl (am_aI h2 l0 (l4 + (2 : Int32)).toNatClampNeg), .inr (.inl (((am_aI h2 l0 (l4 + (3 : Int32)).toNatClampNeg).toInt64 <<< ((32 : Int32).toInt64 &&& 63)) ||| ((am_aI h2 l0 (l4 + (4 : Int32)).toNatClampNeg).toInt64 &&& (4294967295 : Int64)))), .inr (.inl (((am_aI h2 l0 (l4 + (5 : Int32)).toNatClampNeg).toInt64 <<< ((32 : Int32).toInt64 &&& 63)) ||| ((am_aI h2 l0 (l4 + (6 : Int32)).toNatClampNeg).toInt64 &&& (4294967295 : Int64))))] h2 (fun r4 h5 => ∃ x6 : Int32, r4 = some (.inl x6) ∧ ((x3 = x6) → G 959 [some (.inr (.inr l0)), some (.inr (.inr l1)), some (.inr (.inr l2)), some (.inr (.inr l3)), some (.inl l4), y5, y6] [] h5) ∧ (¬ (x3 = x6) → ((0 : Int32) = 0 ∨ (0 : Int32) = 1) ∧ Rt (some (.inl (0 : Int32))) h5)))) : am_BG G Rt 96 [33, 112, 181, 308, 332, 396, 457, 514, 551, 632, 759, 828, 897, 922, 959] d mi_W_law 632 [some (.inr (.inr l0)), some (.inr (.inr l1)), some (.inr (.inr l2)), some (.inr (.inr l3)), some (.inl l4), y5, y6] [] h := H
set_option maxRecDepth 100000 in
theorem bg_759 {G : Nat → am_Ls → am_Sk → am_H → Prop} {Rt : Option am_V → am_H → Prop} {d : Nat} {l0 : Nat} {l1 : Nat} {l2 : Nat} {l3 : Nat} {l4 : Int32} {y5 : Option am_V} {y6 : Option am_V} {h : am_H} (H : (am_T h l0 = 1 ∨ am_T h l0 = 3) ∧ vp_in (l4 + (1 : Int32)) (am_N h l0) ∧ (am_T h l0 = 1 ∨ am_T h l0 = 3) ∧ vp_in (l4 + (2 : Int32)) (am_N h l0) ∧ (am_T h l0 = 1 ∨ am_T h l0 = 3) ∧ vp_in (l4 + (3 : Int32)) (am_N h l0) ∧ am_T h l1 = 10 ∧ am_PC d mi_X_filter [.inr (.inr l1), .inl (am_aI h l0 (l4 + (1 : Int32)).toNatClampNeg), .inr (.inl (((am_aI h l0 (l4 + (2 : Int32)).toNatClampNeg).toInt64 <<< ((32 : Int32).toInt64 &&& 63)) ||| ((am_aI h l0 (l4 + (3 : Int32)).toNatClampNeg).toInt64 &&& (4294967295 : Int64))))] h (fun r1 h2 => ∃ x3 : Int32, r1 = some (.inl x3) ∧ (am_T h2 l0 = 1 ∨ am_T h2 l0 = 3) ∧ vp_in (l4 + (1 : Int32)) (am_N h2 l0) ∧ (am_T h2 l0 = 1 ∨ am_T h2 l0 = 3) ∧ vp_in (l4 + (2 : Int32)) (am_N h2 l0) ∧ (am_T h2 l0 = 1 ∨ am_T h2 l0 = 3) ∧ vp_in (l4 + (3 : Int32)) (am_N h2 l0) ∧ am_T h2 l2 = 17 ∧ am_PC d mi_M_filter [.inr (.inr l2), .inl (am_aI h2 l0 (l4 + (1 : Int32)).toNatClampNeg), .inr (.inl (((am_aI h2 l0 (l4 + (2 : Int32)).toNatClampNeg).toInt64 <<< ((32 : Int32).toInt64 &&& 63)) ||| ((am_aI h2 l0 (l4 + (3 : Int32)).toNatClampNeg).toInt64 &&& (4294967295 : Int64))))] h2 (fun r4 h5 => ∃ x6 : Int32, r4 = some (.inl x6) ∧ ((x3 = x6) → G 959 [some (.inr (.inr l0)), some (.inr (.inr l1)), some (.inr (.inr l2)), some (.inr (.inr l3)), some (.inl l4), y5, y6] [] h5) ∧ (¬ (x3 = x6) → ((0 : Int32) = 0 ∨ (0 : Int32) = 1) ∧ Rt (some (.inl (0 : Int32))) h5)))) : am_BG G Rt 52 [33, 112, 181, 308, 332, 396, 457, 514, 551, 632, 759, 828, 897, 922, 959] d mi_W_law 759 [some (.inr (.inr l0)), some (.inr (.inr l1)), some (.inr (.inr l2)), some (.inr (.inr l3)), some (.inl l4), y5, y6] [] h := H
set_option maxRecDepth 100000 in
theorem bg_828 {G : Nat → am_Ls → am_Sk → am_H → Prop} {Rt : Option am_V → am_H → Prop} {d : Nat} {l0 : Nat} {l1 : Nat} {l2 : Nat} {l3 : Nat} {l4 : Int32} {y5 : Option am_V} {y6 : Option am_V} {h : am_H} (H : (am_T h l0 = 1 ∨ am_T h l0 = 3) ∧ vp_in (l4 + (1 : Int32)) (am_N h l0) ∧ (am_T h l0 = 1 ∨ am_T h l0 = 3) ∧ vp_in (l4 + (2 : Int32)) (am_N h l0) ∧ (am_T h l0 = 1 ∨ am_T h l0 = 3) ∧ vp_in (l4 + (3 : Int32)) (am_N h l0) ∧ am_T h l1 = 10 ∧ am_PC d mi_X_clock [.inr (.inr l1), .inl (am_aI h l0 (l4 + (1 : Int32)).toNatClampNeg), .inr (.inl (((am_aI h l0 (l4 + (2 : Int32)).toNatClampNeg).toInt64 <<< ((32 : Int32).toInt64 &&& 63)) ||| ((am_aI h l0 (l4 + (3 : Int32)).toNatClampNeg).toInt64 &&& (4294967295 : Int64))))] h (fun r1 h2 => ∃ x3 : Int32, r1 = some (.inl x3) ∧ (am_T h2 l0 = 1 ∨ am_T h2 l0 = 3) ∧ vp_in (l4 + (1 : Int32)) (am_N h2 l0) ∧ (am_T h2 l0 = 1 ∨ am_T h2 l0 = 3) ∧ vp_in (l4 + (2 : Int32)) (am_N h2 l0) ∧ (am_T h2 l0 = 1 ∨ am_T h2 l0 = 3) ∧ vp_in (l4 + (3 : Int32)) (am_N h2 l0) ∧ am_T h2 l2 = 17 ∧ am_PC d mi_M_clock [.inr (.inr l2), .inl (am_aI h2 l0 (l4 + (1 : Int32)).toNatClampNeg), .inr (.inl (((am_aI h2 l0 (l4 + (2 : Int32)).toNatClampNeg).toInt64 <<< ((32 : Int32).toInt64 &&& 63)) ||| ((am_aI h2 l0 (l4 + (3 : Int32)).toNatClampNeg).toInt64 &&& (4294967295 : Int64))))] h2 (fun r4 h5 => ∃ x6 : Int32, r4 = some (.inl x6) ∧ ((x3 = x6) → G 959 [some (.inr (.inr l0)), some (.inr (.inr l1)), some (.inr (.inr l2)), some (.inr (.inr l3)), some (.inl l4), y5, y6] [] h5) ∧ (¬ (x3 = x6) → ((0 : Int32) = 0 ∨ (0 : Int32) = 1) ∧ Rt (some (.inl (0 : Int32))) h5)))) : am_BG G Rt 52 [33, 112, 181, 308, 332, 396, 457, 514, 551, 632, 759, 828, 897, 922, 959] d mi_W_law 828 [some (.inr (.inr l0)), some (.inr (.inr l1)), some (.inr (.inr l2)), some (.inr (.inr l3)), some (.inl l4), y5, y6] [] h := H
set_option maxRecDepth 100000 in
theorem bg_897 {G : Nat → am_Ls → am_Sk → am_H → Prop} {Rt : Option am_V → am_H → Prop} {d : Nat} {l0 : Nat} {l1 : Nat} {l2 : Nat} {l3 : Nat} {l4 : Int32} {y5 : Option am_V} {y6 : Option am_V} {h : am_H} (H : (am_T h l0 = 1 ∨ am_T h l0 = 3) ∧ vp_in (l4 + (1 : Int32)) (am_N h l0) ∧ am_T h l1 = 10 ∧ am_PC d mi_X_dropped [.inr (.inr l1), .inl (am_aI h l0 (l4 + (1 : Int32)).toNatClampNeg)] h (fun r1 h2 => ∃ x3 : Int32, r1 = some (.inl x3) ∧ (am_T h2 l0 = 1 ∨ am_T h2 l0 = 3) ∧ vp_in (l4 + (1 : Int32)) (am_N h2 l0) ∧ am_T h2 l2 = 17 ∧ am_PC d mi_M_dropped [.inr (.inr l2), .inl (am_aI h2 l0 (l4 + (1 : Int32)).toNatClampNeg)] h2 (fun r4 h5 => ∃ x6 : Int32, r4 = some (.inl x6) ∧ ((x3 = x6) → G 959 [some (.inr (.inr l0)), some (.inr (.inr l1)), some (.inr (.inr l2)), some (.inr (.inr l3)), some (.inl l4), y5, y6] [] h5) ∧ (¬ (x3 = x6) → ((0 : Int32) = 0 ∨ (0 : Int32) = 1) ∧ Rt (some (.inl (0 : Int32))) h5)))) : am_BG G Rt 18 [33, 112, 181, 308, 332, 396, 457, 514, 551, 632, 759, 828, 897, 922, 959] d mi_W_law 897 [some (.inr (.inr l0)), some (.inr (.inr l1)), some (.inr (.inr l2)), some (.inr (.inr l3)), some (.inl l4), y5, y6] [] h := H
set_option maxRecDepth 100000 in
theorem bg_922 {G : Nat → am_Ls → am_Sk → am_H → Prop} {Rt : Option am_V → am_H → Prop} {d : Nat} {l0 : Nat} {l1 : Nat} {l2 : Nat} {l3 : Nat} {l4 : Int32} {y5 : Option am_V} {y6 : Option am_V} {h : am_H} (H : (am_T h l0 = 1 ∨ am_T h l0 = 3) ∧ vp_in (l4 + (1 : Int32)) (am_N h l0) ∧ (am_T h l0 = 1 ∨ am_T h l0 = 3) ∧ vp_in (l4 + (2 : Int32)) (am_N h l0) ∧ am_T h l1 = 10 ∧ am_PC d mi_X_service [.inr (.inr l1), .inl (am_aI h l0 (l4 + (1 : Int32)).toNatClampNeg), .inl (am_aI h l0 (l4 + (2 : Int32)).toNatClampNeg)] h (fun r1 h2 => ∃ x3 : Int32, r1 = some (.inl x3) ∧ (am_T h2 l0 = 1 ∨ am_T h2 l0 = 3) ∧ vp_in (l4 + (1 : Int32)) (am_N h2 l0) ∧ (am_T h2 l0 = 1 ∨ am_T h2 l0 = 3) ∧ vp_in (l4 + (2 : Int32)) (am_N h2 l0) ∧ am_T h2 l2 = 17 ∧ am_PC d mi_M_service [.inr (.inr l2), .inl (am_aI h2 l0 (l4 + (1 : Int32)).toNatClampNeg), .inl (am_aI h2 l0 (l4 + (2 : Int32)).toNatClampNeg)] h2 (fun r4 h5 => ∃ x6 : Int32, r4 = some (.inl x6) ∧ ((x3 = x6) → G 959 [some (.inr (.inr l0)), some (.inr (.inr l1)), some (.inr (.inr l2)), some (.inr (.inr l3)), some (.inl l4), y5, y6] [] h5) ∧ (¬ (x3 = x6) → ((0 : Int32) = 0 ∨ (0 : Int32) = 1) ∧ Rt (some (.inl (0 : Int32))) h5)))) : am_BG G Rt 28 [33, 112, 181, 308, 332, 396, 457, 514, 551, 632, 759, 828, 897, 922, 959] d mi_W_law 922 [some (.inr (.inr l0)), some (.inr (.inr l1)), some (.inr (.inr l2)), some (.inr (.inr l3)), some (.inl l4), y5, y6] [] h := H
set_option maxRecDepth 100000 in
theorem bg_959 {G : Nat → am_Ls → am_Sk → am_H → Prop} {Rt : Option am_V → am_H → Prop} {d : Nat} {l0 : Nat} {l1 : Nat} {l2 : Nat} {l3 : Nat} {l4 : Int32} {y5 : Option am_V} {y6 : Option am_V} {h : am_H} (H : G 33 [some (.inr (.inr l0)), some (.inr (.inr l1)), some (.inr (.inr l2)), some (.inr (.inr l3)), some (.inl (l4 + (7 : Int32))), y5, y6] [] h) : am_BG G Rt 4 [33, 112, 181, 308, 332, 396, 457, 514, 551, 632, 759, 828, 897, 922, 959] d mi_W_law 959 [some (.inr (.inr l0)), some (.inr (.inr l1)), some (.inr (.inr l2)), some (.inr (.inr l3)), some (.inl l4), y5, y6] [] h := H
set_option maxRecDepth 100000 in
theorem bg_335 {G : Nat → am_Ls → am_Sk → am_H → Prop} {Rt : Option am_V → am_H → Prop} {d : Nat} {l0 : Nat} {l1 : Nat} {l2 : Nat} {l3 : Nat} {l4 : Int32} {y5 : Option am_V} {y6 : Option am_V} {s0 : Int32} {h : am_H} (H : (am_T h l0 = 1 ∨ am_T h l0 = 3) ∧ vp_in (l4 + (1 : Int32)) (am_N h l0) ∧ (am_T h l0 = 1 ∨ am_T h l0 = 3) ∧ vp_in (l4 + (2 : Int32)) (am_N h l0) ∧ am_T h l2 = 17 ∧ am_PC d mi_M_cycle [.inr (.inr l2), .inr (.inl (((am_aI h l0 (l4 + (1 : Int32)).toNatClampNeg).toInt64 <<< ((32 : Int32).toInt64 &&& 63)) ||| ((am_aI h l0 (l4 + (2 : Int32)).toNatClampNeg).toInt64 &&& (4294967295 : Int64))))] h (fun r1 h2 => ∃ x3 : Int32, r1 = some (.inl x3) ∧ am_T h2 l2 = 17 ∧ am_PC d mi_M_thrown [.inr (.inr l2)] h2 (fun r4 h5 => ∃ x6 : Int32, r4 = some (.inl x6) ∧ ((x6 = s0) → ((s0 = 0) → am_T h5 l3 = 2 ∧ vp_in (0 : Int32) (am_N h5 l3) ∧ (((lg_cmp (am_aJ h5 l3 (0 : Int32).toNatClampNeg) x3.toInt64) = 0) → G 959 [some (.inr (.inr l0)), some (.inr (.inr l1)), some (.inr (.inr l2)), some (.inr (.inr l3)), some (.inl l4), some (.inl s0), some (.inl x3)] [] h5) ∧ (¬ ((lg_cmp (am_aJ h5 l3 (0 : Int32).toNatClampNeg) x3.toInt64) = 0) → ((0 : Int32) = 0 ∨ (0 : Int32) = 1) ∧ Rt (some (.inl (0 : Int32))) h5)) ∧ (¬ (s0 = 0) → G 959 [some (.inr (.inr l0)), some (.inr (.inr l1)), some (.inr (.inr l2)), some (.inr (.inr l3)), some (.inl l4), some (.inl s0), some (.inl x3)] [] h5)) ∧ (¬ (x6 = s0) → ((0 : Int32) = 0 ∨ (0 : Int32) = 1) ∧ Rt (some (.inl (0 : Int32))) h5)))) : am_BG G Rt 37 [33, 112, 181, 308, 332, 396, 457, 514, 551, 632, 759, 828, 897, 922, 959] d mi_W_law 335 [some (.inr (.inr l0)), some (.inr (.inr l1)), some (.inr (.inr l2)), some (.inr (.inr l3)), some (.inl l4), y5, y6] [.inl s0] h := H
/-- the script and the places in it -/
def LI (h : am_H) (x l0 : Nat) (l4 : Int32) : Prop := l0 < x ∧ am_T h l0 = 3 ∧ ∀ j : Int32, 0 ≤ j → j ≤ 6 → vp_in (l4 + j) (am_N h l0)
set_option maxRecDepth 100000 in
theorem lo_112 {G : Nat → am_Ls → am_Sk → am_H → Prop} {Rt : Option am_V → am_H → Prop} {x n c l0 : Nat} {l4 : Int32} {y5 y6 : Option am_V} {h : am_H} {s : sg} (hJ : J h x n s c) (hW : WF n s) (ht : s 0 0 + 2000 ≤ 2000000) (hI : LI h x l0 l4)
    (K : ∀ h2 s', J h2 x n s' (c + 1) → WF n s' → eqon (OO x n) h h2 → s' 0 0 ≤ s 0 0 + 2000 → G 959 [some (.inr (.inr l0)), some (.inr (.inr x)), some (.inr (.inr (ax x n + 5))), some (.inr (.inr (ax x n + 30))), some (.inl l4), y5, y6] [] h2) : am_BG G Rt 52 [33, 112, 181, 308, 332, 396, 457, 514, 551, 632, 759, 828, 897, 922, 959] 10 mi_W_law 112 [some (.inr (.inr l0)), some (.inr (.inr x)), some (.inr (.inr (ax x n + 5))), some (.inr (.inr (ax x n + 30))), some (.inl l4), y5, y6] [] h := by
  have hl := hI.1
  have hA := hI.2.1
  have hv := hI.2.2
  have hT : am_T h x = 10 := by obtain ⟨α, e, hX, hM⟩ := hJ; exact X_T hX
  refine bg_112 ⟨Or.inr hA, hv 1 (by decide) (by decide), Or.inr hA, hv 2 (by decide) (by decide), Or.inr hA, hv 3 (by decide) (by decide), hT, st_link hJ hW _ _ _ ?_⟩
  intro h1 y he hT1 k
  obtain ⟨e1, e2, -, -, -, e6, -, -⟩ := he l0 (Or.inl hl)
  rw [e1, e2]
  simp only [e6]
  refine ⟨y, rfl, Or.inr hA, hv 1 (by decide) (by decide), Or.inr hA, hv 2 (by decide) (by decide), Or.inr hA, hv 3 (by decide) (by decide), hT1, k _ ?_⟩
  intro h2 s' a1 a2 a3 a4
  exact ⟨y, rfl, fun _ => K h2 s' a1 a2 a3 a4, fun q => absurd rfl q⟩
set_option maxRecDepth 100000 in
theorem lo_181 {G : Nat → am_Ls → am_Sk → am_H → Prop} {Rt : Option am_V → am_H → Prop} {x n c l0 : Nat} {l4 : Int32} {y5 y6 : Option am_V} {h : am_H} {s : sg} (hJ : J h x n s c) (hW : WF n s) (ht : s 0 0 + 2000 ≤ 2000000) (hI : LI h x l0 l4)
    (K : ∀ h2 s', J h2 x n s' (c + 1) → WF n s' → eqon (OO x n) h h2 → s' 0 0 ≤ s 0 0 + 2000 → G 959 [some (.inr (.inr l0)), some (.inr (.inr x)), some (.inr (.inr (ax x n + 5))), some (.inr (.inr (ax x n + 30))), some (.inl l4), y5, y6] [] h2) : am_BG G Rt 96 [33, 112, 181, 308, 332, 396, 457, 514, 551, 632, 759, 828, 897, 922, 959] 10 mi_W_law 181 [some (.inr (.inr l0)), some (.inr (.inr x)), some (.inr (.inr (ax x n + 5))), some (.inr (.inr (ax x n + 30))), some (.inl l4), y5, y6] [] h := by
  have hl := hI.1
  have hA := hI.2.1
  have hv := hI.2.2
  have hT : am_T h x = 10 := by obtain ⟨α, e, hX, hM⟩ := hJ; exact X_T hX
  refine bg_181 ⟨Or.inr hA, hv 1 (by decide) (by decide), Or.inr hA, hv 2 (by decide) (by decide), Or.inr hA, hv 3 (by decide) (by decide), Or.inr hA, hv 4 (by decide) (by decide), Or.inr hA, hv 5 (by decide) (by decide), Or.inr hA, hv 6 (by decide) (by decide), hT, st_gate hJ hW _ _ _ _ _ ?_⟩
  intro h1 y he hT1 k
  obtain ⟨e1, e2, -, -, -, e6, -, -⟩ := he l0 (Or.inl hl)
  rw [e1, e2]
  simp only [e6]
  refine ⟨y, rfl, Or.inr hA, hv 1 (by decide) (by decide), Or.inr hA, hv 2 (by decide) (by decide), Or.inr hA, hv 3 (by decide) (by decide), Or.inr hA, hv 4 (by decide) (by decide), Or.inr hA, hv 5 (by decide) (by decide), Or.inr hA, hv 6 (by decide) (by decide), hT1, k _ ?_⟩
  intro h2 s' a1 a2 a3 a4
  exact ⟨y, rfl, fun _ => K h2 s' a1 a2 a3 a4, fun q => absurd rfl q⟩
set_option maxRecDepth 100000 in
theorem lo_396 {G : Nat → am_Ls → am_Sk → am_H → Prop} {Rt : Option am_V → am_H → Prop} {x n c l0 : Nat} {l4 : Int32} {y5 y6 : Option am_V} {h : am_H} {s : sg} (hJ : J h x n s c) (hW : WF n s) (ht : s 0 0 + 2000 ≤ 2000000) (hI : LI h x l0 l4)
    (K : ∀ h2 s', J h2 x n s' (c + 1) → WF n s' → eqon (OO x n) h h2 → s' 0 0 ≤ s 0 0 + 2000 → G 959 [some (.inr (.inr l0)), some (.inr (.inr x)), some (.inr (.inr (ax x n + 5))), some (.inr (.inr (ax x n + 30))), some (.inl l4), y5, y6] [] h2) : am_BG G Rt 48 [33, 112, 181, 308, 332, 396, 457, 514, 551, 632, 759, 828, 897, 922, 959] 10 mi_W_law 396 [some (.inr (.inr l0)), some (.inr (.inr x)), some (.inr (.inr (ax x n + 5))), some (.inr (.inr (ax x n + 30))), some (.inl l4), y5, y6] [] h := by
  have hl := hI.1
  have hA := hI.2.1
  have hv := hI.2.2
  have hT : am_T h x = 10 := by obtain ⟨α, e, hX, hM⟩ := hJ; exact X_T hX
  refine bg_396 ⟨Or.inr hA, hv 1 (by decide) (by decide), Or.inr hA, hv 2 (by decide) (by decide), Or.inr hA, hv 3 (by decide) (by decide), Or.inr hA, hv 4 (by decide) (by decide), hT, st_frame hJ hW _ _ _ _ _ ?_⟩
  intro h1 y he hT1 k
  obtain ⟨e1, e2, -, -, -, e6, -, -⟩ := he l0 (Or.inl hl)
  rw [e1, e2]
  simp only [e6]
  refine ⟨y, rfl, Or.inr hA, hv 1 (by decide) (by decide), Or.inr hA, hv 2 (by decide) (by decide), Or.inr hA, hv 3 (by decide) (by decide), Or.inr hA, hv 4 (by decide) (by decide), hT1, k _ ?_⟩
  intro h2 s' a1 a2 a3 a4
  exact ⟨y, rfl, fun _ => K h2 s' a1 a2 a3 a4, fun q => absurd rfl q⟩
set_option maxRecDepth 100000 in
theorem lo_457 {G : Nat → am_Ls → am_Sk → am_H → Prop} {Rt : Option am_V → am_H → Prop} {x n c l0 : Nat} {l4 : Int32} {y5 y6 : Option am_V} {h : am_H} {s : sg} (hJ : J h x n s c) (hW : WF n s) (ht : s 0 0 + 2000 ≤ 2000000) (hI : LI h x l0 l4)
    (K : ∀ h2 s', J h2 x n s' (c + 1) → WF n s' → eqon (OO x n) h h2 → s' 0 0 ≤ s 0 0 + 2000 → G 959 [some (.inr (.inr l0)), some (.inr (.inr x)), some (.inr (.inr (ax x n + 5))), some (.inr (.inr (ax x n + 30))), some (.inl l4), y5, y6] [] h2) : am_BG G Rt 42 [33, 112, 181, 308, 332, 396, 457, 514, 551, 632, 759, 828, 897, 922, 959] 10 mi_W_law 457 [some (.inr (.inr l0)), some (.inr (.inr x)), some (.inr (.inr (ax x n + 5))), some (.inr (.inr (ax x n + 30))), some (.inl l4), y5, y6] [] h := by
  have hl := hI.1
  have hA := hI.2.1
  have hv := hI.2.2
  have hT : am_T h x = 10 := by obtain ⟨α, e, hX, hM⟩ := hJ; exact X_T hX
  refine bg_457 ⟨Or.inr hA, hv 1 (by decide) (by decide), Or.inr hA, hv 2 (by decide) (by decide), hT, st_run hJ hW (by exact ht) _ _ ?_⟩
  intro h1 y he hT1 k
  obtain ⟨e1, e2, -, -, -, e6, -, -⟩ := he l0 (Or.inl hl)
  rw [e1, e2]
  simp only [e6]
  refine ⟨y, rfl, Or.inr hA, hv 1 (by decide) (by decide), Or.inr hA, hv 2 (by decide) (by decide), hT1, k _ ?_⟩
  intro h2 s' a1 a2 a3 a4
  exact ⟨y, rfl, fun _ => K h2 s' a1 a2 a3 a4, fun q => absurd rfl q⟩
set_option maxRecDepth 100000 in
theorem lo_514 {G : Nat → am_Ls → am_Sk → am_H → Prop} {Rt : Option am_V → am_H → Prop} {x n c l0 : Nat} {l4 : Int32} {y5 y6 : Option am_V} {h : am_H} {s : sg} (hJ : J h x n s c) (hW : WF n s) (ht : s 0 0 + 2000 ≤ 2000000) (hI : LI h x l0 l4)
    (K : ∀ h2 s', J h2 x n s' (c + 1) → WF n s' → eqon (OO x n) h h2 → s' 0 0 ≤ s 0 0 + 2000 → G 959 [some (.inr (.inr l0)), some (.inr (.inr x)), some (.inr (.inr (ax x n + 5))), some (.inr (.inr (ax x n + 30))), some (.inl l4), y5, y6] [] h2) : am_BG G Rt 28 [33, 112, 181, 308, 332, 396, 457, 514, 551, 632, 759, 828, 897, 922, 959] 10 mi_W_law 514 [some (.inr (.inr l0)), some (.inr (.inr x)), some (.inr (.inr (ax x n + 5))), some (.inr (.inr (ax x n + 30))), some (.inl l4), y5, y6] [] h := by
  have hl := hI.1
  have hA := hI.2.1
  have hv := hI.2.2
  have hT : am_T h x = 10 := by obtain ⟨α, e, hX, hM⟩ := hJ; exact X_T hX
  refine bg_514 ⟨Or.inr hA, hv 1 (by decide) (by decide), Or.inr hA, hv 2 (by decide) (by decide), hT, st_left hJ hW _ _ _ ?_⟩
  intro h1 y he hT1 k
  obtain ⟨e1, e2, -, -, -, e6, -, -⟩ := he l0 (Or.inl hl)
  rw [e1, e2]
  simp only [e6]
  refine ⟨y, rfl, Or.inr hA, hv 1 (by decide) (by decide), Or.inr hA, hv 2 (by decide) (by decide), hT1, k _ ?_⟩
  intro h2 s' a1 a2 a3 a4
  exact ⟨y, rfl, fun _ => K h2 s' a1 a2 a3 a4, fun q => absurd rfl q⟩
set_option maxRecDepth 100000 in
theorem lo_551 {G : Nat → am_Ls → am_Sk → am_H → Prop} {Rt : Option am_V → am_H → Prop} {x n c l0 : Nat} {l4 : Int32} {y5 y6 : Option am_V} {h : am_H} {s : sg} (hJ : J h x n s c) (hW : WF n s) (ht : s 0 0 + 2000 ≤ 2000000) (hI : LI h x l0 l4)
    (K : ∀ h2 s', J h2 x n s' (c + 1) → WF n s' → eqon (OO x n) h h2 → s' 0 0 ≤ s 0 0 + 2000 → G 959 [some (.inr (.inr l0)), some (.inr (.inr x)), some (.inr (.inr (ax x n + 5))), some (.inr (.inr (ax x n + 30))), some (.inl l4), y5, y6] [] h2) : am_BG G Rt 62 [33, 112, 181, 308, 332, 396, 457, 514, 551, 632, 759, 828, 897, 922, 959] 10 mi_W_law 551 [some (.inr (.inr l0)), some (.inr (.inr x)), some (.inr (.inr (ax x n + 5))), some (.inr (.inr (ax x n + 30))), some (.inl l4), y5, y6] [] h := by
  have hl := hI.1
  have hA := hI.2.1
  have hv := hI.2.2
  have hT : am_T h x = 10 := by obtain ⟨α, e, hX, hM⟩ := hJ; exact X_T hX
  refine bg_551 ⟨Or.inr hA, hv 1 (by decide) (by decide), Or.inr hA, hv 2 (by decide) (by decide), Or.inr hA, hv 3 (by decide) (by decide), Or.inr hA, hv 4 (by decide) (by decide), hT, st_learn hJ hW _ _ _ _ ?_⟩
  intro h1 y he hT1 k
  obtain ⟨e1, e2, -, -, -, e6, -, -⟩ := he l0 (Or.inl hl)
  rw [e1, e2]
  simp only [e6]
  refine ⟨y, rfl, Or.inr hA, hv 1 (by decide) (by decide), Or.inr hA, hv 2 (by decide) (by decide), Or.inr hA, hv 3 (by decide) (by decide), Or.inr hA, hv 4 (by decide) (by decide), hT1, k _ ?_⟩
  intro h2 s' a1 a2 a3 a4
  exact ⟨y, rfl, fun _ => K h2 s' a1 a2 a3 a4, fun q => absurd rfl q⟩
set_option maxRecDepth 100000 in
theorem lo_632 {G : Nat → am_Ls → am_Sk → am_H → Prop} {Rt : Option am_V → am_H → Prop} {x n c l0 : Nat} {l4 : Int32} {y5 y6 : Option am_V} {h : am_H} {s : sg} (hJ : J h x n s c) (hW : WF n s) (ht : s 0 0 + 2000 ≤ 2000000) (hI : LI h x l0 l4)
    (K : ∀ h2 s', J h2 x n s' (c + 1) → WF n s' → eqon (OO x n) h h2 → s' 0 0 ≤ s 0 0 + 2000 → G 959 [some (.inr (.inr l0)), some (.inr (.inr x)), some (.inr (.inr (ax x n + 5))), some (.inr (.inr (ax x n + 30))), some (.inl l4), y5, y6] [] h2) : am_BG G Rt 96 [33, 112, 181, 308, 332, 396, 457, 514, 551, 632, 759, 828, 897, 922, 959] 10 mi_W_law 632 [some (.inr (.inr l0)), some (.inr (.inr x)), some (.inr (.inr (ax x n + 5))), some (.inr (.inr (ax x n + 30))), some (.inl l4), y5, y6] [] h := by
  have hl := hI.1
  have hA := hI.2.1
  have hv := hI.2.2
  have hT : am_T h x = 10 := by obtain ⟨α, e, hX, hM⟩ := hJ; exact X_T hX
  refine bg_632 ⟨Or.inr hA, hv 1 (by decide) (by decide), Or.inr hA, hv 2 (by decide) (by decide), Or.inr hA, hv 3 (by decide) (by decide), Or.inr hA, hv 4 (by decide) (by decide), Or.inr hA, hv 5 (by decide) (by decide), Or.inr hA, hv 6 (by decide) (by decide), hT, st_credit hJ hW _ _ _ _ _ ?_⟩
  intro h1 y he hT1 k
  obtain ⟨e1, e2, -, -, -, e6, -, -⟩ := he l0 (Or.inl hl)
  rw [e1, e2]
  simp only [e6]
  refine ⟨y, rfl, Or.inr hA, hv 1 (by decide) (by decide), Or.inr hA, hv 2 (by decide) (by decide), Or.inr hA, hv 3 (by decide) (by decide), Or.inr hA, hv 4 (by decide) (by decide), Or.inr hA, hv 5 (by decide) (by decide), Or.inr hA, hv 6 (by decide) (by decide), hT1, k _ ?_⟩
  intro h2 s' a1 a2 a3 a4
  exact ⟨y, rfl, fun _ => K h2 s' a1 a2 a3 a4, fun q => absurd rfl q⟩
set_option maxRecDepth 100000 in
theorem lo_759 {G : Nat → am_Ls → am_Sk → am_H → Prop} {Rt : Option am_V → am_H → Prop} {x n c l0 : Nat} {l4 : Int32} {y5 y6 : Option am_V} {h : am_H} {s : sg} (hJ : J h x n s c) (hW : WF n s) (ht : s 0 0 + 2000 ≤ 2000000) (hI : LI h x l0 l4)
    (K : ∀ h2 s', J h2 x n s' (c + 1) → WF n s' → eqon (OO x n) h h2 → s' 0 0 ≤ s 0 0 + 2000 → G 959 [some (.inr (.inr l0)), some (.inr (.inr x)), some (.inr (.inr (ax x n + 5))), some (.inr (.inr (ax x n + 30))), some (.inl l4), y5, y6] [] h2) : am_BG G Rt 52 [33, 112, 181, 308, 332, 396, 457, 514, 551, 632, 759, 828, 897, 922, 959] 10 mi_W_law 759 [some (.inr (.inr l0)), some (.inr (.inr x)), some (.inr (.inr (ax x n + 5))), some (.inr (.inr (ax x n + 30))), some (.inl l4), y5, y6] [] h := by
  have hl := hI.1
  have hA := hI.2.1
  have hv := hI.2.2
  have hT : am_T h x = 10 := by obtain ⟨α, e, hX, hM⟩ := hJ; exact X_T hX
  refine bg_759 ⟨Or.inr hA, hv 1 (by decide) (by decide), Or.inr hA, hv 2 (by decide) (by decide), Or.inr hA, hv 3 (by decide) (by decide), hT, st_filter hJ hW _ _ _ ?_⟩
  intro h1 y he hT1 k
  obtain ⟨e1, e2, -, -, -, e6, -, -⟩ := he l0 (Or.inl hl)
  rw [e1, e2]
  simp only [e6]
  refine ⟨y, rfl, Or.inr hA, hv 1 (by decide) (by decide), Or.inr hA, hv 2 (by decide) (by decide), Or.inr hA, hv 3 (by decide) (by decide), hT1, k _ ?_⟩
  intro h2 s' a1 a2 a3 a4
  exact ⟨y, rfl, fun _ => K h2 s' a1 a2 a3 a4, fun q => absurd rfl q⟩
set_option maxRecDepth 100000 in
theorem lo_828 {G : Nat → am_Ls → am_Sk → am_H → Prop} {Rt : Option am_V → am_H → Prop} {x n c l0 : Nat} {l4 : Int32} {y5 y6 : Option am_V} {h : am_H} {s : sg} (hJ : J h x n s c) (hW : WF n s) (ht : s 0 0 + 2000 ≤ 2000000) (hI : LI h x l0 l4)
    (K : ∀ h2 s', J h2 x n s' (c + 1) → WF n s' → eqon (OO x n) h h2 → s' 0 0 ≤ s 0 0 + 2000 → G 959 [some (.inr (.inr l0)), some (.inr (.inr x)), some (.inr (.inr (ax x n + 5))), some (.inr (.inr (ax x n + 30))), some (.inl l4), y5, y6] [] h2) : am_BG G Rt 52 [33, 112, 181, 308, 332, 396, 457, 514, 551, 632, 759, 828, 897, 922, 959] 10 mi_W_law 828 [some (.inr (.inr l0)), some (.inr (.inr x)), some (.inr (.inr (ax x n + 5))), some (.inr (.inr (ax x n + 30))), some (.inl l4), y5, y6] [] h := by
  have hl := hI.1
  have hA := hI.2.1
  have hv := hI.2.2
  have hT : am_T h x = 10 := by obtain ⟨α, e, hX, hM⟩ := hJ; exact X_T hX
  refine bg_828 ⟨Or.inr hA, hv 1 (by decide) (by decide), Or.inr hA, hv 2 (by decide) (by decide), Or.inr hA, hv 3 (by decide) (by decide), hT, st_clock hJ hW _ _ _ ?_⟩
  intro h1 y he hT1 k
  obtain ⟨e1, e2, -, -, -, e6, -, -⟩ := he l0 (Or.inl hl)
  rw [e1, e2]
  simp only [e6]
  refine ⟨y, rfl, Or.inr hA, hv 1 (by decide) (by decide), Or.inr hA, hv 2 (by decide) (by decide), Or.inr hA, hv 3 (by decide) (by decide), hT1, k _ ?_⟩
  intro h2 s' a1 a2 a3 a4
  exact ⟨y, rfl, fun _ => K h2 s' a1 a2 a3 a4, fun q => absurd rfl q⟩
set_option maxRecDepth 100000 in
theorem lo_897 {G : Nat → am_Ls → am_Sk → am_H → Prop} {Rt : Option am_V → am_H → Prop} {x n c l0 : Nat} {l4 : Int32} {y5 y6 : Option am_V} {h : am_H} {s : sg} (hJ : J h x n s c) (hW : WF n s) (ht : s 0 0 + 2000 ≤ 2000000) (hI : LI h x l0 l4)
    (K : ∀ h2 s', J h2 x n s' (c + 1) → WF n s' → eqon (OO x n) h h2 → s' 0 0 ≤ s 0 0 + 2000 → G 959 [some (.inr (.inr l0)), some (.inr (.inr x)), some (.inr (.inr (ax x n + 5))), some (.inr (.inr (ax x n + 30))), some (.inl l4), y5, y6] [] h2) : am_BG G Rt 18 [33, 112, 181, 308, 332, 396, 457, 514, 551, 632, 759, 828, 897, 922, 959] 10 mi_W_law 897 [some (.inr (.inr l0)), some (.inr (.inr x)), some (.inr (.inr (ax x n + 5))), some (.inr (.inr (ax x n + 30))), some (.inl l4), y5, y6] [] h := by
  have hl := hI.1
  have hA := hI.2.1
  have hv := hI.2.2
  have hT : am_T h x = 10 := by obtain ⟨α, e, hX, hM⟩ := hJ; exact X_T hX
  refine bg_897 ⟨Or.inr hA, hv 1 (by decide) (by decide), hT, st_dropped hJ hW _ _ ?_⟩
  intro h1 y he hT1 k
  obtain ⟨e1, e2, -, -, -, e6, -, -⟩ := he l0 (Or.inl hl)
  rw [e1, e2]
  simp only [e6]
  refine ⟨y, rfl, Or.inr hA, hv 1 (by decide) (by decide), hT1, k _ ?_⟩
  intro h2 s' a1 a2 a3 a4
  exact ⟨y, rfl, fun _ => K h2 s' a1 a2 a3 a4, fun q => absurd rfl q⟩
set_option maxRecDepth 100000 in
theorem lo_922 {G : Nat → am_Ls → am_Sk → am_H → Prop} {Rt : Option am_V → am_H → Prop} {x n c l0 : Nat} {l4 : Int32} {y5 y6 : Option am_V} {h : am_H} {s : sg} (hJ : J h x n s c) (hW : WF n s) (ht : s 0 0 + 2000 ≤ 2000000) (hI : LI h x l0 l4)
    (K : ∀ h2 s', J h2 x n s' (c + 1) → WF n s' → eqon (OO x n) h h2 → s' 0 0 ≤ s 0 0 + 2000 → G 959 [some (.inr (.inr l0)), some (.inr (.inr x)), some (.inr (.inr (ax x n + 5))), some (.inr (.inr (ax x n + 30))), some (.inl l4), y5, y6] [] h2) : am_BG G Rt 28 [33, 112, 181, 308, 332, 396, 457, 514, 551, 632, 759, 828, 897, 922, 959] 10 mi_W_law 922 [some (.inr (.inr l0)), some (.inr (.inr x)), some (.inr (.inr (ax x n + 5))), some (.inr (.inr (ax x n + 30))), some (.inl l4), y5, y6] [] h := by
  have hl := hI.1
  have hA := hI.2.1
  have hv := hI.2.2
  have hT : am_T h x = 10 := by obtain ⟨α, e, hX, hM⟩ := hJ; exact X_T hX
  refine bg_922 ⟨Or.inr hA, hv 1 (by decide) (by decide), Or.inr hA, hv 2 (by decide) (by decide), hT, st_service hJ hW _ _ _ ?_⟩
  intro h1 y he hT1 k
  obtain ⟨e1, e2, -, -, -, e6, -, -⟩ := he l0 (Or.inl hl)
  rw [e1, e2]
  simp only [e6]
  refine ⟨y, rfl, Or.inr hA, hv 1 (by decide) (by decide), Or.inr hA, hv 2 (by decide) (by decide), hT1, k _ ?_⟩
  intro h2 s' a1 a2 a3 a4
  exact ⟨y, rfl, fun _ => K h2 s' a1 a2 a3 a4, fun q => absurd rfl q⟩
/-- the number that the law gives to 'cycle' -/
abbrev lv (h : am_H) (l0 : Nat) (l4 : Int32) : Int64 := (((am_aI h l0 (l4 + (1 : Int32)).toNatClampNeg).toInt64 <<< ((32 : Int32).toInt64 &&& 63)) ||| ((am_aI h l0 (l4 + (2 : Int32)).toNatClampNeg).toInt64 &&& (4294967295 : Int64)))
theorem lo_308 {G : Nat → am_Ls → am_Sk → am_H → Prop} {Rt : Option am_V → am_H → Prop} {x n l0 : Nat} {l4 : Int32} {y5 y6 : Option am_V} {h : am_H} (hI : LI h x l0 l4)
    (K : G 332 [some (.inr (.inr l0)), some (.inr (.inr x)), some (.inr (.inr (ax x n + 5))), some (.inr (.inr (ax x n + 30))), some (.inl l4), y5, y6] [.inr (.inr (ax x n + 30)), .inr (.inl (lv h l0 l4)), .inr (.inr x)] h) : am_BG G Rt 21 [33, 112, 181, 308, 332, 396, 457, 514, 551, 632, 759, 828, 897, 922, 959] 10 mi_W_law 308 [some (.inr (.inr l0)), some (.inr (.inr x)), some (.inr (.inr (ax x n + 5))), some (.inr (.inr (ax x n + 30))), some (.inl l4), y5, y6] [] h := by
  have hl := hI.1
  have hA := hI.2.1
  have hv := hI.2.2
  exact bg_308 ⟨Or.inr hA, hv 1 (by decide) (by decide), Or.inr hA, hv 2 (by decide) (by decide), K⟩
/-- what the class's 'cycle' has come to -/
def LR (h : am_H) (x n : Nat) (s sX : sg) (v : Int) (r : Int32) : Prop := ((v < 0 ∨ 1000000 < v ∨ v < s 30 0) ∧ r = 0 ∧ am_aJ h (ax x n + 30) 0 = (-2 : Int32).toInt64 ∧ sX = s) ∨ (¬ (v < 0 ∨ 1000000 < v ∨ v < s 30 0) ∧ v = 0 ∧ r = 1 ∧ sX = s) ∨ (¬ (v < 0 ∨ 1000000 < v ∨ v < s 30 0) ∧ ¬ v = 0 ∧ r = 0 ∧ am_aJ h (ax x n + 30) 0 = (1 : Int32).toInt64 ∧ sX = am_u2 s 0 1 v)
theorem J_after {h h2 : am_H} {x n c e : Nat} {α : Nat → Nat} {s : sg} (hX : RX h x n s α e c) (g : gM (ax x n + 5) n h s h2) : J h2 x n s c ∧ eqon (OO x n) h h2 := by
  refine ⟨⟨α, e, RX_kp hX g.2, g.1⟩, eqon_mono (fun a ha => ?_) g.2.1⟩
  have := ax_x (x := x) (n := n)
  intro hc
  obtain ⟨c1, c2⟩ := hc
  rcases ha with ha | ha <;> omega
theorem lo_335 {G : Nat → am_Ls → am_Sk → am_H → Prop} {Rt : Option am_V → am_H → Prop} {x n c e l0 : Nat} {α : Nat → Nat} {l4 r : Int32} {y5 y6 : Option am_V} {h : am_H} {s sX : sg} {v : Int} (hX : RX h x n sX α e c) (hM : RM h (ax x n + 5) n s) (hW : WF n s) (hI : LI h x l0 l4) (hO : am_T h (ax x n + 30) = 2 ∧ am_N h (ax x n + 30) = 1) (hvr : rJ v) (hve : jJ v = lv h l0 l4) (hR : LR h x n s sX v r)
    (K : ∀ h2 s' y5 y6, J h2 x n s' c → WF n s' → eqon (OO x n) h h2 → s' 0 0 ≤ s 0 0 + 2000 → G 959 [some (.inr (.inr l0)), some (.inr (.inr x)), some (.inr (.inr (ax x n + 5))), some (.inr (.inr (ax x n + 30))), some (.inl l4), y5, y6] [] h2) : am_BG G Rt 37 [33, 112, 181, 308, 332, 396, 457, 514, 551, 632, 759, 828, 897, 922, 959] 10 mi_W_law 335 [some (.inr (.inr l0)), some (.inr (.inr x)), some (.inr (.inr (ax x n + 5))), some (.inr (.inr (ax x n + 30))), some (.inl l4), y5, y6] [.inl r] h := by
  have hl := hI.1
  have hA := hI.2.1
  have hv := hI.2.2
  obtain ⟨w0, w1, w2, w3, w4, a1, a2, a3, a4, a5, a6, a7, a8, a9, a10, a11, a12⟩ := WM_of hW.1
  have hov : (v < 0 ∨ 1000000 < v ∨ wover s v) ↔ (v < 0 ∨ 1000000 < v ∨ v < s 30 0) := by
    by_cases hv0 : v < 0
    · exact ⟨fun _ => Or.inl hv0, fun _ => Or.inl hv0⟩
    · rw [wover_lwe hW.2.2.2.1 (by omega)]
  have hc0 : ∀ z : Int32, lg_cmp z.toInt64 z.toInt64 = 0 := fun z => by
    have := (cmp_eq (rJ_self z.toInt64) (rJ_self z.toInt64)).mpr rfl
    rwa [jJ_self] at this
  refine bg_335 ⟨Or.inr hA, hv 1 (by decide) (by decide), Or.inr hA, hv 2 (by decide) (by decide), RM_T hM, ?_⟩
  rw [show ((((am_aI h l0 (l4 + (1 : Int32)).toNatClampNeg).toInt64 <<< ((32 : Int32).toInt64 &&& 63)) ||| ((am_aI h l0 (l4 + (2 : Int32)).toNatClampNeg).toInt64 &&& (4294967295 : Int64)))) = jJ v from hve.symm]
  refine sp_M_cycle (d := 9) hM hvr a9 (fun j hj => by have := a11 j hj; exact (by unfold rJ; omega)) (fun hb h2 g2 i2 => ?_) (fun hb hz h2 g2 i2 => ?_) (fun hb hz h2 g2 i2 => ?_)
  · rw [hov] at hb
    obtain ⟨b1, rfl, b3, rfl⟩ : (v < 0 ∨ 1000000 < v ∨ v < s 30 0) ∧ r = 0 ∧ am_aJ h (ax x n + 30) 0 = (-2 : Int32).toInt64 ∧ sX = s := by
      rcases hR with hR | hR | hR
      · exact hR
      · exact absurd hb hR.1
      · exact absurd hb hR.1
    obtain ⟨j1, j2⟩ := J_after hX g2
    refine ⟨-2, rfl, RM_T g2.1, sp_M_thrown (d := 9) g2.1 ?_⟩
    rw [i2]
    obtain ⟨e1, e2, -, -, -, -, e7, -⟩ := j2 (ax x n + 30) (Or.inr rfl)
    refine ⟨0, rfl, fun _ => ⟨fun _ => ⟨by rw [e1]; exact hO.1, by rw [e2, hO.2]; unfold vp_in; decide, fun _ => K h2 _ _ _ j1 hW j2 (by omega), fun q => absurd ?_ q⟩, fun q => absurd rfl q⟩, fun q => absurd rfl q⟩
    show lg_cmp (am_aJ h2 (ax x n + 30) 0) _ = 0
    rw [e7, b3]
    exact hc0 _
  · rw [hov] at hb
    obtain ⟨b1, -, rfl, rfl⟩ : ¬ (v < 0 ∨ 1000000 < v ∨ v < s 30 0) ∧ v = 0 ∧ r = 1 ∧ sX = s := by
      rcases hR with hR | hR | hR
      · exact absurd hR.1 hb
      · exact hR
      · exact absurd hz hR.2.1
    obtain ⟨j1, j2⟩ := J_after hX g2
    refine ⟨0, rfl, RM_T g2.1, sp_M_thrown (d := 9) g2.1 ?_⟩
    rw [i2]
    exact ⟨1, rfl, fun _ => ⟨fun q => absurd q (by decide), fun _ => K h2 _ _ _ j1 hW j2 (by omega)⟩, fun q => absurd rfl q⟩
  · rw [hov] at hb
    obtain ⟨b1, -, rfl, b3, rfl⟩ : ¬ (v < 0 ∨ 1000000 < v ∨ v < s 30 0) ∧ ¬ v = 0 ∧ r = 0 ∧ am_aJ h (ax x n + 30) 0 = (1 : Int32).toInt64 ∧ sX = am_u2 s 0 1 v := by
      rcases hR with hR | hR | hR
      · exact absurd hR.1 hb
      · exact absurd hR.2.1 hz
      · exact hR
    obtain ⟨j1, j2⟩ : J h2 x n (am_u2 s 0 1 v) c ∧ eqon (OO x n) h h2 := by
      refine ⟨⟨α, e, RX_kp hX g2.2, g2.1⟩, eqon_mono (fun a ha => ?_) g2.2.1⟩
      have := ax_x (x := x) (n := n)
      intro hc
      obtain ⟨c1, c2⟩ := hc
      rcases ha with ha | ha <;> omega
    refine ⟨1, rfl, RM_T g2.1, sp_M_thrown (d := 9) g2.1 ?_⟩
    rw [i2]
    obtain ⟨e1, e2, -, -, -, -, e7, -⟩ := j2 (ax x n + 30) (Or.inr rfl)
    refine ⟨0, rfl, fun _ => ⟨fun _ => ⟨by rw [e1]; exact hO.1, by rw [e2, hO.2]; unfold vp_in; decide, fun _ => K h2 _ _ _ j1 (WF_cycle hW (by omega)) j2 (by rw [u2_nj (by decide)]; omega), fun q => absurd ?_ q⟩, fun q => absurd rfl q⟩, fun q => absurd rfl q⟩
    show lg_cmp (am_aJ h2 (ax x n + 30) 0) _ = 0
    rw [e7, b3]
    exact hc0 _
/-- the law's start -/
theorem lo_0 {G : Nat → am_Ls → am_Sk → am_H → Prop} {Rt : Option am_V → am_H → Prop} {l0 : Nat} {h : am_H} (hx : 1 ≤ l0 ∧ l0 ≤ am_Z h) (hA : am_T h l0 = 3) (hN : am_N h l0 ≤ 3585) (hE : am_R h 9000 0 ≤ am_Z h ∧ am_T h (am_R h 9000 0) = 4 ∧ am_N h (am_R h 9000 0) = 0) (hC : am_C h = 0) (hS : am_S h = 0)
    (K : ∀ hF n, J hF (am_Z h + 1) n s00 0 → WF n s00 → am_T hF (ax (am_Z h + 1) n + 30) = 2 → am_N hF (ax (am_Z h + 1) n + 30) = 1 → eqon (fun a => a < am_Z h + 1) h hF → G 33 [some (.inr (.inr l0)), some (.inr (.inr (am_Z h + 1))), some (.inr (.inr (ax (am_Z h + 1) n + 5))), some (.inr (.inr (ax (am_Z h + 1) n + 30))), some (.inl 1), none, none] [] hF) : am_BG G Rt 21 [33, 112, 181, 308, 332, 396, 457, 514, 551, 632, 759, 828, 897, 922, 959] 10 mi_W_law 0 [some (.inr (.inr l0)), none, none, none, none, none, none] [] h := by
  have cell : ∀ (d : Nat) (h1 : am_H) (Q : Option am_V → am_H → Prop), am_T h1 l0 = am_T h l0 → am_N h1 l0 = am_N h l0 → (∀ j, am_aI h1 l0 j = am_aI h l0 j) → Q (some (.inl (if am_N h l0 = 0 then 0 else am_aI h l0 0))) h1 → am_PC (d + 1) mi_W_cell [.inr (.inr l0), .inl (0 : Int32)] h1 Q := by
    intro d h1 Q t1 t2 t3 hQ
    have hz : (Int32.ofNat (am_N h l0) ≤ (0 : Int32)) ↔ am_N h l0 = 0 := by
      rw [show Int32.ofNat (am_N h l0) = iI ((am_N h l0 : Nat) : Int) from (iI_nat _).symm, show (0 : Int32) = iI 0 from rfl, iI_le (by unfold rI; omega) (by unfold rI; omega)]
      omega
    refine bk_W_cell ⟨by rw [t1, hA]; decide, fun q => ?_, fun q => ⟨by rw [t1, hA]; decide, ?_, ?_⟩⟩
    · rw [t2, hz] at q
      rw [if_pos q] at hQ
      exact hQ
    · rw [t2, hz] at q
      rw [t2]
      intro z
      rcases z with z | z
      · exact absurd z (by decide)
      · exact absurd z (show ¬ am_N h l0 ≤ 0 by omega)
    · rw [t2, hz] at q
      rw [if_neg q] at hQ
      rw [t3]
      exact hQ
  refine bg_0 (fun h1 e1 => ⟨rfl, ?_⟩)
  subst e1
  have eo : eqon (fun a => a < am_Z h + 1) h (am_nO h 0 11) := eqon_nO (by omega)
  obtain ⟨t1, t2, -, -, -, t6, -, -⟩ := eo l0 (show l0 < am_Z h + 1 by omega)
  refine cell 9 _ _ t1 t2 t6 ⟨_, rfl, by omega, ?_⟩
  generalize (if am_N h l0 = 0 then (0 : Int32) else am_aI h l0 0) = v0 at cell
  refine sp_X_init (d := 6) (fun h2 g => ⟨rfl, fun h3 e3 => ⟨rfl, ?_⟩⟩)
  subst e3
  have hn := nP_b v0
  have hax : ax (am_Z h + 1) (nP v0) = am_Z h + 1 + 2 + 42 * nP v0 := rfl
  have zX := g.2.2.2.2.2.2.2.2.2.2.2.1
  have eX := g.2.2.2.2.2.2.2.2.2.2.2.2.1
  have eo2 : eqon (fun a => a < am_Z h + 1) h (am_nO h2 7 31) := eqon_tr (eqon_tr eo eX) (eqon_nO (by omega))
  obtain ⟨t1, t2, -, -, -, t6, -, -⟩ := eo2 l0 (show l0 < am_Z h + 1 by omega)
  refine cell 9 _ _ t1 t2 t6 ⟨_, rfl, by omega, ?_⟩
  refine sp_M_init (d := 9) (fun h4 r1 r2 r3 r4 r5 => ⟨rfl, by decide, by decide, fun h5 e5 => ?_⟩)
  rw [zX] at r1 r2 r3 ⊢
  have e9 : am_Z h4 + 1 = ax (am_Z h + 1) (nP v0) + 30 := by omega
  rw [e9]
  have oE := eo (am_R h 9000 0) (show am_R h 9000 0 < am_Z h + 1 by omega)
  have o0 := (eo 0 (show 0 < am_Z h + 1 by omega)).2.2.2.2.1 9000
  obtain ⟨q1, q2, q3, q4⟩ := J_start (h0 := am_nO h 0 11) (x := am_Z h + 1) (n := nP v0) g hn (by omega) (by rw [o0, oE.1, oE.2.1]; exact ⟨by omega, hE.2⟩) (by show am_C h + 1 ≤ 100; omega) (by show am_S h + 11 ≤ 1000; omega) r1 (by omega) r3 r4 r5 e5
  exact K h5 _ q1 WF_00 q2 q3 (eqon_tr eo q4)
