/-! CHECKS of the programs: every entry is what the class file says -/
theorem am_all_split {α : Type} {l : List α} {f : α → Bool} (n : Nat) (h1 : (l.take n).all f = true) (h2 : (l.drop n).all f = true) : l.all f = true := by
  rw [← List.take_append_drop n l, List.all_append, h1, h2]
  rfl
def am_chk (x : Nat) : Bool := match am_mi x with
  | some (w, cc, mL, ret) => (am_pg x).all (fun e => am_okE w.cls cc mL (decide (w.name = "<init>")) ret e.1 e.2)
  | none => true
theorem am_chk_0 : am_chk 0 = true := by decide +kernel
theorem am_chk_1 : am_chk 1 = true := by decide +kernel
theorem am_chk_2 : am_chk 2 = true := by decide +kernel
theorem am_chk_3 : am_chk 3 = true := by decide +kernel
theorem am_chk_4 : am_chk 4 = true := by decide +kernel
theorem am_chk_5 : am_chk 5 = true := by decide +kernel
theorem am_chk_6 : am_chk 6 = true := by decide +kernel
theorem am_chk_7 : am_chk 7 = true := by decide +kernel
theorem am_chk_8 : am_chk 8 = true := by decide +kernel
theorem am_chk_9 : am_chk 9 = true := by decide +kernel
theorem am_chk_10 : am_chk 10 = true := by decide +kernel
theorem am_chk_11 : am_chk 11 = true := by decide +kernel
theorem am_chk_12 : am_chk 12 = true := by decide +kernel
theorem am_chk_13 : am_chk 13 = true := by decide +kernel
theorem am_pk_14_0 : (((pg_X_frame.drop 0)).take 60).all (fun e => am_okE "EthernetGates" prog_1_method_5_code 7 false ((some FieldType.int)) e.1 e.2) = true := by decide +kernel
theorem am_pk_14_1 : (((pg_X_frame.drop 60)).take 60).all (fun e => am_okE "EthernetGates" prog_1_method_5_code 7 false ((some FieldType.int)) e.1 e.2) = true := by decide +kernel
set_option maxRecDepth 20000 in
theorem am_pk_14 : pg_X_frame.all (fun e => am_okE "EthernetGates" prog_1_method_5_code 7 false ((some FieldType.int)) e.1 e.2) = true := by
  refine am_all_split 60 am_pk_14_0 ?_
  try rw [List.drop_drop]
  rw [← List.take_of_length_le (l := pg_X_frame.drop 60) (i := 60) (by decide)]
  exact am_pk_14_1
theorem am_chk_14 : am_chk 14 = true := am_pk_14
theorem am_chk_15 : am_chk 15 = true := by decide +kernel
theorem am_chk_16 : am_chk 16 = true := by decide +kernel
theorem am_chk_17 : am_chk 17 = true := by decide +kernel
theorem am_chk_18 : am_chk 18 = true := by decide +kernel
theorem am_chk_19 : am_chk 19 = true := by decide +kernel
theorem am_chk_20 : am_chk 20 = true := by decide +kernel
theorem am_chk_21 : am_chk 21 = true := by decide +kernel
theorem am_chk_22 : am_chk 22 = true := by decide +kernel
theorem am_pk_23_0 : (((pg_X_queueCopies.drop 0)).take 60).all (fun e => am_okE "EthernetGates" prog_1_method_20_code 9 false ((some FieldType.int)) e.1 e.2) = true := by decide +kernel
theorem am_pk_23_1 : (((pg_X_queueCopies.drop 60)).take 60).all (fun e => am_okE "EthernetGates" prog_1_method_20_code 9 false ((some FieldType.int)) e.1 e.2) = true := by decide +kernel
set_option maxRecDepth 20000 in
theorem am_pk_23 : pg_X_queueCopies.all (fun e => am_okE "EthernetGates" prog_1_method_20_code 9 false ((some FieldType.int)) e.1 e.2) = true := by
  refine am_all_split 60 am_pk_23_0 ?_
  try rw [List.drop_drop]
  rw [← List.take_of_length_le (l := pg_X_queueCopies.drop 60) (i := 60) (by decide)]
  exact am_pk_23_1
theorem am_chk_23 : am_chk 23 = true := am_pk_23
theorem am_chk_24 : am_chk 24 = true := by decide +kernel
theorem am_chk_25 : am_chk 25 = true := by decide +kernel
theorem am_chk_26 : am_chk 26 = true := by decide +kernel
theorem am_chk_27 : am_chk 27 = true := by decide +kernel
theorem am_chk_28 : am_chk 28 = true := by decide +kernel
theorem am_chk_29 : am_chk 29 = true := by decide +kernel
theorem am_chk_30 : am_chk 30 = true := by decide +kernel
theorem am_chk_31 : am_chk 31 = true := by decide +kernel
theorem am_chk_32 : am_chk 32 = true := by decide +kernel
theorem am_chk_33 : am_chk 33 = true := by decide +kernel
theorem am_chk_34 : am_chk 34 = true := by decide +kernel
theorem am_chk_35 : am_chk 35 = true := by decide +kernel
theorem am_chk_36 : am_chk 36 = true := by decide +kernel
theorem am_chk_37 : am_chk 37 = true := by decide +kernel
theorem am_pk_38_0 : (((pg_P_beginNext.drop 0)).take 60).all (fun e => am_okE "EthernetGates$Port" prog_4_method_5_code 11 false (none) e.1 e.2) = true := by decide +kernel
theorem am_pk_38_1 : (((pg_P_beginNext.drop 60)).take 60).all (fun e => am_okE "EthernetGates$Port" prog_4_method_5_code 11 false (none) e.1 e.2) = true := by decide +kernel
set_option maxRecDepth 20000 in
theorem am_pk_38 : pg_P_beginNext.all (fun e => am_okE "EthernetGates$Port" prog_4_method_5_code 11 false (none) e.1 e.2) = true := by
  refine am_all_split 60 am_pk_38_0 ?_
  try rw [List.drop_drop]
  rw [← List.take_of_length_le (l := pg_P_beginNext.drop 60) (i := 60) (by decide)]
  exact am_pk_38_1
theorem am_chk_38 : am_chk 38 = true := am_pk_38
theorem am_chk_39 : am_chk 39 = true := by decide +kernel
theorem am_chk_40 : am_chk 40 = true := by decide +kernel
theorem am_chk_41 : am_chk 41 = true := by decide +kernel
theorem am_chk_42 : am_chk 42 = true := by decide +kernel
theorem am_chk_43 : am_chk 43 = true := by decide +kernel
theorem am_chk_44 : am_chk 44 = true := by decide +kernel
theorem am_chk_45 : am_chk 45 = true := by decide +kernel
theorem am_chk_46 : am_chk 46 = true := by decide +kernel
theorem am_chk_47 : am_chk 47 = true := by decide +kernel
theorem am_chk_48 : am_chk 48 = true := by decide +kernel
theorem am_chk_49 : am_chk 49 = true := by decide +kernel
theorem am_chk_50 : am_chk 50 = true := by decide +kernel
theorem am_chk_51 : am_chk 51 = true := by decide +kernel
theorem am_chk_52 : am_chk 52 = true := by decide +kernel
theorem am_chk_53 : am_chk 53 = true := by decide +kernel
theorem am_chk_54 : am_chk 54 = true := by decide +kernel
theorem am_chk_55 : am_chk 55 = true := by decide +kernel
theorem am_chk_56 : am_chk 56 = true := by decide +kernel
theorem am_chk_57 : am_chk 57 = true := by decide +kernel
theorem am_chk_58 : am_chk 58 = true := by decide +kernel
theorem am_chk_59 : am_chk 59 = true := by decide +kernel
theorem am_chk_60 : am_chk 60 = true := by decide +kernel
theorem am_chk_61 : am_chk 61 = true := by decide +kernel
theorem am_chk_62 : am_chk 62 = true := by decide +kernel
theorem am_chk_63 : am_chk 63 = true := by decide +kernel
theorem am_chk_64 : am_chk 64 = true := by decide +kernel
theorem am_pk_65_0 : (((pg_M_init.drop 0)).take 60).all (fun e => am_okE "EthernetGatesModel" prog_8_method_1_code 2 true (none) e.1 e.2) = true := by decide +kernel
theorem am_pk_65_1 : (((pg_M_init.drop 60)).take 60).all (fun e => am_okE "EthernetGatesModel" prog_8_method_1_code 2 true (none) e.1 e.2) = true := by decide +kernel
set_option maxRecDepth 20000 in
theorem am_pk_65 : pg_M_init.all (fun e => am_okE "EthernetGatesModel" prog_8_method_1_code 2 true (none) e.1 e.2) = true := by
  refine am_all_split 60 am_pk_65_0 ?_
  try rw [List.drop_drop]
  rw [← List.take_of_length_le (l := pg_M_init.drop 60) (i := 60) (by decide)]
  exact am_pk_65_1
theorem am_chk_65 : am_chk 65 = true := am_pk_65
theorem am_chk_66 : am_chk 66 = true := by decide +kernel
theorem am_pk_67_0 : (((pg_M_link.drop 0)).take 60).all (fun e => am_okE "EthernetGatesModel" prog_8_method_5_code 6 false ((some FieldType.int)) e.1 e.2) = true := by decide +kernel
theorem am_pk_67_1 : (((pg_M_link.drop 60)).take 60).all (fun e => am_okE "EthernetGatesModel" prog_8_method_5_code 6 false ((some FieldType.int)) e.1 e.2) = true := by decide +kernel
set_option maxRecDepth 20000 in
theorem am_pk_67 : pg_M_link.all (fun e => am_okE "EthernetGatesModel" prog_8_method_5_code 6 false ((some FieldType.int)) e.1 e.2) = true := by
  refine am_all_split 60 am_pk_67_0 ?_
  try rw [List.drop_drop]
  rw [← List.take_of_length_le (l := pg_M_link.drop 60) (i := 60) (by decide)]
  exact am_pk_67_1
theorem am_chk_67 : am_chk 67 = true := am_pk_67
theorem am_chk_68 : am_chk 68 = true := by decide +kernel
theorem am_pk_69_0 : (((pg_M_gate.drop 0)).take 60).all (fun e => am_okE "EthernetGatesModel" prog_8_method_6_code 8 false ((some FieldType.int)) e.1 e.2) = true := by decide +kernel
theorem am_pk_69_1 : (((pg_M_gate.drop 60)).take 60).all (fun e => am_okE "EthernetGatesModel" prog_8_method_6_code 8 false ((some FieldType.int)) e.1 e.2) = true := by decide +kernel
set_option maxRecDepth 20000 in
theorem am_pk_69 : pg_M_gate.all (fun e => am_okE "EthernetGatesModel" prog_8_method_6_code 8 false ((some FieldType.int)) e.1 e.2) = true := by
  refine am_all_split 60 am_pk_69_0 ?_
  try rw [List.drop_drop]
  rw [← List.take_of_length_le (l := pg_M_gate.drop 60) (i := 60) (by decide)]
  exact am_pk_69_1
theorem am_chk_69 : am_chk 69 = true := am_pk_69
theorem am_chk_70 : am_chk 70 = true := by decide +kernel
theorem am_pk_71_0 : (((pg_M_cycle.drop 0)).take 60).all (fun e => am_okE "EthernetGatesModel" prog_8_method_7_code 5 false ((some FieldType.int)) e.1 e.2) = true := by decide +kernel
theorem am_pk_71_1 : (((pg_M_cycle.drop 60)).take 60).all (fun e => am_okE "EthernetGatesModel" prog_8_method_7_code 5 false ((some FieldType.int)) e.1 e.2) = true := by decide +kernel
set_option maxRecDepth 20000 in
theorem am_pk_71 : pg_M_cycle.all (fun e => am_okE "EthernetGatesModel" prog_8_method_7_code 5 false ((some FieldType.int)) e.1 e.2) = true := by
  refine am_all_split 60 am_pk_71_0 ?_
  try rw [List.drop_drop]
  rw [← List.take_of_length_le (l := pg_M_cycle.drop 60) (i := 60) (by decide)]
  exact am_pk_71_1
theorem am_chk_71 : am_chk 71 = true := am_pk_71
theorem am_pk_72_0 : (((pg_M_learn.drop 0)).take 60).all (fun e => am_okE "EthernetGatesModel" prog_8_method_9_code 6 false ((some FieldType.int)) e.1 e.2) = true := by decide +kernel
theorem am_pk_72_1 : (((pg_M_learn.drop 60)).take 60).all (fun e => am_okE "EthernetGatesModel" prog_8_method_9_code 6 false ((some FieldType.int)) e.1 e.2) = true := by decide +kernel
set_option maxRecDepth 20000 in
theorem am_pk_72 : pg_M_learn.all (fun e => am_okE "EthernetGatesModel" prog_8_method_9_code 6 false ((some FieldType.int)) e.1 e.2) = true := by
  refine am_all_split 60 am_pk_72_0 ?_
  try rw [List.drop_drop]
  rw [← List.take_of_length_le (l := pg_M_learn.drop 60) (i := 60) (by decide)]
  exact am_pk_72_1
theorem am_chk_72 : am_chk 72 = true := am_pk_72
theorem am_chk_73 : am_chk 73 = true := by decide +kernel
theorem am_chk_74 : am_chk 74 = true := by decide +kernel
theorem am_chk_75 : am_chk 75 = true := by decide +kernel
theorem am_chk_76 : am_chk 76 = true := by decide +kernel
theorem am_pk_77_0 : (((pg_M_clock.drop 0)).take 60).all (fun e => am_okE "EthernetGatesModel" prog_8_method_13_code 4 false ((some FieldType.int)) e.1 e.2) = true := by decide +kernel
theorem am_pk_77_1 : (((pg_M_clock.drop 60)).take 60).all (fun e => am_okE "EthernetGatesModel" prog_8_method_13_code 4 false ((some FieldType.int)) e.1 e.2) = true := by decide +kernel
set_option maxRecDepth 20000 in
theorem am_pk_77 : pg_M_clock.all (fun e => am_okE "EthernetGatesModel" prog_8_method_13_code 4 false ((some FieldType.int)) e.1 e.2) = true := by
  refine am_all_split 60 am_pk_77_0 ?_
  try rw [List.drop_drop]
  rw [← List.take_of_length_le (l := pg_M_clock.drop 60) (i := 60) (by decide)]
  exact am_pk_77_1
theorem am_chk_77 : am_chk 77 = true := am_pk_77
theorem am_pk_78_0 : (((pg_M_service.drop 0)).take 60).all (fun e => am_okE "EthernetGatesModel" prog_8_method_14_code 3 false ((some FieldType.int)) e.1 e.2) = true := by decide +kernel
theorem am_pk_78_1 : (((pg_M_service.drop 60)).take 60).all (fun e => am_okE "EthernetGatesModel" prog_8_method_14_code 3 false ((some FieldType.int)) e.1 e.2) = true := by decide +kernel
set_option maxRecDepth 20000 in
theorem am_pk_78 : pg_M_service.all (fun e => am_okE "EthernetGatesModel" prog_8_method_14_code 3 false ((some FieldType.int)) e.1 e.2) = true := by
  refine am_all_split 60 am_pk_78_0 ?_
  try rw [List.drop_drop]
  rw [← List.take_of_length_le (l := pg_M_service.drop 60) (i := 60) (by decide)]
  exact am_pk_78_1
theorem am_chk_78 : am_chk 78 = true := am_pk_78
theorem am_pk_79_0 : (((pg_M_frame.drop 0)).take 60).all (fun e => am_okE "EthernetGatesModel" prog_8_method_16_code 10 false ((some FieldType.int)) e.1 e.2) = true := by decide +kernel
theorem am_pk_79_1 : (((pg_M_frame.drop 60)).take 60).all (fun e => am_okE "EthernetGatesModel" prog_8_method_16_code 10 false ((some FieldType.int)) e.1 e.2) = true := by decide +kernel
theorem am_pk_79_2 : (((pg_M_frame.drop 120)).take 60).all (fun e => am_okE "EthernetGatesModel" prog_8_method_16_code 10 false ((some FieldType.int)) e.1 e.2) = true := by decide +kernel
set_option maxRecDepth 20000 in
theorem am_pk_79 : pg_M_frame.all (fun e => am_okE "EthernetGatesModel" prog_8_method_16_code 10 false ((some FieldType.int)) e.1 e.2) = true := by
  refine am_all_split 60 am_pk_79_0 ?_
  try rw [List.drop_drop]
  refine am_all_split 60 am_pk_79_1 ?_
  try rw [List.drop_drop]
  rw [← List.take_of_length_le (l := pg_M_frame.drop 120) (i := 60) (by decide)]
  exact am_pk_79_2
theorem am_chk_79 : am_chk 79 = true := am_pk_79
theorem am_chk_80 : am_chk 80 = true := by decide +kernel
theorem am_chk_81 : am_chk 81 = true := by decide +kernel
theorem am_pk_82_0 : (((pg_M_tick.drop 0)).take 60).all (fun e => am_okE "EthernetGatesModel" prog_8_method_21_code 3 false (none) e.1 e.2) = true := by decide +kernel
theorem am_pk_82_1 : (((pg_M_tick.drop 60)).take 60).all (fun e => am_okE "EthernetGatesModel" prog_8_method_21_code 3 false (none) e.1 e.2) = true := by decide +kernel
theorem am_pk_82_2 : (((pg_M_tick.drop 120)).take 60).all (fun e => am_okE "EthernetGatesModel" prog_8_method_21_code 3 false (none) e.1 e.2) = true := by decide +kernel
theorem am_pk_82_3 : (((pg_M_tick.drop 180)).take 60).all (fun e => am_okE "EthernetGatesModel" prog_8_method_21_code 3 false (none) e.1 e.2) = true := by decide +kernel
set_option maxRecDepth 20000 in
theorem am_pk_82 : pg_M_tick.all (fun e => am_okE "EthernetGatesModel" prog_8_method_21_code 3 false (none) e.1 e.2) = true := by
  refine am_all_split 60 am_pk_82_0 ?_
  try rw [List.drop_drop]
  refine am_all_split 60 am_pk_82_1 ?_
  try rw [List.drop_drop]
  refine am_all_split 60 am_pk_82_2 ?_
  try rw [List.drop_drop]
  rw [← List.take_of_length_le (l := pg_M_tick.drop 180) (i := 60) (by decide)]
  exact am_pk_82_3
theorem am_chk_82 : am_chk 82 = true := am_pk_82
theorem am_chk_83 : am_chk 83 = true := by decide +kernel
theorem am_chk_84 : am_chk 84 = true := by decide +kernel
theorem am_pk_85_0 : (((pg_M_open.drop 0)).take 60).all (fun e => am_okE "EthernetGatesModel" prog_8_method_18_code 8 false ((some FieldType.boolean)) e.1 e.2) = true := by decide +kernel
theorem am_pk_85_1 : (((pg_M_open.drop 60)).take 60).all (fun e => am_okE "EthernetGatesModel" prog_8_method_18_code 8 false ((some FieldType.boolean)) e.1 e.2) = true := by decide +kernel
set_option maxRecDepth 20000 in
theorem am_pk_85 : pg_M_open.all (fun e => am_okE "EthernetGatesModel" prog_8_method_18_code 8 false ((some FieldType.boolean)) e.1 e.2) = true := by
  refine am_all_split 60 am_pk_85_0 ?_
  try rw [List.drop_drop]
  rw [← List.take_of_length_le (l := pg_M_open.drop 60) (i := 60) (by decide)]
  exact am_pk_85_1
theorem am_chk_85 : am_chk 85 = true := am_pk_85
theorem am_pk_86_0 : (((pg_M_begin.drop 0)).take 60).all (fun e => am_okE "EthernetGatesModel" prog_8_method_20_code 5 false (none) e.1 e.2) = true := by decide +kernel
theorem am_pk_86_1 : (((pg_M_begin.drop 60)).take 60).all (fun e => am_okE "EthernetGatesModel" prog_8_method_20_code 5 false (none) e.1 e.2) = true := by decide +kernel
set_option maxRecDepth 20000 in
theorem am_pk_86 : pg_M_begin.all (fun e => am_okE "EthernetGatesModel" prog_8_method_20_code 5 false (none) e.1 e.2) = true := by
  refine am_all_split 60 am_pk_86_0 ?_
  try rw [List.drop_drop]
  rw [← List.take_of_length_le (l := pg_M_begin.drop 60) (i := 60) (by decide)]
  exact am_pk_86_1
theorem am_chk_86 : am_chk 86 = true := am_pk_86
theorem am_chk_87 : am_chk 87 = true := by decide +kernel
theorem am_chk_88 : am_chk 88 = true := by decide +kernel
theorem am_pk_89_0 : (((pg_W_law.drop 0)).take 60).all (fun e => am_okE "EthernetGatesLaw" code 7 false ((some FieldType.boolean)) e.1 e.2) = true := by decide +kernel
theorem am_pk_89_1 : (((pg_W_law.drop 60)).take 60).all (fun e => am_okE "EthernetGatesLaw" code 7 false ((some FieldType.boolean)) e.1 e.2) = true := by decide +kernel
theorem am_pk_89_2 : (((pg_W_law.drop 120)).take 60).all (fun e => am_okE "EthernetGatesLaw" code 7 false ((some FieldType.boolean)) e.1 e.2) = true := by decide +kernel
theorem am_pk_89_3 : (((pg_W_law.drop 180)).take 60).all (fun e => am_okE "EthernetGatesLaw" code 7 false ((some FieldType.boolean)) e.1 e.2) = true := by decide +kernel
theorem am_pk_89_4 : (((pg_W_law.drop 240)).take 60).all (fun e => am_okE "EthernetGatesLaw" code 7 false ((some FieldType.boolean)) e.1 e.2) = true := by decide +kernel
theorem am_pk_89_5 : (((pg_W_law.drop 300)).take 60).all (fun e => am_okE "EthernetGatesLaw" code 7 false ((some FieldType.boolean)) e.1 e.2) = true := by decide +kernel
theorem am_pk_89_6 : (((pg_W_law.drop 360)).take 60).all (fun e => am_okE "EthernetGatesLaw" code 7 false ((some FieldType.boolean)) e.1 e.2) = true := by decide +kernel
theorem am_pk_89_7 : (((pg_W_law.drop 420)).take 60).all (fun e => am_okE "EthernetGatesLaw" code 7 false ((some FieldType.boolean)) e.1 e.2) = true := by decide +kernel
theorem am_pk_89_8 : (((pg_W_law.drop 480)).take 60).all (fun e => am_okE "EthernetGatesLaw" code 7 false ((some FieldType.boolean)) e.1 e.2) = true := by decide +kernel
theorem am_pk_89_9 : (((pg_W_law.drop 540)).take 60).all (fun e => am_okE "EthernetGatesLaw" code 7 false ((some FieldType.boolean)) e.1 e.2) = true := by decide +kernel
theorem am_pk_89_10 : (((pg_W_law.drop 600)).take 60).all (fun e => am_okE "EthernetGatesLaw" code 7 false ((some FieldType.boolean)) e.1 e.2) = true := by decide +kernel
set_option maxRecDepth 20000 in
theorem am_pk_89 : pg_W_law.all (fun e => am_okE "EthernetGatesLaw" code 7 false ((some FieldType.boolean)) e.1 e.2) = true := by
  refine am_all_split 60 am_pk_89_0 ?_
  try rw [List.drop_drop]
  refine am_all_split 60 am_pk_89_1 ?_
  try rw [List.drop_drop]
  refine am_all_split 60 am_pk_89_2 ?_
  try rw [List.drop_drop]
  refine am_all_split 60 am_pk_89_3 ?_
  try rw [List.drop_drop]
  refine am_all_split 60 am_pk_89_4 ?_
  try rw [List.drop_drop]
  refine am_all_split 60 am_pk_89_5 ?_
  try rw [List.drop_drop]
  refine am_all_split 60 am_pk_89_6 ?_
  try rw [List.drop_drop]
  refine am_all_split 60 am_pk_89_7 ?_
  try rw [List.drop_drop]
  refine am_all_split 60 am_pk_89_8 ?_
  try rw [List.drop_drop]
  refine am_all_split 60 am_pk_89_9 ?_
  try rw [List.drop_drop]
  rw [← List.take_of_length_le (l := pg_W_law.drop 600) (i := 60) (by decide)]
  exact am_pk_89_10
theorem am_chk_89 : am_chk 89 = true := am_pk_89
theorem am_chk_90 : am_chk 90 = true := by decide +kernel
theorem am_chk_all : ∀ x ∈ ([0, 1, 2, 3, 4, 5, 6, 7, 8, 9, 10, 11, 12, 13, 14, 15, 16, 17, 18, 19, 20, 21, 22, 23, 24, 25, 26, 27, 28, 29, 30, 31, 32, 33, 34, 35, 36, 37, 38, 39, 40, 41, 42, 43, 44, 45, 46, 47, 48, 49, 50, 51, 52, 53, 54, 55, 56, 57, 58, 59, 60, 61, 62, 63, 64, 65, 66, 67, 68, 69, 70, 71, 72, 73, 74, 75, 76, 77, 78, 79, 80, 81, 82, 83, 84, 85, 86, 87, 88, 89, 90] : List Nat), am_chk x = true := List.forall_mem_cons.mpr ⟨am_chk_0, List.forall_mem_cons.mpr ⟨am_chk_1, List.forall_mem_cons.mpr ⟨am_chk_2, List.forall_mem_cons.mpr ⟨am_chk_3, List.forall_mem_cons.mpr ⟨am_chk_4, List.forall_mem_cons.mpr ⟨am_chk_5, List.forall_mem_cons.mpr ⟨am_chk_6, List.forall_mem_cons.mpr ⟨am_chk_7, List.forall_mem_cons.mpr ⟨am_chk_8, List.forall_mem_cons.mpr ⟨am_chk_9, List.forall_mem_cons.mpr ⟨am_chk_10, List.forall_mem_cons.mpr ⟨am_chk_11, List.forall_mem_cons.mpr ⟨am_chk_12, List.forall_mem_cons.mpr ⟨am_chk_13, List.forall_mem_cons.mpr ⟨am_chk_14, List.forall_mem_cons.mpr ⟨am_chk_15, List.forall_mem_cons.mpr ⟨am_chk_16, List.forall_mem_cons.mpr ⟨am_chk_17, List.forall_mem_cons.mpr ⟨am_chk_18, List.forall_mem_cons.mpr ⟨am_chk_19, List.forall_mem_cons.mpr ⟨am_chk_20, List.forall_mem_cons.mpr ⟨am_chk_21, List.forall_mem_cons.mpr ⟨am_chk_22, List.forall_mem_cons.mpr ⟨am_chk_23, List.forall_mem_cons.mpr ⟨am_chk_24, List.forall_mem_cons.mpr ⟨am_chk_25, List.forall_mem_cons.mpr ⟨am_chk_26, List.forall_mem_cons.mpr ⟨am_chk_27, List.forall_mem_cons.mpr ⟨am_chk_28, List.forall_mem_cons.mpr ⟨am_chk_29, List.forall_mem_cons.mpr ⟨am_chk_30, List.forall_mem_cons.mpr ⟨am_chk_31, List.forall_mem_cons.mpr ⟨am_chk_32, List.forall_mem_cons.mpr ⟨am_chk_33, List.forall_mem_cons.mpr ⟨am_chk_34, List.forall_mem_cons.mpr ⟨am_chk_35, List.forall_mem_cons.mpr ⟨am_chk_36, List.forall_mem_cons.mpr ⟨am_chk_37, List.forall_mem_cons.mpr ⟨am_chk_38, List.forall_mem_cons.mpr ⟨am_chk_39, List.forall_mem_cons.mpr ⟨am_chk_40, List.forall_mem_cons.mpr ⟨am_chk_41, List.forall_mem_cons.mpr ⟨am_chk_42, List.forall_mem_cons.mpr ⟨am_chk_43, List.forall_mem_cons.mpr ⟨am_chk_44, List.forall_mem_cons.mpr ⟨am_chk_45, List.forall_mem_cons.mpr ⟨am_chk_46, List.forall_mem_cons.mpr ⟨am_chk_47, List.forall_mem_cons.mpr ⟨am_chk_48, List.forall_mem_cons.mpr ⟨am_chk_49, List.forall_mem_cons.mpr ⟨am_chk_50, List.forall_mem_cons.mpr ⟨am_chk_51, List.forall_mem_cons.mpr ⟨am_chk_52, List.forall_mem_cons.mpr ⟨am_chk_53, List.forall_mem_cons.mpr ⟨am_chk_54, List.forall_mem_cons.mpr ⟨am_chk_55, List.forall_mem_cons.mpr ⟨am_chk_56, List.forall_mem_cons.mpr ⟨am_chk_57, List.forall_mem_cons.mpr ⟨am_chk_58, List.forall_mem_cons.mpr ⟨am_chk_59, List.forall_mem_cons.mpr ⟨am_chk_60, List.forall_mem_cons.mpr ⟨am_chk_61, List.forall_mem_cons.mpr ⟨am_chk_62, List.forall_mem_cons.mpr ⟨am_chk_63, List.forall_mem_cons.mpr ⟨am_chk_64, List.forall_mem_cons.mpr ⟨am_chk_65, List.forall_mem_cons.mpr ⟨am_chk_66, List.forall_mem_cons.mpr ⟨am_chk_67, List.forall_mem_cons.mpr ⟨am_chk_68, List.forall_mem_cons.mpr ⟨am_chk_69, List.forall_mem_cons.mpr ⟨am_chk_70, List.forall_mem_cons.mpr ⟨am_chk_71, List.forall_mem_cons.mpr ⟨am_chk_72, List.forall_mem_cons.mpr ⟨am_chk_73, List.forall_mem_cons.mpr ⟨am_chk_74, List.forall_mem_cons.mpr ⟨am_chk_75, List.forall_mem_cons.mpr ⟨am_chk_76, List.forall_mem_cons.mpr ⟨am_chk_77, List.forall_mem_cons.mpr ⟨am_chk_78, List.forall_mem_cons.mpr ⟨am_chk_79, List.forall_mem_cons.mpr ⟨am_chk_80, List.forall_mem_cons.mpr ⟨am_chk_81, List.forall_mem_cons.mpr ⟨am_chk_82, List.forall_mem_cons.mpr ⟨am_chk_83, List.forall_mem_cons.mpr ⟨am_chk_84, List.forall_mem_cons.mpr ⟨am_chk_85, List.forall_mem_cons.mpr ⟨am_chk_86, List.forall_mem_cons.mpr ⟨am_chk_87, List.forall_mem_cons.mpr ⟨am_chk_88, List.forall_mem_cons.mpr ⟨am_chk_89, List.forall_mem_cons.mpr ⟨am_chk_90, fun _ h => absurd h List.not_mem_nil⟩⟩⟩⟩⟩⟩⟩⟩⟩⟩⟩⟩⟩⟩⟩⟩⟩⟩⟩⟩⟩⟩⟩⟩⟩⟩⟩⟩⟩⟩⟩⟩⟩⟩⟩⟩⟩⟩⟩⟩⟩⟩⟩⟩⟩⟩⟩⟩⟩⟩⟩⟩⟩⟩⟩⟩⟩⟩⟩⟩⟩⟩⟩⟩⟩⟩⟩⟩⟩⟩⟩⟩⟩⟩⟩⟩⟩⟩⟩⟩⟩⟩⟩⟩⟩⟩⟩⟩⟩⟩⟩
theorem am_pg_ok {x : Nat} {w : MethodName} {cc : ByteArray} {mL : Nat} {ret : Option FieldType} (h : am_mi x = some (w, cc, mL, ret)) {pc : Nat} {q : am_E} (hm : (pc, q) ∈ am_pg x) : am_okE w.cls cc mL (decide (w.name = "<init>")) ret pc q = true := by
  have hx : x ∈ ([0, 1, 2, 3, 4, 5, 6, 7, 8, 9, 10, 11, 12, 13, 14, 15, 16, 17, 18, 19, 20, 21, 22, 23, 24, 25, 26, 27, 28, 29, 30, 31, 32, 33, 34, 35, 36, 37, 38, 39, 40, 41, 42, 43, 44, 45, 46, 47, 48, 49, 50, 51, 52, 53, 54, 55, 56, 57, 58, 59, 60, 61, 62, 63, 64, 65, 66, 67, 68, 69, 70, 71, 72, 73, 74, 75, 76, 77, 78, 79, 80, 81, 82, 83, 84, 85, 86, 87, 88, 89, 90] : List Nat) := by
    have hlt := am_mi_lt h
    have h9 : x ∈ List.range 91 := List.mem_range.mpr hlt
    exact h9
  have h1 := am_chk_all x hx
  unfold am_chk at h1
  rw [h] at h1
  exact List.all_eq_true.mp h1 _ hm
