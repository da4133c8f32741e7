/-! The law, case by case. -/
section LW1
variable {S : mS} {I : mI} {L : mL} {R : mR} {Q : mQ} {d x b i Lx bc bs : Nat} {xs : Nat → Int32}
theorem lc_20 (hI : INV x b xs S I L R) (hb : kd S b = 110) (hn : ln S b = Lx) (hi : i + 6 ≤ Lx) (hL : Lx ≤ 384) (go : ∀ I' L' R', INV x b xs S I' L' R' → WP (d + 41, bc, bs) 0 2187 [some (.ref b), some (.ref x), some (.ref (x + 163)), some (.int (nI i))] [] S I' L' R' Q) : WP (d + 41, bc, bs) 0 993 [some (.ref b), some (.ref x), some (.ref (x + 163)), some (.int (nI i))] [] S I L R Q := by
  obtain ⟨A, hA⟩ := id hI
  have hs : I b = xs := hA.scr
  have k0 : kd S x = 0 := hA.c.k0
  have k12 : kd S (x + 163) = 12 := md_k hA.m
  have v1 : vp_in (nI (i + 1)) (ln S b) := by rw [hn]; exact of_eq_true (vin (by omega) (by omega))
  have v2 : vp_in (nI (i + 2)) (ln S b) := by rw [hn]; exact of_eq_true (vin (by omega) (by omega))
  have v3 : vp_in (nI (i + 3)) (ln S b) := by rw [hn]; exact of_eq_true (vin (by omega) (by omega))
  have v4 : vp_in (nI (i + 4)) (ln S b) := by rw [hn]; exact of_eq_true (vin (by omega) (by omega))
  have v5 : vp_in (nI (i + 5)) (ln S b) := by rw [hn]; exact of_eq_true (vin (by omega) (by omega))
  simp (disch := first | assumption | exact cw0 | omega | (simp only [cw_nil, cw_int, cw_ref, cw_long]; omega) | decide) only [x_0_993, x_0_994, x_0_995, x_0_996, x_0_997, x_0_998, x_0_999, x_0_1000, x_0_1001, x_0_1002, x_0_1003, x_0_1004, x_0_1005, x_0_1006, x_0_1007, x_0_1008, x_0_1012, x_0_1013, x_0_1014, x_0_1015, x_0_1016, x_0_1017, x_0_1018, x_0_1019, x_0_1020, x_0_1021, x_0_1022, x_0_1023, x_0_1024, x_0_1025, x_0_1026, x_0_1027, x_0_1028, x_0_1031, x_0_1034, x_0_1035, ↓reduceIte, va_rf_some, cw_nil, cw_int, cw_ref, cw_long, kl_int, kl_ref, kl_null, kl_long, kl_none, Option.toList_some, Option.toList_none, List.cons_append, List.nil_append, List.append_nil, nI_add, nI_clamp, nI_ltI, nI_leI, nI_eq, Nat.reduceLT, Nat.reduceLeDiff, Nat.reduceEqDiff, Nat.reduceAdd, Nat.reduceMul, Nat.reduceSub, if_true, if_false, not_true, not_false_eq_true, decide_true, decide_false, Nat.lt_irrefl, Nat.le_refl, Nat.not_lt_zero, Nat.zero_le, hs]
  rw [x_0_1009 k0 (by simp only [cw_ref, cw_int, cw_long, cw_nil, Option.toList_some, List.cons_append, List.nil_append]; omega)]
  refine CA_mono (CA_rt (sim_rise d x b xs S I L R hI)) ?_
  rintro v S1 I1 L1 R1 ⟨⟨rfl, h1, h2⟩, hr, -⟩
  obtain ⟨u, rfl⟩ := hr (Or.inr ht_30)
  simp (disch := first | assumption | exact cw0 | omega | (simp only [cw_nil, cw_int, cw_ref, cw_long]; omega) | decide) only [x_0_993, x_0_994, x_0_995, x_0_996, x_0_997, x_0_998, x_0_999, x_0_1000, x_0_1001, x_0_1002, x_0_1003, x_0_1004, x_0_1005, x_0_1006, x_0_1007, x_0_1008, x_0_1012, x_0_1013, x_0_1014, x_0_1015, x_0_1016, x_0_1017, x_0_1018, x_0_1019, x_0_1020, x_0_1021, x_0_1022, x_0_1023, x_0_1024, x_0_1025, x_0_1026, x_0_1027, x_0_1031, x_0_1034, x_0_1035, ↓reduceIte, va_rf_some, cw_nil, cw_int, cw_ref, cw_long, kl_int, kl_ref, kl_null, kl_long, kl_none, Option.toList_some, Option.toList_none, List.cons_append, List.nil_append, List.append_nil, nI_add, nI_clamp, nI_ltI, nI_leI, nI_eq, Nat.reduceLT, Nat.reduceLeDiff, Nat.reduceEqDiff, Nat.reduceAdd, Nat.reduceMul, Nat.reduceSub, if_true, if_false, not_true, not_false_eq_true, decide_true, decide_false, Nat.lt_irrefl, Nat.le_refl, Nat.not_lt_zero, Nat.zero_le, h1]
  rw [x_0_1028 k12 (by simp only [cw_ref, cw_int, cw_long, cw_nil, Option.toList_some, List.cons_append, List.nil_append]; omega)]
  refine CA_mono h2 ?_
  rintro w S2 I2 L2 R2 ⟨rfl, rfl, hI2⟩
  simp (disch := first | assumption | exact cw0 | omega | (simp only [cw_nil, cw_int, cw_ref, cw_long]; omega) | decide) only [x_0_993, x_0_994, x_0_995, x_0_996, x_0_997, x_0_998, x_0_999, x_0_1000, x_0_1001, x_0_1002, x_0_1003, x_0_1004, x_0_1005, x_0_1006, x_0_1007, x_0_1008, x_0_1012, x_0_1013, x_0_1014, x_0_1015, x_0_1016, x_0_1017, x_0_1018, x_0_1019, x_0_1020, x_0_1021, x_0_1022, x_0_1023, x_0_1024, x_0_1025, x_0_1026, x_0_1027, x_0_1031, x_0_1034, x_0_1035, ↓reduceIte, va_rf_some, cw_nil, cw_int, cw_ref, cw_long, kl_int, kl_ref, kl_null, kl_long, kl_none, Option.toList_some, Option.toList_none, List.cons_append, List.nil_append, List.append_nil, nI_add, nI_clamp, nI_ltI, nI_leI, nI_eq, Nat.reduceLT, Nat.reduceLeDiff, Nat.reduceEqDiff, Nat.reduceAdd, Nat.reduceMul, Nat.reduceSub, if_true, if_false, not_true, not_false_eq_true, decide_true, decide_false, Nat.lt_irrefl, Nat.le_refl, Nat.not_lt_zero, Nat.zero_le, eq_self]
  exact go I2 L2 R2 hI2
theorem lc_21 (hI : INV x b xs S I L R) (hb : kd S b = 110) (hn : ln S b = Lx) (hi : i + 6 ≤ Lx) (hL : Lx ≤ 384) (go : ∀ I' L' R', INV x b xs S I' L' R' → WP (d + 41, bc, bs) 0 2187 [some (.ref b), some (.ref x), some (.ref (x + 163)), some (.int (nI i))] [] S I' L' R' Q) : WP (d + 41, bc, bs) 0 1036 [some (.ref b), some (.ref x), some (.ref (x + 163)), some (.int (nI i))] [] S I L R Q := by
  obtain ⟨A, hA⟩ := id hI
  have hs : I b = xs := hA.scr
  have k0 : kd S x = 0 := hA.c.k0
  have k12 : kd S (x + 163) = 12 := md_k hA.m
  have v1 : vp_in (nI (i + 1)) (ln S b) := by rw [hn]; exact of_eq_true (vin (by omega) (by omega))
  have v2 : vp_in (nI (i + 2)) (ln S b) := by rw [hn]; exact of_eq_true (vin (by omega) (by omega))
  have v3 : vp_in (nI (i + 3)) (ln S b) := by rw [hn]; exact of_eq_true (vin (by omega) (by omega))
  have v4 : vp_in (nI (i + 4)) (ln S b) := by rw [hn]; exact of_eq_true (vin (by omega) (by omega))
  have v5 : vp_in (nI (i + 5)) (ln S b) := by rw [hn]; exact of_eq_true (vin (by omega) (by omega))
  simp (disch := first | assumption | exact cw0 | omega | (simp only [cw_nil, cw_int, cw_ref, cw_long]; omega) | decide) only [x_0_1036, x_0_1037, x_0_1038, x_0_1039, x_0_1040, x_0_1041, x_0_1042, x_0_1043, x_0_1044, x_0_1045, x_0_1046, x_0_1050, x_0_1051, x_0_1052, x_0_1053, x_0_1054, x_0_1055, x_0_1056, x_0_1057, x_0_1058, x_0_1059, x_0_1060, x_0_1061, x_0_1064, x_0_1067, x_0_1068, ↓reduceIte, va_rf_some, cw_nil, cw_int, cw_ref, cw_long, kl_int, kl_ref, kl_null, kl_long, kl_none, Option.toList_some, Option.toList_none, List.cons_append, List.nil_append, List.append_nil, nI_add, nI_clamp, nI_ltI, nI_leI, nI_eq, Nat.reduceLT, Nat.reduceLeDiff, Nat.reduceEqDiff, Nat.reduceAdd, Nat.reduceMul, Nat.reduceSub, if_true, if_false, not_true, not_false_eq_true, decide_true, decide_false, Nat.lt_irrefl, Nat.le_refl, Nat.not_lt_zero, Nat.zero_le, hs]
  rw [x_0_1047 k0 (by simp only [cw_ref, cw_int, cw_long, cw_nil, Option.toList_some, List.cons_append, List.nil_append]; omega)]
  refine CA_mono (CA_rt (sim_pack d x b xs S I L R hI)) ?_
  rintro v S1 I1 L1 R1 ⟨⟨rfl, h1, h2⟩, hr, -⟩
  obtain ⟨u, rfl⟩ := hr (Or.inl ht_31)
  simp (disch := first | assumption | exact cw0 | omega | (simp only [cw_nil, cw_int, cw_ref, cw_long]; omega) | decide) only [x_0_1036, x_0_1037, x_0_1038, x_0_1039, x_0_1040, x_0_1041, x_0_1042, x_0_1043, x_0_1044, x_0_1045, x_0_1046, x_0_1050, x_0_1051, x_0_1052, x_0_1053, x_0_1054, x_0_1055, x_0_1056, x_0_1057, x_0_1058, x_0_1059, x_0_1060, x_0_1064, x_0_1067, x_0_1068, ↓reduceIte, va_rf_some, cw_nil, cw_int, cw_ref, cw_long, kl_int, kl_ref, kl_null, kl_long, kl_none, Option.toList_some, Option.toList_none, List.cons_append, List.nil_append, List.append_nil, nI_add, nI_clamp, nI_ltI, nI_leI, nI_eq, Nat.reduceLT, Nat.reduceLeDiff, Nat.reduceEqDiff, Nat.reduceAdd, Nat.reduceMul, Nat.reduceSub, if_true, if_false, not_true, not_false_eq_true, decide_true, decide_false, Nat.lt_irrefl, Nat.le_refl, Nat.not_lt_zero, Nat.zero_le, h1]
  rw [x_0_1061 k12 (by simp only [cw_ref, cw_int, cw_long, cw_nil, Option.toList_some, List.cons_append, List.nil_append]; omega)]
  refine CA_mono h2 ?_
  rintro w S2 I2 L2 R2 ⟨rfl, rfl, hI2⟩
  simp (disch := first | assumption | exact cw0 | omega | (simp only [cw_nil, cw_int, cw_ref, cw_long]; omega) | decide) only [x_0_1036, x_0_1037, x_0_1038, x_0_1039, x_0_1040, x_0_1041, x_0_1042, x_0_1043, x_0_1044, x_0_1045, x_0_1046, x_0_1050, x_0_1051, x_0_1052, x_0_1053, x_0_1054, x_0_1055, x_0_1056, x_0_1057, x_0_1058, x_0_1059, x_0_1060, x_0_1064, x_0_1067, x_0_1068, ↓reduceIte, va_rf_some, cw_nil, cw_int, cw_ref, cw_long, kl_int, kl_ref, kl_null, kl_long, kl_none, Option.toList_some, Option.toList_none, List.cons_append, List.nil_append, List.append_nil, nI_add, nI_clamp, nI_ltI, nI_leI, nI_eq, Nat.reduceLT, Nat.reduceLeDiff, Nat.reduceEqDiff, Nat.reduceAdd, Nat.reduceMul, Nat.reduceSub, if_true, if_false, not_true, not_false_eq_true, decide_true, decide_false, Nat.lt_irrefl, Nat.le_refl, Nat.not_lt_zero, Nat.zero_le, eq_self]
  exact go I2 L2 R2 hI2
theorem lc_22 (hI : INV x b xs S I L R) (hb : kd S b = 110) (hn : ln S b = Lx) (hi : i + 6 ≤ Lx) (hL : Lx ≤ 384) (go : ∀ I' L' R', INV x b xs S I' L' R' → WP (d + 41, bc, bs) 0 2187 [some (.ref b), some (.ref x), some (.ref (x + 163)), some (.int (nI i))] [] S I' L' R' Q) : WP (d + 41, bc, bs) 0 1069 [some (.ref b), some (.ref x), some (.ref (x + 163)), some (.int (nI i))] [] S I L R Q := by
  obtain ⟨A, hA⟩ := id hI
  have hs : I b = xs := hA.scr
  have k0 : kd S x = 0 := hA.c.k0
  have k12 : kd S (x + 163) = 12 := md_k hA.m
  have v1 : vp_in (nI (i + 1)) (ln S b) := by rw [hn]; exact of_eq_true (vin (by omega) (by omega))
  have v2 : vp_in (nI (i + 2)) (ln S b) := by rw [hn]; exact of_eq_true (vin (by omega) (by omega))
  have v3 : vp_in (nI (i + 3)) (ln S b) := by rw [hn]; exact of_eq_true (vin (by omega) (by omega))
  have v4 : vp_in (nI (i + 4)) (ln S b) := by rw [hn]; exact of_eq_true (vin (by omega) (by omega))
  have v5 : vp_in (nI (i + 5)) (ln S b) := by rw [hn]; exact of_eq_true (vin (by omega) (by omega))
  simp (disch := first | assumption | exact cw0 | omega | (simp only [cw_nil, cw_int, cw_ref, cw_long]; omega) | decide) only [x_0_1069, x_0_1070, x_0_1071, x_0_1072, x_0_1073, x_0_1074, x_0_1075, x_0_1076, x_0_1077, x_0_1078, x_0_1079, x_0_1080, x_0_1081, x_0_1082, x_0_1083, x_0_1084, x_0_1088, x_0_1089, x_0_1090, x_0_1091, x_0_1092, x_0_1093, x_0_1094, x_0_1095, x_0_1096, x_0_1097, x_0_1098, x_0_1099, x_0_1100, x_0_1101, x_0_1102, x_0_1103, x_0_1104, x_0_1107, x_0_1110, x_0_1111, ↓reduceIte, va_rf_some, cw_nil, cw_int, cw_ref, cw_long, kl_int, kl_ref, kl_null, kl_long, kl_none, Option.toList_some, Option.toList_none, List.cons_append, List.nil_append, List.append_nil, nI_add, nI_clamp, nI_ltI, nI_leI, nI_eq, Nat.reduceLT, Nat.reduceLeDiff, Nat.reduceEqDiff, Nat.reduceAdd, Nat.reduceMul, Nat.reduceSub, if_true, if_false, not_true, not_false_eq_true, decide_true, decide_false, Nat.lt_irrefl, Nat.le_refl, Nat.not_lt_zero, Nat.zero_le, hs]
  rw [x_0_1085 k0 (by simp only [cw_ref, cw_int, cw_long, cw_nil, Option.toList_some, List.cons_append, List.nil_append]; omega)]
  refine CA_mono (CA_rt (sim_send d x b xs S I L R hI)) ?_
  rintro v S1 I1 L1 R1 ⟨⟨rfl, h1, h2⟩, hr, -⟩
  obtain ⟨u, rfl⟩ := hr (Or.inr ht_32)
  simp (disch := first | assumption | exact cw0 | omega | (simp only [cw_nil, cw_int, cw_ref, cw_long]; omega) | decide) only [x_0_1069, x_0_1070, x_0_1071, x_0_1072, x_0_1073, x_0_1074, x_0_1075, x_0_1076, x_0_1077, x_0_1078, x_0_1079, x_0_1080, x_0_1081, x_0_1082, x_0_1083, x_0_1084, x_0_1088, x_0_1089, x_0_1090, x_0_1091, x_0_1092, x_0_1093, x_0_1094, x_0_1095, x_0_1096, x_0_1097, x_0_1098, x_0_1099, x_0_1100, x_0_1101, x_0_1102, x_0_1103, x_0_1107, x_0_1110, x_0_1111, ↓reduceIte, va_rf_some, cw_nil, cw_int, cw_ref, cw_long, kl_int, kl_ref, kl_null, kl_long, kl_none, Option.toList_some, Option.toList_none, List.cons_append, List.nil_append, List.append_nil, nI_add, nI_clamp, nI_ltI, nI_leI, nI_eq, Nat.reduceLT, Nat.reduceLeDiff, Nat.reduceEqDiff, Nat.reduceAdd, Nat.reduceMul, Nat.reduceSub, if_true, if_false, not_true, not_false_eq_true, decide_true, decide_false, Nat.lt_irrefl, Nat.le_refl, Nat.not_lt_zero, Nat.zero_le, h1]
  rw [x_0_1104 k12 (by simp only [cw_ref, cw_int, cw_long, cw_nil, Option.toList_some, List.cons_append, List.nil_append]; omega)]
  refine CA_mono h2 ?_
  rintro w S2 I2 L2 R2 ⟨rfl, rfl, hI2⟩
  simp (disch := first | assumption | exact cw0 | omega | (simp only [cw_nil, cw_int, cw_ref, cw_long]; omega) | decide) only [x_0_1069, x_0_1070, x_0_1071, x_0_1072, x_0_1073, x_0_1074, x_0_1075, x_0_1076, x_0_1077, x_0_1078, x_0_1079, x_0_1080, x_0_1081, x_0_1082, x_0_1083, x_0_1084, x_0_1088, x_0_1089, x_0_1090, x_0_1091, x_0_1092, x_0_1093, x_0_1094, x_0_1095, x_0_1096, x_0_1097, x_0_1098, x_0_1099, x_0_1100, x_0_1101, x_0_1102, x_0_1103, x_0_1107, x_0_1110, x_0_1111, ↓reduceIte, va_rf_some, cw_nil, cw_int, cw_ref, cw_long, kl_int, kl_ref, kl_null, kl_long, kl_none, Option.toList_some, Option.toList_none, List.cons_append, List.nil_append, List.append_nil, nI_add, nI_clamp, nI_ltI, nI_leI, nI_eq, Nat.reduceLT, Nat.reduceLeDiff, Nat.reduceEqDiff, Nat.reduceAdd, Nat.reduceMul, Nat.reduceSub, if_true, if_false, not_true, not_false_eq_true, decide_true, decide_false, Nat.lt_irrefl, Nat.le_refl, Nat.not_lt_zero, Nat.zero_le, eq_self]
  exact go I2 L2 R2 hI2
theorem lc_23 (hI : INV x b xs S I L R) (hb : kd S b = 110) (hn : ln S b = Lx) (hi : i + 6 ≤ Lx) (hL : Lx ≤ 384) (go : ∀ I' L' R', INV x b xs S I' L' R' → WP (d + 41, bc, bs) 0 2187 [some (.ref b), some (.ref x), some (.ref (x + 163)), some (.int (nI i))] [] S I' L' R' Q) : WP (d + 41, bc, bs) 0 1112 [some (.ref b), some (.ref x), some (.ref (x + 163)), some (.int (nI i))] [] S I L R Q := by
  obtain ⟨A, hA⟩ := id hI
  have hs : I b = xs := hA.scr
  have k0 : kd S x = 0 := hA.c.k0
  have k12 : kd S (x + 163) = 12 := md_k hA.m
  have v1 : vp_in (nI (i + 1)) (ln S b) := by rw [hn]; exact of_eq_true (vin (by omega) (by omega))
  have v2 : vp_in (nI (i + 2)) (ln S b) := by rw [hn]; exact of_eq_true (vin (by omega) (by omega))
  have v3 : vp_in (nI (i + 3)) (ln S b) := by rw [hn]; exact of_eq_true (vin (by omega) (by omega))
  have v4 : vp_in (nI (i + 4)) (ln S b) := by rw [hn]; exact of_eq_true (vin (by omega) (by omega))
  have v5 : vp_in (nI (i + 5)) (ln S b) := by rw [hn]; exact of_eq_true (vin (by omega) (by omega))
  simp (disch := first | assumption | exact cw0 | omega | (simp only [cw_nil, cw_int, cw_ref, cw_long]; omega) | decide) only [x_0_1112, x_0_1113, x_0_1114, x_0_1115, x_0_1116, x_0_1117, x_0_1121, x_0_1122, x_0_1123, x_0_1124, x_0_1125, x_0_1126, x_0_1127, x_0_1130, x_0_1133, x_0_1134, ↓reduceIte, va_rf_some, cw_nil, cw_int, cw_ref, cw_long, kl_int, kl_ref, kl_null, kl_long, kl_none, Option.toList_some, Option.toList_none, List.cons_append, List.nil_append, List.append_nil, nI_add, nI_clamp, nI_ltI, nI_leI, nI_eq, Nat.reduceLT, Nat.reduceLeDiff, Nat.reduceEqDiff, Nat.reduceAdd, Nat.reduceMul, Nat.reduceSub, if_true, if_false, not_true, not_false_eq_true, decide_true, decide_false, Nat.lt_irrefl, Nat.le_refl, Nat.not_lt_zero, Nat.zero_le, hs]
  rw [x_0_1118 k0 (by simp only [cw_ref, cw_int, cw_long, cw_nil, Option.toList_some, List.cons_append, List.nil_append]; omega)]
  refine CA_mono (CA_rt (sim_weather d x b xs S I L R hI)) ?_
  rintro v S1 I1 L1 R1 ⟨⟨rfl, h1, h2⟩, hr, -⟩
  obtain ⟨u, rfl⟩ := hr (Or.inr ht_33)
  simp (disch := first | assumption | exact cw0 | omega | (simp only [cw_nil, cw_int, cw_ref, cw_long]; omega) | decide) only [x_0_1112, x_0_1113, x_0_1114, x_0_1115, x_0_1116, x_0_1117, x_0_1121, x_0_1122, x_0_1123, x_0_1124, x_0_1125, x_0_1126, x_0_1130, x_0_1133, x_0_1134, ↓reduceIte, va_rf_some, cw_nil, cw_int, cw_ref, cw_long, kl_int, kl_ref, kl_null, kl_long, kl_none, Option.toList_some, Option.toList_none, List.cons_append, List.nil_append, List.append_nil, nI_add, nI_clamp, nI_ltI, nI_leI, nI_eq, Nat.reduceLT, Nat.reduceLeDiff, Nat.reduceEqDiff, Nat.reduceAdd, Nat.reduceMul, Nat.reduceSub, if_true, if_false, not_true, not_false_eq_true, decide_true, decide_false, Nat.lt_irrefl, Nat.le_refl, Nat.not_lt_zero, Nat.zero_le, h1]
  rw [x_0_1127 k12 (by simp only [cw_ref, cw_int, cw_long, cw_nil, Option.toList_some, List.cons_append, List.nil_append]; omega)]
  refine CA_mono h2 ?_
  rintro w S2 I2 L2 R2 ⟨rfl, rfl, hI2⟩
  simp (disch := first | assumption | exact cw0 | omega | (simp only [cw_nil, cw_int, cw_ref, cw_long]; omega) | decide) only [x_0_1112, x_0_1113, x_0_1114, x_0_1115, x_0_1116, x_0_1117, x_0_1121, x_0_1122, x_0_1123, x_0_1124, x_0_1125, x_0_1126, x_0_1130, x_0_1133, x_0_1134, ↓reduceIte, va_rf_some, cw_nil, cw_int, cw_ref, cw_long, kl_int, kl_ref, kl_null, kl_long, kl_none, Option.toList_some, Option.toList_none, List.cons_append, List.nil_append, List.append_nil, nI_add, nI_clamp, nI_ltI, nI_leI, nI_eq, Nat.reduceLT, Nat.reduceLeDiff, Nat.reduceEqDiff, Nat.reduceAdd, Nat.reduceMul, Nat.reduceSub, if_true, if_false, not_true, not_false_eq_true, decide_true, decide_false, Nat.lt_irrefl, Nat.le_refl, Nat.not_lt_zero, Nat.zero_le, eq_self]
  exact go I2 L2 R2 hI2
theorem lc_24 (hI : INV x b xs S I L R) (hb : kd S b = 110) (hn : ln S b = Lx) (hi : i + 6 ≤ Lx) (hL : Lx ≤ 384) (go : ∀ I' L' R', INV x b xs S I' L' R' → WP (d + 41, bc, bs) 0 2187 [some (.ref b), some (.ref x), some (.ref (x + 163)), some (.int (nI i))] [] S I' L' R' Q) : WP (d + 41, bc, bs) 0 1135 [some (.ref b), some (.ref x), some (.ref (x + 163)), some (.int (nI i))] [] S I L R Q := by
  obtain ⟨A, hA⟩ := id hI
  have hs : I b = xs := hA.scr
  have k0 : kd S x = 0 := hA.c.k0
  have k12 : kd S (x + 163) = 12 := md_k hA.m
  have v1 : vp_in (nI (i + 1)) (ln S b) := by rw [hn]; exact of_eq_true (vin (by omega) (by omega))
  have v2 : vp_in (nI (i + 2)) (ln S b) := by rw [hn]; exact of_eq_true (vin (by omega) (by omega))
  have v3 : vp_in (nI (i + 3)) (ln S b) := by rw [hn]; exact of_eq_true (vin (by omega) (by omega))
  have v4 : vp_in (nI (i + 4)) (ln S b) := by rw [hn]; exact of_eq_true (vin (by omega) (by omega))
  have v5 : vp_in (nI (i + 5)) (ln S b) := by rw [hn]; exact of_eq_true (vin (by omega) (by omega))
  simp (disch := first | assumption | exact cw0 | omega | (simp only [cw_nil, cw_int, cw_ref, cw_long]; omega) | decide) only [x_0_1135, x_0_1136, x_0_1137, x_0_1138, x_0_1139, x_0_1140, x_0_1141, x_0_1142, x_0_1143, x_0_1144, x_0_1145, x_0_1149, x_0_1150, x_0_1151, x_0_1152, x_0_1153, x_0_1154, x_0_1155, x_0_1156, x_0_1157, x_0_1158, x_0_1159, x_0_1160, x_0_1163, x_0_1166, x_0_1167, ↓reduceIte, va_rf_some, cw_nil, cw_int, cw_ref, cw_long, kl_int, kl_ref, kl_null, kl_long, kl_none, Option.toList_some, Option.toList_none, List.cons_append, List.nil_append, List.append_nil, nI_add, nI_clamp, nI_ltI, nI_leI, nI_eq, Nat.reduceLT, Nat.reduceLeDiff, Nat.reduceEqDiff, Nat.reduceAdd, Nat.reduceMul, Nat.reduceSub, if_true, if_false, not_true, not_false_eq_true, decide_true, decide_false, Nat.lt_irrefl, Nat.le_refl, Nat.not_lt_zero, Nat.zero_le, hs]
  rw [x_0_1146 k0 (by simp only [cw_ref, cw_int, cw_long, cw_nil, Option.toList_some, List.cons_append, List.nil_append]; omega)]
  refine CA_mono (CA_rt (sim_pierce d x b xs S I L R hI)) ?_
  rintro v S1 I1 L1 R1 ⟨⟨rfl, h1, h2⟩, hr, -⟩
  obtain ⟨u, rfl⟩ := hr (Or.inl ht_34)
  simp (disch := first | assumption | exact cw0 | omega | (simp only [cw_nil, cw_int, cw_ref, cw_long]; omega) | decide) only [x_0_1135, x_0_1136, x_0_1137, x_0_1138, x_0_1139, x_0_1140, x_0_1141, x_0_1142, x_0_1143, x_0_1144, x_0_1145, x_0_1149, x_0_1150, x_0_1151, x_0_1152, x_0_1153, x_0_1154, x_0_1155, x_0_1156, x_0_1157, x_0_1158, x_0_1159, x_0_1163, x_0_1166, x_0_1167, ↓reduceIte, va_rf_some, cw_nil, cw_int, cw_ref, cw_long, kl_int, kl_ref, kl_null, kl_long, kl_none, Option.toList_some, Option.toList_none, List.cons_append, List.nil_append, List.append_nil, nI_add, nI_clamp, nI_ltI, nI_leI, nI_eq, Nat.reduceLT, Nat.reduceLeDiff, Nat.reduceEqDiff, Nat.reduceAdd, Nat.reduceMul, Nat.reduceSub, if_true, if_false, not_true, not_false_eq_true, decide_true, decide_false, Nat.lt_irrefl, Nat.le_refl, Nat.not_lt_zero, Nat.zero_le, h1]
  rw [x_0_1160 k12 (by simp only [cw_ref, cw_int, cw_long, cw_nil, Option.toList_some, List.cons_append, List.nil_append]; omega)]
  refine CA_mono h2 ?_
  rintro w S2 I2 L2 R2 ⟨rfl, rfl, hI2⟩
  simp (disch := first | assumption | exact cw0 | omega | (simp only [cw_nil, cw_int, cw_ref, cw_long]; omega) | decide) only [x_0_1135, x_0_1136, x_0_1137, x_0_1138, x_0_1139, x_0_1140, x_0_1141, x_0_1142, x_0_1143, x_0_1144, x_0_1145, x_0_1149, x_0_1150, x_0_1151, x_0_1152, x_0_1153, x_0_1154, x_0_1155, x_0_1156, x_0_1157, x_0_1158, x_0_1159, x_0_1163, x_0_1166, x_0_1167, ↓reduceIte, va_rf_some, cw_nil, cw_int, cw_ref, cw_long, kl_int, kl_ref, kl_null, kl_long, kl_none, Option.toList_some, Option.toList_none, List.cons_append, List.nil_append, List.append_nil, nI_add, nI_clamp, nI_ltI, nI_leI, nI_eq, Nat.reduceLT, Nat.reduceLeDiff, Nat.reduceEqDiff, Nat.reduceAdd, Nat.reduceMul, Nat.reduceSub, if_true, if_false, not_true, not_false_eq_true, decide_true, decide_false, Nat.lt_irrefl, Nat.le_refl, Nat.not_lt_zero, Nat.zero_le, eq_self]
  exact go I2 L2 R2 hI2
theorem lc_25 (hI : INV x b xs S I L R) (hb : kd S b = 110) (hn : ln S b = Lx) (hi : i + 6 ≤ Lx) (hL : Lx ≤ 384) (go : ∀ I' L' R', INV x b xs S I' L' R' → WP (d + 41, bc, bs) 0 2187 [some (.ref b), some (.ref x), some (.ref (x + 163)), some (.int (nI i))] [] S I' L' R' Q) : WP (d + 41, bc, bs) 0 1168 [some (.ref b), some (.ref x), some (.ref (x + 163)), some (.int (nI i))] [] S I L R Q := by
  obtain ⟨A, hA⟩ := id hI
  have hs : I b = xs := hA.scr
  have k0 : kd S x = 0 := hA.c.k0
  have k12 : kd S (x + 163) = 12 := md_k hA.m
  have v1 : vp_in (nI (i + 1)) (ln S b) := by rw [hn]; exact of_eq_true (vin (by omega) (by omega))
  have v2 : vp_in (nI (i + 2)) (ln S b) := by rw [hn]; exact of_eq_true (vin (by omega) (by omega))
  have v3 : vp_in (nI (i + 3)) (ln S b) := by rw [hn]; exact of_eq_true (vin (by omega) (by omega))
  have v4 : vp_in (nI (i + 4)) (ln S b) := by rw [hn]; exact of_eq_true (vin (by omega) (by omega))
  have v5 : vp_in (nI (i + 5)) (ln S b) := by rw [hn]; exact of_eq_true (vin (by omega) (by omega))
  simp (disch := first | assumption | exact cw0 | omega | (simp only [cw_nil, cw_int, cw_ref, cw_long]; omega) | decide) only [x_0_1168, x_0_1169, x_0_1170, x_0_1171, x_0_1172, x_0_1173, x_0_1174, x_0_1175, x_0_1176, x_0_1177, x_0_1178, x_0_1179, x_0_1180, x_0_1181, x_0_1182, x_0_1183, x_0_1184, x_0_1185, x_0_1186, x_0_1187, x_0_1188, x_0_1192, x_0_1193, x_0_1194, x_0_1195, x_0_1196, x_0_1197, x_0_1198, x_0_1199, x_0_1200, x_0_1201, x_0_1202, x_0_1203, x_0_1204, x_0_1205, x_0_1206, x_0_1207, x_0_1208, x_0_1209, x_0_1210, x_0_1211, x_0_1212, x_0_1213, x_0_1216, x_0_1219, x_0_1220, ↓reduceIte, va_rf_some, cw_nil, cw_int, cw_ref, cw_long, kl_int, kl_ref, kl_null, kl_long, kl_none, Option.toList_some, Option.toList_none, List.cons_append, List.nil_append, List.append_nil, nI_add, nI_clamp, nI_ltI, nI_leI, nI_eq, Nat.reduceLT, Nat.reduceLeDiff, Nat.reduceEqDiff, Nat.reduceAdd, Nat.reduceMul, Nat.reduceSub, if_true, if_false, not_true, not_false_eq_true, decide_true, decide_false, Nat.lt_irrefl, Nat.le_refl, Nat.not_lt_zero, Nat.zero_le, hs]
  rw [x_0_1189 k0 (by simp only [cw_ref, cw_int, cw_long, cw_nil, Option.toList_some, List.cons_append, List.nil_append]; omega)]
  refine CA_mono (CA_rt (sim_far d x b xs S I L R hI)) ?_
  rintro v S1 I1 L1 R1 ⟨⟨rfl, h1, h2⟩, hr, -⟩
  obtain ⟨u, rfl⟩ := hr (Or.inl ht_35)
  simp (disch := first | assumption | exact cw0 | omega | (simp only [cw_nil, cw_int, cw_ref, cw_long]; omega) | decide) only [x_0_1168, x_0_1169, x_0_1170, x_0_1171, x_0_1172, x_0_1173, x_0_1174, x_0_1175, x_0_1176, x_0_1177, x_0_1178, x_0_1179, x_0_1180, x_0_1181, x_0_1182, x_0_1183, x_0_1184, x_0_1185, x_0_1186, x_0_1187, x_0_1188, x_0_1192, x_0_1193, x_0_1194, x_0_1195, x_0_1196, x_0_1197, x_0_1198, x_0_1199, x_0_1200, x_0_1201, x_0_1202, x_0_1203, x_0_1204, x_0_1205, x_0_1206, x_0_1207, x_0_1208, x_0_1209, x_0_1210, x_0_1211, x_0_1212, x_0_1216, x_0_1219, x_0_1220, ↓reduceIte, va_rf_some, cw_nil, cw_int, cw_ref, cw_long, kl_int, kl_ref, kl_null, kl_long, kl_none, Option.toList_some, Option.toList_none, List.cons_append, List.nil_append, List.append_nil, nI_add, nI_clamp, nI_ltI, nI_leI, nI_eq, Nat.reduceLT, Nat.reduceLeDiff, Nat.reduceEqDiff, Nat.reduceAdd, Nat.reduceMul, Nat.reduceSub, if_true, if_false, not_true, not_false_eq_true, decide_true, decide_false, Nat.lt_irrefl, Nat.le_refl, Nat.not_lt_zero, Nat.zero_le, h1]
  rw [x_0_1213 k12 (by simp only [cw_ref, cw_int, cw_long, cw_nil, Option.toList_some, List.cons_append, List.nil_append]; omega)]
  refine CA_mono h2 ?_
  rintro w S2 I2 L2 R2 ⟨rfl, rfl, hI2⟩
  simp (disch := first | assumption | exact cw0 | omega | (simp only [cw_nil, cw_int, cw_ref, cw_long]; omega) | decide) only [x_0_1168, x_0_1169, x_0_1170, x_0_1171, x_0_1172, x_0_1173, x_0_1174, x_0_1175, x_0_1176, x_0_1177, x_0_1178, x_0_1179, x_0_1180, x_0_1181, x_0_1182, x_0_1183, x_0_1184, x_0_1185, x_0_1186, x_0_1187, x_0_1188, x_0_1192, x_0_1193, x_0_1194, x_0_1195, x_0_1196, x_0_1197, x_0_1198, x_0_1199, x_0_1200, x_0_1201, x_0_1202, x_0_1203, x_0_1204, x_0_1205, x_0_1206, x_0_1207, x_0_1208, x_0_1209, x_0_1210, x_0_1211, x_0_1212, x_0_1216, x_0_1219, x_0_1220, ↓reduceIte, va_rf_some, cw_nil, cw_int, cw_ref, cw_long, kl_int, kl_ref, kl_null, kl_long, kl_none, Option.toList_some, Option.toList_none, List.cons_append, List.nil_append, List.append_nil, nI_add, nI_clamp, nI_ltI, nI_leI, nI_eq, Nat.reduceLT, Nat.reduceLeDiff, Nat.reduceEqDiff, Nat.reduceAdd, Nat.reduceMul, Nat.reduceSub, if_true, if_false, not_true, not_false_eq_true, decide_true, decide_false, Nat.lt_irrefl, Nat.le_refl, Nat.not_lt_zero, Nat.zero_le, eq_self]
  exact go I2 L2 R2 hI2
theorem lc_26 (hI : INV x b xs S I L R) (hb : kd S b = 110) (hn : ln S b = Lx) (hi : i + 6 ≤ Lx) (hL : Lx ≤ 384) (go : ∀ I' L' R', INV x b xs S I' L' R' → WP (d + 41, bc, bs) 0 2187 [some (.ref b), some (.ref x), some (.ref (x + 163)), some (.int (nI i))] [] S I' L' R' Q) : WP (d + 41, bc, bs) 0 1221 [some (.ref b), some (.ref x), some (.ref (x + 163)), some (.int (nI i))] [] S I L R Q := by
  obtain ⟨A, hA⟩ := id hI
  have hs : I b = xs := hA.scr
  have k0 : kd S x = 0 := hA.c.k0
  have k12 : kd S (x + 163) = 12 := md_k hA.m
  have v1 : vp_in (nI (i + 1)) (ln S b) := by rw [hn]; exact of_eq_true (vin (by omega) (by omega))
  have v2 : vp_in (nI (i + 2)) (ln S b) := by rw [hn]; exact of_eq_true (vin (by omega) (by omega))
  have v3 : vp_in (nI (i + 3)) (ln S b) := by rw [hn]; exact of_eq_true (vin (by omega) (by omega))
  have v4 : vp_in (nI (i + 4)) (ln S b) := by rw [hn]; exact of_eq_true (vin (by omega) (by omega))
  have v5 : vp_in (nI (i + 5)) (ln S b) := by rw [hn]; exact of_eq_true (vin (by omega) (by omega))
  simp (disch := first | assumption | exact cw0 | omega | (simp only [cw_nil, cw_int, cw_ref, cw_long]; omega) | decide) only [x_0_1221, x_0_1222, x_0_1223, x_0_1224, x_0_1225, x_0_1226, x_0_1230, x_0_1231, x_0_1232, x_0_1233, x_0_1234, x_0_1235, x_0_1236, x_0_1239, x_0_1242, x_0_1243, ↓reduceIte, va_rf_some, cw_nil, cw_int, cw_ref, cw_long, kl_int, kl_ref, kl_null, kl_long, kl_none, Option.toList_some, Option.toList_none, List.cons_append, List.nil_append, List.append_nil, nI_add, nI_clamp, nI_ltI, nI_leI, nI_eq, Nat.reduceLT, Nat.reduceLeDiff, Nat.reduceEqDiff, Nat.reduceAdd, Nat.reduceMul, Nat.reduceSub, if_true, if_false, not_true, not_false_eq_true, decide_true, decide_false, Nat.lt_irrefl, Nat.le_refl, Nat.not_lt_zero, Nat.zero_le, hs]
  rw [x_0_1227 k0 (by simp only [cw_ref, cw_int, cw_long, cw_nil, Option.toList_some, List.cons_append, List.nil_append]; omega)]
  refine CA_mono (CA_rt (sim_burden d x b xs S I L R hI)) ?_
  rintro v S1 I1 L1 R1 ⟨⟨rfl, h1, h2⟩, hr, -⟩
  obtain ⟨u, rfl⟩ := hr (Or.inl ht_36)
  simp (disch := first | assumption | exact cw0 | omega | (simp only [cw_nil, cw_int, cw_ref, cw_long]; omega) | decide) only [x_0_1221, x_0_1222, x_0_1223, x_0_1224, x_0_1225, x_0_1226, x_0_1230, x_0_1231, x_0_1232, x_0_1233, x_0_1234, x_0_1235, x_0_1239, x_0_1242, x_0_1243, ↓reduceIte, va_rf_some, cw_nil, cw_int, cw_ref, cw_long, kl_int, kl_ref, kl_null, kl_long, kl_none, Option.toList_some, Option.toList_none, List.cons_append, List.nil_append, List.append_nil, nI_add, nI_clamp, nI_ltI, nI_leI, nI_eq, Nat.reduceLT, Nat.reduceLeDiff, Nat.reduceEqDiff, Nat.reduceAdd, Nat.reduceMul, Nat.reduceSub, if_true, if_false, not_true, not_false_eq_true, decide_true, decide_false, Nat.lt_irrefl, Nat.le_refl, Nat.not_lt_zero, Nat.zero_le, h1]
  rw [x_0_1236 k12 (by simp only [cw_ref, cw_int, cw_long, cw_nil, Option.toList_some, List.cons_append, List.nil_append]; omega)]
  refine CA_mono h2 ?_
  rintro w S2 I2 L2 R2 ⟨rfl, rfl, hI2⟩
  simp (disch := first | assumption | exact cw0 | omega | (simp only [cw_nil, cw_int, cw_ref, cw_long]; omega) | decide) only [x_0_1221, x_0_1222, x_0_1223, x_0_1224, x_0_1225, x_0_1226, x_0_1230, x_0_1231, x_0_1232, x_0_1233, x_0_1234, x_0_1235, x_0_1239, x_0_1242, x_0_1243, ↓reduceIte, va_rf_some, cw_nil, cw_int, cw_ref, cw_long, kl_int, kl_ref, kl_null, kl_long, kl_none, Option.toList_some, Option.toList_none, List.cons_append, List.nil_append, List.append_nil, nI_add, nI_clamp, nI_ltI, nI_leI, nI_eq, Nat.reduceLT, Nat.reduceLeDiff, Nat.reduceEqDiff, Nat.reduceAdd, Nat.reduceMul, Nat.reduceSub, if_true, if_false, not_true, not_false_eq_true, decide_true, decide_false, Nat.lt_irrefl, Nat.le_refl, Nat.not_lt_zero, Nat.zero_le, eq_self]
  exact go I2 L2 R2 hI2
theorem lc_27 (hI : INV x b xs S I L R) (hb : kd S b = 110) (hn : ln S b = Lx) (hi : i + 6 ≤ Lx) (hL : Lx ≤ 384) (go : ∀ I' L' R', INV x b xs S I' L' R' → WP (d + 41, bc, bs) 0 2187 [some (.ref b), some (.ref x), some (.ref (x + 163)), some (.int (nI i))] [] S I' L' R' Q) : WP (d + 41, bc, bs) 0 1244 [some (.ref b), some (.ref x), some (.ref (x + 163)), some (.int (nI i))] [] S I L R Q := by
  obtain ⟨A, hA⟩ := id hI
  have hs : I b = xs := hA.scr
  have k0 : kd S x = 0 := hA.c.k0
  have k12 : kd S (x + 163) = 12 := md_k hA.m
  have v1 : vp_in (nI (i + 1)) (ln S b) := by rw [hn]; exact of_eq_true (vin (by omega) (by omega))
  have v2 : vp_in (nI (i + 2)) (ln S b) := by rw [hn]; exact of_eq_true (vin (by omega) (by omega))
  have v3 : vp_in (nI (i + 3)) (ln S b) := by rw [hn]; exact of_eq_true (vin (by omega) (by omega))
  have v4 : vp_in (nI (i + 4)) (ln S b) := by rw [hn]; exact of_eq_true (vin (by omega) (by omega))
  have v5 : vp_in (nI (i + 5)) (ln S b) := by rw [hn]; exact of_eq_true (vin (by omega) (by omega))
  simp (disch := first | assumption | exact cw0 | omega | (simp only [cw_nil, cw_int, cw_ref, cw_long]; omega) | decide) only [x_0_1244, x_0_1245, x_0_1246, x_0_1247, x_0_1248, x_0_1249, x_0_1250, x_0_1251, x_0_1252, x_0_1253, x_0_1254, x_0_1258, x_0_1259, x_0_1260, x_0_1261, x_0_1262, x_0_1263, x_0_1264, x_0_1265, x_0_1266, x_0_1267, x_0_1268, x_0_1269, x_0_1272, x_0_1275, x_0_1276, ↓reduceIte, va_rf_some, cw_nil, cw_int, cw_ref, cw_long, kl_int, kl_ref, kl_null, kl_long, kl_none, Option.toList_some, Option.toList_none, List.cons_append, List.nil_append, List.append_nil, nI_add, nI_clamp, nI_ltI, nI_leI, nI_eq, Nat.reduceLT, Nat.reduceLeDiff, Nat.reduceEqDiff, Nat.reduceAdd, Nat.reduceMul, Nat.reduceSub, if_true, if_false, not_true, not_false_eq_true, decide_true, decide_false, Nat.lt_irrefl, Nat.le_refl, Nat.not_lt_zero, Nat.zero_le, hs]
  rw [x_0_1255 k0 (by simp only [cw_ref, cw_int, cw_long, cw_nil, Option.toList_some, List.cons_append, List.nil_append]; omega)]
  refine CA_mono (CA_rt (sim_pull d x b xs S I L R hI)) ?_
  rintro v S1 I1 L1 R1 ⟨⟨rfl, h1, h2⟩, hr, -⟩
  obtain ⟨u, rfl⟩ := hr (Or.inl ht_37)
  simp (disch := first | assumption | exact cw0 | omega | (simp only [cw_nil, cw_int, cw_ref, cw_long]; omega) | decide) only [x_0_1244, x_0_1245, x_0_1246, x_0_1247, x_0_1248, x_0_1249, x_0_1250, x_0_1251, x_0_1252, x_0_1253, x_0_1254, x_0_1258, x_0_1259, x_0_1260, x_0_1261, x_0_1262, x_0_1263, x_0_1264, x_0_1265, x_0_1266, x_0_1267, x_0_1268, x_0_1272, x_0_1275, x_0_1276, ↓reduceIte, va_rf_some, cw_nil, cw_int, cw_ref, cw_long, kl_int, kl_ref, kl_null, kl_long, kl_none, Option.toList_some, Option.toList_none, List.cons_append, List.nil_append, List.append_nil, nI_add, nI_clamp, nI_ltI, nI_leI, nI_eq, Nat.reduceLT, Nat.reduceLeDiff, Nat.reduceEqDiff, Nat.reduceAdd, Nat.reduceMul, Nat.reduceSub, if_true, if_false, not_true, not_false_eq_true, decide_true, decide_false, Nat.lt_irrefl, Nat.le_refl, Nat.not_lt_zero, Nat.zero_le, h1]
  rw [x_0_1269 k12 (by simp only [cw_ref, cw_int, cw_long, cw_nil, Option.toList_some, List.cons_append, List.nil_append]; omega)]
  refine CA_mono h2 ?_
  rintro w S2 I2 L2 R2 ⟨rfl, rfl, hI2⟩
  simp (disch := first | assumption | exact cw0 | omega | (simp only [cw_nil, cw_int, cw_ref, cw_long]; omega) | decide) only [x_0_1244, x_0_1245, x_0_1246, x_0_1247, x_0_1248, x_0_1249, x_0_1250, x_0_1251, x_0_1252, x_0_1253, x_0_1254, x_0_1258, x_0_1259, x_0_1260, x_0_1261, x_0_1262, x_0_1263, x_0_1264, x_0_1265, x_0_1266, x_0_1267, x_0_1268, x_0_1272, x_0_1275, x_0_1276, ↓reduceIte, va_rf_some, cw_nil, cw_int, cw_ref, cw_long, kl_int, kl_ref, kl_null, kl_long, kl_none, Option.toList_some, Option.toList_none, List.cons_append, List.nil_append, List.append_nil, nI_add, nI_clamp, nI_ltI, nI_leI, nI_eq, Nat.reduceLT, Nat.reduceLeDiff, Nat.reduceEqDiff, Nat.reduceAdd, Nat.reduceMul, Nat.reduceSub, if_true, if_false, not_true, not_false_eq_true, decide_true, decide_false, Nat.lt_irrefl, Nat.le_refl, Nat.not_lt_zero, Nat.zero_le, eq_self]
  exact go I2 L2 R2 hI2
theorem lc_28 (hI : INV x b xs S I L R) (hb : kd S b = 110) (hn : ln S b = Lx) (hi : i + 6 ≤ Lx) (hL : Lx ≤ 384) (go : ∀ I' L' R', INV x b xs S I' L' R' → WP (d + 41, bc, bs) 0 2187 [some (.ref b), some (.ref x), some (.ref (x + 163)), some (.int (nI i))] [] S I' L' R' Q) : WP (d + 41, bc, bs) 0 1277 [some (.ref b), some (.ref x), some (.ref (x + 163)), some (.int (nI i))] [] S I L R Q := by
  obtain ⟨A, hA⟩ := id hI
  have hs : I b = xs := hA.scr
  have k0 : kd S x = 0 := hA.c.k0
  have k12 : kd S (x + 163) = 12 := md_k hA.m
  have v1 : vp_in (nI (i + 1)) (ln S b) := by rw [hn]; exact of_eq_true (vin (by omega) (by omega))
  have v2 : vp_in (nI (i + 2)) (ln S b) := by rw [hn]; exact of_eq_true (vin (by omega) (by omega))
  have v3 : vp_in (nI (i + 3)) (ln S b) := by rw [hn]; exact of_eq_true (vin (by omega) (by omega))
  have v4 : vp_in (nI (i + 4)) (ln S b) := by rw [hn]; exact of_eq_true (vin (by omega) (by omega))
  have v5 : vp_in (nI (i + 5)) (ln S b) := by rw [hn]; exact of_eq_true (vin (by omega) (by omega))
  simp (disch := first | assumption | exact cw0 | omega | (simp only [cw_nil, cw_int, cw_ref, cw_long]; omega) | decide) only [x_0_1277, x_0_1278, x_0_1279, x_0_1280, x_0_1281, x_0_1282, x_0_1283, x_0_1284, x_0_1285, x_0_1286, x_0_1287, x_0_1291, x_0_1292, x_0_1293, x_0_1294, x_0_1295, x_0_1296, x_0_1297, x_0_1298, x_0_1299, x_0_1300, x_0_1301, x_0_1302, x_0_1305, x_0_1308, x_0_1309, ↓reduceIte, va_rf_some, cw_nil, cw_int, cw_ref, cw_long, kl_int, kl_ref, kl_null, kl_long, kl_none, Option.toList_some, Option.toList_none, List.cons_append, List.nil_append, List.append_nil, nI_add, nI_clamp, nI_ltI, nI_leI, nI_eq, Nat.reduceLT, Nat.reduceLeDiff, Nat.reduceEqDiff, Nat.reduceAdd, Nat.reduceMul, Nat.reduceSub, if_true, if_false, not_true, not_false_eq_true, decide_true, decide_false, Nat.lt_irrefl, Nat.le_refl, Nat.not_lt_zero, Nat.zero_le, hs]
  rw [x_0_1288 k0 (by simp only [cw_ref, cw_int, cw_long, cw_nil, Option.toList_some, List.cons_append, List.nil_append]; omega)]
  refine CA_mono (CA_rt (sim_choices d x b xs S I L R hI)) ?_
  rintro v S1 I1 L1 R1 ⟨⟨rfl, h1, h2⟩, hr, -⟩
  obtain ⟨u, rfl⟩ := hr (Or.inl ht_38)
  simp (disch := first | assumption | exact cw0 | omega | (simp only [cw_nil, cw_int, cw_ref, cw_long]; omega) | decide) only [x_0_1277, x_0_1278, x_0_1279, x_0_1280, x_0_1281, x_0_1282, x_0_1283, x_0_1284, x_0_1285, x_0_1286, x_0_1287, x_0_1291, x_0_1292, x_0_1293, x_0_1294, x_0_1295, x_0_1296, x_0_1297, x_0_1298, x_0_1299, x_0_1300, x_0_1301, x_0_1305, x_0_1308, x_0_1309, ↓reduceIte, va_rf_some, cw_nil, cw_int, cw_ref, cw_long, kl_int, kl_ref, kl_null, kl_long, kl_none, Option.toList_some, Option.toList_none, List.cons_append, List.nil_append, List.append_nil, nI_add, nI_clamp, nI_ltI, nI_leI, nI_eq, Nat.reduceLT, Nat.reduceLeDiff, Nat.reduceEqDiff, Nat.reduceAdd, Nat.reduceMul, Nat.reduceSub, if_true, if_false, not_true, not_false_eq_true, decide_true, decide_false, Nat.lt_irrefl, Nat.le_refl, Nat.not_lt_zero, Nat.zero_le, h1]
  rw [x_0_1302 k12 (by simp only [cw_ref, cw_int, cw_long, cw_nil, Option.toList_some, List.cons_append, List.nil_append]; omega)]
  refine CA_mono h2 ?_
  rintro w S2 I2 L2 R2 ⟨rfl, rfl, hI2⟩
  simp (disch := first | assumption | exact cw0 | omega | (simp only [cw_nil, cw_int, cw_ref, cw_long]; omega) | decide) only [x_0_1277, x_0_1278, x_0_1279, x_0_1280, x_0_1281, x_0_1282, x_0_1283, x_0_1284, x_0_1285, x_0_1286, x_0_1287, x_0_1291, x_0_1292, x_0_1293, x_0_1294, x_0_1295, x_0_1296, x_0_1297, x_0_1298, x_0_1299, x_0_1300, x_0_1301, x_0_1305, x_0_1308, x_0_1309, ↓reduceIte, va_rf_some, cw_nil, cw_int, cw_ref, cw_long, kl_int, kl_ref, kl_null, kl_long, kl_none, Option.toList_some, Option.toList_none, List.cons_append, List.nil_append, List.append_nil, nI_add, nI_clamp, nI_ltI, nI_leI, nI_eq, Nat.reduceLT, Nat.reduceLeDiff, Nat.reduceEqDiff, Nat.reduceAdd, Nat.reduceMul, Nat.reduceSub, if_true, if_false, not_true, not_false_eq_true, decide_true, decide_false, Nat.lt_irrefl, Nat.le_refl, Nat.not_lt_zero, Nat.zero_le, eq_self]
  exact go I2 L2 R2 hI2
theorem lc_29 (hI : INV x b xs S I L R) (hb : kd S b = 110) (hn : ln S b = Lx) (hi : i + 6 ≤ Lx) (hL : Lx ≤ 384) (go : ∀ I' L' R', INV x b xs S I' L' R' → WP (d + 41, bc, bs) 0 2187 [some (.ref b), some (.ref x), some (.ref (x + 163)), some (.int (nI i))] [] S I' L' R' Q) : WP (d + 41, bc, bs) 0 1310 [some (.ref b), some (.ref x), some (.ref (x + 163)), some (.int (nI i))] [] S I L R Q := by
  obtain ⟨A, hA⟩ := id hI
  have hs : I b = xs := hA.scr
  have k0 : kd S x = 0 := hA.c.k0
  have k12 : kd S (x + 163) = 12 := md_k hA.m
  have v1 : vp_in (nI (i + 1)) (ln S b) := by rw [hn]; exact of_eq_true (vin (by omega) (by omega))
  have v2 : vp_in (nI (i + 2)) (ln S b) := by rw [hn]; exact of_eq_true (vin (by omega) (by omega))
  have v3 : vp_in (nI (i + 3)) (ln S b) := by rw [hn]; exact of_eq_true (vin (by omega) (by omega))
  have v4 : vp_in (nI (i + 4)) (ln S b) := by rw [hn]; exact of_eq_true (vin (by omega) (by omega))
  have v5 : vp_in (nI (i + 5)) (ln S b) := by rw [hn]; exact of_eq_true (vin (by omega) (by omega))
  simp (disch := first | assumption | exact cw0 | omega | (simp only [cw_nil, cw_int, cw_ref, cw_long]; omega) | decide) only [x_0_1310, x_0_1311, x_0_1312, x_0_1313, x_0_1314, x_0_1315, x_0_1316, x_0_1317, x_0_1318, x_0_1319, x_0_1320, x_0_1321, x_0_1322, x_0_1323, x_0_1324, x_0_1325, x_0_1329, x_0_1330, x_0_1331, x_0_1332, x_0_1333, x_0_1334, x_0_1335, x_0_1336, x_0_1337, x_0_1338, x_0_1339, x_0_1340, x_0_1341, x_0_1342, x_0_1343, x_0_1344, x_0_1345, x_0_1348, x_0_1351, x_0_1352, ↓reduceIte, va_rf_some, cw_nil, cw_int, cw_ref, cw_long, kl_int, kl_ref, kl_null, kl_long, kl_none, Option.toList_some, Option.toList_none, List.cons_append, List.nil_append, List.append_nil, nI_add, nI_clamp, nI_ltI, nI_leI, nI_eq, Nat.reduceLT, Nat.reduceLeDiff, Nat.reduceEqDiff, Nat.reduceAdd, Nat.reduceMul, Nat.reduceSub, if_true, if_false, not_true, not_false_eq_true, decide_true, decide_false, Nat.lt_irrefl, Nat.le_refl, Nat.not_lt_zero, Nat.zero_le, hs]
  rw [x_0_1326 k0 (by simp only [cw_ref, cw_int, cw_long, cw_nil, Option.toList_some, List.cons_append, List.nil_append]; omega)]
  refine CA_mono (CA_rt (sim_bears d x b xs S I L R hI)) ?_
  rintro v S1 I1 L1 R1 ⟨⟨rfl, h1, h2⟩, hr, -⟩
  obtain ⟨u, rfl⟩ := hr (Or.inl ht_39)
  simp (disch := first | assumption | exact cw0 | omega | (simp only [cw_nil, cw_int, cw_ref, cw_long]; omega) | decide) only [x_0_1310, x_0_1311, x_0_1312, x_0_1313, x_0_1314, x_0_1315, x_0_1316, x_0_1317, x_0_1318, x_0_1319, x_0_1320, x_0_1321, x_0_1322, x_0_1323, x_0_1324, x_0_1325, x_0_1329, x_0_1330, x_0_1331, x_0_1332, x_0_1333, x_0_1334, x_0_1335, x_0_1336, x_0_1337, x_0_1338, x_0_1339, x_0_1340, x_0_1341, x_0_1342, x_0_1343, x_0_1344, x_0_1348, x_0_1351, x_0_1352, ↓reduceIte, va_rf_some, cw_nil, cw_int, cw_ref, cw_long, kl_int, kl_ref, kl_null, kl_long, kl_none, Option.toList_some, Option.toList_none, List.cons_append, List.nil_append, List.append_nil, nI_add, nI_clamp, nI_ltI, nI_leI, nI_eq, Nat.reduceLT, Nat.reduceLeDiff, Nat.reduceEqDiff, Nat.reduceAdd, Nat.reduceMul, Nat.reduceSub, if_true, if_false, not_true, not_false_eq_true, decide_true, decide_false, Nat.lt_irrefl, Nat.le_refl, Nat.not_lt_zero, Nat.zero_le, h1]
  rw [x_0_1345 k12 (by simp only [cw_ref, cw_int, cw_long, cw_nil, Option.toList_some, List.cons_append, List.nil_append]; omega)]
  refine CA_mono h2 ?_
  rintro w S2 I2 L2 R2 ⟨rfl, rfl, hI2⟩
  simp (disch := first | assumption | exact cw0 | omega | (simp only [cw_nil, cw_int, cw_ref, cw_long]; omega) | decide) only [x_0_1310, x_0_1311, x_0_1312, x_0_1313, x_0_1314, x_0_1315, x_0_1316, x_0_1317, x_0_1318, x_0_1319, x_0_1320, x_0_1321, x_0_1322, x_0_1323, x_0_1324, x_0_1325, x_0_1329, x_0_1330, x_0_1331, x_0_1332, x_0_1333, x_0_1334, x_0_1335, x_0_1336, x_0_1337, x_0_1338, x_0_1339, x_0_1340, x_0_1341, x_0_1342, x_0_1343, x_0_1344, x_0_1348, x_0_1351, x_0_1352, ↓reduceIte, va_rf_some, cw_nil, cw_int, cw_ref, cw_long, kl_int, kl_ref, kl_null, kl_long, kl_none, Option.toList_some, Option.toList_none, List.cons_append, List.nil_append, List.append_nil, nI_add, nI_clamp, nI_ltI, nI_leI, nI_eq, Nat.reduceLT, Nat.reduceLeDiff, Nat.reduceEqDiff, Nat.reduceAdd, Nat.reduceMul, Nat.reduceSub, if_true, if_false, not_true, not_false_eq_true, decide_true, decide_false, Nat.lt_irrefl, Nat.le_refl, Nat.not_lt_zero, Nat.zero_le, eq_self]
  exact go I2 L2 R2 hI2
theorem lc_30 (hI : INV x b xs S I L R) (hb : kd S b = 110) (hn : ln S b = Lx) (hi : i + 6 ≤ Lx) (hL : Lx ≤ 384) (go : ∀ I' L' R', INV x b xs S I' L' R' → WP (d + 41, bc, bs) 0 2187 [some (.ref b), some (.ref x), some (.ref (x + 163)), some (.int (nI i))] [] S I' L' R' Q) : WP (d + 41, bc, bs) 0 1353 [some (.ref b), some (.ref x), some (.ref (x + 163)), some (.int (nI i))] [] S I L R Q := by
  obtain ⟨A, hA⟩ := id hI
  have hs : I b = xs := hA.scr
  have k0 : kd S x = 0 := hA.c.k0
  have k12 : kd S (x + 163) = 12 := md_k hA.m
  have v1 : vp_in (nI (i + 1)) (ln S b) := by rw [hn]; exact of_eq_true (vin (by omega) (by omega))
  have v2 : vp_in (nI (i + 2)) (ln S b) := by rw [hn]; exact of_eq_true (vin (by omega) (by omega))
  have v3 : vp_in (nI (i + 3)) (ln S b) := by rw [hn]; exact of_eq_true (vin (by omega) (by omega))
  have v4 : vp_in (nI (i + 4)) (ln S b) := by rw [hn]; exact of_eq_true (vin (by omega) (by omega))
  have v5 : vp_in (nI (i + 5)) (ln S b) := by rw [hn]; exact of_eq_true (vin (by omega) (by omega))
  simp (disch := first | assumption | exact cw0 | omega | (simp only [cw_nil, cw_int, cw_ref, cw_long]; omega) | decide) only [x_0_1353, x_0_1354, x_0_1355, x_0_1356, x_0_1357, x_0_1358, x_0_1362, x_0_1363, x_0_1364, x_0_1365, x_0_1366, x_0_1367, x_0_1368, x_0_1371, x_0_1374, x_0_1375, ↓reduceIte, va_rf_some, cw_nil, cw_int, cw_ref, cw_long, kl_int, kl_ref, kl_null, kl_long, kl_none, Option.toList_some, Option.toList_none, List.cons_append, List.nil_append, List.append_nil, nI_add, nI_clamp, nI_ltI, nI_leI, nI_eq, Nat.reduceLT, Nat.reduceLeDiff, Nat.reduceEqDiff, Nat.reduceAdd, Nat.reduceMul, Nat.reduceSub, if_true, if_false, not_true, not_false_eq_true, decide_true, decide_false, Nat.lt_irrefl, Nat.le_refl, Nat.not_lt_zero, Nat.zero_le, hs]
  rw [x_0_1359 k0 (by simp only [cw_ref, cw_int, cw_long, cw_nil, Option.toList_some, List.cons_append, List.nil_append]; omega)]
  refine CA_mono (CA_rt (sim_weakest d x b xs S I L R hI)) ?_
  rintro v S1 I1 L1 R1 ⟨⟨rfl, h1, h2⟩, hr, -⟩
  obtain ⟨u, rfl⟩ := hr (Or.inl ht_40)
  simp (disch := first | assumption | exact cw0 | omega | (simp only [cw_nil, cw_int, cw_ref, cw_long]; omega) | decide) only [x_0_1353, x_0_1354, x_0_1355, x_0_1356, x_0_1357, x_0_1358, x_0_1362, x_0_1363, x_0_1364, x_0_1365, x_0_1366, x_0_1367, x_0_1371, x_0_1374, x_0_1375, ↓reduceIte, va_rf_some, cw_nil, cw_int, cw_ref, cw_long, kl_int, kl_ref, kl_null, kl_long, kl_none, Option.toList_some, Option.toList_none, List.cons_append, List.nil_append, List.append_nil, nI_add, nI_clamp, nI_ltI, nI_leI, nI_eq, Nat.reduceLT, Nat.reduceLeDiff, Nat.reduceEqDiff, Nat.reduceAdd, Nat.reduceMul, Nat.reduceSub, if_true, if_false, not_true, not_false_eq_true, decide_true, decide_false, Nat.lt_irrefl, Nat.le_refl, Nat.not_lt_zero, Nat.zero_le, h1]
  rw [x_0_1368 k12 (by simp only [cw_ref, cw_int, cw_long, cw_nil, Option.toList_some, List.cons_append, List.nil_append]; omega)]
  refine CA_mono h2 ?_
  rintro w S2 I2 L2 R2 ⟨rfl, rfl, hI2⟩
  simp (disch := first | assumption | exact cw0 | omega | (simp only [cw_nil, cw_int, cw_ref, cw_long]; omega) | decide) only [x_0_1353, x_0_1354, x_0_1355, x_0_1356, x_0_1357, x_0_1358, x_0_1362, x_0_1363, x_0_1364, x_0_1365, x_0_1366, x_0_1367, x_0_1371, x_0_1374, x_0_1375, ↓reduceIte, va_rf_some, cw_nil, cw_int, cw_ref, cw_long, kl_int, kl_ref, kl_null, kl_long, kl_none, Option.toList_some, Option.toList_none, List.cons_append, List.nil_append, List.append_nil, nI_add, nI_clamp, nI_ltI, nI_leI, nI_eq, Nat.reduceLT, Nat.reduceLeDiff, Nat.reduceEqDiff, Nat.reduceAdd, Nat.reduceMul, Nat.reduceSub, if_true, if_false, not_true, not_false_eq_true, decide_true, decide_false, Nat.lt_irrefl, Nat.le_refl, Nat.not_lt_zero, Nat.zero_le, eq_self]
  exact go I2 L2 R2 hI2
theorem lc_31 (hI : INV x b xs S I L R) (hb : kd S b = 110) (hn : ln S b = Lx) (hi : i + 6 ≤ Lx) (hL : Lx ≤ 384) (go : ∀ I' L' R', INV x b xs S I' L' R' → WP (d + 41, bc, bs) 0 2187 [some (.ref b), some (.ref x), some (.ref (x + 163)), some (.int (nI i))] [] S I' L' R' Q) : WP (d + 41, bc, bs) 0 1376 [some (.ref b), some (.ref x), some (.ref (x + 163)), some (.int (nI i))] [] S I L R Q := by
  obtain ⟨A, hA⟩ := id hI
  have hs : I b = xs := hA.scr
  have k0 : kd S x = 0 := hA.c.k0
  have k12 : kd S (x + 163) = 12 := md_k hA.m
  have v1 : vp_in (nI (i + 1)) (ln S b) := by rw [hn]; exact of_eq_true (vin (by omega) (by omega))
  have v2 : vp_in (nI (i + 2)) (ln S b) := by rw [hn]; exact of_eq_true (vin (by omega) (by omega))
  have v3 : vp_in (nI (i + 3)) (ln S b) := by rw [hn]; exact of_eq_true (vin (by omega) (by omega))
  have v4 : vp_in (nI (i + 4)) (ln S b) := by rw [hn]; exact of_eq_true (vin (by omega) (by omega))
  have v5 : vp_in (nI (i + 5)) (ln S b) := by rw [hn]; exact of_eq_true (vin (by omega) (by omega))
  simp (disch := first | assumption | exact cw0 | omega | (simp only [cw_nil, cw_int, cw_ref, cw_long]; omega) | decide) only [x_0_1376, x_0_1377, x_0_1378, x_0_1379, x_0_1380, x_0_1381, x_0_1382, x_0_1383, x_0_1384, x_0_1385, x_0_1386, x_0_1387, x_0_1388, x_0_1389, x_0_1390, x_0_1391, x_0_1395, x_0_1396, x_0_1397, x_0_1398, x_0_1399, x_0_1400, x_0_1401, x_0_1402, x_0_1403, x_0_1404, x_0_1405, x_0_1406, x_0_1407, x_0_1408, x_0_1409, x_0_1410, x_0_1411, x_0_1414, x_0_1417, x_0_1418, ↓reduceIte, va_rf_some, cw_nil, cw_int, cw_ref, cw_long, kl_int, kl_ref, kl_null, kl_long, kl_none, Option.toList_some, Option.toList_none, List.cons_append, List.nil_append, List.append_nil, nI_add, nI_clamp, nI_ltI, nI_leI, nI_eq, Nat.reduceLT, Nat.reduceLeDiff, Nat.reduceEqDiff, Nat.reduceAdd, Nat.reduceMul, Nat.reduceSub, if_true, if_false, not_true, not_false_eq_true, decide_true, decide_false, Nat.lt_irrefl, Nat.le_refl, Nat.not_lt_zero, Nat.zero_le, hs]
  rw [x_0_1392 k0 (by simp only [cw_ref, cw_int, cw_long, cw_nil, Option.toList_some, List.cons_append, List.nil_append]; omega)]
  refine CA_mono (CA_rt (sim_sunkIn d x b xs S I L R hI)) ?_
  rintro v S1 I1 L1 R1 ⟨⟨rfl, h1, h2⟩, hr, -⟩
  obtain ⟨u, rfl⟩ := hr (Or.inl ht_41)
  simp (disch := first | assumption | exact cw0 | omega | (simp only [cw_nil, cw_int, cw_ref, cw_long]; omega) | decide) only [x_0_1376, x_0_1377, x_0_1378, x_0_1379, x_0_1380, x_0_1381, x_0_1382, x_0_1383, x_0_1384, x_0_1385, x_0_1386, x_0_1387, x_0_1388, x_0_1389, x_0_1390, x_0_1391, x_0_1395, x_0_1396, x_0_1397, x_0_1398, x_0_1399, x_0_1400, x_0_1401, x_0_1402, x_0_1403, x_0_1404, x_0_1405, x_0_1406, x_0_1407, x_0_1408, x_0_1409, x_0_1410, x_0_1414, x_0_1417, x_0_1418, ↓reduceIte, va_rf_some, cw_nil, cw_int, cw_ref, cw_long, kl_int, kl_ref, kl_null, kl_long, kl_none, Option.toList_some, Option.toList_none, List.cons_append, List.nil_append, List.append_nil, nI_add, nI_clamp, nI_ltI, nI_leI, nI_eq, Nat.reduceLT, Nat.reduceLeDiff, Nat.reduceEqDiff, Nat.reduceAdd, Nat.reduceMul, Nat.reduceSub, if_true, if_false, not_true, not_false_eq_true, decide_true, decide_false, Nat.lt_irrefl, Nat.le_refl, Nat.not_lt_zero, Nat.zero_le, h1]
  rw [x_0_1411 k12 (by simp only [cw_ref, cw_int, cw_long, cw_nil, Option.toList_some, List.cons_append, List.nil_append]; omega)]
  refine CA_mono h2 ?_
  rintro w S2 I2 L2 R2 ⟨rfl, rfl, hI2⟩
  simp (disch := first | assumption | exact cw0 | omega | (simp only [cw_nil, cw_int, cw_ref, cw_long]; omega) | decide) only [x_0_1376, x_0_1377, x_0_1378, x_0_1379, x_0_1380, x_0_1381, x_0_1382, x_0_1383, x_0_1384, x_0_1385, x_0_1386, x_0_1387, x_0_1388, x_0_1389, x_0_1390, x_0_1391, x_0_1395, x_0_1396, x_0_1397, x_0_1398, x_0_1399, x_0_1400, x_0_1401, x_0_1402, x_0_1403, x_0_1404, x_0_1405, x_0_1406, x_0_1407, x_0_1408, x_0_1409, x_0_1410, x_0_1414, x_0_1417, x_0_1418, ↓reduceIte, va_rf_some, cw_nil, cw_int, cw_ref, cw_long, kl_int, kl_ref, kl_null, kl_long, kl_none, Option.toList_some, Option.toList_none, List.cons_append, List.nil_append, List.append_nil, nI_add, nI_clamp, nI_ltI, nI_leI, nI_eq, Nat.reduceLT, Nat.reduceLeDiff, Nat.reduceEqDiff, Nat.reduceAdd, Nat.reduceMul, Nat.reduceSub, if_true, if_false, not_true, not_false_eq_true, decide_true, decide_false, Nat.lt_irrefl, Nat.le_refl, Nat.not_lt_zero, Nat.zero_le, eq_self]
  exact go I2 L2 R2 hI2
theorem lc_32 (hI : INV x b xs S I L R) (hb : kd S b = 110) (hn : ln S b = Lx) (hi : i + 6 ≤ Lx) (hL : Lx ≤ 384) (go : ∀ I' L' R', INV x b xs S I' L' R' → WP (d + 41, bc, bs) 0 2187 [some (.ref b), some (.ref x), some (.ref (x + 163)), some (.int (nI i))] [] S I' L' R' Q) : WP (d + 41, bc, bs) 0 1419 [some (.ref b), some (.ref x), some (.ref (x + 163)), some (.int (nI i))] [] S I L R Q := by
  obtain ⟨A, hA⟩ := id hI
  have hs : I b = xs := hA.scr
  have k0 : kd S x = 0 := hA.c.k0
  have k12 : kd S (x + 163) = 12 := md_k hA.m
  have v1 : vp_in (nI (i + 1)) (ln S b) := by rw [hn]; exact of_eq_true (vin (by omega) (by omega))
  have v2 : vp_in (nI (i + 2)) (ln S b) := by rw [hn]; exact of_eq_true (vin (by omega) (by omega))
  have v3 : vp_in (nI (i + 3)) (ln S b) := by rw [hn]; exact of_eq_true (vin (by omega) (by omega))
  have v4 : vp_in (nI (i + 4)) (ln S b) := by rw [hn]; exact of_eq_true (vin (by omega) (by omega))
  have v5 : vp_in (nI (i + 5)) (ln S b) := by rw [hn]; exact of_eq_true (vin (by omega) (by omega))
  simp (disch := first | assumption | exact cw0 | omega | (simp only [cw_nil, cw_int, cw_ref, cw_long]; omega) | decide) only [x_0_1419, x_0_1420, x_0_1421, x_0_1422, x_0_1423, x_0_1424, x_0_1428, x_0_1429, x_0_1430, x_0_1431, x_0_1432, x_0_1433, x_0_1434, x_0_1437, x_0_1440, x_0_1441, ↓reduceIte, va_rf_some, cw_nil, cw_int, cw_ref, cw_long, kl_int, kl_ref, kl_null, kl_long, kl_none, Option.toList_some, Option.toList_none, List.cons_append, List.nil_append, List.append_nil, nI_add, nI_clamp, nI_ltI, nI_leI, nI_eq, Nat.reduceLT, Nat.reduceLeDiff, Nat.reduceEqDiff, Nat.reduceAdd, Nat.reduceMul, Nat.reduceSub, if_true, if_false, not_true, not_false_eq_true, decide_true, decide_false, Nat.lt_irrefl, Nat.le_refl, Nat.not_lt_zero, Nat.zero_le, hs]
  rw [x_0_1425 k0 (by simp only [cw_ref, cw_int, cw_long, cw_nil, Option.toList_some, List.cons_append, List.nil_append]; omega)]
  refine CA_mono (CA_rt (sim_fallsIn d x b xs S I L R hI)) ?_
  rintro v S1 I1 L1 R1 ⟨⟨rfl, h1, h2⟩, hr, -⟩
  obtain ⟨u, rfl⟩ := hr (Or.inl ht_42)
  simp (disch := first | assumption | exact cw0 | omega | (simp only [cw_nil, cw_int, cw_ref, cw_long]; omega) | decide) only [x_0_1419, x_0_1420, x_0_1421, x_0_1422, x_0_1423, x_0_1424, x_0_1428, x_0_1429, x_0_1430, x_0_1431, x_0_1432, x_0_1433, x_0_1437, x_0_1440, x_0_1441, ↓reduceIte, va_rf_some, cw_nil, cw_int, cw_ref, cw_long, kl_int, kl_ref, kl_null, kl_long, kl_none, Option.toList_some, Option.toList_none, List.cons_append, List.nil_append, List.append_nil, nI_add, nI_clamp, nI_ltI, nI_leI, nI_eq, Nat.reduceLT, Nat.reduceLeDiff, Nat.reduceEqDiff, Nat.reduceAdd, Nat.reduceMul, Nat.reduceSub, if_true, if_false, not_true, not_false_eq_true, decide_true, decide_false, Nat.lt_irrefl, Nat.le_refl, Nat.not_lt_zero, Nat.zero_le, h1]
  rw [x_0_1434 k12 (by simp only [cw_ref, cw_int, cw_long, cw_nil, Option.toList_some, List.cons_append, List.nil_append]; omega)]
  refine CA_mono h2 ?_
  rintro w S2 I2 L2 R2 ⟨rfl, rfl, hI2⟩
  simp (disch := first | assumption | exact cw0 | omega | (simp only [cw_nil, cw_int, cw_ref, cw_long]; omega) | decide) only [x_0_1419, x_0_1420, x_0_1421, x_0_1422, x_0_1423, x_0_1424, x_0_1428, x_0_1429, x_0_1430, x_0_1431, x_0_1432, x_0_1433, x_0_1437, x_0_1440, x_0_1441, ↓reduceIte, va_rf_some, cw_nil, cw_int, cw_ref, cw_long, kl_int, kl_ref, kl_null, kl_long, kl_none, Option.toList_some, Option.toList_none, List.cons_append, List.nil_append, List.append_nil, nI_add, nI_clamp, nI_ltI, nI_leI, nI_eq, Nat.reduceLT, Nat.reduceLeDiff, Nat.reduceEqDiff, Nat.reduceAdd, Nat.reduceMul, Nat.reduceSub, if_true, if_false, not_true, not_false_eq_true, decide_true, decide_false, Nat.lt_irrefl, Nat.le_refl, Nat.not_lt_zero, Nat.zero_le, eq_self]
  exact go I2 L2 R2 hI2
theorem lc_33 (hI : INV x b xs S I L R) (hb : kd S b = 110) (hn : ln S b = Lx) (hi : i + 6 ≤ Lx) (hL : Lx ≤ 384) (go : ∀ I' L' R', INV x b xs S I' L' R' → WP (d + 41, bc, bs) 0 2187 [some (.ref b), some (.ref x), some (.ref (x + 163)), some (.int (nI i))] [] S I' L' R' Q) : WP (d + 41, bc, bs) 0 1442 [some (.ref b), some (.ref x), some (.ref (x + 163)), some (.int (nI i))] [] S I L R Q := by
  obtain ⟨A, hA⟩ := id hI
  have hs : I b = xs := hA.scr
  have k0 : kd S x = 0 := hA.c.k0
  have k12 : kd S (x + 163) = 12 := md_k hA.m
  have v1 : vp_in (nI (i + 1)) (ln S b) := by rw [hn]; exact of_eq_true (vin (by omega) (by omega))
  have v2 : vp_in (nI (i + 2)) (ln S b) := by rw [hn]; exact of_eq_true (vin (by omega) (by omega))
  have v3 : vp_in (nI (i + 3)) (ln S b) := by rw [hn]; exact of_eq_true (vin (by omega) (by omega))
  have v4 : vp_in (nI (i + 4)) (ln S b) := by rw [hn]; exact of_eq_true (vin (by omega) (by omega))
  have v5 : vp_in (nI (i + 5)) (ln S b) := by rw [hn]; exact of_eq_true (vin (by omega) (by omega))
  simp (disch := first | assumption | exact cw0 | omega | (simp only [cw_nil, cw_int, cw_ref, cw_long]; omega) | decide) only [x_0_1442, x_0_1443, x_0_1444, x_0_1445, x_0_1446, x_0_1447, x_0_1448, x_0_1449, x_0_1450, x_0_1451, x_0_1452, x_0_1453, x_0_1454, x_0_1455, x_0_1456, x_0_1457, x_0_1461, x_0_1462, x_0_1463, x_0_1464, x_0_1465, x_0_1466, x_0_1467, x_0_1468, x_0_1469, x_0_1470, x_0_1471, x_0_1472, x_0_1473, x_0_1474, x_0_1475, x_0_1476, x_0_1477, x_0_1480, x_0_1483, x_0_1484, ↓reduceIte, va_rf_some, cw_nil, cw_int, cw_ref, cw_long, kl_int, kl_ref, kl_null, kl_long, kl_none, Option.toList_some, Option.toList_none, List.cons_append, List.nil_append, List.append_nil, nI_add, nI_clamp, nI_ltI, nI_leI, nI_eq, Nat.reduceLT, Nat.reduceLeDiff, Nat.reduceEqDiff, Nat.reduceAdd, Nat.reduceMul, Nat.reduceSub, if_true, if_false, not_true, not_false_eq_true, decide_true, decide_false, Nat.lt_irrefl, Nat.le_refl, Nat.not_lt_zero, Nat.zero_le, hs]
  rw [x_0_1458 k0 (by simp only [cw_ref, cw_int, cw_long, cw_nil, Option.toList_some, List.cons_append, List.nil_append]; omega)]
  refine CA_mono (CA_rt (sim_skinIn d x b xs S I L R hI)) ?_
  rintro v S1 I1 L1 R1 ⟨⟨rfl, h1, h2⟩, hr, -⟩
  obtain ⟨u, rfl⟩ := hr (Or.inl ht_43)
  simp (disch := first | assumption | exact cw0 | omega | (simp only [cw_nil, cw_int, cw_ref, cw_long]; omega) | decide) only [x_0_1442, x_0_1443, x_0_1444, x_0_1445, x_0_1446, x_0_1447, x_0_1448, x_0_1449, x_0_1450, x_0_1451, x_0_1452, x_0_1453, x_0_1454, x_0_1455, x_0_1456, x_0_1457, x_0_1461, x_0_1462, x_0_1463, x_0_1464, x_0_1465, x_0_1466, x_0_1467, x_0_1468, x_0_1469, x_0_1470, x_0_1471, x_0_1472, x_0_1473, x_0_1474, x_0_1475, x_0_1476, x_0_1480, x_0_1483, x_0_1484, ↓reduceIte, va_rf_some, cw_nil, cw_int, cw_ref, cw_long, kl_int, kl_ref, kl_null, kl_long, kl_none, Option.toList_some, Option.toList_none, List.cons_append, List.nil_append, List.append_nil, nI_add, nI_clamp, nI_ltI, nI_leI, nI_eq, Nat.reduceLT, Nat.reduceLeDiff, Nat.reduceEqDiff, Nat.reduceAdd, Nat.reduceMul, Nat.reduceSub, if_true, if_false, not_true, not_false_eq_true, decide_true, decide_false, Nat.lt_irrefl, Nat.le_refl, Nat.not_lt_zero, Nat.zero_le, h1]
  rw [x_0_1477 k12 (by simp only [cw_ref, cw_int, cw_long, cw_nil, Option.toList_some, List.cons_append, List.nil_append]; omega)]
  refine CA_mono h2 ?_
  rintro w S2 I2 L2 R2 ⟨rfl, rfl, hI2⟩
  simp (disch := first | assumption | exact cw0 | omega | (simp only [cw_nil, cw_int, cw_ref, cw_long]; omega) | decide) only [x_0_1442, x_0_1443, x_0_1444, x_0_1445, x_0_1446, x_0_1447, x_0_1448, x_0_1449, x_0_1450, x_0_1451, x_0_1452, x_0_1453, x_0_1454, x_0_1455, x_0_1456, x_0_1457, x_0_1461, x_0_1462, x_0_1463, x_0_1464, x_0_1465, x_0_1466, x_0_1467, x_0_1468, x_0_1469, x_0_1470, x_0_1471, x_0_1472, x_0_1473, x_0_1474, x_0_1475, x_0_1476, x_0_1480, x_0_1483, x_0_1484, ↓reduceIte, va_rf_some, cw_nil, cw_int, cw_ref, cw_long, kl_int, kl_ref, kl_null, kl_long, kl_none, Option.toList_some, Option.toList_none, List.cons_append, List.nil_append, List.append_nil, nI_add, nI_clamp, nI_ltI, nI_leI, nI_eq, Nat.reduceLT, Nat.reduceLeDiff, Nat.reduceEqDiff, Nat.reduceAdd, Nat.reduceMul, Nat.reduceSub, if_true, if_false, not_true, not_false_eq_true, decide_true, decide_false, Nat.lt_irrefl, Nat.le_refl, Nat.not_lt_zero, Nat.zero_le, eq_self]
  exact go I2 L2 R2 hI2
theorem lc_34 (hI : INV x b xs S I L R) (hb : kd S b = 110) (hn : ln S b = Lx) (hi : i + 6 ≤ Lx) (hL : Lx ≤ 384) (go : ∀ I' L' R', INV x b xs S I' L' R' → WP (d + 41, bc, bs) 0 2187 [some (.ref b), some (.ref x), some (.ref (x + 163)), some (.int (nI i))] [] S I' L' R' Q) : WP (d + 41, bc, bs) 0 1485 [some (.ref b), some (.ref x), some (.ref (x + 163)), some (.int (nI i))] [] S I L R Q := by
  obtain ⟨A, hA⟩ := id hI
  have hs : I b = xs := hA.scr
  have k0 : kd S x = 0 := hA.c.k0
  have k12 : kd S (x + 163) = 12 := md_k hA.m
  have v1 : vp_in (nI (i + 1)) (ln S b) := by rw [hn]; exact of_eq_true (vin (by omega) (by omega))
  have v2 : vp_in (nI (i + 2)) (ln S b) := by rw [hn]; exact of_eq_true (vin (by omega) (by omega))
  have v3 : vp_in (nI (i + 3)) (ln S b) := by rw [hn]; exact of_eq_true (vin (by omega) (by omega))
  have v4 : vp_in (nI (i + 4)) (ln S b) := by rw [hn]; exact of_eq_true (vin (by omega) (by omega))
  have v5 : vp_in (nI (i + 5)) (ln S b) := by rw [hn]; exact of_eq_true (vin (by omega) (by omega))
  simp (disch := first | assumption | exact cw0 | omega | (simp only [cw_nil, cw_int, cw_ref, cw_long]; omega) | decide) only [x_0_1485, x_0_1486, x_0_1487, x_0_1488, x_0_1489, x_0_1490, x_0_1494, x_0_1495, x_0_1496, x_0_1497, x_0_1498, x_0_1499, x_0_1500, x_0_1503, x_0_1506, x_0_1507, ↓reduceIte, va_rf_some, cw_nil, cw_int, cw_ref, cw_long, kl_int, kl_ref, kl_null, kl_long, kl_none, Option.toList_some, Option.toList_none, List.cons_append, List.nil_append, List.append_nil, nI_add, nI_clamp, nI_ltI, nI_leI, nI_eq, Nat.reduceLT, Nat.reduceLeDiff, Nat.reduceEqDiff, Nat.reduceAdd, Nat.reduceMul, Nat.reduceSub, if_true, if_false, not_true, not_false_eq_true, decide_true, decide_false, Nat.lt_irrefl, Nat.le_refl, Nat.not_lt_zero, Nat.zero_le, hs]
  rw [x_0_1491 k0 (by simp only [cw_ref, cw_int, cw_long, cw_nil, Option.toList_some, List.cons_append, List.nil_append]; omega)]
  refine CA_mono (CA_rt (sim_helpers d x b xs S I L R hI)) ?_
  rintro v S1 I1 L1 R1 ⟨⟨rfl, h1, h2⟩, hr, -⟩
  obtain ⟨u, rfl⟩ := hr (Or.inl ht_44)
  simp (disch := first | assumption | exact cw0 | omega | (simp only [cw_nil, cw_int, cw_ref, cw_long]; omega) | decide) only [x_0_1485, x_0_1486, x_0_1487, x_0_1488, x_0_1489, x_0_1490, x_0_1494, x_0_1495, x_0_1496, x_0_1497, x_0_1498, x_0_1499, x_0_1503, x_0_1506, x_0_1507, ↓reduceIte, va_rf_some, cw_nil, cw_int, cw_ref, cw_long, kl_int, kl_ref, kl_null, kl_long, kl_none, Option.toList_some, Option.toList_none, List.cons_append, List.nil_append, List.append_nil, nI_add, nI_clamp, nI_ltI, nI_leI, nI_eq, Nat.reduceLT, Nat.reduceLeDiff, Nat.reduceEqDiff, Nat.reduceAdd, Nat.reduceMul, Nat.reduceSub, if_true, if_false, not_true, not_false_eq_true, decide_true, decide_false, Nat.lt_irrefl, Nat.le_refl, Nat.not_lt_zero, Nat.zero_le, h1]
  rw [x_0_1500 k12 (by simp only [cw_ref, cw_int, cw_long, cw_nil, Option.toList_some, List.cons_append, List.nil_append]; omega)]
  refine CA_mono h2 ?_
  rintro w S2 I2 L2 R2 ⟨rfl, rfl, hI2⟩
  simp (disch := first | assumption | exact cw0 | omega | (simp only [cw_nil, cw_int, cw_ref, cw_long]; omega) | decide) only [x_0_1485, x_0_1486, x_0_1487, x_0_1488, x_0_1489, x_0_1490, x_0_1494, x_0_1495, x_0_1496, x_0_1497, x_0_1498, x_0_1499, x_0_1503, x_0_1506, x_0_1507, ↓reduceIte, va_rf_some, cw_nil, cw_int, cw_ref, cw_long, kl_int, kl_ref, kl_null, kl_long, kl_none, Option.toList_some, Option.toList_none, List.cons_append, List.nil_append, List.append_nil, nI_add, nI_clamp, nI_ltI, nI_leI, nI_eq, Nat.reduceLT, Nat.reduceLeDiff, Nat.reduceEqDiff, Nat.reduceAdd, Nat.reduceMul, Nat.reduceSub, if_true, if_false, not_true, not_false_eq_true, decide_true, decide_false, Nat.lt_irrefl, Nat.le_refl, Nat.not_lt_zero, Nat.zero_le, eq_self]
  exact go I2 L2 R2 hI2
theorem lc_35 (hI : INV x b xs S I L R) (hb : kd S b = 110) (hn : ln S b = Lx) (hi : i + 6 ≤ Lx) (hL : Lx ≤ 384) (go : ∀ I' L' R', INV x b xs S I' L' R' → WP (d + 41, bc, bs) 0 2187 [some (.ref b), some (.ref x), some (.ref (x + 163)), some (.int (nI i))] [] S I' L' R' Q) : WP (d + 41, bc, bs) 0 1508 [some (.ref b), some (.ref x), some (.ref (x + 163)), some (.int (nI i))] [] S I L R Q := by
  obtain ⟨A, hA⟩ := id hI
  have hs : I b = xs := hA.scr
  have k0 : kd S x = 0 := hA.c.k0
  have k12 : kd S (x + 163) = 12 := md_k hA.m
  have v1 : vp_in (nI (i + 1)) (ln S b) := by rw [hn]; exact of_eq_true (vin (by omega) (by omega))
  have v2 : vp_in (nI (i + 2)) (ln S b) := by rw [hn]; exact of_eq_true (vin (by omega) (by omega))
  have v3 : vp_in (nI (i + 3)) (ln S b) := by rw [hn]; exact of_eq_true (vin (by omega) (by omega))
  have v4 : vp_in (nI (i + 4)) (ln S b) := by rw [hn]; exact of_eq_true (vin (by omega) (by omega))
  have v5 : vp_in (nI (i + 5)) (ln S b) := by rw [hn]; exact of_eq_true (vin (by omega) (by omega))
  simp (disch := first | assumption | exact cw0 | omega | (simp only [cw_nil, cw_int, cw_ref, cw_long]; omega) | decide) only [x_0_1508, x_0_1509, x_0_1510, x_0_1511, x_0_1512, x_0_1513, x_0_1517, x_0_1518, x_0_1519, x_0_1520, x_0_1521, x_0_1522, x_0_1523, x_0_1526, x_0_1529, x_0_1530, ↓reduceIte, va_rf_some, cw_nil, cw_int, cw_ref, cw_long, kl_int, kl_ref, kl_null, kl_long, kl_none, Option.toList_some, Option.toList_none, List.cons_append, List.nil_append, List.append_nil, nI_add, nI_clamp, nI_ltI, nI_leI, nI_eq, Nat.reduceLT, Nat.reduceLeDiff, Nat.reduceEqDiff, Nat.reduceAdd, Nat.reduceMul, Nat.reduceSub, if_true, if_false, not_true, not_false_eq_true, decide_true, decide_false, Nat.lt_irrefl, Nat.le_refl, Nat.not_lt_zero, Nat.zero_le, hs]
  rw [x_0_1514 k0 (by simp only [cw_ref, cw_int, cw_long, cw_nil, Option.toList_some, List.cons_append, List.nil_append]; omega)]
  refine CA_mono (CA_rt (sim_way d x b xs S I L R hI)) ?_
  rintro v S1 I1 L1 R1 ⟨⟨rfl, h1, h2⟩, hr, -⟩
  obtain ⟨u, rfl⟩ := hr (Or.inl ht_45)
  simp (disch := first | assumption | exact cw0 | omega | (simp only [cw_nil, cw_int, cw_ref, cw_long]; omega) | decide) only [x_0_1508, x_0_1509, x_0_1510, x_0_1511, x_0_1512, x_0_1513, x_0_1517, x_0_1518, x_0_1519, x_0_1520, x_0_1521, x_0_1522, x_0_1526, x_0_1529, x_0_1530, ↓reduceIte, va_rf_some, cw_nil, cw_int, cw_ref, cw_long, kl_int, kl_ref, kl_null, kl_long, kl_none, Option.toList_some, Option.toList_none, List.cons_append, List.nil_append, List.append_nil, nI_add, nI_clamp, nI_ltI, nI_leI, nI_eq, Nat.reduceLT, Nat.reduceLeDiff, Nat.reduceEqDiff, Nat.reduceAdd, Nat.reduceMul, Nat.reduceSub, if_true, if_false, not_true, not_false_eq_true, decide_true, decide_false, Nat.lt_irrefl, Nat.le_refl, Nat.not_lt_zero, Nat.zero_le, h1]
  rw [x_0_1523 k12 (by simp only [cw_ref, cw_int, cw_long, cw_nil, Option.toList_some, List.cons_append, List.nil_append]; omega)]
  refine CA_mono h2 ?_
  rintro w S2 I2 L2 R2 ⟨rfl, rfl, hI2⟩
  simp (disch := first | assumption | exact cw0 | omega | (simp only [cw_nil, cw_int, cw_ref, cw_long]; omega) | decide) only [x_0_1508, x_0_1509, x_0_1510, x_0_1511, x_0_1512, x_0_1513, x_0_1517, x_0_1518, x_0_1519, x_0_1520, x_0_1521, x_0_1522, x_0_1526, x_0_1529, x_0_1530, ↓reduceIte, va_rf_some, cw_nil, cw_int, cw_ref, cw_long, kl_int, kl_ref, kl_null, kl_long, kl_none, Option.toList_some, Option.toList_none, List.cons_append, List.nil_append, List.append_nil, nI_add, nI_clamp, nI_ltI, nI_leI, nI_eq, Nat.reduceLT, Nat.reduceLeDiff, Nat.reduceEqDiff, Nat.reduceAdd, Nat.reduceMul, Nat.reduceSub, if_true, if_false, not_true, not_false_eq_true, decide_true, decide_false, Nat.lt_irrefl, Nat.le_refl, Nat.not_lt_zero, Nat.zero_le, eq_self]
  exact go I2 L2 R2 hI2
theorem lc_36 (hI : INV x b xs S I L R) (hb : kd S b = 110) (hn : ln S b = Lx) (hi : i + 6 ≤ Lx) (hL : Lx ≤ 384) (go : ∀ I' L' R', INV x b xs S I' L' R' → WP (d + 41, bc, bs) 0 2187 [some (.ref b), some (.ref x), some (.ref (x + 163)), some (.int (nI i))] [] S I' L' R' Q) : WP (d + 41, bc, bs) 0 1531 [some (.ref b), some (.ref x), some (.ref (x + 163)), some (.int (nI i))] [] S I L R Q := by
  obtain ⟨A, hA⟩ := id hI
  have hs : I b = xs := hA.scr
  have k0 : kd S x = 0 := hA.c.k0
  have k12 : kd S (x + 163) = 12 := md_k hA.m
  have v1 : vp_in (nI (i + 1)) (ln S b) := by rw [hn]; exact of_eq_true (vin (by omega) (by omega))
  have v2 : vp_in (nI (i + 2)) (ln S b) := by rw [hn]; exact of_eq_true (vin (by omega) (by omega))
  have v3 : vp_in (nI (i + 3)) (ln S b) := by rw [hn]; exact of_eq_true (vin (by omega) (by omega))
  have v4 : vp_in (nI (i + 4)) (ln S b) := by rw [hn]; exact of_eq_true (vin (by omega) (by omega))
  have v5 : vp_in (nI (i + 5)) (ln S b) := by rw [hn]; exact of_eq_true (vin (by omega) (by omega))
  simp (disch := first | assumption | exact cw0 | omega | (simp only [cw_nil, cw_int, cw_ref, cw_long]; omega) | decide) only [x_0_1531, x_0_1532, x_0_1533, x_0_1534, x_0_1535, x_0_1536, x_0_1537, x_0_1538, x_0_1539, x_0_1540, x_0_1541, x_0_1542, x_0_1543, x_0_1544, x_0_1545, x_0_1546, x_0_1547, x_0_1548, x_0_1549, x_0_1550, x_0_1551, x_0_1552, x_0_1553, x_0_1554, x_0_1555, x_0_1556, x_0_1560, x_0_1561, x_0_1562, x_0_1563, x_0_1564, x_0_1565, x_0_1566, x_0_1567, x_0_1568, x_0_1569, x_0_1570, x_0_1571, x_0_1572, x_0_1573, x_0_1574, x_0_1575, x_0_1576, x_0_1577, x_0_1578, x_0_1579, x_0_1580, x_0_1581, x_0_1582, x_0_1583, x_0_1584, x_0_1585, x_0_1586, x_0_1589, x_0_1592, x_0_1593, ↓reduceIte, va_rf_some, cw_nil, cw_int, cw_ref, cw_long, kl_int, kl_ref, kl_null, kl_long, kl_none, Option.toList_some, Option.toList_none, List.cons_append, List.nil_append, List.append_nil, nI_add, nI_clamp, nI_ltI, nI_leI, nI_eq, Nat.reduceLT, Nat.reduceLeDiff, Nat.reduceEqDiff, Nat.reduceAdd, Nat.reduceMul, Nat.reduceSub, if_true, if_false, not_true, not_false_eq_true, decide_true, decide_false, Nat.lt_irrefl, Nat.le_refl, Nat.not_lt_zero, Nat.zero_le, hs]
  rw [x_0_1557 k0 (by simp only [cw_ref, cw_int, cw_long, cw_nil, Option.toList_some, List.cons_append, List.nil_append]; omega)]
  refine CA_mono (CA_rt (sim_wayFrom d x b xs S I L R hI)) ?_
  rintro v S1 I1 L1 R1 ⟨⟨rfl, h1, h2⟩, hr, -⟩
  obtain ⟨u, rfl⟩ := hr (Or.inl ht_46)
  simp (disch := first | assumption | exact cw0 | omega | (simp only [cw_nil, cw_int, cw_ref, cw_long]; omega) | decide) only [x_0_1531, x_0_1532, x_0_1533, x_0_1534, x_0_1535, x_0_1536, x_0_1537, x_0_1538, x_0_1539, x_0_1540, x_0_1541, x_0_1542, x_0_1543, x_0_1544, x_0_1545, x_0_1546, x_0_1547, x_0_1548, x_0_1549, x_0_1550, x_0_1551, x_0_1552, x_0_1553, x_0_1554, x_0_1555, x_0_1556, x_0_1560, x_0_1561, x_0_1562, x_0_1563, x_0_1564, x_0_1565, x_0_1566, x_0_1567, x_0_1568, x_0_1569, x_0_1570, x_0_1571, x_0_1572, x_0_1573, x_0_1574, x_0_1575, x_0_1576, x_0_1577, x_0_1578, x_0_1579, x_0_1580, x_0_1581, x_0_1582, x_0_1583, x_0_1584, x_0_1585, x_0_1589, x_0_1592, x_0_1593, ↓reduceIte, va_rf_some, cw_nil, cw_int, cw_ref, cw_long, kl_int, kl_ref, kl_null, kl_long, kl_none, Option.toList_some, Option.toList_none, List.cons_append, List.nil_append, List.append_nil, nI_add, nI_clamp, nI_ltI, nI_leI, nI_eq, Nat.reduceLT, Nat.reduceLeDiff, Nat.reduceEqDiff, Nat.reduceAdd, Nat.reduceMul, Nat.reduceSub, if_true, if_false, not_true, not_false_eq_true, decide_true, decide_false, Nat.lt_irrefl, Nat.le_refl, Nat.not_lt_zero, Nat.zero_le, h1]
  rw [x_0_1586 k12 (by simp only [cw_ref, cw_int, cw_long, cw_nil, Option.toList_some, List.cons_append, List.nil_append]; omega)]
  refine CA_mono h2 ?_
  rintro w S2 I2 L2 R2 ⟨rfl, rfl, hI2⟩
  simp (disch := first | assumption | exact cw0 | omega | (simp only [cw_nil, cw_int, cw_ref, cw_long]; omega) | decide) only [x_0_1531, x_0_1532, x_0_1533, x_0_1534, x_0_1535, x_0_1536, x_0_1537, x_0_1538, x_0_1539, x_0_1540, x_0_1541, x_0_1542, x_0_1543, x_0_1544, x_0_1545, x_0_1546, x_0_1547, x_0_1548, x_0_1549, x_0_1550, x_0_1551, x_0_1552, x_0_1553, x_0_1554, x_0_1555, x_0_1556, x_0_1560, x_0_1561, x_0_1562, x_0_1563, x_0_1564, x_0_1565, x_0_1566, x_0_1567, x_0_1568, x_0_1569, x_0_1570, x_0_1571, x_0_1572, x_0_1573, x_0_1574, x_0_1575, x_0_1576, x_0_1577, x_0_1578, x_0_1579, x_0_1580, x_0_1581, x_0_1582, x_0_1583, x_0_1584, x_0_1585, x_0_1589, x_0_1592, x_0_1593, ↓reduceIte, va_rf_some, cw_nil, cw_int, cw_ref, cw_long, kl_int, kl_ref, kl_null, kl_long, kl_none, Option.toList_some, Option.toList_none, List.cons_append, List.nil_append, List.append_nil, nI_add, nI_clamp, nI_ltI, nI_leI, nI_eq, Nat.reduceLT, Nat.reduceLeDiff, Nat.reduceEqDiff, Nat.reduceAdd, Nat.reduceMul, Nat.reduceSub, if_true, if_false, not_true, not_false_eq_true, decide_true, decide_false, Nat.lt_irrefl, Nat.le_refl, Nat.not_lt_zero, Nat.zero_le, eq_self]
  exact go I2 L2 R2 hI2
theorem lc_37 (hI : INV x b xs S I L R) (hb : kd S b = 110) (hn : ln S b = Lx) (hi : i + 6 ≤ Lx) (hL : Lx ≤ 384) (go : ∀ I' L' R', INV x b xs S I' L' R' → WP (d + 41, bc, bs) 0 2187 [some (.ref b), some (.ref x), some (.ref (x + 163)), some (.int (nI i))] [] S I' L' R' Q) : WP (d + 41, bc, bs) 0 1594 [some (.ref b), some (.ref x), some (.ref (x + 163)), some (.int (nI i))] [] S I L R Q := by
  obtain ⟨A, hA⟩ := id hI
  have hs : I b = xs := hA.scr
  have k0 : kd S x = 0 := hA.c.k0
  have k12 : kd S (x + 163) = 12 := md_k hA.m
  have v1 : vp_in (nI (i + 1)) (ln S b) := by rw [hn]; exact of_eq_true (vin (by omega) (by omega))
  have v2 : vp_in (nI (i + 2)) (ln S b) := by rw [hn]; exact of_eq_true (vin (by omega) (by omega))
  have v3 : vp_in (nI (i + 3)) (ln S b) := by rw [hn]; exact of_eq_true (vin (by omega) (by omega))
  have v4 : vp_in (nI (i + 4)) (ln S b) := by rw [hn]; exact of_eq_true (vin (by omega) (by omega))
  have v5 : vp_in (nI (i + 5)) (ln S b) := by rw [hn]; exact of_eq_true (vin (by omega) (by omega))
  simp (disch := first | assumption | exact cw0 | omega | (simp only [cw_nil, cw_int, cw_ref, cw_long]; omega) | decide) only [x_0_1594, x_0_1595, x_0_1596, x_0_1597, x_0_1598, x_0_1599, x_0_1603, x_0_1604, x_0_1605, x_0_1606, x_0_1607, x_0_1608, x_0_1609, x_0_1612, x_0_1615, x_0_1616, ↓reduceIte, va_rf_some, cw_nil, cw_int, cw_ref, cw_long, kl_int, kl_ref, kl_null, kl_long, kl_none, Option.toList_some, Option.toList_none, List.cons_append, List.nil_append, List.append_nil, nI_add, nI_clamp, nI_ltI, nI_leI, nI_eq, Nat.reduceLT, Nat.reduceLeDiff, Nat.reduceEqDiff, Nat.reduceAdd, Nat.reduceMul, Nat.reduceSub, if_true, if_false, not_true, not_false_eq_true, decide_true, decide_false, Nat.lt_irrefl, Nat.le_refl, Nat.not_lt_zero, Nat.zero_le, hs]
  rw [x_0_1600 k0 (by simp only [cw_ref, cw_int, cw_long, cw_nil, Option.toList_some, List.cons_append, List.nil_append]; omega)]
  refine CA_mono (CA_rt (sim_keys d x b xs S I L R hI)) ?_
  rintro v S1 I1 L1 R1 ⟨⟨rfl, h1, h2⟩, hr, -⟩
  obtain ⟨u, rfl⟩ := hr (Or.inl ht_47)
  simp (disch := first | assumption | exact cw0 | omega | (simp only [cw_nil, cw_int, cw_ref, cw_long]; omega) | decide) only [x_0_1594, x_0_1595, x_0_1596, x_0_1597, x_0_1598, x_0_1599, x_0_1603, x_0_1604, x_0_1605, x_0_1606, x_0_1607, x_0_1608, x_0_1612, x_0_1615, x_0_1616, ↓reduceIte, va_rf_some, cw_nil, cw_int, cw_ref, cw_long, kl_int, kl_ref, kl_null, kl_long, kl_none, Option.toList_some, Option.toList_none, List.cons_append, List.nil_append, List.append_nil, nI_add, nI_clamp, nI_ltI, nI_leI, nI_eq, Nat.reduceLT, Nat.reduceLeDiff, Nat.reduceEqDiff, Nat.reduceAdd, Nat.reduceMul, Nat.reduceSub, if_true, if_false, not_true, not_false_eq_true, decide_true, decide_false, Nat.lt_irrefl, Nat.le_refl, Nat.not_lt_zero, Nat.zero_le, h1]
  rw [x_0_1609 k12 (by simp only [cw_ref, cw_int, cw_long, cw_nil, Option.toList_some, List.cons_append, List.nil_append]; omega)]
  refine CA_mono h2 ?_
  rintro w S2 I2 L2 R2 ⟨rfl, rfl, hI2⟩
  simp (disch := first | assumption | exact cw0 | omega | (simp only [cw_nil, cw_int, cw_ref, cw_long]; omega) | decide) only [x_0_1594, x_0_1595, x_0_1596, x_0_1597, x_0_1598, x_0_1599, x_0_1603, x_0_1604, x_0_1605, x_0_1606, x_0_1607, x_0_1608, x_0_1612, x_0_1615, x_0_1616, ↓reduceIte, va_rf_some, cw_nil, cw_int, cw_ref, cw_long, kl_int, kl_ref, kl_null, kl_long, kl_none, Option.toList_some, Option.toList_none, List.cons_append, List.nil_append, List.append_nil, nI_add, nI_clamp, nI_ltI, nI_leI, nI_eq, Nat.reduceLT, Nat.reduceLeDiff, Nat.reduceEqDiff, Nat.reduceAdd, Nat.reduceMul, Nat.reduceSub, if_true, if_false, not_true, not_false_eq_true, decide_true, decide_false, Nat.lt_irrefl, Nat.le_refl, Nat.not_lt_zero, Nat.zero_le, eq_self]
  exact go I2 L2 R2 hI2
theorem lc_38 (hI : INV x b xs S I L R) (hb : kd S b = 110) (hn : ln S b = Lx) (hi : i + 6 ≤ Lx) (hL : Lx ≤ 384) (go : ∀ I' L' R', INV x b xs S I' L' R' → WP (d + 41, bc, bs) 0 2187 [some (.ref b), some (.ref x), some (.ref (x + 163)), some (.int (nI i))] [] S I' L' R' Q) : WP (d + 41, bc, bs) 0 1617 [some (.ref b), some (.ref x), some (.ref (x + 163)), some (.int (nI i))] [] S I L R Q := by
  obtain ⟨A, hA⟩ := id hI
  have hs : I b = xs := hA.scr
  have k0 : kd S x = 0 := hA.c.k0
  have k12 : kd S (x + 163) = 12 := md_k hA.m
  have v1 : vp_in (nI (i + 1)) (ln S b) := by rw [hn]; exact of_eq_true (vin (by omega) (by omega))
  have v2 : vp_in (nI (i + 2)) (ln S b) := by rw [hn]; exact of_eq_true (vin (by omega) (by omega))
  have v3 : vp_in (nI (i + 3)) (ln S b) := by rw [hn]; exact of_eq_true (vin (by omega) (by omega))
  have v4 : vp_in (nI (i + 4)) (ln S b) := by rw [hn]; exact of_eq_true (vin (by omega) (by omega))
  have v5 : vp_in (nI (i + 5)) (ln S b) := by rw [hn]; exact of_eq_true (vin (by omega) (by omega))
  simp (disch := first | assumption | exact cw0 | omega | (simp only [cw_nil, cw_int, cw_ref, cw_long]; omega) | decide) only [x_0_1617, x_0_1618, x_0_1619, x_0_1620, x_0_1621, x_0_1622, x_0_1623, x_0_1624, x_0_1625, x_0_1626, x_0_1627, x_0_1628, x_0_1629, x_0_1630, x_0_1631, x_0_1632, x_0_1636, x_0_1637, x_0_1638, x_0_1639, x_0_1640, x_0_1641, x_0_1642, x_0_1643, x_0_1644, x_0_1645, x_0_1646, x_0_1647, x_0_1648, x_0_1649, x_0_1650, x_0_1651, x_0_1652, x_0_1655, x_0_1658, x_0_1659, ↓reduceIte, va_rf_some, cw_nil, cw_int, cw_ref, cw_long, kl_int, kl_ref, kl_null, kl_long, kl_none, Option.toList_some, Option.toList_none, List.cons_append, List.nil_append, List.append_nil, nI_add, nI_clamp, nI_ltI, nI_leI, nI_eq, Nat.reduceLT, Nat.reduceLeDiff, Nat.reduceEqDiff, Nat.reduceAdd, Nat.reduceMul, Nat.reduceSub, if_true, if_false, not_true, not_false_eq_true, decide_true, decide_false, Nat.lt_irrefl, Nat.le_refl, Nat.not_lt_zero, Nat.zero_le, hs]
  rw [x_0_1633 k0 (by simp only [cw_ref, cw_int, cw_long, cw_nil, Option.toList_some, List.cons_append, List.nil_append]; omega)]
  refine CA_mono (CA_rt (sim_isKey d x b xs S I L R hI)) ?_
  rintro v S1 I1 L1 R1 ⟨⟨rfl, h1, h2⟩, hr, -⟩
  obtain ⟨u, rfl⟩ := hr (Or.inl ht_48)
  simp (disch := first | assumption | exact cw0 | omega | (simp only [cw_nil, cw_int, cw_ref, cw_long]; omega) | decide) only [x_0_1617, x_0_1618, x_0_1619, x_0_1620, x_0_1621, x_0_1622, x_0_1623, x_0_1624, x_0_1625, x_0_1626, x_0_1627, x_0_1628, x_0_1629, x_0_1630, x_0_1631, x_0_1632, x_0_1636, x_0_1637, x_0_1638, x_0_1639, x_0_1640, x_0_1641, x_0_1642, x_0_1643, x_0_1644, x_0_1645, x_0_1646, x_0_1647, x_0_1648, x_0_1649, x_0_1650, x_0_1651, x_0_1655, x_0_1658, x_0_1659, ↓reduceIte, va_rf_some, cw_nil, cw_int, cw_ref, cw_long, kl_int, kl_ref, kl_null, kl_long, kl_none, Option.toList_some, Option.toList_none, List.cons_append, List.nil_append, List.append_nil, nI_add, nI_clamp, nI_ltI, nI_leI, nI_eq, Nat.reduceLT, Nat.reduceLeDiff, Nat.reduceEqDiff, Nat.reduceAdd, Nat.reduceMul, Nat.reduceSub, if_true, if_false, not_true, not_false_eq_true, decide_true, decide_false, Nat.lt_irrefl, Nat.le_refl, Nat.not_lt_zero, Nat.zero_le, h1]
  rw [x_0_1652 k12 (by simp only [cw_ref, cw_int, cw_long, cw_nil, Option.toList_some, List.cons_append, List.nil_append]; omega)]
  refine CA_mono h2 ?_
  rintro w S2 I2 L2 R2 ⟨rfl, rfl, hI2⟩
  simp (disch := first | assumption | exact cw0 | omega | (simp only [cw_nil, cw_int, cw_ref, cw_long]; omega) | decide) only [x_0_1617, x_0_1618, x_0_1619, x_0_1620, x_0_1621, x_0_1622, x_0_1623, x_0_1624, x_0_1625, x_0_1626, x_0_1627, x_0_1628, x_0_1629, x_0_1630, x_0_1631, x_0_1632, x_0_1636, x_0_1637, x_0_1638, x_0_1639, x_0_1640, x_0_1641, x_0_1642, x_0_1643, x_0_1644, x_0_1645, x_0_1646, x_0_1647, x_0_1648, x_0_1649, x_0_1650, x_0_1651, x_0_1655, x_0_1658, x_0_1659, ↓reduceIte, va_rf_some, cw_nil, cw_int, cw_ref, cw_long, kl_int, kl_ref, kl_null, kl_long, kl_none, Option.toList_some, Option.toList_none, List.cons_append, List.nil_append, List.append_nil, nI_add, nI_clamp, nI_ltI, nI_leI, nI_eq, Nat.reduceLT, Nat.reduceLeDiff, Nat.reduceEqDiff, Nat.reduceAdd, Nat.reduceMul, Nat.reduceSub, if_true, if_false, not_true, not_false_eq_true, decide_true, decide_false, Nat.lt_irrefl, Nat.le_refl, Nat.not_lt_zero, Nat.zero_le, eq_self]
  exact go I2 L2 R2 hI2
theorem lc_39 (hI : INV x b xs S I L R) (hb : kd S b = 110) (hn : ln S b = Lx) (hi : i + 6 ≤ Lx) (hL : Lx ≤ 384) (go : ∀ I' L' R', INV x b xs S I' L' R' → WP (d + 41, bc, bs) 0 2187 [some (.ref b), some (.ref x), some (.ref (x + 163)), some (.int (nI i))] [] S I' L' R' Q) : WP (d + 41, bc, bs) 0 1660 [some (.ref b), some (.ref x), some (.ref (x + 163)), some (.int (nI i))] [] S I L R Q := by
  obtain ⟨A, hA⟩ := id hI
  have hs : I b = xs := hA.scr
  have k0 : kd S x = 0 := hA.c.k0
  have k12 : kd S (x + 163) = 12 := md_k hA.m
  have v1 : vp_in (nI (i + 1)) (ln S b) := by rw [hn]; exact of_eq_true (vin (by omega) (by omega))
  have v2 : vp_in (nI (i + 2)) (ln S b) := by rw [hn]; exact of_eq_true (vin (by omega) (by omega))
  have v3 : vp_in (nI (i + 3)) (ln S b) := by rw [hn]; exact of_eq_true (vin (by omega) (by omega))
  have v4 : vp_in (nI (i + 4)) (ln S b) := by rw [hn]; exact of_eq_true (vin (by omega) (by omega))
  have v5 : vp_in (nI (i + 5)) (ln S b) := by rw [hn]; exact of_eq_true (vin (by omega) (by omega))
  simp (disch := first | assumption | exact cw0 | omega | (simp only [cw_nil, cw_int, cw_ref, cw_long]; omega) | decide) only [x_0_1660, x_0_1661, x_0_1662, x_0_1663, x_0_1664, x_0_1665, x_0_1666, x_0_1667, x_0_1668, x_0_1669, x_0_1670, x_0_1674, x_0_1675, x_0_1676, x_0_1677, x_0_1678, x_0_1679, x_0_1680, x_0_1681, x_0_1682, x_0_1683, x_0_1684, x_0_1685, x_0_1688, x_0_1691, x_0_1692, ↓reduceIte, va_rf_some, cw_nil, cw_int, cw_ref, cw_long, kl_int, kl_ref, kl_null, kl_long, kl_none, Option.toList_some, Option.toList_none, List.cons_append, List.nil_append, List.append_nil, nI_add, nI_clamp, nI_ltI, nI_leI, nI_eq, Nat.reduceLT, Nat.reduceLeDiff, Nat.reduceEqDiff, Nat.reduceAdd, Nat.reduceMul, Nat.reduceSub, if_true, if_false, not_true, not_false_eq_true, decide_true, decide_false, Nat.lt_irrefl, Nat.le_refl, Nat.not_lt_zero, Nat.zero_le, hs]
  rw [x_0_1671 k0 (by simp only [cw_ref, cw_int, cw_long, cw_nil, Option.toList_some, List.cons_append, List.nil_append]; omega)]
  refine CA_mono (CA_rt (sim_soonest d x b xs S I L R hI)) ?_
  rintro v S1 I1 L1 R1 ⟨⟨rfl, h1, h2⟩, hr, -⟩
  obtain ⟨u, rfl⟩ := hr (Or.inl ht_49)
  simp (disch := first | assumption | exact cw0 | omega | (simp only [cw_nil, cw_int, cw_ref, cw_long]; omega) | decide) only [x_0_1660, x_0_1661, x_0_1662, x_0_1663, x_0_1664, x_0_1665, x_0_1666, x_0_1667, x_0_1668, x_0_1669, x_0_1670, x_0_1674, x_0_1675, x_0_1676, x_0_1677, x_0_1678, x_0_1679, x_0_1680, x_0_1681, x_0_1682, x_0_1683, x_0_1684, x_0_1688, x_0_1691, x_0_1692, ↓reduceIte, va_rf_some, cw_nil, cw_int, cw_ref, cw_long, kl_int, kl_ref, kl_null, kl_long, kl_none, Option.toList_some, Option.toList_none, List.cons_append, List.nil_append, List.append_nil, nI_add, nI_clamp, nI_ltI, nI_leI, nI_eq, Nat.reduceLT, Nat.reduceLeDiff, Nat.reduceEqDiff, Nat.reduceAdd, Nat.reduceMul, Nat.reduceSub, if_true, if_false, not_true, not_false_eq_true, decide_true, decide_false, Nat.lt_irrefl, Nat.le_refl, Nat.not_lt_zero, Nat.zero_le, h1]
  rw [x_0_1685 k12 (by simp only [cw_ref, cw_int, cw_long, cw_nil, Option.toList_some, List.cons_append, List.nil_append]; omega)]
  refine CA_mono h2 ?_
  rintro w S2 I2 L2 R2 ⟨rfl, rfl, hI2⟩
  simp (disch := first | assumption | exact cw0 | omega | (simp only [cw_nil, cw_int, cw_ref, cw_long]; omega) | decide) only [x_0_1660, x_0_1661, x_0_1662, x_0_1663, x_0_1664, x_0_1665, x_0_1666, x_0_1667, x_0_1668, x_0_1669, x_0_1670, x_0_1674, x_0_1675, x_0_1676, x_0_1677, x_0_1678, x_0_1679, x_0_1680, x_0_1681, x_0_1682, x_0_1683, x_0_1684, x_0_1688, x_0_1691, x_0_1692, ↓reduceIte, va_rf_some, cw_nil, cw_int, cw_ref, cw_long, kl_int, kl_ref, kl_null, kl_long, kl_none, Option.toList_some, Option.toList_none, List.cons_append, List.nil_append, List.append_nil, nI_add, nI_clamp, nI_ltI, nI_leI, nI_eq, Nat.reduceLT, Nat.reduceLeDiff, Nat.reduceEqDiff, Nat.reduceAdd, Nat.reduceMul, Nat.reduceSub, if_true, if_false, not_true, not_false_eq_true, decide_true, decide_false, Nat.lt_irrefl, Nat.le_refl, Nat.not_lt_zero, Nat.zero_le, eq_self]
  exact go I2 L2 R2 hI2
end LW1

