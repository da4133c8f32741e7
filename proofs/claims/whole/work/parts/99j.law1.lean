theorem lg_cmp_self {x : Int64} : lg_cmp x x = nI 0 := by
  unfold lg_cmp
  simp
  try rfl

/-! The law, case by case. -/
section LW0
variable {S : mS} {I : mI} {L : mL} {R : mR} {Q : mQ} {d x b i Lx bc bs : Nat} {xs : Nat → Int32}
theorem lc_0 (hI : INV x b xs S I L R) (hb : kd S b = 110) (hn : ln S b = Lx) (hi : i + 6 ≤ Lx) (hL : Lx ≤ 384) (go : ∀ I' L' R', INV x b xs S I' L' R' → WP (d + 41, bc, bs) 0 2187 [some (.ref b), some (.ref x), some (.ref (x + 163)), some (.int (nI i))] [] S I' L' R' Q) : WP (d + 41, bc, bs) 0 280 [some (.ref b), some (.ref x), some (.ref (x + 163)), some (.int (nI i))] [] S I L R Q := by
  obtain ⟨A, hA⟩ := id hI
  have hs : I b = xs := hA.scr
  have k0 : kd S x = 0 := hA.c.k0
  have k12 : kd S (x + 163) = 12 := md_k hA.m
  have v1 : vp_in (nI (i + 1)) (ln S b) := by rw [hn]; exact of_eq_true (vin (by omega) (by omega))
  have v2 : vp_in (nI (i + 2)) (ln S b) := by rw [hn]; exact of_eq_true (vin (by omega) (by omega))
  have v3 : vp_in (nI (i + 3)) (ln S b) := by rw [hn]; exact of_eq_true (vin (by omega) (by omega))
  have v4 : vp_in (nI (i + 4)) (ln S b) := by rw [hn]; exact of_eq_true (vin (by omega) (by omega))
  have v5 : vp_in (nI (i + 5)) (ln S b) := by rw [hn]; exact of_eq_true (vin (by omega) (by omega))
  simp (disch := first | assumption | exact cw0 | omega | (simp only [cw_nil, cw_int, cw_ref, cw_long]; omega) | decide) only [x_0_280, x_0_284, x_0_285, x_0_288, x_0_291, x_0_292, ↓reduceIte, va_rf_some, cw_nil, cw_int, cw_ref, cw_long, kl_int, kl_ref, kl_null, kl_long, kl_none, Option.toList_some, Option.toList_none, List.cons_append, List.nil_append, List.append_nil, nI_add, nI_clamp, nI_ltI, nI_leI, nI_eq, Nat.reduceLT, Nat.reduceLeDiff, Nat.reduceEqDiff, Nat.reduceAdd, Nat.reduceMul, Nat.reduceSub, if_true, if_false, not_true, not_false_eq_true, decide_true, decide_false, Nat.lt_irrefl, Nat.le_refl, Nat.not_lt_zero, Nat.zero_le, hs]
  rw [x_0_281 k0 (by simp only [cw_ref, cw_int, cw_long, cw_nil, Option.toList_some, List.cons_append, List.nil_append]; omega)]
  refine CA_mono (CA_rt (sim_status d x b xs S I L R hI)) ?_
  rintro v S1 I1 L1 R1 ⟨⟨rfl, h1, h2⟩, hr, -⟩
  obtain ⟨u, rfl⟩ := hr (Or.inl ht_2)
  simp (disch := first | assumption | exact cw0 | omega | (simp only [cw_nil, cw_int, cw_ref, cw_long]; omega) | decide) only [x_0_280, x_0_284, x_0_288, x_0_291, x_0_292, ↓reduceIte, va_rf_some, cw_nil, cw_int, cw_ref, cw_long, kl_int, kl_ref, kl_null, kl_long, kl_none, Option.toList_some, Option.toList_none, List.cons_append, List.nil_append, List.append_nil, nI_add, nI_clamp, nI_ltI, nI_leI, nI_eq, Nat.reduceLT, Nat.reduceLeDiff, Nat.reduceEqDiff, Nat.reduceAdd, Nat.reduceMul, Nat.reduceSub, if_true, if_false, not_true, not_false_eq_true, decide_true, decide_false, Nat.lt_irrefl, Nat.le_refl, Nat.not_lt_zero, Nat.zero_le, h1]
  rw [x_0_285 k12 (by simp only [cw_ref, cw_int, cw_long, cw_nil, Option.toList_some, List.cons_append, List.nil_append]; omega)]
  refine CA_mono h2 ?_
  rintro w S2 I2 L2 R2 ⟨rfl, rfl, hI2⟩
  simp (disch := first | assumption | exact cw0 | omega | (simp only [cw_nil, cw_int, cw_ref, cw_long]; omega) | decide) only [x_0_280, x_0_284, x_0_288, x_0_291, x_0_292, ↓reduceIte, va_rf_some, cw_nil, cw_int, cw_ref, cw_long, kl_int, kl_ref, kl_null, kl_long, kl_none, Option.toList_some, Option.toList_none, List.cons_append, List.nil_append, List.append_nil, nI_add, nI_clamp, nI_ltI, nI_leI, nI_eq, Nat.reduceLT, Nat.reduceLeDiff, Nat.reduceEqDiff, Nat.reduceAdd, Nat.reduceMul, Nat.reduceSub, if_true, if_false, not_true, not_false_eq_true, decide_true, decide_false, Nat.lt_irrefl, Nat.le_refl, Nat.not_lt_zero, Nat.zero_le, eq_self]
  exact go I2 L2 R2 hI2
theorem lc_1 (hI : INV x b xs S I L R) (hb : kd S b = 110) (hn : ln S b = Lx) (hi : i + 6 ≤ Lx) (hL : Lx ≤ 384) (go : ∀ I' L' R', INV x b xs S I' L' R' → WP (d + 41, bc, bs) 0 2187 [some (.ref b), some (.ref x), some (.ref (x + 163)), some (.int (nI i))] [] S I' L' R' Q) : WP (d + 41, bc, bs) 0 293 [some (.ref b), some (.ref x), some (.ref (x + 163)), some (.int (nI i))] [] S I L R Q := by
  obtain ⟨A, hA⟩ := id hI
  have hs : I b = xs := hA.scr
  have k0 : kd S x = 0 := hA.c.k0
  have k12 : kd S (x + 163) = 12 := md_k hA.m
  have v1 : vp_in (nI (i + 1)) (ln S b) := by rw [hn]; exact of_eq_true (vin (by omega) (by omega))
  have v2 : vp_in (nI (i + 2)) (ln S b) := by rw [hn]; exact of_eq_true (vin (by omega) (by omega))
  have v3 : vp_in (nI (i + 3)) (ln S b) := by rw [hn]; exact of_eq_true (vin (by omega) (by omega))
  have v4 : vp_in (nI (i + 4)) (ln S b) := by rw [hn]; exact of_eq_true (vin (by omega) (by omega))
  have v5 : vp_in (nI (i + 5)) (ln S b) := by rw [hn]; exact of_eq_true (vin (by omega) (by omega))
  simp (disch := first | assumption | exact cw0 | omega | (simp only [cw_nil, cw_int, cw_ref, cw_long]; omega) | decide) only [x_0_293, x_0_297, x_0_298, x_0_301, x_0_302, x_0_305, x_0_306, ↓reduceIte, va_rf_some, cw_nil, cw_int, cw_ref, cw_long, kl_int, kl_ref, kl_null, kl_long, kl_none, Option.toList_some, Option.toList_none, List.cons_append, List.nil_append, List.append_nil, nI_add, nI_clamp, nI_ltI, nI_leI, nI_eq, Nat.reduceLT, Nat.reduceLeDiff, Nat.reduceEqDiff, Nat.reduceAdd, Nat.reduceMul, Nat.reduceSub, if_true, if_false, not_true, not_false_eq_true, decide_true, decide_false, Nat.lt_irrefl, Nat.le_refl, Nat.not_lt_zero, Nat.zero_le, hs]
  rw [x_0_294 k0 (by simp only [cw_ref, cw_int, cw_long, cw_nil, Option.toList_some, List.cons_append, List.nil_append]; omega)]
  refine CA_mono (CA_rt (sim_top d x b xs S I L R hI)) ?_
  rintro v S1 I1 L1 R1 ⟨⟨rfl, h1, h2⟩, -, hr⟩
  obtain ⟨u, rfl⟩ := hr ht_3
  simp (disch := first | assumption | exact cw0 | omega | (simp only [cw_nil, cw_int, cw_ref, cw_long]; omega) | decide) only [x_0_293, x_0_297, x_0_301, x_0_302, x_0_305, x_0_306, ↓reduceIte, va_rf_some, cw_nil, cw_int, cw_ref, cw_long, kl_int, kl_ref, kl_null, kl_long, kl_none, Option.toList_some, Option.toList_none, List.cons_append, List.nil_append, List.append_nil, nI_add, nI_clamp, nI_ltI, nI_leI, nI_eq, Nat.reduceLT, Nat.reduceLeDiff, Nat.reduceEqDiff, Nat.reduceAdd, Nat.reduceMul, Nat.reduceSub, if_true, if_false, not_true, not_false_eq_true, decide_true, decide_false, Nat.lt_irrefl, Nat.le_refl, Nat.not_lt_zero, Nat.zero_le, h1]
  rw [x_0_298 k12 (by simp only [cw_ref, cw_int, cw_long, cw_nil, Option.toList_some, List.cons_append, List.nil_append]; omega)]
  refine CA_mono h2 ?_
  rintro w S2 I2 L2 R2 ⟨rfl, rfl, hI2⟩
  simp (disch := first | assumption | exact cw0 | omega | (simp only [cw_nil, cw_int, cw_ref, cw_long]; omega) | decide) only [x_0_293, x_0_297, x_0_301, x_0_302, x_0_305, x_0_306, ↓reduceIte, va_rf_some, cw_nil, cw_int, cw_ref, cw_long, kl_int, kl_ref, kl_null, kl_long, kl_none, Option.toList_some, Option.toList_none, List.cons_append, List.nil_append, List.append_nil, nI_add, nI_clamp, nI_ltI, nI_leI, nI_eq, Nat.reduceLT, Nat.reduceLeDiff, Nat.reduceEqDiff, Nat.reduceAdd, Nat.reduceMul, Nat.reduceSub, if_true, if_false, not_true, not_false_eq_true, decide_true, decide_false, Nat.lt_irrefl, Nat.le_refl, Nat.not_lt_zero, Nat.zero_le, lg_cmp_self, eq_self]
  exact go I2 L2 R2 hI2
theorem lc_2 (hI : INV x b xs S I L R) (hb : kd S b = 110) (hn : ln S b = Lx) (hi : i + 6 ≤ Lx) (hL : Lx ≤ 384) (go : ∀ I' L' R', INV x b xs S I' L' R' → WP (d + 41, bc, bs) 0 2187 [some (.ref b), some (.ref x), some (.ref (x + 163)), some (.int (nI i))] [] S I' L' R' Q) : WP (d + 41, bc, bs) 0 307 [some (.ref b), some (.ref x), some (.ref (x + 163)), some (.int (nI i))] [] S I L R Q := by
  obtain ⟨A, hA⟩ := id hI
  have hs : I b = xs := hA.scr
  have k0 : kd S x = 0 := hA.c.k0
  have k12 : kd S (x + 163) = 12 := md_k hA.m
  have v1 : vp_in (nI (i + 1)) (ln S b) := by rw [hn]; exact of_eq_true (vin (by omega) (by omega))
  have v2 : vp_in (nI (i + 2)) (ln S b) := by rw [hn]; exact of_eq_true (vin (by omega) (by omega))
  have v3 : vp_in (nI (i + 3)) (ln S b) := by rw [hn]; exact of_eq_true (vin (by omega) (by omega))
  have v4 : vp_in (nI (i + 4)) (ln S b) := by rw [hn]; exact of_eq_true (vin (by omega) (by omega))
  have v5 : vp_in (nI (i + 5)) (ln S b) := by rw [hn]; exact of_eq_true (vin (by omega) (by omega))
  simp (disch := first | assumption | exact cw0 | omega | (simp only [cw_nil, cw_int, cw_ref, cw_long]; omega) | decide) only [x_0_307, x_0_311, x_0_312, x_0_315, x_0_316, x_0_319, x_0_320, ↓reduceIte, va_rf_some, cw_nil, cw_int, cw_ref, cw_long, kl_int, kl_ref, kl_null, kl_long, kl_none, Option.toList_some, Option.toList_none, List.cons_append, List.nil_append, List.append_nil, nI_add, nI_clamp, nI_ltI, nI_leI, nI_eq, Nat.reduceLT, Nat.reduceLeDiff, Nat.reduceEqDiff, Nat.reduceAdd, Nat.reduceMul, Nat.reduceSub, if_true, if_false, not_true, not_false_eq_true, decide_true, decide_false, Nat.lt_irrefl, Nat.le_refl, Nat.not_lt_zero, Nat.zero_le, hs]
  rw [x_0_308 k0 (by simp only [cw_ref, cw_int, cw_long, cw_nil, Option.toList_some, List.cons_append, List.nil_append]; omega)]
  refine CA_mono (CA_rt (sim_bottom d x b xs S I L R hI)) ?_
  rintro v S1 I1 L1 R1 ⟨⟨rfl, h1, h2⟩, -, hr⟩
  obtain ⟨u, rfl⟩ := hr ht_4
  simp (disch := first | assumption | exact cw0 | omega | (simp only [cw_nil, cw_int, cw_ref, cw_long]; omega) | decide) only [x_0_307, x_0_311, x_0_315, x_0_316, x_0_319, x_0_320, ↓reduceIte, va_rf_some, cw_nil, cw_int, cw_ref, cw_long, kl_int, kl_ref, kl_null, kl_long, kl_none, Option.toList_some, Option.toList_none, List.cons_append, List.nil_append, List.append_nil, nI_add, nI_clamp, nI_ltI, nI_leI, nI_eq, Nat.reduceLT, Nat.reduceLeDiff, Nat.reduceEqDiff, Nat.reduceAdd, Nat.reduceMul, Nat.reduceSub, if_true, if_false, not_true, not_false_eq_true, decide_true, decide_false, Nat.lt_irrefl, Nat.le_refl, Nat.not_lt_zero, Nat.zero_le, h1]
  rw [x_0_312 k12 (by simp only [cw_ref, cw_int, cw_long, cw_nil, Option.toList_some, List.cons_append, List.nil_append]; omega)]
  refine CA_mono h2 ?_
  rintro w S2 I2 L2 R2 ⟨rfl, rfl, hI2⟩
  simp (disch := first | assumption | exact cw0 | omega | (simp only [cw_nil, cw_int, cw_ref, cw_long]; omega) | decide) only [x_0_307, x_0_311, x_0_315, x_0_316, x_0_319, x_0_320, ↓reduceIte, va_rf_some, cw_nil, cw_int, cw_ref, cw_long, kl_int, kl_ref, kl_null, kl_long, kl_none, Option.toList_some, Option.toList_none, List.cons_append, List.nil_append, List.append_nil, nI_add, nI_clamp, nI_ltI, nI_leI, nI_eq, Nat.reduceLT, Nat.reduceLeDiff, Nat.reduceEqDiff, Nat.reduceAdd, Nat.reduceMul, Nat.reduceSub, if_true, if_false, not_true, not_false_eq_true, decide_true, decide_false, Nat.lt_irrefl, Nat.le_refl, Nat.not_lt_zero, Nat.zero_le, lg_cmp_self, eq_self]
  exact go I2 L2 R2 hI2
theorem lc_3 (hI : INV x b xs S I L R) (hb : kd S b = 110) (hn : ln S b = Lx) (hi : i + 6 ≤ Lx) (hL : Lx ≤ 384) (go : ∀ I' L' R', INV x b xs S I' L' R' → WP (d + 41, bc, bs) 0 2187 [some (.ref b), some (.ref x), some (.ref (x + 163)), some (.int (nI i))] [] S I' L' R' Q) : WP (d + 41, bc, bs) 0 321 [some (.ref b), some (.ref x), some (.ref (x + 163)), some (.int (nI i))] [] S I L R Q := by
  obtain ⟨A, hA⟩ := id hI
  have hs : I b = xs := hA.scr
  have k0 : kd S x = 0 := hA.c.k0
  have k12 : kd S (x + 163) = 12 := md_k hA.m
  have v1 : vp_in (nI (i + 1)) (ln S b) := by rw [hn]; exact of_eq_true (vin (by omega) (by omega))
  have v2 : vp_in (nI (i + 2)) (ln S b) := by rw [hn]; exact of_eq_true (vin (by omega) (by omega))
  have v3 : vp_in (nI (i + 3)) (ln S b) := by rw [hn]; exact of_eq_true (vin (by omega) (by omega))
  have v4 : vp_in (nI (i + 4)) (ln S b) := by rw [hn]; exact of_eq_true (vin (by omega) (by omega))
  have v5 : vp_in (nI (i + 5)) (ln S b) := by rw [hn]; exact of_eq_true (vin (by omega) (by omega))
  simp (disch := first | assumption | exact cw0 | omega | (simp only [cw_nil, cw_int, cw_ref, cw_long]; omega) | decide) only [x_0_321, x_0_322, x_0_323, x_0_324, x_0_325, x_0_326, x_0_327, x_0_328, x_0_329, x_0_330, x_0_331, x_0_332, x_0_333, x_0_334, x_0_335, x_0_336, x_0_340, x_0_341, x_0_342, x_0_343, x_0_344, x_0_345, x_0_346, x_0_347, x_0_348, x_0_349, x_0_350, x_0_351, x_0_352, x_0_353, x_0_354, x_0_355, x_0_356, x_0_359, x_0_362, x_0_363, ↓reduceIte, va_rf_some, cw_nil, cw_int, cw_ref, cw_long, kl_int, kl_ref, kl_null, kl_long, kl_none, Option.toList_some, Option.toList_none, List.cons_append, List.nil_append, List.append_nil, nI_add, nI_clamp, nI_ltI, nI_leI, nI_eq, Nat.reduceLT, Nat.reduceLeDiff, Nat.reduceEqDiff, Nat.reduceAdd, Nat.reduceMul, Nat.reduceSub, if_true, if_false, not_true, not_false_eq_true, decide_true, decide_false, Nat.lt_irrefl, Nat.le_refl, Nat.not_lt_zero, Nat.zero_le, hs]
  rw [x_0_337 k0 (by simp only [cw_ref, cw_int, cw_long, cw_nil, Option.toList_some, List.cons_append, List.nil_append]; omega)]
  refine CA_mono (CA_rt (sim_tray d x b xs S I L R hI)) ?_
  rintro v S1 I1 L1 R1 ⟨⟨rfl, h1, h2⟩, hr, -⟩
  obtain ⟨u, rfl⟩ := hr (Or.inr ht_5)
  simp (disch := first | assumption | exact cw0 | omega | (simp only [cw_nil, cw_int, cw_ref, cw_long]; omega) | decide) only [x_0_321, x_0_322, x_0_323, x_0_324, x_0_325, x_0_326, x_0_327, x_0_328, x_0_329, x_0_330, x_0_331, x_0_332, x_0_333, x_0_334, x_0_335, x_0_336, x_0_340, x_0_341, x_0_342, x_0_343, x_0_344, x_0_345, x_0_346, x_0_347, x_0_348, x_0_349, x_0_350, x_0_351, x_0_352, x_0_353, x_0_354, x_0_355, x_0_359, x_0_362, x_0_363, ↓reduceIte, va_rf_some, cw_nil, cw_int, cw_ref, cw_long, kl_int, kl_ref, kl_null, kl_long, kl_none, Option.toList_some, Option.toList_none, List.cons_append, List.nil_append, List.append_nil, nI_add, nI_clamp, nI_ltI, nI_leI, nI_eq, Nat.reduceLT, Nat.reduceLeDiff, Nat.reduceEqDiff, Nat.reduceAdd, Nat.reduceMul, Nat.reduceSub, if_true, if_false, not_true, not_false_eq_true, decide_true, decide_false, Nat.lt_irrefl, Nat.le_refl, Nat.not_lt_zero, Nat.zero_le, h1]
  rw [x_0_356 k12 (by simp only [cw_ref, cw_int, cw_long, cw_nil, Option.toList_some, List.cons_append, List.nil_append]; omega)]
  refine CA_mono h2 ?_
  rintro w S2 I2 L2 R2 ⟨rfl, rfl, hI2⟩
  simp (disch := first | assumption | exact cw0 | omega | (simp only [cw_nil, cw_int, cw_ref, cw_long]; omega) | decide) only [x_0_321, x_0_322, x_0_323, x_0_324, x_0_325, x_0_326, x_0_327, x_0_328, x_0_329, x_0_330, x_0_331, x_0_332, x_0_333, x_0_334, x_0_335, x_0_336, x_0_340, x_0_341, x_0_342, x_0_343, x_0_344, x_0_345, x_0_346, x_0_347, x_0_348, x_0_349, x_0_350, x_0_351, x_0_352, x_0_353, x_0_354, x_0_355, x_0_359, x_0_362, x_0_363, ↓reduceIte, va_rf_some, cw_nil, cw_int, cw_ref, cw_long, kl_int, kl_ref, kl_null, kl_long, kl_none, Option.toList_some, Option.toList_none, List.cons_append, List.nil_append, List.append_nil, nI_add, nI_clamp, nI_ltI, nI_leI, nI_eq, Nat.reduceLT, Nat.reduceLeDiff, Nat.reduceEqDiff, Nat.reduceAdd, Nat.reduceMul, Nat.reduceSub, if_true, if_false, not_true, not_false_eq_true, decide_true, decide_false, Nat.lt_irrefl, Nat.le_refl, Nat.not_lt_zero, Nat.zero_le, eq_self]
  exact go I2 L2 R2 hI2
theorem lc_4 (hI : INV x b xs S I L R) (hb : kd S b = 110) (hn : ln S b = Lx) (hi : i + 6 ≤ Lx) (hL : Lx ≤ 384) (go : ∀ I' L' R', INV x b xs S I' L' R' → WP (d + 41, bc, bs) 0 2187 [some (.ref b), some (.ref x), some (.ref (x + 163)), some (.int (nI i))] [] S I' L' R' Q) : WP (d + 41, bc, bs) 0 364 [some (.ref b), some (.ref x), some (.ref (x + 163)), some (.int (nI i))] [] S I L R Q := by
  obtain ⟨A, hA⟩ := id hI
  have hs : I b = xs := hA.scr
  have k0 : kd S x = 0 := hA.c.k0
  have k12 : kd S (x + 163) = 12 := md_k hA.m
  have v1 : vp_in (nI (i + 1)) (ln S b) := by rw [hn]; exact of_eq_true (vin (by omega) (by omega))
  have v2 : vp_in (nI (i + 2)) (ln S b) := by rw [hn]; exact of_eq_true (vin (by omega) (by omega))
  have v3 : vp_in (nI (i + 3)) (ln S b) := by rw [hn]; exact of_eq_true (vin (by omega) (by omega))
  have v4 : vp_in (nI (i + 4)) (ln S b) := by rw [hn]; exact of_eq_true (vin (by omega) (by omega))
  have v5 : vp_in (nI (i + 5)) (ln S b) := by rw [hn]; exact of_eq_true (vin (by omega) (by omega))
  simp (disch := first | assumption | exact cw0 | omega | (simp only [cw_nil, cw_int, cw_ref, cw_long]; omega) | decide) only [x_0_364, x_0_365, x_0_366, x_0_367, x_0_368, x_0_369, x_0_370, x_0_371, x_0_372, x_0_373, x_0_374, x_0_375, x_0_376, x_0_377, x_0_378, x_0_379, x_0_380, x_0_381, x_0_383, x_0_384, x_0_385, x_0_386, x_0_387, x_0_388, x_0_389, x_0_390, x_0_393, x_0_394, x_0_398, x_0_399, x_0_400, x_0_401, x_0_402, x_0_403, x_0_404, x_0_405, x_0_406, x_0_407, x_0_408, x_0_409, x_0_410, x_0_411, x_0_412, x_0_413, x_0_414, x_0_415, x_0_417, x_0_418, x_0_419, x_0_420, x_0_421, x_0_422, x_0_423, x_0_424, x_0_427, x_0_428, x_0_429, x_0_432, x_0_435, x_0_436, ↓reduceIte, va_rf_some, cw_nil, cw_int, cw_ref, cw_long, kl_int, kl_ref, kl_null, kl_long, kl_none, Option.toList_some, Option.toList_none, List.cons_append, List.nil_append, List.append_nil, nI_add, nI_clamp, nI_ltI, nI_leI, nI_eq, Nat.reduceLT, Nat.reduceLeDiff, Nat.reduceEqDiff, Nat.reduceAdd, Nat.reduceMul, Nat.reduceSub, if_true, if_false, not_true, not_false_eq_true, decide_true, decide_false, Nat.lt_irrefl, Nat.le_refl, Nat.not_lt_zero, Nat.zero_le, hs]
  rw [x_0_395 k0 (by simp only [cw_ref, cw_int, cw_long, cw_nil, Option.toList_some, List.cons_append, List.nil_append]; omega)]
  refine CA_mono (CA_rt (sim_write d x b xs S I L R hI)) ?_
  rintro v S1 I1 L1 R1 ⟨⟨rfl, h1, h2⟩, hr, -⟩
  obtain ⟨u, rfl⟩ := hr (Or.inr ht_8)
  simp (disch := first | assumption | exact cw0 | omega | (simp only [cw_nil, cw_int, cw_ref, cw_long]; omega) | decide) only [x_0_364, x_0_365, x_0_366, x_0_367, x_0_368, x_0_369, x_0_370, x_0_371, x_0_372, x_0_373, x_0_374, x_0_375, x_0_376, x_0_377, x_0_378, x_0_379, x_0_380, x_0_381, x_0_383, x_0_384, x_0_385, x_0_386, x_0_387, x_0_388, x_0_389, x_0_390, x_0_393, x_0_394, x_0_398, x_0_399, x_0_400, x_0_401, x_0_402, x_0_403, x_0_404, x_0_405, x_0_406, x_0_407, x_0_408, x_0_409, x_0_410, x_0_411, x_0_412, x_0_413, x_0_414, x_0_415, x_0_417, x_0_418, x_0_419, x_0_420, x_0_421, x_0_422, x_0_423, x_0_424, x_0_427, x_0_428, x_0_432, x_0_435, x_0_436, ↓reduceIte, va_rf_some, cw_nil, cw_int, cw_ref, cw_long, kl_int, kl_ref, kl_null, kl_long, kl_none, Option.toList_some, Option.toList_none, List.cons_append, List.nil_append, List.append_nil, nI_add, nI_clamp, nI_ltI, nI_leI, nI_eq, Nat.reduceLT, Nat.reduceLeDiff, Nat.reduceEqDiff, Nat.reduceAdd, Nat.reduceMul, Nat.reduceSub, if_true, if_false, not_true, not_false_eq_true, decide_true, decide_false, Nat.lt_irrefl, Nat.le_refl, Nat.not_lt_zero, Nat.zero_le, h1]
  rw [x_0_429 k12 (by simp only [cw_ref, cw_int, cw_long, cw_nil, Option.toList_some, List.cons_append, List.nil_append]; omega)]
  refine CA_mono h2 ?_
  rintro w S2 I2 L2 R2 ⟨rfl, rfl, hI2⟩
  simp (disch := first | assumption | exact cw0 | omega | (simp only [cw_nil, cw_int, cw_ref, cw_long]; omega) | decide) only [x_0_364, x_0_365, x_0_366, x_0_367, x_0_368, x_0_369, x_0_370, x_0_371, x_0_372, x_0_373, x_0_374, x_0_375, x_0_376, x_0_377, x_0_378, x_0_379, x_0_380, x_0_381, x_0_383, x_0_384, x_0_385, x_0_386, x_0_387, x_0_388, x_0_389, x_0_390, x_0_393, x_0_394, x_0_398, x_0_399, x_0_400, x_0_401, x_0_402, x_0_403, x_0_404, x_0_405, x_0_406, x_0_407, x_0_408, x_0_409, x_0_410, x_0_411, x_0_412, x_0_413, x_0_414, x_0_415, x_0_417, x_0_418, x_0_419, x_0_420, x_0_421, x_0_422, x_0_423, x_0_424, x_0_427, x_0_428, x_0_432, x_0_435, x_0_436, ↓reduceIte, va_rf_some, cw_nil, cw_int, cw_ref, cw_long, kl_int, kl_ref, kl_null, kl_long, kl_none, Option.toList_some, Option.toList_none, List.cons_append, List.nil_append, List.append_nil, nI_add, nI_clamp, nI_ltI, nI_leI, nI_eq, Nat.reduceLT, Nat.reduceLeDiff, Nat.reduceEqDiff, Nat.reduceAdd, Nat.reduceMul, Nat.reduceSub, if_true, if_false, not_true, not_false_eq_true, decide_true, decide_false, Nat.lt_irrefl, Nat.le_refl, Nat.not_lt_zero, Nat.zero_le, eq_self]
  exact go I2 L2 R2 hI2
theorem lc_5 (hI : INV x b xs S I L R) (hb : kd S b = 110) (hn : ln S b = Lx) (hi : i + 6 ≤ Lx) (hL : Lx ≤ 384) (go : ∀ I' L' R', INV x b xs S I' L' R' → WP (d + 41, bc, bs) 0 2187 [some (.ref b), some (.ref x), some (.ref (x + 163)), some (.int (nI i))] [] S I' L' R' Q) : WP (d + 41, bc, bs) 0 437 [some (.ref b), some (.ref x), some (.ref (x + 163)), some (.int (nI i))] [] S I L R Q := by
  obtain ⟨A, hA⟩ := id hI
  have hs : I b = xs := hA.scr
  have k0 : kd S x = 0 := hA.c.k0
  have k12 : kd S (x + 163) = 12 := md_k hA.m
  have v1 : vp_in (nI (i + 1)) (ln S b) := by rw [hn]; exact of_eq_true (vin (by omega) (by omega))
  have v2 : vp_in (nI (i + 2)) (ln S b) := by rw [hn]; exact of_eq_true (vin (by omega) (by omega))
  have v3 : vp_in (nI (i + 3)) (ln S b) := by rw [hn]; exact of_eq_true (vin (by omega) (by omega))
  have v4 : vp_in (nI (i + 4)) (ln S b) := by rw [hn]; exact of_eq_true (vin (by omega) (by omega))
  have v5 : vp_in (nI (i + 5)) (ln S b) := by rw [hn]; exact of_eq_true (vin (by omega) (by omega))
  simp (disch := first | assumption | exact cw0 | omega | (simp only [cw_nil, cw_int, cw_ref, cw_long]; omega) | decide) only [x_0_437, x_0_438, x_0_439, x_0_440, x_0_441, x_0_442, x_0_443, x_0_444, x_0_445, x_0_446, x_0_447, x_0_451, x_0_452, x_0_453, x_0_454, x_0_455, x_0_456, x_0_457, x_0_458, x_0_459, x_0_460, x_0_461, x_0_462, x_0_465, x_0_466, x_0_469, x_0_470, ↓reduceIte, va_rf_some, cw_nil, cw_int, cw_ref, cw_long, kl_int, kl_ref, kl_null, kl_long, kl_none, Option.toList_some, Option.toList_none, List.cons_append, List.nil_append, List.append_nil, nI_add, nI_clamp, nI_ltI, nI_leI, nI_eq, Nat.reduceLT, Nat.reduceLeDiff, Nat.reduceEqDiff, Nat.reduceAdd, Nat.reduceMul, Nat.reduceSub, if_true, if_false, not_true, not_false_eq_true, decide_true, decide_false, Nat.lt_irrefl, Nat.le_refl, Nat.not_lt_zero, Nat.zero_le, hs]
  rw [x_0_448 k0 (by simp only [cw_ref, cw_int, cw_long, cw_nil, Option.toList_some, List.cons_append, List.nil_append]; omega)]
  refine CA_mono (CA_rt (sim_read d x b xs S I L R hI)) ?_
  rintro v S1 I1 L1 R1 ⟨⟨rfl, h1, h2⟩, -, hr⟩
  obtain ⟨u, rfl⟩ := hr ht_9
  simp (disch := first | assumption | exact cw0 | omega | (simp only [cw_nil, cw_int, cw_ref, cw_long]; omega) | decide) only [x_0_437, x_0_438, x_0_439, x_0_440, x_0_441, x_0_442, x_0_443, x_0_444, x_0_445, x_0_446, x_0_447, x_0_451, x_0_452, x_0_453, x_0_454, x_0_455, x_0_456, x_0_457, x_0_458, x_0_459, x_0_460, x_0_461, x_0_465, x_0_466, x_0_469, x_0_470, ↓reduceIte, va_rf_some, cw_nil, cw_int, cw_ref, cw_long, kl_int, kl_ref, kl_null, kl_long, kl_none, Option.toList_some, Option.toList_none, List.cons_append, List.nil_append, List.append_nil, nI_add, nI_clamp, nI_ltI, nI_leI, nI_eq, Nat.reduceLT, Nat.reduceLeDiff, Nat.reduceEqDiff, Nat.reduceAdd, Nat.reduceMul, Nat.reduceSub, if_true, if_false, not_true, not_false_eq_true, decide_true, decide_false, Nat.lt_irrefl, Nat.le_refl, Nat.not_lt_zero, Nat.zero_le, h1]
  rw [x_0_462 k12 (by simp only [cw_ref, cw_int, cw_long, cw_nil, Option.toList_some, List.cons_append, List.nil_append]; omega)]
  refine CA_mono h2 ?_
  rintro w S2 I2 L2 R2 ⟨rfl, rfl, hI2⟩
  simp (disch := first | assumption | exact cw0 | omega | (simp only [cw_nil, cw_int, cw_ref, cw_long]; omega) | decide) only [x_0_437, x_0_438, x_0_439, x_0_440, x_0_441, x_0_442, x_0_443, x_0_444, x_0_445, x_0_446, x_0_447, x_0_451, x_0_452, x_0_453, x_0_454, x_0_455, x_0_456, x_0_457, x_0_458, x_0_459, x_0_460, x_0_461, x_0_465, x_0_466, x_0_469, x_0_470, ↓reduceIte, va_rf_some, cw_nil, cw_int, cw_ref, cw_long, kl_int, kl_ref, kl_null, kl_long, kl_none, Option.toList_some, Option.toList_none, List.cons_append, List.nil_append, List.append_nil, nI_add, nI_clamp, nI_ltI, nI_leI, nI_eq, Nat.reduceLT, Nat.reduceLeDiff, Nat.reduceEqDiff, Nat.reduceAdd, Nat.reduceMul, Nat.reduceSub, if_true, if_false, not_true, not_false_eq_true, decide_true, decide_false, Nat.lt_irrefl, Nat.le_refl, Nat.not_lt_zero, Nat.zero_le, lg_cmp_self, eq_self]
  exact go I2 L2 R2 hI2
theorem lc_6 (hI : INV x b xs S I L R) (hb : kd S b = 110) (hn : ln S b = Lx) (hi : i + 6 ≤ Lx) (hL : Lx ≤ 384) (go : ∀ I' L' R', INV x b xs S I' L' R' → WP (d + 41, bc, bs) 0 2187 [some (.ref b), some (.ref x), some (.ref (x + 163)), some (.int (nI i))] [] S I' L' R' Q) : WP (d + 41, bc, bs) 0 471 [some (.ref b), some (.ref x), some (.ref (x + 163)), some (.int (nI i))] [] S I L R Q := by
  obtain ⟨A, hA⟩ := id hI
  have hs : I b = xs := hA.scr
  have k0 : kd S x = 0 := hA.c.k0
  have k12 : kd S (x + 163) = 12 := md_k hA.m
  have v1 : vp_in (nI (i + 1)) (ln S b) := by rw [hn]; exact of_eq_true (vin (by omega) (by omega))
  have v2 : vp_in (nI (i + 2)) (ln S b) := by rw [hn]; exact of_eq_true (vin (by omega) (by omega))
  have v3 : vp_in (nI (i + 3)) (ln S b) := by rw [hn]; exact of_eq_true (vin (by omega) (by omega))
  have v4 : vp_in (nI (i + 4)) (ln S b) := by rw [hn]; exact of_eq_true (vin (by omega) (by omega))
  have v5 : vp_in (nI (i + 5)) (ln S b) := by rw [hn]; exact of_eq_true (vin (by omega) (by omega))
  simp (disch := first | assumption | exact cw0 | omega | (simp only [cw_nil, cw_int, cw_ref, cw_long]; omega) | decide) only [x_0_471, x_0_472, x_0_473, x_0_474, x_0_475, x_0_476, x_0_477, x_0_478, x_0_479, x_0_480, x_0_481, x_0_482, x_0_483, x_0_484, x_0_485, x_0_486, x_0_487, x_0_488, x_0_489, x_0_490, x_0_491, x_0_492, x_0_493, x_0_494, x_0_495, x_0_496, x_0_500, x_0_501, x_0_502, x_0_503, x_0_504, x_0_505, x_0_506, x_0_507, x_0_508, x_0_509, x_0_510, x_0_511, x_0_512, x_0_513, x_0_514, x_0_515, x_0_516, x_0_517, x_0_518, x_0_519, x_0_520, x_0_521, x_0_522, x_0_523, x_0_524, x_0_525, x_0_526, x_0_529, x_0_532, x_0_533, ↓reduceIte, va_rf_some, cw_nil, cw_int, cw_ref, cw_long, kl_int, kl_ref, kl_null, kl_long, kl_none, Option.toList_some, Option.toList_none, List.cons_append, List.nil_append, List.append_nil, nI_add, nI_clamp, nI_ltI, nI_leI, nI_eq, Nat.reduceLT, Nat.reduceLeDiff, Nat.reduceEqDiff, Nat.reduceAdd, Nat.reduceMul, Nat.reduceSub, if_true, if_false, not_true, not_false_eq_true, decide_true, decide_false, Nat.lt_irrefl, Nat.le_refl, Nat.not_lt_zero, Nat.zero_le, hs]
  rw [x_0_497 k0 (by simp only [cw_ref, cw_int, cw_long, cw_nil, Option.toList_some, List.cons_append, List.nil_append]; omega)]
  refine CA_mono (CA_rt (sim_pour d x b xs S I L R hI)) ?_
  rintro v S1 I1 L1 R1 ⟨⟨rfl, h1, h2⟩, hr, -⟩
  obtain ⟨u, rfl⟩ := hr (Or.inr ht_11)
  simp (disch := first | assumption | exact cw0 | omega | (simp only [cw_nil, cw_int, cw_ref, cw_long]; omega) | decide) only [x_0_471, x_0_472, x_0_473, x_0_474, x_0_475, x_0_476, x_0_477, x_0_478, x_0_479, x_0_480, x_0_481, x_0_482, x_0_483, x_0_484, x_0_485, x_0_486, x_0_487, x_0_488, x_0_489, x_0_490, x_0_491, x_0_492, x_0_493, x_0_494, x_0_495, x_0_496, x_0_500, x_0_501, x_0_502, x_0_503, x_0_504, x_0_505, x_0_506, x_0_507, x_0_508, x_0_509, x_0_510, x_0_511, x_0_512, x_0_513, x_0_514, x_0_515, x_0_516, x_0_517, x_0_518, x_0_519, x_0_520, x_0_521, x_0_522, x_0_523, x_0_524, x_0_525, x_0_529, x_0_532, x_0_533, ↓reduceIte, va_rf_some, cw_nil, cw_int, cw_ref, cw_long, kl_int, kl_ref, kl_null, kl_long, kl_none, Option.toList_some, Option.toList_none, List.cons_append, List.nil_append, List.append_nil, nI_add, nI_clamp, nI_ltI, nI_leI, nI_eq, Nat.reduceLT, Nat.reduceLeDiff, Nat.reduceEqDiff, Nat.reduceAdd, Nat.reduceMul, Nat.reduceSub, if_true, if_false, not_true, not_false_eq_true, decide_true, decide_false, Nat.lt_irrefl, Nat.le_refl, Nat.not_lt_zero, Nat.zero_le, h1]
  rw [x_0_526 k12 (by simp only [cw_ref, cw_int, cw_long, cw_nil, Option.toList_some, List.cons_append, List.nil_append]; omega)]
  refine CA_mono h2 ?_
  rintro w S2 I2 L2 R2 ⟨rfl, rfl, hI2⟩
  simp (disch := first | assumption | exact cw0 | omega | (simp only [cw_nil, cw_int, cw_ref, cw_long]; omega) | decide) only [x_0_471, x_0_472, x_0_473, x_0_474, x_0_475, x_0_476, x_0_477, x_0_478, x_0_479, x_0_480, x_0_481, x_0_482, x_0_483, x_0_484, x_0_485, x_0_486, x_0_487, x_0_488, x_0_489, x_0_490, x_0_491, x_0_492, x_0_493, x_0_494, x_0_495, x_0_496, x_0_500, x_0_501, x_0_502, x_0_503, x_0_504, x_0_505, x_0_506, x_0_507, x_0_508, x_0_509, x_0_510, x_0_511, x_0_512, x_0_513, x_0_514, x_0_515, x_0_516, x_0_517, x_0_518, x_0_519, x_0_520, x_0_521, x_0_522, x_0_523, x_0_524, x_0_525, x_0_529, x_0_532, x_0_533, ↓reduceIte, va_rf_some, cw_nil, cw_int, cw_ref, cw_long, kl_int, kl_ref, kl_null, kl_long, kl_none, Option.toList_some, Option.toList_none, List.cons_append, List.nil_append, List.append_nil, nI_add, nI_clamp, nI_ltI, nI_leI, nI_eq, Nat.reduceLT, Nat.reduceLeDiff, Nat.reduceEqDiff, Nat.reduceAdd, Nat.reduceMul, Nat.reduceSub, if_true, if_false, not_true, not_false_eq_true, decide_true, decide_false, Nat.lt_irrefl, Nat.le_refl, Nat.not_lt_zero, Nat.zero_le, eq_self]
  exact go I2 L2 R2 hI2
theorem lc_7 (hI : INV x b xs S I L R) (hb : kd S b = 110) (hn : ln S b = Lx) (hi : i + 6 ≤ Lx) (hL : Lx ≤ 384) (go : ∀ I' L' R', INV x b xs S I' L' R' → WP (d + 41, bc, bs) 0 2187 [some (.ref b), some (.ref x), some (.ref (x + 163)), some (.int (nI i))] [] S I' L' R' Q) : WP (d + 41, bc, bs) 0 534 [some (.ref b), some (.ref x), some (.ref (x + 163)), some (.int (nI i))] [] S I L R Q := by
  obtain ⟨A, hA⟩ := id hI
  have hs : I b = xs := hA.scr
  have k0 : kd S x = 0 := hA.c.k0
  have k12 : kd S (x + 163) = 12 := md_k hA.m
  have v1 : vp_in (nI (i + 1)) (ln S b) := by rw [hn]; exact of_eq_true (vin (by omega) (by omega))
  have v2 : vp_in (nI (i + 2)) (ln S b) := by rw [hn]; exact of_eq_true (vin (by omega) (by omega))
  have v3 : vp_in (nI (i + 3)) (ln S b) := by rw [hn]; exact of_eq_true (vin (by omega) (by omega))
  have v4 : vp_in (nI (i + 4)) (ln S b) := by rw [hn]; exact of_eq_true (vin (by omega) (by omega))
  have v5 : vp_in (nI (i + 5)) (ln S b) := by rw [hn]; exact of_eq_true (vin (by omega) (by omega))
  simp (disch := first | assumption | exact cw0 | omega | (simp only [cw_nil, cw_int, cw_ref, cw_long]; omega) | decide) only [x_0_534, x_0_535, x_0_536, x_0_537, x_0_538, x_0_539, x_0_540, x_0_541, x_0_542, x_0_543, x_0_544, x_0_545, x_0_546, x_0_547, x_0_548, x_0_549, x_0_550, x_0_551, x_0_552, x_0_553, x_0_554, x_0_555, x_0_556, x_0_557, x_0_558, x_0_559, x_0_563, x_0_564, x_0_565, x_0_566, x_0_567, x_0_568, x_0_569, x_0_570, x_0_571, x_0_572, x_0_573, x_0_574, x_0_575, x_0_576, x_0_577, x_0_578, x_0_579, x_0_580, x_0_581, x_0_582, x_0_583, x_0_584, x_0_585, x_0_586, x_0_587, x_0_588, x_0_589, x_0_592, x_0_595, x_0_596, ↓reduceIte, va_rf_some, cw_nil, cw_int, cw_ref, cw_long, kl_int, kl_ref, kl_null, kl_long, kl_none, Option.toList_some, Option.toList_none, List.cons_append, List.nil_append, List.append_nil, nI_add, nI_clamp, nI_ltI, nI_leI, nI_eq, Nat.reduceLT, Nat.reduceLeDiff, Nat.reduceEqDiff, Nat.reduceAdd, Nat.reduceMul, Nat.reduceSub, if_true, if_false, not_true, not_false_eq_true, decide_true, decide_false, Nat.lt_irrefl, Nat.le_refl, Nat.not_lt_zero, Nat.zero_le, hs]
  rw [x_0_560 k0 (by simp only [cw_ref, cw_int, cw_long, cw_nil, Option.toList_some, List.cons_append, List.nil_append]; omega)]
  refine CA_mono (CA_rt (sim_feed d x b xs S I L R hI)) ?_
  rintro v S1 I1 L1 R1 ⟨⟨rfl, h1, h2⟩, hr, -⟩
  obtain ⟨u, rfl⟩ := hr (Or.inl ht_12)
  simp (disch := first | assumption | exact cw0 | omega | (simp only [cw_nil, cw_int, cw_ref, cw_long]; omega) | decide) only [x_0_534, x_0_535, x_0_536, x_0_537, x_0_538, x_0_539, x_0_540, x_0_541, x_0_542, x_0_543, x_0_544, x_0_545, x_0_546, x_0_547, x_0_548, x_0_549, x_0_550, x_0_551, x_0_552, x_0_553, x_0_554, x_0_555, x_0_556, x_0_557, x_0_558, x_0_559, x_0_563, x_0_564, x_0_565, x_0_566, x_0_567, x_0_568, x_0_569, x_0_570, x_0_571, x_0_572, x_0_573, x_0_574, x_0_575, x_0_576, x_0_577, x_0_578, x_0_579, x_0_580, x_0_581, x_0_582, x_0_583, x_0_584, x_0_585, x_0_586, x_0_587, x_0_588, x_0_592, x_0_595, x_0_596, ↓reduceIte, va_rf_some, cw_nil, cw_int, cw_ref, cw_long, kl_int, kl_ref, kl_null, kl_long, kl_none, Option.toList_some, Option.toList_none, List.cons_append, List.nil_append, List.append_nil, nI_add, nI_clamp, nI_ltI, nI_leI, nI_eq, Nat.reduceLT, Nat.reduceLeDiff, Nat.reduceEqDiff, Nat.reduceAdd, Nat.reduceMul, Nat.reduceSub, if_true, if_false, not_true, not_false_eq_true, decide_true, decide_false, Nat.lt_irrefl, Nat.le_refl, Nat.not_lt_zero, Nat.zero_le, h1]
  rw [x_0_589 k12 (by simp only [cw_ref, cw_int, cw_long, cw_nil, Option.toList_some, List.cons_append, List.nil_append]; omega)]
  refine CA_mono h2 ?_
  rintro w S2 I2 L2 R2 ⟨rfl, rfl, hI2⟩
  simp (disch := first | assumption | exact cw0 | omega | (simp only [cw_nil, cw_int, cw_ref, cw_long]; omega) | decide) only [x_0_534, x_0_535, x_0_536, x_0_537, x_0_538, x_0_539, x_0_540, x_0_541, x_0_542, x_0_543, x_0_544, x_0_545, x_0_546, x_0_547, x_0_548, x_0_549, x_0_550, x_0_551, x_0_552, x_0_553, x_0_554, x_0_555, x_0_556, x_0_557, x_0_558, x_0_559, x_0_563, x_0_564, x_0_565, x_0_566, x_0_567, x_0_568, x_0_569, x_0_570, x_0_571, x_0_572, x_0_573, x_0_574, x_0_575, x_0_576, x_0_577, x_0_578, x_0_579, x_0_580, x_0_581, x_0_582, x_0_583, x_0_584, x_0_585, x_0_586, x_0_587, x_0_588, x_0_592, x_0_595, x_0_596, ↓reduceIte, va_rf_some, cw_nil, cw_int, cw_ref, cw_long, kl_int, kl_ref, kl_null, kl_long, kl_none, Option.toList_some, Option.toList_none, List.cons_append, List.nil_append, List.append_nil, nI_add, nI_clamp, nI_ltI, nI_leI, nI_eq, Nat.reduceLT, Nat.reduceLeDiff, Nat.reduceEqDiff, Nat.reduceAdd, Nat.reduceMul, Nat.reduceSub, if_true, if_false, not_true, not_false_eq_true, decide_true, decide_false, Nat.lt_irrefl, Nat.le_refl, Nat.not_lt_zero, Nat.zero_le, eq_self]
  exact go I2 L2 R2 hI2
theorem lc_8 (hI : INV x b xs S I L R) (hb : kd S b = 110) (hn : ln S b = Lx) (hi : i + 6 ≤ Lx) (hL : Lx ≤ 384) (go : ∀ I' L' R', INV x b xs S I' L' R' → WP (d + 41, bc, bs) 0 2187 [some (.ref b), some (.ref x), some (.ref (x + 163)), some (.int (nI i))] [] S I' L' R' Q) : WP (d + 41, bc, bs) 0 597 [some (.ref b), some (.ref x), some (.ref (x + 163)), some (.int (nI i))] [] S I L R Q := by
  obtain ⟨A, hA⟩ := id hI
  have hs : I b = xs := hA.scr
  have k0 : kd S x = 0 := hA.c.k0
  have k12 : kd S (x + 163) = 12 := md_k hA.m
  have v1 : vp_in (nI (i + 1)) (ln S b) := by rw [hn]; exact of_eq_true (vin (by omega) (by omega))
  have v2 : vp_in (nI (i + 2)) (ln S b) := by rw [hn]; exact of_eq_true (vin (by omega) (by omega))
  have v3 : vp_in (nI (i + 3)) (ln S b) := by rw [hn]; exact of_eq_true (vin (by omega) (by omega))
  have v4 : vp_in (nI (i + 4)) (ln S b) := by rw [hn]; exact of_eq_true (vin (by omega) (by omega))
  have v5 : vp_in (nI (i + 5)) (ln S b) := by rw [hn]; exact of_eq_true (vin (by omega) (by omega))
  simp (disch := first | assumption | exact cw0 | omega | (simp only [cw_nil, cw_int, cw_ref, cw_long]; omega) | decide) only [x_0_597, x_0_598, x_0_599, x_0_600, x_0_601, x_0_602, x_0_606, x_0_607, x_0_608, x_0_609, x_0_610, x_0_611, x_0_612, x_0_615, x_0_618, x_0_619, ↓reduceIte, va_rf_some, cw_nil, cw_int, cw_ref, cw_long, kl_int, kl_ref, kl_null, kl_long, kl_none, Option.toList_some, Option.toList_none, List.cons_append, List.nil_append, List.append_nil, nI_add, nI_clamp, nI_ltI, nI_leI, nI_eq, Nat.reduceLT, Nat.reduceLeDiff, Nat.reduceEqDiff, Nat.reduceAdd, Nat.reduceMul, Nat.reduceSub, if_true, if_false, not_true, not_false_eq_true, decide_true, decide_false, Nat.lt_irrefl, Nat.le_refl, Nat.not_lt_zero, Nat.zero_le, hs]
  rw [x_0_603 k0 (by simp only [cw_ref, cw_int, cw_long, cw_nil, Option.toList_some, List.cons_append, List.nil_append]; omega)]
  refine CA_mono (CA_rt (sim_marsh d x b xs S I L R hI)) ?_
  rintro v S1 I1 L1 R1 ⟨⟨rfl, h1, h2⟩, hr, -⟩
  obtain ⟨u, rfl⟩ := hr (Or.inl ht_14)
  simp (disch := first | assumption | exact cw0 | omega | (simp only [cw_nil, cw_int, cw_ref, cw_long]; omega) | decide) only [x_0_597, x_0_598, x_0_599, x_0_600, x_0_601, x_0_602, x_0_606, x_0_607, x_0_608, x_0_609, x_0_610, x_0_611, x_0_615, x_0_618, x_0_619, ↓reduceIte, va_rf_some, cw_nil, cw_int, cw_ref, cw_long, kl_int, kl_ref, kl_null, kl_long, kl_none, Option.toList_some, Option.toList_none, List.cons_append, List.nil_append, List.append_nil, nI_add, nI_clamp, nI_ltI, nI_leI, nI_eq, Nat.reduceLT, Nat.reduceLeDiff, Nat.reduceEqDiff, Nat.reduceAdd, Nat.reduceMul, Nat.reduceSub, if_true, if_false, not_true, not_false_eq_true, decide_true, decide_false, Nat.lt_irrefl, Nat.le_refl, Nat.not_lt_zero, Nat.zero_le, h1]
  rw [x_0_612 k12 (by simp only [cw_ref, cw_int, cw_long, cw_nil, Option.toList_some, List.cons_append, List.nil_append]; omega)]
  refine CA_mono h2 ?_
  rintro w S2 I2 L2 R2 ⟨rfl, rfl, hI2⟩
  simp (disch := first | assumption | exact cw0 | omega | (simp only [cw_nil, cw_int, cw_ref, cw_long]; omega) | decide) only [x_0_597, x_0_598, x_0_599, x_0_600, x_0_601, x_0_602, x_0_606, x_0_607, x_0_608, x_0_609, x_0_610, x_0_611, x_0_615, x_0_618, x_0_619, ↓reduceIte, va_rf_some, cw_nil, cw_int, cw_ref, cw_long, kl_int, kl_ref, kl_null, kl_long, kl_none, Option.toList_some, Option.toList_none, List.cons_append, List.nil_append, List.append_nil, nI_add, nI_clamp, nI_ltI, nI_leI, nI_eq, Nat.reduceLT, Nat.reduceLeDiff, Nat.reduceEqDiff, Nat.reduceAdd, Nat.reduceMul, Nat.reduceSub, if_true, if_false, not_true, not_false_eq_true, decide_true, decide_false, Nat.lt_irrefl, Nat.le_refl, Nat.not_lt_zero, Nat.zero_le, eq_self]
  exact go I2 L2 R2 hI2
theorem lc_9 (hI : INV x b xs S I L R) (hb : kd S b = 110) (hn : ln S b = Lx) (hi : i + 6 ≤ Lx) (hL : Lx ≤ 384) (go : ∀ I' L' R', INV x b xs S I' L' R' → WP (d + 41, bc, bs) 0 2187 [some (.ref b), some (.ref x), some (.ref (x + 163)), some (.int (nI i))] [] S I' L' R' Q) : WP (d + 41, bc, bs) 0 620 [some (.ref b), some (.ref x), some (.ref (x + 163)), some (.int (nI i))] [] S I L R Q := by
  obtain ⟨A, hA⟩ := id hI
  have hs : I b = xs := hA.scr
  have k0 : kd S x = 0 := hA.c.k0
  have k12 : kd S (x + 163) = 12 := md_k hA.m
  have v1 : vp_in (nI (i + 1)) (ln S b) := by rw [hn]; exact of_eq_true (vin (by omega) (by omega))
  have v2 : vp_in (nI (i + 2)) (ln S b) := by rw [hn]; exact of_eq_true (vin (by omega) (by omega))
  have v3 : vp_in (nI (i + 3)) (ln S b) := by rw [hn]; exact of_eq_true (vin (by omega) (by omega))
  have v4 : vp_in (nI (i + 4)) (ln S b) := by rw [hn]; exact of_eq_true (vin (by omega) (by omega))
  have v5 : vp_in (nI (i + 5)) (ln S b) := by rw [hn]; exact of_eq_true (vin (by omega) (by omega))
  simp (disch := first | assumption | exact cw0 | omega | (simp only [cw_nil, cw_int, cw_ref, cw_long]; omega) | decide) only [x_0_620, x_0_621, x_0_622, x_0_623, x_0_624, x_0_625, x_0_629, x_0_630, x_0_631, x_0_632, x_0_633, x_0_634, x_0_635, x_0_638, x_0_641, x_0_642, ↓reduceIte, va_rf_some, cw_nil, cw_int, cw_ref, cw_long, kl_int, kl_ref, kl_null, kl_long, kl_none, Option.toList_some, Option.toList_none, List.cons_append, List.nil_append, List.append_nil, nI_add, nI_clamp, nI_ltI, nI_leI, nI_eq, Nat.reduceLT, Nat.reduceLeDiff, Nat.reduceEqDiff, Nat.reduceAdd, Nat.reduceMul, Nat.reduceSub, if_true, if_false, not_true, not_false_eq_true, decide_true, decide_false, Nat.lt_irrefl, Nat.le_refl, Nat.not_lt_zero, Nat.zero_le, hs]
  rw [x_0_626 k0 (by simp only [cw_ref, cw_int, cw_long, cw_nil, Option.toList_some, List.cons_append, List.nil_append]; omega)]
  refine CA_mono (CA_rt (sim_mornings d x b xs S I L R hI)) ?_
  rintro v S1 I1 L1 R1 ⟨⟨rfl, h1, h2⟩, hr, -⟩
  obtain ⟨u, rfl⟩ := hr (Or.inl ht_17)
  simp (disch := first | assumption | exact cw0 | omega | (simp only [cw_nil, cw_int, cw_ref, cw_long]; omega) | decide) only [x_0_620, x_0_621, x_0_622, x_0_623, x_0_624, x_0_625, x_0_629, x_0_630, x_0_631, x_0_632, x_0_633, x_0_634, x_0_638, x_0_641, x_0_642, ↓reduceIte, va_rf_some, cw_nil, cw_int, cw_ref, cw_long, kl_int, kl_ref, kl_null, kl_long, kl_none, Option.toList_some, Option.toList_none, List.cons_append, List.nil_append, List.append_nil, nI_add, nI_clamp, nI_ltI, nI_leI, nI_eq, Nat.reduceLT, Nat.reduceLeDiff, Nat.reduceEqDiff, Nat.reduceAdd, Nat.reduceMul, Nat.reduceSub, if_true, if_false, not_true, not_false_eq_true, decide_true, decide_false, Nat.lt_irrefl, Nat.le_refl, Nat.not_lt_zero, Nat.zero_le, h1]
  rw [x_0_635 k12 (by simp only [cw_ref, cw_int, cw_long, cw_nil, Option.toList_some, List.cons_append, List.nil_append]; omega)]
  refine CA_mono h2 ?_
  rintro w S2 I2 L2 R2 ⟨rfl, rfl, hI2⟩
  simp (disch := first | assumption | exact cw0 | omega | (simp only [cw_nil, cw_int, cw_ref, cw_long]; omega) | decide) only [x_0_620, x_0_621, x_0_622, x_0_623, x_0_624, x_0_625, x_0_629, x_0_630, x_0_631, x_0_632, x_0_633, x_0_634, x_0_638, x_0_641, x_0_642, ↓reduceIte, va_rf_some, cw_nil, cw_int, cw_ref, cw_long, kl_int, kl_ref, kl_null, kl_long, kl_none, Option.toList_some, Option.toList_none, List.cons_append, List.nil_append, List.append_nil, nI_add, nI_clamp, nI_ltI, nI_leI, nI_eq, Nat.reduceLT, Nat.reduceLeDiff, Nat.reduceEqDiff, Nat.reduceAdd, Nat.reduceMul, Nat.reduceSub, if_true, if_false, not_true, not_false_eq_true, decide_true, decide_false, Nat.lt_irrefl, Nat.le_refl, Nat.not_lt_zero, Nat.zero_le, eq_self]
  exact go I2 L2 R2 hI2
theorem lc_10 (hI : INV x b xs S I L R) (hb : kd S b = 110) (hn : ln S b = Lx) (hi : i + 6 ≤ Lx) (hL : Lx ≤ 384) (go : ∀ I' L' R', INV x b xs S I' L' R' → WP (d + 41, bc, bs) 0 2187 [some (.ref b), some (.ref x), some (.ref (x + 163)), some (.int (nI i))] [] S I' L' R' Q) : WP (d + 41, bc, bs) 0 643 [some (.ref b), some (.ref x), some (.ref (x + 163)), some (.int (nI i))] [] S I L R Q := by
  obtain ⟨A, hA⟩ := id hI
  have hs : I b = xs := hA.scr
  have k0 : kd S x = 0 := hA.c.k0
  have k12 : kd S (x + 163) = 12 := md_k hA.m
  have v1 : vp_in (nI (i + 1)) (ln S b) := by rw [hn]; exact of_eq_true (vin (by omega) (by omega))
  have v2 : vp_in (nI (i + 2)) (ln S b) := by rw [hn]; exact of_eq_true (vin (by omega) (by omega))
  have v3 : vp_in (nI (i + 3)) (ln S b) := by rw [hn]; exact of_eq_true (vin (by omega) (by omega))
  have v4 : vp_in (nI (i + 4)) (ln S b) := by rw [hn]; exact of_eq_true (vin (by omega) (by omega))
  have v5 : vp_in (nI (i + 5)) (ln S b) := by rw [hn]; exact of_eq_true (vin (by omega) (by omega))
  simp (disch := first | assumption | exact cw0 | omega | (simp only [cw_nil, cw_int, cw_ref, cw_long]; omega) | decide) only [x_0_643, x_0_644, x_0_645, x_0_646, x_0_647, x_0_648, x_0_652, x_0_653, x_0_654, x_0_655, x_0_656, x_0_657, x_0_658, x_0_661, x_0_664, x_0_665, ↓reduceIte, va_rf_some, cw_nil, cw_int, cw_ref, cw_long, kl_int, kl_ref, kl_null, kl_long, kl_none, Option.toList_some, Option.toList_none, List.cons_append, List.nil_append, List.append_nil, nI_add, nI_clamp, nI_ltI, nI_leI, nI_eq, Nat.reduceLT, Nat.reduceLeDiff, Nat.reduceEqDiff, Nat.reduceAdd, Nat.reduceMul, Nat.reduceSub, if_true, if_false, not_true, not_false_eq_true, decide_true, decide_false, Nat.lt_irrefl, Nat.le_refl, Nat.not_lt_zero, Nat.zero_le, hs]
  rw [x_0_649 k0 (by simp only [cw_ref, cw_int, cw_long, cw_nil, Option.toList_some, List.cons_append, List.nil_append]; omega)]
  refine CA_mono (CA_rt (sim_fault d x b xs S I L R hI)) ?_
  rintro v S1 I1 L1 R1 ⟨⟨rfl, h1, h2⟩, hr, -⟩
  obtain ⟨u, rfl⟩ := hr (Or.inl ht_18)
  simp (disch := first | assumption | exact cw0 | omega | (simp only [cw_nil, cw_int, cw_ref, cw_long]; omega) | decide) only [x_0_643, x_0_644, x_0_645, x_0_646, x_0_647, x_0_648, x_0_652, x_0_653, x_0_654, x_0_655, x_0_656, x_0_657, x_0_661, x_0_664, x_0_665, ↓reduceIte, va_rf_some, cw_nil, cw_int, cw_ref, cw_long, kl_int, kl_ref, kl_null, kl_long, kl_none, Option.toList_some, Option.toList_none, List.cons_append, List.nil_append, List.append_nil, nI_add, nI_clamp, nI_ltI, nI_leI, nI_eq, Nat.reduceLT, Nat.reduceLeDiff, Nat.reduceEqDiff, Nat.reduceAdd, Nat.reduceMul, Nat.reduceSub, if_true, if_false, not_true, not_false_eq_true, decide_true, decide_false, Nat.lt_irrefl, Nat.le_refl, Nat.not_lt_zero, Nat.zero_le, h1]
  rw [x_0_658 k12 (by simp only [cw_ref, cw_int, cw_long, cw_nil, Option.toList_some, List.cons_append, List.nil_append]; omega)]
  refine CA_mono h2 ?_
  rintro w S2 I2 L2 R2 ⟨rfl, rfl, hI2⟩
  simp (disch := first | assumption | exact cw0 | omega | (simp only [cw_nil, cw_int, cw_ref, cw_long]; omega) | decide) only [x_0_643, x_0_644, x_0_645, x_0_646, x_0_647, x_0_648, x_0_652, x_0_653, x_0_654, x_0_655, x_0_656, x_0_657, x_0_661, x_0_664, x_0_665, ↓reduceIte, va_rf_some, cw_nil, cw_int, cw_ref, cw_long, kl_int, kl_ref, kl_null, kl_long, kl_none, Option.toList_some, Option.toList_none, List.cons_append, List.nil_append, List.append_nil, nI_add, nI_clamp, nI_ltI, nI_leI, nI_eq, Nat.reduceLT, Nat.reduceLeDiff, Nat.reduceEqDiff, Nat.reduceAdd, Nat.reduceMul, Nat.reduceSub, if_true, if_false, not_true, not_false_eq_true, decide_true, decide_false, Nat.lt_irrefl, Nat.le_refl, Nat.not_lt_zero, Nat.zero_le, eq_self]
  exact go I2 L2 R2 hI2
theorem lc_11 (hI : INV x b xs S I L R) (hb : kd S b = 110) (hn : ln S b = Lx) (hi : i + 6 ≤ Lx) (hL : Lx ≤ 384) (go : ∀ I' L' R', INV x b xs S I' L' R' → WP (d + 41, bc, bs) 0 2187 [some (.ref b), some (.ref x), some (.ref (x + 163)), some (.int (nI i))] [] S I' L' R' Q) : WP (d + 41, bc, bs) 0 666 [some (.ref b), some (.ref x), some (.ref (x + 163)), some (.int (nI i))] [] S I L R Q := by
  obtain ⟨A, hA⟩ := id hI
  have hs : I b = xs := hA.scr
  have k0 : kd S x = 0 := hA.c.k0
  have k12 : kd S (x + 163) = 12 := md_k hA.m
  have v1 : vp_in (nI (i + 1)) (ln S b) := by rw [hn]; exact of_eq_true (vin (by omega) (by omega))
  have v2 : vp_in (nI (i + 2)) (ln S b) := by rw [hn]; exact of_eq_true (vin (by omega) (by omega))
  have v3 : vp_in (nI (i + 3)) (ln S b) := by rw [hn]; exact of_eq_true (vin (by omega) (by omega))
  have v4 : vp_in (nI (i + 4)) (ln S b) := by rw [hn]; exact of_eq_true (vin (by omega) (by omega))
  have v5 : vp_in (nI (i + 5)) (ln S b) := by rw [hn]; exact of_eq_true (vin (by omega) (by omega))
  simp (disch := first | assumption | exact cw0 | omega | (simp only [cw_nil, cw_int, cw_ref, cw_long]; omega) | decide) only [x_0_666, x_0_667, x_0_668, x_0_669, x_0_670, x_0_671, x_0_675, x_0_676, x_0_677, x_0_678, x_0_679, x_0_680, x_0_681, x_0_684, x_0_687, x_0_688, ↓reduceIte, va_rf_some, cw_nil, cw_int, cw_ref, cw_long, kl_int, kl_ref, kl_null, kl_long, kl_none, Option.toList_some, Option.toList_none, List.cons_append, List.nil_append, List.append_nil, nI_add, nI_clamp, nI_ltI, nI_leI, nI_eq, Nat.reduceLT, Nat.reduceLeDiff, Nat.reduceEqDiff, Nat.reduceAdd, Nat.reduceMul, Nat.reduceSub, if_true, if_false, not_true, not_false_eq_true, decide_true, decide_false, Nat.lt_irrefl, Nat.le_refl, Nat.not_lt_zero, Nat.zero_le, hs]
  rw [x_0_672 k0 (by simp only [cw_ref, cw_int, cw_long, cw_nil, Option.toList_some, List.cons_append, List.nil_append]; omega)]
  refine CA_mono (CA_rt (sim_told d x b xs S I L R hI)) ?_
  rintro v S1 I1 L1 R1 ⟨⟨rfl, h1, h2⟩, hr, -⟩
  obtain ⟨u, rfl⟩ := hr (Or.inl ht_19)
  simp (disch := first | assumption | exact cw0 | omega | (simp only [cw_nil, cw_int, cw_ref, cw_long]; omega) | decide) only [x_0_666, x_0_667, x_0_668, x_0_669, x_0_670, x_0_671, x_0_675, x_0_676, x_0_677, x_0_678, x_0_679, x_0_680, x_0_684, x_0_687, x_0_688, ↓reduceIte, va_rf_some, cw_nil, cw_int, cw_ref, cw_long, kl_int, kl_ref, kl_null, kl_long, kl_none, Option.toList_some, Option.toList_none, List.cons_append, List.nil_append, List.append_nil, nI_add, nI_clamp, nI_ltI, nI_leI, nI_eq, Nat.reduceLT, Nat.reduceLeDiff, Nat.reduceEqDiff, Nat.reduceAdd, Nat.reduceMul, Nat.reduceSub, if_true, if_false, not_true, not_false_eq_true, decide_true, decide_false, Nat.lt_irrefl, Nat.le_refl, Nat.not_lt_zero, Nat.zero_le, h1]
  rw [x_0_681 k12 (by simp only [cw_ref, cw_int, cw_long, cw_nil, Option.toList_some, List.cons_append, List.nil_append]; omega)]
  refine CA_mono h2 ?_
  rintro w S2 I2 L2 R2 ⟨rfl, rfl, hI2⟩
  simp (disch := first | assumption | exact cw0 | omega | (simp only [cw_nil, cw_int, cw_ref, cw_long]; omega) | decide) only [x_0_666, x_0_667, x_0_668, x_0_669, x_0_670, x_0_671, x_0_675, x_0_676, x_0_677, x_0_678, x_0_679, x_0_680, x_0_684, x_0_687, x_0_688, ↓reduceIte, va_rf_some, cw_nil, cw_int, cw_ref, cw_long, kl_int, kl_ref, kl_null, kl_long, kl_none, Option.toList_some, Option.toList_none, List.cons_append, List.nil_append, List.append_nil, nI_add, nI_clamp, nI_ltI, nI_leI, nI_eq, Nat.reduceLT, Nat.reduceLeDiff, Nat.reduceEqDiff, Nat.reduceAdd, Nat.reduceMul, Nat.reduceSub, if_true, if_false, not_true, not_false_eq_true, decide_true, decide_false, Nat.lt_irrefl, Nat.le_refl, Nat.not_lt_zero, Nat.zero_le, eq_self]
  exact go I2 L2 R2 hI2
theorem lc_12 (hI : INV x b xs S I L R) (hb : kd S b = 110) (hn : ln S b = Lx) (hi : i + 6 ≤ Lx) (hL : Lx ≤ 384) (go : ∀ I' L' R', INV x b xs S I' L' R' → WP (d + 41, bc, bs) 0 2187 [some (.ref b), some (.ref x), some (.ref (x + 163)), some (.int (nI i))] [] S I' L' R' Q) : WP (d + 41, bc, bs) 0 689 [some (.ref b), some (.ref x), some (.ref (x + 163)), some (.int (nI i))] [] S I L R Q := by
  obtain ⟨A, hA⟩ := id hI
  have hs : I b = xs := hA.scr
  have k0 : kd S x = 0 := hA.c.k0
  have k12 : kd S (x + 163) = 12 := md_k hA.m
  have v1 : vp_in (nI (i + 1)) (ln S b) := by rw [hn]; exact of_eq_true (vin (by omega) (by omega))
  have v2 : vp_in (nI (i + 2)) (ln S b) := by rw [hn]; exact of_eq_true (vin (by omega) (by omega))
  have v3 : vp_in (nI (i + 3)) (ln S b) := by rw [hn]; exact of_eq_true (vin (by omega) (by omega))
  have v4 : vp_in (nI (i + 4)) (ln S b) := by rw [hn]; exact of_eq_true (vin (by omega) (by omega))
  have v5 : vp_in (nI (i + 5)) (ln S b) := by rw [hn]; exact of_eq_true (vin (by omega) (by omega))
  simp (disch := first | assumption | exact cw0 | omega | (simp only [cw_nil, cw_int, cw_ref, cw_long]; omega) | decide) only [x_0_689, x_0_690, x_0_691, x_0_692, x_0_693, x_0_694, x_0_695, x_0_696, x_0_697, x_0_698, x_0_699, x_0_700, x_0_701, x_0_702, x_0_703, x_0_704, x_0_708, x_0_709, x_0_710, x_0_711, x_0_712, x_0_713, x_0_714, x_0_715, x_0_716, x_0_717, x_0_718, x_0_719, x_0_720, x_0_721, x_0_722, x_0_723, x_0_724, x_0_727, x_0_730, x_0_731, ↓reduceIte, va_rf_some, cw_nil, cw_int, cw_ref, cw_long, kl_int, kl_ref, kl_null, kl_long, kl_none, Option.toList_some, Option.toList_none, List.cons_append, List.nil_append, List.append_nil, nI_add, nI_clamp, nI_ltI, nI_leI, nI_eq, Nat.reduceLT, Nat.reduceLeDiff, Nat.reduceEqDiff, Nat.reduceAdd, Nat.reduceMul, Nat.reduceSub, if_true, if_false, not_true, not_false_eq_true, decide_true, decide_false, Nat.lt_irrefl, Nat.le_refl, Nat.not_lt_zero, Nat.zero_le, hs]
  rw [x_0_705 k0 (by simp only [cw_ref, cw_int, cw_long, cw_nil, Option.toList_some, List.cons_append, List.nil_append]; omega)]
  refine CA_mono (CA_rt (sim_cell d x b xs S I L R hI)) ?_
  rintro v S1 I1 L1 R1 ⟨⟨rfl, h1, h2⟩, hr, -⟩
  obtain ⟨u, rfl⟩ := hr (Or.inl ht_20)
  simp (disch := first | assumption | exact cw0 | omega | (simp only [cw_nil, cw_int, cw_ref, cw_long]; omega) | decide) only [x_0_689, x_0_690, x_0_691, x_0_692, x_0_693, x_0_694, x_0_695, x_0_696, x_0_697, x_0_698, x_0_699, x_0_700, x_0_701, x_0_702, x_0_703, x_0_704, x_0_708, x_0_709, x_0_710, x_0_711, x_0_712, x_0_713, x_0_714, x_0_715, x_0_716, x_0_717, x_0_718, x_0_719, x_0_720, x_0_721, x_0_722, x_0_723, x_0_727, x_0_730, x_0_731, ↓reduceIte, va_rf_some, cw_nil, cw_int, cw_ref, cw_long, kl_int, kl_ref, kl_null, kl_long, kl_none, Option.toList_some, Option.toList_none, List.cons_append, List.nil_append, List.append_nil, nI_add, nI_clamp, nI_ltI, nI_leI, nI_eq, Nat.reduceLT, Nat.reduceLeDiff, Nat.reduceEqDiff, Nat.reduceAdd, Nat.reduceMul, Nat.reduceSub, if_true, if_false, not_true, not_false_eq_true, decide_true, decide_false, Nat.lt_irrefl, Nat.le_refl, Nat.not_lt_zero, Nat.zero_le, h1]
  rw [x_0_724 k12 (by simp only [cw_ref, cw_int, cw_long, cw_nil, Option.toList_some, List.cons_append, List.nil_append]; omega)]
  refine CA_mono h2 ?_
  rintro w S2 I2 L2 R2 ⟨rfl, rfl, hI2⟩
  simp (disch := first | assumption | exact cw0 | omega | (simp only [cw_nil, cw_int, cw_ref, cw_long]; omega) | decide) only [x_0_689, x_0_690, x_0_691, x_0_692, x_0_693, x_0_694, x_0_695, x_0_696, x_0_697, x_0_698, x_0_699, x_0_700, x_0_701, x_0_702, x_0_703, x_0_704, x_0_708, x_0_709, x_0_710, x_0_711, x_0_712, x_0_713, x_0_714, x_0_715, x_0_716, x_0_717, x_0_718, x_0_719, x_0_720, x_0_721, x_0_722, x_0_723, x_0_727, x_0_730, x_0_731, ↓reduceIte, va_rf_some, cw_nil, cw_int, cw_ref, cw_long, kl_int, kl_ref, kl_null, kl_long, kl_none, Option.toList_some, Option.toList_none, List.cons_append, List.nil_append, List.append_nil, nI_add, nI_clamp, nI_ltI, nI_leI, nI_eq, Nat.reduceLT, Nat.reduceLeDiff, Nat.reduceEqDiff, Nat.reduceAdd, Nat.reduceMul, Nat.reduceSub, if_true, if_false, not_true, not_false_eq_true, decide_true, decide_false, Nat.lt_irrefl, Nat.le_refl, Nat.not_lt_zero, Nat.zero_le, eq_self]
  exact go I2 L2 R2 hI2
theorem lc_13 (hI : INV x b xs S I L R) (hb : kd S b = 110) (hn : ln S b = Lx) (hi : i + 6 ≤ Lx) (hL : Lx ≤ 384) (go : ∀ I' L' R', INV x b xs S I' L' R' → WP (d + 41, bc, bs) 0 2187 [some (.ref b), some (.ref x), some (.ref (x + 163)), some (.int (nI i))] [] S I' L' R' Q) : WP (d + 41, bc, bs) 0 732 [some (.ref b), some (.ref x), some (.ref (x + 163)), some (.int (nI i))] [] S I L R Q := by
  obtain ⟨A, hA⟩ := id hI
  have hs : I b = xs := hA.scr
  have k0 : kd S x = 0 := hA.c.k0
  have k12 : kd S (x + 163) = 12 := md_k hA.m
  have v1 : vp_in (nI (i + 1)) (ln S b) := by rw [hn]; exact of_eq_true (vin (by omega) (by omega))
  have v2 : vp_in (nI (i + 2)) (ln S b) := by rw [hn]; exact of_eq_true (vin (by omega) (by omega))
  have v3 : vp_in (nI (i + 3)) (ln S b) := by rw [hn]; exact of_eq_true (vin (by omega) (by omega))
  have v4 : vp_in (nI (i + 4)) (ln S b) := by rw [hn]; exact of_eq_true (vin (by omega) (by omega))
  have v5 : vp_in (nI (i + 5)) (ln S b) := by rw [hn]; exact of_eq_true (vin (by omega) (by omega))
  simp (disch := first | assumption | exact cw0 | omega | (simp only [cw_nil, cw_int, cw_ref, cw_long]; omega) | decide) only [x_0_732, x_0_733, x_0_734, x_0_735, x_0_736, x_0_737, x_0_738, x_0_739, x_0_740, x_0_741, x_0_742, x_0_746, x_0_747, x_0_748, x_0_749, x_0_750, x_0_751, x_0_752, x_0_753, x_0_754, x_0_755, x_0_756, x_0_757, x_0_760, x_0_763, x_0_764, ↓reduceIte, va_rf_some, cw_nil, cw_int, cw_ref, cw_long, kl_int, kl_ref, kl_null, kl_long, kl_none, Option.toList_some, Option.toList_none, List.cons_append, List.nil_append, List.append_nil, nI_add, nI_clamp, nI_ltI, nI_leI, nI_eq, Nat.reduceLT, Nat.reduceLeDiff, Nat.reduceEqDiff, Nat.reduceAdd, Nat.reduceMul, Nat.reduceSub, if_true, if_false, not_true, not_false_eq_true, decide_true, decide_false, Nat.lt_irrefl, Nat.le_refl, Nat.not_lt_zero, Nat.zero_le, hs]
  rw [x_0_743 k0 (by simp only [cw_ref, cw_int, cw_long, cw_nil, Option.toList_some, List.cons_append, List.nil_append]; omega)]
  refine CA_mono (CA_rt (sim_walker d x b xs S I L R hI)) ?_
  rintro v S1 I1 L1 R1 ⟨⟨rfl, h1, h2⟩, hr, -⟩
  obtain ⟨u, rfl⟩ := hr (Or.inl ht_21)
  simp (disch := first | assumption | exact cw0 | omega | (simp only [cw_nil, cw_int, cw_ref, cw_long]; omega) | decide) only [x_0_732, x_0_733, x_0_734, x_0_735, x_0_736, x_0_737, x_0_738, x_0_739, x_0_740, x_0_741, x_0_742, x_0_746, x_0_747, x_0_748, x_0_749, x_0_750, x_0_751, x_0_752, x_0_753, x_0_754, x_0_755, x_0_756, x_0_760, x_0_763, x_0_764, ↓reduceIte, va_rf_some, cw_nil, cw_int, cw_ref, cw_long, kl_int, kl_ref, kl_null, kl_long, kl_none, Option.toList_some, Option.toList_none, List.cons_append, List.nil_append, List.append_nil, nI_add, nI_clamp, nI_ltI, nI_leI, nI_eq, Nat.reduceLT, Nat.reduceLeDiff, Nat.reduceEqDiff, Nat.reduceAdd, Nat.reduceMul, Nat.reduceSub, if_true, if_false, not_true, not_false_eq_true, decide_true, decide_false, Nat.lt_irrefl, Nat.le_refl, Nat.not_lt_zero, Nat.zero_le, h1]
  rw [x_0_757 k12 (by simp only [cw_ref, cw_int, cw_long, cw_nil, Option.toList_some, List.cons_append, List.nil_append]; omega)]
  refine CA_mono h2 ?_
  rintro w S2 I2 L2 R2 ⟨rfl, rfl, hI2⟩
  simp (disch := first | assumption | exact cw0 | omega | (simp only [cw_nil, cw_int, cw_ref, cw_long]; omega) | decide) only [x_0_732, x_0_733, x_0_734, x_0_735, x_0_736, x_0_737, x_0_738, x_0_739, x_0_740, x_0_741, x_0_742, x_0_746, x_0_747, x_0_748, x_0_749, x_0_750, x_0_751, x_0_752, x_0_753, x_0_754, x_0_755, x_0_756, x_0_760, x_0_763, x_0_764, ↓reduceIte, va_rf_some, cw_nil, cw_int, cw_ref, cw_long, kl_int, kl_ref, kl_null, kl_long, kl_none, Option.toList_some, Option.toList_none, List.cons_append, List.nil_append, List.append_nil, nI_add, nI_clamp, nI_ltI, nI_leI, nI_eq, Nat.reduceLT, Nat.reduceLeDiff, Nat.reduceEqDiff, Nat.reduceAdd, Nat.reduceMul, Nat.reduceSub, if_true, if_false, not_true, not_false_eq_true, decide_true, decide_false, Nat.lt_irrefl, Nat.le_refl, Nat.not_lt_zero, Nat.zero_le, eq_self]
  exact go I2 L2 R2 hI2
theorem lc_14 (hI : INV x b xs S I L R) (hb : kd S b = 110) (hn : ln S b = Lx) (hi : i + 6 ≤ Lx) (hL : Lx ≤ 384) (go : ∀ I' L' R', INV x b xs S I' L' R' → WP (d + 41, bc, bs) 0 2187 [some (.ref b), some (.ref x), some (.ref (x + 163)), some (.int (nI i))] [] S I' L' R' Q) : WP (d + 41, bc, bs) 0 765 [some (.ref b), some (.ref x), some (.ref (x + 163)), some (.int (nI i))] [] S I L R Q := by
  obtain ⟨A, hA⟩ := id hI
  have hs : I b = xs := hA.scr
  have k0 : kd S x = 0 := hA.c.k0
  have k12 : kd S (x + 163) = 12 := md_k hA.m
  have v1 : vp_in (nI (i + 1)) (ln S b) := by rw [hn]; exact of_eq_true (vin (by omega) (by omega))
  have v2 : vp_in (nI (i + 2)) (ln S b) := by rw [hn]; exact of_eq_true (vin (by omega) (by omega))
  have v3 : vp_in (nI (i + 3)) (ln S b) := by rw [hn]; exact of_eq_true (vin (by omega) (by omega))
  have v4 : vp_in (nI (i + 4)) (ln S b) := by rw [hn]; exact of_eq_true (vin (by omega) (by omega))
  have v5 : vp_in (nI (i + 5)) (ln S b) := by rw [hn]; exact of_eq_true (vin (by omega) (by omega))
  simp (disch := first | assumption | exact cw0 | omega | (simp only [cw_nil, cw_int, cw_ref, cw_long]; omega) | decide) only [x_0_765, x_0_766, x_0_767, x_0_768, x_0_769, x_0_770, x_0_771, x_0_772, x_0_773, x_0_774, x_0_775, x_0_776, x_0_777, x_0_778, x_0_779, x_0_780, x_0_784, x_0_785, x_0_786, x_0_787, x_0_788, x_0_789, x_0_790, x_0_791, x_0_792, x_0_793, x_0_794, x_0_795, x_0_796, x_0_797, x_0_798, x_0_799, x_0_800, x_0_803, x_0_806, x_0_807, ↓reduceIte, va_rf_some, cw_nil, cw_int, cw_ref, cw_long, kl_int, kl_ref, kl_null, kl_long, kl_none, Option.toList_some, Option.toList_none, List.cons_append, List.nil_append, List.append_nil, nI_add, nI_clamp, nI_ltI, nI_leI, nI_eq, Nat.reduceLT, Nat.reduceLeDiff, Nat.reduceEqDiff, Nat.reduceAdd, Nat.reduceMul, Nat.reduceSub, if_true, if_false, not_true, not_false_eq_true, decide_true, decide_false, Nat.lt_irrefl, Nat.le_refl, Nat.not_lt_zero, Nat.zero_le, hs]
  rw [x_0_781 k0 (by simp only [cw_ref, cw_int, cw_long, cw_nil, Option.toList_some, List.cons_append, List.nil_append]; omega)]
  refine CA_mono (CA_rt (sim_pole d x b xs S I L R hI)) ?_
  rintro v S1 I1 L1 R1 ⟨⟨rfl, h1, h2⟩, hr, -⟩
  obtain ⟨u, rfl⟩ := hr (Or.inl ht_22)
  simp (disch := first | assumption | exact cw0 | omega | (simp only [cw_nil, cw_int, cw_ref, cw_long]; omega) | decide) only [x_0_765, x_0_766, x_0_767, x_0_768, x_0_769, x_0_770, x_0_771, x_0_772, x_0_773, x_0_774, x_0_775, x_0_776, x_0_777, x_0_778, x_0_779, x_0_780, x_0_784, x_0_785, x_0_786, x_0_787, x_0_788, x_0_789, x_0_790, x_0_791, x_0_792, x_0_793, x_0_794, x_0_795, x_0_796, x_0_797, x_0_798, x_0_799, x_0_803, x_0_806, x_0_807, ↓reduceIte, va_rf_some, cw_nil, cw_int, cw_ref, cw_long, kl_int, kl_ref, kl_null, kl_long, kl_none, Option.toList_some, Option.toList_none, List.cons_append, List.nil_append, List.append_nil, nI_add, nI_clamp, nI_ltI, nI_leI, nI_eq, Nat.reduceLT, Nat.reduceLeDiff, Nat.reduceEqDiff, Nat.reduceAdd, Nat.reduceMul, Nat.reduceSub, if_true, if_false, not_true, not_false_eq_true, decide_true, decide_false, Nat.lt_irrefl, Nat.le_refl, Nat.not_lt_zero, Nat.zero_le, h1]
  rw [x_0_800 k12 (by simp only [cw_ref, cw_int, cw_long, cw_nil, Option.toList_some, List.cons_append, List.nil_append]; omega)]
  refine CA_mono h2 ?_
  rintro w S2 I2 L2 R2 ⟨rfl, rfl, hI2⟩
  simp (disch := first | assumption | exact cw0 | omega | (simp only [cw_nil, cw_int, cw_ref, cw_long]; omega) | decide) only [x_0_765, x_0_766, x_0_767, x_0_768, x_0_769, x_0_770, x_0_771, x_0_772, x_0_773, x_0_774, x_0_775, x_0_776, x_0_777, x_0_778, x_0_779, x_0_780, x_0_784, x_0_785, x_0_786, x_0_787, x_0_788, x_0_789, x_0_790, x_0_791, x_0_792, x_0_793, x_0_794, x_0_795, x_0_796, x_0_797, x_0_798, x_0_799, x_0_803, x_0_806, x_0_807, ↓reduceIte, va_rf_some, cw_nil, cw_int, cw_ref, cw_long, kl_int, kl_ref, kl_null, kl_long, kl_none, Option.toList_some, Option.toList_none, List.cons_append, List.nil_append, List.append_nil, nI_add, nI_clamp, nI_ltI, nI_leI, nI_eq, Nat.reduceLT, Nat.reduceLeDiff, Nat.reduceEqDiff, Nat.reduceAdd, Nat.reduceMul, Nat.reduceSub, if_true, if_false, not_true, not_false_eq_true, decide_true, decide_false, Nat.lt_irrefl, Nat.le_refl, Nat.not_lt_zero, Nat.zero_le, eq_self]
  exact go I2 L2 R2 hI2
theorem lc_15 (hI : INV x b xs S I L R) (hb : kd S b = 110) (hn : ln S b = Lx) (hi : i + 6 ≤ Lx) (hL : Lx ≤ 384) (go : ∀ I' L' R', INV x b xs S I' L' R' → WP (d + 41, bc, bs) 0 2187 [some (.ref b), some (.ref x), some (.ref (x + 163)), some (.int (nI i))] [] S I' L' R' Q) : WP (d + 41, bc, bs) 0 808 [some (.ref b), some (.ref x), some (.ref (x + 163)), some (.int (nI i))] [] S I L R Q := by
  obtain ⟨A, hA⟩ := id hI
  have hs : I b = xs := hA.scr
  have k0 : kd S x = 0 := hA.c.k0
  have k12 : kd S (x + 163) = 12 := md_k hA.m
  have v1 : vp_in (nI (i + 1)) (ln S b) := by rw [hn]; exact of_eq_true (vin (by omega) (by omega))
  have v2 : vp_in (nI (i + 2)) (ln S b) := by rw [hn]; exact of_eq_true (vin (by omega) (by omega))
  have v3 : vp_in (nI (i + 3)) (ln S b) := by rw [hn]; exact of_eq_true (vin (by omega) (by omega))
  have v4 : vp_in (nI (i + 4)) (ln S b) := by rw [hn]; exact of_eq_true (vin (by omega) (by omega))
  have v5 : vp_in (nI (i + 5)) (ln S b) := by rw [hn]; exact of_eq_true (vin (by omega) (by omega))
  simp (disch := first | assumption | exact cw0 | omega | (simp only [cw_nil, cw_int, cw_ref, cw_long]; omega) | decide) only [x_0_808, x_0_809, x_0_810, x_0_811, x_0_812, x_0_813, x_0_814, x_0_815, x_0_816, x_0_817, x_0_818, x_0_819, x_0_820, x_0_821, x_0_822, x_0_823, x_0_824, x_0_825, x_0_826, x_0_827, x_0_828, x_0_832, x_0_833, x_0_834, x_0_835, x_0_836, x_0_837, x_0_838, x_0_839, x_0_840, x_0_841, x_0_842, x_0_843, x_0_844, x_0_845, x_0_846, x_0_847, x_0_848, x_0_849, x_0_850, x_0_851, x_0_852, x_0_853, x_0_856, x_0_859, x_0_860, ↓reduceIte, va_rf_some, cw_nil, cw_int, cw_ref, cw_long, kl_int, kl_ref, kl_null, kl_long, kl_none, Option.toList_some, Option.toList_none, List.cons_append, List.nil_append, List.append_nil, nI_add, nI_clamp, nI_ltI, nI_leI, nI_eq, Nat.reduceLT, Nat.reduceLeDiff, Nat.reduceEqDiff, Nat.reduceAdd, Nat.reduceMul, Nat.reduceSub, if_true, if_false, not_true, not_false_eq_true, decide_true, decide_false, Nat.lt_irrefl, Nat.le_refl, Nat.not_lt_zero, Nat.zero_le, hs]
  rw [x_0_829 k0 (by simp only [cw_ref, cw_int, cw_long, cw_nil, Option.toList_some, List.cons_append, List.nil_append]; omega)]
  refine CA_mono (CA_rt (sim_step d x b xs S I L R hI)) ?_
  rintro v S1 I1 L1 R1 ⟨⟨rfl, h1, h2⟩, hr, -⟩
  obtain ⟨u, rfl⟩ := hr (Or.inl ht_24)
  simp (disch := first | assumption | exact cw0 | omega | (simp only [cw_nil, cw_int, cw_ref, cw_long]; omega) | decide) only [x_0_808, x_0_809, x_0_810, x_0_811, x_0_812, x_0_813, x_0_814, x_0_815, x_0_816, x_0_817, x_0_818, x_0_819, x_0_820, x_0_821, x_0_822, x_0_823, x_0_824, x_0_825, x_0_826, x_0_827, x_0_828, x_0_832, x_0_833, x_0_834, x_0_835, x_0_836, x_0_837, x_0_838, x_0_839, x_0_840, x_0_841, x_0_842, x_0_843, x_0_844, x_0_845, x_0_846, x_0_847, x_0_848, x_0_849, x_0_850, x_0_851, x_0_852, x_0_856, x_0_859, x_0_860, ↓reduceIte, va_rf_some, cw_nil, cw_int, cw_ref, cw_long, kl_int, kl_ref, kl_null, kl_long, kl_none, Option.toList_some, Option.toList_none, List.cons_append, List.nil_append, List.append_nil, nI_add, nI_clamp, nI_ltI, nI_leI, nI_eq, Nat.reduceLT, Nat.reduceLeDiff, Nat.reduceEqDiff, Nat.reduceAdd, Nat.reduceMul, Nat.reduceSub, if_true, if_false, not_true, not_false_eq_true, decide_true, decide_false, Nat.lt_irrefl, Nat.le_refl, Nat.not_lt_zero, Nat.zero_le, h1]
  rw [x_0_853 k12 (by simp only [cw_ref, cw_int, cw_long, cw_nil, Option.toList_some, List.cons_append, List.nil_append]; omega)]
  refine CA_mono h2 ?_
  rintro w S2 I2 L2 R2 ⟨rfl, rfl, hI2⟩
  simp (disch := first | assumption | exact cw0 | omega | (simp only [cw_nil, cw_int, cw_ref, cw_long]; omega) | decide) only [x_0_808, x_0_809, x_0_810, x_0_811, x_0_812, x_0_813, x_0_814, x_0_815, x_0_816, x_0_817, x_0_818, x_0_819, x_0_820, x_0_821, x_0_822, x_0_823, x_0_824, x_0_825, x_0_826, x_0_827, x_0_828, x_0_832, x_0_833, x_0_834, x_0_835, x_0_836, x_0_837, x_0_838, x_0_839, x_0_840, x_0_841, x_0_842, x_0_843, x_0_844, x_0_845, x_0_846, x_0_847, x_0_848, x_0_849, x_0_850, x_0_851, x_0_852, x_0_856, x_0_859, x_0_860, ↓reduceIte, va_rf_some, cw_nil, cw_int, cw_ref, cw_long, kl_int, kl_ref, kl_null, kl_long, kl_none, Option.toList_some, Option.toList_none, List.cons_append, List.nil_append, List.append_nil, nI_add, nI_clamp, nI_ltI, nI_leI, nI_eq, Nat.reduceLT, Nat.reduceLeDiff, Nat.reduceEqDiff, Nat.reduceAdd, Nat.reduceMul, Nat.reduceSub, if_true, if_false, not_true, not_false_eq_true, decide_true, decide_false, Nat.lt_irrefl, Nat.le_refl, Nat.not_lt_zero, Nat.zero_le, eq_self]
  exact go I2 L2 R2 hI2
theorem lc_16 (hI : INV x b xs S I L R) (hb : kd S b = 110) (hn : ln S b = Lx) (hi : i + 6 ≤ Lx) (hL : Lx ≤ 384) (go : ∀ I' L' R', INV x b xs S I' L' R' → WP (d + 41, bc, bs) 0 2187 [some (.ref b), some (.ref x), some (.ref (x + 163)), some (.int (nI i))] [] S I' L' R' Q) : WP (d + 41, bc, bs) 0 861 [some (.ref b), some (.ref x), some (.ref (x + 163)), some (.int (nI i))] [] S I L R Q := by
  obtain ⟨A, hA⟩ := id hI
  have hs : I b = xs := hA.scr
  have k0 : kd S x = 0 := hA.c.k0
  have k12 : kd S (x + 163) = 12 := md_k hA.m
  have v1 : vp_in (nI (i + 1)) (ln S b) := by rw [hn]; exact of_eq_true (vin (by omega) (by omega))
  have v2 : vp_in (nI (i + 2)) (ln S b) := by rw [hn]; exact of_eq_true (vin (by omega) (by omega))
  have v3 : vp_in (nI (i + 3)) (ln S b) := by rw [hn]; exact of_eq_true (vin (by omega) (by omega))
  have v4 : vp_in (nI (i + 4)) (ln S b) := by rw [hn]; exact of_eq_true (vin (by omega) (by omega))
  have v5 : vp_in (nI (i + 5)) (ln S b) := by rw [hn]; exact of_eq_true (vin (by omega) (by omega))
  simp (disch := first | assumption | exact cw0 | omega | (simp only [cw_nil, cw_int, cw_ref, cw_long]; omega) | decide) only [x_0_861, x_0_862, x_0_863, x_0_864, x_0_865, x_0_866, x_0_870, x_0_871, x_0_872, x_0_873, x_0_874, x_0_875, x_0_876, x_0_879, x_0_882, x_0_883, ↓reduceIte, va_rf_some, cw_nil, cw_int, cw_ref, cw_long, kl_int, kl_ref, kl_null, kl_long, kl_none, Option.toList_some, Option.toList_none, List.cons_append, List.nil_append, List.append_nil, nI_add, nI_clamp, nI_ltI, nI_leI, nI_eq, Nat.reduceLT, Nat.reduceLeDiff, Nat.reduceEqDiff, Nat.reduceAdd, Nat.reduceMul, Nat.reduceSub, if_true, if_false, not_true, not_false_eq_true, decide_true, decide_false, Nat.lt_irrefl, Nat.le_refl, Nat.not_lt_zero, Nat.zero_le, hs]
  rw [x_0_867 k0 (by simp only [cw_ref, cw_int, cw_long, cw_nil, Option.toList_some, List.cons_append, List.nil_append]; omega)]
  refine CA_mono (CA_rt (sim_stand d x b xs S I L R hI)) ?_
  rintro v S1 I1 L1 R1 ⟨⟨rfl, h1, h2⟩, hr, -⟩
  obtain ⟨u, rfl⟩ := hr (Or.inl ht_25)
  simp (disch := first | assumption | exact cw0 | omega | (simp only [cw_nil, cw_int, cw_ref, cw_long]; omega) | decide) only [x_0_861, x_0_862, x_0_863, x_0_864, x_0_865, x_0_866, x_0_870, x_0_871, x_0_872, x_0_873, x_0_874, x_0_875, x_0_879, x_0_882, x_0_883, ↓reduceIte, va_rf_some, cw_nil, cw_int, cw_ref, cw_long, kl_int, kl_ref, kl_null, kl_long, kl_none, Option.toList_some, Option.toList_none, List.cons_append, List.nil_append, List.append_nil, nI_add, nI_clamp, nI_ltI, nI_leI, nI_eq, Nat.reduceLT, Nat.reduceLeDiff, Nat.reduceEqDiff, Nat.reduceAdd, Nat.reduceMul, Nat.reduceSub, if_true, if_false, not_true, not_false_eq_true, decide_true, decide_false, Nat.lt_irrefl, Nat.le_refl, Nat.not_lt_zero, Nat.zero_le, h1]
  rw [x_0_876 k12 (by simp only [cw_ref, cw_int, cw_long, cw_nil, Option.toList_some, List.cons_append, List.nil_append]; omega)]
  refine CA_mono h2 ?_
  rintro w S2 I2 L2 R2 ⟨rfl, rfl, hI2⟩
  simp (disch := first | assumption | exact cw0 | omega | (simp only [cw_nil, cw_int, cw_ref, cw_long]; omega) | decide) only [x_0_861, x_0_862, x_0_863, x_0_864, x_0_865, x_0_866, x_0_870, x_0_871, x_0_872, x_0_873, x_0_874, x_0_875, x_0_879, x_0_882, x_0_883, ↓reduceIte, va_rf_some, cw_nil, cw_int, cw_ref, cw_long, kl_int, kl_ref, kl_null, kl_long, kl_none, Option.toList_some, Option.toList_none, List.cons_append, List.nil_append, List.append_nil, nI_add, nI_clamp, nI_ltI, nI_leI, nI_eq, Nat.reduceLT, Nat.reduceLeDiff, Nat.reduceEqDiff, Nat.reduceAdd, Nat.reduceMul, Nat.reduceSub, if_true, if_false, not_true, not_false_eq_true, decide_true, decide_false, Nat.lt_irrefl, Nat.le_refl, Nat.not_lt_zero, Nat.zero_le, eq_self]
  exact go I2 L2 R2 hI2
theorem lc_17 (hI : INV x b xs S I L R) (hb : kd S b = 110) (hn : ln S b = Lx) (hi : i + 6 ≤ Lx) (hL : Lx ≤ 384) (go : ∀ I' L' R', INV x b xs S I' L' R' → WP (d + 41, bc, bs) 0 2187 [some (.ref b), some (.ref x), some (.ref (x + 163)), some (.int (nI i))] [] S I' L' R' Q) : WP (d + 41, bc, bs) 0 884 [some (.ref b), some (.ref x), some (.ref (x + 163)), some (.int (nI i))] [] S I L R Q := by
  obtain ⟨A, hA⟩ := id hI
  have hs : I b = xs := hA.scr
  have k0 : kd S x = 0 := hA.c.k0
  have k12 : kd S (x + 163) = 12 := md_k hA.m
  have v1 : vp_in (nI (i + 1)) (ln S b) := by rw [hn]; exact of_eq_true (vin (by omega) (by omega))
  have v2 : vp_in (nI (i + 2)) (ln S b) := by rw [hn]; exact of_eq_true (vin (by omega) (by omega))
  have v3 : vp_in (nI (i + 3)) (ln S b) := by rw [hn]; exact of_eq_true (vin (by omega) (by omega))
  have v4 : vp_in (nI (i + 4)) (ln S b) := by rw [hn]; exact of_eq_true (vin (by omega) (by omega))
  have v5 : vp_in (nI (i + 5)) (ln S b) := by rw [hn]; exact of_eq_true (vin (by omega) (by omega))
  simp (disch := first | assumption | exact cw0 | omega | (simp only [cw_nil, cw_int, cw_ref, cw_long]; omega) | decide) only [x_0_884, x_0_885, x_0_886, x_0_887, x_0_888, x_0_889, x_0_890, x_0_891, x_0_892, x_0_893, x_0_894, x_0_895, x_0_896, x_0_897, x_0_898, x_0_899, x_0_903, x_0_904, x_0_905, x_0_906, x_0_907, x_0_908, x_0_909, x_0_910, x_0_911, x_0_912, x_0_913, x_0_914, x_0_915, x_0_916, x_0_917, x_0_918, x_0_919, x_0_922, x_0_925, x_0_926, ↓reduceIte, va_rf_some, cw_nil, cw_int, cw_ref, cw_long, kl_int, kl_ref, kl_null, kl_long, kl_none, Option.toList_some, Option.toList_none, List.cons_append, List.nil_append, List.append_nil, nI_add, nI_clamp, nI_ltI, nI_leI, nI_eq, Nat.reduceLT, Nat.reduceLeDiff, Nat.reduceEqDiff, Nat.reduceAdd, Nat.reduceMul, Nat.reduceSub, if_true, if_false, not_true, not_false_eq_true, decide_true, decide_false, Nat.lt_irrefl, Nat.le_refl, Nat.not_lt_zero, Nat.zero_le, hs]
  rw [x_0_900 k0 (by simp only [cw_ref, cw_int, cw_long, cw_nil, Option.toList_some, List.cons_append, List.nil_append]; omega)]
  refine CA_mono (CA_rt (sim_hand d x b xs S I L R hI)) ?_
  rintro v S1 I1 L1 R1 ⟨⟨rfl, h1, h2⟩, hr, -⟩
  obtain ⟨u, rfl⟩ := hr (Or.inl ht_26)
  simp (disch := first | assumption | exact cw0 | omega | (simp only [cw_nil, cw_int, cw_ref, cw_long]; omega) | decide) only [x_0_884, x_0_885, x_0_886, x_0_887, x_0_888, x_0_889, x_0_890, x_0_891, x_0_892, x_0_893, x_0_894, x_0_895, x_0_896, x_0_897, x_0_898, x_0_899, x_0_903, x_0_904, x_0_905, x_0_906, x_0_907, x_0_908, x_0_909, x_0_910, x_0_911, x_0_912, x_0_913, x_0_914, x_0_915, x_0_916, x_0_917, x_0_918, x_0_922, x_0_925, x_0_926, ↓reduceIte, va_rf_some, cw_nil, cw_int, cw_ref, cw_long, kl_int, kl_ref, kl_null, kl_long, kl_none, Option.toList_some, Option.toList_none, List.cons_append, List.nil_append, List.append_nil, nI_add, nI_clamp, nI_ltI, nI_leI, nI_eq, Nat.reduceLT, Nat.reduceLeDiff, Nat.reduceEqDiff, Nat.reduceAdd, Nat.reduceMul, Nat.reduceSub, if_true, if_false, not_true, not_false_eq_true, decide_true, decide_false, Nat.lt_irrefl, Nat.le_refl, Nat.not_lt_zero, Nat.zero_le, h1]
  rw [x_0_919 k12 (by simp only [cw_ref, cw_int, cw_long, cw_nil, Option.toList_some, List.cons_append, List.nil_append]; omega)]
  refine CA_mono h2 ?_
  rintro w S2 I2 L2 R2 ⟨rfl, rfl, hI2⟩
  simp (disch := first | assumption | exact cw0 | omega | (simp only [cw_nil, cw_int, cw_ref, cw_long]; omega) | decide) only [x_0_884, x_0_885, x_0_886, x_0_887, x_0_888, x_0_889, x_0_890, x_0_891, x_0_892, x_0_893, x_0_894, x_0_895, x_0_896, x_0_897, x_0_898, x_0_899, x_0_903, x_0_904, x_0_905, x_0_906, x_0_907, x_0_908, x_0_909, x_0_910, x_0_911, x_0_912, x_0_913, x_0_914, x_0_915, x_0_916, x_0_917, x_0_918, x_0_922, x_0_925, x_0_926, ↓reduceIte, va_rf_some, cw_nil, cw_int, cw_ref, cw_long, kl_int, kl_ref, kl_null, kl_long, kl_none, Option.toList_some, Option.toList_none, List.cons_append, List.nil_append, List.append_nil, nI_add, nI_clamp, nI_ltI, nI_leI, nI_eq, Nat.reduceLT, Nat.reduceLeDiff, Nat.reduceEqDiff, Nat.reduceAdd, Nat.reduceMul, Nat.reduceSub, if_true, if_false, not_true, not_false_eq_true, decide_true, decide_false, Nat.lt_irrefl, Nat.le_refl, Nat.not_lt_zero, Nat.zero_le, eq_self]
  exact go I2 L2 R2 hI2
theorem lc_18 (hI : INV x b xs S I L R) (hb : kd S b = 110) (hn : ln S b = Lx) (hi : i + 6 ≤ Lx) (hL : Lx ≤ 384) (go : ∀ I' L' R', INV x b xs S I' L' R' → WP (d + 41, bc, bs) 0 2187 [some (.ref b), some (.ref x), some (.ref (x + 163)), some (.int (nI i))] [] S I' L' R' Q) : WP (d + 41, bc, bs) 0 927 [some (.ref b), some (.ref x), some (.ref (x + 163)), some (.int (nI i))] [] S I L R Q := by
  obtain ⟨A, hA⟩ := id hI
  have hs : I b = xs := hA.scr
  have k0 : kd S x = 0 := hA.c.k0
  have k12 : kd S (x + 163) = 12 := md_k hA.m
  have v1 : vp_in (nI (i + 1)) (ln S b) := by rw [hn]; exact of_eq_true (vin (by omega) (by omega))
  have v2 : vp_in (nI (i + 2)) (ln S b) := by rw [hn]; exact of_eq_true (vin (by omega) (by omega))
  have v3 : vp_in (nI (i + 3)) (ln S b) := by rw [hn]; exact of_eq_true (vin (by omega) (by omega))
  have v4 : vp_in (nI (i + 4)) (ln S b) := by rw [hn]; exact of_eq_true (vin (by omega) (by omega))
  have v5 : vp_in (nI (i + 5)) (ln S b) := by rw [hn]; exact of_eq_true (vin (by omega) (by omega))
  simp (disch := first | assumption | exact cw0 | omega | (simp only [cw_nil, cw_int, cw_ref, cw_long]; omega) | decide) only [x_0_927, x_0_928, x_0_929, x_0_930, x_0_931, x_0_932, x_0_933, x_0_934, x_0_935, x_0_936, x_0_937, x_0_941, x_0_942, x_0_943, x_0_944, x_0_945, x_0_946, x_0_947, x_0_948, x_0_949, x_0_950, x_0_951, x_0_952, x_0_955, x_0_958, x_0_959, ↓reduceIte, va_rf_some, cw_nil, cw_int, cw_ref, cw_long, kl_int, kl_ref, kl_null, kl_long, kl_none, Option.toList_some, Option.toList_none, List.cons_append, List.nil_append, List.append_nil, nI_add, nI_clamp, nI_ltI, nI_leI, nI_eq, Nat.reduceLT, Nat.reduceLeDiff, Nat.reduceEqDiff, Nat.reduceAdd, Nat.reduceMul, Nat.reduceSub, if_true, if_false, not_true, not_false_eq_true, decide_true, decide_false, Nat.lt_irrefl, Nat.le_refl, Nat.not_lt_zero, Nat.zero_le, hs]
  rw [x_0_938 k0 (by simp only [cw_ref, cw_int, cw_long, cw_nil, Option.toList_some, List.cons_append, List.nil_append]; omega)]
  refine CA_mono (CA_rt (sim_plank d x b xs S I L R hI)) ?_
  rintro v S1 I1 L1 R1 ⟨⟨rfl, h1, h2⟩, hr, -⟩
  obtain ⟨u, rfl⟩ := hr (Or.inl ht_28)
  simp (disch := first | assumption | exact cw0 | omega | (simp only [cw_nil, cw_int, cw_ref, cw_long]; omega) | decide) only [x_0_927, x_0_928, x_0_929, x_0_930, x_0_931, x_0_932, x_0_933, x_0_934, x_0_935, x_0_936, x_0_937, x_0_941, x_0_942, x_0_943, x_0_944, x_0_945, x_0_946, x_0_947, x_0_948, x_0_949, x_0_950, x_0_951, x_0_955, x_0_958, x_0_959, ↓reduceIte, va_rf_some, cw_nil, cw_int, cw_ref, cw_long, kl_int, kl_ref, kl_null, kl_long, kl_none, Option.toList_some, Option.toList_none, List.cons_append, List.nil_append, List.append_nil, nI_add, nI_clamp, nI_ltI, nI_leI, nI_eq, Nat.reduceLT, Nat.reduceLeDiff, Nat.reduceEqDiff, Nat.reduceAdd, Nat.reduceMul, Nat.reduceSub, if_true, if_false, not_true, not_false_eq_true, decide_true, decide_false, Nat.lt_irrefl, Nat.le_refl, Nat.not_lt_zero, Nat.zero_le, h1]
  rw [x_0_952 k12 (by simp only [cw_ref, cw_int, cw_long, cw_nil, Option.toList_some, List.cons_append, List.nil_append]; omega)]
  refine CA_mono h2 ?_
  rintro w S2 I2 L2 R2 ⟨rfl, rfl, hI2⟩
  simp (disch := first | assumption | exact cw0 | omega | (simp only [cw_nil, cw_int, cw_ref, cw_long]; omega) | decide) only [x_0_927, x_0_928, x_0_929, x_0_930, x_0_931, x_0_932, x_0_933, x_0_934, x_0_935, x_0_936, x_0_937, x_0_941, x_0_942, x_0_943, x_0_944, x_0_945, x_0_946, x_0_947, x_0_948, x_0_949, x_0_950, x_0_951, x_0_955, x_0_958, x_0_959, ↓reduceIte, va_rf_some, cw_nil, cw_int, cw_ref, cw_long, kl_int, kl_ref, kl_null, kl_long, kl_none, Option.toList_some, Option.toList_none, List.cons_append, List.nil_append, List.append_nil, nI_add, nI_clamp, nI_ltI, nI_leI, nI_eq, Nat.reduceLT, Nat.reduceLeDiff, Nat.reduceEqDiff, Nat.reduceAdd, Nat.reduceMul, Nat.reduceSub, if_true, if_false, not_true, not_false_eq_true, decide_true, decide_false, Nat.lt_irrefl, Nat.le_refl, Nat.not_lt_zero, Nat.zero_le, eq_self]
  exact go I2 L2 R2 hI2
theorem lc_19 (hI : INV x b xs S I L R) (hb : kd S b = 110) (hn : ln S b = Lx) (hi : i + 6 ≤ Lx) (hL : Lx ≤ 384) (go : ∀ I' L' R', INV x b xs S I' L' R' → WP (d + 41, bc, bs) 0 2187 [some (.ref b), some (.ref x), some (.ref (x + 163)), some (.int (nI i))] [] S I' L' R' Q) : WP (d + 41, bc, bs) 0 960 [some (.ref b), some (.ref x), some (.ref (x + 163)), some (.int (nI i))] [] S I L R Q := by
  obtain ⟨A, hA⟩ := id hI
  have hs : I b = xs := hA.scr
  have k0 : kd S x = 0 := hA.c.k0
  have k12 : kd S (x + 163) = 12 := md_k hA.m
  have v1 : vp_in (nI (i + 1)) (ln S b) := by rw [hn]; exact of_eq_true (vin (by omega) (by omega))
  have v2 : vp_in (nI (i + 2)) (ln S b) := by rw [hn]; exact of_eq_true (vin (by omega) (by omega))
  have v3 : vp_in (nI (i + 3)) (ln S b) := by rw [hn]; exact of_eq_true (vin (by omega) (by omega))
  have v4 : vp_in (nI (i + 4)) (ln S b) := by rw [hn]; exact of_eq_true (vin (by omega) (by omega))
  have v5 : vp_in (nI (i + 5)) (ln S b) := by rw [hn]; exact of_eq_true (vin (by omega) (by omega))
  simp (disch := first | assumption | exact cw0 | omega | (simp only [cw_nil, cw_int, cw_ref, cw_long]; omega) | decide) only [x_0_960, x_0_961, x_0_962, x_0_963, x_0_964, x_0_965, x_0_966, x_0_967, x_0_968, x_0_969, x_0_970, x_0_974, x_0_975, x_0_976, x_0_977, x_0_978, x_0_979, x_0_980, x_0_981, x_0_982, x_0_983, x_0_984, x_0_985, x_0_988, x_0_991, x_0_992, ↓reduceIte, va_rf_some, cw_nil, cw_int, cw_ref, cw_long, kl_int, kl_ref, kl_null, kl_long, kl_none, Option.toList_some, Option.toList_none, List.cons_append, List.nil_append, List.append_nil, nI_add, nI_clamp, nI_ltI, nI_leI, nI_eq, Nat.reduceLT, Nat.reduceLeDiff, Nat.reduceEqDiff, Nat.reduceAdd, Nat.reduceMul, Nat.reduceSub, if_true, if_false, not_true, not_false_eq_true, decide_true, decide_false, Nat.lt_irrefl, Nat.le_refl, Nat.not_lt_zero, Nat.zero_le, hs]
  rw [x_0_971 k0 (by simp only [cw_ref, cw_int, cw_long, cw_nil, Option.toList_some, List.cons_append, List.nil_append]; omega)]
  refine CA_mono (CA_rt (sim_rot d x b xs S I L R hI)) ?_
  rintro v S1 I1 L1 R1 ⟨⟨rfl, h1, h2⟩, hr, -⟩
  obtain ⟨u, rfl⟩ := hr (Or.inr ht_29)
  simp (disch := first | assumption | exact cw0 | omega | (simp only [cw_nil, cw_int, cw_ref, cw_long]; omega) | decide) only [x_0_960, x_0_961, x_0_962, x_0_963, x_0_964, x_0_965, x_0_966, x_0_967, x_0_968, x_0_969, x_0_970, x_0_974, x_0_975, x_0_976, x_0_977, x_0_978, x_0_979, x_0_980, x_0_981, x_0_982, x_0_983, x_0_984, x_0_988, x_0_991, x_0_992, ↓reduceIte, va_rf_some, cw_nil, cw_int, cw_ref, cw_long, kl_int, kl_ref, kl_null, kl_long, kl_none, Option.toList_some, Option.toList_none, List.cons_append, List.nil_append, List.append_nil, nI_add, nI_clamp, nI_ltI, nI_leI, nI_eq, Nat.reduceLT, Nat.reduceLeDiff, Nat.reduceEqDiff, Nat.reduceAdd, Nat.reduceMul, Nat.reduceSub, if_true, if_false, not_true, not_false_eq_true, decide_true, decide_false, Nat.lt_irrefl, Nat.le_refl, Nat.not_lt_zero, Nat.zero_le, h1]
  rw [x_0_985 k12 (by simp only [cw_ref, cw_int, cw_long, cw_nil, Option.toList_some, List.cons_append, List.nil_append]; omega)]
  refine CA_mono h2 ?_
  rintro w S2 I2 L2 R2 ⟨rfl, rfl, hI2⟩
  simp (disch := first | assumption | exact cw0 | omega | (simp only [cw_nil, cw_int, cw_ref, cw_long]; omega) | decide) only [x_0_960, x_0_961, x_0_962, x_0_963, x_0_964, x_0_965, x_0_966, x_0_967, x_0_968, x_0_969, x_0_970, x_0_974, x_0_975, x_0_976, x_0_977, x_0_978, x_0_979, x_0_980, x_0_981, x_0_982, x_0_983, x_0_984, x_0_988, x_0_991, x_0_992, ↓reduceIte, va_rf_some, cw_nil, cw_int, cw_ref, cw_long, kl_int, kl_ref, kl_null, kl_long, kl_none, Option.toList_some, Option.toList_none, List.cons_append, List.nil_append, List.append_nil, nI_add, nI_clamp, nI_ltI, nI_leI, nI_eq, Nat.reduceLT, Nat.reduceLeDiff, Nat.reduceEqDiff, Nat.reduceAdd, Nat.reduceMul, Nat.reduceSub, if_true, if_false, not_true, not_false_eq_true, decide_true, decide_false, Nat.lt_irrefl, Nat.le_refl, Nat.not_lt_zero, Nat.zero_le, eq_self]
  exact go I2 L2 R2 hI2
end LW0

