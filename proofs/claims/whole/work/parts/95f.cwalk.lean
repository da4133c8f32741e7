/-! A walker is set down and added: the class. -/
section RW
variable {S : mS} {I J : mI} {L K : mL} {R : mR} {Q : mQ} {d x n k i lo hx : Nat} {B : Nat → Nat} {s : SG} {N : AS} {NL : Nat → List Nat} {mt : Bool}
variable {l f t w u v gu gv we re lo' ld : Nat} {p p1 p2 p3 p4 p5 : Int32} {q : Int64}
theorem c_placeTwo (hs : stnL S R l f t) (hw : w < 4) (go : ∀ J', (∀ i, J' (t + 2) i = if i = 2 * w ∨ i = 2 * w + 1 then p else J (t + 2) i) → (∀ i, J' (t + 3) i = if i = 2 * w ∨ i = 2 * w + 1 then nI 0 else J (t + 3) i) → (∀ z, z ≠ t → z ≠ t + 2 → z ≠ t + 3 → J' z = J z) → Q none S J' K R) : CA (d + 1) 115 [.ref t, .int (nI w), .int p] S J K R Q := by
  have w1 : ¬ 4 ≤ w := by omega
  have w2 : ¬ 8 ≤ 2 * w := by omega
  have w3 : ¬ 8 ≤ 2 * w + 1 := by omega
  have w31 : w < 31 := by omega
  rw [ca_115]
  simp (disch := first | assumption | exact cw0 | (simp only [stn_k hs, stn_R0 hs, stn_R1 hs, stn_R2 hs, stn_R3 hs, stn_R4 hs, stn_k1 hs, stn_n1 hs, stn_k2 hs, stn_n2 hs, stn_k3 hs, stn_n3 hs]; done) | omega | (simp (disch := first | assumption | omega) only [stn_k hs, stn_R0 hs, stn_R1 hs, stn_R2 hs, stn_R3 hs, stn_R4 hs, stn_k1 hs, stn_n1 hs, stn_k2 hs, stn_n2 hs, stn_k3 hs, stn_n3 hs, vin, cw_nil, cw_int, cw_ref, cw_long, bI_01]; done) | (simp (disch := first | assumption | omega) only [stn_k hs, stn_R0 hs, stn_R1 hs, stn_R2 hs, stn_R3 hs, stn_R4 hs, stn_k1 hs, stn_n1 hs, stn_k2 hs, stn_n2 hs, stn_k3 hs, stn_n3 hs, cw_nil, cw_int, cw_ref, cw_long]; omega) | decide) only [x_115_0, x_115_1, x_115_4, x_115_5, x_115_6, x_115_9, x_115_10, x_115_11, x_115_12, x_115_13, x_115_14, x_115_15, x_115_18, x_115_19, x_115_20, x_115_21, x_115_22, x_115_23, x_115_24, x_115_25, x_115_28, x_115_29, x_115_29r, x_115_30, x_115_33, x_115_34, x_115_35, x_115_36, x_115_37, x_115_38, x_115_39, x_115_42, ↓reduceIte, va_rf_some, cw_nil, cw_int, cw_ref, cw_long, kl_int, kl_ref, kl_null, kl_long, kl_none, Option.toList_some, Option.toList_none, List.cons_append, List.nil_append, List.append_nil, stn_k hs, stn_R0 hs, stn_R1 hs, stn_R2 hs, stn_R3 hs, stn_R4 hs, stn_k1 hs, stn_n1 hs, stn_k2 hs, stn_n2 hs, stn_k3 hs, stn_n3 hs, nI_add, pk_mul, nI_clamp, nI_ltI, nI_leI, nI_eq, n10, eq_false w1, eq_true hw, eq_false w2, eq_false w3, ca_116, x_116_0, x_116_1, x_116_4, x_116_5, x_116_7, x_116_10, x_116_11, x_116_14, x_116_15, x_116_16, x_116_17, x_116_18, x_116_21, x_116_22, x_116_23, x_116_24, sh1 _ w31, va_up_self, va_up_ne, Nat.reduceLT, Nat.reduceLeDiff, Nat.reduceEqDiff, Nat.reduceAdd, Nat.reduceMul, Nat.reduceSub, if_true, if_false, not_true, not_false_eq_true, decide_true, decide_false, Nat.lt_irrefl, Nat.le_refl, Nat.not_lt_zero, Nat.zero_le]
  refine go _ ?_ ?_ ?_
  · intro i
    simp (disch := omega) only [va_up_self, va_up_ne]
    by_cases z1 : i = 2 * w + 1
    · rw [z1, va_up_self, if_pos (Or.inr rfl)]
    · rw [va_up_ne _ _ z1]
      by_cases z2 : i = 2 * w
      · rw [z2, va_up_self, if_pos (Or.inl rfl)]
      · rw [va_up_ne _ _ z2, if_neg (by omega)]
  · intro i
    simp (disch := omega) only [va_up_self, va_up_ne]
    by_cases z1 : i = 2 * w + 1
    · rw [z1, va_up_self, if_pos (Or.inr rfl)]
    · rw [va_up_ne _ _ z1]
      by_cases z2 : i = 2 * w
      · rw [z2, va_up_self, if_pos (Or.inl rfl)]
      · rw [va_up_ne _ _ z2, if_neg (by omega)]
  · intro z h1 h2 h3
    simp (disch := omega) only [va_up_ne]
theorem c_addW (hf : flkL S R f) (hct : J f 0 = nI w) (hw : w < 4) (go : ∀ J' K', J' f 0 = nI (w + 1) → (∀ i, J' (f + 6) i = if i = w then p1 else J (f + 6) i) → (∀ i, J' (f + 2) i = if i = w then p2 else J (f + 2) i) → (∀ i, J' (f + 3) i = if i = w then p3 else J (f + 3) i) → (∀ i, J' (f + 4) i = if i = w then p4 else J (f + 4) i) → (∀ i, J' (f + 5) i = if i = w then p5 else J (f + 5) i) → (∀ i, J' (f + 7) i = if i = w then nI 0 else J (f + 7) i) → (∀ i, K' (f + 1) i = if i = w then q else K (f + 1) i) → (∀ z, ¬ (f ≤ z ∧ z ≤ f + 7) → J' z = J z) → (∀ z, z ≠ f + 1 → K' z = K z) → Q none S J' K' R) : CA d 109 [.ref f, .long q, .int p1, .int p2, .int p3, .int p4, .int p5] S J K R Q := by
  have w1 : ¬ 4 ≤ w := by omega
  rw [ca_109]
  simp (disch := first | assumption | exact cw0 | (simp only [flk_k hf, flk_R1 hf, flk_k1 hf, flk_n1 hf, flk_R2 hf, flk_k2 hf, flk_n2 hf, flk_R3 hf, flk_k3 hf, flk_n3 hf, flk_R4 hf, flk_k4 hf, flk_n4 hf, flk_R5 hf, flk_k5 hf, flk_n5 hf, flk_R6 hf, flk_k6 hf, flk_n6 hf, flk_R7 hf, flk_k7 hf, flk_n7 hf]; done) | omega | (simp (disch := first | assumption | omega) only [flk_k hf, flk_R1 hf, flk_k1 hf, flk_n1 hf, flk_R2 hf, flk_k2 hf, flk_n2 hf, flk_R3 hf, flk_k3 hf, flk_n3 hf, flk_R4 hf, flk_k4 hf, flk_n4 hf, flk_R5 hf, flk_k5 hf, flk_n5 hf, flk_R6 hf, flk_k6 hf, flk_n6 hf, flk_R7 hf, flk_k7 hf, flk_n7 hf, vin, cw_nil, cw_int, cw_ref, cw_long, bI_01]; done) | (simp (disch := first | assumption | omega) only [flk_k hf, flk_R1 hf, flk_k1 hf, flk_n1 hf, flk_R2 hf, flk_k2 hf, flk_n2 hf, flk_R3 hf, flk_k3 hf, flk_n3 hf, flk_R4 hf, flk_k4 hf, flk_n4 hf, flk_R5 hf, flk_k5 hf, flk_n5 hf, flk_R6 hf, flk_k6 hf, flk_n6 hf, flk_R7 hf, flk_k7 hf, flk_n7 hf, cw_nil, cw_int, cw_ref, cw_long]; omega) | decide) only [x_109_0, x_109_1, x_109_4, x_109_5, x_109_8, x_109_9, x_109_10, x_109_13, x_109_14, x_109_17, x_109_18, x_109_19, x_109_20, x_109_23, x_109_24, x_109_27, x_109_28, x_109_29, x_109_30, x_109_33, x_109_34, x_109_37, x_109_39, x_109_40, x_109_41, x_109_44, x_109_45, x_109_48, x_109_50, x_109_51, x_109_52, x_109_55, x_109_56, x_109_59, x_109_61, x_109_62, x_109_63, x_109_66, x_109_67, x_109_70, x_109_72, x_109_73, x_109_74, x_109_77, x_109_78, x_109_81, x_109_82, x_109_83, x_109_84, x_109_84r, x_109_85, x_109_88, x_109_89, x_109_90, x_109_93, ↓reduceIte, va_rf_some, cw_nil, cw_int, cw_ref, cw_long, kl_int, kl_ref, kl_null, kl_long, kl_none, Option.toList_some, Option.toList_none, List.cons_append, List.nil_append, List.append_nil, flk_k hf, flk_R1 hf, flk_k1 hf, flk_n1 hf, flk_R2 hf, flk_k2 hf, flk_n2 hf, flk_R3 hf, flk_k3 hf, flk_n3 hf, flk_R4 hf, flk_k4 hf, flk_n4 hf, flk_R5 hf, flk_k5 hf, flk_n5 hf, flk_R6 hf, flk_k6 hf, flk_n6 hf, flk_R7 hf, flk_k7 hf, flk_n7 hf, nI_add, pk_mul, nI_clamp, nI_ltI, nI_leI, nI_eq, n10, hct, eq_false w1, eq_true hw, va_up_self, va_up_ne, Nat.reduceLT, Nat.reduceLeDiff, Nat.reduceEqDiff, Nat.reduceAdd, Nat.reduceMul, Nat.reduceSub, if_true, if_false, not_true, not_false_eq_true, decide_true, decide_false, Nat.lt_irrefl, Nat.le_refl, Nat.not_lt_zero, Nat.zero_le]
  have vu : ∀ {α : Type} (g : Nat → α) (i : Nat) (r : α), va_up g w r i = if i = w then r else g i := fun g i r => by
    by_cases z : i = w
    · rw [z, va_up_self, if_pos rfl]
    · rw [va_up_ne _ _ z, if_neg z]
  refine go _ _ ?_ ?_ ?_ ?_ ?_ ?_ ?_ ?_ ?_ ?_
  · simp (disch := omega) only [va_up_self, va_up_ne]
  all_goals first
    | (intro i; simp (disch := omega) only [va_up_self, va_up_ne]; rw [vu]; done)
    | (intro z hz; simp (disch := omega) only [va_up_self, va_up_ne]; done)
end RW

