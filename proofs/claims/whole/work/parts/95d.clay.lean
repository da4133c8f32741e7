/-! A marsh is laid out: the class. -/
section RL
variable {S : mS} {I J : mI} {L K : mL} {R : mR} {Q : mQ} {d x n k i lo hx : Nat} {B : Nat → Nat} {s : SG} {N : AS} {NL : Nat → List Nat} {mt : Bool}
variable {a b l : Nat} {p3 p4 p5 : Int32}
theorem lo_l (hl : lndL S R l) (ha0 : 0 < a) (ha : a ≤ 6) : ∀ (k i : Nat) (J : mI), i + k = 30 → (∀ c, c < i → J (l + 1) c = nI (c % a) ∧ J (l + 2) c = nI (c / a)) → (∀ J', (∀ c, c < 30 → J' (l + 1) c = nI (c % a) ∧ J' (l + 2) c = nI (c / a)) → (∀ z, z ≠ l + 1 → z ≠ l + 2 → J' z = J z) → WP (d, 0, 0) 95 77 [some (.ref l), some (.int (nI a)), some (.int (nI b)), some (.int p3), some (.int p4), some (.int p5), some (.int (nI 30))] [] S J' K R Q) → WP (d, 0, 0) 95 42 [some (.ref l), some (.int (nI a)), some (.int (nI b)), some (.int p3), some (.int p4), some (.int p5), some (.int (nI i))] [] S J K R Q
  | 0, i, J, h, hJ, go => by
    have hi : i = 30 := by omega
    subst hi
    have h9 := go J hJ (fun _ _ _ => rfl)
    simp (disch := first | assumption | exact cw0 | (simp only [lnd_k hl, lnd_R5 hl, lnd_k1 hl, lnd_n1 hl, lnd_R6 hl, lnd_k2 hl, lnd_n2 hl, lnd_R7 hl, lnd_k3 hl, lnd_n3 hl, lnd_R8 hl, lnd_k4 hl, lnd_n4 hl, lnd_R9 hl, lnd_k5 hl, lnd_n5 hl, lnd_R10 hl, lnd_k6 hl, lnd_n6 hl]; done) | omega | (simp (disch := first | assumption | omega) only [lnd_k hl, lnd_R5 hl, lnd_k1 hl, lnd_n1 hl, lnd_R6 hl, lnd_k2 hl, lnd_n2 hl, lnd_R7 hl, lnd_k3 hl, lnd_n3 hl, lnd_R8 hl, lnd_k4 hl, lnd_n4 hl, lnd_R9 hl, lnd_k5 hl, lnd_n5 hl, lnd_R10 hl, lnd_k6 hl, lnd_n6 hl, vin, cw_nil, cw_int, cw_ref, cw_long, bI_01]; done) | (simp (disch := first | assumption | omega) only [lnd_k hl, lnd_R5 hl, lnd_k1 hl, lnd_n1 hl, lnd_R6 hl, lnd_k2 hl, lnd_n2 hl, lnd_R7 hl, lnd_k3 hl, lnd_n3 hl, lnd_R8 hl, lnd_k4 hl, lnd_n4 hl, lnd_R9 hl, lnd_k5 hl, lnd_n5 hl, lnd_R10 hl, lnd_k6 hl, lnd_n6 hl, cw_nil, cw_int, cw_ref, cw_long]; omega) | decide) only [x_95_0, x_95_1, x_95_2, x_95_5, x_95_6, x_95_8, x_95_11, x_95_12, x_95_13, x_95_16, x_95_17, x_95_18, x_95_21, x_95_22, x_95_23, x_95_24, x_95_27, x_95_28, x_95_29, x_95_32, x_95_33, x_95_34, x_95_35, x_95_36, x_95_39, x_95_40, x_95_42, x_95_44, x_95_46, x_95_49, x_95_50, x_95_53, x_95_55, x_95_57, x_95_58, x_95_59, x_95_60, x_95_61, x_95_64, x_95_66, x_95_68, x_95_69, x_95_70, x_95_71, x_95_74, x_95_78, x_95_81, x_95_82, x_95_85, x_95_86, x_95_89, x_95_91, x_95_94, x_95_95, x_95_98, x_95_100, x_95_103, x_95_104, x_95_107, x_95_109, x_95_112, ↓reduceIte, va_rf_some, cw_nil, cw_int, cw_ref, cw_long, kl_int, kl_ref, kl_null, kl_long, kl_none, Option.toList_some, Option.toList_none, List.cons_append, List.nil_append, List.append_nil, lnd_k hl, lnd_R5 hl, lnd_k1 hl, lnd_n1 hl, lnd_R6 hl, lnd_k2 hl, lnd_n2 hl, lnd_R7 hl, lnd_k3 hl, lnd_n3 hl, lnd_R8 hl, lnd_k4 hl, lnd_n4 hl, lnd_R9 hl, lnd_k5 hl, lnd_n5 hl, lnd_R10 hl, lnd_k6 hl, lnd_n6 hl, nI_add, pk_mul, nI_clamp, nI_ltI, nI_leI, nI_eq, n10, Nat.reduceLT, Nat.reduceLeDiff, Nat.reduceEqDiff, Nat.reduceAdd, Nat.reduceMul, Nat.reduceSub, if_true, if_false, not_true, not_false_eq_true, decide_true, decide_false, Nat.lt_irrefl, Nat.le_refl, Nat.not_lt_zero, Nat.zero_le]
    exact h9
  | k + 1, i, J, h, hJ, go => by
    have hi : i < 30 := by omega
    have hi' : ¬ 30 ≤ i := by omega
    have ha' : ¬ nI a = 0 := fun q => by
      have : nI a = nI 0 := q
      have := (nI_eq (by omega) (by omega)).mp this
      omega
    have z1 : ∀ r, va_up J (l + 1) r (l + 2) = J (l + 2) := fun r => va_up_ne _ _ (by omega)
    rw [x_95_42]
    simp (disch := first | assumption | exact cw0 | (simp only [lnd_k hl, lnd_R5 hl, lnd_k1 hl, lnd_n1 hl, lnd_R6 hl, lnd_k2 hl, lnd_n2 hl, lnd_R7 hl, lnd_k3 hl, lnd_n3 hl, lnd_R8 hl, lnd_k4 hl, lnd_n4 hl, lnd_R9 hl, lnd_k5 hl, lnd_n5 hl, lnd_R10 hl, lnd_k6 hl, lnd_n6 hl]; done) | omega | (simp (disch := first | assumption | omega) only [lnd_k hl, lnd_R5 hl, lnd_k1 hl, lnd_n1 hl, lnd_R6 hl, lnd_k2 hl, lnd_n2 hl, lnd_R7 hl, lnd_k3 hl, lnd_n3 hl, lnd_R8 hl, lnd_k4 hl, lnd_n4 hl, lnd_R9 hl, lnd_k5 hl, lnd_n5 hl, lnd_R10 hl, lnd_k6 hl, lnd_n6 hl, vin, cw_nil, cw_int, cw_ref, cw_long, bI_01]; done) | (simp (disch := first | assumption | omega) only [lnd_k hl, lnd_R5 hl, lnd_k1 hl, lnd_n1 hl, lnd_R6 hl, lnd_k2 hl, lnd_n2 hl, lnd_R7 hl, lnd_k3 hl, lnd_n3 hl, lnd_R8 hl, lnd_k4 hl, lnd_n4 hl, lnd_R9 hl, lnd_k5 hl, lnd_n5 hl, lnd_R10 hl, lnd_k6 hl, lnd_n6 hl, cw_nil, cw_int, cw_ref, cw_long]; omega) | decide) only [x_95_0, x_95_1, x_95_2, x_95_5, x_95_6, x_95_8, x_95_11, x_95_12, x_95_13, x_95_16, x_95_17, x_95_18, x_95_21, x_95_22, x_95_23, x_95_24, x_95_27, x_95_28, x_95_29, x_95_32, x_95_33, x_95_34, x_95_35, x_95_36, x_95_39, x_95_40, x_95_44, x_95_46, x_95_49, x_95_50, x_95_53, x_95_55, x_95_57, x_95_58, x_95_59, x_95_60, x_95_61, x_95_64, x_95_66, x_95_68, x_95_69, x_95_70, x_95_71, x_95_74, x_95_78, x_95_81, x_95_82, x_95_85, x_95_86, x_95_89, x_95_91, x_95_94, x_95_95, x_95_98, x_95_100, x_95_103, x_95_104, x_95_107, x_95_109, x_95_112, ↓reduceIte, va_rf_some, cw_nil, cw_int, cw_ref, cw_long, kl_int, kl_ref, kl_null, kl_long, kl_none, Option.toList_some, Option.toList_none, List.cons_append, List.nil_append, List.append_nil, lnd_k hl, lnd_R5 hl, lnd_k1 hl, lnd_n1 hl, lnd_R6 hl, lnd_k2 hl, lnd_n2 hl, lnd_R7 hl, lnd_k3 hl, lnd_n3 hl, lnd_R8 hl, lnd_k4 hl, lnd_n4 hl, lnd_R9 hl, lnd_k5 hl, lnd_n5 hl, lnd_R10 hl, lnd_k6 hl, lnd_n6 hl, nI_add, pk_mul, nI_clamp, nI_ltI, nI_leI, nI_eq, n10, eq_false hi', rm_nI, pk_div, z1, Nat.reduceLT, Nat.reduceLeDiff, Nat.reduceEqDiff, Nat.reduceAdd, Nat.reduceMul, Nat.reduceSub, if_true, if_false, not_true, not_false_eq_true, decide_true, decide_false, Nat.lt_irrefl, Nat.le_refl, Nat.not_lt_zero, Nat.zero_le]
    refine lo_l hl ha0 ha k (i + 1) _ (by omega) ?_ ?_
    · intro c hc
      rw [va_up_ne _ _ (by omega), va_up_self, va_up_self]
      by_cases z : c = i
      · rw [z, va_up_self, va_up_self]
        exact ⟨rfl, rfl⟩
      · rw [va_up_ne _ _ z, va_up_ne _ _ z]
        exact hJ c (by omega)
    · intro J' h1 h2
      refine go J' h1 (fun z q1 q2 => ?_)
      rw [h2 z q1 q2, va_up_ne _ _ q2, va_up_ne _ _ q1]
theorem c_layOut (hl : lndL S R l) (ha0 : 1 ≤ a) (ha : a ≤ 6) (hb0 : 1 ≤ b) (hb : b ≤ 5) (go : ∀ J', J' l = va_up (va_up (va_up (J l) 0 (nI a)) 1 (nI b)) 2 (nI (a * b)) → (∀ c, c < 30 → J' (l + 1) c = nI (c % a) ∧ J' (l + 2) c = nI (c / a) ∧ J' (l + 3) c = p3 ∧ J' (l + 4) c = p4 ∧ J' (l + 5) c = p5 ∧ J' (l + 6) c = nI 8) → (∀ z, ¬ (l ≤ z ∧ z ≤ l + 6) → J' z = J z) → Q none S J' K R) : CA (d + 1) 95 [.ref l, .int (nI a), .int (nI b), .int p3, .int p4, .int p5] S J K R Q := by
  have g1 : ¬ a < 1 := by omega
  have g2 : ¬ 6 < a := by omega
  have g3 : ¬ b < 1 := by omega
  have g4 : ¬ 5 < b := by omega
  have ab : a * b ≤ 6 * 5 := Nat.mul_le_mul ha hb
  rw [ca_95]
  simp (disch := first | assumption | exact cw0 | (simp only [lnd_k hl, lnd_R5 hl, lnd_k1 hl, lnd_n1 hl, lnd_R6 hl, lnd_k2 hl, lnd_n2 hl, lnd_R7 hl, lnd_k3 hl, lnd_n3 hl, lnd_R8 hl, lnd_k4 hl, lnd_n4 hl, lnd_R9 hl, lnd_k5 hl, lnd_n5 hl, lnd_R10 hl, lnd_k6 hl, lnd_n6 hl]; done) | omega | (simp (disch := first | assumption | omega) only [lnd_k hl, lnd_R5 hl, lnd_k1 hl, lnd_n1 hl, lnd_R6 hl, lnd_k2 hl, lnd_n2 hl, lnd_R7 hl, lnd_k3 hl, lnd_n3 hl, lnd_R8 hl, lnd_k4 hl, lnd_n4 hl, lnd_R9 hl, lnd_k5 hl, lnd_n5 hl, lnd_R10 hl, lnd_k6 hl, lnd_n6 hl, vin, cw_nil, cw_int, cw_ref, cw_long, bI_01]; done) | (simp (disch := first | assumption | omega) only [lnd_k hl, lnd_R5 hl, lnd_k1 hl, lnd_n1 hl, lnd_R6 hl, lnd_k2 hl, lnd_n2 hl, lnd_R7 hl, lnd_k3 hl, lnd_n3 hl, lnd_R8 hl, lnd_k4 hl, lnd_n4 hl, lnd_R9 hl, lnd_k5 hl, lnd_n5 hl, lnd_R10 hl, lnd_k6 hl, lnd_n6 hl, cw_nil, cw_int, cw_ref, cw_long]; omega) | decide) only [x_95_0, x_95_1, x_95_2, x_95_5, x_95_6, x_95_8, x_95_11, x_95_12, x_95_13, x_95_16, x_95_17, x_95_18, x_95_21, x_95_22, x_95_23, x_95_24, x_95_27, x_95_28, x_95_29, x_95_32, x_95_33, x_95_34, x_95_35, x_95_36, x_95_39, x_95_40, x_95_44, x_95_46, x_95_49, x_95_50, x_95_53, x_95_55, x_95_57, x_95_58, x_95_59, x_95_60, x_95_61, x_95_64, x_95_66, x_95_68, x_95_69, x_95_70, x_95_71, x_95_74, x_95_78, x_95_81, x_95_82, x_95_85, x_95_86, x_95_89, x_95_91, x_95_94, x_95_95, x_95_98, x_95_100, x_95_103, x_95_104, x_95_107, x_95_109, x_95_112, ↓reduceIte, va_rf_some, cw_nil, cw_int, cw_ref, cw_long, kl_int, kl_ref, kl_null, kl_long, kl_none, Option.toList_some, Option.toList_none, List.cons_append, List.nil_append, List.append_nil, lnd_k hl, lnd_R5 hl, lnd_k1 hl, lnd_n1 hl, lnd_R6 hl, lnd_k2 hl, lnd_n2 hl, lnd_R7 hl, lnd_k3 hl, lnd_n3 hl, lnd_R8 hl, lnd_k4 hl, lnd_n4 hl, lnd_R9 hl, lnd_k5 hl, lnd_n5 hl, lnd_R10 hl, lnd_k6 hl, lnd_n6 hl, nI_add, pk_mul, nI_clamp, nI_ltI, nI_leI, nI_eq, n10, eq_false g1, eq_false g2, eq_false g3, eq_true hb, Nat.reduceLT, Nat.reduceLeDiff, Nat.reduceEqDiff, Nat.reduceAdd, Nat.reduceMul, Nat.reduceSub, if_true, if_false, not_true, not_false_eq_true, decide_true, decide_false, Nat.lt_irrefl, Nat.le_refl, Nat.not_lt_zero, Nat.zero_le]
  refine lo_l hl ha0 ha 30 0 _ (by omega) (fun c hc => absurd hc (by omega)) ?_
  intro J2 h1 h2
  have fl : ∀ (z : Nat) (J : mI) (v : Int32) (Q2 : mQ) (d2 : Nat), kd S z = 100 → ln S z = 30 → CA d2 365 [.ref z, .int v] S J K R Q2 = Q2 none S (filI J z 30 v) K R := fun z J v Q2 d2 h1 h2 => j_fillI h1 h2 (by omega)
  have fl3 := fun (J : mI) (v : Int32) (Q2 : mQ) (d2 : Nat) => fl _ J v Q2 d2 (lnd_k3 hl) (lnd_n3 hl)
  have fl4 := fun (J : mI) (v : Int32) (Q2 : mQ) (d2 : Nat) => fl _ J v Q2 d2 (lnd_k4 hl) (lnd_n4 hl)
  have fl5 := fun (J : mI) (v : Int32) (Q2 : mQ) (d2 : Nat) => fl _ J v Q2 d2 (lnd_k5 hl) (lnd_n5 hl)
  have fl6 := fun (J : mI) (v : Int32) (Q2 : mQ) (d2 : Nat) => fl _ J v Q2 d2 (lnd_k6 hl) (lnd_n6 hl)
  simp (disch := first | assumption | exact cw0 | (simp only [lnd_k hl, lnd_R5 hl, lnd_k1 hl, lnd_n1 hl, lnd_R6 hl, lnd_k2 hl, lnd_n2 hl, lnd_R7 hl, lnd_k3 hl, lnd_n3 hl, lnd_R8 hl, lnd_k4 hl, lnd_n4 hl, lnd_R9 hl, lnd_k5 hl, lnd_n5 hl, lnd_R10 hl, lnd_k6 hl, lnd_n6 hl]; done) | omega | (simp (disch := first | assumption | omega) only [lnd_k hl, lnd_R5 hl, lnd_k1 hl, lnd_n1 hl, lnd_R6 hl, lnd_k2 hl, lnd_n2 hl, lnd_R7 hl, lnd_k3 hl, lnd_n3 hl, lnd_R8 hl, lnd_k4 hl, lnd_n4 hl, lnd_R9 hl, lnd_k5 hl, lnd_n5 hl, lnd_R10 hl, lnd_k6 hl, lnd_n6 hl, vin, cw_nil, cw_int, cw_ref, cw_long, bI_01]; done) | (simp (disch := first | assumption | omega) only [lnd_k hl, lnd_R5 hl, lnd_k1 hl, lnd_n1 hl, lnd_R6 hl, lnd_k2 hl, lnd_n2 hl, lnd_R7 hl, lnd_k3 hl, lnd_n3 hl, lnd_R8 hl, lnd_k4 hl, lnd_n4 hl, lnd_R9 hl, lnd_k5 hl, lnd_n5 hl, lnd_R10 hl, lnd_k6 hl, lnd_n6 hl, cw_nil, cw_int, cw_ref, cw_long]; omega) | decide) only [x_95_0, x_95_1, x_95_2, x_95_5, x_95_6, x_95_8, x_95_11, x_95_12, x_95_13, x_95_16, x_95_17, x_95_18, x_95_21, x_95_22, x_95_23, x_95_24, x_95_27, x_95_28, x_95_29, x_95_32, x_95_33, x_95_34, x_95_35, x_95_36, x_95_39, x_95_40, x_95_44, x_95_46, x_95_49, x_95_50, x_95_53, x_95_55, x_95_57, x_95_58, x_95_59, x_95_60, x_95_61, x_95_64, x_95_66, x_95_68, x_95_69, x_95_70, x_95_71, x_95_74, x_95_77, x_95_78, x_95_81, x_95_82, x_95_85, x_95_86, x_95_89, x_95_91, x_95_94, x_95_95, x_95_98, x_95_100, x_95_103, x_95_104, x_95_107, x_95_109, x_95_112, ↓reduceIte, va_rf_some, cw_nil, cw_int, cw_ref, cw_long, kl_int, kl_ref, kl_null, kl_long, kl_none, Option.toList_some, Option.toList_none, List.cons_append, List.nil_append, List.append_nil, lnd_k hl, lnd_R5 hl, lnd_k1 hl, lnd_n1 hl, lnd_R6 hl, lnd_k2 hl, lnd_n2 hl, lnd_R7 hl, lnd_k3 hl, lnd_n3 hl, lnd_R8 hl, lnd_k4 hl, lnd_n4 hl, lnd_R9 hl, lnd_k5 hl, lnd_n5 hl, lnd_R10 hl, lnd_k6 hl, lnd_n6 hl, nI_add, pk_mul, nI_clamp, nI_ltI, nI_leI, nI_eq, n10, fl3, fl4, fl5, fl6, Nat.reduceLT, Nat.reduceLeDiff, Nat.reduceEqDiff, Nat.reduceAdd, Nat.reduceMul, Nat.reduceSub, if_true, if_false, not_true, not_false_eq_true, decide_true, decide_false, Nat.lt_irrefl, Nat.le_refl, Nat.not_lt_zero, Nat.zero_le]
  refine go _ ?_ ?_ ?_
  · unfold filI
    rw [va_up_ne _ _ (by omega), va_up_ne _ _ (by omega), va_up_ne _ _ (by omega), va_up_ne _ _ (by omega), h2 l (by omega) (by omega)]
    simp only [va_up_self]
  · intro c hc
    obtain ⟨r1, r2⟩ := h1 c hc
    unfold filI
    refine ⟨?_, ?_, ?_, ?_, ?_, ?_⟩
    · rw [va_up_ne _ _ (by omega), va_up_ne _ _ (by omega), va_up_ne _ _ (by omega), va_up_ne _ _ (by omega)]; exact r1
    · rw [va_up_ne _ _ (by omega), va_up_ne _ _ (by omega), va_up_ne _ _ (by omega), va_up_ne _ _ (by omega)]; exact r2
    · rw [va_up_ne _ _ (by omega), va_up_ne _ _ (by omega), va_up_ne _ _ (by omega), va_up_self]; exact if_pos hc
    · rw [va_up_ne _ _ (by omega), va_up_ne _ _ (by omega), va_up_self]; exact if_pos hc
    · rw [va_up_ne _ _ (by omega), va_up_self]; exact if_pos hc
    · rw [va_up_self]; exact if_pos hc
  · intro z hz
    unfold filI
    rw [va_up_ne _ _ (by omega), va_up_ne _ _ (by omega), va_up_ne _ _ (by omega), va_up_ne _ _ (by omega), h2 z (by omega) (by omega)]
    simp only [va_up_ne _ _ (by omega : z ≠ l)]
/-- the marsh just laid out -/
def layA (N : AS) (a b e f g : Nat) : AS := fun j => if j = 0 then a else if j = 1 then b else if 6 ≤ j ∧ j < 186 ∧ (j - 6) % 6 ≠ 5 then (if (j - 6) % 6 < 2 then e else if (j - 6) % 6 = 2 then f else if (j - 6) % 6 = 3 then g else 8) else N j
theorem layA_o {e f g j : Nat} (h : ¬ (j < 2)) (h2 : ¬ (6 ≤ j ∧ j < 186 ∧ (j - 6) % 6 ≠ 5)) : layA N a b e f g j = N j := by
  unfold layA
  rw [if_neg (by omega), if_neg (by omega), if_neg h2]
theorem layA_c {e f g c k : Nat} (hc : c < 30) (hk : k < 5) : cI (layA N a b e f g) c k = if k < 2 then e else if k = 2 then f else if k = 3 then g else 8 := by
  unfold cI layA
  have : (6 + 6 * c + k - 6) % 6 = k := by omega
  rw [if_neg (by omega), if_neg (by omega), this, if_pos (by omega)]
theorem msk_z {f : Nat → Bool} {n : Nat} (h : ∀ i, i < n → f i = false) : msk f n = 0 := by
  apply Nat.eq_of_testBit_eq
  intro i
  rw [msk_bit, Nat.zero_testBit]
  by_cases z : i < n
  · rw [h i z, Bool.and_false]
  · rw [decide_eq_false z, Bool.false_and]
theorem MCr.lay {e f g : Nat} {J' : mI} (h : MCr N NL mt x J K) (hW : WFA N) (hz : N 0 = 0) (ha0 : 1 ≤ a) (ha : a ≤ 6) (hb0 : 1 ≤ b) (hb : b ≤ 5) (h1 : J' (x + 33 + 1) = va_up (va_up (va_up (J (x + 33 + 1)) 0 (nI a)) 1 (nI b)) 2 (nI (a * b))) (h2 : ∀ c, c < 30 → J' (x + 33 + 1 + 1) c = nI (c % a) ∧ J' (x + 33 + 1 + 2) c = nI (c / a) ∧ J' (x + 33 + 1 + 3) c = nI e ∧ J' (x + 33 + 1 + 4) c = nI f ∧ J' (x + 33 + 1 + 5) c = nI g ∧ J' (x + 33 + 1 + 6) c = nI 8) (h3 : ∀ z, ¬ (x + 33 + 1 ≤ z ∧ z ≤ x + 33 + 1 + 6) → J' z = J z) : MCr (layA N a b e f g) NL mt x J' K := by
  obtain ⟨m1, m2, m3, m4, m5, m6⟩ := h
  obtain ⟨n2, n1⟩ := hW.z0 hz
  have u0 : layA N a b e f g 0 = a := if_pos rfl
  have u1 : layA N a b e f g 1 = b := rfl
  have u2 : layA N a b e f g 2 = 0 := by rw [layA_o (by omega) (by omega)]; exact n2
  have u3 : layA N a b e f g 3 = N 3 := layA_o (by omega) (by omega)
  have um : ∀ c, c < a * b → mc (layA N a b e f g) c < 30 := fun c hc => (mc_lt (by rw [u0]; exact ha) (by rw [u1]; exact hb) (by rw [u0, u1]; exact hc)).1
  have uf : fmk (layA N a b e f g) = 0 := by
    unfold fmk
    rw [u0, u1]
    refine msk_z (fun i hi => decide_eq_false (fun q => ?_))
    have e5 : cI (layA N a b e f g) (mc (layA N a b e f g) i) 5 = cI N (mc (layA N a b e f g) i) 5 := layA_o (by omega) (by omega)
    have := (hW.nh _ (um i hi) (by unfold hereB; rw [hz]; rw [decide_eq_false (Nat.not_lt_zero _)]; rfl)).2
    rw [e5, this] at q
    omega
  have vf : fmk N = 0 := by
    unfold fmk
    rw [hz, Nat.zero_mul]
    exact msk_z (fun i hi => absurd hi (by omega))
  refine ⟨?_, ?_, ?_, ?_, ?_, by rw [h3 _ (by omega)]; exact m6⟩
  · obtain ⟨a0, a1, a2, a3, a4, a5⟩ := m1
    refine ⟨by rw [h1, va_up_ne _ _ (by omega), va_up_ne _ _ (by omega), va_up_self, u0], by rw [h1, va_up_ne _ _ (by omega), va_up_self, u1], by rw [h1, va_up_self, u0, u1], by rw [h1, va_up_ne _ _ (by omega), va_up_ne _ _ (by omega), va_up_ne _ _ (by omega), u3]; exact a3, by rw [h1, va_up_ne _ _ (by omega), va_up_ne _ _ (by omega), va_up_ne _ _ (by omega), uf, a4, vf], ?_⟩
    intro c hc
    rw [u0, u1] at hc
    have q1 := um c hc
    have ab : a * b ≤ 6 * 5 := Nat.mul_le_mul ha hb
    rw [layA_c q1 (by omega), layA_c q1 (by omega), layA_c q1 (by omega), layA_c q1 (by omega), u0]
    exact h2 c (by omega)
  · refine FolkR_I (I := J) (fun i hi => h3 _ (by omega)) (FolkR.mk (by have := m2.ct; rw [n2] at this; rw [u2]; exact this) ?_ ?_ ?_ ?_ ?_)
    all_goals (intro w hw; rw [u2] at hw; exact absurd hw (by omega))
  · intro w hw; rw [u2] at hw; exact absurd hw (by omega)
  · intro w hw; rw [u2] at hw; exact absurd hw (by omega)
  · intro w hw; rw [u2] at hw; exact absurd hw (by omega)
end RL

