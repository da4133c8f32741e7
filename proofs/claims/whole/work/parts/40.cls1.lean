/-! The class: sets as masks; the ground. -/
def msk (f : Nat → Bool) : Nat → Nat
  | 0 => 0
  | n + 1 => msk f n ||| (if f n = true then 2 ^ n else 0)
theorem msk_bit (f : Nat → Bool) : ∀ n i, (msk f n).testBit i = (decide (i < n) && f i)
  | 0, i => by simp [msk]
  | n + 1, i => by
    unfold msk
    rw [Nat.testBit_or, msk_bit f n i]
    by_cases hf : f n = true
    · rw [if_pos hf, Nat.testBit_two_pow]
      by_cases h : i = n
      · subst h; simp [hf]
      · by_cases g : i < n
        · have : i < n + 1 := by omega
          simp [g, this]
          exact fun e => absurd e.symm h
        · have g2 : ¬ i < n + 1 := by omega
          have g3 : ¬ n = i := by omega
          simp [g, g2, g3]
    · rw [if_neg hf, Nat.zero_testBit]
      by_cases h : i = n
      · subst h; simp [hf]
      · by_cases g : i < n
        · have : i < n + 1 := by omega
          simp [g, this]
        · have g2 : ¬ i < n + 1 := by omega
          simp [g, g2]
theorem msk_lt (f : Nat → Bool) : ∀ n, msk f n < 2 ^ n
  | 0 => by simp [msk]
  | n + 1 => by
    unfold msk
    have ih := msk_lt f n
    have h1 : 2 ^ n < 2 ^ (n + 1) := Nat.pow_lt_pow_right (by decide) (by omega)
    refine Nat.or_lt_two_pow (Nat.lt_trans ih h1) ?_
    split
    · exact h1
    · exact Nat.two_pow_pos _
theorem nx_and2 (a b : Nat) : nI a &&& nI b = nI (a &&& b) := by
  apply Int32.toBitVec_inj.1
  show BitVec.ofNat 32 a &&& BitVec.ofNat 32 b = BitVec.ofNat 32 (a &&& b)
  apply BitVec.eq_of_getLsbD_eq
  intro i hi
  simp [hi]
theorem su32 : ∀ n, n < 32 → (((nI n).toUInt32 &&& Int32.toUInt32 31).toBitVec % 32).toNat = n := by decide +kernel
theorem ush_nI {a c : Nat} (ha : a < 2 ^ 32) (hc : c < 32) : ush (nI a) (nI c) = nI (a / 2 ^ c) := pk_ushrN ha _ c (su32 c hc)
theorem bit_nI {a c : Nat} (ha : a < 2 ^ 31) (hc : c < 32) : (ush (nI a) (nI c) &&& nI 1 = nI 0) = (a.testBit c = false) := by
  rw [ush_nI (by omega) hc, nx_and2]
  have h1 : a / 2 ^ c &&& 1 < 2 := by rw [Nat.and_one_is_mod]; omega
  rw [nI_eq (by omega) (by omega), Nat.testBit, Nat.shiftRight_eq_div_pow, Nat.and_comm]
  simp
theorem ge_no {x y : Nat} (hy : y < 2 ^ 30) (h : x < y) : ¬ nI 0 ≤ nI x - nI y := by
  have h1 := pk_sneg hy h
  rw [Int32.lt_iff_toInt_lt] at h1
  rw [Int32.le_iff_toInt_le]
  have : (nI 0).toInt = 0 := rfl
  have : (0 : Int32).toInt = 0 := rfl
  omega
theorem nI_ge0 {a : Nat} (h : a < 2 ^ 31) : nI 0 ≤ nI a := (nI_leI (by omega) h).mpr (Nat.zero_le _)
theorem ng_no {x y : Nat} (h : x < y) : -(nI x - nI y) = nI (y - x) := by
  have e : -(nI x - nI y) = nI y - nI x := by
    rw [Int32.sub_eq_add_neg, Int32.neg_add, Int32.sub_eq_add_neg, Int32.neg_neg, Int32.sub_eq_add_neg, Int32.add_comm]
  rw [e, pk_sub (by omega)]
/-- the class's cell c in the model's count -/
def mc (A : AS) (c : Nat) : Nat := 6 * (c / A 0) + c % A 0
def fmk (A : AS) : Nat := msk (fun c => decide (cI A (mc A c) 5 = 1)) (A 0 * A 1)
def lndL (S : mS) (R : mR) (t : Nat) : Prop := kd S t = 3 ∧ (R t 5 = some (t + 1) ∧ kd S (t + 1) = 100 ∧ ln S (t + 1) = 30) ∧ (R t 6 = some (t + 2) ∧ kd S (t + 2) = 100 ∧ ln S (t + 2) = 30) ∧ (R t 7 = some (t + 3) ∧ kd S (t + 3) = 100 ∧ ln S (t + 3) = 30) ∧ (R t 8 = some (t + 4) ∧ kd S (t + 4) = 100 ∧ ln S (t + 4) = 30) ∧ (R t 9 = some (t + 5) ∧ kd S (t + 5) = 100 ∧ ln S (t + 5) = 30) ∧ (R t 10 = some (t + 6) ∧ kd S (t + 6) = 100 ∧ ln S (t + 6) = 30)
theorem lnd_k {S : mS} {R : mR} {t : Nat} (h : lndL S R t) : kd S t = 3 := h.1
theorem lnd_R5 {S : mS} {R : mR} {t : Nat} (h : lndL S R t) : R t 5 = some (t + 1) := h.2.1.1
theorem lnd_k1 {S : mS} {R : mR} {t : Nat} (h : lndL S R t) : kd S (t + 1) = 100 := h.2.1.2.1
theorem lnd_n1 {S : mS} {R : mR} {t : Nat} (h : lndL S R t) : ln S (t + 1) = 30 := h.2.1.2.2
theorem lnd_R6 {S : mS} {R : mR} {t : Nat} (h : lndL S R t) : R t 6 = some (t + 2) := h.2.2.1.1
theorem lnd_k2 {S : mS} {R : mR} {t : Nat} (h : lndL S R t) : kd S (t + 2) = 100 := h.2.2.1.2.1
theorem lnd_n2 {S : mS} {R : mR} {t : Nat} (h : lndL S R t) : ln S (t + 2) = 30 := h.2.2.1.2.2
theorem lnd_R7 {S : mS} {R : mR} {t : Nat} (h : lndL S R t) : R t 7 = some (t + 3) := h.2.2.2.1.1
theorem lnd_k3 {S : mS} {R : mR} {t : Nat} (h : lndL S R t) : kd S (t + 3) = 100 := h.2.2.2.1.2.1
theorem lnd_n3 {S : mS} {R : mR} {t : Nat} (h : lndL S R t) : ln S (t + 3) = 30 := h.2.2.2.1.2.2
theorem lnd_R8 {S : mS} {R : mR} {t : Nat} (h : lndL S R t) : R t 8 = some (t + 4) := h.2.2.2.2.1.1
theorem lnd_k4 {S : mS} {R : mR} {t : Nat} (h : lndL S R t) : kd S (t + 4) = 100 := h.2.2.2.2.1.2.1
theorem lnd_n4 {S : mS} {R : mR} {t : Nat} (h : lndL S R t) : ln S (t + 4) = 30 := h.2.2.2.2.1.2.2
theorem lnd_R9 {S : mS} {R : mR} {t : Nat} (h : lndL S R t) : R t 9 = some (t + 5) := h.2.2.2.2.2.1.1
theorem lnd_k5 {S : mS} {R : mR} {t : Nat} (h : lndL S R t) : kd S (t + 5) = 100 := h.2.2.2.2.2.1.2.1
theorem lnd_n5 {S : mS} {R : mR} {t : Nat} (h : lndL S R t) : ln S (t + 5) = 30 := h.2.2.2.2.2.1.2.2
theorem lnd_R10 {S : mS} {R : mR} {t : Nat} (h : lndL S R t) : R t 10 = some (t + 6) := h.2.2.2.2.2.2.1
theorem lnd_k6 {S : mS} {R : mR} {t : Nat} (h : lndL S R t) : kd S (t + 6) = 100 := h.2.2.2.2.2.2.2.1
theorem lnd_n6 {S : mS} {R : mR} {t : Nat} (h : lndL S R t) : ln S (t + 6) = 30 := h.2.2.2.2.2.2.2.2
/-- the ground at t is that of A -/
def LandR (A : AS) (t : Nat) (I : mI) : Prop := I t 0 = nI (A 0) ∧ I t 1 = nI (A 1) ∧ I t 2 = nI (A 0 * A 1) ∧ I t 3 = nI (A 3) ∧ I t 4 = nI (fmk A) ∧ ∀ c, c < A 0 * A 1 → I (t + 1) c = nI (c % A 0) ∧ I (t + 2) c = nI (c / A 0) ∧ I (t + 3) c = nI (cI A (mc A c) 1) ∧ I (t + 4) c = nI (cI A (mc A c) 2) ∧ I (t + 5) c = nI (cI A (mc A c) 3) ∧ I (t + 6) c = nI (cI A (mc A c) 4)
theorem mul30 {a b : Nat} (h0 : a ≤ 6) (h1 : b ≤ 5) : a * b ≤ 30 := Nat.mul_le_mul h0 h1
theorem mc_x {A : AS} {c : Nat} (h0 : A 0 ≤ 6) (h1 : 0 < A 0) : mc A c % 6 = c % A 0 ∧ mc A c / 6 = c / A 0 := by
  have := Nat.mod_lt c h1
  unfold mc
  omega
section C1
variable {S : mS} {I : mI} {L : mL} {R : mR} {Q : mQ} {d t : Nat} {A : AS}
theorem c_hasRow {y : Int32} (h : lndL S R t) (hR : LandR A t I) : CA d 97 [.ref t, .int y] S I L R Q = Q (some (.int (bI (¬ y < nI 0 ∧ ¬ nI (A 1) ≤ y)))) S I L R := by
  rw [ca_97]
  simp (disch := first | assumption | exact cw0 | (simp only [lnd_k h, lnd_R5 h, lnd_k1 h, lnd_n1 h, lnd_R6 h, lnd_k2 h, lnd_n2 h, lnd_R7 h, lnd_k3 h, lnd_n3 h, lnd_R8 h, lnd_k4 h, lnd_n4 h, lnd_R9 h, lnd_k5 h, lnd_n5 h, lnd_R10 h, lnd_k6 h, lnd_n6 h]; done) | omega | (simp (disch := first | assumption | omega) only [lnd_k h, lnd_R5 h, lnd_k1 h, lnd_n1 h, lnd_R6 h, lnd_k2 h, lnd_n2 h, lnd_R7 h, lnd_k3 h, lnd_n3 h, lnd_R8 h, lnd_k4 h, lnd_n4 h, lnd_R9 h, lnd_k5 h, lnd_n5 h, lnd_R10 h, lnd_k6 h, lnd_n6 h, vin, cw_nil, cw_int, cw_ref, cw_long, bI_01]; done) | (simp (disch := first | assumption | omega) only [lnd_k h, lnd_R5 h, lnd_k1 h, lnd_n1 h, lnd_R6 h, lnd_k2 h, lnd_n2 h, lnd_R7 h, lnd_k3 h, lnd_n3 h, lnd_R8 h, lnd_k4 h, lnd_n4 h, lnd_R9 h, lnd_k5 h, lnd_n5 h, lnd_R10 h, lnd_k6 h, lnd_n6 h, cw_nil, cw_int, cw_ref, cw_long]; omega) | decide) only [x_97_0, x_97_1, x_97_4, x_97_5, x_97_6, x_97_9, x_97_12, x_97_13, x_97_16, x_97_17, ↓reduceIte, va_rf_some, cw_nil, cw_int, cw_ref, cw_long, kl_int, kl_ref, kl_null, kl_long, kl_none, Option.toList_some, Option.toList_none, List.cons_append, List.nil_append, List.append_nil, lnd_k h, lnd_R5 h, lnd_k1 h, lnd_n1 h, lnd_R6 h, lnd_k2 h, lnd_n2 h, lnd_R7 h, lnd_k3 h, lnd_n3 h, lnd_R8 h, lnd_k4 h, lnd_n4 h, lnd_R9 h, lnd_k5 h, lnd_n5 h, lnd_R10 h, lnd_k6 h, lnd_n6 h, nI_add, pk_mul, nI_clamp, nI_ltI, nI_leI, nI_eq, q_ite, hR.2.1]
  congr 3; unfold bI; by_cases g1 : y < nI 0 <;> by_cases g2 : nI (A 1) ≤ y <;> simp [g1, g2]
theorem c_has {y : Int32} (h : lndL S R t) (hR : LandR A t I) : CA d 102 [.ref t, .int y] S I L R Q = Q (some (.int (bI (¬ y < nI 0 ∧ ¬ nI (A 0 * A 1) ≤ y)))) S I L R := by
  rw [ca_102]
  simp (disch := first | assumption | exact cw0 | (simp only [lnd_k h, lnd_R5 h, lnd_k1 h, lnd_n1 h, lnd_R6 h, lnd_k2 h, lnd_n2 h, lnd_R7 h, lnd_k3 h, lnd_n3 h, lnd_R8 h, lnd_k4 h, lnd_n4 h, lnd_R9 h, lnd_k5 h, lnd_n5 h, lnd_R10 h, lnd_k6 h, lnd_n6 h]; done) | omega | (simp (disch := first | assumption | omega) only [lnd_k h, lnd_R5 h, lnd_k1 h, lnd_n1 h, lnd_R6 h, lnd_k2 h, lnd_n2 h, lnd_R7 h, lnd_k3 h, lnd_n3 h, lnd_R8 h, lnd_k4 h, lnd_n4 h, lnd_R9 h, lnd_k5 h, lnd_n5 h, lnd_R10 h, lnd_k6 h, lnd_n6 h, vin, cw_nil, cw_int, cw_ref, cw_long, bI_01]; done) | (simp (disch := first | assumption | omega) only [lnd_k h, lnd_R5 h, lnd_k1 h, lnd_n1 h, lnd_R6 h, lnd_k2 h, lnd_n2 h, lnd_R7 h, lnd_k3 h, lnd_n3 h, lnd_R8 h, lnd_k4 h, lnd_n4 h, lnd_R9 h, lnd_k5 h, lnd_n5 h, lnd_R10 h, lnd_k6 h, lnd_n6 h, cw_nil, cw_int, cw_ref, cw_long]; omega) | decide) only [x_102_0, x_102_1, x_102_4, x_102_5, x_102_6, x_102_9, x_102_12, x_102_13, x_102_16, x_102_17, ↓reduceIte, va_rf_some, cw_nil, cw_int, cw_ref, cw_long, kl_int, kl_ref, kl_null, kl_long, kl_none, Option.toList_some, Option.toList_none, List.cons_append, List.nil_append, List.append_nil, lnd_k h, lnd_R5 h, lnd_k1 h, lnd_n1 h, lnd_R6 h, lnd_k2 h, lnd_n2 h, lnd_R7 h, lnd_k3 h, lnd_n3 h, lnd_R8 h, lnd_k4 h, lnd_n4 h, lnd_R9 h, lnd_k5 h, lnd_n5 h, lnd_R10 h, lnd_k6 h, lnd_n6 h, nI_add, pk_mul, nI_clamp, nI_ltI, nI_leI, nI_eq, q_ite, hR.2.2.1]
  congr 3; unfold bI; by_cases g1 : y < nI 0 <;> by_cases g2 : nI (A 0 * A 1) ≤ y <;> simp [g1, g2]
theorem c_cellAt {x y : Int32} (h : lndL S R t) (hR : LandR A t I) : CA (d + 1) 96 [.ref t, .int x, .int y] S I L R Q = Q (some (.int (if (¬ x < nI 0 ∧ ¬ nI (A 0) ≤ x) ∧ ¬ y < nI 0 ∧ ¬ nI (A 1) ≤ y then y * nI (A 0) + x else -1))) S I L R := by
  rw [ca_96]
  simp (disch := first | assumption | exact cw0 | (simp only [lnd_k h, lnd_R5 h, lnd_k1 h, lnd_n1 h, lnd_R6 h, lnd_k2 h, lnd_n2 h, lnd_R7 h, lnd_k3 h, lnd_n3 h, lnd_R8 h, lnd_k4 h, lnd_n4 h, lnd_R9 h, lnd_k5 h, lnd_n5 h, lnd_R10 h, lnd_k6 h, lnd_n6 h]; done) | omega | (simp (disch := first | assumption | omega) only [lnd_k h, lnd_R5 h, lnd_k1 h, lnd_n1 h, lnd_R6 h, lnd_k2 h, lnd_n2 h, lnd_R7 h, lnd_k3 h, lnd_n3 h, lnd_R8 h, lnd_k4 h, lnd_n4 h, lnd_R9 h, lnd_k5 h, lnd_n5 h, lnd_R10 h, lnd_k6 h, lnd_n6 h, vin, cw_nil, cw_int, cw_ref, cw_long, bI_01]; done) | (simp (disch := first | assumption | omega) only [lnd_k h, lnd_R5 h, lnd_k1 h, lnd_n1 h, lnd_R6 h, lnd_k2 h, lnd_n2 h, lnd_R7 h, lnd_k3 h, lnd_n3 h, lnd_R8 h, lnd_k4 h, lnd_n4 h, lnd_R9 h, lnd_k5 h, lnd_n5 h, lnd_R10 h, lnd_k6 h, lnd_n6 h, cw_nil, cw_int, cw_ref, cw_long]; omega) | decide) only [x_96_0, x_96_1, x_96_4, x_96_5, x_96_6, x_96_9, x_96_12, x_96_13, x_96_14, x_96_17, x_96_20, x_96_21, x_96_22, x_96_25, x_96_26, x_96_27, x_96_28, x_96_31, x_96_32, ↓reduceIte, va_rf_some, cw_nil, cw_int, cw_ref, cw_long, kl_int, kl_ref, kl_null, kl_long, kl_none, Option.toList_some, Option.toList_none, List.cons_append, List.nil_append, List.append_nil, lnd_k h, lnd_R5 h, lnd_k1 h, lnd_n1 h, lnd_R6 h, lnd_k2 h, lnd_n2 h, lnd_R7 h, lnd_k3 h, lnd_n3 h, lnd_R8 h, lnd_k4 h, lnd_n4 h, lnd_R9 h, lnd_k5 h, lnd_n5 h, lnd_R10 h, lnd_k6 h, lnd_n6 h, nI_add, pk_mul, nI_clamp, nI_ltI, nI_leI, nI_eq, q_ite, hR.1, c_hasRow h hR, bI_0]
  congr 3; by_cases g1 : x < nI 0 <;> by_cases g2 : nI (A 0) ≤ x <;> by_cases g3 : y < nI 0 <;> by_cases g4 : nI (A 1) ≤ y <;> simp [g1, g2, g3, g4]
theorem c_columnOf {c : Nat} (h : lndL S R t) (hR : LandR A t I) (h0 : A 0 ≤ 6) (h1 : A 1 ≤ 5) (hc : c < A 0 * A 1) : CA (d + 1) 101 [.ref t, .int (nI c)] S I L R Q = Q (some (.int (nI (c % A 0)))) S I L R := by
  have h30 := mul30 h0 h1
  have g1 : ¬ nI c < nI 0 := by rw [nI_ltI (by omega) (by omega)]; omega
  have g2 : ¬ nI (A 0 * A 1) ≤ nI c := by rw [nI_leI (by omega) (by omega)]; omega
  have g3 : ¬ ¬ (¬ nI c < nI 0 ∧ ¬ nI (A 0 * A 1) ≤ nI c) := fun q => q ⟨g1, g2⟩
  rw [ca_101]
  simp (disch := first | assumption | exact cw0 | (simp only [lnd_k h, lnd_R5 h, lnd_k1 h, lnd_n1 h, lnd_R6 h, lnd_k2 h, lnd_n2 h, lnd_R7 h, lnd_k3 h, lnd_n3 h, lnd_R8 h, lnd_k4 h, lnd_n4 h, lnd_R9 h, lnd_k5 h, lnd_n5 h, lnd_R10 h, lnd_k6 h, lnd_n6 h]; done) | omega | (simp (disch := first | assumption | omega) only [lnd_k h, lnd_R5 h, lnd_k1 h, lnd_n1 h, lnd_R6 h, lnd_k2 h, lnd_n2 h, lnd_R7 h, lnd_k3 h, lnd_n3 h, lnd_R8 h, lnd_k4 h, lnd_n4 h, lnd_R9 h, lnd_k5 h, lnd_n5 h, lnd_R10 h, lnd_k6 h, lnd_n6 h, vin, cw_nil, cw_int, cw_ref, cw_long, bI_01]; done) | (simp (disch := first | assumption | omega) only [lnd_k h, lnd_R5 h, lnd_k1 h, lnd_n1 h, lnd_R6 h, lnd_k2 h, lnd_n2 h, lnd_R7 h, lnd_k3 h, lnd_n3 h, lnd_R8 h, lnd_k4 h, lnd_n4 h, lnd_R9 h, lnd_k5 h, lnd_n5 h, lnd_R10 h, lnd_k6 h, lnd_n6 h, cw_nil, cw_int, cw_ref, cw_long]; omega) | decide) only [x_101_0, x_101_1, x_101_2, x_101_5, x_101_8, x_101_9, x_101_12, x_101_13, x_101_14, x_101_17, x_101_18, ↓reduceIte, va_rf_some, cw_nil, cw_int, cw_ref, cw_long, kl_int, kl_ref, kl_null, kl_long, kl_none, Option.toList_some, Option.toList_none, List.cons_append, List.nil_append, List.append_nil, lnd_k h, lnd_R5 h, lnd_k1 h, lnd_n1 h, lnd_R6 h, lnd_k2 h, lnd_n2 h, lnd_R7 h, lnd_k3 h, lnd_n3 h, lnd_R8 h, lnd_k4 h, lnd_n4 h, lnd_R9 h, lnd_k5 h, lnd_n5 h, lnd_R10 h, lnd_k6 h, lnd_n6 h, nI_add, pk_mul, nI_clamp, nI_ltI, nI_leI, nI_eq, c_has h hR, bI_0, (hR.2.2.2.2.2 c hc).1, g1, g2, not_false_eq_true, and_self, not_true, eq_false g3]
theorem c_rowOf {c : Nat} (h : lndL S R t) (hR : LandR A t I) (h0 : A 0 ≤ 6) (h1 : A 1 ≤ 5) (hc : c < A 0 * A 1) : CA (d + 1) 103 [.ref t, .int (nI c)] S I L R Q = Q (some (.int (nI (c / A 0)))) S I L R := by
  have h30 := mul30 h0 h1
  have g1 : ¬ nI c < nI 0 := by rw [nI_ltI (by omega) (by omega)]; omega
  have g2 : ¬ nI (A 0 * A 1) ≤ nI c := by rw [nI_leI (by omega) (by omega)]; omega
  have g3 : ¬ ¬ (¬ nI c < nI 0 ∧ ¬ nI (A 0 * A 1) ≤ nI c) := fun q => q ⟨g1, g2⟩
  rw [ca_103]
  simp (disch := first | assumption | exact cw0 | (simp only [lnd_k h, lnd_R5 h, lnd_k1 h, lnd_n1 h, lnd_R6 h, lnd_k2 h, lnd_n2 h, lnd_R7 h, lnd_k3 h, lnd_n3 h, lnd_R8 h, lnd_k4 h, lnd_n4 h, lnd_R9 h, lnd_k5 h, lnd_n5 h, lnd_R10 h, lnd_k6 h, lnd_n6 h]; done) | omega | (simp (disch := first | assumption | omega) only [lnd_k h, lnd_R5 h, lnd_k1 h, lnd_n1 h, lnd_R6 h, lnd_k2 h, lnd_n2 h, lnd_R7 h, lnd_k3 h, lnd_n3 h, lnd_R8 h, lnd_k4 h, lnd_n4 h, lnd_R9 h, lnd_k5 h, lnd_n5 h, lnd_R10 h, lnd_k6 h, lnd_n6 h, vin, cw_nil, cw_int, cw_ref, cw_long, bI_01]; done) | (simp (disch := first | assumption | omega) only [lnd_k h, lnd_R5 h, lnd_k1 h, lnd_n1 h, lnd_R6 h, lnd_k2 h, lnd_n2 h, lnd_R7 h, lnd_k3 h, lnd_n3 h, lnd_R8 h, lnd_k4 h, lnd_n4 h, lnd_R9 h, lnd_k5 h, lnd_n5 h, lnd_R10 h, lnd_k6 h, lnd_n6 h, cw_nil, cw_int, cw_ref, cw_long]; omega) | decide) only [x_103_0, x_103_1, x_103_2, x_103_5, x_103_8, x_103_9, x_103_12, x_103_13, x_103_14, x_103_17, x_103_18, ↓reduceIte, va_rf_some, cw_nil, cw_int, cw_ref, cw_long, kl_int, kl_ref, kl_null, kl_long, kl_none, Option.toList_some, Option.toList_none, List.cons_append, List.nil_append, List.append_nil, lnd_k h, lnd_R5 h, lnd_k1 h, lnd_n1 h, lnd_R6 h, lnd_k2 h, lnd_n2 h, lnd_R7 h, lnd_k3 h, lnd_n3 h, lnd_R8 h, lnd_k4 h, lnd_n4 h, lnd_R9 h, lnd_k5 h, lnd_n5 h, lnd_R10 h, lnd_k6 h, lnd_n6 h, nI_add, pk_mul, nI_clamp, nI_ltI, nI_leI, nI_eq, c_has h hR, bI_0, (hR.2.2.2.2.2 c hc).2.1, g1, g2, not_false_eq_true, and_self, not_true, eq_false g3]
theorem c_isFirm {c : Nat} (h : lndL S R t) (hR : LandR A t I) (h0 : A 0 ≤ 6) (h1 : A 1 ≤ 5) (hc : c < A 0 * A 1) : CA d 100 [.ref t, .int (nI c)] S I L R Q = Q (some (.int (bI (cI A (mc A c) 5 = 1)))) S I L R := by
  have h30 := mul30 h0 h1
  have hf : fmk A < 2 ^ 31 := Nat.lt_of_lt_of_le (msk_lt _ _) (Nat.pow_le_pow_right (by decide) (by omega))
  have hb : (fmk A).testBit c = decide (cI A (mc A c) 5 = 1) := by unfold fmk; rw [msk_bit]; simp [hc]
  rw [ca_100]
  simp (disch := first | assumption | exact cw0 | (simp only [lnd_k h, lnd_R5 h, lnd_k1 h, lnd_n1 h, lnd_R6 h, lnd_k2 h, lnd_n2 h, lnd_R7 h, lnd_k3 h, lnd_n3 h, lnd_R8 h, lnd_k4 h, lnd_n4 h, lnd_R9 h, lnd_k5 h, lnd_n5 h, lnd_R10 h, lnd_k6 h, lnd_n6 h]; done) | omega | (simp (disch := first | assumption | omega) only [lnd_k h, lnd_R5 h, lnd_k1 h, lnd_n1 h, lnd_R6 h, lnd_k2 h, lnd_n2 h, lnd_R7 h, lnd_k3 h, lnd_n3 h, lnd_R8 h, lnd_k4 h, lnd_n4 h, lnd_R9 h, lnd_k5 h, lnd_n5 h, lnd_R10 h, lnd_k6 h, lnd_n6 h, vin, cw_nil, cw_int, cw_ref, cw_long, bI_01]; done) | (simp (disch := first | assumption | omega) only [lnd_k h, lnd_R5 h, lnd_k1 h, lnd_n1 h, lnd_R6 h, lnd_k2 h, lnd_n2 h, lnd_R7 h, lnd_k3 h, lnd_n3 h, lnd_R8 h, lnd_k4 h, lnd_n4 h, lnd_R9 h, lnd_k5 h, lnd_n5 h, lnd_R10 h, lnd_k6 h, lnd_n6 h, cw_nil, cw_int, cw_ref, cw_long]; omega) | decide) only [x_100_0, x_100_1, x_100_4, x_100_5, x_100_6, x_100_7, x_100_8, x_100_11, x_100_12, x_100_15, x_100_16, ↓reduceIte, va_rf_some, cw_nil, cw_int, cw_ref, cw_long, kl_int, kl_ref, kl_null, kl_long, kl_none, Option.toList_some, Option.toList_none, List.cons_append, List.nil_append, List.append_nil, lnd_k h, lnd_R5 h, lnd_k1 h, lnd_n1 h, lnd_R6 h, lnd_k2 h, lnd_n2 h, lnd_R7 h, lnd_k3 h, lnd_n3 h, lnd_R8 h, lnd_k4 h, lnd_n4 h, lnd_R9 h, lnd_k5 h, lnd_n5 h, lnd_R10 h, lnd_k6 h, lnd_n6 h, nI_add, pk_mul, nI_clamp, nI_ltI, nI_leI, nI_eq, hR.2.2.2.2.1, bit_nI, q_ite]
  congr 3; rw [hb]; unfold bI; by_cases g : cI A (mc A c) 5 = 1 <;> simp [g]
theorem c_apart {a b : Nat} (h : lndL S R t) (hR : LandR A t I) (h0 : A 0 ≤ 6) (h1 : A 1 ≤ 5) (ha : a < A 0 * A 1) (hb : b < A 0 * A 1) : CA d 104 [.ref t, .int (nI a), .int (nI b)] S I L R Q = Q (some (.int (nI (far (mc A a) (mc A b))))) S I L R := by
  have h30 := mul30 h0 h1
  have hp : 0 < A 0 := by
    rcases Nat.eq_zero_or_pos (A 0) with q | q
    · rw [q, Nat.zero_mul] at ha; omega
    · exact q
  have ga : ¬ A 0 * A 1 ≤ a := by omega
  have gb : ¬ A 0 * A 1 ≤ b := by omega
  have ma := Nat.mod_lt a hp
  have mb := Nat.mod_lt b hp
  have da : a / A 0 < 30 := Nat.lt_of_le_of_lt (Nat.div_le_self _ _) (by omega)
  have db : b / A 0 < 30 := Nat.lt_of_le_of_lt (Nat.div_le_self _ _) (by omega)
  have za : 0 ≤ a / A 0 := Nat.zero_le _
  have zb : 0 ≤ b / A 0 := Nat.zero_le _
  rw [ca_104]
  have fin : far (mc A a) (mc A b) = ((a % A 0 - b % A 0) + (b % A 0 - a % A 0)) + ((a / A 0 - b / A 0) + (b / A 0 - a / A 0)) := by
    unfold far
    rw [(mc_x h0 hp).1, (mc_x h0 hp).2, (mc_x h0 hp).1, (mc_x h0 hp).2]
  rw [fin]
  have z : ¬ nI a < nI 0 := by rw [nI_ltI (by omega) (by omega)]; omega
  have z2 : ¬ nI b < nI 0 := by rw [nI_ltI (by omega) (by omega)]; omega
  by_cases p : a % A 0 < b % A 0 <;> by_cases q : a / A 0 < b / A 0
  · have s1 : (a % A 0 - b % A 0) + (b % A 0 - a % A 0) = b % A 0 - a % A 0 := by omega
    have s2 : (a / A 0 - b / A 0) + (b / A 0 - a / A 0) = b / A 0 - a / A 0 := by omega
    rw [s1, s2]
    simp (disch := first | assumption | exact cw0 | (simp only [lnd_k h, lnd_R5 h, lnd_k1 h, lnd_n1 h, lnd_R6 h, lnd_k2 h, lnd_n2 h, lnd_R7 h, lnd_k3 h, lnd_n3 h, lnd_R8 h, lnd_k4 h, lnd_n4 h, lnd_R9 h, lnd_k5 h, lnd_n5 h, lnd_R10 h, lnd_k6 h, lnd_n6 h]; done) | omega | (simp (disch := first | assumption | omega) only [lnd_k h, lnd_R5 h, lnd_k1 h, lnd_n1 h, lnd_R6 h, lnd_k2 h, lnd_n2 h, lnd_R7 h, lnd_k3 h, lnd_n3 h, lnd_R8 h, lnd_k4 h, lnd_n4 h, lnd_R9 h, lnd_k5 h, lnd_n5 h, lnd_R10 h, lnd_k6 h, lnd_n6 h, vin, cw_nil, cw_int, cw_ref, cw_long, bI_01]; done) | (simp (disch := first | assumption | omega) only [lnd_k h, lnd_R5 h, lnd_k1 h, lnd_n1 h, lnd_R6 h, lnd_k2 h, lnd_n2 h, lnd_R7 h, lnd_k3 h, lnd_n3 h, lnd_R8 h, lnd_k4 h, lnd_n4 h, lnd_R9 h, lnd_k5 h, lnd_n5 h, lnd_R10 h, lnd_k6 h, lnd_n6 h, cw_nil, cw_int, cw_ref, cw_long]; omega) | decide) only [x_104_0, x_104_1, x_104_4, x_104_5, x_104_6, x_104_9, x_104_12, x_104_13, x_104_16, x_104_17, x_104_18, x_104_21, x_104_24, x_104_26, x_104_27, x_104_28, x_104_31, x_104_32, x_104_33, x_104_34, x_104_37, x_104_38, x_104_39, x_104_40, x_104_41, x_104_42, x_104_45, x_104_46, x_104_47, x_104_48, x_104_51, x_104_52, x_104_53, x_104_54, x_104_56, x_104_57, x_104_60, x_104_61, x_104_62, x_104_65, x_104_66, x_104_68, x_104_71, x_104_73, x_104_74, x_104_77, x_104_79, x_104_80, ↓reduceIte, va_rf_some, cw_nil, cw_int, cw_ref, cw_long, kl_int, kl_ref, kl_null, kl_long, kl_none, Option.toList_some, Option.toList_none, List.cons_append, List.nil_append, List.append_nil, lnd_k h, lnd_R5 h, lnd_k1 h, lnd_n1 h, lnd_R6 h, lnd_k2 h, lnd_n2 h, lnd_R7 h, lnd_k3 h, lnd_n3 h, lnd_R8 h, lnd_k4 h, lnd_n4 h, lnd_R9 h, lnd_k5 h, lnd_n5 h, lnd_R10 h, lnd_k6 h, lnd_n6 h, nI_add, pk_mul, nI_clamp, nI_ltI, nI_leI, nI_eq, hR.2.2.1, eq_false ga, eq_false gb, eq_true hb, Nat.not_lt_zero, (hR.2.2.2.2.2 a ha).1, (hR.2.2.2.2.2 a ha).2.1, (hR.2.2.2.2.2 b hb).1, (hR.2.2.2.2.2 b hb).2.1, eq_false (ge_no (by omega) p), eq_false (ge_no (by omega) q), ng_no p, ng_no q]
  · have s1 : (a % A 0 - b % A 0) + (b % A 0 - a % A 0) = b % A 0 - a % A 0 := by omega
    have s2 : (a / A 0 - b / A 0) + (b / A 0 - a / A 0) = a / A 0 - b / A 0 := by omega
    rw [s1, s2]
    have e2 : nI (a / A 0) - nI (b / A 0) = nI (a / A 0 - b / A 0) := pk_sub (by omega)
    simp (disch := first | assumption | exact cw0 | (simp only [lnd_k h, lnd_R5 h, lnd_k1 h, lnd_n1 h, lnd_R6 h, lnd_k2 h, lnd_n2 h, lnd_R7 h, lnd_k3 h, lnd_n3 h, lnd_R8 h, lnd_k4 h, lnd_n4 h, lnd_R9 h, lnd_k5 h, lnd_n5 h, lnd_R10 h, lnd_k6 h, lnd_n6 h]; done) | omega | (simp (disch := first | assumption | omega) only [lnd_k h, lnd_R5 h, lnd_k1 h, lnd_n1 h, lnd_R6 h, lnd_k2 h, lnd_n2 h, lnd_R7 h, lnd_k3 h, lnd_n3 h, lnd_R8 h, lnd_k4 h, lnd_n4 h, lnd_R9 h, lnd_k5 h, lnd_n5 h, lnd_R10 h, lnd_k6 h, lnd_n6 h, vin, cw_nil, cw_int, cw_ref, cw_long, bI_01]; done) | (simp (disch := first | assumption | omega) only [lnd_k h, lnd_R5 h, lnd_k1 h, lnd_n1 h, lnd_R6 h, lnd_k2 h, lnd_n2 h, lnd_R7 h, lnd_k3 h, lnd_n3 h, lnd_R8 h, lnd_k4 h, lnd_n4 h, lnd_R9 h, lnd_k5 h, lnd_n5 h, lnd_R10 h, lnd_k6 h, lnd_n6 h, cw_nil, cw_int, cw_ref, cw_long]; omega) | decide) only [x_104_0, x_104_1, x_104_4, x_104_5, x_104_6, x_104_9, x_104_12, x_104_13, x_104_16, x_104_17, x_104_18, x_104_21, x_104_24, x_104_26, x_104_27, x_104_28, x_104_31, x_104_32, x_104_33, x_104_34, x_104_37, x_104_38, x_104_39, x_104_40, x_104_41, x_104_42, x_104_45, x_104_46, x_104_47, x_104_48, x_104_51, x_104_52, x_104_53, x_104_54, x_104_56, x_104_57, x_104_60, x_104_61, x_104_62, x_104_65, x_104_66, x_104_68, x_104_71, x_104_73, x_104_74, x_104_77, x_104_79, x_104_80, ↓reduceIte, va_rf_some, cw_nil, cw_int, cw_ref, cw_long, kl_int, kl_ref, kl_null, kl_long, kl_none, Option.toList_some, Option.toList_none, List.cons_append, List.nil_append, List.append_nil, lnd_k h, lnd_R5 h, lnd_k1 h, lnd_n1 h, lnd_R6 h, lnd_k2 h, lnd_n2 h, lnd_R7 h, lnd_k3 h, lnd_n3 h, lnd_R8 h, lnd_k4 h, lnd_n4 h, lnd_R9 h, lnd_k5 h, lnd_n5 h, lnd_R10 h, lnd_k6 h, lnd_n6 h, nI_add, pk_mul, nI_clamp, nI_ltI, nI_leI, nI_eq, hR.2.2.1, eq_false ga, eq_false gb, eq_true hb, Nat.not_lt_zero, (hR.2.2.2.2.2 a ha).1, (hR.2.2.2.2.2 a ha).2.1, (hR.2.2.2.2.2 b hb).1, (hR.2.2.2.2.2 b hb).2.1, eq_false (ge_no (by omega) p), ng_no p, e2, eq_true (nI_ge0 (show a / A 0 - b / A 0 < 2 ^ 31 by omega))]
  · have s1 : (a % A 0 - b % A 0) + (b % A 0 - a % A 0) = a % A 0 - b % A 0 := by omega
    have s2 : (a / A 0 - b / A 0) + (b / A 0 - a / A 0) = b / A 0 - a / A 0 := by omega
    rw [s1, s2]
    have e2 : nI (a % A 0) - nI (b % A 0) = nI (a % A 0 - b % A 0) := pk_sub (by omega)
    simp (disch := first | assumption | exact cw0 | (simp only [lnd_k h, lnd_R5 h, lnd_k1 h, lnd_n1 h, lnd_R6 h, lnd_k2 h, lnd_n2 h, lnd_R7 h, lnd_k3 h, lnd_n3 h, lnd_R8 h, lnd_k4 h, lnd_n4 h, lnd_R9 h, lnd_k5 h, lnd_n5 h, lnd_R10 h, lnd_k6 h, lnd_n6 h]; done) | omega | (simp (disch := first | assumption | omega) only [lnd_k h, lnd_R5 h, lnd_k1 h, lnd_n1 h, lnd_R6 h, lnd_k2 h, lnd_n2 h, lnd_R7 h, lnd_k3 h, lnd_n3 h, lnd_R8 h, lnd_k4 h, lnd_n4 h, lnd_R9 h, lnd_k5 h, lnd_n5 h, lnd_R10 h, lnd_k6 h, lnd_n6 h, vin, cw_nil, cw_int, cw_ref, cw_long, bI_01]; done) | (simp (disch := first | assumption | omega) only [lnd_k h, lnd_R5 h, lnd_k1 h, lnd_n1 h, lnd_R6 h, lnd_k2 h, lnd_n2 h, lnd_R7 h, lnd_k3 h, lnd_n3 h, lnd_R8 h, lnd_k4 h, lnd_n4 h, lnd_R9 h, lnd_k5 h, lnd_n5 h, lnd_R10 h, lnd_k6 h, lnd_n6 h, cw_nil, cw_int, cw_ref, cw_long]; omega) | decide) only [x_104_0, x_104_1, x_104_4, x_104_5, x_104_6, x_104_9, x_104_12, x_104_13, x_104_16, x_104_17, x_104_18, x_104_21, x_104_24, x_104_26, x_104_27, x_104_28, x_104_31, x_104_32, x_104_33, x_104_34, x_104_37, x_104_38, x_104_39, x_104_40, x_104_41, x_104_42, x_104_45, x_104_46, x_104_47, x_104_48, x_104_51, x_104_52, x_104_53, x_104_54, x_104_56, x_104_57, x_104_60, x_104_61, x_104_62, x_104_65, x_104_66, x_104_68, x_104_71, x_104_73, x_104_74, x_104_77, x_104_79, x_104_80, ↓reduceIte, va_rf_some, cw_nil, cw_int, cw_ref, cw_long, kl_int, kl_ref, kl_null, kl_long, kl_none, Option.toList_some, Option.toList_none, List.cons_append, List.nil_append, List.append_nil, lnd_k h, lnd_R5 h, lnd_k1 h, lnd_n1 h, lnd_R6 h, lnd_k2 h, lnd_n2 h, lnd_R7 h, lnd_k3 h, lnd_n3 h, lnd_R8 h, lnd_k4 h, lnd_n4 h, lnd_R9 h, lnd_k5 h, lnd_n5 h, lnd_R10 h, lnd_k6 h, lnd_n6 h, nI_add, pk_mul, nI_clamp, nI_ltI, nI_leI, nI_eq, hR.2.2.1, eq_false ga, eq_false gb, eq_true hb, Nat.not_lt_zero, (hR.2.2.2.2.2 a ha).1, (hR.2.2.2.2.2 a ha).2.1, (hR.2.2.2.2.2 b hb).1, (hR.2.2.2.2.2 b hb).2.1, eq_false (ge_no (by omega) q), ng_no q, e2, eq_true (nI_ge0 (show a % A 0 - b % A 0 < 2 ^ 31 by omega))]
  · have s1 : (a % A 0 - b % A 0) + (b % A 0 - a % A 0) = a % A 0 - b % A 0 := by omega
    have s2 : (a / A 0 - b / A 0) + (b / A 0 - a / A 0) = a / A 0 - b / A 0 := by omega
    rw [s1, s2]
    have e1 : nI (a % A 0) - nI (b % A 0) = nI (a % A 0 - b % A 0) := pk_sub (by omega)
    have e2 : nI (a / A 0) - nI (b / A 0) = nI (a / A 0 - b / A 0) := pk_sub (by omega)
    simp (disch := first | assumption | exact cw0 | (simp only [lnd_k h, lnd_R5 h, lnd_k1 h, lnd_n1 h, lnd_R6 h, lnd_k2 h, lnd_n2 h, lnd_R7 h, lnd_k3 h, lnd_n3 h, lnd_R8 h, lnd_k4 h, lnd_n4 h, lnd_R9 h, lnd_k5 h, lnd_n5 h, lnd_R10 h, lnd_k6 h, lnd_n6 h]; done) | omega | (simp (disch := first | assumption | omega) only [lnd_k h, lnd_R5 h, lnd_k1 h, lnd_n1 h, lnd_R6 h, lnd_k2 h, lnd_n2 h, lnd_R7 h, lnd_k3 h, lnd_n3 h, lnd_R8 h, lnd_k4 h, lnd_n4 h, lnd_R9 h, lnd_k5 h, lnd_n5 h, lnd_R10 h, lnd_k6 h, lnd_n6 h, vin, cw_nil, cw_int, cw_ref, cw_long, bI_01]; done) | (simp (disch := first | assumption | omega) only [lnd_k h, lnd_R5 h, lnd_k1 h, lnd_n1 h, lnd_R6 h, lnd_k2 h, lnd_n2 h, lnd_R7 h, lnd_k3 h, lnd_n3 h, lnd_R8 h, lnd_k4 h, lnd_n4 h, lnd_R9 h, lnd_k5 h, lnd_n5 h, lnd_R10 h, lnd_k6 h, lnd_n6 h, cw_nil, cw_int, cw_ref, cw_long]; omega) | decide) only [x_104_0, x_104_1, x_104_4, x_104_5, x_104_6, x_104_9, x_104_12, x_104_13, x_104_16, x_104_17, x_104_18, x_104_21, x_104_24, x_104_26, x_104_27, x_104_28, x_104_31, x_104_32, x_104_33, x_104_34, x_104_37, x_104_38, x_104_39, x_104_40, x_104_41, x_104_42, x_104_45, x_104_46, x_104_47, x_104_48, x_104_51, x_104_52, x_104_53, x_104_54, x_104_56, x_104_57, x_104_60, x_104_61, x_104_62, x_104_65, x_104_66, x_104_68, x_104_71, x_104_73, x_104_74, x_104_77, x_104_79, x_104_80, ↓reduceIte, va_rf_some, cw_nil, cw_int, cw_ref, cw_long, kl_int, kl_ref, kl_null, kl_long, kl_none, Option.toList_some, Option.toList_none, List.cons_append, List.nil_append, List.append_nil, lnd_k h, lnd_R5 h, lnd_k1 h, lnd_n1 h, lnd_R6 h, lnd_k2 h, lnd_n2 h, lnd_R7 h, lnd_k3 h, lnd_n3 h, lnd_R8 h, lnd_k4 h, lnd_n4 h, lnd_R9 h, lnd_k5 h, lnd_n5 h, lnd_R10 h, lnd_k6 h, lnd_n6 h, nI_add, pk_mul, nI_clamp, nI_ltI, nI_leI, nI_eq, hR.2.2.1, eq_false ga, eq_false gb, eq_true hb, Nat.not_lt_zero, (hR.2.2.2.2.2 a ha).1, (hR.2.2.2.2.2 a ha).2.1, (hR.2.2.2.2.2 b hb).1, (hR.2.2.2.2.2 b hb).2.1, e1, e2, eq_true (nI_ge0 (show a / A 0 - b / A 0 < 2 ^ 31 by omega)), eq_true (nI_ge0 (show a % A 0 - b % A 0 < 2 ^ 31 by omega))]
end C1
