/-! The tape is fed. -/
theorem sb24 (v : Int32) : (ush v (nI 24)).toInt8 = (v >>> (nI 24 &&& 31)).toInt8 := by
  have u1 : (ush v (nI 24)).toBitVec = v.toBitVec >>> (24 : Nat) := rfl
  have u2 : (v >>> (nI 24 &&& 31)).toBitVec = v.toBitVec.sshiftRight 24 := rfl
  apply Int8.toBitVec_inj.1
  show ((ush v (nI 24)).toBitVec).signExtend 8 = ((v >>> (nI 24 &&& 31)).toBitVec).signExtend 8
  rw [u1, u2]
  apply BitVec.eq_of_getLsbD_eq
  intro i hi
  rw [BitVec.getLsbD_signExtend, BitVec.getLsbD_signExtend, if_pos (by omega), if_pos (by omega), BitVec.getLsbD_ushiftRight, BitVec.getLsbD_sshiftRight]
  have h1 : ¬ 32 ≤ i := by omega
  have h2 : 24 + i < 32 := by omega
  simp [h1, h2, hi]
theorem sb16 (v : Int32) : (ush v (nI 16)).toInt8 = (v >>> (nI 16 &&& 31)).toInt8 := by
  have u1 : (ush v (nI 16)).toBitVec = v.toBitVec >>> (16 : Nat) := rfl
  have u2 : (v >>> (nI 16 &&& 31)).toBitVec = v.toBitVec.sshiftRight 16 := rfl
  apply Int8.toBitVec_inj.1
  show ((ush v (nI 16)).toBitVec).signExtend 8 = ((v >>> (nI 16 &&& 31)).toBitVec).signExtend 8
  rw [u1, u2]
  apply BitVec.eq_of_getLsbD_eq
  intro i hi
  rw [BitVec.getLsbD_signExtend, BitVec.getLsbD_signExtend, if_pos (by omega), if_pos (by omega), BitVec.getLsbD_ushiftRight, BitVec.getLsbD_sshiftRight]
  have h1 : ¬ 32 ≤ i := by omega
  have h2 : 16 + i < 32 := by omega
  simp [h1, h2, hi]
theorem sb8 (v : Int32) : (ush v (nI 8)).toInt8 = (v >>> (nI 8 &&& 31)).toInt8 := by
  have u1 : (ush v (nI 8)).toBitVec = v.toBitVec >>> (8 : Nat) := rfl
  have u2 : (v >>> (nI 8 &&& 31)).toBitVec = v.toBitVec.sshiftRight 8 := rfl
  apply Int8.toBitVec_inj.1
  show ((ush v (nI 8)).toBitVec).signExtend 8 = ((v >>> (nI 8 &&& 31)).toBitVec).signExtend 8
  rw [u1, u2]
  apply BitVec.eq_of_getLsbD_eq
  intro i hi
  rw [BitVec.getLsbD_signExtend, BitVec.getLsbD_signExtend, if_pos (by omega), if_pos (by omega), BitVec.getLsbD_ushiftRight, BitVec.getLsbD_sshiftRight]
  have h1 : ¬ 32 ≤ i := by omega
  have h2 : 8 + i < 32 := by omega
  simp [h1, h2, hi]
theorem sb0 (v : Int32) : (ush v (nI 0)).toInt8 = (v >>> (nI 0 &&& 31)).toInt8 := by
  have u1 : (ush v (nI 0)).toBitVec = v.toBitVec >>> (0 : Nat) := rfl
  have u2 : (v >>> (nI 0 &&& 31)).toBitVec = v.toBitVec.sshiftRight 0 := rfl
  apply Int8.toBitVec_inj.1
  show ((ush v (nI 0)).toBitVec).signExtend 8 = ((v >>> (nI 0 &&& 31)).toBitVec).signExtend 8
  rw [u1, u2]
  apply BitVec.eq_of_getLsbD_eq
  intro i hi
  rw [BitVec.getLsbD_signExtend, BitVec.getLsbD_signExtend, if_pos (by omega), if_pos (by omega), BitVec.getLsbD_ushiftRight, BitVec.getLsbD_sshiftRight]
  have h1 : ¬ 32 ≤ i := by omega
  have h2 : 0 + i < 32 := by omega
  simp [h1, h2, hi]
def byt (v : Int32) (s : Nat) : Int32 := (v >>> (nI s &&& 31)).toInt8.toInt32.toInt8.toInt32
def put4 (r : Nat → Int32) (n : Nat) (v : Int32) : Nat → Int32 := va_up (va_up (va_up (va_up r n (byt v 24)) (n + 1) (byt v 16)) (n + 2) (byt v 8)) (n + 3) (byt v 0)
theorem put4_lt {r r2 : Nat → Int32} {n : Nat} {v : Int32} (h : ∀ j, j < n → r j = r2 j) : ∀ j, j < n + 4 → put4 r n v j = put4 r2 n v j := by
  intro j hj
  unfold put4
  by_cases g3 : j = n + 3
  · rw [g3, va_up_self, va_up_self]
  · rw [va_up_ne _ _ g3, va_up_ne _ _ g3]
    by_cases g2 : j = n + 2
    · rw [g2, va_up_self, va_up_self]
    · rw [va_up_ne _ _ g2, va_up_ne _ _ g2]
      by_cases g1 : j = n + 1
      · rw [g1, va_up_self, va_up_self]
      · rw [va_up_ne _ _ g1, va_up_ne _ _ g1]
        by_cases g0 : j = n
        · rw [g0, va_up_self, va_up_self]
        · rw [va_up_ne _ _ g0, va_up_ne _ _ g0]
          exact h j (by omega)
theorem byt_by (v : Int32) (s : Nat) : (byt v s).toInt8.toInt32 = byt v s := by
  unfold byt
  simp only [Int8.toInt8_toInt32]
theorem put4_by {r : Nat → Int32} {n : Nat} {v : Int32} (h : ∀ j, j < n → (r j).toInt8.toInt32 = r j) : ∀ j, j < n + 4 → (put4 r n v j).toInt8.toInt32 = put4 r n v j := by
  intro j hj
  unfold put4
  by_cases g3 : j = n + 3
  · rw [g3, va_up_self]; exact byt_by _ _
  · rw [va_up_ne _ _ g3]
    by_cases g2 : j = n + 2
    · rw [g2, va_up_self]; exact byt_by _ _
    · rw [va_up_ne _ _ g2]
      by_cases g1 : j = n + 1
      · rw [g1, va_up_self]; exact byt_by _ _
      · rw [va_up_ne _ _ g1]
        by_cases g0 : j = n
        · rw [g0, va_up_self]; exact byt_by _ _
        · rw [va_up_ne _ _ g0]
          exact h j (by omega)
theorem neg8 : (nI 0 + -(nI 8) < nI 0) = True := eq_true (by decide)
section P22
variable {S : mS} {I J I2 : mI} {L L2 : mL} {R : mR} {Q : mQ} {d x m mo sc a n : Nat} {s0 : Nat → Int32} {A B : AS}
theorem c_putOnTape {v : Int32} {n : Nat} (hc : clL S R x) (hn : I x 3 = nI n) (h9 : n + 4 ≤ 900) (go : ∀ I2 : mI, (∀ b, b ≠ x → b ≠ x + 1 → I2 b = I b) → (∀ j, j ≠ 3 → I2 x j = I x j) → I2 x 3 = nI (n + 4) → I2 (x + 1) = put4 (I (x + 1)) n v → Q none S I2 L R) : CA d 13 [.ref x, .int v] S I L R Q := by
  have g0 : ¬ 900 ≤ n := by omega
  have g1 : ¬ 900 ≤ n + 1 := by omega
  have g2 : ¬ 900 ≤ n + 2 := by omega
  have g3 : ¬ 900 ≤ n + 3 := by omega
  rw [ca_13]
  simp (disch := first | assumption | exact cw0 | (simp only [clL.k0 hc, clL.rTape hc, clL.kTape hc, clL.nTape hc, clL.rLived hc, clL.kLived hc, clL.nLived hc, clL.rTr hc, clL.kTr hc, clL.rTrN hc, clL.kTrN hc, clL.nTrN hc, clL.rTrS hc, clL.kTrS hc, clL.nTrS hc, clL.rTrZ hc, clL.kTrZ hc, clL.nTrZ hc, clL.rNow hc, clL.rScr hc, clL.rMks hc, clL.kMks hc, clL.nMks hc, clL.rScn hc, clL.kScn hc, clL.rOwn hc, clL.kOwn hc, clL.nOwn hc, clL.rMaR hc, clL.kMaR hc, clL.rMa0 hc, clL.rMa1 hc, clL.rMoR hc, clL.kMoR hc, clL.rMo0 hc, clL.rMo1 hc, clL.rMo2 hc, clL.rOpn hc, clL.kOpn hc, clL.nOpn hc, clL.rSea hc, clL.kSea hc, clL.rSe0 hc, clL.rSe1 hc, clL.rSe2 hc, clL.rLev hc, clL.kLev hc, clL.nLev hc, clL.rCos hc, clL.kCos hc, clL.nCos hc, clL.rNei hc, clL.kNei hc, clL.nNei hc, clL.rSum hc, clL.kSum hc, clL.nSum hc, clL.rLiv hc, clL.kLiv hc, clL.rLi0 hc, clL.rLi1 hc, clL.rTim hc, clL.kTim hc, clL.nTim hc]; done) | omega | (simp (disch := first | assumption | omega) only [clL.k0 hc, clL.rTape hc, clL.kTape hc, clL.nTape hc, clL.rLived hc, clL.kLived hc, clL.nLived hc, clL.rTr hc, clL.kTr hc, clL.rTrN hc, clL.kTrN hc, clL.nTrN hc, clL.rTrS hc, clL.kTrS hc, clL.nTrS hc, clL.rTrZ hc, clL.kTrZ hc, clL.nTrZ hc, clL.rNow hc, clL.rScr hc, clL.rMks hc, clL.kMks hc, clL.nMks hc, clL.rScn hc, clL.kScn hc, clL.rOwn hc, clL.kOwn hc, clL.nOwn hc, clL.rMaR hc, clL.kMaR hc, clL.rMa0 hc, clL.rMa1 hc, clL.rMoR hc, clL.kMoR hc, clL.rMo0 hc, clL.rMo1 hc, clL.rMo2 hc, clL.rOpn hc, clL.kOpn hc, clL.nOpn hc, clL.rSea hc, clL.kSea hc, clL.rSe0 hc, clL.rSe1 hc, clL.rSe2 hc, clL.rLev hc, clL.kLev hc, clL.nLev hc, clL.rCos hc, clL.kCos hc, clL.nCos hc, clL.rNei hc, clL.kNei hc, clL.nNei hc, clL.rSum hc, clL.kSum hc, clL.nSum hc, clL.rLiv hc, clL.kLiv hc, clL.rLi0 hc, clL.rLi1 hc, clL.rTim hc, clL.kTim hc, clL.nTim hc, vin, cw_nil, cw_int, cw_ref, cw_long, bI_01]; done) | (simp (disch := first | assumption | omega) only [clL.k0 hc, clL.rTape hc, clL.kTape hc, clL.nTape hc, clL.rLived hc, clL.kLived hc, clL.nLived hc, clL.rTr hc, clL.kTr hc, clL.rTrN hc, clL.kTrN hc, clL.nTrN hc, clL.rTrS hc, clL.kTrS hc, clL.nTrS hc, clL.rTrZ hc, clL.kTrZ hc, clL.nTrZ hc, clL.rNow hc, clL.rScr hc, clL.rMks hc, clL.kMks hc, clL.nMks hc, clL.rScn hc, clL.kScn hc, clL.rOwn hc, clL.kOwn hc, clL.nOwn hc, clL.rMaR hc, clL.kMaR hc, clL.rMa0 hc, clL.rMa1 hc, clL.rMoR hc, clL.kMoR hc, clL.rMo0 hc, clL.rMo1 hc, clL.rMo2 hc, clL.rOpn hc, clL.kOpn hc, clL.nOpn hc, clL.rSea hc, clL.kSea hc, clL.rSe0 hc, clL.rSe1 hc, clL.rSe2 hc, clL.rLev hc, clL.kLev hc, clL.nLev hc, clL.rCos hc, clL.kCos hc, clL.nCos hc, clL.rNei hc, clL.kNei hc, clL.nNei hc, clL.rSum hc, clL.kSum hc, clL.nSum hc, clL.rLiv hc, clL.kLiv hc, clL.rLi0 hc, clL.rLi1 hc, clL.rTim hc, clL.kTim hc, clL.nTim hc, cw_nil, cw_int, cw_ref, cw_long]; omega) | decide) only [x_13_0, x_13_2, x_13_3, x_13_4, x_13_7, x_13_8, x_13_11, x_13_14, x_13_17, x_13_18, x_13_21, x_13_22, x_13_25, x_13_26, x_13_27, x_13_28, x_13_29, x_13_30, x_13_31, x_13_31r, x_13_32, x_13_35, x_13_36, x_13_37, x_13_40, x_13_43, x_13_46, ↓reduceIte, va_rf_some, cw_nil, cw_int, cw_ref, cw_long, kl_int, kl_ref, kl_null, kl_long, kl_none, Option.toList_some, Option.toList_none, List.cons_append, List.nil_append, List.append_nil, clL.k0 hc, clL.rTape hc, clL.kTape hc, clL.nTape hc, clL.rLived hc, clL.kLived hc, clL.nLived hc, clL.rTr hc, clL.kTr hc, clL.rTrN hc, clL.kTrN hc, clL.nTrN hc, clL.rTrS hc, clL.kTrS hc, clL.nTrS hc, clL.rTrZ hc, clL.kTrZ hc, clL.nTrZ hc, clL.rNow hc, clL.rScr hc, clL.rMks hc, clL.kMks hc, clL.nMks hc, clL.rScn hc, clL.kScn hc, clL.rOwn hc, clL.kOwn hc, clL.nOwn hc, clL.rMaR hc, clL.kMaR hc, clL.rMa0 hc, clL.rMa1 hc, clL.rMoR hc, clL.kMoR hc, clL.rMo0 hc, clL.rMo1 hc, clL.rMo2 hc, clL.rOpn hc, clL.kOpn hc, clL.nOpn hc, clL.rSea hc, clL.kSea hc, clL.rSe0 hc, clL.rSe1 hc, clL.rSe2 hc, clL.rLev hc, clL.kLev hc, clL.nLev hc, clL.rCos hc, clL.kCos hc, clL.nCos hc, clL.rNei hc, clL.kNei hc, clL.nNei hc, clL.rSum hc, clL.kSum hc, clL.nSum hc, clL.rLiv hc, clL.kLiv hc, clL.rLi0 hc, clL.rLi1 hc, clL.rTim hc, clL.kTim hc, clL.nTim hc, nI_add, pk_mul, nI_clamp, nI_ltI, nI_leI, nI_eq, n10, hn, va_up_self, va_up_ne, nI_addneg, neg8, eq_false g0, eq_false g1, eq_false g2, eq_false g3, Nat.add_assoc, Nat.reduceLT, Nat.reduceLeDiff, Nat.reduceEqDiff, Nat.reduceAdd, Nat.reduceMul, Nat.reduceSub, if_true, if_false, not_true, not_false_eq_true, decide_true, decide_false, Nat.lt_irrefl, Nat.le_refl, Nat.not_lt_zero, Nat.zero_le]
  refine go _ ?_ ?_ ?_ ?_
  · intro b q1 q2
    simp (disch := omega) only [va_up_ne]
  · intro j hj
    simp (disch := omega) only [va_up_ne, va_up_self]
  · simp (disch := omega) only [va_up_ne, va_up_self]
  · simp (disch := omega) only [va_up_ne, va_up_self]
    unfold put4 byt
    simp only [sb24, sb16, sb8, sb0]
theorem k_four {v : Int32} {n : Nat} (h : MdL S R m) (hn : I m 10 = nI n) (h9 : n + 4 ≤ 900) (go : ∀ I2 : mI, (∀ b, b ≠ m → b ≠ m + 6 → I2 b = I b) → (∀ j, j ≠ 10 → I2 m j = I m j) → I2 m 10 = nI (n + 4) → I2 (m + 6) = put4 (I (m + 6)) n v → Q none S I2 L R) : CA d 220 [.ref m, .int v] S I L R Q := by
  rw [ca_220]
  simp (disch := first | assumption | exact md_k h | exact md_k1 h | exact cw0 | exact vin1 h (by omega) | omega | exact sm_c hs | exact sm_w hs | exact sm_p hs | exact sm_pc hs | exact sm_b hs | exact sm_a hs | (simp (disch := first | assumption | omega) only [md_k, md_R0, md_k1, md_n1, md_R1, md_k2, md_n2, md_R5, md_k3, md_n3, md_R6, md_k4, md_n4, md_R7, md_k5, md_n5, md_R8, md_k6, md_n6, md_R9, md_k7, md_n7, md_R21, md_k8, md_n8, md_R25, md_k9, md_n9, md_R26, md_k10, md_n10, md_R27, md_k11, md_n11, md_R28, md_k12, md_n12, md_R29, md_k13, md_n13, md_R32, md_k14, md_n14, md_R33, md_k15, md_n15, md_R34, md_k16, md_n16, md_R36, md_k17, md_n17, md_R41, md_k18, md_n18, md_R42, md_k19, md_n19, md_R43, md_k20, md_n20, vin, cw_nil, cw_int, cw_ref, cw_long, bI_01]; done) | (simp (disch := first | assumption | omega) only [md_k, md_R0, md_k1, md_n1, md_R1, md_k2, md_n2, md_R5, md_k3, md_n3, md_R6, md_k4, md_n4, md_R7, md_k5, md_n5, md_R8, md_k6, md_n6, md_R9, md_k7, md_n7, md_R21, md_k8, md_n8, md_R25, md_k9, md_n9, md_R26, md_k10, md_n10, md_R27, md_k11, md_n11, md_R28, md_k12, md_n12, md_R29, md_k13, md_n13, md_R32, md_k14, md_n14, md_R33, md_k15, md_n15, md_R34, md_k16, md_n16, md_R36, md_k17, md_n17, md_R41, md_k18, md_n18, md_R42, md_k19, md_n19, md_R43, md_k20, md_n20, cw_nil, cw_int, cw_ref, cw_long]; omega) | decide) only [x_220_0, x_220_2, x_220_3, x_220_4, x_220_7, x_220_8, x_220_11, x_220_12, x_220_15, x_220_16, x_220_17, x_220_18, x_220_19, x_220_20, x_220_21, x_220_21r, x_220_22, x_220_25, x_220_26, x_220_27, x_220_30, x_220_33, x_220_36, ↓reduceIte, va_rf_some, cw_nil, cw_int, cw_ref, cw_long, kl_int, kl_ref, kl_null, kl_long, kl_none, Option.toList_some, Option.toList_none, List.cons_append, List.nil_append, List.append_nil, md_k, md_R0, md_k1, md_n1, md_R1, md_k2, md_n2, md_R5, md_k3, md_n3, md_R6, md_k4, md_n4, md_R7, md_k5, md_n5, md_R8, md_k6, md_n6, md_R9, md_k7, md_n7, md_R21, md_k8, md_n8, md_R25, md_k9, md_n9, md_R26, md_k10, md_n10, md_R27, md_k11, md_n11, md_R28, md_k12, md_n12, md_R29, md_k13, md_n13, md_R32, md_k14, md_n14, md_R33, md_k15, md_n15, md_R34, md_k16, md_n16, md_R36, md_k17, md_n17, md_R41, md_k18, md_n18, md_R42, md_k19, md_n19, md_R43, md_k20, md_n20, nI_add, pk_mul, nI_clamp, nI_ltI, nI_leI, nI_eq, hn, va_up_self, va_up_ne, nI_addneg, neg8, Nat.add_assoc, Nat.reduceLT, Nat.reduceLeDiff, Nat.reduceEqDiff, Nat.reduceAdd, Nat.reduceMul, Nat.reduceSub, if_true, if_false, not_true, not_false_eq_true, decide_true, decide_false, Nat.lt_irrefl, Nat.le_refl, Nat.not_lt_zero, Nat.zero_le]
  refine go _ ?_ ?_ ?_ ?_
  · intro b q1 q2
    simp (disch := omega) only [va_up_ne]
  · intro j hj
    simp (disch := omega) only [va_up_ne, va_up_self]
  · simp (disch := omega) only [va_up_ne, va_up_self]
  · simp (disch := omega) only [va_up_ne, va_up_self]
    unfold put4 byt
    rfl
end P22
