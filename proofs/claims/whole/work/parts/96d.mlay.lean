/-! The marsh itself is laid out: the model. -/
section KM3
variable {S : mS} {I J : mI} {L K : mL} {R : mR} {Q : mQ} {d m n k i lo hx : Nat} {B : Nat → Nat} {s : SG} {N : AS} {NL : Nat → List Nat} {mt : Bool}
/-- the cells from c on laid out -/
def lyG (f : Nat → Int32) (c : Nat) : Nat → Int32 := fun j => if 2438 + 6 * c ≤ j ∧ j < 2618 ∧ (j - 2438) % 6 ≠ 5 then (if (j - 2438) % 6 < 2 then f 3034 else if (j - 2438) % 6 = 2 then f 3035 else if (j - 2438) % 6 = 3 then f 3036 else nI 8) else f j
theorem lyG_s {f : Nat → Int32} {c : Nat} (hc : c < 30) : lyG (va_up (va_up (va_up (va_up (va_up f (2438 + 6 * c) (f 3034)) (2438 + 6 * c + 1) (f 3034)) (2438 + 6 * c + 2) (f 3035)) (2438 + 6 * c + 3) (f 3036)) (2438 + 6 * c + 4) (nI 8)) (c + 1) = lyG f c := by
  funext j
  have e0 : (va_up (va_up (va_up (va_up (va_up f (2438 + 6 * c) (f 3034)) (2438 + 6 * c + 1) (f 3034)) (2438 + 6 * c + 2) (f 3035)) (2438 + 6 * c + 3) (f 3036)) (2438 + 6 * c + 4) (nI 8)) 3034 = f 3034 := by simp (disch := omega) only [va_up_ne]
  have e1 : (va_up (va_up (va_up (va_up (va_up f (2438 + 6 * c) (f 3034)) (2438 + 6 * c + 1) (f 3034)) (2438 + 6 * c + 2) (f 3035)) (2438 + 6 * c + 3) (f 3036)) (2438 + 6 * c + 4) (nI 8)) 3035 = f 3035 := by simp (disch := omega) only [va_up_ne]
  have e2 : (va_up (va_up (va_up (va_up (va_up f (2438 + 6 * c) (f 3034)) (2438 + 6 * c + 1) (f 3034)) (2438 + 6 * c + 2) (f 3035)) (2438 + 6 * c + 3) (f 3036)) (2438 + 6 * c + 4) (nI 8)) 3036 = f 3036 := by simp (disch := omega) only [va_up_ne]
  unfold lyG
  rw [e0, e1, e2]
  by_cases z : 2438 + 6 * (c + 1) ≤ j ∧ j < 2618 ∧ (j - 2438) % 6 ≠ 5
  · have y : 2438 + 6 * c ≤ j ∧ j < 2618 ∧ (j - 2438) % 6 ≠ 5 := by omega
    rw [if_pos z, if_pos y]
  · rw [if_neg z]
    by_cases y : 2438 + 6 * c ≤ j ∧ j < 2618 ∧ (j - 2438) % 6 ≠ 5
    · rw [if_pos y]
      have : j = 2438 + 6 * c ∨ j = 2438 + 6 * c + 1 ∨ j = 2438 + 6 * c + 2 ∨ j = 2438 + 6 * c + 3 ∨ j = 2438 + 6 * c + 4 := by omega
      rcases this with q | q | q | q | q
      · rw [if_pos (by omega), q]; simp (disch := omega) only [va_up_ne, va_up_self]
      · rw [if_pos (by omega), q]; simp (disch := omega) only [va_up_ne, va_up_self]
      · rw [if_neg (by omega), if_pos (by omega), q]; simp (disch := omega) only [va_up_ne, va_up_self]
      · rw [if_neg (by omega), if_neg (by omega), if_pos (by omega), q]; simp (disch := omega) only [va_up_ne, va_up_self]
      · rw [if_neg (by omega), if_neg (by omega), if_neg (by omega), q]; simp (disch := omega) only [va_up_ne, va_up_self]
    · rw [if_neg y]
      by_cases x5 : j = 2438 + 6 * c ∨ j = 2438 + 6 * c + 1 ∨ j = 2438 + 6 * c + 2 ∨ j = 2438 + 6 * c + 3 ∨ j = 2438 + 6 * c + 4
      · exact absurd (by omega) y
      · simp (disch := omega) only [va_up_ne]
theorem tm_l (h : MdL S R m) : ∀ (k c : Nat) (a3 : Option Value) (J : mI), c + k = 30 → (∀ J', J' (m + 1) = lyG (J (m + 1)) c → (∀ b, b ≠ m + 1 → J' b = J b) → Q (some (.int (nI 1))) S J' L R) → WP (d, 0, 0) 232 113 [some (.ref m), some (.int (nI 3034)), some (.int (nI c)), a3] [] S J L R Q
  | 0, c, a3, J, e, go => by
    have hc : c = 30 := by omega
    subst hc
    have h9 := go J (funext fun j => (if_neg (by omega)).symm) (fun _ _ => rfl)
    simp (disch := first | assumption | exact md_k h | exact md_k1 h | exact cw0 | exact vin1 h (by omega) | omega | (simp (disch := first | assumption | omega) only [md_k, md_R0, md_k1, md_n1, md_R1, md_k2, md_n2, md_R5, md_k3, md_n3, md_R6, md_k4, md_n4, md_R7, md_k5, md_n5, md_R8, md_k6, md_n6, md_R9, md_k7, md_n7, md_R21, md_k8, md_n8, md_R25, md_k9, md_n9, md_R26, md_k10, md_n10, md_R27, md_k11, md_n11, md_R28, md_k12, md_n12, md_R29, md_k13, md_n13, md_R32, md_k14, md_n14, md_R33, md_k15, md_n15, md_R34, md_k16, md_n16, md_R36, md_k17, md_n17, md_R41, md_k18, md_n18, md_R42, md_k19, md_n19, md_R43, md_k20, md_n20, vin, cw_nil, cw_int, cw_ref, cw_long, bI_01]; done) | (simp (disch := first | assumption | omega) only [md_k, md_R0, md_k1, md_n1, md_R1, md_k2, md_n2, md_R5, md_k3, md_n3, md_R6, md_k4, md_n4, md_R7, md_k5, md_n5, md_R8, md_k6, md_n6, md_R9, md_k7, md_n7, md_R21, md_k8, md_n8, md_R25, md_k9, md_n9, md_R26, md_k10, md_n10, md_R27, md_k11, md_n11, md_R28, md_k12, md_n12, md_R29, md_k13, md_n13, md_R32, md_k14, md_n14, md_R33, md_k15, md_n15, md_R34, md_k16, md_n16, md_R36, md_k17, md_n17, md_R41, md_k18, md_n18, md_R42, md_k19, md_n19, md_R43, md_k20, md_n20, cw_nil, cw_int, cw_ref, cw_long]; omega) | decide) only [x_232_0, x_232_3, x_232_4, x_232_5, x_232_8, x_232_9, x_232_11, x_232_14, x_232_17, x_232_18, x_232_20, x_232_21, x_232_24, x_232_27, x_232_28, x_232_31, x_232_32, x_232_33, x_232_36, x_232_39, x_232_40, x_232_42, x_232_44, x_232_47, x_232_50, x_232_51, x_232_52, x_232_53, x_232_55, x_232_58, x_232_61, x_232_62, x_232_64, x_232_66, x_232_69, x_232_72, x_232_73, x_232_74, x_232_75, x_232_76, x_232_77, x_232_79, x_232_82, x_232_85, x_232_86, x_232_88, x_232_90, x_232_93, x_232_96, x_232_97, x_232_98, x_232_99, x_232_100, x_232_101, x_232_103, x_232_106, x_232_109, x_232_110, x_232_111, x_232_112, x_232_113, x_232_114, x_232_116, x_232_119, x_232_122, x_232_124, x_232_125, x_232_126, x_232_127, x_232_128, x_232_129, x_232_132, x_232_133, x_232_134, x_232_137, x_232_138, x_232_139, x_232_140, x_232_141, x_232_144, x_232_145, x_232_146, x_232_147, x_232_148, x_232_151, x_232_152, x_232_153, x_232_154, x_232_155, x_232_158, x_232_159, x_232_160, x_232_161, x_232_162, x_232_165, x_232_166, x_232_167, x_232_168, x_232_169, x_232_170, x_232_171, x_232_174, x_232_175, x_232_176, x_232_177, x_232_178, x_232_181, x_232_182, x_232_183, x_232_184, x_232_185, x_232_186, x_232_187, x_232_190, x_232_191, x_232_192, x_232_193, x_232_195, x_232_196, x_232_199, x_232_202, x_232_203, ↓reduceIte, va_rf_some, cw_nil, cw_int, cw_ref, cw_long, kl_int, kl_ref, kl_null, kl_long, kl_none, Option.toList_some, Option.toList_none, List.cons_append, List.nil_append, List.append_nil, md_k, md_R0, md_k1, md_n1, md_R1, md_k2, md_n2, md_R5, md_k3, md_n3, md_R6, md_k4, md_n4, md_R7, md_k5, md_n5, md_R8, md_k6, md_n6, md_R9, md_k7, md_n7, md_R21, md_k8, md_n8, md_R25, md_k9, md_n9, md_R26, md_k10, md_n10, md_R27, md_k11, md_n11, md_R28, md_k12, md_n12, md_R29, md_k13, md_n13, md_R32, md_k14, md_n14, md_R33, md_k15, md_n15, md_R34, md_k16, md_n16, md_R36, md_k17, md_n17, md_R41, md_k18, md_n18, md_R42, md_k19, md_n19, md_R43, md_k20, md_n20, nI_add, pk_mul, nI_clamp, nI_ltI, nI_leI, nI_eq, Nat.reduceLT, Nat.reduceLeDiff, Nat.reduceEqDiff, Nat.reduceAdd, Nat.reduceMul, Nat.reduceSub, if_true, if_false, not_true, not_false_eq_true, decide_true, decide_false, Nat.lt_irrefl, Nat.le_refl, Nat.not_lt_zero, Nat.zero_le]
    exact h9
  | k + 1, c, a3, J, e, go => by
    have hc : c < 30 := by omega
    have hc' : ¬ 30 ≤ c := by omega
    have kt1 : kd S (m + 1) = 100 := md_k1 h
    have w0 : vp_in (nI 3034) (ln S (m + 1)) := vin1 h (by omega)
    have w1 : vp_in (nI 3035) (ln S (m + 1)) := vin1 h (by omega)
    have w2 : vp_in (nI 3036) (ln S (m + 1)) := vin1 h (by omega)
    have v0 : vp_in (nI (2438 + 6 * c)) (ln S (m + 1)) := vin1 h (by omega)
    have v1 : vp_in (nI (2438 + 6 * c + 1)) (ln S (m + 1)) := vin1 h (by omega)
    have v2 : vp_in (nI (2438 + 6 * c + 2)) (ln S (m + 1)) := vin1 h (by omega)
    have v3 : vp_in (nI (2438 + 6 * c + 3)) (ln S (m + 1)) := vin1 h (by omega)
    have v4 : vp_in (nI (2438 + 6 * c + 4)) (ln S (m + 1)) := vin1 h (by omega)
    rw [x_232_113]
    simp (disch := first | assumption | exact md_k h | exact md_k1 h | exact cw0 | exact vin1 h (by omega) | omega | (simp (disch := first | assumption | omega) only [md_k, md_R0, md_k1, md_n1, md_R1, md_k2, md_n2, md_R5, md_k3, md_n3, md_R6, md_k4, md_n4, md_R7, md_k5, md_n5, md_R8, md_k6, md_n6, md_R9, md_k7, md_n7, md_R21, md_k8, md_n8, md_R25, md_k9, md_n9, md_R26, md_k10, md_n10, md_R27, md_k11, md_n11, md_R28, md_k12, md_n12, md_R29, md_k13, md_n13, md_R32, md_k14, md_n14, md_R33, md_k15, md_n15, md_R34, md_k16, md_n16, md_R36, md_k17, md_n17, md_R41, md_k18, md_n18, md_R42, md_k19, md_n19, md_R43, md_k20, md_n20, vin, cw_nil, cw_int, cw_ref, cw_long, bI_01]; done) | (simp (disch := first | assumption | omega) only [md_k, md_R0, md_k1, md_n1, md_R1, md_k2, md_n2, md_R5, md_k3, md_n3, md_R6, md_k4, md_n4, md_R7, md_k5, md_n5, md_R8, md_k6, md_n6, md_R9, md_k7, md_n7, md_R21, md_k8, md_n8, md_R25, md_k9, md_n9, md_R26, md_k10, md_n10, md_R27, md_k11, md_n11, md_R28, md_k12, md_n12, md_R29, md_k13, md_n13, md_R32, md_k14, md_n14, md_R33, md_k15, md_n15, md_R34, md_k16, md_n16, md_R36, md_k17, md_n17, md_R41, md_k18, md_n18, md_R42, md_k19, md_n19, md_R43, md_k20, md_n20, cw_nil, cw_int, cw_ref, cw_long]; omega) | decide) only [x_232_0, x_232_3, x_232_4, x_232_5, x_232_8, x_232_9, x_232_11, x_232_14, x_232_17, x_232_18, x_232_20, x_232_21, x_232_24, x_232_27, x_232_28, x_232_31, x_232_32, x_232_33, x_232_36, x_232_39, x_232_40, x_232_42, x_232_44, x_232_47, x_232_50, x_232_51, x_232_52, x_232_53, x_232_55, x_232_58, x_232_61, x_232_62, x_232_64, x_232_66, x_232_69, x_232_72, x_232_73, x_232_74, x_232_75, x_232_76, x_232_77, x_232_79, x_232_82, x_232_85, x_232_86, x_232_88, x_232_90, x_232_93, x_232_96, x_232_97, x_232_98, x_232_99, x_232_100, x_232_101, x_232_103, x_232_106, x_232_109, x_232_110, x_232_111, x_232_112, x_232_114, x_232_116, x_232_119, x_232_122, x_232_124, x_232_125, x_232_126, x_232_127, x_232_128, x_232_129, x_232_132, x_232_133, x_232_134, x_232_137, x_232_138, x_232_139, x_232_140, x_232_141, x_232_144, x_232_145, x_232_146, x_232_147, x_232_148, x_232_151, x_232_152, x_232_153, x_232_154, x_232_155, x_232_158, x_232_159, x_232_160, x_232_161, x_232_162, x_232_165, x_232_166, x_232_167, x_232_168, x_232_169, x_232_170, x_232_171, x_232_174, x_232_175, x_232_176, x_232_177, x_232_178, x_232_181, x_232_182, x_232_183, x_232_184, x_232_185, x_232_186, x_232_187, x_232_190, x_232_191, x_232_192, x_232_193, x_232_195, x_232_196, x_232_199, x_232_202, x_232_203, ↓reduceIte, va_rf_some, cw_nil, cw_int, cw_ref, cw_long, kl_int, kl_ref, kl_null, kl_long, kl_none, Option.toList_some, Option.toList_none, List.cons_append, List.nil_append, List.append_nil, md_k, md_R0, md_k1, md_n1, md_R1, md_k2, md_n2, md_R5, md_k3, md_n3, md_R6, md_k4, md_n4, md_R7, md_k5, md_n5, md_R8, md_k6, md_n6, md_R9, md_k7, md_n7, md_R21, md_k8, md_n8, md_R25, md_k9, md_n9, md_R26, md_k10, md_n10, md_R27, md_k11, md_n11, md_R28, md_k12, md_n12, md_R29, md_k13, md_n13, md_R32, md_k14, md_n14, md_R33, md_k15, md_n15, md_R34, md_k16, md_n16, md_R36, md_k17, md_n17, md_R41, md_k18, md_n18, md_R42, md_k19, md_n19, md_R43, md_k20, md_n20, nI_add, pk_mul, nI_clamp, nI_ltI, nI_leI, nI_eq, eq_false hc', va_up_self, va_up_ne, Nat.reduceLT, Nat.reduceLeDiff, Nat.reduceEqDiff, Nat.reduceAdd, Nat.reduceMul, Nat.reduceSub, if_true, if_false, not_true, not_false_eq_true, decide_true, decide_false, Nat.lt_irrefl, Nat.le_refl, Nat.not_lt_zero, Nat.zero_le]
    refine tm_l h k (c + 1) _ _ (by omega) ?_
    intro J' h1 h2
    refine go J' ?_ (fun b hb => by rw [h2 b hb]; simp (disch := omega) only [va_up_ne])
    rw [h1, ← lyG_s hc]
    simp (disch := omega) only [va_up_self, va_up_ne]
end KM3

