/-! The marsh itself is read: the model's calls in a row. -/
section KM2
variable {S : mS} {I J : mI} {L K : mL} {R : mR} {Q : mQ} {d m n k i lo hx : Nat} {B : Nat → Nat} {s : SG} {N : AS} {NL : Nat → List Nat} {mt : Bool}
def tM (B : Nat → Nat) (n : Nat) (s : SG) : SG := (sN B n 0 31 (sW B n 4 (sN B n 0 10 (sW B n 3 (sN B n 0 100 (sW B n 2 (sN B n 1 6 (sW B n 1 (sN B n 1 7 s)))))))))
theorem tm_all (hX : CtM S R m B n J) (hS : ScM B n m s J) (hz : s.2.1 = 0) (go1 : ∀ J', ScM B n m (tM B n s) J' → FrN m J J' → J' (m + 1) = (rowN (rowN (rowN (rowN (rowN (J (m + 1)) 2432 (nVn B n 1 7 s)) 2433 (nVn B n 1 6 (sW B n 1 (sN B n 1 7 s)))) 3034 (nVn B n 0 100 (sW B n 2 (sN B n 1 6 (sW B n 1 (sN B n 1 7 s)))))) 3035 (nVn B n 0 10 (sW B n 3 (sN B n 0 100 (sW B n 2 (sN B n 1 6 (sW B n 1 (sN B n 1 7 s)))))))) 3036 (nVn B n 0 31 (sW B n 4 (sN B n 0 10 (sW B n 3 (sN B n 0 100 (sW B n 2 (sN B n 1 6 (sW B n 1 (sN B n 1 7 s)))))))))) → (tM B n s).2.1 = 0 → WP (d + 6, 0, 0) 232 111 [some (.ref m), some (.int (nI 3034)), none, none] [] S J' L R Q) (go2 : ∀ J', ScM B n m (tM B n s) J' → FrN m J J' → ¬ (tM B n s).2.1 = 0 → Q (some (.int (nI 0))) S J' L R) : CA (d + 6) 232 [.ref m] S J L R Q := by
  have h := hX.1
  rw [ca_232]
  simp (disch := first | assumption | exact md_k h | exact md_k1 h | exact cw0 | exact vin1 h (by omega) | omega | (simp (disch := first | assumption | omega) only [md_k, md_R0, md_k1, md_n1, md_R1, md_k2, md_n2, md_R5, md_k3, md_n3, md_R6, md_k4, md_n4, md_R7, md_k5, md_n5, md_R8, md_k6, md_n6, md_R9, md_k7, md_n7, md_R21, md_k8, md_n8, md_R25, md_k9, md_n9, md_R26, md_k10, md_n10, md_R27, md_k11, md_n11, md_R28, md_k12, md_n12, md_R29, md_k13, md_n13, md_R32, md_k14, md_n14, md_R33, md_k15, md_n15, md_R34, md_k16, md_n16, md_R36, md_k17, md_n17, md_R41, md_k18, md_n18, md_R42, md_k19, md_n19, md_R43, md_k20, md_n20, vin, cw_nil, cw_int, cw_ref, cw_long, bI_01]; done) | (simp (disch := first | assumption | omega) only [md_k, md_R0, md_k1, md_n1, md_R1, md_k2, md_n2, md_R5, md_k3, md_n3, md_R6, md_k4, md_n4, md_R7, md_k5, md_n5, md_R8, md_k6, md_n6, md_R9, md_k7, md_n7, md_R21, md_k8, md_n8, md_R25, md_k9, md_n9, md_R26, md_k10, md_n10, md_R27, md_k11, md_n11, md_R28, md_k12, md_n12, md_R29, md_k13, md_n13, md_R32, md_k14, md_n14, md_R33, md_k15, md_n15, md_R34, md_k16, md_n16, md_R36, md_k17, md_n17, md_R41, md_k18, md_n18, md_R42, md_k19, md_n19, md_R43, md_k20, md_n20, cw_nil, cw_int, cw_ref, cw_long]; omega) | decide) only [x_232_0, x_232_3, x_232_5, x_232_8, x_232_9, x_232_11, x_232_14, x_232_17, x_232_18, x_232_20, x_232_21, x_232_24, x_232_27, x_232_28, x_232_31, x_232_32, x_232_33, x_232_36, x_232_39, x_232_40, x_232_42, x_232_44, x_232_47, x_232_50, x_232_51, x_232_52, x_232_53, x_232_55, x_232_58, x_232_61, x_232_62, x_232_64, x_232_66, x_232_69, x_232_72, x_232_73, x_232_74, x_232_75, x_232_76, x_232_77, x_232_79, x_232_82, x_232_85, x_232_86, x_232_88, x_232_90, x_232_93, x_232_96, x_232_97, x_232_98, x_232_99, x_232_100, x_232_101, x_232_103, x_232_106, x_232_109, x_232_110, x_232_111, x_232_112, x_232_113, x_232_114, x_232_116, x_232_119, x_232_122, x_232_124, x_232_125, x_232_126, x_232_127, x_232_128, x_232_129, x_232_132, x_232_133, x_232_134, x_232_137, x_232_138, x_232_139, x_232_140, x_232_141, x_232_144, x_232_145, x_232_146, x_232_147, x_232_148, x_232_151, x_232_152, x_232_153, x_232_154, x_232_155, x_232_158, x_232_159, x_232_160, x_232_161, x_232_162, x_232_165, x_232_166, x_232_167, x_232_168, x_232_169, x_232_170, x_232_171, x_232_174, x_232_175, x_232_176, x_232_177, x_232_178, x_232_181, x_232_182, x_232_183, x_232_184, x_232_185, x_232_186, x_232_187, x_232_190, x_232_191, x_232_192, x_232_193, x_232_195, x_232_196, x_232_199, x_232_202, x_232_203, ↓reduceIte, va_rf_some, cw_nil, cw_int, cw_ref, cw_long, kl_int, kl_ref, kl_null, kl_long, kl_none, Option.toList_some, Option.toList_none, List.cons_append, List.nil_append, List.append_nil, md_k, md_R0, md_k1, md_n1, md_R1, md_k2, md_n2, md_R5, md_k3, md_n3, md_R6, md_k4, md_n4, md_R7, md_k5, md_n5, md_R8, md_k6, md_n6, md_R9, md_k7, md_n7, md_R21, md_k8, md_n8, md_R25, md_k9, md_n9, md_R26, md_k10, md_n10, md_R27, md_k11, md_n11, md_R28, md_k12, md_n12, md_R29, md_k13, md_n13, md_R32, md_k14, md_n14, md_R33, md_k15, md_n15, md_R34, md_k16, md_n16, md_R36, md_k17, md_n17, md_R41, md_k18, md_n18, md_R42, md_k19, md_n19, md_R43, md_k20, md_n20, nI_add, pk_mul, nI_clamp, nI_ltI, nI_leI, nI_eq, Nat.reduceLT, Nat.reduceLeDiff, Nat.reduceEqDiff, Nat.reduceAdd, Nat.reduceMul, Nat.reduceSub, if_true, if_false, not_true, not_false_eq_true, decide_true, decide_false, Nat.lt_irrefl, Nat.le_refl, Nat.not_lt_zero, Nat.zero_le]
  refine tm_0 hX hS hz ?_ ?_
  rotate_left
  · intro J' g f z
    have e : tM B n s = (sN B n 1 7 s) := by
      unfold tM
      rw [sW_nz z]
      rw [(sN_nz z).1]
      rw [sW_nz z]
      rw [(sN_nz z).1]
      rw [sW_nz z]
      rw [(sN_nz z).1]
      rw [sW_nz z]
      rw [(sN_nz z).1]
    exact go2 J' (by rw [e]; exact g) (FrN.tr FrN.rf f) (by rw [e]; exact z)
  intro J0 g0 f0 r0 z0
  have ff0 := FrN.tr FrN.rf f0
  have hX0 := hX.fr f0.1
  refine tm_1 hX0 g0 z0 ?_ ?_
  rotate_left
  · intro J' g f z
    have e : tM B n s = (sW B n 1 (sN B n 1 7 s)) := by
      unfold tM
      rw [(sN_nz z).1]
      rw [sW_nz z]
      rw [(sN_nz z).1]
      rw [sW_nz z]
      rw [(sN_nz z).1]
      rw [sW_nz z]
      rw [(sN_nz z).1]
    exact go2 J' (by rw [e]; exact g) (FrN.tr ff0 f) (by rw [e]; exact z)
  intro J1 g1 f1 r1 z1
  have ff1 := FrN.tr ff0 f1
  have hX1 := hX0.fr f1.1
  refine tm_2 hX1 g1 z1 ?_ ?_
  rotate_left
  · intro J' g f z
    have e : tM B n s = (sN B n 1 6 (sW B n 1 (sN B n 1 7 s))) := by
      unfold tM
      rw [sW_nz z]
      rw [(sN_nz z).1]
      rw [sW_nz z]
      rw [(sN_nz z).1]
      rw [sW_nz z]
      rw [(sN_nz z).1]
    exact go2 J' (by rw [e]; exact g) (FrN.tr ff1 f) (by rw [e]; exact z)
  intro J2 g2 f2 r2 z2
  have ff2 := FrN.tr ff1 f2
  have hX2 := hX1.fr f2.1
  refine tm_3 hX2 g2 z2 ?_ ?_
  rotate_left
  · intro J' g f z
    have e : tM B n s = (sW B n 2 (sN B n 1 6 (sW B n 1 (sN B n 1 7 s)))) := by
      unfold tM
      rw [(sN_nz z).1]
      rw [sW_nz z]
      rw [(sN_nz z).1]
      rw [sW_nz z]
      rw [(sN_nz z).1]
    exact go2 J' (by rw [e]; exact g) (FrN.tr ff2 f) (by rw [e]; exact z)
  intro J3 g3 f3 r3 z3
  have ff3 := FrN.tr ff2 f3
  have hX3 := hX2.fr f3.1
  refine tm_4 hX3 g3 z3 ?_ ?_
  rotate_left
  · intro J' g f z
    have e : tM B n s = (sN B n 0 100 (sW B n 2 (sN B n 1 6 (sW B n 1 (sN B n 1 7 s))))) := by
      unfold tM
      rw [sW_nz z]
      rw [(sN_nz z).1]
      rw [sW_nz z]
      rw [(sN_nz z).1]
    exact go2 J' (by rw [e]; exact g) (FrN.tr ff3 f) (by rw [e]; exact z)
  intro J4 g4 f4 r4 z4
  have ff4 := FrN.tr ff3 f4
  have hX4 := hX3.fr f4.1
  refine tm_5 hX4 g4 z4 ?_ ?_
  rotate_left
  · intro J' g f z
    have e : tM B n s = (sW B n 3 (sN B n 0 100 (sW B n 2 (sN B n 1 6 (sW B n 1 (sN B n 1 7 s)))))) := by
      unfold tM
      rw [(sN_nz z).1]
      rw [sW_nz z]
      rw [(sN_nz z).1]
    exact go2 J' (by rw [e]; exact g) (FrN.tr ff4 f) (by rw [e]; exact z)
  intro J5 g5 f5 r5 z5
  have ff5 := FrN.tr ff4 f5
  have hX5 := hX4.fr f5.1
  refine tm_6 hX5 g5 z5 ?_ ?_
  rotate_left
  · intro J' g f z
    have e : tM B n s = (sN B n 0 10 (sW B n 3 (sN B n 0 100 (sW B n 2 (sN B n 1 6 (sW B n 1 (sN B n 1 7 s))))))) := by
      unfold tM
      rw [sW_nz z]
      rw [(sN_nz z).1]
    exact go2 J' (by rw [e]; exact g) (FrN.tr ff5 f) (by rw [e]; exact z)
  intro J6 g6 f6 r6 z6
  have ff6 := FrN.tr ff5 f6
  have hX6 := hX5.fr f6.1
  refine tm_7 hX6 g6 z6 ?_ ?_
  rotate_left
  · intro J' g f z
    have e : tM B n s = (sW B n 4 (sN B n 0 10 (sW B n 3 (sN B n 0 100 (sW B n 2 (sN B n 1 6 (sW B n 1 (sN B n 1 7 s)))))))) := by
      unfold tM
      rw [(sN_nz z).1]
    exact go2 J' (by rw [e]; exact g) (FrN.tr ff6 f) (by rw [e]; exact z)
  intro J7 g7 f7 r7 z7
  have ff7 := FrN.tr ff6 f7
  have hX7 := hX6.fr f7.1
  refine tm_8 hX7 g7 z7 ?_ ?_
  rotate_left
  · intro J' g f z
    have e : tM B n s = (sN B n 0 31 (sW B n 4 (sN B n 0 10 (sW B n 3 (sN B n 0 100 (sW B n 2 (sN B n 1 6 (sW B n 1 (sN B n 1 7 s))))))))) := by
      unfold tM
      rfl
    exact go2 J' (by rw [e]; exact g) (FrN.tr ff7 f) (by rw [e]; exact z)
  intro J8 g8 f8 r8 z8
  have ff8 := FrN.tr ff7 f8
  have hX8 := hX7.fr f8.1
  unfold tM at go1
  exact go1 J8 g8 ff8 (by rw [r8, r7, r6, r5, r4, r3, r2, r1, r0]) z8
end KM2

