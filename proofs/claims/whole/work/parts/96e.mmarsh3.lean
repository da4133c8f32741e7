/-! The marsh itself is read and laid out: the model. -/
section KM4
variable {S : mS} {I J : mI} {L K : mL} {R : mR} {Q : mQ} {d m n k i lo hx : Nat} {B : Nat → Nat} {s : SG} {N : AS} {NL : Nat → List Nat} {mt : Bool}
theorem ScM.cg {J' : mI} (e : J' m = J m) (h : ScM B n m s J) : ScM B n m s J' := by
  unfold ScM TkM at *
  rw [e]
  exact h
theorem FrN.row {J' : mI} (h1 : ∀ b, b ≠ m + 1 → J' b = J b) (h2 : ∀ j, j < 2432 ∨ 3040 ≤ j → J' (m + 1) j = J (m + 1) j) : FrN m J J' := ⟨⟨fun b _ q => h1 b q, fun j _ _ _ _ _ _ => by rw [h1 m (by omega)]⟩, h2⟩
theorem up_w {f : Nat → Int32} {a : Nat} {v : Int32} (h : f a = v) : va_up f a v = f := by
  funext j
  by_cases z : j = a
  · rw [z, va_up_self, h]
  · rw [va_up_ne _ _ z]
theorem up_n {f : Nat → Int32} {a w : Nat} (h : f a = nI w) : rowN f a (some w) = f := up_w h
def MRow (N : AS) (m : Nat) (J : mI) : Prop := rowA (fun j => J (m + 1) (2432 + j)) N ∧ J (m + 1) 2437 = -1
theorem k_theMarsh (hX : CtM S R m B n J) (hS : ScM B n m s J) (hz : s.2.1 = 0) (go1 : ∀ J', ScM B n m (tM B n s) J' → FrN m J J' → J' (m + 1) = lyG (rowN (rowN (rowN (rowN (rowN (J (m + 1)) 2432 (nVn B n 1 7 s)) 2433 (nVn B n 1 6 (sW B n 1 (sN B n 1 7 s)))) 3034 (nVn B n 0 100 (sW B n 2 (sN B n 1 6 (sW B n 1 (sN B n 1 7 s)))))) 3035 (nVn B n 0 10 (sW B n 3 (sN B n 0 100 (sW B n 2 (sN B n 1 6 (sW B n 1 (sN B n 1 7 s)))))))) 3036 (nVn B n 0 31 (sW B n 4 (sN B n 0 10 (sW B n 3 (sN B n 0 100 (sW B n 2 (sN B n 1 6 (sW B n 1 (sN B n 1 7 s)))))))))) 0 → (tM B n s).2.1 = 0 → Q (some (.int (nI 1))) S J' L R) (go2 : ∀ J', ScM B n m (tM B n s) J' → FrN m J J' → ¬ (tM B n s).2.1 = 0 → Q (some (.int (nI 0))) S J' L R) : CA (d + 6) 232 [.ref m] S J L R Q := by
  have h := hX.1
  refine tm_all hX hS hz ?_ go2
  intro J1 g1 f1 r1 z1
  simp (disch := first | assumption | exact md_k h | exact md_k1 h | exact cw0 | exact vin1 h (by omega) | omega | (simp (disch := first | assumption | omega) only [md_k, md_R0, md_k1, md_n1, md_R1, md_k2, md_n2, md_R5, md_k3, md_n3, md_R6, md_k4, md_n4, md_R7, md_k5, md_n5, md_R8, md_k6, md_n6, md_R9, md_k7, md_n7, md_R21, md_k8, md_n8, md_R25, md_k9, md_n9, md_R26, md_k10, md_n10, md_R27, md_k11, md_n11, md_R28, md_k12, md_n12, md_R29, md_k13, md_n13, md_R32, md_k14, md_n14, md_R33, md_k15, md_n15, md_R34, md_k16, md_n16, md_R36, md_k17, md_n17, md_R41, md_k18, md_n18, md_R42, md_k19, md_n19, md_R43, md_k20, md_n20, vin, cw_nil, cw_int, cw_ref, cw_long, bI_01]; done) | (simp (disch := first | assumption | omega) only [md_k, md_R0, md_k1, md_n1, md_R1, md_k2, md_n2, md_R5, md_k3, md_n3, md_R6, md_k4, md_n4, md_R7, md_k5, md_n5, md_R8, md_k6, md_n6, md_R9, md_k7, md_n7, md_R21, md_k8, md_n8, md_R25, md_k9, md_n9, md_R26, md_k10, md_n10, md_R27, md_k11, md_n11, md_R28, md_k12, md_n12, md_R29, md_k13, md_n13, md_R32, md_k14, md_n14, md_R33, md_k15, md_n15, md_R34, md_k16, md_n16, md_R36, md_k17, md_n17, md_R41, md_k18, md_n18, md_R42, md_k19, md_n19, md_R43, md_k20, md_n20, cw_nil, cw_int, cw_ref, cw_long]; omega) | decide) only [x_232_0, x_232_3, x_232_4, x_232_5, x_232_8, x_232_9, x_232_11, x_232_14, x_232_17, x_232_18, x_232_20, x_232_21, x_232_24, x_232_27, x_232_28, x_232_31, x_232_32, x_232_33, x_232_36, x_232_39, x_232_40, x_232_42, x_232_44, x_232_47, x_232_50, x_232_51, x_232_52, x_232_53, x_232_55, x_232_58, x_232_61, x_232_62, x_232_64, x_232_66, x_232_69, x_232_72, x_232_73, x_232_74, x_232_75, x_232_76, x_232_77, x_232_79, x_232_82, x_232_85, x_232_86, x_232_88, x_232_90, x_232_93, x_232_96, x_232_97, x_232_98, x_232_99, x_232_100, x_232_101, x_232_103, x_232_106, x_232_109, x_232_110, x_232_111, x_232_112, x_232_114, x_232_116, x_232_119, x_232_122, x_232_124, x_232_125, x_232_126, x_232_127, x_232_128, x_232_129, x_232_132, x_232_133, x_232_134, x_232_137, x_232_138, x_232_139, x_232_140, x_232_141, x_232_144, x_232_145, x_232_146, x_232_147, x_232_148, x_232_151, x_232_152, x_232_153, x_232_154, x_232_155, x_232_158, x_232_159, x_232_160, x_232_161, x_232_162, x_232_165, x_232_166, x_232_167, x_232_168, x_232_169, x_232_170, x_232_171, x_232_174, x_232_175, x_232_176, x_232_177, x_232_178, x_232_181, x_232_182, x_232_183, x_232_184, x_232_185, x_232_186, x_232_187, x_232_190, x_232_191, x_232_192, x_232_193, x_232_195, x_232_196, x_232_199, x_232_202, x_232_203, ↓reduceIte, va_rf_some, cw_nil, cw_int, cw_ref, cw_long, kl_int, kl_ref, kl_null, kl_long, kl_none, Option.toList_some, Option.toList_none, List.cons_append, List.nil_append, List.append_nil, md_k, md_R0, md_k1, md_n1, md_R1, md_k2, md_n2, md_R5, md_k3, md_n3, md_R6, md_k4, md_n4, md_R7, md_k5, md_n5, md_R8, md_k6, md_n6, md_R9, md_k7, md_n7, md_R21, md_k8, md_n8, md_R25, md_k9, md_n9, md_R26, md_k10, md_n10, md_R27, md_k11, md_n11, md_R28, md_k12, md_n12, md_R29, md_k13, md_n13, md_R32, md_k14, md_n14, md_R33, md_k15, md_n15, md_R34, md_k16, md_n16, md_R36, md_k17, md_n17, md_R41, md_k18, md_n18, md_R42, md_k19, md_n19, md_R43, md_k20, md_n20, nI_add, pk_mul, nI_clamp, nI_ltI, nI_leI, nI_eq, Nat.reduceLT, Nat.reduceLeDiff, Nat.reduceEqDiff, Nat.reduceAdd, Nat.reduceMul, Nat.reduceSub, if_true, if_false, not_true, not_false_eq_true, decide_true, decide_false, Nat.lt_irrefl, Nat.le_refl, Nat.not_lt_zero, Nat.zero_le]
  refine tm_l h 30 0 _ J1 rfl ?_
  intro J2 r2 o2
  refine go1 J2 (g1.cg (o2 m (by omega))) (f1.tr (FrN.row o2 ?_)) (by rw [r2, r1]) z1
  intro j hj
  rw [r2]
  exact if_neg (by omega)
theorem lay_row {f : Nat → Int32} {a b e g1 g2 : Nat} (h : rowA (fun j => f (2432 + j)) N) : rowA (fun j => lyG (rowN (rowN (rowN (rowN (rowN f 2432 (some a)) 2433 (some b)) 3034 (some e)) 3035 (some g1)) 3036 (some g2)) 0 (2432 + j)) (layA N a b e g1 g2) ∧ lyG (rowN (rowN (rowN (rowN (rowN f 2432 (some a)) 2433 (some b)) 3034 (some e)) 3035 (some g1)) 3036 (some g2)) 0 2437 = f 2437 := by
  have e0 : (rowN (rowN (rowN (rowN (rowN f 2432 (some a)) 2433 (some b)) 3034 (some e)) 3035 (some g1)) 3036 (some g2)) 3034 = nI e := by
    rw [rowN_ne (by omega), rowN_ne (by omega)]; exact va_up_self _ _ _
  have e1 : (rowN (rowN (rowN (rowN (rowN f 2432 (some a)) 2433 (some b)) 3034 (some e)) 3035 (some g1)) 3036 (some g2)) 3035 = nI g1 := by
    rw [rowN_ne (by omega)]; exact va_up_self _ _ _
  have e2 : (rowN (rowN (rowN (rowN (rowN f 2432 (some a)) 2433 (some b)) 3034 (some e)) 3035 (some g1)) 3036 (some g2)) 3036 = nI g2 := va_up_self _ _ _
  have eo : ∀ j, j < 3034 → (rowN (rowN (rowN (rowN (rowN f 2432 (some a)) 2433 (some b)) 3034 (some e)) 3035 (some g1)) 3036 (some g2)) j = if j = 2432 then nI a else if j = 2433 then nI b else f j := by
    intro j hj
    rw [rowN_ne (by omega), rowN_ne (by omega), rowN_ne (by omega)]
    by_cases z : j = 2432
    · rw [if_pos z, z, rowN_ne (by omega)]; exact va_up_self _ _ _
    · rw [if_neg z]
      by_cases y : j = 2433
      · rw [if_pos y, y]; exact va_up_self _ _ _
      · rw [if_neg y, rowN_ne y, rowN_ne z]
  refine ⟨?_, ?_⟩
  · intro j hj h5
    show lyG (rowN (rowN (rowN (rowN (rowN f 2432 (some a)) 2433 (some b)) 3034 (some e)) 3035 (some g1)) 3036 (some g2)) 0 (2432 + j) = nI (layA N a b e g1 g2 j)
    unfold lyG layA
    rw [e0, e1, e2, eo _ (by omega)]
    by_cases c : 6 ≤ j ∧ j < 186 ∧ (j - 6) % 6 ≠ 5
    · have q : 2432 + j - 2438 = j - 6 := by omega
      rw [if_pos (by omega), q, if_neg (show ¬ j = 0 by omega), if_neg (show ¬ j = 1 by omega), if_pos c]
      by_cases c1 : (j - 6) % 6 < 2
      · rw [if_pos c1, if_pos c1]
      · rw [if_neg c1, if_neg c1]
        by_cases c2 : (j - 6) % 6 = 2
        · rw [if_pos c2, if_pos c2]
        · rw [if_neg c2, if_neg c2]
          by_cases c3 : (j - 6) % 6 = 3
          · rw [if_pos c3, if_pos c3]
          · rw [if_neg c3, if_neg c3]
    · rw [if_neg (by omega), if_neg c]
      by_cases c0 : j = 0
      · rw [if_pos (by omega), if_pos c0]
      · rw [if_neg (by omega), if_neg c0]
        by_cases c1 : j = 1
        · rw [if_pos (by omega), if_pos c1]
        · rw [if_neg (by omega), if_neg c1]
          exact h j hj h5
  · unfold lyG
    rw [if_neg (by omega), eo _ (by omega), if_neg (by omega), if_neg (by omega)]
theorem tM_ok (h : (tM B n s).2.1 = 0) : ∃ a b e g1 g2, 1 ≤ a ∧ nVn B n 1 7 s = some a ∧ nVn B n 1 6 (sW B n 1 (sN B n 1 7 s)) = some b ∧ nVn B n 0 100 (sW B n 2 (sN B n 1 6 (sW B n 1 (sN B n 1 7 s)))) = some e ∧ nVn B n 0 10 (sW B n 3 (sN B n 0 100 (sW B n 2 (sN B n 1 6 (sW B n 1 (sN B n 1 7 s)))))) = some g1 ∧ nVn B n 0 31 (sW B n 4 (sN B n 0 10 (sW B n 3 (sN B n 0 100 (sW B n 2 (sN B n 1 6 (sW B n 1 (sN B n 1 7 s)))))))) = some g2 := by
  unfold tM at h
  obtain ⟨z8, v8, w8, y8, _⟩ := sN_ok (s := (sW B n 4 (sN B n 0 10 (sW B n 3 (sN B n 0 100 (sW B n 2 (sN B n 1 6 (sW B n 1 (sN B n 1 7 s))))))))) h
  obtain ⟨z7, _⟩ := sW_ok (s := (sN B n 0 10 (sW B n 3 (sN B n 0 100 (sW B n 2 (sN B n 1 6 (sW B n 1 (sN B n 1 7 s)))))))) z8
  obtain ⟨z6, v6, w6, y6, _⟩ := sN_ok (s := (sW B n 3 (sN B n 0 100 (sW B n 2 (sN B n 1 6 (sW B n 1 (sN B n 1 7 s))))))) z7
  obtain ⟨z5, _⟩ := sW_ok (s := (sN B n 0 100 (sW B n 2 (sN B n 1 6 (sW B n 1 (sN B n 1 7 s)))))) z6
  obtain ⟨z4, v4, w4, y4, _⟩ := sN_ok (s := (sW B n 2 (sN B n 1 6 (sW B n 1 (sN B n 1 7 s))))) z5
  obtain ⟨z3, _⟩ := sW_ok (s := (sN B n 1 6 (sW B n 1 (sN B n 1 7 s)))) z4
  obtain ⟨z2, v2, w2, y2, _⟩ := sN_ok (s := (sW B n 1 (sN B n 1 7 s))) z3
  obtain ⟨z1, _⟩ := sW_ok (s := (sN B n 1 7 s)) z2
  obtain ⟨z0, v0, w0, y0, _⟩ := sN_ok (s := s) z1
  exact ⟨v0, v2, v4, v6, v8, y0, w0, w2, w4, w6, w8⟩
end KM4

