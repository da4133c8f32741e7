/-! A cell is read, whole: the model. -/
section KM6
variable {S : mS} {I J : mI} {L K : mL} {R : mR} {Q : mQ} {d m n k i lo hx : Nat} {B : Nat → Nat} {s : SG} {N : AS} {NL : Nat → List Nat} {mt : Bool}
theorem rr_in (hM : MRow N m J) {j : Nat} (hj : j < 242) (h5 : j ≠ 5) : J (m + 1) (2432 + j) = nI (N j) := hM.1 j hj h5
theorem k_aCell (hX : CtM S R m B n J) (hS : ScM B n m s J) (hz : s.2.1 = 0) (hM : MRow N m J) (hW : WFA N) (hE : ∀ c, c < 30 → cI N c 0 = cI N c 1) (go1 : ∀ J', ScM B n m (sP B n 7 0 17 (sP B n 4 0 31 (sP B n 3 0 10 (sP B n 2 0 100 (sC B n (N 0) (N 1) s))))) J' → FrN m J J' → MRow (ceN B n N (sC B n (N 0) (N 1) s) ((cVn B n (N 0) (N 1) s).getD (0, 0))) m J' → (sP B n 7 0 17 (sP B n 4 0 31 (sP B n 3 0 10 (sP B n 2 0 100 (sC B n (N 0) (N 1) s))))).2.1 = 0 → Q (some (.int (nI 1))) S J' L R) (go2 : ∀ J', ScM B n m (sP B n 7 0 17 (sP B n 4 0 31 (sP B n 3 0 10 (sP B n 2 0 100 (sC B n (N 0) (N 1) s))))) J' → FrN m J J' → ¬ (sP B n 7 0 17 (sP B n 4 0 31 (sP B n 3 0 10 (sP B n 2 0 100 (sC B n (N 0) (N 1) s))))).2.1 = 0 → Q (some (.int (nI 0))) S J' L R) : CA (d + 6) 235 [.ref m] S J L R Q := by
  have h := hX.1
  have kt1 : kd S (m + 1) = 100 := md_k1 h
  have b0 : N 0 ≤ 6 := hW.2.1
  have b1 : N 1 ≤ 5 := hW.2.2.1
  rw [ca_235]
  simp (disch := first | assumption | exact md_k h | exact md_k1 h | exact cw0 | exact vin1 h (by omega) | omega | (simp (disch := first | assumption | omega) only [md_k, md_R0, md_k1, md_n1, md_R1, md_k2, md_n2, md_R5, md_k3, md_n3, md_R6, md_k4, md_n4, md_R7, md_k5, md_n5, md_R8, md_k6, md_n6, md_R9, md_k7, md_n7, md_R21, md_k8, md_n8, md_R25, md_k9, md_n9, md_R26, md_k10, md_n10, md_R27, md_k11, md_n11, md_R28, md_k12, md_n12, md_R29, md_k13, md_n13, md_R32, md_k14, md_n14, md_R33, md_k15, md_n15, md_R34, md_k16, md_n16, md_R36, md_k17, md_n17, md_R41, md_k18, md_n18, md_R42, md_k19, md_n19, md_R43, md_k20, md_n20, vin, cw_nil, cw_int, cw_ref, cw_long, bI_01]; done) | (simp (disch := first | assumption | omega) only [md_k, md_R0, md_k1, md_n1, md_R1, md_k2, md_n2, md_R5, md_k3, md_n3, md_R6, md_k4, md_n4, md_R7, md_k5, md_n5, md_R8, md_k6, md_n6, md_R9, md_k7, md_n7, md_R21, md_k8, md_n8, md_R25, md_k9, md_n9, md_R26, md_k10, md_n10, md_R27, md_k11, md_n11, md_R28, md_k12, md_n12, md_R29, md_k13, md_n13, md_R32, md_k14, md_n14, md_R33, md_k15, md_n15, md_R34, md_k16, md_n16, md_R36, md_k17, md_n17, md_R41, md_k18, md_n18, md_R42, md_k19, md_n19, md_R43, md_k20, md_n20, cw_nil, cw_int, cw_ref, cw_long]; omega) | decide) only [x_235_0, x_235_3, x_235_4, x_235_5, x_235_8, x_235_12, x_235_15, x_235_16, x_235_17, x_235_20, x_235_22, x_235_24, x_235_25, x_235_28, x_235_29, x_235_30, x_235_31, x_235_32, x_235_33, x_235_34, x_235_37, x_235_38, x_235_39, x_235_40, x_235_41, x_235_42, x_235_43, x_235_44, x_235_46, x_235_49, x_235_52, x_235_53, x_235_54, x_235_55, x_235_56, x_235_57, x_235_59, x_235_62, x_235_65, x_235_66, x_235_67, x_235_68, x_235_71, x_235_72, x_235_73, x_235_76, x_235_77, x_235_78, x_235_79, x_235_80, x_235_81, x_235_82, x_235_84, x_235_87, x_235_90, x_235_91, x_235_92, x_235_93, x_235_94, x_235_95, x_235_97, x_235_100, x_235_103, x_235_104, x_235_106, x_235_109, x_235_112, x_235_113, x_235_114, x_235_115, x_235_116, x_235_117, x_235_119, x_235_122, x_235_125, x_235_126, x_235_128, x_235_131, x_235_134, x_235_135, x_235_136, x_235_137, x_235_138, x_235_139, x_235_141, x_235_144, x_235_147, x_235_148, x_235_151, x_235_152, ↓reduceIte, va_rf_some, cw_nil, cw_int, cw_ref, cw_long, kl_int, kl_ref, kl_null, kl_long, kl_none, Option.toList_some, Option.toList_none, List.cons_append, List.nil_append, List.append_nil, md_k, md_R0, md_k1, md_n1, md_R1, md_k2, md_n2, md_R5, md_k3, md_n3, md_R6, md_k4, md_n4, md_R7, md_k5, md_n5, md_R8, md_k6, md_n6, md_R9, md_k7, md_n7, md_R21, md_k8, md_n8, md_R25, md_k9, md_n9, md_R26, md_k10, md_n10, md_R27, md_k11, md_n11, md_R28, md_k12, md_n12, md_R29, md_k13, md_n13, md_R32, md_k14, md_n14, md_R33, md_k15, md_n15, md_R34, md_k16, md_n16, md_R36, md_k17, md_n17, md_R41, md_k18, md_n18, md_R42, md_k19, md_n19, md_R43, md_k20, md_n20, nI_add, pk_mul, nI_clamp, nI_ltI, nI_leI, nI_eq, Nat.reduceLT, Nat.reduceLeDiff, Nat.reduceEqDiff, Nat.reduceAdd, Nat.reduceMul, Nat.reduceSub, if_true, if_false, not_true, not_false_eq_true, decide_true, decide_false, Nat.lt_irrefl, Nat.le_refl, Nat.not_lt_zero, Nat.zero_le]
  rw [x_235_9 (md_k h) (by simp only [cw_ref, cw_int, cw_nil]; omega)]
  refine k_cellTo (slot := 2432) (to := 3034) (a := N 0) (b := N 1) hX hS hz (by omega) (by omega) (by omega) b0 b1 (rr_in hM (j := 0) (by omega) (by omega)) (rr_in hM (j := 1) (by omega) (by omega)) ?_
  intro J1 g1 f1 r1
  have ff1 : FrN m J J1 := ⟨f1, fun j hj => by rw [r1, rowN_ne (by omega), rowN_ne (by omega)]⟩
  by_cases z1 : (sC B n (N 0) (N 1) s).2.1 = 0
  · rw [bI_t z1]
    obtain ⟨_, u, v, cv, hu, hv, n1, n2⟩ := sC_ok z1
    rw [n1, n2] at r1
    rw [cv] at go1
    have q0 : J1 (m + 1) 3034 = nI u := by rw [r1, rowN_ne (by omega)]; exact va_up_self _ _ _
    have q1 : J1 (m + 1) 3035 = nI v := by rw [r1]; exact va_up_self _ _ _
    have ro : ∀ j, j < 602 → J1 (m + 1) (2432 + j) = J (m + 1) (2432 + j) := fun j hj => by rw [r1, rowN_ne (by omega), rowN_ne (by omega)]
    have hc : 6 * v + u < 30 := by omega
    have w0 : vp_in (nI 3034) (ln S (m + 1)) := vin1 h (by omega)
    have w1 : vp_in (nI 3035) (ln S (m + 1)) := vin1 h (by omega)
    have hX1 := hX.fr f1
    simp (disch := first | assumption | exact md_k h | exact md_k1 h | exact cw0 | exact vin1 h (by omega) | omega | (simp (disch := first | assumption | omega) only [md_k, md_R0, md_k1, md_n1, md_R1, md_k2, md_n2, md_R5, md_k3, md_n3, md_R6, md_k4, md_n4, md_R7, md_k5, md_n5, md_R8, md_k6, md_n6, md_R9, md_k7, md_n7, md_R21, md_k8, md_n8, md_R25, md_k9, md_n9, md_R26, md_k10, md_n10, md_R27, md_k11, md_n11, md_R28, md_k12, md_n12, md_R29, md_k13, md_n13, md_R32, md_k14, md_n14, md_R33, md_k15, md_n15, md_R34, md_k16, md_n16, md_R36, md_k17, md_n17, md_R41, md_k18, md_n18, md_R42, md_k19, md_n19, md_R43, md_k20, md_n20, vin, cw_nil, cw_int, cw_ref, cw_long, bI_01]; done) | (simp (disch := first | assumption | omega) only [md_k, md_R0, md_k1, md_n1, md_R1, md_k2, md_n2, md_R5, md_k3, md_n3, md_R6, md_k4, md_n4, md_R7, md_k5, md_n5, md_R8, md_k6, md_n6, md_R9, md_k7, md_n7, md_R21, md_k8, md_n8, md_R25, md_k9, md_n9, md_R26, md_k10, md_n10, md_R27, md_k11, md_n11, md_R28, md_k12, md_n12, md_R29, md_k13, md_n13, md_R32, md_k14, md_n14, md_R33, md_k15, md_n15, md_R34, md_k16, md_n16, md_R36, md_k17, md_n17, md_R41, md_k18, md_n18, md_R42, md_k19, md_n19, md_R43, md_k20, md_n20, cw_nil, cw_int, cw_ref, cw_long]; omega) | decide) only [x_235_0, x_235_3, x_235_4, x_235_5, x_235_8, x_235_12, x_235_15, x_235_16, x_235_17, x_235_20, x_235_22, x_235_24, x_235_25, x_235_28, x_235_29, x_235_30, x_235_31, x_235_32, x_235_33, x_235_34, x_235_37, x_235_38, x_235_39, x_235_40, x_235_41, x_235_42, x_235_44, x_235_46, x_235_49, x_235_52, x_235_53, x_235_54, x_235_55, x_235_56, x_235_57, x_235_59, x_235_62, x_235_65, x_235_66, x_235_67, x_235_68, x_235_71, x_235_72, x_235_73, x_235_76, x_235_77, x_235_78, x_235_79, x_235_80, x_235_81, x_235_82, x_235_84, x_235_87, x_235_90, x_235_91, x_235_92, x_235_93, x_235_94, x_235_95, x_235_97, x_235_100, x_235_103, x_235_104, x_235_106, x_235_109, x_235_112, x_235_113, x_235_114, x_235_115, x_235_116, x_235_117, x_235_119, x_235_122, x_235_125, x_235_126, x_235_128, x_235_131, x_235_134, x_235_135, x_235_136, x_235_137, x_235_138, x_235_139, x_235_141, x_235_144, x_235_147, x_235_148, x_235_151, x_235_152, ↓reduceIte, va_rf_some, cw_nil, cw_int, cw_ref, cw_long, kl_int, kl_ref, kl_null, kl_long, kl_none, Option.toList_some, Option.toList_none, List.cons_append, List.nil_append, List.append_nil, md_k, md_R0, md_k1, md_n1, md_R1, md_k2, md_n2, md_R5, md_k3, md_n3, md_R6, md_k4, md_n4, md_R7, md_k5, md_n5, md_R8, md_k6, md_n6, md_R9, md_k7, md_n7, md_R21, md_k8, md_n8, md_R25, md_k9, md_n9, md_R26, md_k10, md_n10, md_R27, md_k11, md_n11, md_R28, md_k12, md_n12, md_R29, md_k13, md_n13, md_R32, md_k14, md_n14, md_R33, md_k15, md_n15, md_R34, md_k16, md_n16, md_R36, md_k17, md_n17, md_R41, md_k18, md_n18, md_R42, md_k19, md_n19, md_R43, md_k20, md_n20, nI_add, pk_mul, nI_clamp, nI_ltI, nI_leI, nI_eq, q0, q1, Nat.reduceLT, Nat.reduceLeDiff, Nat.reduceEqDiff, Nat.reduceAdd, Nat.reduceMul, Nat.reduceSub, if_true, if_false, not_true, not_false_eq_true, decide_true, decide_false, Nat.lt_irrefl, Nat.le_refl, Nat.not_lt_zero, Nat.zero_le]
    have rC : ∀ k, k < 6 → J1 (m + 1) (2438 + 6 * (6 * v + u) + k) = nI (cI N (6 * v + u) k) := by
      intro k hk
      have := ro (6 + 6 * (6 * v + u) + k) (by omega)
      rw [show 2438 + 6 * (6 * v + u) + k = 2432 + (6 + 6 * (6 * v + u) + k) by omega, this]
      exact rr_in hM (by omega) (by omega)
    generalize hcc : 6 * v + u = c at hc rC
    have sk0 : J1 (m + 1) (2438 + 6 * c) = nI (cI N c 1) := by rw [← hE c hc]; exact rC 0 (by omega)
    refine ac_skin (cc := 2438 + 6 * c) (w := cI N c 1) (s := (sC B n (N 0) (N 1) s)) hX1 g1 z1 (by omega) (rC 1 (by omega)) sk0 ?_ ?_
    rotate_left
    · intro J2 g2 f2 z2
      have e : (sP B n 7 0 17 (sP B n 4 0 31 (sP B n 3 0 10 (sP B n 2 0 100 (sC B n (N 0) (N 1) s))))) = (sP B n 2 0 100 (sC B n (N 0) (N 1) s)) := by rw [sP_nz z2, sP_nz z2, sP_nz z2]
      exact go2 J2 (by rw [e]; exact g2) (ff1.tr f2) (by rw [e]; exact z2)
    intro J2 g2 f2 r2 z2
    obtain ⟨_, sk, pk1, _, k1⟩ := sP_ok (w := cI N c 1) z2 ⟨Nat.zero_le _, Nat.lt_succ_of_le (hW.2.2.2.2.2.2.2.2.1 c hc)⟩
    rw [pk1] at r2
    have r2' : J2 (m + 1) = va_up (va_up (J1 (m + 1)) (2438 + 6 * c + 1) (nI sk)) (2438 + 6 * c) (nI sk) := by
      rw [r2]
      show va_up (va_up (J1 (m + 1)) (2438 + 6 * c + 1) (nI sk)) (2438 + 6 * c) (va_up (J1 (m + 1)) (2438 + 6 * c + 1) (nI sk) (2438 + 6 * c + 1)) = _
      rw [va_up_self]
    have rC2 : ∀ k, 2 ≤ k → k < 6 → J2 (m + 1) (2438 + 6 * c + k) = nI (cI N c k) := by
      intro k k2 hk
      rw [r2', va_up_ne _ _ (by omega), va_up_ne _ _ (by omega)]
      exact rC k hk
    refine ac_soft (cc := 2438 + 6 * c) (w := cI N c 2) (s := (sP B n 2 0 100 (sC B n (N 0) (N 1) s))) (hX1.fr f2.1) g2 z2 (by omega) (rC2 2 (by omega) (by omega)) ?_ ?_
    rotate_left
    · intro J3 g3 f3 z3
      have e : (sP B n 7 0 17 (sP B n 4 0 31 (sP B n 3 0 10 (sP B n 2 0 100 (sC B n (N 0) (N 1) s))))) = (sP B n 3 0 10 (sP B n 2 0 100 (sC B n (N 0) (N 1) s))) := by rw [sP_nz z3, sP_nz z3]
      exact go2 J3 (by rw [e]; exact g3) ((ff1.tr f2).tr f3) (by rw [e]; exact z3)
    intro J3 g3 f3 r3 z3
    obtain ⟨_, so, pk2, _, k2⟩ := sP_ok (w := cI N c 2) z3 ⟨Nat.zero_le _, Nat.lt_succ_of_le (hW.2.2.2.2.2.2.2.2.2.1 c hc)⟩
    rw [pk2] at r3
    refine ac_deep (cc := 2438 + 6 * c) (w := cI N c 3) (s := (sP B n 3 0 10 (sP B n 2 0 100 (sC B n (N 0) (N 1) s)))) ((hX1.fr f2.1).fr f3.1) g3 z3 (by omega) (by rw [r3, rowN_ne (by omega)]; exact rC2 3 (by omega) (by omega)) ?_ ?_
    rotate_left
    · intro J4 g4 f4 z4
      have e : (sP B n 7 0 17 (sP B n 4 0 31 (sP B n 3 0 10 (sP B n 2 0 100 (sC B n (N 0) (N 1) s))))) = (sP B n 4 0 31 (sP B n 3 0 10 (sP B n 2 0 100 (sC B n (N 0) (N 1) s)))) := by rw [sP_nz z4]
      exact go2 J4 (by rw [e]; exact g4) (((ff1.tr f2).tr f3).tr f4) (by rw [e]; exact z4)
    intro J4 g4 f4 r4 z4
    obtain ⟨_, de, pk3, _, k3⟩ := sP_ok (w := cI N c 3) z4 ⟨Nat.zero_le _, Nat.lt_succ_of_le (hW.2.2.2.2.2.2.2.2.2.2.1 c hc)⟩
    rw [pk3] at r4
    refine ac_odds (cc := 2438 + 6 * c) (w := cI N c 4) (s := (sP B n 4 0 31 (sP B n 3 0 10 (sP B n 2 0 100 (sC B n (N 0) (N 1) s))))) (((hX1.fr f2.1).fr f3.1).fr f4.1) g4 z4 (by omega) (by rw [r4, rowN_ne (by omega), r3, rowN_ne (by omega)]; exact rC2 4 (by omega) (by omega)) ?_ ?_
    rotate_left
    · intro J5 g5 f5 z5
      exact go2 J5 g5 ((((ff1.tr f2).tr f3).tr f4).tr f5) z5
    intro J5 g5 f5 r5 z5
    obtain ⟨_, od, pk4, _, k4⟩ := sP_ok (w := cI N c 4) z5 ⟨Nat.zero_le _, Nat.lt_succ_of_le (hW.2.2.2.2.2.2.2.2.2.2.2.1 c hc)⟩
    rw [pk4] at r5
    have eN : ceN B n N (sC B n (N 0) (N 1) s) ((some (u, v)).getD (0, 0)) = ceA N c sk so de od := by
      show ceN B n N (sC B n (N 0) (N 1) s) (u, v) = _
      unfold ceN
      show ceA N (6 * v + u) _ _ _ _ = _
      rw [hcc, pk1, pk2, pk3, pk4]
      rfl
    rw [eN] at go1
    have h9 := go1 J5 g5 ((((ff1.tr f2).tr f3).tr f4).tr f5) (by
      have := ce_row (sk := sk) (so := so) (de := de) (od := od) (f := J1 (m + 1)) hc (N := N) (fun j hj h5 => by
        show J1 (m + 1) (2432 + j) = _
        rw [ro j (by omega)]; exact rr_in hM hj h5)
      have e5 : J5 (m + 1) = va_up (va_up (va_up (va_up (va_up (J1 (m + 1)) ((2438 + 6 * c) + 1) (nI sk)) (2438 + 6 * c) (nI sk)) ((2438 + 6 * c) + 2) (nI so)) ((2438 + 6 * c) + 3) (nI de)) ((2438 + 6 * c) + 4) (nI od) := by rw [r5, r4, r3, r2']; rfl
      refine ⟨?_, ?_⟩
      · rw [e5]; exact this.1
      · rw [e5, this.2, show 2437 = 2432 + 5 by omega, ro 5 (by omega)]; exact hM.2) z5
    simp (disch := first | assumption | exact md_k h | exact md_k1 h | exact cw0 | exact vin1 h (by omega) | omega | (simp (disch := first | assumption | omega) only [md_k, md_R0, md_k1, md_n1, md_R1, md_k2, md_n2, md_R5, md_k3, md_n3, md_R6, md_k4, md_n4, md_R7, md_k5, md_n5, md_R8, md_k6, md_n6, md_R9, md_k7, md_n7, md_R21, md_k8, md_n8, md_R25, md_k9, md_n9, md_R26, md_k10, md_n10, md_R27, md_k11, md_n11, md_R28, md_k12, md_n12, md_R29, md_k13, md_n13, md_R32, md_k14, md_n14, md_R33, md_k15, md_n15, md_R34, md_k16, md_n16, md_R36, md_k17, md_n17, md_R41, md_k18, md_n18, md_R42, md_k19, md_n19, md_R43, md_k20, md_n20, vin, cw_nil, cw_int, cw_ref, cw_long, bI_01]; done) | (simp (disch := first | assumption | omega) only [md_k, md_R0, md_k1, md_n1, md_R1, md_k2, md_n2, md_R5, md_k3, md_n3, md_R6, md_k4, md_n4, md_R7, md_k5, md_n5, md_R8, md_k6, md_n6, md_R9, md_k7, md_n7, md_R21, md_k8, md_n8, md_R25, md_k9, md_n9, md_R26, md_k10, md_n10, md_R27, md_k11, md_n11, md_R28, md_k12, md_n12, md_R29, md_k13, md_n13, md_R32, md_k14, md_n14, md_R33, md_k15, md_n15, md_R34, md_k16, md_n16, md_R36, md_k17, md_n17, md_R41, md_k18, md_n18, md_R42, md_k19, md_n19, md_R43, md_k20, md_n20, cw_nil, cw_int, cw_ref, cw_long]; omega) | decide) only [x_235_0, x_235_3, x_235_4, x_235_5, x_235_8, x_235_12, x_235_15, x_235_16, x_235_17, x_235_20, x_235_22, x_235_24, x_235_25, x_235_28, x_235_29, x_235_30, x_235_31, x_235_32, x_235_33, x_235_34, x_235_37, x_235_38, x_235_39, x_235_40, x_235_41, x_235_42, x_235_44, x_235_46, x_235_49, x_235_52, x_235_53, x_235_54, x_235_55, x_235_56, x_235_57, x_235_59, x_235_62, x_235_65, x_235_66, x_235_67, x_235_68, x_235_71, x_235_72, x_235_73, x_235_76, x_235_77, x_235_78, x_235_79, x_235_80, x_235_81, x_235_82, x_235_84, x_235_87, x_235_90, x_235_91, x_235_92, x_235_93, x_235_94, x_235_95, x_235_97, x_235_100, x_235_103, x_235_104, x_235_106, x_235_109, x_235_112, x_235_113, x_235_114, x_235_115, x_235_116, x_235_117, x_235_119, x_235_122, x_235_125, x_235_126, x_235_128, x_235_131, x_235_134, x_235_135, x_235_136, x_235_137, x_235_138, x_235_139, x_235_141, x_235_144, x_235_147, x_235_148, x_235_151, x_235_152, ↓reduceIte, va_rf_some, cw_nil, cw_int, cw_ref, cw_long, kl_int, kl_ref, kl_null, kl_long, kl_none, Option.toList_some, Option.toList_none, List.cons_append, List.nil_append, List.append_nil, md_k, md_R0, md_k1, md_n1, md_R1, md_k2, md_n2, md_R5, md_k3, md_n3, md_R6, md_k4, md_n4, md_R7, md_k5, md_n5, md_R8, md_k6, md_n6, md_R9, md_k7, md_n7, md_R21, md_k8, md_n8, md_R25, md_k9, md_n9, md_R26, md_k10, md_n10, md_R27, md_k11, md_n11, md_R28, md_k12, md_n12, md_R29, md_k13, md_n13, md_R32, md_k14, md_n14, md_R33, md_k15, md_n15, md_R34, md_k16, md_n16, md_R36, md_k17, md_n17, md_R41, md_k18, md_n18, md_R42, md_k19, md_n19, md_R43, md_k20, md_n20, nI_add, pk_mul, nI_clamp, nI_ltI, nI_leI, nI_eq, Nat.reduceLT, Nat.reduceLeDiff, Nat.reduceEqDiff, Nat.reduceAdd, Nat.reduceMul, Nat.reduceSub, if_true, if_false, not_true, not_false_eq_true, decide_true, decide_false, Nat.lt_irrefl, Nat.le_refl, Nat.not_lt_zero, Nat.zero_le]
    exact h9
  · rw [bI_f z1]
    have e : (sP B n 7 0 17 (sP B n 4 0 31 (sP B n 3 0 10 (sP B n 2 0 100 (sC B n (N 0) (N 1) s))))) = (sC B n (N 0) (N 1) s) := by rw [sP_nz z1, sP_nz z1, sP_nz z1, sP_nz z1]
    have h9 := go2 J1 (by rw [e]; exact g1) ff1 (by rw [e]; exact z1)
    simp (disch := first | assumption | exact md_k h | exact md_k1 h | exact cw0 | exact vin1 h (by omega) | omega | (simp (disch := first | assumption | omega) only [md_k, md_R0, md_k1, md_n1, md_R1, md_k2, md_n2, md_R5, md_k3, md_n3, md_R6, md_k4, md_n4, md_R7, md_k5, md_n5, md_R8, md_k6, md_n6, md_R9, md_k7, md_n7, md_R21, md_k8, md_n8, md_R25, md_k9, md_n9, md_R26, md_k10, md_n10, md_R27, md_k11, md_n11, md_R28, md_k12, md_n12, md_R29, md_k13, md_n13, md_R32, md_k14, md_n14, md_R33, md_k15, md_n15, md_R34, md_k16, md_n16, md_R36, md_k17, md_n17, md_R41, md_k18, md_n18, md_R42, md_k19, md_n19, md_R43, md_k20, md_n20, vin, cw_nil, cw_int, cw_ref, cw_long, bI_01]; done) | (simp (disch := first | assumption | omega) only [md_k, md_R0, md_k1, md_n1, md_R1, md_k2, md_n2, md_R5, md_k3, md_n3, md_R6, md_k4, md_n4, md_R7, md_k5, md_n5, md_R8, md_k6, md_n6, md_R9, md_k7, md_n7, md_R21, md_k8, md_n8, md_R25, md_k9, md_n9, md_R26, md_k10, md_n10, md_R27, md_k11, md_n11, md_R28, md_k12, md_n12, md_R29, md_k13, md_n13, md_R32, md_k14, md_n14, md_R33, md_k15, md_n15, md_R34, md_k16, md_n16, md_R36, md_k17, md_n17, md_R41, md_k18, md_n18, md_R42, md_k19, md_n19, md_R43, md_k20, md_n20, cw_nil, cw_int, cw_ref, cw_long]; omega) | decide) only [x_235_0, x_235_3, x_235_4, x_235_5, x_235_8, x_235_12, x_235_15, x_235_16, x_235_17, x_235_20, x_235_22, x_235_24, x_235_25, x_235_28, x_235_29, x_235_30, x_235_31, x_235_32, x_235_33, x_235_34, x_235_37, x_235_38, x_235_39, x_235_40, x_235_41, x_235_42, x_235_44, x_235_46, x_235_49, x_235_52, x_235_53, x_235_54, x_235_55, x_235_56, x_235_57, x_235_59, x_235_62, x_235_65, x_235_66, x_235_67, x_235_68, x_235_71, x_235_72, x_235_73, x_235_76, x_235_77, x_235_78, x_235_79, x_235_80, x_235_81, x_235_82, x_235_84, x_235_87, x_235_90, x_235_91, x_235_92, x_235_93, x_235_94, x_235_95, x_235_97, x_235_100, x_235_103, x_235_104, x_235_106, x_235_109, x_235_112, x_235_113, x_235_114, x_235_115, x_235_116, x_235_117, x_235_119, x_235_122, x_235_125, x_235_126, x_235_128, x_235_131, x_235_134, x_235_135, x_235_136, x_235_137, x_235_138, x_235_139, x_235_141, x_235_144, x_235_147, x_235_148, x_235_151, x_235_152, ↓reduceIte, va_rf_some, cw_nil, cw_int, cw_ref, cw_long, kl_int, kl_ref, kl_null, kl_long, kl_none, Option.toList_some, Option.toList_none, List.cons_append, List.nil_append, List.append_nil, md_k, md_R0, md_k1, md_n1, md_R1, md_k2, md_n2, md_R5, md_k3, md_n3, md_R6, md_k4, md_n4, md_R7, md_k5, md_n5, md_R8, md_k6, md_n6, md_R9, md_k7, md_n7, md_R21, md_k8, md_n8, md_R25, md_k9, md_n9, md_R26, md_k10, md_n10, md_R27, md_k11, md_n11, md_R28, md_k12, md_n12, md_R29, md_k13, md_n13, md_R32, md_k14, md_n14, md_R33, md_k15, md_n15, md_R34, md_k16, md_n16, md_R36, md_k17, md_n17, md_R41, md_k18, md_n18, md_R42, md_k19, md_n19, md_R43, md_k20, md_n20, nI_add, pk_mul, nI_clamp, nI_ltI, nI_leI, nI_eq, Nat.reduceLT, Nat.reduceLeDiff, Nat.reduceEqDiff, Nat.reduceAdd, Nat.reduceMul, Nat.reduceSub, if_true, if_false, not_true, not_false_eq_true, decide_true, decide_false, Nat.lt_irrefl, Nat.le_refl, Nat.not_lt_zero, Nat.zero_le]
    exact h9
end KM6

