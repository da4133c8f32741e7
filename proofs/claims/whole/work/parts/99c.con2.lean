/-! The constructor of a state. -/
section CN2
variable {f g : Nat → Nat} {I : mI} {L : mL} {R : mR} {Q : mQ} {d t x : Nat}
variable {f' g' : Nat → Nat} {I' : mI} {L' : mL} {R' : mR} {a l fo : Nat}
def SameR (lo hi : Nat) (f f' g g' : Nat → Nat) (I I' : mI) (R R' : mR) : Prop := ∀ b, lo ≤ b → b < hi → f' b = f b ∧ g' b = g b ∧ I' b = I b ∧ R' b = R b

theorem lndL_cg (e : SameR t (t + 7) f f' g g' I I' R R') (h : lndL (0, f, g) R t) : lndL (0, f', g') R' t := by
  have e1 : ∀ b, t ≤ b → b < t + 7 → f' b = f b := fun b q1 q2 => (e b q1 q2).1
  have e2 : ∀ b, t ≤ b → b < t + 7 → g' b = g b := fun b q1 q2 => (e b q1 q2).2.1
  have e3 : ∀ b, t ≤ b → b < t + 7 → R' b = R b := fun b q1 q2 => (e b q1 q2).2.2.2
  unfold lndL at h ⊢
  simp only [kdP, lnP] at h ⊢
  simp (disch := omega) only [e1, e2, e3]
  exact h
theorem flkL_cg (e : SameR t (t + 8) f f' g g' I I' R R') (h : flkL (0, f, g) R t) : flkL (0, f', g') R' t := by
  have e1 : ∀ b, t ≤ b → b < t + 8 → f' b = f b := fun b q1 q2 => (e b q1 q2).1
  have e2 : ∀ b, t ≤ b → b < t + 8 → g' b = g b := fun b q1 q2 => (e b q1 q2).2.1
  have e3 : ∀ b, t ≤ b → b < t + 8 → R' b = R b := fun b q1 q2 => (e b q1 q2).2.2.2
  unfold flkL at h ⊢
  simp only [kdP, lnP] at h ⊢
  simp (disch := omega) only [e1, e2, e3]
  exact h
theorem prgL_cg (e : SameR t (t + 6) f f' g g' I I' R R') (h : prgL (0, f, g) R t) : prgL (0, f', g') R' t := by
  have e1 : ∀ b, t ≤ b → b < t + 6 → f' b = f b := fun b q1 q2 => (e b q1 q2).1
  have e2 : ∀ b, t ≤ b → b < t + 6 → g' b = g b := fun b q1 q2 => (e b q1 q2).2.1
  have e3 : ∀ b, t ≤ b → b < t + 6 → R' b = R b := fun b q1 q2 => (e b q1 q2).2.2.2
  unfold prgL at h ⊢
  simp only [kdP, lnP] at h ⊢
  simp (disch := omega) only [e1, e2, e3]
  exact h
/-- a fresh state at a -/
def bSt (f g : Nat → Nat) (I : mI) (R : mR) (a : Nat) : Prop := staL (0, f, g) R a ∧ prgL (0, f, g) R (a + 20) ∧ ∀ b, a ≤ b → b < a + 26 → I b = (fun _ => 0)
theorem stnL_cg (e1 : SameR l (l + 7) f f' g g' I I' R R') (e2 : SameR fo (fo + 8) f f' g g' I I' R R') (e3 : SameR t (t + 4) f f' g g' I I' R R') (h : stnL (0, f, g) R l fo t) : stnL (0, f', g') R' l fo t := by
  unfold stnL at h ⊢
  obtain ⟨h1, h2, h3, h4, h5, h6, h7, h8, h9, h10, h11, h12, h13, h14, h15⟩ := h
  simp only [kdP, lnP] at h1 h7 h8 h9 h10 h11 h12 ⊢
  have q1 : ∀ b, t ≤ b → b < t + 4 → f' b = f b := fun b q1 q2 => (e3 b q1 q2).1
  have q2 : ∀ b, t ≤ b → b < t + 4 → g' b = g b := fun b q1 q2 => (e3 b q1 q2).2.1
  have q3 : ∀ b, t ≤ b → b < t + 4 → R' b = R b := fun b q1 q2 => (e3 b q1 q2).2.2.2
  simp (disch := omega) only [q1, q2, q3]
  exact ⟨h1, h2, h3, h4, h5, h6, h7, h8, h9, h10, h11, h12, lndL_cg e1 h13, flkL_cg e2 h14, h15⟩
theorem SameR.sub {lo hi lo' hi' : Nat} (e : SameR lo hi f f' g g' I I' R R') (h1 : lo ≤ lo') (h2 : hi' ≤ hi) : SameR lo' hi' f f' g g' I I' R R' := fun b q1 q2 => e b (by omega) (by omega)
theorem bSt.cg (e : SameR a (a + 26) f f' g g' I I' R R') (h : bSt f g I R a) : bSt f' g' I' R' a := by
  obtain ⟨⟨h1, h2, h3, h4, h5, h6⟩, h7, h8⟩ := h
  have e0 := e a (by omega) (by omega)
  refine ⟨⟨?_, ?_, ?_, ?_, ?_, stnL_cg (e.sub (by omega) (by omega)) (e.sub (by omega) (by omega)) (e.sub (by omega) (by omega)) h6⟩, prgL_cg (e.sub (by omega) (by omega)) h7, fun b q1 q2 => by rw [(e b q1 q2).2.2.1]; exact h8 b q1 q2⟩
  · exact e0.1.trans h1
  · rw [e0.2.2.2]; exact h2
  · rw [e0.2.2.2]; exact h3
  · rw [e0.2.2.2]; exact h4
  · rw [e0.2.2.2]; exact h5
theorem ci_85 (hk : f t = 2) (hI : I t = fun _ => 0) (go : ∀ f' g' I' L' R', Kp (t + 1) t f f' g g' I I' L L' R R' → bSt f' g' I' R' t → Q none (t + 26, f', g') I' L' R') : CA (d + 2) 85 [.ref t] (t + 1, f, g) I L R Q := by
  rw [ca_85]
  simp (disch := first | assumption | exact cw0 | omega | (simp (disch := omega) only [hk, kdP, lnP, va_up_ne, va_up_self]; done) | (simp only [cw_nil, cw_int, cw_ref, cw_long]; omega) | decide) only [x_85_0, x_85_1, x_85_4, x_85_5, x_85_8, x_85_8r, x_85_12, x_85_15, x_85_16, x_85_19, x_85_19r, x_85_20, x_85_23, x_85_26, x_85_27, x_85_30, x_85_30r, x_85_31, x_85_32, x_85_35, x_85_36, x_85_39, x_85_42, x_85_45, x_85_46, x_85_49, x_85_49r, x_85_50, x_85_53, x_85_56, ↓reduceIte, va_rf_some, cw_nil, cw_int, cw_ref, cw_long, kl_int, kl_ref, kl_null, kl_long, kl_none, Option.toList_some, Option.toList_none, List.cons_append, List.nil_append, List.append_nil, nI_add, nI_clamp, nI_ltI, nI_leI, nI_eq, va_up_ne, va_up_self, kdP, lnP, Nat.reduceSub, Nat.reduceLT, Nat.reduceLeDiff, Nat.reduceEqDiff, Nat.reduceAdd, Nat.reduceMul, Nat.reduceSub, if_true, if_false, not_true, not_false_eq_true, decide_true, decide_false, Nat.lt_irrefl, Nat.le_refl, Nat.not_lt_zero, Nat.zero_le]
  rw [x_85_9 (by simp only [cw_ref, cw_int, cw_nil]; omega) (by omega) (by omega)]
  refine ci_93 (t := t + 1) (va_up_self _ _ _) ?_
  intro f1 g1 I1 L1 R1 k1 n1 r1 n2 r2 n3 r3 n4 r4 n5 r5 n6 r6
  have hk1 : f1 t = 2 := by rw [(k1.1 t (by omega)).1, va_up_ne _ _ (by omega)]; exact hk
  simp (disch := first | assumption | exact cw0 | omega | (simp (disch := omega) only [hk1, kdP, lnP, va_up_ne, va_up_self]; done) | (simp only [cw_nil, cw_int, cw_ref, cw_long]; omega) | decide) only [x_85_0, x_85_1, x_85_4, x_85_5, x_85_8, x_85_8r, x_85_9, x_85_12, x_85_15, x_85_16, x_85_19, x_85_19r, x_85_23, x_85_26, x_85_27, x_85_30, x_85_30r, x_85_31, x_85_32, x_85_35, x_85_36, x_85_39, x_85_42, x_85_45, x_85_46, x_85_49, x_85_49r, x_85_50, x_85_53, x_85_56, ↓reduceIte, va_rf_some, cw_nil, cw_int, cw_ref, cw_long, kl_int, kl_ref, kl_null, kl_long, kl_none, Option.toList_some, Option.toList_none, List.cons_append, List.nil_append, List.append_nil, nI_add, nI_clamp, nI_ltI, nI_leI, nI_eq, va_up_ne, va_up_self, kdP, lnP, Nat.reduceSub, Nat.reduceLT, Nat.reduceLeDiff, Nat.reduceEqDiff, Nat.reduceAdd, Nat.reduceMul, Nat.reduceSub, if_true, if_false, not_true, not_false_eq_true, decide_true, decide_false, Nat.lt_irrefl, Nat.le_refl, Nat.not_lt_zero, Nat.zero_le]
  rw [x_85_20 (by simp only [cw_ref, cw_int, cw_nil]; omega) (by omega) (by omega)]
  refine ci_107 (t := t + 8) (va_up_self _ _ _) ?_
  intro f2 g2 I2 L2 R2 k2 m1 s1 m2 s2 m3 s3 m4 s4 m5 s5 m6 s6 m7 s7
  have hk2 : f2 t = 2 := by rw [(k2.1 t (by omega)).1, va_up_ne _ _ (by omega)]; exact hk1
  have c2 : R2 t = va_up (R1 t) 0 (some (t + 1)) := by rw [(k2.2.1 t (by omega) (by omega)).2.2, va_up_ne _ _ (by omega), va_up_self]
  have c20 : R2 t 0 = some (t + 1) := by rw [c2, va_up_self]
  simp (disch := first | assumption | exact cw0 | omega | (simp (disch := omega) only [hk2, kdP, lnP, va_up_ne, va_up_self]; done) | (simp only [cw_nil, cw_int, cw_ref, cw_long]; omega) | decide) only [x_85_0, x_85_1, x_85_4, x_85_5, x_85_8, x_85_8r, x_85_9, x_85_12, x_85_15, x_85_16, x_85_19, x_85_19r, x_85_20, x_85_23, x_85_26, x_85_27, x_85_30, x_85_30r, x_85_31, x_85_32, x_85_35, x_85_36, x_85_42, x_85_45, x_85_46, x_85_49, x_85_49r, x_85_50, x_85_53, x_85_56, ↓reduceIte, va_rf_some, cw_nil, cw_int, cw_ref, cw_long, kl_int, kl_ref, kl_null, kl_long, kl_none, Option.toList_some, Option.toList_none, List.cons_append, List.nil_append, List.append_nil, nI_add, nI_clamp, nI_ltI, nI_leI, nI_eq, va_up_ne, va_up_self, kdP, lnP, Nat.reduceSub, Nat.reduceLT, Nat.reduceLeDiff, Nat.reduceEqDiff, Nat.reduceAdd, Nat.reduceMul, Nat.reduceSub, if_true, if_false, not_true, not_false_eq_true, decide_true, decide_false, Nat.lt_irrefl, Nat.le_refl, Nat.not_lt_zero, Nat.zero_le, c20]
  rw [x_85_39 (by simp only [cw_ref, cw_int, cw_nil]; omega) (by omega) (by omega)]
  refine ci_114 (t := t + 16) (va_up_self _ _ _) ?_
  intro f3 g3 I3 L3 R3 k3 u1 v1 u2 v2 u3 v3 w1 w2
  have hk3 : f3 t = 2 := by rw [(k3.1 t (by omega)).1, va_up_ne _ _ (by omega)]; exact hk2
  have c3 : R3 t = va_up (R2 t) 1 (some (t + 8)) := by rw [(k3.2.1 t (by omega) (by omega)).2.2, va_up_ne _ _ (by omega), va_up_self]
  simp (disch := first | assumption | exact cw0 | omega | (simp (disch := omega) only [hk3, kdP, lnP, va_up_ne, va_up_self]; done) | (simp only [cw_nil, cw_int, cw_ref, cw_long]; omega) | decide) only [x_85_0, x_85_1, x_85_4, x_85_5, x_85_8, x_85_8r, x_85_9, x_85_12, x_85_15, x_85_16, x_85_19, x_85_19r, x_85_20, x_85_23, x_85_26, x_85_27, x_85_30, x_85_30r, x_85_31, x_85_32, x_85_35, x_85_36, x_85_39, x_85_42, x_85_45, x_85_46, x_85_49, x_85_49r, x_85_53, x_85_56, ↓reduceIte, va_rf_some, cw_nil, cw_int, cw_ref, cw_long, kl_int, kl_ref, kl_null, kl_long, kl_none, Option.toList_some, Option.toList_none, List.cons_append, List.nil_append, List.append_nil, nI_add, nI_clamp, nI_ltI, nI_leI, nI_eq, va_up_ne, va_up_self, kdP, lnP, Nat.reduceSub, Nat.reduceLT, Nat.reduceLeDiff, Nat.reduceEqDiff, Nat.reduceAdd, Nat.reduceMul, Nat.reduceSub, if_true, if_false, not_true, not_false_eq_true, decide_true, decide_false, Nat.lt_irrefl, Nat.le_refl, Nat.not_lt_zero, Nat.zero_le]
  rw [x_85_50 (by simp only [cw_ref, cw_int, cw_nil]; omega) (by omega) (by omega)]
  refine ci_136 (t := t + 20) (va_up_self _ _ _) ?_
  intro f4 g4 I4 L4 R4 k4 p1 o1 p2 o2 p3 o3 p4 o4 p5 o5
  have hk4 : f4 t = 2 := by rw [(k4.1 t (by omega)).1, va_up_ne _ _ (by omega)]; exact hk3
  have c4 : R4 t = va_up (R3 t) 2 (some (t + 16)) := by rw [(k4.2.1 t (by omega) (by omega)).2.2, va_up_ne _ _ (by omega), va_up_self]
  have T3 : ∀ a, a < t + 20 → f4 a = f3 a ∧ g4 a = g3 a ∧ (a ≠ t → I4 a = I3 a ∧ L4 a = L3 a ∧ R4 a = R3 a) := by
    intro a ha
    obtain ⟨q1, q2⟩ := k4.1 a (by omega)
    refine ⟨by rw [q1, va_up_ne _ _ (by omega)], by rw [q2, va_up_ne _ _ (by omega)], fun hne => ?_⟩
    obtain ⟨q3, q4, q5⟩ := k4.2.1 a (by omega) (by omega)
    exact ⟨by rw [q3, va_up_ne _ _ (by omega)], by rw [q4, va_up_ne _ _ (by omega)], by rw [q5, va_up_ne _ _ (by omega), va_up_ne _ _ hne]⟩
  have T2 : ∀ a, a < t + 16 → f4 a = f2 a ∧ g4 a = g2 a ∧ (a ≠ t → I4 a = I2 a ∧ L4 a = L2 a ∧ R4 a = R2 a) := by
    intro a ha
    obtain ⟨t1, t2, t3⟩ := T3 a (by omega)
    obtain ⟨q1, q2⟩ := k3.1 a (by omega)
    refine ⟨by rw [t1, q1, va_up_ne _ _ (by omega)], by rw [t2, q2, va_up_ne _ _ (by omega)], fun hne => ?_⟩
    obtain ⟨q3, q4, q5⟩ := k3.2.1 a (by omega) (by omega)
    obtain ⟨t4, t5, t6⟩ := t3 hne
    exact ⟨by rw [t4, q3, va_up_ne _ _ (by omega)], by rw [t5, q4, va_up_ne _ _ (by omega)], by rw [t6, q5, va_up_ne _ _ (by omega), va_up_ne _ _ hne]⟩
  have T1 : ∀ a, a < t + 8 → f4 a = f1 a ∧ g4 a = g1 a ∧ (a ≠ t → I4 a = I1 a ∧ L4 a = L1 a ∧ R4 a = R1 a) := by
    intro a ha
    obtain ⟨t1, t2, t3⟩ := T2 a (by omega)
    obtain ⟨q1, q2⟩ := k2.1 a (by omega)
    refine ⟨by rw [t1, q1, va_up_ne _ _ (by omega)], by rw [t2, q2, va_up_ne _ _ (by omega)], fun hne => ?_⟩
    obtain ⟨q3, q4, q5⟩ := k2.2.1 a (by omega) (by omega)
    obtain ⟨t4, t5, t6⟩ := t3 hne
    exact ⟨by rw [t4, q3, va_up_ne _ _ (by omega)], by rw [t5, q4, va_up_ne _ _ (by omega)], by rw [t6, q5, va_up_ne _ _ (by omega), va_up_ne _ _ hne]⟩
  have T0 : ∀ a, a < t + 1 → f4 a = f a ∧ g4 a = g a ∧ (a ≠ t → I4 a = I a ∧ L4 a = L a ∧ R4 a = R a) := by
    intro a ha
    obtain ⟨t1, t2, t3⟩ := T1 a (by omega)
    obtain ⟨q1, q2⟩ := k1.1 a (by omega)
    refine ⟨by rw [t1, q1, va_up_ne _ _ (by omega)], by rw [t2, q2, va_up_ne _ _ (by omega)], fun hne => ?_⟩
    obtain ⟨q3, q4, q5⟩ := k1.2.1 a (by omega) (by omega)
    obtain ⟨t4, t5, t6⟩ := t3 hne
    exact ⟨by rw [t4, q3, va_up_ne _ _ (by omega)], by rw [t5, q4, va_up_ne _ _ (by omega)], by rw [t6, q5, va_up_ne _ _ (by omega)]⟩
  have It : I4 t = I t := by
    rw [(k4.2.1 t (by omega) (by omega)).1, va_up_ne _ _ (by omega), (k3.2.1 t (by omega) (by omega)).1, va_up_ne _ _ (by omega), (k2.2.1 t (by omega) (by omega)).1, va_up_ne _ _ (by omega), (k1.2.1 t (by omega) (by omega)).1, va_up_ne _ _ (by omega)]
  have Lt : L4 t = L t := by
    rw [(k4.2.1 t (by omega) (by omega)).2.1, va_up_ne _ _ (by omega), (k3.2.1 t (by omega) (by omega)).2.1, va_up_ne _ _ (by omega), (k2.2.1 t (by omega) (by omega)).2.1, va_up_ne _ _ (by omega), (k1.2.1 t (by omega) (by omega)).2.1, va_up_ne _ _ (by omega)]
  -- the four pieces where they were made
  have l1 : f1 (t + 1) = 3 := by rw [(k1.1 (t + 1) (by omega)).1, va_up_self]
  have l2 : f2 (t + 8) = 4 := by rw [(k2.1 (t + 8) (by omega)).1, va_up_self]
  have l3 : f3 (t + 16) = 5 := by rw [(k3.1 (t + 16) (by omega)).1, va_up_self]
  have l4 : f4 (t + 20) = 6 := by rw [(k4.1 (t + 20) (by omega)).1, va_up_self]
  have i1 : I1 (t + 1) = fun _ => 0 := by rw [k1.2.2.1, va_up_self]
  have i2 : I2 (t + 8) = fun _ => 0 := by rw [k2.2.2.1, va_up_self]
  have i3 : I3 (t + 16) = fun _ => 0 := by rw [k3.2.2.1, va_up_self]
  have i4 : I4 (t + 20) = fun _ => 0 := by rw [k4.2.2.1, va_up_self]
  have L1' : lndL (0, f1, g1) R1 (t + 1) := ⟨l1, ⟨r1, n1.1, n1.2.1⟩, ⟨r2, n2.1, n2.2.1⟩, ⟨r3, n3.1, n3.2.1⟩, ⟨r4, n4.1, n4.2.1⟩, ⟨r5, n5.1, n5.2.1⟩, r6, n6.1, n6.2.1⟩
  have L2' : flkL (0, f2, g2) R2 (t + 8) := ⟨l2, ⟨s1, m1.1, m1.2.1⟩, ⟨s2, m2.1, m2.2.1⟩, ⟨s3, m3.1, m3.2.1⟩, ⟨s4, m4.1, m4.2.1⟩, ⟨s5, m5.1, m5.2.1⟩, ⟨s6, m6.1, m6.2.1⟩, s7, m7.1, m7.2.1⟩
  generalize hR5 : va_up R4 t (va_up (R4 t) 3 (some (t + 20))) = R5 at *
  have R5o : ∀ a, a ≠ t → R5 a = R4 a := fun a ha => by rw [← hR5, va_up_ne _ _ ha]
  have R5t : R5 t = va_up (R4 t) 3 (some (t + 20)) := by rw [← hR5, va_up_self]
  have L4' : prgL (0, f4, g4) R5 (t + 20) := by
    have e := R5o (t + 20) (by omega)
    exact ⟨l4, ⟨by rw [e]; exact o1, p1.1, p1.2.1⟩, ⟨by rw [e]; exact o2, p2.1, p2.2.1⟩, ⟨by rw [e]; exact o3, p3.1, p3.2.1⟩, ⟨by rw [e]; exact o4, p4.1, p4.2.1⟩, by rw [e]; exact o5, p5.1, p5.2.1⟩
  have S1 : SameR (t + 1) (t + 8) f1 f4 g1 g4 I1 I4 R1 R5 := fun b q1 q2 => ⟨(T1 b q2).1, (T1 b q2).2.1, ((T1 b q2).2.2 (by omega)).1, by rw [R5o b (by omega)]; exact ((T1 b q2).2.2 (by omega)).2.2⟩
  have S2 : SameR (t + 8) (t + 16) f2 f4 g2 g4 I2 I4 R2 R5 := fun b q1 q2 => ⟨(T2 b q2).1, (T2 b q2).2.1, ((T2 b q2).2.2 (by omega)).1, by rw [R5o b (by omega)]; exact ((T2 b q2).2.2 (by omega)).2.2⟩
  have S3 : SameR (t + 16) (t + 20) f3 f4 g3 g4 I3 I4 R3 R5 := fun b q1 q2 => ⟨(T3 b q2).1, (T3 b q2).2.1, ((T3 b q2).2.2 (by omega)).1, by rw [R5o b (by omega)]; exact ((T3 b q2).2.2 (by omega)).2.2⟩
  have L3' : stnL (0, f4, g4) R5 (t + 1) (t + 8) (t + 16) := by
    have q := fun b h1 h2 => (S3 b h1 h2)
    refine ⟨(q _ (by omega) (by omega)).1.trans l3, ?_, ?_, ?_, ?_, ?_, (q _ (by omega) (by omega)).1.trans u1.1, (q _ (by omega) (by omega)).2.1.trans u1.2.1, (q _ (by omega) (by omega)).1.trans u2.1, (q _ (by omega) (by omega)).2.1.trans u2.2.1, (q _ (by omega) (by omega)).1.trans u3.1, (q _ (by omega) (by omega)).2.1.trans u3.2.1, lndL_cg S1 L1', flkL_cg S2 L2', by omega, by omega⟩
    · rw [(q _ (by omega) (by omega)).2.2.2]; exact w1
    · rw [(q _ (by omega) (by omega)).2.2.2]; exact w2
    · rw [(q _ (by omega) (by omega)).2.2.2]; exact v1
    · rw [(q _ (by omega) (by omega)).2.2.2]; exact v2
    · rw [(q _ (by omega) (by omega)).2.2.2]; exact v3
  have h9 := go f4 g4 I4 L4 R5 ⟨fun a ha => ⟨(T0 a ha).1, (T0 a ha).2.1⟩, fun a ha hne => ⟨((T0 a ha).2.2 hne).1, ((T0 a ha).2.2 hne).2.1, by rw [R5o a hne]; exact ((T0 a ha).2.2 hne).2.2⟩, It, Lt⟩ ⟨⟨hk4, ?_, ?_, ?_, ?_, L3'⟩, L4', ?_⟩
  · simp (disch := first | assumption | exact cw0 | omega | (simp (disch := omega) only [hk4, kdP, lnP, va_up_ne, va_up_self]; done) | (simp only [cw_nil, cw_int, cw_ref, cw_long]; omega) | decide) only [x_85_0, x_85_1, x_85_4, x_85_5, x_85_8, x_85_8r, x_85_9, x_85_12, x_85_15, x_85_16, x_85_19, x_85_19r, x_85_20, x_85_23, x_85_26, x_85_27, x_85_30, x_85_30r, x_85_31, x_85_32, x_85_35, x_85_36, x_85_39, x_85_42, x_85_45, x_85_46, x_85_49, x_85_49r, x_85_50, x_85_53, x_85_56, ↓reduceIte, va_rf_some, cw_nil, cw_int, cw_ref, cw_long, kl_int, kl_ref, kl_null, kl_long, kl_none, Option.toList_some, Option.toList_none, List.cons_append, List.nil_append, List.append_nil, nI_add, nI_clamp, nI_ltI, nI_leI, nI_eq, va_up_ne, va_up_self, kdP, lnP, Nat.reduceSub, Nat.reduceLT, Nat.reduceLeDiff, Nat.reduceEqDiff, Nat.reduceAdd, Nat.reduceMul, Nat.reduceSub, if_true, if_false, not_true, not_false_eq_true, decide_true, decide_false, Nat.lt_irrefl, Nat.le_refl, Nat.not_lt_zero, Nat.zero_le, hR5]
    exact h9
  · rw [R5t, va_up_ne _ _ (by omega), c4, va_up_ne _ _ (by omega), c3, va_up_ne _ _ (by omega)]; exact c20
  · rw [R5t, va_up_ne _ _ (by omega), c4, va_up_ne _ _ (by omega), c3, va_up_self]
  · rw [R5t, va_up_ne _ _ (by omega), c4, va_up_self]
  · rw [R5t, va_up_self]
  · intro b h1 h2
    by_cases b0 : b = t
    · rw [b0, It]; exact hI
    by_cases b1 : b < t + 8
    · rw [(S1 b (by omega) b1).2.2.1]
      have : b = t + 1 ∨ b = t + 2 ∨ b = t + 3 ∨ b = t + 4 ∨ b = t + 5 ∨ b = t + 6 ∨ b = t + 7 := by omega
      rcases this with q | q | q | q | q | q | q <;> subst q
      · exact i1
      · exact n1.2.2.1
      · exact n2.2.2.1
      · exact n3.2.2.1
      · exact n4.2.2.1
      · exact n5.2.2.1
      · exact n6.2.2.1
    by_cases b2 : b < t + 16
    · rw [(S2 b (by omega) b2).2.2.1]
      have : b = t + 8 ∨ b = t + 9 ∨ b = t + 10 ∨ b = t + 11 ∨ b = t + 12 ∨ b = t + 13 ∨ b = t + 14 ∨ b = t + 15 := by omega
      rcases this with q | q | q | q | q | q | q | q <;> subst q
      · exact i2
      · exact m1.2.2.1
      · exact m2.2.2.1
      · exact m3.2.2.1
      · exact m4.2.2.1
      · exact m5.2.2.1
      · exact m6.2.2.1
      · exact m7.2.2.1
    by_cases b3 : b < t + 20
    · rw [(S3 b (by omega) b3).2.2.1]
      have : b = t + 16 ∨ b = t + 17 ∨ b = t + 18 ∨ b = t + 19 := by omega
      rcases this with q | q | q | q <;> subst q
      · exact i3
      · exact u1.2.2.1
      · exact u2.2.2.1
      · exact u3.2.2.1
    · have : b = t + 20 ∨ b = t + 21 ∨ b = t + 22 ∨ b = t + 23 ∨ b = t + 24 ∨ b = t + 25 := by omega
      rcases this with q | q | q | q | q | q <;> subst q
      · exact i4
      · exact p1.2.2.1
      · exact p2.2.2.1
      · exact p3.2.2.1
      · exact p4.2.2.1
      · exact p5.2.2.1
end CN2

