/-! The constructors: the search. -/
section CN5
variable {f g : Nat → Nat} {I : mI} {L : mL} {R : mR} {Q : mQ} {d t x : Nat}
variable {p1 l fo i s bc bs : Nat}
def rStn (f g : Nat → Nat) (R : mR) (l fo s : Nat) : Prop := f s = 5 ∧ R s 0 = some l ∧ R s 1 = some fo ∧ R s 2 = some (s + 1) ∧ R s 3 = some (s + 2) ∧ R s 4 = some (s + 3) ∧ f (s + 1) = 100 ∧ g (s + 1) = 30 ∧ f (s + 2) = 100 ∧ g (s + 2) = 8 ∧ f (s + 3) = 100 ∧ g (s + 3) = 8
theorem rStn_cg {f' g' : Nat → Nat} {I' : mI} {R' : mR} (e : SameR s (s + 4) f f' g g' I I' R R') (h : rStn f g R l fo s) : rStn f' g' R' l fo s := by
  have e1 : ∀ b, s ≤ b → b < s + 4 → f' b = f b := fun b q1 q2 => (e b q1 q2).1
  have e2 : ∀ b, s ≤ b → b < s + 4 → g' b = g b := fun b q1 q2 => (e b q1 q2).2.1
  have e3 : ∀ b, s ≤ b → b < s + 4 → R' b = R b := fun b q1 q2 => (e b q1 q2).2.2.2
  unfold rStn at h ⊢
  simp (disch := omega) only [e1, e2, e3]
  exact h
theorem se_l (hi : i < 3) (hk : f t = 10) (hk1 : f p1 = 2) (hts : t + 4 < s) (hps : p1 < t) (h3 : R t 3 = some (t + 4)) (h4 : f (t + 4) = 104) (g4 : g (t + 4) = 3) (r0 : R p1 0 = some l) (r1 : R p1 1 = some fo) (hbc : 11 ≤ bc) (hbs : 407 ≤ bs) (go : ∀ f' g' I' L' R', (∀ a, a < s → f' a = f a ∧ g' a = g a ∧ I' a = I a ∧ L' a = L a) → (∀ a, a < s → a ≠ t + 4 → R' a = R a) → R' (t + 4) = va_up (R (t + 4)) i (some s) → rStn f' g' R' l fo s → WP (d + 2, bc - 1 - 10, bs - 7 - 400) 177 58 [some (.ref t), some (.ref p1), some (.int (nI (i + 1)))] [] (s + 4, f', g') I' L' R' Q) : WP (d + 2, bc, bs) 177 58 [some (.ref t), some (.ref p1), some (.int (nI i))] [] (s, f, g) I L R Q := by
  have hi' : ¬ 3 ≤ i := by omega
  rw [x_177_58]
  simp (disch := first | assumption | exact cw0 | omega | (simp (disch := omega) only [hk, hk1, kdP, lnP, va_up_ne, va_up_self]; done) | (simp only [cw_nil, cw_int, cw_ref, cw_long]; omega) | decide) only [x_177_0, x_177_1, x_177_4, x_177_5, x_177_7, x_177_9, x_177_12, x_177_13, x_177_15, x_177_17, x_177_20, x_177_21, x_177_22, x_177_24, x_177_27, x_177_28, x_177_29, x_177_32, x_177_33, x_177_34, x_177_37, x_177_40, x_177_41, x_177_42, x_177_45, x_177_48, x_177_49, x_177_50, x_177_53, x_177_56, x_177_57, x_177_59, x_177_60, x_177_63, x_177_64, x_177_67, x_177_68, x_177_71, x_177_71r, x_177_72, x_177_73, x_177_76, x_177_77, x_177_83, x_177_84, x_177_87, x_177_90, ↓reduceIte, va_rf_some, cw_nil, cw_int, cw_ref, cw_long, kl_int, kl_ref, kl_null, kl_long, kl_none, Option.toList_some, Option.toList_none, List.cons_append, List.nil_append, List.append_nil, nI_add, nI_clamp, nI_ltI, nI_leI, nI_eq, va_up_ne, va_up_self, kdP, lnP, Nat.reduceSub, Nat.reduceLT, Nat.reduceLeDiff, Nat.reduceEqDiff, Nat.reduceAdd, Nat.reduceMul, Nat.reduceSub, if_true, if_false, not_true, not_false_eq_true, decide_true, decide_false, Nat.lt_irrefl, Nat.le_refl, Nat.not_lt_zero, Nat.zero_le, h3, r0, r1, eq_false hi']
  rw [x_177_80 (by simp only [cw_ref, cw_int, cw_nil]; omega) (by omega) (by omega)]
  refine ci_114 (t := s) (va_up_self _ _ _) ?_
  intro f1 g1 I1 L1 R1 k1 u1 v1 u2 v2 u3 v3 w1 w2
  have e1 : ∀ a, a < s → f1 a = f a ∧ g1 a = g a ∧ I1 a = I a ∧ L1 a = L a ∧ R1 a = R a := by
    intro a ha
    obtain ⟨q1, q2⟩ := k1.1 a (by omega)
    obtain ⟨q3, q4, q5⟩ := k1.2.1 a (by omega) (by omega)
    exact ⟨by rw [q1, va_up_ne _ _ (by omega)], by rw [q2, va_up_ne _ _ (by omega)], by rw [q3, va_up_ne _ _ (by omega)], by rw [q4, va_up_ne _ _ (by omega)], by rw [q5, va_up_ne _ _ (by omega)]⟩
  have hs5 : f1 s = 5 := by rw [(k1.1 s (by omega)).1, va_up_self]
  have ka : (kd (s + 4, f1, g1) (t + 4) = 103 ∧ kd (s + 4, f1, g1) s = 2) ∨ (kd (s + 4, f1, g1) (t + 4) = 104 ∧ kd (s + 4, f1, g1) s = 5) := Or.inr ⟨(e1 _ (by omega)).1.trans h4, hs5⟩
  have va : vp_in (nI i) (ln (s + 4, f1, g1) (t + 4)) := by rw [lnP, (e1 _ (by omega)).2.1, g4]; exact of_eq_true (vin hi (by omega))
  have h9 := go f1 g1 I1 L1 (va_up R1 (t + 4) (va_up (R1 (t + 4)) i (some s))) (fun a ha => ⟨(e1 a ha).1, (e1 a ha).2.1, (e1 a ha).2.2.1, (e1 a ha).2.2.2.1⟩) (fun a ha hne => by rw [va_up_ne _ _ hne]; exact (e1 a ha).2.2.2.2) (by rw [va_up_self, (e1 _ hts).2.2.2.2]) ?_
  · simp (disch := first | assumption | exact cw0 | omega | (simp (disch := omega) only [hk, kdP, lnP, va_up_ne, va_up_self]; done) | (simp only [cw_nil, cw_int, cw_ref, cw_long]; omega) | decide) only [x_177_0, x_177_1, x_177_4, x_177_5, x_177_7, x_177_9, x_177_12, x_177_13, x_177_15, x_177_17, x_177_20, x_177_21, x_177_22, x_177_24, x_177_27, x_177_28, x_177_29, x_177_32, x_177_33, x_177_34, x_177_37, x_177_40, x_177_41, x_177_42, x_177_45, x_177_48, x_177_49, x_177_50, x_177_53, x_177_56, x_177_57, x_177_59, x_177_60, x_177_63, x_177_64, x_177_67, x_177_68, x_177_71, x_177_71r, x_177_72, x_177_73, x_177_76, x_177_77, x_177_83, x_177_84, x_177_87, x_177_90, ↓reduceIte, va_rf_some, cw_nil, cw_int, cw_ref, cw_long, kl_int, kl_ref, kl_null, kl_long, kl_none, Option.toList_some, Option.toList_none, List.cons_append, List.nil_append, List.append_nil, nI_add, nI_clamp, nI_ltI, nI_leI, nI_eq, va_up_ne, va_up_self, kdP, lnP, Nat.reduceSub, Nat.reduceLT, Nat.reduceLeDiff, Nat.reduceEqDiff, Nat.reduceAdd, Nat.reduceMul, Nat.reduceSub, if_true, if_false, not_true, not_false_eq_true, decide_true, decide_false, Nat.lt_irrefl, Nat.le_refl, Nat.not_lt_zero, Nat.zero_le]
    exact h9
  · have hs : va_up R1 (t + 4) (va_up (R1 (t + 4)) i (some s)) s = R1 s := va_up_ne _ _ (by omega)
    refine ⟨hs5, ?_, ?_, ?_, ?_, ?_, u1.1, u1.2.1, u2.1, u2.2.1, u3.1, u3.2.1⟩
    · rw [hs]; exact w1
    · rw [hs]; exact w2
    · rw [hs]; exact v1
    · rw [hs]; exact v2
    · rw [hs]; exact v3
theorem ci_177 (hk : f t = 10) (hp : p1 < t) (hk1 : f p1 = 2) (r0 : R p1 0 = some l) (r1 : R p1 1 = some fo) (go : ∀ f' g' I' L' R', Kp (t + 1) t f f' g g' I I' L L' R R' → (f' (t + 1) = 100 ∧ g' (t + 1) = 30) → (f' (t + 2) = 100 ∧ g' (t + 2) = 30) → (f' (t + 3) = 101 ∧ g' (t + 3) = 5) → (f' (t + 4) = 104 ∧ g' (t + 4) = 3) → R' t 0 = some p1 → R' t 1 = some l → R' t 2 = some fo → R' t 3 = some (t + 4) → R' t 4 = some (t + 1) → R' t 5 = some (t + 2) → R' t 6 = some (t + 3) → (∀ k, k < 3 → R' (t + 4) k = some (t + 5 + 4 * k) ∧ rStn f' g' R' l fo (t + 5 + 4 * k)) → Q none (t + 17, f', g') I' L' R') : CA (d + 2) 177 [.ref t, .ref p1] (t + 1, f, g) I L R Q := by
  rw [ca_177]
  simp (disch := first | assumption | exact cw0 | omega | (simp (disch := omega) only [hk, hk1, kdP, lnP, va_up_ne, va_up_self]; done) | (simp only [cw_nil, cw_int, cw_ref, cw_long]; omega) | decide) only [x_177_0, x_177_1, x_177_4, x_177_5, x_177_7, x_177_9, x_177_12, x_177_13, x_177_15, x_177_17, x_177_20, x_177_21, x_177_22, x_177_24, x_177_27, x_177_28, x_177_29, x_177_32, x_177_33, x_177_34, x_177_37, x_177_40, x_177_41, x_177_42, x_177_45, x_177_48, x_177_49, x_177_50, x_177_53, x_177_56, x_177_57, x_177_59, x_177_60, x_177_63, x_177_64, x_177_67, x_177_68, x_177_71, x_177_71r, x_177_72, x_177_73, x_177_76, x_177_77, x_177_80, x_177_83, x_177_84, x_177_87, x_177_90, ↓reduceIte, va_rf_some, cw_nil, cw_int, cw_ref, cw_long, kl_int, kl_ref, kl_null, kl_long, kl_none, Option.toList_some, Option.toList_none, List.cons_append, List.nil_append, List.append_nil, nI_add, nI_clamp, nI_ltI, nI_leI, nI_eq, va_up_ne, va_up_self, kdP, lnP, Nat.reduceSub, Nat.reduceLT, Nat.reduceLeDiff, Nat.reduceEqDiff, Nat.reduceAdd, Nat.reduceMul, Nat.reduceSub, if_true, if_false, not_true, not_false_eq_true, decide_true, decide_false, Nat.lt_irrefl, Nat.le_refl, Nat.not_lt_zero, Nat.zero_le, r0, r1]
  have key : ∀ f0 g0 I0 L0 R0, (∀ a, a < t + 1 → f0 a = f a ∧ g0 a = g a) → (∀ a, a < t + 1 → a ≠ t → I0 a = I a ∧ L0 a = L a ∧ R0 a = R a) → I0 t = I t → L0 t = L t → (f0 (t + 1) = 100 ∧ g0 (t + 1) = 30) → (f0 (t + 2) = 100 ∧ g0 (t + 2) = 30) → (f0 (t + 3) = 101 ∧ g0 (t + 3) = 5) → (f0 (t + 4) = 104 ∧ g0 (t + 4) = 3) → R0 t 0 = some p1 → R0 t 1 = some l → R0 t 2 = some fo → R0 t 3 = some (t + 4) → R0 t 4 = some (t + 1) → R0 t 5 = some (t + 2) → R0 t 6 = some (t + 3) → WP (d + 2, 56, 1932) 177 58 [some (.ref t), some (.ref p1), some (.int (nI 0))] [] (t + 5, f0, g0) I0 L0 R0 Q := by
    intro f0 g0 I0 L0 R0 a1 a2 a3 a4 a5 a6 a7 a8 b0 b1 b2 b3 b4 b5 b6
    have hk0 : f0 t = 10 := (a1 t (by omega)).1.trans hk
    have hp0 : f0 p1 = 2 := (a1 p1 (by omega)).1.trans hk1
    have q0 : R0 p1 0 = some l := by rw [(a2 p1 (by omega) (by omega)).2.2]; exact r0
    have q1 : R0 p1 1 = some fo := by rw [(a2 p1 (by omega) (by omega)).2.2]; exact r1
    refine se_l (i := 0) (s := t + 5) (l := l) (fo := fo) (by omega) hk0 hp0 (by omega) hp b3 a8.1 a8.2 q0 q1 (by omega) (by omega) ?_
    intro f1 g1 I1 L1 R1 c1 c2 c3 c4
    refine se_l (i := 1) (s := t + 9) (l := l) (fo := fo) (by omega) ((c1 t (by omega)).1.trans hk0) ((c1 p1 (by omega)).1.trans hp0) (by omega) hp (by rw [c2 t (by omega) (by omega)]; exact b3) ((c1 _ (by omega)).1.trans a8.1) ((c1 _ (by omega)).2.1.trans a8.2) (by rw [c2 p1 (by omega) (by omega)]; exact q0) (by rw [c2 p1 (by omega) (by omega)]; exact q1) (by omega) (by omega) ?_
    intro f2 g2 I2 L2 R2 d1 d2 d3 d4
    refine se_l (i := 2) (s := t + 13) (l := l) (fo := fo) (by omega) ((d1 t (by omega)).1.trans ((c1 t (by omega)).1.trans hk0)) ((d1 p1 (by omega)).1.trans ((c1 p1 (by omega)).1.trans hp0)) (by omega) hp (by rw [d2 t (by omega) (by omega), c2 t (by omega) (by omega)]; exact b3) ((d1 _ (by omega)).1.trans ((c1 _ (by omega)).1.trans a8.1)) ((d1 _ (by omega)).2.1.trans ((c1 _ (by omega)).2.1.trans a8.2)) (by rw [d2 p1 (by omega) (by omega), c2 p1 (by omega) (by omega)]; exact q0) (by rw [d2 p1 (by omega) (by omega), c2 p1 (by omega) (by omega)]; exact q1) (by omega) (by omega) ?_
    intro f3 g3 I3 L3 R3 e1 e2 e3 e4
    have F : ∀ a, a < t + 5 → f3 a = f0 a ∧ g3 a = g0 a ∧ I3 a = I0 a ∧ L3 a = L0 a := fun a ha => ⟨(e1 a (by omega)).1.trans ((d1 a (by omega)).1.trans (c1 a (by omega)).1), (e1 a (by omega)).2.1.trans ((d1 a (by omega)).2.1.trans (c1 a (by omega)).2.1), (e1 a (by omega)).2.2.1.trans ((d1 a (by omega)).2.2.1.trans (c1 a (by omega)).2.2.1), (e1 a (by omega)).2.2.2.trans ((d1 a (by omega)).2.2.2.trans (c1 a (by omega)).2.2.2)⟩
    have G : ∀ a, a < t + 5 → a ≠ t + 4 → R3 a = R0 a := fun a ha hne => (e2 a (by omega) hne).trans ((d2 a (by omega) hne).trans (c2 a (by omega) hne))
    have Gt : R3 t = R0 t := G t (by omega) (by omega)
    have h9 := go f3 g3 I3 L3 R3 ⟨fun a ha => ⟨(F a (by omega)).1.trans (a1 a ha).1, (F a (by omega)).2.1.trans (a1 a ha).2⟩, fun a ha hne => ⟨(F a (by omega)).2.2.1.trans (a2 a ha hne).1, (F a (by omega)).2.2.2.trans (a2 a ha hne).2.1, (G a (by omega) (by omega)).trans (a2 a ha hne).2.2⟩, (F t (by omega)).2.2.1.trans a3, (F t (by omega)).2.2.2.trans a4⟩ ⟨(F _ (by omega)).1.trans a5.1, (F _ (by omega)).2.1.trans a5.2⟩ ⟨(F _ (by omega)).1.trans a6.1, (F _ (by omega)).2.1.trans a6.2⟩ ⟨(F _ (by omega)).1.trans a7.1, (F _ (by omega)).2.1.trans a7.2⟩ ⟨(F _ (by omega)).1.trans a8.1, (F _ (by omega)).2.1.trans a8.2⟩ (by rw [Gt]; exact b0) (by rw [Gt]; exact b1) (by rw [Gt]; exact b2) (by rw [Gt]; exact b3) (by rw [Gt]; exact b4) (by rw [Gt]; exact b5) (by rw [Gt]; exact b6) ?_
    · simp (disch := first | assumption | exact cw0 | omega | (simp (disch := omega) only [hk, kdP, lnP, va_up_ne, va_up_self]; done) | (simp only [cw_nil, cw_int, cw_ref, cw_long]; omega) | decide) only [x_177_0, x_177_1, x_177_4, x_177_5, x_177_7, x_177_9, x_177_12, x_177_13, x_177_15, x_177_17, x_177_20, x_177_21, x_177_22, x_177_24, x_177_27, x_177_28, x_177_29, x_177_32, x_177_33, x_177_34, x_177_37, x_177_40, x_177_41, x_177_42, x_177_45, x_177_48, x_177_49, x_177_50, x_177_53, x_177_56, x_177_57, x_177_59, x_177_60, x_177_63, x_177_64, x_177_67, x_177_68, x_177_71, x_177_71r, x_177_72, x_177_73, x_177_76, x_177_77, x_177_80, x_177_83, x_177_84, x_177_87, x_177_90, ↓reduceIte, va_rf_some, cw_nil, cw_int, cw_ref, cw_long, kl_int, kl_ref, kl_null, kl_long, kl_none, Option.toList_some, Option.toList_none, List.cons_append, List.nil_append, List.append_nil, nI_add, nI_clamp, nI_ltI, nI_leI, nI_eq, va_up_ne, va_up_self, kdP, lnP, Nat.reduceSub, Nat.reduceLT, Nat.reduceLeDiff, Nat.reduceEqDiff, Nat.reduceAdd, Nat.reduceMul, Nat.reduceSub, if_true, if_false, not_true, not_false_eq_true, decide_true, decide_false, Nat.lt_irrefl, Nat.le_refl, Nat.not_lt_zero, Nat.zero_le]
      rw [x_177_58]
      simp (disch := first | assumption | exact cw0 | omega | (simp (disch := omega) only [hk, kdP, lnP, va_up_ne, va_up_self]; done) | (simp only [cw_nil, cw_int, cw_ref, cw_long]; omega) | decide) only [x_177_0, x_177_1, x_177_4, x_177_5, x_177_7, x_177_9, x_177_12, x_177_13, x_177_15, x_177_17, x_177_20, x_177_21, x_177_22, x_177_24, x_177_27, x_177_28, x_177_29, x_177_32, x_177_33, x_177_34, x_177_37, x_177_40, x_177_41, x_177_42, x_177_45, x_177_48, x_177_49, x_177_50, x_177_53, x_177_56, x_177_57, x_177_59, x_177_60, x_177_63, x_177_64, x_177_67, x_177_68, x_177_71, x_177_71r, x_177_72, x_177_73, x_177_76, x_177_77, x_177_80, x_177_83, x_177_84, x_177_87, x_177_90, ↓reduceIte, va_rf_some, cw_nil, cw_int, cw_ref, cw_long, kl_int, kl_ref, kl_null, kl_long, kl_none, Option.toList_some, Option.toList_none, List.cons_append, List.nil_append, List.append_nil, nI_add, nI_clamp, nI_ltI, nI_leI, nI_eq, va_up_ne, va_up_self, kdP, lnP, Nat.reduceSub, Nat.reduceLT, Nat.reduceLeDiff, Nat.reduceEqDiff, Nat.reduceAdd, Nat.reduceMul, Nat.reduceSub, if_true, if_false, not_true, not_false_eq_true, decide_true, decide_false, Nat.lt_irrefl, Nat.le_refl, Nat.not_lt_zero, Nat.zero_le]
      exact h9
    · intro k hk
      have : k = 0 ∨ k = 1 ∨ k = 2 := by omega
      rcases this with q | q | q <;> subst q
      · refine ⟨by rw [e3, va_up_ne _ _ (by omega), d3, va_up_ne _ _ (by omega), c3, va_up_self], ?_⟩
        refine rStn_cg (I := I1) (I' := I3) (f := f1) (g := g1) (R := R1) (fun b h1 h2 => ?_) c4
        exact ⟨(e1 b (by omega)).1.trans (d1 b (by omega)).1, (e1 b (by omega)).2.1.trans (d1 b (by omega)).2.1, (e1 b (by omega)).2.2.1.trans (d1 b (by omega)).2.2.1, (e2 b (by omega) (by omega)).trans (d2 b (by omega) (by omega))⟩
      · refine ⟨by rw [e3, va_up_ne _ _ (by omega), d3, va_up_self], ?_⟩
        refine rStn_cg (I := I2) (I' := I3) (f := f2) (g := g2) (R := R2) (fun b h1 h2 => ?_) d4
        exact ⟨(e1 b (by omega)).1, (e1 b (by omega)).2.1, (e1 b (by omega)).2.2.1, e2 b (by omega) (by omega)⟩
      · exact ⟨by rw [e3, va_up_self], e4⟩
  refine key _ _ _ _ _ ?_ ?_ ?_ ?_ ?_ ?_ ?_ ?_ ?_ ?_ ?_ ?_ ?_ ?_ ?_
  · exact fun a ha => ⟨(by simp (disch := omega) only [va_up_ne]), (by simp (disch := omega) only [va_up_ne])⟩
  · exact fun a ha hne => ⟨(by simp (disch := omega) only [va_up_ne]), (by simp (disch := omega) only [va_up_ne]), (by simp (disch := omega) only [va_up_ne])⟩
  · exact (by simp (disch := omega) only [va_up_ne])
  · exact (by simp (disch := omega) only [va_up_ne])
  · exact ⟨(by simp (disch := omega) only [va_up_ne, va_up_self]), (by simp (disch := omega) only [va_up_ne, va_up_self])⟩
  · exact ⟨(by simp (disch := omega) only [va_up_ne, va_up_self]), (by simp (disch := omega) only [va_up_ne, va_up_self])⟩
  · exact ⟨(by simp (disch := omega) only [va_up_ne, va_up_self]), (by simp (disch := omega) only [va_up_ne, va_up_self])⟩
  · exact ⟨(by simp (disch := omega) only [va_up_ne, va_up_self]), (by simp (disch := omega) only [va_up_ne, va_up_self])⟩
  all_goals (simp (disch := omega) only [va_up_ne, va_up_self])
end CN5

