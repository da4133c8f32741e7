/-! The constructors: what each of the small ones makes. -/
section CN1
variable {f g : Nat → Nat} {I : mI} {L : mL} {R : mR} {Q : mQ} {d t x : Nat}
theorem kdP {n : Nat} {a : Nat} : kd (n, f, g) a = f a := rfl
theorem lnP {n : Nat} {a : Nat} : ln (n, f, g) a = g a := rfl
def Kp (n t : Nat) (f f' g g' : Nat → Nat) (I I' : mI) (L L' : mL) (R R' : mR) : Prop := (∀ a, a < n → f' a = f a ∧ g' a = g a) ∧ (∀ a, a < n → a ≠ t → I' a = I a ∧ L' a = L a ∧ R' a = R a) ∧ I' t = I t ∧ L' t = L t
def Nw (f g : Nat → Nat) (I : mI) (L : mL) (a c l : Nat) : Prop := f a = c ∧ g a = l ∧ I a = (fun _ => 0) ∧ L a = (fun _ => 0)

theorem ci_93 (hk : f t = 3) (go : ∀ f' g' I' L' R', Kp (t + 1) t f f' g g' I I' L L' R R' → Nw f' g' I' L' (t + 1) 100 30 → R' t 5 = some (t + 1) → Nw f' g' I' L' (t + 2) 100 30 → R' t 6 = some (t + 2) → Nw f' g' I' L' (t + 3) 100 30 → R' t 7 = some (t + 3) → Nw f' g' I' L' (t + 4) 100 30 → R' t 8 = some (t + 4) → Nw f' g' I' L' (t + 5) 100 30 → R' t 9 = some (t + 5) → Nw f' g' I' L' (t + 6) 100 30 → R' t 10 = some (t + 6) → Q none (t + 7, f', g') I' L' R') : CA (d + 1) 93 [.ref t] (t + 1, f, g) I L R Q := by
  rw [ca_93]
  simp (disch := first | assumption | exact cw0 | omega | (simp (disch := omega) only [hk, kdP, lnP, va_up_ne, va_up_self]; done) | (simp only [cw_nil, cw_int, cw_ref, cw_long]; omega) | decide) only [x_93_0, x_93_1, x_93_4, x_93_5, x_93_7, x_93_9, x_93_12, x_93_13, x_93_15, x_93_17, x_93_20, x_93_21, x_93_23, x_93_25, x_93_28, x_93_29, x_93_31, x_93_33, x_93_36, x_93_37, x_93_39, x_93_41, x_93_44, x_93_45, x_93_47, x_93_49, x_93_52, ↓reduceIte, va_rf_some, cw_nil, cw_int, cw_ref, cw_long, kl_int, kl_ref, kl_null, kl_long, kl_none, Option.toList_some, Option.toList_none, List.cons_append, List.nil_append, List.append_nil, nI_add, nI_clamp, nI_ltI, nI_leI, nI_eq, va_up_ne, va_up_self, kdP, lnP, Nat.reduceSub, Nat.reduceLT, Nat.reduceLeDiff, Nat.reduceEqDiff, Nat.reduceAdd, Nat.reduceMul, Nat.reduceSub, if_true, if_false, not_true, not_false_eq_true, decide_true, decide_false, Nat.lt_irrefl, Nat.le_refl, Nat.not_lt_zero, Nat.zero_le]
  refine go _ _ _ _ _ ?_ ?_ ?_ ?_ ?_ ?_ ?_ ?_ ?_ ?_ ?_ ?_ ?_
  · exact ⟨fun a ha => ⟨(by simp (disch := omega) only [va_up_ne]), (by simp (disch := omega) only [va_up_ne])⟩, fun a ha hne => ⟨(by simp (disch := omega) only [va_up_ne]), (by simp (disch := omega) only [va_up_ne]), (by simp (disch := omega) only [va_up_ne])⟩, (by simp (disch := omega) only [va_up_ne]), (by simp (disch := omega) only [va_up_ne])⟩
  · exact ⟨(by simp (disch := omega) only [va_up_ne, va_up_self]), (by simp (disch := omega) only [va_up_ne, va_up_self]), (by simp (disch := omega) only [va_up_ne, va_up_self]), (by simp (disch := omega) only [va_up_ne, va_up_self])⟩
  · simp (disch := omega) only [va_up_ne, va_up_self]
  · exact ⟨(by simp (disch := omega) only [va_up_ne, va_up_self]), (by simp (disch := omega) only [va_up_ne, va_up_self]), (by simp (disch := omega) only [va_up_ne, va_up_self]), (by simp (disch := omega) only [va_up_ne, va_up_self])⟩
  · simp (disch := omega) only [va_up_ne, va_up_self]
  · exact ⟨(by simp (disch := omega) only [va_up_ne, va_up_self]), (by simp (disch := omega) only [va_up_ne, va_up_self]), (by simp (disch := omega) only [va_up_ne, va_up_self]), (by simp (disch := omega) only [va_up_ne, va_up_self])⟩
  · simp (disch := omega) only [va_up_ne, va_up_self]
  · exact ⟨(by simp (disch := omega) only [va_up_ne, va_up_self]), (by simp (disch := omega) only [va_up_ne, va_up_self]), (by simp (disch := omega) only [va_up_ne, va_up_self]), (by simp (disch := omega) only [va_up_ne, va_up_self])⟩
  · simp (disch := omega) only [va_up_ne, va_up_self]
  · exact ⟨(by simp (disch := omega) only [va_up_ne, va_up_self]), (by simp (disch := omega) only [va_up_ne, va_up_self]), (by simp (disch := omega) only [va_up_ne, va_up_self]), (by simp (disch := omega) only [va_up_ne, va_up_self])⟩
  · simp (disch := omega) only [va_up_ne, va_up_self]
  · exact ⟨(by simp (disch := omega) only [va_up_ne, va_up_self]), (by simp (disch := omega) only [va_up_ne, va_up_self]), (by simp (disch := omega) only [va_up_ne, va_up_self]), (by simp (disch := omega) only [va_up_ne, va_up_self])⟩
  · simp (disch := omega) only [va_up_ne, va_up_self]
theorem ci_107 (hk : f t = 4) (go : ∀ f' g' I' L' R', Kp (t + 1) t f f' g g' I I' L L' R R' → Nw f' g' I' L' (t + 1) 101 4 → R' t 1 = some (t + 1) → Nw f' g' I' L' (t + 2) 100 4 → R' t 2 = some (t + 2) → Nw f' g' I' L' (t + 3) 100 4 → R' t 3 = some (t + 3) → Nw f' g' I' L' (t + 4) 100 4 → R' t 4 = some (t + 4) → Nw f' g' I' L' (t + 5) 100 4 → R' t 5 = some (t + 5) → Nw f' g' I' L' (t + 6) 100 4 → R' t 6 = some (t + 6) → Nw f' g' I' L' (t + 7) 100 4 → R' t 7 = some (t + 7) → Q none (t + 8, f', g') I' L' R') : CA (d + 1) 107 [.ref t] (t + 1, f, g) I L R Q := by
  rw [ca_107]
  simp (disch := first | assumption | exact cw0 | omega | (simp (disch := omega) only [hk, kdP, lnP, va_up_ne, va_up_self]; done) | (simp only [cw_nil, cw_int, cw_ref, cw_long]; omega) | decide) only [x_107_0, x_107_1, x_107_4, x_107_5, x_107_6, x_107_8, x_107_11, x_107_12, x_107_13, x_107_15, x_107_18, x_107_19, x_107_20, x_107_22, x_107_25, x_107_26, x_107_27, x_107_29, x_107_32, x_107_33, x_107_34, x_107_36, x_107_39, x_107_40, x_107_41, x_107_43, x_107_46, x_107_47, x_107_48, x_107_50, x_107_53, ↓reduceIte, va_rf_some, cw_nil, cw_int, cw_ref, cw_long, kl_int, kl_ref, kl_null, kl_long, kl_none, Option.toList_some, Option.toList_none, List.cons_append, List.nil_append, List.append_nil, nI_add, nI_clamp, nI_ltI, nI_leI, nI_eq, va_up_ne, va_up_self, kdP, lnP, Nat.reduceSub, Nat.reduceLT, Nat.reduceLeDiff, Nat.reduceEqDiff, Nat.reduceAdd, Nat.reduceMul, Nat.reduceSub, if_true, if_false, not_true, not_false_eq_true, decide_true, decide_false, Nat.lt_irrefl, Nat.le_refl, Nat.not_lt_zero, Nat.zero_le]
  refine go _ _ _ _ _ ?_ ?_ ?_ ?_ ?_ ?_ ?_ ?_ ?_ ?_ ?_ ?_ ?_ ?_ ?_
  · exact ⟨fun a ha => ⟨(by simp (disch := omega) only [va_up_ne]), (by simp (disch := omega) only [va_up_ne])⟩, fun a ha hne => ⟨(by simp (disch := omega) only [va_up_ne]), (by simp (disch := omega) only [va_up_ne]), (by simp (disch := omega) only [va_up_ne])⟩, (by simp (disch := omega) only [va_up_ne]), (by simp (disch := omega) only [va_up_ne])⟩
  · exact ⟨(by simp (disch := omega) only [va_up_ne, va_up_self]), (by simp (disch := omega) only [va_up_ne, va_up_self]), (by simp (disch := omega) only [va_up_ne, va_up_self]), (by simp (disch := omega) only [va_up_ne, va_up_self])⟩
  · simp (disch := omega) only [va_up_ne, va_up_self]
  · exact ⟨(by simp (disch := omega) only [va_up_ne, va_up_self]), (by simp (disch := omega) only [va_up_ne, va_up_self]), (by simp (disch := omega) only [va_up_ne, va_up_self]), (by simp (disch := omega) only [va_up_ne, va_up_self])⟩
  · simp (disch := omega) only [va_up_ne, va_up_self]
  · exact ⟨(by simp (disch := omega) only [va_up_ne, va_up_self]), (by simp (disch := omega) only [va_up_ne, va_up_self]), (by simp (disch := omega) only [va_up_ne, va_up_self]), (by simp (disch := omega) only [va_up_ne, va_up_self])⟩
  · simp (disch := omega) only [va_up_ne, va_up_self]
  · exact ⟨(by simp (disch := omega) only [va_up_ne, va_up_self]), (by simp (disch := omega) only [va_up_ne, va_up_self]), (by simp (disch := omega) only [va_up_ne, va_up_self]), (by simp (disch := omega) only [va_up_ne, va_up_self])⟩
  · simp (disch := omega) only [va_up_ne, va_up_self]
  · exact ⟨(by simp (disch := omega) only [va_up_ne, va_up_self]), (by simp (disch := omega) only [va_up_ne, va_up_self]), (by simp (disch := omega) only [va_up_ne, va_up_self]), (by simp (disch := omega) only [va_up_ne, va_up_self])⟩
  · simp (disch := omega) only [va_up_ne, va_up_self]
  · exact ⟨(by simp (disch := omega) only [va_up_ne, va_up_self]), (by simp (disch := omega) only [va_up_ne, va_up_self]), (by simp (disch := omega) only [va_up_ne, va_up_self]), (by simp (disch := omega) only [va_up_ne, va_up_self])⟩
  · simp (disch := omega) only [va_up_ne, va_up_self]
  · exact ⟨(by simp (disch := omega) only [va_up_ne, va_up_self]), (by simp (disch := omega) only [va_up_ne, va_up_self]), (by simp (disch := omega) only [va_up_ne, va_up_self]), (by simp (disch := omega) only [va_up_ne, va_up_self])⟩
  · simp (disch := omega) only [va_up_ne, va_up_self]
theorem ci_114 {p1 p2 : Nat} (hk : f t = 5) (go : ∀ f' g' I' L' R', Kp (t + 1) t f f' g g' I I' L L' R R' → Nw f' g' I' L' (t + 1) 100 30 → R' t 2 = some (t + 1) → Nw f' g' I' L' (t + 2) 100 8 → R' t 3 = some (t + 2) → Nw f' g' I' L' (t + 3) 100 8 → R' t 4 = some (t + 3) → R' t 0 = some p1 → R' t 1 = some p2 → Q none (t + 4, f', g') I' L' R') : CA (d + 1) 114 [.ref t, .ref p1, .ref p2] (t + 1, f, g) I L R Q := by
  rw [ca_114]
  simp (disch := first | assumption | exact cw0 | omega | (simp (disch := omega) only [hk, kdP, lnP, va_up_ne, va_up_self]; done) | (simp only [cw_nil, cw_int, cw_ref, cw_long]; omega) | decide) only [x_114_0, x_114_1, x_114_4, x_114_5, x_114_7, x_114_9, x_114_12, x_114_13, x_114_15, x_114_17, x_114_20, x_114_21, x_114_23, x_114_25, x_114_28, x_114_29, x_114_30, x_114_33, x_114_34, x_114_35, x_114_38, ↓reduceIte, va_rf_some, cw_nil, cw_int, cw_ref, cw_long, kl_int, kl_ref, kl_null, kl_long, kl_none, Option.toList_some, Option.toList_none, List.cons_append, List.nil_append, List.append_nil, nI_add, nI_clamp, nI_ltI, nI_leI, nI_eq, va_up_ne, va_up_self, kdP, lnP, Nat.reduceSub, Nat.reduceLT, Nat.reduceLeDiff, Nat.reduceEqDiff, Nat.reduceAdd, Nat.reduceMul, Nat.reduceSub, if_true, if_false, not_true, not_false_eq_true, decide_true, decide_false, Nat.lt_irrefl, Nat.le_refl, Nat.not_lt_zero, Nat.zero_le]
  refine go _ _ _ _ _ ?_ ?_ ?_ ?_ ?_ ?_ ?_ ?_ ?_
  · exact ⟨fun a ha => ⟨(by simp (disch := omega) only [va_up_ne]), (by simp (disch := omega) only [va_up_ne])⟩, fun a ha hne => ⟨(by simp (disch := omega) only [va_up_ne]), (by simp (disch := omega) only [va_up_ne]), (by simp (disch := omega) only [va_up_ne])⟩, (by simp (disch := omega) only [va_up_ne]), (by simp (disch := omega) only [va_up_ne])⟩
  · exact ⟨(by simp (disch := omega) only [va_up_ne, va_up_self]), (by simp (disch := omega) only [va_up_ne, va_up_self]), (by simp (disch := omega) only [va_up_ne, va_up_self]), (by simp (disch := omega) only [va_up_ne, va_up_self])⟩
  · simp (disch := omega) only [va_up_ne, va_up_self]
  · exact ⟨(by simp (disch := omega) only [va_up_ne, va_up_self]), (by simp (disch := omega) only [va_up_ne, va_up_self]), (by simp (disch := omega) only [va_up_ne, va_up_self]), (by simp (disch := omega) only [va_up_ne, va_up_self])⟩
  · simp (disch := omega) only [va_up_ne, va_up_self]
  · exact ⟨(by simp (disch := omega) only [va_up_ne, va_up_self]), (by simp (disch := omega) only [va_up_ne, va_up_self]), (by simp (disch := omega) only [va_up_ne, va_up_self]), (by simp (disch := omega) only [va_up_ne, va_up_self])⟩
  · simp (disch := omega) only [va_up_ne, va_up_self]
  · simp (disch := omega) only [va_up_ne, va_up_self]
  · simp (disch := omega) only [va_up_ne, va_up_self]
theorem ci_136 (hk : f t = 6) (go : ∀ f' g' I' L' R', Kp (t + 1) t f f' g g' I I' L L' R R' → Nw f' g' I' L' (t + 1) 100 60 → R' t 3 = some (t + 1) → Nw f' g' I' L' (t + 2) 100 60 → R' t 4 = some (t + 2) → Nw f' g' I' L' (t + 3) 100 60 → R' t 5 = some (t + 3) → Nw f' g' I' L' (t + 4) 100 60 → R' t 6 = some (t + 4) → Nw f' g' I' L' (t + 5) 100 60 → R' t 7 = some (t + 5) → Q none (t + 6, f', g') I' L' R') : CA (d + 1) 136 [.ref t] (t + 1, f, g) I L R Q := by
  rw [ca_136]
  simp (disch := first | assumption | exact cw0 | omega | (simp (disch := omega) only [hk, kdP, lnP, va_up_ne, va_up_self]; done) | (simp only [cw_nil, cw_int, cw_ref, cw_long]; omega) | decide) only [x_136_0, x_136_1, x_136_4, x_136_5, x_136_7, x_136_9, x_136_12, x_136_13, x_136_15, x_136_17, x_136_20, x_136_21, x_136_23, x_136_25, x_136_28, x_136_29, x_136_31, x_136_33, x_136_36, x_136_37, x_136_39, x_136_41, x_136_44, ↓reduceIte, va_rf_some, cw_nil, cw_int, cw_ref, cw_long, kl_int, kl_ref, kl_null, kl_long, kl_none, Option.toList_some, Option.toList_none, List.cons_append, List.nil_append, List.append_nil, nI_add, nI_clamp, nI_ltI, nI_leI, nI_eq, va_up_ne, va_up_self, kdP, lnP, Nat.reduceSub, Nat.reduceLT, Nat.reduceLeDiff, Nat.reduceEqDiff, Nat.reduceAdd, Nat.reduceMul, Nat.reduceSub, if_true, if_false, not_true, not_false_eq_true, decide_true, decide_false, Nat.lt_irrefl, Nat.le_refl, Nat.not_lt_zero, Nat.zero_le]
  refine go _ _ _ _ _ ?_ ?_ ?_ ?_ ?_ ?_ ?_ ?_ ?_ ?_ ?_
  · exact ⟨fun a ha => ⟨(by simp (disch := omega) only [va_up_ne]), (by simp (disch := omega) only [va_up_ne])⟩, fun a ha hne => ⟨(by simp (disch := omega) only [va_up_ne]), (by simp (disch := omega) only [va_up_ne]), (by simp (disch := omega) only [va_up_ne])⟩, (by simp (disch := omega) only [va_up_ne]), (by simp (disch := omega) only [va_up_ne])⟩
  · exact ⟨(by simp (disch := omega) only [va_up_ne, va_up_self]), (by simp (disch := omega) only [va_up_ne, va_up_self]), (by simp (disch := omega) only [va_up_ne, va_up_self]), (by simp (disch := omega) only [va_up_ne, va_up_self])⟩
  · simp (disch := omega) only [va_up_ne, va_up_self]
  · exact ⟨(by simp (disch := omega) only [va_up_ne, va_up_self]), (by simp (disch := omega) only [va_up_ne, va_up_self]), (by simp (disch := omega) only [va_up_ne, va_up_self]), (by simp (disch := omega) only [va_up_ne, va_up_self])⟩
  · simp (disch := omega) only [va_up_ne, va_up_self]
  · exact ⟨(by simp (disch := omega) only [va_up_ne, va_up_self]), (by simp (disch := omega) only [va_up_ne, va_up_self]), (by simp (disch := omega) only [va_up_ne, va_up_self]), (by simp (disch := omega) only [va_up_ne, va_up_self])⟩
  · simp (disch := omega) only [va_up_ne, va_up_self]
  · exact ⟨(by simp (disch := omega) only [va_up_ne, va_up_self]), (by simp (disch := omega) only [va_up_ne, va_up_self]), (by simp (disch := omega) only [va_up_ne, va_up_self]), (by simp (disch := omega) only [va_up_ne, va_up_self])⟩
  · simp (disch := omega) only [va_up_ne, va_up_self]
  · exact ⟨(by simp (disch := omega) only [va_up_ne, va_up_self]), (by simp (disch := omega) only [va_up_ne, va_up_self]), (by simp (disch := omega) only [va_up_ne, va_up_self]), (by simp (disch := omega) only [va_up_ne, va_up_self])⟩
  · simp (disch := omega) only [va_up_ne, va_up_self]
theorem ci_162 {p1 p2 : Nat} (hk : f t = 8) (go : ∀ f' g' I' L' R', Kp (t + 1) t f f' g g' I I' L L' R R' → R' t 0 = some p1 → R' t 1 = some p2 → Q none (t + 1, f', g') I' L' R') : CA (d + 1) 162 [.ref t, .ref p1, .ref p2] (t + 1, f, g) I L R Q := by
  rw [ca_162]
  simp (disch := first | assumption | exact cw0 | omega | (simp (disch := omega) only [hk, kdP, lnP, va_up_ne, va_up_self]; done) | (simp only [cw_nil, cw_int, cw_ref, cw_long]; omega) | decide) only [x_162_0, x_162_1, x_162_4, x_162_5, x_162_6, x_162_9, x_162_10, x_162_11, x_162_14, ↓reduceIte, va_rf_some, cw_nil, cw_int, cw_ref, cw_long, kl_int, kl_ref, kl_null, kl_long, kl_none, Option.toList_some, Option.toList_none, List.cons_append, List.nil_append, List.append_nil, nI_add, nI_clamp, nI_ltI, nI_leI, nI_eq, va_up_ne, va_up_self, kdP, lnP, Nat.reduceSub, Nat.reduceLT, Nat.reduceLeDiff, Nat.reduceEqDiff, Nat.reduceAdd, Nat.reduceMul, Nat.reduceSub, if_true, if_false, not_true, not_false_eq_true, decide_true, decide_false, Nat.lt_irrefl, Nat.le_refl, Nat.not_lt_zero, Nat.zero_le]
  refine go _ _ _ _ _ ?_ ?_ ?_
  · exact ⟨fun a ha => ⟨(by simp (disch := omega) only [va_up_ne]), (by simp (disch := omega) only [va_up_ne])⟩, fun a ha hne => ⟨(by simp (disch := omega) only [va_up_ne]), (by simp (disch := omega) only [va_up_ne]), (by simp (disch := omega) only [va_up_ne])⟩, (by simp (disch := omega) only [va_up_ne]), (by simp (disch := omega) only [va_up_ne])⟩
  · simp (disch := omega) only [va_up_ne, va_up_self]
  · simp (disch := omega) only [va_up_ne, va_up_self]
theorem ci_170 {p1 p2 p3 : Nat} (hk : f t = 9) (go : ∀ f' g' I' L' R', Kp (t + 1) t f f' g g' I I' L L' R R' → Nw f' g' I' L' (t + 1) 100 3 → R' t 3 = some (t + 1) → R' t 0 = some p1 → R' t 1 = some p2 → R' t 2 = some p3 → Q none (t + 2, f', g') I' L' R') : CA (d + 1) 170 [.ref t, .ref p1, .ref p2, .ref p3] (t + 1, f, g) I L R Q := by
  rw [ca_170]
  simp (disch := first | assumption | exact cw0 | omega | (simp (disch := omega) only [hk, kdP, lnP, va_up_ne, va_up_self]; done) | (simp only [cw_nil, cw_int, cw_ref, cw_long]; omega) | decide) only [x_170_0, x_170_1, x_170_4, x_170_5, x_170_6, x_170_8, x_170_11, x_170_12, x_170_13, x_170_16, x_170_17, x_170_18, x_170_21, x_170_22, x_170_23, x_170_26, ↓reduceIte, va_rf_some, cw_nil, cw_int, cw_ref, cw_long, kl_int, kl_ref, kl_null, kl_long, kl_none, Option.toList_some, Option.toList_none, List.cons_append, List.nil_append, List.append_nil, nI_add, nI_clamp, nI_ltI, nI_leI, nI_eq, va_up_ne, va_up_self, kdP, lnP, Nat.reduceSub, Nat.reduceLT, Nat.reduceLeDiff, Nat.reduceEqDiff, Nat.reduceAdd, Nat.reduceMul, Nat.reduceSub, if_true, if_false, not_true, not_false_eq_true, decide_true, decide_false, Nat.lt_irrefl, Nat.le_refl, Nat.not_lt_zero, Nat.zero_le]
  refine go _ _ _ _ _ ?_ ?_ ?_ ?_ ?_ ?_
  · exact ⟨fun a ha => ⟨(by simp (disch := omega) only [va_up_ne]), (by simp (disch := omega) only [va_up_ne])⟩, fun a ha hne => ⟨(by simp (disch := omega) only [va_up_ne]), (by simp (disch := omega) only [va_up_ne]), (by simp (disch := omega) only [va_up_ne])⟩, (by simp (disch := omega) only [va_up_ne]), (by simp (disch := omega) only [va_up_ne])⟩
  · exact ⟨(by simp (disch := omega) only [va_up_ne, va_up_self]), (by simp (disch := omega) only [va_up_ne, va_up_self]), (by simp (disch := omega) only [va_up_ne, va_up_self]), (by simp (disch := omega) only [va_up_ne, va_up_self])⟩
  · simp (disch := omega) only [va_up_ne, va_up_self]
  · simp (disch := omega) only [va_up_ne, va_up_self]
  · simp (disch := omega) only [va_up_ne, va_up_self]
  · simp (disch := omega) only [va_up_ne, va_up_self]
end CN1

