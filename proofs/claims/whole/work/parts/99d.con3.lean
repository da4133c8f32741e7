/-! The constructors: trays, scanner, life. -/
section CN3
variable {f g : Nat → Nat} {I : mI} {L : mL} {R : mR} {Q : mQ} {d t x : Nat}
theorem ci_73 (hk : f t = 1) (go : ∀ f' g' I' L' R', Kp (t + 1) t f f' g g' I I' L L' R R' → Nw f' g' I' L' (t + 1) 101 240 → R' t 0 = some (t + 1) → Nw f' g' I' L' (t + 2) 100 4 → R' t 1 = some (t + 2) → f' (t + 3) = 100 → g' (t + 3) = 4 → (∀ j, j < 4 → I' (t + 3) j = -1) → R' t 2 = some (t + 3) → Q none (t + 4, f', g') I' L' R') : CA (d + 2) 73 [.ref t] (t + 1, f, g) I L R Q := by
  rw [ca_73]
  simp (disch := first | assumption | exact cw0 | omega | (simp (disch := omega) only [hk, kdP, lnP, va_up_ne, va_up_self]; done) | (simp only [cw_nil, cw_int, cw_ref, cw_long]; omega) | decide) only [x_73_0, x_73_1, x_73_4, x_73_5, x_73_8, x_73_10, x_73_13, x_73_14, x_73_15, x_73_17, x_73_20, x_73_21, x_73_22, x_73_24, x_73_27, x_73_28, x_73_31, x_73_35, ↓reduceIte, va_rf_some, cw_nil, cw_int, cw_ref, cw_long, kl_int, kl_ref, kl_null, kl_long, kl_none, Option.toList_some, Option.toList_none, List.cons_append, List.nil_append, List.append_nil, nI_add, nI_clamp, nI_ltI, nI_leI, nI_eq, va_up_ne, va_up_self, kdP, lnP, Nat.reduceSub, Nat.reduceLT, Nat.reduceLeDiff, Nat.reduceEqDiff, Nat.reduceAdd, Nat.reduceMul, Nat.reduceSub, if_true, if_false, not_true, not_false_eq_true, decide_true, decide_false, Nat.lt_irrefl, Nat.le_refl, Nat.not_lt_zero, Nat.zero_le]
  rw [x_73_32 (by simp only [cw_ref, cw_int, cw_nil]; omega), j_fillI (n := 4) (by simp (disch := omega) only [kdP, va_up_ne, va_up_self]) (by simp (disch := omega) only [lnP, va_up_ne, va_up_self]) (by omega)]
  unfold filI
  simp (disch := first | assumption | exact cw0 | omega | (simp (disch := omega) only [hk, kdP, lnP, va_up_ne, va_up_self]; done) | (simp only [cw_nil, cw_int, cw_ref, cw_long]; omega) | decide) only [x_73_0, x_73_1, x_73_4, x_73_5, x_73_8, x_73_10, x_73_13, x_73_14, x_73_15, x_73_17, x_73_20, x_73_21, x_73_22, x_73_24, x_73_27, x_73_28, x_73_31, x_73_35, ↓reduceIte, va_rf_some, cw_nil, cw_int, cw_ref, cw_long, kl_int, kl_ref, kl_null, kl_long, kl_none, Option.toList_some, Option.toList_none, List.cons_append, List.nil_append, List.append_nil, nI_add, nI_clamp, nI_ltI, nI_leI, nI_eq, va_up_ne, va_up_self, kdP, lnP, Nat.reduceSub, Nat.reduceLT, Nat.reduceLeDiff, Nat.reduceEqDiff, Nat.reduceAdd, Nat.reduceMul, Nat.reduceSub, if_true, if_false, not_true, not_false_eq_true, decide_true, decide_false, Nat.lt_irrefl, Nat.le_refl, Nat.not_lt_zero, Nat.zero_le]
  refine go _ _ _ _ _ ?_ ?_ ?_ ?_ ?_ ?_ ?_ ?_ ?_
  · exact ⟨fun a ha => ⟨(by simp (disch := omega) only [va_up_ne]), (by simp (disch := omega) only [va_up_ne])⟩, fun a ha hne => ⟨(by simp (disch := omega) only [va_up_ne]), (by simp (disch := omega) only [va_up_ne]), (by simp (disch := omega) only [va_up_ne])⟩, (by simp (disch := omega) only [va_up_ne]), (by simp (disch := omega) only [va_up_ne])⟩
  · exact ⟨(by simp (disch := omega) only [va_up_ne, va_up_self]), (by simp (disch := omega) only [va_up_ne, va_up_self]), (by simp (disch := omega) only [va_up_ne, va_up_self]), (by simp (disch := omega) only [va_up_ne, va_up_self])⟩
  · simp (disch := omega) only [va_up_ne, va_up_self]
  · exact ⟨(by simp (disch := omega) only [va_up_ne, va_up_self]), (by simp (disch := omega) only [va_up_ne, va_up_self]), (by simp (disch := omega) only [va_up_ne, va_up_self]), (by simp (disch := omega) only [va_up_ne, va_up_self])⟩
  · simp (disch := omega) only [va_up_ne, va_up_self]
  · simp (disch := omega) only [va_up_ne, va_up_self]
  · simp (disch := omega) only [va_up_ne, va_up_self]
  · intro j hj
    simp (disch := omega) only [va_up_ne, va_up_self]
    exact if_pos hj
  · simp (disch := omega) only [va_up_ne, va_up_self]
theorem ci_195 {p1 q : Nat} (hk : f t = 11) (hp : p1 < t) (hk1 : f p1 = 2) (hr : R p1 3 = some q) (go : ∀ f' g' I' L' R', Kp (t + 1) t f f' g g' I I' L L' R R' → Nw f' g' I' L' (t + 1) 100 60 → R' t 2 = some (t + 1) → R' t 0 = some p1 → R' t 1 = some q → Q none (t + 2, f', g') I' L' R') : CA (d + 1) 195 [.ref t, .ref p1] (t + 1, f, g) I L R Q := by
  rw [ca_195]
  simp (disch := first | assumption | exact cw0 | omega | (simp (disch := omega) only [hk, hk1, kdP, lnP, va_up_ne, va_up_self]; done) | (simp only [cw_nil, cw_int, cw_ref, cw_long]; omega) | decide) only [x_195_0, x_195_1, x_195_4, x_195_5, x_195_7, x_195_9, x_195_12, x_195_13, x_195_14, x_195_17, x_195_18, x_195_19, x_195_22, x_195_25, ↓reduceIte, va_rf_some, cw_nil, cw_int, cw_ref, cw_long, kl_int, kl_ref, kl_null, kl_long, kl_none, Option.toList_some, Option.toList_none, List.cons_append, List.nil_append, List.append_nil, nI_add, nI_clamp, nI_ltI, nI_leI, nI_eq, va_up_ne, va_up_self, kdP, lnP, Nat.reduceSub, Nat.reduceLT, Nat.reduceLeDiff, Nat.reduceEqDiff, Nat.reduceAdd, Nat.reduceMul, Nat.reduceSub, if_true, if_false, not_true, not_false_eq_true, decide_true, decide_false, Nat.lt_irrefl, Nat.le_refl, Nat.not_lt_zero, Nat.zero_le, hr]
  refine go _ _ _ _ _ ?_ ?_ ?_ ?_ ?_
  · exact ⟨fun a ha => ⟨(by simp (disch := omega) only [va_up_ne]), (by simp (disch := omega) only [va_up_ne])⟩, fun a ha hne => ⟨(by simp (disch := omega) only [va_up_ne]), (by simp (disch := omega) only [va_up_ne]), (by simp (disch := omega) only [va_up_ne])⟩, (by simp (disch := omega) only [va_up_ne]), (by simp (disch := omega) only [va_up_ne])⟩
  · exact ⟨(by simp (disch := omega) only [va_up_ne, va_up_self]), (by simp (disch := omega) only [va_up_ne, va_up_self]), (by simp (disch := omega) only [va_up_ne, va_up_self]), (by simp (disch := omega) only [va_up_ne, va_up_self])⟩
  · simp (disch := omega) only [va_up_ne, va_up_self]
  · simp (disch := omega) only [va_up_ne, va_up_self]
  · simp (disch := omega) only [va_up_ne, va_up_self]
/-- the own words, from the text of them -/
def owS (i : Nat) : Nat × Nat := ((strC 0).take i).foldl (fun (q : Nat × Nat) (c : Nat) => if c = 32 then (q.1 + 1, 0) else (q.1, q.2 * 27 + (c - 96))) (0, 0)
theorem ow_all : ∀ i, i < 132 → (((strC 0).getD i 0 = 32 ∧ (owS i).1 < 26 ∧ (owS i).2 = ownN (owS i).1 ∧ owS (i + 1) = ((owS i).1 + 1, 0)) ∨ ((strC 0).getD i 0 ≠ 32 ∧ 97 ≤ (strC 0).getD i 0 ∧ (strC 0).getD i 0 < 123 ∧ owS (i + 1) = ((owS i).1, (owS i).2 * 27 + ((strC 0).getD i 0 - 96)))) ∧ (owS i).1 ≤ 26 := by decide +kernel
theorem ow_len : (strC 0).length = 132 := by decide +kernel
theorem ow_end : (owS 132).1 = 26 := by decide +kernel
theorem ow_c : ∀ c, c < 123 → 97 ≤ c → (nI c - nI 97 + nI 1).toInt64 = lN (c - 96) := by decide +kernel
end CN3
section CN3b
variable {ρ : mB} {ls : mV} {st : List Value} {S : mS} {I : mI} {L : mL} {R : mR} {Q : mQ} {q : Nat}
theorem x_142_28 (hq : R 0 0 = some q) : WP ρ 142 28 ls st S I L R Q = WP ρ 142 30 ls (.ref q :: st) S I L R Q := w_ldcs (dk hc_142 (by decide +kernel : decode prog_8_method_1_code 28 = .ok (.ldc 19, 2))) (Or.inl ⟨rfl, rfl⟩) (by rw [ho_142]; decide +kernel) (by rw [ho_142]; decide +kernel) hq
theorem x_142_36 (hq : R 0 0 = some q) : WP ρ 142 36 ls st S I L R Q = WP ρ 142 38 ls (.ref q :: st) S I L R Q := w_ldcs (dk hc_142 (by decide +kernel : decode prog_8_method_1_code 36 = .ok (.ldc 19, 2))) (Or.inl ⟨rfl, rfl⟩) (by rw [ho_142]; decide +kernel) (by rw [ho_142]; decide +kernel) hq
end CN3b
section CN4
variable {f g : Nat → Nat} {I : mI} {L : mL} {R : mR} {Q : mQ} {d t x : Nat}
def owR (r : Nat → Int64) (i : Nat) : Prop := ∀ j, j < (owS i).1 → r j = lN (ownN j)
theorem ow_l {q bc bs n : Nat} (hk : f t = 7) (hq : R 0 0 = some q) (hs : f q = 200) (hr : R t 0 = some (t + 1)) (h1 : f (t + 1) = 101) (h2 : g (t + 1) = 26) (go : ∀ L' a5, (∀ b, b ≠ t + 1 → L' b = L b) → OwnR (L' (t + 1)) → WP (d + 4, bc, bs) 142 94 [some (.ref t), some (.int (nI 26)), some (.long (lN 0)), none, some (.int (nI 132)), a5] [] (n, f, g) I L' R Q) : ∀ (k i : Nat) (L1 : mL) (a5 : Option Value), i + k = 132 → (∀ b, b ≠ t + 1 → L1 b = L b) → owR (L1 (t + 1)) i → WP (d + 4, bc, bs) 142 26 [some (.ref t), some (.int (nI (owS i).1)), some (.long (lN (owS i).2)), none, some (.int (nI i)), a5] [] (n, f, g) I L1 R Q
  | 0, i, L1, a5, e, o, h => by
    have hi : i = 132 := by omega
    subst hi
    have e2 : owS 132 = (26, 0) := by decide +kernel
    have h9 := go L1 a5 o (fun j hj => h j (by rw [ow_end]; exact hj))
    have s200 : kd (n, f, g) q = 200 := hs
    have sl : (strC (200 - 200)).length = 132 := ow_len
    rw [e2]
    simp (disch := first | assumption | exact cw0 | omega | (simp (disch := omega) only [hk, hs, kdP, lnP, va_up_ne, va_up_self]; done) | (simp only [cw_nil, cw_int, cw_ref, cw_long]; omega) | exact Or.inl hs | decide) only [x_142_0, x_142_1, x_142_4, x_142_5, x_142_7, x_142_9, x_142_12, x_142_13, x_142_14, x_142_16, x_142_19, x_142_20, x_142_21, x_142_22, x_142_23, x_142_24, x_142_26, x_142_28, x_142_30, x_142_33, x_142_36, x_142_38, x_142_40, x_142_43, x_142_45, x_142_47, x_142_49, x_142_52, x_142_53, x_142_56, x_142_57, x_142_59, x_142_61, x_142_62, x_142_63, x_142_64, x_142_65, x_142_66, x_142_67, x_142_70, x_142_71, x_142_73, x_142_76, x_142_77, x_142_80, x_142_81, x_142_82, x_142_83, x_142_86, x_142_87, x_142_88, x_142_91, ↓reduceIte, va_rf_some, cw_nil, cw_int, cw_ref, cw_long, kl_int, kl_ref, kl_null, kl_long, kl_none, Option.toList_some, Option.toList_none, List.cons_append, List.nil_append, List.append_nil, nI_add, nI_clamp, nI_ltI, nI_leI, nI_eq, va_up_ne, va_up_self, kdP, lnP, Nat.reduceSub, Nat.reduceLT, Nat.reduceLeDiff, Nat.reduceEqDiff, Nat.reduceAdd, Nat.reduceMul, Nat.reduceSub, if_true, if_false, not_true, not_false_eq_true, decide_true, decide_false, Nat.lt_irrefl, Nat.le_refl, Nat.not_lt_zero, Nat.zero_le, x_142_28 hq, x_142_36 hq, hs, ow_len]
    exact h9
  | k + 1, i, L1, a5, e, o, h => by
    have hi : i < 132 := by omega
    have hi' : ¬ 132 ≤ i := by omega
    have s200 : kd (n, f, g) q = 200 := hs
    have sl : (strC (200 - 200)).length = 132 := ow_len
    have si : vp_in (nI i) (strC (kd (n, f, g) q - 200)).length := by rw [s200, sl]; exact of_eq_true (vin hi (by omega))
    obtain ⟨T, w26⟩ := ow_all i hi
    rw [x_142_26]
    rcases T with ⟨c1, c2, c3, c4⟩ | ⟨c1, c2, c3, c4⟩
    · have ih := ow_l hk hq hs hr h1 h2 go k (i + 1) (va_up L1 (t + 1) (va_up (L1 (t + 1)) (owS i).1 (lN (owS i).2))) (some (.int (nI 32))) (by omega) (fun b hb => by rw [va_up_ne _ _ hb, o b hb]) (fun j hj => by
        rw [c4] at hj
        rw [va_up_self]
        by_cases z : j = (owS i).1
        · rw [z, va_up_self, c3]
        · rw [va_up_ne _ _ z]; exact h j (by have : j < (owS i).1 + 1 := hj; omega))
      rw [c4] at ih
      have c2' : ¬ 26 ≤ (owS i).1 := by omega
      have cc := c1
      have w1 : vp_in (nI (owS i).1) (ln (n, f, g) (t + 1)) := by rw [lnP, h2]; exact of_eq_true (vin c2 (by omega))
      simp (disch := first | assumption | exact cw0 | omega | (simp (disch := omega) only [hk, hs, h1, h2, kdP, lnP, va_up_ne, va_up_self]; done) | (simp only [cw_nil, cw_int, cw_ref, cw_long]; omega) | exact Or.inl hs | decide) only [x_142_0, x_142_1, x_142_4, x_142_5, x_142_7, x_142_9, x_142_12, x_142_13, x_142_14, x_142_16, x_142_19, x_142_20, x_142_21, x_142_22, x_142_23, x_142_24, x_142_28, x_142_30, x_142_33, x_142_36, x_142_38, x_142_40, x_142_43, x_142_45, x_142_47, x_142_49, x_142_52, x_142_53, x_142_56, x_142_57, x_142_59, x_142_61, x_142_62, x_142_63, x_142_64, x_142_65, x_142_66, x_142_67, x_142_70, x_142_71, x_142_73, x_142_76, x_142_77, x_142_80, x_142_81, x_142_82, x_142_83, x_142_86, x_142_87, x_142_88, x_142_91, x_142_94, ↓reduceIte, va_rf_some, cw_nil, cw_int, cw_ref, cw_long, kl_int, kl_ref, kl_null, kl_long, kl_none, Option.toList_some, Option.toList_none, List.cons_append, List.nil_append, List.append_nil, nI_add, nI_clamp, nI_ltI, nI_leI, nI_eq, va_up_ne, va_up_self, kdP, lnP, Nat.reduceSub, Nat.reduceLT, Nat.reduceLeDiff, Nat.reduceEqDiff, Nat.reduceAdd, Nat.reduceMul, Nat.reduceSub, if_true, if_false, not_true, not_false_eq_true, decide_true, decide_false, Nat.lt_irrefl, Nat.le_refl, Nat.not_lt_zero, Nat.zero_le, x_142_28 hq, x_142_36 hq, hs, ow_len, cc, hr, eq_false hi', eq_false c2']
      exact ih
    · have ih := ow_l hk hq hs hr h1 h2 go k (i + 1) L1 (some (.int (nI ((strC 0).getD i 0)))) (by omega) o (fun j hj => by rw [c4] at hj; exact h j hj)
      rw [c4] at ih
      have oc := ow_c _ c3 c2
      obtain ⟨ch, cc⟩ : ∃ ch, (strC 0).getD i 0 = ch := ⟨_, rfl⟩
      rw [cc] at c1 c2 c3 c4 oc ih
      simp (disch := first | assumption | exact cw0 | omega | (simp (disch := omega) only [hk, hs, h1, h2, kdP, lnP, va_up_ne, va_up_self]; done) | (simp only [cw_nil, cw_int, cw_ref, cw_long]; omega) | exact Or.inl hs | decide) only [x_142_0, x_142_1, x_142_4, x_142_5, x_142_7, x_142_9, x_142_12, x_142_13, x_142_14, x_142_16, x_142_19, x_142_20, x_142_21, x_142_22, x_142_23, x_142_24, x_142_28, x_142_30, x_142_33, x_142_36, x_142_38, x_142_40, x_142_43, x_142_45, x_142_47, x_142_49, x_142_52, x_142_53, x_142_56, x_142_57, x_142_59, x_142_61, x_142_62, x_142_63, x_142_64, x_142_65, x_142_66, x_142_67, x_142_70, x_142_71, x_142_73, x_142_76, x_142_77, x_142_80, x_142_81, x_142_82, x_142_83, x_142_86, x_142_87, x_142_88, x_142_91, x_142_94, ↓reduceIte, va_rf_some, cw_nil, cw_int, cw_ref, cw_long, kl_int, kl_ref, kl_null, kl_long, kl_none, Option.toList_some, Option.toList_none, List.cons_append, List.nil_append, List.append_nil, nI_add, nI_clamp, nI_ltI, nI_leI, nI_eq, va_up_ne, va_up_self, kdP, lnP, Nat.reduceSub, Nat.reduceLT, Nat.reduceLeDiff, Nat.reduceEqDiff, Nat.reduceAdd, Nat.reduceMul, Nat.reduceSub, if_true, if_false, not_true, not_false_eq_true, decide_true, decide_false, Nat.lt_irrefl, Nat.le_refl, Nat.not_lt_zero, Nat.zero_le, x_142_28 hq, x_142_36 hq, hs, ow_len, cc, hr, eq_false hi', eq_false c1, oc, lN_mul, lN_add]
      exact ih
theorem ci_142 {q : Nat} (h0 : 0 < t) (hk : f t = 7) (hq : R 0 0 = some q) (hs : f q = 200) (hqt : q < t) (go : ∀ f' g' I' L' R', Kp (t + 1) t f f' g g' I I' L L' R R' → f' (t + 1) = 101 → g' (t + 1) = 26 → OwnR (L' (t + 1)) → R' t 0 = some (t + 1) → Q none (t + 3, f', g') I' L' R') : CA (d + 4) 142 [.ref t] (t + 1, f, g) I L R Q := by
  rw [ca_142]
  simp (disch := first | assumption | exact cw0 | omega | (simp (disch := omega) only [hk, kdP, lnP, va_up_ne, va_up_self]; done) | (simp only [cw_nil, cw_int, cw_ref, cw_long]; omega) | decide) only [x_142_0, x_142_1, x_142_4, x_142_5, x_142_7, x_142_9, x_142_12, x_142_13, x_142_14, x_142_16, x_142_19, x_142_20, x_142_21, x_142_22, x_142_23, x_142_24, x_142_28, x_142_30, x_142_33, x_142_36, x_142_38, x_142_40, x_142_43, x_142_45, x_142_47, x_142_49, x_142_52, x_142_53, x_142_56, x_142_57, x_142_59, x_142_61, x_142_62, x_142_63, x_142_64, x_142_65, x_142_66, x_142_67, x_142_70, x_142_71, x_142_73, x_142_76, x_142_77, x_142_80, x_142_81, x_142_82, x_142_83, x_142_86, x_142_87, x_142_88, x_142_91, x_142_94, ↓reduceIte, va_rf_some, cw_nil, cw_int, cw_ref, cw_long, kl_int, kl_ref, kl_null, kl_long, kl_none, Option.toList_some, Option.toList_none, List.cons_append, List.nil_append, List.append_nil, nI_add, nI_clamp, nI_ltI, nI_leI, nI_eq, va_up_ne, va_up_self, kdP, lnP, Nat.reduceSub, Nat.reduceLT, Nat.reduceLeDiff, Nat.reduceEqDiff, Nat.reduceAdd, Nat.reduceMul, Nat.reduceSub, if_true, if_false, not_true, not_false_eq_true, decide_true, decide_false, Nat.lt_irrefl, Nat.le_refl, Nat.not_lt_zero, Nat.zero_le]
  have e : owS 0 = (0, 0) := rfl
  have key : ∀ f1 g1 I1 L0 R1, f1 t = 7 → R1 0 0 = some q → f1 q = 200 → R1 t 0 = some (t + 1) → f1 (t + 1) = 101 → g1 (t + 1) = 26 → (∀ L', (∀ b, b ≠ t + 1 → L' b = L0 b) → OwnR (L' (t + 1)) → Q none (t + 3, f1, g1) I1 L' R1) → WP (d + 4, 8, 374) 142 26 [some (.ref t), some (.int (nI 0)), some (.long (lN 0)), none, some (.int (nI 0)), none] [] (t + 3, f1, g1) I1 L0 R1 Q := by
    intro f1 g1 I1 L0 R1 a1 a2 a3 a4 a5 a6 hgo
    refine ow_l (n := t + 3) (q := q) a1 a2 a3 a4 a5 a6 ?_ 132 0 L0 none (by omega) (fun _ _ => rfl) (fun j hj => absurd hj (Nat.not_lt_zero _))
    intro L' b5 o h
    have h9 := hgo L' o h
    simp (disch := first | assumption | exact cw0 | omega | (simp (disch := omega) only [a1, kdP, lnP, va_up_ne, va_up_self]; done) | (simp only [cw_nil, cw_int, cw_ref, cw_long]; omega) | decide) only [x_142_0, x_142_1, x_142_4, x_142_5, x_142_7, x_142_9, x_142_12, x_142_13, x_142_14, x_142_16, x_142_19, x_142_20, x_142_21, x_142_22, x_142_23, x_142_24, x_142_28, x_142_30, x_142_33, x_142_36, x_142_38, x_142_40, x_142_43, x_142_45, x_142_47, x_142_49, x_142_52, x_142_53, x_142_56, x_142_57, x_142_59, x_142_61, x_142_62, x_142_63, x_142_64, x_142_65, x_142_66, x_142_67, x_142_70, x_142_71, x_142_73, x_142_76, x_142_77, x_142_80, x_142_81, x_142_82, x_142_83, x_142_86, x_142_87, x_142_88, x_142_91, x_142_94, ↓reduceIte, va_rf_some, cw_nil, cw_int, cw_ref, cw_long, kl_int, kl_ref, kl_null, kl_long, kl_none, Option.toList_some, Option.toList_none, List.cons_append, List.nil_append, List.append_nil, nI_add, nI_clamp, nI_ltI, nI_leI, nI_eq, va_up_ne, va_up_self, kdP, lnP, Nat.reduceSub, Nat.reduceLT, Nat.reduceLeDiff, Nat.reduceEqDiff, Nat.reduceAdd, Nat.reduceMul, Nat.reduceSub, if_true, if_false, not_true, not_false_eq_true, decide_true, decide_false, Nat.lt_irrefl, Nat.le_refl, Nat.not_lt_zero, Nat.zero_le]
    exact h9
  refine key _ _ _ _ _ ?_ ?_ ?_ ?_ ?_ ?_ ?_
  · simp (disch := omega) only [va_up_ne, va_up_self]; exact hk
  · simp (disch := omega) only [va_up_ne, va_up_self]; exact hq
  · simp (disch := omega) only [va_up_ne, va_up_self]; exact hs
  · simp (disch := omega) only [va_up_ne, va_up_self]
  · simp (disch := omega) only [va_up_ne, va_up_self]
  · simp (disch := omega) only [va_up_ne, va_up_self]
  · intro L' o h
    refine go _ _ _ _ _ ⟨fun a ha => ⟨(by simp (disch := omega) only [va_up_ne]), (by simp (disch := omega) only [va_up_ne])⟩, fun a ha hne => ⟨(by simp (disch := omega) only [va_up_ne]), ?_, (by simp (disch := omega) only [va_up_ne])⟩, (by simp (disch := omega) only [va_up_ne]), ?_⟩ ?_ ?_ h ?_
    · rw [o a (by omega)]; simp (disch := omega) only [va_up_ne]
    · rw [o t (by omega)]; simp (disch := omega) only [va_up_ne]
    · simp (disch := omega) only [va_up_ne, va_up_self]
    · simp (disch := omega) only [va_up_ne, va_up_self]
    · simp (disch := omega) only [va_up_ne, va_up_self]
end CN4

