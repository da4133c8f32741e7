/-! The model: steps, standing. -/
def OKA (A : AS) : Prop := smallA A ∧ A 2 ≤ 4 ∧ polesIn30 A ∧ ∀ w, w < 4 → burd A w < 900
theorem momA_keep {A : AS} {al : Nat} (h2 : A 2 ≤ 4) (hc : polesIn30 A) : ∀ j, keepJ j → momA al A j = A j := by
  intro j hj
  unfold momA
  rw [va_up_ne _ _ (by unfold keepJ at hj; omega), mendN_keep 30 (by omega) j hj, bearN_keep hc _ (by omega) j hj]
theorem bearN_4 {A : AS} {al : Nat} (hc : polesIn30 A) : ∀ s, s ≤ 8 → bearN al A s 4 = A 4
  | 0, _ => rfl
  | s + 1, hs => by
    have ih := bearN_4 (al := al) hc s (by omega)
    have K := bearN_keep (al := al) hc s (by omega)
    have hp : pcl (bearN al A s) (s / 2) (s % 2) < 30 := by rw [pcl_keep K (by omega) (by omega)]; exact hc _ _ (by omega) (by omega)
    show mvS al (bearN al A s) s 4 = A 4
    have key : ∀ u, bearA (bearN al A s) (s / 2) (s % 2) u 4 = A 4 := by
      intro u
      unfold bearA
      split
      · exact ih
      · split
        · rw [va_up_ne _ _ (by omega)]; exact ih
        · split
          · rw [va_up_ne _ _ (by omega)]; exact ih
          · exact ih
    unfold mvS
    split
    · exact ih
    · split
      · rw [va_up_ne _ _ (by omega)]; exact key _
      · exact key _
theorem momA_4 {A : AS} {al : Nat} (h2 : A 2 ≤ 4) (hc : polesIn30 A) : momA al A 4 = A 4 + 1 := by
  unfold momA
  rw [va_up_self, mendN_4, bearN_4 hc _ (by omega)]
theorem OKA.mom {A : AS} {al : Nat} (h : OKA A) (h4 : A 4 < 999999) : OKA (momA al A) := by
  obtain ⟨hs, h2, hc, hb⟩ := h
  have K := momA_keep (al := al) h2 hc
  refine ⟨?_, by rw [K 2 (by unfold keepJ; omega)]; exact h2, fun w p hw hp => by rw [pcl_keep K hw hp]; exact hc w p hw hp, fun w hw => by rw [burd_keep K hw]; exact hb w hw⟩
  unfold momA
  refine smallA_up (smallA_mendN (smallA_bearN hs hc hb _ (by omega)) 30) ?_
  rw [mendN_4, bearN_4 hc _ (by omega)]
  omega
/-- pulled out: how many moments, and what is then -/
def lf (al : Nat) : Nat → AS → Nat × AS
  | 0, A => (0, A)
  | f + 1, A => if wI (momA al A) (al / 2) 6 = 1 then (1, momA al A) else ((lf al f (momA al A)).1 + 1, (lf al f (momA al A)).2)
def fe (al : Nat) : Nat → AS → Nat
  | 0, _ => 0
  | f + 1, A => if wI (momA al A) (al / 2) 6 = 1 then setN al A (2 * A 2) else setN al A (2 * A 2) ||| fe al f (momA al A)
def momN (al : Nat) : Nat → AS → AS
  | 0, A => A
  | f + 1, A => momN al f (momA al A)
def sfe : Nat → AS → Nat
  | 0, _ => 0
  | f + 1, A => setN 99 A (2 * A 2) ||| sfe f (momA 99 A)
def putP (A : AS) (w p c : Nat) : AS := va_up (va_up (va_up (va_up A (186 + 14 * w + 8 + 3 * p) (c % 6)) (186 + 14 * w + 8 + 3 * p + 1) (c / 6)) (186 + 14 * w + 8 + 3 * p + 2) 0) (186 + 14 * w + 7) (wI A w 7 + 1)
def stpA (A : AS) (w p c : Nat) : AS := if wI (lf (2 * w + p) (1 + pI A w p 2 / 2) A).2 w 6 = 1 then (lf (2 * w + p) (1 + pI A w p 2 / 2) A).2 else putP (lf (2 * w + p) (1 + pI A w p 2 / 2) A).2 w p c
theorem lf_ok {al : Nat} : ∀ (f : Nat) (A : AS), OKA A → A 4 + f < 999999 → OKA (lf al f A).2 ∧ (lf al f A).2 4 = A 4 + (lf al f A).1 ∧ (lf al f A).1 ≤ f ∧ ∀ j, keepJ j → (lf al f A).2 j = A j
  | 0, A, h, _ => ⟨h, rfl, Nat.le_refl _, fun _ _ => rfl⟩
  | f + 1, A, h, h4 => by
    have h1 := h.mom (al := al) (by omega)
    have h5 := momA_4 (al := al) h.2.1 h.2.2.1
    have K := momA_keep (al := al) h.2.1 h.2.2.1
    unfold lf
    split
    · exact ⟨h1, h5, by omega, K⟩
    · obtain ⟨a1, a2, a3, a4⟩ := lf_ok (al := al) f (momA al A) h1 (by omega)
      exact ⟨a1, by dsimp only; omega, by dsimp only; omega, fun j hj => (a4 j hj).trans (K j hj)⟩
theorem va_up_up {α : Type} {f : Nat → α} {k : Nat} {a b : α} : va_up (va_up f k a) k b = va_up f k b := by
  funext j
  simp only [va_upp]
  by_cases h : j = k <;> simp [h]
theorem va_up_setA {I : mI} {m : Nat} {A : AS} {r : Nat → Int32} : va_up (setA I m A) m r = setA (va_up I m r) m A := by
  funext a j
  unfold setA
  simp only [va_upp]
  by_cases h : a = m
  · subst h; simp
  · by_cases g : a = m + 1
    · subst g; simp
    · simp [h, g]
theorem setA_m {I : mI} {m : Nat} {A : AS} : setA I m A m = I m := setA_o (by omega)
section M6
variable {S : mS} {I : mI} {L : mL} {R : mR} {Q : mQ} {d m : Nat} {A : AS}
theorem st_l {w p c M : Nat} (h : MdL S R m) (hw : w < 4) (hp : p < 2) (hM : M < 1000) : ∀ (f q t : Nat) (A : AS), q + f = M + 1 → OKA A → A 4 + f < 999999 → t < 16 →
    (wI (lf (2 * w + p) f A).2 w 6 = 1 → 0 < f → Q (some (.int (nI (q + (lf (2 * w + p) f A).1 - 1)))) S (setA (va_up I m (va_up (I m) 24 (nI (t ||| fe (2 * w + p) f A)))) m (lf (2 * w + p) f A).2) L R) →
    ((¬ wI (lf (2 * w + p) f A).2 w 6 = 1 ∨ f = 0) → (lf (2 * w + p) f A).1 = f → WP (d + 5, 0, 0) 279 55 [some (.ref m), some (.int (nI w)), some (.int (nI p)), some (.int (nI c)), some (.int (nI M)), some (.int (nI (M + 1)))] [] S (setA (va_up I m (va_up (I m) 24 (nI (t ||| fe (2 * w + p) f A)))) m (lf (2 * w + p) f A).2) L R Q) →
    WP (d + 5, 0, 0) 279 16 [some (.ref m), some (.int (nI w)), some (.int (nI p)), some (.int (nI c)), some (.int (nI M)), some (.int (nI q))] [] S (setA (va_up I m (va_up (I m) 24 (nI t))) m A) L R Q := by
  intro f
  have e1 : (2 * w + p) / 2 = w := by omega
  have e2 : (2 * w + p) % 2 = p := by omega
  induction f with
  | zero =>
    intro q t A hq hO h4 ht k1 k2
    have hq : q = M + 1 := by omega
    subst hq
    have k2 := k2 (Or.inr rfl) rfl
    have hs := hO.1
    have g : M < M + 1 := by omega
    unfold fe lf at k2
    rw [Nat.or_zero] at k2
    rw [x_279_16]
    simp (disch := first | assumption | exact md_k h | exact md_k1 h | exact cw0 | exact vin1 h (by omega) | omega | exact sm_c hs | exact sm_w hs | exact sm_p hs | exact sm_pc hs | exact sm_b hs | exact sm_a hs | (simp (disch := first | assumption | omega) only [md_k, md_R0, md_k1, md_n1, md_R1, md_k2, md_n2, md_R5, md_k3, md_n3, md_R6, md_k4, md_n4, md_R7, md_k5, md_n5, md_R8, md_k6, md_n6, md_R9, md_k7, md_n7, md_R21, md_k8, md_n8, md_R25, md_k9, md_n9, md_R26, md_k10, md_n10, md_R27, md_k11, md_n11, md_R28, md_k12, md_n12, md_R29, md_k13, md_n13, md_R32, md_k14, md_n14, md_R33, md_k15, md_n15, md_R34, md_k16, md_n16, md_R36, md_k17, md_n17, md_R41, md_k18, md_n18, md_R42, md_k19, md_n19, md_R43, md_k20, md_n20, vin, cw_nil, cw_int, cw_ref, cw_long, bI_01]; done) | (simp (disch := first | assumption | omega) only [md_k, md_R0, md_k1, md_n1, md_R1, md_k2, md_n2, md_R5, md_k3, md_n3, md_R6, md_k4, md_n4, md_R7, md_k5, md_n5, md_R8, md_k6, md_n6, md_R9, md_k7, md_n7, md_R21, md_k8, md_n8, md_R25, md_k9, md_n9, md_R26, md_k10, md_n10, md_R27, md_k11, md_n11, md_R28, md_k12, md_n12, md_R29, md_k13, md_n13, md_R32, md_k14, md_n14, md_R33, md_k15, md_n15, md_R34, md_k16, md_n16, md_R36, md_k17, md_n17, md_R41, md_k18, md_n18, md_R42, md_k19, md_n19, md_R43, md_k20, md_n20, cw_nil, cw_int, cw_ref, cw_long]; omega) | decide) only [x_279_0, x_279_1, x_279_2, x_279_3, x_279_6, x_279_8, x_279_9, x_279_10, x_279_13, x_279_14, x_279_18, x_279_20, x_279_23, x_279_24, x_279_24r, x_279_25, x_279_28, x_279_29, x_279_30, x_279_31, x_279_34, x_279_35, x_279_38, x_279_39, x_279_40, x_279_43, x_279_46, x_279_48, x_279_49, x_279_52, x_279_56, x_279_59, x_279_60, x_279_61, x_279_64, x_279_65, x_279_67, x_279_68, x_279_69, x_279_70, x_279_73, x_279_74, x_279_75, x_279_78, x_279_79, x_279_80, x_279_81, x_279_83, x_279_84, x_279_85, x_279_86, x_279_89, x_279_90, x_279_91, x_279_94, x_279_95, x_279_96, x_279_97, x_279_98, x_279_99, x_279_102, x_279_103, x_279_106, x_279_108, x_279_109, x_279_110, x_279_111, x_279_112, x_279_113, x_279_114, x_279_116, va_rf_some, cw_nil, cw_int, cw_ref, cw_long, kl_int, kl_ref, kl_null, kl_long, kl_none, Option.toList_some, Option.toList_none, List.cons_append, List.nil_append, List.append_nil, md_k, md_R0, md_k1, md_n1, md_R1, md_k2, md_n2, md_R5, md_k3, md_n3, md_R6, md_k4, md_n4, md_R7, md_k5, md_n5, md_R8, md_k6, md_n6, md_R9, md_k7, md_n7, md_R21, md_k8, md_n8, md_R25, md_k9, md_n9, md_R26, md_k10, md_n10, md_R27, md_k11, md_n11, md_R28, md_k12, md_n12, md_R29, md_k13, md_n13, md_R32, md_k14, md_n14, md_R33, md_k15, md_n15, md_R34, md_k16, md_n16, md_R36, md_k17, md_n17, md_R41, md_k18, md_n18, md_R42, md_k19, md_n19, md_R43, md_k20, md_n20, nI_add, pk_mul, nI_clamp, nI_ltI, nI_leI, nI_eq, eq_true g, if_true]
    exact k2
  | succ f ih =>
    intro q t A hq hO h4 ht k1 k2
    have hO2 := hO.mom (al := 2 * w + p) (by omega)
    have h42 := momA_4 (al := 2 * w + p) hO.2.1 hO.2.2.1
    have hs := hO.1
    have hs2 := hO2.1
    have g : ¬ M < q := by omega
    have ha : airOK (2 * w + p) (nI w) (nI p) := Or.inr ⟨by omega, by rw [e1], by rw [e2]⟩
    have hA := rowA_setA (I := va_up I m (va_up (I m) 24 (nI t))) (m := m) (A := A)
    have hA2 := rowA_setA (I := va_up I m (va_up (I m) 24 (nI (t ||| setN (2 * w + p) A (2 * A 2))))) (m := m) (A := momA (2 * w + p) A)
    have hset := setN_lt (A := A) (al := 2 * w + p) (2 * A 2) (by have := hO.2.1; omega)
    have ht2 : t ||| setN (2 * w + p) A (2 * A 2) < 16 := Nat.or_lt_two_pow (n := 4) ht hset
    rw [x_279_16]
    by_cases gf : wI (momA (2 * w + p) A) w 6 = 1
    · have L1 : lf (2 * w + p) (f + 1) A = (1, momA (2 * w + p) A) := by unfold lf; rw [e1, if_pos gf]
      have L2 : fe (2 * w + p) (f + 1) A = setN (2 * w + p) A (2 * A 2) := by unfold fe; rw [e1, if_pos gf]
      rw [L1, L2] at k1
      have k1 := k1 gf (by omega)
      simp (disch := first | assumption | exact md_k h | exact md_k1 h | exact cw0 | exact vin1 h (by omega) | omega | exact sm_c hs | exact sm_w hs | exact sm_p hs | exact sm_pc hs | exact sm_b hs | exact sm_a hs | (simp (disch := first | assumption | omega) only [md_k, md_R0, md_k1, md_n1, md_R1, md_k2, md_n2, md_R5, md_k3, md_n3, md_R6, md_k4, md_n4, md_R7, md_k5, md_n5, md_R8, md_k6, md_n6, md_R9, md_k7, md_n7, md_R21, md_k8, md_n8, md_R25, md_k9, md_n9, md_R26, md_k10, md_n10, md_R27, md_k11, md_n11, md_R28, md_k12, md_n12, md_R29, md_k13, md_n13, md_R32, md_k14, md_n14, md_R33, md_k15, md_n15, md_R34, md_k16, md_n16, md_R36, md_k17, md_n17, md_R41, md_k18, md_n18, md_R42, md_k19, md_n19, md_R43, md_k20, md_n20, vin, cw_nil, cw_int, cw_ref, cw_long, bI_01]; done) | (simp (disch := first | assumption | omega) only [md_k, md_R0, md_k1, md_n1, md_R1, md_k2, md_n2, md_R5, md_k3, md_n3, md_R6, md_k4, md_n4, md_R7, md_k5, md_n5, md_R8, md_k6, md_n6, md_R9, md_k7, md_n7, md_R21, md_k8, md_n8, md_R25, md_k9, md_n9, md_R26, md_k10, md_n10, md_R27, md_k11, md_n11, md_R28, md_k12, md_n12, md_R29, md_k13, md_n13, md_R32, md_k14, md_n14, md_R33, md_k15, md_n15, md_R34, md_k16, md_n16, md_R36, md_k17, md_n17, md_R41, md_k18, md_n18, md_R42, md_k19, md_n19, md_R43, md_k20, md_n20, cw_nil, cw_int, cw_ref, cw_long]; omega) | decide) only [x_279_0, x_279_1, x_279_2, x_279_3, x_279_6, x_279_8, x_279_9, x_279_10, x_279_13, x_279_14, x_279_18, x_279_20, x_279_23, x_279_24, x_279_24r, x_279_25, x_279_28, x_279_29, x_279_30, x_279_31, x_279_34, x_279_35, x_279_38, x_279_39, x_279_40, x_279_43, x_279_46, x_279_48, x_279_49, x_279_52, x_279_56, x_279_59, x_279_60, x_279_61, x_279_64, x_279_65, x_279_67, x_279_68, x_279_69, x_279_70, x_279_73, x_279_74, x_279_75, x_279_78, x_279_79, x_279_80, x_279_81, x_279_83, x_279_84, x_279_85, x_279_86, x_279_89, x_279_90, x_279_91, x_279_94, x_279_95, x_279_96, x_279_97, x_279_98, x_279_99, x_279_102, x_279_103, x_279_106, x_279_108, x_279_109, x_279_110, x_279_111, x_279_112, x_279_113, x_279_114, x_279_116, va_rf_some, cw_nil, cw_int, cw_ref, cw_long, kl_int, kl_ref, kl_null, kl_long, kl_none, Option.toList_some, Option.toList_none, List.cons_append, List.nil_append, List.append_nil, md_k, md_R0, md_k1, md_n1, md_R1, md_k2, md_n2, md_R5, md_k3, md_n3, md_R6, md_k4, md_n4, md_R7, md_k5, md_n5, md_R8, md_k6, md_n6, md_R9, md_k7, md_n7, md_R21, md_k8, md_n8, md_R25, md_k9, md_n9, md_R26, md_k10, md_n10, md_R27, md_k11, md_n11, md_R28, md_k12, md_n12, md_R29, md_k13, md_n13, md_R32, md_k14, md_n14, md_R33, md_k15, md_n15, md_R34, md_k16, md_n16, md_R36, md_k17, md_n17, md_R41, md_k18, md_n18, md_R42, md_k19, md_n19, md_R43, md_k20, md_n20, nI_add, pk_mul, nI_clamp, nI_ltI, nI_leI, nI_eq, eq_false g, if_false, setA_m, va_up_self, k_moment h hA hs ha hO.2.1 hO.2.2.2 hO.2.2.1, nx_or, setA_setA, va_up_setA, va_up_up, k_isFallen h hA2 hs2, bI_0, gf, not_true]
      exact k1
    · have L1 : lf (2 * w + p) (f + 1) A = ((lf (2 * w + p) f (momA (2 * w + p) A)).1 + 1, (lf (2 * w + p) f (momA (2 * w + p) A)).2) := by rw [lf, e1, if_neg gf]
      have L2 : fe (2 * w + p) (f + 1) A = setN (2 * w + p) A (2 * A 2) ||| fe (2 * w + p) f (momA (2 * w + p) A) := by rw [fe, e1, if_neg gf]
      rw [L1, L2] at k1 k2
      dsimp only at k1 k2
      rw [← Nat.or_assoc] at k1 k2
      simp (disch := first | assumption | exact md_k h | exact md_k1 h | exact cw0 | exact vin1 h (by omega) | omega | exact sm_c hs | exact sm_w hs | exact sm_p hs | exact sm_pc hs | exact sm_b hs | exact sm_a hs | (simp (disch := first | assumption | omega) only [md_k, md_R0, md_k1, md_n1, md_R1, md_k2, md_n2, md_R5, md_k3, md_n3, md_R6, md_k4, md_n4, md_R7, md_k5, md_n5, md_R8, md_k6, md_n6, md_R9, md_k7, md_n7, md_R21, md_k8, md_n8, md_R25, md_k9, md_n9, md_R26, md_k10, md_n10, md_R27, md_k11, md_n11, md_R28, md_k12, md_n12, md_R29, md_k13, md_n13, md_R32, md_k14, md_n14, md_R33, md_k15, md_n15, md_R34, md_k16, md_n16, md_R36, md_k17, md_n17, md_R41, md_k18, md_n18, md_R42, md_k19, md_n19, md_R43, md_k20, md_n20, vin, cw_nil, cw_int, cw_ref, cw_long, bI_01]; done) | (simp (disch := first | assumption | omega) only [md_k, md_R0, md_k1, md_n1, md_R1, md_k2, md_n2, md_R5, md_k3, md_n3, md_R6, md_k4, md_n4, md_R7, md_k5, md_n5, md_R8, md_k6, md_n6, md_R9, md_k7, md_n7, md_R21, md_k8, md_n8, md_R25, md_k9, md_n9, md_R26, md_k10, md_n10, md_R27, md_k11, md_n11, md_R28, md_k12, md_n12, md_R29, md_k13, md_n13, md_R32, md_k14, md_n14, md_R33, md_k15, md_n15, md_R34, md_k16, md_n16, md_R36, md_k17, md_n17, md_R41, md_k18, md_n18, md_R42, md_k19, md_n19, md_R43, md_k20, md_n20, cw_nil, cw_int, cw_ref, cw_long]; omega) | decide) only [x_279_0, x_279_1, x_279_2, x_279_3, x_279_6, x_279_8, x_279_9, x_279_10, x_279_13, x_279_14, x_279_18, x_279_20, x_279_23, x_279_24, x_279_24r, x_279_25, x_279_28, x_279_29, x_279_30, x_279_31, x_279_34, x_279_35, x_279_38, x_279_39, x_279_40, x_279_43, x_279_46, x_279_48, x_279_49, x_279_52, x_279_56, x_279_59, x_279_60, x_279_61, x_279_64, x_279_65, x_279_67, x_279_68, x_279_69, x_279_70, x_279_73, x_279_74, x_279_75, x_279_78, x_279_79, x_279_80, x_279_81, x_279_83, x_279_84, x_279_85, x_279_86, x_279_89, x_279_90, x_279_91, x_279_94, x_279_95, x_279_96, x_279_97, x_279_98, x_279_99, x_279_102, x_279_103, x_279_106, x_279_108, x_279_109, x_279_110, x_279_111, x_279_112, x_279_113, x_279_114, x_279_116, va_rf_some, cw_nil, cw_int, cw_ref, cw_long, kl_int, kl_ref, kl_null, kl_long, kl_none, Option.toList_some, Option.toList_none, List.cons_append, List.nil_append, List.append_nil, md_k, md_R0, md_k1, md_n1, md_R1, md_k2, md_n2, md_R5, md_k3, md_n3, md_R6, md_k4, md_n4, md_R7, md_k5, md_n5, md_R8, md_k6, md_n6, md_R9, md_k7, md_n7, md_R21, md_k8, md_n8, md_R25, md_k9, md_n9, md_R26, md_k10, md_n10, md_R27, md_k11, md_n11, md_R28, md_k12, md_n12, md_R29, md_k13, md_n13, md_R32, md_k14, md_n14, md_R33, md_k15, md_n15, md_R34, md_k16, md_n16, md_R36, md_k17, md_n17, md_R41, md_k18, md_n18, md_R42, md_k19, md_n19, md_R43, md_k20, md_n20, nI_add, pk_mul, nI_clamp, nI_ltI, nI_leI, nI_eq, eq_false g, if_false, setA_m, va_up_self, k_moment h hA hs ha hO.2.1 hO.2.2.2 hO.2.2.1, nx_or, setA_setA, va_up_setA, va_up_up, k_isFallen h hA2 hs2, bI_0, gf, not_false_eq_true, if_true]
      refine ih (q + 1) (t ||| setN (2 * w + p) A (2 * A 2)) (momA (2 * w + p) A) (by omega) hO2 (by omega) ht2 (fun a b => ?_) (fun a b => ?_)
      · have := k1 a (by omega)
        rw [show q + 1 + (lf (2 * w + p) f (momA (2 * w + p) A)).1 - 1 = q + ((lf (2 * w + p) f (momA (2 * w + p) A)).1 + 1) - 1 by omega]
        exact this
      · refine k2 ?_ (by rw [b])
        rcases a with a | a
        · exact Or.inl a
        · subst a; exact Or.inl gf
end M6
