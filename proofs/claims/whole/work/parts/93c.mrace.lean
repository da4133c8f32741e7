/-! Races: the model. -/
def sgI (l : Nat) (v : Int) : Int := if l % 2 = 0 then v else -v
def wtI (l : Nat) (b : RB) : Int32 := match b with
  | none => nI 1000000
  | some q => iI (sgI l q.1)
def mvL (fa fb l : Nat) : Nat := if l % 2 = 0 then fa else fb
def rcF (b : RB) (v : Int32) : Prop := ∀ q, b = some q → v = nI q.2
theorem sg_next (l : Nat) (v : Int) : sgI (l + 1) v = sgI l (-v) := by
  unfold sgI
  by_cases h : l % 2 = 0
  · rw [if_neg (by omega), if_pos h]
  · rw [if_pos (by omega), if_neg h]; omega
theorem mvL_next (fa fb l : Nat) : mvL fa fb (l + 1) = mvL fb fa l := by
  unfold mvL
  by_cases h : l % 2 = 0
  · rw [if_neg (by omega), if_pos h]
  · rw [if_pos (by omega), if_neg h]
theorem trG_congr {α : Type} {h h2 : α → Nat → α} : ∀ (n t : Nat) (b : α), (∀ b u, t ≤ u → u < t + n → h b u = h2 b u) → trG h n t b = trG h2 n t b
  | 0, _, _, _ => rfl
  | n + 1, t, b, e => by
    show trG h n (t + 1) (h b t) = trG h2 n (t + 1) (h2 b t)
    rw [e b t (by omega) (by omega)]
    exact trG_congr n (t + 1) _ (fun b u h1 h2 => e b u (by omega) (by omega))
noncomputable def rtH (rec : AS → Int) (A : AS) (w : Nat) (b : RB) (t : Nat) : RB := if t < 60 then trH A (rvG rec A w) b t else updR b (-(rec A)) 60
theorem rtH_61 {rec : AS → Int} {A : AS} {w : Nat} : trG (rtH rec A w) 61 0 none = rvB rec A w := by
  rw [show 61 = 60 + 1 from rfl, trG_add 60 1]
  have e : trG (rtH rec A w) 60 0 none = trG (trH A (rvG rec A w)) 60 0 none := trG_congr 60 0 none (fun b u _ h => if_pos (by omega))
  rw [e, trG_60]
  show rtH rec A w _ 60 = _
  exact if_neg (by omega)
def KRv (m : Nat) (I : mI) (A : AS) (l t : Nat) (J : mI) : Prop := KFa m I J ∧ rowA (fun j => J (m + 1) (3648 + 242 * l + j)) A ∧ J (m + 1) (3648 + 242 * l + 5) = I (m + 1) 5 ∧ J (m + 11) l = preI t
section KR
variable {S : mS} {I J : mI} {L : mL} {R : mR} {Q : mQ} {d m fa fb n l : Nat} {A A0 : AS}
theorem KRv.bak {t : Nat} (h : KRv m I A l t J) : rowA (bakI J m (3648 + 242 * l) (m + 1)) A ∧ (∀ j, 242 ≤ j → bakI J m (3648 + 242 * l) (m + 1) j = J (m + 1) j) ∧ bakI J m (3648 + 242 * l) (m + 1) 5 = I (m + 1) 5 := by
  obtain ⟨h1, h2, h3, h4⟩ := h
  refine ⟨fun j q1 q2 => ?_, fun j q => ?_, ?_⟩
  · unfold bakI
    rw [va_up_self]
    unfold va_cpy
    rw [if_pos (by omega)]
    have := h2 j q1 q2
    rw [show 3648 + 242 * l + (j - 0) = 3648 + 242 * l + j by omega]
    exact this
  · unfold bakI
    rw [va_up_self]
    unfold va_cpy
    rw [if_neg (by omega)]
  · unfold bakI
    rw [va_up_self]
    unfold va_cpy
    rw [if_pos (by omega)]
    exact h3
theorem KRv.try_ {t : Nat} (h : KRv m I A l t J) : KRv m I A l (t + 1) (tryJ J m l t) ∧ rowA (tryJ J m l t (m + 1)) A ∧ KFr m l J (tryJ J m l t) := by
  obtain ⟨b1, b2, b3⟩ := h.bak
  obtain ⟨⟨f1, f2, f3⟩, h2, h3, h4⟩ := h
  refine ⟨⟨⟨fun b q1 q2 q3 q4 q5 => by rw [tryJ_o q2 q3, f1 b q1 q2 q3 q4 q5], fun j q1 q2 q3 q4 => by rw [tryJ_o (by omega) (by omega), f2 j q1 q2 q3 q4], fun j q => ?_⟩, fun j q1 q2 => ?_, ?_, ?_⟩, ?_, ?_, ?_⟩
  · rw [tryJ_1]
    by_cases z : j = 5
    · rw [z]; exact b3
    · rw [b2 j (by omega)]; exact f3 j q
  · show tryJ J m l t (m + 1) _ = _
    rw [tryJ_1, b2 _ (by omega)]; exact h2 j q1 q2
  · rw [tryJ_1, b2 _ (by omega)]; exact h3
  · rw [tryJ_11, va_up_self]; unfold preI; rw [if_neg (by omega)]; rfl
  · rw [tryJ_1]; exact b1
  · intro j q1 q2; rw [tryJ_1, b2 _ (by omega)]
  · intro i hi
    rw [tryJ_11, va_up_ne _ _ (by omega), tryJ_o (by omega) (by omega), tryJ_o (by omega) (by omega)]
    exact ⟨rfl, rfl, rfl⟩
theorem KRv.set {t : Nat} {B : AS} {v : Int32} (h : KRv m I A l t J) : KRv m I A l t (setA (va_up J m (va_up (J m) 24 v)) m B) ∧ KFr m l J (setA (va_up J m (va_up (J m) 24 v)) m B) := by
  have e1 : ∀ j, j = 5 ∨ 242 ≤ j → setA (va_up J m (va_up (J m) 24 v)) m B (m + 1) j = J (m + 1) j := fun j hj => by rw [setA_hi hj, va_up_ne _ _ (by omega)]
  have e2 : ∀ b, b ≠ m → b ≠ m + 1 → setA (va_up J m (va_up (J m) 24 v)) m B b = J b := fun b q1 q2 => by rw [setA_o q2, va_up_ne _ _ q1]
  obtain ⟨⟨f1, f2, f3⟩, h2, h3, h4⟩ := h
  refine ⟨⟨⟨fun b q1 q2 q3 q4 q5 => by rw [e2 b q1 q2, f1 b q1 q2 q3 q4 q5], fun j q1 q2 q3 q4 => ?_, fun j q => by rw [e1 j (by omega)]; exact f3 j q⟩, fun j q1 q2 => ?_, ?_, ?_⟩, fun j q1 q2 => by rw [e1 _ (by omega)], fun i hi => ?_⟩
  · rw [setA_o (by omega), va_up_self, va_up_ne _ _ q1]; exact f2 j q1 q2 q3 q4
  · show setA _ m B (m + 1) _ = _
    rw [e1 _ (by omega)]; exact h2 j q1 q2
  · rw [e1 _ (by omega)]; exact h3
  · rw [e2 _ (by omega) (by omega)]; exact h4
  · rw [e2 _ (by omega) (by omega), e2 _ (by omega) (by omega), e2 _ (by omega) (by omega)]; exact ⟨rfl, rfl, rfl⟩
theorem KRv.of {t : Nat} {J2 : mI} (h : KRv m I A l t J) (hf : KFa m I J2) (hr : KFr m (l + 1) J J2) : KRv m I A l t J2 := by
  obtain ⟨h1, h2, h3, h4⟩ := h
  refine ⟨hf, fun j q1 q2 => ?_, ?_, ?_⟩
  · show J2 (m + 1) _ = _
    rw [hr.1 _ (by omega) (by omega)]; exact h2 j q1 q2
  · rw [hr.1 _ (by omega) (by omega)]; exact h3
  · rw [(hr.2 l (by omega)).1]; exact h4
def rnewJ (J : mI) (m l : Nat) : mI := tryI (va_up (va_up J (m + 11) (va_up (J (m + 11)) l (-1))) (m + 13) (va_up (J (m + 13)) l (nI 1000000))) m (3648 + 242 * l)
theorem rnew_lv {B : AS} (hl : l < 3) (hf : KFa m I J) (hA : rowA (J (m + 1)) B) : KRv m I B l 0 (rnewJ J m l) ∧ KFr m l J (rnewJ J m l) ∧ (∀ j, rnewJ J m l m j = J m j) ∧ rnewJ J m l (m + 13) l = wtI l none := by
  obtain ⟨f1, f2, f3⟩ := hf
  have o : ∀ b, b ≠ m + 1 → b ≠ m + 11 → b ≠ m + 13 → rnewJ J m l b = J b := fun b q1 q2 q3 => by unfold rnewJ; rw [try_o q1, va_up_ne _ _ q3, va_up_ne _ _ q2]
  have o1 : ∀ j, ¬ (3648 + 242 * l ≤ j ∧ j < 3648 + 242 * l + 242) → rnewJ J m l (m + 1) j = J (m + 1) j := by
    intro j hj
    unfold rnewJ tryI
    rw [va_up_self]
    unfold va_cpy
    rw [if_neg hj, va_up_ne _ _ (by omega), va_up_ne _ _ (by omega)]
  have o2 : ∀ j, j < 242 → rnewJ J m l (m + 1) (3648 + 242 * l + j) = J (m + 1) j := by
    intro j hj
    unfold rnewJ tryI
    rw [va_up_self]
    unfold va_cpy
    rw [if_pos (by omega), va_up_ne _ _ (by omega), va_up_ne _ _ (by omega), show 0 + (3648 + 242 * l + j - (3648 + 242 * l)) = j by omega]
  have o11 : rnewJ J m l (m + 11) = va_up (J (m + 11)) l (-1) := by unfold rnewJ; rw [try_o (by omega), va_up_ne _ _ (by omega), va_up_self]
  have o13 : rnewJ J m l (m + 13) = va_up (J (m + 13)) l (nI 1000000) := by unfold rnewJ; rw [try_o (by omega), va_up_self]
  refine ⟨⟨⟨fun b q1 q2 q3 q4 q5 => by rw [o b q2 q3 q5, f1 b q1 q2 q3 q4 q5], fun j q1 q2 q3 q4 => by rw [o m (by omega) (by omega) (by omega), f2 j q1 q2 q3 q4], fun j q => by rw [o1 j (by omega)]; exact f3 j q⟩, fun j q1 q2 => ?_, ?_, ?_⟩, ⟨fun j q1 q2 => o1 j (by omega), fun i hi => ?_⟩, fun j => by rw [o m (by omega) (by omega) (by omega)], ?_⟩
  · show rnewJ J m l (m + 1) _ = _
    rw [o2 j q1]; exact hA j q1 q2
  · rw [o2 5 (by omega)]; exact f3 5 (Or.inl rfl)
  · rw [o11, va_up_self]; rfl
  · rw [o11, o13, va_up_ne _ _ (by omega), va_up_ne _ _ (by omega), o _ (by omega) (by omega) (by omega)]; exact ⟨rfl, rfl, rfl⟩
  · rw [o13, va_up_self]; rfl
/-- what a level comes to is weighed -/
theorem k_weighs {X : Int} {b : RB} {t : Nat} (h : MdL S R m) (hl : l < 4) (hb : BDr b) (h1 : -102 ≤ X) (h2 : X ≤ 102) (h13 : J (m + 13) l = wtI l b) (hrc : l = 0 → J (m + 11) 0 = nI t ∧ rcF b (J m 35))
    (go : ∀ J', (∀ b, b ≠ m → b ≠ m + 13 → J' b = J b) → (∀ j, j ≠ 35 → J' m j = J m j) → (∀ i, i ≠ l → J' (m + 13) i = J (m + 13) i) → J' (m + 13) l = wtI l (updR b X t) → (l ≠ 0 → J' m 35 = J m 35) → (l = 0 → rcF (updR b X t) (J' m 35)) → Q none S J' L R) :
    CA d 337 [.ref m, .int (nI l), .int (iI (sgI l X))] S J L R Q := by
  have kt : kd S (m + 13) = 100 := md_k13 h
  have v13 : vp_in (nI l) (ln S (m + 13)) := by rw [md_n13 h]; exact vp_in_nI (by omega) (by decide)
  have sb : -102 ≤ sgI l X ∧ sgI l X ≤ 102 := by unfold sgI; split <;> omega
  -- it is taken
  have NEW : updR b X t = some (X, t) → WP (d, 0, 0) 337 42 [some (.ref m), some (.int (nI l)), some (.int (iI (sgI l X)))] [] S J L R Q := by
    intro hu
    rw [hu] at go
    by_cases hl0 : l = 0
    · subst hl0
      have e11 : J (m + 11) 0 = nI t := (hrc rfl).1
      have e11' : ∀ r, va_up J (m + 13) r (m + 11) = J (m + 11) := fun r => va_up_ne _ _ (by omega)
      have em : ∀ r, va_up J (m + 13) r m = J m := fun r => va_up_ne _ _ (by omega)
      have h9 := go (va_up (va_up J (m + 13) (va_up (J (m + 13)) 0 (iI (sgI 0 X)))) m (va_up (J m) 35 (nI t))) (fun b q1 q2 => by rw [va_up_ne _ _ q1, va_up_ne _ _ q2]) (fun j q => by rw [va_up_self, va_up_ne _ _ q]) (fun i q => by rw [va_up_ne _ _ (by omega), va_up_self, va_up_ne _ _ q]) (by rw [va_up_ne _ _ (by omega), va_up_self, va_up_self]; rfl) (fun q => absurd rfl q) (fun _ q hq => by cases hq; rw [va_up_self, va_up_self])
      simp (disch := first | assumption | exact md_k h | exact md_k1 h | exact cw0 | exact vin1 h (by omega) | omega | (simp (disch := first | assumption | omega) only [md_k, md_R0, md_k1, md_n1, md_R1, md_k2, md_n2, md_R5, md_k3, md_n3, md_R6, md_k4, md_n4, md_R7, md_k5, md_n5, md_R8, md_k6, md_n6, md_R9, md_k7, md_n7, md_R21, md_k8, md_n8, md_R25, md_k9, md_n9, md_R26, md_k10, md_n10, md_R27, md_k11, md_n11, md_R28, md_k12, md_n12, md_R29, md_k13, md_n13, md_R32, md_k14, md_n14, md_R33, md_k15, md_n15, md_R34, md_k16, md_n16, md_R36, md_k17, md_n17, md_R41, md_k18, md_n18, md_R42, md_k19, md_n19, md_R43, md_k20, md_n20, vin, cw_nil, cw_int, cw_ref, cw_long, bI_01]; done) | (simp (disch := first | assumption | omega) only [md_k, md_R0, md_k1, md_n1, md_R1, md_k2, md_n2, md_R5, md_k3, md_n3, md_R6, md_k4, md_n4, md_R7, md_k5, md_n5, md_R8, md_k6, md_n6, md_R9, md_k7, md_n7, md_R21, md_k8, md_n8, md_R25, md_k9, md_n9, md_R26, md_k10, md_n10, md_R27, md_k11, md_n11, md_R28, md_k12, md_n12, md_R29, md_k13, md_n13, md_R32, md_k14, md_n14, md_R33, md_k15, md_n15, md_R34, md_k16, md_n16, md_R36, md_k17, md_n17, md_R41, md_k18, md_n18, md_R42, md_k19, md_n19, md_R43, md_k20, md_n20, cw_nil, cw_int, cw_ref, cw_long]; omega) | decide) only [x_337_0, x_337_1, x_337_4, x_337_5, x_337_6, x_337_9, x_337_12, x_337_13, x_337_14, x_337_15, x_337_18, x_337_19, x_337_20, x_337_23, x_337_24, x_337_25, x_337_28, x_337_31, x_337_32, x_337_33, x_337_36, x_337_37, x_337_38, x_337_41, x_337_42, x_337_43, x_337_46, x_337_47, x_337_48, x_337_49, x_337_50, x_337_53, x_337_54, x_337_55, x_337_58, x_337_59, x_337_60, x_337_63, ↓reduceIte, va_rf_some, cw_nil, cw_int, cw_ref, cw_long, kl_int, kl_ref, kl_null, kl_long, kl_none, Option.toList_some, Option.toList_none, List.cons_append, List.nil_append, List.append_nil, md_k, md_R0, md_k1, md_n1, md_R1, md_k2, md_n2, md_R5, md_k3, md_n3, md_R6, md_k4, md_n4, md_R7, md_k5, md_n5, md_R8, md_k6, md_n6, md_R9, md_k7, md_n7, md_R21, md_k8, md_n8, md_R25, md_k9, md_n9, md_R26, md_k10, md_n10, md_R27, md_k11, md_n11, md_R28, md_k12, md_n12, md_R29, md_k13, md_n13, md_R32, md_k14, md_n14, md_R33, md_k15, md_n15, md_R34, md_k16, md_n16, md_R36, md_k17, md_n17, md_R41, md_k18, md_n18, md_R42, md_k19, md_n19, md_R43, md_k20, md_n20, nI_add, pk_mul, nI_clamp, nI_ltI, nI_leI, nI_eq, e11, e11', em, Nat.reduceLT, Nat.reduceLeDiff, Nat.reduceEqDiff, Nat.reduceAdd, Nat.reduceMul, Nat.reduceSub, if_true, if_false, not_true, not_false_eq_true, decide_true, decide_false, Nat.lt_irrefl, Nat.le_refl, Nat.not_lt_zero, Nat.zero_le]
      exact h9
    · have h9 := go (va_up J (m + 13) (va_up (J (m + 13)) l (iI (sgI l X)))) (fun b q1 q2 => by rw [va_up_ne _ _ q2]) (fun j q => by rw [va_up_ne _ _ (by omega)]) (fun i q => by rw [va_up_self, va_up_ne _ _ q]) (by rw [va_up_self, va_up_self]; rfl) (fun _ => by rw [va_up_ne _ _ (by omega)]) (fun q => absurd q hl0)
      simp (disch := first | assumption | exact md_k h | exact md_k1 h | exact cw0 | exact vin1 h (by omega) | omega | (simp (disch := first | assumption | omega) only [md_k, md_R0, md_k1, md_n1, md_R1, md_k2, md_n2, md_R5, md_k3, md_n3, md_R6, md_k4, md_n4, md_R7, md_k5, md_n5, md_R8, md_k6, md_n6, md_R9, md_k7, md_n7, md_R21, md_k8, md_n8, md_R25, md_k9, md_n9, md_R26, md_k10, md_n10, md_R27, md_k11, md_n11, md_R28, md_k12, md_n12, md_R29, md_k13, md_n13, md_R32, md_k14, md_n14, md_R33, md_k15, md_n15, md_R34, md_k16, md_n16, md_R36, md_k17, md_n17, md_R41, md_k18, md_n18, md_R42, md_k19, md_n19, md_R43, md_k20, md_n20, vin, cw_nil, cw_int, cw_ref, cw_long, bI_01]; done) | (simp (disch := first | assumption | omega) only [md_k, md_R0, md_k1, md_n1, md_R1, md_k2, md_n2, md_R5, md_k3, md_n3, md_R6, md_k4, md_n4, md_R7, md_k5, md_n5, md_R8, md_k6, md_n6, md_R9, md_k7, md_n7, md_R21, md_k8, md_n8, md_R25, md_k9, md_n9, md_R26, md_k10, md_n10, md_R27, md_k11, md_n11, md_R28, md_k12, md_n12, md_R29, md_k13, md_n13, md_R32, md_k14, md_n14, md_R33, md_k15, md_n15, md_R34, md_k16, md_n16, md_R36, md_k17, md_n17, md_R41, md_k18, md_n18, md_R42, md_k19, md_n19, md_R43, md_k20, md_n20, cw_nil, cw_int, cw_ref, cw_long]; omega) | decide) only [x_337_0, x_337_1, x_337_4, x_337_5, x_337_6, x_337_9, x_337_12, x_337_13, x_337_14, x_337_15, x_337_18, x_337_19, x_337_20, x_337_23, x_337_24, x_337_25, x_337_28, x_337_31, x_337_32, x_337_33, x_337_36, x_337_37, x_337_38, x_337_41, x_337_42, x_337_43, x_337_46, x_337_47, x_337_48, x_337_49, x_337_50, x_337_53, x_337_54, x_337_55, x_337_58, x_337_59, x_337_60, x_337_63, ↓reduceIte, va_rf_some, cw_nil, cw_int, cw_ref, cw_long, kl_int, kl_ref, kl_null, kl_long, kl_none, Option.toList_some, Option.toList_none, List.cons_append, List.nil_append, List.append_nil, md_k, md_R0, md_k1, md_n1, md_R1, md_k2, md_n2, md_R5, md_k3, md_n3, md_R6, md_k4, md_n4, md_R7, md_k5, md_n5, md_R8, md_k6, md_n6, md_R9, md_k7, md_n7, md_R21, md_k8, md_n8, md_R25, md_k9, md_n9, md_R26, md_k10, md_n10, md_R27, md_k11, md_n11, md_R28, md_k12, md_n12, md_R29, md_k13, md_n13, md_R32, md_k14, md_n14, md_R33, md_k15, md_n15, md_R34, md_k16, md_n16, md_R36, md_k17, md_n17, md_R41, md_k18, md_n18, md_R42, md_k19, md_n19, md_R43, md_k20, md_n20, nI_add, pk_mul, nI_clamp, nI_ltI, nI_leI, nI_eq, eq_false hl0, Nat.reduceLT, Nat.reduceLeDiff, Nat.reduceEqDiff, Nat.reduceAdd, Nat.reduceMul, Nat.reduceSub, if_true, if_false, not_true, not_false_eq_true, decide_true, decide_false, Nat.lt_irrefl, Nat.le_refl, Nat.not_lt_zero, Nat.zero_le]
      exact h9
  have OLD : updR b X t = b → Q none S J L R := by
    intro hu
    rw [hu] at go
    exact go J (fun _ _ _ => rfl) (fun _ _ => rfl) (fun _ _ => rfl) h13 (fun _ => rfl) (fun q => (hrc q).2)
  have n2 : ¬ nI 2 = 0 := by decide
  rw [ca_337]
  cases b with
  | none =>
    have h13' : J (m + 13) l = nI 1000000 := h13
    simp (disch := first | assumption | exact md_k h | exact md_k1 h | exact cw0 | exact vin1 h (by omega) | omega | (simp (disch := first | assumption | omega) only [md_k, md_R0, md_k1, md_n1, md_R1, md_k2, md_n2, md_R5, md_k3, md_n3, md_R6, md_k4, md_n4, md_R7, md_k5, md_n5, md_R8, md_k6, md_n6, md_R9, md_k7, md_n7, md_R21, md_k8, md_n8, md_R25, md_k9, md_n9, md_R26, md_k10, md_n10, md_R27, md_k11, md_n11, md_R28, md_k12, md_n12, md_R29, md_k13, md_n13, md_R32, md_k14, md_n14, md_R33, md_k15, md_n15, md_R34, md_k16, md_n16, md_R36, md_k17, md_n17, md_R41, md_k18, md_n18, md_R42, md_k19, md_n19, md_R43, md_k20, md_n20, vin, cw_nil, cw_int, cw_ref, cw_long, bI_01]; done) | (simp (disch := first | assumption | omega) only [md_k, md_R0, md_k1, md_n1, md_R1, md_k2, md_n2, md_R5, md_k3, md_n3, md_R6, md_k4, md_n4, md_R7, md_k5, md_n5, md_R8, md_k6, md_n6, md_R9, md_k7, md_n7, md_R21, md_k8, md_n8, md_R25, md_k9, md_n9, md_R26, md_k10, md_n10, md_R27, md_k11, md_n11, md_R28, md_k12, md_n12, md_R29, md_k13, md_n13, md_R32, md_k14, md_n14, md_R33, md_k15, md_n15, md_R34, md_k16, md_n16, md_R36, md_k17, md_n17, md_R41, md_k18, md_n18, md_R42, md_k19, md_n19, md_R43, md_k20, md_n20, cw_nil, cw_int, cw_ref, cw_long]; omega) | decide) only [x_337_0, x_337_1, x_337_4, x_337_5, x_337_6, x_337_9, x_337_12, x_337_13, x_337_14, x_337_15, x_337_18, x_337_19, x_337_20, x_337_23, x_337_24, x_337_25, x_337_28, x_337_31, x_337_32, x_337_33, x_337_36, x_337_37, x_337_38, x_337_41, x_337_43, x_337_46, x_337_47, x_337_48, x_337_49, x_337_50, x_337_53, x_337_54, x_337_55, x_337_58, x_337_59, x_337_60, x_337_63, ↓reduceIte, va_rf_some, cw_nil, cw_int, cw_ref, cw_long, kl_int, kl_ref, kl_null, kl_long, kl_none, Option.toList_some, Option.toList_none, List.cons_append, List.nil_append, List.append_nil, md_k, md_R0, md_k1, md_n1, md_R1, md_k2, md_n2, md_R5, md_k3, md_n3, md_R6, md_k4, md_n4, md_R7, md_k5, md_n5, md_R8, md_k6, md_n6, md_R9, md_k7, md_n7, md_R21, md_k8, md_n8, md_R25, md_k9, md_n9, md_R26, md_k10, md_n10, md_R27, md_k11, md_n11, md_R28, md_k12, md_n12, md_R29, md_k13, md_n13, md_R32, md_k14, md_n14, md_R33, md_k15, md_n15, md_R34, md_k16, md_n16, md_R36, md_k17, md_n17, md_R41, md_k18, md_n18, md_R42, md_k19, md_n19, md_R43, md_k20, md_n20, nI_add, pk_mul, nI_clamp, nI_ltI, nI_leI, nI_eq, h13', Nat.reduceLT, Nat.reduceLeDiff, Nat.reduceEqDiff, Nat.reduceAdd, Nat.reduceMul, Nat.reduceSub, if_true, if_false, not_true, not_false_eq_true, decide_true, decide_false, Nat.lt_irrefl, Nat.le_refl, Nat.not_lt_zero, Nat.zero_le]
    exact NEW rfl
  | some q =>
    have bq := hb q rfl
    have sq : -102 ≤ sgI l q.1 ∧ sgI l q.1 ≤ 102 := by unfold sgI; split <;> omega
    have h13' : J (m + 13) l = iI (sgI l q.1) := h13
    have nf : ¬ iI (sgI l q.1) = nI 1000000 := by rw [iI_p6, iI_eq (by omega) (by omega) (by omega) (by omega)]; omega
    by_cases ev : l % 2 = 0
    · have e1 : sgI l X = X := if_pos ev
      have e2 : sgI l q.1 = q.1 := if_pos ev
      rw [e1] at NEW ⊢
      rw [e2] at h13' nf
      by_cases y : X ≤ q.1
      · have y' : ¬ q.1 < X := by omega
        have y2 : ¬ iI q.1 < iI X := by rw [iI_lt (by omega) (by omega) (by omega) (by omega)]; exact y'
        simp (disch := first | assumption | exact md_k h | exact md_k1 h | exact cw0 | exact vin1 h (by omega) | omega | (simp (disch := first | assumption | omega) only [md_k, md_R0, md_k1, md_n1, md_R1, md_k2, md_n2, md_R5, md_k3, md_n3, md_R6, md_k4, md_n4, md_R7, md_k5, md_n5, md_R8, md_k6, md_n6, md_R9, md_k7, md_n7, md_R21, md_k8, md_n8, md_R25, md_k9, md_n9, md_R26, md_k10, md_n10, md_R27, md_k11, md_n11, md_R28, md_k12, md_n12, md_R29, md_k13, md_n13, md_R32, md_k14, md_n14, md_R33, md_k15, md_n15, md_R34, md_k16, md_n16, md_R36, md_k17, md_n17, md_R41, md_k18, md_n18, md_R42, md_k19, md_n19, md_R43, md_k20, md_n20, vin, cw_nil, cw_int, cw_ref, cw_long, bI_01]; done) | (simp (disch := first | assumption | omega) only [md_k, md_R0, md_k1, md_n1, md_R1, md_k2, md_n2, md_R5, md_k3, md_n3, md_R6, md_k4, md_n4, md_R7, md_k5, md_n5, md_R8, md_k6, md_n6, md_R9, md_k7, md_n7, md_R21, md_k8, md_n8, md_R25, md_k9, md_n9, md_R26, md_k10, md_n10, md_R27, md_k11, md_n11, md_R28, md_k12, md_n12, md_R29, md_k13, md_n13, md_R32, md_k14, md_n14, md_R33, md_k15, md_n15, md_R34, md_k16, md_n16, md_R36, md_k17, md_n17, md_R41, md_k18, md_n18, md_R42, md_k19, md_n19, md_R43, md_k20, md_n20, cw_nil, cw_int, cw_ref, cw_long]; omega) | decide) only [x_337_0, x_337_1, x_337_4, x_337_5, x_337_6, x_337_9, x_337_12, x_337_13, x_337_14, x_337_15, x_337_18, x_337_19, x_337_20, x_337_23, x_337_24, x_337_25, x_337_28, x_337_31, x_337_32, x_337_33, x_337_36, x_337_37, x_337_38, x_337_41, x_337_43, x_337_46, x_337_47, x_337_48, x_337_49, x_337_50, x_337_53, x_337_54, x_337_55, x_337_58, x_337_59, x_337_60, x_337_63, ↓reduceIte, va_rf_some, cw_nil, cw_int, cw_ref, cw_long, kl_int, kl_ref, kl_null, kl_long, kl_none, Option.toList_some, Option.toList_none, List.cons_append, List.nil_append, List.append_nil, md_k, md_R0, md_k1, md_n1, md_R1, md_k2, md_n2, md_R5, md_k3, md_n3, md_R6, md_k4, md_n4, md_R7, md_k5, md_n5, md_R8, md_k6, md_n6, md_R9, md_k7, md_n7, md_R21, md_k8, md_n8, md_R25, md_k9, md_n9, md_R26, md_k10, md_n10, md_R27, md_k11, md_n11, md_R28, md_k12, md_n12, md_R29, md_k13, md_n13, md_R32, md_k14, md_n14, md_R33, md_k15, md_n15, md_R34, md_k16, md_n16, md_R36, md_k17, md_n17, md_R41, md_k18, md_n18, md_R42, md_k19, md_n19, md_R43, md_k20, md_n20, nI_add, pk_mul, nI_clamp, nI_ltI, nI_leI, nI_eq, h13', eq_false nf, rm_nI, ev, eq_false y2, Nat.reduceLT, Nat.reduceLeDiff, Nat.reduceEqDiff, Nat.reduceAdd, Nat.reduceMul, Nat.reduceSub, if_true, if_false, not_true, not_false_eq_true, decide_true, decide_false, Nat.lt_irrefl, Nat.le_refl, Nat.not_lt_zero, Nat.zero_le]
        exact OLD (if_pos y)
      · have y2 : iI q.1 < iI X := by rw [iI_lt (by omega) (by omega) (by omega) (by omega)]; omega
        simp (disch := first | assumption | exact md_k h | exact md_k1 h | exact cw0 | exact vin1 h (by omega) | omega | (simp (disch := first | assumption | omega) only [md_k, md_R0, md_k1, md_n1, md_R1, md_k2, md_n2, md_R5, md_k3, md_n3, md_R6, md_k4, md_n4, md_R7, md_k5, md_n5, md_R8, md_k6, md_n6, md_R9, md_k7, md_n7, md_R21, md_k8, md_n8, md_R25, md_k9, md_n9, md_R26, md_k10, md_n10, md_R27, md_k11, md_n11, md_R28, md_k12, md_n12, md_R29, md_k13, md_n13, md_R32, md_k14, md_n14, md_R33, md_k15, md_n15, md_R34, md_k16, md_n16, md_R36, md_k17, md_n17, md_R41, md_k18, md_n18, md_R42, md_k19, md_n19, md_R43, md_k20, md_n20, vin, cw_nil, cw_int, cw_ref, cw_long, bI_01]; done) | (simp (disch := first | assumption | omega) only [md_k, md_R0, md_k1, md_n1, md_R1, md_k2, md_n2, md_R5, md_k3, md_n3, md_R6, md_k4, md_n4, md_R7, md_k5, md_n5, md_R8, md_k6, md_n6, md_R9, md_k7, md_n7, md_R21, md_k8, md_n8, md_R25, md_k9, md_n9, md_R26, md_k10, md_n10, md_R27, md_k11, md_n11, md_R28, md_k12, md_n12, md_R29, md_k13, md_n13, md_R32, md_k14, md_n14, md_R33, md_k15, md_n15, md_R34, md_k16, md_n16, md_R36, md_k17, md_n17, md_R41, md_k18, md_n18, md_R42, md_k19, md_n19, md_R43, md_k20, md_n20, cw_nil, cw_int, cw_ref, cw_long]; omega) | decide) only [x_337_0, x_337_1, x_337_4, x_337_5, x_337_6, x_337_9, x_337_12, x_337_13, x_337_14, x_337_15, x_337_18, x_337_19, x_337_20, x_337_23, x_337_24, x_337_25, x_337_28, x_337_31, x_337_32, x_337_33, x_337_36, x_337_37, x_337_38, x_337_41, x_337_43, x_337_46, x_337_47, x_337_48, x_337_49, x_337_50, x_337_53, x_337_54, x_337_55, x_337_58, x_337_59, x_337_60, x_337_63, ↓reduceIte, va_rf_some, cw_nil, cw_int, cw_ref, cw_long, kl_int, kl_ref, kl_null, kl_long, kl_none, Option.toList_some, Option.toList_none, List.cons_append, List.nil_append, List.append_nil, md_k, md_R0, md_k1, md_n1, md_R1, md_k2, md_n2, md_R5, md_k3, md_n3, md_R6, md_k4, md_n4, md_R7, md_k5, md_n5, md_R8, md_k6, md_n6, md_R9, md_k7, md_n7, md_R21, md_k8, md_n8, md_R25, md_k9, md_n9, md_R26, md_k10, md_n10, md_R27, md_k11, md_n11, md_R28, md_k12, md_n12, md_R29, md_k13, md_n13, md_R32, md_k14, md_n14, md_R33, md_k15, md_n15, md_R34, md_k16, md_n16, md_R36, md_k17, md_n17, md_R41, md_k18, md_n18, md_R42, md_k19, md_n19, md_R43, md_k20, md_n20, nI_add, pk_mul, nI_clamp, nI_ltI, nI_leI, nI_eq, h13', eq_false nf, rm_nI, ev, eq_true y2, Nat.reduceLT, Nat.reduceLeDiff, Nat.reduceEqDiff, Nat.reduceAdd, Nat.reduceMul, Nat.reduceSub, if_true, if_false, not_true, not_false_eq_true, decide_true, decide_false, Nat.lt_irrefl, Nat.le_refl, Nat.not_lt_zero, Nat.zero_le]
        exact NEW (if_neg y)
    · have e1 : sgI l X = -X := if_neg ev
      have e2 : sgI l q.1 = -q.1 := if_neg ev
      rw [e1] at NEW ⊢
      rw [e2] at h13' nf
      by_cases y : X ≤ q.1
      · have y2 : ¬ iI (-X) < iI (-q.1) := by rw [iI_lt (by omega) (by omega) (by omega) (by omega)]; omega
        simp (disch := first | assumption | exact md_k h | exact md_k1 h | exact cw0 | exact vin1 h (by omega) | omega | (simp (disch := first | assumption | omega) only [md_k, md_R0, md_k1, md_n1, md_R1, md_k2, md_n2, md_R5, md_k3, md_n3, md_R6, md_k4, md_n4, md_R7, md_k5, md_n5, md_R8, md_k6, md_n6, md_R9, md_k7, md_n7, md_R21, md_k8, md_n8, md_R25, md_k9, md_n9, md_R26, md_k10, md_n10, md_R27, md_k11, md_n11, md_R28, md_k12, md_n12, md_R29, md_k13, md_n13, md_R32, md_k14, md_n14, md_R33, md_k15, md_n15, md_R34, md_k16, md_n16, md_R36, md_k17, md_n17, md_R41, md_k18, md_n18, md_R42, md_k19, md_n19, md_R43, md_k20, md_n20, vin, cw_nil, cw_int, cw_ref, cw_long, bI_01]; done) | (simp (disch := first | assumption | omega) only [md_k, md_R0, md_k1, md_n1, md_R1, md_k2, md_n2, md_R5, md_k3, md_n3, md_R6, md_k4, md_n4, md_R7, md_k5, md_n5, md_R8, md_k6, md_n6, md_R9, md_k7, md_n7, md_R21, md_k8, md_n8, md_R25, md_k9, md_n9, md_R26, md_k10, md_n10, md_R27, md_k11, md_n11, md_R28, md_k12, md_n12, md_R29, md_k13, md_n13, md_R32, md_k14, md_n14, md_R33, md_k15, md_n15, md_R34, md_k16, md_n16, md_R36, md_k17, md_n17, md_R41, md_k18, md_n18, md_R42, md_k19, md_n19, md_R43, md_k20, md_n20, cw_nil, cw_int, cw_ref, cw_long]; omega) | decide) only [x_337_0, x_337_1, x_337_4, x_337_5, x_337_6, x_337_9, x_337_12, x_337_13, x_337_14, x_337_15, x_337_18, x_337_19, x_337_20, x_337_23, x_337_24, x_337_25, x_337_28, x_337_31, x_337_32, x_337_33, x_337_36, x_337_37, x_337_38, x_337_41, x_337_43, x_337_46, x_337_47, x_337_48, x_337_49, x_337_50, x_337_53, x_337_54, x_337_55, x_337_58, x_337_59, x_337_60, x_337_63, ↓reduceIte, va_rf_some, cw_nil, cw_int, cw_ref, cw_long, kl_int, kl_ref, kl_null, kl_long, kl_none, Option.toList_some, Option.toList_none, List.cons_append, List.nil_append, List.append_nil, md_k, md_R0, md_k1, md_n1, md_R1, md_k2, md_n2, md_R5, md_k3, md_n3, md_R6, md_k4, md_n4, md_R7, md_k5, md_n5, md_R8, md_k6, md_n6, md_R9, md_k7, md_n7, md_R21, md_k8, md_n8, md_R25, md_k9, md_n9, md_R26, md_k10, md_n10, md_R27, md_k11, md_n11, md_R28, md_k12, md_n12, md_R29, md_k13, md_n13, md_R32, md_k14, md_n14, md_R33, md_k15, md_n15, md_R34, md_k16, md_n16, md_R36, md_k17, md_n17, md_R41, md_k18, md_n18, md_R42, md_k19, md_n19, md_R43, md_k20, md_n20, nI_add, pk_mul, nI_clamp, nI_ltI, nI_leI, nI_eq, h13', eq_false nf, rm_nI, eq_false ev, eq_false y2, Nat.reduceLT, Nat.reduceLeDiff, Nat.reduceEqDiff, Nat.reduceAdd, Nat.reduceMul, Nat.reduceSub, if_true, if_false, not_true, not_false_eq_true, decide_true, decide_false, Nat.lt_irrefl, Nat.le_refl, Nat.not_lt_zero, Nat.zero_le]
        exact OLD (if_pos y)
      · have y2 : iI (-X) < iI (-q.1) := by rw [iI_lt (by omega) (by omega) (by omega) (by omega)]; omega
        simp (disch := first | assumption | exact md_k h | exact md_k1 h | exact cw0 | exact vin1 h (by omega) | omega | (simp (disch := first | assumption | omega) only [md_k, md_R0, md_k1, md_n1, md_R1, md_k2, md_n2, md_R5, md_k3, md_n3, md_R6, md_k4, md_n4, md_R7, md_k5, md_n5, md_R8, md_k6, md_n6, md_R9, md_k7, md_n7, md_R21, md_k8, md_n8, md_R25, md_k9, md_n9, md_R26, md_k10, md_n10, md_R27, md_k11, md_n11, md_R28, md_k12, md_n12, md_R29, md_k13, md_n13, md_R32, md_k14, md_n14, md_R33, md_k15, md_n15, md_R34, md_k16, md_n16, md_R36, md_k17, md_n17, md_R41, md_k18, md_n18, md_R42, md_k19, md_n19, md_R43, md_k20, md_n20, vin, cw_nil, cw_int, cw_ref, cw_long, bI_01]; done) | (simp (disch := first | assumption | omega) only [md_k, md_R0, md_k1, md_n1, md_R1, md_k2, md_n2, md_R5, md_k3, md_n3, md_R6, md_k4, md_n4, md_R7, md_k5, md_n5, md_R8, md_k6, md_n6, md_R9, md_k7, md_n7, md_R21, md_k8, md_n8, md_R25, md_k9, md_n9, md_R26, md_k10, md_n10, md_R27, md_k11, md_n11, md_R28, md_k12, md_n12, md_R29, md_k13, md_n13, md_R32, md_k14, md_n14, md_R33, md_k15, md_n15, md_R34, md_k16, md_n16, md_R36, md_k17, md_n17, md_R41, md_k18, md_n18, md_R42, md_k19, md_n19, md_R43, md_k20, md_n20, cw_nil, cw_int, cw_ref, cw_long]; omega) | decide) only [x_337_0, x_337_1, x_337_4, x_337_5, x_337_6, x_337_9, x_337_12, x_337_13, x_337_14, x_337_15, x_337_18, x_337_19, x_337_20, x_337_23, x_337_24, x_337_25, x_337_28, x_337_31, x_337_32, x_337_33, x_337_36, x_337_37, x_337_38, x_337_41, x_337_43, x_337_46, x_337_47, x_337_48, x_337_49, x_337_50, x_337_53, x_337_54, x_337_55, x_337_58, x_337_59, x_337_60, x_337_63, ↓reduceIte, va_rf_some, cw_nil, cw_int, cw_ref, cw_long, kl_int, kl_ref, kl_null, kl_long, kl_none, Option.toList_some, Option.toList_none, List.cons_append, List.nil_append, List.append_nil, md_k, md_R0, md_k1, md_n1, md_R1, md_k2, md_n2, md_R5, md_k3, md_n3, md_R6, md_k4, md_n4, md_R7, md_k5, md_n5, md_R8, md_k6, md_n6, md_R9, md_k7, md_n7, md_R21, md_k8, md_n8, md_R25, md_k9, md_n9, md_R26, md_k10, md_n10, md_R27, md_k11, md_n11, md_R28, md_k12, md_n12, md_R29, md_k13, md_n13, md_R32, md_k14, md_n14, md_R33, md_k15, md_n15, md_R34, md_k16, md_n16, md_R36, md_k17, md_n17, md_R41, md_k18, md_n18, md_R42, md_k19, md_n19, md_R43, md_k20, md_n20, nI_add, pk_mul, nI_clamp, nI_ltI, nI_leI, nI_eq, h13', eq_false nf, rm_nI, eq_false ev, eq_true y2, Nat.reduceLT, Nat.reduceLeDiff, Nat.reduceEqDiff, Nat.reduceAdd, Nat.reduceMul, Nat.reduceSub, if_true, if_false, not_true, not_false_eq_true, decide_true, decide_false, Nat.lt_irrefl, Nat.le_refl, Nat.not_lt_zero, Nat.zero_le]
        exact NEW (if_neg y)
/-- the tables of ways -/
def tabW (A0 : AS) (w : Nat) (f : Nat → Int32) : Prop := ∃ D : Nat → Nat, (∀ u, u < 900 → f u = nI (D u)) ∧ ∀ u, u < 900 → (D u = FARN ∧ ∀ n, ¬ Rch (EW A0 (wI A0 w 1) 99) (31 * (wnt A0 w)) n u) ∨ (D u < FARN ∧ LD (EW A0 (wI A0 w 1) 99) (31 * (wnt A0 w)) u (D u))
theorem way40 {k w : Nat} (hG : GK k A) (hw : w < A 2) : wayW A w ≤ 40 := by
  have h30 := hG.1.pcl30
  have hn := hG.1.n
  have p0 := h30 w 0 (by omega) (by omega)
  have p1 := h30 w 1 (by omega) (by omega)
  have hr := hG.1.re w hw
  have f0 : far (pcl A w 0) (wnt A w) < 30 := by
    have t := hG.1.to w hw
    have := hG.1.w0
    have := hG.1.w1
    have w30 : wnt A w < 30 := by unfold wnt; omega
    unfold far; omega
  unfold wayW wayF
  split
  · omega
  · have m9 : min (far (pcl A w 0) (wnt A w)) (far (pcl A w 1) (wnt A w)) < 30 := by omega
    generalize min (far (pcl A w 0) (wnt A w)) (far (pcl A w 1) (wnt A w)) = mm at *
    rcases (by omega : wI A w 1 = 1 ∨ wI A w 1 = 2 ∨ wI A w 1 = 3) with q | q | q <;> rw [q] <;> omega
theorem tab_way {k w : Nat} {f : Nat → Int32} (hT : tabW A0 w f) (hW0 : WFA A0) (hG : GK k A) (hkl : ∀ j, keepL j → A j = A0 j) (hw : w < A0 2) : 30 * pcl A w 0 + pcl A w 1 < 900 ∧ f (30 * pcl A w 0 + pcl A w 1) = nI (wayW A w) := by
  obtain ⟨D, d1, d2⟩ := hT
  have e0 := hkl 0 (Or.inl (by omega))
  have e1 := hkl 1 (Or.inl (by omega))
  have e2 := hkl 2 (Or.inl (by omega))
  have w1 : wI A w 1 = wI A0 w 1 := hkl _ (kL_w (by omega))
  have w4 : wI A w 4 = wI A0 w 4 := hkl _ (kL_w (by omega))
  have w5 : wI A w 5 = wI A0 w 5 := hkl _ (kL_w (by omega))
  have wn : wnt A w = wnt A0 w := by unfold wnt; rw [w4, w5]
  obtain ⟨v1, v2, v3, v4⟩ := pd_vld hG.1 (by omega) (hG.2.2.2 w (by omega))
  have hv : vld A0 (wI A0 w 1) (30 * pcl A w 0 + pcl A w 1) := by
    unfold vld at v2 ⊢
    rw [hereB_k e0 e1, hereB_k e0 e1, w1] at v2
    exact v2
  refine ⟨v1, ?_⟩
  rw [d1 _ v1, way_D (by have := hW0.re w hw; omega) hW0.w0 hW0.w1 (wnt_here hW0 hw) v1 hv (d2 _ v1)]
  unfold wayW
  rw [v3, v4, wn, w1]
theorem k_endOf {k w : Nat} {v : Nat} (h : MdL S R m) (hA : rowA (J (m + 1)) A) (hW0 : WFA A0) (hG : GK k A) (hkl : ∀ j, keepL j → A j = A0 j) (hw : w < A0 2) (hT : (v = 1 ∧ tabW A0 w (J (m + 15))) ∨ (v = 0 ∧ tabW A0 w (J (m + 16)))) : CA (d + 3) 338 [.ref m, .int (nI w), .int (nI v)] S J L R Q = Q (some (.int (iI (woA A w)))) S J L R := by
  have hn := hW0.n
  have e2 := hkl 2 (Or.inl (by omega))
  have w4 : w < 4 := by omega
  have hs := hG.1.sm
  have kt15 : kd S (m + 15) = 100 := md_k15 h
  have kt16 : kd S (m + 16) = 100 := md_k16 h
  have h30 := hG.1.pcl30
  have p0 := h30 w 0 (by omega) (by omega)
  have p1 := h30 w 1 (by omega) (by omega)
  have kf := fun (Q2 : mQ) (d2 : Nat) => k_isFallen (Q := Q2) (L := L) (d := d2) h hA hs w4
  have kp0 := fun (Q2 : mQ) (d2 : Nat) => k_poleCell (Q := Q2) (L := L) (d := d2) (p := 0) h hA hs w4 (by omega)
  have kp1 := fun (Q2 : mQ) (d2 : Nat) => k_poleCell (Q := Q2) (L := L) (d := d2) (p := 1) h hA hs w4 (by omega)
  have w40 := way40 hG (show w < A 2 by omega)
  rw [ca_338]
  by_cases z : wI A w 6 = 1
  · have e : woA A w = 50 := if_pos z
    rw [e, show iI 50 = nI 50 by decide +kernel]
    simp (disch := first | assumption | exact md_k h | exact md_k1 h | exact cw0 | exact vin1 h (by omega) | omega | (simp (disch := first | assumption | omega) only [md_k, md_R0, md_k1, md_n1, md_R1, md_k2, md_n2, md_R5, md_k3, md_n3, md_R6, md_k4, md_n4, md_R7, md_k5, md_n5, md_R8, md_k6, md_n6, md_R9, md_k7, md_n7, md_R21, md_k8, md_n8, md_R25, md_k9, md_n9, md_R26, md_k10, md_n10, md_R27, md_k11, md_n11, md_R28, md_k12, md_n12, md_R29, md_k13, md_n13, md_R32, md_k14, md_n14, md_R33, md_k15, md_n15, md_R34, md_k16, md_n16, md_R36, md_k17, md_n17, md_R41, md_k18, md_n18, md_R42, md_k19, md_n19, md_R43, md_k20, md_n20, vin, cw_nil, cw_int, cw_ref, cw_long, bI_01]; done) | (simp (disch := first | assumption | omega) only [md_k, md_R0, md_k1, md_n1, md_R1, md_k2, md_n2, md_R5, md_k3, md_n3, md_R6, md_k4, md_n4, md_R7, md_k5, md_n5, md_R8, md_k6, md_n6, md_R9, md_k7, md_n7, md_R21, md_k8, md_n8, md_R25, md_k9, md_n9, md_R26, md_k10, md_n10, md_R27, md_k11, md_n11, md_R28, md_k12, md_n12, md_R29, md_k13, md_n13, md_R32, md_k14, md_n14, md_R33, md_k15, md_n15, md_R34, md_k16, md_n16, md_R36, md_k17, md_n17, md_R41, md_k18, md_n18, md_R42, md_k19, md_n19, md_R43, md_k20, md_n20, cw_nil, cw_int, cw_ref, cw_long]; omega) | decide) only [x_338_0, x_338_1, x_338_2, x_338_5, x_338_8, x_338_10, x_338_11, x_338_13, x_338_14, x_338_15, x_338_16, x_338_19, x_338_20, x_338_21, x_338_22, x_338_23, x_338_26, x_338_27, x_338_28, x_338_30, x_338_31, x_338_34, x_338_35, x_338_38, x_338_39, x_338_40, x_338_43, x_338_44, x_338_47, x_338_48, x_338_49, x_338_52, ↓reduceIte, va_rf_some, cw_nil, cw_int, cw_ref, cw_long, kl_int, kl_ref, kl_null, kl_long, kl_none, Option.toList_some, Option.toList_none, List.cons_append, List.nil_append, List.append_nil, md_k, md_R0, md_k1, md_n1, md_R1, md_k2, md_n2, md_R5, md_k3, md_n3, md_R6, md_k4, md_n4, md_R7, md_k5, md_n5, md_R8, md_k6, md_n6, md_R9, md_k7, md_n7, md_R21, md_k8, md_n8, md_R25, md_k9, md_n9, md_R26, md_k10, md_n10, md_R27, md_k11, md_n11, md_R28, md_k12, md_n12, md_R29, md_k13, md_n13, md_R32, md_k14, md_n14, md_R33, md_k15, md_n15, md_R34, md_k16, md_n16, md_R36, md_k17, md_n17, md_R41, md_k18, md_n18, md_R42, md_k19, md_n19, md_R43, md_k20, md_n20, nI_add, pk_mul, nI_clamp, nI_ltI, nI_leI, nI_eq, kf, eq_true z, bI_0, Nat.reduceLT, Nat.reduceLeDiff, Nat.reduceEqDiff, Nat.reduceAdd, Nat.reduceMul, Nat.reduceSub, if_true, if_false, not_true, not_false_eq_true, decide_true, decide_false, Nat.lt_irrefl, Nat.le_refl, Nat.not_lt_zero, Nat.zero_le]
  · have e : woA A w = (wayW A w : Int) := if_neg z
    have mn : mnI (nI 40) (nI (wayW A w)) = nI (wayW A w) := by rw [mn_nI (by omega) (by omega)]; congr 1; omega
    rw [e, ← iI_nat]
    rcases hT with ⟨rfl, hT⟩ | ⟨rfl, hT⟩
    · obtain ⟨u1, u2⟩ := tab_way hT hW0 hG hkl hw
      have vv : vp_in (nI (30 * pcl A w 0 + pcl A w 1)) (ln S (m + 15)) := by rw [md_n15 h]; exact vp_in_nI u1 (by decide)
      simp (disch := first | assumption | exact md_k h | exact md_k1 h | exact cw0 | exact vin1 h (by omega) | omega | (simp (disch := first | assumption | omega) only [md_k, md_R0, md_k1, md_n1, md_R1, md_k2, md_n2, md_R5, md_k3, md_n3, md_R6, md_k4, md_n4, md_R7, md_k5, md_n5, md_R8, md_k6, md_n6, md_R9, md_k7, md_n7, md_R21, md_k8, md_n8, md_R25, md_k9, md_n9, md_R26, md_k10, md_n10, md_R27, md_k11, md_n11, md_R28, md_k12, md_n12, md_R29, md_k13, md_n13, md_R32, md_k14, md_n14, md_R33, md_k15, md_n15, md_R34, md_k16, md_n16, md_R36, md_k17, md_n17, md_R41, md_k18, md_n18, md_R42, md_k19, md_n19, md_R43, md_k20, md_n20, vin, cw_nil, cw_int, cw_ref, cw_long, bI_01]; done) | (simp (disch := first | assumption | omega) only [md_k, md_R0, md_k1, md_n1, md_R1, md_k2, md_n2, md_R5, md_k3, md_n3, md_R6, md_k4, md_n4, md_R7, md_k5, md_n5, md_R8, md_k6, md_n6, md_R9, md_k7, md_n7, md_R21, md_k8, md_n8, md_R25, md_k9, md_n9, md_R26, md_k10, md_n10, md_R27, md_k11, md_n11, md_R28, md_k12, md_n12, md_R29, md_k13, md_n13, md_R32, md_k14, md_n14, md_R33, md_k15, md_n15, md_R34, md_k16, md_n16, md_R36, md_k17, md_n17, md_R41, md_k18, md_n18, md_R42, md_k19, md_n19, md_R43, md_k20, md_n20, cw_nil, cw_int, cw_ref, cw_long]; omega) | decide) only [x_338_0, x_338_1, x_338_2, x_338_5, x_338_8, x_338_10, x_338_11, x_338_13, x_338_14, x_338_15, x_338_16, x_338_19, x_338_20, x_338_21, x_338_22, x_338_23, x_338_26, x_338_27, x_338_28, x_338_30, x_338_31, x_338_34, x_338_35, x_338_38, x_338_39, x_338_40, x_338_43, x_338_44, x_338_47, x_338_48, x_338_49, x_338_52, ↓reduceIte, va_rf_some, cw_nil, cw_int, cw_ref, cw_long, kl_int, kl_ref, kl_null, kl_long, kl_none, Option.toList_some, Option.toList_none, List.cons_append, List.nil_append, List.append_nil, md_k, md_R0, md_k1, md_n1, md_R1, md_k2, md_n2, md_R5, md_k3, md_n3, md_R6, md_k4, md_n4, md_R7, md_k5, md_n5, md_R8, md_k6, md_n6, md_R9, md_k7, md_n7, md_R21, md_k8, md_n8, md_R25, md_k9, md_n9, md_R26, md_k10, md_n10, md_R27, md_k11, md_n11, md_R28, md_k12, md_n12, md_R29, md_k13, md_n13, md_R32, md_k14, md_n14, md_R33, md_k15, md_n15, md_R34, md_k16, md_n16, md_R36, md_k17, md_n17, md_R41, md_k18, md_n18, md_R42, md_k19, md_n19, md_R43, md_k20, md_n20, nI_add, pk_mul, nI_clamp, nI_ltI, nI_leI, nI_eq, kf, eq_false z, bI_0, kp0, kp1, u2, mn, Nat.reduceLT, Nat.reduceLeDiff, Nat.reduceEqDiff, Nat.reduceAdd, Nat.reduceMul, Nat.reduceSub, if_true, if_false, not_true, not_false_eq_true, decide_true, decide_false, Nat.lt_irrefl, Nat.le_refl, Nat.not_lt_zero, Nat.zero_le]
    · obtain ⟨u1, u2⟩ := tab_way hT hW0 hG hkl hw
      have vv : vp_in (nI (30 * pcl A w 0 + pcl A w 1)) (ln S (m + 16)) := by rw [md_n16 h]; exact vp_in_nI u1 (by decide)
      simp (disch := first | assumption | exact md_k h | exact md_k1 h | exact cw0 | exact vin1 h (by omega) | omega | (simp (disch := first | assumption | omega) only [md_k, md_R0, md_k1, md_n1, md_R1, md_k2, md_n2, md_R5, md_k3, md_n3, md_R6, md_k4, md_n4, md_R7, md_k5, md_n5, md_R8, md_k6, md_n6, md_R9, md_k7, md_n7, md_R21, md_k8, md_n8, md_R25, md_k9, md_n9, md_R26, md_k10, md_n10, md_R27, md_k11, md_n11, md_R28, md_k12, md_n12, md_R29, md_k13, md_n13, md_R32, md_k14, md_n14, md_R33, md_k15, md_n15, md_R34, md_k16, md_n16, md_R36, md_k17, md_n17, md_R41, md_k18, md_n18, md_R42, md_k19, md_n19, md_R43, md_k20, md_n20, vin, cw_nil, cw_int, cw_ref, cw_long, bI_01]; done) | (simp (disch := first | assumption | omega) only [md_k, md_R0, md_k1, md_n1, md_R1, md_k2, md_n2, md_R5, md_k3, md_n3, md_R6, md_k4, md_n4, md_R7, md_k5, md_n5, md_R8, md_k6, md_n6, md_R9, md_k7, md_n7, md_R21, md_k8, md_n8, md_R25, md_k9, md_n9, md_R26, md_k10, md_n10, md_R27, md_k11, md_n11, md_R28, md_k12, md_n12, md_R29, md_k13, md_n13, md_R32, md_k14, md_n14, md_R33, md_k15, md_n15, md_R34, md_k16, md_n16, md_R36, md_k17, md_n17, md_R41, md_k18, md_n18, md_R42, md_k19, md_n19, md_R43, md_k20, md_n20, cw_nil, cw_int, cw_ref, cw_long]; omega) | decide) only [x_338_0, x_338_1, x_338_2, x_338_5, x_338_8, x_338_10, x_338_11, x_338_13, x_338_14, x_338_15, x_338_16, x_338_19, x_338_20, x_338_21, x_338_22, x_338_23, x_338_26, x_338_27, x_338_28, x_338_30, x_338_31, x_338_34, x_338_35, x_338_38, x_338_39, x_338_40, x_338_43, x_338_44, x_338_47, x_338_48, x_338_49, x_338_52, ↓reduceIte, va_rf_some, cw_nil, cw_int, cw_ref, cw_long, kl_int, kl_ref, kl_null, kl_long, kl_none, Option.toList_some, Option.toList_none, List.cons_append, List.nil_append, List.append_nil, md_k, md_R0, md_k1, md_n1, md_R1, md_k2, md_n2, md_R5, md_k3, md_n3, md_R6, md_k4, md_n4, md_R7, md_k5, md_n5, md_R8, md_k6, md_n6, md_R9, md_k7, md_n7, md_R21, md_k8, md_n8, md_R25, md_k9, md_n9, md_R26, md_k10, md_n10, md_R27, md_k11, md_n11, md_R28, md_k12, md_n12, md_R29, md_k13, md_n13, md_R32, md_k14, md_n14, md_R33, md_k15, md_n15, md_R34, md_k16, md_n16, md_R36, md_k17, md_n17, md_R41, md_k18, md_n18, md_R42, md_k19, md_n19, md_R43, md_k20, md_n20, nI_add, pk_mul, nI_clamp, nI_ltI, nI_leI, nI_eq, kf, eq_false z, bI_0, kp0, kp1, u2, mn, Nat.reduceLT, Nat.reduceLeDiff, Nat.reduceEqDiff, Nat.reduceAdd, Nat.reduceMul, Nat.reduceSub, if_true, if_false, not_true, not_false_eq_true, decide_true, decide_false, Nat.lt_irrefl, Nat.le_refl, Nat.not_lt_zero, Nat.zero_le]
end KR

