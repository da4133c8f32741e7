/-! The model's row: what is put there; poles; a moment. -/
def rowS (f : Nat → Int32) (A : AS) : Nat → Int32 := fun j => if j < 242 ∧ j ≠ 5 then nI (A j) else f j
def setA (I : mI) (m : Nat) (A : AS) : mI := va_up I (m + 1) (rowS (I (m + 1)) A)
theorem setA_row {I : mI} {m : Nat} {A : AS} : setA I m A (m + 1) = rowS (I (m + 1)) A := va_up_self _ _ _
theorem setA_o {I : mI} {m a : Nat} {A : AS} (h : a ≠ m + 1) : setA I m A a = I a := va_up_ne _ _ h
theorem rowA_setA {I : mI} {m : Nat} {A : AS} : rowA (setA I m A (m + 1)) A := by
  intro j h1 h2
  rw [setA_row]
  exact if_pos ⟨h1, h2⟩
theorem setA_setA {I : mI} {m : Nat} {A B : AS} : setA (setA I m A) m B = setA I m B := by
  funext a j
  unfold setA rowS
  simp only [va_upp]
  by_cases h : a = m + 1
  · simp only [h, if_true]
    by_cases g : j < 242 ∧ j ≠ 5 <;> simp [g]
  · simp [h]
theorem setA_id {I : mI} {m : Nat} {A : AS} (h : rowA (I (m + 1)) A) : setA I m A = I := by
  funext a j
  unfold setA rowS
  simp only [va_upp]
  by_cases g : a = m + 1
  · subst g
    simp only [if_true]
    by_cases g : j < 242 ∧ j ≠ 5
    · rw [if_pos g, h j g.1 g.2]
    · rw [if_neg g]
  · simp [g]
theorem setA_put {I : mI} {m j v : Nat} {A : AS} (h : rowA (I (m + 1)) A) (h1 : j < 242) (h2 : j ≠ 5) : va_up I (m + 1) (va_up (I (m + 1)) j (nI v)) = setA I m (va_up A j v) := by
  funext a i
  unfold setA rowS
  simp only [va_upp]
  by_cases g : a = m + 1
  · subst g
    simp only [if_true]
    by_cases gi : i = j
    · subst gi; simp [h1, h2, va_upp]
    · by_cases g : i < 242 ∧ i ≠ 5
      · rw [va_up_ne _ _ gi, if_pos g, if_neg gi, h i g.1 g.2]
      · rw [va_up_ne _ _ gi, if_neg g]
  · simp [g]
theorem smallA_up {A : AS} (h : smallA A) {j v : Nat} (hv : v < 1000000) : smallA (va_up A j v) := by
  intro i
  rw [va_upp]
  by_cases g : i = j
  · rw [if_pos g]; exact hv
  · rw [if_neg g]; exact h i
theorem mx0_nI {a b : Nat} (ha : a < 2 ^ 30) (hb : b < 2 ^ 30) : mxI (nI 0) (nI a - nI b) = nI (a - b) := by
  unfold mxI
  by_cases h : b < a
  · rw [pk_sub (by omega), if_pos ((nI_ltI (by omega) (by omega)).mpr (by omega))]
  · have e : a - b = 0 := by omega
    rw [e]
    by_cases g : a = b
    · subst g
      rw [pk_sub (Nat.le_refl _), Nat.sub_self]
      exact ite_self _
    · have h1 := pk_sneg hb (by omega : a < b)
      rw [if_neg (fun q => ?_)]
      rw [Int32.lt_iff_toInt_lt] at h1 q
      have : (nI 0).toInt = 0 := rfl
      have : (0 : Int32).toInt = 0 := rfl
      omega
def cnt (f : Nat → Bool) : Nat → Nat
  | 0 => 0
  | n + 1 => cnt f n + (if f n = true then 1 else 0)
theorem cnt_le (f : Nat → Bool) : ∀ n, cnt f n ≤ n
  | 0 => Nat.le_refl _
  | n + 1 => by
    have := cnt_le f n
    unfold cnt
    split <;> omega
def npol (A : AS) (c : Nat) : Nat := cnt (fun s => decide (pcl A (s / 2) (s % 2) = c)) (2 * A 2)
theorem cnt2 (A : AS) (c w : Nat) : cnt (fun s => decide (pcl A (s / 2) (s % 2) = c)) (2 * (w + 1)) = cnt (fun s => decide (pcl A (s / 2) (s % 2) = c)) (2 * w) + (if pcl A w 0 = c then 1 else 0) + (if pcl A w 1 = c then 1 else 0) := by
  show cnt _ (2 * w + 1 + 1) = _
  have e1 : (2 * w + 1) / 2 = w := by omega
  have e2 : (2 * w + 1) % 2 = 1 := by omega
  have e3 : 2 * w / 2 = w := by omega
  have e4 : 2 * w % 2 = 0 := by omega
  simp only [cnt, e1, e2, e3, e4, decide_eq_true_eq]
section M2
variable {S : mS} {I : mI} {L : mL} {R : mR} {Q : mQ} {d m : Nat} {A : AS}
theorem k_polesIn_l {c : Nat} (h : MdL S R m) (hA : rowA (I (m + 1)) A) (hs : smallA A) (hn : A 2 ≤ 4) (hc : c < 1000) : ∀ (k w : Nat), w + k = A 2 → ∀ a4 : Option Value, WP (d + 3, 0, 0) 269 4 [some (.ref m), some (.int (nI c)), some (.int (nI (cnt (fun s => decide (pcl A (s / 2) (s % 2) = c)) (2 * w)))), some (.int (nI w)), a4] [] S I L R Q = Q (some (.int (nI (npol A c)))) S I L R := by
  have h2 := hA 2 (by omega) (by omega)
  intro k
  induction k with
  | zero =>
    intro w hw a4
    have hw : w = A 2 := by omega
    subst hw
    rw [x_269_4]
    simp (disch := first | assumption | omega | exact sm_c hs | exact sm_w hs | exact sm_p hs | exact sm_pc hs | exact sm_wn hs | exact sm_b hs | exact sm_a hs | (simp (disch := first | assumption | omega) only [md_k, md_R0, md_k1, md_n1, md_R1, md_k2, md_n2, md_R5, md_k3, md_n3, md_R6, md_k4, md_n4, md_R7, md_k5, md_n5, md_R8, md_k6, md_n6, md_R9, md_k7, md_n7, md_R21, md_k8, md_n8, md_R25, md_k9, md_n9, md_R26, md_k10, md_n10, md_R27, md_k11, md_n11, md_R28, md_k12, md_n12, md_R29, md_k13, md_n13, md_R32, md_k14, md_n14, md_R33, md_k15, md_n15, md_R34, md_k16, md_n16, md_R36, md_k17, md_n17, md_R41, md_k18, md_n18, md_R42, md_k19, md_n19, md_R43, md_k20, md_n20, vin, cw_nil, cw_int, cw_ref, cw_long, bI_01]; done) | (simp (disch := first | assumption | omega) only [md_k, md_R0, md_k1, md_n1, md_R1, md_k2, md_n2, md_R5, md_k3, md_n3, md_R6, md_k4, md_n4, md_R7, md_k5, md_n5, md_R8, md_k6, md_n6, md_R9, md_k7, md_n7, md_R21, md_k8, md_n8, md_R25, md_k9, md_n9, md_R26, md_k10, md_n10, md_R27, md_k11, md_n11, md_R28, md_k12, md_n12, md_R29, md_k13, md_n13, md_R32, md_k14, md_n14, md_R33, md_k15, md_n15, md_R34, md_k16, md_n16, md_R36, md_k17, md_n17, md_R41, md_k18, md_n18, md_R42, md_k19, md_n19, md_R43, md_k20, md_n20, cw_nil, cw_int, cw_ref, cw_long]; omega) | decide) only [x_269_0, x_269_1, x_269_2, x_269_3, x_269_5, x_269_6, x_269_9, x_269_10, x_269_11, x_269_14, x_269_15, x_269_17, x_269_19, x_269_20, x_269_23, x_269_24, x_269_25, x_269_26, x_269_28, x_269_31, x_269_32, x_269_35, x_269_36, x_269_39, x_269_40, x_269_41, x_269_42, x_269_45, x_269_48, x_269_51, x_269_54, x_269_55, va_rf_some, cw_nil, cw_int, cw_ref, cw_long, kl_int, kl_ref, kl_null, kl_long, kl_none, Option.toList_some, Option.toList_none, List.cons_append, List.nil_append, List.append_nil, md_k, md_R0, md_k1, md_n1, md_R1, md_k2, md_n2, md_R5, md_k3, md_n3, md_R6, md_k4, md_n4, md_R7, md_k5, md_n5, md_R8, md_k6, md_n6, md_R9, md_k7, md_n7, md_R21, md_k8, md_n8, md_R25, md_k9, md_n9, md_R26, md_k10, md_n10, md_R27, md_k11, md_n11, md_R28, md_k12, md_n12, md_R29, md_k13, md_n13, md_R32, md_k14, md_n14, md_R33, md_k15, md_n15, md_R34, md_k16, md_n16, md_R36, md_k17, md_n17, md_R41, md_k18, md_n18, md_R42, md_k19, md_n19, md_R43, md_k20, md_n20, nI_add, pk_mul, nI_clamp, nI_ltI, nI_leI, nI_eq, h2, Nat.le_refl, if_true]
    rfl
  | succ k ih =>
    intro w hw a4
    have hw4 : w < 4 := by omega
    have hwn : ¬ A 2 ≤ w := by omega
    have e := cnt2 A c w
    have ih := ih (w + 1) (by omega)
    rw [e] at ih
    rw [x_269_4]
    by_cases g0 : pcl A w 0 = c <;> by_cases g1 : pcl A w 1 = c <;> simp only [g0, g1, if_true, if_false] at ih <;>
    simp (disch := first | assumption | omega | exact sm_c hs | exact sm_w hs | exact sm_p hs | exact sm_pc hs | exact sm_wn hs | exact sm_b hs | exact sm_a hs | (simp (disch := first | assumption | omega) only [md_k, md_R0, md_k1, md_n1, md_R1, md_k2, md_n2, md_R5, md_k3, md_n3, md_R6, md_k4, md_n4, md_R7, md_k5, md_n5, md_R8, md_k6, md_n6, md_R9, md_k7, md_n7, md_R21, md_k8, md_n8, md_R25, md_k9, md_n9, md_R26, md_k10, md_n10, md_R27, md_k11, md_n11, md_R28, md_k12, md_n12, md_R29, md_k13, md_n13, md_R32, md_k14, md_n14, md_R33, md_k15, md_n15, md_R34, md_k16, md_n16, md_R36, md_k17, md_n17, md_R41, md_k18, md_n18, md_R42, md_k19, md_n19, md_R43, md_k20, md_n20, vin, cw_nil, cw_int, cw_ref, cw_long, bI_01]; done) | (simp (disch := first | assumption | omega) only [md_k, md_R0, md_k1, md_n1, md_R1, md_k2, md_n2, md_R5, md_k3, md_n3, md_R6, md_k4, md_n4, md_R7, md_k5, md_n5, md_R8, md_k6, md_n6, md_R9, md_k7, md_n7, md_R21, md_k8, md_n8, md_R25, md_k9, md_n9, md_R26, md_k10, md_n10, md_R27, md_k11, md_n11, md_R28, md_k12, md_n12, md_R29, md_k13, md_n13, md_R32, md_k14, md_n14, md_R33, md_k15, md_n15, md_R34, md_k16, md_n16, md_R36, md_k17, md_n17, md_R41, md_k18, md_n18, md_R42, md_k19, md_n19, md_R43, md_k20, md_n20, cw_nil, cw_int, cw_ref, cw_long]; omega) | decide) only [x_269_0, x_269_1, x_269_2, x_269_3, x_269_5, x_269_6, x_269_9, x_269_10, x_269_11, x_269_14, x_269_15, x_269_17, x_269_19, x_269_20, x_269_23, x_269_24, x_269_25, x_269_26, x_269_28, x_269_31, x_269_32, x_269_35, x_269_36, x_269_39, x_269_40, x_269_41, x_269_42, x_269_45, x_269_48, x_269_51, x_269_54, x_269_55, va_rf_some, cw_nil, cw_int, cw_ref, cw_long, kl_int, kl_ref, kl_null, kl_long, kl_none, Option.toList_some, Option.toList_none, List.cons_append, List.nil_append, List.append_nil, md_k, md_R0, md_k1, md_n1, md_R1, md_k2, md_n2, md_R5, md_k3, md_n3, md_R6, md_k4, md_n4, md_R7, md_k5, md_n5, md_R8, md_k6, md_n6, md_R9, md_k7, md_n7, md_R21, md_k8, md_n8, md_R25, md_k9, md_n9, md_R26, md_k10, md_n10, md_R27, md_k11, md_n11, md_R28, md_k12, md_n12, md_R29, md_k13, md_n13, md_R32, md_k14, md_n14, md_R33, md_k15, md_n15, md_R34, md_k16, md_n16, md_R36, md_k17, md_n17, md_R41, md_k18, md_n18, md_R42, md_k19, md_n19, md_R43, md_k20, md_n20, nI_add, pk_mul, nI_clamp, nI_ltI, nI_leI, nI_eq, h2, hwn, if_false, k_poleCell h hA hs, g0, g1, if_true, Nat.reduceAdd, Nat.reduceLeDiff] <;>
    exact ih _
theorem k_polesIn {c : Nat} (h : MdL S R m) (hA : rowA (I (m + 1)) A) (hs : smallA A) (hn : A 2 ≤ 4) (hc : c < 1000) : CA (d + 3) 269 [.ref m, .int (nI c)] S I L R Q = Q (some (.int (nI (npol A c)))) S I L R := by
  rw [ca_269]
  simp (disch := first | assumption | omega | exact sm_c hs | exact sm_w hs | exact sm_p hs | exact sm_pc hs | exact sm_wn hs | exact sm_b hs | exact sm_a hs | (simp (disch := first | assumption | omega) only [md_k, md_R0, md_k1, md_n1, md_R1, md_k2, md_n2, md_R5, md_k3, md_n3, md_R6, md_k4, md_n4, md_R7, md_k5, md_n5, md_R8, md_k6, md_n6, md_R9, md_k7, md_n7, md_R21, md_k8, md_n8, md_R25, md_k9, md_n9, md_R26, md_k10, md_n10, md_R27, md_k11, md_n11, md_R28, md_k12, md_n12, md_R29, md_k13, md_n13, md_R32, md_k14, md_n14, md_R33, md_k15, md_n15, md_R34, md_k16, md_n16, md_R36, md_k17, md_n17, md_R41, md_k18, md_n18, md_R42, md_k19, md_n19, md_R43, md_k20, md_n20, vin, cw_nil, cw_int, cw_ref, cw_long, bI_01]; done) | (simp (disch := first | assumption | omega) only [md_k, md_R0, md_k1, md_n1, md_R1, md_k2, md_n2, md_R5, md_k3, md_n3, md_R6, md_k4, md_n4, md_R7, md_k5, md_n5, md_R8, md_k6, md_n6, md_R9, md_k7, md_n7, md_R21, md_k8, md_n8, md_R25, md_k9, md_n9, md_R26, md_k10, md_n10, md_R27, md_k11, md_n11, md_R28, md_k12, md_n12, md_R29, md_k13, md_n13, md_R32, md_k14, md_n14, md_R33, md_k15, md_n15, md_R34, md_k16, md_n16, md_R36, md_k17, md_n17, md_R41, md_k18, md_n18, md_R42, md_k19, md_n19, md_R43, md_k20, md_n20, cw_nil, cw_int, cw_ref, cw_long]; omega) | decide) only [x_269_0, x_269_1, x_269_2, x_269_3, x_269_5, x_269_6, x_269_9, x_269_10, x_269_11, x_269_14, x_269_15, x_269_17, x_269_19, x_269_20, x_269_23, x_269_24, x_269_25, x_269_26, x_269_28, x_269_31, x_269_32, x_269_35, x_269_36, x_269_39, x_269_40, x_269_41, x_269_42, x_269_45, x_269_48, x_269_51, x_269_54, x_269_55, va_rf_some, cw_nil, cw_int, cw_ref, cw_long, kl_int, kl_ref, kl_null, kl_long, kl_none, Option.toList_some, Option.toList_none, List.cons_append, List.nil_append, List.append_nil, md_k, md_R0, md_k1, md_n1, md_R1, md_k2, md_n2, md_R5, md_k3, md_n3, md_R6, md_k4, md_n4, md_R7, md_k5, md_n5, md_R8, md_k6, md_n6, md_R9, md_k7, md_n7, md_R21, md_k8, md_n8, md_R25, md_k9, md_n9, md_R26, md_k10, md_n10, md_R27, md_k11, md_n11, md_R28, md_k12, md_n12, md_R29, md_k13, md_n13, md_R32, md_k14, md_n14, md_R33, md_k15, md_n15, md_R34, md_k16, md_n16, md_R36, md_k17, md_n17, md_R41, md_k18, md_n18, md_R42, md_k19, md_n19, md_R43, md_k20, md_n20, nI_add, pk_mul, nI_clamp, nI_ltI, nI_leI, nI_eq]
  exact k_polesIn_l h hA hs hn hc (A 2) 0 (by omega) _
def bearA (A : AS) (w p u : Nat) : AS :=
  if cI A (pcl A w p) 5 = 1 then A
  else if 0 < cI A (pcl A w p) 0 then va_up A (6 + 6 * pcl A w p) (cI A (pcl A w p) 0 - u)
  else if pI A w p 2 < cI A (pcl A w p) 3 then va_up A (186 + 14 * w + 8 + 3 * p + 2) (min (cI A (pcl A w p) 3) (pI A w p 2 + cI A (pcl A w p) 2 * u / 8))
  else A
def bearF (A : AS) (w p u : Nat) : Bool := decide (¬ cI A (pcl A w p) 5 = 1) && decide (¬ 0 < cI A (pcl A w p) 0) && decide (wI A w 2 ≤ pI (bearA A w p u) w p 2)
theorem smallA_bear {A : AS} (h : smallA A) {w p u : Nat} (hu : u < 1000) : smallA (bearA A w p u) := by
  unfold bearA
  have h1 : cI A (pcl A w p) 0 < 1000000 := h _
  have h2 : cI A (pcl A w p) 3 < 1000000 := h _
  split
  · exact h
  · split
    · exact smallA_up h (by omega)
    · split
      · exact smallA_up h (by omega)
      · exact h
theorem k_bearsOn {w p u : Nat} (h : MdL S R m) (hA : rowA (I (m + 1)) A) (hs : smallA A) (hw : w < 4) (hp : p < 2) (hu : u < 1000) (hpc : pcl A w p < 30) : CA (d + 3) 282 [.ref m, .int (nI w), .int (nI p), .int (nI u)] S I L R Q = Q (some (.int (bI (bearF A w p u = true)))) S (setA I m (bearA A w p u)) L R := by
  rw [ca_282]
  have b0 : cI A (pcl A w p) 0 < 1000000 := hs _
  have b2 : cI A (pcl A w p) 2 < 1000000 := hs _
  have b3 : cI A (pcl A w p) 3 < 1000000 := hs _
  have b4 : pI A w p 2 < 1000000 := hs _
  have b5 : cI A (pcl A w p) 2 * u ≤ 1000000 * 1000 := Nat.mul_le_mul (by omega) (by omega)
  have b6 : cI A (pcl A w p) 2 * u / 8 ≤ 1000000 * 1000 / 8 := Nat.div_le_div_right b5
  by_cases g1 : cI A (pcl A w p) 5 = 1
  · have e : bearA A w p u = A := by unfold bearA; rw [if_pos g1]
    have f : bearF A w p u = false := by unfold bearF; simp [g1]
    rw [e, f, setA_id hA]
    simp (disch := first | assumption | omega | exact sm_c hs | exact sm_w hs | exact sm_p hs | exact sm_pc hs | exact sm_wn hs | exact sm_b hs | exact sm_a hs | (simp (disch := first | assumption | omega) only [md_k, md_R0, md_k1, md_n1, md_R1, md_k2, md_n2, md_R5, md_k3, md_n3, md_R6, md_k4, md_n4, md_R7, md_k5, md_n5, md_R8, md_k6, md_n6, md_R9, md_k7, md_n7, md_R21, md_k8, md_n8, md_R25, md_k9, md_n9, md_R26, md_k10, md_n10, md_R27, md_k11, md_n11, md_R28, md_k12, md_n12, md_R29, md_k13, md_n13, md_R32, md_k14, md_n14, md_R33, md_k15, md_n15, md_R34, md_k16, md_n16, md_R36, md_k17, md_n17, md_R41, md_k18, md_n18, md_R42, md_k19, md_n19, md_R43, md_k20, md_n20, vin, cw_nil, cw_int, cw_ref, cw_long, bI_01]; done) | (simp (disch := first | assumption | omega) only [md_k, md_R0, md_k1, md_n1, md_R1, md_k2, md_n2, md_R5, md_k3, md_n3, md_R6, md_k4, md_n4, md_R7, md_k5, md_n5, md_R8, md_k6, md_n6, md_R9, md_k7, md_n7, md_R21, md_k8, md_n8, md_R25, md_k9, md_n9, md_R26, md_k10, md_n10, md_R27, md_k11, md_n11, md_R28, md_k12, md_n12, md_R29, md_k13, md_n13, md_R32, md_k14, md_n14, md_R33, md_k15, md_n15, md_R34, md_k16, md_n16, md_R36, md_k17, md_n17, md_R41, md_k18, md_n18, md_R42, md_k19, md_n19, md_R43, md_k20, md_n20, cw_nil, cw_int, cw_ref, cw_long]; omega) | decide) only [x_282_0, x_282_1, x_282_2, x_282_3, x_282_6, x_282_8, x_282_9, x_282_10, x_282_13, x_282_14, x_282_15, x_282_17, x_282_18, x_282_20, x_282_23, x_282_26, x_282_27, x_282_28, x_282_29, x_282_31, x_282_32, x_282_35, x_282_38, x_282_39, x_282_42, x_282_44, x_282_47, x_282_48, x_282_49, x_282_51, x_282_52, x_282_55, x_282_56, x_282_57, x_282_60, x_282_61, x_282_62, x_282_63, x_282_64, x_282_67, x_282_69, x_282_70, x_282_71, x_282_73, x_282_74, x_282_77, x_282_80, x_282_81, x_282_84, x_282_86, x_282_87, x_282_89, x_282_90, x_282_93, x_282_94, x_282_97, x_282_99, x_282_100, x_282_101, x_282_103, x_282_104, x_282_107, x_282_108, x_282_109, x_282_111, x_282_112, x_282_113, x_282_116, x_282_117, x_282_118, x_282_121, x_282_123, x_282_124, x_282_125, x_282_126, x_282_127, x_282_130, x_282_133, x_282_134, x_282_137, x_282_138, va_rf_some, cw_nil, cw_int, cw_ref, cw_long, kl_int, kl_ref, kl_null, kl_long, kl_none, Option.toList_some, Option.toList_none, List.cons_append, List.nil_append, List.append_nil, md_k, md_R0, md_k1, md_n1, md_R1, md_k2, md_n2, md_R5, md_k3, md_n3, md_R6, md_k4, md_n4, md_R7, md_k5, md_n5, md_R8, md_k6, md_n6, md_R9, md_k7, md_n7, md_R21, md_k8, md_n8, md_R25, md_k9, md_n9, md_R26, md_k10, md_n10, md_R27, md_k11, md_n11, md_R28, md_k12, md_n12, md_R29, md_k13, md_n13, md_R32, md_k14, md_n14, md_R33, md_k15, md_n15, md_R34, md_k16, md_n16, md_R36, md_k17, md_n17, md_R41, md_k18, md_n18, md_R42, md_k19, md_n19, md_R43, md_k20, md_n20, nI_add, pk_mul, nI_clamp, nI_ltI, nI_leI, nI_eq, k_poleCell h hA hs, k_poleRow, k_isFirm h hA hs, bI_0, g1, not_true, if_false]
    rfl
  · by_cases g2 : 0 < cI A (pcl A w p) 0
    · have e : bearA A w p u = va_up A (6 + 6 * pcl A w p) (cI A (pcl A w p) 0 - u) := by unfold bearA; rw [if_neg g1, if_pos g2]
      have f : bearF A w p u = false := by unfold bearF; simp [g1, g2]
      have g2p : ¬ cI A (pcl A w p) 0 ≤ 0 := by omega
      rw [e, f, ← setA_put hA (by omega) (by omega)]
      simp (disch := first | assumption | omega | exact sm_c hs | exact sm_w hs | exact sm_p hs | exact sm_pc hs | exact sm_wn hs | exact sm_b hs | exact sm_a hs | (simp (disch := first | assumption | omega) only [md_k, md_R0, md_k1, md_n1, md_R1, md_k2, md_n2, md_R5, md_k3, md_n3, md_R6, md_k4, md_n4, md_R7, md_k5, md_n5, md_R8, md_k6, md_n6, md_R9, md_k7, md_n7, md_R21, md_k8, md_n8, md_R25, md_k9, md_n9, md_R26, md_k10, md_n10, md_R27, md_k11, md_n11, md_R28, md_k12, md_n12, md_R29, md_k13, md_n13, md_R32, md_k14, md_n14, md_R33, md_k15, md_n15, md_R34, md_k16, md_n16, md_R36, md_k17, md_n17, md_R41, md_k18, md_n18, md_R42, md_k19, md_n19, md_R43, md_k20, md_n20, vin, cw_nil, cw_int, cw_ref, cw_long, bI_01]; done) | (simp (disch := first | assumption | omega) only [md_k, md_R0, md_k1, md_n1, md_R1, md_k2, md_n2, md_R5, md_k3, md_n3, md_R6, md_k4, md_n4, md_R7, md_k5, md_n5, md_R8, md_k6, md_n6, md_R9, md_k7, md_n7, md_R21, md_k8, md_n8, md_R25, md_k9, md_n9, md_R26, md_k10, md_n10, md_R27, md_k11, md_n11, md_R28, md_k12, md_n12, md_R29, md_k13, md_n13, md_R32, md_k14, md_n14, md_R33, md_k15, md_n15, md_R34, md_k16, md_n16, md_R36, md_k17, md_n17, md_R41, md_k18, md_n18, md_R42, md_k19, md_n19, md_R43, md_k20, md_n20, cw_nil, cw_int, cw_ref, cw_long]; omega) | decide) only [x_282_0, x_282_1, x_282_2, x_282_3, x_282_6, x_282_8, x_282_9, x_282_10, x_282_13, x_282_14, x_282_15, x_282_17, x_282_18, x_282_20, x_282_23, x_282_26, x_282_27, x_282_28, x_282_29, x_282_31, x_282_32, x_282_35, x_282_38, x_282_39, x_282_42, x_282_44, x_282_47, x_282_48, x_282_49, x_282_51, x_282_52, x_282_55, x_282_56, x_282_57, x_282_60, x_282_61, x_282_62, x_282_63, x_282_64, x_282_67, x_282_69, x_282_70, x_282_71, x_282_73, x_282_74, x_282_77, x_282_80, x_282_81, x_282_84, x_282_86, x_282_87, x_282_89, x_282_90, x_282_93, x_282_94, x_282_97, x_282_99, x_282_100, x_282_101, x_282_103, x_282_104, x_282_107, x_282_108, x_282_109, x_282_111, x_282_112, x_282_113, x_282_116, x_282_117, x_282_118, x_282_121, x_282_123, x_282_124, x_282_125, x_282_126, x_282_127, x_282_130, x_282_133, x_282_134, x_282_137, x_282_138, va_rf_some, cw_nil, cw_int, cw_ref, cw_long, kl_int, kl_ref, kl_null, kl_long, kl_none, Option.toList_some, Option.toList_none, List.cons_append, List.nil_append, List.append_nil, md_k, md_R0, md_k1, md_n1, md_R1, md_k2, md_n2, md_R5, md_k3, md_n3, md_R6, md_k4, md_n4, md_R7, md_k5, md_n5, md_R8, md_k6, md_n6, md_R9, md_k7, md_n7, md_R21, md_k8, md_n8, md_R25, md_k9, md_n9, md_R26, md_k10, md_n10, md_R27, md_k11, md_n11, md_R28, md_k12, md_n12, md_R29, md_k13, md_n13, md_R32, md_k14, md_n14, md_R33, md_k15, md_n15, md_R34, md_k16, md_n16, md_R36, md_k17, md_n17, md_R41, md_k18, md_n18, md_R42, md_k19, md_n19, md_R43, md_k20, md_n20, nI_add, pk_mul, nI_clamp, nI_ltI, nI_leI, nI_eq, k_poleCell h hA hs, k_poleRow, k_isFirm h hA hs, bI_0, g1, not_false_eq_true, if_true, k_cellOf h hA hs, g2p, if_false, k_cellRow, mx0_nI]
      rfl
    · have g2p : cI A (pcl A w p) 0 ≤ 0 := by omega
      by_cases g3 : pI A w p 2 < cI A (pcl A w p) 3
      · have e : bearA A w p u = va_up A (186 + 14 * w + 8 + 3 * p + 2) (min (cI A (pcl A w p) 3) (pI A w p 2 + cI A (pcl A w p) 2 * u / 8)) := by unfold bearA; rw [if_neg g1, if_neg g2, if_pos g3]
        have hA2 := rowA_setA (I := I) (m := m) (A := bearA A w p u)
        have hs2 := smallA_bear hs (w := w) (p := p) hu
        have g3p : ¬ cI A (pcl A w p) 3 ≤ pI A w p 2 := by omega
        have b7 : pI (bearA A w p u) w p 2 < 1000000 := hs2 _
        have b8 : wI (bearA A w p u) w 2 < 1000000 := hs2 _
        have b9 : wI (bearA A w p u) w 2 = wI A w 2 := by rw [e]; unfold wI; exact va_up_ne _ _ (by omega)
        have f : bearF A w p u = decide (wI A w 2 ≤ pI (bearA A w p u) w p 2) := by unfold bearF; simp [g1, g2]
        have p1 := setA_put (I := I) (v := min (cI A (pcl A w p) 3) (pI A w p 2 + cI A (pcl A w p) 2 * u / 8)) hA (show 186 + 14 * w + 8 + 3 * p + 2 < 242 by omega) (by omega)
        rw [← e] at p1
        simp (disch := first | assumption | omega | exact sm_c hs | exact sm_w hs | exact sm_p hs | exact sm_pc hs | exact sm_wn hs | exact sm_b hs | exact sm_a hs | (simp (disch := first | assumption | omega) only [md_k, md_R0, md_k1, md_n1, md_R1, md_k2, md_n2, md_R5, md_k3, md_n3, md_R6, md_k4, md_n4, md_R7, md_k5, md_n5, md_R8, md_k6, md_n6, md_R9, md_k7, md_n7, md_R21, md_k8, md_n8, md_R25, md_k9, md_n9, md_R26, md_k10, md_n10, md_R27, md_k11, md_n11, md_R28, md_k12, md_n12, md_R29, md_k13, md_n13, md_R32, md_k14, md_n14, md_R33, md_k15, md_n15, md_R34, md_k16, md_n16, md_R36, md_k17, md_n17, md_R41, md_k18, md_n18, md_R42, md_k19, md_n19, md_R43, md_k20, md_n20, vin, cw_nil, cw_int, cw_ref, cw_long, bI_01]; done) | (simp (disch := first | assumption | omega) only [md_k, md_R0, md_k1, md_n1, md_R1, md_k2, md_n2, md_R5, md_k3, md_n3, md_R6, md_k4, md_n4, md_R7, md_k5, md_n5, md_R8, md_k6, md_n6, md_R9, md_k7, md_n7, md_R21, md_k8, md_n8, md_R25, md_k9, md_n9, md_R26, md_k10, md_n10, md_R27, md_k11, md_n11, md_R28, md_k12, md_n12, md_R29, md_k13, md_n13, md_R32, md_k14, md_n14, md_R33, md_k15, md_n15, md_R34, md_k16, md_n16, md_R36, md_k17, md_n17, md_R41, md_k18, md_n18, md_R42, md_k19, md_n19, md_R43, md_k20, md_n20, cw_nil, cw_int, cw_ref, cw_long]; omega) | decide) only [x_282_0, x_282_1, x_282_2, x_282_3, x_282_6, x_282_8, x_282_9, x_282_10, x_282_13, x_282_14, x_282_15, x_282_17, x_282_18, x_282_20, x_282_23, x_282_26, x_282_27, x_282_28, x_282_29, x_282_31, x_282_32, x_282_35, x_282_38, x_282_39, x_282_42, x_282_44, x_282_47, x_282_48, x_282_49, x_282_51, x_282_52, x_282_55, x_282_56, x_282_57, x_282_60, x_282_61, x_282_62, x_282_63, x_282_64, x_282_67, x_282_69, x_282_70, x_282_71, x_282_73, x_282_74, x_282_77, x_282_80, x_282_81, x_282_84, x_282_86, x_282_87, x_282_89, x_282_90, x_282_93, x_282_94, x_282_97, x_282_99, x_282_100, x_282_101, x_282_103, x_282_104, x_282_107, x_282_108, x_282_109, x_282_111, x_282_112, x_282_113, x_282_116, x_282_117, x_282_118, x_282_121, x_282_123, x_282_124, x_282_125, x_282_126, x_282_127, x_282_130, x_282_133, x_282_134, x_282_137, x_282_138, va_rf_some, cw_nil, cw_int, cw_ref, cw_long, kl_int, kl_ref, kl_null, kl_long, kl_none, Option.toList_some, Option.toList_none, List.cons_append, List.nil_append, List.append_nil, md_k, md_R0, md_k1, md_n1, md_R1, md_k2, md_n2, md_R5, md_k3, md_n3, md_R6, md_k4, md_n4, md_R7, md_k5, md_n5, md_R8, md_k6, md_n6, md_R9, md_k7, md_n7, md_R21, md_k8, md_n8, md_R25, md_k9, md_n9, md_R26, md_k10, md_n10, md_R27, md_k11, md_n11, md_R28, md_k12, md_n12, md_R29, md_k13, md_n13, md_R32, md_k14, md_n14, md_R33, md_k15, md_n15, md_R34, md_k16, md_n16, md_R36, md_k17, md_n17, md_R41, md_k18, md_n18, md_R42, md_k19, md_n19, md_R43, md_k20, md_n20, nI_add, pk_mul, nI_clamp, nI_ltI, nI_leI, nI_eq, k_poleCell h hA hs, k_poleRow, k_isFirm h hA hs, bI_0, g1, not_false_eq_true, if_true, k_cellOf h hA hs, g2p, if_false, g3p, rw_p hA, pk_div, mn_nI, p1, rw_p hA2, k_walkerOf h hA2 hs2, b9]
        rw [f]
        by_cases g4 : wI A w 2 ≤ pI (bearA A w p u) w p 2
        · have g5 : ¬ pI (bearA A w p u) w p 2 < wI A w 2 := by omega
          simp only [g4, g5, if_false, decide_true]
          rfl
        · have g5 : pI (bearA A w p u) w p 2 < wI A w 2 := by omega
          simp only [g4, g5, if_true, decide_false]
          rfl
      · have e : bearA A w p u = A := by unfold bearA; rw [if_neg g1, if_neg g2, if_neg g3]
        have g3p : cI A (pcl A w p) 3 ≤ pI A w p 2 := by omega
        have f : bearF A w p u = decide (wI A w 2 ≤ pI A w p 2) := by unfold bearF; rw [e]; simp [g1, g2]
        rw [e, f, setA_id hA]
        simp (disch := first | assumption | omega | exact sm_c hs | exact sm_w hs | exact sm_p hs | exact sm_pc hs | exact sm_wn hs | exact sm_b hs | exact sm_a hs | (simp (disch := first | assumption | omega) only [md_k, md_R0, md_k1, md_n1, md_R1, md_k2, md_n2, md_R5, md_k3, md_n3, md_R6, md_k4, md_n4, md_R7, md_k5, md_n5, md_R8, md_k6, md_n6, md_R9, md_k7, md_n7, md_R21, md_k8, md_n8, md_R25, md_k9, md_n9, md_R26, md_k10, md_n10, md_R27, md_k11, md_n11, md_R28, md_k12, md_n12, md_R29, md_k13, md_n13, md_R32, md_k14, md_n14, md_R33, md_k15, md_n15, md_R34, md_k16, md_n16, md_R36, md_k17, md_n17, md_R41, md_k18, md_n18, md_R42, md_k19, md_n19, md_R43, md_k20, md_n20, vin, cw_nil, cw_int, cw_ref, cw_long, bI_01]; done) | (simp (disch := first | assumption | omega) only [md_k, md_R0, md_k1, md_n1, md_R1, md_k2, md_n2, md_R5, md_k3, md_n3, md_R6, md_k4, md_n4, md_R7, md_k5, md_n5, md_R8, md_k6, md_n6, md_R9, md_k7, md_n7, md_R21, md_k8, md_n8, md_R25, md_k9, md_n9, md_R26, md_k10, md_n10, md_R27, md_k11, md_n11, md_R28, md_k12, md_n12, md_R29, md_k13, md_n13, md_R32, md_k14, md_n14, md_R33, md_k15, md_n15, md_R34, md_k16, md_n16, md_R36, md_k17, md_n17, md_R41, md_k18, md_n18, md_R42, md_k19, md_n19, md_R43, md_k20, md_n20, cw_nil, cw_int, cw_ref, cw_long]; omega) | decide) only [x_282_0, x_282_1, x_282_2, x_282_3, x_282_6, x_282_8, x_282_9, x_282_10, x_282_13, x_282_14, x_282_15, x_282_17, x_282_18, x_282_20, x_282_23, x_282_26, x_282_27, x_282_28, x_282_29, x_282_31, x_282_32, x_282_35, x_282_38, x_282_39, x_282_42, x_282_44, x_282_47, x_282_48, x_282_49, x_282_51, x_282_52, x_282_55, x_282_56, x_282_57, x_282_60, x_282_61, x_282_62, x_282_63, x_282_64, x_282_67, x_282_69, x_282_70, x_282_71, x_282_73, x_282_74, x_282_77, x_282_80, x_282_81, x_282_84, x_282_86, x_282_87, x_282_89, x_282_90, x_282_93, x_282_94, x_282_97, x_282_99, x_282_100, x_282_101, x_282_103, x_282_104, x_282_107, x_282_108, x_282_109, x_282_111, x_282_112, x_282_113, x_282_116, x_282_117, x_282_118, x_282_121, x_282_123, x_282_124, x_282_125, x_282_126, x_282_127, x_282_130, x_282_133, x_282_134, x_282_137, x_282_138, va_rf_some, cw_nil, cw_int, cw_ref, cw_long, kl_int, kl_ref, kl_null, kl_long, kl_none, Option.toList_some, Option.toList_none, List.cons_append, List.nil_append, List.append_nil, md_k, md_R0, md_k1, md_n1, md_R1, md_k2, md_n2, md_R5, md_k3, md_n3, md_R6, md_k4, md_n4, md_R7, md_k5, md_n5, md_R8, md_k6, md_n6, md_R9, md_k7, md_n7, md_R21, md_k8, md_n8, md_R25, md_k9, md_n9, md_R26, md_k10, md_n10, md_R27, md_k11, md_n11, md_R28, md_k12, md_n12, md_R29, md_k13, md_n13, md_R32, md_k14, md_n14, md_R33, md_k15, md_n15, md_R34, md_k16, md_n16, md_R36, md_k17, md_n17, md_R41, md_k18, md_n18, md_R42, md_k19, md_n19, md_R43, md_k20, md_n20, nI_add, pk_mul, nI_clamp, nI_ltI, nI_leI, nI_eq, k_poleCell h hA hs, k_poleRow, k_isFirm h hA hs, bI_0, g1, not_false_eq_true, if_true, k_cellOf h hA hs, g2p, if_false, g3p, rw_p hA, k_walkerOf h hA hs]
        by_cases g4 : wI A w 2 ≤ pI A w p 2
        · have g5 : ¬ pI A w p 2 < wI A w 2 := by omega
          simp only [g4, g5, if_false, decide_true]
          rfl
        · have g5 : pI A w p 2 < wI A w 2 := by omega
          simp only [g4, g5, if_true, decide_false]
          rfl
end M2
