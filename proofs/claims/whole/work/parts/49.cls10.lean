/-! The class: copies. -/
def prgL (S : mS) (R : mR) (t : Nat) : Prop := kd S t = 6 ∧ (R t 3 = some (t + 1) ∧ kd S (t + 1) = 100 ∧ ln S (t + 1) = 60) ∧ (R t 4 = some (t + 2) ∧ kd S (t + 2) = 100 ∧ ln S (t + 2) = 60) ∧ (R t 5 = some (t + 3) ∧ kd S (t + 3) = 100 ∧ ln S (t + 3) = 60) ∧ (R t 6 = some (t + 4) ∧ kd S (t + 4) = 100 ∧ ln S (t + 4) = 60) ∧ (R t 7 = some (t + 5) ∧ kd S (t + 5) = 100 ∧ ln S (t + 5) = 60)
theorem prg_k {S : mS} {R : mR} {t : Nat} (h : prgL S R t) : kd S t = 6 := h.1
theorem prg_R3 {S : mS} {R : mR} {t : Nat} (h : prgL S R t) : R t 3 = some (t + 1) := h.2.1.1
theorem prg_k1 {S : mS} {R : mR} {t : Nat} (h : prgL S R t) : kd S (t + 1) = 100 := h.2.1.2.1
theorem prg_n1 {S : mS} {R : mR} {t : Nat} (h : prgL S R t) : ln S (t + 1) = 60 := h.2.1.2.2
theorem prg_R4 {S : mS} {R : mR} {t : Nat} (h : prgL S R t) : R t 4 = some (t + 2) := h.2.2.1.1
theorem prg_k2 {S : mS} {R : mR} {t : Nat} (h : prgL S R t) : kd S (t + 2) = 100 := h.2.2.1.2.1
theorem prg_n2 {S : mS} {R : mR} {t : Nat} (h : prgL S R t) : ln S (t + 2) = 60 := h.2.2.1.2.2
theorem prg_R5 {S : mS} {R : mR} {t : Nat} (h : prgL S R t) : R t 5 = some (t + 3) := h.2.2.2.1.1
theorem prg_k3 {S : mS} {R : mR} {t : Nat} (h : prgL S R t) : kd S (t + 3) = 100 := h.2.2.2.1.2.1
theorem prg_n3 {S : mS} {R : mR} {t : Nat} (h : prgL S R t) : ln S (t + 3) = 60 := h.2.2.2.1.2.2
theorem prg_R6 {S : mS} {R : mR} {t : Nat} (h : prgL S R t) : R t 6 = some (t + 4) := h.2.2.2.2.1.1
theorem prg_k4 {S : mS} {R : mR} {t : Nat} (h : prgL S R t) : kd S (t + 4) = 100 := h.2.2.2.2.1.2.1
theorem prg_n4 {S : mS} {R : mR} {t : Nat} (h : prgL S R t) : ln S (t + 4) = 60 := h.2.2.2.2.1.2.2
theorem prg_R7 {S : mS} {R : mR} {t : Nat} (h : prgL S R t) : R t 7 = some (t + 5) := h.2.2.2.2.2.1
theorem prg_k5 {S : mS} {R : mR} {t : Nat} (h : prgL S R t) : kd S (t + 5) = 100 := h.2.2.2.2.2.2.1
theorem prg_n5 {S : mS} {R : mR} {t : Nat} (h : prgL S R t) : ln S (t + 5) = 60 := h.2.2.2.2.2.2.2
theorem cpy0 {α : Type} {f g : Nat → α} {n j : Nat} (h : j < n) : va_cpy f g 0 0 n j = f j := by
  unfold va_cpy
  rw [if_pos (by omega)]
  congr 1; omega
theorem nc30 : (nI 30).toNatClampNeg = 30 := by decide
theorem nc8 : (nI 8).toNatClampNeg = 8 := by decide
theorem nc4 : (nI 4).toNatClampNeg = 4 := by decide
theorem nc60 : (nI 60).toNatClampNeg = 60 := by decide
theorem nc0 : (nI 0).toNatClampNeg = 0 := by decide
section C10
variable {S : mS} {I : mI} {L : mL} {R : mR} {Q : mQ} {d : Nat} {A : AS}
theorem c_cpLand {t o : Nat} (h : lndL S R t) (h2 : lndL S R o) (hd : t + 6 < o ∨ o + 6 < t) (H : ∀ I', (∀ j, (j = 0 ∨ j = 1 ∨ j = 2 ∨ j = 3 ∨ j = 4) → I' t j = I o j) → (∀ j, j < 30 → I' (t + 1) j = I (o + 1) j) → (∀ j, j < 30 → I' (t + 2) j = I (o + 2) j) → (∀ j, j < 30 → I' (t + 3) j = I (o + 3) j) → (∀ j, j < 30 → I' (t + 4) j = I (o + 4) j) → (∀ j, j < 30 → I' (t + 5) j = I (o + 5) j) → (∀ j, j < 30 → I' (t + 6) j = I (o + 6) j) → (∀ b, b < t ∨ t + 6 < b → I' b = I b) → Q none S I' L R) : CA (d + 1) 99 [.ref t, .ref o] S I L R Q := by
  have v0 : ¬ nI 0 < 0 := by decide
  have v30 : ¬ nI 30 < 0 := by decide
  have v8 : ¬ nI 8 < 0 := by decide
  have v4 : ¬ nI 4 < 0 := by decide
  have v60 : ¬ nI 60 < 0 := by decide
  have uh1 : (nI 0).toNatClampNeg + (nI 30).toNatClampNeg ≤ ln S (t + 1) := by rw [nc0, nc30, lnd_n1 h]; omega
  have uh21 : (nI 0).toNatClampNeg + (nI 30).toNatClampNeg ≤ ln S (o + 1) := by rw [nc0, nc30, lnd_n1 h2]; omega
  have uh2 : (nI 0).toNatClampNeg + (nI 30).toNatClampNeg ≤ ln S (t + 2) := by rw [nc0, nc30, lnd_n2 h]; omega
  have uh22 : (nI 0).toNatClampNeg + (nI 30).toNatClampNeg ≤ ln S (o + 2) := by rw [nc0, nc30, lnd_n2 h2]; omega
  have uh3 : (nI 0).toNatClampNeg + (nI 30).toNatClampNeg ≤ ln S (t + 3) := by rw [nc0, nc30, lnd_n3 h]; omega
  have uh23 : (nI 0).toNatClampNeg + (nI 30).toNatClampNeg ≤ ln S (o + 3) := by rw [nc0, nc30, lnd_n3 h2]; omega
  have uh4 : (nI 0).toNatClampNeg + (nI 30).toNatClampNeg ≤ ln S (t + 4) := by rw [nc0, nc30, lnd_n4 h]; omega
  have uh24 : (nI 0).toNatClampNeg + (nI 30).toNatClampNeg ≤ ln S (o + 4) := by rw [nc0, nc30, lnd_n4 h2]; omega
  have uh5 : (nI 0).toNatClampNeg + (nI 30).toNatClampNeg ≤ ln S (t + 5) := by rw [nc0, nc30, lnd_n5 h]; omega
  have uh25 : (nI 0).toNatClampNeg + (nI 30).toNatClampNeg ≤ ln S (o + 5) := by rw [nc0, nc30, lnd_n5 h2]; omega
  have uh6 : (nI 0).toNatClampNeg + (nI 30).toNatClampNeg ≤ ln S (t + 6) := by rw [nc0, nc30, lnd_n6 h]; omega
  have uh26 : (nI 0).toNatClampNeg + (nI 30).toNatClampNeg ≤ ln S (o + 6) := by rw [nc0, nc30, lnd_n6 h2]; omega
  rw [ca_99]
  simp (disch := first | assumption | exact cw0 | (simp only [lnd_k h, lnd_R5 h, lnd_k1 h, lnd_n1 h, lnd_R6 h, lnd_k2 h, lnd_n2 h, lnd_R7 h, lnd_k3 h, lnd_n3 h, lnd_R8 h, lnd_k4 h, lnd_n4 h, lnd_R9 h, lnd_k5 h, lnd_n5 h, lnd_R10 h, lnd_k6 h, lnd_n6 h, lnd_k h2, lnd_R5 h2, lnd_k1 h2, lnd_n1 h2, lnd_R6 h2, lnd_k2 h2, lnd_n2 h2, lnd_R7 h2, lnd_k3 h2, lnd_n3 h2, lnd_R8 h2, lnd_k4 h2, lnd_n4 h2, lnd_R9 h2, lnd_k5 h2, lnd_n5 h2, lnd_R10 h2, lnd_k6 h2, lnd_n6 h2]; done) | omega | (simp (disch := first | assumption | omega) only [lnd_k h, lnd_R5 h, lnd_k1 h, lnd_n1 h, lnd_R6 h, lnd_k2 h, lnd_n2 h, lnd_R7 h, lnd_k3 h, lnd_n3 h, lnd_R8 h, lnd_k4 h, lnd_n4 h, lnd_R9 h, lnd_k5 h, lnd_n5 h, lnd_R10 h, lnd_k6 h, lnd_n6 h, lnd_k h2, lnd_R5 h2, lnd_k1 h2, lnd_n1 h2, lnd_R6 h2, lnd_k2 h2, lnd_n2 h2, lnd_R7 h2, lnd_k3 h2, lnd_n3 h2, lnd_R8 h2, lnd_k4 h2, lnd_n4 h2, lnd_R9 h2, lnd_k5 h2, lnd_n5 h2, lnd_R10 h2, lnd_k6 h2, lnd_n6 h2, vin, cw_nil, cw_int, cw_ref, cw_long, bI_01]; done) | (simp (disch := first | assumption | omega) only [lnd_k h, lnd_R5 h, lnd_k1 h, lnd_n1 h, lnd_R6 h, lnd_k2 h, lnd_n2 h, lnd_R7 h, lnd_k3 h, lnd_n3 h, lnd_R8 h, lnd_k4 h, lnd_n4 h, lnd_R9 h, lnd_k5 h, lnd_n5 h, lnd_R10 h, lnd_k6 h, lnd_n6 h, lnd_k h2, lnd_R5 h2, lnd_k1 h2, lnd_n1 h2, lnd_R6 h2, lnd_k2 h2, lnd_n2 h2, lnd_R7 h2, lnd_k3 h2, lnd_n3 h2, lnd_R8 h2, lnd_k4 h2, lnd_n4 h2, lnd_R9 h2, lnd_k5 h2, lnd_n5 h2, lnd_R10 h2, lnd_k6 h2, lnd_n6 h2, cw_nil, cw_int, cw_ref, cw_long]; omega) | decide) only [x_99_0, x_99_1, x_99_2, x_99_5, x_99_8, x_99_9, x_99_10, x_99_13, x_99_16, x_99_17, x_99_18, x_99_21, x_99_24, x_99_25, x_99_26, x_99_29, x_99_32, x_99_33, x_99_34, x_99_37, x_99_40, x_99_41, x_99_44, x_99_45, x_99_46, x_99_49, x_99_50, x_99_52, x_99_52l, x_99_55, x_99_56, x_99_59, x_99_60, x_99_61, x_99_64, x_99_65, x_99_67, x_99_67l, x_99_70, x_99_71, x_99_74, x_99_75, x_99_76, x_99_79, x_99_80, x_99_82, x_99_82l, x_99_85, x_99_86, x_99_89, x_99_90, x_99_91, x_99_94, x_99_95, x_99_97, x_99_97l, x_99_100, x_99_101, x_99_104, x_99_105, x_99_106, x_99_109, x_99_110, x_99_112, x_99_112l, x_99_115, x_99_116, x_99_119, x_99_120, x_99_121, x_99_124, x_99_125, x_99_127, x_99_127l, x_99_130, ↓reduceIte, va_rf_some, cw_nil, cw_int, cw_ref, cw_long, kl_int, kl_ref, kl_null, kl_long, kl_none, Option.toList_some, Option.toList_none, List.cons_append, List.nil_append, List.append_nil, lnd_k h, lnd_R5 h, lnd_k1 h, lnd_n1 h, lnd_R6 h, lnd_k2 h, lnd_n2 h, lnd_R7 h, lnd_k3 h, lnd_n3 h, lnd_R8 h, lnd_k4 h, lnd_n4 h, lnd_R9 h, lnd_k5 h, lnd_n5 h, lnd_R10 h, lnd_k6 h, lnd_n6 h, lnd_k h2, lnd_R5 h2, lnd_k1 h2, lnd_n1 h2, lnd_R6 h2, lnd_k2 h2, lnd_n2 h2, lnd_R7 h2, lnd_k3 h2, lnd_n3 h2, lnd_R8 h2, lnd_k4 h2, lnd_n4 h2, lnd_R9 h2, lnd_k5 h2, lnd_n5 h2, lnd_R10 h2, lnd_k6 h2, lnd_n6 h2, nI_add, pk_mul, nI_clamp, nI_ltI, nI_leI, nI_eq, n10, nc30, nc8, nc4, nc60, nc0]
  refine H _ ?_ ?_ ?_ ?_ ?_ ?_ ?_ ?_
  · intro j hj
    rcases hj with rfl | rfl | rfl | rfl | rfl <;> simp (disch := omega) only [va_up_self, va_up_ne, cpy0]
  · intro j hj
    simp (disch := omega) only [va_up_self, va_up_ne, cpy0]
  · intro j hj
    simp (disch := omega) only [va_up_self, va_up_ne, cpy0]
  · intro j hj
    simp (disch := omega) only [va_up_self, va_up_ne, cpy0]
  · intro j hj
    simp (disch := omega) only [va_up_self, va_up_ne, cpy0]
  · intro j hj
    simp (disch := omega) only [va_up_self, va_up_ne, cpy0]
  · intro j hj
    simp (disch := omega) only [va_up_self, va_up_ne, cpy0]
  · intro b hb
    simp (disch := omega) only [va_up_self, va_up_ne, cpy0]
theorem c_cpFolk {t o : Nat} (h : flkL S R t) (h2 : flkL S R o) (hd : t + 7 < o ∨ o + 7 < t) (H : ∀ I' L', (∀ j, (j = 0) → I' t j = I o j) → (∀ j, j < 4 → I' (t + 2) j = I (o + 2) j) → (∀ j, j < 4 → I' (t + 3) j = I (o + 3) j) → (∀ j, j < 4 → I' (t + 4) j = I (o + 4) j) → (∀ j, j < 4 → I' (t + 5) j = I (o + 5) j) → (∀ j, j < 4 → I' (t + 6) j = I (o + 6) j) → (∀ j, j < 4 → I' (t + 7) j = I (o + 7) j) → (∀ b, b < t ∨ t + 7 < b → I' b = I b) → (∀ j, j < 4 → L' (t + 1) j = L (o + 1) j) → (∀ b, b ≠ t + 1 → L' b = L b) → Q none S I' L' R) : CA (d + 1) 110 [.ref t, .ref o] S I L R Q := by
  have v0 : ¬ nI 0 < 0 := by decide
  have v30 : ¬ nI 30 < 0 := by decide
  have v8 : ¬ nI 8 < 0 := by decide
  have v4 : ¬ nI 4 < 0 := by decide
  have v60 : ¬ nI 60 < 0 := by decide
  have uh2 : (nI 0).toNatClampNeg + (nI 4).toNatClampNeg ≤ ln S (t + 2) := by rw [nc0, nc4, flk_n2 h]; omega
  have uh22 : (nI 0).toNatClampNeg + (nI 4).toNatClampNeg ≤ ln S (o + 2) := by rw [nc0, nc4, flk_n2 h2]; omega
  have uh3 : (nI 0).toNatClampNeg + (nI 4).toNatClampNeg ≤ ln S (t + 3) := by rw [nc0, nc4, flk_n3 h]; omega
  have uh23 : (nI 0).toNatClampNeg + (nI 4).toNatClampNeg ≤ ln S (o + 3) := by rw [nc0, nc4, flk_n3 h2]; omega
  have uh4 : (nI 0).toNatClampNeg + (nI 4).toNatClampNeg ≤ ln S (t + 4) := by rw [nc0, nc4, flk_n4 h]; omega
  have uh24 : (nI 0).toNatClampNeg + (nI 4).toNatClampNeg ≤ ln S (o + 4) := by rw [nc0, nc4, flk_n4 h2]; omega
  have uh5 : (nI 0).toNatClampNeg + (nI 4).toNatClampNeg ≤ ln S (t + 5) := by rw [nc0, nc4, flk_n5 h]; omega
  have uh25 : (nI 0).toNatClampNeg + (nI 4).toNatClampNeg ≤ ln S (o + 5) := by rw [nc0, nc4, flk_n5 h2]; omega
  have uh6 : (nI 0).toNatClampNeg + (nI 4).toNatClampNeg ≤ ln S (t + 6) := by rw [nc0, nc4, flk_n6 h]; omega
  have uh26 : (nI 0).toNatClampNeg + (nI 4).toNatClampNeg ≤ ln S (o + 6) := by rw [nc0, nc4, flk_n6 h2]; omega
  have uh7 : (nI 0).toNatClampNeg + (nI 4).toNatClampNeg ≤ ln S (t + 7) := by rw [nc0, nc4, flk_n7 h]; omega
  have uh27 : (nI 0).toNatClampNeg + (nI 4).toNatClampNeg ≤ ln S (o + 7) := by rw [nc0, nc4, flk_n7 h2]; omega
  have uh1 : (nI 0).toNatClampNeg + (nI 4).toNatClampNeg ≤ ln S (t + 1) := by rw [nc0, nc4, flk_n1 h]; omega
  have uh21 : (nI 0).toNatClampNeg + (nI 4).toNatClampNeg ≤ ln S (o + 1) := by rw [nc0, nc4, flk_n1 h2]; omega
  rw [ca_110]
  simp (disch := first | assumption | exact cw0 | (simp only [flk_k h, flk_R1 h, flk_k1 h, flk_n1 h, flk_R2 h, flk_k2 h, flk_n2 h, flk_R3 h, flk_k3 h, flk_n3 h, flk_R4 h, flk_k4 h, flk_n4 h, flk_R5 h, flk_k5 h, flk_n5 h, flk_R6 h, flk_k6 h, flk_n6 h, flk_R7 h, flk_k7 h, flk_n7 h, flk_k h2, flk_R1 h2, flk_k1 h2, flk_n1 h2, flk_R2 h2, flk_k2 h2, flk_n2 h2, flk_R3 h2, flk_k3 h2, flk_n3 h2, flk_R4 h2, flk_k4 h2, flk_n4 h2, flk_R5 h2, flk_k5 h2, flk_n5 h2, flk_R6 h2, flk_k6 h2, flk_n6 h2, flk_R7 h2, flk_k7 h2, flk_n7 h2]; done) | omega | (simp (disch := first | assumption | omega) only [flk_k h, flk_R1 h, flk_k1 h, flk_n1 h, flk_R2 h, flk_k2 h, flk_n2 h, flk_R3 h, flk_k3 h, flk_n3 h, flk_R4 h, flk_k4 h, flk_n4 h, flk_R5 h, flk_k5 h, flk_n5 h, flk_R6 h, flk_k6 h, flk_n6 h, flk_R7 h, flk_k7 h, flk_n7 h, flk_k h2, flk_R1 h2, flk_k1 h2, flk_n1 h2, flk_R2 h2, flk_k2 h2, flk_n2 h2, flk_R3 h2, flk_k3 h2, flk_n3 h2, flk_R4 h2, flk_k4 h2, flk_n4 h2, flk_R5 h2, flk_k5 h2, flk_n5 h2, flk_R6 h2, flk_k6 h2, flk_n6 h2, flk_R7 h2, flk_k7 h2, flk_n7 h2, vin, cw_nil, cw_int, cw_ref, cw_long, bI_01]; done) | (simp (disch := first | assumption | omega) only [flk_k h, flk_R1 h, flk_k1 h, flk_n1 h, flk_R2 h, flk_k2 h, flk_n2 h, flk_R3 h, flk_k3 h, flk_n3 h, flk_R4 h, flk_k4 h, flk_n4 h, flk_R5 h, flk_k5 h, flk_n5 h, flk_R6 h, flk_k6 h, flk_n6 h, flk_R7 h, flk_k7 h, flk_n7 h, flk_k h2, flk_R1 h2, flk_k1 h2, flk_n1 h2, flk_R2 h2, flk_k2 h2, flk_n2 h2, flk_R3 h2, flk_k3 h2, flk_n3 h2, flk_R4 h2, flk_k4 h2, flk_n4 h2, flk_R5 h2, flk_k5 h2, flk_n5 h2, flk_R6 h2, flk_k6 h2, flk_n6 h2, flk_R7 h2, flk_k7 h2, flk_n7 h2, cw_nil, cw_int, cw_ref, cw_long]; omega) | decide) only [x_110_0, x_110_1, x_110_2, x_110_5, x_110_8, x_110_9, x_110_12, x_110_13, x_110_14, x_110_17, x_110_18, x_110_19, x_110_19l, x_110_22, x_110_23, x_110_26, x_110_27, x_110_28, x_110_31, x_110_32, x_110_33, x_110_33l, x_110_36, x_110_37, x_110_40, x_110_41, x_110_42, x_110_45, x_110_46, x_110_47, x_110_47l, x_110_50, x_110_51, x_110_54, x_110_55, x_110_56, x_110_59, x_110_60, x_110_61, x_110_61l, x_110_64, x_110_65, x_110_68, x_110_69, x_110_70, x_110_73, x_110_74, x_110_75, x_110_75l, x_110_78, x_110_79, x_110_82, x_110_83, x_110_84, x_110_87, x_110_88, x_110_89, x_110_89l, x_110_92, x_110_93, x_110_96, x_110_97, x_110_98, x_110_101, x_110_102, x_110_103, x_110_103l, x_110_106, ↓reduceIte, va_rf_some, cw_nil, cw_int, cw_ref, cw_long, kl_int, kl_ref, kl_null, kl_long, kl_none, Option.toList_some, Option.toList_none, List.cons_append, List.nil_append, List.append_nil, flk_k h, flk_R1 h, flk_k1 h, flk_n1 h, flk_R2 h, flk_k2 h, flk_n2 h, flk_R3 h, flk_k3 h, flk_n3 h, flk_R4 h, flk_k4 h, flk_n4 h, flk_R5 h, flk_k5 h, flk_n5 h, flk_R6 h, flk_k6 h, flk_n6 h, flk_R7 h, flk_k7 h, flk_n7 h, flk_k h2, flk_R1 h2, flk_k1 h2, flk_n1 h2, flk_R2 h2, flk_k2 h2, flk_n2 h2, flk_R3 h2, flk_k3 h2, flk_n3 h2, flk_R4 h2, flk_k4 h2, flk_n4 h2, flk_R5 h2, flk_k5 h2, flk_n5 h2, flk_R6 h2, flk_k6 h2, flk_n6 h2, flk_R7 h2, flk_k7 h2, flk_n7 h2, nI_add, pk_mul, nI_clamp, nI_ltI, nI_leI, nI_eq, n10, nc30, nc8, nc4, nc60, nc0]
  refine H _ _ ?_ ?_ ?_ ?_ ?_ ?_ ?_ ?_ ?_ ?_
  · intro j hj
    rcases hj with rfl <;> simp (disch := omega) only [va_up_self, va_up_ne, cpy0]
  · intro j hj
    simp (disch := omega) only [va_up_self, va_up_ne, cpy0]
  · intro j hj
    simp (disch := omega) only [va_up_self, va_up_ne, cpy0]
  · intro j hj
    simp (disch := omega) only [va_up_self, va_up_ne, cpy0]
  · intro j hj
    simp (disch := omega) only [va_up_self, va_up_ne, cpy0]
  · intro j hj
    simp (disch := omega) only [va_up_self, va_up_ne, cpy0]
  · intro j hj
    simp (disch := omega) only [va_up_self, va_up_ne, cpy0]
  · intro b hb
    simp (disch := omega) only [va_up_self, va_up_ne, cpy0]
  · intro j hj
    simp (disch := omega) only [va_up_self, va_up_ne, cpy0]
  · intro b hb0
    simp (disch := omega) only [va_up_self, va_up_ne, cpy0]
theorem c_cpStance {t o l f l2 f2 : Nat} (h : stnL S R l f t) (h2 : stnL S R l2 f2 o) (hd : t + 3 < o ∨ o + 3 < t) (H : ∀ I', (∀ j, (j = 5 ∨ j = 6) → I' t j = I o j) → (∀ j, j < 30 → I' (t + 1) j = I (o + 1) j) → (∀ j, j < 8 → I' (t + 2) j = I (o + 2) j) → (∀ j, j < 8 → I' (t + 3) j = I (o + 3) j) → (∀ b, b < t ∨ t + 3 < b → I' b = I b) → Q none S I' L R) : CA (d + 1) 118 [.ref t, .ref o] S I L R Q := by
  have v0 : ¬ nI 0 < 0 := by decide
  have v30 : ¬ nI 30 < 0 := by decide
  have v8 : ¬ nI 8 < 0 := by decide
  have v4 : ¬ nI 4 < 0 := by decide
  have v60 : ¬ nI 60 < 0 := by decide
  have uh1 : (nI 0).toNatClampNeg + (nI 30).toNatClampNeg ≤ ln S (t + 1) := by rw [nc0, nc30, stn_n1 h]; omega
  have uh21 : (nI 0).toNatClampNeg + (nI 30).toNatClampNeg ≤ ln S (o + 1) := by rw [nc0, nc30, stn_n1 h2]; omega
  have uh2 : (nI 0).toNatClampNeg + (nI 8).toNatClampNeg ≤ ln S (t + 2) := by rw [nc0, nc8, stn_n2 h]; omega
  have uh22 : (nI 0).toNatClampNeg + (nI 8).toNatClampNeg ≤ ln S (o + 2) := by rw [nc0, nc8, stn_n2 h2]; omega
  have uh3 : (nI 0).toNatClampNeg + (nI 8).toNatClampNeg ≤ ln S (t + 3) := by rw [nc0, nc8, stn_n3 h]; omega
  have uh23 : (nI 0).toNatClampNeg + (nI 8).toNatClampNeg ≤ ln S (o + 3) := by rw [nc0, nc8, stn_n3 h2]; omega
  rw [ca_118]
  simp (disch := first | assumption | exact cw0 | (simp only [stn_k h, stn_R0 h, stn_R1 h, stn_R2 h, stn_R3 h, stn_R4 h, stn_k1 h, stn_n1 h, stn_k2 h, stn_n2 h, stn_k3 h, stn_n3 h, stn_k h2, stn_R0 h2, stn_R1 h2, stn_R2 h2, stn_R3 h2, stn_R4 h2, stn_k1 h2, stn_n1 h2, stn_k2 h2, stn_n2 h2, stn_k3 h2, stn_n3 h2]; done) | omega | (simp (disch := first | assumption | omega) only [stn_k h, stn_R0 h, stn_R1 h, stn_R2 h, stn_R3 h, stn_R4 h, stn_k1 h, stn_n1 h, stn_k2 h, stn_n2 h, stn_k3 h, stn_n3 h, stn_k h2, stn_R0 h2, stn_R1 h2, stn_R2 h2, stn_R3 h2, stn_R4 h2, stn_k1 h2, stn_n1 h2, stn_k2 h2, stn_n2 h2, stn_k3 h2, stn_n3 h2, vin, cw_nil, cw_int, cw_ref, cw_long, bI_01]; done) | (simp (disch := first | assumption | omega) only [stn_k h, stn_R0 h, stn_R1 h, stn_R2 h, stn_R3 h, stn_R4 h, stn_k1 h, stn_n1 h, stn_k2 h, stn_n2 h, stn_k3 h, stn_n3 h, stn_k h2, stn_R0 h2, stn_R1 h2, stn_R2 h2, stn_R3 h2, stn_R4 h2, stn_k1 h2, stn_n1 h2, stn_k2 h2, stn_n2 h2, stn_k3 h2, stn_n3 h2, cw_nil, cw_int, cw_ref, cw_long]; omega) | decide) only [x_118_0, x_118_1, x_118_4, x_118_5, x_118_6, x_118_9, x_118_10, x_118_12, x_118_12l, x_118_15, x_118_16, x_118_19, x_118_20, x_118_21, x_118_24, x_118_25, x_118_27, x_118_27l, x_118_30, x_118_31, x_118_34, x_118_35, x_118_36, x_118_39, x_118_40, x_118_42, x_118_42l, x_118_45, x_118_46, x_118_47, x_118_50, x_118_53, x_118_54, x_118_55, x_118_58, x_118_61, ↓reduceIte, va_rf_some, cw_nil, cw_int, cw_ref, cw_long, kl_int, kl_ref, kl_null, kl_long, kl_none, Option.toList_some, Option.toList_none, List.cons_append, List.nil_append, List.append_nil, stn_k h, stn_R0 h, stn_R1 h, stn_R2 h, stn_R3 h, stn_R4 h, stn_k1 h, stn_n1 h, stn_k2 h, stn_n2 h, stn_k3 h, stn_n3 h, stn_k h2, stn_R0 h2, stn_R1 h2, stn_R2 h2, stn_R3 h2, stn_R4 h2, stn_k1 h2, stn_n1 h2, stn_k2 h2, stn_n2 h2, stn_k3 h2, stn_n3 h2, nI_add, pk_mul, nI_clamp, nI_ltI, nI_leI, nI_eq, n10, nc30, nc8, nc4, nc60, nc0]
  refine H _ ?_ ?_ ?_ ?_ ?_
  · intro j hj
    rcases hj with rfl | rfl <;> simp (disch := omega) only [va_up_self, va_up_ne, cpy0]
  · intro j hj
    simp (disch := omega) only [va_up_self, va_up_ne, cpy0]
  · intro j hj
    simp (disch := omega) only [va_up_self, va_up_ne, cpy0]
  · intro j hj
    simp (disch := omega) only [va_up_self, va_up_ne, cpy0]
  · intro b hb
    simp (disch := omega) only [va_up_self, va_up_ne, cpy0]
theorem c_cpProg {t o : Nat} (h : prgL S R t) (h2 : prgL S R o) (hd : t + 5 < o ∨ o + 5 < t) (hb : I o 0 = nI 0 ∨ I o 0 = nI 1) (H : ∀ I', (∀ j, (j = 0 ∨ j = 1 ∨ j = 2) → I' t j = I o j) → (∀ j, j < 60 → I' (t + 1) j = I (o + 1) j) → (∀ j, j < 60 → I' (t + 2) j = I (o + 2) j) → (∀ j, j < 60 → I' (t + 3) j = I (o + 3) j) → (∀ j, j < 60 → I' (t + 4) j = I (o + 4) j) → (∀ j, j < 60 → I' (t + 5) j = I (o + 5) j) → (∀ b, b < t ∨ t + 5 < b → I' b = I b) → Q none S I' L R) : CA (d + 1) 138 [.ref t, .ref o] S I L R Q := by
  have v0 : ¬ nI 0 < 0 := by decide
  have v30 : ¬ nI 30 < 0 := by decide
  have v8 : ¬ nI 8 < 0 := by decide
  have v4 : ¬ nI 4 < 0 := by decide
  have v60 : ¬ nI 60 < 0 := by decide
  have uh1 : (nI 0).toNatClampNeg + (nI 60).toNatClampNeg ≤ ln S (t + 1) := by rw [nc0, nc60, prg_n1 h]; omega
  have uh21 : (nI 0).toNatClampNeg + (nI 60).toNatClampNeg ≤ ln S (o + 1) := by rw [nc0, nc60, prg_n1 h2]; omega
  have uh2 : (nI 0).toNatClampNeg + (nI 60).toNatClampNeg ≤ ln S (t + 2) := by rw [nc0, nc60, prg_n2 h]; omega
  have uh22 : (nI 0).toNatClampNeg + (nI 60).toNatClampNeg ≤ ln S (o + 2) := by rw [nc0, nc60, prg_n2 h2]; omega
  have uh3 : (nI 0).toNatClampNeg + (nI 60).toNatClampNeg ≤ ln S (t + 3) := by rw [nc0, nc60, prg_n3 h]; omega
  have uh23 : (nI 0).toNatClampNeg + (nI 60).toNatClampNeg ≤ ln S (o + 3) := by rw [nc0, nc60, prg_n3 h2]; omega
  have uh4 : (nI 0).toNatClampNeg + (nI 60).toNatClampNeg ≤ ln S (t + 4) := by rw [nc0, nc60, prg_n4 h]; omega
  have uh24 : (nI 0).toNatClampNeg + (nI 60).toNatClampNeg ≤ ln S (o + 4) := by rw [nc0, nc60, prg_n4 h2]; omega
  have uh5 : (nI 0).toNatClampNeg + (nI 60).toNatClampNeg ≤ ln S (t + 5) := by rw [nc0, nc60, prg_n5 h]; omega
  have uh25 : (nI 0).toNatClampNeg + (nI 60).toNatClampNeg ≤ ln S (o + 5) := by rw [nc0, nc60, prg_n5 h2]; omega
  rw [ca_138]
  simp (disch := first | assumption | exact cw0 | (simp only [prg_k h, prg_R3 h, prg_k1 h, prg_n1 h, prg_R4 h, prg_k2 h, prg_n2 h, prg_R5 h, prg_k3 h, prg_n3 h, prg_R6 h, prg_k4 h, prg_n4 h, prg_R7 h, prg_k5 h, prg_n5 h, prg_k h2, prg_R3 h2, prg_k1 h2, prg_n1 h2, prg_R4 h2, prg_k2 h2, prg_n2 h2, prg_R5 h2, prg_k3 h2, prg_n3 h2, prg_R6 h2, prg_k4 h2, prg_n4 h2, prg_R7 h2, prg_k5 h2, prg_n5 h2]; done) | omega | (simp (disch := first | assumption | omega) only [prg_k h, prg_R3 h, prg_k1 h, prg_n1 h, prg_R4 h, prg_k2 h, prg_n2 h, prg_R5 h, prg_k3 h, prg_n3 h, prg_R6 h, prg_k4 h, prg_n4 h, prg_R7 h, prg_k5 h, prg_n5 h, prg_k h2, prg_R3 h2, prg_k1 h2, prg_n1 h2, prg_R4 h2, prg_k2 h2, prg_n2 h2, prg_R5 h2, prg_k3 h2, prg_n3 h2, prg_R6 h2, prg_k4 h2, prg_n4 h2, prg_R7 h2, prg_k5 h2, prg_n5 h2, vin, cw_nil, cw_int, cw_ref, cw_long, bI_01]; done) | (simp (disch := first | assumption | omega) only [prg_k h, prg_R3 h, prg_k1 h, prg_n1 h, prg_R4 h, prg_k2 h, prg_n2 h, prg_R5 h, prg_k3 h, prg_n3 h, prg_R6 h, prg_k4 h, prg_n4 h, prg_R7 h, prg_k5 h, prg_n5 h, prg_k h2, prg_R3 h2, prg_k1 h2, prg_n1 h2, prg_R4 h2, prg_k2 h2, prg_n2 h2, prg_R5 h2, prg_k3 h2, prg_n3 h2, prg_R6 h2, prg_k4 h2, prg_n4 h2, prg_R7 h2, prg_k5 h2, prg_n5 h2, cw_nil, cw_int, cw_ref, cw_long]; omega) | decide) only [x_138_0, x_138_1, x_138_2, x_138_5, x_138_8, x_138_9, x_138_10, x_138_13, x_138_16, x_138_17, x_138_18, x_138_21, x_138_24, x_138_25, x_138_28, x_138_29, x_138_30, x_138_33, x_138_34, x_138_36, x_138_36l, x_138_39, x_138_40, x_138_43, x_138_44, x_138_45, x_138_48, x_138_49, x_138_51, x_138_51l, x_138_54, x_138_55, x_138_58, x_138_59, x_138_60, x_138_63, x_138_64, x_138_66, x_138_66l, x_138_69, x_138_70, x_138_73, x_138_74, x_138_75, x_138_78, x_138_79, x_138_81, x_138_81l, x_138_84, x_138_85, x_138_88, x_138_89, x_138_90, x_138_93, x_138_94, x_138_96, x_138_96l, x_138_99, ↓reduceIte, va_rf_some, cw_nil, cw_int, cw_ref, cw_long, kl_int, kl_ref, kl_null, kl_long, kl_none, Option.toList_some, Option.toList_none, List.cons_append, List.nil_append, List.append_nil, prg_k h, prg_R3 h, prg_k1 h, prg_n1 h, prg_R4 h, prg_k2 h, prg_n2 h, prg_R5 h, prg_k3 h, prg_n3 h, prg_R6 h, prg_k4 h, prg_n4 h, prg_R7 h, prg_k5 h, prg_n5 h, prg_k h2, prg_R3 h2, prg_k1 h2, prg_n1 h2, prg_R4 h2, prg_k2 h2, prg_n2 h2, prg_R5 h2, prg_k3 h2, prg_n3 h2, prg_R6 h2, prg_k4 h2, prg_n4 h2, prg_R7 h2, prg_k5 h2, prg_n5 h2, nI_add, pk_mul, nI_clamp, nI_ltI, nI_leI, nI_eq, n10, nc30, nc8, nc4, nc60, nc0]
  refine H _ ?_ ?_ ?_ ?_ ?_ ?_ ?_
  · intro j hj
    rcases hj with rfl | rfl | rfl <;> simp (disch := omega) only [va_up_self, va_up_ne, cpy0]
  · intro j hj
    simp (disch := omega) only [va_up_self, va_up_ne, cpy0]
  · intro j hj
    simp (disch := omega) only [va_up_self, va_up_ne, cpy0]
  · intro j hj
    simp (disch := omega) only [va_up_self, va_up_ne, cpy0]
  · intro j hj
    simp (disch := omega) only [va_up_self, va_up_ne, cpy0]
  · intro j hj
    simp (disch := omega) only [va_up_self, va_up_ne, cpy0]
  · intro b hb
    simp (disch := omega) only [va_up_self, va_up_ne, cpy0]
end C10
