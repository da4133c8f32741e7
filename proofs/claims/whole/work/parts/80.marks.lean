/-! Marks: states copied. -/
/-- the state t of the new heap is the state o of the old one -/
def cpSt (I I' : mI) (L L' : mL) (t o : Nat) : Prop := (∀ j, j < 5 → I' (t + 1) j = I (o + 1) j) ∧ (∀ j, j < 30 → I' (t + 1 + 1) j = I (o + 1 + 1) j) ∧ (∀ j, j < 30 → I' (t + 1 + 2) j = I (o + 1 + 2) j) ∧ (∀ j, j < 30 → I' (t + 1 + 3) j = I (o + 1 + 3) j) ∧ (∀ j, j < 30 → I' (t + 1 + 4) j = I (o + 1 + 4) j) ∧ (∀ j, j < 30 → I' (t + 1 + 5) j = I (o + 1 + 5) j) ∧ (∀ j, j < 30 → I' (t + 1 + 6) j = I (o + 1 + 6) j) ∧ I' (t + 8) 0 = I (o + 8) 0 ∧ (∀ j, j < 4 → I' (t + 8 + 2) j = I (o + 8 + 2) j) ∧ (∀ j, j < 4 → I' (t + 8 + 3) j = I (o + 8 + 3) j) ∧ (∀ j, j < 4 → I' (t + 8 + 4) j = I (o + 8 + 4) j) ∧ (∀ j, j < 4 → I' (t + 8 + 5) j = I (o + 8 + 5) j) ∧ (∀ j, j < 4 → I' (t + 8 + 6) j = I (o + 8 + 6) j) ∧ (∀ j, j < 4 → I' (t + 8 + 7) j = I (o + 8 + 7) j) ∧ (∀ j, (j = 5 ∨ j = 6) → I' (t + 16) j = I (o + 16) j) ∧ (∀ j, j < 30 → I' (t + 16 + 1) j = I (o + 16 + 1) j) ∧ (∀ j, j < 8 → I' (t + 16 + 2) j = I (o + 16 + 2) j) ∧ (∀ j, j < 8 → I' (t + 16 + 3) j = I (o + 16 + 3) j) ∧ (∀ j, j < 3 → I' (t + 20) j = I (o + 20) j) ∧ (∀ j, j < 60 → I' (t + 20 + 1) j = I (o + 20 + 1) j) ∧ (∀ j, j < 60 → I' (t + 20 + 2) j = I (o + 20 + 2) j) ∧ (∀ j, j < 60 → I' (t + 20 + 3) j = I (o + 20 + 3) j) ∧ (∀ j, j < 60 → I' (t + 20 + 4) j = I (o + 20 + 4) j) ∧ (∀ j, j < 60 → I' (t + 20 + 5) j = I (o + 20 + 5) j) ∧ (∀ j, j < 4 → L' (t + 8 + 1) j = L (o + 8 + 1) j)
theorem cpSt.f0 {I I' : mI} {L L' : mL} {t o : Nat} (h : cpSt I I' L L' t o) : (∀ j, j < 5 → I' (t + 1) j = I (o + 1) j) := h.1
theorem cpSt.f1 {I I' : mI} {L L' : mL} {t o : Nat} (h : cpSt I I' L L' t o) : (∀ j, j < 30 → I' (t + 1 + 1) j = I (o + 1 + 1) j) := h.2.1
theorem cpSt.f2 {I I' : mI} {L L' : mL} {t o : Nat} (h : cpSt I I' L L' t o) : (∀ j, j < 30 → I' (t + 1 + 2) j = I (o + 1 + 2) j) := h.2.2.1
theorem cpSt.f3 {I I' : mI} {L L' : mL} {t o : Nat} (h : cpSt I I' L L' t o) : (∀ j, j < 30 → I' (t + 1 + 3) j = I (o + 1 + 3) j) := h.2.2.2.1
theorem cpSt.f4 {I I' : mI} {L L' : mL} {t o : Nat} (h : cpSt I I' L L' t o) : (∀ j, j < 30 → I' (t + 1 + 4) j = I (o + 1 + 4) j) := h.2.2.2.2.1
theorem cpSt.f5 {I I' : mI} {L L' : mL} {t o : Nat} (h : cpSt I I' L L' t o) : (∀ j, j < 30 → I' (t + 1 + 5) j = I (o + 1 + 5) j) := h.2.2.2.2.2.1
theorem cpSt.f6 {I I' : mI} {L L' : mL} {t o : Nat} (h : cpSt I I' L L' t o) : (∀ j, j < 30 → I' (t + 1 + 6) j = I (o + 1 + 6) j) := h.2.2.2.2.2.2.1
theorem cpSt.f7 {I I' : mI} {L L' : mL} {t o : Nat} (h : cpSt I I' L L' t o) : I' (t + 8) 0 = I (o + 8) 0 := h.2.2.2.2.2.2.2.1
theorem cpSt.f8 {I I' : mI} {L L' : mL} {t o : Nat} (h : cpSt I I' L L' t o) : (∀ j, j < 4 → I' (t + 8 + 2) j = I (o + 8 + 2) j) := h.2.2.2.2.2.2.2.2.1
theorem cpSt.f9 {I I' : mI} {L L' : mL} {t o : Nat} (h : cpSt I I' L L' t o) : (∀ j, j < 4 → I' (t + 8 + 3) j = I (o + 8 + 3) j) := h.2.2.2.2.2.2.2.2.2.1
theorem cpSt.f10 {I I' : mI} {L L' : mL} {t o : Nat} (h : cpSt I I' L L' t o) : (∀ j, j < 4 → I' (t + 8 + 4) j = I (o + 8 + 4) j) := h.2.2.2.2.2.2.2.2.2.2.1
theorem cpSt.f11 {I I' : mI} {L L' : mL} {t o : Nat} (h : cpSt I I' L L' t o) : (∀ j, j < 4 → I' (t + 8 + 5) j = I (o + 8 + 5) j) := h.2.2.2.2.2.2.2.2.2.2.2.1
theorem cpSt.f12 {I I' : mI} {L L' : mL} {t o : Nat} (h : cpSt I I' L L' t o) : (∀ j, j < 4 → I' (t + 8 + 6) j = I (o + 8 + 6) j) := h.2.2.2.2.2.2.2.2.2.2.2.2.1
theorem cpSt.f13 {I I' : mI} {L L' : mL} {t o : Nat} (h : cpSt I I' L L' t o) : (∀ j, j < 4 → I' (t + 8 + 7) j = I (o + 8 + 7) j) := h.2.2.2.2.2.2.2.2.2.2.2.2.2.1
theorem cpSt.f14 {I I' : mI} {L L' : mL} {t o : Nat} (h : cpSt I I' L L' t o) : (∀ j, (j = 5 ∨ j = 6) → I' (t + 16) j = I (o + 16) j) := h.2.2.2.2.2.2.2.2.2.2.2.2.2.2.1
theorem cpSt.f15 {I I' : mI} {L L' : mL} {t o : Nat} (h : cpSt I I' L L' t o) : (∀ j, j < 30 → I' (t + 16 + 1) j = I (o + 16 + 1) j) := h.2.2.2.2.2.2.2.2.2.2.2.2.2.2.2.1
theorem cpSt.f16 {I I' : mI} {L L' : mL} {t o : Nat} (h : cpSt I I' L L' t o) : (∀ j, j < 8 → I' (t + 16 + 2) j = I (o + 16 + 2) j) := h.2.2.2.2.2.2.2.2.2.2.2.2.2.2.2.2.1
theorem cpSt.f17 {I I' : mI} {L L' : mL} {t o : Nat} (h : cpSt I I' L L' t o) : (∀ j, j < 8 → I' (t + 16 + 3) j = I (o + 16 + 3) j) := h.2.2.2.2.2.2.2.2.2.2.2.2.2.2.2.2.2.1
theorem cpSt.f18 {I I' : mI} {L L' : mL} {t o : Nat} (h : cpSt I I' L L' t o) : (∀ j, j < 3 → I' (t + 20) j = I (o + 20) j) := h.2.2.2.2.2.2.2.2.2.2.2.2.2.2.2.2.2.2.1
theorem cpSt.f19 {I I' : mI} {L L' : mL} {t o : Nat} (h : cpSt I I' L L' t o) : (∀ j, j < 60 → I' (t + 20 + 1) j = I (o + 20 + 1) j) := h.2.2.2.2.2.2.2.2.2.2.2.2.2.2.2.2.2.2.2.1
theorem cpSt.f20 {I I' : mI} {L L' : mL} {t o : Nat} (h : cpSt I I' L L' t o) : (∀ j, j < 60 → I' (t + 20 + 2) j = I (o + 20 + 2) j) := h.2.2.2.2.2.2.2.2.2.2.2.2.2.2.2.2.2.2.2.2.1
theorem cpSt.f21 {I I' : mI} {L L' : mL} {t o : Nat} (h : cpSt I I' L L' t o) : (∀ j, j < 60 → I' (t + 20 + 3) j = I (o + 20 + 3) j) := h.2.2.2.2.2.2.2.2.2.2.2.2.2.2.2.2.2.2.2.2.2.1
theorem cpSt.f22 {I I' : mI} {L L' : mL} {t o : Nat} (h : cpSt I I' L L' t o) : (∀ j, j < 60 → I' (t + 20 + 4) j = I (o + 20 + 4) j) := h.2.2.2.2.2.2.2.2.2.2.2.2.2.2.2.2.2.2.2.2.2.2.1
theorem cpSt.f23 {I I' : mI} {L L' : mL} {t o : Nat} (h : cpSt I I' L L' t o) : (∀ j, j < 60 → I' (t + 20 + 5) j = I (o + 20 + 5) j) := h.2.2.2.2.2.2.2.2.2.2.2.2.2.2.2.2.2.2.2.2.2.2.2.1
theorem cpSt.f24 {I I' : mI} {L L' : mL} {t o : Nat} (h : cpSt I I' L L' t o) : (∀ j, j < 4 → L' (t + 8 + 1) j = L (o + 8 + 1) j) := h.2.2.2.2.2.2.2.2.2.2.2.2.2.2.2.2.2.2.2.2.2.2.2.2
section P27
variable {S : mS} {I J I2 : mI} {L L2 : mL} {R : mR} {Q : mQ} {d x m mo sc : Nat} {s0 : Nat → Int32} {A B : AS}
theorem c_cpState {t o : Nat} (ht : staL S R t) (hpt : prgL S R (t + 20)) (ho : staL S R o) (hpo : prgL S R (o + 20)) (hd : t + 25 < o ∨ o + 25 < t) (hb : I (o + 20) 0 = nI 0 ∨ I (o + 20) 0 = nI 1) (go : ∀ I' L', cpSt I I' L L' t o → (∀ b, b ≤ t ∨ t + 25 < b → I' b = I b) → (∀ b, b ≠ t + 9 → L' b = L b) → Q none S I' L' R) : CA (d + 2) 87 [.ref t, .ref o] S I L R Q := by
  have st := sta_s ht
  have so := sta_s ho
  rw [ca_87]
  simp (disch := first | assumption | exact cw0 | (simp only [sta_k ht, sta_R0 ht, sta_R1 ht, sta_R2 ht, sta_R3 ht, sta_k ho, sta_R0 ho, sta_R1 ho, sta_R2 ho, sta_R3 ho]; done) | omega | (simp (disch := first | assumption | omega) only [sta_k ht, sta_R0 ht, sta_R1 ht, sta_R2 ht, sta_R3 ht, sta_k ho, sta_R0 ho, sta_R1 ho, sta_R2 ho, sta_R3 ho, vin, cw_nil, cw_int, cw_ref, cw_long, bI_01]; done) | (simp (disch := first | assumption | omega) only [sta_k ht, sta_R0 ht, sta_R1 ht, sta_R2 ht, sta_R3 ht, sta_k ho, sta_R0 ho, sta_R1 ho, sta_R2 ho, sta_R3 ho, cw_nil, cw_int, cw_ref, cw_long]; omega) | decide) only [x_87_0, x_87_1, x_87_4, x_87_5, x_87_11, x_87_12, x_87_15, x_87_16, x_87_22, x_87_23, x_87_26, x_87_27, x_87_33, x_87_34, x_87_37, x_87_38, x_87_44, ↓reduceIte, va_rf_some, cw_nil, cw_int, cw_ref, cw_long, kl_int, kl_ref, kl_null, kl_long, kl_none, Option.toList_some, Option.toList_none, List.cons_append, List.nil_append, List.append_nil, sta_k ht, sta_R0 ht, sta_R1 ht, sta_R2 ht, sta_R3 ht, sta_k ho, sta_R0 ho, sta_R1 ho, sta_R2 ho, sta_R3 ho, nI_add, pk_mul, nI_clamp, nI_ltI, nI_leI, nI_eq, n10]
  rw [x_87_8 (lnd_k (stn_l st)) cw0]
  refine c_cpLand (d := d) (stn_l st) (stn_l so) (by omega) ?_
  intro I1 a0 a1 a2 a3 a4 a5 a6 af
  simp (disch := first | assumption | exact cw0 | (simp only [sta_k ht, sta_R0 ht, sta_R1 ht, sta_R2 ht, sta_R3 ht, sta_k ho, sta_R0 ho, sta_R1 ho, sta_R2 ho, sta_R3 ho]; done) | omega | (simp (disch := first | assumption | omega) only [sta_k ht, sta_R0 ht, sta_R1 ht, sta_R2 ht, sta_R3 ht, sta_k ho, sta_R0 ho, sta_R1 ho, sta_R2 ho, sta_R3 ho, vin, cw_nil, cw_int, cw_ref, cw_long, bI_01]; done) | (simp (disch := first | assumption | omega) only [sta_k ht, sta_R0 ht, sta_R1 ht, sta_R2 ht, sta_R3 ht, sta_k ho, sta_R0 ho, sta_R1 ho, sta_R2 ho, sta_R3 ho, cw_nil, cw_int, cw_ref, cw_long]; omega) | decide) only [x_87_0, x_87_1, x_87_4, x_87_5, x_87_11, x_87_12, x_87_15, x_87_16, x_87_22, x_87_23, x_87_26, x_87_27, x_87_33, x_87_34, x_87_37, x_87_38, x_87_44, ↓reduceIte, va_rf_some, cw_nil, cw_int, cw_ref, cw_long, kl_int, kl_ref, kl_null, kl_long, kl_none, Option.toList_some, Option.toList_none, List.cons_append, List.nil_append, List.append_nil, sta_k ht, sta_R0 ht, sta_R1 ht, sta_R2 ht, sta_R3 ht, sta_k ho, sta_R0 ho, sta_R1 ho, sta_R2 ho, sta_R3 ho, nI_add, pk_mul, nI_clamp, nI_ltI, nI_leI, nI_eq, n10]
  rw [x_87_19 (flk_k (stn_f st)) cw0]
  refine c_cpFolk (d := d) (stn_f st) (stn_f so) (by omega) ?_
  intro I2 L2 b0 b2 b3 b4 b5 b6 b7 bf bl blf
  simp (disch := first | assumption | exact cw0 | (simp only [sta_k ht, sta_R0 ht, sta_R1 ht, sta_R2 ht, sta_R3 ht, sta_k ho, sta_R0 ho, sta_R1 ho, sta_R2 ho, sta_R3 ho]; done) | omega | (simp (disch := first | assumption | omega) only [sta_k ht, sta_R0 ht, sta_R1 ht, sta_R2 ht, sta_R3 ht, sta_k ho, sta_R0 ho, sta_R1 ho, sta_R2 ho, sta_R3 ho, vin, cw_nil, cw_int, cw_ref, cw_long, bI_01]; done) | (simp (disch := first | assumption | omega) only [sta_k ht, sta_R0 ht, sta_R1 ht, sta_R2 ht, sta_R3 ht, sta_k ho, sta_R0 ho, sta_R1 ho, sta_R2 ho, sta_R3 ho, cw_nil, cw_int, cw_ref, cw_long]; omega) | decide) only [x_87_0, x_87_1, x_87_4, x_87_5, x_87_11, x_87_12, x_87_15, x_87_16, x_87_22, x_87_23, x_87_26, x_87_27, x_87_33, x_87_34, x_87_37, x_87_38, x_87_44, ↓reduceIte, va_rf_some, cw_nil, cw_int, cw_ref, cw_long, kl_int, kl_ref, kl_null, kl_long, kl_none, Option.toList_some, Option.toList_none, List.cons_append, List.nil_append, List.append_nil, sta_k ht, sta_R0 ht, sta_R1 ht, sta_R2 ht, sta_R3 ht, sta_k ho, sta_R0 ho, sta_R1 ho, sta_R2 ho, sta_R3 ho, nI_add, pk_mul, nI_clamp, nI_ltI, nI_leI, nI_eq, n10]
  rw [x_87_30 (stn_k st) cw0]
  refine c_cpStance (d := d) st so (by omega) ?_
  intro I3 c0 c1 c2 c3 cf
  simp (disch := first | assumption | exact cw0 | (simp only [sta_k ht, sta_R0 ht, sta_R1 ht, sta_R2 ht, sta_R3 ht, sta_k ho, sta_R0 ho, sta_R1 ho, sta_R2 ho, sta_R3 ho]; done) | omega | (simp (disch := first | assumption | omega) only [sta_k ht, sta_R0 ht, sta_R1 ht, sta_R2 ht, sta_R3 ht, sta_k ho, sta_R0 ho, sta_R1 ho, sta_R2 ho, sta_R3 ho, vin, cw_nil, cw_int, cw_ref, cw_long, bI_01]; done) | (simp (disch := first | assumption | omega) only [sta_k ht, sta_R0 ht, sta_R1 ht, sta_R2 ht, sta_R3 ht, sta_k ho, sta_R0 ho, sta_R1 ho, sta_R2 ho, sta_R3 ho, cw_nil, cw_int, cw_ref, cw_long]; omega) | decide) only [x_87_0, x_87_1, x_87_4, x_87_5, x_87_11, x_87_12, x_87_15, x_87_16, x_87_22, x_87_23, x_87_26, x_87_27, x_87_33, x_87_34, x_87_37, x_87_38, x_87_44, ↓reduceIte, va_rf_some, cw_nil, cw_int, cw_ref, cw_long, kl_int, kl_ref, kl_null, kl_long, kl_none, Option.toList_some, Option.toList_none, List.cons_append, List.nil_append, List.append_nil, sta_k ht, sta_R0 ht, sta_R1 ht, sta_R2 ht, sta_R3 ht, sta_k ho, sta_R0 ho, sta_R1 ho, sta_R2 ho, sta_R3 ho, nI_add, pk_mul, nI_clamp, nI_ltI, nI_leI, nI_eq, n10]
  rw [x_87_41 (prg_k hpt) cw0]
  have oI : ∀ b, o < b → b ≤ o + 25 → I3 b = I b := fun b q1 q2 => by rw [cf b (by omega), bf b (by omega), af b (by omega)]
  refine c_cpProg (d := d) hpt hpo (by omega) (by rw [oI _ (by omega) (by omega)]; exact hb) ?_
  intro I4 e0 e1 e2 e3 e4 e5 ef
  simp (disch := first | assumption | exact cw0 | (simp only [sta_k ht, sta_R0 ht, sta_R1 ht, sta_R2 ht, sta_R3 ht, sta_k ho, sta_R0 ho, sta_R1 ho, sta_R2 ho, sta_R3 ho]; done) | omega | (simp (disch := first | assumption | omega) only [sta_k ht, sta_R0 ht, sta_R1 ht, sta_R2 ht, sta_R3 ht, sta_k ho, sta_R0 ho, sta_R1 ho, sta_R2 ho, sta_R3 ho, vin, cw_nil, cw_int, cw_ref, cw_long, bI_01]; done) | (simp (disch := first | assumption | omega) only [sta_k ht, sta_R0 ht, sta_R1 ht, sta_R2 ht, sta_R3 ht, sta_k ho, sta_R0 ho, sta_R1 ho, sta_R2 ho, sta_R3 ho, cw_nil, cw_int, cw_ref, cw_long]; omega) | decide) only [x_87_0, x_87_1, x_87_4, x_87_5, x_87_11, x_87_12, x_87_15, x_87_16, x_87_22, x_87_23, x_87_26, x_87_27, x_87_33, x_87_34, x_87_37, x_87_38, x_87_44, ↓reduceIte, va_rf_some, cw_nil, cw_int, cw_ref, cw_long, kl_int, kl_ref, kl_null, kl_long, kl_none, Option.toList_some, Option.toList_none, List.cons_append, List.nil_append, List.append_nil, sta_k ht, sta_R0 ht, sta_R1 ht, sta_R2 ht, sta_R3 ht, sta_k ho, sta_R0 ho, sta_R1 ho, sta_R2 ho, sta_R3 ho, nI_add, pk_mul, nI_clamp, nI_ltI, nI_leI, nI_eq, n10]
  have g1 : ∀ b, o < b → b ≤ o + 25 → I2 b = I b := fun b q1 q2 => by rw [bf b (by omega), af b (by omega)]
  have g0 : ∀ b, o < b → b ≤ o + 25 → I1 b = I b := fun b q1 q2 => af b (by omega)
  refine go I4 L2 ⟨?_, ?_, ?_, ?_, ?_, ?_, ?_, ?_, ?_, ?_, ?_, ?_, ?_, ?_, ?_, ?_, ?_, ?_, ?_, ?_, ?_, ?_, ?_, ?_, ?_⟩ ?_ ?_
  · intro j hj; rw [ef _ (by omega), cf _ (by omega), bf _ (by omega), a0 j (by omega)]
  · intro j hj; rw [ef _ (by omega), cf _ (by omega), bf _ (by omega), a1 j hj]
  · intro j hj; rw [ef _ (by omega), cf _ (by omega), bf _ (by omega), a2 j hj]
  · intro j hj; rw [ef _ (by omega), cf _ (by omega), bf _ (by omega), a3 j hj]
  · intro j hj; rw [ef _ (by omega), cf _ (by omega), bf _ (by omega), a4 j hj]
  · intro j hj; rw [ef _ (by omega), cf _ (by omega), bf _ (by omega), a5 j hj]
  · intro j hj; rw [ef _ (by omega), cf _ (by omega), bf _ (by omega), a6 j hj]
  · rw [ef _ (by omega), cf _ (by omega), b0 0 rfl, g0 _ (by omega) (by omega)]
  · intro j hj; rw [ef _ (by omega), cf _ (by omega), b2 j hj, g0 _ (by omega) (by omega)]
  · intro j hj; rw [ef _ (by omega), cf _ (by omega), b3 j hj, g0 _ (by omega) (by omega)]
  · intro j hj; rw [ef _ (by omega), cf _ (by omega), b4 j hj, g0 _ (by omega) (by omega)]
  · intro j hj; rw [ef _ (by omega), cf _ (by omega), b5 j hj, g0 _ (by omega) (by omega)]
  · intro j hj; rw [ef _ (by omega), cf _ (by omega), b6 j hj, g0 _ (by omega) (by omega)]
  · intro j hj; rw [ef _ (by omega), cf _ (by omega), b7 j hj, g0 _ (by omega) (by omega)]
  · intro j hj; rw [ef _ (by omega), c0 j hj, g1 _ (by omega) (by omega)]
  · intro j hj; rw [ef _ (by omega), c1 j hj, g1 _ (by omega) (by omega)]
  · intro j hj; rw [ef _ (by omega), c2 j hj, g1 _ (by omega) (by omega)]
  · intro j hj; rw [ef _ (by omega), c3 j hj, g1 _ (by omega) (by omega)]
  · intro j hj; rw [e0 j (by omega), oI _ (by omega) (by omega)]
  · intro j hj; rw [e1 j hj, oI _ (by omega) (by omega)]
  · intro j hj; rw [e2 j hj, oI _ (by omega) (by omega)]
  · intro j hj; rw [e3 j hj, oI _ (by omega) (by omega)]
  · intro j hj; rw [e4 j hj, oI _ (by omega) (by omega)]
  · intro j hj; rw [e5 j hj, oI _ (by omega) (by omega)]
  · exact bl
  · intro b hb2
    rw [ef b (by omega), cf b (by omega), bf b (by omega), af b (by omega)]
  · intro b hb2
    exact blf b (by omega)
theorem sta_cp {t o : Nat} {I' : mI} {L' : mL} (hW : WFA A) (h : StaR A o I) (c : cpSt I I' L L' t o) : StaR A t I' := by
  have hn := hW.n
  have h30 := hW.c30
  have hl := h.l
  have hf := h.f
  refine StaR.mk ?_ ?_ ?_ ?_
  · obtain ⟨a0, a1, a2, a3, a4, a5⟩ := hl
    refine ⟨by rw [c.f0 0 (by omega)]; exact a0, by rw [c.f0 1 (by omega)]; exact a1, by rw [c.f0 2 (by omega)]; exact a2, by rw [c.f0 3 (by omega)]; exact a3, by rw [c.f0 4 (by omega)]; exact a4, ?_⟩
    intro e he
    rw [c.f1 e (by omega), c.f2 e (by omega), c.f3 e (by omega), c.f4 e (by omega), c.f5 e (by omega), c.f6 e (by omega)]
    exact a5 e he
  · refine FolkR.mk ?_ ?_ ?_ ?_ ?_ ?_
    · rw [c.f7]; exact hf.ct
    · intro w q; rw [c.f8 w (by omega)]; exact hf.we w q
    · intro w q; rw [c.f9 w (by omega)]; exact hf.re w q
    · intro w q; rw [c.f10 w (by omega)]; exact hf.lo w q
    · intro w q; rw [c.f11 w (by omega)]; exact hf.ld w q
    · intro w q; rw [c.f12 w (by omega)]; exact hf.go w q
  · intro w q; rw [c.f13 w (by omega)]; exact h.p w q
  · exact stn_cp hW h.s c.f14 c.f15 c.f16 c.f17
theorem prg_cp {t o : Nat} {I' : mI} {L' : mL} {f f2 : Nat → Int32} (h : PrgR A o f I) (c : cpSt I I' L L' t o) (hf : ∀ j, j < 602 → f2 j = f j) : PrgR A t f2 I' := by
  unfold PrgR at h ⊢
  rw [c.f18 0 (by omega), hf 5 (by omega), c.f18 2 (by omega)]
  rcases h with h | ⟨h0, n, g, r, a1, a2, a3, a4, a5, a6⟩
  · exact Or.inl h
  · refine Or.inr ⟨h0, n, g, r, a1, a2, a3, ?_, ?_, a6⟩
    · intro k hk j hj
      rw [hf _ (by omega)]
      exact a4 k hk j hj
    · intro k hk
      have := a5 k hk
      have z1 := c.f19 k (by omega)
      have z2 := c.f20 k (by omega)
      have z3 := c.f21 k (by omega)
      have z4 := c.f22 k (by omega)
      have z5 := c.f23 k (by omega)
      exact ⟨z1.trans this.1, z2.trans this.2.1, z3.trans this.2.2.1, z4.trans this.2.2.2.1, z5.trans this.2.2.2.2⟩
theorem slot_cp {t o p q p2 q2 : Nat} {I1 : mI} {L1 : mL} (h : slotA A o p q m I L) (c : cpSt I I1 L L1 t o) (hr : ∀ j, j < 602 → I2 (m + 1) (p2 + j) = I (m + 1) (p + j)) (hk : ∀ b, t < b → b ≤ t + 25 → I2 b = I1 b) (hL : L2 (t + 9) = L1 (t + 9)) (hn : ∀ w, w < 4 → L2 (m + 2) (q2 + w) = L (m + 2) (q + w)) : slotA A t p2 q2 m I2 L2 := by
  have hW := h.w
  have h1 : slotA A t p2 q2 m I2 L2 := by
    refine slotA.mk hW h.t h.s7 h.pd ?_ (sta_fr (sta_cp hW h.sr c) (fun b q1 q2 => hk b q1 (by omega))) ?_ ?_
    · intro j q1 q2
      exact (hr j (by omega)).trans (h.r j q1 q2)
    · intro w hw
      have h4 := hW.n
      obtain ⟨u, u1, u2, u3⟩ := h.nm w hw
      refine ⟨u, u1, ?_, by rw [hn w (by omega)]; exact u3⟩
      rw [hL]
      exact (c.f24 w (by omega)).trans u2
    · exact prg_fr (prg_cp (f2 := fun j => I2 (m + 1) (p2 + j)) h.pg c (fun j hj => hr j hj)) rfl rfl rfl (fun _ _ _ => rfl) (fun b q1 q2 => hk b (by omega) q2)
  exact h1
theorem cpyG {α : Type} {r : Nat → α} {sp dp i : Nat} (h : dp + i ≤ sp ∨ sp + i < dp) : va_up (va_cpy r r sp dp i) (dp + i) (va_cpy r r sp dp i (sp + i)) = va_cpy r r sp dp (i + 1) := by
  funext q
  have e : va_cpy r r sp dp i (sp + i) = r (sp + i) := by unfold va_cpy; rw [if_neg (by omega)]
  rw [e]
  by_cases g : q = dp + i
  · subst g
    rw [va_up_self]
    unfold va_cpy
    rw [if_pos (by omega)]
    congr 1; omega
  · rw [va_up_ne _ _ g]
    unfold va_cpy
    by_cases g2 : dp ≤ q ∧ q < dp + i
    · rw [if_pos g2, if_pos (by omega)]
    · rw [if_neg g2, if_neg (by omega)]
theorem cpyG_0 {α : Type} {r : Nat → α} {sp dp : Nat} : va_cpy r r sp dp 0 = r := by
  funext q
  unfold va_cpy
  rw [if_neg (by omega)]
theorem va_upid {α : Type} {f : Nat → α} {a : Nat} : va_up f a (f a) = f := by
  funext b
  by_cases g : b = a
  · subst g; rw [va_up_self]
  · rw [va_up_ne _ _ g]
theorem k_copies_2 {a b : Nat} (h : MdL S R m) (ha : a ≤ 3) (hb : b ≤ 3) (hab : a ≠ b) : ∀ (k i : Nat), i + k = 4 → WP (d, 0, 0) 363 41 [some (.ref m), some (.int (nI a)), some (.int (nI b)), some (.int (nI i))] [] S I (va_up L (m + 2) (va_cpy (L (m + 2)) (L (m + 2)) (4 * a) (4 * b) i)) R Q = Q none S I (va_up L (m + 2) (va_cpy (L (m + 2)) (L (m + 2)) (4 * a) (4 * b) 4)) R := by
  intro k
  induction k with
  | zero =>
    intro i hi
    have hi : i = 4 := by omega
    subst hi
    simp (disch := first | assumption | exact md_k h | exact md_k1 h | exact cw0 | exact vin1 h (by omega) | omega | exact sm_c hs | exact sm_w hs | exact sm_p hs | exact sm_pc hs | exact sm_b hs | exact sm_a hs | (simp (disch := first | assumption | omega) only [md_k, md_R0, md_k1, md_n1, md_R1, md_k2, md_n2, md_R5, md_k3, md_n3, md_R6, md_k4, md_n4, md_R7, md_k5, md_n5, md_R8, md_k6, md_n6, md_R9, md_k7, md_n7, md_R21, md_k8, md_n8, md_R25, md_k9, md_n9, md_R26, md_k10, md_n10, md_R27, md_k11, md_n11, md_R28, md_k12, md_n12, md_R29, md_k13, md_n13, md_R32, md_k14, md_n14, md_R33, md_k15, md_n15, md_R34, md_k16, md_n16, md_R36, md_k17, md_n17, md_R41, md_k18, md_n18, md_R42, md_k19, md_n19, md_R43, md_k20, md_n20, vin, cw_nil, cw_int, cw_ref, cw_long, bI_01]; done) | (simp (disch := first | assumption | omega) only [md_k, md_R0, md_k1, md_n1, md_R1, md_k2, md_n2, md_R5, md_k3, md_n3, md_R6, md_k4, md_n4, md_R7, md_k5, md_n5, md_R8, md_k6, md_n6, md_R9, md_k7, md_n7, md_R21, md_k8, md_n8, md_R25, md_k9, md_n9, md_R26, md_k10, md_n10, md_R27, md_k11, md_n11, md_R28, md_k12, md_n12, md_R29, md_k13, md_n13, md_R32, md_k14, md_n14, md_R33, md_k15, md_n15, md_R34, md_k16, md_n16, md_R36, md_k17, md_n17, md_R41, md_k18, md_n18, md_R42, md_k19, md_n19, md_R43, md_k20, md_n20, cw_nil, cw_int, cw_ref, cw_long]; omega) | decide) only [x_363_0, x_363_1, x_363_2, x_363_3, x_363_6, x_363_9, x_363_10, x_363_13, x_363_16, x_363_17, x_363_18, x_363_19, x_363_20, x_363_21, x_363_24, x_363_27, x_363_28, x_363_29, x_363_30, x_363_31, x_363_32, x_363_33, x_363_36, x_363_39, x_363_40, x_363_41, x_363_42, x_363_43, x_363_46, x_363_47, x_363_50, x_363_51, x_363_52, x_363_53, x_363_54, x_363_55, x_363_56, x_363_59, x_363_60, x_363_61, x_363_62, x_363_63, x_363_64, x_363_65, x_363_66, x_363_69, x_363_72, ↓reduceIte, va_rf_some, cw_nil, cw_int, cw_ref, cw_long, kl_int, kl_ref, kl_null, kl_long, kl_none, Option.toList_some, Option.toList_none, List.cons_append, List.nil_append, List.append_nil, md_k, md_R0, md_k1, md_n1, md_R1, md_k2, md_n2, md_R5, md_k3, md_n3, md_R6, md_k4, md_n4, md_R7, md_k5, md_n5, md_R8, md_k6, md_n6, md_R9, md_k7, md_n7, md_R21, md_k8, md_n8, md_R25, md_k9, md_n9, md_R26, md_k10, md_n10, md_R27, md_k11, md_n11, md_R28, md_k12, md_n12, md_R29, md_k13, md_n13, md_R32, md_k14, md_n14, md_R33, md_k15, md_n15, md_R34, md_k16, md_n16, md_R36, md_k17, md_n17, md_R41, md_k18, md_n18, md_R42, md_k19, md_n19, md_R43, md_k20, md_n20, nI_add, pk_mul, nI_clamp, nI_ltI, nI_leI, nI_eq, Nat.le_refl, Nat.reduceLT, Nat.reduceLeDiff, Nat.reduceEqDiff, Nat.reduceAdd, Nat.reduceMul, Nat.reduceSub, if_true, if_false, not_true, not_false_eq_true, decide_true, decide_false, Nat.lt_irrefl, Nat.le_refl, Nat.not_lt_zero, Nat.zero_le]
  | succ k ih =>
    intro i hi
    have ih := ih (i + 1) (by omega)
    have h2 : ¬ 4 ≤ i := by omega
    have e := @cpyG _ (L (m + 2)) (4 * a) (4 * b) i (by omega)
    rw [x_363_41]
    simp (disch := first | assumption | exact md_k h | exact md_k1 h | exact cw0 | exact vin1 h (by omega) | omega | exact sm_c hs | exact sm_w hs | exact sm_p hs | exact sm_pc hs | exact sm_b hs | exact sm_a hs | (simp (disch := first | assumption | omega) only [md_k, md_R0, md_k1, md_n1, md_R1, md_k2, md_n2, md_R5, md_k3, md_n3, md_R6, md_k4, md_n4, md_R7, md_k5, md_n5, md_R8, md_k6, md_n6, md_R9, md_k7, md_n7, md_R21, md_k8, md_n8, md_R25, md_k9, md_n9, md_R26, md_k10, md_n10, md_R27, md_k11, md_n11, md_R28, md_k12, md_n12, md_R29, md_k13, md_n13, md_R32, md_k14, md_n14, md_R33, md_k15, md_n15, md_R34, md_k16, md_n16, md_R36, md_k17, md_n17, md_R41, md_k18, md_n18, md_R42, md_k19, md_n19, md_R43, md_k20, md_n20, vin, cw_nil, cw_int, cw_ref, cw_long, bI_01]; done) | (simp (disch := first | assumption | omega) only [md_k, md_R0, md_k1, md_n1, md_R1, md_k2, md_n2, md_R5, md_k3, md_n3, md_R6, md_k4, md_n4, md_R7, md_k5, md_n5, md_R8, md_k6, md_n6, md_R9, md_k7, md_n7, md_R21, md_k8, md_n8, md_R25, md_k9, md_n9, md_R26, md_k10, md_n10, md_R27, md_k11, md_n11, md_R28, md_k12, md_n12, md_R29, md_k13, md_n13, md_R32, md_k14, md_n14, md_R33, md_k15, md_n15, md_R34, md_k16, md_n16, md_R36, md_k17, md_n17, md_R41, md_k18, md_n18, md_R42, md_k19, md_n19, md_R43, md_k20, md_n20, cw_nil, cw_int, cw_ref, cw_long]; omega) | decide) only [x_363_0, x_363_1, x_363_2, x_363_3, x_363_6, x_363_9, x_363_10, x_363_13, x_363_16, x_363_17, x_363_18, x_363_19, x_363_20, x_363_21, x_363_24, x_363_27, x_363_28, x_363_29, x_363_30, x_363_31, x_363_32, x_363_33, x_363_36, x_363_39, x_363_40, x_363_42, x_363_43, x_363_46, x_363_47, x_363_50, x_363_51, x_363_52, x_363_53, x_363_54, x_363_55, x_363_56, x_363_59, x_363_60, x_363_61, x_363_62, x_363_63, x_363_64, x_363_65, x_363_66, x_363_69, x_363_72, ↓reduceIte, va_rf_some, cw_nil, cw_int, cw_ref, cw_long, kl_int, kl_ref, kl_null, kl_long, kl_none, Option.toList_some, Option.toList_none, List.cons_append, List.nil_append, List.append_nil, md_k, md_R0, md_k1, md_n1, md_R1, md_k2, md_n2, md_R5, md_k3, md_n3, md_R6, md_k4, md_n4, md_R7, md_k5, md_n5, md_R8, md_k6, md_n6, md_R9, md_k7, md_n7, md_R21, md_k8, md_n8, md_R25, md_k9, md_n9, md_R26, md_k10, md_n10, md_R27, md_k11, md_n11, md_R28, md_k12, md_n12, md_R29, md_k13, md_n13, md_R32, md_k14, md_n14, md_R33, md_k15, md_n15, md_R34, md_k16, md_n16, md_R36, md_k17, md_n17, md_R41, md_k18, md_n18, md_R42, md_k19, md_n19, md_R43, md_k20, md_n20, nI_add, pk_mul, nI_clamp, nI_ltI, nI_leI, nI_eq, eq_false h2, va_up_self, va_up_up, e, Nat.reduceLT, Nat.reduceLeDiff, Nat.reduceEqDiff, Nat.reduceAdd, Nat.reduceMul, Nat.reduceSub, if_true, if_false, not_true, not_false_eq_true, decide_true, decide_false, Nat.lt_irrefl, Nat.le_refl, Nat.not_lt_zero, Nat.zero_le]
    exact ih
theorem k_copies_1 {a b : Nat} (h : MdL S R m) (ha : a ≤ 3) (hb : b ≤ 3) (hab : a ≠ b) : ∀ (k i : Nat), i + k = 608 → WP (d, 0, 0) 363 2 [some (.ref m), some (.int (nI a)), some (.int (nI b)), some (.int (nI i))] [] S (va_up I (m + 1) (va_cpy (I (m + 1)) (I (m + 1)) (608 * a) (608 * b) i)) L R Q = Q none S (va_up I (m + 1) (va_cpy (I (m + 1)) (I (m + 1)) (608 * a) (608 * b) 608)) (va_up L (m + 2) (va_cpy (L (m + 2)) (L (m + 2)) (4 * a) (4 * b) 4)) R := by
  intro k
  induction k with
  | zero =>
    intro i hi
    have hi : i = 608 := by omega
    subst hi
    have h9 := k_copies_2 (d := d) (I := va_up I (m + 1) (va_cpy (I (m + 1)) (I (m + 1)) (608 * a) (608 * b) 608)) (L := L) (R := R) (Q := Q) h ha hb hab 4 0 (by omega)
    rw [cpyG_0, va_upid] at h9
    simp (disch := first | assumption | exact md_k h | exact md_k1 h | exact cw0 | exact vin1 h (by omega) | omega | exact sm_c hs | exact sm_w hs | exact sm_p hs | exact sm_pc hs | exact sm_b hs | exact sm_a hs | (simp (disch := first | assumption | omega) only [md_k, md_R0, md_k1, md_n1, md_R1, md_k2, md_n2, md_R5, md_k3, md_n3, md_R6, md_k4, md_n4, md_R7, md_k5, md_n5, md_R8, md_k6, md_n6, md_R9, md_k7, md_n7, md_R21, md_k8, md_n8, md_R25, md_k9, md_n9, md_R26, md_k10, md_n10, md_R27, md_k11, md_n11, md_R28, md_k12, md_n12, md_R29, md_k13, md_n13, md_R32, md_k14, md_n14, md_R33, md_k15, md_n15, md_R34, md_k16, md_n16, md_R36, md_k17, md_n17, md_R41, md_k18, md_n18, md_R42, md_k19, md_n19, md_R43, md_k20, md_n20, vin, cw_nil, cw_int, cw_ref, cw_long, bI_01]; done) | (simp (disch := first | assumption | omega) only [md_k, md_R0, md_k1, md_n1, md_R1, md_k2, md_n2, md_R5, md_k3, md_n3, md_R6, md_k4, md_n4, md_R7, md_k5, md_n5, md_R8, md_k6, md_n6, md_R9, md_k7, md_n7, md_R21, md_k8, md_n8, md_R25, md_k9, md_n9, md_R26, md_k10, md_n10, md_R27, md_k11, md_n11, md_R28, md_k12, md_n12, md_R29, md_k13, md_n13, md_R32, md_k14, md_n14, md_R33, md_k15, md_n15, md_R34, md_k16, md_n16, md_R36, md_k17, md_n17, md_R41, md_k18, md_n18, md_R42, md_k19, md_n19, md_R43, md_k20, md_n20, cw_nil, cw_int, cw_ref, cw_long]; omega) | decide) only [x_363_0, x_363_1, x_363_2, x_363_3, x_363_6, x_363_9, x_363_10, x_363_13, x_363_16, x_363_17, x_363_18, x_363_19, x_363_20, x_363_21, x_363_24, x_363_27, x_363_28, x_363_29, x_363_30, x_363_31, x_363_32, x_363_33, x_363_36, x_363_39, x_363_40, x_363_42, x_363_43, x_363_46, x_363_47, x_363_50, x_363_51, x_363_52, x_363_53, x_363_54, x_363_55, x_363_56, x_363_59, x_363_60, x_363_61, x_363_62, x_363_63, x_363_64, x_363_65, x_363_66, x_363_69, x_363_72, ↓reduceIte, va_rf_some, cw_nil, cw_int, cw_ref, cw_long, kl_int, kl_ref, kl_null, kl_long, kl_none, Option.toList_some, Option.toList_none, List.cons_append, List.nil_append, List.append_nil, md_k, md_R0, md_k1, md_n1, md_R1, md_k2, md_n2, md_R5, md_k3, md_n3, md_R6, md_k4, md_n4, md_R7, md_k5, md_n5, md_R8, md_k6, md_n6, md_R9, md_k7, md_n7, md_R21, md_k8, md_n8, md_R25, md_k9, md_n9, md_R26, md_k10, md_n10, md_R27, md_k11, md_n11, md_R28, md_k12, md_n12, md_R29, md_k13, md_n13, md_R32, md_k14, md_n14, md_R33, md_k15, md_n15, md_R34, md_k16, md_n16, md_R36, md_k17, md_n17, md_R41, md_k18, md_n18, md_R42, md_k19, md_n19, md_R43, md_k20, md_n20, nI_add, pk_mul, nI_clamp, nI_ltI, nI_leI, nI_eq, Nat.le_refl, Nat.reduceLT, Nat.reduceLeDiff, Nat.reduceEqDiff, Nat.reduceAdd, Nat.reduceMul, Nat.reduceSub, if_true, if_false, not_true, not_false_eq_true, decide_true, decide_false, Nat.lt_irrefl, Nat.le_refl, Nat.not_lt_zero, Nat.zero_le]
    exact h9
  | succ k ih =>
    intro i hi
    have ih := ih (i + 1) (by omega)
    have h2 : ¬ 608 ≤ i := by omega
    have e := @cpyG _ (I (m + 1)) (608 * a) (608 * b) i (by omega)
    rw [x_363_2]
    simp (disch := first | assumption | exact md_k h | exact md_k1 h | exact cw0 | exact vin1 h (by omega) | omega | exact sm_c hs | exact sm_w hs | exact sm_p hs | exact sm_pc hs | exact sm_b hs | exact sm_a hs | (simp (disch := first | assumption | omega) only [md_k, md_R0, md_k1, md_n1, md_R1, md_k2, md_n2, md_R5, md_k3, md_n3, md_R6, md_k4, md_n4, md_R7, md_k5, md_n5, md_R8, md_k6, md_n6, md_R9, md_k7, md_n7, md_R21, md_k8, md_n8, md_R25, md_k9, md_n9, md_R26, md_k10, md_n10, md_R27, md_k11, md_n11, md_R28, md_k12, md_n12, md_R29, md_k13, md_n13, md_R32, md_k14, md_n14, md_R33, md_k15, md_n15, md_R34, md_k16, md_n16, md_R36, md_k17, md_n17, md_R41, md_k18, md_n18, md_R42, md_k19, md_n19, md_R43, md_k20, md_n20, vin, cw_nil, cw_int, cw_ref, cw_long, bI_01]; done) | (simp (disch := first | assumption | omega) only [md_k, md_R0, md_k1, md_n1, md_R1, md_k2, md_n2, md_R5, md_k3, md_n3, md_R6, md_k4, md_n4, md_R7, md_k5, md_n5, md_R8, md_k6, md_n6, md_R9, md_k7, md_n7, md_R21, md_k8, md_n8, md_R25, md_k9, md_n9, md_R26, md_k10, md_n10, md_R27, md_k11, md_n11, md_R28, md_k12, md_n12, md_R29, md_k13, md_n13, md_R32, md_k14, md_n14, md_R33, md_k15, md_n15, md_R34, md_k16, md_n16, md_R36, md_k17, md_n17, md_R41, md_k18, md_n18, md_R42, md_k19, md_n19, md_R43, md_k20, md_n20, cw_nil, cw_int, cw_ref, cw_long]; omega) | decide) only [x_363_0, x_363_1, x_363_3, x_363_6, x_363_9, x_363_10, x_363_13, x_363_16, x_363_17, x_363_18, x_363_19, x_363_20, x_363_21, x_363_24, x_363_27, x_363_28, x_363_29, x_363_30, x_363_31, x_363_32, x_363_33, x_363_36, x_363_39, x_363_40, x_363_41, x_363_42, x_363_43, x_363_46, x_363_47, x_363_50, x_363_51, x_363_52, x_363_53, x_363_54, x_363_55, x_363_56, x_363_59, x_363_60, x_363_61, x_363_62, x_363_63, x_363_64, x_363_65, x_363_66, x_363_69, x_363_72, ↓reduceIte, va_rf_some, cw_nil, cw_int, cw_ref, cw_long, kl_int, kl_ref, kl_null, kl_long, kl_none, Option.toList_some, Option.toList_none, List.cons_append, List.nil_append, List.append_nil, md_k, md_R0, md_k1, md_n1, md_R1, md_k2, md_n2, md_R5, md_k3, md_n3, md_R6, md_k4, md_n4, md_R7, md_k5, md_n5, md_R8, md_k6, md_n6, md_R9, md_k7, md_n7, md_R21, md_k8, md_n8, md_R25, md_k9, md_n9, md_R26, md_k10, md_n10, md_R27, md_k11, md_n11, md_R28, md_k12, md_n12, md_R29, md_k13, md_n13, md_R32, md_k14, md_n14, md_R33, md_k15, md_n15, md_R34, md_k16, md_n16, md_R36, md_k17, md_n17, md_R41, md_k18, md_n18, md_R42, md_k19, md_n19, md_R43, md_k20, md_n20, nI_add, pk_mul, nI_clamp, nI_ltI, nI_leI, nI_eq, eq_false h2, va_up_self, va_up_up, e, Nat.reduceLT, Nat.reduceLeDiff, Nat.reduceEqDiff, Nat.reduceAdd, Nat.reduceMul, Nat.reduceSub, if_true, if_false, not_true, not_false_eq_true, decide_true, decide_false, Nat.lt_irrefl, Nat.le_refl, Nat.not_lt_zero, Nat.zero_le]
    exact ih
theorem k_copies {a b : Nat} (h : MdL S R m) (ha : a ≤ 3) (hb : b ≤ 3) (hab : a ≠ b) : CA d 363 [.ref m, .int (nI a), .int (nI b)] S I L R Q = Q none S (va_up I (m + 1) (va_cpy (I (m + 1)) (I (m + 1)) (608 * a) (608 * b) 608)) (va_up L (m + 2) (va_cpy (L (m + 2)) (L (m + 2)) (4 * a) (4 * b) 4)) R := by
  have h9 := k_copies_1 (d := d) (I := I) (L := L) (R := R) (Q := Q) h ha hb hab 608 0 (by omega)
  rw [cpyG_0, va_upid] at h9
  rw [ca_363]
  simp (disch := first | assumption | exact md_k h | exact md_k1 h | exact cw0 | exact vin1 h (by omega) | omega | exact sm_c hs | exact sm_w hs | exact sm_p hs | exact sm_pc hs | exact sm_b hs | exact sm_a hs | (simp (disch := first | assumption | omega) only [md_k, md_R0, md_k1, md_n1, md_R1, md_k2, md_n2, md_R5, md_k3, md_n3, md_R6, md_k4, md_n4, md_R7, md_k5, md_n5, md_R8, md_k6, md_n6, md_R9, md_k7, md_n7, md_R21, md_k8, md_n8, md_R25, md_k9, md_n9, md_R26, md_k10, md_n10, md_R27, md_k11, md_n11, md_R28, md_k12, md_n12, md_R29, md_k13, md_n13, md_R32, md_k14, md_n14, md_R33, md_k15, md_n15, md_R34, md_k16, md_n16, md_R36, md_k17, md_n17, md_R41, md_k18, md_n18, md_R42, md_k19, md_n19, md_R43, md_k20, md_n20, vin, cw_nil, cw_int, cw_ref, cw_long, bI_01]; done) | (simp (disch := first | assumption | omega) only [md_k, md_R0, md_k1, md_n1, md_R1, md_k2, md_n2, md_R5, md_k3, md_n3, md_R6, md_k4, md_n4, md_R7, md_k5, md_n5, md_R8, md_k6, md_n6, md_R9, md_k7, md_n7, md_R21, md_k8, md_n8, md_R25, md_k9, md_n9, md_R26, md_k10, md_n10, md_R27, md_k11, md_n11, md_R28, md_k12, md_n12, md_R29, md_k13, md_n13, md_R32, md_k14, md_n14, md_R33, md_k15, md_n15, md_R34, md_k16, md_n16, md_R36, md_k17, md_n17, md_R41, md_k18, md_n18, md_R42, md_k19, md_n19, md_R43, md_k20, md_n20, cw_nil, cw_int, cw_ref, cw_long]; omega) | decide) only [x_363_0, x_363_1, x_363_3, x_363_6, x_363_9, x_363_10, x_363_13, x_363_16, x_363_17, x_363_18, x_363_19, x_363_20, x_363_21, x_363_24, x_363_27, x_363_28, x_363_29, x_363_30, x_363_31, x_363_32, x_363_33, x_363_36, x_363_39, x_363_40, x_363_41, x_363_42, x_363_43, x_363_46, x_363_47, x_363_50, x_363_51, x_363_52, x_363_53, x_363_54, x_363_55, x_363_56, x_363_59, x_363_60, x_363_61, x_363_62, x_363_63, x_363_64, x_363_65, x_363_66, x_363_69, x_363_72, ↓reduceIte, va_rf_some, cw_nil, cw_int, cw_ref, cw_long, kl_int, kl_ref, kl_null, kl_long, kl_none, Option.toList_some, Option.toList_none, List.cons_append, List.nil_append, List.append_nil, md_k, md_R0, md_k1, md_n1, md_R1, md_k2, md_n2, md_R5, md_k3, md_n3, md_R6, md_k4, md_n4, md_R7, md_k5, md_n5, md_R8, md_k6, md_n6, md_R9, md_k7, md_n7, md_R21, md_k8, md_n8, md_R25, md_k9, md_n9, md_R26, md_k10, md_n10, md_R27, md_k11, md_n11, md_R28, md_k12, md_n12, md_R29, md_k13, md_n13, md_R32, md_k14, md_n14, md_R33, md_k15, md_n15, md_R34, md_k16, md_n16, md_R36, md_k17, md_n17, md_R41, md_k18, md_n18, md_R42, md_k19, md_n19, md_R43, md_k20, md_n20, nI_add, pk_mul, nI_clamp, nI_ltI, nI_leI, nI_eq, Nat.reduceLT, Nat.reduceLeDiff, Nat.reduceEqDiff, Nat.reduceAdd, Nat.reduceMul, Nat.reduceSub, if_true, if_false, not_true, not_false_eq_true, decide_true, decide_false, Nat.lt_irrefl, Nat.le_refl, Nat.not_lt_zero, Nat.zero_le]
  exact h9
theorem prg_bool {f : Nat → Int32} {a : Nat} (h : PrgR A a f I) : I (a + 20) 0 = nI 0 ∨ I (a + 20) 0 = nI 1 := by
  unfold PrgR at h
  rcases h with h | h
  · exact Or.inl h.1
  · exact Or.inr h.1
end P27
