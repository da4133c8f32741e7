/-! A walker is read, whole: the model. -/
section KM8
variable {S : mS} {I J : mI} {L K : mL} {R : mR} {Q : mQ} {d m n k i lo hx : Nat} {B : Nat → Nat} {s : SG} {N : AS} {NL : Nat → List Nat} {mt : Bool}
def FrL (m : Nat) (L L' : mL) : Prop := (∀ b, b ≠ m + 2 → L' b = L b) ∧ ∀ j, j < 16 ∨ 20 ≤ j → L' (m + 2) j = L (m + 2) j
theorem FrL.rf : FrL m L L := ⟨fun _ _ => rfl, fun _ _ => rfl⟩
theorem FrL.tr {L1 L2 L3 : mL} (h1 : FrL m L1 L2) (h2 : FrL m L2 L3) : FrL m L1 L3 := ⟨fun b q => (h2.1 b q).trans (h1.1 b q), fun j q => (h2.2 j q).trans (h1.2 j q)⟩
noncomputable def wE (B : Nat → Nat) (n : Nat) (N : AS) (NL : Nat → List Nat) (s : SG) : SG := (sP B n 15 0 21 (sP B n 14 1 31 (sP B n 13 1 4 (sN B n 1 21 (sW B n 12 (sC B n (N 0) (N 1) (sW B n 11 (sC B n (N 0) (N 1) (sW B n 10 (sNN B n NL (N 2) s))))))))))

theorem wl_row {f : Nat → Int32} {u v gu gv we re lo ld : Nat} (h4 : N 2 < 4) (hz : ∀ k, k < 14 → wI N (N 2) k = 0) (h : rowA (fun j => f (2432 + j)) N) : rowA (fun j => (va_up (va_up (va_up (va_up (va_up (va_up (va_up (va_up (va_up (va_up (va_up (va_up (va_up f ((2618 + 14 * N 2) + 8) (nI u)) ((2618 + 14 * N 2) + 8 + 1) (nI v)) ((2618 + 14 * N 2) + 4) (nI gu)) ((2618 + 14 * N 2) + 4 + 1) (nI gv)) (2618 + 14 * N 2) (nI we)) ((2618 + 14 * N 2) + 8 + 3) (nI u)) ((2618 + 14 * N 2) + 8 + 4) (nI v)) ((2618 + 14 * N 2) + 1) (nI 1)) ((2618 + 14 * N 2) + 2) (nI 10)) ((2618 + 14 * N 2) + 1) (nI re)) ((2618 + 14 * N 2) + 2) (nI lo)) ((2618 + 14 * N 2) + 3) (nI ld)) 2434 (nI (N 2 + 1))) (2432 + j)) (wlA N u v gu gv we re lo ld) ∧ (va_up (va_up (va_up (va_up (va_up (va_up (va_up (va_up (va_up (va_up (va_up (va_up (va_up f ((2618 + 14 * N 2) + 8) (nI u)) ((2618 + 14 * N 2) + 8 + 1) (nI v)) ((2618 + 14 * N 2) + 4) (nI gu)) ((2618 + 14 * N 2) + 4 + 1) (nI gv)) (2618 + 14 * N 2) (nI we)) ((2618 + 14 * N 2) + 8 + 3) (nI u)) ((2618 + 14 * N 2) + 8 + 4) (nI v)) ((2618 + 14 * N 2) + 1) (nI 1)) ((2618 + 14 * N 2) + 2) (nI 10)) ((2618 + 14 * N 2) + 1) (nI re)) ((2618 + 14 * N 2) + 2) (nI lo)) ((2618 + 14 * N 2) + 3) (nI ld)) 2434 (nI (N 2 + 1))) 2437 = f 2437 := by
  refine ⟨?_, by simp (disch := omega) only [va_up_ne]⟩
  intro j hj h5
  show (va_up (va_up (va_up (va_up (va_up (va_up (va_up (va_up (va_up (va_up (va_up (va_up (va_up f ((2618 + 14 * N 2) + 8) (nI u)) ((2618 + 14 * N 2) + 8 + 1) (nI v)) ((2618 + 14 * N 2) + 4) (nI gu)) ((2618 + 14 * N 2) + 4 + 1) (nI gv)) (2618 + 14 * N 2) (nI we)) ((2618 + 14 * N 2) + 8 + 3) (nI u)) ((2618 + 14 * N 2) + 8 + 4) (nI v)) ((2618 + 14 * N 2) + 1) (nI 1)) ((2618 + 14 * N 2) + 2) (nI 10)) ((2618 + 14 * N 2) + 1) (nI re)) ((2618 + 14 * N 2) + 2) (nI lo)) ((2618 + 14 * N 2) + 3) (nI ld)) 2434 (nI (N 2 + 1))) (2432 + j) = nI (wlA N u v gu gv we re lo ld j)
  unfold wlA
  by_cases z0 : j = 2
  · rw [if_pos z0, show 2432 + j = 2434 by omega]; simp (disch := omega) only [va_up_ne, va_up_self]
  · rw [if_neg z0]
    by_cases z1 : 186 + 14 * N 2 ≤ j ∧ j < 200 + 14 * N 2
    · rw [if_pos z1]
      unfold wlK
      obtain ⟨k, hk, e⟩ : ∃ k, k < 14 ∧ j = 186 + 14 * N 2 + k := ⟨j - (186 + 14 * N 2), by omega, by omega⟩
      have e1 : j - (186 + 14 * N 2) = k := by omega
      have e2 : 2432 + j = (2618 + 14 * N 2) + k := by omega
      have e3 := h j hj h5
      have e4 := hz k hk
      unfold wI at e4
      rw [← e] at e4
      rw [e4] at e3
      replace e3 : f ((2618 + 14 * N 2) + k) = nI 0 := by rw [← e2]; exact e3
      rw [e1, e2]
      rw [Nat.add_assoc] at e3
      clear e1 e2 e4 e z1 z0 hz h
      have : k = 0 ∨ k = 1 ∨ k = 2 ∨ k = 3 ∨ k = 4 ∨ k = 5 ∨ k = 6 ∨ k = 7 ∨ k = 8 ∨ k = 9 ∨ k = 10 ∨ k = 11 ∨ k = 12 ∨ k = 13 := by omega
      rcases this with q | q | q | q | q | q | q | q | q | q | q | q | q | q <;> subst q <;> simp (disch := omega) only [va_up_ne, va_up_self, e3, Nat.add_assoc, Nat.reduceAdd, Nat.add_zero, Nat.reduceEqDiff, if_true, if_false, or_true, true_or, or_false, false_or, or_self, ↓reduceIte]
    · rw [if_neg z1]
      simp (disch := omega) only [va_up_ne]
      exact h j hj h5
end KM8

