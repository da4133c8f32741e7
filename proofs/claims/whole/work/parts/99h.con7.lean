/-! The constructor of the class, whole. -/
section CN8
variable {f g : Nat → Nat} {I : mI} {L : mL} {R : mR} {Q : mQ} {d t x : Nat}
def Sn (n x : Nat) (f f' g g' : Nat → Nat) (I I' : mI) (L L' : mL) (R R' : mR) : Prop := ∀ a, a < n → a ≠ x → a ≠ x + 59 → f' a = f a ∧ g' a = g a ∧ I' a = I a ∧ L' a = L a ∧ R' a = R a
theorem Sn.tr {n n' : Nat} {f1 f2 f3 g1 g2 g3 : Nat → Nat} {I1 I2 I3 : mI} {L1 L2 L3 : mL} {R1 R2 R3 : mR} (h1 : Sn n x f1 f2 g1 g2 I1 I2 L1 L2 R1 R2) (h2 : Sn n' x f2 f3 g2 g3 I2 I3 L2 L3 R2 R3) (h : n ≤ n') : Sn n x f1 f3 g1 g3 I1 I3 L1 L3 R1 R3 := by
  intro a q1 q2 q3
  obtain ⟨a1, a2, a3, a4, a5⟩ := h1 a q1 q2 q3
  obtain ⟨b1, b2, b3, b4, b5⟩ := h2 a (by omega) q2 q3
  exact ⟨b1.trans a1, b2.trans a2, b3.trans a3, b4.trans a4, b5.trans a5⟩
theorem Sm.sn {n : Nat} {f' g' : Nat → Nat} {I' : mI} {L' : mL} {R' : mR} (h : Sm n x f f' g g' I I' L L' R R') : Sn n x f f' g g' I I' L L' R R' := fun a q1 q2 _ => h a q1 q2
theorem Sn.sr {n lo hi : Nat} {f' g' : Nat → Nat} {I' : mI} {L' : mL} {R' : mR} (h : Sn n x f f' g g' I I' L L' R R') (h1 : hi ≤ n) (h2 : x < lo) (h3 : hi ≤ x + 59 ∨ x + 59 < lo) : SameR lo hi f f' g g' I I' R R' := fun b q1 q2 => by
  obtain ⟨a1, a2, a3, a4, a5⟩ := h b (by omega) (by omega) (by omega)
  exact ⟨a1, a2, a3, a5⟩
set_option maxHeartbeats 4000000 in
theorem ci_1 {q q1 : Nat} (hx0 : 0 < x) (hk : f x = 0) (hI : I x = fun _ => 0) (hL : L x = fun _ => 0) (hq : R 0 0 = some q) (hs : f q = 200) (hqx : q < x) (hq1 : R 0 1 = some q1) (hs1 : f q1 = 201) (hq1x : q1 < x) (go : ∀ f' g' I' L' R', (∀ a, a < x → f' a = f a ∧ g' a = g a ∧ I' a = I a ∧ L' a = L a ∧ R' a = R a) → clL (x + 163, f', g') R' x → I' x = va_up (va_up (fun _ => 0) 4 (-1)) 5 (-1) → L' x = va_up (fun _ => 0) 2 (lN 1) → I' (x + 5) = (fun _ => 0) → (∀ j, j < 4 → I' (x + 6) j = -1) → (∀ b, x + 7 ≤ b → b < x + 33 → I' b = fun _ => 0) → OwnR (L' (x + 139)) → Q none (x + 163, f', g') I' L' R') : CA (d + 6) 1 [.ref x] (x + 1, f, g) I L R Q := by
  refine s1_A hk ?_
  intro f0 g0 I0 L0 R0 sA kA iA lA rA tA1 tA2
  refine s1_B kA ?_
  intro f1 g1 I1 L1 R1 sB xB b1 b2 b3 b4 b5 b6 b7
  have k1 : f1 x = 0 := xB.1.trans kA
  refine s1_C k1 ?_
  intro f2 g2 I2 L2 R2 sC xC cS
  have k2 : f2 x = 0 := xC.1.trans k1
  refine s1_D k2 ?_
  intro f3 g3 I3 L3 R3 sD xD dS
  have k3 : f3 x = 0 := xD.1.trans k2
  refine s1_E k3 ?_
  intro f4 g4 I4 L4 R4 sE xE e59
  have k4 : f4 x = 0 := xE.1.trans k3
  have r4 : R4 x 13 = some (x + 59) := by rw [xE.2.2.2, va_up_self]
  refine s1_F (i := 0) (t := x + 60) (by omega) k4 r4 e59.1 e59.2 (by omega) (by omega) (by omega) ?_
  intro f5 g5 I5 L5 R5 u0 v0 w0 z0
  have k5 : f5 x = 0 := (u0 x (by omega)).1.trans k4
  have r5 : R5 x = R4 x := v0 x (by omega) (by omega)
  have f59 : f5 (x + 59) = 103 := (u0 _ (by omega)).1.trans e59.1
  have g59 : g5 (x + 59) = 3 := (u0 _ (by omega)).2.1.trans e59.2
  refine s1_F (i := 1) (t := x + 86) (by omega) k5 (by rw [r5]; exact r4) f59 g59 (by omega) (by omega) (by omega) ?_
  intro f6 g6 I6 L6 R6 u1 v1 w1 z1
  have k6 : f6 x = 0 := (u1 x (by omega)).1.trans k5
  have r6 : R6 x = R4 x := (v1 x (by omega) (by omega)).trans r5
  have f59b : f6 (x + 59) = 103 := (u1 _ (by omega)).1.trans f59
  have g59b : g6 (x + 59) = 3 := (u1 _ (by omega)).2.1.trans g59
  refine s1_F (i := 2) (t := x + 112) (by omega) k6 (by rw [r6]; exact r4) f59b g59b (by omega) (by omega) (by omega) ?_
  intro f7 g7 I7 L7 R7 u2 v2 w2 z2
  have k7 : f7 x = 0 := (u2 x (by omega)).1.trans k6
  have r7 : R7 x = R4 x := (v2 x (by omega) (by omega)).trans r6
  have D0 := sB.sn
  have D1 := sC.sn
  have D2 := sD.sn
  have D3 := sE.sn
  have D4 : Sn (x + 60) x f4 f5 g4 g5 I4 I5 L4 L5 R4 R5 := fun a q1 _ q3 => ⟨(u0 a q1).1, (u0 a q1).2.1, (u0 a q1).2.2.1, (u0 a q1).2.2.2, v0 a q1 q3⟩
  have D5 : Sn (x + 86) x f5 f6 g5 g6 I5 I6 L5 L6 R5 R6 := fun a q1 _ q3 => ⟨(u1 a q1).1, (u1 a q1).2.1, (u1 a q1).2.2.1, (u1 a q1).2.2.2, v1 a q1 q3⟩
  have D6 : Sn (x + 112) x f6 f7 g6 g7 I6 I7 L6 L7 R6 R7 := fun a q1 _ q3 => ⟨(u2 a q1).1, (u2 a q1).2.1, (u2 a q1).2.2.1, (u2 a q1).2.2.2, v2 a q1 q3⟩
  have Z7 := ((((((sA.sn.tr D0 (by omega)).tr D1 (by omega)).tr D2 (by omega)).tr D3 (by omega)).tr D4 (by omega)).tr D5 (by omega)).tr D6 (by omega)
  have C7 := ((((D2.tr D3 (by omega)).tr D4 (by omega)).tr D5 (by omega)).tr D6 (by omega))
  have E7 := (((D3.tr D4 (by omega)).tr D5 (by omega)).tr D6 (by omega))
  refine s1_G (q := q) k7 hx0 ?_ ?_ hqx ?_
  · rw [(Z7 0 (by omega) (by omega) (by omega)).2.2.2.2]; exact hq
  · exact (Z7 q (by omega) (by omega) (by omega)).1.trans hs
  intro f8 g8 I8 L8 R8 sG xG gk gO gR
  have k8 : f8 x = 0 := xG.1.trans k7
  have D7 := sG.sn
  have q12 : R4 x 12 = some (x + 33) := by rw [xE.2.2.2, va_up_ne _ _ (by omega), xD.2.2.2, va_up_self]
  have q11 : R4 x 11 = some (x + 7) := by rw [xE.2.2.2, va_up_ne _ _ (by omega), xD.2.2.2, va_up_ne _ _ (by omega), xC.2.2.2, va_up_self]
  refine s1_H k8 ?_ ?_ ?_
  · rw [xG.2.2.2, va_up_self]
  · rw [xG.2.2.2, va_up_ne _ _ (by omega), r7]; exact q12
  intro f9 g9 I9 L9 R9 sH xH h8 h0 h1
  have k9 : f9 x = 0 := xH.1.trans k8
  have D8 := sH.sn
  have r9 : ∀ j, j ≠ 14 → j ≠ 15 → R9 x j = R4 x j := fun j j1 j2 => by rw [xH.2.2.2, va_up_ne _ _ j2, xG.2.2.2, va_up_ne _ _ j1, r7]
  have E9 := (E7.tr D7 (by omega)).tr D8 (by omega)
  have C9 := (C7.tr D7 (by omega)).tr D8 (by omega)
  refine s1_I k9 ?_ ?_ ?_ ?_ ?_ ?_
  · rw [xH.2.2.2, va_up_ne _ _ (by omega), xG.2.2.2, va_up_self]
  · rw [r9 11 (by omega) (by omega)]; exact q11
  · rw [r9 12 (by omega) (by omega)]; exact q12
  · exact (E9 (x + 33) (by omega) (by omega) (by omega)).1.trans dS.1.1
  · rw [(E9 (x + 33) (by omega) (by omega) (by omega)).2.2.2.2]; exact dS.1.2.2.2.2.1
  intro f10 g10 I10 L10 R10 sI xI i9 iA' iR3 i0 i1 i2
  have k10 : f10 x = 0 := xI.1.trans k9
  have D9 := sI.sn
  have C10 := C9.tr D9 (by omega)
  have c7 := C10 (x + 7) (by omega) (by omega) (by omega)
  refine s1_J k10 ?_ ?_ ?_ ?_ ?_
  · rw [xI.2.2.2, va_up_ne _ _ (by omega), r9 11 (by omega) (by omega)]; exact q11
  · exact c7.1.trans cS.1.1
  · rw [c7.2.2.2.2]; exact cS.1.2.1
  · rw [c7.2.2.2.2]; exact cS.1.2.2.1
  intro f11 g11 I11 L11 R11 sJ xJ j10 j1 j2 j3 j4 jr0 jr1 jr2 jr3 jr4 jr5 jr6 jS
  have k11 : f11 x = 0 := xJ.1.trans k10
  have D10 := sJ.sn
  have C11 := C10.tr D10 (by omega)
  have d7 := C11 (x + 7) (by omega) (by omega) (by omega)
  refine s1_K k11 ?_ ?_ ?_ ?_
  · rw [xJ.2.2.2, va_up_ne _ _ (by omega), xI.2.2.2, va_up_ne _ _ (by omega), r9 11 (by omega) (by omega)]; exact q11
  · exact d7.1.trans cS.1.1
  · rw [d7.2.2.2.2]; exact cS.1.2.2.2.2.1
  intro f12 g12 I12 L12 R12 sK xK k11' kT kr2 kr0 kr1
  have D11 := sK.sn
  have T10 := D10.tr D11 (by omega)
  have T9 := D9.tr T10 (by omega)
  have T8 := D8.tr T9 (by omega)
  have T7 := D7.tr T8 (by omega)
  have T6 := D6.tr T7 (by omega)
  have T5 := D5.tr T6 (by omega)
  have T4 := D4.tr T5 (by omega)
  have T3 := D3.tr T4 (by omega)
  have T2 := D2.tr T3 (by omega)
  have T1 := D1.tr T2 (by omega)
  have T0 := D0.tr T1 (by omega)
  have TZ := sA.sn.tr T0 (by omega)
  have RX : R12 x = va_up (va_up (va_up (va_up (va_up (R4 x) 14 (some (x + 138))) 15 (some (x + 141))) 16 (some (x + 142))) 17 (some (x + 144))) 18 (some (x + 161)) := by rw [xK.2.2.2, xJ.2.2.2, xI.2.2.2, xH.2.2.2, xG.2.2.2, r7]
  have R4X : R4 x = va_up (va_up (va_up (va_up (va_up (va_up (R x) 8 (some (x + 1))) 9 (some (x + 2))) 10 (some (x + 3))) 11 (some (x + 7))) 12 (some (x + 33))) 13 (some (x + 59)) := by rw [xE.2.2.2, xD.2.2.2, xC.2.2.2, xB.2.2.2, rA]
  rw [R4X] at RX
  have bC := bSt.cg (T2.sr (lo := x + 7) (hi := x + 7 + 26) (by omega) (by omega) (by omega)) cS
  have bD := bSt.cg (T3.sr (lo := x + 33) (hi := x + 33 + 26) (by omega) (by omega) (by omega)) dS
  have bF0 := bSt.cg (T5.sr (lo := x + 60) (hi := x + 60 + 26) (by omega) (by omega) (by omega)) z0
  have bF1 := bSt.cg (T6.sr (lo := x + 86) (hi := x + 86 + 26) (by omega) (by omega) (by omega)) z1
  have bF2 := bSt.cg (T7.sr (lo := x + 112) (hi := x + 112 + 26) (by omega) (by omega) (by omega)) z2
  have bF : ∀ k, k < 3 → bSt f12 g12 I12 R12 (x + 60 + 26 * k) := by
    intro k hk
    have : k = 0 ∨ k = 1 ∨ k = 2 := by omega
    rcases this with q | q | q <;> subst q
    · exact bF0
    · exact bF1
    · exact bF2
  have M7 : f12 (x + 59) = f7 (x + 59) ∧ g12 (x + 59) = g7 (x + 59) ∧ R12 (x + 59) = R7 (x + 59) := by
    obtain ⟨p1, p2, -, -, p5⟩ := sK (x + 59) (by omega) (by omega)
    obtain ⟨o1, o2, -, -, o5⟩ := sJ (x + 59) (by omega) (by omega)
    obtain ⟨n1, n2, -, -, n5⟩ := sI (x + 59) (by omega) (by omega)
    obtain ⟨m1, m2, -, -, m5⟩ := sH (x + 59) (by omega) (by omega)
    obtain ⟨l1, l2, -, -, l5⟩ := sG (x + 59) (by omega) (by omega)
    exact ⟨by rw [p1, o1, n1, m1, l1], by rw [p2, o2, n2, m2, l2], by rw [p5, o5, n5, m5, l5]⟩
  have M59 : f12 (x + 59) = 103 := by rw [M7.1, (u2 _ (by omega)).1]; exact f59b
  have N59 : g12 (x + 59) = 3 := by rw [M7.2.1, (u2 _ (by omega)).2.1]; exact g59b
  have R59 : ∀ k, k < 3 → R12 (x + 59) k = some (x + 60 + 26 * k) := by
    intro k hk
    rw [M7.2.2, w2, w1, w0]
    have : k = 0 ∨ k = 1 ∨ k = 2 := by omega
    rcases this with q | q | q <;> subst q <;> simp (disch := omega) only [va_up_ne, va_up_self]
  have t0 := fun a (h1 : x < a) (h2 : a < x + 3) => T0 a h2 (by omega) (by omega)
  have t1 := fun a (h1 : x < a) (h2 : a < x + 7) => T1 a h2 (by omega) (by omega)
  have t8 := fun a (h1 : x + 59 < a) (h2 : a < x + 141) => T8 a h2 (by omega) (by omega)
  have t9 := fun a (h1 : x + 59 < a) (h2 : a < x + 142) => T9 a h2 (by omega) (by omega)
  have t10 := fun a (h1 : x + 59 < a) (h2 : a < x + 144) => T10 a h2 (by omega) (by omega)
  have t11 := fun a (h1 : x + 59 < a) (h2 : a < x + 161) => D11 a h2 (by omega) (by omega)
  have lC := bC.1.2.2.2.2.2
  have lnd : lndL (0, f12, g12) R12 (x + 7 + 1) := lC.2.2.2.2.2.2.2.2.2.2.2.2.1
  have flk : flkL (0, f12, g12) R12 (x + 7 + 8) := lC.2.2.2.2.2.2.2.2.2.2.2.2.2.1
  have zz : ∀ a, a < x → f12 a = f a ∧ g12 a = g a ∧ I12 a = I a ∧ L12 a = L a ∧ R12 a = R a := fun a ha => TZ a (by omega) (by omega) (by omega)

  have sl : ∀ k, k < 3 → stnL (x + 163, f12, g12) R12 (x + 8) (x + 15) (x + 149 + 4 * k) := by
    intro k hk
    have h := rStn_cg (I := I11) (I' := I12) (f' := f12) (g' := g12) (R' := R12) (fun b h1 h2 => by
      obtain ⟨a1, a2, a3, a4, a5⟩ := D11 b (by omega) (by omega) (by omega)
      exact ⟨a1, a2, a3, a5⟩) (jS k hk).2
    obtain ⟨s1, s2, s3, s4, s5, s6, s7, s8, s9, s10, s11, s12⟩ := h
    exact ⟨s1, s2, s3, s4, s5, s6, s7, s8, s9, s10, s11, s12, lnd, flk, by omega, by omega⟩
  have hcl : clL (x + 163, f12, g12) R12 x :=
    clL.mk (xK.1.trans k11) (by rw [RX]; simp (disch := omega) only [va_up_ne, va_up_self]) ((t0 (x + 1) (by omega) (by omega)).1.trans tA1.1) ((t0 (x + 1) (by omega) (by omega)).2.1.trans tA1.2) (by rw [RX]; simp (disch := omega) only [va_up_ne, va_up_self]) ((t0 (x + 2) (by omega) (by omega)).1.trans tA2.1) ((t0 (x + 2) (by omega) (by omega)).2.1.trans tA2.2) (by rw [RX]; simp (disch := omega) only [va_up_ne, va_up_self]) ((t1 (x + 3) (by omega) (by omega)).1.trans b1) (by rw [(t1 (x + 3) (by omega) (by omega)).2.2.2.2]; exact b3) ((t1 (x + 4) (by omega) (by omega)).1.trans b2.1) ((t1 (x + 4) (by omega) (by omega)).2.1.trans b2.2) (by rw [(t1 (x + 3) (by omega) (by omega)).2.2.2.2]; exact b5) ((t1 (x + 5) (by omega) (by omega)).1.trans b4.1) ((t1 (x + 5) (by omega) (by omega)).2.1.trans b4.2.1) (by rw [(t1 (x + 3) (by omega) (by omega)).2.2.2.2]; exact b7) ((t1 (x + 6) (by omega) (by omega)).1.trans b6.1) ((t1 (x + 6) (by omega) (by omega)).2.1.trans b6.2.1) (by rw [RX]; simp (disch := omega) only [va_up_ne, va_up_self]) bC.1 bC.2.1 (by rw [RX]; simp (disch := omega) only [va_up_ne, va_up_self]) bD.1 bD.2.1 (by rw [RX]; simp (disch := omega) only [va_up_ne, va_up_self]) M59 N59 R59 (fun k hk => (bF k hk).1) (fun k hk => (bF k hk).2.1) (by rw [RX]; simp (disch := omega) only [va_up_ne, va_up_self]) ((t8 (x + 138) (by omega) (by omega)).1.trans gk) (by rw [(t8 (x + 138) (by omega) (by omega)).2.2.2.2]; exact gR) ((t8 (x + 139) (by omega) (by omega)).1.trans gO.1) ((t8 (x + 139) (by omega) (by omega)).2.1.trans gO.2.1) (by rw [RX]; simp (disch := omega) only [va_up_ne, va_up_self]) ((t9 (x + 141) (by omega) (by omega)).1.trans h8) (by rw [(t9 (x + 141) (by omega) (by omega)).2.2.2.2]; exact h0) (by rw [(t9 (x + 141) (by omega) (by omega)).2.2.2.2]; exact h1) (by rw [RX]; simp (disch := omega) only [va_up_ne, va_up_self]) ((t10 (x + 142) (by omega) (by omega)).1.trans i9) (by rw [(t10 (x + 142) (by omega) (by omega)).2.2.2.2]; exact i0) (by rw [(t10 (x + 142) (by omega) (by omega)).2.2.2.2]; exact i1) (by rw [(t10 (x + 142) (by omega) (by omega)).2.2.2.2]; exact i2) (by rw [(t10 (x + 142) (by omega) (by omega)).2.2.2.2]; exact iR3) ((t10 (x + 143) (by omega) (by omega)).1.trans iA'.1) ((t10 (x + 143) (by omega) (by omega)).2.1.trans iA'.2) (by rw [RX]; simp (disch := omega) only [va_up_ne, va_up_self]) ((t11 (x + 144) (by omega) (by omega)).1.trans j10) (by rw [(t11 (x + 144) (by omega) (by omega)).2.2.2.2]; exact jr0) (by rw [(t11 (x + 144) (by omega) (by omega)).2.2.2.2]; exact jr1) (by rw [(t11 (x + 144) (by omega) (by omega)).2.2.2.2]; exact jr2) (by rw [(t11 (x + 144) (by omega) (by omega)).2.2.2.2]; exact jr3) ((t11 (x + 148) (by omega) (by omega)).1.trans j4.1) ((t11 (x + 148) (by omega) (by omega)).2.1.trans j4.2) (by rw [(t11 (x + 144) (by omega) (by omega)).2.2.2.2]; exact jr4) ((t11 (x + 145) (by omega) (by omega)).1.trans j1.1) ((t11 (x + 145) (by omega) (by omega)).2.1.trans j1.2) (by rw [(t11 (x + 144) (by omega) (by omega)).2.2.2.2]; exact jr5) ((t11 (x + 146) (by omega) (by omega)).1.trans j2.1) ((t11 (x + 146) (by omega) (by omega)).2.1.trans j2.2) (by rw [(t11 (x + 144) (by omega) (by omega)).2.2.2.2]; exact jr6) ((t11 (x + 147) (by omega) (by omega)).1.trans j3.1) ((t11 (x + 147) (by omega) (by omega)).2.1.trans j3.2) (fun k hk => by rw [(t11 (x + 148) (by omega) (by omega)).2.2.2.2]; exact (jS k hk).1) (fun k hk => sl k hk) (by rw [RX]; simp (disch := omega) only [va_up_ne, va_up_self]) k11' kr0 kr1 kr2 kT.1 kT.2 ⟨q1, by rw [(zz 0 hx0).2.2.2.2]; exact hq1, (zz q1 hq1x).1.trans hs1⟩
  refine go f12 g12 I12 L12 R12 zz hcl ?_ ?_ ?_ ?_ ?_ ?_
  · rw [xK.2.1, xJ.2.1, xI.2.1, xH.2.1, xG.2.1, (u2 x (by omega)).2.2.1, (u1 x (by omega)).2.2.1, (u0 x (by omega)).2.2.1, xE.2.1, xD.2.1, xC.2.1, xB.2.1, iA, hI]
  · rw [xK.2.2.1, xJ.2.2.1, xI.2.2.1, xH.2.2.1, xG.2.2.1, (u2 x (by omega)).2.2.2, (u1 x (by omega)).2.2.2, (u0 x (by omega)).2.2.2, xE.2.2.1, xD.2.2.1, xC.2.2.1, xB.2.2.1, lA, hL]
  · rw [(t1 (x + 5) (by omega) (by omega)).2.2.1]; exact b4.2.2
  · intro j hj
    rw [(t1 (x + 6) (by omega) (by omega)).2.2.1]; exact b6.2.2 j hj
  · intro b h1 h2
    exact bC.2.2 b h1 (by omega)
  · rw [(t8 (x + 139) (by omega) (by omega)).2.2.2.1]; exact gO.2.2
end CN8

