/-! A walker is read, from its first word on: the model. -/
section KM9
variable {S : mS} {I J : mI} {L K : mL} {R : mR} {Q : mQ} {d m n k i lo hx : Nat} {B : Nat → Nat} {s : SG} {N : AS} {NL : Nat → List Nat} {mt : Bool}

theorem wl_83 (hX : CtM S R m B n J) (hS : ScM B n m s J) (hz : s.2.1 = 0) (hM : MRow N m J) (hW : WFA N) (h4 : N 2 < 4) (go1 : ∀ J', ScM B n m (sP B n 15 0 21 (sP B n 14 1 31 (sP B n 13 1 4 (sN B n 1 21 (sW B n 12 (sC B n (N 0) (N 1) (sW B n 11 (sC B n (N 0) (N 1) (sW B n 10 s))))))))) J' → FrN m J J' → MRow (wlA N ((cVn B n (N 0) (N 1) (sW B n 10 s)).getD (0, 0)).1 ((cVn B n (N 0) (N 1) (sW B n 10 s)).getD (0, 0)).2 ((cVn B n (N 0) (N 1) (sW B n 11 (sC B n (N 0) (N 1) (sW B n 10 s)))).getD (0, 0)).1 ((cVn B n (N 0) (N 1) (sW B n 11 (sC B n (N 0) (N 1) (sW B n 10 s)))).getD (0, 0)).2 ((nVn B n 1 21 (sW B n 12 (sC B n (N 0) (N 1) (sW B n 11 (sC B n (N 0) (N 1) (sW B n 10 s)))))).getD 0) ((pVn B n 13 1 4 1 (sN B n 1 21 (sW B n 12 (sC B n (N 0) (N 1) (sW B n 11 (sC B n (N 0) (N 1) (sW B n 10 s))))))).getD 0) ((pVn B n 14 1 31 10 (sP B n 13 1 4 (sN B n 1 21 (sW B n 12 (sC B n (N 0) (N 1) (sW B n 11 (sC B n (N 0) (N 1) (sW B n 10 s)))))))).getD 0) ((pVn B n 15 0 21 0 (sP B n 14 1 31 (sP B n 13 1 4 (sN B n 1 21 (sW B n 12 (sC B n (N 0) (N 1) (sW B n 11 (sC B n (N 0) (N 1) (sW B n 10 s))))))))).getD 0)) m J' → (sP B n 15 0 21 (sP B n 14 1 31 (sP B n 13 1 4 (sN B n 1 21 (sW B n 12 (sC B n (N 0) (N 1) (sW B n 11 (sC B n (N 0) (N 1) (sW B n 10 s))))))))).2.1 = 0 → Q (some (.int (nI 1))) S J' L R) (go2 : ∀ J', ScM B n m (sP B n 15 0 21 (sP B n 14 1 31 (sP B n 13 1 4 (sN B n 1 21 (sW B n 12 (sC B n (N 0) (N 1) (sW B n 11 (sC B n (N 0) (N 1) (sW B n 10 s))))))))) J' → FrN m J J' → ¬ (sP B n 15 0 21 (sP B n 14 1 31 (sP B n 13 1 4 (sN B n 1 21 (sW B n 12 (sC B n (N 0) (N 1) (sW B n 11 (sC B n (N 0) (N 1) (sW B n 10 s))))))))).2.1 = 0 → Q (some (.int (nI 0))) S J' L R) : WP (d + 6, 0, 0) 238 83 [some (.ref m), some (.int (nI (N 2))), some (.int (nI (2618 + 14 * N 2)))] [] S J L R Q := by
  have h := hX.1
  have b0 : N 0 ≤ 6 := hW.2.1
  have b1 : N 1 ≤ 5 := hW.2.2.1
  have hz14 : ∀ k, k < 14 → wI N (N 2) k = 0 := fun k hk => hW.2.2.2.2.2.2.2.2.2.2.2.2.2.2.2.2.2.2.2.2.2.2.2 (N 2) (Nat.le_refl _) h4 k hk
  have hww : 2618 ≤ (2618 + 14 * N 2) ∧ (2618 + 14 * N 2) ≤ 2660 := by omega
  have w30 : J (m + 1) ((2618 + 14 * N 2) + 3) = nI 0 := by
    have := rr_in hM (j := 186 + 14 * N 2 + 3) (by omega) (by omega)
    rw [show 2432 + (186 + 14 * N 2 + 3) = (2618 + 14 * N 2) + 3 by omega] at this
    rw [this]
    exact congrArg nI (hz14 3 (by omega))
  have r0 := rr_in hM (j := 0) (by omega) (by omega)
  have r1 := rr_in hM (j := 1) (by omega) (by omega)
  have r2 := rr_in hM (j := 2) (by omega) (by omega)
  generalize hwd : (2618 + 14 * N 2) = ww at *
  refine wl_w10 (s := s) hX hS hz hww ?_ ?_
  rotate_left
  · intro Jx g f z
    have e : (sP B n 15 0 21 (sP B n 14 1 31 (sP B n 13 1 4 (sN B n 1 21 (sW B n 12 (sC B n (N 0) (N 1) (sW B n 11 (sC B n (N 0) (N 1) (sW B n 10 s))))))))) = (sW B n 10 s) := by rw [sC_nz z, sW_nz z, sC_nz z, sW_nz z, (sN_nz z).1, sP_nz z, sP_nz z, sP_nz z]
    exact go2 Jx (by rw [e]; exact g) (f) (by rw [e]; exact z)
  intro J1 g1 f1 e1 z1
  refine wl_c8 (s := (sW B n 10 s)) (a := N 0) (b := N 1) (hX.fr f1.1) g1 z1 hww b0 b1 (by rw [e1]; exact r0) (by rw [e1]; exact r1) ?_ ?_
  rotate_left
  · intro Jx g f z
    have e : (sP B n 15 0 21 (sP B n 14 1 31 (sP B n 13 1 4 (sN B n 1 21 (sW B n 12 (sC B n (N 0) (N 1) (sW B n 11 (sC B n (N 0) (N 1) (sW B n 10 s))))))))) = (sC B n (N 0) (N 1) (sW B n 10 s)) := by rw [sW_nz z, sC_nz z, sW_nz z, (sN_nz z).1, sP_nz z, sP_nz z, sP_nz z]
    exact go2 Jx (by rw [e]; exact g) (f1.tr f) (by rw [e]; exact z)
  intro J2 g2 f2 e2 z2
  obtain ⟨_, u, v, cv, hu, hv, n1, n2⟩ := sC_ok (s := (sW B n 10 s)) z2
  rw [n1, n2, e1] at e2
  have f12 := f1.tr f2
  refine wl_w11 (s := (sC B n (N 0) (N 1) (sW B n 10 s))) (hX.fr f12.1) g2 z2 hww ?_ ?_
  rotate_left
  · intro Jx g f z
    have e : (sP B n 15 0 21 (sP B n 14 1 31 (sP B n 13 1 4 (sN B n 1 21 (sW B n 12 (sC B n (N 0) (N 1) (sW B n 11 (sC B n (N 0) (N 1) (sW B n 10 s))))))))) = (sW B n 11 (sC B n (N 0) (N 1) (sW B n 10 s))) := by rw [sC_nz z, sW_nz z, (sN_nz z).1, sP_nz z, sP_nz z, sP_nz z]
    exact go2 Jx (by rw [e]; exact g) (f12.tr f) (by rw [e]; exact z)
  intro J3 g3 f3 e3 z3
  have f13 := f12.tr f3
  refine wl_c4 (s := (sW B n 11 (sC B n (N 0) (N 1) (sW B n 10 s)))) (a := N 0) (b := N 1) (hX.fr f13.1) g3 z3 hww b0 b1 (by rw [e3, e2, rowN_ne (by omega), rowN_ne (by omega)]; exact r0) (by rw [e3, e2, rowN_ne (by omega), rowN_ne (by omega)]; exact r1) ?_ ?_
  rotate_left
  · intro Jx g f z
    have e : (sP B n 15 0 21 (sP B n 14 1 31 (sP B n 13 1 4 (sN B n 1 21 (sW B n 12 (sC B n (N 0) (N 1) (sW B n 11 (sC B n (N 0) (N 1) (sW B n 10 s))))))))) = (sC B n (N 0) (N 1) (sW B n 11 (sC B n (N 0) (N 1) (sW B n 10 s)))) := by rw [sW_nz z, (sN_nz z).1, sP_nz z, sP_nz z, sP_nz z]
    exact go2 Jx (by rw [e]; exact g) (f13.tr f) (by rw [e]; exact z)
  intro J4 g4 f4 e4 z4
  obtain ⟨_, gu, gv, cv2, hgu, hgv, n3, n4⟩ := sC_ok (s := (sW B n 11 (sC B n (N 0) (N 1) (sW B n 10 s)))) z4
  rw [n3, n4, e3, e2] at e4
  have f14 := f13.tr f4
  refine wl_w12 (s := (sC B n (N 0) (N 1) (sW B n 11 (sC B n (N 0) (N 1) (sW B n 10 s))))) (hX.fr f14.1) g4 z4 hww ?_ ?_
  rotate_left
  · intro Jx g f z
    have e : (sP B n 15 0 21 (sP B n 14 1 31 (sP B n 13 1 4 (sN B n 1 21 (sW B n 12 (sC B n (N 0) (N 1) (sW B n 11 (sC B n (N 0) (N 1) (sW B n 10 s))))))))) = (sW B n 12 (sC B n (N 0) (N 1) (sW B n 11 (sC B n (N 0) (N 1) (sW B n 10 s))))) := by rw [(sN_nz z).1, sP_nz z, sP_nz z, sP_nz z]
    exact go2 Jx (by rw [e]; exact g) (f14.tr f) (by rw [e]; exact z)
  intro J5 g5 f5 e5 z5
  have f15 := f14.tr f5
  refine wl_n0 (s := (sW B n 12 (sC B n (N 0) (N 1) (sW B n 11 (sC B n (N 0) (N 1) (sW B n 10 s)))))) (hX.fr f15.1) g5 z5 hww ?_ ?_
  rotate_left
  · intro Jx g f z
    have e : (sP B n 15 0 21 (sP B n 14 1 31 (sP B n 13 1 4 (sN B n 1 21 (sW B n 12 (sC B n (N 0) (N 1) (sW B n 11 (sC B n (N 0) (N 1) (sW B n 10 s))))))))) = (sN B n 1 21 (sW B n 12 (sC B n (N 0) (N 1) (sW B n 11 (sC B n (N 0) (N 1) (sW B n 10 s)))))) := by rw [sP_nz z, sP_nz z, sP_nz z]
    exact go2 Jx (by rw [e]; exact g) (f15.tr f) (by rw [e]; exact z)
  intro J6 g6 f6 e6 z6
  obtain ⟨_, we, n5, _, _⟩ := sN_ok (s := (sW B n 12 (sC B n (N 0) (N 1) (sW B n 11 (sC B n (N 0) (N 1) (sW B n 10 s)))))) z6
  rw [n5, e5, e4] at e6
  have f16 := f15.tr f6
  refine wl_wr (u := u) (v := v) h hww (by rw [e6, rowN_ne (by omega), rowN_ne (by omega), rowN_ne (by omega), rowN_ne (by omega)]; exact va_up_self _ _ _) (by rw [e6, rowN_ne (by omega), rowN_ne (by omega), rowN_ne (by omega)]; exact va_up_self _ _ _) ?_
  intro J7 o7 e7
  have f17 := f16.tr (FrN.row o7 (fun j hj => by rw [e7]; simp (disch := omega) only [va_up_ne]))
  have g7 := g6.cg (o7 m (by omega))
  rw [e6] at e7
  refine wl_p13 (s := (sN B n 1 21 (sW B n 12 (sC B n (N 0) (N 1) (sW B n 11 (sC B n (N 0) (N 1) (sW B n 10 s))))))) (w := 1) (hX.fr f17.1) g7 z6 hww (by rw [e7, va_up_ne _ _ (by omega)]; exact va_up_self _ _ _) ?_ ?_
  rotate_left
  · intro Jx g f z
    have e : (sP B n 15 0 21 (sP B n 14 1 31 (sP B n 13 1 4 (sN B n 1 21 (sW B n 12 (sC B n (N 0) (N 1) (sW B n 11 (sC B n (N 0) (N 1) (sW B n 10 s))))))))) = (sP B n 13 1 4 (sN B n 1 21 (sW B n 12 (sC B n (N 0) (N 1) (sW B n 11 (sC B n (N 0) (N 1) (sW B n 10 s))))))) := by rw [sP_nz z, sP_nz z]
    exact go2 Jx (by rw [e]; exact g) (f17.tr f) (by rw [e]; exact z)
  intro J8 g8 f8 e8 z8
  obtain ⟨_, re, p1, _, _⟩ := sP_ok (s := (sN B n 1 21 (sW B n 12 (sC B n (N 0) (N 1) (sW B n 11 (sC B n (N 0) (N 1) (sW B n 10 s))))))) (w := 1) z8 (by omega)
  rw [p1] at e8
  have f18 := f17.tr f8
  refine wl_p14 (s := (sP B n 13 1 4 (sN B n 1 21 (sW B n 12 (sC B n (N 0) (N 1) (sW B n 11 (sC B n (N 0) (N 1) (sW B n 10 s)))))))) (w := 10) (hX.fr f18.1) g8 z8 hww (by rw [e8, rowN_ne (by omega), e7]; exact va_up_self _ _ _) ?_ ?_
  rotate_left
  · intro Jx g f z
    have e : (sP B n 15 0 21 (sP B n 14 1 31 (sP B n 13 1 4 (sN B n 1 21 (sW B n 12 (sC B n (N 0) (N 1) (sW B n 11 (sC B n (N 0) (N 1) (sW B n 10 s))))))))) = (sP B n 14 1 31 (sP B n 13 1 4 (sN B n 1 21 (sW B n 12 (sC B n (N 0) (N 1) (sW B n 11 (sC B n (N 0) (N 1) (sW B n 10 s)))))))) := by rw [sP_nz z]
    exact go2 Jx (by rw [e]; exact g) (f18.tr f) (by rw [e]; exact z)
  intro J9 g9 f9 e9 z9
  obtain ⟨_, lo, p2, _, _⟩ := sP_ok (s := (sP B n 13 1 4 (sN B n 1 21 (sW B n 12 (sC B n (N 0) (N 1) (sW B n 11 (sC B n (N 0) (N 1) (sW B n 10 s)))))))) (w := 10) z9 (by omega)
  rw [p2] at e9
  have f19 := f18.tr f9
  refine wl_p15 (s := (sP B n 14 1 31 (sP B n 13 1 4 (sN B n 1 21 (sW B n 12 (sC B n (N 0) (N 1) (sW B n 11 (sC B n (N 0) (N 1) (sW B n 10 s))))))))) (w := 0) (hX.fr f19.1) g9 z9 hww (by
    rw [e9, rowN_ne (by omega), e8, rowN_ne (by omega), e7]
    simp (disch := omega) only [va_up_ne]
    rw [rowN_ne (by omega), rowN_ne (by omega), rowN_ne (by omega), rowN_ne (by omega), rowN_ne (by omega)]
    exact w30) ?_ ?_
  rotate_left
  · intro Jx g f z
    have e : (sP B n 15 0 21 (sP B n 14 1 31 (sP B n 13 1 4 (sN B n 1 21 (sW B n 12 (sC B n (N 0) (N 1) (sW B n 11 (sC B n (N 0) (N 1) (sW B n 10 s))))))))) = (sP B n 15 0 21 (sP B n 14 1 31 (sP B n 13 1 4 (sN B n 1 21 (sW B n 12 (sC B n (N 0) (N 1) (sW B n 11 (sC B n (N 0) (N 1) (sW B n 10 s))))))))) := by rfl
    exact go2 Jx (by rw [e]; exact g) (f19.tr f) (by rw [e]; exact z)
  intro J10 g10 f10 e10 z10
  obtain ⟨_, ld, p3, _, _⟩ := sP_ok (s := (sP B n 14 1 31 (sP B n 13 1 4 (sN B n 1 21 (sW B n 12 (sC B n (N 0) (N 1) (sW B n 11 (sC B n (N 0) (N 1) (sW B n 10 s))))))))) (w := 0) z10 (by omega)
  rw [p3] at e10
  have f110 := f19.tr f10
  refine wl_end (c := N 2) h (by
    rw [e10, rowN_ne (by omega), e9, rowN_ne (by omega), e8, rowN_ne (by omega), e7]
    simp (disch := omega) only [va_up_ne]
    rw [rowN_ne (by omega), rowN_ne (by omega), rowN_ne (by omega), rowN_ne (by omega), rowN_ne (by omega)]
    exact r2) h4 ?_
  intro J11 o11 e11
  rw [cv, cv2, n5, p1, p2, p3] at go1
  refine go1 J11 (g10.cg (o11 m (by omega))) (f110.tr (FrN.row o11 (fun j hj => by rw [e11]; simp (disch := omega) only [va_up_ne]))) ?_ z10
  have e12 : J11 (m + 1) = va_up (va_up (va_up (va_up (va_up (va_up (va_up (va_up (va_up (va_up (va_up (va_up (va_up (J (m + 1)) ((2618 + 14 * N 2) + 8) (nI u)) ((2618 + 14 * N 2) + 8 + 1) (nI v)) ((2618 + 14 * N 2) + 4) (nI gu)) ((2618 + 14 * N 2) + 4 + 1) (nI gv)) (2618 + 14 * N 2) (nI we)) ((2618 + 14 * N 2) + 8 + 3) (nI u)) ((2618 + 14 * N 2) + 8 + 4) (nI v)) ((2618 + 14 * N 2) + 1) (nI 1)) ((2618 + 14 * N 2) + 2) (nI 10)) ((2618 + 14 * N 2) + 1) (nI re)) ((2618 + 14 * N 2) + 2) (nI lo)) ((2618 + 14 * N 2) + 3) (nI ld)) 2434 (nI (N 2 + 1)) := by
    rw [e11, e10, e9, e8, e7, hwd]
    rfl
  have := wl_row (u := u) (v := v) (gu := gu) (gv := gv) (we := we) (re := re) (lo := lo) (ld := ld) h4 hz14 hM.1
  refine ⟨?_, ?_⟩
  · rw [e12]; exact this.1
  · rw [e12, this.2]; exact hM.2
end KM9

