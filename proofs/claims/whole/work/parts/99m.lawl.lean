/-! What holds when both objects are made. -/
section LI
variable {f g : Nat → Nat} {I : mI} {L : mL} {R : mR} {Q : mQ} {d t x : Nat}
variable {f' g' : Nat → Nat} {I' : mI} {L' : mL} {R' : mR} {a n n' : Nat}
theorem staL_cg (e : SameR a (a + 26) f f' g g' I I R R') (h : staL (n, f, g) R a) : staL (n', f', g') R' a := by
  obtain ⟨h1, h2, h3, h4, h5, h6⟩ := h
  have e0 := e a (by omega) (by omega)
  refine ⟨e0.1.trans h1, ?_, ?_, ?_, ?_, stnL_cg (I := I) (I' := I) (e.sub (by omega) (by omega)) (e.sub (by omega) (by omega)) (e.sub (by omega) (by omega)) h6⟩
  · rw [e0.2.2.2]; exact h2
  · rw [e0.2.2.2]; exact h3
  · rw [e0.2.2.2]; exact h4
  · rw [e0.2.2.2]; exact h5
theorem clL_cg (hc : clL (n, f, g) R x) (e1 : ∀ a, a < x + 163 → f' a = f a) (e2 : ∀ a, a < x + 163 → g' a = g a) (e3 : ∀ a, a < x + 163 → R' a = R a) (hkey : ∃ q, R' 0 1 = some q ∧ kd (n', f', g') q = 201) : clL (n', f', g') R' x := by
  obtain ⟨I0⟩ : Nonempty mI := ⟨fun _ _ => 0⟩
  have e4 : ∀ b, b < x + 163 → f' b = f b ∧ g' b = g b ∧ I0 b = I0 b ∧ R' b = R b := fun b h => ⟨e1 b h, e2 b h, rfl, e3 b h⟩
  exact clL.mk ((e1 _ (by omega)).trans hc.k0) (by rw [e3 _ (by omega)]; exact hc.rTape) ((e1 _ (by omega)).trans hc.kTape) ((e2 _ (by omega)).trans hc.nTape) (by rw [e3 _ (by omega)]; exact hc.rLived) ((e1 _ (by omega)).trans hc.kLived) ((e2 _ (by omega)).trans hc.nLived) (by rw [e3 _ (by omega)]; exact hc.rTr) ((e1 _ (by omega)).trans hc.kTr) (by rw [e3 _ (by omega)]; exact hc.rTrN) ((e1 _ (by omega)).trans hc.kTrN) ((e2 _ (by omega)).trans hc.nTrN) (by rw [e3 _ (by omega)]; exact hc.rTrS) ((e1 _ (by omega)).trans hc.kTrS) ((e2 _ (by omega)).trans hc.nTrS) (by rw [e3 _ (by omega)]; exact hc.rTrZ) ((e1 _ (by omega)).trans hc.kTrZ) ((e2 _ (by omega)).trans hc.nTrZ) (by rw [e3 _ (by omega)]; exact hc.rNow) (staL_cg (I := I0) (fun b h1 h2 => e4 b (by omega)) hc.sNow) (prgL_cg (I := I0) (I' := I0) (fun b h1 h2 => e4 b (by omega)) hc.pNow) (by rw [e3 _ (by omega)]; exact hc.rScr) (staL_cg (I := I0) (fun b h1 h2 => e4 b (by omega)) hc.sScr) (prgL_cg (I := I0) (I' := I0) (fun b h1 h2 => e4 b (by omega)) hc.pScr) (by rw [e3 _ (by omega)]; exact hc.rMks) ((e1 _ (by omega)).trans hc.kMks) ((e2 _ (by omega)).trans hc.nMks) (fun k hk => by rw [e3 _ (by omega)]; exact hc.rMk k hk) (fun k hk => staL_cg (fun b h1 h2 => e4 b (by omega)) (hc.sMk k hk)) (fun k hk => prgL_cg (I := I0) (I' := I0) (fun b h1 h2 => e4 b (by omega)) (hc.pMk k hk)) (by rw [e3 _ (by omega)]; exact hc.rScn) ((e1 _ (by omega)).trans hc.kScn) (by rw [e3 _ (by omega)]; exact hc.rOwn) ((e1 _ (by omega)).trans hc.kOwn) ((e2 _ (by omega)).trans hc.nOwn) (by rw [e3 _ (by omega)]; exact hc.rMaR) ((e1 _ (by omega)).trans hc.kMaR) (by rw [e3 _ (by omega)]; exact hc.rMa0) (by rw [e3 _ (by omega)]; exact hc.rMa1) (by rw [e3 _ (by omega)]; exact hc.rMoR) ((e1 _ (by omega)).trans hc.kMoR) (by rw [e3 _ (by omega)]; exact hc.rMo0) (by rw [e3 _ (by omega)]; exact hc.rMo1) (by rw [e3 _ (by omega)]; exact hc.rMo2) (by rw [e3 _ (by omega)]; exact hc.rOpn) ((e1 _ (by omega)).trans hc.kOpn) ((e2 _ (by omega)).trans hc.nOpn) (by rw [e3 _ (by omega)]; exact hc.rSea) ((e1 _ (by omega)).trans hc.kSea) (by rw [e3 _ (by omega)]; exact hc.rSe0) (by rw [e3 _ (by omega)]; exact hc.rSe1) (by rw [e3 _ (by omega)]; exact hc.rSe2) (by rw [e3 _ (by omega)]; exact hc.rLev) ((e1 _ (by omega)).trans hc.kLev) ((e2 _ (by omega)).trans hc.nLev) (by rw [e3 _ (by omega)]; exact hc.rCos) ((e1 _ (by omega)).trans hc.kCos) ((e2 _ (by omega)).trans hc.nCos) (by rw [e3 _ (by omega)]; exact hc.rNei) ((e1 _ (by omega)).trans hc.kNei) ((e2 _ (by omega)).trans hc.nNei) (by rw [e3 _ (by omega)]; exact hc.rSum) ((e1 _ (by omega)).trans hc.kSum) ((e2 _ (by omega)).trans hc.nSum) (fun k hk => by rw [e3 _ (by omega)]; exact hc.rLv k hk) (fun k hk => stnL_cg (I := I0) (I' := I0) (fun b h1 h2 => e4 b (by omega)) (fun b h1 h2 => e4 b (by omega)) (fun b h1 h2 => e4 b (by omega)) (hc.sLv k hk)) (by rw [e3 _ (by omega)]; exact hc.rLiv) ((e1 _ (by omega)).trans hc.kLiv) (by rw [e3 _ (by omega)]; exact hc.rLi0) (by rw [e3 _ (by omega)]; exact hc.rLi1) (by rw [e3 _ (by omega)]; exact hc.rTim) ((e1 _ (by omega)).trans hc.kTim) ((e2 _ (by omega)).trans hc.nTim) hkey
theorem sta_no (h : ∀ b, a ≤ b → b < a + 26 → I b = fun _ => 0) : StaR noA a I := by
  have z : fmk noA = 0 := msk_z (fun i hi => absurd hi (Nat.not_lt_zero _))
  have z2 : flm noA = 0 := msk_z (fun i hi => absurd hi (Nat.not_lt_zero _))
  have zz : ∀ b j, a ≤ b → b < a + 26 → I b j = nI 0 := fun b j h1 h2 => by rw [h b h1 h2]; rfl
  refine StaR.mk ⟨zz _ _ (by omega) (by omega), zz _ _ (by omega) (by omega), zz _ _ (by omega) (by omega), zz _ _ (by omega) (by omega), by rw [z]; exact zz _ _ (by omega) (by omega), fun c hc => absurd hc (Nat.not_lt_zero _)⟩ (FolkR.mk (zz _ _ (by omega) (by omega)) ?_ ?_ ?_ ?_ ?_) ?_ (StnR.mk (by rw [z2]; exact zz _ _ (by omega) (by omega)) (zz _ _ (by omega) (by omega)) ?_ ?_ ?_)
  all_goals (intro w hw; exact absurd hw (Nat.not_lt_zero _))
theorem inv_new {b : Nat} {S : mS} (hc : clL S R x) (hm : MdL S R (x + 163)) (hb : b < x) (iX : I x = va_up (va_up (fun _ => 0) 4 (-1)) 5 (-1)) (lX : L x = va_up (fun _ => 0) 2 (lN 1)) (i5 : I (x + 5) = fun _ => 0) (i6 : ∀ j, j < 4 → I (x + 6) j = -1) (iN : ∀ c, x + 7 ≤ c → c < x + 33 → I c = fun _ => 0) (ow : OwnR (L (x + 139))) (iM : ∀ j, j ≠ 16 → j ≠ 17 → I (x + 163) j = 0) (m16 : I (x + 163) 16 = -1) (m17 : I (x + 163) 17 = -1) (m3 : L (x + 163) 3 = 0) (m4 : L (x + 163) 4 = lN 1) (mr : ∀ j, j < 608 → j ≠ 5 → I (x + 163 + 1) j = nI 0) (mr5 : I (x + 163 + 1) 5 = -1) (ms : I (x + 163 + 3) = fun _ => 0) (mz : ∀ j, j < 4 → I (x + 163 + 4) j = -1) : INV x b (I b) S I L R := by
  have x0 : ∀ j, j ≠ 4 → j ≠ 5 → I x j = nI 0 := fun j h1 h2 => by rw [iX, va_up_ne _ _ h2, va_up_ne _ _ h1]; rfl
  have m0 : ∀ j, j ≠ 16 → j ≠ 17 → I (x + 163) j = nI 0 := fun j h1 h2 => (iM j h1 h2).trans rfl
  refine ⟨noA, INVA.mk hc hm hb rfl ⟨0, by omega, x0 0 (by omega) (by omega), m0 2 (by omega) (by omega)⟩ ?_ ?_ ⟨0, by omega, x0 3 (by omega) (by omega), m0 10 (by omega) (by omega), fun j hj => absurd hj (Nat.not_lt_zero _)⟩ ?_ ?_ (Or.inl ⟨x0 7 (by omega) (by omega), m0 44 (by omega) (by omega)⟩) ?_ ?_ ow ⟨0, by omega, x0 6 (by omega) (by omega), m0 45 (by omega) (by omega), fun j hj => absurd hj (Nat.not_lt_zero _)⟩⟩
  · rw [lX, va_up_ne _ _ (by omega), m3]
  · rw [lX, va_up_self, m4]
  · rw [iX, va_up_ne _ _ (by omega), va_up_self, m16]
  · rw [iX, va_up_self, m17]
  · intro t ht
    refine ⟨⟨0, by omega, by rw [i5]; rfl, by rw [ms]; rfl⟩, Or.inl ⟨i6 t ht, mz t ht⟩⟩
  · refine slotA.mk IvM.no.1 (Nat.zero_le _) (fun w hw => absurd hw (Nat.not_lt_zero _)) (fun w hw => absurd hw (Nat.not_lt_zero _)) (fun j hj h5 => ?_) (sta_no (fun c h1 h2 => iN c h1 (by omega))) (fun w hw => absurd hw (Nat.not_lt_zero _)) (Or.inl ⟨?_, ?_⟩)
    · simp only [Nat.zero_add]; exact mr j (by omega) h5
    · rw [iN (x + 7 + 20) (by omega) (by omega)]; rfl
    · simp only [Nat.zero_add]; exact mr5
end LI
section LJ
variable {S : mS} {I : mI} {L : mL} {R : mR} {Q : mQ} {d x b i Lx bc bs : Nat} {xs : Nat → Int32}
theorem lt6 (hL : Lx ≤ 384) (hi : i ≤ 400) : (nI Lx - nI 6 < nI i) = (Lx < i + 6) := by
  by_cases z : 6 ≤ Lx
  · obtain ⟨m, rfl⟩ : ∃ m, Lx = m + 6 := ⟨Lx - 6, by omega⟩
    have e : nI (m + 6) - nI 6 = nI m := by
      rw [show nI (m + 6) = nI m + nI 6 from (nI_add m 6).symm]
      exact Int32.add_sub_cancel _ _
    rw [e, nI_ltI (by omega) (by omega)]
    exact propext ⟨fun h => by omega, fun h => by omega⟩
  · have h1 : nI Lx - nI 6 < nI 0 := by
      have : ∀ l, l < 6 → nI l - nI 6 < nI 0 := by decide
      exact this Lx (by omega)
    have h2 : nI 0 ≤ nI i := nI_le (by omega) (by omega)
    exact propext ⟨fun _ => by omega, fun _ => Int32.lt_of_lt_of_le h1 h2⟩
theorem law_l (hL : Lx ≤ 384) (hn : ln S b = Lx) (hb : kd S b = 110) (hQ : ∀ I L R, Q (some (.int (nI 1))) S I L R) : ∀ (k i : Nat) (I : mI) (L : mL) (R : mR), i ≤ 390 → Lx < i + 6 + 6 * k → INV x b xs S I L R → WP (d + 41, bc, bs) 0 18 [some (.ref b), some (.ref x), some (.ref (x + 163)), some (.int (nI i))] [] S I L R Q
  | k, i, I, L, R, hi, hk, hI => by
    have k6 : kd S b = 100 ∨ kd S b = 101 ∨ kd S b = 102 ∨ kd S b = 103 ∨ kd S b = 104 ∨ kd S b = 110 := Or.inr (Or.inr (Or.inr (Or.inr (Or.inr hb))))
    have l6 := lt6 (i := i) hL (by omega)
    by_cases z : Lx < i + 6
    · have h9 := hQ I L R
      simp (disch := first | assumption | exact cw0 | omega | (simp only [cw_nil, cw_int, cw_ref, cw_long]; omega) | decide) only [x_0_18, x_0_19, x_0_20, x_0_21, x_0_23, x_0_24, ↓reduceIte, va_rf_some, cw_nil, cw_int, cw_ref, cw_long, kl_int, kl_ref, kl_null, kl_long, kl_none, Option.toList_some, Option.toList_none, List.cons_append, List.nil_append, List.append_nil, nI_add, nI_clamp, nI_ltI, nI_leI, nI_eq, Nat.reduceLT, Nat.reduceLeDiff, Nat.reduceEqDiff, Nat.reduceAdd, Nat.reduceMul, Nat.reduceSub, if_true, if_false, not_true, not_false_eq_true, decide_true, decide_false, Nat.lt_irrefl, Nat.le_refl, Nat.not_lt_zero, Nat.zero_le, hn, l6, eq_true z]
      simp (disch := first | assumption | exact cw0 | omega | (simp only [cw_nil, cw_int, cw_ref, cw_long]; omega) | decide) only [x_0_2187, x_0_2190, x_0_2193, x_0_2194, ↓reduceIte, va_rf_some, cw_nil, cw_int, cw_ref, cw_long, kl_int, kl_ref, kl_null, kl_long, kl_none, Option.toList_some, Option.toList_none, List.cons_append, List.nil_append, List.append_nil, nI_add, nI_clamp, nI_ltI, nI_leI, nI_eq, Nat.reduceLT, Nat.reduceLeDiff, Nat.reduceEqDiff, Nat.reduceAdd, Nat.reduceMul, Nat.reduceSub, if_true, if_false, not_true, not_false_eq_true, decide_true, decide_false, Nat.lt_irrefl, Nat.le_refl, Nat.not_lt_zero, Nat.zero_le]
      exact h9
    · cases k with
      | zero => exact (z (by omega)).elim
      | succ k =>
        have hi6 : i + 6 ≤ Lx := by omega
        have go : ∀ I' L' R', INV x b xs S I' L' R' → WP (d + 41, bc, bs) 0 2187 [some (.ref b), some (.ref x), some (.ref (x + 163)), some (.int (nI i))] [] S I' L' R' Q := by
          intro I' L' R' h'
          simp (disch := first | assumption | exact cw0 | omega | (simp only [cw_nil, cw_int, cw_ref, cw_long]; omega) | decide) only [x_0_2187, x_0_2190, ↓reduceIte, va_rf_some, cw_nil, cw_int, cw_ref, cw_long, kl_int, kl_ref, kl_null, kl_long, kl_none, Option.toList_some, Option.toList_none, List.cons_append, List.nil_append, List.append_nil, nI_add, nI_clamp, nI_ltI, nI_leI, nI_eq, Nat.reduceLT, Nat.reduceLeDiff, Nat.reduceEqDiff, Nat.reduceAdd, Nat.reduceMul, Nat.reduceSub, if_true, if_false, not_true, not_false_eq_true, decide_true, decide_false, Nat.lt_irrefl, Nat.le_refl, Nat.not_lt_zero, Nat.zero_le]
          exact law_l hL hn hb hQ k (i + 6) I' L' R' (by omega) (by omega) h'
        have v0 : vp_in (nI i) (ln S b) := by rw [hn]; exact of_eq_true (vin (by omega) (by omega))
        simp (disch := first | assumption | exact cw0 | omega | (simp only [cw_nil, cw_int, cw_ref, cw_long]; omega) | decide) only [x_0_18, x_0_19, x_0_20, x_0_21, x_0_23, x_0_24, x_0_27, x_0_28, x_0_29, x_0_30, x_0_32, ↓reduceIte, va_rf_some, cw_nil, cw_int, cw_ref, cw_long, kl_int, kl_ref, kl_null, kl_long, kl_none, Option.toList_some, Option.toList_none, List.cons_append, List.nil_append, List.append_nil, nI_add, nI_clamp, nI_ltI, nI_leI, nI_eq, Nat.reduceLT, Nat.reduceLeDiff, Nat.reduceEqDiff, Nat.reduceAdd, Nat.reduceMul, Nat.reduceSub, if_true, if_false, not_true, not_false_eq_true, decide_true, decide_false, Nat.lt_irrefl, Nat.le_refl, Nat.not_lt_zero, Nat.zero_le, hn, l6, eq_false z]
        obtain ⟨j, hj, e⟩ := pk_andE (I b i) (m := nI 63) 6 (by decide)
        rw [e]
        by_cases j58 : j < 58
        · have h58 := j58
          rcases Nat.lt_succ_iff_lt_or_eq.mp h58 with h57 | q
          rotate_left
          · subst q
            rw [x_0_33_57]
            exact lc_57 hI hb hn hi6 hL go
          rcases Nat.lt_succ_iff_lt_or_eq.mp h57 with h56 | q
          rotate_left
          · subst q
            rw [x_0_33_56]
            exact lc_56 hI hb hn hi6 hL go
          rcases Nat.lt_succ_iff_lt_or_eq.mp h56 with h55 | q
          rotate_left
          · subst q
            rw [x_0_33_55]
            exact lc_55 hI hb hn hi6 hL go
          rcases Nat.lt_succ_iff_lt_or_eq.mp h55 with h54 | q
          rotate_left
          · subst q
            rw [x_0_33_54]
            exact lc_54 hI hb hn hi6 hL go
          rcases Nat.lt_succ_iff_lt_or_eq.mp h54 with h53 | q
          rotate_left
          · subst q
            rw [x_0_33_53]
            exact lc_53 hI hb hn hi6 hL go
          rcases Nat.lt_succ_iff_lt_or_eq.mp h53 with h52 | q
          rotate_left
          · subst q
            rw [x_0_33_52]
            exact lc_52 hI hb hn hi6 hL go
          rcases Nat.lt_succ_iff_lt_or_eq.mp h52 with h51 | q
          rotate_left
          · subst q
            rw [x_0_33_51]
            exact lc_51 hI hb hn hi6 hL go
          rcases Nat.lt_succ_iff_lt_or_eq.mp h51 with h50 | q
          rotate_left
          · subst q
            rw [x_0_33_50]
            exact lc_50 hI hb hn hi6 hL go
          rcases Nat.lt_succ_iff_lt_or_eq.mp h50 with h49 | q
          rotate_left
          · subst q
            rw [x_0_33_49]
            exact lc_49 hI hb hn hi6 hL go
          rcases Nat.lt_succ_iff_lt_or_eq.mp h49 with h48 | q
          rotate_left
          · subst q
            rw [x_0_33_48]
            exact lc_48 hI hb hn hi6 hL go
          rcases Nat.lt_succ_iff_lt_or_eq.mp h48 with h47 | q
          rotate_left
          · subst q
            rw [x_0_33_47]
            exact lc_47 hI hb hn hi6 hL go
          rcases Nat.lt_succ_iff_lt_or_eq.mp h47 with h46 | q
          rotate_left
          · subst q
            rw [x_0_33_46]
            exact lc_46 hI hb hn hi6 hL go
          rcases Nat.lt_succ_iff_lt_or_eq.mp h46 with h45 | q
          rotate_left
          · subst q
            rw [x_0_33_45]
            exact lc_45 hI hb hn hi6 hL go
          rcases Nat.lt_succ_iff_lt_or_eq.mp h45 with h44 | q
          rotate_left
          · subst q
            rw [x_0_33_44]
            exact lc_44 hI hb hn hi6 hL go
          rcases Nat.lt_succ_iff_lt_or_eq.mp h44 with h43 | q
          rotate_left
          · subst q
            rw [x_0_33_43]
            exact lc_43 hI hb hn hi6 hL go
          rcases Nat.lt_succ_iff_lt_or_eq.mp h43 with h42 | q
          rotate_left
          · subst q
            rw [x_0_33_42]
            exact lc_42 hI hb hn hi6 hL go
          rcases Nat.lt_succ_iff_lt_or_eq.mp h42 with h41 | q
          rotate_left
          · subst q
            rw [x_0_33_41]
            exact lc_41 hI hb hn hi6 hL go
          rcases Nat.lt_succ_iff_lt_or_eq.mp h41 with h40 | q
          rotate_left
          · subst q
            rw [x_0_33_40]
            exact lc_40 hI hb hn hi6 hL go
          rcases Nat.lt_succ_iff_lt_or_eq.mp h40 with h39 | q
          rotate_left
          · subst q
            rw [x_0_33_39]
            exact lc_39 hI hb hn hi6 hL go
          rcases Nat.lt_succ_iff_lt_or_eq.mp h39 with h38 | q
          rotate_left
          · subst q
            rw [x_0_33_38]
            exact lc_38 hI hb hn hi6 hL go
          rcases Nat.lt_succ_iff_lt_or_eq.mp h38 with h37 | q
          rotate_left
          · subst q
            rw [x_0_33_37]
            exact lc_37 hI hb hn hi6 hL go
          rcases Nat.lt_succ_iff_lt_or_eq.mp h37 with h36 | q
          rotate_left
          · subst q
            rw [x_0_33_36]
            exact lc_36 hI hb hn hi6 hL go
          rcases Nat.lt_succ_iff_lt_or_eq.mp h36 with h35 | q
          rotate_left
          · subst q
            rw [x_0_33_35]
            exact lc_35 hI hb hn hi6 hL go
          rcases Nat.lt_succ_iff_lt_or_eq.mp h35 with h34 | q
          rotate_left
          · subst q
            rw [x_0_33_34]
            exact lc_34 hI hb hn hi6 hL go
          rcases Nat.lt_succ_iff_lt_or_eq.mp h34 with h33 | q
          rotate_left
          · subst q
            rw [x_0_33_33]
            exact lc_33 hI hb hn hi6 hL go
          rcases Nat.lt_succ_iff_lt_or_eq.mp h33 with h32 | q
          rotate_left
          · subst q
            rw [x_0_33_32]
            exact lc_32 hI hb hn hi6 hL go
          rcases Nat.lt_succ_iff_lt_or_eq.mp h32 with h31 | q
          rotate_left
          · subst q
            rw [x_0_33_31]
            exact lc_31 hI hb hn hi6 hL go
          rcases Nat.lt_succ_iff_lt_or_eq.mp h31 with h30 | q
          rotate_left
          · subst q
            rw [x_0_33_30]
            exact lc_30 hI hb hn hi6 hL go
          rcases Nat.lt_succ_iff_lt_or_eq.mp h30 with h29 | q
          rotate_left
          · subst q
            rw [x_0_33_29]
            exact lc_29 hI hb hn hi6 hL go
          rcases Nat.lt_succ_iff_lt_or_eq.mp h29 with h28 | q
          rotate_left
          · subst q
            rw [x_0_33_28]
            exact lc_28 hI hb hn hi6 hL go
          rcases Nat.lt_succ_iff_lt_or_eq.mp h28 with h27 | q
          rotate_left
          · subst q
            rw [x_0_33_27]
            exact lc_27 hI hb hn hi6 hL go
          rcases Nat.lt_succ_iff_lt_or_eq.mp h27 with h26 | q
          rotate_left
          · subst q
            rw [x_0_33_26]
            exact lc_26 hI hb hn hi6 hL go
          rcases Nat.lt_succ_iff_lt_or_eq.mp h26 with h25 | q
          rotate_left
          · subst q
            rw [x_0_33_25]
            exact lc_25 hI hb hn hi6 hL go
          rcases Nat.lt_succ_iff_lt_or_eq.mp h25 with h24 | q
          rotate_left
          · subst q
            rw [x_0_33_24]
            exact lc_24 hI hb hn hi6 hL go
          rcases Nat.lt_succ_iff_lt_or_eq.mp h24 with h23 | q
          rotate_left
          · subst q
            rw [x_0_33_23]
            exact lc_23 hI hb hn hi6 hL go
          rcases Nat.lt_succ_iff_lt_or_eq.mp h23 with h22 | q
          rotate_left
          · subst q
            rw [x_0_33_22]
            exact lc_22 hI hb hn hi6 hL go
          rcases Nat.lt_succ_iff_lt_or_eq.mp h22 with h21 | q
          rotate_left
          · subst q
            rw [x_0_33_21]
            exact lc_21 hI hb hn hi6 hL go
          rcases Nat.lt_succ_iff_lt_or_eq.mp h21 with h20 | q
          rotate_left
          · subst q
            rw [x_0_33_20]
            exact lc_20 hI hb hn hi6 hL go
          rcases Nat.lt_succ_iff_lt_or_eq.mp h20 with h19 | q
          rotate_left
          · subst q
            rw [x_0_33_19]
            exact lc_19 hI hb hn hi6 hL go
          rcases Nat.lt_succ_iff_lt_or_eq.mp h19 with h18 | q
          rotate_left
          · subst q
            rw [x_0_33_18]
            exact lc_18 hI hb hn hi6 hL go
          rcases Nat.lt_succ_iff_lt_or_eq.mp h18 with h17 | q
          rotate_left
          · subst q
            rw [x_0_33_17]
            exact lc_17 hI hb hn hi6 hL go
          rcases Nat.lt_succ_iff_lt_or_eq.mp h17 with h16 | q
          rotate_left
          · subst q
            rw [x_0_33_16]
            exact lc_16 hI hb hn hi6 hL go
          rcases Nat.lt_succ_iff_lt_or_eq.mp h16 with h15 | q
          rotate_left
          · subst q
            rw [x_0_33_15]
            exact lc_15 hI hb hn hi6 hL go
          rcases Nat.lt_succ_iff_lt_or_eq.mp h15 with h14 | q
          rotate_left
          · subst q
            rw [x_0_33_14]
            exact lc_14 hI hb hn hi6 hL go
          rcases Nat.lt_succ_iff_lt_or_eq.mp h14 with h13 | q
          rotate_left
          · subst q
            rw [x_0_33_13]
            exact lc_13 hI hb hn hi6 hL go
          rcases Nat.lt_succ_iff_lt_or_eq.mp h13 with h12 | q
          rotate_left
          · subst q
            rw [x_0_33_12]
            exact lc_12 hI hb hn hi6 hL go
          rcases Nat.lt_succ_iff_lt_or_eq.mp h12 with h11 | q
          rotate_left
          · subst q
            rw [x_0_33_11]
            exact lc_11 hI hb hn hi6 hL go
          rcases Nat.lt_succ_iff_lt_or_eq.mp h11 with h10 | q
          rotate_left
          · subst q
            rw [x_0_33_10]
            exact lc_10 hI hb hn hi6 hL go
          rcases Nat.lt_succ_iff_lt_or_eq.mp h10 with h9 | q
          rotate_left
          · subst q
            rw [x_0_33_9]
            exact lc_9 hI hb hn hi6 hL go
          rcases Nat.lt_succ_iff_lt_or_eq.mp h9 with h8 | q
          rotate_left
          · subst q
            rw [x_0_33_8]
            exact lc_8 hI hb hn hi6 hL go
          rcases Nat.lt_succ_iff_lt_or_eq.mp h8 with h7 | q
          rotate_left
          · subst q
            rw [x_0_33_7]
            exact lc_7 hI hb hn hi6 hL go
          rcases Nat.lt_succ_iff_lt_or_eq.mp h7 with h6 | q
          rotate_left
          · subst q
            rw [x_0_33_6]
            exact lc_6 hI hb hn hi6 hL go
          rcases Nat.lt_succ_iff_lt_or_eq.mp h6 with h5 | q
          rotate_left
          · subst q
            rw [x_0_33_5]
            exact lc_5 hI hb hn hi6 hL go
          rcases Nat.lt_succ_iff_lt_or_eq.mp h5 with h4 | q
          rotate_left
          · subst q
            rw [x_0_33_4]
            exact lc_4 hI hb hn hi6 hL go
          rcases Nat.lt_succ_iff_lt_or_eq.mp h4 with h3 | q
          rotate_left
          · subst q
            rw [x_0_33_3]
            exact lc_3 hI hb hn hi6 hL go
          rcases Nat.lt_succ_iff_lt_or_eq.mp h3 with h2 | q
          rotate_left
          · subst q
            rw [x_0_33_2]
            exact lc_2 hI hb hn hi6 hL go
          rcases Nat.lt_succ_iff_lt_or_eq.mp h2 with h1 | q
          rotate_left
          · subst q
            rw [x_0_33_1]
            exact lc_1 hI hb hn hi6 hL go
          rcases Nat.lt_succ_iff_lt_or_eq.mp h1 with h0 | q
          rotate_left
          · subst q
            rw [x_0_33_0]
            exact lc_0 hI hb hn hi6 hL go
          exact absurd h0 (Nat.not_lt_zero _)
        · have dflt : tsw 2154 0 57 #[247, 260, 274, 288, 331, 404, 438, 501, 564, 587, 610, 633, 656, 699, 732, 775, 828, 851, 894, 927, 960, 1003, 1036, 1079, 1102, 1135, 1188, 1211, 1244, 1277, 1320, 1343, 1386, 1409, 1452, 1475, 1498, 1561, 1584, 1627, 1660, 1703, 1736, 1779, 1802, 1815, 1858, 1911, 1934, 1957, 1980, 2003, 2016, 2049, 2072, 2095, 2128, 2141] (nI j) = some 2154 := by
            unfold tsw
            rw [if_pos]
            refine Or.inr ?_
            rw [nI_toInt (by omega)]
            omega
          rw [x_0_33 (off := 2154) (t := 2187) dflt (by decide)]
          exact go I L R hI
end LJ

