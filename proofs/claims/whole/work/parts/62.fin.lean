/-! Calls that change the state at one place. -/
section P11
variable {S : mS} {I J : mI} {L : mL} {R : mR} {Q : mQ} {d x m mo sc : Nat} {s0 : Nat → Int32} {A B : AS}
theorem k_isFrom {w : Int32} {lo hi : Nat} (h1 : lo < 2 ^ 31) (h2 : hi < 2 ^ 31) : CA d 284 [.long w.toInt64, .long (lN lo), .long (lN hi)] S I L R Q = Q (some (.int (bI (¬ w < nI lo ∧ ¬ nI hi < w)))) S I L R := by
  have e1 : (lg_cmp w.toInt64 (lN lo) < nI 0) = (w < nI lo) := by
    apply propext
    refine (lg_cmp_lt _ _).trans ?_
    rw [Int64.lt_iff_toInt_lt, Int32.lt_iff_toInt_lt, lN_toInt h1, nI_toInt h1, Int32.toInt_toInt64]
  have e2 : (nI 0 < lg_cmp w.toInt64 (lN hi)) = (nI hi < w) := by
    apply propext
    refine (lg_cmp_gt _ _).trans ?_
    rw [Int64.lt_iff_toInt_lt, Int32.lt_iff_toInt_lt, lN_toInt h2, nI_toInt h2, Int32.toInt_toInt64]
  rw [ca_284]
  simp (disch := first | exact Or.inl rfl | exact Or.inr rfl) only [x_284_0, x_284_1, x_284_2, x_284_3, x_284_6, x_284_7, x_284_9, x_284_10, x_284_13, x_284_14, x_284_17, x_284_18, ↓reduceIte, va_rf_some, cw_nil, cw_int, cw_ref, cw_long, kl_int, kl_ref, kl_null, kl_long, kl_none, Option.toList_some, Option.toList_none, List.cons_append, List.nil_append, List.append_nil, e1, e2]
  by_cases g1 : w < nI lo <;> by_cases g2 : nI hi < w <;> simp [bI, g1, g2]
theorem k_isFrom1 {n lo hi : Nat} (h2 : hi < 2 ^ 31) (g1 : lo ≤ n) (g2 : n ≤ hi) : CA d 284 [.long (nI n).toInt64, .long (lN lo), .long (lN hi)] S I L R Q = Q (some (.int (nI 1))) S I L R := by
  rw [k_isFrom (by omega) h2, bI_t]
  rw [nI_ltI (by omega) (by omega), nI_ltI (by omega) (by omega)]
  omega
theorem k_isFrom0 {w : Int32} {lo hi : Nat} (h1 : lo < 2 ^ 31) (h2 : hi < 2 ^ 31) (g : ¬ (¬ w < nI lo ∧ ¬ nI hi < w)) : CA d 284 [.long w.toInt64, .long (lN lo), .long (lN hi)] S I L R Q = Q (some (.int (nI 0))) S I L R := by
  rw [k_isFrom h1 h2, bI_f g]
theorem argF (w : Int32) {lo hi : Nat} (h1 : lo < 2 ^ 31) (h2 : hi < 2 ^ 31) : (∃ n, lo ≤ n ∧ n ≤ hi ∧ w = nI n) ∨ ((w < nI lo ∨ (¬ w < nI lo ∧ ¬ w ≤ nI hi ∧ nI hi < w)) ∧ ¬ (¬ w < nI lo ∧ ¬ nI hi < w)) := by
  by_cases g1 : w < nI lo
  · exact Or.inr ⟨Or.inl g1, fun q => q.1 g1⟩
  · by_cases g2 : nI hi < w
    · exact Or.inr ⟨Or.inr ⟨g1, Int32.not_le.mpr g2, g2⟩, fun q => q.2 g2⟩
    · left
      rw [Int32.lt_iff_toInt_lt, nI_toInt h1] at g1
      rw [Int32.lt_iff_toInt_lt, nI_toInt h2] at g2
      refine ⟨w.toInt.toNat, by omega, by omega, ?_⟩
      apply Int32.toInt_inj.mp
      rw [nI_toInt (by omega)]
      omega
theorem k_is0 (h : MdL S R m) : CA d 213 [.ref m, .int (nI 0)] S I L R Q = Q (some (.int (nI 1))) S (va_up I m (va_up (I m) 2 (nI 0))) L R := by
  rw [k_is h (by omega), bI_t rfl]
theorem k_isN {v : Nat} (h : MdL S R m) (hv : v < 10) (h0 : 0 < v) : CA d 213 [.ref m, .int (nI v)] S I L R Q = Q (some (.int (nI 0))) S (va_up I m (va_up (I m) 2 (nI v))) L R := by
  rw [k_is h hv, bI_f (by omega)]
theorem setA_hi {j : Nat} (h : j = 5 ∨ 242 ≤ j) : setA I m B (m + 1) j = I (m + 1) j := by
  rw [setA_row]
  unfold rowS
  rw [if_neg (by omega)]
theorem rowJ (h : INVA A x sc s0 S I L R) (j1 : ∀ b, b < x + 8 ∨ x + 26 < b → J b = I b) (r : Nat → Int32) : rowA (va_up J x r (x + 163 + 1)) A := by
  rw [va_up_ne _ _ (by omega), j1 _ (by omega)]
  exact h.rA
theorem inv_fin (h : INVA A x sc s0 S I L R) {r : Nat → Int32} {v : Nat} (hv : v ≤ 9) (j1 : ∀ b, b < x + 8 ∨ x + 26 < b → J b = I b) (j2 : StaR B (x + 7) J) (r2 : r 2 = nI v) (rr : ∀ j, (j = 10 ∨ j = 16 ∨ j = 17 ∨ j = 44 ∨ j = 45) → r j = I (x + 163) j) (hW : WFA B) (ht : B 4 ≤ 9999) (s7 : ∀ w, w < B 2 → wI B w 7 ≤ B 4) (pd : ∀ w, w < B 2 → far (pcl B w 0) (pcl B w 1) ≤ wI B w 1) (e0 : B 0 = A 0) (e1 : B 1 = A 1) (e2 : B 2 = A 2) : INV x sc s0 S (va_up (setA (va_up J x (va_up (J x) 0 (nI v))) (x + 163) B) (x + 163) r) L R := by
  have hsx := h.scx
  have o1 : ∀ b, b ≠ x → b ≠ x + 163 → b ≠ x + 164 → va_up (setA (va_up J x (va_up (J x) 0 (nI v))) (x + 163) B) (x + 163) r b = J b := fun b q1 q2 q3 => by
    rw [va_up_ne _ _ q2, setA_o q3, va_up_ne _ _ q1]
  have o2 : ∀ j, va_up (setA (va_up J x (va_up (J x) 0 (nI v))) (x + 163) B) (x + 163) r x j = va_up (I x) 0 (nI v) j := fun j => by
    rw [va_up_ne _ _ (by omega), setA_o (by omega), va_up_self, j1 x (by omega)]
  have o3 : ∀ j, j = 5 ∨ 242 ≤ j → va_up (setA (va_up J x (va_up (J x) 0 (nI v))) (x + 163) B) (x + 163) r (x + 163 + 1) j = I (x + 163 + 1) j := fun j hj => by
    rw [va_up_ne _ _ (by omega), setA_hi hj, va_up_ne _ _ (by omega), j1 _ (by omega)]
  have o4 : va_up (setA (va_up J x (va_up (J x) 0 (nI v))) (x + 163) B) (x + 163) r (x + 163) = r := va_up_self _ _ _
  refine ⟨B, inv_gen h hv ?_ ?_ ?_ ?_ ?_ ?_ ?_ (fun _ _ _ _ => rfl) h.top h.bot ?_⟩
  · rw [o2]; rfl
  · rw [o4]; exact r2
  · rw [o1 _ (by omega) (by omega) (by omega), j1 _ (by omega)]; exact h.scr
  · intro b hb
    unfold relO at hb
    rw [o1 _ (by omega) (by omega) (by omega), j1 _ (by omega)]
  · intro j q1 q2
    rw [o2, va_up_ne _ _ (by omega)]
  · intro j hj
    rw [o4]; exact rr j hj
  · intro j q1 q2
    exact o3 j (Or.inr (by omega))
  · refine slot_up h.now hW ht s7 pd e0 e1 e2 ?_ ?_ ?_ ?_ rfl (fun _ _ => rfl)
    · intro j q1 q2
      show va_up (setA (va_up J x (va_up (J x) 0 (nI v))) (x + 163) B) (x + 163) r (x + 163 + 1) (0 + j) = _
      rw [va_up_ne _ _ (by omega), Nat.zero_add]
      exact rowA_setA j q1 q2
    · exact sta_fr j2 (fun b q1 q2 => o1 b (by omega) (by omega) (by omega))
    · intro j q1 q2
      rw [Nat.zero_add]
      exact o3 j (by omega)
    · intro b q1 q2
      rw [o1 _ (by omega) (by omega) (by omega), j1 _ (by omega)]
/-- numbers of a state that is changed at one place -/
theorem cI_up {j v c k : Nat} (h : j ≠ 6 + 6 * c + k) : cI (va_up A j v) c k = cI A c k := va_up_ne _ _ (fun q => h q.symm)
theorem wI_up {j v w k : Nat} (h : j ≠ 186 + 14 * w + k) : wI (va_up A j v) w k = wI A w k := va_up_ne _ _ (fun q => h q.symm)
theorem pI_up {j v w p k : Nat} (h : j ≠ 186 + 14 * w + 8 + 3 * p + k) : pI (va_up A j v) w p k = pI A w p k := va_up_ne _ _ (fun q => h q.symm)
theorem cI_at {v c k : Nat} : cI (va_up A (6 + 6 * c + k) v) c k = v := va_up_self _ _ _
theorem wI_at {v w k : Nat} : wI (va_up A (186 + 14 * w + k) v) w k = v := va_up_self _ _ _
/-- a state that is the same but for cells -/
theorem sta_of {a : Nat} (h : StaR A a I) (e0 : B 0 = A 0) (e1 : B 1 = A 1) (e2 : B 2 = A 2) (e4 : B 4 = A 4) (hw : ∀ j, 186 ≤ j → B j = A j) (hk : ∀ b, a + 1 < b → b < a + 17 → J b = I b) (l0 : ∀ j, j < 3 → J (a + 1) j = I (a + 1) j) (l3 : J (a + 1) 3 = nI (B 3)) (l4 : J (a + 1) 4 = nI (fmk B)) (lc : ∀ c k, c < A 0 * A 1 → 0 < k → k < 5 → cI B (mc A c) k = cI A (mc A c) k) (s0 : J (a + 16) = I (a + 16)) (s1 : ∀ c, c < A 0 * A 1 → J (a + 17) c = nI (cI B (mc A c) 0)) (s2 : J (a + 18) = I (a + 18)) (s3 : J (a + 19) = I (a + 19)) : StaR B a J := by
  have em : ∀ c, mc B c = mc A c := mc_keep e0
  have ew : ∀ w k, wI B w k = wI A w k := fun w k => hw _ (by omega)
  have ep : ∀ w p k, pI B w p k = pI A w p k := fun w p k => hw _ (by omega)
  have ec : ∀ t, cst B t = cst A t := fun t => by unfold cst; rw [ep, ep, e0]
  have eg : ∀ w, gcl B w = gcl A w := fun w => by unfold gcl; rw [ew, ew, e0]
  refine StaR.mk ?_ ?_ ?_ ?_
  · obtain ⟨a0, a1, a2, a3, a4, a5⟩ := h.l
    refine ⟨by rw [l0 0 (by omega), e0]; exact a0, by rw [l0 1 (by omega), e1]; exact a1, by rw [l0 2 (by omega), e0, e1]; exact a2, l3, l4, ?_⟩
    intro c hc
    rw [e0, e1] at hc
    obtain ⟨b1, b2, b3, b4, b5, b6⟩ := a5 c hc
    rw [em, e0, lc c 1 hc (by omega) (by omega), lc c 2 hc (by omega) (by omega), lc c 3 hc (by omega) (by omega), lc c 4 hc (by omega) (by omega), hk (a + 1 + 1) (by omega) (by omega), hk (a + 1 + 2) (by omega) (by omega), hk (a + 1 + 3) (by omega) (by omega), hk (a + 1 + 4) (by omega) (by omega), hk (a + 1 + 5) (by omega) (by omega), hk (a + 1 + 6) (by omega) (by omega)]
    exact ⟨b1, b2, b3, b4, b5, b6⟩
  · have hf := h.f
    refine FolkR.mk ?_ ?_ ?_ ?_ ?_ ?_
    · rw [hk _ (by omega) (by omega), e2]; exact hf.ct
    · intro w q; rw [e2] at q; rw [hk _ (by omega) (by omega), ew]; exact hf.we w q
    · intro w q; rw [e2] at q; rw [hk _ (by omega) (by omega), ew]; exact hf.re w q
    · intro w q; rw [e2] at q; rw [hk _ (by omega) (by omega), ew]; exact hf.lo w q
    · intro w q; rw [e2] at q; rw [hk _ (by omega) (by omega), ew]; exact hf.ld w q
    · intro w q; rw [e2] at q; rw [hk _ (by omega) (by omega), eg]; exact hf.go w q
  · intro w q; rw [e2] at q; rw [hk _ (by omega) (by omega), ew]; exact h.p w q
  · have hs := h.s
    refine StnR.mk ?_ ?_ ?_ ?_ ?_
    · rw [s0, flm_congr e2 (fun w _ => ew w 6)]; exact hs.fl
    · rw [s0, e4]; exact hs.mo
    · intro c q; rw [e0, e1] at q; rw [em]; exact s1 c q
    · intro t q; rw [e2] at q; rw [ec]; show J (a + 18) t = _; rw [s2]; exact hs.at_ t q
    · intro t q; rw [e2] at q; rw [ep]; show J (a + 19) t = _; rw [s3]; exact hs.su t q
end P11
