/-! States between calls: steps, standing, loads handed on, walkers who rise. -/
def GA (A : AS) : Prop := WFA A ∧ A 4 ≤ 9999 ∧ (∀ w, w < A 2 → wI A w 7 ≤ A 4) ∧ ∀ w, w < A 2 → far (pcl A w 0) (pcl A w 1) ≤ wI A w 1
theorem lf_pos {al : Nat} {A : AS} : ∀ f, 0 < f → 1 ≤ (lf al f A).1
  | f + 1, _ => by
    unfold lf
    split
    · exact Nat.le_refl 1
    · show 1 ≤ _ + 1; omega
theorem momN_4 {al : Nat} : ∀ (n : Nat) (A : AS), WFA A → A 4 + n < 999999 → momN al n A 4 = A 4 + n ∧ ∀ j, keepJ j → momN al n A j = A j
  | 0, A, _, _ => ⟨rfl, fun _ _ => rfl⟩
  | n + 1, A, h, h4 => by
    have e := momA_4 (al := al) h.n h.pcl30
    obtain ⟨i1, i2⟩ := momN_4 (al := al) n (momA al A) (h.mom (by omega)) (by omega)
    refine ⟨?_, fun j hj => ?_⟩
    · show momN al n (momA al A) 4 = _
      rw [i1, e]; omega
    · show momN al n (momA al A) j = _
      rw [i2 j hj, momA_keep h.n h.pcl30 j hj]
theorem kJ_w {w k : Nat} (h6 : k ≠ 6) (h10 : k ≠ 10) (h13 : k ≠ 13) (hk : k < 14) : keepJ (186 + 14 * w + k) := by unfold keepJ; omega
theorem GA.keep {A B : AS} (h : GA A) (hW : WFA B) (hk : ∀ j, keepJ j → B j = A j) (h4 : A 4 ≤ B 4) (h9 : B 4 ≤ 9999) : GA B := by
  obtain ⟨h1, h2, h3, h5⟩ := h
  have hn := h1.n
  have e2 := hk 2 (Or.inl (by omega))
  refine ⟨hW, h9, ?_, ?_⟩
  · intro w q
    rw [e2] at q
    have : wI B w 7 = wI A w 7 := hk _ (kJ_w (by omega) (by omega) (by omega) (by omega))
    have := h3 w q
    omega
  · intro w q
    rw [e2] at q
    have e1 : wI B w 1 = wI A w 1 := hk _ (kJ_w (by omega) (by omega) (by omega) (by omega))
    rw [pcl_keep hk (by omega) (by omega), pcl_keep hk (by omega) (by omega), e1]
    exact h5 w q
theorem GA.stand {A : AS} (h : GA A) {n : Nat} (h4 : A 4 + n ≤ 9999) : GA (momN 99 n A) := by
  obtain ⟨i1, i2⟩ := momN_4 (al := 99) n A h.1 (by omega)
  exact h.keep (momN_wf n A h.1 (by omega)) i2 (by omega) (by omega)
theorem GA.lift {A : AS} (h : GA A) {al n : Nat} (h4 : A 4 + n ≤ 9999) : GA (lf al n A).2 := by
  obtain ⟨-, i2, i3, i4⟩ := lf_ok (al := al) n A h.1.ok (by omega)
  exact h.keep (lf_ge n A h.1 (by omega)) i4 (by omega) (by omega)
theorem putP_e {A : AS} {w p e : Nat} (hp : p < 2) : pcl (putP A w p e) w p = e ∧ pcl (putP A w p e) w (1 - p) = pcl A w (1 - p) ∧ ∀ v q, v ≠ w → q < 2 → pcl (putP A w p e) v q = pcl A v q := by
  refine ⟨?_, ?_, ?_⟩
  · obtain ⟨a1, a2, -⟩ := @putP_p A w p e w p hp hp
    unfold pcl
    rw [a1, a2, if_pos ⟨rfl, rfl⟩, if_pos ⟨rfl, rfl⟩]
    omega
  · obtain ⟨a1, a2, -⟩ := @putP_p A w p e w (1 - p) hp (by omega)
    unfold pcl
    rw [a1, a2, if_neg (by omega), if_neg (by omega)]
  · intro v q hv hq
    obtain ⟨a1, a2, -⟩ := @putP_p A w p e v q hp hq
    unfold pcl
    rw [a1, a2, if_neg (fun z => hv z.1), if_neg (fun z => hv z.1)]
theorem GA.put {A : AS} (h : GA A) {w p e : Nat} (hw : w < A 2) (hp : p < 2) (he : hereB A e = true) (hf : far (pcl A w (1 - p)) e ≤ wI A w 1) (h7 : wI A w 7 < A 4) : GA (putP A w p e) := by
  obtain ⟨h1, h2, h3, h5⟩ := h
  have hk := putP_kL (A := A) (w := w) (e := e) hp
  have e2 := hk 2 (Or.inl (by omega))
  have e4 : putP A w p e 4 = A 4 := putP_o (by omega)
  refine ⟨h1.ptP hw hp he (by omega), by omega, ?_, ?_⟩
  · intro v q
    rw [e2] at q
    have := h3 v q
    rw [e4]
    by_cases g : v = w
    · subst g
      have : wI (putP A v p e) v 7 = wI A v 7 + 1 := va_up_self _ _ _
      omega
    · have : wI (putP A w p e) v 7 = wI A v 7 := by rcases (by omega : p = 0 ∨ p = 1) with rfl | rfl <;> exact putP_o (by omega)
      omega
  · intro v q
    rw [e2] at q
    have e1 : wI (putP A w p e) v 1 = wI A v 1 := putP_w hp (by omega)
    obtain ⟨a1, a2, a3⟩ := @putP_e A w p e hp
    rw [e1]
    by_cases g : v = w
    · subst g
      rcases (by omega : p = 0 ∨ p = 1) with rfl | rfl
      · rw [a1, show pcl (putP A v 0 e) v 1 = pcl A v 1 from a2, far_comm]; exact hf
      · rw [a1, show pcl (putP A v 1 e) v 0 = pcl A v 0 from a2]; exact hf
    · rw [a3 v 0 g (by omega), a3 v 1 g (by omega)]
      exact h5 v q
theorem canB_iff {A : AS} {w p c : Nat} : canB A w p c = true ↔ ¬ wI A w 6 = 1 ∧ far (pcl A w (1 - p)) c ≤ wI A w 1 := by
  unfold canB
  rw [Bool.and_eq_true, decide_eq_true_iff, decide_eq_true_iff]
theorem GA.step {A : AS} (h : GA A) {w p e : Nat} (hw : w < A 2) (hp : p < 2) (he : hereB A e = true) (hc : canB A w p e = true) (h4 : A 4 + (1 + pI A w p 2 / 2) ≤ 9999) : GA (stpA A w p e) ∧ stpA A w p e 0 = A 0 ∧ stpA A w p e 1 = A 1 ∧ stpA A w p e 2 = A 2 := by
  obtain ⟨-, hf⟩ := canB_iff.mp hc
  have hl := h.lift (al := 2 * w + p) h4
  obtain ⟨-, i2, i3, i4⟩ := lf_ok (al := 2 * w + p) (1 + pI A w p 2 / 2) A h.1.ok (by omega)
  have hpos := lf_pos (al := 2 * w + p) (A := A) (1 + pI A w p 2 / 2) (by omega)
  have hn := h.1.n
  have e0 := i4 0 (Or.inl (by omega))
  have e1 := i4 1 (Or.inl (by omega))
  have e2 := i4 2 (Or.inl (by omega))
  unfold stpA
  generalize (lf (2 * w + p) (1 + pI A w p 2 / 2) A).2 = B at *
  split
  · exact ⟨hl, e0, e1, e2⟩
  · have hk := putP_kL (A := B) (w := w) (e := e) hp
    refine ⟨?_, by rw [hk 0 (Or.inl (by omega)), e0], by rw [hk 1 (Or.inl (by omega)), e1], by rw [hk 2 (Or.inl (by omega)), e2]⟩
    have q1 : wI B w 1 = wI A w 1 := i4 _ (kJ_w (by omega) (by omega) (by omega) (by omega))
    have q7 : wI B w 7 = wI A w 7 := i4 _ (kJ_w (by omega) (by omega) (by omega) (by omega))
    have := h.2.2.1 w hw
    refine hl.put (by omega) hp ?_ ?_ (by omega)
    · unfold hereB at he ⊢
      rw [e0, e1]; exact he
    · rw [pcl_keep i4 (by omega) (by omega), q1]; exact hf
theorem hnd_iff {A : AS} {a b u : Nat} : hndB A a b u = true ↔ nearB A a b = true ∧ u ≤ wI A a 3 ∧ wI A b 3 + u ≤ 20 := by
  unfold hndB
  rw [Bool.and_eq_true, Bool.and_eq_true, decide_eq_true_iff, decide_eq_true_iff]
  exact and_assoc
theorem near_ne {A : AS} {a b : Nat} (h : nearB A a b = true) : a ≠ b := by
  unfold nearB at h
  rw [Bool.and_eq_true, Bool.and_eq_true, Bool.and_eq_true, decide_eq_true_iff] at h
  exact h.1.1.1
theorem GA.hand {A : AS} (h : GA A) {w o u : Nat} (hw : w < A 2) (ho : o < A 2) (hh : hndB A w o u = true) : GA (hndA A w o u) ∧ hndA A w o u 0 = A 0 ∧ hndA A w o u 1 = A 1 ∧ hndA A w o u 2 = A 2 := by
  obtain ⟨h1, h2, h3, h5⟩ := h
  obtain ⟨g1, g2, g3⟩ := hnd_iff.mp hh
  have hne := near_ne g1
  have hs := h1.sm
  have kw := h1.wOk hw
  have ko := h1.wOk ho
  have hw3 := kw.2.2.2.1
  unfold hndA
  rw [if_pos hh]
  have hW1 : WFA (va_up A (186 + 14 * w + 3) (wI A w 3 - u)) := by
    refine h1.walk (w0 := w) (smallA_up hs (by omega)) (fun j hj => va_up_ne _ _ (by omega)) hw ?_
    unfold wOK
    simp (disch := omega) only [wI_up, pI_up, wI_at, va_up_ne]
    have := kw.2.2.2.1
    exact ⟨kw.1, kw.2.1, kw.2.2.1, by omega, kw.2.2.2.2⟩
  have hW2 : WFA (va_up (va_up A (186 + 14 * w + 3) (wI A w 3 - u)) (186 + 14 * o + 3) (wI A o 3 + u)) := by
    refine hW1.walk (w0 := o) (smallA_up hW1.sm (by omega)) (fun j hj => va_up_ne _ _ (by omega)) (by rw [va_up_ne _ _ (by omega)]; exact ho) ?_
    have ko1 := hW1.wOk (w := o) (by rw [va_up_ne _ _ (by omega)]; exact ho)
    unfold wOK at ko1 ⊢
    simp (disch := omega) only [wI_up, pI_up, wI_at, va_up_ne] at ko1 ⊢
    exact ⟨ko1.1, ko1.2.1, ko1.2.2.1, g3, ko1.2.2.2.2⟩
  refine ⟨⟨hW2, ?_, ?_, ?_⟩, ?_, ?_, ?_⟩
  · rw [va_up_ne _ _ (by omega), va_up_ne _ _ (by omega)]; exact h2
  · intro v q
    rw [va_up_ne _ _ (by omega), va_up_ne _ _ (by omega)] at q
    rw [wI_up (by omega), wI_up (by omega), va_up_ne _ _ (by omega), va_up_ne _ _ (by omega)]; exact h3 v q
  · exact pd_ofw h5 (by rw [va_up_ne _ _ (by omega), va_up_ne _ _ (by omega)]) (fun v p k hp _ => by rcases (by omega : p = 0 ∨ p = 1) with rfl | rfl <;> rw [pI_up (by omega), pI_up (by omega)]) (fun v => by rw [wI_up (by omega), wI_up (by omega)])
  · rw [va_up_ne _ _ (by omega), va_up_ne _ _ (by omega)]
  · rw [va_up_ne _ _ (by omega), va_up_ne _ _ (by omega)]
  · rw [va_up_ne _ _ (by omega), va_up_ne _ _ (by omega)]
section P14
variable {S : mS} {I J : mI} {L : mL} {R : mR} {Q : mQ} {d x m mo sc a : Nat} {s0 : Nat → Int32} {A B : AS}
/-- the class's heap with a load handed on -/
def hndI (I : mI) (a : Nat) (A : AS) (w o u : Nat) : mI := va_up I (a + 8 + 5) (va_up (va_up (I (a + 8 + 5)) w (nI (wI A w 3 - u))) o (nI (wI A o 3 + u)))
theorem c_handOver {w o u : Nat} (ha : staL S R a) (hf : FolkR A (a + 8) I) (hW : WFA A) (hw : w < A 2) (ho : o < A 2) (hh : hndB A w o u = true) : CA (d + 1) 92 [.ref a, .int (nI w), .int (nI o), .int (nI u)] S I L R Q = Q none S (hndI I a A w o u) L R := by
  obtain ⟨g1, g2, g3⟩ := hnd_iff.mp hh
  have hne := near_ne g1
  have hn := hW.n
  have hsf := stn_f (sta_s ha)
  have b1 := hW.ld w hw
  have l1 := hf.ld w hw
  have l2 := hf.ld o ho
  rw [ca_92]
  simp (disch := first | assumption | exact cw0 | (simp only [sta_k ha, sta_R0 ha, sta_R1 ha, sta_R2 ha, sta_R3 ha, stn_k (sta_s ha), stn_R0 (sta_s ha), stn_R1 (sta_s ha), stn_R2 (sta_s ha), stn_R3 (sta_s ha), stn_R4 (sta_s ha), stn_k1 (sta_s ha), stn_n1 (sta_s ha), stn_k2 (sta_s ha), stn_n2 (sta_s ha), stn_k3 (sta_s ha), stn_n3 (sta_s ha), lnd_k (stn_l (sta_s ha)), lnd_R5 (stn_l (sta_s ha)), lnd_k1 (stn_l (sta_s ha)), lnd_n1 (stn_l (sta_s ha)), lnd_R6 (stn_l (sta_s ha)), lnd_k2 (stn_l (sta_s ha)), lnd_n2 (stn_l (sta_s ha)), lnd_R7 (stn_l (sta_s ha)), lnd_k3 (stn_l (sta_s ha)), lnd_n3 (stn_l (sta_s ha)), lnd_R8 (stn_l (sta_s ha)), lnd_k4 (stn_l (sta_s ha)), lnd_n4 (stn_l (sta_s ha)), lnd_R9 (stn_l (sta_s ha)), lnd_k5 (stn_l (sta_s ha)), lnd_n5 (stn_l (sta_s ha)), lnd_R10 (stn_l (sta_s ha)), lnd_k6 (stn_l (sta_s ha)), lnd_n6 (stn_l (sta_s ha)), flk_k (stn_f (sta_s ha)), flk_R1 (stn_f (sta_s ha)), flk_k1 (stn_f (sta_s ha)), flk_n1 (stn_f (sta_s ha)), flk_R2 (stn_f (sta_s ha)), flk_k2 (stn_f (sta_s ha)), flk_n2 (stn_f (sta_s ha)), flk_R3 (stn_f (sta_s ha)), flk_k3 (stn_f (sta_s ha)), flk_n3 (stn_f (sta_s ha)), flk_R4 (stn_f (sta_s ha)), flk_k4 (stn_f (sta_s ha)), flk_n4 (stn_f (sta_s ha)), flk_R5 (stn_f (sta_s ha)), flk_k5 (stn_f (sta_s ha)), flk_n5 (stn_f (sta_s ha)), flk_R6 (stn_f (sta_s ha)), flk_k6 (stn_f (sta_s ha)), flk_n6 (stn_f (sta_s ha)), flk_R7 (stn_f (sta_s ha)), flk_k7 (stn_f (sta_s ha)), flk_n7 (stn_f (sta_s ha))]; done) | omega | (simp (disch := first | assumption | omega) only [sta_k ha, sta_R0 ha, sta_R1 ha, sta_R2 ha, sta_R3 ha, stn_k (sta_s ha), stn_R0 (sta_s ha), stn_R1 (sta_s ha), stn_R2 (sta_s ha), stn_R3 (sta_s ha), stn_R4 (sta_s ha), stn_k1 (sta_s ha), stn_n1 (sta_s ha), stn_k2 (sta_s ha), stn_n2 (sta_s ha), stn_k3 (sta_s ha), stn_n3 (sta_s ha), lnd_k (stn_l (sta_s ha)), lnd_R5 (stn_l (sta_s ha)), lnd_k1 (stn_l (sta_s ha)), lnd_n1 (stn_l (sta_s ha)), lnd_R6 (stn_l (sta_s ha)), lnd_k2 (stn_l (sta_s ha)), lnd_n2 (stn_l (sta_s ha)), lnd_R7 (stn_l (sta_s ha)), lnd_k3 (stn_l (sta_s ha)), lnd_n3 (stn_l (sta_s ha)), lnd_R8 (stn_l (sta_s ha)), lnd_k4 (stn_l (sta_s ha)), lnd_n4 (stn_l (sta_s ha)), lnd_R9 (stn_l (sta_s ha)), lnd_k5 (stn_l (sta_s ha)), lnd_n5 (stn_l (sta_s ha)), lnd_R10 (stn_l (sta_s ha)), lnd_k6 (stn_l (sta_s ha)), lnd_n6 (stn_l (sta_s ha)), flk_k (stn_f (sta_s ha)), flk_R1 (stn_f (sta_s ha)), flk_k1 (stn_f (sta_s ha)), flk_n1 (stn_f (sta_s ha)), flk_R2 (stn_f (sta_s ha)), flk_k2 (stn_f (sta_s ha)), flk_n2 (stn_f (sta_s ha)), flk_R3 (stn_f (sta_s ha)), flk_k3 (stn_f (sta_s ha)), flk_n3 (stn_f (sta_s ha)), flk_R4 (stn_f (sta_s ha)), flk_k4 (stn_f (sta_s ha)), flk_n4 (stn_f (sta_s ha)), flk_R5 (stn_f (sta_s ha)), flk_k5 (stn_f (sta_s ha)), flk_n5 (stn_f (sta_s ha)), flk_R6 (stn_f (sta_s ha)), flk_k6 (stn_f (sta_s ha)), flk_n6 (stn_f (sta_s ha)), flk_R7 (stn_f (sta_s ha)), flk_k7 (stn_f (sta_s ha)), flk_n7 (stn_f (sta_s ha)), vin, cw_nil, cw_int, cw_ref, cw_long, bI_01]; done) | (simp (disch := first | assumption | omega) only [sta_k ha, sta_R0 ha, sta_R1 ha, sta_R2 ha, sta_R3 ha, stn_k (sta_s ha), stn_R0 (sta_s ha), stn_R1 (sta_s ha), stn_R2 (sta_s ha), stn_R3 (sta_s ha), stn_R4 (sta_s ha), stn_k1 (sta_s ha), stn_n1 (sta_s ha), stn_k2 (sta_s ha), stn_n2 (sta_s ha), stn_k3 (sta_s ha), stn_n3 (sta_s ha), lnd_k (stn_l (sta_s ha)), lnd_R5 (stn_l (sta_s ha)), lnd_k1 (stn_l (sta_s ha)), lnd_n1 (stn_l (sta_s ha)), lnd_R6 (stn_l (sta_s ha)), lnd_k2 (stn_l (sta_s ha)), lnd_n2 (stn_l (sta_s ha)), lnd_R7 (stn_l (sta_s ha)), lnd_k3 (stn_l (sta_s ha)), lnd_n3 (stn_l (sta_s ha)), lnd_R8 (stn_l (sta_s ha)), lnd_k4 (stn_l (sta_s ha)), lnd_n4 (stn_l (sta_s ha)), lnd_R9 (stn_l (sta_s ha)), lnd_k5 (stn_l (sta_s ha)), lnd_n5 (stn_l (sta_s ha)), lnd_R10 (stn_l (sta_s ha)), lnd_k6 (stn_l (sta_s ha)), lnd_n6 (stn_l (sta_s ha)), flk_k (stn_f (sta_s ha)), flk_R1 (stn_f (sta_s ha)), flk_k1 (stn_f (sta_s ha)), flk_n1 (stn_f (sta_s ha)), flk_R2 (stn_f (sta_s ha)), flk_k2 (stn_f (sta_s ha)), flk_n2 (stn_f (sta_s ha)), flk_R3 (stn_f (sta_s ha)), flk_k3 (stn_f (sta_s ha)), flk_n3 (stn_f (sta_s ha)), flk_R4 (stn_f (sta_s ha)), flk_k4 (stn_f (sta_s ha)), flk_n4 (stn_f (sta_s ha)), flk_R5 (stn_f (sta_s ha)), flk_k5 (stn_f (sta_s ha)), flk_n5 (stn_f (sta_s ha)), flk_R6 (stn_f (sta_s ha)), flk_k6 (stn_f (sta_s ha)), flk_n6 (stn_f (sta_s ha)), flk_R7 (stn_f (sta_s ha)), flk_k7 (stn_f (sta_s ha)), flk_n7 (stn_f (sta_s ha)), cw_nil, cw_int, cw_ref, cw_long]; omega) | decide) only [x_92_0, x_92_1, x_92_4, x_92_5, x_92_8, x_92_11, x_92_12, x_92_15, x_92_16, x_92_19, x_92_22, x_92_23, x_92_26, x_92_29, x_92_30, x_92_31, x_92_32, x_92_33, x_92_34, x_92_35, x_92_36, x_92_39, x_92_42, x_92_43, x_92_44, x_92_45, x_92_46, x_92_47, x_92_48, ↓reduceIte, va_rf_some, cw_nil, cw_int, cw_ref, cw_long, kl_int, kl_ref, kl_null, kl_long, kl_none, Option.toList_some, Option.toList_none, List.cons_append, List.nil_append, List.append_nil, sta_k ha, sta_R0 ha, sta_R1 ha, sta_R2 ha, sta_R3 ha, stn_k (sta_s ha), stn_R0 (sta_s ha), stn_R1 (sta_s ha), stn_R2 (sta_s ha), stn_R3 (sta_s ha), stn_R4 (sta_s ha), stn_k1 (sta_s ha), stn_n1 (sta_s ha), stn_k2 (sta_s ha), stn_n2 (sta_s ha), stn_k3 (sta_s ha), stn_n3 (sta_s ha), lnd_k (stn_l (sta_s ha)), lnd_R5 (stn_l (sta_s ha)), lnd_k1 (stn_l (sta_s ha)), lnd_n1 (stn_l (sta_s ha)), lnd_R6 (stn_l (sta_s ha)), lnd_k2 (stn_l (sta_s ha)), lnd_n2 (stn_l (sta_s ha)), lnd_R7 (stn_l (sta_s ha)), lnd_k3 (stn_l (sta_s ha)), lnd_n3 (stn_l (sta_s ha)), lnd_R8 (stn_l (sta_s ha)), lnd_k4 (stn_l (sta_s ha)), lnd_n4 (stn_l (sta_s ha)), lnd_R9 (stn_l (sta_s ha)), lnd_k5 (stn_l (sta_s ha)), lnd_n5 (stn_l (sta_s ha)), lnd_R10 (stn_l (sta_s ha)), lnd_k6 (stn_l (sta_s ha)), lnd_n6 (stn_l (sta_s ha)), flk_k (stn_f (sta_s ha)), flk_R1 (stn_f (sta_s ha)), flk_k1 (stn_f (sta_s ha)), flk_n1 (stn_f (sta_s ha)), flk_R2 (stn_f (sta_s ha)), flk_k2 (stn_f (sta_s ha)), flk_n2 (stn_f (sta_s ha)), flk_R3 (stn_f (sta_s ha)), flk_k3 (stn_f (sta_s ha)), flk_n3 (stn_f (sta_s ha)), flk_R4 (stn_f (sta_s ha)), flk_k4 (stn_f (sta_s ha)), flk_n4 (stn_f (sta_s ha)), flk_R5 (stn_f (sta_s ha)), flk_k5 (stn_f (sta_s ha)), flk_n5 (stn_f (sta_s ha)), flk_R6 (stn_f (sta_s ha)), flk_k6 (stn_f (sta_s ha)), flk_n6 (stn_f (sta_s ha)), flk_R7 (stn_f (sta_s ha)), flk_k7 (stn_f (sta_s ha)), flk_n7 (stn_f (sta_s ha)), nI_add, pk_mul, nI_clamp, nI_ltI, nI_leI, nI_eq, n10, c_fhas1 hsf hf hn hw, c_fhas1 hsf hf hn ho, l1, l2, pk_sub, va_up_up, va_up_self, va_up_ne, Nat.reduceLT, Nat.reduceLeDiff, Nat.reduceEqDiff, Nat.reduceAdd, Nat.reduceMul, Nat.reduceSub, if_true, if_false, not_true, not_false_eq_true, decide_true, decide_false, Nat.lt_irrefl, Nat.le_refl, Nat.not_lt_zero, Nat.zero_le]
  rfl
theorem hnd_sta {w o u : Nat} (h : StaR A a I) (hW : WFA A) (hw : w < A 2) (ho : o < A 2) (hh : hndB A w o u = true) : StaR (hndA A w o u) a (hndI I a A w o u) := by
  obtain ⟨g1, g2, g3⟩ := hnd_iff.mp hh
  have hne := near_ne g1
  have hf := h.f
  have hS := h.s
  unfold hndA hndI
  rw [if_pos hh]
  refine sta_ofw h ⟨hW.w0, hW.w1⟩ (fun j hj => by rw [va_up_ne _ _ (by omega), va_up_ne _ _ (by omega)]) (fun b2 q1 q2 => va_up_ne _ _ (by omega)) ?_ ?_ ?_ ?_ ?_ ?_ ?_ ?_ ?_ ?_ ?_
  · intro v q; rw [va_up_ne _ _ (by omega), wI_up (by omega), wI_up (by omega)]; exact hf.we v q
  · intro v q; rw [va_up_ne _ _ (by omega), wI_up (by omega), wI_up (by omega)]; exact hf.re v q
  · intro v q; rw [va_up_ne _ _ (by omega), wI_up (by omega), wI_up (by omega)]; exact hf.lo v q
  · intro v q
    show va_up (I : mI) (a + 8 + 5) (_ : Nat → Int32) (a + 8 + 5) v = _
    rw [va_up_self]
    by_cases q2 : v = o
    · subst q2; rw [va_up_self, wI_at]
    · rw [va_up_ne _ _ q2, wI_up (by omega)]
      by_cases q3 : v = w
      · subst q3; rw [va_up_self, wI_at]
      · rw [va_up_ne _ _ q3, wI_up (by omega)]; exact hf.ld v q
  · intro v q; rw [va_up_ne _ _ (by omega), gcl_up (by omega) (by omega) (by omega), gcl_up (by omega) (by omega) (by omega)]; exact hf.go v q
  · intro v q; rw [va_up_ne _ _ (by omega), wI_up (by omega), wI_up (by omega)]; exact h.p v q
  · rw [va_up_ne _ _ (by omega), flm_up (by omega) (fun v => by omega), flm_up (by omega) (fun v => by omega)]; exact hS.fl
  · rw [va_up_ne _ _ (by omega)]
  · rw [va_up_ne _ _ (by omega)]
  · intro t q; rw [va_up_ne _ _ (by omega), cst_up (by omega) (by omega) (by omega), cst_up (by omega) (by omega) (by omega)]; exact hS.at_ t q
  · intro t q; rw [va_up_ne _ _ (by omega), pI_up (by omega), pI_up (by omega)]; exact hS.su t q
end P14
