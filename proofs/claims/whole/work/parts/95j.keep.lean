/-! What every part of a marsh keeps. -/
def IvM (N : AS) (mt : Bool) : Prop := WFA N ∧ N 4 = 0 ∧ N 5 = 0 ∧ (∀ w, w < 4 → wI N w 6 = 0 ∧ wI N w 7 = 0 ∧ ∀ p, p < 2 → pI N w p 2 = 0 ∧ pI N w p 0 = pI N w 0 0 ∧ pI N w p 1 = pI N w 0 1) ∧ (∀ c, c < 30 → cI N c 0 = cI N c 1) ∧ (N 0 = 0 → mt = false ∧ ∀ j, N j = 0)
section IVM
variable {N : AS} {mt : Bool} {a b e f g u v gu gv we re lo' ld c : Nat}
theorem here_cc (hu : u < N 0) (hv : v < N 1) (h0 : N 0 ≤ 6) : hereB N (6 * v + u) = true := by
  unfold hereB
  rw [decide_eq_true (show (6 * v + u) % 6 < N 0 by omega), decide_eq_true (show (6 * v + u) / 6 < N 1 by omega)]
  rfl
theorem IvM.lay (h : IvM N mt) (hz : N 0 = 0) (ha0 : 1 ≤ a) (ha : a ≤ 6) (hb0 : 1 ≤ b) (hb : b ≤ 5) (he : e ≤ 99) (hf : f ≤ 9) (hg : g ≤ 30) : IvM (layA N a b e f g) mt := by
  obtain ⟨hW, h4, h5, hw, hc, h0⟩ := h
  obtain ⟨-, nz⟩ := h0 hz
  have u0 : layA N a b e f g 0 = a := if_pos rfl
  have u1 : layA N a b e f g 1 = b := rfl
  have uo : ∀ j, 2 ≤ j → ¬ (6 ≤ j ∧ j < 186 ∧ (j - 6) % 6 ≠ 5) → layA N a b e f g j = 0 := fun j q1 q2 => by rw [layA_o (by omega) q2]; exact nz j
  have uw : ∀ w k, wI (layA N a b e f g) w k = 0 := fun w k => uo _ (by omega) (by omega)
  have up : ∀ w p k, pI (layA N a b e f g) w p k = 0 := fun w p k => uo _ (by omega) (by omega)
  have u5 : ∀ c, cI (layA N a b e f g) c 5 = 0 := fun c => uo _ (by omega) (by omega)
  have c0 : ∀ c, c < 30 → cI (layA N a b e f g) c 0 = e := fun c hc => layA_c hc (by omega)
  have c1 : ∀ c, c < 30 → cI (layA N a b e f g) c 1 = e := fun c hc => layA_c hc (by omega)
  have c2 : ∀ c, c < 30 → cI (layA N a b e f g) c 2 = f := fun c hc => layA_c hc (by omega)
  have c3 : ∀ c, c < 30 → cI (layA N a b e f g) c 3 = g := fun c hc => layA_c hc (by omega)
  have c4 : ∀ c, c < 30 → cI (layA N a b e f g) c 4 = 8 := fun c hc => layA_c hc (by omega)
  refine ⟨WFA.of ?_ (by omega) (by omega) ?_ ?_ (by omega) (by omega) ?_ ?_ (fun w _ _ k _ => uw w k), uo 4 (by omega) (by omega), uo 5 (by omega) (by omega), fun w _ => ⟨uw w 6, uw w 7, fun p _ => ⟨up w p 2, by rw [up, up], by rw [up, up]⟩⟩, fun c hc => by rw [c0 c hc, c1 c hc], fun q => by omega⟩
  · intro j
    have := nz j
    unfold layA
    (repeat' split) <;> omega
  · rw [uo 2 (by omega) (by omega)]; omega
  · rw [uo 3 (by omega) (by omega)]; omega
  · intro c hc
    unfold cOK
    rw [c0 c hc, c1 c hc, c2 c hc, c3 c hc, c4 c hc, u5 c]
    exact ⟨by omega, he, hf, hg, by omega, by omega, fun _ => ⟨rfl, rfl⟩⟩
  · intro w hw
    rw [uo 2 (by omega) (by omega)] at hw
    omega
theorem IvM.me (h : IvM N mt) (hz : ¬ N 0 = 0) (hv : v ≤ 9) : IvM (va_up N 3 v) true := by
  obtain ⟨hW, h4, h5, hw, hc, h0⟩ := h
  have uo : ∀ j, j ≠ 3 → va_up N 3 v j = N j := fun j q => va_up_ne _ _ q
  have e0 := uo 0 (by omega)
  have e1 := uo 1 (by omega)
  have e2 := uo 2 (by omega)
  have uc : ∀ c k, cI (va_up N 3 v) c k = cI N c k := fun c k => uo _ (by omega)
  have uw : ∀ w k, wI (va_up N 3 v) w k = wI N w k := fun w k => uo _ (by omega)
  have up : ∀ w p k, pI (va_up N 3 v) w p k = pI N w p k := fun w p k => uo _ (by omega)
  refine ⟨WFA.of ?_ (by rw [e0]; exact hW.w0) (by rw [e1]; exact hW.w1) (by rw [e2]; exact hW.n) (by rw [va_up_self]; exact hv) (fun q => absurd (e0 ▸ q) hz) (fun q => absurd (hW.z1 (e1 ▸ q)).2 hz) (fun c hc => cOK_fr (hW.cOk hc) e0 e1 (fun k hk => uo _ (by omega))) (fun w hw => wOK_fr (hW.wOk (e2 ▸ hw)) e0 e1 (fun k hk => uo _ (by omega))) (fun w q1 q2 k hk => by rw [uw]; exact hW.un w (e2 ▸ q1) q2 k hk), by rw [uo 4 (by omega)]; exact h4, by rw [uo 5 (by omega)]; exact h5, ?_, fun c q => by rw [uc, uc]; exact hc c q, fun q => absurd (e0 ▸ q) hz⟩
  · intro j
    by_cases z : j = 3
    · rw [z, va_up_self]; omega
    · rw [uo j z]; exact hW.sm j
  · intro w q
    rw [uw, uw]
    obtain ⟨r1, r2, r3⟩ := hw w q
    exact ⟨r1, r2, fun p hp => by rw [up, up, up, up, up]; exact r3 p hp⟩
theorem IvM.ce (h : IvM N mt) (h30 : c < 30) (hz : ¬ N 0 = 0) (ha : a ≤ 99) (hb : b ≤ 9) (he : e ≤ 30) (hf : f ≤ 16) : IvM (ceA N c a b e f) mt := by
  obtain ⟨hW, h4, h5, hw, hc, h0⟩ := h
  have uo : ∀ j, ¬ (6 + 6 * c ≤ j ∧ j < 6 + 6 * c + 5) → ceA N c a b e f j = N j := fun j q => ceA_ne q
  have e0 := uo 0 (by omega)
  have e1 := uo 1 (by omega)
  have uw : ∀ w k, wI (ceA N c a b e f) w k = wI N w k := fun w k => uo _ (by omega)
  have up : ∀ w p k, pI (ceA N c a b e f) w p k = pI N w p k := fun w p k => uo _ (by omega)
  have u5 : cI (ceA N c a b e f) c 5 = cI N c 5 := uo _ (by omega)
  have hh : hereB (ceA N c a b e f) c = hereB N c := by unfold hereB; rw [e0, e1]
  refine ⟨hW.cell ?_ (fun j q => uo j (by omega)) h30 ?_, by rw [uo 4 (by omega)]; exact h4, by rw [uo 5 (by omega)]; exact h5, ?_, ?_, fun q => absurd (e0 ▸ q) hz⟩
  · intro j
    have := hW.sm j
    unfold ceA
    (repeat' split) <;> omega
  · unfold cOK
    rw [ceA_0, ceA_1, ceA_2, ceA_3, ceA_4, u5, hh]
    exact ⟨by omega, ha, hb, he, hf, hW.fi c h30, fun q => ⟨rfl, (hW.nh c h30 q).2⟩⟩
  · intro w q
    rw [uw, uw]
    obtain ⟨r1, r2, r3⟩ := hw w q
    exact ⟨r1, r2, fun p hp => by rw [up, up, up, up, up]; exact r3 p hp⟩
  · intro c' q
    by_cases z : c' = c
    · rw [z, ceA_0, ceA_1]
    · rw [show cI (ceA N c a b e f) c' 0 = cI N c' 0 from uo _ (by omega), show cI (ceA N c a b e f) c' 1 = cI N c' 1 from uo _ (by omega)]
      exact hc c' q
theorem IvM.fi (h : IvM N mt) (hu : u < N 0) (hv : v < N 1) : IvM (fmA N u v) mt := by
  obtain ⟨hW, h4, h5, hw, hc, h0⟩ := h
  obtain ⟨q1, q2, q3⟩ := cell30 hW.w0 hW.w1 hu hv
  have uo : ∀ j, j ≠ 6 + 6 * (6 * v + u) + 5 → fmA N u v j = N j := fun j q => va_up_ne _ _ q
  have e0 := uo 0 (by omega)
  have e1 := uo 1 (by omega)
  have uw : ∀ w k, wI (fmA N u v) w k = wI N w k := fun w k => uo _ (by omega)
  have up : ∀ w p k, pI (fmA N u v) w p k = pI N w p k := fun w p k => uo _ (by omega)
  have uc : ∀ c k, k < 5 → cI (fmA N u v) c k = cI N c k := fun c k hk => uo _ (by omega)
  have u5 : cI (fmA N u v) (6 * v + u) 5 = 1 := va_up_self _ _ _
  have hh : hereB (fmA N u v) (6 * v + u) = true := by
    have := here_cc hu hv hW.w0
    unfold hereB at this ⊢
    rw [e0, e1]
    exact this
  refine ⟨hW.cell ?_ (fun j q => uo j (by omega)) q3 ?_, by rw [uo 4 (by omega)]; exact h4, by rw [uo 5 (by omega)]; exact h5, ?_, fun c q => by rw [uc _ _ (by omega), uc _ _ (by omega)]; exact hc c q, fun q => by omega⟩
  · intro j
    by_cases z : j = 6 + 6 * (6 * v + u) + 5
    · rw [z]; unfold fmA; rw [va_up_self]; omega
    · rw [uo j z]; exact hW.sm j
  · unfold cOK
    rw [uc _ _ (by omega), uc _ _ (by omega), uc _ _ (by omega), uc _ _ (by omega), uc _ _ (by omega), u5, hh]
    exact ⟨hW.sk _ q3, hW.wh _ q3, hW.so _ q3, hW.de _ q3, hW.od _ q3, by omega, fun q => by cases q⟩
  · intro w q
    rw [uw, uw]
    obtain ⟨r1, r2, r3⟩ := hw w q
    exact ⟨r1, r2, fun p hp => by rw [up, up, up, up, up]; exact r3 p hp⟩
theorem IvM.wa (h : IvM N mt) (h4' : N 2 < 4) (hu : u < N 0) (hv : v < N 1) (hgu : gu < N 0) (hgv : gv < N 1) (w1 : 1 ≤ we) (w2 : we ≤ 20) (r1 : 1 ≤ re) (r2 : re ≤ 3) (l1 : 1 ≤ lo') (l2 : lo' ≤ 30) (d2 : ld ≤ 20) : IvM (wlA N u v gu gv we re lo' ld) mt := by
  obtain ⟨hW, h4, h5, hw, hc, h0⟩ := h
  have k0 := hW.w0
  have k1 := hW.w1
  have uo : ∀ j, j ≠ 2 → ¬ (186 + 14 * N 2 ≤ j ∧ j < 200 + 14 * N 2) → (wlA N u v gu gv we re lo' ld) j = N j := fun j q1 q2 => wlA_o q1 q2
  have e0 := uo 0 (by omega) (by omega)
  have e1 := uo 1 (by omega) (by omega)
  have e2 : (wlA N u v gu gv we re lo' ld) 2 = N 2 + 1 := if_pos rfl
  have e3 := uo 3 (by omega) (by omega)
  have uw : ∀ w k, w ≠ N 2 → k < 14 → wI (wlA N u v gu gv we re lo' ld) w k = wI N w k := fun w k q1 q2 => uo _ (by omega) (by omega)
  have up : ∀ w p k, w ≠ N 2 → p < 2 → k < 3 → pI (wlA N u v gu gv we re lo' ld) w p k = pI N w p k := fun w p k q1 q2 q3 => uo _ (by omega) (by omega)
  have uc : ∀ c k, c < 30 → k < 6 → cI (wlA N u v gu gv we re lo' ld) c k = cI N c k := fun c k q1 q2 => uo _ (by omega) (by omega)
  have pp : ∀ p, p < 2 → pI (wlA N u v gu gv we re lo' ld) (N 2) p 0 = u ∧ pI (wlA N u v gu gv we re lo' ld) (N 2) p 1 = v ∧ pI (wlA N u v gu gv we re lo' ld) (N 2) p 2 = 0 := by
    intro p hp
    rw [wlA_p hp (by omega), wlA_p hp (by omega), wlA_p hp (by omega)]
    have : p = 0 ∨ p = 1 := by omega
    cases this with
    | inl q => subst q; exact ⟨rfl, rfl, rfl⟩
    | inr q => subst q; exact ⟨rfl, rfl, rfl⟩
  refine ⟨WFA.of ?_ (by omega) (by omega) (by omega) (by rw [e3]; exact hW.m) (fun q => by omega) (fun q => by omega) (fun c q => cOK_fr (hW.cOk q) e0 e1 (fun k hk => uo _ (by omega) (by omega))) ?_ ?_, by rw [uo 4 (by omega) (by omega)]; exact h4, by rw [uo 5 (by omega) (by omega)]; exact h5, ?_, fun c q => by rw [uc c _ q (by omega), uc c _ q (by omega)]; exact hc c q, fun q => by omega⟩
  · intro j
    have := hW.sm j
    unfold wlA wlK
    (repeat' split) <;> omega
  · intro w q
    rw [e2] at q
    by_cases z : w = N 2
    · subst z
      unfold wOK
      rw [wlA_w (by omega), wlA_w (by omega), wlA_w (by omega), wlA_w (by omega), wlA_w (by omega), wlA_w (by omega), wlA_w (by omega), e0, e1]
      refine ⟨⟨w1, w2⟩, ⟨r1, r2⟩, ⟨l1, l2⟩, d2, ⟨hgu, hgv⟩, Nat.zero_le _, fun p hp => ?_⟩
      obtain ⟨g1, g2, g3⟩ := pp p hp
      rw [g1, g2, g3]
      exact ⟨⟨hu, hv⟩, by omega, fun _ => l1⟩
    · exact wOK_fr (hW.wOk (by omega)) e0 e1 (fun k hk => uo _ (by omega) (by omega))
  · intro w q1 q2 k hk
    rw [e2] at q1
    rw [uw w k (by omega) hk]
    exact hW.un w (by omega) q2 k hk
  · intro w q
    by_cases z : w = N 2
    · rw [z, wlA_w (by omega), wlA_w (by omega)]
      refine ⟨rfl, rfl, fun p hp => ?_⟩
      obtain ⟨g1, g2, g3⟩ := pp p hp
      obtain ⟨g4, g5, -⟩ := pp 0 (by omega)
      exact ⟨g3, by rw [g1, g4], by rw [g2, g5]⟩
    · obtain ⟨s1, s2, s3⟩ := hw w q
      rw [uw w _ z (by omega), uw w _ z (by omega)]
      exact ⟨s1, s2, fun p hp => by rw [up w p _ z hp (by omega), up w p _ z hp (by omega), up w p _ z hp (by omega), up w 0 _ z (by omega) (by omega), up w 0 _ z (by omega) (by omega)]; exact s3 p hp⟩
end IVM

