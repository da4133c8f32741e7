/-! What a call may change, and how what holds between calls is kept. -/
theorem prg_fr {A B : AS} {a : Nat} {f f2 : Nat → Int32} {I I2 : mI} (h : PrgR A a f I) (e0 : B 0 = A 0) (e1 : B 1 = A 1) (e2 : B 2 = A 2) (h1 : ∀ j, j = 5 ∨ 242 ≤ j → j < 602 → f2 j = f j) (h2 : ∀ b, a + 20 ≤ b → b ≤ a + 25 → I2 b = I b) : PrgR B a f2 I2 := by
  unfold PrgR at h ⊢
  rw [h2 (a + 20) (by omega) (by omega), h2 (a + 21) (by omega) (by omega), h2 (a + 22) (by omega) (by omega), h2 (a + 23) (by omega) (by omega), h2 (a + 24) (by omega) (by omega), h2 (a + 25) (by omega) (by omega), h1 5 (Or.inl rfl) (by omega)]
  rcases h with h | ⟨h0, n, g, r, a1, a2, a3, a4, a5, a6, a7, a8, a9⟩
  · exact Or.inl h
  · refine Or.inr ⟨h0, n, g, r, a1, a2, a3, ?_, a5, ?_, a7, a8, a9⟩
    · intro k hk j hj
      rw [h1 _ (by omega) (by omega)]
      exact a4 k hk j hj
    · intro k hk
      have := a6 k hk
      unfold actR at this ⊢
      rw [e0, e1, e2]
      exact this
theorem nam_fr {A B : AS} {a q m : Nat} {L L2 : mL} (h : NamR A a q m L) (e2 : B 2 = A 2) (h4 : A 2 ≤ 4) (h3 : L2 (a + 9) = L (a + 9)) (h5 : ∀ w, w < 4 → L2 (m + 2) (q + w) = L (m + 2) (q + w)) : NamR B a q m L2 := by
  intro w hw
  rw [e2] at hw
  rw [h3, h5 w (by omega)]
  exact h w hw
theorem sta_fr {A : AS} {a : Nat} {I I2 : mI} (h : StaR A a I) (h2 : ∀ b, a < b → b < a + 20 → I2 b = I b) : StaR A a I2 := by
  refine StaR.mk ?_ ?_ ?_ ?_
  · exact LandR_I (fun i hi => h2 _ (by omega) (by omega)) h.l
  · exact FolkR_I (fun i hi => h2 _ (by omega) (by omega)) h.f
  · intro w hw; rw [h2 _ (by omega) (by omega)]; exact h.p w hw
  · have := h.s
    refine StnR.mk ?_ ?_ ?_ ?_ ?_
    · rw [h2 _ (by omega) (by omega)]; exact this.fl
    · rw [h2 _ (by omega) (by omega)]; exact this.mo
    · rw [h2 _ (by omega) (by omega)]; exact this.sk
    · rw [h2 _ (by omega) (by omega)]; exact this.at_
    · rw [h2 _ (by omega) (by omega)]; exact this.su
theorem slot_fr {A : AS} {a o q m : Nat} {I I2 : mI} {L L2 : mL} (h : slotA A a o q m I L) (h1 : ∀ j, j < 602 → I2 (m + 1) (o + j) = I (m + 1) (o + j)) (h2 : ∀ b, a < b → b ≤ a + 25 → I2 b = I b) (h3 : L2 (a + 9) = L (a + 9)) (h4 : ∀ w, w < 4 → L2 (m + 2) (q + w) = L (m + 2) (q + w)) : slotA A a o q m I2 L2 := by
  refine slotA.mk h.w h.t h.s7 h.pd ?_ (sta_fr h.sr (fun b x y => h2 b x (by omega))) (nam_fr h.nm rfl h.w.n h3 h4) (prg_fr h.pg rfl rfl rfl (fun j _ hj => h1 j hj) (fun b x y => h2 b (by omega) y))
  intro j hj h5
  exact (h1 j (by omega)).trans (h.r j hj h5)
/-- the state becomes another one -/
theorem slot_up {A B : AS} {a o q m : Nat} {I I2 : mI} {L L2 : mL} (h : slotA A a o q m I L) (hW : WFA B) (ht : B 4 ≤ 9999) (s7 : ∀ w, w < B 2 → wI B w 7 ≤ B 4) (pd : ∀ w, w < B 2 → far (pcl B w 0) (pcl B w 1) ≤ wI B w 1) (e0 : B 0 = A 0) (e1 : B 1 = A 1) (e2 : B 2 = A 2) (hr : rowA (fun j => I2 (m + 1) (o + j)) B) (hs : StaR B a I2) (h1 : ∀ j, j = 5 ∨ 242 ≤ j → j < 602 → I2 (m + 1) (o + j) = I (m + 1) (o + j)) (h2 : ∀ b, a + 20 ≤ b → b ≤ a + 25 → I2 b = I b) (h3 : L2 (a + 9) = L (a + 9)) (h4 : ∀ w, w < 4 → L2 (m + 2) (q + w) = L (m + 2) (q + w)) : slotA B a o q m I2 L2 :=
  slotA.mk hW ht s7 pd hr hs (nam_fr h.nm e2 h.w.n h3 h4) (prg_fr h.pg e0 e1 e2 h1 h2)
/-- cells that matter beside the state itself -/
def relO (x b : Nat) : Prop := (x < b ∧ b < x + 7) ∨ (x + 59 ≤ b ∧ b < x + 138) ∨ b = x + 166 ∨ b = x + 167 ∨ b = x + 169 ∨ b = x + 183
theorem inv_gen {A B : AS} {x sc : Nat} {s0 : Nat → Int32} {S : mS} {I I2 : mI} {L L2 : mL} {R : mR} (h : INVA A x sc s0 S I L R) {v : Nat} (hv : v ≤ 9) (h1 : I2 x 0 = nI v) (h2 : I2 (x + 163) 2 = nI v) (hs : I2 sc = s0) (hr : ∀ b, relO x b → I2 b = I b) (hx : ∀ j, 3 ≤ j → j ≤ 7 → I2 x j = I x j) (hm : ∀ j, (j = 10 ∨ j = 16 ∨ j = 17 ∨ j = 44 ∨ j = 45) → I2 (x + 163) j = I (x + 163) j) (ha : ∀ j, 608 ≤ j → j < 2432 → I2 (x + 163 + 1) j = I (x + 163 + 1) j) (hL : ∀ b, b ≠ x → b ≠ x + 163 → b ≠ x + 147 → L2 b = L b) (ht : L2 x 1 = L2 (x + 163) 3) (hb : L2 x 2 = L2 (x + 163) 4) (hn : slotA B (x + 7) 0 0 (x + 163) I2 L2) : INVA B x sc s0 S I2 L2 R := by
  refine INVA.mk h.c h.m h.scx hs ⟨v, hv, h1, h2⟩ ht hb ?_ ?_ ?_ ?_ ?_ hn ?_ ?_
  · rw [hx 3 (by omega) (by omega), hm 10 (by omega), hr (x + 1) (Or.inl (by omega)), hr (x + 163 + 6) (by unfold relO; omega)]
    exact h.tl
  · rw [hx 4 (by omega) (by omega), hm 16 (by omega)]; exact h.fk
  · rw [hx 5 (by omega) (by omega), hm 17 (by omega)]; exact h.fp
  · rw [hx 7 (by omega) (by omega), hm 44 (by omega), hr (x + 2) (Or.inl (by omega)), hr (x + 163 + 20) (by unfold relO; omega)]; exact h.lv
  · rw [hr (x + 5) (Or.inl (by omega)), hr (x + 6) (Or.inl (by omega)), hr (x + 163 + 3) (by unfold relO; omega), hr (x + 163 + 4) (by unfold relO; omega), hL (x + 4) (by omega) (by omega) (by omega), hL (x + 163 + 5) (by omega) (by omega) (by omega)]; exact h.tr
  · rw [hL (x + 139) (by omega) (by omega) (by omega)]; exact h.own
  · rw [hx 6 (by omega) (by omega), hm 45 (by omega)]
    obtain ⟨n, g1, g2, g3, g4⟩ := h.mks
    refine ⟨n, g1, g2, g3, fun k hk => ?_⟩
    obtain ⟨B, hB⟩ := g4 k hk
    refine ⟨B, slot_fr hB (fun j hj => ha _ (by omega) (by omega)) (fun b q1 q2 => hr b (by unfold relO; omega)) ?_ ?_⟩
    · exact hL _ (by omega) (by omega) (by omega)
    · intro w hw; rw [hL _ (by omega) (by omega) (by omega)]
/-- what only looks: the state stays -/
theorem inv_look {A : AS} {x sc : Nat} {s0 : Nat → Int32} {S : mS} {I I2 : mI} {L L2 : mL} {R : mR} (h : INVA A x sc s0 S I L R) {v : Nat} (hv : v ≤ 9) (h1 : I2 x 0 = nI v) (h2 : I2 (x + 163) 2 = nI v) (hs : I2 sc = s0) (hr : ∀ b, relO x b ∨ (x + 7 ≤ b ∧ b < x + 33) → I2 b = I b) (hx : ∀ j, 3 ≤ j → j ≤ 7 → I2 x j = I x j) (hm : ∀ j, (j = 10 ∨ j = 16 ∨ j = 17 ∨ j = 44 ∨ j = 45) → I2 (x + 163) j = I (x + 163) j) (ha : ∀ j, j < 2432 → I2 (x + 163 + 1) j = I (x + 163 + 1) j) (hL : ∀ b, b ≠ x → b ≠ x + 163 → b ≠ x + 147 → L2 b = L b) (ht : L2 x 1 = L2 (x + 163) 3) (hb : L2 x 2 = L2 (x + 163) 4) : INVA A x sc s0 S I2 L2 R := by
  refine inv_gen h hv h1 h2 hs (fun b q => hr b (Or.inl q)) hx hm (fun j _ q => ha j q) hL ht hb ?_
  refine slot_fr h.now (fun j hj => by simp only [Nat.zero_add]; exact ha j (by omega)) (fun b q1 q2 => hr b (Or.inr (by omega))) ?_ ?_
  · exact hL _ (by omega) (by omega) (by omega)
  · intro w hw; rw [hL _ (by omega) (by omega) (by omega)]
/-- a call, half by half -/
theorem sim_of {kc km : Nat} {as : List Value} (H : ∀ (d x sc : Nat) (s0 : Nat → Int32) (S : mS) (I : mI) (L : mL) (R : mR) (A : AS), INVA A x sc s0 S I L R → ∃ (v : Option Value) (I1 : mI) (L1 : mL), (∀ Q : mQ, Q v S I1 L1 R → CA (d + 40) kc (.ref x :: as) S I L R Q) ∧ I1 sc = s0 ∧ ∃ (I2 : mI) (L2 : mL), (∀ Q : mQ, Q v S I2 L2 R → CA (d + 40) km (.ref (x + 163) :: as) S I1 L1 R Q) ∧ INV x sc s0 S I2 L2 R) : Sim kc km as := by
  intro d x sc s0 S I L R hI
  obtain ⟨A, hI⟩ := hI
  obtain ⟨v, I1, L1, h1, h2, I2, L2, h3, h4⟩ := H d x sc s0 S I L R A hI
  exact h1 _ ⟨rfl, h2, h3 _ ⟨rfl, rfl, h4⟩⟩
/-- a call, half by half, the heaps behind them told by what holds of them -/
theorem sim_by {kc km : Nat} {as : List Value} (H : ∀ (d x sc : Nat) (s0 : Nat → Int32) (S : mS) (I : mI) (L : mL) (R : mR) (A : AS), INVA A x sc s0 S I L R → ∃ (P : Option Value → mI → mL → Prop), (∀ Q : mQ, (∀ v I1 L1, P v I1 L1 → Q v S I1 L1 R) → CA (d + 40) kc (.ref x :: as) S I L R Q) ∧ ∀ v I1 L1, P v I1 L1 → I1 sc = s0 ∧ ∀ Q : mQ, (∀ I2 L2, INV x sc s0 S I2 L2 R → Q v S I2 L2 R) → CA (d + 40) km (.ref (x + 163) :: as) S I1 L1 R Q) : Sim kc km as := by
  intro d x sc s0 S I L R hI
  obtain ⟨A, hI⟩ := hI
  obtain ⟨P, h1, h2⟩ := H d x sc s0 S I L R A hI
  refine h1 _ (fun v I1 L1 hP => ?_)
  obtain ⟨h3, h4⟩ := h2 v I1 L1 hP
  exact ⟨rfl, h3, h4 _ (fun I2 L2 hi => ⟨rfl, rfl, hi⟩)⟩
