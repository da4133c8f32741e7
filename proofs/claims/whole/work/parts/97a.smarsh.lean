/-! marsh: the class and the model side by side. -/
section SMA
variable {A : AS} {x sc : Nat} {s0 : Nat → Int32} {S : mS} {I J : mI} {L K : mL} {R : mR} {Q : mQ} {d n : Nat} {B : Nat → Nat}
theorem inv_rd {N : AS} {I2 : mI} {L2 : mL} (h : INVA A x sc s0 S I L R) {v : Nat} (hv : v ≤ 9) (h1 : I2 x 0 = nI v) (h2 : I2 (x + 163) 2 = nI v) (hs : I2 sc = s0) (hr : ∀ b, relO x b → I2 b = I b) (x3 : I2 x 3 = nI 0) (m10 : I2 (x + 163) 10 = nI 0) (e4 : I2 x 4 = I2 (x + 163) 16) (e5 : I2 x 5 = I2 (x + 163) 17) (hx : ∀ j, j = 6 ∨ j = 7 → I2 x j = I x j) (hm : ∀ j, j = 44 ∨ j = 45 → I2 (x + 163) j = I (x + 163) j) (ha : ∀ j, 608 ≤ j → j < 2432 → I2 (x + 163 + 1) j = I (x + 163 + 1) j) (hL : ∀ b, b ≠ x + 138 → b ≠ x + 42 → b ≠ x + 16 → b ≠ x + 163 + 2 → L2 b = L b) (hl2 : ∀ j, 4 ≤ j → j < 16 → L2 (x + 163 + 2) j = L (x + 163 + 2) j) (hn : slotA N (x + 7) 0 0 (x + 163) I2 L2) : INVA N x sc s0 S I2 L2 (opR R x) := by
  refine INVA.mk (clL_op h.c) (MdL_op (by omega) h.m) h.scx hs ⟨v, hv, h1, h2⟩ ?_ ?_ ⟨0, by omega, x3, m10, fun j hj => absurd hj (Nat.not_lt_zero _)⟩ e4 e5 ?_ ?_ hn ?_ ?_
  · rw [hL x (by omega) (by omega) (by omega) (by omega), hL (x + 163) (by omega) (by omega) (by omega) (by omega)]; exact h.top
  · rw [hL x (by omega) (by omega) (by omega) (by omega), hL (x + 163) (by omega) (by omega) (by omega) (by omega)]; exact h.bot
  · rw [hx 7 (by omega), hm 44 (by omega), hr (x + 2) (Or.inl (by omega)), hr (x + 163 + 20) (by unfold relO; omega)]; exact h.lv
  · rw [hr (x + 5) (Or.inl (by omega)), hr (x + 6) (Or.inl (by omega)), hr (x + 163 + 3) (by unfold relO; omega), hr (x + 163 + 4) (by unfold relO; omega), hL (x + 4) (by omega) (by omega) (by omega) (by omega), hL (x + 163 + 5) (by omega) (by omega) (by omega) (by omega)]; exact h.tr
  · rw [hL (x + 139) (by omega) (by omega) (by omega) (by omega)]; exact h.own
  · rw [hx 6 (by omega), hm 45 (by omega)]
    obtain ⟨n, g1, g2, g3, g4⟩ := h.mks
    refine ⟨n, g1, g2, g3, fun k hk => ?_⟩
    obtain ⟨B, hB⟩ := g4 k hk
    refine ⟨B, slot_fr hB (fun j hj => ha _ (by omega) (by omega)) (fun b q1 q2 => hr b (by unfold relO; omega)) ?_ ?_⟩
    · exact hL _ (by omega) (by omega) (by omega) (by omega)
    · intro w hw; exact hl2 _ (by omega) (by omega)
theorem tape_B {tl : Nat} (h : ∀ j, j < tl → I (x + 1) j = I (x + 163 + 6) j ∧ (I (x + 1) j).toInt8.toInt32 = I (x + 1) j) : ∃ B : Nat → Nat, ∀ j, j < tl → I (x + 1) j = sbI (B j) ∧ B j < 256 := by
  have : ∀ j, ∃ b, j < tl → I (x + 1) j = sbI b ∧ b < 256 := by
    intro j
    by_cases z : j < tl
    · obtain ⟨b, b1, b2⟩ := sb_ex (h j z).2
      exact ⟨b, fun _ => ⟨b2, b1⟩⟩
    · exact ⟨0, fun q => absurd q z⟩
  exact Classical.axiomOfChoice this
theorem sm_go {tl : Nat} (hI : INVA A x sc s0 S I L R) (htl : tl ≤ 900) (t1 : I x 3 = nI tl) (t2 : I (x + 163) 10 = nI tl) (t3 : ∀ j, j < tl → I (x + 1) j = I (x + 163 + 6) j ∧ (I (x + 1) j).toInt8.toInt32 = I (x + 1) j) (hnt : n ≤ tl) : CA (d + 40) 14 [.ref x, .int (nI n)] S I L R (fun v S1 I1 L1 R1 => S1 = S ∧ I1 sc = s0 ∧ CA (d + 40) 222 [.ref (x + 163), .int (nI n)] S1 I1 L1 R1 (fun w S2 I2 L2 R2 => w = v ∧ S2 = S ∧ INV x sc s0 S I2 L2 R2)) := by
  obtain ⟨B, hB⟩ := tape_B t3
  have hsc := hI.scx
  have hB1 : ∀ j, j < n → I (x + 1) j = sbI (B j) ∧ B j < 256 := fun j hj => hB j (by omega)
  have hB2 : ∀ j, j < n → I (x + 163 + 6) j = sbI (B j) ∧ B j < 256 := fun j hj => ⟨by rw [← (t3 j (by omega)).1]; exact (hB1 j hj).1, (hB1 j hj).2⟩
  have hK : ∃ q, opR R x 0 1 = some q ∧ kd S q = 201 := by
    obtain ⟨q, q1, q2⟩ := hI.c.rKey
    exact ⟨q, by rw [opR_o (Or.inl (by omega))]; exact q1, q2⟩
  have hmO := MdL_op (x := x) (by omega) hI.m
  refine c_marsh (d := d + 33) hI.c hI.own hB1 (by omega) t1 htl hnt ?_ ?_
  · intro J1 K1 z ff
    have f1 : ∀ b, b ≠ x → b ≠ x + 138 → b ≠ x + 141 → ¬ (x + 34 ≤ b ∧ b ≤ x + 53) → (va_up (va_up J1 x (va_up (va_up (va_up (J1 x) 3 (nI 0)) 4 (nI (mrun B n 900 (q0M (rn isBl B n 0, 0, 0))).2.2.2.2.1)) 5 (if (mrun B n 900 (q0M (rn isBl B n 0, 0, 0))).2.2.2.2.1 = 0 then -1 else nI (mrun B n 900 (q0M (rn isBl B n 0, 0, 0))).2.2.2.2.2))) x (va_up ((va_up J1 x (va_up (va_up (va_up (J1 x) 3 (nI 0)) 4 (nI (mrun B n 900 (q0M (rn isBl B n 0, 0, 0))).2.2.2.2.1)) 5 (if (mrun B n 900 (q0M (rn isBl B n 0, 0, 0))).2.2.2.2.1 = 0 then -1 else nI (mrun B n 900 (q0M (rn isBl B n 0, 0, 0))).2.2.2.2.2))) x) 0 (nI 9))) b = I b := fun b b0 b1 b2 b3 => by rw [va_up_ne _ _ b0, va_up_ne _ _ b0, ff.1 b b1 b2 b3]
    have ex : J1 x = I x := ff.1 x (by omega) (by omega) (by omega)
    refine ⟨rfl, by rw [f1 sc (by omega) (by omega) (by omega) (by omega)]; exact hI.scr, ?_⟩
    refine k_marsh (d := d + 31) (B := B) (tl := tl) hmO hK (by rw [f1 _ (by omega) (by omega) (by omega) (by omega)]; exact hB2) (by omega) (by rw [f1 _ (by omega) (by omega) (by omega) (by omega)]; exact t2) htl hnt ?_ (fun _ _ y => absurd y z)
    intro J2 L2 _ o2 m2 r2 fl s2 s10 s16 s17
    have f2 : ∀ b, b ≠ x → b ≠ x + 138 → b ≠ x + 141 → ¬ (x + 34 ≤ b ∧ b ≤ x + 53) → b ≠ x + 163 → b ≠ x + 163 + 1 → b ≠ x + 163 + 7 → J2 b = I b := fun b b0 b1 b2 b3 b4 b5 b6 => by rw [o2 b b4 b5 b6, f1 b b0 b1 b2 b3]
    have ex2 : J2 x = va_up (va_up (va_up (va_up (I x) 3 (nI 0)) 4 (nI (mrun B n 900 (q0M (rn isBl B n 0, 0, 0))).2.2.2.2.1)) 5 (nI (mrun B n 900 (q0M (rn isBl B n 0, 0, 0))).2.2.2.2.2)) 0 (nI 9) := by
      rw [o2 x (by omega) (by omega) (by omega), va_up_self, va_up_self, ex, if_neg z]
    have row2 : ∀ j, j < 2432 → J2 (x + 163 + 1) j = I (x + 163 + 1) j := fun j hj => by rw [r2 j hj, f1 _ (by omega) (by omega) (by omega) (by omega)]
    refine ⟨rfl, rfl, A, inv_rd hI (v := 9) (by omega) ?_ s2 ?_ ?_ ?_ s10 ?_ ?_ ?_ ?_ (fun j _ q => row2 j q) ?_ ?_ ?_⟩
    · rw [ex2, va_up_self]
    · rw [f2 sc (by omega) (by omega) (by omega) (by omega) (by omega) (by omega) (by omega)]; exact hI.scr
    · intro b hb; unfold relO at hb; exact f2 b (by omega) (by omega) (by omega) (by omega) (by omega) (by omega) (by omega)
    · rw [ex2]; simp (disch := omega) only [va_up_ne, va_up_self]
    · rw [ex2, s16]; simp (disch := omega) only [va_up_ne, va_up_self]
    · rw [ex2, s17]; simp (disch := omega) only [va_up_ne, va_up_self]
    · intro j hj; rw [ex2]; simp (disch := omega) only [va_up_ne, va_up_self]
    · intro j hj; rw [m2 j (by omega), f1 _ (by omega) (by omega) (by omega) (by omega)]
    · intro b b1 b2 b3 b4; rw [fl.1 b b4, ff.2 b b1 b2]
    · intro j h1 h2; rw [fl.2 j (by omega), ff.2 _ (by omega) (by omega)]
    · refine slot_fr hI.now (fun j hj => by simp only [Nat.zero_add]; exact row2 j (by omega)) (fun b q1 q2 => f2 b (by omega) (by omega) (by omega) (by omega) (by omega) (by omega) (by omega)) ?_ ?_
      · rw [fl.1 _ (by omega), ff.2 _ (by omega) (by omega)]
      · intro w hw; rw [fl.2 _ (by omega), ff.2 _ (by omega) (by omega)]
  · intro J1 K1 J4 K4 z ff hM hIv hSt hP cp o4 p4
    generalize hq : (mrun B n 900 (q0M (rn isBl B n 0, 0, 0))) = q at *
    rw [if_pos z, z] at cp o4
    have ex : J1 x = I x := ff.1 x (by omega) (by omega) (by omega)
    have e4x : J4 x = va_up (va_up (va_up (I x) 3 (nI 0)) 4 (nI 0)) 5 (-1) := by
      rw [o4 x (by omega), va_up_self, ex]
    have f1 : ∀ b, b ≠ x → b ≠ x + 138 → b ≠ x + 141 → ¬ (x + 34 ≤ b ∧ b ≤ x + 53) → ¬ (x + 7 < b ∧ b ≤ x + 32) → (va_up J4 x (va_up (J4 x) 0 (nI 0))) b = I b := fun b b0 b1 b2 b3 b4 => by rw [va_up_ne _ _ b0, o4 b (by omega), va_up_ne _ _ b0, ff.1 b b1 b2 b3]
    have n8 : J4 (x + 7 + 8) 0 = nI (q.1 2) := by
      rw [cp.f7, va_up_ne _ _ (by omega)]
      exact hM.2.1.1
    refine ⟨rfl, by rw [f1 sc (by omega) (by omega) (by omega) (by omega) (by omega)]; exact hI.scr, ?_⟩
    refine k_marsh (d := d + 31) (B := B) (tl := tl) hmO hK (by rw [f1 _ (by omega) (by omega) (by omega) (by omega) (by omega)]; exact hB2) (by omega) (by rw [f1 _ (by omega) (by omega) (by omega) (by omega) (by omega)]; exact t2) htl hnt (fun _ _ y => absurd (by rw [hq]; exact z) y) ?_
    rw [hq]
    intro J2 L2 _ o2 m2 r2 fl fl2 s2 s10 s16 s17 rw2 r5 nm _
    have f2 : ∀ b, b ≠ x → b ≠ x + 138 → b ≠ x + 141 → ¬ (x + 34 ≤ b ∧ b ≤ x + 53) → ¬ (x + 7 < b ∧ b ≤ x + 32) → b ≠ x + 163 → b ≠ x + 163 + 1 → b ≠ x + 163 + 7 → J2 b = I b := fun b b0 b1 b2 b3 b4 b5 b6 b7 => by rw [o2 b b5 b6 b7, f1 b b0 b1 b2 b3 b4]
    have ex2 : J2 x = va_up (va_up (va_up (va_up (I x) 3 (nI 0)) 4 (nI 0)) 5 (-1)) 0 (nI 0) := by
      rw [o2 x (by omega) (by omega) (by omega), va_up_self, e4x]
    have fn : ∀ b, x + 7 < b → b ≤ x + 32 → J2 b = J4 b := fun b h1 h2 => by rw [o2 b (by omega) (by omega) (by omega), va_up_ne _ _ (by omega)]
    refine ⟨by rw [n8], rfl, q.1, inv_rd hI (v := 0) (by omega) ?_ s2 ?_ ?_ ?_ s10 ?_ ?_ ?_ ?_ ?_ ?_ ?_ ?_⟩
    · rw [ex2, va_up_self]
    · rw [f2 sc (by omega) (by omega) (by omega) (by omega) (by omega) (by omega) (by omega) (by omega)]; exact hI.scr
    · intro b hb; unfold relO at hb; exact f2 b (by omega) (by omega) (by omega) (by omega) (by omega) (by omega) (by omega) (by omega)
    · rw [ex2]; simp (disch := omega) only [va_up_ne, va_up_self]
    · rw [ex2, s16]; simp (disch := omega) only [va_up_ne, va_up_self]
    · rw [ex2, s17]; simp (disch := omega) only [va_up_ne, va_up_self]
    · intro j hj; rw [ex2]; simp (disch := omega) only [va_up_ne, va_up_self]
    · intro j hj; rw [m2 j (by omega), f1 _ (by omega) (by omega) (by omega) (by omega) (by omega)]
    · intro j h1 h2; rw [r2 j h1 h2, f1 _ (by omega) (by omega) (by omega) (by omega) (by omega)]
    · intro b b1 b2 b3 b4; rw [fl b b4, p4 b (by omega), ff.2 b b1 b2]
    · intro j h1 h2; rw [fl2 j h1 h2, p4 _ (by omega), ff.2 _ (by omega) (by omega)]
    · refine slotA.mk hIv.1 (by rw [hIv.2.1]; omega) (fun w hw => ?_) (fun w hw => ?_) (fun j hj h5 => ?_) ?_ ?_ ?_
      · have h4 : q.1 2 ≤ 4 := hIv.1.2.2.2.1
        rw [(hIv.2.2.2.1 w (by omega)).2.1]; exact Nat.zero_le _
      · have h4 : q.1 2 ≤ 4 := hIv.1.2.2.2.1
        have pp := (hIv.2.2.2.1 w (by omega)).2.2 1 (by omega)
        have : pcl q.1 w 1 = pcl q.1 w 0 := by
          unfold pcl
          rw [pp.2.1, pp.2.2]
        rw [this, far_self]; exact Nat.zero_le _
      · simp only [Nat.zero_add]; exact rw2 j hj h5
      · refine sta_fr (I := J4) (sta_cp (t := x + 7) (o := x + 33) (I := va_up J1 x (va_up (va_up (va_up (J1 x) 3 (nI 0)) 4 (nI 0)) 5 (-1))) hIv.1 (sta_fr hSt (fun b h1 h2 => va_up_ne _ _ (by omega))) cp) (fun b h1 h2 => fn b h1 (by omega))
      · intro w hw
        have h4 : q.1 2 ≤ 4 := hIv.1.2.2.2.1
        obtain ⟨a1, a2⟩ := nm w hw
        refine ⟨q.2.1 w, a1, ?_, by rw [Nat.zero_add]; exact a2⟩
        rw [fl _ (by omega)]
        have := cp.f24 w (by omega)
        rw [show x + 7 + 9 = x + 7 + 8 + 1 by omega, this]
        exact (hM.2.2.2.1 w hw).2
      · refine Or.inl ⟨?_, r5⟩
        rw [fn (x + 7 + 20) (by omega) (by omega), cp.f18 0 (by omega), va_up_ne _ _ (by omega)]
        exact hP 0 (by omega)
end SMA

