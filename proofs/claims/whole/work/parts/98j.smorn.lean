/-! mornings: the class and the model side by side. -/
section SMO
variable {A : AS} {x sc : Nat} {s0 : Nat → Int32} {S : mS} {I J : mI} {L K : mL} {R : mR} {Q : mQ} {d n : Nat} {B : Nat → Nat}
theorem so_go {tl : Nat} (hI : INVA A x sc s0 S I L R) (htl : tl ≤ 900) (t1 : I x 3 = nI tl) (t2 : I (x + 163) 10 = nI tl) (t3 : ∀ j, j < tl → I (x + 1) j = I (x + 163 + 6) j ∧ (I (x + 1) j).toInt8.toInt32 = I (x + 1) j) (hnt : n ≤ tl) (h300 : n ≤ 300) : CA (d + 40) 17 [.ref x, .int (nI n)] S I L R (fun v S1 I1 L1 R1 => S1 = S ∧ I1 sc = s0 ∧ CA (d + 40) 246 [.ref (x + 163), .int (nI n)] S1 I1 L1 R1 (fun w S2 I2 L2 R2 => w = v ∧ S2 = S ∧ INV x sc s0 S I2 L2 R2)) := by
  obtain ⟨B, hB⟩ := tape_B t3
  have hsc := hI.scx
  have hB1 : ∀ j, j < n → I (x + 1) j = sbI (B j) ∧ B j < 256 := fun j hj => hB j (by omega)
  have hB2 : ∀ j, j < n → I (x + 163 + 6) j = sbI (B j) ∧ B j < 256 := fun j hj => ⟨by rw [← (t3 j (by omega)).1]; exact (hB1 j hj).1, (hB1 j hj).2⟩
  have hK : ∃ q, opR R x 0 1 = some q ∧ kd S q = 201 := by
    obtain ⟨q, q1, q2⟩ := hI.c.rKey
    exact ⟨q, by rw [opR_o (Or.inl (by omega))]; exact q1, q2⟩
  have hmO := MdL_op (x := x) (by omega) hI.m
  have hW := hI.now.w
  have hnm : ∃ NL : Nat → List Nat, ∀ w, w < A 2 → wordOK (NL w) ∧ L (x + 7 + 9) w = lN (cd27 (NL w)) ∧ L (x + 163 + 2) w = lN (cd256 (NL w)) := by
    have : ∀ w, ∃ u, w < A 2 → wordOK u ∧ L (x + 7 + 9) w = lN (cd27 u) ∧ L (x + 163 + 2) w = lN (cd256 u) := by
      intro w
      by_cases z : w < A 2
      · obtain ⟨u, u1, u2, u3⟩ := hI.now.nm w z
        rw [Nat.zero_add] at u3
        exact ⟨u, fun _ => ⟨u1, u2, u3⟩⟩
      · exact ⟨[], fun q => absurd q z⟩
    exact Classical.axiomOfChoice this
  obtain ⟨NL, hNL⟩ := hnm
  have hNC : NwR A NL x I L := ⟨hI.now.sr.f.1, fun w hw => ⟨(hNL w hw).1, (hNL w hw).2.1⟩, hI.now.sr.l, hW.w0, hW.w1, hW.n⟩
  have rA := hI.rA
  have hNM : NwM A NL (x + 163) I L := ⟨rA 0 (by omega) (by omega), rA 1 (by omega) (by omega), rA 2 (by omega) (by omega), fun w hw => ⟨(hNL w hw).1, (hNL w hw).2.2⟩, hW.w0, hW.w1, hW.n⟩
  refine c_mornings (d := d + 32) (A := A) (NL := NL) hI.c hI.own hB1 h300 t1 htl hnt hNC ?_ ?_
  · intro J1 K1 z ff
    have f1 : ∀ b, b ≠ x → b ≠ x + 138 → b ≠ x + 142 → b ≠ x + 143 → ¬ (x + 53 ≤ b ∧ b ≤ x + 58) → (va_up (va_up J1 x (va_up (va_up (va_up (J1 x) 3 (nI 0)) 4 (nI (fSo B n (orun A NL B n 300 ((rn isBl B n 0, 0, 0), 0, 0, 0, fun _ _ => 0, fun _ _ => 0, fun _ => 0))).2.1)) 5 (if (fSo B n (orun A NL B n 300 ((rn isBl B n 0, 0, 0), 0, 0, 0, fun _ _ => 0, fun _ _ => 0, fun _ => 0))).2.1 = 0 then -1 else nI (fSo B n (orun A NL B n 300 ((rn isBl B n 0, 0, 0), 0, 0, 0, fun _ _ => 0, fun _ _ => 0, fun _ => 0))).2.2))) x (va_up ((va_up J1 x (va_up (va_up (va_up (J1 x) 3 (nI 0)) 4 (nI (fSo B n (orun A NL B n 300 ((rn isBl B n 0, 0, 0), 0, 0, 0, fun _ _ => 0, fun _ _ => 0, fun _ => 0))).2.1)) 5 (if (fSo B n (orun A NL B n 300 ((rn isBl B n 0, 0, 0), 0, 0, 0, fun _ _ => 0, fun _ _ => 0, fun _ => 0))).2.1 = 0 then -1 else nI (fSo B n (orun A NL B n 300 ((rn isBl B n 0, 0, 0), 0, 0, 0, fun _ _ => 0, fun _ _ => 0, fun _ => 0))).2.2))) x) 0 (nI 9))) b = I b := fun b b0 b1 b2 b3 b4 => by rw [va_up_ne _ _ b0, va_up_ne _ _ b0, ff.1 b b1 b2 b3 b4]
    have ex : J1 x = I x := ff.1 x (by omega) (by omega) (by omega) (by omega)
    have lk : ∀ b, b ≠ x + 138 → K1 b = L b := ff.2
    refine ⟨rfl, by rw [f1 sc (by omega) (by omega) (by omega) (by omega) (by omega)]; exact hI.scr, ?_⟩
    refine k_mornings (d := d + 29) (B := B) (tl := tl) (A := A) (NL := NL) hmO hK (by rw [f1 _ (by omega) (by omega) (by omega) (by omega) (by omega)]; exact hB2) h300 (by rw [f1 _ (by omega) (by omega) (by omega) (by omega) (by omega)]; exact t2) htl hnt ?_ ?_ (fun _ y => absurd y z)
    · obtain ⟨m0, m1, m2, m3, m4⟩ := hNM
      refine ⟨?_, ?_, ?_, ?_, m4⟩
      · rw [f1 _ (by omega) (by omega) (by omega) (by omega) (by omega)]; exact m0
      · rw [f1 _ (by omega) (by omega) (by omega) (by omega) (by omega)]; exact m1
      · rw [f1 _ (by omega) (by omega) (by omega) (by omega) (by omega)]; exact m2
      · rw [lk _ (by omega)]; exact m3
    intro J2 _ o2 m2 r2 s2 s10 s16 s17
    have f2 : ∀ b, b ≠ x → b ≠ x + 138 → b ≠ x + 142 → b ≠ x + 143 → ¬ (x + 53 ≤ b ∧ b ≤ x + 58) → b ≠ x + 163 → b ≠ x + 163 + 1 → b ≠ x + 163 + 7 → b ≠ x + 163 + 8 → J2 b = I b := fun b b0 b1 b2 b3 b4 b5 b6 b7 b8 => by rw [o2 b b5 b6 b7 b8, f1 b b0 b1 b2 b3 b4]
    have ex2 : J2 x = va_up (va_up (va_up (va_up (I x) 3 (nI 0)) 4 (nI (fSo B n (orun A NL B n 300 ((rn isBl B n 0, 0, 0), 0, 0, 0, fun _ _ => 0, fun _ _ => 0, fun _ => 0))).2.1)) 5 (nI (fSo B n (orun A NL B n 300 ((rn isBl B n 0, 0, 0), 0, 0, 0, fun _ _ => 0, fun _ _ => 0, fun _ => 0))).2.2)) 0 (nI 9) := by
      rw [o2 x (by omega) (by omega) (by omega) (by omega), va_up_self, va_up_self, ex, if_neg z]
    have row2 : ∀ j, j < 2432 → J2 (x + 163 + 1) j = I (x + 163 + 1) j := fun j hj => by rw [r2 j hj, f1 _ (by omega) (by omega) (by omega) (by omega) (by omega)]
    refine ⟨rfl, rfl, A, inv_rd hI (v := 9) (by omega) ?_ s2 ?_ ?_ ?_ s10 ?_ ?_ ?_ ?_ (fun j _ q => row2 j q) ?_ ?_ ?_⟩
    · rw [ex2, va_up_self]
    · rw [f2 sc (by omega) (by omega) (by omega) (by omega) (by omega) (by omega) (by omega) (by omega) (by omega)]; exact hI.scr
    · intro b hb; unfold relO at hb; exact f2 b (by omega) (by omega) (by omega) (by omega) (by omega) (by omega) (by omega) (by omega) (by omega)
    · rw [ex2]; simp (disch := omega) only [va_up_ne, va_up_self]
    · rw [ex2, s16]; simp (disch := omega) only [va_up_ne, va_up_self]
    · rw [ex2, s17]; simp (disch := omega) only [va_up_ne, va_up_self]
    · intro j hj; rw [ex2]; simp (disch := omega) only [va_up_ne, va_up_self]
    · intro j hj; rw [m2 j (by omega), f1 _ (by omega) (by omega) (by omega) (by omega) (by omega)]
    · intro b b1 b2 b3 b4; rw [lk b b1]
    · intro j h1 h2; rw [lk _ (by omega)]
    · refine slot_fr hI.now (fun j hj => by simp only [Nat.zero_add]; exact row2 j (by omega)) (fun b q1 q2 => f2 b (by omega) (by omega) (by omega) (by omega) (by omega) (by omega) (by omega) (by omega) (by omega)) ?_ ?_
      · rw [lk _ (by omega)]
      · intro w hw; rw [lk _ (by omega)]
  · intro J1 K1 J4 z ff p0 pC pP d0 d1 d2 d3 d4 d5 d6
    have pP' : POK A (orun A NL B n 300 ((rn isBl B n 0, 0, 0), 0, 0, 0, fun _ _ => 0, fun _ _ => 0, fun _ => 0)) := pP
    generalize hq : (orun A NL B n 300 ((rn isBl B n 0, 0, 0), 0, 0, 0, fun _ _ => 0, fun _ _ => 0, fun _ => 0)) = q at *
    obtain ⟨y1, y2, y3⟩ := fSo_ok z
    rw [if_pos z, z] at d6
    have lk : ∀ b, b ≠ x + 138 → K1 b = L b := ff.2
    have ex : J1 x = I x := ff.1 x (by omega) (by omega) (by omega) (by omega)
    have e4x : J4 x = va_up (va_up (va_up (I x) 3 (nI 0)) 4 (nI 0)) 5 (-1) := by
      rw [d6 x (by omega), va_up_self, ex]
    have f1 : ∀ b, b ≠ x → b ≠ x + 138 → b ≠ x + 142 → b ≠ x + 143 → ¬ (x + 53 ≤ b ∧ b ≤ x + 58) → ¬ (x + 27 ≤ b ∧ b ≤ x + 32) → (va_up J4 x (va_up (J4 x) 0 (nI 0))) b = I b := fun b b0 b1 b2 b3 b4 b5 => by rw [va_up_ne _ _ b0, d6 b (by omega), va_up_ne _ _ b0, ff.1 b b1 b2 b3 b4]
    obtain ⟨c1, c2, c3, c4, c5⟩ := pC
    have n8 : J4 (x + 27) 1 = nI q.2.2.1 := by
      rw [d0 1 (by omega)]; exact c1
    refine ⟨rfl, by rw [f1 sc (by omega) (by omega) (by omega) (by omega) (by omega) (by omega)]; exact hI.scr, ?_⟩
    refine k_mornings (d := d + 29) (B := B) (tl := tl) (A := A) (NL := NL) hmO hK (by rw [f1 _ (by omega) (by omega) (by omega) (by omega) (by omega) (by omega)]; exact hB2) h300 (by rw [f1 _ (by omega) (by omega) (by omega) (by omega) (by omega) (by omega)]; exact t2) htl hnt ?_ (fun _ y => absurd (by rw [hq]; exact z) y) ?_
    · obtain ⟨m0, m1, m2, m3, m4⟩ := hNM
      refine ⟨?_, ?_, ?_, ?_, m4⟩
      · rw [f1 _ (by omega) (by omega) (by omega) (by omega) (by omega) (by omega)]; exact m0
      · rw [f1 _ (by omega) (by omega) (by omega) (by omega) (by omega) (by omega)]; exact m1
      · rw [f1 _ (by omega) (by omega) (by omega) (by omega) (by omega) (by omega)]; exact m2
      · rw [lk _ (by omega)]; exact m3
    rw [hq]
    intro J2 _ o2 m2 r2 r5 rk s2 s10 s16 s17 _
    have f2 : ∀ b, b ≠ x → b ≠ x + 138 → b ≠ x + 142 → b ≠ x + 143 → ¬ (x + 53 ≤ b ∧ b ≤ x + 58) → ¬ (x + 27 ≤ b ∧ b ≤ x + 32) → b ≠ x + 163 → b ≠ x + 163 + 1 → b ≠ x + 163 + 7 → b ≠ x + 163 + 8 → J2 b = I b := fun b b0 b1 b2 b3 b4 b5 b6 b7 b8 b9 => by rw [o2 b b6 b7 b8 b9, f1 b b0 b1 b2 b3 b4 b5]
    have ex2 : J2 x = va_up (va_up (va_up (va_up (I x) 3 (nI 0)) 4 (nI 0)) 5 (-1)) 0 (nI 0) := by
      rw [o2 x (by omega) (by omega) (by omega) (by omega), va_up_self, e4x]
    have fn : ∀ b, x + 27 ≤ b → b ≤ x + 32 → J2 b = J4 b := fun b h1 h2 => by rw [o2 b (by omega) (by omega) (by omega) (by omega), va_up_ne _ _ (by omega)]
    have row2 : ∀ j, (j < 242 ∧ j ≠ 5) ∨ (602 ≤ j ∧ j < 2432) → J2 (x + 163 + 1) j = I (x + 163 + 1) j := fun j hj => by rw [r2 j hj, f1 _ (by omega) (by omega) (by omega) (by omega) (by omega) (by omega)]
    refine ⟨by rw [n8], rfl, A, inv_rd hI (v := 0) (by omega) ?_ s2 ?_ ?_ ?_ s10 ?_ ?_ ?_ ?_ ?_ ?_ ?_ ?_⟩
    · rw [ex2, va_up_self]
    · rw [f2 sc (by omega) (by omega) (by omega) (by omega) (by omega) (by omega) (by omega) (by omega) (by omega) (by omega)]; exact hI.scr
    · intro b hb; unfold relO at hb; exact f2 b (by omega) (by omega) (by omega) (by omega) (by omega) (by omega) (by omega) (by omega) (by omega) (by omega)
    · rw [ex2]; simp (disch := omega) only [va_up_ne, va_up_self]
    · rw [ex2, s16]; simp (disch := omega) only [va_up_ne, va_up_self]
    · rw [ex2, s17]; simp (disch := omega) only [va_up_ne, va_up_self]
    · intro j hj; rw [ex2]; simp (disch := omega) only [va_up_ne, va_up_self]
    · intro j hj; rw [m2 j (by omega), f1 _ (by omega) (by omega) (by omega) (by omega) (by omega) (by omega)]
    · intro j h1 h2; exact row2 j (by omega)
    · intro b b1 b2 b3 b4; rw [lk b b1]
    · intro j h1 h2; rw [lk _ (by omega)]
    · have hw := hI.now
      refine slotA.mk hw.w hw.t hw.s7 hw.pd (fun j hj h5 => ?_) (sta_fr hw.sr (fun b h1 h2 => f2 b (by omega) (by omega) (by omega) (by omega) (by omega) (by omega) (by omega) (by omega) (by omega) (by omega))) (nam_fr hw.nm rfl hW.n (by rw [lk _ (by omega)]) (fun w hw => by rw [lk _ (by omega)])) ?_
      · simp only [Nat.zero_add]; rw [row2 j (by omega)]; exact rA j hj h5
      · have dq : q.2.2.2.1 = 0 := y2
        have pP2 : PIv A q.2.1 q.2.2.1 0 q.2.2.2.2.1 q.2.2.2.2.2.1 q.2.2.2.2.2.2 := by
          have := pP'
          unfold POK at this
          rw [dq] at this
          exact this
        have nb : q.2.1 < 61 := by
          obtain ⟨b1, b2, b3, b4⟩ := pP2.1
          omega
        refine pP2.prg ?_ ?_ ?_ ?_ ?_
        · rw [fn (x + 7 + 20) (by omega) (by omega)]
          exact (d0 0 (by omega)).trans p0
        · rw [Nat.zero_add]; exact r5
        · rw [fn (x + 7 + 20) (by omega) (by omega)]
          exact (d0 2 (by omega)).trans c2
        · intro k hk j hj
          show J2 (x + 163 + 1) (0 + (242 + 6 * k + j)) = _
          rw [Nat.zero_add]; exact rk k hk j hj
        · intro k hk
          obtain ⟨k1, k2, k3, k4, k5⟩ := c3 k hk
          refine ⟨?_, ?_, ?_, ?_, ?_⟩
          · rw [fn (x + 7 + 21) (by omega) (by omega)]; exact (d1 k (by omega)).trans k1
          · rw [fn (x + 7 + 22) (by omega) (by omega)]; exact (d2 k (by omega)).trans k2
          · rw [fn (x + 7 + 23) (by omega) (by omega)]; exact (d3 k (by omega)).trans k3
          · rw [fn (x + 7 + 24) (by omega) (by omega)]; exact (d4 k (by omega)).trans k4
          · rw [fn (x + 7 + 25) (by omega) (by omega)]; exact (d5 k (by omega)).trans k5
end SMO

