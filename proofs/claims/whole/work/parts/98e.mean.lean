/-! A step of the mornings: what it means, and that it moves on. -/
section MN1
variable {S : mS} {I J : mI} {L K : mL} {R : mR} {Q : mQ} {d x m n k i ct dp N rr kk oo : Nat} {B : Nat → Nat} {s : SG} {A : AS} {NL : Nat → List Nat} {g r : Nat → Nat → Nat} {op : Nat → Nat}
variable {c w : Nat}
theorem sWk_m : s.1 ≤ (sWk B n NL c s).1 := by
  unfold sWk
  split
  · split
    · exact sBl_m
    · exact sAd_m
  · exact sBl_m
theorem sCm_m : s.1 ≤ (sCm B n s).1 := by
  unfold sCm
  split
  · exact sAd_m
  · exact sBl_m
theorem bS_m : s.1 ≤ (bS A NL B n w s).1 := by
  unfold bS
  by_cases q16 : w = 16
  · rw [if_pos q16]
    exact (Nat.le_trans (sWk_m (B := B) (n := n) (NL := NL) (c := A 2) (s := s)) (Nat.le_trans (sN_m (B := B) (n := n) (lo := 0) (hx := 2) (s := (sWk B n NL (A 2) s))) (sC_m (B := B) (n := n) (a := A 0) (b := A 1) (s := sN B n 0 2 (sWk B n NL (A 2) s)))))
  rw [if_neg q16]
  by_cases q17 : w = 17
  · rw [if_pos q17]
    exact (sN_m (B := B) (n := n) (lo := 1) (hx := 21) (s := s))
  rw [if_neg q17]
  by_cases q18 : w = 18
  · rw [if_pos q18]
    exact (Nat.le_trans (sWk_m (B := B) (n := n) (NL := NL) (c := A 2) (s := s)) (Nat.le_trans (sWk_m (B := B) (n := n) (NL := NL) (c := A 2) (s := (sWk B n NL (A 2) s))) (sN_m (B := B) (n := n) (lo := 1) (hx := 21) (s := (sWk B n NL (A 2) (sWk B n NL (A 2) s))))))
  rw [if_neg q18]
  by_cases q19 : w = 19
  · rw [if_pos q19]
    exact (sWk_m (B := B) (n := n) (NL := NL) (c := A 2) (s := s))
  rw [if_neg q19]
  by_cases q23 : w = 23
  · rw [if_pos q23]
    exact (sN_m (B := B) (n := n) (lo := 1) (hx := 100) (s := s))
  rw [if_neg q23]
  by_cases q20 : w = 20
  · rw [if_pos q20]
    by_cases t1 : wdx B n s.1 = 21 ∨ wdx B n s.1 = 22
    · rw [if_pos t1]
      exact (Nat.le_trans (sAd_m (B := B) (n := n) (s := s)) (sWk_m (B := B) (n := n) (NL := NL) (c := A 2) (s := (sAd B n s))))
    rw [if_neg t1]
    by_cases t2 : wdx B n s.1 = 2
    · rw [if_pos t2]
      exact (Nat.le_trans (sAd_m (B := B) (n := n) (s := s)) (Nat.le_trans (sC_m (B := B) (n := n) (a := A 0) (b := A 1) (s := (sAd B n s))) (Nat.le_trans (sCm_m (B := B) (n := n) (s := sC B n (A 0) (A 1) (sAd B n s))) (sN_m (B := B) (n := n) (lo := 0) (hx := 100) (s := sCm B n (sC B n (A 0) (A 1) (sAd B n s)))))))
    rw [if_neg t2]
    exact sBl_m
  rw [if_neg q20]
  exact Nat.le_refl _
theorem opS_m (h : (opS A NL B n ct dp s).2.1 = 0) : s.1 < (opS A NL B n ct dp s).1 := by
  unfold opS at h ⊢
  by_cases w24 : wdx B n s.1 = 24
  · rw [if_pos w24] at h ⊢
    by_cases d0 : dp = 0
    · rw [if_pos d0] at h
      exact (sBl_ok (by omega) h).elim
    rw [if_neg d0] at h ⊢
    exact Nat.lt_of_le_of_lt (sAd_m (B := B) (n := n) (s := s)) (sS_st (s := sAd B n s) h)
  rw [if_neg w24] at h ⊢
  by_cases sw : stW (wdx B n s.1)
  · rw [if_pos sw] at h ⊢
    by_cases c30 : 30 ≤ ct
    · rw [if_pos c30] at h
      exact (sBl_ok (by omega) h).elim
    rw [if_neg c30] at h ⊢
    by_cases d3 : isOb (wdx B n s.1) = true ∧ 3 ≤ dp
    · rw [if_pos d3] at h
      exact (sBl_ok (by omega) h).elim
    rw [if_neg d3] at h ⊢
    exact Nat.lt_of_le_of_lt (Nat.le_trans (sAd_m (B := B) (n := n) (s := s)) (bS_m (A := A) (NL := NL) (B := B) (n := n) (w := wdx B n s.1) (s := sAd B n s))) (sS_st (s := bS A NL B n (wdx B n s.1) (sAd B n s)) h)
  · rw [if_neg sw] at h
    exact (sBl_ok (by omega) h).elim
def actG (A : AS) (w : Nat) (gr rr : List Nat) : Prop := (∀ j, j < 6 → gr.getD j 0 < 10000) ∧ actP A (fun j => gr.getD j 0) (rr.getD 0 0) (rr.getD 1 0) (rr.getD 2 0) (rr.getD 3 0) ∧ gr.getD 0 0 ≠ 22 ∧ (opn (fun j => gr.getD j 0) ↔ isOb w = true)

theorem act_16 (a0 : A 0 ≤ 6) (a1 : A 1 ≤ 5) (a2 : A 2 ≤ 4) (h : (bS A NL B n 16 s).2.1 = 0) : actG A 16 (gB A NL B n 16 s) (rB A NL B n 16 s) := by
  unfold bS at h
  rw [if_pos rfl] at h
  obtain ⟨z2, u, v, cv, hu, hv, -, -⟩ := sC_ok (s := (sN B n 0 2 (sWk B n NL (A 2) s))) h
  obtain ⟨z1, p, ep, -, hp⟩ := sN_ok (s := (sWk B n NL (A 2) s)) z2
  obtain ⟨z0, w0, ew, hw, -⟩ := sWk_ok (s := s) z1
  have eg : gB A NL B n 16 s = [16, w0, u, v, 0, p] := by
    unfold gB
    rw [if_pos rfl, ew, ep, cv]; rfl
  have er : rB A NL B n 16 s = [16, w0, p, v * A 0 + u] := by
    unfold rB
    rw [if_pos rfl, ew, ep, cv]; rfl
  rw [eg, er]
  refine ⟨?_, Or.inl ⟨rfl, rfl, rfl, rfl, rfl, hw, hp, hu, hv⟩, ?_, ?_⟩
  · intro j hj
    have hj6 : j = 0 ∨ j = 1 ∨ j = 2 ∨ j = 3 ∨ j = 4 ∨ j = 5 := by omega
    rcases hj6 with q | q | q | q | q | q <;> subst q
    · show 16 < 10000; omega
    · show w0 < 10000; omega
    · show u < 10000; omega
    · show v < 10000; omega
    · show 0 < 10000; omega
    · show p < 10000; omega
  · show (16 : Nat) ≠ 22; omega
  · exact ⟨fun q => by replace q : (16 : Nat) = 21 ∨ 2000 ≤ (16 : Nat) := q; omega, fun q => absurd q (by decide)⟩
theorem act_17 (a0 : A 0 ≤ 6) (a1 : A 1 ≤ 5) (a2 : A 2 ≤ 4) (h : (bS A NL B n 17 s).2.1 = 0) : actG A 17 (gB A NL B n 17 s) (rB A NL B n 17 s) := by
  unfold bS at h
  rw [if_neg (by omega), if_pos rfl] at h
  obtain ⟨z1, p, ep, hl, hp⟩ := sN_ok (s := s) h
  have eg : gB A NL B n 17 s = [17, p, 0, 0, 0, 0] := by
    unfold gB
    rw [if_neg (by omega), if_pos rfl, ep]; rfl
  have er : rB A NL B n 17 s = [17, p, 0, 0] := by
    unfold rB
    rw [if_neg (by omega), if_pos rfl, ep]; rfl
  rw [eg, er]
  refine ⟨?_, Or.inr (Or.inl ⟨rfl, rfl, rfl, hl, by show p ≤ 20; omega⟩), ?_, ?_⟩
  · intro j hj
    have hj6 : j = 0 ∨ j = 1 ∨ j = 2 ∨ j = 3 ∨ j = 4 ∨ j = 5 := by omega
    rcases hj6 with q | q | q | q | q | q <;> subst q
    · show 17 < 10000; omega
    · show p < 10000; omega
    · show 0 < 10000; omega
    · show 0 < 10000; omega
    · show 0 < 10000; omega
    · show 0 < 10000; omega
  · show (17 : Nat) ≠ 22; omega
  · exact ⟨fun q => by replace q : (17 : Nat) = 21 ∨ 2000 ≤ (17 : Nat) := q; omega, fun q => absurd q (by decide)⟩
theorem act_18 (a0 : A 0 ≤ 6) (a1 : A 1 ≤ 5) (a2 : A 2 ≤ 4) (h : (bS A NL B n 18 s).2.1 = 0) : actG A 18 (gB A NL B n 18 s) (rB A NL B n 18 s) := by
  unfold bS at h
  rw [if_neg (by omega), if_neg (by omega), if_pos rfl] at h
  obtain ⟨z2, p, ep, hl, hp⟩ := sN_ok (s := (sWk B n NL (A 2) (sWk B n NL (A 2) s))) h
  obtain ⟨z1, w1, ew1, hw1, -⟩ := sWk_ok (s := (sWk B n NL (A 2) s)) z2
  obtain ⟨z0, w0, ew, hw, -⟩ := sWk_ok (s := s) z1
  have eg : gB A NL B n 18 s = [18, w0, w1, p, 0, 0] := by
    unfold gB
    rw [if_neg (by omega), if_neg (by omega), if_pos rfl, ew, ew1, ep]; rfl
  have er : rB A NL B n 18 s = [18, w0, w1, p] := by
    unfold rB
    rw [if_neg (by omega), if_neg (by omega), if_pos rfl, ew, ew1, ep]; rfl
  rw [eg, er]
  refine ⟨?_, Or.inr (Or.inr (Or.inl ⟨rfl, rfl, rfl, rfl, rfl, hw, hw1, hl, by show p ≤ 20; omega⟩)), ?_, ?_⟩
  · intro j hj
    have hj6 : j = 0 ∨ j = 1 ∨ j = 2 ∨ j = 3 ∨ j = 4 ∨ j = 5 := by omega
    rcases hj6 with q | q | q | q | q | q <;> subst q
    · show 18 < 10000; omega
    · show w0 < 10000; omega
    · show w1 < 10000; omega
    · show p < 10000; omega
    · show 0 < 10000; omega
    · show 0 < 10000; omega
  · show (18 : Nat) ≠ 22; omega
  · exact ⟨fun q => by replace q : (18 : Nat) = 21 ∨ 2000 ≤ (18 : Nat) := q; omega, fun q => absurd q (by decide)⟩
theorem act_19 (a0 : A 0 ≤ 6) (a1 : A 1 ≤ 5) (a2 : A 2 ≤ 4) (h : (bS A NL B n 19 s).2.1 = 0) : actG A 19 (gB A NL B n 19 s) (rB A NL B n 19 s) := by
  unfold bS at h
  rw [if_neg (by omega), if_neg (by omega), if_neg (by omega), if_pos rfl] at h
  obtain ⟨z0, w0, ew, hw, -⟩ := sWk_ok (s := s) h
  have eg : gB A NL B n 19 s = [19, w0, 0, 0, 0, 0] := by
    unfold gB
    rw [if_neg (by omega), if_neg (by omega), if_neg (by omega), if_pos rfl, ew]; rfl
  have er : rB A NL B n 19 s = [19, w0, 0, 0] := by
    unfold rB
    rw [if_neg (by omega), if_neg (by omega), if_neg (by omega), if_pos rfl, ew]; rfl
  rw [eg, er]
  refine ⟨?_, Or.inr (Or.inr (Or.inr (Or.inl ⟨rfl, rfl, rfl, hw⟩))), ?_, ?_⟩
  · intro j hj
    have hj6 : j = 0 ∨ j = 1 ∨ j = 2 ∨ j = 3 ∨ j = 4 ∨ j = 5 := by omega
    rcases hj6 with q | q | q | q | q | q <;> subst q
    · show 19 < 10000; omega
    · show w0 < 10000; omega
    · show 0 < 10000; omega
    · show 0 < 10000; omega
    · show 0 < 10000; omega
    · show 0 < 10000; omega
  · show (19 : Nat) ≠ 22; omega
  · exact ⟨fun q => by replace q : (19 : Nat) = 21 ∨ 2000 ≤ (19 : Nat) := q; omega, fun q => absurd q (by decide)⟩
theorem act_23 (a0 : A 0 ≤ 6) (a1 : A 1 ≤ 5) (a2 : A 2 ≤ 4) (h : (bS A NL B n 23 s).2.1 = 0) : actG A 23 (gB A NL B n 23 s) (rB A NL B n 23 s) := by
  unfold bS at h
  rw [if_neg (by omega), if_neg (by omega), if_neg (by omega), if_neg (by omega), if_pos rfl] at h
  obtain ⟨z1, p, ep, hl, hp⟩ := sN_ok (s := s) h
  have eg : gB A NL B n 23 s = [21, p, 0, 0, 0, 0] := by
    unfold gB
    rw [if_neg (by omega), if_neg (by omega), if_neg (by omega), if_neg (by omega), if_pos rfl, ep]; rfl
  have er : rB A NL B n 23 s = [23, p, 0, 0] := by
    unfold rB
    rw [if_neg (by omega), if_neg (by omega), if_neg (by omega), if_neg (by omega), if_pos rfl, ep]; rfl
  rw [eg, er]
  refine ⟨?_, Or.inr (Or.inr (Or.inr (Or.inr (Or.inr (Or.inr (Or.inr (Or.inl ⟨rfl, rfl, rfl, hl, by show p ≤ 99; omega⟩))))))), ?_, ?_⟩
  · intro j hj
    have hj6 : j = 0 ∨ j = 1 ∨ j = 2 ∨ j = 3 ∨ j = 4 ∨ j = 5 := by omega
    rcases hj6 with q | q | q | q | q | q <;> subst q
    · show 21 < 10000; omega
    · show p < 10000; omega
    · show 0 < 10000; omega
    · show 0 < 10000; omega
    · show 0 < 10000; omega
    · show 0 < 10000; omega
  · show (21 : Nat) ≠ 22; omega
  · exact ⟨fun _ => rfl, fun _ => by show (21 : Nat) = 21 ∨ 2000 ≤ (21 : Nat); omega⟩
theorem act_25 (a0 : A 0 ≤ 6) (a1 : A 1 ≤ 5) (a2 : A 2 ≤ 4) (h : (bS A NL B n 25 s).2.1 = 0) : actG A 25 (gB A NL B n 25 s) (rB A NL B n 25 s) := by
  have eg : gB A NL B n 25 s = [23, 0, 0, 0, 0, 0] := by
    unfold gB
    rw [if_neg (by omega), if_neg (by omega), if_neg (by omega), if_neg (by omega), if_neg (by omega), if_neg (by omega)]
  have er : rB A NL B n 25 s = [25, 0, 0, 0] := by
    unfold rB
    rw [if_neg (by omega), if_neg (by omega), if_neg (by omega), if_neg (by omega), if_neg (by omega), if_neg (by omega)]
  rw [eg, er]
  refine ⟨?_, Or.inr (Or.inr (Or.inr (Or.inr (Or.inr (Or.inr (Or.inr (Or.inr (Or.inr (⟨rfl, rfl⟩))))))))), ?_, ?_⟩
  · intro j hj
    have hj6 : j = 0 ∨ j = 1 ∨ j = 2 ∨ j = 3 ∨ j = 4 ∨ j = 5 := by omega
    rcases hj6 with q | q | q | q | q | q <;> subst q
    · show 23 < 10000; omega
    · show 0 < 10000; omega
    · show 0 < 10000; omega
    · show 0 < 10000; omega
    · show 0 < 10000; omega
    · show 0 < 10000; omega
  · show (23 : Nat) ≠ 22; omega
  · exact ⟨fun q => by replace q : (23 : Nat) = 21 ∨ 2000 ≤ (23 : Nat) := q; omega, fun q => absurd q (by decide)⟩
theorem act_20 (a0 : A 0 ≤ 6) (a1 : A 1 ≤ 5) (a2 : A 2 ≤ 4) (h : (bS A NL B n 20 s).2.1 = 0) : actG A 20 (gB A NL B n 20 s) (rB A NL B n 20 s) := by
  rw [bS_20] at h
  by_cases t1 : wdx B n s.1 = 21
  · rw [if_pos (Or.inl t1)] at h
    obtain ⟨z0, w0, ew, hw, -⟩ := sWk_ok (s := (sAd B n s)) h
    have eg : gB A NL B n 20 s = [2024, w0, 0, 0, 0, 0] := by
      rw [gB_20, if_pos t1, ew]; rfl
    have er : rB A NL B n 20 s = [21, w0, 0, 0] := by
      rw [rB_20, if_pos t1, ew]; rfl
    rw [eg, er]
    refine ⟨?_, Or.inr (Or.inr (Or.inr (Or.inr (Or.inl ⟨rfl, rfl, rfl, hw⟩)))), ?_, ?_⟩
    · intro j hj
      have hj6 : j = 0 ∨ j = 1 ∨ j = 2 ∨ j = 3 ∨ j = 4 ∨ j = 5 := by omega
      rcases hj6 with q | q | q | q | q | q <;> subst q
      · show 2024 < 10000; omega
      · show w0 < 10000; omega
      · show 0 < 10000; omega
      · show 0 < 10000; omega
      · show 0 < 10000; omega
      · show 0 < 10000; omega
    · show (2024 : Nat) ≠ 22; omega
    · exact ⟨fun _ => rfl, fun _ => by show (2024 : Nat) = 21 ∨ 2000 ≤ (2024 : Nat); omega⟩
  by_cases t2 : wdx B n s.1 = 22
  · rw [if_pos (Or.inr t2)] at h
    obtain ⟨z0, w0, ew, hw, -⟩ := sWk_ok (s := (sAd B n s)) h
    have eg : gB A NL B n 20 s = [2025, w0, 0, 0, 0, 0] := by
      rw [gB_20, if_neg t1, if_pos t2, ew]; rfl
    have er : rB A NL B n 20 s = [22, w0, 0, 0] := by
      rw [rB_20, if_neg t1, if_pos t2, ew]; rfl
    rw [eg, er]
    refine ⟨?_, Or.inr (Or.inr (Or.inr (Or.inr (Or.inr (Or.inl ⟨rfl, rfl, rfl, hw⟩))))), ?_, ?_⟩
    · intro j hj
      have hj6 : j = 0 ∨ j = 1 ∨ j = 2 ∨ j = 3 ∨ j = 4 ∨ j = 5 := by omega
      rcases hj6 with q | q | q | q | q | q <;> subst q
      · show 2025 < 10000; omega
      · show w0 < 10000; omega
      · show 0 < 10000; omega
      · show 0 < 10000; omega
      · show 0 < 10000; omega
      · show 0 < 10000; omega
    · show (2025 : Nat) ≠ 22; omega
    · exact ⟨fun _ => rfl, fun _ => by show (2025 : Nat) = 21 ∨ 2000 ≤ (2025 : Nat); omega⟩
  rw [if_neg (by omega)] at h
  by_cases t3 : wdx B n s.1 = 2
  · rw [if_pos t3] at h
    obtain ⟨z2, p, ep, hl, hp⟩ := sN_ok (s := (sCm B n (sC B n (A 0) (A 1) (sAd B n s)))) h
    obtain ⟨z1, tk, n59⟩ := sCm_ok (s := (sC B n (A 0) (A 1) (sAd B n s))) z2
    have si := tk3_si tk
    obtain ⟨z0, u, v, cv, hu, hv, -, -⟩ := sC_ok (s := (sAd B n s)) z1
    have eg : gB A NL B n 20 s = [2006, u, v, p, 0, B (sC B n (A 0) (A 1) (sAd B n s)).1] := by
      rw [gB_20, if_neg t1, if_neg t2, ep, cv]; rfl
    have er : rB A NL B n 20 s = [2, v * A 0 + u, B (sC B n (A 0) (A 1) (sAd B n s)).1, p] := by
      rw [rB_20, if_neg t1, if_neg t2, ep, cv]; rfl
    have b5 : B (sC B n (A 0) (A 1) (sAd B n s)).1 = 60 ∨ B (sC B n (A 0) (A 1) (sAd B n s)).1 = 61 ∨ B (sC B n (A 0) (A 1) (sAd B n s)).1 = 62 := by omega
    generalize B (sC B n (A 0) (A 1) (sAd B n s)).1 = bb at eg er b5
    rw [eg, er]
    refine ⟨?_, Or.inr (Or.inr (Or.inr (Or.inr (Or.inr (Or.inr (Or.inl ⟨rfl, rfl, rfl, rfl, rfl, hu, hv, by show p ≤ 99; omega, b5⟩)))))), ?_, ?_⟩
    · intro j hj
      have hj6 : j = 0 ∨ j = 1 ∨ j = 2 ∨ j = 3 ∨ j = 4 ∨ j = 5 := by omega
      rcases hj6 with q | q | q | q | q | q <;> subst q
      · show 2006 < 10000; omega
      · show u < 10000; omega
      · show v < 10000; omega
      · show p < 10000; omega
      · show 0 < 10000; omega
      · show bb < 10000; omega
    · show (2006 : Nat) ≠ 22; omega
    · exact ⟨fun _ => rfl, fun _ => by show (2006 : Nat) = 21 ∨ 2000 ≤ (2006 : Nat); omega⟩
  rw [if_neg t3] at h
  exact (sBl_ok (by omega) h).elim
theorem act_ok (a0 : A 0 ≤ 6) (a1 : A 1 ≤ 5) (a2 : A 2 ≤ 4) (hw : stW w) (h : (bS A NL B n w s).2.1 = 0) : actG A w (gB A NL B n w s) (rB A NL B n w s) := by
  unfold stW at hw
  rcases hw with q | q | q | q | q | q | q <;> subst q
  · exact act_16 a0 a1 a2 h
  · exact act_17 a0 a1 a2 h
  · exact act_18 a0 a1 a2 h
  · exact act_19 a0 a1 a2 h
  · exact act_20 a0 a1 a2 h
  · exact act_23 a0 a1 a2 h
  · exact act_25 a0 a1 a2 h
theorem opS_ne (h24 : ¬ wdx B n s.1 = 24) (y : (opS A NL B n ct dp s).2.1 = 0) : stW (wdx B n s.1) ∧ ct < 30 ∧ (isOb (wdx B n s.1) = true → dp < 3) ∧ (bS A NL B n (wdx B n s.1) (sAd B n s)).2.1 = 0 := by
  unfold opS at y
  rw [if_neg h24] at y
  by_cases sw : stW (wdx B n s.1)
  · rw [if_pos sw] at y
    by_cases c30 : 30 ≤ ct
    · rw [if_pos c30] at y
      exact (sBl_ok (by omega) y).elim
    rw [if_neg c30] at y
    by_cases d3 : isOb (wdx B n s.1) = true ∧ 3 ≤ dp
    · rw [if_pos d3] at y
      exact (sBl_ok (by omega) y).elim
    rw [if_neg d3] at y
    exact ⟨sw, by omega, fun q => Nat.lt_of_not_le (fun e => d3 ⟨q, e⟩), sS_ok (s := bS A NL B n (wdx B n s.1) (sAd B n s)) y⟩
  · rw [if_neg sw] at y
    exact (sBl_ok (by omega) y).elim
theorem opS_24 (h24 : wdx B n s.1 = 24) (y : (opS A NL B n ct dp s).2.1 = 0) : ¬ dp = 0 := by
  unfold opS at y
  rw [if_pos h24] at y
  intro d0
  rw [if_pos d0] at y
  exact (sBl_ok (by omega) y).elim
/-- mornings in the making: scanner, acts, steps, depth, the model's rows, the class's rows, the open ones -/
abbrev OQ := SG × Nat × Nat × Nat × (Nat → Nat → Nat) × (Nat → Nat → Nat) × (Nat → Nat)
noncomputable def ostep (A : AS) (NL : Nat → List Nat) (B : Nat → Nat) (n : Nat) (q : OQ) : OQ := if wdx B n q.1.1 = 24 then (opS A NL B n q.2.2.1 q.2.2.2.1 q.1, q.2.1 + 1, q.2.2.1, q.2.2.2.1 - 1, endG q.2.2.2.2.1 q.2.1 (q.2.2.2.2.2.2 (q.2.2.2.1 - 1)), endR q.2.2.2.2.2.1 q.2.1 (q.2.2.2.2.2.2 (q.2.2.2.1 - 1)), q.2.2.2.2.2.2) else (opS A NL B n q.2.2.1 q.2.2.2.1 q.1, q.2.1 + 1, q.2.2.1 + 1, dpN (isOb (wdx B n q.1.1)) q.2.2.2.1, addG q.2.2.2.2.1 q.2.1 (gB A NL B n (wdx B n q.1.1) (sAd B n q.1)), addR q.2.2.2.2.2.1 q.2.1 (rB A NL B n (wdx B n q.1.1) (sAd B n q.1)), opN (isOb (wdx B n q.1.1)) q.2.2.2.2.2.2 q.2.2.2.1 q.2.1)
noncomputable def orun (A : AS) (NL : Nat → List Nat) (B : Nat → Nat) (n : Nat) : Nat → OQ → OQ
  | 0, q => q
  | k + 1, q => if q.1.2.1 = 0 ∧ ¬ tkK B n q.1.1 = 0 then orun A NL B n k (ostep A NL B n q) else q
def POK (A : AS) (q : OQ) : Prop := PIv A q.2.1 q.2.2.1 q.2.2.2.1 q.2.2.2.2.1 q.2.2.2.2.2.1 q.2.2.2.2.2.2
def COK (q : OQ) (x : Nat) (J : mI) : Prop := MoC q.2.1 q.2.2.1 q.2.2.2.1 q.2.2.2.2.2.1 q.2.2.2.2.2.2 x J
def KOK (q : OQ) (m : Nat) (J : mI) : Prop := MoM q.2.1 q.2.2.1 q.2.2.2.1 q.2.2.2.2.1 q.2.2.2.2.2.2 m J
theorem ostep_1 {q : OQ} : (ostep A NL B n q).1 = opS A NL B n q.2.2.1 q.2.2.2.1 q.1 := by
  unfold ostep
  split <;> rfl
theorem POK.step {q : OQ} (h : POK A q) (a0 : A 0 ≤ 6) (a1 : A 1 ≤ 5) (a2 : A 2 ≤ 4) (y : (ostep A NL B n q).1.2.1 = 0) : POK A (ostep A NL B n q) := by
  rw [ostep_1] at y
  obtain ⟨s, N, ct, dp, g, r, op⟩ := q
  replace y : (opS A NL B n ct dp s).2.1 = 0 := y
  replace h : PIv A N ct dp g r op := h
  by_cases h24 : wdx B n s.1 = 24
  · have e : ostep A NL B n (s, N, ct, dp, g, r, op) = (opS A NL B n ct dp s, N + 1, ct, dp - 1, endG g N (op (dp - 1)), endR r N (op (dp - 1)), op) := if_pos h24
    rw [e]
    show PIv A (N + 1) ct (dp - 1) (endG g N (op (dp - 1))) (endR r N (op (dp - 1))) op
    have d0 := opS_24 h24 y
    cases dp with
    | zero => exact (d0 rfl).elim
    | succ e => exact h.end
  · have e : ostep A NL B n (s, N, ct, dp, g, r, op) = (opS A NL B n ct dp s, N + 1, ct + 1, dpN (isOb (wdx B n s.1)) dp, addG g N (gB A NL B n (wdx B n s.1) (sAd B n s)), addR r N (rB A NL B n (wdx B n s.1) (sAd B n s)), opN (isOb (wdx B n s.1)) op dp N) := if_neg h24
    rw [e]
    show PIv A (N + 1) (ct + 1) (dpN (isOb (wdx B n s.1)) dp) (addG g N (gB A NL B n (wdx B n s.1) (sAd B n s))) (addR r N (rB A NL B n (wdx B n s.1) (sAd B n s))) (opN (isOb (wdx B n s.1)) op dp N)
    obtain ⟨sw, c30, d3, z⟩ := opS_ne h24 y
    obtain ⟨g1, g2, g3, g4⟩ := act_ok a0 a1 a2 sw z
    exact h.add c30 d3 g1 g2 g3 g4
theorem PIv.n60 (h : PIv A N ct dp g r op) (q : ct < 30 ∨ 0 < dp) : N < 60 := by
  obtain ⟨a1, a2, a3, a4⟩ := h.1
  omega
end MN1

