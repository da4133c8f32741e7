/-! Every sound part moves on. -/
section MON
variable {B : Nat → Nat} {n i lo hx a b c k : Nat} {s : SG} {NL : Nat → List Nat} {N : AS} {mt : Bool}
theorem sAd_m : s.1 ≤ (sAd B n s).1 := Nat.le_trans tkE_ge rn_ge
theorem sBl_m : s.1 ≤ (sBl B n k s).1 := by
  unfold sBl
  split
  · exact Nat.le_refl _
  · exact Nat.le_refl _
theorem sW_m : s.1 ≤ (sW B n i s).1 := by
  unfold sW
  split
  · exact sAd_m
  · exact sBl_m
theorem sN_m : s.1 ≤ (sN B n lo hx s).1 := by
  unfold sN
  split
  · split
    · exact sAd_m
    · exact sBl_m
  · exact sBl_m
theorem sP_m : s.1 ≤ (sP B n i lo hx s).1 := by
  unfold sP
  split
  · exact Nat.le_trans sAd_m sN_m
  · exact Nat.le_refl _
theorem sC_m : s.1 ≤ (sC B n a b s).1 := Nat.le_trans (sN_m (hx := a) (lo := 0)) sN_m
theorem sNN_m : s.1 ≤ (sNN B n NL c s).1 := by
  unfold sNN
  split
  · split
    · exact sAd_m
    · exact sBl_m
  · exact sBl_m
theorem sS_st (h : (sS B n s).2.1 = 0) : s.1 < (sS B n s).1 := by
  by_cases z : s.2.1 = 0 ∧ tkK B n s.1 = 3 ∧ B s.1 = 59
  · have e : sS B n s = sAd B n s := if_pos z
    rw [e]
    have hl : s.1 < n := by
      apply Nat.lt_of_not_le
      intro q
      have := z.2.1
      unfold tkK at this
      rw [if_pos q] at this
      omega
    exact Nat.lt_of_lt_of_le (tkE_gt hl) rn_ge
  · have e : sS B n s = sBl B n 2 s := if_neg z
    rw [e] at h
    exact (sBl_ok (by omega) h).elim
theorem pMe_m (h : (pMe B n s).2.1 = 0) : s.1 < (pMe B n s).1 := by
  unfold pMe at h ⊢
  exact Nat.lt_of_le_of_lt (Nat.le_trans (sW_m (i := 5)) (sN_m (lo := 0) (hx := 10) (s := sW B n 5 s))) (sS_st (s := sN B n 0 10 (sW B n 5 s)) h)
theorem pFi_m (h : (pFi B n N s).2.1 = 0) : s.1 < (pFi B n N s).1 := by
  unfold pFi at h ⊢
  exact Nat.lt_of_le_of_lt (Nat.le_trans (sW_m (i := 8)) (sC_m (a := N 0) (b := N 1) (s := sW B n 8 s))) (sS_st (s := sC B n (N 0) (N 1) (sW B n 8 s)) h)
theorem pMa_m (h : (pMa B n s).2.1 = 0) : s.1 < (pMa B n s).1 := by
  unfold pMa at h ⊢
  refine Nat.lt_of_le_of_lt ?_ (sS_st (s := (sN B n 0 31 (sW B n 4 (sN B n 0 10 (sW B n 3 (sN B n 0 100 (sW B n 2 (sN B n 1 6 (sW B n 1 (sN B n 1 7 (sW B n 0 s))))))))))) h)
  have h1 := Nat.le_trans (sW_m (B := B) (n := n) (i := 0) (s := s)) (sN_m (B := B) (n := n) (lo := 1) (hx := 7) (s := sW B n 0 s))
  have h2 := Nat.le_trans h1 (Nat.le_trans (sW_m (B := B) (n := n) (i := 1) (s := (sN B n 1 7 (sW B n 0 s)))) (sN_m (B := B) (n := n) (lo := 1) (hx := 6) (s := sW B n 1 (sN B n 1 7 (sW B n 0 s)))))
  have h3 := Nat.le_trans h2 (Nat.le_trans (sW_m (B := B) (n := n) (i := 2) (s := (sN B n 1 6 (sW B n 1 (sN B n 1 7 (sW B n 0 s)))))) (sN_m (B := B) (n := n) (lo := 0) (hx := 100) (s := sW B n 2 (sN B n 1 6 (sW B n 1 (sN B n 1 7 (sW B n 0 s)))))))
  have h4 := Nat.le_trans h3 (Nat.le_trans (sW_m (B := B) (n := n) (i := 3) (s := (sN B n 0 100 (sW B n 2 (sN B n 1 6 (sW B n 1 (sN B n 1 7 (sW B n 0 s)))))))) (sN_m (B := B) (n := n) (lo := 0) (hx := 10) (s := sW B n 3 (sN B n 0 100 (sW B n 2 (sN B n 1 6 (sW B n 1 (sN B n 1 7 (sW B n 0 s)))))))))
  exact Nat.le_trans h4 (Nat.le_trans (sW_m (B := B) (n := n) (i := 4) (s := (sN B n 0 10 (sW B n 3 (sN B n 0 100 (sW B n 2 (sN B n 1 6 (sW B n 1 (sN B n 1 7 (sW B n 0 s)))))))))) (sN_m (B := B) (n := n) (lo := 0) (hx := 31) (s := sW B n 4 (sN B n 0 10 (sW B n 3 (sN B n 0 100 (sW B n 2 (sN B n 1 6 (sW B n 1 (sN B n 1 7 (sW B n 0 s)))))))))))
theorem pCe_m (h : (pCe B n N s).2.1 = 0) : s.1 < (pCe B n N s).1 := by
  unfold pCe at h ⊢
  refine Nat.lt_of_le_of_lt ?_ (sS_st (s := sP B n 7 0 17 (sP B n 4 0 31 (sP B n 3 0 10 (sP B n 2 0 100 (sC B n (N 0) (N 1) (sW B n 6 s)))))) h)
  have h1 := Nat.le_trans (sW_m (B := B) (n := n) (i := 6) (s := s)) (sC_m (B := B) (n := n) (a := N 0) (b := N 1) (s := sW B n 6 s))
  have h2 := Nat.le_trans h1 (sP_m (B := B) (n := n) (i := 2) (lo := 0) (hx := 100) (s := (sC B n (N 0) (N 1) (sW B n 6 s))))
  have h3 := Nat.le_trans h2 (sP_m (B := B) (n := n) (i := 3) (lo := 0) (hx := 10) (s := sP B n 2 0 100 (sC B n (N 0) (N 1) (sW B n 6 s))))
  have h4 := Nat.le_trans h3 (sP_m (B := B) (n := n) (i := 4) (lo := 0) (hx := 31) (s := sP B n 3 0 10 (sP B n 2 0 100 (sC B n (N 0) (N 1) (sW B n 6 s)))))
  exact Nat.le_trans h4 (sP_m (B := B) (n := n) (i := 7) (lo := 0) (hx := 17) (s := sP B n 4 0 31 (sP B n 3 0 10 (sP B n 2 0 100 (sC B n (N 0) (N 1) (sW B n 6 s))))))
theorem pWa_m (h : (pWa B n N NL s).2.1 = 0) : s.1 < (pWa B n N NL s).1 := by
  unfold pWa at h ⊢
  refine Nat.lt_of_le_of_lt ?_ (sS_st (s := (sP B n 15 0 21 (sP B n 14 1 31 (sP B n 13 1 4 (sN B n 1 21 (sW B n 12 (sC B n (N 0) (N 1) (sW B n 11 (sC B n (N 0) (N 1) (sW B n 10 (sNN B n NL (N 2) (sW B n 9 s)))))))))))) h)
  have h1 := sW_m (B := B) (n := n) (i := 9) (s := s)
  have h2 := Nat.le_trans h1 (sNN_m (B := B) (n := n) (NL := NL) (c := N 2) (s := (sW B n 9 s)))
  have h3 := Nat.le_trans h2 (sW_m (B := B) (n := n) (i := 10) (s := (sNN B n NL (N 2) (sW B n 9 s))))
  have h4 := Nat.le_trans h3 (sC_m (B := B) (n := n) (a := N 0) (b := N 1) (s := (sW B n 10 (sNN B n NL (N 2) (sW B n 9 s)))))
  have h5 := Nat.le_trans h4 (sW_m (B := B) (n := n) (i := 11) (s := (sC B n (N 0) (N 1) (sW B n 10 (sNN B n NL (N 2) (sW B n 9 s))))))
  have h6 := Nat.le_trans h5 (sC_m (B := B) (n := n) (a := N 0) (b := N 1) (s := (sW B n 11 (sC B n (N 0) (N 1) (sW B n 10 (sNN B n NL (N 2) (sW B n 9 s)))))))
  have h7 := Nat.le_trans h6 (Nat.le_trans (sW_m (B := B) (n := n) (i := 12) (s := (sC B n (N 0) (N 1) (sW B n 11 (sC B n (N 0) (N 1) (sW B n 10 (sNN B n NL (N 2) (sW B n 9 s)))))))) (sN_m (B := B) (n := n) (lo := 1) (hx := 21) (s := sW B n 12 (sC B n (N 0) (N 1) (sW B n 11 (sC B n (N 0) (N 1) (sW B n 10 (sNN B n NL (N 2) (sW B n 9 s)))))))))
  have h8 := Nat.le_trans h7 (sP_m (B := B) (n := n) (i := 13) (lo := 1) (hx := 4) (s := (sN B n 1 21 (sW B n 12 (sC B n (N 0) (N 1) (sW B n 11 (sC B n (N 0) (N 1) (sW B n 10 (sNN B n NL (N 2) (sW B n 9 s))))))))))
  have h9 := Nat.le_trans h8 (sP_m (B := B) (n := n) (i := 14) (lo := 1) (hx := 31) (s := (sP B n 13 1 4 (sN B n 1 21 (sW B n 12 (sC B n (N 0) (N 1) (sW B n 11 (sC B n (N 0) (N 1) (sW B n 10 (sNN B n NL (N 2) (sW B n 9 s)))))))))))
  exact Nat.le_trans h9 (sP_m (B := B) (n := n) (i := 15) (lo := 0) (hx := 21) (s := (sP B n 14 1 31 (sP B n 13 1 4 (sN B n 1 21 (sW B n 12 (sC B n (N 0) (N 1) (sW B n 11 (sC B n (N 0) (N 1) (sW B n 10 (sNN B n NL (N 2) (sW B n 9 s))))))))))))
theorem nxS_m (h : (nxS B n N NL mt s).2.1 = 0) : s.1 < (nxS B n N NL mt s).1 := by
  unfold nxS at h ⊢
  by_cases w0 : wdx B n s.1 = 0
  · rw [if_pos w0] at h ⊢
    by_cases n0 : N 0 = 0
    · rw [if_pos n0] at h ⊢
      exact pMa_m h
    · rw [if_neg n0] at h
      exact (sBl_ok (by omega) h).elim
  rw [if_neg w0] at h ⊢
  by_cases n0 : N 0 = 0
  · rw [if_pos n0] at h
    exact (sBl_ok (by omega) h).elim
  rw [if_neg n0] at h ⊢
  by_cases w5 : wdx B n s.1 = 5
  · rw [if_pos w5] at h ⊢
    by_cases hm : mt = true
    · rw [if_pos hm] at h
      exact (sBl_ok (by omega) h).elim
    rw [if_neg hm] at h ⊢
    exact pMe_m h
  rw [if_neg w5] at h ⊢
  by_cases w6 : wdx B n s.1 = 6
  · rw [if_pos w6] at h ⊢
    exact pCe_m h
  rw [if_neg w6] at h ⊢
  by_cases w8 : wdx B n s.1 = 8
  · rw [if_pos w8] at h ⊢
    exact pFi_m h
  rw [if_neg w8] at h ⊢
  by_cases w9 : wdx B n s.1 = 9
  · rw [if_pos w9] at h ⊢
    by_cases h4 : N 2 = 4
    · rw [if_pos h4] at h
      exact (sBl_ok (by omega) h).elim
    rw [if_neg h4] at h ⊢
    exact pWa_m h
  rw [if_neg w9] at h
  exact (sBl_ok (by omega) h).elim
end MON

