/-! The class: walkers and stances over the same state A. -/
def WFA (A : AS) : Prop := (smallA A) ∧ (A 0 ≤ 6) ∧ (A 1 ≤ 5) ∧ (A 2 ≤ 4) ∧ (A 3 ≤ 9) ∧ (A 0 = 0 → A 2 = 0 ∧ A 1 = 0) ∧ (A 1 = 0 → A 2 = 0 ∧ A 0 = 0) ∧ (∀ c, c < 30 → cI A c 0 ≤ cI A c 1) ∧ (∀ c, c < 30 → cI A c 1 ≤ 99) ∧ (∀ c, c < 30 → cI A c 2 ≤ 9) ∧ (∀ c, c < 30 → cI A c 3 ≤ 30) ∧ (∀ c, c < 30 → cI A c 4 ≤ 16) ∧ (∀ c, c < 30 → cI A c 5 ≤ 1) ∧ (∀ c, c < 30 → hereB A c = false → cI A c 0 = cI A c 1 ∧ cI A c 5 = 0) ∧ (∀ w, w < A 2 → 1 ≤ wI A w 0 ∧ wI A w 0 ≤ 20) ∧ (∀ w, w < A 2 → 1 ≤ wI A w 1 ∧ wI A w 1 ≤ 3) ∧ (∀ w, w < A 2 → 1 ≤ wI A w 2 ∧ wI A w 2 ≤ 30) ∧ (∀ w, w < A 2 → wI A w 3 ≤ 20) ∧ (∀ w, w < A 2 → wI A w 4 < A 0 ∧ wI A w 5 < A 1) ∧ (∀ w, w < A 2 → wI A w 6 ≤ 1) ∧ (∀ w, w < A 2 → ∀ p, p < 2 → pI A w p 0 < A 0 ∧ pI A w p 1 < A 1) ∧ (∀ w, w < A 2 → ∀ p, p < 2 → pI A w p 2 ≤ 30) ∧ (∀ w, w < A 2 → ∀ p, p < 2 → ¬ wI A w 6 = 1 → pI A w p 2 < wI A w 2) ∧ (∀ w, A 2 ≤ w → w < 4 → ∀ k, k < 14 → wI A w k = 0)
theorem WFA.sm {A : AS} (h : WFA A) : smallA A := h.1
theorem WFA.w0 {A : AS} (h : WFA A) : A 0 ≤ 6 := h.2.1
theorem WFA.w1 {A : AS} (h : WFA A) : A 1 ≤ 5 := h.2.2.1
theorem WFA.n {A : AS} (h : WFA A) : A 2 ≤ 4 := h.2.2.2.1
theorem WFA.m {A : AS} (h : WFA A) : A 3 ≤ 9 := h.2.2.2.2.1
theorem WFA.z0 {A : AS} (h : WFA A) : A 0 = 0 → A 2 = 0 ∧ A 1 = 0 := h.2.2.2.2.2.1
theorem WFA.z1 {A : AS} (h : WFA A) : A 1 = 0 → A 2 = 0 ∧ A 0 = 0 := h.2.2.2.2.2.2.1
theorem WFA.sk {A : AS} (h : WFA A) : ∀ c, c < 30 → cI A c 0 ≤ cI A c 1 := h.2.2.2.2.2.2.2.1
theorem WFA.wh {A : AS} (h : WFA A) : ∀ c, c < 30 → cI A c 1 ≤ 99 := h.2.2.2.2.2.2.2.2.1
theorem WFA.so {A : AS} (h : WFA A) : ∀ c, c < 30 → cI A c 2 ≤ 9 := h.2.2.2.2.2.2.2.2.2.1
theorem WFA.de {A : AS} (h : WFA A) : ∀ c, c < 30 → cI A c 3 ≤ 30 := h.2.2.2.2.2.2.2.2.2.2.1
theorem WFA.od {A : AS} (h : WFA A) : ∀ c, c < 30 → cI A c 4 ≤ 16 := h.2.2.2.2.2.2.2.2.2.2.2.1
theorem WFA.fi {A : AS} (h : WFA A) : ∀ c, c < 30 → cI A c 5 ≤ 1 := h.2.2.2.2.2.2.2.2.2.2.2.2.1
theorem WFA.nh {A : AS} (h : WFA A) : ∀ c, c < 30 → hereB A c = false → cI A c 0 = cI A c 1 ∧ cI A c 5 = 0 := h.2.2.2.2.2.2.2.2.2.2.2.2.2.1
theorem WFA.we {A : AS} (h : WFA A) : ∀ w, w < A 2 → 1 ≤ wI A w 0 ∧ wI A w 0 ≤ 20 := h.2.2.2.2.2.2.2.2.2.2.2.2.2.2.1
theorem WFA.re {A : AS} (h : WFA A) : ∀ w, w < A 2 → 1 ≤ wI A w 1 ∧ wI A w 1 ≤ 3 := h.2.2.2.2.2.2.2.2.2.2.2.2.2.2.2.1
theorem WFA.lo {A : AS} (h : WFA A) : ∀ w, w < A 2 → 1 ≤ wI A w 2 ∧ wI A w 2 ≤ 30 := h.2.2.2.2.2.2.2.2.2.2.2.2.2.2.2.2.1
theorem WFA.ld {A : AS} (h : WFA A) : ∀ w, w < A 2 → wI A w 3 ≤ 20 := h.2.2.2.2.2.2.2.2.2.2.2.2.2.2.2.2.2.1
theorem WFA.to {A : AS} (h : WFA A) : ∀ w, w < A 2 → wI A w 4 < A 0 ∧ wI A w 5 < A 1 := h.2.2.2.2.2.2.2.2.2.2.2.2.2.2.2.2.2.2.1
theorem WFA.fa {A : AS} (h : WFA A) : ∀ w, w < A 2 → wI A w 6 ≤ 1 := h.2.2.2.2.2.2.2.2.2.2.2.2.2.2.2.2.2.2.2.1
theorem WFA.po {A : AS} (h : WFA A) : ∀ w, w < A 2 → ∀ p, p < 2 → pI A w p 0 < A 0 ∧ pI A w p 1 < A 1 := h.2.2.2.2.2.2.2.2.2.2.2.2.2.2.2.2.2.2.2.2.1
theorem WFA.su {A : AS} (h : WFA A) : ∀ w, w < A 2 → ∀ p, p < 2 → pI A w p 2 ≤ 30 := h.2.2.2.2.2.2.2.2.2.2.2.2.2.2.2.2.2.2.2.2.2.1
theorem WFA.sl {A : AS} (h : WFA A) : ∀ w, w < A 2 → ∀ p, p < 2 → ¬ wI A w 6 = 1 → pI A w p 2 < wI A w 2 := h.2.2.2.2.2.2.2.2.2.2.2.2.2.2.2.2.2.2.2.2.2.2.1
theorem WFA.un {A : AS} (h : WFA A) : ∀ w, A 2 ≤ w → w < 4 → ∀ k, k < 14 → wI A w k = 0 := h.2.2.2.2.2.2.2.2.2.2.2.2.2.2.2.2.2.2.2.2.2.2.2
theorem WFA.mk {A : AS} (h_sm : smallA A) (h_w0 : A 0 ≤ 6) (h_w1 : A 1 ≤ 5) (h_n : A 2 ≤ 4) (h_m : A 3 ≤ 9) (h_z0 : A 0 = 0 → A 2 = 0 ∧ A 1 = 0) (h_z1 : A 1 = 0 → A 2 = 0 ∧ A 0 = 0) (h_sk : ∀ c, c < 30 → cI A c 0 ≤ cI A c 1) (h_wh : ∀ c, c < 30 → cI A c 1 ≤ 99) (h_so : ∀ c, c < 30 → cI A c 2 ≤ 9) (h_de : ∀ c, c < 30 → cI A c 3 ≤ 30) (h_od : ∀ c, c < 30 → cI A c 4 ≤ 16) (h_fi : ∀ c, c < 30 → cI A c 5 ≤ 1) (h_nh : ∀ c, c < 30 → hereB A c = false → cI A c 0 = cI A c 1 ∧ cI A c 5 = 0) (h_we : ∀ w, w < A 2 → 1 ≤ wI A w 0 ∧ wI A w 0 ≤ 20) (h_re : ∀ w, w < A 2 → 1 ≤ wI A w 1 ∧ wI A w 1 ≤ 3) (h_lo : ∀ w, w < A 2 → 1 ≤ wI A w 2 ∧ wI A w 2 ≤ 30) (h_ld : ∀ w, w < A 2 → wI A w 3 ≤ 20) (h_to : ∀ w, w < A 2 → wI A w 4 < A 0 ∧ wI A w 5 < A 1) (h_fa : ∀ w, w < A 2 → wI A w 6 ≤ 1) (h_po : ∀ w, w < A 2 → ∀ p, p < 2 → pI A w p 0 < A 0 ∧ pI A w p 1 < A 1) (h_su : ∀ w, w < A 2 → ∀ p, p < 2 → pI A w p 2 ≤ 30) (h_sl : ∀ w, w < A 2 → ∀ p, p < 2 → ¬ wI A w 6 = 1 → pI A w p 2 < wI A w 2) (h_un : ∀ w, A 2 ≤ w → w < 4 → ∀ k, k < 14 → wI A w k = 0) : WFA A := ⟨h_sm, h_w0, h_w1, h_n, h_m, h_z0, h_z1, h_sk, h_wh, h_so, h_de, h_od, h_fi, h_nh, h_we, h_re, h_lo, h_ld, h_to, h_fa, h_po, h_su, h_sl, h_un⟩
/-- what ground and walkers are made of -/
def keepL (j : Nat) : Prop := j < 4 ∨ (6 ≤ j ∧ j < 186 ∧ j % 6 ≠ 0) ∨ (186 ≤ j ∧ (j - 186) % 14 < 6)
theorem keepL_J {j : Nat} (h : keepL j) : keepJ j := by
  unfold keepL at h
  unfold keepJ
  rcases h with h | h | h
  · exact Or.inl h
  · exact Or.inr (Or.inl h)
  · exact Or.inr (Or.inr ⟨h.1, by omega, by omega, by omega⟩)
theorem kL_c {c k : Nat} (hc : c < 30) (hk : 0 < k) (hk2 : k < 6) : keepL (6 + 6 * c + k) := Or.inr (Or.inl (by omega))
theorem kL_w {w k : Nat} (hk2 : k < 6) : keepL (186 + 14 * w + k) := Or.inr (Or.inr (by omega))
/-- a stilt's cell in the class's count -/
def cst (A : AS) (t : Nat) : Nat := pI A (t / 2) (t % 2) 1 * A 0 + pI A (t / 2) (t % 2) 0
def gcl (A : AS) (w : Nat) : Nat := wI A w 5 * A 0 + wI A w 4
def flm (A : AS) : Nat := msk (fun w => decide (wI A w 6 = 1)) (A 2)
theorem cc_lt {w r x y : Nat} (hx : x < w) (hy : y < r) : y * w + x < w * r := by
  have h1 : (y + 1) * w ≤ r * w := Nat.mul_le_mul_right w hy
  rw [Nat.add_mul, Nat.one_mul] at h1
  rw [Nat.mul_comm w r]
  omega
theorem cc_mod {w x y : Nat} (hx : x < w) : (y * w + x) % w = x := by
  rw [Nat.add_comm, Nat.add_mul_mod_self_right, Nat.mod_eq_of_lt hx]
theorem cc_div {w x y : Nat} (hx : x < w) : (y * w + x) / w = y := by
  rw [Nat.add_comm, Nat.add_mul_div_right _ _ (by omega), Nat.div_eq_of_lt hx, Nat.zero_add]
theorem mc_cc {A : AS} {x y : Nat} (hx : x < A 0) : mc A (y * A 0 + x) = 6 * y + x := by
  unfold mc
  rw [cc_mod hx, cc_div hx]
theorem mc_inj {A : AS} {c e : Nat} (h0 : A 0 ≤ 6) (hp : 0 < A 0) (h : mc A c = mc A e) : c = e := by
  have h1 := @mc_x A c h0 hp
  have h2 := @mc_x A e h0 hp
  rw [h] at h1
  have m1 : c % A 0 = e % A 0 := h1.1.symm.trans h2.1
  have m2 : c / A 0 = e / A 0 := h1.2.symm.trans h2.2
  have e1 := Nat.div_add_mod c (A 0)
  have e2 := Nat.div_add_mod e (A 0)
  rw [m1, m2] at e1
  exact e1.symm.trans e2
theorem mc_lt {A : AS} {c : Nat} (h0 : A 0 ≤ 6) (h1 : A 1 ≤ 5) (hc : c < A 0 * A 1) : mc A c < 30 ∧ hereB A (mc A c) = true := by
  have hp : 0 < A 0 := by
    rcases Nat.eq_zero_or_pos (A 0) with q | q
    · rw [q, Nat.zero_mul] at hc; omega
    · exact q
  have hm := Nat.mod_lt c hp
  have hd : c / A 0 < A 1 := Nat.div_lt_of_lt_mul hc
  have hx := @mc_x A c h0 hp
  have hh : hereB A (mc A c) = true := hereB_iff.mpr ⟨by rw [hx.1]; exact hm, by rw [hx.2]; exact hd⟩
  exact ⟨by unfold mc; omega, hh⟩
theorem WFA.pos {A : AS} (h : WFA A) {w : Nat} (hw : w < A 2) : 0 < A 0 ∧ 0 < A 1 := by
  constructor
  · rcases Nat.eq_zero_or_pos (A 0) with q | q
    · have := (h.z0 q).1; omega
    · exact q
  · rcases Nat.eq_zero_or_pos (A 1) with q | q
    · have := (h.z1 q).1; omega
    · exact q
theorem cst_lt {A : AS} (h : WFA A) {t : Nat} (ht : t < 2 * A 2) : cst A t < A 0 * A 1 := cc_lt (h.po (t / 2) (by omega) (t % 2) (by omega)).1 (h.po (t / 2) (by omega) (t % 2) (by omega)).2
theorem gcl_lt {A : AS} (h : WFA A) {w : Nat} (hw : w < A 2) : gcl A w < A 0 * A 1 := cc_lt (h.to w hw).1 (h.to w hw).2
theorem mc_cst {A : AS} (h : WFA A) {t : Nat} (ht : t < 2 * A 2) : mc A (cst A t) = pcl A (t / 2) (t % 2) := mc_cc (h.po (t / 2) (by omega) (t % 2) (by omega)).1
theorem mc_gcl {A : AS} (h : WFA A) {w : Nat} (hw : w < A 2) : mc A (gcl A w) = wnt A w := mc_cc (h.to w hw).1
theorem WFA.c30 {A : AS} (h : WFA A) : A 0 * A 1 ≤ 30 := mul30 h.w0 h.w1
theorem WFA.pcl30 {A : AS} (h : WFA A) : polesIn30 A := by
  intro w p hw hp
  by_cases g : w < A 2
  · have h1 := h.po w g p hp
    have := h.w0
    have := h.w1
    unfold pcl; omega
  · have u0 : pI A w p 0 = 0 := by
      have := h.un w (by omega) hw (8 + 3 * p + 0) (by omega)
      unfold wI at this; unfold pI; rw [← this]; congr 1; omega
    have u1 : pI A w p 1 = 0 := by
      have := h.un w (by omega) hw (8 + 3 * p + 1) (by omega)
      unfold wI at this; unfold pI; rw [← this]; congr 1; omega
    unfold pcl; omega
theorem WFA.bu {A : AS} (h : WFA A) {w : Nat} (hw : w < 4) : burd A w ≤ 40 := by
  unfold burd
  by_cases g : w < A 2
  · have := (h.we w g).2; have := h.ld w g; omega
  · have := h.un w (by omega) hw 0 (by omega)
    have := h.un w (by omega) hw 3 (by omega)
    omega
theorem WFA.ok {A : AS} (h : WFA A) : OKA A := ⟨h.sm, h.n, h.pcl30, fun w hw => by have := h.bu hw; omega⟩
theorem flm_lt {A : AS} (h : A 2 ≤ 4) : flm A < 16 := Nat.lt_of_lt_of_le (msk_lt _ _) (Nat.pow_le_pow_right (by decide) h)
theorem flm_bit {A : AS} {w : Nat} (hw : w < A 2) : (flm A).testBit w = decide (wI A w 6 = 1) := by
  unfold flm
  rw [msk_bit]; simp [hw]
theorem fmk_lt {A : AS} (h0 : A 0 ≤ 6) (h1 : A 1 ≤ 5) : fmk A < 2 ^ 30 := Nat.lt_of_lt_of_le (msk_lt _ _) (Nat.pow_le_pow_right (by decide) (mul30 h0 h1))
theorem fmk_bit {A : AS} {c : Nat} (hc : c < A 0 * A 1) : (fmk A).testBit c = decide (cI A (mc A c) 5 = 1) := by
  unfold fmk
  rw [msk_bit]; simp [hc]
def flkL (S : mS) (R : mR) (t : Nat) : Prop := kd S t = 4 ∧ (R t 1 = some (t + 1) ∧ kd S (t + 1) = 101 ∧ ln S (t + 1) = 4) ∧ (R t 2 = some (t + 2) ∧ kd S (t + 2) = 100 ∧ ln S (t + 2) = 4) ∧ (R t 3 = some (t + 3) ∧ kd S (t + 3) = 100 ∧ ln S (t + 3) = 4) ∧ (R t 4 = some (t + 4) ∧ kd S (t + 4) = 100 ∧ ln S (t + 4) = 4) ∧ (R t 5 = some (t + 5) ∧ kd S (t + 5) = 100 ∧ ln S (t + 5) = 4) ∧ (R t 6 = some (t + 6) ∧ kd S (t + 6) = 100 ∧ ln S (t + 6) = 4) ∧ (R t 7 = some (t + 7) ∧ kd S (t + 7) = 100 ∧ ln S (t + 7) = 4)
theorem flk_k {S : mS} {R : mR} {t : Nat} (h : flkL S R t) : kd S t = 4 := h.1
theorem flk_R1 {S : mS} {R : mR} {t : Nat} (h : flkL S R t) : R t 1 = some (t + 1) := h.2.1.1
theorem flk_k1 {S : mS} {R : mR} {t : Nat} (h : flkL S R t) : kd S (t + 1) = 101 := h.2.1.2.1
theorem flk_n1 {S : mS} {R : mR} {t : Nat} (h : flkL S R t) : ln S (t + 1) = 4 := h.2.1.2.2
theorem flk_R2 {S : mS} {R : mR} {t : Nat} (h : flkL S R t) : R t 2 = some (t + 2) := h.2.2.1.1
theorem flk_k2 {S : mS} {R : mR} {t : Nat} (h : flkL S R t) : kd S (t + 2) = 100 := h.2.2.1.2.1
theorem flk_n2 {S : mS} {R : mR} {t : Nat} (h : flkL S R t) : ln S (t + 2) = 4 := h.2.2.1.2.2
theorem flk_R3 {S : mS} {R : mR} {t : Nat} (h : flkL S R t) : R t 3 = some (t + 3) := h.2.2.2.1.1
theorem flk_k3 {S : mS} {R : mR} {t : Nat} (h : flkL S R t) : kd S (t + 3) = 100 := h.2.2.2.1.2.1
theorem flk_n3 {S : mS} {R : mR} {t : Nat} (h : flkL S R t) : ln S (t + 3) = 4 := h.2.2.2.1.2.2
theorem flk_R4 {S : mS} {R : mR} {t : Nat} (h : flkL S R t) : R t 4 = some (t + 4) := h.2.2.2.2.1.1
theorem flk_k4 {S : mS} {R : mR} {t : Nat} (h : flkL S R t) : kd S (t + 4) = 100 := h.2.2.2.2.1.2.1
theorem flk_n4 {S : mS} {R : mR} {t : Nat} (h : flkL S R t) : ln S (t + 4) = 4 := h.2.2.2.2.1.2.2
theorem flk_R5 {S : mS} {R : mR} {t : Nat} (h : flkL S R t) : R t 5 = some (t + 5) := h.2.2.2.2.2.1.1
theorem flk_k5 {S : mS} {R : mR} {t : Nat} (h : flkL S R t) : kd S (t + 5) = 100 := h.2.2.2.2.2.1.2.1
theorem flk_n5 {S : mS} {R : mR} {t : Nat} (h : flkL S R t) : ln S (t + 5) = 4 := h.2.2.2.2.2.1.2.2
theorem flk_R6 {S : mS} {R : mR} {t : Nat} (h : flkL S R t) : R t 6 = some (t + 6) := h.2.2.2.2.2.2.1.1
theorem flk_k6 {S : mS} {R : mR} {t : Nat} (h : flkL S R t) : kd S (t + 6) = 100 := h.2.2.2.2.2.2.1.2.1
theorem flk_n6 {S : mS} {R : mR} {t : Nat} (h : flkL S R t) : ln S (t + 6) = 4 := h.2.2.2.2.2.2.1.2.2
theorem flk_R7 {S : mS} {R : mR} {t : Nat} (h : flkL S R t) : R t 7 = some (t + 7) := h.2.2.2.2.2.2.2.1
theorem flk_k7 {S : mS} {R : mR} {t : Nat} (h : flkL S R t) : kd S (t + 7) = 100 := h.2.2.2.2.2.2.2.2.1
theorem flk_n7 {S : mS} {R : mR} {t : Nat} (h : flkL S R t) : ln S (t + 7) = 4 := h.2.2.2.2.2.2.2.2.2
/-- a stance at s over the ground l and the walkers f -/
def stnL (S : mS) (R : mR) (l f s : Nat) : Prop := kd S s = 5 ∧ R s 0 = some l ∧ R s 1 = some f ∧ R s 2 = some (s + 1) ∧ R s 3 = some (s + 2) ∧ R s 4 = some (s + 3) ∧ kd S (s + 1) = 100 ∧ ln S (s + 1) = 30 ∧ kd S (s + 2) = 100 ∧ ln S (s + 2) = 8 ∧ kd S (s + 3) = 100 ∧ ln S (s + 3) = 8 ∧ lndL S R l ∧ flkL S R f ∧ (l + 6 < s ∨ s + 3 < l) ∧ (f + 7 < s ∨ s + 3 < f)
section SL
variable {S : mS} {R : mR} {l f s : Nat}
theorem stn_k (h : stnL S R l f s) : kd S s = 5 := h.1
theorem stn_R0 (h : stnL S R l f s) : R s 0 = some l := h.2.1
theorem stn_R1 (h : stnL S R l f s) : R s 1 = some f := h.2.2.1
theorem stn_R2 (h : stnL S R l f s) : R s 2 = some (s + 1) := h.2.2.2.1
theorem stn_R3 (h : stnL S R l f s) : R s 3 = some (s + 2) := h.2.2.2.2.1
theorem stn_R4 (h : stnL S R l f s) : R s 4 = some (s + 3) := h.2.2.2.2.2.1
theorem stn_k1 (h : stnL S R l f s) : kd S (s + 1) = 100 := h.2.2.2.2.2.2.1
theorem stn_n1 (h : stnL S R l f s) : ln S (s + 1) = 30 := h.2.2.2.2.2.2.2.1
theorem stn_k2 (h : stnL S R l f s) : kd S (s + 2) = 100 := h.2.2.2.2.2.2.2.2.1
theorem stn_n2 (h : stnL S R l f s) : ln S (s + 2) = 8 := h.2.2.2.2.2.2.2.2.2.1
theorem stn_k3 (h : stnL S R l f s) : kd S (s + 3) = 100 := h.2.2.2.2.2.2.2.2.2.2.1
theorem stn_n3 (h : stnL S R l f s) : ln S (s + 3) = 8 := h.2.2.2.2.2.2.2.2.2.2.2.1
theorem stn_l (h : stnL S R l f s) : lndL S R l := h.2.2.2.2.2.2.2.2.2.2.2.2.1
theorem stn_f (h : stnL S R l f s) : flkL S R f := h.2.2.2.2.2.2.2.2.2.2.2.2.2.1
theorem stn_dl (h : stnL S R l f s) : l + 6 < s ∨ s + 3 < l := h.2.2.2.2.2.2.2.2.2.2.2.2.2.2.1
theorem stn_df (h : stnL S R l f s) : f + 7 < s ∨ s + 3 < f := h.2.2.2.2.2.2.2.2.2.2.2.2.2.2.2
end SL
def FolkR (A : AS) (f : Nat) (I : mI) : Prop := (I f 0 = nI (A 2)) ∧ (∀ w, w < A 2 → I (f + 2) w = nI (wI A w 0)) ∧ (∀ w, w < A 2 → I (f + 3) w = nI (wI A w 1)) ∧ (∀ w, w < A 2 → I (f + 4) w = nI (wI A w 2)) ∧ (∀ w, w < A 2 → I (f + 5) w = nI (wI A w 3)) ∧ (∀ w, w < A 2 → I (f + 6) w = nI (gcl A w))
theorem FolkR.ct {A : AS} {f : Nat} {I : mI} (h : FolkR A f I) : I f 0 = nI (A 2) := h.1
theorem FolkR.we {A : AS} {f : Nat} {I : mI} (h : FolkR A f I) : ∀ w, w < A 2 → I (f + 2) w = nI (wI A w 0) := h.2.1
theorem FolkR.re {A : AS} {f : Nat} {I : mI} (h : FolkR A f I) : ∀ w, w < A 2 → I (f + 3) w = nI (wI A w 1) := h.2.2.1
theorem FolkR.lo {A : AS} {f : Nat} {I : mI} (h : FolkR A f I) : ∀ w, w < A 2 → I (f + 4) w = nI (wI A w 2) := h.2.2.2.1
theorem FolkR.ld {A : AS} {f : Nat} {I : mI} (h : FolkR A f I) : ∀ w, w < A 2 → I (f + 5) w = nI (wI A w 3) := h.2.2.2.2.1
theorem FolkR.go {A : AS} {f : Nat} {I : mI} (h : FolkR A f I) : ∀ w, w < A 2 → I (f + 6) w = nI (gcl A w) := h.2.2.2.2.2
theorem FolkR.mk {A : AS} {f : Nat} {I : mI} (h_ct : I f 0 = nI (A 2)) (h_we : ∀ w, w < A 2 → I (f + 2) w = nI (wI A w 0)) (h_re : ∀ w, w < A 2 → I (f + 3) w = nI (wI A w 1)) (h_lo : ∀ w, w < A 2 → I (f + 4) w = nI (wI A w 2)) (h_ld : ∀ w, w < A 2 → I (f + 5) w = nI (wI A w 3)) (h_go : ∀ w, w < A 2 → I (f + 6) w = nI (gcl A w)) : FolkR A f I := ⟨h_ct, h_we, h_re, h_lo, h_ld, h_go⟩
def StnR (A : AS) (s mo : Nat) (I : mI) : Prop := (I s 5 = nI (flm A)) ∧ (I s 6 = nI mo) ∧ (∀ c, c < A 0 * A 1 → I (s + 1) c = nI (cI A (mc A c) 0)) ∧ (∀ t, t < 2 * A 2 → I (s + 2) t = nI (cst A t)) ∧ (∀ t, t < 2 * A 2 → I (s + 3) t = nI (pI A (t / 2) (t % 2) 2))
theorem StnR.fl {A : AS} {s mo : Nat} {I : mI} (h : StnR A s mo I) : I s 5 = nI (flm A) := h.1
theorem StnR.mo {A : AS} {s mo : Nat} {I : mI} (h : StnR A s mo I) : I s 6 = nI mo := h.2.1
theorem StnR.sk {A : AS} {s mo : Nat} {I : mI} (h : StnR A s mo I) : ∀ c, c < A 0 * A 1 → I (s + 1) c = nI (cI A (mc A c) 0) := h.2.2.1
theorem StnR.at_ {A : AS} {s mo : Nat} {I : mI} (h : StnR A s mo I) : ∀ t, t < 2 * A 2 → I (s + 2) t = nI (cst A t) := h.2.2.2.1
theorem StnR.su {A : AS} {s mo : Nat} {I : mI} (h : StnR A s mo I) : ∀ t, t < 2 * A 2 → I (s + 3) t = nI (pI A (t / 2) (t % 2) 2) := h.2.2.2.2
theorem StnR.mk {A : AS} {s mo : Nat} {I : mI} (h_fl : I s 5 = nI (flm A)) (h_mo : I s 6 = nI mo) (h_sk : ∀ c, c < A 0 * A 1 → I (s + 1) c = nI (cI A (mc A c) 0)) (h_at_ : ∀ t, t < 2 * A 2 → I (s + 2) t = nI (cst A t)) (h_su : ∀ t, t < 2 * A 2 → I (s + 3) t = nI (pI A (t / 2) (t % 2) 2)) : StnR A s mo I := ⟨h_fl, h_mo, h_sk, h_at_, h_su⟩
theorem LandR_I {A : AS} {l : Nat} {I I' : mI} (h : ∀ i, i < 7 → I' (l + i) = I (l + i)) (hR : LandR A l I) : LandR A l I' := by
  have h0 := h 0 (by omega)
  rw [Nat.add_zero] at h0
  unfold LandR at hR ⊢
  rw [h0, h 1 (by omega), h 2 (by omega), h 3 (by omega), h 4 (by omega), h 5 (by omega), h 6 (by omega)]
  exact hR
theorem FolkR_I {A : AS} {f : Nat} {I I' : mI} (h : ∀ i, i < 7 → I' (f + i) = I (f + i)) (hR : FolkR A f I) : FolkR A f I' := by
  have h0 := h 0 (by omega)
  rw [Nat.add_zero] at h0
  refine FolkR.mk ?_ ?_ ?_ ?_ ?_ ?_
  · rw [h0]; exact hR.ct
  · rw [h 2 (by omega)]; exact hR.we
  · rw [h 3 (by omega)]; exact hR.re
  · rw [h 4 (by omega)]; exact hR.lo
  · rw [h 5 (by omega)]; exact hR.ld
  · rw [h 6 (by omega)]; exact hR.go
theorem msk_congr {f g : Nat → Bool} : ∀ {n : Nat}, (∀ i, i < n → f i = g i) → msk f n = msk g n
  | 0, _ => rfl
  | n + 1, h => by
    unfold msk
    rw [msk_congr (fun i hi => h i (by omega)), h n (by omega)]
theorem mc_keep {A B : AS} (h : B 0 = A 0) (c : Nat) : mc B c = mc A c := by unfold mc; rw [h]
theorem LandR_A {A B : AS} {l : Nat} {I : mI} (h0 : A 0 ≤ 6) (h1 : A 1 ≤ 5) (h : ∀ j, keepL j → B j = A j) (hR : LandR A l I) : LandR B l I := by
  have e0 : B 0 = A 0 := h 0 (Or.inl (by omega))
  have e1 : B 1 = A 1 := h 1 (Or.inl (by omega))
  have e3 : B 3 = A 3 := h 3 (Or.inl (by omega))
  have ec : ∀ c, c < A 0 * A 1 → ∀ k, 0 < k → k < 6 → cI B (mc A c) k = cI A (mc A c) k := fun c hc k hk hk2 => h _ (kL_c (mc_lt h0 h1 hc).1 hk hk2)
  have ef : fmk B = fmk A := by
    unfold fmk
    rw [e0, e1]
    exact msk_congr (fun c hc => by rw [mc_keep e0, ec c hc 5 (by omega) (by omega)])
  unfold LandR at hR ⊢
  rw [e0, e1, e3, ef]
  refine ⟨hR.1, hR.2.1, hR.2.2.1, hR.2.2.2.1, hR.2.2.2.2.1, fun c hc => ?_⟩
  rw [mc_keep e0, ec c hc 1 (by omega) (by omega), ec c hc 2 (by omega) (by omega), ec c hc 3 (by omega) (by omega), ec c hc 4 (by omega) (by omega)]
  exact hR.2.2.2.2.2 c hc
theorem FolkR_A {A B : AS} {f : Nat} {I : mI} (h : ∀ j, keepL j → B j = A j) (hR : FolkR A f I) : FolkR B f I := by
  have e0 : B 0 = A 0 := h 0 (Or.inl (by omega))
  have e2 : B 2 = A 2 := h 2 (Or.inl (by omega))
  have ew : ∀ w k, k < 6 → wI B w k = wI A w k := fun w k hk => h _ (kL_w hk)
  refine FolkR.mk ?_ ?_ ?_ ?_ ?_ ?_
  · rw [e2]; exact hR.ct
  · intro w hw; rw [ew w 0 (by omega)]; exact hR.we w (by omega)
  · intro w hw; rw [ew w 1 (by omega)]; exact hR.re w (by omega)
  · intro w hw; rw [ew w 2 (by omega)]; exact hR.lo w (by omega)
  · intro w hw; rw [ew w 3 (by omega)]; exact hR.ld w (by omega)
  · intro w hw; unfold gcl; rw [ew w 4 (by omega), ew w 5 (by omega), e0]; exact hR.go w (by omega)
/-- the heap with the stance at s made that of A -/
def stS (I : mI) (s : Nat) (A : AS) (mo : Nat) : mI :=
  va_up (va_up (va_up (va_up I s (fun j => if j = 5 then nI (flm A) else if j = 6 then nI mo else I s j)) (s + 1) (fun c => if c < A 0 * A 1 then nI (cI A (mc A c) 0) else I (s + 1) c)) (s + 2) (fun t => if t < 2 * A 2 then nI (cst A t) else I (s + 2) t)) (s + 3) (fun t => if t < 2 * A 2 then nI (pI A (t / 2) (t % 2) 2) else I (s + 3) t)
theorem stS_3 {I : mI} {s mo : Nat} {A : AS} : stS I s A mo (s + 3) = fun t => if t < 2 * A 2 then nI (pI A (t / 2) (t % 2) 2) else I (s + 3) t := va_up_self _ _ _
theorem stS_2 {I : mI} {s mo : Nat} {A : AS} : stS I s A mo (s + 2) = fun t => if t < 2 * A 2 then nI (cst A t) else I (s + 2) t := by
  unfold stS; rw [va_up_ne _ _ (by omega), va_up_self]
theorem stS_1 {I : mI} {s mo : Nat} {A : AS} : stS I s A mo (s + 1) = fun c => if c < A 0 * A 1 then nI (cI A (mc A c) 0) else I (s + 1) c := by
  unfold stS; rw [va_up_ne _ _ (by omega), va_up_ne _ _ (by omega), va_up_self]
theorem stS_0 {I : mI} {s mo : Nat} {A : AS} : stS I s A mo s = fun j => if j = 5 then nI (flm A) else if j = 6 then nI mo else I s j := by
  unfold stS; rw [va_up_ne _ _ (by omega), va_up_ne _ _ (by omega), va_up_ne _ _ (by omega), va_up_self]
theorem stS_o {I : mI} {s mo a : Nat} {A : AS} (h : a < s ∨ s + 3 < a) : stS I s A mo a = I a := by
  unfold stS; rw [va_up_ne _ _ (by omega), va_up_ne _ _ (by omega), va_up_ne _ _ (by omega), va_up_ne _ _ (by omega)]
theorem stS_R {I : mI} {s mo : Nat} {A : AS} : StnR A s mo (stS I s A mo) := by
  refine StnR.mk ?_ ?_ ?_ ?_ ?_
  · rw [stS_0]; rfl
  · rw [stS_0]; rfl
  · intro c hc; rw [stS_1]; exact if_pos hc
  · intro c hc; rw [stS_2]; exact if_pos hc
  · intro c hc; rw [stS_3]; exact if_pos hc
theorem stS_eq {I I' : mI} {s mo : Nat} {A : AS} (h : StnR A s mo I') (ho : ∀ a, a < s ∨ s + 3 < a → I' a = I a) (h0 : ∀ j, j ≠ 5 → j ≠ 6 → I' s j = I s j) (h1 : ∀ c, A 0 * A 1 ≤ c → I' (s + 1) c = I (s + 1) c) (h2 : ∀ c, 2 * A 2 ≤ c → I' (s + 2) c = I (s + 2) c) (h3 : ∀ c, 2 * A 2 ≤ c → I' (s + 3) c = I (s + 3) c) : I' = stS I s A mo := by
  funext a j
  by_cases g0 : a = s
  · subst g0
    rw [stS_0]
    by_cases g5 : j = 5
    · subst g5; exact h.fl
    · by_cases g6 : j = 6
      · subst g6; exact h.mo
      · show _ = if j = 5 then _ else if j = 6 then _ else _
        rw [if_neg g5, if_neg g6]; exact h0 j g5 g6
  · by_cases g1 : a = s + 1
    · subst g1
      rw [stS_1]
      show _ = if j < A 0 * A 1 then _ else _
      by_cases g : j < A 0 * A 1
      · rw [if_pos g]; exact h.sk j g
      · rw [if_neg g]; exact h1 j (by omega)
    · by_cases g2 : a = s + 2
      · subst g2
        rw [stS_2]
        show _ = if j < 2 * A 2 then _ else _
        by_cases g : j < 2 * A 2
        · rw [if_pos g]; exact h.at_ j g
        · rw [if_neg g]; exact h2 j (by omega)
      · by_cases g3 : a = s + 3
        · subst g3
          rw [stS_3]
          show _ = if j < 2 * A 2 then _ else _
          by_cases g : j < 2 * A 2
          · rw [if_pos g]; exact h.su j g
          · rw [if_neg g]; exact h3 j (by omega)
        · rw [stS_o (by omega), ho a (by omega)]
theorem stS_id {I : mI} {s mo : Nat} {A : AS} (h : StnR A s mo I) : stS I s A mo = I := (stS_eq h (fun _ _ => rfl) (fun _ _ _ => rfl) (fun _ _ => rfl) (fun _ _ => rfl) (fun _ _ => rfl)).symm
theorem stS_stS {I : mI} {s mo mo2 : Nat} {A B : AS} (e0 : B 0 = A 0) (e1 : B 1 = A 1) (e2 : B 2 = A 2) : stS (stS I s A mo) s B mo2 = stS I s B mo2 := by
  refine stS_eq stS_R ?_ ?_ ?_ ?_ ?_
  · intro a h; rw [stS_o h, stS_o h]
  · intro j h5 h6; rw [stS_0, stS_0]; simp only [if_neg h5, if_neg h6]
  · intro c h; rw [stS_1, stS_1]; simp only [if_neg (show ¬ c < B 0 * B 1 by omega), if_neg (show ¬ c < A 0 * A 1 by rw [← e0, ← e1]; omega)]
  · intro c h; rw [stS_2, stS_2]; simp only [if_neg (show ¬ c < 2 * B 2 by omega), if_neg (show ¬ c < 2 * A 2 by omega)]
  · intro c h; rw [stS_3, stS_3]; simp only [if_neg (show ¬ c < 2 * B 2 by omega), if_neg (show ¬ c < 2 * A 2 by omega)]
theorem LandR_stS {I : mI} {l s mo : Nat} {A B : AS} (hd : l + 6 < s ∨ s + 3 < l) (h : LandR B l I) : LandR B l (stS I s A mo) := LandR_I (fun i hi => stS_o (by omega)) h
theorem FolkR_stS {I : mI} {f s mo : Nat} {A B : AS} (hd : f + 7 < s ∨ s + 3 < f) (h : FolkR B f I) : FolkR B f (stS I s A mo) := FolkR_I (fun i hi => stS_o (by omega)) h
