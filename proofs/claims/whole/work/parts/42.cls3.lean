/-! The class: what a moment does to a stance, put into the rows. -/
theorem shr1 : ∀ t, t < 8 → nI t >>> (nI 1 &&& 31) = nI (t / 2) := by decide +kernel
def sib (t : Nat) : Nat := if t % 2 = 0 then t + 1 else t - 1
theorem xor1 : ∀ t, t < 8 → nI t ^^^ nI 1 = nI (sib t) := by decide +kernel
theorem sib_lt {t : Nat} (h : t < 8) : sib t < 8 := by unfold sib; split <;> omega
theorem sib_div (t : Nat) : sib t / 2 = t / 2 := by unfold sib; split <;> omega
theorem sib_mod {t : Nat} : sib t % 2 = 1 - t % 2 := by unfold sib; split <;> omega
theorem sib_eq {t al : Nat} (h : t ≠ al) : (sib t = al) = (t / 2 = al / 2) := by
  apply propext
  unfold sib
  split <;> omega
theorem va_upC {α : Type} {f : Nat → α} {i k : Nat} {a b : α} (h : i ≠ k) : va_up (va_up f i a) k b = va_up (va_up f k b) i a := by
  funext j
  simp only [va_upp]
  by_cases g1 : j = k
  · subst g1; simp [Ne.symm h]
  · by_cases g2 : j = i
    · subst g2; simp [g1]
    · simp [g1, g2]
theorem flm_congr {A B : AS} (e : B 2 = A 2) (h : ∀ w, w < A 2 → wI B w 6 = wI A w 6) : flm B = flm A := by
  unfold flm
  rw [e]
  exact msk_congr (fun w hw => by rw [h w hw])
theorem WFA.upd {A B : AS} (h : WFA A) (hk : ∀ j, keepJ j → B j = A j) (hs : smallA B) (h1 : ∀ c, c < 30 → cI B c 0 ≤ cI A c 1) (h2 : ∀ c, c < 30 → hereB A c = false → cI B c 0 = cI A c 0) (h3 : ∀ w, w < A 2 → wI B w 6 ≤ 1) (h4 : ∀ w, w < A 2 → ∀ p, p < 2 → pI B w p 2 ≤ 30) (h5 : ∀ w, w < A 2 → ∀ p, p < 2 → ¬ wI B w 6 = 1 → pI B w p 2 < wI A w 2) (h6 : ∀ w, A 2 ≤ w → w < 4 → wI B w 6 = 0 ∧ pI B w 0 2 = 0 ∧ pI B w 1 2 = 0) : WFA B := by
  have e0 : B 0 = A 0 := hk 0 (Or.inl (by omega))
  have e1 : B 1 = A 1 := hk 1 (Or.inl (by omega))
  have e2 : B 2 = A 2 := hk 2 (Or.inl (by omega))
  have e3 : B 3 = A 3 := hk 3 (Or.inl (by omega))
  have ec : ∀ c k, c < 30 → 0 < k → k < 6 → cI B c k = cI A c k := fun c k hc h1 h2 => hk _ (keepL_J (kL_c hc h1 h2))
  have ew : ∀ w k, k < 14 → k ≠ 6 → k ≠ 10 → k ≠ 13 → wI B w k = wI A w k := fun w k h1 h2 h3 h4 => hk _ (Or.inr (Or.inr (by omega)))
  have ep0 : ∀ w p, w < 4 → p < 2 → pI B w p 0 = pI A w p 0 := fun w p hw hp => hk _ (keep_p0 hw hp)
  have ep1 : ∀ w p, w < 4 → p < 2 → pI B w p 1 = pI A w p 1 := fun w p hw hp => hk _ (keep_p1 hw hp)
  have hn4 := h.n
  have eh : ∀ c, hereB B c = hereB A c := fun c => by unfold hereB; rw [e0, e1]
  refine WFA.mk hs ?_ ?_ ?_ ?_ ?_ ?_ ?_ ?_ ?_ ?_ ?_ ?_ ?_ ?_ ?_ ?_ ?_ ?_ ?_ ?_ ?_ ?_ ?_
  · rw [e0]; exact h.w0
  · rw [e1]; exact h.w1
  · rw [e2]; exact h.n
  · rw [e3]; exact h.m
  · rw [e0, e1, e2]; exact h.z0
  · rw [e0, e1, e2]; exact h.z1
  · intro c hc; rw [ec c 1 hc (by omega) (by omega)]; exact h1 c hc
  · intro c hc; rw [ec c 1 hc (by omega) (by omega)]; exact h.wh c hc
  · intro c hc; rw [ec c 2 hc (by omega) (by omega)]; exact h.so c hc
  · intro c hc; rw [ec c 3 hc (by omega) (by omega)]; exact h.de c hc
  · intro c hc; rw [ec c 4 hc (by omega) (by omega)]; exact h.od c hc
  · intro c hc; rw [ec c 5 hc (by omega) (by omega)]; exact h.fi c hc
  · intro c hc hh
    rw [eh] at hh
    rw [ec c 1 hc (by omega) (by omega), ec c 5 hc (by omega) (by omega), h2 c hc hh]; exact h.nh c hc hh
  · intro w hw; rw [ew w 0 (by omega) (by omega) (by omega) (by omega)]; exact h.we w (by omega)
  · intro w hw; rw [ew w 1 (by omega) (by omega) (by omega) (by omega)]; exact h.re w (by omega)
  · intro w hw; rw [ew w 2 (by omega) (by omega) (by omega) (by omega)]; exact h.lo w (by omega)
  · intro w hw; rw [ew w 3 (by omega) (by omega) (by omega) (by omega)]; exact h.ld w (by omega)
  · intro w hw; rw [ew w 4 (by omega) (by omega) (by omega) (by omega), ew w 5 (by omega) (by omega) (by omega) (by omega), e0, e1]; exact h.to w (by omega)
  · intro w hw; exact h3 w (by omega)
  · intro w hw p hp; rw [ep0 w p (by omega) hp, ep1 w p (by omega) hp, e0, e1]; exact h.po w (by omega) p hp
  · intro w hw p hp; exact h4 w (by omega) p hp
  · intro w hw p hp hf; rw [ew w 2 (by omega) (by omega) (by omega) (by omega)]; exact h5 w (by omega) p hp hf
  · intro w hw hw4 k hk2
    have g := h6 w (by omega) hw4
    by_cases k6 : k = 6
    · subst k6; exact g.1
    · by_cases k10 : k = 10
      · subst k10; exact g.2.1
      · by_cases k13 : k = 13
        · subst k13; exact g.2.2
        · rw [ew w k hk2 k6 k10 k13]; exact h.un w (by omega) hw4 k hk2
theorem WFA.un6 {A : AS} (h : WFA A) {w : Nat} (hw : A 2 ≤ w) (hw4 : w < 4) : wI A w 6 = 0 ∧ pI A w 0 2 = 0 ∧ pI A w 1 2 = 0 := ⟨h.un w hw hw4 6 (by omega), h.un w hw hw4 10 (by omega), h.un w hw hw4 13 (by omega)⟩
theorem WFA.putsk {A : AS} (h : WFA A) {c v : Nat} (hc : c < 30) (hh : hereB A c = true) (hv : v ≤ cI A c 1) : WFA (va_up A (6 + 6 * c) v) := by
  have hw := h.wh c hc
  refine h.upd ?_ ?_ ?_ ?_ ?_ ?_ ?_ ?_
  · intro j hj
    refine va_up_ne _ _ ?_
    unfold keepJ at hj; omega
  · exact smallA_up h.sm (by omega)
  · intro e he
    unfold cI
    by_cases g : e = c
    · subst g; rw [Nat.add_zero, va_up_self]; exact hv
    · rw [va_up_ne _ _ (by omega)]; exact h.sk e he
  · intro e he hn
    have g : e ≠ c := by intro q; subst q; rw [hh] at hn; cases hn
    unfold cI
    rw [va_up_ne _ _ (by omega)]
  · intro w hw; unfold wI; rw [va_up_ne _ _ (by omega)]; exact h.fa w hw
  · intro w hw p hp; unfold pI; rw [va_up_ne _ _ (by omega)]; exact h.su w hw p hp
  · intro w hw p hp hf; unfold pI; rw [va_up_ne _ _ (by omega)]; unfold wI at hf; rw [va_up_ne _ _ (by omega)] at hf; exact h.sl w hw p hp hf
  · intro w hw hw4; unfold wI pI; rw [va_up_ne _ _ (by omega), va_up_ne _ _ (by omega), va_up_ne _ _ (by omega)]; exact h.un6 hw hw4
theorem WFA.putsu {A : AS} (h : WFA A) {w p v : Nat} (hw : w < A 2) (hp : p < 2) (hv : v ≤ 30) (hl : v < wI A w 2 ∨ wI A w 6 = 1) : WFA (va_up A (186 + 14 * w + 8 + 3 * p + 2) v) := by
  refine h.upd ?_ ?_ ?_ ?_ ?_ ?_ ?_ ?_
  · intro j hj
    refine va_up_ne _ _ ?_
    rcases (by omega : p = 0 ∨ p = 1) with rfl | rfl <;> unfold keepJ at hj <;> omega
  · exact smallA_up h.sm (by omega)
  · intro e he; unfold cI; rw [va_up_ne _ _ (by omega)]; exact h.sk e he
  · intro e he hn; unfold cI; rw [va_up_ne _ _ (by omega)]
  · intro w2 hw2; unfold wI; rw [va_up_ne _ _ (by omega)]; exact h.fa w2 hw2
  · intro w2 hw2 q hq
    unfold pI
    by_cases g : w2 = w ∧ q = p
    · rw [g.1, g.2, va_up_self]; exact hv
    · rw [va_up_ne _ _ (by omega)]; exact h.su w2 hw2 q hq
  · intro w2 hw2 q hq hf
    unfold wI at hf; rw [va_up_ne _ _ (by omega)] at hf
    unfold pI
    by_cases g : w2 = w ∧ q = p
    · rw [g.1, g.2, va_up_self]
      rcases hl with hl | hl
      · exact hl
      · rw [g.1] at hf; exact absurd hl hf
    · rw [va_up_ne _ _ (by omega)]; exact h.sl w2 hw2 q hq hf
  · intro w2 hw2 hw4; unfold wI pI; rw [va_up_ne _ _ (by omega), va_up_ne _ _ (by omega), va_up_ne _ _ (by omega)]; exact h.un6 hw2 hw4
theorem WFA.putfl {A : AS} (h : WFA A) {w : Nat} (hw : w < A 2) : WFA (va_up A (186 + 14 * w + 6) 1) := by
  refine h.upd ?_ ?_ ?_ ?_ ?_ ?_ ?_ ?_
  · intro j hj
    refine va_up_ne _ _ ?_
    unfold keepJ at hj; omega
  · exact smallA_up h.sm (by omega)
  · intro e he; unfold cI; rw [va_up_ne _ _ (by omega)]; exact h.sk e he
  · intro e he hn; unfold cI; rw [va_up_ne _ _ (by omega)]
  · intro w2 hw2
    unfold wI
    by_cases g : w2 = w
    · subst g; rw [va_up_self]; omega
    · rw [va_up_ne _ _ (by omega)]; exact h.fa w2 hw2
  · intro w2 hw2 q hq; unfold pI; rw [va_up_ne _ _ (by omega)]; exact h.su w2 hw2 q hq
  · intro w2 hw2 q hq hf
    unfold wI at hf
    by_cases g : w2 = w
    · subst g; rw [va_up_self] at hf; exact absurd rfl hf
    · rw [va_up_ne _ _ (by omega)] at hf
      unfold pI; rw [va_up_ne _ _ (by omega)]; exact h.sl w2 hw2 q hq hf
  · intro w2 hw2 hw4; unfold wI pI; rw [va_up_ne _ _ (by omega), va_up_ne _ _ (by omega), va_up_ne _ _ (by omega)]; exact h.un6 hw2 hw4
theorem WFA.put4 {A : AS} (h : WFA A) {v : Nat} (hv : v < 1000000) : WFA (va_up A 4 v) := by
  refine h.upd ?_ ?_ ?_ ?_ ?_ ?_ ?_ ?_
  · intro j hj
    refine va_up_ne _ _ ?_
    unfold keepJ at hj; omega
  · exact smallA_up h.sm hv
  · intro e he; unfold cI; rw [va_up_ne _ _ (by omega)]; exact h.sk e he
  · intro e he hn; unfold cI; rw [va_up_ne _ _ (by omega)]
  · intro w2 hw2; unfold wI; rw [va_up_ne _ _ (by omega)]; exact h.fa w2 hw2
  · intro w2 hw2 q hq; unfold pI; rw [va_up_ne _ _ (by omega)]; exact h.su w2 hw2 q hq
  · intro w2 hw2 q hq hf; unfold wI at hf; rw [va_up_ne _ _ (by omega)] at hf; unfold pI; rw [va_up_ne _ _ (by omega)]; exact h.sl w2 hw2 q hq hf
  · intro w2 hw2 hw4; unfold wI pI; rw [va_up_ne _ _ (by omega), va_up_ne _ _ (by omega), va_up_ne _ _ (by omega)]; exact h.un6 hw2 hw4
/-- a stilt bears u -/
def prA (A : AS) (t u : Nat) : AS := if bearF A (t / 2) (t % 2) u = true then va_up (bearA A (t / 2) (t % 2) u) (186 + 14 * (t / 2) + 6) 1 else bearA A (t / 2) (t % 2) u
def prB (A : AS) (t u : Nat) : Bool := decide (¬ cI A (pcl A (t / 2) (t % 2)) 5 = 1) && (decide (0 < cI A (pcl A (t / 2) (t % 2)) 0) || decide (pI A (t / 2) (t % 2) 2 < min (cI A (pcl A (t / 2) (t % 2)) 3) (pI A (t / 2) (t % 2) 2 + cI A (pcl A (t / 2) (t % 2)) 2 * u / 8)))
/-- the four outcomes of a stilt's bearing -/
theorem pr_cases {A : AS} (h : WFA A) {t : Nat} (ht : t < 2 * A 2) (u : Nat) (hf : ¬ wI A (t / 2) 6 = 1) :
    (cI A (pcl A (t / 2) (t % 2)) 5 = 1 ∧ prA A t u = A ∧ prB A t u = false)
    ∨ (¬ cI A (pcl A (t / 2) (t % 2)) 5 = 1 ∧ 0 < cI A (pcl A (t / 2) (t % 2)) 0 ∧ prA A t u = va_up A (6 + 6 * pcl A (t / 2) (t % 2)) (cI A (pcl A (t / 2) (t % 2)) 0 - u) ∧ prB A t u = true)
    ∨ (¬ cI A (pcl A (t / 2) (t % 2)) 5 = 1 ∧ cI A (pcl A (t / 2) (t % 2)) 0 = 0 ∧ min (cI A (pcl A (t / 2) (t % 2)) 3) (pI A (t / 2) (t % 2) 2 + cI A (pcl A (t / 2) (t % 2)) 2 * u / 8) ≤ pI A (t / 2) (t % 2) 2 ∧ prA A t u = A ∧ prB A t u = false)
    ∨ (¬ cI A (pcl A (t / 2) (t % 2)) 5 = 1 ∧ cI A (pcl A (t / 2) (t % 2)) 0 = 0 ∧ pI A (t / 2) (t % 2) 2 < min (cI A (pcl A (t / 2) (t % 2)) 3) (pI A (t / 2) (t % 2) 2 + cI A (pcl A (t / 2) (t % 2)) 2 * u / 8) ∧ prB A t u = true ∧ prA A t u = if wI A (t / 2) 2 ≤ min (cI A (pcl A (t / 2) (t % 2)) 3) (pI A (t / 2) (t % 2) 2 + cI A (pcl A (t / 2) (t % 2)) 2 * u / 8) then va_up (va_up A (186 + 14 * (t / 2) + 8 + 3 * (t % 2) + 2) (min (cI A (pcl A (t / 2) (t % 2)) 3) (pI A (t / 2) (t % 2) 2 + cI A (pcl A (t / 2) (t % 2)) 2 * u / 8))) (186 + 14 * (t / 2) + 6) 1 else va_up A (186 + 14 * (t / 2) + 8 + 3 * (t % 2) + 2) (min (cI A (pcl A (t / 2) (t % 2)) 3) (pI A (t / 2) (t % 2) 2 + cI A (pcl A (t / 2) (t % 2)) 2 * u / 8))) := by
  have sl := h.sl (t / 2) (by omega) (t % 2) (by omega) hf
  generalize hw : t / 2 = w at *
  generalize hp : t % 2 = p at *
  have hpq : ∀ v, pI (va_up A (186 + 14 * w + 8 + 3 * p + 2) v) w p 2 = v := fun v => va_up_self _ _ _
  unfold prA prB
  rw [hw, hp]
  by_cases g1 : cI A (pcl A w p) 5 = 1
  · left
    refine ⟨g1, ?_, ?_⟩
    · unfold bearF bearA; simp [g1]
    · simp [g1]
  · right
    by_cases g2 : 0 < cI A (pcl A w p) 0
    · left
      refine ⟨g1, g2, ?_, ?_⟩
      · unfold bearF bearA; simp [g1, g2]
      · simp [g1, g2]
    · right
      have g2' : cI A (pcl A w p) 0 = 0 := by omega
      by_cases g3 : min (cI A (pcl A w p) 3) (pI A w p 2 + cI A (pcl A w p) 2 * u / 8) ≤ pI A w p 2
      · left
        have bA : bearA A w p u = A := by
          unfold bearA
          rw [if_neg g1, if_neg g2]
          by_cases g4 : pI A w p 2 < cI A (pcl A w p) 3
          · rw [if_pos g4]
            have e : min (cI A (pcl A w p) 3) (pI A w p 2 + cI A (pcl A w p) 2 * u / 8) = pI A w p 2 := by omega
            rw [e]
            exact va_up_id
          · rw [if_neg g4]
        refine ⟨g1, g2', g3, ?_, ?_⟩
        · have bF : bearF A w p u = false := by
            unfold bearF
            rw [bA]
            simp [Nat.not_le.mpr sl]
          rw [bF, bA]; rfl
        · have : ¬ pI A w p 2 < min (cI A (pcl A w p) 3) (pI A w p 2 + cI A (pcl A w p) 2 * u / 8) := by omega
          simp [g2', decide_eq_false this]
      · right
        have g3' : pI A w p 2 < min (cI A (pcl A w p) 3) (pI A w p 2 + cI A (pcl A w p) 2 * u / 8) := by omega
        have g4 : pI A w p 2 < cI A (pcl A w p) 3 := by omega
        have bA : bearA A w p u = va_up A (186 + 14 * w + 8 + 3 * p + 2) (min (cI A (pcl A w p) 3) (pI A w p 2 + cI A (pcl A w p) 2 * u / 8)) := by
          unfold bearA
          rw [if_neg g1, if_neg g2, if_pos g4]
        refine ⟨g1, g2', g3', ?_, ?_⟩
        · simp [g1, g2', g3', decide_eq_true g3']
        · have bF : bearF A w p u = decide (wI A w 2 ≤ min (cI A (pcl A w p) 3) (pI A w p 2 + cI A (pcl A w p) 2 * u / 8)) := by
            unfold bearF
            rw [bA, hpq]
            simp [g1, g2']
          rw [bF, bA]
          by_cases g5 : wI A w 2 ≤ min (cI A (pcl A w p) 3) (pI A w p 2 + cI A (pcl A w p) 2 * u / 8)
          · rw [decide_eq_true g5, if_pos g5]; rfl
          · rw [decide_eq_false g5, if_neg g5]; rfl
theorem WFA.pr {A : AS} (h : WFA A) {t : Nat} (ht : t < 2 * A 2) (u : Nat) (hf : ¬ wI A (t / 2) 6 = 1) : WFA (prA A t u) := by
  have h30 : pcl A (t / 2) (t % 2) < 30 := h.pcl30 _ _ (by have := h.n; omega) (by omega)
  have hh : hereB A (pcl A (t / 2) (t % 2)) = true := by
    have := mc_lt h.w0 h.w1 (cst_lt h ht)
    rw [mc_cst h ht] at this
    exact this.2
  have d30 := h.de _ h30
  rcases pr_cases h ht u hf with ⟨_, e, _⟩ | ⟨_, _, e, _⟩ | ⟨_, _, _, e, _⟩ | ⟨_, _, _, _, e⟩
  · rw [e]; exact h
  · rw [e]; exact h.putsk h30 hh (by have := h.sk _ h30; omega)
  · rw [e]; exact h
  · rw [e]
    split
    · rw [va_upC (by omega)]
      exact (h.putfl (w := t / 2) (by omega)).putsu (by show t / 2 < va_up A _ _ 2; rw [va_up_ne _ _ (by omega)]; omega) (by omega) (by omega) (Or.inr (va_up_self _ _ _))
    · exact h.putsu (by omega) (by omega) (by omega) (Or.inl (by omega))
theorem mv_pr {A : AS} {al t : Nat} (hf : ¬ wI A (t / 2) 6 = 1) (ha : t ≠ al) : mvS al A t = prA A t (much A al (t / 2)) := by
  unfold mvS prA
  rw [if_neg (by rintro (q | q); exact hf q; exact ha q)]
theorem WFA.mv {A : AS} (h : WFA A) {al t : Nat} (ht : t < 2 * A 2) : WFA (mvS al A t) := by
  by_cases hf : wI A (t / 2) 6 = 1
  · unfold mvS; rw [if_pos (Or.inl hf)]; exact h
  · by_cases ha : t = al
    · unfold mvS; rw [if_pos (Or.inr ha)]; exact h
    · rw [mv_pr hf ha]; exact h.pr ht _ hf
theorem WFA.brN {A : AS} (h : WFA A) {al : Nat} : ∀ t, t ≤ 2 * A 2 → WFA (bearN al A t)
  | 0, _ => h
  | t + 1, ht => by
    have e : bearN al A t 2 = A 2 := bearN_keep h.pcl30 t (by have := h.n; omega) 2 (Or.inl (by omega))
    exact (h.brN t (by omega)).mv (by rw [e]; omega)
theorem npol0 {A : AS} (h : WFA A) {c : Nat} (hc : hereB A c = false) : npol A c = 0 := by
  unfold npol
  have : ∀ n, n ≤ 2 * A 2 → cnt (fun s => decide (pcl A (s / 2) (s % 2) = c)) n = 0 := by
    intro n
    induction n with
    | zero => intro _; rfl
    | succ n ih =>
      intro hn
      unfold cnt
      rw [ih (by omega)]
      have hh : hereB A (pcl A (n / 2) (n % 2)) = true := by
        have := mc_lt h.w0 h.w1 (cst_lt h (show n < 2 * A 2 by omega))
        rw [mc_cst h (by omega)] at this
        exact this.2
      have : ¬ pcl A (n / 2) (n % 2) = c := by intro q; rw [q, hc] at hh; cases hh
      simp [this]
  exact this _ (Nat.le_refl _)
/-- the stilt in the air: none (99), or one of them -/
def alOK (A : AS) (al : Nat) : Prop := al = 99 ∨ al < 2 * A 2
theorem airN0 {A : AS} (h : WFA A) {al c : Nat} (ha : alOK A al) (hc : hereB A c = false) : airN al A c = 0 := by
  unfold airN
  refine if_neg ?_
  rintro ⟨q1, q2⟩
  rcases ha with ha | ha
  · omega
  · have hh : hereB A (pcl A (al / 2) (al % 2)) = true := by
      have := mc_lt h.w0 h.w1 (cst_lt h ha)
      rw [mc_cst h ha] at this
      exact this.2
    rw [q2, hc] at hh; cases hh
theorem WFA.mdc {A : AS} (h : WFA A) {al c : Nat} (hc : c < 30) : WFA (mdC al A c) := by
  unfold mdC
  split
  · exact h
  · by_cases hh : hereB A c = true
    · exact h.putsk hc hh (by omega)
    · have hn := h.nh c hc (by simpa using hh)
      have e : min (cI A c 1) (cI A c 0 + A 3) = A (6 + 6 * c) := by
        have : cI A c 0 = A (6 + 6 * c) := rfl
        omega
      rw [e, va_up_id]; exact h
theorem WFA.mdN {A : AS} (h : WFA A) {al : Nat} : ∀ c, c ≤ 30 → WFA (mendN al A c)
  | 0, _ => h
  | c + 1, hc => (h.mdN c (by omega)).mdc (by omega)
theorem WFA.mom {A : AS} (h : WFA A) {al : Nat} (h4 : A 4 < 999999) : WFA (momA al A) := by
  have h1 := (h.brN (al := al) (2 * A 2) (Nat.le_refl _)).mdN (al := al) 30 (Nat.le_refl _)
  unfold momA
  refine h1.put4 ?_
  rw [mendN_4, bearN_4 h.pcl30 _ (by have := h.n; omega)]
  omega
def mdV (al : Nat) (B : AS) (c : Nat) : Nat := if cI B c 5 = 1 ∨ ¬ npol B c = airN al B c then cI B c 0 else min (cI B c 1) (cI B c 0 + B 3)
theorem mendN_c {B : AS} {al : Nat} (h2 : B 2 ≤ 4) : ∀ n, n ≤ 30 → ∀ c, c < 30 → cI (mendN al B n) c 0 = if c < n then mdV al B c else cI B c 0
  | 0, _, c, _ => rfl
  | n + 1, hn, c, hc => by
    have ih := mendN_c (al := al) h2 n (by omega) c hc
    have kp := mendN_keep (A := B) (al := al) n (by omega)
    have e3 : mendN al B n 3 = B 3 := kp 3 (Or.inl (by omega))
    have ek : ∀ k, 0 < k → k < 6 → cI (mendN al B n) n k = cI B n k := fun k h1 h2 => kp _ (keepL_J (kL_c (by omega) h1 h2))
    have en : npol (mendN al B n) n = npol B n := npol_keep kp h2 n
    have ea : airN al (mendN al B n) n = airN al B n := by
      unfold airN
      by_cases q : al < 8
      · rw [pcl_keep kp (by omega) (by omega)]
      · rw [if_neg (fun z => q z.1), if_neg (fun z => q z.1)]
    have e0 : cI (mendN al B n) n 0 = cI B n 0 := by
      have := mendN_c (al := al) h2 n (by omega) n (by omega)
      rw [this, if_neg (by omega)]
    show cI (mdC al (mendN al B n) n) c 0 = _
    unfold mdC
    rw [ek 5 (by omega) (by omega), en, ea, ek 1 (by omega) (by omega), e0, e3]
    by_cases g : c = n
    · subst g
      rw [if_pos (show c < c + 1 by omega)]
      unfold mdV
      by_cases gg : cI B c 5 = 1 ∨ ¬ npol B c = airN al B c
      · rw [if_pos gg, if_pos gg]; exact e0
      · rw [if_neg gg, if_neg gg]; exact va_up_self _ _ _
    · have : (c < n + 1) = (c < n) := propext (by omega)
      simp only [this]
      split
      · exact ih
      · rw [← ih]; unfold cI; rw [va_up_ne _ _ (by omega)]
theorem mendN_w {B : AS} {al : Nat} : ∀ n, n ≤ 30 → ∀ j, 186 ≤ j → mendN al B n j = B j
  | 0, _, _, _ => rfl
  | n + 1, hn, j, hj => by
    show mdC al (mendN al B n) n j = _
    unfold mdC
    split
    · exact mendN_w n (by omega) j hj
    · rw [va_up_ne _ _ (by omega)]; exact mendN_w n (by omega) j hj
theorem cnt_air {f : Nat → Bool} {al : Nat} : ∀ n, (cnt f n = if al < n ∧ f al = true then 1 else 0) ↔ ∀ s, s < n → s ≠ al → f s = false
  | 0 => by simp [cnt]
  | n + 1 => by
    have ih := cnt_air (f := f) (al := al) n
    have lo : (if al < n ∧ f al = true then 1 else 0) ≤ cnt f n := by
      split
      · rename_i q
        have : ∀ m, al < m → 1 ≤ cnt f m := by
          intro m
          induction m with
          | zero => intro z; omega
          | succ m im =>
            intro z
            unfold cnt
            by_cases e : al = m
            · subst e; rw [if_pos q.2]; omega
            · have := im (by omega); omega
        exact this n q.1
      · exact Nat.zero_le _
    unfold cnt
    by_cases g : n = al
    · subst g
      rw [if_neg (by omega)] at ih lo
      constructor
      · intro h s hs hne
        refine ih.mp ?_ s (by omega) hne
        by_cases q : f n = true
        · rw [if_pos q, if_pos ⟨by omega, q⟩] at h; omega
        · rw [if_neg q, if_neg (fun z => q z.2)] at h; omega
      · intro h
        have := ih.mpr (fun s hs hne => h s (by omega) hne)
        rw [this]
        by_cases q : f n = true
        · rw [if_pos q, if_pos ⟨by omega, q⟩]
        · rw [if_neg q, if_neg (fun z => q z.2)]
    · have e : (al < n + 1 ∧ f al = true) = (al < n ∧ f al = true) := propext ⟨fun z => ⟨by omega, z.2⟩, fun z => ⟨by omega, z.2⟩⟩
      simp only [e]
      constructor
      · intro h s hs hne
        by_cases q : f n = true
        · rw [if_pos q] at h; omega
        · rw [if_neg q] at h
          by_cases e2 : s = n
          · subst e2; simpa using q
          · exact ih.mp (by omega) s (by omega) hne
      · intro h
        have q : ¬ f n = true := by rw [h n (by omega) g]; simp
        rw [if_neg q, ih.mpr (fun s hs hne => h s (by omega) hne), Nat.add_zero]
theorem npol_air {A : AS} (h : WFA A) {al : Nat} (ha : alOK A al) (c : Nat) : (npol A c = airN al A c) ↔ ∀ s, s < 2 * A 2 → s ≠ al → ¬ pcl A (s / 2) (s % 2) = c := by
  have e : airN al A c = if al < 2 * A 2 ∧ decide (pcl A (al / 2) (al % 2) = c) = true then 1 else 0 := by
    unfold airN
    have hn := h.n
    have : (al < 8 ∧ pcl A (al / 2) (al % 2) = c) = (al < 2 * A 2 ∧ decide (pcl A (al / 2) (al % 2) = c) = true) := by
      apply propext
      rw [decide_eq_true_eq]
      rcases ha with ha | ha
      · omega
      · exact ⟨fun z => ⟨ha, z.2⟩, fun z => ⟨by omega, z.2⟩⟩
    simp only [this]
  unfold npol
  rw [e, cnt_air (f := fun s => decide (pcl A (s / 2) (s % 2) = c)) (al := al) (2 * A 2)]
  simp only [decide_eq_false_iff_not]
/-- cells on which a stilt stands, other than the one in the air; firm ones too -/
def tro (al : Nat) (A : AS) : Nat → Nat
  | 0 => fmk A
  | t + 1 => if t = al then tro al A t else tro al A t ||| 2 ^ cst A t
theorem tro_lt {A : AS} (h : WFA A) {al : Nat} : ∀ t, t ≤ 2 * A 2 → tro al A t < 2 ^ 30
  | 0, _ => fmk_lt h.w0 h.w1
  | t + 1, ht => by
    unfold tro
    split
    · exact tro_lt h t (by omega)
    · refine Nat.or_lt_two_pow (tro_lt h t (by omega)) ?_
      exact Nat.pow_lt_pow_right (by decide) (by have := cst_lt h (show t < 2 * A 2 by omega); have := h.c30; omega)
theorem tro_bit {A : AS} (h : WFA A) {al c : Nat} (hc : c < A 0 * A 1) : ∀ t, t ≤ 2 * A 2 → ((tro al A t).testBit c = true ↔ (cI A (mc A c) 5 = 1 ∨ ∃ s, s < t ∧ s ≠ al ∧ pcl A (s / 2) (s % 2) = mc A c))
  | 0, _ => by
    unfold tro
    rw [fmk_bit hc]
    simp
  | t + 1, ht => by
    have ih := tro_bit h (al := al) hc t (by omega)
    have hp : 0 < A 0 := (h.pos (w := 0) (by omega)).1
    unfold tro
    split
    · rename_i q
      rw [ih]
      constructor
      · rintro (z | ⟨s, h1, h2, h3⟩)
        · exact Or.inl z
        · exact Or.inr ⟨s, by omega, h2, h3⟩
      · rintro (z | ⟨s, h1, h2, h3⟩)
        · exact Or.inl z
        · exact Or.inr ⟨s, by omega, h2, h3⟩
    · rename_i q
      rw [Nat.testBit_or, Bool.or_eq_true, ih, Nat.testBit_two_pow, decide_eq_true_eq]
      have e : (cst A t = c) ↔ pcl A (t / 2) (t % 2) = mc A c := by
        rw [← mc_cst h (show t < 2 * A 2 by omega)]
        exact ⟨fun z => by rw [z], fun z => mc_inj h.w0 hp z⟩
      rw [e]
      constructor
      · rintro ((z | ⟨s, h1, h2, h3⟩) | z)
        · exact Or.inl z
        · exact Or.inr ⟨s, by omega, h2, h3⟩
        · exact Or.inr ⟨t, by omega, q, z⟩
      · rintro (z | ⟨s, h1, h2, h3⟩)
        · exact Or.inl (Or.inl z)
        · by_cases g : s = t
          · subst g; exact Or.inr h3
          · exact Or.inl (Or.inr ⟨s, by omega, h2, h3⟩)
theorem mdV_tro {A B : AS} (h : WFA A) {al c : Nat} (ha : alOK A al) (hk : ∀ j, keepJ j → B j = A j) (hc : c < A 0 * A 1) : mdV al B (mc A c) = if (tro al A (2 * A 2)).testBit c = true then cI B (mc A c) 0 else min (cI A (mc A c) 1) (cI B (mc A c) 0 + A 3) := by
  have hm := mc_lt h.w0 h.w1 hc
  unfold mdV
  have e5 : cI B (mc A c) 5 = cI A (mc A c) 5 := hk _ (keepL_J (kL_c hm.1 (by omega) (by omega)))
  have e1 : cI B (mc A c) 1 = cI A (mc A c) 1 := hk _ (keepL_J (kL_c hm.1 (by omega) (by omega)))
  have e3 : B 3 = A 3 := hk 3 (Or.inl (by omega))
  have en : npol B (mc A c) = npol A (mc A c) := npol_keep hk h.n _
  have ea : airN al B (mc A c) = airN al A (mc A c) := by
    unfold airN
    by_cases q : al < 8
    · rw [pcl_keep hk (by omega) (by omega)]
    · rw [if_neg (fun z => q z.1), if_neg (fun z => q z.1)]
  rw [e5, e1, e3, en, ea]
  have key : ((tro al A (2 * A 2)).testBit c = true) ↔ (cI A (mc A c) 5 = 1 ∨ ¬ npol A (mc A c) = airN al A (mc A c)) := by
    rw [tro_bit h hc _ (Nat.le_refl _), npol_air h ha]
    constructor
    · rintro (z | ⟨s, h1, h2, h3⟩)
      · exact Or.inl z
      · exact Or.inr (fun q => q s h1 h2 h3)
    · rintro (z | z)
      · exact Or.inl z
      · right
        exact Classical.byContradiction (fun q => z (fun s h1 h2 h3 => q ⟨s, h1, h2, h3⟩))
  by_cases g : (tro al A (2 * A 2)).testBit c = true
  · rw [if_pos g, if_pos (key.mp g)]
  · rw [if_neg g, if_neg (fun q => g (key.mpr q))]
