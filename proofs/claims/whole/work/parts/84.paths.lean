/-! Planks: least costs of ways. -/
theorem pigeon : ∀ (n : Nat) (f : Nat → Nat), (∀ i, i ≤ n → f i < n) → ∃ i j, i < j ∧ j ≤ n ∧ f i = f j := by
  intro n
  induction n with
  | zero => intro f h; exact absurd (h 0 (Nat.le_refl 0)) (Nat.not_lt_zero _)
  | succ n ih =>
    intro f h
    by_cases g : ∃ i, i ≤ n ∧ f i = f (n + 1)
    · obtain ⟨i, hi, e⟩ := g
      exact ⟨i, n + 1, by omega, Nat.le_refl _, e⟩
    · have hv := h (n + 1) (Nat.le_refl _)
      have hne : ∀ i, i ≤ n → f i ≠ f (n + 1) := fun i hi e => g ⟨i, hi, e⟩
      obtain ⟨i, j, hij, hj, e⟩ := ih (fun i => if f i = n then f (n + 1) else f i) (by
        intro i hi
        have h1 := h i (by omega)
        have h2 := hne i hi
        try dsimp only
        split <;> omega)
      refine ⟨i, j, hij, by omega, ?_⟩
      have h1 := hne i (by omega)
      have h2 := hne j (by omega)
      try dsimp only at e
      by_cases a : f i = n
      · by_cases b : f j = n
        · omega
        · rw [if_pos a, if_neg b] at e; exact absurd e.symm h2
      · by_cases b : f j = n
        · rw [if_neg a, if_pos b] at e; exact absurd e h1
        · rw [if_neg a, if_neg b] at e; exact e
def pkW (A : AS) (b : Nat) : Nat := if cI A b 5 = 1 then 0 else 1
def pkE (A : AS) (w a b : Nat) : Prop := hereB A b = true ∧ far a b ≤ wI A w 1
def PT (A : AS) (w : Nat) : Nat → Nat → Nat → Prop
  | 0, k, c => k = 0 ∧ (c = pcl A w 0 ∨ c = pcl A w 1)
  | n + 1, k, c => ∃ a k', PT A w n k' a ∧ pkE A w a c ∧ k = k' + pkW A c
section PTS
variable {A : AS} {w : Nat}
theorem pkW_le (b : Nat) : pkW A b ≤ 1 := by unfold pkW; split <;> omega
theorem PT_le : ∀ (n k c : Nat), PT A w n k c → k ≤ n
  | 0, k, c, h => by have := h.1; omega
  | n + 1, k, c, h => by
    obtain ⟨a, k', h1, -, h3⟩ := h
    have := PT_le n k' a h1
    have := @pkW_le A c
    omega
theorem PT_here (hp : hereB A (pcl A w 0) = true ∧ hereB A (pcl A w 1) = true) : ∀ (n k c : Nat), PT A w n k c → hereB A c = true
  | 0, k, c, h => by
    rcases h.2 with e | e
    · rw [e]; exact hp.1
    · rw [e]; exact hp.2
  | n + 1, k, c, h => by
    obtain ⟨a, k', -, h2, -⟩ := h
    exact h2.1
theorem PT_ext : ∀ (n k c : Nat), PT A w n k c → ∃ v K : Nat → Nat, v n = c ∧ K n = k ∧ (∀ i, i ≤ n → PT A w i (K i) (v i)) ∧ ∀ i, i < n → pkE A w (v i) (v (i + 1)) ∧ K (i + 1) = K i + pkW A (v (i + 1))
  | 0, k, c, h => by
    refine ⟨fun _ => c, fun _ => k, rfl, rfl, ?_, fun i hi => absurd hi (Nat.not_lt_zero i)⟩
    intro i hi
    have : i = 0 := by omega
    subst this
    exact h
  | n + 1, k, c, h => by
    obtain ⟨a, k', h1, h2, h3⟩ := id h
    obtain ⟨v, K, e1, e2, e3, e4⟩ := PT_ext n k' a h1
    refine ⟨va_up v (n + 1) c, va_up K (n + 1) k, va_up_self _ _ _, va_up_self _ _ _, ?_, ?_⟩
    · intro i hi
      by_cases g : i = n + 1
      · subst g; rw [va_up_self, va_up_self]; exact h
      · rw [va_up_ne _ _ g, va_up_ne _ _ g]; exact e3 i (by omega)
    · intro i hi
      by_cases g : i = n
      · subst g
        rw [va_up_self, va_up_self, va_up_ne _ _ (by omega), va_up_ne _ _ (by omega), e1, e2]
        exact ⟨h2, h3⟩
      · rw [va_up_ne _ _ (by omega), va_up_ne _ _ (by omega), va_up_ne _ _ (by omega), va_up_ne _ _ (by omega)]
        exact e4 i (by omega)
theorem PT_res {v K : Nat → Nat} {n : Nat} (e4 : ∀ i, i < n → pkE A w (v i) (v (i + 1)) ∧ K (i + 1) = K i + pkW A (v (i + 1))) {j a k0 : Nat} (h0 : PT A w a k0 (v j)) : ∀ d, j + d ≤ n → K j ≤ K (j + d) ∧ PT A w (a + d) (k0 + (K (j + d) - K j)) (v (j + d))
  | 0, _ => ⟨Nat.le_refl _, by rw [Nat.add_zero, Nat.add_zero, Nat.sub_self, Nat.add_zero]; exact h0⟩
  | d + 1, hd => by
    obtain ⟨i1, i2⟩ := PT_res e4 h0 d (by omega)
    obtain ⟨g1, g2⟩ := e4 (j + d) (by omega)
    have g2' : K (j + (d + 1)) = K (j + d) + pkW A (v (j + (d + 1))) := g2
    refine ⟨by omega, v (j + d), k0 + (K (j + d) - K j), i2, g1, by omega⟩
/-- a way need not be longer than there are cells -/
theorem PT_short (h30 : ∀ n k c, PT A w n k c → c < 30) : ∀ (N n k c : Nat), n ≤ N → PT A w n k c → ∃ n' k', n' ≤ 29 ∧ k' ≤ k ∧ PT A w n' k' c := by
  intro N
  induction N with
  | zero => intro n k c hn h; exact ⟨n, k, by omega, Nat.le_refl _, h⟩
  | succ N ih =>
    intro n k c hn h
    by_cases g : n ≤ 29
    · exact ⟨n, k, g, Nat.le_refl _, h⟩
    · obtain ⟨v, K, e1, e2, e3, e4⟩ := PT_ext n k c h
      obtain ⟨i, j, hij, hj, e⟩ := pigeon 30 v (fun i hi => h30 _ _ _ (e3 i (by omega)))
      have hi := e3 i (by omega)
      rw [e] at hi
      obtain ⟨q1, q2⟩ := PT_res (j := j) e4 hi (n - j) (by omega)
      obtain ⟨q3, -⟩ := PT_res (j := i) e4 (e3 i (by omega)) (j - i) (by omega)
      rw [show j + (n - j) = n by omega, e1, e2] at q2
      rw [show j + (n - j) = n by omega, e2] at q1
      rw [show i + (j - i) = j by omega] at q3
      obtain ⟨n', k', r1, r2, r3⟩ := ih _ _ c (by omega) q2
      exact ⟨n', k', r1, by omega, r3⟩
/-- one step of labels -/
def rl (A : AS) (w a : Nat) (LB : Nat → Nat) (b : Nat) : Nat → Nat := if (hereB A b = true ∧ far a b ≤ wI A w 1) ∧ LB a + pkW A b < LB b then va_up LB b (LB a + pkW A b) else LB
def fo (A : AS) (w a : Nat) (LB : Nat → Nat) (f : Nat → Nat) : Nat → Nat → Nat
  | 0 => LB
  | n + 1 => rl A w a (fo A w a LB f n) (f n)
def foC (A : AS) (w a : Nat) (LB : Nat → Nat) (f : Nat → Nat) : Nat → Bool
  | 0 => false
  | n + 1 => foC A w a LB f n || decide ((hereB A (f n) = true ∧ far a (f n) ≤ wI A w 1) ∧ fo A w a LB f n a + pkW A (f n) < fo A w a LB f n (f n))
def gofo (A : AS) (w : Nat) (LB : Nat → Nat) (g f : Nat → Nat) (n : Nat) : Nat → Nat → Nat
  | 0 => LB
  | i + 1 => fo A w (g i) (gofo A w LB g f n i) f n
def gofoC (A : AS) (w : Nat) (LB : Nat → Nat) (g f : Nat → Nat) (n : Nat) : Nat → Bool
  | 0 => false
  | i + 1 => gofoC A w LB g f n i || foC A w (g i) (gofo A w LB g f n i) f n
theorem rl_le {a b : Nat} {LB : Nat → Nat} (c : Nat) : rl A w a LB b c ≤ LB c := by
  unfold rl
  split
  · rename_i h
    by_cases g : c = b
    · rw [g, va_up_self]; omega
    · rw [va_up_ne _ _ g]; exact Nat.le_refl _
  · exact Nat.le_refl _
theorem rl_a {a b : Nat} {LB : Nat → Nat} : rl A w a LB b a = LB a := by
  unfold rl
  split
  · rename_i h
    have : a ≠ b := fun q => by rw [q] at h; omega
    exact va_up_ne _ _ this
  · rfl
theorem rl_b {a b : Nat} {LB : Nat → Nat} (h : hereB A b = true ∧ far a b ≤ wI A w 1) : rl A w a LB b b ≤ LB a + pkW A b := by
  unfold rl
  split
  · rw [va_up_self]; exact Nat.le_refl _
  · rename_i q
    exact Nat.le_of_not_lt (fun z => q ⟨h, z⟩)
theorem fo_le {a : Nat} {LB f : Nat → Nat} (c : Nat) : ∀ n, fo A w a LB f n c ≤ LB c
  | 0 => Nat.le_refl _
  | n + 1 => Nat.le_trans (rl_le c) (fo_le c n)
theorem fo_a {a : Nat} {LB f : Nat → Nat} : ∀ n, fo A w a LB f n a = LB a
  | 0 => rfl
  | n + 1 => by
    show rl A w a (fo A w a LB f n) (f n) a = LB a
    rw [rl_a, fo_a n]
theorem fo_b {a : Nat} {LB f : Nat → Nat} : ∀ n i, i < n → hereB A (f i) = true ∧ far a (f i) ≤ wI A w 1 → fo A w a LB f n (f i) ≤ LB a + pkW A (f i)
  | 0, i, hi, _ => absurd hi (Nat.not_lt_zero i)
  | n + 1, i, hi, h => by
    show rl A w a (fo A w a LB f n) (f n) (f i) ≤ _
    by_cases g : i = n
    · subst g
      have := rl_b (LB := fo A w a LB f i) h
      rw [fo_a i] at this
      exact this
    · exact Nat.le_trans (rl_le _) (fo_b n i (by omega) h)
theorem gofo_le {LB g f : Nat → Nat} {n : Nat} (c : Nat) : ∀ i, gofo A w LB g f n i c ≤ LB c
  | 0 => Nat.le_refl _
  | i + 1 => Nat.le_trans (fo_le c n) (gofo_le c i)
theorem gofo_b {LB g f : Nat → Nat} {n : Nat} : ∀ N j i, j < N → i < n → hereB A (f i) = true ∧ far (g j) (f i) ≤ wI A w 1 → gofo A w LB g f n N (f i) ≤ LB (g j) + pkW A (f i)
  | 0, j, i, hj, _, _ => absurd hj (Nat.not_lt_zero j)
  | N + 1, j, i, hj, hi, h => by
    show fo A w (g N) (gofo A w LB g f n N) f n (f i) ≤ _
    by_cases q : j = N
    · subst q
      have := fo_b (LB := gofo A w LB g f n j) n i hi h
      have := @gofo_le A w LB g f n (g j) j
      omega
    · exact Nat.le_trans (fo_le _ n) (gofo_b N j i (by omega) hi h)
def SND (A : AS) (w : Nat) (LB : Nat → Nat) : Prop := ∀ c, LB c = FARN ∨ (LB c < FARN ∧ ∃ n, PT A w n (LB c) c)
theorem SND.le {LB : Nat → Nat} (h : SND A w LB) (c : Nat) : LB c ≤ FARN := by
  rcases h c with q | q
  · exact Nat.le_of_eq q
  · exact Nat.le_of_lt q.1
theorem SND.r1 {LB : Nat → Nat} (h : SND A w LB) (a b : Nat) : SND A w (rl A w a LB b) := by
  intro c
  unfold rl
  split
  · rename_i q
    by_cases g : c = b
    · subst g
      rw [va_up_self]
      have hb := h.le c
      rcases h a with z | ⟨z1, n, z2⟩
      · omega
      · exact Or.inr ⟨by omega, n + 1, a, LB a, z2, q.1, rfl⟩
    · rw [va_up_ne _ _ g]; exact h c
  · exact h c
theorem SND.r2 {LB f : Nat → Nat} (h : SND A w LB) (a : Nat) : ∀ n, SND A w (fo A w a LB f n)
  | 0 => h
  | n + 1 => SND.r1 (SND.r2 h a n) _ _
theorem SND.r3 {LB g f : Nat → Nat} {n : Nat} (h : SND A w LB) : ∀ i, SND A w (gofo A w LB g f n i)
  | 0 => h
  | i + 1 => SND.r2 (SND.r3 h i) _ n
theorem foC_no {a : Nat} {LB f : Nat → Nat} : ∀ n, foC A w a LB f n = false → fo A w a LB f n = LB
  | 0, _ => rfl
  | n + 1, h => by
    have h' : (foC A w a LB f n || decide ((hereB A (f n) = true ∧ far a (f n) ≤ wI A w 1) ∧ fo A w a LB f n a + pkW A (f n) < fo A w a LB f n (f n))) = false := h
    rw [Bool.or_eq_false_iff, decide_eq_false_iff_not] at h'
    show rl A w a (fo A w a LB f n) (f n) = LB
    unfold rl
    rw [if_neg h'.2, foC_no n h'.1]
theorem gofoC_no {LB g f : Nat → Nat} {n : Nat} : ∀ i, gofoC A w LB g f n i = false → gofo A w LB g f n i = LB
  | 0, _ => rfl
  | i + 1, h => by
    have h' : (gofoC A w LB g f n i || foC A w (g i) (gofo A w LB g f n i) f n) = false := h
    rw [Bool.or_eq_false_iff] at h'
    show fo A w (g i) (gofo A w LB g f n i) f n = LB
    rw [foC_no n h'.2, gofoC_no i h'.1]
def RND (A : AS) (w : Nat) (LB LB' : Nat → Nat) : Prop := (∀ c, LB' c ≤ LB c) ∧ ∀ a b, hereB A a = true → pkE A w a b → LB' b ≤ LB a + pkW A b
def CMP (A : AS) (w : Nat) (LB : Nat → Nat) (n : Nat) : Prop := ∀ i, i ≤ n → ∀ k c, PT A w i k c → LB c ≤ k
theorem CMP_step {LB LB' : Nat → Nat} {n : Nat} (hp : hereB A (pcl A w 0) = true ∧ hereB A (pcl A w 1) = true) (h : CMP A w LB n) (hr : RND A w LB LB') : CMP A w LB' (n + 1) := by
  intro i hi k c hk
  by_cases g : i ≤ n
  · exact Nat.le_trans (hr.1 c) (h i g k c hk)
  · have : i = n + 1 := by omega
    subst this
    obtain ⟨a, k', q1, q2, q3⟩ := hk
    have z1 := h n (Nat.le_refl n) k' a q1
    have z2 := hr.2 a c (PT_here hp n k' a q1) q2
    omega
theorem CMP_stab {LB : Nat → Nat} (hp : hereB A (pcl A w 0) = true ∧ hereB A (pcl A w 1) = true) (h : CMP A w LB 0) (hr : RND A w LB LB) : ∀ n, CMP A w LB n
  | 0 => h
  | n + 1 => CMP_step hp (CMP_stab hp h hr n) hr
theorem CMP_all {LB : Nat → Nat} (h30 : ∀ n k c, PT A w n k c → c < 30) (h : CMP A w LB 29) : ∀ n k c, PT A w n k c → LB c ≤ k := by
  intro n k c hk
  obtain ⟨n', k', h1, h2, h3⟩ := PT_short h30 n n k c (Nat.le_refl n) hk
  have := h n' h1 k' c h3
  omega
/-- two labellings that are sound and complete are one -/
theorem lab_eq {L1 L2 : Nat → Nat} {c : Nat} (s1 : SND A w L1) (s2 : SND A w L2) (c1 : ∀ n k, PT A w n k c → L1 c ≤ k) (c2 : ∀ n k, PT A w n k c → L2 c ≤ k) : L1 c = L2 c := by
  have b1 := s1.le c
  have b2 := s2.le c
  rcases s1 c with q1 | ⟨q1, n1, r1⟩
  · rcases s2 c with q2 | ⟨q2, n2, r2⟩
    · omega
    · have := c1 n2 _ r2; omega
  · have h1 := c2 n1 _ r1
    rcases s2 c with q2 | ⟨q2, n2, r2⟩
    · omega
    · have := c1 n2 _ r2; omega
end PTS
