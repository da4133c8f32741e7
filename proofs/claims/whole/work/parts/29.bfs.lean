/-! A search in breadth: what it finds are the fewest steps. -/
def Rch (E : Nat → Nat → Prop) (s0 : Nat) : Nat → Nat → Prop
  | 0, u => u = s0
  | n + 1, u => ∃ v, Rch E s0 n v ∧ E v u
def LD (E : Nat → Nat → Prop) (s0 u n : Nat) : Prop := Rch E s0 n u ∧ ∀ j, j < n → ¬ Rch E s0 j u
theorem cnt_lt {f : Nat → Bool} : ∀ {n u : Nat}, u < n → f u = false → cnt f n < n
  | n + 1, u, hu, hf => by
    unfold cnt
    by_cases h : u = n
    · subst h
      have := cnt_le f u
      rw [hf]
      simp
      omega
    · have := cnt_lt (f := f) (n := n) (u := u) (by omega) hf
      split <;> omega
theorem cnt_congr {f g : Nat → Bool} : ∀ {n : Nat}, (∀ i, i < n → f i = g i) → cnt f n = cnt g n
  | 0, _ => rfl
  | n + 1, h => by
    unfold cnt
    rw [cnt_congr (n := n) (fun i hi => h i (by omega)), h n (by omega)]
theorem cnt_add {f g : Nat → Bool} : ∀ {n u : Nat}, u < n → f u = false → g u = true → (∀ i, i ≠ u → g i = f i) → cnt g n = cnt f n + 1
  | n + 1, u, hu, hf, hg, ho => by
    unfold cnt
    by_cases h : u = n
    · subst h
      rw [hf, hg, cnt_congr (g := f) (fun i hi => ho i (by omega))]
      simp
    · rw [cnt_add (n := n) (u := u) (by omega) hf hg ho, ho n (fun q => h q.symm)]
      omega
def FARN : Nat := 1000000
/-- k places of the queue are done, M are filled; D the steps found, q the queue -/
def BI (E : Nat → Nat → Prop) (s0 k M : Nat) (D q : Nat → Nat) : Prop :=
  (∀ i, i < M → q i < 900) ∧ (∀ u, u < 900 → D u = FARN ∨ ∃ i, i < M ∧ q i = u) ∧ (∀ i, i < M → D (q i) < FARN ∧ LD E s0 (q i) (D (q i))) ∧ (∀ i j, i ≤ j → j < M → D (q i) ≤ D (q j)) ∧ (∀ j, j < M → k < M → D (q j) ≤ D (q k) + 1) ∧ (∀ i, i < k → ∀ u, E (q i) u → D u ≠ FARN) ∧ M = cnt (fun u => decide (D u ≠ FARN)) 900 ∧ 0 < M ∧ q 0 = s0 ∧ k ≤ M ∧ ∀ u, D u ≤ FARN
theorem BI_le {E : Nat → Nat → Prop} {s0 k M : Nat} {D q : Nat → Nat} (h : BI E s0 k M D q) : M ≤ 900 := by
  rw [h.2.2.2.2.2.2.1]; exact cnt_le _ _
/-- the steps found so far are few -/
theorem BI_small {E : Nat → Nat → Prop} {s0 k M : Nat} {D q : Nat → Nat} (hE : ∀ v u, E v u → u < 900) (hs0 : s0 < 900) (h : BI E s0 k M D q) (hk : k < M) : ∀ (j u : Nat), j ≤ D (q k) → Rch E s0 j u → D u ≠ FARN := by
  obtain ⟨h1, h2, h3, h4, h5, h6, h7, h8, h9, h10, h11⟩ := h
  intro j
  induction j with
  | zero =>
    intro u _ hu
    have : u = s0 := hu
    subst this
    have := (h3 0 h8).1
    rw [h9] at this
    omega
  | succ j ih =>
    intro u hj hu
    obtain ⟨v, hv, he⟩ := hu
    have hD := ih v (by omega) hv
    have hv900 : v < 900 := by
      cases j with
      | zero => have : v = s0 := hv; omega
      | succ j => obtain ⟨x, -, hx⟩ := hv; exact hE _ _ hx
    rcases h2 v hv900 with q1 | ⟨i, hi, rfl⟩
    · exact absurd q1 hD
    · have hm := (h3 i hi).2.2
      have hdi : D (q i) ≤ j := by
        rcases Nat.lt_or_ge j (D (q i)) with g | g
        · exact absurd hv (hm j g)
        · exact g
      have hik : i < k := by
        rcases Nat.lt_or_ge i k with g | g
        · exact g
        · have := h4 k i g hi; omega
      exact h6 i hik u he
theorem BI_add {E : Nat → Nat → Prop} {s0 k M u : Nat} {D q : Nat → Nat} (hE : ∀ v u, E v u → u < 900) (hs0 : s0 < 900) (h : BI E s0 k M D q) (hk : k < M) (he : E (q k) u) (hu : D u = FARN) (hlt : D (q k) + 1 < FARN) : BI E s0 k (M + 1) (va_up D u (D (q k) + 1)) (va_up q M u) ∧ M < 900 := by
  have hsm := BI_small hE hs0 h hk
  obtain ⟨h1, h2, h3, h4, h5, h6, h7, h8, h9, h10, h11⟩ := h
  have hu900 := hE _ _ he
  have hM : M < 900 := by
    rw [h7]
    exact cnt_lt hu900 (by simp [hu])
  have nu : ∀ i, i < M → q i ≠ u := by
    intro i hi e
    have := (h3 i hi).1
    rw [e, hu] at this
    omega
  have qo : ∀ i, i < M → va_up q M u i = q i := fun i hi => va_up_ne _ _ (by omega)
  have Do : ∀ i, i < M → va_up D u (D (q k) + 1) (q i) = D (q i) := fun i hi => va_up_ne _ _ (nu i hi)
  have qM : va_up q M u M = u := va_up_self _ _ _
  have Du : va_up D u (D (q k) + 1) u = D (q k) + 1 := va_up_self _ _ _
  refine ⟨⟨fun i hi => ?_, fun v hv => ?_, fun i hi => ?_, fun i j hij hj => ?_, fun j hj hk2 => ?_, fun i hi v hv => ?_, ?_, by omega, by rw [qo 0 h8]; exact h9, by omega, fun v => ?_⟩, hM⟩
  · by_cases g : i = M
    · subst g; rw [qM]; exact hu900
    · rw [qo i (by omega)]; exact h1 i (by omega)
  · by_cases g : v = u
    · subst g; exact Or.inr ⟨M, by omega, qM⟩
    · rw [va_up_ne _ _ g]
      rcases h2 v hv with a | ⟨i, hi, e⟩
      · exact Or.inl a
      · exact Or.inr ⟨i, by omega, by rw [qo i hi]; exact e⟩
  · by_cases g : i = M
    · subst g
      rw [qM, Du]
      refine ⟨hlt, ⟨q k, (h3 k hk).2.1, he⟩, fun j hj hr => ?_⟩
      exact hsm j u (by omega) hr hu
    · rw [qo i (by omega), Do i (by omega)]; exact h3 i (by omega)
  · by_cases g : j = M
    · subst g
      rw [qM, Du]
      by_cases g2 : i = j
      · subst g2; rw [qM, Du]; exact Nat.le_refl _
      · rw [qo i (by omega), Do i (by omega)]; exact h5 i (by omega) hk
    · rw [qo j (by omega), Do j (by omega), qo i (by omega), Do i (by omega)]; exact h4 i j hij (by omega)
  · rw [qo k hk, Do k hk]
    by_cases g : j = M
    · subst g; rw [qM, Du]; exact Nat.le_refl _
    · rw [qo j (by omega), Do j (by omega)]; exact h5 j (by omega) hk
  · rw [qo i (by omega)] at hv
    by_cases g : v = u
    · subst g; rw [Du]; omega
    · rw [va_up_ne _ _ g]; exact h6 i hi v hv
  · rw [h7]
    refine (cnt_add (u := u) hu900 (by simp [hu]) ?_ (fun i hi => ?_)).symm
    · rw [Du]; simp; omega
    · rw [va_up_ne _ _ hi]
  · by_cases g : v = u
    · subst g; rw [Du]; omega
    · rw [va_up_ne _ _ g]; exact h11 v
theorem BI_next {E : Nat → Nat → Prop} {s0 k M : Nat} {D q : Nat → Nat} (h : BI E s0 k M D q) (hk : k < M) (hn : ∀ u, E (q k) u → D u ≠ FARN) : BI E s0 (k + 1) M D q := by
  obtain ⟨h1, h2, h3, h4, h5, h6, h7, h8, h9, h10, h11⟩ := h
  refine ⟨h1, h2, h3, h4, fun j hj hk2 => ?_, fun i hi u hu => ?_, h7, h8, h9, by omega, h11⟩
  · have a := h5 j hj hk
    have b := h4 k (k + 1) (by omega) hk2
    omega
  · by_cases g : i = k
    · subst g; exact hn u hu
    · exact h6 i (by omega) u hu
/-- the end: every place that can be come to has its fewest steps, no other one has any -/
theorem BI_end {E : Nat → Nat → Prop} {s0 M : Nat} {D q : Nat → Nat} (hE : ∀ v u, E v u → u < 900) (hs0 : s0 < 900) (h : BI E s0 M M D q) : ∀ u, u < 900 → (D u = FARN ∧ ∀ n, ¬ Rch E s0 n u) ∨ (D u < FARN ∧ LD E s0 u (D u)) := by
  obtain ⟨h1, h2, h3, h4, h5, h6, h7, h8, h9, h10, h11⟩ := h
  have all : ∀ (n u : Nat), Rch E s0 n u → D u ≠ FARN := by
    intro n
    induction n with
    | zero =>
      intro u hu
      have : u = s0 := hu
      subst this
      have := (h3 0 h8).1
      rw [h9] at this
      omega
    | succ n ih =>
      intro u hu
      obtain ⟨v, hv, he⟩ := hu
      have hD := ih v hv
      have hv900 : v < 900 := by
        cases n with
        | zero => have : v = s0 := hv; omega
        | succ n => obtain ⟨x, -, hx⟩ := hv; exact hE _ _ hx
      rcases h2 v hv900 with q1 | ⟨i, hi, rfl⟩
      · exact absurd q1 hD
      · exact h6 i hi u he
  intro u hu
  rcases h2 u hu with a | ⟨i, hi, rfl⟩
  · exact Or.inl ⟨a, fun n hn => all n u hn a⟩
  · exact Or.inr (h3 i hi)
theorem BI_0 {E : Nat → Nat → Prop} {s0 : Nat} {q : Nat → Nat} (hs0 : s0 < 900) (hq : q 0 = s0) : BI E s0 0 1 (va_up (fun _ => FARN) s0 0) q := by
  have hF : (0 : Nat) < FARN := by decide
  have z : va_up (fun _ => FARN) s0 0 s0 = 0 := va_up_self _ _ _
  refine ⟨fun i hi => ?_, fun u hu => ?_, fun i hi => ?_, fun i j hij hj => ?_, fun j hj _ => ?_, fun i hi => by omega, ?_, by omega, hq, by omega, fun u => ?_⟩
  · have : i = 0 := by omega
    subst this; rw [hq]; exact hs0
  · by_cases g : u = s0
    · exact Or.inr ⟨0, by omega, by rw [hq, g]⟩
    · exact Or.inl (va_up_ne _ _ g)
  · have : i = 0 := by omega
    subst this; rw [hq, z]
    exact ⟨hF, rfl, fun j hj => by omega⟩
  · have h1 : i = 0 := by omega
    have h2 : j = 0 := by omega
    subst h1; subst h2; exact Nat.le_refl _
  · have h2 : j = 0 := by omega
    subst h2; omega
  · have e := cnt_add (f := fun _ => false) (g := fun u => decide (va_up (fun _ => FARN) s0 0 u ≠ FARN)) (n := 900) (u := s0) hs0 rfl (by rw [z]; simp; omega) (fun i hi => by rw [va_up_ne _ _ hi]; simp)
    rw [e]
    have : ∀ n, cnt (fun _ => false) n = 0 := by
      intro n
      induction n with
      | zero => rfl
      | succ n ih => unfold cnt; rw [ih]; rfl
    rw [this]
  · by_cases g : u = s0
    · subst g; rw [z]; omega
    · rw [va_up_ne _ _ g]; exact Nat.le_refl _
