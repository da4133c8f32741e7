/-! The acts read so far: what always holds of them. -/
section MO6
variable {S : mS} {I J : mI} {L K : mL} {R : mR} {Q : mQ} {d x m n k i ct dp sz : Nat} {B : Nat → Nat} {s : SG} {A : AS} {NL : Nat → List Nat} {g r : Nat → Nat → Nat} {op : Nat → Nat}
def opn (f : Nat → Nat) : Prop := f 0 = 21 ∨ 2000 ≤ f 0
def actP (A : AS) (g : Nat → Nat) (c f s t : Nat) : Prop :=
  (g 0 = 16 ∧ c = 16 ∧ f = g 1 ∧ s = g 5 ∧ t = g 3 * A 0 + g 2 ∧ g 1 < A 2 ∧ g 5 < 2 ∧ g 2 < A 0 ∧ g 3 < A 1)
  ∨ (g 0 = 17 ∧ c = 17 ∧ f = g 1 ∧ 1 ≤ g 1 ∧ g 1 ≤ 20)
  ∨ (g 0 = 18 ∧ c = 18 ∧ f = g 1 ∧ s = g 2 ∧ t = g 3 ∧ g 1 < A 2 ∧ g 2 < A 2 ∧ 1 ≤ g 3 ∧ g 3 ≤ 20)
  ∨ (g 0 = 19 ∧ c = 19 ∧ f = g 1 ∧ g 1 < A 2)
  ∨ (g 0 = 2024 ∧ c = 21 ∧ f = g 1 ∧ g 1 < A 2)
  ∨ (g 0 = 2025 ∧ c = 22 ∧ f = g 1 ∧ g 1 < A 2)
  ∨ (g 0 = 2006 ∧ c = 2 ∧ f = g 2 * A 0 + g 1 ∧ s = g 5 ∧ t = g 3 ∧ g 1 < A 0 ∧ g 2 < A 1 ∧ g 3 ≤ 99 ∧ (g 5 = 60 ∨ g 5 = 61 ∨ g 5 = 62))
  ∨ (g 0 = 21 ∧ c = 23 ∧ f = g 1 ∧ 1 ≤ g 1 ∧ g 1 ≤ 99)
  ∨ (g 0 = 22 ∧ c = 24)
  ∨ (g 0 = 23 ∧ c = 25)
theorem actP.cg {f f' : Nat → Nat} {c p q t : Nat} (e : ∀ j, j ≠ 4 → f' j = f j) (h : actP A f c p q t) : actP A f' c p q t := by
  unfold actP at *
  rw [e 0 (by omega), e 1 (by omega), e 2 (by omega), e 3 (by omega), e 5 (by omega)]
  exact h
def PI1 (N ct dp : Nat) : Prop := ct ≤ 30 ∧ ct ≤ N ∧ N - ct + dp ≤ ct ∧ dp ≤ 3
def PI2 (A : AS) (N : Nat) (g r : Nat → Nat → Nat) : Prop := (∀ k, k < N → ∀ j, j < 6 → g k j < 10000) ∧ ∀ k, k < N → actP A (g k) (r k 0) (r k 1) (r k 2) (r k 3)
def PI3 (N dp : Nat) (g : Nat → Nat → Nat) (op : Nat → Nat) : Prop := (∀ i, i < dp → op i < N ∧ opn (g (op i))) ∧ ∀ i j, i < j → j < dp → op i < op j
def PI4 (N dp : Nat) (g r : Nat → Nat → Nat) (op : Nat → Nat) : Prop := ∀ k, k < N → opn (g k) → (∃ i, i < dp ∧ k = op i) ∨ (k < g k 4 ∧ g k 4 < N ∧ r k 4 = g k 4 ∧ g (g k 4) 0 = 22 ∧ g (g k 4) 4 = k)
def PI5 (N dp : Nat) (g r : Nat → Nat → Nat) (op : Nat → Nat) : Prop := ∀ k, k < N → g k 0 = 22 → g k 4 < k ∧ r k 4 = g k 4 ∧ opn (g (g k 4)) ∧ g (g k 4) 4 = k ∧ ∀ i, i < dp → g k 4 ≠ op i
def PI6 (N dp : Nat) (g : Nat → Nat → Nat) (op : Nat → Nat) : Prop := ∀ k j, k < N → j < N → opn (g k) → opn (g j) → k < j → (∀ i, i < dp → k ≠ op i) → j < g k 4 → (∀ i, i < dp → j ≠ op i) ∧ g j 4 < g k 4
def PIv (A : AS) (N ct dp : Nat) (g r : Nat → Nat → Nat) (op : Nat → Nat) : Prop := PI1 N ct dp ∧ PI2 A N g r ∧ PI3 N dp g op ∧ PI4 N dp g r op ∧ PI5 N dp g r op ∧ PI6 N dp g op
def addG (g : Nat → Nat → Nat) (N : Nat) (row : List Nat) : Nat → Nat → Nat := va_up g N (fun j => row.getD j 0)
def endG (g : Nat → Nat → Nat) (N o : Nat) : Nat → Nat → Nat := fun k => if k = N then (fun j => [22, 0, 0, 0, o, 0].getD j 0) else if k = o then va_up (g o) 4 N else g k
variable {N : Nat}
theorem PIv.no : PIv A 0 0 0 g r op := by
  refine ⟨⟨by omega, by omega, by omega, by omega⟩, ⟨fun k h => absurd h (Nat.not_lt_zero _), fun k h => absurd h (Nat.not_lt_zero _)⟩, ⟨fun k h => absurd h (Nat.not_lt_zero _), fun _ k _ h => absurd h (Nat.not_lt_zero _)⟩, fun k h => absurd h (Nat.not_lt_zero _), fun k h => absurd h (Nat.not_lt_zero _), fun k _ h => absurd h (Nat.not_lt_zero _)⟩
theorem PIv.add {o : Bool} {gr rr : List Nat} (h : PIv A N ct dp g r op) (hct : ct < 30) (ho : o = true → dp < 3) (hb : ∀ j, j < 6 → gr.getD j 0 < 10000) (ha : actP A (fun j => gr.getD j 0) (rr.getD 0 0) (rr.getD 1 0) (rr.getD 2 0) (rr.getD 3 0)) (hn : gr.getD 0 0 ≠ 22) (hop : opn (fun j => gr.getD j 0) ↔ o = true) : PIv A (N + 1) (ct + 1) (dpN o dp) (addG g N gr) (addR r N rr) (opN o op dp N) := by
  obtain ⟨p1, p2, p3, p4, p5, p6⟩ := h
  have gN : addG g N gr N = fun j => gr.getD j 0 := va_up_self _ _ _
  have gk : ∀ k, k ≠ N → addG g N gr k = g k := fun k hk => va_up_ne _ _ hk
  have rk : ∀ k, k ≠ N → addR r N rr k = r k := fun k hk => va_up_ne _ _ hk
  have rN : addR r N rr N = fun j => if j = 4 then N else rr.getD j 0 := va_up_self _ _ _
  have opk : ∀ i, i < dp → opN o op dp N i = op i := by
    intro i hi
    unfold opN
    cases o with
    | false => rw [if_neg (by decide)]
    | true => rw [if_pos rfl, va_up_ne _ _ (by omega)]
  have dle : dp ≤ dpN o dp := by unfold dpN; split <;> omega
  have opi : ∀ i, i < dpN o dp → (i < dp ∧ opN o op dp N i = op i) ∨ (o = true ∧ i = dp ∧ opN o op dp N i = N) := by
    intro i hi
    by_cases z : i < dp
    · exact Or.inl ⟨z, opk i z⟩
    · unfold dpN at hi
      cases o with
      | false => rw [if_neg (by decide)] at hi; omega
      | true =>
        rw [if_pos rfl] at hi
        have e : i = dp := by omega
        refine Or.inr ⟨rfl, e, ?_⟩
        unfold opN
        rw [if_pos rfl, e, va_up_self]
  refine ⟨?_, ⟨?_, ?_⟩, ⟨?_, ?_⟩, ?_, ?_, ?_⟩
  · obtain ⟨a1, a2, a3, a4⟩ := p1
    unfold PI1 dpN
    cases o with
    | false => rw [if_neg (by decide)]; omega
    | true => rw [if_pos rfl]; have := ho rfl; omega
  · intro k hk j hj
    by_cases z : k = N
    · rw [z, gN]; exact hb j hj
    · rw [gk k z]; exact p2.1 k (by omega) j hj
  · intro k hk
    by_cases z : k = N
    · rw [z, gN, rN]; exact ha
    · rw [gk k z, rk k z]; exact p2.2 k (by omega)
  · intro i hi
    rcases opi i hi with ⟨z, e⟩ | ⟨z, _, e⟩
    · rw [e]
      obtain ⟨q1, q2⟩ := p3.1 i z
      rw [gk _ (by omega)]
      exact ⟨by omega, q2⟩
    · rw [e, gN]
      exact ⟨by omega, hop.mpr z⟩
  · intro i j hij hj
    rcases opi j hj with ⟨z, e⟩ | ⟨z, y, e⟩
    · rw [e, opk i (by omega)]; exact p3.2 i j hij z
    · rw [e, opk i (by omega)]; exact (p3.1 i (by omega)).1
  · intro k hk hko
    by_cases z : k = N
    · rw [z, gN] at hko
      have ot := hop.mp hko
      refine Or.inl ⟨dp, ?_, ?_⟩
      · unfold dpN; rw [if_pos ot]; omega
      · unfold opN; rw [if_pos ot, va_up_self, z]
    · rw [gk k z] at hko ⊢
      rw [rk k z]
      rcases p4 k (by omega) hko with ⟨i, q1, q2⟩ | ⟨q1, q2, q3, q4, q5⟩
      · exact Or.inl ⟨i, by omega, by rw [opk i q1]; exact q2⟩
      · refine Or.inr ⟨q1, by omega, q3, ?_⟩
        rw [gk _ (by omega)]
        exact ⟨q4, q5⟩
  · intro k hk hk0
    by_cases z : k = N
    · rw [z, gN] at hk0; exact absurd hk0 hn
    · rw [gk k z] at hk0 ⊢
      rw [rk k z]
      obtain ⟨q1, q2, q3, q4, q5⟩ := p5 k (by omega) hk0
      refine ⟨q1, q2, ?_, ?_, ?_⟩
      · rw [gk _ (by omega)]; exact q3
      · rw [gk _ (by omega)]; exact q4
      · intro i hi
        rcases opi i hi with ⟨y, e⟩ | ⟨y, _, e⟩
        · rw [e]; exact q5 i y
        · rw [e]; omega
  · intro k j hk hj ok oj hkj hno hlt
    have kN : k ≠ N := by omega
    rw [gk k kN] at ok hlt ⊢
    have no' : ∀ i, i < dp → k ≠ op i := fun i hi => by have := hno i (by omega); rw [opk i hi] at this; exact this
    have gk4 : g k 4 < N := by
      rcases p4 k (by omega) ok with ⟨i, q1, q2⟩ | ⟨_, q2, _⟩
      · exact absurd q2 (no' i q1)
      · exact q2
    rw [gk j (by omega)] at oj ⊢
    obtain ⟨q1, q2⟩ := p6 k j (by omega) (by omega) ok oj hkj no' hlt
    refine ⟨fun i hi => ?_, q2⟩
    rcases opi i hi with ⟨y, e⟩ | ⟨y, _, e⟩
    · rw [e]; exact q1 i y
    · rw [e]; omega
theorem PIv.end {e : Nat} (h : PIv A N ct (e + 1) g r op) : PIv A (N + 1) ct e (endG g N (op e)) (endR r N (op e)) op := by
  obtain ⟨p1, p2, p3, p4, p5, p6⟩ := h
  obtain ⟨oN, oo⟩ := p3.1 e (by omega)
  have lte : ∀ i, i < e → op i < op e := fun i hi => p3.2 i e hi (by omega)
  generalize ho : op e = o at *
  have gN : endG g N o N = fun j => [22, 0, 0, 0, o, 0].getD j 0 := if_pos rfl
  have go : endG g N o o = va_up (g o) 4 N := by unfold endG; rw [if_neg (by omega), if_pos rfl]
  have gk : ∀ k, k ≠ N → k ≠ o → endG g N o k = g k := fun k h1 h2 => by unfold endG; rw [if_neg h1, if_neg h2]
  have rN : endR r N o N = fun j => [24, 0, 0, 0, o].getD j 0 := if_pos rfl
  have ro : endR r N o o = va_up (r o) 4 N := by unfold endR; rw [if_neg (by omega), if_pos rfl]
  have rk : ∀ k, k ≠ N → k ≠ o → endR r N o k = r k := fun k h1 h2 => by unfold endR; rw [if_neg h1, if_neg h2]
  have g0 : ∀ k, k ≠ N → endG g N o k 0 = g k 0 := by
    intro k hk
    by_cases z : k = o
    · rw [z, go, va_up_ne _ _ (by omega)]
    · rw [gk k hk z]
  have gop : ∀ k, k ≠ N → (opn (endG g N o k) ↔ opn (g k)) := fun k hk => by unfold opn; rw [g0 k hk]
  have nopN : ¬ opn (endG g N o N) := by
    rw [gN]
    show ¬ ((22 : Nat) = 21 ∨ 2000 ≤ (22 : Nat))
    omega
  have n22 : g o 0 ≠ 22 := by unfold opn at oo; omega
  obtain ⟨a1, a2, a3, a4⟩ := p1
  refine ⟨⟨a1, by omega, by omega, by omega⟩, ⟨?_, ?_⟩, ⟨?_, fun i j hij hj => p3.2 i j hij (by omega)⟩, ?_, ?_, ?_⟩
  · intro k hk j hj
    by_cases z : k = N
    · rw [z, gN]
      have : j = 0 ∨ j = 1 ∨ j = 2 ∨ j = 3 ∨ j = 4 ∨ j = 5 := by omega
      rcases this with q | q | q | q | q | q <;> subst q
      · show 22 < 10000; omega
      · show 0 < 10000; omega
      · show 0 < 10000; omega
      · show 0 < 10000; omega
      · show o < 10000; omega
      · show 0 < 10000; omega
    · by_cases y : k = o
      · rw [y, go]
        by_cases w : j = 4
        · rw [w, va_up_self]; omega
        · rw [va_up_ne _ _ w]; exact p2.1 o oN j hj
      · rw [gk k z y]; exact p2.1 k (by omega) j hj
  · intro k hk
    by_cases z : k = N
    · rw [z, gN, rN]
      exact Or.inr (Or.inr (Or.inr (Or.inr (Or.inr (Or.inr (Or.inr (Or.inr (Or.inl ⟨rfl, rfl⟩))))))))
    · by_cases y : k = o
      · rw [y, go, ro, va_up_ne _ _ (by omega), va_up_ne _ _ (by omega), va_up_ne _ _ (by omega), va_up_ne _ _ (by omega)]
        exact (p2.2 o oN).cg (fun j hj => va_up_ne _ _ hj)
      · rw [gk k z y, rk k z y]; exact p2.2 k (by omega)
  · intro i hi
    obtain ⟨q1, q2⟩ := p3.1 i (by omega)
    exact ⟨by omega, (gop _ (by omega)).mpr q2⟩
  · intro k hk hko
    by_cases z : k = N
    · rw [z] at hko; exact absurd hko nopN
    · have hk2 := (gop k z).mp hko
      by_cases y : k = o
      · refine Or.inr ?_
        rw [y, go, ro, va_up_self, va_up_self, gN]
        exact ⟨oN, by omega, rfl, rfl, rfl⟩
      · rw [gk k z y, rk k z y]
        rcases p4 k (by omega) hk2 with ⟨i, q1, q2⟩ | ⟨q1, q2, q3, q4, q5⟩
        · refine Or.inl ⟨i, ?_, q2⟩
          by_cases w : i = e
          · rw [w, ho] at q2; exact absurd q2 y
          · omega
        · refine Or.inr ⟨q1, by omega, q3, ?_⟩
          rw [gk _ (by omega) (fun q => n22 (by rw [← q]; exact q4))]
          exact ⟨q4, q5⟩
  · intro k hk hk0
    by_cases z : k = N
    · rw [z, gN, rN]
      refine ⟨oN, rfl, (gop o (by omega)).mpr oo, ?_, ?_⟩
      · show endG g N o o 4 = N
        rw [go, va_up_self]
      · intro i hi
        show o ≠ op i
        have := lte i hi
        omega
    · rw [g0 k z] at hk0
      have y : k ≠ o := fun q => n22 (by rw [← q]; exact hk0)
      rw [gk k z y, rk k z y]
      obtain ⟨q1, q2, q3, q4, q5⟩ := p5 k (by omega) hk0
      have po : g k 4 ≠ o := by have := q5 e (by omega); rw [ho] at this; exact this
      rw [gk _ (by omega) po]
      exact ⟨q1, q2, q3, q4, fun i hi => q5 i (by omega)⟩
  · intro k j hk hj ok oj hkj hno hlt
    have jN : j ≠ N := fun q => by rw [q] at oj; exact nopN oj
    have kN : k ≠ N := by omega
    have ok2 := (gop k kN).mp ok
    have oj2 := (gop j jN).mp oj
    by_cases y : k = o
    · rw [y, go, va_up_self]
      have jo : j ≠ o := by omega
      rw [gk j jN jo]
      have nj : ∀ i, i < e → j ≠ op i := fun i hi => by have := lte i hi; omega
      refine ⟨nj, ?_⟩
      rcases p4 j (by omega) oj2 with ⟨i, q1, q2⟩ | ⟨_, q2, _⟩
      · by_cases w : i = e
        · rw [w, ho] at q2; exact absurd q2 jo
        · exact absurd q2 (nj i (by omega))
      · exact q2
    · rw [gk k kN y] at hlt ⊢
      have no' : ∀ i, i < e + 1 → k ≠ op i := by
        intro i hi
        by_cases w : i = e
        · rw [w, ho]; exact y
        · exact hno i (by omega)
      obtain ⟨q1, q2⟩ := p6 k j (by omega) (by omega) ok2 oj2 hkj no' hlt
      have jo : j ≠ o := by have := q1 e (by omega); rw [ho] at this; exact this
      rw [gk j jN jo]
      exact ⟨fun i hi => q1 i (by omega), q2⟩
theorem PIv.prg {a : Nat} {f : Nat → Int32} {I : mI} (h : PIv A N ct 0 g r op) (h0 : I (a + 20) 0 = nI 1) (h5 : f 5 = nI N) (h2 : I (a + 20) 2 = nI N) (hf : ∀ k, k < N → ∀ j, j < 6 → f (242 + 6 * k + j) = nI (g k j)) (hr : ∀ k, k < N → I (a + 21) k = nI (r k 0) ∧ I (a + 22) k = nI (r k 1) ∧ I (a + 23) k = nI (r k 2) ∧ I (a + 24) k = nI (r k 3) ∧ I (a + 25) k = nI (r k 4)) : PrgR A a f I := by
  obtain ⟨⟨a1, a2, a3, a4⟩, p2, p3, p4, p5, p6⟩ := h
  have pr : ∀ k, k < N → opn (g k) → (k < g k 4 ∧ g k 4 < N ∧ r k 4 = g k 4 ∧ g (g k 4) 0 = 22 ∧ g (g k 4) 4 = k) := by
    intro k hk ok
    rcases p4 k hk ok with ⟨i, q1, _⟩ | q
    · exact absurd q1 (Nat.not_lt_zero _)
    · exact q
  refine Or.inr ⟨h0, N, g, r, by omega, h5, h2, fun k hk j hj => ⟨hf k hk j hj, p2.1 k hk j hj⟩, hr, ?_, ?_, ?_, ?_⟩
  · intro k hk
    have hp := pr k hk
    have h22 := p5 k hk
    have ha := p2.2 k hk
    unfold opn at hp
    unfold actP at ha
    unfold actR
    rcases ha with q | q | q | q | q | q | q | q | q | q
    · exact Or.inl q
    · exact Or.inr (Or.inl q)
    · exact Or.inr (Or.inr (Or.inl q))
    · exact Or.inr (Or.inr (Or.inr (Or.inl q)))
    · obtain ⟨x1, x2, x3, _, _⟩ := hp (by omega)
      exact Or.inr (Or.inr (Or.inr (Or.inr (Or.inl ⟨q.1, q.2.1, q.2.2.1, q.2.2.2, x3, by omega, by omega⟩))))
    · obtain ⟨x1, x2, x3, _, _⟩ := hp (by omega)
      exact Or.inr (Or.inr (Or.inr (Or.inr (Or.inr (Or.inl ⟨q.1, q.2.1, q.2.2.1, q.2.2.2, x3, by omega, by omega⟩)))))
    · obtain ⟨x1, x2, x3, _, _⟩ := hp (by omega)
      obtain ⟨y1, y2, y3, y4, y5, y6, y7, y8, y9⟩ := q
      exact Or.inr (Or.inr (Or.inr (Or.inr (Or.inr (Or.inr (Or.inl ⟨y1, y2, y3, y4, y5, y6, y7, y8, y9, x3, by omega, by omega⟩))))))
    · obtain ⟨x1, x2, x3, _, _⟩ := hp (by omega)
      obtain ⟨y1, y2, y3, y4, y5⟩ := q
      exact Or.inr (Or.inr (Or.inr (Or.inr (Or.inr (Or.inr (Or.inr (Or.inl ⟨y1, y2, y3, y4, y5, x3, by omega, by omega⟩)))))))
    · obtain ⟨x1, x2, _⟩ := h22 q.1
      exact Or.inr (Or.inr (Or.inr (Or.inr (Or.inr (Or.inr (Or.inr (Or.inr (Or.inl ⟨q.1, q.2, x2, by omega⟩))))))))
    · exact Or.inr (Or.inr (Or.inr (Or.inr (Or.inr (Or.inr (Or.inr (Or.inr (Or.inr q))))))))
  · intro k hk h22
    obtain ⟨_, _, x3, x4, _⟩ := p5 k hk h22
    exact ⟨x4, x3⟩
  · intro k hk ok
    obtain ⟨_, _, _, x4, x5⟩ := pr k hk ok
    exact ⟨x5, x4⟩
  · intro k j hk hj ok oj hkj hlt
    exact (p6 k j hk hj ok oj hkj (fun i hi => absurd hi (Nat.not_lt_zero _)) hlt).2
end MO6

