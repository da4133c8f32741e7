/-! Mornings: what they come to, by themselves. -/
def drw (dr : Nat) : Nat := (dr * 3037 + 11257) % 65536
def dcel (q d : Nat) : Nat := if d = 0 then q + 1 else if d = 1 then q + 6 else if d = 2 then q - 1 else q - 6
def dval (A : AS) (q d : Nat) : Bool := if d = 0 then decide (q % 6 + 1 < A 0) else if d = 1 then decide (q / 6 + 1 < A 1) else if d = 2 then decide (0 < q % 6) else decide (0 < q / 6)
def sbB (A : AS) (w p e : Nat) (v : Bool) : Bool := v && canB A w p e && decide (A 4 + (1 + pI A w p 2 / 2) ≤ 9999)
noncomputable def sbS (A : AS) (w p e : Nat) (v : Bool) : AS := if sbB A w p e v = true then stpA A w p e else A
noncomputable def sbE (A : AS) (w p e : Nat) (v : Bool) : Nat := if sbB A w p e v = true ∧ ¬ wI (stpA A w p e) w 6 = 1 then 1 else 0
theorem sbB_iff {A : AS} {w p e : Nat} {v : Bool} : sbB A w p e v = true ↔ v = true ∧ canB A w p e = true ∧ A 4 + (1 + pI A w p 2 / 2) ≤ 9999 := by
  unfold sbB
  rw [Bool.and_eq_true, Bool.and_eq_true, decide_eq_true_iff, and_assoc]
/-- the step that an act names, or draws -/
def aP (g : Nat → Nat) (dr : Nat) : Nat := if g 0 = 16 then g 5 else drw dr / 8 % 2
def aD (dr : Nat) : Nat := drw (drw dr) / 8 % 4
def aC (g : Nat → Nat) (A : AS) (dr : Nat) : Nat := if g 0 = 16 then 6 * g 3 + g 2 else dcel (pcl A (g 1) (1 - aP g dr)) (aD dr)
def aV (g : Nat → Nat) (A : AS) (dr : Nat) : Bool := if g 0 = 16 then true else dval A (pcl A (g 1) (1 - aP g dr)) (aD dr)
noncomputable def actS (g : Nat → Nat) (A : AS) (dr : Nat) : AS :=
  if g 0 = 16 ∨ g 0 = 19 then sbS A (g 1) (aP g dr) (aC g A dr) (aV g A dr)
  else if g 0 = 17 then (if A 4 + g 1 ≤ 9999 then momN 99 (g 1) A else A)
  else if g 0 = 18 then hndA A (g 1) (g 2) (g 3) else A
def actD (g : Nat → Nat) (dr : Nat) : Nat := if g 0 = 19 then drw (drw dr) else dr
def actB (g : Nat → Nat) (A : AS) (dr : Nat) : Bool :=
  if g 0 = 16 ∨ g 0 = 19 then sbB A (g 1) (aP g dr) (aC g A dr) (aV g A dr)
  else if g 0 = 17 then decide (A 4 + g 1 ≤ 9999)
  else if g 0 = 18 then hndB A (g 1) (g 2) (g 3) else true
noncomputable def actE (g : Nat → Nat) (A : AS) (dr : Nat) : Nat :=
  if g 0 = 16 ∨ g 0 = 19 then sbE A (g 1) (aP g dr) (aC g A dr) (aV g A dr) else 0
def hldB (g : Nat → Nat) (A : AS) : Bool :=
  if g 0 = 2024 then decide (wI A (g 1) 6 = 1) else if g 0 = 2025 then homeB A (g 1)
  else if g 5 = 60 then decide (cI A (6 * g 2 + g 1) 0 < g 3) else if g 5 = 62 then decide (g 3 < cI A (6 * g 2 + g 1) 0) else decide (cI A (6 * g 2 + g 1) 0 = g 3)
def nxt (g : Nat → Nat → Nat) (k : Nat) (A : AS) : Nat := if 2000 ≤ g k 0 ∧ hldB (g k) A = false then g k 4 + 1 else k + 1
def lpN (g : Nat → Nat → Nat) (k : Nat) (lp : Nat → Nat) : Nat → Nat := if g k 0 = 21 then va_up lp k (g k 1 - 1) else lp
noncomputable def ex (n : Nat) (g : Nat → Nat → Nat) : Nat → Nat → AS → (Nat → Nat) → Nat → Nat → Nat → Nat → (AS × Nat × Nat × Nat × Nat)
  | 0, _, A, _, _, dn, mi, en => (A, dn, mi, en, 0)
  | f + 1, k, A, lp, dr, dn, mi, en =>
    if n ≤ k then (A, dn, mi, en, 0)
    else if g k 0 = 22 then
      (if g (g k 4) 0 = 21 ∧ 0 < lp (g k 4) then ex n g f (g k 4 + 1) A (va_up lp (g k 4) (lp (g k 4) - 1)) dr dn mi en
       else ex n g f (k + 1) A lp dr dn mi en)
    else if 300 ≤ dn then (A, dn, mi, en, 1)
    else if g k 0 = 23 then (A, dn + 1, mi, en, 0)
    else ex n g f (nxt g k A) (actS (g k) A dr) (lpN g k lp) (actD (g k) dr) (dn + 1) (mi + if actB (g k) A dr = true then 0 else 1) (en + actE (g k) A dr)
theorem ex_end {n : Nat} {g : Nat → Nat → Nat} {f k : Nat} {A : AS} {lp : Nat → Nat} {dr dn mi en : Nat} (h : n ≤ k) : ex n g f k A lp dr dn mi en = (A, dn, mi, en, 0) := by
  cases f with
  | zero => rfl
  | succ f => rw [ex, if_pos h]
def PG (A : AS) (n : Nat) (g r : Nat → Nat → Nat) : Prop := n ≤ 60 ∧ (∀ k, k < n → ∀ j, j < 6 → g k j < 10000) ∧ (∀ k, k < n → actR A (g k) n k (r k 0) (r k 1) (r k 2) (r k 3) (r k 4))
    ∧ (∀ k, k < n → g k 0 = 22 → g (g k 4) 4 = k ∧ (g (g k 4) 0 = 21 ∨ 2000 ≤ g (g k 4) 0))
    ∧ (∀ k, k < n → g k 0 = 21 ∨ 2000 ≤ g k 0 → g (g k 4) 4 = k ∧ g (g k 4) 0 = 22)
    ∧ (∀ k j, k < n → j < n → (g k 0 = 21 ∨ 2000 ≤ g k 0) → (g j 0 = 21 ∨ 2000 ≤ g j 0) → k < j → j < g k 4 → g j 4 < g k 4)
def PHc (r : Nat → Nat → Nat) (n a : Nat) (I : mI) : Prop := I (a + 20) 2 = nI n ∧ ∀ k, k < n → I (a + 21) k = nI (r k 0) ∧ I (a + 22) k = nI (r k 1) ∧ I (a + 23) k = nI (r k 2) ∧ I (a + 24) k = nI (r k 3) ∧ I (a + 25) k = nI (r k 4)
def PHm (g : Nat → Nat → Nat) (n : Nat) (f : Nat → Int32) : Prop := f 5 = nI n ∧ ∀ k, k < n → ∀ j, j < 6 → f (242 + 6 * k + j) = nI (g k j)
theorem prg_PG {A : AS} {a : Nat} {f : Nat → Int32} {I : mI} (h : PrgR A a f I) : (I (a + 20) 0 = nI 0 ∧ f 5 = -1) ∨ (I (a + 20) 0 = nI 1 ∧ ∃ n g r, PG A n g r ∧ PHc r n a I ∧ PHm g n f) := by
  rcases h with h | ⟨h0, n, g, r, h1, h2, h3, h4, h5, h6, h7, h8, h9⟩
  · exact Or.inl h
  · exact Or.inr ⟨h0, n, g, r, ⟨h1, fun k hk j hj => (h4 k hk j hj).2, h6, h7, h8, h9⟩, ⟨h3, h5⟩, ⟨h2, fun k hk j hj => (h4 k hk j hj).1⟩⟩
section EX
variable {A B : AS} {n : Nat} {g r : Nat → Nat → Nat} {k o dn v : Nat} {lp : Nat → Nat}
theorem PG.cg (h : PG A n g r) (e0 : B 0 = A 0) (e1 : B 1 = A 1) (e2 : B 2 = A 2) : PG B n g r := by
  obtain ⟨h1, h2, h3, h4⟩ := h
  refine ⟨h1, h2, fun k hk => ?_, h4⟩
  have := h3 k hk
  unfold actR at this ⊢
  rw [e0, e1, e2]
  exact this
def LPA (n : Nat) (g : Nat → Nat → Nat) (k o : Nat) : Prop := o < n ∧ g o 0 = 21 ∧ o < k ∧ k ≤ g o 4
theorem PG.endp (h : PG A n g r) (hk : k < n) (he : g k 0 = 22) : g k 4 < k ∧ g (g k 4) 4 = k ∧ (g (g k 4) 0 = 21 ∨ 2000 ≤ g (g k 4) 0) := by
  obtain ⟨h1, h2, h3, h4, h5, h6⟩ := h
  have := h3 k hk
  unfold actR at this
  refine ⟨by omega, h4 k hk he⟩
theorem PG.opn (h : PG A n g r) (hk : k < n) (he : g k 0 = 21 ∨ 2000 ≤ g k 0) : k < g k 4 ∧ g k 4 < n ∧ g (g k 4) 4 = k ∧ g (g k 4) 0 = 22 := by
  obtain ⟨h1, h2, h3, h4, h5, h6⟩ := h
  have := h3 k hk
  unfold actR at this
  have := h5 k hk he
  omega
theorem PG.nest (h : PG A n g r) (hk : k < n) (hj : o < n) (h1 : g k 0 = 21 ∨ 2000 ≤ g k 0) (h2 : g o 0 = 21 ∨ 2000 ≤ g o 0) (h3 : k < o) (h4 : o < g k 4) : g o 4 < g k 4 := h.2.2.2.2.2 k o hk hj h1 h2 h3 h4
theorem lpa_next (ho : LPA n g (k + 1) o) : o = k ∨ LPA n g k o := by
  unfold LPA at ho ⊢; omega
theorem lpa_leave (h : PG A n g r) (hk : k < n) (he : g k 0 = 22) (ho : LPA n g (k + 1) o) : LPA n g k o ∧ o ≠ g k 4 := by
  have q := h.endp hk he
  rcases lpa_next ho with z | z
  · subst z; have := ho.2.1; omega
  · refine ⟨z, fun y => ?_⟩
    subst y
    have := ho.2.2.2
    omega
theorem lpa_skip (h : PG A n g r) (hk : k < n) (he : 2000 ≤ g k 0) (ho : LPA n g (g k 4 + 1) o) : LPA n g k o := by
  have q := h.opn hk (Or.inr he)
  obtain ⟨o1, o2, o3, o4⟩ := ho
  refine ⟨o1, o2, ?_, by omega⟩
  apply Nat.lt_of_not_le
  intro z
  have n1 : o ≠ k := by intro y; subst y; omega
  have n2 : o ≠ g k 4 := by intro y; subst y; omega
  have := h.nest hk o1 (Or.inr he) (Or.inl o2) (by omega) (by omega)
  omega
theorem lpa_again (h : PG A n g r) (hk : k < n) (he : g k 0 = 22) (ho : LPA n g (g k 4 + 1) o) : o = g k 4 ∨ LPA n g k o := by
  obtain ⟨q1, q2, q3⟩ := h.endp hk he
  obtain ⟨o1, o2, o3, o4⟩ := ho
  by_cases z : o = g k 4
  · exact Or.inl z
  · right
    have := h.nest (k := o) (o := g k 4) o1 (by omega) (Or.inl o2) q3 (by omega) (by omega)
    exact ⟨o1, o2, by omega, by omega⟩
def smL (lp : Nat → Nat) : Nat → Nat
  | 0 => 0
  | n + 1 => smL lp n + lp n
theorem smL_up : ∀ n, smL (va_up lp o v) n + (if o < n then lp o else 0) = smL lp n + (if o < n then v else 0)
  | 0 => by simp [smL]
  | n + 1 => by
    have ih := smL_up n
    unfold smL
    by_cases z : o = n
    · subst z
      rw [va_up_self, if_pos (by omega), if_pos (by omega)]
      rw [if_neg (by omega), if_neg (by omega)] at ih
      omega
    · rw [va_up_ne _ _ (fun q => z q.symm)]
      by_cases y : o < n
      · rw [if_pos y, if_pos y] at ih
        rw [if_pos (by omega), if_pos (by omega)]; omega
      · rw [if_neg y, if_neg y] at ih
        rw [if_neg (by omega), if_neg (by omega)]; omega
def mu (n : Nat) (g : Nat → Nat → Nat) (k : Nat) (lp : Nat → Nat) (dn : Nat) : Nat := 300 * (300 - dn) + smL lp n + (n - k) + (if k < n ∧ g k 0 = 22 then 100 else 0)
theorem mu_leave (hk : k < n) (he : g k 0 = 22) : mu n g (k + 1) lp dn < mu n g k lp dn := by
  have e : (if k < n ∧ g k 0 = 22 then 100 else 0) = 100 := if_pos ⟨hk, he⟩
  unfold mu
  rw [e]
  split <;> omega
theorem mu_again (h : PG A n g r) (hk : k < n) (he : g k 0 = 22) (hp : 0 < lp (g k 4)) : mu n g (g k 4 + 1) (va_up lp (g k 4) (lp (g k 4) - 1)) dn < mu n g k lp dn := by
  obtain ⟨q1, q2, q3⟩ := h.endp hk he
  have s := @smL_up (g k 4) (lp (g k 4) - 1) lp n
  rw [if_pos (by omega), if_pos (by omega)] at s
  have hn := h.1
  have e9 : (if k < n ∧ g k 0 = 22 then 100 else 0) = 100 := if_pos ⟨hk, he⟩
  unfold mu
  rw [e9]
  by_cases z : g k 4 + 1 < n ∧ g (g k 4 + 1) 0 = 22
  · rw [if_pos z]
    have e : g k 4 + 1 = k := by
      obtain ⟨p1, p2, p3⟩ := h.endp z.1 z.2
      by_cases y : g (g k 4 + 1) 4 = g k 4
      · rw [y] at p2; omega
      · have := h.nest (k := g (g k 4 + 1) 4) (o := g k 4) (by omega) (by omega) p3 q3 (by omega) (by omega)
        omega
    rw [e]
    omega
  · rw [if_neg z]
    omega
theorem mu_act {k2 : Nat} (hk : k < n) (hd : dn < 300) (h1 : k < k2) (hv : v ≤ 98) : mu n g k2 lp (dn + 1) < mu n g k lp dn ∧ mu n g k2 (va_up lp k v) (dn + 1) < mu n g k lp dn := by
  have s := @smL_up k v lp n
  rw [if_pos hk, if_pos hk] at s
  unfold mu
  refine ⟨?_, ?_⟩ <;> (split <;> split <;> omega)
end EX
