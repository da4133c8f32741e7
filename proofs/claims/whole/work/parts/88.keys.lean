/-! Cells without which there is no way. -/
def Pth (A : AS) (r aw s : Nat) : Nat → Nat → Prop
  | 0, v => v = s
  | n + 1, v => ∃ a, Pth A r aw s n a ∧ far a v ≤ r ∧ hereB A v = true ∧ v ≠ aw
section KY
variable {A : AS} {r aw : Nat}
theorem Pth_cons {s t : Nat} (h1 : far t s ≤ r) (h2 : hereB A s = true ∧ s ≠ aw) : ∀ n v, Pth A r aw s n v → Pth A r aw t (n + 1) v
  | 0, v, h => by
    have h : v = s := h
    subst h
    exact ⟨t, rfl, h1, h2⟩
  | n + 1, v, h => by
    obtain ⟨a, q1, q2⟩ := h
    exact ⟨a, Pth_cons h1 h2 n a q1, q2⟩
theorem Pth_rev {s : Nat} (hs : hereB A s = true ∧ s ≠ aw) : ∀ n v, Pth A r aw s n v → Pth A r aw v n s
  | 0, v, h => by
    have h : v = s := h
    exact h.symm
  | n + 1, v, h => by
    obtain ⟨a, q1, q2, q3⟩ := h
    have ih := Pth_rev hs n a q1
    by_cases g : n = 0
    · subst g
      have e : a = s := q1
      subst e
      exact ⟨v, rfl, by rw [far_comm]; exact q2, hs⟩
    · have ha : hereB A a = true ∧ a ≠ aw := by
        obtain ⟨k, rfl⟩ : ∃ k, n = k + 1 := ⟨n - 1, by omega⟩
        obtain ⟨b, -, -, z⟩ := q1
        exact z
      exact Pth_cons (by rw [far_comm]; exact q2) ha n s ih
theorem Pth_ok {s : Nat} (hs : hereB A s = true ∧ s ≠ aw) : ∀ n v, Pth A r aw s n v → hereB A v = true ∧ v ≠ aw
  | 0, v, h => by
    have h : v = s := h
    rw [h]; exact hs
  | n + 1, v, h => by
    obtain ⟨a, -, -, q⟩ := h
    exact q
/-- pairs of poles that the model comes to, and cells -/
theorem rch_pth {g : Nat} (h1 : A 1 ≤ 5) (hg : hereB A g = true ∧ g ≠ aw) : ∀ n u, Rch (EW A r aw) (31 * g) n u → (∃ k, Pth A r aw g k (u / 30)) ∧ ∃ k, Pth A r aw g k (u % 30)
  | 0, u, h => by
    have h : u = 31 * g := h
    have g30 := here30 h1 hg.1
    rw [h, show 31 * g / 30 = g by omega, show 31 * g % 30 = g by omega]
    exact ⟨⟨0, rfl⟩, 0, rfl⟩
  | n + 1, u, h => by
    obtain ⟨v, q1, q2⟩ := h
    obtain ⟨⟨k1, i1⟩, k2, i2⟩ := rch_pth h1 hg n v q1
    obtain ⟨hv, c, hc30, hh, hca, q⟩ := q2
    rcases q with ⟨f1, e⟩ | ⟨f1, e⟩
    · rw [e, show (30 * c + v % 30) / 30 = c by omega, show (30 * c + v % 30) % 30 = v % 30 by omega]
      exact ⟨⟨k2 + 1, v % 30, i2, f1, hh, hca⟩, k2, i2⟩
    · rw [e, show (30 * (v / 30) + c) / 30 = v / 30 by omega, show (30 * (v / 30) + c) % 30 = c by omega]
      exact ⟨⟨k1, i1⟩, k1 + 1, v / 30, i1, f1, hh, hca⟩
theorem pth_rch {g : Nat} (h1 : A 1 ≤ 5) (hg : hereB A g = true ∧ g ≠ aw) : ∀ n v, Pth A r aw g n v → ∃ k, Rch (EW A r aw) (31 * g) k (31 * v)
  | 0, v, h => by
    have h : v = g := h
    rw [h]; exact ⟨0, rfl⟩
  | n + 1, v, h => by
    have hv := (Pth_ok hg (n + 1) v h)
    obtain ⟨a, q1, q2, q3, q4⟩ := h
    have ha := here30 h1 (Pth_ok hg n a q1).1
    have hv30 := here30 h1 hv.1
    obtain ⟨k, ik⟩ := pth_rch h1 hg n a q1
    refine ⟨k + 2, 30 * v + a, ⟨31 * a, ik, by omega, v, hv30, q3, q4, Or.inl ?_⟩, by omega, v, hv30, q3, q4, Or.inr ?_⟩
    · rw [show 31 * a % 30 = a by omega]; exact ⟨q2, rfl⟩
    · rw [show (30 * v + a) / 30 = v by omega, far_self]; exact ⟨by omega, by omega⟩
theorem rch_iff {g p0 p1 : Nat} (h1 : A 1 ≤ 5) (hg : hereB A g = true ∧ g ≠ aw) (hp0 : hereB A p0 = true ∧ p0 ≠ aw) (hp1 : hereB A p1 = true ∧ p1 ≠ aw) (hd : far p0 p1 ≤ r) : (∃ n, Rch (EW A r aw) (31 * g) n (30 * p0 + p1)) ↔ ∃ n, Pth A r aw p0 n g ∨ Pth A r aw p1 n g := by
  have a30 := here30 h1 hp0.1
  have b30 := here30 h1 hp1.1
  constructor
  · rintro ⟨n, h⟩
    obtain ⟨⟨k, hk⟩, -⟩ := rch_pth h1 hg n _ h
    rw [show (30 * p0 + p1) / 30 = p0 by omega] at hk
    exact ⟨k, Or.inl (Pth_rev hg k p0 hk)⟩
  · rintro ⟨n, h | h⟩
    · obtain ⟨k, hk⟩ := pth_rch h1 hg n p0 (Pth_rev hp0 n g h)
      refine ⟨k + 1, 31 * p0, hk, by omega, p1, b30, hp1.1, hp1.2, Or.inr ?_⟩
      rw [show 31 * p0 / 30 = p0 by omega]; exact ⟨hd, rfl⟩
    · obtain ⟨k, hk⟩ := pth_rch h1 hg n p1 (Pth_rev hp1 n g h)
      refine ⟨k + 1, 31 * p1, hk, by omega, p0, a30, hp0.1, hp0.2, Or.inl ?_⟩
      rw [show 31 * p1 % 30 = p1 by omega, far_comm]; exact ⟨hd, rfl⟩
end KY
def keyP (A : AS) (w c : Nat) : Prop := c ≠ wnt A w ∧ c ≠ pcl A w 0 ∧ c ≠ pcl A w 1 ∧ ¬ ∃ n, Pth A (wI A w 1) c (pcl A w 0) n (wnt A w) ∨ Pth A (wI A w 1) c (pcl A w 1) n (wnt A w)
noncomputable def keyB (A : AS) (w c : Nat) : Bool := @decide (keyP A w c) (Classical.propDecidable _)
theorem keyB_iff {A : AS} {w c : Nat} : keyB A w c = true ↔ keyP A w c := by
  unfold keyB
  exact @decide_eq_true_iff _ (Classical.propDecidable _)
/-! the class: a search by sets -/
def Cr (A : AS) (r cw c0 c1 : Nat) : Nat → Nat → Prop
  | 0, c => c = c0 ∨ c = c1
  | n + 1, c => ∃ a, a < A 0 * A 1 ∧ Cr A r cw c0 c1 n a ∧ far (mc A a) (mc A c) ≤ r ∧ c < A 0 * A 1 ∧ c ≠ cw
section LD
variable {S : mS} {I J I2 : mI} {L K : mL} {R : mR} {Q : mQ} {d x m mo sc t c w r : Nat} {s0 : Nat → Int32} {A B : AS} {cw c0 c1 g : Nat}
theorem and_pow {a i : Nat} : (a &&& 2 ^ i = 0) = (a.testBit i = false) := by
  apply propext
  constructor
  · intro h
    have := congrArg (fun z => Nat.testBit z i) h
    simpa [Nat.testBit_and, Nat.testBit_two_pow] using this
  · intro h
    apply Nat.eq_of_testBit_eq
    intro j
    rw [Nat.testBit_and, Nat.testBit_two_pow, Nat.zero_testBit]
    by_cases q : i = j
    · subst q; rw [h]; rfl
    · rw [decide_eq_false q, Bool.and_false]
def ldI (A : AS) (r cw c0 c1 rd fr rn : Nat) : Prop := (∀ i, A 0 * A 1 ≤ i → rd.testBit i = false) ∧ (∀ i, rd.testBit i = true → ∃ n, Cr A r cw c0 c1 n i) ∧ (∀ i, fr.testBit i = true → rd.testBit i = true) ∧ rd.testBit c0 = true ∧ rd.testBit c1 = true ∧ (∀ a b, a < A 0 * A 1 → b < A 0 * A 1 → rd.testBit a = true → fr.testBit a = false → far (mc A a) (mc A b) ≤ r → b ≠ cw → rd.testBit b = true) ∧ (fr = 0 ∨ rn + 1 ≤ cnt (fun i => rd.testBit i) (A 0 * A 1))
theorem bits_lt {a n : Nat} (h : ∀ i, n ≤ i → a.testBit i = false) : a < 2 ^ n := Nat.lt_pow_two_of_testBit a (fun i hi => h i hi)
theorem ldI_closed {rd rn : Nat} (h : ldI A r cw c0 c1 rd 0 rn) : ∀ n i, Cr A r cw c0 c1 n i → rd.testBit i = true
  | 0, i, q => by
    rcases q with q | q
    · rw [q]; exact h.2.2.2.1
    · rw [q]; exact h.2.2.2.2.1
  | n + 1, i, q => by
    obtain ⟨a, ha, q1, q2, q3, q4⟩ := q
    exact h.2.2.2.2.2.1 a i ha q3 (ldI_closed h n a q1) (Nat.zero_testBit a) q2 q4
theorem ldI_step {rd fr fd rn : Nat} (h : ldI A r cw c0 c1 rd fr rn) (hf : fr ≠ 0) (hfd : ∀ o, o < A 0 * A 1 → (fd.testBit o = true ↔ ∃ c, c < A 0 * A 1 ∧ fr.testBit c = true ∧ far (mc A c) (mc A o) ≤ r)) (hfn : ∀ o, A 0 * A 1 ≤ o → fd.testBit o = false) : ldI A r cw c0 c1 (rd ||| bdif (bdif fd rd) (2 ^ cw)) (bdif (bdif fd rd) (2 ^ cw)) (rn + 1) := by
  obtain ⟨h1, h2, h3, h4, h5, h6, h7⟩ := h
  have hb : ∀ i, (bdif (bdif fd rd) (2 ^ cw)).testBit i = (fd.testBit i && !rd.testBit i && !decide (cw = i)) := fun i => by
    rw [bdif_bit, bdif_bit, Nat.testBit_two_pow]
  refine ⟨?_, ?_, ?_, ?_, ?_, ?_, ?_⟩
  · intro i hi
    rw [Nat.testBit_or, h1 i hi, hb, hfn i hi]; rfl
  · intro i hi
    rw [Nat.testBit_or, hb] at hi
    by_cases q : rd.testBit i = true
    · exact h2 i q
    · rw [(Bool.not_eq_true _).mp q, Bool.false_or] at hi
      have hin : i < A 0 * A 1 := by
        rcases Nat.lt_or_ge i (A 0 * A 1) with z | z
        · exact z
        · rw [hfn i z] at hi; simp at hi
      have hfi : fd.testBit i = true := by
        cases z : fd.testBit i
        · rw [z] at hi; simp at hi
        · rfl
      have hcw : i ≠ cw := by
        intro z
        rw [z, decide_eq_true rfl] at hi
        simp at hi
      obtain ⟨e, e1, e2, e3⟩ := (hfd i hin).mp hfi
      obtain ⟨n, hn⟩ := h2 e (h3 e e2)
      exact ⟨n + 1, e, e1, hn, e3, hin, hcw⟩
  · intro i hi; rw [Nat.testBit_or, hi, Bool.or_true]
  · rw [Nat.testBit_or, h4]; rfl
  · rw [Nat.testBit_or, h5]; rfl
  · intro a b ha hbn q1 q2 q3 q4
    rw [Nat.testBit_or, q2, Bool.or_false] at q1
    rw [Nat.testBit_or]
    by_cases z : fr.testBit a = true
    · by_cases y : rd.testBit b = true
      · rw [y]; rfl
      · rw [hb, (hfd b hbn).mpr ⟨a, ha, z, q3⟩, (Bool.not_eq_true _).mp y, decide_eq_false (fun k => q4 k.symm)]
        rfl
    · rw [h6 a b ha hbn q1 ((Bool.not_eq_true _).mp z) q3 q4]; rfl
  · by_cases z : bdif (bdif fd rd) (2 ^ cw) = 0
    · exact Or.inl z
    · right
      have hc := h7.resolve_left hf
      obtain ⟨i, hi⟩ : ∃ i, (bdif (bdif fd rd) (2 ^ cw)).testBit i = true := Nat.exists_testBit_of_ne_zero z
      rw [hb] at hi
      have hin : i < A 0 * A 1 := by
        rcases Nat.lt_or_ge i (A 0 * A 1) with y | y
        · exact y
        · rw [hfn i y] at hi; simp at hi
      have hri : rd.testBit i = false := by
        cases y : rd.testBit i
        · rfl
        · rw [y] at hi; simp at hi
      have hgt : ∀ (f1 f2 : Nat → Bool) (n : Nat), (∀ j, f1 j = true → f2 j = true) → ∀ i, i < n → f1 i = false → f2 i = true → cnt f1 n + 1 ≤ cnt f2 n := by
        intro f1 f2 n hm
        have hle : ∀ n, cnt f1 n ≤ cnt f2 n := by
          intro n
          induction n with
          | zero => exact Nat.le_refl _
          | succ n ihn =>
            rw [cnt_succ, cnt_succ]
            by_cases y : f1 n = true
            · rw [if_pos y, if_pos (hm n y)]; omega
            · rw [if_neg y]; omega
        induction n with
        | zero => intro i hi; exact absurd hi (Nat.not_lt_zero i)
        | succ n ihn =>
          intro i hi e1 e2
          rw [cnt_succ, cnt_succ]
          by_cases y : i = n
          · subst y
            rw [if_neg (by rw [e1]; simp), if_pos e2]
            have := hle i; omega
          · have := ihn i (by omega) e1 e2
            by_cases y2 : f1 n = true
            · rw [if_pos y2, if_pos (hm n y2)]; omega
            · rw [if_neg y2]; omega
      have := hgt (fun i => rd.testBit i) (fun i => (rd ||| bdif (bdif fd rd) (2 ^ cw)).testBit i) (A 0 * A 1) (fun j hj => by rw [Nat.testBit_or]; have hj2 : rd.testBit j = true := hj; rw [hj2]; rfl) i hin hri (by rw [Nat.testBit_or, hb, hi, Bool.or_true])
      omega
/-- what is found beside the fresh ones -/
def fnd (A : AS) (r fr : Nat) : Nat → Nat
  | 0 => 0
  | c + 1 => if fr.testBit c = true then fnd A r fr c ||| nbr A r c (A 0 * A 1) else fnd A r fr c
theorem fnd_bit {fr : Nat} : ∀ n o, (fnd A r fr n).testBit o = true ↔ o < A 0 * A 1 ∧ ∃ c, c < n ∧ fr.testBit c = true ∧ far (mc A c) (mc A o) ≤ r
  | 0, o => by
    constructor
    · intro h; unfold fnd at h; simp at h
    · rintro ⟨-, c, hc, -⟩; exact absurd hc (Nat.not_lt_zero c)
  | n + 1, o => by
    have ih := fnd_bit (fr := fr) n o
    unfold fnd
    by_cases g : fr.testBit n = true
    · rw [if_pos g, Nat.testBit_or, Bool.or_eq_true, ih]
      unfold nbr
      rw [msk_bit, Bool.and_eq_true, decide_eq_true_iff, decide_eq_true_iff]
      constructor
      · rintro (⟨q, c, q1, q2⟩ | ⟨q1, q2⟩)
        · exact ⟨q, c, by omega, q2⟩
        · exact ⟨q1, n, by omega, g, q2⟩
      · rintro ⟨q, c, q1, q2, q3⟩
        by_cases z : c = n
        · subst z; exact Or.inr ⟨q, q3⟩
        · exact Or.inl ⟨q, c, by omega, q2, q3⟩
    · rw [if_neg g, ih]
      constructor
      · rintro ⟨q, c, q1, q2⟩; exact ⟨q, c, by omega, q2⟩
      · rintro ⟨q, c, q1, q2, q3⟩
        refine ⟨q, c, ?_, q2, q3⟩
        by_cases z : c = n
        · subst z; exact absurd q2 g
        · omega
theorem fnd_lt {fr n : Nat} (hW : WFA A) : fnd A r fr n < 2 ^ 30 := by
  refine Nat.lt_of_lt_of_le (bits_lt (n := A 0 * A 1) (fun i hi => ?_)) (Nat.pow_le_pow_right (by omega) hW.c30)
  cases h : (fnd A r fr n).testBit i
  · rfl
  · have := ((fnd_bit n i).mp h).1; omega
end LD
