/-! The fewest steps of a way, in closed form. -/
theorem far_comm (a b : Nat) : far a b = far b a := by unfold far; omega
theorem far_self (a : Nat) : far a a = 0 := by unfold far; omega
theorem far_tri (a b c : Nat) : far a c ≤ far a b + far b c := by unfold far; omega
theorem hereB_iff {A : AS} {c : Nat} : hereB A c = true ↔ c % 6 < A 0 ∧ c / 6 < A 1 := by unfold hereB; simp
theorem far_0 {a b : Nat} (h : far a b = 0) : a = b := by unfold far at h; omega
/-- between two cells there is one at every distance -/
theorem toward {A : AS} {b g t : Nat} (h0 : A 0 ≤ 6) (hb : hereB A b = true) (hg : hereB A g = true) (ht : t ≤ far b g) : ∃ c, hereB A c = true ∧ far b c = t ∧ far c g + t = far b g := by
  rw [hereB_iff] at hb hg
  unfold far at ht
  have key : ∀ x y : Nat, x < A 0 → y < A 1 → ((b % 6 - x) + (x - b % 6)) + ((b / 6 - y) + (y - b / 6)) = t → ((x - g % 6) + (g % 6 - x)) + ((y - g / 6) + (g / 6 - y)) + t = far b g → ∃ c, hereB A c = true ∧ far b c = t ∧ far c g + t = far b g := by
    intro x y hx hy h1 h2
    have e1 : (6 * y + x) % 6 = x := by omega
    have e2 : (6 * y + x) / 6 = y := by omega
    refine ⟨6 * y + x, hereB_iff.mpr (by rw [e1, e2]; exact ⟨hx, hy⟩), ?_, ?_⟩
    · unfold far; rw [e1, e2]; exact h1
    · show far (6 * y + x) g + t = far b g
      rw [← h2]
      unfold far
      rw [e1, e2]
  unfold far at key
  by_cases c1 : t ≤ (b % 6 - g % 6) + (g % 6 - b % 6)
  · by_cases c2 : b % 6 ≤ g % 6
    · exact key (b % 6 + t) (b / 6) (by omega) (by omega) (by omega) (by omega)
    · exact key (b % 6 - t) (b / 6) (by omega) (by omega) (by omega) (by omega)
  · by_cases c2 : b / 6 ≤ g / 6
    · exact key (g % 6) (b / 6 + (t - ((b % 6 - g % 6) + (g % 6 - b % 6)))) (by omega) (by omega) (by omega) (by omega)
    · exact key (g % 6) (b / 6 - (t - ((b % 6 - g % 6) + (g % 6 - b % 6)))) (by omega) (by omega) (by omega) (by omega)
def wayF (da db r : Nat) : Nat := if da = 0 ∧ db = 0 then 0 else (min da db + r - 1) / r + 1
theorem cdiv_mono {a b r : Nat} (h : a ≤ b) : (a + r - 1) / r ≤ (b + r - 1) / r := Nat.div_le_div_right (by omega)
theorem cdiv_add {a r : Nat} (hr : 0 < r) : (a + r + r - 1) / r = (a + r - 1) / r + 1 := by
  rw [show a + r + r - 1 = (a + r - 1) + r by omega, Nat.add_div_right _ hr]
theorem cdiv_0 {r : Nat} (hr : 0 < r) : (0 + r - 1) / r = 0 := Nat.div_eq_of_lt (by omega)
theorem cdiv_1 {a r : Nat} (h0 : 0 < a) (h : a ≤ r) : (a + r - 1) / r = 1 := by
  rw [Nat.div_eq_iff (by omega)]
  omega
/-- a state of both poles: in cells, near each other -/
def vld (A : AS) (r u : Nat) : Prop := hereB A (u / 30) = true ∧ hereB A (u % 30) = true ∧ far (u / 30) (u % 30) ≤ r
theorem here30 {A : AS} {c : Nat} (h1 : A 1 ≤ 5) (h : hereB A c = true) : c < 30 := by
  rw [hereB_iff] at h; omega
/-- no path is shorter -/
theorem way_lower {A : AS} {r g : Nat} (hr : 0 < r) (h1 : A 1 ≤ 5) (hg : hereB A g = true) : ∀ (n u : Nat), Rch (EW A r 99) (31 * g) n u → vld A r u ∧ wayF (far (u / 30) g) (far (u % 30) g) r ≤ n := by
  have hg30 := here30 h1 hg
  intro n
  induction n with
  | zero =>
    intro u hu
    have hu : u = 31 * g := hu
    subst hu
    have e1 : 31 * g / 30 = g := by omega
    have e2 : 31 * g % 30 = g := by omega
    unfold vld
    rw [e1, e2, far_self]
    exact ⟨⟨hg, hg, by omega⟩, by unfold wayF; simp⟩
  | succ n ih =>
    intro u hu
    obtain ⟨v, hv, hvl, c, hc, hh, -, hcase⟩ := hu
    obtain ⟨⟨va, vb, vf⟩, hw⟩ := ih v hv
    have aux : ∀ da db dc : Nat, db ≤ da + r → dc ≤ db + r → wayF da db r ≤ n → wayF dc db r ≤ n + 1 := by
      intro da db dc k1 k2 k3
      unfold wayF at k3 ⊢
      by_cases z : dc = 0 ∧ db = 0
      · rw [if_pos z]; omega
      · rw [if_neg z]
        by_cases y : da = 0 ∧ db = 0
        · have : min dc db = 0 := by omega
          rw [this, cdiv_0 hr]; omega
        · rw [if_neg y] at k3
          have m1 : min dc db ≤ min da db + r := by omega
          have m2 := cdiv_mono (r := r) m1
          rw [cdiv_add hr] at m2
          omega
    rcases hcase with ⟨hf, rfl⟩ | ⟨hf, rfl⟩
    · have e1 : (30 * c + v % 30) / 30 = c := by omega
      have e2 : (30 * c + v % 30) % 30 = v % 30 := by omega
      unfold vld
      rw [e1, e2]
      refine ⟨⟨hh, vb, by rw [far_comm]; exact hf⟩, ?_⟩
      refine aux (far (v / 30) g) (far (v % 30) g) (far c g) ?_ ?_ hw
      · have := far_tri (v % 30) (v / 30) g; rw [far_comm (v % 30) (v / 30)] at this; omega
      · have := far_tri c (v % 30) g; rw [far_comm c (v % 30)] at this; omega
    · have e1 : (30 * (v / 30) + c) / 30 = v / 30 := by omega
      have e2 : (30 * (v / 30) + c) % 30 = c := by omega
      unfold vld
      rw [e1, e2]
      refine ⟨⟨va, hh, hf⟩, ?_⟩
      have sym : ∀ x y, wayF x y r = wayF y x r := by
        intro x y; unfold wayF; rw [Nat.min_comm]; simp only [and_comm]
      rw [sym]
      refine aux (far (v % 30) g) (far (v / 30) g) (far c g) ?_ ?_ (by rw [sym]; exact hw)
      · have := far_tri (v / 30) (v % 30) g; omega
      · have := far_tri c (v / 30) g; rw [far_comm c (v / 30)] at this; omega
/-- there is such a path -/
theorem way_upper {A : AS} {r g : Nat} (hr : 0 < r) (h0 : A 0 ≤ 6) (h1 : A 1 ≤ 5) (hg : hereB A g = true) : ∀ (n u : Nat), u < 900 → vld A r u → wayF (far (u / 30) g) (far (u % 30) g) r = n → Rch (EW A r 99) (31 * g) n u := by
  have hg30 := here30 h1 hg
  intro n
  induction n with
  | zero =>
    intro u hu hv hw
    show u = 31 * g
    unfold wayF at hw
    split at hw
    · rename_i z
      have := far_0 z.1
      have := far_0 z.2
      omega
    · exact absurd hw (Nat.succ_ne_zero _)
  | succ n ih =>
    intro u hu ⟨va, vb, vf⟩ hw
    have a30 : u / 30 < 30 := by omega
    have b30 : u % 30 < 30 := by omega
    -- the nearer pole's side
    have step : ∀ a b : Nat, hereB A a = true → hereB A b = true → far a b ≤ r → far b g ≤ far a g → wayF (far a g) (far b g) r = n + 1 → ∃ a', hereB A a' = true ∧ far a' b ≤ r ∧ wayF (far a' g) (far b g) r = n := by
      intro a b ha hb hab hle hw
      unfold wayF at hw
      split at hw
      · omega
      · rename_i z
        rw [Nat.min_eq_right hle] at hw
        by_cases zb : far b g = 0
        · have := far_0 zb
          subst this
          refine ⟨b, hb, by rw [far_self]; omega, ?_⟩
          rw [zb, cdiv_0 hr] at hw
          unfold wayF
          rw [far_self]
          simp
          omega
        · by_cases zr : far b g ≤ r
          · refine ⟨g, hg, by rw [far_comm]; exact zr, ?_⟩
            rw [cdiv_1 (by omega) zr] at hw
            unfold wayF
            rw [far_self, if_neg (fun q => zb q.2), Nat.min_eq_left (Nat.zero_le _), cdiv_0 hr]
            omega
          · obtain ⟨c, c1, c2, c3⟩ := toward h0 hb hg (show r ≤ far b g by omega)
            refine ⟨c, c1, by rw [far_comm]; omega, ?_⟩
            unfold wayF
            rw [if_neg (fun q => zb q.2), Nat.min_eq_left (by omega)]
            have e : far b g = far c g + r := by omega
            rw [e, cdiv_add hr] at hw
            omega
    by_cases hle : far (u % 30) g ≤ far (u / 30) g
    · obtain ⟨a', k1, k2, k3⟩ := step (u / 30) (u % 30) va vb vf hle hw
      have a30' := here30 h1 k1
      have e1 : (30 * a' + u % 30) / 30 = a' := by omega
      have e2 : (30 * a' + u % 30) % 30 = u % 30 := by omega
      refine ⟨30 * a' + u % 30, ih _ (by omega) ⟨by rw [e1]; exact k1, by rw [e2]; exact vb, by rw [e1, e2]; exact k2⟩ (by rw [e1, e2]; exact k3), by omega, u / 30, a30, va, by omega, Or.inl ⟨by rw [e2, far_comm]; exact vf, by rw [e2]; omega⟩⟩
    · have sym : ∀ x y, wayF x y r = wayF y x r := by
        intro x y; unfold wayF; rw [Nat.min_comm]; simp only [and_comm]
      obtain ⟨a', k1, k2, k3⟩ := step (u % 30) (u / 30) vb va (by rw [far_comm]; exact vf) (by omega) (by rw [sym]; exact hw)
      have a30' := here30 h1 k1
      have e1 : (30 * (u / 30) + a') / 30 = u / 30 := by omega
      have e2 : (30 * (u / 30) + a') % 30 = a' := by omega
      refine ⟨30 * (u / 30) + a', ih _ (by omega) ⟨by rw [e1]; exact va, by rw [e2]; exact k1, by rw [e1, e2, far_comm]; exact k2⟩ (by rw [e1, e2, sym]; exact k3), by omega, u % 30, b30, vb, by omega, Or.inr ⟨by rw [e1]; exact vf, by rw [e1]; omega⟩⟩
theorem way_D {A : AS} {r g u x : Nat} (hr : 0 < r) (h0 : A 0 ≤ 6) (h1 : A 1 ≤ 5) (hg : hereB A g = true) (hu : u < 900) (hv : vld A r u) (h : (x = FARN ∧ ∀ n, ¬ Rch (EW A r 99) (31 * g) n u) ∨ (x < FARN ∧ LD (EW A r 99) (31 * g) u x)) : x = wayF (far (u / 30) g) (far (u % 30) g) r := by
  have up := way_upper hr h0 h1 hg _ u hu hv rfl
  rcases h with ⟨-, h⟩ | ⟨-, h2, h3⟩
  · exact absurd up (h _)
  · have lo := (way_lower hr h1 hg x u h2).2
    rcases Nat.lt_or_ge (wayF (far (u / 30) g) (far (u % 30) g) r) x with q | q
    · exact absurd up (h3 _ q)
    · omega
