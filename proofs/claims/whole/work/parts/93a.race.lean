/-! Races, by themselves. -/
def iI (v : Int) : Int32 := Int32.ofInt v
theorem iI_toInt {v : Int} (h1 : -1073741824 ≤ v) (h2 : v ≤ 1073741823) : (iI v).toInt = v := Int32.toInt_ofInt_of_le (by omega) (by omega)
theorem iI_lt {a b : Int} (a1 : -1073741824 ≤ a) (a2 : a ≤ 1073741823) (b1 : -1073741824 ≤ b) (b2 : b ≤ 1073741823) : (iI a < iI b) = (a < b) := by
  apply propext
  rw [Int32.lt_iff_toInt_lt, iI_toInt a1 a2, iI_toInt b1 b2]
theorem iI_le {a b : Int} (a1 : -1073741824 ≤ a) (a2 : a ≤ 1073741823) (b1 : -1073741824 ≤ b) (b2 : b ≤ 1073741823) : (iI a ≤ iI b) = (a ≤ b) := by
  apply propext
  rw [Int32.le_iff_toInt_le, iI_toInt a1 a2, iI_toInt b1 b2]
theorem iI_eq {a b : Int} (a1 : -1073741824 ≤ a) (a2 : a ≤ 1073741823) (b1 : -1073741824 ≤ b) (b2 : b ≤ 1073741823) : (iI a = iI b) = (a = b) := by
  apply propext
  rw [← Int32.toInt_inj, iI_toInt a1 a2, iI_toInt b1 b2]
theorem iI_neg {v : Int} : -(iI v) = iI (-v) := (Int32.ofInt_neg v).symm
theorem iI_nat (n : Nat) : nI n = iI (n : Int) := Int32.ofInt_eq_ofNat.symm
theorem iI_sub {a b : Int} : iI a - iI b = iI (a - b) := (Int32.ofInt_sub a b).symm
theorem iI_max {a b : Int} (a1 : -1073741824 ≤ a) (a2 : a ≤ 1073741823) (b1 : -1073741824 ≤ b) (b2 : b ≤ 1073741823) : mxI (iI a) (iI b) = iI (max a b) := by
  unfold mxI
  have e := iI_lt a1 a2 b1 b2
  by_cases h : a < b
  · rw [if_pos (e ▸ h)]; congr 1; omega
  · rw [if_neg (e ▸ h)]; congr 1; omega
theorem iI_m6 : (-1000000 : Int32) = iI (-1000000) := by decide +kernel
theorem iI_p6 : nI 1000000 = iI 1000000 := by decide +kernel
abbrev RB : Type := Option (Int × Nat)
def updR (b : RB) (x : Int) (t : Nat) : RB := match b with
  | none => some (x, t)
  | some q => if x ≤ q.1 then some q else some (x, t)
def mvR (b : RB) : Int := match b with
  | none => -1000000
  | some q => q.1
def woA (A : AS) (w : Nat) : Int := if wI A w 6 = 1 then 50 else (wayW A w : Int)
noncomputable def rvG (rec : AS → Int) (A : AS) (w p : Nat) (b : RB) (c : Nat) : RB := if canB A w p c = true then updR b (-(rec (stpA A w p c))) (30 * p + c) else b
noncomputable def rvB (rec : AS → Int) (A : AS) (w : Nat) : RB := updR (mfG (rvG rec A w 1) (mfG (rvG rec A w 0) none A 30) A 30) (-(rec A)) 60
noncomputable def rvN : Nat → Nat → Nat → AS → Int
  | 0, w, v, A => woA A v - woA A w
  | n + 1, w, v, A => mvR (rvB (rvN n v w) A w)
def BDr (b : RB) : Prop := ∀ q, b = some q → -102 ≤ q.1 ∧ q.1 ≤ 102 ∧ q.2 ≤ 60
theorem mv_upd {b : RB} {x : Int} {t : Nat} (hx : -1000000 ≤ x) : mvR (updR b x t) = max (mvR b) x := by
  cases b with
  | none => show x = max (-1000000) x; omega
  | some q =>
    show mvR (if x ≤ q.1 then some q else some (x, t)) = max q.1 x
    by_cases h : x ≤ q.1
    · rw [if_pos h]; show q.1 = _; omega
    · rw [if_neg h]; show x = _; omega
theorem BDr.upd {b : RB} {x : Int} {t : Nat} (h : BDr b) (h1 : -102 ≤ x) (h2 : x ≤ 102) (ht : t ≤ 60) : BDr (updR b x t) := by
  have base : ∀ q, some (x, t) = some q → -102 ≤ q.1 ∧ q.1 ≤ 102 ∧ q.2 ≤ 60 := by
    intro q hq; cases hq; exact ⟨h1, h2, ht⟩
  intro q hq
  cases b with
  | none => exact base q hq
  | some r =>
    have hr := h r rfl
    unfold updR at hq
    dsimp only at hq
    split at hq
    · cases hq; exact hr
    · exact base q hq
theorem BDr.mv {b : RB} (h : BDr b) : -1000000 ≤ mvR b ∧ mvR b ≤ 102 := by
  cases b with
  | none => exact ⟨by show (-1000000 : Int) ≤ -1000000; omega, by show (-1000000 : Int) ≤ 102; omega⟩
  | some q => have := h q rfl; exact ⟨by show -1000000 ≤ q.1; omega, by show q.1 ≤ 102; omega⟩
theorem wo_bd {k : Nat} {A : AS} {w : Nat} (h : GK k A) (hw : w < A 2) : 0 ≤ woA A w ∧ woA A w ≤ 101 := by
  have := wayW_lt h.1 hw
  unfold woA
  split <;> omega
theorem upd_some (b : RB) (x : Int) (t : Nat) : ∃ q, updR b x t = some q := by
  cases b with
  | none => exact ⟨_, rfl⟩
  | some q =>
    unfold updR
    dsimp only
    split
    · exact ⟨_, rfl⟩
    · exact ⟨_, rfl⟩
theorem rvG_bd {k : Nat} {A : AS} {w p : Nat} {rec : AS → Int} (h : GK k A) (hk : k < 90) (hw : w < A 2) (hp : p < 2) (hr : ∀ A', GK (k + 1) A' → (∀ j, keepL j → A' j = A j) → -102 ≤ rec A' ∧ rec A' ≤ 102) {b : RB} {c : Nat} (hb : BDr b) (hc : c < 30) (hh : hereB A c = true) : BDr (rvG rec A w p b c) := by
  unfold rvG
  split
  · rename_i z
    obtain ⟨g1, g2, -⟩ := h.step hk hw hp hh z
    have := hr _ g1 g2
    exact hb.upd (by omega) (by omega) (by omega)
  · exact hb
theorem rv_bd : ∀ (n k : Nat) (A : AS) (w v : Nat), GK k A → k + n < 90 → w < A 2 → v < A 2 → -102 ≤ rvN n w v A ∧ rvN n w v A ≤ 102
  | 0, k, A, w, v, h, _, hw, hv => by
    have := wo_bd h hw
    have := wo_bd h hv
    show -102 ≤ woA A v - woA A w ∧ woA A v - woA A w ≤ 102
    omega
  | n + 1, k, A, w, v, h, hk, hw, hv => by
    have hr : ∀ A', GK (k + 1) A' → (∀ j, keepL j → A' j = A j) → -102 ≤ rvN n v w A' ∧ rvN n v w A' ≤ 102 := by
      intro A' g1 g2
      have e2 := g2 2 (Or.inl (by omega))
      exact rv_bd n (k + 1) A' v w g1 (by omega) (by omega) (by omega)
    have h0 := hr A h.up (fun _ _ => rfl)
    have hb : BDr (rvB (rvN n v w) A w) := by
      refine BDr.upd ?_ (by omega) (by omega) (by omega)
      refine mfG_all BDr ?_ 30 (fun b c hb hc hh => rvG_bd h (by omega) hw (by omega) hr hb hc hh)
      exact mfG_all BDr (fun q hq => by cases hq) 30 (fun b c hb hc hh => rvG_bd h (by omega) hw (by omega) hr hb hc hh)
    show -102 ≤ mvR (rvB (rvN n v w) A w) ∧ mvR (rvB (rvN n v w) A w) ≤ 102
    obtain ⟨q, hq⟩ : ∃ q, rvB (rvN n v w) A w = some q := upd_some _ _ _
    rw [hq]
    have := hb q hq
    exact ⟨this.1, this.2.1⟩
/-- what a search within bounds may answer -/
def ABr (a b r V : Int) : Prop := (r ≤ a ∧ V ≤ r) ∨ (a < r ∧ r < b ∧ V = r) ∨ (b ≤ r ∧ r ≤ V)
theorem ab_step {a b r y x : Int} {t : Nat} {B : RB} (h : ABr a b r (mvR B)) (hr : r < b) (ha : a < b) (hc : ABr (-b) (-(max a r)) y x) (hx : -1000000 ≤ -x) : ABr a b (if r < -y then -y else r) (mvR (updR B (-x) t)) := by
  rw [mv_upd hx]
  unfold ABr at *
  generalize mvR B = M at *
  split <;> omega
theorem ab_stop {a b r : Int} {V V2 : Int} (h : ABr a b r V) (ha : a < b) (hr : ¬ r < b) (hm : V ≤ V2) : ABr a b r V2 := by
  unfold ABr at *
  omega
theorem ab_root {r y x : Int} {t : Nat} {B : RB} (hb : BDr B) (hr : r = mvR B) (hc : ABr (-1000000) (-(max (-1000000) r)) y x) (h1 : -102 ≤ x) (h2 : x ≤ 102) : (r < -y → updR B (-x) t = some (-y, t)) ∧ (¬ r < -y → updR B (-x) t = B) := by
  have m := hb.mv
  unfold ABr at hc
  cases B with
  | none =>
    have e : mvR (none : RB) = -1000000 := rfl
    rw [e] at hr m
    refine ⟨fun q => ?_, fun q => ?_⟩
    · show some (-x, t) = some (-y, t)
      have : -x = -y := by omega
      rw [this]
    · exfalso; omega
  | some q =>
    have e : mvR (some q) = q.1 := rfl
    rw [e] at hr m
    have bq := hb q rfl
    refine ⟨fun z => ?_, fun z => ?_⟩
    · show (if -x ≤ q.1 then some q else some (-x, t)) = some (-y, t)
      have : -x = -y := by omega
      rw [if_neg (by omega), this]
    · show (if -x ≤ q.1 then some q else some (-x, t)) = some q
      rw [if_pos (by omega)]
theorem ab_exact {r : Int} {B : RB} (hb : BDr B) (h : ABr (-1000000) 1000000 r (mvR B)) (hr : -1000000 ≤ r) : r = mvR B := by
  have m := hb.mv
  unfold ABr at h
  omega
theorem rvG_mono {k : Nat} {rec : AS → Int} {A : AS} {w p : Nat} (h : GK k A) (hk : k < 90) (hw : w < A 2) (hp : p < 2) (hr : ∀ A', GK (k + 1) A' → (∀ j, keepL j → A' j = A j) → -102 ≤ rec A' ∧ rec A' ≤ 102) {b : RB} {c : Nat} (hh : hereB A c = true) : mvR b ≤ mvR (rvG rec A w p b c) := by
  unfold rvG
  split
  · rename_i z
    obtain ⟨g1, g2, -⟩ := h.step hk hw hp hh z
    have := hr _ g1 g2
    rw [mv_upd (by omega)]
    omega
  · exact Int.le_refl _
theorem cfG_tail {α : Type} {g : α → Nat → α} {a b : α} {A : AS} {c : Nat} (h : cfG g a A c = b) (hg : ∀ j, g b j = b) : ∀ k, cfG g a A (c + k) = b
  | 0 => h
  | k + 1 => by
    show g (cfG g a A (c + k)) (mc A (c + k)) = b
    rw [cfG_tail h hg k, hg]
theorem cfG_mono {g : RB → Nat → RB} {a : RB} {A : AS} {c : Nat} : ∀ k, (∀ b j, c ≤ j → j < c + k → mvR b ≤ mvR (g b (mc A j))) → mvR (cfG g a A c) ≤ mvR (cfG g a A (c + k))
  | 0, _ => Int.le_refl _
  | k + 1, hg => Int.le_trans (cfG_mono k (fun b j h1 h2 => hg b j h1 (by omega))) (hg (cfG g a A (c + k)) (c + k) (by omega) (by omega))

