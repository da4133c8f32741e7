/-! Sets without others; how a state changes at one cell or one walker; who falls. -/
def bdif (a b : Nat) : Nat := a ^^^ (a &&& b)
theorem bdif_bit (a b i : Nat) : (bdif a b).testBit i = (a.testBit i && !b.testBit i) := by
  unfold bdif
  rw [Nat.testBit_xor, Nat.testBit_and]
  cases a.testBit i <;> cases b.testBit i <;> rfl
theorem nx_xor (a b : Nat) : nI a ^^^ nI b = nI (a ^^^ b) := by
  apply Int32.toBitVec_inj.1
  show BitVec.ofNat 32 a ^^^ BitVec.ofNat 32 b = BitVec.ofNat 32 (a ^^^ b)
  apply BitVec.eq_of_getLsbD_eq
  intro i hi
  simp [hi]
theorem i_andn (x y : Int32) : x &&& (y ^^^ -1) = x ^^^ (x &&& y) := by
  apply Int32.toBitVec_inj.1
  show x.toBitVec &&& (y.toBitVec ^^^ (-1 : Int32).toBitVec) = x.toBitVec ^^^ (x.toBitVec &&& y.toBitVec)
  have e : (-1 : Int32).toBitVec = BitVec.allOnes 32 := by decide
  rw [e]
  apply BitVec.eq_of_getLsbD_eq
  intro i hi
  rw [BitVec.getLsbD_and, BitVec.getLsbD_xor, BitVec.getLsbD_xor, BitVec.getLsbD_and, BitVec.getLsbD_allOnes, decide_eq_true hi]
  cases x.toBitVec.getLsbD i <;> cases y.toBitVec.getLsbD i <;> rfl
theorem nx_andn (a b : Nat) : nI a &&& (nI b ^^^ -1) = nI (bdif a b) := by
  rw [i_andn, nx_and2, nx_xor]
  rfl
theorem bdif_lt {a b n : Nat} (h : a < 2 ^ n) : bdif a b < 2 ^ n := by
  apply Nat.lt_pow_two_of_testBit
  intro i hi
  rw [bdif_bit, Nat.testBit_lt_two_pow (Nat.lt_of_lt_of_le h (Nat.pow_le_pow_right (by omega) hi))]
  rfl
theorem msk_set {f g : Nat → Bool} {n c : Nat} (hc : c < n) (h1 : g c = true) (h2 : ∀ i, i ≠ c → g i = f i) : msk g n = msk f n ||| 2 ^ c := by
  apply Nat.eq_of_testBit_eq
  intro i
  rw [Nat.testBit_or, msk_bit, msk_bit, Nat.testBit_two_pow]
  by_cases h : i = c
  · subst h; simp [hc, h1]
  · rw [h2 i h]
    have : decide (c = i) = false := decide_eq_false (fun q => h q.symm)
    simp [this]
theorem msk_clr {f g : Nat → Bool} {n c : Nat} (h1 : g c = false) (h2 : ∀ i, i ≠ c → g i = f i) : msk g n = bdif (msk f n) (2 ^ c) := by
  apply Nat.eq_of_testBit_eq
  intro i
  rw [bdif_bit, msk_bit, msk_bit, Nat.testBit_two_pow]
  by_cases h : i = c
  · subst h; simp [h1]
  · rw [h2 i h]
    have : decide (c = i) = false := decide_eq_false (fun q => h q.symm)
    simp [this]
/-- what must hold of a cell, of a walker -/
def cOK (B : AS) (c : Nat) : Prop := cI B c 0 ≤ cI B c 1 ∧ cI B c 1 ≤ 99 ∧ cI B c 2 ≤ 9 ∧ cI B c 3 ≤ 30 ∧ cI B c 4 ≤ 16 ∧ cI B c 5 ≤ 1 ∧ (hereB B c = false → cI B c 0 = cI B c 1 ∧ cI B c 5 = 0)
def wOK (B : AS) (w : Nat) : Prop := (1 ≤ wI B w 0 ∧ wI B w 0 ≤ 20) ∧ (1 ≤ wI B w 1 ∧ wI B w 1 ≤ 3) ∧ (1 ≤ wI B w 2 ∧ wI B w 2 ≤ 30) ∧ wI B w 3 ≤ 20 ∧ (wI B w 4 < B 0 ∧ wI B w 5 < B 1) ∧ wI B w 6 ≤ 1 ∧ ∀ p, p < 2 → (pI B w p 0 < B 0 ∧ pI B w p 1 < B 1) ∧ pI B w p 2 ≤ 30 ∧ (¬ wI B w 6 = 1 → pI B w p 2 < wI B w 2)
theorem WFA.cOk {A : AS} (h : WFA A) {c : Nat} (hc : c < 30) : cOK A c := ⟨h.sk c hc, h.wh c hc, h.so c hc, h.de c hc, h.od c hc, h.fi c hc, h.nh c hc⟩
theorem WFA.wOk {A : AS} (h : WFA A) {w : Nat} (hw : w < A 2) : wOK A w := ⟨h.we w hw, h.re w hw, h.lo w hw, h.ld w hw, h.to w hw, h.fa w hw, fun p hp => ⟨h.po w hw p hp, h.su w hw p hp, h.sl w hw p hp⟩⟩
theorem WFA.of {B : AS} (hs : smallA B) (w0 : B 0 ≤ 6) (w1 : B 1 ≤ 5) (n : B 2 ≤ 4) (m : B 3 ≤ 9) (z0 : B 0 = 0 → B 2 = 0 ∧ B 1 = 0) (z1 : B 1 = 0 → B 2 = 0 ∧ B 0 = 0) (hc : ∀ c, c < 30 → cOK B c) (hw : ∀ w, w < B 2 → wOK B w) (hu : ∀ w, B 2 ≤ w → w < 4 → ∀ k, k < 14 → wI B w k = 0) : WFA B :=
  WFA.mk hs w0 w1 n m z0 z1 (fun c q => (hc c q).1) (fun c q => (hc c q).2.1) (fun c q => (hc c q).2.2.1) (fun c q => (hc c q).2.2.2.1) (fun c q => (hc c q).2.2.2.2.1) (fun c q => (hc c q).2.2.2.2.2.1) (fun c q => (hc c q).2.2.2.2.2.2) (fun w q => (hw w q).1) (fun w q => (hw w q).2.1) (fun w q => (hw w q).2.2.1) (fun w q => (hw w q).2.2.2.1) (fun w q => (hw w q).2.2.2.2.1) (fun w q => (hw w q).2.2.2.2.2.1) (fun w q p hp => ((hw w q).2.2.2.2.2.2 p hp).1) (fun w q p hp => ((hw w q).2.2.2.2.2.2 p hp).2.1) (fun w q p hp => ((hw w q).2.2.2.2.2.2 p hp).2.2) hu
theorem cOK_fr {A B : AS} {c : Nat} (h : cOK A c) (e0 : B 0 = A 0) (e1 : B 1 = A 1) (he : ∀ k, k < 6 → B (6 + 6 * c + k) = A (6 + 6 * c + k)) : cOK B c := by
  unfold cOK cI hereB at *
  rw [e0, e1, he 0 (by omega), he 1 (by omega), he 2 (by omega), he 3 (by omega), he 4 (by omega), he 5 (by omega)]
  exact h
theorem wOK_fr {A B : AS} {w : Nat} (h : wOK A w) (e0 : B 0 = A 0) (e1 : B 1 = A 1) (he : ∀ k, k < 14 → B (186 + 14 * w + k) = A (186 + 14 * w + k)) : wOK B w := by
  have ep : ∀ p k, p < 2 → k < 3 → pI B w p k = pI A w p k := fun p k hp hk => by
    have := he (8 + 3 * p + k) (by omega)
    unfold pI
    rw [show 186 + 14 * w + 8 + 3 * p + k = 186 + 14 * w + (8 + 3 * p + k) by omega]
    exact this
  have ew : ∀ k, k < 14 → wI B w k = wI A w k := he
  obtain ⟨a1, a2, a3, a4, a5, a6, a7⟩ := h
  unfold wOK
  rw [e0, e1, ew 0 (by omega), ew 1 (by omega), ew 2 (by omega), ew 3 (by omega), ew 4 (by omega), ew 5 (by omega), ew 6 (by omega)]
  refine ⟨a1, a2, a3, a4, a5, a6, fun p hp => ?_⟩
  rw [ep p 0 hp (by omega), ep p 1 hp (by omega), ep p 2 hp (by omega)]
  exact a7 p hp
theorem WFA.cell {A B : AS} (h : WFA A) {c0 : Nat} (hs : smallA B) (hB : ∀ j, ¬ (6 + 6 * c0 ≤ j ∧ j < 12 + 6 * c0) → B j = A j) (h0 : c0 < 30) (hc : cOK B c0) : WFA B := by
  have e : ∀ j, j < 6 → B j = A j := fun j hj => hB j (by omega)
  have e0 := e 0 (by omega)
  have e1 := e 1 (by omega)
  have e2 := e 2 (by omega)
  have e3 := e 3 (by omega)
  refine WFA.of hs (by rw [e0]; exact h.w0) (by rw [e1]; exact h.w1) (by rw [e2]; exact h.n) (by rw [e3]; exact h.m) (by rw [e0, e1, e2]; exact h.z0) (by rw [e0, e1, e2]; exact h.z1) ?_ ?_ ?_
  · intro c q
    by_cases g : c = c0
    · rw [g]; exact hc
    · exact cOK_fr (h.cOk q) e0 e1 (fun k hk => hB _ (by omega))
  · rw [e2]; intro w q
    exact wOK_fr (h.wOk q) e0 e1 (fun k hk => hB _ (by omega))
  · rw [e2]; intro w q1 q2 k hk
    have : wI B w k = wI A w k := hB _ (by omega)
    rw [this]; exact h.un w q1 q2 k hk
theorem WFA.walk {A B : AS} (h : WFA A) {w0 : Nat} (hs : smallA B) (hB : ∀ j, ¬ (186 + 14 * w0 ≤ j ∧ j < 200 + 14 * w0) → B j = A j) (h0 : w0 < A 2) (hw : wOK B w0) : WFA B := by
  have e : ∀ j, j < 6 → B j = A j := fun j hj => hB j (by omega)
  have e0 := e 0 (by omega)
  have e1 := e 1 (by omega)
  have e2 := e 2 (by omega)
  have e3 := e 3 (by omega)
  refine WFA.of hs (by rw [e0]; exact h.w0) (by rw [e1]; exact h.w1) (by rw [e2]; exact h.n) (by rw [e3]; exact h.m) (by rw [e0, e1, e2]; exact h.z0) (by rw [e0, e1, e2]; exact h.z1) ?_ ?_ ?_
  · intro c q
    exact cOK_fr (h.cOk q) e0 e1 (fun k hk => hB _ (by omega))
  · rw [e2]; intro w q
    by_cases g : w = w0
    · rw [g]; exact hw
    · exact wOK_fr (h.wOk q) e0 e1 (fun k hk => hB _ (by omega))
  · rw [e2]; intro w q1 q2 k hk
    have : wI B w k = wI A w k := hB _ (by omega)
    rw [this]; exact h.un w q1 q2 k hk
/-! who falls -/
theorem bearA_6 {A : AS} {w p u v : Nat} (hc : pcl A w p < 30) (hp : p < 2) : wI (bearA A w p u) v 6 = wI A v 6 := by
  unfold bearA
  split
  · rfl
  · split
    · unfold wI; exact va_up_ne _ _ (by omega)
    · split
      · unfold wI; exact va_up_ne _ _ (by omega)
      · rfl
theorem mv_6 {A : AS} {al s v : Nat} (hc : pcl A (s / 2) (s % 2) < 30) : wI (mvS al A s) v 6 = if mvF al A s = true ∧ v = s / 2 then 1 else wI A v 6 := by
  have hp : s % 2 < 2 := Nat.mod_lt _ (by omega)
  unfold mvS mvF
  by_cases h1 : wI A (s / 2) 6 = 1 ∨ s = al
  · rw [if_pos h1]; simp [h1]
  · rw [if_neg h1]
    by_cases h2 : bearF A (s / 2) (s % 2) (much A al (s / 2)) = true
    · rw [if_pos h2]
      by_cases h3 : v = s / 2
      · subst h3
        simp [h1, h2]
        unfold wI
        exact va_up_self _ _ _
      · simp [h3]
        have : wI (va_up (bearA A (s / 2) (s % 2) (much A al (s / 2))) (186 + 14 * (s / 2) + 6) 1) v 6 = wI (bearA A (s / 2) (s % 2) (much A al (s / 2))) v 6 := by
          unfold wI; exact va_up_ne _ _ (by omega)
        rw [this, bearA_6 hc hp]
    · rw [if_neg h2, bearA_6 hc hp]
      simp [h2]
theorem fall_bear {A : AS} (hW : WFA A) {al : Nat} : ∀ s, s ≤ 2 * A 2 → ∀ v, v < A 2 → (wI (bearN al A s) v 6 = 1 ↔ (wI A v 6 = 1 ∨ (setN al A s).testBit v = true)) ∧ ((setN al A s).testBit v = true → ¬ wI A v 6 = 1)
  | 0, _, v, _ => by unfold bearN setN; simp
  | s + 1, hs, v, hv => by
    obtain ⟨i1, i2⟩ := fall_bear hW (al := al) s (by omega) v hv
    have hn := hW.n
    have hkp := bearN_keep (al := al) hW.pcl30 s (by omega)
    have hpc : pcl (bearN al A s) (s / 2) (s % 2) < 30 := by
      rw [pcl_keep hkp (by omega) (Nat.mod_lt _ (by omega))]
      exact hW.pcl30 _ _ (by omega) (Nat.mod_lt _ (by omega))
    have e1 : bearN al A (s + 1) = mvS al (bearN al A s) s := rfl
    have e2 : setN al A (s + 1) = if mvF al (bearN al A s) s = true then setN al A s ||| 2 ^ (s / 2) else setN al A s := rfl
    rw [e1, e2, mv_6 hpc]
    by_cases h1 : mvF al (bearN al A s) s = true
    · rw [if_pos h1, Nat.testBit_or, Nat.testBit_two_pow]
      by_cases h2 : v = s / 2
      · have hnf : ¬ wI (bearN al A s) v 6 = 1 := by
          unfold mvF at h1
          rw [Bool.and_eq_true, decide_eq_true_iff] at h1
          rw [h2]
          exact fun q => h1.1 (Or.inl q)
        rw [i1] at hnf
        rw [if_pos ⟨h1, h2⟩]
        have h3 : ¬ wI A v 6 = 1 := fun q => hnf (Or.inl q)
        simp [h2]
        rw [← h2]
        exact h3
      · rw [if_neg (fun q => h2 q.2)]
        have : decide (s / 2 = v) = false := decide_eq_false (fun q => h2 q.symm)
        rw [this, Bool.or_false]
        exact ⟨i1, i2⟩
    · rw [if_neg h1, if_neg (fun q => h1 q.1)]
      exact ⟨i1, i2⟩
theorem setN_hi {A : AS} {al v : Nat} : ∀ s, s ≤ 2 * v → (setN al A s).testBit v = false
  | 0, _ => by unfold setN; simp
  | s + 1, hs => by
    have ih := setN_hi (A := A) (al := al) (v := v) s (by omega)
    show (if mvF al (bearN al A s) s = true then setN al A s ||| 2 ^ (s / 2) else setN al A s).testBit v = false
    split
    · rw [Nat.testBit_or, ih, Nat.testBit_two_pow]
      have : decide (s / 2 = v) = false := decide_eq_false (by omega)
      rw [this]; rfl
    · exact ih
theorem mom_6 {A : AS} {al v : Nat} : wI (momA al A) v 6 = wI (bearN al A (2 * A 2)) v 6 := by
  unfold momA
  have h1 : wI (va_up (mendN al (bearN al A (2 * A 2)) 30) 4 (mendN al (bearN al A (2 * A 2)) 30 4 + 1)) v 6 = wI (mendN al (bearN al A (2 * A 2)) 30) v 6 := by
    unfold wI; exact va_up_ne _ _ (by omega)
  rw [h1]
  unfold wI
  exact mendN_w 30 (Nat.le_refl _) _ (by omega)
theorem fall_mom {A : AS} (hW : WFA A) {al : Nat} : flm (momA al A) = flm A ||| setN al A (2 * A 2) ∧ bdif (flm (momA al A)) (flm A) = setN al A (2 * A 2) := by
  have e2 : momA al A 2 = A 2 := momA_keep hW.n hW.pcl30 2 (Or.inl (by omega))
  have hb : ∀ i, (flm (momA al A)).testBit i = ((flm A).testBit i || (setN al A (2 * A 2)).testBit i) ∧ ((setN al A (2 * A 2)).testBit i = true → (flm A).testBit i = false) := by
    intro i
    unfold flm
    rw [e2, msk_bit, msk_bit, mom_6]
    by_cases h : i < A 2
    · obtain ⟨j1, j2⟩ := fall_bear hW (al := al) (2 * A 2) (Nat.le_refl _) i h
      simp only [h, decide_true, Bool.true_and]
      constructor
      · rw [Bool.eq_iff_iff, Bool.or_eq_true, decide_eq_true_iff, decide_eq_true_iff]
        exact j1
      · intro q; exact decide_eq_false (j2 q)
    · rw [setN_hi (2 * A 2) (by omega)]
      simp [h]
  constructor
  · apply Nat.eq_of_testBit_eq
    intro i
    rw [Nat.testBit_or]; exact (hb i).1
  · apply Nat.eq_of_testBit_eq
    intro i
    rw [bdif_bit, (hb i).1]
    cases h1 : (setN al A (2 * A 2)).testBit i
    · cases (flm A).testBit i <;> rfl
    · rw [(hb i).2 h1]; rfl
theorem bdif_tri {a b c : Nat} (h1 : ∀ i, a.testBit i = true → b.testBit i = true) (h2 : ∀ i, b.testBit i = true → c.testBit i = true) : bdif b a ||| bdif c b = bdif c a := by
  apply Nat.eq_of_testBit_eq
  intro i
  rw [Nat.testBit_or, bdif_bit, bdif_bit, bdif_bit]
  have g1 := h1 i
  have g2 := h2 i
  revert g1 g2
  cases a.testBit i <;> cases b.testBit i <;> cases c.testBit i <;> simp
theorem flm_mono {A : AS} (hW : WFA A) {al i : Nat} (h : (flm A).testBit i = true) : (flm (momA al A)).testBit i = true := by
  rw [(fall_mom hW).1, Nat.testBit_or, h]; rfl
theorem sfe_is : ∀ (n : Nat) (A : AS), WFA A → A 4 + n < 999999 → sfe n A = bdif (flm (momN 99 n A)) (flm A) ∧ ∀ i, (flm A).testBit i = true → (flm (momN 99 n A)).testBit i = true
  | 0, A, _, _ => by
    refine ⟨?_, fun i h => h⟩
    apply Nat.eq_of_testBit_eq
    intro i
    rw [bdif_bit]
    show (0 : Nat).testBit i = ((flm A).testBit i && !(flm A).testBit i)
    simp
  | n + 1, A, hW, h4 => by
    have e4 : momA 99 A 4 = A 4 + 1 := momA_4 hW.n hW.pcl30
    obtain ⟨i1, i2⟩ := sfe_is n (momA 99 A) (hW.mom (by omega)) (by omega)
    have e1 : momN 99 (n + 1) A = momN 99 n (momA 99 A) := rfl
    have e2 : sfe (n + 1) A = setN 99 A (2 * A 2) ||| sfe n (momA 99 A) := rfl
    rw [e1, e2, i1, ← (fall_mom hW).2]
    exact ⟨bdif_tri (fun i h => flm_mono hW h) i2, fun i h => i2 i (flm_mono hW h)⟩
theorem fe_is {al : Nat} : ∀ (n : Nat) (A : AS), WFA A → A 4 + n < 999999 → fe al n A = bdif (flm (lf al n A).2) (flm A) ∧ ∀ i, (flm A).testBit i = true → (flm (lf al n A).2).testBit i = true
  | 0, A, _, _ => by
    refine ⟨?_, fun i h => h⟩
    apply Nat.eq_of_testBit_eq
    intro i
    rw [bdif_bit]
    show (0 : Nat).testBit i = ((flm A).testBit i && !(flm A).testBit i)
    simp
  | n + 1, A, hW, h4 => by
    have e4 : momA al A 4 = A 4 + 1 := momA_4 hW.n hW.pcl30
    obtain ⟨i1, i2⟩ := fe_is n (momA al A) (hW.mom (by omega)) (by omega)
    unfold lf fe
    by_cases h : wI (momA al A) (al / 2) 6 = 1
    · rw [if_pos h, if_pos h]
      exact ⟨(fall_mom hW).2.symm, fun i q => flm_mono hW q⟩
    · rw [if_neg h, if_neg h, i1, ← (fall_mom hW).2]
      exact ⟨bdif_tri (fun i h => flm_mono hW h) i2, fun i h => i2 i (flm_mono hW h)⟩
