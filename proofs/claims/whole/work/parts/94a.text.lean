/-! Texts: bytes, tokens, words. -/
def run (P : Nat → Bool) (B : Nat → Nat) (n : Nat) : Nat → Nat → Nat
  | 0, p => p
  | f + 1, p => if p < n ∧ P (B p) = true then run P B n f (p + 1) else p
def rn (P : Nat → Bool) (B : Nat → Nat) (n p : Nat) : Nat := run P B n (n - p) p
def isBl (b : Nat) : Bool := decide (b = 32) || decide (b = 10)
def isLe (b : Nat) : Bool := decide (97 ≤ b) && decide (b ≤ 122)
def isDi (b : Nat) : Bool := decide (48 ≤ b) && decide (b ≤ 57)
def isSi (b : Nat) : Bool := decide (b = 59) || decide (b = 60) || decide (b = 62) || decide (b = 61)
theorem rn_eq (P : Nat → Bool) (B : Nat → Nat) (n p : Nat) : rn P B n p = if p < n ∧ P (B p) = true then rn P B n (p + 1) else p := by
  unfold rn
  by_cases h : p < n
  · obtain ⟨f, hf⟩ : ∃ f, n - p = f + 1 := ⟨n - p - 1, by omega⟩
    rw [hf, show n - (p + 1) = f by omega]
    rfl
  · rw [if_neg (fun q => h q.1), show n - p = 0 by omega]
    rfl
theorem rn_go {P : Nat → Bool} {B : Nat → Nat} {n p : Nat} (h1 : p < n) (h2 : P (B p) = true) : rn P B n p = rn P B n (p + 1) := by
  rw [rn_eq, if_pos ⟨h1, h2⟩]
theorem rn_no {P : Nat → Bool} {B : Nat → Nat} {n p : Nat} (h : ¬ (p < n ∧ P (B p) = true)) : rn P B n p = p := by
  rw [rn_eq, if_neg h]
theorem rn_pr {P : Nat → Bool} {B : Nat → Nat} {n : Nat} : ∀ (f p : Nat), n - p ≤ f → p ≤ rn P B n p ∧ (p ≤ n → rn P B n p ≤ n) ∧ ¬ (rn P B n p < n ∧ P (B (rn P B n p)) = true) ∧ ∀ j, p ≤ j → j < rn P B n p → P (B j) = true ∧ j < n := by
  intro f
  induction f with
  | zero =>
    intro p hp
    have e : rn P B n p = p := rn_no (fun q => by omega)
    rw [e]
    exact ⟨Nat.le_refl _, fun h => h, fun q => by omega, fun j h1 h2 => by omega⟩
  | succ f ih =>
    intro p hp
    by_cases h : p < n ∧ P (B p) = true
    · rw [rn_go h.1 h.2]
      obtain ⟨i1, i2, i3, i4⟩ := ih (p + 1) (by omega)
      refine ⟨by omega, fun _ => i2 (by omega), i3, fun j h1 h2 => ?_⟩
      by_cases z : j = p
      · subst z; exact ⟨h.2, h.1⟩
      · exact i4 j (by omega) h2
    · rw [rn_no h]
      exact ⟨Nat.le_refl _, fun h => h, h, fun j h1 h2 => by omega⟩
theorem rn_ge {P : Nat → Bool} {B : Nat → Nat} {n p : Nat} : p ≤ rn P B n p := (rn_pr (n - p) p (Nat.le_refl _)).1
theorem rn_le {P : Nat → Bool} {B : Nat → Nat} {n p : Nat} (h : p ≤ n) : rn P B n p ≤ n := (rn_pr (n - p) p (Nat.le_refl _)).2.1 h
theorem rn_all {P : Nat → Bool} {B : Nat → Nat} {n p j : Nat} (h1 : p ≤ j) (h2 : j < rn P B n p) : P (B j) = true ∧ j < n := (rn_pr (n - p) p (Nat.le_refl _)).2.2.2 j h1 h2
/-- the token that begins at the place p: its kind (0 end, 1 word, 2 number, 3 sign, 4 none), its end -/
def tkK (B : Nat → Nat) (n p : Nat) : Nat := if n ≤ p then 0 else if isLe (B p) = true then 1 else if isDi (B p) = true then (if rn isDi B n p - p ≤ 4 then 2 else 4) else if isSi (B p) = true then 3 else 4
def tkE (B : Nat → Nat) (n p : Nat) : Nat := if n ≤ p then p else if isLe (B p) = true then rn isLe B n p else if isDi (B p) = true then rn isDi B n p else p + 1
def ltr (B : Nat → Nat) (p e : Nat) : List Nat := (List.range (e - p)).map (fun i => B (p + i) - 96)
def nmr (B : Nat → Nat) (p : Nat) : Nat → Nat
  | 0 => 0
  | k + 1 => nmr B p k * 10 + (B (p + k) - 48)
theorem ltr_len {B : Nat → Nat} {p e : Nat} : (ltr B p e).length = e - p := by unfold ltr; rw [List.length_map, List.length_range]
theorem ltr_s {B : Nat → Nat} {p e : Nat} (h : p ≤ e) : ltr B p (e + 1) = ltr B p e ++ [B e - 96] := by
  unfold ltr
  rw [show e + 1 - p = (e - p) + 1 by omega, List.range_succ, List.map_append]
  simp only [List.map_cons, List.map_nil]
  rw [show p + (e - p) = e by omega]
theorem ltr_0 {B : Nat → Nat} {p : Nat} : ltr B p p = [] := by unfold ltr; rw [Nat.sub_self]; rfl
theorem tkE_ge {B : Nat → Nat} {n p : Nat} : p ≤ tkE B n p := by
  unfold tkE
  split
  · exact Nat.le_refl _
  · split
    · exact rn_ge
    · split
      · exact rn_ge
      · omega
theorem tkE_le {B : Nat → Nat} {n p : Nat} (h : p ≤ n) : tkE B n p ≤ n := by
  unfold tkE
  split
  · exact h
  · split
    · exact rn_le h
    · split
      · exact rn_le h
      · omega
theorem tkE_gt {B : Nat → Nat} {n p : Nat} (h : p < n) : p < tkE B n p := by
  unfold tkE
  rw [if_neg (by omega)]
  split
  · rename_i z
    have := @rn_ge isLe B n (p + 1)
    rw [rn_go h z]; omega
  · split
    · rename_i z
      have := @rn_ge isDi B n (p + 1)
      rw [rn_go h z]; omega
    · omega
/-- letters 1 to 26 -/
def lets (u : List Nat) : Prop := ∀ c, c ∈ u → 1 ≤ c ∧ c ≤ 26
theorem cd27_s (u : List Nat) (c : Nat) : cd27 (u ++ [c]) = cd27 u * 27 + c := by unfold cd27; rw [List.foldl_append]; rfl
theorem cd256_s (u : List Nat) (c : Nat) : cd256 (u ++ [c]) = cd256 u * 256 + (c + 96) := by unfold cd256; rw [List.foldl_append]; rfl
theorem snoc (u : List Nat) : u = [] ∨ ∃ v c, u = v ++ [c] := by
  by_cases h : u = []
  · exact Or.inl h
  · exact Or.inr ⟨u.dropLast, u.getLast h, (List.dropLast_concat_getLast h).symm⟩
theorem cd27_inj : ∀ (n : Nat) (u v : List Nat), u.length ≤ n → lets u → lets v → cd27 u = cd27 v → u = v := by
  intro n
  induction n with
  | zero =>
    intro u v hu lu lv h
    have e : u = [] := List.length_eq_zero_iff.mp (by omega)
    subst e
    rcases snoc v with q | ⟨v', c, rfl⟩
    · exact q.symm
    · rw [cd27_s] at h
      have := lv c (by simp)
      have z : cd27 [] = 0 := rfl
      omega
  | succ n ih =>
    intro u v hu lu lv h
    rcases snoc u with q | ⟨u', c, rfl⟩
    · subst q
      rcases snoc v with q | ⟨v', c, rfl⟩
      · exact q.symm
      · rw [cd27_s] at h
        have := lv c (by simp)
        have z : cd27 [] = 0 := rfl
        omega
    · rcases snoc v with q | ⟨v', c', rfl⟩
      · subst q
        rw [cd27_s] at h
        have := lu c (by simp)
        have z : cd27 [] = 0 := rfl
        omega
      · rw [cd27_s, cd27_s] at h
        have a1 := lu c (by simp)
        have a2 := lv c' (by simp)
        have e1 : c = c' := by omega
        have e2 : cd27 u' = cd27 v' := by omega
        rw [List.length_append] at hu
        simp only [List.length_cons, List.length_nil] at hu
        rw [ih u' v' (by omega) (fun z hz => lu z (by simp [hz])) (fun z hz => lv z (by simp [hz])) e2, e1]
theorem cd256_inj : ∀ (n : Nat) (u v : List Nat), u.length ≤ n → lets u → lets v → cd256 u = cd256 v → u = v := by
  intro n
  induction n with
  | zero =>
    intro u v hu lu lv h
    have e : u = [] := List.length_eq_zero_iff.mp (by omega)
    subst e
    rcases snoc v with q | ⟨v', c, rfl⟩
    · exact q.symm
    · rw [cd256_s] at h
      have := lv c (by simp)
      have z : cd256 [] = 0 := rfl
      omega
  | succ n ih =>
    intro u v hu lu lv h
    rcases snoc u with q | ⟨u', c, rfl⟩
    · subst q
      rcases snoc v with q | ⟨v', c, rfl⟩
      · exact q.symm
      · rw [cd256_s] at h
        have := lv c (by simp)
        have z : cd256 [] = 0 := rfl
        omega
    · rcases snoc v with q | ⟨v', c', rfl⟩
      · subst q
        rw [cd256_s] at h
        have := lu c (by simp)
        have z : cd256 [] = 0 := rfl
        omega
      · rw [cd256_s, cd256_s] at h
        have a1 := lu c (by simp)
        have a2 := lv c' (by simp)
        have e1 : c = c' := by omega
        have e2 : cd256 u' = cd256 v' := by omega
        rw [List.length_append] at hu
        simp only [List.length_cons, List.length_nil] at hu
        rw [ih u' v' (by omega) (fun z hz => lu z (by simp [hz])) (fun z hz => lv z (by simp [hz])) e2, e1]
theorem cd27_lt : ∀ (n : Nat) (u : List Nat), u.length ≤ n → lets u → cd27 u < 27 ^ n := by
  intro n
  induction n with
  | zero =>
    intro u hu lu
    have e : u = [] := List.length_eq_zero_iff.mp (by omega)
    subst e
    exact Nat.one_pos
  | succ n ih =>
    intro u hu lu
    rcases snoc u with q | ⟨u', c, rfl⟩
    · subst q
      exact Nat.pow_pos (by omega)
    · rw [cd27_s, Nat.pow_succ]
      have a1 := lu c (by simp)
      rw [List.length_append] at hu
      simp only [List.length_cons, List.length_nil] at hu
      have := ih u' (by omega) (fun z hz => lu z (by simp [hz]))
      omega
theorem ltr_lets {B : Nat → Nat} {p e : Nat} (h : ∀ j, p ≤ j → j < e → isLe (B j) = true) : lets (ltr B p e) := by
  intro c hc
  unfold ltr at hc
  rw [List.mem_map] at hc
  obtain ⟨i, hi, rfl⟩ := hc
  rw [List.mem_range] at hi
  have := h (p + i) (by omega) (by omega)
  unfold isLe at this
  rw [Bool.and_eq_true, decide_eq_true_iff, decide_eq_true_iff] at this
  omega
def wdC : List (List Nat) := [[13, 1, 18, 19, 8], [2, 25], [19, 11, 9, 14], [19, 15, 6, 20], [4, 5, 5, 16], [13, 5, 14, 4, 19], [3, 5, 12, 12], [15, 4, 4, 19], [6, 9, 18, 13], [23, 1, 12, 11, 5, 18], [1, 20], [20, 15], [23, 5, 9, 7, 8, 20], [18, 5, 1, 3, 8], [12, 15, 14, 7], [12, 15, 1, 4], [19, 20, 5, 16], [19, 20, 1, 14, 4], [8, 1, 14, 4], [1, 14, 25], [23, 8, 5, 14], [6, 1, 12, 12, 5, 14], [8, 15, 13, 5], [12, 15, 15, 16], [5, 14, 4], [19, 20, 15, 16]]
def wdM : List (List Nat) := [[13, 1, 18, 19, 8], [13, 5, 14, 4, 19], [3, 5, 12, 12], [6, 9, 18, 13], [23, 1, 12, 11, 5, 18], [2, 25], [19, 11, 9, 14], [19, 15, 6, 20], [4, 5, 5, 16], [15, 4, 4, 19], [1, 20], [20, 15], [23, 5, 9, 7, 8, 20], [18, 5, 1, 3, 8], [12, 15, 14, 7], [12, 15, 1, 4], [19, 20, 5, 16], [19, 20, 1, 14, 4], [8, 1, 14, 4], [1, 14, 25], [23, 8, 5, 14], [12, 15, 15, 16], [5, 14, 4], [19, 20, 15, 16], [6, 1, 12, 12, 5, 14], [8, 15, 13, 5]]
def pmL : List Nat := [0, 5, 6, 7, 8, 1, 2, 9, 3, 4, 10, 11, 12, 13, 14, 15, 16, 17, 18, 19, 20, 24, 25, 21, 22, 23]
def ofM : List Nat := [1, 7, 13, 18, 23, 30, 33, 38, 43, 48, 53, 56, 59, 66, 72, 77, 82, 87, 93, 98, 102, 107, 112, 116, 121, 128]
/-- which own word it is, in the class's order; 26: none -/
def wix (u : List Nat) : Nat := wdC.findIdx (fun w => w == u)
theorem wix_le (u : List Nat) : wix u ≤ 26 := List.findIdx_le_length
theorem wd_len : wdC.length = 26 := rfl
theorem wd_uniq : ∀ i, i < 26 → ∀ j, j < 26 → wdC.getD i [] = wdC.getD j [] → i = j := by decide +kernel
theorem wix_is {u : List Nat} {i : Nat} (hi : i < 26) : wix u = i ↔ u = wdC.getD i [] := by
  constructor
  · intro h
    have hl : wdC.findIdx (fun w => w == u) < wdC.length := by show wix u < 26; omega
    have := List.findIdx_getElem (w := hl)
    have e : wdC[wdC.findIdx (fun w => w == u)] = wdC.getD i [] := by
      have : wdC.findIdx (fun w => w == u) = i := h
      simp only [this]
      rw [List.getD_eq_getElem?_getD, List.getElem?_eq_getElem (by rw [wd_len]; exact hi)]
      rfl
    rw [e] at this
    exact (beq_iff_eq.mp this).symm
  · intro h
    have hl : wix u < 26 := by
      apply Nat.lt_of_le_of_ne (wix_le u)
      intro q
      have hn := List.findIdx_eq_length.mp (show wdC.findIdx (fun w => w == u) = wdC.length from q)
      have := hn (wdC.getD i []) (by
        rw [List.getD_eq_getElem?_getD, List.getElem?_eq_getElem (by rw [wd_len]; exact hi)]
        exact List.getElem_mem _)
      rw [h] at this
      simp at this
    have hl2 : wdC.findIdx (fun w => w == u) < wdC.length := hl
    have := List.findIdx_getElem (w := hl2)
    have e : wdC[wdC.findIdx (fun w => w == u)] = wdC.getD (wix u) [] := by
      show _ = wdC.getD (wdC.findIdx (fun w => w == u)) []
      rw [List.getD_eq_getElem?_getD, List.getElem?_eq_getElem hl2]
      rfl
    rw [e, beq_iff_eq] at this
    exact wd_uniq _ hl _ hi (this.trans h)
theorem wd_lets : ∀ i, i < 26 → (wdC.getD i []).length ≤ 6 ∧ 1 ≤ (wdC.getD i []).length ∧ cd27 (wdC.getD i []) = ownN i ∧ (wdC.getD i []).all (fun c => decide (1 ≤ c) && decide (c ≤ 26)) = true := by decide +kernel
theorem wd_let {i : Nat} (hi : i < 26) : lets (wdC.getD i []) := by
  intro c hc
  have := (wd_lets i hi).2.2.2
  rw [List.all_eq_true] at this
  have := this c hc
  rw [Bool.and_eq_true, decide_eq_true_iff, decide_eq_true_iff] at this
  exact this
/-- the class's number of a word -/
theorem own_is {u : List Nat} {i : Nat} (hi : i < 26) (hl : lets u) : (cd27 u = ownN i) ↔ wix u = i := by
  rw [wix_is hi, ← (wd_lets i hi).2.2.1]
  exact ⟨fun h => cd27_inj u.length u _ (Nat.le_refl _) hl (wd_let hi) h, fun h => by rw [h]⟩
theorem pm_ok : ∀ i, i < 26 → pmL.getD i 0 < 26 ∧ wdM.getD (pmL.getD i 0) [] = wdC.getD i [] := by decide +kernel
theorem wm_len : ∀ i, i < 26 → ∃ j, j < 26 ∧ wdM.getD i [] = wdC.getD j [] ∧ pmL.getD j 0 = i := by decide +kernel
theorem wm_uniq : ∀ i, i < 26 → ∀ j, j < 26 → wdM.getD i [] = wdM.getD j [] → i = j := by decide +kernel
/-- the model's words in its String -/
theorem str_w : ∀ i, i < 26 → ofM.getD i 0 + (wdM.getD i []).length < 133 ∧ ofM.getD (i + 1) 133 = ofM.getD i 0 + (wdM.getD i []).length + 1 ∧ (strC 1).getD (ofM.getD i 0 + (wdM.getD i []).length) 0 = 32 ∧ 1 ≤ (wdM.getD i []).length ∧ (wdM.getD i []).length ≤ 6 := by decide +kernel
theorem str_c : ∀ i, i < 26 → ∀ j, j < (wdM.getD i []).length → (strC 1).getD (ofM.getD i 0 + j) 0 = (wdM.getD i []).getD j 0 + 96 ∧ 1 ≤ (wdM.getD i []).getD j 0 ∧ (wdM.getD i []).getD j 0 ≤ 26 := by decide +kernel
theorem str_l : (strC 1).length = 133 := by decide +kernel
/-- bytes as the class and the model have them -/
def sbI (b : Nat) : Int32 := (nI b).toInt8.toInt32
theorem sb_all : ∀ b, b < 256 → (sbI b = nI 32 ↔ b = 32) ∧ (sbI b = nI 10 ↔ b = 10) ∧ (sbI b < nI 97 ↔ (b < 97 ∨ 128 ≤ b)) ∧ (nI 122 < sbI b ↔ (122 < b ∧ b < 128)) ∧ (sbI b < nI 48 ↔ (b < 48 ∨ 128 ≤ b)) ∧ (nI 57 < sbI b ↔ (57 < b ∧ b < 128)) ∧ (sbI b = nI 59 ↔ b = 59) ∧ (sbI b = nI 60 ↔ b = 60) ∧ (sbI b = nI 62 ↔ b = 62) ∧ (sbI b = nI 61 ↔ b = 61) ∧ sbI b &&& nI 255 = nI b ∧ (b < 128 → sbI b = nI b) := by decide +kernel
theorem sb_ex {v : Int32} (h : v.toInt8.toInt32 = v) : ∃ b, b < 256 ∧ v = sbI b := by
  refine ⟨v.toInt8.toBitVec.toNat, v.toInt8.toBitVec.isLt, ?_⟩
  unfold sbI
  rw [← h]
  congr 1
  apply Int8.toBitVec_inj.1
  show _ = (BitVec.ofNat 32 v.toInt8.toInt32.toInt8.toBitVec.toNat).signExtend 8
  rw [Int8.toInt8_toInt32]
  apply BitVec.eq_of_getLsbD_eq
  intro i hi
  rw [BitVec.getLsbD_signExtend, if_pos (by omega), BitVec.getLsbD_ofNat]
  have h1 : i < 32 := by omega
  simp [hi, h1]
  rfl

