/-! Crossings, by themselves. -/
def mfG {α : Type} (g : α → Nat → α) (a : α) (A : AS) : Nat → α
  | 0 => a
  | n + 1 => if hereB A n = true then g (mfG g a A n) n else mfG g a A n
def cfG {α : Type} (g : α → Nat → α) (a : α) (A : AS) : Nat → α
  | 0 => a
  | n + 1 => g (cfG g a A n) (mc A n)
theorem cfG_list {α : Type} (g : α → Nat → α) (a : α) (A : AS) : ∀ n, cfG g a A n = ((List.range n).map (mc A)).foldl g a
  | 0 => rfl
  | n + 1 => by
    rw [List.range_succ, List.map_append, List.foldl_append, ← cfG_list g a A n]
    rfl
theorem mfG_list {α : Type} (g : α → Nat → α) (a : α) (A : AS) : ∀ n, mfG g a A n = ((List.range n).filter (hereB A)).foldl g a
  | 0 => rfl
  | n + 1 => by
    rw [List.range_succ, List.filter_append, List.foldl_append, ← mfG_list g a A n]
    show (if hereB A n = true then g (mfG g a A n) n else mfG g a A n) = _
    by_cases h : hereB A n = true
    · rw [if_pos h]; simp [h]
    · rw [if_neg h]; simp [h]
theorem cf_mfG {α : Type} {A : AS} (h0 : A 0 ≤ 6) (h1 : A 1 ≤ 5) (g : α → Nat → α) (a : α) : cfG g a A (A 0 * A 1) = mfG g a A 30 := by
  rw [cfG_list, mfG_list]
  have := hereL (A 0) (by omega) (A 1) (by omega)
  show _ = List.foldl g a ((List.range 30).filter (fun c => decide (c % 6 < A 0) && decide (c / 6 < A 1)))
  rw [this]
  rfl
theorem mfG_id {α : Type} {g : α → Nat → α} {a : α} {A : AS} : ∀ n, (∀ c, c < n → hereB A c = true → g a c = a) → mfG g a A n = a
  | 0, _ => rfl
  | n + 1, h => by
    unfold mfG
    rw [mfG_id n (fun c hc => h c (by omega))]
    split
    · rename_i z; exact h n (by omega) z
    · rfl
theorem mfG_all {α : Type} (P : α → Prop) {g : α → Nat → α} {a : α} {A : AS} (ha : P a) : ∀ n, (∀ b c, P b → c < n → hereB A c = true → P (g b c)) → P (mfG g a A n)
  | 0, _ => ha
  | n + 1, h => by
    have ih := mfG_all P ha n (fun b c hb hc => h b c hb (by omega))
    unfold mfG
    split
    · rename_i z; exact h _ n ih (by omega) z
    · exact ih
/-- trials by their numbers: first those of pole 0, then those of pole 1 -/
def trG {α : Type} (h : α → Nat → α) : Nat → Nat → α → α
  | 0, _, b => b
  | n + 1, t, b => trG h n (t + 1) (h b t)
theorem trG_add {α : Type} {h : α → Nat → α} : ∀ (a b t : Nat) (x : α), trG h (a + b) t x = trG h b (t + a) (trG h a t x)
  | 0, b, t, x => by rw [Nat.zero_add]; rfl
  | a + 1, b, t, x => by
    rw [show a + 1 + b = (a + b) + 1 by omega]
    show trG h (a + b) (t + 1) (h x t) = _
    rw [trG_add a b (t + 1)]
    show _ = trG h b (t + (a + 1)) (trG h a (t + 1) (h x t))
    rw [show t + 1 + a = t + (a + 1) by omega]
def trH {α : Type} (A : AS) (g : Nat → α → Nat → α) (b : α) (t : Nat) : α := if hereB A (t % 30) = true then g (t / 30) b (t % 30) else b
theorem trG_mf {α : Type} {A : AS} {g : Nat → α → Nat → α} {p : Nat} : ∀ n, n ≤ 30 → ∀ b, trG (trH A g) n (30 * p) b = mfG (g p) b A n
  | 0, _, b => rfl
  | n + 1, hn, b => by
    rw [trG_add n 1, trG_mf n (by omega)]
    show trH A g (mfG (g p) b A n) (30 * p + n) = _
    unfold trH
    rw [show (30 * p + n) % 30 = n by omega, show (30 * p + n) / 30 = p by omega]
    rfl
theorem trG_60 {α : Type} {A : AS} {g : Nat → α → Nat → α} (b : α) : trG (trH A g) 60 0 b = mfG (g 1) (mfG (g 0) b A 30) A 30 := by
  rw [show 60 = 30 + 30 from rfl, trG_add 30 30]
  have h0 := @trG_mf α A g 0 30 (by omega) b
  have h1 := @trG_mf α A g 1 30 (by omega) (mfG (g 0) b A 30)
  rw [show (30 : Nat) * 0 = 0 from rfl] at h0
  rw [h0, Nat.zero_add]
  exact h1
/-- the best crossing so far: what it is worth, its first step -/
abbrev CB : Type := Option (Nat × Nat)
def updC (sp : Bool) (b : CB) (v f : Nat) : CB := match b with
  | none => some (v, f)
  | some q => if sp = true then (if v ≤ q.1 then some q else some (v, f)) else (if q.1 ≤ v then some q else some (v, f))
theorem updF_le {q : Nat × Nat} {v f : Nat} (h : q.1 ≤ v) : updC false (some q) v f = some q := by simp [updC, h]
theorem updF_gt {q : Nat × Nat} {v f : Nat} (h : ¬ q.1 ≤ v) : updC false (some q) v f = some (v, f) := by simp [updC, h]
theorem updT_le {q : Nat × Nat} {v f : Nat} (h : v ≤ q.1) : updC true (some q) v f = some q := by simp [updC, h]
theorem updT_gt {q : Nat × Nat} {v f : Nat} (h : ¬ v ≤ q.1) : updC true (some q) v f = some (v, f) := by simp [updC, h]
noncomputable def lfM (A : AS) (w p : Nat) : Nat := (lf (2 * w + p) (1 + pI A w p 2 / 2) A).1
noncomputable def lfA (A : AS) (w p : Nat) : AS := (lf (2 * w + p) (1 + pI A w p 2 / 2) A).2
theorem stp_lf {A : AS} {w p c : Nat} : stpA A w p c = if wI (lfA A w p) w 6 = 1 then lfA A w p else putP (lfA A w p) w p c := rfl
noncomputable def valC (sp : Bool) (A : AS) (mo : Nat) : Nat := if sp = true then ofC0 A 30 else mo
noncomputable def crG (sp : Bool) (w : Nat) (rec : AS → Nat → Nat → CB → CB) (A : AS) (spent : Nat) (fo : Option Nat) (p : Nat) (b : CB) (c : Nat) : CB :=
  if canB A w p c = true ∧ ¬ wI (stpA A w p c) w 6 = 1 then
    (if homeB (stpA A w p c) w = true then updC sp b (valC sp (stpA A w p c) (spent + lfM A w p)) (fo.getD (30 * p + c))
     else rec (stpA A w p c) (spent + lfM A w p) (fo.getD (30 * p + c)) b)
  else b
noncomputable def crR (sp : Bool) (w : Nat) (rec : AS → Nat → Nat → CB → CB) (A : AS) (spent : Nat) (fo : Option Nat) (b : CB) : CB :=
  mfG (crG sp w rec A spent fo 1) (mfG (crG sp w rec A spent fo 0) b A 30) A 30
noncomputable def crL (sp : Bool) (w : Nat) : Nat → AS → Nat → Nat → CB → CB
  | 0, _, _, _, b => b
  | n + 1, A, spent, f, b => crR sp w (crL sp w n) A spent (some f) b
/-- the states that crossings and races come by -/
def GK (k : Nat) (A : AS) : Prop := WFA A ∧ A 4 ≤ 9999 + 16 * k ∧ (∀ w, w < A 2 → wI A w 7 ≤ A 4) ∧ ∀ w, w < A 2 → far (pcl A w 0) (pcl A w 1) ≤ wI A w 1
theorem GA.gk {A : AS} (h : GA A) : GK 0 A := ⟨h.1, by have := h.2.1; omega, h.2.2.1, h.2.2.2⟩
theorem GK.up {k : Nat} {A : AS} (h : GK k A) : GK (k + 1) A := ⟨h.1, by have := h.2.1; omega, h.2.2.1, h.2.2.2⟩
theorem GK.keep {k k2 : Nat} {A B : AS} (h : GK k A) (hW : WFA B) (hk : ∀ j, keepJ j → B j = A j) (h4 : A 4 ≤ B 4) (h9 : B 4 ≤ 9999 + 16 * k2) : GK k2 B := by
  obtain ⟨h1, h2, h3, h5⟩ := h
  have hn := h1.n
  have e2 := hk 2 (Or.inl (by omega))
  refine ⟨hW, h9, ?_, ?_⟩
  · intro w q
    rw [e2] at q
    have : wI B w 7 = wI A w 7 := hk _ (kJ_w (by omega) (by omega) (by omega) (by omega))
    have := h3 w q
    omega
  · intro w q
    rw [e2] at q
    have e1 : wI B w 1 = wI A w 1 := hk _ (kJ_w (by omega) (by omega) (by omega) (by omega))
    rw [pcl_keep hk (by omega) (by omega), pcl_keep hk (by omega) (by omega), e1]
    exact h5 w q
theorem GK.put {k : Nat} {A : AS} (h : GK k A) (hk9 : k < 100) {w p e : Nat} (hw : w < A 2) (hp : p < 2) (he : hereB A e = true) (hf : far (pcl A w (1 - p)) e ≤ wI A w 1) (h7 : wI A w 7 < A 4) : GK k (putP A w p e) := by
  obtain ⟨h1, h2, h3, h5⟩ := h
  have hk := putP_kL (A := A) (w := w) (e := e) hp
  have e2 := hk 2 (Or.inl (by omega))
  have e4 : putP A w p e 4 = A 4 := putP_o (by omega)
  refine ⟨h1.ptP hw hp he (by omega), by omega, ?_, ?_⟩
  · intro v q
    rw [e2] at q
    have := h3 v q
    rw [e4]
    by_cases g : v = w
    · subst g
      have : wI (putP A v p e) v 7 = wI A v 7 + 1 := va_up_self _ _ _
      omega
    · have : wI (putP A w p e) v 7 = wI A v 7 := by rcases (by omega : p = 0 ∨ p = 1) with rfl | rfl <;> exact putP_o (by omega)
      omega
  · intro v q
    rw [e2] at q
    have e1 : wI (putP A w p e) v 1 = wI A v 1 := putP_w hp (by omega)
    obtain ⟨a1, a2, a3⟩ := @putP_e A w p e hp
    rw [e1]
    by_cases g : v = w
    · subst g
      rcases (by omega : p = 0 ∨ p = 1) with rfl | rfl
      · rw [a1, show pcl (putP A v 0 e) v 1 = pcl A v 1 from a2, far_comm]; exact hf
      · rw [a1, show pcl (putP A v 1 e) v 0 = pcl A v 0 from a2]; exact hf
    · rw [a3 v 0 g (by omega), a3 v 1 g (by omega)]
      exact h5 v q
theorem GK.lift {k : Nat} {A : AS} (h : GK k A) (hk9 : k < 100) {w p : Nat} (hw : w < A 2) (hp : p < 2) : GK (k + 1) (lfA A w p) ∧ (∀ j, keepJ j → lfA A w p j = A j) ∧ 1 ≤ lfM A w p ∧ lfM A w p ≤ 16 ∧ lfA A w p 4 = A 4 + lfM A w p := by
  have h4 := h.2.1
  have hs := h.1.su w hw p hp
  obtain ⟨-, i2, i3, i4⟩ := lf_ok (al := 2 * w + p) (1 + pI A w p 2 / 2) A h.1.ok (by omega)
  have hpos := lf_pos (al := 2 * w + p) (A := A) (1 + pI A w p 2 / 2) (by omega)
  refine ⟨h.keep (lf_ge _ A h.1 (by omega)) i4 ?_ ?_, i4, hpos, ?_, i2⟩
  · show A 4 ≤ (lf (2 * w + p) (1 + pI A w p 2 / 2) A).2 4
    omega
  · show (lf (2 * w + p) (1 + pI A w p 2 / 2) A).2 4 ≤ _
    omega
  · show (lf (2 * w + p) (1 + pI A w p 2 / 2) A).1 ≤ 16
    omega
theorem hereB_k {A B : AS} {e : Nat} (e0 : B 0 = A 0) (e1 : B 1 = A 1) : hereB B e = hereB A e := by unfold hereB; rw [e0, e1]
theorem GK.step {k : Nat} {A : AS} (h : GK k A) (hk9 : k < 90) {w p e : Nat} (hw : w < A 2) (hp : p < 2) (he : hereB A e = true) (hc : canB A w p e = true) : GK (k + 1) (stpA A w p e) ∧ (∀ j, keepL j → stpA A w p e j = A j) ∧ (wI (stpA A w p e) w 6 = wI (lfA A w p) w 6) ∧ (¬ wI (lfA A w p) w 6 = 1 → stpA A w p e = putP (lfA A w p) w p e ∧ pcl (stpA A w p e) w p = e ∧ pcl (stpA A w p e) w (1 - p) = pcl A w (1 - p)) := by
  obtain ⟨-, hf⟩ := canB_iff.mp hc
  obtain ⟨hl, i4, l1, l16, l4⟩ := h.lift (by omega) hw hp
  have hn := h.1.n
  have e0 := i4 0 (Or.inl (by omega))
  have e1 := i4 1 (Or.inl (by omega))
  have e2 := i4 2 (Or.inl (by omega))
  have h3 := h.2.2.1 w hw
  rw [stp_lf]
  generalize lfA A w p = B at *
  have pk := pcl_keep (w := w) (p := 1 - p) i4 (by omega) (by omega)
  by_cases z : wI B w 6 = 1
  · rw [if_pos z]
    exact ⟨hl, fun j hj => i4 j (keepL_J hj), rfl, fun q => absurd z q⟩
  · rw [if_neg z]
    have hk := putP_kL (A := B) (w := w) (e := e) hp
    have q1 : wI B w 1 = wI A w 1 := i4 _ (kJ_w (by omega) (by omega) (by omega) (by omega))
    have q7 : wI B w 7 = wI A w 7 := i4 _ (kJ_w (by omega) (by omega) (by omega) (by omega))
    obtain ⟨a1, a2, a3⟩ := @putP_e B w p e hp
    refine ⟨hl.put (by omega) (by omega) hp (by rw [hereB_k e0 e1]; exact he) (by rw [pk, q1]; exact hf) (by omega), fun j hj => by rw [hk j hj, i4 j (keepL_J hj)], putP_w hp (by omega), fun _ => ⟨rfl, a1, by rw [a2, pk]⟩⟩
theorem way_aux {r n da db dc : Nat} (hr : 0 < r) (k1 : db ≤ da + r) (k2 : dc ≤ db + r) (k3 : wayF da db r ≤ n) : wayF dc db r ≤ n + 1 := by
  unfold wayF at k3 ⊢
  by_cases z : dc = 0 ∧ db = 0
  · rw [if_pos z]; omega
  · rw [if_neg z]
    by_cases y : da = 0 ∧ db = 0
    · have : min dc db = 0 := by omega
      rw [this, cdiv_0 hr]; omega
    · rw [if_neg y] at k3
      have m1 : min dc db ≤ min da db + r := by omega
      have m2 := cdiv_mono (r := r) m1
      rw [cdiv_add hr] at m2
      omega
theorem wayF_sym (x y r : Nat) : wayF x y r = wayF y x r := by
  unfold wayF; rw [Nat.min_comm]; simp only [and_comm]
theorem way0 {A : AS} {w : Nat} : wayW A w = 0 ↔ pcl A w 0 = wnt A w ∧ pcl A w 1 = wnt A w := by
  unfold wayW wayF
  constructor
  · intro h
    split at h
    · rename_i z; exact ⟨far_0 z.1, far_0 z.2⟩
    · exact absurd h (Nat.succ_ne_zero _)
  · intro h
    rw [h.1, h.2, far_self]
    simp
theorem home_iff {A : AS} {w : Nat} : homeB A w = true ↔ ¬ wI A w 6 = 1 ∧ wayW A w = 0 := by
  rw [way0]
  unfold homeB
  rw [Bool.and_eq_true, Bool.and_eq_true, decide_eq_true_iff, decide_eq_true_iff, decide_eq_true_iff, and_assoc]
theorem way_stp {k : Nat} {A : AS} (h : GK k A) (hk9 : k < 90) {w p e : Nat} (hw : w < A 2) (hp : p < 2) (he : hereB A e = true) (hc : canB A w p e = true) (hf : ¬ wI (lfA A w p) w 6 = 1) : wayW A w ≤ wayW (stpA A w p e) w + 1 := by
  obtain ⟨-, s2, -, s4⟩ := h.step hk9 hw hp he hc
  obtain ⟨-, s5, s6⟩ := s4 hf
  obtain ⟨-, hfar⟩ := canB_iff.mp hc
  have hr := h.1.re w hw
  have hpd := h.2.2.2 w hw
  have w1 : wI (stpA A w p e) w 1 = wI A w 1 := s2 _ (kL_w (by omega))
  have w4 : wI (stpA A w p e) w 4 = wI A w 4 := s2 _ (kL_w (by omega))
  have w5 : wI (stpA A w p e) w 5 = wI A w 5 := s2 _ (kL_w (by omega))
  have wn : wnt (stpA A w p e) w = wnt A w := by unfold wnt; rw [w4, w5]
  unfold wayW
  rw [w1, wn]
  rcases (by omega : p = 0 ∨ p = 1) with rfl | rfl
  · rw [s5, show pcl (stpA A w 0 e) w 1 = pcl A w 1 from s6]
    refine way_aux (da := far e (wnt A w)) (by omega) ?_ ?_ (Nat.le_refl _)
    · have := far_tri (pcl A w 1) e (wnt A w)
      have hq : far (pcl A w 1) e ≤ wI A w 1 := hfar
      omega
    · have := far_tri (pcl A w 0) (pcl A w 1) (wnt A w)
      omega
  · rw [s5, show pcl (stpA A w 1 e) w 0 = pcl A w 0 from s6, wayF_sym (far (pcl A w 0) _), wayF_sym (far (pcl A w 0) _)]
    refine way_aux (da := far e (wnt A w)) (by omega) ?_ ?_ (Nat.le_refl _)
    · have := far_tri (pcl A w 0) e (wnt A w)
      have hq : far (pcl A w 0) e ≤ wI A w 1 := hfar
      omega
    · have := far_tri (pcl A w 1) (pcl A w 0) (wnt A w)
      rw [far_comm (pcl A w 1) (pcl A w 0)] at this
      omega
/-- too far from home: nothing is found -/
theorem cr_way {sp : Bool} {w : Nat} : ∀ (n k : Nat) (A : AS) (spent f : Nat) (b : CB), GK k A → k + n < 90 → w < A 2 → n < wayW A w → crL sp w n A spent f b = b
  | 0, _, _, _, _, _, _, _, _, _ => rfl
  | n + 1, k, A, spent, f, b, h, hk, hw, hd => by
    have key : ∀ p, p < 2 → ∀ c, c < 30 → hereB A c = true → crG sp w (crL sp w n) A spent (some f) p b c = b := by
      intro p hp c hc hh
      unfold crG
      split
      · rename_i z
        have hf : ¬ wI (lfA A w p) w 6 = 1 := by rw [← (h.step (by omega) hw hp hh z.1).2.2.1]; exact z.2
        have ws := way_stp h (by omega) hw hp hh z.1 hf
        have g1 := (h.step (by omega) hw hp hh z.1)
        have e2 := g1.2.1 2 (Or.inl (by omega))
        rw [if_neg (fun q => by have := (home_iff.mp q).2; omega)]
        exact cr_way n (k + 1) _ _ _ b g1.1 (by omega) (by omega) (by omega)
      · rfl
    show crR sp w (crL sp w n) A spent (some f) b = b
    unfold crR
    rw [mfG_id 30 (key 0 (by omega)), mfG_id 30 (key 1 (by omega))]
/-- too late: nothing better is found -/
theorem cr_late {w : Nat} {q : Nat × Nat} : ∀ (n : Nat) (A : AS) (spent f : Nat), q.1 ≤ spent → crL false w n A spent f (some q) = some q
  | 0, _, _, _, _ => rfl
  | n + 1, A, spent, f, h => by
    have key : ∀ p c, crG false w (crL false w n) A spent (some f) p (some q) c = some q := by
      intro p c
      unfold crG
      split
      · split
        · exact updF_le (by unfold valC; rw [if_neg (by decide)]; omega)
        · exact cr_late n _ _ _ (by omega)
      · rfl
    show crR false w (crL false w n) A spent (some f) (some q) = some q
    unfold crR
    rw [mfG_id 30 (fun c _ _ => key 0 c), mfG_id 30 (fun c _ _ => key 1 c)]
/-- what a pole comes to: nothing, where the walker falls -/
theorem cr_fall {sp : Bool} {w k : Nat} {rec : AS → Nat → Nat → CB → CB} {A : AS} {spent : Nat} {fo : Option Nat} {p : Nat} {b : CB} (h : GK k A) (hk : k < 90) (hw : w < A 2) (hp : p < 2) (hf : wI (lfA A w p) w 6 = 1) : mfG (crG sp w rec A spent fo p) b A 30 = b := by
  refine mfG_id 30 (fun c hc hh => ?_)
  unfold crG
  rw [if_neg]
  intro z
  rw [(h.step hk hw hp hh z.1).2.2.1] at z
  exact z.2 hf
/-- .. and where it is too late -/
theorem cr_slow {w n : Nat} {A : AS} {spent : Nat} {fo : Option Nat} {p : Nat} {q : Nat × Nat} (h : q.1 ≤ spent + lfM A w p) : mfG (crG false w (crL false w n) A spent fo p) (some q) A 30 = some q := by
  refine mfG_id 30 (fun c hc hh => ?_)
  unfold crG
  split
  · split
    · exact updF_le (by unfold valC; rw [if_neg (by decide)]; exact h)
    · exact cr_late n _ _ _ h
  · rfl
/-- a best crossing is a crossing -/
def okC (A : AS) (b : CB) : Prop := ∀ q, b = some q → q.1 ≤ 3000 ∧ q.2 < 60 ∧ hereB A (q.2 % 30) = true

