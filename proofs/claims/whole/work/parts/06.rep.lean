/-! The small machine's heap in the machine's, and how it goes on. -/
def gTbl : List Cond := lw_tbl.filter goodWord
theorem gTbl_in {w : Cond} (h : w ∈ lw_tbl) (hg : goodWord w = true) : w ∈ gTbl := List.mem_filter.mpr ⟨h, hg⟩
theorem gTbl_good {ws : List Cond} (h : ∀ w ∈ ws, w ∈ gTbl) : GoodIn gTbl ws := fun w hw => ⟨h w hw, good_of_word (List.mem_filter.mp (h w hw)).2⟩
def tyL (aC : Nat → ClassId) : List (ClassId × FieldType) := [(aC 100, .int), (aC 101, .long), (aC 102, .byte), (aC 103, .object "StiltMarsh$State"), (aC 104, .object "StiltMarsh$Stance")]
def rE (aC : Nat → ClassId) (S : mS) (I : mI) (L : mL) (R : mR) (a : Nat) : Option va_E :=
  if kd S a < 13 then some (.inr (kd S a, (List.range (cF (kd S a))).map (fun f => fv (kd S a) f a I L R)))
  else if kd S a = 100 then some (.inl (aC 100, ln S a, .inl (I a)))
  else if kd S a = 101 then some (.inl (aC 101, ln S a, .inr (.inl (L a))))
  else if kd S a = 102 then some (.inl (aC 102, ln S a, .inl (I a)))
  else if kd S a = 103 then some (.inl (aC 103, ln S a, .inr (.inr (.inr (.inr (R a))))))
  else if kd S a = 104 then some (.inl (aC 104, ln S a, .inr (.inr (.inr (.inr (R a))))))
  else none
/-- what isn't the machine's own: the script, the String constants -/
def RepX (sz b Lx : Nat) (xs : Nat → Int32) (adK : Nat → Nat) (S : mS) (I : mI) (R : mR) : Prop :=
  0 < sz ∧ b < sz ∧ 105 ≤ kd S 0 ∧ (∀ a, kd S a = 110 → a = b ∧ ln S a = Lx) ∧ (∀ j, j < Lx → I b j = xs j) ∧ 105 ≤ kd S b ∧ (∀ i, i < 2 → R 0 i = some (adK i) ∧ adK i < sz) ∧ ∀ a, (kd S a = 200 → a = adK 0) ∧ (kd S a = 201 → a = adK 1)
def Rep (sz b Lx : Nat) (xs : Nat → Int32) (adK : Nat → Nat) (D : va_G) (aC : Nat → ClassId) (S : mS) (I : mI) (L : mL) (R : mR) (H : Heap) : Prop :=
  H.size = S.1 ∧ sz ≤ S.1 ∧ (∀ a, kd S a < 105 → sz ≤ a ∧ a < S.1) ∧ (∀ a e, rE aC S I L R a = some e → va_at D cls (a, e) H) ∧ RepX sz b Lx xs adK S I R
section RP
variable {sz b Lx : Nat} {xs : Nat → Int32} {adK : Nat → Nat} {D : va_G} {aC : Nat → ClassId} {S : mS} {I : mI} {L : mL} {R : mR} {H H1 : Heap}
theorem rE_kd {a : Nat} {e : va_E} (h : rE aC S I L R a = some e) : kd S a < 105 := by
  unfold rE at h
  repeat' split at h
  all_goals first | omega | (cases h)
theorem rE_obj {a ci : Nat} (h : kd S a = ci) (hc : ci < 13) : rE aC S I L R a = some (.inr (ci, (List.range (cF ci)).map (fun f => fv ci f a I L R))) := by
  unfold rE; rw [h, if_pos hc]
theorem rE_i {a : Nat} (h : kd S a = 100) : rE aC S I L R a = some (.inl (aC 100, ln S a, .inl (I a))) := by
  unfold rE; rw [h]; rfl
theorem rE_l {a : Nat} (h : kd S a = 101) : rE aC S I L R a = some (.inl (aC 101, ln S a, .inr (.inl (L a)))) := by
  unfold rE; rw [h]; rfl
theorem rE_b {a : Nat} (h : kd S a = 102) : rE aC S I L R a = some (.inl (aC 102, ln S a, .inl (I a))) := by
  unfold rE; rw [h]; rfl
theorem rE_s {a : Nat} (h : kd S a = 103) : rE aC S I L R a = some (.inl (aC 103, ln S a, .inr (.inr (.inr (.inr (R a)))))) := by
  unfold rE; rw [h]; rfl
theorem rE_t {a : Nat} (h : kd S a = 104) : rE aC S I L R a = some (.inl (aC 104, ln S a, .inr (.inr (.inr (.inr (R a)))))) := by
  unfold rE; rw [h]; rfl
/-- rows of other addresses don't matter -/
theorem rE_same {I' : mI} {L' : mL} {R' : mR} {a : Nat} (h1 : I' a = I a) (h2 : L' a = L a) (h3 : R' a = R a) : rE aC S I' L' R' a = rE aC S I L R a := by
  unfold rE fv
  rw [h1, h2, h3]
theorem Rep.at' (h : Rep sz b Lx xs adK D aC S I L R H) {a : Nat} {e : va_E} (he : rE aC S I L R a = some e) : va_P D cls [(a, e)] H := by
  intro k q hq
  cases k with
  | zero => cases hq; exact h.2.2.2.1 a e he
  | succ k => simp at hq
/-- one cell's contents change -/
theorem Rep.up {I' : mI} {L' : mL} {R' : mR} {a : Nat} {e : va_E} (h : Rep sz b Lx xs adK D aC S I L R H) (hk : kd S a < 105) (hI : ∀ q, q ≠ a → I' q = I q) (hL : ∀ q, q ≠ a → L' q = L q) (hR : ∀ q, q ≠ a → R' q = R q)
    (he : rE aC S I' L' R' a = some e) (ha : va_at D cls (a, e) H1) (hz : H1.size = H.size) (ho : ∀ q, q ≠ a → H1[q]? = H[q]?) : Rep sz b Lx xs adK D aC S I' L' R' H1 := by
  obtain ⟨h1, h2, h3, h4, g1, g2, g3, g4, g5, g6, g7, g8⟩ := h
  have hb : b ≠ a := by have := (h3 a hk).1; omega
  have h0 : 0 ≠ a := by have := (h3 a hk).1; omega
  refine ⟨hz.trans h1, h2, h3, fun q e' hq => ?_, g1, g2, g3, g4, fun j hj => ?_, g6, fun i hi => ?_, g8⟩
  · by_cases hqa : q = a
    · subst hqa
      rw [he] at hq
      cases hq
      exact ha
    · rw [rE_same (hI q hqa) (hL q hqa) (hR q hqa)] at hq
      exact (h4 q e' hq).kept (ho q hqa)
  · rw [hI b hb]; exact g5 j hj
  · rw [hR 0 h0]; exact g7 i hi
/-- one cell more -/
theorem Rep.mk {c l : Nat} {e : va_E} (h : Rep sz b Lx xs adK D aC S I L R H) (hc : c < 105) (he : rE aC (S.1 + 1, va_up S.2.1 S.1 c, va_up S.2.2 S.1 l) (va_up I S.1 (fun _ => 0)) (va_up L S.1 (fun _ => 0)) (va_up R S.1 (fun _ => none)) S.1 = some e) (ha : va_at D cls (S.1, e) H1) (hz : H1.size = S.1 + 1) (ho : ∀ q, q < S.1 → H1[q]? = H[q]?) :
    Rep sz b Lx xs adK D aC (S.1 + 1, va_up S.2.1 S.1 c, va_up S.2.2 S.1 l) (va_up I S.1 (fun _ => 0)) (va_up L S.1 (fun _ => 0)) (va_up R S.1 (fun _ => none)) H1 := by
  obtain ⟨h1, h2, h3, h4, g1, g2, g3, g4, g5, g6, g7, g8⟩ := h
  have kn : ∀ q, q ≠ S.1 → kd (S.1 + 1, va_up S.2.1 S.1 c, va_up S.2.2 S.1 l) q = kd S q := fun q hq => va_up_ne _ _ hq
  have nn : ∀ q, q ≠ S.1 → ln (S.1 + 1, va_up S.2.1 S.1 c, va_up S.2.2 S.1 l) q = ln S q := fun q hq => va_up_ne _ _ hq
  have ks : kd (S.1 + 1, va_up S.2.1 S.1 c, va_up S.2.2 S.1 l) S.1 = c := va_up_self _ _ _
  refine ⟨hz, Nat.le_succ_of_le h2, fun q hq => ?_, fun q e' hq => ?_, g1, g2, ?_, fun q hq => ?_, fun j hj => ?_, ?_, fun i hi => ?_, fun q => ?_⟩
  · by_cases hqs : q = S.1
    · subst hqs; exact ⟨h2, Nat.lt_succ_self _⟩
    · rw [kn q hqs] at hq
      have := h3 q hq
      exact ⟨this.1, Nat.lt_succ_of_lt this.2⟩
  · by_cases hqs : q = S.1
    · subst hqs
      rw [he] at hq
      cases hq
      exact ha
    · have hk := rE_kd hq
      rw [kn q hqs] at hk
      have e2 : rE aC (S.1 + 1, va_up S.2.1 S.1 c, va_up S.2.2 S.1 l) (va_up I S.1 (fun _ => 0)) (va_up L S.1 (fun _ => 0)) (va_up R S.1 (fun _ => none)) q = rE aC S I L R q := by
        unfold rE fv
        rw [kn q hqs, nn q hqs, va_up_ne _ _ hqs, va_up_ne _ _ hqs, va_up_ne _ _ hqs]
      rw [e2] at hq
      exact (h4 q e' hq).kept (ho q (h3 q hk).2)
  · rw [kn 0 (by omega)]; exact g3
  · by_cases hqs : q = S.1
    · subst hqs; rw [ks] at hq; omega
    · rw [kn q hqs] at hq
      rw [nn q hqs]
      exact g4 q hq
  · rw [va_up_ne _ _ (by omega)]; exact g5 j hj
  · rw [kn b (by omega)]; exact g6
  · rw [va_up_ne _ _ (by omega)]; exact g7 i hi
  · by_cases hqs : q = S.1
    · subst hqs; rw [ks]; exact ⟨fun h => by omega, fun h => by omega⟩
    · rw [kn q hqs]; exact g8 q
theorem Rep.kc (h : Rep sz b Lx xs adK D aC S I L R H) {a : Nat} (hk : kd S a < 105) : sz ≤ a := (h.2.2.1 a hk).1
end RP
