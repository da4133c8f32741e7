/-! The law in the small machine: both objects are made, then every call is compared. -/
section LAWP
variable {f g : Nat → Nat} {I : mI} {L : mL} {R : mR} {d z b Lx q0 q1 bc bs : Nat}
theorem law_wp (hb : b < z) (h0 : q0 < z) (h1 : q1 < z) (fb : f b = 110) (gb : g b = Lx) (hL : Lx ≤ 384) (r0 : R 0 0 = some q0) (f0 : f q0 = 200) (r1 : R 0 1 = some q1) (f1 : f q1 = 201) (hbc : 700 ≤ bc) (hbs : 50000 ≤ bs) : WP (d + 60, bc, bs) 0 0 [some (.ref b), none, none, none] [] (z, f, g) I L R (fun v _ _ _ _ => v = some (.int (nI 1))) := by
  simp (disch := first | assumption | exact cw0 | omega | (simp only [cw_nil, cw_int, cw_ref, cw_long]; omega) | decide) only [x_0_0, x_0_3, x_0_3r, ↓reduceIte, va_rf_some, cw_nil, cw_int, cw_ref, cw_long, kl_int, kl_ref, kl_null, kl_long, kl_none, Option.toList_some, Option.toList_none, List.cons_append, List.nil_append, List.append_nil, nI_add, nI_clamp, nI_ltI, nI_leI, nI_eq, Nat.reduceLT, Nat.reduceLeDiff, Nat.reduceEqDiff, Nat.reduceAdd, Nat.reduceMul, Nat.reduceSub, if_true, if_false, not_true, not_false_eq_true, decide_true, decide_false, Nat.lt_irrefl, Nat.le_refl, Nat.not_lt_zero, Nat.zero_le]
  rw [x_0_4 (by simp only [cw_ref, cw_int, cw_nil]; omega) (by omega) (by omega)]
  refine ci_1 (d := d + 53) (x := z) (q := q0) (q1 := q1) (by omega) (va_up_self _ _ _) (va_up_self _ _ _) (va_up_self _ _ _) (by rw [va_up_ne _ _ (by omega)]; exact r0) (by rw [va_up_ne _ _ (by omega)]; exact f0) h0 (by rw [va_up_ne _ _ (by omega)]; exact r1) (by rw [va_up_ne _ _ (by omega)]; exact f1) h1 ?_
  intro f' g' I' L' R' old hcl iX lX i5 i6 iN ow
  simp (disch := first | assumption | exact cw0 | omega | (simp only [cw_nil, cw_int, cw_ref, cw_long]; omega) | decide) only [x_0_7, x_0_8, x_0_11, x_0_11r, ↓reduceIte, va_rf_some, cw_nil, cw_int, cw_ref, cw_long, kl_int, kl_ref, kl_null, kl_long, kl_none, Option.toList_some, Option.toList_none, List.cons_append, List.nil_append, List.append_nil, nI_add, nI_clamp, nI_ltI, nI_leI, nI_eq, Nat.reduceLT, Nat.reduceLeDiff, Nat.reduceEqDiff, Nat.reduceAdd, Nat.reduceMul, Nat.reduceSub, if_true, if_false, not_true, not_false_eq_true, decide_true, decide_false, Nat.lt_irrefl, Nat.le_refl, Nat.not_lt_zero, Nat.zero_le]
  rw [x_0_12 (by simp only [cw_ref, cw_int, cw_nil]; omega) (by omega) (by omega)]
  refine ci_206 (d := d + 57) (t := z + 163) (va_up_self _ _ _) (va_up_self _ _ _) (va_up_self _ _ _) ?_
  intro f2 g2 I2 L2 R2 old2 hM iM m16 m17 m3 m4 mr mr5 ms mz
  have o2 : ∀ a, a < z + 163 → f2 a = f' a ∧ g2 a = g' a ∧ I2 a = I' a ∧ L2 a = L' a ∧ R2 a = R' a := by
    intro a ha
    obtain ⟨a1, a2, a3, a4, a5⟩ := old2 a ha
    exact ⟨by rw [a1, va_up_ne _ _ (by omega)], by rw [a2, va_up_ne _ _ (by omega)], by rw [a3, va_up_ne _ _ (by omega)], by rw [a4, va_up_ne _ _ (by omega)], by rw [a5, va_up_ne _ _ (by omega)]⟩
  have ob : ∀ a, a < z → f2 a = f a ∧ g2 a = g a ∧ R2 a = R a := by
    intro a ha
    obtain ⟨a1, a2, a3, a4, a5⟩ := old a ha
    obtain ⟨b1, b2, b3, b4, b5⟩ := o2 a (by omega)
    exact ⟨by rw [b1, a1, va_up_ne _ _ (by omega)], by rw [b2, a2, va_up_ne _ _ (by omega)], by rw [b5, a5, va_up_ne _ _ (by omega)]⟩
  have hc2 : clL (z + 163 + 21, f2, g2) R2 z := clL_cg hcl (fun a ha => (o2 a ha).1) (fun a ha => (o2 a ha).2.1) (fun a ha => (o2 a ha).2.2.2.2) ⟨q1, by rw [(ob 0 (by omega)).2.2]; exact r1, (ob q1 h1).1.trans f1⟩
  have hINV : INV z b (I2 b) (z + 163 + 21, f2, g2) I2 L2 R2 := inv_new hc2 hM hb (by rw [(o2 z (by omega)).2.2.1]; exact iX) (by rw [(o2 z (by omega)).2.2.2.1]; exact lX) (by rw [(o2 _ (by omega)).2.2.1]; exact i5) (fun j hj => by rw [(o2 _ (by omega)).2.2.1]; exact i6 j hj) (fun c c1 c2 => by rw [(o2 _ (by omega)).2.2.1]; exact iN c c1 c2) (by rw [(o2 _ (by omega)).2.2.2.1]; exact ow) iM m16 m17 m3 m4 mr mr5 ms mz
  simp (disch := first | assumption | exact cw0 | omega | (simp only [cw_nil, cw_int, cw_ref, cw_long]; omega) | decide) only [x_0_15, x_0_16, x_0_17, ↓reduceIte, va_rf_some, cw_nil, cw_int, cw_ref, cw_long, kl_int, kl_ref, kl_null, kl_long, kl_none, Option.toList_some, Option.toList_none, List.cons_append, List.nil_append, List.append_nil, nI_add, nI_clamp, nI_ltI, nI_leI, nI_eq, Nat.reduceLT, Nat.reduceLeDiff, Nat.reduceEqDiff, Nat.reduceAdd, Nat.reduceMul, Nat.reduceSub, if_true, if_false, not_true, not_false_eq_true, decide_true, decide_false, Nat.lt_irrefl, Nat.le_refl, Nat.not_lt_zero, Nat.zero_le]
  exact law_l (S := (z + 163 + 21, f2, g2)) (b := b) (d := d + 19) hL ((ob b hb).2.1.trans gb) ((ob b hb).1.trans fb) (fun _ _ _ => rfl) 64 0 I2 L2 R2 (by omega) (by omega) hINV
end LAWP
/-! The start of the machine as the Statement gives it. -/
theorem fl0 : ∀ j, j < 132 → (flatC (Jvm.Cond.and given_1 narrow_1))[39 + j]? = some (.eq (.elem (.field (.string "StiltMarsh$Scanner" 19) "java/lang/String" "value" "[B") (.int (Int32.ofNat j))) (.int ((bytK.getD 0 []).getD j 0))) := by decide +kernel
theorem fl1 : ∀ j, j < 133 → (flatC (Jvm.Cond.and given_1 narrow_1))[175 + j]? = some (.eq (.elem (.field (.string "StiltMarshModel" 186) "java/lang/String" "value" "[B") (.int (Int32.ofNat j))) (.int ((bytK.getD 1 []).getD j 0))) := by decide +kernel
def tmK (i : Nat) : Term := if i = 0 then .string "StiltMarsh$Scanner" 19 else .string "StiltMarshModel" 186
theorem st_str {args : Array Value} {s : State} (h : (Jvm.Cond.and given_1 narrow_1).before args s = true) : ∃ adK adV : Nat → Nat, vk_S 2 lenK bytK adK adV (fun q : Nat => s.heap.size ≤ q) s s.heap ∧ ∀ i : Nat, i < 2 → (tmK i).eval args s none [] s = some (.ref (adK i)) := by
  have hf := flat_of_before _ h
  have two : ∀ i, i < 2 → i = 0 ∨ i = 1 := fun i hi => by omega
  refine vk_Sof (tm := tmK) (len := lenK) (byt := bytK) (A := fun q : Nat => s.heap.size ≤ q) ?_ ?_ ?_ ?_ ?_ ?_ ?_ (fun a ha => Nat.not_le.mpr ha)
  · intro i hi
    rcases two i hi with rfl | rfl <;> decide
  · intro i hi
    rcases two i hi with rfl | rfl
    · exact hf _ (List.mem_of_getElem? (i := 35) (by decide +kernel))
    · exact hf _ (List.mem_of_getElem? (i := 171) (by decide +kernel))
  · intro i hi
    rcases two i hi with rfl | rfl
    · exact hf _ (List.mem_of_getElem? (i := 36) (by decide +kernel))
    · exact hf _ (List.mem_of_getElem? (i := 172) (by decide +kernel))
  · intro i hi
    rcases two i hi with rfl | rfl
    · exact hf _ (List.mem_of_getElem? (i := 37) (by decide +kernel))
    · exact hf _ (List.mem_of_getElem? (i := 173) (by decide +kernel))
  · intro i hi
    rcases two i hi with rfl | rfl
    · exact hf _ (List.mem_of_getElem? (i := 38) (by decide +kernel))
    · exact hf _ (List.mem_of_getElem? (i := 174) (by decide +kernel))
  · intro i hi j hj
    rcases two i hi with rfl | rfl
    · exact hf _ (List.mem_of_getElem? (fl0 j hj))
    · exact hf _ (List.mem_of_getElem? (fl1 j hj))
  · intro i j hi hj hne
    rcases two i hi with rfl | rfl
    · rcases two j hj with rfl | rfl
      · exact (hne rfl).elim
      · exact Or.inl (hf _ (List.mem_of_getElem? (i := 308) (by decide +kernel)))
    · rcases two j hj with rfl | rfl
      · exact Or.inr (hf _ (List.mem_of_getElem? (i := 308) (by decide +kernel)))
      · exact (hne rfl).elim
theorem cls_inst : ∀ (c : Nat) (q : vw_C), cls[c]? = some q → Cond.instantiable q.1 q.2.2 ∈ lw_tbl := by
  intro c q hq
  match c, hq with

  | 0, hq => cases hq; exact me_1 (List.mem_of_getElem? (i := 23) rfl)
  | 1, hq => cases hq; exact me_1 (List.mem_of_getElem? (i := 31) rfl)
  | 2, hq => cases hq; exact me_1 (List.mem_of_getElem? (i := 53) rfl)
  | 3, hq => cases hq; exact me_1 (List.mem_of_getElem? (i := 59) rfl)
  | 4, hq => cases hq; exact me_1 (List.mem_of_getElem? (i := 125) rfl)
  | 5, hq => cases hq; exact me_1 (List.mem_of_getElem? (i := 177) rfl)
  | 6, hq => cases hq; exact me_1 (List.mem_of_getElem? (i := 216) rfl)
  | 7, hq => cases hq; exact me_2 (List.mem_of_getElem? (i := 47) rfl)
  | 8, hq => cases hq; exact me_2 (List.mem_of_getElem? (i := 133) rfl)
  | 9, hq => cases hq; exact me_2 (List.mem_of_getElem? (i := 149) rfl)
  | 10, hq => cases hq; exact me_2 (List.mem_of_getElem? (i := 171) rfl)
  | 11, hq => cases hq; exact me_2 (List.mem_of_getElem? (i := 234) rfl)
  | 12, hq => cases hq; exact me_7 (List.mem_of_getElem? (i := 21) rfl)
  | c + 13, hq => exact absurd (List.getElem?_eq_some_iff.mp hq).1 (by show ¬ c + 13 < 13; omega)
theorem st_cls {s : State} {args : Array Value} (hts : ∀ w ∈ lw_tbl, w.before args s = true) : ∃ D : va_G, ∀ (c : Nat) (q : vw_C), cls[c]? = some q → u_Kn s q.1 q.2.1 q.2.2 (D.1 c) (D.2 c) := by
  have h1 : ∀ (c : Nat) (q : vw_C), cls[c]? = some q → ∃ (cC : ClassId) (iS : Nat → Nat), u_Kn s q.1 q.2.1 q.2.2 cC iS := fun c q hq => u_known (n := q.2.2) hts (cls_in c q hq) (hts _ (cls_inst c q hq))
  obtain ⟨c0, i0, -⟩ := h1 0 _ rfl
  have h2 : ∀ c : Nat, ∃ r : ClassId × (Nat → Nat), ∀ q : vw_C, cls[c]? = some q → u_Kn s q.1 q.2.1 q.2.2 r.1 r.2 := by
    intro c
    cases hc : cls[c]? with
    | none => exact ⟨(c0, i0), fun q h => by cases h⟩
    | some q =>
      obtain ⟨cC, iS, h⟩ := h1 c q hc
      exact ⟨(cC, iS), fun q' h' => by cases h'; exact h⟩
  obtain ⟨D, hD⟩ := Classical.axiomOfChoice h2
  exact ⟨(fun c => (D c).1, fun c => (D c).2), fun c q hq => hD c q hq⟩
theorem st_arr {s : State} {args : Array Value} {ty : FieldType} (hp : ∀ C, ty ≠ .object C) (h : (Cond.arrayClass ty).before args s = true) : ∃ cA : ClassId, ArrOfT s cA ty ∧ va_RA s cA ty := by
  obtain ⟨c, k, comp, h1, h2, h3⟩ := Cond.arrayClass_spec (args := args) (first := s) (o := none) (s := s) (idx := []) h
  refine ⟨c, fun n z => ⟨fun _ h => (by cases h), k, h2, comp, h3⟩, ?_⟩
  cases ty with
  | object C => exact (hp C rfl).elim
  | _ => exact h1
theorem st_arrO {s : State} {args : Array Value} {C : String} (h : (Cond.arrayOver (.object C)).before args s = true) : ∃ cA : ClassId, ArrOfT s cA (.object C) ∧ va_RA s cA (.object C) := by
  obtain ⟨comp, c, k, h1, -, h2, h3, h4⟩ := Cond.arrayOver_spec (args := args) (first := s) (o := none) (s := s) (idx := []) h
  exact ⟨c, fun n z => ⟨fun _ h => (by cases h), k, h2, comp, h3⟩, k, comp, h2, h3, h1, h4⟩
theorem st_K {s : State} {args : Array Value} (hts : ∀ w ∈ lw_tbl, w.before args s = true) : ∃ (D : va_G) (aC : Nat → ClassId), va_K D cls (tyL aC) s := by
  obtain ⟨D, hD⟩ := st_cls hts
  obtain ⟨a0, b0⟩ := st_arr (ty := .int) (fun C => by intro h; cases h) (hts _ (me_1 (List.mem_of_getElem? (i := 50) rfl)))
  obtain ⟨a1, b1⟩ := st_arr (ty := .long) (fun C => by intro h; cases h) (hts _ (me_1 (List.mem_of_getElem? (i := 51) rfl)))
  obtain ⟨a2, b2⟩ := st_arr (ty := .byte) (fun C => by intro h; cases h) (hts _ (me_1 (List.mem_of_getElem? (i := 49) rfl)))
  obtain ⟨a3, b3⟩ := st_arrO (C := "StiltMarsh$State") (hts _ (me_2 (List.mem_of_getElem? (i := 45) rfl)))
  obtain ⟨a4, b4⟩ := st_arrO (C := "StiltMarsh$Stance") (hts _ (me_2 (List.mem_of_getElem? (i := 177) rfl)))
  refine ⟨D, fun n => if n = 100 then a0 else if n = 101 then a1 else if n = 102 then a2 else if n = 103 then a3 else a4, hD, ?_⟩
  intro k q hq
  match k, hq with
  | 0, hq => cases hq; exact b0
  | 1, hq => cases hq; exact b1
  | 2, hq => cases hq; exact b2
  | 3, hq => cases hq; exact b3
  | 4, hq => cases hq; exact b4
  | k + 5, hq => exact absurd (List.getElem?_eq_some_iff.mp hq).1 (by show ¬ k + 5 < 5; omega)

