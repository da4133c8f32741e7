/-! Soundness of what reads and writes the heap. -/
theorem u_ws_good {C : String} {T : u_T} {N : Nat} : ∀ w ∈ u_ws C T N, goodWord w = true := by
  intro w hw
  obtain ⟨k, -, rfl⟩ := List.mem_map.mp hw
  unfold u_lay
  split <;> rfl
theorem cls_g {ci : Nat} {q : vw_C} (h : cls[ci]? = some q) : ∀ w ∈ u_ws q.1 q.2.1 q.2.2, w ∈ gTbl := fun w hw => gTbl_in (cls_in ci q h w hw) (u_ws_good w hw)
theorem cls_lt {ci : Nat} {q : vw_C} (h : cls[ci]? = some q) : ci < 13 := (List.getElem?_eq_some_iff.mp h).1
section HP
variable {p : Program} {l : Launch} {e : Env} {Rm : Room} {s : State} {m : MethodId} {args : Array Value} {below : List Frame} {meth : Method} {c : Code} {H : Heap} {locs : List Loc} {cells slots : Nat} {Z : State → Prop} {cc : ByteArray} {pc : Nat} {lsA : Array Slot} {rest : List Value} {D : va_G} {tys : List (ClassId × FieldType)} {a : Nat}
/-- a field is put: the cell's new contents, all else as it was -/
theorem vput {o ci f j : Nat} {v : Value} {fs : List Value} {q : vw_C} (hx : p.tables.exec = Jvm.exec) (hb : c.code = cc) (hown : s.vm.findClass (cN o) = some m.cls) (hts : ∀ w ∈ gTbl, w.before args s = true) (hK : va_K D cls tys s) (hq : cls[ci]? = some q) (hf : f < q.2.2) (hcl : (q.2.1 f).1 = q.1) (hlk : Cond.fieldLink (cN o) j (q.2.1 f).1 (q.2.1 f).2.1 (q.2.1 f).2.2.1 ∈ lw_tbl)
    (hfin : (q.2.1 f).2.2.2 = false ∨ ((q.2.1 f).2.2.2 = true ∧ meth.name = "<init>" ∧ q.1 = cN o)) (hat : va_at D cls (a, .inr (ci, fs)) H) (hl : f < fs.length) (hnr : narrow (fY ci f) v = v) (hfit : fits (fY ci f) v = true) (hdg : decode cc pc = .ok (.putfield j, 3))
    (kk : ∀ (H1 : Heap) (sl : Nat), va_at D cls (a, .inr (ci, fs.set f v)) H1 → H1.size = H.size → (∀ q : Nat, q ≠ a → H1[q]? = H[q]?) → W p l e Rm s m args below meth c H1 (locs ++ [⟨a, sl⟩]) cells slots Z (F0 m (pc + 3) lsA rest)) : W p l e Rm s m args below meth c H locs cells slots Z (F0 m pc lsA (v :: .ref a :: rest)) := by
  have hin := cls_g hq
  have hty := cls_ty ci q hq
  have hap := va_apart (own := cN o) hts hin (fY ci) hty (cls_nm ci q hq) hK hq
  have hlink := hts _ (gTbl_in hlk rfl)
  obtain ⟨r, h1, cell, q1, q2, q3, q4⟩ := hat
  have hr : r = q := Option.some.inj (h1.symm.trans hq)
  subst hr
  obtain ⟨hS, hfc, kC, hkC, hkind⟩ := hK.1 ci _ hq
  obtain ⟨cf, kf, fi, fd, hi, hsl⟩ := hS f hf
  have hlay := hts _ (hin _ (u_in_lay hf))
  unfold u_lay at hlay
  have hst := (u_facts hfc hkC (u_lays hts hin hf) hi).1
  have fin : ∀ H' : Heap, H'[a]? = some (cell.setSlot fd.slot v) → va_at D cls (a, .inr (ci, fs.set f v)) H' := by
    intro H' e1
    rw [hsl] at e1
    exact ⟨_, hq, t_OB.to (V := updV (vp_V fs) f v) ⟨_, e1, q2, q3, t_set q4 hap hf v⟩ (fun j _ => vp_updV_set hl v j)⟩
  rcases hfin with hfin | ⟨hfin, hini, hown2⟩
  · rw [if_neg (by rw [hfin]; decide)] at hlay
    have h6 := u_store hfc hkC hkind hlay hi (hty f hf) hnr hfit
    exact W.putK hx hb (f := fd) ⟨hown, hlink, ⟨_, _, _, hi⟩, hst⟩ (by rw [q2]; exact h6) q1 q3 (by rw [hsl]; exact k2_hasslot (q4 f hf)) rfl rfl hdg fun H' e1 e2 e3 => kk H' _ (fin H' e1) e2 e3
  · rw [if_pos hfin] at hlay
    have hcf : m.cls = cf := by
      obtain ⟨_, _, c', _, _, _, -, -, hf', -, -, -, hown3, -⟩ := Cond.laysFinal_spec hlay
      have e1 : c' = cf := by have := hi.symm.trans hf'; simp at this; exact this.1.symm
      rw [hcl, hown2] at hown3
      rw [← e1]; exact Option.some.inj (hown.symm.trans hown3)
    have h6 := u_fits hfc hkC hkind (Or.inr hlay) hi (hty f hf) hnr hfit
    exact W.putFinK hx hb hown hlink hi hst hcf hini (by rw [q2]; exact h6) q1 q3 (by rw [hsl]; exact k2_hasslot (q4 f hf)) rfl rfl hdg fun H' e1 e2 e3 => kk H' _ (fin H' e1) e2 e3
theorem arr_sz {cA : ClassId} {n : Nat} {i : Int32} {f : Nat → Value} (h : ¬ (i < 0 ∨ n ≤ i.toNatClampNeg)) : ¬ (i < 0 ∨ (arrV cA n f).slots.size ≤ i.toNatClampNeg) := by rw [arrV_size]; exact h
theorem viast {cA : ClassId} {n : Nat} {f : Nat → Int32} {i x : Int32} (hx : p.tables.exec = Jvm.exec) (hb : c.code = cc) (hA : ArrOfT s cA .int) (hat : va_at D cls (a, .inl (cA, n, .inl f)) H) (hin : ¬ (i < 0 ∨ n ≤ i.toNatClampNeg)) (hdg : decode cc pc = .ok (.iastore, 1))
    (kk : ∀ (H1 : Heap) (sl : Nat), va_at D cls (a, .inl (cA, n, .inl (va_up f i.toNatClampNeg x))) H1 → H1.size = H.size → (∀ q : Nat, q ≠ a → H1[q]? = H[q]?) → W p l e Rm s m args below meth c H1 (locs ++ [⟨a, sl⟩]) cells slots Z (F0 m (pc + 1) lsA rest)) : W p l e Rm s m args below meth c H locs cells slots Z (F0 m pc lsA (.int x :: .int i :: .ref a :: rest)) := by
  refine W.iast hx hb hat (hA n (fun j => .int (f j))) (fun q => by cases q) (arr_sz hin) rfl rfl hdg fun H1 e1 z oq => kk H1 _ ?_ z oq
  show H1[a]? = some (vp_cell _ _)
  rw [e1, vp_cell_i, vp_cell_i, arrV_store]
  congr 2
  funext q
  by_cases hq : q = i.toNatClampNeg <;> simp [updV, va_up, hq]
theorem vbast {cA : ClassId} {n : Nat} {f : Nat → Int32} {i x : Int32} (hx : p.tables.exec = Jvm.exec) (hb : c.code = cc) (hA : ArrOfT s cA .byte) (hat : va_at D cls (a, .inl (cA, n, .inl f)) H) (hin : ¬ (i < 0 ∨ n ≤ i.toNatClampNeg)) (hdg : decode cc pc = .ok (.bastore, 1))
    (kk : ∀ (H1 : Heap) (sl : Nat), va_at D cls (a, .inl (cA, n, .inl (va_up f i.toNatClampNeg x.toInt8.toInt32))) H1 → H1.size = H.size → (∀ q : Nat, q ≠ a → H1[q]? = H[q]?) → W p l e Rm s m args below meth c H1 (locs ++ [⟨a, sl⟩]) cells slots Z (F0 m (pc + 1) lsA rest)) : W p l e Rm s m args below meth c H locs cells slots Z (F0 m pc lsA (.int x :: .int i :: .ref a :: rest)) := by
  refine W.bast hx hb hat (hA n (fun j => .int (f j))) (fun q => by cases q) (arr_sz hin) rfl rfl hdg fun H1 e1 z oq => kk H1 _ ?_ z oq
  show H1[a]? = some (vp_cell _ _)
  rw [e1, vp_cell_i, vp_cell_i, arrV_store, narrow_byte]
  congr 2
  funext q
  by_cases hq : q = i.toNatClampNeg <;> simp [updV, va_up, hq]
theorem vlast {cA : ClassId} {n : Nat} {f : Nat → Int64} {i : Int32} {x : Int64} (hx : p.tables.exec = Jvm.exec) (hb : c.code = cc) (hA : ArrOfT s cA .long) (hat : va_at D cls (a, .inl (cA, n, .inr (.inl f))) H) (hin : ¬ (i < 0 ∨ n ≤ i.toNatClampNeg)) (hdg : decode cc pc = .ok (.lastore, 1))
    (kk : ∀ (H1 : Heap) (sl : Nat), va_at D cls (a, .inl (cA, n, .inr (.inl (va_up f i.toNatClampNeg x)))) H1 → H1.size = H.size → (∀ q : Nat, q ≠ a → H1[q]? = H[q]?) → W p l e Rm s m args below meth c H1 (locs ++ [⟨a, sl⟩]) cells slots Z (F0 m (pc + 1) lsA rest)) : W p l e Rm s m args below meth c H locs cells slots Z (F0 m pc lsA (.long x :: .int i :: .ref a :: rest)) := by
  refine W.last hx hb hat (hA n (fun j => .long (f j))) (fun q => by cases q) (arr_sz hin) rfl rfl hdg fun H1 e1 z oq => kk H1 _ ?_ z oq
  show H1[a]? = some (vp_cell _ _)
  rw [e1, vp_cell_l, vp_cell_l, arrV_store]
  congr 2
  funext q
  by_cases hq : q = i.toNatClampNeg <;> simp [updV, va_up, hq]
theorem vaast {cA : ClassId} {n ci v : Nat} {C : String} {r : vw_C} {vs : List Value} {f : Nat → Option Nat} {i : Int32} (hx : p.tables.exec = Jvm.exec) (hb : c.code = cc) (hK : va_K D cls tys s) (hRA : va_RA s cA (.object C)) (hc : cls[ci]? = some r) (hC : r.1 = C) (hat : va_at D cls (a, .inl (cA, n, .inr (.inr (.inr (.inr f))))) H) (hav : va_at D cls (v, .inr (ci, vs)) H) (hin : ¬ (i < 0 ∨ n ≤ i.toNatClampNeg)) (hdg : decode cc pc = .ok (.aastore, 1))
    (kk : ∀ (H1 : Heap) (sl : Nat), va_at D cls (a, .inl (cA, n, .inr (.inr (.inr (.inr (va_up f i.toNatClampNeg (some v))))))) H1 → H1.size = H.size → (∀ q : Nat, q ≠ a → H1[q]? = H[q]?) → W p l e Rm s m args below meth c H1 (locs ++ [⟨a, sl⟩]) cells slots Z (F0 m (pc + 1) lsA rest)) : W p l e Rm s m args below meth c H locs cells slots Z (F0 m pc lsA (.ref v :: .int i :: .ref a :: rest)) := by
  subst hC
  have hlt : i.toNatClampNeg < n := Nat.not_le.mp fun q => hin (Or.inr q)
  have h0 : ¬ i < 0 := fun q => hin (Or.inl q)
  obtain ⟨r', hr', cellV, g1, g2, g3, -⟩ := hav
  have hcls := (hK.1 ci r hc).2
  obtain ⟨kA, comp, k1, k2, k3, -⟩ := hRA
  have hcomp : comp = D.1 ci := Option.some.inj (k3.symm.trans hcls.1)
  subst hcomp
  obtain ⟨kC, hkC, -⟩ := hcls.2
  refine W.aast hx hb hat (fun q h => by cases h) (fun h => by cases h) k1 k2 rfl hkC ⟨h0, by show _ < (arrV _ _ _).slots.size; rw [arrV_size]; exact hlt⟩ g1 (fun q h => by rw [g3] at h; cases h) (by rw [g2]; exact hkC) (by rw [g2]; exact va_assign hcls) rfl rfl hdg fun H1 e1 z oq => kk H1 _ ?_ z oq
  show H1[a]? = some (vp_cell _ _)
  rw [e1, vp_cell_q, vp_cell_q, arrV_store]
  congr 2
  funext q
  by_cases hq : q = i.toNatClampNeg <;> simp [updV, va_up, va_rf, hq]
end HP
theorem fv_len {ci a : Nat} {I : mI} {L : mL} {R : mR} : ((List.range (cF ci)).map (fun f => fv ci f a I L R)).length = cF ci := by simp
theorem fv_at {ci f a : Nat} {I : mI} {L : mL} {R : mR} (h : f < cF ci) : ((List.range (cF ci)).map (fun f => fv ci f a I L R))[f]? = some (fv ci f a I L R) := by
  rw [List.getElem?_map, List.getElem?_range h]; rfl
/-- the list of a cell's fields, one of them put -/
theorem fv_put {ci f a : Nat} {I I' : mI} {L L' : mL} {R R' : mR} {v : Value} (hf : fv ci f a I' L' R' = v) (ho : ∀ g, g ≠ f → I' a g = I a g ∧ L' a g = L a g ∧ R' a g = R a g) : (List.range (cF ci)).map (fun f => fv ci f a I' L' R') = ((List.range (cF ci)).map (fun f => fv ci f a I L R)).set f v := by
  apply List.ext_getElem?
  intro g
  rw [List.getElem?_set, List.getElem?_map, List.getElem?_map]
  by_cases hg : f = g
  · subst hg
    rw [if_pos rfl]
    by_cases hl : f < cF ci
    · rw [List.getElem?_range hl, if_pos (by simpa using hl)]
      simp [hf]
    · rw [if_neg (by simpa using hl), List.getElem?_eq_none (by simpa using hl)]
      rfl
  · rw [if_neg hg]
    have e : fv ci g a I' L' R' = fv ci g a I L R := by
      obtain ⟨h1, h2, h3⟩ := ho g (fun h => hg h.symm)
      unfold fv
      rw [h1, h2, h3]
    by_cases hl : g < cF ci
    · rw [List.getElem?_range hl]
      simp [e]
    · rw [List.getElem?_eq_none (by simpa using hl)]
      rfl
