/-! Soundness: array of references made, constants, copies, Math, calls. -/
section SD4
variable {l : Launch} {sz b Lx : Nat} {xs : Nat → Int32} {adK : Nat → Nat} {EvT : State → Prop} {D : va_G} {aC : Nat → ClassId}
variable {k n : Nat} {ρ : mB} {pc : Nat} {ls : mV} {st : List Value} {S : mS} {I : mI} {L : mL} {R : mR} {Q : mQ} {r : mRes}
theorem sd_anew {j : Nat} (hd : decode (mC k) pc = .ok (.anewarray j, n)) (he : exI k n ρ pc ls st S I L R (.anewarray j) = some r) (hv : SV l sz b Lx xs adK EvT D aC k (ρ, pc, ls, st, S, I, L, R) Q r) : V l sz b Lx xs adK EvT D aC k (ρ, pc, ls, st, S, I, L, R) Q := by
  unfold exI at he; dsimp only at he; unfold xANew at he
  split at he
  · rename_i x t
    split at he
    · rename_i hn
      obtain ⟨rfl, hx0, hx1⟩ := hn
      split at he
      · rename_i hg
        unfold mk at he
        split at he
        · rename_i hbud
          cases he
          intro p e Rm s m args below meth c H locs cells slots Z lsA C hR hS hl hret
          obtain ⟨hx, hb, hml, hown, hts, hK, hnm, hfr, hlo, hce, hsl, hsz, hE⟩ := id C
          obtain ⟨h1, h2, h3, hci⟩ := nM_ok hg
          dsimp only at h1 hbud hce hsl
          have hz := hR.1
          dsimp only at hz
          refine W.anew (C := "StiltMarsh$State") hx hb hown (hts _ (gTbl_in h1 rfl)) (va_AO.use hE.2.1) rfl hd rfl hx0 (by omega) (by omega) (by omega) fun cA kA comp f1 f2 f3 f4 => ?_
          have hcA : cA = aC 103 := by
            obtain ⟨_, _, _, _, _, h9⟩ := (hK.2 3 _ rfl).2
            exact Option.some.inj (f1.symm.trans h9)
          subst hcA
          rw [hz]
          have hk9 : kd (S.1 + 1, va_up S.2.1 S.1 103, va_up S.2.2 S.1 x.toNatClampNeg) S.1 = 103 := va_up_self _ _ _
          have hr2 := rE_s (aC := aC) (I := va_up I S.1 (fun _ => 0)) (L := va_up L S.1 (fun _ => 0)) (R := va_up R S.1 (fun _ => none)) hk9
          generalize hH1 : H.push ({ cls := aC 103, slots := Array.replicate x.toNatClampNeg .null, vm := .none } : Cell) = H1
          have z1 : H1.size = S.1 + 1 := by rw [← hH1, Array.size_push, hz]
          have o1 : ∀ q, q < S.1 → H1[q]? = H[q]? := fun q hq => by rw [← hH1, Array.getElem?_push, if_neg (by omega)]
          have e1 : H1[S.1]? = some (arrV (aC 103) x.toNatClampNeg (fun _ => .null)) := by rw [← hH1, ← hz, Array.getElem?_push_size, ← arrV_new]
          refine hv p e Rm s m args below meth c H1 locs (cells + 1) (slots + x.toNatClampNeg) Z lsA ⟨hx, hb, hml, hown, hts, hK, hnm, hfr, hlo, by dsimp only; omega, by dsimp only; omega, hsz, hE⟩ (hR.mk (by decide) hr2 ?_ z1 o1) ⟨Nat.le_trans hS.1 (by omega), fun x h5 h6 => (o1 x (by have := hS.1; omega)).trans (hS.2.1 x h5 h6), hS.2.2⟩ hl hret
          show H1[S.1]? = some (vp_cell _ _)
          rw [e1]
          simp only [va_up_self, ln]
          rfl
        · cases he
      · rename_i hg
        unfold mk at he
        split at he
        · rename_i hbud
          cases he
          intro p e Rm s m args below meth c H locs cells slots Z lsA C hR hS hl hret
          obtain ⟨hx, hb, hml, hown, hts, hK, hnm, hfr, hlo, hce, hsl, hsz, hE⟩ := id C
          obtain ⟨h1, h2, h3, hci⟩ := nM_ok hg
          dsimp only at h1 hbud hce hsl
          have hz := hR.1
          dsimp only at hz
          refine W.anew (C := "StiltMarsh$Stance") hx hb hown (hts _ (gTbl_in h1 rfl)) (va_AO.use hE.2.2.1) rfl hd rfl hx0 (by omega) (by omega) (by omega) fun cA kA comp f1 f2 f3 f4 => ?_
          have hcA : cA = aC 104 := by
            obtain ⟨_, _, _, _, _, h9⟩ := (hK.2 4 _ rfl).2
            exact Option.some.inj (f1.symm.trans h9)
          subst hcA
          rw [hz]
          have hk9 : kd (S.1 + 1, va_up S.2.1 S.1 104, va_up S.2.2 S.1 x.toNatClampNeg) S.1 = 104 := va_up_self _ _ _
          have hr2 := rE_t (aC := aC) (I := va_up I S.1 (fun _ => 0)) (L := va_up L S.1 (fun _ => 0)) (R := va_up R S.1 (fun _ => none)) hk9
          generalize hH1 : H.push ({ cls := aC 104, slots := Array.replicate x.toNatClampNeg .null, vm := .none } : Cell) = H1
          have z1 : H1.size = S.1 + 1 := by rw [← hH1, Array.size_push, hz]
          have o1 : ∀ q, q < S.1 → H1[q]? = H[q]? := fun q hq => by rw [← hH1, Array.getElem?_push, if_neg (by omega)]
          have e1 : H1[S.1]? = some (arrV (aC 104) x.toNatClampNeg (fun _ => .null)) := by rw [← hH1, ← hz, Array.getElem?_push_size, ← arrV_new]
          refine hv p e Rm s m args below meth c H1 locs (cells + 1) (slots + x.toNatClampNeg) Z lsA ⟨hx, hb, hml, hown, hts, hK, hnm, hfr, hlo, by dsimp only; omega, by dsimp only; omega, hsz, hE⟩ (hR.mk (by decide) hr2 ?_ z1 o1) ⟨Nat.le_trans hS.1 (by omega), fun x h5 h6 => (o1 x (by have := hS.1; omega)).trans (hS.2.1 x h5 h6), hS.2.2⟩ hl hret
          show H1[S.1]? = some (vp_cell _ _)
          rw [e1]
          simp only [va_up_self, ln]
          rfl
        · cases he
      · cases he
    · cases he
  · cases he
/-- what the String constants ask: their facts go along, and the three rows -/
def StrOK (l : Launch) (sz : Nat) (adK : Nat → Nat) (EvT : State → Prop) : Prop :=
  (∀ s U : State, EvT s → s.WarmedH U.vm → s.heap.size ≤ U.heap.size → (∀ q : Nat, q < s.heap.size → ¬ sz ≤ q → U.heap[q]? = s.heap[q]?) → EvT U) ∧
  (∀ (p : Program) (e : Env) (Rm : Room) (s : State) (m : MethodId) (args : Array Value) (below : List Frame) (meth : Method) (c : Code) (H : Heap) (locs : List Loc) (cells slots : Nat) (Z : State → Prop) (lsA : Array Slot) (pc o j i len : Nat) (cc : ByteArray) (st : List Value), p.tables.exec = Jvm.exec → c.code = cc → s.vm.findClass (cN o) = some m.cls → (∀ w ∈ gTbl, w.before args s = true) → EvT s → sM o j = some i → (decode cc pc = .ok (.ldc j, 2) ∧ len = 2) ∨ (decode cc pc = .ok (.ldc_w j, 3) ∧ len = 3) → W p l e Rm s m args below meth c H locs cells slots Z (F0 m (pc + len) lsA (.ref (adK i) :: st)) → W p l e Rm s m args below meth c H locs cells slots Z (F0 m pc lsA st)) ∧
  (∀ (p : Program) (e : Env) (Rm : Room) (s : State) (m : MethodId) (args : Array Value) (below : List Frame) (meth : Method) (c : Code) (H : Heap) (locs : List Loc) (cells slots : Nat) (Z : State → Prop) (lsA : Array Slot) (pc o j i : Nat) (cc : ByteArray) (st : List Value), p.tables.exec = Jvm.exec → c.code = cc → c.maxLocals = lsA.size → s.vm.findClass (cN o) = some m.cls → (∀ w ∈ gTbl, w.before args s = true) → EvT s → va_S (fun q : Nat => sz ≤ q) s.heap H locs → 4 ≤ Rm.frames → 300 ≤ Rm.locals → cells ≤ Rm.cells → slots ≤ Rm.slots → cw st ≤ 8 → i < 2 → Cond.methodLink (cN o) j (lY 11) ∈ lw_tbl → decode cc pc = .ok (.invokevirtual j, 3) → W p l e Rm s m args below meth c H locs cells slots Z (F0 m (pc + 3) lsA (.int (nI (strC i).length) :: st)) → W p l e Rm s m args below meth c H locs cells slots Z (F0 m pc lsA (.ref (adK i) :: st))) ∧
  (∀ (p : Program) (e : Env) (Rm : Room) (s : State) (m : MethodId) (args : Array Value) (below : List Frame) (meth : Method) (c : Code) (H : Heap) (locs : List Loc) (cells slots : Nat) (Z : State → Prop) (lsA : Array Slot) (pc o j i : Nat) (x : Int32) (cc : ByteArray) (st : List Value), p.tables.exec = Jvm.exec → c.code = cc → c.maxLocals = lsA.size → s.vm.findClass (cN o) = some m.cls → (∀ w ∈ gTbl, w.before args s = true) → EvT s → va_S (fun q : Nat => sz ≤ q) s.heap H locs → 4 ≤ Rm.frames → 300 ≤ Rm.locals → cells ≤ Rm.cells → slots ≤ Rm.slots → cw st ≤ 8 → i < 2 → Cond.methodLink (cN o) j (lY 12) ∈ lw_tbl → vp_in x (strC i).length → decode cc pc = .ok (.invokevirtual j, 3) → W p l e Rm s m args below meth c H locs cells slots Z (F0 m (pc + 3) lsA (.int (nI ((strC i).getD x.toNatClampNeg 0)) :: st)) → W p l e Rm s m args below meth c H locs cells slots Z (F0 m pc lsA (.int x :: .ref (adK i) :: st)))
theorem sd_ldc (hT : StrOK l sz adK EvT) {j : Nat} (hd : decode (mC k) pc = .ok (.ldc j, n)) (he : exI k n ρ pc ls st S I L R (.ldc j) = some r) (hv : SV l sz b Lx xs adK EvT D aC k (ρ, pc, ls, st, S, I, L, R) Q r) : V l sz b Lx xs adK EvT D aC k (ρ, pc, ls, st, S, I, L, R) Q := by
  unfold exI at he; dsimp only at he; unfold xLdc at he
  split at he
  · rename_i v hg
    unfold xPush at he
    split at he
    · rename_i hn
      cases he
      subst hn
      intro p e Rm s m args below meth c H locs cells slots Z lsA C hR hS hl hret
      obtain ⟨hx, hb, hml, hown, hts, hK, hnm, hfr, hlo, hce, hsl, hsz, hE⟩ := id C
      exact lv_ldc hx hb hown (hts _ (gTbl_in (iM_ok hg) rfl)) hd (hv p e Rm s m args below meth c H locs cells slots Z lsA C hR hS hl hret)
    · cases he
  · split at he
    · rename_i i hi
      split at he
      · rename_i hn
        split at he
        · rename_i q hq
          cases he
          subst hn
          intro p e Rm s m args below meth c H locs cells slots Z lsA C hR hS hl hret
          obtain ⟨hx, hb, hml, hown, hts, hK, hnm, hfr, hlo, hce, hsl, hsz, hE⟩ := id C
          have hi2 : i < 2 := by
            unfold sM at hi
            split at hi
            · cases hi; decide
            · split at hi
              · cases hi; decide
              · cases hi
          have hq2 := (hR.2.2.2.2.2.2.2.2.2.2.1 i hi2).1
          dsimp only at hq2
          have hqe : q = adK i := Option.some.inj (hq.symm.trans hq2)
          subst hqe
          exact hT.2.1 p e Rm s m args below meth c H locs cells slots Z lsA pc (mO k) j i 2 (mC k) st hx hb hown hts hE.2.2.2.2.2.2 hi (Or.inl ⟨hd, rfl⟩) (hv p e Rm s m args below meth c H locs cells slots Z lsA C hR hS hl hret)
        · cases he
      · cases he
    · cases he
theorem sd_ldc_w (hT : StrOK l sz adK EvT) {j : Nat} (hd : decode (mC k) pc = .ok (.ldc_w j, n)) (he : exI k n ρ pc ls st S I L R (.ldc_w j) = some r) (hv : SV l sz b Lx xs adK EvT D aC k (ρ, pc, ls, st, S, I, L, R) Q r) : V l sz b Lx xs adK EvT D aC k (ρ, pc, ls, st, S, I, L, R) Q := by
  unfold exI at he; dsimp only at he; unfold xLdc at he
  split at he
  · rename_i v hg
    unfold xPush at he
    split at he
    · rename_i hn
      cases he
      subst hn
      intro p e Rm s m args below meth c H locs cells slots Z lsA C hR hS hl hret
      obtain ⟨hx, hb, hml, hown, hts, hK, hnm, hfr, hlo, hce, hsl, hsz, hE⟩ := id C
      exact lv_ldcw hx hb hown (hts _ (gTbl_in (iM_ok hg) rfl)) hd (hv p e Rm s m args below meth c H locs cells slots Z lsA C hR hS hl hret)
    · cases he
  · split at he
    · rename_i i hi
      split at he
      · rename_i hn
        split at he
        · rename_i q hq
          cases he
          subst hn
          intro p e Rm s m args below meth c H locs cells slots Z lsA C hR hS hl hret
          obtain ⟨hx, hb, hml, hown, hts, hK, hnm, hfr, hlo, hce, hsl, hsz, hE⟩ := id C
          have hi2 : i < 2 := by
            unfold sM at hi
            split at hi
            · cases hi; decide
            · split at hi
              · cases hi; decide
              · cases hi
          have hq2 := (hR.2.2.2.2.2.2.2.2.2.2.1 i hi2).1
          dsimp only at hq2
          have hqe : q = adK i := Option.some.inj (hq.symm.trans hq2)
          subst hqe
          exact hT.2.1 p e Rm s m args below meth c H locs cells slots Z lsA pc (mO k) j i 3 (mC k) st hx hb hown hts hE.2.2.2.2.2.2 hi (Or.inr ⟨hd, rfl⟩) (hv p e Rm s m args below meth c H locs cells slots Z lsA C hR hS hl hret)
        · cases he
      · cases he
    · cases he
section CP
variable {p : Program} {e : Env} {Rm : Room} {s : State} {m : MethodId} {args : Array Value} {below : List Frame} {meth : Method} {c : Code} {H : Heap} {locs : List Loc} {cells slots : Nat} {Z : State → Prop} {cc : ByteArray} {lsA : Array Slot} {rest : List Value} {a : Nat}
theorem i32n {z : Int32} (h : ¬ z < 0) : z.toInt = (z.toNatClampNeg : Int) := by
  have h0 : (0 : Int) ≤ z.toInt := by
    have := Int32.not_lt.mp h
    simpa using Int32.le_iff_toInt_le.mp this
  show z.toInt = ((z.toInt.toNat : Nat) : Int)
  omega
/-- a copy between two arrays of numbers of one class -/
theorem vcopy {α : Type} (φ : α → Value) {o j : Nat} {ty : FieldType} {a0 : Nat} {cA : ClassId} {n0 n1 : Nat} {f g : Nat → α} (va : Nat → (Nat → α) → vp_A) (hva : ∀ n f, vp_cell cA (va n f) = arrV cA n (fun j => φ (f j))) (hx : p.tables.exec = Jvm.exec) (hb : c.code = cc) (hml : c.maxLocals = lsA.size) (hown : s.vm.findClass (cN o) = some m.cls) (hts : ∀ w ∈ gTbl, w.before args s = true) (hlk : Cond.methodLink (cN o) j arraycopyName ∈ lw_tbl) (hA : ArrOfT s cA ty) (hc0 : va_at D cls (a0, .inl (cA, va n0 f)) H) (hc1 : va_at D cls (a, .inl (cA, va n1 g)) H) (hprim : refKind ty = false)
    {sp dp n : Int32} (h1 : ¬ sp < 0) (h2 : ¬ dp < 0) (h3 : ¬ n < 0) (h4 : sp.toNatClampNeg + n.toNatClampNeg ≤ n0) (h5 : dp.toNatClampNeg + n.toNatClampNeg ≤ n1) (hfit : ∀ z : α, fits ty (φ z) = true) (hpl : ∀ z : α, refKind ty = false) (hframes : 1 ≤ Rm.frames) (hlocals : cw rest + (nativeFrameWords "java/lang/System" "arraycopy" 5 + 11) ≤ Rm.locals) (hdg : decode cc pc = .ok (.invokestatic j, 3))
    (hcp : copied (arrV cA n0 (fun j => φ (f j))) (arrV cA n1 (fun j => φ (g j))) sp dp n = arrV cA n1 (fun j => φ (va_cpy f g sp.toNatClampNeg dp.toNatClampNeg n.toNatClampNeg j)))
    (kk : ∀ (H1 : Heap) (L1 : List Loc), va_at D cls (a, .inl (cA, va n1 (va_cpy f g sp.toNatClampNeg dp.toNatClampNeg n.toNatClampNeg))) H1 → H1.size = H.size → (∀ q : Nat, q ≠ a → H1[q]? = H[q]?) → (∀ x ∈ L1, x.base = a) → W p l e Rm s m args below meth c H1 (locs ++ L1) cells slots Z (F0 m (pc + 3) lsA rest)) : W p l e Rm s m args below meth c H locs cells slots Z (F0 m pc lsA (.int n :: .int dp :: .ref a :: .int sp :: .ref a0 :: rest)) := by
  intro T hT X
  have g0 : H[a0]? = some (arrV cA n0 (fun j => φ (f j))) := by have h := hc0; unfold va_at at h; dsimp only at h; rw [hva] at h; exact h
  have g1 : H[a]? = some (arrV cA n1 (fun j => φ (g j))) := by have h := hc1; unfold va_at at h; dsimp only at h; rw [hva] at h; exact h
  obtain ⟨-, k0, hk0, cm0, hkk0⟩ := hA n0 (fun j => φ (f j))
  obtain ⟨-, k1, hk1, cm1, hkk1⟩ := hA n1 (fun j => φ (g j))
  obtain ⟨vm', X', step⟩ := X.arraycopy hx hown (hts _ (gTbl_in hlk rfl)) (hts _ (gTbl_in (me_3 (List.mem_of_getElem? (i := 186) rfl)) rfl)) (hts _ (gTbl_in (me_3 (List.mem_of_getElem? (i := 185) rfl)) rfl)) (hts _ (gTbl_in (me_1 (List.mem_of_getElem? (i := 19) rfl)) rfl)) (src := a0) (dst := a) (cs := arrV cA n0 (fun j => φ (f j))) (cd := arrV cA n1 (fun j => φ (g j))) (srcPos := sp) (destPos := dp) (n := n) (by rw [hT]; exact g0) (by rw [hT]; exact g1)
    (fun _ h => by cases h) (fun _ h => by cases h) (fun h => by cases h) (fun h => by cases h) hk0 hk1 hkk0 hkk1 (by simp [hprim]) h1 h2 h3
    (by rw [i32n h1, i32n h3, arrV_size]; omega)
    (by rw [i32n h2, i32n h3, arrV_size]; omega)
    (fun vm₁ _ i hi => by
      have e0 : (arrV cA n0 (fun j => φ (f j))).slots.getD (sp.toNatClampNeg + i) .null = φ (f (sp.toNatClampNeg + i)) := by
        rw [Array.getD_eq_getD_getElem?, arrV_read _ _ (by omega)]
        rfl
      rw [e0]
      refine ⟨hfit _, ?_⟩
      have h9 := hfit (f (sp.toNatClampNeg + i))
      cases hz : φ (f (sp.toNatClampNeg + i)) <;> first | exact trivial | (rw [hz] at h9; cases ty <;> simp [fits, refKind] at h9 hprim))
    (g := F0 m pc lsA (.int n :: .int dp :: .ref a :: .int sp :: .ref a0 :: rest)) rfl (by rw [hml]) (rest := rest) rfl (by rw [hb]; exact hdg) hframes (by show 2 * 0 + _ + _ ≤ _; unfold cw at hlocals; omega)
  rw [hcp] at X' step
  have hl : a < H.size := (Array.getElem?_eq_some_iff.mp g1).1
  generalize hnew : arrV cA n1 (fun j => φ (va_cpy f g sp.toNatClampNeg dp.toNatClampNeg n.toNatClampNeg j)) = nw at X' step
  have hheap : ((T.setVm vm').setCell a nw).heap = H.setIfInBounds a nw := by rw [← hT]; rfl
  obtain ⟨t, a1, b1⟩ := kk (H.setIfInBounds a nw) _ (show (H.setIfInBounds a nw)[a]? = some (vp_cell cA _) by rw [hva, hnew]; simp [Array.getElem?_setIfInBounds, hl]) (by simp) (fun q hq => by simp [Array.getElem?_setIfInBounds, Ne.symm hq]) (fun x hx => by
      obtain ⟨z, -, hz⟩ := List.mem_map.mp hx
      rw [← hz]) _ hheap X'
  exact ⟨t, step t a1, b1⟩
end CP
theorem nfw : nativeFrameWords "java/lang/System" "arraycopy" 5 ≤ 30 := by decide +kernel
theorem va_S_puts {A : Nat → Prop} {H0 H H1 : Heap} {locs L1 : List Loc} {a : Nat} (h : va_S A H0 H locs) (z : H1.size = H.size) (oq : ∀ q : Nat, q ≠ a → H1[q]? = H[q]?) (ha : A a) (hL : ∀ x ∈ L1, x.base = a) : va_S A H0 H1 (locs ++ L1) := by
  refine ⟨by rw [z]; exact h.1, fun q h1 h2 => ?_, fun q hq => ?_⟩
  · rw [oq q (fun e => h2 (by rw [e]; exact ha))]
    exact h.2.1 q h1 h2
  · rcases List.mem_append.mp hq with h1 | h1
    · exact h.2.2 q h1
    · rw [hL q h1]; exact ha
theorem sd_copy {j x1 x2 : Nat} (hg : lM (mO k) j = some (6, x1, x2)) (hd : decode (mC k) pc = .ok (.invokestatic j, n)) (he : xCopy n ρ pc ls st S I L R = some r) (hv : SV l sz b Lx xs adK EvT D aC k (ρ, pc, ls, st, S, I, L, R) Q r) : V l sz b Lx xs adK EvT D aC k (ρ, pc, ls, st, S, I, L, R) Q := by
  unfold xCopy at he
  split at he
  · rename_i m0 dp b2 sp a t
    split at he
    · rename_i hn
      obtain ⟨rfl, hd1, hw, h1, h2, h3, h4, h5⟩ := hn
      have hlk : Cond.methodLink (cN (mO k)) j arraycopyName ∈ lw_tbl := (lM_ok hg).2
      split at he
      · rename_i hkk
        obtain ⟨hka, hkb⟩ := hkk
        cases he
        intro p e Rm s m args below meth c H locs cells slots Z lsA C hR hS hl hret
        obtain ⟨hx, hb, hml, hown, hts, hK, hnm, hfr, hlo, hce, hsl, hsz, hE⟩ := id C
        dsimp only at hfr hlo
        have hkl : kd S b2 < 105 := by rw [hkb]; decide
        refine vcopy (fun z : Int32 => Value.int z) (fun n f => (n, .inl f)) (fun _ _ => rfl) hx hb (by rw [hml]; exact hl.1.symm) hown hts hlk (hK.2 0 _ rfl).1 (hR.2.2.2.1 _ _ (rE_i hka)) (hR.2.2.2.1 _ _ (rE_i hkb)) rfl h1 h2 h3 h4 h5 (fun _ => rfl) (fun _ => rfl) (by omega) (by have := nfw; omega) hd (va_copied (fun z : Int32 => Value.int z) _ _ _ _ h4) (fun H1 L1 hat z oq hL => ?_)
        have hr2 := rE_i (aC := aC) (I := (va_up I b2 (va_cpy (I a) (I b2) sp.toNatClampNeg dp.toNatClampNeg m0.toNatClampNeg))) (L := L) (R := R) hkb
        refine hv p e Rm s m args below meth c H1 _ cells slots Z lsA C (hR.up hkl (fun q h => by simp [va_up, h]) (fun q h => by simp [va_up, h]) (fun q h => rfl) hr2 ?_ z oq) (va_S_puts hS z oq (hR.kc hkl) hL) hl hret
        simpa [va_up] using hat
      · split at he
        · rename_i hkk
          obtain ⟨hka, hkb⟩ := hkk
          cases he
          intro p e Rm s m args below meth c H locs cells slots Z lsA C hR hS hl hret
          obtain ⟨hx, hb, hml, hown, hts, hK, hnm, hfr, hlo, hce, hsl, hsz, hE⟩ := id C
          dsimp only at hfr hlo
          have hkl : kd S b2 < 105 := by rw [hkb]; decide
          refine vcopy (fun z : Int64 => Value.long z) (fun n f => (n, .inr (.inl f))) (fun _ _ => rfl) hx hb (by rw [hml]; exact hl.1.symm) hown hts hlk (hK.2 1 _ rfl).1 (hR.2.2.2.1 _ _ (rE_l hka)) (hR.2.2.2.1 _ _ (rE_l hkb)) rfl h1 h2 h3 h4 h5 (fun _ => rfl) (fun _ => rfl) (by omega) (by have := nfw; omega) hd (va_copied (fun z : Int64 => Value.long z) _ _ _ _ h4) (fun H1 L1 hat z oq hL => ?_)
          have hr2 := rE_l (aC := aC) (I := I) (L := (va_up L b2 (va_cpy (L a) (L b2) sp.toNatClampNeg dp.toNatClampNeg m0.toNatClampNeg))) (R := R) hkb
          refine hv p e Rm s m args below meth c H1 _ cells slots Z lsA C (hR.up hkl (fun q h => by simp [va_up, h]) (fun q h => by simp [va_up, h]) (fun q h => rfl) hr2 ?_ z oq) (va_S_puts hS z oq (hR.kc hkl) hL) hl hret
          simpa [va_up] using hat
        · cases he
    · cases he
  · cases he
theorem sd_m7 {j x1 x2 : Nat} (hg : lM (mO k) j = some (7, x1, x2)) (hd : decode (mC k) pc = .ok (.invokestatic j, n)) (he : xM7 n ρ pc ls st S I L R = some r) (hv : SV l sz b Lx xs adK EvT D aC k (ρ, pc, ls, st, S, I, L, R) Q r) : V l sz b Lx xs adK EvT D aC k (ρ, pc, ls, st, S, I, L, R) Q := by
  unfold xM7 at he
  split at he
  · split at he
    · rename_i hn
      obtain ⟨rfl, hd1, hw⟩ := hn
      have hlk : Cond.methodLink (cN (mO k)) j (lY 7) ∈ lw_tbl := (lM_ok hg).2
      cases he
      intro p e Rm s m args below meth c H locs cells slots Z lsA C hR hS hl hret
      obtain ⟨hx, hb, hml, hown, hts, hK, hnm, hfr, hlo, hce, hsl, hsz, hE⟩ := id C
      dsimp only at hfr hlo hce hsl
      exact va_mmax hx hb (by rw [hml]; exact hl.1.symm) hown (hts _ (gTbl_in hlk rfl)) (hts _ (gTbl_in (me_5 (List.mem_of_getElem? (i := 187) rfl)) rfl)) (hts _ (gTbl_in (me_1 (List.mem_of_getElem? (i := 20) rfl)) rfl)) (hts _ (gTbl_in (w := .code Lib.Math.max.name Lib.Math.max.code 2 (some .int)) (me_5 (List.mem_of_getElem? (i := 188) rfl)) rfl)) (by omega) (by unfold cw at hw; omega) (by omega) (by omega) hd (hv p e Rm s m args below meth c H locs cells slots Z lsA C hR hS hl hret)
    · cases he
  · cases he
theorem sd_m8 {j x1 x2 : Nat} (hg : lM (mO k) j = some (8, x1, x2)) (hd : decode (mC k) pc = .ok (.invokestatic j, n)) (he : xM8 n ρ pc ls st S I L R = some r) (hv : SV l sz b Lx xs adK EvT D aC k (ρ, pc, ls, st, S, I, L, R) Q r) : V l sz b Lx xs adK EvT D aC k (ρ, pc, ls, st, S, I, L, R) Q := by
  unfold xM8 at he
  split at he
  · split at he
    · rename_i hn
      obtain ⟨rfl, hd1, hw⟩ := hn
      have hlk : Cond.methodLink (cN (mO k)) j (lY 8) ∈ lw_tbl := (lM_ok hg).2
      cases he
      intro p e Rm s m args below meth c H locs cells slots Z lsA C hR hS hl hret
      obtain ⟨hx, hb, hml, hown, hts, hK, hnm, hfr, hlo, hce, hsl, hsz, hE⟩ := id C
      dsimp only at hfr hlo hce hsl
      exact va_mmin hx hb (by rw [hml]; exact hl.1.symm) hown (hts _ (gTbl_in hlk rfl)) (hts _ (gTbl_in (me_3 (List.mem_of_getElem? (i := 204) rfl)) rfl)) (hts _ (gTbl_in (me_1 (List.mem_of_getElem? (i := 20) rfl)) rfl)) (hts _ (gTbl_in (w := .code Lib.Math.min.name Lib.Math.min.code 2 (some .int)) (me_3 (List.mem_of_getElem? (i := 205) rfl)) rfl)) (by omega) (by unfold cw at hw; omega) (by omega) (by omega) hd (hv p e Rm s m args below meth c H locs cells slots Z lsA C hR hS hl hret)
    · cases he
  · cases he
theorem sd_m9 {j x1 x2 : Nat} (hg : lM (mO k) j = some (9, x1, x2)) (hd : decode (mC k) pc = .ok (.invokestatic j, n)) (he : xM9 n ρ pc ls st S I L R = some r) (hv : SV l sz b Lx xs adK EvT D aC k (ρ, pc, ls, st, S, I, L, R) Q r) : V l sz b Lx xs adK EvT D aC k (ρ, pc, ls, st, S, I, L, R) Q := by
  unfold xM9 at he
  split at he
  · split at he
    · rename_i hn
      obtain ⟨rfl, hd1, hw⟩ := hn
      have hlk : Cond.methodLink (cN (mO k)) j (lY 9) ∈ lw_tbl := (lM_ok hg).2
      cases he
      intro p e Rm s m args below meth c H locs cells slots Z lsA C hR hS hl hret
      obtain ⟨hx, hb, hml, hown, hts, hK, hnm, hfr, hlo, hce, hsl, hsz, hE⟩ := id C
      dsimp only at hfr hlo hce hsl
      exact va_mabs hx hb (by rw [hml]; exact hl.1.symm) hown (hts _ (gTbl_in hlk rfl)) (hts _ (gTbl_in (me_8 (List.mem_of_getElem? (i := 212) rfl)) rfl)) (hts _ (gTbl_in (me_1 (List.mem_of_getElem? (i := 20) rfl)) rfl)) (hts _ (gTbl_in (w := .code Lib.Math.abs.name Lib.Math.abs.code 1 (some .int)) (me_8 (List.mem_of_getElem? (i := 213) rfl)) rfl)) (by omega) (by unfold cw at hw; omega) (by omega) (by omega) hd (hv p e Rm s m args below meth c H locs cells slots Z lsA C hR hS hl hret)
    · cases he
  · cases he
theorem sd_m10 {j x1 x2 : Nat} (hg : lM (mO k) j = some (10, x1, x2)) (hd : decode (mC k) pc = .ok (.invokestatic j, n)) (he : xM10 n ρ pc ls st S I L R = some r) (hv : SV l sz b Lx xs adK EvT D aC k (ρ, pc, ls, st, S, I, L, R) Q r) : V l sz b Lx xs adK EvT D aC k (ρ, pc, ls, st, S, I, L, R) Q := by
  unfold xM10 at he
  split at he
  · split at he
    · rename_i hn
      obtain ⟨rfl, hd1, hw⟩ := hn
      have hlk : Cond.methodLink (cN (mO k)) j (lY 10) ∈ lw_tbl := (lM_ok hg).2
      cases he
      intro p e Rm s m args below meth c H locs cells slots Z lsA C hR hS hl hret
      obtain ⟨hx, hb, hml, hown, hts, hK, hnm, hfr, hlo, hce, hsl, hsz, hE⟩ := id C
      dsimp only at hfr hlo hce hsl
      exact va_mmax_long hx hb (by rw [hml]; exact hl.1.symm) hown (hts _ (gTbl_in hlk rfl)) (hts _ (gTbl_in (me_6 (List.mem_of_getElem? (i := 172) rfl)) rfl)) (hts _ (gTbl_in (me_1 (List.mem_of_getElem? (i := 20) rfl)) rfl)) (hts _ (gTbl_in (w := .code Lib.MathLoose.max_long.x Lib.MathLoose.max_long.code 4 (some .long)) (me_6 (List.mem_of_getElem? (i := 173) rfl)) rfl)) (by omega) (by unfold cw at hw; omega) (by omega) (by omega) hd (hv p e Rm s m args below meth c H locs cells slots Z lsA C hR hS hl hret)
    · cases he
  · cases he
theorem sd_obj {j x1 x2 : Nat} (hg : lM (mO k) j = some (3, x1, x2)) (hd : decode (mC k) pc = .ok (.invokespecial j, n)) (he : xN3 n ρ pc ls st S I L R = some r) (hv : SV l sz b Lx xs adK EvT D aC k (ρ, pc, ls, st, S, I, L, R) Q r) : V l sz b Lx xs adK EvT D aC k (ρ, pc, ls, st, S, I, L, R) Q := by
  unfold xN3 at he
  split at he
  · split at he
    · rename_i hn
      obtain ⟨rfl, hd1, hw⟩ := hn
      have hlk : Cond.methodLink (cN (mO k)) j (lY 3) ∈ lw_tbl := (lM_ok hg).2
      cases he
      intro p e Rm s m args below meth c H locs cells slots Z lsA C hR hS hl hret
      obtain ⟨hx, hb, hml, hown, hts, hK, hnm, hfr, hlo, hce, hsl, hsz, hE⟩ := id C
      dsimp only at hfr hlo hce hsl
      exact W.objInit hx hb hown (hts _ (gTbl_in hlk rfl)) (hts _ (gTbl_in (w := .instanceMethod Lib.objectInit) (me_1 (List.mem_of_getElem? (i := 28) rfl)) rfl)) (hts _ (gTbl_in (w := .code Lib.objectInit ⟨#[0xb1]⟩ 1 none) (me_1 (List.mem_of_getElem? (i := 29) rfl)) rfl)) rfl (by rw [hml]; exact hl.1) rfl hd (by omega) (by show 2 * 0 + _ + _ ≤ _; unfold cw at hw; omega) (hv p e Rm s m args below meth c H locs cells slots Z lsA C hR hS hl hret)
    · cases he
  · cases he
/-- the facts that go along -/
theorem EvS.go (hT : StrOK l sz adK EvT) {s U : State} (h : EvS sz b Lx xs EvT s) (hW : s.WarmedH U.vm) (hz : s.heap.size ≤ U.heap.size) (hq : ∀ q : Nat, q < s.heap.size → ¬ sz ≤ q → U.heap[q]? = s.heap[q]?) : EvS sz b Lx xs EvT U := by
  obtain ⟨h1, h2, h3, h4, h5, h6, h7⟩ := h
  exact ⟨fun t ht => va_Nw.warmM hW (h1 t ht), va_AO.moved hW.alike h2, va_AO.moved hW.alike h3, (h4.kept (hq b h5 (by omega))).moved hW.alike, Nat.lt_of_lt_of_le h5 hz, h6, hT.1 s U h7 hW hz hq⟩
def rmF (k' d' : Nat) : Room := { frames := d', cells := (mcs k').1, slots := (mcs k').2, locals := 60 * d' + 60 }
def wsF (k' : Nat) : List Cond := Cond.code (mY k') (mC k') (mN k') (mT k') :: gTbl
def PcF (sz b Lx : Nat) (xs : Nat → Int32) (adK : Nat → Nat) (EvT : State → Prop) (D : va_G) (aC : Nat → ClassId) (as : List Value) (S : mS) (I : mI) (L : mL) (R : mR) : Array Value → State → Prop := va_Pc as (fun U => Rep sz b Lx xs adK D aC S I L R U.heap ∧ va_K D cls (tyL aC) U ∧ EvS sz b Lx xs EvT U)
def QcF (sz b Lx : Nat) (xs : Nat → Int32) (adK : Nat → Nat) (D : va_G) (aC : Nat → ClassId) (Q' : mQ) : Array Value → State → Outcome → State → Prop := fun _ st oc t => (∃ (v : Option Value) (S : mS) (I : mI) (L : mL) (R : mR), oc = .returned v ∧ Q' v S I L R ∧ Rep sz b Lx xs adK D aC S I L R t.heap) ∧ va_F (fun q : Nat => sz ≤ q) st t
theorem met_V {k' d' : Nat} {as : List Value} {Q' : mQ} (hcls : (mY k').cls = cN (mO k')) (hpl : plainName (mY k').cls = true) (hsl : (lsa as).length ≤ mN k') (hV : V l sz b Lx xs adK EvT D aC k' ((d', (mcs k').1, (mcs k').2), 0, lse (mN k') as, [], S, I, L, R) Q') :
    Met l (mY k') (wsF k') (rmF k' d') (PcF sz b Lx xs adK EvT D aC as S I L R) (QcF sz b Lx xs adK D aC Q') (mcs k').1 (mcs k').2 (fun q : Nat => sz ≤ q) := by
  refine Met.ofW (cc := mC k') (maxL := mN k') (ret := mT k') hpl rfl ?_
  intro p e s m args below meth c s₁ B hml hv
  obtain ⟨rfl, hRep, hK, hE⟩ := hv
  have hts := atoms_spec (ws := wsF k') B.pre
  have hown : s.vm.findClass (cN (mO k')) = some m.cls := hcls ▸ findClass_of_methodNamed B.named
  rw [lg_entry_eq]
  refine hV p e _ s m _ below meth c s.heap [] 0 0 _ _ ⟨B.exec, B.bytes, hml, hown, fun w hw => hts w (List.mem_cons_of_mem _ hw), hK, (name_of_methodNamed B.named B.method).1, Nat.le_refl _, Nat.le_refl _, Nat.le_of_eq (Nat.zero_add _), Nat.le_of_eq (Nat.zero_add _), by rw [hRep.1]; exact hRep.2.1, hE⟩ hRep va_S.rf (lvR_entry hsl) ?_
  intro pc' lsA' S' I' L' R' H' locs' cells' slots' v i hd hret hq hR' hS' hc hs'
  refine W.widen hc hs' ?_
  have hfin : ∀ t : State, t.heap = H' → s.WarmedH t.vm → QcF sz b Lx xs adK D aC Q' as.toArray s (.returned v) t := fun t ht hW => ⟨⟨v, S', I', L', R', rfl, hq, by rw [ht]; exact hR'⟩, hS'.F ht⟩
  have hlocs : ∀ q ∈ locs', (fun q : Nat => sz ≤ q) q.base := hS'.2.2
  rcases hret with ⟨x, rfl, rfl, hT | ⟨hT, hx⟩⟩ | ⟨x, rfl, rfl, hT⟩ | ⟨x, rfl, rfl, hT⟩ | ⟨rfl, rfl, hT⟩
  · exact W.iret B.exec B.bytes (B.returns.trans hT) hfin hlocs hd
  · exact W.zret B.exec B.bytes (B.returns.trans hT) (by rcases hx with rfl | rfl <;> decide) hfin hlocs hd
  · exact W.lret B.exec B.bytes (B.returns.trans hT) hfin hlocs hd
  · exact W.aret B.exec B.bytes (B.returns.trans hT) (Or.inl ⟨_, rfl⟩) (Or.inr ⟨_, rfl⟩) hfin hlocs hd
  · exact W.vret B.exec B.bytes (B.returns.trans hT) hfin hlocs hd
theorem PcF_blind {as : List Value} (hT : StrOK l sz adK EvT) : FrameBlind (PcF sz b Lx xs adK EvT D aC as S I L R) := by
  intro a U g mk h
  obtain ⟨h1, h2, h3, h4⟩ := h
  exact ⟨h1, h2, va_K.moved (u := U) (U := U.calling g mk a) (Vm.Alike.refl U.vm) h3, EvS.go hT h4 (U := U.calling g mk a) (State.WarmedH.refl U) (Nat.le_refl _) (fun _ _ _ => rfl)⟩
theorem PcF_at {as : List Value} {s : State} {H : Heap} {locs : List Loc} (hT : StrOK l sz adK EvT) (hR : Rep sz b Lx xs adK D aC S I L R H) (hK : va_K D cls (tyL aC) s) (hE : EvS sz b Lx xs EvT s) (hS : va_S (fun q : Nat => sz ≤ q) s.heap H locs) : ∀ U : State, U.heap = H → s.WarmedH U.vm → PcF sz b Lx xs adK EvT D aC as S I L R as.toArray U := by
  intro U hU hW
  exact ⟨rfl, by rw [hU]; exact hR, va_K.moved hW.alike hK, EvS.go hT hE hW (by rw [hU]; exact hS.1) (fun q h1 h2 => by rw [hU]; exact hS.2.1 q h1 h2)⟩
section RUN
variable {p : Program} {e : Env} {Rm : Room} {s : State} {m : MethodId} {args : Array Value} {below : List Frame} {meth : Method} {c : Code} {H : Heap} {locs : List Loc} {cells slots : Nat} {Z : State → Prop} {lsA : Array Slot} {rest st0 : List Value}
theorem run_W {mc ms : Nat} {a0 : Array Value} {Q' : mQ} (hr : va_Run p l e Rm s m args below meth c H locs cells slots mc ms (F0 m pc lsA st0) rest (QcF sz b Lx xs adK D aC Q' a0) (fun q : Nat => sz ≤ q)) (hS : va_S (fun q : Nat => sz ≤ q) s.heap H locs)
    (kk : ∀ (v : Option Value) (S : mS) (I : mI) (L : mL) (R : mR) (H1 : Heap) (locs1 : List Loc), Q' v S I L R → Rep sz b Lx xs adK D aC S I L R H1 → va_S (fun q : Nat => sz ≤ q) s.heap H1 locs1 → W p l e Rm s m args below meth c H1 locs1 (cells + mc) (slots + ms) Z (F0 m (pc + 3) lsA (v.toList ++ rest))) : W p l e Rm s m args below meth c H locs cells slots Z (F0 m pc lsA st0) := by
  intro T hT X
  obtain ⟨v, st₀, t, T', L0, h0, X', hL, e1, e2, ⟨⟨v', S', I', L', R', hv, hq, hRep⟩, hz, hk⟩, stp⟩ := hr T hT X
  cases hv
  rw [h0] at hz hk
  obtain ⟨t2, a1, b1⟩ := kk v S' I' L' R' T'.heap (locs ++ L0) hq (by rw [e1]; exact hRep) ⟨Nat.le_trans hS.1 (by rw [e1]; exact hz), fun q h1 h2 => by rw [e1, hk q (Nat.lt_of_lt_of_le h1 hS.1) h2]; exact hS.2.1 q h1 h2, fun q hq => by
      rcases List.mem_append.mp hq with h | h
      · exact hS.2.2 q h
      · exact hL q h⟩ T' rfl X'
  exact ⟨t2, stp t2 a1, b1⟩
end RUN
theorem wsF_in {k' : Nat} (h : Cond.code (mY k') (mC k') (mN k') (mT k') ∈ lw_tbl) : ∀ w ∈ wsF k', w ∈ gTbl := by
  intro w hw
  rcases List.mem_cons.mp hw with rfl | hw
  · exact gTbl_in h rfl
  · exact hw
theorem cl_spec {k' : Nat} {as rest : List Value} (he : cl ρ k' as rest = some r) : r = .inr (.inr (k', as, rest)) ∧ 1 ≤ ρ.1 ∧ (mcs k').1 ≤ ρ.2.1 ∧ (mcs k').2 ≤ ρ.2.2 ∧ cw rest ≤ 8 ∧ (lsa as).length ≤ mN k' := by
  unfold cl at he
  split at he
  · rename_i h
    cases he
    exact ⟨rfl, h⟩
  · cases he
theorem V0_cls {c j k' na : Nat} (hg : lM c j = some (0, k', na)) : mO k' < 13 := by
  have h0 : ∀ t ∈ lTab, t.2.2.1 = 0 → mO t.2.2.2.1 < 13 := by decide +kernel
  unfold lM at hg
  cases hf : lTab.find? (fun t => Nat.beq t.1 c && Nat.beq t.2.1 j) with
  | none => rw [hf] at hg; cases hg
  | some t =>
    rw [hf] at hg
    have h2 := h0 t (List.mem_of_find?_eq_some hf)
    obtain ⟨t1, t2, t3⟩ := t
    cases hg
    exact h2 rfl
theorem sd_V0 (hT : StrOK l sz adK EvT) {j k' na : Nat} (hg : lM (mO k) j = some (0, k', na)) (hd : decode (mC k) pc = .ok (.invokevirtual j, n)) (he : xV0 n ρ st S k' na = some r) (hv : SV l sz b Lx xs adK EvT D aC k (ρ, pc, ls, st, S, I, L, R) Q r) : V l sz b Lx xs adK EvT D aC k (ρ, pc, ls, st, S, I, L, R) Q := by
  unfold xV0 at he
  split at he
  · rename_i b2 rest hst
    split at he
    · rename_i hn
      obtain ⟨rfl, hna, hkb⟩ := hn
      obtain ⟨rfl, hd1, hmc, hms, hw, hsl9⟩ := cl_spec he
      obtain ⟨Q', hV, hQ2⟩ := hv
      dsimp only at hV hQ2 hd1 hmc hms
      obtain ⟨hlk, hco, hcn, hini, hpl, hdesc, hml40, hkind⟩ := lM_ok hg
      dsimp only at hlk hco hcn hini hpl hdesc hml40 hkind
      have hwg := wsF_in hco
      obtain ⟨-, hin, hse⟩ : 0 = 0 ∧ Cond.instanceMethod (mY k') ∈ lw_tbl ∧ Cond.selects (mY k').cls (mY k') (mY k') ∈ lw_tbl := by
        rcases hkind with h | ⟨h, -⟩ | ⟨h, -⟩
        · exact h
        · cases h
        · cases h
      intro p e Rm s m args below meth c H locs cells slots Z lsA C hR hS hl hret
      obtain ⟨hx, hb, hml, hown, hts, hK, hnm, hfr, hlo, hce, hsl, hsz, hE⟩ := id C
      dsimp only at hfr hlo hce hsl
      have hci : mO k' < 13 := V0_cls hg
      obtain ⟨q, hq⟩ : ∃ q, cls[mO k']? = some q := ⟨_, List.getElem?_eq_getElem (show mO k' < cls.length from hci)⟩
      have hqn := (cls_cN _ q hq).1
      have hrc := va_recv (q0 := 0) hK (hR.at' (rE_obj hkb hci)) hq rfl
      rw [hqn, ← hcn] at hrc
      have hM := met_V (k' := k') hcn hpl hsl9 hV
      have cwv := cwV (R := Rm) (Ts := gTbl) (own := cN (mO k)) (index := j) (C := (mY k').cls) (rm := rmF k' (ρ.1 - 1)) (mc := (mcs k').1) (ms := (mcs k').2) na hts (gTbl_good (fun w hw => by
        unfold wsV at hw
        rcases List.mem_append.mp hw with h | h
        · simp only [List.mem_cons, List.not_mem_nil, or_false] at h
          rcases h with rfl | rfl | rfl | rfl
          · exact gTbl_in hlk rfl
          · exact gTbl_in hin rfl
          · exact gTbl_in hse rfl
          · exact gTbl_in hini rfl
        · exact hwg w h)) (ws := wsF k') rfl rfl rfl ⟨rfl, hdesc⟩ ⟨by show ρ.1 - 1 + 1 ≤ _; omega, by show 8 + (mN k' + 11) + (60 * (ρ.1 - 1) + 60) ≤ _; have h40 : mN k' ≤ 40 := hml40; omega⟩
      have hrun := va_runV (g := F0 m pc lsA st) (As := (st.take na).reverse) (rest := rest) (b := b2) (cells := cells) (slots := slots) (locs := locs) (below := below) (meth := meth) (e := e) ⟨hx, hb, hml, hown, hts⟩ hM cwv ⟨PcF_blind hT, hrc, PcF_at hT hR hK hE hS⟩ rfl (by simp [hna]) hl.1 (by rw [List.reverse_reverse, ← hst]; exact (List.take_append_drop na st).symm) (lv_room (by unfold cw at hw; exact hw)) hd ⟨by omega, by omega⟩
      refine run_W hrun hS (fun v S2 I2 L2 R2 H1 locs1 hq hR2 hS2 => ?_)
      exact hQ2 v S2 I2 L2 R2 hq p e Rm s m args below meth c H1 locs1 (cells + (mcs k').1) (slots + (mcs k').2) Z lsA ⟨hx, hb, hml, hown, hts, hK, hnm, hfr, hlo, by dsimp only; omega, by dsimp only; omega, hsz, hE⟩ hR2 hS2 hl hret
    · cases he
  · cases he
theorem sd_S0 (hT : StrOK l sz adK EvT) {j k' na : Nat} (hg : lM (mO k) j = some (1, k', na)) (hd : decode (mC k) pc = .ok (.invokestatic j, n)) (he : xS0 n ρ st k' na = some r) (hv : SV l sz b Lx xs adK EvT D aC k (ρ, pc, ls, st, S, I, L, R) Q r) : V l sz b Lx xs adK EvT D aC k (ρ, pc, ls, st, S, I, L, R) Q := by
  unfold xS0 at he
  split at he
  · rename_i hn
    obtain ⟨rfl, hna⟩ := hn
    obtain ⟨rfl, hd1, hmc, hms, hw, hsl9⟩ := cl_spec he
    obtain ⟨Q', hV, hQ2⟩ := hv
    dsimp only at hV hQ2 hd1 hmc hms
    obtain ⟨hlk, hco, hcn, hini, hpl, hdesc, hml40, hkind⟩ := lM_ok hg
    dsimp only at hlk hco hcn hini hpl hdesc hml40 hkind
    have hwg := wsF_in hco
    have hst : Cond.static (mY k') ∈ lw_tbl := by
      rcases hkind with ⟨h, -⟩ | ⟨-, h⟩ | ⟨h, -⟩
      · cases h
      · exact h
      · cases h
    intro p e Rm s m args below meth c H locs cells slots Z lsA C hR hS hl hret
    obtain ⟨hx, hb, hml, hown, hts, hK, hnm, hfr, hlo, hce, hsl, hsz, hE⟩ := id C
    dsimp only at hfr hlo hce hsl
    have hM := met_V (k' := k') hcn hpl hsl9 hV
    have cwv := callB_of (R := Rm) (Ts := gTbl) (own := cN (mO k)) (index := j) (rm := rmF k' (ρ.1 - 1)) (mc := (mcs k').1) (ms := (mcs k').2) na hts (gTbl_good hwg) (ws := wsF k') rfl rfl rfl (hts _ (gTbl_in hini rfl)) (hts _ (gTbl_in hlk rfl)) hdesc ⟨by show ρ.1 - 1 + 1 ≤ _; omega, by show 8 + (mN k' + 11) + (60 * (ρ.1 - 1) + 60) ≤ _; have h40 : mN k' ≤ 40 := hml40; omega⟩
    have hrun := va_runS (g := F0 m pc lsA st) (As := (st.take na).reverse) (rest := st.drop na) (cells := cells) (slots := slots) (locs := locs) (below := below) (meth := meth) (e := e) ⟨hx, hb, hml, hown, hts⟩ hM ⟨cwv, hts _ (gTbl_in hst rfl)⟩ ⟨PcF_blind hT, PcF_at hT hR hK hE hS⟩ rfl (by simp [hna]) hl.1 (by rw [List.reverse_reverse]; exact (List.take_append_drop na st).symm) (lv_room (by unfold cw at hw; exact hw)) hd ⟨by omega, by omega⟩
    refine run_W hrun hS (fun v S2 I2 L2 R2 H1 locs1 hq hR2 hS2 => ?_)
    exact hQ2 v S2 I2 L2 R2 hq p e Rm s m args below meth c H1 locs1 (cells + (mcs k').1) (slots + (mcs k').2) Z lsA ⟨hx, hb, hml, hown, hts, hK, hnm, hfr, hlo, by dsimp only; omega, by dsimp only; omega, hsz, hE⟩ hR2 hS2 hl hret
  · cases he
theorem sd_N0 (hT : StrOK l sz adK EvT) {j k' na : Nat} (hg : lM (mO k) j = some (2, k', na)) (hd : decode (mC k) pc = .ok (.invokespecial j, n)) (he : xN0 n ρ st k' na = some r) (hv : SV l sz b Lx xs adK EvT D aC k (ρ, pc, ls, st, S, I, L, R) Q r) : V l sz b Lx xs adK EvT D aC k (ρ, pc, ls, st, S, I, L, R) Q := by
  unfold xN0 at he
  split at he
  · rename_i b2 rest hst
    split at he
    · rename_i hn
      obtain ⟨rfl, hna⟩ := hn
      obtain ⟨rfl, hd1, hmc, hms, hw, hsl9⟩ := cl_spec he
      obtain ⟨Q', hV, hQ2⟩ := hv
      dsimp only at hV hQ2 hd1 hmc hms
      obtain ⟨hlk, hco, hcn, hini, hpl, hdesc, hml40, hkind⟩ := lM_ok hg
      dsimp only at hlk hco hcn hini hpl hdesc hml40 hkind
      have hwg := wsF_in hco
      obtain ⟨hy1, hrn, hin⟩ : (mY k').name = "<init>" ∧ mT k' = none ∧ Cond.instanceMethod (mY k') ∈ lw_tbl := by
        rcases hkind with ⟨h, -⟩ | ⟨h, -⟩ | ⟨-, h⟩
        · cases h
        · cases h
        · exact h
      intro p e Rm s m args below meth c H locs cells slots Z lsA C hR hS hl hret
      obtain ⟨hx, hb, hml, hown, hts, hK, hnm, hfr, hlo, hce, hsl, hsz, hE⟩ := id C
      dsimp only at hfr hlo hce hsl
      have hM := met_V (k' := k') hcn hpl hsl9 hV
      have cwv := callB_of (R := Rm) (Ts := gTbl) (own := cN (mO k)) (index := j) (ret := none) (rm := rmF k' (ρ.1 - 1)) (mc := (mcs k').1) (ms := (mcs k').2) na hts (gTbl_good hwg) (ws := wsF k') (by unfold wsF; rw [hrn]) rfl rfl (hts _ (gTbl_in hini rfl)) (hts _ (gTbl_in hlk rfl)) hdesc ⟨by show ρ.1 - 1 + 1 ≤ _; omega, by show 8 + (mN k' + 11) + (60 * (ρ.1 - 1) + 60) ≤ _; have h40 : mN k' ≤ 40 := hml40; omega⟩
      have hrun := va_runI (g := F0 m pc lsA st) (As := (st.take na).reverse) (rest := rest) (b := b2) (cells := cells) (slots := slots) (locs := locs) (below := below) (meth := meth) (e := e) ⟨hx, hb, hml, hown, hts⟩ hM ⟨cwv, hy1, hts _ (gTbl_in hin rfl)⟩ ⟨PcF_blind hT, PcF_at hT hR hK hE hS⟩ rfl (by simp [hna]) hl.1 (by rw [List.reverse_reverse, ← hst]; exact (List.take_append_drop na st).symm) (lv_room (by unfold cw at hw; exact hw)) hd ⟨by omega, by omega⟩
      refine run_W hrun hS (fun v S2 I2 L2 R2 H1 locs1 hq hR2 hS2 => ?_)
      exact hQ2 v S2 I2 L2 R2 hq p e Rm s m args below meth c H1 locs1 (cells + (mcs k').1) (slots + (mcs k').2) Z lsA ⟨hx, hb, hml, hown, hts, hK, hnm, hfr, hlo, by dsimp only; omega, by dsimp only; omega, hsz, hE⟩ hR2 hS2 hl hret
    · cases he
  · cases he
theorem nest_in {c j kd0 k' na : Nat} (hg : lM c j = some (kd0, k', na)) (h : kd0 = 4 ∨ kd0 = 5) : (c, j, k') ∈ nestL := by
  have h0 : ∀ t ∈ lTab, (t.2.2.1 = 4 ∨ t.2.2.1 = 5) → (t.1, t.2.1, t.2.2.2.1) ∈ nestL := by decide +kernel
  unfold lM at hg
  cases hf : lTab.find? (fun t => Nat.beq t.1 c && Nat.beq t.2.1 j) with
  | none => rw [hf] at hg; cases hg
  | some t =>
    rw [hf] at hg
    have h1 := List.find?_some hf
    simp only [Bool.and_eq_true] at h1
    have h2 := h0 t (List.mem_of_find?_eq_some hf)
    obtain ⟨t1, t2, t3⟩ := t
    have e1 : t1 = c := Nat.eq_of_beq_eq_true h1.1
    have e2 : t2 = j := Nat.eq_of_beq_eq_true h1.2
    subst e1; subst e2
    cases hg
    exact h2 h
theorem sd_S5 (hT : StrOK l sz adK EvT) {j k' na : Nat} (hg : lM (mO k) j = some (5, k', na)) (hd : decode (mC k) pc = .ok (.invokestatic j, n)) (he : xS0 n ρ st k' na = some r) (hv : SV l sz b Lx xs adK EvT D aC k (ρ, pc, ls, st, S, I, L, R) Q r) : V l sz b Lx xs adK EvT D aC k (ρ, pc, ls, st, S, I, L, R) Q := by
  unfold xS0 at he
  split at he
  · rename_i hn
    obtain ⟨rfl, hna⟩ := hn
    obtain ⟨rfl, hd1, hmc, hms, hw, hsl9⟩ := cl_spec he
    obtain ⟨Q', hV, hQ2⟩ := hv
    dsimp only at hV hQ2 hd1 hmc hms
    obtain ⟨hlk, hco, hcn, hini, hpl, hdesc, hml40, hkind⟩ := lM_ok hg
    dsimp only at hlk hco hcn hini hpl hdesc hml40 hkind
    have hwg := wsF_in hco
    have hst : Cond.static (mY k') ∈ lw_tbl := by
      rcases hkind with ⟨h, -⟩ | ⟨-, h⟩ | ⟨h, -⟩
      · cases h
      · exact h
      · cases h
    intro p e Rm s m args below meth c H locs cells slots Z lsA C hR hS hl hret
    obtain ⟨hx, hb, hml, hown, hts, hK, hnm, hfr, hlo, hce, hsl, hsz, hE⟩ := id C
    dsimp only at hfr hlo hce hsl
    have hM := met_V (k' := k') hcn hpl hsl9 hV
    have cwv := va_cnB (R := Rm) (Ts := gTbl) (own := cN (mO k)) (host := "StiltMarsh") (index := j) (rm := rmF k' (ρ.1 - 1)) (mc := (mcs k').1) (ms := (mcs k').2) na hts (gTbl_good hwg) (ws := wsF k') rfl rfl rfl (hE.1 (mO k, j, k') (nest_in hg (Or.inr rfl))) (hts _ (gTbl_in hini rfl)) hdesc ⟨by show ρ.1 - 1 + 1 ≤ _; omega, by show 8 + (mN k' + 11) + (60 * (ρ.1 - 1) + 60) ≤ _; have h40 : mN k' ≤ 40 := hml40; omega⟩
    have hrun := va_runSN (g := F0 m pc lsA st) (As := (st.take na).reverse) (rest := st.drop na) (cells := cells) (slots := slots) (locs := locs) (below := below) (meth := meth) (e := e) ⟨hx, hb, hml, hown, hts⟩ hM ⟨cwv, hts _ (gTbl_in hst rfl), trivial⟩ ⟨PcF_blind hT, PcF_at hT hR hK hE hS⟩ rfl (by simp [hna]) hl.1 (by rw [List.reverse_reverse]; exact (List.take_append_drop na st).symm) (lv_room (by unfold cw at hw; exact hw)) hd ⟨by omega, by omega⟩
    refine run_W hrun hS (fun v S2 I2 L2 R2 H1 locs1 hq hR2 hS2 => ?_)
    exact hQ2 v S2 I2 L2 R2 hq p e Rm s m args below meth c H1 locs1 (cells + (mcs k').1) (slots + (mcs k').2) Z lsA ⟨hx, hb, hml, hown, hts, hK, hnm, hfr, hlo, by dsimp only; omega, by dsimp only; omega, hsz, hE⟩ hR2 hS2 hl hret
  · cases he
theorem sd_N4 (hT : StrOK l sz adK EvT) {j k' na : Nat} (hg : lM (mO k) j = some (4, k', na)) (hd : decode (mC k) pc = .ok (.invokespecial j, n)) (he : xN0 n ρ st k' na = some r) (hv : SV l sz b Lx xs adK EvT D aC k (ρ, pc, ls, st, S, I, L, R) Q r) : V l sz b Lx xs adK EvT D aC k (ρ, pc, ls, st, S, I, L, R) Q := by
  unfold xN0 at he
  split at he
  · rename_i b2 rest hst
    split at he
    · rename_i hn
      obtain ⟨rfl, hna⟩ := hn
      obtain ⟨rfl, hd1, hmc, hms, hw, hsl9⟩ := cl_spec he
      obtain ⟨Q', hV, hQ2⟩ := hv
      dsimp only at hV hQ2 hd1 hmc hms
      obtain ⟨hlk, hco, hcn, hini, hpl, hdesc, hml40, hkind⟩ := lM_ok hg
      dsimp only at hlk hco hcn hini hpl hdesc hml40 hkind
      have hwg := wsF_in hco
      obtain ⟨hy1, hrn, hin⟩ : (mY k').name = "<init>" ∧ mT k' = none ∧ Cond.instanceMethod (mY k') ∈ lw_tbl := by
        rcases hkind with ⟨h, -⟩ | ⟨h, -⟩ | ⟨-, h⟩
        · cases h
        · cases h
        · exact h
      intro p e Rm s m args below meth c H locs cells slots Z lsA C hR hS hl hret
      obtain ⟨hx, hb, hml, hown, hts, hK, hnm, hfr, hlo, hce, hsl, hsz, hE⟩ := id C
      dsimp only at hfr hlo hce hsl
      have hM := met_V (k' := k') hcn hpl hsl9 hV
      have cwv := va_cnB (R := Rm) (Ts := gTbl) (own := cN (mO k)) (host := "StiltMarsh") (index := j) (ret := none) (rm := rmF k' (ρ.1 - 1)) (mc := (mcs k').1) (ms := (mcs k').2) na hts (gTbl_good hwg) (ws := wsF k') (by unfold wsF; rw [hrn]) rfl rfl (hE.1 (mO k, j, k') (nest_in hg (Or.inl rfl))) (hts _ (gTbl_in hini rfl)) hdesc ⟨by show ρ.1 - 1 + 1 ≤ _; omega, by show 8 + (mN k' + 11) + (60 * (ρ.1 - 1) + 60) ≤ _; have h40 : mN k' ≤ 40 := hml40; omega⟩
      have hrun := va_runIN (g := F0 m pc lsA st) (As := (st.take na).reverse) (rest := rest) (b := b2) (cells := cells) (slots := slots) (locs := locs) (below := below) (meth := meth) (e := e) ⟨hx, hb, hml, hown, hts⟩ hM ⟨cwv, hy1, hts _ (gTbl_in hin rfl)⟩ ⟨PcF_blind hT, PcF_at hT hR hK hE hS⟩ rfl (by simp [hna]) hl.1 (by rw [List.reverse_reverse, ← hst]; exact (List.take_append_drop na st).symm) (lv_room (by unfold cw at hw; exact hw)) hd ⟨by omega, by omega⟩
      refine run_W hrun hS (fun v S2 I2 L2 R2 H1 locs1 hq hR2 hS2 => ?_)
      exact hQ2 v S2 I2 L2 R2 hq p e Rm s m args below meth c H1 locs1 (cells + (mcs k').1) (slots + (mcs k').2) Z lsA ⟨hx, hb, hml, hown, hts, hK, hnm, hfr, hlo, by dsimp only; omega, by dsimp only; omega, hsz, hE⟩ hR2 hS2 hl hret
    · cases he
  · cases he
end SD4
