/-! Locals. -/
def lvl (ls : mV) : List (Nat × Value) := (List.range ls.length).filterMap (fun i => (lg ls i).map (fun v => (i, v)))
theorem lg_lt {ls : mV} {i : Nat} {v : Value} (h : lg ls i = some v) : i < ls.length := by
  unfold lg at h
  rcases Nat.lt_or_ge i ls.length with q | q
  · exact q
  · rw [List.getElem?_eq_none q] at h; cases h
theorem mem_lvl {ls : mV} {i : Nat} {v : Value} : (i, v) ∈ lvl ls ↔ lg ls i = some v := by
  unfold lvl
  rw [List.mem_filterMap]
  constructor
  · rintro ⟨j, -, hj⟩
    cases hg : lg ls j with
    | none => rw [hg] at hj; cases hj
    | some w => rw [hg] at hj; cases hj; exact hg
  · intro h
    exact ⟨i, List.mem_range.mpr (lg_lt h), by rw [h]; rfl⟩
def lvR (lsA : Array Slot) (n : Nat) (ls : mV) : Prop := lv_has lsA n (lvl ls)
theorem lvR.get {lsA : Array Slot} {n : Nat} {ls : mV} (h : lvR lsA n ls) {i : Nat} {v : Value} (hg : lg ls i = some v) : lsA[i]? = some (.val v) := h.2.2 (i, v) (mem_lvl.mpr hg)
theorem lg_set {ls : mV} {i j : Nat} {o : Option Value} {w : Value} (h : lg (ls.set j o) i = some w) : (i = j ∧ o = some w) ∨ (i ≠ j ∧ lg ls i = some w) := by
  unfold lg at h ⊢
  rw [List.getElem?_set] at h
  by_cases hij : j = i
  · rw [if_pos hij] at h
    split at h
    · rename_i v hv
      split at hv
      · cases hv; cases h; exact Or.inl ⟨hij.symm, rfl⟩
      · cases hv
    · cases h
  · rw [if_neg hij] at h
    exact Or.inr ⟨fun e => hij e.symm, h⟩
theorem kl_some {o : Option Value} {w : Value} (h : kl o = some w) : o = some w ∧ ¬ w.category = 2 := by
  unfold kl at h
  split at h
  · cases h
  · cases h
  · rename_i h1 h2
    refine ⟨h, fun hc => ?_⟩
    cases w with
    | long x => exact h1 x h
    | double x => exact h2 x h
    | _ => simp [Value.category] at hc
theorem lg_klb {ls : mV} {i j : Nat} {w : Value} (h : lg (klb ls j) i = some w) : lg ls i = some w ∧ ¬ (i + 1 = j ∧ w.category = 2) := by
  cases j with
  | zero => exact ⟨h, fun q => by omega⟩
  | succ j =>
    unfold klb kla at h
    dsimp only at h
    split at h
    · rename_i o ho
      rcases lg_set h with ⟨rfl, h1⟩ | ⟨h1, h2⟩
      · obtain ⟨h2, h3⟩ := kl_some h1
        refine ⟨?_, fun q => h3 q.2⟩
        unfold lg
        rw [ho, h2]
      · exact ⟨h2, fun q => h1 (by omega)⟩
    · rename_i ho
      refine ⟨h, fun q => ?_⟩
      have : i = j := by omega
      subst this
      unfold lg at h
      rw [ho] at h
      cases h
theorem lvR_1 {lsA : Array Slot} {n j : Nat} {ls : mV} {v : Value} (h : lv_has lsA n ((j, v) :: (lvl ls).filter (fun q => !(q.1 == j) && !(q.1 + 1 == j && q.2.category == 2)))) : lvR lsA n (ls1 ls j v) := by
  refine ⟨h.1, h.2.1, fun q hq => ?_⟩
  obtain ⟨i, w⟩ := q
  refine h.2.2 (i, w) ?_
  rw [mem_lvl] at hq
  rcases lg_set hq with ⟨rfl, h1⟩ | ⟨h1, h2⟩
  · cases h1; exact List.mem_cons_self
  · obtain ⟨h3, h4⟩ := lg_klb h2
    refine List.mem_cons_of_mem _ (List.mem_filter.mpr ⟨mem_lvl.mpr h3, ?_⟩)
    by_cases hc : w.category = 2
    · have : ¬ i + 1 = j := fun q => h4 ⟨q, hc⟩
      simp [h1, this]
    · simp [h1, hc]
theorem lvR_2 {lsA : Array Slot} {n j : Nat} {ls : mV} {v : Value} (h : lv_has lsA n ((j, v) :: (lvl ls).filter (fun q => !(q.1 == j) && (!(q.1 == j + 1) && !(q.1 + 1 == j && q.2.category == 2))))) : lvR lsA n (ls2 ls j v) := by
  refine ⟨h.1, h.2.1, fun q hq => ?_⟩
  obtain ⟨i, w⟩ := q
  refine h.2.2 (i, w) ?_
  rw [mem_lvl] at hq
  rcases lg_set hq with ⟨rfl, h1⟩ | ⟨h0, hq⟩
  · cases h1
  rcases lg_set hq with ⟨rfl, h1⟩ | ⟨h1, h2⟩
  · cases h1; exact List.mem_cons_self
  · obtain ⟨h3, h4⟩ := lg_klb h2
    refine List.mem_cons_of_mem _ (List.mem_filter.mpr ⟨mem_lvl.mpr h3, ?_⟩)
    by_cases hc : w.category = 2
    · have : ¬ i + 1 = j := fun q => h4 ⟨q, hc⟩
      simp [h1, h0, this]
    · simp [h1, h0, hc]
theorem lsa_len : ∀ vs : List Value, (lsa vs).length = (lg_sl vs).length
  | [] => rfl
  | v :: vs => by
    have ih := lsa_len vs
    have e : lg_sl (v :: vs) = (if v.category = 2 then [.val v, .second] else [.val v]) ++ lg_sl vs := rfl
    rw [e]
    by_cases hc : v.category = 2
    · simp [lsa, hc, ih]
    · simp [lsa, hc, ih]
theorem lsa_args : ∀ (vs : List Value) (i : Nat) (w : Value) (k : Nat), lg (lsa vs) i = some w → (i + k, w) ∈ lv_args k vs
  | [], i, w, k, h => by simp [lsa, lg] at h
  | v :: vs, i, w, k, h => by
    by_cases hc : v.category = 2
    · have e : lsa (v :: vs) = some v :: none :: lsa vs := by simp [lsa, hc]
      have e2 : lv_args k (v :: vs) = (k, v) :: lv_args (k + 2) vs := by simp [lv_args, hc]
      rw [e] at h
      rw [e2]
      match i, h with
      | 0, h => simp [lg] at h; subst h; simp
      | 1, h => simp [lg] at h
      | i + 2, h =>
        have := lsa_args vs i w (k + 2) (by simpa [lg] using h)
        rw [show i + 2 + k = i + (k + 2) by omega]
        exact List.mem_cons_of_mem _ this
    · have e : lsa (v :: vs) = some v :: lsa vs := by simp [lsa, hc]
      have e2 : lv_args k (v :: vs) = (k, v) :: lv_args (k + 1) vs := by simp [lv_args, hc]
      rw [e] at h
      rw [e2]
      match i, h with
      | 0, h => simp [lg] at h; subst h; simp
      | i + 1, h =>
        have := lsa_args vs i w (k + 1) (by simpa [lg] using h)
        rw [show i + 1 + k = i + (k + 1) by omega]
        exact List.mem_cons_of_mem _ this
theorem lg_lse {n i : Nat} {vs : List Value} {w : Value} (h : lg (lse n vs) i = some w) : lg (lsa vs) i = some w := by
  unfold lg lse at *
  by_cases hi : i < (lsa vs).length
  · rw [List.getElem?_append_left hi] at h; exact h
  · rw [List.getElem?_append_right (Nat.le_of_not_lt hi)] at h
    split at h
    · rename_i v hv
      have := List.mem_of_getElem? hv
      rw [List.mem_replicate] at this
      cases this.2
    · cases h
theorem lvR_entry {n : Nat} {vs : List Value} (h : (lsa vs).length ≤ n) : lvR ((lg_sl vs ++ List.replicate (n - (lg_sl vs).length) Slot.unset).toArray) n (lse n vs) := by
  have h0 := lv_entry vs (n := n) (by rw [← lsa_len]; exact h)
  refine ⟨h0.1, h0.2.1, fun q hq => h0.2.2 q ?_⟩
  obtain ⟨i, w⟩ := q
  rw [mem_lvl] at hq
  have := lsa_args vs i w 0 (lg_lse hq)
  simpa using this
/-! The predicate that the machine itself gives. -/
def retI (k : Nat) (i : Instr) (v : Option Value) : Prop := (∃ x, i = .ireturn ∧ v = some (.int x) ∧ (mT k = some .int ∨ (mT k = some .boolean ∧ (x = 0 ∨ x = 1)))) ∨ (∃ x, i = .lreturn ∧ v = some (.long x) ∧ mT k = some .long) ∨ (∃ x, i = .areturn ∧ v = some (.ref x) ∧ mT k = some (.object "StiltMarsh$Stance")) ∨ (i = .return_ ∧ v = none ∧ mT k = none)
/-- the four links of nest mates -/
def nestL : List (Nat × Nat × Nat) := [(2, 11, 93), (2, 20, 107), (2, 36, 136), (2, 66, 23)]
def EvS (sz b Lx : Nat) (xs : Nat → Int32) (EvT : State → Prop) (s : State) : Prop :=
  (∀ t ∈ nestL, va_Nw (.methodLinkNest (cN t.1) t.2.1 (mY t.2.2) "StiltMarsh") s) ∧ va_AO "StiltMarsh$State" s ∧ va_AO "StiltMarsh$Stance" s ∧ va_X b Lx xs s s.heap ∧ b < s.heap.size ∧ b < sz ∧ EvT s
section SD
variable (l : Launch) (sz b Lx : Nat) (xs : Nat → Int32) (adK : Nat → Nat) (EvT : State → Prop) (D : va_G) (aC : Nat → ClassId)
def CX (k : Nat) (ρ : mB) (p : Program) (e : Env) (Rm : Room) (s : State) (m : MethodId) (args : Array Value) (meth : Method) (c : Code) (cells slots : Nat) : Prop :=
  p.tables.exec = Jvm.exec ∧ c.code = mC k ∧ c.maxLocals = mN k ∧ s.vm.findClass (cN (mO k)) = some m.cls ∧ (∀ w ∈ gTbl, w.before args s = true) ∧ va_K D cls (tyL aC) s ∧ meth.name = (mY k).name ∧ ρ.1 ≤ Rm.frames ∧ 60 * ρ.1 + 60 ≤ Rm.locals ∧ cells + ρ.2.1 ≤ Rm.cells ∧ slots + ρ.2.2 ≤ Rm.slots ∧ sz ≤ s.heap.size ∧ EvS sz b Lx xs EvT s
def RT (k : Nat) (Q : mQ) (p : Program) (e : Env) (Rm : Room) (s : State) (m : MethodId) (args : Array Value) (below : List Frame) (meth : Method) (c : Code) (Z : State → Prop) : Prop :=
  ∀ (pc' : Nat) (lsA' : Array Slot) (S' : mS) (I' : mI) (L' : mL) (R' : mR) (H' : Heap) (locs' : List Loc) (cells' slots' : Nat) (v : Option Value) (i : Instr), decode (mC k) pc' = .ok (i, 1) → retI k i v → Q v S' I' L' R' → Rep sz b Lx xs adK D aC S' I' L' R' H' → va_S (fun q : Nat => sz ≤ q) s.heap H' locs' → cells' ≤ Rm.cells → slots' ≤ Rm.slots →
    W p l e Rm s m args below meth c H' locs' cells' slots' Z (F0 m pc' lsA' v.toList)
def V (k : Nat) (x : mSt) (Q : mQ) : Prop := ∀ (p : Program) (e : Env) (Rm : Room) (s : State) (m : MethodId) (args : Array Value) (below : List Frame) (meth : Method) (c : Code) (H : Heap) (locs : List Loc) (cells slots : Nat) (Z : State → Prop) (lsA : Array Slot),
  CX sz b Lx xs EvT D aC k x.1 p e Rm s m args meth c cells slots → Rep sz b Lx xs adK D aC x.2.2.2.2.1 x.2.2.2.2.2.1 x.2.2.2.2.2.2.1 x.2.2.2.2.2.2.2 H → va_S (fun q : Nat => sz ≤ q) s.heap H locs → lvR lsA (mN k) x.2.2.1 → RT l sz b Lx xs adK D aC k Q p e Rm s m args below meth c Z →
    W p l e Rm s m args below meth c H locs cells slots Z (F0 m x.2.1 lsA x.2.2.2.1)
/-- what a step's result asks of V -/
def SV (k : Nat) (x : mSt) (Q : mQ) (r : mRes) : Prop := match r with
  | .inl s' => V l sz b Lx xs adK EvT D aC k s' Q
  | .inr (.inl v) => Q v x.2.2.2.2.1 x.2.2.2.2.2.1 x.2.2.2.2.2.2.1 x.2.2.2.2.2.2.2
  | .inr (.inr (k', as, rest)) => ∃ Q' : mQ, V l sz b Lx xs adK EvT D aC k' ((x.1.1 - 1, (mcs k').1, (mcs k').2), 0, lse (mN k') as, [], x.2.2.2.2) Q' ∧ ∀ (v : Option Value) (S : mS) (I : mI) (L : mL) (R : mR), Q' v S I L R → V l sz b Lx xs adK EvT D aC k ((x.1.1, x.1.2.1 - (mcs k').1, x.1.2.2 - (mcs k').2), x.2.1 + 3, x.2.2.1, v.toList ++ rest, S, I, L, R) Q
end SD
section SD2
variable {l : Launch} {sz b Lx : Nat} {xs : Nat → Int32} {adK : Nat → Nat} {EvT : State → Prop} {D : va_G} {aC : Nat → ClassId}
variable {k n : Nat} {ρ : mB} {pc : Nat} {ls : mV} {st : List Value} {S : mS} {I : mI} {L : mL} {R : mR} {Q : mQ} {r : mRes}
theorem sd_iconst {z : Int} (hd : decode (mC k) pc = .ok (.iconst z, n)) (he : exI k n ρ pc ls st S I L R (.iconst z) = some r) (hv : SV l sz b Lx xs adK EvT D aC k (ρ, pc, ls, st, S, I, L, R) Q r) : V l sz b Lx xs adK EvT D aC k (ρ, pc, ls, st, S, I, L, R) Q := by
  unfold exI at he; dsimp only at he; unfold xPush at he
  split at he
  · rename_i hn
    cases he
    intro p e Rm s m args below meth c H locs cells slots Z lsA C hR hS hl hret
    subst hn
    exact lv_iconst C.1 C.2.1 hd rfl (hv p e Rm s m args below meth c H locs cells slots Z lsA C hR hS hl hret)
  · cases he
theorem sd_bipush {z : Int} (hd : decode (mC k) pc = .ok (.bipush z, n)) (he : exI k n ρ pc ls st S I L R (.bipush z) = some r) (hv : SV l sz b Lx xs adK EvT D aC k (ρ, pc, ls, st, S, I, L, R) Q r) : V l sz b Lx xs adK EvT D aC k (ρ, pc, ls, st, S, I, L, R) Q := by
  unfold exI at he; dsimp only at he; unfold xPush at he
  split at he
  · rename_i hn
    cases he
    intro p e Rm s m args below meth c H locs cells slots Z lsA C hR hS hl hret
    subst hn
    exact lv_bipush C.1 C.2.1 hd rfl (hv p e Rm s m args below meth c H locs cells slots Z lsA C hR hS hl hret)
  · cases he
theorem sd_sipush {z : Int} (hd : decode (mC k) pc = .ok (.sipush z, n)) (he : exI k n ρ pc ls st S I L R (.sipush z) = some r) (hv : SV l sz b Lx xs adK EvT D aC k (ρ, pc, ls, st, S, I, L, R) Q r) : V l sz b Lx xs adK EvT D aC k (ρ, pc, ls, st, S, I, L, R) Q := by
  unfold exI at he; dsimp only at he; unfold xPush at he
  split at he
  · rename_i hn
    cases he
    intro p e Rm s m args below meth c H locs cells slots Z lsA C hR hS hl hret
    subst hn
    exact lv_sipush C.1 C.2.1 hd rfl (hv p e Rm s m args below meth c H locs cells slots Z lsA C hR hS hl hret)
  · cases he
theorem sd_lconst {z : Fin 2} (hd : decode (mC k) pc = .ok (.lconst z, n)) (he : exI k n ρ pc ls st S I L R (.lconst z) = some r) (hv : SV l sz b Lx xs adK EvT D aC k (ρ, pc, ls, st, S, I, L, R) Q r) : V l sz b Lx xs adK EvT D aC k (ρ, pc, ls, st, S, I, L, R) Q := by
  unfold exI at he; dsimp only at he; unfold xPush at he
  split at he
  · rename_i hn
    cases he
    intro p e Rm s m args below meth c H locs cells slots Z lsA C hR hS hl hret
    subst hn
    exact lv_lconst C.1 C.2.1 hd rfl (hv p e Rm s m args below meth c H locs cells slots Z lsA C hR hS hl hret)
  · cases he
theorem sd_iload {j : Nat} (hd : decode (mC k) pc = .ok (.iload j, n)) (he : exI k n ρ pc ls st S I L R (.iload j) = some r) (hv : SV l sz b Lx xs adK EvT D aC k (ρ, pc, ls, st, S, I, L, R) Q r) : V l sz b Lx xs adK EvT D aC k (ρ, pc, ls, st, S, I, L, R) Q := by
  unfold exI at he; dsimp only at he; unfold xLoadI at he
  split at he
  · rename_i x hg
    split at he
    · rename_i hn
      cases he
      intro p e Rm s m args below meth c H locs cells slots Z lsA C hR hS hl hret
      subst hn
      exact lv_iload C.1 C.2.1 hd (hl.get hg) (hv p e Rm s m args below meth c H locs cells slots Z lsA C hR hS hl hret)
    · cases he
  · cases he
theorem sd_iload_n {j : Fin 4} (hd : decode (mC k) pc = .ok (.iload_n j, n)) (he : exI k n ρ pc ls st S I L R (.iload_n j) = some r) (hv : SV l sz b Lx xs adK EvT D aC k (ρ, pc, ls, st, S, I, L, R) Q r) : V l sz b Lx xs adK EvT D aC k (ρ, pc, ls, st, S, I, L, R) Q := by
  unfold exI at he; dsimp only at he; unfold xLoadI at he
  split at he
  · rename_i x hg
    split at he
    · rename_i hn
      cases he
      intro p e Rm s m args below meth c H locs cells slots Z lsA C hR hS hl hret
      subst hn
      exact lv_iload_n C.1 C.2.1 hd rfl (hl.get hg) (hv p e Rm s m args below meth c H locs cells slots Z lsA C hR hS hl hret)
    · cases he
  · cases he
theorem sd_lload {j : Nat} (hd : decode (mC k) pc = .ok (.lload j, n)) (he : exI k n ρ pc ls st S I L R (.lload j) = some r) (hv : SV l sz b Lx xs adK EvT D aC k (ρ, pc, ls, st, S, I, L, R) Q r) : V l sz b Lx xs adK EvT D aC k (ρ, pc, ls, st, S, I, L, R) Q := by
  unfold exI at he; dsimp only at he; unfold xLoadL at he
  split at he
  · rename_i x hg
    split at he
    · rename_i hn
      cases he
      intro p e Rm s m args below meth c H locs cells slots Z lsA C hR hS hl hret
      subst hn
      exact lv_lload C.1 C.2.1 hd (hl.get hg) (hv p e Rm s m args below meth c H locs cells slots Z lsA C hR hS hl hret)
    · cases he
  · cases he
theorem sd_lload_n {j : Fin 4} (hd : decode (mC k) pc = .ok (.lload_n j, n)) (he : exI k n ρ pc ls st S I L R (.lload_n j) = some r) (hv : SV l sz b Lx xs adK EvT D aC k (ρ, pc, ls, st, S, I, L, R) Q r) : V l sz b Lx xs adK EvT D aC k (ρ, pc, ls, st, S, I, L, R) Q := by
  unfold exI at he; dsimp only at he; unfold xLoadL at he
  split at he
  · rename_i x hg
    split at he
    · rename_i hn
      cases he
      intro p e Rm s m args below meth c H locs cells slots Z lsA C hR hS hl hret
      subst hn
      exact lv_lload_n C.1 C.2.1 hd rfl (hl.get hg) (hv p e Rm s m args below meth c H locs cells slots Z lsA C hR hS hl hret)
    · cases he
  · cases he
theorem sd_aload {j : Nat} (hd : decode (mC k) pc = .ok (.aload j, n)) (he : exI k n ρ pc ls st S I L R (.aload j) = some r) (hv : SV l sz b Lx xs adK EvT D aC k (ρ, pc, ls, st, S, I, L, R) Q r) : V l sz b Lx xs adK EvT D aC k (ρ, pc, ls, st, S, I, L, R) Q := by
  unfold exI at he; dsimp only at he; unfold xLoadA at he
  split at he
  · rename_i x hg
    split at he
    · rename_i hn
      cases he
      intro p e Rm s m args below meth c H locs cells slots Z lsA C hR hS hl hret
      subst hn
      exact lv_aload C.1 C.2.1 hd (hl.get hg) (hv p e Rm s m args below meth c H locs cells slots Z lsA C hR hS hl hret)
    · cases he
  · cases he
theorem sd_aload_n {j : Fin 4} (hd : decode (mC k) pc = .ok (.aload_n j, n)) (he : exI k n ρ pc ls st S I L R (.aload_n j) = some r) (hv : SV l sz b Lx xs adK EvT D aC k (ρ, pc, ls, st, S, I, L, R) Q r) : V l sz b Lx xs adK EvT D aC k (ρ, pc, ls, st, S, I, L, R) Q := by
  unfold exI at he; dsimp only at he; unfold xLoadA at he
  split at he
  · rename_i x hg
    split at he
    · rename_i hn
      cases he
      intro p e Rm s m args below meth c H locs cells slots Z lsA C hR hS hl hret
      subst hn
      exact lv_aload_n C.1 C.2.1 hd rfl (hl.get hg) (hv p e Rm s m args below meth c H locs cells slots Z lsA C hR hS hl hret)
    · cases he
  · cases he
theorem sd_istore {j : Nat} (hd : decode (mC k) pc = .ok (.istore j, n)) (he : exI k n ρ pc ls st S I L R (.istore j) = some r) (hv : SV l sz b Lx xs adK EvT D aC k (ρ, pc, ls, st, S, I, L, R) Q r) : V l sz b Lx xs adK EvT D aC k (ρ, pc, ls, st, S, I, L, R) Q := by
  unfold exI at he; dsimp only at he; unfold xStoreI at he
  split at he
  · split at he
    · rename_i hn
      cases he
      intro p e Rm s m args below meth c H locs cells slots Z lsA C hR hS hl hret
      obtain ⟨rfl, hj⟩ := hn
      exact lv_istore C.1 C.2.1 hd hl hj rfl (fun lsA2 hl2 => hv p e Rm s m args below meth c H locs cells slots Z lsA2 C hR hS (lvR_1 hl2) hret)
    · cases he
  · cases he
theorem sd_istore_n {j : Fin 4} (hd : decode (mC k) pc = .ok (.istore_n j, n)) (he : exI k n ρ pc ls st S I L R (.istore_n j) = some r) (hv : SV l sz b Lx xs adK EvT D aC k (ρ, pc, ls, st, S, I, L, R) Q r) : V l sz b Lx xs adK EvT D aC k (ρ, pc, ls, st, S, I, L, R) Q := by
  unfold exI at he; dsimp only at he; unfold xStoreI at he
  split at he
  · split at he
    · rename_i hn
      cases he
      intro p e Rm s m args below meth c H locs cells slots Z lsA C hR hS hl hret
      obtain ⟨rfl, hj⟩ := hn
      exact lv_istore_n C.1 C.2.1 hd rfl hl hj rfl (fun lsA2 hl2 => hv p e Rm s m args below meth c H locs cells slots Z lsA2 C hR hS (lvR_1 hl2) hret)
    · cases he
  · cases he
theorem sd_astore {j : Nat} (hd : decode (mC k) pc = .ok (.astore j, n)) (he : exI k n ρ pc ls st S I L R (.astore j) = some r) (hv : SV l sz b Lx xs adK EvT D aC k (ρ, pc, ls, st, S, I, L, R) Q r) : V l sz b Lx xs adK EvT D aC k (ρ, pc, ls, st, S, I, L, R) Q := by
  unfold exI at he; dsimp only at he; unfold xStoreA at he
  split at he
  · split at he
    · rename_i hn
      cases he
      intro p e Rm s m args below meth c H locs cells slots Z lsA C hR hS hl hret
      obtain ⟨rfl, hj⟩ := hn
      exact lv_astore C.1 C.2.1 hd hl hj rfl (fun lsA2 hl2 => hv p e Rm s m args below meth c H locs cells slots Z lsA2 C hR hS (lvR_1 hl2) hret)
    · cases he
  · cases he
theorem sd_astore_n {j : Fin 4} (hd : decode (mC k) pc = .ok (.astore_n j, n)) (he : exI k n ρ pc ls st S I L R (.astore_n j) = some r) (hv : SV l sz b Lx xs adK EvT D aC k (ρ, pc, ls, st, S, I, L, R) Q r) : V l sz b Lx xs adK EvT D aC k (ρ, pc, ls, st, S, I, L, R) Q := by
  unfold exI at he; dsimp only at he; unfold xStoreA at he
  split at he
  · split at he
    · rename_i hn
      cases he
      intro p e Rm s m args below meth c H locs cells slots Z lsA C hR hS hl hret
      obtain ⟨rfl, hj⟩ := hn
      exact lv_astore_n C.1 C.2.1 hd rfl hl hj rfl (fun lsA2 hl2 => hv p e Rm s m args below meth c H locs cells slots Z lsA2 C hR hS (lvR_1 hl2) hret)
    · cases he
  · cases he
theorem sd_lstore {j : Nat} (hd : decode (mC k) pc = .ok (.lstore j, n)) (he : exI k n ρ pc ls st S I L R (.lstore j) = some r) (hv : SV l sz b Lx xs adK EvT D aC k (ρ, pc, ls, st, S, I, L, R) Q r) : V l sz b Lx xs adK EvT D aC k (ρ, pc, ls, st, S, I, L, R) Q := by
  unfold exI at he; dsimp only at he; unfold xStoreL at he
  split at he
  · split at he
    · rename_i hn
      cases he
      intro p e Rm s m args below meth c H locs cells slots Z lsA C hR hS hl hret
      obtain ⟨rfl, hj⟩ := hn
      exact lv_lstore C.1 C.2.1 hd hl hj rfl (fun lsA2 hl2 => hv p e Rm s m args below meth c H locs cells slots Z lsA2 C hR hS (lvR_2 hl2) hret)
    · cases he
  · cases he
theorem sd_lstore_n {j : Fin 4} (hd : decode (mC k) pc = .ok (.lstore_n j, n)) (he : exI k n ρ pc ls st S I L R (.lstore_n j) = some r) (hv : SV l sz b Lx xs adK EvT D aC k (ρ, pc, ls, st, S, I, L, R) Q r) : V l sz b Lx xs adK EvT D aC k (ρ, pc, ls, st, S, I, L, R) Q := by
  unfold exI at he; dsimp only at he; unfold xStoreL at he
  split at he
  · split at he
    · rename_i hn
      cases he
      intro p e Rm s m args below meth c H locs cells slots Z lsA C hR hS hl hret
      obtain ⟨rfl, hj⟩ := hn
      exact lv_lstore_n C.1 C.2.1 hd rfl hl hj rfl (fun lsA2 hl2 => hv p e Rm s m args below meth c H locs cells slots Z lsA2 C hR hS (lvR_2 hl2) hret)
    · cases he
  · cases he
theorem sd_iinc {j : Nat} {z : Int} (hd : decode (mC k) pc = .ok (.iinc j z, n)) (he : exI k n ρ pc ls st S I L R (.iinc j z) = some r) (hv : SV l sz b Lx xs adK EvT D aC k (ρ, pc, ls, st, S, I, L, R) Q r) : V l sz b Lx xs adK EvT D aC k (ρ, pc, ls, st, S, I, L, R) Q := by
  unfold exI at he; dsimp only at he; unfold xInc at he
  split at he
  · rename_i x hg
    split at he
    · rename_i hn
      cases he
      obtain ⟨rfl, hj⟩ := hn
      intro p e Rm s m args below meth c H locs cells slots Z lsA C hR hS hl hret
      obtain ⟨k0, hk0⟩ := List.getElem?_of_mem (mem_lvl.mpr hg)
      exact lv_iinc C.1 C.2.1 hd hl hk0 rfl hj rfl (fun lsA2 hl2 => hv p e Rm s m args below meth c H locs cells slots Z lsA2 C hR hS (lvR_1 hl2) hret)
    · cases he
  · cases he
theorem sd_iadd (hd : decode (mC k) pc = .ok (.iadd, n)) (he : exI k n ρ pc ls st S I L R (.iadd) = some r) (hv : SV l sz b Lx xs adK EvT D aC k (ρ, pc, ls, st, S, I, L, R) Q r) : V l sz b Lx xs adK EvT D aC k (ρ, pc, ls, st, S, I, L, R) Q := by
  unfold exI at he; dsimp only at he; unfold xII at he
  split at he
  · split at he
    · rename_i hn
      cases he
      intro p e Rm s m args below meth c H locs cells slots Z lsA C hR hS hl hret
      subst hn
      exact lv_iadd C.1 C.2.1 hd (hv p e Rm s m args below meth c H locs cells slots Z lsA C hR hS hl hret)
    · cases he
  · cases he
theorem sd_isub (hd : decode (mC k) pc = .ok (.isub, n)) (he : exI k n ρ pc ls st S I L R (.isub) = some r) (hv : SV l sz b Lx xs adK EvT D aC k (ρ, pc, ls, st, S, I, L, R) Q r) : V l sz b Lx xs adK EvT D aC k (ρ, pc, ls, st, S, I, L, R) Q := by
  unfold exI at he; dsimp only at he; unfold xII at he
  split at he
  · split at he
    · rename_i hn
      cases he
      intro p e Rm s m args below meth c H locs cells slots Z lsA C hR hS hl hret
      subst hn
      exact lv_isub C.1 C.2.1 hd (hv p e Rm s m args below meth c H locs cells slots Z lsA C hR hS hl hret)
    · cases he
  · cases he
theorem sd_imul (hd : decode (mC k) pc = .ok (.imul, n)) (he : exI k n ρ pc ls st S I L R (.imul) = some r) (hv : SV l sz b Lx xs adK EvT D aC k (ρ, pc, ls, st, S, I, L, R) Q r) : V l sz b Lx xs adK EvT D aC k (ρ, pc, ls, st, S, I, L, R) Q := by
  unfold exI at he; dsimp only at he; unfold xII at he
  split at he
  · split at he
    · rename_i hn
      cases he
      intro p e Rm s m args below meth c H locs cells slots Z lsA C hR hS hl hret
      subst hn
      exact lv_imul C.1 C.2.1 hd (hv p e Rm s m args below meth c H locs cells slots Z lsA C hR hS hl hret)
    · cases he
  · cases he
theorem sd_iand (hd : decode (mC k) pc = .ok (.iand, n)) (he : exI k n ρ pc ls st S I L R (.iand) = some r) (hv : SV l sz b Lx xs adK EvT D aC k (ρ, pc, ls, st, S, I, L, R) Q r) : V l sz b Lx xs adK EvT D aC k (ρ, pc, ls, st, S, I, L, R) Q := by
  unfold exI at he; dsimp only at he; unfold xII at he
  split at he
  · split at he
    · rename_i hn
      cases he
      intro p e Rm s m args below meth c H locs cells slots Z lsA C hR hS hl hret
      subst hn
      exact lv_iand C.1 C.2.1 hd (hv p e Rm s m args below meth c H locs cells slots Z lsA C hR hS hl hret)
    · cases he
  · cases he
theorem sd_ior (hd : decode (mC k) pc = .ok (.ior, n)) (he : exI k n ρ pc ls st S I L R (.ior) = some r) (hv : SV l sz b Lx xs adK EvT D aC k (ρ, pc, ls, st, S, I, L, R) Q r) : V l sz b Lx xs adK EvT D aC k (ρ, pc, ls, st, S, I, L, R) Q := by
  unfold exI at he; dsimp only at he; unfold xII at he
  split at he
  · split at he
    · rename_i hn
      cases he
      intro p e Rm s m args below meth c H locs cells slots Z lsA C hR hS hl hret
      subst hn
      exact lv_ior C.1 C.2.1 hd (hv p e Rm s m args below meth c H locs cells slots Z lsA C hR hS hl hret)
    · cases he
  · cases he
theorem sd_ixor (hd : decode (mC k) pc = .ok (.ixor, n)) (he : exI k n ρ pc ls st S I L R (.ixor) = some r) (hv : SV l sz b Lx xs adK EvT D aC k (ρ, pc, ls, st, S, I, L, R) Q r) : V l sz b Lx xs adK EvT D aC k (ρ, pc, ls, st, S, I, L, R) Q := by
  unfold exI at he; dsimp only at he; unfold xII at he
  split at he
  · split at he
    · rename_i hn
      cases he
      intro p e Rm s m args below meth c H locs cells slots Z lsA C hR hS hl hret
      subst hn
      exact lv_ixor C.1 C.2.1 hd (hv p e Rm s m args below meth c H locs cells slots Z lsA C hR hS hl hret)
    · cases he
  · cases he
theorem sd_ishl (hd : decode (mC k) pc = .ok (.ishl, n)) (he : exI k n ρ pc ls st S I L R (.ishl) = some r) (hv : SV l sz b Lx xs adK EvT D aC k (ρ, pc, ls, st, S, I, L, R) Q r) : V l sz b Lx xs adK EvT D aC k (ρ, pc, ls, st, S, I, L, R) Q := by
  unfold exI at he; dsimp only at he; unfold xII at he
  split at he
  · split at he
    · rename_i hn
      cases he
      intro p e Rm s m args below meth c H locs cells slots Z lsA C hR hS hl hret
      subst hn
      exact lv_ishl C.1 C.2.1 hd (hv p e Rm s m args below meth c H locs cells slots Z lsA C hR hS hl hret)
    · cases he
  · cases he
theorem sd_ishr (hd : decode (mC k) pc = .ok (.ishr, n)) (he : exI k n ρ pc ls st S I L R (.ishr) = some r) (hv : SV l sz b Lx xs adK EvT D aC k (ρ, pc, ls, st, S, I, L, R) Q r) : V l sz b Lx xs adK EvT D aC k (ρ, pc, ls, st, S, I, L, R) Q := by
  unfold exI at he; dsimp only at he; unfold xII at he
  split at he
  · split at he
    · rename_i hn
      cases he
      intro p e Rm s m args below meth c H locs cells slots Z lsA C hR hS hl hret
      subst hn
      exact lv_ishr C.1 C.2.1 hd (hv p e Rm s m args below meth c H locs cells slots Z lsA C hR hS hl hret)
    · cases he
  · cases he
theorem sd_iushr (hd : decode (mC k) pc = .ok (.iushr, n)) (he : exI k n ρ pc ls st S I L R (.iushr) = some r) (hv : SV l sz b Lx xs adK EvT D aC k (ρ, pc, ls, st, S, I, L, R) Q r) : V l sz b Lx xs adK EvT D aC k (ρ, pc, ls, st, S, I, L, R) Q := by
  unfold exI at he; dsimp only at he; unfold xII at he
  split at he
  · split at he
    · rename_i hn
      cases he
      intro p e Rm s m args below meth c H locs cells slots Z lsA C hR hS hl hret
      subst hn
      exact lv_iushr C.1 C.2.1 hd rfl (hv p e Rm s m args below meth c H locs cells slots Z lsA C hR hS hl hret)
    · cases he
  · cases he
theorem sd_idiv (hd : decode (mC k) pc = .ok (.idiv, n)) (he : exI k n ρ pc ls st S I L R (.idiv) = some r) (hv : SV l sz b Lx xs adK EvT D aC k (ρ, pc, ls, st, S, I, L, R) Q r) : V l sz b Lx xs adK EvT D aC k (ρ, pc, ls, st, S, I, L, R) Q := by
  unfold exI at he; dsimp only at he; unfold xIId at he
  split at he
  · split at he
    · rename_i hn
      cases he
      intro p e Rm s m args below meth c H locs cells slots Z lsA C hR hS hl hret
      obtain ⟨rfl, hn2⟩ := id hn
      exact lv_idiv C.1 C.2.1 hd hn.2 (hv p e Rm s m args below meth c H locs cells slots Z lsA C hR hS hl hret)
    · cases he
  · cases he
theorem sd_irem (hd : decode (mC k) pc = .ok (.irem, n)) (he : exI k n ρ pc ls st S I L R (.irem) = some r) (hv : SV l sz b Lx xs adK EvT D aC k (ρ, pc, ls, st, S, I, L, R) Q r) : V l sz b Lx xs adK EvT D aC k (ρ, pc, ls, st, S, I, L, R) Q := by
  unfold exI at he; dsimp only at he; unfold xIId at he
  split at he
  · split at he
    · rename_i hn
      cases he
      intro p e Rm s m args below meth c H locs cells slots Z lsA C hR hS hl hret
      obtain ⟨rfl, hn2⟩ := id hn
      exact lv_irem C.1 C.2.1 hd hn.2 (hv p e Rm s m args below meth c H locs cells slots Z lsA C hR hS hl hret)
    · cases he
  · cases he
theorem sd_ineg (hd : decode (mC k) pc = .ok (.ineg, n)) (he : exI k n ρ pc ls st S I L R (.ineg) = some r) (hv : SV l sz b Lx xs adK EvT D aC k (ρ, pc, ls, st, S, I, L, R) Q r) : V l sz b Lx xs adK EvT D aC k (ρ, pc, ls, st, S, I, L, R) Q := by
  unfold exI at he; dsimp only at he; unfold xI at he
  split at he
  · split at he
    · rename_i hn
      cases he
      intro p e Rm s m args below meth c H locs cells slots Z lsA C hR hS hl hret
      subst hn
      exact lv_ineg C.1 C.2.1 hd (hv p e Rm s m args below meth c H locs cells slots Z lsA C hR hS hl hret)
    · cases he
  · cases he
theorem sd_i2b (hd : decode (mC k) pc = .ok (.i2b, n)) (he : exI k n ρ pc ls st S I L R (.i2b) = some r) (hv : SV l sz b Lx xs adK EvT D aC k (ρ, pc, ls, st, S, I, L, R) Q r) : V l sz b Lx xs adK EvT D aC k (ρ, pc, ls, st, S, I, L, R) Q := by
  unfold exI at he; dsimp only at he; unfold xI at he
  split at he
  · split at he
    · rename_i hn
      cases he
      intro p e Rm s m args below meth c H locs cells slots Z lsA C hR hS hl hret
      subst hn
      exact lv_i2b C.1 C.2.1 hd rfl (hv p e Rm s m args below meth c H locs cells slots Z lsA C hR hS hl hret)
    · cases he
  · cases he
theorem sd_i2s (hd : decode (mC k) pc = .ok (.i2s, n)) (he : exI k n ρ pc ls st S I L R (.i2s) = some r) (hv : SV l sz b Lx xs adK EvT D aC k (ρ, pc, ls, st, S, I, L, R) Q r) : V l sz b Lx xs adK EvT D aC k (ρ, pc, ls, st, S, I, L, R) Q := by
  unfold exI at he; dsimp only at he; unfold xI at he
  split at he
  · split at he
    · rename_i hn
      cases he
      intro p e Rm s m args below meth c H locs cells slots Z lsA C hR hS hl hret
      subst hn
      exact lv_i2s C.1 C.2.1 hd rfl (hv p e Rm s m args below meth c H locs cells slots Z lsA C hR hS hl hret)
    · cases he
  · cases he
theorem sd_ladd (hd : decode (mC k) pc = .ok (.ladd, n)) (he : exI k n ρ pc ls st S I L R (.ladd) = some r) (hv : SV l sz b Lx xs adK EvT D aC k (ρ, pc, ls, st, S, I, L, R) Q r) : V l sz b Lx xs adK EvT D aC k (ρ, pc, ls, st, S, I, L, R) Q := by
  unfold exI at he; dsimp only at he; unfold xLL at he
  split at he
  · split at he
    · rename_i hn
      cases he
      intro p e Rm s m args below meth c H locs cells slots Z lsA C hR hS hl hret
      subst hn
      exact lv_ladd C.1 C.2.1 hd (hv p e Rm s m args below meth c H locs cells slots Z lsA C hR hS hl hret)
    · cases he
  · cases he
theorem sd_lmul (hd : decode (mC k) pc = .ok (.lmul, n)) (he : exI k n ρ pc ls st S I L R (.lmul) = some r) (hv : SV l sz b Lx xs adK EvT D aC k (ρ, pc, ls, st, S, I, L, R) Q r) : V l sz b Lx xs adK EvT D aC k (ρ, pc, ls, st, S, I, L, R) Q := by
  unfold exI at he; dsimp only at he; unfold xLL at he
  split at he
  · split at he
    · rename_i hn
      cases he
      intro p e Rm s m args below meth c H locs cells slots Z lsA C hR hS hl hret
      subst hn
      exact lv_lmul C.1 C.2.1 hd (hv p e Rm s m args below meth c H locs cells slots Z lsA C hR hS hl hret)
    · cases he
  · cases he
theorem sd_land (hd : decode (mC k) pc = .ok (.land, n)) (he : exI k n ρ pc ls st S I L R (.land) = some r) (hv : SV l sz b Lx xs adK EvT D aC k (ρ, pc, ls, st, S, I, L, R) Q r) : V l sz b Lx xs adK EvT D aC k (ρ, pc, ls, st, S, I, L, R) Q := by
  unfold exI at he; dsimp only at he; unfold xLL at he
  split at he
  · split at he
    · rename_i hn
      cases he
      intro p e Rm s m args below meth c H locs cells slots Z lsA C hR hS hl hret
      subst hn
      exact lv_land C.1 C.2.1 hd (hv p e Rm s m args below meth c H locs cells slots Z lsA C hR hS hl hret)
    · cases he
  · cases he
theorem sd_lor (hd : decode (mC k) pc = .ok (.lor, n)) (he : exI k n ρ pc ls st S I L R (.lor) = some r) (hv : SV l sz b Lx xs adK EvT D aC k (ρ, pc, ls, st, S, I, L, R) Q r) : V l sz b Lx xs adK EvT D aC k (ρ, pc, ls, st, S, I, L, R) Q := by
  unfold exI at he; dsimp only at he; unfold xLL at he
  split at he
  · split at he
    · rename_i hn
      cases he
      intro p e Rm s m args below meth c H locs cells slots Z lsA C hR hS hl hret
      subst hn
      exact lv_lor C.1 C.2.1 hd (hv p e Rm s m args below meth c H locs cells slots Z lsA C hR hS hl hret)
    · cases he
  · cases he
theorem sd_ldiv (hd : decode (mC k) pc = .ok (.ldiv, n)) (he : exI k n ρ pc ls st S I L R (.ldiv) = some r) (hv : SV l sz b Lx xs adK EvT D aC k (ρ, pc, ls, st, S, I, L, R) Q r) : V l sz b Lx xs adK EvT D aC k (ρ, pc, ls, st, S, I, L, R) Q := by
  unfold exI at he; dsimp only at he; unfold xLLd at he
  split at he
  · split at he
    · rename_i hn
      cases he
      intro p e Rm s m args below meth c H locs cells slots Z lsA C hR hS hl hret
      obtain ⟨rfl, hn2⟩ := id hn
      exact lv_ldiv C.1 C.2.1 hd hn.2 (hv p e Rm s m args below meth c H locs cells slots Z lsA C hR hS hl hret)
    · cases he
  · cases he
theorem sd_lrem (hd : decode (mC k) pc = .ok (.lrem, n)) (he : exI k n ρ pc ls st S I L R (.lrem) = some r) (hv : SV l sz b Lx xs adK EvT D aC k (ρ, pc, ls, st, S, I, L, R) Q r) : V l sz b Lx xs adK EvT D aC k (ρ, pc, ls, st, S, I, L, R) Q := by
  unfold exI at he; dsimp only at he; unfold xLLd at he
  split at he
  · split at he
    · rename_i hn
      cases he
      intro p e Rm s m args below meth c H locs cells slots Z lsA C hR hS hl hret
      obtain ⟨rfl, hn2⟩ := id hn
      exact lv_lrem C.1 C.2.1 hd hn.2 (hv p e Rm s m args below meth c H locs cells slots Z lsA C hR hS hl hret)
    · cases he
  · cases he
theorem sd_lshl (hd : decode (mC k) pc = .ok (.lshl, n)) (he : exI k n ρ pc ls st S I L R (.lshl) = some r) (hv : SV l sz b Lx xs adK EvT D aC k (ρ, pc, ls, st, S, I, L, R) Q r) : V l sz b Lx xs adK EvT D aC k (ρ, pc, ls, st, S, I, L, R) Q := by
  unfold exI at he; dsimp only at he; unfold xLI at he
  split at he
  · split at he
    · rename_i hn
      cases he
      intro p e Rm s m args below meth c H locs cells slots Z lsA C hR hS hl hret
      subst hn
      exact lv_lshl C.1 C.2.1 hd rfl (hv p e Rm s m args below meth c H locs cells slots Z lsA C hR hS hl hret)
    · cases he
  · cases he
theorem sd_i2l (hd : decode (mC k) pc = .ok (.i2l, n)) (he : exI k n ρ pc ls st S I L R (.i2l) = some r) (hv : SV l sz b Lx xs adK EvT D aC k (ρ, pc, ls, st, S, I, L, R) Q r) : V l sz b Lx xs adK EvT D aC k (ρ, pc, ls, st, S, I, L, R) Q := by
  unfold exI at he; dsimp only at he; unfold xI2L at he
  split at he
  · split at he
    · rename_i hn
      cases he
      intro p e Rm s m args below meth c H locs cells slots Z lsA C hR hS hl hret
      subst hn
      exact lv_i2l C.1 C.2.1 hd rfl (hv p e Rm s m args below meth c H locs cells slots Z lsA C hR hS hl hret)
    · cases he
  · cases he
theorem sd_l2i (hd : decode (mC k) pc = .ok (.l2i, n)) (he : exI k n ρ pc ls st S I L R (.l2i) = some r) (hv : SV l sz b Lx xs adK EvT D aC k (ρ, pc, ls, st, S, I, L, R) Q r) : V l sz b Lx xs adK EvT D aC k (ρ, pc, ls, st, S, I, L, R) Q := by
  unfold exI at he; dsimp only at he; unfold xL2I at he
  split at he
  · split at he
    · rename_i hn
      cases he
      intro p e Rm s m args below meth c H locs cells slots Z lsA C hR hS hl hret
      subst hn
      exact lv_l2i C.1 C.2.1 hd rfl (hv p e Rm s m args below meth c H locs cells slots Z lsA C hR hS hl hret)
    · cases he
  · cases he
theorem sd_lcmp (hd : decode (mC k) pc = .ok (.lcmp, n)) (he : exI k n ρ pc ls st S I L R (.lcmp) = some r) (hv : SV l sz b Lx xs adK EvT D aC k (ρ, pc, ls, st, S, I, L, R) Q r) : V l sz b Lx xs adK EvT D aC k (ρ, pc, ls, st, S, I, L, R) Q := by
  unfold exI at he; dsimp only at he; unfold xLcmp at he
  split at he
  · split at he
    · rename_i hn
      cases he
      intro p e Rm s m args below meth c H locs cells slots Z lsA C hR hS hl hret
      subst hn
      exact W.lcmp C.1 C.2.1 hd (hv p e Rm s m args below meth c H locs cells slots Z lsA C hR hS hl hret)
    · cases he
  · cases he
theorem sd_dup (hd : decode (mC k) pc = .ok (.dup, n)) (he : exI k n ρ pc ls st S I L R (.dup) = some r) (hv : SV l sz b Lx xs adK EvT D aC k (ρ, pc, ls, st, S, I, L, R) Q r) : V l sz b Lx xs adK EvT D aC k (ρ, pc, ls, st, S, I, L, R) Q := by
  unfold exI at he; dsimp only at he; unfold xDup at he
  split at he
  · split at he
    · rename_i hn
      cases he
      intro p e Rm s m args below meth c H locs cells slots Z lsA C hR hS hl hret
      obtain ⟨rfl, hn2⟩ := id hn
      exact lv_dup C.1 C.2.1 hd hn.2 (hv p e Rm s m args below meth c H locs cells slots Z lsA C hR hS hl hret)
    · cases he
  · cases he
theorem sd_dup2 (hd : decode (mC k) pc = .ok (.dup2, n)) (he : exI k n ρ pc ls st S I L R (.dup2) = some r) (hv : SV l sz b Lx xs adK EvT D aC k (ρ, pc, ls, st, S, I, L, R) Q r) : V l sz b Lx xs adK EvT D aC k (ρ, pc, ls, st, S, I, L, R) Q := by
  unfold exI at he; dsimp only at he; unfold xDup2 at he
  split at he
  · split at he
    · rename_i hn
      cases he
      intro p e Rm s m args below meth c H locs cells slots Z lsA C hR hS hl hret
      obtain ⟨rfl, hn2⟩ := id hn
      exact lv_dup2_11 C.1 C.2.1 hd hn.2.1 hn.2.2 (hv p e Rm s m args below meth c H locs cells slots Z lsA C hR hS hl hret)
    · cases he
  · cases he
theorem sd_pop (hd : decode (mC k) pc = .ok (.pop, n)) (he : exI k n ρ pc ls st S I L R (.pop) = some r) (hv : SV l sz b Lx xs adK EvT D aC k (ρ, pc, ls, st, S, I, L, R) Q r) : V l sz b Lx xs adK EvT D aC k (ρ, pc, ls, st, S, I, L, R) Q := by
  unfold exI at he; dsimp only at he; unfold xPop at he
  split at he
  · split at he
    · rename_i hn
      cases he
      intro p e Rm s m args below meth c H locs cells slots Z lsA C hR hS hl hret
      obtain ⟨rfl, hn2⟩ := id hn
      exact lv_pop C.1 C.2.1 hd hn.2 (hv p e Rm s m args below meth c H locs cells slots Z lsA C hR hS hl hret)
    · cases he
  · cases he
theorem jmp_spec {pc t : Nat} {off : Int} (h : jmp pc off = some t) : (pc : Int) + off = (t : Int) := by
  unfold jmp at h
  split at h
  · cases h; omega
  · cases h
theorem sd_if {cc : Jvm.ClassFile.Cond} {off : Int} (hd : decode (mC k) pc = .ok (.ifCond cc off, n)) (he : exI k n ρ pc ls st S I L R (.ifCond cc off) = some r) (hv : SV l sz b Lx xs adK EvT D aC k (ρ, pc, ls, st, S, I, L, R) Q r) : V l sz b Lx xs adK EvT D aC k (ρ, pc, ls, st, S, I, L, R) Q := by
  unfold exI at he; dsimp only at he; unfold xIf at he
  split at he
  · rename_i x t
    split at he
    · rename_i tg htg
      split at he
      · rename_i hn
        cases he
        subst hn
        have ht := jmp_spec htg
        intro p e Rm s m args below meth c H locs cells slots Z lsA C hR hS hl hret
        have h0 := hv p e Rm s m args below meth c H locs cells slots Z lsA C hR hS hl hret
        dsimp only at h0
        cases cc
        · exact lv_if_eq C.1 C.2.1 hd ht (fun hc => by rw [if_pos (by simp [cnd, hc])] at h0; exact h0) (fun hc => by rw [if_neg (by simp [cnd, hc])] at h0; exact h0)
        · exact lv_if_ne C.1 C.2.1 hd ht (fun hc => by rw [if_pos (by simp [cnd, hc])] at h0; exact h0) (fun hc => by rw [if_neg (by simp [cnd, hc])] at h0; exact h0)
        · exact lv_if_lt C.1 C.2.1 hd ht (fun hc => by rw [if_pos (by simp [cnd, hc])] at h0; exact h0) (fun hc => by rw [if_neg (by simp [cnd, hc])] at h0; exact h0)
        · exact lv_if_ge C.1 C.2.1 hd ht (fun hc => by rw [if_pos (by simp [cnd, hc])] at h0; exact h0) (fun hc => by rw [if_neg (by simp [cnd, hc])] at h0; exact h0)
        · exact lv_if_gt C.1 C.2.1 hd ht (fun hc => by rw [if_pos (by simp [cnd, hc])] at h0; exact h0) (fun hc => by rw [if_neg (by simp [cnd, hc])] at h0; exact h0)
        · exact lv_if_le C.1 C.2.1 hd ht (fun hc => by rw [if_pos (by simp [cnd, hc])] at h0; exact h0) (fun hc => by rw [if_neg (by simp [cnd, hc])] at h0; exact h0)
      · cases he
    · cases he
  · cases he
theorem sd_icmp {cc : Jvm.ClassFile.Cond} {off : Int} (hd : decode (mC k) pc = .ok (.if_icmp cc off, n)) (he : exI k n ρ pc ls st S I L R (.if_icmp cc off) = some r) (hv : SV l sz b Lx xs adK EvT D aC k (ρ, pc, ls, st, S, I, L, R) Q r) : V l sz b Lx xs adK EvT D aC k (ρ, pc, ls, st, S, I, L, R) Q := by
  unfold exI at he; dsimp only at he; unfold xIcmp at he
  split at he
  · rename_i y x t
    split at he
    · rename_i tg htg
      split at he
      · rename_i hn
        cases he
        subst hn
        have ht := jmp_spec htg
        intro p e Rm s m args below meth c H locs cells slots Z lsA C hR hS hl hret
        have h0 := hv p e Rm s m args below meth c H locs cells slots Z lsA C hR hS hl hret
        dsimp only at h0
        cases cc
        · exact lv_icmp_eq C.1 C.2.1 hd ht (fun hc => by rw [if_pos (by simp [cnd, hc])] at h0; exact h0) (fun hc => by rw [if_neg (by simp [cnd, hc])] at h0; exact h0)
        · exact lv_icmp_ne C.1 C.2.1 hd ht (fun hc => by rw [if_pos (by simp [cnd, hc])] at h0; exact h0) (fun hc => by rw [if_neg (by simp [cnd, hc])] at h0; exact h0)
        · exact lv_icmp_lt C.1 C.2.1 hd ht (fun hc => by rw [if_pos (by simp [cnd, hc])] at h0; exact h0) (fun hc => by rw [if_neg (by simp [cnd, hc])] at h0; exact h0)
        · exact lv_icmp_ge C.1 C.2.1 hd ht (fun hc => by rw [if_pos (by simp [cnd, hc])] at h0; exact h0) (fun hc => by rw [if_neg (by simp [cnd, hc])] at h0; exact h0)
        · exact lv_icmp_gt C.1 C.2.1 hd ht (fun hc => by rw [if_pos (by simp [cnd, hc])] at h0; exact h0) (fun hc => by rw [if_neg (by simp [cnd, hc])] at h0; exact h0)
        · exact lv_icmp_le C.1 C.2.1 hd ht (fun hc => by rw [if_pos (by simp [cnd, hc])] at h0; exact h0) (fun hc => by rw [if_neg (by simp [cnd, hc])] at h0; exact h0)
      · cases he
    · cases he
  · cases he
theorem sd_goto {off : Int} (hd : decode (mC k) pc = .ok (.goto off, n)) (he : exI k n ρ pc ls st S I L R (.goto off) = some r) (hv : SV l sz b Lx xs adK EvT D aC k (ρ, pc, ls, st, S, I, L, R) Q r) : V l sz b Lx xs adK EvT D aC k (ρ, pc, ls, st, S, I, L, R) Q := by
  unfold exI at he; dsimp only at he
  split at he
  · rename_i hn
    subst hn
    unfold jx at he
    split at he
    · rename_i t ht
      cases he
      intro p e Rm s m args below meth c H locs cells slots Z lsA C hR hS hl hret
      exact lv_goto C.1 C.2.1 hd (jmp_spec ht) (hv p e Rm s m args below meth c H locs cells slots Z lsA C hR hS hl hret)
    · cases he
  · cases he
theorem sd_tsw {d lo hi : Int} {offs : Array Int} (hd : decode (mC k) pc = .ok (.tableswitch d lo hi offs, n)) (he : exI k n ρ pc ls st S I L R (.tableswitch d lo hi offs) = some r) (hv : SV l sz b Lx xs adK EvT D aC k (ρ, pc, ls, st, S, I, L, R) Q r) : V l sz b Lx xs adK EvT D aC k (ρ, pc, ls, st, S, I, L, R) Q := by
  unfold exI at he; dsimp only at he; unfold xTsw at he
  split at he
  · rename_i x t
    split at he
    · rename_i off hoff
      unfold jx at he
      split at he
      · rename_i tg htg
        cases he
        intro p e Rm s m args below meth c H locs cells slots Z lsA C hR hS hl hret
        unfold tsw at hoff
        split at hoff
        · rename_i h1
          cases hoff
          exact lv_tableOut C.1 C.2.1 hd h1 (jmp_spec htg) (hv p e Rm s m args below meth c H locs cells slots Z lsA C hR hS hl hret)
        · rename_i h1
          exact lv_tableIn C.1 C.2.1 hd (fun q => h1 (Or.inl q)) (fun q => h1 (Or.inr q)) hoff (jmp_spec htg) (hv p e Rm s m args below meth c H locs cells slots Z lsA C hR hS hl hret)
      · cases he
    · cases he
  · cases he
theorem sd_lsw {d : Int} {ps : Array (Int × Int)} (hd : decode (mC k) pc = .ok (.lookupswitch d ps, n)) (he : exI k n ρ pc ls st S I L R (.lookupswitch d ps) = some r) (hv : SV l sz b Lx xs adK EvT D aC k (ρ, pc, ls, st, S, I, L, R) Q r) : V l sz b Lx xs adK EvT D aC k (ρ, pc, ls, st, S, I, L, R) Q := by
  unfold exI at he; dsimp only at he; unfold xLsw at he
  split at he
  · rename_i x t
    split at he
    · rename_i hp
      unfold jx at he
      split at he
      · rename_i tg htg
        cases he
        intro p e Rm s m args below meth c H locs cells slots Z lsA C hR hS hl hret
        exact lv_lookup C.1 C.2.1 hd hp rfl (jmp_spec htg) (hv p e Rm s m args below meth c H locs cells slots Z lsA C hR hS hl hret)
      · cases he
    · cases he
  · cases he
end SD2
