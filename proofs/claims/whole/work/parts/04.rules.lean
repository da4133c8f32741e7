/-! One rule an instruction of the small machine. -/
theorem dk {k pc : Nat} {cc : ByteArray} {r : Except DecodeError (Instr × Nat)} (hc : mC k = cc) (hd : decode cc pc = r) : decode (mC k) pc = r := hc ▸ hd
/-- a truth as an int -/
def bI (c : Prop) [Decidable c] : Int32 := if c then nI 1 else nI 0
theorem bI_t {c : Prop} [Decidable c] (h : c) : bI c = nI 1 := if_pos h
theorem bI_f {c : Prop} [Decidable c] (h : ¬ c) : bI c = nI 0 := if_neg h
theorem nI_ne01 : ¬ nI 1 = nI 0 := by decide
theorem bI_0 {c : Prop} [Decidable c] : (bI c = nI 0) = ¬ c := by
  unfold bI
  by_cases h : c <;> simp [h, nI_ne01]
theorem bI_1 {c : Prop} [Decidable c] : (bI c = nI 1) = c := by
  unfold bI
  by_cases h : c
  · simp [h]
  · simp only [h, if_false, eq_iff_iff, iff_false]
    exact fun q => nI_ne01 q.symm
theorem bI_01 {c : Prop} [Decidable c] : (bI c = nI 0 ∨ bI c = nI 1) = True := by
  unfold bI
  by_cases h : c <;> simp [h]
theorem hx01 {x : Int32} (h : x = nI 0 ∨ x = nI 1) : x = 0 ∨ x = 1 := h
/-- a call of a method by its number -/
def CA (d k : Nat) (as : List Value) (S : mS) (I : mI) (L : mL) (R : mR) (Q : mQ) : Prop := WP (d, (mcs k).1, (mcs k).2) k 0 (lse (mN k) as) [] S I L R Q
theorem va_rf_some (q : Nat) : va_rf (some q) = .ref q := rfl
theorem cw_nil : cw [] = 0 := rfl
theorem cw_int (x : Int32) (t : List Value) : cw (.int x :: t) = 1 + cw t := by simp [cw, Value.category]
theorem cw_ref (x : Nat) (t : List Value) : cw (.ref x :: t) = 1 + cw t := by simp [cw, Value.category]
theorem cw_long (x : Int64) (t : List Value) : cw (.long x :: t) = 2 + cw t := by simp [cw, Value.category]
theorem kl_int (x : Int32) : kl (some (.int x)) = some (.int x) := rfl
theorem kl_ref (x : Nat) : kl (some (.ref x)) = some (.ref x) := rfl
theorem kl_null : kl (some .null) = some .null := rfl
theorem kl_long (x : Int64) : kl (some (.long x)) = none := rfl
theorem kl_none : kl none = none := rfl
theorem tl_some (v : Value) (t : List Value) : (some v).toList ++ t = v :: t := rfl
theorem tl_none (t : List Value) : (none : Option Value).toList ++ t = t := rfl
section RU
variable {ρ : mB} {d bc bs k pc : Nat} {ls : mV} {st : List Value} {S : mS} {I : mI} {L : mL} {R : mR} {Q : mQ}
theorem w_go {pc' : Nat} {ls' : mV} {st' : List Value} {i : Instr} {n : Nat} (hd : decode (mC k) pc = .ok (i, n)) (h : exI k n ρ pc ls st S I L R i = some (.inl (ρ, pc', ls', st', S, I, L, R))) : WP ρ k pc ls st S I L R Q = WP ρ k pc' ls' st' S I L R Q := WP_nx hd h
theorem w_iconst {z : Int} {v : Int32} (hd : decode (mC k) pc = .ok (.iconst z, 1)) (hv : Int32.ofInt z = v) : WP ρ k pc ls st S I L R Q = WP ρ k (pc + 1) ls (.int v :: st) S I L R Q := by subst hv; exact WP_nx hd (by unfold exI; dsimp only; unfold xPush; exact if_pos rfl)
theorem w_bipush {z : Int} {v : Int32} (hd : decode (mC k) pc = .ok (.bipush z, 2)) (hv : (Int8.ofInt z).toInt32 = v) : WP ρ k pc ls st S I L R Q = WP ρ k (pc + 2) ls (.int v :: st) S I L R Q := by subst hv; exact WP_nx hd (by unfold exI; dsimp only; unfold xPush; exact if_pos rfl)
theorem w_sipush {z : Int} {v : Int32} (hd : decode (mC k) pc = .ok (.sipush z, 3)) (hv : (Int16.ofInt z).toInt32 = v) : WP ρ k pc ls st S I L R Q = WP ρ k (pc + 3) ls (.int v :: st) S I L R Q := by subst hv; exact WP_nx hd (by unfold exI; dsimp only; unfold xPush; exact if_pos rfl)
theorem w_lconst {z : Fin 2} {v : Int64} (hd : decode (mC k) pc = .ok (.lconst z, 1)) (hv : Int64.ofNat (z : Nat) = v) : WP ρ k pc ls st S I L R Q = WP ρ k (pc + 1) ls (.long v :: st) S I L R Q := by subst hv; exact WP_nx hd (by unfold exI; dsimp only; unfold xPush; exact if_pos rfl)
theorem w_ldc {j len : Nat} {i : Instr} {v : Int32} (hd : decode (mC k) pc = .ok (i, len)) (hi : (i = .ldc j ∧ len = 2) ∨ (i = .ldc_w j ∧ len = 3)) (hv : iM (mO k) j = some v) : WP ρ k pc ls st S I L R Q = WP ρ k (pc + len) ls (.int v :: st) S I L R Q := by
  rcases hi with ⟨rfl, rfl⟩ | ⟨rfl, rfl⟩ <;> refine WP_nx hd ?_ <;> unfold exI <;> dsimp only <;> unfold xLdc <;> rw [hv] <;> exact if_pos rfl
theorem w_ldcs {j len q i0 : Nat} {i : Instr} (hd : decode (mC k) pc = .ok (i, len)) (hi : (i = .ldc j ∧ len = 2) ∨ (i = .ldc_w j ∧ len = 3)) (hn : iM (mO k) j = none) (hs : sM (mO k) j = some i0) (hq : R 0 i0 = some q) : WP ρ k pc ls st S I L R Q = WP ρ k (pc + len) ls (.ref q :: st) S I L R Q := by
  rcases hi with ⟨rfl, rfl⟩ | ⟨rfl, rfl⟩ <;> refine WP_nx hd ?_ <;> unfold exI <;> dsimp only <;> unfold xLdc <;> rw [hn] <;> dsimp only <;> rw [hs] <;> dsimp only <;> rw [if_pos rfl, hq] <;> rfl
theorem w_ldc2 {j : Nat} {v : Int64} (hd : decode (mC k) pc = .ok (.ldc2_w j, 3)) (hv : jM (mO k) j = some v) : WP ρ k pc ls st S I L R Q = WP ρ k (pc + 3) ls (.long v :: st) S I L R Q := by
  refine WP_nx hd ?_
  unfold exI; dsimp only; unfold xLdc2; rw [hv]; exact if_pos rfl
theorem w_iload {j len : Nat} {i : Instr} {x : Int32} (hd : decode (mC k) pc = .ok (i, len)) (hi : (i = .iload j ∧ len = 2) ∨ (∃ q : Fin 4, i = .iload_n q ∧ (q : Nat) = j ∧ len = 1)) (hl : lg ls j = some (.int x)) : WP ρ k pc ls st S I L R Q = WP ρ k (pc + len) ls (.int x :: st) S I L R Q := by
  rcases hi with ⟨rfl, rfl⟩ | ⟨q, rfl, rfl, rfl⟩ <;> refine WP_nx hd ?_ <;> unfold exI <;> dsimp only <;> unfold xLoadI <;> rw [hl] <;> exact if_pos rfl
theorem w_lload {j len : Nat} {i : Instr} {x : Int64} (hd : decode (mC k) pc = .ok (i, len)) (hi : (i = .lload j ∧ len = 2) ∨ (∃ q : Fin 4, i = .lload_n q ∧ (q : Nat) = j ∧ len = 1)) (hl : lg ls j = some (.long x)) : WP ρ k pc ls st S I L R Q = WP ρ k (pc + len) ls (.long x :: st) S I L R Q := by
  rcases hi with ⟨rfl, rfl⟩ | ⟨q, rfl, rfl, rfl⟩ <;> refine WP_nx hd ?_ <;> unfold exI <;> dsimp only <;> unfold xLoadL <;> rw [hl] <;> exact if_pos rfl
theorem w_aload {j len : Nat} {i : Instr} {x : Nat} (hd : decode (mC k) pc = .ok (i, len)) (hi : (i = .aload j ∧ len = 2) ∨ (∃ q : Fin 4, i = .aload_n q ∧ (q : Nat) = j ∧ len = 1)) (hl : lg ls j = some (.ref x)) : WP ρ k pc ls st S I L R Q = WP ρ k (pc + len) ls (.ref x :: st) S I L R Q := by
  rcases hi with ⟨rfl, rfl⟩ | ⟨q, rfl, rfl, rfl⟩ <;> refine WP_nx hd ?_ <;> unfold exI <;> dsimp only <;> unfold xLoadA <;> rw [hl] <;> exact if_pos rfl
theorem w_istore {j len : Nat} {i : Instr} {x : Int32} {ls' : mV} (hd : decode (mC k) pc = .ok (i, len)) (hi : (i = .istore j ∧ len = 2) ∨ (∃ q : Fin 4, i = .istore_n q ∧ (q : Nat) = j ∧ len = 1)) (hn : j < mN k) (hl : ls1 ls j (.int x) = ls') : WP ρ k pc ls (.int x :: st) S I L R Q = WP ρ k (pc + len) ls' st S I L R Q := by
  subst hl
  rcases hi with ⟨rfl, rfl⟩ | ⟨q, rfl, rfl, rfl⟩ <;> exact WP_nx hd (by unfold exI; dsimp only; unfold xStoreI; dsimp only; exact if_pos ⟨rfl, hn⟩)
theorem w_astore {j len : Nat} {i : Instr} {x : Nat} {ls' : mV} (hd : decode (mC k) pc = .ok (i, len)) (hi : (i = .astore j ∧ len = 2) ∨ (∃ q : Fin 4, i = .astore_n q ∧ (q : Nat) = j ∧ len = 1)) (hn : j < mN k) (hl : ls1 ls j (.ref x) = ls') : WP ρ k pc ls (.ref x :: st) S I L R Q = WP ρ k (pc + len) ls' st S I L R Q := by
  subst hl
  rcases hi with ⟨rfl, rfl⟩ | ⟨q, rfl, rfl, rfl⟩ <;> exact WP_nx hd (by unfold exI; dsimp only; unfold xStoreA; dsimp only; exact if_pos ⟨rfl, hn⟩)
theorem w_lstore {j len : Nat} {i : Instr} {x : Int64} {ls' : mV} (hd : decode (mC k) pc = .ok (i, len)) (hi : (i = .lstore j ∧ len = 2) ∨ (∃ q : Fin 4, i = .lstore_n q ∧ (q : Nat) = j ∧ len = 1)) (hn : j + 1 < mN k) (hl : ls2 ls j (.long x) = ls') : WP ρ k pc ls (.long x :: st) S I L R Q = WP ρ k (pc + len) ls' st S I L R Q := by
  subst hl
  rcases hi with ⟨rfl, rfl⟩ | ⟨q, rfl, rfl, rfl⟩ <;> exact WP_nx hd (by unfold exI; dsimp only; unfold xStoreL; dsimp only; exact if_pos ⟨rfl, hn⟩)
theorem w_iinc {j : Nat} {z : Int} {x v : Int32} {ls' : mV} (hd : decode (mC k) pc = .ok (.iinc j z, 3)) (hg : lg ls j = some (.int x)) (hn : j < mN k) (hv : Int32.ofInt z = v) (hl : ls1 ls j (.int (x + v)) = ls') : WP ρ k pc ls st S I L R Q = WP ρ k (pc + 3) ls' st S I L R Q := by
  subst hl; subst hv
  refine WP_nx hd ?_
  unfold exI; dsimp only; unfold xInc; rw [hg]; exact if_pos ⟨rfl, hn⟩
theorem w_iadd {x y : Int32} (hd : decode (mC k) pc = .ok (.iadd, 1)) : WP ρ k pc ls (.int y :: .int x :: st) S I L R Q = WP ρ k (pc + 1) ls (.int (x + y) :: st) S I L R Q := WP_nx hd (by unfold exI; dsimp only; unfold xII; dsimp only; exact if_pos rfl)
theorem w_isub {x y : Int32} (hd : decode (mC k) pc = .ok (.isub, 1)) : WP ρ k pc ls (.int y :: .int x :: st) S I L R Q = WP ρ k (pc + 1) ls (.int (x - y) :: st) S I L R Q := WP_nx hd (by unfold exI; dsimp only; unfold xII; dsimp only; exact if_pos rfl)
theorem w_imul {x y : Int32} (hd : decode (mC k) pc = .ok (.imul, 1)) : WP ρ k pc ls (.int y :: .int x :: st) S I L R Q = WP ρ k (pc + 1) ls (.int (x * y) :: st) S I L R Q := WP_nx hd (by unfold exI; dsimp only; unfold xII; dsimp only; exact if_pos rfl)
theorem w_iand {x y : Int32} (hd : decode (mC k) pc = .ok (.iand, 1)) : WP ρ k pc ls (.int y :: .int x :: st) S I L R Q = WP ρ k (pc + 1) ls (.int (x &&& y) :: st) S I L R Q := WP_nx hd (by unfold exI; dsimp only; unfold xII; dsimp only; exact if_pos rfl)
theorem w_ior {x y : Int32} (hd : decode (mC k) pc = .ok (.ior, 1)) : WP ρ k pc ls (.int y :: .int x :: st) S I L R Q = WP ρ k (pc + 1) ls (.int (x ||| y) :: st) S I L R Q := WP_nx hd (by unfold exI; dsimp only; unfold xII; dsimp only; exact if_pos rfl)
theorem w_ixor {x y : Int32} (hd : decode (mC k) pc = .ok (.ixor, 1)) : WP ρ k pc ls (.int y :: .int x :: st) S I L R Q = WP ρ k (pc + 1) ls (.int (x ^^^ y) :: st) S I L R Q := WP_nx hd (by unfold exI; dsimp only; unfold xII; dsimp only; exact if_pos rfl)
theorem w_ishl {x y : Int32} (hd : decode (mC k) pc = .ok (.ishl, 1)) : WP ρ k pc ls (.int y :: .int x :: st) S I L R Q = WP ρ k (pc + 1) ls (.int (x <<< (y &&& 31)) :: st) S I L R Q := WP_nx hd (by unfold exI; dsimp only; unfold xII; dsimp only; exact if_pos rfl)
theorem w_ishr {x y : Int32} (hd : decode (mC k) pc = .ok (.ishr, 1)) : WP ρ k pc ls (.int y :: .int x :: st) S I L R Q = WP ρ k (pc + 1) ls (.int (x >>> (y &&& 31)) :: st) S I L R Q := WP_nx hd (by unfold exI; dsimp only; unfold xII; dsimp only; exact if_pos rfl)
/-- the shift without a sign -/
def ush (x y : Int32) : Int32 := (x.toUInt32 >>> (y.toUInt32 &&& Int32.toUInt32 31)).toInt32
theorem w_iushr {x y : Int32} (hd : decode (mC k) pc = .ok (.iushr, 1)) : WP ρ k pc ls (.int y :: .int x :: st) S I L R Q = WP ρ k (pc + 1) ls (.int (ush x y) :: st) S I L R Q := WP_nx hd (by unfold exI; dsimp only; unfold xII; dsimp only; exact if_pos rfl)
theorem w_idiv {x y : Int32} (hd : decode (mC k) pc = .ok (.idiv, 1)) (h : ¬ y = 0) : WP ρ k pc ls (.int y :: .int x :: st) S I L R Q = WP ρ k (pc + 1) ls (.int (x / y) :: st) S I L R Q := WP_nx hd (by unfold exI; dsimp only; unfold xIId; dsimp only; exact if_pos ⟨rfl, h⟩)
/-- Java's rest -/
def rmI (x y : Int32) : Int32 := x - x / y * y
theorem w_irem {x y : Int32} (hd : decode (mC k) pc = .ok (.irem, 1)) (h : ¬ y = 0) : WP ρ k pc ls (.int y :: .int x :: st) S I L R Q = WP ρ k (pc + 1) ls (.int (rmI x y) :: st) S I L R Q := WP_nx hd (by unfold exI; dsimp only; unfold xIId; dsimp only; exact if_pos ⟨rfl, h⟩)
theorem w_ineg {x : Int32} (hd : decode (mC k) pc = .ok (.ineg, 1)) : WP ρ k pc ls (.int x :: st) S I L R Q = WP ρ k (pc + 1) ls (.int (-x) :: st) S I L R Q := WP_nx hd (by unfold exI; dsimp only; unfold xI; dsimp only; exact if_pos rfl)
theorem w_i2b {x : Int32} (hd : decode (mC k) pc = .ok (.i2b, 1)) : WP ρ k pc ls (.int x :: st) S I L R Q = WP ρ k (pc + 1) ls (.int x.toInt8.toInt32 :: st) S I L R Q := WP_nx hd (by unfold exI; dsimp only; unfold xI; dsimp only; exact if_pos rfl)
theorem w_i2s {x : Int32} (hd : decode (mC k) pc = .ok (.i2s, 1)) : WP ρ k pc ls (.int x :: st) S I L R Q = WP ρ k (pc + 1) ls (.int x.toInt16.toInt32 :: st) S I L R Q := WP_nx hd (by unfold exI; dsimp only; unfold xI; dsimp only; exact if_pos rfl)
theorem w_ladd {x y : Int64} (hd : decode (mC k) pc = .ok (.ladd, 1)) : WP ρ k pc ls (.long y :: .long x :: st) S I L R Q = WP ρ k (pc + 1) ls (.long (x + y) :: st) S I L R Q := WP_nx hd (by unfold exI; dsimp only; unfold xLL; dsimp only; exact if_pos rfl)
theorem w_lmul {x y : Int64} (hd : decode (mC k) pc = .ok (.lmul, 1)) : WP ρ k pc ls (.long y :: .long x :: st) S I L R Q = WP ρ k (pc + 1) ls (.long (x * y) :: st) S I L R Q := WP_nx hd (by unfold exI; dsimp only; unfold xLL; dsimp only; exact if_pos rfl)
theorem w_land {x y : Int64} (hd : decode (mC k) pc = .ok (.land, 1)) : WP ρ k pc ls (.long y :: .long x :: st) S I L R Q = WP ρ k (pc + 1) ls (.long (x &&& y) :: st) S I L R Q := WP_nx hd (by unfold exI; dsimp only; unfold xLL; dsimp only; exact if_pos rfl)
theorem w_lor {x y : Int64} (hd : decode (mC k) pc = .ok (.lor, 1)) : WP ρ k pc ls (.long y :: .long x :: st) S I L R Q = WP ρ k (pc + 1) ls (.long (x ||| y) :: st) S I L R Q := WP_nx hd (by unfold exI; dsimp only; unfold xLL; dsimp only; exact if_pos rfl)
theorem w_ldiv {x y : Int64} (hd : decode (mC k) pc = .ok (.ldiv, 1)) (h : ¬ y = 0) : WP ρ k pc ls (.long y :: .long x :: st) S I L R Q = WP ρ k (pc + 1) ls (.long (x / y) :: st) S I L R Q := WP_nx hd (by unfold exI; dsimp only; unfold xLLd; dsimp only; exact if_pos ⟨rfl, h⟩)
def rmL (x y : Int64) : Int64 := x - x / y * y
theorem w_lrem {x y : Int64} (hd : decode (mC k) pc = .ok (.lrem, 1)) (h : ¬ y = 0) : WP ρ k pc ls (.long y :: .long x :: st) S I L R Q = WP ρ k (pc + 1) ls (.long (rmL x y) :: st) S I L R Q := WP_nx hd (by unfold exI; dsimp only; unfold xLLd; dsimp only; exact if_pos ⟨rfl, h⟩)
theorem w_lshl {x : Int64} {y : Int32} (hd : decode (mC k) pc = .ok (.lshl, 1)) : WP ρ k pc ls (.int y :: .long x :: st) S I L R Q = WP ρ k (pc + 1) ls (.long (x <<< (y.toInt64 &&& 63)) :: st) S I L R Q := WP_nx hd (by unfold exI; dsimp only; unfold xLI; dsimp only; exact if_pos rfl)
theorem w_i2l {x : Int32} (hd : decode (mC k) pc = .ok (.i2l, 1)) : WP ρ k pc ls (.int x :: st) S I L R Q = WP ρ k (pc + 1) ls (.long x.toInt64 :: st) S I L R Q := WP_nx hd (by unfold exI; dsimp only; unfold xI2L; dsimp only; exact if_pos rfl)
theorem w_l2i {x : Int64} (hd : decode (mC k) pc = .ok (.l2i, 1)) : WP ρ k pc ls (.long x :: st) S I L R Q = WP ρ k (pc + 1) ls (.int x.toInt32 :: st) S I L R Q := WP_nx hd (by unfold exI; dsimp only; unfold xL2I; dsimp only; exact if_pos rfl)
theorem w_lcmp {x y : Int64} (hd : decode (mC k) pc = .ok (.lcmp, 1)) : WP ρ k pc ls (.long y :: .long x :: st) S I L R Q = WP ρ k (pc + 1) ls (.int (lg_cmp x y) :: st) S I L R Q := WP_nx hd (by unfold exI; dsimp only; unfold xLcmp; dsimp only; exact if_pos rfl)
theorem w_dupI {x : Int32} (hd : decode (mC k) pc = .ok (.dup, 1)) : WP ρ k pc ls (.int x :: st) S I L R Q = WP ρ k (pc + 1) ls (.int x :: .int x :: st) S I L R Q := WP_nx hd (by unfold exI; dsimp only; unfold xDup; dsimp only; exact if_pos ⟨rfl, rfl⟩)
theorem w_dupR {x : Nat} (hd : decode (mC k) pc = .ok (.dup, 1)) : WP ρ k pc ls (.ref x :: st) S I L R Q = WP ρ k (pc + 1) ls (.ref x :: .ref x :: st) S I L R Q := WP_nx hd (by unfold exI; dsimp only; unfold xDup; dsimp only; exact if_pos ⟨rfl, rfl⟩)
theorem w_dup2 {x : Int32} {a : Nat} (hd : decode (mC k) pc = .ok (.dup2, 1)) : WP ρ k pc ls (.int x :: .ref a :: st) S I L R Q = WP ρ k (pc + 1) ls (.int x :: .ref a :: .int x :: .ref a :: st) S I L R Q := WP_nx hd (by unfold exI; dsimp only; unfold xDup2; dsimp only; exact if_pos ⟨rfl, rfl, rfl⟩)
theorem w_popI {x : Int32} (hd : decode (mC k) pc = .ok (.pop, 1)) : WP ρ k pc ls (.int x :: st) S I L R Q = WP ρ k (pc + 1) ls st S I L R Q := WP_nx hd (by unfold exI; dsimp only; unfold xPop; dsimp only; exact if_pos ⟨rfl, rfl⟩)
theorem jmp_of {pc t : Nat} {off : Int} (h : (pc : Int) + off = (t : Int)) : jmp pc off = some t := by
  unfold jmp
  rw [h, if_pos (Int.natCast_nonneg t), Int.toNat_natCast]
theorem w_goto {off : Int} {t : Nat} (hd : decode (mC k) pc = .ok (.goto off, 3)) (ht : (pc : Int) + off = (t : Int)) : WP ρ k pc ls st S I L R Q = WP ρ k t ls st S I L R Q := by
  refine WP_nx hd ?_
  unfold exI; dsimp only; rw [if_pos rfl]; unfold jx; rw [jmp_of ht]
theorem w_ifc {c : Jvm.ClassFile.Cond} {off : Int} {t : Nat} {x : Int32} {p : Prop} [Decidable p] (hd : decode (mC k) pc = .ok (.ifCond c off, 3)) (ht : (pc : Int) + off = (t : Int)) (hc : cnd c x 0 = decide p) : WP ρ k pc ls (.int x :: st) S I L R Q = if p then WP ρ k t ls st S I L R Q else WP ρ k (pc + 3) ls st S I L R Q := by
  by_cases h : p
  · rw [if_pos h]
    refine WP_nx hd ?_
    unfold exI; dsimp only; unfold xIf; dsimp only; rw [jmp_of ht]; dsimp only; rw [if_pos rfl, if_pos (by rw [hc]; exact decide_eq_true h)]; rfl
  · rw [if_neg h]
    refine WP_nx hd ?_
    unfold exI; dsimp only; unfold xIf; dsimp only; rw [jmp_of ht]; dsimp only; rw [if_pos rfl, if_neg (by rw [hc]; simpa using h)]; rfl
theorem w_icmp {c : Jvm.ClassFile.Cond} {off : Int} {t : Nat} {x y : Int32} {p : Prop} [Decidable p] (hd : decode (mC k) pc = .ok (.if_icmp c off, 3)) (ht : (pc : Int) + off = (t : Int)) (hc : cnd c x y = decide p) : WP ρ k pc ls (.int y :: .int x :: st) S I L R Q = if p then WP ρ k t ls st S I L R Q else WP ρ k (pc + 3) ls st S I L R Q := by
  by_cases h : p
  · rw [if_pos h]
    refine WP_nx hd ?_
    unfold exI; dsimp only; unfold xIcmp; dsimp only; rw [jmp_of ht]; dsimp only; rw [if_pos rfl, if_pos (by rw [hc]; exact decide_eq_true h)]; rfl
  · rw [if_neg h]
    refine WP_nx hd ?_
    unfold exI; dsimp only; unfold xIcmp; dsimp only; rw [jmp_of ht]; dsimp only; rw [if_pos rfl, if_neg (by rw [hc]; simpa using h)]; rfl
theorem w_tsw {d0 lo hi off : Int} {offs : Array Int} {len t : Nat} {x : Int32} (hd : decode (mC k) pc = .ok (.tableswitch d0 lo hi offs, len)) (ho : tsw d0 lo hi offs x = some off) (ht : (pc : Int) + off = (t : Int)) : WP ρ k pc ls (.int x :: st) S I L R Q = WP ρ k t ls st S I L R Q := by
  refine WP_nx hd ?_
  unfold exI; dsimp only; unfold xTsw; dsimp only; rw [ho]; dsimp only; unfold jx; rw [jmp_of ht]
theorem w_lsw {d0 off : Int} {ps : Array (Int × Int)} {len t : Nat} {x : Int32} (hd : decode (mC k) pc = .ok (.lookupswitch d0 ps, len)) (hp : (ps.toList.zip (ps.toList.drop 1)).all (fun (a, next) => a.1 < next.1) = true) (ho : Op.lookupswitch.offset ps.toList d0 x.toInt = off) (ht : (pc : Int) + off = (t : Int)) : WP ρ k pc ls (.int x :: st) S I L R Q = WP ρ k t ls st S I L R Q := by
  refine WP_nx hd ?_
  unfold exI; dsimp only; unfold xLsw; dsimp only; rw [if_pos hp, ho]; unfold jx; rw [jmp_of ht]
theorem w_get {j ci f a : Nat} {v : Value} (hd : decode (mC k) pc = .ok (.getfield j, 3)) (hg : gM (mO k) j = some (ci, f)) (hk : kd S a = ci) (hv : fv ci f a I L R = v) : WP ρ k pc ls (.ref a :: st) S I L R Q = WP ρ k (pc + 3) ls (v :: st) S I L R Q := by
  subst hv
  refine WP_nx hd ?_
  unfold exI; dsimp only; unfold xGet; dsimp only; rw [hg]; exact if_pos ⟨rfl, hk⟩
theorem w_putI {j ci f a : Nat} {x : Int32} (hd : decode (mC k) pc = .ok (.putfield j, 3)) (hg : gM (mO k) j = some (ci, f)) (hp : putOK k ci f = true) (ht : fY ci f = .int) (hk : kd S a = ci) : WP ρ k pc ls (.int x :: .ref a :: st) S I L R Q = WP ρ k (pc + 3) ls st S (va_up I a (va_up (I a) f x)) L R Q := by
  refine WP_nx hd ?_
  unfold exI; dsimp only; unfold xPut; dsimp only; rw [hg]; exact if_pos ⟨rfl, hk, hp, Or.inl ht⟩
theorem w_putZ {j ci f a : Nat} {x : Int32} (hd : decode (mC k) pc = .ok (.putfield j, 3)) (hg : gM (mO k) j = some (ci, f)) (hp : putOK k ci f = true) (ht : fY ci f = .boolean) (hk : kd S a = ci) (hx : x = 0 ∨ x = 1) : WP ρ k pc ls (.int x :: .ref a :: st) S I L R Q = WP ρ k (pc + 3) ls st S (va_up I a (va_up (I a) f x)) L R Q := by
  refine WP_nx hd ?_
  unfold exI; dsimp only; unfold xPut; dsimp only; rw [hg]; exact if_pos ⟨rfl, hk, hp, Or.inr ⟨ht, hx⟩⟩
theorem w_putL {j ci f a : Nat} {x : Int64} (hd : decode (mC k) pc = .ok (.putfield j, 3)) (hg : gM (mO k) j = some (ci, f)) (hp : putOK k ci f = true) (ht : fY ci f = .long) (hk : kd S a = ci) : WP ρ k pc ls (.long x :: .ref a :: st) S I L R Q = WP ρ k (pc + 3) ls st S I (va_up L a (va_up (L a) f x)) R Q := by
  refine WP_nx hd ?_
  unfold exI; dsimp only; unfold xPut; dsimp only; rw [hg]; exact if_pos ⟨rfl, hk, hp, ht⟩
theorem w_putA {j ci f a x : Nat} (hd : decode (mC k) pc = .ok (.putfield j, 3)) (hg : gM (mO k) j = some (ci, f)) (hp : putOK k ci f = true) (ht : isRT (fY ci f) = true) (hk : kd S a = ci) : WP ρ k pc ls (.ref x :: .ref a :: st) S I L R Q = WP ρ k (pc + 3) ls st S I L (va_up R a (va_up (R a) f (some x))) Q := by
  refine WP_nx hd ?_
  unfold exI; dsimp only; unfold xPut; dsimp only; rw [hg]; exact if_pos ⟨rfl, hk, hp, ht⟩
theorem w_iald {a : Nat} {i : Int32} (hd : decode (mC k) pc = .ok (.iaload, 1)) (hk : kd S a = 100) (hi : vp_in i (ln S a)) : WP ρ k pc ls (.int i :: .ref a :: st) S I L R Q = WP ρ k (pc + 1) ls (.int (I a i.toNatClampNeg) :: st) S I L R Q := WP_nx hd (by unfold exI; dsimp only; unfold xIald; dsimp only; exact if_pos ⟨rfl, Or.inl hk, hi⟩)
theorem w_sald {a : Nat} {i : Int32} (hd : decode (mC k) pc = .ok (.iaload, 1)) (hk : kd S a = 110) (hi : vp_in i (ln S a)) : WP ρ k pc ls (.int i :: .ref a :: st) S I L R Q = WP ρ k (pc + 1) ls (.int (I a i.toNatClampNeg) :: st) S I L R Q := WP_nx hd (by unfold exI; dsimp only; unfold xIald; dsimp only; exact if_pos ⟨rfl, Or.inr hk, hi⟩)
theorem w_bald {a : Nat} {i : Int32} (hd : decode (mC k) pc = .ok (.baload, 1)) (hk : kd S a = 102) (hi : vp_in i (ln S a)) : WP ρ k pc ls (.int i :: .ref a :: st) S I L R Q = WP ρ k (pc + 1) ls (.int (I a i.toNatClampNeg) :: st) S I L R Q := WP_nx hd (by unfold exI; dsimp only; unfold xBald; dsimp only; exact if_pos ⟨rfl, hk, hi⟩)
theorem w_lald {a : Nat} {i : Int32} (hd : decode (mC k) pc = .ok (.laload, 1)) (hk : kd S a = 101) (hi : vp_in i (ln S a)) : WP ρ k pc ls (.int i :: .ref a :: st) S I L R Q = WP ρ k (pc + 1) ls (.long (L a i.toNatClampNeg) :: st) S I L R Q := WP_nx hd (by unfold exI; dsimp only; unfold xLald; dsimp only; exact if_pos ⟨rfl, hk, hi⟩)
theorem w_aald {a : Nat} {i : Int32} (hd : decode (mC k) pc = .ok (.aaload, 1)) (hk : kd S a = 103 ∨ kd S a = 104) (hi : vp_in i (ln S a)) : WP ρ k pc ls (.int i :: .ref a :: st) S I L R Q = WP ρ k (pc + 1) ls (va_rf (R a i.toNatClampNeg) :: st) S I L R Q := WP_nx hd (by unfold exI; dsimp only; unfold xAald; dsimp only; exact if_pos ⟨rfl, hk, hi⟩)
theorem w_iast {a : Nat} {i x : Int32} (hd : decode (mC k) pc = .ok (.iastore, 1)) (hk : kd S a = 100) (hi : vp_in i (ln S a)) : WP ρ k pc ls (.int x :: .int i :: .ref a :: st) S I L R Q = WP ρ k (pc + 1) ls st S (va_up I a (va_up (I a) i.toNatClampNeg x)) L R Q := WP_nx hd (by unfold exI; dsimp only; unfold xIast; dsimp only; exact if_pos ⟨rfl, hk, hi⟩)
theorem w_bast {a : Nat} {i x : Int32} (hd : decode (mC k) pc = .ok (.bastore, 1)) (hk : kd S a = 102) (hi : vp_in i (ln S a)) : WP ρ k pc ls (.int x :: .int i :: .ref a :: st) S I L R Q = WP ρ k (pc + 1) ls st S (va_up I a (va_up (I a) i.toNatClampNeg x.toInt8.toInt32)) L R Q := WP_nx hd (by unfold exI; dsimp only; unfold xBast; dsimp only; exact if_pos ⟨rfl, hk, hi⟩)
theorem w_last {a : Nat} {i : Int32} {x : Int64} (hd : decode (mC k) pc = .ok (.lastore, 1)) (hk : kd S a = 101) (hi : vp_in i (ln S a)) : WP ρ k pc ls (.long x :: .int i :: .ref a :: st) S I L R Q = WP ρ k (pc + 1) ls st S I (va_up L a (va_up (L a) i.toNatClampNeg x)) R Q := WP_nx hd (by unfold exI; dsimp only; unfold xLast; dsimp only; exact if_pos ⟨rfl, hk, hi⟩)
theorem w_aast {a x : Nat} {i : Int32} (hd : decode (mC k) pc = .ok (.aastore, 1)) (hk : (kd S a = 103 ∧ kd S x = 2) ∨ (kd S a = 104 ∧ kd S x = 5)) (hi : vp_in i (ln S a)) : WP ρ k pc ls (.ref x :: .int i :: .ref a :: st) S I L R Q = WP ρ k (pc + 1) ls st S I L (va_up R a (va_up (R a) i.toNatClampNeg (some x))) Q := WP_nx hd (by unfold exI; dsimp only; unfold xAast; dsimp only; exact if_pos ⟨rfl, hk, hi⟩)
theorem w_alen {a : Nat} (hd : decode (mC k) pc = .ok (.arraylength, 1)) (hk : kd S a = 100 ∨ kd S a = 101 ∨ kd S a = 102 ∨ kd S a = 103 ∨ kd S a = 104 ∨ kd S a = 110) : WP ρ k pc ls (.ref a :: st) S I L R Q = WP ρ k (pc + 1) ls (.int (nI (ln S a)) :: st) S I L R Q := WP_nx hd (by unfold exI; dsimp only; unfold xAlen; dsimp only; exact if_pos ⟨rfl, hk⟩)
theorem w_new {j ci : Nat} (hd : decode (mC k) pc = .ok (.new j, 3)) (hn : nM (mO k) j = some ci) (h1 : 1 ≤ bc) (h2 : cF ci ≤ bs) : WP (d, bc, bs) k pc ls st S I L R Q = WP (d, bc - 1, bs - cF ci) k (pc + 3) ls (.ref S.1 :: st) (S.1 + 1, va_up S.2.1 S.1 ci, va_up S.2.2 S.1 0) (va_up I S.1 (fun _ => 0)) (va_up L S.1 (fun _ => 0)) (va_up R S.1 (fun _ => none)) Q := by
  refine WP_nx hd ?_
  unfold exI; dsimp only; unfold xNew; rw [hn]; dsimp only; rw [if_pos rfl]; exact if_pos ⟨h1, h2⟩
theorem w_newa {t : ArrayType} {c : Nat} {x : Int32} (hd : decode (mC k) pc = .ok (.newarray t, 2)) (hc : (t = .int ∧ c = 100) ∨ (t = .long ∧ c = 101) ∨ (t = .byte ∧ c = 102)) (hx : ¬ x < 0) (h3 : x.toNatClampNeg ≤ 10000) (h1 : 1 ≤ bc) (h2 : x.toNatClampNeg ≤ bs) : WP (d, bc, bs) k pc ls (.int x :: st) S I L R Q = WP (d, bc - 1, bs - x.toNatClampNeg) k (pc + 2) ls (.ref S.1 :: st) (S.1 + 1, va_up S.2.1 S.1 c, va_up S.2.2 S.1 x.toNatClampNeg) (va_up I S.1 (fun _ => 0)) (va_up L S.1 (fun _ => 0)) (va_up R S.1 (fun _ => none)) Q := by
  refine WP_nx hd ?_
  unfold exI; dsimp only; unfold xNewa; dsimp only; rw [if_pos ⟨rfl, hx, h3⟩]
  rcases hc with ⟨rfl, rfl⟩ | ⟨rfl, rfl⟩ | ⟨rfl, rfl⟩ <;> exact if_pos ⟨h1, h2⟩
theorem w_anew {j ci c : Nat} {x : Int32} (hd : decode (mC k) pc = .ok (.anewarray j, 3)) (hn : nM (mO k) j = some ci) (hc : (ci = 2 ∧ c = 103) ∨ (ci = 5 ∧ c = 104)) (hx : ¬ x < 0) (h3 : x.toNatClampNeg ≤ 10000) (h1 : 1 ≤ bc) (h2 : x.toNatClampNeg ≤ bs) : WP (d, bc, bs) k pc ls (.int x :: st) S I L R Q = WP (d, bc - 1, bs - x.toNatClampNeg) k (pc + 3) ls (.ref S.1 :: st) (S.1 + 1, va_up S.2.1 S.1 c, va_up S.2.2 S.1 x.toNatClampNeg) (va_up I S.1 (fun _ => 0)) (va_up L S.1 (fun _ => 0)) (va_up R S.1 (fun _ => none)) Q := by
  refine WP_nx hd ?_
  unfold exI; dsimp only; unfold xANew; dsimp only; rw [if_pos ⟨rfl, hx, h3⟩, hn]
  rcases hc with ⟨rfl, rfl⟩ | ⟨rfl, rfl⟩ <;> exact if_pos ⟨h1, h2⟩
theorem w_invV {j k' na b : Nat} {as rest : List Value} (hd : decode (mC k) pc = .ok (.invokevirtual j, 3)) (hl : lM (mO k) j = some (0, k', na)) (hm : mcs k' = (0, 0)) (hdr : st.drop na = .ref b :: rest) (hta : (st.take na).reverse = as) (hna : na ≤ st.length) (hk : kd S b = mO k') (hw : cw rest ≤ 8) (hsl : (lsa (.ref b :: as)).length ≤ mN k') : WP (d + 1, bc, bs) k pc ls st S I L R Q = CA d k' (.ref b :: as) S I L R (fun v S I L R => WP (d + 1, bc, bs) k (pc + 3) ls (v.toList ++ rest) S I L R Q) := by
  subst hta
  have h := WP_cl (ρ := (d + 1, bc, bs)) (S := S) (I := I) (L := L) (R := R) (Q := Q) (ls := ls) (st := st) (k' := k') (as := .ref b :: (st.take na).reverse) (rest := rest) hd (by
    unfold exI; dsimp only; unfold xInvV; rw [hl]; dsimp only; rw [if_pos rfl]; unfold xV0; rw [hdr]; dsimp only; rw [if_pos ⟨rfl, hna, hk⟩]
    exact if_pos ⟨Nat.le_add_left 1 d, by rw [hm]; exact Nat.zero_le _, by rw [hm]; exact Nat.zero_le _, hw, hsl⟩)
  rw [h]
  unfold CA
  rw [hm]
  rfl
theorem w_invS {j kd0 k' na : Nat} {as rest : List Value} (hd : decode (mC k) pc = .ok (.invokestatic j, 3)) (hl : lM (mO k) j = some (kd0, k', na)) (hkd : kd0 = 1 ∨ kd0 = 5) (hm : mcs k' = (0, 0)) (hdr : st.drop na = rest) (hta : (st.take na).reverse = as) (hna : na ≤ st.length) (hw : cw rest ≤ 8) (hsl : (lsa as).length ≤ mN k') : WP (d + 1, bc, bs) k pc ls st S I L R Q = CA d k' as S I L R (fun v S I L R => WP (d + 1, bc, bs) k (pc + 3) ls (v.toList ++ rest) S I L R Q) := by
  subst hta
  subst hdr
  have h := WP_cl (ρ := (d + 1, bc, bs)) (S := S) (I := I) (L := L) (R := R) (Q := Q) (ls := ls) (st := st) (k' := k') (as := (st.take na).reverse) (rest := st.drop na) hd (by
    unfold exI; dsimp only; unfold xInvS; rw [hl]
    dsimp only; rw [if_pos hkd]; unfold xS0; rw [if_pos ⟨rfl, hna⟩]
    exact if_pos ⟨Nat.le_add_left 1 d, by rw [hm]; exact Nat.zero_le _, by rw [hm]; exact Nat.zero_le _, hw, hsl⟩)
  rw [h]
  unfold CA
  rw [hm]
  rfl
theorem w_invI {j kd0 k' na b : Nat} {as rest : List Value} (hd : decode (mC k) pc = .ok (.invokespecial j, 3)) (hl : lM (mO k) j = some (kd0, k', na)) (hkd : kd0 = 2 ∨ kd0 = 4) (hdr : st.drop na = .ref b :: rest) (hta : (st.take na).reverse = as) (hna : na ≤ st.length) (hw : cw rest ≤ 8) (h1 : (mcs k').1 ≤ bc) (h2 : (mcs k').2 ≤ bs) (hsl : (lsa (.ref b :: as)).length ≤ mN k') : WP (d + 1, bc, bs) k pc ls st S I L R Q = CA d k' (.ref b :: as) S I L R (fun v S I L R => WP (d + 1, bc - (mcs k').1, bs - (mcs k').2) k (pc + 3) ls (v.toList ++ rest) S I L R Q) := by
  subst hta
  have h := WP_cl (ρ := (d + 1, bc, bs)) (S := S) (I := I) (L := L) (R := R) (Q := Q) (ls := ls) (st := st) (k' := k') (as := .ref b :: (st.take na).reverse) (rest := rest) hd (by
    unfold exI; dsimp only; unfold xInvI; rw [hl]
    dsimp only; rw [if_pos hkd]; unfold xN0; rw [hdr]; dsimp only; rw [if_pos ⟨rfl, hna⟩]
    exact if_pos ⟨Nat.le_add_left 1 d, h1, h2, hw, hsl⟩)
  rw [h]
  unfold CA
  rfl
theorem w_invO {j x1 x2 b : Nat} {rest : List Value} (hd : decode (mC k) pc = .ok (.invokespecial j, 3)) (hl : lM (mO k) j = some (3, x1, x2)) (hw : cw rest ≤ 8) : WP (d + 1, bc, bs) k pc ls (.ref b :: rest) S I L R Q = WP (d + 1, bc, bs) k (pc + 3) ls rest S I L R Q := by
  refine WP_nx hd ?_
  unfold exI; dsimp only; unfold xInvI; rw [hl]; dsimp only; rw [if_neg (by decide), if_pos rfl]; exact if_pos ⟨rfl, Nat.le_add_left 1 d, hw⟩
theorem w_copyI {j x1 x2 a b : Nat} {m dp sp : Int32} (hd : decode (mC k) pc = .ok (.invokestatic j, 3)) (hl : lM (mO k) j = some (6, x1, x2)) (ha : kd S a = 100) (hb : kd S b = 100) (h1 : ¬ sp < 0) (h2 : ¬ dp < 0) (h3 : ¬ m < 0) (h4 : sp.toNatClampNeg + m.toNatClampNeg ≤ ln S a) (h5 : dp.toNatClampNeg + m.toNatClampNeg ≤ ln S b) (hw : cw st ≤ 8) : WP (d + 1, bc, bs) k pc ls (.int m :: .int dp :: .ref b :: .int sp :: .ref a :: st) S I L R Q = WP (d + 1, bc, bs) k (pc + 3) ls st S (va_up I b (va_cpy (I a) (I b) sp.toNatClampNeg dp.toNatClampNeg m.toNatClampNeg)) L R Q := by
  refine WP_nx hd ?_
  unfold exI; dsimp only; unfold xInvS; rw [hl]; dsimp only; rw [if_neg (by decide), if_pos rfl]; unfold xCopy; dsimp only; rw [if_pos ⟨rfl, Nat.le_add_left 1 d, hw, h1, h2, h3, h4, h5⟩]; exact if_pos ⟨ha, hb⟩
theorem w_copyL {j x1 x2 a b : Nat} {m dp sp : Int32} (hd : decode (mC k) pc = .ok (.invokestatic j, 3)) (hl : lM (mO k) j = some (6, x1, x2)) (ha : kd S a = 101) (hb : kd S b = 101) (h1 : ¬ sp < 0) (h2 : ¬ dp < 0) (h3 : ¬ m < 0) (h4 : sp.toNatClampNeg + m.toNatClampNeg ≤ ln S a) (h5 : dp.toNatClampNeg + m.toNatClampNeg ≤ ln S b) (hw : cw st ≤ 8) : WP (d + 1, bc, bs) k pc ls (.int m :: .int dp :: .ref b :: .int sp :: .ref a :: st) S I L R Q = WP (d + 1, bc, bs) k (pc + 3) ls st S I (va_up L b (va_cpy (L a) (L b) sp.toNatClampNeg dp.toNatClampNeg m.toNatClampNeg)) R Q := by
  refine WP_nx hd ?_
  unfold exI; dsimp only; unfold xInvS; rw [hl]; dsimp only; rw [if_neg (by decide), if_pos rfl]; unfold xCopy; dsimp only; rw [if_pos ⟨rfl, Nat.le_add_left 1 d, hw, h1, h2, h3, h4, h5⟩, if_neg (by rw [ha]; exact fun h => absurd h.1 (by decide))]; exact if_pos ⟨ha, hb⟩
def mxI (x y : Int32) : Int32 := if x < y then y else x
def mnI (x y : Int32) : Int32 := if y < x then y else x
def abI (x : Int32) : Int32 := if 0 ≤ x then x else 0 - x
def mxL (x y : Int64) : Int64 := if y < x then x else y
theorem w_max {j x1 x2 : Nat} {x y : Int32} (hd : decode (mC k) pc = .ok (.invokestatic j, 3)) (hl : lM (mO k) j = some (7, x1, x2)) (hw : cw st ≤ 8) : WP (d + 1, bc, bs) k pc ls (.int y :: .int x :: st) S I L R Q = WP (d + 1, bc, bs) k (pc + 3) ls (.int (mxI x y) :: st) S I L R Q := by
  refine WP_nx hd ?_
  unfold exI; dsimp only; unfold xInvS; rw [hl]; dsimp only; rw [if_neg (by decide), if_neg (by decide), if_pos rfl]; exact if_pos ⟨rfl, Nat.le_add_left 1 d, hw⟩
theorem w_min {j x1 x2 : Nat} {x y : Int32} (hd : decode (mC k) pc = .ok (.invokestatic j, 3)) (hl : lM (mO k) j = some (8, x1, x2)) (hw : cw st ≤ 8) : WP (d + 1, bc, bs) k pc ls (.int y :: .int x :: st) S I L R Q = WP (d + 1, bc, bs) k (pc + 3) ls (.int (mnI x y) :: st) S I L R Q := by
  refine WP_nx hd ?_
  unfold exI; dsimp only; unfold xInvS; rw [hl]; dsimp only; rw [if_neg (by decide), if_neg (by decide), if_neg (by decide), if_pos rfl]; exact if_pos ⟨rfl, Nat.le_add_left 1 d, hw⟩
theorem w_abs {j x1 x2 : Nat} {x : Int32} (hd : decode (mC k) pc = .ok (.invokestatic j, 3)) (hl : lM (mO k) j = some (9, x1, x2)) (hw : cw st ≤ 8) : WP (d + 1, bc, bs) k pc ls (.int x :: st) S I L R Q = WP (d + 1, bc, bs) k (pc + 3) ls (.int (abI x) :: st) S I L R Q := by
  refine WP_nx hd ?_
  unfold exI; dsimp only; unfold xInvS; rw [hl]; dsimp only; rw [if_neg (by decide), if_neg (by decide), if_neg (by decide), if_neg (by decide), if_pos rfl]; exact if_pos ⟨rfl, Nat.le_add_left 1 d, hw⟩
theorem w_maxL {j x1 x2 : Nat} {x y : Int64} (hd : decode (mC k) pc = .ok (.invokestatic j, 3)) (hl : lM (mO k) j = some (10, x1, x2)) (hw : cw st ≤ 8) : WP (d + 1, bc, bs) k pc ls (.long y :: .long x :: st) S I L R Q = WP (d + 1, bc, bs) k (pc + 3) ls (.long (mxL x y) :: st) S I L R Q := by
  refine WP_nx hd ?_
  unfold exI; dsimp only; unfold xInvS; rw [hl]; dsimp only; rw [if_neg (by decide), if_neg (by decide), if_neg (by decide), if_neg (by decide), if_neg (by decide), if_pos rfl]; exact if_pos ⟨rfl, Nat.le_add_left 1 d, hw⟩
theorem w_slen {j x1 x2 b : Nat} (hd : decode (mC k) pc = .ok (.invokevirtual j, 3)) (hl : lM (mO k) j = some (11, x1, x2)) (hk : kd S b = 200 ∨ kd S b = 201) (hw : cw st ≤ 8) : WP (d + 4, bc, bs) k pc ls (.ref b :: st) S I L R Q = WP (d + 4, bc, bs) k (pc + 3) ls (.int (nI (strC (kd S b - 200)).length) :: st) S I L R Q := by
  refine WP_nx hd ?_
  unfold exI; dsimp only; unfold xInvV; rw [hl]; dsimp only; rw [if_neg (by decide), if_pos rfl]; exact if_pos ⟨rfl, Nat.le_add_left 4 d, hk, hw⟩
theorem w_schar {j x1 x2 b : Nat} {i : Int32} (hd : decode (mC k) pc = .ok (.invokevirtual j, 3)) (hl : lM (mO k) j = some (12, x1, x2)) (hk : kd S b = 200 ∨ kd S b = 201) (hi : vp_in i (strC (kd S b - 200)).length) (hw : cw st ≤ 8) : WP (d + 4, bc, bs) k pc ls (.int i :: .ref b :: st) S I L R Q = WP (d + 4, bc, bs) k (pc + 3) ls (.int (nI ((strC (kd S b - 200)).getD i.toNatClampNeg 0)) :: st) S I L R Q := by
  refine WP_nx hd ?_
  unfold exI; dsimp only; unfold xInvV; rw [hl]; dsimp only; rw [if_neg (by decide), if_neg (by decide), if_pos rfl]; exact if_pos ⟨rfl, Nat.le_add_left 4 d, hk, hi, hw⟩
theorem w_retI {x : Int32} (hd : decode (mC k) pc = .ok (.ireturn, 1)) (ht : mT k = some .int) : WP ρ k pc ls [.int x] S I L R Q = Q (some (.int x)) S I L R := WP_rt hd (by unfold exI; dsimp only; unfold xRetI; dsimp only; exact if_pos ⟨rfl, Or.inl ht⟩)
theorem w_retZ {x : Int32} (hd : decode (mC k) pc = .ok (.ireturn, 1)) (ht : mT k = some .boolean) (hx : x = 0 ∨ x = 1) : WP ρ k pc ls [.int x] S I L R Q = Q (some (.int x)) S I L R := WP_rt hd (by unfold exI; dsimp only; unfold xRetI; dsimp only; exact if_pos ⟨rfl, Or.inr ⟨ht, hx⟩⟩)
theorem w_retL {x : Int64} (hd : decode (mC k) pc = .ok (.lreturn, 1)) (ht : mT k = some .long) : WP ρ k pc ls [.long x] S I L R Q = Q (some (.long x)) S I L R := WP_rt hd (by unfold exI; dsimp only; unfold xRetL; dsimp only; exact if_pos ⟨rfl, ht⟩)
theorem w_retA {x : Nat} (hd : decode (mC k) pc = .ok (.areturn, 1)) (ht : mT k = some (.object "StiltMarsh$Stance")) : WP ρ k pc ls [.ref x] S I L R Q = Q (some (.ref x)) S I L R := WP_rt hd (by unfold exI; dsimp only; unfold xRetA; dsimp only; exact if_pos ⟨rfl, ht⟩)
theorem w_retV (hd : decode (mC k) pc = .ok (.return_, 1)) (ht : mT k = none) : WP ρ k pc ls [] S I L R Q = Q none S I L R := WP_rt hd (by unfold exI; dsimp only; unfold xRetV; dsimp only; exact if_pos ⟨rfl, ht⟩)
end RU
