/-! What a method gives back has its kind. -/
section RT
variable {k n : Nat} {ρ : mB} {pc : Nat} {ls : mV} {st : List Value} {S : mS} {I : mI} {L : mL} {R : mR} {v : Option Value}
def rtOK (k : Nat) (v : Option Value) : Prop := ((mT k = some .int ∨ mT k = some .boolean) → ∃ x, v = some (.int x)) ∧ (mT k = some .long → ∃ x, v = some (.long x))

set_option maxHeartbeats 4000000 in
theorem ret_sh {i : Instr} (h : exI k n ρ pc ls st S I L R i = some (.inr (.inl v))) : rtOK k v := by
  cases i with
  | iconst =>
    unfold exI at h; dsimp only at h; simp only [xPush, nx, jx, mk, cl] at h
    (repeat' split at h) <;> cases h
  | bipush =>
    unfold exI at h; dsimp only at h; simp only [xPush, nx, jx, mk, cl] at h
    (repeat' split at h) <;> cases h
  | sipush =>
    unfold exI at h; dsimp only at h; simp only [xPush, nx, jx, mk, cl] at h
    (repeat' split at h) <;> cases h
  | lconst =>
    unfold exI at h; dsimp only at h; simp only [xPush, nx, jx, mk, cl] at h
    (repeat' split at h) <;> cases h
  | ldc =>
    unfold exI at h; dsimp only at h; simp only [xLdc, xPush, nx, jx, mk, cl] at h
    (repeat' split at h) <;> cases h
  | ldc_w =>
    unfold exI at h; dsimp only at h; simp only [xLdc, xPush, nx, jx, mk, cl] at h
    (repeat' split at h) <;> cases h
  | ldc2_w =>
    unfold exI at h; dsimp only at h; simp only [xLdc2, xPush, nx, jx, mk, cl] at h
    (repeat' split at h) <;> cases h
  | iload_n =>
    unfold exI at h; dsimp only at h; simp only [xLoadI, nx, jx, mk, cl] at h
    (repeat' split at h) <;> cases h
  | iload =>
    unfold exI at h; dsimp only at h; simp only [xLoadI, nx, jx, mk, cl] at h
    (repeat' split at h) <;> cases h
  | lload_n =>
    unfold exI at h; dsimp only at h; simp only [xLoadL, nx, jx, mk, cl] at h
    (repeat' split at h) <;> cases h
  | lload =>
    unfold exI at h; dsimp only at h; simp only [xLoadL, nx, jx, mk, cl] at h
    (repeat' split at h) <;> cases h
  | aload_n =>
    unfold exI at h; dsimp only at h; simp only [xLoadA, nx, jx, mk, cl] at h
    (repeat' split at h) <;> cases h
  | aload =>
    unfold exI at h; dsimp only at h; simp only [xLoadA, nx, jx, mk, cl] at h
    (repeat' split at h) <;> cases h
  | istore_n =>
    unfold exI at h; dsimp only at h; simp only [xStoreI, nx, jx, mk, cl] at h
    (repeat' split at h) <;> cases h
  | istore =>
    unfold exI at h; dsimp only at h; simp only [xStoreI, nx, jx, mk, cl] at h
    (repeat' split at h) <;> cases h
  | lstore_n =>
    unfold exI at h; dsimp only at h; simp only [xStoreL, nx, jx, mk, cl] at h
    (repeat' split at h) <;> cases h
  | lstore =>
    unfold exI at h; dsimp only at h; simp only [xStoreL, nx, jx, mk, cl] at h
    (repeat' split at h) <;> cases h
  | astore_n =>
    unfold exI at h; dsimp only at h; simp only [xStoreA, nx, jx, mk, cl] at h
    (repeat' split at h) <;> cases h
  | astore =>
    unfold exI at h; dsimp only at h; simp only [xStoreA, nx, jx, mk, cl] at h
    (repeat' split at h) <;> cases h
  | iinc =>
    unfold exI at h; dsimp only at h; simp only [xInc, nx, jx, mk, cl] at h
    (repeat' split at h) <;> cases h
  | iadd =>
    unfold exI at h; dsimp only at h; simp only [xII, nx, jx, mk, cl] at h
    (repeat' split at h) <;> cases h
  | isub =>
    unfold exI at h; dsimp only at h; simp only [xII, nx, jx, mk, cl] at h
    (repeat' split at h) <;> cases h
  | imul =>
    unfold exI at h; dsimp only at h; simp only [xII, nx, jx, mk, cl] at h
    (repeat' split at h) <;> cases h
  | iand =>
    unfold exI at h; dsimp only at h; simp only [xII, nx, jx, mk, cl] at h
    (repeat' split at h) <;> cases h
  | ior =>
    unfold exI at h; dsimp only at h; simp only [xII, nx, jx, mk, cl] at h
    (repeat' split at h) <;> cases h
  | ixor =>
    unfold exI at h; dsimp only at h; simp only [xII, nx, jx, mk, cl] at h
    (repeat' split at h) <;> cases h
  | ishl =>
    unfold exI at h; dsimp only at h; simp only [xII, nx, jx, mk, cl] at h
    (repeat' split at h) <;> cases h
  | ishr =>
    unfold exI at h; dsimp only at h; simp only [xII, nx, jx, mk, cl] at h
    (repeat' split at h) <;> cases h
  | iushr =>
    unfold exI at h; dsimp only at h; simp only [xII, nx, jx, mk, cl] at h
    (repeat' split at h) <;> cases h
  | idiv =>
    unfold exI at h; dsimp only at h; simp only [xIId, nx, jx, mk, cl] at h
    (repeat' split at h) <;> cases h
  | irem =>
    unfold exI at h; dsimp only at h; simp only [xIId, nx, jx, mk, cl] at h
    (repeat' split at h) <;> cases h
  | ineg =>
    unfold exI at h; dsimp only at h; simp only [xI, nx, jx, mk, cl] at h
    (repeat' split at h) <;> cases h
  | i2b =>
    unfold exI at h; dsimp only at h; simp only [xI, nx, jx, mk, cl] at h
    (repeat' split at h) <;> cases h
  | i2s =>
    unfold exI at h; dsimp only at h; simp only [xI, nx, jx, mk, cl] at h
    (repeat' split at h) <;> cases h
  | ladd =>
    unfold exI at h; dsimp only at h; simp only [xLL, nx, jx, mk, cl] at h
    (repeat' split at h) <;> cases h
  | lmul =>
    unfold exI at h; dsimp only at h; simp only [xLL, nx, jx, mk, cl] at h
    (repeat' split at h) <;> cases h
  | land =>
    unfold exI at h; dsimp only at h; simp only [xLL, nx, jx, mk, cl] at h
    (repeat' split at h) <;> cases h
  | lor =>
    unfold exI at h; dsimp only at h; simp only [xLL, nx, jx, mk, cl] at h
    (repeat' split at h) <;> cases h
  | ldiv =>
    unfold exI at h; dsimp only at h; simp only [xLLd, nx, jx, mk, cl] at h
    (repeat' split at h) <;> cases h
  | lrem =>
    unfold exI at h; dsimp only at h; simp only [xLLd, nx, jx, mk, cl] at h
    (repeat' split at h) <;> cases h
  | lshl =>
    unfold exI at h; dsimp only at h; simp only [xLI, nx, jx, mk, cl] at h
    (repeat' split at h) <;> cases h
  | i2l =>
    unfold exI at h; dsimp only at h; simp only [xI2L, nx, jx, mk, cl] at h
    (repeat' split at h) <;> cases h
  | l2i =>
    unfold exI at h; dsimp only at h; simp only [xL2I, nx, jx, mk, cl] at h
    (repeat' split at h) <;> cases h
  | lcmp =>
    unfold exI at h; dsimp only at h; simp only [xLcmp, nx, jx, mk, cl] at h
    (repeat' split at h) <;> cases h
  | dup =>
    unfold exI at h; dsimp only at h; simp only [xDup, nx, jx, mk, cl] at h
    (repeat' split at h) <;> cases h
  | dup2 =>
    unfold exI at h; dsimp only at h; simp only [xDup2, nx, jx, mk, cl] at h
    (repeat' split at h) <;> cases h
  | pop =>
    unfold exI at h; dsimp only at h; simp only [xPop, nx, jx, mk, cl] at h
    (repeat' split at h) <;> cases h
  | ifCond =>
    unfold exI at h; dsimp only at h; simp only [xIf, nx, jx, mk, cl] at h
    (repeat' split at h) <;> cases h
  | if_icmp =>
    unfold exI at h; dsimp only at h; simp only [xIcmp, nx, jx, mk, cl] at h
    (repeat' split at h) <;> cases h
  | goto =>
    unfold exI at h; dsimp only at h; simp only [jx] at h
    (repeat' split at h) <;> cases h
  | tableswitch =>
    unfold exI at h; dsimp only at h; simp only [xTsw, jx, nx, mk, cl] at h
    (repeat' split at h) <;> cases h
  | lookupswitch =>
    unfold exI at h; dsimp only at h; simp only [xLsw, jx, nx, mk, cl] at h
    (repeat' split at h) <;> cases h
  | getfield =>
    unfold exI at h; dsimp only at h; simp only [xGet, nx, jx, mk, cl] at h
    (repeat' split at h) <;> cases h
  | putfield =>
    unfold exI at h; dsimp only at h; simp only [xPut, nx, jx, mk, cl] at h
    (repeat' split at h) <;> cases h
  | iaload =>
    unfold exI at h; dsimp only at h; simp only [xIald, nx, jx, mk, cl] at h
    (repeat' split at h) <;> cases h
  | baload =>
    unfold exI at h; dsimp only at h; simp only [xBald, nx, jx, mk, cl] at h
    (repeat' split at h) <;> cases h
  | laload =>
    unfold exI at h; dsimp only at h; simp only [xLald, nx, jx, mk, cl] at h
    (repeat' split at h) <;> cases h
  | aaload =>
    unfold exI at h; dsimp only at h; simp only [xAald, nx, jx, mk, cl] at h
    (repeat' split at h) <;> cases h
  | iastore =>
    unfold exI at h; dsimp only at h; simp only [xIast, nx, jx, mk, cl] at h
    (repeat' split at h) <;> cases h
  | bastore =>
    unfold exI at h; dsimp only at h; simp only [xBast, nx, jx, mk, cl] at h
    (repeat' split at h) <;> cases h
  | lastore =>
    unfold exI at h; dsimp only at h; simp only [xLast, nx, jx, mk, cl] at h
    (repeat' split at h) <;> cases h
  | aastore =>
    unfold exI at h; dsimp only at h; simp only [xAast, nx, jx, mk, cl] at h
    (repeat' split at h) <;> cases h
  | arraylength =>
    unfold exI at h; dsimp only at h; simp only [xAlen, nx, jx, mk, cl] at h
    (repeat' split at h) <;> cases h
  | new =>
    unfold exI at h; dsimp only at h; simp only [xNew, mk, nx, jx, cl] at h
    (repeat' split at h) <;> cases h
  | newarray =>
    unfold exI at h; dsimp only at h; simp only [xNewa, mk, nx, jx, cl] at h
    (repeat' split at h) <;> cases h
  | anewarray =>
    unfold exI at h; dsimp only at h; simp only [xANew, mk, nx, jx, cl] at h
    (repeat' split at h) <;> cases h
  | invokevirtual =>
    unfold exI at h; dsimp only at h; simp only [xInvV, xV0, xV11, xV12, cl, nx, jx, mk] at h
    (repeat' split at h) <;> cases h
  | invokespecial =>
    unfold exI at h; dsimp only at h; simp only [xInvI, xN0, xN3, cl, nx, jx, mk] at h
    (repeat' split at h) <;> cases h
  | invokestatic =>
    unfold exI at h; dsimp only at h; simp only [xInvS, xS0, xCopy, xM7, xM8, xM9, xM10, cl, nx, jx, mk] at h
    (repeat' split at h) <;> cases h
  | ireturn =>
    unfold exI at h; dsimp only at h; unfold xRetI at h
    split at h
    · rename_i x
      split at h
      · rename_i hn
        cases h
        refine ⟨fun _ => ⟨x, rfl⟩, fun q => ?_⟩
        rcases hn.2 with z | ⟨z, -⟩
        · rw [z] at q; cases q
        · rw [z] at q; cases q
      · cases h
    · cases h
  | lreturn =>
    unfold exI at h; dsimp only at h; unfold xRetL at h
    split at h
    · rename_i x
      split at h
      · rename_i hn
        cases h
        refine ⟨fun q => ?_, fun _ => ⟨x, rfl⟩⟩
        rw [hn.2] at q
        rcases q with q | q <;> cases q
      · cases h
    · cases h
  | areturn =>
    unfold exI at h; dsimp only at h; unfold xRetA at h
    split at h
    · rename_i x
      split at h
      · rename_i hn
        cases h
        rw [rtOK, hn.2]
        refine ⟨fun q => ?_, fun q => ?_⟩
        · rcases q with q | q <;> cases q
        · cases q
      · cases h
    · cases h
  | return_ =>
    unfold exI at h; dsimp only at h; unfold xRetV at h
    split at h
    · split at h
      · rename_i hn
        cases h
        rw [rtOK, hn.2]
        refine ⟨fun q => ?_, fun q => ?_⟩
        · rcases q with q | q <;> cases q
        · cases q
      · cases h
    · cases h
  | _ => (unfold exI at h; dsimp only at h; cases h)
theorem wp_rt {k : Nat} {s : mSt} {Q : mQ} (h : wpT k s Q) : wpT k s (fun v S I L R => Q v S I L R ∧ rtOK k v) := by
  refine h (fun k s Q => wpT k s (fun v S I L R => Q v S I L R ∧ rtOK k v)) ?_
  intro k s Q hF
  refine wpT_fold k s _ ?_
  unfold mF at hF ⊢
  cases hm : mx k s with
  | none => rw [hm] at hF; exact hF
  | some r =>
    rw [hm] at hF
    match r, hF, hm with
    | .inl s', hF, _ => exact hF
    | .inr (.inl v), hF, hm =>
      refine ⟨hF, ?_⟩
      unfold mx at hm
      cases hd : decode (mC k) s.2.1 with
      | error _ => rw [hd] at hm; cases hm
      | ok q =>
        obtain ⟨i, n⟩ := q
        rw [hd] at hm
        exact ret_sh hm
    | .inr (.inr (k', as, rest)), ⟨Q', h1, h2⟩, _ => exact ⟨Q', wpT_mono h1 (fun v S I L R q => q.1), h2⟩
theorem CA_mono {d k : Nat} {as : List Value} {Q Q2 : mQ} (h : CA d k as S I L R Q) (hQ : ∀ v S I L R, Q v S I L R → Q2 v S I L R) : CA d k as S I L R Q2 := WP_mono h hQ
theorem CA_rt {d k : Nat} {as : List Value} {Q : mQ} (h : CA d k as S I L R Q) : CA d k as S I L R (fun v S I L R => Q v S I L R ∧ rtOK k v) := wp_rt h
end RT

