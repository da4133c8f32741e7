/-! Soundness: Strings, and all together. -/
section SD5
variable {l : Launch} {sz b Lx : Nat} {xs : Nat → Int32} {adK : Nat → Nat} {EvT : State → Prop} {D : va_G} {aC : Nat → ClassId}
variable {k n : Nat} {ρ : mB} {pc : Nat} {ls : mV} {st : List Value} {S : mS} {I : mI} {L : mL} {R : mR} {Q : mQ} {r : mRes}
theorem str_ad {a : Nat} {H : Heap} (hR : Rep sz b Lx xs adK D aC S I L R H) (hk : kd S a = 200 ∨ kd S a = 201) : a = adK (kd S a - 200) ∧ kd S a - 200 < 2 := by
  have h := hR.2.2.2.2.2.2.2.2.2.2.2 a
  rcases hk with hk | hk
  · rw [hk]; exact ⟨h.1 hk, by decide⟩
  · rw [hk]; exact ⟨h.2 hk, by decide⟩
theorem sd_V11 (hT : StrOK l sz adK EvT) {j x1 x2 : Nat} (hg : lM (mO k) j = some (11, x1, x2)) (hd : decode (mC k) pc = .ok (.invokevirtual j, n)) (he : xV11 n ρ pc ls st S I L R = some r) (hv : SV l sz b Lx xs adK EvT D aC k (ρ, pc, ls, st, S, I, L, R) Q r) : V l sz b Lx xs adK EvT D aC k (ρ, pc, ls, st, S, I, L, R) Q := by
  unfold xV11 at he
  split at he
  · rename_i a t
    split at he
    · rename_i hn
      obtain ⟨rfl, hd1, hk, hw⟩ := hn
      have hlk : Cond.methodLink (cN (mO k)) j (lY 11) ∈ lw_tbl := (lM_ok hg).2
      cases he
      intro p e Rm s m args below meth c H locs cells slots Z lsA C hR hS hl hret
      obtain ⟨hx, hb, hml, hown, hts, hK, hnm, hfr, hlo, hce, hsl, hsz, hE⟩ := id C
      dsimp only at hfr hlo hce hsl hR
      obtain ⟨ha, hi⟩ := str_ad hR hk
      have h0 := hv p e Rm s m args below meth c H locs cells slots Z lsA C hR hS hl hret
      dsimp only at h0 ⊢
      have h9 := hT.2.2.1 p e Rm s m args below meth c H locs cells slots Z lsA pc (mO k) j (kd S a - 200) (mC k) t hx hb (by rw [hml]; exact hl.1.symm) hown hts hE.2.2.2.2.2.2 hS (by omega) (by omega) (by omega) (by omega) hw hi hlk hd h0
      rw [← ha] at h9
      exact h9
    · cases he
  · cases he
theorem sd_V12 (hT : StrOK l sz adK EvT) {j x1 x2 : Nat} (hg : lM (mO k) j = some (12, x1, x2)) (hd : decode (mC k) pc = .ok (.invokevirtual j, n)) (he : xV12 n ρ pc ls st S I L R = some r) (hv : SV l sz b Lx xs adK EvT D aC k (ρ, pc, ls, st, S, I, L, R) Q r) : V l sz b Lx xs adK EvT D aC k (ρ, pc, ls, st, S, I, L, R) Q := by
  unfold xV12 at he
  split at he
  · rename_i i0 a t
    split at he
    · rename_i hn
      obtain ⟨rfl, hd1, hk, hi0, hw⟩ := hn
      have hlk : Cond.methodLink (cN (mO k)) j (lY 12) ∈ lw_tbl := (lM_ok hg).2
      cases he
      intro p e Rm s m args below meth c H locs cells slots Z lsA C hR hS hl hret
      obtain ⟨hx, hb, hml, hown, hts, hK, hnm, hfr, hlo, hce, hsl, hsz, hE⟩ := id C
      dsimp only at hfr hlo hce hsl hR
      obtain ⟨ha, hi⟩ := str_ad hR hk
      have h0 := hv p e Rm s m args below meth c H locs cells slots Z lsA C hR hS hl hret
      dsimp only at h0 ⊢
      have h9 := hT.2.2.2 p e Rm s m args below meth c H locs cells slots Z lsA pc (mO k) j (kd S a - 200) i0 (mC k) t hx hb (by rw [hml]; exact hl.1.symm) hown hts hE.2.2.2.2.2.2 hS (by omega) (by omega) (by omega) (by omega) hw hi hlk hi0 hd h0
      rw [← ha] at h9
      exact h9
    · cases he
  · cases he
theorem sd_invV (hT : StrOK l sz adK EvT) {j : Nat} (hd : decode (mC k) pc = .ok (.invokevirtual j, n)) (he : exI k n ρ pc ls st S I L R (.invokevirtual j) = some r) (hv : SV l sz b Lx xs adK EvT D aC k (ρ, pc, ls, st, S, I, L, R) Q r) : V l sz b Lx xs adK EvT D aC k (ρ, pc, ls, st, S, I, L, R) Q := by
  unfold exI at he; dsimp only at he; unfold xInvV at he
  split at he
  · rename_i kd0 k' na hg
    split at he
    · rename_i h; subst h; exact sd_V0 hT hg hd he hv
    · split at he
      · rename_i h; subst h; exact sd_V11 hT hg hd he hv
      · split at he
        · rename_i h; subst h; exact sd_V12 hT hg hd he hv
        · cases he
  · cases he
theorem sd_invI (hT : StrOK l sz adK EvT) {j : Nat} (hd : decode (mC k) pc = .ok (.invokespecial j, n)) (he : exI k n ρ pc ls st S I L R (.invokespecial j) = some r) (hv : SV l sz b Lx xs adK EvT D aC k (ρ, pc, ls, st, S, I, L, R) Q r) : V l sz b Lx xs adK EvT D aC k (ρ, pc, ls, st, S, I, L, R) Q := by
  unfold exI at he; dsimp only at he; unfold xInvI at he
  split at he
  · rename_i kd0 k' na hg
    split at he
    · rename_i h
      rcases h with rfl | rfl
      · exact sd_N0 hT hg hd he hv
      · exact sd_N4 hT hg hd he hv
    · split at he
      · rename_i h; subst h; exact sd_obj hg hd he hv
      · cases he
  · cases he
theorem sd_invS (hT : StrOK l sz adK EvT) {j : Nat} (hd : decode (mC k) pc = .ok (.invokestatic j, n)) (he : exI k n ρ pc ls st S I L R (.invokestatic j) = some r) (hv : SV l sz b Lx xs adK EvT D aC k (ρ, pc, ls, st, S, I, L, R) Q r) : V l sz b Lx xs adK EvT D aC k (ρ, pc, ls, st, S, I, L, R) Q := by
  unfold exI at he; dsimp only at he; unfold xInvS at he
  split at he
  · rename_i kd0 k' na hg
    split at he
    · rename_i h
      rcases h with rfl | rfl
      · exact sd_S0 hT hg hd he hv
      · exact sd_S5 hT hg hd he hv
    · split at he
      · rename_i h; subst h; exact sd_copy hg hd he hv
      · split at he
        · rename_i h; subst h; exact sd_m7 hg hd he hv
        · split at he
          · rename_i h; subst h; exact sd_m8 hg hd he hv
          · split at he
            · rename_i h; subst h; exact sd_m9 hg hd he hv
            · split at he
              · rename_i h; subst h; exact sd_m10 hg hd he hv
              · cases he
  · cases he
theorem sound_i (hT : StrOK l sz adK EvT) {i : Instr} (hd : decode (mC k) pc = .ok (i, n)) (he : exI k n ρ pc ls st S I L R i = some r) (hv : SV l sz b Lx xs adK EvT D aC k (ρ, pc, ls, st, S, I, L, R) Q r) : V l sz b Lx xs adK EvT D aC k (ρ, pc, ls, st, S, I, L, R) Q := by
  cases i with
  | iconst => exact sd_iconst hd he hv
  | bipush => exact sd_bipush hd he hv
  | sipush => exact sd_sipush hd he hv
  | lconst => exact sd_lconst hd he hv
  | ldc => exact sd_ldc hT hd he hv
  | ldc_w => exact sd_ldc_w hT hd he hv
  | ldc2_w => exact sd_ldc2 hd he hv
  | iload_n => exact sd_iload_n hd he hv
  | iload => exact sd_iload hd he hv
  | lload_n => exact sd_lload_n hd he hv
  | lload => exact sd_lload hd he hv
  | aload_n => exact sd_aload_n hd he hv
  | aload => exact sd_aload hd he hv
  | istore_n => exact sd_istore_n hd he hv
  | istore => exact sd_istore hd he hv
  | lstore_n => exact sd_lstore_n hd he hv
  | lstore => exact sd_lstore hd he hv
  | astore_n => exact sd_astore_n hd he hv
  | astore => exact sd_astore hd he hv
  | iinc => exact sd_iinc hd he hv
  | ifCond => exact sd_if hd he hv
  | if_icmp => exact sd_icmp hd he hv
  | goto => exact sd_goto hd he hv
  | tableswitch => exact sd_tsw hd he hv
  | lookupswitch => exact sd_lsw hd he hv
  | getfield => exact sd_get hd he hv
  | putfield => exact sd_put hd he hv
  | iaload => exact sd_iald hd he hv
  | baload => exact sd_bald hd he hv
  | laload => exact sd_lald hd he hv
  | aaload => exact sd_aald hd he hv
  | iastore => exact sd_iast hd he hv
  | bastore => exact sd_bast hd he hv
  | lastore => exact sd_last hd he hv
  | aastore => exact sd_aast hd he hv
  | arraylength => exact sd_alen hd he hv
  | new => exact sd_new hd he hv
  | newarray => exact sd_newa hd he hv
  | anewarray => exact sd_anew hd he hv
  | invokevirtual => exact sd_invV hT hd he hv
  | invokespecial => exact sd_invI hT hd he hv
  | invokestatic => exact sd_invS hT hd he hv
  | ireturn => exact sd_ireturn hd he hv
  | lreturn => exact sd_lreturn hd he hv
  | areturn => exact sd_areturn hd he hv
  | return_ => exact sd_return hd he hv
  | iadd => exact sd_iadd hd he hv
  | isub => exact sd_isub hd he hv
  | imul => exact sd_imul hd he hv
  | iand => exact sd_iand hd he hv
  | ior => exact sd_ior hd he hv
  | ixor => exact sd_ixor hd he hv
  | ishl => exact sd_ishl hd he hv
  | ishr => exact sd_ishr hd he hv
  | iushr => exact sd_iushr hd he hv
  | idiv => exact sd_idiv hd he hv
  | irem => exact sd_irem hd he hv
  | ineg => exact sd_ineg hd he hv
  | i2b => exact sd_i2b hd he hv
  | i2s => exact sd_i2s hd he hv
  | ladd => exact sd_ladd hd he hv
  | lmul => exact sd_lmul hd he hv
  | land => exact sd_land hd he hv
  | lor => exact sd_lor hd he hv
  | ldiv => exact sd_ldiv hd he hv
  | lrem => exact sd_lrem hd he hv
  | lshl => exact sd_lshl hd he hv
  | i2l => exact sd_i2l hd he hv
  | l2i => exact sd_l2i hd he hv
  | lcmp => exact sd_lcmp hd he hv
  | dup => exact sd_dup hd he hv
  | dup2 => exact sd_dup2 hd he hv
  | pop => exact sd_pop hd he hv
  | _ => (unfold exI at he; dsimp only at he; cases he)
theorem sound_F (hT : StrOK l sz adK EvT) (k : Nat) (x : mSt) (Q : mQ) (h : mF (V l sz b Lx xs adK EvT D aC) k x Q) : V l sz b Lx xs adK EvT D aC k x Q := by
  obtain ⟨ρ, pc, ls, st, S, I, L, R⟩ := x
  unfold mF at h
  cases hm : mx k (ρ, pc, ls, st, S, I, L, R) with
  | none => rw [hm] at h; exact h.elim
  | some r =>
    rw [hm] at h
    have hv : SV l sz b Lx xs adK EvT D aC k (ρ, pc, ls, st, S, I, L, R) Q r := by
      match r, h with
      | .inl s', h => exact h
      | .inr (.inl v), h => exact h
      | .inr (.inr (k', as, rest)), h => exact h
    unfold mx at hm
    dsimp only at hm
    cases hd : decode (mC k) pc with
    | error _ => rw [hd] at hm; cases hm
    | ok q =>
      obtain ⟨i, n⟩ := q
      rw [hd] at hm
      exact sound_i hT hd hm hv
/-- THE SMALL MACHINE IS THE MACHINE'S -/
theorem sound (hT : StrOK l sz adK EvT) {k : Nat} {x : mSt} {Q : mQ} (h : wpT k x Q) : V l sz b Lx xs adK EvT D aC k x Q := h _ (sound_F hT)
end SD5
