/-! Soundness, instruction by instruction: the heap. -/
section SD3
variable {l : Launch} {sz b Lx : Nat} {xs : Nat → Int32} {adK : Nat → Nat} {EvT : State → Prop} {D : va_G} {aC : Nat → ClassId}
variable {k n : Nat} {ρ : mB} {pc : Nat} {ls : mV} {st : List Value} {S : mS} {I : mI} {L : mL} {R : mR} {Q : mQ} {r : mRes}
theorem ne_a {A : Type} {f : Nat → A} {a : Nat} {x : A} : ∀ q, q ≠ a → va_up f a x q = f q := fun q h => va_up_ne _ _ h
theorem sd_get {j : Nat} (hd : decode (mC k) pc = .ok (.getfield j, n)) (he : exI k n ρ pc ls st S I L R (.getfield j) = some r) (hv : SV l sz b Lx xs adK EvT D aC k (ρ, pc, ls, st, S, I, L, R) Q r) : V l sz b Lx xs adK EvT D aC k (ρ, pc, ls, st, S, I, L, R) Q := by
  unfold exI at he; dsimp only at he; unfold xGet at he
  split at he
  · rename_i a t
    split at he
    · rename_i ci f hg
      split at he
      · rename_i hn
        cases he
        obtain ⟨rfl, hk⟩ := hn
        intro p e Rm s m args below meth c H locs cells slots Z lsA C hR hS hl hret
        obtain ⟨hx, hb, hml, hown, hts, hK, hnm, hfr, hlo, hce, hsl, hsz, hE⟩ := id C
        obtain ⟨q, hq, hf, hcl, hlk⟩ := gM_ok hg
        dsimp only at hq hf hcl hlk
        have hN := (cls_cN ci q hq).2
        have hr := rE_obj (aC := aC) (I := I) (L := L) (R := R) hk (cls_lt hq)
        exact va_get (C := q.1) (T := q.2.1) (N := q.2.2) (ref := (q.2.1 f).1) hx hb hts (cls_g hq) hown hK (hR.at' hr) 0 rfl hq f hf (hts _ (gTbl_in hlk rfl)) (fun _ h => h) (fv_at (by rw [← hN]; exact hf)) hd (hv p e Rm s m args below meth c H locs cells slots Z lsA C hR hS hl hret)
      · cases he
    · cases he
  · cases he
theorem sd_put {j : Nat} (hd : decode (mC k) pc = .ok (.putfield j, n)) (he : exI k n ρ pc ls st S I L R (.putfield j) = some r) (hv : SV l sz b Lx xs adK EvT D aC k (ρ, pc, ls, st, S, I, L, R) Q r) : V l sz b Lx xs adK EvT D aC k (ρ, pc, ls, st, S, I, L, R) Q := by
  unfold exI at he; dsimp only at he; unfold xPut at he
  split at he
  · rename_i x a t
    split at he
    · rename_i ci f hg
      split at he
      · rename_i hn
        cases he
        obtain ⟨rfl, hk, hp, hty⟩ := hn
        intro p e Rm s m args below meth c H locs cells slots Z lsA C hR hS hl hret
        obtain ⟨hx, hb, hml, hown, hts, hK, hnm, hfr, hlo, hce, hsl, hsz, hE⟩ := id C
        obtain ⟨q, hq, hf, hcl, hlk⟩ := gM_ok hg
        dsimp only at hq hf hcl hlk
        have hN := (cls_cN ci q hq).2
        have hr := rE_obj (aC := aC) (I := I) (L := L) (R := R) hk (cls_lt hq)
        have hr2 := rE_obj (aC := aC) (I := (va_up I a (va_up (I a) f x))) (L := L) (R := R) hk (cls_lt hq)
        have hfin : (q.2.1 f).2.2.2 = false ∨ ((q.2.1 f).2.2.2 = true ∧ meth.name = "<init>" ∧ q.1 = cN (mO k)) := by
          unfold putOK isFin at hp
          rw [hq] at hp
          cases hb2 : (q.2.1 f).2.2.2 with
          | false => exact Or.inl rfl
          | true =>
            simp [hb2] at hp
            refine Or.inr ⟨rfl, hnm.trans hp.1, ?_⟩
            rw [(cls_cN ci q hq).1, hp.2]
        have hkl : kd S a < 105 := by rw [hk]; have := cls_lt hq; omega
        have hnr : narrow (fY ci f) (.int x) = .int x := by
          rcases hty with h | ⟨h, h1 | h1⟩ <;> rw [h] <;> first | rfl | (rw [h1]; decide)
        have hfit : fits (fY ci f) (.int x) = true := by
          rcases hty with h | ⟨h, h1 | h1⟩ <;> rw [h] <;> first | rfl | (rw [h1]; decide)
        have hfv : fv ci f a (va_up I a (va_up (I a) f x)) L R = .int x := by
          unfold fv
          rcases hty with h | ⟨h, -⟩ <;> rw [h] <;> simp [va_up]
        refine vput hx hb hown hts hK hq hf hcl hlk hfin (hR.2.2.2.1 _ _ hr) (by rw [fv_len, ← hN]; exact hf) hnr hfit hd (fun H1 sl hat z oq => ?_)
        rw [← fv_put (I := I) (L := L) (R := R) (I' := (va_up I a (va_up (I a) f x))) (L' := L) (R' := R) hfv (fun g hg2 => ⟨by simp [va_up, hg2], by simp [va_up, hg2], by simp [va_up, hg2]⟩)] at hat
        exact hv p e Rm s m args below meth c H1 _ cells slots Z lsA C (hR.up hkl (fun q h => by simp [va_up, h]) (fun q h => by simp [va_up, h]) (fun q h => by simp [va_up, h]) hr2 hat z oq) (hS.put z oq (hR.kc hkl)) hl hret
      · cases he
    · cases he
  · rename_i x a t
    split at he
    · rename_i ci f hg
      split at he
      · rename_i hn
        cases he
        obtain ⟨rfl, hk, hp, hty⟩ := hn
        intro p e Rm s m args below meth c H locs cells slots Z lsA C hR hS hl hret
        obtain ⟨hx, hb, hml, hown, hts, hK, hnm, hfr, hlo, hce, hsl, hsz, hE⟩ := id C
        obtain ⟨q, hq, hf, hcl, hlk⟩ := gM_ok hg
        dsimp only at hq hf hcl hlk
        have hN := (cls_cN ci q hq).2
        have hr := rE_obj (aC := aC) (I := I) (L := L) (R := R) hk (cls_lt hq)
        have hr2 := rE_obj (aC := aC) (I := I) (L := (va_up L a (va_up (L a) f x))) (R := R) hk (cls_lt hq)
        have hfin : (q.2.1 f).2.2.2 = false ∨ ((q.2.1 f).2.2.2 = true ∧ meth.name = "<init>" ∧ q.1 = cN (mO k)) := by
          unfold putOK isFin at hp
          rw [hq] at hp
          cases hb2 : (q.2.1 f).2.2.2 with
          | false => exact Or.inl rfl
          | true =>
            simp [hb2] at hp
            refine Or.inr ⟨rfl, hnm.trans hp.1, ?_⟩
            rw [(cls_cN ci q hq).1, hp.2]
        have hkl : kd S a < 105 := by rw [hk]; have := cls_lt hq; omega
        have hnr : narrow (fY ci f) (.long x) = .long x := by rw [hty]; rfl
        have hfit : fits (fY ci f) (.long x) = true := by rw [hty]; rfl
        have hfv : fv ci f a I (va_up L a (va_up (L a) f x)) R = .long x := by
          unfold fv
          rw [hty]
          simp [va_up]
        refine vput hx hb hown hts hK hq hf hcl hlk hfin (hR.2.2.2.1 _ _ hr) (by rw [fv_len, ← hN]; exact hf) hnr hfit hd (fun H1 sl hat z oq => ?_)
        rw [← fv_put (I := I) (L := L) (R := R) (I' := I) (L' := (va_up L a (va_up (L a) f x))) (R' := R) hfv (fun g hg2 => ⟨by simp [va_up, hg2], by simp [va_up, hg2], by simp [va_up, hg2]⟩)] at hat
        exact hv p e Rm s m args below meth c H1 _ cells slots Z lsA C (hR.up hkl (fun q h => by simp [va_up, h]) (fun q h => by simp [va_up, h]) (fun q h => by simp [va_up, h]) hr2 hat z oq) (hS.put z oq (hR.kc hkl)) hl hret
      · cases he
    · cases he
  · rename_i x a t
    split at he
    · rename_i ci f hg
      split at he
      · rename_i hn
        cases he
        obtain ⟨rfl, hk, hp, hty⟩ := hn
        intro p e Rm s m args below meth c H locs cells slots Z lsA C hR hS hl hret
        obtain ⟨hx, hb, hml, hown, hts, hK, hnm, hfr, hlo, hce, hsl, hsz, hE⟩ := id C
        obtain ⟨q, hq, hf, hcl, hlk⟩ := gM_ok hg
        dsimp only at hq hf hcl hlk
        have hN := (cls_cN ci q hq).2
        have hr := rE_obj (aC := aC) (I := I) (L := L) (R := R) hk (cls_lt hq)
        have hr2 := rE_obj (aC := aC) (I := I) (L := L) (R := (va_up R a (va_up (R a) f (some x)))) hk (cls_lt hq)
        have hfin : (q.2.1 f).2.2.2 = false ∨ ((q.2.1 f).2.2.2 = true ∧ meth.name = "<init>" ∧ q.1 = cN (mO k)) := by
          unfold putOK isFin at hp
          rw [hq] at hp
          cases hb2 : (q.2.1 f).2.2.2 with
          | false => exact Or.inl rfl
          | true =>
            simp [hb2] at hp
            refine Or.inr ⟨rfl, hnm.trans hp.1, ?_⟩
            rw [(cls_cN ci q hq).1, hp.2]
        have hkl : kd S a < 105 := by rw [hk]; have := cls_lt hq; omega
        have hnr : narrow (fY ci f) (.ref x) = .ref x := by cases hf2 : fY ci f <;> rw [hf2] at hty <;> first | rfl | (cases hty)
        have hfit : fits (fY ci f) (.ref x) = true := by cases hf2 : fY ci f <;> rw [hf2] at hty <;> first | rfl | (cases hty)
        have hfv : fv ci f a I L (va_up R a (va_up (R a) f (some x))) = .ref x := by
          unfold fv
          cases hf2 : fY ci f <;> rw [hf2] at hty <;> first | (cases hty; done) | simp [va_up, va_rf]
        refine vput hx hb hown hts hK hq hf hcl hlk hfin (hR.2.2.2.1 _ _ hr) (by rw [fv_len, ← hN]; exact hf) hnr hfit hd (fun H1 sl hat z oq => ?_)
        rw [← fv_put (I := I) (L := L) (R := R) (I' := I) (L' := L) (R' := (va_up R a (va_up (R a) f (some x)))) hfv (fun g hg2 => ⟨by simp [va_up, hg2], by simp [va_up, hg2], by simp [va_up, hg2]⟩)] at hat
        exact hv p e Rm s m args below meth c H1 _ cells slots Z lsA C (hR.up hkl (fun q h => by simp [va_up, h]) (fun q h => by simp [va_up, h]) (fun q h => by simp [va_up, h]) hr2 hat z oq) (hS.put z oq (hR.kc hkl)) hl hret
      · cases he
    · cases he
  · cases he
theorem sd_iald (hd : decode (mC k) pc = .ok (.iaload, n)) (he : exI k n ρ pc ls st S I L R (.iaload) = some r) (hv : SV l sz b Lx xs adK EvT D aC k (ρ, pc, ls, st, S, I, L, R) Q r) : V l sz b Lx xs adK EvT D aC k (ρ, pc, ls, st, S, I, L, R) Q := by
  unfold exI at he; dsimp only at he; unfold xIald at he
  split at he
  · rename_i i a t
    split at he
    · rename_i hn
      cases he
      obtain ⟨rfl, hk, hi⟩ := hn
      intro p e Rm s m args below meth c H locs cells slots Z lsA C hR hS hl hret
      obtain ⟨hx, hb, hml, hown, hts, hK, hnm, hfr, hlo, hce, hsl, hsz, hE⟩ := id C
      rcases hk with hk | hk
      · exact va_iald hx hb hK (hR.at' (rE_i hk)) 0 0 rfl rfl hi hd (hv p e Rm s m args below meth c H locs cells slots Z lsA C hR hS hl hret)
      · obtain ⟨rfl, hln⟩ := hR.2.2.2.2.2.2.2.1 a hk
        have hxs := hR.2.2.2.2.2.2.2.2.1
        have hi2 : vp_in i Lx := by rw [← hln]; exact hi
        have hlt : i.toNatClampNeg < Lx := Nat.not_le.mp fun q => hi2 (Or.inr q)
        have h0 := hv p e Rm s m args below meth c H locs cells slots Z lsA C hR hS hl hret
        dsimp only at h0
        dsimp only at hxs
        rw [hxs _ hlt] at h0
        exact va_sld hx hb hE.2.2.2.1 hE.2.2.2.2.1 (Nat.not_le.mpr hE.2.2.2.2.2.1) hS hi2 hd h0
    · cases he
  · cases he
theorem sd_bald (hd : decode (mC k) pc = .ok (.baload, n)) (he : exI k n ρ pc ls st S I L R (.baload) = some r) (hv : SV l sz b Lx xs adK EvT D aC k (ρ, pc, ls, st, S, I, L, R) Q r) : V l sz b Lx xs adK EvT D aC k (ρ, pc, ls, st, S, I, L, R) Q := by
  unfold exI at he; dsimp only at he; unfold xBald at he
  split at he
  · rename_i i a t
    split at he
    · rename_i hn
      cases he
      obtain ⟨rfl, hk, hi⟩ := hn
      intro p e Rm s m args below meth c H locs cells slots Z lsA C hR hS hl hret
      obtain ⟨hx, hb, hml, hown, hts, hK, hnm, hfr, hlo, hce, hsl, hsz, hE⟩ := id C
      exact va_bald hx hb hK (hR.at' (rE_b hk)) 0 2 rfl rfl hi hd (hv p e Rm s m args below meth c H locs cells slots Z lsA C hR hS hl hret)
    · cases he
  · cases he
theorem sd_lald (hd : decode (mC k) pc = .ok (.laload, n)) (he : exI k n ρ pc ls st S I L R (.laload) = some r) (hv : SV l sz b Lx xs adK EvT D aC k (ρ, pc, ls, st, S, I, L, R) Q r) : V l sz b Lx xs adK EvT D aC k (ρ, pc, ls, st, S, I, L, R) Q := by
  unfold exI at he; dsimp only at he; unfold xLald at he
  split at he
  · rename_i i a t
    split at he
    · rename_i hn
      cases he
      obtain ⟨rfl, hk, hi⟩ := hn
      intro p e Rm s m args below meth c H locs cells slots Z lsA C hR hS hl hret
      obtain ⟨hx, hb, hml, hown, hts, hK, hnm, hfr, hlo, hce, hsl, hsz, hE⟩ := id C
      exact va_lald hx hb hK (hR.at' (rE_l hk)) 0 1 rfl rfl hi hd (hv p e Rm s m args below meth c H locs cells slots Z lsA C hR hS hl hret)
    · cases he
  · cases he
theorem sd_aald (hd : decode (mC k) pc = .ok (.aaload, n)) (he : exI k n ρ pc ls st S I L R (.aaload) = some r) (hv : SV l sz b Lx xs adK EvT D aC k (ρ, pc, ls, st, S, I, L, R) Q r) : V l sz b Lx xs adK EvT D aC k (ρ, pc, ls, st, S, I, L, R) Q := by
  unfold exI at he; dsimp only at he; unfold xAald at he
  split at he
  · rename_i i a t
    split at he
    · rename_i hn
      cases he
      obtain ⟨rfl, hk, hi⟩ := hn
      intro p e Rm s m args below meth c H locs cells slots Z lsA C hR hS hl hret
      obtain ⟨hx, hb, hml, hown, hts, hK, hnm, hfr, hlo, hce, hsl, hsz, hE⟩ := id C
      rcases hk with hk | hk
      · exact va_aldq hx hb hK (hR.at' (rE_s hk)) 0 3 rfl rfl hi hd (hv p e Rm s m args below meth c H locs cells slots Z lsA C hR hS hl hret)
      · exact va_aldq hx hb hK (hR.at' (rE_t hk)) 0 4 rfl rfl hi hd (hv p e Rm s m args below meth c H locs cells slots Z lsA C hR hS hl hret)
    · cases he
  · cases he
theorem sd_iast (hd : decode (mC k) pc = .ok (.iastore, n)) (he : exI k n ρ pc ls st S I L R (.iastore) = some r) (hv : SV l sz b Lx xs adK EvT D aC k (ρ, pc, ls, st, S, I, L, R) Q r) : V l sz b Lx xs adK EvT D aC k (ρ, pc, ls, st, S, I, L, R) Q := by
  unfold exI at he; dsimp only at he; unfold xIast at he
  split at he
  · rename_i x i a t
    split at he
    · rename_i hn
      cases he
      obtain ⟨rfl, hk, hi⟩ := hn
      intro p e Rm s m args below meth c H locs cells slots Z lsA C hR hS hl hret
      obtain ⟨hx, hb, hml, hown, hts, hK, hnm, hfr, hlo, hce, hsl, hsz, hE⟩ := id C
      have hkl : kd S a < 105 := by rw [hk]; decide
      refine viast hx hb (hK.2 0 _ rfl).1 (hR.2.2.2.1 _ _ (rE_i hk)) hi hd (fun H1 sl hat z oq => ?_)
      have hr2 := rE_i (aC := aC) (I := (va_up I a (va_up (I a) i.toNatClampNeg x))) (L := L) (R := R) hk
      refine hv p e Rm s m args below meth c H1 _ cells slots Z lsA C (hR.up hkl (fun q h => by simp [va_up, h]) (fun q h => by simp [va_up, h]) (fun q h => by simp [va_up, h]) hr2 ?_ z oq) (hS.put z oq (hR.kc hkl)) hl hret
      simpa [va_up] using hat
    · cases he
  · cases he
theorem sd_bast (hd : decode (mC k) pc = .ok (.bastore, n)) (he : exI k n ρ pc ls st S I L R (.bastore) = some r) (hv : SV l sz b Lx xs adK EvT D aC k (ρ, pc, ls, st, S, I, L, R) Q r) : V l sz b Lx xs adK EvT D aC k (ρ, pc, ls, st, S, I, L, R) Q := by
  unfold exI at he; dsimp only at he; unfold xBast at he
  split at he
  · rename_i x i a t
    split at he
    · rename_i hn
      cases he
      obtain ⟨rfl, hk, hi⟩ := hn
      intro p e Rm s m args below meth c H locs cells slots Z lsA C hR hS hl hret
      obtain ⟨hx, hb, hml, hown, hts, hK, hnm, hfr, hlo, hce, hsl, hsz, hE⟩ := id C
      have hkl : kd S a < 105 := by rw [hk]; decide
      refine vbast hx hb (hK.2 2 _ rfl).1 (hR.2.2.2.1 _ _ (rE_b hk)) hi hd (fun H1 sl hat z oq => ?_)
      have hr2 := rE_b (aC := aC) (I := (va_up I a (va_up (I a) i.toNatClampNeg x.toInt8.toInt32))) (L := L) (R := R) hk
      refine hv p e Rm s m args below meth c H1 _ cells slots Z lsA C (hR.up hkl (fun q h => by simp [va_up, h]) (fun q h => by simp [va_up, h]) (fun q h => by simp [va_up, h]) hr2 ?_ z oq) (hS.put z oq (hR.kc hkl)) hl hret
      simpa [va_up] using hat
    · cases he
  · cases he
theorem sd_last (hd : decode (mC k) pc = .ok (.lastore, n)) (he : exI k n ρ pc ls st S I L R (.lastore) = some r) (hv : SV l sz b Lx xs adK EvT D aC k (ρ, pc, ls, st, S, I, L, R) Q r) : V l sz b Lx xs adK EvT D aC k (ρ, pc, ls, st, S, I, L, R) Q := by
  unfold exI at he; dsimp only at he; unfold xLast at he
  split at he
  · rename_i x i a t
    split at he
    · rename_i hn
      cases he
      obtain ⟨rfl, hk, hi⟩ := hn
      intro p e Rm s m args below meth c H locs cells slots Z lsA C hR hS hl hret
      obtain ⟨hx, hb, hml, hown, hts, hK, hnm, hfr, hlo, hce, hsl, hsz, hE⟩ := id C
      have hkl : kd S a < 105 := by rw [hk]; decide
      refine vlast hx hb (hK.2 1 _ rfl).1 (hR.2.2.2.1 _ _ (rE_l hk)) hi hd (fun H1 sl hat z oq => ?_)
      have hr2 := rE_l (aC := aC) (I := I) (L := (va_up L a (va_up (L a) i.toNatClampNeg x))) (R := R) hk
      refine hv p e Rm s m args below meth c H1 _ cells slots Z lsA C (hR.up hkl (fun q h => by simp [va_up, h]) (fun q h => by simp [va_up, h]) (fun q h => by simp [va_up, h]) hr2 ?_ z oq) (hS.put z oq (hR.kc hkl)) hl hret
      simpa [va_up] using hat
    · cases he
  · cases he
theorem sd_aast (hd : decode (mC k) pc = .ok (.aastore, n)) (he : exI k n ρ pc ls st S I L R (.aastore) = some r) (hv : SV l sz b Lx xs adK EvT D aC k (ρ, pc, ls, st, S, I, L, R) Q r) : V l sz b Lx xs adK EvT D aC k (ρ, pc, ls, st, S, I, L, R) Q := by
  unfold exI at he; dsimp only at he; unfold xAast at he
  split at he
  · rename_i x i a t
    split at he
    · rename_i hn
      cases he
      obtain ⟨rfl, hkk, hi⟩ := hn
      intro p e Rm s m args below meth c H locs cells slots Z lsA C hR hS hl hret
      obtain ⟨hx, hb, hml, hown, hts, hK, hnm, hfr, hlo, hce, hsl, hsz, hE⟩ := id C
      rcases hkk with ⟨hk, hk2⟩ | ⟨hk, hk2⟩
      · have hkl : kd S a < 105 := by rw [hk]; decide
        obtain ⟨q, hq⟩ : ∃ q, cls[2]? = some q := ⟨_, rfl⟩
        refine vaast hx hb hK (hK.2 3 _ rfl).2 hq (by cases hq; rfl) (hR.2.2.2.1 _ _ (rE_s hk)) (hR.2.2.2.1 _ _ (rE_obj hk2 (by decide))) hi hd (fun H1 sl hat z oq => ?_)
        have hr2 := rE_s (aC := aC) (I := I) (L := L) (R := va_up R a (va_up (R a) i.toNatClampNeg (some x))) hk
        refine hv p e Rm s m args below meth c H1 _ cells slots Z lsA C (hR.up hkl (fun q h => rfl) (fun q h => rfl) (fun q h => by simp [va_up, h]) hr2 ?_ z oq) (hS.put z oq (hR.kc hkl)) hl hret
        simpa [va_up] using hat
      · have hkl : kd S a < 105 := by rw [hk]; decide
        obtain ⟨q, hq⟩ : ∃ q, cls[5]? = some q := ⟨_, rfl⟩
        refine vaast hx hb hK (hK.2 4 _ rfl).2 hq (by cases hq; rfl) (hR.2.2.2.1 _ _ (rE_t hk)) (hR.2.2.2.1 _ _ (rE_obj hk2 (by decide))) hi hd (fun H1 sl hat z oq => ?_)
        have hr2 := rE_t (aC := aC) (I := I) (L := L) (R := va_up R a (va_up (R a) i.toNatClampNeg (some x))) hk
        refine hv p e Rm s m args below meth c H1 _ cells slots Z lsA C (hR.up hkl (fun q h => rfl) (fun q h => rfl) (fun q h => by simp [va_up, h]) hr2 ?_ z oq) (hS.put z oq (hR.kc hkl)) hl hret
        simpa [va_up] using hat
    · cases he
  · cases he
theorem sd_alen (hd : decode (mC k) pc = .ok (.arraylength, n)) (he : exI k n ρ pc ls st S I L R (.arraylength) = some r) (hv : SV l sz b Lx xs adK EvT D aC k (ρ, pc, ls, st, S, I, L, R) Q r) : V l sz b Lx xs adK EvT D aC k (ρ, pc, ls, st, S, I, L, R) Q := by
  unfold exI at he; dsimp only at he; unfold xAlen at he
  split at he
  · rename_i a t
    split at he
    · rename_i hn
      cases he
      obtain ⟨rfl, hk⟩ := hn
      intro p e Rm s m args below meth c H locs cells slots Z lsA C hR hS hl hret
      obtain ⟨hx, hb, hml, hown, hts, hK, hnm, hfr, hlo, hce, hsl, hsz, hE⟩ := id C
      rcases hk with hk | hk | hk | hk | hk | hk
      · exact va_alen hx hb hK (hR.at' (rE_i hk)) 0 0 rfl rfl rfl hd (hv p e Rm s m args below meth c H locs cells slots Z lsA C hR hS hl hret)
      · exact va_alen hx hb hK (hR.at' (rE_l hk)) 0 1 rfl rfl rfl hd (hv p e Rm s m args below meth c H locs cells slots Z lsA C hR hS hl hret)
      · exact va_alen hx hb hK (hR.at' (rE_b hk)) 0 2 rfl rfl rfl hd (hv p e Rm s m args below meth c H locs cells slots Z lsA C hR hS hl hret)
      · exact va_alen hx hb hK (hR.at' (rE_s hk)) 0 3 rfl rfl rfl hd (hv p e Rm s m args below meth c H locs cells slots Z lsA C hR hS hl hret)
      · exact va_alen hx hb hK (hR.at' (rE_t hk)) 0 4 rfl rfl rfl hd (hv p e Rm s m args below meth c H locs cells slots Z lsA C hR hS hl hret)
      · obtain ⟨rfl, hln⟩ := hR.2.2.2.2.2.2.2.1 a hk
        have h0 := hv p e Rm s m args below meth c H locs cells slots Z lsA C hR hS hl hret
        dsimp only at h0
        rw [hln] at h0
        exact va_slen hx hb hE.2.2.2.1 hE.2.2.2.2.1 (Nat.not_le.mpr hE.2.2.2.2.2.1) hS hd h0
    · cases he
  · cases he
theorem sd_ireturn (hd : decode (mC k) pc = .ok (.ireturn, n)) (he : exI k n ρ pc ls st S I L R (.ireturn) = some r) (hv : SV l sz b Lx xs adK EvT D aC k (ρ, pc, ls, st, S, I, L, R) Q r) : V l sz b Lx xs adK EvT D aC k (ρ, pc, ls, st, S, I, L, R) Q := by
  unfold exI at he; dsimp only at he; unfold xRetI at he
  split at he
  · split at he
    · rename_i hn
      cases he
      obtain ⟨rfl, hty⟩ := hn
      intro p e Rm s m args below meth c H locs cells slots Z lsA C hR hS hl hret
      exact hret pc lsA S I L R H locs cells slots _ _ hd (Or.inl ⟨_, rfl, rfl, hty⟩) hv hR hS (by have := C.2.2.2.2.2.2.2.2.2.1; omega) (by have := C.2.2.2.2.2.2.2.2.2.2.1; omega)
    · cases he
  · cases he
theorem sd_lreturn (hd : decode (mC k) pc = .ok (.lreturn, n)) (he : exI k n ρ pc ls st S I L R (.lreturn) = some r) (hv : SV l sz b Lx xs adK EvT D aC k (ρ, pc, ls, st, S, I, L, R) Q r) : V l sz b Lx xs adK EvT D aC k (ρ, pc, ls, st, S, I, L, R) Q := by
  unfold exI at he; dsimp only at he; unfold xRetL at he
  split at he
  · split at he
    · rename_i hn
      cases he
      obtain ⟨rfl, hty⟩ := hn
      intro p e Rm s m args below meth c H locs cells slots Z lsA C hR hS hl hret
      exact hret pc lsA S I L R H locs cells slots _ _ hd (Or.inr (Or.inl ⟨_, rfl, rfl, hty⟩)) hv hR hS (by have := C.2.2.2.2.2.2.2.2.2.1; omega) (by have := C.2.2.2.2.2.2.2.2.2.2.1; omega)
    · cases he
  · cases he
theorem sd_areturn (hd : decode (mC k) pc = .ok (.areturn, n)) (he : exI k n ρ pc ls st S I L R (.areturn) = some r) (hv : SV l sz b Lx xs adK EvT D aC k (ρ, pc, ls, st, S, I, L, R) Q r) : V l sz b Lx xs adK EvT D aC k (ρ, pc, ls, st, S, I, L, R) Q := by
  unfold exI at he; dsimp only at he; unfold xRetA at he
  split at he
  · split at he
    · rename_i hn
      cases he
      obtain ⟨rfl, hty⟩ := hn
      intro p e Rm s m args below meth c H locs cells slots Z lsA C hR hS hl hret
      exact hret pc lsA S I L R H locs cells slots _ _ hd (Or.inr (Or.inr (Or.inl ⟨_, rfl, rfl, hty⟩))) hv hR hS (by have := C.2.2.2.2.2.2.2.2.2.1; omega) (by have := C.2.2.2.2.2.2.2.2.2.2.1; omega)
    · cases he
  · cases he
theorem sd_return (hd : decode (mC k) pc = .ok (.return_, n)) (he : exI k n ρ pc ls st S I L R (.return_) = some r) (hv : SV l sz b Lx xs adK EvT D aC k (ρ, pc, ls, st, S, I, L, R) Q r) : V l sz b Lx xs adK EvT D aC k (ρ, pc, ls, st, S, I, L, R) Q := by
  unfold exI at he; dsimp only at he; unfold xRetV at he
  split at he
  · split at he
    · rename_i hn
      cases he
      obtain ⟨rfl, hty⟩ := hn
      intro p e Rm s m args below meth c H locs cells slots Z lsA C hR hS hl hret
      exact hret pc lsA S I L R H locs cells slots _ _ hd (Or.inr (Or.inr (Or.inr ⟨rfl, rfl, hty⟩))) hv hR hS (by have := C.2.2.2.2.2.2.2.2.2.1; omega) (by have := C.2.2.2.2.2.2.2.2.2.2.1; omega)
    · cases he
  · cases he
theorem sd_ldc2 {j : Nat} (hd : decode (mC k) pc = .ok (.ldc2_w j, n)) (he : exI k n ρ pc ls st S I L R (.ldc2_w j) = some r) (hv : SV l sz b Lx xs adK EvT D aC k (ρ, pc, ls, st, S, I, L, R) Q r) : V l sz b Lx xs adK EvT D aC k (ρ, pc, ls, st, S, I, L, R) Q := by
  unfold exI at he; dsimp only at he; unfold xLdc2 at he
  split at he
  · rename_i v hg
    unfold xPush at he
    split at he
    · rename_i hn
      cases he
      subst hn
      intro p e Rm s m args below meth c H locs cells slots Z lsA C hR hS hl hret
      obtain ⟨hx, hb, hml, hown, hts, hK, hnm, hfr, hlo, hce, hsl, hsz, hE⟩ := id C
      exact lv_ldc2 hx hb hown (hts _ (gTbl_in (jM_ok hg) rfl)) hd (hv p e Rm s m args below meth c H locs cells slots Z lsA C hR hS hl hret)
    · cases he
  · cases he
theorem fY_ok : ∀ ci, ci < 13 → ∀ f, f < cF ci → fY ci f ≠ .float ∧ fY ci f ≠ .double := by decide +kernel
theorem fv_new {ci f a : Nat} (hci : ci < 13) (hf : f < cF ci) {I : mI} {L : mL} {R : mR} : fv ci f a (va_up I a (fun _ => 0)) (va_up L a (fun _ => 0)) (va_up R a (fun _ => none)) = defaultValue (fY ci f) := by
  have h := fY_ok ci hci f hf
  unfold fv
  cases hy : fY ci f <;> simp [va_up, va_rf, defaultValue] <;> first | exact absurd hy h.1 | exact absurd hy h.2
theorem sd_new {j : Nat} (hd : decode (mC k) pc = .ok (.new j, n)) (he : exI k n ρ pc ls st S I L R (.new j) = some r) (hv : SV l sz b Lx xs adK EvT D aC k (ρ, pc, ls, st, S, I, L, R) Q r) : V l sz b Lx xs adK EvT D aC k (ρ, pc, ls, st, S, I, L, R) Q := by
  unfold exI at he; dsimp only at he; unfold xNew at he
  split at he
  · rename_i ci hg
    split at he
    · rename_i hn
      unfold mk at he
      split at he
      · rename_i hbud
        cases he
        subst hn
        intro p e Rm s m args below meth c H locs cells slots Z lsA C hR hS hl hret
        obtain ⟨hx, hb, hml, hown, hts, hK, hnm, hfr, hlo, hce, hsl, hsz, hE⟩ := id C
        obtain ⟨h1, h2, h3, hci⟩ := nM_ok hg
        dsimp only at h1 h2 h3 hci hbud hce hsl
        obtain ⟨q, hq⟩ : ∃ q, cls[ci]? = some q := ⟨_, List.getElem?_eq_getElem (show ci < cls.length from hci)⟩
        obtain ⟨hqn, hN⟩ := cls_cN ci q hq
        rw [← hqn] at h1 h2 h3
        rw [← hN] at h2
        have hKn := hK.1 ci _ hq
        have hz := hR.1
        dsimp only at hz
        refine W.newcK hx hb hown (hts _ (gTbl_in h1 rfl)) (hts _ (gTbl_in h2 rfl)) (hts _ (gTbl_in h3 rfl)) rfl hd (by omega) (by rw [hN]; omega) hKn.2.1 hz fun H1 kC hkC e1 z1 o1 => ?_
        have hk9 : kd (S.1 + 1, va_up S.2.1 S.1 ci, va_up S.2.2 S.1 0) S.1 = ci := va_up_self _ _ _
        have hr2 := rE_obj (aC := aC) (I := va_up I S.1 (fun _ => 0)) (L := va_up L S.1 (fun _ => 0)) (R := va_up R S.1 (fun _ => none)) hk9 hci
        have hat : va_at D cls (S.1, .inr (ci, (List.range (cF ci)).map (fun f => fv ci f S.1 (va_up I S.1 (fun _ => 0)) (va_up L S.1 (fun _ => 0)) (va_up R S.1 (fun _ => none))))) H1 := by
          refine ⟨q, hq, (u_born (fY ci) hts (cls_g hq) hKn hkC e1 (cls_ty ci q hq)).to (fun f hf => ?_)⟩
          rw [hN] at hf
          show _ = vp_V _ _
          unfold vp_V
          rw [List.getD_eq_getElem?_getD, fv_at hf, fv_new hci hf]
          rfl
        rw [hN]
        exact hv p e Rm s m args below meth c H1 locs (cells + 1) (slots + cF ci) Z lsA ⟨hx, hb, hml, hown, hts, hK, hnm, hfr, hlo, by dsimp only; omega, by dsimp only; omega, hsz, hE⟩ (hR.mk (by omega) hr2 hat z1 o1) ⟨Nat.le_trans hS.1 (by omega), fun x h5 h6 => (o1 x (by have := hS.1; omega)).trans (hS.2.1 x h5 h6), hS.2.2⟩ hl hret
      · cases he
    · cases he
  · cases he
theorem sd_newa {ty : ArrayType} (hd : decode (mC k) pc = .ok (.newarray ty, n)) (he : exI k n ρ pc ls st S I L R (.newarray ty) = some r) (hv : SV l sz b Lx xs adK EvT D aC k (ρ, pc, ls, st, S, I, L, R) Q r) : V l sz b Lx xs adK EvT D aC k (ρ, pc, ls, st, S, I, L, R) Q := by
  unfold exI at he; dsimp only at he; unfold xNewa at he
  split at he
  · rename_i x t
    split at he
    · rename_i hn
      obtain ⟨rfl, hx0, hx1⟩ := hn
      cases ty <;> dsimp only at he
      all_goals first | (cases he; done) | skip
      · unfold mk at he
        split at he
        · rename_i hbud
          cases he
          intro p e Rm s m args below meth c H locs cells slots Z lsA C hR hS hl hret
          obtain ⟨hx, hb, hml, hown, hts, hK, hnm, hfr, hlo, hce, hsl, hsz, hE⟩ := id C
          dsimp only at hbud hce hsl
          have hz := hR.1
          dsimp only at hz
          refine va_newaK (atype := .byte) hx hb (hts _ (gTbl_in (w := .arrayClass .byte) (me_1 (List.mem_of_getElem? (i := 49) rfl)) rfl)) rfl hd rfl hx0 rfl (by show _ * componentBytes .byte ≤ _; unfold componentBytes; dsimp only; omega) (by omega) (by omega) hz fun H1 cA e1 z1 o1 hAr hNm => ?_
          have hcA : cA = aC 102 := by
            have h9 : s.vm.findClass ("[" ++ (.byte : FieldType).toString) = some (aC 102) := (hK.2 2 _ rfl).2
            exact Option.some.inj (hNm.symm.trans h9)
          subst hcA
          have hk9 : kd (S.1 + 1, va_up S.2.1 S.1 102, va_up S.2.2 S.1 x.toNatClampNeg) S.1 = 102 := va_up_self _ _ _
          have hr2 := rE_b (aC := aC) (I := va_up I S.1 (fun _ => 0)) (L := va_up L S.1 (fun _ => 0)) (R := va_up R S.1 (fun _ => none)) hk9
          refine hv p e Rm s m args below meth c H1 locs (cells + 1) (slots + x.toNatClampNeg) Z lsA ⟨hx, hb, hml, hown, hts, hK, hnm, hfr, hlo, by dsimp only; omega, by dsimp only; omega, hsz, hE⟩ (hR.mk (by decide) hr2 ?_ z1 o1) ⟨Nat.le_trans hS.1 (by omega), fun x h5 h6 => (o1 x (by have := hS.1; omega)).trans (hS.2.1 x h5 h6), hS.2.2⟩ hl hret
          show H1[S.1]? = some (vp_cell _ _)
          rw [e1]
          simp only [va_up_self, ln]
          rfl
        · cases he
      · unfold mk at he
        split at he
        · rename_i hbud
          cases he
          intro p e Rm s m args below meth c H locs cells slots Z lsA C hR hS hl hret
          obtain ⟨hx, hb, hml, hown, hts, hK, hnm, hfr, hlo, hce, hsl, hsz, hE⟩ := id C
          dsimp only at hbud hce hsl
          have hz := hR.1
          dsimp only at hz
          refine va_newaK (atype := .int) hx hb (hts _ (gTbl_in (w := .arrayClass .int) (me_1 (List.mem_of_getElem? (i := 50) rfl)) rfl)) rfl hd rfl hx0 rfl (by show _ * componentBytes .int ≤ _; unfold componentBytes; dsimp only; omega) (by omega) (by omega) hz fun H1 cA e1 z1 o1 hAr hNm => ?_
          have hcA : cA = aC 100 := by
            have h9 : s.vm.findClass ("[" ++ (.int : FieldType).toString) = some (aC 100) := (hK.2 0 _ rfl).2
            exact Option.some.inj (hNm.symm.trans h9)
          subst hcA
          have hk9 : kd (S.1 + 1, va_up S.2.1 S.1 100, va_up S.2.2 S.1 x.toNatClampNeg) S.1 = 100 := va_up_self _ _ _
          have hr2 := rE_i (aC := aC) (I := va_up I S.1 (fun _ => 0)) (L := va_up L S.1 (fun _ => 0)) (R := va_up R S.1 (fun _ => none)) hk9
          refine hv p e Rm s m args below meth c H1 locs (cells + 1) (slots + x.toNatClampNeg) Z lsA ⟨hx, hb, hml, hown, hts, hK, hnm, hfr, hlo, by dsimp only; omega, by dsimp only; omega, hsz, hE⟩ (hR.mk (by decide) hr2 ?_ z1 o1) ⟨Nat.le_trans hS.1 (by omega), fun x h5 h6 => (o1 x (by have := hS.1; omega)).trans (hS.2.1 x h5 h6), hS.2.2⟩ hl hret
          show H1[S.1]? = some (vp_cell _ _)
          rw [e1]
          simp only [va_up_self, ln]
          rfl
        · cases he
      · unfold mk at he
        split at he
        · rename_i hbud
          cases he
          intro p e Rm s m args below meth c H locs cells slots Z lsA C hR hS hl hret
          obtain ⟨hx, hb, hml, hown, hts, hK, hnm, hfr, hlo, hce, hsl, hsz, hE⟩ := id C
          dsimp only at hbud hce hsl
          have hz := hR.1
          dsimp only at hz
          refine va_newaK (atype := .long) hx hb (hts _ (gTbl_in (w := .arrayClass .long) (me_1 (List.mem_of_getElem? (i := 51) rfl)) rfl)) rfl hd rfl hx0 rfl (by show _ * componentBytes .long ≤ _; unfold componentBytes; dsimp only; omega) (by omega) (by omega) hz fun H1 cA e1 z1 o1 hAr hNm => ?_
          have hcA : cA = aC 101 := by
            have h9 : s.vm.findClass ("[" ++ (.long : FieldType).toString) = some (aC 101) := (hK.2 1 _ rfl).2
            exact Option.some.inj (hNm.symm.trans h9)
          subst hcA
          have hk9 : kd (S.1 + 1, va_up S.2.1 S.1 101, va_up S.2.2 S.1 x.toNatClampNeg) S.1 = 101 := va_up_self _ _ _
          have hr2 := rE_l (aC := aC) (I := va_up I S.1 (fun _ => 0)) (L := va_up L S.1 (fun _ => 0)) (R := va_up R S.1 (fun _ => none)) hk9
          refine hv p e Rm s m args below meth c H1 locs (cells + 1) (slots + x.toNatClampNeg) Z lsA ⟨hx, hb, hml, hown, hts, hK, hnm, hfr, hlo, by dsimp only; omega, by dsimp only; omega, hsz, hE⟩ (hR.mk (by decide) hr2 ?_ z1 o1) ⟨Nat.le_trans hS.1 (by omega), fun x h5 h6 => (o1 x (by have := hS.1; omega)).trans (hS.2.1 x h5 h6), hS.2.2⟩ hl hret
          show H1[S.1]? = some (vp_cell _ _)
          rw [e1]
          simp only [va_up_self, ln]
          rfl
        · cases he
    · cases he
  · cases he
end SD3
