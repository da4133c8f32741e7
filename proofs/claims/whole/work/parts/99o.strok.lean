/-! The String constants in the small machine; both objects made, and all calls: the law in the small machine. -/
section LDW
variable {p : Program} {l : Launch} {e : Env} {R : Room} {s : State} {m : MethodId} {args : Array Value} {below : List Frame} {meth : Method} {c : Code} {H : Heap} {locs : List Loc} {cells slots : Nat} {Q : State → Prop}
theorem sx_ldcw {T : State} (X : Stand p l e R s m args below meth c T locs cells slots) (hexec : p.tables.exec = Jvm.exec) {own text : String} {index : Nat} {a : Addr} (hown : s.vm.findClass own = some m.cls)
    (hconst : (Cond.stringRef own index text).before args s = true) (hev : (Term.string own index).eval args s none [] s = some (.ref a)) {g : JFrame} (hg : g.method = m) (hdg : decode c.code g.pc = .ok (.ldc_w index, 3)) :
    ∀ target, Steps p.tables e below (T.setTop { g with pc := g.pc + 3, stack := .ref a :: g.stack }) target → Steps p.tables e below (T.setTop g) target := by
  obtain ⟨k, cf, i, a', hk, hcf, hcp, -, hr, hev'⟩ := Cond.stringRef_spec hown hconst
  cases hev.symm.trans hev'
  obtain ⟨k', hk', he⟩ := X.warmed.alike.2.2 _ _ hk
  have hr' : k'.resolved[index]? = some (some (.string a)) := by
    rcases X.warmed.entry hk hk' index with h | ⟨h, -⟩
    · rw [h]; exact hr
    · rw [hr] at h; cases h
  intro target hrest
  subst hg
  jvm_step X.here [hexec, hdg, ldc_w.wp_string (e := e) (s := T) (f := g) X.here.top hk' (by rw [he]; exact hcf) hcp hr']
  exact hrest
theorem va_ldcwS {cc : ByteArray} {pc : Nat} {ls : Array Slot} {rest : List Value} (hexec : p.tables.exec = Jvm.exec) (hb : c.code = cc) {own tx : String} {index q : Nat} (hown : s.vm.findClass own = some m.cls) (hZ : vk_R own index tx q s) (hdg : decode cc pc = .ok (.ldc_w index, 3))
    (k : W p l e R s m args below meth c H locs cells slots Q (F0 m (pc + 3) ls (.ref q :: rest))) : W p l e R s m args below meth c H locs cells slots Q (F0 m pc ls rest) := by
  intro T hT X
  obtain ⟨t, a1, b1⟩ := k T hT X
  exact ⟨t, sx_ldcw X hexec hown (text := tx) (a := q) hZ.1 hZ.2 (g := F0 m pc ls rest) rfl (by rw [hb]; exact hdg) t a1, b1⟩
end LDW
section STK
variable {sz : Nat} {adK adV : Nat → Nat} {vF : Value}
theorem str_ok (l : Launch) (hF : vF = .null ∨ ∃ q, vF = .ref q) : StrOK l sz adK (EvK sz adK adV vF) := by
  refine ⟨fun s U h hW hz hq => h.go hW hz hq, ?_, ?_, ?_⟩
  · intro p e Rm s m args below meth c H locs cells slots Z lsA pc o j i len cc st hx hb hown hts hE hs hd k
    unfold sM at hs
    split at hs
    · rename_i hoj
      obtain ⟨rfl, rfl⟩ := hoj
      cases hs
      rcases hd with ⟨hd, rfl⟩ | ⟨hd, rfl⟩
      · exact va_ldcS (own := "StiltMarsh$Scanner") hx hb hown hE.2.2.2.1 hd k
      · exact va_ldcwS (own := "StiltMarsh$Scanner") hx hb hown hE.2.2.2.1 hd k
    · split at hs
      · rename_i hoj
        obtain ⟨rfl, rfl⟩ := hoj
        cases hs
        rcases hd with ⟨hd, rfl⟩ | ⟨hd, rfl⟩
        · exact va_ldcS (own := "StiltMarshModel") hx hb hown hE.2.2.2.2 hd k
        · exact va_ldcwS (own := "StiltMarshModel") hx hb hown hE.2.2.2.2 hd k
      · cases hs
  · intro p e Rm s m args below meth c H locs cells slots Z lsA pc o j i cc st hx hb hml hown hts hE hS hfr hlo hce hsl hw hi hlk hd k
    have cwv := callB_of (R := Rm) (Ts := gTbl) (own := cN o) (index := j) (rm := rmJ 1) (mc := 0) (ms := 0) 0 hts (gTbl_good (wsJ_in (me_2 (List.mem_of_getElem? (i := 56) rfl)))) (ws := wsJ ⟨"java/lang/String", "length", "()I"⟩ prog_17_method_54_code 1 (some .int)) rfl rfl rfl (hts _ (gTbl_in (w := .initialized "java/lang/String") (me_1 (List.mem_of_getElem? (i := 10) rfl)) rfl)) (hts _ (gTbl_in hlk rfl)) ⟨by decide +kernel, by decide +kernel, by decide +kernel⟩ ⟨by show 1 + 1 ≤ Rm.frames; omega, by show 8 + (1 + 11) + 60 * 1 ≤ Rm.locals; omega⟩
    have hrun := va_runV (H := H) (C := "java/lang/String") (g := F0 m pc lsA (.ref (adK i) :: st)) (b := adK i) (As := []) (rest := st) (cells := cells) (slots := slots) (locs := locs) (below := below) (meth := meth) (e := e) ⟨hx, hb, hml, hown, hts⟩ (j_len (sz := sz) (adK := adK) (adV := adV) (vF := vF) l H hi) ⟨cwv, (hts _ (gTbl_in (w := .instanceMethod ⟨"java/lang/String", "length", "()I"⟩) (me_2 (List.mem_of_getElem? (i := 54) rfl)) rfl)), (hts _ (gTbl_in (w := .selects "java/lang/String" ⟨"java/lang/String", "length", "()I"⟩ ⟨"java/lang/String", "length", "()I"⟩) (me_2 (List.mem_of_getElem? (i := 55) rfl)) rfl))⟩ ⟨EvK.blind, vk_recv hE.1 hi hS, fun U hU hW => ⟨rfl, EvK.go hE hW (by rw [hU]; exact hS.1) (fun q h1 h2 => by rw [hU]; exact hS.2.1 q h1 h2), hU⟩⟩ rfl rfl rfl rfl (lv_room (by unfold cw at hw; exact hw)) hd ⟨hce, hsl⟩
    exact run_i hrun k
  · intro p e Rm s m args below meth c H locs cells slots Z lsA pc o j i x cc st hx hb hml hown hts hE hS hfr hlo hce hsl hw hi hlk hxi hd k
    obtain ⟨n1, n2, n3, n4⟩ := ln_ok i hi
    obtain ⟨jj, hj, rfl⟩ : ∃ jj, jj < (strC i).length ∧ x = nI jj := by
      have h0 : ¬ x < 0 := fun h => hxi (Or.inl h)
      obtain ⟨q, hq, e⟩ := nI_of h0
      subst e
      refine ⟨q, ?_, rfl⟩
      have h1 : ¬ (strC i).length ≤ (nI q).toNatClampNeg := fun h => hxi (Or.inr h)
      rw [nI_clamp hq] at h1
      omega
    rw [nI_clamp (by omega)] at k
    have cwv := callB_of (R := Rm) (Ts := gTbl) (own := cN o) (index := j) (rm := rmJ 3) (mc := 0) (ms := 0) 1 hts (gTbl_good (wsJ_in (me_2 (List.mem_of_getElem? (i := 66) rfl)))) (ws := wsJ ⟨"java/lang/String", "charAt", "(I)C"⟩ prog_17_method_56_code 2 (some .char)) rfl rfl rfl (hts _ (gTbl_in (w := .initialized "java/lang/String") (me_1 (List.mem_of_getElem? (i := 10) rfl)) rfl)) (hts _ (gTbl_in hlk rfl)) ⟨by decide +kernel, by decide +kernel, by decide +kernel⟩ ⟨by show 3 + 1 ≤ Rm.frames; omega, by show 8 + (2 + 11) + 60 * 3 ≤ Rm.locals; omega⟩
    have hrun := va_runV (H := H) (C := "java/lang/String") (g := F0 m pc lsA (.int (nI jj) :: .ref (adK i) :: st)) (b := adK i) (As := [.int (nI jj)]) (rest := st) (cells := cells) (slots := slots) (locs := locs) (below := below) (meth := meth) (e := e) ⟨hx, hb, hml, hown, hts⟩ (j_cha (sz := sz) (adK := adK) (adV := adV) (vF := vF) l H hF hi (by omega)) ⟨cwv, (hts _ (gTbl_in (w := .instanceMethod ⟨"java/lang/String", "charAt", "(I)C"⟩) (me_2 (List.mem_of_getElem? (i := 64) rfl)) rfl)), (hts _ (gTbl_in (w := .selects "java/lang/String" ⟨"java/lang/String", "charAt", "(I)C"⟩ ⟨"java/lang/String", "charAt", "(I)C"⟩) (me_2 (List.mem_of_getElem? (i := 65) rfl)) rfl))⟩ ⟨EvK.blind, vk_recv hE.1 hi hS, fun U hU hW => ⟨rfl, EvK.go hE hW (by rw [hU]; exact hS.1) (fun q h1 h2 => by rw [hU]; exact hS.2.1 q h1 h2), hU⟩⟩ rfl rfl rfl rfl (lv_room (by unfold cw at hw; exact hw)) hd ⟨hce, hsl⟩
    exact run_i hrun k
end STK

