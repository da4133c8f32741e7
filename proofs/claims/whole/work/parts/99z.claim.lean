def R_law : String := "StiltMarshLaw"
def lw_P (b : Addr) (xs : List Int32) (args : Array Value) (s : State) : Prop := args = #[.ref b] ∧ s.IntsAt b xs ∧ xs.length ≤ 384 ∧ (Jvm.Cond.and given_1 narrow_1).before args s = true
def lw_Q (_ : Array Value) (s : State) (o : Outcome) (t : State) : Prop := o = .returned (some (.int 1)) ∧ Framed s o t [] 600000 7302250
def lw_Z (below : List Frame) (a : Array Value) (s : State) : State → Prop := fun t => ∃ o, t.status = .running ∧ Ended t below o ∧ lw_Q a s o t
/-- the law's own end, with 1 on the stack, nothing written that was there before, its room as the claim has it -/
theorem lw_ret {p : Program} {l : Launch} {e : Env} {s : State} {m : MethodId} {below : List Frame} {meth : Method} {c : Code} {b : Nat} (hx : p.tables.exec = Jvm.exec) (hb : c.code = code) (hr : meth.sig.returnType = ret) (hlocks : meth.locks = false) {pc : Nat} {H : Heap} {ls : Array Slot} (hdg : decode code pc = .ok (.ireturn, 1)) : W p l e room_1 s m #[Value.ref b] below meth c H [] 600000 7302250 (lw_Z below #[Value.ref b] s) (F0 m pc ls [.int 1]) := by
  intro T hT X
  obtain ⟨fs, hret, hrun, hended, hW, hframe⟩ := X.leave (v := some (.int 1)) (hlocks := hlocks) (fun h => by rw [hr] at h; cases h)
  have hmeth' : T.vm.method? m = some meth := X.method'
  refine ⟨T.setFrames fs, ?_, .returned (some (.int 1)), hrun, hended, rfl, ⟨_, rfl⟩, hW, hframe⟩
  jvm_step X.here [X.here.top, hx, hb, hdg, hmeth', hr, ret, narrow_b1]
  (try refine ⟨rfl, ?_⟩); (try refine ⟨rfl, ?_⟩)
  first | (intro acts; rw [hret _ acts rfl rfl rfl]) | rw [hret _ _ rfl rfl rfl]
  exact Steps.refl _
/-- what holds at the law's entry: the machine, the code, the tables' words (any of lw_tbl by 'hts w (by decide +kernel)'), the script of L ints xs at the cell b, what the Statement gives of the start (any of its parts by flat_of_before) -/
def lw_At (p : Program) (s : State) (m : MethodId) (meth : Method) (c : Code) (b L : Nat) (xs : Nat → Int32) : Prop :=
  p.tables.exec = Jvm.exec ∧ c.code = code ∧ meth.sig.returnType = ret ∧ c.maxLocals = 4 ∧ s.vm.findClass R_law = some m.cls ∧ (∀ w ∈ lw_tbl, w.before #[Value.ref b] s = true) ∧ va_X b L xs s s.heap ∧ b < s.heap.size ∧ meth.locks = false ∧ (Jvm.Cond.and given_1 narrow_1).before #[Value.ref b] s = true ∧ meth.name = (mY 0).name
theorem st_Ev {s : State} {b : Nat} (hts : ∀ w ∈ lw_tbl, w.before #[Value.ref b] s = true) (hgv : (Jvm.Cond.and given_1 narrow_1).before #[Value.ref b] s = true) : ∃ (adK adV : Nat → Nat) (vF : Value), (vF = .null ∨ ∃ q, vF = .ref q) ∧ EvK s.heap.size adK adV vF s := by
  have hf := flat_of_before _ hgv
  have hA : ∀ a : Nat, a < s.heap.size → ¬ (fun q : Nat => s.heap.size ≤ q) a := fun a ha => Nat.not_le.mpr ha
  obtain ⟨adK, adV, hvk, had⟩ := st_str hgv
  obtain ⟨vF, ev, isr⟩ := Cond.isRef_spec (args := #[Value.ref b]) (first := s) (o := none) (s := s) (idx := []) (hf (.isRef (.static "jdk/internal/util/Preconditions" "SIOOBE_FORMATTER" "Ljava/util/function/BiFunction;")) (List.mem_of_getElem? (i := 5) (by decide +kernel)))
  refine ⟨adK, adV, vF, ?_, hvk, ?_, ?_, ?_, ?_⟩
  · cases vF with
    | null => exact Or.inl rfl
    | ref q => exact Or.inr ⟨q, rfl⟩
    | _ => simp [Value.isRef] at isr
  · exact va_Zof (hts (.laysStatic "java/lang/String" "COMPACT_STRINGS" "Z") (me_2 (List.mem_of_getElem? (i := 62) rfl))) (hts (.initialized "java/lang/String") (me_1 (List.mem_of_getElem? (i := 10) rfl))) (va_eqi (hf (.eq (.static "java/lang/String" "COMPACT_STRINGS" "Z") (.int 1)) (List.mem_of_getElem? (i := 4) (by decide +kernel)))) hA
  · exact va_Zof (hts (.laysStatic "jdk/internal/util/Preconditions" "SIOOBE_FORMATTER" "Ljava/util/function/BiFunction;") (me_2 (List.mem_of_getElem? (i := 78) rfl))) (hts (.initialized "jdk/internal/util/Preconditions") (me_1 (List.mem_of_getElem? (i := 12) rfl))) ev hA
  · exact vk_R.of (hts (.stringRef "StiltMarsh$Scanner" 19 strW) (me_2 (List.mem_of_getElem? (i := 52) rfl))) (had 0 (by omega))
  · exact vk_R.of (hts (.stringRef "StiltMarshModel" 186 strK) (me_8 (List.mem_of_getElem? (i := 16) rfl))) (had 1 (by omega))
theorem str_ne {s : State} {sz b L : Nat} {xs : Nat → Int32} {adK adV : Nat → Nat} {vF : Value} (hX : va_X b L xs s s.heap) (hE : EvK sz adK adV vF s) {i : Nat} (hi : i < 2) : adK i ≠ b ∧ adK i < s.heap.size := by
  obtain ⟨cf, k, fi, f, cell, h1, h2, h3, h4, h5, h6⟩ := (hE.1.1 i hi).2.2.1
  obtain ⟨scr, g1, g2, g3, g4, g5⟩ := hX
  refine ⟨fun e => ?_, (Array.getElem?_eq_some_iff.mp h3).1⟩
  rw [e, g1] at h3
  cases h3
  have hlt : f.slot < L := by
    have := (Array.getElem?_eq_some_iff.mp h5).1
    omega
  rw [g5 _ hlt] at h5
  cases h5
theorem st_rep {s : State} {b L : Nat} {xs : Nat → Int32} {adK adV : Nat → Nat} {vF : Value} {D : va_G} {aC : Nat → ClassId} (hX : va_X b L xs s s.heap) (hbl : b < s.heap.size) (hE : EvK s.heap.size adK adV vF s) : Rep s.heap.size b L xs adK D aC (s.heap.size, fun a => if a = b then 110 else if a = adK 0 then 200 else if a = adK 1 then 201 else 300, fun a => if a = b then L else 0) (fun a j => if a = b then xs j else 0) (fun _ _ => 0) (fun a j => if a = 0 then (if j = 0 then some (adK 0) else if j = 1 then some (adK 1) else none) else none) s.heap := by
  have n0 := str_ne hX hE (i := 0) (by omega)
  have n1 := str_ne hX hE (i := 1) (by omega)
  have n01 : adK 0 ≠ adK 1 := fun e => absurd (hE.1.2 0 1 (by omega) (by omega) e) (by omega)
  have big : ∀ a : Nat, 105 ≤ (if a = b then 110 else if a = adK 0 then 200 else if a = adK 1 then 201 else 300) := by
    intro a
    (repeat' split) <;> omega
  refine ⟨rfl, Nat.le_refl _, fun a ha => ?_, fun a e he => ?_, by omega, hbl, big 0, fun a ha => ?_, fun j hj => if_pos rfl, big b, fun i hi => ?_, fun a => ⟨fun ha => ?_, fun ha => ?_⟩⟩
  · have h1 := big a
    have h2 : (if a = b then 110 else if a = adK 0 then 200 else if a = adK 1 then 201 else 300) < 105 := ha
    omega
  · have h1 := big a
    have h2 : (if a = b then 110 else if a = adK 0 then 200 else if a = adK 1 then 201 else 300) < 105 := rE_kd he
    omega
  · have h2 : (if a = b then 110 else if a = adK 0 then 200 else if a = adK 1 then 201 else 300) = 110 := ha
    by_cases z : a = b
    · exact ⟨z, if_pos z⟩
    · rw [if_neg z] at h2
      revert h2
      (repeat' split) <;> omega
  · have : i = 0 ∨ i = 1 := by omega
    rcases this with rfl | rfl
    · exact ⟨rfl, n0.2⟩
    · exact ⟨rfl, n1.2⟩
  · have h2 : (if a = b then 110 else if a = adK 0 then 200 else if a = adK 1 then 201 else 300) = 200 := ha
    by_cases z : a = adK 0
    · exact z
    · rw [if_neg z] at h2
      revert h2
      (repeat' split) <;> omega
  · have h2 : (if a = b then 110 else if a = adK 0 then 200 else if a = adK 1 then 201 else 300) = 201 := ha
    by_cases z : a = adK 1
    · exact z
    · rw [if_neg z] at h2
      revert h2
      (repeat' split) <;> omega
theorem whole_start {p : Program} {e : Env} {s : State} {m : MethodId} {below : List Frame} {meth : Method} {c : Code} (l : Launch) {b L : Nat} {xs : Nat → Int32} (hL : L ≤ 384) (C0 : lw_At p s m meth c b L xs) : W p l e room_1 s m #[Value.ref b] below meth c s.heap [] 0 0 (lw_Z below #[Value.ref b] s) (entryFrame m ([Value.ref b] : List Value).toArray 4) := by
  obtain ⟨hx, hb, hr, hml, hown, hts, hX, hbl, hlocks, hgv, hnm⟩ := id C0
  obtain ⟨adK, adV, vF, hF, hE⟩ := st_Ev hts hgv
  obtain ⟨D, aC, hK⟩ := st_K hts
  have n0 := str_ne hX hE (i := 0) (by omega)
  have n1 := str_ne hX hE (i := 1) (by omega)
  have n01 : adK 0 ≠ adK 1 := fun e => absurd (hE.1.2 0 1 (by omega) (by omega) e) (by omega)
  have hR := st_rep (D := D) (aC := aC) hX hbl hE
  have hlaw : wpT 0 ((40 + 60, 600000, 7302250), 0, [some (.ref b), none, none, none], [], (s.heap.size, fun a => if a = b then 110 else if a = adK 0 then 200 else if a = adK 1 then 201 else 300, fun a => if a = b then L else 0), (fun a j => if a = b then xs j else 0), (fun _ _ => 0), (fun a j => if a = 0 then (if j = 0 then some (adK 0) else if j = 1 then some (adK 1) else none) else none)) (fun v _ _ _ _ => v = some (.int (nI 1))) :=
    law_wp (d := 40) (q0 := adK 0) (q1 := adK 1) hbl n0.2 n1.2 (if_pos rfl) (if_pos rfl) hL rfl (by show (if adK 0 = b then 110 else if adK 0 = adK 0 then 200 else if adK 0 = adK 1 then 201 else 300) = 200; rw [if_neg n0.1, if_pos rfl]) rfl (by show (if adK 1 = b then 110 else if adK 1 = adK 0 then 200 else if adK 1 = adK 1 then 201 else 300) = 201; rw [if_neg n1.1, if_neg (fun e => n01 e.symm), if_pos rfl]) (by omega) (by omega)
  have hV := sound (l := l) (sz := s.heap.size) (b := b) (Lx := L) (xs := xs) (adK := adK) (D := D) (aC := aC) (str_ok (sz := s.heap.size) (adK := adK) (adV := adV) l hF) hlaw
  rw [lg_entry_eq]
  refine hV p e room_1 s m #[Value.ref b] below meth c s.heap [] 0 0 (lw_Z below #[Value.ref b] s) _ ⟨hx, hb, hml, hown, fun w hw => hts w (List.mem_filter.mp hw).1, hK, hnm, by show 40 + 60 ≤ 2048; omega, by show 60 * (40 + 60) + 60 ≤ 84000; omega, by show 0 + 600000 ≤ 600000; omega, by show 0 + 7302250 ≤ 7302250; omega, Nat.le_refl _, ?_⟩ hR va_S.rf (lvR_entry (n := 4) (vs := [.ref b]) (Nat.le_of_ble_eq_true rfl)) ?_
  · refine ⟨?_, va_AO.of (hts _ (me_2 (List.mem_of_getElem? (i := 45) rfl))), va_AO.of (hts _ (me_2 (List.mem_of_getElem? (i := 177) rfl))), hX, hbl, hbl, hE⟩
    intro t ht
    simp only [nestL, List.mem_cons, List.not_mem_nil, or_false] at ht
    rcases ht with rfl | rfl | rfl | rfl
    · exact va_Nw.of rfl (hts _ (me_1 (List.mem_of_getElem? (i := 60) rfl)))
    · exact va_Nw.of rfl (hts _ (me_1 (List.mem_of_getElem? (i := 126) rfl)))
    · exact va_Nw.of rfl (hts _ (me_1 (List.mem_of_getElem? (i := 217) rfl)))
    · exact va_Nw.of rfl (hts _ (me_5 (List.mem_of_getElem? (i := 62) rfl)))
  · intro pc' lsA' S' I' L' R' H' locs' cells' slots' v i hd hret hq hR' hS' hc hs'
    subst hq
    rcases hret with ⟨x, rfl, hv, -⟩ | ⟨x, rfl, hv, -⟩ | ⟨x, rfl, hv, -⟩ | ⟨rfl, hv, -⟩
    · refine va_forget (fun q hq => hS'.2.2 q hq) ?_
      refine W.widen (k := 600000) (n := 7302250) hc hs' ?_
      exact lw_ret hx hb hr hlocks hd
    · cases hv
    · cases hv
    · cases hv
set_option maxHeartbeats 4000000 in
theorem lw_walk (l : Launch) (b : Addr) (xs : List Int32) : MetFree l x (headSpec (Jvm.Cond.code x code maxLocals ret :: tables_1) room_1) (lw_P b xs) (fun _ _ _ _ _ => True) lw_Q := by
  refine MetFree.of_bodyS (code := code) (maxLocals := maxLocals) (ret := ret) (by decide) ?_ ?_
  · intro args s m h hn
    obtain ⟨meth, c, h1, h2, h3, h4, h5, h6, -, -⟩ := Cond.code_spec hn (atoms_spec (ws := Jvm.Cond.code x code maxLocals ret :: tables_1) h _ List.mem_cons_self)
    exact ⟨meth, c, h1, h2, h3, h4, h5, h6⟩
  · intro p e s m args below meth c s₁ B hml0 hP _
    obtain ⟨rfl, hx, hbd, hgv⟩ := hP
    obtain ⟨scr, harrAt, hlist, hof, hsmall⟩ := hx
    obtain ⟨hcb, hkn, -, -⟩ := State.arrayAt?_spec harrAt
    have hown : s.vm.findClass R_law = some m.cls := findClass_of_methodNamed B.named
    have hts0 : ∀ c ∈ (Jvm.Cond.code x code maxLocals ret :: tables_1), c.before #[Value.ref b] s = true := atoms_spec (ws := Jvm.Cond.code x code maxLocals ret :: tables_1) B.pre
    have hts : ∀ w ∈ lw_tbl, w.before #[Value.ref b] s = true := k2_hts_sels lw_privs (fun w hw => hts0 w (List.mem_cons_of_mem _ hw)) lw_privs_ok
    have hml : c.maxLocals = 4 := B.maxLocals_eq (hts0 _ List.mem_cons_self)
    have X₀ : Stand p l e room_1 s m #[Value.ref b] below meth c s₁ [] 0 0 := Stand.of_body B
    have hh0 : s₁.heap = s.heap := by rw [B.state]; rfl
    have hsz : scr.slots.size = xs.length := by rw [← Array.length_toList, hlist, List.length_map]
    have hval : ∀ j : Nat, j < xs.length → scr.slots[j]? = some (.int (xs.getD j 0)) := fun j hj => by
      rw [← Array.getElem?_toList, hlist]
      simp [hj]
    have hbl : b < s.heap.size := (Array.getElem?_eq_some_iff.mp hcb).1
    have hX : va_X b xs.length (fun j => xs.getD j 0) s s.heap := ⟨scr, hcb, hof, hkn, hsz, hval⟩
    have K : W p l e room_1 s m #[Value.ref b] below meth c s₁.heap [] 0 0 (lw_Z below #[Value.ref b] s) (entryFrame m ([Value.ref b] : List Value).toArray 4) := by
      rw [hh0]
      exact whole_start l hbd ⟨B.exec, B.bytes, B.returns, hml, hown, hts, hX, hbl, B.notSynchronized, hgv, (name_of_methodNamed B.named B.method).1⟩
    obtain ⟨t, a1, o, b1, b2, b3⟩ := K s₁ rfl X₀
    exact ⟨t, o, a1, b1, b2, b3⟩
theorem lw_pre_spec {args : Array Value} {s : State} (h : (Jvm.Cond.and given_1 narrow_1).before args s = true) (hr : rest_1_c.before args s = true) : ∃ (b : Addr) (xs : List Int32), lw_P b xs args s := by
  have hs := flat_of_before _ h
  have hq := flat_of_before _ hr
  have hc : (Cond.count 1).before args s = true := hs _ (by decide +kernel)
  have harr : (Cond.arrayOf (.arg 0) .int).before args s = true := hs _ (by decide +kernel)
  have hle : (Cond.le (.length (.arg 0)) (.int 384)).before args s = true := hs _ (by decide +kernel)
  have hlen : (Cond.isInt (.length (.arg 0))).before args s = true := hq _ (by decide +kernel)
  have hall : (Cond.all (.arg 0) (.isInt (.elem (.arg 0) (.index 0)))).before args s = true := hq _ (by decide +kernel)
  obtain ⟨b, xs, hb, hx⟩ := State.ints_of_pre rfl harr hlen hall
  have hsm : xs.length < 2 ^ 31 := hx.choose_spec.2.2.2
  have hev : (Term.length (.arg 0)).eval args s none [] s = some (.int xs.length.toInt32) := hx.length_eval hb
  have hv := Cond.le_ints hev (show (Term.int 384).eval args s none [] s = some (.int 384) from rfl)
  have hd : xs.length.toInt32 ≤ 384 := by
    simpa [Cond.before, Cond.holds, hv] using hle
  have hN : xs.length ≤ 384 := (Int32.ofNat_le_ofNat hsm (by decide)).mp (show Int32.ofNat xs.length ≤ Int32.ofNat 384 from hd)
  exact ⟨b, xs, Cond.one_arg hc (show args[0]? = some (.ref b) from hb), hx, hN, h⟩
theorem lw_comes (l : Launch) : Comes l x (Jvm.Cond.code x code maxLocals ret :: tables_1) room_1 (fun tb e args s => Calls_1 tb e args s ∧ rest_1 tb e args s ∧ Pre_1 tb e args s)
    (fun _ _ args s o t => lw_Q args s o t) := by
  intro p e ha hc hk s m args below hf hfit hheap happ hpre
  obtain ⟨b, xs, hP⟩ := lw_pre_spec hpre.2.2 hpre.2.1
  obtain ⟨k, o, h1, h2, h3, hQ⟩ := lw_walk l b xs p e ha hc hk s m args below hf ((Spec.applies_iff_loose hf).mp happ).1 hP trivial
  exact ⟨k, o, h1, h2, h3, hQ⟩
theorem lw_frame {s t : State} {o : Outcome} {args : Array Value} (h : Framed s o t [] 600000 7302250) :
    Framed s o t (fieldLocs frame_1_writes args s ++ arrayLocs frame_1_arrays args s ++ staticLocs frame_1_statics s) 600000 7302250 := h
theorem lw_limb (L : Cond) (hL : ∀ (args : Array Value) (s t : State), L.after args s (.returned (some (.int 1))) t = true) :
    ArmFor flags0 classFile x code maxLocals ret World_1 tables_1 room_1 Calls_1 rest_1 Pre_1
      (fun tb e a s o t => postC L tb e a s o t ∧ Framed s o t (fieldLocs frame_1_writes a s ++ arrayLocs frame_1_arrays a s ++ staticLocs frame_1_statics s) 600000 7302250) := by
  intro l _ _ _ p e ha hc hk s m args below hf hfit hheap happ hpre
  obtain ⟨k, o, h1, h2, h3, rfl, hF⟩ := lw_comes l p e ha hc hk s m args below hf hfit hheap happ hpre
  exact ⟨k, _, h1, h2, h3, hL args s _, lw_frame hF⟩
theorem i_vc : Claimed_1_1 ∧ Claimed_1_2 := ⟨lw_limb limb_1_1 (fun args s t => by simp [limb_1_1, Cond.after, Cond.holds, Cond.value]), lw_limb limb_1_2 (fun args s t => Cond.after_iff.mpr (by
  first | (rw [show limb_1_2 = Cond.eq .result (.int 1) from rfl, Cond.eq_ints (x := 1) (y := 1) rfl rfl]; simp; done) | (simp [limb_1_2, Cond.value, Term.eval]; done)))⟩

