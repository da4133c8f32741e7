/-! The String constants: what they hold, and the JDK's own methods on them. -/
def lenK : List Nat := [132, 133]
def bytK : List (List Int32) := [(strC 0).map nI, (strC 1).map nI]
def EvK (sz : Nat) (adK adV : Nat → Nat) (vF : Value) (U : State) : Prop := vk_S 2 lenK bytK adK adV (fun q : Nat => sz ≤ q) U U.heap ∧ va_Z "java/lang/String" "COMPACT_STRINGS" "Z" (.int 1) (fun q : Nat => sz ≤ q) U U.heap ∧ va_Z "jdk/internal/util/Preconditions" "SIOOBE_FORMATTER" "Ljava/util/function/BiFunction;" vF (fun q : Nat => sz ≤ q) U U.heap ∧ vk_R "StiltMarsh$Scanner" 19 strW (adK 0) U ∧ vk_R "StiltMarshModel" 186 strK (adK 1) U
theorem EvK.go {sz : Nat} {adK adV : Nat → Nat} {vF : Value} {s U : State} (h : EvK sz adK adV vF s) (hW : s.WarmedH U.vm) (hz : s.heap.size ≤ U.heap.size) (hq : ∀ q : Nat, q < s.heap.size → ¬ sz ≤ q → U.heap[q]? = s.heap[q]?) : EvK sz adK adV vF U := by
  obtain ⟨h1, h2, h3, h4, h5⟩ := h
  exact ⟨vk_S.moved hW.alike (h1.kept hq), va_Z.moved hW.alike (h2.kept hq), va_Z.moved hW.alike (h3.kept hq), vk_R.warm hW h4, vk_R.warm hW h5⟩
theorem EvK.blind {sz : Nat} {adK adV : Nat → Nat} {vF : Value} {as : List Value} {Hs : Heap} : FrameBlind (va_Pc as (fun U => EvK sz adK adV vF U ∧ U.heap = Hs)) := by
  intro a U g mk h
  exact ⟨h.1, EvK.go h.2.1 (U := U.calling g mk a) (State.WarmedH.refl U) (Nat.le_refl _) (fun _ _ _ => rfl), h.2.2⟩
def wsJ (y : MethodName) (cc : ByteArray) (maxL : Nat) (ret : Option FieldType) : List Cond := Cond.code y cc maxL ret :: gTbl
def rmJ (d : Nat) : Room := { frames := d, cells := 0, slots := 0, locals := 60 * d }
theorem wsJ_in {y : MethodName} {cc : ByteArray} {maxL : Nat} {ret : Option FieldType} (h : Cond.code y cc maxL ret ∈ lw_tbl) : ∀ w ∈ wsJ y cc maxL ret, w ∈ gTbl := by
  intro w hw
  rcases List.mem_cons.mp hw with rfl | hw
  · exact gTbl_in h rfl
  · exact hw
def jQ (o : Option Value) (Hs : Heap) : Array Value → State → Outcome → State → Prop := fun _ _ oc t => oc = .returned o ∧ t.heap = Hs
section RUNJ
variable {p : Program} {l : Launch} {e : Env} {R : Room} {s : State} {m : MethodId} {args : Array Value} {below : List Frame} {meth : Method} {c : Code} {H : Heap} {locs : List Loc} {cells slots : Nat} {Q : State → Prop} {pc : Nat} {ls : Array Slot} {rest st0 : List Value} {a : Array Value}
theorem run_i {v : Int32} (hr : va_Run p l e R s m args below meth c H locs cells slots 0 0 (F0 m pc ls st0) rest (jQ (some (.int v)) H a) (fun _ => False)) (k : W p l e R s m args below meth c H locs cells slots Q (F0 m (pc + 3) ls (.int v :: rest))) : W p l e R s m args below meth c H locs cells slots Q (F0 m pc ls st0) := by
  intro T hT X
  obtain ⟨v', st₀, t, T', L, h0, X', hL, e1, e2, ⟨hv, hh⟩, stp⟩ := hr T hT X
  cases hv
  have hL0 : L = [] := List.eq_nil_iff_forall_not_mem.mpr (fun q hq => hL q hq)
  subst hL0
  rw [List.append_nil] at X'
  obtain ⟨t2, a1, b1⟩ := k T' (by rw [e1, hh]) X'
  exact ⟨t2, stp t2 a1, b1⟩
theorem run_v (hr : va_Run p l e R s m args below meth c H locs cells slots 0 0 (F0 m pc ls st0) rest (jQ none H a) (fun _ => False)) (k : W p l e R s m args below meth c H locs cells slots Q (F0 m (pc + 3) ls rest)) : W p l e R s m args below meth c H locs cells slots Q (F0 m pc ls st0) := by
  intro T hT X
  obtain ⟨v', st₀, t, T', L, h0, X', hL, e1, e2, ⟨hv, hh⟩, stp⟩ := hr T hT X
  cases hv
  have hL0 : L = [] := List.eq_nil_iff_forall_not_mem.mpr (fun q hq => hL q hq)
  subst hL0
  rw [List.append_nil] at X'
  obtain ⟨t2, a1, b1⟩ := k T' (by rw [e1, hh]) X'
  exact ⟨t2, stp t2 a1, b1⟩
end RUNJ
theorem ch_ok : ∀ i, i < 2 → ∀ j, j < lenK.getD i 0 → ((((bytK.getD i []).getD j 0) &&& 255).toUInt32 % 65536).toInt32 = nI ((strC i).getD j 0) ∧ (strC i).getD j 0 < 256 := by decide +kernel
theorem ln_ok : ∀ i, i < 2 → lenK.getD i 0 = (strC i).length ∧ (strC i).length < 2 ^ 31 ∧ Int32.ofNat (lenK.getD i 0) = nI (lenK.getD i 0) ∧ nI (lenK.getD i 0) >>> ((0 : Int32) &&& 31) = nI ((strC i).length) := by decide +kernel
theorem dj_pre_0 : decode prog_22_method_11_code 0 = .ok (.iload_n 0, 1) := by decide +kernel
theorem dj_pre_1 : decode prog_22_method_11_code 1 = .ok (.ifCond .lt 8, 3) := by decide +kernel
theorem dj_pre_4 : decode prog_22_method_11_code 4 = .ok (.iload_n 0, 1) := by decide +kernel
theorem dj_pre_5 : decode prog_22_method_11_code 5 = .ok (.iload_n 1, 1) := by decide +kernel
theorem dj_pre_6 : decode prog_22_method_11_code 6 = .ok (.if_icmp .lt 10, 3) := by decide +kernel
theorem dj_pre_16 : decode prog_22_method_11_code 16 = .ok (.iload_n 0, 1) := by decide +kernel
theorem dj_pre_17 : decode prog_22_method_11_code 17 = .ok (.ireturn, 1) := by decide +kernel
theorem dj_chk_0 : decode prog_17_method_155_code 0 = .ok (.iload_n 0, 1) := by decide +kernel
theorem dj_chk_1 : decode prog_17_method_155_code 1 = .ok (.iload_n 1, 1) := by decide +kernel
theorem dj_chk_2 : decode prog_17_method_155_code 2 = .ok (.getstatic 1053, 3) := by decide +kernel
theorem dj_chk_5 : decode prog_17_method_155_code 5 = .ok (.invokestatic 1059, 3) := by decide +kernel
theorem dj_chk_8 : decode prog_17_method_155_code 8 = .ok (.pop, 1) := by decide +kernel
theorem dj_chk_9 : decode prog_17_method_155_code 9 = .ok (.return_, 1) := by decide +kernel
theorem dj_l1c_0 : decode prog_18_method_2_code 0 = .ok (.iload_n 1, 1) := by decide +kernel
theorem dj_l1c_1 : decode prog_18_method_2_code 1 = .ok (.aload_n 0, 1) := by decide +kernel
theorem dj_l1c_2 : decode prog_18_method_2_code 2 = .ok (.arraylength, 1) := by decide +kernel
theorem dj_l1c_3 : decode prog_18_method_2_code 3 = .ok (.invokestatic 9, 3) := by decide +kernel
theorem dj_l1c_6 : decode prog_18_method_2_code 6 = .ok (.aload_n 0, 1) := by decide +kernel
theorem dj_l1c_7 : decode prog_18_method_2_code 7 = .ok (.iload_n 1, 1) := by decide +kernel
theorem dj_l1c_8 : decode prog_18_method_2_code 8 = .ok (.baload, 1) := by decide +kernel
theorem dj_l1c_9 : decode prog_18_method_2_code 9 = .ok (.sipush 255, 3) := by decide +kernel
theorem dj_l1c_12 : decode prog_18_method_2_code 12 = .ok (.iand, 1) := by decide +kernel
theorem dj_l1c_13 : decode prog_18_method_2_code 13 = .ok (.i2c, 1) := by decide +kernel
theorem dj_l1c_14 : decode prog_18_method_2_code 14 = .ok (.ireturn, 1) := by decide +kernel
theorem dj_cha_0 : decode prog_17_method_56_code 0 = .ok (.aload_n 0, 1) := by decide +kernel
theorem dj_cha_1 : decode prog_17_method_56_code 1 = .ok (.invokevirtual 492, 3) := by decide +kernel
theorem dj_cha_4 : decode prog_17_method_56_code 4 = .ok (.ifCond .eq 12, 3) := by decide +kernel
theorem dj_cha_7 : decode prog_17_method_56_code 7 = .ok (.aload_n 0, 1) := by decide +kernel
theorem dj_cha_8 : decode prog_17_method_56_code 8 = .ok (.getfield 9, 3) := by decide +kernel
theorem dj_cha_11 : decode prog_17_method_56_code 11 = .ok (.iload_n 1, 1) := by decide +kernel
theorem dj_cha_12 : decode prog_17_method_56_code 12 = .ok (.invokestatic 495, 3) := by decide +kernel
theorem dj_cha_15 : decode prog_17_method_56_code 15 = .ok (.ireturn, 1) := by decide +kernel
theorem dj_lat_0 : decode prog_17_method_154_code 0 = .ok (.getstatic 38, 3) := by decide +kernel
theorem dj_lat_3 : decode prog_17_method_154_code 3 = .ok (.ifCond .eq 14, 3) := by decide +kernel
theorem dj_lat_6 : decode prog_17_method_154_code 6 = .ok (.aload_n 0, 1) := by decide +kernel
theorem dj_lat_7 : decode prog_17_method_154_code 7 = .ok (.getfield 15, 3) := by decide +kernel
theorem dj_lat_10 : decode prog_17_method_154_code 10 = .ok (.ifCond .ne 7, 3) := by decide +kernel
theorem dj_lat_13 : decode prog_17_method_154_code 13 = .ok (.iconst 1, 1) := by decide +kernel
theorem dj_lat_14 : decode prog_17_method_154_code 14 = .ok (.goto 4, 3) := by decide +kernel
theorem dj_lat_18 : decode prog_17_method_154_code 18 = .ok (.ireturn, 1) := by decide +kernel
theorem dj_cod_0 : decode prog_17_method_152_code 0 = .ok (.getstatic 38, 3) := by decide +kernel
theorem dj_cod_3 : decode prog_17_method_152_code 3 = .ok (.ifCond .eq 10, 3) := by decide +kernel
theorem dj_cod_6 : decode prog_17_method_152_code 6 = .ok (.aload_n 0, 1) := by decide +kernel
theorem dj_cod_7 : decode prog_17_method_152_code 7 = .ok (.getfield 15, 3) := by decide +kernel
theorem dj_cod_10 : decode prog_17_method_152_code 10 = .ok (.goto 4, 3) := by decide +kernel
theorem dj_cod_14 : decode prog_17_method_152_code 14 = .ok (.ireturn, 1) := by decide +kernel
theorem dj_len_0 : decode prog_17_method_54_code 0 = .ok (.aload_n 0, 1) := by decide +kernel
theorem dj_len_1 : decode prog_17_method_54_code 1 = .ok (.getfield 9, 3) := by decide +kernel
theorem dj_len_4 : decode prog_17_method_54_code 4 = .ok (.arraylength, 1) := by decide +kernel
theorem dj_len_5 : decode prog_17_method_54_code 5 = .ok (.aload_n 0, 1) := by decide +kernel
theorem dj_len_6 : decode prog_17_method_54_code 6 = .ok (.invokevirtual 335, 3) := by decide +kernel
theorem dj_len_9 : decode prog_17_method_54_code 9 = .ok (.ishr, 1) := by decide +kernel
theorem dj_len_10 : decode prog_17_method_54_code 10 = .ok (.ireturn, 1) := by decide +kernel
section STR
variable {sz : Nat} {adK adV : Nat → Nat} {vF : Value}
theorem j_pre (l : Launch) (Hs : Heap) {i n : Nat} (hF : vF = .null ∨ ∃ q, vF = .ref q) (hi : i < n) (hn : n < 2 ^ 31) : Met l ⟨"jdk/internal/util/Preconditions", "checkIndex", "(IILjava/util/function/BiFunction;)I"⟩ (wsJ ⟨"jdk/internal/util/Preconditions", "checkIndex", "(IILjava/util/function/BiFunction;)I"⟩ prog_22_method_11_code 3 (some .int)) (rmJ 0) (va_Pc [.int (nI i), .int (nI n), vF] (fun U => EvK sz adK adV vF U ∧ U.heap = Hs)) (jQ (some (.int (nI i))) Hs) 0 0 (fun _ => False) := by
  rcases hF with rfl | ⟨q0, rfl⟩
  · refine Met.ofW (cc := prog_22_method_11_code) (maxL := 3) (ret := (some .int)) (by decide) rfl ?_
    intro p e s m args below meth c s₁ B hml hv
    obtain ⟨rfl, hE, hHs⟩ := hv
    have hx := B.exec
    have hb := B.bytes
    have hr := B.returns
    have hts0 := atoms_spec (ws := wsJ ⟨"jdk/internal/util/Preconditions", "checkIndex", "(IILjava/util/function/BiFunction;)I"⟩ prog_22_method_11_code 3 (some .int)) B.pre
    have hts : ∀ w ∈ gTbl, w.before ([.int (nI i), .int (nI n), .null] : List Value).toArray s = true := fun w hw => hts0 w (List.mem_cons_of_mem _ hw)
    have hown : s.vm.findClass "jdk/internal/util/Preconditions" = some m.cls := findClass_of_methodNamed B.named
    have hlocks := B.notSynchronized
    have hS : va_S (fun q : Nat => sz ≤ q) s.heap s.heap [] := va_S.rf
    have hl := lv_entry ([.int (nI i), .int (nI n), .null]) (n := 3) (Nat.le_of_ble_eq_true rfl)
    rw [lg_entry_eq]
    generalize (lg_sl ([.int (nI i), .int (nI n), .null]) ++ List.replicate (3 - (lg_sl ([.int (nI i), .int (nI n), .null])).length) Slot.unset).toArray = ls at hl ⊢
    have hl : lv_has ls 3 [(0, .int (nI i)), (1, .int (nI n)), (2, .null)] := hl
    refine lv_iload_n hx hb dj_pre_0 rfl (lv_at hl 0 rfl) ?_
    refine lv_if_lt (tgt := 9) hx hb dj_pre_1 (by decide) (fun h => absurd h (nI_pos (by omega))) (fun _ => ?_)
    refine lv_iload_n hx hb dj_pre_4 rfl (lv_at hl 0 rfl) ?_
    refine lv_iload_n hx hb dj_pre_5 rfl (lv_at hl 1 rfl) ?_
    refine lv_icmp_lt (tgt := 16) hx hb dj_pre_6 (by decide) (fun _ => ?_) (fun h => absurd (nI_lt hi hn) h)
    refine lv_iload_n hx hb dj_pre_16 rfl (lv_at hl 0 rfl) ?_
    exact W.iret hx hb hr (fun t ht hW => ⟨rfl, ht.trans hHs⟩) (fun q h => by cases h) dj_pre_17
  · refine Met.ofW (cc := prog_22_method_11_code) (maxL := 3) (ret := (some .int)) (by decide) rfl ?_
    intro p e s m args below meth c s₁ B hml hv
    obtain ⟨rfl, hE, hHs⟩ := hv
    have hx := B.exec
    have hb := B.bytes
    have hr := B.returns
    have hts0 := atoms_spec (ws := wsJ ⟨"jdk/internal/util/Preconditions", "checkIndex", "(IILjava/util/function/BiFunction;)I"⟩ prog_22_method_11_code 3 (some .int)) B.pre
    have hts : ∀ w ∈ gTbl, w.before ([.int (nI i), .int (nI n), .ref q0] : List Value).toArray s = true := fun w hw => hts0 w (List.mem_cons_of_mem _ hw)
    have hown : s.vm.findClass "jdk/internal/util/Preconditions" = some m.cls := findClass_of_methodNamed B.named
    have hlocks := B.notSynchronized
    have hS : va_S (fun q : Nat => sz ≤ q) s.heap s.heap [] := va_S.rf
    have hl := lv_entry ([.int (nI i), .int (nI n), .ref q0]) (n := 3) (Nat.le_of_ble_eq_true rfl)
    rw [lg_entry_eq]
    generalize (lg_sl ([.int (nI i), .int (nI n), .ref q0]) ++ List.replicate (3 - (lg_sl ([.int (nI i), .int (nI n), .ref q0])).length) Slot.unset).toArray = ls at hl ⊢
    have hl : lv_has ls 3 [(0, .int (nI i)), (1, .int (nI n)), (2, .ref q0)] := hl
    refine lv_iload_n hx hb dj_pre_0 rfl (lv_at hl 0 rfl) ?_
    refine lv_if_lt (tgt := 9) hx hb dj_pre_1 (by decide) (fun h => absurd h (nI_pos (by omega))) (fun _ => ?_)
    refine lv_iload_n hx hb dj_pre_4 rfl (lv_at hl 0 rfl) ?_
    refine lv_iload_n hx hb dj_pre_5 rfl (lv_at hl 1 rfl) ?_
    refine lv_icmp_lt (tgt := 16) hx hb dj_pre_6 (by decide) (fun _ => ?_) (fun h => absurd (nI_lt hi hn) h)
    refine lv_iload_n hx hb dj_pre_16 rfl (lv_at hl 0 rfl) ?_
    exact W.iret hx hb hr (fun t ht hW => ⟨rfl, ht.trans hHs⟩) (fun q h => by cases h) dj_pre_17
theorem j_chk (l : Launch) (Hs : Heap) {i n : Nat} (hF : vF = .null ∨ ∃ q, vF = .ref q) (hi : i < n) (hn : n < 2 ^ 31) : Met l ⟨"java/lang/String", "checkIndex", "(II)V"⟩ (wsJ ⟨"java/lang/String", "checkIndex", "(II)V"⟩ prog_17_method_155_code 2 none) (rmJ 1) (va_Pc [.int (nI i), .int (nI n)] (fun U => EvK sz adK adV vF U ∧ U.heap = Hs)) (jQ none Hs) 0 0 (fun _ => False) := by
  have cat : vF.category = 1 := by rcases hF with rfl | ⟨q0, rfl⟩ <;> rfl
  refine Met.ofW (cc := prog_17_method_155_code) (maxL := 2) (ret := none) (by decide) rfl ?_
  intro p e s m args below meth c s₁ B hml hv
  obtain ⟨rfl, hE, hHs⟩ := hv
  have hx := B.exec
  have hb := B.bytes
  have hr := B.returns
  have hts0 := atoms_spec (ws := wsJ ⟨"java/lang/String", "checkIndex", "(II)V"⟩ prog_17_method_155_code 2 none) B.pre
  have hts : ∀ w ∈ gTbl, w.before ([.int (nI i), .int (nI n)] : List Value).toArray s = true := fun w hw => hts0 w (List.mem_cons_of_mem _ hw)
  have hown : s.vm.findClass "java/lang/String" = some m.cls := findClass_of_methodNamed B.named
  have hlocks := B.notSynchronized
  have hS : va_S (fun q : Nat => sz ≤ q) s.heap s.heap [] := va_S.rf
  have hl := lv_entry ([.int (nI i), .int (nI n)]) (n := 2) (Nat.le_of_ble_eq_true rfl)
  rw [lg_entry_eq]
  generalize (lg_sl ([.int (nI i), .int (nI n)]) ++ List.replicate (2 - (lg_sl ([.int (nI i), .int (nI n)])).length) Slot.unset).toArray = ls at hl ⊢
  have hl : lv_has ls 2 [(0, .int (nI i)), (1, .int (nI n))] := hl
  refine lv_iload_n hx hb dj_chk_0 rfl (lv_at hl 0 rfl) ?_
  refine lv_iload_n hx hb dj_chk_1 rfl (lv_at hl 1 rfl) ?_
  refine va_gets hx hb hE.2.2.1 hS hown (hts _ (gTbl_in (w := .fieldLink "java/lang/String" 1053 "jdk/internal/util/Preconditions" "SIOOBE_FORMATTER" "Ljava/util/function/BiFunction;") (me_2 (List.mem_of_getElem? (i := 77) rfl)) rfl)) (fun x h => h) dj_chk_2 ?_
  have cwv := callB_of (R := (headSpec (wsJ ⟨"java/lang/String", "checkIndex", "(II)V"⟩ prog_17_method_155_code 2 none) (rmJ 1)).room) (Ts := gTbl) (own := "java/lang/String") (index := 1059) (rm := rmJ 0) (mc := 0) (ms := 0) 3 hts (gTbl_good (wsJ_in (me_2 (List.mem_of_getElem? (i := 81) rfl)))) (ws := wsJ ⟨"jdk/internal/util/Preconditions", "checkIndex", "(IILjava/util/function/BiFunction;)I"⟩ prog_22_method_11_code 3 (some .int)) rfl rfl rfl (hts _ (gTbl_in (w := .initialized "jdk/internal/util/Preconditions") (me_1 (List.mem_of_getElem? (i := 12) rfl)) rfl)) (hts _ (gTbl_in (w := .methodLink "java/lang/String" 1059 ⟨"jdk/internal/util/Preconditions", "checkIndex", "(IILjava/util/function/BiFunction;)I"⟩) (me_2 (List.mem_of_getElem? (i := 79) rfl)) rfl)) ⟨by decide +kernel, by decide +kernel, by decide +kernel⟩ ⟨by show 0 + 1 ≤ 1; omega, by show 8 + (3 + 11) + 60 * 0 ≤ 60 * 1; omega⟩
  have hrun := va_runS (H := s.heap) (g := F0 m 5 ls [vF, .int (nI n), .int (nI i)]) (As := [.int (nI i), .int (nI n), vF]) (rest := []) (cells := 0) (slots := 0) (locs := []) (below := below) (meth := meth) (e := e) ⟨hx, hb, hml, hown, hts⟩ (j_pre (sz := sz) (adK := adK) (adV := adV) (vF := vF) l s.heap hF hi hn) ⟨cwv, (hts _ (gTbl_in (w := .static ⟨"jdk/internal/util/Preconditions", "checkIndex", "(IILjava/util/function/BiFunction;)I"⟩) (me_2 (List.mem_of_getElem? (i := 80) rfl)) rfl))⟩ ⟨EvK.blind, (fun U hU hW => ⟨rfl, EvK.go hE hW (by rw [hU]; exact Nat.le_refl _) (fun q h1 h2 => by rw [hU]), hU⟩)⟩ rfl rfl hl.1 rfl (lv_room (by decide)) dj_chk_5 ⟨Nat.le_refl _, Nat.le_refl _⟩
  refine run_i hrun ?_
  refine lv_pop hx hb dj_chk_8 rfl ?_
  exact W.vret hx hb hr (fun t ht hW => ⟨rfl, ht.trans hHs⟩) (fun q h => by cases h) dj_chk_9
theorem j_l1c (l : Launch) (Hs : Heap) {i j : Nat} (hF : vF = .null ∨ ∃ q, vF = .ref q) (hi : i < 2) (hj : j < lenK.getD i 0) : Met l ⟨"java/lang/StringLatin1", "charAt", "([BI)C"⟩ (wsJ ⟨"java/lang/StringLatin1", "charAt", "([BI)C"⟩ prog_18_method_2_code 2 (some .char)) (rmJ 2) (va_Pc [.ref (adV i), .int (nI j)] (fun U => EvK sz adK adV vF U ∧ U.heap = Hs)) (jQ (some (.int (nI ((strC i).getD j 0)))) Hs) 0 0 (fun _ => False) := by
  obtain ⟨n1, n2, n3, n4⟩ := ln_ok i hi
  obtain ⟨c1, c2⟩ := ch_ok i hi j hj
  refine Met.ofW (cc := prog_18_method_2_code) (maxL := 2) (ret := (some .char)) (by decide) rfl ?_
  intro p e s m args below meth c s₁ B hml hv
  obtain ⟨rfl, hE, hHs⟩ := hv
  have hx := B.exec
  have hb := B.bytes
  have hr := B.returns
  have hts0 := atoms_spec (ws := wsJ ⟨"java/lang/StringLatin1", "charAt", "([BI)C"⟩ prog_18_method_2_code 2 (some .char)) B.pre
  have hts : ∀ w ∈ gTbl, w.before ([.ref (adV i), .int (nI j)] : List Value).toArray s = true := fun w hw => hts0 w (List.mem_cons_of_mem _ hw)
  have hown : s.vm.findClass "java/lang/StringLatin1" = some m.cls := findClass_of_methodNamed B.named
  have hlocks := B.notSynchronized
  have hS : va_S (fun q : Nat => sz ≤ q) s.heap s.heap [] := va_S.rf
  have hl := lv_entry ([.ref (adV i), .int (nI j)]) (n := 2) (Nat.le_of_ble_eq_true rfl)
  rw [lg_entry_eq]
  generalize (lg_sl ([.ref (adV i), .int (nI j)]) ++ List.replicate (2 - (lg_sl ([.ref (adV i), .int (nI j)])).length) Slot.unset).toArray = ls at hl ⊢
  have hl : lv_has ls 2 [(0, .ref (adV i)), (1, .int (nI j))] := hl
  have hT := (hE.1.1 i hi).2.2.2
  refine lv_iload_n hx hb dj_l1c_0 rfl (lv_at hl 1 rfl) ?_
  refine lv_aload_n hx hb dj_l1c_1 rfl (lv_at hl 0 rfl) ?_
  refine va_tlen hx hb hT hS n3 dj_l1c_2 ?_
  have cwv := callB_of (R := (headSpec (wsJ ⟨"java/lang/StringLatin1", "charAt", "([BI)C"⟩ prog_18_method_2_code 2 (some .char)) (rmJ 2)).room) (Ts := gTbl) (own := "java/lang/StringLatin1") (index := 9) (rm := rmJ 1) (mc := 0) (ms := 0) 2 hts (gTbl_good (wsJ_in (me_2 (List.mem_of_getElem? (i := 76) rfl)))) (ws := wsJ ⟨"java/lang/String", "checkIndex", "(II)V"⟩ prog_17_method_155_code 2 none) rfl rfl rfl (hts _ (gTbl_in (w := .initialized "java/lang/String") (me_1 (List.mem_of_getElem? (i := 10) rfl)) rfl)) (hts _ (gTbl_in (w := .methodLink "java/lang/StringLatin1" 9 ⟨"java/lang/String", "checkIndex", "(II)V"⟩) (me_2 (List.mem_of_getElem? (i := 74) rfl)) rfl)) ⟨by decide +kernel, by decide +kernel, by decide +kernel⟩ ⟨by show 1 + 1 ≤ 2; omega, by show 8 + (2 + 11) + 60 * 1 ≤ 60 * 2; omega⟩
  have hrun := va_runS (H := s.heap) (g := F0 m 3 ls [.int (nI (lenK.getD i 0)), .int (nI j)]) (As := [.int (nI j), .int (nI (lenK.getD i 0))]) (rest := []) (cells := 0) (slots := 0) (locs := []) (below := below) (meth := meth) (e := e) ⟨hx, hb, hml, hown, hts⟩ (j_chk (sz := sz) (adK := adK) (adV := adV) (vF := vF) l s.heap hF hj (by omega)) ⟨cwv, (hts _ (gTbl_in (w := .static ⟨"java/lang/String", "checkIndex", "(II)V"⟩) (me_2 (List.mem_of_getElem? (i := 75) rfl)) rfl))⟩ ⟨EvK.blind, (fun U hU hW => ⟨rfl, EvK.go hE hW (by rw [hU]; exact Nat.le_refl _) (fun q h1 h2 => by rw [hU]), hU⟩)⟩ rfl rfl hl.1 rfl (lv_room (by decide)) dj_l1c_3 ⟨Nat.le_refl _, Nat.le_refl _⟩
  refine run_v hrun ?_
  refine lv_aload_n hx hb dj_l1c_6 rfl (lv_at hl 0 rfl) ?_
  refine lv_iload_n hx hb dj_l1c_7 rfl (lv_at hl 1 rfl) ?_
  refine va_tb (v := .int ((bytK.getD i []).getD j 0)) hx hb hT hS (nI_in hj (by omega)) (by simp only [nI_clamp (show j < 2 ^ 31 by omega)]) dj_l1c_8 ?_
  refine lv_sipush (v := 255) hx hb dj_l1c_9 (by decide) ?_
  refine lv_iand hx hb dj_l1c_12 ?_
  refine lv_i2c hx hb dj_l1c_13 c1 ?_
  exact W.zret hx hb hr (pk_charN (by omega)).1 (fun t ht hW => ⟨rfl, ht.trans hHs⟩) (fun q h => by cases h) dj_l1c_14
theorem j_lat (l : Launch) (Hs : Heap) {i : Nat} (hi : i < 2) : Met l ⟨"java/lang/String", "isLatin1", "()Z"⟩ (wsJ ⟨"java/lang/String", "isLatin1", "()Z"⟩ prog_17_method_154_code 1 (some .boolean)) (rmJ 0) (va_Pc [.ref (adK i)] (fun U => EvK sz adK adV vF U ∧ U.heap = Hs)) (jQ (some (.int (1))) Hs) 0 0 (fun _ => False) := by
  refine Met.ofW (cc := prog_17_method_154_code) (maxL := 1) (ret := (some .boolean)) (by decide) rfl ?_
  intro p e s m args below meth c s₁ B hml hv
  obtain ⟨rfl, hE, hHs⟩ := hv
  have hx := B.exec
  have hb := B.bytes
  have hr := B.returns
  have hts0 := atoms_spec (ws := wsJ ⟨"java/lang/String", "isLatin1", "()Z"⟩ prog_17_method_154_code 1 (some .boolean)) B.pre
  have hts : ∀ w ∈ gTbl, w.before ([.ref (adK i)] : List Value).toArray s = true := fun w hw => hts0 w (List.mem_cons_of_mem _ hw)
  have hown : s.vm.findClass "java/lang/String" = some m.cls := findClass_of_methodNamed B.named
  have hlocks := B.notSynchronized
  have hS : va_S (fun q : Nat => sz ≤ q) s.heap s.heap [] := va_S.rf
  have hl := lv_entry ([.ref (adK i)]) (n := 1) (Nat.le_of_ble_eq_true rfl)
  rw [lg_entry_eq]
  generalize (lg_sl ([.ref (adK i)]) ++ List.replicate (1 - (lg_sl ([.ref (adK i)])).length) Slot.unset).toArray = ls at hl ⊢
  have hl : lv_has ls 1 [(0, .ref (adK i))] := hl
  refine va_gets hx hb hE.2.1 hS hown (hts _ (gTbl_in (w := .fieldLink "java/lang/String" 38 "java/lang/String" "COMPACT_STRINGS" "Z") (me_2 (List.mem_of_getElem? (i := 61) rfl)) rfl)) (fun x h => h) dj_lat_0 ?_
  refine lv_if_eq (tgt := 17) hx hb dj_lat_3 (by decide) (fun h => absurd h (by decide)) (fun _ => ?_)
  refine lv_aload_n hx hb dj_lat_6 rfl (lv_at hl 0 rfl) ?_
  refine vk_getf hx hb (hE.1.1 i hi).2.1 hS hown (hts _ (gTbl_in (w := .fieldLink "java/lang/String" 15 "java/lang/String" "coder" "B") (me_10 (List.mem_of_getElem? (i := 85) rfl)) rfl)) (fun x h => h) dj_lat_7 ?_
  refine lv_if_ne (tgt := 17) hx hb dj_lat_10 (by decide) (fun h => absurd rfl h) (fun _ => ?_)
  refine lv_iconst (v := 1) hx hb dj_lat_13 (by decide) ?_
  refine lv_goto (tgt := 18) hx hb dj_lat_14 (by decide) ?_
  exact W.zret hx hb hr (by decide) (fun t ht hW => ⟨rfl, ht.trans hHs⟩) (fun q h => by cases h) dj_lat_18
theorem j_cod (l : Launch) (Hs : Heap) {i : Nat} (hi : i < 2) : Met l ⟨"java/lang/String", "coder", "()B"⟩ (wsJ ⟨"java/lang/String", "coder", "()B"⟩ prog_17_method_152_code 1 (some .byte)) (rmJ 0) (va_Pc [.ref (adK i)] (fun U => EvK sz adK adV vF U ∧ U.heap = Hs)) (jQ (some (.int (0))) Hs) 0 0 (fun _ => False) := by
  refine Met.ofW (cc := prog_17_method_152_code) (maxL := 1) (ret := (some .byte)) (by decide) rfl ?_
  intro p e s m args below meth c s₁ B hml hv
  obtain ⟨rfl, hE, hHs⟩ := hv
  have hx := B.exec
  have hb := B.bytes
  have hr := B.returns
  have hts0 := atoms_spec (ws := wsJ ⟨"java/lang/String", "coder", "()B"⟩ prog_17_method_152_code 1 (some .byte)) B.pre
  have hts : ∀ w ∈ gTbl, w.before ([.ref (adK i)] : List Value).toArray s = true := fun w hw => hts0 w (List.mem_cons_of_mem _ hw)
  have hown : s.vm.findClass "java/lang/String" = some m.cls := findClass_of_methodNamed B.named
  have hlocks := B.notSynchronized
  have hS : va_S (fun q : Nat => sz ≤ q) s.heap s.heap [] := va_S.rf
  have hl := lv_entry ([.ref (adK i)]) (n := 1) (Nat.le_of_ble_eq_true rfl)
  rw [lg_entry_eq]
  generalize (lg_sl ([.ref (adK i)]) ++ List.replicate (1 - (lg_sl ([.ref (adK i)])).length) Slot.unset).toArray = ls at hl ⊢
  have hl : lv_has ls 1 [(0, .ref (adK i))] := hl
  refine va_gets hx hb hE.2.1 hS hown (hts _ (gTbl_in (w := .fieldLink "java/lang/String" 38 "java/lang/String" "COMPACT_STRINGS" "Z") (me_2 (List.mem_of_getElem? (i := 61) rfl)) rfl)) (fun x h => h) dj_cod_0 ?_
  refine lv_if_eq (tgt := 13) hx hb dj_cod_3 (by decide) (fun h => absurd h (by decide)) (fun _ => ?_)
  refine lv_aload_n hx hb dj_cod_6 rfl (lv_at hl 0 rfl) ?_
  refine vk_getf hx hb (hE.1.1 i hi).2.1 hS hown (hts _ (gTbl_in (w := .fieldLink "java/lang/String" 15 "java/lang/String" "coder" "B") (me_10 (List.mem_of_getElem? (i := 85) rfl)) rfl)) (fun x h => h) dj_cod_7 ?_
  refine lv_goto (tgt := 14) hx hb dj_cod_10 (by decide) ?_
  exact W.zret hx hb hr (by decide) (fun t ht hW => ⟨rfl, ht.trans hHs⟩) (fun q h => by cases h) dj_cod_14
theorem j_len (l : Launch) (Hs : Heap) {i : Nat} (hi : i < 2) : Met l ⟨"java/lang/String", "length", "()I"⟩ (wsJ ⟨"java/lang/String", "length", "()I"⟩ prog_17_method_54_code 1 (some .int)) (rmJ 1) (va_Pc [.ref (adK i)] (fun U => EvK sz adK adV vF U ∧ U.heap = Hs)) (jQ (some (.int (nI (strC i).length))) Hs) 0 0 (fun _ => False) := by
  obtain ⟨n1, n2, n3, n4⟩ := ln_ok i hi
  refine Met.ofW (cc := prog_17_method_54_code) (maxL := 1) (ret := (some .int)) (by decide) rfl ?_
  intro p e s m args below meth c s₁ B hml hv
  obtain ⟨rfl, hE, hHs⟩ := hv
  have hx := B.exec
  have hb := B.bytes
  have hr := B.returns
  have hts0 := atoms_spec (ws := wsJ ⟨"java/lang/String", "length", "()I"⟩ prog_17_method_54_code 1 (some .int)) B.pre
  have hts : ∀ w ∈ gTbl, w.before ([.ref (adK i)] : List Value).toArray s = true := fun w hw => hts0 w (List.mem_cons_of_mem _ hw)
  have hown : s.vm.findClass "java/lang/String" = some m.cls := findClass_of_methodNamed B.named
  have hlocks := B.notSynchronized
  have hS : va_S (fun q : Nat => sz ≤ q) s.heap s.heap [] := va_S.rf
  have hl := lv_entry ([.ref (adK i)]) (n := 1) (Nat.le_of_ble_eq_true rfl)
  rw [lg_entry_eq]
  generalize (lg_sl ([.ref (adK i)]) ++ List.replicate (1 - (lg_sl ([.ref (adK i)])).length) Slot.unset).toArray = ls at hl ⊢
  have hl : lv_has ls 1 [(0, .ref (adK i))] := hl
  refine lv_aload_n hx hb dj_len_0 rfl (lv_at hl 0 rfl) ?_
  refine vk_getf hx hb (hE.1.1 i hi).2.2.1 hS hown (hts _ (gTbl_in (w := .fieldLink "java/lang/String" 9 "java/lang/String" "value" "[B") (me_10 (List.mem_of_getElem? (i := 84) rfl)) rfl)) (fun x h => h) dj_len_1 ?_
  refine va_tlen hx hb (hE.1.1 i hi).2.2.2 hS n3 dj_len_4 ?_
  refine lv_aload_n hx hb dj_len_5 rfl (lv_at hl 0 rfl) ?_
  have cwv := callB_of (R := (headSpec (wsJ ⟨"java/lang/String", "length", "()I"⟩ prog_17_method_54_code 1 (some .int)) (rmJ 1)).room) (Ts := gTbl) (own := "java/lang/String") (index := 335) (rm := rmJ 0) (mc := 0) (ms := 0) 0 hts (gTbl_good (wsJ_in (me_2 (List.mem_of_getElem? (i := 60) rfl)))) (ws := wsJ ⟨"java/lang/String", "coder", "()B"⟩ prog_17_method_152_code 1 (some .byte)) rfl rfl rfl (hts _ (gTbl_in (w := .initialized "java/lang/String") (me_1 (List.mem_of_getElem? (i := 10) rfl)) rfl)) (hts _ (gTbl_in (w := .methodLink "java/lang/String" 335 ⟨"java/lang/String", "coder", "()B"⟩) (me_2 (List.mem_of_getElem? (i := 57) rfl)) rfl)) ⟨by decide +kernel, by decide +kernel, by decide +kernel⟩ ⟨by show 0 + 1 ≤ 1; omega, by show 8 + (1 + 11) + 60 * 0 ≤ 60 * 1; omega⟩
  have hrun := va_runV (H := s.heap) (C := "java/lang/String") (g := F0 m 6 ls [.ref (adK i), .int (nI (lenK.getD i 0))]) (b := adK i) (As := []) (rest := [.int (nI (lenK.getD i 0))]) (cells := 0) (slots := 0) (locs := []) (below := below) (meth := meth) (e := e) ⟨hx, hb, hml, hown, hts⟩ (j_cod (sz := sz) (adK := adK) (adV := adV) (vF := vF) l s.heap hi) ⟨cwv, (hts _ (gTbl_in (w := .instanceMethod ⟨"java/lang/String", "coder", "()B"⟩) (me_2 (List.mem_of_getElem? (i := 58) rfl)) rfl)), (hts _ (gTbl_in (w := .selects "java/lang/String" ⟨"java/lang/String", "coder", "()B"⟩ ⟨"java/lang/String", "coder", "()B"⟩) (me_2 (List.mem_of_getElem? (i := 59) rfl)) rfl))⟩ ⟨EvK.blind, vk_recv hE.1 hi hS, (fun U hU hW => ⟨rfl, EvK.go hE hW (by rw [hU]; exact Nat.le_refl _) (fun q h1 h2 => by rw [hU]), hU⟩)⟩ rfl rfl hl.1 rfl (lv_room (by simp [Value.category])) dj_len_6 ⟨Nat.le_refl _, Nat.le_refl _⟩
  refine run_i hrun ?_
  refine lv_ishr hx hb dj_len_9 ?_
  rw [n4]
  exact W.iret hx hb hr (fun t ht hW => ⟨rfl, ht.trans hHs⟩) (fun q h => by cases h) dj_len_10
theorem j_cha (l : Launch) (Hs : Heap) {i j : Nat} (hF : vF = .null ∨ ∃ q, vF = .ref q) (hi : i < 2) (hj : j < lenK.getD i 0) : Met l ⟨"java/lang/String", "charAt", "(I)C"⟩ (wsJ ⟨"java/lang/String", "charAt", "(I)C"⟩ prog_17_method_56_code 2 (some .char)) (rmJ 3) (va_Pc [.ref (adK i), .int (nI j)] (fun U => EvK sz adK adV vF U ∧ U.heap = Hs)) (jQ (some (.int (nI ((strC i).getD j 0)))) Hs) 0 0 (fun _ => False) := by
  obtain ⟨c1, c2⟩ := ch_ok i hi j hj
  refine Met.ofW (cc := prog_17_method_56_code) (maxL := 2) (ret := (some .char)) (by decide) rfl ?_
  intro p e s m args below meth c s₁ B hml hv
  obtain ⟨rfl, hE, hHs⟩ := hv
  have hx := B.exec
  have hb := B.bytes
  have hr := B.returns
  have hts0 := atoms_spec (ws := wsJ ⟨"java/lang/String", "charAt", "(I)C"⟩ prog_17_method_56_code 2 (some .char)) B.pre
  have hts : ∀ w ∈ gTbl, w.before ([.ref (adK i), .int (nI j)] : List Value).toArray s = true := fun w hw => hts0 w (List.mem_cons_of_mem _ hw)
  have hown : s.vm.findClass "java/lang/String" = some m.cls := findClass_of_methodNamed B.named
  have hlocks := B.notSynchronized
  have hS : va_S (fun q : Nat => sz ≤ q) s.heap s.heap [] := va_S.rf
  have hl := lv_entry ([.ref (adK i), .int (nI j)]) (n := 2) (Nat.le_of_ble_eq_true rfl)
  rw [lg_entry_eq]
  generalize (lg_sl ([.ref (adK i), .int (nI j)]) ++ List.replicate (2 - (lg_sl ([.ref (adK i), .int (nI j)])).length) Slot.unset).toArray = ls at hl ⊢
  have hl : lv_has ls 2 [(0, .ref (adK i)), (1, .int (nI j))] := hl
  refine lv_aload_n hx hb dj_cha_0 rfl (lv_at hl 0 rfl) ?_
  have cwv := callB_of (R := (headSpec (wsJ ⟨"java/lang/String", "charAt", "(I)C"⟩ prog_17_method_56_code 2 (some .char)) (rmJ 3)).room) (Ts := gTbl) (own := "java/lang/String") (index := 492) (rm := rmJ 0) (mc := 0) (ms := 0) 0 hts (gTbl_good (wsJ_in (me_2 (List.mem_of_getElem? (i := 70) rfl)))) (ws := wsJ ⟨"java/lang/String", "isLatin1", "()Z"⟩ prog_17_method_154_code 1 (some .boolean)) rfl rfl rfl (hts _ (gTbl_in (w := .initialized "java/lang/String") (me_1 (List.mem_of_getElem? (i := 10) rfl)) rfl)) (hts _ (gTbl_in (w := .methodLink "java/lang/String" 492 ⟨"java/lang/String", "isLatin1", "()Z"⟩) (me_2 (List.mem_of_getElem? (i := 67) rfl)) rfl)) ⟨by decide +kernel, by decide +kernel, by decide +kernel⟩ ⟨by show 0 + 1 ≤ 3; omega, by show 8 + (1 + 11) + 60 * 0 ≤ 60 * 3; omega⟩
  have hrun := va_runV (H := s.heap) (C := "java/lang/String") (g := F0 m 1 ls [.ref (adK i)]) (b := adK i) (As := []) (rest := []) (cells := 0) (slots := 0) (locs := []) (below := below) (meth := meth) (e := e) ⟨hx, hb, hml, hown, hts⟩ (j_lat (sz := sz) (adK := adK) (adV := adV) (vF := vF) l s.heap hi) ⟨cwv, (hts _ (gTbl_in (w := .instanceMethod ⟨"java/lang/String", "isLatin1", "()Z"⟩) (me_2 (List.mem_of_getElem? (i := 68) rfl)) rfl)), (hts _ (gTbl_in (w := .selects "java/lang/String" ⟨"java/lang/String", "isLatin1", "()Z"⟩ ⟨"java/lang/String", "isLatin1", "()Z"⟩) (me_2 (List.mem_of_getElem? (i := 69) rfl)) rfl))⟩ ⟨EvK.blind, vk_recv hE.1 hi hS, (fun U hU hW => ⟨rfl, EvK.go hE hW (by rw [hU]; exact Nat.le_refl _) (fun q h1 h2 => by rw [hU]), hU⟩)⟩ rfl rfl hl.1 rfl (lv_room (by simp [Value.category])) dj_cha_1 ⟨Nat.le_refl _, Nat.le_refl _⟩
  refine run_i hrun ?_
  refine lv_if_eq (tgt := 16) hx hb dj_cha_4 (by decide) (fun h => absurd h (by decide)) (fun _ => ?_)
  refine lv_aload_n hx hb dj_cha_7 rfl (lv_at hl 0 rfl) ?_
  refine vk_getf hx hb (hE.1.1 i hi).2.2.1 hS hown (hts _ (gTbl_in (w := .fieldLink "java/lang/String" 9 "java/lang/String" "value" "[B") (me_10 (List.mem_of_getElem? (i := 84) rfl)) rfl)) (fun x h => h) dj_cha_8 ?_
  refine lv_iload_n hx hb dj_cha_11 rfl (lv_at hl 1 rfl) ?_
  clear cwv hrun
  have cwv := callB_of (R := (headSpec (wsJ ⟨"java/lang/String", "charAt", "(I)C"⟩ prog_17_method_56_code 2 (some .char)) (rmJ 3)).room) (Ts := gTbl) (own := "java/lang/String") (index := 495) (rm := rmJ 2) (mc := 0) (ms := 0) 2 hts (gTbl_good (wsJ_in (me_2 (List.mem_of_getElem? (i := 73) rfl)))) (ws := wsJ ⟨"java/lang/StringLatin1", "charAt", "([BI)C"⟩ prog_18_method_2_code 2 (some .char)) rfl rfl rfl (hts _ (gTbl_in (w := .initialized "java/lang/StringLatin1") (me_1 (List.mem_of_getElem? (i := 11) rfl)) rfl)) (hts _ (gTbl_in (w := .methodLink "java/lang/String" 495 ⟨"java/lang/StringLatin1", "charAt", "([BI)C"⟩) (me_2 (List.mem_of_getElem? (i := 71) rfl)) rfl)) ⟨by decide +kernel, by decide +kernel, by decide +kernel⟩ ⟨by show 2 + 1 ≤ 3; omega, by show 8 + (2 + 11) + 60 * 2 ≤ 60 * 3; omega⟩
  have hrun := va_runS (H := s.heap) (g := F0 m 12 ls [.int (nI j), .ref (adV i)]) (As := [.ref (adV i), .int (nI j)]) (rest := []) (cells := 0) (slots := 0) (locs := []) (below := below) (meth := meth) (e := e) ⟨hx, hb, hml, hown, hts⟩ (j_l1c (sz := sz) (adK := adK) (adV := adV) (vF := vF) l s.heap hF hi hj) ⟨cwv, (hts _ (gTbl_in (w := .static ⟨"java/lang/StringLatin1", "charAt", "([BI)C"⟩) (me_2 (List.mem_of_getElem? (i := 72) rfl)) rfl))⟩ ⟨EvK.blind, (fun U hU hW => ⟨rfl, EvK.go hE hW (by rw [hU]; exact Nat.le_refl _) (fun q h1 h2 => by rw [hU]), hU⟩)⟩ rfl rfl hl.1 rfl (lv_room (by decide)) dj_cha_12 ⟨Nat.le_refl _, Nat.le_refl _⟩
  refine run_i hrun ?_
  exact W.zret hx hb hr (pk_charN (by omega)).1 (fun t ht hW => ⟨rfl, ht.trans hHs⟩) (fun q h => by cases h) dj_cha_15
end STR

