/-! One answer: what WP says is said of one end. A moment of the model. -/
theorem wpT_det {k : Nat} {s : mSt} {Q1 : mQ} (h : wpT k s Q1) : ∀ Q2 : mQ, wpT k s Q2 → ∃ v S I L R, Q1 v S I L R ∧ Q2 v S I L R := by
  refine h (fun k s Q1 => ∀ Q2 : mQ, wpT k s Q2 → ∃ v S I L R, Q1 v S I L R ∧ Q2 v S I L R) ?_
  intro k s Q1 hF Q2 h2
  have h3 := wpT_unfold k s Q2 h2
  unfold mF at hF h3
  cases hm : mx k s with
  | none => rw [hm] at hF; exact hF.elim
  | some r =>
    rw [hm] at hF h3
    match r, hF, h3 with
    | .inl s', hF, h3 => exact hF _ h3
    | .inr (.inl v), hF, h3 => exact ⟨_, _, _, _, _, hF, h3⟩
    | .inr (.inr (k', as, rest)), ⟨Q', h4, h5⟩, ⟨Q'', h6, h7⟩ =>
      obtain ⟨v, S, I, L, R, h8, h9⟩ := h4 Q'' h6
      exact h5 v S I L R h8 Q2 (h7 v S I L R h9)
theorem WP_det {ρ : mB} {k pc : Nat} {ls : mV} {st : List Value} {S S2 : mS} {I I2 : mI} {L L2 : mL} {R R2 : mR} {v : Option Value} (h : ∀ Q : mQ, Q v S2 I2 L2 R2 → WP ρ k pc ls st S I L R Q) (Q : mQ) : WP ρ k pc ls st S I L R Q = Q v S2 I2 L2 R2 := by
  refine propext ⟨fun hw => ?_, h Q⟩
  obtain ⟨v', S', I', L', R', h1, h2⟩ := wpT_det (h (fun v' S' I' L' R' => v' = v ∧ S' = S2 ∧ I' = I2 ∧ L' = L2 ∧ R' = R2) ⟨rfl, rfl, rfl, rfl, rfl⟩) Q hw
  obtain ⟨rfl, rfl, rfl, rfl, rfl⟩ := h1
  exact h2
theorem CA_det {d k : Nat} {as : List Value} {S S2 : mS} {I I2 : mI} {L L2 : mL} {R R2 : mR} {v : Option Value} (h : ∀ Q : mQ, Q v S2 I2 L2 R2 → CA d k as S I L R Q) (Q : mQ) : CA d k as S I L R Q = Q v S2 I2 L2 R2 := WP_det h Q
theorem nx_or (a b : Nat) : nI a ||| nI b = nI (a ||| b) := by
  unfold nI
  apply Int32.toBitVec_inj.mp
  rw [Int32.toBitVec_or]
  show BitVec.ofNat 32 a ||| BitVec.ofNat 32 b = BitVec.ofNat 32 (a ||| b)
  apply BitVec.eq_of_toNat_eq
  simp [Nat.or_mod_two_pow]
theorem sh1 : ∀ w, w < 31 → nI 1 <<< (nI w &&& 31) = nI (2 ^ w) := by decide +kernel
/-- places that a moment doesn't touch -/
def keepJ (j : Nat) : Prop := j < 4 ∨ (6 ≤ j ∧ j < 186 ∧ j % 6 ≠ 0) ∨ (186 ≤ j ∧ (j - 186) % 14 ≠ 6 ∧ (j - 186) % 14 ≠ 10 ∧ (j - 186) % 14 ≠ 13)
def much (A : AS) (al w : Nat) : Nat := if al < 8 ∧ w = al / 2 then burd A w else (burd A w + 1) / 2
def mvS (al : Nat) (A : AS) (s : Nat) : AS := if wI A (s / 2) 6 = 1 ∨ s = al then A else if bearF A (s / 2) (s % 2) (much A al (s / 2)) = true then va_up (bearA A (s / 2) (s % 2) (much A al (s / 2))) (186 + 14 * (s / 2) + 6) 1 else bearA A (s / 2) (s % 2) (much A al (s / 2))
def mvF (al : Nat) (A : AS) (s : Nat) : Bool := decide (¬ (wI A (s / 2) 6 = 1 ∨ s = al)) && bearF A (s / 2) (s % 2) (much A al (s / 2))
def bearN (al : Nat) (A : AS) : Nat → AS
  | 0 => A
  | s + 1 => mvS al (bearN al A s) s
def setN (al : Nat) (A : AS) : Nat → Nat
  | 0 => 0
  | s + 1 => if mvF al (bearN al A s) s = true then setN al A s ||| 2 ^ (s / 2) else setN al A s
theorem bearA_keep {A : AS} {w p u j : Nat} (hw : w < 4) (hp : p < 2) (hc : pcl A w p < 30) (hj : keepJ j) : bearA A w p u j = A j := by
  unfold bearA
  unfold keepJ at hj
  split
  · rfl
  · split
    · exact va_up_ne _ _ (by omega)
    · split
      · refine va_up_ne _ _ ?_
        have hp2 : p = 0 ∨ p = 1 := by omega
        rcases hp2 with rfl | rfl <;> omega
      · rfl
theorem mvS_keep {A : AS} {al s j : Nat} (hs : s < 8) (hc : pcl A (s / 2) (s % 2) < 30) (hj : keepJ j) : mvS al A s j = A j := by
  unfold mvS
  split
  · rfl
  · split
    · rw [va_up_ne _ _ (by unfold keepJ at hj; omega)]
      exact bearA_keep (by omega) (by omega) hc hj
    · exact bearA_keep (by omega) (by omega) hc hj
theorem keep_p0 {w p : Nat} (hw : w < 4) (hp : p < 2) : keepJ (186 + 14 * w + 8 + 3 * p + 0) := by
  have hp2 : p = 0 ∨ p = 1 := by omega
  unfold keepJ; rcases hp2 with rfl | rfl <;> omega
theorem keep_p1 {w p : Nat} (hw : w < 4) (hp : p < 2) : keepJ (186 + 14 * w + 8 + 3 * p + 1) := by
  have hp2 : p = 0 ∨ p = 1 := by omega
  unfold keepJ; rcases hp2 with rfl | rfl <;> omega
/-- all poles stand in cells -/
def polesIn30 (A : AS) : Prop := ∀ w p, w < 4 → p < 2 → pcl A w p < 30
theorem pcl_keep {A B : AS} (h : ∀ j, keepJ j → B j = A j) {w p : Nat} (hw : w < 4) (hp : p < 2) : pcl B w p = pcl A w p := by
  unfold pcl pI
  rw [h _ (keep_p1 hw hp), h _ (keep_p0 hw hp)]
theorem burd_keep {A B : AS} (h : ∀ j, keepJ j → B j = A j) {w : Nat} (hw : w < 4) : burd B w = burd A w := by
  unfold burd wI
  rw [h _ (by unfold keepJ; omega), h _ (by unfold keepJ; omega)]
theorem bearN_keep {A : AS} {al : Nat} (hc : polesIn30 A) : ∀ s, s ≤ 8 → ∀ j, keepJ j → bearN al A s j = A j
  | 0, _, j, _ => rfl
  | s + 1, hs, j, hj => by
    have ih := bearN_keep (al := al) hc s (by omega)
    show mvS al (bearN al A s) s j = A j
    rw [mvS_keep (by omega) (by rw [pcl_keep ih (by omega) (by omega)]; exact hc _ _ (by omega) (by omega)) hj]
    exact ih j hj
theorem smallA_mv {A : AS} {al s : Nat} (h : smallA A) (hb : burd A (s / 2) < 900) : smallA (mvS al A s) := by
  have hu : much A al (s / 2) < 1000 := by unfold much; split <;> omega
  unfold mvS
  split
  · exact h
  · split
    · exact smallA_up (smallA_bear h hu) (by omega)
    · exact smallA_bear h hu
theorem smallA_bearN {A : AS} {al : Nat} (h : smallA A) (hc : polesIn30 A) (hb : ∀ w, w < 4 → burd A w < 900) : ∀ s, s ≤ 8 → smallA (bearN al A s)
  | 0, _ => h
  | s + 1, hs => by
    refine smallA_mv (smallA_bearN h hc hb s (by omega)) ?_
    rw [burd_keep (bearN_keep hc s (by omega)) (by omega)]
    exact hb _ (by omega)
theorem setN_lt {A : AS} {al : Nat} : ∀ s, s ≤ 8 → setN al A s < 16
  | 0, _ => by show 0 < 16; decide
  | s + 1, hs => by
    have ih := setN_lt (A := A) (al := al) s (by omega)
    unfold setN
    split
    · exact Nat.or_lt_two_pow (n := 4) ih (Nat.pow_lt_pow_right (by decide) (by omega))
    · exact ih
section M3
variable {S : mS} {I : mI} {L : mL} {R : mR} {Q : mQ} {d m : Nat} {A : AS}
def airOK (al : Nat) (x y : Int32) : Prop := (al = 99 ∧ x = -1) ∨ (al < 8 ∧ x = nI (al / 2) ∧ y = nI (al % 2))
theorem air_w {al w : Nat} {x y : Int32} (h : airOK al x y) (hw : w < 4) : (nI w = x) = (al < 8 ∧ w = al / 2) := by
  rcases h with ⟨rfl, rfl⟩ | ⟨h1, rfl, -⟩
  · exact propext ⟨fun q => absurd q (nI_m1 (by omega)), fun q => by omega⟩
  · rw [nI_eq (by omega) (by omega)]; simp [h1]
theorem air_p {al p : Nat} {x y : Int32} (h : airOK al x y) (ha : al < 8) (hp : p < 2) : (nI p = y) = (p = al % 2) := by
  rcases h with ⟨rfl, rfl⟩ | ⟨h1, -, rfl⟩
  · omega
  · rw [nI_eq (by omega) (by omega)]
/-- one pole bears -/
theorem mo_1 {al w p t : Nat} {x y : Int32} (h : MdL S R m) (hA : rowA (I (m + 1)) A) (hs : smallA A) (ha : airOK al x y) (hw : w < 4) (hp : p < 2) (hb : burd A w < 900) (hc : pcl A w p < 30) (hf : ¬ wI A w 6 = 1)
    (kk : WP (d + 4, 0, 0) 280 19 [some (.ref m), some (.int x), some (.int y), some (.int (nI (if mvF al A (2 * w + p) = true then t ||| 2 ^ w else t))), some (.int (nI w)), some (.int (nI (p + 1)))] [] S (setA I m (mvS al A (2 * w + p))) L R Q) : WP (d + 4, 0, 0) 280 19 [some (.ref m), some (.int x), some (.int y), some (.int (nI t)), some (.int (nI w)), some (.int (nI p))] [] S I L R Q := by
  have e1 : (2 * w + p) / 2 = w := by omega
  have e2 : (2 * w + p) % 2 = p := by omega
  have hp2 : ¬ 2 ≤ p := by omega
  have bb := hb
  rw [x_280_19]
  by_cases g1 : al < 8 ∧ w = al / 2
  · have q1 : (nI w = x) = True := by rw [air_w ha hw]; exact eq_true g1
    by_cases g2 : p = al % 2
    · have q2 : (nI p = y) = True := by rw [air_p ha g1.1 hp]; exact eq_true g2
      have es : 2 * w + p = al := by omega
      have em : mvS al A (2 * w + p) = A := by unfold mvS; rw [if_pos (Or.inr es)]
      have ef : mvF al A (2 * w + p) = false := by unfold mvF; simp [es]
      rw [em, ef, setA_id hA] at kk
      simp only [Bool.false_eq_true, if_false] at kk
      simp (disch := first | assumption | omega | exact sm_c hs | exact sm_w hs | exact sm_p hs | exact sm_pc hs | exact sm_wn hs | exact sm_b hs | exact sm_a hs | (simp (disch := first | assumption | omega) only [md_k, md_R0, md_k1, md_n1, md_R1, md_k2, md_n2, md_R5, md_k3, md_n3, md_R6, md_k4, md_n4, md_R7, md_k5, md_n5, md_R8, md_k6, md_n6, md_R9, md_k7, md_n7, md_R21, md_k8, md_n8, md_R25, md_k9, md_n9, md_R26, md_k10, md_n10, md_R27, md_k11, md_n11, md_R28, md_k12, md_n12, md_R29, md_k13, md_n13, md_R32, md_k14, md_n14, md_R33, md_k15, md_n15, md_R34, md_k16, md_n16, md_R36, md_k17, md_n17, md_R41, md_k18, md_n18, md_R42, md_k19, md_n19, md_R43, md_k20, md_n20, vin, cw_nil, cw_int, cw_ref, cw_long, bI_01]; done) | (simp (disch := first | assumption | omega) only [md_k, md_R0, md_k1, md_n1, md_R1, md_k2, md_n2, md_R5, md_k3, md_n3, md_R6, md_k4, md_n4, md_R7, md_k5, md_n5, md_R8, md_k6, md_n6, md_R9, md_k7, md_n7, md_R21, md_k8, md_n8, md_R25, md_k9, md_n9, md_R26, md_k10, md_n10, md_R27, md_k11, md_n11, md_R28, md_k12, md_n12, md_R29, md_k13, md_n13, md_R32, md_k14, md_n14, md_R33, md_k15, md_n15, md_R34, md_k16, md_n16, md_R36, md_k17, md_n17, md_R41, md_k18, md_n18, md_R42, md_k19, md_n19, md_R43, md_k20, md_n20, cw_nil, cw_int, cw_ref, cw_long]; omega) | decide) only [x_280_0, x_280_1, x_280_2, x_280_3, x_280_5, x_280_7, x_280_8, x_280_11, x_280_12, x_280_13, x_280_16, x_280_17, x_280_21, x_280_22, x_280_25, x_280_26, x_280_28, x_280_31, x_280_34, x_280_36, x_280_37, x_280_40, x_280_42, x_280_43, x_280_46, x_280_49, x_280_50, x_280_52, x_280_54, x_280_56, x_280_57, x_280_60, x_280_61, x_280_63, x_280_66, x_280_69, x_280_70, x_280_72, x_280_75, x_280_76, x_280_77, x_280_78, x_280_79, x_280_82, x_280_85, x_280_88, x_280_89, x_280_92, x_280_94, x_280_97, x_280_99, x_280_100, x_280_101, x_280_102, x_280_103, x_280_104, x_280_106, x_280_107, x_280_108, x_280_109, x_280_112, x_280_115, x_280_118, x_280_121, x_280_122, x_280_124, x_280_126, x_280_128, x_280_131, x_280_132, x_280_134, x_280_137, x_280_138, x_280_139, x_280_142, x_280_143, x_280_144, x_280_145, x_280_148, x_280_150, x_280_153, x_280_154, x_280_157, x_280_158, x_280_159, x_280_161, x_280_162, x_280_164, x_280_167, x_280_170, x_280_172, x_280_175, x_280_176, x_280_179, x_280_181, x_280_184, x_280_185, x_280_187, x_280_188, x_280_191, x_280_192, x_280_194, x_280_195, x_280_198, x_280_199, x_280_202, x_280_203, x_280_204, x_280_205, x_280_208, x_280_209, x_280_212, x_280_215, x_280_216, x_280_219, x_280_220, x_280_221, x_280_222, x_280_223, x_280_224, x_280_225, x_280_226, va_rf_some, cw_nil, cw_int, cw_ref, cw_long, kl_int, kl_ref, kl_null, kl_long, kl_none, Option.toList_some, Option.toList_none, List.cons_append, List.nil_append, List.append_nil, md_k, md_R0, md_k1, md_n1, md_R1, md_k2, md_n2, md_R5, md_k3, md_n3, md_R6, md_k4, md_n4, md_R7, md_k5, md_n5, md_R8, md_k6, md_n6, md_R9, md_k7, md_n7, md_R21, md_k8, md_n8, md_R25, md_k9, md_n9, md_R26, md_k10, md_n10, md_R27, md_k11, md_n11, md_R28, md_k12, md_n12, md_R29, md_k13, md_n13, md_R32, md_k14, md_n14, md_R33, md_k15, md_n15, md_R34, md_k16, md_n16, md_R36, md_k17, md_n17, md_R41, md_k18, md_n18, md_R42, md_k19, md_n19, md_R43, md_k20, md_n20, nI_add, pk_mul, nI_clamp, nI_ltI, nI_leI, nI_eq, hp2, if_false, if_true, k_isFallen h hA hs, bI_0, hf, not_false_eq_true, q1, q2]
      exact kk
    · have q2 : (nI p = y) = False := by rw [air_p ha g1.1 hp]; exact eq_false g2
      have es : ¬ (wI A ((2 * w + p) / 2) 6 = 1 ∨ 2 * w + p = al) := by rw [e1]; omega
      have es2 : ¬ (wI A w 6 = 1 ∨ 2 * w + p = al) := by omega
      have eu : much A al w = burd A w := if_pos g1
      have hA2 := rowA_setA (I := I) (m := m) (A := bearA A w p (burd A w))
      unfold mvS mvF at kk
      rw [if_neg es, e1, e2, eu] at kk
      simp only [es2, not_false_eq_true, decide_true, Bool.true_and] at kk
      by_cases g3 : bearF A w p (burd A w) = true
      · simp only [g3, if_true] at kk
        simp (disch := first | assumption | omega | exact sm_c hs | exact sm_w hs | exact sm_p hs | exact sm_pc hs | exact sm_wn hs | exact sm_b hs | exact sm_a hs | (simp (disch := first | assumption | omega) only [md_k, md_R0, md_k1, md_n1, md_R1, md_k2, md_n2, md_R5, md_k3, md_n3, md_R6, md_k4, md_n4, md_R7, md_k5, md_n5, md_R8, md_k6, md_n6, md_R9, md_k7, md_n7, md_R21, md_k8, md_n8, md_R25, md_k9, md_n9, md_R26, md_k10, md_n10, md_R27, md_k11, md_n11, md_R28, md_k12, md_n12, md_R29, md_k13, md_n13, md_R32, md_k14, md_n14, md_R33, md_k15, md_n15, md_R34, md_k16, md_n16, md_R36, md_k17, md_n17, md_R41, md_k18, md_n18, md_R42, md_k19, md_n19, md_R43, md_k20, md_n20, vin, cw_nil, cw_int, cw_ref, cw_long, bI_01]; done) | (simp (disch := first | assumption | omega) only [md_k, md_R0, md_k1, md_n1, md_R1, md_k2, md_n2, md_R5, md_k3, md_n3, md_R6, md_k4, md_n4, md_R7, md_k5, md_n5, md_R8, md_k6, md_n6, md_R9, md_k7, md_n7, md_R21, md_k8, md_n8, md_R25, md_k9, md_n9, md_R26, md_k10, md_n10, md_R27, md_k11, md_n11, md_R28, md_k12, md_n12, md_R29, md_k13, md_n13, md_R32, md_k14, md_n14, md_R33, md_k15, md_n15, md_R34, md_k16, md_n16, md_R36, md_k17, md_n17, md_R41, md_k18, md_n18, md_R42, md_k19, md_n19, md_R43, md_k20, md_n20, cw_nil, cw_int, cw_ref, cw_long]; omega) | decide) only [x_280_0, x_280_1, x_280_2, x_280_3, x_280_5, x_280_7, x_280_8, x_280_11, x_280_12, x_280_13, x_280_16, x_280_17, x_280_21, x_280_22, x_280_25, x_280_26, x_280_28, x_280_31, x_280_34, x_280_36, x_280_37, x_280_40, x_280_42, x_280_43, x_280_46, x_280_49, x_280_50, x_280_52, x_280_54, x_280_56, x_280_57, x_280_60, x_280_61, x_280_63, x_280_66, x_280_69, x_280_70, x_280_72, x_280_75, x_280_76, x_280_77, x_280_78, x_280_79, x_280_82, x_280_85, x_280_88, x_280_89, x_280_92, x_280_94, x_280_97, x_280_99, x_280_100, x_280_101, x_280_102, x_280_103, x_280_104, x_280_106, x_280_107, x_280_108, x_280_109, x_280_112, x_280_115, x_280_118, x_280_121, x_280_122, x_280_124, x_280_126, x_280_128, x_280_131, x_280_132, x_280_134, x_280_137, x_280_138, x_280_139, x_280_142, x_280_143, x_280_144, x_280_145, x_280_148, x_280_150, x_280_153, x_280_154, x_280_157, x_280_158, x_280_159, x_280_161, x_280_162, x_280_164, x_280_167, x_280_170, x_280_172, x_280_175, x_280_176, x_280_179, x_280_181, x_280_184, x_280_185, x_280_187, x_280_188, x_280_191, x_280_192, x_280_194, x_280_195, x_280_198, x_280_199, x_280_202, x_280_203, x_280_204, x_280_205, x_280_208, x_280_209, x_280_212, x_280_215, x_280_216, x_280_219, x_280_220, x_280_221, x_280_222, x_280_223, x_280_224, x_280_225, x_280_226, va_rf_some, cw_nil, cw_int, cw_ref, cw_long, kl_int, kl_ref, kl_null, kl_long, kl_none, Option.toList_some, Option.toList_none, List.cons_append, List.nil_append, List.append_nil, md_k, md_R0, md_k1, md_n1, md_R1, md_k2, md_n2, md_R5, md_k3, md_n3, md_R6, md_k4, md_n4, md_R7, md_k5, md_n5, md_R8, md_k6, md_n6, md_R9, md_k7, md_n7, md_R21, md_k8, md_n8, md_R25, md_k9, md_n9, md_R26, md_k10, md_n10, md_R27, md_k11, md_n11, md_R28, md_k12, md_n12, md_R29, md_k13, md_n13, md_R32, md_k14, md_n14, md_R33, md_k15, md_n15, md_R34, md_k16, md_n16, md_R36, md_k17, md_n17, md_R41, md_k18, md_n18, md_R42, md_k19, md_n19, md_R43, md_k20, md_n20, nI_add, pk_mul, nI_clamp, nI_ltI, nI_leI, nI_eq, hp2, if_false, if_true, k_isFallen h hA hs, bI_0, hf, not_false_eq_true, q1, q2, k_burdenOf h hA hs, k_bearsOn h hA hs, g3, not_true, k_walkerRow, sh1, nx_or, setA_put hA2, setA_setA]
        exact kk
      · simp only [g3] at kk
        simp (disch := first | assumption | omega | exact sm_c hs | exact sm_w hs | exact sm_p hs | exact sm_pc hs | exact sm_wn hs | exact sm_b hs | exact sm_a hs | (simp (disch := first | assumption | omega) only [md_k, md_R0, md_k1, md_n1, md_R1, md_k2, md_n2, md_R5, md_k3, md_n3, md_R6, md_k4, md_n4, md_R7, md_k5, md_n5, md_R8, md_k6, md_n6, md_R9, md_k7, md_n7, md_R21, md_k8, md_n8, md_R25, md_k9, md_n9, md_R26, md_k10, md_n10, md_R27, md_k11, md_n11, md_R28, md_k12, md_n12, md_R29, md_k13, md_n13, md_R32, md_k14, md_n14, md_R33, md_k15, md_n15, md_R34, md_k16, md_n16, md_R36, md_k17, md_n17, md_R41, md_k18, md_n18, md_R42, md_k19, md_n19, md_R43, md_k20, md_n20, vin, cw_nil, cw_int, cw_ref, cw_long, bI_01]; done) | (simp (disch := first | assumption | omega) only [md_k, md_R0, md_k1, md_n1, md_R1, md_k2, md_n2, md_R5, md_k3, md_n3, md_R6, md_k4, md_n4, md_R7, md_k5, md_n5, md_R8, md_k6, md_n6, md_R9, md_k7, md_n7, md_R21, md_k8, md_n8, md_R25, md_k9, md_n9, md_R26, md_k10, md_n10, md_R27, md_k11, md_n11, md_R28, md_k12, md_n12, md_R29, md_k13, md_n13, md_R32, md_k14, md_n14, md_R33, md_k15, md_n15, md_R34, md_k16, md_n16, md_R36, md_k17, md_n17, md_R41, md_k18, md_n18, md_R42, md_k19, md_n19, md_R43, md_k20, md_n20, cw_nil, cw_int, cw_ref, cw_long]; omega) | decide) only [x_280_0, x_280_1, x_280_2, x_280_3, x_280_5, x_280_7, x_280_8, x_280_11, x_280_12, x_280_13, x_280_16, x_280_17, x_280_21, x_280_22, x_280_25, x_280_26, x_280_28, x_280_31, x_280_34, x_280_36, x_280_37, x_280_40, x_280_42, x_280_43, x_280_46, x_280_49, x_280_50, x_280_52, x_280_54, x_280_56, x_280_57, x_280_60, x_280_61, x_280_63, x_280_66, x_280_69, x_280_70, x_280_72, x_280_75, x_280_76, x_280_77, x_280_78, x_280_79, x_280_82, x_280_85, x_280_88, x_280_89, x_280_92, x_280_94, x_280_97, x_280_99, x_280_100, x_280_101, x_280_102, x_280_103, x_280_104, x_280_106, x_280_107, x_280_108, x_280_109, x_280_112, x_280_115, x_280_118, x_280_121, x_280_122, x_280_124, x_280_126, x_280_128, x_280_131, x_280_132, x_280_134, x_280_137, x_280_138, x_280_139, x_280_142, x_280_143, x_280_144, x_280_145, x_280_148, x_280_150, x_280_153, x_280_154, x_280_157, x_280_158, x_280_159, x_280_161, x_280_162, x_280_164, x_280_167, x_280_170, x_280_172, x_280_175, x_280_176, x_280_179, x_280_181, x_280_184, x_280_185, x_280_187, x_280_188, x_280_191, x_280_192, x_280_194, x_280_195, x_280_198, x_280_199, x_280_202, x_280_203, x_280_204, x_280_205, x_280_208, x_280_209, x_280_212, x_280_215, x_280_216, x_280_219, x_280_220, x_280_221, x_280_222, x_280_223, x_280_224, x_280_225, x_280_226, va_rf_some, cw_nil, cw_int, cw_ref, cw_long, kl_int, kl_ref, kl_null, kl_long, kl_none, Option.toList_some, Option.toList_none, List.cons_append, List.nil_append, List.append_nil, md_k, md_R0, md_k1, md_n1, md_R1, md_k2, md_n2, md_R5, md_k3, md_n3, md_R6, md_k4, md_n4, md_R7, md_k5, md_n5, md_R8, md_k6, md_n6, md_R9, md_k7, md_n7, md_R21, md_k8, md_n8, md_R25, md_k9, md_n9, md_R26, md_k10, md_n10, md_R27, md_k11, md_n11, md_R28, md_k12, md_n12, md_R29, md_k13, md_n13, md_R32, md_k14, md_n14, md_R33, md_k15, md_n15, md_R34, md_k16, md_n16, md_R36, md_k17, md_n17, md_R41, md_k18, md_n18, md_R42, md_k19, md_n19, md_R43, md_k20, md_n20, nI_add, pk_mul, nI_clamp, nI_ltI, nI_leI, nI_eq, hp2, if_false, if_true, k_isFallen h hA hs, bI_0, hf, not_false_eq_true, q1, q2, k_burdenOf h hA hs, k_bearsOn h hA hs, g3]
        exact kk
  · have q1 : (nI w = x) = False := by rw [air_w ha hw]; exact eq_false g1
    have es : ¬ (wI A ((2 * w + p) / 2) 6 = 1 ∨ 2 * w + p = al) := by rw [e1]; omega
    have es2 : ¬ (wI A w 6 = 1 ∨ 2 * w + p = al) := by omega
    have eu : much A al w = (burd A w + 1) / 2 := if_neg g1
    have hA2 := rowA_setA (I := I) (m := m) (A := bearA A w p ((burd A w + 1) / 2))
    unfold mvS mvF at kk
    rw [if_neg es, e1, e2, eu] at kk
    simp only [es2, not_false_eq_true, decide_true, Bool.true_and] at kk
    by_cases g3 : bearF A w p ((burd A w + 1) / 2) = true
    · simp only [g3, if_true] at kk
      simp (disch := first | assumption | omega | exact sm_c hs | exact sm_w hs | exact sm_p hs | exact sm_pc hs | exact sm_wn hs | exact sm_b hs | exact sm_a hs | (simp (disch := first | assumption | omega) only [md_k, md_R0, md_k1, md_n1, md_R1, md_k2, md_n2, md_R5, md_k3, md_n3, md_R6, md_k4, md_n4, md_R7, md_k5, md_n5, md_R8, md_k6, md_n6, md_R9, md_k7, md_n7, md_R21, md_k8, md_n8, md_R25, md_k9, md_n9, md_R26, md_k10, md_n10, md_R27, md_k11, md_n11, md_R28, md_k12, md_n12, md_R29, md_k13, md_n13, md_R32, md_k14, md_n14, md_R33, md_k15, md_n15, md_R34, md_k16, md_n16, md_R36, md_k17, md_n17, md_R41, md_k18, md_n18, md_R42, md_k19, md_n19, md_R43, md_k20, md_n20, vin, cw_nil, cw_int, cw_ref, cw_long, bI_01]; done) | (simp (disch := first | assumption | omega) only [md_k, md_R0, md_k1, md_n1, md_R1, md_k2, md_n2, md_R5, md_k3, md_n3, md_R6, md_k4, md_n4, md_R7, md_k5, md_n5, md_R8, md_k6, md_n6, md_R9, md_k7, md_n7, md_R21, md_k8, md_n8, md_R25, md_k9, md_n9, md_R26, md_k10, md_n10, md_R27, md_k11, md_n11, md_R28, md_k12, md_n12, md_R29, md_k13, md_n13, md_R32, md_k14, md_n14, md_R33, md_k15, md_n15, md_R34, md_k16, md_n16, md_R36, md_k17, md_n17, md_R41, md_k18, md_n18, md_R42, md_k19, md_n19, md_R43, md_k20, md_n20, cw_nil, cw_int, cw_ref, cw_long]; omega) | decide) only [x_280_0, x_280_1, x_280_2, x_280_3, x_280_5, x_280_7, x_280_8, x_280_11, x_280_12, x_280_13, x_280_16, x_280_17, x_280_21, x_280_22, x_280_25, x_280_26, x_280_28, x_280_31, x_280_34, x_280_36, x_280_37, x_280_40, x_280_42, x_280_43, x_280_46, x_280_49, x_280_50, x_280_52, x_280_54, x_280_56, x_280_57, x_280_60, x_280_61, x_280_63, x_280_66, x_280_69, x_280_70, x_280_72, x_280_75, x_280_76, x_280_77, x_280_78, x_280_79, x_280_82, x_280_85, x_280_88, x_280_89, x_280_92, x_280_94, x_280_97, x_280_99, x_280_100, x_280_101, x_280_102, x_280_103, x_280_104, x_280_106, x_280_107, x_280_108, x_280_109, x_280_112, x_280_115, x_280_118, x_280_121, x_280_122, x_280_124, x_280_126, x_280_128, x_280_131, x_280_132, x_280_134, x_280_137, x_280_138, x_280_139, x_280_142, x_280_143, x_280_144, x_280_145, x_280_148, x_280_150, x_280_153, x_280_154, x_280_157, x_280_158, x_280_159, x_280_161, x_280_162, x_280_164, x_280_167, x_280_170, x_280_172, x_280_175, x_280_176, x_280_179, x_280_181, x_280_184, x_280_185, x_280_187, x_280_188, x_280_191, x_280_192, x_280_194, x_280_195, x_280_198, x_280_199, x_280_202, x_280_203, x_280_204, x_280_205, x_280_208, x_280_209, x_280_212, x_280_215, x_280_216, x_280_219, x_280_220, x_280_221, x_280_222, x_280_223, x_280_224, x_280_225, x_280_226, va_rf_some, cw_nil, cw_int, cw_ref, cw_long, kl_int, kl_ref, kl_null, kl_long, kl_none, Option.toList_some, Option.toList_none, List.cons_append, List.nil_append, List.append_nil, md_k, md_R0, md_k1, md_n1, md_R1, md_k2, md_n2, md_R5, md_k3, md_n3, md_R6, md_k4, md_n4, md_R7, md_k5, md_n5, md_R8, md_k6, md_n6, md_R9, md_k7, md_n7, md_R21, md_k8, md_n8, md_R25, md_k9, md_n9, md_R26, md_k10, md_n10, md_R27, md_k11, md_n11, md_R28, md_k12, md_n12, md_R29, md_k13, md_n13, md_R32, md_k14, md_n14, md_R33, md_k15, md_n15, md_R34, md_k16, md_n16, md_R36, md_k17, md_n17, md_R41, md_k18, md_n18, md_R42, md_k19, md_n19, md_R43, md_k20, md_n20, nI_add, pk_mul, nI_clamp, nI_ltI, nI_leI, nI_eq, hp2, if_false, if_true, k_isFallen h hA hs, bI_0, hf, not_false_eq_true, q1, k_burdenOf h hA hs, pk_div, k_bearsOn h hA hs, g3, not_true, k_walkerRow, sh1, nx_or, setA_put hA2, setA_setA]
      exact kk
    · simp only [g3] at kk
      simp (disch := first | assumption | omega | exact sm_c hs | exact sm_w hs | exact sm_p hs | exact sm_pc hs | exact sm_wn hs | exact sm_b hs | exact sm_a hs | (simp (disch := first | assumption | omega) only [md_k, md_R0, md_k1, md_n1, md_R1, md_k2, md_n2, md_R5, md_k3, md_n3, md_R6, md_k4, md_n4, md_R7, md_k5, md_n5, md_R8, md_k6, md_n6, md_R9, md_k7, md_n7, md_R21, md_k8, md_n8, md_R25, md_k9, md_n9, md_R26, md_k10, md_n10, md_R27, md_k11, md_n11, md_R28, md_k12, md_n12, md_R29, md_k13, md_n13, md_R32, md_k14, md_n14, md_R33, md_k15, md_n15, md_R34, md_k16, md_n16, md_R36, md_k17, md_n17, md_R41, md_k18, md_n18, md_R42, md_k19, md_n19, md_R43, md_k20, md_n20, vin, cw_nil, cw_int, cw_ref, cw_long, bI_01]; done) | (simp (disch := first | assumption | omega) only [md_k, md_R0, md_k1, md_n1, md_R1, md_k2, md_n2, md_R5, md_k3, md_n3, md_R6, md_k4, md_n4, md_R7, md_k5, md_n5, md_R8, md_k6, md_n6, md_R9, md_k7, md_n7, md_R21, md_k8, md_n8, md_R25, md_k9, md_n9, md_R26, md_k10, md_n10, md_R27, md_k11, md_n11, md_R28, md_k12, md_n12, md_R29, md_k13, md_n13, md_R32, md_k14, md_n14, md_R33, md_k15, md_n15, md_R34, md_k16, md_n16, md_R36, md_k17, md_n17, md_R41, md_k18, md_n18, md_R42, md_k19, md_n19, md_R43, md_k20, md_n20, cw_nil, cw_int, cw_ref, cw_long]; omega) | decide) only [x_280_0, x_280_1, x_280_2, x_280_3, x_280_5, x_280_7, x_280_8, x_280_11, x_280_12, x_280_13, x_280_16, x_280_17, x_280_21, x_280_22, x_280_25, x_280_26, x_280_28, x_280_31, x_280_34, x_280_36, x_280_37, x_280_40, x_280_42, x_280_43, x_280_46, x_280_49, x_280_50, x_280_52, x_280_54, x_280_56, x_280_57, x_280_60, x_280_61, x_280_63, x_280_66, x_280_69, x_280_70, x_280_72, x_280_75, x_280_76, x_280_77, x_280_78, x_280_79, x_280_82, x_280_85, x_280_88, x_280_89, x_280_92, x_280_94, x_280_97, x_280_99, x_280_100, x_280_101, x_280_102, x_280_103, x_280_104, x_280_106, x_280_107, x_280_108, x_280_109, x_280_112, x_280_115, x_280_118, x_280_121, x_280_122, x_280_124, x_280_126, x_280_128, x_280_131, x_280_132, x_280_134, x_280_137, x_280_138, x_280_139, x_280_142, x_280_143, x_280_144, x_280_145, x_280_148, x_280_150, x_280_153, x_280_154, x_280_157, x_280_158, x_280_159, x_280_161, x_280_162, x_280_164, x_280_167, x_280_170, x_280_172, x_280_175, x_280_176, x_280_179, x_280_181, x_280_184, x_280_185, x_280_187, x_280_188, x_280_191, x_280_192, x_280_194, x_280_195, x_280_198, x_280_199, x_280_202, x_280_203, x_280_204, x_280_205, x_280_208, x_280_209, x_280_212, x_280_215, x_280_216, x_280_219, x_280_220, x_280_221, x_280_222, x_280_223, x_280_224, x_280_225, x_280_226, va_rf_some, cw_nil, cw_int, cw_ref, cw_long, kl_int, kl_ref, kl_null, kl_long, kl_none, Option.toList_some, Option.toList_none, List.cons_append, List.nil_append, List.append_nil, md_k, md_R0, md_k1, md_n1, md_R1, md_k2, md_n2, md_R5, md_k3, md_n3, md_R6, md_k4, md_n4, md_R7, md_k5, md_n5, md_R8, md_k6, md_n6, md_R9, md_k7, md_n7, md_R21, md_k8, md_n8, md_R25, md_k9, md_n9, md_R26, md_k10, md_n10, md_R27, md_k11, md_n11, md_R28, md_k12, md_n12, md_R29, md_k13, md_n13, md_R32, md_k14, md_n14, md_R33, md_k15, md_n15, md_R34, md_k16, md_n16, md_R36, md_k17, md_n17, md_R41, md_k18, md_n18, md_R42, md_k19, md_n19, md_R43, md_k20, md_n20, nI_add, pk_mul, nI_clamp, nI_ltI, nI_leI, nI_eq, hp2, if_false, if_true, k_isFallen h hA hs, bI_0, hf, not_false_eq_true, q1, k_burdenOf h hA hs, pk_div, k_bearsOn h hA hs, g3]
      exact kk
end M3
