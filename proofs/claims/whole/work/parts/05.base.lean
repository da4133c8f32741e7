set_option maxRecDepth 100000 in
theorem hc_0 : mC 0 = code := rfl
set_option maxRecDepth 100000 in
theorem ho_0 : mO 0 = 13 := rfl
set_option maxRecDepth 100000 in
theorem hn_0 : mN 0 = 4 := rfl
set_option maxRecDepth 100000 in
theorem ht_0 : mT 0 = (some .boolean) := rfl
set_option maxRecDepth 100000 in
theorem hm_0 : mcs 0 = (0, 0) := by decide +kernel
set_option maxRecDepth 100000 in
theorem hc_1 : mC 1 = prog_1_method_1_code := rfl
set_option maxRecDepth 100000 in
theorem ho_1 : mO 1 = 0 := rfl
set_option maxRecDepth 100000 in
theorem hn_1 : mN 1 = 2 := rfl
set_option maxRecDepth 100000 in
theorem ht_1 : mT 1 = none := rfl
set_option maxRecDepth 100000 in
theorem hm_1 : mcs 1 = (600, 20000) := by decide +kernel
theorem ca_1 {d : Nat} {t : Nat} {S : mS} {I : mI} {L : mL} {R : mR} {Q : mQ} : CA d 1 [.ref t] S I L R Q = WP (d, 600, 20000) 1 0 [some (.ref t), none] [] S I L R Q := by
  unfold CA
  rw [hm_1, hn_1]
  rfl
set_option maxRecDepth 100000 in
theorem hc_2 : mC 2 = prog_1_method_2_code := rfl
set_option maxRecDepth 100000 in
theorem ho_2 : mO 2 = 0 := rfl
set_option maxRecDepth 100000 in
theorem hn_2 : mN 2 = 1 := rfl
set_option maxRecDepth 100000 in
theorem ht_2 : mT 2 = (Option.some FieldType.int) := rfl
set_option maxRecDepth 100000 in
theorem hm_2 : mcs 2 = (0, 0) := by decide +kernel
theorem ca_2 {d : Nat} {t : Nat} {S : mS} {I : mI} {L : mL} {R : mR} {Q : mQ} : CA d 2 [.ref t] S I L R Q = WP (d, 0, 0) 2 0 [some (.ref t)] [] S I L R Q := by
  unfold CA
  rw [hm_2, hn_2]
  rfl
set_option maxRecDepth 100000 in
theorem hc_3 : mC 3 = prog_1_method_3_code := rfl
set_option maxRecDepth 100000 in
theorem ho_3 : mO 3 = 0 := rfl
set_option maxRecDepth 100000 in
theorem hn_3 : mN 3 = 1 := rfl
set_option maxRecDepth 100000 in
theorem ht_3 : mT 3 = (Option.some FieldType.long) := rfl
set_option maxRecDepth 100000 in
theorem hm_3 : mcs 3 = (0, 0) := by decide +kernel
theorem ca_3 {d : Nat} {t : Nat} {S : mS} {I : mI} {L : mL} {R : mR} {Q : mQ} : CA d 3 [.ref t] S I L R Q = WP (d, 0, 0) 3 0 [some (.ref t)] [] S I L R Q := by
  unfold CA
  rw [hm_3, hn_3]
  rfl
set_option maxRecDepth 100000 in
theorem hc_4 : mC 4 = prog_1_method_4_code := rfl
set_option maxRecDepth 100000 in
theorem ho_4 : mO 4 = 0 := rfl
set_option maxRecDepth 100000 in
theorem hn_4 : mN 4 = 1 := rfl
set_option maxRecDepth 100000 in
theorem ht_4 : mT 4 = (Option.some FieldType.long) := rfl
set_option maxRecDepth 100000 in
theorem hm_4 : mcs 4 = (0, 0) := by decide +kernel
theorem ca_4 {d : Nat} {t : Nat} {S : mS} {I : mI} {L : mL} {R : mR} {Q : mQ} : CA d 4 [.ref t] S I L R Q = WP (d, 0, 0) 4 0 [some (.ref t)] [] S I L R Q := by
  unfold CA
  rw [hm_4, hn_4]
  rfl
set_option maxRecDepth 100000 in
theorem hc_5 : mC 5 = prog_1_method_5_code := rfl
set_option maxRecDepth 100000 in
theorem ho_5 : mO 5 = 0 := rfl
set_option maxRecDepth 100000 in
theorem hn_5 : mN 5 = 4 := rfl
set_option maxRecDepth 100000 in
theorem ht_5 : mT 5 = (Option.some FieldType.boolean) := rfl
set_option maxRecDepth 100000 in
theorem hm_5 : mcs 5 = (0, 0) := by decide +kernel
theorem ca_5 {d : Nat} {t : Nat} {p0 : Int32} {p1 : Int32} {p2 : Int32} {S : mS} {I : mI} {L : mL} {R : mR} {Q : mQ} : CA d 5 [.ref t, .int p0, .int p1, .int p2] S I L R Q = WP (d, 0, 0) 5 0 [some (.ref t), some (.int p0), some (.int p1), some (.int p2)] [] S I L R Q := by
  unfold CA
  rw [hm_5, hn_5]
  rfl
set_option maxRecDepth 100000 in
theorem hc_6 : mC 6 = prog_1_method_63_code := rfl
set_option maxRecDepth 100000 in
theorem ho_6 : mO 6 = 0 := rfl
set_option maxRecDepth 100000 in
theorem hn_6 : mN 6 = 2 := rfl
set_option maxRecDepth 100000 in
theorem ht_6 : mT 6 = (Option.some FieldType.boolean) := rfl
set_option maxRecDepth 100000 in
theorem hm_6 : mcs 6 = (0, 0) := by decide +kernel
theorem ca_6 {d : Nat} {t : Nat} {p0 : Int32} {S : mS} {I : mI} {L : mL} {R : mR} {Q : mQ} : CA d 6 [.ref t, .int p0] S I L R Q = WP (d, 0, 0) 6 0 [some (.ref t), some (.int p0)] [] S I L R Q := by
  unfold CA
  rw [hm_6, hn_6]
  rfl
set_option maxRecDepth 100000 in
theorem hc_7 : mC 7 = prog_1_method_62_code := rfl
set_option maxRecDepth 100000 in
theorem ho_7 : mO 7 = 0 := rfl
set_option maxRecDepth 100000 in
theorem hn_7 : mN 7 = 1 := rfl
set_option maxRecDepth 100000 in
theorem ht_7 : mT 7 = (Option.some FieldType.boolean) := rfl
set_option maxRecDepth 100000 in
theorem hm_7 : mcs 7 = (0, 0) := by decide +kernel
theorem ca_7 {d : Nat} {t : Nat} {S : mS} {I : mI} {L : mL} {R : mR} {Q : mQ} : CA d 7 [.ref t] S I L R Q = WP (d, 0, 0) 7 0 [some (.ref t)] [] S I L R Q := by
  unfold CA
  rw [hm_7, hn_7]
  rfl
set_option maxRecDepth 100000 in
theorem hc_8 : mC 8 = prog_1_method_6_code := rfl
set_option maxRecDepth 100000 in
theorem ho_8 : mO 8 = 0 := rfl
set_option maxRecDepth 100000 in
theorem hn_8 : mN 8 = 6 := rfl
set_option maxRecDepth 100000 in
theorem ht_8 : mT 8 = (Option.some FieldType.boolean) := rfl
set_option maxRecDepth 100000 in
theorem hm_8 : mcs 8 = (0, 0) := by decide +kernel
theorem ca_8 {d : Nat} {t : Nat} {p0 : Int32} {p1 : Int32} {p2 : Int64} {S : mS} {I : mI} {L : mL} {R : mR} {Q : mQ} : CA d 8 [.ref t, .int p0, .int p1, .long p2] S I L R Q = WP (d, 0, 0) 8 0 [some (.ref t), some (.int p0), some (.int p1), some (.long p2), none, none] [] S I L R Q := by
  unfold CA
  rw [hm_8, hn_8]
  rfl
set_option maxRecDepth 100000 in
theorem hc_9 : mC 9 = prog_1_method_7_code := rfl
set_option maxRecDepth 100000 in
theorem ho_9 : mO 9 = 0 := rfl
set_option maxRecDepth 100000 in
theorem hn_9 : mN 9 = 4 := rfl
set_option maxRecDepth 100000 in
theorem ht_9 : mT 9 = (Option.some FieldType.long) := rfl
set_option maxRecDepth 100000 in
theorem hm_9 : mcs 9 = (0, 0) := by decide +kernel
theorem ca_9 {d : Nat} {t : Nat} {p0 : Int32} {p1 : Int32} {S : mS} {I : mI} {L : mL} {R : mR} {Q : mQ} : CA d 9 [.ref t, .int p0, .int p1] S I L R Q = WP (d, 0, 0) 9 0 [some (.ref t), some (.int p0), some (.int p1), none] [] S I L R Q := by
  unfold CA
  rw [hm_9, hn_9]
  rfl
set_option maxRecDepth 100000 in
theorem hc_10 : mC 10 = prog_1_method_61_code := rfl
set_option maxRecDepth 100000 in
theorem ho_10 : mO 10 = 0 := rfl
set_option maxRecDepth 100000 in
theorem hn_10 : mN 10 = 2 := rfl
set_option maxRecDepth 100000 in
theorem ht_10 : mT 10 = (Option.some FieldType.int) := rfl
set_option maxRecDepth 100000 in
theorem hm_10 : mcs 10 = (0, 0) := by decide +kernel
theorem ca_10 {d : Nat} {t : Nat} {p0 : Int32} {S : mS} {I : mI} {L : mL} {R : mR} {Q : mQ} : CA d 10 [.ref t, .int p0] S I L R Q = WP (d, 0, 0) 10 0 [some (.ref t), some (.int p0)] [] S I L R Q := by
  unfold CA
  rw [hm_10, hn_10]
  rfl
set_option maxRecDepth 100000 in
theorem hc_11 : mC 11 = prog_1_method_8_code := rfl
set_option maxRecDepth 100000 in
theorem ho_11 : mO 11 = 0 := rfl
set_option maxRecDepth 100000 in
theorem hn_11 : mN 11 = 6 := rfl
set_option maxRecDepth 100000 in
theorem ht_11 : mT 11 = (Option.some FieldType.boolean) := rfl
set_option maxRecDepth 100000 in
theorem hm_11 : mcs 11 = (0, 0) := by decide +kernel
theorem ca_11 {d : Nat} {t : Nat} {p0 : Int32} {p1 : Int32} {p2 : Int32} {p3 : Int32} {p4 : Int32} {S : mS} {I : mI} {L : mL} {R : mR} {Q : mQ} : CA d 11 [.ref t, .int p0, .int p1, .int p2, .int p3, .int p4] S I L R Q = WP (d, 0, 0) 11 0 [some (.ref t), some (.int p0), some (.int p1), some (.int p2), some (.int p3), some (.int p4)] [] S I L R Q := by
  unfold CA
  rw [hm_11, hn_11]
  rfl
set_option maxRecDepth 100000 in
theorem hc_12 : mC 12 = prog_1_method_9_code := rfl
set_option maxRecDepth 100000 in
theorem ho_12 : mO 12 = 0 := rfl
set_option maxRecDepth 100000 in
theorem hn_12 : mN 12 = 6 := rfl
set_option maxRecDepth 100000 in
theorem ht_12 : mT 12 = (Option.some FieldType.int) := rfl
set_option maxRecDepth 100000 in
theorem hm_12 : mcs 12 = (0, 0) := by decide +kernel
theorem ca_12 {d : Nat} {t : Nat} {p0 : Int32} {p1 : Int32} {p2 : Int32} {p3 : Int32} {p4 : Int32} {S : mS} {I : mI} {L : mL} {R : mR} {Q : mQ} : CA d 12 [.ref t, .int p0, .int p1, .int p2, .int p3, .int p4] S I L R Q = WP (d, 0, 0) 12 0 [some (.ref t), some (.int p0), some (.int p1), some (.int p2), some (.int p3), some (.int p4)] [] S I L R Q := by
  unfold CA
  rw [hm_12, hn_12]
  rfl
set_option maxRecDepth 100000 in
theorem hc_13 : mC 13 = prog_1_method_67_code := rfl
set_option maxRecDepth 100000 in
theorem ho_13 : mO 13 = 0 := rfl
set_option maxRecDepth 100000 in
theorem hn_13 : mN 13 = 3 := rfl
set_option maxRecDepth 100000 in
theorem ht_13 : mT 13 = none := rfl
set_option maxRecDepth 100000 in
theorem hm_13 : mcs 13 = (0, 0) := by decide +kernel
theorem ca_13 {d : Nat} {t : Nat} {p0 : Int32} {S : mS} {I : mI} {L : mL} {R : mR} {Q : mQ} : CA d 13 [.ref t, .int p0] S I L R Q = WP (d, 0, 0) 13 0 [some (.ref t), some (.int p0), none] [] S I L R Q := by
  unfold CA
  rw [hm_13, hn_13]
  rfl
set_option maxRecDepth 100000 in
theorem hc_14 : mC 14 = prog_1_method_10_code := rfl
set_option maxRecDepth 100000 in
theorem ho_14 : mO 14 = 0 := rfl
set_option maxRecDepth 100000 in
theorem hn_14 : mN 14 = 2 := rfl
set_option maxRecDepth 100000 in
theorem ht_14 : mT 14 = (Option.some FieldType.int) := rfl
set_option maxRecDepth 100000 in
theorem hm_14 : mcs 14 = (0, 0) := by decide +kernel
theorem ca_14 {d : Nat} {t : Nat} {p0 : Int32} {S : mS} {I : mI} {L : mL} {R : mR} {Q : mQ} : CA d 14 [.ref t, .int p0] S I L R Q = WP (d, 0, 0) 14 0 [some (.ref t), some (.int p0)] [] S I L R Q := by
  unfold CA
  rw [hm_14, hn_14]
  rfl
set_option maxRecDepth 100000 in
theorem hc_15 : mC 15 = prog_1_method_68_code := rfl
set_option maxRecDepth 100000 in
theorem ho_15 : mO 15 = 0 := rfl
set_option maxRecDepth 100000 in
theorem hn_15 : mN 15 = 1 := rfl
set_option maxRecDepth 100000 in
theorem ht_15 : mT 15 = (Option.some FieldType.boolean) := rfl
set_option maxRecDepth 100000 in
theorem hm_15 : mcs 15 = (0, 0) := by decide +kernel
theorem ca_15 {d : Nat} {t : Nat} {S : mS} {I : mI} {L : mL} {R : mR} {Q : mQ} : CA d 15 [.ref t] S I L R Q = WP (d, 0, 0) 15 0 [some (.ref t)] [] S I L R Q := by
  unfold CA
  rw [hm_15, hn_15]
  rfl
set_option maxRecDepth 100000 in
theorem hc_16 : mC 16 = prog_1_method_60_code := rfl
set_option maxRecDepth 100000 in
theorem ho_16 : mO 16 = 0 := rfl
set_option maxRecDepth 100000 in
theorem hn_16 : mN 16 = 2 := rfl
set_option maxRecDepth 100000 in
theorem ht_16 : mT 16 = (Option.some FieldType.int) := rfl
set_option maxRecDepth 100000 in
theorem hm_16 : mcs 16 = (0, 0) := by decide +kernel
theorem ca_16 {d : Nat} {t : Nat} {p0 : Int32} {S : mS} {I : mI} {L : mL} {R : mR} {Q : mQ} : CA d 16 [.ref t, .int p0] S I L R Q = WP (d, 0, 0) 16 0 [some (.ref t), some (.int p0)] [] S I L R Q := by
  unfold CA
  rw [hm_16, hn_16]
  rfl
set_option maxRecDepth 100000 in
theorem hc_17 : mC 17 = prog_1_method_11_code := rfl
set_option maxRecDepth 100000 in
theorem ho_17 : mO 17 = 0 := rfl
set_option maxRecDepth 100000 in
theorem hn_17 : mN 17 = 2 := rfl
set_option maxRecDepth 100000 in
theorem ht_17 : mT 17 = (Option.some FieldType.int) := rfl
set_option maxRecDepth 100000 in
theorem hm_17 : mcs 17 = (0, 0) := by decide +kernel
theorem ca_17 {d : Nat} {t : Nat} {p0 : Int32} {S : mS} {I : mI} {L : mL} {R : mR} {Q : mQ} : CA d 17 [.ref t, .int p0] S I L R Q = WP (d, 0, 0) 17 0 [some (.ref t), some (.int p0)] [] S I L R Q := by
  unfold CA
  rw [hm_17, hn_17]
  rfl
set_option maxRecDepth 100000 in
theorem hc_18 : mC 18 = prog_1_method_12_code := rfl
set_option maxRecDepth 100000 in
theorem ho_18 : mO 18 = 0 := rfl
set_option maxRecDepth 100000 in
theorem hn_18 : mN 18 = 2 := rfl
set_option maxRecDepth 100000 in
theorem ht_18 : mT 18 = (Option.some FieldType.int) := rfl
set_option maxRecDepth 100000 in
theorem hm_18 : mcs 18 = (0, 0) := by decide +kernel
theorem ca_18 {d : Nat} {t : Nat} {p0 : Int32} {S : mS} {I : mI} {L : mL} {R : mR} {Q : mQ} : CA d 18 [.ref t, .int p0] S I L R Q = WP (d, 0, 0) 18 0 [some (.ref t), some (.int p0)] [] S I L R Q := by
  unfold CA
  rw [hm_18, hn_18]
  rfl
set_option maxRecDepth 100000 in
theorem hc_19 : mC 19 = prog_1_method_13_code := rfl
set_option maxRecDepth 100000 in
theorem ho_19 : mO 19 = 0 := rfl
set_option maxRecDepth 100000 in
theorem hn_19 : mN 19 = 4 := rfl
set_option maxRecDepth 100000 in
theorem ht_19 : mT 19 = (Option.some FieldType.int) := rfl
set_option maxRecDepth 100000 in
theorem hm_19 : mcs 19 = (0, 0) := by decide +kernel
theorem ca_19 {d : Nat} {t : Nat} {p0 : Int32} {S : mS} {I : mI} {L : mL} {R : mR} {Q : mQ} : CA d 19 [.ref t, .int p0] S I L R Q = WP (d, 0, 0) 19 0 [some (.ref t), some (.int p0), none, none] [] S I L R Q := by
  unfold CA
  rw [hm_19, hn_19]
  rfl
set_option maxRecDepth 100000 in
theorem hc_20 : mC 20 = prog_1_method_14_code := rfl
set_option maxRecDepth 100000 in
theorem ho_20 : mO 20 = 0 := rfl
set_option maxRecDepth 100000 in
theorem hn_20 : mN 20 = 6 := rfl
set_option maxRecDepth 100000 in
theorem ht_20 : mT 20 = (Option.some FieldType.int) := rfl
set_option maxRecDepth 100000 in
theorem hm_20 : mcs 20 = (0, 0) := by decide +kernel
theorem ca_20 {d : Nat} {t : Nat} {p0 : Int32} {p1 : Int32} {p2 : Int32} {S : mS} {I : mI} {L : mL} {R : mR} {Q : mQ} : CA d 20 [.ref t, .int p0, .int p1, .int p2] S I L R Q = WP (d, 0, 0) 20 0 [some (.ref t), some (.int p0), some (.int p1), some (.int p2), none, none] [] S I L R Q := by
  unfold CA
  rw [hm_20, hn_20]
  rfl
set_option maxRecDepth 100000 in
theorem hc_21 : mC 21 = prog_1_method_15_code := rfl
set_option maxRecDepth 100000 in
theorem ho_21 : mO 21 = 0 := rfl
set_option maxRecDepth 100000 in
theorem hn_21 : mN 21 = 4 := rfl
set_option maxRecDepth 100000 in
theorem ht_21 : mT 21 = (Option.some FieldType.int) := rfl
set_option maxRecDepth 100000 in
theorem hm_21 : mcs 21 = (0, 0) := by decide +kernel
theorem ca_21 {d : Nat} {t : Nat} {p0 : Int32} {p1 : Int32} {S : mS} {I : mI} {L : mL} {R : mR} {Q : mQ} : CA d 21 [.ref t, .int p0, .int p1] S I L R Q = WP (d, 0, 0) 21 0 [some (.ref t), some (.int p0), some (.int p1), none] [] S I L R Q := by
  unfold CA
  rw [hm_21, hn_21]
  rfl
set_option maxRecDepth 100000 in
theorem hc_22 : mC 22 = prog_1_method_16_code := rfl
set_option maxRecDepth 100000 in
theorem ho_22 : mO 22 = 0 := rfl
set_option maxRecDepth 100000 in
theorem hn_22 : mN 22 = 6 := rfl
set_option maxRecDepth 100000 in
theorem ht_22 : mT 22 = (Option.some FieldType.int) := rfl
set_option maxRecDepth 100000 in
theorem hm_22 : mcs 22 = (0, 0) := by decide +kernel
theorem ca_22 {d : Nat} {t : Nat} {p0 : Int32} {p1 : Int32} {p2 : Int32} {S : mS} {I : mI} {L : mL} {R : mR} {Q : mQ} : CA d 22 [.ref t, .int p0, .int p1, .int p2] S I L R Q = WP (d, 0, 0) 22 0 [some (.ref t), some (.int p0), some (.int p1), some (.int p2), none, none] [] S I L R Q := by
  unfold CA
  rw [hm_22, hn_22]
  rfl
set_option maxRecDepth 100000 in
theorem hc_23 : mC 23 = prog_1_method_64_code := rfl
set_option maxRecDepth 100000 in
theorem ho_23 : mO 23 = 0 := rfl
set_option maxRecDepth 100000 in
theorem hn_23 : mN 23 = 1 := rfl
set_option maxRecDepth 100000 in
theorem ht_23 : mT 23 = (Option.some FieldType.boolean) := rfl
set_option maxRecDepth 100000 in
theorem hm_23 : mcs 23 = (0, 0) := by decide +kernel
theorem ca_23 {d : Nat} {p0 : Int32} {S : mS} {I : mI} {L : mL} {R : mR} {Q : mQ} : CA d 23 [.int p0] S I L R Q = WP (d, 0, 0) 23 0 [some (.int p0)] [] S I L R Q := by
  unfold CA
  rw [hm_23, hn_23]
  rfl
set_option maxRecDepth 100000 in
theorem hc_24 : mC 24 = prog_1_method_17_code := rfl
set_option maxRecDepth 100000 in
theorem ho_24 : mO 24 = 0 := rfl
set_option maxRecDepth 100000 in
theorem hn_24 : mN 24 = 6 := rfl
set_option maxRecDepth 100000 in
theorem ht_24 : mT 24 = (Option.some FieldType.int) := rfl
set_option maxRecDepth 100000 in
theorem hm_24 : mcs 24 = (0, 0) := by decide +kernel
theorem ca_24 {d : Nat} {t : Nat} {p0 : Int32} {p1 : Int32} {p2 : Int32} {p3 : Int32} {S : mS} {I : mI} {L : mL} {R : mR} {Q : mQ} : CA d 24 [.ref t, .int p0, .int p1, .int p2, .int p3] S I L R Q = WP (d, 0, 0) 24 0 [some (.ref t), some (.int p0), some (.int p1), some (.int p2), some (.int p3), none] [] S I L R Q := by
  unfold CA
  rw [hm_24, hn_24]
  rfl
set_option maxRecDepth 100000 in
theorem hc_25 : mC 25 = prog_1_method_18_code := rfl
set_option maxRecDepth 100000 in
theorem ho_25 : mO 25 = 0 := rfl
set_option maxRecDepth 100000 in
theorem hn_25 : mN 25 = 3 := rfl
set_option maxRecDepth 100000 in
theorem ht_25 : mT 25 = (Option.some FieldType.int) := rfl
set_option maxRecDepth 100000 in
theorem hm_25 : mcs 25 = (0, 0) := by decide +kernel
theorem ca_25 {d : Nat} {t : Nat} {p0 : Int32} {S : mS} {I : mI} {L : mL} {R : mR} {Q : mQ} : CA d 25 [.ref t, .int p0] S I L R Q = WP (d, 0, 0) 25 0 [some (.ref t), some (.int p0), none] [] S I L R Q := by
  unfold CA
  rw [hm_25, hn_25]
  rfl
set_option maxRecDepth 100000 in
theorem hc_26 : mC 26 = prog_1_method_19_code := rfl
set_option maxRecDepth 100000 in
theorem ho_26 : mO 26 = 0 := rfl
set_option maxRecDepth 100000 in
theorem hn_26 : mN 26 = 4 := rfl
set_option maxRecDepth 100000 in
theorem ht_26 : mT 26 = (Option.some FieldType.int) := rfl
set_option maxRecDepth 100000 in
theorem hm_26 : mcs 26 = (0, 0) := by decide +kernel
theorem ca_26 {d : Nat} {t : Nat} {p0 : Int32} {p1 : Int32} {p2 : Int32} {S : mS} {I : mI} {L : mL} {R : mR} {Q : mQ} : CA d 26 [.ref t, .int p0, .int p1, .int p2] S I L R Q = WP (d, 0, 0) 26 0 [some (.ref t), some (.int p0), some (.int p1), some (.int p2)] [] S I L R Q := by
  unfold CA
  rw [hm_26, hn_26]
  rfl
set_option maxRecDepth 100000 in
theorem hc_27 : mC 27 = prog_1_method_66_code := rfl
set_option maxRecDepth 100000 in
theorem ho_27 : mO 27 = 0 := rfl
set_option maxRecDepth 100000 in
theorem hn_27 : mN 27 = 3 := rfl
set_option maxRecDepth 100000 in
theorem ht_27 : mT 27 = (Option.some FieldType.boolean) := rfl
set_option maxRecDepth 100000 in
theorem hm_27 : mcs 27 = (0, 0) := by decide +kernel
theorem ca_27 {d : Nat} {t : Nat} {p0 : Int32} {p1 : Int32} {S : mS} {I : mI} {L : mL} {R : mR} {Q : mQ} : CA d 27 [.ref t, .int p0, .int p1] S I L R Q = WP (d, 0, 0) 27 0 [some (.ref t), some (.int p0), some (.int p1)] [] S I L R Q := by
  unfold CA
  rw [hm_27, hn_27]
  rfl
set_option maxRecDepth 100000 in
theorem hc_28 : mC 28 = prog_1_method_20_code := rfl
set_option maxRecDepth 100000 in
theorem ho_28 : mO 28 = 0 := rfl
set_option maxRecDepth 100000 in
theorem hn_28 : mN 28 = 5 := rfl
set_option maxRecDepth 100000 in
theorem ht_28 : mT 28 = (Option.some FieldType.int) := rfl
set_option maxRecDepth 100000 in
theorem hm_28 : mcs 28 = (0, 0) := by decide +kernel
theorem ca_28 {d : Nat} {t : Nat} {p0 : Int32} {p1 : Int32} {S : mS} {I : mI} {L : mL} {R : mR} {Q : mQ} : CA d 28 [.ref t, .int p0, .int p1] S I L R Q = WP (d, 0, 0) 28 0 [some (.ref t), some (.int p0), some (.int p1), none, none] [] S I L R Q := by
  unfold CA
  rw [hm_28, hn_28]
  rfl
set_option maxRecDepth 100000 in
theorem hc_29 : mC 29 = prog_1_method_21_code := rfl
set_option maxRecDepth 100000 in
theorem ho_29 : mO 29 = 0 := rfl
set_option maxRecDepth 100000 in
theorem hn_29 : mN 29 = 5 := rfl
set_option maxRecDepth 100000 in
theorem ht_29 : mT 29 = (Option.some FieldType.boolean) := rfl
set_option maxRecDepth 100000 in
theorem hm_29 : mcs 29 = (0, 0) := by decide +kernel
theorem ca_29 {d : Nat} {t : Nat} {p0 : Int32} {p1 : Int32} {S : mS} {I : mI} {L : mL} {R : mR} {Q : mQ} : CA d 29 [.ref t, .int p0, .int p1] S I L R Q = WP (d, 0, 0) 29 0 [some (.ref t), some (.int p0), some (.int p1), none, none] [] S I L R Q := by
  unfold CA
  rw [hm_29, hn_29]
  rfl
set_option maxRecDepth 100000 in
theorem hc_30 : mC 30 = prog_1_method_22_code := rfl
set_option maxRecDepth 100000 in
theorem ho_30 : mO 30 = 0 := rfl
set_option maxRecDepth 100000 in
theorem hn_30 : mN 30 = 5 := rfl
set_option maxRecDepth 100000 in
theorem ht_30 : mT 30 = (Option.some FieldType.boolean) := rfl
set_option maxRecDepth 100000 in
theorem hm_30 : mcs 30 = (0, 0) := by decide +kernel
theorem ca_30 {d : Nat} {t : Nat} {p0 : Int32} {p1 : Int32} {p2 : Int32} {S : mS} {I : mI} {L : mL} {R : mR} {Q : mQ} : CA d 30 [.ref t, .int p0, .int p1, .int p2] S I L R Q = WP (d, 0, 0) 30 0 [some (.ref t), some (.int p0), some (.int p1), some (.int p2), none] [] S I L R Q := by
  unfold CA
  rw [hm_30, hn_30]
  rfl
set_option maxRecDepth 100000 in
theorem hc_31 : mC 31 = prog_1_method_23_code := rfl
set_option maxRecDepth 100000 in
theorem ho_31 : mO 31 = 0 := rfl
set_option maxRecDepth 100000 in
theorem hn_31 : mN 31 = 4 := rfl
set_option maxRecDepth 100000 in
theorem ht_31 : mT 31 = (Option.some FieldType.int) := rfl
set_option maxRecDepth 100000 in
theorem hm_31 : mcs 31 = (0, 0) := by decide +kernel
theorem ca_31 {d : Nat} {t : Nat} {p0 : Int32} {p1 : Int32} {S : mS} {I : mI} {L : mL} {R : mR} {Q : mQ} : CA d 31 [.ref t, .int p0, .int p1] S I L R Q = WP (d, 0, 0) 31 0 [some (.ref t), some (.int p0), some (.int p1), none] [] S I L R Q := by
  unfold CA
  rw [hm_31, hn_31]
  rfl
set_option maxRecDepth 100000 in
theorem hc_32 : mC 32 = prog_1_method_24_code := rfl
set_option maxRecDepth 100000 in
theorem ho_32 : mO 32 = 0 := rfl
set_option maxRecDepth 100000 in
theorem hn_32 : mN 32 = 5 := rfl
set_option maxRecDepth 100000 in
theorem ht_32 : mT 32 = (Option.some FieldType.boolean) := rfl
set_option maxRecDepth 100000 in
theorem hm_32 : mcs 32 = (0, 0) := by decide +kernel
theorem ca_32 {d : Nat} {t : Nat} {p0 : Int32} {p1 : Int32} {p2 : Int32} {S : mS} {I : mI} {L : mL} {R : mR} {Q : mQ} : CA d 32 [.ref t, .int p0, .int p1, .int p2] S I L R Q = WP (d, 0, 0) 32 0 [some (.ref t), some (.int p0), some (.int p1), some (.int p2), none] [] S I L R Q := by
  unfold CA
  rw [hm_32, hn_32]
  rfl
set_option maxRecDepth 100000 in
theorem hc_33 : mC 33 = prog_1_method_25_code := rfl
set_option maxRecDepth 100000 in
theorem ho_33 : mO 33 = 0 := rfl
set_option maxRecDepth 100000 in
theorem hn_33 : mN 33 = 2 := rfl
set_option maxRecDepth 100000 in
theorem ht_33 : mT 33 = (Option.some FieldType.boolean) := rfl
set_option maxRecDepth 100000 in
theorem hm_33 : mcs 33 = (0, 0) := by decide +kernel
theorem ca_33 {d : Nat} {t : Nat} {p0 : Int32} {S : mS} {I : mI} {L : mL} {R : mR} {Q : mQ} : CA d 33 [.ref t, .int p0] S I L R Q = WP (d, 0, 0) 33 0 [some (.ref t), some (.int p0)] [] S I L R Q := by
  unfold CA
  rw [hm_33, hn_33]
  rfl
set_option maxRecDepth 100000 in
theorem hc_34 : mC 34 = prog_1_method_26_code := rfl
set_option maxRecDepth 100000 in
theorem ho_34 : mO 34 = 0 := rfl
set_option maxRecDepth 100000 in
theorem hn_34 : mN 34 = 5 := rfl
set_option maxRecDepth 100000 in
theorem ht_34 : mT 34 = (Option.some FieldType.int) := rfl
set_option maxRecDepth 100000 in
theorem hm_34 : mcs 34 = (0, 0) := by decide +kernel
theorem ca_34 {d : Nat} {t : Nat} {p0 : Int32} {p1 : Int32} {S : mS} {I : mI} {L : mL} {R : mR} {Q : mQ} : CA d 34 [.ref t, .int p0, .int p1] S I L R Q = WP (d, 0, 0) 34 0 [some (.ref t), some (.int p0), some (.int p1), none, none] [] S I L R Q := by
  unfold CA
  rw [hm_34, hn_34]
  rfl
set_option maxRecDepth 100000 in
theorem hc_35 : mC 35 = prog_1_method_27_code := rfl
set_option maxRecDepth 100000 in
theorem ho_35 : mO 35 = 0 := rfl
set_option maxRecDepth 100000 in
theorem hn_35 : mN 35 = 7 := rfl
set_option maxRecDepth 100000 in
theorem ht_35 : mT 35 = (Option.some FieldType.int) := rfl
set_option maxRecDepth 100000 in
theorem hm_35 : mcs 35 = (0, 0) := by decide +kernel
theorem ca_35 {d : Nat} {t : Nat} {p0 : Int32} {p1 : Int32} {p2 : Int32} {p3 : Int32} {S : mS} {I : mI} {L : mL} {R : mR} {Q : mQ} : CA d 35 [.ref t, .int p0, .int p1, .int p2, .int p3] S I L R Q = WP (d, 0, 0) 35 0 [some (.ref t), some (.int p0), some (.int p1), some (.int p2), some (.int p3), none, none] [] S I L R Q := by
  unfold CA
  rw [hm_35, hn_35]
  rfl
set_option maxRecDepth 100000 in
theorem hc_36 : mC 36 = prog_1_method_28_code := rfl
set_option maxRecDepth 100000 in
theorem ho_36 : mO 36 = 0 := rfl
set_option maxRecDepth 100000 in
theorem hn_36 : mN 36 = 2 := rfl
set_option maxRecDepth 100000 in
theorem ht_36 : mT 36 = (Option.some FieldType.int) := rfl
set_option maxRecDepth 100000 in
theorem hm_36 : mcs 36 = (0, 0) := by decide +kernel
theorem ca_36 {d : Nat} {t : Nat} {p0 : Int32} {S : mS} {I : mI} {L : mL} {R : mR} {Q : mQ} : CA d 36 [.ref t, .int p0] S I L R Q = WP (d, 0, 0) 36 0 [some (.ref t), some (.int p0)] [] S I L R Q := by
  unfold CA
  rw [hm_36, hn_36]
  rfl
set_option maxRecDepth 100000 in
theorem hc_37 : mC 37 = prog_1_method_29_code := rfl
set_option maxRecDepth 100000 in
theorem ho_37 : mO 37 = 0 := rfl
set_option maxRecDepth 100000 in
theorem hn_37 : mN 37 = 3 := rfl
set_option maxRecDepth 100000 in
theorem ht_37 : mT 37 = (Option.some FieldType.int) := rfl
set_option maxRecDepth 100000 in
theorem hm_37 : mcs 37 = (0, 0) := by decide +kernel
theorem ca_37 {d : Nat} {t : Nat} {p0 : Int32} {p1 : Int32} {S : mS} {I : mI} {L : mL} {R : mR} {Q : mQ} : CA d 37 [.ref t, .int p0, .int p1] S I L R Q = WP (d, 0, 0) 37 0 [some (.ref t), some (.int p0), some (.int p1)] [] S I L R Q := by
  unfold CA
  rw [hm_37, hn_37]
  rfl
set_option maxRecDepth 100000 in
theorem hc_38 : mC 38 = prog_1_method_30_code := rfl
set_option maxRecDepth 100000 in
theorem ho_38 : mO 38 = 0 := rfl
set_option maxRecDepth 100000 in
theorem hn_38 : mN 38 = 5 := rfl
set_option maxRecDepth 100000 in
theorem ht_38 : mT 38 = (Option.some FieldType.int) := rfl
set_option maxRecDepth 100000 in
theorem hm_38 : mcs 38 = (0, 0) := by decide +kernel
theorem ca_38 {d : Nat} {t : Nat} {p0 : Int32} {p1 : Int32} {S : mS} {I : mI} {L : mL} {R : mR} {Q : mQ} : CA d 38 [.ref t, .int p0, .int p1] S I L R Q = WP (d, 0, 0) 38 0 [some (.ref t), some (.int p0), some (.int p1), none, none] [] S I L R Q := by
  unfold CA
  rw [hm_38, hn_38]
  rfl
set_option maxRecDepth 100000 in
theorem hc_39 : mC 39 = prog_1_method_31_code := rfl
set_option maxRecDepth 100000 in
theorem ho_39 : mO 39 = 0 := rfl
set_option maxRecDepth 100000 in
theorem hn_39 : mN 39 = 5 := rfl
set_option maxRecDepth 100000 in
theorem ht_39 : mT 39 = (Option.some FieldType.int) := rfl
set_option maxRecDepth 100000 in
theorem hm_39 : mcs 39 = (0, 0) := by decide +kernel
theorem ca_39 {d : Nat} {t : Nat} {p0 : Int32} {p1 : Int32} {p2 : Int32} {S : mS} {I : mI} {L : mL} {R : mR} {Q : mQ} : CA d 39 [.ref t, .int p0, .int p1, .int p2] S I L R Q = WP (d, 0, 0) 39 0 [some (.ref t), some (.int p0), some (.int p1), some (.int p2), none] [] S I L R Q := by
  unfold CA
  rw [hm_39, hn_39]
  rfl
set_option maxRecDepth 100000 in
theorem hc_40 : mC 40 = prog_1_method_32_code := rfl
set_option maxRecDepth 100000 in
theorem ho_40 : mO 40 = 0 := rfl
set_option maxRecDepth 100000 in
theorem hn_40 : mN 40 = 6 := rfl
set_option maxRecDepth 100000 in
theorem ht_40 : mT 40 = (Option.some FieldType.int) := rfl
set_option maxRecDepth 100000 in
theorem hm_40 : mcs 40 = (0, 0) := by decide +kernel
theorem ca_40 {d : Nat} {t : Nat} {p0 : Int32} {S : mS} {I : mI} {L : mL} {R : mR} {Q : mQ} : CA d 40 [.ref t, .int p0] S I L R Q = WP (d, 0, 0) 40 0 [some (.ref t), some (.int p0), none, none, none, none] [] S I L R Q := by
  unfold CA
  rw [hm_40, hn_40]
  rfl
set_option maxRecDepth 100000 in
theorem hc_41 : mC 41 = prog_1_method_33_code := rfl
set_option maxRecDepth 100000 in
theorem ho_41 : mO 41 = 0 := rfl
set_option maxRecDepth 100000 in
theorem hn_41 : mN 41 = 4 := rfl
set_option maxRecDepth 100000 in
theorem ht_41 : mT 41 = (Option.some FieldType.int) := rfl
set_option maxRecDepth 100000 in
theorem hm_41 : mcs 41 = (0, 0) := by decide +kernel
theorem ca_41 {d : Nat} {t : Nat} {p0 : Int32} {p1 : Int32} {p2 : Int32} {S : mS} {I : mI} {L : mL} {R : mR} {Q : mQ} : CA d 41 [.ref t, .int p0, .int p1, .int p2] S I L R Q = WP (d, 0, 0) 41 0 [some (.ref t), some (.int p0), some (.int p1), some (.int p2)] [] S I L R Q := by
  unfold CA
  rw [hm_41, hn_41]
  rfl
set_option maxRecDepth 100000 in
theorem hc_42 : mC 42 = prog_1_method_34_code := rfl
set_option maxRecDepth 100000 in
theorem ho_42 : mO 42 = 0 := rfl
set_option maxRecDepth 100000 in
theorem hn_42 : mN 42 = 3 := rfl
set_option maxRecDepth 100000 in
theorem ht_42 : mT 42 = (Option.some FieldType.int) := rfl
set_option maxRecDepth 100000 in
theorem hm_42 : mcs 42 = (0, 0) := by decide +kernel
theorem ca_42 {d : Nat} {t : Nat} {p0 : Int32} {S : mS} {I : mI} {L : mL} {R : mR} {Q : mQ} : CA d 42 [.ref t, .int p0] S I L R Q = WP (d, 0, 0) 42 0 [some (.ref t), some (.int p0), none] [] S I L R Q := by
  unfold CA
  rw [hm_42, hn_42]
  rfl
set_option maxRecDepth 100000 in
theorem hc_43 : mC 43 = prog_1_method_35_code := rfl
set_option maxRecDepth 100000 in
theorem ho_43 : mO 43 = 0 := rfl
set_option maxRecDepth 100000 in
theorem hn_43 : mN 43 = 5 := rfl
set_option maxRecDepth 100000 in
theorem ht_43 : mT 43 = (Option.some FieldType.int) := rfl
set_option maxRecDepth 100000 in
theorem hm_43 : mcs 43 = (0, 0) := by decide +kernel
theorem ca_43 {d : Nat} {t : Nat} {p0 : Int32} {p1 : Int32} {p2 : Int32} {S : mS} {I : mI} {L : mL} {R : mR} {Q : mQ} : CA d 43 [.ref t, .int p0, .int p1, .int p2] S I L R Q = WP (d, 0, 0) 43 0 [some (.ref t), some (.int p0), some (.int p1), some (.int p2), none] [] S I L R Q := by
  unfold CA
  rw [hm_43, hn_43]
  rfl
set_option maxRecDepth 100000 in
theorem hc_44 : mC 44 = prog_1_method_36_code := rfl
set_option maxRecDepth 100000 in
theorem ho_44 : mO 44 = 0 := rfl
set_option maxRecDepth 100000 in
theorem hn_44 : mN 44 = 4 := rfl
set_option maxRecDepth 100000 in
theorem ht_44 : mT 44 = (Option.some FieldType.int) := rfl
set_option maxRecDepth 100000 in
theorem hm_44 : mcs 44 = (0, 0) := by decide +kernel
theorem ca_44 {d : Nat} {t : Nat} {p0 : Int32} {S : mS} {I : mI} {L : mL} {R : mR} {Q : mQ} : CA d 44 [.ref t, .int p0] S I L R Q = WP (d, 0, 0) 44 0 [some (.ref t), some (.int p0), none, none] [] S I L R Q := by
  unfold CA
  rw [hm_44, hn_44]
  rfl
set_option maxRecDepth 100000 in
theorem hc_45 : mC 45 = prog_1_method_37_code := rfl
set_option maxRecDepth 100000 in
theorem ho_45 : mO 45 = 0 := rfl
set_option maxRecDepth 100000 in
theorem hn_45 : mN 45 = 2 := rfl
set_option maxRecDepth 100000 in
theorem ht_45 : mT 45 = (Option.some FieldType.int) := rfl
set_option maxRecDepth 100000 in
theorem hm_45 : mcs 45 = (0, 0) := by decide +kernel
theorem ca_45 {d : Nat} {t : Nat} {p0 : Int32} {S : mS} {I : mI} {L : mL} {R : mR} {Q : mQ} : CA d 45 [.ref t, .int p0] S I L R Q = WP (d, 0, 0) 45 0 [some (.ref t), some (.int p0)] [] S I L R Q := by
  unfold CA
  rw [hm_45, hn_45]
  rfl
set_option maxRecDepth 100000 in
theorem hc_46 : mC 46 = prog_1_method_38_code := rfl
set_option maxRecDepth 100000 in
theorem ho_46 : mO 46 = 0 := rfl
set_option maxRecDepth 100000 in
theorem hn_46 : mN 46 = 9 := rfl
set_option maxRecDepth 100000 in
theorem ht_46 : mT 46 = (Option.some FieldType.int) := rfl
set_option maxRecDepth 100000 in
theorem hm_46 : mcs 46 = (0, 0) := by decide +kernel
theorem ca_46 {d : Nat} {t : Nat} {p0 : Int32} {p1 : Int32} {p2 : Int32} {p3 : Int32} {p4 : Int32} {S : mS} {I : mI} {L : mL} {R : mR} {Q : mQ} : CA d 46 [.ref t, .int p0, .int p1, .int p2, .int p3, .int p4] S I L R Q = WP (d, 0, 0) 46 0 [some (.ref t), some (.int p0), some (.int p1), some (.int p2), some (.int p3), some (.int p4), none, none, none] [] S I L R Q := by
  unfold CA
  rw [hm_46, hn_46]
  rfl
set_option maxRecDepth 100000 in
theorem hc_47 : mC 47 = prog_1_method_39_code := rfl
set_option maxRecDepth 100000 in
theorem ho_47 : mO 47 = 0 := rfl
set_option maxRecDepth 100000 in
theorem hn_47 : mN 47 = 2 := rfl
set_option maxRecDepth 100000 in
theorem ht_47 : mT 47 = (Option.some FieldType.int) := rfl
set_option maxRecDepth 100000 in
theorem hm_47 : mcs 47 = (0, 0) := by decide +kernel
theorem ca_47 {d : Nat} {t : Nat} {p0 : Int32} {S : mS} {I : mI} {L : mL} {R : mR} {Q : mQ} : CA d 47 [.ref t, .int p0] S I L R Q = WP (d, 0, 0) 47 0 [some (.ref t), some (.int p0)] [] S I L R Q := by
  unfold CA
  rw [hm_47, hn_47]
  rfl
set_option maxRecDepth 100000 in
theorem hc_48 : mC 48 = prog_1_method_40_code := rfl
set_option maxRecDepth 100000 in
theorem ho_48 : mO 48 = 0 := rfl
set_option maxRecDepth 100000 in
theorem hn_48 : mN 48 = 5 := rfl
set_option maxRecDepth 100000 in
theorem ht_48 : mT 48 = (Option.some FieldType.int) := rfl
set_option maxRecDepth 100000 in
theorem hm_48 : mcs 48 = (0, 0) := by decide +kernel
theorem ca_48 {d : Nat} {t : Nat} {p0 : Int32} {p1 : Int32} {p2 : Int32} {S : mS} {I : mI} {L : mL} {R : mR} {Q : mQ} : CA d 48 [.ref t, .int p0, .int p1, .int p2] S I L R Q = WP (d, 0, 0) 48 0 [some (.ref t), some (.int p0), some (.int p1), some (.int p2), none] [] S I L R Q := by
  unfold CA
  rw [hm_48, hn_48]
  rfl
set_option maxRecDepth 100000 in
theorem hc_49 : mC 49 = prog_1_method_41_code := rfl
set_option maxRecDepth 100000 in
theorem ho_49 : mO 49 = 0 := rfl
set_option maxRecDepth 100000 in
theorem hn_49 : mN 49 = 4 := rfl
set_option maxRecDepth 100000 in
theorem ht_49 : mT 49 = (Option.some FieldType.int) := rfl
set_option maxRecDepth 100000 in
theorem hm_49 : mcs 49 = (0, 0) := by decide +kernel
theorem ca_49 {d : Nat} {t : Nat} {p0 : Int32} {p1 : Int32} {S : mS} {I : mI} {L : mL} {R : mR} {Q : mQ} : CA d 49 [.ref t, .int p0, .int p1] S I L R Q = WP (d, 0, 0) 49 0 [some (.ref t), some (.int p0), some (.int p1), none] [] S I L R Q := by
  unfold CA
  rw [hm_49, hn_49]
  rfl
set_option maxRecDepth 100000 in
theorem hc_50 : mC 50 = prog_1_method_69_code := rfl
set_option maxRecDepth 100000 in
theorem ho_50 : mO 50 = 0 := rfl
set_option maxRecDepth 100000 in
theorem hn_50 : mN 50 = 4 := rfl
set_option maxRecDepth 100000 in
theorem ht_50 : mT 50 = (Option.some FieldType.int) := rfl
set_option maxRecDepth 100000 in
theorem hm_50 : mcs 50 = (0, 0) := by decide +kernel
theorem ca_50 {d : Nat} {t : Nat} {p0 : Int32} {p1 : Int32} {p2 : Int32} {S : mS} {I : mI} {L : mL} {R : mR} {Q : mQ} : CA d 50 [.ref t, .int p0, .int p1, .int p2] S I L R Q = WP (d, 0, 0) 50 0 [some (.ref t), some (.int p0), some (.int p1), some (.int p2)] [] S I L R Q := by
  unfold CA
  rw [hm_50, hn_50]
  rfl
set_option maxRecDepth 100000 in
theorem hc_51 : mC 51 = prog_1_method_42_code := rfl
set_option maxRecDepth 100000 in
theorem ho_51 : mO 51 = 0 := rfl
set_option maxRecDepth 100000 in
theorem hn_51 : mN 51 = 4 := rfl
set_option maxRecDepth 100000 in
theorem ht_51 : mT 51 = (Option.some FieldType.int) := rfl
set_option maxRecDepth 100000 in
theorem hm_51 : mcs 51 = (0, 0) := by decide +kernel
theorem ca_51 {d : Nat} {t : Nat} {p0 : Int32} {p1 : Int32} {p2 : Int32} {S : mS} {I : mI} {L : mL} {R : mR} {Q : mQ} : CA d 51 [.ref t, .int p0, .int p1, .int p2] S I L R Q = WP (d, 0, 0) 51 0 [some (.ref t), some (.int p0), some (.int p1), some (.int p2)] [] S I L R Q := by
  unfold CA
  rw [hm_51, hn_51]
  rfl
set_option maxRecDepth 100000 in
theorem hc_52 : mC 52 = prog_1_method_70_code := rfl
set_option maxRecDepth 100000 in
theorem ho_52 : mO 52 = 0 := rfl
set_option maxRecDepth 100000 in
theorem hn_52 : mN 52 = 6 := rfl
set_option maxRecDepth 100000 in
theorem ht_52 : mT 52 = (Option.some FieldType.int) := rfl
set_option maxRecDepth 100000 in
theorem hm_52 : mcs 52 = (0, 0) := by decide +kernel
theorem ca_52 {d : Nat} {t : Nat} {p0 : Int32} {p1 : Int32} {p2 : Int32} {p3 : Int32} {S : mS} {I : mI} {L : mL} {R : mR} {Q : mQ} : CA d 52 [.ref t, .int p0, .int p1, .int p2, .int p3] S I L R Q = WP (d, 0, 0) 52 0 [some (.ref t), some (.int p0), some (.int p1), some (.int p2), some (.int p3), none] [] S I L R Q := by
  unfold CA
  rw [hm_52, hn_52]
  rfl
set_option maxRecDepth 100000 in
theorem hc_53 : mC 53 = prog_1_method_65_code := rfl
set_option maxRecDepth 100000 in
theorem ho_53 : mO 53 = 0 := rfl
set_option maxRecDepth 100000 in
theorem hn_53 : mN 53 = 1 := rfl
set_option maxRecDepth 100000 in
theorem ht_53 : mT 53 = (Option.some FieldType.boolean) := rfl
set_option maxRecDepth 100000 in
theorem hm_53 : mcs 53 = (0, 0) := by decide +kernel
theorem ca_53 {d : Nat} {p0 : Int32} {S : mS} {I : mI} {L : mL} {R : mR} {Q : mQ} : CA d 53 [.int p0] S I L R Q = WP (d, 0, 0) 53 0 [some (.int p0)] [] S I L R Q := by
  unfold CA
  rw [hm_53, hn_53]
  rfl
set_option maxRecDepth 100000 in
theorem hc_54 : mC 54 = prog_1_method_71_code := rfl
set_option maxRecDepth 100000 in
theorem ho_54 : mO 54 = 0 := rfl
set_option maxRecDepth 100000 in
theorem hn_54 : mN 54 = 2 := rfl
set_option maxRecDepth 100000 in
theorem ht_54 : mT 54 = (Option.some FieldType.int) := rfl
set_option maxRecDepth 100000 in
theorem hm_54 : mcs 54 = (0, 0) := by decide +kernel
theorem ca_54 {d : Nat} {t : Nat} {p0 : Int32} {S : mS} {I : mI} {L : mL} {R : mR} {Q : mQ} : CA d 54 [.ref t, .int p0] S I L R Q = WP (d, 0, 0) 54 0 [some (.ref t), some (.int p0)] [] S I L R Q := by
  unfold CA
  rw [hm_54, hn_54]
  rfl
set_option maxRecDepth 100000 in
theorem hc_55 : mC 55 = prog_1_method_43_code := rfl
set_option maxRecDepth 100000 in
theorem ho_55 : mO 55 = 0 := rfl
set_option maxRecDepth 100000 in
theorem hn_55 : mN 55 = 4 := rfl
set_option maxRecDepth 100000 in
theorem ht_55 : mT 55 = (Option.some FieldType.int) := rfl
set_option maxRecDepth 100000 in
theorem hm_55 : mcs 55 = (0, 0) := by decide +kernel
theorem ca_55 {d : Nat} {t : Nat} {p0 : Int32} {p1 : Int32} {S : mS} {I : mI} {L : mL} {R : mR} {Q : mQ} : CA d 55 [.ref t, .int p0, .int p1] S I L R Q = WP (d, 0, 0) 55 0 [some (.ref t), some (.int p0), some (.int p1), none] [] S I L R Q := by
  unfold CA
  rw [hm_55, hn_55]
  rfl
set_option maxRecDepth 100000 in
theorem hc_56 : mC 56 = prog_1_method_44_code := rfl
set_option maxRecDepth 100000 in
theorem ho_56 : mO 56 = 0 := rfl
set_option maxRecDepth 100000 in
theorem hn_56 : mN 56 = 4 := rfl
set_option maxRecDepth 100000 in
theorem ht_56 : mT 56 = (Option.some FieldType.int) := rfl
set_option maxRecDepth 100000 in
theorem hm_56 : mcs 56 = (0, 0) := by decide +kernel
theorem ca_56 {d : Nat} {t : Nat} {p0 : Int32} {p1 : Int32} {p2 : Int32} {S : mS} {I : mI} {L : mL} {R : mR} {Q : mQ} : CA d 56 [.ref t, .int p0, .int p1, .int p2] S I L R Q = WP (d, 0, 0) 56 0 [some (.ref t), some (.int p0), some (.int p1), some (.int p2)] [] S I L R Q := by
  unfold CA
  rw [hm_56, hn_56]
  rfl
set_option maxRecDepth 100000 in
theorem hc_57 : mC 57 = prog_1_method_45_code := rfl
set_option maxRecDepth 100000 in
theorem ho_57 : mO 57 = 0 := rfl
set_option maxRecDepth 100000 in
theorem hn_57 : mN 57 = 2 := rfl
set_option maxRecDepth 100000 in
theorem ht_57 : mT 57 = (Option.some FieldType.int) := rfl
set_option maxRecDepth 100000 in
theorem hm_57 : mcs 57 = (0, 0) := by decide +kernel
theorem ca_57 {d : Nat} {t : Nat} {p0 : Int32} {S : mS} {I : mI} {L : mL} {R : mR} {Q : mQ} : CA d 57 [.ref t, .int p0] S I L R Q = WP (d, 0, 0) 57 0 [some (.ref t), some (.int p0)] [] S I L R Q := by
  unfold CA
  rw [hm_57, hn_57]
  rfl
set_option maxRecDepth 100000 in
theorem hc_58 : mC 58 = prog_1_method_46_code := rfl
set_option maxRecDepth 100000 in
theorem ho_58 : mO 58 = 0 := rfl
set_option maxRecDepth 100000 in
theorem hn_58 : mN 58 = 3 := rfl
set_option maxRecDepth 100000 in
theorem ht_58 : mT 58 = (Option.some FieldType.int) := rfl
set_option maxRecDepth 100000 in
theorem hm_58 : mcs 58 = (0, 0) := by decide +kernel
theorem ca_58 {d : Nat} {t : Nat} {S : mS} {I : mI} {L : mL} {R : mR} {Q : mQ} : CA d 58 [.ref t] S I L R Q = WP (d, 0, 0) 58 0 [some (.ref t), none, none] [] S I L R Q := by
  unfold CA
  rw [hm_58, hn_58]
  rfl
set_option maxRecDepth 100000 in
theorem hc_59 : mC 59 = prog_1_method_47_code := rfl
set_option maxRecDepth 100000 in
theorem ho_59 : mO 59 = 0 := rfl
set_option maxRecDepth 100000 in
theorem hn_59 : mN 59 = 4 := rfl
set_option maxRecDepth 100000 in
theorem ht_59 : mT 59 = (Option.some FieldType.int) := rfl
set_option maxRecDepth 100000 in
theorem hm_59 : mcs 59 = (0, 0) := by decide +kernel
theorem ca_59 {d : Nat} {t : Nat} {p0 : Int32} {p1 : Int32} {p2 : Int32} {S : mS} {I : mI} {L : mL} {R : mR} {Q : mQ} : CA d 59 [.ref t, .int p0, .int p1, .int p2] S I L R Q = WP (d, 0, 0) 59 0 [some (.ref t), some (.int p0), some (.int p1), some (.int p2)] [] S I L R Q := by
  unfold CA
  rw [hm_59, hn_59]
  rfl
set_option maxRecDepth 100000 in
theorem hc_60 : mC 60 = prog_1_method_48_code := rfl
set_option maxRecDepth 100000 in
theorem ho_60 : mO 60 = 0 := rfl
set_option maxRecDepth 100000 in
theorem hn_60 : mN 60 = 5 := rfl
set_option maxRecDepth 100000 in
theorem ht_60 : mT 60 = (Option.some FieldType.int) := rfl
set_option maxRecDepth 100000 in
theorem hm_60 : mcs 60 = (0, 0) := by decide +kernel
theorem ca_60 {d : Nat} {t : Nat} {p0 : Int32} {p1 : Int32} {p2 : Int32} {p3 : Int32} {S : mS} {I : mI} {L : mL} {R : mR} {Q : mQ} : CA d 60 [.ref t, .int p0, .int p1, .int p2, .int p3] S I L R Q = WP (d, 0, 0) 60 0 [some (.ref t), some (.int p0), some (.int p1), some (.int p2), some (.int p3)] [] S I L R Q := by
  unfold CA
  rw [hm_60, hn_60]
  rfl
set_option maxRecDepth 100000 in
theorem hc_61 : mC 61 = prog_1_method_49_code := rfl
set_option maxRecDepth 100000 in
theorem ho_61 : mO 61 = 0 := rfl
set_option maxRecDepth 100000 in
theorem hn_61 : mN 61 = 2 := rfl
set_option maxRecDepth 100000 in
theorem ht_61 : mT 61 = (Option.some FieldType.int) := rfl
set_option maxRecDepth 100000 in
theorem hm_61 : mcs 61 = (0, 0) := by decide +kernel
theorem ca_61 {d : Nat} {t : Nat} {p0 : Int32} {S : mS} {I : mI} {L : mL} {R : mR} {Q : mQ} : CA d 61 [.ref t, .int p0] S I L R Q = WP (d, 0, 0) 61 0 [some (.ref t), some (.int p0)] [] S I L R Q := by
  unfold CA
  rw [hm_61, hn_61]
  rfl
set_option maxRecDepth 100000 in
theorem hc_62 : mC 62 = prog_1_method_50_code := rfl
set_option maxRecDepth 100000 in
theorem ho_62 : mO 62 = 0 := rfl
set_option maxRecDepth 100000 in
theorem hn_62 : mN 62 = 3 := rfl
set_option maxRecDepth 100000 in
theorem ht_62 : mT 62 = (Option.some FieldType.int) := rfl
set_option maxRecDepth 100000 in
theorem hm_62 : mcs 62 = (0, 0) := by decide +kernel
theorem ca_62 {d : Nat} {t : Nat} {p0 : Int32} {S : mS} {I : mI} {L : mL} {R : mR} {Q : mQ} : CA d 62 [.ref t, .int p0] S I L R Q = WP (d, 0, 0) 62 0 [some (.ref t), some (.int p0), none] [] S I L R Q := by
  unfold CA
  rw [hm_62, hn_62]
  rfl
set_option maxRecDepth 100000 in
theorem hc_63 : mC 63 = prog_1_method_51_code := rfl
set_option maxRecDepth 100000 in
theorem ho_63 : mO 63 = 0 := rfl
set_option maxRecDepth 100000 in
theorem hn_63 : mN 63 = 3 := rfl
set_option maxRecDepth 100000 in
theorem ht_63 : mT 63 = (Option.some FieldType.int) := rfl
set_option maxRecDepth 100000 in
theorem hm_63 : mcs 63 = (0, 0) := by decide +kernel
theorem ca_63 {d : Nat} {t : Nat} {p0 : Int32} {S : mS} {I : mI} {L : mL} {R : mR} {Q : mQ} : CA d 63 [.ref t, .int p0] S I L R Q = WP (d, 0, 0) 63 0 [some (.ref t), some (.int p0), none] [] S I L R Q := by
  unfold CA
  rw [hm_63, hn_63]
  rfl
set_option maxRecDepth 100000 in
theorem hc_64 : mC 64 = prog_1_method_52_code := rfl
set_option maxRecDepth 100000 in
theorem ho_64 : mO 64 = 0 := rfl
set_option maxRecDepth 100000 in
theorem hn_64 : mN 64 = 5 := rfl
set_option maxRecDepth 100000 in
theorem ht_64 : mT 64 = (Option.some FieldType.boolean) := rfl
set_option maxRecDepth 100000 in
theorem hm_64 : mcs 64 = (0, 0) := by decide +kernel
theorem ca_64 {d : Nat} {t : Nat} {p0 : Int32} {S : mS} {I : mI} {L : mL} {R : mR} {Q : mQ} : CA d 64 [.ref t, .int p0] S I L R Q = WP (d, 0, 0) 64 0 [some (.ref t), some (.int p0), none, none, none] [] S I L R Q := by
  unfold CA
  rw [hm_64, hn_64]
  rfl
set_option maxRecDepth 100000 in
theorem hc_65 : mC 65 = prog_1_method_72_code := rfl
set_option maxRecDepth 100000 in
theorem ho_65 : mO 65 = 0 := rfl
set_option maxRecDepth 100000 in
theorem hn_65 : mN 65 = 12 := rfl
set_option maxRecDepth 100000 in
theorem ht_65 : mT 65 = none := rfl
set_option maxRecDepth 100000 in
theorem hm_65 : mcs 65 = (0, 0) := by decide +kernel
theorem ca_65 {d : Nat} {t : Nat} {p0 : Int64} {p1 : Int64} {S : mS} {I : mI} {L : mL} {R : mR} {Q : mQ} : CA d 65 [.ref t, .long p0, .long p1] S I L R Q = WP (d, 0, 0) 65 0 [some (.ref t), some (.long p0), none, some (.long p1), none, none, none, none, none, none, none, none] [] S I L R Q := by
  unfold CA
  rw [hm_65, hn_65]
  rfl
set_option maxRecDepth 100000 in
theorem hc_66 : mC 66 = prog_1_method_53_code := rfl
set_option maxRecDepth 100000 in
theorem ho_66 : mO 66 = 0 := rfl
set_option maxRecDepth 100000 in
theorem hn_66 : mN 66 = 3 := rfl
set_option maxRecDepth 100000 in
theorem ht_66 : mT 66 = (Option.some FieldType.int) := rfl
set_option maxRecDepth 100000 in
theorem hm_66 : mcs 66 = (0, 0) := by decide +kernel
theorem ca_66 {d : Nat} {t : Nat} {S : mS} {I : mI} {L : mL} {R : mR} {Q : mQ} : CA d 66 [.ref t] S I L R Q = WP (d, 0, 0) 66 0 [some (.ref t), none, none] [] S I L R Q := by
  unfold CA
  rw [hm_66, hn_66]
  rfl
set_option maxRecDepth 100000 in
theorem hc_67 : mC 67 = prog_1_method_54_code := rfl
set_option maxRecDepth 100000 in
theorem ho_67 : mO 67 = 0 := rfl
set_option maxRecDepth 100000 in
theorem hn_67 : mN 67 = 6 := rfl
set_option maxRecDepth 100000 in
theorem ht_67 : mT 67 = (Option.some FieldType.int) := rfl
set_option maxRecDepth 100000 in
theorem hm_67 : mcs 67 = (0, 0) := by decide +kernel
theorem ca_67 {d : Nat} {t : Nat} {p0 : Int32} {p1 : Int32} {S : mS} {I : mI} {L : mL} {R : mR} {Q : mQ} : CA d 67 [.ref t, .int p0, .int p1] S I L R Q = WP (d, 0, 0) 67 0 [some (.ref t), some (.int p0), some (.int p1), none, none, none] [] S I L R Q := by
  unfold CA
  rw [hm_67, hn_67]
  rfl
set_option maxRecDepth 100000 in
theorem hc_68 : mC 68 = prog_1_method_55_code := rfl
set_option maxRecDepth 100000 in
theorem ho_68 : mO 68 = 0 := rfl
set_option maxRecDepth 100000 in
theorem hn_68 : mN 68 = 2 := rfl
set_option maxRecDepth 100000 in
theorem ht_68 : mT 68 = (Option.some FieldType.int) := rfl
set_option maxRecDepth 100000 in
theorem hm_68 : mcs 68 = (0, 0) := by decide +kernel
theorem ca_68 {d : Nat} {t : Nat} {p0 : Int32} {S : mS} {I : mI} {L : mL} {R : mR} {Q : mQ} : CA d 68 [.ref t, .int p0] S I L R Q = WP (d, 0, 0) 68 0 [some (.ref t), some (.int p0)] [] S I L R Q := by
  unfold CA
  rw [hm_68, hn_68]
  rfl
set_option maxRecDepth 100000 in
theorem hc_69 : mC 69 = prog_1_method_56_code := rfl
set_option maxRecDepth 100000 in
theorem ho_69 : mO 69 = 0 := rfl
set_option maxRecDepth 100000 in
theorem hn_69 : mN 69 = 2 := rfl
set_option maxRecDepth 100000 in
theorem ht_69 : mT 69 = (Option.some FieldType.int) := rfl
set_option maxRecDepth 100000 in
theorem hm_69 : mcs 69 = (0, 0) := by decide +kernel
theorem ca_69 {d : Nat} {t : Nat} {p0 : Int32} {S : mS} {I : mI} {L : mL} {R : mR} {Q : mQ} : CA d 69 [.ref t, .int p0] S I L R Q = WP (d, 0, 0) 69 0 [some (.ref t), some (.int p0)] [] S I L R Q := by
  unfold CA
  rw [hm_69, hn_69]
  rfl
set_option maxRecDepth 100000 in
theorem hc_70 : mC 70 = prog_1_method_57_code := rfl
set_option maxRecDepth 100000 in
theorem ho_70 : mO 70 = 0 := rfl
set_option maxRecDepth 100000 in
theorem hn_70 : mN 70 = 6 := rfl
set_option maxRecDepth 100000 in
theorem ht_70 : mT 70 = (Option.some FieldType.boolean) := rfl
set_option maxRecDepth 100000 in
theorem hm_70 : mcs 70 = (0, 0) := by decide +kernel
theorem ca_70 {d : Nat} {t : Nat} {p0 : Int32} {p1 : Int32} {S : mS} {I : mI} {L : mL} {R : mR} {Q : mQ} : CA d 70 [.ref t, .int p0, .int p1] S I L R Q = WP (d, 0, 0) 70 0 [some (.ref t), some (.int p0), some (.int p1), none, none, none] [] S I L R Q := by
  unfold CA
  rw [hm_70, hn_70]
  rfl
set_option maxRecDepth 100000 in
theorem hc_71 : mC 71 = prog_1_method_58_code := rfl
set_option maxRecDepth 100000 in
theorem ho_71 : mO 71 = 0 := rfl
set_option maxRecDepth 100000 in
theorem hn_71 : mN 71 = 1 := rfl
set_option maxRecDepth 100000 in
theorem ht_71 : mT 71 = (Option.some FieldType.int) := rfl
set_option maxRecDepth 100000 in
theorem hm_71 : mcs 71 = (0, 0) := by decide +kernel
theorem ca_71 {d : Nat} {t : Nat} {S : mS} {I : mI} {L : mL} {R : mR} {Q : mQ} : CA d 71 [.ref t] S I L R Q = WP (d, 0, 0) 71 0 [some (.ref t)] [] S I L R Q := by
  unfold CA
  rw [hm_71, hn_71]
  rfl
set_option maxRecDepth 100000 in
theorem hc_72 : mC 72 = prog_1_method_59_code := rfl
set_option maxRecDepth 100000 in
theorem ho_72 : mO 72 = 0 := rfl
set_option maxRecDepth 100000 in
theorem hn_72 : mN 72 = 1 := rfl
set_option maxRecDepth 100000 in
theorem ht_72 : mT 72 = (Option.some FieldType.int) := rfl
set_option maxRecDepth 100000 in
theorem hm_72 : mcs 72 = (0, 0) := by decide +kernel
theorem ca_72 {d : Nat} {t : Nat} {S : mS} {I : mI} {L : mL} {R : mR} {Q : mQ} : CA d 72 [.ref t] S I L R Q = WP (d, 0, 0) 72 0 [some (.ref t)] [] S I L R Q := by
  unfold CA
  rw [hm_72, hn_72]
  rfl
set_option maxRecDepth 100000 in
theorem hc_73 : mC 73 = prog_12_method_1_code := rfl
set_option maxRecDepth 100000 in
theorem ho_73 : mO 73 = 1 := rfl
set_option maxRecDepth 100000 in
theorem hn_73 : mN 73 = 1 := rfl
set_option maxRecDepth 100000 in
theorem ht_73 : mT 73 = none := rfl
set_option maxRecDepth 100000 in
theorem hm_73 : mcs 73 = (10, 400) := by decide +kernel
theorem ca_73 {d : Nat} {t : Nat} {S : mS} {I : mI} {L : mL} {R : mR} {Q : mQ} : CA d 73 [.ref t] S I L R Q = WP (d, 10, 400) 73 0 [some (.ref t)] [] S I L R Q := by
  unfold CA
  rw [hm_73, hn_73]
  rfl
set_option maxRecDepth 100000 in
theorem hc_74 : mC 74 = prog_12_method_2_code := rfl
set_option maxRecDepth 100000 in
theorem ho_74 : mO 74 = 1 := rfl
set_option maxRecDepth 100000 in
theorem hn_74 : mN 74 = 2 := rfl
set_option maxRecDepth 100000 in
theorem ht_74 : mT 74 = (Option.some FieldType.boolean) := rfl
set_option maxRecDepth 100000 in
theorem hm_74 : mcs 74 = (0, 0) := by decide +kernel
theorem ca_74 {d : Nat} {t : Nat} {p0 : Int32} {S : mS} {I : mI} {L : mL} {R : mR} {Q : mQ} : CA d 74 [.ref t, .int p0] S I L R Q = WP (d, 0, 0) 74 0 [some (.ref t), some (.int p0)] [] S I L R Q := by
  unfold CA
  rw [hm_74, hn_74]
  rfl
set_option maxRecDepth 100000 in
theorem hc_75 : mC 75 = prog_12_method_8_code := rfl
set_option maxRecDepth 100000 in
theorem ho_75 : mO 75 = 1 := rfl
set_option maxRecDepth 100000 in
theorem hn_75 : mN 75 = 4 := rfl
set_option maxRecDepth 100000 in
theorem ht_75 : mT 75 = none := rfl
set_option maxRecDepth 100000 in
theorem hm_75 : mcs 75 = (0, 0) := by decide +kernel
theorem ca_75 {d : Nat} {t : Nat} {p0 : Int32} {p1 : Int32} {p2 : Int32} {S : mS} {I : mI} {L : mL} {R : mR} {Q : mQ} : CA d 75 [.ref t, .int p0, .int p1, .int p2] S I L R Q = WP (d, 0, 0) 75 0 [some (.ref t), some (.int p0), some (.int p1), some (.int p2)] [] S I L R Q := by
  unfold CA
  rw [hm_75, hn_75]
  rfl
set_option maxRecDepth 100000 in
theorem hc_76 : mC 76 = prog_12_method_6_code := rfl
set_option maxRecDepth 100000 in
theorem ho_76 : mO 76 = 1 := rfl
set_option maxRecDepth 100000 in
theorem hn_76 : mN 76 = 3 := rfl
set_option maxRecDepth 100000 in
theorem ht_76 : mT 76 = (Option.some FieldType.int) := rfl
set_option maxRecDepth 100000 in
theorem hm_76 : mcs 76 = (0, 0) := by decide +kernel
theorem ca_76 {d : Nat} {t : Nat} {p0 : Int32} {p1 : Int32} {S : mS} {I : mI} {L : mL} {R : mR} {Q : mQ} : CA d 76 [.ref t, .int p0, .int p1] S I L R Q = WP (d, 0, 0) 76 0 [some (.ref t), some (.int p0), some (.int p1)] [] S I L R Q := by
  unfold CA
  rw [hm_76, hn_76]
  rfl
set_option maxRecDepth 100000 in
theorem hc_77 : mC 77 = prog_12_method_3_code := rfl
set_option maxRecDepth 100000 in
theorem ho_77 : mO 77 = 1 := rfl
set_option maxRecDepth 100000 in
theorem hn_77 : mN 77 = 2 := rfl
set_option maxRecDepth 100000 in
theorem ht_77 : mT 77 = (Option.some FieldType.boolean) := rfl
set_option maxRecDepth 100000 in
theorem hm_77 : mcs 77 = (0, 0) := by decide +kernel
theorem ca_77 {d : Nat} {t : Nat} {p0 : Int32} {S : mS} {I : mI} {L : mL} {R : mR} {Q : mQ} : CA d 77 [.ref t, .int p0] S I L R Q = WP (d, 0, 0) 77 0 [some (.ref t), some (.int p0)] [] S I L R Q := by
  unfold CA
  rw [hm_77, hn_77]
  rfl
set_option maxRecDepth 100000 in
theorem hc_78 : mC 78 = prog_12_method_9_code := rfl
set_option maxRecDepth 100000 in
theorem ho_78 : mO 78 = 1 := rfl
set_option maxRecDepth 100000 in
theorem hn_78 : mN 78 = 5 := rfl
set_option maxRecDepth 100000 in
theorem ht_78 : mT 78 = none := rfl
set_option maxRecDepth 100000 in
theorem hm_78 : mcs 78 = (0, 0) := by decide +kernel
theorem ca_78 {d : Nat} {t : Nat} {p0 : Int32} {p1 : Int32} {p2 : Int64} {S : mS} {I : mI} {L : mL} {R : mR} {Q : mQ} : CA d 78 [.ref t, .int p0, .int p1, .long p2] S I L R Q = WP (d, 0, 0) 78 0 [some (.ref t), some (.int p0), some (.int p1), some (.long p2), none] [] S I L R Q := by
  unfold CA
  rw [hm_78, hn_78]
  rfl
set_option maxRecDepth 100000 in
theorem hc_79 : mC 79 = prog_12_method_5_code := rfl
set_option maxRecDepth 100000 in
theorem ho_79 : mO 79 = 1 := rfl
set_option maxRecDepth 100000 in
theorem hn_79 : mN 79 = 4 := rfl
set_option maxRecDepth 100000 in
theorem ht_79 : mT 79 = (Option.some FieldType.boolean) := rfl
set_option maxRecDepth 100000 in
theorem hm_79 : mcs 79 = (0, 0) := by decide +kernel
theorem ca_79 {d : Nat} {t : Nat} {p0 : Int32} {p1 : Int32} {p2 : Int32} {S : mS} {I : mI} {L : mL} {R : mR} {Q : mQ} : CA d 79 [.ref t, .int p0, .int p1, .int p2] S I L R Q = WP (d, 0, 0) 79 0 [some (.ref t), some (.int p0), some (.int p1), some (.int p2)] [] S I L R Q := by
  unfold CA
  rw [hm_79, hn_79]
  rfl
set_option maxRecDepth 100000 in
theorem hc_80 : mC 80 = prog_12_method_12_code := rfl
set_option maxRecDepth 100000 in
theorem ho_80 : mO 80 = 1 := rfl
set_option maxRecDepth 100000 in
theorem hn_80 : mN 80 = 3 := rfl
set_option maxRecDepth 100000 in
theorem ht_80 : mT 80 = (Option.some FieldType.long) := rfl
set_option maxRecDepth 100000 in
theorem hm_80 : mcs 80 = (0, 0) := by decide +kernel
theorem ca_80 {d : Nat} {p0 : Int32} {p1 : Int64} {S : mS} {I : mI} {L : mL} {R : mR} {Q : mQ} : CA d 80 [.int p0, .long p1] S I L R Q = WP (d, 0, 0) 80 0 [some (.int p0), some (.long p1), none] [] S I L R Q := by
  unfold CA
  rw [hm_80, hn_80]
  rfl
set_option maxRecDepth 100000 in
theorem hc_81 : mC 81 = prog_12_method_10_code := rfl
set_option maxRecDepth 100000 in
theorem ho_81 : mO 81 = 1 := rfl
set_option maxRecDepth 100000 in
theorem hn_81 : mN 81 = 3 := rfl
set_option maxRecDepth 100000 in
theorem ht_81 : mT 81 = (Option.some FieldType.long) := rfl
set_option maxRecDepth 100000 in
theorem hm_81 : mcs 81 = (0, 0) := by decide +kernel
theorem ca_81 {d : Nat} {t : Nat} {p0 : Int32} {p1 : Int32} {S : mS} {I : mI} {L : mL} {R : mR} {Q : mQ} : CA d 81 [.ref t, .int p0, .int p1] S I L R Q = WP (d, 0, 0) 81 0 [some (.ref t), some (.int p0), some (.int p1)] [] S I L R Q := by
  unfold CA
  rw [hm_81, hn_81]
  rfl
set_option maxRecDepth 100000 in
theorem hc_82 : mC 82 = prog_12_method_4_code := rfl
set_option maxRecDepth 100000 in
theorem ho_82 : mO 82 = 1 := rfl
set_option maxRecDepth 100000 in
theorem hn_82 : mN 82 = 3 := rfl
set_option maxRecDepth 100000 in
theorem ht_82 : mT 82 = (Option.some FieldType.boolean) := rfl
set_option maxRecDepth 100000 in
theorem hm_82 : mcs 82 = (0, 0) := by decide +kernel
theorem ca_82 {d : Nat} {t : Nat} {p0 : Int32} {p1 : Int32} {S : mS} {I : mI} {L : mL} {R : mR} {Q : mQ} : CA d 82 [.ref t, .int p0, .int p1] S I L R Q = WP (d, 0, 0) 82 0 [some (.ref t), some (.int p0), some (.int p1)] [] S I L R Q := by
  unfold CA
  rw [hm_82, hn_82]
  rfl
set_option maxRecDepth 100000 in
theorem hc_83 : mC 83 = prog_12_method_11_code := rfl
set_option maxRecDepth 100000 in
theorem ho_83 : mO 83 = 1 := rfl
set_option maxRecDepth 100000 in
theorem hn_83 : mN 83 = 6 := rfl
set_option maxRecDepth 100000 in
theorem ht_83 : mT 83 = none := rfl
set_option maxRecDepth 100000 in
theorem hm_83 : mcs 83 = (0, 0) := by decide +kernel
theorem ca_83 {d : Nat} {t : Nat} {p0 : Int32} {p1 : Int32} {p2 : Int32} {p3 : Int32} {p4 : Int32} {S : mS} {I : mI} {L : mL} {R : mR} {Q : mQ} : CA d 83 [.ref t, .int p0, .int p1, .int p2, .int p3, .int p4] S I L R Q = WP (d, 0, 0) 83 0 [some (.ref t), some (.int p0), some (.int p1), some (.int p2), some (.int p3), some (.int p4)] [] S I L R Q := by
  unfold CA
  rw [hm_83, hn_83]
  rfl
set_option maxRecDepth 100000 in
theorem hc_84 : mC 84 = prog_12_method_7_code := rfl
set_option maxRecDepth 100000 in
theorem ho_84 : mO 84 = 1 := rfl
set_option maxRecDepth 100000 in
theorem hn_84 : mN 84 = 3 := rfl
set_option maxRecDepth 100000 in
theorem ht_84 : mT 84 = (Option.some FieldType.int) := rfl
set_option maxRecDepth 100000 in
theorem hm_84 : mcs 84 = (0, 0) := by decide +kernel
theorem ca_84 {d : Nat} {t : Nat} {p0 : Int32} {p1 : Int32} {S : mS} {I : mI} {L : mL} {R : mR} {Q : mQ} : CA d 84 [.ref t, .int p0, .int p1] S I L R Q = WP (d, 0, 0) 84 0 [some (.ref t), some (.int p0), some (.int p1)] [] S I L R Q := by
  unfold CA
  rw [hm_84, hn_84]
  rfl
set_option maxRecDepth 100000 in
theorem hc_85 : mC 85 = prog_11_method_1_code := rfl
set_option maxRecDepth 100000 in
theorem ho_85 : mO 85 = 2 := rfl
set_option maxRecDepth 100000 in
theorem hn_85 : mN 85 = 1 := rfl
set_option maxRecDepth 100000 in
theorem ht_85 : mT 85 = none := rfl
set_option maxRecDepth 100000 in
theorem hm_85 : mcs 85 = (60, 2000) := by decide +kernel
theorem ca_85 {d : Nat} {t : Nat} {S : mS} {I : mI} {L : mL} {R : mR} {Q : mQ} : CA d 85 [.ref t] S I L R Q = WP (d, 60, 2000) 85 0 [some (.ref t)] [] S I L R Q := by
  unfold CA
  rw [hm_85, hn_85]
  rfl
set_option maxRecDepth 100000 in
theorem hc_86 : mC 86 = prog_11_method_2_code := rfl
set_option maxRecDepth 100000 in
theorem ho_86 : mO 86 = 2 := rfl
set_option maxRecDepth 100000 in
theorem hn_86 : mN 86 = 1 := rfl
set_option maxRecDepth 100000 in
theorem ht_86 : mT 86 = none := rfl
set_option maxRecDepth 100000 in
theorem hm_86 : mcs 86 = (0, 0) := by decide +kernel
theorem ca_86 {d : Nat} {t : Nat} {S : mS} {I : mI} {L : mL} {R : mR} {Q : mQ} : CA d 86 [.ref t] S I L R Q = WP (d, 0, 0) 86 0 [some (.ref t)] [] S I L R Q := by
  unfold CA
  rw [hm_86, hn_86]
  rfl
set_option maxRecDepth 100000 in
theorem hc_87 : mC 87 = prog_11_method_3_code := rfl
set_option maxRecDepth 100000 in
theorem ho_87 : mO 87 = 2 := rfl
set_option maxRecDepth 100000 in
theorem hn_87 : mN 87 = 2 := rfl
set_option maxRecDepth 100000 in
theorem ht_87 : mT 87 = none := rfl
set_option maxRecDepth 100000 in
theorem hm_87 : mcs 87 = (0, 0) := by decide +kernel
theorem ca_87 {d : Nat} {t : Nat} {p0 : Nat} {S : mS} {I : mI} {L : mL} {R : mR} {Q : mQ} : CA d 87 [.ref t, .ref p0] S I L R Q = WP (d, 0, 0) 87 0 [some (.ref t), some (.ref p0)] [] S I L R Q := by
  unfold CA
  rw [hm_87, hn_87]
  rfl
set_option maxRecDepth 100000 in
theorem hc_88 : mC 88 = prog_11_method_4_code := rfl
set_option maxRecDepth 100000 in
theorem ho_88 : mO 88 = 2 := rfl
set_option maxRecDepth 100000 in
theorem hn_88 : mN 88 = 4 := rfl
set_option maxRecDepth 100000 in
theorem ht_88 : mT 88 = (Option.some FieldType.boolean) := rfl
set_option maxRecDepth 100000 in
theorem hm_88 : mcs 88 = (0, 0) := by decide +kernel
theorem ca_88 {d : Nat} {t : Nat} {p0 : Int32} {p1 : Int32} {p2 : Int32} {S : mS} {I : mI} {L : mL} {R : mR} {Q : mQ} : CA d 88 [.ref t, .int p0, .int p1, .int p2] S I L R Q = WP (d, 0, 0) 88 0 [some (.ref t), some (.int p0), some (.int p1), some (.int p2)] [] S I L R Q := by
  unfold CA
  rw [hm_88, hn_88]
  rfl
set_option maxRecDepth 100000 in
theorem hc_89 : mC 89 = prog_11_method_5_code := rfl
set_option maxRecDepth 100000 in
theorem ho_89 : mO 89 = 2 := rfl
set_option maxRecDepth 100000 in
theorem hn_89 : mN 89 = 5 := rfl
set_option maxRecDepth 100000 in
theorem ht_89 : mT 89 = (Option.some FieldType.int) := rfl
set_option maxRecDepth 100000 in
theorem hm_89 : mcs 89 = (0, 0) := by decide +kernel
theorem ca_89 {d : Nat} {t : Nat} {p0 : Int32} {p1 : Int32} {p2 : Int32} {S : mS} {I : mI} {L : mL} {R : mR} {Q : mQ} : CA d 89 [.ref t, .int p0, .int p1, .int p2] S I L R Q = WP (d, 0, 0) 89 0 [some (.ref t), some (.int p0), some (.int p1), some (.int p2), none] [] S I L R Q := by
  unfold CA
  rw [hm_89, hn_89]
  rfl
set_option maxRecDepth 100000 in
theorem hc_90 : mC 90 = prog_11_method_7_code := rfl
set_option maxRecDepth 100000 in
theorem ho_90 : mO 90 = 2 := rfl
set_option maxRecDepth 100000 in
theorem hn_90 : mN 90 = 4 := rfl
set_option maxRecDepth 100000 in
theorem ht_90 : mT 90 = (Option.some FieldType.boolean) := rfl
set_option maxRecDepth 100000 in
theorem hm_90 : mcs 90 = (0, 0) := by decide +kernel
theorem ca_90 {d : Nat} {t : Nat} {p0 : Int32} {p1 : Int32} {p2 : Int32} {S : mS} {I : mI} {L : mL} {R : mR} {Q : mQ} : CA d 90 [.ref t, .int p0, .int p1, .int p2] S I L R Q = WP (d, 0, 0) 90 0 [some (.ref t), some (.int p0), some (.int p1), some (.int p2)] [] S I L R Q := by
  unfold CA
  rw [hm_90, hn_90]
  rfl
set_option maxRecDepth 100000 in
theorem hc_91 : mC 91 = prog_11_method_6_code := rfl
set_option maxRecDepth 100000 in
theorem ho_91 : mO 91 = 2 := rfl
set_option maxRecDepth 100000 in
theorem hn_91 : mN 91 = 6 := rfl
set_option maxRecDepth 100000 in
theorem ht_91 : mT 91 = (Option.some FieldType.boolean) := rfl
set_option maxRecDepth 100000 in
theorem hm_91 : mcs 91 = (0, 0) := by decide +kernel
theorem ca_91 {d : Nat} {t : Nat} {p0 : Int32} {p1 : Int32} {S : mS} {I : mI} {L : mL} {R : mR} {Q : mQ} : CA d 91 [.ref t, .int p0, .int p1] S I L R Q = WP (d, 0, 0) 91 0 [some (.ref t), some (.int p0), some (.int p1), none, none, none] [] S I L R Q := by
  unfold CA
  rw [hm_91, hn_91]
  rfl
set_option maxRecDepth 100000 in
theorem hc_92 : mC 92 = prog_11_method_8_code := rfl
set_option maxRecDepth 100000 in
theorem ho_92 : mO 92 = 2 := rfl
set_option maxRecDepth 100000 in
theorem hn_92 : mN 92 = 4 := rfl
set_option maxRecDepth 100000 in
theorem ht_92 : mT 92 = none := rfl
set_option maxRecDepth 100000 in
theorem hm_92 : mcs 92 = (0, 0) := by decide +kernel
theorem ca_92 {d : Nat} {t : Nat} {p0 : Int32} {p1 : Int32} {p2 : Int32} {S : mS} {I : mI} {L : mL} {R : mR} {Q : mQ} : CA d 92 [.ref t, .int p0, .int p1, .int p2] S I L R Q = WP (d, 0, 0) 92 0 [some (.ref t), some (.int p0), some (.int p1), some (.int p2)] [] S I L R Q := by
  unfold CA
  rw [hm_92, hn_92]
  rfl
set_option maxRecDepth 100000 in
theorem hc_93 : mC 93 = prog_3_method_1_code := rfl
set_option maxRecDepth 100000 in
theorem ho_93 : mO 93 = 3 := rfl
set_option maxRecDepth 100000 in
theorem hn_93 : mN 93 = 1 := rfl
set_option maxRecDepth 100000 in
theorem ht_93 : mT 93 = none := rfl
set_option maxRecDepth 100000 in
theorem hm_93 : mcs 93 = (10, 400) := by decide +kernel
theorem ca_93 {d : Nat} {t : Nat} {S : mS} {I : mI} {L : mL} {R : mR} {Q : mQ} : CA d 93 [.ref t] S I L R Q = WP (d, 10, 400) 93 0 [some (.ref t)] [] S I L R Q := by
  unfold CA
  rw [hm_93, hn_93]
  rfl
set_option maxRecDepth 100000 in
theorem hc_94 : mC 94 = prog_3_method_2_code := rfl
set_option maxRecDepth 100000 in
theorem ho_94 : mO 94 = 3 := rfl
set_option maxRecDepth 100000 in
theorem hn_94 : mN 94 = 1 := rfl
set_option maxRecDepth 100000 in
theorem ht_94 : mT 94 = none := rfl
set_option maxRecDepth 100000 in
theorem hm_94 : mcs 94 = (0, 0) := by decide +kernel
theorem ca_94 {d : Nat} {t : Nat} {S : mS} {I : mI} {L : mL} {R : mR} {Q : mQ} : CA d 94 [.ref t] S I L R Q = WP (d, 0, 0) 94 0 [some (.ref t)] [] S I L R Q := by
  unfold CA
  rw [hm_94, hn_94]
  rfl
set_option maxRecDepth 100000 in
theorem hc_95 : mC 95 = prog_3_method_3_code := rfl
set_option maxRecDepth 100000 in
theorem ho_95 : mO 95 = 3 := rfl
set_option maxRecDepth 100000 in
theorem hn_95 : mN 95 = 7 := rfl
set_option maxRecDepth 100000 in
theorem ht_95 : mT 95 = none := rfl
set_option maxRecDepth 100000 in
theorem hm_95 : mcs 95 = (0, 0) := by decide +kernel
theorem ca_95 {d : Nat} {t : Nat} {p0 : Int32} {p1 : Int32} {p2 : Int32} {p3 : Int32} {p4 : Int32} {S : mS} {I : mI} {L : mL} {R : mR} {Q : mQ} : CA d 95 [.ref t, .int p0, .int p1, .int p2, .int p3, .int p4] S I L R Q = WP (d, 0, 0) 95 0 [some (.ref t), some (.int p0), some (.int p1), some (.int p2), some (.int p3), some (.int p4), none] [] S I L R Q := by
  unfold CA
  rw [hm_95, hn_95]
  rfl
set_option maxRecDepth 100000 in
theorem hc_96 : mC 96 = prog_3_method_7_code := rfl
set_option maxRecDepth 100000 in
theorem ho_96 : mO 96 = 3 := rfl
set_option maxRecDepth 100000 in
theorem hn_96 : mN 96 = 3 := rfl
set_option maxRecDepth 100000 in
theorem ht_96 : mT 96 = (Option.some FieldType.int) := rfl
set_option maxRecDepth 100000 in
theorem hm_96 : mcs 96 = (0, 0) := by decide +kernel
theorem ca_96 {d : Nat} {t : Nat} {p0 : Int32} {p1 : Int32} {S : mS} {I : mI} {L : mL} {R : mR} {Q : mQ} : CA d 96 [.ref t, .int p0, .int p1] S I L R Q = WP (d, 0, 0) 96 0 [some (.ref t), some (.int p0), some (.int p1)] [] S I L R Q := by
  unfold CA
  rw [hm_96, hn_96]
  rfl
set_option maxRecDepth 100000 in
theorem hc_97 : mC 97 = prog_3_method_5_code := rfl
set_option maxRecDepth 100000 in
theorem ho_97 : mO 97 = 3 := rfl
set_option maxRecDepth 100000 in
theorem hn_97 : mN 97 = 2 := rfl
set_option maxRecDepth 100000 in
theorem ht_97 : mT 97 = (Option.some FieldType.boolean) := rfl
set_option maxRecDepth 100000 in
theorem hm_97 : mcs 97 = (0, 0) := by decide +kernel
theorem ca_97 {d : Nat} {t : Nat} {p0 : Int32} {S : mS} {I : mI} {L : mL} {R : mR} {Q : mQ} : CA d 97 [.ref t, .int p0] S I L R Q = WP (d, 0, 0) 97 0 [some (.ref t), some (.int p0)] [] S I L R Q := by
  unfold CA
  rw [hm_97, hn_97]
  rfl
set_option maxRecDepth 100000 in
theorem hc_98 : mC 98 = prog_3_method_12_code := rfl
set_option maxRecDepth 100000 in
theorem ho_98 : mO 98 = 3 := rfl
set_option maxRecDepth 100000 in
theorem hn_98 : mN 98 = 2 := rfl
set_option maxRecDepth 100000 in
theorem ht_98 : mT 98 = none := rfl
set_option maxRecDepth 100000 in
theorem hm_98 : mcs 98 = (0, 0) := by decide +kernel
theorem ca_98 {d : Nat} {t : Nat} {p0 : Int32} {S : mS} {I : mI} {L : mL} {R : mR} {Q : mQ} : CA d 98 [.ref t, .int p0] S I L R Q = WP (d, 0, 0) 98 0 [some (.ref t), some (.int p0)] [] S I L R Q := by
  unfold CA
  rw [hm_98, hn_98]
  rfl
set_option maxRecDepth 100000 in
theorem hc_99 : mC 99 = prog_3_method_4_code := rfl
set_option maxRecDepth 100000 in
theorem ho_99 : mO 99 = 3 := rfl
set_option maxRecDepth 100000 in
theorem hn_99 : mN 99 = 2 := rfl
set_option maxRecDepth 100000 in
theorem ht_99 : mT 99 = none := rfl
set_option maxRecDepth 100000 in
theorem hm_99 : mcs 99 = (0, 0) := by decide +kernel
theorem ca_99 {d : Nat} {t : Nat} {p0 : Nat} {S : mS} {I : mI} {L : mL} {R : mR} {Q : mQ} : CA d 99 [.ref t, .ref p0] S I L R Q = WP (d, 0, 0) 99 0 [some (.ref t), some (.ref p0)] [] S I L R Q := by
  unfold CA
  rw [hm_99, hn_99]
  rfl
set_option maxRecDepth 100000 in
theorem hc_100 : mC 100 = prog_3_method_11_code := rfl
set_option maxRecDepth 100000 in
theorem ho_100 : mO 100 = 3 := rfl
set_option maxRecDepth 100000 in
theorem hn_100 : mN 100 = 2 := rfl
set_option maxRecDepth 100000 in
theorem ht_100 : mT 100 = (Option.some FieldType.boolean) := rfl
set_option maxRecDepth 100000 in
theorem hm_100 : mcs 100 = (0, 0) := by decide +kernel
theorem ca_100 {d : Nat} {t : Nat} {p0 : Int32} {S : mS} {I : mI} {L : mL} {R : mR} {Q : mQ} : CA d 100 [.ref t, .int p0] S I L R Q = WP (d, 0, 0) 100 0 [some (.ref t), some (.int p0)] [] S I L R Q := by
  unfold CA
  rw [hm_100, hn_100]
  rfl
set_option maxRecDepth 100000 in
theorem hc_101 : mC 101 = prog_3_method_8_code := rfl
set_option maxRecDepth 100000 in
theorem ho_101 : mO 101 = 3 := rfl
set_option maxRecDepth 100000 in
theorem hn_101 : mN 101 = 2 := rfl
set_option maxRecDepth 100000 in
theorem ht_101 : mT 101 = (Option.some FieldType.int) := rfl
set_option maxRecDepth 100000 in
theorem hm_101 : mcs 101 = (0, 0) := by decide +kernel
theorem ca_101 {d : Nat} {t : Nat} {p0 : Int32} {S : mS} {I : mI} {L : mL} {R : mR} {Q : mQ} : CA d 101 [.ref t, .int p0] S I L R Q = WP (d, 0, 0) 101 0 [some (.ref t), some (.int p0)] [] S I L R Q := by
  unfold CA
  rw [hm_101, hn_101]
  rfl
set_option maxRecDepth 100000 in
theorem hc_102 : mC 102 = prog_3_method_6_code := rfl
set_option maxRecDepth 100000 in
theorem ho_102 : mO 102 = 3 := rfl
set_option maxRecDepth 100000 in
theorem hn_102 : mN 102 = 2 := rfl
set_option maxRecDepth 100000 in
theorem ht_102 : mT 102 = (Option.some FieldType.boolean) := rfl
set_option maxRecDepth 100000 in
theorem hm_102 : mcs 102 = (0, 0) := by decide +kernel
theorem ca_102 {d : Nat} {t : Nat} {p0 : Int32} {S : mS} {I : mI} {L : mL} {R : mR} {Q : mQ} : CA d 102 [.ref t, .int p0] S I L R Q = WP (d, 0, 0) 102 0 [some (.ref t), some (.int p0)] [] S I L R Q := by
  unfold CA
  rw [hm_102, hn_102]
  rfl
set_option maxRecDepth 100000 in
theorem hc_103 : mC 103 = prog_3_method_9_code := rfl
set_option maxRecDepth 100000 in
theorem ho_103 : mO 103 = 3 := rfl
set_option maxRecDepth 100000 in
theorem hn_103 : mN 103 = 2 := rfl
set_option maxRecDepth 100000 in
theorem ht_103 : mT 103 = (Option.some FieldType.int) := rfl
set_option maxRecDepth 100000 in
theorem hm_103 : mcs 103 = (0, 0) := by decide +kernel
theorem ca_103 {d : Nat} {t : Nat} {p0 : Int32} {S : mS} {I : mI} {L : mL} {R : mR} {Q : mQ} : CA d 103 [.ref t, .int p0] S I L R Q = WP (d, 0, 0) 103 0 [some (.ref t), some (.int p0)] [] S I L R Q := by
  unfold CA
  rw [hm_103, hn_103]
  rfl
set_option maxRecDepth 100000 in
theorem hc_104 : mC 104 = prog_3_method_10_code := rfl
set_option maxRecDepth 100000 in
theorem ho_104 : mO 104 = 3 := rfl
set_option maxRecDepth 100000 in
theorem hn_104 : mN 104 = 5 := rfl
set_option maxRecDepth 100000 in
theorem ht_104 : mT 104 = (Option.some FieldType.int) := rfl
set_option maxRecDepth 100000 in
theorem hm_104 : mcs 104 = (0, 0) := by decide +kernel
theorem ca_104 {d : Nat} {t : Nat} {p0 : Int32} {p1 : Int32} {S : mS} {I : mI} {L : mL} {R : mR} {Q : mQ} : CA d 104 [.ref t, .int p0, .int p1] S I L R Q = WP (d, 0, 0) 104 0 [some (.ref t), some (.int p0), some (.int p1), none, none] [] S I L R Q := by
  unfold CA
  rw [hm_104, hn_104]
  rfl
set_option maxRecDepth 100000 in
theorem hc_105 : mC 105 = prog_3_method_13_code := rfl
set_option maxRecDepth 100000 in
theorem ho_105 : mO 105 = 3 := rfl
set_option maxRecDepth 100000 in
theorem hn_105 : mN 105 = 2 := rfl
set_option maxRecDepth 100000 in
theorem ht_105 : mT 105 = none := rfl
set_option maxRecDepth 100000 in
theorem hm_105 : mcs 105 = (0, 0) := by decide +kernel
theorem ca_105 {d : Nat} {t : Nat} {p0 : Int32} {S : mS} {I : mI} {L : mL} {R : mR} {Q : mQ} : CA d 105 [.ref t, .int p0] S I L R Q = WP (d, 0, 0) 105 0 [some (.ref t), some (.int p0)] [] S I L R Q := by
  unfold CA
  rw [hm_105, hn_105]
  rfl
set_option maxRecDepth 100000 in
theorem hc_106 : mC 106 = prog_3_method_14_code := rfl
set_option maxRecDepth 100000 in
theorem ho_106 : mO 106 = 3 := rfl
set_option maxRecDepth 100000 in
theorem hn_106 : mN 106 = 6 := rfl
set_option maxRecDepth 100000 in
theorem ht_106 : mT 106 = (Option.some FieldType.long) := rfl
set_option maxRecDepth 100000 in
theorem hm_106 : mcs 106 = (0, 0) := by decide +kernel
theorem ca_106 {d : Nat} {t : Nat} {p0 : Int32} {S : mS} {I : mI} {L : mL} {R : mR} {Q : mQ} : CA d 106 [.ref t, .int p0] S I L R Q = WP (d, 0, 0) 106 0 [some (.ref t), some (.int p0), none, none, none, none] [] S I L R Q := by
  unfold CA
  rw [hm_106, hn_106]
  rfl
set_option maxRecDepth 100000 in
theorem hc_107 : mC 107 = prog_2_method_1_code := rfl
set_option maxRecDepth 100000 in
theorem ho_107 : mO 107 = 4 := rfl
set_option maxRecDepth 100000 in
theorem hn_107 : mN 107 = 1 := rfl
set_option maxRecDepth 100000 in
theorem ht_107 : mT 107 = none := rfl
set_option maxRecDepth 100000 in
theorem hm_107 : mcs 107 = (10, 400) := by decide +kernel
theorem ca_107 {d : Nat} {t : Nat} {S : mS} {I : mI} {L : mL} {R : mR} {Q : mQ} : CA d 107 [.ref t] S I L R Q = WP (d, 10, 400) 107 0 [some (.ref t)] [] S I L R Q := by
  unfold CA
  rw [hm_107, hn_107]
  rfl
set_option maxRecDepth 100000 in
theorem hc_108 : mC 108 = prog_2_method_6_code := rfl
set_option maxRecDepth 100000 in
theorem ho_108 : mO 108 = 4 := rfl
set_option maxRecDepth 100000 in
theorem hn_108 : mN 108 = 4 := rfl
set_option maxRecDepth 100000 in
theorem ht_108 : mT 108 = (Option.some FieldType.int) := rfl
set_option maxRecDepth 100000 in
theorem hm_108 : mcs 108 = (0, 0) := by decide +kernel
theorem ca_108 {d : Nat} {t : Nat} {p0 : Int64} {S : mS} {I : mI} {L : mL} {R : mR} {Q : mQ} : CA d 108 [.ref t, .long p0] S I L R Q = WP (d, 0, 0) 108 0 [some (.ref t), some (.long p0), none, none] [] S I L R Q := by
  unfold CA
  rw [hm_108, hn_108]
  rfl
set_option maxRecDepth 100000 in
theorem hc_109 : mC 109 = prog_2_method_7_code := rfl
set_option maxRecDepth 100000 in
theorem ho_109 : mO 109 = 4 := rfl
set_option maxRecDepth 100000 in
theorem hn_109 : mN 109 = 8 := rfl
set_option maxRecDepth 100000 in
theorem ht_109 : mT 109 = none := rfl
set_option maxRecDepth 100000 in
theorem hm_109 : mcs 109 = (0, 0) := by decide +kernel
theorem ca_109 {d : Nat} {t : Nat} {p0 : Int64} {p1 : Int32} {p2 : Int32} {p3 : Int32} {p4 : Int32} {p5 : Int32} {S : mS} {I : mI} {L : mL} {R : mR} {Q : mQ} : CA d 109 [.ref t, .long p0, .int p1, .int p2, .int p3, .int p4, .int p5] S I L R Q = WP (d, 0, 0) 109 0 [some (.ref t), some (.long p0), none, some (.int p1), some (.int p2), some (.int p3), some (.int p4), some (.int p5)] [] S I L R Q := by
  unfold CA
  rw [hm_109, hn_109]
  rfl
set_option maxRecDepth 100000 in
theorem hc_110 : mC 110 = prog_2_method_2_code := rfl
set_option maxRecDepth 100000 in
theorem ho_110 : mO 110 = 4 := rfl
set_option maxRecDepth 100000 in
theorem hn_110 : mN 110 = 2 := rfl
set_option maxRecDepth 100000 in
theorem ht_110 : mT 110 = none := rfl
set_option maxRecDepth 100000 in
theorem hm_110 : mcs 110 = (0, 0) := by decide +kernel
theorem ca_110 {d : Nat} {t : Nat} {p0 : Nat} {S : mS} {I : mI} {L : mL} {R : mR} {Q : mQ} : CA d 110 [.ref t, .ref p0] S I L R Q = WP (d, 0, 0) 110 0 [some (.ref t), some (.ref p0)] [] S I L R Q := by
  unfold CA
  rw [hm_110, hn_110]
  rfl
set_option maxRecDepth 100000 in
theorem hc_111 : mC 111 = prog_2_method_3_code := rfl
set_option maxRecDepth 100000 in
theorem ho_111 : mO 111 = 4 := rfl
set_option maxRecDepth 100000 in
theorem hn_111 : mN 111 = 2 := rfl
set_option maxRecDepth 100000 in
theorem ht_111 : mT 111 = (Option.some FieldType.boolean) := rfl
set_option maxRecDepth 100000 in
theorem hm_111 : mcs 111 = (0, 0) := by decide +kernel
theorem ca_111 {d : Nat} {t : Nat} {p0 : Int32} {S : mS} {I : mI} {L : mL} {R : mR} {Q : mQ} : CA d 111 [.ref t, .int p0] S I L R Q = WP (d, 0, 0) 111 0 [some (.ref t), some (.int p0)] [] S I L R Q := by
  unfold CA
  rw [hm_111, hn_111]
  rfl
set_option maxRecDepth 100000 in
theorem hc_112 : mC 112 = prog_2_method_5_code := rfl
set_option maxRecDepth 100000 in
theorem ho_112 : mO 112 = 4 := rfl
set_option maxRecDepth 100000 in
theorem hn_112 : mN 112 = 3 := rfl
set_option maxRecDepth 100000 in
theorem ht_112 : mT 112 = (Option.some FieldType.int) := rfl
set_option maxRecDepth 100000 in
theorem hm_112 : mcs 112 = (0, 0) := by decide +kernel
theorem ca_112 {d : Nat} {t : Nat} {S : mS} {I : mI} {L : mL} {R : mR} {Q : mQ} : CA d 112 [.ref t] S I L R Q = WP (d, 0, 0) 112 0 [some (.ref t), none, none] [] S I L R Q := by
  unfold CA
  rw [hm_112, hn_112]
  rfl
set_option maxRecDepth 100000 in
theorem hc_113 : mC 113 = prog_2_method_4_code := rfl
set_option maxRecDepth 100000 in
theorem ho_113 : mO 113 = 4 := rfl
set_option maxRecDepth 100000 in
theorem hn_113 : mN 113 = 2 := rfl
set_option maxRecDepth 100000 in
theorem ht_113 : mT 113 = (Option.some FieldType.int) := rfl
set_option maxRecDepth 100000 in
theorem hm_113 : mcs 113 = (0, 0) := by decide +kernel
theorem ca_113 {d : Nat} {t : Nat} {p0 : Int32} {S : mS} {I : mI} {L : mL} {R : mR} {Q : mQ} : CA d 113 [.ref t, .int p0] S I L R Q = WP (d, 0, 0) 113 0 [some (.ref t), some (.int p0)] [] S I L R Q := by
  unfold CA
  rw [hm_113, hn_113]
  rfl
set_option maxRecDepth 100000 in
theorem hc_114 : mC 114 = prog_10_method_1_code := rfl
set_option maxRecDepth 100000 in
theorem ho_114 : mO 114 = 5 := rfl
set_option maxRecDepth 100000 in
theorem hn_114 : mN 114 = 3 := rfl
set_option maxRecDepth 100000 in
theorem ht_114 : mT 114 = none := rfl
set_option maxRecDepth 100000 in
theorem hm_114 : mcs 114 = (10, 400) := by decide +kernel
theorem ca_114 {d : Nat} {t : Nat} {p0 : Nat} {p1 : Nat} {S : mS} {I : mI} {L : mL} {R : mR} {Q : mQ} : CA d 114 [.ref t, .ref p0, .ref p1] S I L R Q = WP (d, 10, 400) 114 0 [some (.ref t), some (.ref p0), some (.ref p1)] [] S I L R Q := by
  unfold CA
  rw [hm_114, hn_114]
  rfl
set_option maxRecDepth 100000 in
theorem hc_115 : mC 115 = prog_10_method_4_code := rfl
set_option maxRecDepth 100000 in
theorem ho_115 : mO 115 = 5 := rfl
set_option maxRecDepth 100000 in
theorem hn_115 : mN 115 = 3 := rfl
set_option maxRecDepth 100000 in
theorem ht_115 : mT 115 = none := rfl
set_option maxRecDepth 100000 in
theorem hm_115 : mcs 115 = (0, 0) := by decide +kernel
theorem ca_115 {d : Nat} {t : Nat} {p0 : Int32} {p1 : Int32} {S : mS} {I : mI} {L : mL} {R : mR} {Q : mQ} : CA d 115 [.ref t, .int p0, .int p1] S I L R Q = WP (d, 0, 0) 115 0 [some (.ref t), some (.int p0), some (.int p1)] [] S I L R Q := by
  unfold CA
  rw [hm_115, hn_115]
  rfl
set_option maxRecDepth 100000 in
theorem hc_116 : mC 116 = prog_10_method_5_code := rfl
set_option maxRecDepth 100000 in
theorem ho_116 : mO 116 = 5 := rfl
set_option maxRecDepth 100000 in
theorem hn_116 : mN 116 = 3 := rfl
set_option maxRecDepth 100000 in
theorem ht_116 : mT 116 = none := rfl
set_option maxRecDepth 100000 in
theorem hm_116 : mcs 116 = (0, 0) := by decide +kernel
theorem ca_116 {d : Nat} {t : Nat} {p0 : Int32} {p1 : Int32} {S : mS} {I : mI} {L : mL} {R : mR} {Q : mQ} : CA d 116 [.ref t, .int p0, .int p1] S I L R Q = WP (d, 0, 0) 116 0 [some (.ref t), some (.int p0), some (.int p1)] [] S I L R Q := by
  unfold CA
  rw [hm_116, hn_116]
  rfl
set_option maxRecDepth 100000 in
theorem hc_117 : mC 117 = prog_10_method_3_code := rfl
set_option maxRecDepth 100000 in
theorem ho_117 : mO 117 = 5 := rfl
set_option maxRecDepth 100000 in
theorem hn_117 : mN 117 = 1 := rfl
set_option maxRecDepth 100000 in
theorem ht_117 : mT 117 = none := rfl
set_option maxRecDepth 100000 in
theorem hm_117 : mcs 117 = (0, 0) := by decide +kernel
theorem ca_117 {d : Nat} {t : Nat} {S : mS} {I : mI} {L : mL} {R : mR} {Q : mQ} : CA d 117 [.ref t] S I L R Q = WP (d, 0, 0) 117 0 [some (.ref t)] [] S I L R Q := by
  unfold CA
  rw [hm_117, hn_117]
  rfl
set_option maxRecDepth 100000 in
theorem hc_118 : mC 118 = prog_10_method_2_code := rfl
set_option maxRecDepth 100000 in
theorem ho_118 : mO 118 = 5 := rfl
set_option maxRecDepth 100000 in
theorem hn_118 : mN 118 = 2 := rfl
set_option maxRecDepth 100000 in
theorem ht_118 : mT 118 = none := rfl
set_option maxRecDepth 100000 in
theorem hm_118 : mcs 118 = (0, 0) := by decide +kernel
theorem ca_118 {d : Nat} {t : Nat} {p0 : Nat} {S : mS} {I : mI} {L : mL} {R : mR} {Q : mQ} : CA d 118 [.ref t, .ref p0] S I L R Q = WP (d, 0, 0) 118 0 [some (.ref t), some (.ref p0)] [] S I L R Q := by
  unfold CA
  rw [hm_118, hn_118]
  rfl
set_option maxRecDepth 100000 in
theorem hc_119 : mC 119 = prog_10_method_16_code := rfl
set_option maxRecDepth 100000 in
theorem ho_119 : mO 119 = 5 := rfl
set_option maxRecDepth 100000 in
theorem hn_119 : mN 119 = 3 := rfl
set_option maxRecDepth 100000 in
theorem ht_119 : mT 119 = (Option.some FieldType.int) := rfl
set_option maxRecDepth 100000 in
theorem hm_119 : mcs 119 = (0, 0) := by decide +kernel
theorem ca_119 {d : Nat} {t : Nat} {S : mS} {I : mI} {L : mL} {R : mR} {Q : mQ} : CA d 119 [.ref t] S I L R Q = WP (d, 0, 0) 119 0 [some (.ref t), none, none] [] S I L R Q := by
  unfold CA
  rw [hm_119, hn_119]
  rfl
set_option maxRecDepth 100000 in
theorem hc_120 : mC 120 = prog_10_method_15_code := rfl
set_option maxRecDepth 100000 in
theorem ho_120 : mO 120 = 5 := rfl
set_option maxRecDepth 100000 in
theorem hn_120 : mN 120 = 2 := rfl
set_option maxRecDepth 100000 in
theorem ht_120 : mT 120 = (Option.some FieldType.boolean) := rfl
set_option maxRecDepth 100000 in
theorem hm_120 : mcs 120 = (0, 0) := by decide +kernel
theorem ca_120 {d : Nat} {t : Nat} {p0 : Int32} {S : mS} {I : mI} {L : mL} {R : mR} {Q : mQ} : CA d 120 [.ref t, .int p0] S I L R Q = WP (d, 0, 0) 120 0 [some (.ref t), some (.int p0)] [] S I L R Q := by
  unfold CA
  rw [hm_120, hn_120]
  rfl
set_option maxRecDepth 100000 in
theorem hc_121 : mC 121 = prog_10_method_6_code := rfl
set_option maxRecDepth 100000 in
theorem ho_121 : mO 121 = 5 := rfl
set_option maxRecDepth 100000 in
theorem hn_121 : mN 121 = 2 := rfl
set_option maxRecDepth 100000 in
theorem ht_121 : mT 121 = (Option.some FieldType.boolean) := rfl
set_option maxRecDepth 100000 in
theorem hm_121 : mcs 121 = (0, 0) := by decide +kernel
theorem ca_121 {d : Nat} {t : Nat} {p0 : Int32} {S : mS} {I : mI} {L : mL} {R : mR} {Q : mQ} : CA d 121 [.ref t, .int p0] S I L R Q = WP (d, 0, 0) 121 0 [some (.ref t), some (.int p0)] [] S I L R Q := by
  unfold CA
  rw [hm_121, hn_121]
  rfl
set_option maxRecDepth 100000 in
theorem hc_122 : mC 122 = prog_10_method_20_code := rfl
set_option maxRecDepth 100000 in
theorem ho_122 : mO 122 = 5 := rfl
set_option maxRecDepth 100000 in
theorem hn_122 : mN 122 = 3 := rfl
set_option maxRecDepth 100000 in
theorem ht_122 : mT 122 = (Option.some FieldType.int) := rfl
set_option maxRecDepth 100000 in
theorem hm_122 : mcs 122 = (0, 0) := by decide +kernel
theorem ca_122 {d : Nat} {t : Nat} {S : mS} {I : mI} {L : mL} {R : mR} {Q : mQ} : CA d 122 [.ref t] S I L R Q = WP (d, 0, 0) 122 0 [some (.ref t), none, none] [] S I L R Q := by
  unfold CA
  rw [hm_122, hn_122]
  rfl
set_option maxRecDepth 100000 in
theorem hc_123 : mC 123 = prog_10_method_21_code := rfl
set_option maxRecDepth 100000 in
theorem ho_123 : mO 123 = 5 := rfl
set_option maxRecDepth 100000 in
theorem hn_123 : mN 123 = 3 := rfl
set_option maxRecDepth 100000 in
theorem ht_123 : mT 123 = (Option.some FieldType.int) := rfl
set_option maxRecDepth 100000 in
theorem hm_123 : mcs 123 = (0, 0) := by decide +kernel
theorem ca_123 {d : Nat} {t : Nat} {S : mS} {I : mI} {L : mL} {R : mR} {Q : mQ} : CA d 123 [.ref t] S I L R Q = WP (d, 0, 0) 123 0 [some (.ref t), none, none] [] S I L R Q := by
  unfold CA
  rw [hm_123, hn_123]
  rfl
set_option maxRecDepth 100000 in
theorem hc_124 : mC 124 = prog_10_method_19_code := rfl
set_option maxRecDepth 100000 in
theorem ho_124 : mO 124 = 5 := rfl
set_option maxRecDepth 100000 in
theorem hn_124 : mN 124 = 4 := rfl
set_option maxRecDepth 100000 in
theorem ht_124 : mT 124 = (Option.some FieldType.int) := rfl
set_option maxRecDepth 100000 in
theorem hm_124 : mcs 124 = (0, 0) := by decide +kernel
theorem ca_124 {d : Nat} {t : Nat} {p0 : Int32} {S : mS} {I : mI} {L : mL} {R : mR} {Q : mQ} : CA d 124 [.ref t, .int p0] S I L R Q = WP (d, 0, 0) 124 0 [some (.ref t), some (.int p0), none, none] [] S I L R Q := by
  unfold CA
  rw [hm_124, hn_124]
  rfl
set_option maxRecDepth 100000 in
theorem hc_125 : mC 125 = prog_10_method_8_code := rfl
set_option maxRecDepth 100000 in
theorem ho_125 : mO 125 = 5 := rfl
set_option maxRecDepth 100000 in
theorem hn_125 : mN 125 = 2 := rfl
set_option maxRecDepth 100000 in
theorem ht_125 : mT 125 = (Option.some FieldType.int) := rfl
set_option maxRecDepth 100000 in
theorem hm_125 : mcs 125 = (0, 0) := by decide +kernel
theorem ca_125 {d : Nat} {t : Nat} {p0 : Int32} {S : mS} {I : mI} {L : mL} {R : mR} {Q : mQ} : CA d 125 [.ref t, .int p0] S I L R Q = WP (d, 0, 0) 125 0 [some (.ref t), some (.int p0)] [] S I L R Q := by
  unfold CA
  rw [hm_125, hn_125]
  rfl
set_option maxRecDepth 100000 in
theorem hc_126 : mC 126 = prog_10_method_7_code := rfl
set_option maxRecDepth 100000 in
theorem ho_126 : mO 126 = 5 := rfl
set_option maxRecDepth 100000 in
theorem hn_126 : mN 126 = 2 := rfl
set_option maxRecDepth 100000 in
theorem ht_126 : mT 126 = (Option.some FieldType.boolean) := rfl
set_option maxRecDepth 100000 in
theorem hm_126 : mcs 126 = (0, 0) := by decide +kernel
theorem ca_126 {d : Nat} {t : Nat} {p0 : Int32} {S : mS} {I : mI} {L : mL} {R : mR} {Q : mQ} : CA d 126 [.ref t, .int p0] S I L R Q = WP (d, 0, 0) 126 0 [some (.ref t), some (.int p0)] [] S I L R Q := by
  unfold CA
  rw [hm_126, hn_126]
  rfl
set_option maxRecDepth 100000 in
theorem hc_127 : mC 127 = prog_10_method_13_code := rfl
set_option maxRecDepth 100000 in
theorem ho_127 : mO 127 = 5 := rfl
set_option maxRecDepth 100000 in
theorem hn_127 : mN 127 = 5 := rfl
set_option maxRecDepth 100000 in
theorem ht_127 : mT 127 = (Option.some FieldType.int) := rfl
set_option maxRecDepth 100000 in
theorem hm_127 : mcs 127 = (0, 0) := by decide +kernel
theorem ca_127 {d : Nat} {t : Nat} {p0 : Int32} {S : mS} {I : mI} {L : mL} {R : mR} {Q : mQ} : CA d 127 [.ref t, .int p0] S I L R Q = WP (d, 0, 0) 127 0 [some (.ref t), some (.int p0), none, none, none] [] S I L R Q := by
  unfold CA
  rw [hm_127, hn_127]
  rfl
set_option maxRecDepth 100000 in
theorem hc_128 : mC 128 = prog_10_method_9_code := rfl
set_option maxRecDepth 100000 in
theorem ho_128 : mO 128 = 5 := rfl
set_option maxRecDepth 100000 in
theorem hn_128 : mN 128 = 5 := rfl
set_option maxRecDepth 100000 in
theorem ht_128 : mT 128 = (Option.some FieldType.boolean) := rfl
set_option maxRecDepth 100000 in
theorem hm_128 : mcs 128 = (0, 0) := by decide +kernel
theorem ca_128 {d : Nat} {t : Nat} {p0 : Int32} {S : mS} {I : mI} {L : mL} {R : mR} {Q : mQ} : CA d 128 [.ref t, .int p0] S I L R Q = WP (d, 0, 0) 128 0 [some (.ref t), some (.int p0), none, none, none] [] S I L R Q := by
  unfold CA
  rw [hm_128, hn_128]
  rfl
set_option maxRecDepth 100000 in
theorem hc_129 : mC 129 = prog_10_method_10_code := rfl
set_option maxRecDepth 100000 in
theorem ho_129 : mO 129 = 5 := rfl
set_option maxRecDepth 100000 in
theorem hn_129 : mN 129 = 8 := rfl
set_option maxRecDepth 100000 in
theorem ht_129 : mT 129 = (Option.some FieldType.boolean) := rfl
set_option maxRecDepth 100000 in
theorem hm_129 : mcs 129 = (0, 0) := by decide +kernel
theorem ca_129 {d : Nat} {t : Nat} {p0 : Int32} {p1 : Int32} {S : mS} {I : mI} {L : mL} {R : mR} {Q : mQ} : CA d 129 [.ref t, .int p0, .int p1] S I L R Q = WP (d, 0, 0) 129 0 [some (.ref t), some (.int p0), some (.int p1), none, none, none, none, none] [] S I L R Q := by
  unfold CA
  rw [hm_129, hn_129]
  rfl
set_option maxRecDepth 100000 in
theorem hc_130 : mC 130 = prog_10_method_11_code := rfl
set_option maxRecDepth 100000 in
theorem ho_130 : mO 130 = 5 := rfl
set_option maxRecDepth 100000 in
theorem hn_130 : mN 130 = 5 := rfl
set_option maxRecDepth 100000 in
theorem ht_130 : mT 130 = (Option.some FieldType.boolean) := rfl
set_option maxRecDepth 100000 in
theorem hm_130 : mcs 130 = (0, 0) := by decide +kernel
theorem ca_130 {d : Nat} {t : Nat} {p0 : Int32} {S : mS} {I : mI} {L : mL} {R : mR} {Q : mQ} : CA d 130 [.ref t, .int p0] S I L R Q = WP (d, 0, 0) 130 0 [some (.ref t), some (.int p0), none, none, none] [] S I L R Q := by
  unfold CA
  rw [hm_130, hn_130]
  rfl
set_option maxRecDepth 100000 in
theorem hc_131 : mC 131 = prog_10_method_12_code := rfl
set_option maxRecDepth 100000 in
theorem ho_131 : mO 131 = 5 := rfl
set_option maxRecDepth 100000 in
theorem hn_131 : mN 131 = 5 := rfl
set_option maxRecDepth 100000 in
theorem ht_131 : mT 131 = none := rfl
set_option maxRecDepth 100000 in
theorem hm_131 : mcs 131 = (0, 0) := by decide +kernel
theorem ca_131 {d : Nat} {t : Nat} {p0 : Int32} {S : mS} {I : mI} {L : mL} {R : mR} {Q : mQ} : CA d 131 [.ref t, .int p0] S I L R Q = WP (d, 0, 0) 131 0 [some (.ref t), some (.int p0), none, none, none] [] S I L R Q := by
  unfold CA
  rw [hm_131, hn_131]
  rfl
set_option maxRecDepth 100000 in
theorem hc_132 : mC 132 = prog_10_method_14_code := rfl
set_option maxRecDepth 100000 in
theorem ho_132 : mO 132 = 5 := rfl
set_option maxRecDepth 100000 in
theorem hn_132 : mN 132 = 7 := rfl
set_option maxRecDepth 100000 in
theorem ht_132 : mT 132 = (Option.some FieldType.int) := rfl
set_option maxRecDepth 100000 in
theorem hm_132 : mcs 132 = (0, 0) := by decide +kernel
theorem ca_132 {d : Nat} {t : Nat} {p0 : Int32} {p1 : Int32} {S : mS} {I : mI} {L : mL} {R : mR} {Q : mQ} : CA d 132 [.ref t, .int p0, .int p1] S I L R Q = WP (d, 0, 0) 132 0 [some (.ref t), some (.int p0), some (.int p1), none, none, none, none] [] S I L R Q := by
  unfold CA
  rw [hm_132, hn_132]
  rfl
set_option maxRecDepth 100000 in
theorem hc_133 : mC 133 = prog_10_method_17_code := rfl
set_option maxRecDepth 100000 in
theorem ho_133 : mO 133 = 5 := rfl
set_option maxRecDepth 100000 in
theorem hn_133 : mN 133 = 3 := rfl
set_option maxRecDepth 100000 in
theorem ht_133 : mT 133 = (Option.some FieldType.int) := rfl
set_option maxRecDepth 100000 in
theorem hm_133 : mcs 133 = (0, 0) := by decide +kernel
theorem ca_133 {d : Nat} {t : Nat} {p0 : Int32} {S : mS} {I : mI} {L : mL} {R : mR} {Q : mQ} : CA d 133 [.ref t, .int p0] S I L R Q = WP (d, 0, 0) 133 0 [some (.ref t), some (.int p0), none] [] S I L R Q := by
  unfold CA
  rw [hm_133, hn_133]
  rfl
set_option maxRecDepth 100000 in
theorem hc_134 : mC 134 = prog_10_method_18_code := rfl
set_option maxRecDepth 100000 in
theorem ho_134 : mO 134 = 5 := rfl
set_option maxRecDepth 100000 in
theorem hn_134 : mN 134 = 5 := rfl
set_option maxRecDepth 100000 in
theorem ht_134 : mT 134 = (Option.some FieldType.int) := rfl
set_option maxRecDepth 100000 in
theorem hm_134 : mcs 134 = (0, 0) := by decide +kernel
theorem ca_134 {d : Nat} {p0 : Int32} {p1 : Int32} {p2 : Int32} {S : mS} {I : mI} {L : mL} {R : mR} {Q : mQ} : CA d 134 [.int p0, .int p1, .int p2] S I L R Q = WP (d, 0, 0) 134 0 [some (.int p0), some (.int p1), some (.int p2), none, none] [] S I L R Q := by
  unfold CA
  rw [hm_134, hn_134]
  rfl
set_option maxRecDepth 100000 in
theorem hc_135 : mC 135 = prog_10_method_22_code := rfl
set_option maxRecDepth 100000 in
theorem ho_135 : mO 135 = 5 := rfl
set_option maxRecDepth 100000 in
theorem hn_135 : mN 135 = 5 := rfl
set_option maxRecDepth 100000 in
theorem ht_135 : mT 135 = (Option.some FieldType.int) := rfl
set_option maxRecDepth 100000 in
theorem hm_135 : mcs 135 = (0, 0) := by decide +kernel
theorem ca_135 {d : Nat} {t : Nat} {p0 : Int32} {S : mS} {I : mI} {L : mL} {R : mR} {Q : mQ} : CA d 135 [.ref t, .int p0] S I L R Q = WP (d, 0, 0) 135 0 [some (.ref t), some (.int p0), none, none, none] [] S I L R Q := by
  unfold CA
  rw [hm_135, hn_135]
  rfl
set_option maxRecDepth 100000 in
theorem hc_136 : mC 136 = prog_7_method_1_code := rfl
set_option maxRecDepth 100000 in
theorem ho_136 : mO 136 = 6 := rfl
set_option maxRecDepth 100000 in
theorem hn_136 : mN 136 = 1 := rfl
set_option maxRecDepth 100000 in
theorem ht_136 : mT 136 = none := rfl
set_option maxRecDepth 100000 in
theorem hm_136 : mcs 136 = (10, 400) := by decide +kernel
theorem ca_136 {d : Nat} {t : Nat} {S : mS} {I : mI} {L : mL} {R : mR} {Q : mQ} : CA d 136 [.ref t] S I L R Q = WP (d, 10, 400) 136 0 [some (.ref t)] [] S I L R Q := by
  unfold CA
  rw [hm_136, hn_136]
  rfl
set_option maxRecDepth 100000 in
theorem hc_137 : mC 137 = prog_7_method_2_code := rfl
set_option maxRecDepth 100000 in
theorem ho_137 : mO 137 = 6 := rfl
set_option maxRecDepth 100000 in
theorem hn_137 : mN 137 = 1 := rfl
set_option maxRecDepth 100000 in
theorem ht_137 : mT 137 = none := rfl
set_option maxRecDepth 100000 in
theorem hm_137 : mcs 137 = (0, 0) := by decide +kernel
theorem ca_137 {d : Nat} {t : Nat} {S : mS} {I : mI} {L : mL} {R : mR} {Q : mQ} : CA d 137 [.ref t] S I L R Q = WP (d, 0, 0) 137 0 [some (.ref t)] [] S I L R Q := by
  unfold CA
  rw [hm_137, hn_137]
  rfl
set_option maxRecDepth 100000 in
theorem hc_138 : mC 138 = prog_7_method_3_code := rfl
set_option maxRecDepth 100000 in
theorem ho_138 : mO 138 = 6 := rfl
set_option maxRecDepth 100000 in
theorem hn_138 : mN 138 = 2 := rfl
set_option maxRecDepth 100000 in
theorem ht_138 : mT 138 = none := rfl
set_option maxRecDepth 100000 in
theorem hm_138 : mcs 138 = (0, 0) := by decide +kernel
theorem ca_138 {d : Nat} {t : Nat} {p0 : Nat} {S : mS} {I : mI} {L : mL} {R : mR} {Q : mQ} : CA d 138 [.ref t, .ref p0] S I L R Q = WP (d, 0, 0) 138 0 [some (.ref t), some (.ref p0)] [] S I L R Q := by
  unfold CA
  rw [hm_138, hn_138]
  rfl
set_option maxRecDepth 100000 in
theorem hc_139 : mC 139 = prog_7_method_5_code := rfl
set_option maxRecDepth 100000 in
theorem ho_139 : mO 139 = 6 := rfl
set_option maxRecDepth 100000 in
theorem hn_139 : mN 139 = 5 := rfl
set_option maxRecDepth 100000 in
theorem ht_139 : mT 139 = (Option.some FieldType.int) := rfl
set_option maxRecDepth 100000 in
theorem hm_139 : mcs 139 = (0, 0) := by decide +kernel
theorem ca_139 {d : Nat} {t : Nat} {p0 : Int32} {p1 : Int32} {p2 : Int32} {p3 : Int32} {S : mS} {I : mI} {L : mL} {R : mR} {Q : mQ} : CA d 139 [.ref t, .int p0, .int p1, .int p2, .int p3] S I L R Q = WP (d, 0, 0) 139 0 [some (.ref t), some (.int p0), some (.int p1), some (.int p2), some (.int p3)] [] S I L R Q := by
  unfold CA
  rw [hm_139, hn_139]
  rfl
set_option maxRecDepth 100000 in
theorem hc_140 : mC 140 = prog_7_method_6_code := rfl
set_option maxRecDepth 100000 in
theorem ho_140 : mO 140 = 6 := rfl
set_option maxRecDepth 100000 in
theorem hn_140 : mN 140 = 3 := rfl
set_option maxRecDepth 100000 in
theorem ht_140 : mT 140 = none := rfl
set_option maxRecDepth 100000 in
theorem hm_140 : mcs 140 = (0, 0) := by decide +kernel
theorem ca_140 {d : Nat} {t : Nat} {p0 : Int32} {p1 : Int32} {S : mS} {I : mI} {L : mL} {R : mR} {Q : mQ} : CA d 140 [.ref t, .int p0, .int p1] S I L R Q = WP (d, 0, 0) 140 0 [some (.ref t), some (.int p0), some (.int p1)] [] S I L R Q := by
  unfold CA
  rw [hm_140, hn_140]
  rfl
set_option maxRecDepth 100000 in
theorem hc_141 : mC 141 = prog_7_method_4_code := rfl
set_option maxRecDepth 100000 in
theorem ho_141 : mO 141 = 6 := rfl
set_option maxRecDepth 100000 in
theorem hn_141 : mN 141 = 2 := rfl
set_option maxRecDepth 100000 in
theorem ht_141 : mT 141 = (Option.some FieldType.boolean) := rfl
set_option maxRecDepth 100000 in
theorem hm_141 : mcs 141 = (0, 0) := by decide +kernel
theorem ca_141 {d : Nat} {t : Nat} {p0 : Int32} {S : mS} {I : mI} {L : mL} {R : mR} {Q : mQ} : CA d 141 [.ref t, .int p0] S I L R Q = WP (d, 0, 0) 141 0 [some (.ref t), some (.int p0)] [] S I L R Q := by
  unfold CA
  rw [hm_141, hn_141]
  rfl
set_option maxRecDepth 100000 in
theorem hc_142 : mC 142 = prog_8_method_1_code := rfl
set_option maxRecDepth 100000 in
theorem ho_142 : mO 142 = 7 := rfl
set_option maxRecDepth 100000 in
theorem hn_142 : mN 142 = 6 := rfl
set_option maxRecDepth 100000 in
theorem ht_142 : mT 142 = none := rfl
set_option maxRecDepth 100000 in
theorem hm_142 : mcs 142 = (10, 400) := by decide +kernel
theorem ca_142 {d : Nat} {t : Nat} {S : mS} {I : mI} {L : mL} {R : mR} {Q : mQ} : CA d 142 [.ref t] S I L R Q = WP (d, 10, 400) 142 0 [some (.ref t), none, none, none, none, none] [] S I L R Q := by
  unfold CA
  rw [hm_142, hn_142]
  rfl
set_option maxRecDepth 100000 in
theorem hc_143 : mC 143 = prog_8_method_2_code := rfl
set_option maxRecDepth 100000 in
theorem ho_143 : mO 143 = 7 := rfl
set_option maxRecDepth 100000 in
theorem hn_143 : mN 143 = 3 := rfl
set_option maxRecDepth 100000 in
theorem ht_143 : mT 143 = none := rfl
set_option maxRecDepth 100000 in
theorem hm_143 : mcs 143 = (0, 0) := by decide +kernel
theorem ca_143 {d : Nat} {t : Nat} {p0 : Nat} {p1 : Int32} {S : mS} {I : mI} {L : mL} {R : mR} {Q : mQ} : CA d 143 [.ref t, .ref p0, .int p1] S I L R Q = WP (d, 0, 0) 143 0 [some (.ref t), some (.ref p0), some (.int p1)] [] S I L R Q := by
  unfold CA
  rw [hm_143, hn_143]
  rfl
set_option maxRecDepth 100000 in
theorem hc_144 : mC 144 = prog_8_method_6_code := rfl
set_option maxRecDepth 100000 in
theorem ho_144 : mO 144 = 7 := rfl
set_option maxRecDepth 100000 in
theorem hn_144 : mN 144 = 2 := rfl
set_option maxRecDepth 100000 in
theorem ht_144 : mT 144 = none := rfl
set_option maxRecDepth 100000 in
theorem hm_144 : mcs 144 = (0, 0) := by decide +kernel
theorem ca_144 {d : Nat} {t : Nat} {S : mS} {I : mI} {L : mL} {R : mR} {Q : mQ} : CA d 144 [.ref t] S I L R Q = WP (d, 0, 0) 144 0 [some (.ref t), none] [] S I L R Q := by
  unfold CA
  rw [hm_144, hn_144]
  rfl
set_option maxRecDepth 100000 in
theorem hc_145 : mC 145 = prog_8_method_7_code := rfl
set_option maxRecDepth 100000 in
theorem ho_145 : mO 145 = 7 := rfl
set_option maxRecDepth 100000 in
theorem hn_145 : mN 145 = 1 := rfl
set_option maxRecDepth 100000 in
theorem ht_145 : mT 145 = none := rfl
set_option maxRecDepth 100000 in
theorem hm_145 : mcs 145 = (0, 0) := by decide +kernel
theorem ca_145 {d : Nat} {t : Nat} {S : mS} {I : mI} {L : mL} {R : mR} {Q : mQ} : CA d 145 [.ref t] S I L R Q = WP (d, 0, 0) 145 0 [some (.ref t)] [] S I L R Q := by
  unfold CA
  rw [hm_145, hn_145]
  rfl
set_option maxRecDepth 100000 in
theorem hc_146 : mC 146 = prog_8_method_8_code := rfl
set_option maxRecDepth 100000 in
theorem ho_146 : mO 146 = 7 := rfl
set_option maxRecDepth 100000 in
theorem hn_146 : mN 146 = 1 := rfl
set_option maxRecDepth 100000 in
theorem ht_146 : mT 146 = none := rfl
set_option maxRecDepth 100000 in
theorem hm_146 : mcs 146 = (0, 0) := by decide +kernel
theorem ca_146 {d : Nat} {t : Nat} {S : mS} {I : mI} {L : mL} {R : mR} {Q : mQ} : CA d 146 [.ref t] S I L R Q = WP (d, 0, 0) 146 0 [some (.ref t)] [] S I L R Q := by
  unfold CA
  rw [hm_146, hn_146]
  rfl
set_option maxRecDepth 100000 in
theorem hc_147 : mC 147 = prog_8_method_3_code := rfl
set_option maxRecDepth 100000 in
theorem ho_147 : mO 147 = 7 := rfl
set_option maxRecDepth 100000 in
theorem hn_147 : mN 147 = 1 := rfl
set_option maxRecDepth 100000 in
theorem ht_147 : mT 147 = (Option.some FieldType.boolean) := rfl
set_option maxRecDepth 100000 in
theorem hm_147 : mcs 147 = (0, 0) := by decide +kernel
theorem ca_147 {d : Nat} {t : Nat} {S : mS} {I : mI} {L : mL} {R : mR} {Q : mQ} : CA d 147 [.ref t] S I L R Q = WP (d, 0, 0) 147 0 [some (.ref t)] [] S I L R Q := by
  unfold CA
  rw [hm_147, hn_147]
  rfl
set_option maxRecDepth 100000 in
theorem hc_148 : mC 148 = prog_8_method_4_code := rfl
set_option maxRecDepth 100000 in
theorem ho_148 : mO 148 = 7 := rfl
set_option maxRecDepth 100000 in
theorem hn_148 : mN 148 = 1 := rfl
set_option maxRecDepth 100000 in
theorem ht_148 : mT 148 = (Option.some FieldType.boolean) := rfl
set_option maxRecDepth 100000 in
theorem hm_148 : mcs 148 = (0, 0) := by decide +kernel
theorem ca_148 {d : Nat} {t : Nat} {S : mS} {I : mI} {L : mL} {R : mR} {Q : mQ} : CA d 148 [.ref t] S I L R Q = WP (d, 0, 0) 148 0 [some (.ref t)] [] S I L R Q := by
  unfold CA
  rw [hm_148, hn_148]
  rfl
set_option maxRecDepth 100000 in
theorem hc_149 : mC 149 = prog_8_method_9_code := rfl
set_option maxRecDepth 100000 in
theorem ho_149 : mO 149 = 7 := rfl
set_option maxRecDepth 100000 in
theorem hn_149 : mN 149 = 2 := rfl
set_option maxRecDepth 100000 in
theorem ht_149 : mT 149 = (Option.some FieldType.int) := rfl
set_option maxRecDepth 100000 in
theorem hm_149 : mcs 149 = (0, 0) := by decide +kernel
theorem ca_149 {d : Nat} {t : Nat} {S : mS} {I : mI} {L : mL} {R : mR} {Q : mQ} : CA d 149 [.ref t] S I L R Q = WP (d, 0, 0) 149 0 [some (.ref t), none] [] S I L R Q := by
  unfold CA
  rw [hm_149, hn_149]
  rfl
set_option maxRecDepth 100000 in
theorem hc_150 : mC 150 = prog_8_method_5_code := rfl
set_option maxRecDepth 100000 in
theorem ho_150 : mO 150 = 7 := rfl
set_option maxRecDepth 100000 in
theorem hn_150 : mN 150 = 2 := rfl
set_option maxRecDepth 100000 in
theorem ht_150 : mT 150 = none := rfl
set_option maxRecDepth 100000 in
theorem hm_150 : mcs 150 = (0, 0) := by decide +kernel
theorem ca_150 {d : Nat} {t : Nat} {p0 : Int32} {S : mS} {I : mI} {L : mL} {R : mR} {Q : mQ} : CA d 150 [.ref t, .int p0] S I L R Q = WP (d, 0, 0) 150 0 [some (.ref t), some (.int p0)] [] S I L R Q := by
  unfold CA
  rw [hm_150, hn_150]
  rfl
set_option maxRecDepth 100000 in
theorem hc_151 : mC 151 = prog_8_method_15_code := rfl
set_option maxRecDepth 100000 in
theorem ho_151 : mO 151 = 7 := rfl
set_option maxRecDepth 100000 in
theorem hn_151 : mN 151 = 4 := rfl
set_option maxRecDepth 100000 in
theorem ht_151 : mT 151 = (Option.some FieldType.int) := rfl
set_option maxRecDepth 100000 in
theorem hm_151 : mcs 151 = (0, 0) := by decide +kernel
theorem ca_151 {d : Nat} {t : Nat} {p0 : Int32} {p1 : Int32} {p2 : Int32} {S : mS} {I : mI} {L : mL} {R : mR} {Q : mQ} : CA d 151 [.ref t, .int p0, .int p1, .int p2] S I L R Q = WP (d, 0, 0) 151 0 [some (.ref t), some (.int p0), some (.int p1), some (.int p2)] [] S I L R Q := by
  unfold CA
  rw [hm_151, hn_151]
  rfl
set_option maxRecDepth 100000 in
theorem hc_152 : mC 152 = prog_8_method_11_code := rfl
set_option maxRecDepth 100000 in
theorem ho_152 : mO 152 = 7 := rfl
set_option maxRecDepth 100000 in
theorem hn_152 : mN 152 = 2 := rfl
set_option maxRecDepth 100000 in
theorem ht_152 : mT 152 = none := rfl
set_option maxRecDepth 100000 in
theorem hm_152 : mcs 152 = (0, 0) := by decide +kernel
theorem ca_152 {d : Nat} {t : Nat} {p0 : Int32} {S : mS} {I : mI} {L : mL} {R : mR} {Q : mQ} : CA d 152 [.ref t, .int p0] S I L R Q = WP (d, 0, 0) 152 0 [some (.ref t), some (.int p0)] [] S I L R Q := by
  unfold CA
  rw [hm_152, hn_152]
  rfl
set_option maxRecDepth 100000 in
theorem hc_153 : mC 153 = prog_8_method_10_code := rfl
set_option maxRecDepth 100000 in
theorem ho_153 : mO 153 = 7 := rfl
set_option maxRecDepth 100000 in
theorem hn_153 : mN 153 = 2 := rfl
set_option maxRecDepth 100000 in
theorem ht_153 : mT 153 = (Option.some FieldType.boolean) := rfl
set_option maxRecDepth 100000 in
theorem hm_153 : mcs 153 = (0, 0) := by decide +kernel
theorem ca_153 {d : Nat} {t : Nat} {p0 : Int32} {S : mS} {I : mI} {L : mL} {R : mR} {Q : mQ} : CA d 153 [.ref t, .int p0] S I L R Q = WP (d, 0, 0) 153 0 [some (.ref t), some (.int p0)] [] S I L R Q := by
  unfold CA
  rw [hm_153, hn_153]
  rfl
set_option maxRecDepth 100000 in
theorem hc_154 : mC 154 = prog_8_method_14_code := rfl
set_option maxRecDepth 100000 in
theorem ho_154 : mO 154 = 7 := rfl
set_option maxRecDepth 100000 in
theorem hn_154 : mN 154 = 4 := rfl
set_option maxRecDepth 100000 in
theorem ht_154 : mT 154 = (Option.some FieldType.int) := rfl
set_option maxRecDepth 100000 in
theorem hm_154 : mcs 154 = (0, 0) := by decide +kernel
theorem ca_154 {d : Nat} {t : Nat} {p0 : Int32} {p1 : Int32} {S : mS} {I : mI} {L : mL} {R : mR} {Q : mQ} : CA d 154 [.ref t, .int p0, .int p1] S I L R Q = WP (d, 0, 0) 154 0 [some (.ref t), some (.int p0), some (.int p1), none] [] S I L R Q := by
  unfold CA
  rw [hm_154, hn_154]
  rfl
set_option maxRecDepth 100000 in
theorem hc_155 : mC 155 = prog_8_method_12_code := rfl
set_option maxRecDepth 100000 in
theorem ho_155 : mO 155 = 7 := rfl
set_option maxRecDepth 100000 in
theorem hn_155 : mN 155 = 1 := rfl
set_option maxRecDepth 100000 in
theorem ht_155 : mT 155 = none := rfl
set_option maxRecDepth 100000 in
theorem hm_155 : mcs 155 = (0, 0) := by decide +kernel
theorem ca_155 {d : Nat} {t : Nat} {S : mS} {I : mI} {L : mL} {R : mR} {Q : mQ} : CA d 155 [.ref t] S I L R Q = WP (d, 0, 0) 155 0 [some (.ref t)] [] S I L R Q := by
  unfold CA
  rw [hm_155, hn_155]
  rfl
set_option maxRecDepth 100000 in
theorem hc_156 : mC 156 = prog_8_method_17_code := rfl
set_option maxRecDepth 100000 in
theorem ho_156 : mO 156 = 7 := rfl
set_option maxRecDepth 100000 in
theorem hn_156 : mN 156 = 4 := rfl
set_option maxRecDepth 100000 in
theorem ht_156 : mT 156 = (Option.some FieldType.int) := rfl
set_option maxRecDepth 100000 in
theorem hm_156 : mcs 156 = (0, 0) := by decide +kernel
theorem ca_156 {d : Nat} {t : Nat} {p0 : Nat} {S : mS} {I : mI} {L : mL} {R : mR} {Q : mQ} : CA d 156 [.ref t, .ref p0] S I L R Q = WP (d, 0, 0) 156 0 [some (.ref t), some (.ref p0), none, none] [] S I L R Q := by
  unfold CA
  rw [hm_156, hn_156]
  rfl
set_option maxRecDepth 100000 in
theorem hc_157 : mC 157 = prog_8_method_16_code := rfl
set_option maxRecDepth 100000 in
theorem ho_157 : mO 157 = 7 := rfl
set_option maxRecDepth 100000 in
theorem hn_157 : mN 157 = 5 := rfl
set_option maxRecDepth 100000 in
theorem ht_157 : mT 157 = (Option.some FieldType.int) := rfl
set_option maxRecDepth 100000 in
theorem hm_157 : mcs 157 = (0, 0) := by decide +kernel
theorem ca_157 {d : Nat} {t : Nat} {p0 : Int32} {p1 : Int32} {p2 : Int32} {p3 : Int32} {S : mS} {I : mI} {L : mL} {R : mR} {Q : mQ} : CA d 157 [.ref t, .int p0, .int p1, .int p2, .int p3] S I L R Q = WP (d, 0, 0) 157 0 [some (.ref t), some (.int p0), some (.int p1), some (.int p2), some (.int p3)] [] S I L R Q := by
  unfold CA
  rw [hm_157, hn_157]
  rfl
set_option maxRecDepth 100000 in
theorem hc_158 : mC 158 = prog_8_method_19_code := rfl
set_option maxRecDepth 100000 in
theorem ho_158 : mO 158 = 7 := rfl
set_option maxRecDepth 100000 in
theorem hn_158 : mN 158 = 4 := rfl
set_option maxRecDepth 100000 in
theorem ht_158 : mT 158 = (Option.some FieldType.long) := rfl
set_option maxRecDepth 100000 in
theorem hm_158 : mcs 158 = (0, 0) := by decide +kernel
theorem ca_158 {d : Nat} {t : Nat} {p0 : Nat} {S : mS} {I : mI} {L : mL} {R : mR} {Q : mQ} : CA d 158 [.ref t, .ref p0] S I L R Q = WP (d, 0, 0) 158 0 [some (.ref t), some (.ref p0), none, none] [] S I L R Q := by
  unfold CA
  rw [hm_158, hn_158]
  rfl
set_option maxRecDepth 100000 in
theorem hc_159 : mC 159 = prog_8_method_18_code := rfl
set_option maxRecDepth 100000 in
theorem ho_159 : mO 159 = 7 := rfl
set_option maxRecDepth 100000 in
theorem hn_159 : mN 159 = 1 := rfl
set_option maxRecDepth 100000 in
theorem ht_159 : mT 159 = (Option.some FieldType.boolean) := rfl
set_option maxRecDepth 100000 in
theorem hm_159 : mcs 159 = (0, 0) := by decide +kernel
theorem ca_159 {d : Nat} {t : Nat} {S : mS} {I : mI} {L : mL} {R : mR} {Q : mQ} : CA d 159 [.ref t] S I L R Q = WP (d, 0, 0) 159 0 [some (.ref t)] [] S I L R Q := by
  unfold CA
  rw [hm_159, hn_159]
  rfl
set_option maxRecDepth 100000 in
theorem hc_160 : mC 160 = prog_8_method_20_code := rfl
set_option maxRecDepth 100000 in
theorem ho_160 : mO 160 = 7 := rfl
set_option maxRecDepth 100000 in
theorem hn_160 : mN 160 = 3 := rfl
set_option maxRecDepth 100000 in
theorem ht_160 : mT 160 = (Option.some FieldType.int) := rfl
set_option maxRecDepth 100000 in
theorem hm_160 : mcs 160 = (0, 0) := by decide +kernel
theorem ca_160 {d : Nat} {t : Nat} {p0 : Nat} {S : mS} {I : mI} {L : mL} {R : mR} {Q : mQ} : CA d 160 [.ref t, .ref p0] S I L R Q = WP (d, 0, 0) 160 0 [some (.ref t), some (.ref p0), none] [] S I L R Q := by
  unfold CA
  rw [hm_160, hn_160]
  rfl
set_option maxRecDepth 100000 in
theorem hc_161 : mC 161 = prog_8_method_13_code := rfl
set_option maxRecDepth 100000 in
theorem ho_161 : mO 161 = 7 := rfl
set_option maxRecDepth 100000 in
theorem hn_161 : mN 161 = 2 := rfl
set_option maxRecDepth 100000 in
theorem ht_161 : mT 161 = (Option.some FieldType.int) := rfl
set_option maxRecDepth 100000 in
theorem hm_161 : mcs 161 = (0, 0) := by decide +kernel
theorem ca_161 {d : Nat} {t : Nat} {S : mS} {I : mI} {L : mL} {R : mR} {Q : mQ} : CA d 161 [.ref t] S I L R Q = WP (d, 0, 0) 161 0 [some (.ref t), none] [] S I L R Q := by
  unfold CA
  rw [hm_161, hn_161]
  rfl
set_option maxRecDepth 100000 in
theorem hc_162 : mC 162 = prog_5_method_1_code := rfl
set_option maxRecDepth 100000 in
theorem ho_162 : mO 162 = 8 := rfl
set_option maxRecDepth 100000 in
theorem hn_162 : mN 162 = 3 := rfl
set_option maxRecDepth 100000 in
theorem ht_162 : mT 162 = none := rfl
set_option maxRecDepth 100000 in
theorem hm_162 : mcs 162 = (10, 400) := by decide +kernel
theorem ca_162 {d : Nat} {t : Nat} {p0 : Nat} {p1 : Nat} {S : mS} {I : mI} {L : mL} {R : mR} {Q : mQ} : CA d 162 [.ref t, .ref p0, .ref p1] S I L R Q = WP (d, 10, 400) 162 0 [some (.ref t), some (.ref p0), some (.ref p1)] [] S I L R Q := by
  unfold CA
  rw [hm_162, hn_162]
  rfl
set_option maxRecDepth 100000 in
theorem hc_163 : mC 163 = prog_5_method_2_code := rfl
set_option maxRecDepth 100000 in
theorem ho_163 : mO 163 = 8 := rfl
set_option maxRecDepth 100000 in
theorem hn_163 : mN 163 = 2 := rfl
set_option maxRecDepth 100000 in
theorem ht_163 : mT 163 = none := rfl
set_option maxRecDepth 100000 in
theorem hm_163 : mcs 163 = (0, 0) := by decide +kernel
theorem ca_163 {d : Nat} {t : Nat} {S : mS} {I : mI} {L : mL} {R : mR} {Q : mQ} : CA d 163 [.ref t] S I L R Q = WP (d, 0, 0) 163 0 [some (.ref t), none] [] S I L R Q := by
  unfold CA
  rw [hm_163, hn_163]
  rfl
set_option maxRecDepth 100000 in
theorem hc_164 : mC 164 = prog_5_method_3_code := rfl
set_option maxRecDepth 100000 in
theorem ho_164 : mO 164 = 8 := rfl
set_option maxRecDepth 100000 in
theorem hn_164 : mN 164 = 2 := rfl
set_option maxRecDepth 100000 in
theorem ht_164 : mT 164 = none := rfl
set_option maxRecDepth 100000 in
theorem hm_164 : mcs 164 = (0, 0) := by decide +kernel
theorem ca_164 {d : Nat} {t : Nat} {S : mS} {I : mI} {L : mL} {R : mR} {Q : mQ} : CA d 164 [.ref t] S I L R Q = WP (d, 0, 0) 164 0 [some (.ref t), none] [] S I L R Q := by
  unfold CA
  rw [hm_164, hn_164]
  rfl
set_option maxRecDepth 100000 in
theorem hc_165 : mC 165 = prog_5_method_4_code := rfl
set_option maxRecDepth 100000 in
theorem ho_165 : mO 165 = 8 := rfl
set_option maxRecDepth 100000 in
theorem hn_165 : mN 165 = 6 := rfl
set_option maxRecDepth 100000 in
theorem ht_165 : mT 165 = none := rfl
set_option maxRecDepth 100000 in
theorem hm_165 : mcs 165 = (0, 0) := by decide +kernel
theorem ca_165 {d : Nat} {t : Nat} {S : mS} {I : mI} {L : mL} {R : mR} {Q : mQ} : CA d 165 [.ref t] S I L R Q = WP (d, 0, 0) 165 0 [some (.ref t), none, none, none, none, none] [] S I L R Q := by
  unfold CA
  rw [hm_165, hn_165]
  rfl
set_option maxRecDepth 100000 in
theorem hc_166 : mC 166 = prog_5_method_5_code := rfl
set_option maxRecDepth 100000 in
theorem ho_166 : mO 166 = 8 := rfl
set_option maxRecDepth 100000 in
theorem hn_166 : mN 166 = 2 := rfl
set_option maxRecDepth 100000 in
theorem ht_166 : mT 166 = none := rfl
set_option maxRecDepth 100000 in
theorem hm_166 : mcs 166 = (0, 0) := by decide +kernel
theorem ca_166 {d : Nat} {t : Nat} {S : mS} {I : mI} {L : mL} {R : mR} {Q : mQ} : CA d 166 [.ref t] S I L R Q = WP (d, 0, 0) 166 0 [some (.ref t), none] [] S I L R Q := by
  unfold CA
  rw [hm_166, hn_166]
  rfl
set_option maxRecDepth 100000 in
theorem hc_167 : mC 167 = prog_5_method_6_code := rfl
set_option maxRecDepth 100000 in
theorem ho_167 : mO 167 = 8 := rfl
set_option maxRecDepth 100000 in
theorem hn_167 : mN 167 = 7 := rfl
set_option maxRecDepth 100000 in
theorem ht_167 : mT 167 = none := rfl
set_option maxRecDepth 100000 in
theorem hm_167 : mcs 167 = (0, 0) := by decide +kernel
theorem ca_167 {d : Nat} {t : Nat} {S : mS} {I : mI} {L : mL} {R : mR} {Q : mQ} : CA d 167 [.ref t] S I L R Q = WP (d, 0, 0) 167 0 [some (.ref t), none, none, none, none, none, none] [] S I L R Q := by
  unfold CA
  rw [hm_167, hn_167]
  rfl
set_option maxRecDepth 100000 in
theorem hc_168 : mC 168 = prog_5_method_7_code := rfl
set_option maxRecDepth 100000 in
theorem ho_168 : mO 168 = 8 := rfl
set_option maxRecDepth 100000 in
theorem hn_168 : mN 168 = 2 := rfl
set_option maxRecDepth 100000 in
theorem ht_168 : mT 168 = none := rfl
set_option maxRecDepth 100000 in
theorem hm_168 : mcs 168 = (0, 0) := by decide +kernel
theorem ca_168 {d : Nat} {t : Nat} {S : mS} {I : mI} {L : mL} {R : mR} {Q : mQ} : CA d 168 [.ref t] S I L R Q = WP (d, 0, 0) 168 0 [some (.ref t), none] [] S I L R Q := by
  unfold CA
  rw [hm_168, hn_168]
  rfl
set_option maxRecDepth 100000 in
theorem hc_169 : mC 169 = prog_5_method_8_code := rfl
set_option maxRecDepth 100000 in
theorem ho_169 : mO 169 = 8 := rfl
set_option maxRecDepth 100000 in
theorem hn_169 : mN 169 = 10 := rfl
set_option maxRecDepth 100000 in
theorem ht_169 : mT 169 = none := rfl
set_option maxRecDepth 100000 in
theorem hm_169 : mcs 169 = (0, 0) := by decide +kernel
theorem ca_169 {d : Nat} {t : Nat} {S : mS} {I : mI} {L : mL} {R : mR} {Q : mQ} : CA d 169 [.ref t] S I L R Q = WP (d, 0, 0) 169 0 [some (.ref t), none, none, none, none, none, none, none, none, none] [] S I L R Q := by
  unfold CA
  rw [hm_169, hn_169]
  rfl
set_option maxRecDepth 100000 in
theorem hc_170 : mC 170 = prog_6_method_1_code := rfl
set_option maxRecDepth 100000 in
theorem ho_170 : mO 170 = 9 := rfl
set_option maxRecDepth 100000 in
theorem hn_170 : mN 170 = 4 := rfl
set_option maxRecDepth 100000 in
theorem ht_170 : mT 170 = none := rfl
set_option maxRecDepth 100000 in
theorem hm_170 : mcs 170 = (10, 400) := by decide +kernel
theorem ca_170 {d : Nat} {t : Nat} {p0 : Nat} {p1 : Nat} {p2 : Nat} {S : mS} {I : mI} {L : mL} {R : mR} {Q : mQ} : CA d 170 [.ref t, .ref p0, .ref p1, .ref p2] S I L R Q = WP (d, 10, 400) 170 0 [some (.ref t), some (.ref p0), some (.ref p1), some (.ref p2)] [] S I L R Q := by
  unfold CA
  rw [hm_170, hn_170]
  rfl
set_option maxRecDepth 100000 in
theorem hc_171 : mC 171 = prog_6_method_2_code := rfl
set_option maxRecDepth 100000 in
theorem ho_171 : mO 171 = 9 := rfl
set_option maxRecDepth 100000 in
theorem hn_171 : mN 171 = 2 := rfl
set_option maxRecDepth 100000 in
theorem ht_171 : mT 171 = none := rfl
set_option maxRecDepth 100000 in
theorem hm_171 : mcs 171 = (0, 0) := by decide +kernel
theorem ca_171 {d : Nat} {t : Nat} {S : mS} {I : mI} {L : mL} {R : mR} {Q : mQ} : CA d 171 [.ref t] S I L R Q = WP (d, 0, 0) 171 0 [some (.ref t), none] [] S I L R Q := by
  unfold CA
  rw [hm_171, hn_171]
  rfl
set_option maxRecDepth 100000 in
theorem hc_172 : mC 172 = prog_6_method_3_code := rfl
set_option maxRecDepth 100000 in
theorem ho_172 : mO 172 = 9 := rfl
set_option maxRecDepth 100000 in
theorem hn_172 : mN 172 = 1 := rfl
set_option maxRecDepth 100000 in
theorem ht_172 : mT 172 = none := rfl
set_option maxRecDepth 100000 in
theorem hm_172 : mcs 172 = (0, 0) := by decide +kernel
theorem ca_172 {d : Nat} {t : Nat} {S : mS} {I : mI} {L : mL} {R : mR} {Q : mQ} : CA d 172 [.ref t] S I L R Q = WP (d, 0, 0) 172 0 [some (.ref t)] [] S I L R Q := by
  unfold CA
  rw [hm_172, hn_172]
  rfl
set_option maxRecDepth 100000 in
theorem hc_173 : mC 173 = prog_6_method_4_code := rfl
set_option maxRecDepth 100000 in
theorem ho_173 : mO 173 = 9 := rfl
set_option maxRecDepth 100000 in
theorem hn_173 : mN 173 = 4 := rfl
set_option maxRecDepth 100000 in
theorem ht_173 : mT 173 = none := rfl
set_option maxRecDepth 100000 in
theorem hm_173 : mcs 173 = (0, 0) := by decide +kernel
theorem ca_173 {d : Nat} {t : Nat} {S : mS} {I : mI} {L : mL} {R : mR} {Q : mQ} : CA d 173 [.ref t] S I L R Q = WP (d, 0, 0) 173 0 [some (.ref t), none, none, none] [] S I L R Q := by
  unfold CA
  rw [hm_173, hn_173]
  rfl
set_option maxRecDepth 100000 in
theorem hc_174 : mC 174 = prog_6_method_5_code := rfl
set_option maxRecDepth 100000 in
theorem ho_174 : mO 174 = 9 := rfl
set_option maxRecDepth 100000 in
theorem hn_174 : mN 174 = 1 := rfl
set_option maxRecDepth 100000 in
theorem ht_174 : mT 174 = (Option.some FieldType.boolean) := rfl
set_option maxRecDepth 100000 in
theorem hm_174 : mcs 174 = (0, 0) := by decide +kernel
theorem ca_174 {d : Nat} {p0 : Int32} {S : mS} {I : mI} {L : mL} {R : mR} {Q : mQ} : CA d 174 [.int p0] S I L R Q = WP (d, 0, 0) 174 0 [some (.int p0)] [] S I L R Q := by
  unfold CA
  rw [hm_174, hn_174]
  rfl
set_option maxRecDepth 100000 in
theorem hc_175 : mC 175 = prog_6_method_7_code := rfl
set_option maxRecDepth 100000 in
theorem ho_175 : mO 175 = 9 := rfl
set_option maxRecDepth 100000 in
theorem hn_175 : mN 175 = 5 := rfl
set_option maxRecDepth 100000 in
theorem ht_175 : mT 175 = (Option.some FieldType.int) := rfl
set_option maxRecDepth 100000 in
theorem hm_175 : mcs 175 = (0, 0) := by decide +kernel
theorem ca_175 {d : Nat} {t : Nat} {p0 : Int32} {S : mS} {I : mI} {L : mL} {R : mR} {Q : mQ} : CA d 175 [.ref t, .int p0] S I L R Q = WP (d, 0, 0) 175 0 [some (.ref t), some (.int p0), none, none, none] [] S I L R Q := by
  unfold CA
  rw [hm_175, hn_175]
  rfl
set_option maxRecDepth 100000 in
theorem hc_176 : mC 176 = prog_6_method_6_code := rfl
set_option maxRecDepth 100000 in
theorem ho_176 : mO 176 = 9 := rfl
set_option maxRecDepth 100000 in
theorem hn_176 : mN 176 = 5 := rfl
set_option maxRecDepth 100000 in
theorem ht_176 : mT 176 = (Option.some FieldType.int) := rfl
set_option maxRecDepth 100000 in
theorem hm_176 : mcs 176 = (0, 0) := by decide +kernel
theorem ca_176 {d : Nat} {t : Nat} {p0 : Int32} {S : mS} {I : mI} {L : mL} {R : mR} {Q : mQ} : CA d 176 [.ref t, .int p0] S I L R Q = WP (d, 0, 0) 176 0 [some (.ref t), some (.int p0), none, none, none] [] S I L R Q := by
  unfold CA
  rw [hm_176, hn_176]
  rfl
set_option maxRecDepth 100000 in
theorem hc_177 : mC 177 = prog_9_method_1_code := rfl
set_option maxRecDepth 100000 in
theorem ho_177 : mO 177 = 10 := rfl
set_option maxRecDepth 100000 in
theorem hn_177 : mN 177 = 3 := rfl
set_option maxRecDepth 100000 in
theorem ht_177 : mT 177 = none := rfl
set_option maxRecDepth 100000 in
theorem hm_177 : mcs 177 = (60, 2000) := by decide +kernel
theorem ca_177 {d : Nat} {t : Nat} {p0 : Nat} {S : mS} {I : mI} {L : mL} {R : mR} {Q : mQ} : CA d 177 [.ref t, .ref p0] S I L R Q = WP (d, 60, 2000) 177 0 [some (.ref t), some (.ref p0), none] [] S I L R Q := by
  unfold CA
  rw [hm_177, hn_177]
  rfl
set_option maxRecDepth 100000 in
theorem hc_178 : mC 178 = prog_9_method_2_code := rfl
set_option maxRecDepth 100000 in
theorem ho_178 : mO 178 = 10 := rfl
set_option maxRecDepth 100000 in
theorem hn_178 : mN 178 = 3 := rfl
set_option maxRecDepth 100000 in
theorem ht_178 : mT 178 = (Option.some (FieldType.object "StiltMarsh$Stance")) := rfl
set_option maxRecDepth 100000 in
theorem hm_178 : mcs 178 = (0, 0) := by decide +kernel
theorem ca_178 {d : Nat} {t : Nat} {p0 : Int32} {S : mS} {I : mI} {L : mL} {R : mR} {Q : mQ} : CA d 178 [.ref t, .int p0] S I L R Q = WP (d, 0, 0) 178 0 [some (.ref t), some (.int p0), none] [] S I L R Q := by
  unfold CA
  rw [hm_178, hn_178]
  rfl
set_option maxRecDepth 100000 in
theorem hc_179 : mC 179 = prog_9_method_3_code := rfl
set_option maxRecDepth 100000 in
theorem ho_179 : mO 179 = 10 := rfl
set_option maxRecDepth 100000 in
theorem hn_179 : mN 179 = 5 := rfl
set_option maxRecDepth 100000 in
theorem ht_179 : mT 179 = (Option.some FieldType.int) := rfl
set_option maxRecDepth 100000 in
theorem hm_179 : mcs 179 = (0, 0) := by decide +kernel
theorem ca_179 {d : Nat} {t : Nat} {p0 : Int32} {p1 : Int32} {S : mS} {I : mI} {L : mL} {R : mR} {Q : mQ} : CA d 179 [.ref t, .int p0, .int p1] S I L R Q = WP (d, 0, 0) 179 0 [some (.ref t), some (.int p0), some (.int p1), none, none] [] S I L R Q := by
  unfold CA
  rw [hm_179, hn_179]
  rfl
set_option maxRecDepth 100000 in
theorem hc_180 : mC 180 = prog_9_method_11_code := rfl
set_option maxRecDepth 100000 in
theorem ho_180 : mO 180 = 10 := rfl
set_option maxRecDepth 100000 in
theorem hn_180 : mN 180 = 7 := rfl
set_option maxRecDepth 100000 in
theorem ht_180 : mT 180 = (Option.some FieldType.int) := rfl
set_option maxRecDepth 100000 in
theorem hm_180 : mcs 180 = (0, 0) := by decide +kernel
theorem ca_180 {d : Nat} {t : Nat} {p0 : Int32} {S : mS} {I : mI} {L : mL} {R : mR} {Q : mQ} : CA d 180 [.ref t, .int p0] S I L R Q = WP (d, 0, 0) 180 0 [some (.ref t), some (.int p0), none, none, none, none, none] [] S I L R Q := by
  unfold CA
  rw [hm_180, hn_180]
  rfl
set_option maxRecDepth 100000 in
theorem hc_181 : mC 181 = prog_9_method_12_code := rfl
set_option maxRecDepth 100000 in
theorem ho_181 : mO 181 = 10 := rfl
set_option maxRecDepth 100000 in
theorem hn_181 : mN 181 = 5 := rfl
set_option maxRecDepth 100000 in
theorem ht_181 : mT 181 = none := rfl
set_option maxRecDepth 100000 in
theorem hm_181 : mcs 181 = (0, 0) := by decide +kernel
theorem ca_181 {d : Nat} {t : Nat} {p0 : Int32} {S : mS} {I : mI} {L : mL} {R : mR} {Q : mQ} : CA d 181 [.ref t, .int p0] S I L R Q = WP (d, 0, 0) 181 0 [some (.ref t), some (.int p0), none, none, none] [] S I L R Q := by
  unfold CA
  rw [hm_181, hn_181]
  rfl
set_option maxRecDepth 100000 in
theorem hc_182 : mC 182 = prog_9_method_13_code := rfl
set_option maxRecDepth 100000 in
theorem ho_182 : mO 182 = 10 := rfl
set_option maxRecDepth 100000 in
theorem hn_182 : mN 182 = 9 := rfl
set_option maxRecDepth 100000 in
theorem ht_182 : mT 182 = (Option.some FieldType.boolean) := rfl
set_option maxRecDepth 100000 in
theorem hm_182 : mcs 182 = (0, 0) := by decide +kernel
theorem ca_182 {d : Nat} {t : Nat} {p0 : Int32} {p1 : Int32} {p2 : Int32} {S : mS} {I : mI} {L : mL} {R : mR} {Q : mQ} : CA d 182 [.ref t, .int p0, .int p1, .int p2] S I L R Q = WP (d, 0, 0) 182 0 [some (.ref t), some (.int p0), some (.int p1), some (.int p2), none, none, none, none, none] [] S I L R Q := by
  unfold CA
  rw [hm_182, hn_182]
  rfl
set_option maxRecDepth 100000 in
theorem hc_183 : mC 183 = prog_9_method_4_code := rfl
set_option maxRecDepth 100000 in
theorem ho_183 : mO 183 = 10 := rfl
set_option maxRecDepth 100000 in
theorem hn_183 : mN 183 = 4 := rfl
set_option maxRecDepth 100000 in
theorem ht_183 : mT 183 = (Option.some FieldType.boolean) := rfl
set_option maxRecDepth 100000 in
theorem hm_183 : mcs 183 = (0, 0) := by decide +kernel
theorem ca_183 {d : Nat} {t : Nat} {p0 : Int32} {p1 : Int32} {p2 : Int32} {S : mS} {I : mI} {L : mL} {R : mR} {Q : mQ} : CA d 183 [.ref t, .int p0, .int p1, .int p2] S I L R Q = WP (d, 0, 0) 183 0 [some (.ref t), some (.int p0), some (.int p1), some (.int p2)] [] S I L R Q := by
  unfold CA
  rw [hm_183, hn_183]
  rfl
set_option maxRecDepth 100000 in
theorem hc_184 : mC 184 = prog_9_method_5_code := rfl
set_option maxRecDepth 100000 in
theorem ho_184 : mO 184 = 10 := rfl
set_option maxRecDepth 100000 in
theorem hn_184 : mN 184 = 10 := rfl
set_option maxRecDepth 100000 in
theorem ht_184 : mT 184 = none := rfl
set_option maxRecDepth 100000 in
theorem hm_184 : mcs 184 = (0, 0) := by decide +kernel
theorem ca_184 {d : Nat} {t : Nat} {p0 : Nat} {p1 : Int32} {p2 : Int32} {p3 : Int32} {S : mS} {I : mI} {L : mL} {R : mR} {Q : mQ} : CA d 184 [.ref t, .ref p0, .int p1, .int p2, .int p3] S I L R Q = WP (d, 0, 0) 184 0 [some (.ref t), some (.ref p0), some (.int p1), some (.int p2), some (.int p3), none, none, none, none, none] [] S I L R Q := by
  unfold CA
  rw [hm_184, hn_184]
  rfl
set_option maxRecDepth 100000 in
theorem hc_185 : mC 185 = prog_9_method_6_code := rfl
set_option maxRecDepth 100000 in
theorem ho_185 : mO 185 = 10 := rfl
set_option maxRecDepth 100000 in
theorem hn_185 : mN 185 = 7 := rfl
set_option maxRecDepth 100000 in
theorem ht_185 : mT 185 = none := rfl
set_option maxRecDepth 100000 in
theorem hm_185 : mcs 185 = (0, 0) := by decide +kernel
theorem ca_185 {d : Nat} {t : Nat} {p0 : Nat} {p1 : Int32} {p2 : Int32} {p3 : Int32} {S : mS} {I : mI} {L : mL} {R : mR} {Q : mQ} : CA d 185 [.ref t, .ref p0, .int p1, .int p2, .int p3] S I L R Q = WP (d, 0, 0) 185 0 [some (.ref t), some (.ref p0), some (.int p1), some (.int p2), some (.int p3), none, none] [] S I L R Q := by
  unfold CA
  rw [hm_185, hn_185]
  rfl
set_option maxRecDepth 100000 in
theorem hc_186 : mC 186 = prog_9_method_14_code := rfl
set_option maxRecDepth 100000 in
theorem ho_186 : mO 186 = 10 := rfl
set_option maxRecDepth 100000 in
theorem hn_186 : mN 186 = 5 := rfl
set_option maxRecDepth 100000 in
theorem ht_186 : mT 186 = (Option.some FieldType.int) := rfl
set_option maxRecDepth 100000 in
theorem hm_186 : mcs 186 = (0, 0) := by decide +kernel
theorem ca_186 {d : Nat} {t : Nat} {p0 : Int32} {S : mS} {I : mI} {L : mL} {R : mR} {Q : mQ} : CA d 186 [.ref t, .int p0] S I L R Q = WP (d, 0, 0) 186 0 [some (.ref t), some (.int p0), none, none, none] [] S I L R Q := by
  unfold CA
  rw [hm_186, hn_186]
  rfl
set_option maxRecDepth 100000 in
theorem hc_187 : mC 187 = prog_9_method_15_code := rfl
set_option maxRecDepth 100000 in
theorem ho_187 : mO 187 = 10 := rfl
set_option maxRecDepth 100000 in
theorem hn_187 : mN 187 = 5 := rfl
set_option maxRecDepth 100000 in
theorem ht_187 : mT 187 = (Option.some FieldType.boolean) := rfl
set_option maxRecDepth 100000 in
theorem hm_187 : mcs 187 = (0, 0) := by decide +kernel
theorem ca_187 {d : Nat} {t : Nat} {p0 : Int32} {S : mS} {I : mI} {L : mL} {R : mR} {Q : mQ} : CA d 187 [.ref t, .int p0] S I L R Q = WP (d, 0, 0) 187 0 [some (.ref t), some (.int p0), none, none, none] [] S I L R Q := by
  unfold CA
  rw [hm_187, hn_187]
  rfl
set_option maxRecDepth 100000 in
theorem hc_188 : mC 188 = prog_9_method_7_code := rfl
set_option maxRecDepth 100000 in
theorem ho_188 : mO 188 = 10 := rfl
set_option maxRecDepth 100000 in
theorem hn_188 : mN 188 = 4 := rfl
set_option maxRecDepth 100000 in
theorem ht_188 : mT 188 = none := rfl
set_option maxRecDepth 100000 in
theorem hm_188 : mcs 188 = (0, 0) := by decide +kernel
theorem ca_188 {d : Nat} {t : Nat} {p0 : Int32} {p1 : Int32} {p2 : Int32} {S : mS} {I : mI} {L : mL} {R : mR} {Q : mQ} : CA d 188 [.ref t, .int p0, .int p1, .int p2] S I L R Q = WP (d, 0, 0) 188 0 [some (.ref t), some (.int p0), some (.int p1), some (.int p2)] [] S I L R Q := by
  unfold CA
  rw [hm_188, hn_188]
  rfl
set_option maxRecDepth 100000 in
theorem hc_189 : mC 189 = prog_9_method_8_code := rfl
set_option maxRecDepth 100000 in
theorem ho_189 : mO 189 = 10 := rfl
set_option maxRecDepth 100000 in
theorem hn_189 : mN 189 = 9 := rfl
set_option maxRecDepth 100000 in
theorem ht_189 : mT 189 = (Option.some FieldType.int) := rfl
set_option maxRecDepth 100000 in
theorem hm_189 : mcs 189 = (0, 0) := by decide +kernel
theorem ca_189 {d : Nat} {t : Nat} {p0 : Nat} {p1 : Int32} {p2 : Int32} {p3 : Int32} {p4 : Int32} {p5 : Int32} {S : mS} {I : mI} {L : mL} {R : mR} {Q : mQ} : CA d 189 [.ref t, .ref p0, .int p1, .int p2, .int p3, .int p4, .int p5] S I L R Q = WP (d, 0, 0) 189 0 [some (.ref t), some (.ref p0), some (.int p1), some (.int p2), some (.int p3), some (.int p4), some (.int p5), none, none] [] S I L R Q := by
  unfold CA
  rw [hm_189, hn_189]
  rfl
set_option maxRecDepth 100000 in
theorem hc_190 : mC 190 = prog_9_method_10_code := rfl
set_option maxRecDepth 100000 in
theorem ho_190 : mO 190 = 10 := rfl
set_option maxRecDepth 100000 in
theorem hn_190 : mN 190 = 3 := rfl
set_option maxRecDepth 100000 in
theorem ht_190 : mT 190 = (Option.some FieldType.int) := rfl
set_option maxRecDepth 100000 in
theorem hm_190 : mcs 190 = (0, 0) := by decide +kernel
theorem ca_190 {d : Nat} {t : Nat} {p0 : Nat} {p1 : Int32} {S : mS} {I : mI} {L : mL} {R : mR} {Q : mQ} : CA d 190 [.ref t, .ref p0, .int p1] S I L R Q = WP (d, 0, 0) 190 0 [some (.ref t), some (.ref p0), some (.int p1)] [] S I L R Q := by
  unfold CA
  rw [hm_190, hn_190]
  rfl
set_option maxRecDepth 100000 in
theorem hc_191 : mC 191 = prog_9_method_9_code := rfl
set_option maxRecDepth 100000 in
theorem ho_191 : mO 191 = 10 := rfl
set_option maxRecDepth 100000 in
theorem hn_191 : mN 191 = 14 := rfl
set_option maxRecDepth 100000 in
theorem ht_191 : mT 191 = (Option.some FieldType.int) := rfl
set_option maxRecDepth 100000 in
theorem hm_191 : mcs 191 = (0, 0) := by decide +kernel
theorem ca_191 {d : Nat} {t : Nat} {p0 : Nat} {p1 : Int32} {p2 : Int32} {p3 : Int32} {p4 : Int32} {p5 : Int32} {p6 : Int32} {S : mS} {I : mI} {L : mL} {R : mR} {Q : mQ} : CA d 191 [.ref t, .ref p0, .int p1, .int p2, .int p3, .int p4, .int p5, .int p6] S I L R Q = WP (d, 0, 0) 191 0 [some (.ref t), some (.ref p0), some (.int p1), some (.int p2), some (.int p3), some (.int p4), some (.int p5), some (.int p6), none, none, none, none, none, none] [] S I L R Q := by
  unfold CA
  rw [hm_191, hn_191]
  rfl
set_option maxRecDepth 100000 in
theorem hc_192 : mC 192 = prog_9_method_16_code := rfl
set_option maxRecDepth 100000 in
theorem ho_192 : mO 192 = 10 := rfl
set_option maxRecDepth 100000 in
theorem hn_192 : mN 192 = 7 := rfl
set_option maxRecDepth 100000 in
theorem ht_192 : mT 192 = none := rfl
set_option maxRecDepth 100000 in
theorem hm_192 : mcs 192 = (0, 0) := by decide +kernel
theorem ca_192 {d : Nat} {t : Nat} {p0 : Nat} {p1 : Int32} {S : mS} {I : mI} {L : mL} {R : mR} {Q : mQ} : CA d 192 [.ref t, .ref p0, .int p1] S I L R Q = WP (d, 0, 0) 192 0 [some (.ref t), some (.ref p0), some (.int p1), none, none, none, none] [] S I L R Q := by
  unfold CA
  rw [hm_192, hn_192]
  rfl
set_option maxRecDepth 100000 in
theorem hc_193 : mC 193 = prog_9_method_17_code := rfl
set_option maxRecDepth 100000 in
theorem ho_193 : mO 193 = 10 := rfl
set_option maxRecDepth 100000 in
theorem hn_193 : mN 193 = 7 := rfl
set_option maxRecDepth 100000 in
theorem ht_193 : mT 193 = (Option.some FieldType.int) := rfl
set_option maxRecDepth 100000 in
theorem hm_193 : mcs 193 = (0, 0) := by decide +kernel
theorem ca_193 {d : Nat} {t : Nat} {p0 : Int32} {p1 : Int32} {S : mS} {I : mI} {L : mL} {R : mR} {Q : mQ} : CA d 193 [.ref t, .int p0, .int p1] S I L R Q = WP (d, 0, 0) 193 0 [some (.ref t), some (.int p0), some (.int p1), none, none, none, none] [] S I L R Q := by
  unfold CA
  rw [hm_193, hn_193]
  rfl
set_option maxRecDepth 100000 in
theorem hc_194 : mC 194 = prog_9_method_18_code := rfl
set_option maxRecDepth 100000 in
theorem ho_194 : mO 194 = 10 := rfl
set_option maxRecDepth 100000 in
theorem hn_194 : mN 194 = 4 := rfl
set_option maxRecDepth 100000 in
theorem ht_194 : mT 194 = (Option.some FieldType.boolean) := rfl
set_option maxRecDepth 100000 in
theorem hm_194 : mcs 194 = (0, 0) := by decide +kernel
theorem ca_194 {d : Nat} {t : Nat} {p0 : Nat} {p1 : Int32} {S : mS} {I : mI} {L : mL} {R : mR} {Q : mQ} : CA d 194 [.ref t, .ref p0, .int p1] S I L R Q = WP (d, 0, 0) 194 0 [some (.ref t), some (.ref p0), some (.int p1), none] [] S I L R Q := by
  unfold CA
  rw [hm_194, hn_194]
  rfl
set_option maxRecDepth 100000 in
theorem hc_195 : mC 195 = prog_4_method_1_code := rfl
set_option maxRecDepth 100000 in
theorem ho_195 : mO 195 = 11 := rfl
set_option maxRecDepth 100000 in
theorem hn_195 : mN 195 = 2 := rfl
set_option maxRecDepth 100000 in
theorem ht_195 : mT 195 = none := rfl
set_option maxRecDepth 100000 in
theorem hm_195 : mcs 195 = (10, 400) := by decide +kernel
theorem ca_195 {d : Nat} {t : Nat} {p0 : Nat} {S : mS} {I : mI} {L : mL} {R : mR} {Q : mQ} : CA d 195 [.ref t, .ref p0] S I L R Q = WP (d, 10, 400) 195 0 [some (.ref t), some (.ref p0)] [] S I L R Q := by
  unfold CA
  rw [hm_195, hn_195]
  rfl
set_option maxRecDepth 100000 in
theorem hc_196 : mC 196 = prog_4_method_2_code := rfl
set_option maxRecDepth 100000 in
theorem ho_196 : mO 196 = 11 := rfl
set_option maxRecDepth 100000 in
theorem hn_196 : mN 196 = 6 := rfl
set_option maxRecDepth 100000 in
theorem ht_196 : mT 196 = none := rfl
set_option maxRecDepth 100000 in
theorem hm_196 : mcs 196 = (0, 0) := by decide +kernel
theorem ca_196 {d : Nat} {t : Nat} {p0 : Int32} {S : mS} {I : mI} {L : mL} {R : mR} {Q : mQ} : CA d 196 [.ref t, .int p0] S I L R Q = WP (d, 0, 0) 196 0 [some (.ref t), some (.int p0), none, none, none, none] [] S I L R Q := by
  unfold CA
  rw [hm_196, hn_196]
  rfl
set_option maxRecDepth 100000 in
theorem hc_197 : mC 197 = prog_4_method_4_code := rfl
set_option maxRecDepth 100000 in
theorem ho_197 : mO 197 = 11 := rfl
set_option maxRecDepth 100000 in
theorem hn_197 : mN 197 = 3 := rfl
set_option maxRecDepth 100000 in
theorem ht_197 : mT 197 = (Option.some FieldType.int) := rfl
set_option maxRecDepth 100000 in
theorem hm_197 : mcs 197 = (0, 0) := by decide +kernel
theorem ca_197 {d : Nat} {t : Nat} {p0 : Int32} {S : mS} {I : mI} {L : mL} {R : mR} {Q : mQ} : CA d 197 [.ref t, .int p0] S I L R Q = WP (d, 0, 0) 197 0 [some (.ref t), some (.int p0), none] [] S I L R Q := by
  unfold CA
  rw [hm_197, hn_197]
  rfl
set_option maxRecDepth 100000 in
theorem hc_198 : mC 198 = prog_4_method_5_code := rfl
set_option maxRecDepth 100000 in
theorem ho_198 : mO 198 = 11 := rfl
set_option maxRecDepth 100000 in
theorem hn_198 : mN 198 = 6 := rfl
set_option maxRecDepth 100000 in
theorem ht_198 : mT 198 = (Option.some FieldType.int) := rfl
set_option maxRecDepth 100000 in
theorem hm_198 : mcs 198 = (0, 0) := by decide +kernel
theorem ca_198 {d : Nat} {t : Nat} {p0 : Int32} {S : mS} {I : mI} {L : mL} {R : mR} {Q : mQ} : CA d 198 [.ref t, .int p0] S I L R Q = WP (d, 0, 0) 198 0 [some (.ref t), some (.int p0), none, none, none, none] [] S I L R Q := by
  unfold CA
  rw [hm_198, hn_198]
  rfl
set_option maxRecDepth 100000 in
theorem hc_199 : mC 199 = prog_4_method_7_code := rfl
set_option maxRecDepth 100000 in
theorem ho_199 : mO 199 = 11 := rfl
set_option maxRecDepth 100000 in
theorem hn_199 : mN 199 = 4 := rfl
set_option maxRecDepth 100000 in
theorem ht_199 : mT 199 = (Option.some FieldType.boolean) := rfl
set_option maxRecDepth 100000 in
theorem hm_199 : mcs 199 = (0, 0) := by decide +kernel
theorem ca_199 {d : Nat} {t : Nat} {p0 : Int32} {p1 : Int32} {p2 : Int32} {S : mS} {I : mI} {L : mL} {R : mR} {Q : mQ} : CA d 199 [.ref t, .int p0, .int p1, .int p2] S I L R Q = WP (d, 0, 0) 199 0 [some (.ref t), some (.int p0), some (.int p1), some (.int p2)] [] S I L R Q := by
  unfold CA
  rw [hm_199, hn_199]
  rfl
set_option maxRecDepth 100000 in
theorem hc_200 : mC 200 = prog_4_method_8_code := rfl
set_option maxRecDepth 100000 in
theorem ho_200 : mO 200 = 11 := rfl
set_option maxRecDepth 100000 in
theorem hn_200 : mN 200 = 2 := rfl
set_option maxRecDepth 100000 in
theorem ht_200 : mT 200 = (Option.some FieldType.boolean) := rfl
set_option maxRecDepth 100000 in
theorem hm_200 : mcs 200 = (0, 0) := by decide +kernel
theorem ca_200 {d : Nat} {t : Nat} {p0 : Int32} {S : mS} {I : mI} {L : mL} {R : mR} {Q : mQ} : CA d 200 [.ref t, .int p0] S I L R Q = WP (d, 0, 0) 200 0 [some (.ref t), some (.int p0)] [] S I L R Q := by
  unfold CA
  rw [hm_200, hn_200]
  rfl
set_option maxRecDepth 100000 in
theorem hc_201 : mC 201 = prog_4_method_9_code := rfl
set_option maxRecDepth 100000 in
theorem ho_201 : mO 201 = 11 := rfl
set_option maxRecDepth 100000 in
theorem hn_201 : mN 201 = 4 := rfl
set_option maxRecDepth 100000 in
theorem ht_201 : mT 201 = (Option.some FieldType.boolean) := rfl
set_option maxRecDepth 100000 in
theorem hm_201 : mcs 201 = (0, 0) := by decide +kernel
theorem ca_201 {d : Nat} {t : Nat} {p0 : Int32} {p1 : Int32} {p2 : Int32} {S : mS} {I : mI} {L : mL} {R : mR} {Q : mQ} : CA d 201 [.ref t, .int p0, .int p1, .int p2] S I L R Q = WP (d, 0, 0) 201 0 [some (.ref t), some (.int p0), some (.int p1), some (.int p2)] [] S I L R Q := by
  unfold CA
  rw [hm_201, hn_201]
  rfl
set_option maxRecDepth 100000 in
theorem hc_202 : mC 202 = prog_4_method_10_code := rfl
set_option maxRecDepth 100000 in
theorem ho_202 : mO 202 = 11 := rfl
set_option maxRecDepth 100000 in
theorem hn_202 : mN 202 = 6 := rfl
set_option maxRecDepth 100000 in
theorem ht_202 : mT 202 = (Option.some FieldType.boolean) := rfl
set_option maxRecDepth 100000 in
theorem hm_202 : mcs 202 = (0, 0) := by decide +kernel
theorem ca_202 {d : Nat} {t : Nat} {p0 : Int32} {S : mS} {I : mI} {L : mL} {R : mR} {Q : mQ} : CA d 202 [.ref t, .int p0] S I L R Q = WP (d, 0, 0) 202 0 [some (.ref t), some (.int p0), none, none, none, none] [] S I L R Q := by
  unfold CA
  rw [hm_202, hn_202]
  rfl
set_option maxRecDepth 100000 in
theorem hc_203 : mC 203 = prog_4_method_11_code := rfl
set_option maxRecDepth 100000 in
theorem ho_203 : mO 203 = 11 := rfl
set_option maxRecDepth 100000 in
theorem hn_203 : mN 203 = 2 := rfl
set_option maxRecDepth 100000 in
theorem ht_203 : mT 203 = (Option.some FieldType.int) := rfl
set_option maxRecDepth 100000 in
theorem hm_203 : mcs 203 = (0, 0) := by decide +kernel
theorem ca_203 {d : Nat} {t : Nat} {p0 : Int32} {S : mS} {I : mI} {L : mL} {R : mR} {Q : mQ} : CA d 203 [.ref t, .int p0] S I L R Q = WP (d, 0, 0) 203 0 [some (.ref t), some (.int p0)] [] S I L R Q := by
  unfold CA
  rw [hm_203, hn_203]
  rfl
set_option maxRecDepth 100000 in
theorem hc_204 : mC 204 = prog_4_method_6_code := rfl
set_option maxRecDepth 100000 in
theorem ho_204 : mO 204 = 11 := rfl
set_option maxRecDepth 100000 in
theorem hn_204 : mN 204 = 5 := rfl
set_option maxRecDepth 100000 in
theorem ht_204 : mT 204 = (Option.some FieldType.boolean) := rfl
set_option maxRecDepth 100000 in
theorem hm_204 : mcs 204 = (0, 0) := by decide +kernel
theorem ca_204 {d : Nat} {t : Nat} {p0 : Int32} {S : mS} {I : mI} {L : mL} {R : mR} {Q : mQ} : CA d 204 [.ref t, .int p0] S I L R Q = WP (d, 0, 0) 204 0 [some (.ref t), some (.int p0), none, none, none] [] S I L R Q := by
  unfold CA
  rw [hm_204, hn_204]
  rfl
set_option maxRecDepth 100000 in
theorem hc_205 : mC 205 = prog_4_method_3_code := rfl
set_option maxRecDepth 100000 in
theorem ho_205 : mO 205 = 11 := rfl
set_option maxRecDepth 100000 in
theorem hn_205 : mN 205 = 2 := rfl
set_option maxRecDepth 100000 in
theorem ht_205 : mT 205 = none := rfl
set_option maxRecDepth 100000 in
theorem hm_205 : mcs 205 = (0, 0) := by decide +kernel
theorem ca_205 {d : Nat} {t : Nat} {p0 : Nat} {S : mS} {I : mI} {L : mL} {R : mR} {Q : mQ} : CA d 205 [.ref t, .ref p0] S I L R Q = WP (d, 0, 0) 205 0 [some (.ref t), some (.ref p0)] [] S I L R Q := by
  unfold CA
  rw [hm_205, hn_205]
  rfl
set_option maxRecDepth 100000 in
theorem hc_206 : mC 206 = prog_14_method_1_code := rfl
set_option maxRecDepth 100000 in
theorem ho_206 : mO 206 = 12 := rfl
set_option maxRecDepth 100000 in
theorem hn_206 : mN 206 = 1 := rfl
set_option maxRecDepth 100000 in
theorem ht_206 : mT 206 = none := rfl
set_option maxRecDepth 100000 in
theorem hm_206 : mcs 206 = (60, 20000) := by decide +kernel
theorem ca_206 {d : Nat} {t : Nat} {S : mS} {I : mI} {L : mL} {R : mR} {Q : mQ} : CA d 206 [.ref t] S I L R Q = WP (d, 60, 20000) 206 0 [some (.ref t)] [] S I L R Q := by
  unfold CA
  rw [hm_206, hn_206]
  rfl
set_option maxRecDepth 100000 in
theorem hc_207 : mC 207 = prog_14_method_2_code := rfl
set_option maxRecDepth 100000 in
theorem ho_207 : mO 207 = 12 := rfl
set_option maxRecDepth 100000 in
theorem hn_207 : mN 207 = 3 := rfl
set_option maxRecDepth 100000 in
theorem ht_207 : mT 207 = none := rfl
set_option maxRecDepth 100000 in
theorem hm_207 : mcs 207 = (0, 0) := by decide +kernel
theorem ca_207 {d : Nat} {t : Nat} {p0 : Int32} {S : mS} {I : mI} {L : mL} {R : mR} {Q : mQ} : CA d 207 [.ref t, .int p0] S I L R Q = WP (d, 0, 0) 207 0 [some (.ref t), some (.int p0), none] [] S I L R Q := by
  unfold CA
  rw [hm_207, hn_207]
  rfl
set_option maxRecDepth 100000 in
theorem hc_208 : mC 208 = prog_14_method_3_code := rfl
set_option maxRecDepth 100000 in
theorem ho_208 : mO 208 = 12 := rfl
set_option maxRecDepth 100000 in
theorem hn_208 : mN 208 = 1 := rfl
set_option maxRecDepth 100000 in
theorem ht_208 : mT 208 = (Option.some FieldType.int) := rfl
set_option maxRecDepth 100000 in
theorem hm_208 : mcs 208 = (0, 0) := by decide +kernel
theorem ca_208 {d : Nat} {t : Nat} {S : mS} {I : mI} {L : mL} {R : mR} {Q : mQ} : CA d 208 [.ref t] S I L R Q = WP (d, 0, 0) 208 0 [some (.ref t)] [] S I L R Q := by
  unfold CA
  rw [hm_208, hn_208]
  rfl
set_option maxRecDepth 100000 in
theorem hc_209 : mC 209 = prog_14_method_4_code := rfl
set_option maxRecDepth 100000 in
theorem ho_209 : mO 209 = 12 := rfl
set_option maxRecDepth 100000 in
theorem hn_209 : mN 209 = 1 := rfl
set_option maxRecDepth 100000 in
theorem ht_209 : mT 209 = (Option.some FieldType.long) := rfl
set_option maxRecDepth 100000 in
theorem hm_209 : mcs 209 = (0, 0) := by decide +kernel
theorem ca_209 {d : Nat} {t : Nat} {S : mS} {I : mI} {L : mL} {R : mR} {Q : mQ} : CA d 209 [.ref t] S I L R Q = WP (d, 0, 0) 209 0 [some (.ref t)] [] S I L R Q := by
  unfold CA
  rw [hm_209, hn_209]
  rfl
set_option maxRecDepth 100000 in
theorem hc_210 : mC 210 = prog_14_method_5_code := rfl
set_option maxRecDepth 100000 in
theorem ho_210 : mO 210 = 12 := rfl
set_option maxRecDepth 100000 in
theorem hn_210 : mN 210 = 1 := rfl
set_option maxRecDepth 100000 in
theorem ht_210 : mT 210 = (Option.some FieldType.long) := rfl
set_option maxRecDepth 100000 in
theorem hm_210 : mcs 210 = (0, 0) := by decide +kernel
theorem ca_210 {d : Nat} {t : Nat} {S : mS} {I : mI} {L : mL} {R : mR} {Q : mQ} : CA d 210 [.ref t] S I L R Q = WP (d, 0, 0) 210 0 [some (.ref t)] [] S I L R Q := by
  unfold CA
  rw [hm_210, hn_210]
  rfl
set_option maxRecDepth 100000 in
theorem hc_211 : mC 211 = prog_14_method_13_code := rfl
set_option maxRecDepth 100000 in
theorem ho_211 : mO 211 = 12 := rfl
set_option maxRecDepth 100000 in
theorem hn_211 : mN 211 = 5 := rfl
set_option maxRecDepth 100000 in
theorem ht_211 : mT 211 = (Option.some FieldType.boolean) := rfl
set_option maxRecDepth 100000 in
theorem hm_211 : mcs 211 = (0, 0) := by decide +kernel
theorem ca_211 {d : Nat} {t : Nat} {p0 : Int32} {p1 : Int32} {p2 : Int32} {S : mS} {I : mI} {L : mL} {R : mR} {Q : mQ} : CA d 211 [.ref t, .int p0, .int p1, .int p2] S I L R Q = WP (d, 0, 0) 211 0 [some (.ref t), some (.int p0), some (.int p1), some (.int p2), none] [] S I L R Q := by
  unfold CA
  rw [hm_211, hn_211]
  rfl
set_option maxRecDepth 100000 in
theorem hc_212 : mC 212 = prog_14_method_11_code := rfl
set_option maxRecDepth 100000 in
theorem ho_212 : mO 212 = 12 := rfl
set_option maxRecDepth 100000 in
theorem hn_212 : mN 212 = 1 := rfl
set_option maxRecDepth 100000 in
theorem ht_212 : mT 212 = (Option.some FieldType.boolean) := rfl
set_option maxRecDepth 100000 in
theorem hm_212 : mcs 212 = (0, 0) := by decide +kernel
theorem ca_212 {d : Nat} {p0 : Int32} {S : mS} {I : mI} {L : mL} {R : mR} {Q : mQ} : CA d 212 [.int p0] S I L R Q = WP (d, 0, 0) 212 0 [some (.int p0)] [] S I L R Q := by
  unfold CA
  rw [hm_212, hn_212]
  rfl
set_option maxRecDepth 100000 in
theorem hc_213 : mC 213 = prog_14_method_6_code := rfl
set_option maxRecDepth 100000 in
theorem ho_213 : mO 213 = 12 := rfl
set_option maxRecDepth 100000 in
theorem hn_213 : mN 213 = 2 := rfl
set_option maxRecDepth 100000 in
theorem ht_213 : mT 213 = (Option.some FieldType.boolean) := rfl
set_option maxRecDepth 100000 in
theorem hm_213 : mcs 213 = (0, 0) := by decide +kernel
theorem ca_213 {d : Nat} {t : Nat} {p0 : Int32} {S : mS} {I : mI} {L : mL} {R : mR} {Q : mQ} : CA d 213 [.ref t, .int p0] S I L R Q = WP (d, 0, 0) 213 0 [some (.ref t), some (.int p0)] [] S I L R Q := by
  unfold CA
  rw [hm_213, hn_213]
  rfl
set_option maxRecDepth 100000 in
theorem hc_214 : mC 214 = prog_14_method_15_code := rfl
set_option maxRecDepth 100000 in
theorem ho_214 : mO 214 = 12 := rfl
set_option maxRecDepth 100000 in
theorem hn_214 : mN 214 = 6 := rfl
set_option maxRecDepth 100000 in
theorem ht_214 : mT 214 = (Option.some FieldType.boolean) := rfl
set_option maxRecDepth 100000 in
theorem hm_214 : mcs 214 = (0, 0) := by decide +kernel
theorem ca_214 {d : Nat} {t : Nat} {p0 : Int32} {p1 : Int32} {p2 : Int64} {S : mS} {I : mI} {L : mL} {R : mR} {Q : mQ} : CA d 214 [.ref t, .int p0, .int p1, .long p2] S I L R Q = WP (d, 0, 0) 214 0 [some (.ref t), some (.int p0), some (.int p1), some (.long p2), none, none] [] S I L R Q := by
  unfold CA
  rw [hm_214, hn_214]
  rfl
set_option maxRecDepth 100000 in
theorem hc_215 : mC 215 = prog_14_method_14_code := rfl
set_option maxRecDepth 100000 in
theorem ho_215 : mO 215 = 12 := rfl
set_option maxRecDepth 100000 in
theorem hn_215 : mN 215 = 3 := rfl
set_option maxRecDepth 100000 in
theorem ht_215 : mT 215 = (Option.some FieldType.int) := rfl
set_option maxRecDepth 100000 in
theorem hm_215 : mcs 215 = (0, 0) := by decide +kernel
theorem ca_215 {d : Nat} {t : Nat} {p0 : Int32} {p1 : Int32} {S : mS} {I : mI} {L : mL} {R : mR} {Q : mQ} : CA d 215 [.ref t, .int p0, .int p1] S I L R Q = WP (d, 0, 0) 215 0 [some (.ref t), some (.int p0), some (.int p1)] [] S I L R Q := by
  unfold CA
  rw [hm_215, hn_215]
  rfl
set_option maxRecDepth 100000 in
theorem hc_216 : mC 216 = prog_14_method_12_code := rfl
set_option maxRecDepth 100000 in
theorem ho_216 : mO 216 = 12 := rfl
set_option maxRecDepth 100000 in
theorem hn_216 : mN 216 = 3 := rfl
set_option maxRecDepth 100000 in
theorem ht_216 : mT 216 = (Option.some FieldType.long) := rfl
set_option maxRecDepth 100000 in
theorem hm_216 : mcs 216 = (0, 0) := by decide +kernel
theorem ca_216 {d : Nat} {p0 : Int64} {p1 : Int32} {S : mS} {I : mI} {L : mL} {R : mR} {Q : mQ} : CA d 216 [.long p0, .int p1] S I L R Q = WP (d, 0, 0) 216 0 [some (.long p0), none, some (.int p1)] [] S I L R Q := by
  unfold CA
  rw [hm_216, hn_216]
  rfl
set_option maxRecDepth 100000 in
theorem hc_217 : mC 217 = prog_14_method_16_code := rfl
set_option maxRecDepth 100000 in
theorem ho_217 : mO 217 = 12 := rfl
set_option maxRecDepth 100000 in
theorem hn_217 : mN 217 = 3 := rfl
set_option maxRecDepth 100000 in
theorem ht_217 : mT 217 = (Option.some FieldType.long) := rfl
set_option maxRecDepth 100000 in
theorem hm_217 : mcs 217 = (0, 0) := by decide +kernel
theorem ca_217 {d : Nat} {t : Nat} {p0 : Int32} {p1 : Int32} {S : mS} {I : mI} {L : mL} {R : mR} {Q : mQ} : CA d 217 [.ref t, .int p0, .int p1] S I L R Q = WP (d, 0, 0) 217 0 [some (.ref t), some (.int p0), some (.int p1)] [] S I L R Q := by
  unfold CA
  rw [hm_217, hn_217]
  rfl
set_option maxRecDepth 100000 in
theorem hc_218 : mC 218 = prog_14_method_17_code := rfl
set_option maxRecDepth 100000 in
theorem ho_218 : mO 218 = 12 := rfl
set_option maxRecDepth 100000 in
theorem hn_218 : mN 218 = 8 := rfl
set_option maxRecDepth 100000 in
theorem ht_218 : mT 218 = (Option.some FieldType.boolean) := rfl
set_option maxRecDepth 100000 in
theorem hm_218 : mcs 218 = (0, 0) := by decide +kernel
theorem ca_218 {d : Nat} {t : Nat} {p0 : Int32} {p1 : Int32} {p2 : Int32} {p3 : Int32} {p4 : Int32} {S : mS} {I : mI} {L : mL} {R : mR} {Q : mQ} : CA d 218 [.ref t, .int p0, .int p1, .int p2, .int p3, .int p4] S I L R Q = WP (d, 0, 0) 218 0 [some (.ref t), some (.int p0), some (.int p1), some (.int p2), some (.int p3), some (.int p4), none, none] [] S I L R Q := by
  unfold CA
  rw [hm_218, hn_218]
  rfl
set_option maxRecDepth 100000 in
theorem hc_219 : mC 219 = prog_14_method_19_code := rfl
set_option maxRecDepth 100000 in
theorem ho_219 : mO 219 = 12 := rfl
set_option maxRecDepth 100000 in
theorem hn_219 : mN 219 = 6 := rfl
set_option maxRecDepth 100000 in
theorem ht_219 : mT 219 = (Option.some FieldType.int) := rfl
set_option maxRecDepth 100000 in
theorem hm_219 : mcs 219 = (0, 0) := by decide +kernel
theorem ca_219 {d : Nat} {t : Nat} {p0 : Int32} {p1 : Int32} {p2 : Int32} {p3 : Int32} {p4 : Int32} {S : mS} {I : mI} {L : mL} {R : mR} {Q : mQ} : CA d 219 [.ref t, .int p0, .int p1, .int p2, .int p3, .int p4] S I L R Q = WP (d, 0, 0) 219 0 [some (.ref t), some (.int p0), some (.int p1), some (.int p2), some (.int p3), some (.int p4)] [] S I L R Q := by
  unfold CA
  rw [hm_219, hn_219]
  rfl
set_option maxRecDepth 100000 in
theorem hc_220 : mC 220 = prog_14_method_20_code := rfl
set_option maxRecDepth 100000 in
theorem ho_220 : mO 220 = 12 := rfl
set_option maxRecDepth 100000 in
theorem hn_220 : mN 220 = 3 := rfl
set_option maxRecDepth 100000 in
theorem ht_220 : mT 220 = none := rfl
set_option maxRecDepth 100000 in
theorem hm_220 : mcs 220 = (0, 0) := by decide +kernel
theorem ca_220 {d : Nat} {t : Nat} {p0 : Int32} {S : mS} {I : mI} {L : mL} {R : mR} {Q : mQ} : CA d 220 [.ref t, .int p0] S I L R Q = WP (d, 0, 0) 220 0 [some (.ref t), some (.int p0), none] [] S I L R Q := by
  unfold CA
  rw [hm_220, hn_220]
  rfl
set_option maxRecDepth 100000 in
theorem hc_221 : mC 221 = prog_14_method_35_code := rfl
set_option maxRecDepth 100000 in
theorem ho_221 : mO 221 = 12 := rfl
set_option maxRecDepth 100000 in
theorem hn_221 : mN 221 = 2 := rfl
set_option maxRecDepth 100000 in
theorem ht_221 : mT 221 = (Option.some FieldType.int) := rfl
set_option maxRecDepth 100000 in
theorem hm_221 : mcs 221 = (0, 0) := by decide +kernel
theorem ca_221 {d : Nat} {t : Nat} {p0 : Int32} {S : mS} {I : mI} {L : mL} {R : mR} {Q : mQ} : CA d 221 [.ref t, .int p0] S I L R Q = WP (d, 0, 0) 221 0 [some (.ref t), some (.int p0)] [] S I L R Q := by
  unfold CA
  rw [hm_221, hn_221]
  rfl
set_option maxRecDepth 100000 in
theorem hc_222 : mC 222 = prog_14_method_43_code := rfl
set_option maxRecDepth 100000 in
theorem ho_222 : mO 222 = 12 := rfl
set_option maxRecDepth 100000 in
theorem hn_222 : mN 222 = 4 := rfl
set_option maxRecDepth 100000 in
theorem ht_222 : mT 222 = (Option.some FieldType.int) := rfl
set_option maxRecDepth 100000 in
theorem hm_222 : mcs 222 = (0, 0) := by decide +kernel
theorem ca_222 {d : Nat} {t : Nat} {p0 : Int32} {S : mS} {I : mI} {L : mL} {R : mR} {Q : mQ} : CA d 222 [.ref t, .int p0] S I L R Q = WP (d, 0, 0) 222 0 [some (.ref t), some (.int p0), none, none] [] S I L R Q := by
  unfold CA
  rw [hm_222, hn_222]
  rfl
set_option maxRecDepth 100000 in
theorem hc_223 : mC 223 = prog_14_method_28_code := rfl
set_option maxRecDepth 100000 in
theorem ho_223 : mO 223 = 12 := rfl
set_option maxRecDepth 100000 in
theorem hn_223 : mN 223 = 4 := rfl
set_option maxRecDepth 100000 in
theorem ht_223 : mT 223 = (Option.some FieldType.boolean) := rfl
set_option maxRecDepth 100000 in
theorem hm_223 : mcs 223 = (0, 0) := by decide +kernel
theorem ca_223 {d : Nat} {t : Nat} {p0 : Int32} {p1 : Int32} {S : mS} {I : mI} {L : mL} {R : mR} {Q : mQ} : CA d 223 [.ref t, .int p0, .int p1] S I L R Q = WP (d, 0, 0) 223 0 [some (.ref t), some (.int p0), some (.int p1), none] [] S I L R Q := by
  unfold CA
  rw [hm_223, hn_223]
  rfl
set_option maxRecDepth 100000 in
theorem hc_224 : mC 224 = prog_14_method_24_code := rfl
set_option maxRecDepth 100000 in
theorem ho_224 : mO 224 = 12 := rfl
set_option maxRecDepth 100000 in
theorem hn_224 : mN 224 = 2 := rfl
set_option maxRecDepth 100000 in
theorem ht_224 : mT 224 = none := rfl
set_option maxRecDepth 100000 in
theorem hm_224 : mcs 224 = (0, 0) := by decide +kernel
theorem ca_224 {d : Nat} {t : Nat} {S : mS} {I : mI} {L : mL} {R : mR} {Q : mQ} : CA d 224 [.ref t] S I L R Q = WP (d, 0, 0) 224 0 [some (.ref t), none] [] S I L R Q := by
  unfold CA
  rw [hm_224, hn_224]
  rfl
set_option maxRecDepth 100000 in
theorem hc_225 : mC 225 = prog_14_method_21_code := rfl
set_option maxRecDepth 100000 in
theorem ho_225 : mO 225 = 12 := rfl
set_option maxRecDepth 100000 in
theorem hn_225 : mN 225 = 2 := rfl
set_option maxRecDepth 100000 in
theorem ht_225 : mT 225 = (Option.some FieldType.int) := rfl
set_option maxRecDepth 100000 in
theorem hm_225 : mcs 225 = (0, 0) := by decide +kernel
theorem ca_225 {d : Nat} {t : Nat} {p0 : Int32} {S : mS} {I : mI} {L : mL} {R : mR} {Q : mQ} : CA d 225 [.ref t, .int p0] S I L R Q = WP (d, 0, 0) 225 0 [some (.ref t), some (.int p0)] [] S I L R Q := by
  unfold CA
  rw [hm_225, hn_225]
  rfl
set_option maxRecDepth 100000 in
theorem hc_226 : mC 226 = prog_14_method_22_code := rfl
set_option maxRecDepth 100000 in
theorem ho_226 : mO 226 = 12 := rfl
set_option maxRecDepth 100000 in
theorem hn_226 : mN 226 = 1 := rfl
set_option maxRecDepth 100000 in
theorem ht_226 : mT 226 = (Option.some FieldType.boolean) := rfl
set_option maxRecDepth 100000 in
theorem hm_226 : mcs 226 = (0, 0) := by decide +kernel
theorem ca_226 {d : Nat} {p0 : Int32} {S : mS} {I : mI} {L : mL} {R : mR} {Q : mQ} : CA d 226 [.int p0] S I L R Q = WP (d, 0, 0) 226 0 [some (.int p0)] [] S I L R Q := by
  unfold CA
  rw [hm_226, hn_226]
  rfl
set_option maxRecDepth 100000 in
theorem hc_227 : mC 227 = prog_14_method_23_code := rfl
set_option maxRecDepth 100000 in
theorem ho_227 : mO 227 = 12 := rfl
set_option maxRecDepth 100000 in
theorem hn_227 : mN 227 = 1 := rfl
set_option maxRecDepth 100000 in
theorem ht_227 : mT 227 = (Option.some FieldType.boolean) := rfl
set_option maxRecDepth 100000 in
theorem hm_227 : mcs 227 = (0, 0) := by decide +kernel
theorem ca_227 {d : Nat} {p0 : Int32} {S : mS} {I : mI} {L : mL} {R : mR} {Q : mQ} : CA d 227 [.int p0] S I L R Q = WP (d, 0, 0) 227 0 [some (.int p0)] [] S I L R Q := by
  unfold CA
  rw [hm_227, hn_227]
  rfl
set_option maxRecDepth 100000 in
theorem hc_228 : mC 228 = prog_14_method_7_code := rfl
set_option maxRecDepth 100000 in
theorem ho_228 : mO 228 = 12 := rfl
set_option maxRecDepth 100000 in
theorem hn_228 : mN 228 = 2 := rfl
set_option maxRecDepth 100000 in
theorem ht_228 : mT 228 = (Option.some FieldType.int) := rfl
set_option maxRecDepth 100000 in
theorem hm_228 : mcs 228 = (0, 0) := by decide +kernel
theorem ca_228 {d : Nat} {t : Nat} {p0 : Int32} {S : mS} {I : mI} {L : mL} {R : mR} {Q : mQ} : CA d 228 [.ref t, .int p0] S I L R Q = WP (d, 0, 0) 228 0 [some (.ref t), some (.int p0)] [] S I L R Q := by
  unfold CA
  rw [hm_228, hn_228]
  rfl
set_option maxRecDepth 100000 in
theorem hc_229 : mC 229 = prog_14_method_42_code := rfl
set_option maxRecDepth 100000 in
theorem ho_229 : mO 229 = 12 := rfl
set_option maxRecDepth 100000 in
theorem hn_229 : mN 229 = 4 := rfl
set_option maxRecDepth 100000 in
theorem ht_229 : mT 229 = (Option.some FieldType.boolean) := rfl
set_option maxRecDepth 100000 in
theorem hm_229 : mcs 229 = (0, 0) := by decide +kernel
theorem ca_229 {d : Nat} {t : Nat} {S : mS} {I : mI} {L : mL} {R : mR} {Q : mQ} : CA d 229 [.ref t] S I L R Q = WP (d, 0, 0) 229 0 [some (.ref t), none, none, none] [] S I L R Q := by
  unfold CA
  rw [hm_229, hn_229]
  rfl
set_option maxRecDepth 100000 in
theorem hc_230 : mC 230 = prog_14_method_26_code := rfl
set_option maxRecDepth 100000 in
theorem ho_230 : mO 230 = 12 := rfl
set_option maxRecDepth 100000 in
theorem hn_230 : mN 230 = 7 := rfl
set_option maxRecDepth 100000 in
theorem ht_230 : mT 230 = (Option.some FieldType.int) := rfl
set_option maxRecDepth 100000 in
theorem hm_230 : mcs 230 = (0, 0) := by decide +kernel
theorem ca_230 {d : Nat} {t : Nat} {p0 : Nat} {S : mS} {I : mI} {L : mL} {R : mR} {Q : mQ} : CA d 230 [.ref t, .ref p0] S I L R Q = WP (d, 0, 0) 230 0 [some (.ref t), some (.ref p0), none, none, none, none, none] [] S I L R Q := by
  unfold CA
  rw [hm_230, hn_230]
  rfl
set_option maxRecDepth 100000 in
theorem hc_231 : mC 231 = prog_14_method_27_code := rfl
set_option maxRecDepth 100000 in
theorem ho_231 : mO 231 = 12 := rfl
set_option maxRecDepth 100000 in
theorem hn_231 : mN 231 = 2 := rfl
set_option maxRecDepth 100000 in
theorem ht_231 : mT 231 = (Option.some FieldType.boolean) := rfl
set_option maxRecDepth 100000 in
theorem hm_231 : mcs 231 = (0, 0) := by decide +kernel
theorem ca_231 {d : Nat} {t : Nat} {p0 : Int32} {S : mS} {I : mI} {L : mL} {R : mR} {Q : mQ} : CA d 231 [.ref t, .int p0] S I L R Q = WP (d, 0, 0) 231 0 [some (.ref t), some (.int p0)] [] S I L R Q := by
  unfold CA
  rw [hm_231, hn_231]
  rfl
set_option maxRecDepth 100000 in
theorem hc_232 : mC 232 = prog_14_method_39_code := rfl
set_option maxRecDepth 100000 in
theorem ho_232 : mO 232 = 12 := rfl
set_option maxRecDepth 100000 in
theorem hn_232 : mN 232 = 4 := rfl
set_option maxRecDepth 100000 in
theorem ht_232 : mT 232 = (Option.some FieldType.boolean) := rfl
set_option maxRecDepth 100000 in
theorem hm_232 : mcs 232 = (0, 0) := by decide +kernel
theorem ca_232 {d : Nat} {t : Nat} {S : mS} {I : mI} {L : mL} {R : mR} {Q : mQ} : CA d 232 [.ref t] S I L R Q = WP (d, 0, 0) 232 0 [some (.ref t), none, none, none] [] S I L R Q := by
  unfold CA
  rw [hm_232, hn_232]
  rfl
set_option maxRecDepth 100000 in
theorem hc_233 : mC 233 = prog_14_method_31_code := rfl
set_option maxRecDepth 100000 in
theorem ho_233 : mO 233 = 12 := rfl
set_option maxRecDepth 100000 in
theorem hn_233 : mN 233 = 4 := rfl
set_option maxRecDepth 100000 in
theorem ht_233 : mT 233 = (Option.some FieldType.boolean) := rfl
set_option maxRecDepth 100000 in
theorem hm_233 : mcs 233 = (0, 0) := by decide +kernel
theorem ca_233 {d : Nat} {t : Nat} {p0 : Int32} {p1 : Int32} {p2 : Int32} {S : mS} {I : mI} {L : mL} {R : mR} {Q : mQ} : CA d 233 [.ref t, .int p0, .int p1, .int p2] S I L R Q = WP (d, 0, 0) 233 0 [some (.ref t), some (.int p0), some (.int p1), some (.int p2)] [] S I L R Q := by
  unfold CA
  rw [hm_233, hn_233]
  rfl
set_option maxRecDepth 100000 in
theorem hc_234 : mC 234 = prog_14_method_30_code := rfl
set_option maxRecDepth 100000 in
theorem ho_234 : mO 234 = 12 := rfl
set_option maxRecDepth 100000 in
theorem hn_234 : mN 234 = 3 := rfl
set_option maxRecDepth 100000 in
theorem ht_234 : mT 234 = (Option.some FieldType.boolean) := rfl
set_option maxRecDepth 100000 in
theorem hm_234 : mcs 234 = (0, 0) := by decide +kernel
theorem ca_234 {d : Nat} {t : Nat} {p0 : Nat} {p1 : Int32} {S : mS} {I : mI} {L : mL} {R : mR} {Q : mQ} : CA d 234 [.ref t, .ref p0, .int p1] S I L R Q = WP (d, 0, 0) 234 0 [some (.ref t), some (.ref p0), some (.int p1)] [] S I L R Q := by
  unfold CA
  rw [hm_234, hn_234]
  rfl
set_option maxRecDepth 100000 in
theorem hc_235 : mC 235 = prog_14_method_40_code := rfl
set_option maxRecDepth 100000 in
theorem ho_235 : mO 235 = 12 := rfl
set_option maxRecDepth 100000 in
theorem hn_235 : mN 235 = 3 := rfl
set_option maxRecDepth 100000 in
theorem ht_235 : mT 235 = (Option.some FieldType.boolean) := rfl
set_option maxRecDepth 100000 in
theorem hm_235 : mcs 235 = (0, 0) := by decide +kernel
theorem ca_235 {d : Nat} {t : Nat} {S : mS} {I : mI} {L : mL} {R : mR} {Q : mQ} : CA d 235 [.ref t] S I L R Q = WP (d, 0, 0) 235 0 [some (.ref t), none, none] [] S I L R Q := by
  unfold CA
  rw [hm_235, hn_235]
  rfl
set_option maxRecDepth 100000 in
theorem hc_236 : mC 236 = prog_14_method_38_code := rfl
set_option maxRecDepth 100000 in
theorem ho_236 : mO 236 = 12 := rfl
set_option maxRecDepth 100000 in
theorem hn_236 : mN 236 = 3 := rfl
set_option maxRecDepth 100000 in
theorem ht_236 : mT 236 = (Option.some FieldType.boolean) := rfl
set_option maxRecDepth 100000 in
theorem hm_236 : mcs 236 = (0, 0) := by decide +kernel
theorem ca_236 {d : Nat} {t : Nat} {p0 : Int32} {p1 : Int32} {S : mS} {I : mI} {L : mL} {R : mR} {Q : mQ} : CA d 236 [.ref t, .int p0, .int p1] S I L R Q = WP (d, 0, 0) 236 0 [some (.ref t), some (.int p0), some (.int p1)] [] S I L R Q := by
  unfold CA
  rw [hm_236, hn_236]
  rfl
set_option maxRecDepth 100000 in
theorem hc_237 : mC 237 = prog_14_method_37_code := rfl
set_option maxRecDepth 100000 in
theorem ho_237 : mO 237 = 12 := rfl
set_option maxRecDepth 100000 in
theorem hn_237 : mN 237 = 2 := rfl
set_option maxRecDepth 100000 in
theorem ht_237 : mT 237 = (Option.some FieldType.boolean) := rfl
set_option maxRecDepth 100000 in
theorem hm_237 : mcs 237 = (0, 0) := by decide +kernel
theorem ca_237 {d : Nat} {t : Nat} {p0 : Int32} {S : mS} {I : mI} {L : mL} {R : mR} {Q : mQ} : CA d 237 [.ref t, .int p0] S I L R Q = WP (d, 0, 0) 237 0 [some (.ref t), some (.int p0)] [] S I L R Q := by
  unfold CA
  rw [hm_237, hn_237]
  rfl
set_option maxRecDepth 100000 in
theorem hc_238 : mC 238 = prog_14_method_41_code := rfl
set_option maxRecDepth 100000 in
theorem ho_238 : mO 238 = 12 := rfl
set_option maxRecDepth 100000 in
theorem hn_238 : mN 238 = 3 := rfl
set_option maxRecDepth 100000 in
theorem ht_238 : mT 238 = (Option.some FieldType.boolean) := rfl
set_option maxRecDepth 100000 in
theorem hm_238 : mcs 238 = (0, 0) := by decide +kernel
theorem ca_238 {d : Nat} {t : Nat} {S : mS} {I : mI} {L : mL} {R : mR} {Q : mQ} : CA d 238 [.ref t] S I L R Q = WP (d, 0, 0) 238 0 [some (.ref t), none, none] [] S I L R Q := by
  unfold CA
  rw [hm_238, hn_238]
  rfl
set_option maxRecDepth 100000 in
theorem hc_239 : mC 239 = prog_14_method_32_code := rfl
set_option maxRecDepth 100000 in
theorem ho_239 : mO 239 = 12 := rfl
set_option maxRecDepth 100000 in
theorem hn_239 : mN 239 = 2 := rfl
set_option maxRecDepth 100000 in
theorem ht_239 : mT 239 = (Option.some FieldType.boolean) := rfl
set_option maxRecDepth 100000 in
theorem hm_239 : mcs 239 = (0, 0) := by decide +kernel
theorem ca_239 {d : Nat} {t : Nat} {p0 : Nat} {S : mS} {I : mI} {L : mL} {R : mR} {Q : mQ} : CA d 239 [.ref t, .ref p0] S I L R Q = WP (d, 0, 0) 239 0 [some (.ref t), some (.ref p0)] [] S I L R Q := by
  unfold CA
  rw [hm_239, hn_239]
  rfl
set_option maxRecDepth 100000 in
theorem hc_240 : mC 240 = prog_14_method_34_code := rfl
set_option maxRecDepth 100000 in
theorem ho_240 : mO 240 = 12 := rfl
set_option maxRecDepth 100000 in
theorem hn_240 : mN 240 = 4 := rfl
set_option maxRecDepth 100000 in
theorem ht_240 : mT 240 = (Option.some FieldType.int) := rfl
set_option maxRecDepth 100000 in
theorem hm_240 : mcs 240 = (0, 0) := by decide +kernel
theorem ca_240 {d : Nat} {t : Nat} {p0 : Int32} {p1 : Int32} {S : mS} {I : mI} {L : mL} {R : mR} {Q : mQ} : CA d 240 [.ref t, .int p0, .int p1] S I L R Q = WP (d, 0, 0) 240 0 [some (.ref t), some (.int p0), some (.int p1), none] [] S I L R Q := by
  unfold CA
  rw [hm_240, hn_240]
  rfl
set_option maxRecDepth 100000 in
theorem hc_241 : mC 241 = prog_14_method_33_code := rfl
set_option maxRecDepth 100000 in
theorem ho_241 : mO 241 = 12 := rfl
set_option maxRecDepth 100000 in
theorem hn_241 : mN 241 = 4 := rfl
set_option maxRecDepth 100000 in
theorem ht_241 : mT 241 = (Option.some FieldType.long) := rfl
set_option maxRecDepth 100000 in
theorem hm_241 : mcs 241 = (0, 0) := by decide +kernel
theorem ca_241 {d : Nat} {t : Nat} {S : mS} {I : mI} {L : mL} {R : mR} {Q : mQ} : CA d 241 [.ref t] S I L R Q = WP (d, 0, 0) 241 0 [some (.ref t), none, none, none] [] S I L R Q := by
  unfold CA
  rw [hm_241, hn_241]
  rfl
set_option maxRecDepth 100000 in
theorem hc_242 : mC 242 = prog_14_method_29_code := rfl
set_option maxRecDepth 100000 in
theorem ho_242 : mO 242 = 12 := rfl
set_option maxRecDepth 100000 in
theorem hn_242 : mN 242 = 2 := rfl
set_option maxRecDepth 100000 in
theorem ht_242 : mT 242 = (Option.some FieldType.boolean) := rfl
set_option maxRecDepth 100000 in
theorem hm_242 : mcs 242 = (0, 0) := by decide +kernel
theorem ca_242 {d : Nat} {t : Nat} {p0 : Int32} {S : mS} {I : mI} {L : mL} {R : mR} {Q : mQ} : CA d 242 [.ref t, .int p0] S I L R Q = WP (d, 0, 0) 242 0 [some (.ref t), some (.int p0)] [] S I L R Q := by
  unfold CA
  rw [hm_242, hn_242]
  rfl
set_option maxRecDepth 100000 in
theorem hc_243 : mC 243 = prog_14_method_25_code := rfl
set_option maxRecDepth 100000 in
theorem ho_243 : mO 243 = 12 := rfl
set_option maxRecDepth 100000 in
theorem hn_243 : mN 243 = 2 := rfl
set_option maxRecDepth 100000 in
theorem ht_243 : mT 243 = (Option.some FieldType.boolean) := rfl
set_option maxRecDepth 100000 in
theorem hm_243 : mcs 243 = (0, 0) := by decide +kernel
theorem ca_243 {d : Nat} {t : Nat} {p0 : Int32} {S : mS} {I : mI} {L : mL} {R : mR} {Q : mQ} : CA d 243 [.ref t, .int p0] S I L R Q = WP (d, 0, 0) 243 0 [some (.ref t), some (.int p0)] [] S I L R Q := by
  unfold CA
  rw [hm_243, hn_243]
  rfl
set_option maxRecDepth 100000 in
theorem hc_244 : mC 244 = prog_14_method_36_code := rfl
set_option maxRecDepth 100000 in
theorem ho_244 : mO 244 = 12 := rfl
set_option maxRecDepth 100000 in
theorem hn_244 : mN 244 = 2 := rfl
set_option maxRecDepth 100000 in
theorem ht_244 : mT 244 = (Option.some FieldType.int) := rfl
set_option maxRecDepth 100000 in
theorem hm_244 : mcs 244 = (0, 0) := by decide +kernel
theorem ca_244 {d : Nat} {t : Nat} {p0 : Int32} {S : mS} {I : mI} {L : mL} {R : mR} {Q : mQ} : CA d 244 [.ref t, .int p0] S I L R Q = WP (d, 0, 0) 244 0 [some (.ref t), some (.int p0)] [] S I L R Q := by
  unfold CA
  rw [hm_244, hn_244]
  rfl
set_option maxRecDepth 100000 in
theorem hc_245 : mC 245 = prog_14_method_8_code := rfl
set_option maxRecDepth 100000 in
theorem ho_245 : mO 245 = 12 := rfl
set_option maxRecDepth 100000 in
theorem hn_245 : mN 245 = 2 := rfl
set_option maxRecDepth 100000 in
theorem ht_245 : mT 245 = (Option.some FieldType.int) := rfl
set_option maxRecDepth 100000 in
theorem hm_245 : mcs 245 = (0, 0) := by decide +kernel
theorem ca_245 {d : Nat} {t : Nat} {p0 : Int32} {S : mS} {I : mI} {L : mL} {R : mR} {Q : mQ} : CA d 245 [.ref t, .int p0] S I L R Q = WP (d, 0, 0) 245 0 [some (.ref t), some (.int p0)] [] S I L R Q := by
  unfold CA
  rw [hm_245, hn_245]
  rfl
set_option maxRecDepth 100000 in
theorem hc_246 : mC 246 = prog_14_method_48_code := rfl
set_option maxRecDepth 100000 in
theorem ho_246 : mO 246 = 12 := rfl
set_option maxRecDepth 100000 in
theorem hn_246 : mN 246 = 4 := rfl
set_option maxRecDepth 100000 in
theorem ht_246 : mT 246 = (Option.some FieldType.int) := rfl
set_option maxRecDepth 100000 in
theorem hm_246 : mcs 246 = (0, 0) := by decide +kernel
theorem ca_246 {d : Nat} {t : Nat} {p0 : Int32} {S : mS} {I : mI} {L : mL} {R : mR} {Q : mQ} : CA d 246 [.ref t, .int p0] S I L R Q = WP (d, 0, 0) 246 0 [some (.ref t), some (.int p0), none, none] [] S I L R Q := by
  unfold CA
  rw [hm_246, hn_246]
  rfl
set_option maxRecDepth 100000 in
theorem hc_247 : mC 247 = prog_14_method_47_code := rfl
set_option maxRecDepth 100000 in
theorem ho_247 : mO 247 = 12 := rfl
set_option maxRecDepth 100000 in
theorem hn_247 : mN 247 = 6 := rfl
set_option maxRecDepth 100000 in
theorem ht_247 : mT 247 = (Option.some FieldType.boolean) := rfl
set_option maxRecDepth 100000 in
theorem hm_247 : mcs 247 = (0, 0) := by decide +kernel
theorem ca_247 {d : Nat} {t : Nat} {S : mS} {I : mI} {L : mL} {R : mR} {Q : mQ} : CA d 247 [.ref t] S I L R Q = WP (d, 0, 0) 247 0 [some (.ref t), none, none, none, none, none] [] S I L R Q := by
  unfold CA
  rw [hm_247, hn_247]
  rfl
set_option maxRecDepth 100000 in
theorem hc_248 : mC 248 = prog_14_method_46_code := rfl
set_option maxRecDepth 100000 in
theorem ho_248 : mO 248 = 12 := rfl
set_option maxRecDepth 100000 in
theorem hn_248 : mN 248 = 3 := rfl
set_option maxRecDepth 100000 in
theorem ht_248 : mT 248 = (Option.some FieldType.boolean) := rfl
set_option maxRecDepth 100000 in
theorem hm_248 : mcs 248 = (0, 0) := by decide +kernel
theorem ca_248 {d : Nat} {t : Nat} {p0 : Int32} {p1 : Int32} {S : mS} {I : mI} {L : mL} {R : mR} {Q : mQ} : CA d 248 [.ref t, .int p0, .int p1] S I L R Q = WP (d, 0, 0) 248 0 [some (.ref t), some (.int p0), some (.int p1)] [] S I L R Q := by
  unfold CA
  rw [hm_248, hn_248]
  rfl
set_option maxRecDepth 100000 in
theorem hc_249 : mC 249 = prog_14_method_44_code := rfl
set_option maxRecDepth 100000 in
theorem ho_249 : mO 249 = 12 := rfl
set_option maxRecDepth 100000 in
theorem hn_249 : mN 249 = 2 := rfl
set_option maxRecDepth 100000 in
theorem ht_249 : mT 249 = (Option.some FieldType.boolean) := rfl
set_option maxRecDepth 100000 in
theorem hm_249 : mcs 249 = (0, 0) := by decide +kernel
theorem ca_249 {d : Nat} {t : Nat} {p0 : Int32} {S : mS} {I : mI} {L : mL} {R : mR} {Q : mQ} : CA d 249 [.ref t, .int p0] S I L R Q = WP (d, 0, 0) 249 0 [some (.ref t), some (.int p0)] [] S I L R Q := by
  unfold CA
  rw [hm_249, hn_249]
  rfl
set_option maxRecDepth 100000 in
theorem hc_250 : mC 250 = prog_14_method_45_code := rfl
set_option maxRecDepth 100000 in
theorem ho_250 : mO 250 = 12 := rfl
set_option maxRecDepth 100000 in
theorem hn_250 : mN 250 = 3 := rfl
set_option maxRecDepth 100000 in
theorem ht_250 : mT 250 = (Option.some FieldType.boolean) := rfl
set_option maxRecDepth 100000 in
theorem hm_250 : mcs 250 = (0, 0) := by decide +kernel
theorem ca_250 {d : Nat} {t : Nat} {p0 : Int32} {S : mS} {I : mI} {L : mL} {R : mR} {Q : mQ} : CA d 250 [.ref t, .int p0] S I L R Q = WP (d, 0, 0) 250 0 [some (.ref t), some (.int p0), none] [] S I L R Q := by
  unfold CA
  rw [hm_250, hn_250]
  rfl
set_option maxRecDepth 100000 in
theorem hc_251 : mC 251 = prog_14_method_73_code := rfl
set_option maxRecDepth 100000 in
theorem ho_251 : mO 251 = 12 := rfl
set_option maxRecDepth 100000 in
theorem hn_251 : mN 251 = 2 := rfl
set_option maxRecDepth 100000 in
theorem ht_251 : mT 251 = (Option.some FieldType.int) := rfl
set_option maxRecDepth 100000 in
theorem hm_251 : mcs 251 = (0, 0) := by decide +kernel
theorem ca_251 {d : Nat} {t : Nat} {p0 : Int32} {S : mS} {I : mI} {L : mL} {R : mR} {Q : mQ} : CA d 251 [.ref t, .int p0] S I L R Q = WP (d, 0, 0) 251 0 [some (.ref t), some (.int p0)] [] S I L R Q := by
  unfold CA
  rw [hm_251, hn_251]
  rfl
set_option maxRecDepth 100000 in
theorem hc_252 : mC 252 = prog_14_method_70_code := rfl
set_option maxRecDepth 100000 in
theorem ho_252 : mO 252 = 12 := rfl
set_option maxRecDepth 100000 in
theorem hn_252 : mN 252 = 4 := rfl
set_option maxRecDepth 100000 in
theorem ht_252 : mT 252 = (Option.some FieldType.int) := rfl
set_option maxRecDepth 100000 in
theorem hm_252 : mcs 252 = (0, 0) := by decide +kernel
theorem ca_252 {d : Nat} {t : Nat} {p0 : Int32} {S : mS} {I : mI} {L : mL} {R : mR} {Q : mQ} : CA d 252 [.ref t, .int p0] S I L R Q = WP (d, 0, 0) 252 0 [some (.ref t), some (.int p0), none, none] [] S I L R Q := by
  unfold CA
  rw [hm_252, hn_252]
  rfl
set_option maxRecDepth 100000 in
theorem hc_253 : mC 253 = prog_14_method_61_code := rfl
set_option maxRecDepth 100000 in
theorem ho_253 : mO 253 = 12 := rfl
set_option maxRecDepth 100000 in
theorem hn_253 : mN 253 = 2 := rfl
set_option maxRecDepth 100000 in
theorem ht_253 : mT 253 = (Option.some FieldType.boolean) := rfl
set_option maxRecDepth 100000 in
theorem hm_253 : mcs 253 = (0, 0) := by decide +kernel
theorem ca_253 {d : Nat} {t : Nat} {p0 : Int32} {S : mS} {I : mI} {L : mL} {R : mR} {Q : mQ} : CA d 253 [.ref t, .int p0] S I L R Q = WP (d, 0, 0) 253 0 [some (.ref t), some (.int p0)] [] S I L R Q := by
  unfold CA
  rw [hm_253, hn_253]
  rfl
set_option maxRecDepth 100000 in
theorem hc_254 : mC 254 = prog_14_method_60_code := rfl
set_option maxRecDepth 100000 in
theorem ho_254 : mO 254 = 12 := rfl
set_option maxRecDepth 100000 in
theorem hn_254 : mN 254 = 3 := rfl
set_option maxRecDepth 100000 in
theorem ht_254 : mT 254 = (Option.some FieldType.int) := rfl
set_option maxRecDepth 100000 in
theorem hm_254 : mcs 254 = (0, 0) := by decide +kernel
theorem ca_254 {d : Nat} {t : Nat} {p0 : Int32} {p1 : Int32} {S : mS} {I : mI} {L : mL} {R : mR} {Q : mQ} : CA d 254 [.ref t, .int p0, .int p1] S I L R Q = WP (d, 0, 0) 254 0 [some (.ref t), some (.int p0), some (.int p1)] [] S I L R Q := by
  unfold CA
  rw [hm_254, hn_254]
  rfl
set_option maxRecDepth 100000 in
theorem hc_255 : mC 255 = prog_14_method_50_code := rfl
set_option maxRecDepth 100000 in
theorem ho_255 : mO 255 = 12 := rfl
set_option maxRecDepth 100000 in
theorem hn_255 : mN 255 = 1 := rfl
set_option maxRecDepth 100000 in
theorem ht_255 : mT 255 = (Option.some FieldType.int) := rfl
set_option maxRecDepth 100000 in
theorem hm_255 : mcs 255 = (0, 0) := by decide +kernel
theorem ca_255 {d : Nat} {p0 : Int32} {S : mS} {I : mI} {L : mL} {R : mR} {Q : mQ} : CA d 255 [.int p0] S I L R Q = WP (d, 0, 0) 255 0 [some (.int p0)] [] S I L R Q := by
  unfold CA
  rw [hm_255, hn_255]
  rfl
set_option maxRecDepth 100000 in
theorem hc_256 : mC 256 = prog_14_method_67_code := rfl
set_option maxRecDepth 100000 in
theorem ho_256 : mO 256 = 12 := rfl
set_option maxRecDepth 100000 in
theorem hn_256 : mN 256 = 2 := rfl
set_option maxRecDepth 100000 in
theorem ht_256 : mT 256 = (Option.some FieldType.boolean) := rfl
set_option maxRecDepth 100000 in
theorem hm_256 : mcs 256 = (0, 0) := by decide +kernel
theorem ca_256 {d : Nat} {t : Nat} {p0 : Int32} {S : mS} {I : mI} {L : mL} {R : mR} {Q : mQ} : CA d 256 [.ref t, .int p0] S I L R Q = WP (d, 0, 0) 256 0 [some (.ref t), some (.int p0)] [] S I L R Q := by
  unfold CA
  rw [hm_256, hn_256]
  rfl
set_option maxRecDepth 100000 in
theorem hc_257 : mC 257 = prog_14_method_62_code := rfl
set_option maxRecDepth 100000 in
theorem ho_257 : mO 257 = 12 := rfl
set_option maxRecDepth 100000 in
theorem hn_257 : mN 257 = 3 := rfl
set_option maxRecDepth 100000 in
theorem ht_257 : mT 257 = (Option.some FieldType.int) := rfl
set_option maxRecDepth 100000 in
theorem hm_257 : mcs 257 = (0, 0) := by decide +kernel
theorem ca_257 {d : Nat} {t : Nat} {p0 : Int32} {p1 : Int32} {S : mS} {I : mI} {L : mL} {R : mR} {Q : mQ} : CA d 257 [.ref t, .int p0, .int p1] S I L R Q = WP (d, 0, 0) 257 0 [some (.ref t), some (.int p0), some (.int p1)] [] S I L R Q := by
  unfold CA
  rw [hm_257, hn_257]
  rfl
set_option maxRecDepth 100000 in
theorem hc_258 : mC 258 = prog_14_method_51_code := rfl
set_option maxRecDepth 100000 in
theorem ho_258 : mO 258 = 12 := rfl
set_option maxRecDepth 100000 in
theorem hn_258 : mN 258 = 2 := rfl
set_option maxRecDepth 100000 in
theorem ht_258 : mT 258 = (Option.some FieldType.int) := rfl
set_option maxRecDepth 100000 in
theorem hm_258 : mcs 258 = (0, 0) := by decide +kernel
theorem ca_258 {d : Nat} {p0 : Int32} {p1 : Int32} {S : mS} {I : mI} {L : mL} {R : mR} {Q : mQ} : CA d 258 [.int p0, .int p1] S I L R Q = WP (d, 0, 0) 258 0 [some (.int p0), some (.int p1)] [] S I L R Q := by
  unfold CA
  rw [hm_258, hn_258]
  rfl
set_option maxRecDepth 100000 in
theorem hc_259 : mC 259 = prog_14_method_64_code := rfl
set_option maxRecDepth 100000 in
theorem ho_259 : mO 259 = 12 := rfl
set_option maxRecDepth 100000 in
theorem hn_259 : mN 259 = 2 := rfl
set_option maxRecDepth 100000 in
theorem ht_259 : mT 259 = (Option.some FieldType.int) := rfl
set_option maxRecDepth 100000 in
theorem hm_259 : mcs 259 = (0, 0) := by decide +kernel
theorem ca_259 {d : Nat} {t : Nat} {p0 : Int32} {S : mS} {I : mI} {L : mL} {R : mR} {Q : mQ} : CA d 259 [.ref t, .int p0] S I L R Q = WP (d, 0, 0) 259 0 [some (.ref t), some (.int p0)] [] S I L R Q := by
  unfold CA
  rw [hm_259, hn_259]
  rfl
set_option maxRecDepth 100000 in
theorem hc_260 : mC 260 = prog_14_method_71_code := rfl
set_option maxRecDepth 100000 in
theorem ho_260 : mO 260 = 12 := rfl
set_option maxRecDepth 100000 in
theorem hn_260 : mN 260 = 4 := rfl
set_option maxRecDepth 100000 in
theorem ht_260 : mT 260 = (Option.some FieldType.int) := rfl
set_option maxRecDepth 100000 in
theorem hm_260 : mcs 260 = (0, 0) := by decide +kernel
theorem ca_260 {d : Nat} {t : Nat} {p0 : Int32} {S : mS} {I : mI} {L : mL} {R : mR} {Q : mQ} : CA d 260 [.ref t, .int p0] S I L R Q = WP (d, 0, 0) 260 0 [some (.ref t), some (.int p0), none, none] [] S I L R Q := by
  unfold CA
  rw [hm_260, hn_260]
  rfl
set_option maxRecDepth 100000 in
theorem hc_261 : mC 261 = prog_14_method_66_code := rfl
set_option maxRecDepth 100000 in
theorem ho_261 : mO 261 = 12 := rfl
set_option maxRecDepth 100000 in
theorem hn_261 : mN 261 = 2 := rfl
set_option maxRecDepth 100000 in
theorem ht_261 : mT 261 = (Option.some FieldType.boolean) := rfl
set_option maxRecDepth 100000 in
theorem hm_261 : mcs 261 = (0, 0) := by decide +kernel
theorem ca_261 {d : Nat} {t : Nat} {p0 : Int32} {S : mS} {I : mI} {L : mL} {R : mR} {Q : mQ} : CA d 261 [.ref t, .int p0] S I L R Q = WP (d, 0, 0) 261 0 [some (.ref t), some (.int p0)] [] S I L R Q := by
  unfold CA
  rw [hm_261, hn_261]
  rfl
set_option maxRecDepth 100000 in
theorem hc_262 : mC 262 = prog_14_method_53_code := rfl
set_option maxRecDepth 100000 in
theorem ho_262 : mO 262 = 12 := rfl
set_option maxRecDepth 100000 in
theorem hn_262 : mN 262 = 3 := rfl
set_option maxRecDepth 100000 in
theorem ht_262 : mT 262 = (Option.some FieldType.boolean) := rfl
set_option maxRecDepth 100000 in
theorem hm_262 : mcs 262 = (0, 0) := by decide +kernel
theorem ca_262 {d : Nat} {t : Nat} {p0 : Int32} {p1 : Int32} {S : mS} {I : mI} {L : mL} {R : mR} {Q : mQ} : CA d 262 [.ref t, .int p0, .int p1] S I L R Q = WP (d, 0, 0) 262 0 [some (.ref t), some (.int p0), some (.int p1)] [] S I L R Q := by
  unfold CA
  rw [hm_262, hn_262]
  rfl
set_option maxRecDepth 100000 in
theorem hc_263 : mC 263 = prog_14_method_52_code := rfl
set_option maxRecDepth 100000 in
theorem ho_263 : mO 263 = 12 := rfl
set_option maxRecDepth 100000 in
theorem hn_263 : mN 263 = 2 := rfl
set_option maxRecDepth 100000 in
theorem ht_263 : mT 263 = (Option.some FieldType.boolean) := rfl
set_option maxRecDepth 100000 in
theorem hm_263 : mcs 263 = (0, 0) := by decide +kernel
theorem ca_263 {d : Nat} {t : Nat} {p0 : Int32} {S : mS} {I : mI} {L : mL} {R : mR} {Q : mQ} : CA d 263 [.ref t, .int p0] S I L R Q = WP (d, 0, 0) 263 0 [some (.ref t), some (.int p0)] [] S I L R Q := by
  unfold CA
  rw [hm_263, hn_263]
  rfl
set_option maxRecDepth 100000 in
theorem hc_264 : mC 264 = prog_14_method_59_code := rfl
set_option maxRecDepth 100000 in
theorem ho_264 : mO 264 = 12 := rfl
set_option maxRecDepth 100000 in
theorem hn_264 : mN 264 = 2 := rfl
set_option maxRecDepth 100000 in
theorem ht_264 : mT 264 = (Option.some FieldType.boolean) := rfl
set_option maxRecDepth 100000 in
theorem hm_264 : mcs 264 = (0, 0) := by decide +kernel
theorem ca_264 {d : Nat} {t : Nat} {p0 : Int32} {S : mS} {I : mI} {L : mL} {R : mR} {Q : mQ} : CA d 264 [.ref t, .int p0] S I L R Q = WP (d, 0, 0) 264 0 [some (.ref t), some (.int p0)] [] S I L R Q := by
  unfold CA
  rw [hm_264, hn_264]
  rfl
set_option maxRecDepth 100000 in
theorem hc_265 : mC 265 = prog_14_method_58_code := rfl
set_option maxRecDepth 100000 in
theorem ho_265 : mO 265 = 12 := rfl
set_option maxRecDepth 100000 in
theorem hn_265 : mN 265 = 3 := rfl
set_option maxRecDepth 100000 in
theorem ht_265 : mT 265 = (Option.some FieldType.int) := rfl
set_option maxRecDepth 100000 in
theorem hm_265 : mcs 265 = (0, 0) := by decide +kernel
theorem ca_265 {d : Nat} {t : Nat} {p0 : Int32} {p1 : Int32} {S : mS} {I : mI} {L : mL} {R : mR} {Q : mQ} : CA d 265 [.ref t, .int p0, .int p1] S I L R Q = WP (d, 0, 0) 265 0 [some (.ref t), some (.int p0), some (.int p1)] [] S I L R Q := by
  unfold CA
  rw [hm_265, hn_265]
  rfl
set_option maxRecDepth 100000 in
theorem hc_266 : mC 266 = prog_14_method_49_code := rfl
set_option maxRecDepth 100000 in
theorem ho_266 : mO 266 = 12 := rfl
set_option maxRecDepth 100000 in
theorem hn_266 : mN 266 = 1 := rfl
set_option maxRecDepth 100000 in
theorem ht_266 : mT 266 = (Option.some FieldType.int) := rfl
set_option maxRecDepth 100000 in
theorem hm_266 : mcs 266 = (0, 0) := by decide +kernel
theorem ca_266 {d : Nat} {p0 : Int32} {S : mS} {I : mI} {L : mL} {R : mR} {Q : mQ} : CA d 266 [.int p0] S I L R Q = WP (d, 0, 0) 266 0 [some (.int p0)] [] S I L R Q := by
  unfold CA
  rw [hm_266, hn_266]
  rfl
set_option maxRecDepth 100000 in
theorem hc_267 : mC 267 = prog_14_method_72_code := rfl
set_option maxRecDepth 100000 in
theorem ho_267 : mO 267 = 12 := rfl
set_option maxRecDepth 100000 in
theorem hn_267 : mN 267 = 3 := rfl
set_option maxRecDepth 100000 in
theorem ht_267 : mT 267 = (Option.some FieldType.int) := rfl
set_option maxRecDepth 100000 in
theorem hm_267 : mcs 267 = (0, 0) := by decide +kernel
theorem ca_267 {d : Nat} {t : Nat} {S : mS} {I : mI} {L : mL} {R : mR} {Q : mQ} : CA d 267 [.ref t] S I L R Q = WP (d, 0, 0) 267 0 [some (.ref t), none, none] [] S I L R Q := by
  unfold CA
  rw [hm_267, hn_267]
  rfl
set_option maxRecDepth 100000 in
theorem hc_268 : mC 268 = prog_14_method_74_code := rfl
set_option maxRecDepth 100000 in
theorem ho_268 : mO 268 = 12 := rfl
set_option maxRecDepth 100000 in
theorem hn_268 : mN 268 = 5 := rfl
set_option maxRecDepth 100000 in
theorem ht_268 : mT 268 = (Option.some FieldType.int) := rfl
set_option maxRecDepth 100000 in
theorem hm_268 : mcs 268 = (0, 0) := by decide +kernel
theorem ca_268 {d : Nat} {t : Nat} {p0 : Int32} {p1 : Int32} {p2 : Int32} {S : mS} {I : mI} {L : mL} {R : mR} {Q : mQ} : CA d 268 [.ref t, .int p0, .int p1, .int p2] S I L R Q = WP (d, 0, 0) 268 0 [some (.ref t), some (.int p0), some (.int p1), some (.int p2), none] [] S I L R Q := by
  unfold CA
  rw [hm_268, hn_268]
  rfl
set_option maxRecDepth 100000 in
theorem hc_269 : mC 269 = prog_14_method_69_code := rfl
set_option maxRecDepth 100000 in
theorem ho_269 : mO 269 = 12 := rfl
set_option maxRecDepth 100000 in
theorem hn_269 : mN 269 = 5 := rfl
set_option maxRecDepth 100000 in
theorem ht_269 : mT 269 = (Option.some FieldType.int) := rfl
set_option maxRecDepth 100000 in
theorem hm_269 : mcs 269 = (0, 0) := by decide +kernel
theorem ca_269 {d : Nat} {t : Nat} {p0 : Int32} {S : mS} {I : mI} {L : mL} {R : mR} {Q : mQ} : CA d 269 [.ref t, .int p0] S I L R Q = WP (d, 0, 0) 269 0 [some (.ref t), some (.int p0), none, none, none] [] S I L R Q := by
  unfold CA
  rw [hm_269, hn_269]
  rfl
set_option maxRecDepth 100000 in
theorem hc_270 : mC 270 = prog_14_method_75_code := rfl
set_option maxRecDepth 100000 in
theorem ho_270 : mO 270 = 12 := rfl
set_option maxRecDepth 100000 in
theorem hn_270 : mN 270 = 3 := rfl
set_option maxRecDepth 100000 in
theorem ht_270 : mT 270 = (Option.some FieldType.int) := rfl
set_option maxRecDepth 100000 in
theorem hm_270 : mcs 270 = (0, 0) := by decide +kernel
theorem ca_270 {d : Nat} {t : Nat} {p0 : Int32} {p1 : Int32} {S : mS} {I : mI} {L : mL} {R : mR} {Q : mQ} : CA d 270 [.ref t, .int p0, .int p1] S I L R Q = WP (d, 0, 0) 270 0 [some (.ref t), some (.int p0), some (.int p1)] [] S I L R Q := by
  unfold CA
  rw [hm_270, hn_270]
  rfl
set_option maxRecDepth 100000 in
theorem hc_271 : mC 271 = prog_14_method_54_code := rfl
set_option maxRecDepth 100000 in
theorem ho_271 : mO 271 = 12 := rfl
set_option maxRecDepth 100000 in
theorem hn_271 : mN 271 = 2 := rfl
set_option maxRecDepth 100000 in
theorem ht_271 : mT 271 = (Option.some FieldType.boolean) := rfl
set_option maxRecDepth 100000 in
theorem hm_271 : mcs 271 = (0, 0) := by decide +kernel
theorem ca_271 {d : Nat} {t : Nat} {p0 : Int32} {S : mS} {I : mI} {L : mL} {R : mR} {Q : mQ} : CA d 271 [.ref t, .int p0] S I L R Q = WP (d, 0, 0) 271 0 [some (.ref t), some (.int p0)] [] S I L R Q := by
  unfold CA
  rw [hm_271, hn_271]
  rfl
set_option maxRecDepth 100000 in
theorem hc_272 : mC 272 = prog_14_method_76_code := rfl
set_option maxRecDepth 100000 in
theorem ho_272 : mO 272 = 12 := rfl
set_option maxRecDepth 100000 in
theorem hn_272 : mN 272 = 4 := rfl
set_option maxRecDepth 100000 in
theorem ht_272 : mT 272 = (Option.some FieldType.int) := rfl
set_option maxRecDepth 100000 in
theorem hm_272 : mcs 272 = (0, 0) := by decide +kernel
theorem ca_272 {d : Nat} {t : Nat} {p0 : Int32} {p1 : Int32} {p2 : Int32} {S : mS} {I : mI} {L : mL} {R : mR} {Q : mQ} : CA d 272 [.ref t, .int p0, .int p1, .int p2] S I L R Q = WP (d, 0, 0) 272 0 [some (.ref t), some (.int p0), some (.int p1), some (.int p2)] [] S I L R Q := by
  unfold CA
  rw [hm_272, hn_272]
  rfl
set_option maxRecDepth 100000 in
theorem hc_273 : mC 273 = prog_14_method_55_code := rfl
set_option maxRecDepth 100000 in
theorem ho_273 : mO 273 = 12 := rfl
set_option maxRecDepth 100000 in
theorem hn_273 : mN 273 = 3 := rfl
set_option maxRecDepth 100000 in
theorem ht_273 : mT 273 = (Option.some FieldType.boolean) := rfl
set_option maxRecDepth 100000 in
theorem hm_273 : mcs 273 = (0, 0) := by decide +kernel
theorem ca_273 {d : Nat} {t : Nat} {p0 : Int32} {p1 : Int32} {S : mS} {I : mI} {L : mL} {R : mR} {Q : mQ} : CA d 273 [.ref t, .int p0, .int p1] S I L R Q = WP (d, 0, 0) 273 0 [some (.ref t), some (.int p0), some (.int p1)] [] S I L R Q := by
  unfold CA
  rw [hm_273, hn_273]
  rfl
set_option maxRecDepth 100000 in
theorem hc_274 : mC 274 = prog_14_method_82_code := rfl
set_option maxRecDepth 100000 in
theorem ho_274 : mO 274 = 12 := rfl
set_option maxRecDepth 100000 in
theorem hn_274 : mN 274 = 5 := rfl
set_option maxRecDepth 100000 in
theorem ht_274 : mT 274 = (Option.some FieldType.int) := rfl
set_option maxRecDepth 100000 in
theorem hm_274 : mcs 274 = (0, 0) := by decide +kernel
theorem ca_274 {d : Nat} {t : Nat} {p0 : Int32} {p1 : Int32} {p2 : Int32} {p3 : Int32} {S : mS} {I : mI} {L : mL} {R : mR} {Q : mQ} : CA d 274 [.ref t, .int p0, .int p1, .int p2, .int p3] S I L R Q = WP (d, 0, 0) 274 0 [some (.ref t), some (.int p0), some (.int p1), some (.int p2), some (.int p3)] [] S I L R Q := by
  unfold CA
  rw [hm_274, hn_274]
  rfl
set_option maxRecDepth 100000 in
theorem hc_275 : mC 275 = prog_14_method_79_code := rfl
set_option maxRecDepth 100000 in
theorem ho_275 : mO 275 = 12 := rfl
set_option maxRecDepth 100000 in
theorem hn_275 : mN 275 = 3 := rfl
set_option maxRecDepth 100000 in
theorem ht_275 : mT 275 = (Option.some FieldType.int) := rfl
set_option maxRecDepth 100000 in
theorem hm_275 : mcs 275 = (0, 0) := by decide +kernel
theorem ca_275 {d : Nat} {t : Nat} {p0 : Int32} {p1 : Int32} {S : mS} {I : mI} {L : mL} {R : mR} {Q : mQ} : CA d 275 [.ref t, .int p0, .int p1] S I L R Q = WP (d, 0, 0) 275 0 [some (.ref t), some (.int p0), some (.int p1)] [] S I L R Q := by
  unfold CA
  rw [hm_275, hn_275]
  rfl
set_option maxRecDepth 100000 in
theorem hc_276 : mC 276 = prog_14_method_63_code := rfl
set_option maxRecDepth 100000 in
theorem ho_276 : mO 276 = 12 := rfl
set_option maxRecDepth 100000 in
theorem hn_276 : mN 276 = 3 := rfl
set_option maxRecDepth 100000 in
theorem ht_276 : mT 276 = (Option.some FieldType.int) := rfl
set_option maxRecDepth 100000 in
theorem hm_276 : mcs 276 = (0, 0) := by decide +kernel
theorem ca_276 {d : Nat} {t : Nat} {p0 : Int32} {p1 : Int32} {S : mS} {I : mI} {L : mL} {R : mR} {Q : mQ} : CA d 276 [.ref t, .int p0, .int p1] S I L R Q = WP (d, 0, 0) 276 0 [some (.ref t), some (.int p0), some (.int p1)] [] S I L R Q := by
  unfold CA
  rw [hm_276, hn_276]
  rfl
set_option maxRecDepth 100000 in
theorem hc_277 : mC 277 = prog_14_method_80_code := rfl
set_option maxRecDepth 100000 in
theorem ho_277 : mO 277 = 12 := rfl
set_option maxRecDepth 100000 in
theorem hn_277 : mN 277 = 4 := rfl
set_option maxRecDepth 100000 in
theorem ht_277 : mT 277 = (Option.some FieldType.boolean) := rfl
set_option maxRecDepth 100000 in
theorem hm_277 : mcs 277 = (0, 0) := by decide +kernel
theorem ca_277 {d : Nat} {t : Nat} {p0 : Int32} {p1 : Int32} {p2 : Int32} {S : mS} {I : mI} {L : mL} {R : mR} {Q : mQ} : CA d 277 [.ref t, .int p0, .int p1, .int p2] S I L R Q = WP (d, 0, 0) 277 0 [some (.ref t), some (.int p0), some (.int p1), some (.int p2)] [] S I L R Q := by
  unfold CA
  rw [hm_277, hn_277]
  rfl
set_option maxRecDepth 100000 in
theorem hc_278 : mC 278 = prog_14_method_65_code := rfl
set_option maxRecDepth 100000 in
theorem ho_278 : mO 278 = 12 := rfl
set_option maxRecDepth 100000 in
theorem hn_278 : mN 278 = 2 := rfl
set_option maxRecDepth 100000 in
theorem ht_278 : mT 278 = (Option.some FieldType.int) := rfl
set_option maxRecDepth 100000 in
theorem hm_278 : mcs 278 = (0, 0) := by decide +kernel
theorem ca_278 {d : Nat} {p0 : Int32} {p1 : Int32} {S : mS} {I : mI} {L : mL} {R : mR} {Q : mQ} : CA d 278 [.int p0, .int p1] S I L R Q = WP (d, 0, 0) 278 0 [some (.int p0), some (.int p1)] [] S I L R Q := by
  unfold CA
  rw [hm_278, hn_278]
  rfl
set_option maxRecDepth 100000 in
theorem hc_279 : mC 279 = prog_14_method_81_code := rfl
set_option maxRecDepth 100000 in
theorem ho_279 : mO 279 = 12 := rfl
set_option maxRecDepth 100000 in
theorem hn_279 : mN 279 = 6 := rfl
set_option maxRecDepth 100000 in
theorem ht_279 : mT 279 = (Option.some FieldType.int) := rfl
set_option maxRecDepth 100000 in
theorem hm_279 : mcs 279 = (0, 0) := by decide +kernel
theorem ca_279 {d : Nat} {t : Nat} {p0 : Int32} {p1 : Int32} {p2 : Int32} {S : mS} {I : mI} {L : mL} {R : mR} {Q : mQ} : CA d 279 [.ref t, .int p0, .int p1, .int p2] S I L R Q = WP (d, 0, 0) 279 0 [some (.ref t), some (.int p0), some (.int p1), some (.int p2), none, none] [] S I L R Q := by
  unfold CA
  rw [hm_279, hn_279]
  rfl
set_option maxRecDepth 100000 in
theorem hc_280 : mC 280 = prog_14_method_78_code := rfl
set_option maxRecDepth 100000 in
theorem ho_280 : mO 280 = 12 := rfl
set_option maxRecDepth 100000 in
theorem hn_280 : mN 280 = 6 := rfl
set_option maxRecDepth 100000 in
theorem ht_280 : mT 280 = (Option.some FieldType.int) := rfl
set_option maxRecDepth 100000 in
theorem hm_280 : mcs 280 = (0, 0) := by decide +kernel
theorem ca_280 {d : Nat} {t : Nat} {p0 : Int32} {p1 : Int32} {S : mS} {I : mI} {L : mL} {R : mR} {Q : mQ} : CA d 280 [.ref t, .int p0, .int p1] S I L R Q = WP (d, 0, 0) 280 0 [some (.ref t), some (.int p0), some (.int p1), none, none, none] [] S I L R Q := by
  unfold CA
  rw [hm_280, hn_280]
  rfl
set_option maxRecDepth 100000 in
theorem hc_281 : mC 281 = prog_14_method_68_code := rfl
set_option maxRecDepth 100000 in
theorem ho_281 : mO 281 = 12 := rfl
set_option maxRecDepth 100000 in
theorem hn_281 : mN 281 = 2 := rfl
set_option maxRecDepth 100000 in
theorem ht_281 : mT 281 = (Option.some FieldType.int) := rfl
set_option maxRecDepth 100000 in
theorem hm_281 : mcs 281 = (0, 0) := by decide +kernel
theorem ca_281 {d : Nat} {t : Nat} {p0 : Int32} {S : mS} {I : mI} {L : mL} {R : mR} {Q : mQ} : CA d 281 [.ref t, .int p0] S I L R Q = WP (d, 0, 0) 281 0 [some (.ref t), some (.int p0)] [] S I L R Q := by
  unfold CA
  rw [hm_281, hn_281]
  rfl
set_option maxRecDepth 100000 in
theorem hc_282 : mC 282 = prog_14_method_77_code := rfl
set_option maxRecDepth 100000 in
theorem ho_282 : mO 282 = 12 := rfl
set_option maxRecDepth 100000 in
theorem hn_282 : mN 282 = 6 := rfl
set_option maxRecDepth 100000 in
theorem ht_282 : mT 282 = (Option.some FieldType.boolean) := rfl
set_option maxRecDepth 100000 in
theorem hm_282 : mcs 282 = (0, 0) := by decide +kernel
theorem ca_282 {d : Nat} {t : Nat} {p0 : Int32} {p1 : Int32} {p2 : Int32} {S : mS} {I : mI} {L : mL} {R : mR} {Q : mQ} : CA d 282 [.ref t, .int p0, .int p1, .int p2] S I L R Q = WP (d, 0, 0) 282 0 [some (.ref t), some (.int p0), some (.int p1), some (.int p2), none, none] [] S I L R Q := by
  unfold CA
  rw [hm_282, hn_282]
  rfl
set_option maxRecDepth 100000 in
theorem hc_283 : mC 283 = prog_14_method_84_code := rfl
set_option maxRecDepth 100000 in
theorem ho_283 : mO 283 = 12 := rfl
set_option maxRecDepth 100000 in
theorem hn_283 : mN 283 = 2 := rfl
set_option maxRecDepth 100000 in
theorem ht_283 : mT 283 = (Option.some FieldType.int) := rfl
set_option maxRecDepth 100000 in
theorem hm_283 : mcs 283 = (0, 0) := by decide +kernel
theorem ca_283 {d : Nat} {t : Nat} {p0 : Int32} {S : mS} {I : mI} {L : mL} {R : mR} {Q : mQ} : CA d 283 [.ref t, .int p0] S I L R Q = WP (d, 0, 0) 283 0 [some (.ref t), some (.int p0)] [] S I L R Q := by
  unfold CA
  rw [hm_283, hn_283]
  rfl
set_option maxRecDepth 100000 in
theorem hc_284 : mC 284 = prog_14_method_18_code := rfl
set_option maxRecDepth 100000 in
theorem ho_284 : mO 284 = 12 := rfl
set_option maxRecDepth 100000 in
theorem hn_284 : mN 284 = 6 := rfl
set_option maxRecDepth 100000 in
theorem ht_284 : mT 284 = (Option.some FieldType.boolean) := rfl
set_option maxRecDepth 100000 in
theorem hm_284 : mcs 284 = (0, 0) := by decide +kernel
theorem ca_284 {d : Nat} {p0 : Int64} {p1 : Int64} {p2 : Int64} {S : mS} {I : mI} {L : mL} {R : mR} {Q : mQ} : CA d 284 [.long p0, .long p1, .long p2] S I L R Q = WP (d, 0, 0) 284 0 [some (.long p0), none, some (.long p1), none, some (.long p2), none] [] S I L R Q := by
  unfold CA
  rw [hm_284, hn_284]
  rfl
set_option maxRecDepth 100000 in
theorem hc_285 : mC 285 = prog_14_method_83_code := rfl
set_option maxRecDepth 100000 in
theorem ho_285 : mO 285 = 12 := rfl
set_option maxRecDepth 100000 in
theorem hn_285 : mN 285 = 4 := rfl
set_option maxRecDepth 100000 in
theorem ht_285 : mT 285 = (Option.some FieldType.int) := rfl
set_option maxRecDepth 100000 in
theorem hm_285 : mcs 285 = (0, 0) := by decide +kernel
theorem ca_285 {d : Nat} {t : Nat} {p0 : Int32} {S : mS} {I : mI} {L : mL} {R : mR} {Q : mQ} : CA d 285 [.ref t, .int p0] S I L R Q = WP (d, 0, 0) 285 0 [some (.ref t), some (.int p0), none, none] [] S I L R Q := by
  unfold CA
  rw [hm_285, hn_285]
  rfl
set_option maxRecDepth 100000 in
theorem hc_286 : mC 286 = prog_14_method_87_code := rfl
set_option maxRecDepth 100000 in
theorem ho_286 : mO 286 = 12 := rfl
set_option maxRecDepth 100000 in
theorem hn_286 : mN 286 = 4 := rfl
set_option maxRecDepth 100000 in
theorem ht_286 : mT 286 = (Option.some FieldType.int) := rfl
set_option maxRecDepth 100000 in
theorem hm_286 : mcs 286 = (0, 0) := by decide +kernel
theorem ca_286 {d : Nat} {t : Nat} {p0 : Int32} {p1 : Int32} {p2 : Int32} {S : mS} {I : mI} {L : mL} {R : mR} {Q : mQ} : CA d 286 [.ref t, .int p0, .int p1, .int p2] S I L R Q = WP (d, 0, 0) 286 0 [some (.ref t), some (.int p0), some (.int p1), some (.int p2)] [] S I L R Q := by
  unfold CA
  rw [hm_286, hn_286]
  rfl
set_option maxRecDepth 100000 in
theorem hc_287 : mC 287 = prog_14_method_56_code := rfl
set_option maxRecDepth 100000 in
theorem ho_287 : mO 287 = 12 := rfl
set_option maxRecDepth 100000 in
theorem hn_287 : mN 287 = 3 := rfl
set_option maxRecDepth 100000 in
theorem ht_287 : mT 287 = (Option.some FieldType.boolean) := rfl
set_option maxRecDepth 100000 in
theorem hm_287 : mcs 287 = (0, 0) := by decide +kernel
theorem ca_287 {d : Nat} {t : Nat} {p0 : Int32} {p1 : Int32} {S : mS} {I : mI} {L : mL} {R : mR} {Q : mQ} : CA d 287 [.ref t, .int p0, .int p1] S I L R Q = WP (d, 0, 0) 287 0 [some (.ref t), some (.int p0), some (.int p1)] [] S I L R Q := by
  unfold CA
  rw [hm_287, hn_287]
  rfl
set_option maxRecDepth 100000 in
theorem hc_288 : mC 288 = prog_14_method_86_code := rfl
set_option maxRecDepth 100000 in
theorem ho_288 : mO 288 = 12 := rfl
set_option maxRecDepth 100000 in
theorem hn_288 : mN 288 = 4 := rfl
set_option maxRecDepth 100000 in
theorem ht_288 : mT 288 = (Option.some FieldType.boolean) := rfl
set_option maxRecDepth 100000 in
theorem hm_288 : mcs 288 = (0, 0) := by decide +kernel
theorem ca_288 {d : Nat} {t : Nat} {p0 : Int32} {p1 : Int32} {p2 : Int32} {S : mS} {I : mI} {L : mL} {R : mR} {Q : mQ} : CA d 288 [.ref t, .int p0, .int p1, .int p2] S I L R Q = WP (d, 0, 0) 288 0 [some (.ref t), some (.int p0), some (.int p1), some (.int p2)] [] S I L R Q := by
  unfold CA
  rw [hm_288, hn_288]
  rfl
set_option maxRecDepth 100000 in
theorem hc_289 : mC 289 = prog_14_method_85_code := rfl
set_option maxRecDepth 100000 in
theorem ho_289 : mO 289 = 12 := rfl
set_option maxRecDepth 100000 in
theorem hn_289 : mN 289 = 6 := rfl
set_option maxRecDepth 100000 in
theorem ht_289 : mT 289 = (Option.some FieldType.boolean) := rfl
set_option maxRecDepth 100000 in
theorem hm_289 : mcs 289 = (0, 0) := by decide +kernel
theorem ca_289 {d : Nat} {t : Nat} {p0 : Int32} {p1 : Int32} {S : mS} {I : mI} {L : mL} {R : mR} {Q : mQ} : CA d 289 [.ref t, .int p0, .int p1] S I L R Q = WP (d, 0, 0) 289 0 [some (.ref t), some (.int p0), some (.int p1), none, none, none] [] S I L R Q := by
  unfold CA
  rw [hm_289, hn_289]
  rfl
set_option maxRecDepth 100000 in
theorem hc_290 : mC 290 = prog_14_method_88_code := rfl
set_option maxRecDepth 100000 in
theorem ho_290 : mO 290 = 12 := rfl
set_option maxRecDepth 100000 in
theorem hn_290 : mN 290 = 4 := rfl
set_option maxRecDepth 100000 in
theorem ht_290 : mT 290 = (Option.some FieldType.int) := rfl
set_option maxRecDepth 100000 in
theorem hm_290 : mcs 290 = (0, 0) := by decide +kernel
theorem ca_290 {d : Nat} {t : Nat} {p0 : Int32} {p1 : Int32} {S : mS} {I : mI} {L : mL} {R : mR} {Q : mQ} : CA d 290 [.ref t, .int p0, .int p1] S I L R Q = WP (d, 0, 0) 290 0 [some (.ref t), some (.int p0), some (.int p1), none] [] S I L R Q := by
  unfold CA
  rw [hm_290, hn_290]
  rfl
set_option maxRecDepth 100000 in
theorem hc_291 : mC 291 = prog_14_method_89_code := rfl
set_option maxRecDepth 100000 in
theorem ho_291 : mO 291 = 12 := rfl
set_option maxRecDepth 100000 in
theorem hn_291 : mN 291 = 4 := rfl
set_option maxRecDepth 100000 in
theorem ht_291 : mT 291 = (Option.some FieldType.boolean) := rfl
set_option maxRecDepth 100000 in
theorem hm_291 : mcs 291 = (0, 0) := by decide +kernel
theorem ca_291 {d : Nat} {t : Nat} {p0 : Int32} {p1 : Int32} {S : mS} {I : mI} {L : mL} {R : mR} {Q : mQ} : CA d 291 [.ref t, .int p0, .int p1] S I L R Q = WP (d, 0, 0) 291 0 [some (.ref t), some (.int p0), some (.int p1), none] [] S I L R Q := by
  unfold CA
  rw [hm_291, hn_291]
  rfl
set_option maxRecDepth 100000 in
theorem hc_292 : mC 292 = prog_14_method_90_code := rfl
set_option maxRecDepth 100000 in
theorem ho_292 : mO 292 = 12 := rfl
set_option maxRecDepth 100000 in
theorem hn_292 : mN 292 = 5 := rfl
set_option maxRecDepth 100000 in
theorem ht_292 : mT 292 = (Option.some FieldType.boolean) := rfl
set_option maxRecDepth 100000 in
theorem hm_292 : mcs 292 = (0, 0) := by decide +kernel
theorem ca_292 {d : Nat} {t : Nat} {p0 : Int32} {p1 : Int32} {p2 : Int32} {S : mS} {I : mI} {L : mL} {R : mR} {Q : mQ} : CA d 292 [.ref t, .int p0, .int p1, .int p2] S I L R Q = WP (d, 0, 0) 292 0 [some (.ref t), some (.int p0), some (.int p1), some (.int p2), none] [] S I L R Q := by
  unfold CA
  rw [hm_292, hn_292]
  rfl
set_option maxRecDepth 100000 in
theorem hc_293 : mC 293 = prog_14_method_91_code := rfl
set_option maxRecDepth 100000 in
theorem ho_293 : mO 293 = 12 := rfl
set_option maxRecDepth 100000 in
theorem hn_293 : mN 293 = 4 := rfl
set_option maxRecDepth 100000 in
theorem ht_293 : mT 293 = (Option.some FieldType.int) := rfl
set_option maxRecDepth 100000 in
theorem hm_293 : mcs 293 = (0, 0) := by decide +kernel
theorem ca_293 {d : Nat} {t : Nat} {p0 : Int32} {p1 : Int32} {S : mS} {I : mI} {L : mL} {R : mR} {Q : mQ} : CA d 293 [.ref t, .int p0, .int p1] S I L R Q = WP (d, 0, 0) 293 0 [some (.ref t), some (.int p0), some (.int p1), none] [] S I L R Q := by
  unfold CA
  rw [hm_293, hn_293]
  rfl
set_option maxRecDepth 100000 in
theorem hc_294 : mC 294 = prog_14_method_92_code := rfl
set_option maxRecDepth 100000 in
theorem ho_294 : mO 294 = 12 := rfl
set_option maxRecDepth 100000 in
theorem hn_294 : mN 294 = 4 := rfl
set_option maxRecDepth 100000 in
theorem ht_294 : mT 294 = (Option.some FieldType.boolean) := rfl
set_option maxRecDepth 100000 in
theorem hm_294 : mcs 294 = (0, 0) := by decide +kernel
theorem ca_294 {d : Nat} {t : Nat} {p0 : Int32} {p1 : Int32} {p2 : Int32} {S : mS} {I : mI} {L : mL} {R : mR} {Q : mQ} : CA d 294 [.ref t, .int p0, .int p1, .int p2] S I L R Q = WP (d, 0, 0) 294 0 [some (.ref t), some (.int p0), some (.int p1), some (.int p2)] [] S I L R Q := by
  unfold CA
  rw [hm_294, hn_294]
  rfl
set_option maxRecDepth 100000 in
theorem hc_295 : mC 295 = prog_14_method_93_code := rfl
set_option maxRecDepth 100000 in
theorem ho_295 : mO 295 = 12 := rfl
set_option maxRecDepth 100000 in
theorem hn_295 : mN 295 = 2 := rfl
set_option maxRecDepth 100000 in
theorem ht_295 : mT 295 = (Option.some FieldType.boolean) := rfl
set_option maxRecDepth 100000 in
theorem hm_295 : mcs 295 = (0, 0) := by decide +kernel
theorem ca_295 {d : Nat} {t : Nat} {p0 : Int32} {S : mS} {I : mI} {L : mL} {R : mR} {Q : mQ} : CA d 295 [.ref t, .int p0] S I L R Q = WP (d, 0, 0) 295 0 [some (.ref t), some (.int p0)] [] S I L R Q := by
  unfold CA
  rw [hm_295, hn_295]
  rfl
set_option maxRecDepth 100000 in
theorem hc_296 : mC 296 = prog_14_method_94_code := rfl
set_option maxRecDepth 100000 in
theorem ho_296 : mO 296 = 12 := rfl
set_option maxRecDepth 100000 in
theorem hn_296 : mN 296 = 5 := rfl
set_option maxRecDepth 100000 in
theorem ht_296 : mT 296 = (Option.some FieldType.int) := rfl
set_option maxRecDepth 100000 in
theorem hm_296 : mcs 296 = (0, 0) := by decide +kernel
theorem ca_296 {d : Nat} {t : Nat} {p0 : Int32} {p1 : Int32} {S : mS} {I : mI} {L : mL} {R : mR} {Q : mQ} : CA d 296 [.ref t, .int p0, .int p1] S I L R Q = WP (d, 0, 0) 296 0 [some (.ref t), some (.int p0), some (.int p1), none, none] [] S I L R Q := by
  unfold CA
  rw [hm_296, hn_296]
  rfl
set_option maxRecDepth 100000 in
theorem hc_297 : mC 297 = prog_14_method_97_code := rfl
set_option maxRecDepth 100000 in
theorem ho_297 : mO 297 = 12 := rfl
set_option maxRecDepth 100000 in
theorem hn_297 : mN 297 = 5 := rfl
set_option maxRecDepth 100000 in
theorem ht_297 : mT 297 = (Option.some FieldType.int) := rfl
set_option maxRecDepth 100000 in
theorem hm_297 : mcs 297 = (0, 0) := by decide +kernel
theorem ca_297 {d : Nat} {t : Nat} {p0 : Int32} {p1 : Int32} {p2 : Int32} {p3 : Int32} {S : mS} {I : mI} {L : mL} {R : mR} {Q : mQ} : CA d 297 [.ref t, .int p0, .int p1, .int p2, .int p3] S I L R Q = WP (d, 0, 0) 297 0 [some (.ref t), some (.int p0), some (.int p1), some (.int p2), some (.int p3)] [] S I L R Q := by
  unfold CA
  rw [hm_297, hn_297]
  rfl
set_option maxRecDepth 100000 in
theorem hc_298 : mC 298 = prog_14_method_98_code := rfl
set_option maxRecDepth 100000 in
theorem ho_298 : mO 298 = 12 := rfl
set_option maxRecDepth 100000 in
theorem hn_298 : mN 298 = 2 := rfl
set_option maxRecDepth 100000 in
theorem ht_298 : mT 298 = (Option.some FieldType.int) := rfl
set_option maxRecDepth 100000 in
theorem hm_298 : mcs 298 = (0, 0) := by decide +kernel
theorem ca_298 {d : Nat} {t : Nat} {p0 : Int32} {S : mS} {I : mI} {L : mL} {R : mR} {Q : mQ} : CA d 298 [.ref t, .int p0] S I L R Q = WP (d, 0, 0) 298 0 [some (.ref t), some (.int p0)] [] S I L R Q := by
  unfold CA
  rw [hm_298, hn_298]
  rfl
set_option maxRecDepth 100000 in
theorem hc_299 : mC 299 = prog_14_method_99_code := rfl
set_option maxRecDepth 100000 in
theorem ho_299 : mO 299 = 12 := rfl
set_option maxRecDepth 100000 in
theorem hn_299 : mN 299 = 3 := rfl
set_option maxRecDepth 100000 in
theorem ht_299 : mT 299 = (Option.some FieldType.int) := rfl
set_option maxRecDepth 100000 in
theorem hm_299 : mcs 299 = (0, 0) := by decide +kernel
theorem ca_299 {d : Nat} {t : Nat} {p0 : Int32} {p1 : Int32} {S : mS} {I : mI} {L : mL} {R : mR} {Q : mQ} : CA d 299 [.ref t, .int p0, .int p1] S I L R Q = WP (d, 0, 0) 299 0 [some (.ref t), some (.int p0), some (.int p1)] [] S I L R Q := by
  unfold CA
  rw [hm_299, hn_299]
  rfl
set_option maxRecDepth 100000 in
theorem hc_300 : mC 300 = prog_14_method_100_code := rfl
set_option maxRecDepth 100000 in
theorem ho_300 : mO 300 = 12 := rfl
set_option maxRecDepth 100000 in
theorem hn_300 : mN 300 = 5 := rfl
set_option maxRecDepth 100000 in
theorem ht_300 : mT 300 = (Option.some FieldType.int) := rfl
set_option maxRecDepth 100000 in
theorem hm_300 : mcs 300 = (0, 0) := by decide +kernel
theorem ca_300 {d : Nat} {t : Nat} {p0 : Int32} {p1 : Int32} {S : mS} {I : mI} {L : mL} {R : mR} {Q : mQ} : CA d 300 [.ref t, .int p0, .int p1] S I L R Q = WP (d, 0, 0) 300 0 [some (.ref t), some (.int p0), some (.int p1), none, none] [] S I L R Q := by
  unfold CA
  rw [hm_300, hn_300]
  rfl
set_option maxRecDepth 100000 in
theorem hc_301 : mC 301 = prog_14_method_102_code := rfl
set_option maxRecDepth 100000 in
theorem ho_301 : mO 301 = 12 := rfl
set_option maxRecDepth 100000 in
theorem hn_301 : mN 301 = 4 := rfl
set_option maxRecDepth 100000 in
theorem ht_301 : mT 301 = (Option.some FieldType.int) := rfl
set_option maxRecDepth 100000 in
theorem hm_301 : mcs 301 = (0, 0) := by decide +kernel
theorem ca_301 {d : Nat} {t : Nat} {p0 : Int32} {p1 : Int32} {p2 : Int32} {S : mS} {I : mI} {L : mL} {R : mR} {Q : mQ} : CA d 301 [.ref t, .int p0, .int p1, .int p2] S I L R Q = WP (d, 0, 0) 301 0 [some (.ref t), some (.int p0), some (.int p1), some (.int p2)] [] S I L R Q := by
  unfold CA
  rw [hm_301, hn_301]
  rfl
set_option maxRecDepth 100000 in
theorem hc_302 : mC 302 = prog_14_method_101_code := rfl
set_option maxRecDepth 100000 in
theorem ho_302 : mO 302 = 12 := rfl
set_option maxRecDepth 100000 in
theorem hn_302 : mN 302 = 6 := rfl
set_option maxRecDepth 100000 in
theorem ht_302 : mT 302 = (Option.some FieldType.int) := rfl
set_option maxRecDepth 100000 in
theorem hm_302 : mcs 302 = (0, 0) := by decide +kernel
theorem ca_302 {d : Nat} {t : Nat} {p0 : Int32} {p1 : Int32} {S : mS} {I : mI} {L : mL} {R : mR} {Q : mQ} : CA d 302 [.ref t, .int p0, .int p1] S I L R Q = WP (d, 0, 0) 302 0 [some (.ref t), some (.int p0), some (.int p1), none, none, none] [] S I L R Q := by
  unfold CA
  rw [hm_302, hn_302]
  rfl
set_option maxRecDepth 100000 in
theorem hc_303 : mC 303 = prog_14_method_103_code := rfl
set_option maxRecDepth 100000 in
theorem ho_303 : mO 303 = 12 := rfl
set_option maxRecDepth 100000 in
theorem hn_303 : mN 303 = 4 := rfl
set_option maxRecDepth 100000 in
theorem ht_303 : mT 303 = (Option.some FieldType.int) := rfl
set_option maxRecDepth 100000 in
theorem hm_303 : mcs 303 = (0, 0) := by decide +kernel
theorem ca_303 {d : Nat} {t : Nat} {p0 : Int32} {S : mS} {I : mI} {L : mL} {R : mR} {Q : mQ} : CA d 303 [.ref t, .int p0] S I L R Q = WP (d, 0, 0) 303 0 [some (.ref t), some (.int p0), none, none] [] S I L R Q := by
  unfold CA
  rw [hm_303, hn_303]
  rfl
set_option maxRecDepth 100000 in
theorem hc_304 : mC 304 = prog_14_method_105_code := rfl
set_option maxRecDepth 100000 in
theorem ho_304 : mO 304 = 12 := rfl
set_option maxRecDepth 100000 in
theorem hn_304 : mN 304 = 5 := rfl
set_option maxRecDepth 100000 in
theorem ht_304 : mT 304 = (Option.some FieldType.int) := rfl
set_option maxRecDepth 100000 in
theorem hm_304 : mcs 304 = (0, 0) := by decide +kernel
theorem ca_304 {d : Nat} {t : Nat} {p0 : Int32} {p1 : Int32} {p2 : Int32} {S : mS} {I : mI} {L : mL} {R : mR} {Q : mQ} : CA d 304 [.ref t, .int p0, .int p1, .int p2] S I L R Q = WP (d, 0, 0) 304 0 [some (.ref t), some (.int p0), some (.int p1), some (.int p2), none] [] S I L R Q := by
  unfold CA
  rw [hm_304, hn_304]
  rfl
set_option maxRecDepth 100000 in
theorem hc_305 : mC 305 = prog_14_method_104_code := rfl
set_option maxRecDepth 100000 in
theorem ho_305 : mO 305 = 12 := rfl
set_option maxRecDepth 100000 in
theorem hn_305 : mN 305 = 1 := rfl
set_option maxRecDepth 100000 in
theorem ht_305 : mT 305 = (Option.some FieldType.boolean) := rfl
set_option maxRecDepth 100000 in
theorem hm_305 : mcs 305 = (0, 0) := by decide +kernel
theorem ca_305 {d : Nat} {p0 : Int32} {S : mS} {I : mI} {L : mL} {R : mR} {Q : mQ} : CA d 305 [.int p0] S I L R Q = WP (d, 0, 0) 305 0 [some (.int p0)] [] S I L R Q := by
  unfold CA
  rw [hm_305, hn_305]
  rfl
set_option maxRecDepth 100000 in
theorem hc_306 : mC 306 = prog_14_method_95_code := rfl
set_option maxRecDepth 100000 in
theorem ho_306 : mO 306 = 12 := rfl
set_option maxRecDepth 100000 in
theorem hn_306 : mN 306 = 3 := rfl
set_option maxRecDepth 100000 in
theorem ht_306 : mT 306 = none := rfl
set_option maxRecDepth 100000 in
theorem hm_306 : mcs 306 = (0, 0) := by decide +kernel
theorem ca_306 {d : Nat} {t : Nat} {p0 : Int32} {S : mS} {I : mI} {L : mL} {R : mR} {Q : mQ} : CA d 306 [.ref t, .int p0] S I L R Q = WP (d, 0, 0) 306 0 [some (.ref t), some (.int p0), none] [] S I L R Q := by
  unfold CA
  rw [hm_306, hn_306]
  rfl
set_option maxRecDepth 100000 in
theorem hc_307 : mC 307 = prog_14_method_96_code := rfl
set_option maxRecDepth 100000 in
theorem ho_307 : mO 307 = 12 := rfl
set_option maxRecDepth 100000 in
theorem hn_307 : mN 307 = 3 := rfl
set_option maxRecDepth 100000 in
theorem ht_307 : mT 307 = none := rfl
set_option maxRecDepth 100000 in
theorem hm_307 : mcs 307 = (0, 0) := by decide +kernel
theorem ca_307 {d : Nat} {t : Nat} {p0 : Int32} {S : mS} {I : mI} {L : mL} {R : mR} {Q : mQ} : CA d 307 [.ref t, .int p0] S I L R Q = WP (d, 0, 0) 307 0 [some (.ref t), some (.int p0), none] [] S I L R Q := by
  unfold CA
  rw [hm_307, hn_307]
  rfl
set_option maxRecDepth 100000 in
theorem hc_308 : mC 308 = prog_14_method_106_code := rfl
set_option maxRecDepth 100000 in
theorem ho_308 : mO 308 = 12 := rfl
set_option maxRecDepth 100000 in
theorem hn_308 : mN 308 = 3 := rfl
set_option maxRecDepth 100000 in
theorem ht_308 : mT 308 = (Option.some FieldType.int) := rfl
set_option maxRecDepth 100000 in
theorem hm_308 : mcs 308 = (0, 0) := by decide +kernel
theorem ca_308 {d : Nat} {t : Nat} {p0 : Int32} {S : mS} {I : mI} {L : mL} {R : mR} {Q : mQ} : CA d 308 [.ref t, .int p0] S I L R Q = WP (d, 0, 0) 308 0 [some (.ref t), some (.int p0), none] [] S I L R Q := by
  unfold CA
  rw [hm_308, hn_308]
  rfl
set_option maxRecDepth 100000 in
theorem hc_309 : mC 309 = prog_14_method_107_code := rfl
set_option maxRecDepth 100000 in
theorem ho_309 : mO 309 = 12 := rfl
set_option maxRecDepth 100000 in
theorem hn_309 : mN 309 = 5 := rfl
set_option maxRecDepth 100000 in
theorem ht_309 : mT 309 = (Option.some FieldType.int) := rfl
set_option maxRecDepth 100000 in
theorem hm_309 : mcs 309 = (0, 0) := by decide +kernel
theorem ca_309 {d : Nat} {t : Nat} {p0 : Int32} {p1 : Int32} {p2 : Int32} {S : mS} {I : mI} {L : mL} {R : mR} {Q : mQ} : CA d 309 [.ref t, .int p0, .int p1, .int p2] S I L R Q = WP (d, 0, 0) 309 0 [some (.ref t), some (.int p0), some (.int p1), some (.int p2), none] [] S I L R Q := by
  unfold CA
  rw [hm_309, hn_309]
  rfl
set_option maxRecDepth 100000 in
theorem hc_310 : mC 310 = prog_14_method_108_code := rfl
set_option maxRecDepth 100000 in
theorem ho_310 : mO 310 = 12 := rfl
set_option maxRecDepth 100000 in
theorem hn_310 : mN 310 = 4 := rfl
set_option maxRecDepth 100000 in
theorem ht_310 : mT 310 = (Option.some FieldType.int) := rfl
set_option maxRecDepth 100000 in
theorem hm_310 : mcs 310 = (0, 0) := by decide +kernel
theorem ca_310 {d : Nat} {t : Nat} {p0 : Int32} {S : mS} {I : mI} {L : mL} {R : mR} {Q : mQ} : CA d 310 [.ref t, .int p0] S I L R Q = WP (d, 0, 0) 310 0 [some (.ref t), some (.int p0), none, none] [] S I L R Q := by
  unfold CA
  rw [hm_310, hn_310]
  rfl
set_option maxRecDepth 100000 in
theorem hc_311 : mC 311 = prog_14_method_113_code := rfl
set_option maxRecDepth 100000 in
theorem ho_311 : mO 311 = 12 := rfl
set_option maxRecDepth 100000 in
theorem hn_311 : mN 311 = 2 := rfl
set_option maxRecDepth 100000 in
theorem ht_311 : mT 311 = (Option.some FieldType.int) := rfl
set_option maxRecDepth 100000 in
theorem hm_311 : mcs 311 = (0, 0) := by decide +kernel
theorem ca_311 {d : Nat} {t : Nat} {p0 : Int32} {S : mS} {I : mI} {L : mL} {R : mR} {Q : mQ} : CA d 311 [.ref t, .int p0] S I L R Q = WP (d, 0, 0) 311 0 [some (.ref t), some (.int p0)] [] S I L R Q := by
  unfold CA
  rw [hm_311, hn_311]
  rfl
set_option maxRecDepth 100000 in
theorem hc_312 : mC 312 = prog_14_method_111_code := rfl
set_option maxRecDepth 100000 in
theorem ho_312 : mO 312 = 12 := rfl
set_option maxRecDepth 100000 in
theorem hn_312 : mN 312 = 3 := rfl
set_option maxRecDepth 100000 in
theorem ht_312 : mT 312 = (Option.some FieldType.int) := rfl
set_option maxRecDepth 100000 in
theorem hm_312 : mcs 312 = (0, 0) := by decide +kernel
theorem ca_312 {d : Nat} {t : Nat} {p0 : Int32} {p1 : Int32} {S : mS} {I : mI} {L : mL} {R : mR} {Q : mQ} : CA d 312 [.ref t, .int p0, .int p1] S I L R Q = WP (d, 0, 0) 312 0 [some (.ref t), some (.int p0), some (.int p1)] [] S I L R Q := by
  unfold CA
  rw [hm_312, hn_312]
  rfl
set_option maxRecDepth 100000 in
theorem hc_313 : mC 313 = prog_14_method_109_code := rfl
set_option maxRecDepth 100000 in
theorem ho_313 : mO 313 = 12 := rfl
set_option maxRecDepth 100000 in
theorem hn_313 : mN 313 = 9 := rfl
set_option maxRecDepth 100000 in
theorem ht_313 : mT 313 = none := rfl
set_option maxRecDepth 100000 in
theorem hm_313 : mcs 313 = (0, 0) := by decide +kernel
theorem ca_313 {d : Nat} {t : Nat} {p0 : Int32} {p1 : Int32} {p2 : Int32} {S : mS} {I : mI} {L : mL} {R : mR} {Q : mQ} : CA d 313 [.ref t, .int p0, .int p1, .int p2] S I L R Q = WP (d, 0, 0) 313 0 [some (.ref t), some (.int p0), some (.int p1), some (.int p2), none, none, none, none, none] [] S I L R Q := by
  unfold CA
  rw [hm_313, hn_313]
  rfl
set_option maxRecDepth 100000 in
theorem hc_314 : mC 314 = prog_14_method_110_code := rfl
set_option maxRecDepth 100000 in
theorem ho_314 : mO 314 = 12 := rfl
set_option maxRecDepth 100000 in
theorem hn_314 : mN 314 = 2 := rfl
set_option maxRecDepth 100000 in
theorem ht_314 : mT 314 = (Option.some FieldType.int) := rfl
set_option maxRecDepth 100000 in
theorem hm_314 : mcs 314 = (0, 0) := by decide +kernel
theorem ca_314 {d : Nat} {t : Nat} {p0 : Int32} {S : mS} {I : mI} {L : mL} {R : mR} {Q : mQ} : CA d 314 [.ref t, .int p0] S I L R Q = WP (d, 0, 0) 314 0 [some (.ref t), some (.int p0)] [] S I L R Q := by
  unfold CA
  rw [hm_314, hn_314]
  rfl
set_option maxRecDepth 100000 in
theorem hc_315 : mC 315 = prog_14_method_112_code := rfl
set_option maxRecDepth 100000 in
theorem ho_315 : mO 315 = 12 := rfl
set_option maxRecDepth 100000 in
theorem hn_315 : mN 315 = 2 := rfl
set_option maxRecDepth 100000 in
theorem ht_315 : mT 315 = (Option.some FieldType.int) := rfl
set_option maxRecDepth 100000 in
theorem hm_315 : mcs 315 = (0, 0) := by decide +kernel
theorem ca_315 {d : Nat} {t : Nat} {p0 : Int32} {S : mS} {I : mI} {L : mL} {R : mR} {Q : mQ} : CA d 315 [.ref t, .int p0] S I L R Q = WP (d, 0, 0) 315 0 [some (.ref t), some (.int p0)] [] S I L R Q := by
  unfold CA
  rw [hm_315, hn_315]
  rfl
set_option maxRecDepth 100000 in
theorem hc_316 : mC 316 = prog_14_method_114_code := rfl
set_option maxRecDepth 100000 in
theorem ho_316 : mO 316 = 12 := rfl
set_option maxRecDepth 100000 in
theorem hn_316 : mN 316 = 6 := rfl
set_option maxRecDepth 100000 in
theorem ht_316 : mT 316 = (Option.some FieldType.int) := rfl
set_option maxRecDepth 100000 in
theorem hm_316 : mcs 316 = (0, 0) := by decide +kernel
theorem ca_316 {d : Nat} {t : Nat} {p0 : Int32} {p1 : Int32} {p2 : Int32} {p3 : Int32} {p4 : Int32} {S : mS} {I : mI} {L : mL} {R : mR} {Q : mQ} : CA d 316 [.ref t, .int p0, .int p1, .int p2, .int p3, .int p4] S I L R Q = WP (d, 0, 0) 316 0 [some (.ref t), some (.int p0), some (.int p1), some (.int p2), some (.int p3), some (.int p4)] [] S I L R Q := by
  unfold CA
  rw [hm_316, hn_316]
  rfl
set_option maxRecDepth 100000 in
theorem hc_317 : mC 317 = prog_14_method_116_code := rfl
set_option maxRecDepth 100000 in
theorem ho_317 : mO 317 = 12 := rfl
set_option maxRecDepth 100000 in
theorem hn_317 : mN 317 = 4 := rfl
set_option maxRecDepth 100000 in
theorem ht_317 : mT 317 = (Option.some FieldType.int) := rfl
set_option maxRecDepth 100000 in
theorem hm_317 : mcs 317 = (0, 0) := by decide +kernel
theorem ca_317 {d : Nat} {t : Nat} {p0 : Int32} {S : mS} {I : mI} {L : mL} {R : mR} {Q : mQ} : CA d 317 [.ref t, .int p0] S I L R Q = WP (d, 0, 0) 317 0 [some (.ref t), some (.int p0), none, none] [] S I L R Q := by
  unfold CA
  rw [hm_317, hn_317]
  rfl
set_option maxRecDepth 100000 in
theorem hc_318 : mC 318 = prog_14_method_115_code := rfl
set_option maxRecDepth 100000 in
theorem ho_318 : mO 318 = 12 := rfl
set_option maxRecDepth 100000 in
theorem hn_318 : mN 318 = 3 := rfl
set_option maxRecDepth 100000 in
theorem ht_318 : mT 318 = (Option.some FieldType.boolean) := rfl
set_option maxRecDepth 100000 in
theorem hm_318 : mcs 318 = (0, 0) := by decide +kernel
theorem ca_318 {d : Nat} {t : Nat} {p0 : Int32} {p1 : Int32} {S : mS} {I : mI} {L : mL} {R : mR} {Q : mQ} : CA d 318 [.ref t, .int p0, .int p1] S I L R Q = WP (d, 0, 0) 318 0 [some (.ref t), some (.int p0), some (.int p1)] [] S I L R Q := by
  unfold CA
  rw [hm_318, hn_318]
  rfl
set_option maxRecDepth 100000 in
theorem hc_319 : mC 319 = prog_14_method_117_code := rfl
set_option maxRecDepth 100000 in
theorem ho_319 : mO 319 = 12 := rfl
set_option maxRecDepth 100000 in
theorem hn_319 : mN 319 = 4 := rfl
set_option maxRecDepth 100000 in
theorem ht_319 : mT 319 = (Option.some FieldType.int) := rfl
set_option maxRecDepth 100000 in
theorem hm_319 : mcs 319 = (0, 0) := by decide +kernel
theorem ca_319 {d : Nat} {t : Nat} {p0 : Int32} {p1 : Int32} {p2 : Int32} {S : mS} {I : mI} {L : mL} {R : mR} {Q : mQ} : CA d 319 [.ref t, .int p0, .int p1, .int p2] S I L R Q = WP (d, 0, 0) 319 0 [some (.ref t), some (.int p0), some (.int p1), some (.int p2)] [] S I L R Q := by
  unfold CA
  rw [hm_319, hn_319]
  rfl
set_option maxRecDepth 100000 in
theorem hc_320 : mC 320 = prog_14_method_123_code := rfl
set_option maxRecDepth 100000 in
theorem ho_320 : mO 320 = 12 := rfl
set_option maxRecDepth 100000 in
theorem hn_320 : mN 320 = 3 := rfl
set_option maxRecDepth 100000 in
theorem ht_320 : mT 320 = (Option.some FieldType.int) := rfl
set_option maxRecDepth 100000 in
theorem hm_320 : mcs 320 = (0, 0) := by decide +kernel
theorem ca_320 {d : Nat} {t : Nat} {p0 : Int32} {p1 : Int32} {S : mS} {I : mI} {L : mL} {R : mR} {Q : mQ} : CA d 320 [.ref t, .int p0, .int p1] S I L R Q = WP (d, 0, 0) 320 0 [some (.ref t), some (.int p0), some (.int p1)] [] S I L R Q := by
  unfold CA
  rw [hm_320, hn_320]
  rfl
set_option maxRecDepth 100000 in
theorem hc_321 : mC 321 = prog_14_method_120_code := rfl
set_option maxRecDepth 100000 in
theorem ho_321 : mO 321 = 12 := rfl
set_option maxRecDepth 100000 in
theorem hn_321 : mN 321 = 4 := rfl
set_option maxRecDepth 100000 in
theorem ht_321 : mT 321 = (Option.some FieldType.int) := rfl
set_option maxRecDepth 100000 in
theorem hm_321 : mcs 321 = (0, 0) := by decide +kernel
theorem ca_321 {d : Nat} {t : Nat} {p0 : Int32} {p1 : Int32} {p2 : Int32} {S : mS} {I : mI} {L : mL} {R : mR} {Q : mQ} : CA d 321 [.ref t, .int p0, .int p1, .int p2] S I L R Q = WP (d, 0, 0) 321 0 [some (.ref t), some (.int p0), some (.int p1), some (.int p2)] [] S I L R Q := by
  unfold CA
  rw [hm_321, hn_321]
  rfl
set_option maxRecDepth 100000 in
theorem hc_322 : mC 322 = prog_14_method_119_code := rfl
set_option maxRecDepth 100000 in
theorem ho_322 : mO 322 = 12 := rfl
set_option maxRecDepth 100000 in
theorem hn_322 : mN 322 = 9 := rfl
set_option maxRecDepth 100000 in
theorem ht_322 : mT 322 = none := rfl
set_option maxRecDepth 100000 in
theorem hm_322 : mcs 322 = (0, 0) := by decide +kernel
theorem ca_322 {d : Nat} {t : Nat} {p0 : Int32} {p1 : Int32} {p2 : Int32} {S : mS} {I : mI} {L : mL} {R : mR} {Q : mQ} : CA d 322 [.ref t, .int p0, .int p1, .int p2] S I L R Q = WP (d, 0, 0) 322 0 [some (.ref t), some (.int p0), some (.int p1), some (.int p2), none, none, none, none, none] [] S I L R Q := by
  unfold CA
  rw [hm_322, hn_322]
  rfl
set_option maxRecDepth 100000 in
theorem hc_323 : mC 323 = prog_14_method_118_code := rfl
set_option maxRecDepth 100000 in
theorem ho_323 : mO 323 = 12 := rfl
set_option maxRecDepth 100000 in
theorem hn_323 : mN 323 = 1 := rfl
set_option maxRecDepth 100000 in
theorem ht_323 : mT 323 = (Option.some FieldType.int) := rfl
set_option maxRecDepth 100000 in
theorem hm_323 : mcs 323 = (0, 0) := by decide +kernel
theorem ca_323 {d : Nat} {p0 : Int32} {S : mS} {I : mI} {L : mL} {R : mR} {Q : mQ} : CA d 323 [.int p0] S I L R Q = WP (d, 0, 0) 323 0 [some (.int p0)] [] S I L R Q := by
  unfold CA
  rw [hm_323, hn_323]
  rfl
set_option maxRecDepth 100000 in
theorem hc_324 : mC 324 = prog_14_method_9_code := rfl
set_option maxRecDepth 100000 in
theorem ho_324 : mO 324 = 12 := rfl
set_option maxRecDepth 100000 in
theorem hn_324 : mN 324 = 2 := rfl
set_option maxRecDepth 100000 in
theorem ht_324 : mT 324 = (Option.some FieldType.int) := rfl
set_option maxRecDepth 100000 in
theorem hm_324 : mcs 324 = (0, 0) := by decide +kernel
theorem ca_324 {d : Nat} {t : Nat} {p0 : Int32} {S : mS} {I : mI} {L : mL} {R : mR} {Q : mQ} : CA d 324 [.ref t, .int p0] S I L R Q = WP (d, 0, 0) 324 0 [some (.ref t), some (.int p0)] [] S I L R Q := by
  unfold CA
  rw [hm_324, hn_324]
  rfl
set_option maxRecDepth 100000 in
theorem hc_325 : mC 325 = prog_14_method_124_code := rfl
set_option maxRecDepth 100000 in
theorem ho_325 : mO 325 = 12 := rfl
set_option maxRecDepth 100000 in
theorem hn_325 : mN 325 = 4 := rfl
set_option maxRecDepth 100000 in
theorem ht_325 : mT 325 = (Option.some FieldType.int) := rfl
set_option maxRecDepth 100000 in
theorem hm_325 : mcs 325 = (0, 0) := by decide +kernel
theorem ca_325 {d : Nat} {t : Nat} {p0 : Int32} {p1 : Int32} {p2 : Int32} {S : mS} {I : mI} {L : mL} {R : mR} {Q : mQ} : CA d 325 [.ref t, .int p0, .int p1, .int p2] S I L R Q = WP (d, 0, 0) 325 0 [some (.ref t), some (.int p0), some (.int p1), some (.int p2)] [] S I L R Q := by
  unfold CA
  rw [hm_325, hn_325]
  rfl
set_option maxRecDepth 100000 in
theorem hc_326 : mC 326 = prog_14_method_122_code := rfl
set_option maxRecDepth 100000 in
theorem ho_326 : mO 326 = 12 := rfl
set_option maxRecDepth 100000 in
theorem hn_326 : mN 326 = 5 := rfl
set_option maxRecDepth 100000 in
theorem ht_326 : mT 326 = (Option.some FieldType.int) := rfl
set_option maxRecDepth 100000 in
theorem hm_326 : mcs 326 = (0, 0) := by decide +kernel
theorem ca_326 {d : Nat} {t : Nat} {p0 : Int32} {p1 : Int32} {p2 : Int32} {p3 : Int32} {S : mS} {I : mI} {L : mL} {R : mR} {Q : mQ} : CA d 326 [.ref t, .int p0, .int p1, .int p2, .int p3] S I L R Q = WP (d, 0, 0) 326 0 [some (.ref t), some (.int p0), some (.int p1), some (.int p2), some (.int p3)] [] S I L R Q := by
  unfold CA
  rw [hm_326, hn_326]
  rfl
set_option maxRecDepth 100000 in
theorem hc_327 : mC 327 = prog_14_method_121_code := rfl
set_option maxRecDepth 100000 in
theorem ho_327 : mO 327 = 12 := rfl
set_option maxRecDepth 100000 in
theorem hn_327 : mN 327 = 2 := rfl
set_option maxRecDepth 100000 in
theorem ht_327 : mT 327 = (Option.some FieldType.int) := rfl
set_option maxRecDepth 100000 in
theorem hm_327 : mcs 327 = (0, 0) := by decide +kernel
theorem ca_327 {d : Nat} {p0 : Int32} {p1 : Int32} {S : mS} {I : mI} {L : mL} {R : mR} {Q : mQ} : CA d 327 [.int p0, .int p1] S I L R Q = WP (d, 0, 0) 327 0 [some (.int p0), some (.int p1)] [] S I L R Q := by
  unfold CA
  rw [hm_327, hn_327]
  rfl
set_option maxRecDepth 100000 in
theorem hc_328 : mC 328 = prog_14_method_125_code := rfl
set_option maxRecDepth 100000 in
theorem ho_328 : mO 328 = 12 := rfl
set_option maxRecDepth 100000 in
theorem hn_328 : mN 328 = 3 := rfl
set_option maxRecDepth 100000 in
theorem ht_328 : mT 328 = (Option.some FieldType.int) := rfl
set_option maxRecDepth 100000 in
theorem hm_328 : mcs 328 = (0, 0) := by decide +kernel
theorem ca_328 {d : Nat} {t : Nat} {p0 : Int32} {p1 : Int32} {S : mS} {I : mI} {L : mL} {R : mR} {Q : mQ} : CA d 328 [.ref t, .int p0, .int p1] S I L R Q = WP (d, 0, 0) 328 0 [some (.ref t), some (.int p0), some (.int p1)] [] S I L R Q := by
  unfold CA
  rw [hm_328, hn_328]
  rfl
set_option maxRecDepth 100000 in
theorem hc_329 : mC 329 = prog_14_method_126_code := rfl
set_option maxRecDepth 100000 in
theorem ho_329 : mO 329 = 12 := rfl
set_option maxRecDepth 100000 in
theorem hn_329 : mN 329 = 4 := rfl
set_option maxRecDepth 100000 in
theorem ht_329 : mT 329 = (Option.some FieldType.int) := rfl
set_option maxRecDepth 100000 in
theorem hm_329 : mcs 329 = (0, 0) := by decide +kernel
theorem ca_329 {d : Nat} {t : Nat} {p0 : Int32} {p1 : Int32} {p2 : Int32} {S : mS} {I : mI} {L : mL} {R : mR} {Q : mQ} : CA d 329 [.ref t, .int p0, .int p1, .int p2] S I L R Q = WP (d, 0, 0) 329 0 [some (.ref t), some (.int p0), some (.int p1), some (.int p2)] [] S I L R Q := by
  unfold CA
  rw [hm_329, hn_329]
  rfl
set_option maxRecDepth 100000 in
theorem hc_330 : mC 330 = prog_14_method_128_code := rfl
set_option maxRecDepth 100000 in
theorem ho_330 : mO 330 = 12 := rfl
set_option maxRecDepth 100000 in
theorem hn_330 : mN 330 = 2 := rfl
set_option maxRecDepth 100000 in
theorem ht_330 : mT 330 = (Option.some FieldType.int) := rfl
set_option maxRecDepth 100000 in
theorem hm_330 : mcs 330 = (0, 0) := by decide +kernel
theorem ca_330 {d : Nat} {t : Nat} {p0 : Int32} {S : mS} {I : mI} {L : mL} {R : mR} {Q : mQ} : CA d 330 [.ref t, .int p0] S I L R Q = WP (d, 0, 0) 330 0 [some (.ref t), some (.int p0)] [] S I L R Q := by
  unfold CA
  rw [hm_330, hn_330]
  rfl
set_option maxRecDepth 100000 in
theorem hc_331 : mC 331 = prog_14_method_127_code := rfl
set_option maxRecDepth 100000 in
theorem ho_331 : mO 331 = 12 := rfl
set_option maxRecDepth 100000 in
theorem hn_331 : mN 331 = 6 := rfl
set_option maxRecDepth 100000 in
theorem ht_331 : mT 331 = (Option.some FieldType.int) := rfl
set_option maxRecDepth 100000 in
theorem hm_331 : mcs 331 = (0, 0) := by decide +kernel
theorem ca_331 {d : Nat} {t : Nat} {p0 : Int32} {S : mS} {I : mI} {L : mL} {R : mR} {Q : mQ} : CA d 331 [.ref t, .int p0] S I L R Q = WP (d, 0, 0) 331 0 [some (.ref t), some (.int p0), none, none, none, none] [] S I L R Q := by
  unfold CA
  rw [hm_331, hn_331]
  rfl
set_option maxRecDepth 100000 in
theorem hc_332 : mC 332 = prog_14_method_129_code := rfl
set_option maxRecDepth 100000 in
theorem ho_332 : mO 332 = 12 := rfl
set_option maxRecDepth 100000 in
theorem hn_332 : mN 332 = 3 := rfl
set_option maxRecDepth 100000 in
theorem ht_332 : mT 332 = (Option.some FieldType.int) := rfl
set_option maxRecDepth 100000 in
theorem hm_332 : mcs 332 = (0, 0) := by decide +kernel
theorem ca_332 {d : Nat} {t : Nat} {S : mS} {I : mI} {L : mL} {R : mR} {Q : mQ} : CA d 332 [.ref t] S I L R Q = WP (d, 0, 0) 332 0 [some (.ref t), none, none] [] S I L R Q := by
  unfold CA
  rw [hm_332, hn_332]
  rfl
set_option maxRecDepth 100000 in
theorem hc_333 : mC 333 = prog_14_method_135_code := rfl
set_option maxRecDepth 100000 in
theorem ho_333 : mO 333 = 12 := rfl
set_option maxRecDepth 100000 in
theorem hn_333 : mN 333 = 4 := rfl
set_option maxRecDepth 100000 in
theorem ht_333 : mT 333 = (Option.some FieldType.int) := rfl
set_option maxRecDepth 100000 in
theorem hm_333 : mcs 333 = (0, 0) := by decide +kernel
theorem ca_333 {d : Nat} {t : Nat} {p0 : Int32} {p1 : Int32} {p2 : Int32} {S : mS} {I : mI} {L : mL} {R : mR} {Q : mQ} : CA d 333 [.ref t, .int p0, .int p1, .int p2] S I L R Q = WP (d, 0, 0) 333 0 [some (.ref t), some (.int p0), some (.int p1), some (.int p2)] [] S I L R Q := by
  unfold CA
  rw [hm_333, hn_333]
  rfl
set_option maxRecDepth 100000 in
theorem hc_334 : mC 334 = prog_14_method_134_code := rfl
set_option maxRecDepth 100000 in
theorem ho_334 : mO 334 = 12 := rfl
set_option maxRecDepth 100000 in
theorem hn_334 : mN 334 = 4 := rfl
set_option maxRecDepth 100000 in
theorem ht_334 : mT 334 = (Option.some FieldType.boolean) := rfl
set_option maxRecDepth 100000 in
theorem hm_334 : mcs 334 = (0, 0) := by decide +kernel
theorem ca_334 {d : Nat} {t : Nat} {p0 : Int32} {p1 : Int32} {p2 : Int32} {S : mS} {I : mI} {L : mL} {R : mR} {Q : mQ} : CA d 334 [.ref t, .int p0, .int p1, .int p2] S I L R Q = WP (d, 0, 0) 334 0 [some (.ref t), some (.int p0), some (.int p1), some (.int p2)] [] S I L R Q := by
  unfold CA
  rw [hm_334, hn_334]
  rfl
set_option maxRecDepth 100000 in
theorem hc_335 : mC 335 = prog_14_method_133_code := rfl
set_option maxRecDepth 100000 in
theorem ho_335 : mO 335 = 12 := rfl
set_option maxRecDepth 100000 in
theorem hn_335 : mN 335 = 7 := rfl
set_option maxRecDepth 100000 in
theorem ht_335 : mT 335 = (Option.some FieldType.int) := rfl
set_option maxRecDepth 100000 in
theorem hm_335 : mcs 335 = (0, 0) := by decide +kernel
theorem ca_335 {d : Nat} {t : Nat} {p0 : Int32} {p1 : Int32} {p2 : Int32} {S : mS} {I : mI} {L : mL} {R : mR} {Q : mQ} : CA d 335 [.ref t, .int p0, .int p1, .int p2] S I L R Q = WP (d, 0, 0) 335 0 [some (.ref t), some (.int p0), some (.int p1), some (.int p2), none, none, none] [] S I L R Q := by
  unfold CA
  rw [hm_335, hn_335]
  rfl
set_option maxRecDepth 100000 in
theorem hc_336 : mC 336 = prog_14_method_130_code := rfl
set_option maxRecDepth 100000 in
theorem ho_336 : mO 336 = 12 := rfl
set_option maxRecDepth 100000 in
theorem hn_336 : mN 336 = 4 := rfl
set_option maxRecDepth 100000 in
theorem ht_336 : mT 336 = none := rfl
set_option maxRecDepth 100000 in
theorem hm_336 : mcs 336 = (0, 0) := by decide +kernel
theorem ca_336 {d : Nat} {t : Nat} {p0 : Int32} {p1 : Int32} {S : mS} {I : mI} {L : mL} {R : mR} {Q : mQ} : CA d 336 [.ref t, .int p0, .int p1] S I L R Q = WP (d, 0, 0) 336 0 [some (.ref t), some (.int p0), some (.int p1), none] [] S I L R Q := by
  unfold CA
  rw [hm_336, hn_336]
  rfl
set_option maxRecDepth 100000 in
theorem hc_337 : mC 337 = prog_14_method_132_code := rfl
set_option maxRecDepth 100000 in
theorem ho_337 : mO 337 = 12 := rfl
set_option maxRecDepth 100000 in
theorem hn_337 : mN 337 = 3 := rfl
set_option maxRecDepth 100000 in
theorem ht_337 : mT 337 = none := rfl
set_option maxRecDepth 100000 in
theorem hm_337 : mcs 337 = (0, 0) := by decide +kernel
theorem ca_337 {d : Nat} {t : Nat} {p0 : Int32} {p1 : Int32} {S : mS} {I : mI} {L : mL} {R : mR} {Q : mQ} : CA d 337 [.ref t, .int p0, .int p1] S I L R Q = WP (d, 0, 0) 337 0 [some (.ref t), some (.int p0), some (.int p1)] [] S I L R Q := by
  unfold CA
  rw [hm_337, hn_337]
  rfl
set_option maxRecDepth 100000 in
theorem hc_338 : mC 338 = prog_14_method_131_code := rfl
set_option maxRecDepth 100000 in
theorem ho_338 : mO 338 = 12 := rfl
set_option maxRecDepth 100000 in
theorem hn_338 : mN 338 = 4 := rfl
set_option maxRecDepth 100000 in
theorem ht_338 : mT 338 = (Option.some FieldType.int) := rfl
set_option maxRecDepth 100000 in
theorem hm_338 : mcs 338 = (0, 0) := by decide +kernel
theorem ca_338 {d : Nat} {t : Nat} {p0 : Int32} {p1 : Int32} {S : mS} {I : mI} {L : mL} {R : mR} {Q : mQ} : CA d 338 [.ref t, .int p0, .int p1] S I L R Q = WP (d, 0, 0) 338 0 [some (.ref t), some (.int p0), some (.int p1), none] [] S I L R Q := by
  unfold CA
  rw [hm_338, hn_338]
  rfl
set_option maxRecDepth 100000 in
theorem hc_339 : mC 339 = prog_14_method_136_code := rfl
set_option maxRecDepth 100000 in
theorem ho_339 : mO 339 = 12 := rfl
set_option maxRecDepth 100000 in
theorem hn_339 : mN 339 = 5 := rfl
set_option maxRecDepth 100000 in
theorem ht_339 : mT 339 = (Option.some FieldType.int) := rfl
set_option maxRecDepth 100000 in
theorem hm_339 : mcs 339 = (0, 0) := by decide +kernel
theorem ca_339 {d : Nat} {t : Nat} {p0 : Int32} {p1 : Int32} {p2 : Int32} {p3 : Int32} {S : mS} {I : mI} {L : mL} {R : mR} {Q : mQ} : CA d 339 [.ref t, .int p0, .int p1, .int p2, .int p3] S I L R Q = WP (d, 0, 0) 339 0 [some (.ref t), some (.int p0), some (.int p1), some (.int p2), some (.int p3)] [] S I L R Q := by
  unfold CA
  rw [hm_339, hn_339]
  rfl
set_option maxRecDepth 100000 in
theorem hc_340 : mC 340 = prog_14_method_137_code := rfl
set_option maxRecDepth 100000 in
theorem ho_340 : mO 340 = 12 := rfl
set_option maxRecDepth 100000 in
theorem hn_340 : mN 340 = 4 := rfl
set_option maxRecDepth 100000 in
theorem ht_340 : mT 340 = (Option.some FieldType.int) := rfl
set_option maxRecDepth 100000 in
theorem hm_340 : mcs 340 = (0, 0) := by decide +kernel
theorem ca_340 {d : Nat} {t : Nat} {p0 : Int32} {S : mS} {I : mI} {L : mL} {R : mR} {Q : mQ} : CA d 340 [.ref t, .int p0] S I L R Q = WP (d, 0, 0) 340 0 [some (.ref t), some (.int p0), none, none] [] S I L R Q := by
  unfold CA
  rw [hm_340, hn_340]
  rfl
set_option maxRecDepth 100000 in
theorem hc_341 : mC 341 = prog_14_method_140_code := rfl
set_option maxRecDepth 100000 in
theorem ho_341 : mO 341 = 12 := rfl
set_option maxRecDepth 100000 in
theorem hn_341 : mN 341 = 3 := rfl
set_option maxRecDepth 100000 in
theorem ht_341 : mT 341 = (Option.some FieldType.int) := rfl
set_option maxRecDepth 100000 in
theorem hm_341 : mcs 341 = (0, 0) := by decide +kernel
theorem ca_341 {d : Nat} {t : Nat} {p0 : Int32} {S : mS} {I : mI} {L : mL} {R : mR} {Q : mQ} : CA d 341 [.ref t, .int p0] S I L R Q = WP (d, 0, 0) 341 0 [some (.ref t), some (.int p0), none] [] S I L R Q := by
  unfold CA
  rw [hm_341, hn_341]
  rfl
set_option maxRecDepth 100000 in
theorem hc_342 : mC 342 = prog_14_method_139_code := rfl
set_option maxRecDepth 100000 in
theorem ho_342 : mO 342 = 12 := rfl
set_option maxRecDepth 100000 in
theorem hn_342 : mN 342 = 2 := rfl
set_option maxRecDepth 100000 in
theorem ht_342 : mT 342 = (Option.some FieldType.int) := rfl
set_option maxRecDepth 100000 in
theorem hm_342 : mcs 342 = (0, 0) := by decide +kernel
theorem ca_342 {d : Nat} {t : Nat} {p0 : Int32} {S : mS} {I : mI} {L : mL} {R : mR} {Q : mQ} : CA d 342 [.ref t, .int p0] S I L R Q = WP (d, 0, 0) 342 0 [some (.ref t), some (.int p0)] [] S I L R Q := by
  unfold CA
  rw [hm_342, hn_342]
  rfl
set_option maxRecDepth 100000 in
theorem hc_343 : mC 343 = prog_14_method_138_code := rfl
set_option maxRecDepth 100000 in
theorem ho_343 : mO 343 = 12 := rfl
set_option maxRecDepth 100000 in
theorem hn_343 : mN 343 = 8 := rfl
set_option maxRecDepth 100000 in
theorem ht_343 : mT 343 = none := rfl
set_option maxRecDepth 100000 in
theorem hm_343 : mcs 343 = (0, 0) := by decide +kernel
theorem ca_343 {d : Nat} {t : Nat} {p0 : Int32} {S : mS} {I : mI} {L : mL} {R : mR} {Q : mQ} : CA d 343 [.ref t, .int p0] S I L R Q = WP (d, 0, 0) 343 0 [some (.ref t), some (.int p0), none, none, none, none, none, none] [] S I L R Q := by
  unfold CA
  rw [hm_343, hn_343]
  rfl
set_option maxRecDepth 100000 in
theorem hc_344 : mC 344 = prog_14_method_141_code := rfl
set_option maxRecDepth 100000 in
theorem ho_344 : mO 344 = 12 := rfl
set_option maxRecDepth 100000 in
theorem hn_344 : mN 344 = 3 := rfl
set_option maxRecDepth 100000 in
theorem ht_344 : mT 344 = (Option.some FieldType.int) := rfl
set_option maxRecDepth 100000 in
theorem hm_344 : mcs 344 = (0, 0) := by decide +kernel
theorem ca_344 {d : Nat} {t : Nat} {p0 : Int32} {S : mS} {I : mI} {L : mL} {R : mR} {Q : mQ} : CA d 344 [.ref t, .int p0] S I L R Q = WP (d, 0, 0) 344 0 [some (.ref t), some (.int p0), none] [] S I L R Q := by
  unfold CA
  rw [hm_344, hn_344]
  rfl
set_option maxRecDepth 100000 in
theorem hc_345 : mC 345 = prog_14_method_143_code := rfl
set_option maxRecDepth 100000 in
theorem ho_345 : mO 345 = 12 := rfl
set_option maxRecDepth 100000 in
theorem hn_345 : mN 345 = 5 := rfl
set_option maxRecDepth 100000 in
theorem ht_345 : mT 345 = (Option.some FieldType.boolean) := rfl
set_option maxRecDepth 100000 in
theorem hm_345 : mcs 345 = (0, 0) := by decide +kernel
theorem ca_345 {d : Nat} {t : Nat} {p0 : Int32} {S : mS} {I : mI} {L : mL} {R : mR} {Q : mQ} : CA d 345 [.ref t, .int p0] S I L R Q = WP (d, 0, 0) 345 0 [some (.ref t), some (.int p0), none, none, none] [] S I L R Q := by
  unfold CA
  rw [hm_345, hn_345]
  rfl
set_option maxRecDepth 100000 in
theorem hc_346 : mC 346 = prog_14_method_142_code := rfl
set_option maxRecDepth 100000 in
theorem ho_346 : mO 346 = 12 := rfl
set_option maxRecDepth 100000 in
theorem hn_346 : mN 346 = 5 := rfl
set_option maxRecDepth 100000 in
theorem ht_346 : mT 346 = (Option.some FieldType.long) := rfl
set_option maxRecDepth 100000 in
theorem hm_346 : mcs 346 = (0, 0) := by decide +kernel
theorem ca_346 {d : Nat} {t : Nat} {p0 : Int32} {S : mS} {I : mI} {L : mL} {R : mR} {Q : mQ} : CA d 346 [.ref t, .int p0] S I L R Q = WP (d, 0, 0) 346 0 [some (.ref t), some (.int p0), none, none, none] [] S I L R Q := by
  unfold CA
  rw [hm_346, hn_346]
  rfl
set_option maxRecDepth 100000 in
theorem hc_347 : mC 347 = prog_14_method_10_code := rfl
set_option maxRecDepth 100000 in
theorem ho_347 : mO 347 = 12 := rfl
set_option maxRecDepth 100000 in
theorem hn_347 : mN 347 = 11 := rfl
set_option maxRecDepth 100000 in
theorem ht_347 : mT 347 = (Option.some FieldType.boolean) := rfl
set_option maxRecDepth 100000 in
theorem hm_347 : mcs 347 = (0, 0) := by decide +kernel
theorem ca_347 {d : Nat} {t : Nat} {p0 : Int64} {p1 : Int64} {S : mS} {I : mI} {L : mL} {R : mR} {Q : mQ} : CA d 347 [.ref t, .long p0, .long p1] S I L R Q = WP (d, 0, 0) 347 0 [some (.ref t), some (.long p0), none, some (.long p1), none, none, none, none, none, none, none] [] S I L R Q := by
  unfold CA
  rw [hm_347, hn_347]
  rfl
set_option maxRecDepth 100000 in
theorem hc_348 : mC 348 = prog_14_method_144_code := rfl
set_option maxRecDepth 100000 in
theorem ho_348 : mO 348 = 12 := rfl
set_option maxRecDepth 100000 in
theorem hn_348 : mN 348 = 3 := rfl
set_option maxRecDepth 100000 in
theorem ht_348 : mT 348 = (Option.some FieldType.int) := rfl
set_option maxRecDepth 100000 in
theorem hm_348 : mcs 348 = (0, 0) := by decide +kernel
theorem ca_348 {d : Nat} {t : Nat} {S : mS} {I : mI} {L : mL} {R : mR} {Q : mQ} : CA d 348 [.ref t] S I L R Q = WP (d, 0, 0) 348 0 [some (.ref t), none, none] [] S I L R Q := by
  unfold CA
  rw [hm_348, hn_348]
  rfl
set_option maxRecDepth 100000 in
theorem hc_349 : mC 349 = prog_14_method_145_code := rfl
set_option maxRecDepth 100000 in
theorem ho_349 : mO 349 = 12 := rfl
set_option maxRecDepth 100000 in
theorem hn_349 : mN 349 = 5 := rfl
set_option maxRecDepth 100000 in
theorem ht_349 : mT 349 = (Option.some FieldType.int) := rfl
set_option maxRecDepth 100000 in
theorem hm_349 : mcs 349 = (0, 0) := by decide +kernel
theorem ca_349 {d : Nat} {t : Nat} {p0 : Int32} {p1 : Int32} {S : mS} {I : mI} {L : mL} {R : mR} {Q : mQ} : CA d 349 [.ref t, .int p0, .int p1] S I L R Q = WP (d, 0, 0) 349 0 [some (.ref t), some (.int p0), some (.int p1), none, none] [] S I L R Q := by
  unfold CA
  rw [hm_349, hn_349]
  rfl
set_option maxRecDepth 100000 in
theorem hc_350 : mC 350 = prog_14_method_154_code := rfl
set_option maxRecDepth 100000 in
theorem ho_350 : mO 350 = 12 := rfl
set_option maxRecDepth 100000 in
theorem hn_350 : mN 350 = 3 := rfl
set_option maxRecDepth 100000 in
theorem ht_350 : mT 350 = (Option.some FieldType.int) := rfl
set_option maxRecDepth 100000 in
theorem hm_350 : mcs 350 = (0, 0) := by decide +kernel
theorem ca_350 {d : Nat} {t : Nat} {p0 : Int32} {S : mS} {I : mI} {L : mL} {R : mR} {Q : mQ} : CA d 350 [.ref t, .int p0] S I L R Q = WP (d, 0, 0) 350 0 [some (.ref t), some (.int p0), none] [] S I L R Q := by
  unfold CA
  rw [hm_350, hn_350]
  rfl
set_option maxRecDepth 100000 in
theorem hc_351 : mC 351 = prog_14_method_153_code := rfl
set_option maxRecDepth 100000 in
theorem ho_351 : mO 351 = 12 := rfl
set_option maxRecDepth 100000 in
theorem hn_351 : mN 351 = 4 := rfl
set_option maxRecDepth 100000 in
theorem ht_351 : mT 351 = none := rfl
set_option maxRecDepth 100000 in
theorem hm_351 : mcs 351 = (0, 0) := by decide +kernel
theorem ca_351 {d : Nat} {t : Nat} {p0 : Int32} {S : mS} {I : mI} {L : mL} {R : mR} {Q : mQ} : CA d 351 [.ref t, .int p0] S I L R Q = WP (d, 0, 0) 351 0 [some (.ref t), some (.int p0), none, none] [] S I L R Q := by
  unfold CA
  rw [hm_351, hn_351]
  rfl
set_option maxRecDepth 100000 in
theorem hc_352 : mC 352 = prog_14_method_150_code := rfl
set_option maxRecDepth 100000 in
theorem ho_352 : mO 352 = 12 := rfl
set_option maxRecDepth 100000 in
theorem hn_352 : mN 352 = 3 := rfl
set_option maxRecDepth 100000 in
theorem ht_352 : mT 352 = (Option.some FieldType.boolean) := rfl
set_option maxRecDepth 100000 in
theorem hm_352 : mcs 352 = (0, 0) := by decide +kernel
theorem ca_352 {d : Nat} {t : Nat} {p0 : Int32} {S : mS} {I : mI} {L : mL} {R : mR} {Q : mQ} : CA d 352 [.ref t, .int p0] S I L R Q = WP (d, 0, 0) 352 0 [some (.ref t), some (.int p0), none] [] S I L R Q := by
  unfold CA
  rw [hm_352, hn_352]
  rfl
set_option maxRecDepth 100000 in
theorem hc_353 : mC 353 = prog_14_method_147_code := rfl
set_option maxRecDepth 100000 in
theorem ho_353 : mO 353 = 12 := rfl
set_option maxRecDepth 100000 in
theorem hn_353 : mN 353 = 5 := rfl
set_option maxRecDepth 100000 in
theorem ht_353 : mT 353 = (Option.some FieldType.boolean) := rfl
set_option maxRecDepth 100000 in
theorem hm_353 : mcs 353 = (0, 0) := by decide +kernel
theorem ca_353 {d : Nat} {t : Nat} {p0 : Int32} {p1 : Int32} {p2 : Int32} {p3 : Int32} {S : mS} {I : mI} {L : mL} {R : mR} {Q : mQ} : CA d 353 [.ref t, .int p0, .int p1, .int p2, .int p3] S I L R Q = WP (d, 0, 0) 353 0 [some (.ref t), some (.int p0), some (.int p1), some (.int p2), some (.int p3)] [] S I L R Q := by
  unfold CA
  rw [hm_353, hn_353]
  rfl
set_option maxRecDepth 100000 in
theorem hc_354 : mC 354 = prog_14_method_57_code := rfl
set_option maxRecDepth 100000 in
theorem ho_354 : mO 354 = 12 := rfl
set_option maxRecDepth 100000 in
theorem hn_354 : mN 354 = 3 := rfl
set_option maxRecDepth 100000 in
theorem ht_354 : mT 354 = (Option.some FieldType.int) := rfl
set_option maxRecDepth 100000 in
theorem hm_354 : mcs 354 = (0, 0) := by decide +kernel
theorem ca_354 {d : Nat} {p0 : Int32} {S : mS} {I : mI} {L : mL} {R : mR} {Q : mQ} : CA d 354 [.int p0] S I L R Q = WP (d, 0, 0) 354 0 [some (.int p0), none, none] [] S I L R Q := by
  unfold CA
  rw [hm_354, hn_354]
  rfl
set_option maxRecDepth 100000 in
theorem hc_355 : mC 355 = prog_14_method_149_code := rfl
set_option maxRecDepth 100000 in
theorem ho_355 : mO 355 = 12 := rfl
set_option maxRecDepth 100000 in
theorem hn_355 : mN 355 = 2 := rfl
set_option maxRecDepth 100000 in
theorem ht_355 : mT 355 = (Option.some FieldType.boolean) := rfl
set_option maxRecDepth 100000 in
theorem hm_355 : mcs 355 = (0, 0) := by decide +kernel
theorem ca_355 {d : Nat} {t : Nat} {p0 : Int32} {S : mS} {I : mI} {L : mL} {R : mR} {Q : mQ} : CA d 355 [.ref t, .int p0] S I L R Q = WP (d, 0, 0) 355 0 [some (.ref t), some (.int p0)] [] S I L R Q := by
  unfold CA
  rw [hm_355, hn_355]
  rfl
set_option maxRecDepth 100000 in
theorem hc_356 : mC 356 = prog_14_method_148_code := rfl
set_option maxRecDepth 100000 in
theorem ho_356 : mO 356 = 12 := rfl
set_option maxRecDepth 100000 in
theorem hn_356 : mN 356 = 5 := rfl
set_option maxRecDepth 100000 in
theorem ht_356 : mT 356 = (Option.some FieldType.boolean) := rfl
set_option maxRecDepth 100000 in
theorem hm_356 : mcs 356 = (0, 0) := by decide +kernel
theorem ca_356 {d : Nat} {t : Nat} {p0 : Int32} {S : mS} {I : mI} {L : mL} {R : mR} {Q : mQ} : CA d 356 [.ref t, .int p0] S I L R Q = WP (d, 0, 0) 356 0 [some (.ref t), some (.int p0), none, none, none] [] S I L R Q := by
  unfold CA
  rw [hm_356, hn_356]
  rfl
set_option maxRecDepth 100000 in
theorem hc_357 : mC 357 = prog_14_method_146_code := rfl
set_option maxRecDepth 100000 in
theorem ho_357 : mO 357 = 12 := rfl
set_option maxRecDepth 100000 in
theorem hn_357 : mN 357 = 2 := rfl
set_option maxRecDepth 100000 in
theorem ht_357 : mT 357 = (Option.some FieldType.int) := rfl
set_option maxRecDepth 100000 in
theorem hm_357 : mcs 357 = (0, 0) := by decide +kernel
theorem ca_357 {d : Nat} {t : Nat} {p0 : Int32} {S : mS} {I : mI} {L : mL} {R : mR} {Q : mQ} : CA d 357 [.ref t, .int p0] S I L R Q = WP (d, 0, 0) 357 0 [some (.ref t), some (.int p0)] [] S I L R Q := by
  unfold CA
  rw [hm_357, hn_357]
  rfl
set_option maxRecDepth 100000 in
theorem hc_358 : mC 358 = prog_14_method_151_code := rfl
set_option maxRecDepth 100000 in
theorem ho_358 : mO 358 = 12 := rfl
set_option maxRecDepth 100000 in
theorem hn_358 : mN 358 = 5 := rfl
set_option maxRecDepth 100000 in
theorem ht_358 : mT 358 = (Option.some FieldType.boolean) := rfl
set_option maxRecDepth 100000 in
theorem hm_358 : mcs 358 = (0, 0) := by decide +kernel
theorem ca_358 {d : Nat} {t : Nat} {p0 : Int32} {S : mS} {I : mI} {L : mL} {R : mR} {Q : mQ} : CA d 358 [.ref t, .int p0] S I L R Q = WP (d, 0, 0) 358 0 [some (.ref t), some (.int p0), none, none, none] [] S I L R Q := by
  unfold CA
  rw [hm_358, hn_358]
  rfl
set_option maxRecDepth 100000 in
theorem hc_359 : mC 359 = prog_14_method_152_code := rfl
set_option maxRecDepth 100000 in
theorem ho_359 : mO 359 = 12 := rfl
set_option maxRecDepth 100000 in
theorem hn_359 : mN 359 = 5 := rfl
set_option maxRecDepth 100000 in
theorem ht_359 : mT 359 = (Option.some FieldType.int) := rfl
set_option maxRecDepth 100000 in
theorem hm_359 : mcs 359 = (0, 0) := by decide +kernel
theorem ca_359 {d : Nat} {t : Nat} {p0 : Int32} {S : mS} {I : mI} {L : mL} {R : mR} {Q : mQ} : CA d 359 [.ref t, .int p0] S I L R Q = WP (d, 0, 0) 359 0 [some (.ref t), some (.int p0), none, none, none] [] S I L R Q := by
  unfold CA
  rw [hm_359, hn_359]
  rfl
set_option maxRecDepth 100000 in
theorem hc_360 : mC 360 = prog_14_method_155_code := rfl
set_option maxRecDepth 100000 in
theorem ho_360 : mO 360 = 12 := rfl
set_option maxRecDepth 100000 in
theorem hn_360 : mN 360 = 2 := rfl
set_option maxRecDepth 100000 in
theorem ht_360 : mT 360 = (Option.some FieldType.int) := rfl
set_option maxRecDepth 100000 in
theorem hm_360 : mcs 360 = (0, 0) := by decide +kernel
theorem ca_360 {d : Nat} {t : Nat} {p0 : Int32} {S : mS} {I : mI} {L : mL} {R : mR} {Q : mQ} : CA d 360 [.ref t, .int p0] S I L R Q = WP (d, 0, 0) 360 0 [some (.ref t), some (.int p0)] [] S I L R Q := by
  unfold CA
  rw [hm_360, hn_360]
  rfl
set_option maxRecDepth 100000 in
theorem hc_361 : mC 361 = prog_14_method_156_code := rfl
set_option maxRecDepth 100000 in
theorem ho_361 : mO 361 = 12 := rfl
set_option maxRecDepth 100000 in
theorem hn_361 : mN 361 = 6 := rfl
set_option maxRecDepth 100000 in
theorem ht_361 : mT 361 = (Option.some FieldType.boolean) := rfl
set_option maxRecDepth 100000 in
theorem hm_361 : mcs 361 = (0, 0) := by decide +kernel
theorem ca_361 {d : Nat} {t : Nat} {p0 : Int32} {p1 : Int32} {S : mS} {I : mI} {L : mL} {R : mR} {Q : mQ} : CA d 361 [.ref t, .int p0, .int p1] S I L R Q = WP (d, 0, 0) 361 0 [some (.ref t), some (.int p0), some (.int p1), none, none, none] [] S I L R Q := by
  unfold CA
  rw [hm_361, hn_361]
  rfl
set_option maxRecDepth 100000 in
theorem hc_362 : mC 362 = prog_14_method_158_code := rfl
set_option maxRecDepth 100000 in
theorem ho_362 : mO 362 = 12 := rfl
set_option maxRecDepth 100000 in
theorem hn_362 : mN 362 = 1 := rfl
set_option maxRecDepth 100000 in
theorem ht_362 : mT 362 = (Option.some FieldType.int) := rfl
set_option maxRecDepth 100000 in
theorem hm_362 : mcs 362 = (0, 0) := by decide +kernel
theorem ca_362 {d : Nat} {t : Nat} {S : mS} {I : mI} {L : mL} {R : mR} {Q : mQ} : CA d 362 [.ref t] S I L R Q = WP (d, 0, 0) 362 0 [some (.ref t)] [] S I L R Q := by
  unfold CA
  rw [hm_362, hn_362]
  rfl
set_option maxRecDepth 100000 in
theorem hc_363 : mC 363 = prog_14_method_157_code := rfl
set_option maxRecDepth 100000 in
theorem ho_363 : mO 363 = 12 := rfl
set_option maxRecDepth 100000 in
theorem hn_363 : mN 363 = 4 := rfl
set_option maxRecDepth 100000 in
theorem ht_363 : mT 363 = none := rfl
set_option maxRecDepth 100000 in
theorem hm_363 : mcs 363 = (0, 0) := by decide +kernel
theorem ca_363 {d : Nat} {t : Nat} {p0 : Int32} {p1 : Int32} {S : mS} {I : mI} {L : mL} {R : mR} {Q : mQ} : CA d 363 [.ref t, .int p0, .int p1] S I L R Q = WP (d, 0, 0) 363 0 [some (.ref t), some (.int p0), some (.int p1), none] [] S I L R Q := by
  unfold CA
  rw [hm_363, hn_363]
  rfl
set_option maxRecDepth 100000 in
theorem hc_364 : mC 364 = prog_14_method_159_code := rfl
set_option maxRecDepth 100000 in
theorem ho_364 : mO 364 = 12 := rfl
set_option maxRecDepth 100000 in
theorem hn_364 : mN 364 = 1 := rfl
set_option maxRecDepth 100000 in
theorem ht_364 : mT 364 = (Option.some FieldType.int) := rfl
set_option maxRecDepth 100000 in
theorem hm_364 : mcs 364 = (0, 0) := by decide +kernel
theorem ca_364 {d : Nat} {t : Nat} {S : mS} {I : mI} {L : mL} {R : mR} {Q : mQ} : CA d 364 [.ref t] S I L R Q = WP (d, 0, 0) 364 0 [some (.ref t)] [] S I L R Q := by
  unfold CA
  rw [hm_364, hn_364]
  rfl
set_option maxRecDepth 100000 in
theorem hc_365 : mC 365 = prog_21_method_103_code := rfl
set_option maxRecDepth 100000 in
theorem ho_365 : mO 365 = 14 := rfl
set_option maxRecDepth 100000 in
theorem hn_365 : mN 365 = 4 := rfl
set_option maxRecDepth 100000 in
theorem ht_365 : mT 365 = none := rfl
set_option maxRecDepth 100000 in
theorem hm_365 : mcs 365 = (0, 0) := by decide +kernel
theorem ca_365 {d : Nat} {p0 : Nat} {p1 : Int32} {S : mS} {I : mI} {L : mL} {R : mR} {Q : mQ} : CA d 365 [.ref p0, .int p1] S I L R Q = WP (d, 0, 0) 365 0 [some (.ref p0), some (.int p1), none, none] [] S I L R Q := by
  unfold CA
  rw [hm_365, hn_365]
  rfl
set_option maxRecDepth 100000 in
theorem hc_366 : mC 366 = prog_21_method_102_code := rfl
set_option maxRecDepth 100000 in
theorem ho_366 : mO 366 = 14 := rfl
set_option maxRecDepth 100000 in
theorem hn_366 : mN 366 = 6 := rfl
set_option maxRecDepth 100000 in
theorem ht_366 : mT 366 = none := rfl
set_option maxRecDepth 100000 in
theorem hm_366 : mcs 366 = (0, 0) := by decide +kernel
theorem ca_366 {d : Nat} {p0 : Nat} {p1 : Int32} {p2 : Int32} {p3 : Int64} {S : mS} {I : mI} {L : mL} {R : mR} {Q : mQ} : CA d 366 [.ref p0, .int p1, .int p2, .long p3] S I L R Q = WP (d, 0, 0) 366 0 [some (.ref p0), some (.int p1), some (.int p2), some (.long p3), none, none] [] S I L R Q := by
  unfold CA
  rw [hm_366, hn_366]
  rfl
set_option maxRecDepth 100000 in
theorem hc_367 : mC 367 = prog_21_method_30_code := rfl
set_option maxRecDepth 100000 in
theorem ho_367 : mO 367 = 14 := rfl
set_option maxRecDepth 100000 in
theorem hn_367 : mN 367 = 3 := rfl
set_option maxRecDepth 100000 in
theorem ht_367 : mT 367 = none := rfl
set_option maxRecDepth 100000 in
theorem hm_367 : mcs 367 = (0, 0) := by decide +kernel
theorem ca_367 {d : Nat} {p0 : Int32} {p1 : Int32} {p2 : Int32} {S : mS} {I : mI} {L : mL} {R : mR} {Q : mQ} : CA d 367 [.int p0, .int p1, .int p2] S I L R Q = WP (d, 0, 0) 367 0 [some (.int p0), some (.int p1), some (.int p2)] [] S I L R Q := by
  unfold CA
  rw [hm_367, hn_367]
  rfl
set_option maxRecDepth 100000 in
theorem hc_368 : mC 368 = prog_21_method_101_code := rfl
set_option maxRecDepth 100000 in
theorem ho_368 : mO 368 = 14 := rfl
set_option maxRecDepth 100000 in
theorem hn_368 : mN 368 = 5 := rfl
set_option maxRecDepth 100000 in
theorem ht_368 : mT 368 = none := rfl
set_option maxRecDepth 100000 in
theorem hm_368 : mcs 368 = (0, 0) := by decide +kernel
theorem ca_368 {d : Nat} {p0 : Nat} {p1 : Int64} {S : mS} {I : mI} {L : mL} {R : mR} {Q : mQ} : CA d 368 [.ref p0, .long p1] S I L R Q = WP (d, 0, 0) 368 0 [some (.ref p0), some (.long p1), none, none, none] [] S I L R Q := by
  unfold CA
  rw [hm_368, hn_368]
  rfl
set_option maxRecDepth 100000 in
theorem hc_369 : mC 369 = prog_15_method_49_code := rfl
set_option maxRecDepth 100000 in
theorem ho_369 : mO 369 = 15 := rfl
set_option maxRecDepth 100000 in
theorem hn_369 : mN 369 = 1 := rfl
set_option maxRecDepth 100000 in
theorem ht_369 : mT 369 = (Option.some FieldType.int) := rfl
set_option maxRecDepth 100000 in
theorem hm_369 : mcs 369 = (0, 0) := by decide +kernel
theorem ca_369 {d : Nat} {p0 : Int32} {S : mS} {I : mI} {L : mL} {R : mR} {Q : mQ} : CA d 369 [.int p0] S I L R Q = WP (d, 0, 0) 369 0 [some (.int p0)] [] S I L R Q := by
  unfold CA
  rw [hm_369, hn_369]
  rfl
