set_option maxRecDepth 100000 in
set_option maxHeartbeats 8000000 in
theorem kIX8 (l : Launch) (D : va_G) (cy : FieldType → ClassId) (h0 : Nat) : iw_KI l D cy yX8_init cX8_init 2 2 33 46 1753 iw_NI [.ref h0] [(h0, .inr (8, [.null, .null, .null, .null, .null, .null, .null, .null, .null, .null, .null, .int 0]))] (fun u => iw_wld (l, D, cy, iw_adf h0 u) iw_wX iw_zX) := by
  refine iw_ofU [(0, .ref h0)] (by decide +kernel) rfl (Nat.le_of_ble_eq_true rfl) rfl ?_
  intro X A hC hin hN
  refine U_aln hC dX8_init_0 0 rfl ?_
  refine U_obj hC oi_X8 oi_i oi_c ⟨by decide, Nat.le_of_ble_eq_true rfl⟩ dX8_init_1 ?_
  refine U_aln hC dX8_init_4 0 rfl ?_
  refine U_new (ci := 2) (fs := [.null, .null, .null, .null, .null, .null, .int 0]) tyX2 hC iw_u2 tyX2_ok cl_X8_7 in_X2 ii_X2 rfl df_X2 (by decide) (by decide) dX8_init_5 ?_
  intro q5
  refine U_nm [_, _] rfl ?_
  refine U_dup hC dX8_init_8 rfl ?_
  refine U_cN (wr := [_]) [.ref _, .ref _] [1] [0] hC hN.1 iw_wi_X2 (kIX2 l D cy _) iw_TT (fun _ _ => trivial) rfl rfl (Nat.le_of_ble_eq_true rfl) ⟨by decide, by decide⟩ ⟨by decide, by decide⟩ rfl rfl rfl rfl rfl (by decide) dX8_init_9 ?_
  intro u9
  refine U_nm [_, _, _, _, _, _, _, _] rfl ?_
  refine U_pF (k := 0) (q0 := 0) (ty := .object "IdeaWorks$Hands") tyX8 hC hin iw_u8 tyX8_ok nmX8 rfl rfl (by decide) lk_X8_10 rfl rfl (by decide +kernel) rfl rfl (Nat.le_of_ble_eq_true rfl) dX8_init_12 ?_
  refine U_nm [(_, .inr (_, [_, _, _, _, _, _, _, _, _, _, _, _])), _, _, _, _, _, _, _] rfl ?_
  refine U_aln hC dX8_init_15 0 rfl ?_
  refine U_new (ci := 0) (fs := [.null, .null]) tyX0 hC iw_u0 tyX0_ok cl_X8_16 in_X0 ii_X0 rfl df_X0 (by decide) (by decide) dX8_init_16 ?_
  intro q16
  refine U_nm [_, _, _, _, _, _, _, _, _] rfl ?_
  refine U_dup hC dX8_init_19 rfl ?_
  refine U_cN (wr := [_, _, _, _, _, _, _, _]) [.ref _, .ref _] [8] [0, 1, 2, 3, 4, 5, 6, 7] hC hN.2.1 iw_wi_X0 (kIX0 l D cy _) iw_TT (fun _ _ => trivial) rfl rfl (Nat.le_of_ble_eq_true rfl) ⟨by decide, by decide⟩ ⟨by decide, by decide⟩ rfl rfl rfl rfl rfl (by decide) dX8_init_20 ?_
  intro u20
  refine U_nm [_, _, _, _, _, _, _, _, _, _, _] rfl ?_
  refine U_pF (k := 4) (q0 := 0) (ty := .object "IdeaWorks$Benches") tyX8 hC hin iw_u8 tyX8_ok nmX8 rfl rfl (by decide) lk_X8_19 rfl rfl (by decide +kernel) rfl rfl (Nat.le_of_ble_eq_true rfl) dX8_init_23 ?_
  refine U_nm [(_, .inr (_, [_, _, _, _, _, _, _, _, _, _, _, _])), _, _, _, _, _, _, _, _, _, _] rfl ?_
  refine U_aln hC dX8_init_26 0 rfl ?_
  refine U_new (ci := 4) (fs := [.null, .null, .null, .null, .int 0]) tyX4 hC iw_u4 tyX4_ok cl_X8_23 in_X4 ii_X4 rfl df_X4 (by decide) (by decide) dX8_init_27 ?_
  intro q27
  refine U_nm [_, _, _, _, _, _, _, _, _, _, _, _] rfl ?_
  refine U_dup hC dX8_init_30 rfl ?_
  refine U_cN (wr := [_, _, _, _, _, _, _, _, _, _, _]) [.ref _, .ref _] [11] [0, 1, 2, 3, 4, 5, 6, 7, 8, 9, 10] hC hN.2.2.1 iw_wi_X4 (kIX4 l D cy _) iw_TT (fun _ _ => trivial) rfl rfl (Nat.le_of_ble_eq_true rfl) ⟨by decide, by decide⟩ ⟨by decide, by decide⟩ rfl rfl rfl rfl rfl (by decide) dX8_init_31 ?_
  intro u31
  refine U_nm [_, _, _, _, _, _, _, _, _, _, _, _, _, _, _, _] rfl ?_
  refine U_pF (k := 5) (q0 := 0) (ty := .object "IdeaWorks$Measures") tyX8 hC hin iw_u8 tyX8_ok nmX8 rfl rfl (by decide) lk_X8_26 rfl rfl (by decide +kernel) rfl rfl (Nat.le_of_ble_eq_true rfl) dX8_init_34 ?_
  refine U_nm [(_, .inr (_, [_, _, _, _, _, _, _, _, _, _, _, _])), _, _, _, _, _, _, _, _, _, _, _, _, _, _, _] rfl ?_
  refine U_aln hC dX8_init_37 0 rfl ?_
  refine U_new (ci := 6) (fs := [.null, .null, .null, .null, .null, .null]) tyX6 hC iw_u6 tyX6_ok cl_X8_30 in_X6 ii_X6 rfl df_X6 (by decide) (by decide) dX8_init_38 ?_
  intro q38
  refine U_nm [_, _, _, _, _, _, _, _, _, _, _, _, _, _, _, _, _] rfl ?_
  refine U_dup hC dX8_init_41 rfl ?_
  refine U_cN (wr := [_, _, _, _, _, _, _, _, _, _, _, _, _, _, _, _]) [.ref _, .ref _] [16] [0, 1, 2, 3, 4, 5, 6, 7, 8, 9, 10, 11, 12, 13, 14, 15] hC hN.2.2.2.1 iw_wi_X6 (kIX6 l D cy _) iw_TT (fun _ _ => trivial) rfl rfl (Nat.le_of_ble_eq_true rfl) ⟨by decide, by decide⟩ ⟨by decide, by decide⟩ rfl rfl rfl rfl rfl (by decide) dX8_init_42 ?_
  intro u42
  refine U_nm [_, _, _, _, _, _, _, _, _, _, _, _, _, _, _, _, _, _, _, _, _, _, _] rfl ?_
  refine U_pF (k := 6) (q0 := 0) (ty := .object "IdeaWorks$Tally") tyX8 hC hin iw_u8 tyX8_ok nmX8 rfl rfl (by decide) lk_X8_33 rfl rfl (by decide +kernel) rfl rfl (Nat.le_of_ble_eq_true rfl) dX8_init_45 ?_
  refine U_nm [(_, .inr (_, [_, _, _, _, _, _, _, _, _, _, _, _])), _, _, _, _, _, _, _, _, _, _, _, _, _, _, _, _, _, _, _, _, _, _] rfl ?_
  refine U_aln hC dX8_init_48 0 rfl ?_
  refine U_new (ci := 5) (fs := [.null, .null, .null, .null, .int 0]) tyX5 hC iw_u5 tyX5_ok cl_X8_37 in_X5 ii_X5 rfl df_X5 (by decide) (by decide) dX8_init_49 ?_
  intro q49
  refine U_nm [_, _, _, _, _, _, _, _, _, _, _, _, _, _, _, _, _, _, _, _, _, _, _, _] rfl ?_
  refine U_dup hC dX8_init_52 rfl ?_
  refine U_cN (wr := [_, _, _, _, _, _, _, _, _, _, _, _, _, _, _, _, _, _, _, _, _, _, _]) [.ref _, .ref _] [23] [0, 1, 2, 3, 4, 5, 6, 7, 8, 9, 10, 11, 12, 13, 14, 15, 16, 17, 18, 19, 20, 21, 22] hC hN.2.2.2.2.1 iw_wi_X5 (kIX5 l D cy _) iw_TT (fun _ _ => trivial) rfl rfl (Nat.le_of_ble_eq_true rfl) ⟨by decide, by decide⟩ ⟨by decide, by decide⟩ rfl rfl rfl rfl rfl (by decide) dX8_init_53 ?_
  intro u53
  refine U_nm [_, _, _, _, _, _, _, _, _, _, _, _, _, _, _, _, _, _, _, _, _, _, _, _, _, _, _, _] rfl ?_
  refine U_pF (k := 7) (q0 := 0) (ty := .object "IdeaWorks$Rules") tyX8 hC hin iw_u8 tyX8_ok nmX8 rfl rfl (by decide) lk_X8_40 rfl rfl (by decide +kernel) rfl rfl (Nat.le_of_ble_eq_true rfl) dX8_init_56 ?_
  refine U_nm [(_, .inr (_, [_, _, _, _, _, _, _, _, _, _, _, _])), _, _, _, _, _, _, _, _, _, _, _, _, _, _, _, _, _, _, _, _, _, _, _, _, _, _, _] rfl ?_
  refine U_aln hC dX8_init_59 0 rfl ?_
  refine U_new (ci := 7) (fs := [.null, .int 0]) tyX7 hC iw_u7 tyX7_ok cl_X8_44 in_X7 ii_X7 rfl df_X7 (by decide) (by decide) dX8_init_60 ?_
  intro q60
  refine U_nm [_, _, _, _, _, _, _, _, _, _, _, _, _, _, _, _, _, _, _, _, _, _, _, _, _, _, _, _, _] rfl ?_
  refine U_dup hC dX8_init_63 rfl ?_
  refine U_cN (wr := [_, _, _, _, _, _, _, _, _, _, _, _, _, _, _, _, _, _, _, _, _, _, _, _, _, _, _, _]) [.ref _, .ref _] [28] [0, 1, 2, 3, 4, 5, 6, 7, 8, 9, 10, 11, 12, 13, 14, 15, 16, 17, 18, 19, 20, 21, 22, 23, 24, 25, 26, 27] hC hN.2.2.2.2.2.1 iw_wi_X7 (kIX7 l D cy _) iw_TT (fun _ _ => trivial) rfl rfl (Nat.le_of_ble_eq_true rfl) ⟨by decide, by decide⟩ ⟨by decide, by decide⟩ rfl rfl rfl rfl rfl (by decide) dX8_init_64 ?_
  intro u64
  refine U_nm [_, _, _, _, _, _, _, _, _, _, _, _, _, _, _, _, _, _, _, _, _, _, _, _, _, _, _, _, _, _] rfl ?_
  refine U_pF (k := 8) (q0 := 0) (ty := .object "IdeaWorks$Works") tyX8 hC hin iw_u8 tyX8_ok nmX8 rfl rfl (by decide) lk_X8_47 rfl rfl (by decide +kernel) rfl rfl (Nat.le_of_ble_eq_true rfl) dX8_init_67 ?_
  refine U_nm [(_, .inr (_, [_, _, _, _, _, _, _, _, _, _, _, _])), _, _, _, _, _, _, _, _, _, _, _, _, _, _, _, _, _, _, _, _, _, _, _, _, _, _, _, _, _] rfl ?_
  refine U_aln hC dX8_init_70 0 rfl ?_
  refine U_ic (x := 4) hC dX8_init_71 (by decide) ?_
  refine U_newa (N := 4) (a0 := (4, .inl (fun _ => 0))) 0 hC ac_int rfl rfl (aq_int _) (fun _ => rfl) (by decide) (by decide) (by decide) (by decide) (by decide) dX8_init_72 ?_
  intro q72
  refine U_nm [_, _, _, _, _, _, _, _, _, _, _, _, _, _, _, _, _, _, _, _, _, _, _, _, _, _, _, _, _, _, _] rfl ?_
  refine U_dup hC dX8_init_74 rfl ?_
  refine U_ic (x := 0) hC dX8_init_75 (by decide) ?_
  refine U_ic (x := 4) hC dX8_init_76 (by decide) ?_
  refine U_ist (q0 := 30) hC rfl (iw_ok_in (by decide)) dX8_init_77 ?_
  refine U_nm [_, _, _, _, _, _, _, _, _, _, _, _, _, _, _, _, _, _, _, _, _, _, _, _, _, _, _, _, _, _, _] rfl ?_
  refine U_dup hC dX8_init_78 rfl ?_
  refine U_ic (x := 1) hC dX8_init_79 (by decide) ?_
  refine U_sip (x := 600) hC dX8_init_80 (by decide) ?_
  refine U_ist (q0 := 30) hC rfl (iw_ok_in (by decide)) dX8_init_83 ?_
  refine U_nm [_, _, _, _, _, _, _, _, _, _, _, _, _, _, _, _, _, _, _, _, _, _, _, _, _, _, _, _, _, _, _] rfl ?_
  refine U_dup hC dX8_init_84 rfl ?_
  refine U_ic (x := 2) hC dX8_init_85 (by decide) ?_
  refine U_bip (x := 30) hC dX8_init_86 (by decide) ?_
  refine U_ist (q0 := 30) hC rfl (iw_ok_in (by decide)) dX8_init_88 ?_
  refine U_nm [_, _, _, _, _, _, _, _, _, _, _, _, _, _, _, _, _, _, _, _, _, _, _, _, _, _, _, _, _, _, _] rfl ?_
  refine U_dup hC dX8_init_89 rfl ?_
  refine U_ic (x := 3) hC dX8_init_90 (by decide) ?_
  refine U_ic (x := 1) hC dX8_init_91 (by decide) ?_
  refine U_ist (q0 := 30) hC rfl (iw_ok_in (by decide)) dX8_init_92 ?_
  refine U_nm [_, _, _, _, _, _, _, _, _, _, _, _, _, _, _, _, _, _, _, _, _, _, _, _, _, _, _, _, _, _, _] rfl ?_
  refine U_pF (k := 9) (q0 := 0) (ty := .array .int) tyX8 hC hin iw_u8 tyX8_ok nmX8 rfl rfl (by decide) lk_X8_51 rfl rfl (by decide +kernel) rfl rfl (Nat.le_of_ble_eq_true rfl) dX8_init_93 ?_
  refine U_nm [(_, .inr (_, [_, _, _, _, _, _, _, _, _, _, _, _])), _, _, _, _, _, _, _, _, _, _, _, _, _, _, _, _, _, _, _, _, _, _, _, _, _, _, _, _, _, _] rfl ?_
  refine U_aln hC dX8_init_96 0 rfl ?_
  refine U_bip (x := 7) hC dX8_init_97 (by decide) ?_
  refine U_newa (N := 7) (a0 := (7, .inl (fun _ => 0))) 0 hC ac_int rfl rfl (aq_int _) (fun _ => rfl) (by decide) (by decide) (by decide) (by decide) (by decide) dX8_init_99 ?_
  intro q99
  refine U_nm [_, _, _, _, _, _, _, _, _, _, _, _, _, _, _, _, _, _, _, _, _, _, _, _, _, _, _, _, _, _, _, _] rfl ?_
  refine U_pF (k := 10) (q0 := 0) (ty := .array .int) tyX8 hC hin iw_u8 tyX8_ok nmX8 rfl rfl (by decide) lk_X8_55 rfl rfl (by decide +kernel) rfl rfl (Nat.le_of_ble_eq_true rfl) dX8_init_101 ?_
  refine U_nm [(_, .inr (_, [_, _, _, _, _, _, _, _, _, _, _, _])), _, _, _, _, _, _, _, _, _, _, _, _, _, _, _, _, _, _, _, _, _, _, _, _, _, _, _, _, _, _, _] rfl ?_
  refine U_aln hC dX8_init_104 0 rfl ?_
  refine U_ic (x := 0) hC dX8_init_105 (by decide) ?_
  refine U_pI (k := 11) (q0 := 0) (ty := .int) tyX8 hC iw_u8 tyX8_ok nmX8 rfl rfl (by decide) lk_X8_58 rfl (by decide +kernel) rfl rfl (Nat.le_of_ble_eq_true rfl) dX8_init_106 ?_
  refine U_nm [(_, .inr (_, [_, _, _, _, _, _, _, _, _, _, _, _])), _, _, _, _, _, _, _, _, _, _, _, _, _, _, _, _, _, _, _, _, _, _, _, _, _, _, _, _, _, _, _] rfl ?_
  refine U_new (ci := 3) (fs := [.null, .null, .null, .null, .null, .null, .null, .null, .null, .null, .int 0]) tyX3 hC iw_u3 tyX3_ok cl_X8_62 in_X3 ii_X3 rfl df_X3 (by decide) (by decide) dX8_init_109 ?_
  intro q109
  refine U_nm [_, _, _, _, _, _, _, _, _, _, _, _, _, _, _, _, _, _, _, _, _, _, _, _, _, _, _, _, _, _, _, _, _] rfl ?_
  refine U_dup hC dX8_init_112 rfl ?_
  refine U_cN (wr := [_, _, _, _, _, _, _, _, _, _, _, _, _, _, _, _, _, _, _, _, _, _, _, _, _, _, _, _, _, _, _, _]) [.ref _] [32] [0, 1, 2, 3, 4, 5, 6, 7, 8, 9, 10, 11, 12, 13, 14, 15, 16, 17, 18, 19, 20, 21, 22, 23, 24, 25, 26, 27, 28, 29, 30, 31] hC hN.2.2.2.2.2.2 iw_wi_X3 (kIX3 l D cy _) iw_TT (fun _ _ => trivial) rfl rfl (Nat.le_of_ble_eq_true rfl) ⟨by decide, by decide⟩ ⟨by decide, by decide⟩ rfl rfl rfl rfl rfl (by decide) dX8_init_113 ?_
  intro u113
  refine U_nm [_, _, _, _, _, _, _, _, _, _, _, _, _, _, _, _, _, _, _, _, _, _, _, _, _, _, _, _, _, _, _, _, _, _, _, _, _, _, _, _, _, _, _] rfl ?_
  refine U_asn [(1, .ref _), (0, .ref _)] hC dX8_init_116 (by decide) rfl ?_
  refine U_aln hC dX8_init_117 1 rfl ?_
  refine U_aln hC dX8_init_118 0 rfl ?_
  refine U_pF (k := 1) (q0 := 0) (ty := .object "IdeaWorks$Ideas") tyX8 hC hin iw_u8 tyX8_ok nmX8 rfl rfl (by decide) lk_X8_65 rfl rfl (by decide +kernel) rfl rfl (Nat.le_of_ble_eq_true rfl) dX8_init_119 ?_
  refine U_nm [(_, .inr (_, [_, _, _, _, _, _, _, _, _, _, _, _])), _, _, _, _, _, _, _, _, _, _, _, _, _, _, _, _, _, _, _, _, _, _, _, _, _, _, _, _, _, _, _, _, _, _, _, _, _, _, _, _, _, _] rfl ?_
  refine U_aln hC dX8_init_122 1 rfl ?_
  refine U_new (ci := 1) (fs := [.null, .null]) tyX1 hC iw_u1 tyX1_ok cl_X8_69 in_X1 ii_X1 rfl df_X1 (by decide) (by decide) dX8_init_123 ?_
  intro q123
  refine U_nm [_, _, _, _, _, _, _, _, _, _, _, _, _, _, _, _, _, _, _, _, _, _, _, _, _, _, _, _, _, _, _, _, _, _, _, _, _, _, _, _, _, _, _, _] rfl ?_
  refine U_dup hC dX8_init_126 rfl ?_
  refine U_aln hC dX8_init_127 0 rfl ?_
  refine U_cI (wr := [_, _, _, _, _, _, _, _, _, _, _, _, _, _, _, _, _, _, _, _, _, _, _, _, _, _, _, _, _, _, _, _, _, _, _, _, _, _, _, _, _, _, _]) [.ref _, .ref _] [43] [0, 1, 2, 3, 4, 5, 6, 7, 8, 9, 10, 11, 12, 13, 14, 15, 16, 17, 18, 19, 20, 21, 22, 23, 24, 25, 26, 27, 28, 29, 30, 31, 32, 33, 34, 35, 36, 37, 38, 39, 40, 41, 42] hC ml_X8_71 iw_wi_X1 (kIX1 l D cy _ _) iw_TT (fun _ _ => trivial) rfl rfl (Nat.le_of_ble_eq_true rfl) ⟨by decide, by decide⟩ ⟨by decide, by decide⟩ rfl rfl rfl rfl rfl (by decide) dX8_init_128 ?_
  intro u128
  refine U_nm [_, _, _, _, _, _, _, _, _, _, _, _, _, _, _, _, _, _, _, _, _, _, _, _, _, _, _, _, _, _, _, _, _, _, _, _, _, _, _, _, _, _, _, _, _] rfl ?_
  refine U_pF (k := 2) (q0 := 0) (ty := .object "IdeaWorks$Families") tyX8 hC hin iw_u8 tyX8_ok nmX8 rfl rfl (by decide) lk_X8_74 rfl rfl (by decide +kernel) rfl rfl (Nat.le_of_ble_eq_true rfl) dX8_init_131 ?_
  refine U_nm [(_, .inr (_, [_, _, _, _, _, _, _, _, _, _, _, _])), _, _, _, _, _, _, _, _, _, _, _, _, _, _, _, _, _, _, _, _, _, _, _, _, _, _, _, _, _, _, _, _, _, _, _, _, _, _, _, _, _, _, _, _] rfl ?_
  refine U_aln hC dX8_init_134 1 rfl ?_
  refine U_new (ci := 1) (fs := [.null, .null]) tyX1 hC iw_u1 tyX1_ok cl_X8_69 in_X1 ii_X1 rfl df_X1 (by decide) (by decide) dX8_init_135 ?_
  intro q135
  refine U_nm [_, _, _, _, _, _, _, _, _, _, _, _, _, _, _, _, _, _, _, _, _, _, _, _, _, _, _, _, _, _, _, _, _, _, _, _, _, _, _, _, _, _, _, _, _, _] rfl ?_
  refine U_dup hC dX8_init_138 rfl ?_
  refine U_aln hC dX8_init_139 0 rfl ?_
  refine U_cI (wr := [_, _, _, _, _, _, _, _, _, _, _, _, _, _, _, _, _, _, _, _, _, _, _, _, _, _, _, _, _, _, _, _, _, _, _, _, _, _, _, _, _, _, _, _, _]) [.ref _, .ref _] [45] [0, 1, 2, 3, 4, 5, 6, 7, 8, 9, 10, 11, 12, 13, 14, 15, 16, 17, 18, 19, 20, 21, 22, 23, 24, 25, 26, 27, 28, 29, 30, 31, 32, 33, 34, 35, 36, 37, 38, 39, 40, 41, 42, 43, 44] hC ml_X8_71 iw_wi_X1 (kIX1 l D cy _ _) iw_TT (fun _ _ => trivial) rfl rfl (Nat.le_of_ble_eq_true rfl) ⟨by decide, by decide⟩ ⟨by decide, by decide⟩ rfl rfl rfl rfl rfl (by decide) dX8_init_140 ?_
  intro u140
  refine U_nm [_, _, _, _, _, _, _, _, _, _, _, _, _, _, _, _, _, _, _, _, _, _, _, _, _, _, _, _, _, _, _, _, _, _, _, _, _, _, _, _, _, _, _, _, _, _, _] rfl ?_
  refine U_pF (k := 3) (q0 := 0) (ty := .object "IdeaWorks$Families") tyX8 hC hin iw_u8 tyX8_ok nmX8 rfl rfl (by decide) lk_X8_78 rfl rfl (by decide +kernel) rfl rfl (Nat.le_of_ble_eq_true rfl) dX8_init_143 ?_
  refine U_nm [(_, .inr (_, [_, _, _, _, _, _, _, _, _, _, _, _])), _, _, _, _, _, _, _, _, _, _, _, _, _, _, _, _, _, _, _, _, _, _, _, _, _, _, _, _, _, _, _, _, _, _, _, _, _, _, _, _, _, _, _, _, _, _] rfl ?_
  exact U_ret (fun k => [q5, (u9 0), (u9 1), (u9 2), (u9 3), (u9 4), (u9 5), q109, (u113 0), (u113 1), (u113 2), (u113 3), (u113 4), (u113 5), (u113 6), (u113 7), (u113 8), (u113 9), q123, (u128 0), q135, (u140 0), q16, (u20 0), (u20 1), q27, (u31 0), (u31 1), (u31 2), (u31 3), q38, (u42 0), (u42 1), (u42 2), (u42 3), (u42 4), (u42 5), q49, (u53 0), (u53 1), (u53 2), (u53 3), q60, (u64 0), q72, q99].getD k 0) [0, 1, 2, 3, 4, 5, 6, 7, 32, 33, 34, 35, 36, 37, 38, 39, 40, 41, 42, 43, 44, 45, 46, 8, 9, 10, 11, 12, 13, 14, 15, 16, 17, 18, 19, 20, 21, 22, 23, 24, 25, 26, 27, 28, 29, 30, 31] hC rfl rfl rfl rfl dX8_init_146
