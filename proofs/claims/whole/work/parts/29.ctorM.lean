set_option maxRecDepth 100000 in
set_option maxHeartbeats 8000000 in
theorem kIX9 (l : Launch) (D : va_G) (cy : FieldType → ClassId) (h0 : Nat) : iw_KI l D cy yX9_init cX9_init 2 1 12 31 3447 (fun _ => True) [.ref h0] [(h0, .inr (9, [.int 0, .int 0, .int 0, .int 0, .int 0, .int 0, .int 0, .int 0, .int 0, .int 0, .int 0, .int 0, .null, .null, .null, .null, .null, .null, .null, .null, .null, .null, .null, .null, .null, .null, .null, .null, .null, .null, .null, .null, .null, .null, .null, .null, .null, .null, .null, .null, .null, .null, .null]))] (fun u => iw_wld (l, D, cy, iw_adf h0 u) iw_wM iw_zM) := by
  refine iw_ofU [(0, .ref h0)] (by decide +kernel) rfl (Nat.le_of_ble_eq_true rfl) rfl ?_
  intro X A hC hin hN
  refine U_aln hC dX9_init_0 0 rfl ?_
  refine U_obj hC oi_X9 oi_i oi_c ⟨by decide, Nat.le_of_ble_eq_true rfl⟩ dX9_init_1 ?_
  refine U_aln hC dX9_init_4 0 rfl ?_
  refine U_ic (x := 4) hC dX9_init_5 (by decide) ?_
  refine U_pI (k := 6) (q0 := 0) (ty := .int) tyX9 hC iw_u9 tyX9_ok nmX9 rfl rfl (by decide) lk_X9_7 rfl (by decide +kernel) rfl rfl (Nat.le_of_ble_eq_true rfl) dX9_init_6 ?_
  refine U_nm [(_, .inr (_, [_, _, _, _, _, _, _, _, _, _, _, _, _, _, _, _, _, _, _, _, _, _, _, _, _, _, _, _, _, _, _, _, _, _, _, _, _, _, _, _, _, _, _]))] rfl ?_
  refine U_aln hC dX9_init_9 0 rfl ?_
  refine U_sip (x := 600) hC dX9_init_10 (by decide) ?_
  refine U_pI (k := 7) (q0 := 0) (ty := .int) tyX9 hC iw_u9 tyX9_ok nmX9 rfl rfl (by decide) lk_X9_13 rfl (by decide +kernel) rfl rfl (Nat.le_of_ble_eq_true rfl) dX9_init_13 ?_
  refine U_nm [(_, .inr (_, [_, _, _, _, _, _, _, _, _, _, _, _, _, _, _, _, _, _, _, _, _, _, _, _, _, _, _, _, _, _, _, _, _, _, _, _, _, _, _, _, _, _, _]))] rfl ?_
  refine U_aln hC dX9_init_16 0 rfl ?_
  refine U_bip (x := 30) hC dX9_init_17 (by decide) ?_
  refine U_pI (k := 8) (q0 := 0) (ty := .int) tyX9 hC iw_u9 tyX9_ok nmX9 rfl rfl (by decide) lk_X9_16 rfl (by decide +kernel) rfl rfl (Nat.le_of_ble_eq_true rfl) dX9_init_19 ?_
  refine U_nm [(_, .inr (_, [_, _, _, _, _, _, _, _, _, _, _, _, _, _, _, _, _, _, _, _, _, _, _, _, _, _, _, _, _, _, _, _, _, _, _, _, _, _, _, _, _, _, _]))] rfl ?_
  refine U_aln hC dX9_init_22 0 rfl ?_
  refine U_ic (x := 1) hC dX9_init_23 (by decide) ?_
  refine U_pI (k := 9) (q0 := 0) (ty := .int) tyX9 hC iw_u9 tyX9_ok nmX9 rfl rfl (by decide) lk_X9_19 rfl (by decide +kernel) rfl rfl (Nat.le_of_ble_eq_true rfl) dX9_init_24 ?_
  refine U_nm [(_, .inr (_, [_, _, _, _, _, _, _, _, _, _, _, _, _, _, _, _, _, _, _, _, _, _, _, _, _, _, _, _, _, _, _, _, _, _, _, _, _, _, _, _, _, _, _]))] rfl ?_
  refine U_aln hC dX9_init_27 0 rfl ?_
  refine U_bip (x := 40) hC dX9_init_28 (by decide) ?_
  refine U_newa (N := 40) (a0 := (40, .inl (fun _ => 0))) 0 hC ac_int rfl rfl (aq_int _) (fun _ => rfl) (by decide) (by decide) (by decide) (by decide) (by decide) dX9_init_30 ?_
  intro q30
  refine U_nm [_, _] rfl ?_
  refine U_pF (k := 12) (q0 := 0) (ty := .array .int) tyX9 hC hin iw_u9 tyX9_ok nmX9 rfl rfl (by decide) lk_X9_22 rfl rfl (by decide +kernel) rfl rfl (Nat.le_of_ble_eq_true rfl) dX9_init_32 ?_
  refine U_nm [(_, .inr (_, [_, _, _, _, _, _, _, _, _, _, _, _, _, _, _, _, _, _, _, _, _, _, _, _, _, _, _, _, _, _, _, _, _, _, _, _, _, _, _, _, _, _, _])), _] rfl ?_
  refine U_aln hC dX9_init_35 0 rfl ?_
  refine U_bip (x := 40) hC dX9_init_36 (by decide) ?_
  refine U_newa (N := 40) (a0 := (40, .inl (fun _ => 0))) 0 hC ac_int rfl rfl (aq_int _) (fun _ => rfl) (by decide) (by decide) (by decide) (by decide) (by decide) dX9_init_38 ?_
  intro q38
  refine U_nm [_, _, _] rfl ?_
  refine U_pF (k := 13) (q0 := 0) (ty := .array .int) tyX9 hC hin iw_u9 tyX9_ok nmX9 rfl rfl (by decide) lk_X9_26 rfl rfl (by decide +kernel) rfl rfl (Nat.le_of_ble_eq_true rfl) dX9_init_40 ?_
  refine U_nm [(_, .inr (_, [_, _, _, _, _, _, _, _, _, _, _, _, _, _, _, _, _, _, _, _, _, _, _, _, _, _, _, _, _, _, _, _, _, _, _, _, _, _, _, _, _, _, _])), _, _] rfl ?_
  refine U_aln hC dX9_init_43 0 rfl ?_
  refine U_bip (x := 40) hC dX9_init_44 (by decide) ?_
  refine U_newa (N := 40) (a0 := (40, .inl (fun _ => 0))) 0 hC ac_int rfl rfl (aq_int _) (fun _ => rfl) (by decide) (by decide) (by decide) (by decide) (by decide) dX9_init_46 ?_
  intro q46
  refine U_nm [_, _, _, _] rfl ?_
  refine U_pF (k := 14) (q0 := 0) (ty := .array .int) tyX9 hC hin iw_u9 tyX9_ok nmX9 rfl rfl (by decide) lk_X9_29 rfl rfl (by decide +kernel) rfl rfl (Nat.le_of_ble_eq_true rfl) dX9_init_48 ?_
  refine U_nm [(_, .inr (_, [_, _, _, _, _, _, _, _, _, _, _, _, _, _, _, _, _, _, _, _, _, _, _, _, _, _, _, _, _, _, _, _, _, _, _, _, _, _, _, _, _, _, _])), _, _, _] rfl ?_
  refine U_aln hC dX9_init_51 0 rfl ?_
  refine U_bip (x := 40) hC dX9_init_52 (by decide) ?_
  refine U_newa (N := 40) (a0 := (40, .inl (fun _ => 0))) 0 hC ac_int rfl rfl (aq_int _) (fun _ => rfl) (by decide) (by decide) (by decide) (by decide) (by decide) dX9_init_54 ?_
  intro q54
  refine U_nm [_, _, _, _, _] rfl ?_
  refine U_pF (k := 15) (q0 := 0) (ty := .array .int) tyX9 hC hin iw_u9 tyX9_ok nmX9 rfl rfl (by decide) lk_X9_32 rfl rfl (by decide +kernel) rfl rfl (Nat.le_of_ble_eq_true rfl) dX9_init_56 ?_
  refine U_nm [(_, .inr (_, [_, _, _, _, _, _, _, _, _, _, _, _, _, _, _, _, _, _, _, _, _, _, _, _, _, _, _, _, _, _, _, _, _, _, _, _, _, _, _, _, _, _, _])), _, _, _, _] rfl ?_
  refine U_aln hC dX9_init_59 0 rfl ?_
  refine U_bip (x := 40) hC dX9_init_60 (by decide) ?_
  refine U_newa (N := 40) (a0 := (40, .inl (fun _ => 0))) 1 hC ac_boolean rfl rfl (aq_boolean _) (fun _ => rfl) (by decide) (by decide) (by decide) (by decide) (by decide) dX9_init_62 ?_
  intro q62
  refine U_nm [_, _, _, _, _, _] rfl ?_
  refine U_pF (k := 16) (q0 := 0) (ty := .array .boolean) tyX9 hC hin iw_u9 tyX9_ok nmX9 rfl rfl (by decide) lk_X9_35 rfl rfl (by decide +kernel) rfl rfl (Nat.le_of_ble_eq_true rfl) dX9_init_64 ?_
  refine U_nm [(_, .inr (_, [_, _, _, _, _, _, _, _, _, _, _, _, _, _, _, _, _, _, _, _, _, _, _, _, _, _, _, _, _, _, _, _, _, _, _, _, _, _, _, _, _, _, _])), _, _, _, _, _] rfl ?_
  refine U_aln hC dX9_init_67 0 rfl ?_
  refine U_sip (x := 1600) hC dX9_init_68 (by decide) ?_
  refine U_newa (N := 1600) (a0 := (1600, .inl (fun _ => 0))) 1 hC ac_boolean rfl rfl (aq_boolean _) (fun _ => rfl) (by decide) (by decide) (by decide) (by decide) (by decide) dX9_init_71 ?_
  intro q71
  refine U_nm [_, _, _, _, _, _, _] rfl ?_
  refine U_pF (k := 17) (q0 := 0) (ty := .array .boolean) tyX9 hC hin iw_u9 tyX9_ok nmX9 rfl rfl (by decide) lk_X9_39 rfl rfl (by decide +kernel) rfl rfl (Nat.le_of_ble_eq_true rfl) dX9_init_73 ?_
  refine U_nm [(_, .inr (_, [_, _, _, _, _, _, _, _, _, _, _, _, _, _, _, _, _, _, _, _, _, _, _, _, _, _, _, _, _, _, _, _, _, _, _, _, _, _, _, _, _, _, _])), _, _, _, _, _, _] rfl ?_
  refine U_aln hC dX9_init_76 0 rfl ?_
  refine U_bip (x := 40) hC dX9_init_77 (by decide) ?_
  refine U_newa (N := 40) (a0 := (40, .inl (fun _ => 0))) 0 hC ac_int rfl rfl (aq_int _) (fun _ => rfl) (by decide) (by decide) (by decide) (by decide) (by decide) dX9_init_79 ?_
  intro q79
  refine U_nm [_, _, _, _, _, _, _, _] rfl ?_
  refine U_pF (k := 18) (q0 := 0) (ty := .array .int) tyX9 hC hin iw_u9 tyX9_ok nmX9 rfl rfl (by decide) lk_X9_42 rfl rfl (by decide +kernel) rfl rfl (Nat.le_of_ble_eq_true rfl) dX9_init_81 ?_
  refine U_nm [(_, .inr (_, [_, _, _, _, _, _, _, _, _, _, _, _, _, _, _, _, _, _, _, _, _, _, _, _, _, _, _, _, _, _, _, _, _, _, _, _, _, _, _, _, _, _, _])), _, _, _, _, _, _, _] rfl ?_
  refine U_aln hC dX9_init_84 0 rfl ?_
  refine U_bip (x := 40) hC dX9_init_85 (by decide) ?_
  refine U_newa (N := 40) (a0 := (40, .inl (fun _ => 0))) 0 hC ac_int rfl rfl (aq_int _) (fun _ => rfl) (by decide) (by decide) (by decide) (by decide) (by decide) dX9_init_87 ?_
  intro q87
  refine U_nm [_, _, _, _, _, _, _, _, _] rfl ?_
  refine U_pF (k := 19) (q0 := 0) (ty := .array .int) tyX9 hC hin iw_u9 tyX9_ok nmX9 rfl rfl (by decide) lk_X9_45 rfl rfl (by decide +kernel) rfl rfl (Nat.le_of_ble_eq_true rfl) dX9_init_89 ?_
  refine U_nm [(_, .inr (_, [_, _, _, _, _, _, _, _, _, _, _, _, _, _, _, _, _, _, _, _, _, _, _, _, _, _, _, _, _, _, _, _, _, _, _, _, _, _, _, _, _, _, _])), _, _, _, _, _, _, _, _] rfl ?_
  refine U_aln hC dX9_init_92 0 rfl ?_
  refine U_bip (x := 40) hC dX9_init_93 (by decide) ?_
  refine U_newa (N := 40) (a0 := (40, .inl (fun _ => 0))) 0 hC ac_int rfl rfl (aq_int _) (fun _ => rfl) (by decide) (by decide) (by decide) (by decide) (by decide) dX9_init_95 ?_
  intro q95
  refine U_nm [_, _, _, _, _, _, _, _, _, _] rfl ?_
  refine U_pF (k := 20) (q0 := 0) (ty := .array .int) tyX9 hC hin iw_u9 tyX9_ok nmX9 rfl rfl (by decide) lk_X9_48 rfl rfl (by decide +kernel) rfl rfl (Nat.le_of_ble_eq_true rfl) dX9_init_97 ?_
  refine U_nm [(_, .inr (_, [_, _, _, _, _, _, _, _, _, _, _, _, _, _, _, _, _, _, _, _, _, _, _, _, _, _, _, _, _, _, _, _, _, _, _, _, _, _, _, _, _, _, _])), _, _, _, _, _, _, _, _, _] rfl ?_
  refine U_aln hC dX9_init_100 0 rfl ?_
  refine U_bip (x := 40) hC dX9_init_101 (by decide) ?_
  refine U_newa (N := 40) (a0 := (40, .inl (fun _ => 0))) 0 hC ac_int rfl rfl (aq_int _) (fun _ => rfl) (by decide) (by decide) (by decide) (by decide) (by decide) dX9_init_103 ?_
  intro q103
  refine U_nm [_, _, _, _, _, _, _, _, _, _, _] rfl ?_
  refine U_pF (k := 21) (q0 := 0) (ty := .array .int) tyX9 hC hin iw_u9 tyX9_ok nmX9 rfl rfl (by decide) lk_X9_51 rfl rfl (by decide +kernel) rfl rfl (Nat.le_of_ble_eq_true rfl) dX9_init_105 ?_
  refine U_nm [(_, .inr (_, [_, _, _, _, _, _, _, _, _, _, _, _, _, _, _, _, _, _, _, _, _, _, _, _, _, _, _, _, _, _, _, _, _, _, _, _, _, _, _, _, _, _, _])), _, _, _, _, _, _, _, _, _, _] rfl ?_
  refine U_aln hC dX9_init_108 0 rfl ?_
  refine U_bip (x := 40) hC dX9_init_109 (by decide) ?_
  refine U_newa (N := 40) (a0 := (40, .inl (fun _ => 0))) 0 hC ac_int rfl rfl (aq_int _) (fun _ => rfl) (by decide) (by decide) (by decide) (by decide) (by decide) dX9_init_111 ?_
  intro q111
  refine U_nm [_, _, _, _, _, _, _, _, _, _, _, _] rfl ?_
  refine U_pF (k := 22) (q0 := 0) (ty := .array .int) tyX9 hC hin iw_u9 tyX9_ok nmX9 rfl rfl (by decide) lk_X9_54 rfl rfl (by decide +kernel) rfl rfl (Nat.le_of_ble_eq_true rfl) dX9_init_113 ?_
  refine U_nm [(_, .inr (_, [_, _, _, _, _, _, _, _, _, _, _, _, _, _, _, _, _, _, _, _, _, _, _, _, _, _, _, _, _, _, _, _, _, _, _, _, _, _, _, _, _, _, _])), _, _, _, _, _, _, _, _, _, _, _] rfl ?_
  refine U_aln hC dX9_init_116 0 rfl ?_
  refine U_bip (x := 40) hC dX9_init_117 (by decide) ?_
  refine U_newa (N := 40) (a0 := (40, .inl (fun _ => 0))) 0 hC ac_int rfl rfl (aq_int _) (fun _ => rfl) (by decide) (by decide) (by decide) (by decide) (by decide) dX9_init_119 ?_
  intro q119
  refine U_nm [_, _, _, _, _, _, _, _, _, _, _, _, _] rfl ?_
  refine U_pF (k := 23) (q0 := 0) (ty := .array .int) tyX9 hC hin iw_u9 tyX9_ok nmX9 rfl rfl (by decide) lk_X9_57 rfl rfl (by decide +kernel) rfl rfl (Nat.le_of_ble_eq_true rfl) dX9_init_121 ?_
  refine U_nm [(_, .inr (_, [_, _, _, _, _, _, _, _, _, _, _, _, _, _, _, _, _, _, _, _, _, _, _, _, _, _, _, _, _, _, _, _, _, _, _, _, _, _, _, _, _, _, _])), _, _, _, _, _, _, _, _, _, _, _, _] rfl ?_
  refine U_aln hC dX9_init_124 0 rfl ?_
  refine U_bip (x := 40) hC dX9_init_125 (by decide) ?_
  refine U_newa (N := 40) (a0 := (40, .inl (fun _ => 0))) 0 hC ac_int rfl rfl (aq_int _) (fun _ => rfl) (by decide) (by decide) (by decide) (by decide) (by decide) dX9_init_127 ?_
  intro q127
  refine U_nm [_, _, _, _, _, _, _, _, _, _, _, _, _, _] rfl ?_
  refine U_pF (k := 24) (q0 := 0) (ty := .array .int) tyX9 hC hin iw_u9 tyX9_ok nmX9 rfl rfl (by decide) lk_X9_60 rfl rfl (by decide +kernel) rfl rfl (Nat.le_of_ble_eq_true rfl) dX9_init_129 ?_
  refine U_nm [(_, .inr (_, [_, _, _, _, _, _, _, _, _, _, _, _, _, _, _, _, _, _, _, _, _, _, _, _, _, _, _, _, _, _, _, _, _, _, _, _, _, _, _, _, _, _, _])), _, _, _, _, _, _, _, _, _, _, _, _, _] rfl ?_
  refine U_aln hC dX9_init_132 0 rfl ?_
  refine U_bip (x := 40) hC dX9_init_133 (by decide) ?_
  refine U_newa (N := 40) (a0 := (40, .inl (fun _ => 0))) 0 hC ac_int rfl rfl (aq_int _) (fun _ => rfl) (by decide) (by decide) (by decide) (by decide) (by decide) dX9_init_135 ?_
  intro q135
  refine U_nm [_, _, _, _, _, _, _, _, _, _, _, _, _, _, _] rfl ?_
  refine U_pF (k := 25) (q0 := 0) (ty := .array .int) tyX9 hC hin iw_u9 tyX9_ok nmX9 rfl rfl (by decide) lk_X9_63 rfl rfl (by decide +kernel) rfl rfl (Nat.le_of_ble_eq_true rfl) dX9_init_137 ?_
  refine U_nm [(_, .inr (_, [_, _, _, _, _, _, _, _, _, _, _, _, _, _, _, _, _, _, _, _, _, _, _, _, _, _, _, _, _, _, _, _, _, _, _, _, _, _, _, _, _, _, _])), _, _, _, _, _, _, _, _, _, _, _, _, _, _] rfl ?_
  refine U_aln hC dX9_init_140 0 rfl ?_
  refine U_bip (x := 40) hC dX9_init_141 (by decide) ?_
  refine U_newa (N := 40) (a0 := (40, .inl (fun _ => 0))) 0 hC ac_int rfl rfl (aq_int _) (fun _ => rfl) (by decide) (by decide) (by decide) (by decide) (by decide) dX9_init_143 ?_
  intro q143
  refine U_nm [_, _, _, _, _, _, _, _, _, _, _, _, _, _, _, _] rfl ?_
  refine U_pF (k := 26) (q0 := 0) (ty := .array .int) tyX9 hC hin iw_u9 tyX9_ok nmX9 rfl rfl (by decide) lk_X9_66 rfl rfl (by decide +kernel) rfl rfl (Nat.le_of_ble_eq_true rfl) dX9_init_145 ?_
  refine U_nm [(_, .inr (_, [_, _, _, _, _, _, _, _, _, _, _, _, _, _, _, _, _, _, _, _, _, _, _, _, _, _, _, _, _, _, _, _, _, _, _, _, _, _, _, _, _, _, _])), _, _, _, _, _, _, _, _, _, _, _, _, _, _, _] rfl ?_
  refine U_aln hC dX9_init_148 0 rfl ?_
  refine U_bip (x := 40) hC dX9_init_149 (by decide) ?_
  refine U_newa (N := 40) (a0 := (40, .inl (fun _ => 0))) 0 hC ac_int rfl rfl (aq_int _) (fun _ => rfl) (by decide) (by decide) (by decide) (by decide) (by decide) dX9_init_151 ?_
  intro q151
  refine U_nm [_, _, _, _, _, _, _, _, _, _, _, _, _, _, _, _, _] rfl ?_
  refine U_pF (k := 27) (q0 := 0) (ty := .array .int) tyX9 hC hin iw_u9 tyX9_ok nmX9 rfl rfl (by decide) lk_X9_69 rfl rfl (by decide +kernel) rfl rfl (Nat.le_of_ble_eq_true rfl) dX9_init_153 ?_
  refine U_nm [(_, .inr (_, [_, _, _, _, _, _, _, _, _, _, _, _, _, _, _, _, _, _, _, _, _, _, _, _, _, _, _, _, _, _, _, _, _, _, _, _, _, _, _, _, _, _, _])), _, _, _, _, _, _, _, _, _, _, _, _, _, _, _, _] rfl ?_
  refine U_aln hC dX9_init_156 0 rfl ?_
  refine U_sip (x := 240) hC dX9_init_157 (by decide) ?_
  refine U_newa (N := 240) (a0 := (240, .inl (fun _ => 0))) 0 hC ac_int rfl rfl (aq_int _) (fun _ => rfl) (by decide) (by decide) (by decide) (by decide) (by decide) dX9_init_160 ?_
  intro q160
  refine U_nm [_, _, _, _, _, _, _, _, _, _, _, _, _, _, _, _, _, _] rfl ?_
  refine U_pF (k := 28) (q0 := 0) (ty := .array .int) tyX9 hC hin iw_u9 tyX9_ok nmX9 rfl rfl (by decide) lk_X9_72 rfl rfl (by decide +kernel) rfl rfl (Nat.le_of_ble_eq_true rfl) dX9_init_162 ?_
  refine U_nm [(_, .inr (_, [_, _, _, _, _, _, _, _, _, _, _, _, _, _, _, _, _, _, _, _, _, _, _, _, _, _, _, _, _, _, _, _, _, _, _, _, _, _, _, _, _, _, _])), _, _, _, _, _, _, _, _, _, _, _, _, _, _, _, _, _] rfl ?_
  refine U_aln hC dX9_init_165 0 rfl ?_
  refine U_bip (x := 40) hC dX9_init_166 (by decide) ?_
  refine U_newa (N := 40) (a0 := (40, .inl (fun _ => 0))) 1 hC ac_boolean rfl rfl (aq_boolean _) (fun _ => rfl) (by decide) (by decide) (by decide) (by decide) (by decide) dX9_init_168 ?_
  intro q168
  refine U_nm [_, _, _, _, _, _, _, _, _, _, _, _, _, _, _, _, _, _, _] rfl ?_
  refine U_pF (k := 29) (q0 := 0) (ty := .array .boolean) tyX9 hC hin iw_u9 tyX9_ok nmX9 rfl rfl (by decide) lk_X9_75 rfl rfl (by decide +kernel) rfl rfl (Nat.le_of_ble_eq_true rfl) dX9_init_170 ?_
  refine U_nm [(_, .inr (_, [_, _, _, _, _, _, _, _, _, _, _, _, _, _, _, _, _, _, _, _, _, _, _, _, _, _, _, _, _, _, _, _, _, _, _, _, _, _, _, _, _, _, _])), _, _, _, _, _, _, _, _, _, _, _, _, _, _, _, _, _, _] rfl ?_
  refine U_aln hC dX9_init_173 0 rfl ?_
  refine U_bip (x := 10) hC dX9_init_174 (by decide) ?_
  refine U_newa (N := 10) (a0 := (10, .inl (fun _ => 0))) 0 hC ac_int rfl rfl (aq_int _) (fun _ => rfl) (by decide) (by decide) (by decide) (by decide) (by decide) dX9_init_176 ?_
  intro q176
  refine U_nm [_, _, _, _, _, _, _, _, _, _, _, _, _, _, _, _, _, _, _, _] rfl ?_
  refine U_pF (k := 30) (q0 := 0) (ty := .array .int) tyX9 hC hin iw_u9 tyX9_ok nmX9 rfl rfl (by decide) lk_X9_78 rfl rfl (by decide +kernel) rfl rfl (Nat.le_of_ble_eq_true rfl) dX9_init_178 ?_
  refine U_nm [(_, .inr (_, [_, _, _, _, _, _, _, _, _, _, _, _, _, _, _, _, _, _, _, _, _, _, _, _, _, _, _, _, _, _, _, _, _, _, _, _, _, _, _, _, _, _, _])), _, _, _, _, _, _, _, _, _, _, _, _, _, _, _, _, _, _, _] rfl ?_
  refine U_aln hC dX9_init_181 0 rfl ?_
  refine U_bip (x := 10) hC dX9_init_182 (by decide) ?_
  refine U_newa (N := 10) (a0 := (10, .inl (fun _ => 0))) 0 hC ac_int rfl rfl (aq_int _) (fun _ => rfl) (by decide) (by decide) (by decide) (by decide) (by decide) dX9_init_184 ?_
  intro q184
  refine U_nm [_, _, _, _, _, _, _, _, _, _, _, _, _, _, _, _, _, _, _, _, _] rfl ?_
  refine U_pF (k := 31) (q0 := 0) (ty := .array .int) tyX9 hC hin iw_u9 tyX9_ok nmX9 rfl rfl (by decide) lk_X9_81 rfl rfl (by decide +kernel) rfl rfl (Nat.le_of_ble_eq_true rfl) dX9_init_186 ?_
  refine U_nm [(_, .inr (_, [_, _, _, _, _, _, _, _, _, _, _, _, _, _, _, _, _, _, _, _, _, _, _, _, _, _, _, _, _, _, _, _, _, _, _, _, _, _, _, _, _, _, _])), _, _, _, _, _, _, _, _, _, _, _, _, _, _, _, _, _, _, _, _] rfl ?_
  refine U_aln hC dX9_init_189 0 rfl ?_
  refine U_sip (x := 200) hC dX9_init_190 (by decide) ?_
  refine U_newa (N := 200) (a0 := (200, .inl (fun _ => 0))) 0 hC ac_int rfl rfl (aq_int _) (fun _ => rfl) (by decide) (by decide) (by decide) (by decide) (by decide) dX9_init_193 ?_
  intro q193
  refine U_nm [_, _, _, _, _, _, _, _, _, _, _, _, _, _, _, _, _, _, _, _, _, _] rfl ?_
  refine U_pF (k := 32) (q0 := 0) (ty := .array .int) tyX9 hC hin iw_u9 tyX9_ok nmX9 rfl rfl (by decide) lk_X9_84 rfl rfl (by decide +kernel) rfl rfl (Nat.le_of_ble_eq_true rfl) dX9_init_195 ?_
  refine U_nm [(_, .inr (_, [_, _, _, _, _, _, _, _, _, _, _, _, _, _, _, _, _, _, _, _, _, _, _, _, _, _, _, _, _, _, _, _, _, _, _, _, _, _, _, _, _, _, _])), _, _, _, _, _, _, _, _, _, _, _, _, _, _, _, _, _, _, _, _, _] rfl ?_
  refine U_aln hC dX9_init_198 0 rfl ?_
  refine U_sip (x := 200) hC dX9_init_199 (by decide) ?_
  refine U_newa (N := 200) (a0 := (200, .inl (fun _ => 0))) 0 hC ac_int rfl rfl (aq_int _) (fun _ => rfl) (by decide) (by decide) (by decide) (by decide) (by decide) dX9_init_202 ?_
  intro q202
  refine U_nm [_, _, _, _, _, _, _, _, _, _, _, _, _, _, _, _, _, _, _, _, _, _, _] rfl ?_
  refine U_pF (k := 33) (q0 := 0) (ty := .array .int) tyX9 hC hin iw_u9 tyX9_ok nmX9 rfl rfl (by decide) lk_X9_87 rfl rfl (by decide +kernel) rfl rfl (Nat.le_of_ble_eq_true rfl) dX9_init_204 ?_
  refine U_nm [(_, .inr (_, [_, _, _, _, _, _, _, _, _, _, _, _, _, _, _, _, _, _, _, _, _, _, _, _, _, _, _, _, _, _, _, _, _, _, _, _, _, _, _, _, _, _, _])), _, _, _, _, _, _, _, _, _, _, _, _, _, _, _, _, _, _, _, _, _, _] rfl ?_
  refine U_aln hC dX9_init_207 0 rfl ?_
  refine U_sip (x := 200) hC dX9_init_208 (by decide) ?_
  refine U_newa (N := 200) (a0 := (200, .inl (fun _ => 0))) 0 hC ac_int rfl rfl (aq_int _) (fun _ => rfl) (by decide) (by decide) (by decide) (by decide) (by decide) dX9_init_211 ?_
  intro q211
  refine U_nm [_, _, _, _, _, _, _, _, _, _, _, _, _, _, _, _, _, _, _, _, _, _, _, _] rfl ?_
  refine U_pF (k := 34) (q0 := 0) (ty := .array .int) tyX9 hC hin iw_u9 tyX9_ok nmX9 rfl rfl (by decide) lk_X9_90 rfl rfl (by decide +kernel) rfl rfl (Nat.le_of_ble_eq_true rfl) dX9_init_213 ?_
  refine U_nm [(_, .inr (_, [_, _, _, _, _, _, _, _, _, _, _, _, _, _, _, _, _, _, _, _, _, _, _, _, _, _, _, _, _, _, _, _, _, _, _, _, _, _, _, _, _, _, _])), _, _, _, _, _, _, _, _, _, _, _, _, _, _, _, _, _, _, _, _, _, _, _] rfl ?_
  refine U_aln hC dX9_init_216 0 rfl ?_
  refine U_sip (x := 200) hC dX9_init_217 (by decide) ?_
  refine U_newa (N := 200) (a0 := (200, .inl (fun _ => 0))) 1 hC ac_boolean rfl rfl (aq_boolean _) (fun _ => rfl) (by decide) (by decide) (by decide) (by decide) (by decide) dX9_init_220 ?_
  intro q220
  refine U_nm [_, _, _, _, _, _, _, _, _, _, _, _, _, _, _, _, _, _, _, _, _, _, _, _, _] rfl ?_
  refine U_pF (k := 35) (q0 := 0) (ty := .array .boolean) tyX9 hC hin iw_u9 tyX9_ok nmX9 rfl rfl (by decide) lk_X9_93 rfl rfl (by decide +kernel) rfl rfl (Nat.le_of_ble_eq_true rfl) dX9_init_222 ?_
  refine U_nm [(_, .inr (_, [_, _, _, _, _, _, _, _, _, _, _, _, _, _, _, _, _, _, _, _, _, _, _, _, _, _, _, _, _, _, _, _, _, _, _, _, _, _, _, _, _, _, _])), _, _, _, _, _, _, _, _, _, _, _, _, _, _, _, _, _, _, _, _, _, _, _, _] rfl ?_
  refine U_aln hC dX9_init_225 0 rfl ?_
  refine U_bip (x := 20) hC dX9_init_226 (by decide) ?_
  refine U_newa (N := 20) (a0 := (20, .inl (fun _ => 0))) 0 hC ac_int rfl rfl (aq_int _) (fun _ => rfl) (by decide) (by decide) (by decide) (by decide) (by decide) dX9_init_228 ?_
  intro q228
  refine U_nm [_, _, _, _, _, _, _, _, _, _, _, _, _, _, _, _, _, _, _, _, _, _, _, _, _, _] rfl ?_
  refine U_pF (k := 36) (q0 := 0) (ty := .array .int) tyX9 hC hin iw_u9 tyX9_ok nmX9 rfl rfl (by decide) lk_X9_96 rfl rfl (by decide +kernel) rfl rfl (Nat.le_of_ble_eq_true rfl) dX9_init_230 ?_
  refine U_nm [(_, .inr (_, [_, _, _, _, _, _, _, _, _, _, _, _, _, _, _, _, _, _, _, _, _, _, _, _, _, _, _, _, _, _, _, _, _, _, _, _, _, _, _, _, _, _, _])), _, _, _, _, _, _, _, _, _, _, _, _, _, _, _, _, _, _, _, _, _, _, _, _, _] rfl ?_
  refine U_aln hC dX9_init_233 0 rfl ?_
  refine U_bip (x := 20) hC dX9_init_234 (by decide) ?_
  refine U_newa (N := 20) (a0 := (20, .inl (fun _ => 0))) 0 hC ac_int rfl rfl (aq_int _) (fun _ => rfl) (by decide) (by decide) (by decide) (by decide) (by decide) dX9_init_236 ?_
  intro q236
  refine U_nm [_, _, _, _, _, _, _, _, _, _, _, _, _, _, _, _, _, _, _, _, _, _, _, _, _, _, _] rfl ?_
  refine U_pF (k := 37) (q0 := 0) (ty := .array .int) tyX9 hC hin iw_u9 tyX9_ok nmX9 rfl rfl (by decide) lk_X9_99 rfl rfl (by decide +kernel) rfl rfl (Nat.le_of_ble_eq_true rfl) dX9_init_238 ?_
  refine U_nm [(_, .inr (_, [_, _, _, _, _, _, _, _, _, _, _, _, _, _, _, _, _, _, _, _, _, _, _, _, _, _, _, _, _, _, _, _, _, _, _, _, _, _, _, _, _, _, _])), _, _, _, _, _, _, _, _, _, _, _, _, _, _, _, _, _, _, _, _, _, _, _, _, _, _] rfl ?_
  refine U_aln hC dX9_init_241 0 rfl ?_
  refine U_bip (x := 20) hC dX9_init_242 (by decide) ?_
  refine U_newa (N := 20) (a0 := (20, .inl (fun _ => 0))) 0 hC ac_int rfl rfl (aq_int _) (fun _ => rfl) (by decide) (by decide) (by decide) (by decide) (by decide) dX9_init_244 ?_
  intro q244
  refine U_nm [_, _, _, _, _, _, _, _, _, _, _, _, _, _, _, _, _, _, _, _, _, _, _, _, _, _, _, _] rfl ?_
  refine U_pF (k := 38) (q0 := 0) (ty := .array .int) tyX9 hC hin iw_u9 tyX9_ok nmX9 rfl rfl (by decide) lk_X9_102 rfl rfl (by decide +kernel) rfl rfl (Nat.le_of_ble_eq_true rfl) dX9_init_246 ?_
  refine U_nm [(_, .inr (_, [_, _, _, _, _, _, _, _, _, _, _, _, _, _, _, _, _, _, _, _, _, _, _, _, _, _, _, _, _, _, _, _, _, _, _, _, _, _, _, _, _, _, _])), _, _, _, _, _, _, _, _, _, _, _, _, _, _, _, _, _, _, _, _, _, _, _, _, _, _, _] rfl ?_
  refine U_aln hC dX9_init_249 0 rfl ?_
  refine U_bip (x := 20) hC dX9_init_250 (by decide) ?_
  refine U_newa (N := 20) (a0 := (20, .inl (fun _ => 0))) 0 hC ac_int rfl rfl (aq_int _) (fun _ => rfl) (by decide) (by decide) (by decide) (by decide) (by decide) dX9_init_252 ?_
  intro q252
  refine U_nm [_, _, _, _, _, _, _, _, _, _, _, _, _, _, _, _, _, _, _, _, _, _, _, _, _, _, _, _, _] rfl ?_
  refine U_pF (k := 39) (q0 := 0) (ty := .array .int) tyX9 hC hin iw_u9 tyX9_ok nmX9 rfl rfl (by decide) lk_X9_105 rfl rfl (by decide +kernel) rfl rfl (Nat.le_of_ble_eq_true rfl) dX9_init_254 ?_
  refine U_nm [(_, .inr (_, [_, _, _, _, _, _, _, _, _, _, _, _, _, _, _, _, _, _, _, _, _, _, _, _, _, _, _, _, _, _, _, _, _, _, _, _, _, _, _, _, _, _, _])), _, _, _, _, _, _, _, _, _, _, _, _, _, _, _, _, _, _, _, _, _, _, _, _, _, _, _, _] rfl ?_
  refine U_aln hC dX9_init_257 0 rfl ?_
  refine U_bip (x := 20) hC dX9_init_258 (by decide) ?_
  refine U_newa (N := 20) (a0 := (20, .inl (fun _ => 0))) 0 hC ac_int rfl rfl (aq_int _) (fun _ => rfl) (by decide) (by decide) (by decide) (by decide) (by decide) dX9_init_260 ?_
  intro q260
  refine U_nm [_, _, _, _, _, _, _, _, _, _, _, _, _, _, _, _, _, _, _, _, _, _, _, _, _, _, _, _, _, _] rfl ?_
  refine U_pF (k := 40) (q0 := 0) (ty := .array .int) tyX9 hC hin iw_u9 tyX9_ok nmX9 rfl rfl (by decide) lk_X9_108 rfl rfl (by decide +kernel) rfl rfl (Nat.le_of_ble_eq_true rfl) dX9_init_262 ?_
  refine U_nm [(_, .inr (_, [_, _, _, _, _, _, _, _, _, _, _, _, _, _, _, _, _, _, _, _, _, _, _, _, _, _, _, _, _, _, _, _, _, _, _, _, _, _, _, _, _, _, _])), _, _, _, _, _, _, _, _, _, _, _, _, _, _, _, _, _, _, _, _, _, _, _, _, _, _, _, _, _] rfl ?_
  refine U_aln hC dX9_init_265 0 rfl ?_
  refine U_bip (x := 7) hC dX9_init_266 (by decide) ?_
  refine U_newa (N := 7) (a0 := (7, .inl (fun _ => 0))) 0 hC ac_int rfl rfl (aq_int _) (fun _ => rfl) (by decide) (by decide) (by decide) (by decide) (by decide) dX9_init_268 ?_
  intro q268
  refine U_nm [_, _, _, _, _, _, _, _, _, _, _, _, _, _, _, _, _, _, _, _, _, _, _, _, _, _, _, _, _, _, _] rfl ?_
  refine U_pF (k := 41) (q0 := 0) (ty := .array .int) tyX9 hC hin iw_u9 tyX9_ok nmX9 rfl rfl (by decide) lk_X9_111 rfl rfl (by decide +kernel) rfl rfl (Nat.le_of_ble_eq_true rfl) dX9_init_270 ?_
  refine U_nm [(_, .inr (_, [_, _, _, _, _, _, _, _, _, _, _, _, _, _, _, _, _, _, _, _, _, _, _, _, _, _, _, _, _, _, _, _, _, _, _, _, _, _, _, _, _, _, _])), _, _, _, _, _, _, _, _, _, _, _, _, _, _, _, _, _, _, _, _, _, _, _, _, _, _, _, _, _, _] rfl ?_
  refine U_aln hC dX9_init_273 0 rfl ?_
  refine U_bip (x := 40) hC dX9_init_274 (by decide) ?_
  refine U_newa (N := 40) (a0 := (40, .inl (fun _ => 0))) 0 hC ac_int rfl rfl (aq_int _) (fun _ => rfl) (by decide) (by decide) (by decide) (by decide) (by decide) dX9_init_276 ?_
  intro q276
  refine U_nm [_, _, _, _, _, _, _, _, _, _, _, _, _, _, _, _, _, _, _, _, _, _, _, _, _, _, _, _, _, _, _, _] rfl ?_
  refine U_pF (k := 42) (q0 := 0) (ty := .array .int) tyX9 hC hin iw_u9 tyX9_ok nmX9 rfl rfl (by decide) lk_X9_114 rfl rfl (by decide +kernel) rfl rfl (Nat.le_of_ble_eq_true rfl) dX9_init_278 ?_
  refine U_nm [(_, .inr (_, [_, _, _, _, _, _, _, _, _, _, _, _, _, _, _, _, _, _, _, _, _, _, _, _, _, _, _, _, _, _, _, _, _, _, _, _, _, _, _, _, _, _, _])), _, _, _, _, _, _, _, _, _, _, _, _, _, _, _, _, _, _, _, _, _, _, _, _, _, _, _, _, _, _, _] rfl ?_
  refine U_ic (x := 0) hC dX9_init_281 (by decide) ?_
  refine U_isn [(1, .int _), (0, .ref _)] hC dX9_init_282 (by decide) rfl ?_
  refine U_iln hC dX9_init_283 0 rfl ?_
  refine U_bip (x := 10) hC dX9_init_284 (by decide) ?_
  refine U_cge 303 hC dX9_init_286 (by decide) (fun cc => ?_) (fun cc => ?_)
  · exact absurd cc (by decide)
  refine U_aln hC dX9_init_289 1 rfl ?_
  refine U_gr (k := 31) (q0 := 0) hC iw_u9 rfl rfl (by decide) lk_X9_81 rfl dX9_init_290 ?_
  refine U_iln hC dX9_init_293 0 rfl ?_
  refine U_bip (x := 100) hC dX9_init_294 (by decide) ?_
  refine U_ist (q0 := 20) hC rfl (iw_ok_in (by decide)) dX9_init_296 ?_
  refine U_nm [_, _, _, _, _, _, _, _, _, _, _, _, _, _, _, _, _, _, _, _, _, _, _, _, _, _, _, _, _, _, _, _] rfl ?_
  refine U_inc (k := 0) (y := 1) [(1, .int _), (0, .ref _)] hC dX9_init_297 rfl (by decide) (by decide) rfl ?_
  refine U_goto 283 hC dX9_init_300 (by decide) ?_
  refine U_iln hC dX9_init_283 0 rfl ?_
  refine U_bip (x := 10) hC dX9_init_284 (by decide) ?_
  refine U_cge 303 hC dX9_init_286 (by decide) (fun cc => ?_) (fun cc => ?_)
  · exact absurd cc (by decide)
  refine U_aln hC dX9_init_289 1 rfl ?_
  refine U_gr (k := 31) (q0 := 0) hC iw_u9 rfl rfl (by decide) lk_X9_81 rfl dX9_init_290 ?_
  refine U_iln hC dX9_init_293 0 rfl ?_
  refine U_bip (x := 100) hC dX9_init_294 (by decide) ?_
  refine U_ist (q0 := 20) hC rfl (iw_ok_in (by decide)) dX9_init_296 ?_
  refine U_nm [_, _, _, _, _, _, _, _, _, _, _, _, _, _, _, _, _, _, _, _, _, _, _, _, _, _, _, _, _, _, _, _] rfl ?_
  refine U_inc (k := 0) (y := 2) [(1, .int _), (0, .ref _)] hC dX9_init_297 rfl (by decide) (by decide) rfl ?_
  refine U_goto 283 hC dX9_init_300 (by decide) ?_
  refine U_iln hC dX9_init_283 0 rfl ?_
  refine U_bip (x := 10) hC dX9_init_284 (by decide) ?_
  refine U_cge 303 hC dX9_init_286 (by decide) (fun cc => ?_) (fun cc => ?_)
  · exact absurd cc (by decide)
  refine U_aln hC dX9_init_289 1 rfl ?_
  refine U_gr (k := 31) (q0 := 0) hC iw_u9 rfl rfl (by decide) lk_X9_81 rfl dX9_init_290 ?_
  refine U_iln hC dX9_init_293 0 rfl ?_
  refine U_bip (x := 100) hC dX9_init_294 (by decide) ?_
  refine U_ist (q0 := 20) hC rfl (iw_ok_in (by decide)) dX9_init_296 ?_
  refine U_nm [_, _, _, _, _, _, _, _, _, _, _, _, _, _, _, _, _, _, _, _, _, _, _, _, _, _, _, _, _, _, _, _] rfl ?_
  refine U_inc (k := 0) (y := 3) [(1, .int _), (0, .ref _)] hC dX9_init_297 rfl (by decide) (by decide) rfl ?_
  refine U_goto 283 hC dX9_init_300 (by decide) ?_
  refine U_iln hC dX9_init_283 0 rfl ?_
  refine U_bip (x := 10) hC dX9_init_284 (by decide) ?_
  refine U_cge 303 hC dX9_init_286 (by decide) (fun cc => ?_) (fun cc => ?_)
  · exact absurd cc (by decide)
  refine U_aln hC dX9_init_289 1 rfl ?_
  refine U_gr (k := 31) (q0 := 0) hC iw_u9 rfl rfl (by decide) lk_X9_81 rfl dX9_init_290 ?_
  refine U_iln hC dX9_init_293 0 rfl ?_
  refine U_bip (x := 100) hC dX9_init_294 (by decide) ?_
  refine U_ist (q0 := 20) hC rfl (iw_ok_in (by decide)) dX9_init_296 ?_
  refine U_nm [_, _, _, _, _, _, _, _, _, _, _, _, _, _, _, _, _, _, _, _, _, _, _, _, _, _, _, _, _, _, _, _] rfl ?_
  refine U_inc (k := 0) (y := 4) [(1, .int _), (0, .ref _)] hC dX9_init_297 rfl (by decide) (by decide) rfl ?_
  refine U_goto 283 hC dX9_init_300 (by decide) ?_
  refine U_iln hC dX9_init_283 0 rfl ?_
  refine U_bip (x := 10) hC dX9_init_284 (by decide) ?_
  refine U_cge 303 hC dX9_init_286 (by decide) (fun cc => ?_) (fun cc => ?_)
  · exact absurd cc (by decide)
  refine U_aln hC dX9_init_289 1 rfl ?_
  refine U_gr (k := 31) (q0 := 0) hC iw_u9 rfl rfl (by decide) lk_X9_81 rfl dX9_init_290 ?_
  refine U_iln hC dX9_init_293 0 rfl ?_
  refine U_bip (x := 100) hC dX9_init_294 (by decide) ?_
  refine U_ist (q0 := 20) hC rfl (iw_ok_in (by decide)) dX9_init_296 ?_
  refine U_nm [_, _, _, _, _, _, _, _, _, _, _, _, _, _, _, _, _, _, _, _, _, _, _, _, _, _, _, _, _, _, _, _] rfl ?_
  refine U_inc (k := 0) (y := 5) [(1, .int _), (0, .ref _)] hC dX9_init_297 rfl (by decide) (by decide) rfl ?_
  refine U_goto 283 hC dX9_init_300 (by decide) ?_
  refine U_iln hC dX9_init_283 0 rfl ?_
  refine U_bip (x := 10) hC dX9_init_284 (by decide) ?_
  refine U_cge 303 hC dX9_init_286 (by decide) (fun cc => ?_) (fun cc => ?_)
  · exact absurd cc (by decide)
  refine U_aln hC dX9_init_289 1 rfl ?_
  refine U_gr (k := 31) (q0 := 0) hC iw_u9 rfl rfl (by decide) lk_X9_81 rfl dX9_init_290 ?_
  refine U_iln hC dX9_init_293 0 rfl ?_
  refine U_bip (x := 100) hC dX9_init_294 (by decide) ?_
  refine U_ist (q0 := 20) hC rfl (iw_ok_in (by decide)) dX9_init_296 ?_
  refine U_nm [_, _, _, _, _, _, _, _, _, _, _, _, _, _, _, _, _, _, _, _, _, _, _, _, _, _, _, _, _, _, _, _] rfl ?_
  refine U_inc (k := 0) (y := 6) [(1, .int _), (0, .ref _)] hC dX9_init_297 rfl (by decide) (by decide) rfl ?_
  refine U_goto 283 hC dX9_init_300 (by decide) ?_
  refine U_iln hC dX9_init_283 0 rfl ?_
  refine U_bip (x := 10) hC dX9_init_284 (by decide) ?_
  refine U_cge 303 hC dX9_init_286 (by decide) (fun cc => ?_) (fun cc => ?_)
  · exact absurd cc (by decide)
  refine U_aln hC dX9_init_289 1 rfl ?_
  refine U_gr (k := 31) (q0 := 0) hC iw_u9 rfl rfl (by decide) lk_X9_81 rfl dX9_init_290 ?_
  refine U_iln hC dX9_init_293 0 rfl ?_
  refine U_bip (x := 100) hC dX9_init_294 (by decide) ?_
  refine U_ist (q0 := 20) hC rfl (iw_ok_in (by decide)) dX9_init_296 ?_
  refine U_nm [_, _, _, _, _, _, _, _, _, _, _, _, _, _, _, _, _, _, _, _, _, _, _, _, _, _, _, _, _, _, _, _] rfl ?_
  refine U_inc (k := 0) (y := 7) [(1, .int _), (0, .ref _)] hC dX9_init_297 rfl (by decide) (by decide) rfl ?_
  refine U_goto 283 hC dX9_init_300 (by decide) ?_
  refine U_iln hC dX9_init_283 0 rfl ?_
  refine U_bip (x := 10) hC dX9_init_284 (by decide) ?_
  refine U_cge 303 hC dX9_init_286 (by decide) (fun cc => ?_) (fun cc => ?_)
  · exact absurd cc (by decide)
  refine U_aln hC dX9_init_289 1 rfl ?_
  refine U_gr (k := 31) (q0 := 0) hC iw_u9 rfl rfl (by decide) lk_X9_81 rfl dX9_init_290 ?_
  refine U_iln hC dX9_init_293 0 rfl ?_
  refine U_bip (x := 100) hC dX9_init_294 (by decide) ?_
  refine U_ist (q0 := 20) hC rfl (iw_ok_in (by decide)) dX9_init_296 ?_
  refine U_nm [_, _, _, _, _, _, _, _, _, _, _, _, _, _, _, _, _, _, _, _, _, _, _, _, _, _, _, _, _, _, _, _] rfl ?_
  refine U_inc (k := 0) (y := 8) [(1, .int _), (0, .ref _)] hC dX9_init_297 rfl (by decide) (by decide) rfl ?_
  refine U_goto 283 hC dX9_init_300 (by decide) ?_
  refine U_iln hC dX9_init_283 0 rfl ?_
  refine U_bip (x := 10) hC dX9_init_284 (by decide) ?_
  refine U_cge 303 hC dX9_init_286 (by decide) (fun cc => ?_) (fun cc => ?_)
  · exact absurd cc (by decide)
  refine U_aln hC dX9_init_289 1 rfl ?_
  refine U_gr (k := 31) (q0 := 0) hC iw_u9 rfl rfl (by decide) lk_X9_81 rfl dX9_init_290 ?_
  refine U_iln hC dX9_init_293 0 rfl ?_
  refine U_bip (x := 100) hC dX9_init_294 (by decide) ?_
  refine U_ist (q0 := 20) hC rfl (iw_ok_in (by decide)) dX9_init_296 ?_
  refine U_nm [_, _, _, _, _, _, _, _, _, _, _, _, _, _, _, _, _, _, _, _, _, _, _, _, _, _, _, _, _, _, _, _] rfl ?_
  refine U_inc (k := 0) (y := 9) [(1, .int _), (0, .ref _)] hC dX9_init_297 rfl (by decide) (by decide) rfl ?_
  refine U_goto 283 hC dX9_init_300 (by decide) ?_
  refine U_iln hC dX9_init_283 0 rfl ?_
  refine U_bip (x := 10) hC dX9_init_284 (by decide) ?_
  refine U_cge 303 hC dX9_init_286 (by decide) (fun cc => ?_) (fun cc => ?_)
  · exact absurd cc (by decide)
  refine U_aln hC dX9_init_289 1 rfl ?_
  refine U_gr (k := 31) (q0 := 0) hC iw_u9 rfl rfl (by decide) lk_X9_81 rfl dX9_init_290 ?_
  refine U_iln hC dX9_init_293 0 rfl ?_
  refine U_bip (x := 100) hC dX9_init_294 (by decide) ?_
  refine U_ist (q0 := 20) hC rfl (iw_ok_in (by decide)) dX9_init_296 ?_
  refine U_nm [_, _, _, _, _, _, _, _, _, _, _, _, _, _, _, _, _, _, _, _, _, _, _, _, _, _, _, _, _, _, _, _] rfl ?_
  refine U_inc (k := 0) (y := 10) [(1, .int _), (0, .ref _)] hC dX9_init_297 rfl (by decide) (by decide) rfl ?_
  refine U_goto 283 hC dX9_init_300 (by decide) ?_
  refine U_iln hC dX9_init_283 0 rfl ?_
  refine U_bip (x := 10) hC dX9_init_284 (by decide) ?_
  refine U_cge 303 hC dX9_init_286 (by decide) (fun cc => ?_) (fun cc => ?_)
  rotate_left
  · exact absurd (by decide) cc
  exact U_ret (fun k => [q30, q38, q46, q54, q62, q71, q79, q87, q95, q103, q111, q119, q127, q135, q143, q151, q160, q168, q176, q184, q193, q202, q211, q220, q228, q236, q244, q252, q260, q268, q276].getD k 0) [0, 1, 2, 3, 4, 5, 6, 7, 8, 9, 10, 11, 12, 13, 14, 15, 16, 17, 18, 19, 20, 21, 22, 23, 24, 25, 26, 27, 28, 29, 30, 31] hC rfl rfl rfl rfl dX9_init_303
