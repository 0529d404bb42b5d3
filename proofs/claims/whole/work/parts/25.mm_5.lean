def fX9_coins (v1 : Int32) (v2 : Int32) (z : iw_M) : Option (Int32 × iw_M) :=
  ((fX9_isHand v1 z).bind (fun q1 =>
  (if q1.1 = 0 then
  ((fX9_no (-1 : Int32) q1.2).bind (fun q4 =>
  some (q4.1, q4.2)))
  else
  (if v2 < 0 then
  ((fX9_no (-2 : Int32) q1.2).bind (fun q2 =>
  some (q2.1, q2.2)))
  else
  (if v2 ≤ (1 : Int32) then
  (if v2 = 0 then
  (if iw_ok v1 40 then
  some ((q1.2.1 3 (Int32.toNatClampNeg v1)), q1.2)
  else none)
  else
  (if iw_ok v1 40 then
  some ((q1.2.1 4 (Int32.toNatClampNeg v1)), q1.2)
  else none))
  else
  ((fX9_no (-2 : Int32) q1.2).bind (fun q3 =>
  some (q3.1, q3.2))))))))
abbrev bX9_coins : iw_B := (cX9_coins, 3, { frames := 1, cells := 0, slots := 0, locals := 21 }, yX9_coins.cls, (some .int))
set_option maxRecDepth 100000 in
set_option maxHeartbeats 4000000 in
theorem kX9_coins (G : iw_G) (v1 : Int32) (v2 : Int32) (z : iw_M) : iw_K G iw_wM yX9_coins cX9_coins 3 (some .int) 1 21 iw_ei [.ref (iw_ad G 0), .int v1, .int v2] z (fX9_coins v1 v2 z) := by
  refine iw_of [(0, .ref (iw_ad G 0)), (1, .int v1), (2, .int v2)] (by decide +kernel) (Nat.le_of_ble_eq_true rfl) rfl ?_
  intro X hC
  unfold fX9_coins
  refine V_aln hC dX9_coins_0 0 rfl ?_
  refine V_iln hC dX9_coins_1 1 rfl ?_
  refine V_cvi [] hC cv_X9_132 (by decide) rfl rfl (kX9_isHand G _ _) rfl rfl (Nat.le_of_ble_eq_true rfl) ⟨by decide, by decide⟩ dX9_coins_2 ?_
  intro q1
  refine V_ine 14 hC dX9_coins_5 (by decide) ?_ ?_
  · refine V_iln hC dX9_coins_14 2 rfl ?_
    refine V_ilt 23 hC dX9_coins_15 (by decide) ?_ ?_
    · refine V_aln hC dX9_coins_23 0 rfl ?_
      refine V_bip (x := -2) hC dX9_coins_24 (by decide) ?_
      refine V_cvi [] hC cv_X9_128 (by decide) rfl rfl (kX9_no G _ _) rfl rfl (Nat.le_of_ble_eq_true rfl) ⟨by decide, by decide⟩ dX9_coins_26 ?_
      intro q2
      exact V_ir hC dX9_coins_29 rfl
    · refine V_iln hC dX9_coins_18 2 rfl ?_
      refine V_ic (x := 1) hC dX9_coins_19 (by decide) ?_
      refine V_cle 30 hC dX9_coins_20 (by decide) ?_ ?_
      · refine V_iln hC dX9_coins_30 2 rfl ?_
        refine V_ine 43 hC dX9_coins_31 (by decide) ?_ ?_
        · refine V_aln hC dX9_coins_43 0 rfl ?_
          refine V_gr hC fl_X9_32 (by decide) rfl rfl dX9_coins_44 ?_
          refine V_iln hC dX9_coins_47 1 rfl ?_
          refine V_ia hC (by decide) rfl dX9_coins_48 ?_
          exact V_ir hC dX9_coins_49 rfl
        · refine V_aln hC dX9_coins_34 0 rfl ?_
          refine V_gr hC fl_X9_29 (by decide) rfl rfl dX9_coins_35 ?_
          refine V_iln hC dX9_coins_38 1 rfl ?_
          refine V_ia hC (by decide) rfl dX9_coins_39 ?_
          refine V_goto 49 hC dX9_coins_40 (by decide) ?_
          exact V_ir hC dX9_coins_49 rfl
      · refine V_aln hC dX9_coins_23 0 rfl ?_
        refine V_bip (x := -2) hC dX9_coins_24 (by decide) ?_
        refine V_cvi [] hC cv_X9_128 (by decide) rfl rfl (kX9_no G _ _) rfl rfl (Nat.le_of_ble_eq_true rfl) ⟨by decide, by decide⟩ dX9_coins_26 ?_
        intro q3
        exact V_ir hC dX9_coins_29 rfl
  · refine V_aln hC dX9_coins_8 0 rfl ?_
    refine V_ic (x := -1) hC dX9_coins_9 (by decide) ?_
    refine V_cvi [] hC cv_X9_128 (by decide) rfl rfl (kX9_no G _ _) rfl rfl (Nat.le_of_ble_eq_true rfl) ⟨by decide, by decide⟩ dX9_coins_10 ?_
    intro q4
    exact V_ir hC dX9_coins_13 rfl
def fX9_ideaOf (v1 : Int32) (v2 : Int32) (z : iw_M) : Option (Int32 × iw_M) :=
  ((fX9_isIdea v1 z).bind (fun q1 =>
  (if q1.1 = 0 then
  ((fX9_no (-1 : Int32) q1.2).bind (fun q3 =>
  some (q3.1, q3.2)))
  else
  (iw_sw v2 0 [(if iw_ok v1 40 then
  some ((q1.2.1 12 (Int32.toNatClampNeg v1)), q1.2)
  else none),
  (if iw_ok v1 40 then
  some ((q1.2.1 11 (Int32.toNatClampNeg v1)), q1.2)
  else none),
  (if iw_ok v1 40 then
  some ((q1.2.1 13 (Int32.toNatClampNeg v1)), q1.2)
  else none),
  (if iw_ok v1 40 then
  some ((q1.2.1 14 (Int32.toNatClampNeg v1)), q1.2)
  else none),
  (if iw_ok v1 40 then
  some ((q1.2.1 10 (Int32.toNatClampNeg v1)), q1.2)
  else none),
  (if iw_ok v1 40 then
  some ((q1.2.1 9 (Int32.toNatClampNeg v1)), q1.2)
  else none)]
  (((fX9_no (-2 : Int32) q1.2).bind (fun q2 =>
  some (q2.1, q2.2))))))))
abbrev bX9_ideaOf : iw_B := (cX9_ideaOf, 3, { frames := 1, cells := 0, slots := 0, locals := 21 }, yX9_ideaOf.cls, (some .int))
set_option maxRecDepth 100000 in
set_option maxHeartbeats 4000000 in
theorem kX9_ideaOf (G : iw_G) (v1 : Int32) (v2 : Int32) (z : iw_M) : iw_K G iw_wM yX9_ideaOf cX9_ideaOf 3 (some .int) 1 21 iw_ei [.ref (iw_ad G 0), .int v1, .int v2] z (fX9_ideaOf v1 v2 z) := by
  refine iw_of [(0, .ref (iw_ad G 0)), (1, .int v1), (2, .int v2)] (by decide +kernel) (Nat.le_of_ble_eq_true rfl) rfl ?_
  intro X hC
  unfold fX9_ideaOf
  refine V_aln hC dX9_ideaOf_0 0 rfl ?_
  refine V_iln hC dX9_ideaOf_1 1 rfl ?_
  refine V_cvi [] hC cv_X9_141 (by decide) rfl rfl (kX9_isIdea G _ _) rfl rfl (Nat.le_of_ble_eq_true rfl) ⟨by decide, by decide⟩ dX9_ideaOf_2 ?_
  intro q1
  refine V_ine 14 hC dX9_ideaOf_5 (by decide) ?_ ?_
  · refine V_iln hC dX9_ideaOf_14 2 rfl ?_
    refine V_ts [52, 59, 66, 73, 80, 87] 94 hC dX9_ideaOf_15 ⟨by decide, by decide⟩ (by decide) (by decide) ?_ (iw_sA_c ?_ (iw_sA_c ?_ (iw_sA_c ?_ (iw_sA_c ?_ (iw_sA_c ?_ (iw_sA_c ?_ iw_sA_n))))))
    · refine V_aln hC dX9_ideaOf_94 0 rfl ?_
      refine V_bip (x := -2) hC dX9_ideaOf_95 (by decide) ?_
      refine V_cvi [] hC cv_X9_128 (by decide) rfl rfl (kX9_no G _ _) rfl rfl (Nat.le_of_ble_eq_true rfl) ⟨by decide, by decide⟩ dX9_ideaOf_97 ?_
      intro q2
      exact V_ir hC dX9_ideaOf_100 rfl
    · refine V_aln hC dX9_ideaOf_52 0 rfl ?_
      refine V_gr hC fl_X9_57 (by decide) rfl rfl dX9_ideaOf_53 ?_
      refine V_iln hC dX9_ideaOf_56 1 rfl ?_
      refine V_ia hC (by decide) rfl dX9_ideaOf_57 ?_
      exact V_ir hC dX9_ideaOf_58 rfl
    · refine V_aln hC dX9_ideaOf_59 0 rfl ?_
      refine V_gr hC fl_X9_54 (by decide) rfl rfl dX9_ideaOf_60 ?_
      refine V_iln hC dX9_ideaOf_63 1 rfl ?_
      refine V_ia hC (by decide) rfl dX9_ideaOf_64 ?_
      exact V_ir hC dX9_ideaOf_65 rfl
    · refine V_aln hC dX9_ideaOf_66 0 rfl ?_
      refine V_gr hC fl_X9_60 (by decide) rfl rfl dX9_ideaOf_67 ?_
      refine V_iln hC dX9_ideaOf_70 1 rfl ?_
      refine V_ia hC (by decide) rfl dX9_ideaOf_71 ?_
      exact V_ir hC dX9_ideaOf_72 rfl
    · refine V_aln hC dX9_ideaOf_73 0 rfl ?_
      refine V_gr hC fl_X9_63 (by decide) rfl rfl dX9_ideaOf_74 ?_
      refine V_iln hC dX9_ideaOf_77 1 rfl ?_
      refine V_ia hC (by decide) rfl dX9_ideaOf_78 ?_
      exact V_ir hC dX9_ideaOf_79 rfl
    · refine V_aln hC dX9_ideaOf_80 0 rfl ?_
      refine V_gr hC fl_X9_51 (by decide) rfl rfl dX9_ideaOf_81 ?_
      refine V_iln hC dX9_ideaOf_84 1 rfl ?_
      refine V_ia hC (by decide) rfl dX9_ideaOf_85 ?_
      exact V_ir hC dX9_ideaOf_86 rfl
    · refine V_aln hC dX9_ideaOf_87 0 rfl ?_
      refine V_gr hC fl_X9_48 (by decide) rfl rfl dX9_ideaOf_88 ?_
      refine V_iln hC dX9_ideaOf_91 1 rfl ?_
      refine V_ia hC (by decide) rfl dX9_ideaOf_92 ?_
      exact V_ir hC dX9_ideaOf_93 rfl
  · refine V_aln hC dX9_ideaOf_8 0 rfl ?_
    refine V_ic (x := -1) hC dX9_ideaOf_9 (by decide) ?_
    refine V_cvi [] hC cv_X9_128 (by decide) rfl rfl (kX9_no G _ _) rfl rfl (Nat.le_of_ble_eq_true rfl) ⟨by decide, by decide⟩ dX9_ideaOf_10 ?_
    intro q3
    exact V_ir hC dX9_ideaOf_13 rfl
def fX9_count_L97 (K : Int32 → Int32 → iw_M → Option (Int32 × iw_M)) : Nat → Int32 → Int32 → iw_M → Option (Int32 × iw_M)
  | 0, _, _, _ => none
  | n + 1, v2, v3, z => (if (z.1 0 2) ≤ v3 then
  K v2 v3 z
  else
  (if iw_ok v3 40 then
  (if (z.1 12 (Int32.toNatClampNeg v3)) = (1 : Int32) then
  fX9_count_L97 K n (v2 + (1 : Int32)) (v3 + (1 : Int32)) z
  else
  fX9_count_L97 K n v2 (v3 + (1 : Int32)) z)
  else none))
def fX9_count_L128 (K : Int32 → Int32 → iw_M → Option (Int32 × iw_M)) : Nat → Int32 → Int32 → iw_M → Option (Int32 × iw_M)
  | 0, _, _, _ => none
  | n + 1, v2, v3, z => (if (z.1 0 2) ≤ v3 then
  K v2 v3 z
  else
  (if iw_ok v3 40 then
  (if (z.1 12 (Int32.toNatClampNeg v3)) = (2 : Int32) then
  fX9_count_L128 K n (v2 + (1 : Int32)) (v3 + (1 : Int32)) z
  else
  fX9_count_L128 K n v2 (v3 + (1 : Int32)) z)
  else none))
def fX9_count_L167 (K : Int32 → Int32 → iw_M → Option (Int32 × iw_M)) : Nat → Int32 → Int32 → iw_M → Option (Int32 × iw_M)
  | 0, _, _, _ => none
  | n + 1, v2, v3, z => (if (z.1 0 2) ≤ v3 then
  K v2 v3 z
  else
  (if iw_ok v3 40 then
  (if (z.1 31 (Int32.toNatClampNeg v3)) = v3 then
  fX9_count_L167 K n (v2 + (1 : Int32)) (v3 + (1 : Int32)) z
  else
  fX9_count_L167 K n v2 (v3 + (1 : Int32)) z)
  else none))
def fX9_count_J22 (v1 : Int32) (z : iw_M) : Option (Int32 × iw_M) :=
  (iw_sw v1 0 [some ((z.1 0 0), z),
  some ((z.1 0 1), z),
  some ((z.1 0 2), z),
  fX9_count_L97  (fun x2_1 x3_1 z_1 => some (x2_1, z_1)) iw_fu (0 : Int32) (0 : Int32) z,
  fX9_count_L128  (fun x2_2 x3_2 z_2 => some (x2_2, z_2)) iw_fu (0 : Int32) (0 : Int32) z,
  ((fX9_families (z.1 0 6) z).bind (fun q3 =>
  fX9_count_L167  (fun x2_4 x3_4 z_4 => some (x2_4, z_4)) iw_fu (0 : Int32) (0 : Int32) q3.2)),
  some ((z.1 0 3), z),
  some ((z.1 0 4), z),
  some ((z.1 0 5), z),
  some (((z.1 0 10) + (z.1 0 11)), z)]
  (some ((-9 : Int32), z)))
def fX9_count (v1 : Int32) (z : iw_M) : Option (Int32 × iw_M) :=
  (if v1 ≤ (10 : Int32) then
  fX9_count_J22 v1  z
  else
  (if (17 : Int32) ≤ v1 then
  fX9_count_J22 v1  z
  else
  (if iw_ok (v1 - (10 : Int32)) 7 then
  some ((z.1 30 (Int32.toNatClampNeg (v1 - (10 : Int32)))), z)
  else none)))
abbrev bX9_count : iw_B := (cX9_count, 4, { frames := 3, cells := 0, slots := 0, locals := 68 }, yX9_count.cls, (some .int))
set_option maxRecDepth 100000 in
set_option maxHeartbeats 4000000 in
theorem vX9_count_L97 {G : iw_G} {X : iw_X} (hC : iw_C G iw_wM X bX9_count) (K : Int32 → Int32 → iw_M → Option (Int32 × iw_M)) (hK : ∀ (v2 : Int32) (v3 : Int32) (z : iw_M), iw_V G iw_wM X bX9_count iw_ei 124 [(0, .ref (iw_ad G 0)), (2, .int v2), (3, .int v3)] [] z (K v2 v3 z)) : ∀ (n : Nat) (v2 : Int32) (v3 : Int32) (z : iw_M), iw_V G iw_wM X bX9_count iw_ei 97 [(0, .ref (iw_ad G 0)), (2, .int v2), (3, .int v3)] [] z (fX9_count_L97 K n v2 v3 z) := by
  intro n
  induction n with
  | zero =>
    intro v2 v3 z
    exact V_none
  | succ n ih =>
    intro v2 v3 z
    simp only [fX9_count_L97]
    refine V_iln hC dX9_count_97 2 rfl ?_
    refine V_aln hC dX9_count_98 0 rfl ?_
    refine V_gi hC fl_X9_120 (by decide) rfl rfl dX9_count_99 ?_
    refine V_cge 124 hC dX9_count_102 (by decide) ?_ ?_
    · exact hK _ _ _
    · refine V_aln hC dX9_count_105 0 rfl ?_
      refine V_gr hC fl_X9_57 (by decide) rfl rfl dX9_count_106 ?_
      refine V_iln hC dX9_count_109 2 rfl ?_
      refine V_ia hC (by decide) rfl dX9_count_110 ?_
      refine V_ic (x := 1) hC dX9_count_111 (by decide) ?_
      refine V_cne 118 hC dX9_count_112 (by decide) ?_ ?_
      · refine V_inc (k := 2) (y := 1) [(3, .int _), (0, .ref _), (2, .int _)] hC dX9_count_118 rfl (by decide) (by decide) rfl ?_
        refine V_goto 97 hC dX9_count_121 (by decide) ?_
        refine V_sub [(0, .ref _), (2, .int _), (3, .int _)] [1, 2, 0] rfl ?_
        exact ih _ _ _
      · refine V_inc (k := 1) (y := 1) [(2, .int _), (0, .ref _), (3, .int _)] hC dX9_count_115 rfl (by decide) (by decide) rfl ?_
        refine V_inc (k := 2) (y := 1) [(3, .int _), (2, .int _), (0, .ref _)] hC dX9_count_118 rfl (by decide) (by decide) rfl ?_
        refine V_goto 97 hC dX9_count_121 (by decide) ?_
        refine V_sub [(0, .ref _), (2, .int _), (3, .int _)] [2, 1, 0] rfl ?_
        exact ih _ _ _
set_option maxRecDepth 100000 in
set_option maxHeartbeats 4000000 in
theorem vX9_count_L128 {G : iw_G} {X : iw_X} (hC : iw_C G iw_wM X bX9_count) (K : Int32 → Int32 → iw_M → Option (Int32 × iw_M)) (hK : ∀ (v2 : Int32) (v3 : Int32) (z : iw_M), iw_V G iw_wM X bX9_count iw_ei 155 [(0, .ref (iw_ad G 0)), (2, .int v2), (3, .int v3)] [] z (K v2 v3 z)) : ∀ (n : Nat) (v2 : Int32) (v3 : Int32) (z : iw_M), iw_V G iw_wM X bX9_count iw_ei 128 [(0, .ref (iw_ad G 0)), (2, .int v2), (3, .int v3)] [] z (fX9_count_L128 K n v2 v3 z) := by
  intro n
  induction n with
  | zero =>
    intro v2 v3 z
    exact V_none
  | succ n ih =>
    intro v2 v3 z
    simp only [fX9_count_L128]
    refine V_iln hC dX9_count_128 2 rfl ?_
    refine V_aln hC dX9_count_129 0 rfl ?_
    refine V_gi hC fl_X9_120 (by decide) rfl rfl dX9_count_130 ?_
    refine V_cge 155 hC dX9_count_133 (by decide) ?_ ?_
    · exact hK _ _ _
    · refine V_aln hC dX9_count_136 0 rfl ?_
      refine V_gr hC fl_X9_57 (by decide) rfl rfl dX9_count_137 ?_
      refine V_iln hC dX9_count_140 2 rfl ?_
      refine V_ia hC (by decide) rfl dX9_count_141 ?_
      refine V_ic (x := 2) hC dX9_count_142 (by decide) ?_
      refine V_cne 149 hC dX9_count_143 (by decide) ?_ ?_
      · refine V_inc (k := 2) (y := 1) [(3, .int _), (0, .ref _), (2, .int _)] hC dX9_count_149 rfl (by decide) (by decide) rfl ?_
        refine V_goto 128 hC dX9_count_152 (by decide) ?_
        refine V_sub [(0, .ref _), (2, .int _), (3, .int _)] [1, 2, 0] rfl ?_
        exact ih _ _ _
      · refine V_inc (k := 1) (y := 1) [(2, .int _), (0, .ref _), (3, .int _)] hC dX9_count_146 rfl (by decide) (by decide) rfl ?_
        refine V_inc (k := 2) (y := 1) [(3, .int _), (2, .int _), (0, .ref _)] hC dX9_count_149 rfl (by decide) (by decide) rfl ?_
        refine V_goto 128 hC dX9_count_152 (by decide) ?_
        refine V_sub [(0, .ref _), (2, .int _), (3, .int _)] [2, 1, 0] rfl ?_
        exact ih _ _ _
set_option maxRecDepth 100000 in
set_option maxHeartbeats 4000000 in
theorem vX9_count_L167 {G : iw_G} {X : iw_X} (hC : iw_C G iw_wM X bX9_count) (K : Int32 → Int32 → iw_M → Option (Int32 × iw_M)) (hK : ∀ (v2 : Int32) (v3 : Int32) (z : iw_M), iw_V G iw_wM X bX9_count iw_ei 194 [(0, .ref (iw_ad G 0)), (2, .int v2), (3, .int v3)] [] z (K v2 v3 z)) : ∀ (n : Nat) (v2 : Int32) (v3 : Int32) (z : iw_M), iw_V G iw_wM X bX9_count iw_ei 167 [(0, .ref (iw_ad G 0)), (2, .int v2), (3, .int v3)] [] z (fX9_count_L167 K n v2 v3 z) := by
  intro n
  induction n with
  | zero =>
    intro v2 v3 z
    exact V_none
  | succ n ih =>
    intro v2 v3 z
    simp only [fX9_count_L167]
    refine V_iln hC dX9_count_167 2 rfl ?_
    refine V_aln hC dX9_count_168 0 rfl ?_
    refine V_gi hC fl_X9_120 (by decide) rfl rfl dX9_count_169 ?_
    refine V_cge 194 hC dX9_count_172 (by decide) ?_ ?_
    · exact hK _ _ _
    · refine V_aln hC dX9_count_175 0 rfl ?_
      refine V_gr hC fl_X9_114 (by decide) rfl rfl dX9_count_176 ?_
      refine V_iln hC dX9_count_179 2 rfl ?_
      refine V_ia hC (by decide) rfl dX9_count_180 ?_
      refine V_iln hC dX9_count_181 2 rfl ?_
      refine V_cne 188 hC dX9_count_182 (by decide) ?_ ?_
      · refine V_inc (k := 2) (y := 1) [(3, .int _), (0, .ref _), (2, .int _)] hC dX9_count_188 rfl (by decide) (by decide) rfl ?_
        refine V_goto 167 hC dX9_count_191 (by decide) ?_
        refine V_sub [(0, .ref _), (2, .int _), (3, .int _)] [1, 2, 0] rfl ?_
        exact ih _ _ _
      · refine V_inc (k := 1) (y := 1) [(2, .int _), (0, .ref _), (3, .int _)] hC dX9_count_185 rfl (by decide) (by decide) rfl ?_
        refine V_inc (k := 2) (y := 1) [(3, .int _), (2, .int _), (0, .ref _)] hC dX9_count_188 rfl (by decide) (by decide) rfl ?_
        refine V_goto 167 hC dX9_count_191 (by decide) ?_
        refine V_sub [(0, .ref _), (2, .int _), (3, .int _)] [2, 1, 0] rfl ?_
        exact ih _ _ _
set_option maxRecDepth 100000 in
set_option maxHeartbeats 4000000 in
theorem vX9_count_J22 {G : iw_G} {X : iw_X} (hC : iw_C G iw_wM X bX9_count) (v1 : Int32) (z : iw_M) : iw_V G iw_wM X bX9_count iw_ei 22 [(0, .ref (iw_ad G 0)), (1, .int v1)] [] z (fX9_count_J22 v1 z) := by
  unfold fX9_count_J22
  refine V_ic (x := 0) hC dX9_count_22 (by decide) ?_
  refine V_isn [(2, .int _), (0, .ref _), (1, .int _)] hC dX9_count_23 (by decide) rfl ?_
  refine V_iln hC dX9_count_24 2 rfl ?_
  refine V_ts [80, 85, 90, 95, 126, 157, 196, 201, 206, 211] 221 hC dX9_count_25 ⟨by decide, by decide⟩ (by decide) (by decide) ?_ (iw_sA_c ?_ (iw_sA_c ?_ (iw_sA_c ?_ (iw_sA_c ?_ (iw_sA_c ?_ (iw_sA_c ?_ (iw_sA_c ?_ (iw_sA_c ?_ (iw_sA_c ?_ (iw_sA_c ?_ iw_sA_n))))))))))
  · refine V_bip (x := -9) hC dX9_count_221 (by decide) ?_
    exact V_ir hC dX9_count_223 rfl
  · refine V_aln hC dX9_count_80 1 rfl ?_
    refine V_gi hC fl_X9_138 (by decide) rfl rfl dX9_count_81 ?_
    exact V_ir hC dX9_count_84 rfl
  · refine V_aln hC dX9_count_85 1 rfl ?_
    refine V_gi hC fl_X9_117 (by decide) rfl rfl dX9_count_86 ?_
    exact V_ir hC dX9_count_89 rfl
  · refine V_aln hC dX9_count_90 1 rfl ?_
    refine V_gi hC fl_X9_120 (by decide) rfl rfl dX9_count_91 ?_
    exact V_ir hC dX9_count_94 rfl
  · refine V_ic (x := 0) hC dX9_count_95 (by decide) ?_
    refine V_isn [(3, .int _), (2, .int _), (0, .ref _), (1, .int _)] hC dX9_count_96 (by decide) rfl ?_
    refine V_sub [(0, .ref _), (2, .int _), (3, .int _)] [2, 1, 0] rfl ?_
    refine vX9_count_L97 hC  _ ?_ _ _ _ _
    intro x2_1 x3_1 z_1
    refine V_iln hC dX9_count_124 1 rfl ?_
    exact V_ir hC dX9_count_125 rfl
  · refine V_ic (x := 0) hC dX9_count_126 (by decide) ?_
    refine V_isn [(3, .int _), (2, .int _), (0, .ref _), (1, .int _)] hC dX9_count_127 (by decide) rfl ?_
    refine V_sub [(0, .ref _), (2, .int _), (3, .int _)] [2, 1, 0] rfl ?_
    refine vX9_count_L128 hC  _ ?_ _ _ _ _
    intro x2_2 x3_2 z_2
    refine V_iln hC dX9_count_155 1 rfl ?_
    exact V_ir hC dX9_count_156 rfl
  · refine V_aln hC dX9_count_157 1 rfl ?_
    refine V_aln hC dX9_count_158 1 rfl ?_
    refine V_gi hC fl_X9_7 (by decide) rfl rfl dX9_count_159 ?_
    refine V_cvv [] hC cv_X9_155 (by decide) rfl rfl (kX9_families G _ _) rfl rfl (Nat.le_of_ble_eq_true rfl) ⟨by decide, by decide⟩ dX9_count_162 ?_
    intro q3
    refine V_ic (x := 0) hC dX9_count_165 (by decide) ?_
    refine V_isn [(3, .int _), (2, .int _), (0, .ref _), (1, .int _)] hC dX9_count_166 (by decide) rfl ?_
    refine V_sub [(0, .ref _), (2, .int _), (3, .int _)] [2, 1, 0] rfl ?_
    refine vX9_count_L167 hC  _ ?_ _ _ _ _
    intro x2_4 x3_4 z_4
    refine V_iln hC dX9_count_194 1 rfl ?_
    exact V_ir hC dX9_count_195 rfl
  · refine V_aln hC dX9_count_196 1 rfl ?_
    refine V_gi hC fl_X9_187 (by decide) rfl rfl dX9_count_197 ?_
    exact V_ir hC dX9_count_200 rfl
  · refine V_aln hC dX9_count_201 1 rfl ?_
    refine V_gi hC fl_X9_198 (by decide) rfl rfl dX9_count_202 ?_
    exact V_ir hC dX9_count_205 rfl
  · refine V_aln hC dX9_count_206 1 rfl ?_
    refine V_gi hC fl_X9_213 (by decide) rfl rfl dX9_count_207 ?_
    exact V_ir hC dX9_count_210 rfl
  · refine V_aln hC dX9_count_211 1 rfl ?_
    refine V_gi hC fl_X9_207 (by decide) rfl rfl dX9_count_212 ?_
    refine V_aln hC dX9_count_215 1 rfl ?_
    refine V_gi hC fl_X9_175 (by decide) rfl rfl dX9_count_216 ?_
    refine V_iadd hC dX9_count_219 ?_
    exact V_ir hC dX9_count_220 rfl
set_option maxRecDepth 100000 in
set_option maxHeartbeats 4000000 in
theorem kX9_count (G : iw_G) (v1 : Int32) (z : iw_M) : iw_K G iw_wM yX9_count cX9_count 4 (some .int) 3 68 iw_ei [.ref (iw_ad G 0), .int v1] z (fX9_count v1 z) := by
  refine iw_of [(0, .ref (iw_ad G 0)), (1, .int v1)] (by decide +kernel) (Nat.le_of_ble_eq_true rfl) rfl ?_
  intro X hC
  unfold fX9_count
  refine V_iln hC dX9_count_0 1 rfl ?_
  refine V_bip (x := 10) hC dX9_count_1 (by decide) ?_
  refine V_cle 22 hC dX9_count_3 (by decide) ?_ ?_
  · exact vX9_count_J22 hC _  _
  · refine V_iln hC dX9_count_6 1 rfl ?_
    refine V_bip (x := 17) hC dX9_count_7 (by decide) ?_
    refine V_cge 22 hC dX9_count_9 (by decide) ?_ ?_
    · exact vX9_count_J22 hC _  _
    · refine V_aln hC dX9_count_12 0 rfl ?_
      refine V_gr hC fl_X9_111 (by decide) rfl rfl dX9_count_13 ?_
      refine V_iln hC dX9_count_16 1 rfl ?_
      refine V_bip (x := 10) hC dX9_count_17 (by decide) ?_
      refine V_isub hC dX9_count_19 ?_
      refine V_ia hC (by decide) rfl dX9_count_20 ?_
      exact V_ir hC dX9_count_21 rfl
