def fX9_like (v1 : Int32) (v2 : Int32) (z : iw_M) : Option (Int32 × iw_M) :=
  ((fX9_isIdea v1 z).bind (fun q1 =>
  (if q1.1 = 0 then
  ((fX9_no (-1 : Int32) q1.2).bind (fun q2 =>
  some (q2.1, q2.2)))
  else
  ((fX9_isIdea v2 q1.2).bind (fun q3 =>
  (if q3.1 = 0 then
  ((fX9_no (-1 : Int32) q3.2).bind (fun q4 =>
  some (q4.1, q4.2)))
  else
  (if iw_ok v1 40 then
  (if iw_ok v2 40 then
  ((fX9_likeness (q3.2.1 9 (Int32.toNatClampNeg v1)) (q3.2.1 9 (Int32.toNatClampNeg v2)) q3.2).bind (fun q5 =>
  some (((1000 : Int32) + q5.1), q5.2)))
  else none)
  else none)))))))
abbrev bX9_like : iw_B := (cX9_like, 3, { frames := 2, cells := 0, slots := 0, locals := 43 }, yX9_like.cls, (some .int))
set_option maxRecDepth 100000 in
set_option maxHeartbeats 4000000 in
theorem kX9_like (G : iw_G) (v1 : Int32) (v2 : Int32) (z : iw_M) : iw_K G iw_wM yX9_like cX9_like 3 (some .int) 2 43 iw_ei [.ref (iw_ad G 0), .int v1, .int v2] z (fX9_like v1 v2 z) := by
  refine iw_of [(0, .ref (iw_ad G 0)), (1, .int v1), (2, .int v2)] (by decide +kernel) (Nat.le_of_ble_eq_true rfl) rfl ?_
  intro X hC
  unfold fX9_like
  refine V_aln hC dX9_like_0 0 rfl ?_
  refine V_iln hC dX9_like_1 1 rfl ?_
  refine V_cvi [] hC cv_X9_141 (by decide) rfl rfl (kX9_isIdea G _ _) rfl rfl (Nat.le_of_ble_eq_true rfl) ⟨by decide, by decide⟩ dX9_like_2 ?_
  intro q1
  refine V_ieq 38 hC dX9_like_5 (by decide) ?_ ?_
  · refine V_aln hC dX9_like_38 0 rfl ?_
    refine V_ic (x := -1) hC dX9_like_39 (by decide) ?_
    refine V_cvi [] hC cv_X9_128 (by decide) rfl rfl (kX9_no G _ _) rfl rfl (Nat.le_of_ble_eq_true rfl) ⟨by decide, by decide⟩ dX9_like_40 ?_
    intro q2
    exact V_ir hC dX9_like_43 rfl
  · refine V_aln hC dX9_like_8 0 rfl ?_
    refine V_iln hC dX9_like_9 2 rfl ?_
    refine V_cvi [] hC cv_X9_141 (by decide) rfl rfl (kX9_isIdea G _ _) rfl rfl (Nat.le_of_ble_eq_true rfl) ⟨by decide, by decide⟩ dX9_like_10 ?_
    intro q3
    refine V_ieq 38 hC dX9_like_13 (by decide) ?_ ?_
    · refine V_aln hC dX9_like_38 0 rfl ?_
      refine V_ic (x := -1) hC dX9_like_39 (by decide) ?_
      refine V_cvi [] hC cv_X9_128 (by decide) rfl rfl (kX9_no G _ _) rfl rfl (Nat.le_of_ble_eq_true rfl) ⟨by decide, by decide⟩ dX9_like_40 ?_
      intro q4
      exact V_ir hC dX9_like_43 rfl
    · refine V_sip (x := 1000) hC dX9_like_16 (by decide) ?_
      refine V_aln hC dX9_like_19 0 rfl ?_
      refine V_gr hC fl_X9_48 (by decide) rfl rfl dX9_like_20 ?_
      refine V_iln hC dX9_like_23 1 rfl ?_
      refine V_ia hC (by decide) rfl dX9_like_24 ?_
      refine V_aln hC dX9_like_25 0 rfl ?_
      refine V_gr hC fl_X9_48 (by decide) rfl rfl dX9_like_26 ?_
      refine V_iln hC dX9_like_29 2 rfl ?_
      refine V_ia hC (by decide) rfl dX9_like_30 ?_
      refine V_csi [.int _] hC cs_X9_151 (kX9_likeness G _ _ _) rfl rfl (Nat.le_of_ble_eq_true rfl) ⟨by decide, by decide⟩ dX9_like_31 ?_
      intro q5
      refine V_iadd hC dX9_like_34 ?_
      refine V_goto 43 hC dX9_like_35 (by decide) ?_
      exact V_ir hC dX9_like_43 rfl
def fX9_families_L2 (v1 : Int32) (K : Int32 → iw_M → Option (Unit × iw_M)) : Nat → Int32 → iw_M → Option (Unit × iw_M)
  | 0, _, _ => none
  | n + 1, v2, z => (if (z.1 0 2) ≤ v2 then
  K v2 z
  else
  (if iw_ok v2 40 then
  fX9_families_L2 v1 K n (v2 + (1 : Int32)) (iw_wI z 31 (Int32.toNatClampNeg v2) v2)
  else none))
def fX9_families_J137 (v1 : Int32) (v3 : Int32) (v4 : Int32) (s0 : Int32) (Rc K : Int32 → Int32 → iw_M → Option (Unit × iw_M)) (z : iw_M) : Option (Unit × iw_M) :=
  (if iw_ok v3 40 then
  (if iw_ok v4 40 then
  Rc (1 : Int32) (v4 + (1 : Int32)) (iw_wI (iw_wI z 31 (Int32.toNatClampNeg v3) s0) 31 (Int32.toNatClampNeg v4) s0)
  else none)
  else none)
def fX9_families_L44 (v1 : Int32) (v3 : Int32) (K : Int32 → Int32 → iw_M → Option (Unit × iw_M)) : Nat → Int32 → Int32 → iw_M → Option (Unit × iw_M)
  | 0, _, _, _ => none
  | n + 1, v2, v4, z => (if v3 ≤ v4 then
  K v2 v4 z
  else
  (if iw_ok v3 40 then
  (if iw_ok v4 40 then
  (if (z.1 31 (Int32.toNatClampNeg v3)) = (z.1 31 (Int32.toNatClampNeg v4)) then
  fX9_families_L44 v1 v3 K n v2 (v4 + (1 : Int32)) z
  else
  (if iw_ok v3 40 then
  (if iw_ok v4 40 then
  (if (z.1 8 (Int32.toNatClampNeg v3)) = (z.1 8 (Int32.toNatClampNeg v4)) then
  (if iw_ok v3 40 then
  (if iw_ok v4 40 then
  ((fX9_likeness (z.1 9 (Int32.toNatClampNeg v3)) (z.1 9 (Int32.toNatClampNeg v4)) z).bind (fun q2 =>
  (if v1 ≤ q2.1 then
  (if iw_ok v3 40 then
  (if iw_ok v4 40 then
  (if (q2.2.1 31 (Int32.toNatClampNeg v4)) ≤ (q2.2.1 31 (Int32.toNatClampNeg v3)) then
  (if iw_ok v4 40 then
  fX9_families_J137 v1 v3 v4 (q2.2.1 31 (Int32.toNatClampNeg v4)) (fun w2 w4 zz => fX9_families_L44 v1 v3 K n w2 w4 zz) (fun w2 w4 zz => K w2 w4 zz) q2.2
  else none)
  else
  (if iw_ok v3 40 then
  fX9_families_J137 v1 v3 v4 (q2.2.1 31 (Int32.toNatClampNeg v3)) (fun w2 w4 zz => fX9_families_L44 v1 v3 K n w2 w4 zz) (fun w2 w4 zz => K w2 w4 zz) q2.2
  else none))
  else none)
  else none)
  else
  fX9_families_L44 v1 v3 K n v2 (v4 + (1 : Int32)) q2.2)))
  else none)
  else none)
  else
  fX9_families_L44 v1 v3 K n v2 (v4 + (1 : Int32)) z)
  else none)
  else none))
  else none)
  else none))
def fX9_families_L33 (v1 : Int32) (K : Int32 → Int32 → iw_M → Option (Unit × iw_M)) : Nat → Int32 → Int32 → iw_M → Option (Unit × iw_M)
  | 0, _, _, _ => none
  | n + 1, v2, v3, z => (if (z.1 0 2) ≤ v3 then
  K v2 v3 z
  else
  fX9_families_L44 v1 v3 (fun x2_3 x4_3 z_3 => fX9_families_L33 v1 K n x2_3 (v3 + (1 : Int32)) z_3) iw_fu v2 (0 : Int32) z)
def fX9_families_L25 (v1 : Int32) (K : Int32 → iw_M → Option (Unit × iw_M)) : Nat → Int32 → iw_M → Option (Unit × iw_M)
  | 0, _, _ => none
  | n + 1, v2, z => (if v2 = 0 then
  K v2 z
  else
  fX9_families_L33 v1 (fun x2_4 x3_4 z_4 => fX9_families_L25 v1 K n x2_4 z_4) iw_fu (0 : Int32) (0 : Int32) z)
def fX9_families (v1 : Int32) (z : iw_M) : Option (Unit × iw_M) :=
  fX9_families_L2 v1 (fun x2_1 z_1 => fX9_families_L25 v1 (fun x2_5 z_5 => some ((), z_5)) iw_fu (1 : Int32) z_1) iw_fu (0 : Int32) z
abbrev bX9_families : iw_B := (cX9_families, 6, { frames := 2, cells := 0, slots := 0, locals := 43 }, yX9_families.cls, none)
set_option maxRecDepth 100000 in
set_option maxHeartbeats 4000000 in
theorem vX9_families_L2 {G : iw_G} {X : iw_X} (hC : iw_C G iw_wM X bX9_families) (v1 : Int32) (K : Int32 → iw_M → Option (Unit × iw_M)) (hK : ∀ (v2 : Int32) (z : iw_M), iw_V G iw_wM X bX9_families iw_ev 23 [(0, .ref (iw_ad G 0)), (1, .int v1), (2, .int v2)] [] z (K v2 z)) : ∀ (n : Nat) (v2 : Int32) (z : iw_M), iw_V G iw_wM X bX9_families iw_ev 2 [(0, .ref (iw_ad G 0)), (1, .int v1), (2, .int v2)] [] z (fX9_families_L2 v1 K n v2 z) := by
  intro n
  induction n with
  | zero =>
    intro v2 z
    exact V_none
  | succ n ih =>
    intro v2 z
    simp only [fX9_families_L2]
    refine V_iln hC dX9_families_2 2 rfl ?_
    refine V_aln hC dX9_families_3 0 rfl ?_
    refine V_gi hC fl_X9_120 (by decide) rfl rfl dX9_families_4 ?_
    refine V_cge 23 hC dX9_families_7 (by decide) ?_ ?_
    · exact hK _ _
    · refine V_aln hC dX9_families_10 0 rfl ?_
      refine V_gr hC fl_X9_114 (by decide) rfl rfl dX9_families_11 ?_
      refine V_iln hC dX9_families_14 2 rfl ?_
      refine V_iln hC dX9_families_15 2 rfl ?_
      refine V_is_ hC (by decide) rfl dX9_families_16 ?_
      refine V_inc (k := 2) (y := 1) [(2, .int _), (0, .ref _), (1, .int _)] hC dX9_families_17 rfl (by decide) (by decide) rfl ?_
      refine V_goto 2 hC dX9_families_20 (by decide) ?_
      refine V_sub [(0, .ref _), (1, .int _), (2, .int _)] [1, 2, 0] rfl ?_
      exact ih _ _
set_option maxRecDepth 100000 in
set_option maxHeartbeats 4000000 in
theorem vX9_families_J137 {G : iw_G} {X : iw_X} (hC : iw_C G iw_wM X bX9_families) (v1 : Int32) (v3 : Int32) (v4 : Int32) (s0 : Int32) (Rc K : Int32 → Int32 → iw_M → Option (Unit × iw_M)) (hR : ∀ (w2 : Int32) (w4 : Int32) (z : iw_M), iw_V G iw_wM X bX9_families iw_ev 44 [(0, .ref (iw_ad G 0)), (1, .int v1), (2, .int w2), (3, .int v3), (4, .int w4)] [] z (Rc w2 w4 z)) (hK : ∀ (w2 : Int32) (w4 : Int32) (z : iw_M), iw_V G iw_wM X bX9_families iw_ev 164 [(0, .ref (iw_ad G 0)), (1, .int v1), (2, .int w2), (3, .int v3), (4, .int w4)] [] z (K w2 w4 z)) (z : iw_M) : iw_V G iw_wM X bX9_families iw_ev 137 [(0, .ref (iw_ad G 0)), (1, .int v1), (3, .int v3), (4, .int v4)] [.int s0] z (fX9_families_J137 v1 v3 v4 s0 Rc K z) := by
  unfold fX9_families_J137
  refine V_is [(5, .int _), (0, .ref _), (1, .int _), (3, .int _), (4, .int _)] hC dX9_families_137 (by decide) rfl ?_
  refine V_aln hC dX9_families_139 1 rfl ?_
  refine V_gr hC fl_X9_114 (by decide) rfl rfl dX9_families_140 ?_
  refine V_iln hC dX9_families_143 3 rfl ?_
  refine V_il hC dX9_families_144 0 rfl ?_
  refine V_is_ hC (by decide) rfl dX9_families_146 ?_
  refine V_aln hC dX9_families_147 1 rfl ?_
  refine V_gr hC fl_X9_114 (by decide) rfl rfl dX9_families_148 ?_
  refine V_il hC dX9_families_151 4 rfl ?_
  refine V_il hC dX9_families_153 0 rfl ?_
  refine V_is_ hC (by decide) rfl dX9_families_155 ?_
  refine V_ic (x := 1) hC dX9_families_156 (by decide) ?_
  refine V_isn [(2, .int _), (5, .int _), (0, .ref _), (1, .int _), (3, .int _), (4, .int _)] hC dX9_families_157 (by decide) rfl ?_
  refine V_inc (k := 5) (y := 1) [(4, .int _), (2, .int _), (5, .int _), (0, .ref _), (1, .int _), (3, .int _)] hC dX9_families_158 rfl (by decide) (by decide) rfl ?_
  refine V_goto 44 hC dX9_families_161 (by decide) ?_
  refine V_sub [(0, .ref _), (1, .int _), (2, .int _), (3, .int _), (4, .int _)] [3, 4, 1, 5, 0] rfl ?_
  exact hR _ _ _
set_option maxRecDepth 100000 in
set_option maxHeartbeats 4000000 in
theorem vX9_families_L44 {G : iw_G} {X : iw_X} (hC : iw_C G iw_wM X bX9_families) (v1 : Int32) (v3 : Int32) (K : Int32 → Int32 → iw_M → Option (Unit × iw_M)) (hK : ∀ (v2 : Int32) (v4 : Int32) (z : iw_M), iw_V G iw_wM X bX9_families iw_ev 164 [(0, .ref (iw_ad G 0)), (1, .int v1), (2, .int v2), (3, .int v3), (4, .int v4)] [] z (K v2 v4 z)) : ∀ (n : Nat) (v2 : Int32) (v4 : Int32) (z : iw_M), iw_V G iw_wM X bX9_families iw_ev 44 [(0, .ref (iw_ad G 0)), (1, .int v1), (2, .int v2), (3, .int v3), (4, .int v4)] [] z (fX9_families_L44 v1 v3 K n v2 v4 z) := by
  intro n
  induction n with
  | zero =>
    intro v2 v4 z
    exact V_none
  | succ n ih =>
    intro v2 v4 z
    simp only [fX9_families_L44]
    refine V_il hC dX9_families_44 4 rfl ?_
    refine V_iln hC dX9_families_46 3 rfl ?_
    refine V_cge 164 hC dX9_families_47 (by decide) ?_ ?_
    · exact hK _ _ _
    · refine V_aln hC dX9_families_50 0 rfl ?_
      refine V_gr hC fl_X9_114 (by decide) rfl rfl dX9_families_51 ?_
      refine V_iln hC dX9_families_54 3 rfl ?_
      refine V_ia hC (by decide) rfl dX9_families_55 ?_
      refine V_aln hC dX9_families_56 0 rfl ?_
      refine V_gr hC fl_X9_114 (by decide) rfl rfl dX9_families_57 ?_
      refine V_il hC dX9_families_60 4 rfl ?_
      refine V_ia hC (by decide) rfl dX9_families_62 ?_
      refine V_ceq 158 hC dX9_families_63 (by decide) ?_ ?_
      · refine V_inc (k := 4) (y := 1) [(4, .int _), (0, .ref _), (1, .int _), (2, .int _), (3, .int _)] hC dX9_families_158 rfl (by decide) (by decide) rfl ?_
        refine V_goto 44 hC dX9_families_161 (by decide) ?_
        refine V_sub [(0, .ref _), (1, .int _), (2, .int _), (3, .int _), (4, .int _)] [1, 2, 3, 4, 0] rfl ?_
        exact ih _ _ _
      · refine V_aln hC dX9_families_66 0 rfl ?_
        refine V_gr hC fl_X9_45 (by decide) rfl rfl dX9_families_67 ?_
        refine V_iln hC dX9_families_70 3 rfl ?_
        refine V_ia hC (by decide) rfl dX9_families_71 ?_
        refine V_aln hC dX9_families_72 0 rfl ?_
        refine V_gr hC fl_X9_45 (by decide) rfl rfl dX9_families_73 ?_
        refine V_il hC dX9_families_76 4 rfl ?_
        refine V_ia hC (by decide) rfl dX9_families_78 ?_
        refine V_cne 158 hC dX9_families_79 (by decide) ?_ ?_
        · refine V_inc (k := 4) (y := 1) [(4, .int _), (0, .ref _), (1, .int _), (2, .int _), (3, .int _)] hC dX9_families_158 rfl (by decide) (by decide) rfl ?_
          refine V_goto 44 hC dX9_families_161 (by decide) ?_
          refine V_sub [(0, .ref _), (1, .int _), (2, .int _), (3, .int _), (4, .int _)] [1, 2, 3, 4, 0] rfl ?_
          exact ih _ _ _
        · refine V_aln hC dX9_families_82 0 rfl ?_
          refine V_gr hC fl_X9_48 (by decide) rfl rfl dX9_families_83 ?_
          refine V_iln hC dX9_families_86 3 rfl ?_
          refine V_ia hC (by decide) rfl dX9_families_87 ?_
          refine V_aln hC dX9_families_88 0 rfl ?_
          refine V_gr hC fl_X9_48 (by decide) rfl rfl dX9_families_89 ?_
          refine V_il hC dX9_families_92 4 rfl ?_
          refine V_ia hC (by decide) rfl dX9_families_94 ?_
          refine V_csi [] hC cs_X9_151 (kX9_likeness G _ _ _) rfl rfl (Nat.le_of_ble_eq_true rfl) ⟨by decide, by decide⟩ dX9_families_95 ?_
          intro q2
          refine V_iln hC dX9_families_98 1 rfl ?_
          refine V_cge 105 hC dX9_families_99 (by decide) ?_ ?_
          · refine V_aln hC dX9_families_105 0 rfl ?_
            refine V_gr hC fl_X9_114 (by decide) rfl rfl dX9_families_106 ?_
            refine V_iln hC dX9_families_109 3 rfl ?_
            refine V_ia hC (by decide) rfl dX9_families_110 ?_
            refine V_aln hC dX9_families_111 0 rfl ?_
            refine V_gr hC fl_X9_114 (by decide) rfl rfl dX9_families_112 ?_
            refine V_il hC dX9_families_115 4 rfl ?_
            refine V_ia hC (by decide) rfl dX9_families_117 ?_
            refine V_cge 130 hC dX9_families_118 (by decide) ?_ ?_
            · refine V_aln hC dX9_families_130 0 rfl ?_
              refine V_gr hC fl_X9_114 (by decide) rfl rfl dX9_families_131 ?_
              refine V_il hC dX9_families_134 4 rfl ?_
              refine V_ia hC (by decide) rfl dX9_families_136 ?_
              refine V_sub [(0, .ref _), (1, .int _), (3, .int _), (4, .int _)] [0, 1, 3, 4] rfl ?_
              refine vX9_families_J137 hC _ _ _ _ _ _ ih hK _
            · refine V_aln hC dX9_families_121 0 rfl ?_
              refine V_gr hC fl_X9_114 (by decide) rfl rfl dX9_families_122 ?_
              refine V_iln hC dX9_families_125 3 rfl ?_
              refine V_ia hC (by decide) rfl dX9_families_126 ?_
              refine V_goto 137 hC dX9_families_127 (by decide) ?_
              refine V_sub [(0, .ref _), (1, .int _), (3, .int _), (4, .int _)] [0, 1, 3, 4] rfl ?_
              refine vX9_families_J137 hC _ _ _ _ _ _ ih hK _
          · refine V_goto 158 hC dX9_families_102 (by decide) ?_
            refine V_inc (k := 4) (y := 1) [(4, .int _), (0, .ref _), (1, .int _), (2, .int _), (3, .int _)] hC dX9_families_158 rfl (by decide) (by decide) rfl ?_
            refine V_goto 44 hC dX9_families_161 (by decide) ?_
            refine V_sub [(0, .ref _), (1, .int _), (2, .int _), (3, .int _), (4, .int _)] [1, 2, 3, 4, 0] rfl ?_
            exact ih _ _ _
set_option maxRecDepth 100000 in
set_option maxHeartbeats 4000000 in
theorem vX9_families_L33 {G : iw_G} {X : iw_X} (hC : iw_C G iw_wM X bX9_families) (v1 : Int32) (K : Int32 → Int32 → iw_M → Option (Unit × iw_M)) (hK : ∀ (v2 : Int32) (v3 : Int32) (z : iw_M), iw_V G iw_wM X bX9_families iw_ev 170 [(0, .ref (iw_ad G 0)), (1, .int v1), (2, .int v2), (3, .int v3)] [] z (K v2 v3 z)) : ∀ (n : Nat) (v2 : Int32) (v3 : Int32) (z : iw_M), iw_V G iw_wM X bX9_families iw_ev 33 [(0, .ref (iw_ad G 0)), (1, .int v1), (2, .int v2), (3, .int v3)] [] z (fX9_families_L33 v1 K n v2 v3 z) := by
  intro n
  induction n with
  | zero =>
    intro v2 v3 z
    exact V_none
  | succ n ih =>
    intro v2 v3 z
    simp only [fX9_families_L33]
    refine V_iln hC dX9_families_33 3 rfl ?_
    refine V_aln hC dX9_families_34 0 rfl ?_
    refine V_gi hC fl_X9_120 (by decide) rfl rfl dX9_families_35 ?_
    refine V_cge 170 hC dX9_families_38 (by decide) ?_ ?_
    · exact hK _ _ _
    · refine V_ic (x := 0) hC dX9_families_41 (by decide) ?_
      refine V_is [(4, .int _), (0, .ref _), (1, .int _), (2, .int _), (3, .int _)] hC dX9_families_42 (by decide) rfl ?_
      refine V_sub [(0, .ref _), (1, .int _), (2, .int _), (3, .int _), (4, .int _)] [1, 2, 3, 4, 0] rfl ?_
      refine vX9_families_L44 hC _ _ _ ?_ _ _ _ _
      intro x2_3 x4_3 z_3
      refine V_inc (k := 3) (y := 1) [(3, .int _), (0, .ref _), (1, .int _), (2, .int _), (4, .int _)] hC dX9_families_164 rfl (by decide) (by decide) rfl ?_
      refine V_goto 33 hC dX9_families_167 (by decide) ?_
      refine V_sub [(0, .ref _), (1, .int _), (2, .int _), (3, .int _)] [1, 2, 3, 0] rfl ?_
      exact ih _ _ _
set_option maxRecDepth 100000 in
set_option maxHeartbeats 4000000 in
theorem vX9_families_L25 {G : iw_G} {X : iw_X} (hC : iw_C G iw_wM X bX9_families) (v1 : Int32) (K : Int32 → iw_M → Option (Unit × iw_M)) (hK : ∀ (v2 : Int32) (z : iw_M), iw_V G iw_wM X bX9_families iw_ev 173 [(0, .ref (iw_ad G 0)), (1, .int v1), (2, .int v2)] [] z (K v2 z)) : ∀ (n : Nat) (v2 : Int32) (z : iw_M), iw_V G iw_wM X bX9_families iw_ev 25 [(0, .ref (iw_ad G 0)), (1, .int v1), (2, .int v2)] [] z (fX9_families_L25 v1 K n v2 z) := by
  intro n
  induction n with
  | zero =>
    intro v2 z
    exact V_none
  | succ n ih =>
    intro v2 z
    simp only [fX9_families_L25]
    refine V_iln hC dX9_families_25 2 rfl ?_
    refine V_ieq 173 hC dX9_families_26 (by decide) ?_ ?_
    · exact hK _ _
    · refine V_ic (x := 0) hC dX9_families_29 (by decide) ?_
      refine V_isn [(2, .int _), (0, .ref _), (1, .int _)] hC dX9_families_30 (by decide) rfl ?_
      refine V_ic (x := 0) hC dX9_families_31 (by decide) ?_
      refine V_isn [(3, .int _), (2, .int _), (0, .ref _), (1, .int _)] hC dX9_families_32 (by decide) rfl ?_
      refine V_sub [(0, .ref _), (1, .int _), (2, .int _), (3, .int _)] [2, 3, 1, 0] rfl ?_
      refine vX9_families_L33 hC _ _ ?_ _ _ _ _
      intro x2_4 x3_4 z_4
      refine V_goto 25 hC dX9_families_170 (by decide) ?_
      refine V_sub [(0, .ref _), (1, .int _), (2, .int _)] [0, 1, 2] rfl ?_
      exact ih _ _
set_option maxRecDepth 100000 in
set_option maxHeartbeats 4000000 in
theorem kX9_families (G : iw_G) (v1 : Int32) (z : iw_M) : iw_K G iw_wM yX9_families cX9_families 6 none 2 43 iw_ev [.ref (iw_ad G 0), .int v1] z (fX9_families v1 z) := by
  refine iw_of [(0, .ref (iw_ad G 0)), (1, .int v1)] (by decide +kernel) (Nat.le_of_ble_eq_true rfl) rfl ?_
  intro X hC
  unfold fX9_families
  refine V_ic (x := 0) hC dX9_families_0 (by decide) ?_
  refine V_isn [(2, .int _), (0, .ref _), (1, .int _)] hC dX9_families_1 (by decide) rfl ?_
  refine V_sub [(0, .ref _), (1, .int _), (2, .int _)] [1, 2, 0] rfl ?_
  refine vX9_families_L2 hC _ _ ?_ _ _ _
  intro x2_1 z_1
  refine V_ic (x := 1) hC dX9_families_23 (by decide) ?_
  refine V_isn [(2, .int _), (0, .ref _), (1, .int _)] hC dX9_families_24 (by decide) rfl ?_
  refine V_sub [(0, .ref _), (1, .int _), (2, .int _)] [1, 2, 0] rfl ?_
  refine vX9_families_L25 hC _ _ ?_ _ _ _
  intro x2_5 z_5
  exact V_vr hC dX9_families_173 rfl
def fX9_family (v1 : Int32) (z : iw_M) : Option (Int32 × iw_M) :=
  ((fX9_isIdea v1 z).bind (fun q1 =>
  (if q1.1 = 0 then
  ((fX9_no (-1 : Int32) q1.2).bind (fun q3 =>
  some (q3.1, q3.2)))
  else
  ((fX9_families (q1.2.1 0 6) q1.2).bind (fun q2 =>
  (if iw_ok v1 40 then
  some ((q2.2.1 31 (Int32.toNatClampNeg v1)), q2.2)
  else none))))))
abbrev bX9_family : iw_B := (cX9_family, 2, { frames := 3, cells := 0, slots := 0, locals := 68 }, yX9_family.cls, (some .int))
set_option maxRecDepth 100000 in
set_option maxHeartbeats 4000000 in
theorem kX9_family (G : iw_G) (v1 : Int32) (z : iw_M) : iw_K G iw_wM yX9_family cX9_family 2 (some .int) 3 68 iw_ei [.ref (iw_ad G 0), .int v1] z (fX9_family v1 z) := by
  refine iw_of [(0, .ref (iw_ad G 0)), (1, .int v1)] (by decide +kernel) (Nat.le_of_ble_eq_true rfl) rfl ?_
  intro X hC
  unfold fX9_family
  refine V_aln hC dX9_family_0 0 rfl ?_
  refine V_iln hC dX9_family_1 1 rfl ?_
  refine V_cvi [] hC cv_X9_141 (by decide) rfl rfl (kX9_isIdea G _ _) rfl rfl (Nat.le_of_ble_eq_true rfl) ⟨by decide, by decide⟩ dX9_family_2 ?_
  intro q1
  refine V_ine 14 hC dX9_family_5 (by decide) ?_ ?_
  · refine V_aln hC dX9_family_14 0 rfl ?_
    refine V_aln hC dX9_family_15 0 rfl ?_
    refine V_gi hC fl_X9_7 (by decide) rfl rfl dX9_family_16 ?_
    refine V_cvv [] hC cv_X9_155 (by decide) rfl rfl (kX9_families G _ _) rfl rfl (Nat.le_of_ble_eq_true rfl) ⟨by decide, by decide⟩ dX9_family_19 ?_
    intro q2
    refine V_aln hC dX9_family_22 0 rfl ?_
    refine V_gr hC fl_X9_114 (by decide) rfl rfl dX9_family_23 ?_
    refine V_iln hC dX9_family_26 1 rfl ?_
    refine V_ia hC (by decide) rfl dX9_family_27 ?_
    exact V_ir hC dX9_family_28 rfl
  · refine V_aln hC dX9_family_8 0 rfl ?_
    refine V_ic (x := -1) hC dX9_family_9 (by decide) ?_
    refine V_cvi [] hC cv_X9_128 (by decide) rfl rfl (kX9_no G _ _) rfl rfl (Nat.le_of_ble_eq_true rfl) ⟨by decide, by decide⟩ dX9_family_10 ?_
    intro q3
    exact V_ir hC dX9_family_13 rfl
def fX9_isAhead (v1 : Int32) (v2 : Int32) (z : iw_M) : Option (Int32 × iw_M) :=
  (if iw_ok v1 40 then
  (if iw_ok v2 40 then
  (if (z.1 11 (Int32.toNatClampNeg v1)) = (z.1 11 (Int32.toNatClampNeg v2)) then
  (if iw_ok v1 40 then
  (if iw_ok v2 40 then
  (if (z.1 10 (Int32.toNatClampNeg v1)) = (z.1 10 (Int32.toNatClampNeg v2)) then
  (if v2 ≤ v1 then
  some ((0 : Int32), z)
  else
  some ((1 : Int32), z))
  else
  (if iw_ok v1 40 then
  (if iw_ok v2 40 then
  (if (z.1 10 (Int32.toNatClampNeg v1)) ≤ (z.1 10 (Int32.toNatClampNeg v2)) then
  some ((0 : Int32), z)
  else
  some ((1 : Int32), z))
  else none)
  else none))
  else none)
  else none)
  else
  (if iw_ok v1 40 then
  (if iw_ok v2 40 then
  (if (z.1 11 (Int32.toNatClampNeg v2)) ≤ (z.1 11 (Int32.toNatClampNeg v1)) then
  some ((0 : Int32), z)
  else
  some ((1 : Int32), z))
  else none)
  else none))
  else none)
  else none)
abbrev bX9_isAhead : iw_B := (cX9_isAhead, 3, { frames := 0, cells := 0, slots := 0, locals := 0 }, yX9_isAhead.cls, (some .boolean))
set_option maxRecDepth 100000 in
set_option maxHeartbeats 4000000 in
theorem kX9_isAhead (G : iw_G) (v1 : Int32) (v2 : Int32) (z : iw_M) : iw_K G iw_wM yX9_isAhead cX9_isAhead 3 (some .boolean) 0 0 iw_ei [.ref (iw_ad G 0), .int v1, .int v2] z (fX9_isAhead v1 v2 z) := by
  refine iw_of [(0, .ref (iw_ad G 0)), (1, .int v1), (2, .int v2)] (by decide +kernel) (Nat.le_of_ble_eq_true rfl) rfl ?_
  intro X hC
  unfold fX9_isAhead
  refine V_aln hC dX9_isAhead_0 0 rfl ?_
  refine V_gr hC fl_X9_54 (by decide) rfl rfl dX9_isAhead_1 ?_
  refine V_iln hC dX9_isAhead_4 1 rfl ?_
  refine V_ia hC (by decide) rfl dX9_isAhead_5 ?_
  refine V_aln hC dX9_isAhead_6 0 rfl ?_
  refine V_gr hC fl_X9_54 (by decide) rfl rfl dX9_isAhead_7 ?_
  refine V_iln hC dX9_isAhead_10 2 rfl ?_
  refine V_ia hC (by decide) rfl dX9_isAhead_11 ?_
  refine V_ceq 36 hC dX9_isAhead_12 (by decide) ?_ ?_
  · refine V_aln hC dX9_isAhead_36 0 rfl ?_
    refine V_gr hC fl_X9_51 (by decide) rfl rfl dX9_isAhead_37 ?_
    refine V_iln hC dX9_isAhead_40 1 rfl ?_
    refine V_ia hC (by decide) rfl dX9_isAhead_41 ?_
    refine V_aln hC dX9_isAhead_42 0 rfl ?_
    refine V_gr hC fl_X9_51 (by decide) rfl rfl dX9_isAhead_43 ?_
    refine V_iln hC dX9_isAhead_46 2 rfl ?_
    refine V_ia hC (by decide) rfl dX9_isAhead_47 ?_
    refine V_ceq 72 hC dX9_isAhead_48 (by decide) ?_ ?_
    · refine V_iln hC dX9_isAhead_72 1 rfl ?_
      refine V_iln hC dX9_isAhead_73 2 rfl ?_
      refine V_cge 81 hC dX9_isAhead_74 (by decide) ?_ ?_
      · refine V_ic (x := 0) hC dX9_isAhead_81 (by decide) ?_
        exact V_zr hC dX9_isAhead_82 rfl rfl
      · refine V_ic (x := 1) hC dX9_isAhead_77 (by decide) ?_
        refine V_goto 82 hC dX9_isAhead_78 (by decide) ?_
        exact V_zr hC dX9_isAhead_82 rfl rfl
    · refine V_aln hC dX9_isAhead_51 0 rfl ?_
      refine V_gr hC fl_X9_51 (by decide) rfl rfl dX9_isAhead_52 ?_
      refine V_iln hC dX9_isAhead_55 1 rfl ?_
      refine V_ia hC (by decide) rfl dX9_isAhead_56 ?_
      refine V_aln hC dX9_isAhead_57 0 rfl ?_
      refine V_gr hC fl_X9_51 (by decide) rfl rfl dX9_isAhead_58 ?_
      refine V_iln hC dX9_isAhead_61 2 rfl ?_
      refine V_ia hC (by decide) rfl dX9_isAhead_62 ?_
      refine V_cle 70 hC dX9_isAhead_63 (by decide) ?_ ?_
      · refine V_ic (x := 0) hC dX9_isAhead_70 (by decide) ?_
        exact V_zr hC dX9_isAhead_71 rfl rfl
      · refine V_ic (x := 1) hC dX9_isAhead_66 (by decide) ?_
        refine V_goto 71 hC dX9_isAhead_67 (by decide) ?_
        exact V_zr hC dX9_isAhead_71 rfl rfl
  · refine V_aln hC dX9_isAhead_15 0 rfl ?_
    refine V_gr hC fl_X9_54 (by decide) rfl rfl dX9_isAhead_16 ?_
    refine V_iln hC dX9_isAhead_19 1 rfl ?_
    refine V_ia hC (by decide) rfl dX9_isAhead_20 ?_
    refine V_aln hC dX9_isAhead_21 0 rfl ?_
    refine V_gr hC fl_X9_54 (by decide) rfl rfl dX9_isAhead_22 ?_
    refine V_iln hC dX9_isAhead_25 2 rfl ?_
    refine V_ia hC (by decide) rfl dX9_isAhead_26 ?_
    refine V_cge 34 hC dX9_isAhead_27 (by decide) ?_ ?_
    · refine V_ic (x := 0) hC dX9_isAhead_34 (by decide) ?_
      exact V_zr hC dX9_isAhead_35 rfl rfl
    · refine V_ic (x := 1) hC dX9_isAhead_30 (by decide) ?_
      refine V_goto 35 hC dX9_isAhead_31 (by decide) ?_
      exact V_zr hC dX9_isAhead_35 rfl rfl
def fX9_headOf_L5 (v1 : Int32) (K : Int32 → Int32 → iw_M → Option (Int32 × iw_M)) : Nat → Int32 → Int32 → iw_M → Option (Int32 × iw_M)
  | 0, _, _, _ => none
  | n + 1, v2, v3, z => (if (z.1 0 2) ≤ v3 then
  K v2 v3 z
  else
  (if iw_ok v3 40 then
  (if (z.1 31 (Int32.toNatClampNeg v3)) = v1 then
  (if v2 = (-9 : Int32) then
  fX9_headOf_L5 v1 K n v3 (v3 + (1 : Int32)) z
  else
  ((fX9_isAhead v3 v2 z).bind (fun q1 =>
  (if q1.1 = 0 then
  fX9_headOf_L5 v1 K n v2 (v3 + (1 : Int32)) q1.2
  else
  fX9_headOf_L5 v1 K n v3 (v3 + (1 : Int32)) q1.2))))
  else
  fX9_headOf_L5 v1 K n v2 (v3 + (1 : Int32)) z)
  else none))
def fX9_headOf (v1 : Int32) (z : iw_M) : Option (Int32 × iw_M) :=
  fX9_headOf_L5 v1 (fun x2_2 x3_2 z_2 => some (x2_2, z_2)) iw_fu (-9 : Int32) (0 : Int32) z
abbrev bX9_headOf : iw_B := (cX9_headOf, 4, { frames := 1, cells := 0, slots := 0, locals := 22 }, yX9_headOf.cls, (some .int))
set_option maxRecDepth 100000 in
set_option maxHeartbeats 4000000 in
theorem vX9_headOf_L5 {G : iw_G} {X : iw_X} (hC : iw_C G iw_wM X bX9_headOf) (v1 : Int32) (K : Int32 → Int32 → iw_M → Option (Int32 × iw_M)) (hK : ∀ (v2 : Int32) (v3 : Int32) (z : iw_M), iw_V G iw_wM X bX9_headOf iw_ei 46 [(0, .ref (iw_ad G 0)), (1, .int v1), (2, .int v2), (3, .int v3)] [] z (K v2 v3 z)) : ∀ (n : Nat) (v2 : Int32) (v3 : Int32) (z : iw_M), iw_V G iw_wM X bX9_headOf iw_ei 5 [(0, .ref (iw_ad G 0)), (1, .int v1), (2, .int v2), (3, .int v3)] [] z (fX9_headOf_L5 v1 K n v2 v3 z) := by
  intro n
  induction n with
  | zero =>
    intro v2 v3 z
    exact V_none
  | succ n ih =>
    intro v2 v3 z
    simp only [fX9_headOf_L5]
    refine V_iln hC dX9_headOf_5 3 rfl ?_
    refine V_aln hC dX9_headOf_6 0 rfl ?_
    refine V_gi hC fl_X9_120 (by decide) rfl rfl dX9_headOf_7 ?_
    refine V_cge 46 hC dX9_headOf_10 (by decide) ?_ ?_
    · exact hK _ _ _
    · refine V_aln hC dX9_headOf_13 0 rfl ?_
      refine V_gr hC fl_X9_114 (by decide) rfl rfl dX9_headOf_14 ?_
      refine V_iln hC dX9_headOf_17 3 rfl ?_
      refine V_ia hC (by decide) rfl dX9_headOf_18 ?_
      refine V_iln hC dX9_headOf_19 1 rfl ?_
      refine V_cne 40 hC dX9_headOf_20 (by decide) ?_ ?_
      · refine V_inc (k := 3) (y := 1) [(3, .int _), (0, .ref _), (1, .int _), (2, .int _)] hC dX9_headOf_40 rfl (by decide) (by decide) rfl ?_
        refine V_goto 5 hC dX9_headOf_43 (by decide) ?_
        refine V_sub [(0, .ref _), (1, .int _), (2, .int _), (3, .int _)] [1, 2, 3, 0] rfl ?_
        exact ih _ _ _
      · refine V_iln hC dX9_headOf_23 2 rfl ?_
        refine V_bip (x := -9) hC dX9_headOf_24 (by decide) ?_
        refine V_ceq 38 hC dX9_headOf_26 (by decide) ?_ ?_
        · refine V_iln hC dX9_headOf_38 3 rfl ?_
          refine V_isn [(2, .int _), (0, .ref _), (1, .int _), (3, .int _)] hC dX9_headOf_39 (by decide) rfl ?_
          refine V_inc (k := 3) (y := 1) [(3, .int _), (2, .int _), (0, .ref _), (1, .int _)] hC dX9_headOf_40 rfl (by decide) (by decide) rfl ?_
          refine V_goto 5 hC dX9_headOf_43 (by decide) ?_
          refine V_sub [(0, .ref _), (1, .int _), (2, .int _), (3, .int _)] [2, 3, 1, 0] rfl ?_
          exact ih _ _ _
        · refine V_aln hC dX9_headOf_29 0 rfl ?_
          refine V_iln hC dX9_headOf_30 3 rfl ?_
          refine V_iln hC dX9_headOf_31 2 rfl ?_
          refine V_cvi [] hC cv_X9_159 (by decide) rfl rfl (kX9_isAhead G _ _ _) rfl rfl (Nat.le_of_ble_eq_true rfl) ⟨by decide, by decide⟩ dX9_headOf_32 ?_
          intro q1
          refine V_ieq 40 hC dX9_headOf_35 (by decide) ?_ ?_
          · refine V_inc (k := 3) (y := 1) [(3, .int _), (0, .ref _), (1, .int _), (2, .int _)] hC dX9_headOf_40 rfl (by decide) (by decide) rfl ?_
            refine V_goto 5 hC dX9_headOf_43 (by decide) ?_
            refine V_sub [(0, .ref _), (1, .int _), (2, .int _), (3, .int _)] [1, 2, 3, 0] rfl ?_
            exact ih _ _ _
          · refine V_iln hC dX9_headOf_38 3 rfl ?_
            refine V_isn [(2, .int _), (0, .ref _), (1, .int _), (3, .int _)] hC dX9_headOf_39 (by decide) rfl ?_
            refine V_inc (k := 3) (y := 1) [(3, .int _), (2, .int _), (0, .ref _), (1, .int _)] hC dX9_headOf_40 rfl (by decide) (by decide) rfl ?_
            refine V_goto 5 hC dX9_headOf_43 (by decide) ?_
            refine V_sub [(0, .ref _), (1, .int _), (2, .int _), (3, .int _)] [2, 3, 1, 0] rfl ?_
            exact ih _ _ _
set_option maxRecDepth 100000 in
set_option maxHeartbeats 4000000 in
theorem kX9_headOf (G : iw_G) (v1 : Int32) (z : iw_M) : iw_K G iw_wM yX9_headOf cX9_headOf 4 (some .int) 1 22 iw_ei [.ref (iw_ad G 0), .int v1] z (fX9_headOf v1 z) := by
  refine iw_of [(0, .ref (iw_ad G 0)), (1, .int v1)] (by decide +kernel) (Nat.le_of_ble_eq_true rfl) rfl ?_
  intro X hC
  unfold fX9_headOf
  refine V_bip (x := -9) hC dX9_headOf_0 (by decide) ?_
  refine V_isn [(2, .int _), (0, .ref _), (1, .int _)] hC dX9_headOf_2 (by decide) rfl ?_
  refine V_ic (x := 0) hC dX9_headOf_3 (by decide) ?_
  refine V_isn [(3, .int _), (2, .int _), (0, .ref _), (1, .int _)] hC dX9_headOf_4 (by decide) rfl ?_
  refine V_sub [(0, .ref _), (1, .int _), (2, .int _), (3, .int _)] [2, 3, 1, 0] rfl ?_
  refine vX9_headOf_L5 hC _ _ ?_ _ _ _ _
  intro x2_2 x3_2 z_2
  refine V_iln hC dX9_headOf_46 2 rfl ?_
  exact V_ir hC dX9_headOf_47 rfl
def fX9_head (v1 : Int32) (z : iw_M) : Option (Int32 × iw_M) :=
  ((fX9_isIdea v1 z).bind (fun q1 =>
  (if q1.1 = 0 then
  ((fX9_no (-1 : Int32) q1.2).bind (fun q4 =>
  some (q4.1, q4.2)))
  else
  ((fX9_families (q1.2.1 0 6) q1.2).bind (fun q2 =>
  (if iw_ok v1 40 then
  ((fX9_headOf (q2.2.1 31 (Int32.toNatClampNeg v1)) q2.2).bind (fun q3 =>
  some (q3.1, q3.2)))
  else none))))))
abbrev bX9_head : iw_B := (cX9_head, 2, { frames := 3, cells := 0, slots := 0, locals := 68 }, yX9_head.cls, (some .int))
set_option maxRecDepth 100000 in
set_option maxHeartbeats 4000000 in
theorem kX9_head (G : iw_G) (v1 : Int32) (z : iw_M) : iw_K G iw_wM yX9_head cX9_head 2 (some .int) 3 68 iw_ei [.ref (iw_ad G 0), .int v1] z (fX9_head v1 z) := by
  refine iw_of [(0, .ref (iw_ad G 0)), (1, .int v1)] (by decide +kernel) (Nat.le_of_ble_eq_true rfl) rfl ?_
  intro X hC
  unfold fX9_head
  refine V_aln hC dX9_head_0 0 rfl ?_
  refine V_iln hC dX9_head_1 1 rfl ?_
  refine V_cvi [] hC cv_X9_141 (by decide) rfl rfl (kX9_isIdea G _ _) rfl rfl (Nat.le_of_ble_eq_true rfl) ⟨by decide, by decide⟩ dX9_head_2 ?_
  intro q1
  refine V_ine 14 hC dX9_head_5 (by decide) ?_ ?_
  · refine V_aln hC dX9_head_14 0 rfl ?_
    refine V_aln hC dX9_head_15 0 rfl ?_
    refine V_gi hC fl_X9_7 (by decide) rfl rfl dX9_head_16 ?_
    refine V_cvv [] hC cv_X9_155 (by decide) rfl rfl (kX9_families G _ _) rfl rfl (Nat.le_of_ble_eq_true rfl) ⟨by decide, by decide⟩ dX9_head_19 ?_
    intro q2
    refine V_aln hC dX9_head_22 0 rfl ?_
    refine V_aln hC dX9_head_23 0 rfl ?_
    refine V_gr hC fl_X9_114 (by decide) rfl rfl dX9_head_24 ?_
    refine V_iln hC dX9_head_27 1 rfl ?_
    refine V_ia hC (by decide) rfl dX9_head_28 ?_
    refine V_cvi [] hC cv_X9_162 (by decide) rfl rfl (kX9_headOf G _ _) rfl rfl (Nat.le_of_ble_eq_true rfl) ⟨by decide, by decide⟩ dX9_head_29 ?_
    intro q3
    exact V_ir hC dX9_head_32 rfl
  · refine V_aln hC dX9_head_8 0 rfl ?_
    refine V_ic (x := -1) hC dX9_head_9 (by decide) ?_
    refine V_cvi [] hC cv_X9_128 (by decide) rfl rfl (kX9_no G _ _) rfl rfl (Nat.le_of_ble_eq_true rfl) ⟨by decide, by decide⟩ dX9_head_10 ?_
    intro q4
    exact V_ir hC dX9_head_13 rfl
def fX9_shareOf_L19 (v1 : Int32) (v2 : Int32) (K : Int32 → Int32 → Int32 → iw_M → Option (Int32 × iw_M)) : Nat → Int32 → Int32 → Int32 → iw_M → Option (Int32 × iw_M)
  | 0, _, _, _, _ => none
  | n + 1, v3, v4, v5, z => (if (z.1 0 2) ≤ v5 then
  K v3 v4 v5 z
  else
  (if iw_ok v5 40 then
  (if iw_ok v1 40 then
  (if (z.1 31 (Int32.toNatClampNeg v5)) = (z.1 31 (Int32.toNatClampNeg v1)) then
  (if v5 = v2 then
  fX9_shareOf_L19 v1 v2 K n v3 v4 (v5 + (1 : Int32)) z
  else
  (if iw_ok v5 40 then
  fX9_shareOf_L19 v1 v2 K n (v3 + ((1 : Int32) + (z.1 10 (Int32.toNatClampNeg v5)))) (v4 + (1 : Int32)) (v5 + (1 : Int32)) z
  else none))
  else
  fX9_shareOf_L19 v1 v2 K n v3 v4 (v5 + (1 : Int32)) z)
  else none)
  else none))
def fX9_shareOf_L116 (v1 : Int32) (v2 : Int32) (v3 : Int32) (K : Int32 → Int32 → iw_M → Option (Int32 × iw_M)) : Nat → Int32 → Int32 → iw_M → Option (Int32 × iw_M)
  | 0, _, _, _ => none
  | n + 1, v5, v6, z => (if (z.1 0 2) ≤ v6 then
  K v5 v6 z
  else
  (if iw_ok v6 40 then
  (if iw_ok v1 40 then
  (if (z.1 31 (Int32.toNatClampNeg v6)) = (z.1 31 (Int32.toNatClampNeg v1)) then
  (if v6 = v2 then
  fX9_shareOf_L116 v1 v2 v3 K n v5 (v6 + (1 : Int32)) z
  else
  (if iw_ok v6 40 then
  (if v3 = 0 then none else
  fX9_shareOf_L116 v1 v2 v3 K n (v5 - ((((1000 : Int32) - (z.1 0 7)) * ((1 : Int32) + (z.1 10 (Int32.toNatClampNeg v6)))) / v3)) (v6 + (1 : Int32)) z)
  else none))
  else
  fX9_shareOf_L116 v1 v2 v3 K n v5 (v6 + (1 : Int32)) z)
  else none)
  else none))
def fX9_shareOf (v1 : Int32) (z : iw_M) : Option (Int32 × iw_M) :=
  (if iw_ok v1 40 then
  ((fX9_headOf (z.1 31 (Int32.toNatClampNeg v1)) z).bind (fun q1 =>
  fX9_shareOf_L19 v1 q1.1 (fun x3_2 x4_2 x5_2 z_2 => (if x4_2 = 0 then
  some ((1000 : Int32), z_2)
  else
  (if v1 = q1.1 then
  fX9_shareOf_L116 v1 q1.1 x3_2 (fun x5_3 x6_3 z_3 => some (x5_3, z_3)) iw_fu (1000 : Int32) (0 : Int32) z_2
  else
  (if iw_ok v1 40 then
  (if x3_2 = 0 then none else
  some (((((1000 : Int32) - (z_2.1 0 7)) * ((1 : Int32) + (z_2.1 10 (Int32.toNatClampNeg v1)))) / x3_2), z_2))
  else none)))) iw_fu (0 : Int32) (0 : Int32) (0 : Int32) q1.2))
  else none)
abbrev bX9_shareOf : iw_B := (cX9_shareOf, 7, { frames := 2, cells := 0, slots := 0, locals := 45 }, yX9_shareOf.cls, (some .int))
set_option maxRecDepth 100000 in
set_option maxHeartbeats 4000000 in
theorem vX9_shareOf_L19 {G : iw_G} {X : iw_X} (hC : iw_C G iw_wM X bX9_shareOf) (v1 : Int32) (v2 : Int32) (K : Int32 → Int32 → Int32 → iw_M → Option (Int32 × iw_M)) (hK : ∀ (v3 : Int32) (v4 : Int32) (v5 : Int32) (z : iw_M), iw_V G iw_wM X bX9_shareOf iw_ei 74 [(0, .ref (iw_ad G 0)), (1, .int v1), (2, .int v2), (3, .int v3), (4, .int v4), (5, .int v5)] [] z (K v3 v4 v5 z)) : ∀ (n : Nat) (v3 : Int32) (v4 : Int32) (v5 : Int32) (z : iw_M), iw_V G iw_wM X bX9_shareOf iw_ei 19 [(0, .ref (iw_ad G 0)), (1, .int v1), (2, .int v2), (3, .int v3), (4, .int v4), (5, .int v5)] [] z (fX9_shareOf_L19 v1 v2 K n v3 v4 v5 z) := by
  intro n
  induction n with
  | zero =>
    intro v3 v4 v5 z
    exact V_none
  | succ n ih =>
    intro v3 v4 v5 z
    simp only [fX9_shareOf_L19]
    refine V_il hC dX9_shareOf_19 5 rfl ?_
    refine V_aln hC dX9_shareOf_21 0 rfl ?_
    refine V_gi hC fl_X9_120 (by decide) rfl rfl dX9_shareOf_22 ?_
    refine V_cge 74 hC dX9_shareOf_25 (by decide) ?_ ?_
    · exact hK _ _ _ _
    · refine V_aln hC dX9_shareOf_28 0 rfl ?_
      refine V_gr hC fl_X9_114 (by decide) rfl rfl dX9_shareOf_29 ?_
      refine V_il hC dX9_shareOf_32 5 rfl ?_
      refine V_ia hC (by decide) rfl dX9_shareOf_34 ?_
      refine V_aln hC dX9_shareOf_35 0 rfl ?_
      refine V_gr hC fl_X9_114 (by decide) rfl rfl dX9_shareOf_36 ?_
      refine V_iln hC dX9_shareOf_39 1 rfl ?_
      refine V_ia hC (by decide) rfl dX9_shareOf_40 ?_
      refine V_cne 68 hC dX9_shareOf_41 (by decide) ?_ ?_
      · refine V_inc (k := 5) (y := 1) [(5, .int _), (0, .ref _), (1, .int _), (2, .int _), (3, .int _), (4, .int _)] hC dX9_shareOf_68 rfl (by decide) (by decide) rfl ?_
        refine V_goto 19 hC dX9_shareOf_71 (by decide) ?_
        refine V_sub [(0, .ref _), (1, .int _), (2, .int _), (3, .int _), (4, .int _), (5, .int _)] [1, 2, 3, 4, 5, 0] rfl ?_
        exact ih _ _ _ _
      · refine V_il hC dX9_shareOf_44 5 rfl ?_
        refine V_iln hC dX9_shareOf_46 2 rfl ?_
        refine V_cne 53 hC dX9_shareOf_47 (by decide) ?_ ?_
        · refine V_iln hC dX9_shareOf_53 3 rfl ?_
          refine V_ic (x := 1) hC dX9_shareOf_54 (by decide) ?_
          refine V_aln hC dX9_shareOf_55 0 rfl ?_
          refine V_gr hC fl_X9_51 (by decide) rfl rfl dX9_shareOf_56 ?_
          refine V_il hC dX9_shareOf_59 5 rfl ?_
          refine V_ia hC (by decide) rfl dX9_shareOf_61 ?_
          refine V_iadd hC dX9_shareOf_62 ?_
          refine V_iadd hC dX9_shareOf_63 ?_
          refine V_isn [(3, .int _), (0, .ref _), (1, .int _), (2, .int _), (4, .int _), (5, .int _)] hC dX9_shareOf_64 (by decide) rfl ?_
          refine V_inc (k := 4) (y := 1) [(4, .int _), (3, .int _), (0, .ref _), (1, .int _), (2, .int _), (5, .int _)] hC dX9_shareOf_65 rfl (by decide) (by decide) rfl ?_
          refine V_inc (k := 5) (y := 1) [(5, .int _), (4, .int _), (3, .int _), (0, .ref _), (1, .int _), (2, .int _)] hC dX9_shareOf_68 rfl (by decide) (by decide) rfl ?_
          refine V_goto 19 hC dX9_shareOf_71 (by decide) ?_
          refine V_sub [(0, .ref _), (1, .int _), (2, .int _), (3, .int _), (4, .int _), (5, .int _)] [3, 4, 5, 2, 1, 0] rfl ?_
          exact ih _ _ _ _
        · refine V_goto 68 hC dX9_shareOf_50 (by decide) ?_
          refine V_inc (k := 5) (y := 1) [(5, .int _), (0, .ref _), (1, .int _), (2, .int _), (3, .int _), (4, .int _)] hC dX9_shareOf_68 rfl (by decide) (by decide) rfl ?_
          refine V_goto 19 hC dX9_shareOf_71 (by decide) ?_
          refine V_sub [(0, .ref _), (1, .int _), (2, .int _), (3, .int _), (4, .int _), (5, .int _)] [1, 2, 3, 4, 5, 0] rfl ?_
          exact ih _ _ _ _
set_option maxRecDepth 100000 in
set_option maxHeartbeats 4000000 in
theorem vX9_shareOf_L116 {G : iw_G} {X : iw_X} (hC : iw_C G iw_wM X bX9_shareOf) (v1 : Int32) (v2 : Int32) (v3 : Int32) (K : Int32 → Int32 → iw_M → Option (Int32 × iw_M)) (hK : ∀ (v5 : Int32) (v6 : Int32) (z : iw_M), iw_V G iw_wM X bX9_shareOf iw_ei 178 [(0, .ref (iw_ad G 0)), (1, .int v1), (2, .int v2), (3, .int v3), (5, .int v5), (6, .int v6)] [] z (K v5 v6 z)) : ∀ (n : Nat) (v5 : Int32) (v6 : Int32) (z : iw_M), iw_V G iw_wM X bX9_shareOf iw_ei 116 [(0, .ref (iw_ad G 0)), (1, .int v1), (2, .int v2), (3, .int v3), (5, .int v5), (6, .int v6)] [] z (fX9_shareOf_L116 v1 v2 v3 K n v5 v6 z) := by
  intro n
  induction n with
  | zero =>
    intro v5 v6 z
    exact V_none
  | succ n ih =>
    intro v5 v6 z
    simp only [fX9_shareOf_L116]
    refine V_il hC dX9_shareOf_116 5 rfl ?_
    refine V_aln hC dX9_shareOf_118 0 rfl ?_
    refine V_gi hC fl_X9_120 (by decide) rfl rfl dX9_shareOf_119 ?_
    refine V_cge 178 hC dX9_shareOf_122 (by decide) ?_ ?_
    · exact hK _ _ _
    · refine V_aln hC dX9_shareOf_125 0 rfl ?_
      refine V_gr hC fl_X9_114 (by decide) rfl rfl dX9_shareOf_126 ?_
      refine V_il hC dX9_shareOf_129 5 rfl ?_
      refine V_ia hC (by decide) rfl dX9_shareOf_131 ?_
      refine V_aln hC dX9_shareOf_132 0 rfl ?_
      refine V_gr hC fl_X9_114 (by decide) rfl rfl dX9_shareOf_133 ?_
      refine V_iln hC dX9_shareOf_136 1 rfl ?_
      refine V_ia hC (by decide) rfl dX9_shareOf_137 ?_
      refine V_cne 172 hC dX9_shareOf_138 (by decide) ?_ ?_
      · refine V_inc (k := 5) (y := 1) [(6, .int _), (0, .ref _), (1, .int _), (2, .int _), (3, .int _), (5, .int _)] hC dX9_shareOf_172 rfl (by decide) (by decide) rfl ?_
        refine V_goto 116 hC dX9_shareOf_175 (by decide) ?_
        refine V_sub [(0, .ref _), (1, .int _), (2, .int _), (3, .int _), (5, .int _), (6, .int _)] [1, 2, 3, 4, 5, 0] rfl ?_
        exact ih _ _ _
      · refine V_il hC dX9_shareOf_141 5 rfl ?_
        refine V_iln hC dX9_shareOf_143 2 rfl ?_
        refine V_ceq 172 hC dX9_shareOf_144 (by decide) ?_ ?_
        · refine V_inc (k := 5) (y := 1) [(6, .int _), (0, .ref _), (1, .int _), (2, .int _), (3, .int _), (5, .int _)] hC dX9_shareOf_172 rfl (by decide) (by decide) rfl ?_
          refine V_goto 116 hC dX9_shareOf_175 (by decide) ?_
          refine V_sub [(0, .ref _), (1, .int _), (2, .int _), (3, .int _), (5, .int _), (6, .int _)] [1, 2, 3, 4, 5, 0] rfl ?_
          exact ih _ _ _
        · refine V_il hC dX9_shareOf_147 4 rfl ?_
          refine V_sip (x := 1000) hC dX9_shareOf_149 (by decide) ?_
          refine V_aln hC dX9_shareOf_152 0 rfl ?_
          refine V_gi hC fl_X9_13 (by decide) rfl rfl dX9_shareOf_153 ?_
          refine V_isub hC dX9_shareOf_156 ?_
          refine V_ic (x := 1) hC dX9_shareOf_157 (by decide) ?_
          refine V_aln hC dX9_shareOf_158 0 rfl ?_
          refine V_gr hC fl_X9_51 (by decide) rfl rfl dX9_shareOf_159 ?_
          refine V_il hC dX9_shareOf_162 5 rfl ?_
          refine V_ia hC (by decide) rfl dX9_shareOf_164 ?_
          refine V_iadd hC dX9_shareOf_165 ?_
          refine V_imul hC dX9_shareOf_166 ?_
          refine V_iln hC dX9_shareOf_167 3 rfl ?_
          refine V_idiv hC dX9_shareOf_168 ?_
          refine V_isub hC dX9_shareOf_169 ?_
          refine V_is [(5, .int _), (0, .ref _), (1, .int _), (2, .int _), (3, .int _), (6, .int _)] hC dX9_shareOf_170 (by decide) rfl ?_
          refine V_inc (k := 5) (y := 1) [(6, .int _), (5, .int _), (0, .ref _), (1, .int _), (2, .int _), (3, .int _)] hC dX9_shareOf_172 rfl (by decide) (by decide) rfl ?_
          refine V_goto 116 hC dX9_shareOf_175 (by decide) ?_
          refine V_sub [(0, .ref _), (1, .int _), (2, .int _), (3, .int _), (5, .int _), (6, .int _)] [2, 3, 4, 5, 1, 0] rfl ?_
          exact ih _ _ _
set_option maxRecDepth 100000 in
set_option maxHeartbeats 4000000 in
theorem kX9_shareOf (G : iw_G) (v1 : Int32) (z : iw_M) : iw_K G iw_wM yX9_shareOf cX9_shareOf 7 (some .int) 2 45 iw_ei [.ref (iw_ad G 0), .int v1] z (fX9_shareOf v1 z) := by
  refine iw_of [(0, .ref (iw_ad G 0)), (1, .int v1)] (by decide +kernel) (Nat.le_of_ble_eq_true rfl) rfl ?_
  intro X hC
  unfold fX9_shareOf
  refine V_aln hC dX9_shareOf_0 0 rfl ?_
  refine V_aln hC dX9_shareOf_1 0 rfl ?_
  refine V_gr hC fl_X9_114 (by decide) rfl rfl dX9_shareOf_2 ?_
  refine V_iln hC dX9_shareOf_5 1 rfl ?_
  refine V_ia hC (by decide) rfl dX9_shareOf_6 ?_
  refine V_cvi [] hC cv_X9_162 (by decide) rfl rfl (kX9_headOf G _ _) rfl rfl (Nat.le_of_ble_eq_true rfl) ⟨by decide, by decide⟩ dX9_shareOf_7 ?_
  intro q1
  refine V_isn [(2, .int _), (0, .ref _), (1, .int _)] hC dX9_shareOf_10 (by decide) rfl ?_
  refine V_ic (x := 0) hC dX9_shareOf_11 (by decide) ?_
  refine V_isn [(3, .int _), (2, .int _), (0, .ref _), (1, .int _)] hC dX9_shareOf_12 (by decide) rfl ?_
  refine V_ic (x := 0) hC dX9_shareOf_13 (by decide) ?_
  refine V_is [(4, .int _), (3, .int _), (2, .int _), (0, .ref _), (1, .int _)] hC dX9_shareOf_14 (by decide) rfl ?_
  refine V_ic (x := 0) hC dX9_shareOf_16 (by decide) ?_
  refine V_is [(5, .int _), (4, .int _), (3, .int _), (2, .int _), (0, .ref _), (1, .int _)] hC dX9_shareOf_17 (by decide) rfl ?_
  refine V_sub [(0, .ref _), (1, .int _), (2, .int _), (3, .int _), (4, .int _), (5, .int _)] [4, 5, 3, 2, 1, 0] rfl ?_
  refine vX9_shareOf_L19 hC _ _ _ ?_ _ _ _ _ _
  intro x3_2 x4_2 x5_2 z_2
  refine V_il hC dX9_shareOf_74 4 rfl ?_
  refine V_ine 83 hC dX9_shareOf_76 (by decide) ?_ ?_
  · refine V_iln hC dX9_shareOf_83 1 rfl ?_
    refine V_iln hC dX9_shareOf_84 2 rfl ?_
    refine V_ceq 108 hC dX9_shareOf_85 (by decide) ?_ ?_
    · refine V_sip (x := 1000) hC dX9_shareOf_108 (by decide) ?_
      refine V_is [(5, .int _), (0, .ref _), (1, .int _), (2, .int _), (3, .int _), (4, .int _)] hC dX9_shareOf_111 (by decide) rfl ?_
      refine V_ic (x := 0) hC dX9_shareOf_113 (by decide) ?_
      refine V_is [(6, .int _), (5, .int _), (0, .ref _), (1, .int _), (2, .int _), (3, .int _), (4, .int _)] hC dX9_shareOf_114 (by decide) rfl ?_
      refine V_sub [(0, .ref _), (1, .int _), (2, .int _), (3, .int _), (5, .int _), (6, .int _)] [2, 3, 4, 5, 1, 0] rfl ?_
      refine vX9_shareOf_L116 hC _ _ _ _ ?_ _ _ _ _
      intro x5_3 x6_3 z_3
      refine V_il hC dX9_shareOf_178 4 rfl ?_
      exact V_ir hC dX9_shareOf_180 rfl
    · refine V_sip (x := 1000) hC dX9_shareOf_88 (by decide) ?_
      refine V_aln hC dX9_shareOf_91 0 rfl ?_
      refine V_gi hC fl_X9_13 (by decide) rfl rfl dX9_shareOf_92 ?_
      refine V_isub hC dX9_shareOf_95 ?_
      refine V_ic (x := 1) hC dX9_shareOf_96 (by decide) ?_
      refine V_aln hC dX9_shareOf_97 0 rfl ?_
      refine V_gr hC fl_X9_51 (by decide) rfl rfl dX9_shareOf_98 ?_
      refine V_iln hC dX9_shareOf_101 1 rfl ?_
      refine V_ia hC (by decide) rfl dX9_shareOf_102 ?_
      refine V_iadd hC dX9_shareOf_103 ?_
      refine V_imul hC dX9_shareOf_104 ?_
      refine V_iln hC dX9_shareOf_105 3 rfl ?_
      refine V_idiv hC dX9_shareOf_106 ?_
      exact V_ir hC dX9_shareOf_107 rfl
  · refine V_sip (x := 1000) hC dX9_shareOf_79 (by decide) ?_
    exact V_ir hC dX9_shareOf_82 rfl
def fX9_share (v1 : Int32) (z : iw_M) : Option (Int32 × iw_M) :=
  ((fX9_isIdea v1 z).bind (fun q1 =>
  (if q1.1 = 0 then
  ((fX9_no (-1 : Int32) q1.2).bind (fun q4 =>
  some (q4.1, q4.2)))
  else
  ((fX9_families (q1.2.1 0 6) q1.2).bind (fun q2 =>
  ((fX9_shareOf v1 q2.2).bind (fun q3 =>
  some (q3.1, q3.2))))))))
abbrev bX9_share : iw_B := (cX9_share, 2, { frames := 3, cells := 0, slots := 0, locals := 71 }, yX9_share.cls, (some .int))
set_option maxRecDepth 100000 in
set_option maxHeartbeats 4000000 in
theorem kX9_share (G : iw_G) (v1 : Int32) (z : iw_M) : iw_K G iw_wM yX9_share cX9_share 2 (some .int) 3 71 iw_ei [.ref (iw_ad G 0), .int v1] z (fX9_share v1 z) := by
  refine iw_of [(0, .ref (iw_ad G 0)), (1, .int v1)] (by decide +kernel) (Nat.le_of_ble_eq_true rfl) rfl ?_
  intro X hC
  unfold fX9_share
  refine V_aln hC dX9_share_0 0 rfl ?_
  refine V_iln hC dX9_share_1 1 rfl ?_
  refine V_cvi [] hC cv_X9_141 (by decide) rfl rfl (kX9_isIdea G _ _) rfl rfl (Nat.le_of_ble_eq_true rfl) ⟨by decide, by decide⟩ dX9_share_2 ?_
  intro q1
  refine V_ine 14 hC dX9_share_5 (by decide) ?_ ?_
  · refine V_aln hC dX9_share_14 0 rfl ?_
    refine V_aln hC dX9_share_15 0 rfl ?_
    refine V_gi hC fl_X9_7 (by decide) rfl rfl dX9_share_16 ?_
    refine V_cvv [] hC cv_X9_155 (by decide) rfl rfl (kX9_families G _ _) rfl rfl (Nat.le_of_ble_eq_true rfl) ⟨by decide, by decide⟩ dX9_share_19 ?_
    intro q2
    refine V_aln hC dX9_share_22 0 rfl ?_
    refine V_iln hC dX9_share_23 1 rfl ?_
    refine V_cvi [] hC cv_X9_165 (by decide) rfl rfl (kX9_shareOf G _ _) rfl rfl (Nat.le_of_ble_eq_true rfl) ⟨by decide, by decide⟩ dX9_share_24 ?_
    intro q3
    exact V_ir hC dX9_share_27 rfl
  · refine V_aln hC dX9_share_8 0 rfl ?_
    refine V_ic (x := -1) hC dX9_share_9 (by decide) ?_
    refine V_cvi [] hC cv_X9_128 (by decide) rfl rfl (kX9_no G _ _) rfl rfl (Nat.le_of_ble_eq_true rfl) ⟨by decide, by decide⟩ dX9_share_10 ?_
    intro q4
    exact V_ir hC dX9_share_13 rfl
def fX9_judge (v1 : Int32) (v2 : Int32) (z : iw_M) : Option (Int32 × iw_M) :=
  ((fX9_isHand v1 z).bind (fun q1 =>
  (if q1.1 = 0 then
  ((fX9_no (-1 : Int32) q1.2).bind (fun q2 =>
  some (q2.1, q2.2)))
  else
  (if iw_ok v1 40 then
  (if (q1.2.1 5 (Int32.toNatClampNeg v1)) = v2 then
  some ((0 : Int32), q1.2)
  else
  (if iw_ok v1 40 then
  some ((1 : Int32), (iw_wI q1.2 5 (Int32.toNatClampNeg v1) (vp_nar .boolean v2)))
  else none))
  else none))))
abbrev bX9_judge : iw_B := (cX9_judge, 3, { frames := 1, cells := 0, slots := 0, locals := 21 }, yX9_judge.cls, (some .int))
set_option maxRecDepth 100000 in
set_option maxHeartbeats 4000000 in
theorem kX9_judge (G : iw_G) (v1 : Int32) (v2 : Int32) (z : iw_M) : iw_K G iw_wM yX9_judge cX9_judge 3 (some .int) 1 21 iw_ei [.ref (iw_ad G 0), .int v1, .int v2] z (fX9_judge v1 v2 z) := by
  refine iw_of [(0, .ref (iw_ad G 0)), (1, .int v1), (2, .int v2)] (by decide +kernel) (Nat.le_of_ble_eq_true rfl) rfl ?_
  intro X hC
  unfold fX9_judge
  refine V_aln hC dX9_judge_0 0 rfl ?_
  refine V_iln hC dX9_judge_1 1 rfl ?_
  refine V_cvi [] hC cv_X9_132 (by decide) rfl rfl (kX9_isHand G _ _) rfl rfl (Nat.le_of_ble_eq_true rfl) ⟨by decide, by decide⟩ dX9_judge_2 ?_
  intro q1
  refine V_ine 14 hC dX9_judge_5 (by decide) ?_ ?_
  · refine V_aln hC dX9_judge_14 0 rfl ?_
    refine V_gr hC fl_X9_35 (by decide) rfl rfl dX9_judge_15 ?_
    refine V_iln hC dX9_judge_18 1 rfl ?_
    refine V_ba hC (by decide) rfl dX9_judge_19 ?_
    refine V_iln hC dX9_judge_20 2 rfl ?_
    refine V_cne 26 hC dX9_judge_21 (by decide) ?_ ?_
    · refine V_aln hC dX9_judge_26 0 rfl ?_
      refine V_gr hC fl_X9_35 (by decide) rfl rfl dX9_judge_27 ?_
      refine V_iln hC dX9_judge_30 1 rfl ?_
      refine V_iln hC dX9_judge_31 2 rfl ?_
      refine V_bs_ hC (by decide) rfl dX9_judge_32 ?_
      refine V_ic (x := 1) hC dX9_judge_33 (by decide) ?_
      exact V_ir hC dX9_judge_34 rfl
    · refine V_ic (x := 0) hC dX9_judge_24 (by decide) ?_
      exact V_ir hC dX9_judge_25 rfl
  · refine V_aln hC dX9_judge_8 0 rfl ?_
    refine V_ic (x := -1) hC dX9_judge_9 (by decide) ?_
    refine V_cvi [] hC cv_X9_128 (by decide) rfl rfl (kX9_no G _ _) rfl rfl (Nat.le_of_ble_eq_true rfl) ⟨by decide, by decide⟩ dX9_judge_10 ?_
    intro q2
    exact V_ir hC dX9_judge_13 rfl
def fX9_mayJudge_L57 (v1 : Int32) (v2 : Int32) (v3 : Int32) (K : Int32 → iw_M → Option (Int32 × iw_M)) : Nat → Int32 → iw_M → Option (Int32 × iw_M)
  | 0, _, _ => none
  | n + 1, v4, z => (if (z.1 0 1) ≤ v4 then
  K v4 z
  else
  ((fX9_isOf v3 v4 z).bind (fun q1 =>
  (if q1.1 = 0 then
  fX9_mayJudge_L57 v1 v2 v3 K n (v4 + (1 : Int32)) q1.2
  else
  (if v4 = v1 then
  some ((0 : Int32), q1.2)
  else
  (if iw_ok (((40 : Int32) * v4) + v1) 1600 then
  (if (q1.2.1 6 (Int32.toNatClampNeg (((40 : Int32) * v4) + v1))) = 0 then
  fX9_mayJudge_L57 v1 v2 v3 K n (v4 + (1 : Int32)) q1.2
  else
  some ((0 : Int32), q1.2))
  else none))))))
def fX9_mayJudge_L28 (v1 : Int32) (v2 : Int32) (K : Int32 → iw_M → Option (Int32 × iw_M)) : Nat → Int32 → iw_M → Option (Int32 × iw_M)
  | 0, _, _ => none
  | n + 1, v3, z => (if (z.1 0 2) ≤ v3 then
  K v3 z
  else
  (if iw_ok v3 40 then
  (if iw_ok v2 40 then
  (if (z.1 31 (Int32.toNatClampNeg v3)) = (z.1 31 (Int32.toNatClampNeg v2)) then
  fX9_mayJudge_L57 v1 v2 v3 (fun x4_2 z_2 => fX9_mayJudge_L28 v1 v2 K n (v3 + (1 : Int32)) z_2) iw_fu (0 : Int32) z
  else
  fX9_mayJudge_L28 v1 v2 K n (v3 + (1 : Int32)) z)
  else none)
  else none))
def fX9_mayJudge (v1 : Int32) (v2 : Int32) (z : iw_M) : Option (Int32 × iw_M) :=
  (if iw_ok v1 40 then
  (if (z.1 5 (Int32.toNatClampNeg v1)) = 0 then
  some ((0 : Int32), z)
  else
  (if iw_ok v1 40 then
  (if iw_ok v2 40 then
  (if (z.1 1 (Int32.toNatClampNeg v1)) = (z.1 8 (Int32.toNatClampNeg v2)) then
  some ((0 : Int32), z)
  else
  fX9_mayJudge_L28 v1 v2 (fun x3_3 z_3 => some ((1 : Int32), z_3)) iw_fu (0 : Int32) z)
  else none)
  else none))
  else none)
abbrev bX9_mayJudge : iw_B := (cX9_mayJudge, 5, { frames := 1, cells := 0, slots := 0, locals := 23 }, yX9_mayJudge.cls, (some .boolean))
set_option maxRecDepth 100000 in
set_option maxHeartbeats 4000000 in
theorem vX9_mayJudge_L57 {G : iw_G} {X : iw_X} (hC : iw_C G iw_wM X bX9_mayJudge) (v1 : Int32) (v2 : Int32) (v3 : Int32) (K : Int32 → iw_M → Option (Int32 × iw_M)) (hK : ∀ (v4 : Int32) (z : iw_M), iw_V G iw_wM X bX9_mayJudge iw_ei 105 [(0, .ref (iw_ad G 0)), (1, .int v1), (2, .int v2), (3, .int v3), (4, .int v4)] [] z (K v4 z)) : ∀ (n : Nat) (v4 : Int32) (z : iw_M), iw_V G iw_wM X bX9_mayJudge iw_ei 57 [(0, .ref (iw_ad G 0)), (1, .int v1), (2, .int v2), (3, .int v3), (4, .int v4)] [] z (fX9_mayJudge_L57 v1 v2 v3 K n v4 z) := by
  intro n
  induction n with
  | zero =>
    intro v4 z
    exact V_none
  | succ n ih =>
    intro v4 z
    simp only [fX9_mayJudge_L57]
    refine V_il hC dX9_mayJudge_57 4 rfl ?_
    refine V_aln hC dX9_mayJudge_59 0 rfl ?_
    refine V_gi hC fl_X9_117 (by decide) rfl rfl dX9_mayJudge_60 ?_
    refine V_cge 105 hC dX9_mayJudge_63 (by decide) ?_ ?_
    · exact hK _ _
    · refine V_aln hC dX9_mayJudge_66 0 rfl ?_
      refine V_iln hC dX9_mayJudge_67 3 rfl ?_
      refine V_il hC dX9_mayJudge_68 4 rfl ?_
      refine V_cvi [] hC cv_X9_144 (by decide) rfl rfl (kX9_isOf G _ _ _) rfl rfl (Nat.le_of_ble_eq_true rfl) ⟨by decide, by decide⟩ dX9_mayJudge_70 ?_
      intro q1
      refine V_ieq 99 hC dX9_mayJudge_73 (by decide) ?_ ?_
      · refine V_inc (k := 4) (y := 1) [(4, .int _), (0, .ref _), (1, .int _), (2, .int _), (3, .int _)] hC dX9_mayJudge_99 rfl (by decide) (by decide) rfl ?_
        refine V_goto 57 hC dX9_mayJudge_102 (by decide) ?_
        refine V_sub [(0, .ref _), (1, .int _), (2, .int _), (3, .int _), (4, .int _)] [1, 2, 3, 4, 0] rfl ?_
        exact ih _ _
      · refine V_il hC dX9_mayJudge_76 4 rfl ?_
        refine V_iln hC dX9_mayJudge_78 1 rfl ?_
        refine V_ceq 97 hC dX9_mayJudge_79 (by decide) ?_ ?_
        · refine V_ic (x := 0) hC dX9_mayJudge_97 (by decide) ?_
          exact V_zr hC dX9_mayJudge_98 rfl rfl
        · refine V_aln hC dX9_mayJudge_82 0 rfl ?_
          refine V_gr hC fl_X9_39 (by decide) rfl rfl dX9_mayJudge_83 ?_
          refine V_bip (x := 40) hC dX9_mayJudge_86 (by decide) ?_
          refine V_il hC dX9_mayJudge_88 4 rfl ?_
          refine V_imul hC dX9_mayJudge_90 ?_
          refine V_iln hC dX9_mayJudge_91 1 rfl ?_
          refine V_iadd hC dX9_mayJudge_92 ?_
          refine V_ba hC (by decide) rfl dX9_mayJudge_93 ?_
          refine V_ieq 99 hC dX9_mayJudge_94 (by decide) ?_ ?_
          · refine V_inc (k := 4) (y := 1) [(4, .int _), (0, .ref _), (1, .int _), (2, .int _), (3, .int _)] hC dX9_mayJudge_99 rfl (by decide) (by decide) rfl ?_
            refine V_goto 57 hC dX9_mayJudge_102 (by decide) ?_
            refine V_sub [(0, .ref _), (1, .int _), (2, .int _), (3, .int _), (4, .int _)] [1, 2, 3, 4, 0] rfl ?_
            exact ih _ _
          · refine V_ic (x := 0) hC dX9_mayJudge_97 (by decide) ?_
            exact V_zr hC dX9_mayJudge_98 rfl rfl
set_option maxRecDepth 100000 in
set_option maxHeartbeats 4000000 in
theorem vX9_mayJudge_L28 {G : iw_G} {X : iw_X} (hC : iw_C G iw_wM X bX9_mayJudge) (v1 : Int32) (v2 : Int32) (K : Int32 → iw_M → Option (Int32 × iw_M)) (hK : ∀ (v3 : Int32) (z : iw_M), iw_V G iw_wM X bX9_mayJudge iw_ei 111 [(0, .ref (iw_ad G 0)), (1, .int v1), (2, .int v2), (3, .int v3)] [] z (K v3 z)) : ∀ (n : Nat) (v3 : Int32) (z : iw_M), iw_V G iw_wM X bX9_mayJudge iw_ei 28 [(0, .ref (iw_ad G 0)), (1, .int v1), (2, .int v2), (3, .int v3)] [] z (fX9_mayJudge_L28 v1 v2 K n v3 z) := by
  intro n
  induction n with
  | zero =>
    intro v3 z
    exact V_none
  | succ n ih =>
    intro v3 z
    simp only [fX9_mayJudge_L28]
    refine V_iln hC dX9_mayJudge_28 3 rfl ?_
    refine V_aln hC dX9_mayJudge_29 0 rfl ?_
    refine V_gi hC fl_X9_120 (by decide) rfl rfl dX9_mayJudge_30 ?_
    refine V_cge 111 hC dX9_mayJudge_33 (by decide) ?_ ?_
    · exact hK _ _
    · refine V_aln hC dX9_mayJudge_36 0 rfl ?_
      refine V_gr hC fl_X9_114 (by decide) rfl rfl dX9_mayJudge_37 ?_
      refine V_iln hC dX9_mayJudge_40 3 rfl ?_
      refine V_ia hC (by decide) rfl dX9_mayJudge_41 ?_
      refine V_aln hC dX9_mayJudge_42 0 rfl ?_
      refine V_gr hC fl_X9_114 (by decide) rfl rfl dX9_mayJudge_43 ?_
      refine V_iln hC dX9_mayJudge_46 2 rfl ?_
      refine V_ia hC (by decide) rfl dX9_mayJudge_47 ?_
      refine V_ceq 54 hC dX9_mayJudge_48 (by decide) ?_ ?_
      · refine V_ic (x := 0) hC dX9_mayJudge_54 (by decide) ?_
        refine V_is [(4, .int _), (0, .ref _), (1, .int _), (2, .int _), (3, .int _)] hC dX9_mayJudge_55 (by decide) rfl ?_
        refine V_sub [(0, .ref _), (1, .int _), (2, .int _), (3, .int _), (4, .int _)] [1, 2, 3, 4, 0] rfl ?_
        refine vX9_mayJudge_L57 hC _ _ _ _ ?_ _ _ _
        intro x4_2 z_2
        refine V_inc (k := 3) (y := 1) [(3, .int _), (0, .ref _), (1, .int _), (2, .int _), (4, .int _)] hC dX9_mayJudge_105 rfl (by decide) (by decide) rfl ?_
        refine V_goto 28 hC dX9_mayJudge_108 (by decide) ?_
        refine V_sub [(0, .ref _), (1, .int _), (2, .int _), (3, .int _)] [1, 2, 3, 0] rfl ?_
        exact ih _ _
      · refine V_goto 105 hC dX9_mayJudge_51 (by decide) ?_
        refine V_inc (k := 3) (y := 1) [(3, .int _), (0, .ref _), (1, .int _), (2, .int _)] hC dX9_mayJudge_105 rfl (by decide) (by decide) rfl ?_
        refine V_goto 28 hC dX9_mayJudge_108 (by decide) ?_
        refine V_sub [(0, .ref _), (1, .int _), (2, .int _), (3, .int _)] [1, 2, 3, 0] rfl ?_
        exact ih _ _
set_option maxRecDepth 100000 in
set_option maxHeartbeats 4000000 in
theorem kX9_mayJudge (G : iw_G) (v1 : Int32) (v2 : Int32) (z : iw_M) : iw_K G iw_wM yX9_mayJudge cX9_mayJudge 5 (some .boolean) 1 23 iw_ei [.ref (iw_ad G 0), .int v1, .int v2] z (fX9_mayJudge v1 v2 z) := by
  refine iw_of [(0, .ref (iw_ad G 0)), (1, .int v1), (2, .int v2)] (by decide +kernel) (Nat.le_of_ble_eq_true rfl) rfl ?_
  intro X hC
  unfold fX9_mayJudge
  refine V_aln hC dX9_mayJudge_0 0 rfl ?_
  refine V_gr hC fl_X9_35 (by decide) rfl rfl dX9_mayJudge_1 ?_
  refine V_iln hC dX9_mayJudge_4 1 rfl ?_
  refine V_ba hC (by decide) rfl dX9_mayJudge_5 ?_
  refine V_ieq 24 hC dX9_mayJudge_6 (by decide) ?_ ?_
  · refine V_ic (x := 0) hC dX9_mayJudge_24 (by decide) ?_
    exact V_zr hC dX9_mayJudge_25 rfl rfl
  · refine V_aln hC dX9_mayJudge_9 0 rfl ?_
    refine V_gr hC fl_X9_22 (by decide) rfl rfl dX9_mayJudge_10 ?_
    refine V_iln hC dX9_mayJudge_13 1 rfl ?_
    refine V_ia hC (by decide) rfl dX9_mayJudge_14 ?_
    refine V_aln hC dX9_mayJudge_15 0 rfl ?_
    refine V_gr hC fl_X9_45 (by decide) rfl rfl dX9_mayJudge_16 ?_
    refine V_iln hC dX9_mayJudge_19 2 rfl ?_
    refine V_ia hC (by decide) rfl dX9_mayJudge_20 ?_
    refine V_cne 26 hC dX9_mayJudge_21 (by decide) ?_ ?_
    · refine V_ic (x := 0) hC dX9_mayJudge_26 (by decide) ?_
      refine V_isn [(3, .int _), (0, .ref _), (1, .int _), (2, .int _)] hC dX9_mayJudge_27 (by decide) rfl ?_
      refine V_sub [(0, .ref _), (1, .int _), (2, .int _), (3, .int _)] [1, 2, 3, 0] rfl ?_
      refine vX9_mayJudge_L28 hC _ _ _ ?_ _ _ _
      intro x3_3 z_3
      refine V_ic (x := 1) hC dX9_mayJudge_111 (by decide) ?_
      exact V_zr hC dX9_mayJudge_112 rfl rfl
    · refine V_ic (x := 0) hC dX9_mayJudge_24 (by decide) ?_
      exact V_zr hC dX9_mayJudge_25 rfl rfl
