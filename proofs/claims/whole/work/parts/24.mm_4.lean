def fX9_paysToday_L119 (v1 : Int32) (v4 : Int32) (v5 : Int32) (K : Int32 → iw_M → Option (Int32 × iw_M)) : Nat → Int32 → iw_M → Option (Int32 × iw_M)
  | 0, _, _ => none
  | n + 1, v6, z => (if iw_ok v1 40 then
  (if (z.1 16 (Int32.toNatClampNeg v1)) ≤ v6 then
  K v6 z
  else
  (if iw_ok (((6 : Int32) * v1) + v6) 240 then
  (if iw_ok (z.1 17 (Int32.toNatClampNeg (((6 : Int32) * v1) + v6))) 40 then
  (if iw_ok (z.1 17 (Int32.toNatClampNeg (((6 : Int32) * v1) + v6))) 40 then
  fX9_paysToday_L119 v1 v4 v5 K n (v6 + (1 : Int32)) (iw_wI z 3 (Int32.toNatClampNeg (z.1 17 (Int32.toNatClampNeg (((6 : Int32) * v1) + v6)))) ((z.1 3 (Int32.toNatClampNeg (z.1 17 (Int32.toNatClampNeg (((6 : Int32) * v1) + v6))))) + v5))
  else none)
  else none)
  else none))
  else none)
def fX9_paysToday (v1 : Int32) (z : iw_M) : Option (Int32 × iw_M) :=
  (if iw_ok v1 40 then
  (if iw_ok v1 40 then
  (if (z.1 12 (Int32.toNatClampNeg v1)) = (1 : Int32) then
  (if ((z.1 0 0) - (z.1 13 (Int32.toNatClampNeg v1))) = 0 then
  some ((0 : Int32), z)
  else
  (if (360 : Int32) = 0 then none else
  (if (((z.1 0 0) - (z.1 13 (Int32.toNatClampNeg v1))) - ((z.1 0 0) - (z.1 13 (Int32.toNatClampNeg v1))) / (360 : Int32) * (360 : Int32)) = 0 then
  (if iw_ok v1 40 then
  ((fX9_ruleFor (z.1 31 (Int32.toNatClampNeg v1)) z).bind (fun q1 =>
  (if q1.1 = (-9 : Int32) then
  some ((0 : Int32), q1.2)
  else
  (if (360 : Int32) = 0 then none else
  (if iw_ok q1.1 20 then
  (if (((z.1 0 0) - (z.1 13 (Int32.toNatClampNeg v1))) / (360 : Int32)) ≤ (q1.2.1 28 (Int32.toNatClampNeg q1.1)) then
  (if iw_ok v1 40 then
  (if iw_ok q1.1 20 then
  (if iw_ok q1.1 20 then
  ((fX9_pay (q1.2.1 31 (Int32.toNatClampNeg v1)) (q1.2.1 26 (Int32.toNatClampNeg q1.1)) (q1.2.1 27 (Int32.toNatClampNeg q1.1)) q1.2).bind (fun q2 =>
  ((fX9_shareOf v1 q2.2).bind (fun q3 =>
  (if (1000 : Int32) = 0 then none else
  (if iw_ok v1 40 then
  (if ((1 : Int32) + (q3.2.1 16 (Int32.toNatClampNeg v1))) = 0 then none else
  fX9_paysToday_L119 v1 ((q2.1 * q3.1) / (1000 : Int32)) (((q2.1 * q3.1) / (1000 : Int32)) / ((1 : Int32) + (q3.2.1 16 (Int32.toNatClampNeg v1)))) (fun x6_4 z_4 => (if iw_ok v1 40 then
  (if iw_ok (z_4.1 7 (Int32.toNatClampNeg v1)) 40 then
  (if iw_ok v1 40 then
  (if iw_ok (z_4.1 7 (Int32.toNatClampNeg v1)) 40 then
  (if iw_ok v1 40 then
  (if iw_ok v1 40 then
  some (((q2.1 * q3.1) / (1000 : Int32)), (iw_wI (iw_wI (iw_wI z_4 3 (Int32.toNatClampNeg (z_4.1 7 (Int32.toNatClampNeg v1))) ((z_4.1 3 (Int32.toNatClampNeg (z_4.1 7 (Int32.toNatClampNeg v1)))) + (((q2.1 * q3.1) / (1000 : Int32)) - ((((q2.1 * q3.1) / (1000 : Int32)) / ((1 : Int32) + (q3.2.1 16 (Int32.toNatClampNeg v1)))) * (z_4.1 16 (Int32.toNatClampNeg v1)))))) 14 (Int32.toNatClampNeg v1) (((iw_wI z_4 3 (Int32.toNatClampNeg (z_4.1 7 (Int32.toNatClampNeg v1))) ((z_4.1 3 (Int32.toNatClampNeg (z_4.1 7 (Int32.toNatClampNeg v1)))) + (((q2.1 * q3.1) / (1000 : Int32)) - ((((q2.1 * q3.1) / (1000 : Int32)) / ((1 : Int32) + (q3.2.1 16 (Int32.toNatClampNeg v1)))) * (z_4.1 16 (Int32.toNatClampNeg v1)))))).1 14 (Int32.toNatClampNeg v1)) + ((q2.1 * q3.1) / (1000 : Int32)))) 0 10 (((iw_wI (iw_wI z_4 3 (Int32.toNatClampNeg (z_4.1 7 (Int32.toNatClampNeg v1))) ((z_4.1 3 (Int32.toNatClampNeg (z_4.1 7 (Int32.toNatClampNeg v1)))) + (((q2.1 * q3.1) / (1000 : Int32)) - ((((q2.1 * q3.1) / (1000 : Int32)) / ((1 : Int32) + (q3.2.1 16 (Int32.toNatClampNeg v1)))) * (z_4.1 16 (Int32.toNatClampNeg v1)))))) 14 (Int32.toNatClampNeg v1) (((iw_wI z_4 3 (Int32.toNatClampNeg (z_4.1 7 (Int32.toNatClampNeg v1))) ((z_4.1 3 (Int32.toNatClampNeg (z_4.1 7 (Int32.toNatClampNeg v1)))) + (((q2.1 * q3.1) / (1000 : Int32)) - ((((q2.1 * q3.1) / (1000 : Int32)) / ((1 : Int32) + (q3.2.1 16 (Int32.toNatClampNeg v1)))) * (z_4.1 16 (Int32.toNatClampNeg v1)))))).1 14 (Int32.toNatClampNeg v1)) + ((q2.1 * q3.1) / (1000 : Int32)))).1 0 10) + ((q2.1 * q3.1) / (1000 : Int32)))))
  else none)
  else none)
  else none)
  else none)
  else none)
  else none)) iw_fu (0 : Int32) q3.2)
  else none))))))
  else none)
  else none)
  else none)
  else
  some ((0 : Int32), q1.2))
  else none)))))
  else none)
  else
  some ((0 : Int32), z))))
  else
  some ((0 : Int32), z))
  else none)
  else none)
abbrev bX9_paysToday : iw_B := (cX9_paysToday, 7, { frames := 3, cells := 0, slots := 0, locals := 78 }, yX9_paysToday.cls, (some .int))
set_option maxRecDepth 100000 in
set_option maxHeartbeats 4000000 in
theorem vX9_paysToday_L119 {G : iw_G} {X : iw_X} (hC : iw_C G iw_wM X bX9_paysToday) (v1 : Int32) (v4 : Int32) (v5 : Int32) (K : Int32 → iw_M → Option (Int32 × iw_M)) (hK : ∀ (v6 : Int32) (z : iw_M), iw_V G iw_wM X bX9_paysToday iw_ei 158 [(0, .ref (iw_ad G 0)), (1, .int v1), (4, .int v4), (5, .int v5), (6, .int v6)] [] z (K v6 z)) : ∀ (n : Nat) (v6 : Int32) (z : iw_M), iw_V G iw_wM X bX9_paysToday iw_ei 119 [(0, .ref (iw_ad G 0)), (1, .int v1), (4, .int v4), (5, .int v5), (6, .int v6)] [] z (fX9_paysToday_L119 v1 v4 v5 K n v6 z) := by
  intro n
  induction n with
  | zero =>
    intro v6 z
    exact V_none
  | succ n ih =>
    intro v6 z
    simp only [fX9_paysToday_L119]
    refine V_il hC dX9_paysToday_119 4 rfl ?_
    refine V_aln hC dX9_paysToday_121 0 rfl ?_
    refine V_gr hC fl_X9_69 (by decide) rfl rfl dX9_paysToday_122 ?_
    refine V_iln hC dX9_paysToday_125 1 rfl ?_
    refine V_ia hC (by decide) rfl dX9_paysToday_126 ?_
    refine V_cge 158 hC dX9_paysToday_127 (by decide) ?_ ?_
    · exact hK _ _
    · refine V_aln hC dX9_paysToday_130 0 rfl ?_
      refine V_gr hC fl_X9_29 (by decide) rfl rfl dX9_paysToday_131 ?_
      refine V_aln hC dX9_paysToday_134 0 rfl ?_
      refine V_gr hC fl_X9_72 (by decide) rfl rfl dX9_paysToday_135 ?_
      refine V_bip (x := 6) hC dX9_paysToday_138 (by decide) ?_
      refine V_iln hC dX9_paysToday_140 1 rfl ?_
      refine V_imul hC dX9_paysToday_141 ?_
      refine V_il hC dX9_paysToday_142 4 rfl ?_
      refine V_iadd hC dX9_paysToday_144 ?_
      refine V_ia hC (by decide) rfl dX9_paysToday_145 ?_
      refine V_dup2 hC dX9_paysToday_146 rfl rfl ?_
      refine V_ia hC (by decide) rfl dX9_paysToday_147 ?_
      refine V_il hC dX9_paysToday_148 3 rfl ?_
      refine V_iadd hC dX9_paysToday_150 ?_
      refine V_is_ hC (by decide) rfl dX9_paysToday_151 ?_
      refine V_inc (k := 4) (y := 1) [(6, .int _), (0, .ref _), (1, .int _), (4, .int _), (5, .int _)] hC dX9_paysToday_152 rfl (by decide) (by decide) rfl ?_
      refine V_goto 119 hC dX9_paysToday_155 (by decide) ?_
      refine V_sub [(0, .ref _), (1, .int _), (4, .int _), (5, .int _), (6, .int _)] [1, 2, 3, 4, 0] rfl ?_
      exact ih _ _
set_option maxRecDepth 100000 in
set_option maxHeartbeats 4000000 in
theorem kX9_paysToday (G : iw_G) (v1 : Int32) (z : iw_M) : iw_K G iw_wM yX9_paysToday cX9_paysToday 7 (some .int) 3 78 iw_ei [.ref (iw_ad G 0), .int v1] z (fX9_paysToday v1 z) := by
  refine iw_of [(0, .ref (iw_ad G 0)), (1, .int v1)] (by decide +kernel) (Nat.le_of_ble_eq_true rfl) rfl ?_
  intro X hC
  unfold fX9_paysToday
  refine V_aln hC dX9_paysToday_0 0 rfl ?_
  refine V_gi hC fl_X9_138 (by decide) rfl rfl dX9_paysToday_1 ?_
  refine V_aln hC dX9_paysToday_4 0 rfl ?_
  refine V_gr hC fl_X9_60 (by decide) rfl rfl dX9_paysToday_5 ?_
  refine V_iln hC dX9_paysToday_8 1 rfl ?_
  refine V_ia hC (by decide) rfl dX9_paysToday_9 ?_
  refine V_isub hC dX9_paysToday_10 ?_
  refine V_isn [(2, .int _), (0, .ref _), (1, .int _)] hC dX9_paysToday_11 (by decide) rfl ?_
  refine V_aln hC dX9_paysToday_12 1 rfl ?_
  refine V_gr hC fl_X9_57 (by decide) rfl rfl dX9_paysToday_13 ?_
  refine V_iln hC dX9_paysToday_16 2 rfl ?_
  refine V_ia hC (by decide) rfl dX9_paysToday_17 ?_
  refine V_ic (x := 1) hC dX9_paysToday_18 (by decide) ?_
  refine V_cne 34 hC dX9_paysToday_19 (by decide) ?_ ?_
  · refine V_ic (x := 0) hC dX9_paysToday_34 (by decide) ?_
    exact V_ir hC dX9_paysToday_35 rfl
  · refine V_iln hC dX9_paysToday_22 0 rfl ?_
    refine V_ieq 34 hC dX9_paysToday_23 (by decide) ?_ ?_
    · refine V_ic (x := 0) hC dX9_paysToday_34 (by decide) ?_
      exact V_ir hC dX9_paysToday_35 rfl
    · refine V_iln hC dX9_paysToday_26 0 rfl ?_
      refine V_sip (x := 360) hC dX9_paysToday_27 (by decide) ?_
      refine V_irem hC dX9_paysToday_30 ?_
      refine V_ieq 36 hC dX9_paysToday_31 (by decide) ?_ ?_
      · refine V_aln hC dX9_paysToday_36 1 rfl ?_
        refine V_aln hC dX9_paysToday_37 1 rfl ?_
        refine V_gr hC fl_X9_114 (by decide) rfl rfl dX9_paysToday_38 ?_
        refine V_iln hC dX9_paysToday_41 2 rfl ?_
        refine V_ia hC (by decide) rfl dX9_paysToday_42 ?_
        refine V_cvi [] hC cv_X9_201 (by decide) rfl rfl (kX9_ruleFor G _ _) rfl rfl (Nat.le_of_ble_eq_true rfl) ⟨by decide, by decide⟩ dX9_paysToday_43 ?_
        intro q1
        refine V_isn [(3, .int _), (2, .int _), (0, .ref _), (1, .int _)] hC dX9_paysToday_46 (by decide) rfl ?_
        refine V_iln hC dX9_paysToday_47 0 rfl ?_
        refine V_bip (x := -9) hC dX9_paysToday_48 (by decide) ?_
        refine V_ceq 67 hC dX9_paysToday_50 (by decide) ?_ ?_
        · refine V_ic (x := 0) hC dX9_paysToday_67 (by decide) ?_
          exact V_ir hC dX9_paysToday_68 rfl
        · refine V_iln hC dX9_paysToday_53 1 rfl ?_
          refine V_sip (x := 360) hC dX9_paysToday_54 (by decide) ?_
          refine V_idiv hC dX9_paysToday_57 ?_
          refine V_aln hC dX9_paysToday_58 2 rfl ?_
          refine V_gr hC fl_X9_105 (by decide) rfl rfl dX9_paysToday_59 ?_
          refine V_iln hC dX9_paysToday_62 0 rfl ?_
          refine V_ia hC (by decide) rfl dX9_paysToday_63 ?_
          refine V_cle 69 hC dX9_paysToday_64 (by decide) ?_ ?_
          · refine V_aln hC dX9_paysToday_69 2 rfl ?_
            refine V_aln hC dX9_paysToday_70 2 rfl ?_
            refine V_gr hC fl_X9_114 (by decide) rfl rfl dX9_paysToday_71 ?_
            refine V_iln hC dX9_paysToday_74 3 rfl ?_
            refine V_ia hC (by decide) rfl dX9_paysToday_75 ?_
            refine V_aln hC dX9_paysToday_76 2 rfl ?_
            refine V_gr hC fl_X9_99 (by decide) rfl rfl dX9_paysToday_77 ?_
            refine V_iln hC dX9_paysToday_80 0 rfl ?_
            refine V_ia hC (by decide) rfl dX9_paysToday_81 ?_
            refine V_aln hC dX9_paysToday_82 2 rfl ?_
            refine V_gr hC fl_X9_102 (by decide) rfl rfl dX9_paysToday_83 ?_
            refine V_iln hC dX9_paysToday_86 0 rfl ?_
            refine V_ia hC (by decide) rfl dX9_paysToday_87 ?_
            refine V_cvi [] hC cv_X9_204 (by decide) rfl rfl (kX9_pay G _ _ _ _) rfl rfl (Nat.le_of_ble_eq_true rfl) ⟨by decide, by decide⟩ dX9_paysToday_88 ?_
            intro q2
            refine V_aln hC dX9_paysToday_91 2 rfl ?_
            refine V_iln hC dX9_paysToday_92 3 rfl ?_
            refine V_cvi [.int _] hC cv_X9_165 (by decide) rfl rfl (kX9_shareOf G _ _) rfl rfl (Nat.le_of_ble_eq_true rfl) ⟨by decide, by decide⟩ dX9_paysToday_93 ?_
            intro q3
            refine V_imul hC dX9_paysToday_96 ?_
            refine V_sip (x := 1000) hC dX9_paysToday_97 (by decide) ?_
            refine V_idiv hC dX9_paysToday_100 ?_
            refine V_is [(4, .int _), (3, .int _), (2, .int _), (0, .ref _), (1, .int _)] hC dX9_paysToday_101 (by decide) rfl ?_
            refine V_il hC dX9_paysToday_103 0 rfl ?_
            refine V_ic (x := 1) hC dX9_paysToday_105 (by decide) ?_
            refine V_aln hC dX9_paysToday_106 3 rfl ?_
            refine V_gr hC fl_X9_69 (by decide) rfl rfl dX9_paysToday_107 ?_
            refine V_iln hC dX9_paysToday_110 4 rfl ?_
            refine V_ia hC (by decide) rfl dX9_paysToday_111 ?_
            refine V_iadd hC dX9_paysToday_112 ?_
            refine V_idiv hC dX9_paysToday_113 ?_
            refine V_is [(5, .int _), (4, .int _), (3, .int _), (2, .int _), (0, .ref _), (1, .int _)] hC dX9_paysToday_114 (by decide) rfl ?_
            refine V_ic (x := 0) hC dX9_paysToday_116 (by decide) ?_
            refine V_is [(6, .int _), (5, .int _), (4, .int _), (3, .int _), (2, .int _), (0, .ref _), (1, .int _)] hC dX9_paysToday_117 (by decide) rfl ?_
            refine V_sub [(0, .ref _), (1, .int _), (4, .int _), (5, .int _), (6, .int _)] [5, 6, 2, 1, 0] rfl ?_
            refine vX9_paysToday_L119 hC _ _ _ _ ?_ _ _ _
            intro x6_4 z_4
            refine V_aln hC dX9_paysToday_158 0 rfl ?_
            refine V_gr hC fl_X9_29 (by decide) rfl rfl dX9_paysToday_159 ?_
            refine V_aln hC dX9_paysToday_162 0 rfl ?_
            refine V_gr hC fl_X9_42 (by decide) rfl rfl dX9_paysToday_163 ?_
            refine V_iln hC dX9_paysToday_166 1 rfl ?_
            refine V_ia hC (by decide) rfl dX9_paysToday_167 ?_
            refine V_dup2 hC dX9_paysToday_168 rfl rfl ?_
            refine V_ia hC (by decide) rfl dX9_paysToday_169 ?_
            refine V_il hC dX9_paysToday_170 2 rfl ?_
            refine V_il hC dX9_paysToday_172 3 rfl ?_
            refine V_aln hC dX9_paysToday_174 0 rfl ?_
            refine V_gr hC fl_X9_69 (by decide) rfl rfl dX9_paysToday_175 ?_
            refine V_iln hC dX9_paysToday_178 1 rfl ?_
            refine V_ia hC (by decide) rfl dX9_paysToday_179 ?_
            refine V_imul hC dX9_paysToday_180 ?_
            refine V_isub hC dX9_paysToday_181 ?_
            refine V_iadd hC dX9_paysToday_182 ?_
            refine V_is_ hC (by decide) rfl dX9_paysToday_183 ?_
            refine V_aln hC dX9_paysToday_184 0 rfl ?_
            refine V_gr hC fl_X9_63 (by decide) rfl rfl dX9_paysToday_185 ?_
            refine V_iln hC dX9_paysToday_188 1 rfl ?_
            refine V_dup2 hC dX9_paysToday_189 rfl rfl ?_
            refine V_ia hC (by decide) rfl dX9_paysToday_190 ?_
            refine V_il hC dX9_paysToday_191 2 rfl ?_
            refine V_iadd hC dX9_paysToday_193 ?_
            refine V_is_ hC (by decide) rfl dX9_paysToday_194 ?_
            refine V_aln hC dX9_paysToday_195 0 rfl ?_
            refine V_dup hC dX9_paysToday_196 rfl ?_
            refine V_gi hC fl_X9_207 (by decide) rfl rfl dX9_paysToday_197 ?_
            refine V_il hC dX9_paysToday_200 2 rfl ?_
            refine V_iadd hC dX9_paysToday_202 ?_
            refine V_pi hC fp_X9_207 (by decide) rfl rfl dX9_paysToday_203 ?_
            refine V_il hC dX9_paysToday_206 2 rfl ?_
            exact V_ir hC dX9_paysToday_208 rfl
          · refine V_ic (x := 0) hC dX9_paysToday_67 (by decide) ?_
            exact V_ir hC dX9_paysToday_68 rfl
      · refine V_ic (x := 0) hC dX9_paysToday_34 (by decide) ?_
        exact V_ir hC dX9_paysToday_35 rfl
def fX9_days_L61 (v1 : Int32) (v3 : Int32) (K : Int32 → Int32 → iw_M → Option (Int32 × iw_M)) : Nat → Int32 → Int32 → iw_M → Option (Int32 × iw_M)
  | 0, _, _, _ => none
  | n + 1, v2, v4, z => (if (z.1 0 2) ≤ v4 then
  K v2 v4 z
  else
  ((fX9_paysToday v4 z).bind (fun q2 =>
  fX9_days_L61 v1 v3 K n (v2 + q2.1) (v4 + (1 : Int32)) q2.2)))
def fX9_days_L43 (v1 : Int32) (K : Int32 → Int32 → iw_M → Option (Int32 × iw_M)) : Nat → Int32 → Int32 → iw_M → Option (Int32 × iw_M)
  | 0, _, _, _ => none
  | n + 1, v2, v3, z => (if v1 ≤ v3 then
  K v2 v3 z
  else
  fX9_days_L61 v1 v3 (fun x2_3 x4_3 z_3 => fX9_days_L43 v1 K n x2_3 (v3 + (1 : Int32)) z_3) iw_fu v2 (0 : Int32) (iw_wI z 0 0 ((z.1 0 0) + (1 : Int32))))
def fX9_days (v1 : Int32) (z : iw_M) : Option (Int32 × iw_M) :=
  (if (1 : Int32) ≤ v1 then
  (if v1 ≤ ((3000 : Int32) - (z.1 0 0)) then
  ((fX9_families (z.1 0 6) z).bind (fun q1 =>
  fX9_days_L43 v1 (fun x2_4 x3_4 z_4 => some (x2_4, z_4)) iw_fu (0 : Int32) (0 : Int32) q1.2))
  else
  ((fX9_no (-6 : Int32) z).bind (fun q5 =>
  some (q5.1, q5.2))))
  else
  ((fX9_no (-4 : Int32) z).bind (fun q6 =>
  some (q6.1, q6.2))))
abbrev bX9_days : iw_B := (cX9_days, 5, { frames := 4, cells := 0, slots := 0, locals := 104 }, yX9_days.cls, (some .int))
set_option maxRecDepth 100000 in
set_option maxHeartbeats 4000000 in
theorem vX9_days_L61 {G : iw_G} {X : iw_X} (hC : iw_C G iw_wM X bX9_days) (v1 : Int32) (v3 : Int32) (K : Int32 → Int32 → iw_M → Option (Int32 × iw_M)) (hK : ∀ (v2 : Int32) (v4 : Int32) (z : iw_M), iw_V G iw_wM X bX9_days iw_ei 85 [(0, .ref (iw_ad G 0)), (1, .int v1), (2, .int v2), (3, .int v3), (4, .int v4)] [] z (K v2 v4 z)) : ∀ (n : Nat) (v2 : Int32) (v4 : Int32) (z : iw_M), iw_V G iw_wM X bX9_days iw_ei 61 [(0, .ref (iw_ad G 0)), (1, .int v1), (2, .int v2), (3, .int v3), (4, .int v4)] [] z (fX9_days_L61 v1 v3 K n v2 v4 z) := by
  intro n
  induction n with
  | zero =>
    intro v2 v4 z
    exact V_none
  | succ n ih =>
    intro v2 v4 z
    simp only [fX9_days_L61]
    refine V_il hC dX9_days_61 4 rfl ?_
    refine V_aln hC dX9_days_63 0 rfl ?_
    refine V_gi hC fl_X9_120 (by decide) rfl rfl dX9_days_64 ?_
    refine V_cge 85 hC dX9_days_67 (by decide) ?_ ?_
    · exact hK _ _ _
    · refine V_iln hC dX9_days_70 2 rfl ?_
      refine V_aln hC dX9_days_71 0 rfl ?_
      refine V_il hC dX9_days_72 4 rfl ?_
      refine V_cvi [.int _] hC cv_X9_210 (by decide) rfl rfl (kX9_paysToday G _ _) rfl rfl (Nat.le_of_ble_eq_true rfl) ⟨by decide, by decide⟩ dX9_days_74 ?_
      intro q2
      refine V_iadd hC dX9_days_77 ?_
      refine V_isn [(2, .int _), (0, .ref _), (1, .int _), (3, .int _), (4, .int _)] hC dX9_days_78 (by decide) rfl ?_
      refine V_inc (k := 4) (y := 1) [(4, .int _), (2, .int _), (0, .ref _), (1, .int _), (3, .int _)] hC dX9_days_79 rfl (by decide) (by decide) rfl ?_
      refine V_goto 61 hC dX9_days_82 (by decide) ?_
      refine V_sub [(0, .ref _), (1, .int _), (2, .int _), (3, .int _), (4, .int _)] [2, 3, 1, 4, 0] rfl ?_
      exact ih _ _ _
set_option maxRecDepth 100000 in
set_option maxHeartbeats 4000000 in
theorem vX9_days_L43 {G : iw_G} {X : iw_X} (hC : iw_C G iw_wM X bX9_days) (v1 : Int32) (K : Int32 → Int32 → iw_M → Option (Int32 × iw_M)) (hK : ∀ (v2 : Int32) (v3 : Int32) (z : iw_M), iw_V G iw_wM X bX9_days iw_ei 91 [(0, .ref (iw_ad G 0)), (1, .int v1), (2, .int v2), (3, .int v3)] [] z (K v2 v3 z)) : ∀ (n : Nat) (v2 : Int32) (v3 : Int32) (z : iw_M), iw_V G iw_wM X bX9_days iw_ei 43 [(0, .ref (iw_ad G 0)), (1, .int v1), (2, .int v2), (3, .int v3)] [] z (fX9_days_L43 v1 K n v2 v3 z) := by
  intro n
  induction n with
  | zero =>
    intro v2 v3 z
    exact V_none
  | succ n ih =>
    intro v2 v3 z
    simp only [fX9_days_L43]
    refine V_iln hC dX9_days_43 3 rfl ?_
    refine V_iln hC dX9_days_44 1 rfl ?_
    refine V_cge 91 hC dX9_days_45 (by decide) ?_ ?_
    · exact hK _ _ _
    · refine V_aln hC dX9_days_48 0 rfl ?_
      refine V_dup hC dX9_days_49 rfl ?_
      refine V_gi hC fl_X9_138 (by decide) rfl rfl dX9_days_50 ?_
      refine V_ic (x := 1) hC dX9_days_53 (by decide) ?_
      refine V_iadd hC dX9_days_54 ?_
      refine V_pi hC fp_X9_138 (by decide) rfl rfl dX9_days_55 ?_
      refine V_ic (x := 0) hC dX9_days_58 (by decide) ?_
      refine V_is [(4, .int _), (0, .ref _), (1, .int _), (2, .int _), (3, .int _)] hC dX9_days_59 (by decide) rfl ?_
      refine V_sub [(0, .ref _), (1, .int _), (2, .int _), (3, .int _), (4, .int _)] [1, 2, 3, 4, 0] rfl ?_
      refine vX9_days_L61 hC _ _ _ ?_ _ _ _ _
      intro x2_3 x4_3 z_3
      refine V_inc (k := 3) (y := 1) [(3, .int _), (0, .ref _), (1, .int _), (2, .int _), (4, .int _)] hC dX9_days_85 rfl (by decide) (by decide) rfl ?_
      refine V_goto 43 hC dX9_days_88 (by decide) ?_
      refine V_sub [(0, .ref _), (1, .int _), (2, .int _), (3, .int _)] [1, 2, 3, 0] rfl ?_
      exact ih _ _ _
set_option maxRecDepth 100000 in
set_option maxHeartbeats 4000000 in
theorem kX9_days (G : iw_G) (v1 : Int32) (z : iw_M) : iw_K G iw_wM yX9_days cX9_days 5 (some .int) 4 104 iw_ei [.ref (iw_ad G 0), .int v1] z (fX9_days v1 z) := by
  refine iw_of [(0, .ref (iw_ad G 0)), (1, .int v1)] (by decide +kernel) (Nat.le_of_ble_eq_true rfl) rfl ?_
  intro X hC
  unfold fX9_days
  refine V_iln hC dX9_days_0 1 rfl ?_
  refine V_ic (x := 1) hC dX9_days_1 (by decide) ?_
  refine V_cge 12 hC dX9_days_2 (by decide) ?_ ?_
  · refine V_iln hC dX9_days_12 1 rfl ?_
    refine V_sip (x := 3000) hC dX9_days_13 (by decide) ?_
    refine V_aln hC dX9_days_16 0 rfl ?_
    refine V_gi hC fl_X9_138 (by decide) rfl rfl dX9_days_17 ?_
    refine V_isub hC dX9_days_20 ?_
    refine V_cle 31 hC dX9_days_21 (by decide) ?_ ?_
    · refine V_aln hC dX9_days_31 0 rfl ?_
      refine V_aln hC dX9_days_32 0 rfl ?_
      refine V_gi hC fl_X9_7 (by decide) rfl rfl dX9_days_33 ?_
      refine V_cvv [] hC cv_X9_155 (by decide) rfl rfl (kX9_families G _ _) rfl rfl (Nat.le_of_ble_eq_true rfl) ⟨by decide, by decide⟩ dX9_days_36 ?_
      intro q1
      refine V_ic (x := 0) hC dX9_days_39 (by decide) ?_
      refine V_isn [(2, .int _), (0, .ref _), (1, .int _)] hC dX9_days_40 (by decide) rfl ?_
      refine V_ic (x := 0) hC dX9_days_41 (by decide) ?_
      refine V_isn [(3, .int _), (2, .int _), (0, .ref _), (1, .int _)] hC dX9_days_42 (by decide) rfl ?_
      refine V_sub [(0, .ref _), (1, .int _), (2, .int _), (3, .int _)] [2, 3, 1, 0] rfl ?_
      refine vX9_days_L43 hC _ _ ?_ _ _ _ _
      intro x2_4 x3_4 z_4
      refine V_iln hC dX9_days_91 2 rfl ?_
      exact V_ir hC dX9_days_92 rfl
    · refine V_aln hC dX9_days_24 0 rfl ?_
      refine V_bip (x := -6) hC dX9_days_25 (by decide) ?_
      refine V_cvi [] hC cv_X9_128 (by decide) rfl rfl (kX9_no G _ _) rfl rfl (Nat.le_of_ble_eq_true rfl) ⟨by decide, by decide⟩ dX9_days_27 ?_
      intro q5
      exact V_ir hC dX9_days_30 rfl
  · refine V_aln hC dX9_days_5 0 rfl ?_
    refine V_bip (x := -4) hC dX9_days_6 (by decide) ?_
    refine V_cvi [] hC cv_X9_128 (by decide) rfl rfl (kX9_no G _ _) rfl rfl (Nat.le_of_ble_eq_true rfl) ⟨by decide, by decide⟩ dX9_days_8 ?_
    intro q6
    exact V_ir hC dX9_days_11 rfl
def fX9_work_J121 (v1 : Int32) (v2 : Int32) (v3 : Int32) (v4 : Int32) (v5 : Int32) (s0 : Int32) (Rc K : Int32 → Int32 → iw_M → Option (Int32 × iw_M)) (z : iw_M) : Option (Int32 × iw_M) :=
  (if v3 = (-9 : Int32) then
  Rc v4 (v4 + (1 : Int32)) z
  else
  (if s0 < v5 then
  Rc v4 (v4 + (1 : Int32)) z
  else
  (if v5 = s0 then
  ((fX9_isAhead v4 v3 z).bind (fun q6 =>
  (if q6.1 = 0 then
  Rc v3 (v4 + (1 : Int32)) q6.2
  else
  Rc v4 (v4 + (1 : Int32)) q6.2)))
  else
  Rc v3 (v4 + (1 : Int32)) z)))
def fX9_work_L42 (v1 : Int32) (v2 : Int32) (K : Int32 → Int32 → iw_M → Option (Int32 × iw_M)) : Nat → Int32 → Int32 → iw_M → Option (Int32 × iw_M)
  | 0, _, _, _ => none
  | n + 1, v3, v4, z => (if (z.1 0 2) ≤ v4 then
  K v3 v4 z
  else
  (if iw_ok v4 40 then
  (if (z.1 12 (Int32.toNatClampNeg v4)) = (2 : Int32) then
  (if iw_ok v4 40 then
  (if (z.1 8 (Int32.toNatClampNeg v4)) = v1 then
  (if iw_ok v4 40 then
  ((fX9_likeness (z.1 9 (Int32.toNatClampNeg v4)) v2 z).bind (fun q4 =>
  (if (q4.2.1 0 6) ≤ q4.1 then
  (if v3 = (-9 : Int32) then
  fX9_work_J121 v1 v2 v3 v4 q4.1 (0 : Int32) (fun w3 w4 zz => fX9_work_L42 v1 v2 K n w3 w4 zz) (fun w3 w4 zz => K w3 w4 zz) q4.2
  else
  (if iw_ok v3 40 then
  ((fX9_likeness (q4.2.1 9 (Int32.toNatClampNeg v3)) v2 q4.2).bind (fun q5 =>
  fX9_work_J121 v1 v2 v3 v4 q4.1 q5.1 (fun w3 w4 zz => fX9_work_L42 v1 v2 K n w3 w4 zz) (fun w3 w4 zz => K w3 w4 zz) q5.2))
  else none))
  else
  fX9_work_L42 v1 v2 K n v3 (v4 + (1 : Int32)) q4.2)))
  else none)
  else
  fX9_work_L42 v1 v2 K n v3 (v4 + (1 : Int32)) z)
  else none)
  else
  fX9_work_L42 v1 v2 K n v3 (v4 + (1 : Int32)) z)
  else none))
def fX9_work (v1 : Int32) (v2 : Int32) (z : iw_M) : Option (Int32 × iw_M) :=
  ((fX9_isShop v1 z).bind (fun q1 =>
  (if q1.1 = 0 then
  ((fX9_no (-1 : Int32) q1.2).bind (fun q2 =>
  some (q2.1, q2.2)))
  else
  ((fX9_isMarks v2 q1.2).bind (fun q3 =>
  (if q3.1 = 0 then
  ((fX9_no (-1 : Int32) q3.2).bind (fun q9 =>
  some (q9.1, q9.2)))
  else
  (if (q3.2.1 0 5) = (20 : Int32) then
  ((fX9_no (-6 : Int32) q3.2).bind (fun q8 =>
  some (q8.1, q8.2)))
  else
  fX9_work_L42 v1 v2 (fun x3_7 x4_7 z_7 => (if iw_ok (z_7.1 0 5) 20 then
  (if x3_7 = (-9 : Int32) then
  some (x3_7, (iw_wI (iw_wI z_7 0 5 ((z_7.1 0 5) + (1 : Int32))) 29 (Int32.toNatClampNeg (z_7.1 0 5)) x3_7))
  else
  (if iw_ok x3_7 40 then
  some (x3_7, (iw_wI (iw_wI (iw_wI z_7 0 5 ((z_7.1 0 5) + (1 : Int32))) 29 (Int32.toNatClampNeg (z_7.1 0 5)) x3_7) 18 (Int32.toNatClampNeg x3_7) (vp_nar .boolean (1 : Int32))))
  else none))
  else none)) iw_fu (-9 : Int32) (0 : Int32) q3.2)))))))
abbrev bX9_work : iw_B := (cX9_work, 7, { frames := 2, cells := 0, slots := 0, locals := 43 }, yX9_work.cls, (some .int))
set_option maxRecDepth 100000 in
set_option maxHeartbeats 4000000 in
theorem vX9_work_J121 {G : iw_G} {X : iw_X} (hC : iw_C G iw_wM X bX9_work) (v1 : Int32) (v2 : Int32) (v3 : Int32) (v4 : Int32) (v5 : Int32) (s0 : Int32) (Rc K : Int32 → Int32 → iw_M → Option (Int32 × iw_M)) (hR : ∀ (w3 : Int32) (w4 : Int32) (z : iw_M), iw_V G iw_wM X bX9_work iw_ei 42 [(0, .ref (iw_ad G 0)), (1, .int v1), (2, .int v2), (3, .int w3), (4, .int w4)] [] z (Rc w3 w4 z)) (hK : ∀ (w3 : Int32) (w4 : Int32) (z : iw_M), iw_V G iw_wM X bX9_work iw_ei 162 [(0, .ref (iw_ad G 0)), (1, .int v1), (2, .int v2), (3, .int w3), (4, .int w4)] [] z (K w3 w4 z)) (z : iw_M) : iw_V G iw_wM X bX9_work iw_ei 121 [(0, .ref (iw_ad G 0)), (1, .int v1), (2, .int v2), (3, .int v3), (4, .int v4), (5, .int v5)] [.int s0] z (fX9_work_J121 v1 v2 v3 v4 v5 s0 Rc K z) := by
  unfold fX9_work_J121
  refine V_is [(6, .int _), (0, .ref _), (1, .int _), (2, .int _), (3, .int _), (4, .int _), (5, .int _)] hC dX9_work_121 (by decide) rfl ?_
  refine V_iln hC dX9_work_123 4 rfl ?_
  refine V_bip (x := -9) hC dX9_work_124 (by decide) ?_
  refine V_ceq 153 hC dX9_work_126 (by decide) ?_ ?_
  · refine V_il hC dX9_work_153 5 rfl ?_
    refine V_isn [(3, .int _), (6, .int _), (0, .ref _), (1, .int _), (2, .int _), (4, .int _), (5, .int _)] hC dX9_work_155 (by decide) rfl ?_
    refine V_inc (k := 5) (y := 1) [(4, .int _), (3, .int _), (6, .int _), (0, .ref _), (1, .int _), (2, .int _), (5, .int _)] hC dX9_work_156 rfl (by decide) (by decide) rfl ?_
    refine V_goto 42 hC dX9_work_159 (by decide) ?_
    refine V_sub [(0, .ref _), (1, .int _), (2, .int _), (3, .int _), (4, .int _)] [3, 4, 5, 1, 0] rfl ?_
    exact hR _ _ _
  · refine V_il hC dX9_work_129 6 rfl ?_
    refine V_il hC dX9_work_131 0 rfl ?_
    refine V_cgt 153 hC dX9_work_133 (by decide) ?_ ?_
    · refine V_il hC dX9_work_153 5 rfl ?_
      refine V_isn [(3, .int _), (6, .int _), (0, .ref _), (1, .int _), (2, .int _), (4, .int _), (5, .int _)] hC dX9_work_155 (by decide) rfl ?_
      refine V_inc (k := 5) (y := 1) [(4, .int _), (3, .int _), (6, .int _), (0, .ref _), (1, .int _), (2, .int _), (5, .int _)] hC dX9_work_156 rfl (by decide) (by decide) rfl ?_
      refine V_goto 42 hC dX9_work_159 (by decide) ?_
      refine V_sub [(0, .ref _), (1, .int _), (2, .int _), (3, .int _), (4, .int _)] [3, 4, 5, 1, 0] rfl ?_
      exact hR _ _ _
    · refine V_il hC dX9_work_136 6 rfl ?_
      refine V_il hC dX9_work_138 0 rfl ?_
      refine V_cne 156 hC dX9_work_140 (by decide) ?_ ?_
      · refine V_inc (k := 5) (y := 1) [(4, .int _), (6, .int _), (0, .ref _), (1, .int _), (2, .int _), (3, .int _), (5, .int _)] hC dX9_work_156 rfl (by decide) (by decide) rfl ?_
        refine V_goto 42 hC dX9_work_159 (by decide) ?_
        refine V_sub [(0, .ref _), (1, .int _), (2, .int _), (3, .int _), (4, .int _)] [2, 3, 4, 5, 0] rfl ?_
        exact hR _ _ _
      · refine V_aln hC dX9_work_143 1 rfl ?_
        refine V_il hC dX9_work_144 5 rfl ?_
        refine V_iln hC dX9_work_146 4 rfl ?_
        refine V_cvi [] hC cv_X9_159 (by decide) rfl rfl (kX9_isAhead G _ _ _) rfl rfl (Nat.le_of_ble_eq_true rfl) ⟨by decide, by decide⟩ dX9_work_147 ?_
        intro q6
        refine V_ieq 156 hC dX9_work_150 (by decide) ?_ ?_
        · refine V_inc (k := 5) (y := 1) [(4, .int _), (6, .int _), (0, .ref _), (1, .int _), (2, .int _), (3, .int _), (5, .int _)] hC dX9_work_156 rfl (by decide) (by decide) rfl ?_
          refine V_goto 42 hC dX9_work_159 (by decide) ?_
          refine V_sub [(0, .ref _), (1, .int _), (2, .int _), (3, .int _), (4, .int _)] [2, 3, 4, 5, 0] rfl ?_
          exact hR _ _ _
        · refine V_il hC dX9_work_153 5 rfl ?_
          refine V_isn [(3, .int _), (6, .int _), (0, .ref _), (1, .int _), (2, .int _), (4, .int _), (5, .int _)] hC dX9_work_155 (by decide) rfl ?_
          refine V_inc (k := 5) (y := 1) [(4, .int _), (3, .int _), (6, .int _), (0, .ref _), (1, .int _), (2, .int _), (5, .int _)] hC dX9_work_156 rfl (by decide) (by decide) rfl ?_
          refine V_goto 42 hC dX9_work_159 (by decide) ?_
          refine V_sub [(0, .ref _), (1, .int _), (2, .int _), (3, .int _), (4, .int _)] [3, 4, 5, 1, 0] rfl ?_
          exact hR _ _ _
set_option maxRecDepth 100000 in
set_option maxHeartbeats 4000000 in
theorem vX9_work_L42 {G : iw_G} {X : iw_X} (hC : iw_C G iw_wM X bX9_work) (v1 : Int32) (v2 : Int32) (K : Int32 → Int32 → iw_M → Option (Int32 × iw_M)) (hK : ∀ (v3 : Int32) (v4 : Int32) (z : iw_M), iw_V G iw_wM X bX9_work iw_ei 162 [(0, .ref (iw_ad G 0)), (1, .int v1), (2, .int v2), (3, .int v3), (4, .int v4)] [] z (K v3 v4 z)) : ∀ (n : Nat) (v3 : Int32) (v4 : Int32) (z : iw_M), iw_V G iw_wM X bX9_work iw_ei 42 [(0, .ref (iw_ad G 0)), (1, .int v1), (2, .int v2), (3, .int v3), (4, .int v4)] [] z (fX9_work_L42 v1 v2 K n v3 v4 z) := by
  intro n
  induction n with
  | zero =>
    intro v3 v4 z
    exact V_none
  | succ n ih =>
    intro v3 v4 z
    simp only [fX9_work_L42]
    refine V_il hC dX9_work_42 4 rfl ?_
    refine V_aln hC dX9_work_44 0 rfl ?_
    refine V_gi hC fl_X9_120 (by decide) rfl rfl dX9_work_45 ?_
    refine V_cge 162 hC dX9_work_48 (by decide) ?_ ?_
    · exact hK _ _ _
    · refine V_aln hC dX9_work_51 0 rfl ?_
      refine V_gr hC fl_X9_57 (by decide) rfl rfl dX9_work_52 ?_
      refine V_il hC dX9_work_55 4 rfl ?_
      refine V_ia hC (by decide) rfl dX9_work_57 ?_
      refine V_ic (x := 2) hC dX9_work_58 (by decide) ?_
      refine V_cne 156 hC dX9_work_59 (by decide) ?_ ?_
      · refine V_inc (k := 4) (y := 1) [(4, .int _), (0, .ref _), (1, .int _), (2, .int _), (3, .int _)] hC dX9_work_156 rfl (by decide) (by decide) rfl ?_
        refine V_goto 42 hC dX9_work_159 (by decide) ?_
        refine V_sub [(0, .ref _), (1, .int _), (2, .int _), (3, .int _), (4, .int _)] [1, 2, 3, 4, 0] rfl ?_
        exact ih _ _ _
      · refine V_aln hC dX9_work_62 0 rfl ?_
        refine V_gr hC fl_X9_45 (by decide) rfl rfl dX9_work_63 ?_
        refine V_il hC dX9_work_66 4 rfl ?_
        refine V_ia hC (by decide) rfl dX9_work_68 ?_
        refine V_iln hC dX9_work_69 1 rfl ?_
        refine V_ceq 76 hC dX9_work_70 (by decide) ?_ ?_
        · refine V_aln hC dX9_work_76 0 rfl ?_
          refine V_gr hC fl_X9_48 (by decide) rfl rfl dX9_work_77 ?_
          refine V_il hC dX9_work_80 4 rfl ?_
          refine V_ia hC (by decide) rfl dX9_work_82 ?_
          refine V_iln hC dX9_work_83 2 rfl ?_
          refine V_csi [] hC cs_X9_151 (kX9_likeness G _ _ _) rfl rfl (Nat.le_of_ble_eq_true rfl) ⟨by decide, by decide⟩ dX9_work_84 ?_
          intro q4
          refine V_is [(5, .int _), (0, .ref _), (1, .int _), (2, .int _), (3, .int _), (4, .int _)] hC dX9_work_87 (by decide) rfl ?_
          refine V_il hC dX9_work_89 0 rfl ?_
          refine V_aln hC dX9_work_91 1 rfl ?_
          refine V_gi hC fl_X9_7 (by decide) rfl rfl dX9_work_92 ?_
          refine V_cge 101 hC dX9_work_95 (by decide) ?_ ?_
          · refine V_iln hC dX9_work_101 4 rfl ?_
            refine V_bip (x := -9) hC dX9_work_102 (by decide) ?_
            refine V_cne 111 hC dX9_work_104 (by decide) ?_ ?_
            · refine V_aln hC dX9_work_111 1 rfl ?_
              refine V_gr hC fl_X9_48 (by decide) rfl rfl dX9_work_112 ?_
              refine V_iln hC dX9_work_115 4 rfl ?_
              refine V_ia hC (by decide) rfl dX9_work_116 ?_
              refine V_iln hC dX9_work_117 3 rfl ?_
              refine V_csi [] hC cs_X9_151 (kX9_likeness G _ _ _) rfl rfl (Nat.le_of_ble_eq_true rfl) ⟨by decide, by decide⟩ dX9_work_118 ?_
              intro q5
              refine V_sub [(0, .ref _), (1, .int _), (2, .int _), (3, .int _), (4, .int _), (5, .int _)] [1, 2, 3, 4, 5, 0] rfl ?_
              refine vX9_work_J121 hC _ _ _ _ _ _ _ _ ih hK _
            · refine V_ic (x := 0) hC dX9_work_107 (by decide) ?_
              refine V_goto 121 hC dX9_work_108 (by decide) ?_
              refine V_sub [(0, .ref _), (1, .int _), (2, .int _), (3, .int _), (4, .int _), (5, .int _)] [1, 2, 3, 4, 5, 0] rfl ?_
              refine vX9_work_J121 hC _ _ _ _ _ _ _ _ ih hK _
          · refine V_goto 156 hC dX9_work_98 (by decide) ?_
            refine V_inc (k := 5) (y := 1) [(4, .int _), (5, .int _), (0, .ref _), (1, .int _), (2, .int _), (3, .int _)] hC dX9_work_156 rfl (by decide) (by decide) rfl ?_
            refine V_goto 42 hC dX9_work_159 (by decide) ?_
            refine V_sub [(0, .ref _), (1, .int _), (2, .int _), (3, .int _), (4, .int _)] [2, 3, 4, 5, 0] rfl ?_
            exact ih _ _ _
        · refine V_goto 156 hC dX9_work_73 (by decide) ?_
          refine V_inc (k := 4) (y := 1) [(4, .int _), (0, .ref _), (1, .int _), (2, .int _), (3, .int _)] hC dX9_work_156 rfl (by decide) (by decide) rfl ?_
          refine V_goto 42 hC dX9_work_159 (by decide) ?_
          refine V_sub [(0, .ref _), (1, .int _), (2, .int _), (3, .int _), (4, .int _)] [1, 2, 3, 4, 0] rfl ?_
          exact ih _ _ _
set_option maxRecDepth 100000 in
set_option maxHeartbeats 4000000 in
theorem kX9_work (G : iw_G) (v1 : Int32) (v2 : Int32) (z : iw_M) : iw_K G iw_wM yX9_work cX9_work 7 (some .int) 2 43 iw_ei [.ref (iw_ad G 0), .int v1, .int v2] z (fX9_work v1 v2 z) := by
  refine iw_of [(0, .ref (iw_ad G 0)), (1, .int v1), (2, .int v2)] (by decide +kernel) (Nat.le_of_ble_eq_true rfl) rfl ?_
  intro X hC
  unfold fX9_work
  refine V_iln hC dX9_work_0 1 rfl ?_
  refine V_csi [] hC cs_X9_124 (kX9_isShop G _ _) rfl rfl (Nat.le_of_ble_eq_true rfl) ⟨by decide, by decide⟩ dX9_work_1 ?_
  intro q1
  refine V_ieq 14 hC dX9_work_4 (by decide) ?_ ?_
  · refine V_aln hC dX9_work_14 0 rfl ?_
    refine V_ic (x := -1) hC dX9_work_15 (by decide) ?_
    refine V_cvi [] hC cv_X9_128 (by decide) rfl rfl (kX9_no G _ _) rfl rfl (Nat.le_of_ble_eq_true rfl) ⟨by decide, by decide⟩ dX9_work_16 ?_
    intro q2
    exact V_ir hC dX9_work_19 rfl
  · refine V_iln hC dX9_work_7 2 rfl ?_
    refine V_csi [] hC cs_X9_135 (kX9_isMarks G _ _) rfl rfl (Nat.le_of_ble_eq_true rfl) ⟨by decide, by decide⟩ dX9_work_8 ?_
    intro q3
    refine V_ine 20 hC dX9_work_11 (by decide) ?_ ?_
    · refine V_aln hC dX9_work_20 0 rfl ?_
      refine V_gi hC fl_X9_213 (by decide) rfl rfl dX9_work_21 ?_
      refine V_bip (x := 20) hC dX9_work_24 (by decide) ?_
      refine V_cne 36 hC dX9_work_26 (by decide) ?_ ?_
      · refine V_bip (x := -9) hC dX9_work_36 (by decide) ?_
        refine V_isn [(3, .int _), (0, .ref _), (1, .int _), (2, .int _)] hC dX9_work_38 (by decide) rfl ?_
        refine V_ic (x := 0) hC dX9_work_39 (by decide) ?_
        refine V_is [(4, .int _), (3, .int _), (0, .ref _), (1, .int _), (2, .int _)] hC dX9_work_40 (by decide) rfl ?_
        refine V_sub [(0, .ref _), (1, .int _), (2, .int _), (3, .int _), (4, .int _)] [2, 3, 4, 1, 0] rfl ?_
        refine vX9_work_L42 hC _ _ _ ?_ _ _ _ _
        intro x3_7 x4_7 z_7
        refine V_aln hC dX9_work_162 0 rfl ?_
        refine V_gr hC fl_X9_108 (by decide) rfl rfl dX9_work_163 ?_
        refine V_aln hC dX9_work_166 0 rfl ?_
        refine V_dup hC dX9_work_167 rfl ?_
        refine V_gi hC fl_X9_213 (by decide) rfl rfl dX9_work_168 ?_
        refine V_dupx1 hC dX9_work_171 rfl rfl ?_
        refine V_ic (x := 1) hC dX9_work_172 (by decide) ?_
        refine V_iadd hC dX9_work_173 ?_
        refine V_pi hC fp_X9_213 (by decide) rfl rfl dX9_work_174 ?_
        refine V_iln hC dX9_work_177 3 rfl ?_
        refine V_is_ hC (by decide) rfl dX9_work_178 ?_
        refine V_iln hC dX9_work_179 3 rfl ?_
        refine V_bip (x := -9) hC dX9_work_180 (by decide) ?_
        refine V_ceq 192 hC dX9_work_182 (by decide) ?_ ?_
        · refine V_iln hC dX9_work_192 3 rfl ?_
          exact V_ir hC dX9_work_193 rfl
        · refine V_aln hC dX9_work_185 0 rfl ?_
          refine V_gr hC fl_X9_75 (by decide) rfl rfl dX9_work_186 ?_
          refine V_iln hC dX9_work_189 3 rfl ?_
          refine V_ic (x := 1) hC dX9_work_190 (by decide) ?_
          refine V_bs_ hC (by decide) rfl dX9_work_191 ?_
          refine V_iln hC dX9_work_192 3 rfl ?_
          exact V_ir hC dX9_work_193 rfl
      · refine V_aln hC dX9_work_29 0 rfl ?_
        refine V_bip (x := -6) hC dX9_work_30 (by decide) ?_
        refine V_cvi [] hC cv_X9_128 (by decide) rfl rfl (kX9_no G _ _) rfl rfl (Nat.le_of_ble_eq_true rfl) ⟨by decide, by decide⟩ dX9_work_32 ?_
        intro q8
        exact V_ir hC dX9_work_35 rfl
    · refine V_aln hC dX9_work_14 0 rfl ?_
      refine V_ic (x := -1) hC dX9_work_15 (by decide) ?_
      refine V_cvi [] hC cv_X9_128 (by decide) rfl rfl (kX9_no G _ _) rfl rfl (Nat.le_of_ble_eq_true rfl) ⟨by decide, by decide⟩ dX9_work_16 ?_
      intro q9
      exact V_ir hC dX9_work_19 rfl
def fX9_ledBack (v1 : Int32) (z : iw_M) : Option (Int32 × iw_M) :=
  (if v1 < 0 then
  some ((-9 : Int32), z)
  else
  (if (z.1 0 5) ≤ v1 then
  some ((-9 : Int32), z)
  else
  (if iw_ok v1 20 then
  some ((z.1 29 (Int32.toNatClampNeg v1)), z)
  else none)))
abbrev bX9_ledBack : iw_B := (cX9_ledBack, 2, { frames := 0, cells := 0, slots := 0, locals := 0 }, yX9_ledBack.cls, (some .int))
set_option maxRecDepth 100000 in
set_option maxHeartbeats 4000000 in
theorem kX9_ledBack (G : iw_G) (v1 : Int32) (z : iw_M) : iw_K G iw_wM yX9_ledBack cX9_ledBack 2 (some .int) 0 0 iw_ei [.ref (iw_ad G 0), .int v1] z (fX9_ledBack v1 z) := by
  refine iw_of [(0, .ref (iw_ad G 0)), (1, .int v1)] (by decide +kernel) (Nat.le_of_ble_eq_true rfl) rfl ?_
  intro X hC
  unfold fX9_ledBack
  refine V_iln hC dX9_ledBack_0 1 rfl ?_
  refine V_ilt 21 hC dX9_ledBack_1 (by decide) ?_ ?_
  · refine V_bip (x := -9) hC dX9_ledBack_21 (by decide) ?_
    exact V_ir hC dX9_ledBack_23 rfl
  · refine V_iln hC dX9_ledBack_4 1 rfl ?_
    refine V_aln hC dX9_ledBack_5 0 rfl ?_
    refine V_gi hC fl_X9_213 (by decide) rfl rfl dX9_ledBack_6 ?_
    refine V_cge 21 hC dX9_ledBack_9 (by decide) ?_ ?_
    · refine V_bip (x := -9) hC dX9_ledBack_21 (by decide) ?_
      exact V_ir hC dX9_ledBack_23 rfl
    · refine V_aln hC dX9_ledBack_12 0 rfl ?_
      refine V_gr hC fl_X9_108 (by decide) rfl rfl dX9_ledBack_13 ?_
      refine V_iln hC dX9_ledBack_16 1 rfl ?_
      refine V_ia hC (by decide) rfl dX9_ledBack_17 ?_
      refine V_goto 23 hC dX9_ledBack_18 (by decide) ?_
      exact V_ir hC dX9_ledBack_23 rfl
def fX9_reopen (v1 : Int32) (z : iw_M) : Option (Int32 × iw_M) :=
  ((fX9_isIdea v1 z).bind (fun q1 =>
  (if q1.1 = 0 then
  ((fX9_no (-1 : Int32) q1.2).bind (fun q5 =>
  some (q5.1, q5.2)))
  else
  (if iw_ok v1 40 then
  (if (q1.2.1 12 (Int32.toNatClampNeg v1)) = (2 : Int32) then
  (if iw_ok v1 40 then
  (if (q1.2.1 18 (Int32.toNatClampNeg v1)) = 0 then
  ((fX9_no (-3 : Int32) q1.2).bind (fun q4 =>
  some (q4.1, q4.2)))
  else
  ((fX9_settles v1 (1 : Int32) q1.2).bind (fun q3 =>
  some (q3.1, q3.2))))
  else none)
  else
  ((fX9_no (-3 : Int32) q1.2).bind (fun q2 =>
  some (q2.1, q2.2))))
  else none))))
abbrev bX9_reopen : iw_B := (cX9_reopen, 2, { frames := 2, cells := 0, slots := 0, locals := 45 }, yX9_reopen.cls, (some .int))
set_option maxRecDepth 100000 in
set_option maxHeartbeats 4000000 in
theorem kX9_reopen (G : iw_G) (v1 : Int32) (z : iw_M) : iw_K G iw_wM yX9_reopen cX9_reopen 2 (some .int) 2 45 iw_ei [.ref (iw_ad G 0), .int v1] z (fX9_reopen v1 z) := by
  refine iw_of [(0, .ref (iw_ad G 0)), (1, .int v1)] (by decide +kernel) (Nat.le_of_ble_eq_true rfl) rfl ?_
  intro X hC
  unfold fX9_reopen
  refine V_aln hC dX9_reopen_0 0 rfl ?_
  refine V_iln hC dX9_reopen_1 1 rfl ?_
  refine V_cvi [] hC cv_X9_141 (by decide) rfl rfl (kX9_isIdea G _ _) rfl rfl (Nat.le_of_ble_eq_true rfl) ⟨by decide, by decide⟩ dX9_reopen_2 ?_
  intro q1
  refine V_ine 14 hC dX9_reopen_5 (by decide) ?_ ?_
  · refine V_aln hC dX9_reopen_14 0 rfl ?_
    refine V_gr hC fl_X9_57 (by decide) rfl rfl dX9_reopen_15 ?_
    refine V_iln hC dX9_reopen_18 1 rfl ?_
    refine V_ia hC (by decide) rfl dX9_reopen_19 ?_
    refine V_ic (x := 2) hC dX9_reopen_20 (by decide) ?_
    refine V_cne 33 hC dX9_reopen_21 (by decide) ?_ ?_
    · refine V_aln hC dX9_reopen_33 0 rfl ?_
      refine V_bip (x := -3) hC dX9_reopen_34 (by decide) ?_
      refine V_cvi [] hC cv_X9_128 (by decide) rfl rfl (kX9_no G _ _) rfl rfl (Nat.le_of_ble_eq_true rfl) ⟨by decide, by decide⟩ dX9_reopen_36 ?_
      intro q2
      exact V_ir hC dX9_reopen_39 rfl
    · refine V_aln hC dX9_reopen_24 0 rfl ?_
      refine V_gr hC fl_X9_75 (by decide) rfl rfl dX9_reopen_25 ?_
      refine V_iln hC dX9_reopen_28 1 rfl ?_
      refine V_ba hC (by decide) rfl dX9_reopen_29 ?_
      refine V_ine 40 hC dX9_reopen_30 (by decide) ?_ ?_
      · refine V_aln hC dX9_reopen_40 0 rfl ?_
        refine V_iln hC dX9_reopen_41 1 rfl ?_
        refine V_ic (x := 1) hC dX9_reopen_42 (by decide) ?_
        refine V_cvi [] hC cv_X9_181 (by decide) rfl rfl (kX9_settles G _ _ _) rfl rfl (Nat.le_of_ble_eq_true rfl) ⟨by decide, by decide⟩ dX9_reopen_43 ?_
        intro q3
        exact V_ir hC dX9_reopen_46 rfl
      · refine V_aln hC dX9_reopen_33 0 rfl ?_
        refine V_bip (x := -3) hC dX9_reopen_34 (by decide) ?_
        refine V_cvi [] hC cv_X9_128 (by decide) rfl rfl (kX9_no G _ _) rfl rfl (Nat.le_of_ble_eq_true rfl) ⟨by decide, by decide⟩ dX9_reopen_36 ?_
        intro q4
        exact V_ir hC dX9_reopen_39 rfl
  · refine V_aln hC dX9_reopen_8 0 rfl ?_
    refine V_ic (x := -1) hC dX9_reopen_9 (by decide) ?_
    refine V_cvi [] hC cv_X9_128 (by decide) rfl rfl (kX9_no G _ _) rfl rfl (Nat.le_of_ble_eq_true rfl) ⟨by decide, by decide⟩ dX9_reopen_10 ?_
    intro q5
    exact V_ir hC dX9_reopen_13 rfl
def fX9_other_L86 (v2 : Int32) (v3 : Int32) (v4 : Int32) (v5 : Int32) (K : Int32 → Int32 → iw_M → Option (Int32 × iw_M)) : Nat → Int32 → Int32 → iw_M → Option (Int32 × iw_M)
  | 0, _, _, _ => none
  | n + 1, v6, v7, z => (if (z.1 0 2) ≤ v7 then
  K v6 v7 z
  else
  (if iw_ok v7 40 then
  (if (z.1 31 (Int32.toNatClampNeg v7)) = v5 then
  (if iw_ok v7 40 then
  (if (z.1 12 (Int32.toNatClampNeg v7)) = (1 : Int32) then
  fX9_other_L86 v2 v3 v4 v5 K n (1 : Int32) (v7 + (1 : Int32)) z
  else
  fX9_other_L86 v2 v3 v4 v5 K n v6 (v7 + (1 : Int32)) z)
  else none)
  else
  fX9_other_L86 v2 v3 v4 v5 K n v6 (v7 + (1 : Int32)) z)
  else none))
def fX9_other_L56 (v2 : Int32) (v3 : Int32) (K : Int32 → Int32 → iw_M → Option (Int32 × iw_M)) : Nat → Int32 → Int32 → iw_M → Option (Int32 × iw_M)
  | 0, _, _, _ => none
  | n + 1, v4, v5, z => (if (z.1 0 2) ≤ v5 then
  K v4 v5 z
  else
  (if iw_ok v5 40 then
  (if (z.1 31 (Int32.toNatClampNeg v5)) = v5 then
  fX9_other_L86 v2 v3 v4 v5 (fun x6_6 x7_6 z_6 => (if x6_6 = 0 then
  fX9_other_L56 v2 v3 K n v4 (v5 + (1 : Int32)) z_6
  else
  ((fX9_pay v5 v2 v3 z_6).bind (fun q7 =>
  fX9_other_L56 v2 v3 K n (v4 + q7.1) (v5 + (1 : Int32)) q7.2)))) iw_fu (0 : Int32) (0 : Int32) z
  else
  fX9_other_L56 v2 v3 K n v4 (v5 + (1 : Int32)) z)
  else none))
def fX9_other (v1 : Int32) (v2 : Int32) (v3 : Int32) (z : iw_M) : Option (Int32 × iw_M) :=
  (if v1 < (1 : Int32) then
  ((fX9_no (-4 : Int32) z).bind (fun q1 =>
  some (q1.1, q1.2)))
  else
  (if v2 < 0 then
  ((fX9_no (-4 : Int32) z).bind (fun q2 =>
  some (q2.1, q2.2)))
  else
  (if 0 ≤ v3 then
  (if (40 : Int32) < v1 then
  ((fX9_no (-6 : Int32) z).bind (fun q3 =>
  some (q3.1, q3.2)))
  else
  (if (100 : Int32) < v2 then
  ((fX9_no (-6 : Int32) z).bind (fun q4 =>
  some (q4.1, q4.2)))
  else
  (if v3 ≤ (100000 : Int32) then
  ((fX9_families v1 z).bind (fun q5 =>
  fX9_other_L56 v2 v3 (fun x4_8 x5_8 z_8 => some (x4_8, z_8)) iw_fu (0 : Int32) (0 : Int32) q5.2))
  else
  ((fX9_no (-6 : Int32) z).bind (fun q9 =>
  some (q9.1, q9.2))))))
  else
  ((fX9_no (-4 : Int32) z).bind (fun q10 =>
  some (q10.1, q10.2))))))
abbrev bX9_other : iw_B := (cX9_other, 8, { frames := 3, cells := 0, slots := 0, locals := 78 }, yX9_other.cls, (some .int))
set_option maxRecDepth 100000 in
set_option maxHeartbeats 4000000 in
theorem vX9_other_L86 {G : iw_G} {X : iw_X} (hC : iw_C G iw_wM X bX9_other) (v2 : Int32) (v3 : Int32) (v4 : Int32) (v5 : Int32) (K : Int32 → Int32 → iw_M → Option (Int32 × iw_M)) (hK : ∀ (v6 : Int32) (v7 : Int32) (z : iw_M), iw_V G iw_wM X bX9_other iw_ei 127 [(0, .ref (iw_ad G 0)), (2, .int v2), (3, .int v3), (4, .int v4), (5, .int v5), (6, .int v6), (7, .int v7)] [] z (K v6 v7 z)) : ∀ (n : Nat) (v6 : Int32) (v7 : Int32) (z : iw_M), iw_V G iw_wM X bX9_other iw_ei 86 [(0, .ref (iw_ad G 0)), (2, .int v2), (3, .int v3), (4, .int v4), (5, .int v5), (6, .int v6), (7, .int v7)] [] z (fX9_other_L86 v2 v3 v4 v5 K n v6 v7 z) := by
  intro n
  induction n with
  | zero =>
    intro v6 v7 z
    exact V_none
  | succ n ih =>
    intro v6 v7 z
    simp only [fX9_other_L86]
    refine V_il hC dX9_other_86 6 rfl ?_
    refine V_aln hC dX9_other_88 0 rfl ?_
    refine V_gi hC fl_X9_120 (by decide) rfl rfl dX9_other_89 ?_
    refine V_cge 127 hC dX9_other_92 (by decide) ?_ ?_
    · exact hK _ _ _
    · refine V_aln hC dX9_other_95 0 rfl ?_
      refine V_gr hC fl_X9_114 (by decide) rfl rfl dX9_other_96 ?_
      refine V_il hC dX9_other_99 6 rfl ?_
      refine V_ia hC (by decide) rfl dX9_other_101 ?_
      refine V_il hC dX9_other_102 4 rfl ?_
      refine V_cne 121 hC dX9_other_104 (by decide) ?_ ?_
      · refine V_inc (k := 6) (y := 1) [(7, .int _), (0, .ref _), (2, .int _), (3, .int _), (4, .int _), (5, .int _), (6, .int _)] hC dX9_other_121 rfl (by decide) (by decide) rfl ?_
        refine V_goto 86 hC dX9_other_124 (by decide) ?_
        refine V_sub [(0, .ref _), (2, .int _), (3, .int _), (4, .int _), (5, .int _), (6, .int _), (7, .int _)] [1, 2, 3, 4, 5, 6, 0] rfl ?_
        exact ih _ _ _
      · refine V_aln hC dX9_other_107 0 rfl ?_
        refine V_gr hC fl_X9_57 (by decide) rfl rfl dX9_other_108 ?_
        refine V_il hC dX9_other_111 6 rfl ?_
        refine V_ia hC (by decide) rfl dX9_other_113 ?_
        refine V_ic (x := 1) hC dX9_other_114 (by decide) ?_
        refine V_cne 121 hC dX9_other_115 (by decide) ?_ ?_
        · refine V_inc (k := 6) (y := 1) [(7, .int _), (0, .ref _), (2, .int _), (3, .int _), (4, .int _), (5, .int _), (6, .int _)] hC dX9_other_121 rfl (by decide) (by decide) rfl ?_
          refine V_goto 86 hC dX9_other_124 (by decide) ?_
          refine V_sub [(0, .ref _), (2, .int _), (3, .int _), (4, .int _), (5, .int _), (6, .int _), (7, .int _)] [1, 2, 3, 4, 5, 6, 0] rfl ?_
          exact ih _ _ _
        · refine V_ic (x := 1) hC dX9_other_118 (by decide) ?_
          refine V_is [(6, .int _), (0, .ref _), (2, .int _), (3, .int _), (4, .int _), (5, .int _), (7, .int _)] hC dX9_other_119 (by decide) rfl ?_
          refine V_inc (k := 6) (y := 1) [(7, .int _), (6, .int _), (0, .ref _), (2, .int _), (3, .int _), (4, .int _), (5, .int _)] hC dX9_other_121 rfl (by decide) (by decide) rfl ?_
          refine V_goto 86 hC dX9_other_124 (by decide) ?_
          refine V_sub [(0, .ref _), (2, .int _), (3, .int _), (4, .int _), (5, .int _), (6, .int _), (7, .int _)] [2, 3, 4, 5, 6, 1, 0] rfl ?_
          exact ih _ _ _
set_option maxRecDepth 100000 in
set_option maxHeartbeats 4000000 in
theorem vX9_other_L56 {G : iw_G} {X : iw_X} (hC : iw_C G iw_wM X bX9_other) (v2 : Int32) (v3 : Int32) (K : Int32 → Int32 → iw_M → Option (Int32 × iw_M)) (hK : ∀ (v4 : Int32) (v5 : Int32) (z : iw_M), iw_V G iw_wM X bX9_other iw_ei 151 [(0, .ref (iw_ad G 0)), (2, .int v2), (3, .int v3), (4, .int v4), (5, .int v5)] [] z (K v4 v5 z)) : ∀ (n : Nat) (v4 : Int32) (v5 : Int32) (z : iw_M), iw_V G iw_wM X bX9_other iw_ei 56 [(0, .ref (iw_ad G 0)), (2, .int v2), (3, .int v3), (4, .int v4), (5, .int v5)] [] z (fX9_other_L56 v2 v3 K n v4 v5 z) := by
  intro n
  induction n with
  | zero =>
    intro v4 v5 z
    exact V_none
  | succ n ih =>
    intro v4 v5 z
    simp only [fX9_other_L56]
    refine V_il hC dX9_other_56 4 rfl ?_
    refine V_aln hC dX9_other_58 0 rfl ?_
    refine V_gi hC fl_X9_120 (by decide) rfl rfl dX9_other_59 ?_
    refine V_cge 151 hC dX9_other_62 (by decide) ?_ ?_
    · exact hK _ _ _
    · refine V_aln hC dX9_other_65 0 rfl ?_
      refine V_gr hC fl_X9_114 (by decide) rfl rfl dX9_other_66 ?_
      refine V_il hC dX9_other_69 4 rfl ?_
      refine V_ia hC (by decide) rfl dX9_other_71 ?_
      refine V_il hC dX9_other_72 4 rfl ?_
      refine V_ceq 80 hC dX9_other_74 (by decide) ?_ ?_
      · refine V_ic (x := 0) hC dX9_other_80 (by decide) ?_
        refine V_is [(6, .int _), (0, .ref _), (2, .int _), (3, .int _), (4, .int _), (5, .int _)] hC dX9_other_81 (by decide) rfl ?_
        refine V_ic (x := 0) hC dX9_other_83 (by decide) ?_
        refine V_is [(7, .int _), (6, .int _), (0, .ref _), (2, .int _), (3, .int _), (4, .int _), (5, .int _)] hC dX9_other_84 (by decide) rfl ?_
        refine V_sub [(0, .ref _), (2, .int _), (3, .int _), (4, .int _), (5, .int _), (6, .int _), (7, .int _)] [2, 3, 4, 5, 6, 1, 0] rfl ?_
        refine vX9_other_L86 hC _ _ _ _ _ ?_ _ _ _ _
        intro x6_6 x7_6 z_6
        refine V_il hC dX9_other_127 5 rfl ?_
        refine V_ieq 145 hC dX9_other_129 (by decide) ?_ ?_
        · refine V_inc (k := 4) (y := 1) [(5, .int _), (0, .ref _), (2, .int _), (3, .int _), (4, .int _), (6, .int _), (7, .int _)] hC dX9_other_145 rfl (by decide) (by decide) rfl ?_
          refine V_goto 56 hC dX9_other_148 (by decide) ?_
          refine V_sub [(0, .ref _), (2, .int _), (3, .int _), (4, .int _), (5, .int _)] [1, 2, 3, 4, 0] rfl ?_
          exact ih _ _ _
        · refine V_il hC dX9_other_132 3 rfl ?_
          refine V_aln hC dX9_other_134 0 rfl ?_
          refine V_il hC dX9_other_135 4 rfl ?_
          refine V_iln hC dX9_other_137 1 rfl ?_
          refine V_iln hC dX9_other_138 2 rfl ?_
          refine V_cvi [.int _] hC cv_X9_204 (by decide) rfl rfl (kX9_pay G _ _ _ _) rfl rfl (Nat.le_of_ble_eq_true rfl) ⟨by decide, by decide⟩ dX9_other_139 ?_
          intro q7
          refine V_iadd hC dX9_other_142 ?_
          refine V_is [(4, .int _), (0, .ref _), (2, .int _), (3, .int _), (5, .int _), (6, .int _), (7, .int _)] hC dX9_other_143 (by decide) rfl ?_
          refine V_inc (k := 4) (y := 1) [(5, .int _), (4, .int _), (0, .ref _), (2, .int _), (3, .int _), (6, .int _), (7, .int _)] hC dX9_other_145 rfl (by decide) (by decide) rfl ?_
          refine V_goto 56 hC dX9_other_148 (by decide) ?_
          refine V_sub [(0, .ref _), (2, .int _), (3, .int _), (4, .int _), (5, .int _)] [2, 3, 4, 1, 0] rfl ?_
          exact ih _ _ _
      · refine V_goto 145 hC dX9_other_77 (by decide) ?_
        refine V_inc (k := 4) (y := 1) [(5, .int _), (0, .ref _), (2, .int _), (3, .int _), (4, .int _)] hC dX9_other_145 rfl (by decide) (by decide) rfl ?_
        refine V_goto 56 hC dX9_other_148 (by decide) ?_
        refine V_sub [(0, .ref _), (2, .int _), (3, .int _), (4, .int _), (5, .int _)] [1, 2, 3, 4, 0] rfl ?_
        exact ih _ _ _
set_option maxRecDepth 100000 in
set_option maxHeartbeats 4000000 in
theorem kX9_other (G : iw_G) (v1 : Int32) (v2 : Int32) (v3 : Int32) (z : iw_M) : iw_K G iw_wM yX9_other cX9_other 8 (some .int) 3 78 iw_ei [.ref (iw_ad G 0), .int v1, .int v2, .int v3] z (fX9_other v1 v2 v3 z) := by
  refine iw_of [(0, .ref (iw_ad G 0)), (1, .int v1), (2, .int v2), (3, .int v3)] (by decide +kernel) (Nat.le_of_ble_eq_true rfl) rfl ?_
  intro X hC
  unfold fX9_other
  refine V_iln hC dX9_other_0 1 rfl ?_
  refine V_ic (x := 1) hC dX9_other_1 (by decide) ?_
  refine V_clt 13 hC dX9_other_2 (by decide) ?_ ?_
  · refine V_aln hC dX9_other_13 0 rfl ?_
    refine V_bip (x := -4) hC dX9_other_14 (by decide) ?_
    refine V_cvi [] hC cv_X9_128 (by decide) rfl rfl (kX9_no G _ _) rfl rfl (Nat.le_of_ble_eq_true rfl) ⟨by decide, by decide⟩ dX9_other_16 ?_
    intro q1
    exact V_ir hC dX9_other_19 rfl
  · refine V_iln hC dX9_other_5 2 rfl ?_
    refine V_ilt 13 hC dX9_other_6 (by decide) ?_ ?_
    · refine V_aln hC dX9_other_13 0 rfl ?_
      refine V_bip (x := -4) hC dX9_other_14 (by decide) ?_
      refine V_cvi [] hC cv_X9_128 (by decide) rfl rfl (kX9_no G _ _) rfl rfl (Nat.le_of_ble_eq_true rfl) ⟨by decide, by decide⟩ dX9_other_16 ?_
      intro q2
      exact V_ir hC dX9_other_19 rfl
    · refine V_iln hC dX9_other_9 3 rfl ?_
      refine V_ige 20 hC dX9_other_10 (by decide) ?_ ?_
      · refine V_iln hC dX9_other_20 1 rfl ?_
        refine V_bip (x := 40) hC dX9_other_21 (by decide) ?_
        refine V_cgt 38 hC dX9_other_23 (by decide) ?_ ?_
        · refine V_aln hC dX9_other_38 0 rfl ?_
          refine V_bip (x := -6) hC dX9_other_39 (by decide) ?_
          refine V_cvi [] hC cv_X9_128 (by decide) rfl rfl (kX9_no G _ _) rfl rfl (Nat.le_of_ble_eq_true rfl) ⟨by decide, by decide⟩ dX9_other_41 ?_
          intro q3
          exact V_ir hC dX9_other_44 rfl
        · refine V_iln hC dX9_other_26 2 rfl ?_
          refine V_bip (x := 100) hC dX9_other_27 (by decide) ?_
          refine V_cgt 38 hC dX9_other_29 (by decide) ?_ ?_
          · refine V_aln hC dX9_other_38 0 rfl ?_
            refine V_bip (x := -6) hC dX9_other_39 (by decide) ?_
            refine V_cvi [] hC cv_X9_128 (by decide) rfl rfl (kX9_no G _ _) rfl rfl (Nat.le_of_ble_eq_true rfl) ⟨by decide, by decide⟩ dX9_other_41 ?_
            intro q4
            exact V_ir hC dX9_other_44 rfl
          · refine V_iln hC dX9_other_32 3 rfl ?_
            refine V_ldc hC dX9_other_33 kc_X9_194 ?_
            refine V_cle 45 hC dX9_other_35 (by decide) ?_ ?_
            · refine V_aln hC dX9_other_45 0 rfl ?_
              refine V_iln hC dX9_other_46 1 rfl ?_
              refine V_cvv [] hC cv_X9_155 (by decide) rfl rfl (kX9_families G _ _) rfl rfl (Nat.le_of_ble_eq_true rfl) ⟨by decide, by decide⟩ dX9_other_47 ?_
              intro q5
              refine V_ic (x := 0) hC dX9_other_50 (by decide) ?_
              refine V_is [(4, .int _), (0, .ref _), (1, .int _), (2, .int _), (3, .int _)] hC dX9_other_51 (by decide) rfl ?_
              refine V_ic (x := 0) hC dX9_other_53 (by decide) ?_
              refine V_is [(5, .int _), (4, .int _), (0, .ref _), (1, .int _), (2, .int _), (3, .int _)] hC dX9_other_54 (by decide) rfl ?_
              refine V_sub [(0, .ref _), (2, .int _), (3, .int _), (4, .int _), (5, .int _)] [2, 4, 5, 1, 0] rfl ?_
              refine vX9_other_L56 hC _ _ _ ?_ _ _ _ _
              intro x4_8 x5_8 z_8
              refine V_il hC dX9_other_151 3 rfl ?_
              exact V_ir hC dX9_other_153 rfl
            · refine V_aln hC dX9_other_38 0 rfl ?_
              refine V_bip (x := -6) hC dX9_other_39 (by decide) ?_
              refine V_cvi [] hC cv_X9_128 (by decide) rfl rfl (kX9_no G _ _) rfl rfl (Nat.le_of_ble_eq_true rfl) ⟨by decide, by decide⟩ dX9_other_41 ?_
              intro q9
              exact V_ir hC dX9_other_44 rfl
      · refine V_aln hC dX9_other_13 0 rfl ?_
        refine V_bip (x := -4) hC dX9_other_14 (by decide) ?_
        refine V_cvi [] hC cv_X9_128 (by decide) rfl rfl (kX9_no G _ _) rfl rfl (Nat.le_of_ble_eq_true rfl) ⟨by decide, by decide⟩ dX9_other_16 ?_
        intro q10
        exact V_ir hC dX9_other_19 rfl
