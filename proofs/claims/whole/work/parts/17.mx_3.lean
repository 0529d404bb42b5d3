def fX8_isIdea (v1 : Int32) (z : iw_M) : Option (Int32 × iw_M) :=
  (if v1 < 0 then
  some ((0 : Int32), z)
  else
  (if (z.1 8 10) ≤ v1 then
  some ((0 : Int32), z)
  else
  some ((1 : Int32), z)))
abbrev bX8_isIdea : iw_B := (cX8_isIdea, 2, { frames := 0, cells := 0, slots := 0, locals := 0 }, yX8_isIdea.cls, (some .boolean))
set_option maxRecDepth 100000 in
set_option maxHeartbeats 4000000 in
theorem kX8_isIdea (G : iw_G) (v1 : Int32) (z : iw_M) : iw_K G iw_wX yX8_isIdea cX8_isIdea 2 (some .boolean) 0 0 iw_ei [.ref (iw_ad G 0), .int v1] z (fX8_isIdea v1 z) := by
  refine iw_of [(0, .ref (iw_ad G 0)), (1, .int v1)] (by decide +kernel) (Nat.le_of_ble_eq_true rfl) rfl ?_
  intro X hC
  unfold fX8_isIdea
  refine V_iln hC dX8_isIdea_0 1 rfl ?_
  refine V_ilt 19 hC dX8_isIdea_1 (by decide) ?_ ?_
  · refine V_ic (x := 0) hC dX8_isIdea_19 (by decide) ?_
    exact V_zr hC dX8_isIdea_20 rfl rfl
  · refine V_iln hC dX8_isIdea_4 1 rfl ?_
    refine V_aln hC dX8_isIdea_5 0 rfl ?_
    refine V_gr hC fl_X8_65 (by decide) rfl rfl dX8_isIdea_6 ?_
    refine V_gi hC fl_X8_105 (by decide) rfl rfl dX8_isIdea_9 ?_
    refine V_cge 19 hC dX8_isIdea_12 (by decide) ?_ ?_
    · refine V_ic (x := 0) hC dX8_isIdea_19 (by decide) ?_
      exact V_zr hC dX8_isIdea_20 rfl rfl
    · refine V_ic (x := 1) hC dX8_isIdea_15 (by decide) ?_
      refine V_goto 20 hC dX8_isIdea_16 (by decide) ?_
      exact V_zr hC dX8_isIdea_20 rfl rfl
def fX8_team (v1 : Int32) (v2 : Int32) (z : iw_M) : Option (Int32 × iw_M) :=
  ((fX8_isIdea v1 z).bind (fun q1 =>
  (if q1.1 = 0 then
  ((fX8_refuse (-1 : Int32) q1.2).bind (fun q2 =>
  some (q2.1, q2.2)))
  else
  ((fX8_isHand v2 q1.2).bind (fun q3 =>
  (if q3.1 = 0 then
  ((fX8_refuse (-1 : Int32) q3.2).bind (fun q10 =>
  some (q10.1, q10.2)))
  else
  ((fX3_handsOf v1 q3.2).bind (fun q4 =>
  ((fX8_has q4.1 v2 q4.2).bind (fun q5 =>
  (if q5.1 = 0 then
  ((fX3_teamSize v1 q5.2).bind (fun q6 =>
  (if q6.1 < (6 : Int32) then
  (if iw_ok v1 40 then
  (if iw_ok v1 40 then
  ((fX3_teamSize v1 (iw_wL q6.2 18 (Int32.toNatClampNeg v1) ((q6.2.2 18 (Int32.toNatClampNeg v1)) ||| ((1 : Int64) <<< (Int32.toInt64 v2 &&& 63))))).bind (fun q7 =>
  some (q7.1, q7.2)))
  else none)
  else none)
  else
  ((fX8_refuse (-6 : Int32) q6.2).bind (fun q8 =>
  some (q8.1, q8.2))))))
  else
  ((fX8_refuse (-3 : Int32) q5.2).bind (fun q9 =>
  some (q9.1, q9.2))))))))))))))
abbrev bX8_team : iw_B := (cX8_team, 3, { frames := 2, cells := 0, slots := 0, locals := 42 }, yX8_team.cls, (some .int))
set_option maxRecDepth 100000 in
set_option maxHeartbeats 4000000 in
theorem kX8_team (G : iw_G) (v1 : Int32) (v2 : Int32) (z : iw_M) : iw_K G iw_wX yX8_team cX8_team 3 (some .int) 2 42 iw_ei [.ref (iw_ad G 0), .int v1, .int v2] z (fX8_team v1 v2 z) := by
  refine iw_of [(0, .ref (iw_ad G 0)), (1, .int v1), (2, .int v2)] (by decide +kernel) (Nat.le_of_ble_eq_true rfl) rfl ?_
  intro X hC
  unfold fX8_team
  refine V_aln hC dX8_team_0 0 rfl ?_
  refine V_iln hC dX8_team_1 1 rfl ?_
  refine V_cvi [] hC cv_X8_113 (by decide) rfl rfl (kX8_isIdea G _ _) rfl rfl (Nat.le_of_ble_eq_true rfl) ⟨by decide, by decide⟩ dX8_team_2 ?_
  intro q1
  refine V_ieq 16 hC dX8_team_5 (by decide) ?_ ?_
  · refine V_aln hC dX8_team_16 0 rfl ?_
    refine V_ic (x := -1) hC dX8_team_17 (by decide) ?_
    refine V_cvi [] hC cv_X8_85 (by decide) rfl rfl (kX8_refuse G _ _) rfl rfl (Nat.le_of_ble_eq_true rfl) ⟨by decide, by decide⟩ dX8_team_18 ?_
    intro q2
    exact V_ir hC dX8_team_21 rfl
  · refine V_aln hC dX8_team_8 0 rfl ?_
    refine V_iln hC dX8_team_9 2 rfl ?_
    refine V_cvi [] hC cv_X8_95 (by decide) rfl rfl (kX8_isHand G _ _) rfl rfl (Nat.le_of_ble_eq_true rfl) ⟨by decide, by decide⟩ dX8_team_10 ?_
    intro q3
    refine V_ine 22 hC dX8_team_13 (by decide) ?_ ?_
    · refine V_aln hC dX8_team_22 0 rfl ?_
      refine V_gr hC fl_X8_65 (by decide) rfl rfl dX8_team_23 ?_
      refine V_iln hC dX8_team_26 1 rfl ?_
      refine V_cvl [] hC cv_X8_116 (by decide) rfl rfl (kX3_handsOf G _ _) rfl rfl (Nat.le_of_ble_eq_true rfl) ⟨by decide, by decide⟩ dX8_team_27 ?_
      intro q4
      refine V_iln hC dX8_team_30 2 rfl ?_
      refine V_csi [] hC cs_X8_120 (kX8_has G _ _ _) rfl rfl (Nat.le_of_ble_eq_true rfl) ⟨by decide, by decide⟩ dX8_team_31 ?_
      intro q5
      refine V_ieq 44 hC dX8_team_34 (by decide) ?_ ?_
      · refine V_aln hC dX8_team_44 0 rfl ?_
        refine V_gr hC fl_X8_65 (by decide) rfl rfl dX8_team_45 ?_
        refine V_iln hC dX8_team_48 1 rfl ?_
        refine V_cvi [] hC cv_X8_124 (by decide) rfl rfl (kX3_teamSize G _ _) rfl rfl (Nat.le_of_ble_eq_true rfl) ⟨by decide, by decide⟩ dX8_team_49 ?_
        intro q6
        refine V_bip (x := 6) hC dX8_team_52 (by decide) ?_
        refine V_clt 64 hC dX8_team_54 (by decide) ?_ ?_
        · refine V_aln hC dX8_team_64 0 rfl ?_
          refine V_gr hC fl_X8_65 (by decide) rfl rfl dX8_team_65 ?_
          refine V_gr hC fl_X8_127 (by decide) rfl rfl dX8_team_68 ?_
          refine V_iln hC dX8_team_71 1 rfl ?_
          refine V_dup2 hC dX8_team_72 rfl rfl ?_
          refine V_la hC (by decide) rfl dX8_team_73 ?_
          refine V_lc (x := 1) hC dX8_team_74 (by decide) ?_
          refine V_iln hC dX8_team_75 2 rfl ?_
          refine V_lshl hC dX8_team_76 ?_
          refine V_lor hC dX8_team_77 ?_
          refine V_ls_ hC (by decide) rfl dX8_team_78 ?_
          refine V_aln hC dX8_team_79 0 rfl ?_
          refine V_gr hC fl_X8_65 (by decide) rfl rfl dX8_team_80 ?_
          refine V_iln hC dX8_team_83 1 rfl ?_
          refine V_cvi [] hC cv_X8_124 (by decide) rfl rfl (kX3_teamSize G _ _) rfl rfl (Nat.le_of_ble_eq_true rfl) ⟨by decide, by decide⟩ dX8_team_84 ?_
          intro q7
          exact V_ir hC dX8_team_87 rfl
        · refine V_aln hC dX8_team_57 0 rfl ?_
          refine V_bip (x := -6) hC dX8_team_58 (by decide) ?_
          refine V_cvi [] hC cv_X8_85 (by decide) rfl rfl (kX8_refuse G _ _) rfl rfl (Nat.le_of_ble_eq_true rfl) ⟨by decide, by decide⟩ dX8_team_60 ?_
          intro q8
          exact V_ir hC dX8_team_63 rfl
      · refine V_aln hC dX8_team_37 0 rfl ?_
        refine V_bip (x := -3) hC dX8_team_38 (by decide) ?_
        refine V_cvi [] hC cv_X8_85 (by decide) rfl rfl (kX8_refuse G _ _) rfl rfl (Nat.le_of_ble_eq_true rfl) ⟨by decide, by decide⟩ dX8_team_40 ?_
        intro q9
        exact V_ir hC dX8_team_43 rfl
    · refine V_aln hC dX8_team_16 0 rfl ?_
      refine V_ic (x := -1) hC dX8_team_17 (by decide) ?_
      refine V_cvi [] hC cv_X8_85 (by decide) rfl rfl (kX8_refuse G _ _) rfl rfl (Nat.le_of_ble_eq_true rfl) ⟨by decide, by decide⟩ dX8_team_18 ?_
      intro q10
      exact V_ir hC dX8_team_21 rfl
def fX8_set (v1 : Int32) (v2 : Int32) (z : iw_M) : Option (Int32 × iw_M) :=
  (if v1 < 0 then
  ((fX8_refuse (-2 : Int32) z).bind (fun q1 =>
  some (q1.1, q1.2)))
  else
  (if v1 < (4 : Int32) then
  (if iw_ok v1 4 then
  (if (iw_lo (Int32.toNatClampNeg v1)) ≤ v2 then
  (if iw_ok v1 4 then
  (if v2 ≤ (iw_hi (Int32.toNatClampNeg v1)) then
  (if iw_ok v1 4 then
  (if iw_ok v1 4 then
  (if v1 = 0 then
  (if v2 = (z.1 45 (Int32.toNatClampNeg v1)) then
  some ((z.1 45 (Int32.toNatClampNeg v1)), (iw_wI z 45 (Int32.toNatClampNeg v1) v2))
  else
  ((fX1_build 19 v2 (iw_wI z 45 (Int32.toNatClampNeg v1) v2)).bind (fun q4 =>
  some ((z.1 45 (Int32.toNatClampNeg v1)), q4.2))))
  else
  some ((z.1 45 (Int32.toNatClampNeg v1)), (iw_wI z 45 (Int32.toNatClampNeg v1) v2)))
  else none)
  else none)
  else
  ((fX8_refuse (-6 : Int32) z).bind (fun q5 =>
  some (q5.1, q5.2))))
  else none)
  else
  ((fX8_refuse (-4 : Int32) z).bind (fun q6 =>
  some (q6.1, q6.2))))
  else none)
  else
  ((fX8_refuse (-2 : Int32) z).bind (fun q7 =>
  some (q7.1, q7.2)))))
abbrev bX8_set : iw_B := (cX8_set, 4, { frames := 5, cells := 0, slots := 0, locals := 109 }, yX8_set.cls, (some .int))
set_option maxRecDepth 100000 in
set_option maxHeartbeats 4000000 in
theorem kX8_set (G : iw_G) (v1 : Int32) (v2 : Int32) (z : iw_M) : iw_K G iw_wX yX8_set cX8_set 4 (some .int) 5 109 iw_ei [.ref (iw_ad G 0), .int v1, .int v2] z (fX8_set v1 v2 z) := by
  refine iw_of [(0, .ref (iw_ad G 0)), (1, .int v1), (2, .int v2)] (by decide +kernel) (Nat.le_of_ble_eq_true rfl) rfl ?_
  intro X hC
  unfold fX8_set
  refine V_iln hC dX8_set_0 1 rfl ?_
  refine V_ilt 13 hC dX8_set_1 (by decide) ?_ ?_
  · refine V_aln hC dX8_set_13 0 rfl ?_
    refine V_bip (x := -2) hC dX8_set_14 (by decide) ?_
    refine V_cvi [] hC cv_X8_85 (by decide) rfl rfl (kX8_refuse G _ _) rfl rfl (Nat.le_of_ble_eq_true rfl) ⟨by decide, by decide⟩ dX8_set_16 ?_
    intro q1
    exact V_ir hC dX8_set_19 rfl
  · refine V_iln hC dX8_set_4 1 rfl ?_
    refine V_aln hC dX8_set_5 0 rfl ?_
    refine V_gr hC fl_X8_51 (by decide) rfl rfl dX8_set_6 ?_
    refine V_len (x := 4) hC (by decide) rfl (by decide) dX8_set_9 ?_
    refine V_clt 20 hC dX8_set_10 (by decide) ?_ ?_
    · refine V_iln hC dX8_set_20 2 rfl ?_
      refine V_gs1 hC fs_X8_131 dX8_set_21 (fun t2 ht2 => ?_)
      refine V_iln hC dX8_set_24 1 rfl ?_
      refine V_tl hC ht2 dX8_set_25 ?_
      refine V_cge 36 hC dX8_set_26 (by decide) ?_ ?_
      · refine V_iln hC dX8_set_36 2 rfl ?_
        refine V_gs2 hC fs_X8_134 dX8_set_37 (fun t3 ht3 => ?_)
        refine V_iln hC dX8_set_40 1 rfl ?_
        refine V_tl hC ht3 dX8_set_41 ?_
        refine V_cle 52 hC dX8_set_42 (by decide) ?_ ?_
        · refine V_aln hC dX8_set_52 0 rfl ?_
          refine V_gr hC fl_X8_51 (by decide) rfl rfl dX8_set_53 ?_
          refine V_iln hC dX8_set_56 1 rfl ?_
          refine V_ia hC (by decide) rfl dX8_set_57 ?_
          refine V_isn [(3, .int _), (0, .ref _), (1, .int _), (2, .int _)] hC dX8_set_58 (by decide) rfl ?_
          refine V_aln hC dX8_set_59 1 rfl ?_
          refine V_gr hC fl_X8_51 (by decide) rfl rfl dX8_set_60 ?_
          refine V_iln hC dX8_set_63 2 rfl ?_
          refine V_iln hC dX8_set_64 3 rfl ?_
          refine V_is_ hC (by decide) rfl dX8_set_65 ?_
          refine V_iln hC dX8_set_66 2 rfl ?_
          refine V_ine 83 hC dX8_set_67 (by decide) ?_ ?_
          · refine V_iln hC dX8_set_83 0 rfl ?_
            exact V_ir hC dX8_set_84 rfl
          · refine V_iln hC dX8_set_70 3 rfl ?_
            refine V_iln hC dX8_set_71 0 rfl ?_
            refine V_ceq 83 hC dX8_set_72 (by decide) ?_ ?_
            · refine V_iln hC dX8_set_83 0 rfl ?_
              exact V_ir hC dX8_set_84 rfl
            · refine V_aln hC dX8_set_75 1 rfl ?_
              refine V_gr hC fl_X8_74 (by decide) rfl rfl dX8_set_76 ?_
              refine V_iln hC dX8_set_79 3 rfl ?_
              refine V_cvv [] hC cv_X8_137 (by decide) rfl rfl (kX1_build G 19 iw_F19 _ _) rfl rfl (Nat.le_of_ble_eq_true rfl) ⟨by decide, by decide⟩ dX8_set_80 ?_
              intro q4
              refine V_iln hC dX8_set_83 0 rfl ?_
              exact V_ir hC dX8_set_84 rfl
        · refine V_aln hC dX8_set_45 0 rfl ?_
          refine V_bip (x := -6) hC dX8_set_46 (by decide) ?_
          refine V_cvi [] hC cv_X8_85 (by decide) rfl rfl (kX8_refuse G _ _) rfl rfl (Nat.le_of_ble_eq_true rfl) ⟨by decide, by decide⟩ dX8_set_48 ?_
          intro q5
          exact V_ir hC dX8_set_51 rfl
      · refine V_aln hC dX8_set_29 0 rfl ?_
        refine V_bip (x := -4) hC dX8_set_30 (by decide) ?_
        refine V_cvi [] hC cv_X8_85 (by decide) rfl rfl (kX8_refuse G _ _) rfl rfl (Nat.le_of_ble_eq_true rfl) ⟨by decide, by decide⟩ dX8_set_32 ?_
        intro q6
        exact V_ir hC dX8_set_35 rfl
    · refine V_aln hC dX8_set_13 0 rfl ?_
      refine V_bip (x := -2) hC dX8_set_14 (by decide) ?_
      refine V_cvi [] hC cv_X8_85 (by decide) rfl rfl (kX8_refuse G _ _) rfl rfl (Nat.le_of_ble_eq_true rfl) ⟨by decide, by decide⟩ dX8_set_16 ?_
      intro q7
      exact V_ir hC dX8_set_19 rfl
def fX8_like (v1 : Int32) (v2 : Int32) (z : iw_M) : Option (Int32 × iw_M) :=
  ((fX8_isIdea v1 z).bind (fun q1 =>
  (if q1.1 = 0 then
  ((fX8_refuse (-1 : Int32) q1.2).bind (fun q2 =>
  some (q2.1, q2.2)))
  else
  ((fX8_isIdea v2 q1.2).bind (fun q3 =>
  (if q3.1 = 0 then
  ((fX8_refuse (-1 : Int32) q3.2).bind (fun q5 =>
  some (q5.1, q5.2)))
  else
  (if iw_ok v1 40 then
  (if iw_ok v2 40 then
  ((fX8_likeness (q3.2.1 11 (Int32.toNatClampNeg v1)) (q3.2.1 11 (Int32.toNatClampNeg v2)) q3.2).bind (fun q4 =>
  some (((1000 : Int32) + q4.1), q4.2)))
  else none)
  else none)))))))
abbrev bX8_like : iw_B := (cX8_like, 3, { frames := 2, cells := 0, slots := 0, locals := 41 }, yX8_like.cls, (some .int))
set_option maxRecDepth 100000 in
set_option maxHeartbeats 4000000 in
theorem kX8_like (G : iw_G) (v1 : Int32) (v2 : Int32) (z : iw_M) : iw_K G iw_wX yX8_like cX8_like 3 (some .int) 2 41 iw_ei [.ref (iw_ad G 0), .int v1, .int v2] z (fX8_like v1 v2 z) := by
  refine iw_of [(0, .ref (iw_ad G 0)), (1, .int v1), (2, .int v2)] (by decide +kernel) (Nat.le_of_ble_eq_true rfl) rfl ?_
  intro X hC
  unfold fX8_like
  refine V_aln hC dX8_like_0 0 rfl ?_
  refine V_iln hC dX8_like_1 1 rfl ?_
  refine V_cvi [] hC cv_X8_113 (by decide) rfl rfl (kX8_isIdea G _ _) rfl rfl (Nat.le_of_ble_eq_true rfl) ⟨by decide, by decide⟩ dX8_like_2 ?_
  intro q1
  refine V_ieq 16 hC dX8_like_5 (by decide) ?_ ?_
  · refine V_aln hC dX8_like_16 0 rfl ?_
    refine V_ic (x := -1) hC dX8_like_17 (by decide) ?_
    refine V_cvi [] hC cv_X8_85 (by decide) rfl rfl (kX8_refuse G _ _) rfl rfl (Nat.le_of_ble_eq_true rfl) ⟨by decide, by decide⟩ dX8_like_18 ?_
    intro q2
    exact V_ir hC dX8_like_21 rfl
  · refine V_aln hC dX8_like_8 0 rfl ?_
    refine V_iln hC dX8_like_9 2 rfl ?_
    refine V_cvi [] hC cv_X8_113 (by decide) rfl rfl (kX8_isIdea G _ _) rfl rfl (Nat.le_of_ble_eq_true rfl) ⟨by decide, by decide⟩ dX8_like_10 ?_
    intro q3
    refine V_ine 22 hC dX8_like_13 (by decide) ?_ ?_
    · refine V_sip (x := 1000) hC dX8_like_22 (by decide) ?_
      refine V_aln hC dX8_like_25 0 rfl ?_
      refine V_gr hC fl_X8_65 (by decide) rfl rfl dX8_like_26 ?_
      refine V_gr hC fl_X8_141 (by decide) rfl rfl dX8_like_29 ?_
      refine V_iln hC dX8_like_32 1 rfl ?_
      refine V_ia hC (by decide) rfl dX8_like_33 ?_
      refine V_aln hC dX8_like_34 0 rfl ?_
      refine V_gr hC fl_X8_65 (by decide) rfl rfl dX8_like_35 ?_
      refine V_gr hC fl_X8_141 (by decide) rfl rfl dX8_like_38 ?_
      refine V_iln hC dX8_like_41 2 rfl ?_
      refine V_ia hC (by decide) rfl dX8_like_42 ?_
      refine V_csi [.int _] hC cs_X8_144 (kX8_likeness G _ _ _) rfl rfl (Nat.le_of_ble_eq_true rfl) ⟨by decide, by decide⟩ dX8_like_43 ?_
      intro q4
      refine V_iadd hC dX8_like_46 ?_
      exact V_ir hC dX8_like_47 rfl
    · refine V_aln hC dX8_like_16 0 rfl ?_
      refine V_ic (x := -1) hC dX8_like_17 (by decide) ?_
      refine V_cvi [] hC cv_X8_85 (by decide) rfl rfl (kX8_refuse G _ _) rfl rfl (Nat.le_of_ble_eq_true rfl) ⟨by decide, by decide⟩ dX8_like_18 ?_
      intro q5
      exact V_ir hC dX8_like_21 rfl
def fX8_family (v1 : Int32) (z : iw_M) : Option (Int32 × iw_M) :=
  ((fX8_isIdea v1 z).bind (fun q1 =>
  (if q1.1 = 0 then
  ((fX8_refuse (-1 : Int32) q1.2).bind (fun q2 =>
  some (q2.1, q2.2)))
  else
  (if iw_ok v1 40 then
  some ((q1.2.1 20 (Int32.toNatClampNeg v1)), q1.2)
  else none))))
abbrev bX8_family : iw_B := (cX8_family, 2, { frames := 1, cells := 0, slots := 0, locals := 22 }, yX8_family.cls, (some .int))
set_option maxRecDepth 100000 in
set_option maxHeartbeats 4000000 in
theorem kX8_family (G : iw_G) (v1 : Int32) (z : iw_M) : iw_K G iw_wX yX8_family cX8_family 2 (some .int) 1 22 iw_ei [.ref (iw_ad G 0), .int v1] z (fX8_family v1 z) := by
  refine iw_of [(0, .ref (iw_ad G 0)), (1, .int v1)] (by decide +kernel) (Nat.le_of_ble_eq_true rfl) rfl ?_
  intro X hC
  unfold fX8_family
  refine V_aln hC dX8_family_0 0 rfl ?_
  refine V_iln hC dX8_family_1 1 rfl ?_
  refine V_cvi [] hC cv_X8_113 (by decide) rfl rfl (kX8_isIdea G _ _) rfl rfl (Nat.le_of_ble_eq_true rfl) ⟨by decide, by decide⟩ dX8_family_2 ?_
  intro q1
  refine V_ine 14 hC dX8_family_5 (by decide) ?_ ?_
  · refine V_aln hC dX8_family_14 0 rfl ?_
    refine V_gr hC fl_X8_74 (by decide) rfl rfl dX8_family_15 ?_
    refine V_gr hC fl_X8_148 (by decide) rfl rfl dX8_family_18 ?_
    refine V_iln hC dX8_family_21 1 rfl ?_
    refine V_ia hC (by decide) rfl dX8_family_22 ?_
    exact V_ir hC dX8_family_23 rfl
  · refine V_aln hC dX8_family_8 0 rfl ?_
    refine V_ic (x := -1) hC dX8_family_9 (by decide) ?_
    refine V_cvi [] hC cv_X8_85 (by decide) rfl rfl (kX8_refuse G _ _) rfl rfl (Nat.le_of_ble_eq_true rfl) ⟨by decide, by decide⟩ dX8_family_10 ?_
    intro q2
    exact V_ir hC dX8_family_13 rfl
def fX8_head (v1 : Int32) (z : iw_M) : Option (Int32 × iw_M) :=
  ((fX8_isIdea v1 z).bind (fun q1 =>
  (if q1.1 = 0 then
  ((fX8_refuse (-1 : Int32) q1.2).bind (fun q3 =>
  some (q3.1, q3.2)))
  else
  (if iw_ok v1 40 then
  ((fX1_headOf 19 (q1.2.1 20 (Int32.toNatClampNeg v1)) q1.2).bind (fun q2 =>
  some (q2.1, q2.2)))
  else none))))
abbrev bX8_head : iw_B := (cX8_head, 2, { frames := 2, cells := 0, slots := 0, locals := 45 }, yX8_head.cls, (some .int))
set_option maxRecDepth 100000 in
set_option maxHeartbeats 4000000 in
theorem kX8_head (G : iw_G) (v1 : Int32) (z : iw_M) : iw_K G iw_wX yX8_head cX8_head 2 (some .int) 2 45 iw_ei [.ref (iw_ad G 0), .int v1] z (fX8_head v1 z) := by
  refine iw_of [(0, .ref (iw_ad G 0)), (1, .int v1)] (by decide +kernel) (Nat.le_of_ble_eq_true rfl) rfl ?_
  intro X hC
  unfold fX8_head
  refine V_aln hC dX8_head_0 0 rfl ?_
  refine V_iln hC dX8_head_1 1 rfl ?_
  refine V_cvi [] hC cv_X8_113 (by decide) rfl rfl (kX8_isIdea G _ _) rfl rfl (Nat.le_of_ble_eq_true rfl) ⟨by decide, by decide⟩ dX8_head_2 ?_
  intro q1
  refine V_ine 14 hC dX8_head_5 (by decide) ?_ ?_
  · refine V_aln hC dX8_head_14 0 rfl ?_
    refine V_gr hC fl_X8_74 (by decide) rfl rfl dX8_head_15 ?_
    refine V_aln hC dX8_head_18 0 rfl ?_
    refine V_gr hC fl_X8_74 (by decide) rfl rfl dX8_head_19 ?_
    refine V_gr hC fl_X8_148 (by decide) rfl rfl dX8_head_22 ?_
    refine V_iln hC dX8_head_25 1 rfl ?_
    refine V_ia hC (by decide) rfl dX8_head_26 ?_
    refine V_cvi [] hC cv_X8_151 (by decide) rfl rfl (kX1_headOf G 19 iw_F19 _ _) rfl rfl (Nat.le_of_ble_eq_true rfl) ⟨by decide, by decide⟩ dX8_head_27 ?_
    intro q2
    exact V_ir hC dX8_head_30 rfl
  · refine V_aln hC dX8_head_8 0 rfl ?_
    refine V_ic (x := -1) hC dX8_head_9 (by decide) ?_
    refine V_cvi [] hC cv_X8_85 (by decide) rfl rfl (kX8_refuse G _ _) rfl rfl (Nat.le_of_ble_eq_true rfl) ⟨by decide, by decide⟩ dX8_head_10 ?_
    intro q3
    exact V_ir hC dX8_head_13 rfl
def fX8_share (v1 : Int32) (z : iw_M) : Option (Int32 × iw_M) :=
  ((fX8_isIdea v1 z).bind (fun q1 =>
  (if q1.1 = 0 then
  ((fX8_refuse (-1 : Int32) q1.2).bind (fun q3 =>
  some (q3.1, q3.2)))
  else
  (if iw_ok (1 : Int32) 4 then
  ((fX1_shareOf 19 v1 (q1.2.1 45 (Int32.toNatClampNeg (1 : Int32))) q1.2).bind (fun q2 =>
  some (q2.1, q2.2)))
  else none))))
abbrev bX8_share : iw_B := (cX8_share, 2, { frames := 3, cells := 0, slots := 0, locals := 72 }, yX8_share.cls, (some .int))
set_option maxRecDepth 100000 in
set_option maxHeartbeats 4000000 in
theorem kX8_share (G : iw_G) (v1 : Int32) (z : iw_M) : iw_K G iw_wX yX8_share cX8_share 2 (some .int) 3 72 iw_ei [.ref (iw_ad G 0), .int v1] z (fX8_share v1 z) := by
  refine iw_of [(0, .ref (iw_ad G 0)), (1, .int v1)] (by decide +kernel) (Nat.le_of_ble_eq_true rfl) rfl ?_
  intro X hC
  unfold fX8_share
  refine V_aln hC dX8_share_0 0 rfl ?_
  refine V_iln hC dX8_share_1 1 rfl ?_
  refine V_cvi [] hC cv_X8_113 (by decide) rfl rfl (kX8_isIdea G _ _) rfl rfl (Nat.le_of_ble_eq_true rfl) ⟨by decide, by decide⟩ dX8_share_2 ?_
  intro q1
  refine V_ine 14 hC dX8_share_5 (by decide) ?_ ?_
  · refine V_aln hC dX8_share_14 0 rfl ?_
    refine V_gr hC fl_X8_74 (by decide) rfl rfl dX8_share_15 ?_
    refine V_iln hC dX8_share_18 1 rfl ?_
    refine V_aln hC dX8_share_19 0 rfl ?_
    refine V_gr hC fl_X8_51 (by decide) rfl rfl dX8_share_20 ?_
    refine V_ic (x := 1) hC dX8_share_23 (by decide) ?_
    refine V_ia hC (by decide) rfl dX8_share_24 ?_
    refine V_cvi [] hC cv_X8_154 (by decide) rfl rfl (kX1_shareOf G 19 iw_F19 _ _ _) rfl rfl (Nat.le_of_ble_eq_true rfl) ⟨by decide, by decide⟩ dX8_share_25 ?_
    intro q2
    exact V_ir hC dX8_share_28 rfl
  · refine V_aln hC dX8_share_8 0 rfl ?_
    refine V_ic (x := -1) hC dX8_share_9 (by decide) ?_
    refine V_cvi [] hC cv_X8_85 (by decide) rfl rfl (kX8_refuse G _ _) rfl rfl (Nat.le_of_ble_eq_true rfl) ⟨by decide, by decide⟩ dX8_share_10 ?_
    intro q3
    exact V_ir hC dX8_share_13 rfl
def fX8_judge_J32 (v1 : Int32) (v2 : Int32) (s0 : Int32) (z : iw_M) : Option (Int32 × iw_M) :=
  (if iw_ok v1 40 then
  (if s0 = 0 then
  some ((0 : Int32), (iw_wI z 4 (Int32.toNatClampNeg v1) (vp_nar .boolean v2)))
  else
  some ((1 : Int32), (iw_wI z 4 (Int32.toNatClampNeg v1) (vp_nar .boolean v2))))
  else none)
def fX8_judge (v1 : Int32) (v2 : Int32) (z : iw_M) : Option (Int32 × iw_M) :=
  ((fX8_isHand v1 z).bind (fun q1 =>
  (if q1.1 = 0 then
  ((fX8_refuse (-1 : Int32) q1.2).bind (fun q2 =>
  some (q2.1, q2.2)))
  else
  (if iw_ok v1 40 then
  (if (q1.2.1 4 (Int32.toNatClampNeg v1)) = v2 then
  fX8_judge_J32 v1 v2 (0 : Int32) q1.2
  else
  fX8_judge_J32 v1 v2 (1 : Int32) q1.2)
  else none))))
abbrev bX8_judge : iw_B := (cX8_judge, 4, { frames := 1, cells := 0, slots := 0, locals := 22 }, yX8_judge.cls, (some .int))
set_option maxRecDepth 100000 in
set_option maxHeartbeats 4000000 in
theorem vX8_judge_J32 {G : iw_G} {X : iw_X} (hC : iw_C G iw_wX X bX8_judge) (v1 : Int32) (v2 : Int32) (s0 : Int32) (z : iw_M) : iw_V G iw_wX X bX8_judge iw_ei 32 [(0, .ref (iw_ad G 0)), (1, .int v1), (2, .int v2)] [.int s0] z (fX8_judge_J32 v1 v2 s0 z) := by
  unfold fX8_judge_J32
  refine V_isn [(3, .int _), (0, .ref _), (1, .int _), (2, .int _)] hC dX8_judge_32 (by decide) rfl ?_
  refine V_aln hC dX8_judge_33 1 rfl ?_
  refine V_gr hC fl_X8_10 (by decide) rfl rfl dX8_judge_34 ?_
  refine V_gr hC fl_X8_157 (by decide) rfl rfl dX8_judge_37 ?_
  refine V_iln hC dX8_judge_40 2 rfl ?_
  refine V_iln hC dX8_judge_41 3 rfl ?_
  refine V_bs_ hC (by decide) rfl dX8_judge_42 ?_
  refine V_iln hC dX8_judge_43 0 rfl ?_
  refine V_ieq 51 hC dX8_judge_44 (by decide) ?_ ?_
  · refine V_ic (x := 0) hC dX8_judge_51 (by decide) ?_
    exact V_ir hC dX8_judge_52 rfl
  · refine V_ic (x := 1) hC dX8_judge_47 (by decide) ?_
    refine V_goto 52 hC dX8_judge_48 (by decide) ?_
    exact V_ir hC dX8_judge_52 rfl
set_option maxRecDepth 100000 in
set_option maxHeartbeats 4000000 in
theorem kX8_judge (G : iw_G) (v1 : Int32) (v2 : Int32) (z : iw_M) : iw_K G iw_wX yX8_judge cX8_judge 4 (some .int) 1 22 iw_ei [.ref (iw_ad G 0), .int v1, .int v2] z (fX8_judge v1 v2 z) := by
  refine iw_of [(0, .ref (iw_ad G 0)), (1, .int v1), (2, .int v2)] (by decide +kernel) (Nat.le_of_ble_eq_true rfl) rfl ?_
  intro X hC
  unfold fX8_judge
  refine V_aln hC dX8_judge_0 0 rfl ?_
  refine V_iln hC dX8_judge_1 1 rfl ?_
  refine V_cvi [] hC cv_X8_95 (by decide) rfl rfl (kX8_isHand G _ _) rfl rfl (Nat.le_of_ble_eq_true rfl) ⟨by decide, by decide⟩ dX8_judge_2 ?_
  intro q1
  refine V_ine 14 hC dX8_judge_5 (by decide) ?_ ?_
  · refine V_aln hC dX8_judge_14 0 rfl ?_
    refine V_gr hC fl_X8_10 (by decide) rfl rfl dX8_judge_15 ?_
    refine V_gr hC fl_X8_157 (by decide) rfl rfl dX8_judge_18 ?_
    refine V_iln hC dX8_judge_21 1 rfl ?_
    refine V_ba hC (by decide) rfl dX8_judge_22 ?_
    refine V_iln hC dX8_judge_23 2 rfl ?_
    refine V_ceq 31 hC dX8_judge_24 (by decide) ?_ ?_
    · refine V_ic (x := 0) hC dX8_judge_31 (by decide) ?_
      exact vX8_judge_J32 hC _ _ _ _
    · refine V_ic (x := 1) hC dX8_judge_27 (by decide) ?_
      refine V_goto 32 hC dX8_judge_28 (by decide) ?_
      exact vX8_judge_J32 hC _ _ _ _
  · refine V_aln hC dX8_judge_8 0 rfl ?_
    refine V_ic (x := -1) hC dX8_judge_9 (by decide) ?_
    refine V_cvi [] hC cv_X8_85 (by decide) rfl rfl (kX8_refuse G _ _) rfl rfl (Nat.le_of_ble_eq_true rfl) ⟨by decide, by decide⟩ dX8_judge_10 ?_
    intro q2
    exact V_ir hC dX8_judge_13 rfl
def fX8_judgesFor (v1 : Int32) (z : iw_M) : Option (Int64 × iw_M) :=
  (if iw_ok v1 40 then
  ((fX1_handsOf 19 (z.1 20 (Int32.toNatClampNeg v1)) z).bind (fun q1 =>
  ((fX2_withKin q1.1 q1.2).bind (fun q2 =>
  (if iw_ok v1 40 then
  ((fX2_judgesOutside (q2.2.1 10 (Int32.toNatClampNeg v1)) q2.2).bind (fun q3 =>
  some ((q3.1 &&& (q2.1 ^^^ (-1 : Int64))), q3.2)))
  else none)))))
  else none)
abbrev bX8_judgesFor : iw_B := (cX8_judgesFor, 4, { frames := 2, cells := 0, slots := 0, locals := 47 }, yX8_judgesFor.cls, (some .long))
set_option maxRecDepth 100000 in
set_option maxHeartbeats 4000000 in
theorem kX8_judgesFor (G : iw_G) (v1 : Int32) (z : iw_M) : iw_K G iw_wX yX8_judgesFor cX8_judgesFor 4 (some .long) 2 47 iw_el [.ref (iw_ad G 0), .int v1] z (fX8_judgesFor v1 z) := by
  refine iw_of [(0, .ref (iw_ad G 0)), (1, .int v1)] (by decide +kernel) (Nat.le_of_ble_eq_true rfl) rfl ?_
  intro X hC
  unfold fX8_judgesFor
  refine V_aln hC dX8_judgesFor_0 0 rfl ?_
  refine V_gr hC fl_X8_10 (by decide) rfl rfl dX8_judgesFor_1 ?_
  refine V_aln hC dX8_judgesFor_4 0 rfl ?_
  refine V_gr hC fl_X8_74 (by decide) rfl rfl dX8_judgesFor_5 ?_
  refine V_aln hC dX8_judgesFor_8 0 rfl ?_
  refine V_gr hC fl_X8_74 (by decide) rfl rfl dX8_judgesFor_9 ?_
  refine V_gr hC fl_X8_148 (by decide) rfl rfl dX8_judgesFor_12 ?_
  refine V_iln hC dX8_judgesFor_15 1 rfl ?_
  refine V_ia hC (by decide) rfl dX8_judgesFor_16 ?_
  refine V_cvl [.ref _] hC cv_X8_287 (by decide) rfl rfl (kX1_handsOf G 19 iw_F19 _ _) rfl rfl (Nat.le_of_ble_eq_true rfl) ⟨by decide, by decide⟩ dX8_judgesFor_17 ?_
  intro q1
  refine V_cvl [] hC cv_X8_288 (by decide) rfl rfl (kX2_withKin G _ _) rfl rfl (Nat.le_of_ble_eq_true rfl) ⟨by decide, by decide⟩ dX8_judgesFor_20 ?_
  intro q2
  refine V_lsn [(2, .long _), (0, .ref _), (1, .int _)] hC dX8_judgesFor_23 (by decide) rfl ?_
  refine V_aln hC dX8_judgesFor_24 1 rfl ?_
  refine V_gr hC fl_X8_10 (by decide) rfl rfl dX8_judgesFor_25 ?_
  refine V_aln hC dX8_judgesFor_28 1 rfl ?_
  refine V_gr hC fl_X8_65 (by decide) rfl rfl dX8_judgesFor_29 ?_
  refine V_gr hC fl_X8_200 (by decide) rfl rfl dX8_judgesFor_32 ?_
  refine V_iln hC dX8_judgesFor_35 2 rfl ?_
  refine V_ia hC (by decide) rfl dX8_judgesFor_36 ?_
  refine V_cvl [] hC cv_X8_292 (by decide) rfl rfl (kX2_judgesOutside G _ _) rfl rfl (Nat.le_of_ble_eq_true rfl) ⟨by decide, by decide⟩ dX8_judgesFor_37 ?_
  intro q3
  refine V_lln hC dX8_judgesFor_40 0 rfl ?_
  refine V_ldc2 hC dX8_judgesFor_41 kc_X8_275 ?_
  refine V_lxor hC dX8_judgesFor_44 ?_
  refine V_land hC dX8_judgesFor_45 ?_
  exact V_lr hC dX8_judgesFor_46 rfl
def fX8_may (v1 : Int32) (v2 : Int32) (z : iw_M) : Option (Int32 × iw_M) :=
  ((fX8_isHand v1 z).bind (fun q1 =>
  (if q1.1 = 0 then
  ((fX8_refuse (-1 : Int32) q1.2).bind (fun q2 =>
  some (q2.1, q2.2)))
  else
  ((fX8_isIdea v2 q1.2).bind (fun q3 =>
  (if q3.1 = 0 then
  ((fX8_refuse (-1 : Int32) q3.2).bind (fun q6 =>
  some (q6.1, q6.2)))
  else
  ((fX8_judgesFor v2 q3.2).bind (fun q4 =>
  ((fX8_has q4.1 v1 q4.2).bind (fun q5 =>
  (if q5.1 = 0 then
  some ((0 : Int32), q5.2)
  else
  some ((1 : Int32), q5.2))))))))))))
abbrev bX8_may : iw_B := (cX8_may, 3, { frames := 3, cells := 0, slots := 0, locals := 70 }, yX8_may.cls, (some .int))
set_option maxRecDepth 100000 in
set_option maxHeartbeats 4000000 in
theorem kX8_may (G : iw_G) (v1 : Int32) (v2 : Int32) (z : iw_M) : iw_K G iw_wX yX8_may cX8_may 3 (some .int) 3 70 iw_ei [.ref (iw_ad G 0), .int v1, .int v2] z (fX8_may v1 v2 z) := by
  refine iw_of [(0, .ref (iw_ad G 0)), (1, .int v1), (2, .int v2)] (by decide +kernel) (Nat.le_of_ble_eq_true rfl) rfl ?_
  intro X hC
  unfold fX8_may
  refine V_aln hC dX8_may_0 0 rfl ?_
  refine V_iln hC dX8_may_1 1 rfl ?_
  refine V_cvi [] hC cv_X8_95 (by decide) rfl rfl (kX8_isHand G _ _) rfl rfl (Nat.le_of_ble_eq_true rfl) ⟨by decide, by decide⟩ dX8_may_2 ?_
  intro q1
  refine V_ieq 16 hC dX8_may_5 (by decide) ?_ ?_
  · refine V_aln hC dX8_may_16 0 rfl ?_
    refine V_ic (x := -1) hC dX8_may_17 (by decide) ?_
    refine V_cvi [] hC cv_X8_85 (by decide) rfl rfl (kX8_refuse G _ _) rfl rfl (Nat.le_of_ble_eq_true rfl) ⟨by decide, by decide⟩ dX8_may_18 ?_
    intro q2
    exact V_ir hC dX8_may_21 rfl
  · refine V_aln hC dX8_may_8 0 rfl ?_
    refine V_iln hC dX8_may_9 2 rfl ?_
    refine V_cvi [] hC cv_X8_113 (by decide) rfl rfl (kX8_isIdea G _ _) rfl rfl (Nat.le_of_ble_eq_true rfl) ⟨by decide, by decide⟩ dX8_may_10 ?_
    intro q3
    refine V_ine 22 hC dX8_may_13 (by decide) ?_ ?_
    · refine V_aln hC dX8_may_22 0 rfl ?_
      refine V_iln hC dX8_may_23 2 rfl ?_
      refine V_cvl [] hC cv_X8_161 (by decide) rfl rfl (kX8_judgesFor G _ _) rfl rfl (Nat.le_of_ble_eq_true rfl) ⟨by decide, by decide⟩ dX8_may_24 ?_
      intro q4
      refine V_iln hC dX8_may_27 1 rfl ?_
      refine V_csi [] hC cs_X8_120 (kX8_has G _ _ _) rfl rfl (Nat.le_of_ble_eq_true rfl) ⟨by decide, by decide⟩ dX8_may_28 ?_
      intro q5
      refine V_ieq 38 hC dX8_may_31 (by decide) ?_ ?_
      · refine V_ic (x := 0) hC dX8_may_38 (by decide) ?_
        exact V_ir hC dX8_may_39 rfl
      · refine V_ic (x := 1) hC dX8_may_34 (by decide) ?_
        refine V_goto 39 hC dX8_may_35 (by decide) ?_
        exact V_ir hC dX8_may_39 rfl
    · refine V_aln hC dX8_may_16 0 rfl ?_
      refine V_ic (x := -1) hC dX8_may_17 (by decide) ?_
      refine V_cvi [] hC cv_X8_85 (by decide) rfl rfl (kX8_refuse G _ _) rfl rfl (Nat.le_of_ble_eq_true rfl) ⟨by decide, by decide⟩ dX8_may_18 ?_
      intro q6
      exact V_ir hC dX8_may_21 rfl
def fX8_without (v0 : Int64) (v2 : Int32) (z : iw_M) : Option (Int64 × iw_M) :=
  (if v2 = (-9 : Int32) then
  some (v0, z)
  else
  some ((v0 &&& (((1 : Int64) <<< (Int32.toInt64 v2 &&& 63)) ^^^ (-1 : Int64))), z))
abbrev bX8_without : iw_B := (cX8_without, 3, { frames := 0, cells := 0, slots := 0, locals := 0 }, yX8_without.cls, (some .long))
set_option maxRecDepth 100000 in
set_option maxHeartbeats 4000000 in
theorem kX8_without (G : iw_G) (v0 : Int64) (v2 : Int32) (z : iw_M) : iw_K G iw_wX yX8_without cX8_without 3 (some .long) 0 0 iw_el [.long v0, .int v2] z (fX8_without v0 v2 z) := by
  refine iw_of [(0, .long v0), (2, .int v2)] (by decide +kernel) (Nat.le_of_ble_eq_true rfl) rfl ?_
  intro X hC
  unfold fX8_without
  refine V_iln hC dX8_without_0 1 rfl ?_
  refine V_bip (x := -9) hC dX8_without_1 (by decide) ?_
  refine V_cne 10 hC dX8_without_3 (by decide) ?_ ?_
  · refine V_lln hC dX8_without_10 0 rfl ?_
    refine V_lc (x := 1) hC dX8_without_11 (by decide) ?_
    refine V_iln hC dX8_without_12 1 rfl ?_
    refine V_lshl hC dX8_without_13 ?_
    refine V_ldc2 hC dX8_without_14 kc_X8_275 ?_
    refine V_lxor hC dX8_without_17 ?_
    refine V_land hC dX8_without_18 ?_
    exact V_lr hC dX8_without_19 rfl
  · refine V_lln hC dX8_without_6 0 rfl ?_
    refine V_goto 19 hC dX8_without_7 (by decide) ?_
    exact V_lr hC dX8_without_19 rfl
def fX8_judgeOf (v1 : Int32) (v2 : Int32) (z : iw_M) : Option (Int32 × iw_M) :=
  ((fX8_isIdea v1 z).bind (fun q1 =>
  (if q1.1 = 0 then
  ((fX8_refuse (-1 : Int32) q1.2).bind (fun q2 =>
  some (q2.1, q2.2)))
  else
  (if v2 < 0 then
  ((fX8_refuse (-1 : Int32) q1.2).bind (fun q3 =>
  some (q3.1, q3.2)))
  else
  (if v2 ≤ (1 : Int32) then
  ((fX8_judgesFor v1 q1.2).bind (fun q4 =>
  ((fX2_leastNamed q4.1 q4.2).bind (fun q5 =>
  ((fX8_without q4.1 q5.1 q5.2).bind (fun q6 =>
  ((fX2_leastNamed q6.1 q6.2).bind (fun q7 =>
  (if q7.1 = (-9 : Int32) then
  some ((-9 : Int32), q7.2)
  else
  (if v2 = 0 then
  some (q5.1, q7.2)
  else
  some (q7.1, q7.2)))))))))))
  else
  ((fX8_refuse (-1 : Int32) q1.2).bind (fun q8 =>
  some (q8.1, q8.2))))))))
abbrev bX8_judgeOf : iw_B := (cX8_judgeOf, 7, { frames := 3, cells := 0, slots := 0, locals := 70 }, yX8_judgeOf.cls, (some .int))
set_option maxRecDepth 100000 in
set_option maxHeartbeats 4000000 in
theorem kX8_judgeOf (G : iw_G) (v1 : Int32) (v2 : Int32) (z : iw_M) : iw_K G iw_wX yX8_judgeOf cX8_judgeOf 7 (some .int) 3 70 iw_ei [.ref (iw_ad G 0), .int v1, .int v2] z (fX8_judgeOf v1 v2 z) := by
  refine iw_of [(0, .ref (iw_ad G 0)), (1, .int v1), (2, .int v2)] (by decide +kernel) (Nat.le_of_ble_eq_true rfl) rfl ?_
  intro X hC
  unfold fX8_judgeOf
  refine V_aln hC dX8_judgeOf_0 0 rfl ?_
  refine V_iln hC dX8_judgeOf_1 1 rfl ?_
  refine V_cvi [] hC cv_X8_113 (by decide) rfl rfl (kX8_isIdea G _ _) rfl rfl (Nat.le_of_ble_eq_true rfl) ⟨by decide, by decide⟩ dX8_judgeOf_2 ?_
  intro q1
  refine V_ieq 17 hC dX8_judgeOf_5 (by decide) ?_ ?_
  · refine V_aln hC dX8_judgeOf_17 0 rfl ?_
    refine V_ic (x := -1) hC dX8_judgeOf_18 (by decide) ?_
    refine V_cvi [] hC cv_X8_85 (by decide) rfl rfl (kX8_refuse G _ _) rfl rfl (Nat.le_of_ble_eq_true rfl) ⟨by decide, by decide⟩ dX8_judgeOf_19 ?_
    intro q2
    exact V_ir hC dX8_judgeOf_22 rfl
  · refine V_iln hC dX8_judgeOf_8 2 rfl ?_
    refine V_ilt 17 hC dX8_judgeOf_9 (by decide) ?_ ?_
    · refine V_aln hC dX8_judgeOf_17 0 rfl ?_
      refine V_ic (x := -1) hC dX8_judgeOf_18 (by decide) ?_
      refine V_cvi [] hC cv_X8_85 (by decide) rfl rfl (kX8_refuse G _ _) rfl rfl (Nat.le_of_ble_eq_true rfl) ⟨by decide, by decide⟩ dX8_judgeOf_19 ?_
      intro q3
      exact V_ir hC dX8_judgeOf_22 rfl
    · refine V_iln hC dX8_judgeOf_12 2 rfl ?_
      refine V_ic (x := 1) hC dX8_judgeOf_13 (by decide) ?_
      refine V_cle 23 hC dX8_judgeOf_14 (by decide) ?_ ?_
      · refine V_aln hC dX8_judgeOf_23 0 rfl ?_
        refine V_iln hC dX8_judgeOf_24 1 rfl ?_
        refine V_cvl [] hC cv_X8_161 (by decide) rfl rfl (kX8_judgesFor G _ _) rfl rfl (Nat.le_of_ble_eq_true rfl) ⟨by decide, by decide⟩ dX8_judgeOf_25 ?_
        intro q4
        refine V_lsn [(3, .long _), (0, .ref _), (1, .int _), (2, .int _)] hC dX8_judgeOf_28 (by decide) rfl ?_
        refine V_aln hC dX8_judgeOf_29 1 rfl ?_
        refine V_gr hC fl_X8_10 (by decide) rfl rfl dX8_judgeOf_30 ?_
        refine V_lln hC dX8_judgeOf_33 0 rfl ?_
        refine V_cvi [] hC cv_X8_164 (by decide) rfl rfl (kX2_leastNamed G _ _) rfl rfl (Nat.le_of_ble_eq_true rfl) ⟨by decide, by decide⟩ dX8_judgeOf_34 ?_
        intro q5
        refine V_is [(5, .int _), (3, .long _), (0, .ref _), (1, .int _), (2, .int _)] hC dX8_judgeOf_37 (by decide) rfl ?_
        refine V_aln hC dX8_judgeOf_39 2 rfl ?_
        refine V_gr hC fl_X8_10 (by decide) rfl rfl dX8_judgeOf_40 ?_
        refine V_lln hC dX8_judgeOf_43 1 rfl ?_
        refine V_il hC dX8_judgeOf_44 0 rfl ?_
        refine V_csl [.ref _] hC cs_X8_168 (kX8_without G _ _ _) rfl rfl (Nat.le_of_ble_eq_true rfl) ⟨by decide, by decide⟩ dX8_judgeOf_46 ?_
        intro q6
        refine V_cvi [] hC cv_X8_164 (by decide) rfl rfl (kX2_leastNamed G _ _) rfl rfl (Nat.le_of_ble_eq_true rfl) ⟨by decide, by decide⟩ dX8_judgeOf_49 ?_
        intro q7
        refine V_is [(6, .int _), (5, .int _), (3, .long _), (0, .ref _), (1, .int _), (2, .int _)] hC dX8_judgeOf_52 (by decide) rfl ?_
        refine V_il hC dX8_judgeOf_54 0 rfl ?_
        refine V_bip (x := -9) hC dX8_judgeOf_56 (by decide) ?_
        refine V_cne 64 hC dX8_judgeOf_58 (by decide) ?_ ?_
        · refine V_iln hC dX8_judgeOf_64 5 rfl ?_
          refine V_ine 73 hC dX8_judgeOf_65 (by decide) ?_ ?_
          · refine V_il hC dX8_judgeOf_73 0 rfl ?_
            exact V_ir hC dX8_judgeOf_75 rfl
          · refine V_il hC dX8_judgeOf_68 1 rfl ?_
            refine V_goto 75 hC dX8_judgeOf_70 (by decide) ?_
            exact V_ir hC dX8_judgeOf_75 rfl
        · refine V_bip (x := -9) hC dX8_judgeOf_61 (by decide) ?_
          exact V_ir hC dX8_judgeOf_63 rfl
      · refine V_aln hC dX8_judgeOf_17 0 rfl ?_
        refine V_ic (x := -1) hC dX8_judgeOf_18 (by decide) ?_
        refine V_cvi [] hC cv_X8_85 (by decide) rfl rfl (kX8_refuse G _ _) rfl rfl (Nat.le_of_ble_eq_true rfl) ⟨by decide, by decide⟩ dX8_judgeOf_19 ?_
        intro q8
        exact V_ir hC dX8_judgeOf_22 rfl
def fX8_nameThird (v1 : Int64) (z : iw_M) : Option (Int32 × iw_M) :=
  ((fX2_leastNamed v1 z).bind (fun q1 =>
  (if q1.1 = (-9 : Int32) then
  some ((0 : Int32), q1.2)
  else
  (if iw_ok q1.1 40 then
  (if iw_ok q1.1 40 then
  some ((1 : Int32), (iw_wI q1.2 5 (Int32.toNatClampNeg q1.1) ((q1.2.1 5 (Int32.toNatClampNeg q1.1)) + (1 : Int32))))
  else none)
  else none))))
abbrev bX8_nameThird : iw_B := (cX8_nameThird, 4, { frames := 2, cells := 0, slots := 0, locals := 46 }, yX8_nameThird.cls, (some .boolean))
set_option maxRecDepth 100000 in
set_option maxHeartbeats 4000000 in
theorem kX8_nameThird (G : iw_G) (v1 : Int64) (z : iw_M) : iw_K G iw_wX yX8_nameThird cX8_nameThird 4 (some .boolean) 2 46 iw_ei [.ref (iw_ad G 0), .long v1] z (fX8_nameThird v1 z) := by
  refine iw_of [(0, .ref (iw_ad G 0)), (1, .long v1)] (by decide +kernel) (Nat.le_of_ble_eq_true rfl) rfl ?_
  intro X hC
  unfold fX8_nameThird
  refine V_aln hC dX8_nameThird_0 0 rfl ?_
  refine V_gr hC fl_X8_10 (by decide) rfl rfl dX8_nameThird_1 ?_
  refine V_lln hC dX8_nameThird_4 1 rfl ?_
  refine V_cvi [] hC cv_X8_164 (by decide) rfl rfl (kX2_leastNamed G _ _) rfl rfl (Nat.le_of_ble_eq_true rfl) ⟨by decide, by decide⟩ dX8_nameThird_5 ?_
  intro q1
  refine V_isn [(3, .int _), (0, .ref _), (1, .long _)] hC dX8_nameThird_8 (by decide) rfl ?_
  refine V_iln hC dX8_nameThird_9 0 rfl ?_
  refine V_bip (x := -9) hC dX8_nameThird_10 (by decide) ?_
  refine V_cne 17 hC dX8_nameThird_12 (by decide) ?_ ?_
  · refine V_aln hC dX8_nameThird_17 1 rfl ?_
    refine V_gr hC fl_X8_10 (by decide) rfl rfl dX8_nameThird_18 ?_
    refine V_gr hC fl_X8_175 (by decide) rfl rfl dX8_nameThird_21 ?_
    refine V_iln hC dX8_nameThird_24 0 rfl ?_
    refine V_dup2 hC dX8_nameThird_25 rfl rfl ?_
    refine V_ia hC (by decide) rfl dX8_nameThird_26 ?_
    refine V_ic (x := 1) hC dX8_nameThird_27 (by decide) ?_
    refine V_iadd hC dX8_nameThird_28 ?_
    refine V_is_ hC (by decide) rfl dX8_nameThird_29 ?_
    refine V_ic (x := 1) hC dX8_nameThird_30 (by decide) ?_
    exact V_zr hC dX8_nameThird_31 rfl rfl
  · refine V_ic (x := 0) hC dX8_nameThird_15 (by decide) ?_
    exact V_zr hC dX8_nameThird_16 rfl rfl
def fX8_settle (v1 : Int32) (v2 : Int32) (z : iw_M) : Option (Int32 × iw_M) :=
  (if iw_ok v1 40 then
  (if iw_ok v1 40 then
  (if iw_ok v1 40 then
  (if iw_ok (2 : Int32) 4 then
  (if iw_ok (3 : Int32) 4 then
  (if iw_ok v1 40 then
  (if iw_ok ((iw_wI (iw_wI z 14 (Int32.toNatClampNeg v1) v2) 15 (Int32.toNatClampNeg v1) ((iw_wI z 14 (Int32.toNatClampNeg v1) v2).1 0 11)).1 9 (Int32.toNatClampNeg v1)) 40 then
  (if iw_ok ((iw_wI (iw_wI z 14 (Int32.toNatClampNeg v1) v2) 15 (Int32.toNatClampNeg v1) ((iw_wI z 14 (Int32.toNatClampNeg v1) v2).1 0 11)).1 9 (Int32.toNatClampNeg v1)) 40 then
  some (((iw_max (0 : Int32) ((((iw_wI (iw_wI z 14 (Int32.toNatClampNeg v1) v2) 15 (Int32.toNatClampNeg v1) ((iw_wI z 14 (Int32.toNatClampNeg v1) v2).1 0 11)).1 0 11) - ((iw_wI (iw_wI z 14 (Int32.toNatClampNeg v1) v2) 15 (Int32.toNatClampNeg v1) ((iw_wI z 14 (Int32.toNatClampNeg v1) v2).1 0 11)).1 13 (Int32.toNatClampNeg v1))) - ((iw_wI (iw_wI z 14 (Int32.toNatClampNeg v1) v2) 15 (Int32.toNatClampNeg v1) ((iw_wI z 14 (Int32.toNatClampNeg v1) v2).1 0 11)).1 45 (Int32.toNatClampNeg (2 : Int32))))) * ((iw_wI (iw_wI z 14 (Int32.toNatClampNeg v1) v2) 15 (Int32.toNatClampNeg v1) ((iw_wI z 14 (Int32.toNatClampNeg v1) v2).1 0 11)).1 45 (Int32.toNatClampNeg (3 : Int32)))), (iw_wI (iw_wI (iw_wI z 14 (Int32.toNatClampNeg v1) v2) 15 (Int32.toNatClampNeg v1) ((iw_wI z 14 (Int32.toNatClampNeg v1) v2).1 0 11)) 7 (Int32.toNatClampNeg ((iw_wI (iw_wI z 14 (Int32.toNatClampNeg v1) v2) 15 (Int32.toNatClampNeg v1) ((iw_wI z 14 (Int32.toNatClampNeg v1) v2).1 0 11)).1 9 (Int32.toNatClampNeg v1))) (((iw_wI (iw_wI z 14 (Int32.toNatClampNeg v1) v2) 15 (Int32.toNatClampNeg v1) ((iw_wI z 14 (Int32.toNatClampNeg v1) v2).1 0 11)).1 7 (Int32.toNatClampNeg ((iw_wI (iw_wI z 14 (Int32.toNatClampNeg v1) v2) 15 (Int32.toNatClampNeg v1) ((iw_wI z 14 (Int32.toNatClampNeg v1) v2).1 0 11)).1 9 (Int32.toNatClampNeg v1)))) + ((iw_max (0 : Int32) ((((iw_wI (iw_wI z 14 (Int32.toNatClampNeg v1) v2) 15 (Int32.toNatClampNeg v1) ((iw_wI z 14 (Int32.toNatClampNeg v1) v2).1 0 11)).1 0 11) - ((iw_wI (iw_wI z 14 (Int32.toNatClampNeg v1) v2) 15 (Int32.toNatClampNeg v1) ((iw_wI z 14 (Int32.toNatClampNeg v1) v2).1 0 11)).1 13 (Int32.toNatClampNeg v1))) - ((iw_wI (iw_wI z 14 (Int32.toNatClampNeg v1) v2) 15 (Int32.toNatClampNeg v1) ((iw_wI z 14 (Int32.toNatClampNeg v1) v2).1 0 11)).1 45 (Int32.toNatClampNeg (2 : Int32))))) * ((iw_wI (iw_wI z 14 (Int32.toNatClampNeg v1) v2) 15 (Int32.toNatClampNeg v1) ((iw_wI z 14 (Int32.toNatClampNeg v1) v2).1 0 11)).1 45 (Int32.toNatClampNeg (3 : Int32)))))))
  else none)
  else none)
  else none)
  else none)
  else none)
  else none)
  else none)
  else none)
abbrev bX8_settle : iw_B := (cX8_settle, 5, { frames := 1, cells := 0, slots := 0, locals := 21 }, yX8_settle.cls, (some .int))
set_option maxRecDepth 100000 in
set_option maxHeartbeats 4000000 in
theorem kX8_settle (G : iw_G) (v1 : Int32) (v2 : Int32) (z : iw_M) : iw_K G iw_wX yX8_settle cX8_settle 5 (some .int) 1 21 iw_ei [.ref (iw_ad G 0), .int v1, .int v2] z (fX8_settle v1 v2 z) := by
  refine iw_of [(0, .ref (iw_ad G 0)), (1, .int v1), (2, .int v2)] (by decide +kernel) (Nat.le_of_ble_eq_true rfl) rfl ?_
  intro X hC
  unfold fX8_settle
  refine V_aln hC dX8_settle_0 0 rfl ?_
  refine V_gr hC fl_X8_65 (by decide) rfl rfl dX8_settle_1 ?_
  refine V_gr hC fl_X8_172 (by decide) rfl rfl dX8_settle_4 ?_
  refine V_iln hC dX8_settle_7 1 rfl ?_
  refine V_iln hC dX8_settle_8 2 rfl ?_
  refine V_is_ hC (by decide) rfl dX8_settle_9 ?_
  refine V_aln hC dX8_settle_10 0 rfl ?_
  refine V_gr hC fl_X8_65 (by decide) rfl rfl dX8_settle_11 ?_
  refine V_gr hC fl_X8_258 (by decide) rfl rfl dX8_settle_14 ?_
  refine V_iln hC dX8_settle_17 1 rfl ?_
  refine V_aln hC dX8_settle_18 0 rfl ?_
  refine V_gi hC fl_X8_58 (by decide) rfl rfl dX8_settle_19 ?_
  refine V_is_ hC (by decide) rfl dX8_settle_22 ?_
  refine V_ic (x := 0) hC dX8_settle_23 (by decide) ?_
  refine V_aln hC dX8_settle_24 0 rfl ?_
  refine V_gi hC fl_X8_58 (by decide) rfl rfl dX8_settle_25 ?_
  refine V_aln hC dX8_settle_28 0 rfl ?_
  refine V_gr hC fl_X8_65 (by decide) rfl rfl dX8_settle_29 ?_
  refine V_gr hC fl_X8_255 (by decide) rfl rfl dX8_settle_32 ?_
  refine V_iln hC dX8_settle_35 1 rfl ?_
  refine V_ia hC (by decide) rfl dX8_settle_36 ?_
  refine V_isub hC dX8_settle_37 ?_
  refine V_aln hC dX8_settle_38 0 rfl ?_
  refine V_gr hC fl_X8_51 (by decide) rfl rfl dX8_settle_39 ?_
  refine V_ic (x := 2) hC dX8_settle_42 (by decide) ?_
  refine V_ia hC (by decide) rfl dX8_settle_43 ?_
  refine V_isub hC dX8_settle_44 ?_
  refine V_max hC mm_X8_295 ⟨by decide, Nat.le_of_ble_eq_true rfl⟩ dX8_settle_45 ?_
  refine V_isn [(3, .int _), (0, .ref _), (1, .int _), (2, .int _)] hC dX8_settle_48 (by decide) rfl ?_
  refine V_iln hC dX8_settle_49 0 rfl ?_
  refine V_aln hC dX8_settle_50 1 rfl ?_
  refine V_gr hC fl_X8_51 (by decide) rfl rfl dX8_settle_51 ?_
  refine V_ic (x := 3) hC dX8_settle_54 (by decide) ?_
  refine V_ia hC (by decide) rfl dX8_settle_55 ?_
  refine V_imul hC dX8_settle_56 ?_
  refine V_is [(4, .int _), (3, .int _), (0, .ref _), (1, .int _), (2, .int _)] hC dX8_settle_57 (by decide) rfl ?_
  refine V_aln hC dX8_settle_59 2 rfl ?_
  refine V_gr hC fl_X8_10 (by decide) rfl rfl dX8_settle_60 ?_
  refine V_gr hC fl_X8_252 (by decide) rfl rfl dX8_settle_63 ?_
  refine V_aln hC dX8_settle_66 2 rfl ?_
  refine V_gr hC fl_X8_65 (by decide) rfl rfl dX8_settle_67 ?_
  refine V_gr hC fl_X8_298 (by decide) rfl rfl dX8_settle_70 ?_
  refine V_iln hC dX8_settle_73 3 rfl ?_
  refine V_ia hC (by decide) rfl dX8_settle_74 ?_
  refine V_dup2 hC dX8_settle_75 rfl rfl ?_
  refine V_ia hC (by decide) rfl dX8_settle_76 ?_
  refine V_il hC dX8_settle_77 0 rfl ?_
  refine V_iadd hC dX8_settle_79 ?_
  refine V_is_ hC (by decide) rfl dX8_settle_80 ?_
  refine V_il hC dX8_settle_81 0 rfl ?_
  exact V_ir hC dX8_settle_83 rfl
def fX8_takeFamily_L2 (v1 : Int32) (K : Int32 → iw_M → Option (Unit × iw_M)) : Nat → Int32 → iw_M → Option (Unit × iw_M)
  | 0, _, _ => none
  | n + 1, v2, z => (if (z.1 8 10) ≤ v2 then
  K v2 z
  else
  (if iw_ok v2 40 then
  (if (z.1 20 (Int32.toNatClampNeg v2)) = v1 then
  (if iw_ok v2 40 then
  (if (z.1 14 (Int32.toNatClampNeg v2)) = 0 then
  ((fX8_settle v2 (1 : Int32) z).bind (fun q1 =>
  fX8_takeFamily_L2 v1 K n (v2 + (1 : Int32)) q1.2))
  else
  fX8_takeFamily_L2 v1 K n (v2 + (1 : Int32)) z)
  else none)
  else
  fX8_takeFamily_L2 v1 K n (v2 + (1 : Int32)) z)
  else none))
def fX8_takeFamily (v1 : Int32) (z : iw_M) : Option (Unit × iw_M) :=
  fX8_takeFamily_L2 v1 (fun x2_2 z_2 => some ((), z_2)) iw_fu (0 : Int32) z
abbrev bX8_takeFamily : iw_B := (cX8_takeFamily, 3, { frames := 2, cells := 0, slots := 0, locals := 45 }, yX8_takeFamily.cls, none)
set_option maxRecDepth 100000 in
set_option maxHeartbeats 4000000 in
theorem vX8_takeFamily_L2 {G : iw_G} {X : iw_X} (hC : iw_C G iw_wX X bX8_takeFamily) (v1 : Int32) (K : Int32 → iw_M → Option (Unit × iw_M)) (hK : ∀ (v2 : Int32) (z : iw_M), iw_V G iw_wX X bX8_takeFamily iw_ev 51 [(0, .ref (iw_ad G 0)), (1, .int v1), (2, .int v2)] [] z (K v2 z)) : ∀ (n : Nat) (v2 : Int32) (z : iw_M), iw_V G iw_wX X bX8_takeFamily iw_ev 2 [(0, .ref (iw_ad G 0)), (1, .int v1), (2, .int v2)] [] z (fX8_takeFamily_L2 v1 K n v2 z) := by
  intro n
  induction n with
  | zero =>
    intro v2 z
    exact V_none
  | succ n ih =>
    intro v2 z
    simp only [fX8_takeFamily_L2]
    refine V_iln hC dX8_takeFamily_2 2 rfl ?_
    refine V_aln hC dX8_takeFamily_3 0 rfl ?_
    refine V_gr hC fl_X8_65 (by decide) rfl rfl dX8_takeFamily_4 ?_
    refine V_gi hC fl_X8_105 (by decide) rfl rfl dX8_takeFamily_7 ?_
    refine V_cge 51 hC dX8_takeFamily_10 (by decide) ?_ ?_
    · exact hK _ _
    · refine V_aln hC dX8_takeFamily_13 0 rfl ?_
      refine V_gr hC fl_X8_74 (by decide) rfl rfl dX8_takeFamily_14 ?_
      refine V_gr hC fl_X8_148 (by decide) rfl rfl dX8_takeFamily_17 ?_
      refine V_iln hC dX8_takeFamily_20 2 rfl ?_
      refine V_ia hC (by decide) rfl dX8_takeFamily_21 ?_
      refine V_iln hC dX8_takeFamily_22 1 rfl ?_
      refine V_cne 45 hC dX8_takeFamily_23 (by decide) ?_ ?_
      · refine V_inc (k := 2) (y := 1) [(2, .int _), (0, .ref _), (1, .int _)] hC dX8_takeFamily_45 rfl (by decide) (by decide) rfl ?_
        refine V_goto 2 hC dX8_takeFamily_48 (by decide) ?_
        refine V_sub [(0, .ref _), (1, .int _), (2, .int _)] [1, 2, 0] rfl ?_
        exact ih _ _
      · refine V_aln hC dX8_takeFamily_26 0 rfl ?_
        refine V_gr hC fl_X8_65 (by decide) rfl rfl dX8_takeFamily_27 ?_
        refine V_gr hC fl_X8_172 (by decide) rfl rfl dX8_takeFamily_30 ?_
        refine V_iln hC dX8_takeFamily_33 2 rfl ?_
        refine V_ia hC (by decide) rfl dX8_takeFamily_34 ?_
        refine V_ine 45 hC dX8_takeFamily_35 (by decide) ?_ ?_
        · refine V_inc (k := 2) (y := 1) [(2, .int _), (0, .ref _), (1, .int _)] hC dX8_takeFamily_45 rfl (by decide) (by decide) rfl ?_
          refine V_goto 2 hC dX8_takeFamily_48 (by decide) ?_
          refine V_sub [(0, .ref _), (1, .int _), (2, .int _)] [1, 2, 0] rfl ?_
          exact ih _ _
        · refine V_aln hC dX8_takeFamily_38 0 rfl ?_
          refine V_iln hC dX8_takeFamily_39 2 rfl ?_
          refine V_ic (x := 1) hC dX8_takeFamily_40 (by decide) ?_
          refine V_cvi [] hC cv_X8_185 (by decide) rfl rfl (kX8_settle G _ _ _) rfl rfl (Nat.le_of_ble_eq_true rfl) ⟨by decide, by decide⟩ dX8_takeFamily_41 ?_
          intro q1
          refine V_pop hC dX8_takeFamily_44 rfl ?_
          refine V_inc (k := 2) (y := 1) [(2, .int _), (0, .ref _), (1, .int _)] hC dX8_takeFamily_45 rfl (by decide) (by decide) rfl ?_
          refine V_goto 2 hC dX8_takeFamily_48 (by decide) ?_
          refine V_sub [(0, .ref _), (1, .int _), (2, .int _)] [1, 2, 0] rfl ?_
          exact ih _ _
set_option maxRecDepth 100000 in
set_option maxHeartbeats 4000000 in
theorem kX8_takeFamily (G : iw_G) (v1 : Int32) (z : iw_M) : iw_K G iw_wX yX8_takeFamily cX8_takeFamily 3 none 2 45 iw_ev [.ref (iw_ad G 0), .int v1] z (fX8_takeFamily v1 z) := by
  refine iw_of [(0, .ref (iw_ad G 0)), (1, .int v1)] (by decide +kernel) (Nat.le_of_ble_eq_true rfl) rfl ?_
  intro X hC
  unfold fX8_takeFamily
  refine V_ic (x := 0) hC dX8_takeFamily_0 (by decide) ?_
  refine V_isn [(2, .int _), (0, .ref _), (1, .int _)] hC dX8_takeFamily_1 (by decide) rfl ?_
  refine V_sub [(0, .ref _), (1, .int _), (2, .int _)] [1, 2, 0] rfl ?_
  refine vX8_takeFamily_L2 hC _ _ ?_ _ _ _
  intro x2_2 z_2
  exact V_vr hC dX8_takeFamily_51 rfl
def fX8_decide_J148 (v1 : Int32) (v9 : Int32) (z : iw_M) : Option (Int32 × iw_M) :=
  (if v9 = 0 then
  ((fX8_settle v1 (2 : Int32) z).bind (fun q8 =>
  (if iw_ok v1 40 then
  some ((q8.2.1 14 (Int32.toNatClampNeg v1)), q8.2)
  else none)))
  else
  (if iw_ok v1 40 then
  ((fX8_takeFamily (z.1 20 (Int32.toNatClampNeg v1)) z).bind (fun q9 =>
  (if iw_ok v1 40 then
  some ((q9.2.1 14 (Int32.toNatClampNeg v1)), q9.2)
  else none)))
  else none))
def fX8_decide_J146 (v1 : Int32) (s0 : Int32) (z : iw_M) : Option (Int32 × iw_M) :=
  fX8_decide_J148 v1 s0  z
def fX8_decide_J145 (v1 : Int32) (z : iw_M) : Option (Int32 × iw_M) :=
  fX8_decide_J146 v1 (0 : Int32) z
def fX8_decide (v1 : Int32) (v2 : Int32) (v3 : Int32) (v4 : Int32) (z : iw_M) : Option (Int32 × iw_M) :=
  ((fX8_isIdea v1 z).bind (fun q1 =>
  (if q1.1 = 0 then
  ((fX8_refuse (-1 : Int32) q1.2).bind (fun q14 =>
  some (q14.1, q14.2)))
  else
  ((fX8_judgesFor v1 q1.2).bind (fun q2 =>
  ((fX2_leastNamed q2.1 q2.2).bind (fun q3 =>
  ((fX8_without q2.1 q3.1 q3.2).bind (fun q4 =>
  ((fX2_leastNamed q4.1 q4.2).bind (fun q5 =>
  (if iw_ok v1 40 then
  (if (q5.2.1 14 (Int32.toNatClampNeg v1)) = 0 then
  (if q3.1 = (-9 : Int32) then
  ((fX8_refuse (-3 : Int32) q5.2).bind (fun q7 =>
  some (q7.1, q7.2)))
  else
  (if q5.1 = (-9 : Int32) then
  ((fX8_refuse (-3 : Int32) q5.2).bind (fun q13 =>
  some (q13.1, q13.2)))
  else
  (if iw_ok q3.1 40 then
  (if iw_ok q3.1 40 then
  (if iw_ok q5.1 40 then
  (if iw_ok q5.1 40 then
  (if v2 = v3 then
  fX8_decide_J148 v1 v2  (iw_wI (iw_wI q5.2 5 (Int32.toNatClampNeg q3.1) ((q5.2.1 5 (Int32.toNatClampNeg q3.1)) + (1 : Int32))) 5 (Int32.toNatClampNeg q5.1) (((iw_wI q5.2 5 (Int32.toNatClampNeg q3.1) ((q5.2.1 5 (Int32.toNatClampNeg q3.1)) + (1 : Int32))).1 5 (Int32.toNatClampNeg q5.1)) + (1 : Int32)))
  else
  ((fX8_without q2.1 q3.1 (iw_wI (iw_wI q5.2 5 (Int32.toNatClampNeg q3.1) ((q5.2.1 5 (Int32.toNatClampNeg q3.1)) + (1 : Int32))) 5 (Int32.toNatClampNeg q5.1) (((iw_wI q5.2 5 (Int32.toNatClampNeg q3.1) ((q5.2.1 5 (Int32.toNatClampNeg q3.1)) + (1 : Int32))).1 5 (Int32.toNatClampNeg q5.1)) + (1 : Int32)))).bind (fun q10 =>
  ((fX8_without q10.1 q5.1 q10.2).bind (fun q11 =>
  ((fX8_nameThird q11.1 q11.2).bind (fun q12 =>
  (if q12.1 = 0 then
  fX8_decide_J145 v1  q12.2
  else
  (if v4 = 0 then
  fX8_decide_J145 v1  q12.2
  else
  fX8_decide_J146 v1 (1 : Int32) q12.2)))))))))
  else none)
  else none)
  else none)
  else none)))
  else
  ((fX8_refuse (-3 : Int32) q5.2).bind (fun q6 =>
  some (q6.1, q6.2))))
  else none))))))))))))
abbrev bX8_decide : iw_B := (cX8_decide, 10, { frames := 3, cells := 0, slots := 0, locals := 70 }, yX8_decide.cls, (some .int))
set_option maxRecDepth 100000 in
set_option maxHeartbeats 4000000 in
theorem vX8_decide_J148 {G : iw_G} {X : iw_X} (hC : iw_C G iw_wX X bX8_decide) (v1 : Int32) (v9 : Int32) (z : iw_M) : iw_V G iw_wX X bX8_decide iw_ei 148 [(0, .ref (iw_ad G 0)), (1, .int v1), (9, .int v9)] [] z (fX8_decide_J148 v1 v9 z) := by
  unfold fX8_decide_J148
  refine V_il hC dX8_decide_148 2 rfl ?_
  refine V_ieq 169 hC dX8_decide_150 (by decide) ?_ ?_
  · refine V_aln hC dX8_decide_169 0 rfl ?_
    refine V_iln hC dX8_decide_170 1 rfl ?_
    refine V_ic (x := 2) hC dX8_decide_171 (by decide) ?_
    refine V_cvi [] hC cv_X8_185 (by decide) rfl rfl (kX8_settle G _ _ _) rfl rfl (Nat.le_of_ble_eq_true rfl) ⟨by decide, by decide⟩ dX8_decide_172 ?_
    intro q8
    refine V_pop hC dX8_decide_175 rfl ?_
    refine V_aln hC dX8_decide_176 0 rfl ?_
    refine V_gr hC fl_X8_65 (by decide) rfl rfl dX8_decide_177 ?_
    refine V_gr hC fl_X8_172 (by decide) rfl rfl dX8_decide_180 ?_
    refine V_iln hC dX8_decide_183 1 rfl ?_
    refine V_ia hC (by decide) rfl dX8_decide_184 ?_
    exact V_ir hC dX8_decide_185 rfl
  · refine V_aln hC dX8_decide_153 0 rfl ?_
    refine V_aln hC dX8_decide_154 0 rfl ?_
    refine V_gr hC fl_X8_74 (by decide) rfl rfl dX8_decide_155 ?_
    refine V_gr hC fl_X8_148 (by decide) rfl rfl dX8_decide_158 ?_
    refine V_iln hC dX8_decide_161 1 rfl ?_
    refine V_ia hC (by decide) rfl dX8_decide_162 ?_
    refine V_cvv [] hC cv_X8_182 (by decide) rfl rfl (kX8_takeFamily G _ _) rfl rfl (Nat.le_of_ble_eq_true rfl) ⟨by decide, by decide⟩ dX8_decide_163 ?_
    intro q9
    refine V_goto 176 hC dX8_decide_166 (by decide) ?_
    refine V_aln hC dX8_decide_176 0 rfl ?_
    refine V_gr hC fl_X8_65 (by decide) rfl rfl dX8_decide_177 ?_
    refine V_gr hC fl_X8_172 (by decide) rfl rfl dX8_decide_180 ?_
    refine V_iln hC dX8_decide_183 1 rfl ?_
    refine V_ia hC (by decide) rfl dX8_decide_184 ?_
    exact V_ir hC dX8_decide_185 rfl
set_option maxRecDepth 100000 in
set_option maxHeartbeats 4000000 in
theorem vX8_decide_J146 {G : iw_G} {X : iw_X} (hC : iw_C G iw_wX X bX8_decide) (v1 : Int32) (s0 : Int32) (z : iw_M) : iw_V G iw_wX X bX8_decide iw_ei 146 [(0, .ref (iw_ad G 0)), (1, .int v1)] [.int s0] z (fX8_decide_J146 v1 s0 z) := by
  unfold fX8_decide_J146
  refine V_is [(9, .int _), (0, .ref _), (1, .int _)] hC dX8_decide_146 (by decide) rfl ?_
  refine V_sub [(0, .ref _), (1, .int _), (9, .int _)] [1, 2, 0] rfl ?_
  exact vX8_decide_J148 hC _ _  _
set_option maxRecDepth 100000 in
set_option maxHeartbeats 4000000 in
theorem vX8_decide_J145 {G : iw_G} {X : iw_X} (hC : iw_C G iw_wX X bX8_decide) (v1 : Int32) (z : iw_M) : iw_V G iw_wX X bX8_decide iw_ei 145 [(0, .ref (iw_ad G 0)), (1, .int v1)] [] z (fX8_decide_J145 v1 z) := by
  unfold fX8_decide_J145
  refine V_ic (x := 0) hC dX8_decide_145 (by decide) ?_
  exact vX8_decide_J146 hC _ _ _
set_option maxRecDepth 100000 in
set_option maxHeartbeats 4000000 in
theorem kX8_decide (G : iw_G) (v1 : Int32) (v2 : Int32) (v3 : Int32) (v4 : Int32) (z : iw_M) : iw_K G iw_wX yX8_decide cX8_decide 10 (some .int) 3 70 iw_ei [.ref (iw_ad G 0), .int v1, .int v2, .int v3, .int v4] z (fX8_decide v1 v2 v3 v4 z) := by
  refine iw_of [(0, .ref (iw_ad G 0)), (1, .int v1), (2, .int v2), (3, .int v3), (4, .int v4)] (by decide +kernel) (Nat.le_of_ble_eq_true rfl) rfl ?_
  intro X hC
  unfold fX8_decide
  refine V_aln hC dX8_decide_0 0 rfl ?_
  refine V_iln hC dX8_decide_1 1 rfl ?_
  refine V_cvi [] hC cv_X8_113 (by decide) rfl rfl (kX8_isIdea G _ _) rfl rfl (Nat.le_of_ble_eq_true rfl) ⟨by decide, by decide⟩ dX8_decide_2 ?_
  intro q1
  refine V_ine 14 hC dX8_decide_5 (by decide) ?_ ?_
  · refine V_aln hC dX8_decide_14 0 rfl ?_
    refine V_iln hC dX8_decide_15 1 rfl ?_
    refine V_cvl [] hC cv_X8_161 (by decide) rfl rfl (kX8_judgesFor G _ _) rfl rfl (Nat.le_of_ble_eq_true rfl) ⟨by decide, by decide⟩ dX8_decide_16 ?_
    intro q2
    refine V_ls [(5, .long _), (0, .ref _), (1, .int _), (2, .int _), (3, .int _), (4, .int _)] hC dX8_decide_19 (by decide) rfl ?_
    refine V_aln hC dX8_decide_21 1 rfl ?_
    refine V_gr hC fl_X8_10 (by decide) rfl rfl dX8_decide_22 ?_
    refine V_ll hC dX8_decide_25 0 rfl ?_
    refine V_cvi [] hC cv_X8_164 (by decide) rfl rfl (kX2_leastNamed G _ _) rfl rfl (Nat.le_of_ble_eq_true rfl) ⟨by decide, by decide⟩ dX8_decide_27 ?_
    intro q3
    refine V_is [(7, .int _), (5, .long _), (0, .ref _), (1, .int _), (2, .int _), (3, .int _), (4, .int _)] hC dX8_decide_30 (by decide) rfl ?_
    refine V_aln hC dX8_decide_32 2 rfl ?_
    refine V_gr hC fl_X8_10 (by decide) rfl rfl dX8_decide_33 ?_
    refine V_ll hC dX8_decide_36 1 rfl ?_
    refine V_il hC dX8_decide_38 0 rfl ?_
    refine V_csl [.ref _] hC cs_X8_168 (kX8_without G _ _ _) rfl rfl (Nat.le_of_ble_eq_true rfl) ⟨by decide, by decide⟩ dX8_decide_40 ?_
    intro q4
    refine V_cvi [] hC cv_X8_164 (by decide) rfl rfl (kX2_leastNamed G _ _) rfl rfl (Nat.le_of_ble_eq_true rfl) ⟨by decide, by decide⟩ dX8_decide_43 ?_
    intro q5
    refine V_is [(8, .int _), (7, .int _), (5, .long _), (0, .ref _), (1, .int _), (2, .int _), (3, .int _), (4, .int _)] hC dX8_decide_46 (by decide) rfl ?_
    refine V_aln hC dX8_decide_48 3 rfl ?_
    refine V_gr hC fl_X8_65 (by decide) rfl rfl dX8_decide_49 ?_
    refine V_gr hC fl_X8_172 (by decide) rfl rfl dX8_decide_52 ?_
    refine V_iln hC dX8_decide_55 4 rfl ?_
    refine V_ia hC (by decide) rfl dX8_decide_56 ?_
    refine V_ine 74 hC dX8_decide_57 (by decide) ?_ ?_
    · refine V_aln hC dX8_decide_74 3 rfl ?_
      refine V_bip (x := -3) hC dX8_decide_75 (by decide) ?_
      refine V_cvi [] hC cv_X8_85 (by decide) rfl rfl (kX8_refuse G _ _) rfl rfl (Nat.le_of_ble_eq_true rfl) ⟨by decide, by decide⟩ dX8_decide_77 ?_
      intro q6
      exact V_ir hC dX8_decide_80 rfl
    · refine V_il hC dX8_decide_60 1 rfl ?_
      refine V_bip (x := -9) hC dX8_decide_62 (by decide) ?_
      refine V_ceq 74 hC dX8_decide_64 (by decide) ?_ ?_
      · refine V_aln hC dX8_decide_74 3 rfl ?_
        refine V_bip (x := -3) hC dX8_decide_75 (by decide) ?_
        refine V_cvi [] hC cv_X8_85 (by decide) rfl rfl (kX8_refuse G _ _) rfl rfl (Nat.le_of_ble_eq_true rfl) ⟨by decide, by decide⟩ dX8_decide_77 ?_
        intro q7
        exact V_ir hC dX8_decide_80 rfl
      · refine V_il hC dX8_decide_67 0 rfl ?_
        refine V_bip (x := -9) hC dX8_decide_69 (by decide) ?_
        refine V_cne 81 hC dX8_decide_71 (by decide) ?_ ?_
        · refine V_aln hC dX8_decide_81 3 rfl ?_
          refine V_gr hC fl_X8_10 (by decide) rfl rfl dX8_decide_82 ?_
          refine V_gr hC fl_X8_175 (by decide) rfl rfl dX8_decide_85 ?_
          refine V_il hC dX8_decide_88 1 rfl ?_
          refine V_dup2 hC dX8_decide_90 rfl rfl ?_
          refine V_ia hC (by decide) rfl dX8_decide_91 ?_
          refine V_ic (x := 1) hC dX8_decide_92 (by decide) ?_
          refine V_iadd hC dX8_decide_93 ?_
          refine V_is_ hC (by decide) rfl dX8_decide_94 ?_
          refine V_aln hC dX8_decide_95 3 rfl ?_
          refine V_gr hC fl_X8_10 (by decide) rfl rfl dX8_decide_96 ?_
          refine V_gr hC fl_X8_175 (by decide) rfl rfl dX8_decide_99 ?_
          refine V_il hC dX8_decide_102 0 rfl ?_
          refine V_dup2 hC dX8_decide_104 rfl rfl ?_
          refine V_ia hC (by decide) rfl dX8_decide_105 ?_
          refine V_ic (x := 1) hC dX8_decide_106 (by decide) ?_
          refine V_iadd hC dX8_decide_107 ?_
          refine V_is_ hC (by decide) rfl dX8_decide_108 ?_
          refine V_iln hC dX8_decide_109 5 rfl ?_
          refine V_is [(9, .int _), (8, .int _), (7, .int _), (5, .long _), (0, .ref _), (1, .int _), (2, .int _), (3, .int _), (4, .int _)] hC dX8_decide_110 (by decide) rfl ?_
          refine V_iln hC dX8_decide_112 6 rfl ?_
          refine V_iln hC dX8_decide_113 7 rfl ?_
          refine V_ceq 148 hC dX8_decide_114 (by decide) ?_ ?_
          · refine V_sub [(0, .ref _), (1, .int _), (9, .int _)] [4, 5, 0] rfl ?_
            exact vX8_decide_J148 hC _ _  _
          · refine V_aln hC dX8_decide_117 4 rfl ?_
            refine V_ll hC dX8_decide_118 3 rfl ?_
            refine V_il hC dX8_decide_120 2 rfl ?_
            refine V_csl [.ref _] hC cs_X8_168 (kX8_without G _ _ _) rfl rfl (Nat.le_of_ble_eq_true rfl) ⟨by decide, by decide⟩ dX8_decide_122 ?_
            intro q10
            refine V_il hC dX8_decide_125 1 rfl ?_
            refine V_csl [.ref _] hC cs_X8_168 (kX8_without G _ _ _) rfl rfl (Nat.le_of_ble_eq_true rfl) ⟨by decide, by decide⟩ dX8_decide_127 ?_
            intro q11
            refine V_cvi [] hC cv_X8_178 (by decide) rfl rfl (kX8_nameThird G _ _) rfl rfl (Nat.le_of_ble_eq_true rfl) ⟨by decide, by decide⟩ dX8_decide_130 ?_
            intro q12
            refine V_ieq 145 hC dX8_decide_133 (by decide) ?_ ?_
            · refine V_sub [(0, .ref _), (1, .int _)] [4, 5] rfl ?_
              exact vX8_decide_J145 hC _  _
            · refine V_il hC dX8_decide_136 8 rfl ?_
              refine V_ieq 145 hC dX8_decide_138 (by decide) ?_ ?_
              · refine V_sub [(0, .ref _), (1, .int _)] [4, 5] rfl ?_
                exact vX8_decide_J145 hC _  _
              · refine V_ic (x := 1) hC dX8_decide_141 (by decide) ?_
                refine V_goto 146 hC dX8_decide_142 (by decide) ?_
                refine V_sub [(0, .ref _), (1, .int _)] [4, 5] rfl ?_
                exact vX8_decide_J146 hC _ _ _
        · refine V_aln hC dX8_decide_74 3 rfl ?_
          refine V_bip (x := -3) hC dX8_decide_75 (by decide) ?_
          refine V_cvi [] hC cv_X8_85 (by decide) rfl rfl (kX8_refuse G _ _) rfl rfl (Nat.le_of_ble_eq_true rfl) ⟨by decide, by decide⟩ dX8_decide_77 ?_
          intro q13
          exact V_ir hC dX8_decide_80 rfl
  · refine V_aln hC dX8_decide_8 0 rfl ?_
    refine V_ic (x := -1) hC dX8_decide_9 (by decide) ?_
    refine V_cvi [] hC cv_X8_85 (by decide) rfl rfl (kX8_refuse G _ _) rfl rfl (Nat.le_of_ble_eq_true rfl) ⟨by decide, by decide⟩ dX8_decide_10 ?_
    intro q14
    exact V_ir hC dX8_decide_13 rfl
