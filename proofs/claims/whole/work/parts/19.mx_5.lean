def fX8_saved_J37 (v1 : Int32) (v2 : Int32) (v3 : Int32) (z : iw_M) : Option (Int32 × iw_M) :=
  (if iw_ok v2 40 then
  ((fX6_gather 19 (z.1 20 (Int32.toNatClampNeg v2)) z).bind (fun q4 =>
  (if v3 = 0 then
  ((fX6_beyondDoubt v1 q4.2).bind (fun q6 =>
  some (q6.1, q6.2)))
  else
  ((fX6_hoped v1 q4.2).bind (fun q5 =>
  some (q5.1, q5.2))))))
  else none)
def fX8_saved (v1 : Int32) (v2 : Int32) (v3 : Int32) (z : iw_M) : Option (Int32 × iw_M) :=
  ((fX8_isBench v1 z).bind (fun q1 =>
  (if q1.1 = 0 then
  ((fX8_refuse (-1 : Int32) q1.2).bind (fun q2 =>
  some (q2.1, q2.2)))
  else
  ((fX8_isIdea v2 q1.2).bind (fun q3 =>
  (if q3.1 = 0 then
  ((fX8_refuse (-1 : Int32) q3.2).bind (fun q8 =>
  some (q8.1, q8.2)))
  else
  (if v3 = 0 then
  fX8_saved_J37 v1 v2 v3  q3.2
  else
  (if v3 = (1 : Int32) then
  fX8_saved_J37 v1 v2 v3  q3.2
  else
  ((fX8_refuse (-2 : Int32) q3.2).bind (fun q7 =>
  some (q7.1, q7.2)))))))))))
abbrev bX8_saved : iw_B := (cX8_saved, 4, { frames := 3, cells := 0, slots := 0, locals := 67 }, yX8_saved.cls, (some .int))
set_option maxRecDepth 100000 in
set_option maxHeartbeats 4000000 in
theorem vX8_saved_J37 {G : iw_G} {X : iw_X} (hC : iw_C G iw_wX X bX8_saved) (v1 : Int32) (v2 : Int32) (v3 : Int32) (z : iw_M) : iw_V G iw_wX X bX8_saved iw_ei 37 [(0, .ref (iw_ad G 0)), (1, .int v1), (2, .int v2), (3, .int v3)] [] z (fX8_saved_J37 v1 v2 v3 z) := by
  unfold fX8_saved_J37
  refine V_aln hC dX8_saved_37 0 rfl ?_
  refine V_gr hC fl_X8_33 (by decide) rfl rfl dX8_saved_38 ?_
  refine V_aln hC dX8_saved_41 0 rfl ?_
  refine V_gr hC fl_X8_26 (by decide) rfl rfl dX8_saved_42 ?_
  refine V_aln hC dX8_saved_45 0 rfl ?_
  refine V_gr hC fl_X8_74 (by decide) rfl rfl dX8_saved_46 ?_
  refine V_aln hC dX8_saved_49 0 rfl ?_
  refine V_gr hC fl_X8_74 (by decide) rfl rfl dX8_saved_50 ?_
  refine V_gr hC fl_X8_148 (by decide) rfl rfl dX8_saved_53 ?_
  refine V_iln hC dX8_saved_56 2 rfl ?_
  refine V_ia hC (by decide) rfl dX8_saved_57 ?_
  refine V_cvv [] hC cv_X8_205 (by decide) rfl rfl (kX6_gather G 19 iw_F19 _ _) rfl rfl (Nat.le_of_ble_eq_true rfl) ⟨by decide, by decide⟩ dX8_saved_58 ?_
  intro q4
  refine V_iln hC dX8_saved_61 3 rfl ?_
  refine V_ine 76 hC dX8_saved_62 (by decide) ?_ ?_
  · refine V_aln hC dX8_saved_76 0 rfl ?_
    refine V_gr hC fl_X8_33 (by decide) rfl rfl dX8_saved_77 ?_
    refine V_iln hC dX8_saved_80 1 rfl ?_
    refine V_cvi [] hC cv_X8_212 (by decide) rfl rfl (kX6_hoped G _ _) rfl rfl (Nat.le_of_ble_eq_true rfl) ⟨by decide, by decide⟩ dX8_saved_81 ?_
    intro q5
    exact V_ir hC dX8_saved_84 rfl
  · refine V_aln hC dX8_saved_65 0 rfl ?_
    refine V_gr hC fl_X8_33 (by decide) rfl rfl dX8_saved_66 ?_
    refine V_iln hC dX8_saved_69 1 rfl ?_
    refine V_cvi [] hC cv_X8_209 (by decide) rfl rfl (kX6_beyondDoubt G _ _) rfl rfl (Nat.le_of_ble_eq_true rfl) ⟨by decide, by decide⟩ dX8_saved_70 ?_
    intro q6
    refine V_goto 84 hC dX8_saved_73 (by decide) ?_
    exact V_ir hC dX8_saved_84 rfl
set_option maxRecDepth 100000 in
set_option maxHeartbeats 4000000 in
theorem kX8_saved (G : iw_G) (v1 : Int32) (v2 : Int32) (v3 : Int32) (z : iw_M) : iw_K G iw_wX yX8_saved cX8_saved 4 (some .int) 3 67 iw_ei [.ref (iw_ad G 0), .int v1, .int v2, .int v3] z (fX8_saved v1 v2 v3 z) := by
  refine iw_of [(0, .ref (iw_ad G 0)), (1, .int v1), (2, .int v2), (3, .int v3)] (by decide +kernel) (Nat.le_of_ble_eq_true rfl) rfl ?_
  intro X hC
  unfold fX8_saved
  refine V_iln hC dX8_saved_0 1 rfl ?_
  refine V_csi [] hC cs_X8_191 (kX8_isBench G _ _) rfl rfl (Nat.le_of_ble_eq_true rfl) ⟨by decide, by decide⟩ dX8_saved_1 ?_
  intro q1
  refine V_ieq 15 hC dX8_saved_4 (by decide) ?_ ?_
  · refine V_aln hC dX8_saved_15 0 rfl ?_
    refine V_ic (x := -1) hC dX8_saved_16 (by decide) ?_
    refine V_cvi [] hC cv_X8_85 (by decide) rfl rfl (kX8_refuse G _ _) rfl rfl (Nat.le_of_ble_eq_true rfl) ⟨by decide, by decide⟩ dX8_saved_17 ?_
    intro q2
    exact V_ir hC dX8_saved_20 rfl
  · refine V_aln hC dX8_saved_7 0 rfl ?_
    refine V_iln hC dX8_saved_8 2 rfl ?_
    refine V_cvi [] hC cv_X8_113 (by decide) rfl rfl (kX8_isIdea G _ _) rfl rfl (Nat.le_of_ble_eq_true rfl) ⟨by decide, by decide⟩ dX8_saved_9 ?_
    intro q3
    refine V_ine 21 hC dX8_saved_12 (by decide) ?_ ?_
    · refine V_iln hC dX8_saved_21 3 rfl ?_
      refine V_ieq 37 hC dX8_saved_22 (by decide) ?_ ?_
      · exact vX8_saved_J37 hC _ _ _  _
      · refine V_iln hC dX8_saved_25 3 rfl ?_
        refine V_ic (x := 1) hC dX8_saved_26 (by decide) ?_
        refine V_ceq 37 hC dX8_saved_27 (by decide) ?_ ?_
        · exact vX8_saved_J37 hC _ _ _  _
        · refine V_aln hC dX8_saved_30 0 rfl ?_
          refine V_bip (x := -2) hC dX8_saved_31 (by decide) ?_
          refine V_cvi [] hC cv_X8_85 (by decide) rfl rfl (kX8_refuse G _ _) rfl rfl (Nat.le_of_ble_eq_true rfl) ⟨by decide, by decide⟩ dX8_saved_33 ?_
          intro q7
          exact V_ir hC dX8_saved_36 rfl
    · refine V_aln hC dX8_saved_15 0 rfl ?_
      refine V_ic (x := -1) hC dX8_saved_16 (by decide) ?_
      refine V_cvi [] hC cv_X8_85 (by decide) rfl rfl (kX8_refuse G _ _) rfl rfl (Nat.le_of_ble_eq_true rfl) ⟨by decide, by decide⟩ dX8_saved_17 ?_
      intro q8
      exact V_ir hC dX8_saved_20 rfl
def fX8_harm (v1 : Int32) (v2 : Int32) (z : iw_M) : Option (Int32 × iw_M) :=
  ((fX8_isIdea v1 z).bind (fun q1 =>
  (if q1.1 = 0 then
  ((fX8_refuse (-1 : Int32) q1.2).bind (fun q4 =>
  some (q4.1, q4.2)))
  else
  (if 0 ≤ v2 then
  (if v2 ≤ (100000 : Int32) then
  (if iw_ok v1 40 then
  (if iw_ok v1 40 then
  some ((q1.2.1 17 (Int32.toNatClampNeg v1)), (iw_wI q1.2 17 (Int32.toNatClampNeg v1) v2))
  else none)
  else none)
  else
  ((fX8_refuse (-6 : Int32) q1.2).bind (fun q2 =>
  some (q2.1, q2.2))))
  else
  ((fX8_refuse (-4 : Int32) q1.2).bind (fun q3 =>
  some (q3.1, q3.2)))))))
abbrev bX8_harm : iw_B := (cX8_harm, 4, { frames := 1, cells := 0, slots := 0, locals := 22 }, yX8_harm.cls, (some .int))
set_option maxRecDepth 100000 in
set_option maxHeartbeats 4000000 in
theorem kX8_harm (G : iw_G) (v1 : Int32) (v2 : Int32) (z : iw_M) : iw_K G iw_wX yX8_harm cX8_harm 4 (some .int) 1 22 iw_ei [.ref (iw_ad G 0), .int v1, .int v2] z (fX8_harm v1 v2 z) := by
  refine iw_of [(0, .ref (iw_ad G 0)), (1, .int v1), (2, .int v2)] (by decide +kernel) (Nat.le_of_ble_eq_true rfl) rfl ?_
  intro X hC
  unfold fX8_harm
  refine V_aln hC dX8_harm_0 0 rfl ?_
  refine V_iln hC dX8_harm_1 1 rfl ?_
  refine V_cvi [] hC cv_X8_113 (by decide) rfl rfl (kX8_isIdea G _ _) rfl rfl (Nat.le_of_ble_eq_true rfl) ⟨by decide, by decide⟩ dX8_harm_2 ?_
  intro q1
  refine V_ine 14 hC dX8_harm_5 (by decide) ?_ ?_
  · refine V_iln hC dX8_harm_14 2 rfl ?_
    refine V_ige 25 hC dX8_harm_15 (by decide) ?_ ?_
    · refine V_iln hC dX8_harm_25 2 rfl ?_
      refine V_ldc hC dX8_harm_26 kc_X8_215 ?_
      refine V_cle 38 hC dX8_harm_28 (by decide) ?_ ?_
      · refine V_aln hC dX8_harm_38 0 rfl ?_
        refine V_gr hC fl_X8_65 (by decide) rfl rfl dX8_harm_39 ?_
        refine V_gr hC fl_X8_216 (by decide) rfl rfl dX8_harm_42 ?_
        refine V_iln hC dX8_harm_45 1 rfl ?_
        refine V_ia hC (by decide) rfl dX8_harm_46 ?_
        refine V_isn [(3, .int _), (0, .ref _), (1, .int _), (2, .int _)] hC dX8_harm_47 (by decide) rfl ?_
        refine V_aln hC dX8_harm_48 1 rfl ?_
        refine V_gr hC fl_X8_65 (by decide) rfl rfl dX8_harm_49 ?_
        refine V_gr hC fl_X8_216 (by decide) rfl rfl dX8_harm_52 ?_
        refine V_iln hC dX8_harm_55 2 rfl ?_
        refine V_iln hC dX8_harm_56 3 rfl ?_
        refine V_is_ hC (by decide) rfl dX8_harm_57 ?_
        refine V_iln hC dX8_harm_58 0 rfl ?_
        exact V_ir hC dX8_harm_59 rfl
      · refine V_aln hC dX8_harm_31 0 rfl ?_
        refine V_bip (x := -6) hC dX8_harm_32 (by decide) ?_
        refine V_cvi [] hC cv_X8_85 (by decide) rfl rfl (kX8_refuse G _ _) rfl rfl (Nat.le_of_ble_eq_true rfl) ⟨by decide, by decide⟩ dX8_harm_34 ?_
        intro q2
        exact V_ir hC dX8_harm_37 rfl
    · refine V_aln hC dX8_harm_18 0 rfl ?_
      refine V_bip (x := -4) hC dX8_harm_19 (by decide) ?_
      refine V_cvi [] hC cv_X8_85 (by decide) rfl rfl (kX8_refuse G _ _) rfl rfl (Nat.le_of_ble_eq_true rfl) ⟨by decide, by decide⟩ dX8_harm_21 ?_
      intro q3
      exact V_ir hC dX8_harm_24 rfl
  · refine V_aln hC dX8_harm_8 0 rfl ?_
    refine V_ic (x := -1) hC dX8_harm_9 (by decide) ?_
    refine V_cvi [] hC cv_X8_85 (by decide) rfl rfl (kX8_refuse G _ _) rfl rfl (Nat.le_of_ble_eq_true rfl) ⟨by decide, by decide⟩ dX8_harm_10 ?_
    intro q4
    exact V_ir hC dX8_harm_13 rfl
def fX8_worth (v1 : Int32) (z : iw_M) : Option (Int32 × iw_M) :=
  ((fX8_isIdea v1 z).bind (fun q1 =>
  (if q1.1 = 0 then
  ((fX8_refuse (-1 : Int32) q1.2).bind (fun q3 =>
  some (q3.1, q3.2)))
  else
  (if iw_ok v1 40 then
  ((fX8_worthOf 19 (q1.2.1 20 (Int32.toNatClampNeg v1)) q1.2).bind (fun q2 =>
  some (q2.1, q2.2)))
  else none))))
abbrev bX8_worth : iw_B := (cX8_worth, 2, { frames := 4, cells := 0, slots := 0, locals := 91 }, yX8_worth.cls, (some .int))
set_option maxRecDepth 100000 in
set_option maxHeartbeats 4000000 in
theorem kX8_worth (G : iw_G) (v1 : Int32) (z : iw_M) : iw_K G iw_wX yX8_worth cX8_worth 2 (some .int) 4 91 iw_ei [.ref (iw_ad G 0), .int v1] z (fX8_worth v1 z) := by
  refine iw_of [(0, .ref (iw_ad G 0)), (1, .int v1)] (by decide +kernel) (Nat.le_of_ble_eq_true rfl) rfl ?_
  intro X hC
  unfold fX8_worth
  refine V_aln hC dX8_worth_0 0 rfl ?_
  refine V_iln hC dX8_worth_1 1 rfl ?_
  refine V_cvi [] hC cv_X8_113 (by decide) rfl rfl (kX8_isIdea G _ _) rfl rfl (Nat.le_of_ble_eq_true rfl) ⟨by decide, by decide⟩ dX8_worth_2 ?_
  intro q1
  refine V_ine 14 hC dX8_worth_5 (by decide) ?_ ?_
  · refine V_aln hC dX8_worth_14 0 rfl ?_
    refine V_aln hC dX8_worth_15 0 rfl ?_
    refine V_gr hC fl_X8_74 (by decide) rfl rfl dX8_worth_16 ?_
    refine V_aln hC dX8_worth_19 0 rfl ?_
    refine V_gr hC fl_X8_74 (by decide) rfl rfl dX8_worth_20 ?_
    refine V_gr hC fl_X8_148 (by decide) rfl rfl dX8_worth_23 ?_
    refine V_iln hC dX8_worth_26 1 rfl ?_
    refine V_ia hC (by decide) rfl dX8_worth_27 ?_
    refine V_cvi [] hC cv_X8_219 (by decide) rfl rfl (kX8_worthOf G 19 iw_F19 _ _) rfl rfl (Nat.le_of_ble_eq_true rfl) ⟨by decide, by decide⟩ dX8_worth_28 ?_
    intro q2
    exact V_ir hC dX8_worth_31 rfl
  · refine V_aln hC dX8_worth_8 0 rfl ?_
    refine V_ic (x := -1) hC dX8_worth_9 (by decide) ?_
    refine V_cvi [] hC cv_X8_85 (by decide) rfl rfl (kX8_refuse G _ _) rfl rfl (Nat.le_of_ble_eq_true rfl) ⟨by decide, by decide⟩ dX8_worth_10 ?_
    intro q3
    exact V_ir hC dX8_worth_13 rfl
def fX8_rule (v1 : Int32) (v2 : Int32) (v3 : Int32) (v4 : Int32) (z : iw_M) : Option (Int32 × iw_M) :=
  (if v1 < (z.1 0 11) then
  ((fX8_refuse (-4 : Int32) z).bind (fun q1 =>
  some (q1.1, q1.2)))
  else
  (if v2 < 0 then
  ((fX8_refuse (-4 : Int32) z).bind (fun q2 =>
  some (q2.1, q2.2)))
  else
  (if v3 < 0 then
  ((fX8_refuse (-4 : Int32) z).bind (fun q3 =>
  some (q3.1, q3.2)))
  else
  (if (1 : Int32) ≤ v4 then
  (if (3000 : Int32) < v1 then
  ((fX8_refuse (-6 : Int32) z).bind (fun q4 =>
  some (q4.1, q4.2)))
  else
  (if (100 : Int32) < v2 then
  ((fX8_refuse (-6 : Int32) z).bind (fun q5 =>
  some (q5.1, q5.2)))
  else
  (if (100000 : Int32) < v3 then
  ((fX8_refuse (-6 : Int32) z).bind (fun q6 =>
  some (q6.1, q6.2)))
  else
  (if v4 ≤ (5 : Int32) then
  (if (z.1 38 4) < (20 : Int32) then
  ((fX5_add v1 v2 v3 v4 z).bind (fun q7 =>
  some (q7.1, q7.2)))
  else
  ((fX8_refuse (-6 : Int32) z).bind (fun q8 =>
  some (q8.1, q8.2))))
  else
  ((fX8_refuse (-6 : Int32) z).bind (fun q9 =>
  some (q9.1, q9.2)))))))
  else
  ((fX8_refuse (-4 : Int32) z).bind (fun q10 =>
  some (q10.1, q10.2)))))))
abbrev bX8_rule : iw_B := (cX8_rule, 5, { frames := 1, cells := 0, slots := 0, locals := 24 }, yX8_rule.cls, (some .int))
set_option maxRecDepth 100000 in
set_option maxHeartbeats 4000000 in
theorem kX8_rule (G : iw_G) (v1 : Int32) (v2 : Int32) (v3 : Int32) (v4 : Int32) (z : iw_M) : iw_K G iw_wX yX8_rule cX8_rule 5 (some .int) 1 24 iw_ei [.ref (iw_ad G 0), .int v1, .int v2, .int v3, .int v4] z (fX8_rule v1 v2 v3 v4 z) := by
  refine iw_of [(0, .ref (iw_ad G 0)), (1, .int v1), (2, .int v2), (3, .int v3), (4, .int v4)] (by decide +kernel) (Nat.le_of_ble_eq_true rfl) rfl ?_
  intro X hC
  unfold fX8_rule
  refine V_iln hC dX8_rule_0 1 rfl ?_
  refine V_aln hC dX8_rule_1 0 rfl ?_
  refine V_gi hC fl_X8_58 (by decide) rfl rfl dX8_rule_2 ?_
  refine V_clt 22 hC dX8_rule_5 (by decide) ?_ ?_
  · refine V_aln hC dX8_rule_22 0 rfl ?_
    refine V_bip (x := -4) hC dX8_rule_23 (by decide) ?_
    refine V_cvi [] hC cv_X8_85 (by decide) rfl rfl (kX8_refuse G _ _) rfl rfl (Nat.le_of_ble_eq_true rfl) ⟨by decide, by decide⟩ dX8_rule_25 ?_
    intro q1
    exact V_ir hC dX8_rule_28 rfl
  · refine V_iln hC dX8_rule_8 2 rfl ?_
    refine V_ilt 22 hC dX8_rule_9 (by decide) ?_ ?_
    · refine V_aln hC dX8_rule_22 0 rfl ?_
      refine V_bip (x := -4) hC dX8_rule_23 (by decide) ?_
      refine V_cvi [] hC cv_X8_85 (by decide) rfl rfl (kX8_refuse G _ _) rfl rfl (Nat.le_of_ble_eq_true rfl) ⟨by decide, by decide⟩ dX8_rule_25 ?_
      intro q2
      exact V_ir hC dX8_rule_28 rfl
    · refine V_iln hC dX8_rule_12 3 rfl ?_
      refine V_ilt 22 hC dX8_rule_13 (by decide) ?_ ?_
      · refine V_aln hC dX8_rule_22 0 rfl ?_
        refine V_bip (x := -4) hC dX8_rule_23 (by decide) ?_
        refine V_cvi [] hC cv_X8_85 (by decide) rfl rfl (kX8_refuse G _ _) rfl rfl (Nat.le_of_ble_eq_true rfl) ⟨by decide, by decide⟩ dX8_rule_25 ?_
        intro q3
        exact V_ir hC dX8_rule_28 rfl
      · refine V_il hC dX8_rule_16 4 rfl ?_
        refine V_ic (x := 1) hC dX8_rule_18 (by decide) ?_
        refine V_cge 29 hC dX8_rule_19 (by decide) ?_ ?_
        · refine V_iln hC dX8_rule_29 1 rfl ?_
          refine V_sip (x := 3000) hC dX8_rule_30 (by decide) ?_
          refine V_cgt 54 hC dX8_rule_33 (by decide) ?_ ?_
          · refine V_aln hC dX8_rule_54 0 rfl ?_
            refine V_bip (x := -6) hC dX8_rule_55 (by decide) ?_
            refine V_cvi [] hC cv_X8_85 (by decide) rfl rfl (kX8_refuse G _ _) rfl rfl (Nat.le_of_ble_eq_true rfl) ⟨by decide, by decide⟩ dX8_rule_57 ?_
            intro q4
            exact V_ir hC dX8_rule_60 rfl
          · refine V_iln hC dX8_rule_36 2 rfl ?_
            refine V_bip (x := 100) hC dX8_rule_37 (by decide) ?_
            refine V_cgt 54 hC dX8_rule_39 (by decide) ?_ ?_
            · refine V_aln hC dX8_rule_54 0 rfl ?_
              refine V_bip (x := -6) hC dX8_rule_55 (by decide) ?_
              refine V_cvi [] hC cv_X8_85 (by decide) rfl rfl (kX8_refuse G _ _) rfl rfl (Nat.le_of_ble_eq_true rfl) ⟨by decide, by decide⟩ dX8_rule_57 ?_
              intro q5
              exact V_ir hC dX8_rule_60 rfl
            · refine V_iln hC dX8_rule_42 3 rfl ?_
              refine V_ldc hC dX8_rule_43 kc_X8_215 ?_
              refine V_cgt 54 hC dX8_rule_45 (by decide) ?_ ?_
              · refine V_aln hC dX8_rule_54 0 rfl ?_
                refine V_bip (x := -6) hC dX8_rule_55 (by decide) ?_
                refine V_cvi [] hC cv_X8_85 (by decide) rfl rfl (kX8_refuse G _ _) rfl rfl (Nat.le_of_ble_eq_true rfl) ⟨by decide, by decide⟩ dX8_rule_57 ?_
                intro q6
                exact V_ir hC dX8_rule_60 rfl
              · refine V_il hC dX8_rule_48 4 rfl ?_
                refine V_ic (x := 5) hC dX8_rule_50 (by decide) ?_
                refine V_cle 61 hC dX8_rule_51 (by decide) ?_ ?_
                · refine V_aln hC dX8_rule_61 0 rfl ?_
                  refine V_gr hC fl_X8_40 (by decide) rfl rfl dX8_rule_62 ?_
                  refine V_gi hC fl_X8_223 (by decide) rfl rfl dX8_rule_65 ?_
                  refine V_bip (x := 20) hC dX8_rule_68 (by decide) ?_
                  refine V_clt 80 hC dX8_rule_70 (by decide) ?_ ?_
                  · refine V_aln hC dX8_rule_80 0 rfl ?_
                    refine V_gr hC fl_X8_40 (by decide) rfl rfl dX8_rule_81 ?_
                    refine V_iln hC dX8_rule_84 1 rfl ?_
                    refine V_iln hC dX8_rule_85 2 rfl ?_
                    refine V_iln hC dX8_rule_86 3 rfl ?_
                    refine V_il hC dX8_rule_87 4 rfl ?_
                    refine V_cvi [] hC cv_X8_224 (by decide) rfl rfl (kX5_add G _ _ _ _ _) rfl rfl (Nat.le_of_ble_eq_true rfl) ⟨by decide, by decide⟩ dX8_rule_89 ?_
                    intro q7
                    exact V_ir hC dX8_rule_92 rfl
                  · refine V_aln hC dX8_rule_73 0 rfl ?_
                    refine V_bip (x := -6) hC dX8_rule_74 (by decide) ?_
                    refine V_cvi [] hC cv_X8_85 (by decide) rfl rfl (kX8_refuse G _ _) rfl rfl (Nat.le_of_ble_eq_true rfl) ⟨by decide, by decide⟩ dX8_rule_76 ?_
                    intro q8
                    exact V_ir hC dX8_rule_79 rfl
                · refine V_aln hC dX8_rule_54 0 rfl ?_
                  refine V_bip (x := -6) hC dX8_rule_55 (by decide) ?_
                  refine V_cvi [] hC cv_X8_85 (by decide) rfl rfl (kX8_refuse G _ _) rfl rfl (Nat.le_of_ble_eq_true rfl) ⟨by decide, by decide⟩ dX8_rule_57 ?_
                  intro q9
                  exact V_ir hC dX8_rule_60 rfl
        · refine V_aln hC dX8_rule_22 0 rfl ?_
          refine V_bip (x := -4) hC dX8_rule_23 (by decide) ?_
          refine V_cvi [] hC cv_X8_85 (by decide) rfl rfl (kX8_refuse G _ _) rfl rfl (Nat.le_of_ble_eq_true rfl) ⟨by decide, by decide⟩ dX8_rule_25 ?_
          intro q10
          exact V_ir hC dX8_rule_28 rfl
def fX8_ruleOf (v1 : Int32) (z : iw_M) : Option (Int32 × iw_M) :=
  ((fX8_isIdea v1 z).bind (fun q1 =>
  (if q1.1 = 0 then
  ((fX8_refuse (-1 : Int32) q1.2).bind (fun q3 =>
  some (q3.1, q3.2)))
  else
  ((fX8_ruleFor v1 q1.2).bind (fun q2 =>
  some (q2.1, q2.2))))))
abbrev bX8_ruleOf : iw_B := (cX8_ruleOf, 2, { frames := 3, cells := 0, slots := 0, locals := 66 }, yX8_ruleOf.cls, (some .int))
set_option maxRecDepth 100000 in
set_option maxHeartbeats 4000000 in
theorem kX8_ruleOf (G : iw_G) (v1 : Int32) (z : iw_M) : iw_K G iw_wX yX8_ruleOf cX8_ruleOf 2 (some .int) 3 66 iw_ei [.ref (iw_ad G 0), .int v1] z (fX8_ruleOf v1 z) := by
  refine iw_of [(0, .ref (iw_ad G 0)), (1, .int v1)] (by decide +kernel) (Nat.le_of_ble_eq_true rfl) rfl ?_
  intro X hC
  unfold fX8_ruleOf
  refine V_aln hC dX8_ruleOf_0 0 rfl ?_
  refine V_iln hC dX8_ruleOf_1 1 rfl ?_
  refine V_cvi [] hC cv_X8_113 (by decide) rfl rfl (kX8_isIdea G _ _) rfl rfl (Nat.le_of_ble_eq_true rfl) ⟨by decide, by decide⟩ dX8_ruleOf_2 ?_
  intro q1
  refine V_ine 14 hC dX8_ruleOf_5 (by decide) ?_ ?_
  · refine V_aln hC dX8_ruleOf_14 0 rfl ?_
    refine V_iln hC dX8_ruleOf_15 1 rfl ?_
    refine V_cvi [] hC cv_X8_227 (by decide) rfl rfl (kX8_ruleFor G _ _) rfl rfl (Nat.le_of_ble_eq_true rfl) ⟨by decide, by decide⟩ dX8_ruleOf_16 ?_
    intro q2
    exact V_ir hC dX8_ruleOf_19 rfl
  · refine V_aln hC dX8_ruleOf_8 0 rfl ?_
    refine V_ic (x := -1) hC dX8_ruleOf_9 (by decide) ?_
    refine V_cvi [] hC cv_X8_85 (by decide) rfl rfl (kX8_refuse G _ _) rfl rfl (Nat.le_of_ble_eq_true rfl) ⟨by decide, by decide⟩ dX8_ruleOf_10 ?_
    intro q3
    exact V_ir hC dX8_ruleOf_13 rfl
def fX8_work (v1 : Int32) (v2 : Int32) (z : iw_M) : Option (Int32 × iw_M) :=
  ((fX8_isShop v1 z).bind (fun q1 =>
  (if q1.1 = 0 then
  ((fX8_refuse (-1 : Int32) q1.2).bind (fun q2 =>
  some (q2.1, q2.2)))
  else
  ((fX8_areMarks v2 q1.2).bind (fun q3 =>
  (if q3.1 = 0 then
  ((fX8_refuse (-1 : Int32) q3.2).bind (fun q7 =>
  some (q7.1, q7.2)))
  else
  (if (q3.2.1 43 1) < (20 : Int32) then
  (if iw_ok (0 : Int32) 4 then
  ((fX3_turnedDownLike v1 v2 (q3.2.1 45 (Int32.toNatClampNeg (0 : Int32))) q3.2).bind (fun q4 =>
  ((fX7_add q4.1 q4.2).bind (fun q5 =>
  some (q4.1, q5.2)))))
  else none)
  else
  ((fX8_refuse (-6 : Int32) q3.2).bind (fun q6 =>
  some (q6.1, q6.2))))))))))
abbrev bX8_work : iw_B := (cX8_work, 4, { frames := 3, cells := 0, slots := 0, locals := 68 }, yX8_work.cls, (some .int))
set_option maxRecDepth 100000 in
set_option maxHeartbeats 4000000 in
theorem kX8_work (G : iw_G) (v1 : Int32) (v2 : Int32) (z : iw_M) : iw_K G iw_wX yX8_work cX8_work 4 (some .int) 3 68 iw_ei [.ref (iw_ad G 0), .int v1, .int v2] z (fX8_work v1 v2 z) := by
  refine iw_of [(0, .ref (iw_ad G 0)), (1, .int v1), (2, .int v2)] (by decide +kernel) (Nat.le_of_ble_eq_true rfl) rfl ?_
  intro X hC
  unfold fX8_work
  refine V_iln hC dX8_work_0 1 rfl ?_
  refine V_csi [] hC cs_X8_81 (kX8_isShop G _ _) rfl rfl (Nat.le_of_ble_eq_true rfl) ⟨by decide, by decide⟩ dX8_work_1 ?_
  intro q1
  refine V_ieq 14 hC dX8_work_4 (by decide) ?_ ?_
  · refine V_aln hC dX8_work_14 0 rfl ?_
    refine V_ic (x := -1) hC dX8_work_15 (by decide) ?_
    refine V_cvi [] hC cv_X8_85 (by decide) rfl rfl (kX8_refuse G _ _) rfl rfl (Nat.le_of_ble_eq_true rfl) ⟨by decide, by decide⟩ dX8_work_16 ?_
    intro q2
    exact V_ir hC dX8_work_19 rfl
  · refine V_iln hC dX8_work_7 2 rfl ?_
    refine V_csi [] hC cs_X8_102 (kX8_areMarks G _ _) rfl rfl (Nat.le_of_ble_eq_true rfl) ⟨by decide, by decide⟩ dX8_work_8 ?_
    intro q3
    refine V_ine 20 hC dX8_work_11 (by decide) ?_ ?_
    · refine V_aln hC dX8_work_20 0 rfl ?_
      refine V_gr hC fl_X8_47 (by decide) rfl rfl dX8_work_21 ?_
      refine V_gi hC fl_X8_230 (by decide) rfl rfl dX8_work_24 ?_
      refine V_bip (x := 20) hC dX8_work_27 (by decide) ?_
      refine V_clt 39 hC dX8_work_29 (by decide) ?_ ?_
      · refine V_aln hC dX8_work_39 0 rfl ?_
        refine V_gr hC fl_X8_65 (by decide) rfl rfl dX8_work_40 ?_
        refine V_iln hC dX8_work_43 1 rfl ?_
        refine V_iln hC dX8_work_44 2 rfl ?_
        refine V_aln hC dX8_work_45 0 rfl ?_
        refine V_gr hC fl_X8_51 (by decide) rfl rfl dX8_work_46 ?_
        refine V_ic (x := 0) hC dX8_work_49 (by decide) ?_
        refine V_ia hC (by decide) rfl dX8_work_50 ?_
        refine V_cvi [] hC cv_X8_231 (by decide) rfl rfl (kX3_turnedDownLike G _ _ _ _) rfl rfl (Nat.le_of_ble_eq_true rfl) ⟨by decide, by decide⟩ dX8_work_51 ?_
        intro q4
        refine V_isn [(3, .int _), (0, .ref _), (1, .int _), (2, .int _)] hC dX8_work_54 (by decide) rfl ?_
        refine V_aln hC dX8_work_55 1 rfl ?_
        refine V_gr hC fl_X8_47 (by decide) rfl rfl dX8_work_56 ?_
        refine V_iln hC dX8_work_59 0 rfl ?_
        refine V_cvv [] hC cv_X8_235 (by decide) rfl rfl (kX7_add G _ _) rfl rfl (Nat.le_of_ble_eq_true rfl) ⟨by decide, by decide⟩ dX8_work_60 ?_
        intro q5
        refine V_iln hC dX8_work_63 0 rfl ?_
        exact V_ir hC dX8_work_64 rfl
      · refine V_aln hC dX8_work_32 0 rfl ?_
        refine V_bip (x := -6) hC dX8_work_33 (by decide) ?_
        refine V_cvi [] hC cv_X8_85 (by decide) rfl rfl (kX8_refuse G _ _) rfl rfl (Nat.le_of_ble_eq_true rfl) ⟨by decide, by decide⟩ dX8_work_35 ?_
        intro q6
        exact V_ir hC dX8_work_38 rfl
    · refine V_aln hC dX8_work_14 0 rfl ?_
      refine V_ic (x := -1) hC dX8_work_15 (by decide) ?_
      refine V_cvi [] hC cv_X8_85 (by decide) rfl rfl (kX8_refuse G _ _) rfl rfl (Nat.le_of_ble_eq_true rfl) ⟨by decide, by decide⟩ dX8_work_16 ?_
      intro q7
      exact V_ir hC dX8_work_19 rfl
def fX8_ledBack (v1 : Int32) (z : iw_M) : Option (Int32 × iw_M) :=
  (if v1 < 0 then
  some ((-9 : Int32), z)
  else
  (if (z.1 43 1) ≤ v1 then
  some ((-9 : Int32), z)
  else
  (if iw_ok v1 20 then
  some ((z.1 44 (Int32.toNatClampNeg v1)), z)
  else none)))
abbrev bX8_ledBack : iw_B := (cX8_ledBack, 2, { frames := 0, cells := 0, slots := 0, locals := 0 }, yX8_ledBack.cls, (some .int))
set_option maxRecDepth 100000 in
set_option maxHeartbeats 4000000 in
theorem kX8_ledBack (G : iw_G) (v1 : Int32) (z : iw_M) : iw_K G iw_wX yX8_ledBack cX8_ledBack 2 (some .int) 0 0 iw_ei [.ref (iw_ad G 0), .int v1] z (fX8_ledBack v1 z) := by
  refine iw_of [(0, .ref (iw_ad G 0)), (1, .int v1)] (by decide +kernel) (Nat.le_of_ble_eq_true rfl) rfl ?_
  intro X hC
  unfold fX8_ledBack
  refine V_iln hC dX8_ledBack_0 1 rfl ?_
  refine V_ilt 27 hC dX8_ledBack_1 (by decide) ?_ ?_
  · refine V_bip (x := -9) hC dX8_ledBack_27 (by decide) ?_
    exact V_ir hC dX8_ledBack_29 rfl
  · refine V_iln hC dX8_ledBack_4 1 rfl ?_
    refine V_aln hC dX8_ledBack_5 0 rfl ?_
    refine V_gr hC fl_X8_47 (by decide) rfl rfl dX8_ledBack_6 ?_
    refine V_gi hC fl_X8_230 (by decide) rfl rfl dX8_ledBack_9 ?_
    refine V_cge 27 hC dX8_ledBack_12 (by decide) ?_ ?_
    · refine V_bip (x := -9) hC dX8_ledBack_27 (by decide) ?_
      exact V_ir hC dX8_ledBack_29 rfl
    · refine V_aln hC dX8_ledBack_15 0 rfl ?_
      refine V_gr hC fl_X8_47 (by decide) rfl rfl dX8_ledBack_16 ?_
      refine V_gr hC fl_X8_237 (by decide) rfl rfl dX8_ledBack_19 ?_
      refine V_iln hC dX8_ledBack_22 1 rfl ?_
      refine V_ia hC (by decide) rfl dX8_ledBack_23 ?_
      refine V_goto 29 hC dX8_ledBack_24 (by decide) ?_
      exact V_ir hC dX8_ledBack_29 rfl
def fX8_reopen (v1 : Int32) (z : iw_M) : Option (Int32 × iw_M) :=
  ((fX8_isIdea v1 z).bind (fun q1 =>
  (if q1.1 = 0 then
  ((fX8_refuse (-1 : Int32) q1.2).bind (fun q6 =>
  some (q6.1, q6.2)))
  else
  (if iw_ok v1 40 then
  (if (q1.2.1 14 (Int32.toNatClampNeg v1)) = (2 : Int32) then
  ((fX7_ledBackTo v1 q1.2).bind (fun q3 =>
  (if q3.1 = 0 then
  ((fX8_refuse (-3 : Int32) q3.2).bind (fun q5 =>
  some (q5.1, q5.2)))
  else
  ((fX8_settle v1 (1 : Int32) q3.2).bind (fun q4 =>
  some (q4.1, q4.2))))))
  else
  ((fX8_refuse (-3 : Int32) q1.2).bind (fun q2 =>
  some (q2.1, q2.2))))
  else none))))
abbrev bX8_reopen : iw_B := (cX8_reopen, 2, { frames := 2, cells := 0, slots := 0, locals := 45 }, yX8_reopen.cls, (some .int))
set_option maxRecDepth 100000 in
set_option maxHeartbeats 4000000 in
theorem kX8_reopen (G : iw_G) (v1 : Int32) (z : iw_M) : iw_K G iw_wX yX8_reopen cX8_reopen 2 (some .int) 2 45 iw_ei [.ref (iw_ad G 0), .int v1] z (fX8_reopen v1 z) := by
  refine iw_of [(0, .ref (iw_ad G 0)), (1, .int v1)] (by decide +kernel) (Nat.le_of_ble_eq_true rfl) rfl ?_
  intro X hC
  unfold fX8_reopen
  refine V_aln hC dX8_reopen_0 0 rfl ?_
  refine V_iln hC dX8_reopen_1 1 rfl ?_
  refine V_cvi [] hC cv_X8_113 (by decide) rfl rfl (kX8_isIdea G _ _) rfl rfl (Nat.le_of_ble_eq_true rfl) ⟨by decide, by decide⟩ dX8_reopen_2 ?_
  intro q1
  refine V_ine 14 hC dX8_reopen_5 (by decide) ?_ ?_
  · refine V_aln hC dX8_reopen_14 0 rfl ?_
    refine V_gr hC fl_X8_65 (by decide) rfl rfl dX8_reopen_15 ?_
    refine V_gr hC fl_X8_172 (by decide) rfl rfl dX8_reopen_18 ?_
    refine V_iln hC dX8_reopen_21 1 rfl ?_
    refine V_ia hC (by decide) rfl dX8_reopen_22 ?_
    refine V_ic (x := 2) hC dX8_reopen_23 (by decide) ?_
    refine V_cne 38 hC dX8_reopen_24 (by decide) ?_ ?_
    · refine V_aln hC dX8_reopen_38 0 rfl ?_
      refine V_bip (x := -3) hC dX8_reopen_39 (by decide) ?_
      refine V_cvi [] hC cv_X8_85 (by decide) rfl rfl (kX8_refuse G _ _) rfl rfl (Nat.le_of_ble_eq_true rfl) ⟨by decide, by decide⟩ dX8_reopen_41 ?_
      intro q2
      exact V_ir hC dX8_reopen_44 rfl
    · refine V_aln hC dX8_reopen_27 0 rfl ?_
      refine V_gr hC fl_X8_47 (by decide) rfl rfl dX8_reopen_28 ?_
      refine V_iln hC dX8_reopen_31 1 rfl ?_
      refine V_cvi [] hC cv_X8_240 (by decide) rfl rfl (kX7_ledBackTo G _ _) rfl rfl (Nat.le_of_ble_eq_true rfl) ⟨by decide, by decide⟩ dX8_reopen_32 ?_
      intro q3
      refine V_ine 45 hC dX8_reopen_35 (by decide) ?_ ?_
      · refine V_aln hC dX8_reopen_45 0 rfl ?_
        refine V_iln hC dX8_reopen_46 1 rfl ?_
        refine V_ic (x := 1) hC dX8_reopen_47 (by decide) ?_
        refine V_cvi [] hC cv_X8_185 (by decide) rfl rfl (kX8_settle G _ _ _) rfl rfl (Nat.le_of_ble_eq_true rfl) ⟨by decide, by decide⟩ dX8_reopen_48 ?_
        intro q4
        exact V_ir hC dX8_reopen_51 rfl
      · refine V_aln hC dX8_reopen_38 0 rfl ?_
        refine V_bip (x := -3) hC dX8_reopen_39 (by decide) ?_
        refine V_cvi [] hC cv_X8_85 (by decide) rfl rfl (kX8_refuse G _ _) rfl rfl (Nat.le_of_ble_eq_true rfl) ⟨by decide, by decide⟩ dX8_reopen_41 ?_
        intro q5
        exact V_ir hC dX8_reopen_44 rfl
  · refine V_aln hC dX8_reopen_8 0 rfl ?_
    refine V_ic (x := -1) hC dX8_reopen_9 (by decide) ?_
    refine V_cvi [] hC cv_X8_85 (by decide) rfl rfl (kX8_refuse G _ _) rfl rfl (Nat.le_of_ble_eq_true rfl) ⟨by decide, by decide⟩ dX8_reopen_10 ?_
    intro q6
    exact V_ir hC dX8_reopen_13 rfl
def fX8_other_L66 (v2 : Int32) (v3 : Int32) (K : Int32 → Int32 → iw_M → Option (Int32 × iw_M)) : Nat → Int32 → Int32 → iw_M → Option (Int32 × iw_M)
  | 0, _, _, _ => none
  | n + 1, v4, v5, z => (if (z.1 8 10) ≤ v5 then
  K v4 v5 z
  else
  (if iw_ok v5 40 then
  (if (z.1 22 (Int32.toNatClampNeg v5)) = v5 then
  ((fX1_hasTaken 21 v5 z).bind (fun q8 =>
  (if q8.1 = 0 then
  fX8_other_L66 v2 v3 K n v4 (v5 + (1 : Int32)) q8.2
  else
  ((fX8_worthOf 21 v5 q8.2).bind (fun q9 =>
  ((fX8_payFor q9.1 v2 v3 q9.2).bind (fun q10 =>
  fX8_other_L66 v2 v3 K n (v4 + q10.1) (v5 + (1 : Int32)) q10.2)))))))
  else
  fX8_other_L66 v2 v3 K n v4 (v5 + (1 : Int32)) z)
  else none))
def fX8_other (v1 : Int32) (v2 : Int32) (v3 : Int32) (z : iw_M) : Option (Int32 × iw_M) :=
  (if iw_ok (0 : Int32) 4 then
  (if v1 < (iw_lo (Int32.toNatClampNeg (0 : Int32))) then
  ((fX8_refuse (-4 : Int32) z).bind (fun q2 =>
  some (q2.1, q2.2)))
  else
  (if v2 < 0 then
  ((fX8_refuse (-4 : Int32) z).bind (fun q3 =>
  some (q3.1, q3.2)))
  else
  (if 0 ≤ v3 then
  (if iw_ok (0 : Int32) 4 then
  (if (iw_hi (Int32.toNatClampNeg (0 : Int32))) < v1 then
  ((fX8_refuse (-6 : Int32) z).bind (fun q5 =>
  some (q5.1, q5.2)))
  else
  (if (100 : Int32) < v2 then
  ((fX8_refuse (-6 : Int32) z).bind (fun q6 =>
  some (q6.1, q6.2)))
  else
  (if v3 ≤ (100000 : Int32) then
  ((fX1_build 21 v1 z).bind (fun q7 =>
  fX8_other_L66 v2 v3 (fun x4_11 x5_11 z_11 => some (x4_11, z_11)) iw_fu (0 : Int32) (0 : Int32) q7.2))
  else
  ((fX8_refuse (-6 : Int32) z).bind (fun q12 =>
  some (q12.1, q12.2))))))
  else none)
  else
  ((fX8_refuse (-4 : Int32) z).bind (fun q13 =>
  some (q13.1, q13.2))))))
  else none)
abbrev bX8_other : iw_B := (cX8_other, 6, { frames := 5, cells := 0, slots := 0, locals := 109 }, yX8_other.cls, (some .int))
set_option maxRecDepth 100000 in
set_option maxHeartbeats 4000000 in
theorem vX8_other_L66 {G : iw_G} {X : iw_X} (hC : iw_C G iw_wX X bX8_other) (v2 : Int32) (v3 : Int32) (K : Int32 → Int32 → iw_M → Option (Int32 × iw_M)) (hK : ∀ (v4 : Int32) (v5 : Int32) (z : iw_M), iw_V G iw_wX X bX8_other iw_ei 131 [(0, .ref (iw_ad G 0)), (2, .int v2), (3, .int v3), (4, .int v4), (5, .int v5)] [] z (K v4 v5 z)) : ∀ (n : Nat) (v4 : Int32) (v5 : Int32) (z : iw_M), iw_V G iw_wX X bX8_other iw_ei 66 [(0, .ref (iw_ad G 0)), (2, .int v2), (3, .int v3), (4, .int v4), (5, .int v5)] [] z (fX8_other_L66 v2 v3 K n v4 v5 z) := by
  intro n
  induction n with
  | zero =>
    intro v4 v5 z
    exact V_none
  | succ n ih =>
    intro v4 v5 z
    simp only [fX8_other_L66]
    refine V_il hC dX8_other_66 4 rfl ?_
    refine V_aln hC dX8_other_68 0 rfl ?_
    refine V_gr hC fl_X8_65 (by decide) rfl rfl dX8_other_69 ?_
    refine V_gi hC fl_X8_105 (by decide) rfl rfl dX8_other_72 ?_
    refine V_cge 131 hC dX8_other_75 (by decide) ?_ ?_
    · exact hK _ _ _
    · refine V_aln hC dX8_other_78 0 rfl ?_
      refine V_gr hC fl_X8_78 (by decide) rfl rfl dX8_other_79 ?_
      refine V_gr hC fl_X8_148 (by decide) rfl rfl dX8_other_82 ?_
      refine V_il hC dX8_other_85 4 rfl ?_
      refine V_ia hC (by decide) rfl dX8_other_87 ?_
      refine V_il hC dX8_other_88 4 rfl ?_
      refine V_cne 125 hC dX8_other_90 (by decide) ?_ ?_
      · refine V_inc (k := 4) (y := 1) [(5, .int _), (0, .ref _), (2, .int _), (3, .int _), (4, .int _)] hC dX8_other_125 rfl (by decide) (by decide) rfl ?_
        refine V_goto 66 hC dX8_other_128 (by decide) ?_
        refine V_sub [(0, .ref _), (2, .int _), (3, .int _), (4, .int _), (5, .int _)] [1, 2, 3, 4, 0] rfl ?_
        exact ih _ _ _
      · refine V_aln hC dX8_other_93 0 rfl ?_
        refine V_gr hC fl_X8_78 (by decide) rfl rfl dX8_other_94 ?_
        refine V_il hC dX8_other_97 4 rfl ?_
        refine V_cvi [] hC cv_X8_243 (by decide) rfl rfl (kX1_hasTaken G 21 iw_F21 _ _) rfl rfl (Nat.le_of_ble_eq_true rfl) ⟨by decide, by decide⟩ dX8_other_99 ?_
        intro q8
        refine V_ieq 125 hC dX8_other_102 (by decide) ?_ ?_
        · refine V_inc (k := 4) (y := 1) [(5, .int _), (0, .ref _), (2, .int _), (3, .int _), (4, .int _)] hC dX8_other_125 rfl (by decide) (by decide) rfl ?_
          refine V_goto 66 hC dX8_other_128 (by decide) ?_
          refine V_sub [(0, .ref _), (2, .int _), (3, .int _), (4, .int _), (5, .int _)] [1, 2, 3, 4, 0] rfl ?_
          exact ih _ _ _
        · refine V_il hC dX8_other_105 3 rfl ?_
          refine V_aln hC dX8_other_107 0 rfl ?_
          refine V_aln hC dX8_other_108 0 rfl ?_
          refine V_gr hC fl_X8_78 (by decide) rfl rfl dX8_other_109 ?_
          refine V_il hC dX8_other_112 4 rfl ?_
          refine V_cvi [.int _] hC cv_X8_219 (by decide) rfl rfl (kX8_worthOf G 21 iw_F21 _ _) rfl rfl (Nat.le_of_ble_eq_true rfl) ⟨by decide, by decide⟩ dX8_other_114 ?_
          intro q9
          refine V_iln hC dX8_other_117 1 rfl ?_
          refine V_iln hC dX8_other_118 2 rfl ?_
          refine V_csi [.int _] hC cs_X8_246 (kX8_payFor G _ _ _ _) rfl rfl (Nat.le_of_ble_eq_true rfl) ⟨by decide, by decide⟩ dX8_other_119 ?_
          intro q10
          refine V_iadd hC dX8_other_122 ?_
          refine V_is [(4, .int _), (0, .ref _), (2, .int _), (3, .int _), (5, .int _)] hC dX8_other_123 (by decide) rfl ?_
          refine V_inc (k := 4) (y := 1) [(5, .int _), (4, .int _), (0, .ref _), (2, .int _), (3, .int _)] hC dX8_other_125 rfl (by decide) (by decide) rfl ?_
          refine V_goto 66 hC dX8_other_128 (by decide) ?_
          refine V_sub [(0, .ref _), (2, .int _), (3, .int _), (4, .int _), (5, .int _)] [2, 3, 4, 1, 0] rfl ?_
          exact ih _ _ _
set_option maxRecDepth 100000 in
set_option maxHeartbeats 4000000 in
theorem kX8_other (G : iw_G) (v1 : Int32) (v2 : Int32) (v3 : Int32) (z : iw_M) : iw_K G iw_wX yX8_other cX8_other 6 (some .int) 5 109 iw_ei [.ref (iw_ad G 0), .int v1, .int v2, .int v3] z (fX8_other v1 v2 v3 z) := by
  refine iw_of [(0, .ref (iw_ad G 0)), (1, .int v1), (2, .int v2), (3, .int v3)] (by decide +kernel) (Nat.le_of_ble_eq_true rfl) rfl ?_
  intro X hC
  unfold fX8_other
  refine V_iln hC dX8_other_0 1 rfl ?_
  refine V_gs1 hC fs_X8_131 dX8_other_1 (fun t1 ht1 => ?_)
  refine V_ic (x := 0) hC dX8_other_4 (by decide) ?_
  refine V_tl hC ht1 dX8_other_5 ?_
  refine V_clt 17 hC dX8_other_6 (by decide) ?_ ?_
  · refine V_aln hC dX8_other_17 0 rfl ?_
    refine V_bip (x := -4) hC dX8_other_18 (by decide) ?_
    refine V_cvi [] hC cv_X8_85 (by decide) rfl rfl (kX8_refuse G _ _) rfl rfl (Nat.le_of_ble_eq_true rfl) ⟨by decide, by decide⟩ dX8_other_20 ?_
    intro q2
    exact V_ir hC dX8_other_23 rfl
  · refine V_iln hC dX8_other_9 2 rfl ?_
    refine V_ilt 17 hC dX8_other_10 (by decide) ?_ ?_
    · refine V_aln hC dX8_other_17 0 rfl ?_
      refine V_bip (x := -4) hC dX8_other_18 (by decide) ?_
      refine V_cvi [] hC cv_X8_85 (by decide) rfl rfl (kX8_refuse G _ _) rfl rfl (Nat.le_of_ble_eq_true rfl) ⟨by decide, by decide⟩ dX8_other_20 ?_
      intro q3
      exact V_ir hC dX8_other_23 rfl
    · refine V_iln hC dX8_other_13 3 rfl ?_
      refine V_ige 24 hC dX8_other_14 (by decide) ?_ ?_
      · refine V_iln hC dX8_other_24 1 rfl ?_
        refine V_gs2 hC fs_X8_134 dX8_other_25 (fun t4 ht4 => ?_)
        refine V_ic (x := 0) hC dX8_other_28 (by decide) ?_
        refine V_tl hC ht4 dX8_other_29 ?_
        refine V_cgt 45 hC dX8_other_30 (by decide) ?_ ?_
        · refine V_aln hC dX8_other_45 0 rfl ?_
          refine V_bip (x := -6) hC dX8_other_46 (by decide) ?_
          refine V_cvi [] hC cv_X8_85 (by decide) rfl rfl (kX8_refuse G _ _) rfl rfl (Nat.le_of_ble_eq_true rfl) ⟨by decide, by decide⟩ dX8_other_48 ?_
          intro q5
          exact V_ir hC dX8_other_51 rfl
        · refine V_iln hC dX8_other_33 2 rfl ?_
          refine V_bip (x := 100) hC dX8_other_34 (by decide) ?_
          refine V_cgt 45 hC dX8_other_36 (by decide) ?_ ?_
          · refine V_aln hC dX8_other_45 0 rfl ?_
            refine V_bip (x := -6) hC dX8_other_46 (by decide) ?_
            refine V_cvi [] hC cv_X8_85 (by decide) rfl rfl (kX8_refuse G _ _) rfl rfl (Nat.le_of_ble_eq_true rfl) ⟨by decide, by decide⟩ dX8_other_48 ?_
            intro q6
            exact V_ir hC dX8_other_51 rfl
          · refine V_iln hC dX8_other_39 3 rfl ?_
            refine V_ldc hC dX8_other_40 kc_X8_215 ?_
            refine V_cle 52 hC dX8_other_42 (by decide) ?_ ?_
            · refine V_aln hC dX8_other_52 0 rfl ?_
              refine V_gr hC fl_X8_78 (by decide) rfl rfl dX8_other_53 ?_
              refine V_iln hC dX8_other_56 1 rfl ?_
              refine V_cvv [] hC cv_X8_137 (by decide) rfl rfl (kX1_build G 21 iw_F21 _ _) rfl rfl (Nat.le_of_ble_eq_true rfl) ⟨by decide, by decide⟩ dX8_other_57 ?_
              intro q7
              refine V_ic (x := 0) hC dX8_other_60 (by decide) ?_
              refine V_is [(4, .int _), (0, .ref _), (1, .int _), (2, .int _), (3, .int _)] hC dX8_other_61 (by decide) rfl ?_
              refine V_ic (x := 0) hC dX8_other_63 (by decide) ?_
              refine V_is [(5, .int _), (4, .int _), (0, .ref _), (1, .int _), (2, .int _), (3, .int _)] hC dX8_other_64 (by decide) rfl ?_
              refine V_sub [(0, .ref _), (2, .int _), (3, .int _), (4, .int _), (5, .int _)] [2, 4, 5, 1, 0] rfl ?_
              refine vX8_other_L66 hC _ _ _ ?_ _ _ _ _
              intro x4_11 x5_11 z_11
              refine V_il hC dX8_other_131 3 rfl ?_
              exact V_ir hC dX8_other_133 rfl
            · refine V_aln hC dX8_other_45 0 rfl ?_
              refine V_bip (x := -6) hC dX8_other_46 (by decide) ?_
              refine V_cvi [] hC cv_X8_85 (by decide) rfl rfl (kX8_refuse G _ _) rfl rfl (Nat.le_of_ble_eq_true rfl) ⟨by decide, by decide⟩ dX8_other_48 ?_
              intro q12
              exact V_ir hC dX8_other_51 rfl
      · refine V_aln hC dX8_other_17 0 rfl ?_
        refine V_bip (x := -4) hC dX8_other_18 (by decide) ?_
        refine V_cvi [] hC cv_X8_85 (by decide) rfl rfl (kX8_refuse G _ _) rfl rfl (Nat.le_of_ble_eq_true rfl) ⟨by decide, by decide⟩ dX8_other_20 ?_
        intro q13
        exact V_ir hC dX8_other_23 rfl
def fX8_coins (v1 : Int32) (v2 : Int32) (z : iw_M) : Option (Int32 × iw_M) :=
  ((fX8_isHand v1 z).bind (fun q1 =>
  (if q1.1 = 0 then
  ((fX8_refuse (-1 : Int32) q1.2).bind (fun q3 =>
  some (q3.1, q3.2)))
  else
  (iw_sw v2 0 [(if iw_ok v1 40 then
  some ((q1.2.1 6 (Int32.toNatClampNeg v1)), q1.2)
  else none), (if iw_ok v1 40 then
  some ((q1.2.1 7 (Int32.toNatClampNeg v1)), q1.2)
  else none)] (((fX8_refuse (-2 : Int32) q1.2).bind (fun q2 =>
  some (q2.1, q2.2))))))))
abbrev bX8_coins : iw_B := (cX8_coins, 3, { frames := 1, cells := 0, slots := 0, locals := 22 }, yX8_coins.cls, (some .int))
set_option maxRecDepth 100000 in
set_option maxHeartbeats 4000000 in
theorem kX8_coins (G : iw_G) (v1 : Int32) (v2 : Int32) (z : iw_M) : iw_K G iw_wX yX8_coins cX8_coins 3 (some .int) 1 22 iw_ei [.ref (iw_ad G 0), .int v1, .int v2] z (fX8_coins v1 v2 z) := by
  refine iw_of [(0, .ref (iw_ad G 0)), (1, .int v1), (2, .int v2)] (by decide +kernel) (Nat.le_of_ble_eq_true rfl) rfl ?_
  intro X hC
  unfold fX8_coins
  refine V_aln hC dX8_coins_0 0 rfl ?_
  refine V_iln hC dX8_coins_1 1 rfl ?_
  refine V_cvi [] hC cv_X8_95 (by decide) rfl rfl (kX8_isHand G _ _) rfl rfl (Nat.le_of_ble_eq_true rfl) ⟨by decide, by decide⟩ dX8_coins_2 ?_
  intro q1
  refine V_ine 14 hC dX8_coins_5 (by decide) ?_ ?_
  · refine V_iln hC dX8_coins_14 2 rfl ?_
    refine V_ls2 40 50 60 hC dX8_coins_15 (by decide) (by decide) (by decide) ?_ ?_ ?_
    · refine V_aln hC dX8_coins_40 0 rfl ?_
      refine V_gr hC fl_X8_10 (by decide) rfl rfl dX8_coins_41 ?_
      refine V_gr hC fl_X8_249 (by decide) rfl rfl dX8_coins_44 ?_
      refine V_iln hC dX8_coins_47 1 rfl ?_
      refine V_ia hC (by decide) rfl dX8_coins_48 ?_
      exact V_ir hC dX8_coins_49 rfl
    · refine V_aln hC dX8_coins_50 0 rfl ?_
      refine V_gr hC fl_X8_10 (by decide) rfl rfl dX8_coins_51 ?_
      refine V_gr hC fl_X8_252 (by decide) rfl rfl dX8_coins_54 ?_
      refine V_iln hC dX8_coins_57 1 rfl ?_
      refine V_ia hC (by decide) rfl dX8_coins_58 ?_
      exact V_ir hC dX8_coins_59 rfl
    · refine V_aln hC dX8_coins_60 0 rfl ?_
      refine V_bip (x := -2) hC dX8_coins_61 (by decide) ?_
      refine V_cvi [] hC cv_X8_85 (by decide) rfl rfl (kX8_refuse G _ _) rfl rfl (Nat.le_of_ble_eq_true rfl) ⟨by decide, by decide⟩ dX8_coins_63 ?_
      intro q2
      exact V_ir hC dX8_coins_66 rfl
  · refine V_aln hC dX8_coins_8 0 rfl ?_
    refine V_ic (x := -1) hC dX8_coins_9 (by decide) ?_
    refine V_cvi [] hC cv_X8_85 (by decide) rfl rfl (kX8_refuse G _ _) rfl rfl (Nat.le_of_ble_eq_true rfl) ⟨by decide, by decide⟩ dX8_coins_10 ?_
    intro q3
    exact V_ir hC dX8_coins_13 rfl
def fX8_ideaOf (v1 : Int32) (v2 : Int32) (z : iw_M) : Option (Int32 × iw_M) :=
  ((fX8_isIdea v1 z).bind (fun q1 =>
  (if q1.1 = 0 then
  ((fX8_refuse (-1 : Int32) q1.2).bind (fun q3 =>
  some (q3.1, q3.2)))
  else
  (iw_sw v2 0 [(if iw_ok v1 40 then
  some ((q1.2.1 14 (Int32.toNatClampNeg v1)), q1.2)
  else none),
  (if iw_ok v1 40 then
  some ((q1.2.1 13 (Int32.toNatClampNeg v1)), q1.2)
  else none),
  (if iw_ok v1 40 then
  (if (q1.2.1 14 (Int32.toNatClampNeg v1)) = 0 then
  some ((-9 : Int32), q1.2)
  else
  (if iw_ok v1 40 then
  some ((q1.2.1 15 (Int32.toNatClampNeg v1)), q1.2)
  else none))
  else none),
  (if iw_ok v1 40 then
  some ((q1.2.1 16 (Int32.toNatClampNeg v1)), q1.2)
  else none),
  (if iw_ok v1 40 then
  some ((q1.2.1 12 (Int32.toNatClampNeg v1)), q1.2)
  else none),
  (if iw_ok v1 40 then
  some ((q1.2.1 11 (Int32.toNatClampNeg v1)), q1.2)
  else none)]
  (((fX8_refuse (-2 : Int32) q1.2).bind (fun q2 =>
  some (q2.1, q2.2))))))))
abbrev bX8_ideaOf : iw_B := (cX8_ideaOf, 3, { frames := 1, cells := 0, slots := 0, locals := 22 }, yX8_ideaOf.cls, (some .int))
set_option maxRecDepth 100000 in
set_option maxHeartbeats 4000000 in
theorem kX8_ideaOf (G : iw_G) (v1 : Int32) (v2 : Int32) (z : iw_M) : iw_K G iw_wX yX8_ideaOf cX8_ideaOf 3 (some .int) 1 22 iw_ei [.ref (iw_ad G 0), .int v1, .int v2] z (fX8_ideaOf v1 v2 z) := by
  refine iw_of [(0, .ref (iw_ad G 0)), (1, .int v1), (2, .int v2)] (by decide +kernel) (Nat.le_of_ble_eq_true rfl) rfl ?_
  intro X hC
  unfold fX8_ideaOf
  refine V_aln hC dX8_ideaOf_0 0 rfl ?_
  refine V_iln hC dX8_ideaOf_1 1 rfl ?_
  refine V_cvi [] hC cv_X8_113 (by decide) rfl rfl (kX8_isIdea G _ _) rfl rfl (Nat.le_of_ble_eq_true rfl) ⟨by decide, by decide⟩ dX8_ideaOf_2 ?_
  intro q1
  refine V_ine 14 hC dX8_ideaOf_5 (by decide) ?_ ?_
  · refine V_iln hC dX8_ideaOf_14 2 rfl ?_
    refine V_ts [52, 62, 72, 99, 109, 119] 129 hC dX8_ideaOf_15 ⟨by decide, by decide⟩ (by decide) (by decide) ?_ (iw_sA_c ?_ (iw_sA_c ?_ (iw_sA_c ?_ (iw_sA_c ?_ (iw_sA_c ?_ (iw_sA_c ?_ iw_sA_n))))))
    · refine V_aln hC dX8_ideaOf_129 0 rfl ?_
      refine V_bip (x := -2) hC dX8_ideaOf_130 (by decide) ?_
      refine V_cvi [] hC cv_X8_85 (by decide) rfl rfl (kX8_refuse G _ _) rfl rfl (Nat.le_of_ble_eq_true rfl) ⟨by decide, by decide⟩ dX8_ideaOf_132 ?_
      intro q2
      exact V_ir hC dX8_ideaOf_135 rfl
    · refine V_aln hC dX8_ideaOf_52 0 rfl ?_
      refine V_gr hC fl_X8_65 (by decide) rfl rfl dX8_ideaOf_53 ?_
      refine V_gr hC fl_X8_172 (by decide) rfl rfl dX8_ideaOf_56 ?_
      refine V_iln hC dX8_ideaOf_59 1 rfl ?_
      refine V_ia hC (by decide) rfl dX8_ideaOf_60 ?_
      exact V_ir hC dX8_ideaOf_61 rfl
    · refine V_aln hC dX8_ideaOf_62 0 rfl ?_
      refine V_gr hC fl_X8_65 (by decide) rfl rfl dX8_ideaOf_63 ?_
      refine V_gr hC fl_X8_255 (by decide) rfl rfl dX8_ideaOf_66 ?_
      refine V_iln hC dX8_ideaOf_69 1 rfl ?_
      refine V_ia hC (by decide) rfl dX8_ideaOf_70 ?_
      exact V_ir hC dX8_ideaOf_71 rfl
    · refine V_aln hC dX8_ideaOf_72 0 rfl ?_
      refine V_gr hC fl_X8_65 (by decide) rfl rfl dX8_ideaOf_73 ?_
      refine V_gr hC fl_X8_172 (by decide) rfl rfl dX8_ideaOf_76 ?_
      refine V_iln hC dX8_ideaOf_79 1 rfl ?_
      refine V_ia hC (by decide) rfl dX8_ideaOf_80 ?_
      refine V_ine 89 hC dX8_ideaOf_81 (by decide) ?_ ?_
      · refine V_aln hC dX8_ideaOf_89 0 rfl ?_
        refine V_gr hC fl_X8_65 (by decide) rfl rfl dX8_ideaOf_90 ?_
        refine V_gr hC fl_X8_258 (by decide) rfl rfl dX8_ideaOf_93 ?_
        refine V_iln hC dX8_ideaOf_96 1 rfl ?_
        refine V_ia hC (by decide) rfl dX8_ideaOf_97 ?_
        exact V_ir hC dX8_ideaOf_98 rfl
      · refine V_bip (x := -9) hC dX8_ideaOf_84 (by decide) ?_
        refine V_goto 98 hC dX8_ideaOf_86 (by decide) ?_
        exact V_ir hC dX8_ideaOf_98 rfl
    · refine V_aln hC dX8_ideaOf_99 0 rfl ?_
      refine V_gr hC fl_X8_65 (by decide) rfl rfl dX8_ideaOf_100 ?_
      refine V_gr hC fl_X8_261 (by decide) rfl rfl dX8_ideaOf_103 ?_
      refine V_iln hC dX8_ideaOf_106 1 rfl ?_
      refine V_ia hC (by decide) rfl dX8_ideaOf_107 ?_
      exact V_ir hC dX8_ideaOf_108 rfl
    · refine V_aln hC dX8_ideaOf_109 0 rfl ?_
      refine V_gr hC fl_X8_65 (by decide) rfl rfl dX8_ideaOf_110 ?_
      refine V_gr hC fl_X8_262 (by decide) rfl rfl dX8_ideaOf_113 ?_
      refine V_iln hC dX8_ideaOf_116 1 rfl ?_
      refine V_ia hC (by decide) rfl dX8_ideaOf_117 ?_
      exact V_ir hC dX8_ideaOf_118 rfl
    · refine V_aln hC dX8_ideaOf_119 0 rfl ?_
      refine V_gr hC fl_X8_65 (by decide) rfl rfl dX8_ideaOf_120 ?_
      refine V_gr hC fl_X8_141 (by decide) rfl rfl dX8_ideaOf_123 ?_
      refine V_iln hC dX8_ideaOf_126 1 rfl ?_
      refine V_ia hC (by decide) rfl dX8_ideaOf_127 ?_
      exact V_ir hC dX8_ideaOf_128 rfl
  · refine V_aln hC dX8_ideaOf_8 0 rfl ?_
    refine V_ic (x := -1) hC dX8_ideaOf_9 (by decide) ?_
    refine V_cvi [] hC cv_X8_85 (by decide) rfl rfl (kX8_refuse G _ _) rfl rfl (Nat.le_of_ble_eq_true rfl) ⟨by decide, by decide⟩ dX8_ideaOf_10 ?_
    intro q3
    exact V_ir hC dX8_ideaOf_13 rfl
def fX8_count (v1 : Int32) (z : iw_M) : Option (Int32 × iw_M) :=
  (iw_sw v1 0 [some ((z.1 0 11), z),
  some ((z.1 1 6), z),
  some ((z.1 8 10), z),
  ((fX3_howMany (1 : Int32) z).bind (fun q1 =>
  some (q1.1, q1.2))),
  ((fX3_howMany (2 : Int32) z).bind (fun q2 =>
  some (q2.1, q2.2))),
  ((fX1_howMany 19  z).bind (fun q3 =>
  some (q3.1, q3.2))),
  some ((z.1 26 4), z),
  some ((z.1 38 4), z),
  some ((z.1 43 1), z),
  ((fX2_coinsInAll  z).bind (fun q4 =>
  some (q4.1, q4.2)))]
  ((if v1 < (11 : Int32) then
  some ((-9 : Int32), z)
  else
  (if (16 : Int32) < v1 then
  some ((-9 : Int32), z)
  else
  (if iw_ok (v1 - (10 : Int32)) 7 then
  some ((z.1 46 (Int32.toNatClampNeg (v1 - (10 : Int32)))), z)
  else none)))))
abbrev bX8_count : iw_B := (cX8_count, 2, { frames := 1, cells := 0, slots := 0, locals := 23 }, yX8_count.cls, (some .int))
set_option maxRecDepth 100000 in
set_option maxHeartbeats 4000000 in
theorem kX8_count (G : iw_G) (v1 : Int32) (z : iw_M) : iw_K G iw_wX yX8_count cX8_count 2 (some .int) 1 23 iw_ei [.ref (iw_ad G 0), .int v1] z (fX8_count v1 z) := by
  refine iw_of [(0, .ref (iw_ad G 0)), (1, .int v1)] (by decide +kernel) (Nat.le_of_ble_eq_true rfl) rfl ?_
  intro X hC
  unfold fX8_count
  refine V_iln hC dX8_count_0 1 rfl ?_
  refine V_ts [56, 61, 69, 77, 86, 95, 103, 111, 119, 127] 135 hC dX8_count_1 ⟨by decide, by decide⟩ (by decide) (by decide) ?_ (iw_sA_c ?_ (iw_sA_c ?_ (iw_sA_c ?_ (iw_sA_c ?_ (iw_sA_c ?_ (iw_sA_c ?_ (iw_sA_c ?_ (iw_sA_c ?_ (iw_sA_c ?_ (iw_sA_c ?_ iw_sA_n))))))))))
  · refine V_iln hC dX8_count_135 1 rfl ?_
    refine V_bip (x := 11) hC dX8_count_136 (by decide) ?_
    refine V_clt 159 hC dX8_count_138 (by decide) ?_ ?_
    · refine V_bip (x := -9) hC dX8_count_159 (by decide) ?_
      exact V_ir hC dX8_count_161 rfl
    · refine V_iln hC dX8_count_141 1 rfl ?_
      refine V_bip (x := 16) hC dX8_count_142 (by decide) ?_
      refine V_cgt 159 hC dX8_count_144 (by decide) ?_ ?_
      · refine V_bip (x := -9) hC dX8_count_159 (by decide) ?_
        exact V_ir hC dX8_count_161 rfl
      · refine V_aln hC dX8_count_147 0 rfl ?_
        refine V_gr hC fl_X8_55 (by decide) rfl rfl dX8_count_148 ?_
        refine V_iln hC dX8_count_151 1 rfl ?_
        refine V_bip (x := 10) hC dX8_count_152 (by decide) ?_
        refine V_isub hC dX8_count_154 ?_
        refine V_ia hC (by decide) rfl dX8_count_155 ?_
        refine V_goto 161 hC dX8_count_156 (by decide) ?_
        exact V_ir hC dX8_count_161 rfl
  · refine V_aln hC dX8_count_56 0 rfl ?_
    refine V_gi hC fl_X8_58 (by decide) rfl rfl dX8_count_57 ?_
    exact V_ir hC dX8_count_60 rfl
  · refine V_aln hC dX8_count_61 0 rfl ?_
    refine V_gr hC fl_X8_10 (by decide) rfl rfl dX8_count_62 ?_
    refine V_gi hC fl_X8_89 (by decide) rfl rfl dX8_count_65 ?_
    exact V_ir hC dX8_count_68 rfl
  · refine V_aln hC dX8_count_69 0 rfl ?_
    refine V_gr hC fl_X8_65 (by decide) rfl rfl dX8_count_70 ?_
    refine V_gi hC fl_X8_105 (by decide) rfl rfl dX8_count_73 ?_
    exact V_ir hC dX8_count_76 rfl
  · refine V_aln hC dX8_count_77 0 rfl ?_
    refine V_gr hC fl_X8_65 (by decide) rfl rfl dX8_count_78 ?_
    refine V_ic (x := 1) hC dX8_count_81 (by decide) ?_
    refine V_cvi [] hC cv_X8_265 (by decide) rfl rfl (kX3_howMany G _ _) rfl rfl (Nat.le_of_ble_eq_true rfl) ⟨by decide, by decide⟩ dX8_count_82 ?_
    intro q1
    exact V_ir hC dX8_count_85 rfl
  · refine V_aln hC dX8_count_86 0 rfl ?_
    refine V_gr hC fl_X8_65 (by decide) rfl rfl dX8_count_87 ?_
    refine V_ic (x := 2) hC dX8_count_90 (by decide) ?_
    refine V_cvi [] hC cv_X8_265 (by decide) rfl rfl (kX3_howMany G _ _) rfl rfl (Nat.le_of_ble_eq_true rfl) ⟨by decide, by decide⟩ dX8_count_91 ?_
    intro q2
    exact V_ir hC dX8_count_94 rfl
  · refine V_aln hC dX8_count_95 0 rfl ?_
    refine V_gr hC fl_X8_74 (by decide) rfl rfl dX8_count_96 ?_
    refine V_cvi [] hC cv_X8_268 (by decide) rfl rfl (kX1_howMany G 19 iw_F19  _) rfl rfl (Nat.le_of_ble_eq_true rfl) ⟨by decide, by decide⟩ dX8_count_99 ?_
    intro q3
    exact V_ir hC dX8_count_102 rfl
  · refine V_aln hC dX8_count_103 0 rfl ?_
    refine V_gr hC fl_X8_26 (by decide) rfl rfl dX8_count_104 ?_
    refine V_gi hC fl_X8_201 (by decide) rfl rfl dX8_count_107 ?_
    exact V_ir hC dX8_count_110 rfl
  · refine V_aln hC dX8_count_111 0 rfl ?_
    refine V_gr hC fl_X8_40 (by decide) rfl rfl dX8_count_112 ?_
    refine V_gi hC fl_X8_223 (by decide) rfl rfl dX8_count_115 ?_
    exact V_ir hC dX8_count_118 rfl
  · refine V_aln hC dX8_count_119 0 rfl ?_
    refine V_gr hC fl_X8_47 (by decide) rfl rfl dX8_count_120 ?_
    refine V_gi hC fl_X8_230 (by decide) rfl rfl dX8_count_123 ?_
    exact V_ir hC dX8_count_126 rfl
  · refine V_aln hC dX8_count_127 0 rfl ?_
    refine V_gr hC fl_X8_10 (by decide) rfl rfl dX8_count_128 ?_
    refine V_cvi [] hC cv_X8_271 (by decide) rfl rfl (kX2_coinsInAll G  _) rfl rfl (Nat.le_of_ble_eq_true rfl) ⟨by decide, by decide⟩ dX8_count_131 ?_
    intro q4
    exact V_ir hC dX8_count_134 rfl
