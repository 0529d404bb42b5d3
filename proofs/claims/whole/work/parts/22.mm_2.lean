def fX9_may (v1 : Int32) (v2 : Int32) (z : iw_M) : Option (Int32 × iw_M) :=
  ((fX9_isHand v1 z).bind (fun q1 =>
  (if q1.1 = 0 then
  ((fX9_no (-1 : Int32) q1.2).bind (fun q2 =>
  some (q2.1, q2.2)))
  else
  ((fX9_isIdea v2 q1.2).bind (fun q3 =>
  (if q3.1 = 0 then
  ((fX9_no (-1 : Int32) q3.2).bind (fun q6 =>
  some (q6.1, q6.2)))
  else
  ((fX9_families (q3.2.1 0 6) q3.2).bind (fun q4 =>
  ((fX9_mayJudge v1 v2 q4.2).bind (fun q5 =>
  (if q5.1 = 0 then
  some ((0 : Int32), q5.2)
  else
  some ((1 : Int32), q5.2))))))))))))
abbrev bX9_may : iw_B := (cX9_may, 3, { frames := 3, cells := 0, slots := 0, locals := 68 }, yX9_may.cls, (some .int))
set_option maxRecDepth 100000 in
set_option maxHeartbeats 4000000 in
theorem kX9_may (G : iw_G) (v1 : Int32) (v2 : Int32) (z : iw_M) : iw_K G iw_wM yX9_may cX9_may 3 (some .int) 3 68 iw_ei [.ref (iw_ad G 0), .int v1, .int v2] z (fX9_may v1 v2 z) := by
  refine iw_of [(0, .ref (iw_ad G 0)), (1, .int v1), (2, .int v2)] (by decide +kernel) (Nat.le_of_ble_eq_true rfl) rfl ?_
  intro X hC
  unfold fX9_may
  refine V_aln hC dX9_may_0 0 rfl ?_
  refine V_iln hC dX9_may_1 1 rfl ?_
  refine V_cvi [] hC cv_X9_132 (by decide) rfl rfl (kX9_isHand G _ _) rfl rfl (Nat.le_of_ble_eq_true rfl) ⟨by decide, by decide⟩ dX9_may_2 ?_
  intro q1
  refine V_ieq 16 hC dX9_may_5 (by decide) ?_ ?_
  · refine V_aln hC dX9_may_16 0 rfl ?_
    refine V_ic (x := -1) hC dX9_may_17 (by decide) ?_
    refine V_cvi [] hC cv_X9_128 (by decide) rfl rfl (kX9_no G _ _) rfl rfl (Nat.le_of_ble_eq_true rfl) ⟨by decide, by decide⟩ dX9_may_18 ?_
    intro q2
    exact V_ir hC dX9_may_21 rfl
  · refine V_aln hC dX9_may_8 0 rfl ?_
    refine V_iln hC dX9_may_9 2 rfl ?_
    refine V_cvi [] hC cv_X9_141 (by decide) rfl rfl (kX9_isIdea G _ _) rfl rfl (Nat.le_of_ble_eq_true rfl) ⟨by decide, by decide⟩ dX9_may_10 ?_
    intro q3
    refine V_ine 22 hC dX9_may_13 (by decide) ?_ ?_
    · refine V_aln hC dX9_may_22 0 rfl ?_
      refine V_aln hC dX9_may_23 0 rfl ?_
      refine V_gi hC fl_X9_7 (by decide) rfl rfl dX9_may_24 ?_
      refine V_cvv [] hC cv_X9_155 (by decide) rfl rfl (kX9_families G _ _) rfl rfl (Nat.le_of_ble_eq_true rfl) ⟨by decide, by decide⟩ dX9_may_27 ?_
      intro q4
      refine V_aln hC dX9_may_30 0 rfl ?_
      refine V_iln hC dX9_may_31 1 rfl ?_
      refine V_iln hC dX9_may_32 2 rfl ?_
      refine V_cvi [] hC cv_X9_168 (by decide) rfl rfl (kX9_mayJudge G _ _ _) rfl rfl (Nat.le_of_ble_eq_true rfl) ⟨by decide, by decide⟩ dX9_may_33 ?_
      intro q5
      refine V_ieq 43 hC dX9_may_36 (by decide) ?_ ?_
      · refine V_ic (x := 0) hC dX9_may_43 (by decide) ?_
        exact V_ir hC dX9_may_44 rfl
      · refine V_ic (x := 1) hC dX9_may_39 (by decide) ?_
        refine V_goto 44 hC dX9_may_40 (by decide) ?_
        exact V_ir hC dX9_may_44 rfl
    · refine V_aln hC dX9_may_16 0 rfl ?_
      refine V_ic (x := -1) hC dX9_may_17 (by decide) ?_
      refine V_cvi [] hC cv_X9_128 (by decide) rfl rfl (kX9_no G _ _) rfl rfl (Nat.le_of_ble_eq_true rfl) ⟨by decide, by decide⟩ dX9_may_18 ?_
      intro q6
      exact V_ir hC dX9_may_21 rfl
def fX9_nextJudge_L7 (v1 : Int32) (v2 : Int32) (v3 : Int32) (K : Int32 → Int32 → iw_M → Option (Int32 × iw_M)) : Nat → Int32 → Int32 → iw_M → Option (Int32 × iw_M)
  | 0, _, _, _ => none
  | n + 1, v4, v5, z => (if (z.1 0 1) ≤ v5 then
  K v4 v5 z
  else
  (if v5 = v2 then
  fX9_nextJudge_L7 v1 v2 v3 K n v4 (v5 + (1 : Int32)) z
  else
  (if v5 = v3 then
  fX9_nextJudge_L7 v1 v2 v3 K n v4 (v5 + (1 : Int32)) z
  else
  ((fX9_mayJudge v5 v1 z).bind (fun q1 =>
  (if q1.1 = 0 then
  fX9_nextJudge_L7 v1 v2 v3 K n v4 (v5 + (1 : Int32)) q1.2
  else
  (if v4 = (-9 : Int32) then
  fX9_nextJudge_L7 v1 v2 v3 K n v5 (v5 + (1 : Int32)) q1.2
  else
  (if iw_ok v5 40 then
  (if iw_ok v4 40 then
  (if (q1.2.1 2 (Int32.toNatClampNeg v4)) ≤ (q1.2.1 2 (Int32.toNatClampNeg v5)) then
  fX9_nextJudge_L7 v1 v2 v3 K n v4 (v5 + (1 : Int32)) q1.2
  else
  fX9_nextJudge_L7 v1 v2 v3 K n v5 (v5 + (1 : Int32)) q1.2)
  else none)
  else none))))))))
def fX9_nextJudge (v1 : Int32) (v2 : Int32) (v3 : Int32) (z : iw_M) : Option (Int32 × iw_M) :=
  fX9_nextJudge_L7 v1 v2 v3 (fun x4_2 x5_2 z_2 => some (x4_2, z_2)) iw_fu (-9 : Int32) (0 : Int32) z
abbrev bX9_nextJudge : iw_B := (cX9_nextJudge, 6, { frames := 2, cells := 0, slots := 0, locals := 47 }, yX9_nextJudge.cls, (some .int))
set_option maxRecDepth 100000 in
set_option maxHeartbeats 4000000 in
theorem vX9_nextJudge_L7 {G : iw_G} {X : iw_X} (hC : iw_C G iw_wM X bX9_nextJudge) (v1 : Int32) (v2 : Int32) (v3 : Int32) (K : Int32 → Int32 → iw_M → Option (Int32 × iw_M)) (hK : ∀ (v4 : Int32) (v5 : Int32) (z : iw_M), iw_V G iw_wM X bX9_nextJudge iw_ei 72 [(0, .ref (iw_ad G 0)), (1, .int v1), (2, .int v2), (3, .int v3), (4, .int v4), (5, .int v5)] [] z (K v4 v5 z)) : ∀ (n : Nat) (v4 : Int32) (v5 : Int32) (z : iw_M), iw_V G iw_wM X bX9_nextJudge iw_ei 7 [(0, .ref (iw_ad G 0)), (1, .int v1), (2, .int v2), (3, .int v3), (4, .int v4), (5, .int v5)] [] z (fX9_nextJudge_L7 v1 v2 v3 K n v4 v5 z) := by
  intro n
  induction n with
  | zero =>
    intro v4 v5 z
    exact V_none
  | succ n ih =>
    intro v4 v5 z
    simp only [fX9_nextJudge_L7]
    refine V_il hC dX9_nextJudge_7 5 rfl ?_
    refine V_aln hC dX9_nextJudge_9 0 rfl ?_
    refine V_gi hC fl_X9_117 (by decide) rfl rfl dX9_nextJudge_10 ?_
    refine V_cge 72 hC dX9_nextJudge_13 (by decide) ?_ ?_
    · exact hK _ _ _
    · refine V_il hC dX9_nextJudge_16 5 rfl ?_
      refine V_iln hC dX9_nextJudge_18 2 rfl ?_
      refine V_ceq 66 hC dX9_nextJudge_19 (by decide) ?_ ?_
      · refine V_inc (k := 5) (y := 1) [(5, .int _), (0, .ref _), (1, .int _), (2, .int _), (3, .int _), (4, .int _)] hC dX9_nextJudge_66 rfl (by decide) (by decide) rfl ?_
        refine V_goto 7 hC dX9_nextJudge_69 (by decide) ?_
        refine V_sub [(0, .ref _), (1, .int _), (2, .int _), (3, .int _), (4, .int _), (5, .int _)] [1, 2, 3, 4, 5, 0] rfl ?_
        exact ih _ _ _
      · refine V_il hC dX9_nextJudge_22 5 rfl ?_
        refine V_iln hC dX9_nextJudge_24 3 rfl ?_
        refine V_ceq 66 hC dX9_nextJudge_25 (by decide) ?_ ?_
        · refine V_inc (k := 5) (y := 1) [(5, .int _), (0, .ref _), (1, .int _), (2, .int _), (3, .int _), (4, .int _)] hC dX9_nextJudge_66 rfl (by decide) (by decide) rfl ?_
          refine V_goto 7 hC dX9_nextJudge_69 (by decide) ?_
          refine V_sub [(0, .ref _), (1, .int _), (2, .int _), (3, .int _), (4, .int _), (5, .int _)] [1, 2, 3, 4, 5, 0] rfl ?_
          exact ih _ _ _
        · refine V_aln hC dX9_nextJudge_28 0 rfl ?_
          refine V_il hC dX9_nextJudge_29 5 rfl ?_
          refine V_iln hC dX9_nextJudge_31 1 rfl ?_
          refine V_cvi [] hC cv_X9_168 (by decide) rfl rfl (kX9_mayJudge G _ _ _) rfl rfl (Nat.le_of_ble_eq_true rfl) ⟨by decide, by decide⟩ dX9_nextJudge_32 ?_
          intro q1
          refine V_ieq 66 hC dX9_nextJudge_35 (by decide) ?_ ?_
          · refine V_inc (k := 5) (y := 1) [(5, .int _), (0, .ref _), (1, .int _), (2, .int _), (3, .int _), (4, .int _)] hC dX9_nextJudge_66 rfl (by decide) (by decide) rfl ?_
            refine V_goto 7 hC dX9_nextJudge_69 (by decide) ?_
            refine V_sub [(0, .ref _), (1, .int _), (2, .int _), (3, .int _), (4, .int _), (5, .int _)] [1, 2, 3, 4, 5, 0] rfl ?_
            exact ih _ _ _
          · refine V_il hC dX9_nextJudge_38 4 rfl ?_
            refine V_bip (x := -9) hC dX9_nextJudge_40 (by decide) ?_
            refine V_ceq 62 hC dX9_nextJudge_42 (by decide) ?_ ?_
            · refine V_il hC dX9_nextJudge_62 5 rfl ?_
              refine V_is [(4, .int _), (0, .ref _), (1, .int _), (2, .int _), (3, .int _), (5, .int _)] hC dX9_nextJudge_64 (by decide) rfl ?_
              refine V_inc (k := 5) (y := 1) [(5, .int _), (4, .int _), (0, .ref _), (1, .int _), (2, .int _), (3, .int _)] hC dX9_nextJudge_66 rfl (by decide) (by decide) rfl ?_
              refine V_goto 7 hC dX9_nextJudge_69 (by decide) ?_
              refine V_sub [(0, .ref _), (1, .int _), (2, .int _), (3, .int _), (4, .int _), (5, .int _)] [2, 3, 4, 5, 1, 0] rfl ?_
              exact ih _ _ _
            · refine V_aln hC dX9_nextJudge_45 0 rfl ?_
              refine V_gr hC fl_X9_26 (by decide) rfl rfl dX9_nextJudge_46 ?_
              refine V_il hC dX9_nextJudge_49 5 rfl ?_
              refine V_ia hC (by decide) rfl dX9_nextJudge_51 ?_
              refine V_aln hC dX9_nextJudge_52 0 rfl ?_
              refine V_gr hC fl_X9_26 (by decide) rfl rfl dX9_nextJudge_53 ?_
              refine V_il hC dX9_nextJudge_56 4 rfl ?_
              refine V_ia hC (by decide) rfl dX9_nextJudge_58 ?_
              refine V_cge 66 hC dX9_nextJudge_59 (by decide) ?_ ?_
              · refine V_inc (k := 5) (y := 1) [(5, .int _), (0, .ref _), (1, .int _), (2, .int _), (3, .int _), (4, .int _)] hC dX9_nextJudge_66 rfl (by decide) (by decide) rfl ?_
                refine V_goto 7 hC dX9_nextJudge_69 (by decide) ?_
                refine V_sub [(0, .ref _), (1, .int _), (2, .int _), (3, .int _), (4, .int _), (5, .int _)] [1, 2, 3, 4, 5, 0] rfl ?_
                exact ih _ _ _
              · refine V_il hC dX9_nextJudge_62 5 rfl ?_
                refine V_is [(4, .int _), (0, .ref _), (1, .int _), (2, .int _), (3, .int _), (5, .int _)] hC dX9_nextJudge_64 (by decide) rfl ?_
                refine V_inc (k := 5) (y := 1) [(5, .int _), (4, .int _), (0, .ref _), (1, .int _), (2, .int _), (3, .int _)] hC dX9_nextJudge_66 rfl (by decide) (by decide) rfl ?_
                refine V_goto 7 hC dX9_nextJudge_69 (by decide) ?_
                refine V_sub [(0, .ref _), (1, .int _), (2, .int _), (3, .int _), (4, .int _), (5, .int _)] [2, 3, 4, 5, 1, 0] rfl ?_
                exact ih _ _ _
set_option maxRecDepth 100000 in
set_option maxHeartbeats 4000000 in
theorem kX9_nextJudge (G : iw_G) (v1 : Int32) (v2 : Int32) (v3 : Int32) (z : iw_M) : iw_K G iw_wM yX9_nextJudge cX9_nextJudge 6 (some .int) 2 47 iw_ei [.ref (iw_ad G 0), .int v1, .int v2, .int v3] z (fX9_nextJudge v1 v2 v3 z) := by
  refine iw_of [(0, .ref (iw_ad G 0)), (1, .int v1), (2, .int v2), (3, .int v3)] (by decide +kernel) (Nat.le_of_ble_eq_true rfl) rfl ?_
  intro X hC
  unfold fX9_nextJudge
  refine V_bip (x := -9) hC dX9_nextJudge_0 (by decide) ?_
  refine V_is [(4, .int _), (0, .ref _), (1, .int _), (2, .int _), (3, .int _)] hC dX9_nextJudge_2 (by decide) rfl ?_
  refine V_ic (x := 0) hC dX9_nextJudge_4 (by decide) ?_
  refine V_is [(5, .int _), (4, .int _), (0, .ref _), (1, .int _), (2, .int _), (3, .int _)] hC dX9_nextJudge_5 (by decide) rfl ?_
  refine V_sub [(0, .ref _), (1, .int _), (2, .int _), (3, .int _), (4, .int _), (5, .int _)] [2, 3, 4, 5, 1, 0] rfl ?_
  refine vX9_nextJudge_L7 hC _ _ _ _ ?_ _ _ _ _
  intro x4_2 x5_2 z_2
  refine V_il hC dX9_nextJudge_72 4 rfl ?_
  exact V_ir hC dX9_nextJudge_74 rfl
def fX9_judgeOf_J60 (v2 : Int32) (v3 : Int32) (s0 : Int32) (z : iw_M) : Option (Int32 × iw_M) :=
  (if s0 = (-9 : Int32) then
  some ((-9 : Int32), z)
  else
  (if v2 = 0 then
  some (v3, z)
  else
  some (s0, z)))
def fX9_judgeOf (v1 : Int32) (v2 : Int32) (z : iw_M) : Option (Int32 × iw_M) :=
  ((fX9_isIdea v1 z).bind (fun q1 =>
  (if q1.1 = 0 then
  ((fX9_no (-1 : Int32) q1.2).bind (fun q2 =>
  some (q2.1, q2.2)))
  else
  (if v2 < 0 then
  ((fX9_no (-1 : Int32) q1.2).bind (fun q3 =>
  some (q3.1, q3.2)))
  else
  (if v2 ≤ (1 : Int32) then
  ((fX9_families (q1.2.1 0 6) q1.2).bind (fun q4 =>
  ((fX9_nextJudge v1 (-9 : Int32) (-9 : Int32) q4.2).bind (fun q5 =>
  (if q5.1 = (-9 : Int32) then
  fX9_judgeOf_J60 v2 q5.1 (-9 : Int32) q5.2
  else
  ((fX9_nextJudge v1 q5.1 (-9 : Int32) q5.2).bind (fun q6 =>
  fX9_judgeOf_J60 v2 q5.1 q6.1 q6.2)))))))
  else
  ((fX9_no (-1 : Int32) q1.2).bind (fun q7 =>
  some (q7.1, q7.2))))))))
abbrev bX9_judgeOf : iw_B := (cX9_judgeOf, 5, { frames := 3, cells := 0, slots := 0, locals := 72 }, yX9_judgeOf.cls, (some .int))
set_option maxRecDepth 100000 in
set_option maxHeartbeats 4000000 in
theorem vX9_judgeOf_J60 {G : iw_G} {X : iw_X} (hC : iw_C G iw_wM X bX9_judgeOf) (v2 : Int32) (v3 : Int32) (s0 : Int32) (z : iw_M) : iw_V G iw_wM X bX9_judgeOf iw_ei 60 [(2, .int v2), (3, .int v3)] [.int s0] z (fX9_judgeOf_J60 v2 v3 s0 z) := by
  unfold fX9_judgeOf_J60
  refine V_is [(4, .int _), (2, .int _), (3, .int _)] hC dX9_judgeOf_60 (by decide) rfl ?_
  refine V_il hC dX9_judgeOf_62 0 rfl ?_
  refine V_bip (x := -9) hC dX9_judgeOf_64 (by decide) ?_
  refine V_cne 72 hC dX9_judgeOf_66 (by decide) ?_ ?_
  · refine V_iln hC dX9_judgeOf_72 1 rfl ?_
    refine V_ine 80 hC dX9_judgeOf_73 (by decide) ?_ ?_
    · refine V_il hC dX9_judgeOf_80 0 rfl ?_
      exact V_ir hC dX9_judgeOf_82 rfl
    · refine V_iln hC dX9_judgeOf_76 2 rfl ?_
      refine V_goto 82 hC dX9_judgeOf_77 (by decide) ?_
      exact V_ir hC dX9_judgeOf_82 rfl
  · refine V_bip (x := -9) hC dX9_judgeOf_69 (by decide) ?_
    exact V_ir hC dX9_judgeOf_71 rfl
set_option maxRecDepth 100000 in
set_option maxHeartbeats 4000000 in
theorem kX9_judgeOf (G : iw_G) (v1 : Int32) (v2 : Int32) (z : iw_M) : iw_K G iw_wM yX9_judgeOf cX9_judgeOf 5 (some .int) 3 72 iw_ei [.ref (iw_ad G 0), .int v1, .int v2] z (fX9_judgeOf v1 v2 z) := by
  refine iw_of [(0, .ref (iw_ad G 0)), (1, .int v1), (2, .int v2)] (by decide +kernel) (Nat.le_of_ble_eq_true rfl) rfl ?_
  intro X hC
  unfold fX9_judgeOf
  refine V_aln hC dX9_judgeOf_0 0 rfl ?_
  refine V_iln hC dX9_judgeOf_1 1 rfl ?_
  refine V_cvi [] hC cv_X9_141 (by decide) rfl rfl (kX9_isIdea G _ _) rfl rfl (Nat.le_of_ble_eq_true rfl) ⟨by decide, by decide⟩ dX9_judgeOf_2 ?_
  intro q1
  refine V_ieq 17 hC dX9_judgeOf_5 (by decide) ?_ ?_
  · refine V_aln hC dX9_judgeOf_17 0 rfl ?_
    refine V_ic (x := -1) hC dX9_judgeOf_18 (by decide) ?_
    refine V_cvi [] hC cv_X9_128 (by decide) rfl rfl (kX9_no G _ _) rfl rfl (Nat.le_of_ble_eq_true rfl) ⟨by decide, by decide⟩ dX9_judgeOf_19 ?_
    intro q2
    exact V_ir hC dX9_judgeOf_22 rfl
  · refine V_iln hC dX9_judgeOf_8 2 rfl ?_
    refine V_ilt 17 hC dX9_judgeOf_9 (by decide) ?_ ?_
    · refine V_aln hC dX9_judgeOf_17 0 rfl ?_
      refine V_ic (x := -1) hC dX9_judgeOf_18 (by decide) ?_
      refine V_cvi [] hC cv_X9_128 (by decide) rfl rfl (kX9_no G _ _) rfl rfl (Nat.le_of_ble_eq_true rfl) ⟨by decide, by decide⟩ dX9_judgeOf_19 ?_
      intro q3
      exact V_ir hC dX9_judgeOf_22 rfl
    · refine V_iln hC dX9_judgeOf_12 2 rfl ?_
      refine V_ic (x := 1) hC dX9_judgeOf_13 (by decide) ?_
      refine V_cle 23 hC dX9_judgeOf_14 (by decide) ?_ ?_
      · refine V_aln hC dX9_judgeOf_23 0 rfl ?_
        refine V_aln hC dX9_judgeOf_24 0 rfl ?_
        refine V_gi hC fl_X9_7 (by decide) rfl rfl dX9_judgeOf_25 ?_
        refine V_cvv [] hC cv_X9_155 (by decide) rfl rfl (kX9_families G _ _) rfl rfl (Nat.le_of_ble_eq_true rfl) ⟨by decide, by decide⟩ dX9_judgeOf_28 ?_
        intro q4
        refine V_aln hC dX9_judgeOf_31 0 rfl ?_
        refine V_iln hC dX9_judgeOf_32 1 rfl ?_
        refine V_bip (x := -9) hC dX9_judgeOf_33 (by decide) ?_
        refine V_bip (x := -9) hC dX9_judgeOf_35 (by decide) ?_
        refine V_cvi [] hC cv_X9_171 (by decide) rfl rfl (kX9_nextJudge G _ _ _ _) rfl rfl (Nat.le_of_ble_eq_true rfl) ⟨by decide, by decide⟩ dX9_judgeOf_37 ?_
        intro q5
        refine V_isn [(3, .int _), (0, .ref _), (1, .int _), (2, .int _)] hC dX9_judgeOf_40 (by decide) rfl ?_
        refine V_iln hC dX9_judgeOf_41 0 rfl ?_
        refine V_bip (x := -9) hC dX9_judgeOf_42 (by decide) ?_
        refine V_cne 52 hC dX9_judgeOf_44 (by decide) ?_ ?_
        · refine V_aln hC dX9_judgeOf_52 1 rfl ?_
          refine V_iln hC dX9_judgeOf_53 2 rfl ?_
          refine V_iln hC dX9_judgeOf_54 0 rfl ?_
          refine V_bip (x := -9) hC dX9_judgeOf_55 (by decide) ?_
          refine V_cvi [] hC cv_X9_171 (by decide) rfl rfl (kX9_nextJudge G _ _ _ _) rfl rfl (Nat.le_of_ble_eq_true rfl) ⟨by decide, by decide⟩ dX9_judgeOf_57 ?_
          intro q6
          refine V_sub [(2, .int _), (3, .int _)] [3, 0] rfl ?_
          exact vX9_judgeOf_J60 hC _ _ _ _
        · refine V_bip (x := -9) hC dX9_judgeOf_47 (by decide) ?_
          refine V_goto 60 hC dX9_judgeOf_49 (by decide) ?_
          refine V_sub [(2, .int _), (3, .int _)] [3, 0] rfl ?_
          exact vX9_judgeOf_J60 hC _ _ _ _
      · refine V_aln hC dX9_judgeOf_17 0 rfl ?_
        refine V_ic (x := -1) hC dX9_judgeOf_18 (by decide) ?_
        refine V_cvi [] hC cv_X9_128 (by decide) rfl rfl (kX9_no G _ _) rfl rfl (Nat.le_of_ble_eq_true rfl) ⟨by decide, by decide⟩ dX9_judgeOf_19 ?_
        intro q7
        exact V_ir hC dX9_judgeOf_22 rfl
def fX9_delay_J31 (v1 : Int32) (s0 : Int32) (z : iw_M) : Option (Int32 × iw_M) :=
  (if iw_ok v1 40 then
  (if iw_ok (z.1 7 (Int32.toNatClampNeg v1)) 40 then
  (if iw_ok (z.1 7 (Int32.toNatClampNeg v1)) 40 then
  some (s0, (iw_wI (iw_wI z 4 (Int32.toNatClampNeg (z.1 7 (Int32.toNatClampNeg v1))) ((z.1 4 (Int32.toNatClampNeg (z.1 7 (Int32.toNatClampNeg v1)))) + s0)) 0 11 (((iw_wI z 4 (Int32.toNatClampNeg (z.1 7 (Int32.toNatClampNeg v1))) ((z.1 4 (Int32.toNatClampNeg (z.1 7 (Int32.toNatClampNeg v1)))) + s0)).1 0 11) + s0)))
  else none)
  else none)
  else none)
def fX9_delay (v1 : Int32) (z : iw_M) : Option (Int32 × iw_M) :=
  (if iw_ok v1 40 then
  (if (((z.1 0 0) - (z.1 11 (Int32.toNatClampNeg v1))) - (z.1 0 8)) ≤ 0 then
  fX9_delay_J31 v1 (0 : Int32) z
  else
  fX9_delay_J31 v1 ((((z.1 0 0) - (z.1 11 (Int32.toNatClampNeg v1))) - (z.1 0 8)) * (z.1 0 9)) z)
  else none)
abbrev bX9_delay : iw_B := (cX9_delay, 4, { frames := 0, cells := 0, slots := 0, locals := 0 }, yX9_delay.cls, (some .int))
set_option maxRecDepth 100000 in
set_option maxHeartbeats 4000000 in
theorem vX9_delay_J31 {G : iw_G} {X : iw_X} (hC : iw_C G iw_wM X bX9_delay) (v1 : Int32) (s0 : Int32) (z : iw_M) : iw_V G iw_wM X bX9_delay iw_ei 31 [(0, .ref (iw_ad G 0)), (1, .int v1)] [.int s0] z (fX9_delay_J31 v1 s0 z) := by
  unfold fX9_delay_J31
  refine V_isn [(3, .int _), (0, .ref _), (1, .int _)] hC dX9_delay_31 (by decide) rfl ?_
  refine V_aln hC dX9_delay_32 1 rfl ?_
  refine V_gr hC fl_X9_32 (by decide) rfl rfl dX9_delay_33 ?_
  refine V_aln hC dX9_delay_36 1 rfl ?_
  refine V_gr hC fl_X9_42 (by decide) rfl rfl dX9_delay_37 ?_
  refine V_iln hC dX9_delay_40 2 rfl ?_
  refine V_ia hC (by decide) rfl dX9_delay_41 ?_
  refine V_dup2 hC dX9_delay_42 rfl rfl ?_
  refine V_ia hC (by decide) rfl dX9_delay_43 ?_
  refine V_iln hC dX9_delay_44 0 rfl ?_
  refine V_iadd hC dX9_delay_45 ?_
  refine V_is_ hC (by decide) rfl dX9_delay_46 ?_
  refine V_aln hC dX9_delay_47 1 rfl ?_
  refine V_dup hC dX9_delay_48 rfl ?_
  refine V_gi hC fl_X9_175 (by decide) rfl rfl dX9_delay_49 ?_
  refine V_iln hC dX9_delay_52 0 rfl ?_
  refine V_iadd hC dX9_delay_53 ?_
  refine V_pi hC fp_X9_175 (by decide) rfl rfl dX9_delay_54 ?_
  refine V_iln hC dX9_delay_57 0 rfl ?_
  exact V_ir hC dX9_delay_58 rfl
set_option maxRecDepth 100000 in
set_option maxHeartbeats 4000000 in
theorem kX9_delay (G : iw_G) (v1 : Int32) (z : iw_M) : iw_K G iw_wM yX9_delay cX9_delay 4 (some .int) 0 0 iw_ei [.ref (iw_ad G 0), .int v1] z (fX9_delay v1 z) := by
  refine iw_of [(0, .ref (iw_ad G 0)), (1, .int v1)] (by decide +kernel) (Nat.le_of_ble_eq_true rfl) rfl ?_
  intro X hC
  unfold fX9_delay
  refine V_aln hC dX9_delay_0 0 rfl ?_
  refine V_gi hC fl_X9_138 (by decide) rfl rfl dX9_delay_1 ?_
  refine V_aln hC dX9_delay_4 0 rfl ?_
  refine V_gr hC fl_X9_54 (by decide) rfl rfl dX9_delay_5 ?_
  refine V_iln hC dX9_delay_8 1 rfl ?_
  refine V_ia hC (by decide) rfl dX9_delay_9 ?_
  refine V_isub hC dX9_delay_10 ?_
  refine V_aln hC dX9_delay_11 0 rfl ?_
  refine V_gi hC fl_X9_16 (by decide) rfl rfl dX9_delay_12 ?_
  refine V_isub hC dX9_delay_15 ?_
  refine V_isn [(2, .int _), (0, .ref _), (1, .int _)] hC dX9_delay_16 (by decide) rfl ?_
  refine V_iln hC dX9_delay_17 0 rfl ?_
  refine V_ile 30 hC dX9_delay_18 (by decide) ?_ ?_
  · refine V_ic (x := 0) hC dX9_delay_30 (by decide) ?_
    refine V_sub [(0, .ref _), (1, .int _)] [1, 2] rfl ?_
    exact vX9_delay_J31 hC _ _ _
  · refine V_iln hC dX9_delay_21 0 rfl ?_
    refine V_aln hC dX9_delay_22 1 rfl ?_
    refine V_gi hC fl_X9_19 (by decide) rfl rfl dX9_delay_23 ?_
    refine V_imul hC dX9_delay_26 ?_
    refine V_goto 31 hC dX9_delay_27 (by decide) ?_
    refine V_sub [(0, .ref _), (1, .int _)] [1, 2] rfl ?_
    exact vX9_delay_J31 hC _ _ _
def fX9_settles (v1 : Int32) (v2 : Int32) (z : iw_M) : Option (Int32 × iw_M) :=
  (if iw_ok v1 40 then
  (if iw_ok v1 40 then
  ((fX9_delay v1 (iw_wI (iw_wI z 12 (Int32.toNatClampNeg v1) v2) 13 (Int32.toNatClampNeg v1) ((iw_wI z 12 (Int32.toNatClampNeg v1) v2).1 0 0))).bind (fun q1 =>
  some (q1.1, q1.2)))
  else none)
  else none)
abbrev bX9_settles : iw_B := (cX9_settles, 3, { frames := 1, cells := 0, slots := 0, locals := 23 }, yX9_settles.cls, (some .int))
set_option maxRecDepth 100000 in
set_option maxHeartbeats 4000000 in
theorem kX9_settles (G : iw_G) (v1 : Int32) (v2 : Int32) (z : iw_M) : iw_K G iw_wM yX9_settles cX9_settles 3 (some .int) 1 23 iw_ei [.ref (iw_ad G 0), .int v1, .int v2] z (fX9_settles v1 v2 z) := by
  refine iw_of [(0, .ref (iw_ad G 0)), (1, .int v1), (2, .int v2)] (by decide +kernel) (Nat.le_of_ble_eq_true rfl) rfl ?_
  intro X hC
  unfold fX9_settles
  refine V_aln hC dX9_settles_0 0 rfl ?_
  refine V_gr hC fl_X9_57 (by decide) rfl rfl dX9_settles_1 ?_
  refine V_iln hC dX9_settles_4 1 rfl ?_
  refine V_iln hC dX9_settles_5 2 rfl ?_
  refine V_is_ hC (by decide) rfl dX9_settles_6 ?_
  refine V_aln hC dX9_settles_7 0 rfl ?_
  refine V_gr hC fl_X9_60 (by decide) rfl rfl dX9_settles_8 ?_
  refine V_iln hC dX9_settles_11 1 rfl ?_
  refine V_aln hC dX9_settles_12 0 rfl ?_
  refine V_gi hC fl_X9_138 (by decide) rfl rfl dX9_settles_13 ?_
  refine V_is_ hC (by decide) rfl dX9_settles_16 ?_
  refine V_aln hC dX9_settles_17 0 rfl ?_
  refine V_iln hC dX9_settles_18 1 rfl ?_
  refine V_cvi [] hC cv_X9_178 (by decide) rfl rfl (kX9_delay G _ _) rfl rfl (Nat.le_of_ble_eq_true rfl) ⟨by decide, by decide⟩ dX9_settles_19 ?_
  intro q1
  exact V_ir hC dX9_settles_22 rfl
def fX9_decide_L171 (v1 : Int32) (K : Int32 → iw_M → Option (Int32 × iw_M)) : Nat → Int32 → iw_M → Option (Int32 × iw_M)
  | 0, _, _ => none
  | n + 1, v8, z => (if (z.1 0 2) ≤ v8 then
  K v8 z
  else
  (if iw_ok v8 40 then
  (if iw_ok v1 40 then
  (if (z.1 31 (Int32.toNatClampNeg v8)) = (z.1 31 (Int32.toNatClampNeg v1)) then
  (if iw_ok v8 40 then
  (if (z.1 12 (Int32.toNatClampNeg v8)) = 0 then
  ((fX9_settles v8 (1 : Int32) z).bind (fun q6 =>
  fX9_decide_L171 v1 K n (v8 + (1 : Int32)) q6.2))
  else
  fX9_decide_L171 v1 K n (v8 + (1 : Int32)) z)
  else none)
  else
  fX9_decide_L171 v1 K n (v8 + (1 : Int32)) z)
  else none)
  else none))
def fX9_decide_J154 (v1 : Int32) (v7 : Int32) (z : iw_M) : Option (Int32 × iw_M) :=
  (if v7 = 0 then
  ((fX9_settles v1 (2 : Int32) z).bind (fun q8 =>
  some ((2 : Int32), q8.2)))
  else
  fX9_decide_L171 v1 (fun x8_7 z_7 => some ((1 : Int32), z_7)) iw_fu (0 : Int32) z)
def fX9_decide_J114 (v1 : Int32) (v2 : Int32) (v3 : Int32) (v4 : Int32) (v5 : Int32) (v6 : Int32) (s0 : Int32) (z : iw_M) : Option (Int32 × iw_M) :=
  (if v2 = v3 then
  fX9_decide_J154 v1 s0  z
  else
  ((fX9_nextJudge v1 v5 v6 z).bind (fun q9 =>
  (if q9.1 = (-9 : Int32) then
  fX9_decide_J154 v1 s0  q9.2
  else
  (if iw_ok q9.1 40 then
  (if iw_ok q9.1 40 then
  fX9_decide_J154 v1 v4  (iw_wI q9.2 2 (Int32.toNatClampNeg q9.1) ((q9.2.1 2 (Int32.toNatClampNeg q9.1)) + (1 : Int32)))
  else none)
  else none)))))
def fX9_decide_J113 (v1 : Int32) (v2 : Int32) (v3 : Int32) (v4 : Int32) (v5 : Int32) (v6 : Int32) (z : iw_M) : Option (Int32 × iw_M) :=
  fX9_decide_J114 v1 v2 v3 v4 v5 v6 (0 : Int32) z
def fX9_decide_J54 (v1 : Int32) (v2 : Int32) (v3 : Int32) (v4 : Int32) (v5 : Int32) (s0 : Int32) (z : iw_M) : Option (Int32 × iw_M) :=
  (if iw_ok v1 40 then
  (if (z.1 12 (Int32.toNatClampNeg v1)) = 0 then
  (if s0 = (-9 : Int32) then
  ((fX9_no (-3 : Int32) z).bind (fun q10 =>
  some (q10.1, q10.2)))
  else
  (if iw_ok v5 40 then
  (if iw_ok v5 40 then
  (if iw_ok s0 40 then
  (if iw_ok s0 40 then
  (if v2 = 0 then
  fX9_decide_J113 v1 v2 v3 v4 v5 s0  (iw_wI (iw_wI z 2 (Int32.toNatClampNeg v5) ((z.1 2 (Int32.toNatClampNeg v5)) + (1 : Int32))) 2 (Int32.toNatClampNeg s0) (((iw_wI z 2 (Int32.toNatClampNeg v5) ((z.1 2 (Int32.toNatClampNeg v5)) + (1 : Int32))).1 2 (Int32.toNatClampNeg s0)) + (1 : Int32)))
  else
  (if v3 = 0 then
  fX9_decide_J113 v1 v2 v3 v4 v5 s0  (iw_wI (iw_wI z 2 (Int32.toNatClampNeg v5) ((z.1 2 (Int32.toNatClampNeg v5)) + (1 : Int32))) 2 (Int32.toNatClampNeg s0) (((iw_wI z 2 (Int32.toNatClampNeg v5) ((z.1 2 (Int32.toNatClampNeg v5)) + (1 : Int32))).1 2 (Int32.toNatClampNeg s0)) + (1 : Int32)))
  else
  fX9_decide_J114 v1 v2 v3 v4 v5 s0 (1 : Int32) (iw_wI (iw_wI z 2 (Int32.toNatClampNeg v5) ((z.1 2 (Int32.toNatClampNeg v5)) + (1 : Int32))) 2 (Int32.toNatClampNeg s0) (((iw_wI z 2 (Int32.toNatClampNeg v5) ((z.1 2 (Int32.toNatClampNeg v5)) + (1 : Int32))).1 2 (Int32.toNatClampNeg s0)) + (1 : Int32)))))
  else none)
  else none)
  else none)
  else none))
  else
  ((fX9_no (-3 : Int32) z).bind (fun q5 =>
  some (q5.1, q5.2))))
  else none)
def fX9_decide (v1 : Int32) (v2 : Int32) (v3 : Int32) (v4 : Int32) (z : iw_M) : Option (Int32 × iw_M) :=
  ((fX9_isIdea v1 z).bind (fun q1 =>
  (if q1.1 = 0 then
  ((fX9_no (-1 : Int32) q1.2).bind (fun q11 =>
  some (q11.1, q11.2)))
  else
  ((fX9_families (q1.2.1 0 6) q1.2).bind (fun q2 =>
  ((fX9_nextJudge v1 (-9 : Int32) (-9 : Int32) q2.2).bind (fun q3 =>
  (if q3.1 = (-9 : Int32) then
  fX9_decide_J54 v1 v2 v3 v4 q3.1 (-9 : Int32) q3.2
  else
  ((fX9_nextJudge v1 q3.1 (-9 : Int32) q3.2).bind (fun q4 =>
  fX9_decide_J54 v1 v2 v3 v4 q3.1 q4.1 q4.2))))))))))
abbrev bX9_decide : iw_B := (cX9_decide, 9, { frames := 3, cells := 0, slots := 0, locals := 72 }, yX9_decide.cls, (some .int))
set_option maxRecDepth 100000 in
set_option maxHeartbeats 4000000 in
theorem vX9_decide_L171 {G : iw_G} {X : iw_X} (hC : iw_C G iw_wM X bX9_decide) (v1 : Int32) (K : Int32 → iw_M → Option (Int32 × iw_M)) (hK : ∀ (v8 : Int32) (z : iw_M), iw_V G iw_wM X bX9_decide iw_ei 220 [(0, .ref (iw_ad G 0)), (1, .int v1), (8, .int v8)] [] z (K v8 z)) : ∀ (n : Nat) (v8 : Int32) (z : iw_M), iw_V G iw_wM X bX9_decide iw_ei 171 [(0, .ref (iw_ad G 0)), (1, .int v1), (8, .int v8)] [] z (fX9_decide_L171 v1 K n v8 z) := by
  intro n
  induction n with
  | zero =>
    intro v8 z
    exact V_none
  | succ n ih =>
    intro v8 z
    simp only [fX9_decide_L171]
    refine V_il hC dX9_decide_171 2 rfl ?_
    refine V_aln hC dX9_decide_173 0 rfl ?_
    refine V_gi hC fl_X9_120 (by decide) rfl rfl dX9_decide_174 ?_
    refine V_cge 220 hC dX9_decide_177 (by decide) ?_ ?_
    · exact hK _ _
    · refine V_aln hC dX9_decide_180 0 rfl ?_
      refine V_gr hC fl_X9_114 (by decide) rfl rfl dX9_decide_181 ?_
      refine V_il hC dX9_decide_184 2 rfl ?_
      refine V_ia hC (by decide) rfl dX9_decide_186 ?_
      refine V_aln hC dX9_decide_187 0 rfl ?_
      refine V_gr hC fl_X9_114 (by decide) rfl rfl dX9_decide_188 ?_
      refine V_iln hC dX9_decide_191 1 rfl ?_
      refine V_ia hC (by decide) rfl dX9_decide_192 ?_
      refine V_cne 214 hC dX9_decide_193 (by decide) ?_ ?_
      · refine V_inc (k := 2) (y := 1) [(8, .int _), (0, .ref _), (1, .int _)] hC dX9_decide_214 rfl (by decide) (by decide) rfl ?_
        refine V_goto 171 hC dX9_decide_217 (by decide) ?_
        refine V_sub [(0, .ref _), (1, .int _), (8, .int _)] [1, 2, 0] rfl ?_
        exact ih _ _
      · refine V_aln hC dX9_decide_196 0 rfl ?_
        refine V_gr hC fl_X9_57 (by decide) rfl rfl dX9_decide_197 ?_
        refine V_il hC dX9_decide_200 2 rfl ?_
        refine V_ia hC (by decide) rfl dX9_decide_202 ?_
        refine V_ine 214 hC dX9_decide_203 (by decide) ?_ ?_
        · refine V_inc (k := 2) (y := 1) [(8, .int _), (0, .ref _), (1, .int _)] hC dX9_decide_214 rfl (by decide) (by decide) rfl ?_
          refine V_goto 171 hC dX9_decide_217 (by decide) ?_
          refine V_sub [(0, .ref _), (1, .int _), (8, .int _)] [1, 2, 0] rfl ?_
          exact ih _ _
        · refine V_aln hC dX9_decide_206 0 rfl ?_
          refine V_il hC dX9_decide_207 2 rfl ?_
          refine V_ic (x := 1) hC dX9_decide_209 (by decide) ?_
          refine V_cvi [] hC cv_X9_181 (by decide) rfl rfl (kX9_settles G _ _ _) rfl rfl (Nat.le_of_ble_eq_true rfl) ⟨by decide, by decide⟩ dX9_decide_210 ?_
          intro q6
          refine V_pop hC dX9_decide_213 rfl ?_
          refine V_inc (k := 2) (y := 1) [(8, .int _), (0, .ref _), (1, .int _)] hC dX9_decide_214 rfl (by decide) (by decide) rfl ?_
          refine V_goto 171 hC dX9_decide_217 (by decide) ?_
          refine V_sub [(0, .ref _), (1, .int _), (8, .int _)] [1, 2, 0] rfl ?_
          exact ih _ _
set_option maxRecDepth 100000 in
set_option maxHeartbeats 4000000 in
theorem vX9_decide_J154 {G : iw_G} {X : iw_X} (hC : iw_C G iw_wM X bX9_decide) (v1 : Int32) (v7 : Int32) (z : iw_M) : iw_V G iw_wM X bX9_decide iw_ei 154 [(0, .ref (iw_ad G 0)), (1, .int v1), (7, .int v7)] [] z (fX9_decide_J154 v1 v7 z) := by
  unfold fX9_decide_J154
  refine V_il hC dX9_decide_154 2 rfl ?_
  refine V_ine 168 hC dX9_decide_156 (by decide) ?_ ?_
  · refine V_ic (x := 0) hC dX9_decide_168 (by decide) ?_
    refine V_is [(8, .int _), (0, .ref _), (1, .int _), (7, .int _)] hC dX9_decide_169 (by decide) rfl ?_
    refine V_sub [(0, .ref _), (1, .int _), (8, .int _)] [1, 2, 0] rfl ?_
    refine vX9_decide_L171 hC _ _ ?_ _ _ _
    intro x8_7 z_7
    refine V_ic (x := 1) hC dX9_decide_220 (by decide) ?_
    exact V_ir hC dX9_decide_221 rfl
  · refine V_aln hC dX9_decide_159 0 rfl ?_
    refine V_iln hC dX9_decide_160 1 rfl ?_
    refine V_ic (x := 2) hC dX9_decide_161 (by decide) ?_
    refine V_cvi [] hC cv_X9_181 (by decide) rfl rfl (kX9_settles G _ _ _) rfl rfl (Nat.le_of_ble_eq_true rfl) ⟨by decide, by decide⟩ dX9_decide_162 ?_
    intro q8
    refine V_pop hC dX9_decide_165 rfl ?_
    refine V_ic (x := 2) hC dX9_decide_166 (by decide) ?_
    exact V_ir hC dX9_decide_167 rfl
set_option maxRecDepth 100000 in
set_option maxHeartbeats 4000000 in
theorem vX9_decide_J114 {G : iw_G} {X : iw_X} (hC : iw_C G iw_wM X bX9_decide) (v1 : Int32) (v2 : Int32) (v3 : Int32) (v4 : Int32) (v5 : Int32) (v6 : Int32) (s0 : Int32) (z : iw_M) : iw_V G iw_wM X bX9_decide iw_ei 114 [(0, .ref (iw_ad G 0)), (1, .int v1), (2, .int v2), (3, .int v3), (4, .int v4), (5, .int v5), (6, .int v6)] [.int s0] z (fX9_decide_J114 v1 v2 v3 v4 v5 v6 s0 z) := by
  unfold fX9_decide_J114
  refine V_is [(7, .int _), (0, .ref _), (1, .int _), (2, .int _), (3, .int _), (4, .int _), (5, .int _), (6, .int _)] hC dX9_decide_114 (by decide) rfl ?_
  refine V_iln hC dX9_decide_116 3 rfl ?_
  refine V_iln hC dX9_decide_117 4 rfl ?_
  refine V_ceq 154 hC dX9_decide_118 (by decide) ?_ ?_
  · refine V_sub [(0, .ref _), (1, .int _), (7, .int _)] [1, 2, 0] rfl ?_
    exact vX9_decide_J154 hC _ _  _
  · refine V_aln hC dX9_decide_121 1 rfl ?_
    refine V_iln hC dX9_decide_122 2 rfl ?_
    refine V_il hC dX9_decide_123 6 rfl ?_
    refine V_il hC dX9_decide_125 7 rfl ?_
    refine V_cvi [] hC cv_X9_171 (by decide) rfl rfl (kX9_nextJudge G _ _ _ _) rfl rfl (Nat.le_of_ble_eq_true rfl) ⟨by decide, by decide⟩ dX9_decide_127 ?_
    intro q9
    refine V_is [(8, .int _), (7, .int _), (0, .ref _), (1, .int _), (2, .int _), (3, .int _), (4, .int _), (5, .int _), (6, .int _)] hC dX9_decide_130 (by decide) rfl ?_
    refine V_il hC dX9_decide_132 0 rfl ?_
    refine V_bip (x := -9) hC dX9_decide_134 (by decide) ?_
    refine V_ceq 154 hC dX9_decide_136 (by decide) ?_ ?_
    · refine V_sub [(0, .ref _), (1, .int _), (7, .int _)] [2, 3, 1] rfl ?_
      exact vX9_decide_J154 hC _ _  _
    · refine V_aln hC dX9_decide_139 2 rfl ?_
      refine V_gr hC fl_X9_26 (by decide) rfl rfl dX9_decide_140 ?_
      refine V_il hC dX9_decide_143 0 rfl ?_
      refine V_dup2 hC dX9_decide_145 rfl rfl ?_
      refine V_ia hC (by decide) rfl dX9_decide_146 ?_
      refine V_ic (x := 1) hC dX9_decide_147 (by decide) ?_
      refine V_iadd hC dX9_decide_148 ?_
      refine V_is_ hC (by decide) rfl dX9_decide_149 ?_
      refine V_il hC dX9_decide_150 6 rfl ?_
      refine V_is [(7, .int _), (8, .int _), (0, .ref _), (1, .int _), (2, .int _), (3, .int _), (4, .int _), (5, .int _), (6, .int _)] hC dX9_decide_152 (by decide) rfl ?_
      refine V_sub [(0, .ref _), (1, .int _), (7, .int _)] [2, 3, 0] rfl ?_
      exact vX9_decide_J154 hC _ _  _
set_option maxRecDepth 100000 in
set_option maxHeartbeats 4000000 in
theorem vX9_decide_J113 {G : iw_G} {X : iw_X} (hC : iw_C G iw_wM X bX9_decide) (v1 : Int32) (v2 : Int32) (v3 : Int32) (v4 : Int32) (v5 : Int32) (v6 : Int32) (z : iw_M) : iw_V G iw_wM X bX9_decide iw_ei 113 [(0, .ref (iw_ad G 0)), (1, .int v1), (2, .int v2), (3, .int v3), (4, .int v4), (5, .int v5), (6, .int v6)] [] z (fX9_decide_J113 v1 v2 v3 v4 v5 v6 z) := by
  unfold fX9_decide_J113
  refine V_ic (x := 0) hC dX9_decide_113 (by decide) ?_
  exact vX9_decide_J114 hC _ _ _ _ _ _ _ _
set_option maxRecDepth 100000 in
set_option maxHeartbeats 4000000 in
theorem vX9_decide_J54 {G : iw_G} {X : iw_X} (hC : iw_C G iw_wM X bX9_decide) (v1 : Int32) (v2 : Int32) (v3 : Int32) (v4 : Int32) (v5 : Int32) (s0 : Int32) (z : iw_M) : iw_V G iw_wM X bX9_decide iw_ei 54 [(0, .ref (iw_ad G 0)), (1, .int v1), (2, .int v2), (3, .int v3), (4, .int v4), (5, .int v5)] [.int s0] z (fX9_decide_J54 v1 v2 v3 v4 v5 s0 z) := by
  unfold fX9_decide_J54
  refine V_is [(6, .int _), (0, .ref _), (1, .int _), (2, .int _), (3, .int _), (4, .int _), (5, .int _)] hC dX9_decide_54 (by decide) rfl ?_
  refine V_aln hC dX9_decide_56 1 rfl ?_
  refine V_gr hC fl_X9_57 (by decide) rfl rfl dX9_decide_57 ?_
  refine V_iln hC dX9_decide_60 2 rfl ?_
  refine V_ia hC (by decide) rfl dX9_decide_61 ?_
  refine V_ine 72 hC dX9_decide_62 (by decide) ?_ ?_
  · refine V_aln hC dX9_decide_72 1 rfl ?_
    refine V_bip (x := -3) hC dX9_decide_73 (by decide) ?_
    refine V_cvi [] hC cv_X9_128 (by decide) rfl rfl (kX9_no G _ _) rfl rfl (Nat.le_of_ble_eq_true rfl) ⟨by decide, by decide⟩ dX9_decide_75 ?_
    intro q5
    exact V_ir hC dX9_decide_78 rfl
  · refine V_il hC dX9_decide_65 0 rfl ?_
    refine V_bip (x := -9) hC dX9_decide_67 (by decide) ?_
    refine V_cne 79 hC dX9_decide_69 (by decide) ?_ ?_
    · refine V_aln hC dX9_decide_79 1 rfl ?_
      refine V_gr hC fl_X9_26 (by decide) rfl rfl dX9_decide_80 ?_
      refine V_il hC dX9_decide_83 6 rfl ?_
      refine V_dup2 hC dX9_decide_85 rfl rfl ?_
      refine V_ia hC (by decide) rfl dX9_decide_86 ?_
      refine V_ic (x := 1) hC dX9_decide_87 (by decide) ?_
      refine V_iadd hC dX9_decide_88 ?_
      refine V_is_ hC (by decide) rfl dX9_decide_89 ?_
      refine V_aln hC dX9_decide_90 1 rfl ?_
      refine V_gr hC fl_X9_26 (by decide) rfl rfl dX9_decide_91 ?_
      refine V_il hC dX9_decide_94 0 rfl ?_
      refine V_dup2 hC dX9_decide_96 rfl rfl ?_
      refine V_ia hC (by decide) rfl dX9_decide_97 ?_
      refine V_ic (x := 1) hC dX9_decide_98 (by decide) ?_
      refine V_iadd hC dX9_decide_99 ?_
      refine V_is_ hC (by decide) rfl dX9_decide_100 ?_
      refine V_iln hC dX9_decide_101 3 rfl ?_
      refine V_ieq 113 hC dX9_decide_102 (by decide) ?_ ?_
      · refine V_sub [(0, .ref _), (1, .int _), (2, .int _), (3, .int _), (4, .int _), (5, .int _), (6, .int _)] [1, 2, 3, 4, 5, 6, 0] rfl ?_
        exact vX9_decide_J113 hC _ _ _ _ _ _  _
      · refine V_iln hC dX9_decide_105 4 rfl ?_
        refine V_ieq 113 hC dX9_decide_106 (by decide) ?_ ?_
        · refine V_sub [(0, .ref _), (1, .int _), (2, .int _), (3, .int _), (4, .int _), (5, .int _), (6, .int _)] [1, 2, 3, 4, 5, 6, 0] rfl ?_
          exact vX9_decide_J113 hC _ _ _ _ _ _  _
        · refine V_ic (x := 1) hC dX9_decide_109 (by decide) ?_
          refine V_goto 114 hC dX9_decide_110 (by decide) ?_
          refine V_sub [(0, .ref _), (1, .int _), (2, .int _), (3, .int _), (4, .int _), (5, .int _), (6, .int _)] [1, 2, 3, 4, 5, 6, 0] rfl ?_
          exact vX9_decide_J114 hC _ _ _ _ _ _ _ _
    · refine V_aln hC dX9_decide_72 1 rfl ?_
      refine V_bip (x := -3) hC dX9_decide_73 (by decide) ?_
      refine V_cvi [] hC cv_X9_128 (by decide) rfl rfl (kX9_no G _ _) rfl rfl (Nat.le_of_ble_eq_true rfl) ⟨by decide, by decide⟩ dX9_decide_75 ?_
      intro q10
      exact V_ir hC dX9_decide_78 rfl
set_option maxRecDepth 100000 in
set_option maxHeartbeats 4000000 in
theorem kX9_decide (G : iw_G) (v1 : Int32) (v2 : Int32) (v3 : Int32) (v4 : Int32) (z : iw_M) : iw_K G iw_wM yX9_decide cX9_decide 9 (some .int) 3 72 iw_ei [.ref (iw_ad G 0), .int v1, .int v2, .int v3, .int v4] z (fX9_decide v1 v2 v3 v4 z) := by
  refine iw_of [(0, .ref (iw_ad G 0)), (1, .int v1), (2, .int v2), (3, .int v3), (4, .int v4)] (by decide +kernel) (Nat.le_of_ble_eq_true rfl) rfl ?_
  intro X hC
  unfold fX9_decide
  refine V_aln hC dX9_decide_0 0 rfl ?_
  refine V_iln hC dX9_decide_1 1 rfl ?_
  refine V_cvi [] hC cv_X9_141 (by decide) rfl rfl (kX9_isIdea G _ _) rfl rfl (Nat.le_of_ble_eq_true rfl) ⟨by decide, by decide⟩ dX9_decide_2 ?_
  intro q1
  refine V_ine 14 hC dX9_decide_5 (by decide) ?_ ?_
  · refine V_aln hC dX9_decide_14 0 rfl ?_
    refine V_aln hC dX9_decide_15 0 rfl ?_
    refine V_gi hC fl_X9_7 (by decide) rfl rfl dX9_decide_16 ?_
    refine V_cvv [] hC cv_X9_155 (by decide) rfl rfl (kX9_families G _ _) rfl rfl (Nat.le_of_ble_eq_true rfl) ⟨by decide, by decide⟩ dX9_decide_19 ?_
    intro q2
    refine V_aln hC dX9_decide_22 0 rfl ?_
    refine V_iln hC dX9_decide_23 1 rfl ?_
    refine V_bip (x := -9) hC dX9_decide_24 (by decide) ?_
    refine V_bip (x := -9) hC dX9_decide_26 (by decide) ?_
    refine V_cvi [] hC cv_X9_171 (by decide) rfl rfl (kX9_nextJudge G _ _ _ _) rfl rfl (Nat.le_of_ble_eq_true rfl) ⟨by decide, by decide⟩ dX9_decide_28 ?_
    intro q3
    refine V_is [(5, .int _), (0, .ref _), (1, .int _), (2, .int _), (3, .int _), (4, .int _)] hC dX9_decide_31 (by decide) rfl ?_
    refine V_il hC dX9_decide_33 0 rfl ?_
    refine V_bip (x := -9) hC dX9_decide_35 (by decide) ?_
    refine V_cne 45 hC dX9_decide_37 (by decide) ?_ ?_
    · refine V_aln hC dX9_decide_45 1 rfl ?_
      refine V_iln hC dX9_decide_46 2 rfl ?_
      refine V_il hC dX9_decide_47 0 rfl ?_
      refine V_bip (x := -9) hC dX9_decide_49 (by decide) ?_
      refine V_cvi [] hC cv_X9_171 (by decide) rfl rfl (kX9_nextJudge G _ _ _ _) rfl rfl (Nat.le_of_ble_eq_true rfl) ⟨by decide, by decide⟩ dX9_decide_51 ?_
      intro q4
      refine V_sub [(0, .ref _), (1, .int _), (2, .int _), (3, .int _), (4, .int _), (5, .int _)] [1, 2, 3, 4, 5, 0] rfl ?_
      exact vX9_decide_J54 hC _ _ _ _ _ _ _
    · refine V_bip (x := -9) hC dX9_decide_40 (by decide) ?_
      refine V_goto 54 hC dX9_decide_42 (by decide) ?_
      refine V_sub [(0, .ref _), (1, .int _), (2, .int _), (3, .int _), (4, .int _), (5, .int _)] [1, 2, 3, 4, 5, 0] rfl ?_
      exact vX9_decide_J54 hC _ _ _ _ _ _ _
  · refine V_aln hC dX9_decide_8 0 rfl ?_
    refine V_ic (x := -1) hC dX9_decide_9 (by decide) ?_
    refine V_cvi [] hC cv_X9_128 (by decide) rfl rfl (kX9_no G _ _) rfl rfl (Nat.le_of_ble_eq_true rfl) ⟨by decide, by decide⟩ dX9_decide_10 ?_
    intro q11
    exact V_ir hC dX9_decide_13 rfl
def fX9_bench_J84 (v1 : Int32) (v2 : Int32) (v3 : Int32) (s0 : Int32) (z : iw_M) : Option (Int32 × iw_M) :=
  (if v2 = 0 then
  (if iw_ok v1 10 then
  some (s0, (iw_wI z 19 (Int32.toNatClampNeg v1) v3))
  else none)
  else
  (if iw_ok v1 10 then
  some (s0, (iw_wI z 20 (Int32.toNatClampNeg v1) v3))
  else none))
def fX9_bench_J24 (v1 : Int32) (v2 : Int32) (v3 : Int32) (z : iw_M) : Option (Int32 × iw_M) :=
  (if v2 < 0 then
  ((fX9_no (-2 : Int32) z).bind (fun q3 =>
  some (q3.1, q3.2)))
  else
  (if v2 ≤ (1 : Int32) then
  (if 0 ≤ v3 then
  (if v3 ≤ (10000 : Int32) then
  (if v2 = 0 then
  (if iw_ok v1 10 then
  fX9_bench_J84 v1 v2 v3 (z.1 19 (Int32.toNatClampNeg v1)) z
  else none)
  else
  (if iw_ok v1 10 then
  fX9_bench_J84 v1 v2 v3 (z.1 20 (Int32.toNatClampNeg v1)) z
  else none))
  else
  ((fX9_no (-6 : Int32) z).bind (fun q4 =>
  some (q4.1, q4.2))))
  else
  ((fX9_no (-4 : Int32) z).bind (fun q5 =>
  some (q5.1, q5.2))))
  else
  ((fX9_no (-2 : Int32) z).bind (fun q6 =>
  some (q6.1, q6.2)))))
def fX9_bench (v1 : Int32) (v2 : Int32) (v3 : Int32) (z : iw_M) : Option (Int32 × iw_M) :=
  ((fX9_isBench v1 z).bind (fun q1 =>
  (if q1.1 = 0 then
  ((fX9_no (-1 : Int32) q1.2).bind (fun q2 =>
  some (q2.1, q2.2)))
  else
  (if v2 = 0 then
  ((fX9_isShop v3 q1.2).bind (fun q7 =>
  (if q7.1 = 0 then
  ((fX9_no (-1 : Int32) q7.2).bind (fun q8 =>
  some (q8.1, q8.2)))
  else
  fX9_bench_J24 v1 v2 v3  q7.2)))
  else
  fX9_bench_J24 v1 v2 v3  q1.2))))
abbrev bX9_bench : iw_B := (cX9_bench, 5, { frames := 1, cells := 0, slots := 0, locals := 21 }, yX9_bench.cls, (some .int))
set_option maxRecDepth 100000 in
set_option maxHeartbeats 4000000 in
theorem vX9_bench_J84 {G : iw_G} {X : iw_X} (hC : iw_C G iw_wM X bX9_bench) (v1 : Int32) (v2 : Int32) (v3 : Int32) (s0 : Int32) (z : iw_M) : iw_V G iw_wM X bX9_bench iw_ei 84 [(0, .ref (iw_ad G 0)), (1, .int v1), (2, .int v2), (3, .int v3)] [.int s0] z (fX9_bench_J84 v1 v2 v3 s0 z) := by
  unfold fX9_bench_J84
  refine V_is [(4, .int _), (0, .ref _), (1, .int _), (2, .int _), (3, .int _)] hC dX9_bench_84 (by decide) rfl ?_
  refine V_iln hC dX9_bench_86 3 rfl ?_
  refine V_ine 100 hC dX9_bench_87 (by decide) ?_ ?_
  · refine V_aln hC dX9_bench_100 1 rfl ?_
    refine V_gr hC fl_X9_81 (by decide) rfl rfl dX9_bench_101 ?_
    refine V_iln hC dX9_bench_104 2 rfl ?_
    refine V_iln hC dX9_bench_105 4 rfl ?_
    refine V_is_ hC (by decide) rfl dX9_bench_106 ?_
    refine V_il hC dX9_bench_107 0 rfl ?_
    exact V_ir hC dX9_bench_109 rfl
  · refine V_aln hC dX9_bench_90 1 rfl ?_
    refine V_gr hC fl_X9_78 (by decide) rfl rfl dX9_bench_91 ?_
    refine V_iln hC dX9_bench_94 2 rfl ?_
    refine V_iln hC dX9_bench_95 4 rfl ?_
    refine V_is_ hC (by decide) rfl dX9_bench_96 ?_
    refine V_goto 107 hC dX9_bench_97 (by decide) ?_
    refine V_il hC dX9_bench_107 0 rfl ?_
    exact V_ir hC dX9_bench_109 rfl
set_option maxRecDepth 100000 in
set_option maxHeartbeats 4000000 in
theorem vX9_bench_J24 {G : iw_G} {X : iw_X} (hC : iw_C G iw_wM X bX9_bench) (v1 : Int32) (v2 : Int32) (v3 : Int32) (z : iw_M) : iw_V G iw_wM X bX9_bench iw_ei 24 [(0, .ref (iw_ad G 0)), (1, .int v1), (2, .int v2), (3, .int v3)] [] z (fX9_bench_J24 v1 v2 v3 z) := by
  unfold fX9_bench_J24
  refine V_iln hC dX9_bench_24 2 rfl ?_
  refine V_ilt 33 hC dX9_bench_25 (by decide) ?_ ?_
  · refine V_aln hC dX9_bench_33 0 rfl ?_
    refine V_bip (x := -2) hC dX9_bench_34 (by decide) ?_
    refine V_cvi [] hC cv_X9_128 (by decide) rfl rfl (kX9_no G _ _) rfl rfl (Nat.le_of_ble_eq_true rfl) ⟨by decide, by decide⟩ dX9_bench_36 ?_
    intro q3
    exact V_ir hC dX9_bench_39 rfl
  · refine V_iln hC dX9_bench_28 2 rfl ?_
    refine V_ic (x := 1) hC dX9_bench_29 (by decide) ?_
    refine V_cle 40 hC dX9_bench_30 (by decide) ?_ ?_
    · refine V_iln hC dX9_bench_40 3 rfl ?_
      refine V_ige 51 hC dX9_bench_41 (by decide) ?_ ?_
      · refine V_iln hC dX9_bench_51 3 rfl ?_
        refine V_sip (x := 10000) hC dX9_bench_52 (by decide) ?_
        refine V_cle 65 hC dX9_bench_55 (by decide) ?_ ?_
        · refine V_iln hC dX9_bench_65 2 rfl ?_
          refine V_ine 78 hC dX9_bench_66 (by decide) ?_ ?_
          · refine V_aln hC dX9_bench_78 0 rfl ?_
            refine V_gr hC fl_X9_81 (by decide) rfl rfl dX9_bench_79 ?_
            refine V_iln hC dX9_bench_82 1 rfl ?_
            refine V_ia hC (by decide) rfl dX9_bench_83 ?_
            exact vX9_bench_J84 hC _ _ _ _ _
          · refine V_aln hC dX9_bench_69 0 rfl ?_
            refine V_gr hC fl_X9_78 (by decide) rfl rfl dX9_bench_70 ?_
            refine V_iln hC dX9_bench_73 1 rfl ?_
            refine V_ia hC (by decide) rfl dX9_bench_74 ?_
            refine V_goto 84 hC dX9_bench_75 (by decide) ?_
            exact vX9_bench_J84 hC _ _ _ _ _
        · refine V_aln hC dX9_bench_58 0 rfl ?_
          refine V_bip (x := -6) hC dX9_bench_59 (by decide) ?_
          refine V_cvi [] hC cv_X9_128 (by decide) rfl rfl (kX9_no G _ _) rfl rfl (Nat.le_of_ble_eq_true rfl) ⟨by decide, by decide⟩ dX9_bench_61 ?_
          intro q4
          exact V_ir hC dX9_bench_64 rfl
      · refine V_aln hC dX9_bench_44 0 rfl ?_
        refine V_bip (x := -4) hC dX9_bench_45 (by decide) ?_
        refine V_cvi [] hC cv_X9_128 (by decide) rfl rfl (kX9_no G _ _) rfl rfl (Nat.le_of_ble_eq_true rfl) ⟨by decide, by decide⟩ dX9_bench_47 ?_
        intro q5
        exact V_ir hC dX9_bench_50 rfl
    · refine V_aln hC dX9_bench_33 0 rfl ?_
      refine V_bip (x := -2) hC dX9_bench_34 (by decide) ?_
      refine V_cvi [] hC cv_X9_128 (by decide) rfl rfl (kX9_no G _ _) rfl rfl (Nat.le_of_ble_eq_true rfl) ⟨by decide, by decide⟩ dX9_bench_36 ?_
      intro q6
      exact V_ir hC dX9_bench_39 rfl
set_option maxRecDepth 100000 in
set_option maxHeartbeats 4000000 in
theorem kX9_bench (G : iw_G) (v1 : Int32) (v2 : Int32) (v3 : Int32) (z : iw_M) : iw_K G iw_wM yX9_bench cX9_bench 5 (some .int) 1 21 iw_ei [.ref (iw_ad G 0), .int v1, .int v2, .int v3] z (fX9_bench v1 v2 v3 z) := by
  refine iw_of [(0, .ref (iw_ad G 0)), (1, .int v1), (2, .int v2), (3, .int v3)] (by decide +kernel) (Nat.le_of_ble_eq_true rfl) rfl ?_
  intro X hC
  unfold fX9_bench
  refine V_iln hC dX9_bench_0 1 rfl ?_
  refine V_csi [] hC cs_X9_184 (kX9_isBench G _ _) rfl rfl (Nat.le_of_ble_eq_true rfl) ⟨by decide, by decide⟩ dX9_bench_1 ?_
  intro q1
  refine V_ieq 18 hC dX9_bench_4 (by decide) ?_ ?_
  · refine V_aln hC dX9_bench_18 0 rfl ?_
    refine V_ic (x := -1) hC dX9_bench_19 (by decide) ?_
    refine V_cvi [] hC cv_X9_128 (by decide) rfl rfl (kX9_no G _ _) rfl rfl (Nat.le_of_ble_eq_true rfl) ⟨by decide, by decide⟩ dX9_bench_20 ?_
    intro q2
    exact V_ir hC dX9_bench_23 rfl
  · refine V_iln hC dX9_bench_7 2 rfl ?_
    refine V_ine 24 hC dX9_bench_8 (by decide) ?_ ?_
    · exact vX9_bench_J24 hC _ _ _  _
    · refine V_iln hC dX9_bench_11 3 rfl ?_
      refine V_csi [] hC cs_X9_124 (kX9_isShop G _ _) rfl rfl (Nat.le_of_ble_eq_true rfl) ⟨by decide, by decide⟩ dX9_bench_12 ?_
      intro q7
      refine V_ine 24 hC dX9_bench_15 (by decide) ?_ ?_
      · exact vX9_bench_J24 hC _ _ _  _
      · refine V_aln hC dX9_bench_18 0 rfl ?_
        refine V_ic (x := -1) hC dX9_bench_19 (by decide) ?_
        refine V_cvi [] hC cv_X9_128 (by decide) rfl rfl (kX9_no G _ _) rfl rfl (Nat.le_of_ble_eq_true rfl) ⟨by decide, by decide⟩ dX9_bench_20 ?_
        intro q8
        exact V_ir hC dX9_bench_23 rfl
def fX9_measure (v1 : Int32) (v2 : Int32) (v3 : Int32) (v4 : Int32) (z : iw_M) : Option (Int32 × iw_M) :=
  ((fX9_isBench v1 z).bind (fun q1 =>
  (if q1.1 = 0 then
  ((fX9_no (-1 : Int32) q1.2).bind (fun q2 =>
  some (q2.1, q2.2)))
  else
  ((fX9_isIdea v2 q1.2).bind (fun q3 =>
  (if q3.1 = 0 then
  ((fX9_no (-1 : Int32) q3.2).bind (fun q8 =>
  some (q8.1, q8.2)))
  else
  (if iw_ok v2 40 then
  (if iw_ok v1 10 then
  (if (q3.2.1 8 (Int32.toNatClampNeg v2)) = (q3.2.1 19 (Int32.toNatClampNeg v1)) then
  (if 0 ≤ v4 then
  (if (9999 : Int32) < v4 then
  ((fX9_no (-6 : Int32) q3.2).bind (fun q4 =>
  some (q4.1, q4.2)))
  else
  (if (q3.2.1 0 3) = (200 : Int32) then
  ((fX9_no (-6 : Int32) q3.2).bind (fun q5 =>
  some (q5.1, q5.2)))
  else
  (if iw_ok (q3.2.1 0 3) 200 then
  (if iw_ok ((iw_wI q3.2 21 (Int32.toNatClampNeg (q3.2.1 0 3)) v1).1 0 3) 200 then
  (if iw_ok ((iw_wI (iw_wI q3.2 21 (Int32.toNatClampNeg (q3.2.1 0 3)) v1) 22 (Int32.toNatClampNeg ((iw_wI q3.2 21 (Int32.toNatClampNeg (q3.2.1 0 3)) v1).1 0 3)) v2).1 0 3) 200 then
  (if iw_ok ((iw_wI (iw_wI (iw_wI q3.2 21 (Int32.toNatClampNeg (q3.2.1 0 3)) v1) 22 (Int32.toNatClampNeg ((iw_wI q3.2 21 (Int32.toNatClampNeg (q3.2.1 0 3)) v1).1 0 3)) v2) 24 (Int32.toNatClampNeg ((iw_wI (iw_wI q3.2 21 (Int32.toNatClampNeg (q3.2.1 0 3)) v1) 22 (Int32.toNatClampNeg ((iw_wI q3.2 21 (Int32.toNatClampNeg (q3.2.1 0 3)) v1).1 0 3)) v2).1 0 3)) (vp_nar .boolean v3)).1 0 3) 200 then
  some ((((iw_wI (iw_wI (iw_wI (iw_wI q3.2 21 (Int32.toNatClampNeg (q3.2.1 0 3)) v1) 22 (Int32.toNatClampNeg ((iw_wI q3.2 21 (Int32.toNatClampNeg (q3.2.1 0 3)) v1).1 0 3)) v2) 24 (Int32.toNatClampNeg ((iw_wI (iw_wI q3.2 21 (Int32.toNatClampNeg (q3.2.1 0 3)) v1) 22 (Int32.toNatClampNeg ((iw_wI q3.2 21 (Int32.toNatClampNeg (q3.2.1 0 3)) v1).1 0 3)) v2).1 0 3)) (vp_nar .boolean v3)) 23 (Int32.toNatClampNeg ((iw_wI (iw_wI (iw_wI q3.2 21 (Int32.toNatClampNeg (q3.2.1 0 3)) v1) 22 (Int32.toNatClampNeg ((iw_wI q3.2 21 (Int32.toNatClampNeg (q3.2.1 0 3)) v1).1 0 3)) v2) 24 (Int32.toNatClampNeg ((iw_wI (iw_wI q3.2 21 (Int32.toNatClampNeg (q3.2.1 0 3)) v1) 22 (Int32.toNatClampNeg ((iw_wI q3.2 21 (Int32.toNatClampNeg (q3.2.1 0 3)) v1).1 0 3)) v2).1 0 3)) (vp_nar .boolean v3)).1 0 3)) v4).1 0 3) + (1 : Int32)), (iw_wI (iw_wI (iw_wI (iw_wI (iw_wI q3.2 21 (Int32.toNatClampNeg (q3.2.1 0 3)) v1) 22 (Int32.toNatClampNeg ((iw_wI q3.2 21 (Int32.toNatClampNeg (q3.2.1 0 3)) v1).1 0 3)) v2) 24 (Int32.toNatClampNeg ((iw_wI (iw_wI q3.2 21 (Int32.toNatClampNeg (q3.2.1 0 3)) v1) 22 (Int32.toNatClampNeg ((iw_wI q3.2 21 (Int32.toNatClampNeg (q3.2.1 0 3)) v1).1 0 3)) v2).1 0 3)) (vp_nar .boolean v3)) 23 (Int32.toNatClampNeg ((iw_wI (iw_wI (iw_wI q3.2 21 (Int32.toNatClampNeg (q3.2.1 0 3)) v1) 22 (Int32.toNatClampNeg ((iw_wI q3.2 21 (Int32.toNatClampNeg (q3.2.1 0 3)) v1).1 0 3)) v2) 24 (Int32.toNatClampNeg ((iw_wI (iw_wI q3.2 21 (Int32.toNatClampNeg (q3.2.1 0 3)) v1) 22 (Int32.toNatClampNeg ((iw_wI q3.2 21 (Int32.toNatClampNeg (q3.2.1 0 3)) v1).1 0 3)) v2).1 0 3)) (vp_nar .boolean v3)).1 0 3)) v4) 0 3 (((iw_wI (iw_wI (iw_wI (iw_wI q3.2 21 (Int32.toNatClampNeg (q3.2.1 0 3)) v1) 22 (Int32.toNatClampNeg ((iw_wI q3.2 21 (Int32.toNatClampNeg (q3.2.1 0 3)) v1).1 0 3)) v2) 24 (Int32.toNatClampNeg ((iw_wI (iw_wI q3.2 21 (Int32.toNatClampNeg (q3.2.1 0 3)) v1) 22 (Int32.toNatClampNeg ((iw_wI q3.2 21 (Int32.toNatClampNeg (q3.2.1 0 3)) v1).1 0 3)) v2).1 0 3)) (vp_nar .boolean v3)) 23 (Int32.toNatClampNeg ((iw_wI (iw_wI (iw_wI q3.2 21 (Int32.toNatClampNeg (q3.2.1 0 3)) v1) 22 (Int32.toNatClampNeg ((iw_wI q3.2 21 (Int32.toNatClampNeg (q3.2.1 0 3)) v1).1 0 3)) v2) 24 (Int32.toNatClampNeg ((iw_wI (iw_wI q3.2 21 (Int32.toNatClampNeg (q3.2.1 0 3)) v1) 22 (Int32.toNatClampNeg ((iw_wI q3.2 21 (Int32.toNatClampNeg (q3.2.1 0 3)) v1).1 0 3)) v2).1 0 3)) (vp_nar .boolean v3)).1 0 3)) v4).1 0 3) + (1 : Int32))))
  else none)
  else none)
  else none)
  else none)))
  else
  ((fX9_no (-4 : Int32) q3.2).bind (fun q6 =>
  some (q6.1, q6.2))))
  else
  ((fX9_no (-3 : Int32) q3.2).bind (fun q7 =>
  some (q7.1, q7.2))))
  else none)
  else none)))))))
abbrev bX9_measure : iw_B := (cX9_measure, 5, { frames := 1, cells := 0, slots := 0, locals := 21 }, yX9_measure.cls, (some .int))
set_option maxRecDepth 100000 in
set_option maxHeartbeats 4000000 in
theorem kX9_measure (G : iw_G) (v1 : Int32) (v2 : Int32) (v3 : Int32) (v4 : Int32) (z : iw_M) : iw_K G iw_wM yX9_measure cX9_measure 5 (some .int) 1 21 iw_ei [.ref (iw_ad G 0), .int v1, .int v2, .int v3, .int v4] z (fX9_measure v1 v2 v3 v4 z) := by
  refine iw_of [(0, .ref (iw_ad G 0)), (1, .int v1), (2, .int v2), (3, .int v3), (4, .int v4)] (by decide +kernel) (Nat.le_of_ble_eq_true rfl) rfl ?_
  intro X hC
  unfold fX9_measure
  refine V_iln hC dX9_measure_0 1 rfl ?_
  refine V_csi [] hC cs_X9_184 (kX9_isBench G _ _) rfl rfl (Nat.le_of_ble_eq_true rfl) ⟨by decide, by decide⟩ dX9_measure_1 ?_
  intro q1
  refine V_ieq 15 hC dX9_measure_4 (by decide) ?_ ?_
  · refine V_aln hC dX9_measure_15 0 rfl ?_
    refine V_ic (x := -1) hC dX9_measure_16 (by decide) ?_
    refine V_cvi [] hC cv_X9_128 (by decide) rfl rfl (kX9_no G _ _) rfl rfl (Nat.le_of_ble_eq_true rfl) ⟨by decide, by decide⟩ dX9_measure_17 ?_
    intro q2
    exact V_ir hC dX9_measure_20 rfl
  · refine V_aln hC dX9_measure_7 0 rfl ?_
    refine V_iln hC dX9_measure_8 2 rfl ?_
    refine V_cvi [] hC cv_X9_141 (by decide) rfl rfl (kX9_isIdea G _ _) rfl rfl (Nat.le_of_ble_eq_true rfl) ⟨by decide, by decide⟩ dX9_measure_9 ?_
    intro q3
    refine V_ine 21 hC dX9_measure_12 (by decide) ?_ ?_
    · refine V_aln hC dX9_measure_21 0 rfl ?_
      refine V_gr hC fl_X9_45 (by decide) rfl rfl dX9_measure_22 ?_
      refine V_iln hC dX9_measure_25 2 rfl ?_
      refine V_ia hC (by decide) rfl dX9_measure_26 ?_
      refine V_aln hC dX9_measure_27 0 rfl ?_
      refine V_gr hC fl_X9_78 (by decide) rfl rfl dX9_measure_28 ?_
      refine V_iln hC dX9_measure_31 1 rfl ?_
      refine V_ia hC (by decide) rfl dX9_measure_32 ?_
      refine V_ceq 43 hC dX9_measure_33 (by decide) ?_ ?_
      · refine V_il hC dX9_measure_43 4 rfl ?_
        refine V_ige 55 hC dX9_measure_45 (by decide) ?_ ?_
        · refine V_il hC dX9_measure_55 4 rfl ?_
          refine V_sip (x := 9999) hC dX9_measure_57 (by decide) ?_
          refine V_cgt 73 hC dX9_measure_60 (by decide) ?_ ?_
          · refine V_aln hC dX9_measure_73 0 rfl ?_
            refine V_bip (x := -6) hC dX9_measure_74 (by decide) ?_
            refine V_cvi [] hC cv_X9_128 (by decide) rfl rfl (kX9_no G _ _) rfl rfl (Nat.le_of_ble_eq_true rfl) ⟨by decide, by decide⟩ dX9_measure_76 ?_
            intro q4
            exact V_ir hC dX9_measure_79 rfl
          · refine V_aln hC dX9_measure_63 0 rfl ?_
            refine V_gi hC fl_X9_187 (by decide) rfl rfl dX9_measure_64 ?_
            refine V_sip (x := 200) hC dX9_measure_67 (by decide) ?_
            refine V_cne 80 hC dX9_measure_70 (by decide) ?_ ?_
            · refine V_aln hC dX9_measure_80 0 rfl ?_
              refine V_gr hC fl_X9_84 (by decide) rfl rfl dX9_measure_81 ?_
              refine V_aln hC dX9_measure_84 0 rfl ?_
              refine V_gi hC fl_X9_187 (by decide) rfl rfl dX9_measure_85 ?_
              refine V_iln hC dX9_measure_88 1 rfl ?_
              refine V_is_ hC (by decide) rfl dX9_measure_89 ?_
              refine V_aln hC dX9_measure_90 0 rfl ?_
              refine V_gr hC fl_X9_87 (by decide) rfl rfl dX9_measure_91 ?_
              refine V_aln hC dX9_measure_94 0 rfl ?_
              refine V_gi hC fl_X9_187 (by decide) rfl rfl dX9_measure_95 ?_
              refine V_iln hC dX9_measure_98 2 rfl ?_
              refine V_is_ hC (by decide) rfl dX9_measure_99 ?_
              refine V_aln hC dX9_measure_100 0 rfl ?_
              refine V_gr hC fl_X9_93 (by decide) rfl rfl dX9_measure_101 ?_
              refine V_aln hC dX9_measure_104 0 rfl ?_
              refine V_gi hC fl_X9_187 (by decide) rfl rfl dX9_measure_105 ?_
              refine V_iln hC dX9_measure_108 3 rfl ?_
              refine V_bs_ hC (by decide) rfl dX9_measure_109 ?_
              refine V_aln hC dX9_measure_110 0 rfl ?_
              refine V_gr hC fl_X9_90 (by decide) rfl rfl dX9_measure_111 ?_
              refine V_aln hC dX9_measure_114 0 rfl ?_
              refine V_gi hC fl_X9_187 (by decide) rfl rfl dX9_measure_115 ?_
              refine V_il hC dX9_measure_118 4 rfl ?_
              refine V_is_ hC (by decide) rfl dX9_measure_120 ?_
              refine V_aln hC dX9_measure_121 0 rfl ?_
              refine V_dup hC dX9_measure_122 rfl ?_
              refine V_gi hC fl_X9_187 (by decide) rfl rfl dX9_measure_123 ?_
              refine V_ic (x := 1) hC dX9_measure_126 (by decide) ?_
              refine V_iadd hC dX9_measure_127 ?_
              refine V_dupx1 hC dX9_measure_128 rfl rfl ?_
              refine V_pi hC fp_X9_187 (by decide) rfl rfl dX9_measure_129 ?_
              exact V_ir hC dX9_measure_132 rfl
            · refine V_aln hC dX9_measure_73 0 rfl ?_
              refine V_bip (x := -6) hC dX9_measure_74 (by decide) ?_
              refine V_cvi [] hC cv_X9_128 (by decide) rfl rfl (kX9_no G _ _) rfl rfl (Nat.le_of_ble_eq_true rfl) ⟨by decide, by decide⟩ dX9_measure_76 ?_
              intro q5
              exact V_ir hC dX9_measure_79 rfl
        · refine V_aln hC dX9_measure_48 0 rfl ?_
          refine V_bip (x := -4) hC dX9_measure_49 (by decide) ?_
          refine V_cvi [] hC cv_X9_128 (by decide) rfl rfl (kX9_no G _ _) rfl rfl (Nat.le_of_ble_eq_true rfl) ⟨by decide, by decide⟩ dX9_measure_51 ?_
          intro q6
          exact V_ir hC dX9_measure_54 rfl
      · refine V_aln hC dX9_measure_36 0 rfl ?_
        refine V_bip (x := -3) hC dX9_measure_37 (by decide) ?_
        refine V_cvi [] hC cv_X9_128 (by decide) rfl rfl (kX9_no G _ _) rfl rfl (Nat.le_of_ble_eq_true rfl) ⟨by decide, by decide⟩ dX9_measure_39 ?_
        intro q7
        exact V_ir hC dX9_measure_42 rfl
    · refine V_aln hC dX9_measure_15 0 rfl ?_
      refine V_ic (x := -1) hC dX9_measure_16 (by decide) ?_
      refine V_cvi [] hC cv_X9_128 (by decide) rfl rfl (kX9_no G _ _) rfl rfl (Nat.le_of_ble_eq_true rfl) ⟨by decide, by decide⟩ dX9_measure_17 ?_
      intro q8
      exact V_ir hC dX9_measure_20 rfl
