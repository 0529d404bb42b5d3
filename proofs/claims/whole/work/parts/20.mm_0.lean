def fX9_no (v1 : Int32) (z : iw_M) : Option (Int32 × iw_M) :=
  (if iw_ok (-v1) 7 then
  (if iw_ok (-v1) 7 then
  some (v1, (iw_wI z 30 (Int32.toNatClampNeg (-v1)) ((z.1 30 (Int32.toNatClampNeg (-v1))) + (1 : Int32))))
  else none)
  else none)
abbrev bX9_no : iw_B := (cX9_no, 2, { frames := 0, cells := 0, slots := 0, locals := 0 }, yX9_no.cls, (some .int))
set_option maxRecDepth 100000 in
set_option maxHeartbeats 4000000 in
theorem kX9_no (G : iw_G) (v1 : Int32) (z : iw_M) : iw_K G iw_wM yX9_no cX9_no 2 (some .int) 0 0 iw_ei [.ref (iw_ad G 0), .int v1] z (fX9_no v1 z) := by
  refine iw_of [(0, .ref (iw_ad G 0)), (1, .int v1)] (by decide +kernel) (Nat.le_of_ble_eq_true rfl) rfl ?_
  intro X hC
  unfold fX9_no
  refine V_aln hC dX9_no_0 0 rfl ?_
  refine V_gr hC fl_X9_111 (by decide) rfl rfl dX9_no_1 ?_
  refine V_iln hC dX9_no_4 1 rfl ?_
  refine V_ineg hC dX9_no_5 ?_
  refine V_dup2 hC dX9_no_6 rfl rfl ?_
  refine V_ia hC (by decide) rfl dX9_no_7 ?_
  refine V_ic (x := 1) hC dX9_no_8 (by decide) ?_
  refine V_iadd hC dX9_no_9 ?_
  refine V_is_ hC (by decide) rfl dX9_no_10 ?_
  refine V_iln hC dX9_no_11 1 rfl ?_
  exact V_ir hC dX9_no_12 rfl
def fX9_isShop (v0 : Int32) (z : iw_M) : Option (Int32 × iw_M) :=
  (if v0 < 0 then
  some ((0 : Int32), z)
  else
  (if (8 : Int32) ≤ v0 then
  some ((0 : Int32), z)
  else
  some ((1 : Int32), z)))
abbrev bX9_isShop : iw_B := (cX9_isShop, 1, { frames := 0, cells := 0, slots := 0, locals := 0 }, yX9_isShop.cls, (some .boolean))
set_option maxRecDepth 100000 in
set_option maxHeartbeats 4000000 in
theorem kX9_isShop (G : iw_G) (v0 : Int32) (z : iw_M) : iw_K G iw_wM yX9_isShop cX9_isShop 1 (some .boolean) 0 0 iw_ei [.int v0] z (fX9_isShop v0 z) := by
  refine iw_of [(0, .int v0)] (by decide +kernel) (Nat.le_of_ble_eq_true rfl) rfl ?_
  intro X hC
  unfold fX9_isShop
  refine V_iln hC dX9_isShop_0 0 rfl ?_
  refine V_ilt 14 hC dX9_isShop_1 (by decide) ?_ ?_
  · refine V_ic (x := 0) hC dX9_isShop_14 (by decide) ?_
    exact V_zr hC dX9_isShop_15 rfl rfl
  · refine V_iln hC dX9_isShop_4 0 rfl ?_
    refine V_bip (x := 8) hC dX9_isShop_5 (by decide) ?_
    refine V_cge 14 hC dX9_isShop_7 (by decide) ?_ ?_
    · refine V_ic (x := 0) hC dX9_isShop_14 (by decide) ?_
      exact V_zr hC dX9_isShop_15 rfl rfl
    · refine V_ic (x := 1) hC dX9_isShop_10 (by decide) ?_
      refine V_goto 15 hC dX9_isShop_11 (by decide) ?_
      exact V_zr hC dX9_isShop_15 rfl rfl
def fX9_isHand (v1 : Int32) (z : iw_M) : Option (Int32 × iw_M) :=
  (if v1 < 0 then
  some ((0 : Int32), z)
  else
  (if (z.1 0 1) ≤ v1 then
  some ((0 : Int32), z)
  else
  some ((1 : Int32), z)))
abbrev bX9_isHand : iw_B := (cX9_isHand, 2, { frames := 0, cells := 0, slots := 0, locals := 0 }, yX9_isHand.cls, (some .boolean))
set_option maxRecDepth 100000 in
set_option maxHeartbeats 4000000 in
theorem kX9_isHand (G : iw_G) (v1 : Int32) (z : iw_M) : iw_K G iw_wM yX9_isHand cX9_isHand 2 (some .boolean) 0 0 iw_ei [.ref (iw_ad G 0), .int v1] z (fX9_isHand v1 z) := by
  refine iw_of [(0, .ref (iw_ad G 0)), (1, .int v1)] (by decide +kernel) (Nat.le_of_ble_eq_true rfl) rfl ?_
  intro X hC
  unfold fX9_isHand
  refine V_iln hC dX9_isHand_0 1 rfl ?_
  refine V_ilt 16 hC dX9_isHand_1 (by decide) ?_ ?_
  · refine V_ic (x := 0) hC dX9_isHand_16 (by decide) ?_
    exact V_zr hC dX9_isHand_17 rfl rfl
  · refine V_iln hC dX9_isHand_4 1 rfl ?_
    refine V_aln hC dX9_isHand_5 0 rfl ?_
    refine V_gi hC fl_X9_117 (by decide) rfl rfl dX9_isHand_6 ?_
    refine V_cge 16 hC dX9_isHand_9 (by decide) ?_ ?_
    · refine V_ic (x := 0) hC dX9_isHand_16 (by decide) ?_
      exact V_zr hC dX9_isHand_17 rfl rfl
    · refine V_ic (x := 1) hC dX9_isHand_12 (by decide) ?_
      refine V_goto 17 hC dX9_isHand_13 (by decide) ?_
      exact V_zr hC dX9_isHand_17 rfl rfl
def fX9_isIdea (v1 : Int32) (z : iw_M) : Option (Int32 × iw_M) :=
  (if v1 < 0 then
  some ((0 : Int32), z)
  else
  (if (z.1 0 2) ≤ v1 then
  some ((0 : Int32), z)
  else
  some ((1 : Int32), z)))
abbrev bX9_isIdea : iw_B := (cX9_isIdea, 2, { frames := 0, cells := 0, slots := 0, locals := 0 }, yX9_isIdea.cls, (some .boolean))
set_option maxRecDepth 100000 in
set_option maxHeartbeats 4000000 in
theorem kX9_isIdea (G : iw_G) (v1 : Int32) (z : iw_M) : iw_K G iw_wM yX9_isIdea cX9_isIdea 2 (some .boolean) 0 0 iw_ei [.ref (iw_ad G 0), .int v1] z (fX9_isIdea v1 z) := by
  refine iw_of [(0, .ref (iw_ad G 0)), (1, .int v1)] (by decide +kernel) (Nat.le_of_ble_eq_true rfl) rfl ?_
  intro X hC
  unfold fX9_isIdea
  refine V_iln hC dX9_isIdea_0 1 rfl ?_
  refine V_ilt 16 hC dX9_isIdea_1 (by decide) ?_ ?_
  · refine V_ic (x := 0) hC dX9_isIdea_16 (by decide) ?_
    exact V_zr hC dX9_isIdea_17 rfl rfl
  · refine V_iln hC dX9_isIdea_4 1 rfl ?_
    refine V_aln hC dX9_isIdea_5 0 rfl ?_
    refine V_gi hC fl_X9_120 (by decide) rfl rfl dX9_isIdea_6 ?_
    refine V_cge 16 hC dX9_isIdea_9 (by decide) ?_ ?_
    · refine V_ic (x := 0) hC dX9_isIdea_16 (by decide) ?_
      exact V_zr hC dX9_isIdea_17 rfl rfl
    · refine V_ic (x := 1) hC dX9_isIdea_12 (by decide) ?_
      refine V_goto 17 hC dX9_isIdea_13 (by decide) ?_
      exact V_zr hC dX9_isIdea_17 rfl rfl
def fX9_isBench (v0 : Int32) (z : iw_M) : Option (Int32 × iw_M) :=
  (if v0 < 0 then
  some ((0 : Int32), z)
  else
  (if (10 : Int32) ≤ v0 then
  some ((0 : Int32), z)
  else
  some ((1 : Int32), z)))
abbrev bX9_isBench : iw_B := (cX9_isBench, 1, { frames := 0, cells := 0, slots := 0, locals := 0 }, yX9_isBench.cls, (some .boolean))
set_option maxRecDepth 100000 in
set_option maxHeartbeats 4000000 in
theorem kX9_isBench (G : iw_G) (v0 : Int32) (z : iw_M) : iw_K G iw_wM yX9_isBench cX9_isBench 1 (some .boolean) 0 0 iw_ei [.int v0] z (fX9_isBench v0 z) := by
  refine iw_of [(0, .int v0)] (by decide +kernel) (Nat.le_of_ble_eq_true rfl) rfl ?_
  intro X hC
  unfold fX9_isBench
  refine V_iln hC dX9_isBench_0 0 rfl ?_
  refine V_ilt 14 hC dX9_isBench_1 (by decide) ?_ ?_
  · refine V_ic (x := 0) hC dX9_isBench_14 (by decide) ?_
    exact V_zr hC dX9_isBench_15 rfl rfl
  · refine V_iln hC dX9_isBench_4 0 rfl ?_
    refine V_bip (x := 10) hC dX9_isBench_5 (by decide) ?_
    refine V_cge 14 hC dX9_isBench_7 (by decide) ?_ ?_
    · refine V_ic (x := 0) hC dX9_isBench_14 (by decide) ?_
      exact V_zr hC dX9_isBench_15 rfl rfl
    · refine V_ic (x := 1) hC dX9_isBench_10 (by decide) ?_
      refine V_goto 15 hC dX9_isBench_11 (by decide) ?_
      exact V_zr hC dX9_isBench_15 rfl rfl
def fX9_isMarks (v0 : Int32) (z : iw_M) : Option (Int32 × iw_M) :=
  (if v0 ≤ 0 then
  some ((0 : Int32), z)
  else
  (if (65536 : Int32) ≤ v0 then
  some ((0 : Int32), z)
  else
  some ((1 : Int32), z)))
abbrev bX9_isMarks : iw_B := (cX9_isMarks, 1, { frames := 0, cells := 0, slots := 0, locals := 0 }, yX9_isMarks.cls, (some .boolean))
set_option maxRecDepth 100000 in
set_option maxHeartbeats 4000000 in
theorem kX9_isMarks (G : iw_G) (v0 : Int32) (z : iw_M) : iw_K G iw_wM yX9_isMarks cX9_isMarks 1 (some .boolean) 0 0 iw_ei [.int v0] z (fX9_isMarks v0 z) := by
  refine iw_of [(0, .int v0)] (by decide +kernel) (Nat.le_of_ble_eq_true rfl) rfl ?_
  intro X hC
  unfold fX9_isMarks
  refine V_iln hC dX9_isMarks_0 0 rfl ?_
  refine V_ile 14 hC dX9_isMarks_1 (by decide) ?_ ?_
  · refine V_ic (x := 0) hC dX9_isMarks_14 (by decide) ?_
    exact V_zr hC dX9_isMarks_15 rfl rfl
  · refine V_iln hC dX9_isMarks_4 0 rfl ?_
    refine V_ldc hC dX9_isMarks_5 kc_X9_123 ?_
    refine V_cge 14 hC dX9_isMarks_7 (by decide) ?_ ?_
    · refine V_ic (x := 0) hC dX9_isMarks_14 (by decide) ?_
      exact V_zr hC dX9_isMarks_15 rfl rfl
    · refine V_ic (x := 1) hC dX9_isMarks_10 (by decide) ?_
      refine V_goto 15 hC dX9_isMarks_11 (by decide) ?_
      exact V_zr hC dX9_isMarks_15 rfl rfl
def fX9_hand (v1 : Int32) (z : iw_M) : Option (Int32 × iw_M) :=
  ((fX9_isShop v1 z).bind (fun q1 =>
  (if q1.1 = 0 then
  ((fX9_no (-1 : Int32) q1.2).bind (fun q3 =>
  some (q3.1, q3.2)))
  else
  (if (q1.2.1 0 1) = (40 : Int32) then
  ((fX9_no (-6 : Int32) q1.2).bind (fun q2 =>
  some (q2.1, q2.2)))
  else
  (if iw_ok (q1.2.1 0 1) 40 then
  some (((iw_wI q1.2 1 (Int32.toNatClampNeg (q1.2.1 0 1)) v1).1 0 1), (iw_wI (iw_wI q1.2 1 (Int32.toNatClampNeg (q1.2.1 0 1)) v1) 0 1 (((iw_wI q1.2 1 (Int32.toNatClampNeg (q1.2.1 0 1)) v1).1 0 1) + (1 : Int32))))
  else none)))))
abbrev bX9_hand : iw_B := (cX9_hand, 2, { frames := 1, cells := 0, slots := 0, locals := 21 }, yX9_hand.cls, (some .int))
set_option maxRecDepth 100000 in
set_option maxHeartbeats 4000000 in
theorem kX9_hand (G : iw_G) (v1 : Int32) (z : iw_M) : iw_K G iw_wM yX9_hand cX9_hand 2 (some .int) 1 21 iw_ei [.ref (iw_ad G 0), .int v1] z (fX9_hand v1 z) := by
  refine iw_of [(0, .ref (iw_ad G 0)), (1, .int v1)] (by decide +kernel) (Nat.le_of_ble_eq_true rfl) rfl ?_
  intro X hC
  unfold fX9_hand
  refine V_iln hC dX9_hand_0 1 rfl ?_
  refine V_csi [] hC cs_X9_124 (kX9_isShop G _ _) rfl rfl (Nat.le_of_ble_eq_true rfl) ⟨by decide, by decide⟩ dX9_hand_1 ?_
  intro q1
  refine V_ine 13 hC dX9_hand_4 (by decide) ?_ ?_
  · refine V_aln hC dX9_hand_13 0 rfl ?_
    refine V_gi hC fl_X9_117 (by decide) rfl rfl dX9_hand_14 ?_
    refine V_bip (x := 40) hC dX9_hand_17 (by decide) ?_
    refine V_cne 29 hC dX9_hand_19 (by decide) ?_ ?_
    · refine V_aln hC dX9_hand_29 0 rfl ?_
      refine V_gr hC fl_X9_22 (by decide) rfl rfl dX9_hand_30 ?_
      refine V_aln hC dX9_hand_33 0 rfl ?_
      refine V_gi hC fl_X9_117 (by decide) rfl rfl dX9_hand_34 ?_
      refine V_iln hC dX9_hand_37 1 rfl ?_
      refine V_is_ hC (by decide) rfl dX9_hand_38 ?_
      refine V_aln hC dX9_hand_39 0 rfl ?_
      refine V_dup hC dX9_hand_40 rfl ?_
      refine V_gi hC fl_X9_117 (by decide) rfl rfl dX9_hand_41 ?_
      refine V_dupx1 hC dX9_hand_44 rfl rfl ?_
      refine V_ic (x := 1) hC dX9_hand_45 (by decide) ?_
      refine V_iadd hC dX9_hand_46 ?_
      refine V_pi hC fp_X9_117 (by decide) rfl rfl dX9_hand_47 ?_
      exact V_ir hC dX9_hand_50 rfl
    · refine V_aln hC dX9_hand_22 0 rfl ?_
      refine V_bip (x := -6) hC dX9_hand_23 (by decide) ?_
      refine V_cvi [] hC cv_X9_128 (by decide) rfl rfl (kX9_no G _ _) rfl rfl (Nat.le_of_ble_eq_true rfl) ⟨by decide, by decide⟩ dX9_hand_25 ?_
      intro q2
      exact V_ir hC dX9_hand_28 rfl
  · refine V_aln hC dX9_hand_7 0 rfl ?_
    refine V_ic (x := -1) hC dX9_hand_8 (by decide) ?_
    refine V_cvi [] hC cv_X9_128 (by decide) rfl rfl (kX9_no G _ _) rfl rfl (Nat.le_of_ble_eq_true rfl) ⟨by decide, by decide⟩ dX9_hand_9 ?_
    intro q3
    exact V_ir hC dX9_hand_12 rfl
def fX9_kin (v1 : Int32) (v2 : Int32) (v3 : Int32) (z : iw_M) : Option (Int32 × iw_M) :=
  ((fX9_isHand v1 z).bind (fun q1 =>
  (if q1.1 = 0 then
  ((fX9_no (-1 : Int32) q1.2).bind (fun q2 =>
  some (q2.1, q2.2)))
  else
  ((fX9_isHand v2 q1.2).bind (fun q3 =>
  (if q3.1 = 0 then
  ((fX9_no (-1 : Int32) q3.2).bind (fun q4 =>
  some (q4.1, q4.2)))
  else
  (if v1 = v2 then
  ((fX9_no (-1 : Int32) q3.2).bind (fun q5 =>
  some (q5.1, q5.2)))
  else
  (if iw_ok (((40 : Int32) * v1) + v2) 1600 then
  (if (q3.2.1 6 (Int32.toNatClampNeg (((40 : Int32) * v1) + v2))) = v3 then
  some ((0 : Int32), q3.2)
  else
  (if iw_ok (((40 : Int32) * v1) + v2) 1600 then
  (if iw_ok (((40 : Int32) * v2) + v1) 1600 then
  some ((1 : Int32), (iw_wI (iw_wI q3.2 6 (Int32.toNatClampNeg (((40 : Int32) * v1) + v2)) (vp_nar .boolean v3)) 6 (Int32.toNatClampNeg (((40 : Int32) * v2) + v1)) (vp_nar .boolean v3)))
  else none)
  else none))
  else none))))))))
abbrev bX9_kin : iw_B := (cX9_kin, 4, { frames := 1, cells := 0, slots := 0, locals := 21 }, yX9_kin.cls, (some .int))
set_option maxRecDepth 100000 in
set_option maxHeartbeats 4000000 in
theorem kX9_kin (G : iw_G) (v1 : Int32) (v2 : Int32) (v3 : Int32) (z : iw_M) : iw_K G iw_wM yX9_kin cX9_kin 4 (some .int) 1 21 iw_ei [.ref (iw_ad G 0), .int v1, .int v2, .int v3] z (fX9_kin v1 v2 v3 z) := by
  refine iw_of [(0, .ref (iw_ad G 0)), (1, .int v1), (2, .int v2), (3, .int v3)] (by decide +kernel) (Nat.le_of_ble_eq_true rfl) rfl ?_
  intro X hC
  unfold fX9_kin
  refine V_aln hC dX9_kin_0 0 rfl ?_
  refine V_iln hC dX9_kin_1 1 rfl ?_
  refine V_cvi [] hC cv_X9_132 (by decide) rfl rfl (kX9_isHand G _ _) rfl rfl (Nat.le_of_ble_eq_true rfl) ⟨by decide, by decide⟩ dX9_kin_2 ?_
  intro q1
  refine V_ieq 21 hC dX9_kin_5 (by decide) ?_ ?_
  · refine V_aln hC dX9_kin_21 0 rfl ?_
    refine V_ic (x := -1) hC dX9_kin_22 (by decide) ?_
    refine V_cvi [] hC cv_X9_128 (by decide) rfl rfl (kX9_no G _ _) rfl rfl (Nat.le_of_ble_eq_true rfl) ⟨by decide, by decide⟩ dX9_kin_23 ?_
    intro q2
    exact V_ir hC dX9_kin_26 rfl
  · refine V_aln hC dX9_kin_8 0 rfl ?_
    refine V_iln hC dX9_kin_9 2 rfl ?_
    refine V_cvi [] hC cv_X9_132 (by decide) rfl rfl (kX9_isHand G _ _) rfl rfl (Nat.le_of_ble_eq_true rfl) ⟨by decide, by decide⟩ dX9_kin_10 ?_
    intro q3
    refine V_ieq 21 hC dX9_kin_13 (by decide) ?_ ?_
    · refine V_aln hC dX9_kin_21 0 rfl ?_
      refine V_ic (x := -1) hC dX9_kin_22 (by decide) ?_
      refine V_cvi [] hC cv_X9_128 (by decide) rfl rfl (kX9_no G _ _) rfl rfl (Nat.le_of_ble_eq_true rfl) ⟨by decide, by decide⟩ dX9_kin_23 ?_
      intro q4
      exact V_ir hC dX9_kin_26 rfl
    · refine V_iln hC dX9_kin_16 1 rfl ?_
      refine V_iln hC dX9_kin_17 2 rfl ?_
      refine V_cne 27 hC dX9_kin_18 (by decide) ?_ ?_
      · refine V_aln hC dX9_kin_27 0 rfl ?_
        refine V_gr hC fl_X9_39 (by decide) rfl rfl dX9_kin_28 ?_
        refine V_bip (x := 40) hC dX9_kin_31 (by decide) ?_
        refine V_iln hC dX9_kin_33 1 rfl ?_
        refine V_imul hC dX9_kin_34 ?_
        refine V_iln hC dX9_kin_35 2 rfl ?_
        refine V_iadd hC dX9_kin_36 ?_
        refine V_ba hC (by decide) rfl dX9_kin_37 ?_
        refine V_iln hC dX9_kin_38 3 rfl ?_
        refine V_cne 44 hC dX9_kin_39 (by decide) ?_ ?_
        · refine V_aln hC dX9_kin_44 0 rfl ?_
          refine V_gr hC fl_X9_39 (by decide) rfl rfl dX9_kin_45 ?_
          refine V_bip (x := 40) hC dX9_kin_48 (by decide) ?_
          refine V_iln hC dX9_kin_50 1 rfl ?_
          refine V_imul hC dX9_kin_51 ?_
          refine V_iln hC dX9_kin_52 2 rfl ?_
          refine V_iadd hC dX9_kin_53 ?_
          refine V_iln hC dX9_kin_54 3 rfl ?_
          refine V_bs_ hC (by decide) rfl dX9_kin_55 ?_
          refine V_aln hC dX9_kin_56 0 rfl ?_
          refine V_gr hC fl_X9_39 (by decide) rfl rfl dX9_kin_57 ?_
          refine V_bip (x := 40) hC dX9_kin_60 (by decide) ?_
          refine V_iln hC dX9_kin_62 2 rfl ?_
          refine V_imul hC dX9_kin_63 ?_
          refine V_iln hC dX9_kin_64 1 rfl ?_
          refine V_iadd hC dX9_kin_65 ?_
          refine V_iln hC dX9_kin_66 3 rfl ?_
          refine V_bs_ hC (by decide) rfl dX9_kin_67 ?_
          refine V_ic (x := 1) hC dX9_kin_68 (by decide) ?_
          exact V_ir hC dX9_kin_69 rfl
        · refine V_ic (x := 0) hC dX9_kin_42 (by decide) ?_
          exact V_ir hC dX9_kin_43 rfl
      · refine V_aln hC dX9_kin_21 0 rfl ?_
        refine V_ic (x := -1) hC dX9_kin_22 (by decide) ?_
        refine V_cvi [] hC cv_X9_128 (by decide) rfl rfl (kX9_no G _ _) rfl rfl (Nat.le_of_ble_eq_true rfl) ⟨by decide, by decide⟩ dX9_kin_23 ?_
        intro q5
        exact V_ir hC dX9_kin_26 rfl
def fX9_idea (v1 : Int32) (v2 : Int32) (v3 : Int32) (v4 : Int32) (z : iw_M) : Option (Int32 × iw_M) :=
  ((fX9_isHand v1 z).bind (fun q1 =>
  (if q1.1 = 0 then
  ((fX9_no (-1 : Int32) q1.2).bind (fun q2 =>
  some (q2.1, q2.2)))
  else
  ((fX9_isShop v2 q1.2).bind (fun q3 =>
  (if q3.1 = 0 then
  ((fX9_no (-1 : Int32) q3.2).bind (fun q4 =>
  some (q4.1, q4.2)))
  else
  ((fX9_isMarks v3 q3.2).bind (fun q5 =>
  (if q5.1 = 0 then
  ((fX9_no (-1 : Int32) q5.2).bind (fun q9 =>
  some (q9.1, q9.2)))
  else
  (if 0 ≤ v4 then
  (if (9 : Int32) < v4 then
  ((fX9_no (-6 : Int32) q5.2).bind (fun q6 =>
  some (q6.1, q6.2)))
  else
  (if (q5.2.1 0 2) = (40 : Int32) then
  ((fX9_no (-6 : Int32) q5.2).bind (fun q7 =>
  some (q7.1, q7.2)))
  else
  (if iw_ok (q5.2.1 0 2) 40 then
  (if iw_ok ((iw_wI q5.2 7 (Int32.toNatClampNeg (q5.2.1 0 2)) v1).1 0 2) 40 then
  (if iw_ok ((iw_wI (iw_wI q5.2 7 (Int32.toNatClampNeg (q5.2.1 0 2)) v1) 8 (Int32.toNatClampNeg ((iw_wI q5.2 7 (Int32.toNatClampNeg (q5.2.1 0 2)) v1).1 0 2)) v2).1 0 2) 40 then
  (if iw_ok ((iw_wI (iw_wI (iw_wI q5.2 7 (Int32.toNatClampNeg (q5.2.1 0 2)) v1) 8 (Int32.toNatClampNeg ((iw_wI q5.2 7 (Int32.toNatClampNeg (q5.2.1 0 2)) v1).1 0 2)) v2) 9 (Int32.toNatClampNeg ((iw_wI (iw_wI q5.2 7 (Int32.toNatClampNeg (q5.2.1 0 2)) v1) 8 (Int32.toNatClampNeg ((iw_wI q5.2 7 (Int32.toNatClampNeg (q5.2.1 0 2)) v1).1 0 2)) v2).1 0 2)) v3).1 0 2) 40 then
  (if iw_ok ((iw_wI (iw_wI (iw_wI (iw_wI q5.2 7 (Int32.toNatClampNeg (q5.2.1 0 2)) v1) 8 (Int32.toNatClampNeg ((iw_wI q5.2 7 (Int32.toNatClampNeg (q5.2.1 0 2)) v1).1 0 2)) v2) 9 (Int32.toNatClampNeg ((iw_wI (iw_wI q5.2 7 (Int32.toNatClampNeg (q5.2.1 0 2)) v1) 8 (Int32.toNatClampNeg ((iw_wI q5.2 7 (Int32.toNatClampNeg (q5.2.1 0 2)) v1).1 0 2)) v2).1 0 2)) v3) 10 (Int32.toNatClampNeg ((iw_wI (iw_wI (iw_wI q5.2 7 (Int32.toNatClampNeg (q5.2.1 0 2)) v1) 8 (Int32.toNatClampNeg ((iw_wI q5.2 7 (Int32.toNatClampNeg (q5.2.1 0 2)) v1).1 0 2)) v2) 9 (Int32.toNatClampNeg ((iw_wI (iw_wI q5.2 7 (Int32.toNatClampNeg (q5.2.1 0 2)) v1) 8 (Int32.toNatClampNeg ((iw_wI q5.2 7 (Int32.toNatClampNeg (q5.2.1 0 2)) v1).1 0 2)) v2).1 0 2)) v3).1 0 2)) v4).1 0 2) 40 then
  (if iw_ok ((iw_wI (iw_wI (iw_wI (iw_wI (iw_wI q5.2 7 (Int32.toNatClampNeg (q5.2.1 0 2)) v1) 8 (Int32.toNatClampNeg ((iw_wI q5.2 7 (Int32.toNatClampNeg (q5.2.1 0 2)) v1).1 0 2)) v2) 9 (Int32.toNatClampNeg ((iw_wI (iw_wI q5.2 7 (Int32.toNatClampNeg (q5.2.1 0 2)) v1) 8 (Int32.toNatClampNeg ((iw_wI q5.2 7 (Int32.toNatClampNeg (q5.2.1 0 2)) v1).1 0 2)) v2).1 0 2)) v3) 10 (Int32.toNatClampNeg ((iw_wI (iw_wI (iw_wI q5.2 7 (Int32.toNatClampNeg (q5.2.1 0 2)) v1) 8 (Int32.toNatClampNeg ((iw_wI q5.2 7 (Int32.toNatClampNeg (q5.2.1 0 2)) v1).1 0 2)) v2) 9 (Int32.toNatClampNeg ((iw_wI (iw_wI q5.2 7 (Int32.toNatClampNeg (q5.2.1 0 2)) v1) 8 (Int32.toNatClampNeg ((iw_wI q5.2 7 (Int32.toNatClampNeg (q5.2.1 0 2)) v1).1 0 2)) v2).1 0 2)) v3).1 0 2)) v4) 11 (Int32.toNatClampNeg ((iw_wI (iw_wI (iw_wI (iw_wI q5.2 7 (Int32.toNatClampNeg (q5.2.1 0 2)) v1) 8 (Int32.toNatClampNeg ((iw_wI q5.2 7 (Int32.toNatClampNeg (q5.2.1 0 2)) v1).1 0 2)) v2) 9 (Int32.toNatClampNeg ((iw_wI (iw_wI q5.2 7 (Int32.toNatClampNeg (q5.2.1 0 2)) v1) 8 (Int32.toNatClampNeg ((iw_wI q5.2 7 (Int32.toNatClampNeg (q5.2.1 0 2)) v1).1 0 2)) v2).1 0 2)) v3) 10 (Int32.toNatClampNeg ((iw_wI (iw_wI (iw_wI q5.2 7 (Int32.toNatClampNeg (q5.2.1 0 2)) v1) 8 (Int32.toNatClampNeg ((iw_wI q5.2 7 (Int32.toNatClampNeg (q5.2.1 0 2)) v1).1 0 2)) v2) 9 (Int32.toNatClampNeg ((iw_wI (iw_wI q5.2 7 (Int32.toNatClampNeg (q5.2.1 0 2)) v1) 8 (Int32.toNatClampNeg ((iw_wI q5.2 7 (Int32.toNatClampNeg (q5.2.1 0 2)) v1).1 0 2)) v2).1 0 2)) v3).1 0 2)) v4).1 0 2)) ((iw_wI (iw_wI (iw_wI (iw_wI q5.2 7 (Int32.toNatClampNeg (q5.2.1 0 2)) v1) 8 (Int32.toNatClampNeg ((iw_wI q5.2 7 (Int32.toNatClampNeg (q5.2.1 0 2)) v1).1 0 2)) v2) 9 (Int32.toNatClampNeg ((iw_wI (iw_wI q5.2 7 (Int32.toNatClampNeg (q5.2.1 0 2)) v1) 8 (Int32.toNatClampNeg ((iw_wI q5.2 7 (Int32.toNatClampNeg (q5.2.1 0 2)) v1).1 0 2)) v2).1 0 2)) v3) 10 (Int32.toNatClampNeg ((iw_wI (iw_wI (iw_wI q5.2 7 (Int32.toNatClampNeg (q5.2.1 0 2)) v1) 8 (Int32.toNatClampNeg ((iw_wI q5.2 7 (Int32.toNatClampNeg (q5.2.1 0 2)) v1).1 0 2)) v2) 9 (Int32.toNatClampNeg ((iw_wI (iw_wI q5.2 7 (Int32.toNatClampNeg (q5.2.1 0 2)) v1) 8 (Int32.toNatClampNeg ((iw_wI q5.2 7 (Int32.toNatClampNeg (q5.2.1 0 2)) v1).1 0 2)) v2).1 0 2)) v3).1 0 2)) v4).1 0 0)).1 0 2) 40 then
  some (((iw_wI (iw_wI (iw_wI (iw_wI (iw_wI (iw_wI q5.2 7 (Int32.toNatClampNeg (q5.2.1 0 2)) v1) 8 (Int32.toNatClampNeg ((iw_wI q5.2 7 (Int32.toNatClampNeg (q5.2.1 0 2)) v1).1 0 2)) v2) 9 (Int32.toNatClampNeg ((iw_wI (iw_wI q5.2 7 (Int32.toNatClampNeg (q5.2.1 0 2)) v1) 8 (Int32.toNatClampNeg ((iw_wI q5.2 7 (Int32.toNatClampNeg (q5.2.1 0 2)) v1).1 0 2)) v2).1 0 2)) v3) 10 (Int32.toNatClampNeg ((iw_wI (iw_wI (iw_wI q5.2 7 (Int32.toNatClampNeg (q5.2.1 0 2)) v1) 8 (Int32.toNatClampNeg ((iw_wI q5.2 7 (Int32.toNatClampNeg (q5.2.1 0 2)) v1).1 0 2)) v2) 9 (Int32.toNatClampNeg ((iw_wI (iw_wI q5.2 7 (Int32.toNatClampNeg (q5.2.1 0 2)) v1) 8 (Int32.toNatClampNeg ((iw_wI q5.2 7 (Int32.toNatClampNeg (q5.2.1 0 2)) v1).1 0 2)) v2).1 0 2)) v3).1 0 2)) v4) 11 (Int32.toNatClampNeg ((iw_wI (iw_wI (iw_wI (iw_wI q5.2 7 (Int32.toNatClampNeg (q5.2.1 0 2)) v1) 8 (Int32.toNatClampNeg ((iw_wI q5.2 7 (Int32.toNatClampNeg (q5.2.1 0 2)) v1).1 0 2)) v2) 9 (Int32.toNatClampNeg ((iw_wI (iw_wI q5.2 7 (Int32.toNatClampNeg (q5.2.1 0 2)) v1) 8 (Int32.toNatClampNeg ((iw_wI q5.2 7 (Int32.toNatClampNeg (q5.2.1 0 2)) v1).1 0 2)) v2).1 0 2)) v3) 10 (Int32.toNatClampNeg ((iw_wI (iw_wI (iw_wI q5.2 7 (Int32.toNatClampNeg (q5.2.1 0 2)) v1) 8 (Int32.toNatClampNeg ((iw_wI q5.2 7 (Int32.toNatClampNeg (q5.2.1 0 2)) v1).1 0 2)) v2) 9 (Int32.toNatClampNeg ((iw_wI (iw_wI q5.2 7 (Int32.toNatClampNeg (q5.2.1 0 2)) v1) 8 (Int32.toNatClampNeg ((iw_wI q5.2 7 (Int32.toNatClampNeg (q5.2.1 0 2)) v1).1 0 2)) v2).1 0 2)) v3).1 0 2)) v4).1 0 2)) ((iw_wI (iw_wI (iw_wI (iw_wI q5.2 7 (Int32.toNatClampNeg (q5.2.1 0 2)) v1) 8 (Int32.toNatClampNeg ((iw_wI q5.2 7 (Int32.toNatClampNeg (q5.2.1 0 2)) v1).1 0 2)) v2) 9 (Int32.toNatClampNeg ((iw_wI (iw_wI q5.2 7 (Int32.toNatClampNeg (q5.2.1 0 2)) v1) 8 (Int32.toNatClampNeg ((iw_wI q5.2 7 (Int32.toNatClampNeg (q5.2.1 0 2)) v1).1 0 2)) v2).1 0 2)) v3) 10 (Int32.toNatClampNeg ((iw_wI (iw_wI (iw_wI q5.2 7 (Int32.toNatClampNeg (q5.2.1 0 2)) v1) 8 (Int32.toNatClampNeg ((iw_wI q5.2 7 (Int32.toNatClampNeg (q5.2.1 0 2)) v1).1 0 2)) v2) 9 (Int32.toNatClampNeg ((iw_wI (iw_wI q5.2 7 (Int32.toNatClampNeg (q5.2.1 0 2)) v1) 8 (Int32.toNatClampNeg ((iw_wI q5.2 7 (Int32.toNatClampNeg (q5.2.1 0 2)) v1).1 0 2)) v2).1 0 2)) v3).1 0 2)) v4).1 0 0)) 13 (Int32.toNatClampNeg ((iw_wI (iw_wI (iw_wI (iw_wI (iw_wI q5.2 7 (Int32.toNatClampNeg (q5.2.1 0 2)) v1) 8 (Int32.toNatClampNeg ((iw_wI q5.2 7 (Int32.toNatClampNeg (q5.2.1 0 2)) v1).1 0 2)) v2) 9 (Int32.toNatClampNeg ((iw_wI (iw_wI q5.2 7 (Int32.toNatClampNeg (q5.2.1 0 2)) v1) 8 (Int32.toNatClampNeg ((iw_wI q5.2 7 (Int32.toNatClampNeg (q5.2.1 0 2)) v1).1 0 2)) v2).1 0 2)) v3) 10 (Int32.toNatClampNeg ((iw_wI (iw_wI (iw_wI q5.2 7 (Int32.toNatClampNeg (q5.2.1 0 2)) v1) 8 (Int32.toNatClampNeg ((iw_wI q5.2 7 (Int32.toNatClampNeg (q5.2.1 0 2)) v1).1 0 2)) v2) 9 (Int32.toNatClampNeg ((iw_wI (iw_wI q5.2 7 (Int32.toNatClampNeg (q5.2.1 0 2)) v1) 8 (Int32.toNatClampNeg ((iw_wI q5.2 7 (Int32.toNatClampNeg (q5.2.1 0 2)) v1).1 0 2)) v2).1 0 2)) v3).1 0 2)) v4) 11 (Int32.toNatClampNeg ((iw_wI (iw_wI (iw_wI (iw_wI q5.2 7 (Int32.toNatClampNeg (q5.2.1 0 2)) v1) 8 (Int32.toNatClampNeg ((iw_wI q5.2 7 (Int32.toNatClampNeg (q5.2.1 0 2)) v1).1 0 2)) v2) 9 (Int32.toNatClampNeg ((iw_wI (iw_wI q5.2 7 (Int32.toNatClampNeg (q5.2.1 0 2)) v1) 8 (Int32.toNatClampNeg ((iw_wI q5.2 7 (Int32.toNatClampNeg (q5.2.1 0 2)) v1).1 0 2)) v2).1 0 2)) v3) 10 (Int32.toNatClampNeg ((iw_wI (iw_wI (iw_wI q5.2 7 (Int32.toNatClampNeg (q5.2.1 0 2)) v1) 8 (Int32.toNatClampNeg ((iw_wI q5.2 7 (Int32.toNatClampNeg (q5.2.1 0 2)) v1).1 0 2)) v2) 9 (Int32.toNatClampNeg ((iw_wI (iw_wI q5.2 7 (Int32.toNatClampNeg (q5.2.1 0 2)) v1) 8 (Int32.toNatClampNeg ((iw_wI q5.2 7 (Int32.toNatClampNeg (q5.2.1 0 2)) v1).1 0 2)) v2).1 0 2)) v3).1 0 2)) v4).1 0 2)) ((iw_wI (iw_wI (iw_wI (iw_wI q5.2 7 (Int32.toNatClampNeg (q5.2.1 0 2)) v1) 8 (Int32.toNatClampNeg ((iw_wI q5.2 7 (Int32.toNatClampNeg (q5.2.1 0 2)) v1).1 0 2)) v2) 9 (Int32.toNatClampNeg ((iw_wI (iw_wI q5.2 7 (Int32.toNatClampNeg (q5.2.1 0 2)) v1) 8 (Int32.toNatClampNeg ((iw_wI q5.2 7 (Int32.toNatClampNeg (q5.2.1 0 2)) v1).1 0 2)) v2).1 0 2)) v3) 10 (Int32.toNatClampNeg ((iw_wI (iw_wI (iw_wI q5.2 7 (Int32.toNatClampNeg (q5.2.1 0 2)) v1) 8 (Int32.toNatClampNeg ((iw_wI q5.2 7 (Int32.toNatClampNeg (q5.2.1 0 2)) v1).1 0 2)) v2) 9 (Int32.toNatClampNeg ((iw_wI (iw_wI q5.2 7 (Int32.toNatClampNeg (q5.2.1 0 2)) v1) 8 (Int32.toNatClampNeg ((iw_wI q5.2 7 (Int32.toNatClampNeg (q5.2.1 0 2)) v1).1 0 2)) v2).1 0 2)) v3).1 0 2)) v4).1 0 0)).1 0 2)) (-9 : Int32)).1 0 2), (iw_wI (iw_wI (iw_wI (iw_wI (iw_wI (iw_wI (iw_wI q5.2 7 (Int32.toNatClampNeg (q5.2.1 0 2)) v1) 8 (Int32.toNatClampNeg ((iw_wI q5.2 7 (Int32.toNatClampNeg (q5.2.1 0 2)) v1).1 0 2)) v2) 9 (Int32.toNatClampNeg ((iw_wI (iw_wI q5.2 7 (Int32.toNatClampNeg (q5.2.1 0 2)) v1) 8 (Int32.toNatClampNeg ((iw_wI q5.2 7 (Int32.toNatClampNeg (q5.2.1 0 2)) v1).1 0 2)) v2).1 0 2)) v3) 10 (Int32.toNatClampNeg ((iw_wI (iw_wI (iw_wI q5.2 7 (Int32.toNatClampNeg (q5.2.1 0 2)) v1) 8 (Int32.toNatClampNeg ((iw_wI q5.2 7 (Int32.toNatClampNeg (q5.2.1 0 2)) v1).1 0 2)) v2) 9 (Int32.toNatClampNeg ((iw_wI (iw_wI q5.2 7 (Int32.toNatClampNeg (q5.2.1 0 2)) v1) 8 (Int32.toNatClampNeg ((iw_wI q5.2 7 (Int32.toNatClampNeg (q5.2.1 0 2)) v1).1 0 2)) v2).1 0 2)) v3).1 0 2)) v4) 11 (Int32.toNatClampNeg ((iw_wI (iw_wI (iw_wI (iw_wI q5.2 7 (Int32.toNatClampNeg (q5.2.1 0 2)) v1) 8 (Int32.toNatClampNeg ((iw_wI q5.2 7 (Int32.toNatClampNeg (q5.2.1 0 2)) v1).1 0 2)) v2) 9 (Int32.toNatClampNeg ((iw_wI (iw_wI q5.2 7 (Int32.toNatClampNeg (q5.2.1 0 2)) v1) 8 (Int32.toNatClampNeg ((iw_wI q5.2 7 (Int32.toNatClampNeg (q5.2.1 0 2)) v1).1 0 2)) v2).1 0 2)) v3) 10 (Int32.toNatClampNeg ((iw_wI (iw_wI (iw_wI q5.2 7 (Int32.toNatClampNeg (q5.2.1 0 2)) v1) 8 (Int32.toNatClampNeg ((iw_wI q5.2 7 (Int32.toNatClampNeg (q5.2.1 0 2)) v1).1 0 2)) v2) 9 (Int32.toNatClampNeg ((iw_wI (iw_wI q5.2 7 (Int32.toNatClampNeg (q5.2.1 0 2)) v1) 8 (Int32.toNatClampNeg ((iw_wI q5.2 7 (Int32.toNatClampNeg (q5.2.1 0 2)) v1).1 0 2)) v2).1 0 2)) v3).1 0 2)) v4).1 0 2)) ((iw_wI (iw_wI (iw_wI (iw_wI q5.2 7 (Int32.toNatClampNeg (q5.2.1 0 2)) v1) 8 (Int32.toNatClampNeg ((iw_wI q5.2 7 (Int32.toNatClampNeg (q5.2.1 0 2)) v1).1 0 2)) v2) 9 (Int32.toNatClampNeg ((iw_wI (iw_wI q5.2 7 (Int32.toNatClampNeg (q5.2.1 0 2)) v1) 8 (Int32.toNatClampNeg ((iw_wI q5.2 7 (Int32.toNatClampNeg (q5.2.1 0 2)) v1).1 0 2)) v2).1 0 2)) v3) 10 (Int32.toNatClampNeg ((iw_wI (iw_wI (iw_wI q5.2 7 (Int32.toNatClampNeg (q5.2.1 0 2)) v1) 8 (Int32.toNatClampNeg ((iw_wI q5.2 7 (Int32.toNatClampNeg (q5.2.1 0 2)) v1).1 0 2)) v2) 9 (Int32.toNatClampNeg ((iw_wI (iw_wI q5.2 7 (Int32.toNatClampNeg (q5.2.1 0 2)) v1) 8 (Int32.toNatClampNeg ((iw_wI q5.2 7 (Int32.toNatClampNeg (q5.2.1 0 2)) v1).1 0 2)) v2).1 0 2)) v3).1 0 2)) v4).1 0 0)) 13 (Int32.toNatClampNeg ((iw_wI (iw_wI (iw_wI (iw_wI (iw_wI q5.2 7 (Int32.toNatClampNeg (q5.2.1 0 2)) v1) 8 (Int32.toNatClampNeg ((iw_wI q5.2 7 (Int32.toNatClampNeg (q5.2.1 0 2)) v1).1 0 2)) v2) 9 (Int32.toNatClampNeg ((iw_wI (iw_wI q5.2 7 (Int32.toNatClampNeg (q5.2.1 0 2)) v1) 8 (Int32.toNatClampNeg ((iw_wI q5.2 7 (Int32.toNatClampNeg (q5.2.1 0 2)) v1).1 0 2)) v2).1 0 2)) v3) 10 (Int32.toNatClampNeg ((iw_wI (iw_wI (iw_wI q5.2 7 (Int32.toNatClampNeg (q5.2.1 0 2)) v1) 8 (Int32.toNatClampNeg ((iw_wI q5.2 7 (Int32.toNatClampNeg (q5.2.1 0 2)) v1).1 0 2)) v2) 9 (Int32.toNatClampNeg ((iw_wI (iw_wI q5.2 7 (Int32.toNatClampNeg (q5.2.1 0 2)) v1) 8 (Int32.toNatClampNeg ((iw_wI q5.2 7 (Int32.toNatClampNeg (q5.2.1 0 2)) v1).1 0 2)) v2).1 0 2)) v3).1 0 2)) v4) 11 (Int32.toNatClampNeg ((iw_wI (iw_wI (iw_wI (iw_wI q5.2 7 (Int32.toNatClampNeg (q5.2.1 0 2)) v1) 8 (Int32.toNatClampNeg ((iw_wI q5.2 7 (Int32.toNatClampNeg (q5.2.1 0 2)) v1).1 0 2)) v2) 9 (Int32.toNatClampNeg ((iw_wI (iw_wI q5.2 7 (Int32.toNatClampNeg (q5.2.1 0 2)) v1) 8 (Int32.toNatClampNeg ((iw_wI q5.2 7 (Int32.toNatClampNeg (q5.2.1 0 2)) v1).1 0 2)) v2).1 0 2)) v3) 10 (Int32.toNatClampNeg ((iw_wI (iw_wI (iw_wI q5.2 7 (Int32.toNatClampNeg (q5.2.1 0 2)) v1) 8 (Int32.toNatClampNeg ((iw_wI q5.2 7 (Int32.toNatClampNeg (q5.2.1 0 2)) v1).1 0 2)) v2) 9 (Int32.toNatClampNeg ((iw_wI (iw_wI q5.2 7 (Int32.toNatClampNeg (q5.2.1 0 2)) v1) 8 (Int32.toNatClampNeg ((iw_wI q5.2 7 (Int32.toNatClampNeg (q5.2.1 0 2)) v1).1 0 2)) v2).1 0 2)) v3).1 0 2)) v4).1 0 2)) ((iw_wI (iw_wI (iw_wI (iw_wI q5.2 7 (Int32.toNatClampNeg (q5.2.1 0 2)) v1) 8 (Int32.toNatClampNeg ((iw_wI q5.2 7 (Int32.toNatClampNeg (q5.2.1 0 2)) v1).1 0 2)) v2) 9 (Int32.toNatClampNeg ((iw_wI (iw_wI q5.2 7 (Int32.toNatClampNeg (q5.2.1 0 2)) v1) 8 (Int32.toNatClampNeg ((iw_wI q5.2 7 (Int32.toNatClampNeg (q5.2.1 0 2)) v1).1 0 2)) v2).1 0 2)) v3) 10 (Int32.toNatClampNeg ((iw_wI (iw_wI (iw_wI q5.2 7 (Int32.toNatClampNeg (q5.2.1 0 2)) v1) 8 (Int32.toNatClampNeg ((iw_wI q5.2 7 (Int32.toNatClampNeg (q5.2.1 0 2)) v1).1 0 2)) v2) 9 (Int32.toNatClampNeg ((iw_wI (iw_wI q5.2 7 (Int32.toNatClampNeg (q5.2.1 0 2)) v1) 8 (Int32.toNatClampNeg ((iw_wI q5.2 7 (Int32.toNatClampNeg (q5.2.1 0 2)) v1).1 0 2)) v2).1 0 2)) v3).1 0 2)) v4).1 0 0)).1 0 2)) (-9 : Int32)) 0 2 (((iw_wI (iw_wI (iw_wI (iw_wI (iw_wI (iw_wI q5.2 7 (Int32.toNatClampNeg (q5.2.1 0 2)) v1) 8 (Int32.toNatClampNeg ((iw_wI q5.2 7 (Int32.toNatClampNeg (q5.2.1 0 2)) v1).1 0 2)) v2) 9 (Int32.toNatClampNeg ((iw_wI (iw_wI q5.2 7 (Int32.toNatClampNeg (q5.2.1 0 2)) v1) 8 (Int32.toNatClampNeg ((iw_wI q5.2 7 (Int32.toNatClampNeg (q5.2.1 0 2)) v1).1 0 2)) v2).1 0 2)) v3) 10 (Int32.toNatClampNeg ((iw_wI (iw_wI (iw_wI q5.2 7 (Int32.toNatClampNeg (q5.2.1 0 2)) v1) 8 (Int32.toNatClampNeg ((iw_wI q5.2 7 (Int32.toNatClampNeg (q5.2.1 0 2)) v1).1 0 2)) v2) 9 (Int32.toNatClampNeg ((iw_wI (iw_wI q5.2 7 (Int32.toNatClampNeg (q5.2.1 0 2)) v1) 8 (Int32.toNatClampNeg ((iw_wI q5.2 7 (Int32.toNatClampNeg (q5.2.1 0 2)) v1).1 0 2)) v2).1 0 2)) v3).1 0 2)) v4) 11 (Int32.toNatClampNeg ((iw_wI (iw_wI (iw_wI (iw_wI q5.2 7 (Int32.toNatClampNeg (q5.2.1 0 2)) v1) 8 (Int32.toNatClampNeg ((iw_wI q5.2 7 (Int32.toNatClampNeg (q5.2.1 0 2)) v1).1 0 2)) v2) 9 (Int32.toNatClampNeg ((iw_wI (iw_wI q5.2 7 (Int32.toNatClampNeg (q5.2.1 0 2)) v1) 8 (Int32.toNatClampNeg ((iw_wI q5.2 7 (Int32.toNatClampNeg (q5.2.1 0 2)) v1).1 0 2)) v2).1 0 2)) v3) 10 (Int32.toNatClampNeg ((iw_wI (iw_wI (iw_wI q5.2 7 (Int32.toNatClampNeg (q5.2.1 0 2)) v1) 8 (Int32.toNatClampNeg ((iw_wI q5.2 7 (Int32.toNatClampNeg (q5.2.1 0 2)) v1).1 0 2)) v2) 9 (Int32.toNatClampNeg ((iw_wI (iw_wI q5.2 7 (Int32.toNatClampNeg (q5.2.1 0 2)) v1) 8 (Int32.toNatClampNeg ((iw_wI q5.2 7 (Int32.toNatClampNeg (q5.2.1 0 2)) v1).1 0 2)) v2).1 0 2)) v3).1 0 2)) v4).1 0 2)) ((iw_wI (iw_wI (iw_wI (iw_wI q5.2 7 (Int32.toNatClampNeg (q5.2.1 0 2)) v1) 8 (Int32.toNatClampNeg ((iw_wI q5.2 7 (Int32.toNatClampNeg (q5.2.1 0 2)) v1).1 0 2)) v2) 9 (Int32.toNatClampNeg ((iw_wI (iw_wI q5.2 7 (Int32.toNatClampNeg (q5.2.1 0 2)) v1) 8 (Int32.toNatClampNeg ((iw_wI q5.2 7 (Int32.toNatClampNeg (q5.2.1 0 2)) v1).1 0 2)) v2).1 0 2)) v3) 10 (Int32.toNatClampNeg ((iw_wI (iw_wI (iw_wI q5.2 7 (Int32.toNatClampNeg (q5.2.1 0 2)) v1) 8 (Int32.toNatClampNeg ((iw_wI q5.2 7 (Int32.toNatClampNeg (q5.2.1 0 2)) v1).1 0 2)) v2) 9 (Int32.toNatClampNeg ((iw_wI (iw_wI q5.2 7 (Int32.toNatClampNeg (q5.2.1 0 2)) v1) 8 (Int32.toNatClampNeg ((iw_wI q5.2 7 (Int32.toNatClampNeg (q5.2.1 0 2)) v1).1 0 2)) v2).1 0 2)) v3).1 0 2)) v4).1 0 0)) 13 (Int32.toNatClampNeg ((iw_wI (iw_wI (iw_wI (iw_wI (iw_wI q5.2 7 (Int32.toNatClampNeg (q5.2.1 0 2)) v1) 8 (Int32.toNatClampNeg ((iw_wI q5.2 7 (Int32.toNatClampNeg (q5.2.1 0 2)) v1).1 0 2)) v2) 9 (Int32.toNatClampNeg ((iw_wI (iw_wI q5.2 7 (Int32.toNatClampNeg (q5.2.1 0 2)) v1) 8 (Int32.toNatClampNeg ((iw_wI q5.2 7 (Int32.toNatClampNeg (q5.2.1 0 2)) v1).1 0 2)) v2).1 0 2)) v3) 10 (Int32.toNatClampNeg ((iw_wI (iw_wI (iw_wI q5.2 7 (Int32.toNatClampNeg (q5.2.1 0 2)) v1) 8 (Int32.toNatClampNeg ((iw_wI q5.2 7 (Int32.toNatClampNeg (q5.2.1 0 2)) v1).1 0 2)) v2) 9 (Int32.toNatClampNeg ((iw_wI (iw_wI q5.2 7 (Int32.toNatClampNeg (q5.2.1 0 2)) v1) 8 (Int32.toNatClampNeg ((iw_wI q5.2 7 (Int32.toNatClampNeg (q5.2.1 0 2)) v1).1 0 2)) v2).1 0 2)) v3).1 0 2)) v4) 11 (Int32.toNatClampNeg ((iw_wI (iw_wI (iw_wI (iw_wI q5.2 7 (Int32.toNatClampNeg (q5.2.1 0 2)) v1) 8 (Int32.toNatClampNeg ((iw_wI q5.2 7 (Int32.toNatClampNeg (q5.2.1 0 2)) v1).1 0 2)) v2) 9 (Int32.toNatClampNeg ((iw_wI (iw_wI q5.2 7 (Int32.toNatClampNeg (q5.2.1 0 2)) v1) 8 (Int32.toNatClampNeg ((iw_wI q5.2 7 (Int32.toNatClampNeg (q5.2.1 0 2)) v1).1 0 2)) v2).1 0 2)) v3) 10 (Int32.toNatClampNeg ((iw_wI (iw_wI (iw_wI q5.2 7 (Int32.toNatClampNeg (q5.2.1 0 2)) v1) 8 (Int32.toNatClampNeg ((iw_wI q5.2 7 (Int32.toNatClampNeg (q5.2.1 0 2)) v1).1 0 2)) v2) 9 (Int32.toNatClampNeg ((iw_wI (iw_wI q5.2 7 (Int32.toNatClampNeg (q5.2.1 0 2)) v1) 8 (Int32.toNatClampNeg ((iw_wI q5.2 7 (Int32.toNatClampNeg (q5.2.1 0 2)) v1).1 0 2)) v2).1 0 2)) v3).1 0 2)) v4).1 0 2)) ((iw_wI (iw_wI (iw_wI (iw_wI q5.2 7 (Int32.toNatClampNeg (q5.2.1 0 2)) v1) 8 (Int32.toNatClampNeg ((iw_wI q5.2 7 (Int32.toNatClampNeg (q5.2.1 0 2)) v1).1 0 2)) v2) 9 (Int32.toNatClampNeg ((iw_wI (iw_wI q5.2 7 (Int32.toNatClampNeg (q5.2.1 0 2)) v1) 8 (Int32.toNatClampNeg ((iw_wI q5.2 7 (Int32.toNatClampNeg (q5.2.1 0 2)) v1).1 0 2)) v2).1 0 2)) v3) 10 (Int32.toNatClampNeg ((iw_wI (iw_wI (iw_wI q5.2 7 (Int32.toNatClampNeg (q5.2.1 0 2)) v1) 8 (Int32.toNatClampNeg ((iw_wI q5.2 7 (Int32.toNatClampNeg (q5.2.1 0 2)) v1).1 0 2)) v2) 9 (Int32.toNatClampNeg ((iw_wI (iw_wI q5.2 7 (Int32.toNatClampNeg (q5.2.1 0 2)) v1) 8 (Int32.toNatClampNeg ((iw_wI q5.2 7 (Int32.toNatClampNeg (q5.2.1 0 2)) v1).1 0 2)) v2).1 0 2)) v3).1 0 2)) v4).1 0 0)).1 0 2)) (-9 : Int32)).1 0 2) + (1 : Int32))))
  else none)
  else none)
  else none)
  else none)
  else none)
  else none)))
  else
  ((fX9_no (-4 : Int32) q5.2).bind (fun q8 =>
  some (q8.1, q8.2)))))))))))))
abbrev bX9_idea : iw_B := (cX9_idea, 5, { frames := 1, cells := 0, slots := 0, locals := 21 }, yX9_idea.cls, (some .int))
set_option maxRecDepth 100000 in
set_option maxHeartbeats 4000000 in
theorem kX9_idea (G : iw_G) (v1 : Int32) (v2 : Int32) (v3 : Int32) (v4 : Int32) (z : iw_M) : iw_K G iw_wM yX9_idea cX9_idea 5 (some .int) 1 21 iw_ei [.ref (iw_ad G 0), .int v1, .int v2, .int v3, .int v4] z (fX9_idea v1 v2 v3 v4 z) := by
  refine iw_of [(0, .ref (iw_ad G 0)), (1, .int v1), (2, .int v2), (3, .int v3), (4, .int v4)] (by decide +kernel) (Nat.le_of_ble_eq_true rfl) rfl ?_
  intro X hC
  unfold fX9_idea
  refine V_aln hC dX9_idea_0 0 rfl ?_
  refine V_iln hC dX9_idea_1 1 rfl ?_
  refine V_cvi [] hC cv_X9_132 (by decide) rfl rfl (kX9_isHand G _ _) rfl rfl (Nat.le_of_ble_eq_true rfl) ⟨by decide, by decide⟩ dX9_idea_2 ?_
  intro q1
  refine V_ieq 22 hC dX9_idea_5 (by decide) ?_ ?_
  · refine V_aln hC dX9_idea_22 0 rfl ?_
    refine V_ic (x := -1) hC dX9_idea_23 (by decide) ?_
    refine V_cvi [] hC cv_X9_128 (by decide) rfl rfl (kX9_no G _ _) rfl rfl (Nat.le_of_ble_eq_true rfl) ⟨by decide, by decide⟩ dX9_idea_24 ?_
    intro q2
    exact V_ir hC dX9_idea_27 rfl
  · refine V_iln hC dX9_idea_8 2 rfl ?_
    refine V_csi [] hC cs_X9_124 (kX9_isShop G _ _) rfl rfl (Nat.le_of_ble_eq_true rfl) ⟨by decide, by decide⟩ dX9_idea_9 ?_
    intro q3
    refine V_ieq 22 hC dX9_idea_12 (by decide) ?_ ?_
    · refine V_aln hC dX9_idea_22 0 rfl ?_
      refine V_ic (x := -1) hC dX9_idea_23 (by decide) ?_
      refine V_cvi [] hC cv_X9_128 (by decide) rfl rfl (kX9_no G _ _) rfl rfl (Nat.le_of_ble_eq_true rfl) ⟨by decide, by decide⟩ dX9_idea_24 ?_
      intro q4
      exact V_ir hC dX9_idea_27 rfl
    · refine V_iln hC dX9_idea_15 3 rfl ?_
      refine V_csi [] hC cs_X9_135 (kX9_isMarks G _ _) rfl rfl (Nat.le_of_ble_eq_true rfl) ⟨by decide, by decide⟩ dX9_idea_16 ?_
      intro q5
      refine V_ine 28 hC dX9_idea_19 (by decide) ?_ ?_
      · refine V_il hC dX9_idea_28 4 rfl ?_
        refine V_ige 40 hC dX9_idea_30 (by decide) ?_ ?_
        · refine V_il hC dX9_idea_40 4 rfl ?_
          refine V_bip (x := 9) hC dX9_idea_42 (by decide) ?_
          refine V_cgt 56 hC dX9_idea_44 (by decide) ?_ ?_
          · refine V_aln hC dX9_idea_56 0 rfl ?_
            refine V_bip (x := -6) hC dX9_idea_57 (by decide) ?_
            refine V_cvi [] hC cv_X9_128 (by decide) rfl rfl (kX9_no G _ _) rfl rfl (Nat.le_of_ble_eq_true rfl) ⟨by decide, by decide⟩ dX9_idea_59 ?_
            intro q6
            exact V_ir hC dX9_idea_62 rfl
          · refine V_aln hC dX9_idea_47 0 rfl ?_
            refine V_gi hC fl_X9_120 (by decide) rfl rfl dX9_idea_48 ?_
            refine V_bip (x := 40) hC dX9_idea_51 (by decide) ?_
            refine V_cne 63 hC dX9_idea_53 (by decide) ?_ ?_
            · refine V_aln hC dX9_idea_63 0 rfl ?_
              refine V_gr hC fl_X9_42 (by decide) rfl rfl dX9_idea_64 ?_
              refine V_aln hC dX9_idea_67 0 rfl ?_
              refine V_gi hC fl_X9_120 (by decide) rfl rfl dX9_idea_68 ?_
              refine V_iln hC dX9_idea_71 1 rfl ?_
              refine V_is_ hC (by decide) rfl dX9_idea_72 ?_
              refine V_aln hC dX9_idea_73 0 rfl ?_
              refine V_gr hC fl_X9_45 (by decide) rfl rfl dX9_idea_74 ?_
              refine V_aln hC dX9_idea_77 0 rfl ?_
              refine V_gi hC fl_X9_120 (by decide) rfl rfl dX9_idea_78 ?_
              refine V_iln hC dX9_idea_81 2 rfl ?_
              refine V_is_ hC (by decide) rfl dX9_idea_82 ?_
              refine V_aln hC dX9_idea_83 0 rfl ?_
              refine V_gr hC fl_X9_48 (by decide) rfl rfl dX9_idea_84 ?_
              refine V_aln hC dX9_idea_87 0 rfl ?_
              refine V_gi hC fl_X9_120 (by decide) rfl rfl dX9_idea_88 ?_
              refine V_iln hC dX9_idea_91 3 rfl ?_
              refine V_is_ hC (by decide) rfl dX9_idea_92 ?_
              refine V_aln hC dX9_idea_93 0 rfl ?_
              refine V_gr hC fl_X9_51 (by decide) rfl rfl dX9_idea_94 ?_
              refine V_aln hC dX9_idea_97 0 rfl ?_
              refine V_gi hC fl_X9_120 (by decide) rfl rfl dX9_idea_98 ?_
              refine V_il hC dX9_idea_101 4 rfl ?_
              refine V_is_ hC (by decide) rfl dX9_idea_103 ?_
              refine V_aln hC dX9_idea_104 0 rfl ?_
              refine V_gr hC fl_X9_54 (by decide) rfl rfl dX9_idea_105 ?_
              refine V_aln hC dX9_idea_108 0 rfl ?_
              refine V_gi hC fl_X9_120 (by decide) rfl rfl dX9_idea_109 ?_
              refine V_aln hC dX9_idea_112 0 rfl ?_
              refine V_gi hC fl_X9_138 (by decide) rfl rfl dX9_idea_113 ?_
              refine V_is_ hC (by decide) rfl dX9_idea_116 ?_
              refine V_aln hC dX9_idea_117 0 rfl ?_
              refine V_gr hC fl_X9_60 (by decide) rfl rfl dX9_idea_118 ?_
              refine V_aln hC dX9_idea_121 0 rfl ?_
              refine V_gi hC fl_X9_120 (by decide) rfl rfl dX9_idea_122 ?_
              refine V_bip (x := -9) hC dX9_idea_125 (by decide) ?_
              refine V_is_ hC (by decide) rfl dX9_idea_127 ?_
              refine V_aln hC dX9_idea_128 0 rfl ?_
              refine V_dup hC dX9_idea_129 rfl ?_
              refine V_gi hC fl_X9_120 (by decide) rfl rfl dX9_idea_130 ?_
              refine V_dupx1 hC dX9_idea_133 rfl rfl ?_
              refine V_ic (x := 1) hC dX9_idea_134 (by decide) ?_
              refine V_iadd hC dX9_idea_135 ?_
              refine V_pi hC fp_X9_120 (by decide) rfl rfl dX9_idea_136 ?_
              exact V_ir hC dX9_idea_139 rfl
            · refine V_aln hC dX9_idea_56 0 rfl ?_
              refine V_bip (x := -6) hC dX9_idea_57 (by decide) ?_
              refine V_cvi [] hC cv_X9_128 (by decide) rfl rfl (kX9_no G _ _) rfl rfl (Nat.le_of_ble_eq_true rfl) ⟨by decide, by decide⟩ dX9_idea_59 ?_
              intro q7
              exact V_ir hC dX9_idea_62 rfl
        · refine V_aln hC dX9_idea_33 0 rfl ?_
          refine V_bip (x := -4) hC dX9_idea_34 (by decide) ?_
          refine V_cvi [] hC cv_X9_128 (by decide) rfl rfl (kX9_no G _ _) rfl rfl (Nat.le_of_ble_eq_true rfl) ⟨by decide, by decide⟩ dX9_idea_36 ?_
          intro q8
          exact V_ir hC dX9_idea_39 rfl
      · refine V_aln hC dX9_idea_22 0 rfl ?_
        refine V_ic (x := -1) hC dX9_idea_23 (by decide) ?_
        refine V_cvi [] hC cv_X9_128 (by decide) rfl rfl (kX9_no G _ _) rfl rfl (Nat.le_of_ble_eq_true rfl) ⟨by decide, by decide⟩ dX9_idea_24 ?_
        intro q9
        exact V_ir hC dX9_idea_27 rfl
def fX9_isOf_L14 (v1 : Int32) (v2 : Int32) (K : Int32 → iw_M → Option (Int32 × iw_M)) : Nat → Int32 → iw_M → Option (Int32 × iw_M)
  | 0, _, _ => none
  | n + 1, v3, z => (if iw_ok v1 40 then
  (if (z.1 16 (Int32.toNatClampNeg v1)) ≤ v3 then
  K v3 z
  else
  (if iw_ok (((6 : Int32) * v1) + v3) 240 then
  (if (z.1 17 (Int32.toNatClampNeg (((6 : Int32) * v1) + v3))) = v2 then
  some ((1 : Int32), z)
  else
  fX9_isOf_L14 v1 v2 K n (v3 + (1 : Int32)) z)
  else none))
  else none)
def fX9_isOf (v1 : Int32) (v2 : Int32) (z : iw_M) : Option (Int32 × iw_M) :=
  (if iw_ok v1 40 then
  (if (z.1 7 (Int32.toNatClampNeg v1)) = v2 then
  some ((1 : Int32), z)
  else
  fX9_isOf_L14 v1 v2 (fun x3_1 z_1 => some ((0 : Int32), z_1)) iw_fu (0 : Int32) z)
  else none)
abbrev bX9_isOf : iw_B := (cX9_isOf, 4, { frames := 0, cells := 0, slots := 0, locals := 0 }, yX9_isOf.cls, (some .boolean))
set_option maxRecDepth 100000 in
set_option maxHeartbeats 4000000 in
theorem vX9_isOf_L14 {G : iw_G} {X : iw_X} (hC : iw_C G iw_wM X bX9_isOf) (v1 : Int32) (v2 : Int32) (K : Int32 → iw_M → Option (Int32 × iw_M)) (hK : ∀ (v3 : Int32) (z : iw_M), iw_V G iw_wM X bX9_isOf iw_ei 47 [(0, .ref (iw_ad G 0)), (1, .int v1), (2, .int v2), (3, .int v3)] [] z (K v3 z)) : ∀ (n : Nat) (v3 : Int32) (z : iw_M), iw_V G iw_wM X bX9_isOf iw_ei 14 [(0, .ref (iw_ad G 0)), (1, .int v1), (2, .int v2), (3, .int v3)] [] z (fX9_isOf_L14 v1 v2 K n v3 z) := by
  intro n
  induction n with
  | zero =>
    intro v3 z
    exact V_none
  | succ n ih =>
    intro v3 z
    simp only [fX9_isOf_L14]
    refine V_iln hC dX9_isOf_14 3 rfl ?_
    refine V_aln hC dX9_isOf_15 0 rfl ?_
    refine V_gr hC fl_X9_69 (by decide) rfl rfl dX9_isOf_16 ?_
    refine V_iln hC dX9_isOf_19 1 rfl ?_
    refine V_ia hC (by decide) rfl dX9_isOf_20 ?_
    refine V_cge 47 hC dX9_isOf_21 (by decide) ?_ ?_
    · exact hK _ _
    · refine V_aln hC dX9_isOf_24 0 rfl ?_
      refine V_gr hC fl_X9_72 (by decide) rfl rfl dX9_isOf_25 ?_
      refine V_bip (x := 6) hC dX9_isOf_28 (by decide) ?_
      refine V_iln hC dX9_isOf_30 1 rfl ?_
      refine V_imul hC dX9_isOf_31 ?_
      refine V_iln hC dX9_isOf_32 3 rfl ?_
      refine V_iadd hC dX9_isOf_33 ?_
      refine V_ia hC (by decide) rfl dX9_isOf_34 ?_
      refine V_iln hC dX9_isOf_35 2 rfl ?_
      refine V_cne 41 hC dX9_isOf_36 (by decide) ?_ ?_
      · refine V_inc (k := 3) (y := 1) [(3, .int _), (0, .ref _), (1, .int _), (2, .int _)] hC dX9_isOf_41 rfl (by decide) (by decide) rfl ?_
        refine V_goto 14 hC dX9_isOf_44 (by decide) ?_
        refine V_sub [(0, .ref _), (1, .int _), (2, .int _), (3, .int _)] [1, 2, 3, 0] rfl ?_
        exact ih _ _
      · refine V_ic (x := 1) hC dX9_isOf_39 (by decide) ?_
        exact V_zr hC dX9_isOf_40 rfl rfl
set_option maxRecDepth 100000 in
set_option maxHeartbeats 4000000 in
theorem kX9_isOf (G : iw_G) (v1 : Int32) (v2 : Int32) (z : iw_M) : iw_K G iw_wM yX9_isOf cX9_isOf 4 (some .boolean) 0 0 iw_ei [.ref (iw_ad G 0), .int v1, .int v2] z (fX9_isOf v1 v2 z) := by
  refine iw_of [(0, .ref (iw_ad G 0)), (1, .int v1), (2, .int v2)] (by decide +kernel) (Nat.le_of_ble_eq_true rfl) rfl ?_
  intro X hC
  unfold fX9_isOf
  refine V_aln hC dX9_isOf_0 0 rfl ?_
  refine V_gr hC fl_X9_42 (by decide) rfl rfl dX9_isOf_1 ?_
  refine V_iln hC dX9_isOf_4 1 rfl ?_
  refine V_ia hC (by decide) rfl dX9_isOf_5 ?_
  refine V_iln hC dX9_isOf_6 2 rfl ?_
  refine V_cne 12 hC dX9_isOf_7 (by decide) ?_ ?_
  · refine V_ic (x := 0) hC dX9_isOf_12 (by decide) ?_
    refine V_isn [(3, .int _), (0, .ref _), (1, .int _), (2, .int _)] hC dX9_isOf_13 (by decide) rfl ?_
    refine V_sub [(0, .ref _), (1, .int _), (2, .int _), (3, .int _)] [1, 2, 3, 0] rfl ?_
    refine vX9_isOf_L14 hC _ _ _ ?_ _ _ _
    intro x3_1 z_1
    refine V_ic (x := 0) hC dX9_isOf_47 (by decide) ?_
    exact V_zr hC dX9_isOf_48 rfl rfl
  · refine V_ic (x := 1) hC dX9_isOf_10 (by decide) ?_
    exact V_zr hC dX9_isOf_11 rfl rfl
def fX9_team (v1 : Int32) (v2 : Int32) (z : iw_M) : Option (Int32 × iw_M) :=
  ((fX9_isIdea v1 z).bind (fun q1 =>
  (if q1.1 = 0 then
  ((fX9_no (-1 : Int32) q1.2).bind (fun q2 =>
  some (q2.1, q2.2)))
  else
  ((fX9_isHand v2 q1.2).bind (fun q3 =>
  (if q3.1 = 0 then
  ((fX9_no (-1 : Int32) q3.2).bind (fun q7 =>
  some (q7.1, q7.2)))
  else
  ((fX9_isOf v1 v2 q3.2).bind (fun q4 =>
  (if q4.1 = 0 then
  (if iw_ok v1 40 then
  (if (q4.2.1 16 (Int32.toNatClampNeg v1)) = (6 : Int32) then
  ((fX9_no (-6 : Int32) q4.2).bind (fun q5 =>
  some (q5.1, q5.2)))
  else
  (if iw_ok v1 40 then
  (if iw_ok (((6 : Int32) * v1) + (q4.2.1 16 (Int32.toNatClampNeg v1))) 240 then
  (if iw_ok v1 40 then
  (if iw_ok v1 40 then
  some ((((iw_wI q4.2 17 (Int32.toNatClampNeg (((6 : Int32) * v1) + (q4.2.1 16 (Int32.toNatClampNeg v1)))) v2).1 16 (Int32.toNatClampNeg v1)) + (1 : Int32)), (iw_wI (iw_wI q4.2 17 (Int32.toNatClampNeg (((6 : Int32) * v1) + (q4.2.1 16 (Int32.toNatClampNeg v1)))) v2) 16 (Int32.toNatClampNeg v1) (((iw_wI q4.2 17 (Int32.toNatClampNeg (((6 : Int32) * v1) + (q4.2.1 16 (Int32.toNatClampNeg v1)))) v2).1 16 (Int32.toNatClampNeg v1)) + (1 : Int32))))
  else none)
  else none)
  else none)
  else none))
  else none)
  else
  ((fX9_no (-3 : Int32) q4.2).bind (fun q6 =>
  some (q6.1, q6.2))))))))))))
abbrev bX9_team : iw_B := (cX9_team, 3, { frames := 1, cells := 0, slots := 0, locals := 23 }, yX9_team.cls, (some .int))
set_option maxRecDepth 100000 in
set_option maxHeartbeats 4000000 in
theorem kX9_team (G : iw_G) (v1 : Int32) (v2 : Int32) (z : iw_M) : iw_K G iw_wM yX9_team cX9_team 3 (some .int) 1 23 iw_ei [.ref (iw_ad G 0), .int v1, .int v2] z (fX9_team v1 v2 z) := by
  refine iw_of [(0, .ref (iw_ad G 0)), (1, .int v1), (2, .int v2)] (by decide +kernel) (Nat.le_of_ble_eq_true rfl) rfl ?_
  intro X hC
  unfold fX9_team
  refine V_aln hC dX9_team_0 0 rfl ?_
  refine V_iln hC dX9_team_1 1 rfl ?_
  refine V_cvi [] hC cv_X9_141 (by decide) rfl rfl (kX9_isIdea G _ _) rfl rfl (Nat.le_of_ble_eq_true rfl) ⟨by decide, by decide⟩ dX9_team_2 ?_
  intro q1
  refine V_ieq 16 hC dX9_team_5 (by decide) ?_ ?_
  · refine V_aln hC dX9_team_16 0 rfl ?_
    refine V_ic (x := -1) hC dX9_team_17 (by decide) ?_
    refine V_cvi [] hC cv_X9_128 (by decide) rfl rfl (kX9_no G _ _) rfl rfl (Nat.le_of_ble_eq_true rfl) ⟨by decide, by decide⟩ dX9_team_18 ?_
    intro q2
    exact V_ir hC dX9_team_21 rfl
  · refine V_aln hC dX9_team_8 0 rfl ?_
    refine V_iln hC dX9_team_9 2 rfl ?_
    refine V_cvi [] hC cv_X9_132 (by decide) rfl rfl (kX9_isHand G _ _) rfl rfl (Nat.le_of_ble_eq_true rfl) ⟨by decide, by decide⟩ dX9_team_10 ?_
    intro q3
    refine V_ine 22 hC dX9_team_13 (by decide) ?_ ?_
    · refine V_aln hC dX9_team_22 0 rfl ?_
      refine V_iln hC dX9_team_23 1 rfl ?_
      refine V_iln hC dX9_team_24 2 rfl ?_
      refine V_cvi [] hC cv_X9_144 (by decide) rfl rfl (kX9_isOf G _ _ _) rfl rfl (Nat.le_of_ble_eq_true rfl) ⟨by decide, by decide⟩ dX9_team_25 ?_
      intro q4
      refine V_ieq 38 hC dX9_team_28 (by decide) ?_ ?_
      · refine V_aln hC dX9_team_38 0 rfl ?_
        refine V_gr hC fl_X9_69 (by decide) rfl rfl dX9_team_39 ?_
        refine V_iln hC dX9_team_42 1 rfl ?_
        refine V_ia hC (by decide) rfl dX9_team_43 ?_
        refine V_bip (x := 6) hC dX9_team_44 (by decide) ?_
        refine V_cne 56 hC dX9_team_46 (by decide) ?_ ?_
        · refine V_aln hC dX9_team_56 0 rfl ?_
          refine V_gr hC fl_X9_72 (by decide) rfl rfl dX9_team_57 ?_
          refine V_bip (x := 6) hC dX9_team_60 (by decide) ?_
          refine V_iln hC dX9_team_62 1 rfl ?_
          refine V_imul hC dX9_team_63 ?_
          refine V_aln hC dX9_team_64 0 rfl ?_
          refine V_gr hC fl_X9_69 (by decide) rfl rfl dX9_team_65 ?_
          refine V_iln hC dX9_team_68 1 rfl ?_
          refine V_ia hC (by decide) rfl dX9_team_69 ?_
          refine V_iadd hC dX9_team_70 ?_
          refine V_iln hC dX9_team_71 2 rfl ?_
          refine V_is_ hC (by decide) rfl dX9_team_72 ?_
          refine V_aln hC dX9_team_73 0 rfl ?_
          refine V_gr hC fl_X9_69 (by decide) rfl rfl dX9_team_74 ?_
          refine V_iln hC dX9_team_77 1 rfl ?_
          refine V_dup2 hC dX9_team_78 rfl rfl ?_
          refine V_ia hC (by decide) rfl dX9_team_79 ?_
          refine V_ic (x := 1) hC dX9_team_80 (by decide) ?_
          refine V_iadd hC dX9_team_81 ?_
          refine V_dupx2 hC dX9_team_82 rfl rfl rfl ?_
          refine V_is_ hC (by decide) rfl dX9_team_83 ?_
          exact V_ir hC dX9_team_84 rfl
        · refine V_aln hC dX9_team_49 0 rfl ?_
          refine V_bip (x := -6) hC dX9_team_50 (by decide) ?_
          refine V_cvi [] hC cv_X9_128 (by decide) rfl rfl (kX9_no G _ _) rfl rfl (Nat.le_of_ble_eq_true rfl) ⟨by decide, by decide⟩ dX9_team_52 ?_
          intro q5
          exact V_ir hC dX9_team_55 rfl
      · refine V_aln hC dX9_team_31 0 rfl ?_
        refine V_bip (x := -3) hC dX9_team_32 (by decide) ?_
        refine V_cvi [] hC cv_X9_128 (by decide) rfl rfl (kX9_no G _ _) rfl rfl (Nat.le_of_ble_eq_true rfl) ⟨by decide, by decide⟩ dX9_team_34 ?_
        intro q6
        exact V_ir hC dX9_team_37 rfl
    · refine V_aln hC dX9_team_16 0 rfl ?_
      refine V_ic (x := -1) hC dX9_team_17 (by decide) ?_
      refine V_cvi [] hC cv_X9_128 (by decide) rfl rfl (kX9_no G _ _) rfl rfl (Nat.le_of_ble_eq_true rfl) ⟨by decide, by decide⟩ dX9_team_18 ?_
      intro q7
      exact V_ir hC dX9_team_21 rfl
def fX9_set_J118 (v1 : Int32) (v2 : Int32) (s0 : Int32) (z : iw_M) : Option (Int32 × iw_M) :=
  (if v1 = 0 then
  some (s0, (iw_wI z 0 6 v2))
  else
  (if v1 = (1 : Int32) then
  some (s0, (iw_wI z 0 7 v2))
  else
  (if v1 = (2 : Int32) then
  some (s0, (iw_wI z 0 8 v2))
  else
  some (s0, (iw_wI z 0 9 v2)))))
def fX9_set_J69 (v1 : Int32) (v2 : Int32) (s0 : Int32) (s1 : Int32) (z : iw_M) : Option (Int32 × iw_M) :=
  (if s0 ≤ s1 then
  (if v1 = 0 then
  fX9_set_J118 v1 v2 (z.1 0 6) z
  else
  (if v1 = (1 : Int32) then
  fX9_set_J118 v1 v2 (z.1 0 7) z
  else
  (if v1 = (2 : Int32) then
  fX9_set_J118 v1 v2 (z.1 0 8) z
  else
  fX9_set_J118 v1 v2 (z.1 0 9) z)))
  else
  ((fX9_no (-6 : Int32) z).bind (fun q2 =>
  some (q2.1, q2.2))))
def fX9_set_J26 (v1 : Int32) (v2 : Int32) (s0 : Int32) (s1 : Int32) (z : iw_M) : Option (Int32 × iw_M) :=
  (if s1 ≤ s0 then
  (if v1 = 0 then
  fX9_set_J69 v1 v2 v2 (40 : Int32) z
  else
  (if v1 = (1 : Int32) then
  fX9_set_J69 v1 v2 v2 (1000 : Int32) z
  else
  (if v1 = (2 : Int32) then
  fX9_set_J69 v1 v2 v2 (100 : Int32) z
  else
  fX9_set_J69 v1 v2 v2 (99 : Int32) z)))
  else
  ((fX9_no (-4 : Int32) z).bind (fun q3 =>
  some (q3.1, q3.2))))
def fX9_set (v1 : Int32) (v2 : Int32) (z : iw_M) : Option (Int32 × iw_M) :=
  (if v1 < 0 then
  ((fX9_no (-2 : Int32) z).bind (fun q1 =>
  some (q1.1, q1.2)))
  else
  (if v1 ≤ (3 : Int32) then
  (if v1 = 0 then
  fX9_set_J26 v1 v2 v2 (1 : Int32) z
  else
  fX9_set_J26 v1 v2 v2 (0 : Int32) z)
  else
  ((fX9_no (-2 : Int32) z).bind (fun q4 =>
  some (q4.1, q4.2)))))
abbrev bX9_set : iw_B := (cX9_set, 4, { frames := 1, cells := 0, slots := 0, locals := 21 }, yX9_set.cls, (some .int))
set_option maxRecDepth 100000 in
set_option maxHeartbeats 4000000 in
theorem vX9_set_J118 {G : iw_G} {X : iw_X} (hC : iw_C G iw_wM X bX9_set) (v1 : Int32) (v2 : Int32) (s0 : Int32) (z : iw_M) : iw_V G iw_wM X bX9_set iw_ei 118 [(0, .ref (iw_ad G 0)), (1, .int v1), (2, .int v2)] [.int s0] z (fX9_set_J118 v1 v2 s0 z) := by
  unfold fX9_set_J118
  refine V_isn [(3, .int _), (0, .ref _), (1, .int _), (2, .int _)] hC dX9_set_118 (by decide) rfl ?_
  refine V_iln hC dX9_set_119 2 rfl ?_
  refine V_ine 131 hC dX9_set_120 (by decide) ?_ ?_
  · refine V_iln hC dX9_set_131 2 rfl ?_
    refine V_ic (x := 1) hC dX9_set_132 (by decide) ?_
    refine V_cne 144 hC dX9_set_133 (by decide) ?_ ?_
    · refine V_iln hC dX9_set_144 2 rfl ?_
      refine V_ic (x := 2) hC dX9_set_145 (by decide) ?_
      refine V_cne 157 hC dX9_set_146 (by decide) ?_ ?_
      · refine V_aln hC dX9_set_157 1 rfl ?_
        refine V_iln hC dX9_set_158 3 rfl ?_
        refine V_pi hC fp_X9_19 (by decide) rfl rfl dX9_set_159 ?_
        refine V_iln hC dX9_set_162 0 rfl ?_
        exact V_ir hC dX9_set_163 rfl
      · refine V_aln hC dX9_set_149 1 rfl ?_
        refine V_iln hC dX9_set_150 3 rfl ?_
        refine V_pi hC fp_X9_16 (by decide) rfl rfl dX9_set_151 ?_
        refine V_goto 162 hC dX9_set_154 (by decide) ?_
        refine V_iln hC dX9_set_162 0 rfl ?_
        exact V_ir hC dX9_set_163 rfl
    · refine V_aln hC dX9_set_136 1 rfl ?_
      refine V_iln hC dX9_set_137 3 rfl ?_
      refine V_pi hC fp_X9_13 (by decide) rfl rfl dX9_set_138 ?_
      refine V_goto 162 hC dX9_set_141 (by decide) ?_
      refine V_iln hC dX9_set_162 0 rfl ?_
      exact V_ir hC dX9_set_163 rfl
  · refine V_aln hC dX9_set_123 1 rfl ?_
    refine V_iln hC dX9_set_124 3 rfl ?_
    refine V_pi hC fp_X9_7 (by decide) rfl rfl dX9_set_125 ?_
    refine V_goto 162 hC dX9_set_128 (by decide) ?_
    refine V_iln hC dX9_set_162 0 rfl ?_
    exact V_ir hC dX9_set_163 rfl
set_option maxRecDepth 100000 in
set_option maxHeartbeats 4000000 in
theorem vX9_set_J69 {G : iw_G} {X : iw_X} (hC : iw_C G iw_wM X bX9_set) (v1 : Int32) (v2 : Int32) (s0 : Int32) (s1 : Int32) (z : iw_M) : iw_V G iw_wM X bX9_set iw_ei 69 [(0, .ref (iw_ad G 0)), (1, .int v1), (2, .int v2)] [.int s1, .int s0] z (fX9_set_J69 v1 v2 s0 s1 z) := by
  unfold fX9_set_J69
  refine V_cle 79 hC dX9_set_69 (by decide) ?_ ?_
  · refine V_iln hC dX9_set_79 1 rfl ?_
    refine V_ine 90 hC dX9_set_80 (by decide) ?_ ?_
    · refine V_iln hC dX9_set_90 1 rfl ?_
      refine V_ic (x := 1) hC dX9_set_91 (by decide) ?_
      refine V_cne 102 hC dX9_set_92 (by decide) ?_ ?_
      · refine V_iln hC dX9_set_102 1 rfl ?_
        refine V_ic (x := 2) hC dX9_set_103 (by decide) ?_
        refine V_cne 114 hC dX9_set_104 (by decide) ?_ ?_
        · refine V_aln hC dX9_set_114 0 rfl ?_
          refine V_gi hC fl_X9_19 (by decide) rfl rfl dX9_set_115 ?_
          exact vX9_set_J118 hC _ _ _ _
        · refine V_aln hC dX9_set_107 0 rfl ?_
          refine V_gi hC fl_X9_16 (by decide) rfl rfl dX9_set_108 ?_
          refine V_goto 118 hC dX9_set_111 (by decide) ?_
          exact vX9_set_J118 hC _ _ _ _
      · refine V_aln hC dX9_set_95 0 rfl ?_
        refine V_gi hC fl_X9_13 (by decide) rfl rfl dX9_set_96 ?_
        refine V_goto 118 hC dX9_set_99 (by decide) ?_
        exact vX9_set_J118 hC _ _ _ _
    · refine V_aln hC dX9_set_83 0 rfl ?_
      refine V_gi hC fl_X9_7 (by decide) rfl rfl dX9_set_84 ?_
      refine V_goto 118 hC dX9_set_87 (by decide) ?_
      exact vX9_set_J118 hC _ _ _ _
  · refine V_aln hC dX9_set_72 0 rfl ?_
    refine V_bip (x := -6) hC dX9_set_73 (by decide) ?_
    refine V_cvi [] hC cv_X9_128 (by decide) rfl rfl (kX9_no G _ _) rfl rfl (Nat.le_of_ble_eq_true rfl) ⟨by decide, by decide⟩ dX9_set_75 ?_
    intro q2
    exact V_ir hC dX9_set_78 rfl
set_option maxRecDepth 100000 in
set_option maxHeartbeats 4000000 in
theorem vX9_set_J26 {G : iw_G} {X : iw_X} (hC : iw_C G iw_wM X bX9_set) (v1 : Int32) (v2 : Int32) (s0 : Int32) (s1 : Int32) (z : iw_M) : iw_V G iw_wM X bX9_set iw_ei 26 [(0, .ref (iw_ad G 0)), (1, .int v1), (2, .int v2)] [.int s1, .int s0] z (fX9_set_J26 v1 v2 s0 s1 z) := by
  unfold fX9_set_J26
  refine V_cge 36 hC dX9_set_26 (by decide) ?_ ?_
  · refine V_iln hC dX9_set_36 2 rfl ?_
    refine V_iln hC dX9_set_37 1 rfl ?_
    refine V_ine 46 hC dX9_set_38 (by decide) ?_ ?_
    · refine V_iln hC dX9_set_46 1 rfl ?_
      refine V_ic (x := 1) hC dX9_set_47 (by decide) ?_
      refine V_cne 57 hC dX9_set_48 (by decide) ?_ ?_
      · refine V_iln hC dX9_set_57 1 rfl ?_
        refine V_ic (x := 2) hC dX9_set_58 (by decide) ?_
        refine V_cne 67 hC dX9_set_59 (by decide) ?_ ?_
        · refine V_bip (x := 99) hC dX9_set_67 (by decide) ?_
          exact vX9_set_J69 hC _ _ _ _ _
        · refine V_bip (x := 100) hC dX9_set_62 (by decide) ?_
          refine V_goto 69 hC dX9_set_64 (by decide) ?_
          exact vX9_set_J69 hC _ _ _ _ _
      · refine V_sip (x := 1000) hC dX9_set_51 (by decide) ?_
        refine V_goto 69 hC dX9_set_54 (by decide) ?_
        exact vX9_set_J69 hC _ _ _ _ _
    · refine V_bip (x := 40) hC dX9_set_41 (by decide) ?_
      refine V_goto 69 hC dX9_set_43 (by decide) ?_
      exact vX9_set_J69 hC _ _ _ _ _
  · refine V_aln hC dX9_set_29 0 rfl ?_
    refine V_bip (x := -4) hC dX9_set_30 (by decide) ?_
    refine V_cvi [] hC cv_X9_128 (by decide) rfl rfl (kX9_no G _ _) rfl rfl (Nat.le_of_ble_eq_true rfl) ⟨by decide, by decide⟩ dX9_set_32 ?_
    intro q3
    exact V_ir hC dX9_set_35 rfl
set_option maxRecDepth 100000 in
set_option maxHeartbeats 4000000 in
theorem kX9_set (G : iw_G) (v1 : Int32) (v2 : Int32) (z : iw_M) : iw_K G iw_wM yX9_set cX9_set 4 (some .int) 1 21 iw_ei [.ref (iw_ad G 0), .int v1, .int v2] z (fX9_set v1 v2 z) := by
  refine iw_of [(0, .ref (iw_ad G 0)), (1, .int v1), (2, .int v2)] (by decide +kernel) (Nat.le_of_ble_eq_true rfl) rfl ?_
  intro X hC
  unfold fX9_set
  refine V_iln hC dX9_set_0 1 rfl ?_
  refine V_ilt 9 hC dX9_set_1 (by decide) ?_ ?_
  · refine V_aln hC dX9_set_9 0 rfl ?_
    refine V_bip (x := -2) hC dX9_set_10 (by decide) ?_
    refine V_cvi [] hC cv_X9_128 (by decide) rfl rfl (kX9_no G _ _) rfl rfl (Nat.le_of_ble_eq_true rfl) ⟨by decide, by decide⟩ dX9_set_12 ?_
    intro q1
    exact V_ir hC dX9_set_15 rfl
  · refine V_iln hC dX9_set_4 1 rfl ?_
    refine V_ic (x := 3) hC dX9_set_5 (by decide) ?_
    refine V_cle 16 hC dX9_set_6 (by decide) ?_ ?_
    · refine V_iln hC dX9_set_16 2 rfl ?_
      refine V_iln hC dX9_set_17 1 rfl ?_
      refine V_ine 25 hC dX9_set_18 (by decide) ?_ ?_
      · refine V_ic (x := 0) hC dX9_set_25 (by decide) ?_
        exact vX9_set_J26 hC _ _ _ _ _
      · refine V_ic (x := 1) hC dX9_set_21 (by decide) ?_
        refine V_goto 26 hC dX9_set_22 (by decide) ?_
        exact vX9_set_J26 hC _ _ _ _ _
    · refine V_aln hC dX9_set_9 0 rfl ?_
      refine V_bip (x := -2) hC dX9_set_10 (by decide) ?_
      refine V_cvi [] hC cv_X9_128 (by decide) rfl rfl (kX9_no G _ _) rfl rfl (Nat.le_of_ble_eq_true rfl) ⟨by decide, by decide⟩ dX9_set_12 ?_
      intro q4
      exact V_ir hC dX9_set_15 rfl
def fX9_bits_L4 (v0 : Int32) (K : Int32 → Int32 → iw_M → Option (Int32 × iw_M)) : Nat → Int32 → Int32 → iw_M → Option (Int32 × iw_M)
  | 0, _, _, _ => none
  | n + 1, v1, v2, z => (if (16 : Int32) ≤ v2 then
  K v1 v2 z
  else
  fX9_bits_L4 v0 K n (v1 + ((v0 >>> (v2 &&& 31)) &&& (1 : Int32))) (v2 + (1 : Int32)) z)
def fX9_bits (v0 : Int32) (z : iw_M) : Option (Int32 × iw_M) :=
  fX9_bits_L4 v0 (fun x1_1 x2_1 z_1 => some (x1_1, z_1)) iw_fu (0 : Int32) (0 : Int32) z
abbrev bX9_bits : iw_B := (cX9_bits, 3, { frames := 0, cells := 0, slots := 0, locals := 0 }, yX9_bits.cls, (some .int))
set_option maxRecDepth 100000 in
set_option maxHeartbeats 4000000 in
theorem vX9_bits_L4 {G : iw_G} {X : iw_X} (hC : iw_C G iw_wM X bX9_bits) (v0 : Int32) (K : Int32 → Int32 → iw_M → Option (Int32 × iw_M)) (hK : ∀ (v1 : Int32) (v2 : Int32) (z : iw_M), iw_V G iw_wM X bX9_bits iw_ei 24 [(0, .int v0), (1, .int v1), (2, .int v2)] [] z (K v1 v2 z)) : ∀ (n : Nat) (v1 : Int32) (v2 : Int32) (z : iw_M), iw_V G iw_wM X bX9_bits iw_ei 4 [(0, .int v0), (1, .int v1), (2, .int v2)] [] z (fX9_bits_L4 v0 K n v1 v2 z) := by
  intro n
  induction n with
  | zero =>
    intro v1 v2 z
    exact V_none
  | succ n ih =>
    intro v1 v2 z
    simp only [fX9_bits_L4]
    refine V_iln hC dX9_bits_4 2 rfl ?_
    refine V_bip (x := 16) hC dX9_bits_5 (by decide) ?_
    refine V_cge 24 hC dX9_bits_7 (by decide) ?_ ?_
    · exact hK _ _ _
    · refine V_iln hC dX9_bits_10 1 rfl ?_
      refine V_iln hC dX9_bits_11 0 rfl ?_
      refine V_iln hC dX9_bits_12 2 rfl ?_
      refine V_ishr hC dX9_bits_13 ?_
      refine V_ic (x := 1) hC dX9_bits_14 (by decide) ?_
      refine V_iand hC dX9_bits_15 ?_
      refine V_iadd hC dX9_bits_16 ?_
      refine V_isn [(1, .int _), (0, .int _), (2, .int _)] hC dX9_bits_17 (by decide) rfl ?_
      refine V_inc (k := 2) (y := 1) [(2, .int _), (1, .int _), (0, .int _)] hC dX9_bits_18 rfl (by decide) (by decide) rfl ?_
      refine V_goto 4 hC dX9_bits_21 (by decide) ?_
      refine V_sub [(0, .int _), (1, .int _), (2, .int _)] [2, 1, 0] rfl ?_
      exact ih _ _ _
set_option maxRecDepth 100000 in
set_option maxHeartbeats 4000000 in
theorem kX9_bits (G : iw_G) (v0 : Int32) (z : iw_M) : iw_K G iw_wM yX9_bits cX9_bits 3 (some .int) 0 0 iw_ei [.int v0] z (fX9_bits v0 z) := by
  refine iw_of [(0, .int v0)] (by decide +kernel) (Nat.le_of_ble_eq_true rfl) rfl ?_
  intro X hC
  unfold fX9_bits
  refine V_ic (x := 0) hC dX9_bits_0 (by decide) ?_
  refine V_isn [(1, .int _), (0, .int _)] hC dX9_bits_1 (by decide) rfl ?_
  refine V_ic (x := 0) hC dX9_bits_2 (by decide) ?_
  refine V_isn [(2, .int _), (1, .int _), (0, .int _)] hC dX9_bits_3 (by decide) rfl ?_
  refine V_sub [(0, .int _), (1, .int _), (2, .int _)] [2, 1, 0] rfl ?_
  refine vX9_bits_L4 hC _ _ ?_ _ _ _ _
  intro x1_1 x2_1 z_1
  refine V_iln hC dX9_bits_24 1 rfl ?_
  exact V_ir hC dX9_bits_25 rfl
def fX9_likeness (v0 : Int32) (v1 : Int32) (z : iw_M) : Option (Int32 × iw_M) :=
  ((fX9_bits (v0 &&& v1) z).bind (fun q1 =>
  ((fX9_bits (v0 ^^^ v1) q1.2).bind (fun q2 =>
  some ((((3 : Int32) * q1.1) - q2.1), q2.2)))))
abbrev bX9_likeness : iw_B := (cX9_likeness, 2, { frames := 1, cells := 0, slots := 0, locals := 22 }, yX9_likeness.cls, (some .int))
set_option maxRecDepth 100000 in
set_option maxHeartbeats 4000000 in
theorem kX9_likeness (G : iw_G) (v0 : Int32) (v1 : Int32) (z : iw_M) : iw_K G iw_wM yX9_likeness cX9_likeness 2 (some .int) 1 22 iw_ei [.int v0, .int v1] z (fX9_likeness v0 v1 z) := by
  refine iw_of [(0, .int v0), (1, .int v1)] (by decide +kernel) (Nat.le_of_ble_eq_true rfl) rfl ?_
  intro X hC
  unfold fX9_likeness
  refine V_ic (x := 3) hC dX9_likeness_0 (by decide) ?_
  refine V_iln hC dX9_likeness_1 0 rfl ?_
  refine V_iln hC dX9_likeness_2 1 rfl ?_
  refine V_iand hC dX9_likeness_3 ?_
  refine V_csi [.int _] hC cs_X9_148 (kX9_bits G _ _) rfl rfl (Nat.le_of_ble_eq_true rfl) ⟨by decide, by decide⟩ dX9_likeness_4 ?_
  intro q1
  refine V_imul hC dX9_likeness_7 ?_
  refine V_iln hC dX9_likeness_8 0 rfl ?_
  refine V_iln hC dX9_likeness_9 1 rfl ?_
  refine V_ixor hC dX9_likeness_10 ?_
  refine V_csi [.int _] hC cs_X9_148 (kX9_bits G _ _) rfl rfl (Nat.le_of_ble_eq_true rfl) ⟨by decide, by decide⟩ dX9_likeness_11 ?_
  intro q2
  refine V_isub hC dX9_likeness_14 ?_
  exact V_ir hC dX9_likeness_15 rfl
