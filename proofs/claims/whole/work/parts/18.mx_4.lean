def fX8_ruleFor (v1 : Int32) (z : iw_M) : Option (Int32 × iw_M) :=
  (if iw_ok v1 40 then
  ((fX1_headOf 19 (z.1 20 (Int32.toNatClampNeg v1)) z).bind (fun q1 =>
  (if iw_ok q1.1 40 then
  ((fX5_inForceOn (q1.2.1 13 (Int32.toNatClampNeg q1.1)) q1.2).bind (fun q2 =>
  some (q2.1, q2.2)))
  else none)))
  else none)
abbrev bX8_ruleFor : iw_B := (cX8_ruleFor, 2, { frames := 2, cells := 0, slots := 0, locals := 45 }, yX8_ruleFor.cls, (some .int))
set_option maxRecDepth 100000 in
set_option maxHeartbeats 4000000 in
theorem kX8_ruleFor (G : iw_G) (v1 : Int32) (z : iw_M) : iw_K G iw_wX yX8_ruleFor cX8_ruleFor 2 (some .int) 2 45 iw_ei [.ref (iw_ad G 0), .int v1] z (fX8_ruleFor v1 z) := by
  refine iw_of [(0, .ref (iw_ad G 0)), (1, .int v1)] (by decide +kernel) (Nat.le_of_ble_eq_true rfl) rfl ?_
  intro X hC
  unfold fX8_ruleFor
  refine V_aln hC dX8_ruleFor_0 0 rfl ?_
  refine V_gr hC fl_X8_40 (by decide) rfl rfl dX8_ruleFor_1 ?_
  refine V_aln hC dX8_ruleFor_4 0 rfl ?_
  refine V_gr hC fl_X8_65 (by decide) rfl rfl dX8_ruleFor_5 ?_
  refine V_gr hC fl_X8_255 (by decide) rfl rfl dX8_ruleFor_8 ?_
  refine V_aln hC dX8_ruleFor_11 0 rfl ?_
  refine V_gr hC fl_X8_74 (by decide) rfl rfl dX8_ruleFor_12 ?_
  refine V_aln hC dX8_ruleFor_15 0 rfl ?_
  refine V_gr hC fl_X8_74 (by decide) rfl rfl dX8_ruleFor_16 ?_
  refine V_gr hC fl_X8_148 (by decide) rfl rfl dX8_ruleFor_19 ?_
  refine V_iln hC dX8_ruleFor_22 1 rfl ?_
  refine V_ia hC (by decide) rfl dX8_ruleFor_23 ?_
  refine V_cvi [.ref _, .ref _] hC cv_X8_151 (by decide) rfl rfl (kX1_headOf G 19 iw_F19 _ _) rfl rfl (Nat.le_of_ble_eq_true rfl) ⟨by decide, by decide⟩ dX8_ruleFor_24 ?_
  intro q1
  refine V_ia hC (by decide) rfl dX8_ruleFor_27 ?_
  refine V_cvi [] hC cv_X8_301 (by decide) rfl rfl (kX5_inForceOn G _ _) rfl rfl (Nat.le_of_ble_eq_true rfl) ⟨by decide, by decide⟩ dX8_ruleFor_28 ?_
  intro q2
  exact V_ir hC dX8_ruleFor_31 rfl
def fX8_worthOf_L18 (kf : Nat) (v2 : Int32) (K : Int32 → Int32 → iw_M → Option (Int32 × iw_M)) : Nat → Int32 → Int32 → iw_M → Option (Int32 × iw_M)
  | 0, _, _, _ => none
  | n + 1, v3, v4, z => (if (10 : Int32) ≤ v4 then
  K v3 v4 z
  else
  ((fX6_beyondDoubt v4 z).bind (fun q2 =>
  (if iw_ok v4 10 then
  (if (100 : Int32) = 0 then none else
  fX8_worthOf_L18 kf v2 K n (v3 + ((q2.1 * (q2.2.1 25 (Int32.toNatClampNeg v4))) / (100 : Int32))) (v4 + (1 : Int32)) q2.2)
  else none))))
def fX8_worthOf (kf : Nat) (v2 : Int32) (z : iw_M) : Option (Int32 × iw_M) :=
  ((fX6_gather kf v2 z).bind (fun q1 =>
  fX8_worthOf_L18 kf v2 (fun x3_3 x4_3 z_3 => ((fX1_harmOf kf v2 z_3).bind (fun q4 =>
  some ((iw_max (0 : Int32) (x3_3 - q4.1)), q4.2)))) iw_fu (0 : Int32) (0 : Int32) q1.2))
abbrev bX8_worthOf : iw_B := (cX8_worthOf, 5, { frames := 3, cells := 0, slots := 0, locals := 67 }, yX8_worthOf.cls, (some .int))
set_option maxRecDepth 100000 in
set_option maxHeartbeats 4000000 in
theorem vX8_worthOf_L18 {G : iw_G} {X : iw_X} (hC : iw_C G iw_wX X bX8_worthOf) (kf : Nat) (hf : iw_isF kf) (v2 : Int32) (K : Int32 → Int32 → iw_M → Option (Int32 × iw_M)) (hK : ∀ (v3 : Int32) (v4 : Int32) (z : iw_M), iw_V G iw_wX X bX8_worthOf iw_ei 57 [(0, .ref (iw_ad G 0)), (1, .ref (iw_ad G kf)), (2, .int v2), (3, .int v3), (4, .int v4)] [] z (K v3 v4 z)) : ∀ (n : Nat) (v3 : Int32) (v4 : Int32) (z : iw_M), iw_V G iw_wX X bX8_worthOf iw_ei 18 [(0, .ref (iw_ad G 0)), (1, .ref (iw_ad G kf)), (2, .int v2), (3, .int v3), (4, .int v4)] [] z (fX8_worthOf_L18 kf v2 K n v3 v4 z) := by
  intro n
  induction n with
  | zero =>
    intro v3 v4 z
    exact V_none
  | succ n ih =>
    intro v3 v4 z
    simp only [fX8_worthOf_L18]
    refine V_il hC dX8_worthOf_18 4 rfl ?_
    refine V_bip (x := 10) hC dX8_worthOf_20 (by decide) ?_
    refine V_cge 57 hC dX8_worthOf_22 (by decide) ?_ ?_
    · exact hK _ _ _
    · refine V_iln hC dX8_worthOf_25 3 rfl ?_
      refine V_aln hC dX8_worthOf_26 0 rfl ?_
      refine V_gr hC fl_X8_33 (by decide) rfl rfl dX8_worthOf_27 ?_
      refine V_il hC dX8_worthOf_30 4 rfl ?_
      refine V_cvi [.int _] hC cv_X8_209 (by decide) rfl rfl (kX6_beyondDoubt G _ _) rfl rfl (Nat.le_of_ble_eq_true rfl) ⟨by decide, by decide⟩ dX8_worthOf_32 ?_
      intro q2
      refine V_aln hC dX8_worthOf_35 0 rfl ?_
      refine V_gr hC fl_X8_19 (by decide) rfl rfl dX8_worthOf_36 ?_
      refine V_gr hC fl_X8_197 (by decide) rfl rfl dX8_worthOf_39 ?_
      refine V_il hC dX8_worthOf_42 4 rfl ?_
      refine V_ia hC (by decide) rfl dX8_worthOf_44 ?_
      refine V_imul hC dX8_worthOf_45 ?_
      refine V_bip (x := 100) hC dX8_worthOf_46 (by decide) ?_
      refine V_idiv hC dX8_worthOf_48 ?_
      refine V_iadd hC dX8_worthOf_49 ?_
      refine V_isn [(3, .int _), (0, .ref _), (1, .ref _), (2, .int _), (4, .int _)] hC dX8_worthOf_50 (by decide) rfl ?_
      refine V_inc (k := 4) (y := 1) [(4, .int _), (3, .int _), (0, .ref _), (1, .ref _), (2, .int _)] hC dX8_worthOf_51 rfl (by decide) (by decide) rfl ?_
      refine V_goto 18 hC dX8_worthOf_54 (by decide) ?_
      refine V_sub [(0, .ref _), (1, .ref _), (2, .int _), (3, .int _), (4, .int _)] [2, 3, 4, 1, 0] rfl ?_
      exact ih _ _ _
set_option maxRecDepth 100000 in
set_option maxHeartbeats 4000000 in
theorem kX8_worthOf (G : iw_G) (kf : Nat) (hf : iw_isF kf) (v2 : Int32) (z : iw_M) : iw_K G iw_wX yX8_worthOf cX8_worthOf 5 (some .int) 3 67 iw_ei [.ref (iw_ad G 0), .ref (iw_ad G kf), .int v2] z (fX8_worthOf kf v2 z) := by
  refine iw_of [(0, .ref (iw_ad G 0)), (1, .ref (iw_ad G kf)), (2, .int v2)] (by decide +kernel) (Nat.le_of_ble_eq_true rfl) rfl ?_
  intro X hC
  unfold fX8_worthOf
  refine V_aln hC dX8_worthOf_0 0 rfl ?_
  refine V_gr hC fl_X8_33 (by decide) rfl rfl dX8_worthOf_1 ?_
  refine V_aln hC dX8_worthOf_4 0 rfl ?_
  refine V_gr hC fl_X8_26 (by decide) rfl rfl dX8_worthOf_5 ?_
  refine V_aln hC dX8_worthOf_8 1 rfl ?_
  refine V_iln hC dX8_worthOf_9 2 rfl ?_
  refine V_cvv [] hC cv_X8_205 (by decide) rfl rfl (kX6_gather G kf hf _ _) rfl rfl (Nat.le_of_ble_eq_true rfl) ⟨by decide, by decide⟩ dX8_worthOf_10 ?_
  intro q1
  refine V_ic (x := 0) hC dX8_worthOf_13 (by decide) ?_
  refine V_isn [(3, .int _), (0, .ref _), (1, .ref _), (2, .int _)] hC dX8_worthOf_14 (by decide) rfl ?_
  refine V_ic (x := 0) hC dX8_worthOf_15 (by decide) ?_
  refine V_is [(4, .int _), (3, .int _), (0, .ref _), (1, .ref _), (2, .int _)] hC dX8_worthOf_16 (by decide) rfl ?_
  refine V_sub [(0, .ref _), (1, .ref _), (2, .int _), (3, .int _), (4, .int _)] [2, 3, 4, 1, 0] rfl ?_
  refine vX8_worthOf_L18 hC kf hf _ _ ?_ _ _ _ _
  intro x3_3 x4_3 z_3
  refine V_ic (x := 0) hC dX8_worthOf_57 (by decide) ?_
  refine V_iln hC dX8_worthOf_58 3 rfl ?_
  refine V_aln hC dX8_worthOf_59 1 rfl ?_
  refine V_iln hC dX8_worthOf_60 2 rfl ?_
  refine V_cvi [.int _, .int _] hC cv_X8_304 hf.2.2.1 hf.1 rfl (kX1_harmOf G kf hf _ _) rfl rfl (Nat.le_of_ble_eq_true rfl) ⟨by decide, by decide⟩ dX8_worthOf_61 ?_
  intro q4
  refine V_isub hC dX8_worthOf_64 ?_
  refine V_max hC mm_X8_295 ⟨by decide, Nat.le_of_ble_eq_true rfl⟩ dX8_worthOf_65 ?_
  exact V_ir hC dX8_worthOf_68 rfl
def fX8_payFor (v0 : Int32) (v1 : Int32) (v2 : Int32) (z : iw_M) : Option (Int32 × iw_M) :=
  (if (100 : Int32) = 0 then none else
  some ((iw_min ((v0 * v1) / (100 : Int32)) v2), z))
abbrev bX8_payFor : iw_B := (cX8_payFor, 3, { frames := 1, cells := 0, slots := 0, locals := 21 }, yX8_payFor.cls, (some .int))
set_option maxRecDepth 100000 in
set_option maxHeartbeats 4000000 in
theorem kX8_payFor (G : iw_G) (v0 : Int32) (v1 : Int32) (v2 : Int32) (z : iw_M) : iw_K G iw_wX yX8_payFor cX8_payFor 3 (some .int) 1 21 iw_ei [.int v0, .int v1, .int v2] z (fX8_payFor v0 v1 v2 z) := by
  refine iw_of [(0, .int v0), (1, .int v1), (2, .int v2)] (by decide +kernel) (Nat.le_of_ble_eq_true rfl) rfl ?_
  intro X hC
  unfold fX8_payFor
  refine V_iln hC dX8_payFor_0 0 rfl ?_
  refine V_iln hC dX8_payFor_1 1 rfl ?_
  refine V_imul hC dX8_payFor_2 ?_
  refine V_bip (x := 100) hC dX8_payFor_3 (by decide) ?_
  refine V_idiv hC dX8_payFor_5 ?_
  refine V_iln hC dX8_payFor_6 2 rfl ?_
  refine V_min hC mm_X8_282 ⟨by decide, Nat.le_of_ble_eq_true rfl⟩ dX8_payFor_7 ?_
  exact V_ir hC dX8_payFor_10 rfl
def fX8_payOut_L19 (v1 : Int32) (v2 : Int32) (v3 : Int32) (K : Int32 → Int32 → iw_M → Option (Unit × iw_M)) : Nat → Int32 → Int32 → iw_M → Option (Unit × iw_M)
  | 0, _, _, _ => none
  | n + 1, v4, v5, z => (if (z.1 1 6) ≤ v5 then
  K v4 v5 z
  else
  (if iw_ok v1 40 then
  ((fX8_has (z.2 18 (Int32.toNatClampNeg v1)) v5 z).bind (fun q2 =>
  (if q2.1 = 0 then
  fX8_payOut_L19 v1 v2 v3 K n v4 (v5 + (1 : Int32)) q2.2
  else
  (if iw_ok v5 40 then
  (if iw_ok v5 40 then
  fX8_payOut_L19 v1 v2 v3 K n (v4 - v3) (v5 + (1 : Int32)) (iw_wI q2.2 6 (Int32.toNatClampNeg v5) ((q2.2.1 6 (Int32.toNatClampNeg v5)) + v3))
  else none)
  else none))))
  else none))
def fX8_payOut (v1 : Int32) (v2 : Int32) (z : iw_M) : Option (Unit × iw_M) :=
  ((fX3_teamSize v1 z).bind (fun q1 =>
  (if ((1 : Int32) + q1.1) = 0 then none else
  fX8_payOut_L19 v1 v2 (v2 / ((1 : Int32) + q1.1)) (fun x4_3 x5_3 z_3 => (if iw_ok v1 40 then
  (if iw_ok (z_3.1 9 (Int32.toNatClampNeg v1)) 40 then
  (if iw_ok (z_3.1 9 (Int32.toNatClampNeg v1)) 40 then
  (if iw_ok v1 40 then
  (if iw_ok v1 40 then
  some ((), (iw_wI (iw_wI z_3 6 (Int32.toNatClampNeg (z_3.1 9 (Int32.toNatClampNeg v1))) ((z_3.1 6 (Int32.toNatClampNeg (z_3.1 9 (Int32.toNatClampNeg v1)))) + x4_3)) 16 (Int32.toNatClampNeg v1) (((iw_wI z_3 6 (Int32.toNatClampNeg (z_3.1 9 (Int32.toNatClampNeg v1))) ((z_3.1 6 (Int32.toNatClampNeg (z_3.1 9 (Int32.toNatClampNeg v1)))) + x4_3)).1 16 (Int32.toNatClampNeg v1)) + v2)))
  else none)
  else none)
  else none)
  else none)
  else none)) iw_fu v2 (0 : Int32) q1.2)))
abbrev bX8_payOut : iw_B := (cX8_payOut, 6, { frames := 2, cells := 0, slots := 0, locals := 42 }, yX8_payOut.cls, none)
set_option maxRecDepth 100000 in
set_option maxHeartbeats 4000000 in
theorem vX8_payOut_L19 {G : iw_G} {X : iw_X} (hC : iw_C G iw_wX X bX8_payOut) (v1 : Int32) (v2 : Int32) (v3 : Int32) (K : Int32 → Int32 → iw_M → Option (Unit × iw_M)) (hK : ∀ (v4 : Int32) (v5 : Int32) (z : iw_M), iw_V G iw_wX X bX8_payOut iw_ev 74 [(0, .ref (iw_ad G 0)), (1, .int v1), (2, .int v2), (3, .int v3), (4, .int v4), (5, .int v5)] [] z (K v4 v5 z)) : ∀ (n : Nat) (v4 : Int32) (v5 : Int32) (z : iw_M), iw_V G iw_wX X bX8_payOut iw_ev 19 [(0, .ref (iw_ad G 0)), (1, .int v1), (2, .int v2), (3, .int v3), (4, .int v4), (5, .int v5)] [] z (fX8_payOut_L19 v1 v2 v3 K n v4 v5 z) := by
  intro n
  induction n with
  | zero =>
    intro v4 v5 z
    exact V_none
  | succ n ih =>
    intro v4 v5 z
    simp only [fX8_payOut_L19]
    refine V_il hC dX8_payOut_19 5 rfl ?_
    refine V_aln hC dX8_payOut_21 0 rfl ?_
    refine V_gr hC fl_X8_10 (by decide) rfl rfl dX8_payOut_22 ?_
    refine V_gi hC fl_X8_89 (by decide) rfl rfl dX8_payOut_25 ?_
    refine V_cge 74 hC dX8_payOut_28 (by decide) ?_ ?_
    · exact hK _ _ _
    · refine V_aln hC dX8_payOut_31 0 rfl ?_
      refine V_gr hC fl_X8_65 (by decide) rfl rfl dX8_payOut_32 ?_
      refine V_gr hC fl_X8_127 (by decide) rfl rfl dX8_payOut_35 ?_
      refine V_iln hC dX8_payOut_38 1 rfl ?_
      refine V_la hC (by decide) rfl dX8_payOut_39 ?_
      refine V_il hC dX8_payOut_40 5 rfl ?_
      refine V_csi [] hC cs_X8_120 (kX8_has G _ _ _) rfl rfl (Nat.le_of_ble_eq_true rfl) ⟨by decide, by decide⟩ dX8_payOut_42 ?_
      intro q2
      refine V_ieq 68 hC dX8_payOut_45 (by decide) ?_ ?_
      · refine V_inc (k := 5) (y := 1) [(5, .int _), (0, .ref _), (1, .int _), (2, .int _), (3, .int _), (4, .int _)] hC dX8_payOut_68 rfl (by decide) (by decide) rfl ?_
        refine V_goto 19 hC dX8_payOut_71 (by decide) ?_
        refine V_sub [(0, .ref _), (1, .int _), (2, .int _), (3, .int _), (4, .int _), (5, .int _)] [1, 2, 3, 4, 5, 0] rfl ?_
        exact ih _ _ _
      · refine V_aln hC dX8_payOut_48 0 rfl ?_
        refine V_gr hC fl_X8_10 (by decide) rfl rfl dX8_payOut_49 ?_
        refine V_gr hC fl_X8_249 (by decide) rfl rfl dX8_payOut_52 ?_
        refine V_il hC dX8_payOut_55 5 rfl ?_
        refine V_dup2 hC dX8_payOut_57 rfl rfl ?_
        refine V_ia hC (by decide) rfl dX8_payOut_58 ?_
        refine V_iln hC dX8_payOut_59 3 rfl ?_
        refine V_iadd hC dX8_payOut_60 ?_
        refine V_is_ hC (by decide) rfl dX8_payOut_61 ?_
        refine V_il hC dX8_payOut_62 4 rfl ?_
        refine V_iln hC dX8_payOut_64 3 rfl ?_
        refine V_isub hC dX8_payOut_65 ?_
        refine V_is [(4, .int _), (0, .ref _), (1, .int _), (2, .int _), (3, .int _), (5, .int _)] hC dX8_payOut_66 (by decide) rfl ?_
        refine V_inc (k := 5) (y := 1) [(5, .int _), (4, .int _), (0, .ref _), (1, .int _), (2, .int _), (3, .int _)] hC dX8_payOut_68 rfl (by decide) (by decide) rfl ?_
        refine V_goto 19 hC dX8_payOut_71 (by decide) ?_
        refine V_sub [(0, .ref _), (1, .int _), (2, .int _), (3, .int _), (4, .int _), (5, .int _)] [2, 3, 4, 5, 1, 0] rfl ?_
        exact ih _ _ _
set_option maxRecDepth 100000 in
set_option maxHeartbeats 4000000 in
theorem kX8_payOut (G : iw_G) (v1 : Int32) (v2 : Int32) (z : iw_M) : iw_K G iw_wX yX8_payOut cX8_payOut 6 none 2 42 iw_ev [.ref (iw_ad G 0), .int v1, .int v2] z (fX8_payOut v1 v2 z) := by
  refine iw_of [(0, .ref (iw_ad G 0)), (1, .int v1), (2, .int v2)] (by decide +kernel) (Nat.le_of_ble_eq_true rfl) rfl ?_
  intro X hC
  unfold fX8_payOut
  refine V_iln hC dX8_payOut_0 2 rfl ?_
  refine V_ic (x := 1) hC dX8_payOut_1 (by decide) ?_
  refine V_aln hC dX8_payOut_2 0 rfl ?_
  refine V_gr hC fl_X8_65 (by decide) rfl rfl dX8_payOut_3 ?_
  refine V_iln hC dX8_payOut_6 1 rfl ?_
  refine V_cvi [.int _, .int _] hC cv_X8_124 (by decide) rfl rfl (kX3_teamSize G _ _) rfl rfl (Nat.le_of_ble_eq_true rfl) ⟨by decide, by decide⟩ dX8_payOut_7 ?_
  intro q1
  refine V_iadd hC dX8_payOut_10 ?_
  refine V_idiv hC dX8_payOut_11 ?_
  refine V_isn [(3, .int _), (0, .ref _), (1, .int _), (2, .int _)] hC dX8_payOut_12 (by decide) rfl ?_
  refine V_iln hC dX8_payOut_13 3 rfl ?_
  refine V_is [(4, .int _), (3, .int _), (0, .ref _), (1, .int _), (2, .int _)] hC dX8_payOut_14 (by decide) rfl ?_
  refine V_ic (x := 0) hC dX8_payOut_16 (by decide) ?_
  refine V_is [(5, .int _), (4, .int _), (3, .int _), (0, .ref _), (1, .int _), (2, .int _)] hC dX8_payOut_17 (by decide) rfl ?_
  refine V_sub [(0, .ref _), (1, .int _), (2, .int _), (3, .int _), (4, .int _), (5, .int _)] [3, 4, 5, 2, 1, 0] rfl ?_
  refine vX8_payOut_L19 hC _ _ _ _ ?_ _ _ _ _
  intro x4_3 x5_3 z_3
  refine V_aln hC dX8_payOut_74 0 rfl ?_
  refine V_gr hC fl_X8_10 (by decide) rfl rfl dX8_payOut_75 ?_
  refine V_gr hC fl_X8_249 (by decide) rfl rfl dX8_payOut_78 ?_
  refine V_aln hC dX8_payOut_81 0 rfl ?_
  refine V_gr hC fl_X8_65 (by decide) rfl rfl dX8_payOut_82 ?_
  refine V_gr hC fl_X8_298 (by decide) rfl rfl dX8_payOut_85 ?_
  refine V_iln hC dX8_payOut_88 1 rfl ?_
  refine V_ia hC (by decide) rfl dX8_payOut_89 ?_
  refine V_dup2 hC dX8_payOut_90 rfl rfl ?_
  refine V_ia hC (by decide) rfl dX8_payOut_91 ?_
  refine V_il hC dX8_payOut_92 4 rfl ?_
  refine V_iadd hC dX8_payOut_94 ?_
  refine V_is_ hC (by decide) rfl dX8_payOut_95 ?_
  refine V_aln hC dX8_payOut_96 0 rfl ?_
  refine V_gr hC fl_X8_65 (by decide) rfl rfl dX8_payOut_97 ?_
  refine V_gr hC fl_X8_261 (by decide) rfl rfl dX8_payOut_100 ?_
  refine V_iln hC dX8_payOut_103 1 rfl ?_
  refine V_dup2 hC dX8_payOut_104 rfl rfl ?_
  refine V_ia hC (by decide) rfl dX8_payOut_105 ?_
  refine V_iln hC dX8_payOut_106 2 rfl ?_
  refine V_iadd hC dX8_payOut_107 ?_
  refine V_is_ hC (by decide) rfl dX8_payOut_108 ?_
  exact V_vr hC dX8_payOut_109 rfl
def fX8_payYearsSince_L150 (v2 : Int32) (v7 : Int32) (v9 : Int32) (K : Int32 → Int32 → iw_M → Option (Int32 × iw_M)) : Nat → Int32 → Int32 → iw_M → Option (Int32 × iw_M)
  | 0, _, _, _ => none
  | n + 1, v8, v10, z => (if v9 < v10 then
  K v8 v10 z
  else
  ((fX8_payOut v2 v7 z).bind (fun q5 =>
  fX8_payYearsSince_L150 v2 v7 v9 K n (v8 + v7) (v10 + (1 : Int32)) q5.2)))
def fX8_payYearsSince (v1 : Int32) (v2 : Int32) (z : iw_M) : Option (Int32 × iw_M) :=
  (if iw_ok v2 40 then
  (if (360 : Int32) = 0 then none else
  (if iw_ok v2 40 then
  (if (360 : Int32) = 0 then none else
  (if (((z.1 0 11) - (z.1 15 (Int32.toNatClampNeg v2))) / (360 : Int32)) = ((v1 - (z.1 15 (Int32.toNatClampNeg v2))) / (360 : Int32)) then
  some ((0 : Int32), z)
  else
  ((fX8_ruleFor v2 z).bind (fun q1 =>
  (if q1.1 = (-9 : Int32) then
  some ((0 : Int32), q1.2)
  else
  (if iw_ok v2 40 then
  ((fX8_worthOf 19 (q1.2.1 20 (Int32.toNatClampNeg v2)) q1.2).bind (fun q2 =>
  (if iw_ok q1.1 20 then
  (if iw_ok q1.1 20 then
  ((fX8_payFor q2.1 (q2.2.1 40 (Int32.toNatClampNeg q1.1)) (q2.2.1 41 (Int32.toNatClampNeg q1.1)) q2.2).bind (fun q3 =>
  (if iw_ok (1 : Int32) 4 then
  ((fX1_shareOf 19 v2 (q3.2.1 45 (Int32.toNatClampNeg (1 : Int32))) q3.2).bind (fun q4 =>
  (if (1000 : Int32) = 0 then none else
  (if iw_ok q1.1 20 then
  fX8_payYearsSince_L150 v2 ((q3.1 * q4.1) / (1000 : Int32)) (iw_min (((z.1 0 11) - (z.1 15 (Int32.toNatClampNeg v2))) / (360 : Int32)) (q4.2.1 42 (Int32.toNatClampNeg q1.1))) (fun x8_6 x10_6 z_6 => some (x8_6, z_6)) iw_fu (0 : Int32) (((v1 - (z.1 15 (Int32.toNatClampNeg v2))) / (360 : Int32)) + (1 : Int32)) q4.2
  else none))))
  else none)))
  else none)
  else none)))
  else none))))))
  else none))
  else none)
abbrev bX8_payYearsSince : iw_B := (cX8_payYearsSince, 11, { frames := 4, cells := 0, slots := 0, locals := 91 }, yX8_payYearsSince.cls, (some .int))
set_option maxRecDepth 100000 in
set_option maxHeartbeats 4000000 in
theorem vX8_payYearsSince_L150 {G : iw_G} {X : iw_X} (hC : iw_C G iw_wX X bX8_payYearsSince) (v2 : Int32) (v7 : Int32) (v9 : Int32) (K : Int32 → Int32 → iw_M → Option (Int32 × iw_M)) (hK : ∀ (v8 : Int32) (v10 : Int32) (z : iw_M), iw_V G iw_wX X bX8_payYearsSince iw_ei 177 [(0, .ref (iw_ad G 0)), (2, .int v2), (7, .int v7), (8, .int v8), (9, .int v9), (10, .int v10)] [] z (K v8 v10 z)) : ∀ (n : Nat) (v8 : Int32) (v10 : Int32) (z : iw_M), iw_V G iw_wX X bX8_payYearsSince iw_ei 150 [(0, .ref (iw_ad G 0)), (2, .int v2), (7, .int v7), (8, .int v8), (9, .int v9), (10, .int v10)] [] z (fX8_payYearsSince_L150 v2 v7 v9 K n v8 v10 z) := by
  intro n
  induction n with
  | zero =>
    intro v8 v10 z
    exact V_none
  | succ n ih =>
    intro v8 v10 z
    simp only [fX8_payYearsSince_L150]
    refine V_il hC dX8_payYearsSince_150 5 rfl ?_
    refine V_il hC dX8_payYearsSince_152 4 rfl ?_
    refine V_cgt 177 hC dX8_payYearsSince_154 (by decide) ?_ ?_
    · exact hK _ _ _
    · refine V_aln hC dX8_payYearsSince_157 0 rfl ?_
      refine V_iln hC dX8_payYearsSince_158 1 rfl ?_
      refine V_il hC dX8_payYearsSince_159 2 rfl ?_
      refine V_cvv [] hC cv_X8_316 (by decide) rfl rfl (kX8_payOut G _ _ _) rfl rfl (Nat.le_of_ble_eq_true rfl) ⟨by decide, by decide⟩ dX8_payYearsSince_161 ?_
      intro q5
      refine V_il hC dX8_payYearsSince_164 3 rfl ?_
      refine V_il hC dX8_payYearsSince_166 2 rfl ?_
      refine V_iadd hC dX8_payYearsSince_168 ?_
      refine V_is [(8, .int _), (0, .ref _), (2, .int _), (7, .int _), (9, .int _), (10, .int _)] hC dX8_payYearsSince_169 (by decide) rfl ?_
      refine V_inc (k := 5) (y := 1) [(10, .int _), (8, .int _), (0, .ref _), (2, .int _), (7, .int _), (9, .int _)] hC dX8_payYearsSince_171 rfl (by decide) (by decide) rfl ?_
      refine V_goto 150 hC dX8_payYearsSince_174 (by decide) ?_
      refine V_sub [(0, .ref _), (2, .int _), (7, .int _), (8, .int _), (9, .int _), (10, .int _)] [2, 3, 4, 1, 5, 0] rfl ?_
      exact ih _ _ _
set_option maxRecDepth 100000 in
set_option maxHeartbeats 4000000 in
theorem kX8_payYearsSince (G : iw_G) (v1 : Int32) (v2 : Int32) (z : iw_M) : iw_K G iw_wX yX8_payYearsSince cX8_payYearsSince 11 (some .int) 4 91 iw_ei [.ref (iw_ad G 0), .int v1, .int v2] z (fX8_payYearsSince v1 v2 z) := by
  refine iw_of [(0, .ref (iw_ad G 0)), (1, .int v1), (2, .int v2)] (by decide +kernel) (Nat.le_of_ble_eq_true rfl) rfl ?_
  intro X hC
  unfold fX8_payYearsSince
  refine V_aln hC dX8_payYearsSince_0 0 rfl ?_
  refine V_gi hC fl_X8_58 (by decide) rfl rfl dX8_payYearsSince_1 ?_
  refine V_aln hC dX8_payYearsSince_4 0 rfl ?_
  refine V_gr hC fl_X8_65 (by decide) rfl rfl dX8_payYearsSince_5 ?_
  refine V_gr hC fl_X8_258 (by decide) rfl rfl dX8_payYearsSince_8 ?_
  refine V_iln hC dX8_payYearsSince_11 2 rfl ?_
  refine V_ia hC (by decide) rfl dX8_payYearsSince_12 ?_
  refine V_isub hC dX8_payYearsSince_13 ?_
  refine V_sip (x := 360) hC dX8_payYearsSince_14 (by decide) ?_
  refine V_idiv hC dX8_payYearsSince_17 ?_
  refine V_isn [(3, .int _), (0, .ref _), (1, .int _), (2, .int _)] hC dX8_payYearsSince_18 (by decide) rfl ?_
  refine V_iln hC dX8_payYearsSince_19 2 rfl ?_
  refine V_aln hC dX8_payYearsSince_20 1 rfl ?_
  refine V_gr hC fl_X8_65 (by decide) rfl rfl dX8_payYearsSince_21 ?_
  refine V_gr hC fl_X8_258 (by decide) rfl rfl dX8_payYearsSince_24 ?_
  refine V_iln hC dX8_payYearsSince_27 3 rfl ?_
  refine V_ia hC (by decide) rfl dX8_payYearsSince_28 ?_
  refine V_isub hC dX8_payYearsSince_29 ?_
  refine V_sip (x := 360) hC dX8_payYearsSince_30 (by decide) ?_
  refine V_idiv hC dX8_payYearsSince_33 ?_
  refine V_is [(4, .int _), (3, .int _), (0, .ref _), (1, .int _), (2, .int _)] hC dX8_payYearsSince_34 (by decide) rfl ?_
  refine V_iln hC dX8_payYearsSince_36 1 rfl ?_
  refine V_il hC dX8_payYearsSince_37 0 rfl ?_
  refine V_cne 44 hC dX8_payYearsSince_39 (by decide) ?_ ?_
  · refine V_aln hC dX8_payYearsSince_44 2 rfl ?_
    refine V_iln hC dX8_payYearsSince_45 4 rfl ?_
    refine V_cvi [] hC cv_X8_227 (by decide) rfl rfl (kX8_ruleFor G _ _) rfl rfl (Nat.le_of_ble_eq_true rfl) ⟨by decide, by decide⟩ dX8_payYearsSince_46 ?_
    intro q1
    refine V_is [(5, .int _), (4, .int _), (3, .int _), (0, .ref _), (1, .int _), (2, .int _)] hC dX8_payYearsSince_49 (by decide) rfl ?_
    refine V_il hC dX8_payYearsSince_51 0 rfl ?_
    refine V_bip (x := -9) hC dX8_payYearsSince_53 (by decide) ?_
    refine V_cne 60 hC dX8_payYearsSince_55 (by decide) ?_ ?_
    · refine V_aln hC dX8_payYearsSince_60 3 rfl ?_
      refine V_aln hC dX8_payYearsSince_61 3 rfl ?_
      refine V_gr hC fl_X8_74 (by decide) rfl rfl dX8_payYearsSince_62 ?_
      refine V_aln hC dX8_payYearsSince_65 3 rfl ?_
      refine V_gr hC fl_X8_74 (by decide) rfl rfl dX8_payYearsSince_66 ?_
      refine V_gr hC fl_X8_148 (by decide) rfl rfl dX8_payYearsSince_69 ?_
      refine V_iln hC dX8_payYearsSince_72 5 rfl ?_
      refine V_ia hC (by decide) rfl dX8_payYearsSince_73 ?_
      refine V_cvi [] hC cv_X8_219 (by decide) rfl rfl (kX8_worthOf G 19 iw_F19 _ _) rfl rfl (Nat.le_of_ble_eq_true rfl) ⟨by decide, by decide⟩ dX8_payYearsSince_74 ?_
      intro q2
      refine V_aln hC dX8_payYearsSince_77 3 rfl ?_
      refine V_gr hC fl_X8_40 (by decide) rfl rfl dX8_payYearsSince_78 ?_
      refine V_gr hC fl_X8_307 (by decide) rfl rfl dX8_payYearsSince_81 ?_
      refine V_il hC dX8_payYearsSince_84 0 rfl ?_
      refine V_ia hC (by decide) rfl dX8_payYearsSince_86 ?_
      refine V_aln hC dX8_payYearsSince_87 3 rfl ?_
      refine V_gr hC fl_X8_40 (by decide) rfl rfl dX8_payYearsSince_88 ?_
      refine V_gr hC fl_X8_310 (by decide) rfl rfl dX8_payYearsSince_91 ?_
      refine V_il hC dX8_payYearsSince_94 0 rfl ?_
      refine V_ia hC (by decide) rfl dX8_payYearsSince_96 ?_
      refine V_csi [] hC cs_X8_246 (kX8_payFor G _ _ _ _) rfl rfl (Nat.le_of_ble_eq_true rfl) ⟨by decide, by decide⟩ dX8_payYearsSince_97 ?_
      intro q3
      refine V_is [(6, .int _), (5, .int _), (4, .int _), (3, .int _), (0, .ref _), (1, .int _), (2, .int _)] hC dX8_payYearsSince_100 (by decide) rfl ?_
      refine V_il hC dX8_payYearsSince_102 0 rfl ?_
      refine V_aln hC dX8_payYearsSince_104 4 rfl ?_
      refine V_gr hC fl_X8_74 (by decide) rfl rfl dX8_payYearsSince_105 ?_
      refine V_iln hC dX8_payYearsSince_108 6 rfl ?_
      refine V_aln hC dX8_payYearsSince_109 4 rfl ?_
      refine V_gr hC fl_X8_51 (by decide) rfl rfl dX8_payYearsSince_110 ?_
      refine V_ic (x := 1) hC dX8_payYearsSince_113 (by decide) ?_
      refine V_ia hC (by decide) rfl dX8_payYearsSince_114 ?_
      refine V_cvi [.int _] hC cv_X8_154 (by decide) rfl rfl (kX1_shareOf G 19 iw_F19 _ _ _) rfl rfl (Nat.le_of_ble_eq_true rfl) ⟨by decide, by decide⟩ dX8_payYearsSince_115 ?_
      intro q4
      refine V_imul hC dX8_payYearsSince_118 ?_
      refine V_sip (x := 1000) hC dX8_payYearsSince_119 (by decide) ?_
      refine V_idiv hC dX8_payYearsSince_122 ?_
      refine V_is [(7, .int _), (6, .int _), (5, .int _), (4, .int _), (3, .int _), (0, .ref _), (1, .int _), (2, .int _)] hC dX8_payYearsSince_123 (by decide) rfl ?_
      refine V_ic (x := 0) hC dX8_payYearsSince_125 (by decide) ?_
      refine V_is [(8, .int _), (7, .int _), (6, .int _), (5, .int _), (4, .int _), (3, .int _), (0, .ref _), (1, .int _), (2, .int _)] hC dX8_payYearsSince_126 (by decide) rfl ?_
      refine V_iln hC dX8_payYearsSince_128 5 rfl ?_
      refine V_aln hC dX8_payYearsSince_129 6 rfl ?_
      refine V_gr hC fl_X8_40 (by decide) rfl rfl dX8_payYearsSince_130 ?_
      refine V_gr hC fl_X8_313 (by decide) rfl rfl dX8_payYearsSince_133 ?_
      refine V_il hC dX8_payYearsSince_136 3 rfl ?_
      refine V_ia hC (by decide) rfl dX8_payYearsSince_138 ?_
      refine V_min hC mm_X8_282 ⟨by decide, Nat.le_of_ble_eq_true rfl⟩ dX8_payYearsSince_139 ?_
      refine V_is [(9, .int _), (8, .int _), (7, .int _), (6, .int _), (5, .int _), (4, .int _), (3, .int _), (0, .ref _), (1, .int _), (2, .int _)] hC dX8_payYearsSince_142 (by decide) rfl ?_
      refine V_il hC dX8_payYearsSince_144 5 rfl ?_
      refine V_ic (x := 1) hC dX8_payYearsSince_146 (by decide) ?_
      refine V_iadd hC dX8_payYearsSince_147 ?_
      refine V_is [(10, .int _), (9, .int _), (8, .int _), (7, .int _), (6, .int _), (5, .int _), (4, .int _), (3, .int _), (0, .ref _), (1, .int _), (2, .int _)] hC dX8_payYearsSince_148 (by decide) rfl ?_
      refine V_sub [(0, .ref _), (2, .int _), (7, .int _), (8, .int _), (9, .int _), (10, .int _)] [8, 10, 3, 2, 1, 0] rfl ?_
      refine vX8_payYearsSince_L150 hC _ _ _ _ ?_ _ _ _ _
      intro x8_6 x10_6 z_6
      refine V_il hC dX8_payYearsSince_177 3 rfl ?_
      exact V_ir hC dX8_payYearsSince_179 rfl
    · refine V_ic (x := 0) hC dX8_payYearsSince_58 (by decide) ?_
      exact V_ir hC dX8_payYearsSince_59 rfl
  · refine V_ic (x := 0) hC dX8_payYearsSince_42 (by decide) ?_
    exact V_ir hC dX8_payYearsSince_43 rfl
def fX8_days_L51 (v2 : Int32) (K : Int32 → Int32 → iw_M → Option (Int32 × iw_M)) : Nat → Int32 → Int32 → iw_M → Option (Int32 × iw_M)
  | 0, _, _, _ => none
  | n + 1, v3, v4, z => (if (z.1 8 10) ≤ v4 then
  K v3 v4 z
  else
  (if iw_ok v4 40 then
  (if (z.1 14 (Int32.toNatClampNeg v4)) = (1 : Int32) then
  ((fX8_payYearsSince v2 v4 z).bind (fun q1 =>
  fX8_days_L51 v2 K n (v3 + q1.1) (v4 + (1 : Int32)) q1.2))
  else
  fX8_days_L51 v2 K n v3 (v4 + (1 : Int32)) z)
  else none))
def fX8_days (v1 : Int32) (z : iw_M) : Option (Int32 × iw_M) :=
  (if (1 : Int32) ≤ v1 then
  (if v1 ≤ ((3000 : Int32) - (z.1 0 11)) then
  fX8_days_L51 (z.1 0 11) (fun x3_2 x4_2 z_2 => some (x3_2, z_2)) iw_fu (0 : Int32) (0 : Int32) (iw_wI z 0 11 ((z.1 0 11) + v1))
  else
  ((fX8_refuse (-6 : Int32) z).bind (fun q3 =>
  some (q3.1, q3.2))))
  else
  ((fX8_refuse (-4 : Int32) z).bind (fun q4 =>
  some (q4.1, q4.2))))
abbrev bX8_days : iw_B := (cX8_days, 5, { frames := 5, cells := 0, slots := 0, locals := 121 }, yX8_days.cls, (some .int))
set_option maxRecDepth 100000 in
set_option maxHeartbeats 4000000 in
theorem vX8_days_L51 {G : iw_G} {X : iw_X} (hC : iw_C G iw_wX X bX8_days) (v2 : Int32) (K : Int32 → Int32 → iw_M → Option (Int32 × iw_M)) (hK : ∀ (v3 : Int32) (v4 : Int32) (z : iw_M), iw_V G iw_wX X bX8_days iw_ei 93 [(0, .ref (iw_ad G 0)), (2, .int v2), (3, .int v3), (4, .int v4)] [] z (K v3 v4 z)) : ∀ (n : Nat) (v3 : Int32) (v4 : Int32) (z : iw_M), iw_V G iw_wX X bX8_days iw_ei 51 [(0, .ref (iw_ad G 0)), (2, .int v2), (3, .int v3), (4, .int v4)] [] z (fX8_days_L51 v2 K n v3 v4 z) := by
  intro n
  induction n with
  | zero =>
    intro v3 v4 z
    exact V_none
  | succ n ih =>
    intro v3 v4 z
    simp only [fX8_days_L51]
    refine V_il hC dX8_days_51 3 rfl ?_
    refine V_aln hC dX8_days_53 0 rfl ?_
    refine V_gr hC fl_X8_65 (by decide) rfl rfl dX8_days_54 ?_
    refine V_gi hC fl_X8_105 (by decide) rfl rfl dX8_days_57 ?_
    refine V_cge 93 hC dX8_days_60 (by decide) ?_ ?_
    · exact hK _ _ _
    · refine V_aln hC dX8_days_63 0 rfl ?_
      refine V_gr hC fl_X8_65 (by decide) rfl rfl dX8_days_64 ?_
      refine V_gr hC fl_X8_172 (by decide) rfl rfl dX8_days_67 ?_
      refine V_il hC dX8_days_70 3 rfl ?_
      refine V_ia hC (by decide) rfl dX8_days_72 ?_
      refine V_ic (x := 1) hC dX8_days_73 (by decide) ?_
      refine V_cne 87 hC dX8_days_74 (by decide) ?_ ?_
      · refine V_inc (k := 3) (y := 1) [(4, .int _), (0, .ref _), (2, .int _), (3, .int _)] hC dX8_days_87 rfl (by decide) (by decide) rfl ?_
        refine V_goto 51 hC dX8_days_90 (by decide) ?_
        refine V_sub [(0, .ref _), (2, .int _), (3, .int _), (4, .int _)] [1, 2, 3, 0] rfl ?_
        exact ih _ _ _
      · refine V_iln hC dX8_days_77 2 rfl ?_
        refine V_aln hC dX8_days_78 0 rfl ?_
        refine V_iln hC dX8_days_79 1 rfl ?_
        refine V_il hC dX8_days_80 3 rfl ?_
        refine V_cvi [.int _] hC cv_X8_188 (by decide) rfl rfl (kX8_payYearsSince G _ _ _) rfl rfl (Nat.le_of_ble_eq_true rfl) ⟨by decide, by decide⟩ dX8_days_82 ?_
        intro q1
        refine V_iadd hC dX8_days_85 ?_
        refine V_isn [(3, .int _), (0, .ref _), (2, .int _), (4, .int _)] hC dX8_days_86 (by decide) rfl ?_
        refine V_inc (k := 3) (y := 1) [(4, .int _), (3, .int _), (0, .ref _), (2, .int _)] hC dX8_days_87 rfl (by decide) (by decide) rfl ?_
        refine V_goto 51 hC dX8_days_90 (by decide) ?_
        refine V_sub [(0, .ref _), (2, .int _), (3, .int _), (4, .int _)] [2, 3, 1, 0] rfl ?_
        exact ih _ _ _
set_option maxRecDepth 100000 in
set_option maxHeartbeats 4000000 in
theorem kX8_days (G : iw_G) (v1 : Int32) (z : iw_M) : iw_K G iw_wX yX8_days cX8_days 5 (some .int) 5 121 iw_ei [.ref (iw_ad G 0), .int v1] z (fX8_days v1 z) := by
  refine iw_of [(0, .ref (iw_ad G 0)), (1, .int v1)] (by decide +kernel) (Nat.le_of_ble_eq_true rfl) rfl ?_
  intro X hC
  unfold fX8_days
  refine V_iln hC dX8_days_0 1 rfl ?_
  refine V_ic (x := 1) hC dX8_days_1 (by decide) ?_
  refine V_cge 12 hC dX8_days_2 (by decide) ?_ ?_
  · refine V_iln hC dX8_days_12 1 rfl ?_
    refine V_sip (x := 3000) hC dX8_days_13 (by decide) ?_
    refine V_aln hC dX8_days_16 0 rfl ?_
    refine V_gi hC fl_X8_58 (by decide) rfl rfl dX8_days_17 ?_
    refine V_isub hC dX8_days_20 ?_
    refine V_cle 31 hC dX8_days_21 (by decide) ?_ ?_
    · refine V_aln hC dX8_days_31 0 rfl ?_
      refine V_gi hC fl_X8_58 (by decide) rfl rfl dX8_days_32 ?_
      refine V_isn [(2, .int _), (0, .ref _), (1, .int _)] hC dX8_days_35 (by decide) rfl ?_
      refine V_aln hC dX8_days_36 1 rfl ?_
      refine V_dup hC dX8_days_37 rfl ?_
      refine V_gi hC fl_X8_58 (by decide) rfl rfl dX8_days_38 ?_
      refine V_iln hC dX8_days_41 2 rfl ?_
      refine V_iadd hC dX8_days_42 ?_
      refine V_pi hC fp_X8_58 (by decide) rfl rfl dX8_days_43 ?_
      refine V_ic (x := 0) hC dX8_days_46 (by decide) ?_
      refine V_isn [(3, .int _), (2, .int _), (0, .ref _), (1, .int _)] hC dX8_days_47 (by decide) rfl ?_
      refine V_ic (x := 0) hC dX8_days_48 (by decide) ?_
      refine V_is [(4, .int _), (3, .int _), (2, .int _), (0, .ref _), (1, .int _)] hC dX8_days_49 (by decide) rfl ?_
      refine V_sub [(0, .ref _), (2, .int _), (3, .int _), (4, .int _)] [3, 2, 1, 0] rfl ?_
      refine vX8_days_L51 hC _ _ ?_ _ _ _ _
      intro x3_2 x4_2 z_2
      refine V_iln hC dX8_days_93 2 rfl ?_
      exact V_ir hC dX8_days_94 rfl
    · refine V_aln hC dX8_days_24 0 rfl ?_
      refine V_bip (x := -6) hC dX8_days_25 (by decide) ?_
      refine V_cvi [] hC cv_X8_85 (by decide) rfl rfl (kX8_refuse G _ _) rfl rfl (Nat.le_of_ble_eq_true rfl) ⟨by decide, by decide⟩ dX8_days_27 ?_
      intro q3
      exact V_ir hC dX8_days_30 rfl
  · refine V_aln hC dX8_days_5 0 rfl ?_
    refine V_bip (x := -4) hC dX8_days_6 (by decide) ?_
    refine V_cvi [] hC cv_X8_85 (by decide) rfl rfl (kX8_refuse G _ _) rfl rfl (Nat.le_of_ble_eq_true rfl) ⟨by decide, by decide⟩ dX8_days_8 ?_
    intro q4
    exact V_ir hC dX8_days_11 rfl
def fX8_isBench (v0 : Int32) (z : iw_M) : Option (Int32 × iw_M) :=
  (if v0 < 0 then
  some ((0 : Int32), z)
  else
  (if (10 : Int32) ≤ v0 then
  some ((0 : Int32), z)
  else
  some ((1 : Int32), z)))
abbrev bX8_isBench : iw_B := (cX8_isBench, 1, { frames := 0, cells := 0, slots := 0, locals := 0 }, yX8_isBench.cls, (some .boolean))
set_option maxRecDepth 100000 in
set_option maxHeartbeats 4000000 in
theorem kX8_isBench (G : iw_G) (v0 : Int32) (z : iw_M) : iw_K G iw_wX yX8_isBench cX8_isBench 1 (some .boolean) 0 0 iw_ei [.int v0] z (fX8_isBench v0 z) := by
  refine iw_of [(0, .int v0)] (by decide +kernel) (Nat.le_of_ble_eq_true rfl) rfl ?_
  intro X hC
  unfold fX8_isBench
  refine V_iln hC dX8_isBench_0 0 rfl ?_
  refine V_ilt 14 hC dX8_isBench_1 (by decide) ?_ ?_
  · refine V_ic (x := 0) hC dX8_isBench_14 (by decide) ?_
    exact V_zr hC dX8_isBench_15 rfl rfl
  · refine V_iln hC dX8_isBench_4 0 rfl ?_
    refine V_bip (x := 10) hC dX8_isBench_5 (by decide) ?_
    refine V_cge 14 hC dX8_isBench_7 (by decide) ?_ ?_
    · refine V_ic (x := 0) hC dX8_isBench_14 (by decide) ?_
      exact V_zr hC dX8_isBench_15 rfl rfl
    · refine V_ic (x := 1) hC dX8_isBench_10 (by decide) ?_
      refine V_goto 15 hC dX8_isBench_11 (by decide) ?_
      exact V_zr hC dX8_isBench_15 rfl rfl
def fX8_bench (v1 : Int32) (v2 : Int32) (v3 : Int32) (z : iw_M) : Option (Int32 × iw_M) :=
  ((fX8_isBench v1 z).bind (fun q1 =>
  (if q1.1 = 0 then
  ((fX8_refuse (-1 : Int32) q1.2).bind (fun q2 =>
  some (q2.1, q2.2)))
  else
  (if v2 = 0 then
  ((fX8_isShop v3 q1.2).bind (fun q8 =>
  (if q8.1 = 0 then
  ((fX8_refuse (-1 : Int32) q8.2).bind (fun q14 =>
  some (q14.1, q14.2)))
  else
  (if v2 = 0 then
  (if 0 ≤ v3 then
  (if v3 ≤ (10000 : Int32) then
  (if v2 = 0 then
  (if iw_ok v1 10 then
  (if iw_ok v1 10 then
  some ((q8.2.1 24 (Int32.toNatClampNeg v1)), (iw_wI q8.2 24 (Int32.toNatClampNeg v1) v3))
  else none)
  else none)
  else
  (if iw_ok v1 10 then
  (if iw_ok v1 10 then
  some ((q8.2.1 25 (Int32.toNatClampNeg v1)), (iw_wI q8.2 25 (Int32.toNatClampNeg v1) v3))
  else none)
  else none))
  else
  ((fX8_refuse (-6 : Int32) q8.2).bind (fun q9 =>
  some (q9.1, q9.2))))
  else
  ((fX8_refuse (-4 : Int32) q8.2).bind (fun q10 =>
  some (q10.1, q10.2))))
  else
  (if v2 = (1 : Int32) then
  (if 0 ≤ v3 then
  (if v3 ≤ (10000 : Int32) then
  (if v2 = 0 then
  (if iw_ok v1 10 then
  (if iw_ok v1 10 then
  some ((q8.2.1 24 (Int32.toNatClampNeg v1)), (iw_wI q8.2 24 (Int32.toNatClampNeg v1) v3))
  else none)
  else none)
  else
  (if iw_ok v1 10 then
  (if iw_ok v1 10 then
  some ((q8.2.1 25 (Int32.toNatClampNeg v1)), (iw_wI q8.2 25 (Int32.toNatClampNeg v1) v3))
  else none)
  else none))
  else
  ((fX8_refuse (-6 : Int32) q8.2).bind (fun q11 =>
  some (q11.1, q11.2))))
  else
  ((fX8_refuse (-4 : Int32) q8.2).bind (fun q12 =>
  some (q12.1, q12.2))))
  else
  ((fX8_refuse (-2 : Int32) q8.2).bind (fun q13 =>
  some (q13.1, q13.2))))))))
  else
  (if v2 = 0 then
  (if 0 ≤ v3 then
  (if v3 ≤ (10000 : Int32) then
  (if v2 = 0 then
  (if iw_ok v1 10 then
  (if iw_ok v1 10 then
  some ((q1.2.1 24 (Int32.toNatClampNeg v1)), (iw_wI q1.2 24 (Int32.toNatClampNeg v1) v3))
  else none)
  else none)
  else
  (if iw_ok v1 10 then
  (if iw_ok v1 10 then
  some ((q1.2.1 25 (Int32.toNatClampNeg v1)), (iw_wI q1.2 25 (Int32.toNatClampNeg v1) v3))
  else none)
  else none))
  else
  ((fX8_refuse (-6 : Int32) q1.2).bind (fun q3 =>
  some (q3.1, q3.2))))
  else
  ((fX8_refuse (-4 : Int32) q1.2).bind (fun q4 =>
  some (q4.1, q4.2))))
  else
  (if v2 = (1 : Int32) then
  (if 0 ≤ v3 then
  (if v3 ≤ (10000 : Int32) then
  (if v2 = 0 then
  (if iw_ok v1 10 then
  (if iw_ok v1 10 then
  some ((q1.2.1 24 (Int32.toNatClampNeg v1)), (iw_wI q1.2 24 (Int32.toNatClampNeg v1) v3))
  else none)
  else none)
  else
  (if iw_ok v1 10 then
  (if iw_ok v1 10 then
  some ((q1.2.1 25 (Int32.toNatClampNeg v1)), (iw_wI q1.2 25 (Int32.toNatClampNeg v1) v3))
  else none)
  else none))
  else
  ((fX8_refuse (-6 : Int32) q1.2).bind (fun q5 =>
  some (q5.1, q5.2))))
  else
  ((fX8_refuse (-4 : Int32) q1.2).bind (fun q6 =>
  some (q6.1, q6.2))))
  else
  ((fX8_refuse (-2 : Int32) q1.2).bind (fun q7 =>
  some (q7.1, q7.2)))))))))
abbrev bX8_bench : iw_B := (cX8_bench, 6, { frames := 1, cells := 0, slots := 0, locals := 22 }, yX8_bench.cls, (some .int))
set_option maxRecDepth 100000 in
set_option maxHeartbeats 4000000 in
theorem kX8_bench (G : iw_G) (v1 : Int32) (v2 : Int32) (v3 : Int32) (z : iw_M) : iw_K G iw_wX yX8_bench cX8_bench 6 (some .int) 1 22 iw_ei [.ref (iw_ad G 0), .int v1, .int v2, .int v3] z (fX8_bench v1 v2 v3 z) := by
  refine iw_of [(0, .ref (iw_ad G 0)), (1, .int v1), (2, .int v2), (3, .int v3)] (by decide +kernel) (Nat.le_of_ble_eq_true rfl) rfl ?_
  intro X hC
  unfold fX8_bench
  refine V_iln hC dX8_bench_0 1 rfl ?_
  refine V_csi [] hC cs_X8_191 (kX8_isBench G _ _) rfl rfl (Nat.le_of_ble_eq_true rfl) ⟨by decide, by decide⟩ dX8_bench_1 ?_
  intro q1
  refine V_ieq 18 hC dX8_bench_4 (by decide) ?_ ?_
  · refine V_aln hC dX8_bench_18 0 rfl ?_
    refine V_ic (x := -1) hC dX8_bench_19 (by decide) ?_
    refine V_cvi [] hC cv_X8_85 (by decide) rfl rfl (kX8_refuse G _ _) rfl rfl (Nat.le_of_ble_eq_true rfl) ⟨by decide, by decide⟩ dX8_bench_20 ?_
    intro q2
    exact V_ir hC dX8_bench_23 rfl
  · refine V_iln hC dX8_bench_7 2 rfl ?_
    refine V_ine 24 hC dX8_bench_8 (by decide) ?_ ?_
    · refine V_iln hC dX8_bench_24 2 rfl ?_
      refine V_ieq 40 hC dX8_bench_25 (by decide) ?_ ?_
      · refine V_iln hC dX8_bench_40 3 rfl ?_
        refine V_ige 51 hC dX8_bench_41 (by decide) ?_ ?_
        · refine V_iln hC dX8_bench_51 3 rfl ?_
          refine V_sip (x := 10000) hC dX8_bench_52 (by decide) ?_
          refine V_cle 65 hC dX8_bench_55 (by decide) ?_ ?_
          · refine V_iln hC dX8_bench_65 2 rfl ?_
            refine V_ine 79 hC dX8_bench_66 (by decide) ?_ ?_
            · refine V_aln hC dX8_bench_79 0 rfl ?_
              refine V_gr hC fl_X8_19 (by decide) rfl rfl dX8_bench_80 ?_
              refine V_gr hC fl_X8_197 (by decide) rfl rfl dX8_bench_83 ?_
              refine V_as [(4, .ref _), (0, .ref _), (1, .int _), (2, .int _), (3, .int _)] hC dX8_bench_86 (by decide) rfl ?_
              refine V_al hC dX8_bench_88 0 rfl ?_
              refine V_iln hC dX8_bench_90 2 rfl ?_
              refine V_ia hC (by decide) rfl dX8_bench_91 ?_
              refine V_is [(5, .int _), (4, .ref _), (0, .ref _), (1, .int _), (2, .int _), (3, .int _)] hC dX8_bench_92 (by decide) rfl ?_
              refine V_al hC dX8_bench_94 1 rfl ?_
              refine V_iln hC dX8_bench_96 3 rfl ?_
              refine V_iln hC dX8_bench_97 5 rfl ?_
              refine V_is_ hC (by decide) rfl dX8_bench_98 ?_
              refine V_il hC dX8_bench_99 0 rfl ?_
              exact V_ir hC dX8_bench_101 rfl
            · refine V_aln hC dX8_bench_69 0 rfl ?_
              refine V_gr hC fl_X8_19 (by decide) rfl rfl dX8_bench_70 ?_
              refine V_gr hC fl_X8_194 (by decide) rfl rfl dX8_bench_73 ?_
              refine V_goto 86 hC dX8_bench_76 (by decide) ?_
              refine V_as [(4, .ref _), (0, .ref _), (1, .int _), (2, .int _), (3, .int _)] hC dX8_bench_86 (by decide) rfl ?_
              refine V_al hC dX8_bench_88 0 rfl ?_
              refine V_iln hC dX8_bench_90 2 rfl ?_
              refine V_ia hC (by decide) rfl dX8_bench_91 ?_
              refine V_is [(5, .int _), (4, .ref _), (0, .ref _), (1, .int _), (2, .int _), (3, .int _)] hC dX8_bench_92 (by decide) rfl ?_
              refine V_al hC dX8_bench_94 1 rfl ?_
              refine V_iln hC dX8_bench_96 3 rfl ?_
              refine V_iln hC dX8_bench_97 5 rfl ?_
              refine V_is_ hC (by decide) rfl dX8_bench_98 ?_
              refine V_il hC dX8_bench_99 0 rfl ?_
              exact V_ir hC dX8_bench_101 rfl
          · refine V_aln hC dX8_bench_58 0 rfl ?_
            refine V_bip (x := -6) hC dX8_bench_59 (by decide) ?_
            refine V_cvi [] hC cv_X8_85 (by decide) rfl rfl (kX8_refuse G _ _) rfl rfl (Nat.le_of_ble_eq_true rfl) ⟨by decide, by decide⟩ dX8_bench_61 ?_
            intro q3
            exact V_ir hC dX8_bench_64 rfl
        · refine V_aln hC dX8_bench_44 0 rfl ?_
          refine V_bip (x := -4) hC dX8_bench_45 (by decide) ?_
          refine V_cvi [] hC cv_X8_85 (by decide) rfl rfl (kX8_refuse G _ _) rfl rfl (Nat.le_of_ble_eq_true rfl) ⟨by decide, by decide⟩ dX8_bench_47 ?_
          intro q4
          exact V_ir hC dX8_bench_50 rfl
      · refine V_iln hC dX8_bench_28 2 rfl ?_
        refine V_ic (x := 1) hC dX8_bench_29 (by decide) ?_
        refine V_ceq 40 hC dX8_bench_30 (by decide) ?_ ?_
        · refine V_iln hC dX8_bench_40 3 rfl ?_
          refine V_ige 51 hC dX8_bench_41 (by decide) ?_ ?_
          · refine V_iln hC dX8_bench_51 3 rfl ?_
            refine V_sip (x := 10000) hC dX8_bench_52 (by decide) ?_
            refine V_cle 65 hC dX8_bench_55 (by decide) ?_ ?_
            · refine V_iln hC dX8_bench_65 2 rfl ?_
              refine V_ine 79 hC dX8_bench_66 (by decide) ?_ ?_
              · refine V_aln hC dX8_bench_79 0 rfl ?_
                refine V_gr hC fl_X8_19 (by decide) rfl rfl dX8_bench_80 ?_
                refine V_gr hC fl_X8_197 (by decide) rfl rfl dX8_bench_83 ?_
                refine V_as [(4, .ref _), (0, .ref _), (1, .int _), (2, .int _), (3, .int _)] hC dX8_bench_86 (by decide) rfl ?_
                refine V_al hC dX8_bench_88 0 rfl ?_
                refine V_iln hC dX8_bench_90 2 rfl ?_
                refine V_ia hC (by decide) rfl dX8_bench_91 ?_
                refine V_is [(5, .int _), (4, .ref _), (0, .ref _), (1, .int _), (2, .int _), (3, .int _)] hC dX8_bench_92 (by decide) rfl ?_
                refine V_al hC dX8_bench_94 1 rfl ?_
                refine V_iln hC dX8_bench_96 3 rfl ?_
                refine V_iln hC dX8_bench_97 5 rfl ?_
                refine V_is_ hC (by decide) rfl dX8_bench_98 ?_
                refine V_il hC dX8_bench_99 0 rfl ?_
                exact V_ir hC dX8_bench_101 rfl
              · refine V_aln hC dX8_bench_69 0 rfl ?_
                refine V_gr hC fl_X8_19 (by decide) rfl rfl dX8_bench_70 ?_
                refine V_gr hC fl_X8_194 (by decide) rfl rfl dX8_bench_73 ?_
                refine V_goto 86 hC dX8_bench_76 (by decide) ?_
                refine V_as [(4, .ref _), (0, .ref _), (1, .int _), (2, .int _), (3, .int _)] hC dX8_bench_86 (by decide) rfl ?_
                refine V_al hC dX8_bench_88 0 rfl ?_
                refine V_iln hC dX8_bench_90 2 rfl ?_
                refine V_ia hC (by decide) rfl dX8_bench_91 ?_
                refine V_is [(5, .int _), (4, .ref _), (0, .ref _), (1, .int _), (2, .int _), (3, .int _)] hC dX8_bench_92 (by decide) rfl ?_
                refine V_al hC dX8_bench_94 1 rfl ?_
                refine V_iln hC dX8_bench_96 3 rfl ?_
                refine V_iln hC dX8_bench_97 5 rfl ?_
                refine V_is_ hC (by decide) rfl dX8_bench_98 ?_
                refine V_il hC dX8_bench_99 0 rfl ?_
                exact V_ir hC dX8_bench_101 rfl
            · refine V_aln hC dX8_bench_58 0 rfl ?_
              refine V_bip (x := -6) hC dX8_bench_59 (by decide) ?_
              refine V_cvi [] hC cv_X8_85 (by decide) rfl rfl (kX8_refuse G _ _) rfl rfl (Nat.le_of_ble_eq_true rfl) ⟨by decide, by decide⟩ dX8_bench_61 ?_
              intro q5
              exact V_ir hC dX8_bench_64 rfl
          · refine V_aln hC dX8_bench_44 0 rfl ?_
            refine V_bip (x := -4) hC dX8_bench_45 (by decide) ?_
            refine V_cvi [] hC cv_X8_85 (by decide) rfl rfl (kX8_refuse G _ _) rfl rfl (Nat.le_of_ble_eq_true rfl) ⟨by decide, by decide⟩ dX8_bench_47 ?_
            intro q6
            exact V_ir hC dX8_bench_50 rfl
        · refine V_aln hC dX8_bench_33 0 rfl ?_
          refine V_bip (x := -2) hC dX8_bench_34 (by decide) ?_
          refine V_cvi [] hC cv_X8_85 (by decide) rfl rfl (kX8_refuse G _ _) rfl rfl (Nat.le_of_ble_eq_true rfl) ⟨by decide, by decide⟩ dX8_bench_36 ?_
          intro q7
          exact V_ir hC dX8_bench_39 rfl
    · refine V_iln hC dX8_bench_11 3 rfl ?_
      refine V_csi [] hC cs_X8_81 (kX8_isShop G _ _) rfl rfl (Nat.le_of_ble_eq_true rfl) ⟨by decide, by decide⟩ dX8_bench_12 ?_
      intro q8
      refine V_ine 24 hC dX8_bench_15 (by decide) ?_ ?_
      · refine V_iln hC dX8_bench_24 2 rfl ?_
        refine V_ieq 40 hC dX8_bench_25 (by decide) ?_ ?_
        · refine V_iln hC dX8_bench_40 3 rfl ?_
          refine V_ige 51 hC dX8_bench_41 (by decide) ?_ ?_
          · refine V_iln hC dX8_bench_51 3 rfl ?_
            refine V_sip (x := 10000) hC dX8_bench_52 (by decide) ?_
            refine V_cle 65 hC dX8_bench_55 (by decide) ?_ ?_
            · refine V_iln hC dX8_bench_65 2 rfl ?_
              refine V_ine 79 hC dX8_bench_66 (by decide) ?_ ?_
              · refine V_aln hC dX8_bench_79 0 rfl ?_
                refine V_gr hC fl_X8_19 (by decide) rfl rfl dX8_bench_80 ?_
                refine V_gr hC fl_X8_197 (by decide) rfl rfl dX8_bench_83 ?_
                refine V_as [(4, .ref _), (0, .ref _), (1, .int _), (2, .int _), (3, .int _)] hC dX8_bench_86 (by decide) rfl ?_
                refine V_al hC dX8_bench_88 0 rfl ?_
                refine V_iln hC dX8_bench_90 2 rfl ?_
                refine V_ia hC (by decide) rfl dX8_bench_91 ?_
                refine V_is [(5, .int _), (4, .ref _), (0, .ref _), (1, .int _), (2, .int _), (3, .int _)] hC dX8_bench_92 (by decide) rfl ?_
                refine V_al hC dX8_bench_94 1 rfl ?_
                refine V_iln hC dX8_bench_96 3 rfl ?_
                refine V_iln hC dX8_bench_97 5 rfl ?_
                refine V_is_ hC (by decide) rfl dX8_bench_98 ?_
                refine V_il hC dX8_bench_99 0 rfl ?_
                exact V_ir hC dX8_bench_101 rfl
              · refine V_aln hC dX8_bench_69 0 rfl ?_
                refine V_gr hC fl_X8_19 (by decide) rfl rfl dX8_bench_70 ?_
                refine V_gr hC fl_X8_194 (by decide) rfl rfl dX8_bench_73 ?_
                refine V_goto 86 hC dX8_bench_76 (by decide) ?_
                refine V_as [(4, .ref _), (0, .ref _), (1, .int _), (2, .int _), (3, .int _)] hC dX8_bench_86 (by decide) rfl ?_
                refine V_al hC dX8_bench_88 0 rfl ?_
                refine V_iln hC dX8_bench_90 2 rfl ?_
                refine V_ia hC (by decide) rfl dX8_bench_91 ?_
                refine V_is [(5, .int _), (4, .ref _), (0, .ref _), (1, .int _), (2, .int _), (3, .int _)] hC dX8_bench_92 (by decide) rfl ?_
                refine V_al hC dX8_bench_94 1 rfl ?_
                refine V_iln hC dX8_bench_96 3 rfl ?_
                refine V_iln hC dX8_bench_97 5 rfl ?_
                refine V_is_ hC (by decide) rfl dX8_bench_98 ?_
                refine V_il hC dX8_bench_99 0 rfl ?_
                exact V_ir hC dX8_bench_101 rfl
            · refine V_aln hC dX8_bench_58 0 rfl ?_
              refine V_bip (x := -6) hC dX8_bench_59 (by decide) ?_
              refine V_cvi [] hC cv_X8_85 (by decide) rfl rfl (kX8_refuse G _ _) rfl rfl (Nat.le_of_ble_eq_true rfl) ⟨by decide, by decide⟩ dX8_bench_61 ?_
              intro q9
              exact V_ir hC dX8_bench_64 rfl
          · refine V_aln hC dX8_bench_44 0 rfl ?_
            refine V_bip (x := -4) hC dX8_bench_45 (by decide) ?_
            refine V_cvi [] hC cv_X8_85 (by decide) rfl rfl (kX8_refuse G _ _) rfl rfl (Nat.le_of_ble_eq_true rfl) ⟨by decide, by decide⟩ dX8_bench_47 ?_
            intro q10
            exact V_ir hC dX8_bench_50 rfl
        · refine V_iln hC dX8_bench_28 2 rfl ?_
          refine V_ic (x := 1) hC dX8_bench_29 (by decide) ?_
          refine V_ceq 40 hC dX8_bench_30 (by decide) ?_ ?_
          · refine V_iln hC dX8_bench_40 3 rfl ?_
            refine V_ige 51 hC dX8_bench_41 (by decide) ?_ ?_
            · refine V_iln hC dX8_bench_51 3 rfl ?_
              refine V_sip (x := 10000) hC dX8_bench_52 (by decide) ?_
              refine V_cle 65 hC dX8_bench_55 (by decide) ?_ ?_
              · refine V_iln hC dX8_bench_65 2 rfl ?_
                refine V_ine 79 hC dX8_bench_66 (by decide) ?_ ?_
                · refine V_aln hC dX8_bench_79 0 rfl ?_
                  refine V_gr hC fl_X8_19 (by decide) rfl rfl dX8_bench_80 ?_
                  refine V_gr hC fl_X8_197 (by decide) rfl rfl dX8_bench_83 ?_
                  refine V_as [(4, .ref _), (0, .ref _), (1, .int _), (2, .int _), (3, .int _)] hC dX8_bench_86 (by decide) rfl ?_
                  refine V_al hC dX8_bench_88 0 rfl ?_
                  refine V_iln hC dX8_bench_90 2 rfl ?_
                  refine V_ia hC (by decide) rfl dX8_bench_91 ?_
                  refine V_is [(5, .int _), (4, .ref _), (0, .ref _), (1, .int _), (2, .int _), (3, .int _)] hC dX8_bench_92 (by decide) rfl ?_
                  refine V_al hC dX8_bench_94 1 rfl ?_
                  refine V_iln hC dX8_bench_96 3 rfl ?_
                  refine V_iln hC dX8_bench_97 5 rfl ?_
                  refine V_is_ hC (by decide) rfl dX8_bench_98 ?_
                  refine V_il hC dX8_bench_99 0 rfl ?_
                  exact V_ir hC dX8_bench_101 rfl
                · refine V_aln hC dX8_bench_69 0 rfl ?_
                  refine V_gr hC fl_X8_19 (by decide) rfl rfl dX8_bench_70 ?_
                  refine V_gr hC fl_X8_194 (by decide) rfl rfl dX8_bench_73 ?_
                  refine V_goto 86 hC dX8_bench_76 (by decide) ?_
                  refine V_as [(4, .ref _), (0, .ref _), (1, .int _), (2, .int _), (3, .int _)] hC dX8_bench_86 (by decide) rfl ?_
                  refine V_al hC dX8_bench_88 0 rfl ?_
                  refine V_iln hC dX8_bench_90 2 rfl ?_
                  refine V_ia hC (by decide) rfl dX8_bench_91 ?_
                  refine V_is [(5, .int _), (4, .ref _), (0, .ref _), (1, .int _), (2, .int _), (3, .int _)] hC dX8_bench_92 (by decide) rfl ?_
                  refine V_al hC dX8_bench_94 1 rfl ?_
                  refine V_iln hC dX8_bench_96 3 rfl ?_
                  refine V_iln hC dX8_bench_97 5 rfl ?_
                  refine V_is_ hC (by decide) rfl dX8_bench_98 ?_
                  refine V_il hC dX8_bench_99 0 rfl ?_
                  exact V_ir hC dX8_bench_101 rfl
              · refine V_aln hC dX8_bench_58 0 rfl ?_
                refine V_bip (x := -6) hC dX8_bench_59 (by decide) ?_
                refine V_cvi [] hC cv_X8_85 (by decide) rfl rfl (kX8_refuse G _ _) rfl rfl (Nat.le_of_ble_eq_true rfl) ⟨by decide, by decide⟩ dX8_bench_61 ?_
                intro q11
                exact V_ir hC dX8_bench_64 rfl
            · refine V_aln hC dX8_bench_44 0 rfl ?_
              refine V_bip (x := -4) hC dX8_bench_45 (by decide) ?_
              refine V_cvi [] hC cv_X8_85 (by decide) rfl rfl (kX8_refuse G _ _) rfl rfl (Nat.le_of_ble_eq_true rfl) ⟨by decide, by decide⟩ dX8_bench_47 ?_
              intro q12
              exact V_ir hC dX8_bench_50 rfl
          · refine V_aln hC dX8_bench_33 0 rfl ?_
            refine V_bip (x := -2) hC dX8_bench_34 (by decide) ?_
            refine V_cvi [] hC cv_X8_85 (by decide) rfl rfl (kX8_refuse G _ _) rfl rfl (Nat.le_of_ble_eq_true rfl) ⟨by decide, by decide⟩ dX8_bench_36 ?_
            intro q13
            exact V_ir hC dX8_bench_39 rfl
      · refine V_aln hC dX8_bench_18 0 rfl ?_
        refine V_ic (x := -1) hC dX8_bench_19 (by decide) ?_
        refine V_cvi [] hC cv_X8_85 (by decide) rfl rfl (kX8_refuse G _ _) rfl rfl (Nat.le_of_ble_eq_true rfl) ⟨by decide, by decide⟩ dX8_bench_20 ?_
        intro q14
        exact V_ir hC dX8_bench_23 rfl
def fX8_measure (v1 : Int32) (v2 : Int32) (v3 : Int32) (v4 : Int32) (z : iw_M) : Option (Int32 × iw_M) :=
  ((fX8_isBench v1 z).bind (fun q1 =>
  (if q1.1 = 0 then
  ((fX8_refuse (-1 : Int32) q1.2).bind (fun q2 =>
  some (q2.1, q2.2)))
  else
  ((fX8_isIdea v2 q1.2).bind (fun q3 =>
  (if q3.1 = 0 then
  ((fX8_refuse (-1 : Int32) q3.2).bind (fun q9 =>
  some (q9.1, q9.2)))
  else
  (if iw_ok v2 40 then
  (if iw_ok v1 10 then
  (if (q3.2.1 10 (Int32.toNatClampNeg v2)) = (q3.2.1 24 (Int32.toNatClampNeg v1)) then
  (if 0 ≤ v4 then
  (if (9999 : Int32) < v4 then
  ((fX8_refuse (-6 : Int32) q3.2).bind (fun q4 =>
  some (q4.1, q4.2)))
  else
  (if (q3.2.1 26 4) < (200 : Int32) then
  ((fX4_add v1 v2 v3 v4 q3.2).bind (fun q5 =>
  some ((q5.2.1 26 4), q5.2)))
  else
  ((fX8_refuse (-6 : Int32) q3.2).bind (fun q6 =>
  some (q6.1, q6.2)))))
  else
  ((fX8_refuse (-4 : Int32) q3.2).bind (fun q7 =>
  some (q7.1, q7.2))))
  else
  ((fX8_refuse (-3 : Int32) q3.2).bind (fun q8 =>
  some (q8.1, q8.2))))
  else none)
  else none)))))))
abbrev bX8_measure : iw_B := (cX8_measure, 5, { frames := 1, cells := 0, slots := 0, locals := 24 }, yX8_measure.cls, (some .int))
set_option maxRecDepth 100000 in
set_option maxHeartbeats 4000000 in
theorem kX8_measure (G : iw_G) (v1 : Int32) (v2 : Int32) (v3 : Int32) (v4 : Int32) (z : iw_M) : iw_K G iw_wX yX8_measure cX8_measure 5 (some .int) 1 24 iw_ei [.ref (iw_ad G 0), .int v1, .int v2, .int v3, .int v4] z (fX8_measure v1 v2 v3 v4 z) := by
  refine iw_of [(0, .ref (iw_ad G 0)), (1, .int v1), (2, .int v2), (3, .int v3), (4, .int v4)] (by decide +kernel) (Nat.le_of_ble_eq_true rfl) rfl ?_
  intro X hC
  unfold fX8_measure
  refine V_iln hC dX8_measure_0 1 rfl ?_
  refine V_csi [] hC cs_X8_191 (kX8_isBench G _ _) rfl rfl (Nat.le_of_ble_eq_true rfl) ⟨by decide, by decide⟩ dX8_measure_1 ?_
  intro q1
  refine V_ieq 15 hC dX8_measure_4 (by decide) ?_ ?_
  · refine V_aln hC dX8_measure_15 0 rfl ?_
    refine V_ic (x := -1) hC dX8_measure_16 (by decide) ?_
    refine V_cvi [] hC cv_X8_85 (by decide) rfl rfl (kX8_refuse G _ _) rfl rfl (Nat.le_of_ble_eq_true rfl) ⟨by decide, by decide⟩ dX8_measure_17 ?_
    intro q2
    exact V_ir hC dX8_measure_20 rfl
  · refine V_aln hC dX8_measure_7 0 rfl ?_
    refine V_iln hC dX8_measure_8 2 rfl ?_
    refine V_cvi [] hC cv_X8_113 (by decide) rfl rfl (kX8_isIdea G _ _) rfl rfl (Nat.le_of_ble_eq_true rfl) ⟨by decide, by decide⟩ dX8_measure_9 ?_
    intro q3
    refine V_ine 21 hC dX8_measure_12 (by decide) ?_ ?_
    · refine V_aln hC dX8_measure_21 0 rfl ?_
      refine V_gr hC fl_X8_65 (by decide) rfl rfl dX8_measure_22 ?_
      refine V_gr hC fl_X8_200 (by decide) rfl rfl dX8_measure_25 ?_
      refine V_iln hC dX8_measure_28 2 rfl ?_
      refine V_ia hC (by decide) rfl dX8_measure_29 ?_
      refine V_aln hC dX8_measure_30 0 rfl ?_
      refine V_gr hC fl_X8_19 (by decide) rfl rfl dX8_measure_31 ?_
      refine V_gr hC fl_X8_194 (by decide) rfl rfl dX8_measure_34 ?_
      refine V_iln hC dX8_measure_37 1 rfl ?_
      refine V_ia hC (by decide) rfl dX8_measure_38 ?_
      refine V_ceq 49 hC dX8_measure_39 (by decide) ?_ ?_
      · refine V_il hC dX8_measure_49 4 rfl ?_
        refine V_ige 61 hC dX8_measure_51 (by decide) ?_ ?_
        · refine V_il hC dX8_measure_61 4 rfl ?_
          refine V_sip (x := 9999) hC dX8_measure_63 (by decide) ?_
          refine V_cgt 82 hC dX8_measure_66 (by decide) ?_ ?_
          · refine V_aln hC dX8_measure_82 0 rfl ?_
            refine V_bip (x := -6) hC dX8_measure_83 (by decide) ?_
            refine V_cvi [] hC cv_X8_85 (by decide) rfl rfl (kX8_refuse G _ _) rfl rfl (Nat.le_of_ble_eq_true rfl) ⟨by decide, by decide⟩ dX8_measure_85 ?_
            intro q4
            exact V_ir hC dX8_measure_88 rfl
          · refine V_aln hC dX8_measure_69 0 rfl ?_
            refine V_gr hC fl_X8_26 (by decide) rfl rfl dX8_measure_70 ?_
            refine V_gi hC fl_X8_201 (by decide) rfl rfl dX8_measure_73 ?_
            refine V_sip (x := 200) hC dX8_measure_76 (by decide) ?_
            refine V_clt 89 hC dX8_measure_79 (by decide) ?_ ?_
            · refine V_aln hC dX8_measure_89 0 rfl ?_
              refine V_gr hC fl_X8_26 (by decide) rfl rfl dX8_measure_90 ?_
              refine V_iln hC dX8_measure_93 1 rfl ?_
              refine V_iln hC dX8_measure_94 2 rfl ?_
              refine V_iln hC dX8_measure_95 3 rfl ?_
              refine V_il hC dX8_measure_96 4 rfl ?_
              refine V_cvv [] hC cv_X8_202 (by decide) rfl rfl (kX4_add G _ _ _ _ _) rfl rfl (Nat.le_of_ble_eq_true rfl) ⟨by decide, by decide⟩ dX8_measure_98 ?_
              intro q5
              refine V_aln hC dX8_measure_101 0 rfl ?_
              refine V_gr hC fl_X8_26 (by decide) rfl rfl dX8_measure_102 ?_
              refine V_gi hC fl_X8_201 (by decide) rfl rfl dX8_measure_105 ?_
              exact V_ir hC dX8_measure_108 rfl
            · refine V_aln hC dX8_measure_82 0 rfl ?_
              refine V_bip (x := -6) hC dX8_measure_83 (by decide) ?_
              refine V_cvi [] hC cv_X8_85 (by decide) rfl rfl (kX8_refuse G _ _) rfl rfl (Nat.le_of_ble_eq_true rfl) ⟨by decide, by decide⟩ dX8_measure_85 ?_
              intro q6
              exact V_ir hC dX8_measure_88 rfl
        · refine V_aln hC dX8_measure_54 0 rfl ?_
          refine V_bip (x := -4) hC dX8_measure_55 (by decide) ?_
          refine V_cvi [] hC cv_X8_85 (by decide) rfl rfl (kX8_refuse G _ _) rfl rfl (Nat.le_of_ble_eq_true rfl) ⟨by decide, by decide⟩ dX8_measure_57 ?_
          intro q7
          exact V_ir hC dX8_measure_60 rfl
      · refine V_aln hC dX8_measure_42 0 rfl ?_
        refine V_bip (x := -3) hC dX8_measure_43 (by decide) ?_
        refine V_cvi [] hC cv_X8_85 (by decide) rfl rfl (kX8_refuse G _ _) rfl rfl (Nat.le_of_ble_eq_true rfl) ⟨by decide, by decide⟩ dX8_measure_45 ?_
        intro q8
        exact V_ir hC dX8_measure_48 rfl
    · refine V_aln hC dX8_measure_15 0 rfl ?_
      refine V_ic (x := -1) hC dX8_measure_16 (by decide) ?_
      refine V_cvi [] hC cv_X8_85 (by decide) rfl rfl (kX8_refuse G _ _) rfl rfl (Nat.le_of_ble_eq_true rfl) ⟨by decide, by decide⟩ dX8_measure_17 ?_
      intro q9
      exact V_ir hC dX8_measure_20 rfl
