def fX1_howMany_L4 (kf : Nat) (K : Int32 → Int32 → iw_M → Option (Int32 × iw_M)) : Nat → Int32 → Int32 → iw_M → Option (Int32 × iw_M)
  | 0, _, _, _ => none
  | n + 1, v1, v2, z => (if (z.1 8 10) ≤ v2 then
  K v1 v2 z
  else
  (if iw_ok v2 40 then
  (if (z.1 (kf + 1) (Int32.toNatClampNeg v2)) = v2 then
  fX1_howMany_L4 kf K n (v1 + (1 : Int32)) (v2 + (1 : Int32)) z
  else
  fX1_howMany_L4 kf K n v1 (v2 + (1 : Int32)) z)
  else none))
def fX1_howMany (kf : Nat) (z : iw_M) : Option (Int32 × iw_M) :=
  fX1_howMany_L4 kf  (fun x1_1 x2_1 z_1 => some (x1_1, z_1)) iw_fu (0 : Int32) (0 : Int32) z
abbrev bX1_howMany : iw_B := (cX1_howMany, 3, { frames := 0, cells := 0, slots := 0, locals := 0 }, yX1_howMany.cls, (some .int))
set_option maxRecDepth 100000 in
set_option maxHeartbeats 4000000 in
theorem vX1_howMany_L4 {G : iw_G} {X : iw_X} (hC : iw_C G iw_wX X bX1_howMany) (kf : Nat) (hf : iw_isF kf) (K : Int32 → Int32 → iw_M → Option (Int32 × iw_M)) (hK : ∀ (v1 : Int32) (v2 : Int32) (z : iw_M), iw_V G iw_wX X bX1_howMany iw_ei 34 [(0, .ref (iw_ad G kf)), (1, .int v1), (2, .int v2)] [] z (K v1 v2 z)) : ∀ (n : Nat) (v1 : Int32) (v2 : Int32) (z : iw_M), iw_V G iw_wX X bX1_howMany iw_ei 4 [(0, .ref (iw_ad G kf)), (1, .int v1), (2, .int v2)] [] z (fX1_howMany_L4 kf K n v1 v2 z) := by
  intro n
  induction n with
  | zero =>
    intro v1 v2 z
    exact V_none
  | succ n ih =>
    intro v1 v2 z
    simp only [fX1_howMany_L4]
    refine V_iln hC dX1_howMany_4 2 rfl ?_
    refine V_aln hC dX1_howMany_5 0 rfl ?_
    refine V_gr hC fl_X1_17 hf.2.2.1 hf.1 rfl dX1_howMany_6 ?_
    refine V_gi hC fl_X1_21 (by decide) rfl rfl dX1_howMany_9 ?_
    refine V_cge 34 hC dX1_howMany_12 (by decide) ?_ ?_
    · exact hK _ _ _
    · refine V_aln hC dX1_howMany_15 0 rfl ?_
      refine V_gr hC fl_X1_11 hf.2.2.1 hf.1 rfl dX1_howMany_16 ?_
      refine V_iln hC dX1_howMany_19 2 rfl ?_
      refine V_ia hC hf.2.2.2 hf.2.1 dX1_howMany_20 ?_
      refine V_iln hC dX1_howMany_21 2 rfl ?_
      refine V_cne 28 hC dX1_howMany_22 (by decide) ?_ ?_
      · refine V_inc (k := 2) (y := 1) [(2, .int _), (0, .ref _), (1, .int _)] hC dX1_howMany_28 rfl (by decide) (by decide) rfl ?_
        refine V_goto 4 hC dX1_howMany_31 (by decide) ?_
        refine V_sub [(0, .ref _), (1, .int _), (2, .int _)] [1, 2, 0] rfl ?_
        exact ih _ _ _
      · refine V_inc (k := 1) (y := 1) [(1, .int _), (0, .ref _), (2, .int _)] hC dX1_howMany_25 rfl (by decide) (by decide) rfl ?_
        refine V_inc (k := 2) (y := 1) [(2, .int _), (1, .int _), (0, .ref _)] hC dX1_howMany_28 rfl (by decide) (by decide) rfl ?_
        refine V_goto 4 hC dX1_howMany_31 (by decide) ?_
        refine V_sub [(0, .ref _), (1, .int _), (2, .int _)] [2, 1, 0] rfl ?_
        exact ih _ _ _
set_option maxRecDepth 100000 in
set_option maxHeartbeats 4000000 in
theorem kX1_howMany (G : iw_G) (kf : Nat) (hf : iw_isF kf) (z : iw_M) : iw_K G iw_wX yX1_howMany cX1_howMany 3 (some .int) 0 0 iw_ei [.ref (iw_ad G kf)] z (fX1_howMany kf z) := by
  refine iw_of [(0, .ref (iw_ad G kf))] (by decide +kernel) (Nat.le_of_ble_eq_true rfl) rfl ?_
  intro X hC
  unfold fX1_howMany
  refine V_ic (x := 0) hC dX1_howMany_0 (by decide) ?_
  refine V_isn [(1, .int _), (0, .ref _)] hC dX1_howMany_1 (by decide) rfl ?_
  refine V_ic (x := 0) hC dX1_howMany_2 (by decide) ?_
  refine V_isn [(2, .int _), (1, .int _), (0, .ref _)] hC dX1_howMany_3 (by decide) rfl ?_
  refine V_sub [(0, .ref _), (1, .int _), (2, .int _)] [2, 1, 0] rfl ?_
  refine vX1_howMany_L4 hC kf hf  _ ?_ _ _ _ _
  intro x1_1 x2_1 z_1
  refine V_iln hC dX1_howMany_34 1 rfl ?_
  exact V_ir hC dX1_howMany_35 rfl
def fX2_add (v1 : Int32) (z : iw_M) : Option (Int32 × iw_M) :=
  (if iw_ok (z.1 1 6) 40 then
  some ((((iw_wI (iw_wI z 2 (Int32.toNatClampNeg (z.1 1 6)) v1) 1 6 (((iw_wI z 2 (Int32.toNatClampNeg (z.1 1 6)) v1).1 1 6) + (1 : Int32))).1 1 6) - (1 : Int32)), (iw_wI (iw_wI z 2 (Int32.toNatClampNeg (z.1 1 6)) v1) 1 6 (((iw_wI z 2 (Int32.toNatClampNeg (z.1 1 6)) v1).1 1 6) + (1 : Int32))))
  else none)
abbrev bX2_add : iw_B := (cX2_add, 2, { frames := 0, cells := 0, slots := 0, locals := 0 }, yX2_add.cls, (some .int))
set_option maxRecDepth 100000 in
set_option maxHeartbeats 4000000 in
theorem kX2_add (G : iw_G) (v1 : Int32) (z : iw_M) : iw_K G iw_wX yX2_add cX2_add 2 (some .int) 0 0 iw_ei [.ref (iw_ad G 1), .int v1] z (fX2_add v1 z) := by
  refine iw_of [(0, .ref (iw_ad G 1)), (1, .int v1)] (by decide +kernel) (Nat.le_of_ble_eq_true rfl) rfl ?_
  intro X hC
  unfold fX2_add
  refine V_aln hC dX2_add_0 0 rfl ?_
  refine V_gr hC fl_X2_11 (by decide) rfl rfl dX2_add_1 ?_
  refine V_aln hC dX2_add_4 0 rfl ?_
  refine V_gi hC fl_X2_32 (by decide) rfl rfl dX2_add_5 ?_
  refine V_iln hC dX2_add_8 1 rfl ?_
  refine V_is_ hC (by decide) rfl dX2_add_9 ?_
  refine V_aln hC dX2_add_10 0 rfl ?_
  refine V_dup hC dX2_add_11 rfl ?_
  refine V_gi hC fl_X2_32 (by decide) rfl rfl dX2_add_12 ?_
  refine V_ic (x := 1) hC dX2_add_15 (by decide) ?_
  refine V_iadd hC dX2_add_16 ?_
  refine V_pi hC fp_X2_32 (by decide) rfl rfl dX2_add_17 ?_
  refine V_aln hC dX2_add_20 0 rfl ?_
  refine V_gi hC fl_X2_32 (by decide) rfl rfl dX2_add_21 ?_
  refine V_ic (x := 1) hC dX2_add_24 (by decide) ?_
  refine V_isub hC dX2_add_25 ?_
  exact V_ir hC dX2_add_26 rfl
def fX8_has (v0 : Int64) (v2 : Int32) (z : iw_M) : Option (Int32 × iw_M) :=
  (if (lg_cmp (((Int64.toUInt64 v0 >>> ((Int32.toInt64 v2).toUInt64 &&& Int64.toUInt64 63)).toInt64) &&& (1 : Int64)) (0 : Int64)) = 0 then
  some ((0 : Int32), z)
  else
  some ((1 : Int32), z))
abbrev bX8_has : iw_B := (cX8_has, 3, { frames := 0, cells := 0, slots := 0, locals := 0 }, yX8_has.cls, (some .boolean))
set_option maxRecDepth 100000 in
set_option maxHeartbeats 4000000 in
theorem kX8_has (G : iw_G) (v0 : Int64) (v2 : Int32) (z : iw_M) : iw_K G iw_wX yX8_has cX8_has 3 (some .boolean) 0 0 iw_ei [.long v0, .int v2] z (fX8_has v0 v2 z) := by
  refine iw_of [(0, .long v0), (2, .int v2)] (by decide +kernel) (Nat.le_of_ble_eq_true rfl) rfl ?_
  intro X hC
  unfold fX8_has
  refine V_lln hC dX8_has_0 0 rfl ?_
  refine V_iln hC dX8_has_1 1 rfl ?_
  refine V_lushr hC dX8_has_2 ?_
  refine V_lc (x := 1) hC dX8_has_3 (by decide) ?_
  refine V_land hC dX8_has_4 ?_
  refine V_lc (x := 0) hC dX8_has_5 (by decide) ?_
  refine V_lcmp hC dX8_has_6 ?_
  refine V_ieq 14 hC dX8_has_7 (by decide) ?_ ?_
  · refine V_ic (x := 0) hC dX8_has_14 (by decide) ?_
    exact V_zr hC dX8_has_15 rfl rfl
  · refine V_ic (x := 1) hC dX8_has_10 (by decide) ?_
    refine V_goto 15 hC dX8_has_11 (by decide) ?_
    exact V_zr hC dX8_has_15 rfl rfl
def fX2_setKin (v1 : Int32) (v2 : Int32) (v3 : Int32) (z : iw_M) : Option (Int32 × iw_M) :=
  (if iw_ok v1 40 then
  ((fX8_has (z.2 3 (Int32.toNatClampNeg v1)) v2 z).bind (fun q1 =>
  (if q1.1 = v3 then
  some ((0 : Int32), q1.2)
  else
  (if iw_ok v1 40 then
  (if iw_ok v1 40 then
  (if iw_ok v2 40 then
  (if iw_ok v2 40 then
  some ((1 : Int32), (iw_wL (iw_wL q1.2 3 (Int32.toNatClampNeg v1) ((q1.2.2 3 (Int32.toNatClampNeg v1)) ^^^ ((1 : Int64) <<< (Int32.toInt64 v2 &&& 63)))) 3 (Int32.toNatClampNeg v2) (((iw_wL q1.2 3 (Int32.toNatClampNeg v1) ((q1.2.2 3 (Int32.toNatClampNeg v1)) ^^^ ((1 : Int64) <<< (Int32.toInt64 v2 &&& 63)))).2 3 (Int32.toNatClampNeg v2)) ^^^ ((1 : Int64) <<< (Int32.toInt64 v1 &&& 63)))))
  else none)
  else none)
  else none)
  else none))))
  else none)
abbrev bX2_setKin : iw_B := (cX2_setKin, 4, { frames := 1, cells := 0, slots := 0, locals := 22 }, yX2_setKin.cls, (some .boolean))
set_option maxRecDepth 100000 in
set_option maxHeartbeats 4000000 in
theorem kX2_setKin (G : iw_G) (v1 : Int32) (v2 : Int32) (v3 : Int32) (z : iw_M) : iw_K G iw_wX yX2_setKin cX2_setKin 4 (some .boolean) 1 22 iw_ei [.ref (iw_ad G 1), .int v1, .int v2, .int v3] z (fX2_setKin v1 v2 v3 z) := by
  refine iw_of [(0, .ref (iw_ad G 1)), (1, .int v1), (2, .int v2), (3, .int v3)] (by decide +kernel) (Nat.le_of_ble_eq_true rfl) rfl ?_
  intro X hC
  unfold fX2_setKin
  refine V_aln hC dX2_setKin_0 0 rfl ?_
  refine V_gr hC fl_X2_15 (by decide) rfl rfl dX2_setKin_1 ?_
  refine V_iln hC dX2_setKin_4 1 rfl ?_
  refine V_la hC (by decide) rfl dX2_setKin_5 ?_
  refine V_iln hC dX2_setKin_6 2 rfl ?_
  refine V_cni [] hC cn_X2_36 (kX8_has G _ _ _) rfl rfl (Nat.le_of_ble_eq_true rfl) ⟨by decide, by decide⟩ dX2_setKin_7 ?_
  intro q1
  refine V_iln hC dX2_setKin_10 3 rfl ?_
  refine V_cne 16 hC dX2_setKin_11 (by decide) ?_ ?_
  · refine V_aln hC dX2_setKin_16 0 rfl ?_
    refine V_gr hC fl_X2_15 (by decide) rfl rfl dX2_setKin_17 ?_
    refine V_iln hC dX2_setKin_20 1 rfl ?_
    refine V_dup2 hC dX2_setKin_21 rfl rfl ?_
    refine V_la hC (by decide) rfl dX2_setKin_22 ?_
    refine V_lc (x := 1) hC dX2_setKin_23 (by decide) ?_
    refine V_iln hC dX2_setKin_24 2 rfl ?_
    refine V_lshl hC dX2_setKin_25 ?_
    refine V_lxor hC dX2_setKin_26 ?_
    refine V_ls_ hC (by decide) rfl dX2_setKin_27 ?_
    refine V_aln hC dX2_setKin_28 0 rfl ?_
    refine V_gr hC fl_X2_15 (by decide) rfl rfl dX2_setKin_29 ?_
    refine V_iln hC dX2_setKin_32 2 rfl ?_
    refine V_dup2 hC dX2_setKin_33 rfl rfl ?_
    refine V_la hC (by decide) rfl dX2_setKin_34 ?_
    refine V_lc (x := 1) hC dX2_setKin_35 (by decide) ?_
    refine V_iln hC dX2_setKin_36 1 rfl ?_
    refine V_lshl hC dX2_setKin_37 ?_
    refine V_lxor hC dX2_setKin_38 ?_
    refine V_ls_ hC (by decide) rfl dX2_setKin_39 ?_
    refine V_ic (x := 1) hC dX2_setKin_40 (by decide) ?_
    exact V_zr hC dX2_setKin_41 rfl rfl
  · refine V_ic (x := 0) hC dX2_setKin_14 (by decide) ?_
    exact V_zr hC dX2_setKin_15 rfl rfl
def fX2_withKin_L5 (v1 : Int64) (K : Int64 → Int32 → iw_M → Option (Int64 × iw_M)) : Nat → Int64 → Int32 → iw_M → Option (Int64 × iw_M)
  | 0, _, _, _ => none
  | n + 1, v3, v5, z => (if (z.1 1 6) ≤ v5 then
  K v3 v5 z
  else
  ((fX8_has v1 v5 z).bind (fun q1 =>
  (if q1.1 = 0 then
  fX2_withKin_L5 v1 K n v3 (v5 + (1 : Int32)) q1.2
  else
  (if iw_ok v5 40 then
  fX2_withKin_L5 v1 K n (v3 ||| (q1.2.2 3 (Int32.toNatClampNeg v5))) (v5 + (1 : Int32)) q1.2
  else none)))))
def fX2_withKin (v1 : Int64) (z : iw_M) : Option (Int64 × iw_M) :=
  fX2_withKin_L5 v1 (fun x3_2 x5_2 z_2 => some (x3_2, z_2)) iw_fu v1 (0 : Int32) z
abbrev bX2_withKin : iw_B := (cX2_withKin, 6, { frames := 1, cells := 0, slots := 0, locals := 22 }, yX2_withKin.cls, (some .long))
set_option maxRecDepth 100000 in
set_option maxHeartbeats 4000000 in
theorem vX2_withKin_L5 {G : iw_G} {X : iw_X} (hC : iw_C G iw_wX X bX2_withKin) (v1 : Int64) (K : Int64 → Int32 → iw_M → Option (Int64 × iw_M)) (hK : ∀ (v3 : Int64) (v5 : Int32) (z : iw_M), iw_V G iw_wX X bX2_withKin iw_el 39 [(0, .ref (iw_ad G 1)), (1, .long v1), (3, .long v3), (5, .int v5)] [] z (K v3 v5 z)) : ∀ (n : Nat) (v3 : Int64) (v5 : Int32) (z : iw_M), iw_V G iw_wX X bX2_withKin iw_el 5 [(0, .ref (iw_ad G 1)), (1, .long v1), (3, .long v3), (5, .int v5)] [] z (fX2_withKin_L5 v1 K n v3 v5 z) := by
  intro n
  induction n with
  | zero =>
    intro v3 v5 z
    exact V_none
  | succ n ih =>
    intro v3 v5 z
    simp only [fX2_withKin_L5]
    refine V_il hC dX2_withKin_5 3 rfl ?_
    refine V_aln hC dX2_withKin_7 0 rfl ?_
    refine V_gi hC fl_X2_32 (by decide) rfl rfl dX2_withKin_8 ?_
    refine V_cge 39 hC dX2_withKin_11 (by decide) ?_ ?_
    · exact hK _ _ _
    · refine V_lln hC dX2_withKin_14 1 rfl ?_
      refine V_il hC dX2_withKin_15 3 rfl ?_
      refine V_cni [] hC cn_X2_36 (kX8_has G _ _ _) rfl rfl (Nat.le_of_ble_eq_true rfl) ⟨by decide, by decide⟩ dX2_withKin_17 ?_
      intro q1
      refine V_ieq 33 hC dX2_withKin_20 (by decide) ?_ ?_
      · refine V_inc (k := 3) (y := 1) [(5, .int _), (0, .ref _), (1, .long _), (3, .long _)] hC dX2_withKin_33 rfl (by decide) (by decide) rfl ?_
        refine V_goto 5 hC dX2_withKin_36 (by decide) ?_
        refine V_sub [(0, .ref _), (1, .long _), (3, .long _), (5, .int _)] [1, 2, 3, 0] rfl ?_
        exact ih _ _ _
      · refine V_lln hC dX2_withKin_23 2 rfl ?_
        refine V_aln hC dX2_withKin_24 0 rfl ?_
        refine V_gr hC fl_X2_15 (by decide) rfl rfl dX2_withKin_25 ?_
        refine V_il hC dX2_withKin_28 3 rfl ?_
        refine V_la hC (by decide) rfl dX2_withKin_30 ?_
        refine V_lor hC dX2_withKin_31 ?_
        refine V_lsn [(3, .long _), (0, .ref _), (1, .long _), (5, .int _)] hC dX2_withKin_32 (by decide) rfl ?_
        refine V_inc (k := 3) (y := 1) [(5, .int _), (3, .long _), (0, .ref _), (1, .long _)] hC dX2_withKin_33 rfl (by decide) (by decide) rfl ?_
        refine V_goto 5 hC dX2_withKin_36 (by decide) ?_
        refine V_sub [(0, .ref _), (1, .long _), (3, .long _), (5, .int _)] [2, 3, 1, 0] rfl ?_
        exact ih _ _ _
set_option maxRecDepth 100000 in
set_option maxHeartbeats 4000000 in
theorem kX2_withKin (G : iw_G) (v1 : Int64) (z : iw_M) : iw_K G iw_wX yX2_withKin cX2_withKin 6 (some .long) 1 22 iw_el [.ref (iw_ad G 1), .long v1] z (fX2_withKin v1 z) := by
  refine iw_of [(0, .ref (iw_ad G 1)), (1, .long v1)] (by decide +kernel) (Nat.le_of_ble_eq_true rfl) rfl ?_
  intro X hC
  unfold fX2_withKin
  refine V_lln hC dX2_withKin_0 1 rfl ?_
  refine V_lsn [(3, .long _), (0, .ref _), (1, .long _)] hC dX2_withKin_1 (by decide) rfl ?_
  refine V_ic (x := 0) hC dX2_withKin_2 (by decide) ?_
  refine V_is [(5, .int _), (3, .long _), (0, .ref _), (1, .long _)] hC dX2_withKin_3 (by decide) rfl ?_
  refine V_sub [(0, .ref _), (1, .long _), (3, .long _), (5, .int _)] [2, 3, 1, 0] rfl ?_
  refine vX2_withKin_L5 hC _ _ ?_ _ _ _ _
  intro x3_2 x5_2 z_2
  refine V_lln hC dX2_withKin_39 2 rfl ?_
  exact V_lr hC dX2_withKin_40 rfl
def fX2_judgesOutside_L5 (v1 : Int32) (K : Int64 → Int32 → iw_M → Option (Int64 × iw_M)) : Nat → Int64 → Int32 → iw_M → Option (Int64 × iw_M)
  | 0, _, _, _ => none
  | n + 1, v2, v4, z => (if (z.1 1 6) ≤ v4 then
  K v2 v4 z
  else
  (if iw_ok v4 40 then
  (if (z.1 4 (Int32.toNatClampNeg v4)) = 0 then
  fX2_judgesOutside_L5 v1 K n v2 (v4 + (1 : Int32)) z
  else
  (if iw_ok v4 40 then
  (if (z.1 2 (Int32.toNatClampNeg v4)) = v1 then
  fX2_judgesOutside_L5 v1 K n v2 (v4 + (1 : Int32)) z
  else
  fX2_judgesOutside_L5 v1 K n (v2 ||| ((1 : Int64) <<< (Int32.toInt64 v4 &&& 63))) (v4 + (1 : Int32)) z)
  else none))
  else none))
def fX2_judgesOutside (v1 : Int32) (z : iw_M) : Option (Int64 × iw_M) :=
  fX2_judgesOutside_L5 v1 (fun x2_1 x4_1 z_1 => some (x2_1, z_1)) iw_fu (0 : Int64) (0 : Int32) z
abbrev bX2_judgesOutside : iw_B := (cX2_judgesOutside, 5, { frames := 0, cells := 0, slots := 0, locals := 0 }, yX2_judgesOutside.cls, (some .long))
set_option maxRecDepth 100000 in
set_option maxHeartbeats 4000000 in
theorem vX2_judgesOutside_L5 {G : iw_G} {X : iw_X} (hC : iw_C G iw_wX X bX2_judgesOutside) (v1 : Int32) (K : Int64 → Int32 → iw_M → Option (Int64 × iw_M)) (hK : ∀ (v2 : Int64) (v4 : Int32) (z : iw_M), iw_V G iw_wX X bX2_judgesOutside iw_el 48 [(0, .ref (iw_ad G 1)), (1, .int v1), (2, .long v2), (4, .int v4)] [] z (K v2 v4 z)) : ∀ (n : Nat) (v2 : Int64) (v4 : Int32) (z : iw_M), iw_V G iw_wX X bX2_judgesOutside iw_el 5 [(0, .ref (iw_ad G 1)), (1, .int v1), (2, .long v2), (4, .int v4)] [] z (fX2_judgesOutside_L5 v1 K n v2 v4 z) := by
  intro n
  induction n with
  | zero =>
    intro v2 v4 z
    exact V_none
  | succ n ih =>
    intro v2 v4 z
    simp only [fX2_judgesOutside_L5]
    refine V_il hC dX2_judgesOutside_5 3 rfl ?_
    refine V_aln hC dX2_judgesOutside_7 0 rfl ?_
    refine V_gi hC fl_X2_32 (by decide) rfl rfl dX2_judgesOutside_8 ?_
    refine V_cge 48 hC dX2_judgesOutside_11 (by decide) ?_ ?_
    · exact hK _ _ _
    · refine V_aln hC dX2_judgesOutside_14 0 rfl ?_
      refine V_gr hC fl_X2_19 (by decide) rfl rfl dX2_judgesOutside_15 ?_
      refine V_il hC dX2_judgesOutside_18 3 rfl ?_
      refine V_ba hC (by decide) rfl dX2_judgesOutside_20 ?_
      refine V_ieq 42 hC dX2_judgesOutside_21 (by decide) ?_ ?_
      · refine V_inc (k := 3) (y := 1) [(4, .int _), (0, .ref _), (1, .int _), (2, .long _)] hC dX2_judgesOutside_42 rfl (by decide) (by decide) rfl ?_
        refine V_goto 5 hC dX2_judgesOutside_45 (by decide) ?_
        refine V_sub [(0, .ref _), (1, .int _), (2, .long _), (4, .int _)] [1, 2, 3, 0] rfl ?_
        exact ih _ _ _
      · refine V_aln hC dX2_judgesOutside_24 0 rfl ?_
        refine V_gr hC fl_X2_11 (by decide) rfl rfl dX2_judgesOutside_25 ?_
        refine V_il hC dX2_judgesOutside_28 3 rfl ?_
        refine V_ia hC (by decide) rfl dX2_judgesOutside_30 ?_
        refine V_iln hC dX2_judgesOutside_31 1 rfl ?_
        refine V_ceq 42 hC dX2_judgesOutside_32 (by decide) ?_ ?_
        · refine V_inc (k := 3) (y := 1) [(4, .int _), (0, .ref _), (1, .int _), (2, .long _)] hC dX2_judgesOutside_42 rfl (by decide) (by decide) rfl ?_
          refine V_goto 5 hC dX2_judgesOutside_45 (by decide) ?_
          refine V_sub [(0, .ref _), (1, .int _), (2, .long _), (4, .int _)] [1, 2, 3, 0] rfl ?_
          exact ih _ _ _
        · refine V_lln hC dX2_judgesOutside_35 2 rfl ?_
          refine V_lc (x := 1) hC dX2_judgesOutside_36 (by decide) ?_
          refine V_il hC dX2_judgesOutside_37 3 rfl ?_
          refine V_lshl hC dX2_judgesOutside_39 ?_
          refine V_lor hC dX2_judgesOutside_40 ?_
          refine V_lsn [(2, .long _), (0, .ref _), (1, .int _), (4, .int _)] hC dX2_judgesOutside_41 (by decide) rfl ?_
          refine V_inc (k := 3) (y := 1) [(4, .int _), (2, .long _), (0, .ref _), (1, .int _)] hC dX2_judgesOutside_42 rfl (by decide) (by decide) rfl ?_
          refine V_goto 5 hC dX2_judgesOutside_45 (by decide) ?_
          refine V_sub [(0, .ref _), (1, .int _), (2, .long _), (4, .int _)] [2, 3, 1, 0] rfl ?_
          exact ih _ _ _
set_option maxRecDepth 100000 in
set_option maxHeartbeats 4000000 in
theorem kX2_judgesOutside (G : iw_G) (v1 : Int32) (z : iw_M) : iw_K G iw_wX yX2_judgesOutside cX2_judgesOutside 5 (some .long) 0 0 iw_el [.ref (iw_ad G 1), .int v1] z (fX2_judgesOutside v1 z) := by
  refine iw_of [(0, .ref (iw_ad G 1)), (1, .int v1)] (by decide +kernel) (Nat.le_of_ble_eq_true rfl) rfl ?_
  intro X hC
  unfold fX2_judgesOutside
  refine V_lc (x := 0) hC dX2_judgesOutside_0 (by decide) ?_
  refine V_lsn [(2, .long _), (0, .ref _), (1, .int _)] hC dX2_judgesOutside_1 (by decide) rfl ?_
  refine V_ic (x := 0) hC dX2_judgesOutside_2 (by decide) ?_
  refine V_is [(4, .int _), (2, .long _), (0, .ref _), (1, .int _)] hC dX2_judgesOutside_3 (by decide) rfl ?_
  refine V_sub [(0, .ref _), (1, .int _), (2, .long _), (4, .int _)] [2, 3, 1, 0] rfl ?_
  refine vX2_judgesOutside_L5 hC _ _ ?_ _ _ _ _
  intro x2_1 x4_1 z_1
  refine V_lln hC dX2_judgesOutside_48 2 rfl ?_
  exact V_lr hC dX2_judgesOutside_49 rfl
def fX2_leastNamed_L6 (v1 : Int64) (K : Int32 → Int32 → iw_M → Option (Int32 × iw_M)) : Nat → Int32 → Int32 → iw_M → Option (Int32 × iw_M)
  | 0, _, _, _ => none
  | n + 1, v3, v4, z => (if (z.1 1 6) ≤ v4 then
  K v3 v4 z
  else
  ((fX8_has v1 v4 z).bind (fun q1 =>
  (if q1.1 = 0 then
  fX2_leastNamed_L6 v1 K n v3 (v4 + (1 : Int32)) q1.2
  else
  (if v3 = (-9 : Int32) then
  fX2_leastNamed_L6 v1 K n v4 (v4 + (1 : Int32)) q1.2
  else
  (if iw_ok v4 40 then
  (if iw_ok v3 40 then
  (if (q1.2.1 5 (Int32.toNatClampNeg v3)) ≤ (q1.2.1 5 (Int32.toNatClampNeg v4)) then
  fX2_leastNamed_L6 v1 K n v3 (v4 + (1 : Int32)) q1.2
  else
  fX2_leastNamed_L6 v1 K n v4 (v4 + (1 : Int32)) q1.2)
  else none)
  else none))))))
def fX2_leastNamed (v1 : Int64) (z : iw_M) : Option (Int32 × iw_M) :=
  fX2_leastNamed_L6 v1 (fun x3_2 x4_2 z_2 => some (x3_2, z_2)) iw_fu (-9 : Int32) (0 : Int32) z
abbrev bX2_leastNamed : iw_B := (cX2_leastNamed, 5, { frames := 1, cells := 0, slots := 0, locals := 22 }, yX2_leastNamed.cls, (some .int))
set_option maxRecDepth 100000 in
set_option maxHeartbeats 4000000 in
theorem vX2_leastNamed_L6 {G : iw_G} {X : iw_X} (hC : iw_C G iw_wX X bX2_leastNamed) (v1 : Int64) (K : Int32 → Int32 → iw_M → Option (Int32 × iw_M)) (hK : ∀ (v3 : Int32) (v4 : Int32) (z : iw_M), iw_V G iw_wX X bX2_leastNamed iw_ei 55 [(0, .ref (iw_ad G 1)), (1, .long v1), (3, .int v3), (4, .int v4)] [] z (K v3 v4 z)) : ∀ (n : Nat) (v3 : Int32) (v4 : Int32) (z : iw_M), iw_V G iw_wX X bX2_leastNamed iw_ei 6 [(0, .ref (iw_ad G 1)), (1, .long v1), (3, .int v3), (4, .int v4)] [] z (fX2_leastNamed_L6 v1 K n v3 v4 z) := by
  intro n
  induction n with
  | zero =>
    intro v3 v4 z
    exact V_none
  | succ n ih =>
    intro v3 v4 z
    simp only [fX2_leastNamed_L6]
    refine V_il hC dX2_leastNamed_6 3 rfl ?_
    refine V_aln hC dX2_leastNamed_8 0 rfl ?_
    refine V_gi hC fl_X2_32 (by decide) rfl rfl dX2_leastNamed_9 ?_
    refine V_cge 55 hC dX2_leastNamed_12 (by decide) ?_ ?_
    · exact hK _ _ _
    · refine V_lln hC dX2_leastNamed_15 1 rfl ?_
      refine V_il hC dX2_leastNamed_16 3 rfl ?_
      refine V_cni [] hC cn_X2_36 (kX8_has G _ _ _) rfl rfl (Nat.le_of_ble_eq_true rfl) ⟨by decide, by decide⟩ dX2_leastNamed_18 ?_
      intro q1
      refine V_ieq 49 hC dX2_leastNamed_21 (by decide) ?_ ?_
      · refine V_inc (k := 3) (y := 1) [(4, .int _), (0, .ref _), (1, .long _), (3, .int _)] hC dX2_leastNamed_49 rfl (by decide) (by decide) rfl ?_
        refine V_goto 6 hC dX2_leastNamed_52 (by decide) ?_
        refine V_sub [(0, .ref _), (1, .long _), (3, .int _), (4, .int _)] [1, 2, 3, 0] rfl ?_
        exact ih _ _ _
      · refine V_iln hC dX2_leastNamed_24 2 rfl ?_
        refine V_bip (x := -9) hC dX2_leastNamed_25 (by decide) ?_
        refine V_ceq 46 hC dX2_leastNamed_27 (by decide) ?_ ?_
        · refine V_il hC dX2_leastNamed_46 3 rfl ?_
          refine V_isn [(3, .int _), (0, .ref _), (1, .long _), (4, .int _)] hC dX2_leastNamed_48 (by decide) rfl ?_
          refine V_inc (k := 3) (y := 1) [(4, .int _), (3, .int _), (0, .ref _), (1, .long _)] hC dX2_leastNamed_49 rfl (by decide) (by decide) rfl ?_
          refine V_goto 6 hC dX2_leastNamed_52 (by decide) ?_
          refine V_sub [(0, .ref _), (1, .long _), (3, .int _), (4, .int _)] [2, 3, 1, 0] rfl ?_
          exact ih _ _ _
        · refine V_aln hC dX2_leastNamed_30 0 rfl ?_
          refine V_gr hC fl_X2_23 (by decide) rfl rfl dX2_leastNamed_31 ?_
          refine V_il hC dX2_leastNamed_34 3 rfl ?_
          refine V_ia hC (by decide) rfl dX2_leastNamed_36 ?_
          refine V_aln hC dX2_leastNamed_37 0 rfl ?_
          refine V_gr hC fl_X2_23 (by decide) rfl rfl dX2_leastNamed_38 ?_
          refine V_iln hC dX2_leastNamed_41 2 rfl ?_
          refine V_ia hC (by decide) rfl dX2_leastNamed_42 ?_
          refine V_cge 49 hC dX2_leastNamed_43 (by decide) ?_ ?_
          · refine V_inc (k := 3) (y := 1) [(4, .int _), (0, .ref _), (1, .long _), (3, .int _)] hC dX2_leastNamed_49 rfl (by decide) (by decide) rfl ?_
            refine V_goto 6 hC dX2_leastNamed_52 (by decide) ?_
            refine V_sub [(0, .ref _), (1, .long _), (3, .int _), (4, .int _)] [1, 2, 3, 0] rfl ?_
            exact ih _ _ _
          · refine V_il hC dX2_leastNamed_46 3 rfl ?_
            refine V_isn [(3, .int _), (0, .ref _), (1, .long _), (4, .int _)] hC dX2_leastNamed_48 (by decide) rfl ?_
            refine V_inc (k := 3) (y := 1) [(4, .int _), (3, .int _), (0, .ref _), (1, .long _)] hC dX2_leastNamed_49 rfl (by decide) (by decide) rfl ?_
            refine V_goto 6 hC dX2_leastNamed_52 (by decide) ?_
            refine V_sub [(0, .ref _), (1, .long _), (3, .int _), (4, .int _)] [2, 3, 1, 0] rfl ?_
            exact ih _ _ _
set_option maxRecDepth 100000 in
set_option maxHeartbeats 4000000 in
theorem kX2_leastNamed (G : iw_G) (v1 : Int64) (z : iw_M) : iw_K G iw_wX yX2_leastNamed cX2_leastNamed 5 (some .int) 1 22 iw_ei [.ref (iw_ad G 1), .long v1] z (fX2_leastNamed v1 z) := by
  refine iw_of [(0, .ref (iw_ad G 1)), (1, .long v1)] (by decide +kernel) (Nat.le_of_ble_eq_true rfl) rfl ?_
  intro X hC
  unfold fX2_leastNamed
  refine V_bip (x := -9) hC dX2_leastNamed_0 (by decide) ?_
  refine V_isn [(3, .int _), (0, .ref _), (1, .long _)] hC dX2_leastNamed_2 (by decide) rfl ?_
  refine V_ic (x := 0) hC dX2_leastNamed_3 (by decide) ?_
  refine V_is [(4, .int _), (3, .int _), (0, .ref _), (1, .long _)] hC dX2_leastNamed_4 (by decide) rfl ?_
  refine V_sub [(0, .ref _), (1, .long _), (3, .int _), (4, .int _)] [2, 3, 1, 0] rfl ?_
  refine vX2_leastNamed_L6 hC _ _ ?_ _ _ _ _
  intro x3_2 x4_2 z_2
  refine V_iln hC dX2_leastNamed_55 2 rfl ?_
  exact V_ir hC dX2_leastNamed_56 rfl
def fX2_coinsInAll_L4 (K : Int32 → Int32 → iw_M → Option (Int32 × iw_M)) : Nat → Int32 → Int32 → iw_M → Option (Int32 × iw_M)
  | 0, _, _, _ => none
  | n + 1, v1, v2, z => (if (z.1 1 6) ≤ v2 then
  K v1 v2 z
  else
  (if iw_ok v2 40 then
  (if iw_ok v2 40 then
  fX2_coinsInAll_L4 K n (v1 + ((z.1 6 (Int32.toNatClampNeg v2)) + (z.1 7 (Int32.toNatClampNeg v2)))) (v2 + (1 : Int32)) z
  else none)
  else none))
def fX2_coinsInAll (z : iw_M) : Option (Int32 × iw_M) :=
  fX2_coinsInAll_L4  (fun x1_1 x2_1 z_1 => some (x1_1, z_1)) iw_fu (0 : Int32) (0 : Int32) z
abbrev bX2_coinsInAll : iw_B := (cX2_coinsInAll, 3, { frames := 0, cells := 0, slots := 0, locals := 0 }, yX2_coinsInAll.cls, (some .int))
set_option maxRecDepth 100000 in
set_option maxHeartbeats 4000000 in
theorem vX2_coinsInAll_L4 {G : iw_G} {X : iw_X} (hC : iw_C G iw_wX X bX2_coinsInAll) (K : Int32 → Int32 → iw_M → Option (Int32 × iw_M)) (hK : ∀ (v1 : Int32) (v2 : Int32) (z : iw_M), iw_V G iw_wX X bX2_coinsInAll iw_ei 34 [(0, .ref (iw_ad G 1)), (1, .int v1), (2, .int v2)] [] z (K v1 v2 z)) : ∀ (n : Nat) (v1 : Int32) (v2 : Int32) (z : iw_M), iw_V G iw_wX X bX2_coinsInAll iw_ei 4 [(0, .ref (iw_ad G 1)), (1, .int v1), (2, .int v2)] [] z (fX2_coinsInAll_L4 K n v1 v2 z) := by
  intro n
  induction n with
  | zero =>
    intro v1 v2 z
    exact V_none
  | succ n ih =>
    intro v1 v2 z
    simp only [fX2_coinsInAll_L4]
    refine V_iln hC dX2_coinsInAll_4 2 rfl ?_
    refine V_aln hC dX2_coinsInAll_5 0 rfl ?_
    refine V_gi hC fl_X2_32 (by decide) rfl rfl dX2_coinsInAll_6 ?_
    refine V_cge 34 hC dX2_coinsInAll_9 (by decide) ?_ ?_
    · exact hK _ _ _
    · refine V_iln hC dX2_coinsInAll_12 1 rfl ?_
      refine V_aln hC dX2_coinsInAll_13 0 rfl ?_
      refine V_gr hC fl_X2_26 (by decide) rfl rfl dX2_coinsInAll_14 ?_
      refine V_iln hC dX2_coinsInAll_17 2 rfl ?_
      refine V_ia hC (by decide) rfl dX2_coinsInAll_18 ?_
      refine V_aln hC dX2_coinsInAll_19 0 rfl ?_
      refine V_gr hC fl_X2_29 (by decide) rfl rfl dX2_coinsInAll_20 ?_
      refine V_iln hC dX2_coinsInAll_23 2 rfl ?_
      refine V_ia hC (by decide) rfl dX2_coinsInAll_24 ?_
      refine V_iadd hC dX2_coinsInAll_25 ?_
      refine V_iadd hC dX2_coinsInAll_26 ?_
      refine V_isn [(1, .int _), (0, .ref _), (2, .int _)] hC dX2_coinsInAll_27 (by decide) rfl ?_
      refine V_inc (k := 2) (y := 1) [(2, .int _), (1, .int _), (0, .ref _)] hC dX2_coinsInAll_28 rfl (by decide) (by decide) rfl ?_
      refine V_goto 4 hC dX2_coinsInAll_31 (by decide) ?_
      refine V_sub [(0, .ref _), (1, .int _), (2, .int _)] [2, 1, 0] rfl ?_
      exact ih _ _ _
set_option maxRecDepth 100000 in
set_option maxHeartbeats 4000000 in
theorem kX2_coinsInAll (G : iw_G) (z : iw_M) : iw_K G iw_wX yX2_coinsInAll cX2_coinsInAll 3 (some .int) 0 0 iw_ei [.ref (iw_ad G 1)] z (fX2_coinsInAll z) := by
  refine iw_of [(0, .ref (iw_ad G 1))] (by decide +kernel) (Nat.le_of_ble_eq_true rfl) rfl ?_
  intro X hC
  unfold fX2_coinsInAll
  refine V_ic (x := 0) hC dX2_coinsInAll_0 (by decide) ?_
  refine V_isn [(1, .int _), (0, .ref _)] hC dX2_coinsInAll_1 (by decide) rfl ?_
  refine V_ic (x := 0) hC dX2_coinsInAll_2 (by decide) ?_
  refine V_isn [(2, .int _), (1, .int _), (0, .ref _)] hC dX2_coinsInAll_3 (by decide) rfl ?_
  refine V_sub [(0, .ref _), (1, .int _), (2, .int _)] [2, 1, 0] rfl ?_
  refine vX2_coinsInAll_L4 hC  _ ?_ _ _ _ _
  intro x1_1 x2_1 z_1
  refine V_iln hC dX2_coinsInAll_34 1 rfl ?_
  exact V_ir hC dX2_coinsInAll_35 rfl
def fX3_add (v1 : Int32) (v2 : Int32) (v3 : Int32) (v4 : Int32) (v5 : Int32) (z : iw_M) : Option (Int32 × iw_M) :=
  (if iw_ok (z.1 8 10) 40 then
  (if iw_ok ((iw_wI z 9 (Int32.toNatClampNeg (z.1 8 10)) v1).1 8 10) 40 then
  (if iw_ok ((iw_wI (iw_wI z 9 (Int32.toNatClampNeg (z.1 8 10)) v1) 10 (Int32.toNatClampNeg ((iw_wI z 9 (Int32.toNatClampNeg (z.1 8 10)) v1).1 8 10)) v2).1 8 10) 40 then
  (if iw_ok ((iw_wI (iw_wI (iw_wI z 9 (Int32.toNatClampNeg (z.1 8 10)) v1) 10 (Int32.toNatClampNeg ((iw_wI z 9 (Int32.toNatClampNeg (z.1 8 10)) v1).1 8 10)) v2) 11 (Int32.toNatClampNeg ((iw_wI (iw_wI z 9 (Int32.toNatClampNeg (z.1 8 10)) v1) 10 (Int32.toNatClampNeg ((iw_wI z 9 (Int32.toNatClampNeg (z.1 8 10)) v1).1 8 10)) v2).1 8 10)) v3).1 8 10) 40 then
  (if iw_ok ((iw_wI (iw_wI (iw_wI (iw_wI z 9 (Int32.toNatClampNeg (z.1 8 10)) v1) 10 (Int32.toNatClampNeg ((iw_wI z 9 (Int32.toNatClampNeg (z.1 8 10)) v1).1 8 10)) v2) 11 (Int32.toNatClampNeg ((iw_wI (iw_wI z 9 (Int32.toNatClampNeg (z.1 8 10)) v1) 10 (Int32.toNatClampNeg ((iw_wI z 9 (Int32.toNatClampNeg (z.1 8 10)) v1).1 8 10)) v2).1 8 10)) v3) 12 (Int32.toNatClampNeg ((iw_wI (iw_wI (iw_wI z 9 (Int32.toNatClampNeg (z.1 8 10)) v1) 10 (Int32.toNatClampNeg ((iw_wI z 9 (Int32.toNatClampNeg (z.1 8 10)) v1).1 8 10)) v2) 11 (Int32.toNatClampNeg ((iw_wI (iw_wI z 9 (Int32.toNatClampNeg (z.1 8 10)) v1) 10 (Int32.toNatClampNeg ((iw_wI z 9 (Int32.toNatClampNeg (z.1 8 10)) v1).1 8 10)) v2).1 8 10)) v3).1 8 10)) v4).1 8 10) 40 then
  some ((((iw_wI (iw_wI (iw_wI (iw_wI (iw_wI (iw_wI z 9 (Int32.toNatClampNeg (z.1 8 10)) v1) 10 (Int32.toNatClampNeg ((iw_wI z 9 (Int32.toNatClampNeg (z.1 8 10)) v1).1 8 10)) v2) 11 (Int32.toNatClampNeg ((iw_wI (iw_wI z 9 (Int32.toNatClampNeg (z.1 8 10)) v1) 10 (Int32.toNatClampNeg ((iw_wI z 9 (Int32.toNatClampNeg (z.1 8 10)) v1).1 8 10)) v2).1 8 10)) v3) 12 (Int32.toNatClampNeg ((iw_wI (iw_wI (iw_wI z 9 (Int32.toNatClampNeg (z.1 8 10)) v1) 10 (Int32.toNatClampNeg ((iw_wI z 9 (Int32.toNatClampNeg (z.1 8 10)) v1).1 8 10)) v2) 11 (Int32.toNatClampNeg ((iw_wI (iw_wI z 9 (Int32.toNatClampNeg (z.1 8 10)) v1) 10 (Int32.toNatClampNeg ((iw_wI z 9 (Int32.toNatClampNeg (z.1 8 10)) v1).1 8 10)) v2).1 8 10)) v3).1 8 10)) v4) 13 (Int32.toNatClampNeg ((iw_wI (iw_wI (iw_wI (iw_wI z 9 (Int32.toNatClampNeg (z.1 8 10)) v1) 10 (Int32.toNatClampNeg ((iw_wI z 9 (Int32.toNatClampNeg (z.1 8 10)) v1).1 8 10)) v2) 11 (Int32.toNatClampNeg ((iw_wI (iw_wI z 9 (Int32.toNatClampNeg (z.1 8 10)) v1) 10 (Int32.toNatClampNeg ((iw_wI z 9 (Int32.toNatClampNeg (z.1 8 10)) v1).1 8 10)) v2).1 8 10)) v3) 12 (Int32.toNatClampNeg ((iw_wI (iw_wI (iw_wI z 9 (Int32.toNatClampNeg (z.1 8 10)) v1) 10 (Int32.toNatClampNeg ((iw_wI z 9 (Int32.toNatClampNeg (z.1 8 10)) v1).1 8 10)) v2) 11 (Int32.toNatClampNeg ((iw_wI (iw_wI z 9 (Int32.toNatClampNeg (z.1 8 10)) v1) 10 (Int32.toNatClampNeg ((iw_wI z 9 (Int32.toNatClampNeg (z.1 8 10)) v1).1 8 10)) v2).1 8 10)) v3).1 8 10)) v4).1 8 10)) v5) 8 10 (((iw_wI (iw_wI (iw_wI (iw_wI (iw_wI z 9 (Int32.toNatClampNeg (z.1 8 10)) v1) 10 (Int32.toNatClampNeg ((iw_wI z 9 (Int32.toNatClampNeg (z.1 8 10)) v1).1 8 10)) v2) 11 (Int32.toNatClampNeg ((iw_wI (iw_wI z 9 (Int32.toNatClampNeg (z.1 8 10)) v1) 10 (Int32.toNatClampNeg ((iw_wI z 9 (Int32.toNatClampNeg (z.1 8 10)) v1).1 8 10)) v2).1 8 10)) v3) 12 (Int32.toNatClampNeg ((iw_wI (iw_wI (iw_wI z 9 (Int32.toNatClampNeg (z.1 8 10)) v1) 10 (Int32.toNatClampNeg ((iw_wI z 9 (Int32.toNatClampNeg (z.1 8 10)) v1).1 8 10)) v2) 11 (Int32.toNatClampNeg ((iw_wI (iw_wI z 9 (Int32.toNatClampNeg (z.1 8 10)) v1) 10 (Int32.toNatClampNeg ((iw_wI z 9 (Int32.toNatClampNeg (z.1 8 10)) v1).1 8 10)) v2).1 8 10)) v3).1 8 10)) v4) 13 (Int32.toNatClampNeg ((iw_wI (iw_wI (iw_wI (iw_wI z 9 (Int32.toNatClampNeg (z.1 8 10)) v1) 10 (Int32.toNatClampNeg ((iw_wI z 9 (Int32.toNatClampNeg (z.1 8 10)) v1).1 8 10)) v2) 11 (Int32.toNatClampNeg ((iw_wI (iw_wI z 9 (Int32.toNatClampNeg (z.1 8 10)) v1) 10 (Int32.toNatClampNeg ((iw_wI z 9 (Int32.toNatClampNeg (z.1 8 10)) v1).1 8 10)) v2).1 8 10)) v3) 12 (Int32.toNatClampNeg ((iw_wI (iw_wI (iw_wI z 9 (Int32.toNatClampNeg (z.1 8 10)) v1) 10 (Int32.toNatClampNeg ((iw_wI z 9 (Int32.toNatClampNeg (z.1 8 10)) v1).1 8 10)) v2) 11 (Int32.toNatClampNeg ((iw_wI (iw_wI z 9 (Int32.toNatClampNeg (z.1 8 10)) v1) 10 (Int32.toNatClampNeg ((iw_wI z 9 (Int32.toNatClampNeg (z.1 8 10)) v1).1 8 10)) v2).1 8 10)) v3).1 8 10)) v4).1 8 10)) v5).1 8 10) + (1 : Int32))).1 8 10) - (1 : Int32)), (iw_wI (iw_wI (iw_wI (iw_wI (iw_wI (iw_wI z 9 (Int32.toNatClampNeg (z.1 8 10)) v1) 10 (Int32.toNatClampNeg ((iw_wI z 9 (Int32.toNatClampNeg (z.1 8 10)) v1).1 8 10)) v2) 11 (Int32.toNatClampNeg ((iw_wI (iw_wI z 9 (Int32.toNatClampNeg (z.1 8 10)) v1) 10 (Int32.toNatClampNeg ((iw_wI z 9 (Int32.toNatClampNeg (z.1 8 10)) v1).1 8 10)) v2).1 8 10)) v3) 12 (Int32.toNatClampNeg ((iw_wI (iw_wI (iw_wI z 9 (Int32.toNatClampNeg (z.1 8 10)) v1) 10 (Int32.toNatClampNeg ((iw_wI z 9 (Int32.toNatClampNeg (z.1 8 10)) v1).1 8 10)) v2) 11 (Int32.toNatClampNeg ((iw_wI (iw_wI z 9 (Int32.toNatClampNeg (z.1 8 10)) v1) 10 (Int32.toNatClampNeg ((iw_wI z 9 (Int32.toNatClampNeg (z.1 8 10)) v1).1 8 10)) v2).1 8 10)) v3).1 8 10)) v4) 13 (Int32.toNatClampNeg ((iw_wI (iw_wI (iw_wI (iw_wI z 9 (Int32.toNatClampNeg (z.1 8 10)) v1) 10 (Int32.toNatClampNeg ((iw_wI z 9 (Int32.toNatClampNeg (z.1 8 10)) v1).1 8 10)) v2) 11 (Int32.toNatClampNeg ((iw_wI (iw_wI z 9 (Int32.toNatClampNeg (z.1 8 10)) v1) 10 (Int32.toNatClampNeg ((iw_wI z 9 (Int32.toNatClampNeg (z.1 8 10)) v1).1 8 10)) v2).1 8 10)) v3) 12 (Int32.toNatClampNeg ((iw_wI (iw_wI (iw_wI z 9 (Int32.toNatClampNeg (z.1 8 10)) v1) 10 (Int32.toNatClampNeg ((iw_wI z 9 (Int32.toNatClampNeg (z.1 8 10)) v1).1 8 10)) v2) 11 (Int32.toNatClampNeg ((iw_wI (iw_wI z 9 (Int32.toNatClampNeg (z.1 8 10)) v1) 10 (Int32.toNatClampNeg ((iw_wI z 9 (Int32.toNatClampNeg (z.1 8 10)) v1).1 8 10)) v2).1 8 10)) v3).1 8 10)) v4).1 8 10)) v5) 8 10 (((iw_wI (iw_wI (iw_wI (iw_wI (iw_wI z 9 (Int32.toNatClampNeg (z.1 8 10)) v1) 10 (Int32.toNatClampNeg ((iw_wI z 9 (Int32.toNatClampNeg (z.1 8 10)) v1).1 8 10)) v2) 11 (Int32.toNatClampNeg ((iw_wI (iw_wI z 9 (Int32.toNatClampNeg (z.1 8 10)) v1) 10 (Int32.toNatClampNeg ((iw_wI z 9 (Int32.toNatClampNeg (z.1 8 10)) v1).1 8 10)) v2).1 8 10)) v3) 12 (Int32.toNatClampNeg ((iw_wI (iw_wI (iw_wI z 9 (Int32.toNatClampNeg (z.1 8 10)) v1) 10 (Int32.toNatClampNeg ((iw_wI z 9 (Int32.toNatClampNeg (z.1 8 10)) v1).1 8 10)) v2) 11 (Int32.toNatClampNeg ((iw_wI (iw_wI z 9 (Int32.toNatClampNeg (z.1 8 10)) v1) 10 (Int32.toNatClampNeg ((iw_wI z 9 (Int32.toNatClampNeg (z.1 8 10)) v1).1 8 10)) v2).1 8 10)) v3).1 8 10)) v4) 13 (Int32.toNatClampNeg ((iw_wI (iw_wI (iw_wI (iw_wI z 9 (Int32.toNatClampNeg (z.1 8 10)) v1) 10 (Int32.toNatClampNeg ((iw_wI z 9 (Int32.toNatClampNeg (z.1 8 10)) v1).1 8 10)) v2) 11 (Int32.toNatClampNeg ((iw_wI (iw_wI z 9 (Int32.toNatClampNeg (z.1 8 10)) v1) 10 (Int32.toNatClampNeg ((iw_wI z 9 (Int32.toNatClampNeg (z.1 8 10)) v1).1 8 10)) v2).1 8 10)) v3) 12 (Int32.toNatClampNeg ((iw_wI (iw_wI (iw_wI z 9 (Int32.toNatClampNeg (z.1 8 10)) v1) 10 (Int32.toNatClampNeg ((iw_wI z 9 (Int32.toNatClampNeg (z.1 8 10)) v1).1 8 10)) v2) 11 (Int32.toNatClampNeg ((iw_wI (iw_wI z 9 (Int32.toNatClampNeg (z.1 8 10)) v1) 10 (Int32.toNatClampNeg ((iw_wI z 9 (Int32.toNatClampNeg (z.1 8 10)) v1).1 8 10)) v2).1 8 10)) v3).1 8 10)) v4).1 8 10)) v5).1 8 10) + (1 : Int32))))
  else none)
  else none)
  else none)
  else none)
  else none)
abbrev bX3_add : iw_B := (cX3_add, 6, { frames := 0, cells := 0, slots := 0, locals := 0 }, yX3_add.cls, (some .int))
set_option maxRecDepth 100000 in
set_option maxHeartbeats 4000000 in
theorem kX3_add (G : iw_G) (v1 : Int32) (v2 : Int32) (v3 : Int32) (v4 : Int32) (v5 : Int32) (z : iw_M) : iw_K G iw_wX yX3_add cX3_add 6 (some .int) 0 0 iw_ei [.ref (iw_ad G 8), .int v1, .int v2, .int v3, .int v4, .int v5] z (fX3_add v1 v2 v3 v4 v5 z) := by
  refine iw_of [(0, .ref (iw_ad G 8)), (1, .int v1), (2, .int v2), (3, .int v3), (4, .int v4), (5, .int v5)] (by decide +kernel) (Nat.le_of_ble_eq_true rfl) rfl ?_
  intro X hC
  unfold fX3_add
  refine V_aln hC dX3_add_0 0 rfl ?_
  refine V_gr hC fl_X3_11 (by decide) rfl rfl dX3_add_1 ?_
  refine V_aln hC dX3_add_4 0 rfl ?_
  refine V_gi hC fl_X3_43 (by decide) rfl rfl dX3_add_5 ?_
  refine V_iln hC dX3_add_8 1 rfl ?_
  refine V_is_ hC (by decide) rfl dX3_add_9 ?_
  refine V_aln hC dX3_add_10 0 rfl ?_
  refine V_gr hC fl_X3_15 (by decide) rfl rfl dX3_add_11 ?_
  refine V_aln hC dX3_add_14 0 rfl ?_
  refine V_gi hC fl_X3_43 (by decide) rfl rfl dX3_add_15 ?_
  refine V_iln hC dX3_add_18 2 rfl ?_
  refine V_is_ hC (by decide) rfl dX3_add_19 ?_
  refine V_aln hC dX3_add_20 0 rfl ?_
  refine V_gr hC fl_X3_18 (by decide) rfl rfl dX3_add_21 ?_
  refine V_aln hC dX3_add_24 0 rfl ?_
  refine V_gi hC fl_X3_43 (by decide) rfl rfl dX3_add_25 ?_
  refine V_iln hC dX3_add_28 3 rfl ?_
  refine V_is_ hC (by decide) rfl dX3_add_29 ?_
  refine V_aln hC dX3_add_30 0 rfl ?_
  refine V_gr hC fl_X3_21 (by decide) rfl rfl dX3_add_31 ?_
  refine V_aln hC dX3_add_34 0 rfl ?_
  refine V_gi hC fl_X3_43 (by decide) rfl rfl dX3_add_35 ?_
  refine V_il hC dX3_add_38 4 rfl ?_
  refine V_is_ hC (by decide) rfl dX3_add_40 ?_
  refine V_aln hC dX3_add_41 0 rfl ?_
  refine V_gr hC fl_X3_24 (by decide) rfl rfl dX3_add_42 ?_
  refine V_aln hC dX3_add_45 0 rfl ?_
  refine V_gi hC fl_X3_43 (by decide) rfl rfl dX3_add_46 ?_
  refine V_il hC dX3_add_49 5 rfl ?_
  refine V_is_ hC (by decide) rfl dX3_add_51 ?_
  refine V_aln hC dX3_add_52 0 rfl ?_
  refine V_dup hC dX3_add_53 rfl ?_
  refine V_gi hC fl_X3_43 (by decide) rfl rfl dX3_add_54 ?_
  refine V_ic (x := 1) hC dX3_add_57 (by decide) ?_
  refine V_iadd hC dX3_add_58 ?_
  refine V_pi hC fp_X3_43 (by decide) rfl rfl dX3_add_59 ?_
  refine V_aln hC dX3_add_62 0 rfl ?_
  refine V_gi hC fl_X3_43 (by decide) rfl rfl dX3_add_63 ?_
  refine V_ic (x := 1) hC dX3_add_66 (by decide) ?_
  refine V_isub hC dX3_add_67 ?_
  exact V_ir hC dX3_add_68 rfl
def fJ13_bitCount_95d88 (v0 : Int64) (z : iw_M) : Option (Int32 × iw_M) :=
  some (((Int64.toInt32 ((((((((v0 - (((Int64.toUInt64 v0 >>> ((Int32.toInt64 (1 : Int32)).toUInt64 &&& Int64.toUInt64 63)).toInt64) &&& (6148914691236517205 : Int64))) &&& (3689348814741910323 : Int64)) + (((Int64.toUInt64 (v0 - (((Int64.toUInt64 v0 >>> ((Int32.toInt64 (1 : Int32)).toUInt64 &&& Int64.toUInt64 63)).toInt64) &&& (6148914691236517205 : Int64))) >>> ((Int32.toInt64 (2 : Int32)).toUInt64 &&& Int64.toUInt64 63)).toInt64) &&& (3689348814741910323 : Int64))) + ((Int64.toUInt64 (((v0 - (((Int64.toUInt64 v0 >>> ((Int32.toInt64 (1 : Int32)).toUInt64 &&& Int64.toUInt64 63)).toInt64) &&& (6148914691236517205 : Int64))) &&& (3689348814741910323 : Int64)) + (((Int64.toUInt64 (v0 - (((Int64.toUInt64 v0 >>> ((Int32.toInt64 (1 : Int32)).toUInt64 &&& Int64.toUInt64 63)).toInt64) &&& (6148914691236517205 : Int64))) >>> ((Int32.toInt64 (2 : Int32)).toUInt64 &&& Int64.toUInt64 63)).toInt64) &&& (3689348814741910323 : Int64))) >>> ((Int32.toInt64 (4 : Int32)).toUInt64 &&& Int64.toUInt64 63)).toInt64)) &&& (1085102592571150095 : Int64)) + ((Int64.toUInt64 (((((v0 - (((Int64.toUInt64 v0 >>> ((Int32.toInt64 (1 : Int32)).toUInt64 &&& Int64.toUInt64 63)).toInt64) &&& (6148914691236517205 : Int64))) &&& (3689348814741910323 : Int64)) + (((Int64.toUInt64 (v0 - (((Int64.toUInt64 v0 >>> ((Int32.toInt64 (1 : Int32)).toUInt64 &&& Int64.toUInt64 63)).toInt64) &&& (6148914691236517205 : Int64))) >>> ((Int32.toInt64 (2 : Int32)).toUInt64 &&& Int64.toUInt64 63)).toInt64) &&& (3689348814741910323 : Int64))) + ((Int64.toUInt64 (((v0 - (((Int64.toUInt64 v0 >>> ((Int32.toInt64 (1 : Int32)).toUInt64 &&& Int64.toUInt64 63)).toInt64) &&& (6148914691236517205 : Int64))) &&& (3689348814741910323 : Int64)) + (((Int64.toUInt64 (v0 - (((Int64.toUInt64 v0 >>> ((Int32.toInt64 (1 : Int32)).toUInt64 &&& Int64.toUInt64 63)).toInt64) &&& (6148914691236517205 : Int64))) >>> ((Int32.toInt64 (2 : Int32)).toUInt64 &&& Int64.toUInt64 63)).toInt64) &&& (3689348814741910323 : Int64))) >>> ((Int32.toInt64 (4 : Int32)).toUInt64 &&& Int64.toUInt64 63)).toInt64)) &&& (1085102592571150095 : Int64)) >>> ((Int32.toInt64 (8 : Int32)).toUInt64 &&& Int64.toUInt64 63)).toInt64)) + ((Int64.toUInt64 ((((((v0 - (((Int64.toUInt64 v0 >>> ((Int32.toInt64 (1 : Int32)).toUInt64 &&& Int64.toUInt64 63)).toInt64) &&& (6148914691236517205 : Int64))) &&& (3689348814741910323 : Int64)) + (((Int64.toUInt64 (v0 - (((Int64.toUInt64 v0 >>> ((Int32.toInt64 (1 : Int32)).toUInt64 &&& Int64.toUInt64 63)).toInt64) &&& (6148914691236517205 : Int64))) >>> ((Int32.toInt64 (2 : Int32)).toUInt64 &&& Int64.toUInt64 63)).toInt64) &&& (3689348814741910323 : Int64))) + ((Int64.toUInt64 (((v0 - (((Int64.toUInt64 v0 >>> ((Int32.toInt64 (1 : Int32)).toUInt64 &&& Int64.toUInt64 63)).toInt64) &&& (6148914691236517205 : Int64))) &&& (3689348814741910323 : Int64)) + (((Int64.toUInt64 (v0 - (((Int64.toUInt64 v0 >>> ((Int32.toInt64 (1 : Int32)).toUInt64 &&& Int64.toUInt64 63)).toInt64) &&& (6148914691236517205 : Int64))) >>> ((Int32.toInt64 (2 : Int32)).toUInt64 &&& Int64.toUInt64 63)).toInt64) &&& (3689348814741910323 : Int64))) >>> ((Int32.toInt64 (4 : Int32)).toUInt64 &&& Int64.toUInt64 63)).toInt64)) &&& (1085102592571150095 : Int64)) + ((Int64.toUInt64 (((((v0 - (((Int64.toUInt64 v0 >>> ((Int32.toInt64 (1 : Int32)).toUInt64 &&& Int64.toUInt64 63)).toInt64) &&& (6148914691236517205 : Int64))) &&& (3689348814741910323 : Int64)) + (((Int64.toUInt64 (v0 - (((Int64.toUInt64 v0 >>> ((Int32.toInt64 (1 : Int32)).toUInt64 &&& Int64.toUInt64 63)).toInt64) &&& (6148914691236517205 : Int64))) >>> ((Int32.toInt64 (2 : Int32)).toUInt64 &&& Int64.toUInt64 63)).toInt64) &&& (3689348814741910323 : Int64))) + ((Int64.toUInt64 (((v0 - (((Int64.toUInt64 v0 >>> ((Int32.toInt64 (1 : Int32)).toUInt64 &&& Int64.toUInt64 63)).toInt64) &&& (6148914691236517205 : Int64))) &&& (3689348814741910323 : Int64)) + (((Int64.toUInt64 (v0 - (((Int64.toUInt64 v0 >>> ((Int32.toInt64 (1 : Int32)).toUInt64 &&& Int64.toUInt64 63)).toInt64) &&& (6148914691236517205 : Int64))) >>> ((Int32.toInt64 (2 : Int32)).toUInt64 &&& Int64.toUInt64 63)).toInt64) &&& (3689348814741910323 : Int64))) >>> ((Int32.toInt64 (4 : Int32)).toUInt64 &&& Int64.toUInt64 63)).toInt64)) &&& (1085102592571150095 : Int64)) >>> ((Int32.toInt64 (8 : Int32)).toUInt64 &&& Int64.toUInt64 63)).toInt64)) >>> ((Int32.toInt64 (16 : Int32)).toUInt64 &&& Int64.toUInt64 63)).toInt64)) + ((Int64.toUInt64 (((((((v0 - (((Int64.toUInt64 v0 >>> ((Int32.toInt64 (1 : Int32)).toUInt64 &&& Int64.toUInt64 63)).toInt64) &&& (6148914691236517205 : Int64))) &&& (3689348814741910323 : Int64)) + (((Int64.toUInt64 (v0 - (((Int64.toUInt64 v0 >>> ((Int32.toInt64 (1 : Int32)).toUInt64 &&& Int64.toUInt64 63)).toInt64) &&& (6148914691236517205 : Int64))) >>> ((Int32.toInt64 (2 : Int32)).toUInt64 &&& Int64.toUInt64 63)).toInt64) &&& (3689348814741910323 : Int64))) + ((Int64.toUInt64 (((v0 - (((Int64.toUInt64 v0 >>> ((Int32.toInt64 (1 : Int32)).toUInt64 &&& Int64.toUInt64 63)).toInt64) &&& (6148914691236517205 : Int64))) &&& (3689348814741910323 : Int64)) + (((Int64.toUInt64 (v0 - (((Int64.toUInt64 v0 >>> ((Int32.toInt64 (1 : Int32)).toUInt64 &&& Int64.toUInt64 63)).toInt64) &&& (6148914691236517205 : Int64))) >>> ((Int32.toInt64 (2 : Int32)).toUInt64 &&& Int64.toUInt64 63)).toInt64) &&& (3689348814741910323 : Int64))) >>> ((Int32.toInt64 (4 : Int32)).toUInt64 &&& Int64.toUInt64 63)).toInt64)) &&& (1085102592571150095 : Int64)) + ((Int64.toUInt64 (((((v0 - (((Int64.toUInt64 v0 >>> ((Int32.toInt64 (1 : Int32)).toUInt64 &&& Int64.toUInt64 63)).toInt64) &&& (6148914691236517205 : Int64))) &&& (3689348814741910323 : Int64)) + (((Int64.toUInt64 (v0 - (((Int64.toUInt64 v0 >>> ((Int32.toInt64 (1 : Int32)).toUInt64 &&& Int64.toUInt64 63)).toInt64) &&& (6148914691236517205 : Int64))) >>> ((Int32.toInt64 (2 : Int32)).toUInt64 &&& Int64.toUInt64 63)).toInt64) &&& (3689348814741910323 : Int64))) + ((Int64.toUInt64 (((v0 - (((Int64.toUInt64 v0 >>> ((Int32.toInt64 (1 : Int32)).toUInt64 &&& Int64.toUInt64 63)).toInt64) &&& (6148914691236517205 : Int64))) &&& (3689348814741910323 : Int64)) + (((Int64.toUInt64 (v0 - (((Int64.toUInt64 v0 >>> ((Int32.toInt64 (1 : Int32)).toUInt64 &&& Int64.toUInt64 63)).toInt64) &&& (6148914691236517205 : Int64))) >>> ((Int32.toInt64 (2 : Int32)).toUInt64 &&& Int64.toUInt64 63)).toInt64) &&& (3689348814741910323 : Int64))) >>> ((Int32.toInt64 (4 : Int32)).toUInt64 &&& Int64.toUInt64 63)).toInt64)) &&& (1085102592571150095 : Int64)) >>> ((Int32.toInt64 (8 : Int32)).toUInt64 &&& Int64.toUInt64 63)).toInt64)) + ((Int64.toUInt64 ((((((v0 - (((Int64.toUInt64 v0 >>> ((Int32.toInt64 (1 : Int32)).toUInt64 &&& Int64.toUInt64 63)).toInt64) &&& (6148914691236517205 : Int64))) &&& (3689348814741910323 : Int64)) + (((Int64.toUInt64 (v0 - (((Int64.toUInt64 v0 >>> ((Int32.toInt64 (1 : Int32)).toUInt64 &&& Int64.toUInt64 63)).toInt64) &&& (6148914691236517205 : Int64))) >>> ((Int32.toInt64 (2 : Int32)).toUInt64 &&& Int64.toUInt64 63)).toInt64) &&& (3689348814741910323 : Int64))) + ((Int64.toUInt64 (((v0 - (((Int64.toUInt64 v0 >>> ((Int32.toInt64 (1 : Int32)).toUInt64 &&& Int64.toUInt64 63)).toInt64) &&& (6148914691236517205 : Int64))) &&& (3689348814741910323 : Int64)) + (((Int64.toUInt64 (v0 - (((Int64.toUInt64 v0 >>> ((Int32.toInt64 (1 : Int32)).toUInt64 &&& Int64.toUInt64 63)).toInt64) &&& (6148914691236517205 : Int64))) >>> ((Int32.toInt64 (2 : Int32)).toUInt64 &&& Int64.toUInt64 63)).toInt64) &&& (3689348814741910323 : Int64))) >>> ((Int32.toInt64 (4 : Int32)).toUInt64 &&& Int64.toUInt64 63)).toInt64)) &&& (1085102592571150095 : Int64)) + ((Int64.toUInt64 (((((v0 - (((Int64.toUInt64 v0 >>> ((Int32.toInt64 (1 : Int32)).toUInt64 &&& Int64.toUInt64 63)).toInt64) &&& (6148914691236517205 : Int64))) &&& (3689348814741910323 : Int64)) + (((Int64.toUInt64 (v0 - (((Int64.toUInt64 v0 >>> ((Int32.toInt64 (1 : Int32)).toUInt64 &&& Int64.toUInt64 63)).toInt64) &&& (6148914691236517205 : Int64))) >>> ((Int32.toInt64 (2 : Int32)).toUInt64 &&& Int64.toUInt64 63)).toInt64) &&& (3689348814741910323 : Int64))) + ((Int64.toUInt64 (((v0 - (((Int64.toUInt64 v0 >>> ((Int32.toInt64 (1 : Int32)).toUInt64 &&& Int64.toUInt64 63)).toInt64) &&& (6148914691236517205 : Int64))) &&& (3689348814741910323 : Int64)) + (((Int64.toUInt64 (v0 - (((Int64.toUInt64 v0 >>> ((Int32.toInt64 (1 : Int32)).toUInt64 &&& Int64.toUInt64 63)).toInt64) &&& (6148914691236517205 : Int64))) >>> ((Int32.toInt64 (2 : Int32)).toUInt64 &&& Int64.toUInt64 63)).toInt64) &&& (3689348814741910323 : Int64))) >>> ((Int32.toInt64 (4 : Int32)).toUInt64 &&& Int64.toUInt64 63)).toInt64)) &&& (1085102592571150095 : Int64)) >>> ((Int32.toInt64 (8 : Int32)).toUInt64 &&& Int64.toUInt64 63)).toInt64)) >>> ((Int32.toInt64 (16 : Int32)).toUInt64 &&& Int64.toUInt64 63)).toInt64)) >>> ((Int32.toInt64 (32 : Int32)).toUInt64 &&& Int64.toUInt64 63)).toInt64))) &&& (127 : Int32)), z)
abbrev bJ13_bitCount_95d88 : iw_B := (cJ13_bitCount_95d88, 2, { frames := 0, cells := 0, slots := 0, locals := 0 }, yJ13_bitCount_95d88.cls, (some .int))
set_option maxRecDepth 100000 in
set_option maxHeartbeats 4000000 in
theorem kJ13_bitCount_95d88 (G : iw_G) (v0 : Int64) (z : iw_M) : iw_K G iw_wX yJ13_bitCount_95d88 cJ13_bitCount_95d88 2 (some .int) 0 0 iw_ei [.long v0] z (fJ13_bitCount_95d88 v0 z) := by
  refine iw_of [(0, .long v0)] (by decide +kernel) (Nat.le_of_ble_eq_true rfl) rfl ?_
  intro X hC
  unfold fJ13_bitCount_95d88
  refine V_lln hC dJ13_bitCount_95d88_0 0 rfl ?_
  refine V_lln hC dJ13_bitCount_95d88_1 0 rfl ?_
  refine V_ic (x := 1) hC dJ13_bitCount_95d88_2 (by decide) ?_
  refine V_lushr hC dJ13_bitCount_95d88_3 ?_
  refine V_ldc2 hC dJ13_bitCount_95d88_4 kc_J13_314 ?_
  refine V_land hC dJ13_bitCount_95d88_7 ?_
  refine V_lsub hC dJ13_bitCount_95d88_8 ?_
  refine V_lsn [(0, .long _)] hC dJ13_bitCount_95d88_9 (by decide) rfl ?_
  refine V_lln hC dJ13_bitCount_95d88_10 0 rfl ?_
  refine V_ldc2 hC dJ13_bitCount_95d88_11 kc_J13_316 ?_
  refine V_land hC dJ13_bitCount_95d88_14 ?_
  refine V_lln hC dJ13_bitCount_95d88_15 0 rfl ?_
  refine V_ic (x := 2) hC dJ13_bitCount_95d88_16 (by decide) ?_
  refine V_lushr hC dJ13_bitCount_95d88_17 ?_
  refine V_ldc2 hC dJ13_bitCount_95d88_18 kc_J13_316 ?_
  refine V_land hC dJ13_bitCount_95d88_21 ?_
  refine V_ladd hC dJ13_bitCount_95d88_22 ?_
  refine V_lsn [(0, .long _)] hC dJ13_bitCount_95d88_23 (by decide) rfl ?_
  refine V_lln hC dJ13_bitCount_95d88_24 0 rfl ?_
  refine V_lln hC dJ13_bitCount_95d88_25 0 rfl ?_
  refine V_ic (x := 4) hC dJ13_bitCount_95d88_26 (by decide) ?_
  refine V_lushr hC dJ13_bitCount_95d88_27 ?_
  refine V_ladd hC dJ13_bitCount_95d88_28 ?_
  refine V_ldc2 hC dJ13_bitCount_95d88_29 kc_J13_318 ?_
  refine V_land hC dJ13_bitCount_95d88_32 ?_
  refine V_lsn [(0, .long _)] hC dJ13_bitCount_95d88_33 (by decide) rfl ?_
  refine V_lln hC dJ13_bitCount_95d88_34 0 rfl ?_
  refine V_lln hC dJ13_bitCount_95d88_35 0 rfl ?_
  refine V_bip (x := 8) hC dJ13_bitCount_95d88_36 (by decide) ?_
  refine V_lushr hC dJ13_bitCount_95d88_38 ?_
  refine V_ladd hC dJ13_bitCount_95d88_39 ?_
  refine V_lsn [(0, .long _)] hC dJ13_bitCount_95d88_40 (by decide) rfl ?_
  refine V_lln hC dJ13_bitCount_95d88_41 0 rfl ?_
  refine V_lln hC dJ13_bitCount_95d88_42 0 rfl ?_
  refine V_bip (x := 16) hC dJ13_bitCount_95d88_43 (by decide) ?_
  refine V_lushr hC dJ13_bitCount_95d88_45 ?_
  refine V_ladd hC dJ13_bitCount_95d88_46 ?_
  refine V_lsn [(0, .long _)] hC dJ13_bitCount_95d88_47 (by decide) rfl ?_
  refine V_lln hC dJ13_bitCount_95d88_48 0 rfl ?_
  refine V_lln hC dJ13_bitCount_95d88_49 0 rfl ?_
  refine V_bip (x := 32) hC dJ13_bitCount_95d88_50 (by decide) ?_
  refine V_lushr hC dJ13_bitCount_95d88_52 ?_
  refine V_ladd hC dJ13_bitCount_95d88_53 ?_
  refine V_lsn [(0, .long _)] hC dJ13_bitCount_95d88_54 (by decide) rfl ?_
  refine V_lln hC dJ13_bitCount_95d88_55 0 rfl ?_
  refine V_l2i hC dJ13_bitCount_95d88_56 ?_
  refine V_bip (x := 127) hC dJ13_bitCount_95d88_57 (by decide) ?_
  refine V_iand hC dJ13_bitCount_95d88_59 ?_
  exact V_ir hC dJ13_bitCount_95d88_60 rfl
def fX3_teamSize (v1 : Int32) (z : iw_M) : Option (Int32 × iw_M) :=
  (if iw_ok v1 40 then
  ((fJ13_bitCount_95d88 (z.2 18 (Int32.toNatClampNeg v1)) z).bind (fun q1 =>
  some (q1.1, q1.2)))
  else none)
abbrev bX3_teamSize : iw_B := (cX3_teamSize, 2, { frames := 1, cells := 0, slots := 0, locals := 21 }, yX3_teamSize.cls, (some .int))
set_option maxRecDepth 100000 in
set_option maxHeartbeats 4000000 in
theorem kX3_teamSize (G : iw_G) (v1 : Int32) (z : iw_M) : iw_K G iw_wX yX3_teamSize cX3_teamSize 2 (some .int) 1 21 iw_ei [.ref (iw_ad G 8), .int v1] z (fX3_teamSize v1 z) := by
  refine iw_of [(0, .ref (iw_ad G 8)), (1, .int v1)] (by decide +kernel) (Nat.le_of_ble_eq_true rfl) rfl ?_
  intro X hC
  unfold fX3_teamSize
  refine V_aln hC dX3_teamSize_0 0 rfl ?_
  refine V_gr hC fl_X3_39 (by decide) rfl rfl dX3_teamSize_1 ?_
  refine V_iln hC dX3_teamSize_4 1 rfl ?_
  refine V_la hC (by decide) rfl dX3_teamSize_5 ?_
  refine V_csi [] hC cs_X3_47 (kJ13_bitCount_95d88 G _ _) rfl rfl (Nat.le_of_ble_eq_true rfl) ⟨by decide, by decide⟩ dX3_teamSize_6 ?_
  intro q1
  exact V_ir hC dX3_teamSize_9 rfl
def fX3_turnedDownLike_L10 (v1 : Int32) (v2 : Int32) (K : Int32 → Int32 → Int32 → iw_M → Option (Int32 × iw_M)) : Nat → Int32 → Int32 → Int32 → iw_M → Option (Int32 × iw_M)
  | 0, _, _, _, _ => none
  | n + 1, v4, v5, v6, z => (if (z.1 8 10) ≤ v6 then
  K v4 v5 v6 z
  else
  (if iw_ok v6 40 then
  (if (z.1 14 (Int32.toNatClampNeg v6)) = (2 : Int32) then
  (if iw_ok v6 40 then
  (if (z.1 10 (Int32.toNatClampNeg v6)) = v1 then
  (if iw_ok v6 40 then
  ((fX8_likeness (z.1 11 (Int32.toNatClampNeg v6)) v2 z).bind (fun q1 =>
  (if v5 < q1.1 then
  fX3_turnedDownLike_L10 v1 v2 K n v6 q1.1 (v6 + (1 : Int32)) q1.2
  else
  (if q1.1 = v5 then
  (if v4 = (-9 : Int32) then
  fX3_turnedDownLike_L10 v1 v2 K n v6 q1.1 (v6 + (1 : Int32)) q1.2
  else
  ((fX3_isAhead v6 v4 q1.2).bind (fun q2 =>
  (if q2.1 = 0 then
  fX3_turnedDownLike_L10 v1 v2 K n v4 v5 (v6 + (1 : Int32)) q2.2
  else
  fX3_turnedDownLike_L10 v1 v2 K n v6 q1.1 (v6 + (1 : Int32)) q2.2))))
  else
  fX3_turnedDownLike_L10 v1 v2 K n v4 v5 (v6 + (1 : Int32)) q1.2))))
  else none)
  else
  fX3_turnedDownLike_L10 v1 v2 K n v4 v5 (v6 + (1 : Int32)) z)
  else none)
  else
  fX3_turnedDownLike_L10 v1 v2 K n v4 v5 (v6 + (1 : Int32)) z)
  else none))
def fX3_turnedDownLike (v1 : Int32) (v2 : Int32) (v3 : Int32) (z : iw_M) : Option (Int32 × iw_M) :=
  fX3_turnedDownLike_L10 v1 v2 (fun x4_3 x5_3 x6_3 z_3 => some (x4_3, z_3)) iw_fu (-9 : Int32) v3 (0 : Int32) z
abbrev bX3_turnedDownLike : iw_B := (cX3_turnedDownLike, 8, { frames := 2, cells := 0, slots := 0, locals := 41 }, yX3_turnedDownLike.cls, (some .int))
set_option maxRecDepth 100000 in
set_option maxHeartbeats 4000000 in
theorem vX3_turnedDownLike_L10 {G : iw_G} {X : iw_X} (hC : iw_C G iw_wX X bX3_turnedDownLike) (v1 : Int32) (v2 : Int32) (K : Int32 → Int32 → Int32 → iw_M → Option (Int32 × iw_M)) (hK : ∀ (v4 : Int32) (v5 : Int32) (v6 : Int32) (z : iw_M), iw_V G iw_wX X bX3_turnedDownLike iw_ei 103 [(0, .ref (iw_ad G 8)), (1, .int v1), (2, .int v2), (4, .int v4), (5, .int v5), (6, .int v6)] [] z (K v4 v5 v6 z)) : ∀ (n : Nat) (v4 : Int32) (v5 : Int32) (v6 : Int32) (z : iw_M), iw_V G iw_wX X bX3_turnedDownLike iw_ei 10 [(0, .ref (iw_ad G 8)), (1, .int v1), (2, .int v2), (4, .int v4), (5, .int v5), (6, .int v6)] [] z (fX3_turnedDownLike_L10 v1 v2 K n v4 v5 v6 z) := by
  intro n
  induction n with
  | zero =>
    intro v4 v5 v6 z
    exact V_none
  | succ n ih =>
    intro v4 v5 v6 z
    simp only [fX3_turnedDownLike_L10]
    refine V_il hC dX3_turnedDownLike_10 5 rfl ?_
    refine V_aln hC dX3_turnedDownLike_12 0 rfl ?_
    refine V_gi hC fl_X3_43 (by decide) rfl rfl dX3_turnedDownLike_13 ?_
    refine V_cge 103 hC dX3_turnedDownLike_16 (by decide) ?_ ?_
    · exact hK _ _ _ _
    · refine V_aln hC dX3_turnedDownLike_19 0 rfl ?_
      refine V_gr hC fl_X3_27 (by decide) rfl rfl dX3_turnedDownLike_20 ?_
      refine V_il hC dX3_turnedDownLike_23 5 rfl ?_
      refine V_ia hC (by decide) rfl dX3_turnedDownLike_25 ?_
      refine V_ic (x := 2) hC dX3_turnedDownLike_26 (by decide) ?_
      refine V_cne 97 hC dX3_turnedDownLike_27 (by decide) ?_ ?_
      · refine V_inc (k := 5) (y := 1) [(6, .int _), (0, .ref _), (1, .int _), (2, .int _), (4, .int _), (5, .int _)] hC dX3_turnedDownLike_97 rfl (by decide) (by decide) rfl ?_
        refine V_goto 10 hC dX3_turnedDownLike_100 (by decide) ?_
        refine V_sub [(0, .ref _), (1, .int _), (2, .int _), (4, .int _), (5, .int _), (6, .int _)] [1, 2, 3, 4, 5, 0] rfl ?_
        exact ih _ _ _ _
      · refine V_aln hC dX3_turnedDownLike_30 0 rfl ?_
        refine V_gr hC fl_X3_15 (by decide) rfl rfl dX3_turnedDownLike_31 ?_
        refine V_il hC dX3_turnedDownLike_34 5 rfl ?_
        refine V_ia hC (by decide) rfl dX3_turnedDownLike_36 ?_
        refine V_iln hC dX3_turnedDownLike_37 1 rfl ?_
        refine V_ceq 44 hC dX3_turnedDownLike_38 (by decide) ?_ ?_
        · refine V_aln hC dX3_turnedDownLike_44 0 rfl ?_
          refine V_gr hC fl_X3_18 (by decide) rfl rfl dX3_turnedDownLike_45 ?_
          refine V_il hC dX3_turnedDownLike_48 5 rfl ?_
          refine V_ia hC (by decide) rfl dX3_turnedDownLike_50 ?_
          refine V_iln hC dX3_turnedDownLike_51 2 rfl ?_
          refine V_cni [] hC cn_X3_53 (kX8_likeness G _ _ _) rfl rfl (Nat.le_of_ble_eq_true rfl) ⟨by decide, by decide⟩ dX3_turnedDownLike_52 ?_
          intro q1
          refine V_is [(7, .int _), (0, .ref _), (1, .int _), (2, .int _), (4, .int _), (5, .int _), (6, .int _)] hC dX3_turnedDownLike_55 (by decide) rfl ?_
          refine V_il hC dX3_turnedDownLike_57 0 rfl ?_
          refine V_il hC dX3_turnedDownLike_59 5 rfl ?_
          refine V_cgt 89 hC dX3_turnedDownLike_61 (by decide) ?_ ?_
          · refine V_il hC dX3_turnedDownLike_89 6 rfl ?_
            refine V_is [(4, .int _), (7, .int _), (0, .ref _), (1, .int _), (2, .int _), (5, .int _), (6, .int _)] hC dX3_turnedDownLike_91 (by decide) rfl ?_
            refine V_il hC dX3_turnedDownLike_93 1 rfl ?_
            refine V_is [(5, .int _), (4, .int _), (7, .int _), (0, .ref _), (1, .int _), (2, .int _), (6, .int _)] hC dX3_turnedDownLike_95 (by decide) rfl ?_
            refine V_inc (k := 6) (y := 1) [(6, .int _), (5, .int _), (4, .int _), (7, .int _), (0, .ref _), (1, .int _), (2, .int _)] hC dX3_turnedDownLike_97 rfl (by decide) (by decide) rfl ?_
            refine V_goto 10 hC dX3_turnedDownLike_100 (by decide) ?_
            refine V_sub [(0, .ref _), (1, .int _), (2, .int _), (4, .int _), (5, .int _), (6, .int _)] [4, 5, 6, 2, 1, 0] rfl ?_
            exact ih _ _ _ _
          · refine V_il hC dX3_turnedDownLike_64 0 rfl ?_
            refine V_il hC dX3_turnedDownLike_66 5 rfl ?_
            refine V_cne 97 hC dX3_turnedDownLike_68 (by decide) ?_ ?_
            · refine V_inc (k := 6) (y := 1) [(6, .int _), (7, .int _), (0, .ref _), (1, .int _), (2, .int _), (4, .int _), (5, .int _)] hC dX3_turnedDownLike_97 rfl (by decide) (by decide) rfl ?_
              refine V_goto 10 hC dX3_turnedDownLike_100 (by decide) ?_
              refine V_sub [(0, .ref _), (1, .int _), (2, .int _), (4, .int _), (5, .int _), (6, .int _)] [2, 3, 4, 5, 6, 0] rfl ?_
              exact ih _ _ _ _
            · refine V_il hC dX3_turnedDownLike_71 4 rfl ?_
              refine V_bip (x := -9) hC dX3_turnedDownLike_73 (by decide) ?_
              refine V_ceq 89 hC dX3_turnedDownLike_75 (by decide) ?_ ?_
              · refine V_il hC dX3_turnedDownLike_89 6 rfl ?_
                refine V_is [(4, .int _), (7, .int _), (0, .ref _), (1, .int _), (2, .int _), (5, .int _), (6, .int _)] hC dX3_turnedDownLike_91 (by decide) rfl ?_
                refine V_il hC dX3_turnedDownLike_93 1 rfl ?_
                refine V_is [(5, .int _), (4, .int _), (7, .int _), (0, .ref _), (1, .int _), (2, .int _), (6, .int _)] hC dX3_turnedDownLike_95 (by decide) rfl ?_
                refine V_inc (k := 6) (y := 1) [(6, .int _), (5, .int _), (4, .int _), (7, .int _), (0, .ref _), (1, .int _), (2, .int _)] hC dX3_turnedDownLike_97 rfl (by decide) (by decide) rfl ?_
                refine V_goto 10 hC dX3_turnedDownLike_100 (by decide) ?_
                refine V_sub [(0, .ref _), (1, .int _), (2, .int _), (4, .int _), (5, .int _), (6, .int _)] [4, 5, 6, 2, 1, 0] rfl ?_
                exact ih _ _ _ _
              · refine V_aln hC dX3_turnedDownLike_78 1 rfl ?_
                refine V_il hC dX3_turnedDownLike_79 6 rfl ?_
                refine V_il hC dX3_turnedDownLike_81 4 rfl ?_
                refine V_cvi [] hC cv_X3_57 (by decide) rfl rfl (kX3_isAhead G _ _ _) rfl rfl (Nat.le_of_ble_eq_true rfl) ⟨by decide, by decide⟩ dX3_turnedDownLike_83 ?_
                intro q2
                refine V_ieq 97 hC dX3_turnedDownLike_86 (by decide) ?_ ?_
                · refine V_inc (k := 6) (y := 1) [(6, .int _), (7, .int _), (0, .ref _), (1, .int _), (2, .int _), (4, .int _), (5, .int _)] hC dX3_turnedDownLike_97 rfl (by decide) (by decide) rfl ?_
                  refine V_goto 10 hC dX3_turnedDownLike_100 (by decide) ?_
                  refine V_sub [(0, .ref _), (1, .int _), (2, .int _), (4, .int _), (5, .int _), (6, .int _)] [2, 3, 4, 5, 6, 0] rfl ?_
                  exact ih _ _ _ _
                · refine V_il hC dX3_turnedDownLike_89 6 rfl ?_
                  refine V_is [(4, .int _), (7, .int _), (0, .ref _), (1, .int _), (2, .int _), (5, .int _), (6, .int _)] hC dX3_turnedDownLike_91 (by decide) rfl ?_
                  refine V_il hC dX3_turnedDownLike_93 1 rfl ?_
                  refine V_is [(5, .int _), (4, .int _), (7, .int _), (0, .ref _), (1, .int _), (2, .int _), (6, .int _)] hC dX3_turnedDownLike_95 (by decide) rfl ?_
                  refine V_inc (k := 6) (y := 1) [(6, .int _), (5, .int _), (4, .int _), (7, .int _), (0, .ref _), (1, .int _), (2, .int _)] hC dX3_turnedDownLike_97 rfl (by decide) (by decide) rfl ?_
                  refine V_goto 10 hC dX3_turnedDownLike_100 (by decide) ?_
                  refine V_sub [(0, .ref _), (1, .int _), (2, .int _), (4, .int _), (5, .int _), (6, .int _)] [4, 5, 6, 2, 1, 0] rfl ?_
                  exact ih _ _ _ _
        · refine V_goto 97 hC dX3_turnedDownLike_41 (by decide) ?_
          refine V_inc (k := 5) (y := 1) [(6, .int _), (0, .ref _), (1, .int _), (2, .int _), (4, .int _), (5, .int _)] hC dX3_turnedDownLike_97 rfl (by decide) (by decide) rfl ?_
          refine V_goto 10 hC dX3_turnedDownLike_100 (by decide) ?_
          refine V_sub [(0, .ref _), (1, .int _), (2, .int _), (4, .int _), (5, .int _), (6, .int _)] [1, 2, 3, 4, 5, 0] rfl ?_
          exact ih _ _ _ _
set_option maxRecDepth 100000 in
set_option maxHeartbeats 4000000 in
theorem kX3_turnedDownLike (G : iw_G) (v1 : Int32) (v2 : Int32) (v3 : Int32) (z : iw_M) : iw_K G iw_wX yX3_turnedDownLike cX3_turnedDownLike 8 (some .int) 2 41 iw_ei [.ref (iw_ad G 8), .int v1, .int v2, .int v3] z (fX3_turnedDownLike v1 v2 v3 z) := by
  refine iw_of [(0, .ref (iw_ad G 8)), (1, .int v1), (2, .int v2), (3, .int v3)] (by decide +kernel) (Nat.le_of_ble_eq_true rfl) rfl ?_
  intro X hC
  unfold fX3_turnedDownLike
  refine V_bip (x := -9) hC dX3_turnedDownLike_0 (by decide) ?_
  refine V_is [(4, .int _), (0, .ref _), (1, .int _), (2, .int _), (3, .int _)] hC dX3_turnedDownLike_2 (by decide) rfl ?_
  refine V_iln hC dX3_turnedDownLike_4 4 rfl ?_
  refine V_is [(5, .int _), (4, .int _), (0, .ref _), (1, .int _), (2, .int _), (3, .int _)] hC dX3_turnedDownLike_5 (by decide) rfl ?_
  refine V_ic (x := 0) hC dX3_turnedDownLike_7 (by decide) ?_
  refine V_is [(6, .int _), (5, .int _), (4, .int _), (0, .ref _), (1, .int _), (2, .int _), (3, .int _)] hC dX3_turnedDownLike_8 (by decide) rfl ?_
  refine V_sub [(0, .ref _), (1, .int _), (2, .int _), (4, .int _), (5, .int _), (6, .int _)] [3, 4, 5, 2, 1, 0] rfl ?_
  refine vX3_turnedDownLike_L10 hC _ _ _ ?_ _ _ _ _ _
  intro x4_3 x5_3 x6_3 z_3
  refine V_il hC dX3_turnedDownLike_103 3 rfl ?_
  exact V_ir hC dX3_turnedDownLike_105 rfl
def fX3_howMany_L4 (v1 : Int32) (K : Int32 → Int32 → iw_M → Option (Int32 × iw_M)) : Nat → Int32 → Int32 → iw_M → Option (Int32 × iw_M)
  | 0, _, _, _ => none
  | n + 1, v2, v3, z => (if (z.1 8 10) ≤ v3 then
  K v2 v3 z
  else
  (if iw_ok v3 40 then
  (if (z.1 14 (Int32.toNatClampNeg v3)) = v1 then
  fX3_howMany_L4 v1 K n (v2 + (1 : Int32)) (v3 + (1 : Int32)) z
  else
  fX3_howMany_L4 v1 K n v2 (v3 + (1 : Int32)) z)
  else none))
def fX3_howMany (v1 : Int32) (z : iw_M) : Option (Int32 × iw_M) :=
  fX3_howMany_L4 v1 (fun x2_1 x3_1 z_1 => some (x2_1, z_1)) iw_fu (0 : Int32) (0 : Int32) z
abbrev bX3_howMany : iw_B := (cX3_howMany, 4, { frames := 0, cells := 0, slots := 0, locals := 0 }, yX3_howMany.cls, (some .int))
set_option maxRecDepth 100000 in
set_option maxHeartbeats 4000000 in
theorem vX3_howMany_L4 {G : iw_G} {X : iw_X} (hC : iw_C G iw_wX X bX3_howMany) (v1 : Int32) (K : Int32 → Int32 → iw_M → Option (Int32 × iw_M)) (hK : ∀ (v2 : Int32) (v3 : Int32) (z : iw_M), iw_V G iw_wX X bX3_howMany iw_ei 31 [(0, .ref (iw_ad G 8)), (1, .int v1), (2, .int v2), (3, .int v3)] [] z (K v2 v3 z)) : ∀ (n : Nat) (v2 : Int32) (v3 : Int32) (z : iw_M), iw_V G iw_wX X bX3_howMany iw_ei 4 [(0, .ref (iw_ad G 8)), (1, .int v1), (2, .int v2), (3, .int v3)] [] z (fX3_howMany_L4 v1 K n v2 v3 z) := by
  intro n
  induction n with
  | zero =>
    intro v2 v3 z
    exact V_none
  | succ n ih =>
    intro v2 v3 z
    simp only [fX3_howMany_L4]
    refine V_iln hC dX3_howMany_4 3 rfl ?_
    refine V_aln hC dX3_howMany_5 0 rfl ?_
    refine V_gi hC fl_X3_43 (by decide) rfl rfl dX3_howMany_6 ?_
    refine V_cge 31 hC dX3_howMany_9 (by decide) ?_ ?_
    · exact hK _ _ _
    · refine V_aln hC dX3_howMany_12 0 rfl ?_
      refine V_gr hC fl_X3_27 (by decide) rfl rfl dX3_howMany_13 ?_
      refine V_iln hC dX3_howMany_16 3 rfl ?_
      refine V_ia hC (by decide) rfl dX3_howMany_17 ?_
      refine V_iln hC dX3_howMany_18 1 rfl ?_
      refine V_cne 25 hC dX3_howMany_19 (by decide) ?_ ?_
      · refine V_inc (k := 3) (y := 1) [(3, .int _), (0, .ref _), (1, .int _), (2, .int _)] hC dX3_howMany_25 rfl (by decide) (by decide) rfl ?_
        refine V_goto 4 hC dX3_howMany_28 (by decide) ?_
        refine V_sub [(0, .ref _), (1, .int _), (2, .int _), (3, .int _)] [1, 2, 3, 0] rfl ?_
        exact ih _ _ _
      · refine V_inc (k := 2) (y := 1) [(2, .int _), (0, .ref _), (1, .int _), (3, .int _)] hC dX3_howMany_22 rfl (by decide) (by decide) rfl ?_
        refine V_inc (k := 3) (y := 1) [(3, .int _), (2, .int _), (0, .ref _), (1, .int _)] hC dX3_howMany_25 rfl (by decide) (by decide) rfl ?_
        refine V_goto 4 hC dX3_howMany_28 (by decide) ?_
        refine V_sub [(0, .ref _), (1, .int _), (2, .int _), (3, .int _)] [2, 3, 1, 0] rfl ?_
        exact ih _ _ _
set_option maxRecDepth 100000 in
set_option maxHeartbeats 4000000 in
theorem kX3_howMany (G : iw_G) (v1 : Int32) (z : iw_M) : iw_K G iw_wX yX3_howMany cX3_howMany 4 (some .int) 0 0 iw_ei [.ref (iw_ad G 8), .int v1] z (fX3_howMany v1 z) := by
  refine iw_of [(0, .ref (iw_ad G 8)), (1, .int v1)] (by decide +kernel) (Nat.le_of_ble_eq_true rfl) rfl ?_
  intro X hC
  unfold fX3_howMany
  refine V_ic (x := 0) hC dX3_howMany_0 (by decide) ?_
  refine V_isn [(2, .int _), (0, .ref _), (1, .int _)] hC dX3_howMany_1 (by decide) rfl ?_
  refine V_ic (x := 0) hC dX3_howMany_2 (by decide) ?_
  refine V_isn [(3, .int _), (2, .int _), (0, .ref _), (1, .int _)] hC dX3_howMany_3 (by decide) rfl ?_
  refine V_sub [(0, .ref _), (1, .int _), (2, .int _), (3, .int _)] [2, 3, 1, 0] rfl ?_
  refine vX3_howMany_L4 hC _ _ ?_ _ _ _ _
  intro x2_1 x3_1 z_1
  refine V_iln hC dX3_howMany_31 2 rfl ?_
  exact V_ir hC dX3_howMany_32 rfl
def fX4_add (v1 : Int32) (v2 : Int32) (v3 : Int32) (v4 : Int32) (z : iw_M) : Option (Unit × iw_M) :=
  (if iw_ok (z.1 26 4) 200 then
  (if iw_ok ((iw_wI z 27 (Int32.toNatClampNeg (z.1 26 4)) v1).1 26 4) 200 then
  (if iw_ok ((iw_wI (iw_wI z 27 (Int32.toNatClampNeg (z.1 26 4)) v1) 28 (Int32.toNatClampNeg ((iw_wI z 27 (Int32.toNatClampNeg (z.1 26 4)) v1).1 26 4)) v2).1 26 4) 200 then
  (if iw_ok ((iw_wI (iw_wI (iw_wI z 27 (Int32.toNatClampNeg (z.1 26 4)) v1) 28 (Int32.toNatClampNeg ((iw_wI z 27 (Int32.toNatClampNeg (z.1 26 4)) v1).1 26 4)) v2) 29 (Int32.toNatClampNeg ((iw_wI (iw_wI z 27 (Int32.toNatClampNeg (z.1 26 4)) v1) 28 (Int32.toNatClampNeg ((iw_wI z 27 (Int32.toNatClampNeg (z.1 26 4)) v1).1 26 4)) v2).1 26 4)) (vp_nar .boolean v3)).1 26 4) 200 then
  some ((), (iw_wI (iw_wI (iw_wI (iw_wI (iw_wI z 27 (Int32.toNatClampNeg (z.1 26 4)) v1) 28 (Int32.toNatClampNeg ((iw_wI z 27 (Int32.toNatClampNeg (z.1 26 4)) v1).1 26 4)) v2) 29 (Int32.toNatClampNeg ((iw_wI (iw_wI z 27 (Int32.toNatClampNeg (z.1 26 4)) v1) 28 (Int32.toNatClampNeg ((iw_wI z 27 (Int32.toNatClampNeg (z.1 26 4)) v1).1 26 4)) v2).1 26 4)) (vp_nar .boolean v3)) 30 (Int32.toNatClampNeg ((iw_wI (iw_wI (iw_wI z 27 (Int32.toNatClampNeg (z.1 26 4)) v1) 28 (Int32.toNatClampNeg ((iw_wI z 27 (Int32.toNatClampNeg (z.1 26 4)) v1).1 26 4)) v2) 29 (Int32.toNatClampNeg ((iw_wI (iw_wI z 27 (Int32.toNatClampNeg (z.1 26 4)) v1) 28 (Int32.toNatClampNeg ((iw_wI z 27 (Int32.toNatClampNeg (z.1 26 4)) v1).1 26 4)) v2).1 26 4)) (vp_nar .boolean v3)).1 26 4)) v4) 26 4 (((iw_wI (iw_wI (iw_wI (iw_wI z 27 (Int32.toNatClampNeg (z.1 26 4)) v1) 28 (Int32.toNatClampNeg ((iw_wI z 27 (Int32.toNatClampNeg (z.1 26 4)) v1).1 26 4)) v2) 29 (Int32.toNatClampNeg ((iw_wI (iw_wI z 27 (Int32.toNatClampNeg (z.1 26 4)) v1) 28 (Int32.toNatClampNeg ((iw_wI z 27 (Int32.toNatClampNeg (z.1 26 4)) v1).1 26 4)) v2).1 26 4)) (vp_nar .boolean v3)) 30 (Int32.toNatClampNeg ((iw_wI (iw_wI (iw_wI z 27 (Int32.toNatClampNeg (z.1 26 4)) v1) 28 (Int32.toNatClampNeg ((iw_wI z 27 (Int32.toNatClampNeg (z.1 26 4)) v1).1 26 4)) v2) 29 (Int32.toNatClampNeg ((iw_wI (iw_wI z 27 (Int32.toNatClampNeg (z.1 26 4)) v1) 28 (Int32.toNatClampNeg ((iw_wI z 27 (Int32.toNatClampNeg (z.1 26 4)) v1).1 26 4)) v2).1 26 4)) (vp_nar .boolean v3)).1 26 4)) v4).1 26 4) + (1 : Int32))))
  else none)
  else none)
  else none)
  else none)
abbrev bX4_add : iw_B := (cX4_add, 5, { frames := 0, cells := 0, slots := 0, locals := 0 }, yX4_add.cls, none)
set_option maxRecDepth 100000 in
set_option maxHeartbeats 4000000 in
theorem kX4_add (G : iw_G) (v1 : Int32) (v2 : Int32) (v3 : Int32) (v4 : Int32) (z : iw_M) : iw_K G iw_wX yX4_add cX4_add 5 none 0 0 iw_ev [.ref (iw_ad G 26), .int v1, .int v2, .int v3, .int v4] z (fX4_add v1 v2 v3 v4 z) := by
  refine iw_of [(0, .ref (iw_ad G 26)), (1, .int v1), (2, .int v2), (3, .int v3), (4, .int v4)] (by decide +kernel) (Nat.le_of_ble_eq_true rfl) rfl ?_
  intro X hC
  unfold fX4_add
  refine V_aln hC dX4_add_0 0 rfl ?_
  refine V_gr hC fl_X4_9 (by decide) rfl rfl dX4_add_1 ?_
  refine V_aln hC dX4_add_4 0 rfl ?_
  refine V_gi hC fl_X4_23 (by decide) rfl rfl dX4_add_5 ?_
  refine V_iln hC dX4_add_8 1 rfl ?_
  refine V_is_ hC (by decide) rfl dX4_add_9 ?_
  refine V_aln hC dX4_add_10 0 rfl ?_
  refine V_gr hC fl_X4_13 (by decide) rfl rfl dX4_add_11 ?_
  refine V_aln hC dX4_add_14 0 rfl ?_
  refine V_gi hC fl_X4_23 (by decide) rfl rfl dX4_add_15 ?_
  refine V_iln hC dX4_add_18 2 rfl ?_
  refine V_is_ hC (by decide) rfl dX4_add_19 ?_
  refine V_aln hC dX4_add_20 0 rfl ?_
  refine V_gr hC fl_X4_16 (by decide) rfl rfl dX4_add_21 ?_
  refine V_aln hC dX4_add_24 0 rfl ?_
  refine V_gi hC fl_X4_23 (by decide) rfl rfl dX4_add_25 ?_
  refine V_iln hC dX4_add_28 3 rfl ?_
  refine V_bs_ hC (by decide) rfl dX4_add_29 ?_
  refine V_aln hC dX4_add_30 0 rfl ?_
  refine V_gr hC fl_X4_20 (by decide) rfl rfl dX4_add_31 ?_
  refine V_aln hC dX4_add_34 0 rfl ?_
  refine V_gi hC fl_X4_23 (by decide) rfl rfl dX4_add_35 ?_
  refine V_il hC dX4_add_38 4 rfl ?_
  refine V_is_ hC (by decide) rfl dX4_add_40 ?_
  refine V_aln hC dX4_add_41 0 rfl ?_
  refine V_dup hC dX4_add_42 rfl ?_
  refine V_gi hC fl_X4_23 (by decide) rfl rfl dX4_add_43 ?_
  refine V_ic (x := 1) hC dX4_add_46 (by decide) ?_
  refine V_iadd hC dX4_add_47 ?_
  refine V_pi hC fp_X4_23 (by decide) rfl rfl dX4_add_48 ?_
  exact V_vr hC dX4_add_51 rfl
def fX5_add (v1 : Int32) (v2 : Int32) (v3 : Int32) (v4 : Int32) (z : iw_M) : Option (Int32 × iw_M) :=
  (if iw_ok (z.1 38 4) 20 then
  (if iw_ok ((iw_wI z 39 (Int32.toNatClampNeg (z.1 38 4)) v1).1 38 4) 20 then
  (if iw_ok ((iw_wI (iw_wI z 39 (Int32.toNatClampNeg (z.1 38 4)) v1) 40 (Int32.toNatClampNeg ((iw_wI z 39 (Int32.toNatClampNeg (z.1 38 4)) v1).1 38 4)) v2).1 38 4) 20 then
  (if iw_ok ((iw_wI (iw_wI (iw_wI z 39 (Int32.toNatClampNeg (z.1 38 4)) v1) 40 (Int32.toNatClampNeg ((iw_wI z 39 (Int32.toNatClampNeg (z.1 38 4)) v1).1 38 4)) v2) 41 (Int32.toNatClampNeg ((iw_wI (iw_wI z 39 (Int32.toNatClampNeg (z.1 38 4)) v1) 40 (Int32.toNatClampNeg ((iw_wI z 39 (Int32.toNatClampNeg (z.1 38 4)) v1).1 38 4)) v2).1 38 4)) v3).1 38 4) 20 then
  some ((((iw_wI (iw_wI (iw_wI (iw_wI (iw_wI z 39 (Int32.toNatClampNeg (z.1 38 4)) v1) 40 (Int32.toNatClampNeg ((iw_wI z 39 (Int32.toNatClampNeg (z.1 38 4)) v1).1 38 4)) v2) 41 (Int32.toNatClampNeg ((iw_wI (iw_wI z 39 (Int32.toNatClampNeg (z.1 38 4)) v1) 40 (Int32.toNatClampNeg ((iw_wI z 39 (Int32.toNatClampNeg (z.1 38 4)) v1).1 38 4)) v2).1 38 4)) v3) 42 (Int32.toNatClampNeg ((iw_wI (iw_wI (iw_wI z 39 (Int32.toNatClampNeg (z.1 38 4)) v1) 40 (Int32.toNatClampNeg ((iw_wI z 39 (Int32.toNatClampNeg (z.1 38 4)) v1).1 38 4)) v2) 41 (Int32.toNatClampNeg ((iw_wI (iw_wI z 39 (Int32.toNatClampNeg (z.1 38 4)) v1) 40 (Int32.toNatClampNeg ((iw_wI z 39 (Int32.toNatClampNeg (z.1 38 4)) v1).1 38 4)) v2).1 38 4)) v3).1 38 4)) v4) 38 4 (((iw_wI (iw_wI (iw_wI (iw_wI z 39 (Int32.toNatClampNeg (z.1 38 4)) v1) 40 (Int32.toNatClampNeg ((iw_wI z 39 (Int32.toNatClampNeg (z.1 38 4)) v1).1 38 4)) v2) 41 (Int32.toNatClampNeg ((iw_wI (iw_wI z 39 (Int32.toNatClampNeg (z.1 38 4)) v1) 40 (Int32.toNatClampNeg ((iw_wI z 39 (Int32.toNatClampNeg (z.1 38 4)) v1).1 38 4)) v2).1 38 4)) v3) 42 (Int32.toNatClampNeg ((iw_wI (iw_wI (iw_wI z 39 (Int32.toNatClampNeg (z.1 38 4)) v1) 40 (Int32.toNatClampNeg ((iw_wI z 39 (Int32.toNatClampNeg (z.1 38 4)) v1).1 38 4)) v2) 41 (Int32.toNatClampNeg ((iw_wI (iw_wI z 39 (Int32.toNatClampNeg (z.1 38 4)) v1) 40 (Int32.toNatClampNeg ((iw_wI z 39 (Int32.toNatClampNeg (z.1 38 4)) v1).1 38 4)) v2).1 38 4)) v3).1 38 4)) v4).1 38 4) + (1 : Int32))).1 38 4) - (1 : Int32)), (iw_wI (iw_wI (iw_wI (iw_wI (iw_wI z 39 (Int32.toNatClampNeg (z.1 38 4)) v1) 40 (Int32.toNatClampNeg ((iw_wI z 39 (Int32.toNatClampNeg (z.1 38 4)) v1).1 38 4)) v2) 41 (Int32.toNatClampNeg ((iw_wI (iw_wI z 39 (Int32.toNatClampNeg (z.1 38 4)) v1) 40 (Int32.toNatClampNeg ((iw_wI z 39 (Int32.toNatClampNeg (z.1 38 4)) v1).1 38 4)) v2).1 38 4)) v3) 42 (Int32.toNatClampNeg ((iw_wI (iw_wI (iw_wI z 39 (Int32.toNatClampNeg (z.1 38 4)) v1) 40 (Int32.toNatClampNeg ((iw_wI z 39 (Int32.toNatClampNeg (z.1 38 4)) v1).1 38 4)) v2) 41 (Int32.toNatClampNeg ((iw_wI (iw_wI z 39 (Int32.toNatClampNeg (z.1 38 4)) v1) 40 (Int32.toNatClampNeg ((iw_wI z 39 (Int32.toNatClampNeg (z.1 38 4)) v1).1 38 4)) v2).1 38 4)) v3).1 38 4)) v4) 38 4 (((iw_wI (iw_wI (iw_wI (iw_wI z 39 (Int32.toNatClampNeg (z.1 38 4)) v1) 40 (Int32.toNatClampNeg ((iw_wI z 39 (Int32.toNatClampNeg (z.1 38 4)) v1).1 38 4)) v2) 41 (Int32.toNatClampNeg ((iw_wI (iw_wI z 39 (Int32.toNatClampNeg (z.1 38 4)) v1) 40 (Int32.toNatClampNeg ((iw_wI z 39 (Int32.toNatClampNeg (z.1 38 4)) v1).1 38 4)) v2).1 38 4)) v3) 42 (Int32.toNatClampNeg ((iw_wI (iw_wI (iw_wI z 39 (Int32.toNatClampNeg (z.1 38 4)) v1) 40 (Int32.toNatClampNeg ((iw_wI z 39 (Int32.toNatClampNeg (z.1 38 4)) v1).1 38 4)) v2) 41 (Int32.toNatClampNeg ((iw_wI (iw_wI z 39 (Int32.toNatClampNeg (z.1 38 4)) v1) 40 (Int32.toNatClampNeg ((iw_wI z 39 (Int32.toNatClampNeg (z.1 38 4)) v1).1 38 4)) v2).1 38 4)) v3).1 38 4)) v4).1 38 4) + (1 : Int32))))
  else none)
  else none)
  else none)
  else none)
abbrev bX5_add : iw_B := (cX5_add, 5, { frames := 0, cells := 0, slots := 0, locals := 0 }, yX5_add.cls, (some .int))
set_option maxRecDepth 100000 in
set_option maxHeartbeats 4000000 in
theorem kX5_add (G : iw_G) (v1 : Int32) (v2 : Int32) (v3 : Int32) (v4 : Int32) (z : iw_M) : iw_K G iw_wX yX5_add cX5_add 5 (some .int) 0 0 iw_ei [.ref (iw_ad G 38), .int v1, .int v2, .int v3, .int v4] z (fX5_add v1 v2 v3 v4 z) := by
  refine iw_of [(0, .ref (iw_ad G 38)), (1, .int v1), (2, .int v2), (3, .int v3), (4, .int v4)] (by decide +kernel) (Nat.le_of_ble_eq_true rfl) rfl ?_
  intro X hC
  unfold fX5_add
  refine V_aln hC dX5_add_0 0 rfl ?_
  refine V_gr hC fl_X5_11 (by decide) rfl rfl dX5_add_1 ?_
  refine V_aln hC dX5_add_4 0 rfl ?_
  refine V_gi hC fl_X5_24 (by decide) rfl rfl dX5_add_5 ?_
  refine V_iln hC dX5_add_8 1 rfl ?_
  refine V_is_ hC (by decide) rfl dX5_add_9 ?_
  refine V_aln hC dX5_add_10 0 rfl ?_
  refine V_gr hC fl_X5_15 (by decide) rfl rfl dX5_add_11 ?_
  refine V_aln hC dX5_add_14 0 rfl ?_
  refine V_gi hC fl_X5_24 (by decide) rfl rfl dX5_add_15 ?_
  refine V_iln hC dX5_add_18 2 rfl ?_
  refine V_is_ hC (by decide) rfl dX5_add_19 ?_
  refine V_aln hC dX5_add_20 0 rfl ?_
  refine V_gr hC fl_X5_18 (by decide) rfl rfl dX5_add_21 ?_
  refine V_aln hC dX5_add_24 0 rfl ?_
  refine V_gi hC fl_X5_24 (by decide) rfl rfl dX5_add_25 ?_
  refine V_iln hC dX5_add_28 3 rfl ?_
  refine V_is_ hC (by decide) rfl dX5_add_29 ?_
  refine V_aln hC dX5_add_30 0 rfl ?_
  refine V_gr hC fl_X5_21 (by decide) rfl rfl dX5_add_31 ?_
  refine V_aln hC dX5_add_34 0 rfl ?_
  refine V_gi hC fl_X5_24 (by decide) rfl rfl dX5_add_35 ?_
  refine V_il hC dX5_add_38 4 rfl ?_
  refine V_is_ hC (by decide) rfl dX5_add_40 ?_
  refine V_aln hC dX5_add_41 0 rfl ?_
  refine V_dup hC dX5_add_42 rfl ?_
  refine V_gi hC fl_X5_24 (by decide) rfl rfl dX5_add_43 ?_
  refine V_ic (x := 1) hC dX5_add_46 (by decide) ?_
  refine V_iadd hC dX5_add_47 ?_
  refine V_pi hC fp_X5_24 (by decide) rfl rfl dX5_add_48 ?_
  refine V_aln hC dX5_add_51 0 rfl ?_
  refine V_gi hC fl_X5_24 (by decide) rfl rfl dX5_add_52 ?_
  refine V_ic (x := 1) hC dX5_add_55 (by decide) ?_
  refine V_isub hC dX5_add_56 ?_
  exact V_ir hC dX5_add_57 rfl
