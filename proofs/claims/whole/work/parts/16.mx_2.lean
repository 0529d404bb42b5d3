def fX5_inForceOn_L5 (v1 : Int32) (K : Int32 → Int32 → iw_M → Option (Int32 × iw_M)) : Nat → Int32 → Int32 → iw_M → Option (Int32 × iw_M)
  | 0, _, _, _ => none
  | n + 1, v2, v3, z => (if (z.1 38 4) ≤ v3 then
  K v2 v3 z
  else
  (if iw_ok v3 20 then
  (if v1 < (z.1 39 (Int32.toNatClampNeg v3)) then
  fX5_inForceOn_L5 v1 K n v2 (v3 + (1 : Int32)) z
  else
  (if v2 = (-9 : Int32) then
  fX5_inForceOn_L5 v1 K n v3 (v3 + (1 : Int32)) z
  else
  (if iw_ok v3 20 then
  (if iw_ok v2 20 then
  (if (z.1 39 (Int32.toNatClampNeg v3)) < (z.1 39 (Int32.toNatClampNeg v2)) then
  fX5_inForceOn_L5 v1 K n v2 (v3 + (1 : Int32)) z
  else
  fX5_inForceOn_L5 v1 K n v3 (v3 + (1 : Int32)) z)
  else none)
  else none)))
  else none))
def fX5_inForceOn (v1 : Int32) (z : iw_M) : Option (Int32 × iw_M) :=
  fX5_inForceOn_L5 v1 (fun x2_1 x3_1 z_1 => some (x2_1, z_1)) iw_fu (-9 : Int32) (0 : Int32) z
abbrev bX5_inForceOn : iw_B := (cX5_inForceOn, 4, { frames := 0, cells := 0, slots := 0, locals := 0 }, yX5_inForceOn.cls, (some .int))
set_option maxRecDepth 100000 in
set_option maxHeartbeats 4000000 in
theorem vX5_inForceOn_L5 {G : iw_G} {X : iw_X} (hC : iw_C G iw_wX X bX5_inForceOn) (v1 : Int32) (K : Int32 → Int32 → iw_M → Option (Int32 × iw_M)) (hK : ∀ (v2 : Int32) (v3 : Int32) (z : iw_M), iw_V G iw_wX X bX5_inForceOn iw_ei 52 [(0, .ref (iw_ad G 38)), (1, .int v1), (2, .int v2), (3, .int v3)] [] z (K v2 v3 z)) : ∀ (n : Nat) (v2 : Int32) (v3 : Int32) (z : iw_M), iw_V G iw_wX X bX5_inForceOn iw_ei 5 [(0, .ref (iw_ad G 38)), (1, .int v1), (2, .int v2), (3, .int v3)] [] z (fX5_inForceOn_L5 v1 K n v2 v3 z) := by
  intro n
  induction n with
  | zero =>
    intro v2 v3 z
    exact V_none
  | succ n ih =>
    intro v2 v3 z
    simp only [fX5_inForceOn_L5]
    refine V_iln hC dX5_inForceOn_5 3 rfl ?_
    refine V_aln hC dX5_inForceOn_6 0 rfl ?_
    refine V_gi hC fl_X5_24 (by decide) rfl rfl dX5_inForceOn_7 ?_
    refine V_cge 52 hC dX5_inForceOn_10 (by decide) ?_ ?_
    · exact hK _ _ _
    · refine V_aln hC dX5_inForceOn_13 0 rfl ?_
      refine V_gr hC fl_X5_11 (by decide) rfl rfl dX5_inForceOn_14 ?_
      refine V_iln hC dX5_inForceOn_17 3 rfl ?_
      refine V_ia hC (by decide) rfl dX5_inForceOn_18 ?_
      refine V_iln hC dX5_inForceOn_19 1 rfl ?_
      refine V_cgt 46 hC dX5_inForceOn_20 (by decide) ?_ ?_
      · refine V_inc (k := 3) (y := 1) [(3, .int _), (0, .ref _), (1, .int _), (2, .int _)] hC dX5_inForceOn_46 rfl (by decide) (by decide) rfl ?_
        refine V_goto 5 hC dX5_inForceOn_49 (by decide) ?_
        refine V_sub [(0, .ref _), (1, .int _), (2, .int _), (3, .int _)] [1, 2, 3, 0] rfl ?_
        exact ih _ _ _
      · refine V_iln hC dX5_inForceOn_23 2 rfl ?_
        refine V_bip (x := -9) hC dX5_inForceOn_24 (by decide) ?_
        refine V_ceq 44 hC dX5_inForceOn_26 (by decide) ?_ ?_
        · refine V_iln hC dX5_inForceOn_44 3 rfl ?_
          refine V_isn [(2, .int _), (0, .ref _), (1, .int _), (3, .int _)] hC dX5_inForceOn_45 (by decide) rfl ?_
          refine V_inc (k := 3) (y := 1) [(3, .int _), (2, .int _), (0, .ref _), (1, .int _)] hC dX5_inForceOn_46 rfl (by decide) (by decide) rfl ?_
          refine V_goto 5 hC dX5_inForceOn_49 (by decide) ?_
          refine V_sub [(0, .ref _), (1, .int _), (2, .int _), (3, .int _)] [2, 3, 1, 0] rfl ?_
          exact ih _ _ _
        · refine V_aln hC dX5_inForceOn_29 0 rfl ?_
          refine V_gr hC fl_X5_11 (by decide) rfl rfl dX5_inForceOn_30 ?_
          refine V_iln hC dX5_inForceOn_33 3 rfl ?_
          refine V_ia hC (by decide) rfl dX5_inForceOn_34 ?_
          refine V_aln hC dX5_inForceOn_35 0 rfl ?_
          refine V_gr hC fl_X5_11 (by decide) rfl rfl dX5_inForceOn_36 ?_
          refine V_iln hC dX5_inForceOn_39 2 rfl ?_
          refine V_ia hC (by decide) rfl dX5_inForceOn_40 ?_
          refine V_clt 46 hC dX5_inForceOn_41 (by decide) ?_ ?_
          · refine V_inc (k := 3) (y := 1) [(3, .int _), (0, .ref _), (1, .int _), (2, .int _)] hC dX5_inForceOn_46 rfl (by decide) (by decide) rfl ?_
            refine V_goto 5 hC dX5_inForceOn_49 (by decide) ?_
            refine V_sub [(0, .ref _), (1, .int _), (2, .int _), (3, .int _)] [1, 2, 3, 0] rfl ?_
            exact ih _ _ _
          · refine V_iln hC dX5_inForceOn_44 3 rfl ?_
            refine V_isn [(2, .int _), (0, .ref _), (1, .int _), (3, .int _)] hC dX5_inForceOn_45 (by decide) rfl ?_
            refine V_inc (k := 3) (y := 1) [(3, .int _), (2, .int _), (0, .ref _), (1, .int _)] hC dX5_inForceOn_46 rfl (by decide) (by decide) rfl ?_
            refine V_goto 5 hC dX5_inForceOn_49 (by decide) ?_
            refine V_sub [(0, .ref _), (1, .int _), (2, .int _), (3, .int _)] [2, 3, 1, 0] rfl ?_
            exact ih _ _ _
set_option maxRecDepth 100000 in
set_option maxHeartbeats 4000000 in
theorem kX5_inForceOn (G : iw_G) (v1 : Int32) (z : iw_M) : iw_K G iw_wX yX5_inForceOn cX5_inForceOn 4 (some .int) 0 0 iw_ei [.ref (iw_ad G 38), .int v1] z (fX5_inForceOn v1 z) := by
  refine iw_of [(0, .ref (iw_ad G 38)), (1, .int v1)] (by decide +kernel) (Nat.le_of_ble_eq_true rfl) rfl ?_
  intro X hC
  unfold fX5_inForceOn
  refine V_bip (x := -9) hC dX5_inForceOn_0 (by decide) ?_
  refine V_isn [(2, .int _), (0, .ref _), (1, .int _)] hC dX5_inForceOn_2 (by decide) rfl ?_
  refine V_ic (x := 0) hC dX5_inForceOn_3 (by decide) ?_
  refine V_isn [(3, .int _), (2, .int _), (0, .ref _), (1, .int _)] hC dX5_inForceOn_4 (by decide) rfl ?_
  refine V_sub [(0, .ref _), (1, .int _), (2, .int _), (3, .int _)] [2, 3, 1, 0] rfl ?_
  refine vX5_inForceOn_L5 hC _ _ ?_ _ _ _ _
  intro x2_1 x3_1 z_1
  refine V_iln hC dX5_inForceOn_52 2 rfl ?_
  exact V_ir hC dX5_inForceOn_53 rfl
def fX6_clear_L2 (K : Int32 → iw_M → Option (Unit × iw_M)) : Nat → Int32 → iw_M → Option (Unit × iw_M)
  | 0, _, _ => none
  | n + 1, v1, z => (if (10 : Int32) ≤ v1 then
  K v1 z
  else
  (if iw_ok v1 10 then
  (if iw_ok v1 10 then
  (if iw_ok v1 10 then
  (if iw_ok v1 10 then
  (if iw_ok v1 10 then
  (if iw_ok v1 10 then
  fX6_clear_L2 K n (v1 + (1 : Int32)) (iw_wI (iw_wI (iw_wI (iw_wI (iw_wI (iw_wI z 32 (Int32.toNatClampNeg v1) (9999 : Int32)) 33 (Int32.toNatClampNeg v1) (0 : Int32)) 34 (Int32.toNatClampNeg v1) (0 : Int32)) 35 (Int32.toNatClampNeg v1) (0 : Int32)) 36 (Int32.toNatClampNeg v1) (0 : Int32)) 37 (Int32.toNatClampNeg v1) (0 : Int32))
  else none)
  else none)
  else none)
  else none)
  else none)
  else none))
def fX6_clear (z : iw_M) : Option (Unit × iw_M) :=
  fX6_clear_L2  (fun x1_1 z_1 => some ((), z_1)) iw_fu (0 : Int32) z
abbrev bX6_clear : iw_B := (cX6_clear, 2, { frames := 0, cells := 0, slots := 0, locals := 0 }, yX6_clear.cls, none)
set_option maxRecDepth 100000 in
set_option maxHeartbeats 4000000 in
theorem vX6_clear_L2 {G : iw_G} {X : iw_X} (hC : iw_C G iw_wX X bX6_clear) (K : Int32 → iw_M → Option (Unit × iw_M)) (hK : ∀ (v1 : Int32) (z : iw_M), iw_V G iw_wX X bX6_clear iw_ev 58 [(0, .ref (iw_ad G 31)), (1, .int v1)] [] z (K v1 z)) : ∀ (n : Nat) (v1 : Int32) (z : iw_M), iw_V G iw_wX X bX6_clear iw_ev 2 [(0, .ref (iw_ad G 31)), (1, .int v1)] [] z (fX6_clear_L2 K n v1 z) := by
  intro n
  induction n with
  | zero =>
    intro v1 z
    exact V_none
  | succ n ih =>
    intro v1 z
    simp only [fX6_clear_L2]
    refine V_iln hC dX6_clear_2 1 rfl ?_
    refine V_bip (x := 10) hC dX6_clear_3 (by decide) ?_
    refine V_cge 58 hC dX6_clear_5 (by decide) ?_ ?_
    · exact hK _ _
    · refine V_aln hC dX6_clear_8 0 rfl ?_
      refine V_gr hC fl_X6_11 (by decide) rfl rfl dX6_clear_9 ?_
      refine V_iln hC dX6_clear_12 1 rfl ?_
      refine V_sip (x := 9999) hC dX6_clear_13 (by decide) ?_
      refine V_is_ hC (by decide) rfl dX6_clear_16 ?_
      refine V_aln hC dX6_clear_17 0 rfl ?_
      refine V_gr hC fl_X6_17 (by decide) rfl rfl dX6_clear_18 ?_
      refine V_iln hC dX6_clear_21 1 rfl ?_
      refine V_ic (x := 0) hC dX6_clear_22 (by decide) ?_
      refine V_is_ hC (by decide) rfl dX6_clear_23 ?_
      refine V_aln hC dX6_clear_24 0 rfl ?_
      refine V_gr hC fl_X6_20 (by decide) rfl rfl dX6_clear_25 ?_
      refine V_iln hC dX6_clear_28 1 rfl ?_
      refine V_ic (x := 0) hC dX6_clear_29 (by decide) ?_
      refine V_is_ hC (by decide) rfl dX6_clear_30 ?_
      refine V_aln hC dX6_clear_31 0 rfl ?_
      refine V_gr hC fl_X6_23 (by decide) rfl rfl dX6_clear_32 ?_
      refine V_iln hC dX6_clear_35 1 rfl ?_
      refine V_ic (x := 0) hC dX6_clear_36 (by decide) ?_
      refine V_is_ hC (by decide) rfl dX6_clear_37 ?_
      refine V_aln hC dX6_clear_38 0 rfl ?_
      refine V_gr hC fl_X6_26 (by decide) rfl rfl dX6_clear_39 ?_
      refine V_iln hC dX6_clear_42 1 rfl ?_
      refine V_ic (x := 0) hC dX6_clear_43 (by decide) ?_
      refine V_is_ hC (by decide) rfl dX6_clear_44 ?_
      refine V_aln hC dX6_clear_45 0 rfl ?_
      refine V_gr hC fl_X6_29 (by decide) rfl rfl dX6_clear_46 ?_
      refine V_iln hC dX6_clear_49 1 rfl ?_
      refine V_ic (x := 0) hC dX6_clear_50 (by decide) ?_
      refine V_is_ hC (by decide) rfl dX6_clear_51 ?_
      refine V_inc (k := 1) (y := 1) [(1, .int _), (0, .ref _)] hC dX6_clear_52 rfl (by decide) (by decide) rfl ?_
      refine V_goto 2 hC dX6_clear_55 (by decide) ?_
      refine V_sub [(0, .ref _), (1, .int _)] [1, 0] rfl ?_
      exact ih _ _
set_option maxRecDepth 100000 in
set_option maxHeartbeats 4000000 in
theorem kX6_clear (G : iw_G) (z : iw_M) : iw_K G iw_wX yX6_clear cX6_clear 2 none 0 0 iw_ev [.ref (iw_ad G 31)] z (fX6_clear z) := by
  refine iw_of [(0, .ref (iw_ad G 31))] (by decide +kernel) (Nat.le_of_ble_eq_true rfl) rfl ?_
  intro X hC
  unfold fX6_clear
  refine V_ic (x := 0) hC dX6_clear_0 (by decide) ?_
  refine V_isn [(1, .int _), (0, .ref _)] hC dX6_clear_1 (by decide) rfl ?_
  refine V_sub [(0, .ref _), (1, .int _)] [1, 0] rfl ?_
  refine vX6_clear_L2 hC  _ ?_ _ _ _
  intro x1_1 z_1
  exact V_vr hC dX6_clear_58 rfl
def fX6_addAfter (v1 : Int32) (v2 : Int32) (z : iw_M) : Option (Unit × iw_M) :=
  (if iw_ok v1 10 then
  (if iw_ok v1 10 then
  (if iw_ok v1 10 then
  (if iw_ok v1 10 then
  (if iw_ok v1 10 then
  (if iw_ok v1 10 then
  some ((), (iw_wI (iw_wI (iw_wI z 35 (Int32.toNatClampNeg v1) (iw_max (z.1 35 (Int32.toNatClampNeg v1)) v2)) 36 (Int32.toNatClampNeg v1) (((iw_wI z 35 (Int32.toNatClampNeg v1) (iw_max (z.1 35 (Int32.toNatClampNeg v1)) v2)).1 36 (Int32.toNatClampNeg v1)) + v2)) 37 (Int32.toNatClampNeg v1) (((iw_wI (iw_wI z 35 (Int32.toNatClampNeg v1) (iw_max (z.1 35 (Int32.toNatClampNeg v1)) v2)) 36 (Int32.toNatClampNeg v1) (((iw_wI z 35 (Int32.toNatClampNeg v1) (iw_max (z.1 35 (Int32.toNatClampNeg v1)) v2)).1 36 (Int32.toNatClampNeg v1)) + v2)).1 37 (Int32.toNatClampNeg v1)) + (1 : Int32))))
  else none)
  else none)
  else none)
  else none)
  else none)
  else none)
abbrev bX6_addAfter : iw_B := (cX6_addAfter, 3, { frames := 1, cells := 0, slots := 0, locals := 21 }, yX6_addAfter.cls, none)
set_option maxRecDepth 100000 in
set_option maxHeartbeats 4000000 in
theorem kX6_addAfter (G : iw_G) (v1 : Int32) (v2 : Int32) (z : iw_M) : iw_K G iw_wX yX6_addAfter cX6_addAfter 3 none 1 21 iw_ev [.ref (iw_ad G 31), .int v1, .int v2] z (fX6_addAfter v1 v2 z) := by
  refine iw_of [(0, .ref (iw_ad G 31)), (1, .int v1), (2, .int v2)] (by decide +kernel) (Nat.le_of_ble_eq_true rfl) rfl ?_
  intro X hC
  unfold fX6_addAfter
  refine V_aln hC dX6_addAfter_0 0 rfl ?_
  refine V_gr hC fl_X6_23 (by decide) rfl rfl dX6_addAfter_1 ?_
  refine V_iln hC dX6_addAfter_4 1 rfl ?_
  refine V_aln hC dX6_addAfter_5 0 rfl ?_
  refine V_gr hC fl_X6_23 (by decide) rfl rfl dX6_addAfter_6 ?_
  refine V_iln hC dX6_addAfter_9 1 rfl ?_
  refine V_ia hC (by decide) rfl dX6_addAfter_10 ?_
  refine V_iln hC dX6_addAfter_11 2 rfl ?_
  refine V_max hC mm_X6_72 ⟨by decide, Nat.le_of_ble_eq_true rfl⟩ dX6_addAfter_12 ?_
  refine V_is_ hC (by decide) rfl dX6_addAfter_15 ?_
  refine V_aln hC dX6_addAfter_16 0 rfl ?_
  refine V_gr hC fl_X6_26 (by decide) rfl rfl dX6_addAfter_17 ?_
  refine V_iln hC dX6_addAfter_20 1 rfl ?_
  refine V_dup2 hC dX6_addAfter_21 rfl rfl ?_
  refine V_ia hC (by decide) rfl dX6_addAfter_22 ?_
  refine V_iln hC dX6_addAfter_23 2 rfl ?_
  refine V_iadd hC dX6_addAfter_24 ?_
  refine V_is_ hC (by decide) rfl dX6_addAfter_25 ?_
  refine V_aln hC dX6_addAfter_26 0 rfl ?_
  refine V_gr hC fl_X6_29 (by decide) rfl rfl dX6_addAfter_27 ?_
  refine V_iln hC dX6_addAfter_30 1 rfl ?_
  refine V_dup2 hC dX6_addAfter_31 rfl rfl ?_
  refine V_ia hC (by decide) rfl dX6_addAfter_32 ?_
  refine V_ic (x := 1) hC dX6_addAfter_33 (by decide) ?_
  refine V_iadd hC dX6_addAfter_34 ?_
  refine V_is_ hC (by decide) rfl dX6_addAfter_35 ?_
  exact V_vr hC dX6_addAfter_36 rfl
def fX6_addBefore (v1 : Int32) (v2 : Int32) (z : iw_M) : Option (Unit × iw_M) :=
  (if iw_ok v1 10 then
  (if iw_ok v1 10 then
  (if iw_ok v1 10 then
  (if iw_ok v1 10 then
  (if iw_ok v1 10 then
  (if iw_ok v1 10 then
  some ((), (iw_wI (iw_wI (iw_wI z 32 (Int32.toNatClampNeg v1) (iw_min (z.1 32 (Int32.toNatClampNeg v1)) v2)) 33 (Int32.toNatClampNeg v1) (((iw_wI z 32 (Int32.toNatClampNeg v1) (iw_min (z.1 32 (Int32.toNatClampNeg v1)) v2)).1 33 (Int32.toNatClampNeg v1)) + v2)) 34 (Int32.toNatClampNeg v1) (((iw_wI (iw_wI z 32 (Int32.toNatClampNeg v1) (iw_min (z.1 32 (Int32.toNatClampNeg v1)) v2)) 33 (Int32.toNatClampNeg v1) (((iw_wI z 32 (Int32.toNatClampNeg v1) (iw_min (z.1 32 (Int32.toNatClampNeg v1)) v2)).1 33 (Int32.toNatClampNeg v1)) + v2)).1 34 (Int32.toNatClampNeg v1)) + (1 : Int32))))
  else none)
  else none)
  else none)
  else none)
  else none)
  else none)
abbrev bX6_addBefore : iw_B := (cX6_addBefore, 3, { frames := 1, cells := 0, slots := 0, locals := 21 }, yX6_addBefore.cls, none)
set_option maxRecDepth 100000 in
set_option maxHeartbeats 4000000 in
theorem kX6_addBefore (G : iw_G) (v1 : Int32) (v2 : Int32) (z : iw_M) : iw_K G iw_wX yX6_addBefore cX6_addBefore 3 none 1 21 iw_ev [.ref (iw_ad G 31), .int v1, .int v2] z (fX6_addBefore v1 v2 z) := by
  refine iw_of [(0, .ref (iw_ad G 31)), (1, .int v1), (2, .int v2)] (by decide +kernel) (Nat.le_of_ble_eq_true rfl) rfl ?_
  intro X hC
  unfold fX6_addBefore
  refine V_aln hC dX6_addBefore_0 0 rfl ?_
  refine V_gr hC fl_X6_11 (by decide) rfl rfl dX6_addBefore_1 ?_
  refine V_iln hC dX6_addBefore_4 1 rfl ?_
  refine V_aln hC dX6_addBefore_5 0 rfl ?_
  refine V_gr hC fl_X6_11 (by decide) rfl rfl dX6_addBefore_6 ?_
  refine V_iln hC dX6_addBefore_9 1 rfl ?_
  refine V_ia hC (by decide) rfl dX6_addBefore_10 ?_
  refine V_iln hC dX6_addBefore_11 2 rfl ?_
  refine V_min hC mm_X6_66 ⟨by decide, Nat.le_of_ble_eq_true rfl⟩ dX6_addBefore_12 ?_
  refine V_is_ hC (by decide) rfl dX6_addBefore_15 ?_
  refine V_aln hC dX6_addBefore_16 0 rfl ?_
  refine V_gr hC fl_X6_17 (by decide) rfl rfl dX6_addBefore_17 ?_
  refine V_iln hC dX6_addBefore_20 1 rfl ?_
  refine V_dup2 hC dX6_addBefore_21 rfl rfl ?_
  refine V_ia hC (by decide) rfl dX6_addBefore_22 ?_
  refine V_iln hC dX6_addBefore_23 2 rfl ?_
  refine V_iadd hC dX6_addBefore_24 ?_
  refine V_is_ hC (by decide) rfl dX6_addBefore_25 ?_
  refine V_aln hC dX6_addBefore_26 0 rfl ?_
  refine V_gr hC fl_X6_20 (by decide) rfl rfl dX6_addBefore_27 ?_
  refine V_iln hC dX6_addBefore_30 1 rfl ?_
  refine V_dup2 hC dX6_addBefore_31 rfl rfl ?_
  refine V_ia hC (by decide) rfl dX6_addBefore_32 ?_
  refine V_ic (x := 1) hC dX6_addBefore_33 (by decide) ?_
  refine V_iadd hC dX6_addBefore_34 ?_
  refine V_is_ hC (by decide) rfl dX6_addBefore_35 ?_
  exact V_vr hC dX6_addBefore_36 rfl
def fX6_gather_L7 (kf : Nat) (v3 : Int32) (K : Int32 → iw_M → Option (Unit × iw_M)) : Nat → Int32 → iw_M → Option (Unit × iw_M)
  | 0, _, _ => none
  | n + 1, v4, z => (if (z.1 26 4) ≤ v4 then
  K v4 z
  else
  (if iw_ok v4 200 then
  (if iw_ok (z.1 28 (Int32.toNatClampNeg v4)) 40 then
  (if (z.1 (kf + 1) (Int32.toNatClampNeg (z.1 28 (Int32.toNatClampNeg v4)))) = v3 then
  (if iw_ok v4 200 then
  (if (z.1 29 (Int32.toNatClampNeg v4)) = 0 then
  (if iw_ok v4 200 then
  (if iw_ok v4 200 then
  ((fX6_addBefore (z.1 27 (Int32.toNatClampNeg v4)) (z.1 30 (Int32.toNatClampNeg v4)) z).bind (fun q2 =>
  fX6_gather_L7 kf v3 K n (v4 + (1 : Int32)) q2.2))
  else none)
  else none)
  else
  (if iw_ok v4 200 then
  (if iw_ok v4 200 then
  ((fX6_addAfter (z.1 27 (Int32.toNatClampNeg v4)) (z.1 30 (Int32.toNatClampNeg v4)) z).bind (fun q3 =>
  fX6_gather_L7 kf v3 K n (v4 + (1 : Int32)) q3.2))
  else none)
  else none))
  else none)
  else
  fX6_gather_L7 kf v3 K n (v4 + (1 : Int32)) z)
  else none)
  else none))
def fX6_gather (kf : Nat) (v3 : Int32) (z : iw_M) : Option (Unit × iw_M) :=
  ((fX6_clear  z).bind (fun q1 =>
  fX6_gather_L7 kf v3 (fun x4_4 z_4 => some ((), z_4)) iw_fu (0 : Int32) q1.2))
abbrev bX6_gather : iw_B := (cX6_gather, 5, { frames := 2, cells := 0, slots := 0, locals := 43 }, yX6_gather.cls, none)
set_option maxRecDepth 100000 in
set_option maxHeartbeats 4000000 in
theorem vX6_gather_L7 {G : iw_G} {X : iw_X} (hC : iw_C G iw_wX X bX6_gather) (kf : Nat) (hf : iw_isF kf) (v3 : Int32) (K : Int32 → iw_M → Option (Unit × iw_M)) (hK : ∀ (v4 : Int32) (z : iw_M), iw_V G iw_wX X bX6_gather iw_ev 90 [(0, .ref (iw_ad G 31)), (1, .ref (iw_ad G 26)), (2, .ref (iw_ad G kf)), (3, .int v3), (4, .int v4)] [] z (K v4 z)) : ∀ (n : Nat) (v4 : Int32) (z : iw_M), iw_V G iw_wX X bX6_gather iw_ev 7 [(0, .ref (iw_ad G 31)), (1, .ref (iw_ad G 26)), (2, .ref (iw_ad G kf)), (3, .int v3), (4, .int v4)] [] z (fX6_gather_L7 kf v3 K n v4 z) := by
  intro n
  induction n with
  | zero =>
    intro v4 z
    exact V_none
  | succ n ih =>
    intro v4 z
    simp only [fX6_gather_L7]
    refine V_il hC dX6_gather_7 4 rfl ?_
    refine V_aln hC dX6_gather_9 1 rfl ?_
    refine V_gi hC fl_X6_35 (by decide) rfl rfl dX6_gather_10 ?_
    refine V_cge 90 hC dX6_gather_13 (by decide) ?_ ?_
    · exact hK _ _
    · refine V_aln hC dX6_gather_16 2 rfl ?_
      refine V_gr hC fl_X6_41 hf.2.2.1 hf.1 rfl dX6_gather_17 ?_
      refine V_aln hC dX6_gather_20 1 rfl ?_
      refine V_gr hC fl_X6_46 (by decide) rfl rfl dX6_gather_21 ?_
      refine V_il hC dX6_gather_24 4 rfl ?_
      refine V_ia hC (by decide) rfl dX6_gather_26 ?_
      refine V_ia hC hf.2.2.2 hf.2.1 dX6_gather_27 ?_
      refine V_iln hC dX6_gather_28 3 rfl ?_
      refine V_ceq 35 hC dX6_gather_29 (by decide) ?_ ?_
      · refine V_aln hC dX6_gather_35 1 rfl ?_
        refine V_gr hC fl_X6_49 (by decide) rfl rfl dX6_gather_36 ?_
        refine V_il hC dX6_gather_39 4 rfl ?_
        refine V_ba hC (by decide) rfl dX6_gather_41 ?_
        refine V_ieq 66 hC dX6_gather_42 (by decide) ?_ ?_
        · refine V_aln hC dX6_gather_66 0 rfl ?_
          refine V_aln hC dX6_gather_67 1 rfl ?_
          refine V_gr hC fl_X6_53 (by decide) rfl rfl dX6_gather_68 ?_
          refine V_il hC dX6_gather_71 4 rfl ?_
          refine V_ia hC (by decide) rfl dX6_gather_73 ?_
          refine V_aln hC dX6_gather_74 1 rfl ?_
          refine V_gr hC fl_X6_56 (by decide) rfl rfl dX6_gather_75 ?_
          refine V_il hC dX6_gather_78 4 rfl ?_
          refine V_ia hC (by decide) rfl dX6_gather_80 ?_
          refine V_cvv [] hC cv_X6_63 (by decide) rfl rfl (kX6_addBefore G _ _ _) rfl rfl (Nat.le_of_ble_eq_true rfl) ⟨by decide, by decide⟩ dX6_gather_81 ?_
          intro q2
          refine V_inc (k := 4) (y := 1) [(4, .int _), (0, .ref _), (1, .ref _), (2, .ref _), (3, .int _)] hC dX6_gather_84 rfl (by decide) (by decide) rfl ?_
          refine V_goto 7 hC dX6_gather_87 (by decide) ?_
          refine V_sub [(0, .ref _), (1, .ref _), (2, .ref _), (3, .int _), (4, .int _)] [1, 2, 3, 4, 0] rfl ?_
          exact ih _ _
        · refine V_aln hC dX6_gather_45 0 rfl ?_
          refine V_aln hC dX6_gather_46 1 rfl ?_
          refine V_gr hC fl_X6_53 (by decide) rfl rfl dX6_gather_47 ?_
          refine V_il hC dX6_gather_50 4 rfl ?_
          refine V_ia hC (by decide) rfl dX6_gather_52 ?_
          refine V_aln hC dX6_gather_53 1 rfl ?_
          refine V_gr hC fl_X6_56 (by decide) rfl rfl dX6_gather_54 ?_
          refine V_il hC dX6_gather_57 4 rfl ?_
          refine V_ia hC (by decide) rfl dX6_gather_59 ?_
          refine V_cvv [] hC cv_X6_59 (by decide) rfl rfl (kX6_addAfter G _ _ _) rfl rfl (Nat.le_of_ble_eq_true rfl) ⟨by decide, by decide⟩ dX6_gather_60 ?_
          intro q3
          refine V_goto 84 hC dX6_gather_63 (by decide) ?_
          refine V_inc (k := 4) (y := 1) [(4, .int _), (0, .ref _), (1, .ref _), (2, .ref _), (3, .int _)] hC dX6_gather_84 rfl (by decide) (by decide) rfl ?_
          refine V_goto 7 hC dX6_gather_87 (by decide) ?_
          refine V_sub [(0, .ref _), (1, .ref _), (2, .ref _), (3, .int _), (4, .int _)] [1, 2, 3, 4, 0] rfl ?_
          exact ih _ _
      · refine V_goto 84 hC dX6_gather_32 (by decide) ?_
        refine V_inc (k := 4) (y := 1) [(4, .int _), (0, .ref _), (1, .ref _), (2, .ref _), (3, .int _)] hC dX6_gather_84 rfl (by decide) (by decide) rfl ?_
        refine V_goto 7 hC dX6_gather_87 (by decide) ?_
        refine V_sub [(0, .ref _), (1, .ref _), (2, .ref _), (3, .int _), (4, .int _)] [1, 2, 3, 4, 0] rfl ?_
        exact ih _ _
set_option maxRecDepth 100000 in
set_option maxHeartbeats 4000000 in
theorem kX6_gather (G : iw_G) (kf : Nat) (hf : iw_isF kf) (v3 : Int32) (z : iw_M) : iw_K G iw_wX yX6_gather cX6_gather 5 none 2 43 iw_ev [.ref (iw_ad G 31), .ref (iw_ad G 26), .ref (iw_ad G kf), .int v3] z (fX6_gather kf v3 z) := by
  refine iw_of [(0, .ref (iw_ad G 31)), (1, .ref (iw_ad G 26)), (2, .ref (iw_ad G kf)), (3, .int v3)] (by decide +kernel) (Nat.le_of_ble_eq_true rfl) rfl ?_
  intro X hC
  unfold fX6_gather
  refine V_aln hC dX6_gather_0 0 rfl ?_
  refine V_cvv [] hC cv_X6_32 (by decide) rfl rfl (kX6_clear G  _) rfl rfl (Nat.le_of_ble_eq_true rfl) ⟨by decide, by decide⟩ dX6_gather_1 ?_
  intro q1
  refine V_ic (x := 0) hC dX6_gather_4 (by decide) ?_
  refine V_is [(4, .int _), (0, .ref _), (1, .ref _), (2, .ref _), (3, .int _)] hC dX6_gather_5 (by decide) rfl ?_
  refine V_sub [(0, .ref _), (1, .ref _), (2, .ref _), (3, .int _), (4, .int _)] [1, 2, 3, 4, 0] rfl ?_
  refine vX6_gather_L7 hC kf hf _ _ ?_ _ _ _
  intro x4_4 z_4
  exact V_vr hC dX6_gather_90 rfl
def fX6_hasBoth (v1 : Int32) (z : iw_M) : Option (Int32 × iw_M) :=
  (if iw_ok v1 10 then
  (if (z.1 34 (Int32.toNatClampNeg v1)) ≤ 0 then
  some ((0 : Int32), z)
  else
  (if iw_ok v1 10 then
  (if (z.1 37 (Int32.toNatClampNeg v1)) ≤ 0 then
  some ((0 : Int32), z)
  else
  some ((1 : Int32), z))
  else none))
  else none)
abbrev bX6_hasBoth : iw_B := (cX6_hasBoth, 2, { frames := 0, cells := 0, slots := 0, locals := 0 }, yX6_hasBoth.cls, (some .boolean))
set_option maxRecDepth 100000 in
set_option maxHeartbeats 4000000 in
theorem kX6_hasBoth (G : iw_G) (v1 : Int32) (z : iw_M) : iw_K G iw_wX yX6_hasBoth cX6_hasBoth 2 (some .boolean) 0 0 iw_ei [.ref (iw_ad G 31), .int v1] z (fX6_hasBoth v1 z) := by
  refine iw_of [(0, .ref (iw_ad G 31)), (1, .int v1)] (by decide +kernel) (Nat.le_of_ble_eq_true rfl) rfl ?_
  intro X hC
  unfold fX6_hasBoth
  refine V_aln hC dX6_hasBoth_0 0 rfl ?_
  refine V_gr hC fl_X6_20 (by decide) rfl rfl dX6_hasBoth_1 ?_
  refine V_iln hC dX6_hasBoth_4 1 rfl ?_
  refine V_ia hC (by decide) rfl dX6_hasBoth_5 ?_
  refine V_ile 22 hC dX6_hasBoth_6 (by decide) ?_ ?_
  · refine V_ic (x := 0) hC dX6_hasBoth_22 (by decide) ?_
    exact V_zr hC dX6_hasBoth_23 rfl rfl
  · refine V_aln hC dX6_hasBoth_9 0 rfl ?_
    refine V_gr hC fl_X6_29 (by decide) rfl rfl dX6_hasBoth_10 ?_
    refine V_iln hC dX6_hasBoth_13 1 rfl ?_
    refine V_ia hC (by decide) rfl dX6_hasBoth_14 ?_
    refine V_ile 22 hC dX6_hasBoth_15 (by decide) ?_ ?_
    · refine V_ic (x := 0) hC dX6_hasBoth_22 (by decide) ?_
      exact V_zr hC dX6_hasBoth_23 rfl rfl
    · refine V_ic (x := 1) hC dX6_hasBoth_18 (by decide) ?_
      refine V_goto 23 hC dX6_hasBoth_19 (by decide) ?_
      exact V_zr hC dX6_hasBoth_23 rfl rfl
def fX6_beyondDoubt (v1 : Int32) (z : iw_M) : Option (Int32 × iw_M) :=
  ((fX6_hasBoth v1 z).bind (fun q1 =>
  (if q1.1 = 0 then
  some ((0 : Int32), q1.2)
  else
  (if iw_ok v1 10 then
  (if iw_ok v1 10 then
  some ((iw_max (0 : Int32) ((q1.2.1 32 (Int32.toNatClampNeg v1)) - (q1.2.1 35 (Int32.toNatClampNeg v1)))), q1.2)
  else none)
  else none))))
abbrev bX6_beyondDoubt : iw_B := (cX6_beyondDoubt, 2, { frames := 1, cells := 0, slots := 0, locals := 21 }, yX6_beyondDoubt.cls, (some .int))
set_option maxRecDepth 100000 in
set_option maxHeartbeats 4000000 in
theorem kX6_beyondDoubt (G : iw_G) (v1 : Int32) (z : iw_M) : iw_K G iw_wX yX6_beyondDoubt cX6_beyondDoubt 2 (some .int) 1 21 iw_ei [.ref (iw_ad G 31), .int v1] z (fX6_beyondDoubt v1 z) := by
  refine iw_of [(0, .ref (iw_ad G 31)), (1, .int v1)] (by decide +kernel) (Nat.le_of_ble_eq_true rfl) rfl ?_
  intro X hC
  unfold fX6_beyondDoubt
  refine V_aln hC dX6_beyondDoubt_0 0 rfl ?_
  refine V_iln hC dX6_beyondDoubt_1 1 rfl ?_
  refine V_cvi [] hC cv_X6_75 (by decide) rfl rfl (kX6_hasBoth G _ _) rfl rfl (Nat.le_of_ble_eq_true rfl) ⟨by decide, by decide⟩ dX6_beyondDoubt_2 ?_
  intro q1
  refine V_ieq 28 hC dX6_beyondDoubt_5 (by decide) ?_ ?_
  · refine V_ic (x := 0) hC dX6_beyondDoubt_28 (by decide) ?_
    exact V_ir hC dX6_beyondDoubt_29 rfl
  · refine V_ic (x := 0) hC dX6_beyondDoubt_8 (by decide) ?_
    refine V_aln hC dX6_beyondDoubt_9 0 rfl ?_
    refine V_gr hC fl_X6_11 (by decide) rfl rfl dX6_beyondDoubt_10 ?_
    refine V_iln hC dX6_beyondDoubt_13 1 rfl ?_
    refine V_ia hC (by decide) rfl dX6_beyondDoubt_14 ?_
    refine V_aln hC dX6_beyondDoubt_15 0 rfl ?_
    refine V_gr hC fl_X6_23 (by decide) rfl rfl dX6_beyondDoubt_16 ?_
    refine V_iln hC dX6_beyondDoubt_19 1 rfl ?_
    refine V_ia hC (by decide) rfl dX6_beyondDoubt_20 ?_
    refine V_isub hC dX6_beyondDoubt_21 ?_
    refine V_max hC mm_X6_72 ⟨by decide, Nat.le_of_ble_eq_true rfl⟩ dX6_beyondDoubt_22 ?_
    refine V_goto 29 hC dX6_beyondDoubt_25 (by decide) ?_
    exact V_ir hC dX6_beyondDoubt_29 rfl
def fX6_hoped (v1 : Int32) (z : iw_M) : Option (Int32 × iw_M) :=
  ((fX6_hasBoth v1 z).bind (fun q1 =>
  (if q1.1 = 0 then
  some ((0 : Int32), q1.2)
  else
  (if iw_ok v1 10 then
  (if iw_ok v1 10 then
  (if (q1.2.1 34 (Int32.toNatClampNeg v1)) = 0 then none else
  (if iw_ok v1 10 then
  (if iw_ok v1 10 then
  (if (q1.2.1 37 (Int32.toNatClampNeg v1)) = 0 then none else
  some ((iw_max (0 : Int32) (((q1.2.1 33 (Int32.toNatClampNeg v1)) / (q1.2.1 34 (Int32.toNatClampNeg v1))) - ((q1.2.1 36 (Int32.toNatClampNeg v1)) / (q1.2.1 37 (Int32.toNatClampNeg v1))))), q1.2))
  else none)
  else none))
  else none)
  else none))))
abbrev bX6_hoped : iw_B := (cX6_hoped, 2, { frames := 1, cells := 0, slots := 0, locals := 21 }, yX6_hoped.cls, (some .int))
set_option maxRecDepth 100000 in
set_option maxHeartbeats 4000000 in
theorem kX6_hoped (G : iw_G) (v1 : Int32) (z : iw_M) : iw_K G iw_wX yX6_hoped cX6_hoped 2 (some .int) 1 21 iw_ei [.ref (iw_ad G 31), .int v1] z (fX6_hoped v1 z) := by
  refine iw_of [(0, .ref (iw_ad G 31)), (1, .int v1)] (by decide +kernel) (Nat.le_of_ble_eq_true rfl) rfl ?_
  intro X hC
  unfold fX6_hoped
  refine V_aln hC dX6_hoped_0 0 rfl ?_
  refine V_iln hC dX6_hoped_1 1 rfl ?_
  refine V_cvi [] hC cv_X6_75 (by decide) rfl rfl (kX6_hasBoth G _ _) rfl rfl (Nat.le_of_ble_eq_true rfl) ⟨by decide, by decide⟩ dX6_hoped_2 ?_
  intro q1
  refine V_ine 10 hC dX6_hoped_5 (by decide) ?_ ?_
  · refine V_ic (x := 0) hC dX6_hoped_10 (by decide) ?_
    refine V_aln hC dX6_hoped_11 0 rfl ?_
    refine V_gr hC fl_X6_17 (by decide) rfl rfl dX6_hoped_12 ?_
    refine V_iln hC dX6_hoped_15 1 rfl ?_
    refine V_ia hC (by decide) rfl dX6_hoped_16 ?_
    refine V_aln hC dX6_hoped_17 0 rfl ?_
    refine V_gr hC fl_X6_20 (by decide) rfl rfl dX6_hoped_18 ?_
    refine V_iln hC dX6_hoped_21 1 rfl ?_
    refine V_ia hC (by decide) rfl dX6_hoped_22 ?_
    refine V_idiv hC dX6_hoped_23 ?_
    refine V_aln hC dX6_hoped_24 0 rfl ?_
    refine V_gr hC fl_X6_26 (by decide) rfl rfl dX6_hoped_25 ?_
    refine V_iln hC dX6_hoped_28 1 rfl ?_
    refine V_ia hC (by decide) rfl dX6_hoped_29 ?_
    refine V_aln hC dX6_hoped_30 0 rfl ?_
    refine V_gr hC fl_X6_29 (by decide) rfl rfl dX6_hoped_31 ?_
    refine V_iln hC dX6_hoped_34 1 rfl ?_
    refine V_ia hC (by decide) rfl dX6_hoped_35 ?_
    refine V_idiv hC dX6_hoped_36 ?_
    refine V_isub hC dX6_hoped_37 ?_
    refine V_max hC mm_X6_72 ⟨by decide, Nat.le_of_ble_eq_true rfl⟩ dX6_hoped_38 ?_
    exact V_ir hC dX6_hoped_41 rfl
  · refine V_ic (x := 0) hC dX6_hoped_8 (by decide) ?_
    exact V_ir hC dX6_hoped_9 rfl
def fX7_add (v1 : Int32) (z : iw_M) : Option (Unit × iw_M) :=
  (if iw_ok (z.1 43 1) 20 then
  some ((), (iw_wI (iw_wI z 44 (Int32.toNatClampNeg (z.1 43 1)) v1) 43 1 (((iw_wI z 44 (Int32.toNatClampNeg (z.1 43 1)) v1).1 43 1) + (1 : Int32))))
  else none)
abbrev bX7_add : iw_B := (cX7_add, 2, { frames := 0, cells := 0, slots := 0, locals := 0 }, yX7_add.cls, none)
set_option maxRecDepth 100000 in
set_option maxHeartbeats 4000000 in
theorem kX7_add (G : iw_G) (v1 : Int32) (z : iw_M) : iw_K G iw_wX yX7_add cX7_add 2 none 0 0 iw_ev [.ref (iw_ad G 43), .int v1] z (fX7_add v1 z) := by
  refine iw_of [(0, .ref (iw_ad G 43)), (1, .int v1)] (by decide +kernel) (Nat.le_of_ble_eq_true rfl) rfl ?_
  intro X hC
  unfold fX7_add
  refine V_aln hC dX7_add_0 0 rfl ?_
  refine V_gr hC fl_X7_9 (by decide) rfl rfl dX7_add_1 ?_
  refine V_aln hC dX7_add_4 0 rfl ?_
  refine V_gi hC fl_X7_13 (by decide) rfl rfl dX7_add_5 ?_
  refine V_iln hC dX7_add_8 1 rfl ?_
  refine V_is_ hC (by decide) rfl dX7_add_9 ?_
  refine V_aln hC dX7_add_10 0 rfl ?_
  refine V_dup hC dX7_add_11 rfl ?_
  refine V_gi hC fl_X7_13 (by decide) rfl rfl dX7_add_12 ?_
  refine V_ic (x := 1) hC dX7_add_15 (by decide) ?_
  refine V_iadd hC dX7_add_16 ?_
  refine V_pi hC fp_X7_13 (by decide) rfl rfl dX7_add_17 ?_
  exact V_vr hC dX7_add_20 rfl
def fX7_ledBackTo_L2 (v1 : Int32) (K : Int32 → iw_M → Option (Int32 × iw_M)) : Nat → Int32 → iw_M → Option (Int32 × iw_M)
  | 0, _, _ => none
  | n + 1, v2, z => (if (z.1 43 1) ≤ v2 then
  K v2 z
  else
  (if iw_ok v2 20 then
  (if (z.1 44 (Int32.toNatClampNeg v2)) = v1 then
  some ((1 : Int32), z)
  else
  fX7_ledBackTo_L2 v1 K n (v2 + (1 : Int32)) z)
  else none))
def fX7_ledBackTo (v1 : Int32) (z : iw_M) : Option (Int32 × iw_M) :=
  fX7_ledBackTo_L2 v1 (fun x2_1 z_1 => some ((0 : Int32), z_1)) iw_fu (0 : Int32) z
abbrev bX7_ledBackTo : iw_B := (cX7_ledBackTo, 3, { frames := 0, cells := 0, slots := 0, locals := 0 }, yX7_ledBackTo.cls, (some .boolean))
set_option maxRecDepth 100000 in
set_option maxHeartbeats 4000000 in
theorem vX7_ledBackTo_L2 {G : iw_G} {X : iw_X} (hC : iw_C G iw_wX X bX7_ledBackTo) (v1 : Int32) (K : Int32 → iw_M → Option (Int32 × iw_M)) (hK : ∀ (v2 : Int32) (z : iw_M), iw_V G iw_wX X bX7_ledBackTo iw_ei 28 [(0, .ref (iw_ad G 43)), (1, .int v1), (2, .int v2)] [] z (K v2 z)) : ∀ (n : Nat) (v2 : Int32) (z : iw_M), iw_V G iw_wX X bX7_ledBackTo iw_ei 2 [(0, .ref (iw_ad G 43)), (1, .int v1), (2, .int v2)] [] z (fX7_ledBackTo_L2 v1 K n v2 z) := by
  intro n
  induction n with
  | zero =>
    intro v2 z
    exact V_none
  | succ n ih =>
    intro v2 z
    simp only [fX7_ledBackTo_L2]
    refine V_iln hC dX7_ledBackTo_2 2 rfl ?_
    refine V_aln hC dX7_ledBackTo_3 0 rfl ?_
    refine V_gi hC fl_X7_13 (by decide) rfl rfl dX7_ledBackTo_4 ?_
    refine V_cge 28 hC dX7_ledBackTo_7 (by decide) ?_ ?_
    · exact hK _ _
    · refine V_aln hC dX7_ledBackTo_10 0 rfl ?_
      refine V_gr hC fl_X7_9 (by decide) rfl rfl dX7_ledBackTo_11 ?_
      refine V_iln hC dX7_ledBackTo_14 2 rfl ?_
      refine V_ia hC (by decide) rfl dX7_ledBackTo_15 ?_
      refine V_iln hC dX7_ledBackTo_16 1 rfl ?_
      refine V_cne 22 hC dX7_ledBackTo_17 (by decide) ?_ ?_
      · refine V_inc (k := 2) (y := 1) [(2, .int _), (0, .ref _), (1, .int _)] hC dX7_ledBackTo_22 rfl (by decide) (by decide) rfl ?_
        refine V_goto 2 hC dX7_ledBackTo_25 (by decide) ?_
        refine V_sub [(0, .ref _), (1, .int _), (2, .int _)] [1, 2, 0] rfl ?_
        exact ih _ _
      · refine V_ic (x := 1) hC dX7_ledBackTo_20 (by decide) ?_
        exact V_zr hC dX7_ledBackTo_21 rfl rfl
set_option maxRecDepth 100000 in
set_option maxHeartbeats 4000000 in
theorem kX7_ledBackTo (G : iw_G) (v1 : Int32) (z : iw_M) : iw_K G iw_wX yX7_ledBackTo cX7_ledBackTo 3 (some .boolean) 0 0 iw_ei [.ref (iw_ad G 43), .int v1] z (fX7_ledBackTo v1 z) := by
  refine iw_of [(0, .ref (iw_ad G 43)), (1, .int v1)] (by decide +kernel) (Nat.le_of_ble_eq_true rfl) rfl ?_
  intro X hC
  unfold fX7_ledBackTo
  refine V_ic (x := 0) hC dX7_ledBackTo_0 (by decide) ?_
  refine V_isn [(2, .int _), (0, .ref _), (1, .int _)] hC dX7_ledBackTo_1 (by decide) rfl ?_
  refine V_sub [(0, .ref _), (1, .int _), (2, .int _)] [1, 2, 0] rfl ?_
  refine vX7_ledBackTo_L2 hC _ _ ?_ _ _ _
  intro x2_1 z_1
  refine V_ic (x := 0) hC dX7_ledBackTo_28 (by decide) ?_
  exact V_zr hC dX7_ledBackTo_29 rfl rfl
def fX8_isShop (v0 : Int32) (z : iw_M) : Option (Int32 × iw_M) :=
  (if v0 < 0 then
  some ((0 : Int32), z)
  else
  (if (8 : Int32) ≤ v0 then
  some ((0 : Int32), z)
  else
  some ((1 : Int32), z)))
abbrev bX8_isShop : iw_B := (cX8_isShop, 1, { frames := 0, cells := 0, slots := 0, locals := 0 }, yX8_isShop.cls, (some .boolean))
set_option maxRecDepth 100000 in
set_option maxHeartbeats 4000000 in
theorem kX8_isShop (G : iw_G) (v0 : Int32) (z : iw_M) : iw_K G iw_wX yX8_isShop cX8_isShop 1 (some .boolean) 0 0 iw_ei [.int v0] z (fX8_isShop v0 z) := by
  refine iw_of [(0, .int v0)] (by decide +kernel) (Nat.le_of_ble_eq_true rfl) rfl ?_
  intro X hC
  unfold fX8_isShop
  refine V_iln hC dX8_isShop_0 0 rfl ?_
  refine V_ilt 14 hC dX8_isShop_1 (by decide) ?_ ?_
  · refine V_ic (x := 0) hC dX8_isShop_14 (by decide) ?_
    exact V_zr hC dX8_isShop_15 rfl rfl
  · refine V_iln hC dX8_isShop_4 0 rfl ?_
    refine V_bip (x := 8) hC dX8_isShop_5 (by decide) ?_
    refine V_cge 14 hC dX8_isShop_7 (by decide) ?_ ?_
    · refine V_ic (x := 0) hC dX8_isShop_14 (by decide) ?_
      exact V_zr hC dX8_isShop_15 rfl rfl
    · refine V_ic (x := 1) hC dX8_isShop_10 (by decide) ?_
      refine V_goto 15 hC dX8_isShop_11 (by decide) ?_
      exact V_zr hC dX8_isShop_15 rfl rfl
def fX8_refuse (v1 : Int32) (z : iw_M) : Option (Int32 × iw_M) :=
  (if (-v1) < 0 then
  some (v1, z)
  else
  (if (7 : Int32) ≤ (-v1) then
  some (v1, z)
  else
  (if iw_ok (-v1) 7 then
  (if iw_ok (-v1) 7 then
  some (v1, (iw_wI z 46 (Int32.toNatClampNeg (-v1)) ((z.1 46 (Int32.toNatClampNeg (-v1))) + (1 : Int32))))
  else none)
  else none)))
abbrev bX8_refuse : iw_B := (cX8_refuse, 3, { frames := 0, cells := 0, slots := 0, locals := 0 }, yX8_refuse.cls, (some .int))
set_option maxRecDepth 100000 in
set_option maxHeartbeats 4000000 in
theorem kX8_refuse (G : iw_G) (v1 : Int32) (z : iw_M) : iw_K G iw_wX yX8_refuse cX8_refuse 3 (some .int) 0 0 iw_ei [.ref (iw_ad G 0), .int v1] z (fX8_refuse v1 z) := by
  refine iw_of [(0, .ref (iw_ad G 0)), (1, .int v1)] (by decide +kernel) (Nat.le_of_ble_eq_true rfl) rfl ?_
  intro X hC
  unfold fX8_refuse
  refine V_iln hC dX8_refuse_0 1 rfl ?_
  refine V_ineg hC dX8_refuse_1 ?_
  refine V_isn [(2, .int _), (0, .ref _), (1, .int _)] hC dX8_refuse_2 (by decide) rfl ?_
  refine V_iln hC dX8_refuse_3 0 rfl ?_
  refine V_ilt 26 hC dX8_refuse_4 (by decide) ?_ ?_
  · refine V_iln hC dX8_refuse_26 2 rfl ?_
    exact V_ir hC dX8_refuse_27 rfl
  · refine V_iln hC dX8_refuse_7 0 rfl ?_
    refine V_aln hC dX8_refuse_8 1 rfl ?_
    refine V_gr hC fl_X8_55 (by decide) rfl rfl dX8_refuse_9 ?_
    refine V_len (x := 7) hC (by decide) rfl (by decide) dX8_refuse_12 ?_
    refine V_cge 26 hC dX8_refuse_13 (by decide) ?_ ?_
    · refine V_iln hC dX8_refuse_26 2 rfl ?_
      exact V_ir hC dX8_refuse_27 rfl
    · refine V_aln hC dX8_refuse_16 1 rfl ?_
      refine V_gr hC fl_X8_55 (by decide) rfl rfl dX8_refuse_17 ?_
      refine V_iln hC dX8_refuse_20 0 rfl ?_
      refine V_dup2 hC dX8_refuse_21 rfl rfl ?_
      refine V_ia hC (by decide) rfl dX8_refuse_22 ?_
      refine V_ic (x := 1) hC dX8_refuse_23 (by decide) ?_
      refine V_iadd hC dX8_refuse_24 ?_
      refine V_is_ hC (by decide) rfl dX8_refuse_25 ?_
      refine V_iln hC dX8_refuse_26 2 rfl ?_
      exact V_ir hC dX8_refuse_27 rfl
def fX8_hand (v1 : Int32) (z : iw_M) : Option (Int32 × iw_M) :=
  ((fX8_isShop v1 z).bind (fun q1 =>
  (if q1.1 = 0 then
  ((fX8_refuse (-1 : Int32) q1.2).bind (fun q4 =>
  some (q4.1, q4.2)))
  else
  (if (q1.2.1 1 6) < (40 : Int32) then
  ((fX2_add v1 q1.2).bind (fun q2 =>
  some (q2.1, q2.2)))
  else
  ((fX8_refuse (-6 : Int32) q1.2).bind (fun q3 =>
  some (q3.1, q3.2)))))))
abbrev bX8_hand : iw_B := (cX8_hand, 2, { frames := 1, cells := 0, slots := 0, locals := 22 }, yX8_hand.cls, (some .int))
set_option maxRecDepth 100000 in
set_option maxHeartbeats 4000000 in
theorem kX8_hand (G : iw_G) (v1 : Int32) (z : iw_M) : iw_K G iw_wX yX8_hand cX8_hand 2 (some .int) 1 22 iw_ei [.ref (iw_ad G 0), .int v1] z (fX8_hand v1 z) := by
  refine iw_of [(0, .ref (iw_ad G 0)), (1, .int v1)] (by decide +kernel) (Nat.le_of_ble_eq_true rfl) rfl ?_
  intro X hC
  unfold fX8_hand
  refine V_iln hC dX8_hand_0 1 rfl ?_
  refine V_csi [] hC cs_X8_81 (kX8_isShop G _ _) rfl rfl (Nat.le_of_ble_eq_true rfl) ⟨by decide, by decide⟩ dX8_hand_1 ?_
  intro q1
  refine V_ine 13 hC dX8_hand_4 (by decide) ?_ ?_
  · refine V_aln hC dX8_hand_13 0 rfl ?_
    refine V_gr hC fl_X8_10 (by decide) rfl rfl dX8_hand_14 ?_
    refine V_gi hC fl_X8_89 (by decide) rfl rfl dX8_hand_17 ?_
    refine V_bip (x := 40) hC dX8_hand_20 (by decide) ?_
    refine V_clt 32 hC dX8_hand_22 (by decide) ?_ ?_
    · refine V_aln hC dX8_hand_32 0 rfl ?_
      refine V_gr hC fl_X8_10 (by decide) rfl rfl dX8_hand_33 ?_
      refine V_iln hC dX8_hand_36 1 rfl ?_
      refine V_cvi [] hC cv_X8_92 (by decide) rfl rfl (kX2_add G _ _) rfl rfl (Nat.le_of_ble_eq_true rfl) ⟨by decide, by decide⟩ dX8_hand_37 ?_
      intro q2
      exact V_ir hC dX8_hand_40 rfl
    · refine V_aln hC dX8_hand_25 0 rfl ?_
      refine V_bip (x := -6) hC dX8_hand_26 (by decide) ?_
      refine V_cvi [] hC cv_X8_85 (by decide) rfl rfl (kX8_refuse G _ _) rfl rfl (Nat.le_of_ble_eq_true rfl) ⟨by decide, by decide⟩ dX8_hand_28 ?_
      intro q3
      exact V_ir hC dX8_hand_31 rfl
  · refine V_aln hC dX8_hand_7 0 rfl ?_
    refine V_ic (x := -1) hC dX8_hand_8 (by decide) ?_
    refine V_cvi [] hC cv_X8_85 (by decide) rfl rfl (kX8_refuse G _ _) rfl rfl (Nat.le_of_ble_eq_true rfl) ⟨by decide, by decide⟩ dX8_hand_9 ?_
    intro q4
    exact V_ir hC dX8_hand_12 rfl
def fX8_isHand (v1 : Int32) (z : iw_M) : Option (Int32 × iw_M) :=
  (if v1 < 0 then
  some ((0 : Int32), z)
  else
  (if (z.1 1 6) ≤ v1 then
  some ((0 : Int32), z)
  else
  some ((1 : Int32), z)))
abbrev bX8_isHand : iw_B := (cX8_isHand, 2, { frames := 0, cells := 0, slots := 0, locals := 0 }, yX8_isHand.cls, (some .boolean))
set_option maxRecDepth 100000 in
set_option maxHeartbeats 4000000 in
theorem kX8_isHand (G : iw_G) (v1 : Int32) (z : iw_M) : iw_K G iw_wX yX8_isHand cX8_isHand 2 (some .boolean) 0 0 iw_ei [.ref (iw_ad G 0), .int v1] z (fX8_isHand v1 z) := by
  refine iw_of [(0, .ref (iw_ad G 0)), (1, .int v1)] (by decide +kernel) (Nat.le_of_ble_eq_true rfl) rfl ?_
  intro X hC
  unfold fX8_isHand
  refine V_iln hC dX8_isHand_0 1 rfl ?_
  refine V_ilt 19 hC dX8_isHand_1 (by decide) ?_ ?_
  · refine V_ic (x := 0) hC dX8_isHand_19 (by decide) ?_
    exact V_zr hC dX8_isHand_20 rfl rfl
  · refine V_iln hC dX8_isHand_4 1 rfl ?_
    refine V_aln hC dX8_isHand_5 0 rfl ?_
    refine V_gr hC fl_X8_10 (by decide) rfl rfl dX8_isHand_6 ?_
    refine V_gi hC fl_X8_89 (by decide) rfl rfl dX8_isHand_9 ?_
    refine V_cge 19 hC dX8_isHand_12 (by decide) ?_ ?_
    · refine V_ic (x := 0) hC dX8_isHand_19 (by decide) ?_
      exact V_zr hC dX8_isHand_20 rfl rfl
    · refine V_ic (x := 1) hC dX8_isHand_15 (by decide) ?_
      refine V_goto 20 hC dX8_isHand_16 (by decide) ?_
      exact V_zr hC dX8_isHand_20 rfl rfl
def fX8_kin (v1 : Int32) (v2 : Int32) (v3 : Int32) (z : iw_M) : Option (Int32 × iw_M) :=
  ((fX8_isHand v1 z).bind (fun q1 =>
  (if q1.1 = 0 then
  ((fX8_refuse (-1 : Int32) q1.2).bind (fun q2 =>
  some (q2.1, q2.2)))
  else
  ((fX8_isHand v2 q1.2).bind (fun q3 =>
  (if q3.1 = 0 then
  ((fX8_refuse (-1 : Int32) q3.2).bind (fun q4 =>
  some (q4.1, q4.2)))
  else
  (if v1 = v2 then
  ((fX8_refuse (-1 : Int32) q3.2).bind (fun q6 =>
  some (q6.1, q6.2)))
  else
  ((fX2_setKin v1 v2 v3 q3.2).bind (fun q5 =>
  (if q5.1 = 0 then
  some ((0 : Int32), q5.2)
  else
  some ((1 : Int32), q5.2)))))))))))
abbrev bX8_kin : iw_B := (cX8_kin, 4, { frames := 2, cells := 0, slots := 0, locals := 45 }, yX8_kin.cls, (some .int))
set_option maxRecDepth 100000 in
set_option maxHeartbeats 4000000 in
theorem kX8_kin (G : iw_G) (v1 : Int32) (v2 : Int32) (v3 : Int32) (z : iw_M) : iw_K G iw_wX yX8_kin cX8_kin 4 (some .int) 2 45 iw_ei [.ref (iw_ad G 0), .int v1, .int v2, .int v3] z (fX8_kin v1 v2 v3 z) := by
  refine iw_of [(0, .ref (iw_ad G 0)), (1, .int v1), (2, .int v2), (3, .int v3)] (by decide +kernel) (Nat.le_of_ble_eq_true rfl) rfl ?_
  intro X hC
  unfold fX8_kin
  refine V_aln hC dX8_kin_0 0 rfl ?_
  refine V_iln hC dX8_kin_1 1 rfl ?_
  refine V_cvi [] hC cv_X8_95 (by decide) rfl rfl (kX8_isHand G _ _) rfl rfl (Nat.le_of_ble_eq_true rfl) ⟨by decide, by decide⟩ dX8_kin_2 ?_
  intro q1
  refine V_ieq 21 hC dX8_kin_5 (by decide) ?_ ?_
  · refine V_aln hC dX8_kin_21 0 rfl ?_
    refine V_ic (x := -1) hC dX8_kin_22 (by decide) ?_
    refine V_cvi [] hC cv_X8_85 (by decide) rfl rfl (kX8_refuse G _ _) rfl rfl (Nat.le_of_ble_eq_true rfl) ⟨by decide, by decide⟩ dX8_kin_23 ?_
    intro q2
    exact V_ir hC dX8_kin_26 rfl
  · refine V_aln hC dX8_kin_8 0 rfl ?_
    refine V_iln hC dX8_kin_9 2 rfl ?_
    refine V_cvi [] hC cv_X8_95 (by decide) rfl rfl (kX8_isHand G _ _) rfl rfl (Nat.le_of_ble_eq_true rfl) ⟨by decide, by decide⟩ dX8_kin_10 ?_
    intro q3
    refine V_ieq 21 hC dX8_kin_13 (by decide) ?_ ?_
    · refine V_aln hC dX8_kin_21 0 rfl ?_
      refine V_ic (x := -1) hC dX8_kin_22 (by decide) ?_
      refine V_cvi [] hC cv_X8_85 (by decide) rfl rfl (kX8_refuse G _ _) rfl rfl (Nat.le_of_ble_eq_true rfl) ⟨by decide, by decide⟩ dX8_kin_23 ?_
      intro q4
      exact V_ir hC dX8_kin_26 rfl
    · refine V_iln hC dX8_kin_16 1 rfl ?_
      refine V_iln hC dX8_kin_17 2 rfl ?_
      refine V_cne 27 hC dX8_kin_18 (by decide) ?_ ?_
      · refine V_aln hC dX8_kin_27 0 rfl ?_
        refine V_gr hC fl_X8_10 (by decide) rfl rfl dX8_kin_28 ?_
        refine V_iln hC dX8_kin_31 1 rfl ?_
        refine V_iln hC dX8_kin_32 2 rfl ?_
        refine V_iln hC dX8_kin_33 3 rfl ?_
        refine V_cvi [] hC cv_X8_98 (by decide) rfl rfl (kX2_setKin G _ _ _ _) rfl rfl (Nat.le_of_ble_eq_true rfl) ⟨by decide, by decide⟩ dX8_kin_34 ?_
        intro q5
        refine V_ieq 44 hC dX8_kin_37 (by decide) ?_ ?_
        · refine V_ic (x := 0) hC dX8_kin_44 (by decide) ?_
          exact V_ir hC dX8_kin_45 rfl
        · refine V_ic (x := 1) hC dX8_kin_40 (by decide) ?_
          refine V_goto 45 hC dX8_kin_41 (by decide) ?_
          exact V_ir hC dX8_kin_45 rfl
      · refine V_aln hC dX8_kin_21 0 rfl ?_
        refine V_ic (x := -1) hC dX8_kin_22 (by decide) ?_
        refine V_cvi [] hC cv_X8_85 (by decide) rfl rfl (kX8_refuse G _ _) rfl rfl (Nat.le_of_ble_eq_true rfl) ⟨by decide, by decide⟩ dX8_kin_23 ?_
        intro q6
        exact V_ir hC dX8_kin_26 rfl
def fX8_areMarks (v0 : Int32) (z : iw_M) : Option (Int32 × iw_M) :=
  (if v0 ≤ 0 then
  some ((0 : Int32), z)
  else
  (if (65535 : Int32) < v0 then
  some ((0 : Int32), z)
  else
  some ((1 : Int32), z)))
abbrev bX8_areMarks : iw_B := (cX8_areMarks, 1, { frames := 0, cells := 0, slots := 0, locals := 0 }, yX8_areMarks.cls, (some .boolean))
set_option maxRecDepth 100000 in
set_option maxHeartbeats 4000000 in
theorem kX8_areMarks (G : iw_G) (v0 : Int32) (z : iw_M) : iw_K G iw_wX yX8_areMarks cX8_areMarks 1 (some .boolean) 0 0 iw_ei [.int v0] z (fX8_areMarks v0 z) := by
  refine iw_of [(0, .int v0)] (by decide +kernel) (Nat.le_of_ble_eq_true rfl) rfl ?_
  intro X hC
  unfold fX8_areMarks
  refine V_iln hC dX8_areMarks_0 0 rfl ?_
  refine V_ile 15 hC dX8_areMarks_1 (by decide) ?_ ?_
  · refine V_ic (x := 0) hC dX8_areMarks_15 (by decide) ?_
    exact V_zr hC dX8_areMarks_16 rfl rfl
  · refine V_iln hC dX8_areMarks_4 0 rfl ?_
    refine V_ldcw hC dX8_areMarks_5 kc_X8_274 ?_
    refine V_cgt 15 hC dX8_areMarks_8 (by decide) ?_ ?_
    · refine V_ic (x := 0) hC dX8_areMarks_15 (by decide) ?_
      exact V_zr hC dX8_areMarks_16 rfl rfl
    · refine V_ic (x := 1) hC dX8_areMarks_11 (by decide) ?_
      refine V_goto 16 hC dX8_areMarks_12 (by decide) ?_
      exact V_zr hC dX8_areMarks_16 rfl rfl
def fX8_idea (v1 : Int32) (v2 : Int32) (v3 : Int32) (v4 : Int32) (z : iw_M) : Option (Int32 × iw_M) :=
  ((fX8_isHand v1 z).bind (fun q1 =>
  (if q1.1 = 0 then
  ((fX8_refuse (-1 : Int32) q1.2).bind (fun q2 =>
  some (q2.1, q2.2)))
  else
  ((fX8_isShop v2 q1.2).bind (fun q3 =>
  (if q3.1 = 0 then
  ((fX8_refuse (-1 : Int32) q3.2).bind (fun q4 =>
  some (q4.1, q4.2)))
  else
  ((fX8_areMarks v3 q3.2).bind (fun q5 =>
  (if q5.1 = 0 then
  ((fX8_refuse (-1 : Int32) q5.2).bind (fun q11 =>
  some (q11.1, q11.2)))
  else
  (if 0 ≤ v4 then
  (if (9 : Int32) < v4 then
  ((fX8_refuse (-6 : Int32) q5.2).bind (fun q6 =>
  some (q6.1, q6.2)))
  else
  (if (q5.2.1 8 10) < (40 : Int32) then
  ((fX3_add v1 v2 v3 v4 (q5.2.1 0 11) q5.2).bind (fun q7 =>
  (if iw_ok (0 : Int32) 4 then
  ((fX1_enrol 19 q7.1 (q7.2.1 45 (Int32.toNatClampNeg (0 : Int32))) q7.2).bind (fun q8 =>
  some (q7.1, q8.2)))
  else none)))
  else
  ((fX8_refuse (-6 : Int32) q5.2).bind (fun q9 =>
  some (q9.1, q9.2)))))
  else
  ((fX8_refuse (-4 : Int32) q5.2).bind (fun q10 =>
  some (q10.1, q10.2)))))))))))))
abbrev bX8_idea : iw_B := (cX8_idea, 6, { frames := 4, cells := 0, slots := 0, locals := 87 }, yX8_idea.cls, (some .int))
set_option maxRecDepth 100000 in
set_option maxHeartbeats 4000000 in
theorem kX8_idea (G : iw_G) (v1 : Int32) (v2 : Int32) (v3 : Int32) (v4 : Int32) (z : iw_M) : iw_K G iw_wX yX8_idea cX8_idea 6 (some .int) 4 87 iw_ei [.ref (iw_ad G 0), .int v1, .int v2, .int v3, .int v4] z (fX8_idea v1 v2 v3 v4 z) := by
  refine iw_of [(0, .ref (iw_ad G 0)), (1, .int v1), (2, .int v2), (3, .int v3), (4, .int v4)] (by decide +kernel) (Nat.le_of_ble_eq_true rfl) rfl ?_
  intro X hC
  unfold fX8_idea
  refine V_aln hC dX8_idea_0 0 rfl ?_
  refine V_iln hC dX8_idea_1 1 rfl ?_
  refine V_cvi [] hC cv_X8_95 (by decide) rfl rfl (kX8_isHand G _ _) rfl rfl (Nat.le_of_ble_eq_true rfl) ⟨by decide, by decide⟩ dX8_idea_2 ?_
  intro q1
  refine V_ieq 22 hC dX8_idea_5 (by decide) ?_ ?_
  · refine V_aln hC dX8_idea_22 0 rfl ?_
    refine V_ic (x := -1) hC dX8_idea_23 (by decide) ?_
    refine V_cvi [] hC cv_X8_85 (by decide) rfl rfl (kX8_refuse G _ _) rfl rfl (Nat.le_of_ble_eq_true rfl) ⟨by decide, by decide⟩ dX8_idea_24 ?_
    intro q2
    exact V_ir hC dX8_idea_27 rfl
  · refine V_iln hC dX8_idea_8 2 rfl ?_
    refine V_csi [] hC cs_X8_81 (kX8_isShop G _ _) rfl rfl (Nat.le_of_ble_eq_true rfl) ⟨by decide, by decide⟩ dX8_idea_9 ?_
    intro q3
    refine V_ieq 22 hC dX8_idea_12 (by decide) ?_ ?_
    · refine V_aln hC dX8_idea_22 0 rfl ?_
      refine V_ic (x := -1) hC dX8_idea_23 (by decide) ?_
      refine V_cvi [] hC cv_X8_85 (by decide) rfl rfl (kX8_refuse G _ _) rfl rfl (Nat.le_of_ble_eq_true rfl) ⟨by decide, by decide⟩ dX8_idea_24 ?_
      intro q4
      exact V_ir hC dX8_idea_27 rfl
    · refine V_iln hC dX8_idea_15 3 rfl ?_
      refine V_csi [] hC cs_X8_102 (kX8_areMarks G _ _) rfl rfl (Nat.le_of_ble_eq_true rfl) ⟨by decide, by decide⟩ dX8_idea_16 ?_
      intro q5
      refine V_ine 28 hC dX8_idea_19 (by decide) ?_ ?_
      · refine V_il hC dX8_idea_28 4 rfl ?_
        refine V_ige 40 hC dX8_idea_30 (by decide) ?_ ?_
        · refine V_il hC dX8_idea_40 4 rfl ?_
          refine V_bip (x := 9) hC dX8_idea_42 (by decide) ?_
          refine V_cgt 59 hC dX8_idea_44 (by decide) ?_ ?_
          · refine V_aln hC dX8_idea_59 0 rfl ?_
            refine V_bip (x := -6) hC dX8_idea_60 (by decide) ?_
            refine V_cvi [] hC cv_X8_85 (by decide) rfl rfl (kX8_refuse G _ _) rfl rfl (Nat.le_of_ble_eq_true rfl) ⟨by decide, by decide⟩ dX8_idea_62 ?_
            intro q6
            exact V_ir hC dX8_idea_65 rfl
          · refine V_aln hC dX8_idea_47 0 rfl ?_
            refine V_gr hC fl_X8_65 (by decide) rfl rfl dX8_idea_48 ?_
            refine V_gi hC fl_X8_105 (by decide) rfl rfl dX8_idea_51 ?_
            refine V_bip (x := 40) hC dX8_idea_54 (by decide) ?_
            refine V_clt 66 hC dX8_idea_56 (by decide) ?_ ?_
            · refine V_aln hC dX8_idea_66 0 rfl ?_
              refine V_gr hC fl_X8_65 (by decide) rfl rfl dX8_idea_67 ?_
              refine V_iln hC dX8_idea_70 1 rfl ?_
              refine V_iln hC dX8_idea_71 2 rfl ?_
              refine V_iln hC dX8_idea_72 3 rfl ?_
              refine V_il hC dX8_idea_73 4 rfl ?_
              refine V_aln hC dX8_idea_75 0 rfl ?_
              refine V_gi hC fl_X8_58 (by decide) rfl rfl dX8_idea_76 ?_
              refine V_cvi [] hC cv_X8_106 (by decide) rfl rfl (kX3_add G _ _ _ _ _ _) rfl rfl (Nat.le_of_ble_eq_true rfl) ⟨by decide, by decide⟩ dX8_idea_79 ?_
              intro q7
              refine V_is [(5, .int _), (0, .ref _), (1, .int _), (2, .int _), (3, .int _), (4, .int _)] hC dX8_idea_82 (by decide) rfl ?_
              refine V_aln hC dX8_idea_84 1 rfl ?_
              refine V_gr hC fl_X8_74 (by decide) rfl rfl dX8_idea_85 ?_
              refine V_il hC dX8_idea_88 0 rfl ?_
              refine V_aln hC dX8_idea_90 1 rfl ?_
              refine V_gr hC fl_X8_51 (by decide) rfl rfl dX8_idea_91 ?_
              refine V_ic (x := 0) hC dX8_idea_94 (by decide) ?_
              refine V_ia hC (by decide) rfl dX8_idea_95 ?_
              refine V_cvv [] hC cv_X8_109 (by decide) rfl rfl (kX1_enrol G 19 iw_F19 _ _ _) rfl rfl (Nat.le_of_ble_eq_true rfl) ⟨by decide, by decide⟩ dX8_idea_96 ?_
              intro q8
              refine V_il hC dX8_idea_99 0 rfl ?_
              exact V_ir hC dX8_idea_101 rfl
            · refine V_aln hC dX8_idea_59 0 rfl ?_
              refine V_bip (x := -6) hC dX8_idea_60 (by decide) ?_
              refine V_cvi [] hC cv_X8_85 (by decide) rfl rfl (kX8_refuse G _ _) rfl rfl (Nat.le_of_ble_eq_true rfl) ⟨by decide, by decide⟩ dX8_idea_62 ?_
              intro q9
              exact V_ir hC dX8_idea_65 rfl
        · refine V_aln hC dX8_idea_33 0 rfl ?_
          refine V_bip (x := -4) hC dX8_idea_34 (by decide) ?_
          refine V_cvi [] hC cv_X8_85 (by decide) rfl rfl (kX8_refuse G _ _) rfl rfl (Nat.le_of_ble_eq_true rfl) ⟨by decide, by decide⟩ dX8_idea_36 ?_
          intro q10
          exact V_ir hC dX8_idea_39 rfl
      · refine V_aln hC dX8_idea_22 0 rfl ?_
        refine V_ic (x := -1) hC dX8_idea_23 (by decide) ?_
        refine V_cvi [] hC cv_X8_85 (by decide) rfl rfl (kX8_refuse G _ _) rfl rfl (Nat.le_of_ble_eq_true rfl) ⟨by decide, by decide⟩ dX8_idea_24 ?_
        intro q11
        exact V_ir hC dX8_idea_27 rfl
