def fJ6_bitCount_0f7a4 (v0 : Int32) (z : iw_M) : Option (Int32 × iw_M) :=
  some (((((((((v0 - (((Int32.toUInt32 v0 >>> (Int32.toUInt32 (1 : Int32) &&& Int32.toUInt32 31)).toInt32) &&& (1431655765 : Int32))) &&& (858993459 : Int32)) + (((Int32.toUInt32 (v0 - (((Int32.toUInt32 v0 >>> (Int32.toUInt32 (1 : Int32) &&& Int32.toUInt32 31)).toInt32) &&& (1431655765 : Int32))) >>> (Int32.toUInt32 (2 : Int32) &&& Int32.toUInt32 31)).toInt32) &&& (858993459 : Int32))) + ((Int32.toUInt32 (((v0 - (((Int32.toUInt32 v0 >>> (Int32.toUInt32 (1 : Int32) &&& Int32.toUInt32 31)).toInt32) &&& (1431655765 : Int32))) &&& (858993459 : Int32)) + (((Int32.toUInt32 (v0 - (((Int32.toUInt32 v0 >>> (Int32.toUInt32 (1 : Int32) &&& Int32.toUInt32 31)).toInt32) &&& (1431655765 : Int32))) >>> (Int32.toUInt32 (2 : Int32) &&& Int32.toUInt32 31)).toInt32) &&& (858993459 : Int32))) >>> (Int32.toUInt32 (4 : Int32) &&& Int32.toUInt32 31)).toInt32)) &&& (252645135 : Int32)) + ((Int32.toUInt32 (((((v0 - (((Int32.toUInt32 v0 >>> (Int32.toUInt32 (1 : Int32) &&& Int32.toUInt32 31)).toInt32) &&& (1431655765 : Int32))) &&& (858993459 : Int32)) + (((Int32.toUInt32 (v0 - (((Int32.toUInt32 v0 >>> (Int32.toUInt32 (1 : Int32) &&& Int32.toUInt32 31)).toInt32) &&& (1431655765 : Int32))) >>> (Int32.toUInt32 (2 : Int32) &&& Int32.toUInt32 31)).toInt32) &&& (858993459 : Int32))) + ((Int32.toUInt32 (((v0 - (((Int32.toUInt32 v0 >>> (Int32.toUInt32 (1 : Int32) &&& Int32.toUInt32 31)).toInt32) &&& (1431655765 : Int32))) &&& (858993459 : Int32)) + (((Int32.toUInt32 (v0 - (((Int32.toUInt32 v0 >>> (Int32.toUInt32 (1 : Int32) &&& Int32.toUInt32 31)).toInt32) &&& (1431655765 : Int32))) >>> (Int32.toUInt32 (2 : Int32) &&& Int32.toUInt32 31)).toInt32) &&& (858993459 : Int32))) >>> (Int32.toUInt32 (4 : Int32) &&& Int32.toUInt32 31)).toInt32)) &&& (252645135 : Int32)) >>> (Int32.toUInt32 (8 : Int32) &&& Int32.toUInt32 31)).toInt32)) + ((Int32.toUInt32 ((((((v0 - (((Int32.toUInt32 v0 >>> (Int32.toUInt32 (1 : Int32) &&& Int32.toUInt32 31)).toInt32) &&& (1431655765 : Int32))) &&& (858993459 : Int32)) + (((Int32.toUInt32 (v0 - (((Int32.toUInt32 v0 >>> (Int32.toUInt32 (1 : Int32) &&& Int32.toUInt32 31)).toInt32) &&& (1431655765 : Int32))) >>> (Int32.toUInt32 (2 : Int32) &&& Int32.toUInt32 31)).toInt32) &&& (858993459 : Int32))) + ((Int32.toUInt32 (((v0 - (((Int32.toUInt32 v0 >>> (Int32.toUInt32 (1 : Int32) &&& Int32.toUInt32 31)).toInt32) &&& (1431655765 : Int32))) &&& (858993459 : Int32)) + (((Int32.toUInt32 (v0 - (((Int32.toUInt32 v0 >>> (Int32.toUInt32 (1 : Int32) &&& Int32.toUInt32 31)).toInt32) &&& (1431655765 : Int32))) >>> (Int32.toUInt32 (2 : Int32) &&& Int32.toUInt32 31)).toInt32) &&& (858993459 : Int32))) >>> (Int32.toUInt32 (4 : Int32) &&& Int32.toUInt32 31)).toInt32)) &&& (252645135 : Int32)) + ((Int32.toUInt32 (((((v0 - (((Int32.toUInt32 v0 >>> (Int32.toUInt32 (1 : Int32) &&& Int32.toUInt32 31)).toInt32) &&& (1431655765 : Int32))) &&& (858993459 : Int32)) + (((Int32.toUInt32 (v0 - (((Int32.toUInt32 v0 >>> (Int32.toUInt32 (1 : Int32) &&& Int32.toUInt32 31)).toInt32) &&& (1431655765 : Int32))) >>> (Int32.toUInt32 (2 : Int32) &&& Int32.toUInt32 31)).toInt32) &&& (858993459 : Int32))) + ((Int32.toUInt32 (((v0 - (((Int32.toUInt32 v0 >>> (Int32.toUInt32 (1 : Int32) &&& Int32.toUInt32 31)).toInt32) &&& (1431655765 : Int32))) &&& (858993459 : Int32)) + (((Int32.toUInt32 (v0 - (((Int32.toUInt32 v0 >>> (Int32.toUInt32 (1 : Int32) &&& Int32.toUInt32 31)).toInt32) &&& (1431655765 : Int32))) >>> (Int32.toUInt32 (2 : Int32) &&& Int32.toUInt32 31)).toInt32) &&& (858993459 : Int32))) >>> (Int32.toUInt32 (4 : Int32) &&& Int32.toUInt32 31)).toInt32)) &&& (252645135 : Int32)) >>> (Int32.toUInt32 (8 : Int32) &&& Int32.toUInt32 31)).toInt32)) >>> (Int32.toUInt32 (16 : Int32) &&& Int32.toUInt32 31)).toInt32)) &&& (63 : Int32)), z)
abbrev bJ6_bitCount_0f7a4 : iw_B := (cJ6_bitCount_0f7a4, 1, { frames := 0, cells := 0, slots := 0, locals := 0 }, yJ6_bitCount_0f7a4.cls, (some .int))
set_option maxRecDepth 100000 in
set_option maxHeartbeats 4000000 in
theorem kJ6_bitCount_0f7a4 (G : iw_G) (v0 : Int32) (z : iw_M) : iw_K G iw_wX yJ6_bitCount_0f7a4 cJ6_bitCount_0f7a4 1 (some .int) 0 0 iw_ei [.int v0] z (fJ6_bitCount_0f7a4 v0 z) := by
  refine iw_of [(0, .int v0)] (by decide +kernel) (Nat.le_of_ble_eq_true rfl) rfl ?_
  intro X hC
  unfold fJ6_bitCount_0f7a4
  refine V_iln hC dJ6_bitCount_0f7a4_0 0 rfl ?_
  refine V_iln hC dJ6_bitCount_0f7a4_1 0 rfl ?_
  refine V_ic (x := 1) hC dJ6_bitCount_0f7a4_2 (by decide) ?_
  refine V_iushr hC dJ6_bitCount_0f7a4_3 ?_
  refine V_ldcw hC dJ6_bitCount_0f7a4_4 kc_J6_265 ?_
  refine V_iand hC dJ6_bitCount_0f7a4_7 ?_
  refine V_isub hC dJ6_bitCount_0f7a4_8 ?_
  refine V_isn [(0, .int _)] hC dJ6_bitCount_0f7a4_9 (by decide) rfl ?_
  refine V_iln hC dJ6_bitCount_0f7a4_10 0 rfl ?_
  refine V_ldcw hC dJ6_bitCount_0f7a4_11 kc_J6_266 ?_
  refine V_iand hC dJ6_bitCount_0f7a4_14 ?_
  refine V_iln hC dJ6_bitCount_0f7a4_15 0 rfl ?_
  refine V_ic (x := 2) hC dJ6_bitCount_0f7a4_16 (by decide) ?_
  refine V_iushr hC dJ6_bitCount_0f7a4_17 ?_
  refine V_ldcw hC dJ6_bitCount_0f7a4_18 kc_J6_266 ?_
  refine V_iand hC dJ6_bitCount_0f7a4_21 ?_
  refine V_iadd hC dJ6_bitCount_0f7a4_22 ?_
  refine V_isn [(0, .int _)] hC dJ6_bitCount_0f7a4_23 (by decide) rfl ?_
  refine V_iln hC dJ6_bitCount_0f7a4_24 0 rfl ?_
  refine V_iln hC dJ6_bitCount_0f7a4_25 0 rfl ?_
  refine V_ic (x := 4) hC dJ6_bitCount_0f7a4_26 (by decide) ?_
  refine V_iushr hC dJ6_bitCount_0f7a4_27 ?_
  refine V_iadd hC dJ6_bitCount_0f7a4_28 ?_
  refine V_ldcw hC dJ6_bitCount_0f7a4_29 kc_J6_267 ?_
  refine V_iand hC dJ6_bitCount_0f7a4_32 ?_
  refine V_isn [(0, .int _)] hC dJ6_bitCount_0f7a4_33 (by decide) rfl ?_
  refine V_iln hC dJ6_bitCount_0f7a4_34 0 rfl ?_
  refine V_iln hC dJ6_bitCount_0f7a4_35 0 rfl ?_
  refine V_bip (x := 8) hC dJ6_bitCount_0f7a4_36 (by decide) ?_
  refine V_iushr hC dJ6_bitCount_0f7a4_38 ?_
  refine V_iadd hC dJ6_bitCount_0f7a4_39 ?_
  refine V_isn [(0, .int _)] hC dJ6_bitCount_0f7a4_40 (by decide) rfl ?_
  refine V_iln hC dJ6_bitCount_0f7a4_41 0 rfl ?_
  refine V_iln hC dJ6_bitCount_0f7a4_42 0 rfl ?_
  refine V_bip (x := 16) hC dJ6_bitCount_0f7a4_43 (by decide) ?_
  refine V_iushr hC dJ6_bitCount_0f7a4_45 ?_
  refine V_iadd hC dJ6_bitCount_0f7a4_46 ?_
  refine V_isn [(0, .int _)] hC dJ6_bitCount_0f7a4_47 (by decide) rfl ?_
  refine V_iln hC dJ6_bitCount_0f7a4_48 0 rfl ?_
  refine V_bip (x := 63) hC dJ6_bitCount_0f7a4_49 (by decide) ?_
  refine V_iand hC dJ6_bitCount_0f7a4_51 ?_
  exact V_ir hC dJ6_bitCount_0f7a4_52 rfl
def fX8_likeness (v0 : Int32) (v1 : Int32) (z : iw_M) : Option (Int32 × iw_M) :=
  ((fJ6_bitCount_0f7a4 (v0 &&& v1) z).bind (fun q1 =>
  ((fJ6_bitCount_0f7a4 (v0 ^^^ v1) q1.2).bind (fun q2 =>
  some ((((3 : Int32) * q1.1) - q2.1), q2.2)))))
abbrev bX8_likeness : iw_B := (cX8_likeness, 2, { frames := 1, cells := 0, slots := 0, locals := 20 }, yX8_likeness.cls, (some .int))
set_option maxRecDepth 100000 in
set_option maxHeartbeats 4000000 in
theorem kX8_likeness (G : iw_G) (v0 : Int32) (v1 : Int32) (z : iw_M) : iw_K G iw_wX yX8_likeness cX8_likeness 2 (some .int) 1 20 iw_ei [.int v0, .int v1] z (fX8_likeness v0 v1 z) := by
  refine iw_of [(0, .int v0), (1, .int v1)] (by decide +kernel) (Nat.le_of_ble_eq_true rfl) rfl ?_
  intro X hC
  unfold fX8_likeness
  refine V_ic (x := 3) hC dX8_likeness_0 (by decide) ?_
  refine V_iln hC dX8_likeness_1 0 rfl ?_
  refine V_iln hC dX8_likeness_2 1 rfl ?_
  refine V_iand hC dX8_likeness_3 ?_
  refine V_csi [.int _] hC cs_X8_277 (kJ6_bitCount_0f7a4 G _ _) rfl rfl (Nat.le_of_ble_eq_true rfl) ⟨by decide, by decide⟩ dX8_likeness_4 ?_
  intro q1
  refine V_imul hC dX8_likeness_7 ?_
  refine V_iln hC dX8_likeness_8 0 rfl ?_
  refine V_iln hC dX8_likeness_9 1 rfl ?_
  refine V_ixor hC dX8_likeness_10 ?_
  refine V_csi [.int _] hC cs_X8_277 (kJ6_bitCount_0f7a4 G _ _) rfl rfl (Nat.le_of_ble_eq_true rfl) ⟨by decide, by decide⟩ dX8_likeness_11 ?_
  intro q2
  refine V_isub hC dX8_likeness_14 ?_
  exact V_ir hC dX8_likeness_15 rfl
def fX3_areAlike (v1 : Int32) (v2 : Int32) (v3 : Int32) (z : iw_M) : Option (Int32 × iw_M) :=
  (if iw_ok v1 40 then
  (if iw_ok v2 40 then
  (if (z.1 10 (Int32.toNatClampNeg v1)) = (z.1 10 (Int32.toNatClampNeg v2)) then
  (if iw_ok v1 40 then
  (if iw_ok v2 40 then
  ((fX8_likeness (z.1 11 (Int32.toNatClampNeg v1)) (z.1 11 (Int32.toNatClampNeg v2)) z).bind (fun q1 =>
  (if q1.1 < v3 then
  some ((0 : Int32), q1.2)
  else
  some ((1 : Int32), q1.2))))
  else none)
  else none)
  else
  some ((0 : Int32), z))
  else none)
  else none)
abbrev bX3_areAlike : iw_B := (cX3_areAlike, 4, { frames := 2, cells := 0, slots := 0, locals := 41 }, yX3_areAlike.cls, (some .boolean))
set_option maxRecDepth 100000 in
set_option maxHeartbeats 4000000 in
theorem kX3_areAlike (G : iw_G) (v1 : Int32) (v2 : Int32) (v3 : Int32) (z : iw_M) : iw_K G iw_wX yX3_areAlike cX3_areAlike 4 (some .boolean) 2 41 iw_ei [.ref (iw_ad G 8), .int v1, .int v2, .int v3] z (fX3_areAlike v1 v2 v3 z) := by
  refine iw_of [(0, .ref (iw_ad G 8)), (1, .int v1), (2, .int v2), (3, .int v3)] (by decide +kernel) (Nat.le_of_ble_eq_true rfl) rfl ?_
  intro X hC
  unfold fX3_areAlike
  refine V_aln hC dX3_areAlike_0 0 rfl ?_
  refine V_gr hC fl_X3_15 (by decide) rfl rfl dX3_areAlike_1 ?_
  refine V_iln hC dX3_areAlike_4 1 rfl ?_
  refine V_ia hC (by decide) rfl dX3_areAlike_5 ?_
  refine V_aln hC dX3_areAlike_6 0 rfl ?_
  refine V_gr hC fl_X3_15 (by decide) rfl rfl dX3_areAlike_7 ?_
  refine V_iln hC dX3_areAlike_10 2 rfl ?_
  refine V_ia hC (by decide) rfl dX3_areAlike_11 ?_
  refine V_cne 38 hC dX3_areAlike_12 (by decide) ?_ ?_
  · refine V_ic (x := 0) hC dX3_areAlike_38 (by decide) ?_
    exact V_zr hC dX3_areAlike_39 rfl rfl
  · refine V_aln hC dX3_areAlike_15 0 rfl ?_
    refine V_gr hC fl_X3_18 (by decide) rfl rfl dX3_areAlike_16 ?_
    refine V_iln hC dX3_areAlike_19 1 rfl ?_
    refine V_ia hC (by decide) rfl dX3_areAlike_20 ?_
    refine V_aln hC dX3_areAlike_21 0 rfl ?_
    refine V_gr hC fl_X3_18 (by decide) rfl rfl dX3_areAlike_22 ?_
    refine V_iln hC dX3_areAlike_25 2 rfl ?_
    refine V_ia hC (by decide) rfl dX3_areAlike_26 ?_
    refine V_cni [] hC cn_X3_53 (kX8_likeness G _ _ _) rfl rfl (Nat.le_of_ble_eq_true rfl) ⟨by decide, by decide⟩ dX3_areAlike_27 ?_
    intro q1
    refine V_iln hC dX3_areAlike_30 3 rfl ?_
    refine V_clt 38 hC dX3_areAlike_31 (by decide) ?_ ?_
    · refine V_ic (x := 0) hC dX3_areAlike_38 (by decide) ?_
      exact V_zr hC dX3_areAlike_39 rfl rfl
    · refine V_ic (x := 1) hC dX3_areAlike_34 (by decide) ?_
      refine V_goto 39 hC dX3_areAlike_35 (by decide) ?_
      exact V_zr hC dX3_areAlike_39 rfl rfl
def fX1_join_L18 (kf : Nat) (v3 : Int32) (v4 : Int32) (v5 : Int32) (K : Int32 → iw_M → Option (Unit × iw_M)) : Nat → Int32 → iw_M → Option (Unit × iw_M)
  | 0, _, _ => none
  | n + 1, v6, z => (if v3 < v6 then
  K v6 z
  else
  (if iw_ok v6 40 then
  (if (z.1 (kf + 1) (Int32.toNatClampNeg v6)) = v5 then
  (if iw_ok v6 40 then
  fX1_join_L18 kf v3 v4 v5 K n (v6 + (1 : Int32)) (iw_wI z (kf + 1) (Int32.toNatClampNeg v6) v4)
  else none)
  else
  fX1_join_L18 kf v3 v4 v5 K n (v6 + (1 : Int32)) z)
  else none))
def fX1_join (kf : Nat) (v1 : Int32) (v2 : Int32) (v3 : Int32) (z : iw_M) : Option (Unit × iw_M) :=
  fX1_join_L18 kf v3 (iw_min v1 v2) (iw_max v1 v2) (fun x6_1 z_1 => some ((), z_1)) iw_fu (iw_max v1 v2) z
abbrev bX1_join : iw_B := (cX1_join, 7, { frames := 1, cells := 0, slots := 0, locals := 21 }, yX1_join.cls, none)
set_option maxRecDepth 100000 in
set_option maxHeartbeats 4000000 in
theorem vX1_join_L18 {G : iw_G} {X : iw_X} (hC : iw_C G iw_wX X bX1_join) (kf : Nat) (hf : iw_isF kf) (v3 : Int32) (v4 : Int32) (v5 : Int32) (K : Int32 → iw_M → Option (Unit × iw_M)) (hK : ∀ (v6 : Int32) (z : iw_M), iw_V G iw_wX X bX1_join iw_ev 51 [(0, .ref (iw_ad G kf)), (3, .int v3), (4, .int v4), (5, .int v5), (6, .int v6)] [] z (K v6 z)) : ∀ (n : Nat) (v6 : Int32) (z : iw_M), iw_V G iw_wX X bX1_join iw_ev 18 [(0, .ref (iw_ad G kf)), (3, .int v3), (4, .int v4), (5, .int v5), (6, .int v6)] [] z (fX1_join_L18 kf v3 v4 v5 K n v6 z) := by
  intro n
  induction n with
  | zero =>
    intro v6 z
    exact V_none
  | succ n ih =>
    intro v6 z
    simp only [fX1_join_L18]
    refine V_il hC dX1_join_18 4 rfl ?_
    refine V_iln hC dX1_join_20 1 rfl ?_
    refine V_cgt 51 hC dX1_join_21 (by decide) ?_ ?_
    · exact hK _ _
    · refine V_aln hC dX1_join_24 0 rfl ?_
      refine V_gr hC fl_X1_11 hf.2.2.1 hf.1 rfl dX1_join_25 ?_
      refine V_il hC dX1_join_28 4 rfl ?_
      refine V_ia hC hf.2.2.2 hf.2.1 dX1_join_30 ?_
      refine V_il hC dX1_join_31 3 rfl ?_
      refine V_cne 45 hC dX1_join_33 (by decide) ?_ ?_
      · refine V_inc (k := 4) (y := 1) [(6, .int _), (0, .ref _), (3, .int _), (4, .int _), (5, .int _)] hC dX1_join_45 rfl (by decide) (by decide) rfl ?_
        refine V_goto 18 hC dX1_join_48 (by decide) ?_
        refine V_sub [(0, .ref _), (3, .int _), (4, .int _), (5, .int _), (6, .int _)] [1, 2, 3, 4, 0] rfl ?_
        exact ih _ _
      · refine V_aln hC dX1_join_36 0 rfl ?_
        refine V_gr hC fl_X1_11 hf.2.2.1 hf.1 rfl dX1_join_37 ?_
        refine V_il hC dX1_join_40 4 rfl ?_
        refine V_il hC dX1_join_42 2 rfl ?_
        refine V_is_ hC hf.2.2.2 hf.2.1 dX1_join_44 ?_
        refine V_inc (k := 4) (y := 1) [(6, .int _), (0, .ref _), (3, .int _), (4, .int _), (5, .int _)] hC dX1_join_45 rfl (by decide) (by decide) rfl ?_
        refine V_goto 18 hC dX1_join_48 (by decide) ?_
        refine V_sub [(0, .ref _), (3, .int _), (4, .int _), (5, .int _), (6, .int _)] [1, 2, 3, 4, 0] rfl ?_
        exact ih _ _
set_option maxRecDepth 100000 in
set_option maxHeartbeats 4000000 in
theorem kX1_join (G : iw_G) (kf : Nat) (hf : iw_isF kf) (v1 : Int32) (v2 : Int32) (v3 : Int32) (z : iw_M) : iw_K G iw_wX yX1_join cX1_join 7 none 1 21 iw_ev [.ref (iw_ad G kf), .int v1, .int v2, .int v3] z (fX1_join kf v1 v2 v3 z) := by
  refine iw_of [(0, .ref (iw_ad G kf)), (1, .int v1), (2, .int v2), (3, .int v3)] (by decide +kernel) (Nat.le_of_ble_eq_true rfl) rfl ?_
  intro X hC
  unfold fX1_join
  refine V_iln hC dX1_join_0 1 rfl ?_
  refine V_iln hC dX1_join_1 2 rfl ?_
  refine V_min hC mm_X1_37 ⟨by decide, Nat.le_of_ble_eq_true rfl⟩ dX1_join_2 ?_
  refine V_is [(4, .int _), (0, .ref _), (1, .int _), (2, .int _), (3, .int _)] hC dX1_join_5 (by decide) rfl ?_
  refine V_iln hC dX1_join_7 2 rfl ?_
  refine V_iln hC dX1_join_8 3 rfl ?_
  refine V_max hC mm_X1_43 ⟨by decide, Nat.le_of_ble_eq_true rfl⟩ dX1_join_9 ?_
  refine V_is [(5, .int _), (4, .int _), (0, .ref _), (1, .int _), (2, .int _), (3, .int _)] hC dX1_join_12 (by decide) rfl ?_
  refine V_il hC dX1_join_14 0 rfl ?_
  refine V_is [(6, .int _), (5, .int _), (4, .int _), (0, .ref _), (1, .int _), (2, .int _), (3, .int _)] hC dX1_join_16 (by decide) rfl ?_
  refine V_sub [(0, .ref _), (3, .int _), (4, .int _), (5, .int _), (6, .int _)] [3, 6, 2, 1, 0] rfl ?_
  refine vX1_join_L18 hC kf hf _ _ _ _ ?_ _ _ _
  intro x6_1 z_1
  exact V_vr hC dX1_join_51 rfl
def fX1_enrol_L9 (kf : Nat) (v1 : Int32) (v2 : Int32) (K : Int32 → iw_M → Option (Unit × iw_M)) : Nat → Int32 → iw_M → Option (Unit × iw_M)
  | 0, _, _ => none
  | n + 1, v3, z => (if v1 ≤ v3 then
  K v3 z
  else
  (if iw_ok v3 40 then
  (if iw_ok v1 40 then
  (if (z.1 (kf + 1) (Int32.toNatClampNeg v3)) = (z.1 (kf + 1) (Int32.toNatClampNeg v1)) then
  fX1_enrol_L9 kf v1 v2 K n (v3 + (1 : Int32)) z
  else
  ((fX3_areAlike v3 v1 v2 z).bind (fun q1 =>
  (if q1.1 = 0 then
  fX1_enrol_L9 kf v1 v2 K n (v3 + (1 : Int32)) q1.2
  else
  (if iw_ok v3 40 then
  (if iw_ok v1 40 then
  ((fX1_join kf (q1.2.1 (kf + 1) (Int32.toNatClampNeg v3)) (q1.2.1 (kf + 1) (Int32.toNatClampNeg v1)) v1 q1.2).bind (fun q2 =>
  fX1_enrol_L9 kf v1 v2 K n (v3 + (1 : Int32)) q2.2))
  else none)
  else none)))))
  else none)
  else none))
def fX1_enrol (kf : Nat) (v1 : Int32) (v2 : Int32) (z : iw_M) : Option (Unit × iw_M) :=
  (if iw_ok v1 40 then
  fX1_enrol_L9 kf v1 v2 (fun x3_3 z_3 => some ((), z_3)) iw_fu (0 : Int32) (iw_wI z (kf + 1) (Int32.toNatClampNeg v1) v1)
  else none)
abbrev bX1_enrol : iw_B := (cX1_enrol, 4, { frames := 3, cells := 0, slots := 0, locals := 64 }, yX1_enrol.cls, none)
set_option maxRecDepth 100000 in
set_option maxHeartbeats 4000000 in
theorem vX1_enrol_L9 {G : iw_G} {X : iw_X} (hC : iw_C G iw_wX X bX1_enrol) (kf : Nat) (hf : iw_isF kf) (v1 : Int32) (v2 : Int32) (K : Int32 → iw_M → Option (Unit × iw_M)) (hK : ∀ (v3 : Int32) (z : iw_M), iw_V G iw_wX X bX1_enrol iw_ev 65 [(0, .ref (iw_ad G kf)), (1, .int v1), (2, .int v2), (3, .int v3)] [] z (K v3 z)) : ∀ (n : Nat) (v3 : Int32) (z : iw_M), iw_V G iw_wX X bX1_enrol iw_ev 9 [(0, .ref (iw_ad G kf)), (1, .int v1), (2, .int v2), (3, .int v3)] [] z (fX1_enrol_L9 kf v1 v2 K n v3 z) := by
  intro n
  induction n with
  | zero =>
    intro v3 z
    exact V_none
  | succ n ih =>
    intro v3 z
    simp only [fX1_enrol_L9]
    refine V_iln hC dX1_enrol_9 3 rfl ?_
    refine V_iln hC dX1_enrol_10 1 rfl ?_
    refine V_cge 65 hC dX1_enrol_11 (by decide) ?_ ?_
    · exact hK _ _
    · refine V_aln hC dX1_enrol_14 0 rfl ?_
      refine V_gr hC fl_X1_11 hf.2.2.1 hf.1 rfl dX1_enrol_15 ?_
      refine V_iln hC dX1_enrol_18 3 rfl ?_
      refine V_ia hC hf.2.2.2 hf.2.1 dX1_enrol_19 ?_
      refine V_aln hC dX1_enrol_20 0 rfl ?_
      refine V_gr hC fl_X1_11 hf.2.2.1 hf.1 rfl dX1_enrol_21 ?_
      refine V_iln hC dX1_enrol_24 1 rfl ?_
      refine V_ia hC hf.2.2.2 hf.2.1 dX1_enrol_25 ?_
      refine V_ceq 59 hC dX1_enrol_26 (by decide) ?_ ?_
      · refine V_inc (k := 3) (y := 1) [(3, .int _), (0, .ref _), (1, .int _), (2, .int _)] hC dX1_enrol_59 rfl (by decide) (by decide) rfl ?_
        refine V_goto 9 hC dX1_enrol_62 (by decide) ?_
        refine V_sub [(0, .ref _), (1, .int _), (2, .int _), (3, .int _)] [1, 2, 3, 0] rfl ?_
        exact ih _ _
      · refine V_aln hC dX1_enrol_29 0 rfl ?_
        refine V_gr hC fl_X1_17 hf.2.2.1 hf.1 rfl dX1_enrol_30 ?_
        refine V_iln hC dX1_enrol_33 3 rfl ?_
        refine V_iln hC dX1_enrol_34 1 rfl ?_
        refine V_iln hC dX1_enrol_35 2 rfl ?_
        refine V_cvi [] hC cv_X1_29 (by decide) rfl rfl (kX3_areAlike G _ _ _ _) rfl rfl (Nat.le_of_ble_eq_true rfl) ⟨by decide, by decide⟩ dX1_enrol_36 ?_
        intro q1
        refine V_ieq 59 hC dX1_enrol_39 (by decide) ?_ ?_
        · refine V_inc (k := 3) (y := 1) [(3, .int _), (0, .ref _), (1, .int _), (2, .int _)] hC dX1_enrol_59 rfl (by decide) (by decide) rfl ?_
          refine V_goto 9 hC dX1_enrol_62 (by decide) ?_
          refine V_sub [(0, .ref _), (1, .int _), (2, .int _), (3, .int _)] [1, 2, 3, 0] rfl ?_
          exact ih _ _
        · refine V_aln hC dX1_enrol_42 0 rfl ?_
          refine V_aln hC dX1_enrol_43 0 rfl ?_
          refine V_gr hC fl_X1_11 hf.2.2.1 hf.1 rfl dX1_enrol_44 ?_
          refine V_iln hC dX1_enrol_47 3 rfl ?_
          refine V_ia hC hf.2.2.2 hf.2.1 dX1_enrol_48 ?_
          refine V_aln hC dX1_enrol_49 0 rfl ?_
          refine V_gr hC fl_X1_11 hf.2.2.1 hf.1 rfl dX1_enrol_50 ?_
          refine V_iln hC dX1_enrol_53 1 rfl ?_
          refine V_ia hC hf.2.2.2 hf.2.1 dX1_enrol_54 ?_
          refine V_iln hC dX1_enrol_55 1 rfl ?_
          refine V_cvv [] hC cv_X1_33 hf.2.2.1 hf.1 rfl (kX1_join G kf hf _ _ _ _) rfl rfl (Nat.le_of_ble_eq_true rfl) ⟨by decide, by decide⟩ dX1_enrol_56 ?_
          intro q2
          refine V_inc (k := 3) (y := 1) [(3, .int _), (0, .ref _), (1, .int _), (2, .int _)] hC dX1_enrol_59 rfl (by decide) (by decide) rfl ?_
          refine V_goto 9 hC dX1_enrol_62 (by decide) ?_
          refine V_sub [(0, .ref _), (1, .int _), (2, .int _), (3, .int _)] [1, 2, 3, 0] rfl ?_
          exact ih _ _
set_option maxRecDepth 100000 in
set_option maxHeartbeats 4000000 in
theorem kX1_enrol (G : iw_G) (kf : Nat) (hf : iw_isF kf) (v1 : Int32) (v2 : Int32) (z : iw_M) : iw_K G iw_wX yX1_enrol cX1_enrol 4 none 3 64 iw_ev [.ref (iw_ad G kf), .int v1, .int v2] z (fX1_enrol kf v1 v2 z) := by
  refine iw_of [(0, .ref (iw_ad G kf)), (1, .int v1), (2, .int v2)] (by decide +kernel) (Nat.le_of_ble_eq_true rfl) rfl ?_
  intro X hC
  unfold fX1_enrol
  refine V_aln hC dX1_enrol_0 0 rfl ?_
  refine V_gr hC fl_X1_11 hf.2.2.1 hf.1 rfl dX1_enrol_1 ?_
  refine V_iln hC dX1_enrol_4 1 rfl ?_
  refine V_iln hC dX1_enrol_5 1 rfl ?_
  refine V_is_ hC hf.2.2.2 hf.2.1 dX1_enrol_6 ?_
  refine V_ic (x := 0) hC dX1_enrol_7 (by decide) ?_
  refine V_isn [(3, .int _), (0, .ref _), (1, .int _), (2, .int _)] hC dX1_enrol_8 (by decide) rfl ?_
  refine V_sub [(0, .ref _), (1, .int _), (2, .int _), (3, .int _)] [1, 2, 3, 0] rfl ?_
  refine vX1_enrol_L9 hC kf hf _ _ _ ?_ _ _ _
  intro x3_3 z_3
  exact V_vr hC dX1_enrol_65 rfl
def fX1_build_L2 (kf : Nat) (v1 : Int32) (K : Int32 → iw_M → Option (Unit × iw_M)) : Nat → Int32 → iw_M → Option (Unit × iw_M)
  | 0, _, _ => none
  | n + 1, v2, z => (if (z.1 8 10) ≤ v2 then
  K v2 z
  else
  ((fX1_enrol kf v2 v1 z).bind (fun q1 =>
  fX1_build_L2 kf v1 K n (v2 + (1 : Int32)) q1.2)))
def fX1_build (kf : Nat) (v1 : Int32) (z : iw_M) : Option (Unit × iw_M) :=
  fX1_build_L2 kf v1 (fun x2_2 z_2 => some ((), z_2)) iw_fu (0 : Int32) z
abbrev bX1_build : iw_B := (cX1_build, 3, { frames := 4, cells := 0, slots := 0, locals := 87 }, yX1_build.cls, none)
set_option maxRecDepth 100000 in
set_option maxHeartbeats 4000000 in
theorem vX1_build_L2 {G : iw_G} {X : iw_X} (hC : iw_C G iw_wX X bX1_build) (kf : Nat) (hf : iw_isF kf) (v1 : Int32) (K : Int32 → iw_M → Option (Unit × iw_M)) (hK : ∀ (v2 : Int32) (z : iw_M), iw_V G iw_wX X bX1_build iw_ev 25 [(0, .ref (iw_ad G kf)), (1, .int v1), (2, .int v2)] [] z (K v2 z)) : ∀ (n : Nat) (v2 : Int32) (z : iw_M), iw_V G iw_wX X bX1_build iw_ev 2 [(0, .ref (iw_ad G kf)), (1, .int v1), (2, .int v2)] [] z (fX1_build_L2 kf v1 K n v2 z) := by
  intro n
  induction n with
  | zero =>
    intro v2 z
    exact V_none
  | succ n ih =>
    intro v2 z
    simp only [fX1_build_L2]
    refine V_iln hC dX1_build_2 2 rfl ?_
    refine V_aln hC dX1_build_3 0 rfl ?_
    refine V_gr hC fl_X1_17 hf.2.2.1 hf.1 rfl dX1_build_4 ?_
    refine V_gi hC fl_X1_21 (by decide) rfl rfl dX1_build_7 ?_
    refine V_cge 25 hC dX1_build_10 (by decide) ?_ ?_
    · exact hK _ _
    · refine V_aln hC dX1_build_13 0 rfl ?_
      refine V_iln hC dX1_build_14 2 rfl ?_
      refine V_iln hC dX1_build_15 1 rfl ?_
      refine V_cvv [] hC cv_X1_25 hf.2.2.1 hf.1 rfl (kX1_enrol G kf hf _ _ _) rfl rfl (Nat.le_of_ble_eq_true rfl) ⟨by decide, by decide⟩ dX1_build_16 ?_
      intro q1
      refine V_inc (k := 2) (y := 1) [(2, .int _), (0, .ref _), (1, .int _)] hC dX1_build_19 rfl (by decide) (by decide) rfl ?_
      refine V_goto 2 hC dX1_build_22 (by decide) ?_
      refine V_sub [(0, .ref _), (1, .int _), (2, .int _)] [1, 2, 0] rfl ?_
      exact ih _ _
set_option maxRecDepth 100000 in
set_option maxHeartbeats 4000000 in
theorem kX1_build (G : iw_G) (kf : Nat) (hf : iw_isF kf) (v1 : Int32) (z : iw_M) : iw_K G iw_wX yX1_build cX1_build 3 none 4 87 iw_ev [.ref (iw_ad G kf), .int v1] z (fX1_build kf v1 z) := by
  refine iw_of [(0, .ref (iw_ad G kf)), (1, .int v1)] (by decide +kernel) (Nat.le_of_ble_eq_true rfl) rfl ?_
  intro X hC
  unfold fX1_build
  refine V_ic (x := 0) hC dX1_build_0 (by decide) ?_
  refine V_isn [(2, .int _), (0, .ref _), (1, .int _)] hC dX1_build_1 (by decide) rfl ?_
  refine V_sub [(0, .ref _), (1, .int _), (2, .int _)] [1, 2, 0] rfl ?_
  refine vX1_build_L2 hC kf hf _ _ ?_ _ _ _
  intro x2_2 z_2
  exact V_vr hC dX1_build_25 rfl
def fX3_isAhead (v1 : Int32) (v2 : Int32) (z : iw_M) : Option (Int32 × iw_M) :=
  (if iw_ok v1 40 then
  (if iw_ok v2 40 then
  (if (z.1 13 (Int32.toNatClampNeg v1)) = (z.1 13 (Int32.toNatClampNeg v2)) then
  (if iw_ok v1 40 then
  (if iw_ok v2 40 then
  (if (z.1 12 (Int32.toNatClampNeg v1)) = (z.1 12 (Int32.toNatClampNeg v2)) then
  (if v2 ≤ v1 then
  some ((0 : Int32), z)
  else
  some ((1 : Int32), z))
  else
  (if iw_ok v1 40 then
  (if iw_ok v2 40 then
  (if (z.1 12 (Int32.toNatClampNeg v1)) ≤ (z.1 12 (Int32.toNatClampNeg v2)) then
  some ((0 : Int32), z)
  else
  some ((1 : Int32), z))
  else none)
  else none))
  else none)
  else none)
  else
  (if iw_ok v1 40 then
  (if iw_ok v2 40 then
  (if (z.1 13 (Int32.toNatClampNeg v2)) ≤ (z.1 13 (Int32.toNatClampNeg v1)) then
  some ((0 : Int32), z)
  else
  some ((1 : Int32), z))
  else none)
  else none))
  else none)
  else none)
abbrev bX3_isAhead : iw_B := (cX3_isAhead, 3, { frames := 0, cells := 0, slots := 0, locals := 0 }, yX3_isAhead.cls, (some .boolean))
set_option maxRecDepth 100000 in
set_option maxHeartbeats 4000000 in
theorem kX3_isAhead (G : iw_G) (v1 : Int32) (v2 : Int32) (z : iw_M) : iw_K G iw_wX yX3_isAhead cX3_isAhead 3 (some .boolean) 0 0 iw_ei [.ref (iw_ad G 8), .int v1, .int v2] z (fX3_isAhead v1 v2 z) := by
  refine iw_of [(0, .ref (iw_ad G 8)), (1, .int v1), (2, .int v2)] (by decide +kernel) (Nat.le_of_ble_eq_true rfl) rfl ?_
  intro X hC
  unfold fX3_isAhead
  refine V_aln hC dX3_isAhead_0 0 rfl ?_
  refine V_gr hC fl_X3_24 (by decide) rfl rfl dX3_isAhead_1 ?_
  refine V_iln hC dX3_isAhead_4 1 rfl ?_
  refine V_ia hC (by decide) rfl dX3_isAhead_5 ?_
  refine V_aln hC dX3_isAhead_6 0 rfl ?_
  refine V_gr hC fl_X3_24 (by decide) rfl rfl dX3_isAhead_7 ?_
  refine V_iln hC dX3_isAhead_10 2 rfl ?_
  refine V_ia hC (by decide) rfl dX3_isAhead_11 ?_
  refine V_ceq 36 hC dX3_isAhead_12 (by decide) ?_ ?_
  · refine V_aln hC dX3_isAhead_36 0 rfl ?_
    refine V_gr hC fl_X3_21 (by decide) rfl rfl dX3_isAhead_37 ?_
    refine V_iln hC dX3_isAhead_40 1 rfl ?_
    refine V_ia hC (by decide) rfl dX3_isAhead_41 ?_
    refine V_aln hC dX3_isAhead_42 0 rfl ?_
    refine V_gr hC fl_X3_21 (by decide) rfl rfl dX3_isAhead_43 ?_
    refine V_iln hC dX3_isAhead_46 2 rfl ?_
    refine V_ia hC (by decide) rfl dX3_isAhead_47 ?_
    refine V_ceq 72 hC dX3_isAhead_48 (by decide) ?_ ?_
    · refine V_iln hC dX3_isAhead_72 1 rfl ?_
      refine V_iln hC dX3_isAhead_73 2 rfl ?_
      refine V_cge 81 hC dX3_isAhead_74 (by decide) ?_ ?_
      · refine V_ic (x := 0) hC dX3_isAhead_81 (by decide) ?_
        exact V_zr hC dX3_isAhead_82 rfl rfl
      · refine V_ic (x := 1) hC dX3_isAhead_77 (by decide) ?_
        refine V_goto 82 hC dX3_isAhead_78 (by decide) ?_
        exact V_zr hC dX3_isAhead_82 rfl rfl
    · refine V_aln hC dX3_isAhead_51 0 rfl ?_
      refine V_gr hC fl_X3_21 (by decide) rfl rfl dX3_isAhead_52 ?_
      refine V_iln hC dX3_isAhead_55 1 rfl ?_
      refine V_ia hC (by decide) rfl dX3_isAhead_56 ?_
      refine V_aln hC dX3_isAhead_57 0 rfl ?_
      refine V_gr hC fl_X3_21 (by decide) rfl rfl dX3_isAhead_58 ?_
      refine V_iln hC dX3_isAhead_61 2 rfl ?_
      refine V_ia hC (by decide) rfl dX3_isAhead_62 ?_
      refine V_cle 70 hC dX3_isAhead_63 (by decide) ?_ ?_
      · refine V_ic (x := 0) hC dX3_isAhead_70 (by decide) ?_
        exact V_zr hC dX3_isAhead_71 rfl rfl
      · refine V_ic (x := 1) hC dX3_isAhead_66 (by decide) ?_
        refine V_goto 71 hC dX3_isAhead_67 (by decide) ?_
        exact V_zr hC dX3_isAhead_71 rfl rfl
  · refine V_aln hC dX3_isAhead_15 0 rfl ?_
    refine V_gr hC fl_X3_24 (by decide) rfl rfl dX3_isAhead_16 ?_
    refine V_iln hC dX3_isAhead_19 1 rfl ?_
    refine V_ia hC (by decide) rfl dX3_isAhead_20 ?_
    refine V_aln hC dX3_isAhead_21 0 rfl ?_
    refine V_gr hC fl_X3_24 (by decide) rfl rfl dX3_isAhead_22 ?_
    refine V_iln hC dX3_isAhead_25 2 rfl ?_
    refine V_ia hC (by decide) rfl dX3_isAhead_26 ?_
    refine V_cge 34 hC dX3_isAhead_27 (by decide) ?_ ?_
    · refine V_ic (x := 0) hC dX3_isAhead_34 (by decide) ?_
      exact V_zr hC dX3_isAhead_35 rfl rfl
    · refine V_ic (x := 1) hC dX3_isAhead_30 (by decide) ?_
      refine V_goto 35 hC dX3_isAhead_31 (by decide) ?_
      exact V_zr hC dX3_isAhead_35 rfl rfl
def fX1_headOf_L6 (kf : Nat) (v1 : Int32) (K : Int32 → Int32 → iw_M → Option (Int32 × iw_M)) : Nat → Int32 → Int32 → iw_M → Option (Int32 × iw_M)
  | 0, _, _, _ => none
  | n + 1, v2, v3, z => (if (z.1 8 10) ≤ v3 then
  K v2 v3 z
  else
  (if iw_ok v3 40 then
  (if (z.1 (kf + 1) (Int32.toNatClampNeg v3)) = v1 then
  ((fX3_isAhead v3 v2 z).bind (fun q1 =>
  (if q1.1 = 0 then
  fX1_headOf_L6 kf v1 K n v2 (v3 + (1 : Int32)) q1.2
  else
  fX1_headOf_L6 kf v1 K n v3 (v3 + (1 : Int32)) q1.2)))
  else
  fX1_headOf_L6 kf v1 K n v2 (v3 + (1 : Int32)) z)
  else none))
def fX1_headOf (kf : Nat) (v1 : Int32) (z : iw_M) : Option (Int32 × iw_M) :=
  fX1_headOf_L6 kf v1 (fun x2_2 x3_2 z_2 => some (x2_2, z_2)) iw_fu v1 (v1 + (1 : Int32)) z
abbrev bX1_headOf : iw_B := (cX1_headOf, 4, { frames := 1, cells := 0, slots := 0, locals := 22 }, yX1_headOf.cls, (some .int))
set_option maxRecDepth 100000 in
set_option maxHeartbeats 4000000 in
theorem vX1_headOf_L6 {G : iw_G} {X : iw_X} (hC : iw_C G iw_wX X bX1_headOf) (kf : Nat) (hf : iw_isF kf) (v1 : Int32) (K : Int32 → Int32 → iw_M → Option (Int32 × iw_M)) (hK : ∀ (v2 : Int32) (v3 : Int32) (z : iw_M), iw_V G iw_wX X bX1_headOf iw_ei 47 [(0, .ref (iw_ad G kf)), (1, .int v1), (2, .int v2), (3, .int v3)] [] z (K v2 v3 z)) : ∀ (n : Nat) (v2 : Int32) (v3 : Int32) (z : iw_M), iw_V G iw_wX X bX1_headOf iw_ei 6 [(0, .ref (iw_ad G kf)), (1, .int v1), (2, .int v2), (3, .int v3)] [] z (fX1_headOf_L6 kf v1 K n v2 v3 z) := by
  intro n
  induction n with
  | zero =>
    intro v2 v3 z
    exact V_none
  | succ n ih =>
    intro v2 v3 z
    simp only [fX1_headOf_L6]
    refine V_iln hC dX1_headOf_6 3 rfl ?_
    refine V_aln hC dX1_headOf_7 0 rfl ?_
    refine V_gr hC fl_X1_17 hf.2.2.1 hf.1 rfl dX1_headOf_8 ?_
    refine V_gi hC fl_X1_21 (by decide) rfl rfl dX1_headOf_11 ?_
    refine V_cge 47 hC dX1_headOf_14 (by decide) ?_ ?_
    · exact hK _ _ _
    · refine V_aln hC dX1_headOf_17 0 rfl ?_
      refine V_gr hC fl_X1_11 hf.2.2.1 hf.1 rfl dX1_headOf_18 ?_
      refine V_iln hC dX1_headOf_21 3 rfl ?_
      refine V_ia hC hf.2.2.2 hf.2.1 dX1_headOf_22 ?_
      refine V_iln hC dX1_headOf_23 1 rfl ?_
      refine V_cne 41 hC dX1_headOf_24 (by decide) ?_ ?_
      · refine V_inc (k := 3) (y := 1) [(3, .int _), (0, .ref _), (1, .int _), (2, .int _)] hC dX1_headOf_41 rfl (by decide) (by decide) rfl ?_
        refine V_goto 6 hC dX1_headOf_44 (by decide) ?_
        refine V_sub [(0, .ref _), (1, .int _), (2, .int _), (3, .int _)] [1, 2, 3, 0] rfl ?_
        exact ih _ _ _
      · refine V_aln hC dX1_headOf_27 0 rfl ?_
        refine V_gr hC fl_X1_17 hf.2.2.1 hf.1 rfl dX1_headOf_28 ?_
        refine V_iln hC dX1_headOf_31 3 rfl ?_
        refine V_iln hC dX1_headOf_32 2 rfl ?_
        refine V_cvi [] hC cv_X1_46 (by decide) rfl rfl (kX3_isAhead G _ _ _) rfl rfl (Nat.le_of_ble_eq_true rfl) ⟨by decide, by decide⟩ dX1_headOf_33 ?_
        intro q1
        refine V_ieq 41 hC dX1_headOf_36 (by decide) ?_ ?_
        · refine V_inc (k := 3) (y := 1) [(3, .int _), (0, .ref _), (1, .int _), (2, .int _)] hC dX1_headOf_41 rfl (by decide) (by decide) rfl ?_
          refine V_goto 6 hC dX1_headOf_44 (by decide) ?_
          refine V_sub [(0, .ref _), (1, .int _), (2, .int _), (3, .int _)] [1, 2, 3, 0] rfl ?_
          exact ih _ _ _
        · refine V_iln hC dX1_headOf_39 3 rfl ?_
          refine V_isn [(2, .int _), (0, .ref _), (1, .int _), (3, .int _)] hC dX1_headOf_40 (by decide) rfl ?_
          refine V_inc (k := 3) (y := 1) [(3, .int _), (2, .int _), (0, .ref _), (1, .int _)] hC dX1_headOf_41 rfl (by decide) (by decide) rfl ?_
          refine V_goto 6 hC dX1_headOf_44 (by decide) ?_
          refine V_sub [(0, .ref _), (1, .int _), (2, .int _), (3, .int _)] [2, 3, 1, 0] rfl ?_
          exact ih _ _ _
set_option maxRecDepth 100000 in
set_option maxHeartbeats 4000000 in
theorem kX1_headOf (G : iw_G) (kf : Nat) (hf : iw_isF kf) (v1 : Int32) (z : iw_M) : iw_K G iw_wX yX1_headOf cX1_headOf 4 (some .int) 1 22 iw_ei [.ref (iw_ad G kf), .int v1] z (fX1_headOf kf v1 z) := by
  refine iw_of [(0, .ref (iw_ad G kf)), (1, .int v1)] (by decide +kernel) (Nat.le_of_ble_eq_true rfl) rfl ?_
  intro X hC
  unfold fX1_headOf
  refine V_iln hC dX1_headOf_0 1 rfl ?_
  refine V_isn [(2, .int _), (0, .ref _), (1, .int _)] hC dX1_headOf_1 (by decide) rfl ?_
  refine V_iln hC dX1_headOf_2 2 rfl ?_
  refine V_ic (x := 1) hC dX1_headOf_3 (by decide) ?_
  refine V_iadd hC dX1_headOf_4 ?_
  refine V_isn [(3, .int _), (2, .int _), (0, .ref _), (1, .int _)] hC dX1_headOf_5 (by decide) rfl ?_
  refine V_sub [(0, .ref _), (1, .int _), (2, .int _), (3, .int _)] [2, 3, 1, 0] rfl ?_
  refine vX1_headOf_L6 hC kf hf _ _ ?_ _ _ _ _
  intro x2_2 x3_2 z_2
  refine V_iln hC dX1_headOf_47 2 rfl ?_
  exact V_ir hC dX1_headOf_48 rfl
def fX1_shareOf_L20 (kf : Nat) (v1 : Int32) (v2 : Int32) (v3 : Int32) (v4 : Int32) (K : Int32 → Int32 → iw_M → Option (Int32 × iw_M)) : Nat → Int32 → Int32 → iw_M → Option (Int32 × iw_M)
  | 0, _, _, _ => none
  | n + 1, v5, v6, z => (if (z.1 8 10) ≤ v6 then
  K v5 v6 z
  else
  (if iw_ok v6 40 then
  (if (z.1 (kf + 1) (Int32.toNatClampNeg v6)) = v3 then
  (if v6 = v4 then
  fX1_shareOf_L20 kf v1 v2 v3 v4 K n v5 (v6 + (1 : Int32)) z
  else
  (if iw_ok v6 40 then
  fX1_shareOf_L20 kf v1 v2 v3 v4 K n (v5 + ((1 : Int32) + (z.1 12 (Int32.toNatClampNeg v6)))) (v6 + (1 : Int32)) z
  else none))
  else
  fX1_shareOf_L20 kf v1 v2 v3 v4 K n v5 (v6 + (1 : Int32)) z)
  else none))
def fX1_shareOf_L117 (kf : Nat) (v2 : Int32) (v3 : Int32) (v4 : Int32) (v5 : Int32) (K : Int32 → Int32 → iw_M → Option (Int32 × iw_M)) : Nat → Int32 → Int32 → iw_M → Option (Int32 × iw_M)
  | 0, _, _, _ => none
  | n + 1, v6, v7, z => (if (z.1 8 10) ≤ v7 then
  K v6 v7 z
  else
  (if iw_ok v7 40 then
  (if (z.1 (kf + 1) (Int32.toNatClampNeg v7)) = v3 then
  (if v7 = v4 then
  fX1_shareOf_L117 kf v2 v3 v4 v5 K n v6 (v7 + (1 : Int32)) z
  else
  (if iw_ok v7 40 then
  (if v5 = 0 then none else
  fX1_shareOf_L117 kf v2 v3 v4 v5 K n (v6 - ((((1000 : Int32) - v2) * ((1 : Int32) + (z.1 12 (Int32.toNatClampNeg v7)))) / v5)) (v7 + (1 : Int32)) z)
  else none))
  else
  fX1_shareOf_L117 kf v2 v3 v4 v5 K n v6 (v7 + (1 : Int32)) z)
  else none))
def fX1_shareOf (kf : Nat) (v1 : Int32) (v2 : Int32) (z : iw_M) : Option (Int32 × iw_M) :=
  (if iw_ok v1 40 then
  ((fX1_headOf kf (z.1 (kf + 1) (Int32.toNatClampNeg v1)) z).bind (fun q1 =>
  fX1_shareOf_L20 kf v1 v2 (z.1 (kf + 1) (Int32.toNatClampNeg v1)) q1.1 (fun x5_2 x6_2 z_2 => (if x5_2 = 0 then
  some ((1000 : Int32), z_2)
  else
  (if v1 = q1.1 then
  fX1_shareOf_L117 kf v2 (z.1 (kf + 1) (Int32.toNatClampNeg v1)) q1.1 x5_2 (fun x6_3 x7_3 z_3 => some (x6_3, z_3)) iw_fu (1000 : Int32) (z.1 (kf + 1) (Int32.toNatClampNeg v1)) z_2
  else
  (if iw_ok v1 40 then
  (if x5_2 = 0 then none else
  some (((((1000 : Int32) - v2) * ((1 : Int32) + (z_2.1 12 (Int32.toNatClampNeg v1)))) / x5_2), z_2))
  else none)))) iw_fu (0 : Int32) (z.1 (kf + 1) (Int32.toNatClampNeg v1)) q1.2))
  else none)
abbrev bX1_shareOf : iw_B := (cX1_shareOf, 8, { frames := 2, cells := 0, slots := 0, locals := 45 }, yX1_shareOf.cls, (some .int))
set_option maxRecDepth 100000 in
set_option maxHeartbeats 4000000 in
theorem vX1_shareOf_L20 {G : iw_G} {X : iw_X} (hC : iw_C G iw_wX X bX1_shareOf) (kf : Nat) (hf : iw_isF kf) (v1 : Int32) (v2 : Int32) (v3 : Int32) (v4 : Int32) (K : Int32 → Int32 → iw_M → Option (Int32 × iw_M)) (hK : ∀ (v5 : Int32) (v6 : Int32) (z : iw_M), iw_V G iw_wX X bX1_shareOf iw_ei 73 [(0, .ref (iw_ad G kf)), (1, .int v1), (2, .int v2), (3, .int v3), (4, .int v4), (5, .int v5), (6, .int v6)] [] z (K v5 v6 z)) : ∀ (n : Nat) (v5 : Int32) (v6 : Int32) (z : iw_M), iw_V G iw_wX X bX1_shareOf iw_ei 20 [(0, .ref (iw_ad G kf)), (1, .int v1), (2, .int v2), (3, .int v3), (4, .int v4), (5, .int v5), (6, .int v6)] [] z (fX1_shareOf_L20 kf v1 v2 v3 v4 K n v5 v6 z) := by
  intro n
  induction n with
  | zero =>
    intro v5 v6 z
    exact V_none
  | succ n ih =>
    intro v5 v6 z
    simp only [fX1_shareOf_L20]
    refine V_il hC dX1_shareOf_20 6 rfl ?_
    refine V_aln hC dX1_shareOf_22 0 rfl ?_
    refine V_gr hC fl_X1_17 hf.2.2.1 hf.1 rfl dX1_shareOf_23 ?_
    refine V_gi hC fl_X1_21 (by decide) rfl rfl dX1_shareOf_26 ?_
    refine V_cge 73 hC dX1_shareOf_29 (by decide) ?_ ?_
    · exact hK _ _ _
    · refine V_aln hC dX1_shareOf_32 0 rfl ?_
      refine V_gr hC fl_X1_11 hf.2.2.1 hf.1 rfl dX1_shareOf_33 ?_
      refine V_il hC dX1_shareOf_36 6 rfl ?_
      refine V_ia hC hf.2.2.2 hf.2.1 dX1_shareOf_38 ?_
      refine V_iln hC dX1_shareOf_39 3 rfl ?_
      refine V_cne 67 hC dX1_shareOf_40 (by decide) ?_ ?_
      · refine V_inc (k := 6) (y := 1) [(6, .int _), (0, .ref _), (1, .int _), (2, .int _), (3, .int _), (4, .int _), (5, .int _)] hC dX1_shareOf_67 rfl (by decide) (by decide) rfl ?_
        refine V_goto 20 hC dX1_shareOf_70 (by decide) ?_
        refine V_sub [(0, .ref _), (1, .int _), (2, .int _), (3, .int _), (4, .int _), (5, .int _), (6, .int _)] [1, 2, 3, 4, 5, 6, 0] rfl ?_
        exact ih _ _ _
      · refine V_il hC dX1_shareOf_43 6 rfl ?_
        refine V_il hC dX1_shareOf_45 4 rfl ?_
        refine V_ceq 67 hC dX1_shareOf_47 (by decide) ?_ ?_
        · refine V_inc (k := 6) (y := 1) [(6, .int _), (0, .ref _), (1, .int _), (2, .int _), (3, .int _), (4, .int _), (5, .int _)] hC dX1_shareOf_67 rfl (by decide) (by decide) rfl ?_
          refine V_goto 20 hC dX1_shareOf_70 (by decide) ?_
          refine V_sub [(0, .ref _), (1, .int _), (2, .int _), (3, .int _), (4, .int _), (5, .int _), (6, .int _)] [1, 2, 3, 4, 5, 6, 0] rfl ?_
          exact ih _ _ _
        · refine V_il hC dX1_shareOf_50 5 rfl ?_
          refine V_ic (x := 1) hC dX1_shareOf_52 (by decide) ?_
          refine V_aln hC dX1_shareOf_53 0 rfl ?_
          refine V_gr hC fl_X1_17 hf.2.2.1 hf.1 rfl dX1_shareOf_54 ?_
          refine V_gr hC fl_X1_54 (by decide) rfl rfl dX1_shareOf_57 ?_
          refine V_il hC dX1_shareOf_60 6 rfl ?_
          refine V_ia hC (by decide) rfl dX1_shareOf_62 ?_
          refine V_iadd hC dX1_shareOf_63 ?_
          refine V_iadd hC dX1_shareOf_64 ?_
          refine V_is [(5, .int _), (0, .ref _), (1, .int _), (2, .int _), (3, .int _), (4, .int _), (6, .int _)] hC dX1_shareOf_65 (by decide) rfl ?_
          refine V_inc (k := 6) (y := 1) [(6, .int _), (5, .int _), (0, .ref _), (1, .int _), (2, .int _), (3, .int _), (4, .int _)] hC dX1_shareOf_67 rfl (by decide) (by decide) rfl ?_
          refine V_goto 20 hC dX1_shareOf_70 (by decide) ?_
          refine V_sub [(0, .ref _), (1, .int _), (2, .int _), (3, .int _), (4, .int _), (5, .int _), (6, .int _)] [2, 3, 4, 5, 6, 1, 0] rfl ?_
          exact ih _ _ _
set_option maxRecDepth 100000 in
set_option maxHeartbeats 4000000 in
theorem vX1_shareOf_L117 {G : iw_G} {X : iw_X} (hC : iw_C G iw_wX X bX1_shareOf) (kf : Nat) (hf : iw_isF kf) (v2 : Int32) (v3 : Int32) (v4 : Int32) (v5 : Int32) (K : Int32 → Int32 → iw_M → Option (Int32 × iw_M)) (hK : ∀ (v6 : Int32) (v7 : Int32) (z : iw_M), iw_V G iw_wX X bX1_shareOf iw_ei 179 [(0, .ref (iw_ad G kf)), (2, .int v2), (3, .int v3), (4, .int v4), (5, .int v5), (6, .int v6), (7, .int v7)] [] z (K v6 v7 z)) : ∀ (n : Nat) (v6 : Int32) (v7 : Int32) (z : iw_M), iw_V G iw_wX X bX1_shareOf iw_ei 117 [(0, .ref (iw_ad G kf)), (2, .int v2), (3, .int v3), (4, .int v4), (5, .int v5), (6, .int v6), (7, .int v7)] [] z (fX1_shareOf_L117 kf v2 v3 v4 v5 K n v6 v7 z) := by
  intro n
  induction n with
  | zero =>
    intro v6 v7 z
    exact V_none
  | succ n ih =>
    intro v6 v7 z
    simp only [fX1_shareOf_L117]
    refine V_il hC dX1_shareOf_117 6 rfl ?_
    refine V_aln hC dX1_shareOf_119 0 rfl ?_
    refine V_gr hC fl_X1_17 hf.2.2.1 hf.1 rfl dX1_shareOf_120 ?_
    refine V_gi hC fl_X1_21 (by decide) rfl rfl dX1_shareOf_123 ?_
    refine V_cge 179 hC dX1_shareOf_126 (by decide) ?_ ?_
    · exact hK _ _ _
    · refine V_aln hC dX1_shareOf_129 0 rfl ?_
      refine V_gr hC fl_X1_11 hf.2.2.1 hf.1 rfl dX1_shareOf_130 ?_
      refine V_il hC dX1_shareOf_133 6 rfl ?_
      refine V_ia hC hf.2.2.2 hf.2.1 dX1_shareOf_135 ?_
      refine V_iln hC dX1_shareOf_136 2 rfl ?_
      refine V_cne 173 hC dX1_shareOf_137 (by decide) ?_ ?_
      · refine V_inc (k := 6) (y := 1) [(7, .int _), (0, .ref _), (2, .int _), (3, .int _), (4, .int _), (5, .int _), (6, .int _)] hC dX1_shareOf_173 rfl (by decide) (by decide) rfl ?_
        refine V_goto 117 hC dX1_shareOf_176 (by decide) ?_
        refine V_sub [(0, .ref _), (2, .int _), (3, .int _), (4, .int _), (5, .int _), (6, .int _), (7, .int _)] [1, 2, 3, 4, 5, 6, 0] rfl ?_
        exact ih _ _ _
      · refine V_il hC dX1_shareOf_140 6 rfl ?_
        refine V_il hC dX1_shareOf_142 3 rfl ?_
        refine V_ceq 173 hC dX1_shareOf_144 (by decide) ?_ ?_
        · refine V_inc (k := 6) (y := 1) [(7, .int _), (0, .ref _), (2, .int _), (3, .int _), (4, .int _), (5, .int _), (6, .int _)] hC dX1_shareOf_173 rfl (by decide) (by decide) rfl ?_
          refine V_goto 117 hC dX1_shareOf_176 (by decide) ?_
          refine V_sub [(0, .ref _), (2, .int _), (3, .int _), (4, .int _), (5, .int _), (6, .int _), (7, .int _)] [1, 2, 3, 4, 5, 6, 0] rfl ?_
          exact ih _ _ _
        · refine V_il hC dX1_shareOf_147 5 rfl ?_
          refine V_sip (x := 1000) hC dX1_shareOf_149 (by decide) ?_
          refine V_iln hC dX1_shareOf_152 1 rfl ?_
          refine V_isub hC dX1_shareOf_153 ?_
          refine V_ic (x := 1) hC dX1_shareOf_154 (by decide) ?_
          refine V_aln hC dX1_shareOf_155 0 rfl ?_
          refine V_gr hC fl_X1_17 hf.2.2.1 hf.1 rfl dX1_shareOf_156 ?_
          refine V_gr hC fl_X1_54 (by decide) rfl rfl dX1_shareOf_159 ?_
          refine V_il hC dX1_shareOf_162 6 rfl ?_
          refine V_ia hC (by decide) rfl dX1_shareOf_164 ?_
          refine V_iadd hC dX1_shareOf_165 ?_
          refine V_imul hC dX1_shareOf_166 ?_
          refine V_il hC dX1_shareOf_167 4 rfl ?_
          refine V_idiv hC dX1_shareOf_169 ?_
          refine V_isub hC dX1_shareOf_170 ?_
          refine V_is [(6, .int _), (0, .ref _), (2, .int _), (3, .int _), (4, .int _), (5, .int _), (7, .int _)] hC dX1_shareOf_171 (by decide) rfl ?_
          refine V_inc (k := 6) (y := 1) [(7, .int _), (6, .int _), (0, .ref _), (2, .int _), (3, .int _), (4, .int _), (5, .int _)] hC dX1_shareOf_173 rfl (by decide) (by decide) rfl ?_
          refine V_goto 117 hC dX1_shareOf_176 (by decide) ?_
          refine V_sub [(0, .ref _), (2, .int _), (3, .int _), (4, .int _), (5, .int _), (6, .int _), (7, .int _)] [2, 3, 4, 5, 6, 1, 0] rfl ?_
          exact ih _ _ _
set_option maxRecDepth 100000 in
set_option maxHeartbeats 4000000 in
theorem kX1_shareOf (G : iw_G) (kf : Nat) (hf : iw_isF kf) (v1 : Int32) (v2 : Int32) (z : iw_M) : iw_K G iw_wX yX1_shareOf cX1_shareOf 8 (some .int) 2 45 iw_ei [.ref (iw_ad G kf), .int v1, .int v2] z (fX1_shareOf kf v1 v2 z) := by
  refine iw_of [(0, .ref (iw_ad G kf)), (1, .int v1), (2, .int v2)] (by decide +kernel) (Nat.le_of_ble_eq_true rfl) rfl ?_
  intro X hC
  unfold fX1_shareOf
  refine V_aln hC dX1_shareOf_0 0 rfl ?_
  refine V_gr hC fl_X1_11 hf.2.2.1 hf.1 rfl dX1_shareOf_1 ?_
  refine V_iln hC dX1_shareOf_4 1 rfl ?_
  refine V_ia hC hf.2.2.2 hf.2.1 dX1_shareOf_5 ?_
  refine V_isn [(3, .int _), (0, .ref _), (1, .int _), (2, .int _)] hC dX1_shareOf_6 (by decide) rfl ?_
  refine V_aln hC dX1_shareOf_7 1 rfl ?_
  refine V_iln hC dX1_shareOf_8 0 rfl ?_
  refine V_cvi [] hC cv_X1_50 hf.2.2.1 hf.1 rfl (kX1_headOf G kf hf _ _) rfl rfl (Nat.le_of_ble_eq_true rfl) ⟨by decide, by decide⟩ dX1_shareOf_9 ?_
  intro q1
  refine V_is [(4, .int _), (3, .int _), (0, .ref _), (1, .int _), (2, .int _)] hC dX1_shareOf_12 (by decide) rfl ?_
  refine V_ic (x := 0) hC dX1_shareOf_14 (by decide) ?_
  refine V_is [(5, .int _), (4, .int _), (3, .int _), (0, .ref _), (1, .int _), (2, .int _)] hC dX1_shareOf_15 (by decide) rfl ?_
  refine V_iln hC dX1_shareOf_17 2 rfl ?_
  refine V_is [(6, .int _), (5, .int _), (4, .int _), (3, .int _), (0, .ref _), (1, .int _), (2, .int _)] hC dX1_shareOf_18 (by decide) rfl ?_
  refine V_sub [(0, .ref _), (1, .int _), (2, .int _), (3, .int _), (4, .int _), (5, .int _), (6, .int _)] [4, 5, 6, 3, 2, 1, 0] rfl ?_
  refine vX1_shareOf_L20 hC kf hf _ _ _ _ _ ?_ _ _ _ _
  intro x5_2 x6_2 z_2
  refine V_il hC dX1_shareOf_73 5 rfl ?_
  refine V_ine 82 hC dX1_shareOf_75 (by decide) ?_ ?_
  · refine V_iln hC dX1_shareOf_82 1 rfl ?_
    refine V_il hC dX1_shareOf_83 4 rfl ?_
    refine V_ceq 109 hC dX1_shareOf_85 (by decide) ?_ ?_
    · refine V_sip (x := 1000) hC dX1_shareOf_109 (by decide) ?_
      refine V_is [(6, .int _), (0, .ref _), (1, .int _), (2, .int _), (3, .int _), (4, .int _), (5, .int _)] hC dX1_shareOf_112 (by decide) rfl ?_
      refine V_iln hC dX1_shareOf_114 4 rfl ?_
      refine V_is [(7, .int _), (6, .int _), (0, .ref _), (1, .int _), (2, .int _), (3, .int _), (4, .int _), (5, .int _)] hC dX1_shareOf_115 (by decide) rfl ?_
      refine V_sub [(0, .ref _), (2, .int _), (3, .int _), (4, .int _), (5, .int _), (6, .int _), (7, .int _)] [2, 4, 5, 6, 7, 1, 0] rfl ?_
      refine vX1_shareOf_L117 hC kf hf _ _ _ _ _ ?_ _ _ _ _
      intro x6_3 x7_3 z_3
      refine V_il hC dX1_shareOf_179 5 rfl ?_
      exact V_ir hC dX1_shareOf_181 rfl
    · refine V_sip (x := 1000) hC dX1_shareOf_88 (by decide) ?_
      refine V_iln hC dX1_shareOf_91 2 rfl ?_
      refine V_isub hC dX1_shareOf_92 ?_
      refine V_ic (x := 1) hC dX1_shareOf_93 (by decide) ?_
      refine V_aln hC dX1_shareOf_94 0 rfl ?_
      refine V_gr hC fl_X1_17 hf.2.2.1 hf.1 rfl dX1_shareOf_95 ?_
      refine V_gr hC fl_X1_54 (by decide) rfl rfl dX1_shareOf_98 ?_
      refine V_iln hC dX1_shareOf_101 1 rfl ?_
      refine V_ia hC (by decide) rfl dX1_shareOf_102 ?_
      refine V_iadd hC dX1_shareOf_103 ?_
      refine V_imul hC dX1_shareOf_104 ?_
      refine V_il hC dX1_shareOf_105 5 rfl ?_
      refine V_idiv hC dX1_shareOf_107 ?_
      exact V_ir hC dX1_shareOf_108 rfl
  · refine V_sip (x := 1000) hC dX1_shareOf_78 (by decide) ?_
    exact V_ir hC dX1_shareOf_81 rfl
def fX3_handsOf (v1 : Int32) (z : iw_M) : Option (Int64 × iw_M) :=
  (if iw_ok v1 40 then
  (if iw_ok v1 40 then
  some (((z.2 18 (Int32.toNatClampNeg v1)) ||| ((1 : Int64) <<< (Int32.toInt64 (z.1 9 (Int32.toNatClampNeg v1)) &&& 63))), z)
  else none)
  else none)
abbrev bX3_handsOf : iw_B := (cX3_handsOf, 2, { frames := 0, cells := 0, slots := 0, locals := 0 }, yX3_handsOf.cls, (some .long))
set_option maxRecDepth 100000 in
set_option maxHeartbeats 4000000 in
theorem kX3_handsOf (G : iw_G) (v1 : Int32) (z : iw_M) : iw_K G iw_wX yX3_handsOf cX3_handsOf 2 (some .long) 0 0 iw_el [.ref (iw_ad G 8), .int v1] z (fX3_handsOf v1 z) := by
  refine iw_of [(0, .ref (iw_ad G 8)), (1, .int v1)] (by decide +kernel) (Nat.le_of_ble_eq_true rfl) rfl ?_
  intro X hC
  unfold fX3_handsOf
  refine V_aln hC dX3_handsOf_0 0 rfl ?_
  refine V_gr hC fl_X3_39 (by decide) rfl rfl dX3_handsOf_1 ?_
  refine V_iln hC dX3_handsOf_4 1 rfl ?_
  refine V_la hC (by decide) rfl dX3_handsOf_5 ?_
  refine V_lc (x := 1) hC dX3_handsOf_6 (by decide) ?_
  refine V_aln hC dX3_handsOf_7 0 rfl ?_
  refine V_gr hC fl_X3_11 (by decide) rfl rfl dX3_handsOf_8 ?_
  refine V_iln hC dX3_handsOf_11 1 rfl ?_
  refine V_ia hC (by decide) rfl dX3_handsOf_12 ?_
  refine V_lshl hC dX3_handsOf_13 ?_
  refine V_lor hC dX3_handsOf_14 ?_
  exact V_lr hC dX3_handsOf_15 rfl
def fX1_handsOf_L5 (kf : Nat) (v1 : Int32) (K : Int64 → Int32 → iw_M → Option (Int64 × iw_M)) : Nat → Int64 → Int32 → iw_M → Option (Int64 × iw_M)
  | 0, _, _, _ => none
  | n + 1, v2, v4, z => (if (z.1 8 10) ≤ v4 then
  K v2 v4 z
  else
  (if iw_ok v4 40 then
  (if (z.1 (kf + 1) (Int32.toNatClampNeg v4)) = v1 then
  ((fX3_handsOf v4 z).bind (fun q1 =>
  fX1_handsOf_L5 kf v1 K n (v2 ||| q1.1) (v4 + (1 : Int32)) q1.2))
  else
  fX1_handsOf_L5 kf v1 K n v2 (v4 + (1 : Int32)) z)
  else none))
def fX1_handsOf (kf : Nat) (v1 : Int32) (z : iw_M) : Option (Int64 × iw_M) :=
  fX1_handsOf_L5 kf v1 (fun x2_2 x4_2 z_2 => some (x2_2, z_2)) iw_fu (0 : Int64) v1 z
abbrev bX1_handsOf : iw_B := (cX1_handsOf, 5, { frames := 1, cells := 0, slots := 0, locals := 21 }, yX1_handsOf.cls, (some .long))
set_option maxRecDepth 100000 in
set_option maxHeartbeats 4000000 in
theorem vX1_handsOf_L5 {G : iw_G} {X : iw_X} (hC : iw_C G iw_wX X bX1_handsOf) (kf : Nat) (hf : iw_isF kf) (v1 : Int32) (K : Int64 → Int32 → iw_M → Option (Int64 × iw_M)) (hK : ∀ (v2 : Int64) (v4 : Int32) (z : iw_M), iw_V G iw_wX X bX1_handsOf iw_el 46 [(0, .ref (iw_ad G kf)), (1, .int v1), (2, .long v2), (4, .int v4)] [] z (K v2 v4 z)) : ∀ (n : Nat) (v2 : Int64) (v4 : Int32) (z : iw_M), iw_V G iw_wX X bX1_handsOf iw_el 5 [(0, .ref (iw_ad G kf)), (1, .int v1), (2, .long v2), (4, .int v4)] [] z (fX1_handsOf_L5 kf v1 K n v2 v4 z) := by
  intro n
  induction n with
  | zero =>
    intro v2 v4 z
    exact V_none
  | succ n ih =>
    intro v2 v4 z
    simp only [fX1_handsOf_L5]
    refine V_il hC dX1_handsOf_5 3 rfl ?_
    refine V_aln hC dX1_handsOf_7 0 rfl ?_
    refine V_gr hC fl_X1_17 hf.2.2.1 hf.1 rfl dX1_handsOf_8 ?_
    refine V_gi hC fl_X1_21 (by decide) rfl rfl dX1_handsOf_11 ?_
    refine V_cge 46 hC dX1_handsOf_14 (by decide) ?_ ?_
    · exact hK _ _ _
    · refine V_aln hC dX1_handsOf_17 0 rfl ?_
      refine V_gr hC fl_X1_11 hf.2.2.1 hf.1 rfl dX1_handsOf_18 ?_
      refine V_il hC dX1_handsOf_21 3 rfl ?_
      refine V_ia hC hf.2.2.2 hf.2.1 dX1_handsOf_23 ?_
      refine V_iln hC dX1_handsOf_24 1 rfl ?_
      refine V_cne 40 hC dX1_handsOf_25 (by decide) ?_ ?_
      · refine V_inc (k := 3) (y := 1) [(4, .int _), (0, .ref _), (1, .int _), (2, .long _)] hC dX1_handsOf_40 rfl (by decide) (by decide) rfl ?_
        refine V_goto 5 hC dX1_handsOf_43 (by decide) ?_
        refine V_sub [(0, .ref _), (1, .int _), (2, .long _), (4, .int _)] [1, 2, 3, 0] rfl ?_
        exact ih _ _ _
      · refine V_lln hC dX1_handsOf_28 2 rfl ?_
        refine V_aln hC dX1_handsOf_29 0 rfl ?_
        refine V_gr hC fl_X1_17 hf.2.2.1 hf.1 rfl dX1_handsOf_30 ?_
        refine V_il hC dX1_handsOf_33 3 rfl ?_
        refine V_cvl [.long _] hC cv_X1_57 (by decide) rfl rfl (kX3_handsOf G _ _) rfl rfl (Nat.le_of_ble_eq_true rfl) ⟨by decide, by decide⟩ dX1_handsOf_35 ?_
        intro q1
        refine V_lor hC dX1_handsOf_38 ?_
        refine V_lsn [(2, .long _), (0, .ref _), (1, .int _), (4, .int _)] hC dX1_handsOf_39 (by decide) rfl ?_
        refine V_inc (k := 3) (y := 1) [(4, .int _), (2, .long _), (0, .ref _), (1, .int _)] hC dX1_handsOf_40 rfl (by decide) (by decide) rfl ?_
        refine V_goto 5 hC dX1_handsOf_43 (by decide) ?_
        refine V_sub [(0, .ref _), (1, .int _), (2, .long _), (4, .int _)] [2, 3, 1, 0] rfl ?_
        exact ih _ _ _
set_option maxRecDepth 100000 in
set_option maxHeartbeats 4000000 in
theorem kX1_handsOf (G : iw_G) (kf : Nat) (hf : iw_isF kf) (v1 : Int32) (z : iw_M) : iw_K G iw_wX yX1_handsOf cX1_handsOf 5 (some .long) 1 21 iw_el [.ref (iw_ad G kf), .int v1] z (fX1_handsOf kf v1 z) := by
  refine iw_of [(0, .ref (iw_ad G kf)), (1, .int v1)] (by decide +kernel) (Nat.le_of_ble_eq_true rfl) rfl ?_
  intro X hC
  unfold fX1_handsOf
  refine V_lc (x := 0) hC dX1_handsOf_0 (by decide) ?_
  refine V_lsn [(2, .long _), (0, .ref _), (1, .int _)] hC dX1_handsOf_1 (by decide) rfl ?_
  refine V_iln hC dX1_handsOf_2 2 rfl ?_
  refine V_is [(4, .int _), (2, .long _), (0, .ref _), (1, .int _)] hC dX1_handsOf_3 (by decide) rfl ?_
  refine V_sub [(0, .ref _), (1, .int _), (2, .long _), (4, .int _)] [2, 3, 1, 0] rfl ?_
  refine vX1_handsOf_L5 hC kf hf _ _ ?_ _ _ _ _
  intro x2_2 x4_2 z_2
  refine V_lln hC dX1_handsOf_46 2 rfl ?_
  exact V_lr hC dX1_handsOf_47 rfl
def fX1_harmOf_L4 (kf : Nat) (v1 : Int32) (K : Int32 → Int32 → iw_M → Option (Int32 × iw_M)) : Nat → Int32 → Int32 → iw_M → Option (Int32 × iw_M)
  | 0, _, _, _ => none
  | n + 1, v2, v3, z => (if (z.1 8 10) ≤ v3 then
  K v2 v3 z
  else
  (if iw_ok v3 40 then
  (if (z.1 (kf + 1) (Int32.toNatClampNeg v3)) = v1 then
  (if iw_ok v3 40 then
  fX1_harmOf_L4 kf v1 K n (v2 + (z.1 17 (Int32.toNatClampNeg v3))) (v3 + (1 : Int32)) z
  else none)
  else
  fX1_harmOf_L4 kf v1 K n v2 (v3 + (1 : Int32)) z)
  else none))
def fX1_harmOf (kf : Nat) (v1 : Int32) (z : iw_M) : Option (Int32 × iw_M) :=
  fX1_harmOf_L4 kf v1 (fun x2_1 x3_1 z_1 => some (x2_1, z_1)) iw_fu (0 : Int32) v1 z
abbrev bX1_harmOf : iw_B := (cX1_harmOf, 4, { frames := 0, cells := 0, slots := 0, locals := 0 }, yX1_harmOf.cls, (some .int))
set_option maxRecDepth 100000 in
set_option maxHeartbeats 4000000 in
theorem vX1_harmOf_L4 {G : iw_G} {X : iw_X} (hC : iw_C G iw_wX X bX1_harmOf) (kf : Nat) (hf : iw_isF kf) (v1 : Int32) (K : Int32 → Int32 → iw_M → Option (Int32 × iw_M)) (hK : ∀ (v2 : Int32) (v3 : Int32) (z : iw_M), iw_V G iw_wX X bX1_harmOf iw_ei 43 [(0, .ref (iw_ad G kf)), (1, .int v1), (2, .int v2), (3, .int v3)] [] z (K v2 v3 z)) : ∀ (n : Nat) (v2 : Int32) (v3 : Int32) (z : iw_M), iw_V G iw_wX X bX1_harmOf iw_ei 4 [(0, .ref (iw_ad G kf)), (1, .int v1), (2, .int v2), (3, .int v3)] [] z (fX1_harmOf_L4 kf v1 K n v2 v3 z) := by
  intro n
  induction n with
  | zero =>
    intro v2 v3 z
    exact V_none
  | succ n ih =>
    intro v2 v3 z
    simp only [fX1_harmOf_L4]
    refine V_iln hC dX1_harmOf_4 3 rfl ?_
    refine V_aln hC dX1_harmOf_5 0 rfl ?_
    refine V_gr hC fl_X1_17 hf.2.2.1 hf.1 rfl dX1_harmOf_6 ?_
    refine V_gi hC fl_X1_21 (by decide) rfl rfl dX1_harmOf_9 ?_
    refine V_cge 43 hC dX1_harmOf_12 (by decide) ?_ ?_
    · exact hK _ _ _
    · refine V_aln hC dX1_harmOf_15 0 rfl ?_
      refine V_gr hC fl_X1_11 hf.2.2.1 hf.1 rfl dX1_harmOf_16 ?_
      refine V_iln hC dX1_harmOf_19 3 rfl ?_
      refine V_ia hC hf.2.2.2 hf.2.1 dX1_harmOf_20 ?_
      refine V_iln hC dX1_harmOf_21 1 rfl ?_
      refine V_cne 37 hC dX1_harmOf_22 (by decide) ?_ ?_
      · refine V_inc (k := 3) (y := 1) [(3, .int _), (0, .ref _), (1, .int _), (2, .int _)] hC dX1_harmOf_37 rfl (by decide) (by decide) rfl ?_
        refine V_goto 4 hC dX1_harmOf_40 (by decide) ?_
        refine V_sub [(0, .ref _), (1, .int _), (2, .int _), (3, .int _)] [1, 2, 3, 0] rfl ?_
        exact ih _ _ _
      · refine V_iln hC dX1_harmOf_25 2 rfl ?_
        refine V_aln hC dX1_harmOf_26 0 rfl ?_
        refine V_gr hC fl_X1_17 hf.2.2.1 hf.1 rfl dX1_harmOf_27 ?_
        refine V_gr hC fl_X1_61 (by decide) rfl rfl dX1_harmOf_30 ?_
        refine V_iln hC dX1_harmOf_33 3 rfl ?_
        refine V_ia hC (by decide) rfl dX1_harmOf_34 ?_
        refine V_iadd hC dX1_harmOf_35 ?_
        refine V_isn [(2, .int _), (0, .ref _), (1, .int _), (3, .int _)] hC dX1_harmOf_36 (by decide) rfl ?_
        refine V_inc (k := 3) (y := 1) [(3, .int _), (2, .int _), (0, .ref _), (1, .int _)] hC dX1_harmOf_37 rfl (by decide) (by decide) rfl ?_
        refine V_goto 4 hC dX1_harmOf_40 (by decide) ?_
        refine V_sub [(0, .ref _), (1, .int _), (2, .int _), (3, .int _)] [2, 3, 1, 0] rfl ?_
        exact ih _ _ _
set_option maxRecDepth 100000 in
set_option maxHeartbeats 4000000 in
theorem kX1_harmOf (G : iw_G) (kf : Nat) (hf : iw_isF kf) (v1 : Int32) (z : iw_M) : iw_K G iw_wX yX1_harmOf cX1_harmOf 4 (some .int) 0 0 iw_ei [.ref (iw_ad G kf), .int v1] z (fX1_harmOf kf v1 z) := by
  refine iw_of [(0, .ref (iw_ad G kf)), (1, .int v1)] (by decide +kernel) (Nat.le_of_ble_eq_true rfl) rfl ?_
  intro X hC
  unfold fX1_harmOf
  refine V_ic (x := 0) hC dX1_harmOf_0 (by decide) ?_
  refine V_isn [(2, .int _), (0, .ref _), (1, .int _)] hC dX1_harmOf_1 (by decide) rfl ?_
  refine V_iln hC dX1_harmOf_2 2 rfl ?_
  refine V_isn [(3, .int _), (2, .int _), (0, .ref _), (1, .int _)] hC dX1_harmOf_3 (by decide) rfl ?_
  refine V_sub [(0, .ref _), (1, .int _), (2, .int _), (3, .int _)] [2, 3, 1, 0] rfl ?_
  refine vX1_harmOf_L4 hC kf hf _ _ ?_ _ _ _ _
  intro x2_1 x3_1 z_1
  refine V_iln hC dX1_harmOf_43 2 rfl ?_
  exact V_ir hC dX1_harmOf_44 rfl
def fX1_hasTaken_L2 (kf : Nat) (v1 : Int32) (K : Int32 → iw_M → Option (Int32 × iw_M)) : Nat → Int32 → iw_M → Option (Int32 × iw_M)
  | 0, _, _ => none
  | n + 1, v2, z => (if (z.1 8 10) ≤ v2 then
  K v2 z
  else
  (if iw_ok v2 40 then
  (if (z.1 (kf + 1) (Int32.toNatClampNeg v2)) = v1 then
  (if iw_ok v2 40 then
  (if (z.1 14 (Int32.toNatClampNeg v2)) = (1 : Int32) then
  some ((1 : Int32), z)
  else
  fX1_hasTaken_L2 kf v1 K n (v2 + (1 : Int32)) z)
  else none)
  else
  fX1_hasTaken_L2 kf v1 K n (v2 + (1 : Int32)) z)
  else none))
def fX1_hasTaken (kf : Nat) (v1 : Int32) (z : iw_M) : Option (Int32 × iw_M) :=
  fX1_hasTaken_L2 kf v1 (fun x2_1 z_1 => some ((0 : Int32), z_1)) iw_fu v1 z
abbrev bX1_hasTaken : iw_B := (cX1_hasTaken, 3, { frames := 0, cells := 0, slots := 0, locals := 0 }, yX1_hasTaken.cls, (some .boolean))
set_option maxRecDepth 100000 in
set_option maxHeartbeats 4000000 in
theorem vX1_hasTaken_L2 {G : iw_G} {X : iw_X} (hC : iw_C G iw_wX X bX1_hasTaken) (kf : Nat) (hf : iw_isF kf) (v1 : Int32) (K : Int32 → iw_M → Option (Int32 × iw_M)) (hK : ∀ (v2 : Int32) (z : iw_M), iw_V G iw_wX X bX1_hasTaken iw_ei 44 [(0, .ref (iw_ad G kf)), (1, .int v1), (2, .int v2)] [] z (K v2 z)) : ∀ (n : Nat) (v2 : Int32) (z : iw_M), iw_V G iw_wX X bX1_hasTaken iw_ei 2 [(0, .ref (iw_ad G kf)), (1, .int v1), (2, .int v2)] [] z (fX1_hasTaken_L2 kf v1 K n v2 z) := by
  intro n
  induction n with
  | zero =>
    intro v2 z
    exact V_none
  | succ n ih =>
    intro v2 z
    simp only [fX1_hasTaken_L2]
    refine V_iln hC dX1_hasTaken_2 2 rfl ?_
    refine V_aln hC dX1_hasTaken_3 0 rfl ?_
    refine V_gr hC fl_X1_17 hf.2.2.1 hf.1 rfl dX1_hasTaken_4 ?_
    refine V_gi hC fl_X1_21 (by decide) rfl rfl dX1_hasTaken_7 ?_
    refine V_cge 44 hC dX1_hasTaken_10 (by decide) ?_ ?_
    · exact hK _ _
    · refine V_aln hC dX1_hasTaken_13 0 rfl ?_
      refine V_gr hC fl_X1_11 hf.2.2.1 hf.1 rfl dX1_hasTaken_14 ?_
      refine V_iln hC dX1_hasTaken_17 2 rfl ?_
      refine V_ia hC hf.2.2.2 hf.2.1 dX1_hasTaken_18 ?_
      refine V_iln hC dX1_hasTaken_19 1 rfl ?_
      refine V_cne 38 hC dX1_hasTaken_20 (by decide) ?_ ?_
      · refine V_inc (k := 2) (y := 1) [(2, .int _), (0, .ref _), (1, .int _)] hC dX1_hasTaken_38 rfl (by decide) (by decide) rfl ?_
        refine V_goto 2 hC dX1_hasTaken_41 (by decide) ?_
        refine V_sub [(0, .ref _), (1, .int _), (2, .int _)] [1, 2, 0] rfl ?_
        exact ih _ _
      · refine V_aln hC dX1_hasTaken_23 0 rfl ?_
        refine V_gr hC fl_X1_17 hf.2.2.1 hf.1 rfl dX1_hasTaken_24 ?_
        refine V_gr hC fl_X1_64 (by decide) rfl rfl dX1_hasTaken_27 ?_
        refine V_iln hC dX1_hasTaken_30 2 rfl ?_
        refine V_ia hC (by decide) rfl dX1_hasTaken_31 ?_
        refine V_ic (x := 1) hC dX1_hasTaken_32 (by decide) ?_
        refine V_cne 38 hC dX1_hasTaken_33 (by decide) ?_ ?_
        · refine V_inc (k := 2) (y := 1) [(2, .int _), (0, .ref _), (1, .int _)] hC dX1_hasTaken_38 rfl (by decide) (by decide) rfl ?_
          refine V_goto 2 hC dX1_hasTaken_41 (by decide) ?_
          refine V_sub [(0, .ref _), (1, .int _), (2, .int _)] [1, 2, 0] rfl ?_
          exact ih _ _
        · refine V_ic (x := 1) hC dX1_hasTaken_36 (by decide) ?_
          exact V_zr hC dX1_hasTaken_37 rfl rfl
set_option maxRecDepth 100000 in
set_option maxHeartbeats 4000000 in
theorem kX1_hasTaken (G : iw_G) (kf : Nat) (hf : iw_isF kf) (v1 : Int32) (z : iw_M) : iw_K G iw_wX yX1_hasTaken cX1_hasTaken 3 (some .boolean) 0 0 iw_ei [.ref (iw_ad G kf), .int v1] z (fX1_hasTaken kf v1 z) := by
  refine iw_of [(0, .ref (iw_ad G kf)), (1, .int v1)] (by decide +kernel) (Nat.le_of_ble_eq_true rfl) rfl ?_
  intro X hC
  unfold fX1_hasTaken
  refine V_iln hC dX1_hasTaken_0 1 rfl ?_
  refine V_isn [(2, .int _), (0, .ref _), (1, .int _)] hC dX1_hasTaken_1 (by decide) rfl ?_
  refine V_sub [(0, .ref _), (1, .int _), (2, .int _)] [1, 2, 0] rfl ?_
  refine vX1_hasTaken_L2 hC kf hf _ _ ?_ _ _ _
  intro x2_1 z_1
  refine V_ic (x := 0) hC dX1_hasTaken_44 (by decide) ?_
  exact V_zr hC dX1_hasTaken_45 rfl rfl
