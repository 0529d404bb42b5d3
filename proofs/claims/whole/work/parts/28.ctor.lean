theorem oi_i : Cond.instanceMethod objectInit ∈ iw_tbl := iw_mm 53 (by decide +kernel) rfl
theorem oi_c : Cond.code objectInit ⟨#[0xb1]⟩ 1 none ∈ iw_tbl := iw_mm 54 (by decide +kernel) rfl
theorem ac_int : Cond.arrayClass .int ∈ iw_tbl := iw_mm 88 (by decide +kernel) rfl
theorem aq_int (s : State) : ∀ c1 c2, va_RA s c1 .int → va_RA s c2 .int → c1 = c2 := fun c1 c2 h1 h2 => Option.some.inj (h1.symm.trans h2)
theorem ac_boolean : Cond.arrayClass .boolean ∈ iw_tbl := iw_mm 90 (by decide +kernel) rfl
theorem aq_boolean (s : State) : ∀ c1 c2, va_RA s c1 .boolean → va_RA s c2 .boolean → c1 = c2 := fun c1 c2 h1 h2 => Option.some.inj (h1.symm.trans h2)
theorem ac_long : Cond.arrayClass .long ∈ iw_tbl := iw_mm 89 (by decide +kernel) rfl
theorem aq_long (s : State) : ∀ c1 c2, va_RA s c1 .long → va_RA s c2 .long → c1 = c2 := fun c1 c2 h1 h2 => Option.some.inj (h1.symm.trans h2)
def iw_rX0 (cy : FieldType → ClassId) (h0 : Nat) (u : Nat → Nat) : va_W := [(h0, .inr (0, [.ref (u 0), .ref (u 1)])), (u 0, .inl (cy .int, 10, .inl (fun _ => 0))), (u 1, .inl (cy .int, 10, .inl (upd (upd (upd (upd (upd (upd (upd (upd (upd (upd (fun _ => 0) (Int32.toNatClampNeg 0) 100) (Int32.toNatClampNeg 1) 100) (Int32.toNatClampNeg 2) 100) (Int32.toNatClampNeg 3) 100) (Int32.toNatClampNeg 4) 100) (Int32.toNatClampNeg 5) 100) (Int32.toNatClampNeg 6) 100) (Int32.toNatClampNeg 7) 100) (Int32.toNatClampNeg 8) 100) (Int32.toNatClampNeg 9) 100)))]
def iw_rX1 (cy : FieldType → ClassId) (h0 : Nat) (a1 : Nat) (u : Nat → Nat) : va_W := [(h0, .inr (1, [.ref a1, .ref (u 0)])), (u 0, .inl (cy .int, 40, .inl (fun _ => 0)))]
def iw_rX2 (cy : FieldType → ClassId) (h0 : Nat) (u : Nat → Nat) : va_W := [(h0, .inr (2, [.ref (u 0), .ref (u 1), .ref (u 2), .ref (u 3), .ref (u 4), .ref (u 5), .int 0])), (u 0, .inl (cy .int, 40, .inl (fun _ => 0))), (u 1, .inl (cy .long, 40, .inr (.inl (fun _ => 0)))), (u 2, .inl (cy .boolean, 40, .inl (fun _ => 0))), (u 3, .inl (cy .int, 40, .inl (fun _ => 0))), (u 4, .inl (cy .int, 40, .inl (fun _ => 0))), (u 5, .inl (cy .int, 40, .inl (fun _ => 0)))]
def iw_rX3 (cy : FieldType → ClassId) (h0 : Nat) (u : Nat → Nat) : va_W := [(h0, .inr (3, [.ref (u 0), .ref (u 1), .ref (u 2), .ref (u 3), .ref (u 4), .ref (u 5), .ref (u 6), .ref (u 7), .ref (u 8), .ref (u 9), .int 0])), (u 0, .inl (cy .int, 40, .inl (fun _ => 0))), (u 1, .inl (cy .int, 40, .inl (fun _ => 0))), (u 2, .inl (cy .int, 40, .inl (fun _ => 0))), (u 3, .inl (cy .int, 40, .inl (fun _ => 0))), (u 4, .inl (cy .int, 40, .inl (fun _ => 0))), (u 5, .inl (cy .int, 40, .inl (fun _ => 0))), (u 6, .inl (cy .int, 40, .inl (fun _ => 0))), (u 7, .inl (cy .int, 40, .inl (fun _ => 0))), (u 8, .inl (cy .int, 40, .inl (fun _ => 0))), (u 9, .inl (cy .long, 40, .inr (.inl (fun _ => 0))))]
def iw_rX4 (cy : FieldType → ClassId) (h0 : Nat) (u : Nat → Nat) : va_W := [(h0, .inr (4, [.ref (u 0), .ref (u 1), .ref (u 2), .ref (u 3), .int 0])), (u 0, .inl (cy .int, 200, .inl (fun _ => 0))), (u 1, .inl (cy .int, 200, .inl (fun _ => 0))), (u 2, .inl (cy .boolean, 200, .inl (fun _ => 0))), (u 3, .inl (cy .int, 200, .inl (fun _ => 0)))]
def iw_rX5 (cy : FieldType → ClassId) (h0 : Nat) (u : Nat → Nat) : va_W := [(h0, .inr (5, [.ref (u 0), .ref (u 1), .ref (u 2), .ref (u 3), .int 0])), (u 0, .inl (cy .int, 20, .inl (fun _ => 0))), (u 1, .inl (cy .int, 20, .inl (fun _ => 0))), (u 2, .inl (cy .int, 20, .inl (fun _ => 0))), (u 3, .inl (cy .int, 20, .inl (fun _ => 0)))]
def iw_rX6 (cy : FieldType → ClassId) (h0 : Nat) (u : Nat → Nat) : va_W := [(h0, .inr (6, [.ref (u 0), .ref (u 1), .ref (u 2), .ref (u 3), .ref (u 4), .ref (u 5)])), (u 0, .inl (cy .int, 10, .inl (fun _ => 0))), (u 1, .inl (cy .int, 10, .inl (fun _ => 0))), (u 2, .inl (cy .int, 10, .inl (fun _ => 0))), (u 3, .inl (cy .int, 10, .inl (fun _ => 0))), (u 4, .inl (cy .int, 10, .inl (fun _ => 0))), (u 5, .inl (cy .int, 10, .inl (fun _ => 0)))]
def iw_rX7 (cy : FieldType → ClassId) (h0 : Nat) (u : Nat → Nat) : va_W := [(h0, .inr (7, [.ref (u 0), .int 0])), (u 0, .inl (cy .int, 20, .inl (fun _ => 0)))]
def iw_zX : iw_M := (fun k => match k with
  | 25 => (upd (upd (upd (upd (upd (upd (upd (upd (upd (upd (fun _ => 0) (Int32.toNatClampNeg 0) 100) (Int32.toNatClampNeg 1) 100) (Int32.toNatClampNeg 2) 100) (Int32.toNatClampNeg 3) 100) (Int32.toNatClampNeg 4) 100) (Int32.toNatClampNeg 5) 100) (Int32.toNatClampNeg 6) 100) (Int32.toNatClampNeg 7) 100) (Int32.toNatClampNeg 8) 100) (Int32.toNatClampNeg 9) 100)
  | 45 => (upd (upd (upd (upd (fun _ => 0) (Int32.toNatClampNeg 0) 4) (Int32.toNatClampNeg 1) 600) (Int32.toNatClampNeg 2) 30) (Int32.toNatClampNeg 3) 1)
  | _ => fun _ => 0, fun _ _ => 0)
def iw_zM : iw_M := (fun k => match k with
  | 0 => fun j => match j with
    | 6 => 4
    | 7 => 600
    | 8 => 30
    | 9 => 1
    | _ => 0
  | 20 => (upd (upd (upd (upd (upd (upd (upd (upd (upd (upd (fun _ => 0) (Int32.toNatClampNeg 0) 100) (Int32.toNatClampNeg 1) 100) (Int32.toNatClampNeg 2) 100) (Int32.toNatClampNeg 3) 100) (Int32.toNatClampNeg 4) 100) (Int32.toNatClampNeg 5) 100) (Int32.toNatClampNeg 6) 100) (Int32.toNatClampNeg 7) 100) (Int32.toNatClampNeg 8) 100) (Int32.toNatClampNeg 9) 100)
  | _ => fun _ => 0, fun _ _ => 0)
def iw_adf (h0 : Nat) (u : Nat → Nat) : Nat → Nat
  | 0 => h0
  | k + 1 => u k
theorem oi_X0 : Cond.methodLink RX0 1 objectInit ∈ iw_tbl := iw_mm 96 (by decide +kernel) rfl
theorem lk_X0_9 : Cond.fieldLink RX0 9 (TX0 0).1 (TX0 0).2.1 (TX0 0).2.2.1 ∈ iw_tbl := iw_mm 97 (by decide +kernel) rfl
theorem lk_X0_13 : Cond.fieldLink RX0 13 (TX0 1).1 (TX0 1).2.1 (TX0 1).2.2.1 ∈ iw_tbl := iw_mm 99 (by decide +kernel) rfl
set_option maxRecDepth 100000 in
set_option maxHeartbeats 4000000 in
theorem kIX0 (l : Launch) (D : va_G) (cy : FieldType → ClassId) (h0 : Nat) : iw_KI l D cy yX0_init cX0_init 1 1 12 2 20 (fun _ => True) [.ref h0] [(h0, .inr (0, [.null, .null]))] (iw_rX0 cy h0) := by
  refine iw_ofU [(0, .ref h0)] (by decide +kernel) rfl (Nat.le_of_ble_eq_true rfl) rfl ?_
  intro X A hC hin _
  refine U_aln hC dX0_init_0 0 rfl ?_
  refine U_obj hC oi_X0 oi_i oi_c ⟨by decide, Nat.le_of_ble_eq_true rfl⟩ dX0_init_1 ?_
  refine U_aln hC dX0_init_4 0 rfl ?_
  refine U_bip (x := 10) hC dX0_init_5 (by decide) ?_
  refine U_newa (N := 10) (a0 := (10, .inl (fun _ => 0))) 0 hC ac_int rfl rfl (aq_int _) (fun _ => rfl) (by decide) (by decide) (by decide) (by decide) (by decide) dX0_init_7 ?_
  intro q7
  refine U_nm [_, _] rfl ?_
  refine U_pF (k := 0) (q0 := 0) (ty := .array .int) tyX0 hC hin iw_u0 tyX0_ok nmX0 rfl rfl (by decide) lk_X0_9 rfl rfl (by decide +kernel) rfl rfl (Nat.le_of_ble_eq_true rfl) dX0_init_9 ?_
  refine U_nm [(_, .inr (_, [_, _])), _] rfl ?_
  refine U_aln hC dX0_init_12 0 rfl ?_
  refine U_bip (x := 10) hC dX0_init_13 (by decide) ?_
  refine U_newa (N := 10) (a0 := (10, .inl (fun _ => 0))) 0 hC ac_int rfl rfl (aq_int _) (fun _ => rfl) (by decide) (by decide) (by decide) (by decide) (by decide) dX0_init_15 ?_
  intro q15
  refine U_nm [_, _, _] rfl ?_
  refine U_dup hC dX0_init_17 rfl ?_
  refine U_ic (x := 0) hC dX0_init_18 (by decide) ?_
  refine U_bip (x := 100) hC dX0_init_19 (by decide) ?_
  refine U_ist (q0 := 2) hC rfl (iw_ok_in (by decide)) dX0_init_21 ?_
  refine U_nm [_, _, _] rfl ?_
  refine U_dup hC dX0_init_22 rfl ?_
  refine U_ic (x := 1) hC dX0_init_23 (by decide) ?_
  refine U_bip (x := 100) hC dX0_init_24 (by decide) ?_
  refine U_ist (q0 := 2) hC rfl (iw_ok_in (by decide)) dX0_init_26 ?_
  refine U_nm [_, _, _] rfl ?_
  refine U_dup hC dX0_init_27 rfl ?_
  refine U_ic (x := 2) hC dX0_init_28 (by decide) ?_
  refine U_bip (x := 100) hC dX0_init_29 (by decide) ?_
  refine U_ist (q0 := 2) hC rfl (iw_ok_in (by decide)) dX0_init_31 ?_
  refine U_nm [_, _, _] rfl ?_
  refine U_dup hC dX0_init_32 rfl ?_
  refine U_ic (x := 3) hC dX0_init_33 (by decide) ?_
  refine U_bip (x := 100) hC dX0_init_34 (by decide) ?_
  refine U_ist (q0 := 2) hC rfl (iw_ok_in (by decide)) dX0_init_36 ?_
  refine U_nm [_, _, _] rfl ?_
  refine U_dup hC dX0_init_37 rfl ?_
  refine U_ic (x := 4) hC dX0_init_38 (by decide) ?_
  refine U_bip (x := 100) hC dX0_init_39 (by decide) ?_
  refine U_ist (q0 := 2) hC rfl (iw_ok_in (by decide)) dX0_init_41 ?_
  refine U_nm [_, _, _] rfl ?_
  refine U_dup hC dX0_init_42 rfl ?_
  refine U_ic (x := 5) hC dX0_init_43 (by decide) ?_
  refine U_bip (x := 100) hC dX0_init_44 (by decide) ?_
  refine U_ist (q0 := 2) hC rfl (iw_ok_in (by decide)) dX0_init_46 ?_
  refine U_nm [_, _, _] rfl ?_
  refine U_dup hC dX0_init_47 rfl ?_
  refine U_bip (x := 6) hC dX0_init_48 (by decide) ?_
  refine U_bip (x := 100) hC dX0_init_50 (by decide) ?_
  refine U_ist (q0 := 2) hC rfl (iw_ok_in (by decide)) dX0_init_52 ?_
  refine U_nm [_, _, _] rfl ?_
  refine U_dup hC dX0_init_53 rfl ?_
  refine U_bip (x := 7) hC dX0_init_54 (by decide) ?_
  refine U_bip (x := 100) hC dX0_init_56 (by decide) ?_
  refine U_ist (q0 := 2) hC rfl (iw_ok_in (by decide)) dX0_init_58 ?_
  refine U_nm [_, _, _] rfl ?_
  refine U_dup hC dX0_init_59 rfl ?_
  refine U_bip (x := 8) hC dX0_init_60 (by decide) ?_
  refine U_bip (x := 100) hC dX0_init_62 (by decide) ?_
  refine U_ist (q0 := 2) hC rfl (iw_ok_in (by decide)) dX0_init_64 ?_
  refine U_nm [_, _, _] rfl ?_
  refine U_dup hC dX0_init_65 rfl ?_
  refine U_bip (x := 9) hC dX0_init_66 (by decide) ?_
  refine U_bip (x := 100) hC dX0_init_68 (by decide) ?_
  refine U_ist (q0 := 2) hC rfl (iw_ok_in (by decide)) dX0_init_70 ?_
  refine U_nm [_, _, _] rfl ?_
  refine U_pF (k := 1) (q0 := 0) (ty := .array .int) tyX0 hC hin iw_u0 tyX0_ok nmX0 rfl rfl (by decide) lk_X0_13 rfl rfl (by decide +kernel) rfl rfl (Nat.le_of_ble_eq_true rfl) dX0_init_71 ?_
  refine U_nm [(_, .inr (_, [_, _])), _, _] rfl ?_
  exact U_ret (fun k => [q7, q15].getD k 0) [0, 1, 2] hC rfl rfl rfl rfl dX0_init_74
theorem oi_X1 : Cond.methodLink RX1 3 objectInit ∈ iw_tbl := iw_mm 260 (by decide +kernel) rfl
theorem lk_X1_11 : Cond.fieldLink RX1 11 (TX1 1).1 (TX1 1).2.1 (TX1 1).2.2.1 ∈ iw_tbl := iw_mm 262 (by decide +kernel) rfl
theorem lk_X1_17 : Cond.fieldLink RX1 17 (TX1 0).1 (TX1 0).2.1 (TX1 0).2.2.1 ∈ iw_tbl := iw_mm 261 (by decide +kernel) rfl
set_option maxRecDepth 100000 in
set_option maxHeartbeats 4000000 in
theorem kIX1 (l : Launch) (D : va_G) (cy : FieldType → ClassId) (h0 : Nat) (a1 : Nat) : iw_KI l D cy yX1_init cX1_init 2 1 12 1 40 (fun _ => True) [.ref h0, .ref a1] [(h0, .inr (1, [.null, .null]))] (iw_rX1 cy h0 a1) := by
  refine iw_ofU [(0, .ref h0), (1, .ref a1)] (by decide +kernel) rfl (Nat.le_of_ble_eq_true rfl) rfl ?_
  intro X A hC hin _
  refine U_aln hC dX1_init_0 0 rfl ?_
  refine U_obj hC oi_X1 oi_i oi_c ⟨by decide, Nat.le_of_ble_eq_true rfl⟩ dX1_init_1 ?_
  refine U_aln hC dX1_init_4 0 rfl ?_
  refine U_bip (x := 40) hC dX1_init_5 (by decide) ?_
  refine U_newa (N := 40) (a0 := (40, .inl (fun _ => 0))) 0 hC ac_int rfl rfl (aq_int _) (fun _ => rfl) (by decide) (by decide) (by decide) (by decide) (by decide) dX1_init_7 ?_
  intro q7
  refine U_nm [_, _] rfl ?_
  refine U_pF (k := 1) (q0 := 0) (ty := .array .int) tyX1 hC hin iw_u1 tyX1_ok nmX1 rfl rfl (by decide) lk_X1_11 rfl rfl (by decide +kernel) rfl rfl (Nat.le_of_ble_eq_true rfl) dX1_init_9 ?_
  refine U_nm [(_, .inr (_, [_, _])), _] rfl ?_
  refine U_aln hC dX1_init_12 0 rfl ?_
  refine U_aln hC dX1_init_13 1 rfl ?_
  refine U_pF (k := 0) (q0 := 0) (ty := .object "IdeaWorks$Ideas") tyX1 hC hin iw_u1 tyX1_ok nmX1 rfl rfl (by decide) lk_X1_17 rfl rfl (by decide +kernel) rfl rfl (Nat.le_of_ble_eq_true rfl) dX1_init_14 ?_
  refine U_nm [(_, .inr (_, [_, _])), _] rfl ?_
  exact U_ret (fun k => [q7].getD k 0) [0, 1] hC rfl rfl rfl rfl dX1_init_17
theorem oi_X2 : Cond.methodLink RX2 3 objectInit ∈ iw_tbl := iw_mm 60 (by decide +kernel) rfl
theorem lk_X2_11 : Cond.fieldLink RX2 11 (TX2 0).1 (TX2 0).2.1 (TX2 0).2.2.1 ∈ iw_tbl := iw_mm 61 (by decide +kernel) rfl
theorem lk_X2_15 : Cond.fieldLink RX2 15 (TX2 1).1 (TX2 1).2.1 (TX2 1).2.2.1 ∈ iw_tbl := iw_mm 62 (by decide +kernel) rfl
theorem lk_X2_19 : Cond.fieldLink RX2 19 (TX2 2).1 (TX2 2).2.1 (TX2 2).2.2.1 ∈ iw_tbl := iw_mm 63 (by decide +kernel) rfl
theorem lk_X2_23 : Cond.fieldLink RX2 23 (TX2 3).1 (TX2 3).2.1 (TX2 3).2.2.1 ∈ iw_tbl := iw_mm 65 (by decide +kernel) rfl
theorem lk_X2_26 : Cond.fieldLink RX2 26 (TX2 4).1 (TX2 4).2.1 (TX2 4).2.2.1 ∈ iw_tbl := iw_mm 67 (by decide +kernel) rfl
theorem lk_X2_29 : Cond.fieldLink RX2 29 (TX2 5).1 (TX2 5).2.1 (TX2 5).2.2.1 ∈ iw_tbl := iw_mm 69 (by decide +kernel) rfl
theorem lk_X2_32 : Cond.fieldLink RX2 32 (TX2 6).1 (TX2 6).2.1 (TX2 6).2.2.1 ∈ iw_tbl := iw_mm 71 (by decide +kernel) rfl
set_option maxRecDepth 100000 in
set_option maxHeartbeats 4000000 in
theorem kIX2 (l : Launch) (D : va_G) (cy : FieldType → ClassId) (h0 : Nat) : iw_KI l D cy yX2_init cX2_init 1 1 12 6 240 (fun _ => True) [.ref h0] [(h0, .inr (2, [.null, .null, .null, .null, .null, .null, .int 0]))] (iw_rX2 cy h0) := by
  refine iw_ofU [(0, .ref h0)] (by decide +kernel) rfl (Nat.le_of_ble_eq_true rfl) rfl ?_
  intro X A hC hin _
  refine U_aln hC dX2_init_0 0 rfl ?_
  refine U_obj hC oi_X2 oi_i oi_c ⟨by decide, Nat.le_of_ble_eq_true rfl⟩ dX2_init_1 ?_
  refine U_aln hC dX2_init_4 0 rfl ?_
  refine U_bip (x := 40) hC dX2_init_5 (by decide) ?_
  refine U_newa (N := 40) (a0 := (40, .inl (fun _ => 0))) 0 hC ac_int rfl rfl (aq_int _) (fun _ => rfl) (by decide) (by decide) (by decide) (by decide) (by decide) dX2_init_7 ?_
  intro q7
  refine U_nm [_, _] rfl ?_
  refine U_pF (k := 0) (q0 := 0) (ty := .array .int) tyX2 hC hin iw_u2 tyX2_ok nmX2 rfl rfl (by decide) lk_X2_11 rfl rfl (by decide +kernel) rfl rfl (Nat.le_of_ble_eq_true rfl) dX2_init_9 ?_
  refine U_nm [(_, .inr (_, [_, _, _, _, _, _, _])), _] rfl ?_
  refine U_aln hC dX2_init_12 0 rfl ?_
  refine U_bip (x := 40) hC dX2_init_13 (by decide) ?_
  refine U_newa (N := 40) (a0 := (40, .inr (.inl (fun _ => 0)))) 2 hC ac_long rfl rfl (aq_long _) (fun _ => rfl) (by decide) (by decide) (by decide) (by decide) (by decide) dX2_init_15 ?_
  intro q15
  refine U_nm [_, _, _] rfl ?_
  refine U_pF (k := 1) (q0 := 0) (ty := .array .long) tyX2 hC hin iw_u2 tyX2_ok nmX2 rfl rfl (by decide) lk_X2_15 rfl rfl (by decide +kernel) rfl rfl (Nat.le_of_ble_eq_true rfl) dX2_init_17 ?_
  refine U_nm [(_, .inr (_, [_, _, _, _, _, _, _])), _, _] rfl ?_
  refine U_aln hC dX2_init_20 0 rfl ?_
  refine U_bip (x := 40) hC dX2_init_21 (by decide) ?_
  refine U_newa (N := 40) (a0 := (40, .inl (fun _ => 0))) 1 hC ac_boolean rfl rfl (aq_boolean _) (fun _ => rfl) (by decide) (by decide) (by decide) (by decide) (by decide) dX2_init_23 ?_
  intro q23
  refine U_nm [_, _, _, _] rfl ?_
  refine U_pF (k := 2) (q0 := 0) (ty := .array .boolean) tyX2 hC hin iw_u2 tyX2_ok nmX2 rfl rfl (by decide) lk_X2_19 rfl rfl (by decide +kernel) rfl rfl (Nat.le_of_ble_eq_true rfl) dX2_init_25 ?_
  refine U_nm [(_, .inr (_, [_, _, _, _, _, _, _])), _, _, _] rfl ?_
  refine U_aln hC dX2_init_28 0 rfl ?_
  refine U_bip (x := 40) hC dX2_init_29 (by decide) ?_
  refine U_newa (N := 40) (a0 := (40, .inl (fun _ => 0))) 0 hC ac_int rfl rfl (aq_int _) (fun _ => rfl) (by decide) (by decide) (by decide) (by decide) (by decide) dX2_init_31 ?_
  intro q31
  refine U_nm [_, _, _, _, _] rfl ?_
  refine U_pF (k := 3) (q0 := 0) (ty := .array .int) tyX2 hC hin iw_u2 tyX2_ok nmX2 rfl rfl (by decide) lk_X2_23 rfl rfl (by decide +kernel) rfl rfl (Nat.le_of_ble_eq_true rfl) dX2_init_33 ?_
  refine U_nm [(_, .inr (_, [_, _, _, _, _, _, _])), _, _, _, _] rfl ?_
  refine U_aln hC dX2_init_36 0 rfl ?_
  refine U_bip (x := 40) hC dX2_init_37 (by decide) ?_
  refine U_newa (N := 40) (a0 := (40, .inl (fun _ => 0))) 0 hC ac_int rfl rfl (aq_int _) (fun _ => rfl) (by decide) (by decide) (by decide) (by decide) (by decide) dX2_init_39 ?_
  intro q39
  refine U_nm [_, _, _, _, _, _] rfl ?_
  refine U_pF (k := 4) (q0 := 0) (ty := .array .int) tyX2 hC hin iw_u2 tyX2_ok nmX2 rfl rfl (by decide) lk_X2_26 rfl rfl (by decide +kernel) rfl rfl (Nat.le_of_ble_eq_true rfl) dX2_init_41 ?_
  refine U_nm [(_, .inr (_, [_, _, _, _, _, _, _])), _, _, _, _, _] rfl ?_
  refine U_aln hC dX2_init_44 0 rfl ?_
  refine U_bip (x := 40) hC dX2_init_45 (by decide) ?_
  refine U_newa (N := 40) (a0 := (40, .inl (fun _ => 0))) 0 hC ac_int rfl rfl (aq_int _) (fun _ => rfl) (by decide) (by decide) (by decide) (by decide) (by decide) dX2_init_47 ?_
  intro q47
  refine U_nm [_, _, _, _, _, _, _] rfl ?_
  refine U_pF (k := 5) (q0 := 0) (ty := .array .int) tyX2 hC hin iw_u2 tyX2_ok nmX2 rfl rfl (by decide) lk_X2_29 rfl rfl (by decide +kernel) rfl rfl (Nat.le_of_ble_eq_true rfl) dX2_init_49 ?_
  refine U_nm [(_, .inr (_, [_, _, _, _, _, _, _])), _, _, _, _, _, _] rfl ?_
  refine U_aln hC dX2_init_52 0 rfl ?_
  refine U_ic (x := 0) hC dX2_init_53 (by decide) ?_
  refine U_pI (k := 6) (q0 := 0) (ty := .int) tyX2 hC iw_u2 tyX2_ok nmX2 rfl rfl (by decide) lk_X2_32 rfl (by decide +kernel) rfl rfl (Nat.le_of_ble_eq_true rfl) dX2_init_54 ?_
  refine U_nm [(_, .inr (_, [_, _, _, _, _, _, _])), _, _, _, _, _, _] rfl ?_
  exact U_ret (fun k => [q7, q15, q23, q31, q39, q47].getD k 0) [0, 1, 2, 3, 4, 5, 6] hC rfl rfl rfl rfl dX2_init_57
theorem oi_X3 : Cond.methodLink RX3 3 objectInit ∈ iw_tbl := iw_mm 205 (by decide +kernel) rfl
theorem lk_X3_11 : Cond.fieldLink RX3 11 (TX3 0).1 (TX3 0).2.1 (TX3 0).2.2.1 ∈ iw_tbl := iw_mm 206 (by decide +kernel) rfl
theorem lk_X3_15 : Cond.fieldLink RX3 15 (TX3 1).1 (TX3 1).2.1 (TX3 1).2.2.1 ∈ iw_tbl := iw_mm 208 (by decide +kernel) rfl
theorem lk_X3_18 : Cond.fieldLink RX3 18 (TX3 2).1 (TX3 2).2.1 (TX3 2).2.2.1 ∈ iw_tbl := iw_mm 210 (by decide +kernel) rfl
theorem lk_X3_21 : Cond.fieldLink RX3 21 (TX3 3).1 (TX3 3).2.1 (TX3 3).2.2.1 ∈ iw_tbl := iw_mm 212 (by decide +kernel) rfl
theorem lk_X3_24 : Cond.fieldLink RX3 24 (TX3 4).1 (TX3 4).2.1 (TX3 4).2.2.1 ∈ iw_tbl := iw_mm 215 (by decide +kernel) rfl
theorem lk_X3_27 : Cond.fieldLink RX3 27 (TX3 5).1 (TX3 5).2.1 (TX3 5).2.2.1 ∈ iw_tbl := iw_mm 217 (by decide +kernel) rfl
theorem lk_X3_30 : Cond.fieldLink RX3 30 (TX3 6).1 (TX3 6).2.1 (TX3 6).2.2.1 ∈ iw_tbl := iw_mm 220 (by decide +kernel) rfl
theorem lk_X3_33 : Cond.fieldLink RX3 33 (TX3 7).1 (TX3 7).2.1 (TX3 7).2.2.1 ∈ iw_tbl := iw_mm 222 (by decide +kernel) rfl
theorem lk_X3_36 : Cond.fieldLink RX3 36 (TX3 8).1 (TX3 8).2.1 (TX3 8).2.2.1 ∈ iw_tbl := iw_mm 224 (by decide +kernel) rfl
theorem lk_X3_39 : Cond.fieldLink RX3 39 (TX3 9).1 (TX3 9).2.1 (TX3 9).2.2.1 ∈ iw_tbl := iw_mm 227 (by decide +kernel) rfl
theorem lk_X3_43 : Cond.fieldLink RX3 43 (TX3 10).1 (TX3 10).2.1 (TX3 10).2.2.1 ∈ iw_tbl := iw_mm 229 (by decide +kernel) rfl
set_option maxRecDepth 100000 in
set_option maxHeartbeats 4000000 in
theorem kIX3 (l : Launch) (D : va_G) (cy : FieldType → ClassId) (h0 : Nat) : iw_KI l D cy yX3_init cX3_init 1 1 12 10 400 (fun _ => True) [.ref h0] [(h0, .inr (3, [.null, .null, .null, .null, .null, .null, .null, .null, .null, .null, .int 0]))] (iw_rX3 cy h0) := by
  refine iw_ofU [(0, .ref h0)] (by decide +kernel) rfl (Nat.le_of_ble_eq_true rfl) rfl ?_
  intro X A hC hin _
  refine U_aln hC dX3_init_0 0 rfl ?_
  refine U_obj hC oi_X3 oi_i oi_c ⟨by decide, Nat.le_of_ble_eq_true rfl⟩ dX3_init_1 ?_
  refine U_aln hC dX3_init_4 0 rfl ?_
  refine U_bip (x := 40) hC dX3_init_5 (by decide) ?_
  refine U_newa (N := 40) (a0 := (40, .inl (fun _ => 0))) 0 hC ac_int rfl rfl (aq_int _) (fun _ => rfl) (by decide) (by decide) (by decide) (by decide) (by decide) dX3_init_7 ?_
  intro q7
  refine U_nm [_, _] rfl ?_
  refine U_pF (k := 0) (q0 := 0) (ty := .array .int) tyX3 hC hin iw_u3 tyX3_ok nmX3 rfl rfl (by decide) lk_X3_11 rfl rfl (by decide +kernel) rfl rfl (Nat.le_of_ble_eq_true rfl) dX3_init_9 ?_
  refine U_nm [(_, .inr (_, [_, _, _, _, _, _, _, _, _, _, _])), _] rfl ?_
  refine U_aln hC dX3_init_12 0 rfl ?_
  refine U_bip (x := 40) hC dX3_init_13 (by decide) ?_
  refine U_newa (N := 40) (a0 := (40, .inl (fun _ => 0))) 0 hC ac_int rfl rfl (aq_int _) (fun _ => rfl) (by decide) (by decide) (by decide) (by decide) (by decide) dX3_init_15 ?_
  intro q15
  refine U_nm [_, _, _] rfl ?_
  refine U_pF (k := 1) (q0 := 0) (ty := .array .int) tyX3 hC hin iw_u3 tyX3_ok nmX3 rfl rfl (by decide) lk_X3_15 rfl rfl (by decide +kernel) rfl rfl (Nat.le_of_ble_eq_true rfl) dX3_init_17 ?_
  refine U_nm [(_, .inr (_, [_, _, _, _, _, _, _, _, _, _, _])), _, _] rfl ?_
  refine U_aln hC dX3_init_20 0 rfl ?_
  refine U_bip (x := 40) hC dX3_init_21 (by decide) ?_
  refine U_newa (N := 40) (a0 := (40, .inl (fun _ => 0))) 0 hC ac_int rfl rfl (aq_int _) (fun _ => rfl) (by decide) (by decide) (by decide) (by decide) (by decide) dX3_init_23 ?_
  intro q23
  refine U_nm [_, _, _, _] rfl ?_
  refine U_pF (k := 2) (q0 := 0) (ty := .array .int) tyX3 hC hin iw_u3 tyX3_ok nmX3 rfl rfl (by decide) lk_X3_18 rfl rfl (by decide +kernel) rfl rfl (Nat.le_of_ble_eq_true rfl) dX3_init_25 ?_
  refine U_nm [(_, .inr (_, [_, _, _, _, _, _, _, _, _, _, _])), _, _, _] rfl ?_
  refine U_aln hC dX3_init_28 0 rfl ?_
  refine U_bip (x := 40) hC dX3_init_29 (by decide) ?_
  refine U_newa (N := 40) (a0 := (40, .inl (fun _ => 0))) 0 hC ac_int rfl rfl (aq_int _) (fun _ => rfl) (by decide) (by decide) (by decide) (by decide) (by decide) dX3_init_31 ?_
  intro q31
  refine U_nm [_, _, _, _, _] rfl ?_
  refine U_pF (k := 3) (q0 := 0) (ty := .array .int) tyX3 hC hin iw_u3 tyX3_ok nmX3 rfl rfl (by decide) lk_X3_21 rfl rfl (by decide +kernel) rfl rfl (Nat.le_of_ble_eq_true rfl) dX3_init_33 ?_
  refine U_nm [(_, .inr (_, [_, _, _, _, _, _, _, _, _, _, _])), _, _, _, _] rfl ?_
  refine U_aln hC dX3_init_36 0 rfl ?_
  refine U_bip (x := 40) hC dX3_init_37 (by decide) ?_
  refine U_newa (N := 40) (a0 := (40, .inl (fun _ => 0))) 0 hC ac_int rfl rfl (aq_int _) (fun _ => rfl) (by decide) (by decide) (by decide) (by decide) (by decide) dX3_init_39 ?_
  intro q39
  refine U_nm [_, _, _, _, _, _] rfl ?_
  refine U_pF (k := 4) (q0 := 0) (ty := .array .int) tyX3 hC hin iw_u3 tyX3_ok nmX3 rfl rfl (by decide) lk_X3_24 rfl rfl (by decide +kernel) rfl rfl (Nat.le_of_ble_eq_true rfl) dX3_init_41 ?_
  refine U_nm [(_, .inr (_, [_, _, _, _, _, _, _, _, _, _, _])), _, _, _, _, _] rfl ?_
  refine U_aln hC dX3_init_44 0 rfl ?_
  refine U_bip (x := 40) hC dX3_init_45 (by decide) ?_
  refine U_newa (N := 40) (a0 := (40, .inl (fun _ => 0))) 0 hC ac_int rfl rfl (aq_int _) (fun _ => rfl) (by decide) (by decide) (by decide) (by decide) (by decide) dX3_init_47 ?_
  intro q47
  refine U_nm [_, _, _, _, _, _, _] rfl ?_
  refine U_pF (k := 5) (q0 := 0) (ty := .array .int) tyX3 hC hin iw_u3 tyX3_ok nmX3 rfl rfl (by decide) lk_X3_27 rfl rfl (by decide +kernel) rfl rfl (Nat.le_of_ble_eq_true rfl) dX3_init_49 ?_
  refine U_nm [(_, .inr (_, [_, _, _, _, _, _, _, _, _, _, _])), _, _, _, _, _, _] rfl ?_
  refine U_aln hC dX3_init_52 0 rfl ?_
  refine U_bip (x := 40) hC dX3_init_53 (by decide) ?_
  refine U_newa (N := 40) (a0 := (40, .inl (fun _ => 0))) 0 hC ac_int rfl rfl (aq_int _) (fun _ => rfl) (by decide) (by decide) (by decide) (by decide) (by decide) dX3_init_55 ?_
  intro q55
  refine U_nm [_, _, _, _, _, _, _, _] rfl ?_
  refine U_pF (k := 6) (q0 := 0) (ty := .array .int) tyX3 hC hin iw_u3 tyX3_ok nmX3 rfl rfl (by decide) lk_X3_30 rfl rfl (by decide +kernel) rfl rfl (Nat.le_of_ble_eq_true rfl) dX3_init_57 ?_
  refine U_nm [(_, .inr (_, [_, _, _, _, _, _, _, _, _, _, _])), _, _, _, _, _, _, _] rfl ?_
  refine U_aln hC dX3_init_60 0 rfl ?_
  refine U_bip (x := 40) hC dX3_init_61 (by decide) ?_
  refine U_newa (N := 40) (a0 := (40, .inl (fun _ => 0))) 0 hC ac_int rfl rfl (aq_int _) (fun _ => rfl) (by decide) (by decide) (by decide) (by decide) (by decide) dX3_init_63 ?_
  intro q63
  refine U_nm [_, _, _, _, _, _, _, _, _] rfl ?_
  refine U_pF (k := 7) (q0 := 0) (ty := .array .int) tyX3 hC hin iw_u3 tyX3_ok nmX3 rfl rfl (by decide) lk_X3_33 rfl rfl (by decide +kernel) rfl rfl (Nat.le_of_ble_eq_true rfl) dX3_init_65 ?_
  refine U_nm [(_, .inr (_, [_, _, _, _, _, _, _, _, _, _, _])), _, _, _, _, _, _, _, _] rfl ?_
  refine U_aln hC dX3_init_68 0 rfl ?_
  refine U_bip (x := 40) hC dX3_init_69 (by decide) ?_
  refine U_newa (N := 40) (a0 := (40, .inl (fun _ => 0))) 0 hC ac_int rfl rfl (aq_int _) (fun _ => rfl) (by decide) (by decide) (by decide) (by decide) (by decide) dX3_init_71 ?_
  intro q71
  refine U_nm [_, _, _, _, _, _, _, _, _, _] rfl ?_
  refine U_pF (k := 8) (q0 := 0) (ty := .array .int) tyX3 hC hin iw_u3 tyX3_ok nmX3 rfl rfl (by decide) lk_X3_36 rfl rfl (by decide +kernel) rfl rfl (Nat.le_of_ble_eq_true rfl) dX3_init_73 ?_
  refine U_nm [(_, .inr (_, [_, _, _, _, _, _, _, _, _, _, _])), _, _, _, _, _, _, _, _, _] rfl ?_
  refine U_aln hC dX3_init_76 0 rfl ?_
  refine U_bip (x := 40) hC dX3_init_77 (by decide) ?_
  refine U_newa (N := 40) (a0 := (40, .inr (.inl (fun _ => 0)))) 2 hC ac_long rfl rfl (aq_long _) (fun _ => rfl) (by decide) (by decide) (by decide) (by decide) (by decide) dX3_init_79 ?_
  intro q79
  refine U_nm [_, _, _, _, _, _, _, _, _, _, _] rfl ?_
  refine U_pF (k := 9) (q0 := 0) (ty := .array .long) tyX3 hC hin iw_u3 tyX3_ok nmX3 rfl rfl (by decide) lk_X3_39 rfl rfl (by decide +kernel) rfl rfl (Nat.le_of_ble_eq_true rfl) dX3_init_81 ?_
  refine U_nm [(_, .inr (_, [_, _, _, _, _, _, _, _, _, _, _])), _, _, _, _, _, _, _, _, _, _] rfl ?_
  refine U_aln hC dX3_init_84 0 rfl ?_
  refine U_ic (x := 0) hC dX3_init_85 (by decide) ?_
  refine U_pI (k := 10) (q0 := 0) (ty := .int) tyX3 hC iw_u3 tyX3_ok nmX3 rfl rfl (by decide) lk_X3_43 rfl (by decide +kernel) rfl rfl (Nat.le_of_ble_eq_true rfl) dX3_init_86 ?_
  refine U_nm [(_, .inr (_, [_, _, _, _, _, _, _, _, _, _, _])), _, _, _, _, _, _, _, _, _, _] rfl ?_
  exact U_ret (fun k => [q7, q15, q23, q31, q39, q47, q55, q63, q71, q79].getD k 0) [0, 1, 2, 3, 4, 5, 6, 7, 8, 9, 10] hC rfl rfl rfl rfl dX3_init_89
theorem oi_X4 : Cond.methodLink RX4 1 objectInit ∈ iw_tbl := iw_mm 111 (by decide +kernel) rfl
theorem lk_X4_9 : Cond.fieldLink RX4 9 (TX4 0).1 (TX4 0).2.1 (TX4 0).2.2.1 ∈ iw_tbl := iw_mm 112 (by decide +kernel) rfl
theorem lk_X4_13 : Cond.fieldLink RX4 13 (TX4 1).1 (TX4 1).2.1 (TX4 1).2.2.1 ∈ iw_tbl := iw_mm 114 (by decide +kernel) rfl
theorem lk_X4_16 : Cond.fieldLink RX4 16 (TX4 2).1 (TX4 2).2.1 (TX4 2).2.2.1 ∈ iw_tbl := iw_mm 116 (by decide +kernel) rfl
theorem lk_X4_20 : Cond.fieldLink RX4 20 (TX4 3).1 (TX4 3).2.1 (TX4 3).2.2.1 ∈ iw_tbl := iw_mm 118 (by decide +kernel) rfl
theorem lk_X4_23 : Cond.fieldLink RX4 23 (TX4 4).1 (TX4 4).2.1 (TX4 4).2.2.1 ∈ iw_tbl := iw_mm 120 (by decide +kernel) rfl
set_option maxRecDepth 100000 in
set_option maxHeartbeats 4000000 in
theorem kIX4 (l : Launch) (D : va_G) (cy : FieldType → ClassId) (h0 : Nat) : iw_KI l D cy yX4_init cX4_init 1 1 12 4 800 (fun _ => True) [.ref h0] [(h0, .inr (4, [.null, .null, .null, .null, .int 0]))] (iw_rX4 cy h0) := by
  refine iw_ofU [(0, .ref h0)] (by decide +kernel) rfl (Nat.le_of_ble_eq_true rfl) rfl ?_
  intro X A hC hin _
  refine U_aln hC dX4_init_0 0 rfl ?_
  refine U_obj hC oi_X4 oi_i oi_c ⟨by decide, Nat.le_of_ble_eq_true rfl⟩ dX4_init_1 ?_
  refine U_aln hC dX4_init_4 0 rfl ?_
  refine U_sip (x := 200) hC dX4_init_5 (by decide) ?_
  refine U_newa (N := 200) (a0 := (200, .inl (fun _ => 0))) 0 hC ac_int rfl rfl (aq_int _) (fun _ => rfl) (by decide) (by decide) (by decide) (by decide) (by decide) dX4_init_8 ?_
  intro q8
  refine U_nm [_, _] rfl ?_
  refine U_pF (k := 0) (q0 := 0) (ty := .array .int) tyX4 hC hin iw_u4 tyX4_ok nmX4 rfl rfl (by decide) lk_X4_9 rfl rfl (by decide +kernel) rfl rfl (Nat.le_of_ble_eq_true rfl) dX4_init_10 ?_
  refine U_nm [(_, .inr (_, [_, _, _, _, _])), _] rfl ?_
  refine U_aln hC dX4_init_13 0 rfl ?_
  refine U_sip (x := 200) hC dX4_init_14 (by decide) ?_
  refine U_newa (N := 200) (a0 := (200, .inl (fun _ => 0))) 0 hC ac_int rfl rfl (aq_int _) (fun _ => rfl) (by decide) (by decide) (by decide) (by decide) (by decide) dX4_init_17 ?_
  intro q17
  refine U_nm [_, _, _] rfl ?_
  refine U_pF (k := 1) (q0 := 0) (ty := .array .int) tyX4 hC hin iw_u4 tyX4_ok nmX4 rfl rfl (by decide) lk_X4_13 rfl rfl (by decide +kernel) rfl rfl (Nat.le_of_ble_eq_true rfl) dX4_init_19 ?_
  refine U_nm [(_, .inr (_, [_, _, _, _, _])), _, _] rfl ?_
  refine U_aln hC dX4_init_22 0 rfl ?_
  refine U_sip (x := 200) hC dX4_init_23 (by decide) ?_
  refine U_newa (N := 200) (a0 := (200, .inl (fun _ => 0))) 1 hC ac_boolean rfl rfl (aq_boolean _) (fun _ => rfl) (by decide) (by decide) (by decide) (by decide) (by decide) dX4_init_26 ?_
  intro q26
  refine U_nm [_, _, _, _] rfl ?_
  refine U_pF (k := 2) (q0 := 0) (ty := .array .boolean) tyX4 hC hin iw_u4 tyX4_ok nmX4 rfl rfl (by decide) lk_X4_16 rfl rfl (by decide +kernel) rfl rfl (Nat.le_of_ble_eq_true rfl) dX4_init_28 ?_
  refine U_nm [(_, .inr (_, [_, _, _, _, _])), _, _, _] rfl ?_
  refine U_aln hC dX4_init_31 0 rfl ?_
  refine U_sip (x := 200) hC dX4_init_32 (by decide) ?_
  refine U_newa (N := 200) (a0 := (200, .inl (fun _ => 0))) 0 hC ac_int rfl rfl (aq_int _) (fun _ => rfl) (by decide) (by decide) (by decide) (by decide) (by decide) dX4_init_35 ?_
  intro q35
  refine U_nm [_, _, _, _, _] rfl ?_
  refine U_pF (k := 3) (q0 := 0) (ty := .array .int) tyX4 hC hin iw_u4 tyX4_ok nmX4 rfl rfl (by decide) lk_X4_20 rfl rfl (by decide +kernel) rfl rfl (Nat.le_of_ble_eq_true rfl) dX4_init_37 ?_
  refine U_nm [(_, .inr (_, [_, _, _, _, _])), _, _, _, _] rfl ?_
  refine U_aln hC dX4_init_40 0 rfl ?_
  refine U_ic (x := 0) hC dX4_init_41 (by decide) ?_
  refine U_pI (k := 4) (q0 := 0) (ty := .int) tyX4 hC iw_u4 tyX4_ok nmX4 rfl rfl (by decide) lk_X4_23 rfl (by decide +kernel) rfl rfl (Nat.le_of_ble_eq_true rfl) dX4_init_42 ?_
  refine U_nm [(_, .inr (_, [_, _, _, _, _])), _, _, _, _] rfl ?_
  exact U_ret (fun k => [q8, q17, q26, q35].getD k 0) [0, 1, 2, 3, 4] hC rfl rfl rfl rfl dX4_init_45
theorem oi_X5 : Cond.methodLink RX5 3 objectInit ∈ iw_tbl := iw_mm 164 (by decide +kernel) rfl
theorem lk_X5_11 : Cond.fieldLink RX5 11 (TX5 0).1 (TX5 0).2.1 (TX5 0).2.2.1 ∈ iw_tbl := iw_mm 165 (by decide +kernel) rfl
theorem lk_X5_15 : Cond.fieldLink RX5 15 (TX5 1).1 (TX5 1).2.1 (TX5 1).2.2.1 ∈ iw_tbl := iw_mm 166 (by decide +kernel) rfl
theorem lk_X5_18 : Cond.fieldLink RX5 18 (TX5 2).1 (TX5 2).2.1 (TX5 2).2.2.1 ∈ iw_tbl := iw_mm 168 (by decide +kernel) rfl
theorem lk_X5_21 : Cond.fieldLink RX5 21 (TX5 3).1 (TX5 3).2.1 (TX5 3).2.2.1 ∈ iw_tbl := iw_mm 170 (by decide +kernel) rfl
theorem lk_X5_24 : Cond.fieldLink RX5 24 (TX5 4).1 (TX5 4).2.1 (TX5 4).2.2.1 ∈ iw_tbl := iw_mm 172 (by decide +kernel) rfl
set_option maxRecDepth 100000 in
set_option maxHeartbeats 4000000 in
theorem kIX5 (l : Launch) (D : va_G) (cy : FieldType → ClassId) (h0 : Nat) : iw_KI l D cy yX5_init cX5_init 1 1 12 4 80 (fun _ => True) [.ref h0] [(h0, .inr (5, [.null, .null, .null, .null, .int 0]))] (iw_rX5 cy h0) := by
  refine iw_ofU [(0, .ref h0)] (by decide +kernel) rfl (Nat.le_of_ble_eq_true rfl) rfl ?_
  intro X A hC hin _
  refine U_aln hC dX5_init_0 0 rfl ?_
  refine U_obj hC oi_X5 oi_i oi_c ⟨by decide, Nat.le_of_ble_eq_true rfl⟩ dX5_init_1 ?_
  refine U_aln hC dX5_init_4 0 rfl ?_
  refine U_bip (x := 20) hC dX5_init_5 (by decide) ?_
  refine U_newa (N := 20) (a0 := (20, .inl (fun _ => 0))) 0 hC ac_int rfl rfl (aq_int _) (fun _ => rfl) (by decide) (by decide) (by decide) (by decide) (by decide) dX5_init_7 ?_
  intro q7
  refine U_nm [_, _] rfl ?_
  refine U_pF (k := 0) (q0 := 0) (ty := .array .int) tyX5 hC hin iw_u5 tyX5_ok nmX5 rfl rfl (by decide) lk_X5_11 rfl rfl (by decide +kernel) rfl rfl (Nat.le_of_ble_eq_true rfl) dX5_init_9 ?_
  refine U_nm [(_, .inr (_, [_, _, _, _, _])), _] rfl ?_
  refine U_aln hC dX5_init_12 0 rfl ?_
  refine U_bip (x := 20) hC dX5_init_13 (by decide) ?_
  refine U_newa (N := 20) (a0 := (20, .inl (fun _ => 0))) 0 hC ac_int rfl rfl (aq_int _) (fun _ => rfl) (by decide) (by decide) (by decide) (by decide) (by decide) dX5_init_15 ?_
  intro q15
  refine U_nm [_, _, _] rfl ?_
  refine U_pF (k := 1) (q0 := 0) (ty := .array .int) tyX5 hC hin iw_u5 tyX5_ok nmX5 rfl rfl (by decide) lk_X5_15 rfl rfl (by decide +kernel) rfl rfl (Nat.le_of_ble_eq_true rfl) dX5_init_17 ?_
  refine U_nm [(_, .inr (_, [_, _, _, _, _])), _, _] rfl ?_
  refine U_aln hC dX5_init_20 0 rfl ?_
  refine U_bip (x := 20) hC dX5_init_21 (by decide) ?_
  refine U_newa (N := 20) (a0 := (20, .inl (fun _ => 0))) 0 hC ac_int rfl rfl (aq_int _) (fun _ => rfl) (by decide) (by decide) (by decide) (by decide) (by decide) dX5_init_23 ?_
  intro q23
  refine U_nm [_, _, _, _] rfl ?_
  refine U_pF (k := 2) (q0 := 0) (ty := .array .int) tyX5 hC hin iw_u5 tyX5_ok nmX5 rfl rfl (by decide) lk_X5_18 rfl rfl (by decide +kernel) rfl rfl (Nat.le_of_ble_eq_true rfl) dX5_init_25 ?_
  refine U_nm [(_, .inr (_, [_, _, _, _, _])), _, _, _] rfl ?_
  refine U_aln hC dX5_init_28 0 rfl ?_
  refine U_bip (x := 20) hC dX5_init_29 (by decide) ?_
  refine U_newa (N := 20) (a0 := (20, .inl (fun _ => 0))) 0 hC ac_int rfl rfl (aq_int _) (fun _ => rfl) (by decide) (by decide) (by decide) (by decide) (by decide) dX5_init_31 ?_
  intro q31
  refine U_nm [_, _, _, _, _] rfl ?_
  refine U_pF (k := 3) (q0 := 0) (ty := .array .int) tyX5 hC hin iw_u5 tyX5_ok nmX5 rfl rfl (by decide) lk_X5_21 rfl rfl (by decide +kernel) rfl rfl (Nat.le_of_ble_eq_true rfl) dX5_init_33 ?_
  refine U_nm [(_, .inr (_, [_, _, _, _, _])), _, _, _, _] rfl ?_
  refine U_aln hC dX5_init_36 0 rfl ?_
  refine U_ic (x := 0) hC dX5_init_37 (by decide) ?_
  refine U_pI (k := 4) (q0 := 0) (ty := .int) tyX5 hC iw_u5 tyX5_ok nmX5 rfl rfl (by decide) lk_X5_24 rfl (by decide +kernel) rfl rfl (Nat.le_of_ble_eq_true rfl) dX5_init_38 ?_
  refine U_nm [(_, .inr (_, [_, _, _, _, _])), _, _, _, _] rfl ?_
  exact U_ret (fun k => [q7, q15, q23, q31].getD k 0) [0, 1, 2, 3, 4] hC rfl rfl rfl rfl dX5_init_41
theorem oi_X6 : Cond.methodLink RX6 3 objectInit ∈ iw_tbl := iw_mm 139 (by decide +kernel) rfl
theorem lk_X6_11 : Cond.fieldLink RX6 11 (TX6 0).1 (TX6 0).2.1 (TX6 0).2.2.1 ∈ iw_tbl := iw_mm 140 (by decide +kernel) rfl
theorem lk_X6_17 : Cond.fieldLink RX6 17 (TX6 1).1 (TX6 1).2.1 (TX6 1).2.2.1 ∈ iw_tbl := iw_mm 141 (by decide +kernel) rfl
theorem lk_X6_20 : Cond.fieldLink RX6 20 (TX6 2).1 (TX6 2).2.1 (TX6 2).2.2.1 ∈ iw_tbl := iw_mm 142 (by decide +kernel) rfl
theorem lk_X6_23 : Cond.fieldLink RX6 23 (TX6 3).1 (TX6 3).2.1 (TX6 3).2.2.1 ∈ iw_tbl := iw_mm 143 (by decide +kernel) rfl
theorem lk_X6_26 : Cond.fieldLink RX6 26 (TX6 4).1 (TX6 4).2.1 (TX6 4).2.2.1 ∈ iw_tbl := iw_mm 144 (by decide +kernel) rfl
theorem lk_X6_29 : Cond.fieldLink RX6 29 (TX6 5).1 (TX6 5).2.1 (TX6 5).2.2.1 ∈ iw_tbl := iw_mm 145 (by decide +kernel) rfl
set_option maxRecDepth 100000 in
set_option maxHeartbeats 4000000 in
theorem kIX6 (l : Launch) (D : va_G) (cy : FieldType → ClassId) (h0 : Nat) : iw_KI l D cy yX6_init cX6_init 1 1 12 6 60 (fun _ => True) [.ref h0] [(h0, .inr (6, [.null, .null, .null, .null, .null, .null]))] (iw_rX6 cy h0) := by
  refine iw_ofU [(0, .ref h0)] (by decide +kernel) rfl (Nat.le_of_ble_eq_true rfl) rfl ?_
  intro X A hC hin _
  refine U_aln hC dX6_init_0 0 rfl ?_
  refine U_obj hC oi_X6 oi_i oi_c ⟨by decide, Nat.le_of_ble_eq_true rfl⟩ dX6_init_1 ?_
  refine U_aln hC dX6_init_4 0 rfl ?_
  refine U_bip (x := 10) hC dX6_init_5 (by decide) ?_
  refine U_newa (N := 10) (a0 := (10, .inl (fun _ => 0))) 0 hC ac_int rfl rfl (aq_int _) (fun _ => rfl) (by decide) (by decide) (by decide) (by decide) (by decide) dX6_init_7 ?_
  intro q7
  refine U_nm [_, _] rfl ?_
  refine U_pF (k := 0) (q0 := 0) (ty := .array .int) tyX6 hC hin iw_u6 tyX6_ok nmX6 rfl rfl (by decide) lk_X6_11 rfl rfl (by decide +kernel) rfl rfl (Nat.le_of_ble_eq_true rfl) dX6_init_9 ?_
  refine U_nm [(_, .inr (_, [_, _, _, _, _, _])), _] rfl ?_
  refine U_aln hC dX6_init_12 0 rfl ?_
  refine U_bip (x := 10) hC dX6_init_13 (by decide) ?_
  refine U_newa (N := 10) (a0 := (10, .inl (fun _ => 0))) 0 hC ac_int rfl rfl (aq_int _) (fun _ => rfl) (by decide) (by decide) (by decide) (by decide) (by decide) dX6_init_15 ?_
  intro q15
  refine U_nm [_, _, _] rfl ?_
  refine U_pF (k := 1) (q0 := 0) (ty := .array .int) tyX6 hC hin iw_u6 tyX6_ok nmX6 rfl rfl (by decide) lk_X6_17 rfl rfl (by decide +kernel) rfl rfl (Nat.le_of_ble_eq_true rfl) dX6_init_17 ?_
  refine U_nm [(_, .inr (_, [_, _, _, _, _, _])), _, _] rfl ?_
  refine U_aln hC dX6_init_20 0 rfl ?_
  refine U_bip (x := 10) hC dX6_init_21 (by decide) ?_
  refine U_newa (N := 10) (a0 := (10, .inl (fun _ => 0))) 0 hC ac_int rfl rfl (aq_int _) (fun _ => rfl) (by decide) (by decide) (by decide) (by decide) (by decide) dX6_init_23 ?_
  intro q23
  refine U_nm [_, _, _, _] rfl ?_
  refine U_pF (k := 2) (q0 := 0) (ty := .array .int) tyX6 hC hin iw_u6 tyX6_ok nmX6 rfl rfl (by decide) lk_X6_20 rfl rfl (by decide +kernel) rfl rfl (Nat.le_of_ble_eq_true rfl) dX6_init_25 ?_
  refine U_nm [(_, .inr (_, [_, _, _, _, _, _])), _, _, _] rfl ?_
  refine U_aln hC dX6_init_28 0 rfl ?_
  refine U_bip (x := 10) hC dX6_init_29 (by decide) ?_
  refine U_newa (N := 10) (a0 := (10, .inl (fun _ => 0))) 0 hC ac_int rfl rfl (aq_int _) (fun _ => rfl) (by decide) (by decide) (by decide) (by decide) (by decide) dX6_init_31 ?_
  intro q31
  refine U_nm [_, _, _, _, _] rfl ?_
  refine U_pF (k := 3) (q0 := 0) (ty := .array .int) tyX6 hC hin iw_u6 tyX6_ok nmX6 rfl rfl (by decide) lk_X6_23 rfl rfl (by decide +kernel) rfl rfl (Nat.le_of_ble_eq_true rfl) dX6_init_33 ?_
  refine U_nm [(_, .inr (_, [_, _, _, _, _, _])), _, _, _, _] rfl ?_
  refine U_aln hC dX6_init_36 0 rfl ?_
  refine U_bip (x := 10) hC dX6_init_37 (by decide) ?_
  refine U_newa (N := 10) (a0 := (10, .inl (fun _ => 0))) 0 hC ac_int rfl rfl (aq_int _) (fun _ => rfl) (by decide) (by decide) (by decide) (by decide) (by decide) dX6_init_39 ?_
  intro q39
  refine U_nm [_, _, _, _, _, _] rfl ?_
  refine U_pF (k := 4) (q0 := 0) (ty := .array .int) tyX6 hC hin iw_u6 tyX6_ok nmX6 rfl rfl (by decide) lk_X6_26 rfl rfl (by decide +kernel) rfl rfl (Nat.le_of_ble_eq_true rfl) dX6_init_41 ?_
  refine U_nm [(_, .inr (_, [_, _, _, _, _, _])), _, _, _, _, _] rfl ?_
  refine U_aln hC dX6_init_44 0 rfl ?_
  refine U_bip (x := 10) hC dX6_init_45 (by decide) ?_
  refine U_newa (N := 10) (a0 := (10, .inl (fun _ => 0))) 0 hC ac_int rfl rfl (aq_int _) (fun _ => rfl) (by decide) (by decide) (by decide) (by decide) (by decide) dX6_init_47 ?_
  intro q47
  refine U_nm [_, _, _, _, _, _, _] rfl ?_
  refine U_pF (k := 5) (q0 := 0) (ty := .array .int) tyX6 hC hin iw_u6 tyX6_ok nmX6 rfl rfl (by decide) lk_X6_29 rfl rfl (by decide +kernel) rfl rfl (Nat.le_of_ble_eq_true rfl) dX6_init_49 ?_
  refine U_nm [(_, .inr (_, [_, _, _, _, _, _])), _, _, _, _, _, _] rfl ?_
  exact U_ret (fun k => [q7, q15, q23, q31, q39, q47].getD k 0) [0, 1, 2, 3, 4, 5, 6] hC rfl rfl rfl rfl dX6_init_52
theorem oi_X7 : Cond.methodLink RX7 1 objectInit ∈ iw_tbl := iw_mm 190 (by decide +kernel) rfl
theorem lk_X7_9 : Cond.fieldLink RX7 9 (TX7 0).1 (TX7 0).2.1 (TX7 0).2.2.1 ∈ iw_tbl := iw_mm 191 (by decide +kernel) rfl
theorem lk_X7_13 : Cond.fieldLink RX7 13 (TX7 1).1 (TX7 1).2.1 (TX7 1).2.2.1 ∈ iw_tbl := iw_mm 193 (by decide +kernel) rfl
set_option maxRecDepth 100000 in
set_option maxHeartbeats 4000000 in
theorem kIX7 (l : Launch) (D : va_G) (cy : FieldType → ClassId) (h0 : Nat) : iw_KI l D cy yX7_init cX7_init 1 1 12 1 20 (fun _ => True) [.ref h0] [(h0, .inr (7, [.null, .int 0]))] (iw_rX7 cy h0) := by
  refine iw_ofU [(0, .ref h0)] (by decide +kernel) rfl (Nat.le_of_ble_eq_true rfl) rfl ?_
  intro X A hC hin _
  refine U_aln hC dX7_init_0 0 rfl ?_
  refine U_obj hC oi_X7 oi_i oi_c ⟨by decide, Nat.le_of_ble_eq_true rfl⟩ dX7_init_1 ?_
  refine U_aln hC dX7_init_4 0 rfl ?_
  refine U_bip (x := 20) hC dX7_init_5 (by decide) ?_
  refine U_newa (N := 20) (a0 := (20, .inl (fun _ => 0))) 0 hC ac_int rfl rfl (aq_int _) (fun _ => rfl) (by decide) (by decide) (by decide) (by decide) (by decide) dX7_init_7 ?_
  intro q7
  refine U_nm [_, _] rfl ?_
  refine U_pF (k := 0) (q0 := 0) (ty := .array .int) tyX7 hC hin iw_u7 tyX7_ok nmX7 rfl rfl (by decide) lk_X7_9 rfl rfl (by decide +kernel) rfl rfl (Nat.le_of_ble_eq_true rfl) dX7_init_9 ?_
  refine U_nm [(_, .inr (_, [_, _])), _] rfl ?_
  refine U_aln hC dX7_init_12 0 rfl ?_
  refine U_ic (x := 0) hC dX7_init_13 (by decide) ?_
  refine U_pI (k := 1) (q0 := 0) (ty := .int) tyX7 hC iw_u7 tyX7_ok nmX7 rfl rfl (by decide) lk_X7_13 rfl (by decide +kernel) rfl rfl (Nat.le_of_ble_eq_true rfl) dX7_init_14 ?_
  refine U_nm [(_, .inr (_, [_, _])), _] rfl ?_
  exact U_ret (fun k => [q7].getD k 0) [0, 1] hC rfl rfl rfl rfl dX7_init_17
theorem oi_X9 : Cond.methodLink RX9 1 objectInit ∈ iw_tbl := iw_mm 660 (by decide +kernel) rfl
theorem lk_X9_7 : Cond.fieldLink RX9 7 (TX9 6).1 (TX9 6).2.1 (TX9 6).2.2.1 ∈ iw_tbl := iw_mm 667 (by decide +kernel) rfl
theorem lk_X9_13 : Cond.fieldLink RX9 13 (TX9 7).1 (TX9 7).2.1 (TX9 7).2.2.1 ∈ iw_tbl := iw_mm 668 (by decide +kernel) rfl
theorem lk_X9_16 : Cond.fieldLink RX9 16 (TX9 8).1 (TX9 8).2.1 (TX9 8).2.2.1 ∈ iw_tbl := iw_mm 669 (by decide +kernel) rfl
theorem lk_X9_19 : Cond.fieldLink RX9 19 (TX9 9).1 (TX9 9).2.1 (TX9 9).2.2.1 ∈ iw_tbl := iw_mm 670 (by decide +kernel) rfl
theorem lk_X9_22 : Cond.fieldLink RX9 22 (TX9 12).1 (TX9 12).2.1 (TX9 12).2.2.1 ∈ iw_tbl := iw_mm 673 (by decide +kernel) rfl
theorem lk_X9_26 : Cond.fieldLink RX9 26 (TX9 13).1 (TX9 13).2.1 (TX9 13).2.2.1 ∈ iw_tbl := iw_mm 674 (by decide +kernel) rfl
theorem lk_X9_29 : Cond.fieldLink RX9 29 (TX9 14).1 (TX9 14).2.1 (TX9 14).2.2.1 ∈ iw_tbl := iw_mm 675 (by decide +kernel) rfl
theorem lk_X9_32 : Cond.fieldLink RX9 32 (TX9 15).1 (TX9 15).2.1 (TX9 15).2.2.1 ∈ iw_tbl := iw_mm 676 (by decide +kernel) rfl
theorem lk_X9_35 : Cond.fieldLink RX9 35 (TX9 16).1 (TX9 16).2.1 (TX9 16).2.2.1 ∈ iw_tbl := iw_mm 677 (by decide +kernel) rfl
theorem lk_X9_39 : Cond.fieldLink RX9 39 (TX9 17).1 (TX9 17).2.1 (TX9 17).2.2.1 ∈ iw_tbl := iw_mm 678 (by decide +kernel) rfl
theorem lk_X9_42 : Cond.fieldLink RX9 42 (TX9 18).1 (TX9 18).2.1 (TX9 18).2.2.1 ∈ iw_tbl := iw_mm 679 (by decide +kernel) rfl
theorem lk_X9_45 : Cond.fieldLink RX9 45 (TX9 19).1 (TX9 19).2.1 (TX9 19).2.2.1 ∈ iw_tbl := iw_mm 680 (by decide +kernel) rfl
theorem lk_X9_48 : Cond.fieldLink RX9 48 (TX9 20).1 (TX9 20).2.1 (TX9 20).2.2.1 ∈ iw_tbl := iw_mm 681 (by decide +kernel) rfl
theorem lk_X9_51 : Cond.fieldLink RX9 51 (TX9 21).1 (TX9 21).2.1 (TX9 21).2.2.1 ∈ iw_tbl := iw_mm 682 (by decide +kernel) rfl
theorem lk_X9_54 : Cond.fieldLink RX9 54 (TX9 22).1 (TX9 22).2.1 (TX9 22).2.2.1 ∈ iw_tbl := iw_mm 683 (by decide +kernel) rfl
theorem lk_X9_57 : Cond.fieldLink RX9 57 (TX9 23).1 (TX9 23).2.1 (TX9 23).2.2.1 ∈ iw_tbl := iw_mm 684 (by decide +kernel) rfl
theorem lk_X9_60 : Cond.fieldLink RX9 60 (TX9 24).1 (TX9 24).2.1 (TX9 24).2.2.1 ∈ iw_tbl := iw_mm 685 (by decide +kernel) rfl
theorem lk_X9_63 : Cond.fieldLink RX9 63 (TX9 25).1 (TX9 25).2.1 (TX9 25).2.2.1 ∈ iw_tbl := iw_mm 686 (by decide +kernel) rfl
theorem lk_X9_66 : Cond.fieldLink RX9 66 (TX9 26).1 (TX9 26).2.1 (TX9 26).2.2.1 ∈ iw_tbl := iw_mm 687 (by decide +kernel) rfl
theorem lk_X9_69 : Cond.fieldLink RX9 69 (TX9 27).1 (TX9 27).2.1 (TX9 27).2.2.1 ∈ iw_tbl := iw_mm 688 (by decide +kernel) rfl
theorem lk_X9_72 : Cond.fieldLink RX9 72 (TX9 28).1 (TX9 28).2.1 (TX9 28).2.2.1 ∈ iw_tbl := iw_mm 689 (by decide +kernel) rfl
theorem lk_X9_75 : Cond.fieldLink RX9 75 (TX9 29).1 (TX9 29).2.1 (TX9 29).2.2.1 ∈ iw_tbl := iw_mm 690 (by decide +kernel) rfl
theorem lk_X9_78 : Cond.fieldLink RX9 78 (TX9 30).1 (TX9 30).2.1 (TX9 30).2.2.1 ∈ iw_tbl := iw_mm 691 (by decide +kernel) rfl
theorem lk_X9_81 : Cond.fieldLink RX9 81 (TX9 31).1 (TX9 31).2.1 (TX9 31).2.2.1 ∈ iw_tbl := iw_mm 692 (by decide +kernel) rfl
theorem lk_X9_84 : Cond.fieldLink RX9 84 (TX9 32).1 (TX9 32).2.1 (TX9 32).2.2.1 ∈ iw_tbl := iw_mm 693 (by decide +kernel) rfl
theorem lk_X9_87 : Cond.fieldLink RX9 87 (TX9 33).1 (TX9 33).2.1 (TX9 33).2.2.1 ∈ iw_tbl := iw_mm 694 (by decide +kernel) rfl
theorem lk_X9_90 : Cond.fieldLink RX9 90 (TX9 34).1 (TX9 34).2.1 (TX9 34).2.2.1 ∈ iw_tbl := iw_mm 695 (by decide +kernel) rfl
theorem lk_X9_93 : Cond.fieldLink RX9 93 (TX9 35).1 (TX9 35).2.1 (TX9 35).2.2.1 ∈ iw_tbl := iw_mm 696 (by decide +kernel) rfl
theorem lk_X9_96 : Cond.fieldLink RX9 96 (TX9 36).1 (TX9 36).2.1 (TX9 36).2.2.1 ∈ iw_tbl := iw_mm 697 (by decide +kernel) rfl
theorem lk_X9_99 : Cond.fieldLink RX9 99 (TX9 37).1 (TX9 37).2.1 (TX9 37).2.2.1 ∈ iw_tbl := iw_mm 698 (by decide +kernel) rfl
theorem lk_X9_102 : Cond.fieldLink RX9 102 (TX9 38).1 (TX9 38).2.1 (TX9 38).2.2.1 ∈ iw_tbl := iw_mm 699 (by decide +kernel) rfl
theorem lk_X9_105 : Cond.fieldLink RX9 105 (TX9 39).1 (TX9 39).2.1 (TX9 39).2.2.1 ∈ iw_tbl := iw_mm 700 (by decide +kernel) rfl
theorem lk_X9_108 : Cond.fieldLink RX9 108 (TX9 40).1 (TX9 40).2.1 (TX9 40).2.2.1 ∈ iw_tbl := iw_mm 701 (by decide +kernel) rfl
theorem lk_X9_111 : Cond.fieldLink RX9 111 (TX9 41).1 (TX9 41).2.1 (TX9 41).2.2.1 ∈ iw_tbl := iw_mm 702 (by decide +kernel) rfl
theorem lk_X9_114 : Cond.fieldLink RX9 114 (TX9 42).1 (TX9 42).2.1 (TX9 42).2.2.1 ∈ iw_tbl := iw_mm 703 (by decide +kernel) rfl
theorem oi_X8 : Cond.methodLink RX8 1 objectInit ∈ iw_tbl := iw_mm 52 (by decide +kernel) rfl
theorem cl_X8_7 : Cond.classLink RX8 7 RX2 ∈ iw_tbl := iw_mm 55 (by decide +kernel) rfl
theorem in_X2 : Cond.instantiable RX2 7 ∈ iw_tbl := iw_mm 56 (by decide +kernel) rfl
theorem ii_X2 : Cond.initialized RX2 ∈ iw_tbl := iw_mm 35 (by decide +kernel) rfl
theorem df_X2 : ∀ j, j < 7 → defaultValue (tyX2 j) = vp_V [.null, .null, .null, .null, .null, .null, .int 0] j := by decide +kernel
theorem iw_wi_X2 : iw_WI yX2_init cX2_init 1 0 := ⟨⟨iw_mm 58 (by decide +kernel) rfl, iw_mm 35 (by decide +kernel) rfl, iw_mm 59 (by decide +kernel) rfl⟩, rfl, by decide +kernel⟩
theorem lk_X8_10 : Cond.fieldLink RX8 10 (TX8 0).1 (TX8 0).2.1 (TX8 0).2.2.1 ∈ iw_tbl := iw_mm 270 (by decide +kernel) rfl
theorem cl_X8_16 : Cond.classLink RX8 16 RX0 ∈ iw_tbl := iw_mm 91 (by decide +kernel) rfl
theorem in_X0 : Cond.instantiable RX0 2 ∈ iw_tbl := iw_mm 92 (by decide +kernel) rfl
theorem ii_X0 : Cond.initialized RX0 ∈ iw_tbl := iw_mm 36 (by decide +kernel) rfl
theorem df_X0 : ∀ j, j < 2 → defaultValue (tyX0 j) = vp_V [.null, .null] j := by decide +kernel
theorem iw_wi_X0 : iw_WI yX0_init cX0_init 1 0 := ⟨⟨iw_mm 94 (by decide +kernel) rfl, iw_mm 36 (by decide +kernel) rfl, iw_mm 95 (by decide +kernel) rfl⟩, rfl, by decide +kernel⟩
theorem lk_X8_19 : Cond.fieldLink RX8 19 (TX8 4).1 (TX8 4).2.1 (TX8 4).2.2.1 ∈ iw_tbl := iw_mm 274 (by decide +kernel) rfl
theorem cl_X8_23 : Cond.classLink RX8 23 RX4 ∈ iw_tbl := iw_mm 106 (by decide +kernel) rfl
theorem in_X4 : Cond.instantiable RX4 5 ∈ iw_tbl := iw_mm 107 (by decide +kernel) rfl
theorem ii_X4 : Cond.initialized RX4 ∈ iw_tbl := iw_mm 37 (by decide +kernel) rfl
theorem df_X4 : ∀ j, j < 5 → defaultValue (tyX4 j) = vp_V [.null, .null, .null, .null, .int 0] j := by decide +kernel
theorem iw_wi_X4 : iw_WI yX4_init cX4_init 1 0 := ⟨⟨iw_mm 109 (by decide +kernel) rfl, iw_mm 37 (by decide +kernel) rfl, iw_mm 110 (by decide +kernel) rfl⟩, rfl, by decide +kernel⟩
theorem lk_X8_26 : Cond.fieldLink RX8 26 (TX8 5).1 (TX8 5).2.1 (TX8 5).2.2.1 ∈ iw_tbl := iw_mm 275 (by decide +kernel) rfl
theorem cl_X8_30 : Cond.classLink RX8 30 RX6 ∈ iw_tbl := iw_mm 134 (by decide +kernel) rfl
theorem in_X6 : Cond.instantiable RX6 6 ∈ iw_tbl := iw_mm 135 (by decide +kernel) rfl
theorem ii_X6 : Cond.initialized RX6 ∈ iw_tbl := iw_mm 38 (by decide +kernel) rfl
theorem df_X6 : ∀ j, j < 6 → defaultValue (tyX6 j) = vp_V [.null, .null, .null, .null, .null, .null] j := by decide +kernel
theorem iw_wi_X6 : iw_WI yX6_init cX6_init 1 0 := ⟨⟨iw_mm 137 (by decide +kernel) rfl, iw_mm 38 (by decide +kernel) rfl, iw_mm 138 (by decide +kernel) rfl⟩, rfl, by decide +kernel⟩
theorem lk_X8_33 : Cond.fieldLink RX8 33 (TX8 6).1 (TX8 6).2.1 (TX8 6).2.2.1 ∈ iw_tbl := iw_mm 276 (by decide +kernel) rfl
theorem cl_X8_37 : Cond.classLink RX8 37 RX5 ∈ iw_tbl := iw_mm 159 (by decide +kernel) rfl
theorem in_X5 : Cond.instantiable RX5 5 ∈ iw_tbl := iw_mm 160 (by decide +kernel) rfl
theorem ii_X5 : Cond.initialized RX5 ∈ iw_tbl := iw_mm 39 (by decide +kernel) rfl
theorem df_X5 : ∀ j, j < 5 → defaultValue (tyX5 j) = vp_V [.null, .null, .null, .null, .int 0] j := by decide +kernel
theorem iw_wi_X5 : iw_WI yX5_init cX5_init 1 0 := ⟨⟨iw_mm 162 (by decide +kernel) rfl, iw_mm 39 (by decide +kernel) rfl, iw_mm 163 (by decide +kernel) rfl⟩, rfl, by decide +kernel⟩
theorem lk_X8_40 : Cond.fieldLink RX8 40 (TX8 7).1 (TX8 7).2.1 (TX8 7).2.2.1 ∈ iw_tbl := iw_mm 277 (by decide +kernel) rfl
theorem cl_X8_44 : Cond.classLink RX8 44 RX7 ∈ iw_tbl := iw_mm 185 (by decide +kernel) rfl
theorem in_X7 : Cond.instantiable RX7 2 ∈ iw_tbl := iw_mm 186 (by decide +kernel) rfl
theorem ii_X7 : Cond.initialized RX7 ∈ iw_tbl := iw_mm 40 (by decide +kernel) rfl
theorem df_X7 : ∀ j, j < 2 → defaultValue (tyX7 j) = vp_V [.null, .int 0] j := by decide +kernel
theorem iw_wi_X7 : iw_WI yX7_init cX7_init 1 0 := ⟨⟨iw_mm 188 (by decide +kernel) rfl, iw_mm 40 (by decide +kernel) rfl, iw_mm 189 (by decide +kernel) rfl⟩, rfl, by decide +kernel⟩
theorem lk_X8_47 : Cond.fieldLink RX8 47 (TX8 8).1 (TX8 8).2.1 (TX8 8).2.2.1 ∈ iw_tbl := iw_mm 278 (by decide +kernel) rfl
theorem lk_X8_51 : Cond.fieldLink RX8 51 (TX8 9).1 (TX8 9).2.1 (TX8 9).2.2.1 ∈ iw_tbl := iw_mm 279 (by decide +kernel) rfl
theorem lk_X8_55 : Cond.fieldLink RX8 55 (TX8 10).1 (TX8 10).2.1 (TX8 10).2.2.1 ∈ iw_tbl := iw_mm 280 (by decide +kernel) rfl
theorem lk_X8_58 : Cond.fieldLink RX8 58 (TX8 11).1 (TX8 11).2.1 (TX8 11).2.2.1 ∈ iw_tbl := iw_mm 281 (by decide +kernel) rfl
theorem cl_X8_62 : Cond.classLink RX8 62 RX3 ∈ iw_tbl := iw_mm 200 (by decide +kernel) rfl
theorem in_X3 : Cond.instantiable RX3 11 ∈ iw_tbl := iw_mm 201 (by decide +kernel) rfl
theorem ii_X3 : Cond.initialized RX3 ∈ iw_tbl := iw_mm 41 (by decide +kernel) rfl
theorem df_X3 : ∀ j, j < 11 → defaultValue (tyX3 j) = vp_V [.null, .null, .null, .null, .null, .null, .null, .null, .null, .null, .int 0] j := by decide +kernel
theorem iw_wi_X3 : iw_WI yX3_init cX3_init 1 0 := ⟨⟨iw_mm 203 (by decide +kernel) rfl, iw_mm 41 (by decide +kernel) rfl, iw_mm 204 (by decide +kernel) rfl⟩, rfl, by decide +kernel⟩
theorem lk_X8_65 : Cond.fieldLink RX8 65 (TX8 1).1 (TX8 1).2.1 (TX8 1).2.2.1 ∈ iw_tbl := iw_mm 271 (by decide +kernel) rfl
theorem cl_X8_69 : Cond.classLink RX8 69 RX1 ∈ iw_tbl := iw_mm 255 (by decide +kernel) rfl
theorem in_X1 : Cond.instantiable RX1 2 ∈ iw_tbl := iw_mm 256 (by decide +kernel) rfl
theorem ii_X1 : Cond.initialized RX1 ∈ iw_tbl := iw_mm 42 (by decide +kernel) rfl
theorem df_X1 : ∀ j, j < 2 → defaultValue (tyX1 j) = vp_V [.null, .null] j := by decide +kernel
theorem iw_wi_X1 : iw_WI yX1_init cX1_init 2 1 := ⟨⟨iw_mm 258 (by decide +kernel) rfl, iw_mm 42 (by decide +kernel) rfl, iw_mm 259 (by decide +kernel) rfl⟩, rfl, by decide +kernel⟩
theorem ml_X8_71 : Cond.methodLink RX8 71 yX1_init ∈ iw_tbl := iw_mm 257 (by decide +kernel) rfl
theorem lk_X8_74 : Cond.fieldLink RX8 74 (TX8 2).1 (TX8 2).2.1 (TX8 2).2.2.1 ∈ iw_tbl := iw_mm 272 (by decide +kernel) rfl
theorem lk_X8_78 : Cond.fieldLink RX8 78 (TX8 3).1 (TX8 3).2.1 (TX8 3).2.2.1 ∈ iw_tbl := iw_mm 273 (by decide +kernel) rfl
