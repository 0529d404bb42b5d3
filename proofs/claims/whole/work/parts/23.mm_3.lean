def fX9_saves_J120 (v1 : Int32) (v2 : Int32) (v3 : Int32) (v4 : Int32) (v5 : Int32) (v6 : Int32) (v7 : Int32) (v9 : Int32) (v10 : Int32) (v11 : Int32) (Rc K : Int32 → Int32 → Int32 → Int32 → Int32 → Int32 → Int32 → iw_M → Option (Int32 × iw_M)) (z : iw_M) : Option (Int32 × iw_M) :=
  Rc (v4 + (1 : Int32)) v5 (v6 + v11) v7 v11 v9 (v10 + (1 : Int32)) z
def fX9_saves_J95 (v1 : Int32) (v2 : Int32) (v3 : Int32) (v4 : Int32) (v5 : Int32) (v6 : Int32) (v7 : Int32) (v8 : Int32) (v9 : Int32) (v10 : Int32) (v11 : Int32) (Rc K : Int32 → Int32 → Int32 → Int32 → Int32 → Int32 → Int32 → iw_M → Option (Int32 × iw_M)) (z : iw_M) : Option (Int32 × iw_M) :=
  Rc v4 (v5 + (1 : Int32)) v6 (v7 + v11) v8 v9 (v10 + (1 : Int32)) z
def fX9_saves_J91 (v1 : Int32) (v2 : Int32) (v3 : Int32) (v4 : Int32) (v5 : Int32) (v6 : Int32) (v7 : Int32) (v8 : Int32) (v10 : Int32) (v11 : Int32) (Rc K : Int32 → Int32 → Int32 → Int32 → Int32 → Int32 → Int32 → iw_M → Option (Int32 × iw_M)) (z : iw_M) : Option (Int32 × iw_M) :=
  fX9_saves_J95 v1 v2 v3 v4 v5 v6 v7 v8 v11 v10 v11  (fun w4 w5 w6 w7 w8 w9 w10 zz => Rc w4 w5 w6 w7 w8 w9 w10 zz) (fun w4 w5 w6 w7 w8 w9 w10 zz => K w4 w5 w6 w7 w8 w9 w10 zz) z
def fX9_saves_L21 (v1 : Int32) (v2 : Int32) (v3 : Int32) (K : Int32 → Int32 → Int32 → Int32 → Int32 → Int32 → Int32 → iw_M → Option (Int32 × iw_M)) : Nat → Int32 → Int32 → Int32 → Int32 → Int32 → Int32 → Int32 → iw_M → Option (Int32 × iw_M)
  | 0, _, _, _, _, _, _, _, _ => none
  | n + 1, v4, v5, v6, v7, v8, v9, v10, z => (if (z.1 0 3) ≤ v10 then
  K v4 v5 v6 v7 v8 v9 v10 z
  else
  (if iw_ok v10 200 then
  (if (z.1 21 (Int32.toNatClampNeg v10)) = v2 then
  (if iw_ok v10 200 then
  (if iw_ok (z.1 22 (Int32.toNatClampNeg v10)) 40 then
  (if (z.1 31 (Int32.toNatClampNeg (z.1 22 (Int32.toNatClampNeg v10)))) = v1 then
  (if iw_ok v10 200 then
  (if iw_ok v10 200 then
  (if (z.1 24 (Int32.toNatClampNeg v10)) = 0 then
  (if v4 = 0 then
  fX9_saves_J120 v1 v2 v3 v4 v5 v6 v7 v9 v10 (z.1 23 (Int32.toNatClampNeg v10))  (fun w4 w5 w6 w7 w8 w9 w10 zz => fX9_saves_L21 v1 v2 v3 K n w4 w5 w6 w7 w8 w9 w10 zz) (fun w4 w5 w6 w7 w8 w9 w10 zz => K w4 w5 w6 w7 w8 w9 w10 zz) z
  else
  (if v8 ≤ (z.1 23 (Int32.toNatClampNeg v10)) then
  fX9_saves_L21 v1 v2 v3 K n (v4 + (1 : Int32)) v5 (v6 + (z.1 23 (Int32.toNatClampNeg v10))) v7 v8 v9 (v10 + (1 : Int32)) z
  else
  fX9_saves_J120 v1 v2 v3 v4 v5 v6 v7 v9 v10 (z.1 23 (Int32.toNatClampNeg v10))  (fun w4 w5 w6 w7 w8 w9 w10 zz => fX9_saves_L21 v1 v2 v3 K n w4 w5 w6 w7 w8 w9 w10 zz) (fun w4 w5 w6 w7 w8 w9 w10 zz => K w4 w5 w6 w7 w8 w9 w10 zz) z))
  else
  (if v5 = 0 then
  fX9_saves_J91 v1 v2 v3 v4 v5 v6 v7 v8 v10 (z.1 23 (Int32.toNatClampNeg v10))  (fun w4 w5 w6 w7 w8 w9 w10 zz => fX9_saves_L21 v1 v2 v3 K n w4 w5 w6 w7 w8 w9 w10 zz) (fun w4 w5 w6 w7 w8 w9 w10 zz => K w4 w5 w6 w7 w8 w9 w10 zz) z
  else
  (if (z.1 23 (Int32.toNatClampNeg v10)) ≤ v9 then
  fX9_saves_J95 v1 v2 v3 v4 v5 v6 v7 v8 v9 v10 (z.1 23 (Int32.toNatClampNeg v10))  (fun w4 w5 w6 w7 w8 w9 w10 zz => fX9_saves_L21 v1 v2 v3 K n w4 w5 w6 w7 w8 w9 w10 zz) (fun w4 w5 w6 w7 w8 w9 w10 zz => K w4 w5 w6 w7 w8 w9 w10 zz) z
  else
  fX9_saves_J91 v1 v2 v3 v4 v5 v6 v7 v8 v10 (z.1 23 (Int32.toNatClampNeg v10))  (fun w4 w5 w6 w7 w8 w9 w10 zz => fX9_saves_L21 v1 v2 v3 K n w4 w5 w6 w7 w8 w9 w10 zz) (fun w4 w5 w6 w7 w8 w9 w10 zz => K w4 w5 w6 w7 w8 w9 w10 zz) z)))
  else none)
  else none)
  else
  fX9_saves_L21 v1 v2 v3 K n v4 v5 v6 v7 v8 v9 (v10 + (1 : Int32)) z)
  else none)
  else none)
  else
  fX9_saves_L21 v1 v2 v3 K n v4 v5 v6 v7 v8 v9 (v10 + (1 : Int32)) z)
  else none))
def fX9_saves (v1 : Int32) (v2 : Int32) (v3 : Int32) (z : iw_M) : Option (Int32 × iw_M) :=
  fX9_saves_L21 v1 v2 v3 (fun x4_1 x5_1 x6_1 x7_1 x8_1 x9_1 x10_1 z_1 => (if x4_1 = 0 then
  some ((0 : Int32), z_1)
  else
  (if x5_1 = 0 then
  some ((0 : Int32), z_1)
  else
  (if v3 = 0 then
  (if 0 ≤ (x8_1 - x9_1) then
  some ((x8_1 - x9_1), z_1)
  else
  some ((0 : Int32), z_1))
  else
  (if x4_1 = 0 then none else
  (if x5_1 = 0 then none else
  (if 0 ≤ ((x6_1 / x4_1) - (x7_1 / x5_1)) then
  some (((x6_1 / x4_1) - (x7_1 / x5_1)), z_1)
  else
  some ((0 : Int32), z_1)))))))) iw_fu (0 : Int32) (0 : Int32) (0 : Int32) (0 : Int32) (0 : Int32) (0 : Int32) (0 : Int32) z
abbrev bX9_saves : iw_B := (cX9_saves, 12, { frames := 0, cells := 0, slots := 0, locals := 0 }, yX9_saves.cls, (some .int))
set_option maxRecDepth 100000 in
set_option maxHeartbeats 4000000 in
theorem vX9_saves_J120 {G : iw_G} {X : iw_X} (hC : iw_C G iw_wM X bX9_saves) (v1 : Int32) (v2 : Int32) (v3 : Int32) (v4 : Int32) (v5 : Int32) (v6 : Int32) (v7 : Int32) (v9 : Int32) (v10 : Int32) (v11 : Int32) (Rc K : Int32 → Int32 → Int32 → Int32 → Int32 → Int32 → Int32 → iw_M → Option (Int32 × iw_M)) (hR : ∀ (w4 : Int32) (w5 : Int32) (w6 : Int32) (w7 : Int32) (w8 : Int32) (w9 : Int32) (w10 : Int32) (z : iw_M), iw_V G iw_wM X bX9_saves iw_ei 21 [(0, .ref (iw_ad G 0)), (1, .int v1), (2, .int v2), (3, .int v3), (4, .int w4), (5, .int w5), (6, .int w6), (7, .int w7), (8, .int w8), (9, .int w9), (10, .int w10)] [] z (Rc w4 w5 w6 w7 w8 w9 w10 z)) (hK : ∀ (w4 : Int32) (w5 : Int32) (w6 : Int32) (w7 : Int32) (w8 : Int32) (w9 : Int32) (w10 : Int32) (z : iw_M), iw_V G iw_wM X bX9_saves iw_ei 140 [(0, .ref (iw_ad G 0)), (1, .int v1), (2, .int v2), (3, .int v3), (4, .int w4), (5, .int w5), (6, .int w6), (7, .int w7), (8, .int w8), (9, .int w9), (10, .int w10)] [] z (K w4 w5 w6 w7 w8 w9 w10 z)) (z : iw_M) : iw_V G iw_wM X bX9_saves iw_ei 120 [(0, .ref (iw_ad G 0)), (1, .int v1), (2, .int v2), (3, .int v3), (4, .int v4), (5, .int v5), (6, .int v6), (7, .int v7), (9, .int v9), (10, .int v10), (11, .int v11)] [] z (fX9_saves_J120 v1 v2 v3 v4 v5 v6 v7 v9 v10 v11 Rc K z) := by
  unfold fX9_saves_J120
  refine V_il hC dX9_saves_120 10 rfl ?_
  refine V_is [(8, .int _), (0, .ref _), (1, .int _), (2, .int _), (3, .int _), (4, .int _), (5, .int _), (6, .int _), (7, .int _), (9, .int _), (10, .int _), (11, .int _)] hC dX9_saves_122 (by decide) rfl ?_
  refine V_il hC dX9_saves_124 7 rfl ?_
  refine V_il hC dX9_saves_126 11 rfl ?_
  refine V_iadd hC dX9_saves_128 ?_
  refine V_is [(6, .int _), (8, .int _), (0, .ref _), (1, .int _), (2, .int _), (3, .int _), (4, .int _), (5, .int _), (7, .int _), (9, .int _), (10, .int _), (11, .int _)] hC dX9_saves_129 (by decide) rfl ?_
  refine V_inc (k := 6) (y := 1) [(4, .int _), (6, .int _), (8, .int _), (0, .ref _), (1, .int _), (2, .int _), (3, .int _), (5, .int _), (7, .int _), (9, .int _), (10, .int _), (11, .int _)] hC dX9_saves_131 rfl (by decide) (by decide) rfl ?_
  refine V_inc (k := 10) (y := 1) [(10, .int _), (4, .int _), (6, .int _), (8, .int _), (0, .ref _), (1, .int _), (2, .int _), (3, .int _), (5, .int _), (7, .int _), (9, .int _), (11, .int _)] hC dX9_saves_134 rfl (by decide) (by decide) rfl ?_
  refine V_goto 21 hC dX9_saves_137 (by decide) ?_
  refine V_sub [(0, .ref _), (1, .int _), (2, .int _), (3, .int _), (4, .int _), (5, .int _), (6, .int _), (7, .int _), (8, .int _), (9, .int _), (10, .int _)] [4, 5, 6, 7, 1, 8, 2, 9, 3, 10, 0] rfl ?_
  exact hR _ _ _ _ _ _ _ _
set_option maxRecDepth 100000 in
set_option maxHeartbeats 4000000 in
theorem vX9_saves_J95 {G : iw_G} {X : iw_X} (hC : iw_C G iw_wM X bX9_saves) (v1 : Int32) (v2 : Int32) (v3 : Int32) (v4 : Int32) (v5 : Int32) (v6 : Int32) (v7 : Int32) (v8 : Int32) (v9 : Int32) (v10 : Int32) (v11 : Int32) (Rc K : Int32 → Int32 → Int32 → Int32 → Int32 → Int32 → Int32 → iw_M → Option (Int32 × iw_M)) (hR : ∀ (w4 : Int32) (w5 : Int32) (w6 : Int32) (w7 : Int32) (w8 : Int32) (w9 : Int32) (w10 : Int32) (z : iw_M), iw_V G iw_wM X bX9_saves iw_ei 21 [(0, .ref (iw_ad G 0)), (1, .int v1), (2, .int v2), (3, .int v3), (4, .int w4), (5, .int w5), (6, .int w6), (7, .int w7), (8, .int w8), (9, .int w9), (10, .int w10)] [] z (Rc w4 w5 w6 w7 w8 w9 w10 z)) (hK : ∀ (w4 : Int32) (w5 : Int32) (w6 : Int32) (w7 : Int32) (w8 : Int32) (w9 : Int32) (w10 : Int32) (z : iw_M), iw_V G iw_wM X bX9_saves iw_ei 140 [(0, .ref (iw_ad G 0)), (1, .int v1), (2, .int v2), (3, .int v3), (4, .int w4), (5, .int w5), (6, .int w6), (7, .int w7), (8, .int w8), (9, .int w9), (10, .int w10)] [] z (K w4 w5 w6 w7 w8 w9 w10 z)) (z : iw_M) : iw_V G iw_wM X bX9_saves iw_ei 95 [(0, .ref (iw_ad G 0)), (1, .int v1), (2, .int v2), (3, .int v3), (4, .int v4), (5, .int v5), (6, .int v6), (7, .int v7), (8, .int v8), (9, .int v9), (10, .int v10), (11, .int v11)] [] z (fX9_saves_J95 v1 v2 v3 v4 v5 v6 v7 v8 v9 v10 v11 Rc K z) := by
  unfold fX9_saves_J95
  refine V_il hC dX9_saves_95 7 rfl ?_
  refine V_il hC dX9_saves_97 11 rfl ?_
  refine V_iadd hC dX9_saves_99 ?_
  refine V_is [(7, .int _), (0, .ref _), (1, .int _), (2, .int _), (3, .int _), (4, .int _), (5, .int _), (6, .int _), (8, .int _), (9, .int _), (10, .int _), (11, .int _)] hC dX9_saves_100 (by decide) rfl ?_
  refine V_inc (k := 6) (y := 1) [(5, .int _), (7, .int _), (0, .ref _), (1, .int _), (2, .int _), (3, .int _), (4, .int _), (6, .int _), (8, .int _), (9, .int _), (10, .int _), (11, .int _)] hC dX9_saves_102 rfl (by decide) (by decide) rfl ?_
  refine V_goto 134 hC dX9_saves_105 (by decide) ?_
  refine V_inc (k := 10) (y := 1) [(10, .int _), (5, .int _), (7, .int _), (0, .ref _), (1, .int _), (2, .int _), (3, .int _), (4, .int _), (6, .int _), (8, .int _), (9, .int _), (11, .int _)] hC dX9_saves_134 rfl (by decide) (by decide) rfl ?_
  refine V_goto 21 hC dX9_saves_137 (by decide) ?_
  refine V_sub [(0, .ref _), (1, .int _), (2, .int _), (3, .int _), (4, .int _), (5, .int _), (6, .int _), (7, .int _), (8, .int _), (9, .int _), (10, .int _)] [3, 4, 5, 6, 7, 1, 8, 2, 9, 10, 0] rfl ?_
  exact hR _ _ _ _ _ _ _ _
set_option maxRecDepth 100000 in
set_option maxHeartbeats 4000000 in
theorem vX9_saves_J91 {G : iw_G} {X : iw_X} (hC : iw_C G iw_wM X bX9_saves) (v1 : Int32) (v2 : Int32) (v3 : Int32) (v4 : Int32) (v5 : Int32) (v6 : Int32) (v7 : Int32) (v8 : Int32) (v10 : Int32) (v11 : Int32) (Rc K : Int32 → Int32 → Int32 → Int32 → Int32 → Int32 → Int32 → iw_M → Option (Int32 × iw_M)) (hR : ∀ (w4 : Int32) (w5 : Int32) (w6 : Int32) (w7 : Int32) (w8 : Int32) (w9 : Int32) (w10 : Int32) (z : iw_M), iw_V G iw_wM X bX9_saves iw_ei 21 [(0, .ref (iw_ad G 0)), (1, .int v1), (2, .int v2), (3, .int v3), (4, .int w4), (5, .int w5), (6, .int w6), (7, .int w7), (8, .int w8), (9, .int w9), (10, .int w10)] [] z (Rc w4 w5 w6 w7 w8 w9 w10 z)) (hK : ∀ (w4 : Int32) (w5 : Int32) (w6 : Int32) (w7 : Int32) (w8 : Int32) (w9 : Int32) (w10 : Int32) (z : iw_M), iw_V G iw_wM X bX9_saves iw_ei 140 [(0, .ref (iw_ad G 0)), (1, .int v1), (2, .int v2), (3, .int v3), (4, .int w4), (5, .int w5), (6, .int w6), (7, .int w7), (8, .int w8), (9, .int w9), (10, .int w10)] [] z (K w4 w5 w6 w7 w8 w9 w10 z)) (z : iw_M) : iw_V G iw_wM X bX9_saves iw_ei 91 [(0, .ref (iw_ad G 0)), (1, .int v1), (2, .int v2), (3, .int v3), (4, .int v4), (5, .int v5), (6, .int v6), (7, .int v7), (8, .int v8), (10, .int v10), (11, .int v11)] [] z (fX9_saves_J91 v1 v2 v3 v4 v5 v6 v7 v8 v10 v11 Rc K z) := by
  unfold fX9_saves_J91
  refine V_il hC dX9_saves_91 10 rfl ?_
  refine V_is [(9, .int _), (0, .ref _), (1, .int _), (2, .int _), (3, .int _), (4, .int _), (5, .int _), (6, .int _), (7, .int _), (8, .int _), (10, .int _), (11, .int _)] hC dX9_saves_93 (by decide) rfl ?_
  refine V_sub [(0, .ref _), (1, .int _), (2, .int _), (3, .int _), (4, .int _), (5, .int _), (6, .int _), (7, .int _), (8, .int _), (9, .int _), (10, .int _), (11, .int _)] [1, 2, 3, 4, 5, 6, 7, 8, 9, 0, 10, 11] rfl ?_
  refine vX9_saves_J95 hC _ _ _ _ _ _ _ _ _ _ _  _ _ hR hK _
set_option maxRecDepth 100000 in
set_option maxHeartbeats 4000000 in
theorem vX9_saves_L21 {G : iw_G} {X : iw_X} (hC : iw_C G iw_wM X bX9_saves) (v1 : Int32) (v2 : Int32) (v3 : Int32) (K : Int32 → Int32 → Int32 → Int32 → Int32 → Int32 → Int32 → iw_M → Option (Int32 × iw_M)) (hK : ∀ (v4 : Int32) (v5 : Int32) (v6 : Int32) (v7 : Int32) (v8 : Int32) (v9 : Int32) (v10 : Int32) (z : iw_M), iw_V G iw_wM X bX9_saves iw_ei 140 [(0, .ref (iw_ad G 0)), (1, .int v1), (2, .int v2), (3, .int v3), (4, .int v4), (5, .int v5), (6, .int v6), (7, .int v7), (8, .int v8), (9, .int v9), (10, .int v10)] [] z (K v4 v5 v6 v7 v8 v9 v10 z)) : ∀ (n : Nat) (v4 : Int32) (v5 : Int32) (v6 : Int32) (v7 : Int32) (v8 : Int32) (v9 : Int32) (v10 : Int32) (z : iw_M), iw_V G iw_wM X bX9_saves iw_ei 21 [(0, .ref (iw_ad G 0)), (1, .int v1), (2, .int v2), (3, .int v3), (4, .int v4), (5, .int v5), (6, .int v6), (7, .int v7), (8, .int v8), (9, .int v9), (10, .int v10)] [] z (fX9_saves_L21 v1 v2 v3 K n v4 v5 v6 v7 v8 v9 v10 z) := by
  intro n
  induction n with
  | zero =>
    intro v4 v5 v6 v7 v8 v9 v10 z
    exact V_none
  | succ n ih =>
    intro v4 v5 v6 v7 v8 v9 v10 z
    simp only [fX9_saves_L21]
    refine V_il hC dX9_saves_21 10 rfl ?_
    refine V_aln hC dX9_saves_23 0 rfl ?_
    refine V_gi hC fl_X9_187 (by decide) rfl rfl dX9_saves_24 ?_
    refine V_cge 140 hC dX9_saves_27 (by decide) ?_ ?_
    · exact hK _ _ _ _ _ _ _ _
    · refine V_aln hC dX9_saves_30 0 rfl ?_
      refine V_gr hC fl_X9_84 (by decide) rfl rfl dX9_saves_31 ?_
      refine V_il hC dX9_saves_34 10 rfl ?_
      refine V_ia hC (by decide) rfl dX9_saves_36 ?_
      refine V_iln hC dX9_saves_37 2 rfl ?_
      refine V_cne 134 hC dX9_saves_38 (by decide) ?_ ?_
      · refine V_inc (k := 10) (y := 1) [(10, .int _), (0, .ref _), (1, .int _), (2, .int _), (3, .int _), (4, .int _), (5, .int _), (6, .int _), (7, .int _), (8, .int _), (9, .int _)] hC dX9_saves_134 rfl (by decide) (by decide) rfl ?_
        refine V_goto 21 hC dX9_saves_137 (by decide) ?_
        refine V_sub [(0, .ref _), (1, .int _), (2, .int _), (3, .int _), (4, .int _), (5, .int _), (6, .int _), (7, .int _), (8, .int _), (9, .int _), (10, .int _)] [1, 2, 3, 4, 5, 6, 7, 8, 9, 10, 0] rfl ?_
        exact ih _ _ _ _ _ _ _ _
      · refine V_aln hC dX9_saves_41 0 rfl ?_
        refine V_gr hC fl_X9_114 (by decide) rfl rfl dX9_saves_42 ?_
        refine V_aln hC dX9_saves_45 0 rfl ?_
        refine V_gr hC fl_X9_87 (by decide) rfl rfl dX9_saves_46 ?_
        refine V_il hC dX9_saves_49 10 rfl ?_
        refine V_ia hC (by decide) rfl dX9_saves_51 ?_
        refine V_ia hC (by decide) rfl dX9_saves_52 ?_
        refine V_iln hC dX9_saves_53 1 rfl ?_
        refine V_ceq 60 hC dX9_saves_54 (by decide) ?_ ?_
        · refine V_aln hC dX9_saves_60 0 rfl ?_
          refine V_gr hC fl_X9_90 (by decide) rfl rfl dX9_saves_61 ?_
          refine V_il hC dX9_saves_64 10 rfl ?_
          refine V_ia hC (by decide) rfl dX9_saves_66 ?_
          refine V_is [(11, .int _), (0, .ref _), (1, .int _), (2, .int _), (3, .int _), (4, .int _), (5, .int _), (6, .int _), (7, .int _), (8, .int _), (9, .int _), (10, .int _)] hC dX9_saves_67 (by decide) rfl ?_
          refine V_aln hC dX9_saves_69 1 rfl ?_
          refine V_gr hC fl_X9_93 (by decide) rfl rfl dX9_saves_70 ?_
          refine V_il hC dX9_saves_73 11 rfl ?_
          refine V_ba hC (by decide) rfl dX9_saves_75 ?_
          refine V_ieq 108 hC dX9_saves_76 (by decide) ?_ ?_
          · refine V_il hC dX9_saves_108 5 rfl ?_
            refine V_ieq 120 hC dX9_saves_110 (by decide) ?_ ?_
            · refine V_sub [(0, .ref _), (1, .int _), (2, .int _), (3, .int _), (4, .int _), (5, .int _), (6, .int _), (7, .int _), (9, .int _), (10, .int _), (11, .int _)] [1, 2, 3, 4, 5, 6, 7, 8, 10, 11, 0] rfl ?_
              refine vX9_saves_J120 hC _ _ _ _ _ _ _ _ _ _  _ _ ih hK _
            · refine V_il hC dX9_saves_113 0 rfl ?_
              refine V_il hC dX9_saves_115 9 rfl ?_
              refine V_cge 124 hC dX9_saves_117 (by decide) ?_ ?_
              · refine V_il hC dX9_saves_124 7 rfl ?_
                refine V_il hC dX9_saves_126 0 rfl ?_
                refine V_iadd hC dX9_saves_128 ?_
                refine V_is [(6, .int _), (11, .int _), (0, .ref _), (1, .int _), (2, .int _), (3, .int _), (4, .int _), (5, .int _), (7, .int _), (8, .int _), (9, .int _), (10, .int _)] hC dX9_saves_129 (by decide) rfl ?_
                refine V_inc (k := 6) (y := 1) [(4, .int _), (6, .int _), (11, .int _), (0, .ref _), (1, .int _), (2, .int _), (3, .int _), (5, .int _), (7, .int _), (8, .int _), (9, .int _), (10, .int _)] hC dX9_saves_131 rfl (by decide) (by decide) rfl ?_
                refine V_inc (k := 11) (y := 1) [(10, .int _), (4, .int _), (6, .int _), (11, .int _), (0, .ref _), (1, .int _), (2, .int _), (3, .int _), (5, .int _), (7, .int _), (8, .int _), (9, .int _)] hC dX9_saves_134 rfl (by decide) (by decide) rfl ?_
                refine V_goto 21 hC dX9_saves_137 (by decide) ?_
                refine V_sub [(0, .ref _), (1, .int _), (2, .int _), (3, .int _), (4, .int _), (5, .int _), (6, .int _), (7, .int _), (8, .int _), (9, .int _), (10, .int _)] [4, 5, 6, 7, 1, 8, 2, 9, 10, 11, 0] rfl ?_
                exact ih _ _ _ _ _ _ _ _
              · refine V_sub [(0, .ref _), (1, .int _), (2, .int _), (3, .int _), (4, .int _), (5, .int _), (6, .int _), (7, .int _), (9, .int _), (10, .int _), (11, .int _)] [1, 2, 3, 4, 5, 6, 7, 8, 10, 11, 0] rfl ?_
                refine vX9_saves_J120 hC _ _ _ _ _ _ _ _ _ _  _ _ ih hK _
          · refine V_il hC dX9_saves_79 6 rfl ?_
            refine V_ieq 91 hC dX9_saves_81 (by decide) ?_ ?_
            · refine V_sub [(0, .ref _), (1, .int _), (2, .int _), (3, .int _), (4, .int _), (5, .int _), (6, .int _), (7, .int _), (8, .int _), (10, .int _), (11, .int _)] [1, 2, 3, 4, 5, 6, 7, 8, 9, 11, 0] rfl ?_
              refine vX9_saves_J91 hC _ _ _ _ _ _ _ _ _ _  _ _ ih hK _
            · refine V_il hC dX9_saves_84 0 rfl ?_
              refine V_il hC dX9_saves_86 10 rfl ?_
              refine V_cle 95 hC dX9_saves_88 (by decide) ?_ ?_
              · refine V_sub [(0, .ref _), (1, .int _), (2, .int _), (3, .int _), (4, .int _), (5, .int _), (6, .int _), (7, .int _), (8, .int _), (9, .int _), (10, .int _), (11, .int _)] [1, 2, 3, 4, 5, 6, 7, 8, 9, 10, 11, 0] rfl ?_
                refine vX9_saves_J95 hC _ _ _ _ _ _ _ _ _ _ _  _ _ ih hK _
              · refine V_sub [(0, .ref _), (1, .int _), (2, .int _), (3, .int _), (4, .int _), (5, .int _), (6, .int _), (7, .int _), (8, .int _), (10, .int _), (11, .int _)] [1, 2, 3, 4, 5, 6, 7, 8, 9, 11, 0] rfl ?_
                refine vX9_saves_J91 hC _ _ _ _ _ _ _ _ _ _  _ _ ih hK _
        · refine V_goto 134 hC dX9_saves_57 (by decide) ?_
          refine V_inc (k := 10) (y := 1) [(10, .int _), (0, .ref _), (1, .int _), (2, .int _), (3, .int _), (4, .int _), (5, .int _), (6, .int _), (7, .int _), (8, .int _), (9, .int _)] hC dX9_saves_134 rfl (by decide) (by decide) rfl ?_
          refine V_goto 21 hC dX9_saves_137 (by decide) ?_
          refine V_sub [(0, .ref _), (1, .int _), (2, .int _), (3, .int _), (4, .int _), (5, .int _), (6, .int _), (7, .int _), (8, .int _), (9, .int _), (10, .int _)] [1, 2, 3, 4, 5, 6, 7, 8, 9, 10, 0] rfl ?_
          exact ih _ _ _ _ _ _ _ _
set_option maxRecDepth 100000 in
set_option maxHeartbeats 4000000 in
theorem kX9_saves (G : iw_G) (v1 : Int32) (v2 : Int32) (v3 : Int32) (z : iw_M) : iw_K G iw_wM yX9_saves cX9_saves 12 (some .int) 0 0 iw_ei [.ref (iw_ad G 0), .int v1, .int v2, .int v3] z (fX9_saves v1 v2 v3 z) := by
  refine iw_of [(0, .ref (iw_ad G 0)), (1, .int v1), (2, .int v2), (3, .int v3)] (by decide +kernel) (Nat.le_of_ble_eq_true rfl) rfl ?_
  intro X hC
  unfold fX9_saves
  refine V_ic (x := 0) hC dX9_saves_0 (by decide) ?_
  refine V_is [(4, .int _), (0, .ref _), (1, .int _), (2, .int _), (3, .int _)] hC dX9_saves_1 (by decide) rfl ?_
  refine V_ic (x := 0) hC dX9_saves_3 (by decide) ?_
  refine V_is [(5, .int _), (4, .int _), (0, .ref _), (1, .int _), (2, .int _), (3, .int _)] hC dX9_saves_4 (by decide) rfl ?_
  refine V_ic (x := 0) hC dX9_saves_6 (by decide) ?_
  refine V_is [(6, .int _), (5, .int _), (4, .int _), (0, .ref _), (1, .int _), (2, .int _), (3, .int _)] hC dX9_saves_7 (by decide) rfl ?_
  refine V_ic (x := 0) hC dX9_saves_9 (by decide) ?_
  refine V_is [(7, .int _), (6, .int _), (5, .int _), (4, .int _), (0, .ref _), (1, .int _), (2, .int _), (3, .int _)] hC dX9_saves_10 (by decide) rfl ?_
  refine V_ic (x := 0) hC dX9_saves_12 (by decide) ?_
  refine V_is [(8, .int _), (7, .int _), (6, .int _), (5, .int _), (4, .int _), (0, .ref _), (1, .int _), (2, .int _), (3, .int _)] hC dX9_saves_13 (by decide) rfl ?_
  refine V_ic (x := 0) hC dX9_saves_15 (by decide) ?_
  refine V_is [(9, .int _), (8, .int _), (7, .int _), (6, .int _), (5, .int _), (4, .int _), (0, .ref _), (1, .int _), (2, .int _), (3, .int _)] hC dX9_saves_16 (by decide) rfl ?_
  refine V_ic (x := 0) hC dX9_saves_18 (by decide) ?_
  refine V_is [(10, .int _), (9, .int _), (8, .int _), (7, .int _), (6, .int _), (5, .int _), (4, .int _), (0, .ref _), (1, .int _), (2, .int _), (3, .int _)] hC dX9_saves_19 (by decide) rfl ?_
  refine V_sub [(0, .ref _), (1, .int _), (2, .int _), (3, .int _), (4, .int _), (5, .int _), (6, .int _), (7, .int _), (8, .int _), (9, .int _), (10, .int _)] [7, 8, 9, 10, 6, 5, 4, 3, 2, 1, 0] rfl ?_
  refine vX9_saves_L21 hC _ _ _ _ ?_ _ _ _ _ _ _ _ _ _
  intro x4_1 x5_1 x6_1 x7_1 x8_1 x9_1 x10_1 z_1
  refine V_il hC dX9_saves_140 4 rfl ?_
  refine V_ieq 150 hC dX9_saves_142 (by decide) ?_ ?_
  · refine V_ic (x := 0) hC dX9_saves_150 (by decide) ?_
    exact V_ir hC dX9_saves_151 rfl
  · refine V_il hC dX9_saves_145 5 rfl ?_
    refine V_ine 152 hC dX9_saves_147 (by decide) ?_ ?_
    · refine V_iln hC dX9_saves_152 3 rfl ?_
      refine V_ieq 170 hC dX9_saves_153 (by decide) ?_ ?_
      · refine V_il hC dX9_saves_170 8 rfl ?_
        refine V_il hC dX9_saves_172 9 rfl ?_
        refine V_isub hC dX9_saves_174 ?_
        refine V_is [(10, .int _), (0, .ref _), (1, .int _), (2, .int _), (3, .int _), (4, .int _), (5, .int _), (6, .int _), (7, .int _), (8, .int _), (9, .int _)] hC dX9_saves_175 (by decide) rfl ?_
        refine V_il hC dX9_saves_177 0 rfl ?_
        refine V_ige 186 hC dX9_saves_179 (by decide) ?_ ?_
        · refine V_il hC dX9_saves_186 0 rfl ?_
          exact V_ir hC dX9_saves_188 rfl
        · refine V_ic (x := 0) hC dX9_saves_182 (by decide) ?_
          refine V_goto 188 hC dX9_saves_183 (by decide) ?_
          exact V_ir hC dX9_saves_188 rfl
      · refine V_il hC dX9_saves_156 6 rfl ?_
        refine V_il hC dX9_saves_158 4 rfl ?_
        refine V_idiv hC dX9_saves_160 ?_
        refine V_il hC dX9_saves_161 7 rfl ?_
        refine V_il hC dX9_saves_163 5 rfl ?_
        refine V_idiv hC dX9_saves_165 ?_
        refine V_isub hC dX9_saves_166 ?_
        refine V_goto 175 hC dX9_saves_167 (by decide) ?_
        refine V_is [(10, .int _), (0, .ref _), (1, .int _), (2, .int _), (3, .int _), (4, .int _), (5, .int _), (6, .int _), (7, .int _), (8, .int _), (9, .int _)] hC dX9_saves_175 (by decide) rfl ?_
        refine V_il hC dX9_saves_177 0 rfl ?_
        refine V_ige 186 hC dX9_saves_179 (by decide) ?_ ?_
        · refine V_il hC dX9_saves_186 0 rfl ?_
          exact V_ir hC dX9_saves_188 rfl
        · refine V_ic (x := 0) hC dX9_saves_182 (by decide) ?_
          refine V_goto 188 hC dX9_saves_183 (by decide) ?_
          exact V_ir hC dX9_saves_188 rfl
    · refine V_ic (x := 0) hC dX9_saves_150 (by decide) ?_
      exact V_ir hC dX9_saves_151 rfl
def fX9_saved (v1 : Int32) (v2 : Int32) (v3 : Int32) (z : iw_M) : Option (Int32 × iw_M) :=
  ((fX9_isBench v1 z).bind (fun q1 =>
  (if q1.1 = 0 then
  ((fX9_no (-1 : Int32) q1.2).bind (fun q2 =>
  some (q2.1, q2.2)))
  else
  ((fX9_isIdea v2 q1.2).bind (fun q3 =>
  (if q3.1 = 0 then
  ((fX9_no (-1 : Int32) q3.2).bind (fun q9 =>
  some (q9.1, q9.2)))
  else
  (if v3 < 0 then
  ((fX9_no (-2 : Int32) q3.2).bind (fun q4 =>
  some (q4.1, q4.2)))
  else
  (if v3 ≤ (1 : Int32) then
  ((fX9_families (q3.2.1 0 6) q3.2).bind (fun q5 =>
  (if iw_ok v2 40 then
  (if v3 = (1 : Int32) then
  ((fX9_saves (q5.2.1 31 (Int32.toNatClampNeg v2)) v1 (1 : Int32) q5.2).bind (fun q7 =>
  some (q7.1, q7.2)))
  else
  ((fX9_saves (q5.2.1 31 (Int32.toNatClampNeg v2)) v1 (0 : Int32) q5.2).bind (fun q6 =>
  some (q6.1, q6.2))))
  else none)))
  else
  ((fX9_no (-2 : Int32) q3.2).bind (fun q8 =>
  some (q8.1, q8.2)))))))))))
abbrev bX9_saved : iw_B := (cX9_saved, 4, { frames := 3, cells := 0, slots := 0, locals := 68 }, yX9_saved.cls, (some .int))
set_option maxRecDepth 100000 in
set_option maxHeartbeats 4000000 in
theorem kX9_saved (G : iw_G) (v1 : Int32) (v2 : Int32) (v3 : Int32) (z : iw_M) : iw_K G iw_wM yX9_saved cX9_saved 4 (some .int) 3 68 iw_ei [.ref (iw_ad G 0), .int v1, .int v2, .int v3] z (fX9_saved v1 v2 v3 z) := by
  refine iw_of [(0, .ref (iw_ad G 0)), (1, .int v1), (2, .int v2), (3, .int v3)] (by decide +kernel) (Nat.le_of_ble_eq_true rfl) rfl ?_
  intro X hC
  unfold fX9_saved
  refine V_iln hC dX9_saved_0 1 rfl ?_
  refine V_csi [] hC cs_X9_184 (kX9_isBench G _ _) rfl rfl (Nat.le_of_ble_eq_true rfl) ⟨by decide, by decide⟩ dX9_saved_1 ?_
  intro q1
  refine V_ieq 15 hC dX9_saved_4 (by decide) ?_ ?_
  · refine V_aln hC dX9_saved_15 0 rfl ?_
    refine V_ic (x := -1) hC dX9_saved_16 (by decide) ?_
    refine V_cvi [] hC cv_X9_128 (by decide) rfl rfl (kX9_no G _ _) rfl rfl (Nat.le_of_ble_eq_true rfl) ⟨by decide, by decide⟩ dX9_saved_17 ?_
    intro q2
    exact V_ir hC dX9_saved_20 rfl
  · refine V_aln hC dX9_saved_7 0 rfl ?_
    refine V_iln hC dX9_saved_8 2 rfl ?_
    refine V_cvi [] hC cv_X9_141 (by decide) rfl rfl (kX9_isIdea G _ _) rfl rfl (Nat.le_of_ble_eq_true rfl) ⟨by decide, by decide⟩ dX9_saved_9 ?_
    intro q3
    refine V_ine 21 hC dX9_saved_12 (by decide) ?_ ?_
    · refine V_iln hC dX9_saved_21 3 rfl ?_
      refine V_ilt 30 hC dX9_saved_22 (by decide) ?_ ?_
      · refine V_aln hC dX9_saved_30 0 rfl ?_
        refine V_bip (x := -2) hC dX9_saved_31 (by decide) ?_
        refine V_cvi [] hC cv_X9_128 (by decide) rfl rfl (kX9_no G _ _) rfl rfl (Nat.le_of_ble_eq_true rfl) ⟨by decide, by decide⟩ dX9_saved_33 ?_
        intro q4
        exact V_ir hC dX9_saved_36 rfl
      · refine V_iln hC dX9_saved_25 3 rfl ?_
        refine V_ic (x := 1) hC dX9_saved_26 (by decide) ?_
        refine V_cle 37 hC dX9_saved_27 (by decide) ?_ ?_
        · refine V_aln hC dX9_saved_37 0 rfl ?_
          refine V_aln hC dX9_saved_38 0 rfl ?_
          refine V_gi hC fl_X9_7 (by decide) rfl rfl dX9_saved_39 ?_
          refine V_cvv [] hC cv_X9_155 (by decide) rfl rfl (kX9_families G _ _) rfl rfl (Nat.le_of_ble_eq_true rfl) ⟨by decide, by decide⟩ dX9_saved_42 ?_
          intro q5
          refine V_aln hC dX9_saved_45 0 rfl ?_
          refine V_aln hC dX9_saved_46 0 rfl ?_
          refine V_gr hC fl_X9_114 (by decide) rfl rfl dX9_saved_47 ?_
          refine V_iln hC dX9_saved_50 2 rfl ?_
          refine V_ia hC (by decide) rfl dX9_saved_51 ?_
          refine V_iln hC dX9_saved_52 1 rfl ?_
          refine V_iln hC dX9_saved_53 3 rfl ?_
          refine V_ic (x := 1) hC dX9_saved_54 (by decide) ?_
          refine V_cne 62 hC dX9_saved_55 (by decide) ?_ ?_
          · refine V_ic (x := 0) hC dX9_saved_62 (by decide) ?_
            refine V_cvi [] hC cv_X9_190 (by decide) rfl rfl (kX9_saves G _ _ _ _) rfl rfl (Nat.le_of_ble_eq_true rfl) ⟨by decide, by decide⟩ dX9_saved_63 ?_
            intro q6
            exact V_ir hC dX9_saved_66 rfl
          · refine V_ic (x := 1) hC dX9_saved_58 (by decide) ?_
            refine V_goto 63 hC dX9_saved_59 (by decide) ?_
            refine V_cvi [] hC cv_X9_190 (by decide) rfl rfl (kX9_saves G _ _ _ _) rfl rfl (Nat.le_of_ble_eq_true rfl) ⟨by decide, by decide⟩ dX9_saved_63 ?_
            intro q7
            exact V_ir hC dX9_saved_66 rfl
        · refine V_aln hC dX9_saved_30 0 rfl ?_
          refine V_bip (x := -2) hC dX9_saved_31 (by decide) ?_
          refine V_cvi [] hC cv_X9_128 (by decide) rfl rfl (kX9_no G _ _) rfl rfl (Nat.le_of_ble_eq_true rfl) ⟨by decide, by decide⟩ dX9_saved_33 ?_
          intro q8
          exact V_ir hC dX9_saved_36 rfl
    · refine V_aln hC dX9_saved_15 0 rfl ?_
      refine V_ic (x := -1) hC dX9_saved_16 (by decide) ?_
      refine V_cvi [] hC cv_X9_128 (by decide) rfl rfl (kX9_no G _ _) rfl rfl (Nat.le_of_ble_eq_true rfl) ⟨by decide, by decide⟩ dX9_saved_17 ?_
      intro q9
      exact V_ir hC dX9_saved_20 rfl
def fX9_harm (v1 : Int32) (v2 : Int32) (z : iw_M) : Option (Int32 × iw_M) :=
  ((fX9_isIdea v1 z).bind (fun q1 =>
  (if q1.1 = 0 then
  ((fX9_no (-1 : Int32) q1.2).bind (fun q4 =>
  some (q4.1, q4.2)))
  else
  (if 0 ≤ v2 then
  (if v2 ≤ (100000 : Int32) then
  (if iw_ok v1 40 then
  (if iw_ok v1 40 then
  some ((q1.2.1 15 (Int32.toNatClampNeg v1)), (iw_wI q1.2 15 (Int32.toNatClampNeg v1) v2))
  else none)
  else none)
  else
  ((fX9_no (-6 : Int32) q1.2).bind (fun q2 =>
  some (q2.1, q2.2))))
  else
  ((fX9_no (-4 : Int32) q1.2).bind (fun q3 =>
  some (q3.1, q3.2)))))))
abbrev bX9_harm : iw_B := (cX9_harm, 4, { frames := 1, cells := 0, slots := 0, locals := 21 }, yX9_harm.cls, (some .int))
set_option maxRecDepth 100000 in
set_option maxHeartbeats 4000000 in
theorem kX9_harm (G : iw_G) (v1 : Int32) (v2 : Int32) (z : iw_M) : iw_K G iw_wM yX9_harm cX9_harm 4 (some .int) 1 21 iw_ei [.ref (iw_ad G 0), .int v1, .int v2] z (fX9_harm v1 v2 z) := by
  refine iw_of [(0, .ref (iw_ad G 0)), (1, .int v1), (2, .int v2)] (by decide +kernel) (Nat.le_of_ble_eq_true rfl) rfl ?_
  intro X hC
  unfold fX9_harm
  refine V_aln hC dX9_harm_0 0 rfl ?_
  refine V_iln hC dX9_harm_1 1 rfl ?_
  refine V_cvi [] hC cv_X9_141 (by decide) rfl rfl (kX9_isIdea G _ _) rfl rfl (Nat.le_of_ble_eq_true rfl) ⟨by decide, by decide⟩ dX9_harm_2 ?_
  intro q1
  refine V_ine 14 hC dX9_harm_5 (by decide) ?_ ?_
  · refine V_iln hC dX9_harm_14 2 rfl ?_
    refine V_ige 25 hC dX9_harm_15 (by decide) ?_ ?_
    · refine V_iln hC dX9_harm_25 2 rfl ?_
      refine V_ldc hC dX9_harm_26 kc_X9_194 ?_
      refine V_cle 38 hC dX9_harm_28 (by decide) ?_ ?_
      · refine V_aln hC dX9_harm_38 0 rfl ?_
        refine V_gr hC fl_X9_66 (by decide) rfl rfl dX9_harm_39 ?_
        refine V_iln hC dX9_harm_42 1 rfl ?_
        refine V_ia hC (by decide) rfl dX9_harm_43 ?_
        refine V_isn [(3, .int _), (0, .ref _), (1, .int _), (2, .int _)] hC dX9_harm_44 (by decide) rfl ?_
        refine V_aln hC dX9_harm_45 1 rfl ?_
        refine V_gr hC fl_X9_66 (by decide) rfl rfl dX9_harm_46 ?_
        refine V_iln hC dX9_harm_49 2 rfl ?_
        refine V_iln hC dX9_harm_50 3 rfl ?_
        refine V_is_ hC (by decide) rfl dX9_harm_51 ?_
        refine V_iln hC dX9_harm_52 0 rfl ?_
        exact V_ir hC dX9_harm_53 rfl
      · refine V_aln hC dX9_harm_31 0 rfl ?_
        refine V_bip (x := -6) hC dX9_harm_32 (by decide) ?_
        refine V_cvi [] hC cv_X9_128 (by decide) rfl rfl (kX9_no G _ _) rfl rfl (Nat.le_of_ble_eq_true rfl) ⟨by decide, by decide⟩ dX9_harm_34 ?_
        intro q2
        exact V_ir hC dX9_harm_37 rfl
    · refine V_aln hC dX9_harm_18 0 rfl ?_
      refine V_bip (x := -4) hC dX9_harm_19 (by decide) ?_
      refine V_cvi [] hC cv_X9_128 (by decide) rfl rfl (kX9_no G _ _) rfl rfl (Nat.le_of_ble_eq_true rfl) ⟨by decide, by decide⟩ dX9_harm_21 ?_
      intro q3
      exact V_ir hC dX9_harm_24 rfl
  · refine V_aln hC dX9_harm_8 0 rfl ?_
    refine V_ic (x := -1) hC dX9_harm_9 (by decide) ?_
    refine V_cvi [] hC cv_X9_128 (by decide) rfl rfl (kX9_no G _ _) rfl rfl (Nat.le_of_ble_eq_true rfl) ⟨by decide, by decide⟩ dX9_harm_10 ?_
    intro q4
    exact V_ir hC dX9_harm_13 rfl
def fX9_worthOf_L4 (v1 : Int32) (K : Int32 → Int32 → iw_M → Option (Int32 × iw_M)) : Nat → Int32 → Int32 → iw_M → Option (Int32 × iw_M)
  | 0, _, _, _ => none
  | n + 1, v2, v3, z => (if (10 : Int32) ≤ v3 then
  K v2 v3 z
  else
  ((fX9_saves v1 v3 (0 : Int32) z).bind (fun q1 =>
  (if iw_ok v3 10 then
  (if (100 : Int32) = 0 then none else
  fX9_worthOf_L4 v1 K n (v2 + ((q1.1 * (q1.2.1 20 (Int32.toNatClampNeg v3))) / (100 : Int32))) (v3 + (1 : Int32)) q1.2)
  else none))))
def fX9_worthOf_L38 (v1 : Int32) (K : Int32 → Int32 → iw_M → Option (Int32 × iw_M)) : Nat → Int32 → Int32 → iw_M → Option (Int32 × iw_M)
  | 0, _, _, _ => none
  | n + 1, v2, v3, z => (if (z.1 0 2) ≤ v3 then
  K v2 v3 z
  else
  (if iw_ok v3 40 then
  (if (z.1 31 (Int32.toNatClampNeg v3)) = v1 then
  (if iw_ok v3 40 then
  fX9_worthOf_L38 v1 K n (v2 - (z.1 15 (Int32.toNatClampNeg v3))) (v3 + (1 : Int32)) z
  else none)
  else
  fX9_worthOf_L38 v1 K n v2 (v3 + (1 : Int32)) z)
  else none))
def fX9_worthOf (v1 : Int32) (z : iw_M) : Option (Int32 × iw_M) :=
  fX9_worthOf_L4 v1 (fun x2_2 x3_2 z_2 => fX9_worthOf_L38 v1 (fun x2_3 x3_3 z_3 => (if 0 ≤ x2_3 then
  some (x2_3, z_3)
  else
  some ((0 : Int32), z_3))) iw_fu x2_2 (0 : Int32) z_2) iw_fu (0 : Int32) (0 : Int32) z
abbrev bX9_worthOf : iw_B := (cX9_worthOf, 4, { frames := 1, cells := 0, slots := 0, locals := 31 }, yX9_worthOf.cls, (some .int))
set_option maxRecDepth 100000 in
set_option maxHeartbeats 4000000 in
theorem vX9_worthOf_L4 {G : iw_G} {X : iw_X} (hC : iw_C G iw_wM X bX9_worthOf) (v1 : Int32) (K : Int32 → Int32 → iw_M → Option (Int32 × iw_M)) (hK : ∀ (v2 : Int32) (v3 : Int32) (z : iw_M), iw_V G iw_wM X bX9_worthOf iw_ei 36 [(0, .ref (iw_ad G 0)), (1, .int v1), (2, .int v2), (3, .int v3)] [] z (K v2 v3 z)) : ∀ (n : Nat) (v2 : Int32) (v3 : Int32) (z : iw_M), iw_V G iw_wM X bX9_worthOf iw_ei 4 [(0, .ref (iw_ad G 0)), (1, .int v1), (2, .int v2), (3, .int v3)] [] z (fX9_worthOf_L4 v1 K n v2 v3 z) := by
  intro n
  induction n with
  | zero =>
    intro v2 v3 z
    exact V_none
  | succ n ih =>
    intro v2 v3 z
    simp only [fX9_worthOf_L4]
    refine V_iln hC dX9_worthOf_4 3 rfl ?_
    refine V_bip (x := 10) hC dX9_worthOf_5 (by decide) ?_
    refine V_cge 36 hC dX9_worthOf_7 (by decide) ?_ ?_
    · exact hK _ _ _
    · refine V_iln hC dX9_worthOf_10 2 rfl ?_
      refine V_aln hC dX9_worthOf_11 0 rfl ?_
      refine V_iln hC dX9_worthOf_12 1 rfl ?_
      refine V_iln hC dX9_worthOf_13 3 rfl ?_
      refine V_ic (x := 0) hC dX9_worthOf_14 (by decide) ?_
      refine V_cvi [.int _] hC cv_X9_190 (by decide) rfl rfl (kX9_saves G _ _ _ _) rfl rfl (Nat.le_of_ble_eq_true rfl) ⟨by decide, by decide⟩ dX9_worthOf_15 ?_
      intro q1
      refine V_aln hC dX9_worthOf_18 0 rfl ?_
      refine V_gr hC fl_X9_81 (by decide) rfl rfl dX9_worthOf_19 ?_
      refine V_iln hC dX9_worthOf_22 3 rfl ?_
      refine V_ia hC (by decide) rfl dX9_worthOf_23 ?_
      refine V_imul hC dX9_worthOf_24 ?_
      refine V_bip (x := 100) hC dX9_worthOf_25 (by decide) ?_
      refine V_idiv hC dX9_worthOf_27 ?_
      refine V_iadd hC dX9_worthOf_28 ?_
      refine V_isn [(2, .int _), (0, .ref _), (1, .int _), (3, .int _)] hC dX9_worthOf_29 (by decide) rfl ?_
      refine V_inc (k := 3) (y := 1) [(3, .int _), (2, .int _), (0, .ref _), (1, .int _)] hC dX9_worthOf_30 rfl (by decide) (by decide) rfl ?_
      refine V_goto 4 hC dX9_worthOf_33 (by decide) ?_
      refine V_sub [(0, .ref _), (1, .int _), (2, .int _), (3, .int _)] [2, 3, 1, 0] rfl ?_
      exact ih _ _ _
set_option maxRecDepth 100000 in
set_option maxHeartbeats 4000000 in
theorem vX9_worthOf_L38 {G : iw_G} {X : iw_X} (hC : iw_C G iw_wM X bX9_worthOf) (v1 : Int32) (K : Int32 → Int32 → iw_M → Option (Int32 × iw_M)) (hK : ∀ (v2 : Int32) (v3 : Int32) (z : iw_M), iw_V G iw_wM X bX9_worthOf iw_ei 71 [(0, .ref (iw_ad G 0)), (1, .int v1), (2, .int v2), (3, .int v3)] [] z (K v2 v3 z)) : ∀ (n : Nat) (v2 : Int32) (v3 : Int32) (z : iw_M), iw_V G iw_wM X bX9_worthOf iw_ei 38 [(0, .ref (iw_ad G 0)), (1, .int v1), (2, .int v2), (3, .int v3)] [] z (fX9_worthOf_L38 v1 K n v2 v3 z) := by
  intro n
  induction n with
  | zero =>
    intro v2 v3 z
    exact V_none
  | succ n ih =>
    intro v2 v3 z
    simp only [fX9_worthOf_L38]
    refine V_iln hC dX9_worthOf_38 3 rfl ?_
    refine V_aln hC dX9_worthOf_39 0 rfl ?_
    refine V_gi hC fl_X9_120 (by decide) rfl rfl dX9_worthOf_40 ?_
    refine V_cge 71 hC dX9_worthOf_43 (by decide) ?_ ?_
    · exact hK _ _ _
    · refine V_aln hC dX9_worthOf_46 0 rfl ?_
      refine V_gr hC fl_X9_114 (by decide) rfl rfl dX9_worthOf_47 ?_
      refine V_iln hC dX9_worthOf_50 3 rfl ?_
      refine V_ia hC (by decide) rfl dX9_worthOf_51 ?_
      refine V_iln hC dX9_worthOf_52 1 rfl ?_
      refine V_cne 65 hC dX9_worthOf_53 (by decide) ?_ ?_
      · refine V_inc (k := 3) (y := 1) [(3, .int _), (0, .ref _), (1, .int _), (2, .int _)] hC dX9_worthOf_65 rfl (by decide) (by decide) rfl ?_
        refine V_goto 38 hC dX9_worthOf_68 (by decide) ?_
        refine V_sub [(0, .ref _), (1, .int _), (2, .int _), (3, .int _)] [1, 2, 3, 0] rfl ?_
        exact ih _ _ _
      · refine V_iln hC dX9_worthOf_56 2 rfl ?_
        refine V_aln hC dX9_worthOf_57 0 rfl ?_
        refine V_gr hC fl_X9_66 (by decide) rfl rfl dX9_worthOf_58 ?_
        refine V_iln hC dX9_worthOf_61 3 rfl ?_
        refine V_ia hC (by decide) rfl dX9_worthOf_62 ?_
        refine V_isub hC dX9_worthOf_63 ?_
        refine V_isn [(2, .int _), (0, .ref _), (1, .int _), (3, .int _)] hC dX9_worthOf_64 (by decide) rfl ?_
        refine V_inc (k := 3) (y := 1) [(3, .int _), (2, .int _), (0, .ref _), (1, .int _)] hC dX9_worthOf_65 rfl (by decide) (by decide) rfl ?_
        refine V_goto 38 hC dX9_worthOf_68 (by decide) ?_
        refine V_sub [(0, .ref _), (1, .int _), (2, .int _), (3, .int _)] [2, 3, 1, 0] rfl ?_
        exact ih _ _ _
set_option maxRecDepth 100000 in
set_option maxHeartbeats 4000000 in
theorem kX9_worthOf (G : iw_G) (v1 : Int32) (z : iw_M) : iw_K G iw_wM yX9_worthOf cX9_worthOf 4 (some .int) 1 31 iw_ei [.ref (iw_ad G 0), .int v1] z (fX9_worthOf v1 z) := by
  refine iw_of [(0, .ref (iw_ad G 0)), (1, .int v1)] (by decide +kernel) (Nat.le_of_ble_eq_true rfl) rfl ?_
  intro X hC
  unfold fX9_worthOf
  refine V_ic (x := 0) hC dX9_worthOf_0 (by decide) ?_
  refine V_isn [(2, .int _), (0, .ref _), (1, .int _)] hC dX9_worthOf_1 (by decide) rfl ?_
  refine V_ic (x := 0) hC dX9_worthOf_2 (by decide) ?_
  refine V_isn [(3, .int _), (2, .int _), (0, .ref _), (1, .int _)] hC dX9_worthOf_3 (by decide) rfl ?_
  refine V_sub [(0, .ref _), (1, .int _), (2, .int _), (3, .int _)] [2, 3, 1, 0] rfl ?_
  refine vX9_worthOf_L4 hC _ _ ?_ _ _ _ _
  intro x2_2 x3_2 z_2
  refine V_ic (x := 0) hC dX9_worthOf_36 (by decide) ?_
  refine V_isn [(3, .int _), (0, .ref _), (1, .int _), (2, .int _)] hC dX9_worthOf_37 (by decide) rfl ?_
  refine V_sub [(0, .ref _), (1, .int _), (2, .int _), (3, .int _)] [1, 2, 3, 0] rfl ?_
  refine vX9_worthOf_L38 hC _ _ ?_ _ _ _ _
  intro x2_3 x3_3 z_3
  refine V_iln hC dX9_worthOf_71 2 rfl ?_
  refine V_ige 79 hC dX9_worthOf_72 (by decide) ?_ ?_
  · refine V_iln hC dX9_worthOf_79 2 rfl ?_
    exact V_ir hC dX9_worthOf_80 rfl
  · refine V_ic (x := 0) hC dX9_worthOf_75 (by decide) ?_
    refine V_goto 80 hC dX9_worthOf_76 (by decide) ?_
    exact V_ir hC dX9_worthOf_80 rfl
def fX9_worth (v1 : Int32) (z : iw_M) : Option (Int32 × iw_M) :=
  ((fX9_isIdea v1 z).bind (fun q1 =>
  (if q1.1 = 0 then
  ((fX9_no (-1 : Int32) q1.2).bind (fun q4 =>
  some (q4.1, q4.2)))
  else
  ((fX9_families (q1.2.1 0 6) q1.2).bind (fun q2 =>
  (if iw_ok v1 40 then
  ((fX9_worthOf (q2.2.1 31 (Int32.toNatClampNeg v1)) q2.2).bind (fun q3 =>
  some (q3.1, q3.2)))
  else none))))))
abbrev bX9_worth : iw_B := (cX9_worth, 2, { frames := 3, cells := 0, slots := 0, locals := 68 }, yX9_worth.cls, (some .int))
set_option maxRecDepth 100000 in
set_option maxHeartbeats 4000000 in
theorem kX9_worth (G : iw_G) (v1 : Int32) (z : iw_M) : iw_K G iw_wM yX9_worth cX9_worth 2 (some .int) 3 68 iw_ei [.ref (iw_ad G 0), .int v1] z (fX9_worth v1 z) := by
  refine iw_of [(0, .ref (iw_ad G 0)), (1, .int v1)] (by decide +kernel) (Nat.le_of_ble_eq_true rfl) rfl ?_
  intro X hC
  unfold fX9_worth
  refine V_aln hC dX9_worth_0 0 rfl ?_
  refine V_iln hC dX9_worth_1 1 rfl ?_
  refine V_cvi [] hC cv_X9_141 (by decide) rfl rfl (kX9_isIdea G _ _) rfl rfl (Nat.le_of_ble_eq_true rfl) ⟨by decide, by decide⟩ dX9_worth_2 ?_
  intro q1
  refine V_ine 14 hC dX9_worth_5 (by decide) ?_ ?_
  · refine V_aln hC dX9_worth_14 0 rfl ?_
    refine V_aln hC dX9_worth_15 0 rfl ?_
    refine V_gi hC fl_X9_7 (by decide) rfl rfl dX9_worth_16 ?_
    refine V_cvv [] hC cv_X9_155 (by decide) rfl rfl (kX9_families G _ _) rfl rfl (Nat.le_of_ble_eq_true rfl) ⟨by decide, by decide⟩ dX9_worth_19 ?_
    intro q2
    refine V_aln hC dX9_worth_22 0 rfl ?_
    refine V_aln hC dX9_worth_23 0 rfl ?_
    refine V_gr hC fl_X9_114 (by decide) rfl rfl dX9_worth_24 ?_
    refine V_iln hC dX9_worth_27 1 rfl ?_
    refine V_ia hC (by decide) rfl dX9_worth_28 ?_
    refine V_cvi [] hC cv_X9_195 (by decide) rfl rfl (kX9_worthOf G _ _) rfl rfl (Nat.le_of_ble_eq_true rfl) ⟨by decide, by decide⟩ dX9_worth_29 ?_
    intro q3
    exact V_ir hC dX9_worth_32 rfl
  · refine V_aln hC dX9_worth_8 0 rfl ?_
    refine V_ic (x := -1) hC dX9_worth_9 (by decide) ?_
    refine V_cvi [] hC cv_X9_128 (by decide) rfl rfl (kX9_no G _ _) rfl rfl (Nat.le_of_ble_eq_true rfl) ⟨by decide, by decide⟩ dX9_worth_10 ?_
    intro q4
    exact V_ir hC dX9_worth_13 rfl
def fX9_rule (v1 : Int32) (v2 : Int32) (v3 : Int32) (v4 : Int32) (z : iw_M) : Option (Int32 × iw_M) :=
  (if v1 < (z.1 0 0) then
  ((fX9_no (-4 : Int32) z).bind (fun q1 =>
  some (q1.1, q1.2)))
  else
  (if v2 < 0 then
  ((fX9_no (-4 : Int32) z).bind (fun q2 =>
  some (q2.1, q2.2)))
  else
  (if v3 < 0 then
  ((fX9_no (-4 : Int32) z).bind (fun q3 =>
  some (q3.1, q3.2)))
  else
  (if (1 : Int32) ≤ v4 then
  (if (3000 : Int32) < v1 then
  ((fX9_no (-6 : Int32) z).bind (fun q4 =>
  some (q4.1, q4.2)))
  else
  (if (100 : Int32) < v2 then
  ((fX9_no (-6 : Int32) z).bind (fun q5 =>
  some (q5.1, q5.2)))
  else
  (if (100000 : Int32) < v3 then
  ((fX9_no (-6 : Int32) z).bind (fun q6 =>
  some (q6.1, q6.2)))
  else
  (if (5 : Int32) < v4 then
  ((fX9_no (-6 : Int32) z).bind (fun q7 =>
  some (q7.1, q7.2)))
  else
  (if (z.1 0 4) = (20 : Int32) then
  ((fX9_no (-6 : Int32) z).bind (fun q8 =>
  some (q8.1, q8.2)))
  else
  (if iw_ok (z.1 0 4) 20 then
  (if iw_ok ((iw_wI z 25 (Int32.toNatClampNeg (z.1 0 4)) v1).1 0 4) 20 then
  (if iw_ok ((iw_wI (iw_wI z 25 (Int32.toNatClampNeg (z.1 0 4)) v1) 26 (Int32.toNatClampNeg ((iw_wI z 25 (Int32.toNatClampNeg (z.1 0 4)) v1).1 0 4)) v2).1 0 4) 20 then
  (if iw_ok ((iw_wI (iw_wI (iw_wI z 25 (Int32.toNatClampNeg (z.1 0 4)) v1) 26 (Int32.toNatClampNeg ((iw_wI z 25 (Int32.toNatClampNeg (z.1 0 4)) v1).1 0 4)) v2) 27 (Int32.toNatClampNeg ((iw_wI (iw_wI z 25 (Int32.toNatClampNeg (z.1 0 4)) v1) 26 (Int32.toNatClampNeg ((iw_wI z 25 (Int32.toNatClampNeg (z.1 0 4)) v1).1 0 4)) v2).1 0 4)) v3).1 0 4) 20 then
  some (((iw_wI (iw_wI (iw_wI (iw_wI z 25 (Int32.toNatClampNeg (z.1 0 4)) v1) 26 (Int32.toNatClampNeg ((iw_wI z 25 (Int32.toNatClampNeg (z.1 0 4)) v1).1 0 4)) v2) 27 (Int32.toNatClampNeg ((iw_wI (iw_wI z 25 (Int32.toNatClampNeg (z.1 0 4)) v1) 26 (Int32.toNatClampNeg ((iw_wI z 25 (Int32.toNatClampNeg (z.1 0 4)) v1).1 0 4)) v2).1 0 4)) v3) 28 (Int32.toNatClampNeg ((iw_wI (iw_wI (iw_wI z 25 (Int32.toNatClampNeg (z.1 0 4)) v1) 26 (Int32.toNatClampNeg ((iw_wI z 25 (Int32.toNatClampNeg (z.1 0 4)) v1).1 0 4)) v2) 27 (Int32.toNatClampNeg ((iw_wI (iw_wI z 25 (Int32.toNatClampNeg (z.1 0 4)) v1) 26 (Int32.toNatClampNeg ((iw_wI z 25 (Int32.toNatClampNeg (z.1 0 4)) v1).1 0 4)) v2).1 0 4)) v3).1 0 4)) v4).1 0 4), (iw_wI (iw_wI (iw_wI (iw_wI (iw_wI z 25 (Int32.toNatClampNeg (z.1 0 4)) v1) 26 (Int32.toNatClampNeg ((iw_wI z 25 (Int32.toNatClampNeg (z.1 0 4)) v1).1 0 4)) v2) 27 (Int32.toNatClampNeg ((iw_wI (iw_wI z 25 (Int32.toNatClampNeg (z.1 0 4)) v1) 26 (Int32.toNatClampNeg ((iw_wI z 25 (Int32.toNatClampNeg (z.1 0 4)) v1).1 0 4)) v2).1 0 4)) v3) 28 (Int32.toNatClampNeg ((iw_wI (iw_wI (iw_wI z 25 (Int32.toNatClampNeg (z.1 0 4)) v1) 26 (Int32.toNatClampNeg ((iw_wI z 25 (Int32.toNatClampNeg (z.1 0 4)) v1).1 0 4)) v2) 27 (Int32.toNatClampNeg ((iw_wI (iw_wI z 25 (Int32.toNatClampNeg (z.1 0 4)) v1) 26 (Int32.toNatClampNeg ((iw_wI z 25 (Int32.toNatClampNeg (z.1 0 4)) v1).1 0 4)) v2).1 0 4)) v3).1 0 4)) v4) 0 4 (((iw_wI (iw_wI (iw_wI (iw_wI z 25 (Int32.toNatClampNeg (z.1 0 4)) v1) 26 (Int32.toNatClampNeg ((iw_wI z 25 (Int32.toNatClampNeg (z.1 0 4)) v1).1 0 4)) v2) 27 (Int32.toNatClampNeg ((iw_wI (iw_wI z 25 (Int32.toNatClampNeg (z.1 0 4)) v1) 26 (Int32.toNatClampNeg ((iw_wI z 25 (Int32.toNatClampNeg (z.1 0 4)) v1).1 0 4)) v2).1 0 4)) v3) 28 (Int32.toNatClampNeg ((iw_wI (iw_wI (iw_wI z 25 (Int32.toNatClampNeg (z.1 0 4)) v1) 26 (Int32.toNatClampNeg ((iw_wI z 25 (Int32.toNatClampNeg (z.1 0 4)) v1).1 0 4)) v2) 27 (Int32.toNatClampNeg ((iw_wI (iw_wI z 25 (Int32.toNatClampNeg (z.1 0 4)) v1) 26 (Int32.toNatClampNeg ((iw_wI z 25 (Int32.toNatClampNeg (z.1 0 4)) v1).1 0 4)) v2).1 0 4)) v3).1 0 4)) v4).1 0 4) + (1 : Int32))))
  else none)
  else none)
  else none)
  else none))))))
  else
  ((fX9_no (-4 : Int32) z).bind (fun q9 =>
  some (q9.1, q9.2)))))))
abbrev bX9_rule : iw_B := (cX9_rule, 5, { frames := 1, cells := 0, slots := 0, locals := 21 }, yX9_rule.cls, (some .int))
set_option maxRecDepth 100000 in
set_option maxHeartbeats 4000000 in
theorem kX9_rule (G : iw_G) (v1 : Int32) (v2 : Int32) (v3 : Int32) (v4 : Int32) (z : iw_M) : iw_K G iw_wM yX9_rule cX9_rule 5 (some .int) 1 21 iw_ei [.ref (iw_ad G 0), .int v1, .int v2, .int v3, .int v4] z (fX9_rule v1 v2 v3 v4 z) := by
  refine iw_of [(0, .ref (iw_ad G 0)), (1, .int v1), (2, .int v2), (3, .int v3), (4, .int v4)] (by decide +kernel) (Nat.le_of_ble_eq_true rfl) rfl ?_
  intro X hC
  unfold fX9_rule
  refine V_iln hC dX9_rule_0 1 rfl ?_
  refine V_aln hC dX9_rule_1 0 rfl ?_
  refine V_gi hC fl_X9_138 (by decide) rfl rfl dX9_rule_2 ?_
  refine V_clt 22 hC dX9_rule_5 (by decide) ?_ ?_
  · refine V_aln hC dX9_rule_22 0 rfl ?_
    refine V_bip (x := -4) hC dX9_rule_23 (by decide) ?_
    refine V_cvi [] hC cv_X9_128 (by decide) rfl rfl (kX9_no G _ _) rfl rfl (Nat.le_of_ble_eq_true rfl) ⟨by decide, by decide⟩ dX9_rule_25 ?_
    intro q1
    exact V_ir hC dX9_rule_28 rfl
  · refine V_iln hC dX9_rule_8 2 rfl ?_
    refine V_ilt 22 hC dX9_rule_9 (by decide) ?_ ?_
    · refine V_aln hC dX9_rule_22 0 rfl ?_
      refine V_bip (x := -4) hC dX9_rule_23 (by decide) ?_
      refine V_cvi [] hC cv_X9_128 (by decide) rfl rfl (kX9_no G _ _) rfl rfl (Nat.le_of_ble_eq_true rfl) ⟨by decide, by decide⟩ dX9_rule_25 ?_
      intro q2
      exact V_ir hC dX9_rule_28 rfl
    · refine V_iln hC dX9_rule_12 3 rfl ?_
      refine V_ilt 22 hC dX9_rule_13 (by decide) ?_ ?_
      · refine V_aln hC dX9_rule_22 0 rfl ?_
        refine V_bip (x := -4) hC dX9_rule_23 (by decide) ?_
        refine V_cvi [] hC cv_X9_128 (by decide) rfl rfl (kX9_no G _ _) rfl rfl (Nat.le_of_ble_eq_true rfl) ⟨by decide, by decide⟩ dX9_rule_25 ?_
        intro q3
        exact V_ir hC dX9_rule_28 rfl
      · refine V_il hC dX9_rule_16 4 rfl ?_
        refine V_ic (x := 1) hC dX9_rule_18 (by decide) ?_
        refine V_cge 29 hC dX9_rule_19 (by decide) ?_ ?_
        · refine V_iln hC dX9_rule_29 1 rfl ?_
          refine V_sip (x := 3000) hC dX9_rule_30 (by decide) ?_
          refine V_cgt 63 hC dX9_rule_33 (by decide) ?_ ?_
          · refine V_aln hC dX9_rule_63 0 rfl ?_
            refine V_bip (x := -6) hC dX9_rule_64 (by decide) ?_
            refine V_cvi [] hC cv_X9_128 (by decide) rfl rfl (kX9_no G _ _) rfl rfl (Nat.le_of_ble_eq_true rfl) ⟨by decide, by decide⟩ dX9_rule_66 ?_
            intro q4
            exact V_ir hC dX9_rule_69 rfl
          · refine V_iln hC dX9_rule_36 2 rfl ?_
            refine V_bip (x := 100) hC dX9_rule_37 (by decide) ?_
            refine V_cgt 63 hC dX9_rule_39 (by decide) ?_ ?_
            · refine V_aln hC dX9_rule_63 0 rfl ?_
              refine V_bip (x := -6) hC dX9_rule_64 (by decide) ?_
              refine V_cvi [] hC cv_X9_128 (by decide) rfl rfl (kX9_no G _ _) rfl rfl (Nat.le_of_ble_eq_true rfl) ⟨by decide, by decide⟩ dX9_rule_66 ?_
              intro q5
              exact V_ir hC dX9_rule_69 rfl
            · refine V_iln hC dX9_rule_42 3 rfl ?_
              refine V_ldc hC dX9_rule_43 kc_X9_194 ?_
              refine V_cgt 63 hC dX9_rule_45 (by decide) ?_ ?_
              · refine V_aln hC dX9_rule_63 0 rfl ?_
                refine V_bip (x := -6) hC dX9_rule_64 (by decide) ?_
                refine V_cvi [] hC cv_X9_128 (by decide) rfl rfl (kX9_no G _ _) rfl rfl (Nat.le_of_ble_eq_true rfl) ⟨by decide, by decide⟩ dX9_rule_66 ?_
                intro q6
                exact V_ir hC dX9_rule_69 rfl
              · refine V_il hC dX9_rule_48 4 rfl ?_
                refine V_ic (x := 5) hC dX9_rule_50 (by decide) ?_
                refine V_cgt 63 hC dX9_rule_51 (by decide) ?_ ?_
                · refine V_aln hC dX9_rule_63 0 rfl ?_
                  refine V_bip (x := -6) hC dX9_rule_64 (by decide) ?_
                  refine V_cvi [] hC cv_X9_128 (by decide) rfl rfl (kX9_no G _ _) rfl rfl (Nat.le_of_ble_eq_true rfl) ⟨by decide, by decide⟩ dX9_rule_66 ?_
                  intro q7
                  exact V_ir hC dX9_rule_69 rfl
                · refine V_aln hC dX9_rule_54 0 rfl ?_
                  refine V_gi hC fl_X9_198 (by decide) rfl rfl dX9_rule_55 ?_
                  refine V_bip (x := 20) hC dX9_rule_58 (by decide) ?_
                  refine V_cne 70 hC dX9_rule_60 (by decide) ?_ ?_
                  · refine V_aln hC dX9_rule_70 0 rfl ?_
                    refine V_gr hC fl_X9_96 (by decide) rfl rfl dX9_rule_71 ?_
                    refine V_aln hC dX9_rule_74 0 rfl ?_
                    refine V_gi hC fl_X9_198 (by decide) rfl rfl dX9_rule_75 ?_
                    refine V_iln hC dX9_rule_78 1 rfl ?_
                    refine V_is_ hC (by decide) rfl dX9_rule_79 ?_
                    refine V_aln hC dX9_rule_80 0 rfl ?_
                    refine V_gr hC fl_X9_99 (by decide) rfl rfl dX9_rule_81 ?_
                    refine V_aln hC dX9_rule_84 0 rfl ?_
                    refine V_gi hC fl_X9_198 (by decide) rfl rfl dX9_rule_85 ?_
                    refine V_iln hC dX9_rule_88 2 rfl ?_
                    refine V_is_ hC (by decide) rfl dX9_rule_89 ?_
                    refine V_aln hC dX9_rule_90 0 rfl ?_
                    refine V_gr hC fl_X9_102 (by decide) rfl rfl dX9_rule_91 ?_
                    refine V_aln hC dX9_rule_94 0 rfl ?_
                    refine V_gi hC fl_X9_198 (by decide) rfl rfl dX9_rule_95 ?_
                    refine V_iln hC dX9_rule_98 3 rfl ?_
                    refine V_is_ hC (by decide) rfl dX9_rule_99 ?_
                    refine V_aln hC dX9_rule_100 0 rfl ?_
                    refine V_gr hC fl_X9_105 (by decide) rfl rfl dX9_rule_101 ?_
                    refine V_aln hC dX9_rule_104 0 rfl ?_
                    refine V_gi hC fl_X9_198 (by decide) rfl rfl dX9_rule_105 ?_
                    refine V_il hC dX9_rule_108 4 rfl ?_
                    refine V_is_ hC (by decide) rfl dX9_rule_110 ?_
                    refine V_aln hC dX9_rule_111 0 rfl ?_
                    refine V_dup hC dX9_rule_112 rfl ?_
                    refine V_gi hC fl_X9_198 (by decide) rfl rfl dX9_rule_113 ?_
                    refine V_dupx1 hC dX9_rule_116 rfl rfl ?_
                    refine V_ic (x := 1) hC dX9_rule_117 (by decide) ?_
                    refine V_iadd hC dX9_rule_118 ?_
                    refine V_pi hC fp_X9_198 (by decide) rfl rfl dX9_rule_119 ?_
                    exact V_ir hC dX9_rule_122 rfl
                  · refine V_aln hC dX9_rule_63 0 rfl ?_
                    refine V_bip (x := -6) hC dX9_rule_64 (by decide) ?_
                    refine V_cvi [] hC cv_X9_128 (by decide) rfl rfl (kX9_no G _ _) rfl rfl (Nat.le_of_ble_eq_true rfl) ⟨by decide, by decide⟩ dX9_rule_66 ?_
                    intro q8
                    exact V_ir hC dX9_rule_69 rfl
        · refine V_aln hC dX9_rule_22 0 rfl ?_
          refine V_bip (x := -4) hC dX9_rule_23 (by decide) ?_
          refine V_cvi [] hC cv_X9_128 (by decide) rfl rfl (kX9_no G _ _) rfl rfl (Nat.le_of_ble_eq_true rfl) ⟨by decide, by decide⟩ dX9_rule_25 ?_
          intro q9
          exact V_ir hC dX9_rule_28 rfl
def fX9_ruleFor_L17 (v2 : Int32) (K : Int32 → Int32 → iw_M → Option (Int32 × iw_M)) : Nat → Int32 → Int32 → iw_M → Option (Int32 × iw_M)
  | 0, _, _, _ => none
  | n + 1, v3, v4, z => (if (z.1 0 4) ≤ v4 then
  K v3 v4 z
  else
  (if iw_ok v4 20 then
  (if v2 < (z.1 25 (Int32.toNatClampNeg v4)) then
  fX9_ruleFor_L17 v2 K n v3 (v4 + (1 : Int32)) z
  else
  (if v3 = (-9 : Int32) then
  fX9_ruleFor_L17 v2 K n v4 (v4 + (1 : Int32)) z
  else
  (if iw_ok v4 20 then
  (if iw_ok v3 20 then
  (if (z.1 25 (Int32.toNatClampNeg v4)) < (z.1 25 (Int32.toNatClampNeg v3)) then
  fX9_ruleFor_L17 v2 K n v3 (v4 + (1 : Int32)) z
  else
  fX9_ruleFor_L17 v2 K n v4 (v4 + (1 : Int32)) z)
  else none)
  else none)))
  else none))
def fX9_ruleFor (v1 : Int32) (z : iw_M) : Option (Int32 × iw_M) :=
  ((fX9_headOf v1 z).bind (fun q1 =>
  (if iw_ok q1.1 40 then
  fX9_ruleFor_L17 (q1.2.1 11 (Int32.toNatClampNeg q1.1)) (fun x3_2 x4_2 z_2 => some (x3_2, z_2)) iw_fu (-9 : Int32) (0 : Int32) q1.2
  else none)))
abbrev bX9_ruleFor : iw_B := (cX9_ruleFor, 5, { frames := 2, cells := 0, slots := 0, locals := 45 }, yX9_ruleFor.cls, (some .int))
set_option maxRecDepth 100000 in
set_option maxHeartbeats 4000000 in
theorem vX9_ruleFor_L17 {G : iw_G} {X : iw_X} (hC : iw_C G iw_wM X bX9_ruleFor) (v2 : Int32) (K : Int32 → Int32 → iw_M → Option (Int32 × iw_M)) (hK : ∀ (v3 : Int32) (v4 : Int32) (z : iw_M), iw_V G iw_wM X bX9_ruleFor iw_ei 68 [(0, .ref (iw_ad G 0)), (2, .int v2), (3, .int v3), (4, .int v4)] [] z (K v3 v4 z)) : ∀ (n : Nat) (v3 : Int32) (v4 : Int32) (z : iw_M), iw_V G iw_wM X bX9_ruleFor iw_ei 17 [(0, .ref (iw_ad G 0)), (2, .int v2), (3, .int v3), (4, .int v4)] [] z (fX9_ruleFor_L17 v2 K n v3 v4 z) := by
  intro n
  induction n with
  | zero =>
    intro v3 v4 z
    exact V_none
  | succ n ih =>
    intro v3 v4 z
    simp only [fX9_ruleFor_L17]
    refine V_il hC dX9_ruleFor_17 3 rfl ?_
    refine V_aln hC dX9_ruleFor_19 0 rfl ?_
    refine V_gi hC fl_X9_198 (by decide) rfl rfl dX9_ruleFor_20 ?_
    refine V_cge 68 hC dX9_ruleFor_23 (by decide) ?_ ?_
    · exact hK _ _ _
    · refine V_aln hC dX9_ruleFor_26 0 rfl ?_
      refine V_gr hC fl_X9_96 (by decide) rfl rfl dX9_ruleFor_27 ?_
      refine V_il hC dX9_ruleFor_30 3 rfl ?_
      refine V_ia hC (by decide) rfl dX9_ruleFor_32 ?_
      refine V_iln hC dX9_ruleFor_33 1 rfl ?_
      refine V_cgt 62 hC dX9_ruleFor_34 (by decide) ?_ ?_
      · refine V_inc (k := 3) (y := 1) [(4, .int _), (0, .ref _), (2, .int _), (3, .int _)] hC dX9_ruleFor_62 rfl (by decide) (by decide) rfl ?_
        refine V_goto 17 hC dX9_ruleFor_65 (by decide) ?_
        refine V_sub [(0, .ref _), (2, .int _), (3, .int _), (4, .int _)] [1, 2, 3, 0] rfl ?_
        exact ih _ _ _
      · refine V_iln hC dX9_ruleFor_37 2 rfl ?_
        refine V_bip (x := -9) hC dX9_ruleFor_38 (by decide) ?_
        refine V_ceq 59 hC dX9_ruleFor_40 (by decide) ?_ ?_
        · refine V_il hC dX9_ruleFor_59 3 rfl ?_
          refine V_isn [(3, .int _), (0, .ref _), (2, .int _), (4, .int _)] hC dX9_ruleFor_61 (by decide) rfl ?_
          refine V_inc (k := 3) (y := 1) [(4, .int _), (3, .int _), (0, .ref _), (2, .int _)] hC dX9_ruleFor_62 rfl (by decide) (by decide) rfl ?_
          refine V_goto 17 hC dX9_ruleFor_65 (by decide) ?_
          refine V_sub [(0, .ref _), (2, .int _), (3, .int _), (4, .int _)] [2, 3, 1, 0] rfl ?_
          exact ih _ _ _
        · refine V_aln hC dX9_ruleFor_43 0 rfl ?_
          refine V_gr hC fl_X9_96 (by decide) rfl rfl dX9_ruleFor_44 ?_
          refine V_il hC dX9_ruleFor_47 3 rfl ?_
          refine V_ia hC (by decide) rfl dX9_ruleFor_49 ?_
          refine V_aln hC dX9_ruleFor_50 0 rfl ?_
          refine V_gr hC fl_X9_96 (by decide) rfl rfl dX9_ruleFor_51 ?_
          refine V_iln hC dX9_ruleFor_54 2 rfl ?_
          refine V_ia hC (by decide) rfl dX9_ruleFor_55 ?_
          refine V_clt 62 hC dX9_ruleFor_56 (by decide) ?_ ?_
          · refine V_inc (k := 3) (y := 1) [(4, .int _), (0, .ref _), (2, .int _), (3, .int _)] hC dX9_ruleFor_62 rfl (by decide) (by decide) rfl ?_
            refine V_goto 17 hC dX9_ruleFor_65 (by decide) ?_
            refine V_sub [(0, .ref _), (2, .int _), (3, .int _), (4, .int _)] [1, 2, 3, 0] rfl ?_
            exact ih _ _ _
          · refine V_il hC dX9_ruleFor_59 3 rfl ?_
            refine V_isn [(3, .int _), (0, .ref _), (2, .int _), (4, .int _)] hC dX9_ruleFor_61 (by decide) rfl ?_
            refine V_inc (k := 3) (y := 1) [(4, .int _), (3, .int _), (0, .ref _), (2, .int _)] hC dX9_ruleFor_62 rfl (by decide) (by decide) rfl ?_
            refine V_goto 17 hC dX9_ruleFor_65 (by decide) ?_
            refine V_sub [(0, .ref _), (2, .int _), (3, .int _), (4, .int _)] [2, 3, 1, 0] rfl ?_
            exact ih _ _ _
set_option maxRecDepth 100000 in
set_option maxHeartbeats 4000000 in
theorem kX9_ruleFor (G : iw_G) (v1 : Int32) (z : iw_M) : iw_K G iw_wM yX9_ruleFor cX9_ruleFor 5 (some .int) 2 45 iw_ei [.ref (iw_ad G 0), .int v1] z (fX9_ruleFor v1 z) := by
  refine iw_of [(0, .ref (iw_ad G 0)), (1, .int v1)] (by decide +kernel) (Nat.le_of_ble_eq_true rfl) rfl ?_
  intro X hC
  unfold fX9_ruleFor
  refine V_aln hC dX9_ruleFor_0 0 rfl ?_
  refine V_gr hC fl_X9_54 (by decide) rfl rfl dX9_ruleFor_1 ?_
  refine V_aln hC dX9_ruleFor_4 0 rfl ?_
  refine V_iln hC dX9_ruleFor_5 1 rfl ?_
  refine V_cvi [.ref _] hC cv_X9_162 (by decide) rfl rfl (kX9_headOf G _ _) rfl rfl (Nat.le_of_ble_eq_true rfl) ⟨by decide, by decide⟩ dX9_ruleFor_6 ?_
  intro q1
  refine V_ia hC (by decide) rfl dX9_ruleFor_9 ?_
  refine V_isn [(2, .int _), (0, .ref _), (1, .int _)] hC dX9_ruleFor_10 (by decide) rfl ?_
  refine V_bip (x := -9) hC dX9_ruleFor_11 (by decide) ?_
  refine V_isn [(3, .int _), (2, .int _), (0, .ref _), (1, .int _)] hC dX9_ruleFor_13 (by decide) rfl ?_
  refine V_ic (x := 0) hC dX9_ruleFor_14 (by decide) ?_
  refine V_is [(4, .int _), (3, .int _), (2, .int _), (0, .ref _), (1, .int _)] hC dX9_ruleFor_15 (by decide) rfl ?_
  refine V_sub [(0, .ref _), (2, .int _), (3, .int _), (4, .int _)] [3, 2, 1, 0] rfl ?_
  refine vX9_ruleFor_L17 hC _ _ ?_ _ _ _ _
  intro x3_2 x4_2 z_2
  refine V_iln hC dX9_ruleFor_68 2 rfl ?_
  exact V_ir hC dX9_ruleFor_69 rfl
def fX9_ruleOf (v1 : Int32) (z : iw_M) : Option (Int32 × iw_M) :=
  ((fX9_isIdea v1 z).bind (fun q1 =>
  (if q1.1 = 0 then
  ((fX9_no (-1 : Int32) q1.2).bind (fun q4 =>
  some (q4.1, q4.2)))
  else
  ((fX9_families (q1.2.1 0 6) q1.2).bind (fun q2 =>
  (if iw_ok v1 40 then
  ((fX9_ruleFor (q2.2.1 31 (Int32.toNatClampNeg v1)) q2.2).bind (fun q3 =>
  some (q3.1, q3.2)))
  else none))))))
abbrev bX9_ruleOf : iw_B := (cX9_ruleOf, 2, { frames := 3, cells := 0, slots := 0, locals := 69 }, yX9_ruleOf.cls, (some .int))
set_option maxRecDepth 100000 in
set_option maxHeartbeats 4000000 in
theorem kX9_ruleOf (G : iw_G) (v1 : Int32) (z : iw_M) : iw_K G iw_wM yX9_ruleOf cX9_ruleOf 2 (some .int) 3 69 iw_ei [.ref (iw_ad G 0), .int v1] z (fX9_ruleOf v1 z) := by
  refine iw_of [(0, .ref (iw_ad G 0)), (1, .int v1)] (by decide +kernel) (Nat.le_of_ble_eq_true rfl) rfl ?_
  intro X hC
  unfold fX9_ruleOf
  refine V_aln hC dX9_ruleOf_0 0 rfl ?_
  refine V_iln hC dX9_ruleOf_1 1 rfl ?_
  refine V_cvi [] hC cv_X9_141 (by decide) rfl rfl (kX9_isIdea G _ _) rfl rfl (Nat.le_of_ble_eq_true rfl) ⟨by decide, by decide⟩ dX9_ruleOf_2 ?_
  intro q1
  refine V_ine 14 hC dX9_ruleOf_5 (by decide) ?_ ?_
  · refine V_aln hC dX9_ruleOf_14 0 rfl ?_
    refine V_aln hC dX9_ruleOf_15 0 rfl ?_
    refine V_gi hC fl_X9_7 (by decide) rfl rfl dX9_ruleOf_16 ?_
    refine V_cvv [] hC cv_X9_155 (by decide) rfl rfl (kX9_families G _ _) rfl rfl (Nat.le_of_ble_eq_true rfl) ⟨by decide, by decide⟩ dX9_ruleOf_19 ?_
    intro q2
    refine V_aln hC dX9_ruleOf_22 0 rfl ?_
    refine V_aln hC dX9_ruleOf_23 0 rfl ?_
    refine V_gr hC fl_X9_114 (by decide) rfl rfl dX9_ruleOf_24 ?_
    refine V_iln hC dX9_ruleOf_27 1 rfl ?_
    refine V_ia hC (by decide) rfl dX9_ruleOf_28 ?_
    refine V_cvi [] hC cv_X9_201 (by decide) rfl rfl (kX9_ruleFor G _ _) rfl rfl (Nat.le_of_ble_eq_true rfl) ⟨by decide, by decide⟩ dX9_ruleOf_29 ?_
    intro q3
    exact V_ir hC dX9_ruleOf_32 rfl
  · refine V_aln hC dX9_ruleOf_8 0 rfl ?_
    refine V_ic (x := -1) hC dX9_ruleOf_9 (by decide) ?_
    refine V_cvi [] hC cv_X9_128 (by decide) rfl rfl (kX9_no G _ _) rfl rfl (Nat.le_of_ble_eq_true rfl) ⟨by decide, by decide⟩ dX9_ruleOf_10 ?_
    intro q4
    exact V_ir hC dX9_ruleOf_13 rfl
def fX9_pay (v1 : Int32) (v2 : Int32) (v3 : Int32) (z : iw_M) : Option (Int32 × iw_M) :=
  ((fX9_worthOf v1 z).bind (fun q1 =>
  (if (100 : Int32) = 0 then none else
  (if ((q1.1 * v2) / (100 : Int32)) ≤ v3 then
  some (((q1.1 * v2) / (100 : Int32)), q1.2)
  else
  some (v3, q1.2)))))
abbrev bX9_pay : iw_B := (cX9_pay, 5, { frames := 2, cells := 0, slots := 0, locals := 54 }, yX9_pay.cls, (some .int))
set_option maxRecDepth 100000 in
set_option maxHeartbeats 4000000 in
theorem kX9_pay (G : iw_G) (v1 : Int32) (v2 : Int32) (v3 : Int32) (z : iw_M) : iw_K G iw_wM yX9_pay cX9_pay 5 (some .int) 2 54 iw_ei [.ref (iw_ad G 0), .int v1, .int v2, .int v3] z (fX9_pay v1 v2 v3 z) := by
  refine iw_of [(0, .ref (iw_ad G 0)), (1, .int v1), (2, .int v2), (3, .int v3)] (by decide +kernel) (Nat.le_of_ble_eq_true rfl) rfl ?_
  intro X hC
  unfold fX9_pay
  refine V_aln hC dX9_pay_0 0 rfl ?_
  refine V_iln hC dX9_pay_1 1 rfl ?_
  refine V_cvi [] hC cv_X9_195 (by decide) rfl rfl (kX9_worthOf G _ _) rfl rfl (Nat.le_of_ble_eq_true rfl) ⟨by decide, by decide⟩ dX9_pay_2 ?_
  intro q1
  refine V_iln hC dX9_pay_5 2 rfl ?_
  refine V_imul hC dX9_pay_6 ?_
  refine V_bip (x := 100) hC dX9_pay_7 (by decide) ?_
  refine V_idiv hC dX9_pay_9 ?_
  refine V_is [(4, .int _), (0, .ref _), (1, .int _), (2, .int _), (3, .int _)] hC dX9_pay_10 (by decide) rfl ?_
  refine V_il hC dX9_pay_12 0 rfl ?_
  refine V_iln hC dX9_pay_14 4 rfl ?_
  refine V_cle 22 hC dX9_pay_15 (by decide) ?_ ?_
  · refine V_il hC dX9_pay_22 0 rfl ?_
    exact V_ir hC dX9_pay_24 rfl
  · refine V_iln hC dX9_pay_18 4 rfl ?_
    refine V_goto 24 hC dX9_pay_19 (by decide) ?_
    exact V_ir hC dX9_pay_24 rfl
