theorem cl_L_7 : Cond.classLink RL 7 RX8 ∈ iw_tbl := iw_mm 47 (by decide +kernel) rfl
theorem in_X8 : Cond.instantiable RX8 12 ∈ iw_tbl := iw_mm 48 (by decide +kernel) rfl
theorem ii_X8 : Cond.initialized RX8 ∈ iw_tbl := iw_mm 34 (by decide +kernel) rfl
theorem df_X8 : ∀ j, j < 12 → defaultValue (tyX8 j) = vp_V [.null, .null, .null, .null, .null, .null, .null, .null, .null, .null, .null, .int 0] j := by decide +kernel
theorem iw_wi_X8 : iw_WI yX8_init cX8_init 2 0 := ⟨⟨iw_mm 50 (by decide +kernel) rfl, iw_mm 34 (by decide +kernel) rfl, iw_mm 51 (by decide +kernel) rfl⟩, rfl, by decide +kernel⟩
theorem ml_L_9 : Cond.methodLink RL 9 yX8_init ∈ iw_tbl := iw_mm 49 (by decide +kernel) rfl
theorem cl_L_10 : Cond.classLink RL 10 RX9 ∈ iw_tbl := iw_mm 655 (by decide +kernel) rfl
theorem in_X9 : Cond.instantiable RX9 43 ∈ iw_tbl := iw_mm 656 (by decide +kernel) rfl
theorem ii_X9 : Cond.initialized RX9 ∈ iw_tbl := iw_mm 43 (by decide +kernel) rfl
theorem df_X9 : ∀ j, j < 43 → defaultValue (tyX9 j) = vp_V [.int 0, .int 0, .int 0, .int 0, .int 0, .int 0, .int 0, .int 0, .int 0, .int 0, .int 0, .int 0, .null, .null, .null, .null, .null, .null, .null, .null, .null, .null, .null, .null, .null, .null, .null, .null, .null, .null, .null, .null, .null, .null, .null, .null, .null, .null, .null, .null, .null, .null, .null] j := by decide +kernel
theorem iw_wi_X9 : iw_WI yX9_init cX9_init 2 0 := ⟨⟨iw_mm 658 (by decide +kernel) rfl, iw_mm 43 (by decide +kernel) rfl, iw_mm 659 (by decide +kernel) rfl⟩, rfl, by decide +kernel⟩
theorem ml_L_12 : Cond.methodLink RL 12 yX9_init ∈ iw_tbl := iw_mm 657 (by decide +kernel) rfl
theorem nn_1 : Cond.methodLinkNest RX2 36 yX8_has "IdeaWorks" ∈ lw_tbl := List.mem_of_getElem? (i := 334) (by decide +kernel)
theorem nn_2 : Cond.methodLinkNest RX3 53 yX8_likeness "IdeaWorks" ∈ lw_tbl := List.mem_of_getElem? (i := 357) (by decide +kernel)
theorem ni_1 : Cond.methodLinkNest RX8 9 yX2_init "IdeaWorks" ∈ lw_tbl := List.mem_of_getElem? (i := 57) (by decide +kernel)
theorem ni_2 : Cond.methodLinkNest RX8 18 yX0_init "IdeaWorks" ∈ lw_tbl := List.mem_of_getElem? (i := 93) (by decide +kernel)
theorem ni_3 : Cond.methodLinkNest RX8 25 yX4_init "IdeaWorks" ∈ lw_tbl := List.mem_of_getElem? (i := 108) (by decide +kernel)
theorem ni_4 : Cond.methodLinkNest RX8 32 yX6_init "IdeaWorks" ∈ lw_tbl := List.mem_of_getElem? (i := 136) (by decide +kernel)
theorem ni_5 : Cond.methodLinkNest RX8 39 yX5_init "IdeaWorks" ∈ lw_tbl := List.mem_of_getElem? (i := 161) (by decide +kernel)
theorem ni_6 : Cond.methodLinkNest RX8 46 yX7_init "IdeaWorks" ∈ lw_tbl := List.mem_of_getElem? (i := 187) (by decide +kernel)
theorem ni_7 : Cond.methodLinkNest RX8 64 yX3_init "IdeaWorks" ∈ lw_tbl := List.mem_of_getElem? (i := 202) (by decide +kernel)
theorem ls_L : Cond.laysStatic "IdeaWorks" "LEAST_SETTING" "[I" ∈ lw_tbl := List.mem_of_getElem? (i := 404) (by decide +kernel)
theorem ls_G : Cond.laysStatic "IdeaWorks" "GREATEST_SETTING" "[I" ∈ lw_tbl := List.mem_of_getElem? (i := 406) (by decide +kernel)
set_option maxRecDepth 100000 in
set_option maxHeartbeats 8000000 in
/-- the static rows as the Statement gives them -/
theorem lw_Z0 {s : State} {b : Nat} {A : Nat → Prop} (hts : ∀ w ∈ lw_tbl, w.before #[Value.ref b] s = true) (hgv : (Jvm.Cond.and given_1 narrow_1).before #[Value.ref b] s = true) (hA : ∀ a : Nat, a < s.heap.size → ¬ A a) : iw_Z A s s.heap := by
  have hs := flat_of_before _ hgv
  have hini : (Cond.initialized "IdeaWorks").before #[Value.ref b] s = true := hts _ (List.mem_filter.mp ii_X8).1
  obtain ⟨t1, e1, h1⟩ := va_Tof (args := #[Value.ref b]) (s := s) (tm := .static "IdeaWorks" "LEAST_SETTING" "[I") (ty := .int) (N := 4) (f := fun j => .int (iw_lo j)) (A := A) (by decide) (hs (.arrayOf (.static "IdeaWorks" "LEAST_SETTING" "[I") .int) (by decide +kernel)) (va_eqt (hs (.eq (.length (.static "IdeaWorks" "LEAST_SETTING" "[I")) (.int 4)) (by decide +kernel))) (fun j hj => by
    match j, hj with
    | 0, _ => exact va_eqt (hs (.eq (.elem (.static "IdeaWorks" "LEAST_SETTING" "[I") (.int 0)) (.int 1)) (by decide +kernel))
    | 1, _ => exact va_eqt (hs (.eq (.elem (.static "IdeaWorks" "LEAST_SETTING" "[I") (.int 1)) (.int 0)) (by decide +kernel))
    | 2, _ => exact va_eqt (hs (.eq (.elem (.static "IdeaWorks" "LEAST_SETTING" "[I") (.int 2)) (.int 0)) (by decide +kernel))
    | 3, _ => exact va_eqt (hs (.eq (.elem (.static "IdeaWorks" "LEAST_SETTING" "[I") (.int 3)) (.int 0)) (by decide +kernel))) hA
  obtain ⟨t2, e2, h2⟩ := va_Tof (args := #[Value.ref b]) (s := s) (tm := .static "IdeaWorks" "GREATEST_SETTING" "[I") (ty := .int) (N := 4) (f := fun j => .int (iw_hi j)) (A := A) (by decide) (hs (.arrayOf (.static "IdeaWorks" "GREATEST_SETTING" "[I") .int) (by decide +kernel)) (va_eqt (hs (.eq (.length (.static "IdeaWorks" "GREATEST_SETTING" "[I")) (.int 4)) (by decide +kernel))) (fun j hj => by
    match j, hj with
    | 0, _ => exact va_eqt (hs (.eq (.elem (.static "IdeaWorks" "GREATEST_SETTING" "[I") (.int 0)) (.int 40)) (by decide +kernel))
    | 1, _ => exact va_eqt (hs (.eq (.elem (.static "IdeaWorks" "GREATEST_SETTING" "[I") (.int 1)) (.int 1000)) (by decide +kernel))
    | 2, _ => exact va_eqt (hs (.eq (.elem (.static "IdeaWorks" "GREATEST_SETTING" "[I") (.int 2)) (.int 100)) (by decide +kernel))
    | 3, _ => exact va_eqt (hs (.eq (.elem (.static "IdeaWorks" "GREATEST_SETTING" "[I") (.int 3)) (.int 99)) (by decide +kernel))) hA
  exact ⟨t1, t2, ⟨va_Zref (hts _ ls_L) hini e1 hA, h1⟩, va_Zref (hts _ ls_G) hini e2 hA, h2⟩
theorem iw_ar {s : State} {args : Array Value} {ty : FieldType} (h : (Cond.arrayClass ty).before args s = true) (hq : ∀ c, s.vm.findClass ("[" ++ ty.toString) = some c → va_RA s c ty) : ∃ c : ClassId, ArrOfT s c ty ∧ va_RA s c ty := by
  obtain ⟨c, k, comp, h1, h2, h3⟩ := Cond.arrayClass_spec h
  exact ⟨c, fun n z => ⟨fun k h => (by cases h), k, h2, comp, h3⟩, hq c h1⟩
set_option maxRecDepth 100000 in
set_option maxHeartbeats 8000000 in
theorem whole_start {p : Program} {e : Env} {s : State} {m : MethodId} {below : List Frame} {meth : Method} {c : Code} (l : Launch) {b L : Nat} {xs : Nat → Int32} (hL : L ≤ 2560) (C0 : lw_At p s m meth c b L xs) : W p l e room_1 s m #[Value.ref b] below meth c s.heap [] 0 0 (lw_Z below #[Value.ref b] s) (entryFrame m ([Value.ref b] : List Value).toArray 4) := by
  obtain ⟨hx, hb, hr, hml, hown, hts, hX, hbl, hlocks, hgv⟩ := C0
  have hti : ∀ w ∈ iw_tbl, w.before #[Value.ref b] s = true := fun w hw => hts w (List.mem_filter.mp hw).1
  obtain ⟨c0, iS0, hKn0⟩ := u_known (C := RX0) (T := TX0) (N := 2) (n := 2) hti iw_u0 (hti _ in_X0)
  obtain ⟨c1, iS1, hKn1⟩ := u_known (C := RX1) (T := TX1) (N := 2) (n := 2) hti iw_u1 (hti _ in_X1)
  obtain ⟨c2, iS2, hKn2⟩ := u_known (C := RX2) (T := TX2) (N := 7) (n := 7) hti iw_u2 (hti _ in_X2)
  obtain ⟨c3, iS3, hKn3⟩ := u_known (C := RX3) (T := TX3) (N := 11) (n := 11) hti iw_u3 (hti _ in_X3)
  obtain ⟨c4, iS4, hKn4⟩ := u_known (C := RX4) (T := TX4) (N := 5) (n := 5) hti iw_u4 (hti _ in_X4)
  obtain ⟨c5, iS5, hKn5⟩ := u_known (C := RX5) (T := TX5) (N := 5) (n := 5) hti iw_u5 (hti _ in_X5)
  obtain ⟨c6, iS6, hKn6⟩ := u_known (C := RX6) (T := TX6) (N := 6) (n := 6) hti iw_u6 (hti _ in_X6)
  obtain ⟨c7, iS7, hKn7⟩ := u_known (C := RX7) (T := TX7) (N := 2) (n := 2) hti iw_u7 (hti _ in_X7)
  obtain ⟨c8, iS8, hKn8⟩ := u_known (C := RX8) (T := TX8) (N := 12) (n := 12) hti iw_u8 (hti _ in_X8)
  obtain ⟨c9, iS9, hKn9⟩ := u_known (C := RX9) (T := TX9) (N := 43) (n := 43) hti iw_u9 (hti _ in_X9)
  obtain ⟨dC, dI, hKc⟩ : ∃ (dC : Nat → ClassId) (dI : Nat → Nat → Nat), ∀ (k : Nat) (q : vw_C), vwCl[k]? = some q → u_Kn s q.1 q.2.1 q.2.2 (dC k) (dI k) := by
    refine ⟨fun k => if k = 0 then c0 else (if k = 1 then c1 else (if k = 2 then c2 else (if k = 3 then c3 else (if k = 4 then c4 else (if k = 5 then c5 else (if k = 6 then c6 else (if k = 7 then c7 else (if k = 8 then c8 else (c9))))))))), fun k => if k = 0 then iS0 else (if k = 1 then iS1 else (if k = 2 then iS2 else (if k = 3 then iS3 else (if k = 4 then iS4 else (if k = 5 then iS5 else (if k = 6 then iS6 else (if k = 7 then iS7 else (if k = 8 then iS8 else (iS9))))))))), ?_⟩
    intro k q hq
    match k, hq with
    | 0, hq => cases hq; exact hKn0
    | 1, hq => cases hq; exact hKn1
    | 2, hq => cases hq; exact hKn2
    | 3, hq => cases hq; exact hKn3
    | 4, hq => cases hq; exact hKn4
    | 5, hq => cases hq; exact hKn5
    | 6, hq => cases hq; exact hKn6
    | 7, hq => cases hq; exact hKn7
    | 8, hq => cases hq; exact hKn8
    | 9, hq => cases hq; exact hKn9
    | k + 10, hq => simp [vwCl] at hq
  obtain ⟨aI, hI⟩ := iw_ar (hti _ ac_int) (fun c h => h)
  obtain ⟨aZ, hZ⟩ := iw_ar (hti _ ac_boolean) (fun c h => h)
  obtain ⟨aJ, hJ⟩ := iw_ar (hti _ ac_long) (fun c h => h)
  obtain ⟨cy, hK⟩ : ∃ cy : FieldType → ClassId, va_K (dC, dI) vwCl (iw_tyc cy) s := by
    refine ⟨fun t => if t = .int then aI else if t = .boolean then aZ else aJ, hKc, ?_⟩
    intro k q hq
    match k, hq with
    | 0, hq => cases hq; exact hI
    | 1, hq => cases hq; exact hZ
    | 2, hq => cases hq; exact hJ
    | k + 3, hq => simp [iw_tyc] at hq
  have hNN : iw_N s := ⟨va_Nw.of rfl (hts _ nn_1), va_Nw.of rfl (hts _ nn_2)⟩
  have hNI : iw_NI s := ⟨va_Nw.of rfl (hts _ ni_1), va_Nw.of rfl (hts _ ni_2), va_Nw.of rfl (hts _ ni_3), va_Nw.of rfl (hts _ ni_4), va_Nw.of rfl (hts _ ni_5), va_Nw.of rfl (hts _ ni_6), va_Nw.of rfl (hts _ ni_7)⟩
  have hC : iw_CU l (dC, dI) cy (p, e, s, m, #[Value.ref b], below, meth, c) (code, 4, room_1, RL, ret) (fun q => s.heap.size ≤ q) := ⟨hx, hb, hml, hown, hti, hK, fun q h => h, hlocks, hr⟩
  have hl := lv_entry ([.ref b]) (n := 4) (Nat.le_of_ble_eq_true rfl)
  rw [lg_entry_eq]
  have main : iw_U l (dC, dI) (p, e, s, m, #[Value.ref b], below, meth, c) (code, 4, room_1, RL, ret) (fun q => s.heap.size ≤ q) (lw_Z below #[Value.ref b] s) 0 0 0 [(0, .ref b)] [] [] := by
    refine U_new (ci := 8) (fs := [.null, .null, .null, .null, .null, .null, .null, .null, .null, .null, .null, .int 0]) tyX8 hC iw_u8 tyX8_ok cl_L_7 in_X8 ii_X8 rfl df_X8 (by decide) (by decide) dL_law_0 ?_
    intro hx0
    refine U_nm [_] rfl ?_
    refine U_dup hC dL_law_3 rfl ?_
    refine U_cI (wr := []) [.ref _] [0] [] hC ml_L_9 iw_wi_X8 (kIX8 l (dC, dI) cy _) iw_NI.blind (fun U hW => hNI.warm hW) rfl rfl (Nat.le_of_ble_eq_true rfl) ⟨by decide, by decide⟩ ⟨by decide, by decide⟩ rfl rfl rfl rfl rfl (by decide) dL_law_4 ?_
    intro ux
    refine U_asn [(1, .ref _), (0, .ref _)] hC dL_law_7 (by decide) rfl ?_
    refine U_new (ci := 9) (fs := [.int 0, .int 0, .int 0, .int 0, .int 0, .int 0, .int 0, .int 0, .int 0, .int 0, .int 0, .int 0, .null, .null, .null, .null, .null, .null, .null, .null, .null, .null, .null, .null, .null, .null, .null, .null, .null, .null, .null, .null, .null, .null, .null, .null, .null, .null, .null, .null, .null, .null, .null]) tyX9 hC iw_u9 tyX9_ok cl_L_10 in_X9 ii_X9 rfl df_X9 (by decide) (by decide) dL_law_8 ?_
    intro hm0
    refine U_dup hC dL_law_11 rfl ?_
    refine U_cI (wr := iw_wld (l, (dC, dI), cy, iw_adf hx0 ux) iw_wX iw_zX) [.ref _] [47] (List.range 47) hC ml_L_12 iw_wi_X9 (kIX9 l (dC, dI) cy hm0) iw_TT (fun _ _ => trivial) rfl rfl (Nat.le_of_ble_eq_true rfl) ⟨by decide, by decide⟩ ⟨by decide, by decide⟩ rfl rfl rfl rfl (by decide) (by decide) dL_law_12 ?_
    intro um
    refine U_asn [(2, .ref _), (1, .ref _), (0, .ref _)] hC dL_law_15 (by decide) rfl ?_
    refine U_ic (x := 0) hC dL_law_16 (by decide) ?_
    refine U_isn [(3, .int _), (2, .ref _), (1, .ref _), (0, .ref _)] hC dL_law_17 (by decide) rfl ?_
    intro H locs ls hP hD hS hl
    have hPX : va_P (dC, dI) vwCl (iw_wld (l, (dC, dI), cy, iw_adf hx0 ux) iw_wX iw_zX) H := fun k q hq => hP k q (by
      have hk : k < 47 := by
        by_cases h : k < 47
        · exact h
        · simp [iw_wld, iw_wX, h] at hq
      show (iw_wld (l, (dC, dI), cy, iw_adf hx0 ux) iw_wX iw_zX ++ iw_wld (l, (dC, dI), cy, iw_adf hm0 um) iw_wM iw_zM)[k]? = some q
      rw [List.getElem?_append_left (by simp [iw_wld, iw_wX, hk])]
      exact hq)
    have hPM : va_P (dC, dI) vwCl (iw_wld (l, (dC, dI), cy, iw_adf hm0 um) iw_wM iw_zM) H := fun k q hq => hP (47 + k) q (by
      show (iw_wld (l, (dC, dI), cy, iw_adf hx0 ux) iw_wX iw_zX ++ iw_wld (l, (dC, dI), cy, iw_adf hm0 um) iw_wM iw_zM)[47 + k]? = some q
      rw [List.getElem?_append_right (by simp [iw_wld, iw_wX])]
      simpa [iw_wld, iw_wX] using hq)
    have gx : ∀ i, i < 47 → (iw_wld (l, (dC, dI), cy, iw_adf hx0 ux) iw_wX iw_zX ++ iw_wld (l, (dC, dI), cy, iw_adf hm0 um) iw_wM iw_zM)[i]? = some (iw_adf hx0 ux i, iw_eV (l, (dC, dI), cy, iw_adf hx0 ux) iw_wX iw_zX i) := fun i hi => by
      rw [List.getElem?_append_left (by simp [iw_wld, iw_wX, hi])]
      exact iw_at (w := iw_wX) hi
    have gm : ∀ i, i < 32 → (iw_wld (l, (dC, dI), cy, iw_adf hx0 ux) iw_wX iw_zX ++ iw_wld (l, (dC, dI), cy, iw_adf hm0 um) iw_wM iw_zM)[47 + i]? = some (iw_adf hm0 um i, iw_eV (l, (dC, dI), cy, iw_adf hm0 um) iw_wM iw_zM i) := fun i hi => by
      rw [List.getElem?_append_right (by simp [iw_wld, iw_wX])]
      rw [show 47 + i - (iw_wld (l, (dC, dI), cy, iw_adf hx0 ux) iw_wX iw_zX).length = i by simp [iw_wld, iw_wX]]
      exact iw_at (w := iw_wM) hi
    have aX : ∀ i, i < 47 → s.heap.size ≤ iw_adf hx0 ux i := fun i hi => hD.2 i _ (gx i hi)
    have aM : ∀ i, i < 32 → s.heap.size ≤ iw_adf hm0 um i := fun i hi => hD.2 (47 + i) _ (gm i hi)
    have hLC : iw_LC l (dC, dI) cy (iw_adf hx0 ux) (iw_adf hm0 um) (p, e, s, m, #[Value.ref b], below, meth, c) b L xs := by
      refine ⟨⟨hx, hb, hml, hown, hti, hK⟩, ⟨?_, ?_, ?_, aX, aM⟩, lw_Z0 hts hgv ?_, lw_Z0 hts hgv ?_, hNN, hX, hbl, rfl, hlocks, hr⟩
      · intro i j hi hj he
        exact hD.1 i j _ _ (gx i hi) (gx j hj) he
      · intro i j hi hj he
        have := hD.1 (47 + i) (47 + j) _ _ (gm i hi) (gm j hj) he
        omega
      · intro i j hi hj he
        have := hD.1 i (47 + j) _ _ (gx i hi) (gm j hj) he
        omega
      · intro a ha h
        obtain ⟨k, hk, e⟩ := h
        have : s.heap.size ≤ a := by rw [e]; exact aX k hk
        exact absurd this (Nat.not_le.mpr ha)
      · intro a ha h
        obtain ⟨k, hk, e⟩ := h
        have : s.heap.size ≤ a := by rw [e]; exact aM k hk
        exact absurd this (Nat.not_le.mpr ha)
    exact W.widen (Nat.le_of_ble_eq_true rfl) (Nat.le_of_ble_eq_true rfl) (lw_loop hL hLC L 0 iw_zX iw_zM (by omega) (by omega) iw_rel0 H locs ls hPX hPM hS (lv_sub hl [3, 2, 1, 0] rfl))
  exact main s.heap [] _ (fun k q h => by simp at h) ⟨fun i j p q h => by simp at h, fun k q h => by simp at h⟩ va_S.rf hl
