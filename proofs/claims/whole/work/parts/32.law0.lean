/-! THE LAW'S OWN JUDGEMENT: two worlds side by side, and the script -/
abbrev iw_GG (l : Launch) (D : va_G) (cy : FieldType → ClassId) (ad : Nat → Nat) : iw_G := (l, D, cy, ad)
section IWL
def iw_LC (l : Launch) (D : va_G) (cy : FieldType → ClassId) (ax am : Nat → Nat) (X : iw_X) (b L : Nat) (xs : Nat → Int32) : Prop :=
  (X.1.tables.exec = Jvm.exec ∧ X.2.2.2.2.2.2.2.code = code ∧ X.2.2.2.2.2.2.2.maxLocals = 4 ∧ X.2.2.1.vm.findClass RL = some X.2.2.2.1.cls ∧ (∀ c ∈ iw_tbl, c.before X.2.2.2.2.1 X.2.2.1 = true) ∧ va_K D vwCl (iw_tyc cy) X.2.2.1) ∧
  (iw_inj (iw_GG l D cy ax) iw_wX ∧ iw_inj (iw_GG l D cy am) iw_wM ∧ (∀ i j, i < 47 → j < 32 → ax i ≠ am j) ∧ (∀ i, i < 47 → X.2.2.1.heap.size ≤ ax i) ∧ ∀ j, j < 32 → X.2.2.1.heap.size ≤ am j) ∧
  (iw_Z (iw_A (iw_GG l D cy ax) iw_wX) X.2.2.1 X.2.2.1.heap ∧ iw_Z (iw_A (iw_GG l D cy am) iw_wM) X.2.2.1 X.2.2.1.heap ∧ iw_N X.2.2.1 ∧ va_X b L xs X.2.2.1 X.2.2.1.heap ∧ b < X.2.2.1.heap.size ∧ X.2.2.2.2.1 = #[Value.ref b] ∧ X.2.2.2.2.2.2.1.locks = false ∧ X.2.2.2.2.2.2.1.sig.returnType = ret)
def iw_L (l : Launch) (D : va_G) (cy : FieldType → ClassId) (ax am : Nat → Nat) (X : iw_X) (pc : Nat) (lv : List (Nat × Value)) (st : List Value) (zx zm : iw_M) : Prop :=
  ∀ (H : Heap) (locs : List Loc) (ls : Array Slot), va_P D vwCl (iw_wld (iw_GG l D cy ax) iw_wX zx) H → va_P D vwCl (iw_wld (iw_GG l D cy am) iw_wM zm) H → va_S (fun q => X.2.2.1.heap.size ≤ q) X.2.2.1.heap H locs → lv_has ls 4 lv →
    W X.1 l X.2.1 room_1 X.2.2.1 X.2.2.2.1 X.2.2.2.2.1 X.2.2.2.2.2.1 X.2.2.2.2.2.2.1 X.2.2.2.2.2.2.2 H locs 79 5255 (lw_Z X.2.2.2.2.2.1 X.2.2.2.2.1 X.2.2.1) (F0 X.2.2.2.1 pc ls st)
variable {l : Launch} {D : va_G} {cy : FieldType → ClassId} {ax am : Nat → Nat} {X : iw_X} {b L : Nat} {xs : Nat → Int32} {pc : Nat} {lv : List (Nat × Value)} {st : List Value} {zx zm : iw_M}
theorem L_aln {n : Fin 4} {x : Nat} (hC : iw_LC l D cy ax am X b L xs) (hdg : decode code pc = .ok (.aload_n n, 1)) (k : Nat) (hk : lv[k]? = some ((n : Nat), .ref x)) (kk : iw_L l D cy ax am X (pc + 1) lv (.ref x :: st) zx zm) : iw_L l D cy ax am X pc lv st zx zm :=
  fun H locs ls hP hM hS hl => lv_aload_n hC.1.1 hC.1.2.1 hdg rfl (lv_at hl k hk) (kk H locs ls hP hM hS hl)
theorem L_iln {n : Fin 4} {x : Int32} (hC : iw_LC l D cy ax am X b L xs) (hdg : decode code pc = .ok (.iload_n n, 1)) (k : Nat) (hk : lv[k]? = some ((n : Nat), .int x)) (kk : iw_L l D cy ax am X (pc + 1) lv (.int x :: st) zx zm) : iw_L l D cy ax am X pc lv st zx zm :=
  fun H locs ls hP hM hS hl => lv_iload_n hC.1.1 hC.1.2.1 hdg rfl (lv_at hl k hk) (kk H locs ls hP hM hS hl)
theorem L_ic {n : Int} {x : Int32} (hC : iw_LC l D cy ax am X b L xs) (hdg : decode code pc = .ok (.iconst n, 1)) (hv : Int32.ofInt n = x) (kk : iw_L l D cy ax am X (pc + 1) lv (.int x :: st) zx zm) : iw_L l D cy ax am X pc lv st zx zm :=
  fun H locs ls hP hM hS hl => lv_iconst hC.1.1 hC.1.2.1 hdg hv (kk H locs ls hP hM hS hl)
theorem L_bip {n : Int} {x : Int32} (hC : iw_LC l D cy ax am X b L xs) (hdg : decode code pc = .ok (.bipush n, 2)) (hv : (Int8.ofInt n).toInt32 = x) (kk : iw_L l D cy ax am X (pc + 2) lv (.int x :: st) zx zm) : iw_L l D cy ax am X pc lv st zx zm :=
  fun H locs ls hP hM hS hl => lv_bipush hC.1.1 hC.1.2.1 hdg hv (kk H locs ls hP hM hS hl)
theorem L_iadd {x y : Int32} (hC : iw_LC l D cy ax am X b L xs) (hdg : decode code pc = .ok (.iadd, 1)) (kk : iw_L l D cy ax am X (pc + 1) lv (.int (x + y) :: st) zx zm) : iw_L l D cy ax am X pc lv (.int y :: .int x :: st) zx zm :=
  fun H locs ls hP hM hS hl => lv_iadd hC.1.1 hC.1.2.1 hdg (kk H locs ls hP hM hS hl)
theorem L_isub {x y : Int32} (hC : iw_LC l D cy ax am X b L xs) (hdg : decode code pc = .ok (.isub, 1)) (kk : iw_L l D cy ax am X (pc + 1) lv (.int (x - y) :: st) zx zm) : iw_L l D cy ax am X pc lv (.int y :: .int x :: st) zx zm :=
  fun H locs ls hP hM hS hl => lv_isub hC.1.1 hC.1.2.1 hdg (kk H locs ls hP hM hS hl)
theorem L_iand {x y : Int32} (hC : iw_LC l D cy ax am X b L xs) (hdg : decode code pc = .ok (.iand, 1)) (kk : iw_L l D cy ax am X (pc + 1) lv (.int (x &&& y) :: st) zx zm) : iw_L l D cy ax am X pc lv (.int y :: .int x :: st) zx zm :=
  fun H locs ls hP hM hS hl => lv_iand hC.1.1 hC.1.2.1 hdg (kk H locs ls hP hM hS hl)
theorem L_sld {i : Int32} (hC : iw_LC l D cy ax am X b L xs) (hin : vp_in i L) (hdg : decode code pc = .ok (.iaload, 1)) (kk : iw_L l D cy ax am X (pc + 1) lv (.int (xs i.toNatClampNeg) :: st) zx zm) : iw_L l D cy ax am X pc lv (.int i :: .ref b :: st) zx zm :=
  fun H locs ls hP hM hS hl => va_sld hC.1.1 hC.1.2.1 hC.2.2.2.2.2.1 hC.2.2.2.2.2.2.1 (Nat.not_le.mpr hC.2.2.2.2.2.2.1) hS hin hdg (kk H locs ls hP hM hS hl)
theorem L_slen (hC : iw_LC l D cy ax am X b L xs) (hdg : decode code pc = .ok (.arraylength, 1)) (kk : iw_L l D cy ax am X (pc + 1) lv (.int (nI L) :: st) zx zm) : iw_L l D cy ax am X pc lv (.ref b :: st) zx zm :=
  fun H locs ls hP hM hS hl => va_slen hC.1.1 hC.1.2.1 hC.2.2.2.2.2.1 hC.2.2.2.2.2.2.1 (Nat.not_le.mpr hC.2.2.2.2.2.2.1) hS hdg (kk H locs ls hP hM hS hl)
def iw_b (x : Int32) : Int32 := if x = 0 then 0 else 1
theorem L_bool {x : Int32} (hC : iw_LC l D cy ax am X b L xs) (d1 : decode code pc = .ok (.ifCond .eq 7, 3)) (d2 : decode code (pc + 3) = .ok (.iconst 1, 1)) (d3 : decode code (pc + 4) = .ok (.goto 4, 3)) (d4 : decode code (pc + 7) = .ok (.iconst 0, 1)) (kk : iw_L l D cy ax am X (pc + 8) lv (.int (iw_b x) :: st) zx zm) : iw_L l D cy ax am X pc lv (.int x :: st) zx zm := by
  intro H locs ls hP hM hS hl
  refine lv_if_eq (tgt := pc + 7) hC.1.1 hC.1.2.1 d1 (by omega) (fun c => ?_) (fun c => ?_)
  · refine lv_iconst (v := 0) hC.1.1 hC.1.2.1 d4 (by decide) ?_
    have := kk H locs ls hP hM hS hl
    rw [show iw_b x = 0 from if_pos c] at this
    exact this
  · refine lv_iconst (v := 1) hC.1.1 hC.1.2.1 d2 (by decide) ?_
    refine lv_goto (tgt := pc + 8) hC.1.1 hC.1.2.1 d3 (by omega) ?_
    have := kk H locs ls hP hM hS hl
    rw [show iw_b x = 1 from if_neg c] at this
    exact this
theorem L_eq {x : Int32} {off : Int} (tgt : Nat) (hC : iw_LC l D cy ax am X b L xs) (hdg : decode code pc = .ok (.if_icmp .eq off, 3)) (ht : (pc : Int) + off = (tgt : Int)) (kk : iw_L l D cy ax am X tgt lv st zx zm) : iw_L l D cy ax am X pc lv (.int x :: .int x :: st) zx zm :=
  fun H locs ls hP hM hS hl => lv_icmp_eq hC.1.1 hC.1.2.1 hdg ht (fun _ => kk H locs ls hP hM hS hl) (fun c => absurd rfl c)
theorem L_cX {y : MethodName} {cc : ByteArray} {nL fr lo n idx : Nat} {As : List Value} {oc : Option (Int32 × iw_M)} {v : Int32} {zx1 : iw_M} (rest : List Value) (hC : iw_LC l D cy ax am X b L xs) (hV : iw_CV RL idx RX8 y cc nL (some .int) n) (K : iw_K (iw_GG l D cy ax) iw_wX y cc nL (some .int) fr lo iw_ei (.ref (ax 0) :: As) zx oc) (hoc : oc = some (v, zx1)) (hst : st = As.reverse ++ .ref (ax 0) :: rest) (hn : As.length = n) (hW : (rest.map fun v => v.category).sum ≤ 8) (hR : fr + 1 ≤ room_1.frames ∧ 8 + (nL + 11) + lo ≤ room_1.locals) (hdg : decode code pc = .ok (.invokevirtual idx, 3))
    (kk : iw_L l D cy ax am X (pc + 3) lv (.int v :: rest) zx1 zm) : iw_L l D cy ax am X pc lv st zx zm := by
  intro H locs ls hP hM hS hl
  obtain ⟨⟨hx, hb, hml, hown, hts, hK⟩, ⟨iX, iM, hxm, gX, gM⟩, hZX, hZM, hN, hSc, hbl, hag, hlk, hrt⟩ := hC
  have hr := va_runV (C := RX8) (b := ax 0) (As := As) (rest := rest) (H := H) (locs := locs) (cells := 79) (slots := 5255) (g := F0 X.2.2.2.1 pc ls st) (e := X.2.1) (R := room_1) (below := X.2.2.2.2.2.1) (meth := X.2.2.2.2.2.2.1) ⟨hx, hb, hml, hown, hts⟩ (K v zx1 hoc) (cwV n hts (iw_GI (by
    intro c hc
    rcases List.mem_append.mp (show c ∈ ([.methodLink RL idx y, .instanceMethod y, .selects RX8 y y, .initialized RX8] : List Cond) ++ (Cond.code y cc nL (some .int) :: iw_tbl) from hc) with h | h
    · exact hV.1 c (List.mem_append_left _ h)
    · rcases List.mem_cons.mp h with h | h
      · exact hV.1 c (List.mem_append_right _ (by rw [h]; exact List.mem_cons_self))
      · exact h)) rfl rfl rfl hV.2 hR) ⟨iw_blind, va_recv hK hP (ci := 8) (q0 := 0) (q := (RX8, TX8, 12)) rfl (by rw [iw_at (by decide), iw_inl (q := (8, [some 1, some 8, some 19, some 21, some 23, some 26, some 31, some 38, some 43, some 45, some 46, none])) rfl]), fun U hU hW => ⟨rfl, by rw [hU]; exact hP, va_K.moved hW.alike hK, iX, by rw [hU]; exact (hZX.moved hW.alike).kept (fun a h1 h2 => hS.2.1 a h1 (Nat.not_le.mpr h1)), hN.warm hW⟩⟩ rfl hn hl.1 hst (lv_room hW) hdg ⟨Nat.le_of_ble_eq_true rfl, Nat.le_of_ble_eq_true rfl⟩
  intro T hT XX
  obtain ⟨v1, st₀, t, T', L', h0, X', hL, e1, e2, ⟨⟨hv, hp⟩, hz, hk⟩, stp⟩ := hr T hT XX
  cases hv
  rw [h0] at hz hk
  obtain ⟨t2, a1, b1⟩ := kk T'.heap (locs ++ L') ls (by rw [e1]; exact hp)
    (by rw [e1]; exact hM.kept (fun k q hq => by
      have hkk : k < 32 ∧ q.1 = am k := by
        by_cases hk9 : k < 32
        · rw [iw_at (w := iw_wM) hk9] at hq; cases hq; exact ⟨hk9, rfl⟩
        · simp [iw_wld, iw_wM, hk9] at hq
      refine hk q.1 ((hM k q hq).lt) (fun h => ?_)
      obtain ⟨i, hi, e⟩ := h
      exact hxm i k hi hkk.1 (e.symm.trans hkk.2)))
    ⟨Nat.le_trans hS.1 (by rw [e1]; exact hz), fun q h1 h2 => by
      rw [e1, hk q (Nat.lt_of_lt_of_le h1 hS.1) (fun h => by obtain ⟨i, hi, e⟩ := h; have := gX i hi; exact h2 (by rw [e]; exact this))]
      exact hS.2.1 q h1 h2, fun q hq => by
      rcases List.mem_append.mp hq with h | h
      · exact hS.2.2 q h
      · obtain ⟨i, hi, e⟩ := hL q h
        show X.2.2.1.heap.size ≤ q.base
        rw [e]; exact gX i hi⟩ hl T' rfl X'
  exact ⟨t2, stp t2 a1, b1⟩
theorem L_cM {y : MethodName} {cc : ByteArray} {nL fr lo n idx : Nat} {As : List Value} {oc : Option (Int32 × iw_M)} {v : Int32} {zm1 : iw_M} (rest : List Value) (hC : iw_LC l D cy ax am X b L xs) (hV : iw_CV RL idx RX9 y cc nL (some .int) n) (K : iw_K (iw_GG l D cy am) iw_wM y cc nL (some .int) fr lo iw_ei (.ref (am 0) :: As) zm oc) (hoc : oc = some (v, zm1)) (hst : st = As.reverse ++ .ref (am 0) :: rest) (hn : As.length = n) (hW : (rest.map fun v => v.category).sum ≤ 8) (hR : fr + 1 ≤ room_1.frames ∧ 8 + (nL + 11) + lo ≤ room_1.locals) (hdg : decode code pc = .ok (.invokevirtual idx, 3))
    (kk : iw_L l D cy ax am X (pc + 3) lv (.int v :: rest) zx zm1) : iw_L l D cy ax am X pc lv st zx zm := by
  intro H locs ls hP hM hS hl
  obtain ⟨⟨hx, hb, hml, hown, hts, hK⟩, ⟨iX, iM, hxm, gX, gM⟩, hZX, hZM, hN, hSc, hbl, hag, hlk, hrt⟩ := hC
  have hr := va_runV (C := RX9) (b := am 0) (As := As) (rest := rest) (H := H) (locs := locs) (cells := 79) (slots := 5255) (g := F0 X.2.2.2.1 pc ls st) (e := X.2.1) (R := room_1) (below := X.2.2.2.2.2.1) (meth := X.2.2.2.2.2.2.1) ⟨hx, hb, hml, hown, hts⟩ (K v zm1 hoc) (cwV n hts (iw_GI (by
    intro c hc
    rcases List.mem_append.mp (show c ∈ ([.methodLink RL idx y, .instanceMethod y, .selects RX9 y y, .initialized RX9] : List Cond) ++ (Cond.code y cc nL (some .int) :: iw_tbl) from hc) with h | h
    · exact hV.1 c (List.mem_append_left _ h)
    · rcases List.mem_cons.mp h with h | h
      · exact hV.1 c (List.mem_append_right _ (by rw [h]; exact List.mem_cons_self))
      · exact h)) rfl rfl rfl hV.2 hR) ⟨iw_blind, va_recv hK hM (ci := 9) (q0 := 0) (q := (RX9, TX9, 43)) rfl (by rw [iw_at (by decide), iw_inl (q := (9, (List.range 43).map (fun j => if j < 12 then none else some (j - 11)))) rfl]), fun U hU hW => ⟨rfl, by rw [hU]; exact hM, va_K.moved hW.alike hK, iM, by rw [hU]; exact (hZM.moved hW.alike).kept (fun a h1 h2 => hS.2.1 a h1 (Nat.not_le.mpr h1)), hN.warm hW⟩⟩ rfl hn hl.1 hst (lv_room hW) hdg ⟨Nat.le_of_ble_eq_true rfl, Nat.le_of_ble_eq_true rfl⟩
  intro T hT XX
  obtain ⟨v1, st₀, t, T', L', h0, X', hL, e1, e2, ⟨⟨hv, hp⟩, hz, hk⟩, stp⟩ := hr T hT XX
  cases hv
  rw [h0] at hz hk
  obtain ⟨t2, a1, b1⟩ := kk T'.heap (locs ++ L') ls
    (by rw [e1]; exact hP.kept (fun k q hq => by
      have hkk : k < 47 ∧ q.1 = ax k := by
        by_cases hk9 : k < 47
        · rw [iw_at (w := iw_wX) hk9] at hq; cases hq; exact ⟨hk9, rfl⟩
        · simp [iw_wld, iw_wX, hk9] at hq
      refine hk q.1 ((hP k q hq).lt) (fun h => ?_)
      obtain ⟨i, hi, e⟩ := h
      exact hxm k i hkk.1 hi (hkk.2.symm.trans e)))
    (by rw [e1]; exact hp)
    ⟨Nat.le_trans hS.1 (by rw [e1]; exact hz), fun q h1 h2 => by
      rw [e1, hk q (Nat.lt_of_lt_of_le h1 hS.1) (fun h => by obtain ⟨i, hi, e⟩ := h; have := gM i hi; exact h2 (by rw [e]; exact this))]
      exact hS.2.1 q h1 h2, fun q hq => by
      rcases List.mem_append.mp hq with h | h
      · exact hS.2.2 q h
      · obtain ⟨i, hi, e⟩ := hL q h
        show X.2.2.1.heap.size ≤ q.base
        rw [e]; exact gM i hi⟩ hl T' rfl X'
  exact ⟨t2, stp t2 a1, b1⟩
end IWL
