section IWK
variable {l : Launch} {D : va_G} {cy : FieldType → ClassId} {X : iw_X} {B : iw_B} {A : Nat → Prop} {Q : State → Prop} {cells slots pc : Nat} {lv : List (Nat × Value)} {st : List Value} {ws : va_W}
/-- a constructor's contract: from the world wc it comes to a world res u -/
def iw_KI (l : Launch) (D : va_G) (cy : FieldType → ClassId) (y : MethodName) (cc : ByteArray) (nL fr lo mc ms : Nat) (NX : State → Prop) (av : List Value) (wc : va_W) (res : (Nat → Nat) → va_W) : Prop :=
  ∀ sz : Nat, Met l y (Cond.code y cc nL none :: iw_tbl) { frames := fr, cells := mc, slots := ms, locals := lo } (va_Pc av (fun U => U.heap.size = sz ∧ va_P D vwCl wc U.heap ∧ va_K D vwCl (iw_tyc cy) U ∧ va_D (fun _ => True) wc ∧ NX U)) (iw_QU D (va_A wc sz) res) mc ms (va_A wc sz)
theorem iw_ofU {y : MethodName} {cc : ByteArray} {nL fr lo mc ms : Nat} {NX : State → Prop} {av : List Value} {wc : va_W} {res : (Nat → Nat) → va_W} (lv : List (Nat × Value)) (hy : plainName y.cls = true) (hyn : y.name = "<init>") (hn : (lg_sl av).length ≤ nL) (hlv : lv_args 0 av = lv)
    (body : ∀ (X : iw_X) (A : Nat → Prop), iw_CU l D cy X (cc, nL, { frames := fr, cells := mc, slots := ms, locals := lo }, y.cls, none) A → X.2.2.2.2.2.2.1.name = "<init>" → NX X.2.2.1 → iw_U l D X (cc, nL, { frames := fr, cells := mc, slots := ms, locals := lo }, y.cls, none) A (MQ X.2.2.2.2.2.1 (iw_QU D A res) X.2.2.2.2.1 X.2.2.1 mc ms A) 0 0 0 lv [] wc) : iw_KI l D cy y cc nL fr lo mc ms NX av wc res := by
  intro sz
  refine Met.ofW (cc := cc) (maxL := nL) (ret := none) hy rfl ?_
  intro p e s m args below meth c s₁ B hml hv
  obtain ⟨rfl, hsz, hP, hK, hD0, hNX⟩ := hv
  have hts := atoms_spec (ws := Cond.code y cc nL none :: iw_tbl) B.pre
  have hown : s.vm.findClass y.cls = some m.cls := findClass_of_methodNamed B.named
  have hin : meth.name = "<init>" := (name_of_methodNamed B.named B.method).1.trans hyn
  subst hsz
  have hl := lv_entry av (n := nL) hn
  rw [lg_entry_eq]
  rw [hlv] at hl
  exact body (p, e, s, m, av.toArray, below, meth, c) (va_A wc s.heap.size) ⟨B.exec, B.bytes, hml, hown, fun c hc => hts c (List.mem_cons_of_mem _ hc), hK, fun q h => Or.inr h, B.notSynchronized, B.returns⟩ hin hNX s.heap [] _ hP (hD0.self) va_S.rf hl
def iw_WI (y : MethodName) (cc : ByteArray) (nL n : Nat) : Prop := (Cond.instanceMethod y ∈ iw_tbl ∧ Cond.initialized y.cls ∈ iw_tbl ∧ Cond.code y cc nL none ∈ iw_tbl) ∧ y.name = "<init>" ∧ (y.cls ≠ "java/lang/invoke/MethodHandle" ∧ y.cls ≠ "java/lang/invoke/VarHandle" ∧ (parseMethodDescriptor y.desc).map (fun d => d.parameters.length) = some n)
theorem iw_blindU {NX : State → Prop} {av : List Value} {wc : va_W} {sz : Nat} (hbl : ∀ (U : State) (g : JFrame) (mk : MethodId) (a : Array Value), NX U → NX (U.calling g mk a)) : FrameBlind (va_Pc av (fun U => U.heap.size = sz ∧ va_P D vwCl wc U.heap ∧ va_K D vwCl (iw_tyc cy) U ∧ va_D (fun _ => True) wc ∧ NX U)) := by
  intro a U g mk q
  obtain ⟨q0, q1, qP, qK, qD, qN⟩ := q
  exact ⟨q0, q1, qP, va_K.moved (u := U) (U := U.calling g mk a) (Vm.Alike.refl U.vm) qK, qD, hbl U g mk a qN⟩
theorem U_cN {y : MethodName} {cc : ByteArray} {nL fr lo mc ms n idx a : Nat} {NX : State → Prop} {As : List Value} {wc wr : va_W} {res : (Nat → Nat) → va_W} (rest : List Value) (isC isR : List Nat) (hC : iw_CU l D cy X B A) (hl9 : va_Nw (.methodLinkNest B.2.2.2.1 idx y "IdeaWorks") X.2.2.1) (hw9 : iw_WI y cc nL n)
    (K : iw_KI l D cy y cc nL fr lo mc ms NX (.ref a :: As) wc res) (hbl : ∀ (U : State) (g : JFrame) (mk : MethodId) (a : Array Value), NX U → NX (U.calling g mk a)) (hNX : ∀ U : State, X.2.2.1.WarmedH U.vm → NX U) (hst : st = As.reverse ++ .ref a :: rest) (hn : As.length = n) (hW : (rest.map fun v => v.category).sum ≤ 8) (hR : fr + 1 ≤ B.2.2.1.frames ∧ 8 + (nL + 11) + lo ≤ B.2.2.1.locals) (hf : cells + mc ≤ B.2.2.1.cells ∧ slots + ms ≤ B.2.2.1.slots)
    (hCs : isC.map (fun i => ws[i]?) = wc.map some) (hCf : isC.filterMap (fun i => ws[i]?) = wc) (hRs : isR.map (fun i => ws[i]?) = wr.map some) (hndC : va_nd isC = true) (hndR : va_nd isR = true) (hdis : ∀ i ∈ isR, i ∉ isC) (hdg : decode B.1 pc = .ok (.invokespecial idx, 3))
    (kk : ∀ u : Nat → Nat, iw_U l D X B A Q (cells + mc) (slots + ms) (pc + 3) lv rest (wr ++ res u)) : iw_U l D X B A Q cells slots pc lv st ws := by
  intro H locs ls hP hD hS hl
  obtain ⟨hx, hb, hml, hown, hts, hK, hA, hlk, hr⟩ := hC
  have hFc := va_free (wc := wc) hD hS hA isC hCs
  have hPc := hP.sub isC hCf
  have hDc := hD.sub isC hndC hCs
  refine va_callv (va_runIN (host := "IdeaWorks") (As := As) (rest := rest) ⟨hx, hb, hml, hown, hts⟩ (K H.size) ⟨va_cnB n hts (iw_GI ?_) rfl rfl rfl hl9 (hts _ hw9.1.2.1) hw9.2.2 hR, hw9.2.1, hts _ hw9.1.1⟩ ⟨iw_blindU hbl, fun U hU hW => ⟨rfl, by rw [hU], by rw [hU]; exact hPc, va_K.moved hW.alike hK, hDc.weaken (fun _ _ _ _ => trivial), hNX U hW⟩⟩ rfl hn hl.1 hst (lv_room hW) hdg hf) hS (fun q _ h => hFc q h) hFc (fun u t H1 locs ht hvm hw hB hz1 hk1 hS => ?_)
  · intro c hc
    rcases List.mem_cons.mp hc with h | h
    · rw [h]; exact hw9.1.2.2
    · exact h
  · obtain ⟨hP1, hD1⟩ := hB
    rw [ht] at hP1
    obtain ⟨hP, hD⟩ := va_join hP hD isC isR hCs hRs hndR hdis hk1 hFc hP1 hD1
    exact kk u H1 locs ls hP hD hS hl
theorem U_cI {y : MethodName} {cc : ByteArray} {nL fr lo mc ms n idx a : Nat} {NX : State → Prop} {As : List Value} {wc wr : va_W} {res : (Nat → Nat) → va_W} (rest : List Value) (isC isR : List Nat) (hC : iw_CU l D cy X B A) (hl9 : Cond.methodLink B.2.2.2.1 idx y ∈ iw_tbl) (hw9 : iw_WI y cc nL n)
    (K : iw_KI l D cy y cc nL fr lo mc ms NX (.ref a :: As) wc res) (hbl : ∀ (U : State) (g : JFrame) (mk : MethodId) (a : Array Value), NX U → NX (U.calling g mk a)) (hNX : ∀ U : State, X.2.2.1.WarmedH U.vm → NX U) (hst : st = As.reverse ++ .ref a :: rest) (hn : As.length = n) (hW : (rest.map fun v => v.category).sum ≤ 8) (hR : fr + 1 ≤ B.2.2.1.frames ∧ 8 + (nL + 11) + lo ≤ B.2.2.1.locals) (hf : cells + mc ≤ B.2.2.1.cells ∧ slots + ms ≤ B.2.2.1.slots)
    (hCs : isC.map (fun i => ws[i]?) = wc.map some) (hCf : isC.filterMap (fun i => ws[i]?) = wc) (hRs : isR.map (fun i => ws[i]?) = wr.map some) (hndC : va_nd isC = true) (hndR : va_nd isR = true) (hdis : ∀ i ∈ isR, i ∉ isC) (hdg : decode B.1 pc = .ok (.invokespecial idx, 3))
    (kk : ∀ u : Nat → Nat, iw_U l D X B A Q (cells + mc) (slots + ms) (pc + 3) lv rest (wr ++ res u)) : iw_U l D X B A Q cells slots pc lv st ws := by
  intro H locs ls hP hD hS hl
  obtain ⟨hx, hb, hml, hown, hts, hK, hA, hlk, hr⟩ := hC
  have hFc := va_free (wc := wc) hD hS hA isC hCs
  have hPc := hP.sub isC hCf
  have hDc := hD.sub isC hndC hCs
  refine va_callv (va_runI (As := As) (rest := rest) ⟨hx, hb, hml, hown, hts⟩ (K H.size) (cwI n hts (iw_GI ?_) rfl rfl rfl (hts _ hw9.1.2.1) (hts _ hl9) (hts _ hw9.1.1) hw9.2.1 hw9.2.2 hR) ⟨iw_blindU hbl, fun U hU hW => ⟨rfl, by rw [hU], by rw [hU]; exact hPc, va_K.moved hW.alike hK, hDc.weaken (fun _ _ _ _ => trivial), hNX U hW⟩⟩ rfl hn hl.1 hst (lv_room hW) hdg hf) hS (fun q _ h => hFc q h) hFc (fun u t H1 locs ht hvm hw hB hz1 hk1 hS => ?_)
  · intro c hc
    rcases List.mem_cons.mp hc with h | h
    · rw [h]; exact hw9.1.2.2
    · exact h
  · obtain ⟨hP1, hD1⟩ := hB
    rw [ht] at hP1
    obtain ⟨hP, hD⟩ := va_join hP hD isC isR hCs hRs hndR hdis hk1 hFc hP1 hD1
    exact kk u H1 locs ls hP hD hS hl
theorem iw_TT (U : State) (g : JFrame) (mk : MethodId) (a : Array Value) (_ : True) : True := trivial
/-- the seven private constructors that IdeaWorks calls -/
def iw_NI (U : State) : Prop := va_Nw (.methodLinkNest RX8 9 yX2_init "IdeaWorks") U ∧ va_Nw (.methodLinkNest RX8 18 yX0_init "IdeaWorks") U ∧ va_Nw (.methodLinkNest RX8 25 yX4_init "IdeaWorks") U ∧ va_Nw (.methodLinkNest RX8 32 yX6_init "IdeaWorks") U ∧ va_Nw (.methodLinkNest RX8 39 yX5_init "IdeaWorks") U ∧ va_Nw (.methodLinkNest RX8 46 yX7_init "IdeaWorks") U ∧ va_Nw (.methodLinkNest RX8 64 yX3_init "IdeaWorks") U
theorem iw_NI.warm {s U : State} (hW : s.WarmedH U.vm) (h : iw_NI s) : iw_NI U := ⟨h.1.warmM hW, h.2.1.warmM hW, h.2.2.1.warmM hW, h.2.2.2.1.warmM hW, h.2.2.2.2.1.warmM hW, h.2.2.2.2.2.1.warmM hW, h.2.2.2.2.2.2.warmM hW⟩
theorem iw_NI.blind (U : State) (g : JFrame) (mk : MethodId) (a : Array Value) (h : iw_NI U) : iw_NI (U.calling g mk a) := by
  obtain ⟨h1, h2, h3, h4, h5, h6, h7⟩ := h
  exact ⟨va_Nw.same (u := U) (U := U.calling g mk a) rfl rfl h1, va_Nw.same (u := U) (U := U.calling g mk a) rfl rfl h2, va_Nw.same (u := U) (U := U.calling g mk a) rfl rfl h3, va_Nw.same (u := U) (U := U.calling g mk a) rfl rfl h4, va_Nw.same (u := U) (U := U.calling g mk a) rfl rfl h5, va_Nw.same (u := U) (U := U.calling g mk a) rfl rfl h6, va_Nw.same (u := U) (U := U.calling g mk a) rfl rfl h7⟩
end IWK
