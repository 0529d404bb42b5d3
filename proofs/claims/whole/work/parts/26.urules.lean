/-! MAKING: a judgement for methods that make cells; its world is a list -/
section IWU
def iw_tyc (cy : FieldType → ClassId) : List (ClassId × FieldType) := [(cy .int, .int), (cy .boolean, .boolean), (cy .long, .long)]
def iw_CU (l : Launch) (D : va_G) (cy : FieldType → ClassId) (X : iw_X) (B : iw_B) (A : Nat → Prop) : Prop :=
  X.1.tables.exec = Jvm.exec ∧ X.2.2.2.2.2.2.2.code = B.1 ∧ X.2.2.2.2.2.2.2.maxLocals = B.2.1 ∧ X.2.2.1.vm.findClass B.2.2.2.1 = some X.2.2.2.1.cls ∧ (∀ c ∈ iw_tbl, c.before X.2.2.2.2.1 X.2.2.1 = true) ∧ va_K D vwCl (iw_tyc cy) X.2.2.1 ∧ (∀ q, X.2.2.1.heap.size ≤ q → A q) ∧ X.2.2.2.2.2.2.1.locks = false ∧ X.2.2.2.2.2.2.1.sig.returnType = B.2.2.2.2
def iw_U (l : Launch) (D : va_G) (X : iw_X) (B : iw_B) (A : Nat → Prop) (Q : State → Prop) (cells slots pc : Nat) (lv : List (Nat × Value)) (st : List Value) (ws : va_W) : Prop :=
  ∀ (H : Heap) (locs : List Loc) (ls : Array Slot), va_P D vwCl ws H → va_D A ws → va_S A X.2.2.1.heap H locs → lv_has ls B.2.1 lv →
    W X.1 l X.2.1 B.2.2.1 X.2.2.1 X.2.2.2.1 X.2.2.2.2.1 X.2.2.2.2.2.1 X.2.2.2.2.2.2.1 X.2.2.2.2.2.2.2 H locs cells slots Q (F0 X.2.2.2.1 pc ls st)
variable {l : Launch} {D : va_G} {cy : FieldType → ClassId} {X : iw_X} {B : iw_B} {A : Nat → Prop} {Q : State → Prop} {cells slots pc : Nat} {lv : List (Nat × Value)} {st : List Value} {ws : va_W}
theorem U_nm (ws' : va_W) (h : ws = ws') (kk : iw_U l D X B A Q cells slots pc lv st ws') : iw_U l D X B A Q cells slots pc lv st ws := by subst h; exact kk
theorem U_aln {n : Fin 4} {x : Nat} (hC : iw_CU l D cy X B A) (hdg : decode B.1 pc = .ok (.aload_n n, 1)) (k : Nat) (hk : lv[k]? = some ((n : Nat), .ref x)) (kk : iw_U l D X B A Q cells slots (pc + 1) lv (.ref x :: st) ws) : iw_U l D X B A Q cells slots pc lv st ws := by
  intro H locs ls hP hD hS hl
  obtain ⟨hx, hb, hml, hown, hts, hK, hA, hlk, hr⟩ := hC
  exact lv_aload_n hx hb hdg rfl (lv_at hl k hk) (kk H locs ls hP hD hS hl)
theorem U_iln {n : Fin 4} {x : Int32} (hC : iw_CU l D cy X B A) (hdg : decode B.1 pc = .ok (.iload_n n, 1)) (k : Nat) (hk : lv[k]? = some ((n : Nat), .int x)) (kk : iw_U l D X B A Q cells slots (pc + 1) lv (.int x :: st) ws) : iw_U l D X B A Q cells slots pc lv st ws := by
  intro H locs ls hP hD hS hl
  obtain ⟨hx, hb, hml, hown, hts, hK, hA, hlk, hr⟩ := hC
  exact lv_iload_n hx hb hdg rfl (lv_at hl k hk) (kk H locs ls hP hD hS hl)
theorem U_ic {n : Int} {x : Int32} (hC : iw_CU l D cy X B A) (hdg : decode B.1 pc = .ok (.iconst n, 1)) (hv : Int32.ofInt n = x) (kk : iw_U l D X B A Q cells slots (pc + 1) lv (.int x :: st) ws) : iw_U l D X B A Q cells slots pc lv st ws := by
  intro H locs ls hP hD hS hl
  obtain ⟨hx, hb, hml, hown, hts, hK, hA, hlk, hr⟩ := hC
  exact lv_iconst hx hb hdg hv (kk H locs ls hP hD hS hl)
theorem U_bip {n : Int} {x : Int32} (hC : iw_CU l D cy X B A) (hdg : decode B.1 pc = .ok (.bipush n, 2)) (hv : (Int8.ofInt n).toInt32 = x) (kk : iw_U l D X B A Q cells slots (pc + 2) lv (.int x :: st) ws) : iw_U l D X B A Q cells slots pc lv st ws := by
  intro H locs ls hP hD hS hl
  obtain ⟨hx, hb, hml, hown, hts, hK, hA, hlk, hr⟩ := hC
  exact lv_bipush hx hb hdg hv (kk H locs ls hP hD hS hl)
theorem U_sip {n : Int} {x : Int32} (hC : iw_CU l D cy X B A) (hdg : decode B.1 pc = .ok (.sipush n, 3)) (hv : (Int16.ofInt n).toInt32 = x) (kk : iw_U l D X B A Q cells slots (pc + 3) lv (.int x :: st) ws) : iw_U l D X B A Q cells slots pc lv st ws := by
  intro H locs ls hP hD hS hl
  obtain ⟨hx, hb, hml, hown, hts, hK, hA, hlk, hr⟩ := hC
  exact lv_sipush hx hb hdg hv (kk H locs ls hP hD hS hl)
theorem U_dup {a : Value} (hC : iw_CU l D cy X B A) (hdg : decode B.1 pc = .ok (.dup, 1)) (ha : a.category = 1) (kk : iw_U l D X B A Q cells slots (pc + 1) lv (a :: a :: st) ws) : iw_U l D X B A Q cells slots pc lv (a :: st) ws := by
  intro H locs ls hP hD hS hl
  obtain ⟨hx, hb, hml, hown, hts, hK, hA, hlk, hr⟩ := hC
  exact lv_dup hx hb hdg ha (kk H locs ls hP hD hS hl)
theorem U_asn {n : Fin 4} {x : Nat} (lv' : List (Nat × Value)) (hC : iw_CU l D cy X B A) (hdg : decode B.1 pc = .ok (.astore_n n, 1)) (hn : (n : Nat) < B.2.1) (hl' : ((n : Nat), Value.ref x) :: lv.filter (fun q => !(q.1 == (n : Nat)) && !(q.1 + 1 == (n : Nat) && q.2.category == 2)) = lv') (kk : iw_U l D X B A Q cells slots (pc + 1) lv' st ws) : iw_U l D X B A Q cells slots pc lv (.ref x :: st) ws := by
  intro H locs ls hP hD hS hl
  obtain ⟨hx, hb, hml, hown, hts, hK, hA, hlk, hr⟩ := hC
  exact lv_astore_n hx hb hdg rfl hl hn hl' (fun ls hl => kk H locs ls hP hD hS hl)
theorem U_isn {n : Fin 4} {x : Int32} (lv' : List (Nat × Value)) (hC : iw_CU l D cy X B A) (hdg : decode B.1 pc = .ok (.istore_n n, 1)) (hn : (n : Nat) < B.2.1) (hl' : ((n : Nat), Value.int x) :: lv.filter (fun q => !(q.1 == (n : Nat)) && !(q.1 + 1 == (n : Nat) && q.2.category == 2)) = lv') (kk : iw_U l D X B A Q cells slots (pc + 1) lv' st ws) : iw_U l D X B A Q cells slots pc lv (.int x :: st) ws := by
  intro H locs ls hP hD hS hl
  obtain ⟨hx, hb, hml, hown, hts, hK, hA, hlk, hr⟩ := hC
  exact lv_istore_n hx hb hdg rfl hl hn hl' (fun ls hl => kk H locs ls hP hD hS hl)
theorem U_inc {i k : Nat} {n : Int} {x y : Int32} (lv' : List (Nat × Value)) (hC : iw_CU l D cy X B A) (hdg : decode B.1 pc = .ok (.iinc i n, 3)) (hk : lv[k]? = some (i, .int x)) (hy : x + Int32.ofInt n = y) (hn : i < B.2.1) (hl' : (i, Value.int y) :: lv.filter (fun q => !(q.1 == i) && !(q.1 + 1 == i && q.2.category == 2)) = lv') (kk : iw_U l D X B A Q cells slots (pc + 3) lv' st ws) : iw_U l D X B A Q cells slots pc lv st ws := by
  intro H locs ls hP hD hS hl
  obtain ⟨hx, hb, hml, hown, hts, hK, hA, hlk, hr⟩ := hC
  exact lv_iinc hx hb hdg hl hk hy hn hl' (fun ls hl => kk H locs ls hP hD hS hl)
theorem U_goto {off : Int} (tgt : Nat) (hC : iw_CU l D cy X B A) (hdg : decode B.1 pc = .ok (.goto off, 3)) (ht : (pc : Int) + off = (tgt : Int)) (kk : iw_U l D X B A Q cells slots tgt lv st ws) : iw_U l D X B A Q cells slots pc lv st ws := by
  intro H locs ls hP hD hS hl
  obtain ⟨hx, hb, hml, hown, hts, hK, hA, hlk, hr⟩ := hC
  exact lv_goto hx hb hdg ht (kk H locs ls hP hD hS hl)
theorem U_cge {x y : Int32} {off : Int} (tgt : Nat) (hC : iw_CU l D cy X B A) (hdg : decode B.1 pc = .ok (.if_icmp .ge off, 3)) (ht : (pc : Int) + off = (tgt : Int)) (kt : y ≤ x → iw_U l D X B A Q cells slots tgt lv st ws) (kf : ¬ y ≤ x → iw_U l D X B A Q cells slots (pc + 3) lv st ws) : iw_U l D X B A Q cells slots pc lv (.int y :: .int x :: st) ws := by
  intro H locs ls hP hD hS hl
  obtain ⟨hx, hb, hml, hown, hts, hK, hA, hlk, hr⟩ := hC
  exact lv_icmp_ge hx hb hdg ht (fun c => kt c H locs ls hP hD hS hl) (fun c => kf c H locs ls hP hD hS hl)
theorem U_newa {atype : ArrayType} {ty : FieldType} {n : Int32} {N : Nat} {a0 : vp_A} (t0 : Nat) (hC : iw_CU l D cy X B A) (harr : Cond.arrayClass ty ∈ iw_tbl) (hty : newarray.typeOf atype = ty) (ht0 : (iw_tyc cy)[t0]? = some (cy ty, ty)) (hq : ∀ c1 c2, va_RA X.2.2.1 c1 ty → va_RA X.2.2.1 c2 ty → c1 = c2) (ha : ∀ cA : ClassId, vp_cell cA a0 = arrV cA N (fun _ => defaultValue ty)) (hn : ¬ n < 0) (hN : n.toNatClampNeg = N) (hbytes : N * componentBytes ty ≤ 536870912) (hcells : cells + 1 ≤ B.2.2.1.cells) (hslots : slots + N ≤ B.2.2.1.slots) (hdg : decode B.1 pc = .ok (.newarray atype, 2))
    (kk : ∀ q : Nat, iw_U l D X B A Q (cells + 1) (slots + N) (pc + 2) lv (.ref q :: st) (ws ++ [(q, .inl (cy ty, a0))])) : iw_U l D X B A Q cells slots pc lv (.int n :: st) ws := by
  intro H locs ls hP hD hS hl
  obtain ⟨hx, hb, hml, hown, hts, hK, hA, hlk, hr⟩ := hC
  refine va_newa hx hb (by rw [hty]; exact hts _ harr) hty hK hP hD hS hA ha hn hN hbytes hcells hslots hdg (fun q cA H1 hK1 hP1 hD1 hS1 => ?_)
  have e1 : va_RA X.2.2.1 cA ty := (hK1.2 (iw_tyc cy).length (cA, ty) (by rw [List.getElem?_append_right (Nat.le_refl _)]; simp)).2
  have e2 : va_RA X.2.2.1 (cy ty) ty := (hK.2 t0 _ ht0).2
  have e := hq _ _ e1 e2
  subst e
  exact kk q H1 locs ls hP1 hD1 hS1 hl
theorem U_new {C : String} {T : u_T} {N ci idx : Nat} {fs : List Value} (ty : Nat → FieldType) (hC : iw_CU l D cy X B A) (hin : ∀ c ∈ u_ws C T N, c ∈ iw_tbl) (hty : ∀ k, k < N → parseFieldDescriptor (T k).2.2.1 = some (ty k)) (h1 : Cond.classLink B.2.2.2.1 idx C ∈ iw_tbl) (h2 : Cond.instantiable C N ∈ iw_tbl) (h3 : Cond.initialized C ∈ iw_tbl) (hc : vwCl[ci]? = some (C, T, N)) (hfs : ∀ j, j < N → defaultValue (ty j) = vp_V fs j) (hcells : cells + 1 ≤ B.2.2.1.cells) (hslots : slots + N ≤ B.2.2.1.slots) (hdg : decode B.1 pc = .ok (.new idx, 3))
    (kk : ∀ q : Nat, iw_U l D X B A Q (cells + 1) (slots + N) (pc + 3) lv (.ref q :: st) (ws ++ [(q, .inr (ci, fs))])) : iw_U l D X B A Q cells slots pc lv st ws := by
  intro H locs ls hP hD hS hl
  obtain ⟨hx, hb, hml, hown, hts, hK, hA, hlk, hr⟩ := hC
  exact va_new hx hb hts hin ty hty hown (hts _ h1) (hts _ h2) (hts _ h3) hK hP hD hS hA hc hfs hcells hslots hdg (fun q H1 hP1 hD1 hS1 => kk q H1 locs ls hP1 hD1 hS1 hl)
theorem U_pF {C : String} {T : u_T} {N ci idx a k q0 : Nat} {fs : List Value} {v : Value} {ty : FieldType} (ty0 : Nat → FieldType) (hC : iw_CU l D cy X B A) (hin2 : X.2.2.2.2.2.2.1.name = "<init>") (hin : ∀ c ∈ u_ws C T N, c ∈ iw_tbl) (hty : ∀ k, k < N → parseFieldDescriptor (T k).2.2.1 = some (ty0 k)) (hnm : ∀ a, a < N → ∀ b, b < N → a ≠ b → (T a).2.1 ≠ (T b).2.1) (he : ws[q0]? = some (a, .inr (ci, fs))) (hc : vwCl[ci]? = some (C, T, N)) (hk : k < N) (hlink : Cond.fieldLink B.2.2.2.1 idx (T k).1 (T k).2.1 (T k).2.2.1 ∈ iw_tbl) (hfin : (T k).2.2.2 = true) (hdecl : (T k).1 = B.2.2.2.1) (hd : parseFieldDescriptor (T k).2.2.1 = some ty) (hn : narrow ty v = v) (hfit : fits ty v = true) (hlen : k < fs.length) (hdg : decode B.1 pc = .ok (.putfield idx, 3))
    (kk : iw_U l D X B A Q cells slots (pc + 3) lv st (ws.set q0 (a, .inr (ci, fs.set k v)))) : iw_U l D X B A Q cells slots pc lv (v :: .ref a :: st) ws := by
  intro H locs ls hP hD hS hl
  obtain ⟨hx, hb, hml, hown, hts, hK, hA, hlk, hr⟩ := hC
  exact va_putF hx hb hts hin ty0 hty hnm hown hK hP hD hS q0 he hc k hk (hts _ hlink) (fun _ h => h) hfin hin2 hdecl hd hn hfit hlen hdg (fun H1 locs1 hP1 hD1 hS1 => kk H1 locs1 ls hP1 hD1 hS1 hl)
theorem U_pI {C : String} {T : u_T} {N ci idx a k q0 : Nat} {fs : List Value} {v : Value} {ty : FieldType} (ty0 : Nat → FieldType) (hC : iw_CU l D cy X B A) (hin : ∀ c ∈ u_ws C T N, c ∈ iw_tbl) (hty : ∀ k, k < N → parseFieldDescriptor (T k).2.2.1 = some (ty0 k)) (hnm : ∀ a, a < N → ∀ b, b < N → a ≠ b → (T a).2.1 ≠ (T b).2.1) (he : ws[q0]? = some (a, .inr (ci, fs))) (hc : vwCl[ci]? = some (C, T, N)) (hk : k < N) (hlink : Cond.fieldLink B.2.2.2.1 idx (T k).1 (T k).2.1 (T k).2.2.1 ∈ iw_tbl) (hfin : (T k).2.2.2 = false) (hd : parseFieldDescriptor (T k).2.2.1 = some ty) (hn : narrow ty v = v) (hfit : fits ty v = true) (hlen : k < fs.length) (hdg : decode B.1 pc = .ok (.putfield idx, 3))
    (kk : iw_U l D X B A Q cells slots (pc + 3) lv st (ws.set q0 (a, .inr (ci, fs.set k v)))) : iw_U l D X B A Q cells slots pc lv (v :: .ref a :: st) ws := by
  intro H locs ls hP hD hS hl
  obtain ⟨hx, hb, hml, hown, hts, hK, hA, hlk, hr⟩ := hC
  exact va_put hx hb hts hin ty0 hty hnm hown hK hP hD hS q0 he hc k hk (hts _ hlink) (fun _ h => h) hfin hd hn hfit hlen hdg (fun H1 locs1 hP1 hD1 hS1 => kk H1 locs1 ls hP1 hD1 hS1 hl)
theorem U_ist {a q0 n : Nat} {f : Nat → Int32} {i x : Int32} (hC : iw_CU l D cy X B A) (ha : ws[q0]? = some (a, .inl (cy .int, n, .inl f))) (hin : vp_in i n) (hdg : decode B.1 pc = .ok (.iastore, 1)) (kk : iw_U l D X B A Q cells slots (pc + 1) lv st (ws.set q0 (a, .inl (cy .int, n, .inl (upd f i.toNatClampNeg x))))) : iw_U l D X B A Q cells slots pc lv (.int x :: .int i :: .ref a :: st) ws := by
  intro H locs ls hP hD hS hl
  obtain ⟨hx, hb, hml, hown, hts, hK, hA, hlk, hr⟩ := hC
  exact va_iast hx hb hK hP hD hS q0 0 ha rfl hin hdg (fun H1 locs1 hP1 hD1 hS1 => kk H1 locs1 ls hP1 hD1 hS1 hl)
theorem U_gr {C : String} {T : u_T} {N ci idx a k q0 : Nat} {fs : List Value} {v : Value} (hC : iw_CU l D cy X B A) (hin : ∀ c ∈ u_ws C T N, c ∈ iw_tbl) (he : ws[q0]? = some (a, .inr (ci, fs))) (hc : vwCl[ci]? = some (C, T, N)) (hk : k < N) (hlink : Cond.fieldLink B.2.2.2.1 idx (T k).1 (T k).2.1 (T k).2.2.1 ∈ iw_tbl) (hv : fs[k]? = some v) (hdg : decode B.1 pc = .ok (.getfield idx, 3))
    (kk : iw_U l D X B A Q cells slots (pc + 3) lv (v :: st) ws) : iw_U l D X B A Q cells slots pc lv (.ref a :: st) ws := by
  intro H locs ls hP hD hS hl
  obtain ⟨hx, hb, hml, hown, hts, hK, hA, hlk, hr⟩ := hC
  exact va_get hx hb hts hin hown hK hP q0 he hc k hk (hts _ hlink) (fun _ h => h) hv hdg (kk H locs ls hP hD hS hl)
theorem U_obj {a idx : Nat} (hC : iw_CU l D cy X B A) (h1 : Cond.methodLink B.2.2.2.1 idx objectInit ∈ iw_tbl) (h2 : Cond.instanceMethod objectInit ∈ iw_tbl) (h3 : Cond.code objectInit ⟨#[0xb1]⟩ 1 none ∈ iw_tbl) (hR : 1 ≤ B.2.2.1.frames ∧ (st.map fun v => v.category).sum + 12 ≤ B.2.2.1.locals) (hdg : decode B.1 pc = .ok (.invokespecial idx, 3)) (kk : iw_U l D X B A Q cells slots (pc + 3) lv st ws) : iw_U l D X B A Q cells slots pc lv (.ref a :: st) ws := by
  intro H locs ls hP hD hS hl
  obtain ⟨hx, hb, hml, hown, hts, hK, hA, hlk, hr⟩ := hC
  refine W.objInit hx hb hown (hts _ h1) (hts _ h2) (hts _ h3) rfl (by rw [hml]; exact hl.1) rfl hdg hR.1 (by show 2 * 0 + _ + 12 ≤ _; have := hR.2; omega) ?_
  exact W.eq (g2 := F0 X.2.2.2.1 (pc + 3) ls st) rfl (kk H locs ls hP hD hS hl)
/-- what a constructor leaves: a world, by the addresses u -/
def iw_QU (D : va_G) (A : Nat → Prop) (res : (Nat → Nat) → va_W) : Array Value → State → Outcome → State → Prop := va_Qv (fun _ : Nat → Nat => True) (fun u t => va_P D vwCl (res u) t.heap ∧ va_D A (res u)) A
theorem U_ret {res : (Nat → Nat) → va_W} (u : Nat → Nat) (is : List Nat) (hC : iw_CU l D cy X B A) (hrt : B.2.2.2.2 = none) (hs : is.filterMap (fun i => ws[i]?) = res u) (hs2 : is.map (fun i => ws[i]?) = (res u).map some) (hn : va_nd is = true) (hdg : decode B.1 pc = .ok (.return_, 1)) : iw_U l D X B A (MQ X.2.2.2.2.2.1 (iw_QU D A res) X.2.2.2.2.1 X.2.2.1 cells slots A) cells slots pc lv [] ws := by
  intro H locs ls hP hD hS hl
  obtain ⟨hx, hb, hml, hown, hts, hK, hA, hlk, hr⟩ := hC
  exact W.vret hx hb (hr.trans hrt) (fun t ht hW => ⟨⟨u, rfl, trivial, by rw [ht]; exact hP.sub is hs, hD.sub is hn hs2⟩, hS.F ht⟩) hS.2.2 hdg
theorem U_wd {c2 s2 : Nat} (h1 : cells ≤ c2) (h2 : slots ≤ s2) (kk : iw_U l D X B A Q c2 s2 pc lv st ws) : iw_U l D X B A Q cells slots pc lv st ws := fun H locs ls hP hD hS hl => W.widen h1 h2 (kk H locs ls hP hD hS hl)
end IWU
