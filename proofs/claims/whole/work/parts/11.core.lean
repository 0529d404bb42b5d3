/-! THE CORE: a memory of numbers over a fixed shape of cells; the judgement iw_V: from this frame the method comes to what the function says -/
abbrev iw_M : Type := (Nat → Nat → Int32) × (Nat → Nat → Int64)
def iw_wI (z : iw_M) (k j : Nat) (v : Int32) : iw_M := (fun a => if a = k then upd (z.1 k) j v else z.1 a, z.2)
def iw_wL (z : iw_M) (k j : Nat) (v : Int64) : iw_M := (z.1, fun a => if a = k then vp_updL (z.2 k) j v else z.2 a)
abbrev iw_S : Type := Nat → (Nat × List (Option Nat)) ⊕ (FieldType × Nat)
abbrev iw_W : Type := iw_S × Nat
abbrev iw_G : Type := Launch × va_G × (FieldType → ClassId) × (Nat → Nat)
abbrev iw_ad (G : iw_G) : Nat → Nat := G.2.2.2
def iw_eF (ad : Nat → Nat) (f : Nat → Int32) : Nat → List (Option Nat) → List Value
  | _, [] => []
  | j, none :: r => .int (f j) :: iw_eF ad f (j + 1) r
  | j, some q :: r => .ref (ad q) :: iw_eF ad f (j + 1) r
def iw_eV (G : iw_G) (w : iw_W) (z : iw_M) (k : Nat) : va_E := match w.1 k with
  | .inl q => .inr (q.1, iw_eF (iw_ad G) (z.1 k) 0 q.2)
  | .inr q => if q.1 = .long then .inl (G.2.2.1 .long, q.2, .inr (.inl (z.2 k))) else .inl (G.2.2.1 q.1, q.2, .inl (z.1 k))
def iw_wld (G : iw_G) (w : iw_W) (z : iw_M) : va_W := (List.range w.2).map (fun k => (iw_ad G k, iw_eV G w z k))
theorem iw_eF_get (ad : Nat → Nat) (f : Nat → Int32) : ∀ (fl : List (Option Nat)) (j i : Nat), (iw_eF ad f j fl)[i]? = (fl[i]?).map (fun t => match t with | none => Value.int (f (j + i)) | some q => Value.ref (ad q))
  | [], j, i => by simp [iw_eF]
  | none :: r, j, i => by
    cases i with
    | zero => simp [iw_eF]
    | succ i => simp only [iw_eF, List.getElem?_cons_succ]; rw [iw_eF_get ad f r (j + 1) i]; simp only [Nat.add_assoc, Nat.add_comm 1 i]
  | some q :: r, j, i => by
    cases i with
    | zero => simp [iw_eF]
    | succ i => simp only [iw_eF, List.getElem?_cons_succ]; rw [iw_eF_get ad f r (j + 1) i]; simp only [Nat.add_assoc, Nat.add_comm 1 i]
theorem iw_eF_len (ad : Nat → Nat) (f : Nat → Int32) : ∀ (fl : List (Option Nat)) (j : Nat), (iw_eF ad f j fl).length = fl.length
  | [], j => rfl
  | none :: r, j => by simp only [iw_eF, List.length_cons]; rw [iw_eF_len ad f r (j + 1)]
  | some q :: r, j => by simp only [iw_eF, List.length_cons]; rw [iw_eF_len ad f r (j + 1)]
theorem iw_at {G : iw_G} {w : iw_W} {z : iw_M} {k : Nat} (h : k < w.2) : (iw_wld G w z)[k]? = some (iw_ad G k, iw_eV G w z k) := by
  simp [iw_wld, h]
theorem iw_set {G : iw_G} {w : iw_W} {z z' : iw_M} {k : Nat} (h : k < w.2) (hk : ∀ j, j ≠ k → iw_eV G w z' j = iw_eV G w z j) : (iw_wld G w z).set k (iw_ad G k, iw_eV G w z' k) = iw_wld G w z' := by
  apply List.ext_getElem?
  intro i
  by_cases hi : i < w.2
  · by_cases e : k = i
    · subst e
      rw [iw_at hi, List.getElem?_set_self (by simp [iw_wld, h])]
    · rw [List.getElem?_set_ne e, iw_at hi, iw_at hi, hk i (fun q => e q.symm)]
  · simp [iw_wld, hi]
theorem iw_eF_wI {ad : Nat → Nat} {f : Nat → Int32} {v : Int32} : ∀ (fl : List (Option Nat)) (j i : Nat), fl[i]? = some none → (iw_eF ad f j fl).set i (.int v) = iw_eF ad (upd f (j + i) v) j fl
  | [], j, i, h => by simp at h
  | x :: r, j, 0, h => by
    simp at h
    subst h
    simp only [iw_eF, List.set_cons_zero]
    have e : ∀ (r : List (Option Nat)) (a : Nat), j < a → iw_eF ad f a r = iw_eF ad (upd f (j + 0) v) a r := by
      intro r
      induction r with
      | nil => intro a _; rfl
      | cons t r ih =>
        intro a ha
        cases t with
        | none => simp only [iw_eF]; rw [ih (a + 1) (by omega)]; rw [show upd f (j + 0) v a = f a from if_neg (by omega)]
        | some q => simp only [iw_eF]; rw [ih (a + 1) (by omega)]
    rw [e r (j + 1) (by omega)]
    rw [show upd f (j + 0) v j = v from if_pos (by omega)]
  | none :: r, j, i + 1, h => by
    simp only [iw_eF, List.set_cons_succ]
    rw [iw_eF_wI r (j + 1) i (by simpa using h)]
    rw [show j + 1 + i = j + (i + 1) by omega]
    rw [show upd f (j + (i + 1)) v j = f j from if_neg (by omega)]
  | some q :: r, j, i + 1, h => by
    simp only [iw_eF, List.set_cons_succ]
    rw [iw_eF_wI r (j + 1) i (by simpa using h)]
    rw [show j + 1 + i = j + (i + 1) by omega]
theorem iw_ne_I {G : iw_G} {w : iw_W} {z : iw_M} {k i : Nat} {v : Int32} (j : Nat) (h : j ≠ k) : iw_eV G w (iw_wI z k i v) j = iw_eV G w z j := by
  simp only [iw_eV, iw_wI, if_neg h]
theorem iw_ne_L {G : iw_G} {w : iw_W} {z : iw_M} {k i : Nat} {v : Int64} (j : Nat) (h : j ≠ k) : iw_eV G w (iw_wL z k i v) j = iw_eV G w z j := by
  simp only [iw_eV, iw_wL, if_neg h]
theorem iw_inl {G : iw_G} {w : iw_W} {z : iw_M} {k : Nat} {q : Nat × List (Option Nat)} (h : w.1 k = .inl q) : iw_eV G w z k = .inr (q.1, iw_eF (iw_ad G) (z.1 k) 0 q.2) := by
  simp only [iw_eV, h]
theorem iw_inrI {G : iw_G} {w : iw_W} {z : iw_M} {k n : Nat} {ty : FieldType} (h : w.1 k = .inr (ty, n)) (ht : ty ≠ .long) : iw_eV G w z k = .inl (G.2.2.1 ty, n, .inl (z.1 k)) := by
  simp only [iw_eV, h, if_neg ht]
theorem iw_inrL {G : iw_G} {w : iw_W} {z : iw_M} {k n : Nat} (h : w.1 k = .inr (.long, n)) : iw_eV G w z k = .inl (G.2.2.1 .long, n, .inr (.inl (z.2 k))) := by
  simp only [iw_eV, h]; rfl
/-- the cells of a world -/
def iw_A (G : iw_G) (w : iw_W) : Nat → Prop := fun q => ∃ k, k < w.2 ∧ q = iw_ad G k
def iw_inj (G : iw_G) (w : iw_W) : Prop := ∀ i j, i < w.2 → j < w.2 → iw_ad G i = iw_ad G j → i = j
theorem iw_D {G : iw_G} {w : iw_W} (hi : iw_inj G w) (z : iw_M) : va_D (iw_A G w) (iw_wld G w z) := by
  have key : ∀ (k : Nat) (q : Nat × va_E), (iw_wld G w z)[k]? = some q → k < w.2 ∧ q.1 = iw_ad G k := by
    intro k q h
    by_cases hk : k < w.2
    · rw [iw_at hk] at h; cases h; exact ⟨hk, rfl⟩
    · simp [iw_wld, hk] at h
  refine ⟨fun i j p q h1 h2 h3 => ?_, fun k q h => ?_⟩
  · obtain ⟨a1, a2⟩ := key i p h1
    obtain ⟨b1, b2⟩ := key j q h2
    exact hi i j a1 b1 (by rw [← a2, ← b2, h3])
  · obtain ⟨a1, a2⟩ := key k q h
    exact ⟨k, a1, a2⟩
def iw_lo : Nat → Int32 | 0 => 1 | _ => 0
def iw_hi : Nat → Int32 | 0 => 40 | 1 => 1000 | 2 => 100 | _ => 99
/-- the two static rows -/
def iw_Z (A : Nat → Prop) (U : State) (H : Heap) : Prop := ∃ t1 t2 : Nat, (va_Z "IdeaWorks" "LEAST_SETTING" "[I" (.ref t1) A U H ∧ va_T .int t1 4 (fun j => .int (iw_lo j)) A U H) ∧ va_Z "IdeaWorks" "GREATEST_SETTING" "[I" (.ref t2) A U H ∧ va_T .int t2 4 (fun j => .int (iw_hi j)) A U H
theorem iw_Z.moved {A : Nat → Prop} {u U : State} {H : Heap} (hvm : u.vm.Alike U.vm) (h : iw_Z A u H) : iw_Z A U H := by
  obtain ⟨t1, t2, ⟨a, b⟩, c, d⟩ := h
  exact ⟨t1, t2, ⟨a.moved hvm, b.moved hvm⟩, c.moved hvm, d.moved hvm⟩
theorem iw_Z.kept {A : Nat → Prop} {U : State} {H H1 : Heap} (h : iw_Z A U H) (hq : ∀ a : Nat, a < H.size → ¬ A a → H1[a]? = H[a]?) : iw_Z A U H1 := by
  obtain ⟨t1, t2, ⟨a, b⟩, c, d⟩ := h
  exact ⟨t1, t2, ⟨a.kept hq, b.kept hq⟩, c.kept hq, d.kept hq⟩
/-- the two calls of a nest mate's private method -/
def iw_N (U : State) : Prop := va_Nw (.methodLinkNest RX2 36 yX8_has "IdeaWorks") U ∧ va_Nw (.methodLinkNest RX3 53 yX8_likeness "IdeaWorks") U
theorem iw_N.warm {s U : State} (hW : s.WarmedH U.vm) (h : iw_N s) : iw_N U := ⟨h.1.warmM hW, h.2.warmM hW⟩
theorem iw_N.same {s U : State} (e : s.vm = U.vm) (h : iw_N s) : iw_N U := ⟨va_Nw.same rfl e h.1, va_Nw.same rfl e h.2⟩
def iw_tys (G : iw_G) : List (ClassId × FieldType) := [(G.2.2.1 .int, .int), (G.2.2.1 .boolean, .boolean), (G.2.2.1 .long, .long)]
def iw_tbl : List Cond := lw_tbl.filter goodWord
theorem iw_in {w : Cond} (h : w ∈ lw_tbl) (g : goodWord w = true) : w ∈ iw_tbl := List.mem_filter.mpr ⟨h, g⟩
theorem iw_good {w : Cond} (h : w ∈ iw_tbl) : (w.onTables && w.keeps) = true ∨ ∃ ty, w = .arrayClass ty := good_of_word (List.mem_filter.mp h).2
theorem iw_GI {ws : List Cond} (h : ∀ w ∈ ws, w ∈ iw_tbl) : GoodIn iw_tbl ws := fun w hw => ⟨h w hw, iw_good (h w hw)⟩
/-- a state that a method begins in -/
def iw_Wd (G : iw_G) (w : iw_W) (z : iw_M) (U : State) : Prop := va_P G.2.1 vwCl (iw_wld G w z) U.heap ∧ va_K G.2.1 vwCl (iw_tys G) U ∧ iw_inj G w ∧ iw_Z (iw_A G w) U U.heap ∧ iw_N U
def iw_Q {r : Type} (G : iw_G) (w : iw_W) (em : r → Option Value) (v : r) (z : iw_M) : Array Value → State → Outcome → State → Prop := fun _ st oc t => (oc = .returned (em v) ∧ va_P G.2.1 vwCl (iw_wld G w z) t.heap) ∧ va_F (iw_A G w) st t
def iw_ei : Int32 → Option Value := fun v => some (.int v)
def iw_el : Int64 → Option Value := fun v => some (.long v)
def iw_ev : Unit → Option Value := fun _ => none
/-- a contract: where the function answers, the method returns that answer, and its memory -/
def iw_K {r : Type} (G : iw_G) (w : iw_W) (y : MethodName) (cc : ByteArray) (nL : Nat) (ret : Option FieldType) (fr lo : Nat) (em : r → Option Value) (av : List Value) (z : iw_M) (o : Option (r × iw_M)) : Prop :=
  ∀ (v : r) (z' : iw_M), o = some (v, z') → Met G.1 y (Cond.code y cc nL ret :: iw_tbl) { frames := fr, cells := 0, slots := 0, locals := lo } (va_Pc av (iw_Wd G w z)) (iw_Q G w em v z') 0 0 (iw_A G w)
abbrev iw_X : Type := Program × Env × State × MethodId × Array Value × List Frame × Method × Code
abbrev iw_B : Type := ByteArray × Nat × Room × String × Option FieldType
def iw_C (G : iw_G) (w : iw_W) (X : iw_X) (B : iw_B) : Prop :=
  X.1.tables.exec = Jvm.exec ∧ X.2.2.2.2.2.2.2.code = B.1 ∧ X.2.2.2.2.2.2.2.maxLocals = B.2.1 ∧ X.2.2.1.vm.findClass B.2.2.2.1 = some X.2.2.2.1.cls ∧ (∀ c ∈ iw_tbl, c.before X.2.2.2.2.1 X.2.2.1 = true) ∧ va_K G.2.1 vwCl (iw_tys G) X.2.2.1 ∧ iw_inj G w ∧ iw_Z (iw_A G w) X.2.2.1 X.2.2.1.heap ∧ iw_N X.2.2.1 ∧ X.2.2.2.2.2.2.1.locks = false ∧ X.2.2.2.2.2.2.1.sig.returnType = B.2.2.2.2
/-- the judgement -/
def iw_V {r : Type} (G : iw_G) (w : iw_W) (X : iw_X) (B : iw_B) (em : r → Option Value) (pc : Nat) (lv : List (Nat × Value)) (st : List Value) (z : iw_M) (o : Option (r × iw_M)) : Prop :=
  ∀ (v : r) (z' : iw_M), o = some (v, z') → ∀ (H : Heap) (locs : List Loc) (ls : Array Slot), va_P G.2.1 vwCl (iw_wld G w z) H → va_S (iw_A G w) X.2.2.1.heap H locs → lv_has ls B.2.1 lv →
    W X.1 G.1 X.2.1 B.2.2.1 X.2.2.1 X.2.2.2.1 X.2.2.2.2.1 X.2.2.2.2.2.1 X.2.2.2.2.2.2.1 X.2.2.2.2.2.2.2 H locs 0 0 (MQ X.2.2.2.2.2.1 (iw_Q G w em v z') X.2.2.2.2.1 X.2.2.1 0 0 (iw_A G w)) (F0 X.2.2.2.1 pc ls st)
theorem iw_of {r : Type} {G : iw_G} {w : iw_W} {y : MethodName} {cc : ByteArray} {nL : Nat} {ret : Option FieldType} {fr lo : Nat} {em : r → Option Value} {av : List Value} {z : iw_M} {o : Option (r × iw_M)} (lv : List (Nat × Value)) (hy : plainName y.cls = true) (hn : (lg_sl av).length ≤ nL) (hlv : lv_args 0 av = lv)
    (body : ∀ X : iw_X, iw_C G w X (cc, nL, { frames := fr, cells := 0, slots := 0, locals := lo }, y.cls, ret) → iw_V G w X (cc, nL, { frames := fr, cells := 0, slots := 0, locals := lo }, y.cls, ret) em 0 lv [] z o) : iw_K G w y cc nL ret fr lo em av z o := by
  intro v z' ho
  refine Met.ofW (cc := cc) (maxL := nL) (ret := ret) hy rfl ?_
  intro p e s m args below meth c s₁ B hml hv
  obtain ⟨rfl, hP, hK, hi, hZ, hN⟩ := hv
  have hts := atoms_spec (ws := Cond.code y cc nL ret :: iw_tbl) B.pre
  have hown : s.vm.findClass y.cls = some m.cls := findClass_of_methodNamed B.named
  have hl := lv_entry av (n := nL) hn
  rw [lg_entry_eq]
  rw [hlv] at hl
  exact body (p, e, s, m, av.toArray, below, meth, c) ⟨B.exec, B.bytes, hml, hown, fun c hc => hts c (List.mem_cons_of_mem _ hc), hK, hi, hZ, hN, B.notSynchronized, B.returns⟩ v z' ho s.heap [] _ hP va_S.rf hl
