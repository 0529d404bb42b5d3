section IWR
variable {r : Type} {G : iw_G} {w : iw_W} {X : iw_X} {B : iw_B} {em : r → Option Value} {pc : Nat} {lv : List (Nat × Value)} {st : List Value} {z : iw_M} {o o1 o2 : Option (r × iw_M)}
def iw_ok (i : Int32) (n : Nat) : Bool := !decide (i < 0) && decide (i.toNatClampNeg < n)
theorem iw_ok_in {i : Int32} {n : Nat} (h : iw_ok i n = true) : vp_in i n := by
  simp only [iw_ok, Bool.and_eq_true, Bool.not_eq_true', decide_eq_false_iff_not, decide_eq_true_eq] at h
  exact fun q => q.elim h.1 (fun q => by omega)
theorem iw_some {c : Prop} {inst : Decidable c} {q : r × iw_M} (h : @ite _ c inst o none = some q) : c ∧ o = some q := by
  by_cases hc : c
  · rw [if_pos hc] at h; exact ⟨hc, h⟩
  · rw [if_neg hc] at h; cases h
theorem iw_some2 {c : Prop} {inst : Decidable c} {q : r × iw_M} (h : @ite _ c inst none o = some q) : ¬ c ∧ o = some q := by
  by_cases hc : c
  · rw [if_pos hc] at h; cases h
  · rw [if_neg hc] at h; exact ⟨hc, h⟩
theorem V_none : iw_V G w X B em pc lv st z none := fun _ _ h => by cases h
theorem V_sub (lv' : List (Nat × Value)) (ks : List Nat) (hl : lv_pick lv ks = lv') (kk : iw_V G w X B em pc lv' st z o) : iw_V G w X B em pc lv st z o :=
  fun v z' ho H locs ls hP hS hh => kk v z' ho H locs ls hP hS (lv_sub hh ks hl)
theorem V_ic {n : Int} {x : Int32} (hC : iw_C G w X B) (hdg : decode B.1 pc = .ok (.iconst n, 1)) (hv : Int32.ofInt n = x) (kk : iw_V G w X B em (pc + 1) lv (.int x :: st) z o) : iw_V G w X B em pc lv st z o := by
  intro v z' ho H locs ls hP hS hl
  obtain ⟨hx, hb, hml, hown, hts, hK, hi, hZ, hN, hlk, hr⟩ := hC
  exact lv_iconst hx hb hdg hv (kk v z' ho H locs ls hP hS hl)
theorem V_bip {n : Int} {x : Int32} (hC : iw_C G w X B) (hdg : decode B.1 pc = .ok (.bipush n, 2)) (hv : (Int8.ofInt n).toInt32 = x) (kk : iw_V G w X B em (pc + 2) lv (.int x :: st) z o) : iw_V G w X B em pc lv st z o := by
  intro v z' ho H locs ls hP hS hl
  obtain ⟨hx, hb, hml, hown, hts, hK, hi, hZ, hN, hlk, hr⟩ := hC
  exact lv_bipush hx hb hdg hv (kk v z' ho H locs ls hP hS hl)
theorem V_sip {n : Int} {x : Int32} (hC : iw_C G w X B) (hdg : decode B.1 pc = .ok (.sipush n, 3)) (hv : (Int16.ofInt n).toInt32 = x) (kk : iw_V G w X B em (pc + 3) lv (.int x :: st) z o) : iw_V G w X B em pc lv st z o := by
  intro v z' ho H locs ls hP hS hl
  obtain ⟨hx, hb, hml, hown, hts, hK, hi, hZ, hN, hlk, hr⟩ := hC
  exact lv_sipush hx hb hdg hv (kk v z' ho H locs ls hP hS hl)
theorem V_lc {n : Fin 2} {x : Int64} (hC : iw_C G w X B) (hdg : decode B.1 pc = .ok (.lconst n, 1)) (hv : Int64.ofNat (n : Nat) = x) (kk : iw_V G w X B em (pc + 1) lv (.long x :: st) z o) : iw_V G w X B em pc lv st z o := by
  intro v z' ho H locs ls hP hS hl
  obtain ⟨hx, hb, hml, hown, hts, hK, hi, hZ, hN, hlk, hr⟩ := hC
  exact lv_lconst hx hb hdg hv (kk v z' ho H locs ls hP hS hl)
theorem V_ldc {n : Nat} {x : Int32} (hC : iw_C G w X B) (hdg : decode B.1 pc = .ok (.ldc n, 2)) (hc : Cond.constant B.2.2.2.1 n x ∈ iw_tbl) (kk : iw_V G w X B em (pc + 2) lv (.int x :: st) z o) : iw_V G w X B em pc lv st z o := by
  intro v z' ho H locs ls hP hS hl
  obtain ⟨hx, hb, hml, hown, hts, hK, hi, hZ, hN, hlk, hr⟩ := hC
  exact lv_ldc hx hb hown (hts _ hc) hdg (kk v z' ho H locs ls hP hS hl)
theorem V_ldcw {n : Nat} {x : Int32} (hC : iw_C G w X B) (hdg : decode B.1 pc = .ok (.ldc_w n, 3)) (hc : Cond.constant B.2.2.2.1 n x ∈ iw_tbl) (kk : iw_V G w X B em (pc + 3) lv (.int x :: st) z o) : iw_V G w X B em pc lv st z o := by
  intro v z' ho H locs ls hP hS hl
  obtain ⟨hx, hb, hml, hown, hts, hK, hi, hZ, hN, hlk, hr⟩ := hC
  exact lv_ldcw hx hb hown (hts _ hc) hdg (kk v z' ho H locs ls hP hS hl)
theorem V_ldc2 {n : Nat} {x : Int64} (hC : iw_C G w X B) (hdg : decode B.1 pc = .ok (.ldc2_w n, 3)) (hc : Cond.constantLong B.2.2.2.1 n x ∈ iw_tbl) (kk : iw_V G w X B em (pc + 3) lv (.long x :: st) z o) : iw_V G w X B em pc lv st z o := by
  intro v z' ho H locs ls hP hS hl
  obtain ⟨hx, hb, hml, hown, hts, hK, hi, hZ, hN, hlk, hr⟩ := hC
  exact lv_ldc2 hx hb hown (hts _ hc) hdg (kk v z' ho H locs ls hP hS hl)
theorem V_iln {n : Fin 4} {x : Int32} (hC : iw_C G w X B) (hdg : decode B.1 pc = .ok (.iload_n n, 1)) (k : Nat) (hk : lv[k]? = some ((n : Nat), .int x)) (kk : iw_V G w X B em (pc + 1) lv (.int x :: st) z o) : iw_V G w X B em pc lv st z o := by
  intro v z' ho H locs ls hP hS hl
  obtain ⟨hx, hb, hml, hown, hts, hK, hi, hZ, hN, hlk, hr⟩ := hC
  exact lv_iload_n hx hb hdg rfl (lv_at hl k hk) (kk v z' ho H locs ls hP hS hl)
theorem V_il {n : Nat} {x : Int32} (hC : iw_C G w X B) (hdg : decode B.1 pc = .ok (.iload n, 2)) (k : Nat) (hk : lv[k]? = some (n, .int x)) (kk : iw_V G w X B em (pc + 2) lv (.int x :: st) z o) : iw_V G w X B em pc lv st z o := by
  intro v z' ho H locs ls hP hS hl
  obtain ⟨hx, hb, hml, hown, hts, hK, hi, hZ, hN, hlk, hr⟩ := hC
  exact lv_iload hx hb hdg (lv_at hl k hk) (kk v z' ho H locs ls hP hS hl)
theorem V_lln {n : Fin 4} {x : Int64} (hC : iw_C G w X B) (hdg : decode B.1 pc = .ok (.lload_n n, 1)) (k : Nat) (hk : lv[k]? = some ((n : Nat), .long x)) (kk : iw_V G w X B em (pc + 1) lv (.long x :: st) z o) : iw_V G w X B em pc lv st z o := by
  intro v z' ho H locs ls hP hS hl
  obtain ⟨hx, hb, hml, hown, hts, hK, hi, hZ, hN, hlk, hr⟩ := hC
  exact lv_lload_n hx hb hdg rfl (lv_at hl k hk) (kk v z' ho H locs ls hP hS hl)
theorem V_ll {n : Nat} {x : Int64} (hC : iw_C G w X B) (hdg : decode B.1 pc = .ok (.lload n, 2)) (k : Nat) (hk : lv[k]? = some (n, .long x)) (kk : iw_V G w X B em (pc + 2) lv (.long x :: st) z o) : iw_V G w X B em pc lv st z o := by
  intro v z' ho H locs ls hP hS hl
  obtain ⟨hx, hb, hml, hown, hts, hK, hi, hZ, hN, hlk, hr⟩ := hC
  exact lv_lload hx hb hdg (lv_at hl k hk) (kk v z' ho H locs ls hP hS hl)
theorem V_aln {n : Fin 4} {x : Nat} (hC : iw_C G w X B) (hdg : decode B.1 pc = .ok (.aload_n n, 1)) (k : Nat) (hk : lv[k]? = some ((n : Nat), .ref x)) (kk : iw_V G w X B em (pc + 1) lv (.ref x :: st) z o) : iw_V G w X B em pc lv st z o := by
  intro v z' ho H locs ls hP hS hl
  obtain ⟨hx, hb, hml, hown, hts, hK, hi, hZ, hN, hlk, hr⟩ := hC
  exact lv_aload_n hx hb hdg rfl (lv_at hl k hk) (kk v z' ho H locs ls hP hS hl)
theorem V_al {n : Nat} {x : Nat} (hC : iw_C G w X B) (hdg : decode B.1 pc = .ok (.aload n, 2)) (k : Nat) (hk : lv[k]? = some (n, .ref x)) (kk : iw_V G w X B em (pc + 2) lv (.ref x :: st) z o) : iw_V G w X B em pc lv st z o := by
  intro v z' ho H locs ls hP hS hl
  obtain ⟨hx, hb, hml, hown, hts, hK, hi, hZ, hN, hlk, hr⟩ := hC
  exact lv_aload hx hb hdg (lv_at hl k hk) (kk v z' ho H locs ls hP hS hl)
theorem V_isn {n : Fin 4} {x : Int32} (lv' : List (Nat × Value)) (hC : iw_C G w X B) (hdg : decode B.1 pc = .ok (.istore_n n, 1)) (hn : (n : Nat) < B.2.1) (hl' : ((n : Nat), Value.int x) :: lv.filter (fun q => !(q.1 == (n : Nat)) && !(q.1 + 1 == (n : Nat) && q.2.category == 2)) = lv') (kk : iw_V G w X B em (pc + 1) lv' st z o) : iw_V G w X B em pc lv (.int x :: st) z o := by
  intro v z' ho H locs ls hP hS hl
  obtain ⟨hx, hb, hml, hown, hts, hK, hi, hZ, hN, hlk, hr⟩ := hC
  exact lv_istore_n hx hb hdg rfl hl hn hl' (fun ls hl => (kk v z' ho H locs ls hP hS hl))
theorem V_is {n : Nat} {x : Int32} (lv' : List (Nat × Value)) (hC : iw_C G w X B) (hdg : decode B.1 pc = .ok (.istore n, 2)) (hn : n < B.2.1) (hl' : (n, Value.int x) :: lv.filter (fun q => !(q.1 == n) && !(q.1 + 1 == n && q.2.category == 2)) = lv') (kk : iw_V G w X B em (pc + 2) lv' st z o) : iw_V G w X B em pc lv (.int x :: st) z o := by
  intro v z' ho H locs ls hP hS hl
  obtain ⟨hx, hb, hml, hown, hts, hK, hi, hZ, hN, hlk, hr⟩ := hC
  exact lv_istore hx hb hdg hl hn hl' (fun ls hl => (kk v z' ho H locs ls hP hS hl))
theorem V_lsn {n : Fin 4} {x : Int64} (lv' : List (Nat × Value)) (hC : iw_C G w X B) (hdg : decode B.1 pc = .ok (.lstore_n n, 1)) (hn : (n : Nat) + 1 < B.2.1) (hl' : ((n : Nat), Value.long x) :: lv.filter (fun q => !(q.1 == (n : Nat)) && (!(q.1 == (n : Nat) + 1) && !(q.1 + 1 == (n : Nat) && q.2.category == 2))) = lv') (kk : iw_V G w X B em (pc + 1) lv' st z o) : iw_V G w X B em pc lv (.long x :: st) z o := by
  intro v z' ho H locs ls hP hS hl
  obtain ⟨hx, hb, hml, hown, hts, hK, hi, hZ, hN, hlk, hr⟩ := hC
  exact lv_lstore_n hx hb hdg rfl hl hn hl' (fun ls hl => (kk v z' ho H locs ls hP hS hl))
theorem V_ls {n : Nat} {x : Int64} (lv' : List (Nat × Value)) (hC : iw_C G w X B) (hdg : decode B.1 pc = .ok (.lstore n, 2)) (hn : n + 1 < B.2.1) (hl' : (n, Value.long x) :: lv.filter (fun q => !(q.1 == n) && (!(q.1 == n + 1) && !(q.1 + 1 == n && q.2.category == 2))) = lv') (kk : iw_V G w X B em (pc + 2) lv' st z o) : iw_V G w X B em pc lv (.long x :: st) z o := by
  intro v z' ho H locs ls hP hS hl
  obtain ⟨hx, hb, hml, hown, hts, hK, hi, hZ, hN, hlk, hr⟩ := hC
  exact lv_lstore hx hb hdg hl hn hl' (fun ls hl => (kk v z' ho H locs ls hP hS hl))
theorem V_asn {n : Fin 4} {x : Nat} (lv' : List (Nat × Value)) (hC : iw_C G w X B) (hdg : decode B.1 pc = .ok (.astore_n n, 1)) (hn : (n : Nat) < B.2.1) (hl' : ((n : Nat), Value.ref x) :: lv.filter (fun q => !(q.1 == (n : Nat)) && !(q.1 + 1 == (n : Nat) && q.2.category == 2)) = lv') (kk : iw_V G w X B em (pc + 1) lv' st z o) : iw_V G w X B em pc lv (.ref x :: st) z o := by
  intro v z' ho H locs ls hP hS hl
  obtain ⟨hx, hb, hml, hown, hts, hK, hi, hZ, hN, hlk, hr⟩ := hC
  exact lv_astore_n hx hb hdg rfl hl hn hl' (fun ls hl => (kk v z' ho H locs ls hP hS hl))
theorem V_as {n : Nat} {x : Nat} (lv' : List (Nat × Value)) (hC : iw_C G w X B) (hdg : decode B.1 pc = .ok (.astore n, 2)) (hn : n < B.2.1) (hl' : (n, Value.ref x) :: lv.filter (fun q => !(q.1 == n) && !(q.1 + 1 == n && q.2.category == 2)) = lv') (kk : iw_V G w X B em (pc + 2) lv' st z o) : iw_V G w X B em pc lv (.ref x :: st) z o := by
  intro v z' ho H locs ls hP hS hl
  obtain ⟨hx, hb, hml, hown, hts, hK, hi, hZ, hN, hlk, hr⟩ := hC
  exact lv_astore hx hb hdg hl hn hl' (fun ls hl => (kk v z' ho H locs ls hP hS hl))
theorem V_inc {i k : Nat} {n : Int} {x y : Int32} (lv' : List (Nat × Value)) (hC : iw_C G w X B) (hdg : decode B.1 pc = .ok (.iinc i n, 3)) (hk : lv[k]? = some (i, .int x)) (hy : Int32.ofInt n = y) (hn : i < B.2.1) (hl' : (i, Value.int (x + y)) :: lv.filter (fun q => !(q.1 == i) && !(q.1 + 1 == i && q.2.category == 2)) = lv') (kk : iw_V G w X B em (pc + 3) lv' st z o) : iw_V G w X B em pc lv st z o := by
  intro v z' ho H locs ls hP hS hl
  obtain ⟨hx, hb, hml, hown, hts, hK, hi, hZ, hN, hlk, hr⟩ := hC
  exact lv_iinc hx hb hdg hl hk (by rw [hy]) hn hl' (fun ls hl => (kk v z' ho H locs ls hP hS hl))
theorem V_iadd {x y : Int32} (hC : iw_C G w X B) (hdg : decode B.1 pc = .ok (.iadd, 1))  (kk : iw_V G w X B em (pc + 1) lv (.int (x + y) :: st) z o) : iw_V G w X B em pc lv (.int y :: .int x :: st) z o := by
  intro v z' ho H locs ls hP hS hl
  obtain ⟨hx, hb, hml, hown, hts, hK, hi, hZ, hN, hlk, hr⟩ := hC
  exact lv_iadd hx hb hdg (kk v z' ho H locs ls hP hS hl)
theorem V_isub {x y : Int32} (hC : iw_C G w X B) (hdg : decode B.1 pc = .ok (.isub, 1))  (kk : iw_V G w X B em (pc + 1) lv (.int (x - y) :: st) z o) : iw_V G w X B em pc lv (.int y :: .int x :: st) z o := by
  intro v z' ho H locs ls hP hS hl
  obtain ⟨hx, hb, hml, hown, hts, hK, hi, hZ, hN, hlk, hr⟩ := hC
  exact lv_isub hx hb hdg (kk v z' ho H locs ls hP hS hl)
theorem V_imul {x y : Int32} (hC : iw_C G w X B) (hdg : decode B.1 pc = .ok (.imul, 1))  (kk : iw_V G w X B em (pc + 1) lv (.int (x * y) :: st) z o) : iw_V G w X B em pc lv (.int y :: .int x :: st) z o := by
  intro v z' ho H locs ls hP hS hl
  obtain ⟨hx, hb, hml, hown, hts, hK, hi, hZ, hN, hlk, hr⟩ := hC
  exact lv_imul hx hb hdg (kk v z' ho H locs ls hP hS hl)
theorem V_iand {x y : Int32} (hC : iw_C G w X B) (hdg : decode B.1 pc = .ok (.iand, 1))  (kk : iw_V G w X B em (pc + 1) lv (.int (x &&& y) :: st) z o) : iw_V G w X B em pc lv (.int y :: .int x :: st) z o := by
  intro v z' ho H locs ls hP hS hl
  obtain ⟨hx, hb, hml, hown, hts, hK, hi, hZ, hN, hlk, hr⟩ := hC
  exact lv_iand hx hb hdg (kk v z' ho H locs ls hP hS hl)
theorem V_ior {x y : Int32} (hC : iw_C G w X B) (hdg : decode B.1 pc = .ok (.ior, 1))  (kk : iw_V G w X B em (pc + 1) lv (.int (x ||| y) :: st) z o) : iw_V G w X B em pc lv (.int y :: .int x :: st) z o := by
  intro v z' ho H locs ls hP hS hl
  obtain ⟨hx, hb, hml, hown, hts, hK, hi, hZ, hN, hlk, hr⟩ := hC
  exact lv_ior hx hb hdg (kk v z' ho H locs ls hP hS hl)
theorem V_ixor {x y : Int32} (hC : iw_C G w X B) (hdg : decode B.1 pc = .ok (.ixor, 1))  (kk : iw_V G w X B em (pc + 1) lv (.int (x ^^^ y) :: st) z o) : iw_V G w X B em pc lv (.int y :: .int x :: st) z o := by
  intro v z' ho H locs ls hP hS hl
  obtain ⟨hx, hb, hml, hown, hts, hK, hi, hZ, hN, hlk, hr⟩ := hC
  exact lv_ixor hx hb hdg (kk v z' ho H locs ls hP hS hl)
theorem V_ishr {x y : Int32} (hC : iw_C G w X B) (hdg : decode B.1 pc = .ok (.ishr, 1))  (kk : iw_V G w X B em (pc + 1) lv (.int (x >>> (y &&& 31)) :: st) z o) : iw_V G w X B em pc lv (.int y :: .int x :: st) z o := by
  intro v z' ho H locs ls hP hS hl
  obtain ⟨hx, hb, hml, hown, hts, hK, hi, hZ, hN, hlk, hr⟩ := hC
  exact lv_ishr hx hb hdg (kk v z' ho H locs ls hP hS hl)
theorem V_iushr {x y : Int32} (hC : iw_C G w X B) (hdg : decode B.1 pc = .ok (.iushr, 1))  (kk : iw_V G w X B em (pc + 1) lv (.int ((x.toUInt32 >>> (y.toUInt32 &&& Int32.toUInt32 31)).toInt32) :: st) z o) : iw_V G w X B em pc lv (.int y :: .int x :: st) z o := by
  intro v z' ho H locs ls hP hS hl
  obtain ⟨hx, hb, hml, hown, hts, hK, hi, hZ, hN, hlk, hr⟩ := hC
  exact lv_iushr hx hb hdg rfl (kk v z' ho H locs ls hP hS hl)
theorem V_ineg {x : Int32} (hC : iw_C G w X B) (hdg : decode B.1 pc = .ok (.ineg, 1))  (kk : iw_V G w X B em (pc + 1) lv (.int (-x) :: st) z o) : iw_V G w X B em pc lv (.int x :: st) z o := by
  intro v z' ho H locs ls hP hS hl
  obtain ⟨hx, hb, hml, hown, hts, hK, hi, hZ, hN, hlk, hr⟩ := hC
  exact lv_ineg hx hb hdg (kk v z' ho H locs ls hP hS hl)
theorem V_ladd {x y : Int64} (hC : iw_C G w X B) (hdg : decode B.1 pc = .ok (.ladd, 1))  (kk : iw_V G w X B em (pc + 1) lv (.long (x + y) :: st) z o) : iw_V G w X B em pc lv (.long y :: .long x :: st) z o := by
  intro v z' ho H locs ls hP hS hl
  obtain ⟨hx, hb, hml, hown, hts, hK, hi, hZ, hN, hlk, hr⟩ := hC
  exact lv_ladd hx hb hdg (kk v z' ho H locs ls hP hS hl)
theorem V_lsub {x y : Int64} (hC : iw_C G w X B) (hdg : decode B.1 pc = .ok (.lsub, 1))  (kk : iw_V G w X B em (pc + 1) lv (.long (x - y) :: st) z o) : iw_V G w X B em pc lv (.long y :: .long x :: st) z o := by
  intro v z' ho H locs ls hP hS hl
  obtain ⟨hx, hb, hml, hown, hts, hK, hi, hZ, hN, hlk, hr⟩ := hC
  exact lv_lsub hx hb hdg (kk v z' ho H locs ls hP hS hl)
theorem V_land {x y : Int64} (hC : iw_C G w X B) (hdg : decode B.1 pc = .ok (.land, 1))  (kk : iw_V G w X B em (pc + 1) lv (.long (x &&& y) :: st) z o) : iw_V G w X B em pc lv (.long y :: .long x :: st) z o := by
  intro v z' ho H locs ls hP hS hl
  obtain ⟨hx, hb, hml, hown, hts, hK, hi, hZ, hN, hlk, hr⟩ := hC
  exact lv_land hx hb hdg (kk v z' ho H locs ls hP hS hl)
theorem V_lor {x y : Int64} (hC : iw_C G w X B) (hdg : decode B.1 pc = .ok (.lor, 1))  (kk : iw_V G w X B em (pc + 1) lv (.long (x ||| y) :: st) z o) : iw_V G w X B em pc lv (.long y :: .long x :: st) z o := by
  intro v z' ho H locs ls hP hS hl
  obtain ⟨hx, hb, hml, hown, hts, hK, hi, hZ, hN, hlk, hr⟩ := hC
  exact lv_lor hx hb hdg (kk v z' ho H locs ls hP hS hl)
theorem V_lxor {x y : Int64} (hC : iw_C G w X B) (hdg : decode B.1 pc = .ok (.lxor, 1))  (kk : iw_V G w X B em (pc + 1) lv (.long (x ^^^ y) :: st) z o) : iw_V G w X B em pc lv (.long y :: .long x :: st) z o := by
  intro v z' ho H locs ls hP hS hl
  obtain ⟨hx, hb, hml, hown, hts, hK, hi, hZ, hN, hlk, hr⟩ := hC
  exact lv_lxor hx hb hdg (kk v z' ho H locs ls hP hS hl)
theorem V_lushr {x : Int64} {y : Int32} (hC : iw_C G w X B) (hdg : decode B.1 pc = .ok (.lushr, 1))  (kk : iw_V G w X B em (pc + 1) lv (.long ((x.toUInt64 >>> (y.toInt64.toUInt64 &&& Int64.toUInt64 63)).toInt64) :: st) z o) : iw_V G w X B em pc lv (.int y :: .long x :: st) z o := by
  intro v z' ho H locs ls hP hS hl
  obtain ⟨hx, hb, hml, hown, hts, hK, hi, hZ, hN, hlk, hr⟩ := hC
  exact lv_lushr hx hb hdg rfl (kk v z' ho H locs ls hP hS hl)
theorem V_lshl {x : Int64} {y : Int32} (hC : iw_C G w X B) (hdg : decode B.1 pc = .ok (.lshl, 1))  (kk : iw_V G w X B em (pc + 1) lv (.long (x <<< (y.toInt64 &&& 63)) :: st) z o) : iw_V G w X B em pc lv (.int y :: .long x :: st) z o := by
  intro v z' ho H locs ls hP hS hl
  obtain ⟨hx, hb, hml, hown, hts, hK, hi, hZ, hN, hlk, hr⟩ := hC
  exact lv_lshl hx hb hdg rfl (kk v z' ho H locs ls hP hS hl)
theorem V_lcmp {x y : Int64} (hC : iw_C G w X B) (hdg : decode B.1 pc = .ok (.lcmp, 1))  (kk : iw_V G w X B em (pc + 1) lv (.int (lg_cmp x y) :: st) z o) : iw_V G w X B em pc lv (.long y :: .long x :: st) z o := by
  intro v z' ho H locs ls hP hS hl
  obtain ⟨hx, hb, hml, hown, hts, hK, hi, hZ, hN, hlk, hr⟩ := hC
  exact W.lcmp hx hb hdg (kk v z' ho H locs ls hP hS hl)
theorem V_l2i {x : Int64} (hC : iw_C G w X B) (hdg : decode B.1 pc = .ok (.l2i, 1))  (kk : iw_V G w X B em (pc + 1) lv (.int x.toInt32 :: st) z o) : iw_V G w X B em pc lv (.long x :: st) z o := by
  intro v z' ho H locs ls hP hS hl
  obtain ⟨hx, hb, hml, hown, hts, hK, hi, hZ, hN, hlk, hr⟩ := hC
  exact lv_l2i hx hb hdg rfl (kk v z' ho H locs ls hP hS hl)
theorem V_idiv {x y : Int32} {inst : Decidable (y = 0)} (hC : iw_C G w X B) (hdg : decode B.1 pc = .ok (.idiv, 1))  (kk : iw_V G w X B em (pc + 1) lv (.int (x / y) :: st) z o) : iw_V G w X B em pc lv (.int y :: .int x :: st) z (@ite _ (y = 0) inst none o) := by
  intro v z' ho H locs ls hP hS hl
  obtain ⟨hx, hb, hml, hown, hts, hK, hi, hZ, hN, hlk, hr⟩ := hC
  have ho := iw_some2 ho
  exact lv_idiv hx hb hdg ho.1 (kk v z' ho.2 H locs ls hP hS hl)
theorem V_irem {x y : Int32} {inst : Decidable (y = 0)} (hC : iw_C G w X B) (hdg : decode B.1 pc = .ok (.irem, 1))  (kk : iw_V G w X B em (pc + 1) lv (.int (x - x / y * y) :: st) z o) : iw_V G w X B em pc lv (.int y :: .int x :: st) z (@ite _ (y = 0) inst none o) := by
  intro v z' ho H locs ls hP hS hl
  obtain ⟨hx, hb, hml, hown, hts, hK, hi, hZ, hN, hlk, hr⟩ := hC
  have ho := iw_some2 ho
  exact lv_irem hx hb hdg ho.1 (kk v z' ho.2 H locs ls hP hS hl)
theorem V_dup {a : Value} (hC : iw_C G w X B) (hdg : decode B.1 pc = .ok (.dup, 1)) (ha : a.category = 1) (kk : iw_V G w X B em (pc + 1) lv (a :: a :: st) z o) : iw_V G w X B em pc lv (a :: st) z o := by
  intro v z' ho H locs ls hP hS hl
  obtain ⟨hx, hb, hml, hown, hts, hK, hi, hZ, hN, hlk, hr⟩ := hC
  exact lv_dup hx hb hdg ha (kk v z' ho H locs ls hP hS hl)
theorem V_pop {a : Value} (hC : iw_C G w X B) (hdg : decode B.1 pc = .ok (.pop, 1)) (ha : a.category = 1) (kk : iw_V G w X B em (pc + 1) lv st z o) : iw_V G w X B em pc lv (a :: st) z o := by
  intro v z' ho H locs ls hP hS hl
  obtain ⟨hx, hb, hml, hown, hts, hK, hi, hZ, hN, hlk, hr⟩ := hC
  exact lv_pop hx hb hdg ha (kk v z' ho H locs ls hP hS hl)
theorem V_dupx1 {a b : Value} (hC : iw_C G w X B) (hdg : decode B.1 pc = .ok (.dup_x1, 1)) (ha : a.category = 1) (hb9 : b.category = 1) (kk : iw_V G w X B em (pc + 1) lv (a :: b :: a :: st) z o) : iw_V G w X B em pc lv (a :: b :: st) z o := by
  intro v z' ho H locs ls hP hS hl
  obtain ⟨hx, hb, hml, hown, hts, hK, hi, hZ, hN, hlk, hr⟩ := hC
  exact lv_dup_x1 hx hb hdg ha hb9 (kk v z' ho H locs ls hP hS hl)
theorem V_dupx2 {a b c : Value} (hC : iw_C G w X B) (hdg : decode B.1 pc = .ok (.dup_x2, 1)) (ha : a.category = 1) (hb9 : b.category = 1) (hc9 : c.category = 1) (kk : iw_V G w X B em (pc + 1) lv (a :: b :: c :: a :: st) z o) : iw_V G w X B em pc lv (a :: b :: c :: st) z o := by
  intro v z' ho H locs ls hP hS hl
  obtain ⟨hx, hb, hml, hown, hts, hK, hi, hZ, hN, hlk, hr⟩ := hC
  exact lv_dup_x2 hx hb hdg ha hb9 hc9 (kk v z' ho H locs ls hP hS hl)
theorem V_dup2 {a b : Value} (hC : iw_C G w X B) (hdg : decode B.1 pc = .ok (.dup2, 1)) (ha : a.category = 1) (hb9 : b.category = 1) (kk : iw_V G w X B em (pc + 1) lv (a :: b :: a :: b :: st) z o) : iw_V G w X B em pc lv (a :: b :: st) z o := by
  intro v z' ho H locs ls hP hS hl
  obtain ⟨hx, hb, hml, hown, hts, hK, hi, hZ, hN, hlk, hr⟩ := hC
  exact lv_dup2_11 hx hb hdg ha hb9 (kk v z' ho H locs ls hP hS hl)
theorem V_goto {off : Int} (tgt : Nat) (hC : iw_C G w X B) (hdg : decode B.1 pc = .ok (.goto off, 3)) (ht : (pc : Int) + off = (tgt : Int)) (kk : iw_V G w X B em tgt lv st z o) : iw_V G w X B em pc lv st z o := by
  intro v z' ho H locs ls hP hS hl
  obtain ⟨hx, hb, hml, hown, hts, hK, hi, hZ, hN, hlk, hr⟩ := hC
  exact lv_goto hx hb hdg ht (kk v z' ho H locs ls hP hS hl)
theorem V_ieq {x : Int32} {off : Int} {inst : Decidable (x = 0)} (tgt : Nat) (hC : iw_C G w X B) (hdg : decode B.1 pc = .ok (.ifCond .eq off, 3)) (ht : (pc : Int) + off = (tgt : Int)) (kt : iw_V G w X B em tgt lv st z o1) (kf : iw_V G w X B em (pc + 3) lv st z o2) : iw_V G w X B em pc lv (.int x :: st) z (@ite _ (x = 0) inst o1 o2) := by
  intro v z' ho H locs ls hP hS hl
  obtain ⟨hx, hb, hml, hown, hts, hK, hi, hZ, hN, hlk, hr⟩ := hC
  exact lv_if_eq hx hb hdg ht (fun c => kt v z' (by rw [if_pos c] at ho; exact ho) H locs ls hP hS hl) (fun c => kf v z' (by rw [if_neg c] at ho; exact ho) H locs ls hP hS hl)
theorem V_ceq {x y : Int32} {off : Int} {inst : Decidable (x = y)} (tgt : Nat) (hC : iw_C G w X B) (hdg : decode B.1 pc = .ok (.if_icmp .eq off, 3)) (ht : (pc : Int) + off = (tgt : Int)) (kt : iw_V G w X B em tgt lv st z o1) (kf : iw_V G w X B em (pc + 3) lv st z o2) : iw_V G w X B em pc lv (.int y :: .int x :: st) z (@ite _ (x = y) inst o1 o2) := by
  intro v z' ho H locs ls hP hS hl
  obtain ⟨hx, hb, hml, hown, hts, hK, hi, hZ, hN, hlk, hr⟩ := hC
  exact lv_icmp_eq hx hb hdg ht (fun c => kt v z' (by rw [if_pos c] at ho; exact ho) H locs ls hP hS hl) (fun c => kf v z' (by rw [if_neg c] at ho; exact ho) H locs ls hP hS hl)
theorem V_ine {x : Int32} {off : Int} {inst : Decidable (x = 0)} (tgt : Nat) (hC : iw_C G w X B) (hdg : decode B.1 pc = .ok (.ifCond .ne off, 3)) (ht : (pc : Int) + off = (tgt : Int)) (kt : iw_V G w X B em tgt lv st z o1) (kf : iw_V G w X B em (pc + 3) lv st z o2) : iw_V G w X B em pc lv (.int x :: st) z (@ite _ (x = 0) inst o2 o1) := by
  intro v z' ho H locs ls hP hS hl
  obtain ⟨hx, hb, hml, hown, hts, hK, hi, hZ, hN, hlk, hr⟩ := hC
  exact lv_if_ne hx hb hdg ht (fun c => kt v z' (by rw [if_neg c] at ho; exact ho) H locs ls hP hS hl) (fun c => kf v z' (by rw [if_pos c] at ho; exact ho) H locs ls hP hS hl)
theorem V_cne {x y : Int32} {off : Int} {inst : Decidable (x = y)} (tgt : Nat) (hC : iw_C G w X B) (hdg : decode B.1 pc = .ok (.if_icmp .ne off, 3)) (ht : (pc : Int) + off = (tgt : Int)) (kt : iw_V G w X B em tgt lv st z o1) (kf : iw_V G w X B em (pc + 3) lv st z o2) : iw_V G w X B em pc lv (.int y :: .int x :: st) z (@ite _ (x = y) inst o2 o1) := by
  intro v z' ho H locs ls hP hS hl
  obtain ⟨hx, hb, hml, hown, hts, hK, hi, hZ, hN, hlk, hr⟩ := hC
  exact lv_icmp_ne hx hb hdg ht (fun c => kt v z' (by rw [if_neg c] at ho; exact ho) H locs ls hP hS hl) (fun c => kf v z' (by rw [if_pos c] at ho; exact ho) H locs ls hP hS hl)
theorem V_ilt {x : Int32} {off : Int} {inst : Decidable (x < 0)} (tgt : Nat) (hC : iw_C G w X B) (hdg : decode B.1 pc = .ok (.ifCond .lt off, 3)) (ht : (pc : Int) + off = (tgt : Int)) (kt : iw_V G w X B em tgt lv st z o1) (kf : iw_V G w X B em (pc + 3) lv st z o2) : iw_V G w X B em pc lv (.int x :: st) z (@ite _ (x < 0) inst o1 o2) := by
  intro v z' ho H locs ls hP hS hl
  obtain ⟨hx, hb, hml, hown, hts, hK, hi, hZ, hN, hlk, hr⟩ := hC
  exact lv_if_lt hx hb hdg ht (fun c => kt v z' (by rw [if_pos c] at ho; exact ho) H locs ls hP hS hl) (fun c => kf v z' (by rw [if_neg c] at ho; exact ho) H locs ls hP hS hl)
theorem V_clt {x y : Int32} {off : Int} {inst : Decidable (x < y)} (tgt : Nat) (hC : iw_C G w X B) (hdg : decode B.1 pc = .ok (.if_icmp .lt off, 3)) (ht : (pc : Int) + off = (tgt : Int)) (kt : iw_V G w X B em tgt lv st z o1) (kf : iw_V G w X B em (pc + 3) lv st z o2) : iw_V G w X B em pc lv (.int y :: .int x :: st) z (@ite _ (x < y) inst o1 o2) := by
  intro v z' ho H locs ls hP hS hl
  obtain ⟨hx, hb, hml, hown, hts, hK, hi, hZ, hN, hlk, hr⟩ := hC
  exact lv_icmp_lt hx hb hdg ht (fun c => kt v z' (by rw [if_pos c] at ho; exact ho) H locs ls hP hS hl) (fun c => kf v z' (by rw [if_neg c] at ho; exact ho) H locs ls hP hS hl)
theorem V_ige {x : Int32} {off : Int} {inst : Decidable (0 ≤ x)} (tgt : Nat) (hC : iw_C G w X B) (hdg : decode B.1 pc = .ok (.ifCond .ge off, 3)) (ht : (pc : Int) + off = (tgt : Int)) (kt : iw_V G w X B em tgt lv st z o1) (kf : iw_V G w X B em (pc + 3) lv st z o2) : iw_V G w X B em pc lv (.int x :: st) z (@ite _ (0 ≤ x) inst o1 o2) := by
  intro v z' ho H locs ls hP hS hl
  obtain ⟨hx, hb, hml, hown, hts, hK, hi, hZ, hN, hlk, hr⟩ := hC
  exact lv_if_ge hx hb hdg ht (fun c => kt v z' (by rw [if_pos c] at ho; exact ho) H locs ls hP hS hl) (fun c => kf v z' (by rw [if_neg c] at ho; exact ho) H locs ls hP hS hl)
theorem V_cge {x y : Int32} {off : Int} {inst : Decidable (y ≤ x)} (tgt : Nat) (hC : iw_C G w X B) (hdg : decode B.1 pc = .ok (.if_icmp .ge off, 3)) (ht : (pc : Int) + off = (tgt : Int)) (kt : iw_V G w X B em tgt lv st z o1) (kf : iw_V G w X B em (pc + 3) lv st z o2) : iw_V G w X B em pc lv (.int y :: .int x :: st) z (@ite _ (y ≤ x) inst o1 o2) := by
  intro v z' ho H locs ls hP hS hl
  obtain ⟨hx, hb, hml, hown, hts, hK, hi, hZ, hN, hlk, hr⟩ := hC
  exact lv_icmp_ge hx hb hdg ht (fun c => kt v z' (by rw [if_pos c] at ho; exact ho) H locs ls hP hS hl) (fun c => kf v z' (by rw [if_neg c] at ho; exact ho) H locs ls hP hS hl)
theorem V_igt {x : Int32} {off : Int} {inst : Decidable (0 < x)} (tgt : Nat) (hC : iw_C G w X B) (hdg : decode B.1 pc = .ok (.ifCond .gt off, 3)) (ht : (pc : Int) + off = (tgt : Int)) (kt : iw_V G w X B em tgt lv st z o1) (kf : iw_V G w X B em (pc + 3) lv st z o2) : iw_V G w X B em pc lv (.int x :: st) z (@ite _ (0 < x) inst o1 o2) := by
  intro v z' ho H locs ls hP hS hl
  obtain ⟨hx, hb, hml, hown, hts, hK, hi, hZ, hN, hlk, hr⟩ := hC
  exact lv_if_gt hx hb hdg ht (fun c => kt v z' (by rw [if_pos c] at ho; exact ho) H locs ls hP hS hl) (fun c => kf v z' (by rw [if_neg c] at ho; exact ho) H locs ls hP hS hl)
theorem V_cgt {x y : Int32} {off : Int} {inst : Decidable (y < x)} (tgt : Nat) (hC : iw_C G w X B) (hdg : decode B.1 pc = .ok (.if_icmp .gt off, 3)) (ht : (pc : Int) + off = (tgt : Int)) (kt : iw_V G w X B em tgt lv st z o1) (kf : iw_V G w X B em (pc + 3) lv st z o2) : iw_V G w X B em pc lv (.int y :: .int x :: st) z (@ite _ (y < x) inst o1 o2) := by
  intro v z' ho H locs ls hP hS hl
  obtain ⟨hx, hb, hml, hown, hts, hK, hi, hZ, hN, hlk, hr⟩ := hC
  exact lv_icmp_gt hx hb hdg ht (fun c => kt v z' (by rw [if_pos c] at ho; exact ho) H locs ls hP hS hl) (fun c => kf v z' (by rw [if_neg c] at ho; exact ho) H locs ls hP hS hl)
theorem V_ile {x : Int32} {off : Int} {inst : Decidable (x ≤ 0)} (tgt : Nat) (hC : iw_C G w X B) (hdg : decode B.1 pc = .ok (.ifCond .le off, 3)) (ht : (pc : Int) + off = (tgt : Int)) (kt : iw_V G w X B em tgt lv st z o1) (kf : iw_V G w X B em (pc + 3) lv st z o2) : iw_V G w X B em pc lv (.int x :: st) z (@ite _ (x ≤ 0) inst o1 o2) := by
  intro v z' ho H locs ls hP hS hl
  obtain ⟨hx, hb, hml, hown, hts, hK, hi, hZ, hN, hlk, hr⟩ := hC
  exact lv_if_le hx hb hdg ht (fun c => kt v z' (by rw [if_pos c] at ho; exact ho) H locs ls hP hS hl) (fun c => kf v z' (by rw [if_neg c] at ho; exact ho) H locs ls hP hS hl)
theorem V_cle {x y : Int32} {off : Int} {inst : Decidable (x ≤ y)} (tgt : Nat) (hC : iw_C G w X B) (hdg : decode B.1 pc = .ok (.if_icmp .le off, 3)) (ht : (pc : Int) + off = (tgt : Int)) (kt : iw_V G w X B em tgt lv st z o1) (kf : iw_V G w X B em (pc + 3) lv st z o2) : iw_V G w X B em pc lv (.int y :: .int x :: st) z (@ite _ (x ≤ y) inst o1 o2) := by
  intro v z' ho H locs ls hP hS hl
  obtain ⟨hx, hb, hml, hown, hts, hK, hi, hZ, hN, hlk, hr⟩ := hC
  exact lv_icmp_le hx hb hdg ht (fun c => kt v z' (by rw [if_pos c] at ho; exact ho) H locs ls hP hS hl) (fun c => kf v z' (by rw [if_neg c] at ho; exact ho) H locs ls hP hS hl)
end IWR
section IWT
variable {G : iw_G} {w : iw_W} {X : iw_X} {B : iw_B} {pc : Nat} {lv : List (Nat × Value)} {z : iw_M}
theorem V_ir {x : Int32} (hC : iw_C G w X B) (hdg : decode B.1 pc = .ok (.ireturn, 1)) (hrt : B.2.2.2.2 = some .int) : iw_V G w X B iw_ei pc lv [.int x] z (some (x, z)) := by
  intro v z' ho H locs ls hP hS hl
  obtain ⟨hx, hb, hml, hown, hts, hK, hi, hZ, hN, hlk, hr⟩ := hC
  cases ho
  exact W.iret hx hb (hr.trans hrt) (fun t ht hW => ⟨⟨rfl, by rw [ht]; exact hP⟩, hS.F ht⟩) hS.2.2 hdg
theorem V_zr {x : Int32} (hC : iw_C G w X B) (hdg : decode B.1 pc = .ok (.ireturn, 1)) (hrt : B.2.2.2.2 = some .boolean) (hn : narrow .boolean (.int x) = .int x) : iw_V G w X B iw_ei pc lv [.int x] z (some (x, z)) := by
  intro v z' ho H locs ls hP hS hl
  obtain ⟨hx, hb, hml, hown, hts, hK, hi, hZ, hN, hlk, hr⟩ := hC
  cases ho
  exact W.zret hx hb (hr.trans hrt) hn (fun t ht hW => ⟨⟨rfl, by rw [ht]; exact hP⟩, hS.F ht⟩) hS.2.2 hdg
theorem V_lr {x : Int64} (hC : iw_C G w X B) (hdg : decode B.1 pc = .ok (.lreturn, 1)) (hrt : B.2.2.2.2 = some .long) : iw_V G w X B iw_el pc lv [.long x] z (some (x, z)) := by
  intro v z' ho H locs ls hP hS hl
  obtain ⟨hx, hb, hml, hown, hts, hK, hi, hZ, hN, hlk, hr⟩ := hC
  cases ho
  exact W.lret hx hb (hr.trans hrt) (fun t ht hW => ⟨⟨rfl, by rw [ht]; exact hP⟩, hS.F ht⟩) hS.2.2 hdg
theorem V_vr (hC : iw_C G w X B) (hdg : decode B.1 pc = .ok (.return_, 1)) (hrt : B.2.2.2.2 = none) : iw_V G w X B iw_ev pc lv [] z (some ((), z)) := by
  intro v z' ho H locs ls hP hS hl
  obtain ⟨hx, hb, hml, hown, hts, hK, hi, hZ, hN, hlk, hr⟩ := hC
  cases ho
  exact W.vret hx hb (hr.trans hrt) (fun t ht hW => ⟨⟨rfl, by rw [ht]; exact hP⟩, hS.F ht⟩) hS.2.2 hdg
end IWT
section IWF
variable {r : Type} {G : iw_G} {w : iw_W} {X : iw_X} {B : iw_B} {em : r → Option Value} {pc : Nat} {lv : List (Nat × Value)} {st : List Value} {z : iw_M} {o o1 o2 : Option (r × iw_M)}
/-- a field that an instruction names: class own's pool entry idx is the field j of class number ci -/
def iw_FL (own : String) (idx ci j : Nat) : Prop := ∃ (C : String) (T : u_T) (N : Nat), vwCl[ci]? = some (C, T, N) ∧ j < N ∧ Cond.fieldLink own idx (T j).1 (T j).2.1 (T j).2.2.1 ∈ iw_tbl ∧ ∀ c ∈ u_ws C T N, c ∈ iw_tbl
def iw_FP (own : String) (idx ci j : Nat) : Prop := ∃ (C : String) (T : u_T) (N : Nat) (ty : Nat → FieldType), vwCl[ci]? = some (C, T, N) ∧ j < N ∧ Cond.fieldLink own idx (T j).1 (T j).2.1 (T j).2.2.1 ∈ iw_tbl ∧ (∀ c ∈ u_ws C T N, c ∈ iw_tbl) ∧ (∀ k, k < N → parseFieldDescriptor (T k).2.2.1 = some (ty k)) ∧ (∀ a, a < N → ∀ b, b < N → a ≠ b → (T a).2.1 ≠ (T b).2.1) ∧ (T j).2.2.2 = false ∧ parseFieldDescriptor (T j).2.2.1 = some .int
theorem V_gi {k idx ci j : Nat} {fl : List (Option Nat)} (hC : iw_C G w X B) (hf : iw_FL B.2.2.2.1 idx ci j) (hk : k < w.2) (hs : w.1 k = .inl (ci, fl)) (hj : fl[j]? = some none) (hdg : decode B.1 pc = .ok (.getfield idx, 3)) (kk : iw_V G w X B em (pc + 3) lv (.int (z.1 k j) :: st) z o) : iw_V G w X B em pc lv (.ref (iw_ad G k) :: st) z o := by
  intro v z' ho H locs ls hP hS hl
  obtain ⟨hx, hb, hml, hown, hts, hK, hi, hZ, hN, hlk, hr⟩ := hC
  obtain ⟨C, T, N, h1, h2, h3, h4⟩ := hf
  exact va_get (D := G.2.1) (a := iw_ad G k) hx hb hts h4 hown hK hP k (by rw [iw_at hk, iw_inl hs]) h1 j h2 (hts _ h3) (fun _ h => h) (v := .int (z.1 k j)) (by rw [iw_eF_get, hj]; simp) hdg (kk v z' ho H locs ls hP hS hl)
theorem V_gr {k idx ci j q : Nat} {fl : List (Option Nat)} (hC : iw_C G w X B) (hf : iw_FL B.2.2.2.1 idx ci j) (hk : k < w.2) (hs : w.1 k = .inl (ci, fl)) (hj : fl[j]? = some (some q)) (hdg : decode B.1 pc = .ok (.getfield idx, 3)) (kk : iw_V G w X B em (pc + 3) lv (.ref (iw_ad G q) :: st) z o) : iw_V G w X B em pc lv (.ref (iw_ad G k) :: st) z o := by
  intro v z' ho H locs ls hP hS hl
  obtain ⟨hx, hb, hml, hown, hts, hK, hi, hZ, hN, hlk, hr⟩ := hC
  obtain ⟨C, T, N, h1, h2, h3, h4⟩ := hf
  exact va_get (D := G.2.1) (a := iw_ad G k) hx hb hts h4 hown hK hP k (by rw [iw_at hk, iw_inl hs]) h1 j h2 (hts _ h3) (fun _ h => h) (v := .ref (iw_ad G q)) (by rw [iw_eF_get, hj]; simp) hdg (kk v z' ho H locs ls hP hS hl)
theorem V_pi {k idx ci j : Nat} {fl : List (Option Nat)} {x : Int32} (hC : iw_C G w X B) (hf : iw_FP B.2.2.2.1 idx ci j) (hk : k < w.2) (hs : w.1 k = .inl (ci, fl)) (hj : fl[j]? = some none) (hdg : decode B.1 pc = .ok (.putfield idx, 3)) (kk : iw_V G w X B em (pc + 3) lv st (iw_wI z k j x) o) : iw_V G w X B em pc lv (.int x :: .ref (iw_ad G k) :: st) z o := by
  intro v z' ho H locs ls hP hS hl
  obtain ⟨hx, hb, hml, hown, hts, hK, hi, hZ, hN, hlk, hr⟩ := hC
  obtain ⟨C, T, N, ty, h1, h2, h3, h4, h5, h6, h7, h8⟩ := hf
  have hjl : j < fl.length := (List.getElem?_eq_some_iff.mp hj).1
  refine va_put (D := G.2.1) (a := iw_ad G k) (A := iw_A G w) (ty := .int) (v := .int x) hx hb hts h4 ty h5 h6 hown hK hP (iw_D hi z) hS k (by rw [iw_at hk, iw_inl hs]) h1 j h2 (hts _ h3) (fun _ h => h) h7 h8 rfl rfl (by rw [iw_eF_len]; exact hjl) hdg (fun H1 locs1 hP1 _ hS1 => ?_)
  refine kk v z' ho H1 locs1 ls ?_ hS1 hl
  rw [← iw_set hk (z := z) (fun j hj => iw_ne_I j hj), iw_inl hs]
  rw [show iw_eF (iw_ad G) ((iw_wI z k j x).1 k) 0 fl = (iw_eF (iw_ad G) (z.1 k) 0 fl).set j (.int x) by rw [iw_eF_wI fl 0 j hj]; simp [iw_wI]]
  exact hP1
theorem V_ia {k n : Nat} {i : Int32} {inst : Decidable (iw_ok i n = true)} (hC : iw_C G w X B) (hk : k < w.2) (hs : w.1 k = .inr (.int, n)) (hdg : decode B.1 pc = .ok (.iaload, 1)) (kk : iw_V G w X B em (pc + 1) lv (.int (z.1 k i.toNatClampNeg) :: st) z o) : iw_V G w X B em pc lv (.int i :: .ref (iw_ad G k) :: st) z (@ite _ (iw_ok i n = true) inst o none) := by
  intro v z' ho H locs ls hP hS hl
  obtain ⟨hx, hb, hml, hown, hts, hK, hi, hZ, hN, hlk, hr⟩ := hC
  have ho := iw_some ho
  exact va_iald (D := G.2.1) hx hb hK hP k 0 (cA := G.2.2.1 .int) (n := n) (f := z.1 k) (by rw [iw_at hk, iw_inrI hs (by decide)]) rfl (iw_ok_in ho.1) hdg (kk v z' ho.2 H locs ls hP hS hl)
theorem V_ba {k n : Nat} {i : Int32} {inst : Decidable (iw_ok i n = true)} (hC : iw_C G w X B) (hk : k < w.2) (hs : w.1 k = .inr (.boolean, n)) (hdg : decode B.1 pc = .ok (.baload, 1)) (kk : iw_V G w X B em (pc + 1) lv (.int (z.1 k i.toNatClampNeg) :: st) z o) : iw_V G w X B em pc lv (.int i :: .ref (iw_ad G k) :: st) z (@ite _ (iw_ok i n = true) inst o none) := by
  intro v z' ho H locs ls hP hS hl
  obtain ⟨hx, hb, hml, hown, hts, hK, hi, hZ, hN, hlk, hr⟩ := hC
  have ho := iw_some ho
  exact va_zald (D := G.2.1) hx hb hK hP k 1 (cA := G.2.2.1 .boolean) (n := n) (f := z.1 k) (by rw [iw_at hk, iw_inrI hs (by decide)]) rfl (iw_ok_in ho.1) hdg (kk v z' ho.2 H locs ls hP hS hl)
theorem V_la {k n : Nat} {i : Int32} {inst : Decidable (iw_ok i n = true)} (hC : iw_C G w X B) (hk : k < w.2) (hs : w.1 k = .inr (.long, n)) (hdg : decode B.1 pc = .ok (.laload, 1)) (kk : iw_V G w X B em (pc + 1) lv (.long (z.2 k i.toNatClampNeg) :: st) z o) : iw_V G w X B em pc lv (.int i :: .ref (iw_ad G k) :: st) z (@ite _ (iw_ok i n = true) inst o none) := by
  intro v z' ho H locs ls hP hS hl
  obtain ⟨hx, hb, hml, hown, hts, hK, hi, hZ, hN, hlk, hr⟩ := hC
  have ho := iw_some ho
  exact va_lald (D := G.2.1) hx hb hK hP k 2 (cA := G.2.2.1 .long) (n := n) (f := z.2 k) (by rw [iw_at hk, iw_inrL hs]) rfl (iw_ok_in ho.1) hdg (kk v z' ho.2 H locs ls hP hS hl)
theorem V_is_ {k n : Nat} {i x : Int32} {inst : Decidable (iw_ok i n = true)} (hC : iw_C G w X B) (hk : k < w.2) (hs : w.1 k = .inr (.int, n)) (hdg : decode B.1 pc = .ok (.iastore, 1)) (kk : iw_V G w X B em (pc + 1) lv st (iw_wI z k i.toNatClampNeg x) o) : iw_V G w X B em pc lv (.int x :: .int i :: .ref (iw_ad G k) :: st) z (@ite _ (iw_ok i n = true) inst o none) := by
  intro v z' ho H locs ls hP hS hl
  obtain ⟨hx, hb, hml, hown, hts, hK, hi, hZ, hN, hlk, hr⟩ := hC
  have ho := iw_some ho
  refine va_iast (D := G.2.1) (A := iw_A G w) hx hb hK hP (iw_D hi z) hS k 0 (cA := G.2.2.1 .int) (n := n) (f := z.1 k) (by rw [iw_at hk, iw_inrI hs (by decide)]) rfl (iw_ok_in ho.1) hdg (fun H1 locs1 hP1 _ hS1 => ?_)
  refine kk v z' ho.2 H1 locs1 ls ?_ hS1 hl
  rw [← iw_set hk (z := z) (fun j hj => iw_ne_I j hj), iw_inrI hs (by decide)]
  rw [show (iw_wI z k i.toNatClampNeg x).1 k = upd (z.1 k) i.toNatClampNeg x by simp [iw_wI]]
  exact hP1
theorem V_bs_ {k n : Nat} {i x : Int32} {inst : Decidable (iw_ok i n = true)} (hC : iw_C G w X B) (hk : k < w.2) (hs : w.1 k = .inr (.boolean, n)) (hdg : decode B.1 pc = .ok (.bastore, 1)) (kk : iw_V G w X B em (pc + 1) lv st (iw_wI z k i.toNatClampNeg (vp_nar .boolean x)) o) : iw_V G w X B em pc lv (.int x :: .int i :: .ref (iw_ad G k) :: st) z (@ite _ (iw_ok i n = true) inst o none) := by
  intro v z' ho H locs ls hP hS hl
  obtain ⟨hx, hb, hml, hown, hts, hK, hi, hZ, hN, hlk, hr⟩ := hC
  have ho := iw_some ho
  refine va_zast (D := G.2.1) (A := iw_A G w) hx hb hK hP (iw_D hi z) hS k 1 (cA := G.2.2.1 .boolean) (n := n) (f := z.1 k) (by rw [iw_at hk, iw_inrI hs (by decide)]) rfl (iw_ok_in ho.1) hdg (fun H1 locs1 hP1 _ hS1 => ?_)
  refine kk v z' ho.2 H1 locs1 ls ?_ hS1 hl
  rw [← iw_set hk (z := z) (fun j hj => iw_ne_I j hj), iw_inrI hs (by decide)]
  rw [show (iw_wI z k i.toNatClampNeg (vp_nar .boolean x)).1 k = upd (z.1 k) i.toNatClampNeg (vp_nar .boolean x) by simp [iw_wI]]
  exact hP1
theorem V_ls_ {k n : Nat} {i : Int32} {x : Int64} {inst : Decidable (iw_ok i n = true)} (hC : iw_C G w X B) (hk : k < w.2) (hs : w.1 k = .inr (.long, n)) (hdg : decode B.1 pc = .ok (.lastore, 1)) (kk : iw_V G w X B em (pc + 1) lv st (iw_wL z k i.toNatClampNeg x) o) : iw_V G w X B em pc lv (.long x :: .int i :: .ref (iw_ad G k) :: st) z (@ite _ (iw_ok i n = true) inst o none) := by
  intro v z' ho H locs ls hP hS hl
  obtain ⟨hx, hb, hml, hown, hts, hK, hi, hZ, hN, hlk, hr⟩ := hC
  have ho := iw_some ho
  refine va_last (D := G.2.1) (A := iw_A G w) hx hb hK hP (iw_D hi z) hS k 2 (cA := G.2.2.1 .long) (n := n) (f := z.2 k) (by rw [iw_at hk, iw_inrL hs]) rfl (iw_ok_in ho.1) hdg (fun H1 locs1 hP1 _ hS1 => ?_)
  refine kk v z' ho.2 H1 locs1 ls ?_ hS1 hl
  rw [← iw_set hk (z := z) (fun j hj => iw_ne_L j hj), iw_inrL hs]
  rw [show (iw_wL z k i.toNatClampNeg x).2 k = vp_updL (z.2 k) i.toNatClampNeg x by simp [iw_wL]]
  exact hP1
theorem V_len {k n : Nat} {x : Int32} (hC : iw_C G w X B) (hk : k < w.2) (hs : w.1 k = .inr (.int, n)) (hx9 : Int32.ofNat n = x) (hdg : decode B.1 pc = .ok (.arraylength, 1)) (kk : iw_V G w X B em (pc + 1) lv (.int x :: st) z o) : iw_V G w X B em pc lv (.ref (iw_ad G k) :: st) z o := by
  intro v z' ho H locs ls hP hS hl
  obtain ⟨hx, hb, hml, hown, hts, hK, hi, hZ, hN, hlk, hr⟩ := hC
  exact va_alen (D := G.2.1) hx hb hK hP k 0 (cA := G.2.2.1 .int) (x := (n, .inl (z.1 k))) (by rw [iw_at hk, iw_inrI hs (by decide)]) rfl hx9 hdg (kk v z' ho H locs ls hP hS hl)
theorem V_gs1 {idx : Nat} (hC : iw_C G w X B) (hlink : Cond.fieldLink B.2.2.2.1 idx "IdeaWorks" "LEAST_SETTING" "[I" ∈ iw_tbl) (hdg : decode B.1 pc = .ok (.getstatic idx, 3)) (kk : ∀ t : Nat, va_T .int t 4 (fun j => .int (iw_lo j)) (iw_A G w) X.2.2.1 X.2.2.1.heap → iw_V G w X B em (pc + 3) lv (.ref t :: st) z o) : iw_V G w X B em pc lv st z o := by
  intro v z' ho H locs ls hP hS hl
  obtain ⟨hx, hb, hml, hown, hts, hK, hi, ⟨t1, t2, ⟨a, b⟩, c, d⟩, hN, hlk, hr⟩ := hC
  exact va_gets hx hb a hS hown (hts _ hlink) (fun _ h => h) hdg (kk t1 b v z' ho H locs ls hP hS hl)
theorem V_gs2 {idx : Nat} (hC : iw_C G w X B) (hlink : Cond.fieldLink B.2.2.2.1 idx "IdeaWorks" "GREATEST_SETTING" "[I" ∈ iw_tbl) (hdg : decode B.1 pc = .ok (.getstatic idx, 3)) (kk : ∀ t : Nat, va_T .int t 4 (fun j => .int (iw_hi j)) (iw_A G w) X.2.2.1 X.2.2.1.heap → iw_V G w X B em (pc + 3) lv (.ref t :: st) z o) : iw_V G w X B em pc lv st z o := by
  intro v z' ho H locs ls hP hS hl
  obtain ⟨hx, hb, hml, hown, hts, hK, hi, ⟨t1, t2, ⟨a, b⟩, c, d⟩, hN, hlk, hr⟩ := hC
  exact va_gets hx hb c hS hown (hts _ hlink) (fun _ h => h) hdg (kk t2 d v z' ho H locs ls hP hS hl)
theorem V_tl {t : Nat} {f : Nat → Int32} {i : Int32} {inst : Decidable (iw_ok i 4 = true)} (hC : iw_C G w X B) (hT : va_T .int t 4 (fun j => .int (f j)) (iw_A G w) X.2.2.1 X.2.2.1.heap) (hdg : decode B.1 pc = .ok (.iaload, 1)) (kk : iw_V G w X B em (pc + 1) lv (.int (f i.toNatClampNeg) :: st) z o) : iw_V G w X B em pc lv (.int i :: .ref t :: st) z (@ite _ (iw_ok i 4 = true) inst o none) := by
  intro v z' ho H locs ls hP hS hl
  obtain ⟨hx, hb, hml, hown, hts, hK, hi, hZ, hN, hlk, hr⟩ := hC
  have ho := iw_some ho
  exact va_ti hx hb hT hS (iw_ok_in ho.1) rfl hdg (kk v z' ho.2 H locs ls hP hS hl)
/-- Math.max, Math.min -/
def iw_max (x y : Int32) : Int32 := if x < y then y else x
def iw_min (x y : Int32) : Int32 := if y < x then y else x
def iw_MM (own : String) (idx : Nat) (y : MethodName) (cc : ByteArray) : Prop := Cond.methodLink own idx y ∈ iw_tbl ∧ Cond.static y ∈ iw_tbl ∧ Cond.initialized "java/lang/Math" ∈ iw_tbl ∧ Cond.code y cc 2 (some .int) ∈ iw_tbl
theorem V_max {idx : Nat} {x y : Int32} (hC : iw_C G w X B) (hm : iw_MM B.2.2.2.1 idx Lib.Math.max.name Lib.Math.max.code) (hR : 1 ≤ B.2.2.1.frames ∧ (st.map fun v => v.category).sum + 13 ≤ B.2.2.1.locals) (hdg : decode B.1 pc = .ok (.invokestatic idx, 3)) (kk : iw_V G w X B em (pc + 3) lv (.int (iw_max x y) :: st) z o) : iw_V G w X B em pc lv (.int y :: .int x :: st) z o := by
  intro v z' ho H locs ls hP hS hl
  obtain ⟨hx, hb, hml, hown, hts, hK, hi, hZ, hN, hlk, hr⟩ := hC
  exact va_mmax hx hb (hml.trans hl.1.symm) hown (hts _ hm.1) (hts _ hm.2.1) (hts _ hm.2.2.1) (hts _ hm.2.2.2) hR.1 hR.2 (Nat.zero_le _) (Nat.zero_le _) hdg (kk v z' ho H locs ls hP hS hl)
theorem V_min {idx : Nat} {x y : Int32} (hC : iw_C G w X B) (hm : iw_MM B.2.2.2.1 idx Lib.Math.min.name Lib.Math.min.code) (hR : 1 ≤ B.2.2.1.frames ∧ (st.map fun v => v.category).sum + 13 ≤ B.2.2.1.locals) (hdg : decode B.1 pc = .ok (.invokestatic idx, 3)) (kk : iw_V G w X B em (pc + 3) lv (.int (iw_min x y) :: st) z o) : iw_V G w X B em pc lv (.int y :: .int x :: st) z o := by
  intro v z' ho H locs ls hP hS hl
  obtain ⟨hx, hb, hml, hown, hts, hK, hi, hZ, hN, hlk, hr⟩ := hC
  exact va_mmin hx hb (hml.trans hl.1.symm) hown (hts _ hm.1) (hts _ hm.2.1) (hts _ hm.2.2.1) (hts _ hm.2.2.2) hR.1 hR.2 (Nat.zero_le _) (Nat.zero_le _) hdg (kk v z' ho H locs ls hP hS hl)
/-- switches -/
def iw_sw (x : Int32) : Int32 → List (Option (r × iw_M)) → Option (r × iw_M) → Option (r × iw_M)
  | _, [], d => d
  | k, a :: q, d => if x = k then a else iw_sw x (k + 1) q d
def iw_sA (P : Nat → Option (r × iw_M) → Prop) : List Nat → List (Option (r × iw_M)) → Prop
  | [], [] => True
  | t :: ts, a :: q => P t a ∧ iw_sA P ts q
  | _, _ => False
theorem iw_sA_get {P : Nat → Option (r × iw_M) → Prop} : ∀ (ts : List Nat) (os : List (Option (r × iw_M))), iw_sA P ts os → ts.length = os.length ∧ ∀ (j t : Nat) (a : Option (r × iw_M)), ts[j]? = some t → os[j]? = some a → P t a
  | [], [], _ => ⟨rfl, fun j t a h => by simp at h⟩
  | t :: ts, a :: q, h => by
    obtain ⟨h1, h2⟩ := iw_sA_get ts q h.2
    refine ⟨by simp [h1], fun j t' a' h3 h4 => ?_⟩
    cases j with
    | zero => simp at h3 h4; subst h3; subst h4; exact h.1
    | succ j => exact h2 j t' a' (by simpa using h3) (by simpa using h4)
  | [], _ :: _, h => h.elim
  | _ :: _, [], h => h.elim
theorem iw_sw_get {x : Int32} {d : Option (r × iw_M)} : ∀ (os : List (Option (r × iw_M))) (k : Nat), k + os.length < 2 ^ 31 → (∃ (j : Nat) (a : Option (r × iw_M)), os[j]? = some a ∧ x = nI (k + j) ∧ iw_sw x (nI k) os d = a) ∨ ((x.toInt < k ∨ (k : Int) + os.length ≤ x.toInt) ∧ iw_sw x (nI k) os d = d)
  | [], k, h => Or.inr ⟨by simp; omega, rfl⟩
  | a :: q, k, h => by
    simp only [List.length_cons] at h
    by_cases e : x = nI k
    · exact Or.inl ⟨0, a, by simp, by simpa using e, by simp only [iw_sw]; rw [if_pos e]⟩
    · have e2 : iw_sw x (nI k) (a :: q) d = iw_sw x (nI (k + 1)) q d := by simp only [iw_sw]; rw [if_neg e, nI_succ]
      rcases iw_sw_get q (k + 1) (by omega) with ⟨j, a', h1, h2, h3⟩ | ⟨h1, h2⟩
      · exact Or.inl ⟨j + 1, a', by simpa using h1, h2.trans (congrArg nI (by omega)), by rw [e2]; exact h3⟩
      · refine Or.inr ⟨?_, by rw [e2]; exact h2⟩
        have e3 : x.toInt ≠ (k : Int) := fun q => e (Int32.toInt_inj.mp (by rw [nI_toInt (by omega)]; exact q))
        simp only [List.length_cons]
        omega
theorem V_ts {x : Int32} {dflt hi : Int} {offs : Array Int} {len : Nat} {os : List (Option (r × iw_M))} (tg : List Nat) (td : Nat) (hC : iw_C G w X B) (hdg : decode B.1 pc = .ok (.tableswitch dflt 0 hi offs, len)) (hh : hi + 1 = tg.length ∧ tg.length < 1000) (ht : ∀ j, j < tg.length → (offs[j]?).map (fun f => (pc : Int) + f) = (tg[j]?).map (fun t => (t : Int))) (htd : (pc : Int) + dflt = (td : Int))
    (kd : iw_V G w X B em td lv st z o) (kk : iw_sA (fun t a => iw_V G w X B em t lv st z a) tg os) : iw_V G w X B em pc lv (.int x :: st) z (iw_sw x 0 os o) := by
  intro v z' ho H locs ls hP hS hl
  obtain ⟨hx, hb, hml, hown, hts, hK, hi, hZ, hN, hlk, hr⟩ := hC
  obtain ⟨g1, g2⟩ := iw_sA_get tg os kk
  rcases iw_sw_get (x := x) (d := o) os 0 (by omega) with ⟨j, a, h1, h2, h3⟩ | ⟨h1, h2⟩
  · have hj : j < os.length := (List.getElem?_eq_some_iff.mp h1).1
    rw [show (0 : Int32) = nI 0 from rfl, h3] at ho
    have hj2 : j < tg.length := by omega
    have e1 := ht j hj2
    have e2 : tg[j]? = some tg[j] := List.getElem?_eq_getElem hj2
    rw [e2] at e1
    cases e3 : offs[j]? with
    | none => rw [e3] at e1; cases e1
    | some f =>
      rw [e3] at e1
      have xi : x.toInt = (j : Int) := by rw [h2, nI_toInt (by omega)]; omega
      exact lv_tableIn hx hb hdg (by omega) (by omega) (off := f) (by rw [xi]; simpa using e3) (by simpa using e1) (g2 j _ a e2 h1 v z' ho H locs ls hP hS hl)
  · rw [show (0 : Int32) = nI 0 from rfl, h2] at ho
    exact lv_tableOut hx hb hdg (by omega) htd (kd v z' ho H locs ls hP hS hl)
theorem V_ls2 {x : Int32} {dflt o1' o2' : Int} {len : Nat} (t1 t2 td : Nat) (hC : iw_C G w X B) (hdg : decode B.1 pc = .ok (.lookupswitch dflt #[(0, o1'), (1, o2')], len)) (h1 : (pc : Int) + o1' = (t1 : Int)) (h2 : (pc : Int) + o2' = (t2 : Int)) (hd : (pc : Int) + dflt = (td : Int))
    (k1 : iw_V G w X B em t1 lv st z o1) (k2 : iw_V G w X B em t2 lv st z o2) (kd : iw_V G w X B em td lv st z o) : iw_V G w X B em pc lv (.int x :: st) z (iw_sw x 0 [o1, o2] o) := by
  intro v z' ho H locs ls hP hS hl
  obtain ⟨hx, hb, hml, hown, hts, hK, hi, hZ, hN, hlk, hr⟩ := hC
  by_cases c1 : x = 0
  · simp only [iw_sw] at ho
    rw [if_pos c1] at ho
    exact lv_lookup hx hb hdg rfl (off := o1') (by rw [c1]; rfl) h1 (k1 v z' ho H locs ls hP hS hl)
  · by_cases c2 : x = 1
    · simp only [iw_sw] at ho
      rw [if_neg c1, if_pos (by rw [c2]; rfl)] at ho
      exact lv_lookup hx hb hdg rfl (off := o2') (by rw [c2]; rfl) h2 (k2 v z' ho H locs ls hP hS hl)
    · simp only [iw_sw] at ho
      rw [if_neg c1, if_neg (show ¬ x = 0 + 1 from c2)] at ho
      refine lv_lookup hx hb hdg rfl (off := dflt) ?_ hd (kd v z' ho H locs ls hP hS hl)
      show Op.lookupswitch.offset [(0, o1'), (1, o2')] dflt x.toInt = dflt
      rw [lv_osw (a := 0) c1 (by decide), lv_osw (a := 1) c2 (by decide)]
      rfl
/-- calls -/
def iw_CV (own : String) (idx : Nat) (C : String) (y : MethodName) (cc : ByteArray) (nL : Nat) (ret : Option FieldType) (n : Nat) : Prop := (∀ c ∈ wsV own idx C y [Cond.code y cc nL ret], c ∈ iw_tbl) ∧ (y.cls = C ∧ y.cls ≠ "java/lang/invoke/MethodHandle" ∧ y.cls ≠ "java/lang/invoke/VarHandle" ∧ (parseMethodDescriptor y.desc).map (fun d => d.parameters.length) = some n)
def iw_CS (own : String) (idx : Nat) (y : MethodName) (cc : ByteArray) (nL : Nat) (ret : Option FieldType) (n : Nat) : Prop := (∀ c ∈ va_wsS own idx y [Cond.code y cc nL ret], c ∈ iw_tbl) ∧ (y.cls ≠ "java/lang/invoke/MethodHandle" ∧ y.cls ≠ "java/lang/invoke/VarHandle" ∧ (parseMethodDescriptor y.desc).map (fun d => d.parameters.length) = some n)
def iw_CN (own : String) (idx : Nat) (y : MethodName) (cc : ByteArray) (nL : Nat) (ret : Option FieldType) (n : Nat) : Prop := (Cond.static y ∈ iw_tbl ∧ Cond.initialized y.cls ∈ iw_tbl ∧ Cond.code y cc nL ret ∈ iw_tbl) ∧ (∀ U, iw_N U → va_Nw (.methodLinkNest own idx y "IdeaWorks") U) ∧ (y.cls ≠ "java/lang/invoke/MethodHandle" ∧ y.cls ≠ "java/lang/invoke/VarHandle" ∧ (parseMethodDescriptor y.desc).map (fun d => d.parameters.length) = some n)
theorem iw_blind {av : List Value} : FrameBlind (va_Pc av (iw_Wd G w z)) := by
  intro a U g mk q
  obtain ⟨q0, qP, qK, qi, qZ, qN⟩ := q
  exact ⟨q0, qP, va_K.moved (u := U) (U := U.calling g mk a) (Vm.Alike.refl U.vm) qK, qi, iw_Z.moved (u := U) (U := U.calling g mk a) (Vm.Alike.refl U.vm) qZ, iw_N.same (s := U) (U := U.calling g mk a) rfl qN⟩
theorem iw_pre {H : Heap} {locs : List Loc} {av : List Value} (hC : iw_C G w X B) (hP : va_P G.2.1 vwCl (iw_wld G w z) H) (hS : va_S (iw_A G w) X.2.2.1.heap H locs) : ∀ U : State, U.heap = H → X.2.2.1.WarmedH U.vm → va_Pc av (iw_Wd G w z) av.toArray U := by
  intro U hU hW
  obtain ⟨hx, hb, hml, hown, hts, hK, hi, hZ, hN, hlk, hr⟩ := hC
  exact ⟨rfl, by rw [hU]; exact hP, va_K.moved hW.alike hK, hi, by rw [hU]; exact (hZ.moved hW.alike).kept hS.2.1, hN.warm hW⟩
theorem iw_behind {r' : Type} {em' : r' → Option Value} {q : r' × iw_M} {H : Heap} {locs : List Loc} {ls : Array Slot} {st0 rest : List Value} {a : Array Value} {v : r} {z' : iw_M} (hl : lv_has ls B.2.1 lv) (hS : va_S (iw_A G w) X.2.2.1.heap H locs)
    (hr : va_Run X.1 G.1 X.2.1 B.2.2.1 X.2.2.1 X.2.2.2.1 X.2.2.2.2.1 X.2.2.2.2.2.1 X.2.2.2.2.2.2.1 X.2.2.2.2.2.2.2 H locs 0 0 0 0 (F0 X.2.2.2.1 pc ls st0) rest (iw_Q G w em' q.1 q.2 a) (iw_A G w)) (ho : o = some (v, z')) (kk : iw_V G w X B em (pc + 3) lv ((em' q.1).toList ++ rest) q.2 o) :
    W X.1 G.1 X.2.1 B.2.2.1 X.2.2.1 X.2.2.2.1 X.2.2.2.2.1 X.2.2.2.2.2.1 X.2.2.2.2.2.2.1 X.2.2.2.2.2.2.2 H locs 0 0 (MQ X.2.2.2.2.2.1 (iw_Q G w em v z') X.2.2.2.2.1 X.2.2.1 0 0 (iw_A G w)) (F0 X.2.2.2.1 pc ls st0) := by
  intro T hT XX
  obtain ⟨v1, st₀, t, T', L, h0, X', hL, e1, e2, ⟨⟨hv, hp⟩, hz, hk⟩, stp⟩ := hr T hT XX
  cases hv
  rw [h0] at hz hk
  obtain ⟨t2, a1, b1⟩ := kk v z' ho T'.heap (locs ++ L) ls (by rw [e1]; exact hp)
    ⟨Nat.le_trans hS.1 (by rw [e1]; exact hz), fun q h1 h2 => by rw [e1, hk q (Nat.lt_of_lt_of_le h1 hS.1) h2]; exact hS.2.1 q h1 h2, fun q hq => by
      rcases List.mem_append.mp hq with h | h
      · exact hS.2.2 q h
      · exact hL q h⟩ hl T' rfl X'
  exact ⟨t2, stp t2 a1, b1⟩
theorem V_cv {r' : Type} {em' : r' → Option Value} {y : MethodName} {cc : ByteArray} {nL fr lo n idx k ci : Nat} {ret : Option FieldType} {C : String} {T : u_T} {N : Nat} {fl : List (Option Nat)} {As : List Value} {oc : Option (r' × iw_M)} {g : r' × iw_M → Option (r × iw_M)} (rest : List Value) (hC : iw_C G w X B) (hV : iw_CV B.2.2.2.1 idx C y cc nL ret n) (hk : k < w.2) (hs : w.1 k = .inl (ci, fl)) (hcl : vwCl[ci]? = some (C, T, N))
    (K : iw_K G w y cc nL ret fr lo em' (.ref (iw_ad G k) :: As) z oc) (hst : st = As.reverse ++ .ref (iw_ad G k) :: rest) (hn : As.length = n) (hW : (rest.map fun v => v.category).sum ≤ 8) (hR : fr + 1 ≤ B.2.2.1.frames ∧ 8 + (nL + 11) + lo ≤ B.2.2.1.locals) (hdg : decode B.1 pc = .ok (.invokevirtual idx, 3))
    (kk : ∀ q : r' × iw_M, iw_V G w X B em (pc + 3) lv ((em' q.1).toList ++ rest) q.2 (g q)) : iw_V G w X B em pc lv st z (oc.bind g) := by
  intro v z' ho H locs ls hP hS hl
  have hC0 := hC
  obtain ⟨hx, hb, hml, hown, hts, hK, hi, hZ, hN, hlk, hr⟩ := hC
  obtain ⟨q, hq, hg⟩ := Option.bind_eq_some_iff.mp ho
  refine iw_behind hl hS (va_runV (C := C) (b := iw_ad G k) (As := As) (rest := rest) ⟨hx, hb, hml, hown, hts⟩ (K q.1 q.2 hq) (cwV n hts (iw_GI ?_) rfl rfl rfl hV.2 hR) ⟨iw_blind, ?_, iw_pre hC0 hP hS⟩ rfl hn hl.1 hst (lv_room hW) hdg ⟨Nat.zero_le _, Nat.zero_le _⟩) hg (kk q)
  · intro c hc
    rcases List.mem_append.mp (show c ∈ ([.methodLink B.2.2.2.1 idx y, .instanceMethod y, .selects C y y, .initialized C] : List Cond) ++ (Cond.code y cc nL ret :: iw_tbl) from hc) with h | h
    · exact hV.1 c (List.mem_append_left _ h)
    · rcases List.mem_cons.mp h with h | h
      · exact hV.1 c (List.mem_append_right _ (by rw [h]; exact List.mem_cons_self))
      · exact h
  · exact va_recv hK hP hcl (q0 := k) (by rw [iw_at hk, iw_inl hs])
theorem V_cs {r' : Type} {em' : r' → Option Value} {y : MethodName} {cc : ByteArray} {nL fr lo n idx : Nat} {ret : Option FieldType} {As : List Value} {oc : Option (r' × iw_M)} {g : r' × iw_M → Option (r × iw_M)} (rest : List Value) (hC : iw_C G w X B) (hV : iw_CS B.2.2.2.1 idx y cc nL ret n)
    (K : iw_K G w y cc nL ret fr lo em' As z oc) (hst : st = As.reverse ++ rest) (hn : As.length = n) (hW : (rest.map fun v => v.category).sum ≤ 8) (hR : fr + 1 ≤ B.2.2.1.frames ∧ 8 + (nL + 11) + lo ≤ B.2.2.1.locals) (hdg : decode B.1 pc = .ok (.invokestatic idx, 3))
    (kk : ∀ q : r' × iw_M, iw_V G w X B em (pc + 3) lv ((em' q.1).toList ++ rest) q.2 (g q)) : iw_V G w X B em pc lv st z (oc.bind g) := by
  intro v z' ho H locs ls hP hS hl
  have hC0 := hC
  obtain ⟨hx, hb, hml, hown, hts, hK, hi, hZ, hN, hlk, hr⟩ := hC
  obtain ⟨q, hq, hg⟩ := Option.bind_eq_some_iff.mp ho
  refine iw_behind hl hS (va_runS (As := As) (rest := rest) ⟨hx, hb, hml, hown, hts⟩ (K q.1 q.2 hq) (va_cwS n hts (iw_GI ?_) rfl rfl rfl hV.2 hR) ⟨iw_blind, iw_pre hC0 hP hS⟩ rfl hn hl.1 hst (lv_room hW) hdg ⟨Nat.zero_le _, Nat.zero_le _⟩) hg (kk q)
  intro c hc
  rcases List.mem_append.mp (show c ∈ ([.methodLink B.2.2.2.1 idx y, .static y, .initialized y.cls] : List Cond) ++ (Cond.code y cc nL ret :: iw_tbl) from hc) with h | h
  · exact hV.1 c (List.mem_append_left _ h)
  · rcases List.mem_cons.mp h with h | h
    · exact hV.1 c (List.mem_append_right _ (by rw [h]; exact List.mem_cons_self))
    · exact h
theorem V_cn {r' : Type} {em' : r' → Option Value} {y : MethodName} {cc : ByteArray} {nL fr lo n idx : Nat} {ret : Option FieldType} {As : List Value} {oc : Option (r' × iw_M)} {g : r' × iw_M → Option (r × iw_M)} (rest : List Value) (hC : iw_C G w X B) (hV : iw_CN B.2.2.2.1 idx y cc nL ret n)
    (K : iw_K G w y cc nL ret fr lo em' As z oc) (hst : st = As.reverse ++ rest) (hn : As.length = n) (hW : (rest.map fun v => v.category).sum ≤ 8) (hR : fr + 1 ≤ B.2.2.1.frames ∧ 8 + (nL + 11) + lo ≤ B.2.2.1.locals) (hdg : decode B.1 pc = .ok (.invokestatic idx, 3))
    (kk : ∀ q : r' × iw_M, iw_V G w X B em (pc + 3) lv ((em' q.1).toList ++ rest) q.2 (g q)) : iw_V G w X B em pc lv st z (oc.bind g) := by
  intro v z' ho H locs ls hP hS hl
  have hC0 := hC
  obtain ⟨hx, hb, hml, hown, hts, hK, hi, hZ, hN, hlk, hr⟩ := hC
  obtain ⟨q, hq, hg⟩ := Option.bind_eq_some_iff.mp ho
  refine iw_behind hl hS (va_runSN (host := "IdeaWorks") (As := As) (rest := rest) ⟨hx, hb, hml, hown, hts⟩ (K q.1 q.2 hq) ⟨va_cnB n hts (iw_GI ?_) rfl rfl rfl (hV.2.1 _ hN) (hts _ hV.1.2.1) hV.2.2 hR, hts _ hV.1.1, trivial⟩ ⟨iw_blind, iw_pre hC0 hP hS⟩ rfl hn hl.1 hst (lv_room hW) hdg ⟨Nat.zero_le _, Nat.zero_le _⟩) hg (kk q)
  intro c hc
  rcases List.mem_cons.mp hc with h | h
  · rw [h]; exact hV.1.2.2
  · exact h
end IWF
section IWC
variable {r : Type} {G : iw_G} {w : iw_W} {X : iw_X} {B : iw_B} {em : r → Option Value} {pc : Nat} {lv : List (Nat × Value)} {st : List Value} {z : iw_M} {o o1 o2 : Option (r × iw_M)}
theorem iw_sA_n {P : Nat → Option (r × iw_M) → Prop} : iw_sA P [] [] := trivial
theorem iw_sA_c {P : Nat → Option (r × iw_M) → Prop} {t : Nat} {a : Option (r × iw_M)} {ts : List Nat} {q : List (Option (r × iw_M))} (h : P t a) (h2 : iw_sA P ts q) : iw_sA P (t :: ts) (a :: q) := ⟨h, h2⟩
theorem V_cvi {y : MethodName} {cc : ByteArray} {nL fr lo n idx k ci : Nat} {ret : Option FieldType} {C : String} {T : u_T} {N : Nat} {fl : List (Option Nat)} {As : List Value} {oc : Option (Int32 × iw_M)} {g : Int32 × iw_M → Option (r × iw_M)} (rest : List Value) (hC : iw_C G w X B) (hV : iw_CV B.2.2.2.1 idx C y cc nL ret n) (hk : k < w.2) (hs : w.1 k = .inl (ci, fl)) (hcl : vwCl[ci]? = some (C, T, N))
    (K : iw_K G w y cc nL ret fr lo iw_ei (.ref (iw_ad G k) :: As) z oc) (hst : st = As.reverse ++ .ref (iw_ad G k) :: rest) (hn : As.length = n) (hW : (rest.map fun v => v.category).sum ≤ 8) (hR : fr + 1 ≤ B.2.2.1.frames ∧ 8 + (nL + 11) + lo ≤ B.2.2.1.locals) (hdg : decode B.1 pc = .ok (.invokevirtual idx, 3))
    (kk : ∀ q : Int32 × iw_M, iw_V G w X B em (pc + 3) lv (.int q.1 :: rest) q.2 (g q)) : iw_V G w X B em pc lv st z (oc.bind g) := V_cv rest hC hV hk hs hcl K hst hn hW hR hdg kk
theorem V_csi {y : MethodName} {cc : ByteArray} {nL fr lo n idx : Nat} {ret : Option FieldType} {As : List Value} {oc : Option (Int32 × iw_M)} {g : Int32 × iw_M → Option (r × iw_M)} (rest : List Value) (hC : iw_C G w X B) (hV : iw_CS B.2.2.2.1 idx y cc nL ret n)
    (K : iw_K G w y cc nL ret fr lo iw_ei As z oc) (hst : st = As.reverse ++ rest) (hn : As.length = n) (hW : (rest.map fun v => v.category).sum ≤ 8) (hR : fr + 1 ≤ B.2.2.1.frames ∧ 8 + (nL + 11) + lo ≤ B.2.2.1.locals) (hdg : decode B.1 pc = .ok (.invokestatic idx, 3))
    (kk : ∀ q : Int32 × iw_M, iw_V G w X B em (pc + 3) lv (.int q.1 :: rest) q.2 (g q)) : iw_V G w X B em pc lv st z (oc.bind g) := V_cs rest hC hV K hst hn hW hR hdg kk
theorem V_cni {y : MethodName} {cc : ByteArray} {nL fr lo n idx : Nat} {ret : Option FieldType} {As : List Value} {oc : Option (Int32 × iw_M)} {g : Int32 × iw_M → Option (r × iw_M)} (rest : List Value) (hC : iw_C G w X B) (hV : iw_CN B.2.2.2.1 idx y cc nL ret n)
    (K : iw_K G w y cc nL ret fr lo iw_ei As z oc) (hst : st = As.reverse ++ rest) (hn : As.length = n) (hW : (rest.map fun v => v.category).sum ≤ 8) (hR : fr + 1 ≤ B.2.2.1.frames ∧ 8 + (nL + 11) + lo ≤ B.2.2.1.locals) (hdg : decode B.1 pc = .ok (.invokestatic idx, 3))
    (kk : ∀ q : Int32 × iw_M, iw_V G w X B em (pc + 3) lv (.int q.1 :: rest) q.2 (g q)) : iw_V G w X B em pc lv st z (oc.bind g) := V_cn rest hC hV K hst hn hW hR hdg kk
theorem V_cvl {y : MethodName} {cc : ByteArray} {nL fr lo n idx k ci : Nat} {ret : Option FieldType} {C : String} {T : u_T} {N : Nat} {fl : List (Option Nat)} {As : List Value} {oc : Option (Int64 × iw_M)} {g : Int64 × iw_M → Option (r × iw_M)} (rest : List Value) (hC : iw_C G w X B) (hV : iw_CV B.2.2.2.1 idx C y cc nL ret n) (hk : k < w.2) (hs : w.1 k = .inl (ci, fl)) (hcl : vwCl[ci]? = some (C, T, N))
    (K : iw_K G w y cc nL ret fr lo iw_el (.ref (iw_ad G k) :: As) z oc) (hst : st = As.reverse ++ .ref (iw_ad G k) :: rest) (hn : As.length = n) (hW : (rest.map fun v => v.category).sum ≤ 8) (hR : fr + 1 ≤ B.2.2.1.frames ∧ 8 + (nL + 11) + lo ≤ B.2.2.1.locals) (hdg : decode B.1 pc = .ok (.invokevirtual idx, 3))
    (kk : ∀ q : Int64 × iw_M, iw_V G w X B em (pc + 3) lv (.long q.1 :: rest) q.2 (g q)) : iw_V G w X B em pc lv st z (oc.bind g) := V_cv rest hC hV hk hs hcl K hst hn hW hR hdg kk
theorem V_csl {y : MethodName} {cc : ByteArray} {nL fr lo n idx : Nat} {ret : Option FieldType} {As : List Value} {oc : Option (Int64 × iw_M)} {g : Int64 × iw_M → Option (r × iw_M)} (rest : List Value) (hC : iw_C G w X B) (hV : iw_CS B.2.2.2.1 idx y cc nL ret n)
    (K : iw_K G w y cc nL ret fr lo iw_el As z oc) (hst : st = As.reverse ++ rest) (hn : As.length = n) (hW : (rest.map fun v => v.category).sum ≤ 8) (hR : fr + 1 ≤ B.2.2.1.frames ∧ 8 + (nL + 11) + lo ≤ B.2.2.1.locals) (hdg : decode B.1 pc = .ok (.invokestatic idx, 3))
    (kk : ∀ q : Int64 × iw_M, iw_V G w X B em (pc + 3) lv (.long q.1 :: rest) q.2 (g q)) : iw_V G w X B em pc lv st z (oc.bind g) := V_cs rest hC hV K hst hn hW hR hdg kk
theorem V_cnl {y : MethodName} {cc : ByteArray} {nL fr lo n idx : Nat} {ret : Option FieldType} {As : List Value} {oc : Option (Int64 × iw_M)} {g : Int64 × iw_M → Option (r × iw_M)} (rest : List Value) (hC : iw_C G w X B) (hV : iw_CN B.2.2.2.1 idx y cc nL ret n)
    (K : iw_K G w y cc nL ret fr lo iw_el As z oc) (hst : st = As.reverse ++ rest) (hn : As.length = n) (hW : (rest.map fun v => v.category).sum ≤ 8) (hR : fr + 1 ≤ B.2.2.1.frames ∧ 8 + (nL + 11) + lo ≤ B.2.2.1.locals) (hdg : decode B.1 pc = .ok (.invokestatic idx, 3))
    (kk : ∀ q : Int64 × iw_M, iw_V G w X B em (pc + 3) lv (.long q.1 :: rest) q.2 (g q)) : iw_V G w X B em pc lv st z (oc.bind g) := V_cn rest hC hV K hst hn hW hR hdg kk
theorem V_cvv {y : MethodName} {cc : ByteArray} {nL fr lo n idx k ci : Nat} {ret : Option FieldType} {C : String} {T : u_T} {N : Nat} {fl : List (Option Nat)} {As : List Value} {oc : Option (Unit × iw_M)} {g : Unit × iw_M → Option (r × iw_M)} (rest : List Value) (hC : iw_C G w X B) (hV : iw_CV B.2.2.2.1 idx C y cc nL ret n) (hk : k < w.2) (hs : w.1 k = .inl (ci, fl)) (hcl : vwCl[ci]? = some (C, T, N))
    (K : iw_K G w y cc nL ret fr lo iw_ev (.ref (iw_ad G k) :: As) z oc) (hst : st = As.reverse ++ .ref (iw_ad G k) :: rest) (hn : As.length = n) (hW : (rest.map fun v => v.category).sum ≤ 8) (hR : fr + 1 ≤ B.2.2.1.frames ∧ 8 + (nL + 11) + lo ≤ B.2.2.1.locals) (hdg : decode B.1 pc = .ok (.invokevirtual idx, 3))
    (kk : ∀ q : Unit × iw_M, iw_V G w X B em (pc + 3) lv rest q.2 (g q)) : iw_V G w X B em pc lv st z (oc.bind g) := V_cv rest hC hV hk hs hcl K hst hn hW hR hdg kk
theorem V_csv {y : MethodName} {cc : ByteArray} {nL fr lo n idx : Nat} {ret : Option FieldType} {As : List Value} {oc : Option (Unit × iw_M)} {g : Unit × iw_M → Option (r × iw_M)} (rest : List Value) (hC : iw_C G w X B) (hV : iw_CS B.2.2.2.1 idx y cc nL ret n)
    (K : iw_K G w y cc nL ret fr lo iw_ev As z oc) (hst : st = As.reverse ++ rest) (hn : As.length = n) (hW : (rest.map fun v => v.category).sum ≤ 8) (hR : fr + 1 ≤ B.2.2.1.frames ∧ 8 + (nL + 11) + lo ≤ B.2.2.1.locals) (hdg : decode B.1 pc = .ok (.invokestatic idx, 3))
    (kk : ∀ q : Unit × iw_M, iw_V G w X B em (pc + 3) lv rest q.2 (g q)) : iw_V G w X B em pc lv st z (oc.bind g) := V_cs rest hC hV K hst hn hW hR hdg kk
theorem V_cnv {y : MethodName} {cc : ByteArray} {nL fr lo n idx : Nat} {ret : Option FieldType} {As : List Value} {oc : Option (Unit × iw_M)} {g : Unit × iw_M → Option (r × iw_M)} (rest : List Value) (hC : iw_C G w X B) (hV : iw_CN B.2.2.2.1 idx y cc nL ret n)
    (K : iw_K G w y cc nL ret fr lo iw_ev As z oc) (hst : st = As.reverse ++ rest) (hn : As.length = n) (hW : (rest.map fun v => v.category).sum ≤ 8) (hR : fr + 1 ≤ B.2.2.1.frames ∧ 8 + (nL + 11) + lo ≤ B.2.2.1.locals) (hdg : decode B.1 pc = .ok (.invokestatic idx, 3))
    (kk : ∀ q : Unit × iw_M, iw_V G w X B em (pc + 3) lv rest q.2 (g q)) : iw_V G w X B em pc lv st z (oc.bind g) := V_cn rest hC hV K hst hn hW hR hdg kk
end IWC
