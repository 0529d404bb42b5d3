section STEPS8
variable {x m : iw_M} {H N me ru wo d : Nat}
theorem RP.nm (h : RP x m H N me ru wo d) (f : Nat → Int32) : RP (iw_wF x 5 f) (iw_wF m 2 f) H N me ru wo d := by
  obtain ⟨hA, ⟨q1, q2, q3, q4, q5⟩, hB2, hB3, hB4, hC, hD, hF, hG, hHH, hI, hJ, hK, hQ, hU⟩ := h
  exact ⟨hA, ⟨q1, rfl, q3, q4, q5⟩, hB2, hB3, hB4, hC, hD, hF, hG, hHH, hI, hJ, hK, hQ, hU⟩
/-- a whole family is taken -/
theorem tk_L {k : Nat → Nat} (hd : Kd N k) {i : Nat} (hi : i < N) : ∀ (n j : Nat) (x m : iw_M), RP x m H N me ru wo d → (∀ j, j < N → x.1 20 j = nI (k j)) → (∀ j, j < N → m.1 31 j = nI (k j)) → j ≤ N → N < n + j → (i < j → x.1 14 i = 1) → (j ≤ i → x.1 14 i = 0) →
    ∃ x' m' : iw_M, fX8_takeFamily_L2 (nI (k i)) (fun x2_2 z_2 => some ((), z_2)) n (nI j) x = some ((), x') ∧ fX9_decide_L171 (nI i) (fun x8_7 z_7 => some ((1 : Int32), z_7)) n (nI j) m = some (1, m') ∧ RP x' m' H N me ru wo d ∧ x'.1 14 i = 1 := by
  intro n
  induction n with
  | zero => intro j x m _ _ _ a b; omega
  | succ n ih =>
    intro j x m h hx hm a b p1 p2
    have hN := h.1.1.2.1
    have e14 : x.1 14 = m.1 12 := h.2.2.1.2.2.2.2.2.1
    rw [fX8_takeFamily_L2, fX9_decide_L171, h.1.2.2.1.1, h.1.2.2.1.2]
    by_cases c : j = N
    · rw [if_pos (by rw [c]; exact nI_le (Nat.le_refl _) (by omega)), if_pos (by rw [c]; exact nI_le (Nat.le_refl _) (by omega))]
      exact ⟨x, m, rfl, rfl, h, p1 (by omega)⟩
    · have nj : ¬ nI N ≤ nI j := by rw [nI_leI (by omega) (by omega)]; omega
      have b1 := (hd j (by omega)).1
      have b2 := (hd i hi).1
      rw [if_neg nj, if_neg nj]
      simp only [ok_nI (show j < 40 by omega) (by decide), ok_nI (show i < 40 by omega) (by decide), if_true, cl_nI (show j < 2 ^ 31 by omega), cl_nI (show i < 2 ^ 31 by omega), nI_1, hx j (by omega), hm j (by omega), hm i hi, e14]
      by_cases y : k j = k i
      · have y' : nI (k j) = nI (k i) := by rw [y]
        rw [if_pos y', if_pos y']
        by_cases z : m.1 12 j = 0
        · rw [if_pos z, if_pos z]
          obtain ⟨r, x', m', f1, f2, f3, f4, f5⟩ := settle2 h (show j < N by omega) (v := 1) (by decide)
          rw [f1, f2, Option.bind_some, Option.bind_some]
          refine ih (j + 1) x' m' f3 (fun t ht => ?_) (fun t ht => ?_) (by omega) (by omega) (fun q => ?_) (fun q => ?_)
          · rw [f4.2 20 (by decide) (by decide) (by decide)]; exact hx t ht
          · rw [f5.2.1 31 (by decide) (by decide) (by decide) (by decide)]; exact hm t ht
          · rw [f4.1]
            by_cases w : i = j
            · rw [w, upd_s]
            · rw [upd_n _ _ w]; exact p1 (by omega)
          · rw [f4.1, upd_n _ _ (by omega)]; exact p2 (by omega)
        · rw [if_neg z, if_neg z]
          refine ih (j + 1) x m h hx hm (by omega) (by omega) (fun q => ?_) (fun q => p2 (by omega))
          by_cases w : i = j
          · exfalso; apply z; rw [← w, ← e14]; exact p2 (by omega)
          · exact p1 (by omega)
      · have y' : ¬ nI (k j) = nI (k i) := fun q => y ((nI_eq (by omega) (by omega)).mp q)
        rw [if_neg y', if_neg y']
        refine ih (j + 1) x m h hx hm (by omega) (by omega) (fun q => ?_) (fun q => p2 (by omega))
        by_cases w : i = j
        · exact absurd (by rw [w]) y
        · exact p1 (by omega)
theorem dec_fin (h : RP x m H N me ru wo d) {k : Nat → Nat} (hd : Kd N k) (hx : ∀ j, j < N → x.1 20 j = nI (k j)) (hm : ∀ j, j < N → m.1 31 j = nI (k j)) {i : Nat} (hi : i < N) (h0 : m.1 12 i = 0) {v : Int32} (hv : v = 0 ∨ v = 1) : iw_E (fX8_decide_J148 (nI i) v x) (fX9_decide_J154 (nI i) v m) := by
  have hN := h.1.1.2.1
  have e14 : x.1 14 = m.1 12 := h.2.2.1.2.2.2.2.2.1
  unfold fX8_decide_J148 fX9_decide_J154
  rcases hv with rfl | rfl
  · rw [if_pos rfl, if_pos rfl]
    obtain ⟨r, x', m', f1, f2, f3, f4, f5⟩ := settle2 h hi (v := 2) (by decide)
    rw [f1, f2, Option.bind_some, Option.bind_some, if_pos (ok_nI (by omega) (by decide)), cl_nI (by omega), f4.1, upd_s]
    exact iw_E.mk _ ⟨H, N, me, ru, wo, d, f3⟩
  · rw [if_neg (show ¬ (1 : Int32) = 0 from by decide), if_neg (show ¬ (1 : Int32) = 0 from by decide), if_pos (ok_nI (by omega) (by decide)), cl_nI (by omega), hx i hi]
    unfold fX8_takeFamily
    obtain ⟨x', m', f1, f2, f3, f4⟩ := tk_L hd hi iw_fu 0 x m h hx hm (by omega) (by unfold iw_fu; omega) (fun q => by omega) (fun _ => by rw [e14]; exact h0)
    rw [show (0 : Int32) = nI 0 from rfl, f1, f2, Option.bind_some, if_pos (ok_nI (by omega) (by decide)), f4]
    exact iw_E.mk _ ⟨H, N, me, ru, wo, d, f3⟩
theorem st_decide (h : iw_Rel x m) (a0 : Int32) (a1 : Int32) (a2 : Int32) (a3 : Int32) (ha1 : a1 = 0 ∨ a1 = 1) (ha2 : a2 = 0 ∨ a2 = 1) (ha3 : a3 = 0 ∨ a3 = 1) : iw_E (fX8_decide a0 a1 a2 a3 x) (fX9_decide a0 a1 a2 a3 m) := by
  obtain ⟨H, N, me, ru, wo, d, h⟩ := h
  have hN := h.1.1.2.1
  have hH := h.1.1.1
  have e5 : x.1 5 = m.1 2 := h.2.1.2.1
  have e14 : x.1 14 = m.1 12 := h.2.2.1.2.2.2.2.2.1
  unfold fX8_decide fX9_decide
  rcases is_idea h a0 with ⟨e1, e2⟩ | ⟨i, hi, rfl, e1, e2⟩
  · rw [e1, e2]; exact no1 h
  rw [e1, e2]; refine E_1 ?_; dsimp only
  obtain ⟨k, g, q1, q2, q3, q4, q5, q6⟩ := fam_now h
  obtain ⟨S, s1, s2⟩ := JM h q2 q3 hi g
  have nm := fun (u v : Int32) (P : Nat → Bool) hP => nextM (m := iw_wF m 31 g) hN hH h.1.2.1.2 h.1.2.2.1.2 (fun j hj => by rw [wF_s]; exact q5 j hj) q2 h.2.2.2.2.2.2.2.2.2.1.1 hi u v P hP
  have n9 : ∀ t, t < H → nI t ≠ -9 := fun t ht => nI_n9 (by omega)
  rw [s1, q4, Option.bind_some, Option.bind_some]
  dsimp only
  rw [leastX hH x h.1.2.1.1 S, nm (-9) (-9) (bt64 S) (fun t ht => by rw [s2 t ht]; exact ⟨fun w => ⟨n9 t ht, n9 t ht, w⟩, fun w => w.2.2⟩), Option.bind_some, Option.bind_some]
  rw [show (iw_wF m 31 g).1 2 = x.1 5 from e5.symm]
  dsimp only
  have bi := bst_in (P := bt64 S) (nm := x.1 5) (H := H)
  have hR := q6 g
  cases o : bstS (bt64 S) (x.1 5) H with
  | none =>
    obtain ⟨T, t1, t2⟩ := withoutX S none (fun b hb => by cases hb) x
    rw [t1, Option.bind_some]
    dsimp only
    rw [leastX hH x h.1.2.1.1 T, Option.bind_some, if_pos (show oI none = -9 from rfl), if_pos (show oI none = -9 from rfl)]
    unfold fX9_decide_J54
    rw [if_pos (ok_nI (by omega) (by decide)), if_pos (ok_nI (by omega) (by decide)), cl_nI (by omega)]
    dsimp only
    rw [e14, show (iw_wF m 31 g).1 12 = m.1 12 from rfl, if_pos (show (-9 : Int32) = -9 from rfl)]
    by_cases z : m.1 12 i = 0
    · rw [if_pos z, if_pos z]; exact no3 hR
    · rw [if_neg z, if_neg z]; exact no3 hR
  | some b =>
    have hb := (bi b o).1
    obtain ⟨T, t1, t2⟩ := withoutX S (some b) (fun c hc => by cases hc; omega) x
    have nb9 : ¬ oI (some b) = -9 := n9 b hb
    rw [t1, Option.bind_some, if_neg nb9]
    dsimp only
    have bi2 := bst_in (P := bt64 T) (nm := x.1 5) (H := H)
    rw [leastX hH x h.1.2.1.1 T, nm (oI (some b)) (-9) (bt64 T) (fun t ht => by
      rw [t2 t (by omega), s2 t ht]
      exact ⟨fun w => ⟨w.2, n9 t ht, w.1⟩, fun w => ⟨w.2.2, w.1⟩⟩), Option.bind_some, Option.bind_some]
    rw [show (iw_wF m 31 g).1 2 = x.1 5 from e5.symm]
    dsimp only
    unfold fX9_decide_J54
    rw [if_pos (ok_nI (by omega) (by decide)), if_pos (ok_nI (by omega) (by decide)), cl_nI (by omega), e14, show (iw_wF m 31 g).1 12 = m.1 12 from rfl]
    by_cases z : m.1 12 i = 0
    case neg => rw [if_neg z, if_neg z]; exact no3 hR
    rw [if_pos z, if_pos z, if_neg nb9]
    cases o2 : bstS (bt64 T) (x.1 5) H with
    | none => rw [if_pos (show oI none = -9 from rfl), if_pos (show oI none = -9 from rfl)]; exact no3 hR
    | some c =>
      have hc := (bi2 c o2).1
      have nc9 : ¬ oI (some c) = -9 := n9 c hc
      rw [if_neg nc9, if_neg nc9, show oI (some b) = nI b from rfl, show oI (some c) = nI c from rfl]
      simp (disch := decide) only [ok_nI (show b < 40 by omega) (by decide), ok_nI (show c < 40 by omega) (by decide), if_true, cl_nI (show b < 2 ^ 31 by omega), cl_nI (show c < 2 ^ 31 by omega), wI_wF, wF_s, wF_wF, show (iw_wF m 31 g).1 2 = x.1 5 from e5.symm]
      generalize upd (upd (x.1 5) b (x.1 5 b + 1)) c (upd (x.1 5) b (x.1 5 b + 1) c + 1) = F
      have hR2 : RP (iw_wF x 5 F) (iw_wF (iw_wF m 31 g) 2 F) H N me ru wo d := hR.nm F
      have fin := fun {v : Int32} (hv : v = 0 ∨ v = 1) => dec_fin hR2 q2 q3 (show ∀ j, j < N → (iw_wF (iw_wF m 31 g) 2 F).1 31 j = nI (k j) from q5) hi z hv
      unfold fX9_decide_J113 fX9_decide_J114
      by_cases y : a1 = a2
      · rw [if_pos y]
        rcases ha1 with w | w
        · rw [if_pos w, if_pos y, w]; exact fin (Or.inl rfl)
        · rw [if_neg (by rw [w]; decide), if_neg (by rw [← y, w]; decide), if_pos y, w]; exact fin (Or.inr rfl)
      · rw [if_neg y]
        obtain ⟨T2, t3, t4⟩ := withoutX T (some c) (fun e he => by cases he; omega) (iw_wF x 5 F)
        obtain ⟨T1, t5, t6⟩ := withoutX S (some b) (fun e he => by cases he; omega) (iw_wF x 5 F)
        have eT : T1 = T := by
          have w1 : fX8_without S (oI (some b)) x = some (T, x) := t1
          have w2 : fX8_without S (oI (some b)) (iw_wF x 5 F) = some (T1, iw_wF x 5 F) := t5
          unfold fX8_without at w1 w2
          by_cases w : oI (some b) = -9
          · exact absurd w nb9
          · simp only [if_neg w, Option.some.injEq, Prod.mk.injEq, and_true] at w1 w2
            exact w2.symm.trans w1
        have n3 := nextM (m := iw_wF (iw_wF m 31 g) 2 F) hN hH h.1.2.1.2 h.1.2.2.1.2 (show ∀ j, j < N → (iw_wF (iw_wF m 31 g) 2 F).1 31 j = nI (k j) from q5) q2 h.2.2.2.2.2.2.2.2.2.1.1 hi (nI b) (nI c) (bt64 T2) (fun t ht => by
          rw [t4 t (by omega), t2 t (by omega), s2 t ht]
          exact ⟨fun w => ⟨w.1.2, w.2, w.1.1⟩, fun w => ⟨⟨w.2.2, w.1⟩, w.2.1⟩⟩)
        have l3 := leastX hH (iw_wF x 5 F) h.1.2.1.1 T2
        have bi3 := bst_in (P := bt64 T2) (nm := F) (H := H)
        rw [show (iw_wF (iw_wF m 31 g) 2 F).1 2 = F from rfl] at n3
        rw [show (iw_wF x 5 F).1 5 = F from rfl] at l3
        rw [eT] at t5
        have t5' : fX8_without S (nI b) (iw_wF x 5 F) = some (T, iw_wF x 5 F) := t5
        have t3' : fX8_without T (nI c) (iw_wF x 5 F) = some (T2, iw_wF x 5 F) := t3
        rw [t5', Option.bind_some]
        dsimp only
        rw [t3', Option.bind_some]
        dsimp only
        simp only [if_neg y]
        unfold fX8_nameThird fX8_decide_J145 fX8_decide_J146
        have ab : ∀ B C : Option (Int32 × iw_M), (if a1 = 0 then B else if a2 = 0 then B else C) = B := by
          intro B C
          rcases ha1 with w | w
          · rw [if_pos w]
          · rcases ha2 with w2 | w2
            · rw [if_neg (by rw [w]; decide), if_pos w2]
            · exact absurd (w.trans w2.symm) y
        rw [ab, l3, n3, Option.bind_some, Option.bind_some]
        dsimp only
        cases o3 : bstS (bt64 T2) F H with
        | none =>
          rw [if_pos (show oI none = -9 from rfl), if_pos (show oI none = -9 from rfl), Option.bind_some, if_pos rfl]
          exact fin (Or.inl rfl)
        | some e =>
          have he := (bi3 e o3).1
          have ne9 : ¬ oI (some e) = -9 := n9 e he
          rw [if_neg ne9, if_neg ne9, show oI (some e) = nI e from rfl]
          simp (disch := decide) only [ok_nI (show e < 40 by omega) (by decide), if_true, cl_nI (show e < 2 ^ 31 by omega), wI_wF, wF_s, wF_wF, Option.bind_some]
          rw [if_neg (show ¬ (1 : Int32) = 0 from by decide)]
          have hR3 : RP (iw_wF x 5 (upd F e (F e + 1))) (iw_wF (iw_wF m 31 g) 2 (upd F e (F e + 1))) H N me ru wo d := hR.nm _
          have fin3 := fun {v : Int32} (hv : v = 0 ∨ v = 1) => dec_fin hR3 q2 q3 (show ∀ j, j < N → (iw_wF (iw_wF m 31 g) 2 (upd F e (F e + 1))).1 31 j = nI (k j) from q5) hi z hv
          rcases ha3 with w | w
          · rw [if_pos w, w]; exact fin3 (Or.inl rfl)
          · rw [if_neg (by rw [w]; decide), w]; exact fin3 (Or.inr rfl)
end STEPS8
