section STEPS2
variable {x m : iw_M} {H N me ru wo d : Nat}
theorem nb0 : vp_nar .boolean 0 = 0 := by decide
theorem nb1 : vp_nar .boolean 1 = 1 := by decide
theorem nb {v : Int32} (h : v = 0 ∨ v = 1) : vp_nar .boolean v = v := by rcases h with rfl | rfl <;> decide
theorem cN_s (f : Nat → Int32) {k a : Nat} (h : a < 2 ^ 31) : cN (upd f k (nI a)) k = a := by unfold cN; rw [upd_s, cl_nI h]
theorem cN_n (f : Nat → Int32) {k j : Nat} (v : Int32) (h : j ≠ k) : cN (upd f k v) j = cN f j := by unfold cN; rw [upd_n _ _ h]
theorem st_saved (h : iw_Rel x m) (a0 : Int32) (a1 : Int32) (a2 : Int32) : iw_E (fX8_saved a0 a1 a2 x) (fX9_saved a0 a1 a2 m) := by
  obtain ⟨H, N, me, ru, wo, d, h⟩ := h
  have hN := h.1.1.2.1
  have hme := h.1.1.2.2.1
  unfold fX8_saved fX9_saved
  rcases is_bench a0 x m with ⟨e1, e2⟩ | ⟨b, hb, rfl, e1, e2⟩
  · rw [e1, e2]; exact no1 h
  · rw [e1, e2]; refine E_1 ?_; dsimp only
    rcases is_idea h a1 with ⟨e1, e2⟩ | ⟨i, hi, rfl, e1, e2⟩
    · rw [e1, e2]; exact no1 h
    · rw [e1, e2]; refine E_1 ?_; dsimp only
      obtain ⟨k, g, c1, c2, c3, c4, c5, c6⟩ := fam_now h
      have ki := c2 i hi
      obtain ⟨b1, b2, b3, b4, b5, b6, -⟩ := h.2.2.2.1
      have hms := h.2.2.2.2.2.2.2.1
      obtain ⟨z', w1, w2, w3⟩ := gatherX (kf := 19) (by omega) hN hme h.1.2.2.2.1.1 c3 c2 (show k i < N by omega) (by rw [b3, b4, b5]; exact hms)
      have hR := (c6 g).fr w2
      by_cases c0 : a2 = 0
      · subst c0
        rw [if_pos rfl, if_neg (by decide), if_pos (by decide), c4, Option.bind_some]
        unfold fX8_saved_J37
        rw [if_pos (ok_nI (by omega) (by decide)), if_pos (ok_nI (by omega) (by decide)), cl_nI (by omega), c3 i hi, w1, Option.bind_some, if_pos rfl, if_neg (by decide)]
        dsimp only
        rw [beyondX hb hme (w3 b hb).1 (w3 b hb).2, wF_s, c5 i hi, (savesM hN hme (iw_wF m 31 g) h.1.2.2.2.1.2 (fun j hj => by rw [wF_s]; exact c5 j hj) c2 (show k i < N by omega) hb hms false 0 rfl).1, b3, b4, b5, b6]
        exact iw_E.mk _ ⟨H, N, me, ru, wo, d, hR⟩
      · rw [if_neg c0]
        by_cases c1 : a2 = 1
        · subst c1
          rw [if_pos rfl, if_neg (by decide), if_pos (by decide), c4, Option.bind_some]
          unfold fX8_saved_J37
          rw [if_pos (ok_nI (by omega) (by decide)), if_pos (ok_nI (by omega) (by decide)), cl_nI (by omega), c3 i hi, w1, Option.bind_some, if_neg (by decide), if_pos rfl]
          dsimp only
          rw [hopedX hb hme (w3 b hb).1 (w3 b hb).2, wF_s, c5 i hi, (savesM hN hme (iw_wF m 31 g) h.1.2.2.2.1.2 (fun j hj => by rw [wF_s]; exact c5 j hj) c2 (show k i < N by omega) hb hms true 1 rfl).1, b3, b4, b5, b6]
          exact iw_E.mk _ ⟨H, N, me, ru, wo, d, hR⟩
        · rw [if_neg c1]
          by_cases q2 : a2 < 0
          · rw [if_pos q2]; exact no2 h
          · rw [if_neg q2]
            by_cases q3 : a2 ≤ 1
            · exfalso
              rw [Int32.lt_iff_toInt_lt] at q2
              rw [Int32.le_iff_toInt_le] at q3
              have y0 : (0 : Int32).toInt = 0 := by decide
              have y1 : (1 : Int32).toInt = 1 := by decide
              have u0 : a2.toInt ≠ 0 := fun q => c0 (Int32.toInt_inj.mp (by rw [q, y0]))
              have u1 : a2.toInt ≠ 1 := fun q => c1 (Int32.toInt_inj.mp (by rw [q]; decide))
              omega
            · rw [if_neg q3]; exact no2 h
theorem st_judge (h : iw_Rel x m) (a0 : Int32) (a1 : Int32) (ha1 : a1 = 0 ∨ a1 = 1) : iw_E (fX8_judge a0 a1 x) (fX9_judge a0 a1 m) := by
  obtain ⟨H, N, me, ru, wo, d, h⟩ := h
  have hH := h.1.1.1
  have e4 : x.1 4 = m.1 5 := h.2.1.2.2.2.2
  unfold fX8_judge fX9_judge
  rcases is_hand h a0 with ⟨e1, e2⟩ | ⟨i, hi, rfl, e1, e2⟩
  · rw [e1, e2]; exact no1 h
  · rw [e1, e2]; refine E_1 ?_; dsimp only
    unfold fX8_judge_J32
    simp only [ok_nI (show i < 40 by omega) (by decide), if_true, cl_nI (show i < 2 ^ 31 by omega), nb ha1]
    rw [wI_wF, wI_wF, e4]
    by_cases c : m.1 5 i = a1
    · rw [if_pos c, if_pos c, fa_upd_same c]
      rw [← e4, wF_self]
      exact iw_E.mk _ ⟨H, N, me, ru, wo, d, h⟩
    · rw [if_neg c, if_neg c]
      refine iw_E.mk _ ⟨H, N, me, ru, wo, d, ?_⟩
      obtain ⟨hA, ⟨q1, q2, q3, q4, q5⟩, hB2, hB3, hB4, hC, hD, hF, hG, hH, hI, hJ, hK, hQ, hU⟩ := h
      refine ⟨hA, ⟨q1, q2, q3, q4, rfl⟩, hB2, hB3, hB4, hC, hD, hF, hG, hH, hI, hJ, hK, hQ, fun t => ?_⟩
      rw [wF_s]
      by_cases w : t = i
      · rw [w, upd_s]; exact ha1
      · rw [upd_n _ _ w]; exact hU t
theorem st_hand (h : iw_Rel x m) (a0 : Int32) : iw_E (fX8_hand a0 x) (fX9_hand a0 m) := by
  obtain ⟨H, N, me, ru, wo, d, h⟩ := h
  have hH := h.1.1.1
  unfold fX8_hand fX9_hand
  rcases is_shop a0 x m with ⟨e1, e2⟩ | ⟨e1, e2⟩
  · rw [e1, e2]; exact no1 h
  · rw [e1, e2]; refine E_1 ?_; dsimp only
    rw [h.1.2.1.1, h.1.2.1.2, show (40 : Int32) = nI 40 from rfl]
    by_cases c : H = 40
    · rw [if_neg (by rw [c]; decide), if_pos (by rw [c])]; exact no6 h
    · rw [if_pos (by rw [nI_ltI (by omega) (by omega)]; omega), if_neg (fun q => c ((nI_eq (by omega) (by omega)).mp q)), if_pos (ok_nI (by omega) (by decide))]
      unfold fX2_add
      rw [h.1.2.1.1, if_pos (ok_nI (by omega) (by decide)), Option.bind_some]
      simp (disch := decide) only [wI_wF, wF_n, wF_s, upd_s, cl_nI (show H < 2 ^ 31 by omega), h.1.2.1.1, h.1.2.1.2, nI_1, nI_pred]
      refine iw_E.mk _ ⟨H + 1, N, me, ru, wo, d, ?_⟩
      obtain ⟨hA, ⟨q1, q2, q3, q4, q5⟩, hB2, hB3, hB4, hC, hD, hF, hG, hHH, hI, hJ, hK, hQ, hU⟩ := h
      refine ⟨⟨⟨by omega, hA.1.2⟩, ⟨rfl, rfl⟩, hA.2.2⟩, ⟨by show upd (x.1 2) H a0 = upd (m.1 1) H a0; rw [q1], q2, q3, q4, q5⟩, hB2, hB3, hB4, ⟨fun i hi => ?_, hC.2⟩, hD, hF, hG, ⟨hHH.1, fun i hi => ?_, hHH.2.2⟩, hI, hJ, ⟨?_, fun t ht => hK.2 t (by omega)⟩, hQ, hU⟩
      · obtain ⟨w1, w2⟩ := hC.1 i hi
        exact ⟨⟨w1.1, Nat.lt_succ_of_lt w1.2⟩, w2⟩
      · obtain ⟨w1, w2, w3⟩ := hHH.2.1 i hi
        exact ⟨w1, fun t ht => by obtain ⟨g, g1, g2⟩ := w2 t ht; exact ⟨g, Nat.lt_succ_of_lt g1, g2⟩, w3⟩
      · obtain ⟨w1, w2⟩ := hK.2 H (Nat.le_refl _)
        show sI (fun h => m.1 3 h + m.1 4 h) H + (m.1 3 H + m.1 4 H) = _
        rw [w1, w2, hK.1]
        show m.1 0 10 + m.1 0 11 + (0 + 0) = m.1 0 10 + m.1 0 11
        grind
theorem st_rule (h : iw_Rel x m) (a0 : Int32) (a1 : Int32) (a2 : Int32) (a3 : Int32) : iw_E (fX8_rule a0 a1 a2 a3 x) (fX9_rule a0 a1 a2 a3 m) := by
  obtain ⟨H, N, me, ru, wo, d, h⟩ := h
  have hru := h.1.1.2.2.2.1
  unfold fX8_rule fX9_rule
  rw [h.1.2.2.2.2.2.2.1, h.1.2.2.2.2.2.2.2]
  by_cases c1 : a0 < nI d
  · rw [if_pos c1, if_pos c1]; exact no4 h
  rw [if_neg c1, if_neg c1]
  by_cases c2 : a1 < 0
  · rw [if_pos c2, if_pos c2]; exact no4 h
  rw [if_neg c2, if_neg c2]
  by_cases c3 : a2 < 0
  · rw [if_pos c3, if_pos c3]; exact no4 h
  rw [if_neg c3, if_neg c3]
  by_cases c4 : 1 ≤ a3
  case neg => rw [if_neg c4, if_neg c4]; exact no4 h
  rw [if_pos c4, if_pos c4]
  by_cases c5 : 3000 < a0
  · rw [if_pos c5, if_pos c5]; exact no6 h
  rw [if_neg c5, if_neg c5]
  by_cases c6 : 100 < a1
  · rw [if_pos c6, if_pos c6]; exact no6 h
  rw [if_neg c6, if_neg c6]
  by_cases c7 : 100000 < a2
  · rw [if_pos c7, if_pos c7]; exact no6 h
  rw [if_neg c7, if_neg c7]
  by_cases c8 : a3 ≤ 5
  case neg => rw [if_neg c8, if_pos ((nle_lt _ _).mp c8)]; exact no6 h
  rw [if_pos c8, if_neg ((nlt_le _ _).mpr c8), h.1.2.2.2.2.1.1, h.1.2.2.2.2.1.2, show (20 : Int32) = nI 20 from rfl]
  by_cases c9 : ru = 20
  · rw [if_neg (by rw [c9]; decide), if_pos (by rw [c9])]; exact no6 h
  rw [if_pos (by rw [nI_ltI (by omega) (by omega)]; omega), if_neg (fun q => c9 ((nI_eq (by omega) (by omega)).mp q))]
  have c40 : ¬ a3 < 0 := by
    have t1 : (1 : Int32).toInt = 1 := by decide
    have t0 : (0 : Int32).toInt = 0 := by decide
    rw [Int32.le_iff_toInt_le] at c4
    rw [Int32.lt_iff_toInt_lt]
    omega
  obtain ⟨y, hy, hy2⟩ := nI_of2 (x := a3) (M := 5) (n := 5) (by decide) c40 c8
  have hy1 : 1 ≤ y := by
    rw [hy2, show (1 : Int32) = nI 1 from rfl, nI_leI (by omega) (by omega)] at c4
    exact c4
  unfold fX5_add
  simp (disch := decide) only [wI_wF, wF_n, wF_s, upd_s, h.1.2.2.2.2.1.1, h.1.2.2.2.2.1.2, ok_nI (show ru < 20 by omega) (by decide), if_true, cl_nI (show ru < 2 ^ 31 by omega), nI_1, nI_pred, Option.bind_some]
  refine iw_E.mk _ ⟨H, N, me, ru + 1, wo, d, ?_⟩
  obtain ⟨hA, hB1, hB2, ⟨q1, q2, q3, q4, q5, q6, q7, q8, q9, q10, q11, q12⟩, hB4, hC, hD, hF, hG, hHH, hI, hJ, hK, hQ, hU⟩ := h
  refine ⟨⟨⟨hA.1.1, hA.1.2.1, hA.1.2.2.1, by omega, hA.1.2.2.2.2⟩, hA.2.1, hA.2.2.1, hA.2.2.2.1, ⟨rfl, rfl⟩, hA.2.2.2.2.2⟩, hB1, hB2, ⟨q1, q2, q3, q4, q5, q6, ?_, ?_, ?_, ?_, q11, q12⟩, hB4, hC, hD, hF, hG, hHH, hI, hJ, hK, fun r hr => ?_, hU⟩
  · show upd (x.1 39) ru a0 = upd (m.1 25) ru a0; rw [q7]
  · show upd (x.1 40) ru a1 = upd (m.1 26) ru a1; rw [q8]
  · show upd (x.1 41) ru a2 = upd (m.1 27) ru a2; rw [q9]
  · show upd (x.1 42) ru a3 = upd (m.1 28) ru a3; rw [q10]
  · show upd (m.1 28) ru a3 r = nI (cN (upd (m.1 28) ru a3) r) ∧ 1 ≤ cN (upd (m.1 28) ru a3) r ∧ cN (upd (m.1 28) ru a3) r ≤ 5
    by_cases w : r = ru
    · rw [w, hy2, cN_s _ (by omega), upd_s]; exact ⟨rfl, hy1, hy⟩
    · rw [cN_n _ _ w, upd_n _ _ w]; exact hQ r (by omega)
theorem st_measure (h : iw_Rel x m) (a0 : Int32) (a1 : Int32) (a2 : Int32) (a3 : Int32) (ha2 : a2 = 0 ∨ a2 = 1) : iw_E (fX8_measure a0 a1 a2 a3 x) (fX9_measure a0 a1 a2 a3 m) := by
  obtain ⟨H, N, me, ru, wo, d, h⟩ := h
  have hN := h.1.1.2.1
  have hme := h.1.1.2.2.1
  unfold fX8_measure fX9_measure
  rcases is_bench a0 x m with ⟨e1, e2⟩ | ⟨b, hb, rfl, e1, e2⟩
  · rw [e1, e2]; exact no1 h
  rw [e1, e2]; refine E_1 ?_; dsimp only
  rcases is_idea h a1 with ⟨e1, e2⟩ | ⟨i, hi, rfl, e1, e2⟩
  · rw [e1, e2]; exact no1 h
  rw [e1, e2]; refine E_1 ?_; dsimp only
  have e10 : x.1 10 = m.1 8 := h.2.2.1.2.1
  have e24 : x.1 24 = m.1 19 := h.2.2.2.1.1
  rw [if_pos (ok_nI (by omega) (by decide)), if_pos (ok_nI (by omega) (by decide)), if_pos (ok_nI (by omega) (by decide)), if_pos (ok_nI (by omega) (by decide)), e10, e24, cl_nI (by omega), cl_nI (by omega)]
  by_cases c1 : m.1 8 i = m.1 19 b
  case neg => rw [if_neg c1, if_neg c1]; exact no3 h
  rw [if_pos c1, if_pos c1]
  by_cases c2 : 0 ≤ a3
  case neg => rw [if_neg c2, if_neg c2]; exact no4 h
  rw [if_pos c2, if_pos c2]
  by_cases c3 : 9999 < a3
  · rw [if_pos c3, if_pos c3]; exact no6 h
  rw [if_neg c3, if_neg c3, h.1.2.2.2.1.1, h.1.2.2.2.1.2, show (200 : Int32) = nI 200 from rfl]
  by_cases c9 : me = 200
  · rw [if_neg (by rw [c9]; decide), if_pos (by rw [c9])]; exact no6 h
  rw [if_pos (by rw [nI_ltI (by omega) (by omega)]; omega), if_neg (fun q => c9 ((nI_eq (by omega) (by omega)).mp q))]
  obtain ⟨y, hy, hy2⟩ := nI_of2 (x := a3) (M := 9999) (n := 9999) (by decide) ((nlt_le _ _).mpr c2) ((nlt_le _ _).mp c3)
  unfold fX4_add
  simp (disch := decide) only [wI_wF, wF_n, wF_s, upd_s, h.1.2.2.2.1.1, h.1.2.2.2.1.2, ok_nI (show me < 200 by omega) (by decide), if_true, cl_nI (show me < 2 ^ 31 by omega), nI_1, Option.bind_some]
  refine iw_E.mk _ ⟨H, N, me + 1, ru, wo, d, ?_⟩
  obtain ⟨hA, hB1, hB2, ⟨q1, q2, q3, q4, q5, q6, q7, q8, q9, q10, q11, q12⟩, hB4, hC, hD, hF, hG, hHH, hI, hJ, hK, hQ, hU⟩ := h
  refine ⟨⟨⟨hA.1.1, hA.1.2.1, by omega, hA.1.2.2.2⟩, hA.2.1, hA.2.2.1, ⟨rfl, rfl⟩, hA.2.2.2.2⟩, hB1, hB2, ⟨q1, q2, ?_, ?_, ?_, ?_, q7, q8, q9, q10, q11, q12⟩, hB4, hC, hD, fun k hk => ?_, hG, hHH, hI, hJ, hK, hQ, hU⟩
  · show upd (x.1 27) me (nI b) = upd (m.1 21) me (nI b); rw [q3]
  · show upd (x.1 28) me (nI i) = upd (m.1 22) me (nI i); rw [q4]
  · show upd (x.1 30) me a3 = upd (m.1 23) me a3; rw [q5]
  · show upd (x.1 29) me (vp_nar .boolean a2) = upd (m.1 24) me (vp_nar .boolean a2); rw [q6]
  · show (upd (m.1 21) me (nI b) k = nI (cN (upd (m.1 21) me (nI b)) k) ∧ cN (upd (m.1 21) me (nI b)) k < 10) ∧ (upd (m.1 22) me (nI i) k = nI (cN (upd (m.1 22) me (nI i)) k) ∧ cN (upd (m.1 22) me (nI i)) k < N) ∧ upd (m.1 23) me a3 k = nI (cN (upd (m.1 23) me a3) k) ∧ cN (upd (m.1 23) me a3) k ≤ 9999
    by_cases w : k = me
    · rw [w, hy2, cN_s _ (by omega), cN_s _ (by omega), cN_s _ (by omega), upd_s, upd_s, upd_s]
      exact ⟨⟨rfl, hb⟩, ⟨rfl, hi⟩, rfl, hy⟩
    · rw [cN_n _ _ w, cN_n _ _ w, cN_n _ _ w, upd_n _ _ w, upd_n _ _ w, upd_n _ _ w]
      exact hF k (by omega)
theorem OFx (h : RP x m H N me ru wo d) {k g : Nat} (hk : k < N) (hg : g < 40) : (bt64 (x.2 18 k) g = true ∨ g = cN (m.1 7) k) ↔ OF m k g := by
  have hH := h.1.1.1
  obtain ⟨w1, -⟩ := h.2.2.2.2.2.2.2.2.2.1.2.1 k hk
  obtain ⟨⟨v1, v2⟩, -⟩ := h.2.2.2.2.2.1.1 k hk
  unfold OF
  rw [w1 g hg]
  constructor
  · rintro (q | q)
    · exact Or.inr q
    · exact Or.inl (by rw [v1, q])
  · rintro (q | q)
    · exact Or.inr ((nI_eq (by omega) (by omega)).mp (q.symm.trans v1))
    · exact Or.inl q
/-- who may judge, on both sides -/
theorem JM (h : RP x m H N me ru wo d) {k : Nat → Nat} (hd : Kd N k) (hk : ∀ j, j < N → x.1 20 j = nI (k j)) {i : Nat} (hi : i < N) (g' : Nat → Int32) : ∃ S : Int64, fX8_judgesFor (nI i) x = some (S, x) ∧ ∀ g, g < H → (bt64 S g = true ↔ MJ (iw_wF m 31 g') k N H g i) := by
  have hN := h.1.1.2.1
  have hH := h.1.1.1
  obtain ⟨b1, b2, b3, b4, b5⟩ := h.2.1
  have e9 : x.1 9 = m.1 7 := h.2.2.1.1
  have e10 : x.1 10 = m.1 8 := h.2.2.1.2.1
  obtain ⟨S, s1, s2⟩ := judgesX (hn := cN (m.1 7)) hN hH x h.1.2.2.1.1 h.1.2.1.1 hk hd hi (fun j hj => by
    obtain ⟨⟨v1, v2⟩, -⟩ := h.2.2.2.2.2.1.1 j hj
    rw [e9]; exact ⟨by omega, v1⟩)
  refine ⟨S, s1, fun g hg => ?_⟩
  rw [s2 g (by omega), b1, b5, e10]
  unfold MJ bad
  show _ ↔ m.1 5 g ≠ 0 ∧ m.1 1 g ≠ m.1 8 i ∧ ∀ c e, c < N → k c = k i → e < H → ¬ (OF m c e ∧ (e = g ∨ m.1 6 (40 * e + g) ≠ 0))
  have hG := h.2.2.2.2.2.2.2.2.1
  constructor
  · rintro ⟨⟨-, q2, q3⟩, q4⟩
    refine ⟨q2, q3, fun c e w1 w2 w3 w4 => q4 ?_⟩
    rcases w4.2 with y | y
    · rw [y] at w4
      exact Or.inl ⟨c, w1, w2, (OFx h w1 (by omega)).mpr w4.1⟩
    · exact Or.inr ⟨e, w3, ⟨c, w1, w2, (OFx h w1 (by omega)).mpr w4.1⟩, (hG e g (by omega) (by omega)).2.1.mpr y⟩
  · rintro ⟨q2, q3, q4⟩
    refine ⟨⟨hg, q2, q3⟩, fun q => ?_⟩
    rcases q with ⟨c, w1, w2, w3⟩ | ⟨e, w1, ⟨c, w2, w3, w4⟩, w5⟩
    · exact q4 c g w1 w2 hg ⟨(OFx h w1 (by omega)).mp w3, Or.inl rfl⟩
    · exact q4 c e w2 w3 w1 ⟨(OFx h w2 (by omega)).mp w4, Or.inr ((hG e g (by omega) (by omega)).2.1.mp w5)⟩
theorem st_may (h : iw_Rel x m) (a0 : Int32) (a1 : Int32) : iw_E (fX8_may a0 a1 x) (fX9_may a0 a1 m) := by
  obtain ⟨H, N, me, ru, wo, d, h⟩ := h
  have hN := h.1.1.2.1
  have hH := h.1.1.1
  unfold fX8_may fX9_may
  rcases is_hand h a0 with ⟨e1, e2⟩ | ⟨j, hj, rfl, e1, e2⟩
  · rw [e1, e2]; exact no1 h
  rw [e1, e2]; refine E_1 ?_; dsimp only
  rcases is_idea h a1 with ⟨e1, e2⟩ | ⟨i, hi, rfl, e1, e2⟩
  · rw [e1, e2]; exact no1 h
  rw [e1, e2]; refine E_1 ?_; dsimp only
  obtain ⟨k, g, c1, c2, c3, c4, c5, c6⟩ := fam_now h
  obtain ⟨S, s1, s2⟩ := JM h c2 c3 hi g
  obtain ⟨r, r1, r2, r3⟩ := mayM (m := iw_wF m 31 g) hN hH h.1.2.1.2 h.1.2.2.1.2 (fun j hj => by rw [wF_s]; exact c5 j hj) c2 h.2.2.2.2.2.2.2.2.2.1.1 (show j < 40 by omega) hi
  rw [s1, c4, Option.bind_some, Option.bind_some]
  dsimp only
  rw [hasX (by omega), Option.bind_some, r1, Option.bind_some]
  dsimp only
  have hR : iw_Rel x (iw_wF m 31 g) := ⟨H, N, me, ru, wo, d, c6 g⟩
  cases q : bt64 S j
  · rw [if_pos (r3.mpr (fun w => by rw [← s2 j hj, q] at w; cases w))]
    exact iw_E.mk (x := x) 0 hR
  · rw [if_neg (fun w => (r3.mp w) ((s2 j hj).mp q))]
    exact iw_E.mk (x := x) 1 hR
end STEPS2
