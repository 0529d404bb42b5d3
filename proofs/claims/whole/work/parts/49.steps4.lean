section STEPS4
variable {x m : iw_M} {H N me ru wo d : Nat}
theorem updL_s (f : Nat → Int64) (j : Nat) (v : Int64) : vp_updL f j v j = v := by simp [vp_updL]
theorem updL_n (f : Nat → Int64) {j a : Nat} (v : Int64) (h : a ≠ j) : vp_updL f j v a = f a := by simp [vp_updL, h]
theorem kin_b (f : Nat → Int64) {a b : Nat} (ha : a < 40) (hb : b < 40) (hab : a ≠ b) {p q : Nat} (hp : p < 40) (hq : q < 40) : bt64 (vp_updL (vp_updL f a (f a ^^^ lN (2 ^ b))) b (vp_updL f a (f a ^^^ lN (2 ^ b)) b ^^^ lN (2 ^ a)) p) q = (bt64 (f p) q ^^ decide ((p = a ∧ q = b) ∨ (p = b ∧ q = a))) := by
  by_cases c : p = b
  · subst c
    rw [updL_s, updL_n _ _ (fun e => hab e.symm), bt_xor, bt_p (by omega) (by omega)]
    have e : ((p = a ∧ q = p) ∨ (p = p ∧ q = a)) ↔ q = a := by
      constructor
      · rintro (⟨w, -⟩ | ⟨-, w⟩)
        · exact absurd w.symm hab
        · exact w
      · intro w; exact Or.inr ⟨rfl, w⟩
    congr 1; exact decide_eq_decide.mpr e.symm
  · rw [updL_n _ _ c]
    by_cases y : p = a
    · subst y
      rw [updL_s, bt_xor, bt_p (by omega) (by omega)]
      have e : ((p = p ∧ q = b) ∨ (p = b ∧ q = p)) ↔ q = b := by
        constructor
        · rintro (⟨-, w⟩ | ⟨w, -⟩)
          · exact w
          · exact absurd w c
        · intro w; exact Or.inl ⟨rfl, w⟩
      congr 1; exact decide_eq_decide.mpr e.symm
    · rw [updL_n _ _ y]
      have e : ¬ ((p = a ∧ q = b) ∨ (p = b ∧ q = a)) := by
        rintro (⟨w, -⟩ | ⟨w, -⟩)
        · exact y w
        · exact c w
      simp only [e, decide_false, Bool.xor_false]
theorem st_kin (h : iw_Rel x m) (a0 : Int32) (a1 : Int32) (a2 : Int32) (ha2 : a2 = 0 ∨ a2 = 1) : iw_E (fX8_kin a0 a1 a2 x) (fX9_kin a0 a1 a2 m) := by
  obtain ⟨H, N, me, ru, wo, d, h⟩ := h
  have hH := h.1.1.1
  unfold fX8_kin fX9_kin
  rcases is_hand h a0 with ⟨e1, e2⟩ | ⟨a, ha, rfl, e1, e2⟩
  · rw [e1, e2]; exact no1 h
  rw [e1, e2]; refine E_1 ?_; dsimp only
  rcases is_hand h a1 with ⟨e1, e2⟩ | ⟨b, hb, rfl, e1, e2⟩
  · rw [e1, e2]; exact no1 h
  rw [e1, e2]; refine E_1 ?_; dsimp only
  by_cases c : a = b
  · rw [if_pos (by rw [c]), if_pos (by rw [c])]; exact no1 h
  have c' : ¬ nI a = nI b := fun q => c ((nI_eq (by omega) (by omega)).mp q)
  rw [if_neg c', if_neg c']
  unfold fX2_setKin
  have hG := h.2.2.2.2.2.2.2.2.1
  obtain ⟨g1, g2, g3⟩ := hG a b (by omega) (by omega)
  have eb : (if bt64 (x.2 3 a) b = true then (1 : Int32) else 0) = m.1 6 (40 * a + b) := by
    by_cases y : bt64 (x.2 3 a) b = true
    · rw [if_pos y]; exact (g1.resolve_left (g2.mp y)).symm
    · rw [if_neg y]; exact (Classical.byContradiction fun w => y (g2.mpr (fun q => w q.symm)))
  simp only [ok_nI (show a < 40 by omega) (by decide), ok_nI (show b < 40 by omega) (by decide), if_true, cl_nI (show a < 2 ^ 31 by omega), cl_nI (show b < 2 ^ 31 by omega), hasX (show b < 64 by omega), Option.bind_some, eb, show (40 : Int32) = nI 40 from rfl, pk_mul, nI_add, ok_nI (show 40 * a + b < 1600 by omega) (by decide), ok_nI (show 40 * b + a < 1600 by omega) (by decide), cl_nI (show 40 * a + b < 2 ^ 31 by omega), cl_nI (show 40 * b + a < 2 ^ 31 by omega), nb ha2]
  by_cases y : m.1 6 (40 * a + b) = a2
  · rw [if_pos y, if_pos y, Option.bind_some, if_pos rfl]
    exact iw_E.mk _ ⟨H, N, me, ru, wo, d, h⟩
  rw [if_neg y, if_neg y, Option.bind_some]
  dsimp only
  rw [if_neg (show ¬ (1 : Int32) = 0 from by decide)]
  rw [one_shl (show a < 64 by omega), one_shl (show b < 64 by omega)]
  refine iw_E.mk _ ⟨H, N, me, ru, wo, d, ?_⟩
  obtain ⟨hA, hB1, hB2, hB3, hB4, hC, hD, hF, hG, hHH, hI, hJ, hK, hQ, hU⟩ := h
  refine ⟨hA, hB1, hB2, hB3, hB4, hC, hD, hF, fun p q hp hq => ?_, hHH, hI, hJ, hK, hQ, hU⟩
  show (upd (upd (m.1 6) (40 * a + b) a2) (40 * b + a) a2 (40 * p + q) = 0 ∨ upd (upd (m.1 6) (40 * a + b) a2) (40 * b + a) a2 (40 * p + q) = 1) ∧ (bt64 (vp_updL (vp_updL (x.2 3) a (x.2 3 a ^^^ lN (2 ^ b))) b (vp_updL (x.2 3) a (x.2 3 a ^^^ lN (2 ^ b)) b ^^^ lN (2 ^ a)) p) q = true ↔ upd (upd (m.1 6) (40 * a + b) a2) (40 * b + a) a2 (40 * p + q) ≠ 0) ∧ bt64 (vp_updL (vp_updL (x.2 3) a (x.2 3 a ^^^ lN (2 ^ b))) b (vp_updL (x.2 3) a (x.2 3 a ^^^ lN (2 ^ b)) b ^^^ lN (2 ^ a)) p) q = bt64 (vp_updL (vp_updL (x.2 3) a (x.2 3 a ^^^ lN (2 ^ b))) b (vp_updL (x.2 3) a (x.2 3 a ^^^ lN (2 ^ b)) b ^^^ lN (2 ^ a)) q) p
  rw [kin_b (x.2 3) (by omega) (by omega) c hp hq, kin_b (x.2 3) (by omega) (by omega) c hq hp]
  obtain ⟨k1, k2, k3⟩ := hG p q hp hq
  have s : ((p = a ∧ q = b) ∨ (p = b ∧ q = a)) ↔ ((q = a ∧ p = b) ∨ (q = b ∧ p = a)) := by
    constructor
    · rintro (⟨w1, w2⟩ | ⟨w1, w2⟩)
      · exact Or.inr ⟨w2, w1⟩
      · exact Or.inl ⟨w2, w1⟩
    · rintro (⟨w1, w2⟩ | ⟨w1, w2⟩)
      · exact Or.inr ⟨w2, w1⟩
      · exact Or.inl ⟨w2, w1⟩
  by_cases w : (p = a ∧ q = b) ∨ (p = b ∧ q = a)
  · have e : upd (upd (m.1 6) (40 * a + b) a2) (40 * b + a) a2 (40 * p + q) = a2 := by
      rcases w with ⟨rfl, rfl⟩ | ⟨rfl, rfl⟩
      · by_cases z : 40 * p + q = 40 * q + p
        · rw [z, upd_s]
        · rw [upd_n _ _ z, upd_s]
      · rw [upd_s]
    have ob : bt64 (x.2 3 p) q = true ↔ a2 = 0 := by
      have o1 : bt64 (x.2 3 p) q = bt64 (x.2 3 a) b := by
        rcases w with ⟨rfl, rfl⟩ | ⟨rfl, rfl⟩
        · rfl
        · exact k3
      rw [o1, g2]
      rcases g1 with g1 | g1 <;> rcases ha2 with ha2 | ha2
      · exact absurd (g1.trans ha2.symm) y
      · rw [g1, ha2]; decide
      · rw [g1, ha2]; decide
      · exact absurd (g1.trans ha2.symm) y
    rw [e, decide_eq_true w, decide_eq_true (s.mp w), k3]
    rw [k3] at ob
    refine ⟨ha2, ?_, rfl⟩
    rw [Bool.xor_true, Bool.not_eq_true', ← Bool.not_eq_true, ob]
  · have e : upd (upd (m.1 6) (40 * a + b) a2) (40 * b + a) a2 (40 * p + q) = m.1 6 (40 * p + q) := by
      rw [upd_n, upd_n]
      · intro z; exact w (Or.inl ⟨by omega, by omega⟩)
      · intro z; exact w (Or.inr ⟨by omega, by omega⟩)
    rw [e, decide_eq_false w, decide_eq_false (fun z => w (s.mpr z)), Bool.xor_false, Bool.xor_false]
    exact ⟨k1, k2, k3⟩
theorem st_bench (h : iw_Rel x m) (a0 : Int32) (a1 : Int32) (a2 : Int32) : iw_E (fX8_bench a0 a1 a2 x) (fX9_bench a0 a1 a2 m) := by
  obtain ⟨H, N, me, ru, wo, d, h⟩ := h
  have e24 : x.1 24 = m.1 19 := h.2.2.2.1.1
  have e25 : x.1 25 = m.1 20 := h.2.2.2.1.2.1
  unfold fX8_bench fX9_bench
  rcases is_bench a0 x m with ⟨e1, e2⟩ | ⟨b, hb, rfl, e1, e2⟩
  · rw [e1, e2]; exact no1 h
  rw [e1, e2]; refine E_1 ?_; dsimp only
  unfold fX9_bench_J24 fX9_bench_J84
  simp only [ok_nI hb (by decide), if_true, cl_nI (show b < 2 ^ 31 by omega), wI_wF, e24, e25]
  by_cases c0 : a1 = 0
  · subst c0
    rw [if_pos rfl, if_pos rfl]
    rcases is_shop a2 x m with ⟨e1, e2⟩ | ⟨e1, e2⟩
    · rw [e1, e2]; exact no1 h
    rw [e1, e2]; refine E_1 ?_; dsimp only
    simp only [if_true, show ¬ ((0 : Int32) < 0) from by decide, show (0 : Int32) ≤ 1 from by decide, if_false, e24]
    by_cases c1 : 0 ≤ a2
    case neg => rw [if_neg c1, if_neg c1]; exact no4 h
    rw [if_pos c1, if_pos c1]
    by_cases c2 : a2 ≤ 10000
    case neg => rw [if_neg c2, if_neg c2]; exact no6 h
    rw [if_pos c2, if_pos c2]
    refine iw_E.mk _ ⟨H, N, me, ru, wo, d, ?_⟩
    obtain ⟨hA, hB1, hB2, ⟨q1, q2, q3, q4, q5, q6, q7, q8, q9, q10, q11, q12⟩, hB4, hC, hD, hF, hG, hHH, hI, hJ, hK, hQ, hU⟩ := h
    exact ⟨hA, hB1, hB2, ⟨rfl, q2, q3, q4, q5, q6, q7, q8, q9, q10, q11, q12⟩, hB4, hC, hD, hF, hG, hHH, hI, hJ, hK, hQ, hU⟩
  · simp only [if_neg c0]
    by_cases c1 : a1 = 1
    · subst c1
      simp only [if_true, show ¬ ((1 : Int32) < 0) from by decide, show (1 : Int32) ≤ 1 from by decide, show ¬ ((1 : Int32) = 0) from by decide, if_false]
      by_cases c1 : 0 ≤ a2
      case neg => rw [if_neg c1, if_neg c1]; exact no4 h
      rw [if_pos c1, if_pos c1]
      by_cases c2 : a2 ≤ 10000
      case neg => rw [if_neg c2, if_neg c2]; exact no6 h
      rw [if_pos c2, if_pos c2]
      refine iw_E.mk _ ⟨H, N, me, ru, wo, d, ?_⟩
      obtain ⟨hA, hB1, hB2, ⟨q1, q2, q3, q4, q5, q6, q7, q8, q9, q10, q11, q12⟩, hB4, hC, hD, hF, hG, hHH, hI, hJ, hK, hQ, hU⟩ := h
      exact ⟨hA, hB1, hB2, ⟨q1, rfl, q3, q4, q5, q6, q7, q8, q9, q10, q11, q12⟩, hB4, hC, hD, hF, hG, hHH, hI, hJ, hK, hQ, hU⟩
    · rw [if_neg c1]
      by_cases q2 : a1 < 0
      · rw [if_pos q2]; exact no2 h
      · rw [if_neg q2]
        by_cases q3 : a1 ≤ 1
        · exfalso
          rw [Int32.lt_iff_toInt_lt] at q2
          rw [Int32.le_iff_toInt_le] at q3
          have y0 : (0 : Int32).toInt = 0 := by decide
          have y1 : (1 : Int32).toInt = 1 := by decide
          have u0 : a1.toInt ≠ 0 := fun q => c0 (Int32.toInt_inj.mp (by rw [q, y0]))
          have u1 : a1.toInt ≠ 1 := fun q => c1 (Int32.toInt_inj.mp (by rw [q]; decide))
          omega
        · rw [if_neg q3]; exact no2 h
end STEPS4
