section STEPS6
variable {x m : iw_M} {H N me ru wo d : Nat}
theorem bcS (S : Int64) (z : iw_M) : fJ13_bitCount_95d88 S z = some (nI (fb_ct (bt64 S) 64), z) := by
  have e : S = lN S.toBitVec.toNat := Int64.toBitVec_inj.mp (by rw [lN_bv, BitVec.ofNat_toNat, BitVec.setWidth_eq])
  have q := blN (a := S.toBitVec.toNat) S.toBitVec.isLt z
  rw [← e] at q
  exact q
theorem sizeX {i : Nat} (hi : i < 40) (z : iw_M) : fX3_teamSize (nI i) z = some (nI (fb_ct (bt64 (z.2 18 i)) 64), z) := by
  unfold fX3_teamSize
  rw [if_pos (ok_nI hi (by decide)), cl_nI (by omega), bcS]; rfl
theorem st_team (h : iw_Rel x m) (a0 : Int32) (a1 : Int32) : iw_E (fX8_team a0 a1 x) (fX9_team a0 a1 m) := by
  obtain ⟨H, N, me, ru, wo, d, h⟩ := h
  have hN := h.1.1.2.1
  have hH := h.1.1.1
  have e9 : x.1 9 = m.1 7 := h.2.2.1.1
  unfold fX8_team fX9_team
  rcases is_idea h a0 with ⟨e1, e2⟩ | ⟨i, hi, rfl, e1, e2⟩
  · rw [e1, e2]; exact no1 h
  rw [e1, e2]; refine E_1 ?_; dsimp only
  rcases is_hand h a1 with ⟨e1, e2⟩ | ⟨j, hj, rfl, e1, e2⟩
  · rw [e1, e2]; exact no1 h
  rw [e1, e2]; refine E_1 ?_; dsimp only
  obtain ⟨⟨v1, v2⟩, -⟩ := h.2.2.2.2.2.1.1 i hi
  obtain ⟨t1, t2⟩ := h.2.2.2.2.2.2.2.2.2.1.1 i hi
  obtain ⟨u1, u2, u3, u4⟩ := h.2.2.2.2.2.2.2.2.2.1.2.1 i hi
  obtain ⟨r, r1, r2⟩ := isOfM (g := j) (show i < 40 by omega) t1 t2
  rw [handsOfX (h := cN (m.1 7) i) (by omega) (by omega) x (by rw [e9]; exact v1), Option.bind_some]
  dsimp only
  rw [hasX (by omega), Option.bind_some, r1, Option.bind_some]
  dsimp only
  have hof := OFx h hi (show j < 40 by omega)
  have hb : bt64 (x.2 18 i ||| lN (2 ^ cN (m.1 7) i)) j = true ↔ OF m i j := by
    rw [bt_or, bt_p (by omega) (by omega), Bool.or_eq_true, decide_eq_true_eq]
    exact hof
  by_cases c : OF m i j
  · rw [if_pos (hb.mpr c), if_neg (by decide), if_neg (fun q => (r2.mp q) c)]; exact no3 h
  rw [if_neg (fun q => c (hb.mp q)), if_pos rfl, if_pos (r2.mpr c), sizeX (by omega), Option.bind_some, u4]
  dsimp only
  simp only [ok_nI (show i < 40 by omega) (by decide), if_true, cl_nI (show i < 2 ^ 31 by omega), t1]
  by_cases c6 : cN (m.1 16) i = 6
  · rw [if_neg (by rw [c6]; decide), if_pos (by rw [c6]; rfl)]; exact no6 h
  rw [if_pos (by rw [show (6 : Int32) = nI 6 from rfl, nI_ltI (by omega) (by omega)]; omega), if_neg (show ¬ nI (cN (m.1 16) i) = (6 : Int32) from fun q => c6 ((nI_eq (by omega) (by omega)).mp q)), sizeX (by omega), Option.bind_some]
  have nb : bt64 (x.2 18 i) j = false := by
    cases q : bt64 (x.2 18 i) j
    · rfl
    · exact absurd (hof.mp (Or.inl q)) c
  have nt : ∀ t, t < cN (m.1 16) i → m.1 17 (6 * i + t) ≠ nI j := fun t ht q => c (Or.inr ⟨t, ht, q⟩)
  have bt' : ∀ k, k < 64 → bt64 (x.2 18 i ||| lN (2 ^ j)) k = if k = j then true else bt64 (x.2 18 i) k := by
    intro k hk
    rw [bt_or, bt_p (by omega) hk]
    by_cases q : k = j
    · simp [q]
    · simp [q]
  have ct' : fb_ct (bt64 (x.2 18 i ||| lN (2 ^ j))) 64 = cN (m.1 16) i + 1 := by
    have e := fb_ct_upd (bt64 (x.2 18 i)) true (i := j) (n := 64) (by omega)
    rw [nb, u4] at e
    rw [fb_ct_cong bt']
    simpa using e
  rw [one_shl (show j < 64 by omega)]
  dsimp only
  rw [wL_s, updL_s, ct', show (6 : Int32) = nI 6 from rfl, pk_mul, nI_add, if_pos (ok_nI (by omega) (by decide)), cl_nI (by omega)]
  simp (disch := decide) only [wI_wF, wF_n, wF_s, t1, nI_1]
  refine iw_E.mk _ ⟨H, N, me, ru, wo, d, ?_⟩
  obtain ⟨hA, hB1, hB2, hB3, hB4, hC, hD, hF, hG, hHH, hI, hJ, hK, hQ, hU⟩ := h
  refine ⟨hA, hB1, hB2, hB3, hB4, ⟨hC.1, fun k hk => ⟨(hC.2 k hk).1, ?_⟩⟩, hD, hF, hG, ⟨fun k hk => ?_, fun k hk => ?_, fun k hk => ?_⟩, hI, hJ, hK, hQ, hU⟩
  · show upd (m.1 16) i (nI (cN (m.1 16) i + 1)) k = 0
    rw [upd_n _ _ (by omega)]; exact (hC.2 k hk).2
  · show upd (m.1 16) i (nI (cN (m.1 16) i + 1)) k = nI (cN (upd (m.1 16) i (nI (cN (m.1 16) i + 1))) k) ∧ cN (upd (m.1 16) i (nI (cN (m.1 16) i + 1))) k ≤ 6
    by_cases w : k = i
    · rw [w, cN_s _ (by omega), upd_s]; exact ⟨rfl, by omega⟩
    · rw [cN_n _ _ w, upd_n _ _ w]; exact hHH.1 k hk
  · show (∀ g, g < 40 → (bt64 (vp_updL (x.2 18) i (x.2 18 i ||| lN (2 ^ j)) k) g = true ↔ ∃ t, t < cN (upd (m.1 16) i (nI (cN (m.1 16) i + 1))) k ∧ upd (m.1 17) (6 * i + cN (m.1 16) i) (nI j) (6 * k + t) = nI g)) ∧ (∀ t, t < cN (upd (m.1 16) i (nI (cN (m.1 16) i + 1))) k → ∃ g, g < H ∧ upd (m.1 17) (6 * i + cN (m.1 16) i) (nI j) (6 * k + t) = nI g) ∧ (∀ s t, s < t → t < cN (upd (m.1 16) i (nI (cN (m.1 16) i + 1))) k → upd (m.1 17) (6 * i + cN (m.1 16) i) (nI j) (6 * k + s) ≠ upd (m.1 17) (6 * i + cN (m.1 16) i) (nI j) (6 * k + t)) ∧ fb_ct (bt64 (vp_updL (x.2 18) i (x.2 18 i ||| lN (2 ^ j)) k)) 64 = cN (upd (m.1 16) i (nI (cN (m.1 16) i + 1))) k
    by_cases w : k = i
    · subst w
      rw [cN_s _ (by omega), updL_s]
      have lo : ∀ t, t < cN (m.1 16) k → upd (m.1 17) (6 * k + cN (m.1 16) k) (nI j) (6 * k + t) = m.1 17 (6 * k + t) := fun t ht => upd_n _ _ (by omega)
      refine ⟨fun g hg => ?_, fun t ht => ?_, fun s t hst ht => ?_, ct'⟩
      · rw [bt' g (by omega)]
        by_cases y : g = j
        · rw [if_pos y]
          simp only [true_iff]
          exact ⟨cN (m.1 16) k, by omega, by rw [upd_s, y]⟩
        · rw [if_neg y, u1 g hg]
          constructor
          · rintro ⟨t, q1, q2⟩; exact ⟨t, by omega, by rw [lo t q1]; exact q2⟩
          · rintro ⟨t, q1, q2⟩
            by_cases z : t = cN (m.1 16) k
            · rw [z, upd_s] at q2; exact absurd ((nI_eq (by omega) (by omega)).mp q2).symm y
            · exact ⟨t, by omega, by rw [← lo t (by omega)]; exact q2⟩
      · by_cases z : t = cN (m.1 16) k
        · exact ⟨j, hj, by rw [z, upd_s]⟩
        · rw [lo t (by omega)]; exact u2 t (by omega)
      · rw [lo s (by omega)]
        by_cases z : t = cN (m.1 16) k
        · rw [z, upd_s]; exact nt s (by omega)
        · rw [lo t (by omega)]; exact u3 s t hst (by omega)
    · rw [cN_n _ _ w, updL_n _ _ w]
      have k6 := (hHH.1 k hk).2
      have lo : ∀ t, t < cN (m.1 16) k → upd (m.1 17) (6 * i + cN (m.1 16) i) (nI j) (6 * k + t) = m.1 17 (6 * k + t) := fun t ht => upd_n _ _ (by omega)
      obtain ⟨w1, w2, w3, w4⟩ := hHH.2.1 k hk
      refine ⟨fun g hg => ?_, fun t ht => ?_, fun s t hst ht => ?_, w4⟩
      · rw [w1 g hg]
        constructor
        · rintro ⟨t, q1, q2⟩; exact ⟨t, q1, by rw [lo t q1]; exact q2⟩
        · rintro ⟨t, q1, q2⟩; exact ⟨t, q1, by rw [← lo t q1]; exact q2⟩
      · rw [lo t ht]; exact w2 t ht
      · rw [lo s (by omega), lo t ht]; exact w3 s t hst ht
  · show vp_updL (x.2 18) i (x.2 18 i ||| lN (2 ^ j)) k = 0
    rw [updL_n _ _ (by omega)]; exact hHH.2.2 k hk
theorem st_idea (h : iw_Rel x m) (a0 : Int32) (a1 : Int32) (a2 : Int32) (a3 : Int32) : iw_E (fX8_idea a0 a1 a2 a3 x) (fX9_idea a0 a1 a2 a3 m) := by
  obtain ⟨H, N, me, ru, wo, d, h⟩ := h
  have hN := h.1.1.2.1
  have hH := h.1.1.1
  unfold fX8_idea fX9_idea
  rcases is_hand h a0 with ⟨e1, e2⟩ | ⟨j, hj, rfl, e1, e2⟩
  · rw [e1, e2]; exact no1 h
  rw [e1, e2]; refine E_1 ?_; dsimp only
  rcases is_shop a1 x m with ⟨e1, e2⟩ | ⟨e1, e2⟩
  · rw [e1, e2]; exact no1 h
  rw [e1, e2]; refine E_1 ?_; dsimp only
  rcases is_marks a2 x m with ⟨e1, e2⟩ | ⟨k, hk, rfl, e1, e2⟩
  · rw [e1, e2]; exact no1 h
  rw [e1, e2]; refine E_1 ?_; dsimp only
  by_cases c1 : 0 ≤ a3
  case neg => rw [if_neg c1, if_neg c1]; exact no4 h
  rw [if_pos c1, if_pos c1]
  by_cases c2 : 9 < a3
  · rw [if_pos c2, if_pos c2]; exact no6 h
  rw [if_neg c2, if_neg c2]
  by_cases c3 : N = 40
  · rw [if_neg (by rw [h.1.2.2.1.1, c3]; decide), if_pos (by rw [h.1.2.2.1.2, c3]; rfl)]; exact no6 h
  rw [if_pos (by rw [h.1.2.2.1.1, show (40 : Int32) = nI 40 from rfl, nI_ltI (by omega) (by omega)]; omega), if_neg (by rw [h.1.2.2.1.2]; exact fun q => c3 ((nI_eq (by omega) (by omega)).mp q))]
  unfold fX3_add
  simp (disch := decide) only [wI_wF, wF_n, wF_s, upd_s, h.1.2.2.1.1, h.1.2.2.1.2, ok_nI (show N < 40 by omega) (by decide), if_true, cl_nI (show N < 2 ^ 31 by omega), nI_1, nI_pred, Option.bind_some, h.1.2.2.2.2.2.2.1, h.1.2.2.2.2.2.2.2, show iw_ok 0 4 = true from by decide, show Int32.toNatClampNeg 0 = 0 from by decide]
  obtain ⟨y, hy, rfl⟩ := nI_of2 (x := a3) (M := 9) (n := 9) (by decide) ((nlt_le _ _).mpr c1) ((nlt_le _ _).mp c2)
  obtain ⟨hA, hB1, ⟨p1, p2, p3, p4, p5, p6, p7, p8⟩, hB3, hB4, hC, hD, hF, hG, hHH, hI, ⟨kk, j1, j2⟩, hK, hQ, hU⟩ := h
  obtain ⟨g, k', f1, f2, f3⟩ := enrolX (kf := 19) (lim := x.1 45 0) (by omega) (show N < 40 by omega) (iw_wF (iw_wF (iw_wF (iw_wF (iw_wF (iw_wF x 9 (upd (x.1 9) N (nI j))) 10 (upd (x.1 10) N a1)) 11 (upd (x.1 11) N (nI k))) 12 (upd (x.1 12) N (nI y))) 13 (upd (x.1 13) N (nI d))) 8 (upd (x.1 8) 10 (nI (N + 1)))) kk j2 (by
    show Can N (al (x.1 45 0) (upd (x.1 10) N a1) (upd (x.1 11) N (nI k))) kk
    have e : ∀ a b, a < N → b < N → (al (x.1 45 0) (upd (x.1 10) N a1) (upd (x.1 11) N (nI k)) a b ↔ al (m.1 0 6) (m.1 8) (m.1 9) a b) := by
      intro a b ha hb
      unfold al
      rw [upd_n _ _ (show a ≠ N by omega), upd_n _ _ (show b ≠ N by omega), upd_n _ _ (show a ≠ N by omega), upd_n _ _ (show b ≠ N by omega), p2, p3, hB4.1]
    exact j1.ex (fun a b ha hb he => (e a b ha hb).mpr he) (fun a b ha hb he => j1.2.1 a b ha hb ((e a b ha hb).mp he)))
  rw [f1, Option.bind_some]
  have f4 : Can (N + 1) (al (x.1 45 0) (upd (x.1 10) N a1) (upd (x.1 11) N (nI k))) k' := f2
  rw [p2, p3, hB4.1] at f4
  refine iw_E.mk _ ⟨H, N + 1, me, ru, wo, d, ?_⟩
  have n12 := hC.2 N (Nat.le_refl _)
  refine ⟨⟨⟨hA.1.1, by omega, hA.1.2.2⟩, hA.2.1, ⟨rfl, rfl⟩, hA.2.2.2⟩, hB1, ⟨?_, ?_, ?_, ?_, ?_, p6, p7, p8⟩, hB3, hB4, ⟨fun i hi => ?_, fun i hi => hC.2 i (by omega)⟩, fun i hi => ?_, fun t ht => ?_, hG, ⟨fun i hi => ?_, fun i hi => ?_, fun i hi => hHH.2.2 i (by omega)⟩, ⟨hI.1, fun w hw => ?_⟩, ⟨k', f4, f3⟩, hK, hQ, hU⟩
  · show upd (x.1 9) N (nI j) = upd (m.1 7) N (nI j); rw [p1]
  · show upd (x.1 10) N a1 = upd (m.1 8) N a1; rw [p2]
  · show upd (x.1 11) N (nI k) = upd (m.1 9) N (nI k); rw [p3]
  · show upd (x.1 12) N (nI y) = upd (m.1 10) N (nI y); rw [p4]
  · show upd (x.1 13) N (nI d) = upd (m.1 11) N (nI d); rw [p5]
  · show (upd (m.1 7) N (nI j) i = nI (cN (upd (m.1 7) N (nI j)) i) ∧ cN (upd (m.1 7) N (nI j)) i < H) ∧ (upd (m.1 9) N (nI k) i = nI (cN (upd (m.1 9) N (nI k)) i) ∧ cN (upd (m.1 9) N (nI k)) i < 65536) ∧ (upd (m.1 10) N (nI y) i = nI (cN (upd (m.1 10) N (nI y)) i) ∧ cN (upd (m.1 10) N (nI y)) i ≤ 9) ∧ upd (m.1 11) N (nI d) i = nI (cN (upd (m.1 11) N (nI d)) i) ∧ cN (upd (m.1 11) N (nI d)) i ≤ d
    have hd := hA.1.2.2.2.2.2
    by_cases w : i = N
    · rw [w, cN_s _ (by omega), cN_s _ (by omega), cN_s _ (by omega), cN_s _ (by omega), upd_s, upd_s, upd_s, upd_s]
      exact ⟨⟨rfl, hj⟩, ⟨rfl, hk⟩, ⟨rfl, hy⟩, rfl, Nat.le_refl _⟩
    · rw [cN_n _ _ w, cN_n _ _ w, cN_n _ _ w, cN_n _ _ w, upd_n _ _ w, upd_n _ _ w, upd_n _ _ w, upd_n _ _ w]
      exact hC.1 i (by omega)
  · show (m.1 12 i = 0 → upd (m.1 13) N (-9) i = -9) ∧ (m.1 12 i ≠ 0 → x.1 15 i = upd (m.1 13) N (-9) i ∧ upd (m.1 13) N (-9) i = nI (cN (upd (m.1 13) N (-9)) i) ∧ cN (upd (m.1 13) N (-9)) i ≤ d)
    by_cases w : i = N
    · rw [w, upd_s]
      exact ⟨fun _ => rfl, fun q => absurd n12.1 q⟩
    · rw [cN_n _ _ w, upd_n _ _ w]
      exact hD i (by omega)
  · obtain ⟨w1, ⟨w2, w3⟩, w4⟩ := hF t ht
    exact ⟨w1, ⟨w2, Nat.lt_succ_of_lt w3⟩, w4⟩
  · show m.1 16 i = nI (cN (m.1 16) i) ∧ cN (m.1 16) i ≤ 6
    by_cases w : i = N
    · unfold cN; rw [w, n12.2]; decide
    · exact hHH.1 i (by omega)
  · show (∀ g, g < 40 → (bt64 (x.2 18 i) g = true ↔ ∃ t, t < cN (m.1 16) i ∧ m.1 17 (6 * i + t) = nI g)) ∧ (∀ t, t < cN (m.1 16) i → ∃ g, g < H ∧ m.1 17 (6 * i + t) = nI g) ∧ (∀ s t, s < t → t < cN (m.1 16) i → m.1 17 (6 * i + s) ≠ m.1 17 (6 * i + t)) ∧ fb_ct (bt64 (x.2 18 i)) 64 = cN (m.1 16) i
    by_cases w : i = N
    · have c0 : cN (m.1 16) i = 0 := by unfold cN; rw [w, n12.2]; decide
      have x0 : x.2 18 i = 0 := hHH.2.2 i (by omega)
      rw [c0, x0]
      refine ⟨fun g hg => ?_, fun t ht => by omega, fun s t _ ht => by omega, fb_ct_zero.mpr (fun q _ => bt_0 q)⟩
      rw [bt_0]
      constructor
      · intro q; cases q
      · rintro ⟨t, q, -⟩; omega
    · exact hHH.2.1 i (by omega)
  · rcases hI.2 w hw with q | ⟨i, q1, q2⟩
    · exact Or.inl q
    · exact Or.inr ⟨i, Nat.lt_succ_of_lt q1, q2⟩
end STEPS6
