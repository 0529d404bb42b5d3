section STEPS1
variable {x m : iw_M}
theorem E_1 {A B A' B' : Int32 × iw_M → Option (Int32 × iw_M)} (h : iw_E (B (1, x)) (B' (1, m))) : iw_E ((some ((1 : Int32), x)).bind (fun q => if q.1 = 0 then A q else B q)) ((some ((1 : Int32), m)).bind (fun q => if q.1 = 0 then A' q else B' q)) := h
theorem st_like (h : iw_Rel x m) (a0 : Int32) (a1 : Int32) : iw_E (fX8_like a0 a1 x) (fX9_like a0 a1 m) := by
  obtain ⟨H, N, me, ru, wo, d, h⟩ := h
  have hN := h.1.1.2.1
  unfold fX8_like fX9_like
  rcases is_idea h a0 with ⟨e1, e2⟩ | ⟨i, hi, rfl, e1, e2⟩
  · rw [e1, e2]; exact no1 h
  · rw [e1, e2]; refine E_1 ?_; dsimp only
    rcases is_idea h a1 with ⟨e1, e2⟩ | ⟨j, hj, rfl, e1, e2⟩
    · rw [e1, e2]; exact no1 h
    · rw [e1, e2]; refine E_1 ?_; dsimp only
      simp only [ok_nI (show i < 40 by omega) (by decide), ok_nI (show j < 40 by omega) (by decide), if_true, cl_nI (show i < 2 ^ 31 by omega), cl_nI (show j < 2 ^ 31 by omega)]
      obtain ⟨-, c1, -⟩ := h.2.2.2.2.2.1.1 i hi
      obtain ⟨-, c2, -⟩ := h.2.2.2.2.2.1.1 j hj
      have e11 : x.1 11 = m.1 9 := h.2.2.1.2.2.1
      rw [lkX, Option.bind_some, e11, c1.1, c2.1, lkM c1.2 c2.2, Option.bind_some]
      exact iw_E.mk _ ⟨H, N, me, ru, wo, d, h⟩
theorem st_family (h : iw_Rel x m) (a0 : Int32) : iw_E (fX8_family a0 x) (fX9_family a0 m) := by
  obtain ⟨H, N, me, ru, wo, d, h⟩ := h
  have hN := h.1.1.2.1
  unfold fX8_family fX9_family
  rcases is_idea h a0 with ⟨e1, e2⟩ | ⟨i, hi, rfl, e1, e2⟩
  · rw [e1, e2]; exact no1 h
  · rw [e1, e2]; refine E_1 ?_; dsimp only
    obtain ⟨k, g, c1, c2, c3, c4, c5, c6⟩ := fam_now h
    rw [c4, Option.bind_some, if_pos (ok_nI (by omega) (by decide)), if_pos (ok_nI (by omega) (by decide)), cl_nI (by omega), c3 i hi]
    dsimp only
    rw [wF_s, c5 i hi]
    exact iw_E.mk _ ⟨H, N, me, ru, wo, d, c6 g⟩
theorem st_head (h : iw_Rel x m) (a0 : Int32) : iw_E (fX8_head a0 x) (fX9_head a0 m) := by
  obtain ⟨H, N, me, ru, wo, d, h⟩ := h
  have hN := h.1.1.2.1
  unfold fX8_head fX9_head
  rcases is_idea h a0 with ⟨e1, e2⟩ | ⟨i, hi, rfl, e1, e2⟩
  · rw [e1, e2]; exact no1 h
  · rw [e1, e2]; refine E_1 ?_; dsimp only
    obtain ⟨k, g, c1, c2, c3, c4, c5, c6⟩ := fam_now h
    have ki := c2 i hi
    rw [c4, Option.bind_some, if_pos (ok_nI (by omega) (by decide)), if_pos (ok_nI (by omega) (by decide)), cl_nI (by omega), c3 i hi]
    dsimp only
    rw [wF_s, c5 i hi, headX (kf := 19) hN x h.1.2.2.1.1 c3 c2 (show k i < N by omega) ki.2, headM hN (iw_wF m 31 g) h.1.2.2.1.2 (fun j hj => by rw [wF_s]; exact c5 j hj) c2 (show k i < N by omega) ki.2]
    rw [show (iw_wF m 31 g).1 11 = x.1 13 from (h.2.2.1.2.2.2.2.1).symm, show (iw_wF m 31 g).1 10 = x.1 12 from (h.2.2.1.2.2.2.1).symm]
    exact iw_E.mk _ ⟨H, N, me, ru, wo, d, c6 g⟩
theorem st_share (h : iw_Rel x m) (a0 : Int32) : iw_E (fX8_share a0 x) (fX9_share a0 m) := by
  obtain ⟨H, N, me, ru, wo, d, h⟩ := h
  have hN := h.1.1.2.1
  unfold fX8_share fX9_share
  rcases is_idea h a0 with ⟨e1, e2⟩ | ⟨i, hi, rfl, e1, e2⟩
  · rw [e1, e2]; exact no1 h
  · rw [e1, e2]; refine E_1 ?_; dsimp only
    obtain ⟨k, g, c1, c2, c3, c4, c5, c6⟩ := fam_now h
    have e12 : x.1 12 = m.1 10 := h.2.2.1.2.2.2.1
    have e13 : x.1 13 = m.1 11 := h.2.2.1.2.2.2.2.1
    have e45 : x.1 45 1 = m.1 0 7 := h.2.2.2.2.1.2.1
    have hfn := fun j hj => (h.2.2.2.2.2.1.1 j hj).2.2.1
    rw [c4, Option.bind_some, if_pos (by decide)]
    dsimp only
    rw [show Int32.toNatClampNeg 1 = 1 from by decide, shareX (kf := 19) (fn := cN (m.1 10)) (by omega) hN x h.1.2.2.1.1 c3 c2 (fun j hj => ⟨(hfn j hj).2, by rw [e12]; exact (hfn j hj).1⟩) hi, shareM (fn := cN (m.1 10)) hN (iw_wF m 31 g) h.1.2.2.1.2 (fun j hj => by rw [wF_s]; exact c5 j hj) c2 (fun j hj => ⟨(hfn j hj).2, (hfn j hj).1⟩) hi, e12, e13, e45]
    exact iw_E.mk _ ⟨H, N, me, ru, wo, d, c6 g⟩
theorem st_ledBack (h : iw_Rel x m) (a0 : Int32) : iw_E (fX8_ledBack a0 x) (fX9_ledBack a0 m) := by
  obtain ⟨H, N, me, ru, wo, d, h⟩ := h
  have hw := h.1.1.2.2.2.2.1
  have e44 : x.1 44 = m.1 29 := h.2.2.2.1.2.2.2.2.2.2.2.2.2.2.1
  unfold fX8_ledBack fX9_ledBack
  rw [h.1.2.2.2.2.2.1.1, h.1.2.2.2.2.2.1.2, e44]
  by_cases c : a0 < 0
  · rw [if_pos c, if_pos c]; exact iw_E.mk _ ⟨H, N, me, ru, wo, d, h⟩
  · rw [if_neg c, if_neg c]
    by_cases e : nI wo ≤ a0
    · rw [if_pos e, if_pos e]; exact iw_E.mk _ ⟨H, N, me, ru, wo, d, h⟩
    · rw [if_neg e, if_neg e]
      rcases pk_ix a0 (n := wo) (by omega) with q | q | ⟨i, hi, rfl⟩
      · exact absurd q c
      · exact absurd q e
      · rw [if_pos (ok_nI (by omega) (by decide)), if_pos (ok_nI (by omega) (by decide))]
        exact iw_E.mk _ ⟨H, N, me, ru, wo, d, h⟩
theorem st_worth (h : iw_Rel x m) (a0 : Int32) : iw_E (fX8_worth a0 x) (fX9_worth a0 m) := by
  obtain ⟨H, N, me, ru, wo, d, h⟩ := h
  have hN := h.1.1.2.1
  have hme := h.1.1.2.2.1
  unfold fX8_worth fX9_worth
  rcases is_idea h a0 with ⟨e1, e2⟩ | ⟨i, hi, rfl, e1, e2⟩
  · rw [e1, e2]; exact no1 h
  · rw [e1, e2]; refine E_1 ?_; dsimp only
    obtain ⟨k, g, c1, c2, c3, c4, c5, c6⟩ := fam_now h
    have ki := c2 i hi
    obtain ⟨b1, b2, b3, b4, b5, b6, -⟩ := h.2.2.2.1
    have e17 : x.1 17 = m.1 15 := h.2.2.1.2.2.2.2.2.2.2
    obtain ⟨z', w1, w2⟩ := worthX (kf := 19) (by omega) hN hme h.1.2.2.1.1 h.1.2.2.2.1.1 c3 c2 (show k i < N by omega) (by rw [b3, b4, b5]; exact h.2.2.2.2.2.2.2.1)
    rw [c4, Option.bind_some, if_pos (ok_nI (by omega) (by decide)), if_pos (ok_nI (by omega) (by decide)), cl_nI (by omega), c3 i hi]
    dsimp only
    rw [w1, wF_s, c5 i hi, worthM hN hme (iw_wF m 31 g) h.1.2.2.2.1.2 h.1.2.2.1.2 (fun j hj => by rw [wF_s]; exact c5 j hj) c2 (show k i < N by omega) h.2.2.2.2.2.2.2.1, b2, b3, b4, b5, b6, e17]
    exact iw_E.mk _ ⟨H, N, me, ru, wo, d, (c6 g).fr w2⟩
theorem st_ruleOf (h : iw_Rel x m) (a0 : Int32) : iw_E (fX8_ruleOf a0 x) (fX9_ruleOf a0 m) := by
  obtain ⟨H, N, me, ru, wo, d, h⟩ := h
  have hN := h.1.1.2.1
  have hru := h.1.1.2.2.2.1
  unfold fX8_ruleOf fX9_ruleOf
  rcases is_idea h a0 with ⟨e1, e2⟩ | ⟨i, hi, rfl, e1, e2⟩
  · rw [e1, e2]; exact no1 h
  · rw [e1, e2]; refine E_1 ?_; dsimp only
    obtain ⟨k, g, c1, c2, c3, c4, c5, c6⟩ := fam_now h
    have ki := c2 i hi
    have e12 : x.1 12 = m.1 10 := h.2.2.1.2.2.2.1
    have e13 : x.1 13 = m.1 11 := h.2.2.1.2.2.2.2.1
    have e39 : x.1 39 = m.1 25 := h.2.2.2.1.2.2.2.2.2.2.1
    obtain ⟨g1, g2⟩ := headS_in (ca := x.1 13) (fi := x.1 12) (show k i < N by omega) ki.2
    unfold fX8_ruleFor fX9_ruleFor
    rw [c4, Option.bind_some, if_pos (ok_nI (by omega) (by decide)), if_pos (ok_nI (by omega) (by decide)), cl_nI (by omega), c3 i hi]
    dsimp only
    rw [wF_s, c5 i hi, headX (kf := 19) hN x h.1.2.2.1.1 c3 c2 (show k i < N by omega) ki.2, headM hN (iw_wF m 31 g) h.1.2.2.1.2 (fun j hj => by rw [wF_s]; exact c5 j hj) c2 (show k i < N by omega) ki.2]
    rw [show (iw_wF m 31 g).1 11 = x.1 13 from e13.symm, show (iw_wF m 31 g).1 10 = x.1 12 from e12.symm]
    rw [Option.bind_some, Option.bind_some, if_pos (ok_nI (by omega) (by decide)), if_pos (ok_nI (by omega) (by decide)), cl_nI (by omega)]
    dsimp only
    rw [(rulX hru x h.1.2.2.2.2.1.1 _).1, rulM hru (iw_wF m 31 g) h.1.2.2.2.2.1.2]
    rw [show (iw_wF m 31 g).1 11 = x.1 13 from e13.symm, show (iw_wF m 31 g).1 25 = x.1 39 from e39.symm]
    exact iw_E.mk _ ⟨H, N, me, ru, wo, d, c6 g⟩
theorem st_ideaOf (h : iw_Rel x m) (a0 : Int32) (a1 : Int32) : iw_E (fX8_ideaOf a0 a1 x) (fX9_ideaOf a0 a1 m) := by
  obtain ⟨H, N, me, ru, wo, d, h⟩ := h
  have hN := h.1.1.2.1
  obtain ⟨b1, b2, b3, b4, b5, b6, b7, b8⟩ := h.2.2.1
  unfold fX8_ideaOf fX9_ideaOf
  rcases is_idea h a0 with ⟨e1, e2⟩ | ⟨i, hi, rfl, e1, e2⟩
  · rw [e1, e2]; exact no1 h
  · rw [e1, e2]; refine E_1 ?_; dsimp only
    simp only [ok_nI (show i < 40 by omega) (by decide), if_true, cl_nI (show i < 2 ^ 31 by omega), iw_sw, b3, b4, b5, b6, b7]
    have hR : iw_Rel x m := ⟨H, N, me, ru, wo, d, h⟩
    have hD := h.2.2.2.2.2.2.1 i hi
    split
    · exact iw_E.mk _ hR
    · split
      · exact iw_E.mk _ hR
      · split
        · by_cases c : m.1 12 i = 0
          · rw [if_pos c, hD.1 c]; exact iw_E.mk _ hR
          · rw [if_neg c, (hD.2 c).1]; exact iw_E.mk _ hR
        · split
          · exact iw_E.mk _ hR
          · split
            · exact iw_E.mk _ hR
            · split
              · exact iw_E.mk _ hR
              · exact no2 h
theorem st_coins (h : iw_Rel x m) (a0 : Int32) (a1 : Int32) : iw_E (fX8_coins a0 a1 x) (fX9_coins a0 a1 m) := by
  obtain ⟨H, N, me, ru, wo, d, h⟩ := h
  have hH := h.1.1.1
  obtain ⟨b1, b2, b3, b4, b5⟩ := h.2.1
  unfold fX8_coins fX9_coins
  rcases is_hand h a0 with ⟨e1, e2⟩ | ⟨i, hi, rfl, e1, e2⟩
  · rw [e1, e2]; exact no1 h
  · rw [e1, e2]; refine E_1 ?_; dsimp only
    have hR : iw_Rel x m := ⟨H, N, me, ru, wo, d, h⟩
    simp only [ok_nI (show i < 40 by omega) (by decide), if_true, cl_nI (show i < 2 ^ 31 by omega), iw_sw, b3, b4]
    by_cases c0 : a1 = 0
    · subst c0
      rw [if_pos rfl, if_neg (by decide), if_pos (by decide), if_pos rfl]
      exact iw_E.mk _ hR
    · rw [if_neg c0]
      by_cases c1 : a1 = 0 + 1
      · rw [if_pos c1, c1, if_neg (by decide), if_pos (by decide), if_neg (by decide)]
        exact iw_E.mk _ hR
      · rw [if_neg c1]
        by_cases c2 : a1 < 0
        · rw [if_pos c2]; exact no2 h
        · rw [if_neg c2]
          by_cases c3 : a1 ≤ 1
          · exfalso
            rw [Int32.lt_iff_toInt_lt] at c2
            rw [Int32.le_iff_toInt_le] at c3
            have q0 : (0 : Int32).toInt = 0 := by decide
            have q1 : (1 : Int32).toInt = 1 := by decide
            have w0 : a1.toInt ≠ 0 := fun q => c0 (Int32.toInt_inj.mp (by rw [q, q0]))
            have w1 : a1.toInt ≠ 1 := fun q => c1 (Int32.toInt_inj.mp (by rw [q]; decide))
            omega
          · rw [if_neg c3]; exact no2 h
theorem st_harm (h : iw_Rel x m) (a0 : Int32) (a1 : Int32) : iw_E (fX8_harm a0 a1 x) (fX9_harm a0 a1 m) := by
  obtain ⟨H, N, me, ru, wo, d, h⟩ := h
  have hN := h.1.1.2.1
  unfold fX8_harm fX9_harm
  rcases is_idea h a0 with ⟨e1, e2⟩ | ⟨i, hi, rfl, e1, e2⟩
  · rw [e1, e2]; exact no1 h
  · rw [e1, e2]; refine E_1 ?_; dsimp only
    by_cases c : 0 ≤ a1
    · rw [if_pos c, if_pos c]
      by_cases e : a1 ≤ 100000
      · rw [if_pos e, if_pos e]
        simp only [ok_nI (show i < 40 by omega) (by decide), if_true, cl_nI (show i < 2 ^ 31 by omega)]
        have e17 : x.1 17 = m.1 15 := h.2.2.1.2.2.2.2.2.2.2
        rw [wI_wF, wI_wF, e17]
        refine iw_E.mk _ ⟨H, N, me, ru, wo, d, ?_⟩
        obtain ⟨hA, hB1, ⟨q1, q2, q3, q4, q5, q6, q7, q8⟩, hB3, hB4, hC, hD, hF, hG, hH, hI, hJ, hK, hQ, hU⟩ := h
        exact ⟨hA, hB1, ⟨q1, q2, q3, q4, q5, q6, q7, rfl⟩, hB3, hB4, hC, hD, hF, hG, hH, hI, hJ, hK, hQ, hU⟩
      · rw [if_neg e, if_neg e]; exact no6 h
    · rw [if_neg c, if_neg c]; exact no4 h
end STEPS1
