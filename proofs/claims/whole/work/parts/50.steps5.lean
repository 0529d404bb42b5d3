section STEPS5
variable {x m : iw_M} {H N me ru wo d : Nat}
theorem st_set (h : iw_Rel x m) (a0 : Int32) (a1 : Int32) : iw_E (fX8_set a0 a1 x) (fX9_set a0 a1 m) := by
  obtain ⟨H, N, me, ru, wo, d, h⟩ := h
  have hN := h.1.1.2.1
  obtain ⟨s0, s1, s2, s3⟩ := h.2.2.2.2.1
  unfold fX8_set fX9_set
  rcases pk_ix a0 (n := 4) (by omega) with c | c | ⟨i, hi, rfl⟩
  · rw [if_pos c, if_pos c]; exact no2 h
  · by_cases c0 : a0 < 0
    · rw [if_pos c0, if_pos c0]; exact no2 h
    · have c4 : ¬ a0 < 4 := (nlt_le _ _).mpr c
      have c3 : ¬ a0 ≤ 3 := by
        rw [Int32.le_iff_toInt_le] at c ⊢
        have y3 : (3 : Int32).toInt = 3 := by decide
        have y4 : (nI 4 : Int32).toInt = 4 := by decide
        omega
      rw [if_neg c0, if_neg c0, if_neg c4, if_neg c3]; exact no2 h
  · have hc : i = 0 ∨ i = 1 ∨ i = 2 ∨ i = 3 := by omega
    unfold fX9_set_J26 fX9_set_J69 fX9_set_J118
    obtain ⟨hA, hB1, hB2, hB3, hB4, hC, hD, hF, hG, hHH, hI, hJ, hK, hQ, hU⟩ := id h
    rcases hc with rfl | rfl | rfl | rfl
    · simp (decide := true) only [show nI 0 = (0 : Int32) from rfl, if_true, if_false, show iw_ok 0 4 = true from by decide, show Int32.toNatClampNeg 0 = 0 from by decide, show iw_lo 0 = 1 from rfl, show iw_hi 0 = 40 from rfl, s0, wI_wF]
      by_cases c1 : 1 ≤ a1
      case neg => rw [if_neg c1, if_neg c1]; exact no4 h
      rw [if_pos c1, if_pos c1]
      by_cases c2 : a1 ≤ 40
      case neg => rw [if_neg c2, if_neg c2]; exact no6 h
      rw [if_pos c2, if_pos c2]
      by_cases c3 : a1 = m.1 0 6
      · rw [if_pos c3, c3, fa_upd_same (f := m.1 0) (i := 6) (x := m.1 0 6) rfl, wF_self, ← s0, fa_upd_same (f := x.1 45) (i := 0) (x := x.1 45 0) rfl, wF_self]
        exact iw_E.mk _ ⟨H, N, me, ru, wo, d, h⟩
      · rw [if_neg c3]
        obtain ⟨g, k', b1, b2, b3⟩ := buildX (kf := 19) (lim := a1) (by omega) hN (iw_wF x 45 (upd (x.1 45) 0 a1)) hA.2.2.1.1
        rw [b1, Option.bind_some]
        refine iw_E.mk _ ⟨H, N, me, ru, wo, d, ⟨hA, hB1, hB2, hB3, ⟨rfl, s1, s2, s3⟩, hC, hD, hF, hG, hHH, hI, ⟨k', ?_, b3⟩, hK, hQ, hU⟩⟩
        have e10 : x.1 10 = m.1 8 := hB2.2.1
        have e11 : x.1 11 = m.1 9 := hB2.2.2.1
        have b4 : Can N (al a1 (x.1 10) (x.1 11)) k' := b2
        rw [e10, e11] at b4
        exact b4
    · simp (decide := true) only [show nI 1 = (1 : Int32) from rfl, if_true, if_false, show iw_ok 1 4 = true from by decide, show Int32.toNatClampNeg 1 = 1 from by decide, show iw_lo 1 = 0 from rfl, show iw_hi 1 = 1000 from rfl, s1, wI_wF]
      by_cases c1 : 0 ≤ a1
      case neg => rw [if_neg c1, if_neg c1]; exact no4 h
      rw [if_pos c1, if_pos c1]
      by_cases c2 : a1 ≤ 1000
      case neg => rw [if_neg c2, if_neg c2]; exact no6 h
      rw [if_pos c2, if_pos c2]
      exact iw_E.mk _ ⟨H, N, me, ru, wo, d, ⟨hA, hB1, hB2, hB3, ⟨s0, rfl, s2, s3⟩, hC, hD, hF, hG, hHH, hI, hJ, hK, hQ, hU⟩⟩
    · simp (decide := true) only [show nI 2 = (2 : Int32) from rfl, if_true, if_false, show iw_ok 2 4 = true from by decide, show Int32.toNatClampNeg 2 = 2 from by decide, show iw_lo 2 = 0 from rfl, show iw_hi 2 = 100 from rfl, s2, wI_wF]
      by_cases c1 : 0 ≤ a1
      case neg => rw [if_neg c1, if_neg c1]; exact no4 h
      rw [if_pos c1, if_pos c1]
      by_cases c2 : a1 ≤ 100
      case neg => rw [if_neg c2, if_neg c2]; exact no6 h
      rw [if_pos c2, if_pos c2]
      exact iw_E.mk _ ⟨H, N, me, ru, wo, d, ⟨hA, hB1, hB2, hB3, ⟨s0, s1, rfl, s3⟩, hC, hD, hF, hG, hHH, hI, hJ, hK, hQ, hU⟩⟩
    · simp (decide := true) only [show nI 3 = (3 : Int32) from rfl, if_true, if_false, show iw_ok 3 4 = true from by decide, show Int32.toNatClampNeg 3 = 3 from by decide, show iw_lo 3 = 0 from rfl, show iw_hi 3 = 99 from rfl, s3, wI_wF]
      by_cases c1 : 0 ≤ a1
      case neg => rw [if_neg c1, if_neg c1]; exact no4 h
      rw [if_pos c1, if_pos c1]
      by_cases c2 : a1 ≤ 99
      case neg => rw [if_neg c2, if_neg c2]; exact no6 h
      rw [if_pos c2, if_pos c2]
      exact iw_E.mk _ ⟨H, N, me, ru, wo, d, ⟨hA, hB1, hB2, hB3, ⟨s0, s1, s2, rfl⟩, hC, hD, hF, hG, hHH, hI, hJ, hK, hQ, hU⟩⟩
/-- how many -/
def cst (P : Nat → Prop) [DecidablePred P] (i : Nat) (a : Int32) : Int32 := if P i then a + 1 else a
def cnt (P : Nat → Prop) [DecidablePred P] (N : Nat) : Int32 := lp (cst P) N 0 0
theorem cnt_cg {P Q : Nat → Prop} [DecidablePred P] [DecidablePred Q] {N : Nat} (h : ∀ i, i < N → (P i ↔ Q i)) : cnt P N = cnt Q N :=
  lp_cg N 0 0 (fun j b _ hj => by
    unfold cst
    by_cases c : P j
    · rw [if_pos c, if_pos ((h j (by omega)).mp c)]
    · rw [if_neg c, if_neg (fun q => c ((h j (by omega)).mpr q))])
theorem many3 (hN : N ≤ 40) (x : iw_M) (hs : x.1 8 10 = nI N) (s : Int32) : fX3_howMany s x = some (cnt (fun i => x.1 14 i = s) N, x) := by
  unfold fX3_howMany
  exact (loopF (fun n i a => fX3_howMany_L4 s (fun x2_1 x3_1 z_1 => some (x2_1, z_1)) n a (nI i) x) (fun a => some (a, x)) N (cst (fun i => x.1 14 i = s)) (fun _ _ => True) (fun n a _ => by
      rw [fX3_howMany_L4, hs, if_pos (nI_le (Nat.le_refl _) (by omega))]) (fun n i a hi _ => by
      rw [fX3_howMany_L4, hs, if_neg (by rw [nI_leI (by omega) (by omega)]; omega), if_pos (ok_nI (by omega) (by decide)), cl_nI (by omega), nI_1]
      unfold cst
      by_cases c : x.1 14 i = s
      · rw [if_pos c, if_pos c]; exact ⟨rfl, trivial⟩
      · rw [if_neg c, if_neg c]; exact ⟨rfl, trivial⟩) iw_fu 0 0 (by omega) (by unfold iw_fu; omega) trivial).1
theorem manyF (hN : N ≤ 40) (x : iw_M) (hs : x.1 8 10 = nI N) : fX1_howMany 19 x = some (cnt (fun i => x.1 20 i = nI i) N, x) := by
  unfold fX1_howMany
  exact (loopF (fun n i a => fX1_howMany_L4 19 (fun x2_1 x3_1 z_1 => some (x2_1, z_1)) n a (nI i) x) (fun a => some (a, x)) N (cst (fun i => x.1 20 i = nI i)) (fun _ _ => True) (fun n a _ => by
      rw [fX1_howMany_L4, hs, if_pos (nI_le (Nat.le_refl _) (by omega))]) (fun n i a hi _ => by
      rw [fX1_howMany_L4, hs, if_neg (by rw [nI_leI (by omega) (by omega)]; omega), if_pos (ok_nI (by omega) (by decide)), cl_nI (by omega), nI_1]
      unfold cst
      by_cases c : x.1 20 i = nI i
      · rw [if_pos c, if_pos c]; exact ⟨rfl, trivial⟩
      · rw [if_neg c, if_neg c]; exact ⟨rfl, trivial⟩) iw_fu 0 0 (by omega) (by unfold iw_fu; omega) trivial).1
theorem many97 (hN : N ≤ 40) (m : iw_M) (hs : m.1 0 2 = nI N) : fX9_count_L97 (fun x2_1 x3_1 z_1 => some (x2_1, z_1)) iw_fu (0 : Int32) (0 : Int32) m = some (cnt (fun i => m.1 12 i = 1) N, m) :=
  (loopF (fun n i a => fX9_count_L97 (fun x2_1 x3_1 z_1 => some (x2_1, z_1)) n a (nI i) m) (fun a => some (a, m)) N (cst (fun i => m.1 12 i = 1)) (fun _ _ => True) (fun n a _ => by
      rw [fX9_count_L97, hs, if_pos (nI_le (Nat.le_refl _) (by omega))]) (fun n i a hi _ => by
      rw [fX9_count_L97, hs, if_neg (by rw [nI_leI (by omega) (by omega)]; omega), if_pos (ok_nI (by omega) (by decide)), cl_nI (by omega), nI_1]
      unfold cst
      by_cases c : m.1 12 i = 1
      · rw [if_pos c, if_pos c]; exact ⟨rfl, trivial⟩
      · rw [if_neg c, if_neg c]; exact ⟨rfl, trivial⟩) iw_fu 0 0 (by omega) (by unfold iw_fu; omega) trivial).1
theorem many128 (hN : N ≤ 40) (m : iw_M) (hs : m.1 0 2 = nI N) : fX9_count_L128 (fun x2_1 x3_1 z_1 => some (x2_1, z_1)) iw_fu (0 : Int32) (0 : Int32) m = some (cnt (fun i => m.1 12 i = 2) N, m) :=
  (loopF (fun n i a => fX9_count_L128 (fun x2_1 x3_1 z_1 => some (x2_1, z_1)) n a (nI i) m) (fun a => some (a, m)) N (cst (fun i => m.1 12 i = 2)) (fun _ _ => True) (fun n a _ => by
      rw [fX9_count_L128, hs, if_pos (nI_le (Nat.le_refl _) (by omega))]) (fun n i a hi _ => by
      rw [fX9_count_L128, hs, if_neg (by rw [nI_leI (by omega) (by omega)]; omega), if_pos (ok_nI (by omega) (by decide)), cl_nI (by omega), nI_1]
      unfold cst
      by_cases c : m.1 12 i = 2
      · rw [if_pos c, if_pos c]; exact ⟨rfl, trivial⟩
      · rw [if_neg c, if_neg c]; exact ⟨rfl, trivial⟩) iw_fu 0 0 (by omega) (by unfold iw_fu; omega) trivial).1
theorem many167 (hN : N ≤ 40) (m : iw_M) (hs : m.1 0 2 = nI N) : fX9_count_L167 (fun x2_1 x3_1 z_1 => some (x2_1, z_1)) iw_fu (0 : Int32) (0 : Int32) m = some (cnt (fun i => m.1 31 i = nI i) N, m) :=
  (loopF (fun n i a => fX9_count_L167 (fun x2_1 x3_1 z_1 => some (x2_1, z_1)) n a (nI i) m) (fun a => some (a, m)) N (cst (fun i => m.1 31 i = nI i)) (fun _ _ => True) (fun n a _ => by
      rw [fX9_count_L167, hs, if_pos (nI_le (Nat.le_refl _) (by omega))]) (fun n i a hi _ => by
      rw [fX9_count_L167, hs, if_neg (by rw [nI_leI (by omega) (by omega)]; omega), if_pos (ok_nI (by omega) (by decide)), cl_nI (by omega), nI_1]
      unfold cst
      by_cases c : m.1 31 i = nI i
      · rw [if_pos c, if_pos c]; exact ⟨rfl, trivial⟩
      · rw [if_neg c, if_neg c]; exact ⟨rfl, trivial⟩) iw_fu 0 0 (by omega) (by unfold iw_fu; omega) trivial).1
theorem lp_sI (F : Nat → Int32) : ∀ n, lp (fun i a => a + F i) n 0 0 = sI F n
  | 0 => rfl
  | n + 1 => by rw [lp_succ, lp_sI F n, Nat.zero_add]; rfl
theorem coinsX (hH : H ≤ 40) (x : iw_M) (hs : x.1 1 6 = nI H) : fX2_coinsInAll x = some (sI (fun h => x.1 6 h + x.1 7 h) H, x) := by
  unfold fX2_coinsInAll
  rw [← lp_sI]
  exact (loopF (fun n i a => fX2_coinsInAll_L4 (fun x2_1 x3_1 z_1 => some (x2_1, z_1)) n a (nI i) x) (fun a => some (a, x)) H (fun i a => a + (x.1 6 i + x.1 7 i)) (fun _ _ => True) (fun n a _ => by
      rw [fX2_coinsInAll_L4, hs, if_pos (nI_le (Nat.le_refl _) (by omega))]) (fun n i a hi _ => by
      rw [fX2_coinsInAll_L4, hs, if_neg (by rw [nI_leI (by omega) (by omega)]; omega), if_pos (ok_nI (by omega) (by decide)), if_pos (ok_nI (by omega) (by decide)), cl_nI (by omega), nI_1]
      exact ⟨rfl, trivial⟩) iw_fu 0 0 (by omega) (by unfold iw_fu; omega) trivial).1
theorem sw_out {r : Type} {v : Int32} {l : List (Option (r × iw_M))} {e : Option (r × iw_M)} (hl : l.length < 2 ^ 30) (h : v < 0 ∨ nI l.length ≤ v) : iw_sw v 0 l e = e := by
  rcases iw_sw_get (x := v) (d := e) l 0 (by omega) with ⟨j, a, q1, q2, q3⟩ | ⟨-, q⟩
  · exfalso
    have hj : j < l.length := by
      rcases Nat.lt_or_ge j l.length with w | w
      · exact w
      · rw [List.getElem?_eq_none w] at q1; cases q1
    rw [Nat.zero_add] at q2
    rw [q2] at h
    rcases h with w | w
    · exact nI_pos (by omega) w
    · rw [nI_leI (by omega) (by omega)] at w; omega
  · exact q
theorem st_count (h : iw_Rel x m) (a0 : Int32) : iw_E (fX8_count a0 x) (fX9_count a0 m) := by
  obtain ⟨H, N, me, ru, wo, d, h⟩ := h
  have hN := h.1.1.2.1
  have hH := h.1.1.1
  have hR : iw_Rel x m := ⟨H, N, me, ru, wo, d, h⟩
  have e46 : x.1 46 = m.1 30 := h.2.2.2.1.2.2.2.2.2.2.2.2.2.2.2
  have e14 : x.1 14 = m.1 12 := h.2.2.1.2.2.2.2.2.1
  obtain ⟨a1, a2, a3, a4, a5, a6, a7⟩ := h.1
  obtain ⟨b1, b2, b3, b4, b5⟩ := h.2.1
  unfold fX8_count fX9_count fX9_count_J22
  rcases pk_ix a0 (n := 17) (by omega) with c | c | ⟨i, hi, rfl⟩
  · rw [sw_out (by show (10 : Nat) < 2 ^ 30; decide) (Or.inl c), if_pos, if_pos, sw_out (by show (10 : Nat) < 2 ^ 30; decide) (Or.inl c)]
    · exact iw_E.mk _ hR
    · rw [Int32.lt_iff_toInt_lt] at c
      rw [Int32.le_iff_toInt_le]
      have y0 : (0 : Int32).toInt = 0 := by decide
      have y1 : (10 : Int32).toInt = 10 := by decide
      omega
    · rw [Int32.lt_iff_toInt_lt] at c ⊢
      have y0 : (0 : Int32).toInt = 0 := by decide
      have y1 : (11 : Int32).toInt = 11 := by decide
      omega
  · have y17 : (nI 17 : Int32).toInt = 17 := by decide
    have c' := c
    rw [Int32.le_iff_toInt_le, y17] at c'
    have q10 : nI 10 ≤ a0 := by
      rw [Int32.le_iff_toInt_le, show (nI 10 : Int32).toInt = 10 from by decide]; omega
    rw [sw_out (by show (10 : Nat) < 2 ^ 30; decide) (Or.inr q10), if_neg, if_pos, if_neg, if_pos, sw_out (by show (10 : Nat) < 2 ^ 30; decide) (Or.inr q10)]
    · exact iw_E.mk _ hR
    · exact c
    · rw [Int32.le_iff_toInt_le, show (10 : Int32).toInt = 10 from by decide]; omega
    · rw [Int32.lt_iff_toInt_lt, show (16 : Int32).toInt = 16 from by decide]; omega
    · rw [Int32.lt_iff_toInt_lt, show (11 : Int32).toInt = 11 from by decide]; omega
  · by_cases c : i < 11
    · rw [if_pos (show nI i ≤ (10 : Int32) from by rw [show (10 : Int32) = nI 10 from rfl, nI_leI (by omega) (by omega)]; omega)]
      have hc : i = 0 ∨ i = 1 ∨ i = 2 ∨ i = 3 ∨ i = 4 ∨ i = 5 ∨ i = 6 ∨ i = 7 ∨ i = 8 ∨ i = 9 ∨ i = 10 := by omega
      simp only [iw_sw]
      rcases hc with rfl | rfl | rfl | rfl | rfl | rfl | rfl | rfl | rfl | rfl | rfl
      · simp (decide := true) only [if_true, if_false, a7.1, a7.2]; exact iw_E.mk _ hR
      · simp (decide := true) only [if_true, if_false, a2.1, a2.2]; exact iw_E.mk _ hR
      · simp (decide := true) only [if_true, if_false, a3.1, a3.2]; exact iw_E.mk _ hR
      · simp (decide := true) only [if_true, if_false, many3 hN x a3.1, many97 hN m a3.2, e14]; exact iw_E.mk _ hR
      · simp (decide := true) only [if_true, if_false, many3 hN x a3.1, many128 hN m a3.2, e14]; exact iw_E.mk _ hR
      · simp (decide := true) only [if_true, if_false, manyF hN x a3.1]
        obtain ⟨k, g, c1, c2, c3, c4, c5, c6⟩ := fam_now h
        rw [c4, Option.bind_some, Option.bind_some]
        dsimp only
        rw [many167 hN (iw_wF m 31 g) a3.2, cnt_cg (P := fun i => x.1 20 i = nI i) (Q := fun i => (iw_wF m 31 g).1 31 i = nI i) (fun i hi => by rw [wF_s, c3 i hi, c5 i hi])]
        exact iw_E.mk _ ⟨H, N, me, ru, wo, d, c6 g⟩
      · simp (decide := true) only [if_true, if_false, a4.1, a4.2]; exact iw_E.mk _ hR
      · simp (decide := true) only [if_true, if_false, a5.1, a5.2]; exact iw_E.mk _ hR
      · simp (decide := true) only [if_true, if_false, a6.1, a6.2]; exact iw_E.mk _ hR
      · simp (decide := true) only [if_true, if_false, coinsX hH x a2.1, b3, b4, h.2.2.2.2.2.2.2.2.2.2.2.2.1.1]; exact iw_E.mk _ hR
      · simp (decide := true) only [if_true, if_false]; exact iw_E.mk _ hR
    · have hs : nI i - 10 = nI (i - 10) := by
        have : nI i = nI (i - 10) + nI 10 := by rw [nI_add]; congr 1; omega
        rw [this]; show nI (i - 10) + 10 - 10 = _; grind
      rw [sw_out (by show (10 : Nat) < 2 ^ 30; decide) (Or.inr (by show nI 10 ≤ nI i; rw [nI_leI (by omega) (by omega)]; omega)), if_neg (show ¬ nI i < (11 : Int32) from by rw [show (11 : Int32) = nI 11 from rfl, nI_ltI (by omega) (by omega)]; omega), if_neg (show ¬ (16 : Int32) < nI i from by rw [show (16 : Int32) = nI 16 from rfl, nI_ltI (by omega) (by omega)]; omega), if_neg (show ¬ nI i ≤ (10 : Int32) from by rw [show (10 : Int32) = nI 10 from rfl, nI_leI (by omega) (by omega)]; omega), if_neg (show ¬ (17 : Int32) ≤ nI i from by rw [show (17 : Int32) = nI 17 from rfl, nI_leI (by omega) (by omega)]; omega), hs, if_pos (ok_nI (by omega) (by decide)), if_pos (ok_nI (by omega) (by decide)), e46]
      exact iw_E.mk _ hR
end STEPS5
