section STEPS9
variable {x m : iw_M} {H N me ru wo d : Nat}
theorem iw_rel0 : iw_Rel iw_zX iw_zM := by
  refine ⟨0, 0, 0, 0, 0, 0, ⟨by decide, ⟨rfl, rfl⟩, ⟨rfl, rfl⟩, ⟨rfl, rfl⟩, ⟨rfl, rfl⟩, ⟨rfl, rfl⟩, ⟨rfl, rfl⟩⟩, ⟨rfl, rfl, rfl, rfl, rfl⟩, ⟨rfl, rfl, rfl, rfl, rfl, rfl, rfl, rfl⟩, ⟨rfl, rfl, rfl, rfl, rfl, rfl, rfl, rfl, rfl, rfl, rfl, rfl⟩, ⟨by decide, by decide, by decide, by decide⟩, ⟨fun i h => absurd h (Nat.not_lt_zero i), fun i _ => ⟨rfl, rfl⟩⟩, fun i h => absurd h (Nat.not_lt_zero i), fun i h => absurd h (Nat.not_lt_zero i), fun a b _ _ => ⟨Or.inl rfl, ?_, ?_⟩, ⟨fun i h => absurd h (Nat.not_lt_zero i), fun i h => absurd h (Nat.not_lt_zero i), fun i _ => rfl⟩, ⟨fun i _ => ⟨fun q => absurd rfl q, fun ⟨w, h, _⟩ => absurd h (Nat.not_lt_zero w)⟩, fun w h => absurd h (Nat.not_lt_zero w)⟩, ⟨fun i => i, Can.z _ _, fun i h => absurd h (Nat.not_lt_zero i)⟩, ⟨rfl, fun _ _ => ⟨rfl, rfl⟩⟩, fun i h => absurd h (Nat.not_lt_zero i), fun _ => Or.inl rfl⟩
  · show bt64 0 b = true ↔ (0 : Int32) ≠ 0
    rw [bt_0]; simp
  · show bt64 0 b = bt64 0 a
    rw [bt_0, bt_0]
noncomputable def ost (sta : Nat → Int32) (kd : Nat → Nat) (N : Nat) (T : Nat → Int32) (i : Nat) (a : Int32) : Int32 := @ite _ (kd i = i ∧ tkS sta kd N i) (Classical.propDecidable _) (a + T i) a
theorem ost_y {sta : Nat → Int32} {kd : Nat → Nat} {T : Nat → Int32} {i : Nat} {a : Int32} (h : kd i = i ∧ tkS sta kd N i) : ost sta kd N T i a = a + T i := if_pos h
theorem ost_n {sta : Nat → Int32} {kd : Nat → Nat} {T : Nat → Int32} {i : Nat} {a : Int32} (h : ¬ (kd i = i ∧ tkS sta kd N i)) : ost sta kd N T i a = a := if_neg h
theorem other_X {kd : Nat → Nat} {p c : Int32} {T : Nat → Int32} (hN : N ≤ 40) (hme : me ≤ 200) (x : iw_M) (hs8 : x.1 8 10 = nI N) (hs : x.1 26 4 = nI me) (hk : ∀ j, j < N → x.1 22 j = nI (kd j)) (hd : Kd N kd) (hm : msOk (x.1 27) (x.1 28) (x.1 30) me N) (hT : ∀ f, T f = payS (wthS (fun b => tal (x.1 27) (x.1 28) (x.1 29) (x.1 30) kd me f b) (x.1 25) (x.1 17) kd N f) p c) : ∀ (n i : Nat) (a : Int32) (z : iw_M), i ≤ N → N < n + i → Fr x z → ∃ z', fX8_other_L66 p c (fun x4_11 x5_11 z_11 => some (x4_11, z_11)) n a (nI i) z = some (lp (ost (x.1 14) kd N T) (N - i) i a, z') ∧ Fr x z' := by
  intro n
  induction n with
  | zero => intro i a z h1 h2; omega
  | succ n ih =>
    intro i a z h1 h2 hF
    have e8 : z.1 8 = x.1 8 := hF.2 8 (by omega)
    have e22 : z.1 22 = x.1 22 := hF.2 22 (by omega)
    have e14 : z.1 14 = x.1 14 := hF.2 14 (by omega)
    rw [fX8_other_L66, e8, hs8]
    by_cases y : i = N
    · rw [if_pos (by rw [y]; exact nI_le (Nat.le_refl _) (by omega)), y, Nat.sub_self]
      exact ⟨z, rfl, hF⟩
    · have b1 := (hd i (by omega)).1
      rw [if_neg (by rw [nI_leI (by omega) (by omega)]; omega), if_pos (ok_nI (by omega) (by decide)), cl_nI (by omega), e22, hk i (by omega), nI_1, show N - i = (N - (i + 1)) + 1 by omega, lp]
      by_cases c1 : kd i = i
      · rw [if_pos (by rw [c1])]
        obtain ⟨r, r1, r2⟩ := takenX (kf := 21) hN z (by rw [e8]; exact hs8) (fun j hj => by rw [e22]; exact hk j hj) hd (show i < N by omega)
        rw [r1, Option.bind_some]
        rw [e14] at r2
        dsimp only
        by_cases c2 : r = 0
        · rw [if_pos c2, ost_n (fun q => (r2.mp c2) q.2)]
          exact ih (i + 1) a z (by omega) (by omega) hF
        · rw [if_neg c2, ost_y ⟨c1, Classical.byContradiction fun q => c2 (r2.mpr q)⟩]
          obtain ⟨z', w1, w2⟩ := worthX (kf := 21) (x := z) (by omega) hN hme (by rw [e8]; exact hs8) (by rw [hF.2 26 (by omega)]; exact hs) (fun j hj => by rw [e22]; exact hk j hj) hd (show i < N by omega) (by rw [hF.2 27 (by omega), hF.2 28 (by omega), hF.2 30 (by omega)]; exact hm)
          rw [hF.2 27 (by omega), hF.2 28 (by omega), hF.2 29 (by omega), hF.2 30 (by omega), hF.2 25 (by omega), hF.2 17 (by omega)] at w1
          rw [w1, Option.bind_some]
          dsimp only
          rw [payX, Option.bind_some, ← hT i]
          exact ih (i + 1) (a + T i) z' (by omega) (by omega) (hF.tr w2)
      · rw [if_neg (fun q => c1 ((nI_eq (by omega) (by omega)).mp q)), ost_n (fun q => c1 q.1)]
        exact ih (i + 1) a z (by omega) (by omega) hF
theorem taken_M {kd : Nat → Nat} {f : Nat} (hN : N ≤ 40) (m : iw_M) (hs : m.1 0 2 = nI N) (hk : ∀ j, j < N → m.1 31 j = nI (kd j)) (hd : Kd N kd) (hf : f < N) (p c s : Int32) (K : Int32 → Int32 → iw_M → Option (Int32 × iw_M)) : ∃ r : Int32, fX9_other_L86 p c s (nI f) K iw_fu 0 0 m = K r (nI N) m ∧ (r = 0 ↔ ¬ tkS (m.1 12) kd N f) := by
  have L := loopF (fun n i a => fX9_other_L86 p c s (nI f) K n a (nI i) m) (fun a => K a (nI N) m) N (fun i a => if kd i = f ∧ m.1 12 i = 1 then 1 else a) (fun i a => (a = 0 ↔ ¬ ∃ j, j < i ∧ kd j = f ∧ m.1 12 j = 1)) (fun n a _ => by
      rw [fX9_other_L86, hs, if_pos (nI_le (Nat.le_refl _) (by omega))]) (fun n i a hi ha => by
      have b1 := (hd i hi).1
      rw [fX9_other_L86, hs, if_neg (by rw [nI_leI (by omega) (by omega)]; omega), if_pos (ok_nI (by omega) (by decide)), cl_nI (by omega), hk i hi, nI_1]
      have nx : ¬ (kd i = f ∧ m.1 12 i = 1) → (a = 0 ↔ ¬ ∃ j, j < i + 1 ∧ kd j = f ∧ m.1 12 j = 1) := by
        intro q
        rw [ha]
        constructor
        · rintro w ⟨j, j1, j2⟩
          by_cases e : j = i
          · rw [e] at j2; exact q j2
          · exact w ⟨j, by omega, j2⟩
        · rintro w ⟨j, j1, j2⟩; exact w ⟨j, by omega, j2⟩
      by_cases c1 : kd i = f
      · rw [if_pos (by rw [c1]), if_pos (ok_nI (by omega) (by decide))]
        by_cases c2 : m.1 12 i = 1
        · rw [if_pos c2, if_pos ⟨c1, c2⟩]
          refine ⟨rfl, ?_⟩
          constructor
          · intro q; exact absurd q (by decide)
          · intro q; exact absurd ⟨i, by omega, c1, c2⟩ q
        · rw [if_neg c2, if_neg (fun q => c2 q.2)]
          exact ⟨rfl, nx (fun q => c2 q.2)⟩
      · rw [if_neg (fun q => c1 ((nI_eq (by omega) (by omega)).mp q)), if_neg (fun q => c1 q.1)]
        exact ⟨rfl, nx (fun q => c1 q.1)⟩) iw_fu 0 0 (by omega) (by unfold iw_fu; omega) (by simp)
  exact ⟨_, L.1, L.2⟩
theorem other_M {kd : Nat → Nat} {p c : Int32} {T : Nat → Int32} (hN : N ≤ 40) (hme : me ≤ 200) (m : iw_M) (hs2 : m.1 0 2 = nI N) (hs : m.1 0 3 = nI me) (hk : ∀ j, j < N → m.1 31 j = nI (kd j)) (hd : Kd N kd) (hm : msOk (m.1 21) (m.1 22) (m.1 23) me N) (hT : ∀ f, T f = payS (wthS (fun b => tal (m.1 21) (m.1 22) (m.1 24) (m.1 23) kd me f b) (m.1 20) (m.1 15) kd N f) p c) : fX9_other_L56 p c (fun x4_8 x5_8 z_8 => some (x4_8, z_8)) iw_fu 0 0 m = some (lp (ost (m.1 12) kd N T) N 0 0, m) :=
  (loopF (fun n i a => fX9_other_L56 p c (fun x4_8 x5_8 z_8 => some (x4_8, z_8)) n a (nI i) m) (fun a => some (a, m)) N (ost (m.1 12) kd N T) (fun _ _ => True) (fun n a _ => by
      rw [fX9_other_L56, hs2, if_pos (nI_le (Nat.le_refl _) (by omega))]) (fun n i a hi _ => by
      have b1 := (hd i hi).1
      rw [fX9_other_L56, hs2, if_neg (by rw [nI_leI (by omega) (by omega)]; omega), if_pos (ok_nI (by omega) (by decide)), cl_nI (by omega), hk i hi, nI_1]
      by_cases c1 : kd i = i
      · rw [if_pos (by rw [c1])]
        obtain ⟨r, r1, r2⟩ := taken_M hN m hs2 hk hd hi p c a (fun x6_6 x7_6 z_6 => (if x6_6 = 0 then
          fX9_other_L56 p c (fun x4_8 x5_8 z_8 => some (x4_8, z_8)) n a (nI (i + 1)) z_6
          else
          ((fX9_pay (nI i) p c z_6).bind (fun q7 =>
          fX9_other_L56 p c (fun x4_8 x5_8 z_8 => some (x4_8, z_8)) n (a + q7.1) (nI (i + 1)) q7.2))))
        rw [r1]
        by_cases c2 : r = 0
        · rw [if_pos c2, ost_n (fun q => (r2.mp c2) q.2)]
          exact ⟨rfl, trivial⟩
        · rw [if_neg c2, ost_y ⟨c1, Classical.byContradiction fun q => c2 (r2.mpr q)⟩, payM (worthM hN hme m hs hs2 hk hd hi hm), Option.bind_some, ← hT i]
          exact ⟨rfl, trivial⟩
      · rw [if_neg (fun q => c1 ((nI_eq (by omega) (by omega)).mp q)), ost_n (fun q => c1 q.1)]
        exact ⟨rfl, trivial⟩) iw_fu 0 0 (by omega) (by unfold iw_fu; omega) trivial).1
theorem st_other (h : iw_Rel x m) (a0 : Int32) (a1 : Int32) (a2 : Int32) : iw_E (fX8_other a0 a1 a2 x) (fX9_other a0 a1 a2 m) := by
  obtain ⟨H, N, me, ru, wo, d, h⟩ := h
  have hN := h.1.1.2.1
  have hme := h.1.1.2.2.1
  unfold fX8_other fX9_other
  rw [if_pos (show iw_ok 0 4 = true from by decide), if_pos (show iw_ok 0 4 = true from by decide), show Int32.toNatClampNeg 0 = 0 from by decide, show iw_lo 0 = 1 from rfl, show iw_hi 0 = 40 from rfl]
  by_cases c1 : a0 < 1
  · rw [if_pos c1, if_pos c1]; exact no4 h
  rw [if_neg c1, if_neg c1]
  by_cases c2 : a1 < 0
  · rw [if_pos c2, if_pos c2]; exact no4 h
  rw [if_neg c2, if_neg c2]
  by_cases c3 : 0 ≤ a2
  case neg => rw [if_neg c3, if_neg c3]; exact no4 h
  rw [if_pos c3, if_pos c3]
  by_cases c4 : 40 < a0
  · rw [if_pos c4, if_pos c4]; exact no6 h
  rw [if_neg c4, if_neg c4]
  by_cases c5 : 100 < a1
  · rw [if_pos c5, if_pos c5]; exact no6 h
  rw [if_neg c5, if_neg c5]
  by_cases c6 : a2 ≤ 100000
  case neg => rw [if_neg c6, if_neg c6]; exact no6 h
  rw [if_pos c6, if_pos c6]
  obtain ⟨p1, p2, p3, p4, p5, p6, p7, p8⟩ := h.2.2.1
  obtain ⟨b1, b2, b3, b4, b5, b6, -⟩ := h.2.2.2.1
  obtain ⟨g, k, g1, g2, g3⟩ := buildX (kf := 21) (lim := a0) (by omega) hN x h.1.2.2.1.1
  obtain ⟨g', k', f1, f2, f3⟩ := famM (lim := a0) hN m h.1.2.2.1.2 (fun j hj => ⟨_, (h.2.2.2.2.2.1.1 j hj).2.1.2, (h.2.2.2.2.2.1.1 j hj).2.1.1⟩)
  rw [p2, p3] at g2
  have ek := f2.un g2
  have kd := g2.kd
  rw [g1, f1, Option.bind_some, Option.bind_some]
  dsimp only
  have hms := h.2.2.2.2.2.2.2.1
  obtain ⟨z', o1, o2⟩ := other_X (p := a1) (c := a2) (T := fun f => payS (wthS (fun b => tal (x.1 27) (x.1 28) (x.1 29) (x.1 30) k me f b) (x.1 25) (x.1 17) k N f) a1 a2) hN hme (iw_wF x 22 g) h.1.2.2.1.1 h.1.2.2.2.1.1 (fun j hj => by rw [wF_s]; exact g3 j hj) kd (by show msOk (x.1 27) (x.1 28) (x.1 30) me N; rw [b3, b4, b5]; exact hms) (fun _ => rfl) iw_fu 0 0 (iw_wF x 22 g) (by omega) (by unfold iw_fu; omega) (Fr.rf _)
  have o3 := other_M (p := a1) (c := a2) (T := fun f => payS (wthS (fun b => tal (m.1 21) (m.1 22) (m.1 24) (m.1 23) k me f b) (m.1 20) (m.1 15) k N f) a1 a2) hN hme (iw_wF m 31 g') h.1.2.2.1.2 h.1.2.2.2.1.2 (fun j hj => by rw [wF_s, f3 j hj, ek j hj]) kd hms (fun _ => rfl)
  have o1' : fX8_other_L66 a1 a2 (fun x4_11 x5_11 z_11 => some (x4_11, z_11)) iw_fu 0 0 (iw_wF x 22 g) = _ := o1
  rw [o1', o3]
  rw [show (iw_wF x 22 g).1 14 = m.1 12 from p6, b2, b3, b4, b5, b6, p8]
  refine iw_E.mk _ ⟨H, N, me, ru, wo, d, ?_⟩
  obtain ⟨hA, hB1, hB2, hB3, hB4, hC, hD, hF, hG, hHH, hI, hJ, hK, hQ, hU⟩ := h
  have q : RP (iw_wF x 22 g) (iw_wF m 31 g') H N me ru wo d := ⟨hA, hB1, hB2, hB3, hB4, hC, hD, hF, hG, hHH, hI, hJ, hK, hQ, hU⟩
  exact q.fr o2
end STEPS9
