theorem shareX {kf N i : Nat} {kd fn : Nat → Nat} (hk0 : 12 ≤ kf) (hN : N ≤ 40) (x : iw_M) (hs : x.1 8 10 = nI N) (hk : ∀ j, j < N → x.1 (kf + 1) j = nI (kd j)) (hd : Kd N kd) (hfn : ∀ j, j < N → fn j ≤ 9 ∧ x.1 12 j = nI (fn j)) (hi : i < N) (hde : Int32) : fX1_shareOf kf (nI i) hde x = some (shrS (x.1 13) (x.1 12) fn kd N hde i, x) := by
  have hki := hd i hi
  have hf : kd i < N := by omega
  obtain ⟨g1, g2⟩ := headS_in (ca := x.1 13) (fi := x.1 12) hf hki.2
  obtain ⟨w1, w2, w3⟩ := wgt0 (kd := kd) (f := kd i) (h := headS (x.1 13) (x.1 12) kd N (kd i)) (fun j hj => (hfn j hj).1) (show kd i ≤ N by omega)
  unfold fX1_shareOf shrS
  generalize hh : headS (x.1 13) (x.1 12) kd N (kd i) = h at *
  rw [if_pos (ok_nI (by omega) (by decide)), cl_nI (by omega), hk i hi, headX hN x hs hk hd hf hki.2, hh, Option.bind_some]
  have L1 := fun (K : Int32 → Int32 → iw_M → Option (Int32 × iw_M)) => (loopF (fun n j a => fX1_shareOf_L20 kf (nI i) hde (nI (kd i)) (nI h) K n (nI a.1) (nI j) x) (fun a => K (nI a.1) (nI N) x) N (wst fn kd (kd i) h) (fun _ _ => True) (fun n a _ => by
      rw [fX1_shareOf_L20, hs, if_pos (nI_le (Nat.le_refl _) (by omega))]) (fun n j a hj _ => by
      have b1 := (hd j hj).1
      rw [fX1_shareOf_L20, hs, if_neg (by rw [nI_leI (by omega) (by omega)]; omega), if_pos (ok_nI (by omega) (by decide)), cl_nI (by omega), hk j hj, nI_1]
      unfold wst
      by_cases c : kd j = kd i
      · rw [if_pos (by rw [c])]
        by_cases d : j = h
        · rw [if_pos (by rw [d]), if_neg (fun q => q.2 d)]
          exact ⟨rfl, trivial⟩
        · rw [if_neg (fun q => d ((nI_eq (by omega) (by omega)).mp q)), if_pos (ok_nI (by omega) (by decide)), if_pos ⟨c, d⟩, (hfn j hj).2, show (1 : Int32) = nI 1 from rfl, nI_add, nI_add]
          exact ⟨rfl, trivial⟩
      · rw [if_neg (fun q => c ((nI_eq (by omega) (by omega)).mp q)), if_neg (fun q => c q.1)]
        exact ⟨rfl, trivial⟩) iw_fu (kd i) (0, 0) (by omega) (by unfold iw_fu; omega) trivial).1
  refine Eq.trans (L1 _) ?_
  rw [show lp (wst fn kd (kd i) h) (N - kd i) (kd i) (0, 0) = wgt fn kd N (kd i) h from rfl]
  show (if nI (wgt fn kd N (kd i) h).1 = 0 then _ else _) = _
  by_cases c : (wgt fn kd N (kd i) h).1 = 0
  · rw [if_pos (by rw [c]; rfl), if_pos c]
  · have c0 : ¬ nI (wgt fn kd N (kd i) h).1 = 0 := nI_ne0 (by omega) (by omega)
    rw [if_neg c0, if_neg c]
    by_cases d : i = h
    · rw [if_pos (by rw [d]), if_pos d]
      have L2 := (loopF (fun n j a => fX1_shareOf_L117 kf hde (nI (kd i)) (nI h) (nI (wgt fn kd N (kd i) h).1) (fun x6_3 x7_3 z_3 => some (x6_3, z_3)) n a (nI j) x) (fun a => some (a, x)) N (lst (x.1 12) kd (kd i) h hde (nI (wgt fn kd N (kd i) h).1)) (fun _ _ => True) (fun n a _ => by
        rw [fX1_shareOf_L117, hs, if_pos (nI_le (Nat.le_refl _) (by omega))]) (fun n j a hj _ => by
        have b1 := (hd j hj).1
        rw [fX1_shareOf_L117, hs, if_neg (by rw [nI_leI (by omega) (by omega)]; omega), if_pos (ok_nI (by omega) (by decide)), cl_nI (by omega), hk j hj, nI_1]
        unfold lst
        by_cases c : kd j = kd i
        · rw [if_pos (by rw [c])]
          by_cases d : j = h
          · rw [if_pos (by rw [d]), if_neg (fun q => q.2 d)]
            exact ⟨rfl, trivial⟩
          · rw [if_neg (fun q => d ((nI_eq (by omega) (by omega)).mp q)), if_pos (ok_nI (by omega) (by decide)), if_neg c0, if_pos ⟨c, d⟩]
            exact ⟨rfl, trivial⟩
        · rw [if_neg (fun q => c ((nI_eq (by omega) (by omega)).mp q)), if_neg (fun q => c q.1)]
          exact ⟨rfl, trivial⟩) iw_fu (kd i) 1000 (by omega) (by unfold iw_fu; omega) trivial).1
      exact L2
    · rw [if_neg (fun q => d ((nI_eq (by omega) (by omega)).mp q)), if_neg d, if_pos (ok_nI (by omega) (by decide)), if_neg c0]
theorem shareM {N i : Nat} {kd fn : Nat → Nat} (hN : N ≤ 40) (m : iw_M) (hs : m.1 0 2 = nI N) (hk : ∀ j, j < N → m.1 31 j = nI (kd j)) (hd : Kd N kd) (hfn : ∀ j, j < N → fn j ≤ 9 ∧ m.1 10 j = nI (fn j)) (hi : i < N) : fX9_shareOf (nI i) m = some (shrS (m.1 11) (m.1 10) fn kd N (m.1 0 7) i, m) := by
  have hki := hd i hi
  have hf : kd i < N := by omega
  obtain ⟨g1, g2⟩ := headS_in (ca := m.1 11) (fi := m.1 10) hf hki.2
  obtain ⟨w1, w2, w3⟩ := wgt0 (kd := kd) (f := kd i) (h := headS (m.1 11) (m.1 10) kd N (kd i)) (fun j hj => (hfn j hj).1) (show kd i ≤ N by omega)
  unfold fX9_shareOf shrS
  generalize hh : headS (m.1 11) (m.1 10) kd N (kd i) = h at *
  rw [if_pos (ok_nI (by omega) (by decide)), cl_nI (by omega), hk i hi, headM hN m hs hk hd hf hki.2, hh, Option.bind_some]
  have L1 := fun (K : Int32 → Int32 → Int32 → iw_M → Option (Int32 × iw_M)) => (loopF (fun n j a => fX9_shareOf_L19 (nI i) (nI h) K n (nI a.1) (nI a.2) (nI j) m) (fun a => K (nI a.1) (nI a.2) (nI N) m) N (wst fn kd (kd i) h) (fun _ _ => True) (fun n a _ => by
      rw [fX9_shareOf_L19, hs, if_pos (nI_le (Nat.le_refl _) (by omega))]) (fun n j a hj _ => by
      have b1 := (hd j hj).1
      rw [fX9_shareOf_L19, hs, if_neg (by rw [nI_leI (by omega) (by omega)]; omega), if_pos (ok_nI (by omega) (by decide)), if_pos (ok_nI (show i < 40 by omega) (by decide)), cl_nI (by omega), cl_nI (by omega), hk j hj, hk i hi, nI_1]
      unfold wst
      by_cases c : kd j = kd i
      · rw [if_pos (by rw [c])]
        by_cases d : j = h
        · rw [if_pos (by rw [d]), if_neg (fun q => q.2 d)]
          exact ⟨rfl, trivial⟩
        · rw [if_neg (fun q => d ((nI_eq (by omega) (by omega)).mp q)), if_pos (ok_nI (by omega) (by decide)), if_pos ⟨c, d⟩, (hfn j hj).2, nI_1, show (1 : Int32) = nI 1 from rfl, nI_add, nI_add]
          exact ⟨rfl, trivial⟩
      · rw [if_neg (fun q => c ((nI_eq (by omega) (by omega)).mp q)), if_neg (fun q => c q.1)]
        exact ⟨rfl, trivial⟩) iw_fu 0 (0, 0) (by omega) (by unfold iw_fu; omega) trivial).1
  refine Eq.trans (L1 _) ?_
  have sk : lp (wst fn kd (kd i) h) (N - 0) 0 (0, 0) = wgt fn kd N (kd i) h := lp_skip (t := kd i) (kd i - 0) 0 rfl (by omega) (by omega) (fun j _ hj => by
    have := (hd j (by omega)).1
    unfold wst
    rw [if_neg (by omega)])
  rw [sk]
  show (if nI (wgt fn kd N (kd i) h).2 = 0 then _ else _) = _
  by_cases c : (wgt fn kd N (kd i) h).1 = 0
  · rw [if_pos (by rw [w1.mp c]; rfl), if_pos c]
  · have c0 : ¬ nI (wgt fn kd N (kd i) h).1 = 0 := nI_ne0 (by omega) (by omega)
    have c2 : ¬ (wgt fn kd N (kd i) h).2 = 0 := fun q => c (w1.mpr q)
    have c1 : ¬ nI (wgt fn kd N (kd i) h).2 = 0 := nI_ne0 (by omega) (by omega)
    rw [if_neg c1, if_neg c]
    by_cases d : i = h
    · rw [if_pos (by rw [d]), if_pos d]
      have L2 := (loopF (fun n j a => fX9_shareOf_L116 (nI i) (nI h) (nI (wgt fn kd N (kd i) h).1) (fun x5_3 x6_3 z_3 => some (x5_3, z_3)) n a (nI j) m) (fun a => some (a, m)) N (lst (m.1 10) kd (kd i) h (m.1 0 7) (nI (wgt fn kd N (kd i) h).1)) (fun _ _ => True) (fun n a _ => by
        rw [fX9_shareOf_L116, hs, if_pos (nI_le (Nat.le_refl _) (by omega))]) (fun n j a hj _ => by
        have b1 := (hd j hj).1
        rw [fX9_shareOf_L116, hs, if_neg (by rw [nI_leI (by omega) (by omega)]; omega), if_pos (ok_nI (by omega) (by decide)), if_pos (ok_nI (show i < 40 by omega) (by decide)), cl_nI (by omega), cl_nI (by omega), hk j hj, hk i hi, nI_1]
        unfold lst
        by_cases c : kd j = kd i
        · rw [if_pos (by rw [c])]
          by_cases d : j = h
          · rw [if_pos (by rw [d]), if_neg (fun q => q.2 d)]
            exact ⟨rfl, trivial⟩
          · rw [if_neg (fun q => d ((nI_eq (by omega) (by omega)).mp q)), if_pos (ok_nI (by omega) (by decide)), if_neg c0, if_pos ⟨c, d⟩]
            exact ⟨rfl, trivial⟩
        · rw [if_neg (fun q => c ((nI_eq (by omega) (by omega)).mp q)), if_neg (fun q => c q.1)]
          exact ⟨rfl, trivial⟩) iw_fu 0 1000 (by omega) (by unfold iw_fu; omega) trivial).1
      have sk2 : lp (lst (m.1 10) kd (kd i) h (m.1 0 7) (nI (wgt fn kd N (kd i) h).1)) (N - 0) 0 1000 = lft (m.1 10) kd N (kd i) h (m.1 0 7) (nI (wgt fn kd N (kd i) h).1) := lp_skip (t := kd i) (kd i - 0) 0 rfl (by omega) (by omega) (fun j _ hj => by
        have := (hd j (by omega)).1
        unfold lst
        rw [if_neg (by omega)])
      rw [sk2] at L2
      exact L2
    · rw [if_neg (fun q => d ((nI_eq (by omega) (by omega)).mp q)), if_neg d, if_pos (ok_nI (by omega) (by decide)), if_neg c0]
/-- harms of a family -/
def hmst (hm : Nat → Int32) (kd : Nat → Nat) (f i : Nat) (a : Int32) : Int32 := if kd i = f then a + hm i else a
def harmS (hm : Nat → Int32) (kd : Nat → Nat) (N f : Nat) : Int32 := lp (hmst hm kd f) (N - f) f 0
theorem harmX {kf N f : Nat} {kd : Nat → Nat} (hN : N ≤ 40) (x : iw_M) (hs : x.1 8 10 = nI N) (hk : ∀ j, j < N → x.1 (kf + 1) j = nI (kd j)) (hd : Kd N kd) (hf : f < N) : fX1_harmOf kf (nI f) x = some (harmS (x.1 17) kd N f, x) := by
  unfold fX1_harmOf
  exact (loopF (fun n j a => fX1_harmOf_L4 kf (nI f) (fun x2_1 x3_1 z_1 => some (x2_1, z_1)) n a (nI j) x) (fun a => some (a, x)) N (hmst (x.1 17) kd f) (fun _ _ => True) (fun n a _ => by
      rw [fX1_harmOf_L4, hs, if_pos (nI_le (Nat.le_refl _) (by omega))]) (fun n j a hj _ => by
      have b1 := (hd j hj).1
      rw [fX1_harmOf_L4, hs, if_neg (by rw [nI_leI (by omega) (by omega)]; omega), if_pos (ok_nI (by omega) (by decide)), cl_nI (by omega), hk j hj, nI_1]
      unfold hmst
      by_cases c : kd j = f
      · rw [if_pos (by rw [c]), if_pos (ok_nI (by omega) (by decide)), if_pos c]
        exact ⟨rfl, trivial⟩
      · rw [if_neg (fun q => c ((nI_eq (by omega) (by omega)).mp q)), if_neg c]
        exact ⟨rfl, trivial⟩) iw_fu f 0 (by omega) (by unfold iw_fu; omega) trivial).1
/-- has a family one taken -/
def tkS (sta : Nat → Int32) (kd : Nat → Nat) (N f : Nat) : Prop := ∃ i, i < N ∧ kd i = f ∧ sta i = 1
theorem takenX_L {kf N f : Nat} {kd : Nat → Nat} (hN : N ≤ 40) (x : iw_M) (hs : x.1 8 10 = nI N) (hk : ∀ j, j < N → x.1 (kf + 1) j = nI (kd j)) (hd : Kd N kd) (hf : f < N) : ∀ (n i : Nat), i ≤ N → N < n + i → (∀ j, j < i → kd j = f → x.1 14 j ≠ 1) → ∃ r : Int32, fX1_hasTaken_L2 kf (nI f) (fun x2_1 z_1 => some ((0 : Int32), z_1)) n (nI i) x = some (r, x) ∧ (r = 0 ↔ ¬ tkS (x.1 14) kd N f) := by
  intro n
  induction n with
  | zero => intro i h1 h2; omega
  | succ n ih =>
    intro i h1 h2 h3
    rw [fX1_hasTaken_L2, hs]
    by_cases h : i = N
    · subst h
      rw [if_pos (nI_le (Nat.le_refl _) (by omega))]
      exact ⟨0, rfl, by simp only [true_iff]; rintro ⟨j, a1, a2, a3⟩; exact h3 j a1 a2 a3⟩
    · have b1 := (hd i (by omega)).1
      rw [if_neg (by rw [nI_leI (by omega) (by omega)]; omega), if_pos (ok_nI (by omega) (by decide)), cl_nI (by omega), hk i (by omega), nI_1]
      by_cases c : kd i = f
      · rw [if_pos (by rw [c]), if_pos (ok_nI (by omega) (by decide))]
        by_cases d : x.1 14 i = 1
        · rw [if_pos d]
          exact ⟨1, rfl, by simp; exact ⟨i, by omega, c, d⟩⟩
        · rw [if_neg d]
          exact ih (i + 1) (by omega) (by omega) (fun j h4 h5 => by
            by_cases q : j = i
            · rw [q]; exact d
            · exact h3 j (by omega) h5)
      · rw [if_neg (fun q => c ((nI_eq (by omega) (by omega)).mp q))]
        exact ih (i + 1) (by omega) (by omega) (fun j h4 h5 => by
          by_cases q : j = i
          · rw [q] at h5; exact absurd h5 c
          · exact h3 j (by omega) h5)
theorem takenX {kf N f : Nat} {kd : Nat → Nat} (hN : N ≤ 40) (x : iw_M) (hs : x.1 8 10 = nI N) (hk : ∀ j, j < N → x.1 (kf + 1) j = nI (kd j)) (hd : Kd N kd) (hf : f < N) : ∃ r : Int32, fX1_hasTaken kf (nI f) x = some (r, x) ∧ (r = 0 ↔ ¬ tkS (x.1 14) kd N f) := by
  unfold fX1_hasTaken
  exact takenX_L hN x hs hk hd hf iw_fu f (by omega) (by unfold iw_fu; omega) (fun j h1 h2 => by have := (hd j (by omega)).1; omega)
