/-! PURE: the class's sets of judges -/
theorem handsOfX {i h : Nat} (hi : i < 40) (hh : h < 40) (x : iw_M) (e : x.1 9 i = nI h) : fX3_handsOf (nI i) x = some (x.2 18 i ||| lN (2 ^ h), x) := by
  unfold fX3_handsOf
  rw [if_pos (ok_nI hi (by decide)), if_pos (ok_nI hi (by decide)), cl_nI (by omega), e, one_shl (by omega)]
theorem bt_p {h g : Nat} (hh : h < 64) (hg : g < 64) : bt64 (lN (2 ^ h)) g = decide (g = h) := by rw [← one_shl hh]; exact bt_one hh hg
def fhst (tm : Nat → Int64) (hn kd : Nat → Nat) (f i : Nat) (a : Int64) : Int64 := if kd i = f then a ||| (tm i ||| lN (2 ^ hn i)) else a
theorem famHands {N f : Nat} {kd hn : Nat → Nat} (hN : N ≤ 40) (x : iw_M) (hs : x.1 8 10 = nI N) (hk : ∀ j, j < N → x.1 20 j = nI (kd j)) (hd : Kd N kd) (hf : f < N) (hh : ∀ j, j < N → hn j < 40 ∧ x.1 9 j = nI (hn j)) : ∃ S : Int64, fX1_handsOf 19 (nI f) x = some (S, x) ∧ ∀ g, g < 40 → (bt64 S g = true ↔ ∃ k, k < N ∧ kd k = f ∧ (bt64 (x.2 18 k) g = true ∨ g = hn k)) := by
  have L := (loopF (fun n i a => fX1_handsOf_L5 19 (nI f) (fun x2_2 x4_2 z_2 => some (x2_2, z_2)) n a (nI i) x) (fun a => some (a, x)) N (fhst (x.2 18) hn kd f) (fun i a => ∀ g, g < 40 → (bt64 a g = true ↔ ∃ k, k < i ∧ kd k = f ∧ (bt64 (x.2 18 k) g = true ∨ g = hn k))) (fun n a _ => by
      rw [fX1_handsOf_L5, hs, if_pos (nI_le (Nat.le_refl _) (by omega))]) (fun n i a hi ha => by
      have b1 := (hd i hi).1
      rw [fX1_handsOf_L5, hs, if_neg (by rw [nI_leI (by omega) (by omega)]; omega), if_pos (ok_nI (by omega) (by decide)), cl_nI (by omega), hk i hi, nI_1]
      by_cases c : kd i = f
      · rw [if_pos (by rw [c]), handsOfX (by omega) (hh i hi).1 x (hh i hi).2, Option.bind_some, show fhst (x.2 18) hn kd f i a = a ||| (x.2 18 i ||| lN (2 ^ hn i)) from if_pos c]
        refine ⟨rfl, fun g hg => ?_⟩
        rw [bt_or, bt_or, bt_p (by have := (hh i hi).1; omega) (by omega)]
        simp only [Bool.or_eq_true, decide_eq_true_eq, ha g hg]
        constructor
        · rintro (⟨k, q1, q2, q3⟩ | q)
          · exact ⟨k, by omega, q2, q3⟩
          · exact ⟨i, by omega, c, q⟩
        · rintro ⟨k, q1, q2, q3⟩
          by_cases w : k = i
          · rw [w] at q3; exact Or.inr q3
          · exact Or.inl ⟨k, by omega, q2, q3⟩
      · rw [if_neg (fun q => c ((nI_eq (by omega) (by omega)).mp q)), show fhst (x.2 18) hn kd f i a = a from if_neg c]
        refine ⟨rfl, fun g hg => ?_⟩
        rw [ha g hg]
        constructor
        · rintro ⟨k, q1, q2, q3⟩; exact ⟨k, by omega, q2, q3⟩
        · rintro ⟨k, q1, q2, q3⟩
          by_cases w : k = i
          · rw [w] at q2; exact absurd q2 c
          · exact ⟨k, by omega, q2, q3⟩) iw_fu f 0 (by omega) (by unfold iw_fu; omega) (fun g hg => by
      rw [bt_0]
      constructor
      · intro q; cases q
      · rintro ⟨k, q1, q2, q3⟩
        have := (hd k (by omega)).1
        omega))
  unfold fX1_handsOf
  exact ⟨_, L.1, L.2⟩
def wkst (S : Int64) (kn : Nat → Int64) (h : Nat) (a : Int64) : Int64 := if bt64 S h = true then a ||| kn h else a
theorem withKinX {H : Nat} (hH : H ≤ 40) (x : iw_M) (hs : x.1 1 6 = nI H) (S : Int64) : ∃ T : Int64, fX2_withKin S x = some (T, x) ∧ ∀ g, g < 40 → (bt64 T g = true ↔ bt64 S g = true ∨ ∃ h, h < H ∧ bt64 S h = true ∧ bt64 (x.2 3 h) g = true) := by
  have L := (loopF (fun n h a => fX2_withKin_L5 S (fun x3_2 x5_2 z_2 => some (x3_2, z_2)) n a (nI h) x) (fun a => some (a, x)) H (wkst S (x.2 3)) (fun i a => ∀ g, g < 40 → (bt64 a g = true ↔ bt64 S g = true ∨ ∃ h, h < i ∧ bt64 S h = true ∧ bt64 (x.2 3 h) g = true)) (fun n a _ => by
      rw [fX2_withKin_L5, hs, if_pos (nI_le (Nat.le_refl _) (by omega))]) (fun n h a hh ha => by
      rw [fX2_withKin_L5, hs, if_neg (by rw [nI_leI (by omega) (by omega)]; omega), hasX (by omega), Option.bind_some, nI_1]
      unfold wkst
      cases c : bt64 S h
      · refine ⟨rfl, fun g hg => ?_⟩
        rw [if_neg (by decide), ha g hg]
        constructor
        · rintro (q | ⟨k, q1, q2, q3⟩)
          · exact Or.inl q
          · exact Or.inr ⟨k, by omega, q2, q3⟩
        · rintro (q | ⟨k, q1, q2, q3⟩)
          · exact Or.inl q
          · by_cases w : k = h
            · rw [w, c] at q2; cases q2
            · exact Or.inr ⟨k, by omega, q2, q3⟩
      · simp only [if_true]
        rw [if_neg (by decide), if_pos (ok_nI (by omega) (by decide)), cl_nI (by omega)]
        refine ⟨rfl, fun g hg => ?_⟩
        rw [bt_or]
        simp only [Bool.or_eq_true, ha g hg]
        constructor
        · rintro ((q | ⟨k, q1, q2, q3⟩) | q)
          · exact Or.inl q
          · exact Or.inr ⟨k, by omega, q2, q3⟩
          · exact Or.inr ⟨h, by omega, c, q⟩
        · rintro (q | ⟨k, q1, q2, q3⟩)
          · exact Or.inl (Or.inl q)
          · by_cases w : k = h
            · rw [w] at q3; exact Or.inr q3
            · exact Or.inl (Or.inr ⟨k, by omega, q2, q3⟩)) iw_fu 0 S (by omega) (by unfold iw_fu; omega) (fun g hg => by
      constructor
      · intro q; exact Or.inl q
      · rintro (q | ⟨k, q1, q2, q3⟩)
        · exact q
        · omega))
  unfold fX2_withKin
  exact ⟨_, L.1, L.2⟩
def jost (jd sh : Nat → Int32) (s : Int32) (h : Nat) (a : Int64) : Int64 := if jd h ≠ 0 ∧ sh h ≠ s then a ||| lN (2 ^ h) else a
theorem outsideX {H : Nat} (hH : H ≤ 40) (x : iw_M) (hs : x.1 1 6 = nI H) (s : Int32) : ∃ T : Int64, fX2_judgesOutside s x = some (T, x) ∧ ∀ g, g < 40 → (bt64 T g = true ↔ g < H ∧ x.1 4 g ≠ 0 ∧ x.1 2 g ≠ s) := by
  have L := (loopF (fun n h a => fX2_judgesOutside_L5 s (fun x2_1 x4_1 z_1 => some (x2_1, z_1)) n a (nI h) x) (fun a => some (a, x)) H (jost (x.1 4) (x.1 2) s) (fun i a => ∀ g, g < 40 → (bt64 a g = true ↔ g < i ∧ x.1 4 g ≠ 0 ∧ x.1 2 g ≠ s)) (fun n a _ => by
      rw [fX2_judgesOutside_L5, hs, if_pos (nI_le (Nat.le_refl _) (by omega))]) (fun n h a hh ha => by
      have no : ¬ (x.1 4 h ≠ 0 ∧ x.1 2 h ≠ s) → jost (x.1 4) (x.1 2) s h a = a ∧ ∀ g, g < 40 → (bt64 a g = true ↔ g < h + 1 ∧ x.1 4 g ≠ 0 ∧ x.1 2 g ≠ s) := by
        intro q
        refine ⟨if_neg q, fun g hg => ?_⟩
        rw [ha g hg]
        constructor
        · rintro ⟨w1, w2⟩; exact ⟨by omega, w2⟩
        · rintro ⟨w1, w2⟩
          by_cases y : g = h
          · rw [y] at w2; exact absurd w2 q
          · exact ⟨by omega, w2⟩
      rw [fX2_judgesOutside_L5, hs, if_neg (by rw [nI_leI (by omega) (by omega)]; omega), if_pos (ok_nI (by omega) (by decide)), cl_nI (by omega), nI_1]
      by_cases c : x.1 4 h = 0
      · obtain ⟨n1, n2⟩ := no (fun q => q.1 c)
        rw [if_pos c, n1]
        exact ⟨rfl, n2⟩
      · rw [if_neg c, if_pos (ok_nI (by omega) (by decide))]
        by_cases d : x.1 2 h = s
        · obtain ⟨n1, n2⟩ := no (fun q => q.2 d)
          rw [if_pos d, n1]
          exact ⟨rfl, n2⟩
        · rw [if_neg d, one_shl (by omega), show jost (x.1 4) (x.1 2) s h a = a ||| lN (2 ^ h) from if_pos ⟨c, d⟩]
          refine ⟨rfl, fun g hg => ?_⟩
          rw [bt_or, bt_p (by omega) (by omega)]
          simp only [Bool.or_eq_true, decide_eq_true_eq, ha g hg]
          constructor
          · rintro (⟨w1, w2⟩ | w)
            · exact ⟨by omega, w2⟩
            · rw [w]; exact ⟨by omega, c, d⟩
          · rintro ⟨w1, w2⟩
            by_cases y : g = h
            · exact Or.inr y
            · exact Or.inl ⟨by omega, w2⟩) iw_fu 0 0 (by omega) (by unfold iw_fu; omega) (fun g hg => by
      rw [bt_0]
      constructor
      · intro q; cases q
      · rintro ⟨q, -⟩; omega))
  unfold fX2_judgesOutside
  exact ⟨_, L.1, L.2⟩
theorem judgesX {N H i : Nat} {kd hn : Nat → Nat} (hN : N ≤ 40) (hH : H ≤ 40) (x : iw_M) (hs : x.1 8 10 = nI N) (hs1 : x.1 1 6 = nI H) (hk : ∀ j, j < N → x.1 20 j = nI (kd j)) (hd : Kd N kd) (hi : i < N) (hh : ∀ j, j < N → hn j < 40 ∧ x.1 9 j = nI (hn j)) : ∃ S : Int64, fX8_judgesFor (nI i) x = some (S, x) ∧ ∀ g, g < 40 → (bt64 S g = true ↔ (g < H ∧ x.1 4 g ≠ 0 ∧ x.1 2 g ≠ x.1 10 i) ∧ ¬ ((∃ k, k < N ∧ kd k = kd i ∧ (bt64 (x.2 18 k) g = true ∨ g = hn k)) ∨ ∃ h, h < H ∧ (∃ k, k < N ∧ kd k = kd i ∧ (bt64 (x.2 18 k) h = true ∨ h = hn k)) ∧ bt64 (x.2 3 h) g = true)) := by
  have hki := (hd i hi).1
  obtain ⟨S1, e1, f1⟩ := famHands hN x hs hk hd (show kd i < N by omega) hh
  obtain ⟨S2, e2, f2⟩ := withKinX hH x hs1 S1
  obtain ⟨S3, e3, f3⟩ := outsideX hH x hs1 (x.1 10 i)
  unfold fX8_judgesFor
  rw [if_pos (ok_nI (by omega) (by decide)), cl_nI (by omega), hk i hi, e1, Option.bind_some, e2, Option.bind_some, if_pos (ok_nI (by omega) (by decide)), e3, Option.bind_some]
  refine ⟨_, rfl, fun g hg => ?_⟩
  rw [bt_and, bt_xor, bt_m1 g (by omega)]
  have f2g := f2 g hg
  have f3g := f3 g hg
  simp only [Bool.and_eq_true, f3g]
  have : (bt64 S2 g ^^ true) = true ↔ ¬ bt64 S2 g = true := by cases bt64 S2 g <;> simp
  rw [this, f2g, f1 g hg]
  constructor
  · rintro ⟨q1, q2⟩
    refine ⟨q1, fun q => q2 ?_⟩
    rcases q with q | ⟨h, w1, w2, w3⟩
    · exact Or.inl q
    · exact Or.inr ⟨h, w1, (f1 h (by omega)).mpr w2, w3⟩
  · rintro ⟨q1, q2⟩
    refine ⟨q1, fun q => q2 ?_⟩
    rcases q with q | ⟨h, w1, w2, w3⟩
    · exact Or.inl q
    · exact Or.inr ⟨h, w1, (f1 h (by omega)).mp w2, w3⟩
theorem withoutX (S : Int64) (o : Option Nat) (ho : ∀ b, o = some b → b < 40) (z : iw_M) : ∃ T : Int64, fX8_without S (oI o) z = some (T, z) ∧ ∀ g, g < 40 → (bt64 T g = true ↔ bt64 S g = true ∧ nI g ≠ oI o) := by
  unfold fX8_without
  cases o with
  | none =>
    rw [show oI none = -9 from rfl, if_pos rfl]
    exact ⟨S, rfl, fun g hg => by
      constructor
      · intro q; exact ⟨q, nI_n9 (by omega)⟩
      · intro q; exact q.1⟩
  | some b =>
    have hb := ho b rfl
    rw [show oI (some b) = nI b from rfl, if_neg (nI_n9 (by omega)), one_shl (by omega)]
    refine ⟨_, rfl, fun g hg => ?_⟩
    rw [bt_and, bt_xor, bt_m1 g (by omega), bt_p (by omega) (by omega)]
    simp only [Bool.and_eq_true]
    have : (decide (g = b) ^^ true) = true ↔ nI g ≠ nI b := by
      by_cases c : g = b
      · simp [c]
      · have : nI g ≠ nI b := fun q => c ((nI_eq (by omega) (by omega)).mp q)
        simp [c, this]
    rw [this]
