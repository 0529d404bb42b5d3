/-! PURE: sets of hands, judges -/
def bt64 (S : Int64) (h : Nat) : Bool := S.toBitVec.getLsbD h
theorem cmp0 (v : Int64) : lg_cmp v 0 = 0 ↔ v = 0 := by
  unfold lg_cmp
  by_cases c : v > 0
  · rw [if_pos c]
    constructor
    · intro q; exact absurd q (by decide)
    · intro q; rw [q] at c; exact absurd c (by decide)
  · rw [if_neg c]
    by_cases d : v = 0
    · rw [if_pos d]; simp [d]
    · rw [if_neg d]
      constructor
      · intro q; exact absurd q (by decide)
      · intro q; exact absurd q d
theorem hasX {h : Nat} (hh : h < 64) (S : Int64) (z : iw_M) : fX8_has S (nI h) z = some (if bt64 S h then 1 else 0, z) := by
  unfold fX8_has
  have e := ts_bit (w := S) (s := ((Int32.toInt64 (nI h)).toUInt64 &&& Int64.toUInt64 63)) hh (by rw [wb_cu h hh]; exact u_tn (by omega))
  cases d : bt64 S h
  · rw [if_pos ((cmp0 _).mpr (e.mpr d))]; rfl
  · rw [if_neg (fun q => by rw [cmp0] at q; have := e.mp q; unfold bt64 at d; rw [d] at this; cases this)]; rfl
theorem bt_or (A B : Int64) (g : Nat) : bt64 (A ||| B) g = (bt64 A g || bt64 B g) := by
  unfold bt64
  rw [Int64.toBitVec_or, BitVec.getLsbD_or]
theorem bt_and (A B : Int64) (g : Nat) : bt64 (A &&& B) g = (bt64 A g && bt64 B g) := by
  unfold bt64
  rw [Int64.toBitVec_and, BitVec.getLsbD_and]
theorem bt_xor (A B : Int64) (g : Nat) : bt64 (A ^^^ B) g = (bt64 A g ^^ bt64 B g) := by
  unfold bt64
  rw [Int64.toBitVec_xor, BitVec.getLsbD_xor]
theorem bt_m1 : ∀ g, g < 64 → bt64 (-1) g = true := by decide +kernel
theorem bt_0 (g : Nat) : bt64 0 g = false := by
  unfold bt64
  show (0#64).getLsbD g = false
  simp
theorem bt_lN (a g : Nat) (hg : g < 64) : bt64 (lN a) g = a.testBit g := by
  unfold bt64
  rw [lN_bv, BitVec.getLsbD_ofNat]
  simp [hg]
theorem one_shl {h : Nat} (hh : h < 64) : (1 : Int64) <<< (Int32.toInt64 (nI h) &&& 63) = lN (2 ^ h) := by
  have := wb_shl 1 hh
  rw [Nat.one_mul] at this
  exact this
theorem bt_one {h g : Nat} (hh : h < 64) (hg : g < 64) : bt64 ((1 : Int64) <<< (Int32.toInt64 (nI h) &&& 63)) g = decide (g = h) := by
  rw [one_shl hh, bt_lN _ _ hg, Nat.testBit_two_pow]
  by_cases c : h = g
  · simp [c]
  · have : ¬ g = h := fun q => c q.symm
    simp [c, this]
/-- the hands of an idea, as the reference has them -/
def OF (m : iw_M) (k g : Nat) : Prop := m.1 7 k = nI g ∨ ∃ t, t < cN (m.1 16) k ∧ m.1 17 (6 * k + t) = nI g
def tmOk (m : iw_M) (N : Nat) : Prop := ∀ k, k < N → m.1 16 k = nI (cN (m.1 16) k) ∧ cN (m.1 16) k ≤ 6
theorem isOf_L {m : iw_M} {k g : Nat} (hk : k < 40) (h1 : m.1 16 k = nI (cN (m.1 16) k)) (h2 : cN (m.1 16) k ≤ 6) : ∀ (n t : Nat), t ≤ cN (m.1 16) k → cN (m.1 16) k < n + t → (∀ s, s < t → m.1 17 (6 * k + s) ≠ nI g) → ∃ r : Int32, fX9_isOf_L14 (nI k) (nI g) (fun x3_1 z_1 => some ((0 : Int32), z_1)) n (nI t) m = some (r, m) ∧ (r = 0 ↔ ¬ ∃ t, t < cN (m.1 16) k ∧ m.1 17 (6 * k + t) = nI g) := by
  intro n
  induction n with
  | zero => intro t a b; omega
  | succ n ih =>
    intro t a b hs
    rw [fX9_isOf_L14, if_pos (ok_nI hk (by decide)), cl_nI (by omega), h1]
    by_cases c : t = cN (m.1 16) k
    · rw [if_pos (by rw [← c]; exact nI_le (Nat.le_refl _) (by omega))]
      refine ⟨0, rfl, by simp only [true_iff]; rintro ⟨s, q1, q2⟩; exact hs s (by omega) q2⟩
    · rw [if_neg (by rw [nI_leI (by omega) (by omega)]; omega), show (6 : Int32) = nI 6 from rfl, pk_mul, nI_add, if_pos (ok_nI (by omega) (by decide)), cl_nI (by omega), nI_1]
      by_cases d : m.1 17 (6 * k + t) = nI g
      · rw [if_pos d]
        exact ⟨1, rfl, by simp; exact ⟨t, by omega, d⟩⟩
      · rw [if_neg d]
        exact ih (t + 1) (by omega) (by omega) (fun s hs2 => by
          by_cases q : s = t
          · rw [q]; exact d
          · exact hs s (by omega))
theorem isOfM {m : iw_M} {k g : Nat} (hk : k < 40) (h1 : m.1 16 k = nI (cN (m.1 16) k)) (h2 : cN (m.1 16) k ≤ 6) : ∃ r : Int32, fX9_isOf (nI k) (nI g) m = some (r, m) ∧ (r = 0 ↔ ¬ OF m k g) := by
  unfold fX9_isOf OF
  rw [if_pos (ok_nI hk (by decide)), cl_nI (by omega)]
  by_cases c : m.1 7 k = nI g
  · rw [if_pos c]
    exact ⟨1, rfl, by simp [c]⟩
  · rw [if_neg c]
    obtain ⟨r, e1, e2⟩ := isOf_L (g := g) hk h1 h2 iw_fu 0 (by omega) (by unfold iw_fu; omega) (fun s h => by omega)
    exact ⟨r, e1, by rw [e2]; simp [c]⟩
/-- g keeps h from judging the idea k -/
def bad (m : iw_M) (h k g : Nat) : Prop := OF m k g ∧ (g = h ∨ m.1 6 (40 * g + h) ≠ 0)
def MJ (m : iw_M) (kd : Nat → Nat) (N H h i : Nat) : Prop := m.1 5 h ≠ 0 ∧ m.1 1 h ≠ m.1 8 i ∧ ∀ k g, k < N → kd k = kd i → g < H → ¬ bad m h k g
theorem mayj_in {m : iw_M} {H h k : Nat} {v2 : Int32} {K : Int32 → iw_M → Option (Int32 × iw_M)} (hH : H ≤ 40) (hs : m.1 0 1 = nI H) (hh : h < 40) (hk : k < 40) (h1 : m.1 16 k = nI (cN (m.1 16) k)) (h2 : cN (m.1 16) k ≤ 6) : ∀ (n g : Nat), g ≤ H → H < n + g →
    ((∃ c, g ≤ c ∧ c < H ∧ bad m h k c) ∧ fX9_mayJudge_L57 (nI h) v2 (nI k) K n (nI g) m = some (0, m)) ∨ ((∀ c, g ≤ c → c < H → ¬ bad m h k c) ∧ fX9_mayJudge_L57 (nI h) v2 (nI k) K n (nI g) m = K (nI H) m) := by
  intro n
  induction n with
  | zero => intro g a b; omega
  | succ n ih =>
    intro g a b
    rw [fX9_mayJudge_L57, hs]
    by_cases c : g = H
    · rw [if_pos (by rw [c]; exact nI_le (Nat.le_refl _) (by omega))]
      exact Or.inr ⟨fun d e f => by omega, by rw [c]⟩
    · rw [if_neg (by rw [nI_leI (by omega) (by omega)]; omega)]
      obtain ⟨r, e1, e2⟩ := isOfM (g := g) hk h1 h2
      rw [e1, Option.bind_some, nI_1]
      have hgH : g < H := by omega
      have nx := ih (g + 1) (by omega) (by omega)
      have ext : ¬ bad m h k g → (((∃ c, g ≤ c ∧ c < H ∧ bad m h k c) ∧ fX9_mayJudge_L57 (nI h) v2 (nI k) K n (nI (g + 1)) m = some (0, m)) ∨ ((∀ c, g ≤ c → c < H → ¬ bad m h k c) ∧ fX9_mayJudge_L57 (nI h) v2 (nI k) K n (nI (g + 1)) m = K (nI H) m)) := by
        intro hb
        rcases nx with ⟨⟨d, q1, q2, q3⟩, q4⟩ | ⟨q1, q2⟩
        · exact Or.inl ⟨⟨d, by omega, q2, q3⟩, q4⟩
        · refine Or.inr ⟨fun d w1 w2 => ?_, q2⟩
          by_cases y : d = g
          · rw [y]; exact hb
          · exact q1 d (by omega) w2
      dsimp only
      by_cases d : r = 0
      · rw [if_pos d]
        exact ext (fun q => (e2.mp d) q.1)
      · rw [if_neg d]
        have hof : OF m k g := Classical.byContradiction fun q => d (e2.mpr q)
        by_cases e : g = h
        · rw [if_pos (by rw [e])]
          exact Or.inl ⟨⟨g, Nat.le_refl _, hgH, hof, Or.inl e⟩, rfl⟩
        · rw [if_neg (fun q => e ((nI_eq (by omega) (by omega)).mp q)), show (40 : Int32) = nI 40 from rfl, pk_mul, nI_add, if_pos (ok_nI (by omega) (by decide)), cl_nI (by omega)]
          by_cases f : m.1 6 (40 * g + h) = 0
          · rw [if_pos f]
            exact ext (fun q => q.2.elim e (fun w => w f))
          · rw [if_neg f]
            exact Or.inl ⟨⟨g, Nat.le_refl _, hgH, hof, Or.inr f⟩, rfl⟩
theorem mayj_mid {m : iw_M} {N H h i : Nat} {kd : Nat → Nat} {K : Int32 → iw_M → Option (Int32 × iw_M)} (hN : N ≤ 40) (hH : H ≤ 40) (hs : m.1 0 1 = nI H) (hs2 : m.1 0 2 = nI N) (hk : ∀ j, j < N → m.1 31 j = nI (kd j)) (hd : Kd N kd) (ht : tmOk m N) (hh : h < 40) (hi : i < N) : ∀ (n k : Nat), k ≤ N → N < n + k →
    ((∃ c g, k ≤ c ∧ c < N ∧ kd c = kd i ∧ g < H ∧ bad m h c g) ∧ fX9_mayJudge_L28 (nI h) (nI i) K n (nI k) m = some (0, m)) ∨ ((∀ c g, k ≤ c → c < N → kd c = kd i → g < H → ¬ bad m h c g) ∧ fX9_mayJudge_L28 (nI h) (nI i) K n (nI k) m = K (nI N) m) := by
  intro n
  induction n with
  | zero => intro k a b; omega
  | succ n ih =>
    intro k a b
    rw [fX9_mayJudge_L28, hs2]
    by_cases c : k = N
    · rw [if_pos (by rw [c]; exact nI_le (Nat.le_refl _) (by omega))]
      exact Or.inr ⟨fun d g e f => by omega, by rw [c]⟩
    · have b1 := (hd k (by omega)).1
      have b2 := (hd i hi).1
      rw [if_neg (by rw [nI_leI (by omega) (by omega)]; omega), if_pos (ok_nI (by omega) (by decide)), if_pos (ok_nI (show i < 40 by omega) (by decide)), cl_nI (by omega), cl_nI (by omega), hk k (by omega), hk i hi, nI_1]
      have nx := ih (k + 1) (by omega) (by omega)
      by_cases d : kd k = kd i
      · rw [if_pos (by rw [d]), show (0 : Int32) = nI 0 from rfl]
        rcases mayj_in (v2 := nI i) (K := fun x4_2 z_2 => fX9_mayJudge_L28 (nI h) (nI i) K n (nI (k + 1)) z_2) hH hs hh (show k < 40 by omega) (ht k (by omega)).1 (ht k (by omega)).2 iw_fu 0 (by omega) (by unfold iw_fu; omega) with ⟨⟨g, q1, q2, q3⟩, q4⟩ | ⟨q1, q2⟩
        · exact Or.inl ⟨⟨k, g, Nat.le_refl _, by omega, d, q2, q3⟩, q4⟩
        · rw [q2]
          rcases nx with ⟨⟨e, g, w1, w2, w3, w4, w5⟩, w6⟩ | ⟨w1, w2⟩
          · exact Or.inl ⟨⟨e, g, by omega, w2, w3, w4, w5⟩, w6⟩
          · refine Or.inr ⟨fun e g y1 y2 y3 y4 => ?_, w2⟩
            by_cases y : e = k
            · rw [y]; exact q1 g (by omega) y4
            · exact w1 e g (by omega) y2 y3 y4
      · rw [if_neg (fun q => d ((nI_eq (by omega) (by omega)).mp q))]
        rcases nx with ⟨⟨e, g, w1, w2, w3, w4, w5⟩, w6⟩ | ⟨w1, w2⟩
        · exact Or.inl ⟨⟨e, g, by omega, w2, w3, w4, w5⟩, w6⟩
        · refine Or.inr ⟨fun e g y1 y2 y3 y4 => ?_, w2⟩
          by_cases y : e = k
          · rw [y] at y3; exact absurd y3 d
          · exact w1 e g (by omega) y2 y3 y4
theorem mayM {m : iw_M} {N H h i : Nat} {kd : Nat → Nat} (hN : N ≤ 40) (hH : H ≤ 40) (hs : m.1 0 1 = nI H) (hs2 : m.1 0 2 = nI N) (hk : ∀ j, j < N → m.1 31 j = nI (kd j)) (hd : Kd N kd) (ht : tmOk m N) (hh : h < 40) (hi : i < N) : ∃ r : Int32, fX9_mayJudge (nI h) (nI i) m = some (r, m) ∧ (r = 0 ∨ r = 1) ∧ (r = 0 ↔ ¬ MJ m kd N H h i) := by
  unfold fX9_mayJudge MJ
  rw [if_pos (ok_nI hh (by decide)), if_pos (ok_nI hh (by decide)), if_pos (ok_nI (show i < 40 by omega) (by decide)), cl_nI (by omega), cl_nI (by omega)]
  by_cases c : m.1 5 h = 0
  · rw [if_pos c]
    exact ⟨0, rfl, Or.inl rfl, by simp [c]⟩
  · rw [if_neg c]
    by_cases d : m.1 1 h = m.1 8 i
    · rw [if_pos d]
      exact ⟨0, rfl, Or.inl rfl, by simp [d]⟩
    · rw [if_neg d, show (0 : Int32) = nI 0 from rfl]
      rcases mayj_mid (K := fun x3_3 z_3 => some ((1 : Int32), z_3)) hN hH hs hs2 hk hd ht hh hi iw_fu 0 (by omega) (by unfold iw_fu; omega) with ⟨⟨e, g, w1, w2, w3, w4, w5⟩, w6⟩ | ⟨w1, w2⟩
      · refine ⟨0, w6, Or.inl rfl, ?_⟩
        simp only [show nI 0 = (0 : Int32) from rfl, true_iff]
        intro q
        exact q.2.2 e g w2 w3 w4 w5
      · refine ⟨1, w2, Or.inr rfl, ?_⟩
        constructor
        · intro q; exact absurd q (by decide)
        · intro q; exact absurd ⟨c, d, fun k g y1 y2 y3 => w1 k g (by omega) y1 y2 y3⟩ q
/-- the least named of those in P -/
def jst (P : Nat → Bool) (nm : Nat → Int32) (h : Nat) : Option Nat → Option Nat
  | none => if P h then some h else none
  | some b => if P h then (if nm b ≤ nm h then some b else some h) else some b
def bstS (P : Nat → Bool) (nm : Nat → Int32) (H : Nat) : Option Nat := lp (jst P nm) H 0 none
theorem bst_in {P : Nat → Bool} {nm : Nat → Int32} {H : Nat} : ∀ b, bstS P nm H = some b → b < H ∧ P b = true := by
  have := lp_inv (f := jst P nm) (P := fun a => ∀ b, a = some b → b < H ∧ P b = true) (N := H) (fun i a hi ha b hb => by
    cases a with
    | none =>
      unfold jst at hb
      by_cases c : P i = true
      · simp only [c, if_true] at hb; cases hb; exact ⟨hi, c⟩
      · simp [c] at hb
    | some e =>
      unfold jst at hb
      by_cases c : P i = true
      · simp only [c, if_true] at hb
        by_cases d : nm e ≤ nm i
        · rw [if_pos d] at hb; cases hb; exact ha _ rfl
        · rw [if_neg d] at hb; cases hb; exact ⟨hi, c⟩
      · simp only [c] at hb; exact ha b (by simpa using hb)) H 0 none (by omega) (fun b h => by cases h)
  exact this
theorem leastX {H : Nat} (hH : H ≤ 40) (x : iw_M) (hs : x.1 1 6 = nI H) (S : Int64) : fX2_leastNamed S x = some (oI (bstS (bt64 S) (x.1 5) H), x) := by
  unfold fX2_leastNamed
  exact (loopF (fun n i b => fX2_leastNamed_L6 S (fun x3_2 x4_2 z_2 => some (x3_2, z_2)) n (oI b) (nI i) x) (fun b => some (oI b, x)) H (jst (bt64 S) (x.1 5)) (fun _ b => ∀ c, b = some c → c < H) (fun n a ha => by
      rw [fX2_leastNamed_L6, hs, if_pos (nI_le (Nat.le_refl _) (by omega))]) (fun n i a hi ha => by
      rw [fX2_leastNamed_L6, hs, if_neg (by rw [nI_leI (by omega) (by omega)]; omega), hasX (by omega), Option.bind_some, nI_1]
      cases a with
      | none =>
        rw [show oI none = -9 from rfl]
        cases c : bt64 S i
        · rw [show jst (bt64 S) (x.1 5) i none = none from by unfold jst; rw [c]; rfl]
          exact ⟨rfl, ha⟩
        · rw [show jst (bt64 S) (x.1 5) i none = some i from by unfold jst; rw [c]; rfl]
          exact ⟨rfl, fun c h => by cases h; exact hi⟩
      | some b =>
        have hb := ha b rfl
        rw [show oI (some b) = nI b from rfl]
        cases c : bt64 S i
        · rw [show jst (bt64 S) (x.1 5) i (some b) = some b from by unfold jst; rw [c]; rfl]
          exact ⟨rfl, ha⟩
        · simp only [if_true]
          rw [if_neg (by decide), if_neg (nI_n9 (b := b) (by omega)), if_pos (ok_nI (by omega) (by decide)), if_pos (ok_nI (show b < 40 by omega) (by decide)), cl_nI (by omega), cl_nI (by omega)]
          by_cases e : x.1 5 b ≤ x.1 5 i
          · rw [if_pos e, show jst (bt64 S) (x.1 5) i (some b) = some b from by unfold jst; simp only [c, if_true]; rw [if_pos e]]
            exact ⟨rfl, ha⟩
          · rw [if_neg e, show jst (bt64 S) (x.1 5) i (some b) = some i from by unfold jst; simp only [c, if_true]; rw [if_neg e]]
            exact ⟨rfl, fun c h => by cases h; exact hi⟩) iw_fu 0 none (by omega) (by unfold iw_fu; omega) (fun c h => by cases h)).1
theorem nextM {m : iw_M} {N H i : Nat} {kd : Nat → Nat} (hN : N ≤ 40) (hH : H ≤ 40) (hs : m.1 0 1 = nI H) (hs2 : m.1 0 2 = nI N) (hk : ∀ j, j < N → m.1 31 j = nI (kd j)) (hd : Kd N kd) (ht : tmOk m N) (hi : i < N) (u v : Int32) (P : Nat → Bool) (hP : ∀ h, h < H → (P h = true ↔ nI h ≠ u ∧ nI h ≠ v ∧ MJ m kd N H h i)) : fX9_nextJudge (nI i) u v m = some (oI (bstS P (m.1 2) H), m) := by
  unfold fX9_nextJudge
  exact (loopF (fun n h b => fX9_nextJudge_L7 (nI i) u v (fun x4_2 x5_2 z_2 => some (x4_2, z_2)) n (oI b) (nI h) m) (fun b => some (oI b, m)) H (jst P (m.1 2)) (fun _ b => ∀ c, b = some c → c < H) (fun n a ha => by
      rw [fX9_nextJudge_L7, hs, if_pos (nI_le (Nat.le_refl _) (by omega))]) (fun n h a hh ha => by
      rw [fX9_nextJudge_L7, hs, if_neg (by rw [nI_leI (by omega) (by omega)]; omega), nI_1]
      have no : P h = false → jst P (m.1 2) h a = a := by
        intro q
        cases a <;> simp [jst, q]
      by_cases c1 : nI h = u
      · rw [if_pos c1, no (by cases q : P h; rfl; exact absurd c1 ((hP h hh).mp q).1)]
        exact ⟨rfl, ha⟩
      · rw [if_neg c1]
        by_cases c2 : nI h = v
        · rw [if_pos c2, no (by cases q : P h; rfl; exact absurd c2 ((hP h hh).mp q).2.1)]
          exact ⟨rfl, ha⟩
        · rw [if_neg c2]
          obtain ⟨r, e1, e2, e3⟩ := mayM hN hH hs hs2 hk hd ht (show h < 40 by omega) hi
          rw [e1, Option.bind_some]
          dsimp only
          by_cases c3 : r = 0
          · rw [if_pos c3, no (by cases q : P h; rfl; exact absurd ((hP h hh).mp q).2.2 (e3.mp c3))]
            exact ⟨rfl, ha⟩
          · have hp : P h = true := (hP h hh).mpr ⟨c1, c2, Classical.byContradiction fun q => c3 (e3.mpr q)⟩
            rw [if_neg c3]
            cases a with
            | none =>
              rw [show oI none = -9 from rfl, if_pos rfl, show jst P (m.1 2) h none = some h from by unfold jst; rw [hp]; rfl]
              exact ⟨rfl, fun c h => by cases h; exact hh⟩
            | some b =>
              have hb := ha b rfl
              rw [show oI (some b) = nI b from rfl, if_neg (nI_n9 (b := b) (by omega)), if_pos (ok_nI (by omega) (by decide)), if_pos (ok_nI (show b < 40 by omega) (by decide)), cl_nI (by omega), cl_nI (by omega)]
              by_cases e : m.1 2 b ≤ m.1 2 h
              · rw [if_pos e, show jst P (m.1 2) h (some b) = some b from by unfold jst; simp only [hp, if_true]; rw [if_pos e]]
                exact ⟨rfl, ha⟩
              · rw [if_neg e, show jst P (m.1 2) h (some b) = some h from by unfold jst; simp only [hp, if_true]; rw [if_neg e]]
                exact ⟨rfl, fun c h => by cases h; exact hh⟩) iw_fu 0 none (by omega) (by unfold iw_fu; omega) (fun c h => by cases h)).1
