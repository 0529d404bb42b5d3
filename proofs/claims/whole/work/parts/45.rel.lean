/-! THE RELATION between the memory of the class and that of the reference -/
def sI (f : Nat → Int32) : Nat → Int32
  | 0 => 0
  | n + 1 => sI f n + f n
def RA (x m : iw_M) (H N me ru wo d : Nat) : Prop := (H ≤ 40 ∧ N ≤ 40 ∧ me ≤ 200 ∧ ru ≤ 20 ∧ wo ≤ 20 ∧ d ≤ 3000) ∧ (x.1 1 6 = nI H ∧ m.1 0 1 = nI H) ∧ (x.1 8 10 = nI N ∧ m.1 0 2 = nI N) ∧ (x.1 26 4 = nI me ∧ m.1 0 3 = nI me) ∧ (x.1 38 4 = nI ru ∧ m.1 0 4 = nI ru) ∧ (x.1 43 1 = nI wo ∧ m.1 0 5 = nI wo) ∧ (x.1 0 11 = nI d ∧ m.1 0 0 = nI d)
def RB1 (x m : iw_M) : Prop := x.1 2 = m.1 1 ∧ x.1 5 = m.1 2 ∧ x.1 6 = m.1 3 ∧ x.1 7 = m.1 4 ∧ x.1 4 = m.1 5
def RB2 (x m : iw_M) : Prop := x.1 9 = m.1 7 ∧ x.1 10 = m.1 8 ∧ x.1 11 = m.1 9 ∧ x.1 12 = m.1 10 ∧ x.1 13 = m.1 11 ∧ x.1 14 = m.1 12 ∧ x.1 16 = m.1 14 ∧ x.1 17 = m.1 15
def RB3 (x m : iw_M) : Prop := x.1 24 = m.1 19 ∧ x.1 25 = m.1 20 ∧ x.1 27 = m.1 21 ∧ x.1 28 = m.1 22 ∧ x.1 30 = m.1 23 ∧ x.1 29 = m.1 24 ∧ x.1 39 = m.1 25 ∧ x.1 40 = m.1 26 ∧ x.1 41 = m.1 27 ∧ x.1 42 = m.1 28 ∧ x.1 44 = m.1 29 ∧ x.1 46 = m.1 30
def RB4 (x m : iw_M) : Prop := x.1 45 0 = m.1 0 6 ∧ x.1 45 1 = m.1 0 7 ∧ x.1 45 2 = m.1 0 8 ∧ x.1 45 3 = m.1 0 9
def RC (m : iw_M) (H N d : Nat) : Prop := (∀ i, i < N → (m.1 7 i = nI (cN (m.1 7) i) ∧ cN (m.1 7) i < H) ∧ (m.1 9 i = nI (cN (m.1 9) i) ∧ cN (m.1 9) i < 65536) ∧ (m.1 10 i = nI (cN (m.1 10) i) ∧ cN (m.1 10) i ≤ 9) ∧ m.1 11 i = nI (cN (m.1 11) i) ∧ cN (m.1 11) i ≤ d) ∧ ∀ i, N ≤ i → m.1 12 i = 0 ∧ m.1 16 i = 0
def RD (x m : iw_M) (N d : Nat) : Prop := ∀ i, i < N → (m.1 12 i = 0 → m.1 13 i = -9) ∧ (m.1 12 i ≠ 0 → x.1 15 i = m.1 13 i ∧ m.1 13 i = nI (cN (m.1 13) i) ∧ cN (m.1 13) i ≤ d)
def RG (x m : iw_M) : Prop := ∀ a b, a < 40 → b < 40 → (m.1 6 (40 * a + b) = 0 ∨ m.1 6 (40 * a + b) = 1) ∧ (bt64 (x.2 3 a) b = true ↔ m.1 6 (40 * a + b) ≠ 0) ∧ bt64 (x.2 3 a) b = bt64 (x.2 3 b) a
def RH (x m : iw_M) (H N : Nat) : Prop := tmOk m N ∧ (∀ i, i < N → (∀ g, g < 40 → (bt64 (x.2 18 i) g = true ↔ ∃ t, t < cN (m.1 16) i ∧ m.1 17 (6 * i + t) = nI g)) ∧ (∀ t, t < cN (m.1 16) i → ∃ g, g < H ∧ m.1 17 (6 * i + t) = nI g) ∧ (∀ s t, s < t → t < cN (m.1 16) i → m.1 17 (6 * i + s) ≠ m.1 17 (6 * i + t)) ∧ fb_ct (bt64 (x.2 18 i)) 64 = cN (m.1 16) i) ∧ ∀ i, N ≤ i → x.2 18 i = 0
def RI (m : iw_M) (N wo : Nat) : Prop := (∀ i, i < 40 → (m.1 18 i ≠ 0 ↔ ∃ w, w < wo ∧ m.1 29 w = nI i)) ∧ ∀ w, w < wo → m.1 29 w = -9 ∨ ∃ i, i < N ∧ m.1 29 w = nI i
def RJ (x m : iw_M) (N : Nat) : Prop := ∃ k, Can N (al (m.1 0 6) (m.1 8) (m.1 9)) k ∧ ∀ j, j < N → x.1 20 j = nI (k j)
def RK (m : iw_M) (H : Nat) : Prop := sI (fun h => m.1 3 h + m.1 4 h) H = m.1 0 10 + m.1 0 11 ∧ ∀ h, H ≤ h → m.1 3 h = 0 ∧ m.1 4 h = 0
def RQ (m : iw_M) (ru : Nat) : Prop := ∀ r, r < ru → m.1 28 r = nI (cN (m.1 28) r) ∧ 1 ≤ cN (m.1 28) r ∧ cN (m.1 28) r ≤ 5
def RU (m : iw_M) : Prop := ∀ h, m.1 5 h = 0 ∨ m.1 5 h = 1
def RP (x m : iw_M) (H N me ru wo d : Nat) : Prop := RA x m H N me ru wo d ∧ RB1 x m ∧ RB2 x m ∧ RB3 x m ∧ RB4 x m ∧ RC m H N d ∧ RD x m N d ∧ msOk (m.1 21) (m.1 22) (m.1 23) me N ∧ RG x m ∧ RH x m H N ∧ RI m N wo ∧ RJ x m N ∧ RK m H ∧ RQ m ru ∧ RU m
def iw_Rel (x m : iw_M) : Prop := ∃ H N me ru wo d : Nat, RP x m H N me ru wo d
def iw_E (a b : Option (Int32 × iw_M)) : Prop := ∃ (r : Int32) (x m : iw_M), a = some (r, x) ∧ b = some (r, m) ∧ iw_Rel x m
theorem iw_E.mk {x m : iw_M} (r : Int32) (h : iw_Rel x m) : iw_E (some (r, x)) (some (r, m)) := ⟨r, x, m, rfl, rfl, h⟩
theorem iw_E.bd {a b : Option (Int32 × iw_M)} (h : iw_E a b) : iw_E (a.bind (fun q => some (q.1, q.2))) (b.bind (fun q => some (q.1, q.2))) := by
  obtain ⟨r, x, m, rfl, rfl, h⟩ := h
  exact ⟨r, x, m, rfl, rfl, h⟩
section STEPS
variable {x m : iw_M} {H N me ru wo d : Nat}
theorem RP.rf (h : RP x m H N me ru wo d) (f : Nat → Int32) : RP (iw_wF x 46 f) (iw_wF m 30 f) H N me ru wo d := by
  obtain ⟨hA, hB1, hB2, hB3, hB4, hC, hD, hF, hG, hH, hI, hJ, hK, hQ, hU⟩ := h
  obtain ⟨q1, q2, q3, q4, q5, q6, q7, q8, q9, q10, q11, q12⟩ := hB3
  exact ⟨hA, hB1, hB2, ⟨q1, q2, q3, q4, q5, q6, q7, q8, q9, q10, q11, rfl⟩, hB4, hC, hD, hF, hG, hH, hI, hJ, hK, hQ, hU⟩
theorem E_no (h : RP x m H N me ru wo d) (v : Int32) (k : Nat) (hk : k < 7) (hv : -v = nI k) : iw_E (fX8_refuse v x) (fX9_no v m) := by
  have e46 : x.1 46 = m.1 30 := h.2.2.2.1.2.2.2.2.2.2.2.2.2.2.2
  unfold fX8_refuse fX9_no
  rw [hv, if_neg (nI_pos (by omega)), show (7 : Int32) = nI 7 from rfl, if_neg (by rw [nI_leI (by omega) (by omega)]; omega)]
  simp only [ok_nI hk (by decide), if_true, cl_nI (show k < 2 ^ 31 by omega)]
  rw [wI_wF, wI_wF, e46]
  exact iw_E.mk v ⟨H, N, me, ru, wo, d, h.rf _⟩
theorem no1 (h : RP x m H N me ru wo d) : iw_E ((fX8_refuse (-1) x).bind (fun q => some (q.1, q.2))) ((fX9_no (-1) m).bind (fun q => some (q.1, q.2))) := (E_no h (-1) 1 (by decide) (by decide)).bd
theorem no2 (h : RP x m H N me ru wo d) : iw_E ((fX8_refuse (-2) x).bind (fun q => some (q.1, q.2))) ((fX9_no (-2) m).bind (fun q => some (q.1, q.2))) := (E_no h (-2) 2 (by decide) (by decide)).bd
theorem no3 (h : RP x m H N me ru wo d) : iw_E ((fX8_refuse (-3) x).bind (fun q => some (q.1, q.2))) ((fX9_no (-3) m).bind (fun q => some (q.1, q.2))) := (E_no h (-3) 3 (by decide) (by decide)).bd
theorem no4 (h : RP x m H N me ru wo d) : iw_E ((fX8_refuse (-4) x).bind (fun q => some (q.1, q.2))) ((fX9_no (-4) m).bind (fun q => some (q.1, q.2))) := (E_no h (-4) 4 (by decide) (by decide)).bd
theorem no6 (h : RP x m H N me ru wo d) : iw_E ((fX8_refuse (-6) x).bind (fun q => some (q.1, q.2))) ((fX9_no (-6) m).bind (fun q => some (q.1, q.2))) := (E_no h (-6) 6 (by decide) (by decide)).bd
theorem is_hand (h : RP x m H N me ru wo d) (v : Int32) : (fX8_isHand v x = some (0, x) ∧ fX9_isHand v m = some (0, m)) ∨ ∃ i, i < H ∧ v = nI i ∧ fX8_isHand v x = some (1, x) ∧ fX9_isHand v m = some (1, m) := by
  obtain ⟨⟨hH, -⟩, ⟨e1, e2⟩, -⟩ := h.1
  unfold fX8_isHand fX9_isHand
  rw [e1, e2]
  rcases pk_ix v (n := H) (by omega) with c | c | ⟨i, hi, rfl⟩
  · rw [if_pos c, if_pos c]; exact Or.inl ⟨rfl, rfl⟩
  · by_cases c0 : v < 0
    · rw [if_pos c0, if_pos c0]; exact Or.inl ⟨rfl, rfl⟩
    · rw [if_neg c0, if_neg c0, if_pos c, if_pos c]; exact Or.inl ⟨rfl, rfl⟩
  · have c1 : ¬ nI i < 0 := nI_pos (by omega)
    have c2 : ¬ nI H ≤ nI i := by rw [nI_leI (by omega) (by omega)]; omega
    rw [if_neg c1, if_neg c1, if_neg c2, if_neg c2]
    exact Or.inr ⟨i, hi, rfl, rfl, rfl⟩
theorem is_idea (h : RP x m H N me ru wo d) (v : Int32) : (fX8_isIdea v x = some (0, x) ∧ fX9_isIdea v m = some (0, m)) ∨ ∃ i, i < N ∧ v = nI i ∧ fX8_isIdea v x = some (1, x) ∧ fX9_isIdea v m = some (1, m) := by
  obtain ⟨⟨-, hN, -⟩, -, ⟨e1, e2⟩, -⟩ := h.1
  unfold fX8_isIdea fX9_isIdea
  rw [e1, e2]
  rcases pk_ix v (n := N) (by omega) with c | c | ⟨i, hi, rfl⟩
  · rw [if_pos c, if_pos c]; exact Or.inl ⟨rfl, rfl⟩
  · by_cases c0 : v < 0
    · rw [if_pos c0, if_pos c0]; exact Or.inl ⟨rfl, rfl⟩
    · rw [if_neg c0, if_neg c0, if_pos c, if_pos c]; exact Or.inl ⟨rfl, rfl⟩
  · have c1 : ¬ nI i < 0 := nI_pos (by omega)
    have c2 : ¬ nI N ≤ nI i := by rw [nI_leI (by omega) (by omega)]; omega
    rw [if_neg c1, if_neg c1, if_neg c2, if_neg c2]
    exact Or.inr ⟨i, hi, rfl, rfl, rfl⟩
theorem is_shop (v : Int32) (x m : iw_M) : (fX8_isShop v x = some (0, x) ∧ fX9_isShop v m = some (0, m)) ∨ (fX8_isShop v x = some (1, x) ∧ fX9_isShop v m = some (1, m)) := by
  unfold fX8_isShop fX9_isShop
  by_cases c : v < 0
  · simp [c]
  · by_cases e : 8 ≤ v
    · simp [c, e]
    · simp [c, e]
theorem is_marks (v : Int32) (x m : iw_M) : (fX8_areMarks v x = some (0, x) ∧ fX9_isMarks v m = some (0, m)) ∨ ∃ a, a < 65536 ∧ v = nI a ∧ fX8_areMarks v x = some (1, x) ∧ fX9_isMarks v m = some (1, m) := by
  unfold fX8_areMarks fX9_isMarks
  by_cases c : v ≤ 0
  · rw [if_pos c, if_pos c]; exact Or.inl ⟨rfl, rfl⟩
  · rw [if_neg c, if_neg c]
    by_cases e : 65535 < v
    · have e2 : 65536 ≤ v := by
        rw [Int32.le_iff_toInt_le]; rw [Int32.lt_iff_toInt_lt] at e
        have a1 : (65535 : Int32).toInt = 65535 := by decide
        have a2 : (65536 : Int32).toInt = 65536 := by decide
        omega
      rw [if_pos e, if_pos e2]; exact Or.inl ⟨rfl, rfl⟩
    · have e2 : ¬ 65536 ≤ v := by
        rw [Int32.le_iff_toInt_le]; rw [Int32.lt_iff_toInt_lt] at e
        have a1 : (65535 : Int32).toInt = 65535 := by decide
        have a2 : (65536 : Int32).toInt = 65536 := by decide
        omega
      rw [if_neg e, if_neg e2]
      obtain ⟨a, ha, hv⟩ := nI_of2 (x := v) (M := 65535) (n := 65535) (by decide) (by rw [Int32.lt_iff_toInt_lt]; rw [Int32.le_iff_toInt_le] at c; omega) (by rw [Int32.le_iff_toInt_le]; rw [Int32.lt_iff_toInt_lt] at e; omega)
      exact Or.inr ⟨a, by omega, hv, rfl, rfl⟩
theorem is_bench (v : Int32) (x m : iw_M) : (fX8_isBench v x = some (0, x) ∧ fX9_isBench v m = some (0, m)) ∨ ∃ b, b < 10 ∧ v = nI b ∧ fX8_isBench v x = some (1, x) ∧ fX9_isBench v m = some (1, m) := by
  unfold fX8_isBench fX9_isBench
  rw [show (10 : Int32) = nI 10 from rfl]
  rcases pk_ix v (n := 10) (by omega) with c | c | ⟨i, hi, rfl⟩
  · rw [if_pos c, if_pos c]; exact Or.inl ⟨rfl, rfl⟩
  · by_cases c0 : v < 0
    · rw [if_pos c0, if_pos c0]; exact Or.inl ⟨rfl, rfl⟩
    · rw [if_neg c0, if_neg c0, if_pos c, if_pos c]; exact Or.inl ⟨rfl, rfl⟩
  · have c1 : ¬ nI i < 0 := nI_pos (by omega)
    have c2 : ¬ nI 10 ≤ nI i := by rw [nI_leI (by omega) (by omega)]; omega
    rw [if_neg c1, if_neg c1, if_neg c2, if_neg c2]
    exact Or.inr ⟨i, hi, rfl, rfl, rfl⟩
/-- the families, at the limit in force: the reference's memory alone changes, at its scratch row -/
theorem fam_now (h : RP x m H N me ru wo d) : ∃ (k : Nat → Nat) (g : Nat → Int32), Can N (al (m.1 0 6) (m.1 8) (m.1 9)) k ∧ Kd N k ∧ (∀ j, j < N → x.1 20 j = nI (k j)) ∧ fX9_families (m.1 0 6) m = some ((), iw_wF m 31 g) ∧ (∀ j, j < N → g j = nI (k j)) ∧ ∀ g', RP x (iw_wF m 31 g') H N me ru wo d := by
  obtain ⟨hA, hB1, hB2, hB3, hB4, hC, hD, hF, hG, hH, hI, hJ, hK, hQ, hU⟩ := h
  obtain ⟨k, c1, c2⟩ := hJ
  obtain ⟨g, k', f1, f2, f3⟩ := famM (lim := m.1 0 6) hA.1.2.1 m hA.2.2.1.2 (fun j hj => ⟨_, (hC.1 j hj).2.1.2, (hC.1 j hj).2.1.1⟩)
  have e := f2.un c1
  exact ⟨k, g, c1, c1.kd, c2, f1, fun j hj => by rw [f3 j hj, e j hj], fun g' => ⟨hA, hB1, hB2, hB3, hB4, hC, hD, hF, hG, hH, hI, ⟨k, c1, c2⟩, hK, hQ, hU⟩⟩
theorem RP.fr (h : RP x m H N me ru wo d) {x' : iw_M} (f : Fr x x') : RP x' m H N me ru wo d := by
  obtain ⟨hA, hB1, hB2, hB3, hB4, hC, hD, hF, hG, hH, hI, hJ, hK, hQ, hU⟩ := h
  have c := fun k hk => f.2 k hk
  unfold RP RA RB1 RB2 RB3 RB4 RD RG RH RJ at *
  rw [f.1]
  simp (disch := decide) only [c]
  exact ⟨hA, hB1, hB2, hB3, hB4, hC, hD, hF, hG, hH, hI, hJ, hK, hQ, hU⟩
end STEPS
