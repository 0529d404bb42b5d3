/-! PURE: loops as folds; heads, shares, harms -/
def lp {s : Type} (f : Nat → s → s) : Nat → Nat → s → s
  | 0, _, a => a
  | k + 1, i, a => lp f k (i + 1) (f i a)
theorem loopF {s β : Type} (L : Nat → Nat → s → β) (K : s → β) (N : Nat) (f : Nat → s → s) (inv : Nat → s → Prop) (hx : ∀ n a, inv N a → L (n + 1) N a = K a) (hs : ∀ n i a, i < N → inv i a → L (n + 1) i a = L n (i + 1) (f i a) ∧ inv (i + 1) (f i a)) : ∀ n i a, i ≤ N → N < n + i → inv i a → L n i a = K (lp f (N - i) i a) ∧ inv N (lp f (N - i) i a) := by
  intro n
  induction n with
  | zero => intro i a h1 h2; omega
  | succ n ih =>
    intro i a h1 h2 hi
    by_cases h : i = N
    · subst h
      rw [Nat.sub_self]
      exact ⟨hx n a hi, hi⟩
    · obtain ⟨e1, e2⟩ := hs n i a (by omega) hi
      obtain ⟨f1, f2⟩ := ih (i + 1) (f i a) (by omega) (by omega) e2
      rw [show N - i = (N - (i + 1)) + 1 by omega, lp, e1]
      exact ⟨f1, f2⟩
theorem lp_skip {s : Type} {f : Nat → s → s} {N t : Nat} {a : s} : ∀ (d i : Nat), t - i = d → i ≤ t → t ≤ N → (∀ j, i ≤ j → j < t → f j a = a) → lp f (N - i) i a = lp f (N - t) t a := by
  intro d
  induction d with
  | zero => intro i h1 h2 h3 _; rw [show i = t by omega]
  | succ d ih =>
    intro i h1 h2 h3 h
    rw [show N - i = (N - (i + 1)) + 1 by omega, lp, h i (Nat.le_refl _) (by omega)]
    exact ih (i + 1) (by omega) (by omega) h3 (fun j h4 h5 => h j (by omega) h5)
theorem lp_map {s s' : Type} {f : Nat → s → s} {g : Nat → s' → s'} {φ : s → s'} (h : ∀ i a, g i (φ a) = φ (f i a)) : ∀ (k i : Nat) (a : s), lp g k i (φ a) = φ (lp f k i a)
  | 0, _, _ => rfl
  | k + 1, i, a => by rw [lp, lp, h, lp_map h k]
theorem lp_inv {s : Type} {f : Nat → s → s} {P : s → Prop} {N : Nat} (h : ∀ i a, i < N → P a → P (f i a)) : ∀ (k i : Nat) (a : s), i + k ≤ N → P a → P (lp f k i a)
  | 0, _, _, _, ha => ha
  | k + 1, i, a, hi, ha => lp_inv h k (i + 1) (f i a) (by omega) (h i a (by omega) ha)
theorem lp_cg {s : Type} {f g : Nat → s → s} : ∀ (k i : Nat) (a : s), (∀ j b, i ≤ j → j < i + k → f j b = g j b) → lp f k i a = lp g k i a
  | 0, _, _, _ => rfl
  | k + 1, i, a, h => by rw [lp, lp, h i a (Nat.le_refl _) (by omega)]; exact lp_cg k (i + 1) _ (fun j b h1 h2 => h j b (by omega) (by omega))
/-- who is ahead -/
def ahd (ca fi : Nat → Int32) (i b : Nat) : Bool := if ca i = ca b then (if fi i = fi b then decide (i < b) else decide (fi b < fi i)) else decide (ca i < ca b)
theorem nle_lt (a b : Int32) : ¬ a ≤ b ↔ b < a := by rw [Int32.le_iff_toInt_le, Int32.lt_iff_toInt_lt]; omega
theorem nlt_le (a b : Int32) : ¬ a < b ↔ b ≤ a := by rw [Int32.le_iff_toInt_le, Int32.lt_iff_toInt_lt]; omega
theorem aheadX {i b : Nat} (hi : i < 40) (hb : b < 40) (x : iw_M) : fX3_isAhead (nI i) (nI b) x = some (if ahd (x.1 13) (x.1 12) i b then 1 else 0, x) := by
  unfold fX3_isAhead ahd
  simp only [ok_nI hi (by decide), ok_nI hb (by decide), if_true, cl_nI (show i < 2 ^ 31 by omega), cl_nI (show b < 2 ^ 31 by omega)]
  by_cases c : x.1 13 i = x.1 13 b
  · simp only [if_pos c]
    by_cases d : x.1 12 i = x.1 12 b
    · simp only [if_pos d]
      by_cases e : i < b
      · rw [if_neg (by rw [nI_leI (by omega) (by omega)]; omega), if_pos (by simpa using e)]
      · rw [if_pos (by rw [nI_leI (by omega) (by omega)]; omega), if_neg (by simpa using e)]
    · simp only [if_neg d]
      by_cases e : x.1 12 b < x.1 12 i
      · rw [if_neg ((nle_lt _ _).mpr e), if_pos (by simpa using e)]
      · rw [if_pos ((nlt_le _ _).mp e), if_neg (by simpa using e)]
  · simp only [if_neg c]
    by_cases e : x.1 13 i < x.1 13 b
    · rw [if_neg ((nle_lt _ _).mpr e), if_pos (by simpa using e)]
    · rw [if_pos ((nlt_le _ _).mp e), if_neg (by simpa using e)]
theorem aheadM {i b : Nat} (hi : i < 40) (hb : b < 40) (x : iw_M) : fX9_isAhead (nI i) (nI b) x = some (if ahd (x.1 11) (x.1 10) i b then 1 else 0, x) := by
  unfold fX9_isAhead ahd
  simp only [ok_nI hi (by decide), ok_nI hb (by decide), if_true, cl_nI (show i < 2 ^ 31 by omega), cl_nI (show b < 2 ^ 31 by omega)]
  by_cases c : x.1 11 i = x.1 11 b
  · simp only [if_pos c]
    by_cases d : x.1 10 i = x.1 10 b
    · simp only [if_pos d]
      by_cases e : i < b
      · rw [if_neg (by rw [nI_leI (by omega) (by omega)]; omega), if_pos (by simpa using e)]
      · rw [if_pos (by rw [nI_leI (by omega) (by omega)]; omega), if_neg (by simpa using e)]
    · simp only [if_neg d]
      by_cases e : x.1 10 b < x.1 10 i
      · rw [if_neg ((nle_lt _ _).mpr e), if_pos (by simpa using e)]
      · rw [if_pos ((nlt_le _ _).mp e), if_neg (by simpa using e)]
  · simp only [if_neg c]
    by_cases e : x.1 11 i < x.1 11 b
    · rw [if_neg ((nle_lt _ _).mpr e), if_pos (by simpa using e)]
    · rw [if_pos ((nlt_le _ _).mp e), if_neg (by simpa using e)]
/-- the kinds of N ideas -/
def Kd (N : Nat) (kd : Nat → Nat) : Prop := ∀ i, i < N → kd i ≤ i ∧ kd (kd i) = kd i
theorem Can.kd {N : Nat} {E : Nat → Nat → Prop} {k : Nat → Nat} (h : Can N E k) : Kd N k := fun i hi => ⟨h.1 i hi, h.id hi⟩
def hst (ca fi : Nat → Int32) (kd : Nat → Nat) (f i b : Nat) : Nat := if kd i = f ∧ ahd ca fi i b = true then i else b
def headS (ca fi : Nat → Int32) (kd : Nat → Nat) (N f : Nat) : Nat := lp (hst ca fi kd f) (N - (f + 1)) (f + 1) f
theorem headS_in {ca fi : Nat → Int32} {kd : Nat → Nat} {N f : Nat} (hf : f < N) (h : kd f = f) : headS ca fi kd N f < N ∧ kd (headS ca fi kd N f) = f := by
  refine lp_inv (P := fun b => b < N ∧ kd b = f) (N := N) (fun i a hi ha => ?_) _ _ _ (by omega) ⟨hf, h⟩
  unfold hst
  by_cases c : kd i = f ∧ ahd ca fi i a = true
  · rw [if_pos c]; exact ⟨hi, c.1⟩
  · rw [if_neg c]; exact ha
theorem headX {kf N f : Nat} {kd : Nat → Nat} (hN : N ≤ 40) (x : iw_M) (hs : x.1 8 10 = nI N) (hk : ∀ j, j < N → x.1 (kf + 1) j = nI (kd j)) (hd : Kd N kd) (hf : f < N) (hff : kd f = f) : fX1_headOf kf (nI f) x = some (nI (headS (x.1 13) (x.1 12) kd N f), x) := by
  unfold fX1_headOf
  rw [nI_1]
  have := (loopF (fun n i b => fX1_headOf_L6 kf (nI f) (fun x2_2 x3_2 z_2 => some (x2_2, z_2)) n (nI b) (nI i) x) (fun b => some (nI b, x)) N (hst (x.1 13) (x.1 12) kd f) (fun _ b => b < N) (fun n a ha => by
      rw [fX1_headOf_L6, hs, if_pos (nI_le (Nat.le_refl _) (by omega))]) (fun n i a hi ha => by
      rw [fX1_headOf_L6, hs, if_neg (by rw [nI_leI (by omega) (by omega)]; omega), if_pos (ok_nI (by omega) (by decide)), cl_nI (by omega), hk i hi, nI_1]
      have b1 := (hd i hi).1
      unfold hst
      by_cases c : kd i = f
      · rw [if_pos (by rw [c]), aheadX (by omega) (by omega), Option.bind_some]
        cases d : ahd (x.1 13) (x.1 12) i a
        · have e : (if kd i = f ∧ false = true then i else a) = a := if_neg (fun q => by cases q.2)
          rw [e]
          exact ⟨rfl, ha⟩
        · have e : (if kd i = f ∧ true = true then i else a) = i := if_pos ⟨c, rfl⟩
          rw [e]
          exact ⟨rfl, hi⟩
      · rw [if_neg (fun q => c ((nI_eq (by omega) (by omega)).mp q)), if_neg (fun q => c q.1)]
        exact ⟨rfl, ha⟩) iw_fu (f + 1) f (by omega) (by unfold iw_fu; omega) hf).1
  exact this
def oI : Option Nat → Int32
  | none => -9
  | some b => nI b
def hstM (ca fi : Nat → Int32) (kd : Nat → Nat) (f i : Nat) : Option Nat → Option Nat
  | none => if kd i = f then some i else none
  | some b => some (hst ca fi kd f i b)
theorem nI_n9 {b : Nat} (h : b < 2 ^ 31) : ¬ nI b = -9 := by
  intro q
  have := congrArg Int32.toInt q
  rw [nI_toInt h] at this
  have e : (-9 : Int32).toInt = -9 := by decide
  rw [e] at this
  omega
theorem headM {N f : Nat} {kd : Nat → Nat} (hN : N ≤ 40) (m : iw_M) (hs : m.1 0 2 = nI N) (hk : ∀ j, j < N → m.1 31 j = nI (kd j)) (hd : Kd N kd) (hf : f < N) (hff : kd f = f) : fX9_headOf (nI f) m = some (nI (headS (m.1 11) (m.1 10) kd N f), m) := by
  unfold fX9_headOf
  have := (loopF (fun n i b => fX9_headOf_L5 (nI f) (fun x2_2 x3_2 z_2 => some (x2_2, z_2)) n (oI b) (nI i) m) (fun b => some (oI b, m)) N (hstM (m.1 11) (m.1 10) kd f) (fun _ b => ∀ c, b = some c → c < N) (fun n a ha => by
      rw [fX9_headOf_L5, hs, if_pos (nI_le (Nat.le_refl _) (by omega))]) (fun n i a hi ha => by
      rw [fX9_headOf_L5, hs, if_neg (by rw [nI_leI (by omega) (by omega)]; omega), if_pos (ok_nI (by omega) (by decide)), cl_nI (by omega), hk i hi, nI_1]
      have b1 := (hd i hi).1
      cases a with
      | none =>
        rw [show oI none = -9 from rfl]
        by_cases c : kd i = f
        · rw [show hstM (m.1 11) (m.1 10) kd f i none = some i from if_pos c, if_pos (by rw [c]), if_pos rfl]
          exact ⟨rfl, fun c h => by cases h; exact hi⟩
        · rw [show hstM (m.1 11) (m.1 10) kd f i none = none from if_neg c, if_neg (fun q => c ((nI_eq (by omega) (by omega)).mp q))]
          exact ⟨rfl, ha⟩
      | some a =>
        have ha := ha a rfl
        rw [show oI (some a) = nI a from rfl, show hstM (m.1 11) (m.1 10) kd f i (some a) = some (hst (m.1 11) (m.1 10) kd f i a) from rfl]
        unfold hst
        by_cases c : kd i = f
        · rw [if_pos (by rw [c]), if_neg (nI_n9 (b := a) (by omega)), aheadM (by omega) (by omega), Option.bind_some]
          cases d : ahd (m.1 11) (m.1 10) i a
          · have e : (if kd i = f ∧ false = true then i else a) = a := if_neg (fun q => by cases q.2)
            rw [e]
            exact ⟨rfl, fun c h => by cases h; exact ha⟩
          · have e : (if kd i = f ∧ true = true then i else a) = i := if_pos ⟨c, rfl⟩
            rw [e]
            exact ⟨rfl, fun c h => by cases h; exact hi⟩
        · rw [if_neg (fun q => c ((nI_eq (by omega) (by omega)).mp q)), if_neg (fun q : kd i = f ∧ ahd (m.1 11) (m.1 10) i a = true => c q.1)]
          exact ⟨rfl, fun c h => by cases h; exact ha⟩) iw_fu 0 none (by omega) (by unfold iw_fu; omega) (fun c h => by cases h)).1
  rw [show (0 : Int32) = nI 0 from rfl]
  have e : lp (hstM (m.1 11) (m.1 10) kd f) (N - 0) 0 none = some (headS (m.1 11) (m.1 10) kd N f) := by
    rw [lp_skip (t := f) (f - 0) 0 rfl (by omega) (by omega) (fun j _ hj => by
      have := (hd j (by omega)).1
      unfold hstM
      rw [if_neg (by omega)])]
    rw [show N - f = (N - (f + 1)) + 1 by omega, lp]
    rw [show hstM (m.1 11) (m.1 10) kd f f none = some f from if_pos hff]
    exact lp_map (φ := some) (fun i a => rfl) _ _ _
  rw [e] at this
  exact this
/-- weights of the others, and how many -/
def wst (fn : Nat → Nat) (kd : Nat → Nat) (f h i : Nat) (a : Nat × Nat) : Nat × Nat := if kd i = f ∧ i ≠ h then (a.1 + (1 + fn i), a.2 + 1) else a
def wgt (fn : Nat → Nat) (kd : Nat → Nat) (N f h : Nat) : Nat × Nat := lp (wst fn kd f h) (N - f) f (0, 0)
def lst (fi : Nat → Int32) (kd : Nat → Nat) (f h : Nat) (hd : Int32) (w : Int32) (i : Nat) (a : Int32) : Int32 := if kd i = f ∧ i ≠ h then a - (((1000 : Int32) - hd) * ((1 : Int32) + fi i)) / w else a
def lft (fi : Nat → Int32) (kd : Nat → Nat) (N f h : Nat) (hd w : Int32) : Int32 := lp (lst fi kd f h hd w) (N - f) f 1000
def shrS (ca fi : Nat → Int32) (fn : Nat → Nat) (kd : Nat → Nat) (N : Nat) (hd : Int32) (i : Nat) : Int32 :=
  if (wgt fn kd N (kd i) (headS ca fi kd N (kd i))).1 = 0 then 1000 else if i = headS ca fi kd N (kd i) then lft fi kd N (kd i) (headS ca fi kd N (kd i)) hd (nI (wgt fn kd N (kd i) (headS ca fi kd N (kd i))).1) else (((1000 : Int32) - hd) * ((1 : Int32) + fi i)) / nI (wgt fn kd N (kd i) (headS ca fi kd N (kd i))).1
theorem wgt_le {fn kd : Nat → Nat} {f h N : Nat} (hf : ∀ i, i < N → fn i ≤ 9) : ∀ (k i : Nat) (a : Nat × Nat), i + k ≤ N → (a.1 = 0 ↔ a.2 = 0) → a.1 ≤ 10 * i → a.2 ≤ i → ((lp (wst fn kd f h) k i a).1 = 0 ↔ (lp (wst fn kd f h) k i a).2 = 0) ∧ (lp (wst fn kd f h) k i a).1 ≤ 10 * (i + k) ∧ (lp (wst fn kd f h) k i a).2 ≤ i + k
  | 0, i, a, _, h1, h2, h3 => ⟨h1, h2, h3⟩
  | k + 1, i, a, hi, h1, h2, h3 => by
    rw [lp, show i + (k + 1) = (i + 1) + k by omega]
    have := hf i (by omega)
    refine wgt_le hf k (i + 1) _ (by omega) ?_ ?_ ?_ <;> unfold wst <;> by_cases c : kd i = f ∧ i ≠ h
    · rw [if_pos c]; simp
    · rw [if_neg c]; exact h1
    · rw [if_pos c]; simp only; omega
    · rw [if_neg c]; omega
    · rw [if_pos c]; simp only; omega
    · rw [if_neg c]; omega
theorem wgt0 {fn kd : Nat → Nat} {f h N : Nat} (hf : ∀ i, i < N → fn i ≤ 9) (hfN : f ≤ N) : ((wgt fn kd N f h).1 = 0 ↔ (wgt fn kd N f h).2 = 0) ∧ (wgt fn kd N f h).1 ≤ 10 * N ∧ (wgt fn kd N f h).2 ≤ N := by
  have := wgt_le (kd := kd) (f := f) (h := h) hf (N - f) f (0, 0) (by omega) (by simp) (by simp) (by simp)
  rw [show f + (N - f) = N by omega] at this
  exact this
