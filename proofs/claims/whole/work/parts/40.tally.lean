/-! PURE: measures; the tally of the class, the saves of the reference -/
abbrev iw_T : Type := Nat × Nat × Nat × Nat × Nat × Nat
def cN (a : Nat → Int32) (k : Nat) : Nat := (a k).toNatClampNeg
/-- a measure before: (n, m, sum, sumA, least, most) -/
def tB (c : Nat) (t : iw_T) : iw_T := (t.1 + 1, t.2.1, t.2.2.1 + c, t.2.2.2.1, if t.1 = 0 ∨ c < t.2.2.2.2.1 then c else t.2.2.2.2.1, t.2.2.2.2.2)
def tA (c : Nat) (t : iw_T) : iw_T := (t.1, t.2.1 + 1, t.2.2.1, t.2.2.2.1 + c, t.2.2.2.2.1, if t.2.1 = 0 ∨ t.2.2.2.2.2 < c then c else t.2.2.2.2.2)
def tst (ab ai aa ac : Nat → Int32) (kd : Nat → Nat) (f b k : Nat) (t : iw_T) : iw_T := if cN ab k = b ∧ kd (cN ai k) = f then (if aa k = 0 then tB (cN ac k) t else tA (cN ac k) t) else t
def tal (ab ai aa ac : Nat → Int32) (kd : Nat → Nat) (me f b : Nat) : iw_T := lp (tst ab ai aa ac kd f b) me 0 (0, 0, 0, 0, 0, 0)
def okT (k : Nat) (t : iw_T) : Prop := t.1 ≤ k ∧ t.2.1 ≤ k ∧ t.2.2.1 ≤ 9999 * k ∧ t.2.2.2.1 ≤ 9999 * k ∧ t.2.2.2.2.1 ≤ 9999 ∧ t.2.2.2.2.2 ≤ 9999
theorem okT_st {ab ai aa ac : Nat → Int32} {kd : Nat → Nat} {f b k : Nat} {t : iw_T} (hc : cN ac k ≤ 9999) (h : okT k t) : okT (k + 1) (tst ab ai aa ac kd f b k t) := by
  obtain ⟨h1, h2, h3, h4, h5, h6⟩ := h
  unfold tst
  by_cases c : cN ab k = b ∧ kd (cN ai k) = f
  · rw [if_pos c]
    by_cases d : aa k = 0
    · rw [if_pos d]
      unfold tB okT
      refine ⟨by simp only; omega, by simp only; omega, by simp only; omega, by simp only; omega, ?_, h6⟩
      simp only
      by_cases e : t.1 = 0 ∨ cN ac k < t.2.2.2.2.1
      · rw [if_pos e]; exact hc
      · rw [if_neg e]; exact h5
    · rw [if_neg d]
      unfold tA okT
      refine ⟨by simp only; omega, by simp only; omega, by simp only; omega, by simp only; omega, h5, ?_⟩
      simp only
      by_cases e : t.2.1 = 0 ∨ t.2.2.2.2.2 < cN ac k
      · rw [if_pos e]; exact hc
      · rw [if_neg e]; exact h6
  · rw [if_neg c]
    exact ⟨by omega, by omega, by omega, by omega, h5, h6⟩
/-- the measures are what they should be -/
def msOk (ab ai ac : Nat → Int32) (me N : Nat) : Prop := ∀ k, k < me → (ab k = nI (cN ab k) ∧ cN ab k < 10) ∧ (ai k = nI (cN ai k) ∧ cN ai k < N) ∧ ac k = nI (cN ac k) ∧ cN ac k ≤ 9999
theorem nI_lt0 {a b : Nat} (ha : a < 2 ^ 31) (hb : b < 2 ^ 31) : (nI a ≤ nI b) = (a ≤ b) := propext (nI_leI ha hb)
def svV (hp : Bool) (t : iw_T) : Int32 := if t.1 = 0 ∨ t.2.1 = 0 then 0 else (if hp then (if 0 ≤ nI t.2.2.1 / nI t.1 - nI t.2.2.2.1 / nI t.2.1 then nI t.2.2.1 / nI t.1 - nI t.2.2.2.1 / nI t.2.1 else 0) else (if 0 ≤ nI t.2.2.2.2.1 - nI t.2.2.2.2.2 then nI t.2.2.2.2.1 - nI t.2.2.2.2.2 else 0))
theorem tst_B {ab ai aa ac : Nat → Int32} {kd : Nat → Nat} {f b k : Nat} {t : iw_T} (h1 : cN ab k = b) (h2 : kd (cN ai k) = f) (h3 : aa k = 0) : tst ab ai aa ac kd f b k t = tB (cN ac k) t := by
  unfold tst; rw [if_pos (show cN ab k = b ∧ kd (cN ai k) = f from ⟨h1, h2⟩), if_pos h3]
theorem tst_A {ab ai aa ac : Nat → Int32} {kd : Nat → Nat} {f b k : Nat} {t : iw_T} (h1 : cN ab k = b) (h2 : kd (cN ai k) = f) (h3 : ¬ aa k = 0) : tst ab ai aa ac kd f b k t = tA (cN ac k) t := by
  unfold tst; rw [if_pos (show cN ab k = b ∧ kd (cN ai k) = f from ⟨h1, h2⟩), if_neg h3]
theorem tst_N {ab ai aa ac : Nat → Int32} {kd : Nat → Nat} {f b k : Nat} {t : iw_T} (h : ¬ (cN ab k = b ∧ kd (cN ai k) = f)) : tst ab ai aa ac kd f b k t = t := by
  unfold tst; rw [if_neg h]
theorem tB_1 {c : Nat} {t : iw_T} (h : t.1 = 0 ∨ c < t.2.2.2.2.1) : tB c t = (t.1 + 1, t.2.1, t.2.2.1 + c, t.2.2.2.1, c, t.2.2.2.2.2) := by unfold tB; rw [if_pos h]
theorem tB_2 {c : Nat} {t : iw_T} (h : ¬ (t.1 = 0 ∨ c < t.2.2.2.2.1)) : tB c t = (t.1 + 1, t.2.1, t.2.2.1 + c, t.2.2.2.1, t.2.2.2.2.1, t.2.2.2.2.2) := by unfold tB; rw [if_neg h]
theorem tA_1 {c : Nat} {t : iw_T} (h : t.2.1 = 0 ∨ t.2.2.2.2.2 < c) : tA c t = (t.1, t.2.1 + 1, t.2.2.1, t.2.2.2.1 + c, t.2.2.2.2.1, c) := by unfold tA; rw [if_pos h]
theorem tA_2 {c : Nat} {t : iw_T} (h : ¬ (t.2.1 = 0 ∨ t.2.2.2.2.2 < c)) : tA c t = (t.1, t.2.1 + 1, t.2.2.1, t.2.2.2.1 + c, t.2.2.2.2.1, t.2.2.2.2.2) := by unfold tA; rw [if_neg h]
theorem svV_0 {hp : Bool} {t : iw_T} (h : t.1 = 0 ∨ t.2.1 = 0) : svV hp t = 0 := if_pos h
theorem svV_f {t : iw_T} (h : ¬ (t.1 = 0 ∨ t.2.1 = 0)) : svV false t = if 0 ≤ nI t.2.2.2.2.1 - nI t.2.2.2.2.2 then nI t.2.2.2.2.1 - nI t.2.2.2.2.2 else 0 := by unfold svV; rw [if_neg h]; rfl
theorem svV_t {t : iw_T} (h : ¬ (t.1 = 0 ∨ t.2.1 = 0)) : svV true t = if 0 ≤ nI t.2.2.1 / nI t.1 - nI t.2.2.2.1 / nI t.2.1 then nI t.2.2.1 / nI t.1 - nI t.2.2.2.1 / nI t.2.1 else 0 := by unfold svV; rw [if_neg h]; rfl
theorem savesM {N me f b : Nat} {kd : Nat → Nat} (hN : N ≤ 40) (hme : me ≤ 200) (m : iw_M) (hs : m.1 0 3 = nI me) (hk : ∀ j, j < N → m.1 31 j = nI (kd j)) (hd : Kd N kd) (hf : f < N) (hb : b < 10) (hm : msOk (m.1 21) (m.1 22) (m.1 23) me N) (hp : Bool) (v3 : Int32) (hv3 : v3 = if hp then 1 else 0) : fX9_saves (nI f) (nI b) v3 m = some (svV hp (tal (m.1 21) (m.1 22) (m.1 24) (m.1 23) kd me f b), m) ∧ okT me (tal (m.1 21) (m.1 22) (m.1 24) (m.1 23) kd me f b) := by
  have L := fun (K : Int32 → Int32 → Int32 → Int32 → Int32 → Int32 → Int32 → iw_M → Option (Int32 × iw_M)) => (loopF (fun n k t => fX9_saves_L21 (nI f) (nI b) v3 K n (nI t.1) (nI t.2.1) (nI t.2.2.1) (nI t.2.2.2.1) (nI t.2.2.2.2.1) (nI t.2.2.2.2.2) (nI k) m) (fun t => K (nI t.1) (nI t.2.1) (nI t.2.2.1) (nI t.2.2.2.1) (nI t.2.2.2.2.1) (nI t.2.2.2.2.2) (nI me) m) me (tst (m.1 21) (m.1 22) (m.1 24) (m.1 23) kd f b) okT (fun n t _ => by
      rw [fX9_saves_L21, hs, if_pos (nI_le (Nat.le_refl _) (by omega))]) (fun n k t hk1 ht => by
      obtain ⟨⟨a1, a2⟩, ⟨a3, a4⟩, a5, a6⟩ := hm k hk1
      refine ⟨?_, okT_st a6 ht⟩
      obtain ⟨t1, t2, t3, t4, t5, t6⟩ := ht
      have b1 := (hd (cN (m.1 22) k) a4).1
      rw [fX9_saves_L21, hs, if_neg (by rw [nI_leI (by omega) (by omega)]; omega)]
      simp only [ok_nI (show k < 200 by omega) (by decide), if_true, cl_nI (show k < 2 ^ 31 by omega), nI_1]
      rw [a1, a3]
      simp only [ok_nI (show cN (m.1 22) k < 40 by omega) (by decide), if_true, cl_nI (show cN (m.1 22) k < 2 ^ 31 by omega)]
      rw [hk _ a4]
      by_cases c1 : cN (m.1 21) k = b
      · rw [if_pos (by rw [c1])]
        by_cases c2 : kd (cN (m.1 22) k) = f
        · rw [if_pos (by rw [c2])]
          by_cases c3 : m.1 24 k = 0
          · rw [if_pos c3, tst_B c1 c2 c3]
            unfold fX9_saves_J120
            rw [a5]
            by_cases c4 : t.1 = 0
            · rw [if_pos (by rw [c4]; rfl), tB_1 (Or.inl c4), nI_1, nI_add, nI_1]
            · rw [if_neg (nI_ne0 (by omega) (by omega))]
              by_cases c5 : cN (m.1 23) k < t.2.2.2.2.1
              · rw [if_neg (by rw [nI_leI (by omega) (by omega)]; omega), tB_1 (Or.inr c5), nI_1, nI_add, nI_1]
              · rw [if_pos (by rw [nI_leI (by omega) (by omega)]; omega), tB_2 (by omega), nI_add]
          · rw [if_neg c3, tst_A c1 c2 c3]
            unfold fX9_saves_J91 fX9_saves_J95
            rw [a5]
            by_cases c4 : t.2.1 = 0
            · rw [if_pos (by rw [c4]; rfl), tA_1 (Or.inl c4), nI_1, nI_add, nI_1]
            · rw [if_neg (nI_ne0 (by omega) (by omega))]
              by_cases c5 : t.2.2.2.2.2 < cN (m.1 23) k
              · rw [if_neg (by rw [nI_leI (by omega) (by omega)]; omega), tA_1 (Or.inr c5), nI_1, nI_add, nI_1]
              · rw [if_pos (by rw [nI_leI (by omega) (by omega)]; omega), tA_2 (by omega), nI_1, nI_add, nI_1]
        · rw [if_neg (fun q => c2 ((nI_eq (by omega) (by omega)).mp q)), tst_N (fun q => c2 q.2)]
      · rw [if_neg (fun q => c1 ((nI_eq (by omega) (by omega)).mp q)), tst_N (fun q => c1 q.1)]) iw_fu 0 (0, 0, 0, 0, 0, 0) (by omega) (by unfold iw_fu; omega) ⟨by simp, by simp, by simp, by simp, by simp, by simp⟩)
  have hT : okT me (tal (m.1 21) (m.1 22) (m.1 24) (m.1 23) kd me f b) := (L (fun _ _ _ _ _ _ _ _ => none)).2
  refine ⟨?_, hT⟩
  unfold fX9_saves
  refine Eq.trans (L _).1 ?_
  clear L
  rw [show lp (tst (m.1 21) (m.1 22) (m.1 24) (m.1 23) kd f b) (me - 0) 0 (0, 0, 0, 0, 0, 0) = tal (m.1 21) (m.1 22) (m.1 24) (m.1 23) kd me f b from rfl]
  generalize tal (m.1 21) (m.1 22) (m.1 24) (m.1 23) kd me f b = t at *
  obtain ⟨t1, t2, t3, t4, t5, t6⟩ := hT
  by_cases d1 : t.1 = 0
  · rw [if_pos (by rw [d1]; rfl), svV_0 (Or.inl d1)]
  · have e1 : ¬ nI t.1 = 0 := nI_ne0 (by omega) (by omega)
    rw [if_neg e1]
    by_cases d2 : t.2.1 = 0
    · rw [if_pos (by rw [d2]; rfl), svV_0 (Or.inr d2)]
    · have e2 : ¬ nI t.2.1 = 0 := nI_ne0 (by omega) (by omega)
      have e3 : ¬ (t.1 = 0 ∨ t.2.1 = 0) := fun q => q.elim d1 d2
      rw [if_neg e2]
      cases hp with
      | false =>
        have hv : v3 = 0 := hv3
        rw [if_pos hv, svV_f e3]
        by_cases d3 : 0 ≤ nI t.2.2.2.2.1 - nI t.2.2.2.2.2
        · rw [if_pos d3, if_pos d3]
        · rw [if_neg d3, if_neg d3]
      | true =>
        have hv : v3 = 1 := hv3
        rw [if_neg (by rw [hv]; decide), if_neg e1, if_neg e2, svV_t e3]
        by_cases d3 : 0 ≤ nI t.2.2.1 / nI t.1 - nI t.2.2.2.1 / nI t.2.1
        · rw [if_pos d3, if_pos d3]
        · rw [if_neg d3, if_neg d3]
