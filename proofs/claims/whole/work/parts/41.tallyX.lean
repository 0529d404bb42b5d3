/-- two memories of the class that differ in the tally alone -/
def Fr (z z' : iw_M) : Prop := z'.2 = z.2 ∧ ∀ k, (k < 32 ∨ 37 < k) → z'.1 k = z.1 k
theorem Fr.rf (z : iw_M) : Fr z z := ⟨rfl, fun _ _ => rfl⟩
theorem Fr.tr {a b c : iw_M} (h1 : Fr a b) (h2 : Fr b c) : Fr a c := ⟨h2.1.trans h1.1, fun k hk => (h2.2 k hk).trans (h1.2 k hk)⟩
theorem Fr.w {a b : iw_M} (h : Fr a b) {k j : Nat} {v : Int32} (hk : 32 ≤ k ∧ k ≤ 37) : Fr a (iw_wI b k j v) := ⟨h.1, fun q hq => by rw [wI_n _ _ _ (by omega)]; exact h.2 q hq⟩
def TXb (z : iw_M) (b : Nat) (t : iw_T) : Prop := z.1 32 b = nI (if t.1 = 0 then 9999 else t.2.2.2.2.1) ∧ z.1 33 b = nI t.2.2.1 ∧ z.1 34 b = nI t.1 ∧ z.1 35 b = nI (if t.2.1 = 0 then 0 else t.2.2.2.2.2) ∧ z.1 36 b = nI t.2.2.2.1 ∧ z.1 37 b = nI t.2.1
theorem lp_succ {s : Type} {f : Nat → s → s} : ∀ (k i : Nat) (a : s), lp f (k + 1) i a = f (i + k) (lp f k i a)
  | 0, i, a => rfl
  | k + 1, i, a => by rw [lp, lp_succ k (i + 1) (f i a), show i + 1 + k = i + (k + 1) by omega]; rfl
theorem clear_L {x : iw_M} {K : Int32 → iw_M → Option (Unit × iw_M)} : ∀ (n b : Nat) (z : iw_M), b ≤ 10 → 10 < n + b → Fr x z → (∀ c, c < b → TXb z c (0, 0, 0, 0, 0, 0)) → ∃ z', fX6_clear_L2 K n (nI b) z = K (nI 10) z' ∧ Fr x z' ∧ ∀ c, c < 10 → TXb z' c (0, 0, 0, 0, 0, 0) := by
  intro n
  induction n with
  | zero => intro b z h1 h2; omega
  | succ n ih =>
    intro b z h1 h2 hF hT
    rw [fX6_clear_L2, show (10 : Int32) = nI 10 from rfl]
    by_cases h : b = 10
    · subst h
      rw [if_pos (nI_le (Nat.le_refl _) (by omega))]
      exact ⟨z, rfl, hF, hT⟩
    · rw [if_neg (by rw [nI_leI (by omega) (by omega)]; omega)]
      simp only [ok_nI (show b < 10 by omega) (by decide), if_true, cl_nI (show b < 2 ^ 31 by omega), nI_1]
      refine ih (b + 1) _ (by omega) (by omega) ((((((hF.w (by omega)).w (by omega)).w (by omega)).w (by omega)).w (by omega)).w (by omega)) (fun c hc => ?_)
      by_cases q : c = b
      · subst q
        unfold TXb
        simp (disch := decide) only [wI_wF, wF_n, wF_s, upd_s]
        exact ⟨rfl, rfl, rfl, rfl, rfl, rfl⟩
      · have := hT c (by omega)
        unfold TXb at this ⊢
        simp (disch := decide) only [wI_wF, wF_n, wF_s]
        rw [upd_n _ _ q, upd_n _ _ q, upd_n _ _ q, upd_n _ _ q, upd_n _ _ q, upd_n _ _ q]
        exact this
theorem clearX (x : iw_M) : ∃ z', fX6_clear x = some ((), z') ∧ Fr x z' ∧ ∀ c, c < 10 → TXb z' c (0, 0, 0, 0, 0, 0) := by
  unfold fX6_clear
  exact clear_L iw_fu 0 x (by omega) (by unfold iw_fu; omega) (Fr.rf x) (fun c h => by omega)
theorem min_c {a c : Nat} (ha : a < 2 ^ 31) (hc : c < 2 ^ 31) : iw_min (nI a) (nI c) = nI (if c < a then c else a) := by
  rw [min_nI ha hc]
  by_cases h : c < a
  · rw [if_pos h, Nat.min_eq_right (by omega)]
  · rw [if_neg h, Nat.min_eq_left (by omega)]
theorem max_c {a c : Nat} (ha : a < 2 ^ 31) (hc : c < 2 ^ 31) : iw_max (nI a) (nI c) = nI (if a < c then c else a) := by
  rw [max_nI ha hc]
  by_cases h : a < c
  · rw [if_pos h, Nat.max_eq_right (by omega)]
  · rw [if_neg h, Nat.max_eq_left (by omega)]
theorem addB_eq {b : Nat} (hb : b < 10) (v : Int32) (z : iw_M) : fX6_addBefore (nI b) v z = some ((), iw_wF (iw_wF (iw_wF z 32 (upd (z.1 32) b (iw_min (z.1 32 b) v))) 33 (upd (z.1 33) b (z.1 33 b + v))) 34 (upd (z.1 34) b (z.1 34 b + 1))) := by
  unfold fX6_addBefore
  simp only [ok_nI hb (by decide), if_true, cl_nI (show b < 2 ^ 31 by omega)]
  simp (disch := decide) only [wI_wF, wF_n, wF_s]
theorem addA_eq {b : Nat} (hb : b < 10) (v : Int32) (z : iw_M) : fX6_addAfter (nI b) v z = some ((), iw_wF (iw_wF (iw_wF z 35 (upd (z.1 35) b (iw_max (z.1 35 b) v))) 36 (upd (z.1 36) b (z.1 36 b + v))) 37 (upd (z.1 37) b (z.1 37 b + 1))) := by
  unfold fX6_addAfter
  simp only [ok_nI hb (by decide), if_true, cl_nI (show b < 2 ^ 31 by omega)]
  simp (disch := decide) only [wI_wF, wF_n, wF_s]
theorem Fr.f {a b : iw_M} (h : Fr a b) {k : Nat} {g : Nat → Int32} (hk : 32 ≤ k ∧ k ≤ 37) : Fr a (iw_wF b k g) := ⟨h.1, fun q hq => by rw [wF_n _ _ (by omega)]; exact h.2 q hq⟩
theorem addB {x z : iw_M} {b c k : Nat} {t : Nat → iw_T} (hb : b < 10) (hc : c ≤ 9999) (hF : Fr x z) (ht : ∀ d, d < 10 → TXb z d (t d)) (hk : k ≤ 200) (ho : okT k (t b)) : ∃ z', fX6_addBefore (nI b) (nI c) z = some ((), z') ∧ Fr x z' ∧ ∀ d, d < 10 → TXb z' d (if d = b then tB c (t b) else t d) := by
  obtain ⟨o1, o2, o3, o4, o5, o6⟩ := ho
  rw [addB_eq hb]
  refine ⟨_, rfl, ((hF.f (by omega)).f (by omega)).f (by omega), fun d hd => ?_⟩
  obtain ⟨e1, e2, e3, e4, e5, e6⟩ := ht d hd
  unfold TXb
  simp (disch := decide) only [wF_n, wF_s]
  by_cases q : d = b
  · subst q
    rw [if_pos rfl, upd_s, upd_s, upd_s, e1, e2, e3, e4, e5, e6]
    refine ⟨?_, by rw [nI_add]; rfl, by rw [nI_1]; rfl, rfl, rfl, rfl⟩
    rw [min_c (by by_cases w : (t d).1 = 0 <;> simp [w] <;> omega) (by omega)]
    congr 1
    unfold tB
    by_cases w : (t d).1 = 0
    · simp only [w, if_true, true_or]
      by_cases v : c < 9999
      · rw [if_pos v]; rfl
      · rw [if_neg v]; simp; omega
    · simp only [w, if_false, false_or]
      rw [if_neg (show ¬ (t d).1 + 1 = 0 by omega)]
  · rw [if_neg q, upd_n _ _ q, upd_n _ _ q, upd_n _ _ q]
    exact ⟨e1, e2, e3, e4, e5, e6⟩
theorem addA {x z : iw_M} {b c k : Nat} {t : Nat → iw_T} (hb : b < 10) (hc : c ≤ 9999) (hF : Fr x z) (ht : ∀ d, d < 10 → TXb z d (t d)) (hk : k ≤ 200) (ho : okT k (t b)) : ∃ z', fX6_addAfter (nI b) (nI c) z = some ((), z') ∧ Fr x z' ∧ ∀ d, d < 10 → TXb z' d (if d = b then tA c (t b) else t d) := by
  obtain ⟨o1, o2, o3, o4, o5, o6⟩ := ho
  rw [addA_eq hb]
  refine ⟨_, rfl, ((hF.f (by omega)).f (by omega)).f (by omega), fun d hd => ?_⟩
  obtain ⟨e1, e2, e3, e4, e5, e6⟩ := ht d hd
  unfold TXb
  simp (disch := decide) only [wF_n, wF_s]
  by_cases q : d = b
  · subst q
    rw [if_pos rfl, upd_s, upd_s, upd_s, e1, e2, e3, e4, e5, e6]
    refine ⟨rfl, rfl, rfl, ?_, by rw [nI_add]; rfl, by rw [nI_1]; rfl⟩
    rw [max_c (by by_cases w : (t d).2.1 = 0 <;> simp [w] <;> omega) (by omega)]
    congr 1
    unfold tA
    by_cases w : (t d).2.1 = 0
    · simp only [w, if_true, true_or]
      by_cases v : 0 < c
      · rw [if_pos v]; rfl
      · rw [if_neg v]; simp; omega
    · simp only [w, if_false, false_or]
      rw [if_neg (show ¬ (t d).2.1 + 1 = 0 by omega)]
  · rw [if_neg q, upd_n _ _ q, upd_n _ _ q, upd_n _ _ q]
    exact ⟨e1, e2, e3, e4, e5, e6⟩
theorem gather_L {kf N me f : Nat} {kd : Nat → Nat} {x : iw_M} {K : Int32 → iw_M → Option (Unit × iw_M)} (hkf : kf + 1 < 32) (hN : N ≤ 40) (hme : me ≤ 200) (hs : x.1 26 4 = nI me) (hk : ∀ j, j < N → x.1 (kf + 1) j = nI (kd j)) (hd : Kd N kd) (hf : f < N) (hm : msOk (x.1 27) (x.1 28) (x.1 30) me N) : ∀ (n k : Nat) (z : iw_M), k ≤ me → me < n + k → Fr x z → (∀ b, b < 10 → TXb z b (lp (tst (x.1 27) (x.1 28) (x.1 29) (x.1 30) kd f b) k 0 (0, 0, 0, 0, 0, 0)) ∧ okT k (lp (tst (x.1 27) (x.1 28) (x.1 29) (x.1 30) kd f b) k 0 (0, 0, 0, 0, 0, 0))) →
    ∃ z', fX6_gather_L7 kf (nI f) K n (nI k) z = K (nI me) z' ∧ Fr x z' ∧ ∀ b, b < 10 → TXb z' b (tal (x.1 27) (x.1 28) (x.1 29) (x.1 30) kd me f b) ∧ okT me (tal (x.1 27) (x.1 28) (x.1 29) (x.1 30) kd me f b) := by
  intro n
  induction n with
  | zero => intro k z h1 h2; omega
  | succ n ih =>
    intro k z h1 h2 hF hT
    rw [fX6_gather_L7, hF.2 26 (by omega), hs]
    by_cases h : k = me
    · subst h
      rw [if_pos (nI_le (Nat.le_refl _) (by omega))]
      exact ⟨z, rfl, hF, hT⟩
    · obtain ⟨⟨a1, a2⟩, ⟨a3, a4⟩, a5, a6⟩ := hm k (by omega)
      have b1 := (hd _ a4).1
      rw [if_neg (by rw [nI_leI (by omega) (by omega)]; omega), hF.2 27 (by omega), hF.2 28 (by omega), hF.2 29 (by omega), hF.2 30 (by omega), hF.2 (kf + 1) (by omega)]
      simp only [ok_nI (show k < 200 by omega) (by decide), if_true, cl_nI (show k < 2 ^ 31 by omega), nI_1]
      rw [a1, a3, a5]
      simp only [ok_nI (show cN (x.1 28) k < 40 by omega) (by decide), if_true, cl_nI (show cN (x.1 28) k < 2 ^ 31 by omega)]
      rw [hk _ a4]
      have st : ∀ b, lp (tst (x.1 27) (x.1 28) (x.1 29) (x.1 30) kd f b) (k + 1) 0 (0, 0, 0, 0, 0, 0) = tst (x.1 27) (x.1 28) (x.1 29) (x.1 30) kd f b k (lp (tst (x.1 27) (x.1 28) (x.1 29) (x.1 30) kd f b) k 0 (0, 0, 0, 0, 0, 0)) := fun b => by
        rw [lp_succ, Nat.zero_add]
      have ok1 : ∀ b, b < 10 → okT (k + 1) (lp (tst (x.1 27) (x.1 28) (x.1 29) (x.1 30) kd f b) (k + 1) 0 (0, 0, 0, 0, 0, 0)) := fun b hb => by
        rw [st]; exact okT_st a6 (hT b hb).2
      by_cases c2 : kd (cN (x.1 28) k) = f
      · rw [if_pos (by rw [c2])]
        by_cases c3 : x.1 29 k = 0
        · rw [if_pos c3]
          obtain ⟨z', e1, e2, e3⟩ := addB (t := fun b => lp (tst (x.1 27) (x.1 28) (x.1 29) (x.1 30) kd f b) k 0 (0, 0, 0, 0, 0, 0)) a2 a6 hF (fun d hd => (hT d hd).1) (show k ≤ 200 by omega) (hT _ a2).2
          rw [e1, Option.bind_some]
          refine ih (k + 1) z' (by omega) (by omega) e2 (fun b hb => ⟨?_, ok1 b hb⟩)
          have := e3 b hb
          rw [st]
          by_cases q : b = cN (x.1 27) k
          · rw [if_pos q] at this
            rw [tst_B q.symm c2 c3]
            rw [← q] at this
            exact this
          · rw [if_neg q] at this
            rw [tst_N (fun w => q w.1.symm)]
            exact this
        · rw [if_neg c3]
          obtain ⟨z', e1, e2, e3⟩ := addA (t := fun b => lp (tst (x.1 27) (x.1 28) (x.1 29) (x.1 30) kd f b) k 0 (0, 0, 0, 0, 0, 0)) a2 a6 hF (fun d hd => (hT d hd).1) (show k ≤ 200 by omega) (hT _ a2).2
          rw [e1, Option.bind_some]
          refine ih (k + 1) z' (by omega) (by omega) e2 (fun b hb => ⟨?_, ok1 b hb⟩)
          have := e3 b hb
          rw [st]
          by_cases q : b = cN (x.1 27) k
          · rw [if_pos q] at this
            rw [tst_A q.symm c2 c3]
            rw [← q] at this
            exact this
          · rw [if_neg q] at this
            rw [tst_N (fun w => q w.1.symm)]
            exact this
      · rw [if_neg (fun q => c2 ((nI_eq (by omega) (by omega)).mp q))]
        refine ih (k + 1) z (by omega) (by omega) hF (fun b hb => ⟨?_, ok1 b hb⟩)
        rw [st, tst_N (fun w => c2 w.2)]
        exact (hT b hb).1
theorem gatherX {kf N me f : Nat} {kd : Nat → Nat} {x : iw_M} (hkf : kf + 1 < 32) (hN : N ≤ 40) (hme : me ≤ 200) (hs : x.1 26 4 = nI me) (hk : ∀ j, j < N → x.1 (kf + 1) j = nI (kd j)) (hd : Kd N kd) (hf : f < N) (hm : msOk (x.1 27) (x.1 28) (x.1 30) me N) : ∃ z', fX6_gather kf (nI f) x = some ((), z') ∧ Fr x z' ∧ ∀ b, b < 10 → TXb z' b (tal (x.1 27) (x.1 28) (x.1 29) (x.1 30) kd me f b) ∧ okT me (tal (x.1 27) (x.1 28) (x.1 29) (x.1 30) kd me f b) := by
  unfold fX6_gather
  obtain ⟨z1, e1, e2, e3⟩ := clearX x
  rw [e1, Option.bind_some]
  exact gather_L hkf hN hme hs hk hd hf hm iw_fu 0 z1 (by omega) (by unfold iw_fu; omega) e2 (fun b hb => ⟨e3 b hb, by simp [lp, okT]⟩)
theorem mx0 (v : Int32) : iw_max 0 v = if 0 ≤ v then v else 0 := by
  unfold iw_max
  by_cases h : 0 < v
  · rw [if_pos h, if_pos (by rw [Int32.le_iff_toInt_le]; rw [Int32.lt_iff_toInt_lt] at h; omega)]
  · rw [if_neg h]
    by_cases g : 0 ≤ v
    · rw [if_pos g]
      apply Int32.toInt_inj.mp
      rw [Int32.le_iff_toInt_le] at g; rw [Int32.lt_iff_toInt_lt] at h; omega
    · rw [if_neg g]
theorem bothX {z : iw_M} {b me : Nat} {t : iw_T} (hb : b < 10) (hme : me ≤ 200) (ht : TXb z b t) (ho : okT me t) : fX6_hasBoth (nI b) z = some (if t.1 = 0 ∨ t.2.1 = 0 then 0 else 1, z) := by
  obtain ⟨e1, e2, e3, e4, e5, e6⟩ := ht
  obtain ⟨o1, o2, -⟩ := ho
  unfold fX6_hasBoth
  simp only [ok_nI hb (by decide), if_true, cl_nI (show b < 2 ^ 31 by omega), e3, e6]
  rw [show (0 : Int32) = nI 0 from rfl]
  by_cases c : t.1 = 0
  · rw [if_pos (by rw [nI_leI (by omega) (by omega)]; omega), if_pos (Or.inl c)]
  · rw [if_neg (by rw [nI_leI (by omega) (by omega)]; omega)]
    by_cases d : t.2.1 = 0
    · rw [if_pos (by rw [nI_leI (by omega) (by omega)]; omega), if_pos (Or.inr d)]
    · rw [if_neg (by rw [nI_leI (by omega) (by omega)]; omega), if_neg (fun q => q.elim c d)]
theorem beyondX {z : iw_M} {b me : Nat} {t : iw_T} (hb : b < 10) (hme : me ≤ 200) (ht : TXb z b t) (ho : okT me t) : fX6_beyondDoubt (nI b) z = some (svV false t, z) := by
  unfold fX6_beyondDoubt
  rw [bothX hb hme ht ho, Option.bind_some]
  obtain ⟨e1, e2, e3, e4, e5, e6⟩ := ht
  by_cases c : t.1 = 0 ∨ t.2.1 = 0
  · simp only [if_pos c]
    rw [svV_0 c]
    rfl
  · simp only [if_neg c]
    rw [if_neg (by decide), if_pos (ok_nI hb (by decide)), if_pos (ok_nI hb (by decide)), cl_nI (by omega), e1, e4, svV_f c, mx0, if_neg (show ¬ t.1 = 0 from fun q => c (Or.inl q)), if_neg (show ¬ t.2.1 = 0 from fun q => c (Or.inr q))]
theorem hopedX {z : iw_M} {b me : Nat} {t : iw_T} (hb : b < 10) (hme : me ≤ 200) (ht : TXb z b t) (ho : okT me t) : fX6_hoped (nI b) z = some (svV true t, z) := by
  unfold fX6_hoped
  rw [bothX hb hme ht ho, Option.bind_some]
  obtain ⟨e1, e2, e3, e4, e5, e6⟩ := ht
  obtain ⟨o1, o2, -⟩ := ho
  by_cases c : t.1 = 0 ∨ t.2.1 = 0
  · simp only [if_pos c]
    rw [svV_0 c]
    rfl
  · have n1 : ¬ nI t.1 = 0 := nI_ne0 (by omega) (by omega)
    have n2 : ¬ nI t.2.1 = 0 := nI_ne0 (by omega) (by omega)
    simp only [if_neg c]
    rw [if_neg (by decide)]
    simp only [ok_nI hb (by decide), if_true, cl_nI (show b < 2 ^ 31 by omega), e2, e3, e5, e6]
    rw [if_neg n1, if_neg n2, svV_t c, mx0]
