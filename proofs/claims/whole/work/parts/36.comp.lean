/-! PURE: classes of a graph, each by its least member -/
def iw_wF (z : iw_M) (k : Nat) (f : Nat → Int32) : iw_M := (fun a => if a = k then f else z.1 a, z.2)
theorem wF_s (z : iw_M) (k : Nat) (f : Nat → Int32) : (iw_wF z k f).1 k = f := by simp [iw_wF]
theorem wF_n (z : iw_M) {k a : Nat} (f : Nat → Int32) (h : a ≠ k) : (iw_wF z k f).1 a = z.1 a := by simp [iw_wF, h]
theorem wF_2 (z : iw_M) (k : Nat) (f : Nat → Int32) : (iw_wF z k f).2 = z.2 := rfl
theorem wF_wF (z : iw_M) (k : Nat) (f g : Nat → Int32) : iw_wF (iw_wF z k f) k g = iw_wF z k g := by
  unfold iw_wF
  congr 1
  funext a
  by_cases h : a = k <;> simp [h]
theorem wF_self (z : iw_M) (k : Nat) : iw_wF z k (z.1 k) = z := by
  unfold iw_wF
  apply Prod.ext
  · funext a
    by_cases h : a = k
    · simp [h]
    · simp [h]
  · rfl
theorem wI_wF (z : iw_M) (k j : Nat) (v : Int32) : iw_wI z k j v = iw_wF z k (upd (z.1 k) j v) := rfl
section GRAPH
def Cn (N : Nat) (E : Nat → Nat → Prop) (i j : Nat) : Prop := ∀ S : Nat → Prop, S i → (∀ a b, a < N → b < N → E a b → (S a ↔ S b)) → S j
variable {N : Nat} {E E' : Nat → Nat → Prop} {k k' : Nat → Nat}
theorem Cn.rfl' {i : Nat} : Cn N E i i := fun _ h _ => h
theorem Cn.tr {i j l : Nat} (h1 : Cn N E i j) (h2 : Cn N E j l) : Cn N E i l := fun S h hc => h2 S (h1 S h hc) hc
theorem Cn.sy {i j : Nat} (h : Cn N E i j) : Cn N E j i := fun S hj hc => (h (fun t => S i ↔ S t) Iff.rfl (fun a b ha hb he => by have := hc a b ha hb he; constructor <;> intro q <;> first | exact q.trans this | exact q.trans this.symm)).mpr hj
theorem Cn.ed {a b : Nat} (ha : a < N) (hb : b < N) (h : E a b) : Cn N E a b := fun _ hs hc => (hc a b ha hb h).mp hs
theorem Cn.mo {i j : Nat} {M : Nat} (hM : N ≤ M) (h : ∀ a b, a < N → b < N → E a b → E' a b) (hc : Cn N E i j) : Cn M E' i j := fun S hs hcl => hc S hs (fun a b ha hb he => hcl a b (by omega) (by omega) (h a b ha hb he))
def Can (N : Nat) (E : Nat → Nat → Prop) (k : Nat → Nat) : Prop := (∀ i, i < N → k i ≤ i) ∧ (∀ a b, a < N → b < N → E a b → k a = k b) ∧ ∀ i, i < N → Cn N E i (k i)
theorem Can.co (h : Can N E k) {i j : Nat} (c : Cn N E i j) : k i = k j := c (fun t => k i = k t) rfl (fun a b ha hb he => by rw [h.2.1 a b ha hb he])
theorem Can.un (h : Can N E k) (h' : Can N E k') : ∀ i, i < N → k i = k' i := by
  have key : ∀ {k k' : Nat → Nat}, Can N E k → Can N E k' → ∀ i, i < N → k i ≤ k' i := by
    intro k k' h h' i hi
    have h1 := h'.1 i hi
    have h2 := h.1 (k' i) (by omega)
    rw [← h.co (h'.2.2 i hi)] at h2
    exact h2
  intro i hi
  exact Nat.le_antisymm (key h h' i hi) (key h' h i hi)
theorem Can.id (h : Can N E k) {i : Nat} (hi : i < N) : k (k i) = k i := (h.co (h.2.2 i hi)).symm
theorem Can.ex (h : Can N E k) (h1 : ∀ a b, a < N → b < N → E a b → E' a b) (h2 : ∀ a b, a < N → b < N → E' a b → k a = k b) : Can N E' k :=
  ⟨h.1, h2, fun i hi => (h.2.2 i hi).mo (Nat.le_refl _) h1⟩
theorem Can.cg (h : Can N E k) (e : ∀ i, i < N → k' i = k i) : Can N E k' :=
  ⟨fun i hi => by rw [e i hi]; exact h.1 i hi, fun a b ha hb he => by rw [e a ha, e b hb]; exact h.2.1 a b ha hb he, fun i hi => by rw [e i hi]; exact h.2.2 i hi⟩
theorem Can.z (E : Nat → Nat → Prop) (k : Nat → Nat) : Can 0 E k := ⟨fun i h => absurd h (Nat.not_lt_zero i), fun a b h => absurd h (Nat.not_lt_zero a), fun i h => absurd h (Nat.not_lt_zero i)⟩
/-- an edge comes -/
theorem Can.mg (h : Can N E k) {u v : Nat} (hu : u < N) (hv : v < N) : Can N (fun a b => E a b ∨ (a = u ∧ b = v)) (fun j => if k j = max (k u) (k v) then min (k u) (k v) else k j) := by
  have hm : ∀ i, i < N → Cn N (fun a b => E a b ∨ (a = u ∧ b = v)) i (k i) := fun i hi => (h.2.2 i hi).mo (Nat.le_refl _) (fun a b _ _ he => Or.inl he)
  have huv : Cn N (fun a b => E a b ∨ (a = u ∧ b = v)) (k u) (k v) := ((hm u hu).sy.tr (Cn.ed hu hv (Or.inr ⟨rfl, rfl⟩))).tr (hm v hv)
  have hmm : Cn N (fun a b => E a b ∨ (a = u ∧ b = v)) (max (k u) (k v)) (min (k u) (k v)) := by
    rcases Nat.le_total (k u) (k v) with q | q
    · rw [Nat.max_eq_right q, Nat.min_eq_left q]; exact huv.sy
    · rw [Nat.max_eq_left q, Nat.min_eq_right q]; exact huv
  refine ⟨fun i hi => ?_, fun a b ha hb he => ?_, fun i hi => ?_⟩
  · have := h.1 i hi
    by_cases c : k i = max (k u) (k v)
    · simp only [if_pos c]; omega
    · simp only [if_neg c]; exact this
  · rcases he with he | ⟨rfl, rfl⟩
    · have := h.2.1 a b ha hb he
      simp only [this]
    · have e1 : ∀ t, (t = k a ∨ t = k b) → (if t = max (k a) (k b) then min (k a) (k b) else t) = min (k a) (k b) := by
        intro t ht
        by_cases c : t = max (k a) (k b)
        · rw [if_pos c]
        · rw [if_neg c]; omega
      simp only [e1 _ (Or.inl rfl), e1 _ (Or.inr rfl)]
  · by_cases c : k i = max (k u) (k v)
    · simp only [if_pos c]
      exact (hm i hi).tr (by rw [c]; exact hmm)
    · simp only [if_neg c]; exact hm i hi
/-- a lone vertex comes -/
theorem Can.ad (h : Can N E k) : Can (N + 1) (fun a b => a < N ∧ b < N ∧ E a b) (fun j => if j = N then N else k j) := by
  refine ⟨fun i hi => ?_, fun a b ha hb he => ?_, fun i hi => ?_⟩
  · by_cases c : i = N
    · simp [c]
    · simp only [if_neg c]; exact h.1 i (by omega)
  · simp only [if_neg (show ¬ a = N by omega), if_neg (show ¬ b = N by omega)]
    exact h.2.1 a b he.1 he.2.1 he.2.2
  · by_cases c : i = N
    · simp only [if_pos c]; rw [c]; exact Cn.rfl'
    · simp only [if_neg c]
      exact (h.2.2 i (by omega)).mo (by omega) (fun a b ha hb he => ⟨ha, hb, he⟩)
end GRAPH
/-- two ideas are alike -/
def al (lim : Int32) (sh mk : Nat → Int32) (i j : Nat) : Prop := sh i = sh j ∧ ¬ lk (mk i) (mk j) < lim
theorem al_sy {lim : Int32} {sh mk : Nat → Int32} {i j : Nat} (h : al lim sh mk i j) : al lim sh mk j i := ⟨h.1.symm, by rw [lk_comm]; exact h.2⟩
theorem alikeX {i j : Nat} (hi : i < 40) (hj : j < 40) (lim : Int32) (x : iw_M) : ∃ r : Int32, fX3_areAlike (nI i) (nI j) lim x = some (r, x) ∧ (r = 0 ↔ ¬ al lim (x.1 10) (x.1 11) i j) := by
  unfold fX3_areAlike al
  rw [if_pos (ok_nI hi (by decide)), if_pos (ok_nI hj (by decide)), cl_nI (by omega), cl_nI (by omega)]
  by_cases c : x.1 10 i = x.1 10 j
  · rw [if_pos c, if_pos (ok_nI hi (by decide)), if_pos (ok_nI hj (by decide)), lkX, Option.bind_some]
    by_cases d : lk (x.1 11 i) (x.1 11 j) < lim
    · simp only [if_pos d]
      exact ⟨0, rfl, by simp [d]⟩
    · simp only [if_neg d]
      exact ⟨1, rfl, by simp [c, d]⟩
  · rw [if_neg c]
    exact ⟨0, rfl, by simp [c]⟩
theorem min_nI {a b : Nat} (ha : a < 2 ^ 31) (hb : b < 2 ^ 31) : iw_min (nI a) (nI b) = nI (min a b) := by
  unfold iw_min
  by_cases h : b < a
  · rw [if_pos ((nI_ltI hb ha).mpr h), Nat.min_eq_right (by omega)]
  · rw [if_neg (fun q => h ((nI_ltI hb ha).mp q)), Nat.min_eq_left (by omega)]
theorem max_nI {a b : Nat} (ha : a < 2 ^ 31) (hb : b < 2 ^ 31) : iw_max (nI a) (nI b) = nI (max a b) := by
  unfold iw_max
  by_cases h : a < b
  · rw [if_pos ((nI_ltI ha hb).mpr h), Nat.max_eq_right (by omega)]
  · rw [if_neg (fun q => h ((nI_ltI ha hb).mp q)), Nat.max_eq_left (by omega)]
theorem join_L {kf last : Nat} {to fm : Int32} {K : Int32 → iw_M → Option (Unit × iw_M)} (hl : last < 40) : ∀ (n i : Nat) (z : iw_M), last + 1 < n + i → i ≤ last + 1 →
    fX1_join_L18 kf (nI last) to fm K n (nI i) z = K (nI (last + 1)) (iw_wF z (kf + 1) (fun j => if i ≤ j ∧ j ≤ last ∧ z.1 (kf + 1) j = fm then to else z.1 (kf + 1) j)) := by
  intro n
  induction n with
  | zero => intro i z h1 h2; omega
  | succ n ih =>
    intro i z h1 h2
    rw [fX1_join_L18]
    by_cases h : last < i
    · have e : i = last + 1 := by omega
      subst e
      rw [if_pos ((nI_ltI (by omega) (by omega)).mpr h)]
      congr 1
      rw [show (fun j => if last + 1 ≤ j ∧ j ≤ last ∧ z.1 (kf + 1) j = fm then to else z.1 (kf + 1) j) = z.1 (kf + 1) from funext fun j => if_neg (by omega)]
      rw [wF_self]
    · rw [if_neg (fun q => h ((nI_ltI (by omega) (by omega)).mp q)), if_pos (ok_nI (by omega) (by decide)), cl_nI (by omega)]
      by_cases c : z.1 (kf + 1) i = fm
      · rw [if_pos c, if_pos (ok_nI (by omega) (by decide)), nI_1, ih (i + 1) _ (by omega) (by omega)]
        congr 1
        rw [wI_wF, wF_s, wF_wF]
        congr 1
        funext j
        by_cases hj : j = i
        · subst hj
          rw [if_neg (by omega), upd_s, if_pos ⟨Nat.le_refl _, by omega, c⟩]
        · rw [upd_n _ _ hj]
          by_cases d : i ≤ j ∧ j ≤ last ∧ z.1 (kf + 1) j = fm
          · rw [if_pos d, if_pos ⟨by omega, d.2⟩]
          · rw [if_neg d, if_neg (fun q => d ⟨by omega, q.2⟩)]
      · rw [if_neg c, nI_1, ih (i + 1) _ (by omega) (by omega)]
        congr 2
        funext j
        by_cases hj : j = i
        · subst hj
          rw [if_neg (by omega), if_neg (fun q => c q.2.2)]
        · by_cases d : i ≤ j ∧ j ≤ last ∧ z.1 (kf + 1) j = fm
          · rw [if_pos d, if_pos ⟨by omega, d.2⟩]
          · rw [if_neg d, if_neg (fun q => d ⟨by omega, q.2⟩)]
theorem joinX {kf a b last : Nat} (hl : last < 40) (ha : a ≤ last) (hb : b ≤ last) (z : iw_M) : fX1_join kf (nI a) (nI b) (nI last) z = some ((), iw_wF z (kf + 1) (fun j => if max a b ≤ j ∧ j ≤ last ∧ z.1 (kf + 1) j = nI (max a b) then nI (min a b) else z.1 (kf + 1) j)) := by
  unfold fX1_join
  rw [min_nI (by omega) (by omega), max_nI (by omega) (by omega), join_L hl iw_fu (max a b) z (by unfold iw_fu; omega) (by omega)]
/-- the edges known when the idea t has been held against those below i -/
def eG (al : Nat → Nat → Prop) (t i a b : Nat) : Prop := (a < t ∧ b < t ∧ al a b) ∨ (b = t ∧ a < i ∧ al a t)
theorem enrol_L {kf t : Nat} {lim : Int32} {K : Int32 → iw_M → Option (Unit × iw_M)} (hk : 12 ≤ kf) (ht : t < 40) : ∀ (n i : Nat) (z : iw_M) (k : Nat → Nat), t < n + i → i ≤ t → (∀ j, j ≤ t → z.1 (kf + 1) j = nI (k j)) → Can (t + 1) (eG (al lim (z.1 10) (z.1 11)) t i) k →
    ∃ (g : Nat → Int32) (k' : Nat → Nat), fX1_enrol_L9 kf (nI t) lim K n (nI i) z = K (nI t) (iw_wF z (kf + 1) g) ∧ Can (t + 1) (eG (al lim (z.1 10) (z.1 11)) t t) k' ∧ ∀ j, j ≤ t → g j = nI (k' j) := by
  intro n
  induction n with
  | zero => intro i z k h1 h2; omega
  | succ n ih =>
    intro i z k h1 h2 hz hc
    rw [fX1_enrol_L9]
    by_cases h : i = t
    · subst h
      rw [if_pos (nI_le (Nat.le_refl _) (by omega))]
      exact ⟨z.1 (kf + 1), k, by rw [wF_self], hc, hz⟩
    · rw [if_neg (by rw [nI_leI (by omega) (by omega)]; omega), if_pos (ok_nI (by omega) (by decide)), if_pos (ok_nI (by omega) (by decide)), cl_nI (by omega), cl_nI (by omega), hz i (by omega), hz t (Nat.le_refl _), nI_1]
      have b1 := hc.1 i (by omega)
      have b2 := hc.1 t (by omega)
      by_cases c : k i = k t
      · rw [if_pos (by rw [c])]
        refine ih (i + 1) z k (by omega) (by omega) hz (hc.ex (fun a b _ _ he => ?_) (fun a b ha hb he => ?_))
        · rcases he with he | ⟨e1, e2, e3⟩
          · exact Or.inl he
          · exact Or.inr ⟨e1, by omega, e3⟩
        · rcases he with he | ⟨e1, e2, e3⟩
          · exact hc.2.1 a b ha hb (Or.inl he)
          · by_cases q : a = i
            · rw [q, e1, c]
            · exact hc.2.1 a b ha hb (Or.inr ⟨e1, by omega, e3⟩)
      · rw [if_neg (fun q => c ((nI_eq (by omega) (by omega)).mp q))]
        obtain ⟨r, er, hr⟩ := alikeX (i := i) (j := t) (by omega) ht lim z
        rw [er, Option.bind_some]
        by_cases d : r = 0
        · rw [if_pos d]
          refine ih (i + 1) z k (by omega) (by omega) hz (hc.ex (fun a b _ _ he => ?_) (fun a b ha hb he => ?_))
          · rcases he with he | ⟨e1, e2, e3⟩
            · exact Or.inl he
            · exact Or.inr ⟨e1, by omega, e3⟩
          · rcases he with he | ⟨e1, e2, e3⟩
            · exact hc.2.1 a b ha hb (Or.inl he)
            · by_cases q : a = i
              · rw [q] at e3; exact absurd e3 (hr.mp d)
              · exact hc.2.1 a b ha hb (Or.inr ⟨e1, by omega, e3⟩)
        · rw [if_neg d, if_pos (ok_nI (by omega) (by decide)), if_pos (ok_nI (by omega) (by decide))]
          dsimp only
          rw [hz i (by omega), hz t (Nat.le_refl _), joinX ht (by omega) (by omega), Option.bind_some]
          have hal : al lim (z.1 10) (z.1 11) i t := Classical.byContradiction fun q => d (hr.mpr q)
          have hm := hc.mg (u := i) (v := t) (by omega) (by omega)
          have n10 : (iw_wF z (kf + 1) (fun j => if max (k i) (k t) ≤ j ∧ j ≤ t ∧ z.1 (kf + 1) j = nI (max (k i) (k t)) then nI (min (k i) (k t)) else z.1 (kf + 1) j)).1 10 = z.1 10 := wF_n _ _ (by omega)
          have n11 : (iw_wF z (kf + 1) (fun j => if max (k i) (k t) ≤ j ∧ j ≤ t ∧ z.1 (kf + 1) j = nI (max (k i) (k t)) then nI (min (k i) (k t)) else z.1 (kf + 1) j)).1 11 = z.1 11 := wF_n _ _ (by omega)
          obtain ⟨g, k', e1, e2, e3⟩ := ih (i + 1) (iw_wF z (kf + 1) (fun j => if max (k i) (k t) ≤ j ∧ j ≤ t ∧ z.1 (kf + 1) j = nI (max (k i) (k t)) then nI (min (k i) (k t)) else z.1 (kf + 1) j)) (fun j => if k j = max (k i) (k t) then min (k i) (k t) else k j) (by omega) (by omega) (fun j hj => by
            rw [wF_s, hz j hj]
            have b3 := hc.1 j (by omega)
            by_cases q : k j = max (k i) (k t)
            · rw [if_pos q, if_pos ⟨by omega, hj, by rw [q]⟩]
            · rw [if_neg q, if_neg (fun w => q ((nI_eq (by omega) (by omega)).mp w.2.2))]) (by
            rw [n10, n11]
            refine hm.ex (fun a b ha hb he => ?_) (fun a b ha hb he => ?_)
            · rcases he with (he | ⟨e1, e2, e3⟩) | ⟨rfl, rfl⟩
              · exact Or.inl he
              · exact Or.inr ⟨e1, by omega, e3⟩
              · exact Or.inr ⟨rfl, by omega, hal⟩
            · refine hm.2.1 a b ha hb ?_
              rcases he with he | ⟨e1, e2, e3⟩
              · exact Or.inl (Or.inl he)
              · by_cases q : a = i
                · exact Or.inr ⟨q, e1⟩
                · exact Or.inl (Or.inr ⟨e1, by omega, e3⟩))
          rw [n10, n11] at e2
          exact ⟨g, k', by rw [e1, wF_wF], e2, e3⟩
theorem enrolX {kf t : Nat} {lim : Int32} (hk : 12 ≤ kf) (ht : t < 40) (z : iw_M) (k : Nat → Nat) (hz : ∀ j, j < t → z.1 (kf + 1) j = nI (k j)) (hc : Can t (al lim (z.1 10) (z.1 11)) k) : ∃ (g : Nat → Int32) (k' : Nat → Nat), fX1_enrol kf (nI t) lim z = some ((), iw_wF z (kf + 1) g) ∧ Can (t + 1) (al lim (z.1 10) (z.1 11)) k' ∧ ∀ j, j < t + 1 → g j = nI (k' j) := by
  unfold fX1_enrol
  rw [if_pos (ok_nI ht (by decide)), cl_nI (by omega), show (0 : Int32) = nI 0 from rfl, wI_wF]
  have n10 : (iw_wF z (kf + 1) (upd (z.1 (kf + 1)) t (nI t))).1 10 = z.1 10 := wF_n _ _ (by omega)
  have n11 : (iw_wF z (kf + 1) (upd (z.1 (kf + 1)) t (nI t))).1 11 = z.1 11 := wF_n _ _ (by omega)
  obtain ⟨g, k', e1, e2, e3⟩ := enrol_L (lim := lim) (K := fun x3_3 z_3 => some ((), z_3)) hk ht iw_fu 0 (iw_wF z (kf + 1) (upd (z.1 (kf + 1)) t (nI t))) (fun j => if j = t then t else k j) (by unfold iw_fu; omega) (by omega) (fun j hj => by
    rw [wF_s]
    by_cases q : j = t
    · rw [q, upd_s, if_pos rfl]
    · rw [upd_n _ _ q, if_neg q]; exact hz j (by omega)) (by
    rw [n10, n11]
    exact hc.ad.ex (fun a b _ _ he => Or.inl he) (fun a b ha hb he => by
      rcases he with he | ⟨e1, e2, e3⟩
      · exact hc.ad.2.1 a b ha hb he
      · omega))
  rw [n10, n11] at e2
  refine ⟨g, k', by rw [e1, wF_wF], e2.ex (fun a b ha hb he => ?_) (fun a b ha hb he => ?_), fun j hj => e3 j (by omega)⟩
  · rcases he with he | ⟨e1, e2, e3⟩
    · exact he.2.2
    · rw [e1]; exact e3
  · by_cases qa : a = t
    · by_cases qb : b = t
      · rw [qa, qb]
      · exact (e2.2.1 b a hb ha (Or.inr ⟨qa, by omega, by rw [qa] at he; exact al_sy he⟩)).symm
    · by_cases qb : b = t
      · exact e2.2.1 a b ha hb (Or.inr ⟨qb, by omega, by rw [qb] at he; exact he⟩)
      · exact e2.2.1 a b ha hb (Or.inl ⟨by omega, by omega, he⟩)
theorem build_L {kf N : Nat} {lim : Int32} {K : Int32 → iw_M → Option (Unit × iw_M)} (hk : 12 ≤ kf) (hN : N ≤ 40) : ∀ (n i : Nat) (z : iw_M) (k : Nat → Nat), N < n + i → i ≤ N → z.1 8 10 = nI N → (∀ j, j < i → z.1 (kf + 1) j = nI (k j)) → Can i (al lim (z.1 10) (z.1 11)) k →
    ∃ (g : Nat → Int32) (k' : Nat → Nat), fX1_build_L2 kf lim K n (nI i) z = K (nI N) (iw_wF z (kf + 1) g) ∧ Can N (al lim (z.1 10) (z.1 11)) k' ∧ ∀ j, j < N → g j = nI (k' j) := by
  intro n
  induction n with
  | zero => intro i z k h1 h2; omega
  | succ n ih =>
    intro i z k h1 h2 hs hz hc
    rw [fX1_build_L2, hs]
    by_cases h : i = N
    · subst h
      rw [if_pos (nI_le (Nat.le_refl _) (by omega))]
      exact ⟨z.1 (kf + 1), k, by rw [wF_self], hc, hz⟩
    · rw [if_neg (by rw [nI_leI (by omega) (by omega)]; omega)]
      obtain ⟨g, k1, e1, e2, e3⟩ := enrolX (kf := kf) hk (show i < 40 by omega) z k hz hc
      rw [e1, Option.bind_some, nI_1]
      have n8 : (iw_wF z (kf + 1) g).1 8 = z.1 8 := wF_n _ _ (by omega)
      have n10 : (iw_wF z (kf + 1) g).1 10 = z.1 10 := wF_n _ _ (by omega)
      have n11 : (iw_wF z (kf + 1) g).1 11 = z.1 11 := wF_n _ _ (by omega)
      obtain ⟨g2, k2, f1, f2, f3⟩ := ih (i + 1) (iw_wF z (kf + 1) g) k1 (by omega) (by omega) (by rw [n8]; exact hs) (fun j hj => by rw [wF_s]; exact e3 j hj) (by rw [n10, n11]; exact e2)
      rw [n10, n11] at f2
      exact ⟨g2, k2, by rw [f1, wF_wF], f2, f3⟩
theorem buildX {kf N : Nat} {lim : Int32} (hk : 12 ≤ kf) (hN : N ≤ 40) (z : iw_M) (hs : z.1 8 10 = nI N) : ∃ (g : Nat → Int32) (k' : Nat → Nat), fX1_build kf lim z = some ((), iw_wF z (kf + 1) g) ∧ Can N (al lim (z.1 10) (z.1 11)) k' ∧ ∀ j, j < N → g j = nI (k' j) := by
  unfold fX1_build
  rw [show (0 : Int32) = nI 0 from rfl]
  exact build_L hk hN iw_fu 0 z (fun j => j) (by unfold iw_fu; omega) (by omega) hs (fun j hj => by omega) (Can.z _ _)
