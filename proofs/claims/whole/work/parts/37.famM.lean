/-! PURE: the reference's families -/
def Wk (N : Nat) (E : Nat → Nat → Prop) (k : Nat → Nat) : Prop := (∀ i, i < N → k i ≤ i) ∧ ∀ i, i < N → Cn N E i (k i)
def k2u (k : Nat → Nat) (a b v : Nat) : Nat → Nat := fun j => if j = b then v else if j = a then v else k j
theorem k2u_sum {k : Nat → Nat} {a b v N : Nat} (ha : a < N) (hb : b < N) (hab : b ≠ a) : fb_sm (k2u k a b v) N + k a + k b = fb_sm k N + v + v := by
  have h1 := fb_sm_upd k v ha
  have h2 := fb_sm_upd (fun j => if j = a then v else k j) v hb
  rw [if_neg hab] at h2
  unfold k2u
  omega
theorem k2u_Wk {N : Nat} {E : Nat → Nat → Prop} {k : Nat → Nat} (h : Wk N E k) {a b : Nat} (ha : a < N) (hb : b < N) (he : E a b) : Wk N E (k2u k a b (min (k a) (k b))) := by
  have hab : Cn N E a b := Cn.ed ha hb he
  have h1 := h.1 a ha
  have h2 := h.1 b hb
  have hm : Cn N E a (min (k a) (k b)) ∧ Cn N E b (min (k a) (k b)) := by
    rcases Nat.le_total (k a) (k b) with q | q
    · rw [Nat.min_eq_left q]; exact ⟨h.2 a ha, hab.sy.tr (h.2 a ha)⟩
    · rw [Nat.min_eq_right q]; exact ⟨hab.tr (h.2 b hb), h.2 b hb⟩
  refine ⟨fun i hi => ?_, fun i hi => ?_⟩
  · unfold k2u
    by_cases c : i = b
    · rw [if_pos c]; omega
    · by_cases d : i = a
      · rw [if_neg c, if_pos d]; omega
      · rw [if_neg c, if_neg d]; exact h.1 i hi
  · unfold k2u
    by_cases c : i = b
    · rw [if_pos c, c]; exact hm.2
    · by_cases d : i = a
      · rw [if_neg c, if_pos d, d]; exact hm.1
      · rw [if_neg c, if_neg d]; exact h.2 i hi
section FM
variable {N : Nat} {lim : Int32} {K2 : Int32 → Int32 → iw_M → Option (Unit × iw_M)} {K1 : Int32 → iw_M → Option (Unit × iw_M)}
theorem fam_in (hN : N ≤ 40) {a : Nat} (ha : a < N) : ∀ (n b : Nat) (z : iw_M) (k : Nat → Nat) (mo : Nat), a < n + b → b ≤ a → (∀ j, j < N → z.1 31 j = nI (k j)) → (∀ j, j < N → ∃ q, q < 65536 ∧ z.1 9 j = nI q) → Wk N (al lim (z.1 8) (z.1 9)) k → mo ≤ 1 →
    ∃ (g : Nat → Int32) (k' : Nat → Nat) (mo' : Nat), fX9_families_L44 lim (nI a) K2 n (nI mo) (nI b) z = K2 (nI mo') (nI a) (iw_wF z 31 g) ∧ Wk N (al lim (z.1 8) (z.1 9)) k' ∧ (∀ j, j < N → g j = nI (k' j)) ∧ mo' ≤ 1 ∧ fb_sm k' N ≤ fb_sm k N ∧ (mo' = 0 → mo = 0 ∧ (∀ j, k' j = k j) ∧ ∀ c, b ≤ c → c < a → al lim (z.1 8) (z.1 9) a c → k a = k c) ∧ (mo' = 1 → mo = 1 ∨ fb_sm k' N < fb_sm k N) := by
  intro n
  induction n with
  | zero => intro b z k mo h1 h2; omega
  | succ n ih =>
    intro b z k mo h1 h2 hz hq hw hmo
    rw [fX9_families_L44]
    by_cases h : b = a
    · subst h
      rw [if_pos (nI_le (Nat.le_refl _) (by omega))]
      exact ⟨z.1 31, k, mo, by rw [wF_self], hw, hz, hmo, Nat.le_refl _, fun e => ⟨e, fun _ => rfl, fun c h3 h4 => by omega⟩, fun e => Or.inl e⟩
    · rw [if_neg (by rw [nI_leI (by omega) (by omega)]; omega)]
      simp only [ok_nI (show a < 40 by omega) (by decide), ok_nI (show b < 40 by omega) (by decide), if_true, cl_nI (show a < 2 ^ 31 by omega), cl_nI (show b < 2 ^ 31 by omega), nI_1]
      rw [hz a ha, hz b (by omega)]
      have b1 := hw.1 a ha
      have b2 := hw.1 b (by omega)
      have go : (al lim (z.1 8) (z.1 9) a b → k a = k b) → ∃ (g : Nat → Int32) (k' : Nat → Nat) (mo' : Nat), fX9_families_L44 lim (nI a) K2 n (nI mo) (nI (b + 1)) z = K2 (nI mo') (nI a) (iw_wF z 31 g) ∧ Wk N (al lim (z.1 8) (z.1 9)) k' ∧ (∀ j, j < N → g j = nI (k' j)) ∧ mo' ≤ 1 ∧ fb_sm k' N ≤ fb_sm k N ∧ (mo' = 0 → mo = 0 ∧ (∀ j, k' j = k j) ∧ ∀ c, b ≤ c → c < a → al lim (z.1 8) (z.1 9) a c → k a = k c) ∧ (mo' = 1 → mo = 1 ∨ fb_sm k' N < fb_sm k N) := by
        intro hh
        obtain ⟨g, k', mo', f1, f2, f3, f4, f5, f6, f7⟩ := ih (b + 1) z k mo (by omega) (by omega) hz hq hw hmo
        refine ⟨g, k', mo', f1, f2, f3, f4, f5, fun e => ?_, f7⟩
        obtain ⟨g1, g2, g3⟩ := f6 e
        refine ⟨g1, g2, fun c h3 h4 h5 => ?_⟩
        by_cases q : c = b
        · rw [q] at h5 ⊢; exact hh h5
        · exact g3 c (by omega) h4 h5
      by_cases c : k a = k b
      · rw [if_pos (by rw [c])]
        exact go (fun _ => c)
      · rw [if_neg (fun q => c ((nI_eq (by omega) (by omega)).mp q))]
        by_cases d : z.1 8 a = z.1 8 b
        · rw [if_pos d]
          obtain ⟨qa, ea, e1⟩ := hq a ha
          obtain ⟨qb, eb, e2⟩ := hq b (by omega)
          have el : fX9_likeness (z.1 9 a) (z.1 9 b) z = some (lk (z.1 9 a) (z.1 9 b), z) := by rw [e1, e2]; exact lkM ea eb z
          rw [el, Option.bind_some]
          dsimp only
          by_cases w : lim ≤ lk (z.1 9 a) (z.1 9 b)
          · rw [if_pos w, hz a ha, hz b (by omega)]
            have hal : al lim (z.1 8) (z.1 9) a b := ⟨d, by rw [Int32.lt_iff_toInt_lt]; rw [Int32.le_iff_toInt_le] at w; omega⟩
            have es : ∀ v : Nat, v = min (k a) (k b) → ∃ (g : Nat → Int32) (k' : Nat → Nat) (mo' : Nat), fX9_families_J137 lim (nI a) (nI b) (nI v) (fun w2 w4 zz => fX9_families_L44 lim (nI a) K2 n w2 w4 zz) (fun w2 w4 zz => K2 w2 w4 zz) z = K2 (nI mo') (nI a) (iw_wF z 31 g) ∧ Wk N (al lim (z.1 8) (z.1 9)) k' ∧ (∀ j, j < N → g j = nI (k' j)) ∧ mo' ≤ 1 ∧ fb_sm k' N ≤ fb_sm k N ∧ (mo' = 0 → mo = 0 ∧ (∀ j, k' j = k j) ∧ ∀ c, b ≤ c → c < a → al lim (z.1 8) (z.1 9) a c → k a = k c) ∧ (mo' = 1 → mo = 1 ∨ fb_sm k' N < fb_sm k N) := by
              clear go
              intro v hv
              unfold fX9_families_J137
              simp only [ok_nI (show a < 40 by omega) (by decide), ok_nI (show b < 40 by omega) (by decide), if_true, cl_nI (show a < 2 ^ 31 by omega), cl_nI (show b < 2 ^ 31 by omega), nI_1]
              rw [show (1 : Int32) = nI 1 from rfl, wI_wF z, wI_wF, wF_s, wF_wF]
              have hs := k2u_sum (k := k) (v := v) ha (show b < N by omega) h
              have hlt : fb_sm (k2u k a b v) N < fb_sm k N := by
                have q1 : v < k a ∨ v < k b := by omega
                have q2 : v ≤ k a ∧ v ≤ k b := by omega
                omega
              have n8 : (iw_wF z 31 (upd (upd (z.1 31) a (nI v)) b (nI v))).1 8 = z.1 8 := wF_n _ _ (by omega)
              have n9 : (iw_wF z 31 (upd (upd (z.1 31) a (nI v)) b (nI v))).1 9 = z.1 9 := wF_n _ _ (by omega)
              obtain ⟨g, k', mo', f1, f2, f3, f4, f5, f6, f7⟩ := ih (b + 1) (iw_wF z 31 (upd (upd (z.1 31) a (nI v)) b (nI v))) (k2u k a b v) 1 (by omega) (by omega) (fun j hj => by
                rw [wF_s]
                unfold k2u upd
                by_cases q : j = b
                · rw [if_pos q, if_pos q]
                · by_cases q2 : j = a
                  · rw [if_neg q, if_neg q, if_pos q2, if_pos q2]
                  · rw [if_neg q, if_neg q, if_neg q2, if_neg q2]; exact hz j hj) (by rw [n9]; exact hq) (by rw [n8, n9, hv]; exact k2u_Wk hw ha (by omega) hal) (by omega)
              rw [n8, n9] at f2
              exact ⟨g, k', mo', by rw [f1, wF_wF], f2, f3, f4, Nat.le_of_lt (Nat.lt_of_le_of_lt f5 hlt), fun e => absurd (f6 e).1 (by decide), fun e => Or.inr (Nat.lt_of_le_of_lt f5 hlt)⟩
            by_cases y : k b ≤ k a
            · rw [if_pos (by rw [nI_leI (by omega) (by omega)]; exact y)]
              exact es (k b) (by omega)
            · rw [if_neg (by rw [nI_leI (by omega) (by omega)]; exact y)]
              exact es (k a) (by omega)
          · rw [if_neg w]
            exact go (fun q => absurd q.2 (by
              intro q9
              apply q9
              rw [Int32.lt_iff_toInt_lt]; rw [Int32.le_iff_toInt_le] at w; omega))
        · rw [if_neg d]
          exact go (fun q => absurd q.1 d)
theorem fam_mid (hN : N ≤ 40) : ∀ (n a : Nat) (z : iw_M) (k : Nat → Nat) (mo : Nat), N < n + a → a ≤ N → z.1 0 2 = nI N → (∀ j, j < N → z.1 31 j = nI (k j)) → (∀ j, j < N → ∃ q, q < 65536 ∧ z.1 9 j = nI q) → Wk N (al lim (z.1 8) (z.1 9)) k → mo ≤ 1 →
    ∃ (g : Nat → Int32) (k' : Nat → Nat) (mo' : Nat), fX9_families_L33 lim K2 n (nI mo) (nI a) z = K2 (nI mo') (nI N) (iw_wF z 31 g) ∧ Wk N (al lim (z.1 8) (z.1 9)) k' ∧ (∀ j, j < N → g j = nI (k' j)) ∧ mo' ≤ 1 ∧ fb_sm k' N ≤ fb_sm k N ∧ (mo' = 0 → mo = 0 ∧ (∀ j, k' j = k j) ∧ ∀ d c, a ≤ d → d < N → c < d → al lim (z.1 8) (z.1 9) d c → k d = k c) ∧ (mo' = 1 → mo = 1 ∨ fb_sm k' N < fb_sm k N) := by
  intro n
  induction n with
  | zero => intro a z k mo h1 h2; omega
  | succ n ih =>
    intro a z k mo h1 h2 hs hz hq hw hmo
    rw [fX9_families_L33, hs]
    by_cases h : a = N
    · subst h
      rw [if_pos (nI_le (Nat.le_refl _) (by omega))]
      exact ⟨z.1 31, k, mo, by rw [wF_self], hw, hz, hmo, Nat.le_refl _, fun e => ⟨e, fun _ => rfl, fun d c h3 h4 => by omega⟩, fun e => Or.inl e⟩
    · rw [if_neg (by rw [nI_leI (by omega) (by omega)]; omega), nI_1, show (0 : Int32) = nI 0 from rfl]
      obtain ⟨g, k1, m1, f1, f2, f3, f4, f5, f6, f7⟩ := fam_in (lim := lim) (K2 := fun x2_3 x4_3 z_3 => fX9_families_L33 lim K2 n x2_3 (nI (a + 1)) z_3) hN (show a < N by omega) iw_fu 0 z k mo (by unfold iw_fu; omega) (by omega) hz hq hw hmo
      rw [f1]
      have n0 : (iw_wF z 31 g).1 0 = z.1 0 := wF_n _ _ (by omega)
      have n8 : (iw_wF z 31 g).1 8 = z.1 8 := wF_n _ _ (by omega)
      have n9 : (iw_wF z 31 g).1 9 = z.1 9 := wF_n _ _ (by omega)
      obtain ⟨g2, k2, m2, e1, e2, e3, e4, e5, e6, e7⟩ := ih (a + 1) (iw_wF z 31 g) k1 m1 (by omega) (by omega) (by rw [n0]; exact hs) (fun j hj => by rw [wF_s]; exact f3 j hj) (by rw [n9]; exact hq) (by rw [n8, n9]; exact f2) f4
      rw [n8, n9] at e2 e6
      refine ⟨g2, k2, m2, by rw [e1, wF_wF], e2, e3, e4, by omega, fun e => ?_, fun e => ?_⟩
      · obtain ⟨p1, p2, p3⟩ := e6 e
        obtain ⟨r1, r2, r3⟩ := f6 p1
        refine ⟨r1, fun j => by rw [p2, r2], fun d c h3 h4 h5 h6 => ?_⟩
        by_cases q : d = a
        · rw [q] at h5 h6 ⊢; exact r3 c (by omega) h5 h6
        · have := p3 d c (by omega) h4 h5 h6
          rw [r2, r2] at this
          exact this
      · rcases e7 e with q | q
        · rcases f7 q with w | w
          · exact Or.inl w
          · exact Or.inr (by omega)
        · exact Or.inr (by omega)
theorem fam_out (hN : N ≤ 40) : ∀ (n : Nat) (z : iw_M) (k : Nat → Nat), fb_sm k N + 1 < n → z.1 0 2 = nI N → (∀ j, j < N → z.1 31 j = nI (k j)) → (∀ j, j < N → ∃ q, q < 65536 ∧ z.1 9 j = nI q) → Wk N (al lim (z.1 8) (z.1 9)) k →
    ∃ (g : Nat → Int32) (k' : Nat → Nat), fX9_families_L25 lim K1 n (nI 1) z = K1 (nI 0) (iw_wF z 31 g) ∧ Can N (al lim (z.1 8) (z.1 9)) k' ∧ ∀ j, j < N → g j = nI (k' j) := by
  intro n
  induction n with
  | zero => intro z k h1; omega
  | succ n ih =>
    intro z k h1 hs hz hq hw
    rw [fX9_families_L25, if_neg (by decide), show (0 : Int32) = nI 0 from rfl]
    obtain ⟨g, k1, m1, f1, f2, f3, f4, f5, f6, f7⟩ := fam_mid (lim := lim) (K2 := fun x2_4 x3_4 z_4 => fX9_families_L25 lim K1 n x2_4 z_4) hN iw_fu 0 z k 0 (by unfold iw_fu; omega) (by omega) hs hz hq hw (by omega)
    rw [f1]
    rcases Nat.eq_zero_or_pos m1 with h | h
    · subst h
      obtain ⟨-, p2, p3⟩ := f6 rfl
      obtain ⟨n', rfl⟩ : ∃ n', n = n' + 1 := ⟨n - 1, by omega⟩
      rw [fX9_families_L25, if_pos (by decide)]
      have hc : ∀ a b, a < N → b < N → al lim (z.1 8) (z.1 9) a b → k1 a = k1 b := by
        intro a b ha hb he
        rw [p2, p2]
        rcases Nat.lt_trichotomy a b with q | q | q
        · exact (p3 b a (by omega) hb q (al_sy he)).symm
        · rw [q]
        · exact p3 a b (by omega) ha q he
      exact ⟨g, k1, rfl, ⟨f2.1, hc, f2.2⟩, f3⟩
    · have e : m1 = 1 := by omega
      subst e
      have hd : fb_sm k1 N < fb_sm k N := by
        rcases f7 rfl with q | q
        · omega
        · exact q
      have n0 : (iw_wF z 31 g).1 0 = z.1 0 := wF_n _ _ (by omega)
      have n8 : (iw_wF z 31 g).1 8 = z.1 8 := wF_n _ _ (by omega)
      have n9 : (iw_wF z 31 g).1 9 = z.1 9 := wF_n _ _ (by omega)
      obtain ⟨g2, k2, e1, e2, e3⟩ := ih (iw_wF z 31 g) k1 (by omega) (by rw [n0]; exact hs) (fun j hj => by rw [wF_s]; exact f3 j hj) (by rw [n9]; exact hq) (by rw [n8, n9]; exact f2)
      rw [n8, n9] at e2
      exact ⟨g2, k2, by rw [e1, wF_wF], e2, e3⟩
theorem fam_ini (hN : N ≤ 40) : ∀ (n i : Nat) (z : iw_M), N < n + i → i ≤ N → z.1 0 2 = nI N → (∀ j, j < i → z.1 31 j = nI j) →
    ∃ g : Nat → Int32, fX9_families_L2 lim K1 n (nI i) z = K1 (nI N) (iw_wF z 31 g) ∧ ∀ j, j < N → g j = nI j := by
  intro n
  induction n with
  | zero => intro i z h1 h2; omega
  | succ n ih =>
    intro i z h1 h2 hs hz
    rw [fX9_families_L2, hs]
    by_cases h : i = N
    · subst h
      rw [if_pos (nI_le (Nat.le_refl _) (by omega))]
      exact ⟨z.1 31, by rw [wF_self], hz⟩
    · rw [if_neg (by rw [nI_leI (by omega) (by omega)]; omega), if_pos (ok_nI (by omega) (by decide)), cl_nI (by omega), nI_1, wI_wF]
      obtain ⟨g, e1, e2⟩ := ih (i + 1) (iw_wF z 31 (upd (z.1 31) i (nI i))) (by omega) (by omega) (by rw [wF_n _ _ (by omega)]; exact hs) (fun j hj => by
        rw [wF_s]
        by_cases q : j = i
        · rw [q, upd_s]
        · rw [upd_n _ _ q]; exact hz j (by omega))
      exact ⟨g, by rw [e1, wF_wF], e2⟩
theorem famM (hN : N ≤ 40) (m : iw_M) (hs : m.1 0 2 = nI N) (hq : ∀ j, j < N → ∃ q, q < 65536 ∧ m.1 9 j = nI q) : ∃ (g : Nat → Int32) (k' : Nat → Nat), fX9_families lim m = some ((), iw_wF m 31 g) ∧ Can N (al lim (m.1 8) (m.1 9)) k' ∧ ∀ j, j < N → g j = nI (k' j) := by
  unfold fX9_families
  rw [show (0 : Int32) = nI 0 from rfl, show (1 : Int32) = nI 1 from rfl]
  obtain ⟨g, e1, e2⟩ := fam_ini (lim := lim) (K1 := fun x2_1 z_1 => fX9_families_L25 lim (fun x2_5 z_5 => some ((), z_5)) iw_fu (nI 1) z_1) hN iw_fu 0 m (by unfold iw_fu; omega) (by omega) hs (fun j h => by omega)
  rw [e1]
  have n0 : (iw_wF m 31 g).1 0 = m.1 0 := wF_n _ _ (by omega)
  have n8 : (iw_wF m 31 g).1 8 = m.1 8 := wF_n _ _ (by omega)
  have n9 : (iw_wF m 31 g).1 9 = m.1 9 := wF_n _ _ (by omega)
  have hsum : ∀ n, n ≤ 40 → fb_sm (fun j => j) n ≤ 40 * n := by
    intro n
    induction n with
    | zero => intro _; simp [fb_sm]
    | succ n ih => intro h; have := ih (by omega); simp only [fb_sm]; omega
  obtain ⟨g2, k2, f1, f2, f3⟩ := fam_out (lim := lim) (K1 := fun x2_5 z_5 => some ((), z_5)) hN iw_fu (iw_wF m 31 g) (fun j => j) (by have := hsum N hN; unfold iw_fu; omega) (by rw [n0]; exact hs) (fun j hj => by rw [wF_s]; exact e2 j hj) (by rw [n9]; exact hq) ⟨fun i _ => Nat.le_refl _, fun i _ => Cn.rfl'⟩
  rw [n8, n9] at f2
  exact ⟨g2, k2, by rw [f1, wF_wF], f2, f3⟩
end FM
