section DAYS
variable {x m : iw_M} {H N me ru wo d : Nat} {k : Nat → Nat}
/-- how often the idea i is paid in t days -/
def dK (m : iw_M) (k : Nat → Nat) (N ru d t i : Nat) : Nat := if m.1 12 i = 1 then (match dRl m k N ru i with
  | none => 0
  | some r => min ((d + t - cN (m.1 13) i) / 360) (cN (m.1 28) r) - (d - cN (m.1 13) i) / 360) else 0
theorem dK_n {t i : Nat} (h : ¬ m.1 12 i = 1) : dK m k N ru d t i = 0 := if_neg h
theorem dK_0 {t i : Nat} (h : dRl m k N ru i = none) : dK m k N ru d t i = 0 := by
  unfold dK
  rw [h]
  by_cases c : m.1 12 i = 1
  · rw [if_pos c]
  · rw [if_neg c]
theorem dK_s {t i r : Nat} (h1 : m.1 12 i = 1) (h : dRl m k N ru i = some r) : dK m k N ru d t i = min ((d + t - cN (m.1 13) i) / 360) (cN (m.1 28) r) - (d - cN (m.1 13) i) / 360 := by
  unfold dK
  rw [h, if_pos h1]
theorem dK_st {i : Nat} : dK m k N ru d 0 i = 0 := by
  by_cases c : m.1 12 i = 1
  · cases o : dRl m k N ru i with
    | none => exact dK_0 o
    | some r => rw [dK_s c o, Nat.add_zero]; omega
  · exact dK_n c
theorem dK_y {t i : Nat} (hc : m.1 12 i = 1 → cN (m.1 13) i ≤ d) (h : Pys m k N ru i (d + t + 1)) : dK m k N ru d (t + 1) i = dK m k N ru d t i + 1 := by
  obtain ⟨h1, h2, r, h3, h4⟩ := h
  have := hc h1
  rw [dK_s h1 h3, dK_s h1 h3]
  generalize cN (m.1 13) i = c at *
  generalize cN (m.1 28) r = Y at *
  omega
theorem dK_no {t i : Nat} (hc : m.1 12 i = 1 → cN (m.1 13) i ≤ d) (h : ¬ Pys m k N ru i (d + t + 1)) : dK m k N ru d (t + 1) i = dK m k N ru d t i := by
  by_cases h1 : m.1 12 i = 1
  case neg => rw [dK_n h1, dK_n h1]
  cases o : dRl m k N ru i with
  | none => rw [dK_0 o, dK_0 o]
  | some r =>
    have hcd := hc h1
    rw [dK_s h1 o, dK_s h1 o]
    by_cases h2 : (d + t + 1 - cN (m.1 13) i) % 360 = 0
    · have h4 : ¬ (d + t + 1 - cN (m.1 13) i) / 360 ≤ cN (m.1 28) r := fun q => h ⟨h1, h2, r, o, q⟩
      clear h hc
      generalize cN (m.1 13) i = c at *
      generalize cN (m.1 28) r = Y at *
      omega
    · clear h hc
      generalize cN (m.1 13) i = c at *
      generalize cN (m.1 28) r = Y at *
      omega
def mid (m : iw_M) (k : Nat → Nat) (N ru d t i : Nat) : Nat → Nat := fun j => if j < i then dK m k N ru d (t + 1) j else dK m k N ru d t j
theorem dayIn (h : RP x m H N me ru wo d) (hk : ∀ j, j < N → m.1 31 j = nI (k j)) (hd : Kd N k) {C : Nat → Int32} {D : Nat → Nat → Int32} (hC : ∀ i r, i < N → dRl m k N ru i = some r → C i = dCo m k N me i r) (hD : ∀ i g, i < N → D i g = dDp (bt64 (x.2 18 i)) H (cN (m.1 7) i) (cN (m.1 16) i) (C i) g) {t : Nat} (ht : d + t + 1 ≤ 3000) {v1 v3 : Int32} (K : Int32 → Int32 → iw_M → Option (Int32 × iw_M)) : ∀ (n i : Nat) (z : iw_M), i ≤ N → N < n + i → PM m C D H N (mid m k N ru d t i) z → z.1 0 0 = nI (d + t + 1) →
    ∃ z', fX9_days_L61 v1 v3 K n (sI (fun j => nI (mid m k N ru d t i j) * C j) N) (nI i) z = K (sI (fun j => nI (dK m k N ru d (t + 1) j) * C j) N) (nI N) z' ∧ PM m C D H N (dK m k N ru d (t + 1)) z' ∧ z'.1 0 0 = nI (d + t + 1) := by
  have hN := h.1.1.2.1
  intro n
  induction n with
  | zero => intro i z h1 h2; omega
  | succ n ih =>
    intro i z h1 h2 hz h0
    have z2 : z.1 0 2 = nI N := by rw [hz.1.2 2 (by decide) (by decide)]; exact h.1.2.2.1.2
    rw [fX9_days_L61, z2]
    by_cases c : i = N
    · rw [if_pos (by rw [c]; exact nI_le (Nat.le_refl _) (by omega)), c]
      have e : mid m k N ru d t N = dK m k N ru d (t + 1) := by
        funext j
        unfold mid
        by_cases w : j < N
        · rw [if_pos w]
        · have n1 : ¬ m.1 12 j = 1 := by rw [(h.2.2.2.2.2.1.2 j (by omega)).1]; decide
          rw [if_neg w, dK_n n1, dK_n n1]
      rw [c, e] at hz
      rw [e]
      exact ⟨z, rfl, hz, h0⟩
    · have hi : i < N := by omega
      have hcd : m.1 12 i = 1 → cN (m.1 13) i ≤ d := fun q => ((h.2.2.2.2.2.2.1 i hi).2 (by rw [q]; decide)).2.2
      have m0 : mid m k N ru d t i i = dK m k N ru d t i := if_neg (Nat.lt_irrefl _)
      rw [if_neg (by rw [nI_leI (by omega) (by omega)]; omega), nI_1]
      rcases paysM h hk hd hC hD hz (dy := d + t + 1) (by omega) h0 hi with ⟨p1, z', p2, p3, p4⟩ | ⟨p1, p2⟩
      · have e : up1 (mid m k N ru d t i) i = mid m k N ru d t (i + 1) := by
          funext j
          by_cases w : j = i
          · rw [w, up1_s, m0]
            unfold mid
            rw [if_pos (by omega), dK_y hcd p1]
          · rw [up1_n _ w]
            unfold mid
            by_cases y : j < i
            · rw [if_pos y, if_pos (by omega)]
            · rw [if_neg y, if_neg (by omega)]
        have s1 := sI_k (mid m k N ru d t i) C hi
        rw [e] at s1 p3
        rw [p2, Option.bind_some]
        dsimp only
        rw [← s1]
        exact ih (i + 1) z' (by omega) (by omega) p3 p4
      · have e : mid m k N ru d t i = mid m k N ru d t (i + 1) := by
          funext j
          unfold mid
          by_cases w : j = i
          · rw [w, if_neg (Nat.lt_irrefl _), if_pos (by omega), dK_no hcd p1]
          · by_cases y : j < i
            · rw [if_pos y, if_pos (by omega)]
            · rw [if_neg y, if_neg (by omega)]
        have a0 : ∀ a : Int32, a + 0 = a := fun a => by grind
        rw [p2, Option.bind_some]
        dsimp only
        rw [a0, e]
        rw [e] at hz
        exact ih (i + 1) z (by omega) (by omega) hz h0
theorem dayOut (h : RP x m H N me ru wo d) (hk : ∀ j, j < N → m.1 31 j = nI (k j)) (hd : Kd N k) {C : Nat → Int32} {D : Nat → Nat → Int32} (hC : ∀ i r, i < N → dRl m k N ru i = some r → C i = dCo m k N me i r) (hD : ∀ i g, i < N → D i g = dDp (bt64 (x.2 18 i)) H (cN (m.1 7) i) (cN (m.1 16) i) (C i) g) {n : Nat} (hn : d + n ≤ 3000) : ∀ (q t : Nat) (z : iw_M), t ≤ n → n < q + t → PM m C D H N (dK m k N ru d t) z → z.1 0 0 = nI (d + t) →
    ∃ z', fX9_days_L43 (nI n) (fun x2_4 x3_4 z_4 => some (x2_4, z_4)) q (sI (fun j => nI (dK m k N ru d t j) * C j) N) (nI t) z = some (sI (fun j => nI (dK m k N ru d n j) * C j) N, z') ∧ PM m C D H N (dK m k N ru d n) z' ∧ z'.1 0 0 = nI (d + n) := by
  intro q
  induction q with
  | zero => intro t z h1 h2; omega
  | succ q ih =>
    intro t z h1 h2 hz h0
    rw [fX9_days_L43]
    by_cases c : t = n
    · rw [if_pos (by rw [c]; exact nI_le (Nat.le_refl _) (by omega))]
      rw [c] at hz h0
      rw [c]
      exact ⟨z, rfl, hz, h0⟩
    · rw [if_neg (by rw [nI_leI (by omega) (by omega)]; omega), h0, nI_1, nI_1, wI_wF]
      have e : mid m k N ru d t 0 = dK m k N ru d t := by
        funext j
        unfold mid
        rw [if_neg (Nat.not_lt_zero _)]
      obtain ⟨z', f1, f2, f3⟩ := dayIn h hk hd hC hD (t := t) (by omega) (v1 := nI n) (v3 := nI t) (fun x2_3 x4_3 z_3 => fX9_days_L43 (nI n) (fun x2_4 x3_4 z_4 => some (x2_4, z_4)) q x2_3 (nI (t + 1)) z_3) iw_fu 0 (iw_wF z 0 (upd (z.1 0) 0 (nI (d + t + 1)))) (by omega) (by have := h.1.1.2.1; unfold iw_fu; omega) (by
        rw [e]
        obtain ⟨⟨w1, w2⟩, w3, w4, w5, w6⟩ := hz
        refine ⟨⟨fun q q0 q3 q14 => ?_, fun j j0 j10 => ?_⟩, w3, w4, ?_, ?_⟩
        · rw [wF_n _ _ q0]; exact w1 q q0 q3 q14
        · rw [wF_s, upd_n _ _ j0]; exact w2 j j0 j10
        · exact w5
        · exact w6) (by rw [wF_s, upd_s])
      rw [e] at f1
      have f1' : fX9_days_L61 (nI n) (nI t) (fun x2_3 x4_3 z_3 => fX9_days_L43 (nI n) (fun x2_4 x3_4 z_4 => some (x2_4, z_4)) q x2_3 (nI (t + 1)) z_3) iw_fu (sI (fun j => nI (dK m k N ru d t j) * C j) N) 0 (iw_wF z 0 (upd (z.1 0) 0 (nI (d + t + 1)))) = _ := f1
      rw [f1']
      exact ih (t + 1) z' (by omega) (by omega) f2 f3
/-! the class -/
def FXr (x z : iw_M) : Prop := z.2 = x.2 ∧ ∀ q, q ≠ 6 → q ≠ 16 → (q < 32 ∨ 37 < q) → z.1 q = x.1 q
def PX (x : iw_M) (C : Nat → Int32) (D : Nat → Nat → Int32) (N : Nat) (κ : Nat → Nat) (z : iw_M) : Prop := FXr x z ∧ (∀ g, z.1 6 g = x.1 6 g + sI (fun i => nI (κ i) * D i g) N) ∧ ∀ j, z.1 16 j = x.1 16 j + nI (κ j) * C j
theorem PX.fr {C : Nat → Int32} {D : Nat → Nat → Int32} {κ : Nat → Nat} {z z' : iw_M} (h : PX x C D N κ z) (f : Fr z z') : PX x C D N κ z' := by
  obtain ⟨⟨w1, w2⟩, w3, w4⟩ := h
  refine ⟨⟨f.1.trans w1, fun q q1 q2 q3 => (f.2 q q3).trans (w2 q q1 q2 q3)⟩, fun g => ?_, fun j => ?_⟩
  · rw [f.2 6 (by omega)]; exact w3 g
  · rw [f.2 16 (by omega)]; exact w4 j
def upn (κ : Nat → Nat) (i n : Nat) : Nat → Nat := fun j => if j = i then κ j + n else κ j
theorem yrs_L {x y : iw_M} (h : RP y m H N me ru wo d) (hx2 : x.2 = y.2) (hx1 : x.1 1 = y.1 1) (hx9 : x.1 9 = y.1 9) {C : Nat → Int32} {D : Nat → Nat → Int32} (hD : ∀ i g, i < N → D i g = dDp (bt64 (y.2 18 i)) H (cN (m.1 7) i) (cN (m.1 16) i) (C i) g) {i last : Nat} (hi : i < N) (hl : last ≤ 100) : ∀ (n a : Nat) (s : Int32) (κ : Nat → Nat) (z : iw_M), 102 ≤ n + a → a ≤ 101 → PX x C D N κ z →
    ∃ z', fX8_payYearsSince_L150 (nI i) (C i) (nI last) (fun x8_6 x10_6 z_6 => some (x8_6, z_6)) n s (nI a) z = some (s + nI (last + 1 - a) * C i, z') ∧ PX x C D N (upn κ i (last + 1 - a)) z' := by
  have hN := h.1.1.2.1
  have hH := h.1.1.1
  intro n
  induction n with
  | zero =>
    intro a s κ z h1 h2 hz
    exact absurd h1 (by omega)
  | succ n ih =>
    intro a s κ z h1 h2 hz
    rw [fX8_payYearsSince_L150]
    by_cases c : last < a
    · rw [if_pos ((nI_ltI (by omega) (by omega)).mpr c), show last + 1 - a = 0 by omega]
      have e : upn κ i 0 = κ := by funext j; unfold upn; by_cases w : j = i <;> simp [w]
      rw [e]
      exact ⟨z, by rw [show nI 0 = 0 from rfl]; congr 2; grind, hz⟩
    · rw [if_neg (fun q => c ((nI_ltI (by omega) (by omega)).mp q))]
      obtain ⟨-, -, -, m4⟩ := mems h hi
      obtain ⟨u1, u2, u3, u4⟩ := h.2.2.2.2.2.2.2.2.2.1.2.1 i hi
      obtain ⟨t1, t2⟩ := h.2.2.2.2.2.2.2.2.2.1.1 i hi
      obtain ⟨⟨v1, v2⟩, -⟩ := h.2.2.2.2.2.1.1 i hi
      have e9 : y.1 9 = m.1 7 := h.2.2.1.1
      obtain ⟨⟨w1, w2⟩, w3, w4⟩ := hz
      have ez : z.2 18 i = y.2 18 i := by rw [w1, hx2]
      rw [payOutX (hn := cN (m.1 7) i) (s := cN (m.1 16) i) hH (by omega) z (by rw [w2 1 (by decide) (by decide) (by decide), hx1]; exact h.1.2.1.1) (by omega) (by rw [w2 9 (by decide) (by decide) (by decide), hx9, e9]; exact v1) t2 (by rw [ez]; exact u4) (by rw [ez]; exact m4), Option.bind_some, nI_1]
      dsimp only
      obtain ⟨z', f1, f2⟩ := ih (a + 1) (s + C i) (up1 κ i) (iw_wF (iw_wF z 6 (fun g => z.1 6 g + dDp (bt64 (z.2 18 i)) H (cN (m.1 7) i) (cN (m.1 16) i) (C i) g)) 16 (upd (z.1 16) i (z.1 16 i + C i))) (by omega) (by omega) ⟨⟨w1, fun q q1 q2 q3 => by rw [wF_n _ _ q2, wF_n _ _ q1]; exact w2 q q1 q2 q3⟩, fun g => by
          show z.1 6 g + dDp (bt64 (z.2 18 i)) H (cN (m.1 7) i) (cN (m.1 16) i) (C i) g = _
          rw [ez, ← hD i g hi, w3 g, sI_k κ (fun i => D i g) hi]; grind, fun j => by
          show upd (z.1 16) i (z.1 16 i + C i) j = _
          by_cases w : j = i
          · rw [w, upd_s, w4 i, up1_s, nI_succ]; grind
          · rw [upd_n _ _ w, up1_n _ w]; exact w4 j⟩
      refine ⟨z', ?_, ?_⟩
      · rw [f1, show last + 1 - a = (last + 1 - (a + 1)) + 1 by omega, nI_succ]; congr 2; grind
      · have e : upn (up1 κ i) i (last + 1 - (a + 1)) = upn κ i (last + 1 - a) := by
          funext j
          unfold upn
          by_cases w : j = i
          · rw [if_pos w, if_pos w, w, up1_s]; omega
          · rw [if_neg w, if_neg w, up1_n _ w]
        rw [← e]; exact f2
end DAYS
