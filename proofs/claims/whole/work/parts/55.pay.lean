section PAY
variable {H N : Nat}
/-- what one payment of C brings the hand g -/
def dDp (p : Nat → Bool) (H hn s : Nat) (C : Int32) (g : Nat) : Int32 := (if g < H ∧ p g = true then C / (1 + nI s) else 0) + (if g = hn then C - C / (1 + nI s) * nI s else 0)
theorem one_s {s : Nat} (h : s ≤ 6) : ¬ (1 : Int32) + nI s = 0 := by
  rw [show (1 : Int32) + nI s = nI (1 + s) from nI_add 1 s]
  exact nI_ne0 (by omega) (by omega)
theorem i_1 (C q e : Int32) : C - q * e - e = C - (q + 1) * e := by grind
theorem i_2 (a b : Int32) : a + 0 + b = a + b := by grind
theorem i_3 (a b c : Int32) : a + b + c = a + (b + c) := by grind
theorem payOutX {i hn s : Nat} {C : Int32} (hH : H ≤ 40) (hi : i < 40) (z : iw_M) (hs : z.1 1 6 = nI H) (hh : hn < 40) (e9 : z.1 9 i = nI hn) (h6 : s ≤ 6) (hc : fb_ct (bt64 (z.2 18 i)) 64 = s) (hcH : fb_ct (bt64 (z.2 18 i)) H = s) : fX8_payOut (nI i) C z = some ((), iw_wF (iw_wF z 6 (fun g => z.1 6 g + dDp (bt64 (z.2 18 i)) H hn s C g)) 16 (upd (z.1 16) i (z.1 16 i + C))) := by
  unfold fX8_payOut dDp
  rw [sizeX hi, hc, Option.bind_some]
  dsimp only
  rw [if_neg (one_s h6)]
  generalize C / (1 + nI s) = e
  have L := fun (K : Int32 → Int32 → iw_M → Option (Unit × iw_M)) => loopF (fun n h (q : Int32 × (Nat → Int32)) => fX8_payOut_L19 (nI i) C e K n q.1 (nI h) (iw_wF z 6 q.2)) (fun q => K q.1 (nI H) (iw_wF z 6 q.2)) H (fun h q => if bt64 (z.2 18 i) h = true then (q.1 - e, upd q.2 h (q.2 h + e)) else q) (fun h q => q.1 = C - nI (fb_ct (bt64 (z.2 18 i)) h) * e ∧ ∀ g, q.2 g = z.1 6 g + (if g < h ∧ bt64 (z.2 18 i) g = true then e else 0)) (fun n q _ => by
      rw [fX8_payOut_L19, wF_n _ _ (by decide), hs, if_pos (nI_le (Nat.le_refl _) (by omega))]) (fun n h q hlt hq => by
      rw [fX8_payOut_L19, wF_n _ _ (by decide), hs, if_neg (by rw [nI_leI (by omega) (by omega)]; omega), if_pos (ok_nI hi (by decide)), cl_nI (by omega), wF_2, hasX (by omega), Option.bind_some, nI_1]
      obtain ⟨q1, q2⟩ := hq
      cases c : bt64 (z.2 18 i) h
      · refine ⟨rfl, ?_, fun g => ?_⟩
        · show q.1 = _
          rw [fb_ct_succ, c, q1]; rfl
        · show q.2 g = _
          rw [q2 g]
          congr 1
          by_cases w : g < h ∧ bt64 (z.2 18 i) g = true
          · rw [if_pos w, if_pos ⟨by omega, w.2⟩]
          · rw [if_neg w, if_neg]
            rintro ⟨w1, w2⟩
            by_cases y : g = h
            · rw [y, c] at w2; cases w2
            · exact w ⟨by omega, w2⟩
      · simp only [if_true]
        rw [if_neg (show ¬ (1 : Int32) = 0 from by decide), if_pos (ok_nI (by omega) (by decide)), if_pos (ok_nI (by omega) (by decide)), cl_nI (by omega), wI_wF, wF_s, wF_wF]
        refine ⟨rfl, ?_, fun g => ?_⟩
        · rw [fb_ct_succ, c, q1, i_1, if_pos rfl, nI_succ]
        · by_cases y : g = h
          · rw [y, upd_s, q2 h, if_neg (fun w => Nat.lt_irrefl _ w.1), if_pos ⟨by omega, c⟩, i_2]
          · rw [upd_n _ _ y, q2 g]
            congr 1
            by_cases w : g < h ∧ bt64 (z.2 18 i) g = true
            · rw [if_pos w, if_pos ⟨by omega, w.2⟩]
            · rw [if_neg w, if_neg (fun w2 => w ⟨by omega, w2.2⟩)]) iw_fu 0 (C, z.1 6) (by omega) (by unfold iw_fu; omega) ⟨by show C = C - nI 0 * e; rw [show nI 0 = 0 from rfl]; grind, fun g => by rw [if_neg (fun w => Nat.not_lt_zero _ w.1)]; grind⟩
  obtain ⟨l1, l2, l3⟩ := L (fun x4_3 x5_3 z_3 => (if iw_ok (nI i) 40 then
    (if iw_ok (z_3.1 9 (Int32.toNatClampNeg (nI i))) 40 then
    (if iw_ok (z_3.1 9 (Int32.toNatClampNeg (nI i))) 40 then
    (if iw_ok (nI i) 40 then
    (if iw_ok (nI i) 40 then
    some ((), (iw_wI (iw_wI z_3 6 (Int32.toNatClampNeg (z_3.1 9 (Int32.toNatClampNeg (nI i)))) ((z_3.1 6 (Int32.toNatClampNeg (z_3.1 9 (Int32.toNatClampNeg (nI i))))) + x4_3)) 16 (Int32.toNatClampNeg (nI i)) (((iw_wI z_3 6 (Int32.toNatClampNeg (z_3.1 9 (Int32.toNatClampNeg (nI i)))) ((z_3.1 6 (Int32.toNatClampNeg (z_3.1 9 (Int32.toNatClampNeg (nI i))))) + x4_3)).1 16 (Int32.toNatClampNeg (nI i))) + C)))
    else none)
    else none)
    else none)
    else none)
    else none))
  have l0 : fX8_payOut_L19 (nI i) C e _ iw_fu C (nI 0) (iw_wF z 6 (z.1 6)) = _ := l1
  rw [wF_self] at l0
  refine Eq.trans l0 ?_
  generalize lp (fun h (q : Int32 × (Nat → Int32)) => if bt64 (z.2 18 i) h = true then (q.1 - e, upd q.2 h (q.2 h + e)) else q) (H - 0) 0 (C, z.1 6) = Q at l2 l3 ⊢
  simp (disch := decide) only [wI_wF, wF_n, wF_s, wF_wF, ok_nI hi (by decide), if_true, cl_nI (show i < 2 ^ 31 by omega), e9, ok_nI hh (by decide), cl_nI (show hn < 2 ^ 31 by omega)]
  congr 4
  funext g
  rw [hcH] at l2
  by_cases w : g = hn
  · rw [w, upd_s, if_pos rfl, l3, l2, i_3]; congr 1; congr 1; grind
  · rw [upd_n _ _ w, if_neg w, l3]; grind
/-- members -/
theorem mem_lp {mn : Nat → Nat} {e : Int32} (F : Nat → Int32) : ∀ s, (∀ a b, a < b → b < s → mn a ≠ mn b) → ∀ g, ((∃ t, t < s ∧ mn t = g) → lp (fun t F => upd F (mn t) (F (mn t) + e)) s 0 F g = F g + e) ∧ ((¬ ∃ t, t < s ∧ mn t = g) → lp (fun t F => upd F (mn t) (F (mn t) + e)) s 0 F g = F g)
  | 0, _, g => ⟨fun ⟨t, h, _⟩ => absurd h (Nat.not_lt_zero t), fun _ => rfl⟩
  | s + 1, hd, g => by
    have ih := mem_lp (mn := mn) (e := e) F s (fun a b h1 h2 => hd a b h1 (by omega))
    rw [lp_succ, Nat.zero_add]
    by_cases c : g = mn s
    · subst c
      rw [upd_s, (ih (mn s)).2 (fun ⟨t, h1, h2⟩ => hd t s h1 (by omega) h2)]
      exact ⟨fun _ => rfl, fun q => absurd ⟨s, by omega, rfl⟩ q⟩
    · rw [upd_n _ _ c]
      refine ⟨fun ⟨t, h1, h2⟩ => (ih g).1 ?_, fun q => (ih g).2 (fun ⟨t, h1, h2⟩ => q ⟨t, by omega, h2⟩)⟩
      by_cases w : t = s
      · rw [w] at h2; exact absurd h2.symm c
      · exact ⟨t, by omega, h2⟩
theorem mem_ct {mn : Nat → Nat} : ∀ (s : Nat) (p : Nat → Bool), (∀ g, g < H → (p g = true ↔ ∃ t, t < s ∧ mn t = g)) → (∀ t, t < s → mn t < H) → (∀ a b, a < b → b < s → mn a ≠ mn b) → fb_ct p H = s
  | 0, p, hp, _, _ => fb_ct_zero.mpr (fun g hg => by
    cases c : p g
    · rfl
    · obtain ⟨t, h, _⟩ := (hp g hg).mp c; exact absurd h (Nat.not_lt_zero t))
  | s + 1, p, hp, hm, hd => by
    have hs := hm s (by omega)
    have e := fb_ct_upd p false (i := mn s) (n := H) hs
    have ps : p (mn s) = true := (hp _ hs).mpr ⟨s, by omega, rfl⟩
    rw [mem_ct s (fun g => if g = mn s then false else p g) (fun g hg => by
      by_cases c : g = mn s
      · rw [if_pos c]
        constructor
        · intro q; cases q
        · rintro ⟨t, h1, h2⟩; exact absurd (h2.trans c) (hd t s h1 (by omega))
      · rw [if_neg c, hp g hg]
        constructor
        · rintro ⟨t, h1, h2⟩
          by_cases w : t = s
          · rw [w] at h2; exact absurd h2.symm c
          · exact ⟨t, by omega, h2⟩
        · rintro ⟨t, h1, h2⟩; exact ⟨t, by omega, h2⟩) (fun t ht => hm t (by omega)) (fun a b h1 h2 => hd a b h1 (by omega)), ps] at e
    simpa using e.symm
theorem teamM {i s : Nat} {mn : Nat → Nat} {v4 e : Int32} (hi : i < 40) (z : iw_M) (hs : z.1 16 i = nI s) (h6 : s ≤ 6) (hm : ∀ t, t < s → z.1 17 (6 * i + t) = nI (mn t) ∧ mn t < 40) (K : Int32 → iw_M → Option (Int32 × iw_M)) : fX9_paysToday_L119 (nI i) v4 e K iw_fu 0 z = K (nI s) (iw_wF z 3 (lp (fun t F => upd F (mn t) (F (mn t) + e)) s 0 (z.1 3))) := by
  have L := (loopF (fun n t F => fX9_paysToday_L119 (nI i) v4 e K n (nI t) (iw_wF z 3 F)) (fun F => K (nI s) (iw_wF z 3 F)) s (fun t F => upd F (mn t) (F (mn t) + e)) (fun _ _ => True) (fun n F _ => by
      rw [fX9_paysToday_L119, if_pos (ok_nI hi (by decide)), cl_nI (by omega), wF_n _ _ (by decide), hs, if_pos (nI_le (Nat.le_refl _) (by omega))]) (fun n t F ht _ => by
      rw [fX9_paysToday_L119, if_pos (ok_nI hi (by decide)), cl_nI (by omega), wF_n _ _ (by decide), hs, if_neg (by rw [nI_leI (by omega) (by omega)]; omega), show (6 : Int32) = nI 6 from rfl, pk_mul, nI_add, if_pos (ok_nI (by omega) (by decide)), cl_nI (by omega), wF_n _ _ (show 17 ≠ 3 by decide), (hm t ht).1, if_pos (ok_nI (hm t ht).2 (by decide)), if_pos (ok_nI (hm t ht).2 (by decide)), cl_nI (by have := (hm t ht).2; omega), wI_wF, wF_s, wF_wF, nI_1]
      exact ⟨rfl, trivial⟩) iw_fu 0 (z.1 3) (by omega) (by unfold iw_fu; omega) trivial).1
  rw [wF_self] at L
  exact L
/-- the sum of what a payment brings is the payment -/
theorem sI_add (F G : Nat → Int32) : ∀ n, sI (fun h => F h + G h) n = sI F n + sI G n
  | 0 => by show (0 : Int32) = 0 + 0; decide
  | n + 1 => by rw [sI, sI, sI, sI_add F G n]; grind
theorem sI_if (p : Nat → Bool) (e : Int32) (H : Nat) : ∀ n, n ≤ H → sI (fun g => if g < H ∧ p g = true then e else 0) n = nI (fb_ct p n) * e
  | 0, _ => by show (0 : Int32) = nI 0 * e; rw [show nI 0 = 0 from rfl]; grind
  | n + 1, h => by
    rw [sI, sI_if p e H n (by omega), fb_ct_succ]
    by_cases c : p n = true
    · rw [if_pos ⟨by omega, c⟩, if_pos c, nI_succ]; grind
    · rw [if_neg (fun w => c w.2), if_neg c]; show _ + (0 : Int32) = _; rw [Nat.add_zero]; grind
theorem sI_0 : ∀ n, sI (fun _ => 0) n = 0
  | 0 => rfl
  | n + 1 => by rw [sI, sI_0 n]; decide
theorem sI_at (R : Int32) {k n : Nat} (h : k < n) : sI (fun g => if g = k then R else 0) n = R := by
  rw [sI_up (F := fun _ => 0) (k := k) (D := R) (fun t ht => if_neg ht) (by rw [if_pos rfl]; grind) n h, sI_0]; grind
theorem sI_D {p : Nat → Bool} {hn s : Nat} {C : Int32} (hh : hn < H) (hs : fb_ct p H = s) : sI (dDp p H hn s C) H = C := by
  unfold dDp
  rw [sI_add, sI_if p _ H H (Nat.le_refl _), sI_at _ hh, hs]
  grind
theorem dDp_hi {p : Nat → Bool} {hn s g : Nat} {C : Int32} (hh : hn < H) (hg : H ≤ g) : dDp p H hn s C g = 0 := by
  unfold dDp
  rw [if_neg (fun w => by omega), if_neg (by omega)]; decide
end PAY
