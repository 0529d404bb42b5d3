section STEPS3
variable {x m : iw_M} {H N me ru wo d : Nat}
theorem sI_cg {F G : Nat → Int32} : ∀ (n : Nat), (∀ h, h < n → G h = F h) → sI G n = sI F n
  | 0, _ => rfl
  | n + 1, h => by rw [sI, sI, sI_cg n (fun k hk => h k (by omega)), h n (by omega)]
theorem sI_up {F G : Nat → Int32} {k : Nat} {D : Int32} (h1 : ∀ h, h ≠ k → G h = F h) (h2 : G k = F k + D) : ∀ (n : Nat), k < n → sI G n = sI F n + D
  | 0, h => by omega
  | n + 1, h => by
    by_cases c : k = n
    · rw [sI, sI, sI_cg n (fun j hj => h1 j (by omega)), ← c, h2]; grind
    · rw [sI, sI, sI_up h1 h2 n (by omega), h1 n (fun q => c q.symm)]; grind
/-- what settling leaves as it was -/
def SX (x x' : iw_M) (i : Nat) (v : Int32) : Prop := x'.1 14 = upd (x.1 14) i v ∧ ∀ k, k ≠ 7 → k ≠ 14 → k ≠ 15 → x'.1 k = x.1 k
def SM (m m' : iw_M) (i : Nat) (v : Int32) : Prop := m'.1 12 = upd (m.1 12) i v ∧ (∀ k, k ≠ 0 → k ≠ 4 → k ≠ 12 → k ≠ 13 → m'.1 k = m.1 k) ∧ ∀ j, j ≠ 11 → m'.1 0 j = m.1 0 j
theorem mxz (L f : Int32) : iw_max 0 L * f = if L ≤ 0 then 0 else L * f := by
  unfold iw_max
  by_cases c : 0 < L
  · rw [if_pos c, if_neg ((nle_lt _ _).mpr c)]
  · rw [if_neg c, if_pos ((nlt_le _ _).mp c)]; grind
theorem settle2 (h : RP x m H N me ru wo d) {i : Nat} (hi : i < N) {v : Int32} (hv : v ≠ 0) : ∃ (r : Int32) (x' m' : iw_M), fX8_settle (nI i) v x = some (r, x') ∧ fX9_settles (nI i) v m = some (r, m') ∧ RP x' m' H N me ru wo d ∧ SX x x' i v ∧ SM m m' i v := by
  have hN := h.1.1.2.1
  have hH := h.1.1.1
  have hd := h.1.1.2.2.2.2.2
  have e9 : x.1 9 = m.1 7 := h.2.2.1.1
  have e13 : x.1 13 = m.1 11 := h.2.2.1.2.2.2.2.1
  have e7 : x.1 7 = m.1 4 := h.2.1.2.2.2.1
  have e14 : x.1 14 = m.1 12 := h.2.2.1.2.2.2.2.2.1
  obtain ⟨s0, s1, s2, s3⟩ := h.2.2.2.2.1
  obtain ⟨⟨v1, v2⟩, -⟩ := h.2.2.2.2.2.1.1 i hi
  have xd := h.1.2.2.2.2.2.2.1
  have md := h.1.2.2.2.2.2.2.2
  unfold fX8_settle fX9_settles
  simp (disch := decide) only [wI_wF, wF_n, wF_s, ok_nI (show i < 40 by omega) (by decide), if_true, cl_nI (show i < 2 ^ 31 by omega), xd, md]
  rw [e9, v1]
  simp only [ok_nI (show cN (m.1 7) i < 40 by omega) (by decide), if_true, cl_nI (show cN (m.1 7) i < 2 ^ 31 by omega), show iw_ok 2 4 = true from by decide, show iw_ok 3 4 = true from by decide, show Int32.toNatClampNeg 2 = 2 from by decide, show Int32.toNatClampNeg 3 = 3 from by decide, s2, s3, mxz, e13, e7]
  generalize hD : (if nI d - m.1 11 i - m.1 0 8 ≤ 0 then (0 : Int32) else (nI d - m.1 11 i - m.1 0 8) * m.1 0 9) = D
  refine ⟨D, _, iw_wF (iw_wF (iw_wF (iw_wF m 12 (upd (m.1 12) i v)) 13 (upd (m.1 13) i (nI d))) 4 (upd (m.1 4) (cN (m.1 7) i) (m.1 4 (cN (m.1 7) i) + D))) 0 (upd (m.1 0) 11 (m.1 0 11 + D)), rfl, ?_, ?_, ?_, ?_⟩
  · unfold fX9_delay fX9_delay_J31
    simp (disch := decide) only [wI_wF, wF_n, wF_s, ok_nI (show i < 40 by omega) (by decide), if_true, cl_nI (show i < 2 ^ 31 by omega), md, v1, ok_nI (show cN (m.1 7) i < 40 by omega) (by decide), cl_nI (show cN (m.1 7) i < 2 ^ 31 by omega)]
    by_cases c : nI d - m.1 11 i - m.1 0 8 ≤ 0
    · rw [if_pos c] at hD ⊢
      rw [← hD]; rfl
    · rw [if_neg c] at hD ⊢
      rw [← hD]; rfl
  · obtain ⟨hA, ⟨q1, q2, q3, q4, q5⟩, ⟨p1, p2, p3, p4, p5, p6, p7, p8⟩, hB3, hB4, hC, hDD, hF, hG, hHH, hI, hJ, hK, hQ, hU⟩ := h
    refine ⟨hA, ⟨q1, q2, q3, rfl, q5⟩, ⟨p1, p2, p3, p4, p5, ?_, p7, p8⟩, hB3, hB4, ⟨hC.1, fun j hj => ⟨?_, (hC.2 j hj).2⟩⟩, fun j hj => ?_, hF, hG, hHH, hI, hJ, ⟨?_, fun t ht => ⟨(hK.2 t ht).1, ?_⟩⟩, hQ, hU⟩
    · show upd (x.1 14) i v = upd (m.1 12) i v; rw [e14]
    · show upd (m.1 12) i v j = 0
      rw [upd_n _ _ (by omega)]; exact (hC.2 j hj).1
    · show (upd (m.1 12) i v j = 0 → upd (m.1 13) i (nI d) j = -9) ∧ (upd (m.1 12) i v j ≠ 0 → upd (x.1 15) i (nI d) j = upd (m.1 13) i (nI d) j ∧ upd (m.1 13) i (nI d) j = nI (cN (upd (m.1 13) i (nI d)) j) ∧ cN (upd (m.1 13) i (nI d)) j ≤ d)
      by_cases w : j = i
      · rw [w, upd_s, upd_s, upd_s, cN_s _ (by omega)]
        exact ⟨fun q => absurd q hv, fun _ => ⟨rfl, rfl, Nat.le_refl _⟩⟩
      · rw [upd_n _ _ w, upd_n _ _ w, upd_n _ _ w, cN_n _ _ w]; exact hDD j hj
    · show sI (fun t => m.1 3 t + upd (m.1 4) (cN (m.1 7) i) (m.1 4 (cN (m.1 7) i) + D) t) H = m.1 0 10 + (m.1 0 11 + D)
      rw [sI_up (F := fun t => m.1 3 t + m.1 4 t) (k := cN (m.1 7) i) (D := D) (fun t ht => by rw [upd_n _ _ ht]) (by rw [upd_s]; grind) H v2, hK.1]
      grind
    · show upd (m.1 4) (cN (m.1 7) i) (m.1 4 (cN (m.1 7) i) + D) t = 0
      rw [upd_n _ _ (by omega)]; exact (hK.2 t ht).2
  · refine ⟨by simp (disch := decide) only [wF_n, wF_s], fun k k1 k2 k3 => by rw [wF_n _ _ k1, wF_n _ _ k3, wF_n _ _ k2]⟩
  · refine ⟨by simp (disch := decide) only [wF_n, wF_s], fun k k1 k2 k3 k4 => by rw [wF_n _ _ k1, wF_n _ _ k2, wF_n _ _ k4, wF_n _ _ k3], fun j hj => by rw [wF_s, upd_n _ _ hj]⟩
theorem led_L {t : Nat} (x : iw_M) (hw : wo ≤ 20) (hs : x.1 43 1 = nI wo) : ∀ (n w : Nat), w ≤ wo → wo < n + w → (∀ s, s < w → x.1 44 s ≠ nI t) → ∃ r : Int32, fX7_ledBackTo_L2 (nI t) (fun x2_1 z_1 => some ((0 : Int32), z_1)) n (nI w) x = some (r, x) ∧ (r = 0 ↔ ¬ ∃ w, w < wo ∧ x.1 44 w = nI t) := by
  intro n
  induction n with
  | zero => intro w a b; omega
  | succ n ih =>
    intro w a b hh
    rw [fX7_ledBackTo_L2, hs]
    by_cases c : w = wo
    · rw [if_pos (by rw [c]; exact nI_le (Nat.le_refl _) (by omega))]
      exact ⟨0, rfl, by simp only [true_iff]; rintro ⟨s, q1, q2⟩; exact hh s (by omega) q2⟩
    · rw [if_neg (by rw [nI_leI (by omega) (by omega)]; omega), if_pos (ok_nI (by omega) (by decide)), cl_nI (by omega), nI_1]
      by_cases e : x.1 44 w = nI t
      · rw [if_pos e]
        exact ⟨1, rfl, by simp; exact ⟨w, by omega, e⟩⟩
      · rw [if_neg e]
        exact ih (w + 1) (by omega) (by omega) (fun s hs2 => by
          by_cases q : s = w
          · rw [q]; exact e
          · exact hh s (by omega))
theorem st_reopen (h : iw_Rel x m) (a0 : Int32) : iw_E (fX8_reopen a0 x) (fX9_reopen a0 m) := by
  obtain ⟨H, N, me, ru, wo, d, h⟩ := h
  have hN := h.1.1.2.1
  have e14 : x.1 14 = m.1 12 := h.2.2.1.2.2.2.2.2.1
  have e44 : x.1 44 = m.1 29 := h.2.2.2.1.2.2.2.2.2.2.2.2.2.2.1
  unfold fX8_reopen fX9_reopen
  rcases is_idea h a0 with ⟨e1, e2⟩ | ⟨i, hi, rfl, e1, e2⟩
  · rw [e1, e2]; exact no1 h
  rw [e1, e2]; refine E_1 ?_; dsimp only
  rw [if_pos (ok_nI (by omega) (by decide)), if_pos (ok_nI (by omega) (by decide)), if_pos (ok_nI (by omega) (by decide)), cl_nI (by omega), e14]
  by_cases c : m.1 12 i = 2
  case neg => rw [if_neg c, if_neg c]; exact no3 h
  rw [if_pos c, if_pos c]
  obtain ⟨r, r1, r2⟩ := led_L (t := i) x h.1.1.2.2.2.2.1 h.1.2.2.2.2.2.1.1 iw_fu 0 (by omega) (by unfold iw_fu; have := h.1.1.2.2.2.2.1; omega) (fun s hs => by omega)
  have r0 : fX7_ledBackTo (nI i) x = some (r, x) := r1
  rw [r0, Option.bind_some]
  dsimp only
  have hI := h.2.2.2.2.2.2.2.2.2.2.1.1 i (by omega)
  rw [e44] at r2
  by_cases q : r = 0
  · have : m.1 18 i = 0 := Classical.byContradiction fun w => (r2.mp q) (hI.mp w)
    rw [if_pos q, if_pos this]; exact no3 h
  · have : ¬ m.1 18 i = 0 := hI.mpr (Classical.byContradiction fun w => q (r2.mpr w))
    rw [if_neg q, if_neg this]
    obtain ⟨r, x', m', f1, f2, f3, -⟩ := settle2 h hi (v := 1) (by decide)
    rw [f1, f2]
    exact iw_E.mk _ ⟨H, N, me, ru, wo, d, f3⟩
theorem st_judgeOf (h : iw_Rel x m) (a0 : Int32) (a1 : Int32) : iw_E (fX8_judgeOf a0 a1 x) (fX9_judgeOf a0 a1 m) := by
  obtain ⟨H, N, me, ru, wo, d, h⟩ := h
  have hN := h.1.1.2.1
  have hH := h.1.1.1
  have e5 : x.1 5 = m.1 2 := h.2.1.2.1
  unfold fX8_judgeOf fX9_judgeOf
  rcases is_idea h a0 with ⟨e1, e2⟩ | ⟨i, hi, rfl, e1, e2⟩
  · rw [e1, e2]; exact no1 h
  rw [e1, e2]; refine E_1 ?_; dsimp only
  by_cases c1 : a1 < 0
  · rw [if_pos c1, if_pos c1]; exact no1 h
  rw [if_neg c1, if_neg c1]
  by_cases c2 : a1 ≤ 1
  case neg => rw [if_neg c2, if_neg c2]; exact no1 h
  rw [if_pos c2, if_pos c2]
  obtain ⟨k, g, q1, q2, q3, q4, q5, q6⟩ := fam_now h
  obtain ⟨S, s1, s2⟩ := JM h q2 q3 hi g
  have nm := fun (u v : Int32) (P : Nat → Bool) hP => nextM (m := iw_wF m 31 g) hN hH h.1.2.1.2 h.1.2.2.1.2 (fun j hj => by rw [wF_s]; exact q5 j hj) q2 h.2.2.2.2.2.2.2.2.2.1.1 hi u v P hP
  have n9 : ∀ t, t < H → nI t ≠ -9 := fun t ht => nI_n9 (by omega)
  rw [s1, q4, Option.bind_some, Option.bind_some]
  dsimp only
  rw [leastX hH x h.1.2.1.1 S, nm (-9) (-9) (bt64 S) (fun t ht => by rw [s2 t ht]; exact ⟨fun w => ⟨n9 t ht, n9 t ht, w⟩, fun w => w.2.2⟩), Option.bind_some, Option.bind_some]
  rw [show (iw_wF m 31 g).1 2 = x.1 5 from e5.symm]
  dsimp only
  have bi := bst_in (P := bt64 S) (nm := x.1 5) (H := H)
  have hR : iw_Rel x (iw_wF m 31 g) := ⟨H, N, me, ru, wo, d, q6 g⟩
  cases o : bstS (bt64 S) (x.1 5) H with
  | none =>
    obtain ⟨T, t1, t2⟩ := withoutX S none (fun b hb => by cases hb) x
    rw [t1, Option.bind_some]
    dsimp only
    rw [leastX hH x h.1.2.1.1 T, Option.bind_some, if_pos (show oI none = -9 from rfl)]
    have e : bstS (bt64 T) (x.1 5) H = none := by
      rw [← o]
      exact lp_cg H 0 none (fun j b _ hj => by
        have : bt64 T j = bt64 S j := by
          have w := t2 j (by omega)
          cases y1 : bt64 T j <;> cases y2 : bt64 S j
          · rfl
          · rw [y1, y2] at w; exact absurd (w.mpr ⟨rfl, n9 j (by omega)⟩) (by decide)
          · rw [y1, y2] at w; exact absurd (w.mp rfl).1 (by decide)
          · rfl
        cases b <;> simp only [jst, this])
    rw [e]
    exact iw_E.mk (x := x) (-9) hR
  | some b =>
    have hb := (bi b o).1
    obtain ⟨T, t1, t2⟩ := withoutX S (some b) (fun c hc => by cases hc; omega) x
    rw [t1, Option.bind_some, if_neg (show ¬ oI (some b) = -9 from n9 b hb)]
    dsimp only
    rw [leastX hH x h.1.2.1.1 T, nm (oI (some b)) (-9) (bt64 T) (fun t ht => by
      rw [t2 t (by omega), s2 t ht]
      exact ⟨fun w => ⟨w.2, n9 t ht, w.1⟩, fun w => ⟨w.2.2, w.1⟩⟩), Option.bind_some, Option.bind_some]
    rw [show (iw_wF m 31 g).1 2 = x.1 5 from e5.symm]
    unfold fX9_judgeOf_J60
    dsimp only
    by_cases y : oI (bstS (bt64 T) (x.1 5) H) = -9
    · rw [if_pos y, if_pos y]; exact iw_E.mk _ hR
    · rw [if_neg y, if_neg y]
      by_cases u : a1 = 0
      · rw [if_pos u, if_pos u]; exact iw_E.mk _ hR
      · rw [if_neg u, if_neg u]; exact iw_E.mk _ hR
end STEPS3
