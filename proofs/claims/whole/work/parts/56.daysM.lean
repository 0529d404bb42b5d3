section DAYSM
variable {x m : iw_M} {H N me ru wo d : Nat} {k : Nat → Nat}
def FMr (m z : iw_M) : Prop := (∀ q, q ≠ 0 → q ≠ 3 → q ≠ 14 → z.1 q = m.1 q) ∧ ∀ j, j ≠ 0 → j ≠ 10 → z.1 0 j = m.1 0 j
def PM (m : iw_M) (C : Nat → Int32) (D : Nat → Nat → Int32) (H N : Nat) (κ : Nat → Nat) (z : iw_M) : Prop := FMr m z ∧ (∀ g, z.1 3 g = m.1 3 g + sI (fun i => nI (κ i) * D i g) N) ∧ (∀ j, z.1 14 j = m.1 14 j + nI (κ j) * C j) ∧ z.1 0 10 = m.1 0 10 + sI (fun i => nI (κ i) * C i) N ∧ sI (fun h => z.1 3 h + m.1 4 h) H = z.1 0 10 + m.1 0 11
def up1 (κ : Nat → Nat) (i : Nat) : Nat → Nat := fun j => if j = i then κ j + 1 else κ j
def dRl (m : iw_M) (k : Nat → Nat) (N ru i : Nat) : Option Nat := rulS (m.1 25) (m.1 11 (headS (m.1 11) (m.1 10) k N (k i))) ru
def dCo (m : iw_M) (k : Nat → Nat) (N me i r : Nat) : Int32 := payS (wthS (fun b => tal (m.1 21) (m.1 22) (m.1 24) (m.1 23) k me (k i) b) (m.1 20) (m.1 15) k N (k i)) (m.1 26 r) (m.1 27 r) * shrS (m.1 11) (m.1 10) (cN (m.1 10)) k N (m.1 0 7) i / 1000
theorem up1_s (κ : Nat → Nat) (i : Nat) : up1 κ i i = κ i + 1 := if_pos rfl
theorem up1_n (κ : Nat → Nat) {i j : Nat} (h : j ≠ i) : up1 κ i j = κ j := if_neg h
theorem sI_k (κ : Nat → Nat) (F : Nat → Int32) {i : Nat} (hi : i < N) : sI (fun j => nI (up1 κ i j) * F j) N = sI (fun j => nI (κ j) * F j) N + F i :=
  sI_up (fun t ht => by rw [up1_n _ ht]) (by rw [up1_s, nI_succ]; grind) N hi
theorem mems (h : RP x m H N me ru wo d) {i : Nat} (hi : i < N) : (∀ t, t < cN (m.1 16) i → m.1 17 (6 * i + t) = nI (cN (m.1 17) (6 * i + t)) ∧ cN (m.1 17) (6 * i + t) < H) ∧ (∀ a b, a < b → b < cN (m.1 16) i → cN (m.1 17) (6 * i + a) ≠ cN (m.1 17) (6 * i + b)) ∧ (∀ g, (g < H ∧ bt64 (x.2 18 i) g = true) ↔ ∃ t, t < cN (m.1 16) i ∧ cN (m.1 17) (6 * i + t) = g) ∧ fb_ct (bt64 (x.2 18 i)) H = cN (m.1 16) i := by
  have hH := h.1.1.1
  obtain ⟨u1, u2, u3, u4⟩ := h.2.2.2.2.2.2.2.2.2.1.2.1 i hi
  have w1 : ∀ t, t < cN (m.1 16) i → m.1 17 (6 * i + t) = nI (cN (m.1 17) (6 * i + t)) ∧ cN (m.1 17) (6 * i + t) < H := by
    intro t ht
    obtain ⟨g, g1, g2⟩ := u2 t ht
    have e : cN (m.1 17) (6 * i + t) = g := by unfold cN; rw [g2, cl_nI (by omega)]
    rw [e]; exact ⟨g2, g1⟩
  have w2 : ∀ a b, a < b → b < cN (m.1 16) i → cN (m.1 17) (6 * i + a) ≠ cN (m.1 17) (6 * i + b) := by
    intro a b h1 h2 q
    apply u3 a b h1 h2
    rw [(w1 a (by omega)).1, (w1 b h2).1, q]
  have w3 : ∀ g, (g < H ∧ bt64 (x.2 18 i) g = true) ↔ ∃ t, t < cN (m.1 16) i ∧ cN (m.1 17) (6 * i + t) = g := by
    intro g
    constructor
    · rintro ⟨q1, q2⟩
      obtain ⟨t, t1, t2⟩ := (u1 g (by omega)).mp q2
      exact ⟨t, t1, by unfold cN; rw [t2, cl_nI (by omega)]⟩
    · rintro ⟨t, t1, t2⟩
      have := w1 t t1
      rw [t2] at this
      exact ⟨this.2, (u1 g (by omega)).mpr ⟨t, t1, this.1⟩⟩
  exact ⟨w1, w2, w3, mem_ct (mn := fun t => cN (m.1 17) (6 * i + t)) _ _ (fun g hg => ⟨fun q => (w3 g).mp ⟨hg, q⟩, fun q => ((w3 g).mpr q).2⟩) (fun t ht => (w1 t ht).2) w2⟩
/-- the idea i is paid on the day dy -/
def Pys (m : iw_M) (k : Nat → Nat) (N ru i dy : Nat) : Prop := m.1 12 i = 1 ∧ (dy - cN (m.1 13) i) % 360 = 0 ∧ ∃ r, dRl m k N ru i = some r ∧ (dy - cN (m.1 13) i) / 360 ≤ cN (m.1 28) r
theorem paysM (h : RP x m H N me ru wo d) (hk : ∀ j, j < N → m.1 31 j = nI (k j)) (hd : Kd N k) {C : Nat → Int32} {D : Nat → Nat → Int32} (hC : ∀ i r, i < N → dRl m k N ru i = some r → C i = dCo m k N me i r) (hD : ∀ i g, i < N → D i g = dDp (bt64 (x.2 18 i)) H (cN (m.1 7) i) (cN (m.1 16) i) (C i) g) {κ : Nat → Nat} {z : iw_M} (hz : PM m C D H N κ z) {dy : Nat} (hdy : d < dy ∧ dy ≤ 3000) (h0 : z.1 0 0 = nI dy) {i : Nat} (hi : i < N) :
    (Pys m k N ru i dy ∧ ∃ z', fX9_paysToday (nI i) z = some (C i, z') ∧ PM m C D H N (up1 κ i) z' ∧ z'.1 0 0 = nI dy) ∨ (¬ Pys m k N ru i dy ∧ fX9_paysToday (nI i) z = some (0, z)) := by
  have hN := h.1.1.2.1
  have hH := h.1.1.1
  have hme := h.1.1.2.2.1
  have hru := h.1.1.2.2.2.1
  obtain ⟨⟨hF1, hF2⟩, hz3, hz14, hz10, hzK⟩ := hz
  unfold Pys
  unfold fX9_paysToday
  simp only [ok_nI (show i < 40 by omega) (by decide), if_true, cl_nI (show i < 2 ^ 31 by omega), hF1 12 (by decide) (by decide) (by decide), hF1 13 (by decide) (by decide) (by decide), h0]
  by_cases c1 : m.1 12 i = 1
  case neg => exact Or.inr ⟨fun q => c1 q.1, by rw [if_neg c1]⟩
  obtain ⟨-, d1, d2⟩ := (h.2.2.2.2.2.2.1 i hi).2 (by rw [c1]; decide)
  rw [if_pos c1, d1, pk_sub (by omega), if_neg (nI_ne0 (by omega) (by omega)), if_neg (show ¬ (360 : Int32) = 0 from by decide), show (360 : Int32) = nI 360 from rfl, pk_rem (by omega) (by decide) (by decide), pk_div (by omega) (by decide) (by decide)]
  by_cases c2 : (dy - cN (m.1 13) i) % 360 = 0
  case neg =>
    refine Or.inr ⟨fun q => c2 q.2.1, ?_⟩
    rw [if_neg (nI_ne0 (by omega) (by omega))]
  rw [c2, if_pos (show nI 0 = 0 from rfl)]
  have ki := hd i hi
  have k31 : ∀ j, j < N → z.1 31 j = nI (k j) := fun j hj => by rw [hF1 31 (by decide) (by decide) (by decide)]; exact hk j hj
  have z2 : z.1 0 2 = nI N := by rw [hF2 2 (by decide) (by decide)]; exact h.1.2.2.1.2
  have z3 : z.1 0 3 = nI me := by rw [hF2 3 (by decide) (by decide)]; exact h.1.2.2.2.1.2
  have z4 : z.1 0 4 = nI ru := by rw [hF2 4 (by decide) (by decide)]; exact h.1.2.2.2.2.1.2
  obtain ⟨g1, g2⟩ := headS_in (ca := z.1 11) (fi := z.1 10) (show k i < N by omega) ki.2
  have er : fX9_ruleFor (nI (k i)) z = some (oI (dRl m k N ru i), z) := by
    unfold fX9_ruleFor
    rw [headM hN z z2 k31 hd (show k i < N by omega) ki.2, Option.bind_some, if_pos (ok_nI (by omega) (by decide)), cl_nI (by omega), rulM hru z z4]
    unfold dRl
    rw [hF1 11 (by decide) (by decide) (by decide), hF1 10 (by decide) (by decide) (by decide), hF1 25 (by decide) (by decide) (by decide)]
  rw [k31 i hi, er, Option.bind_some]
  dsimp only
  cases o : dRl m k N ru i with
  | none =>
    refine Or.inr ⟨fun q => ?_, by rw [if_pos (show oI none = -9 from rfl)]⟩
    obtain ⟨-, -, r, q, -⟩ := q
    cases q
  | some r =>
    have e39 : x.1 39 = m.1 25 := h.2.2.2.1.2.2.2.2.2.2.1
    have hr : r < ru := by
      have := (rulX hru x h.1.2.2.2.2.1.1 (m.1 11 (headS (m.1 11) (m.1 10) k N (k i)))).2 r
      rw [e39] at this
      exact this o
    obtain ⟨y1, y2, y3⟩ := h.2.2.2.2.2.2.2.2.2.2.2.2.2.1 r hr
    have nr9 : ¬ oI (some r) = -9 := nI_n9 (b := r) (by omega)
    rw [if_neg nr9, show oI (some r) = nI r from rfl, if_neg (show ¬ nI 360 = 0 from by decide), if_pos (ok_nI (by omega) (by decide)), cl_nI (by omega), hF1 28 (by decide) (by decide) (by decide), y1]
    by_cases c3 : (dy - cN (m.1 13) i) / 360 ≤ cN (m.1 28) r
    case neg =>
      refine Or.inr ⟨fun q => ?_, by rw [if_neg (by rw [nI_leI (by omega) (by omega)]; exact c3)]⟩
      obtain ⟨-, -, r', q, q'⟩ := q
      cases q
      exact c3 q'
    refine Or.inl ⟨⟨c1, rfl, r, rfl, c3⟩, ?_⟩
    rw [if_pos (by rw [nI_leI (by omega) (by omega)]; exact c3), if_pos (ok_nI (by omega) (by decide)), if_pos (ok_nI (by omega) (by decide))]
    have hfn := fun j hj => (h.2.2.2.2.2.1.1 j hj).2.2.1
    have ep := payM (p := z.1 26 r) (c := z.1 27 r) (worthM hN hme z z3 z2 k31 hd (show k i < N by omega) (by rw [hF1 21 (by decide) (by decide) (by decide), hF1 22 (by decide) (by decide) (by decide), hF1 23 (by decide) (by decide) (by decide)]; exact h.2.2.2.2.2.2.2.1))
    rw [k31 i hi, ep, Option.bind_some]
    dsimp only
    rw [shareM (fn := cN (m.1 10)) hN z z2 k31 hd (fun j hj => ⟨(hfn j hj).2, by rw [hF1 10 (by decide) (by decide) (by decide)]; exact (hfn j hj).1⟩) hi, Option.bind_some]
    dsimp only
    rw [hF1 21 (by decide) (by decide) (by decide), hF1 22 (by decide) (by decide) (by decide), hF1 23 (by decide) (by decide) (by decide), hF1 24 (by decide) (by decide) (by decide), hF1 20 (by decide) (by decide) (by decide), hF1 15 (by decide) (by decide) (by decide), hF1 26 (by decide) (by decide) (by decide), hF1 27 (by decide) (by decide) (by decide), hF1 11 (by decide) (by decide) (by decide), hF1 10 (by decide) (by decide) (by decide), hF2 7 (by decide) (by decide)]
    have eC := hC i r hi o
    unfold dCo at eC
    rw [← eC]
    obtain ⟨m1, m2, m3, m4⟩ := mems h hi
    obtain ⟨t1, t2⟩ := h.2.2.2.2.2.2.2.2.2.1.1 i hi
    obtain ⟨⟨v1, v2⟩, -⟩ := h.2.2.2.2.2.1.1 i hi
    have z16 : z.1 16 i = nI (cN (m.1 16) i) := by rw [hF1 16 (by decide) (by decide) (by decide)]; exact t1
    have z7 : z.1 7 i = nI (cN (m.1 7) i) := by rw [hF1 7 (by decide) (by decide) (by decide)]; exact v1
    rw [if_neg (show ¬ (1000 : Int32) = 0 from by decide), z16, if_neg (one_s t2)]
    rw [teamM (mn := fun t => cN (m.1 17) (6 * i + t)) (by omega) z z16 t2 (fun t ht => by
      have := m1 t ht
      exact ⟨by rw [hF1 17 (by decide) (by decide) (by decide)]; exact this.1, by omega⟩)]
    simp (disch := decide) only [wI_wF, wF_n, wF_s, z7, z16, ok_nI (show cN (m.1 7) i < 40 by omega) (by decide), if_true, cl_nI (show cN (m.1 7) i < 2 ^ 31 by omega)]
    refine ⟨_, rfl, ?_, ?_⟩
    · have F2 : ∀ g, upd (lp (fun t F => upd F (cN (m.1 17) (6 * i + t)) (F (cN (m.1 17) (6 * i + t)) + C i / (1 + nI (cN (m.1 16) i)))) (cN (m.1 16) i) 0 (z.1 3)) (cN (m.1 7) i) (lp (fun t F => upd F (cN (m.1 17) (6 * i + t)) (F (cN (m.1 17) (6 * i + t)) + C i / (1 + nI (cN (m.1 16) i)))) (cN (m.1 16) i) 0 (z.1 3) (cN (m.1 7) i) + (C i - C i / (1 + nI (cN (m.1 16) i)) * nI (cN (m.1 16) i))) g = z.1 3 g + D i g := by
        intro g
        have F1 : ∀ g, lp (fun t F => upd F (cN (m.1 17) (6 * i + t)) (F (cN (m.1 17) (6 * i + t)) + C i / (1 + nI (cN (m.1 16) i)))) (cN (m.1 16) i) 0 (z.1 3) g = z.1 3 g + (if g < H ∧ bt64 (x.2 18 i) g = true then C i / (1 + nI (cN (m.1 16) i)) else 0) := by
          intro g
          obtain ⟨l1, l2⟩ := mem_lp (mn := fun t => cN (m.1 17) (6 * i + t)) (e := C i / (1 + nI (cN (m.1 16) i))) (z.1 3) (cN (m.1 16) i) m2 g
          by_cases w : g < H ∧ bt64 (x.2 18 i) g = true
          · rw [if_pos w]; exact l1 ((m3 g).mp w)
          · rw [if_neg w, l2 (fun q => w ((m3 g).mpr q))]; grind
        rw [hD i g hi]
        unfold dDp
        by_cases w : g = cN (m.1 7) i
        · rw [w, upd_s, if_pos rfl, F1, i_3]
        · rw [upd_n _ _ w, if_neg w, F1]; grind
      refine ⟨⟨fun q q0 q3 q14 => ?_, fun j j0 j10 => ?_⟩, fun g => ?_, fun j => ?_, ?_, ?_⟩
      · rw [wF_n _ _ q0, wF_n _ _ q14, wF_n _ _ q3, wF_n _ _ q3]; exact hF1 q q0 q3 q14
      · rw [wF_s, upd_n _ _ j10]; exact hF2 j j0 j10
      · show upd _ _ _ g = _
        rw [F2 g, hz3 g, sI_k κ (fun i => D i g) hi]; grind
      · show upd (z.1 14) i (z.1 14 i + C i) j = _
        by_cases w : j = i
        · rw [w, upd_s, hz14 i, up1_s, nI_succ]; grind
        · rw [upd_n _ _ w, up1_n _ w]; exact hz14 j
      · show upd (z.1 0) 10 (z.1 0 10 + C i) 10 = _
        rw [upd_s, hz10, sI_k κ C hi]; grind
      · show sI (fun h => upd _ _ _ h + m.1 4 h) H = upd (z.1 0) 10 (z.1 0 10 + C i) 10 + m.1 0 11
        rw [upd_s]
        have e1 : sI (fun g => (z.1 3 g + m.1 4 g) + D i g) H = (z.1 0 10 + m.1 0 11) + C i := by
          rw [sI_add, hzK]
          congr 1
          rw [sI_cg (F := dDp (bt64 (x.2 18 i)) H (cN (m.1 7) i) (cN (m.1 16) i) (C i)) H (fun g _ => hD i g hi)]
          exact sI_D v2 m4
        rw [sI_cg (F := fun g => (z.1 3 g + m.1 4 g) + D i g) H (fun g _ => by rw [F2 g]; grind), e1]
        grind
    · show upd (z.1 0) 10 (z.1 0 10 + C i) 0 = nI dy
      rw [upd_n _ _ (by decide)]; exact h0
end DAYSM
