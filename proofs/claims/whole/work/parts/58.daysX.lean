section DAYSX
variable {x m : iw_M} {H N me ru wo d : Nat} {k : Nat → Nat}
def x1d (x : iw_M) (t : Nat) : iw_M := iw_wF x 0 (upd (x.1 0) 11 (nI t))
theorem yearsX (h : RP x m H N me ru wo d) (hk : ∀ j, j < N → x.1 20 j = nI (k j)) (hd : Kd N k) {C : Nat → Int32} {D : Nat → Nat → Int32} (hC : ∀ i r, i < N → dRl m k N ru i = some r → C i = dCo m k N me i r) (hD : ∀ i g, i < N → D i g = dDp (bt64 (x.2 18 i)) H (cN (m.1 7) i) (cN (m.1 16) i) (C i) g) {n : Nat} (hn : d + n ≤ 3000) {κ : Nat → Nat} {z : iw_M} (hz : PX (x1d x (d + n)) C D N κ z) {i : Nat} (hi : i < N) (h1 : m.1 12 i = 1) (hκ : κ i = 0) :
    ∃ z', fX8_payYearsSince (nI d) (nI i) z = some (nI (dK m k N ru d n i) * C i, z') ∧ PX (x1d x (d + n)) C D N (fun j => if j = i then dK m k N ru d n i else κ j) z' := by
  have hN := h.1.1.2.1
  have hH := h.1.1.1
  have hme := h.1.1.2.2.1
  have hru := h.1.1.2.2.2.1
  obtain ⟨p1, p2, p3, p4, p5, p6, p7, p8⟩ := h.2.2.1
  obtain ⟨b1, b2, b3, b4, b5, b6, b7, b8, b9, b10, -⟩ := h.2.2.2.1
  obtain ⟨d0, d1, d2⟩ := (h.2.2.2.2.2.2.1 i hi).2 (by rw [h1]; decide)
  have zc : ∀ q, q ≠ 0 → q ≠ 6 → q ≠ 16 → (q < 32 ∨ 37 < q) → z.1 q = x.1 q := fun q q0 q1 q2 q3 => (hz.1.2 q q1 q2 q3).trans (wF_n _ _ q0)
  have z0 : z.1 0 11 = nI (d + n) := by
    rw [hz.1.2 0 (by decide) (by decide) (by decide)]
    show upd (x.1 0) 11 (nI (d + n)) 11 = _
    rw [upd_s]
  have no : dK m k N ru d n i = 0 → PX (x1d x (d + n)) C D N (fun j => if j = i then dK m k N ru d n i else κ j) z ∧ (0 : Int32) = nI (dK m k N ru d n i) * C i := by
    intro q
    have e : (fun j => if j = i then dK m k N ru d n i else κ j) = κ := by
      funext j
      by_cases w : j = i
      · rw [if_pos w, q, w, hκ]
      · rw [if_neg w]
    rw [e, q]
    exact ⟨hz, by rw [show nI 0 = 0 from rfl]; grind⟩
  unfold fX8_payYearsSince
  simp only [ok_nI (show i < 40 by omega) (by decide), if_true, cl_nI (show i < 2 ^ 31 by omega), z0, zc 15 (by decide) (by decide) (by decide) (by decide), d0]
  rw [d1, if_neg (show ¬ (360 : Int32) = 0 from by decide), if_neg (show ¬ (360 : Int32) = 0 from by decide), show (360 : Int32) = nI 360 from rfl, pk_sub (by omega), pk_sub (by omega), pk_div (by omega) (by decide) (by decide), pk_div (by omega) (by decide) (by decide)]
  by_cases c1 : (d + n - cN (m.1 13) i) / 360 = (d - cN (m.1 13) i) / 360
  · have q : dK m k N ru d n i = 0 := by
      cases o : dRl m k N ru i with
      | none => exact dK_0 o
      | some r => rw [dK_s h1 o, c1]; omega
    rw [if_pos (by rw [c1])]
    exact ⟨z, by rw [← (no q).2], (no q).1⟩
  rw [if_neg (fun q => c1 ((nI_eq (by omega) (by omega)).mp q))]
  have ki := hd i hi
  have k20 : ∀ j, j < N → z.1 20 j = nI (k j) := fun j hj => by rw [zc 20 (by decide) (by decide) (by decide) (by decide)]; exact hk j hj
  have z8 : z.1 8 10 = nI N := by rw [zc 8 (by decide) (by decide) (by decide) (by decide)]; exact h.1.2.2.1.1
  have z26 : z.1 26 4 = nI me := by rw [zc 26 (by decide) (by decide) (by decide) (by decide)]; exact h.1.2.2.2.1.1
  have z38 : z.1 38 4 = nI ru := by rw [zc 38 (by decide) (by decide) (by decide) (by decide)]; exact h.1.2.2.2.2.1.1
  have z12 : z.1 12 = m.1 10 := (zc 12 (by decide) (by decide) (by decide) (by decide)).trans p4
  have z13 : z.1 13 = m.1 11 := (zc 13 (by decide) (by decide) (by decide) (by decide)).trans p5
  have z39 : z.1 39 = m.1 25 := (zc 39 (by decide) (by decide) (by decide) (by decide)).trans b7
  have z27 : z.1 27 = m.1 21 := (zc 27 (by decide) (by decide) (by decide) (by decide)).trans b3
  have z28 : z.1 28 = m.1 22 := (zc 28 (by decide) (by decide) (by decide) (by decide)).trans b4
  have z29 : z.1 29 = m.1 24 := (zc 29 (by decide) (by decide) (by decide) (by decide)).trans b6
  have z30 : z.1 30 = m.1 23 := (zc 30 (by decide) (by decide) (by decide) (by decide)).trans b5
  have z25 : z.1 25 = m.1 20 := (zc 25 (by decide) (by decide) (by decide) (by decide)).trans b2
  have z17 : z.1 17 = m.1 15 := (zc 17 (by decide) (by decide) (by decide) (by decide)).trans p8
  have z40 : z.1 40 = m.1 26 := (zc 40 (by decide) (by decide) (by decide) (by decide)).trans b8
  have z41 : z.1 41 = m.1 27 := (zc 41 (by decide) (by decide) (by decide) (by decide)).trans b9
  have z42 : z.1 42 = m.1 28 := (zc 42 (by decide) (by decide) (by decide) (by decide)).trans b10
  have z45 : z.1 45 1 = m.1 0 7 := by rw [zc 45 (by decide) (by decide) (by decide) (by decide)]; exact h.2.2.2.2.1.2.1
  have er : fX8_ruleFor (nI i) z = some (oI (dRl m k N ru i), z) ∧ ∀ b, dRl m k N ru i = some b → b < ru := by
    obtain ⟨g1, g2⟩ := headS_in (ca := z.1 13) (fi := z.1 12) (show k i < N by omega) ki.2
    unfold fX8_ruleFor
    obtain ⟨r1, r2⟩ := rulX hru z z38 (z.1 13 (headS (z.1 13) (z.1 12) k N (k i)))
    rw [if_pos (ok_nI (by omega) (by decide)), cl_nI (by omega), k20 i hi, headX (kf := 19) hN z z8 k20 hd (show k i < N by omega) ki.2, Option.bind_some, if_pos (ok_nI (by omega) (by decide)), cl_nI (by omega), r1, Option.bind_some]
    unfold dRl
    rw [z13, z12, z39] at r2 ⊢
    exact ⟨rfl, r2⟩
  rw [er.1, Option.bind_some]
  dsimp only
  cases o : dRl m k N ru i with
  | none =>
    rw [if_pos (show oI none = -9 from rfl)]
    have q := no (dK_0 o)
    exact ⟨z, by rw [← q.2], q.1⟩
  | some r =>
    have hr := er.2 r o
    obtain ⟨y1, y2, y3⟩ := h.2.2.2.2.2.2.2.2.2.2.2.2.2.1 r hr
    rw [if_neg (show ¬ oI (some r) = -9 from nI_n9 (b := r) (by omega)), show oI (some r) = nI r from rfl, k20 i hi]
    obtain ⟨z', w1, w2⟩ := worthX (kf := 19) (x := z) (by omega) hN hme z8 z26 k20 hd (show k i < N by omega) (by rw [z27, z28, z30]; exact h.2.2.2.2.2.2.2.1)
    have hz' := hz.fr w2
    have hfn := fun j hj => (h.2.2.2.2.2.1.1 j hj).2.2.1
    rw [w1, Option.bind_some, if_pos (ok_nI (by omega) (by decide)), if_pos (ok_nI (by omega) (by decide)), cl_nI (by omega)]
    dsimp only
    rw [payX, Option.bind_some, if_pos (show iw_ok 1 4 = true from by decide), show Int32.toNatClampNeg 1 = 1 from by decide]
    dsimp only
    rw [shareX (kf := 19) (fn := cN (m.1 10)) (by omega) hN z' (by rw [w2.2 8 (by decide)]; exact z8) (fun j hj => by rw [w2.2 20 (by decide)]; exact k20 j hj) hd (fun j hj => ⟨(hfn j hj).2, by rw [w2.2 12 (by decide), z12]; exact (hfn j hj).1⟩) hi, Option.bind_some, if_neg (show ¬ (1000 : Int32) = 0 from by decide), if_pos (ok_nI (by omega) (by decide))]
    dsimp only
    rw [w2.2 40 (by decide), w2.2 41 (by decide), w2.2 42 (by decide), w2.2 45 (by decide), w2.2 13 (by decide), w2.2 12 (by decide), z27, z28, z29, z30, z25, z17, z40, z41, z42, z45, z13, z12, y1]
    have eC := hC i r hi o
    unfold dCo at eC
    rw [← eC, min_nI (by omega) (by omega), nI_1]
    obtain ⟨z2, f1, f2⟩ := yrs_L (x := x1d x (d + n)) h rfl rfl rfl hD hi (last := min ((d + n - cN (m.1 13) i) / 360) (cN (m.1 28) r)) (by omega) iw_fu ((d - cN (m.1 13) i) / 360 + 1) 0 κ z' (by unfold iw_fu; omega) (by omega) hz'
    have ed : min ((d + n - cN (m.1 13) i) / 360) (cN (m.1 28) r) + 1 - ((d - cN (m.1 13) i) / 360 + 1) = dK m k N ru d n i := by rw [dK_s h1 o]; omega
    rw [ed] at f1 f2
    refine ⟨z2, ?_, ?_⟩
    · rw [f1]; congr 2; grind
    · have e : upn κ i (dK m k N ru d n i) = fun j => if j = i then dK m k N ru d n i else κ j := by
        funext j
        unfold upn
        by_cases w : j = i
        · rw [if_pos w, if_pos w, w, hκ, Nat.zero_add]
        · rw [if_neg w, if_neg w]
      rw [← e]; exact f2
def upto (f : Nat → Nat) (i : Nat) : Nat → Nat := fun j => if j < i then f j else 0
theorem daysX_L (h : RP x m H N me ru wo d) (hk : ∀ j, j < N → x.1 20 j = nI (k j)) (hd : Kd N k) {C : Nat → Int32} {D : Nat → Nat → Int32} (hC : ∀ i r, i < N → dRl m k N ru i = some r → C i = dCo m k N me i r) (hD : ∀ i g, i < N → D i g = dDp (bt64 (x.2 18 i)) H (cN (m.1 7) i) (cN (m.1 16) i) (C i) g) {n : Nat} (hn : d + n ≤ 3000) : ∀ (q i : Nat) (z : iw_M), i ≤ N → N < q + i → PX (x1d x (d + n)) C D N (upto (dK m k N ru d n) i) z →
    ∃ z', fX8_days_L51 (nI d) (fun x3_2 x4_2 z_2 => some (x3_2, z_2)) q (sI (fun j => nI (upto (dK m k N ru d n) i j) * C j) N) (nI i) z = some (sI (fun j => nI (dK m k N ru d n j) * C j) N, z') ∧ PX (x1d x (d + n)) C D N (dK m k N ru d n) z' := by
  have hN := h.1.1.2.1
  have p6 : x.1 14 = m.1 12 := h.2.2.1.2.2.2.2.2.1
  intro q
  induction q with
  | zero => intro i z h1 h2; omega
  | succ q ih =>
    intro i z h1 h2 hz
    have z8 : z.1 8 10 = nI N := by rw [hz.1.2 8 (by decide) (by decide) (by decide)]; exact h.1.2.2.1.1
    have z14 : z.1 14 = m.1 12 := (hz.1.2 14 (by decide) (by decide) (by decide)).trans p6
    rw [fX8_days_L51, z8]
    by_cases c : i = N
    · have e : upto (dK m k N ru d n) N = dK m k N ru d n := by
        funext j
        unfold upto
        by_cases w : j < N
        · rw [if_pos w]
        · rw [if_neg w, dK_n (by rw [(h.2.2.2.2.2.1.2 j (by omega)).1]; decide)]
      rw [if_pos (by rw [c]; exact nI_le (Nat.le_refl _) (by omega)), c, e]
      rw [c, e] at hz
      exact ⟨z, rfl, hz⟩
    · rw [if_neg (by rw [nI_leI (by omega) (by omega)]; omega), if_pos (ok_nI (by omega) (by decide)), cl_nI (by omega), z14, nI_1]
      have u0 : upto (dK m k N ru d n) i i = 0 := if_neg (Nat.lt_irrefl _)
      have us : upto (dK m k N ru d n) (i + 1) i = dK m k N ru d n i := if_pos (by omega)
      have un : ∀ j, j ≠ i → upto (dK m k N ru d n) (i + 1) j = upto (dK m k N ru d n) i j := by
        intro j w
        unfold upto
        by_cases y : j < i
        · rw [if_pos y, if_pos (by omega)]
        · rw [if_neg y, if_neg (by omega)]
      by_cases c1 : m.1 12 i = 1
      · rw [if_pos c1]
        obtain ⟨z', f1, f2⟩ := yearsX h hk hd hC hD hn hz (show i < N by omega) c1 u0
        have e : (fun j => if j = i then dK m k N ru d n i else upto (dK m k N ru d n) i j) = upto (dK m k N ru d n) (i + 1) := by
          funext j
          by_cases w : j = i
          · rw [if_pos w, w, us]
          · rw [if_neg w, un j w]
        rw [e] at f2
        have s1 : sI (fun j => nI (upto (dK m k N ru d n) (i + 1) j) * C j) N = sI (fun j => nI (upto (dK m k N ru d n) i j) * C j) N + nI (dK m k N ru d n i) * C i :=
          sI_up (fun t ht => by rw [un t ht]) (by rw [us, u0, show nI 0 = 0 from rfl]; grind) N (by omega)
        rw [f1, Option.bind_some]
        dsimp only
        rw [← s1]
        exact ih (i + 1) z' (by omega) (by omega) f2
      · have e : upto (dK m k N ru d n) i = upto (dK m k N ru d n) (i + 1) := by
          funext j
          by_cases w : j = i
          · rw [w, us, u0, dK_n c1]
          · rw [un j w]
        rw [if_neg c1, e]
        rw [e] at hz
        exact ih (i + 1) z (by omega) (by omega) hz
theorem st_days (h : iw_Rel x m) (a0 : Int32) : iw_E (fX8_days a0 x) (fX9_days a0 m) := by
  obtain ⟨H, N, me, ru, wo, d, h⟩ := h
  have hN := h.1.1.2.1
  have hd := h.1.1.2.2.2.2.2
  have xd := h.1.2.2.2.2.2.2.1
  have md := h.1.2.2.2.2.2.2.2
  unfold fX8_days fX9_days
  rw [xd, md]
  by_cases c1 : 1 ≤ a0
  case neg => rw [if_neg c1, if_neg c1]; exact no4 h
  rw [if_pos c1, if_pos c1]
  by_cases c2 : a0 ≤ 3000 - nI d
  case neg => rw [if_neg c2, if_neg c2]; exact no6 h
  rw [if_pos c2, if_pos c2]
  rw [show (3000 : Int32) = nI 3000 from rfl, pk_sub hd] at c2
  have c0 : ¬ a0 < 0 := by
    rw [Int32.le_iff_toInt_le] at c1
    rw [Int32.lt_iff_toInt_lt]
    have t1 : (1 : Int32).toInt = 1 := by decide
    have t0 : (0 : Int32).toInt = 0 := by decide
    omega
  obtain ⟨n, hn, rfl⟩ := nI_of2 (x := a0) (M := nI (3000 - d)) (n := 3000 - d) (nI_toInt (by omega)) c0 c2
  obtain ⟨k, g, q1, q2, q3, q4, q5, q6⟩ := fam_now h
  have hR := q6 g
  have m31 : ∀ j, j < N → (iw_wF m 31 g).1 31 j = nI (k j) := fun j hj => by rw [wF_s]; exact q5 j hj
  rw [q4, Option.bind_some, nI_add, wI_wF]
  dsimp only
  have m00 : (iw_wF m 31 g).1 0 0 = nI d := md
  clear q5 q4 q1 q6 h md
  generalize iw_wF m 31 g = M at *
  obtain ⟨C, hC⟩ : ∃ C : Nat → Int32, ∀ i r, i < N → dRl M k N ru i = some r → C i = dCo M k N me i r := ⟨fun i => dCo M k N me i ((dRl M k N ru i).getD 0), fun i r _ o => by dsimp only; rw [o]; rfl⟩
  obtain ⟨D, hD⟩ : ∃ D : Nat → Nat → Int32, ∀ i g, i < N → D i g = dDp (bt64 (x.2 18 i)) H (cN (M.1 7) i) (cN (M.1 16) i) (C i) g := ⟨fun i g => dDp (bt64 (x.2 18 i)) H (cN (M.1 7) i) (cN (M.1 16) i) (C i) g, fun _ _ _ => rfl⟩
  have zs : ∀ F : Nat → Int32, sI (fun i => nI 0 * F i) N = 0 := fun F => by
    rw [sI_cg (F := fun _ => 0) N (fun i _ => by rw [show nI 0 = 0 from rfl]; grind), sI_0]
  have u0 : upto (dK M k N ru d n) 0 = fun _ => 0 := by
    funext j; unfold upto; rw [if_neg (Nat.not_lt_zero _)]
  have k0 : dK M k N ru d 0 = fun _ => 0 := by
    funext j; exact dK_st
  obtain ⟨zx, f1, f2⟩ := daysX_L hR q3 q2 hC hD (show d + n ≤ 3000 by omega) iw_fu 0 (x1d x (d + n)) (by omega) (by unfold iw_fu; omega) (by
    rw [u0]
    refine ⟨⟨rfl, fun q _ _ _ => rfl⟩, fun g => ?_, fun j => ?_⟩
    · rw [zs (fun i => D i g)]; grind
    · rw [show nI 0 = 0 from rfl]; grind)
  obtain ⟨zm, g1, g2, g3⟩ := dayOut hR m31 q2 hC hD (show d + n ≤ 3000 by omega) iw_fu 0 M (by omega) (by unfold iw_fu; omega) (by
    rw [k0]
    refine ⟨⟨fun q _ _ _ => rfl, fun j _ _ => rfl⟩, fun g => ?_, fun j => ?_, ?_, hR.2.2.2.2.2.2.2.2.2.2.2.2.1.1⟩
    · rw [zs (fun i => D i g)]; grind
    · rw [show nI 0 = 0 from rfl]; grind
    · rw [zs C]; grind) m00
  rw [u0, zs C] at f1
  rw [k0, zs C] at g1
  have f1' : fX8_days_L51 (nI d) (fun x3_2 x4_2 z_2 => some (x3_2, z_2)) iw_fu 0 0 (iw_wF x 0 (upd (x.1 0) 11 (nI (d + n)))) = _ := f1
  have g1' : fX9_days_L43 (nI n) (fun x2_4 x3_4 z_4 => some (x2_4, z_4)) iw_fu 0 0 M = _ := g1
  rw [f1', g1']
  refine iw_E.mk _ ⟨H, N, me, ru, wo, d + n, ?_⟩
  obtain ⟨⟨x2, cx⟩, x6, x16⟩ := f2
  obtain ⟨⟨cm, cm0⟩, y3, y14, y10, yK⟩ := g2
  have cx1 : ∀ q, q ≠ 0 → q ≠ 6 → q ≠ 16 → (q < 32 ∨ 37 < q) → zx.1 q = x.1 q := fun q w0 w1 w2 w3 => (cx q w1 w2 w3).trans (wF_n _ _ w0)
  have cx0 : zx.1 0 11 = nI (d + n) := by
    rw [cx 0 (by decide) (by decide) (by decide)]
    show upd (x.1 0) 11 (nI (d + n)) 11 = _
    rw [upd_s]
  have cx2 : zx.2 = x.2 := x2
  obtain ⟨hA, hB1, hB2, hB3, hB4, hCC, hDD, hF, hG, hHH, hI, hJ, hK, hQ, hU⟩ := hR
  have e6 : zx.1 6 = zm.1 3 := by
    funext g
    rw [x6 g, y3 g]
    show x.1 6 g + _ = _
    rw [hB1.2.2.1]
  have e16 : zx.1 16 = zm.1 14 := by
    funext j
    rw [x16 j, y14 j]
    show x.1 16 j + _ = _
    rw [hB2.2.2.2.2.2.2.1]
  refine ⟨?_, ?_, ?_, ?_, ?_, ?_, ?_, ?_, ?_, ?_, ?_, ?_, ?_, ?_, ?_⟩
  · unfold RA
    rw [cx0, g3]
    simp (disch := decide) only [cx1, cm0]
    exact ⟨⟨hA.1.1, hA.1.2.1, hA.1.2.2.1, hA.1.2.2.2.1, hA.1.2.2.2.2.1, by omega⟩, hA.2.1, hA.2.2.1, hA.2.2.2.1, hA.2.2.2.2.1, hA.2.2.2.2.2.1, trivial, trivial⟩
  · unfold RB1
    rw [e6]
    simp (disch := decide) only [cx1, cm]
    exact ⟨hB1.1, hB1.2.1, trivial, hB1.2.2.2⟩
  · unfold RB2
    rw [e16]
    simp (disch := decide) only [cx1, cm]
    obtain ⟨r1, r2, r3, r4, r5, r6, r7, r8⟩ := hB2
    exact ⟨r1, r2, r3, r4, r5, r6, trivial, r8⟩
  · unfold RB3
    simp (disch := decide) only [cx1, cm]
    exact hB3
  · unfold RB4
    simp (disch := decide) only [cx1, cm0]
    exact hB4
  · unfold RC
    simp (disch := decide) only [cm]
    refine ⟨fun i hi => ?_, hCC.2⟩
    obtain ⟨r1, r2, r3, r4, r5⟩ := hCC.1 i hi
    exact ⟨r1, r2, r3, r4, by omega⟩
  · unfold RD
    simp (disch := decide) only [cm, cx1]
    intro i hi
    refine ⟨(hDD i hi).1, fun q => ?_⟩
    obtain ⟨r1, r2, r3⟩ := (hDD i hi).2 q
    exact ⟨r1, r2, by omega⟩
  · simp (disch := decide) only [cm]
    exact hF
  · unfold RG
    rw [cx2]
    simp (disch := decide) only [cm]
    exact hG
  · unfold RH tmOk
    rw [cx2]
    simp (disch := decide) only [cm]
    exact hHH
  · unfold RI
    simp (disch := decide) only [cm]
    exact hI
  · unfold RJ
    simp (disch := decide) only [cm, cm0, cx1]
    exact hJ
  · unfold RK
    simp (disch := decide) only [cm, cm0]
    refine ⟨yK, fun h hh => ⟨?_, (hK.2 h hh).2⟩⟩
    rw [y3 h, (hK.2 h hh).1, sI_cg (F := fun _ => 0) N (fun i hi => by
      rw [hD i h hi, dDp_hi (hCC.1 i hi).1.2 hh]; grind), sI_0]
    decide
  · unfold RQ
    simp (disch := decide) only [cm]
    exact hQ
  · unfold RU
    simp (disch := decide) only [cm]
    exact hU
end DAYSX
