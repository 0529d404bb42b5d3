section STEPS7
variable {x m : iw_M} {H N me ru wo d : Nat}
/-- the turned down idea that is most like a work -/
def wks (P : Nat → Prop) [DecidablePred P] (l : Nat → Int32) (lim : Int32) (A : Nat → Nat → Bool) (i : Nat) : Option Nat → Option Nat
  | none => if P i ∧ lim ≤ l i then some i else none
  | some c => if P i ∧ lim ≤ l i then (if l c < l i then some i else if l i = l c ∧ A i c = true then some i else some c) else some c
theorem wks_n {P : Nat → Prop} [DecidablePred P] {l : Nat → Int32} {lim : Int32} {A : Nat → Nat → Bool} {i : Nat} {b : Option Nat} (h : ¬ (P i ∧ lim ≤ l i)) : wks P l lim A i b = b := by
  cases b with
  | none => exact if_neg h
  | some c => exact if_neg h
theorem wks_0 {P : Nat → Prop} [DecidablePred P] {l : Nat → Int32} {lim : Int32} {A : Nat → Nat → Bool} {i : Nat} (h : P i ∧ lim ≤ l i) : wks P l lim A i none = some i := if_pos h
theorem wks_1 {P : Nat → Prop} [DecidablePred P] {l : Nat → Int32} {lim : Int32} {A : Nat → Nat → Bool} {i c : Nat} (h : P i ∧ lim ≤ l i) (q : l c < l i) : wks P l lim A i (some c) = some i := by unfold wks; dsimp only; rw [if_pos h, if_pos q]
theorem wks_2 {P : Nat → Prop} [DecidablePred P] {l : Nat → Int32} {lim : Int32} {A : Nat → Nat → Bool} {i c : Nat} (h : P i ∧ lim ≤ l i) (q : ¬ l c < l i) (e : l i = l c) : wks P l lim A i (some c) = if A i c = true then some i else some c := by
  unfold wks; dsimp only; rw [if_pos h, if_neg q]
  by_cases w : A i c = true
  · rw [if_pos ⟨e, w⟩, if_pos w]
  · rw [if_neg (fun z => w z.2), if_neg w]
theorem wks_3 {P : Nat → Prop} [DecidablePred P] {l : Nat → Int32} {lim : Int32} {A : Nat → Nat → Bool} {i c : Nat} (h : P i ∧ lim ≤ l i) (q : ¬ l c < l i) (e : ¬ l i = l c) : wks P l lim A i (some c) = some c := by
  unfold wks; dsimp only; rw [if_pos h, if_neg q, if_neg (fun z => e z.1)]
def wkI (l : Nat → Int32) (lim : Int32) (N : Nat) (b : Option Nat) : Prop := ∀ c, b = some c → c < N ∧ lim ≤ l c
def wkV (l : Nat → Int32) (lim : Int32) : Option Nat → Int32
  | none => lim
  | some c => l c
theorem likeX (hN : N ≤ 40) (x : iw_M) (hs : x.1 8 10 = nI N) (s v lim : Int32) (l : Nat → Int32) (hl0 : ∀ j, lk (x.1 11 j) v = l j) : fX3_turnedDownLike s v lim x = some (oI (lp (wks (fun i => x.1 14 i = 2 ∧ x.1 10 i = s) l lim (ahd (x.1 13) (x.1 12))) N 0 none), x) ∧ wkI l lim N (lp (wks (fun i => x.1 14 i = 2 ∧ x.1 10 i = s) l lim (ahd (x.1 13) (x.1 12))) N 0 none) := by
  unfold fX3_turnedDownLike
  exact (loopF (fun n i b => fX3_turnedDownLike_L10 s v (fun x4_3 x5_3 x6_3 z_3 => some (x4_3, z_3)) n (oI b) (wkV l lim b) (nI i) x) (fun b => some (oI b, x)) N (wks (fun i => x.1 14 i = 2 ∧ x.1 10 i = s) l lim (ahd (x.1 13) (x.1 12))) (fun _ b => wkI l lim N b) (fun n a ha => by
      rw [fX3_turnedDownLike_L10, hs, if_pos (nI_le (Nat.le_refl _) (by omega))]) (fun n i a hi ha => by
      rw [fX3_turnedDownLike_L10, hs, if_neg (by rw [nI_leI (by omega) (by omega)]; omega), if_pos (ok_nI (by omega) (by decide)), cl_nI (by omega), nI_1]
      by_cases c1 : x.1 14 i = 2
      case neg => rw [if_neg c1, wks_n (fun q => c1 q.1.1)]; exact ⟨rfl, ha⟩
      rw [if_pos c1, if_pos (ok_nI (by omega) (by decide))]
      by_cases c2 : x.1 10 i = s
      case neg => rw [if_neg c2, wks_n (fun q => c2 q.1.2)]; exact ⟨rfl, ha⟩
      rw [if_pos c2, if_pos (ok_nI (by omega) (by decide)), lkX, Option.bind_some]
      dsimp only
      rw [hl0]
      cases a with
      | none =>
        rw [show wkV l lim none = lim from rfl, show oI none = -9 from rfl]
        by_cases y : lim ≤ l i
        · rw [wks_0 ⟨⟨c1, c2⟩, y⟩]
          refine ⟨?_, fun c h => by cases h; exact ⟨hi, y⟩⟩
          by_cases z : lim < l i
          · rw [if_pos z]; rfl
          · have e : l i = lim := by
              rw [Int32.le_iff_toInt_le] at y
              rw [Int32.lt_iff_toInt_lt] at z
              exact Int32.toInt_inj.mp (by omega)
            rw [if_neg z, if_pos e, if_pos rfl]; rfl
        · rw [wks_n (fun q => y q.2)]
          refine ⟨?_, ha⟩
          rw [Int32.le_iff_toInt_le] at y
          rw [if_neg (by rw [Int32.lt_iff_toInt_lt]; omega), if_neg (fun e => by rw [e] at y; omega)]; rfl
      | some c =>
        obtain ⟨hc, hl⟩ := ha c rfl
        replace hl : lim ≤ l c := hl
        rw [show wkV l lim (some c) = l c from rfl, show oI (some c) = nI c from rfl]
        by_cases z : l c < l i
        · have y : lim ≤ l i := by
            rw [Int32.le_iff_toInt_le] at hl ⊢
            rw [Int32.lt_iff_toInt_lt] at z
            omega
          rw [if_pos z, wks_1 ⟨⟨c1, c2⟩, y⟩ z]
          exact ⟨rfl, fun c h => by cases h; exact ⟨hi, y⟩⟩
        · rw [if_neg z]
          by_cases e : l i = l c
          · have y : lim ≤ l i := by rw [e]; exact hl
            rw [if_pos e, if_neg (nI_n9 (by omega)), aheadX (by omega) (by omega), Option.bind_some, wks_2 ⟨⟨c1, c2⟩, y⟩ z e]
            cases w : ahd (x.1 13) (x.1 12) i c
            · exact ⟨rfl, ha⟩
            · exact ⟨rfl, fun c h => by cases h; exact ⟨hi, y⟩⟩
          · rw [if_neg e]
            have : wks (fun i => x.1 14 i = 2 ∧ x.1 10 i = s) l lim (ahd (x.1 13) (x.1 12)) i (some c) = some c := by
              by_cases y : lim ≤ l i
              · exact wks_3 ⟨⟨c1, c2⟩, y⟩ z e
              · exact wks_n (fun q => y q.2)
            rw [this]
            exact ⟨rfl, ha⟩) iw_fu 0 none (by omega) (by unfold iw_fu; omega) (fun c h => by cases h))
theorem likeM (hN : N ≤ 40) (m : iw_M) (hs : m.1 0 2 = nI N) (hq : ∀ j, j < N → ∃ q, q < 65536 ∧ m.1 9 j = nI q) (s : Int32) {v : Nat} (hv : v < 65536) (l : Nat → Int32) (hl0 : ∀ j, lk (m.1 9 j) (nI v) = l j) (K : Int32 → Int32 → iw_M → Option (Int32 × iw_M)) : fX9_work_L42 s (nI v) K iw_fu (-9) 0 m = K (oI (lp (wks (fun i => m.1 12 i = 2 ∧ m.1 8 i = s) l (m.1 0 6) (ahd (m.1 11) (m.1 10))) N 0 none)) (nI N) m :=
  (loopF (fun n i b => fX9_work_L42 s (nI v) K n (oI b) (nI i) m) (fun b => K (oI b) (nI N) m) N (wks (fun i => m.1 12 i = 2 ∧ m.1 8 i = s) l (m.1 0 6) (ahd (m.1 11) (m.1 10))) (fun _ b => wkI l (m.1 0 6) N b) (fun n a ha => by
      rw [fX9_work_L42, hs, if_pos (nI_le (Nat.le_refl _) (by omega))]) (fun n i a hi ha => by
      rw [fX9_work_L42, hs, if_neg (by rw [nI_leI (by omega) (by omega)]; omega), if_pos (ok_nI (by omega) (by decide)), cl_nI (by omega), nI_1]
      by_cases c1 : m.1 12 i = 2
      case neg => rw [if_neg c1, wks_n (fun q => c1 q.1.1)]; exact ⟨rfl, ha⟩
      rw [if_pos c1, if_pos (ok_nI (by omega) (by decide))]
      by_cases c2 : m.1 8 i = s
      case neg => rw [if_neg c2, wks_n (fun q => c2 q.1.2)]; exact ⟨rfl, ha⟩
      have lkm : ∀ j, j < N → fX9_likeness (m.1 9 j) (nI v) m = some (l j, m) := by
        intro j hj
        obtain ⟨q, q1, q2⟩ := hq j hj
        rw [← hl0, q2, lkM q1 hv]
      rw [if_pos c2, if_pos (ok_nI (by omega) (by decide)), lkm i hi, Option.bind_some]
      unfold fX9_work_J121
      dsimp only
      by_cases y : m.1 0 6 ≤ l i
      case neg => rw [if_neg y, wks_n (fun q => y q.2)]; exact ⟨rfl, ha⟩
      rw [if_pos y]
      cases a with
      | none =>
        rw [show oI none = -9 from rfl, if_pos rfl, if_pos rfl, wks_0 ⟨⟨c1, c2⟩, y⟩, nI_1]
        exact ⟨rfl, fun c h => by cases h; exact ⟨hi, y⟩⟩
      | some c =>
        obtain ⟨hc, hl⟩ := ha c rfl
        rw [show oI (some c) = nI c from rfl, if_neg (nI_n9 (by omega)), if_pos (ok_nI (by omega) (by decide)), cl_nI (by omega), lkm c hc, Option.bind_some]
        dsimp only
        rw [if_neg (nI_n9 (by omega))]
        by_cases z : l c < l i
        · rw [if_pos z, wks_1 ⟨⟨c1, c2⟩, y⟩ z, nI_1]
          exact ⟨rfl, fun c h => by cases h; exact ⟨hi, y⟩⟩
        · rw [if_neg z]
          by_cases e : l i = l c
          · rw [if_pos e, aheadM (by omega) (by omega), Option.bind_some, wks_2 ⟨⟨c1, c2⟩, y⟩ z e, nI_1]
            cases w : ahd (m.1 11) (m.1 10) i c
            · exact ⟨rfl, ha⟩
            · exact ⟨rfl, fun c h => by cases h; exact ⟨hi, y⟩⟩
          · rw [if_neg e, wks_3 ⟨⟨c1, c2⟩, y⟩ z e, nI_1]
            exact ⟨rfl, ha⟩) iw_fu 0 none (by omega) (by unfold iw_fu; omega) (fun c h => by cases h)).1
theorem st_work (h : iw_Rel x m) (a0 : Int32) (a1 : Int32) : iw_E (fX8_work a0 a1 x) (fX9_work a0 a1 m) := by
  obtain ⟨H, N, me, ru, wo, d, h⟩ := h
  have hN := h.1.1.2.1
  have hw := h.1.1.2.2.2.2.1
  unfold fX8_work fX9_work
  rcases is_shop a0 x m with ⟨e1, e2⟩ | ⟨e1, e2⟩
  · rw [e1, e2]; exact no1 h
  rw [e1, e2]; refine E_1 ?_; dsimp only
  rcases is_marks a1 x m with ⟨e1, e2⟩ | ⟨v, hv, rfl, e1, e2⟩
  · rw [e1, e2]; exact no1 h
  rw [e1, e2]; refine E_1 ?_; dsimp only
  obtain ⟨p1, p2, p3, p4, p5, p6, p7, p8⟩ := h.2.2.1
  have s0 := h.2.2.2.2.1.1
  have xw := h.1.2.2.2.2.2.1.1
  have mw := h.1.2.2.2.2.2.1.2
  rw [xw, mw]
  by_cases c : wo = 20
  · rw [if_neg (by rw [c]; decide), if_pos (by rw [c]; rfl)]; exact no6 h
  rw [if_pos (by rw [show (20 : Int32) = nI 20 from rfl, nI_ltI (by omega) (by omega)]; omega), if_neg (show ¬ nI wo = (20 : Int32) from fun q => c ((nI_eq (by omega) (by omega)).mp q)), if_pos (by decide), show Int32.toNatClampNeg 0 = 0 from by decide]
  obtain ⟨l, hl⟩ : ∃ l : Nat → Int32, ∀ j, lk (m.1 9 j) (nI v) = l j := ⟨_, fun _ => rfl⟩
  obtain ⟨l1, l2⟩ := likeX hN x h.1.2.2.1.1 a0 (nI v) (x.1 45 0) l (by rw [p3]; exact hl)
  have l3 := likeM hN m h.1.2.2.1.2 (fun j hj => ⟨_, (h.2.2.2.2.2.1.1 j hj).2.1.2, (h.2.2.2.2.2.1.1 j hj).2.1.1⟩) a0 hv l hl (fun x3_7 x4_7 z_7 => (if iw_ok (z_7.1 0 5) 20 then
    (if x3_7 = (-9 : Int32) then
    some (x3_7, (iw_wI (iw_wI z_7 0 5 ((z_7.1 0 5) + (1 : Int32))) 29 (Int32.toNatClampNeg (z_7.1 0 5)) x3_7))
    else
    (if iw_ok x3_7 40 then
    some (x3_7, (iw_wI (iw_wI (iw_wI z_7 0 5 ((z_7.1 0 5) + (1 : Int32))) 29 (Int32.toNatClampNeg (z_7.1 0 5)) x3_7) 18 (Int32.toNatClampNeg x3_7) (vp_nar .boolean (1 : Int32))))
    else none))
    else none))
  rw [l1, l3, Option.bind_some]
  dsimp only
  rw [p2, p4, p5, p6, s0] at l2 ⊢
  generalize lp (wks (fun i => m.1 12 i = 2 ∧ m.1 8 i = a0) l (m.1 0 6) (ahd (m.1 11) (m.1 10))) N 0 none = b at l2 ⊢
  unfold fX7_add
  simp (disch := decide) only [wI_wF, wF_n, wF_s, upd_s, xw, mw, ok_nI (show wo < 20 by omega) (by decide), if_true, cl_nI (show wo < 2 ^ 31 by omega), nI_1, Option.bind_some, nb1]
  obtain ⟨hA, hB1, hB2, ⟨q1, q2, q3, q4, q5, q6, q7, q8, q9, q10, q11, q12⟩, hB4, hC, hD, hF, hG, hHH, hI, hJ, hK, hQ, hU⟩ := h
  cases b with
  | none =>
    rw [show oI none = -9 from rfl, if_pos rfl]
    refine iw_E.mk _ ⟨H, N, me, ru, wo + 1, d, ⟨⟨⟨hA.1.1, hA.1.2.1, hA.1.2.2.1, hA.1.2.2.2.1, by omega, hA.1.2.2.2.2.2⟩, hA.2.1, hA.2.2.1, hA.2.2.2.1, hA.2.2.2.2.1, ⟨rfl, rfl⟩, hA.2.2.2.2.2.2⟩, hB1, hB2, ⟨q1, q2, q3, q4, q5, q6, q7, q8, q9, q10, ?_, q12⟩, hB4, hC, hD, hF, hG, hHH, ⟨fun i hi => ?_, fun w hw => ?_⟩, hJ, hK, hQ, hU⟩⟩
    · show upd (x.1 44) wo (-9) = upd (m.1 29) wo (-9); rw [q11]
    · show m.1 18 i ≠ 0 ↔ ∃ w, w < wo + 1 ∧ upd (m.1 29) wo (-9) w = nI i
      rw [hI.1 i hi]
      constructor
      · rintro ⟨w, y1, y2⟩; exact ⟨w, by omega, by rw [upd_n _ _ (by omega)]; exact y2⟩
      · rintro ⟨w, y1, y2⟩
        by_cases z : w = wo
        · rw [z, upd_s] at y2; exact absurd y2.symm (nI_n9 (by omega))
        · rw [upd_n _ _ z] at y2; exact ⟨w, by omega, y2⟩
    · show upd (m.1 29) wo (-9) w = -9 ∨ ∃ i, i < N ∧ upd (m.1 29) wo (-9) w = nI i
      by_cases z : w = wo
      · rw [z, upd_s]; exact Or.inl rfl
      · rw [upd_n _ _ z]; exact hI.2 w (by omega)
  | some b =>
    obtain ⟨hb, -⟩ := l2 b rfl
    rw [show oI (some b) = nI b from rfl, if_neg (nI_n9 (by omega)), if_pos (ok_nI (by omega) (by decide)), cl_nI (by omega)]
    refine iw_E.mk _ ⟨H, N, me, ru, wo + 1, d, ⟨⟨⟨hA.1.1, hA.1.2.1, hA.1.2.2.1, hA.1.2.2.2.1, by omega, hA.1.2.2.2.2.2⟩, hA.2.1, hA.2.2.1, hA.2.2.2.1, hA.2.2.2.2.1, ⟨rfl, rfl⟩, hA.2.2.2.2.2.2⟩, hB1, hB2, ⟨q1, q2, q3, q4, q5, q6, q7, q8, q9, q10, ?_, q12⟩, hB4, hC, hD, hF, hG, hHH, ⟨fun i hi => ?_, fun w hw => ?_⟩, hJ, hK, hQ, hU⟩⟩
    · show upd (x.1 44) wo (nI b) = upd (m.1 29) wo (nI b); rw [q11]
    · show upd (m.1 18) b 1 i ≠ 0 ↔ ∃ w, w < wo + 1 ∧ upd (m.1 29) wo (nI b) w = nI i
      by_cases y : i = b
      · rw [y, upd_s]
        exact ⟨fun _ => ⟨wo, by omega, by rw [upd_s]⟩, fun _ => by decide⟩
      · rw [upd_n _ _ y, hI.1 i hi]
        constructor
        · rintro ⟨w, y1, y2⟩; exact ⟨w, by omega, by rw [upd_n _ _ (by omega)]; exact y2⟩
        · rintro ⟨w, y1, y2⟩
          by_cases z : w = wo
          · rw [z, upd_s] at y2; exact absurd ((nI_eq (by omega) (by omega)).mp y2).symm y
          · rw [upd_n _ _ z] at y2; exact ⟨w, by omega, y2⟩
    · show upd (m.1 29) wo (nI b) w = -9 ∨ ∃ i, i < N ∧ upd (m.1 29) wo (nI b) w = nI i
      by_cases z : w = wo
      · rw [z, upd_s]; exact Or.inr ⟨b, hb, rfl⟩
      · rw [upd_n _ _ z]; exact hI.2 w (by omega)
end STEPS7
