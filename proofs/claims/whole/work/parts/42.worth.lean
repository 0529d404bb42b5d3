theorem i32_ss (a h x : Int32) : a - (h + x) = a - h - x := by grind
def wst2 (tu : Nat → iw_T) (un : Nat → Int32) (b : Nat) (a : Int32) : Int32 := a + svV false (tu b) * un b / 100
def wthS (tu : Nat → iw_T) (un hm : Nat → Int32) (kd : Nat → Nat) (N f : Nat) : Int32 := if 0 ≤ lp (wst2 tu un) 10 0 0 - harmS hm kd N f then lp (wst2 tu un) 10 0 0 - harmS hm kd N f else 0
theorem worthX {kf N me f : Nat} {kd : Nat → Nat} {x : iw_M} (hkf : 12 ≤ kf ∧ kf + 1 < 32 ∧ kf ≠ 24) (hN : N ≤ 40) (hme : me ≤ 200) (hs8 : x.1 8 10 = nI N) (hs : x.1 26 4 = nI me) (hk : ∀ j, j < N → x.1 (kf + 1) j = nI (kd j)) (hd : Kd N kd) (hf : f < N) (hm : msOk (x.1 27) (x.1 28) (x.1 30) me N) : ∃ z', fX8_worthOf kf (nI f) x = some (wthS (fun b => tal (x.1 27) (x.1 28) (x.1 29) (x.1 30) kd me f b) (x.1 25) (x.1 17) kd N f, z') ∧ Fr x z' := by
  obtain ⟨z1, e1, e2, e3⟩ := gatherX (kf := kf) (by omega) hN hme hs hk hd hf hm
  unfold fX8_worthOf
  rw [e1, Option.bind_some]
  refine ⟨z1, ?_, e2⟩
  have L := fun (K : Int32 → Int32 → iw_M → Option (Int32 × iw_M)) => (loopF (fun n b a => fX8_worthOf_L18 kf (nI f) K n a (nI b) z1) (fun a => K a (nI 10) z1) 10 (wst2 (fun b => tal (x.1 27) (x.1 28) (x.1 29) (x.1 30) kd me f b) (x.1 25)) (fun _ _ => True) (fun n a _ => by
      rw [fX8_worthOf_L18, show (10 : Int32) = nI 10 from rfl, if_pos (nI_le (Nat.le_refl _) (by omega))]) (fun n b a hb _ => by
      rw [fX8_worthOf_L18, show (10 : Int32) = nI 10 from rfl, if_neg (by rw [nI_leI (by omega) (by omega)]; omega), beyondX hb hme (e3 b hb).1 (e3 b hb).2, Option.bind_some, if_pos (ok_nI hb (by decide)), if_neg (by decide), cl_nI (by omega), nI_1, e2.2 25 (by omega)]
      exact ⟨rfl, trivial⟩) iw_fu 0 0 (by omega) (by unfold iw_fu; omega) trivial).1
  refine Eq.trans (L _) ?_
  rw [harmX hN z1 (by rw [e2.2 8 (by omega)]; exact hs8) (fun j hj => by rw [e2.2 (kf + 1) (by omega)]; exact hk j hj) hd hf, Option.bind_some, mx0, e2.2 17 (by omega)]
  rfl
theorem worthM {N me f : Nat} {kd : Nat → Nat} (hN : N ≤ 40) (hme : me ≤ 200) (m : iw_M) (hs : m.1 0 3 = nI me) (hs2 : m.1 0 2 = nI N) (hk : ∀ j, j < N → m.1 31 j = nI (kd j)) (hd : Kd N kd) (hf : f < N) (hm : msOk (m.1 21) (m.1 22) (m.1 23) me N) : fX9_worthOf (nI f) m = some (wthS (fun b => tal (m.1 21) (m.1 22) (m.1 24) (m.1 23) kd me f b) (m.1 20) (m.1 15) kd N f, m) := by
  unfold fX9_worthOf
  have L := fun (K : Int32 → Int32 → iw_M → Option (Int32 × iw_M)) => (loopF (fun n b a => fX9_worthOf_L4 (nI f) K n a (nI b) m) (fun a => K a (nI 10) m) 10 (wst2 (fun b => tal (m.1 21) (m.1 22) (m.1 24) (m.1 23) kd me f b) (m.1 20)) (fun _ _ => True) (fun n a _ => by
      rw [fX9_worthOf_L4, show (10 : Int32) = nI 10 from rfl, if_pos (nI_le (Nat.le_refl _) (by omega))]) (fun n b a hb _ => by
      rw [fX9_worthOf_L4, show (10 : Int32) = nI 10 from rfl, if_neg (by rw [nI_leI (by omega) (by omega)]; omega), (savesM hN hme m hs hk hd hf hb hm false 0 rfl).1, Option.bind_some, if_pos (ok_nI hb (by decide)), if_neg (by decide), cl_nI (by omega), nI_1]
      exact ⟨rfl, trivial⟩) iw_fu 0 0 (by omega) (by unfold iw_fu; omega) trivial).1
  refine Eq.trans (L _) ?_
  have L2 := fun (K : Int32 → Int32 → iw_M → Option (Int32 × iw_M)) (s : Int32) => (loopF (fun n j a => fX9_worthOf_L38 (nI f) K n (s - a) (nI j) m) (fun a => K (s - a) (nI N) m) N (hmst (m.1 15) kd f) (fun _ _ => True) (fun n a _ => by
      rw [fX9_worthOf_L38, hs2, if_pos (nI_le (Nat.le_refl _) (by omega))]) (fun n j a hj _ => by
      have b1 := (hd j hj).1
      rw [fX9_worthOf_L38, hs2, if_neg (by rw [nI_leI (by omega) (by omega)]; omega), if_pos (ok_nI (by omega) (by decide)), cl_nI (by omega), hk j hj, nI_1]
      by_cases c : kd j = f
      · rw [if_pos (by rw [c]), if_pos (ok_nI (by omega) (by decide)), show hmst (m.1 15) kd f j a = a + m.1 15 j from if_pos c, i32_ss]
        exact ⟨rfl, trivial⟩
      · rw [if_neg (fun q => c ((nI_eq (by omega) (by omega)).mp q)), show hmst (m.1 15) kd f j a = a from if_neg c]
        exact ⟨rfl, trivial⟩) iw_fu 0 0 (by omega) (by unfold iw_fu; omega) trivial).1
  have sk : lp (hmst (m.1 15) kd f) (N - 0) 0 0 = harmS (m.1 15) kd N f := lp_skip (t := f) (f - 0) 0 rfl (by omega) (by omega) (fun j _ hj => by
    have := (hd j (by omega)).1
    unfold hmst
    rw [if_neg (by omega)])
  have s0 : ∀ s : Int32, s - 0 = s := fun s => by grind
  have := L2 (fun x2_3 x3_3 z_3 => (if 0 ≤ x2_3 then some (x2_3, z_3) else some ((0 : Int32), z_3))) (lp (wst2 (fun b => tal (m.1 21) (m.1 22) (m.1 24) (m.1 23) kd me f b) (m.1 20)) (10 - 0) 0 0)
  rw [s0, sk] at this
  refine Eq.trans this ?_
  unfold wthS
  by_cases c : 0 ≤ lp (wst2 (fun b => tal (m.1 21) (m.1 22) (m.1 24) (m.1 23) kd me f b) (m.1 20)) 10 0 0 - harmS (m.1 15) kd N f
  · rw [if_pos c, if_pos c]
  · rw [if_neg c, if_neg c]
def payS (w p c : Int32) : Int32 := iw_min (w * p / 100) c
theorem payX (w p c : Int32) (z : iw_M) : fX8_payFor w p c z = some (payS w p c, z) := by
  unfold fX8_payFor
  rw [if_neg (by decide)]
  rfl
theorem payM {v1 p c w : Int32} {m m' : iw_M} (h : fX9_worthOf v1 m = some (w, m')) : fX9_pay v1 p c m = some (payS w p c, m') := by
  unfold fX9_pay payS iw_min
  rw [h, Option.bind_some, if_neg (by decide)]
  dsimp only
  by_cases d : w * p / 100 ≤ c
  · rw [if_pos d, if_neg ((nlt_le _ _).mpr d)]
  · rw [if_neg d, if_pos ((nle_lt _ _).mp d)]
/-- the rule in force on a day -/
def rst (rd : Nat → Int32) (d : Int32) (i : Nat) : Option Nat → Option Nat
  | none => if d < rd i then none else some i
  | some b => if d < rd i then some b else if rd i < rd b then some b else some i
def rulS (rd : Nat → Int32) (d : Int32) (ru : Nat) : Option Nat := lp (rst rd d) ru 0 none
theorem rulX {ru : Nat} (hr : ru ≤ 20) (x : iw_M) (hs : x.1 38 4 = nI ru) (d : Int32) : fX5_inForceOn d x = some (oI (rulS (x.1 39) d ru), x) ∧ ∀ b, rulS (x.1 39) d ru = some b → b < ru := by
  unfold fX5_inForceOn
  exact loopF (fun n i b => fX5_inForceOn_L5 d (fun x2_1 x3_1 z_1 => some (x2_1, z_1)) n (oI b) (nI i) x) (fun b => some (oI b, x)) ru (rst (x.1 39) d) (fun _ b => ∀ c, b = some c → c < ru) (fun n a ha => by
      rw [fX5_inForceOn_L5, hs, if_pos (nI_le (Nat.le_refl _) (by omega))]) (fun n i a hi ha => by
      rw [fX5_inForceOn_L5, hs, if_neg (by rw [nI_leI (by omega) (by omega)]; omega), if_pos (ok_nI (by omega) (by decide)), cl_nI (by omega), nI_1]
      cases a with
      | none =>
        rw [show oI none = -9 from rfl]
        by_cases c : d < x.1 39 i
        · rw [if_pos c, show rst (x.1 39) d i none = none from if_pos c]
          exact ⟨rfl, ha⟩
        · rw [if_neg c, if_pos rfl, show rst (x.1 39) d i none = some i from if_neg c]
          exact ⟨rfl, fun c h => by cases h; exact hi⟩
      | some b =>
        have hb := ha b rfl
        rw [show oI (some b) = nI b from rfl]
        by_cases c : d < x.1 39 i
        · rw [if_pos c, show rst (x.1 39) d i (some b) = some b from if_pos c]
          exact ⟨rfl, ha⟩
        · rw [if_neg c, if_neg (nI_n9 (b := b) (by omega)), if_pos (ok_nI (by omega) (by decide)), if_pos (ok_nI (show b < 20 by omega) (by decide)), cl_nI (by omega)]
          by_cases e : x.1 39 i < x.1 39 b
          · rw [if_pos e, show rst (x.1 39) d i (some b) = some b from by unfold rst; simp only; rw [if_neg c, if_pos e]]
            exact ⟨rfl, ha⟩
          · rw [if_neg e, show rst (x.1 39) d i (some b) = some i from by unfold rst; simp only; rw [if_neg c, if_neg e]]
            exact ⟨rfl, fun c h => by cases h; exact hi⟩) iw_fu 0 none (by omega) (by unfold iw_fu; omega) (fun c h => by cases h)
theorem rulM {ru : Nat} (hr : ru ≤ 20) (m : iw_M) (hs : m.1 0 4 = nI ru) (d : Int32) : fX9_ruleFor_L17 d (fun x3_2 x4_2 z_2 => some (x3_2, z_2)) iw_fu (-9 : Int32) (0 : Int32) m = some (oI (rulS (m.1 25) d ru), m) := by
  exact (loopF (fun n i b => fX9_ruleFor_L17 d (fun x3_2 x4_2 z_2 => some (x3_2, z_2)) n (oI b) (nI i) m) (fun b => some (oI b, m)) ru (rst (m.1 25) d) (fun _ b => ∀ c, b = some c → c < ru) (fun n a ha => by
      rw [fX9_ruleFor_L17, hs, if_pos (nI_le (Nat.le_refl _) (by omega))]) (fun n i a hi ha => by
      rw [fX9_ruleFor_L17, hs, if_neg (by rw [nI_leI (by omega) (by omega)]; omega), if_pos (ok_nI (by omega) (by decide)), cl_nI (by omega), nI_1]
      cases a with
      | none =>
        rw [show oI none = -9 from rfl]
        by_cases c : d < m.1 25 i
        · rw [if_pos c, show rst (m.1 25) d i none = none from if_pos c]
          exact ⟨rfl, ha⟩
        · rw [if_neg c, if_pos rfl, show rst (m.1 25) d i none = some i from if_neg c]
          exact ⟨rfl, fun c h => by cases h; exact hi⟩
      | some b =>
        have hb := ha b rfl
        rw [show oI (some b) = nI b from rfl]
        by_cases c : d < m.1 25 i
        · rw [if_pos c, show rst (m.1 25) d i (some b) = some b from if_pos c]
          exact ⟨rfl, ha⟩
        · rw [if_neg c, if_neg (nI_n9 (b := b) (by omega)), if_pos (ok_nI (by omega) (by decide)), if_pos (ok_nI (show b < 20 by omega) (by decide)), cl_nI (by omega)]
          by_cases e : m.1 25 i < m.1 25 b
          · rw [if_pos e, show rst (m.1 25) d i (some b) = some b from by unfold rst; simp only; rw [if_neg c, if_pos e]]
            exact ⟨rfl, ha⟩
          · rw [if_neg e, show rst (m.1 25) d i (some b) = some i from by unfold rst; simp only; rw [if_neg c, if_neg e]]
            exact ⟨rfl, fun c h => by cases h; exact hi⟩) iw_fu 0 none (by omega) (by unfold iw_fu; omega) (fun c h => by cases h)).1
