def b1_ (v : Int32) : Int32 := v - ((Int32.toUInt32 v >>> (Int32.toUInt32 (1 : Int32) &&& Int32.toUInt32 31)).toInt32 &&& (1431655765 : Int32))
def b2_ (v : Int32) : Int32 := (v &&& (858993459 : Int32)) + ((Int32.toUInt32 v >>> (Int32.toUInt32 (2 : Int32) &&& Int32.toUInt32 31)).toInt32 &&& (858993459 : Int32))
def b3_ (v : Int32) : Int32 := (v + (Int32.toUInt32 v >>> (Int32.toUInt32 (4 : Int32) &&& Int32.toUInt32 31)).toInt32) &&& (252645135 : Int32)
def b4_ (v : Int32) : Int32 := v + (Int32.toUInt32 v >>> (Int32.toUInt32 (8 : Int32) &&& Int32.toUInt32 31)).toInt32
def b5_ (v : Int32) : Int32 := v + (Int32.toUInt32 v >>> (Int32.toUInt32 (16 : Int32) &&& Int32.toUInt32 31)).toInt32
theorem bc_parts (v : Int32) : bc v = b5_ (b4_ (b3_ (b2_ (b1_ v)))) &&& (63 : Int32) := rfl
theorem b1_N {a : Nat} (h : a < 2 ^ 31) : b1_ (nI a) = nI (sw1 4 a) := by
  unfold b1_ sw1
  rw [pk_ushrN (by omega) 1 1 (by decide), show (1431655765 : Int32) = nI (mk5 4) from by decide, fa_and]
  exact pk_sub (Nat.le_trans Nat.and_le_left (Nat.div_le_self _ _))
theorem b2_N {a : Nat} (h : a < 2 ^ 31) : b2_ (nI a) = nI (sw2 4 a) := by
  unfold b2_ sw2
  rw [pk_ushrN (by omega) 2 2 (by decide), show (858993459 : Int32) = nI (mk3 4) from by decide, fa_and, fa_and, nI_add]
theorem b3_N {a : Nat} (h : a < 2 ^ 31) : b3_ (nI a) = nI (sw3 4 a) := by
  unfold b3_ sw3
  rw [pk_ushrN (by omega) 4 4 (by decide), show (252645135 : Int32) = nI (mkF 4) from by decide, nI_add, fa_and]
theorem b4_N {a : Nat} (h : a < 2 ^ 31) : b4_ (nI a) = nI (a + a / 256) := by
  unfold b4_
  rw [pk_ushrN (by omega) 8 8 (by decide), nI_add]
theorem b5_N {a : Nat} (h : a < 2 ^ 31) : b5_ (nI a) = nI (a + a / 65536) := by
  unfold b5_
  rw [pk_ushrN (by omega) 16 16 (by decide), nI_add]
theorem sw_small {a : Nat} (h : a < 65536) : sw2 4 (sw1 4 a) = 256 * t8 (a / 256) + t8 (a % 256) ∧ swA 4 a = 256 * p8 (a / 256) + p8 (a % 256) := by
  have e : a = 256 * (a / 256) + a % 256 := by omega
  have e2 : a / 256 = 256 * 0 + a / 256 := by omega
  have hq : a / 256 < 256 := by omega
  constructor
  · rw [e, swT 3 _ _ (by omega)]
    have : sw2 3 (sw1 3 (a / 256)) = t8 (a / 256) := by
      have := swT 2 0 (a / 256) hq
      rw [← e2] at this
      rw [this, show sw2 2 (sw1 2 0) = 0 from by decide]; omega
    rw [this]
    congr 1
    · congr 2; omega
    · congr 1; omega
  · rw [e, swA_s 3 _ _ (by omega) (by omega)]
    have : swA 3 (a / 256) = p8 (a / 256) := by
      have := swA_s 2 0 (a / 256) hq (by decide)
      rw [← e2] at this
      rw [this, show swA 2 0 = 0 from by decide]; omega
    rw [this]
    congr 1
    · congr 2; omega
    · congr 1; omega
theorem sum2 {P B : Nat} (hP : P ≤ 8) (hB : B ≤ 8) : (256 * P + B + (256 * P + B) / 256 + (256 * P + B + (256 * P + B) / 256) / 65536) % 2 ^ 6 = P + B := by
  have e1 : (256 * P + B) / 256 = P := by omega
  rw [e1]
  have e2 : (256 * P + B + P) / 65536 = 0 := by omega
  rw [e2]
  omega
theorem bc_N {a : Nat} (h : a < 65536) : bc (nI a) = nI (p8 (a / 256) + p8 (a % 256)) := by
  obtain ⟨h1, h2⟩ := sw_small h
  have t1 := (by_3 ⟨a / 256, by omega⟩).2.1
  have t2 := (by_3 ⟨a % 256, by omega⟩).2.1
  dsimp only at t1 t2
  have q1 := p8_le (b := a / 256) (by omega)
  have q2 := p8_le (b := a % 256) (by omega)
  have s1 : sw1 4 a ≤ a := Nat.sub_le _ _
  rw [bc_parts, b1_N (by omega), b2_N (by omega), b3_N (by omega)]
  show b5_ (b4_ (nI (swA 4 a))) &&& 63 = _
  rw [h2, b4_N (by omega), b5_N (by omega), show (63 : Int32) = nI (2 ^ 6 - 1) from by decide, fa_mask]
  congr 1
  exact sum2 q1 q2
theorem p8_u (b : Nat) : p8 b = b % 2 + b / 2 % 2 + b / 4 % 2 + b / 8 % 2 + b / 16 % 2 + b / 32 % 2 + b / 64 % 2 + b / 128 % 2 := by
  have t : ∀ k, (if b.testBit k = true then 1 else 0) = b / 2 ^ k % 2 := by
    intro k
    rw [Nat.testBit_eq_decide_div_mod_eq]
    by_cases h : b / 2 ^ k % 2 = 1
    · simp [h]
    · have : b / 2 ^ k % 2 = 0 := by omega
      simp [this]
  unfold p8
  simp only [fb_ct, t]
  simp
theorem bm_N (a : Nat) (h : a < 2 ^ 31) : ∀ k, k ≤ 16 → bm (nI a) k = nI (fb_sm (fun j => a / 2 ^ j % 2) k)
  | 0, _ => rfl
  | k + 1, hk => by
    have hs : ((nI k &&& 31 : Int32).toBitVec.smod 32).toNat = k := s_l k (by omega)
    rw [bm, bm_N a h k (by omega), pk_shrN h _ k hs, show (1 : Int32) = nI (2 ^ 1 - 1) from by decide, fa_mask, nI_add]
    rfl
theorem bm_bc {a : Nat} (h : a < 65536) : bm (nI a) 16 = bc (nI a) := by
  rw [bm_N a (by omega) 16 (by omega), bc_N h, p8_u, p8_u]
  congr 1
  simp only [fb_sm]
  simp
  omega
theorem bits_L {v : Int32} {K : Int32 → Int32 → iw_M → Option (Int32 × iw_M)} : ∀ (k n : Nat) (z : iw_M), k ≤ 16 → 16 < n + k → fX9_bits_L4 v K n (bm v k) (nI k) z = K (bm v 16) (nI 16) z := by
  intro k n
  induction n generalizing k with
  | zero => intro z h1 h2; omega
  | succ n ih =>
    intro z h1 h2
    rw [fX9_bits_L4, show (16 : Int32) = nI 16 from rfl]
    by_cases h : k = 16
    · subst h; rw [if_pos (nI_le (Nat.le_refl _) (by decide))]
    · rw [if_neg (by rw [nI_leI (by decide) (by omega)]; omega), nI_1]
      exact ih (k + 1) z (by omega) (by omega)
theorem bitsM {a : Nat} (h : a < 65536) (z : iw_M) : fX9_bits (nI a) z = some (bc (nI a), z) := by
  unfold fX9_bits
  have := bits_L (v := nI a) (K := fun x1_1 x2_1 z_1 => some (x1_1, z_1)) 0 iw_fu z (by omega) (by decide)
  rw [show (0 : Int32) = nI 0 from rfl]
  rw [show bm (nI a) 0 = nI 0 from rfl] at this
  rw [this, bm_bc h]
theorem lkM {a b : Nat} (ha : a < 65536) (hb : b < 65536) (z : iw_M) : fX9_likeness (nI a) (nI b) z = some (lk (nI a) (nI b), z) := by
  unfold fX9_likeness lk
  rw [nx_and, nx_xor]
  rw [bitsM (Nat.and_lt_two_pow (n := 16) a hb), Option.bind_some, bitsM (Nat.xor_lt_two_pow (n := 16) ha hb), Option.bind_some]
def pS : Nat → Nat → Nat
  | 0, _ => 0
  | k + 1, x => 256 * pS k (x / 256) + p8 (x % 256)
theorem swA_pS : ∀ (k x : Nat), x < 256 ^ k → swA k x = pS k x
  | 0, x, h => by
    have : x = 0 := by simpa using h
    subst this; decide
  | k + 1, x, h => by
    have hq : x / 256 < 256 ^ k := by
      rw [Nat.pow_succ] at h
      exact (Nat.div_lt_iff_lt_mul (by decide)).mpr h
    have e : x = 256 * (x / 256) + x % 256 := by omega
    rw [pS, ← swA_pS k (x / 256) hq, ← swA_s k (x / 256) (x % 256) (by omega) hq, ← e]
def pT : Nat → Nat → Nat
  | 0, _ => 0
  | k + 1, x => p8 (x % 256) + pT k (x / 256)
theorem ct_pT : ∀ (k x : Nat), fb_ct x.testBit (8 * k) = pT k x
  | 0, x => rfl
  | k + 1, x => by
    have e : x = 256 * (x / 256) + x % 256 := by omega
    rw [pT, ← ct_pT k (x / 256), show 8 * (k + 1) = 8 + 8 * k by omega]
    rw [← ct_bytes (x / 256) (x % 256) (8 * k) (by omega), ← e]
set_option maxHeartbeats 4000000 in
theorem sum8 {c0 c1 c2 c3 c4 c5 c6 c7 : Nat} (h0 : c0 ≤ 8) (h1 : c1 ≤ 8) (h2 : c2 ≤ 8) (h3 : c3 ≤ 8) (h4 : c4 ≤ 8) (h5 : c5 ≤ 8) (h6 : c6 ≤ 8) (h7 : c7 ≤ 8) {y y1 y2 y3 : Nat} (ey : y = 256 * (256 * (256 * (256 * (256 * (256 * (256 * (256 * 0 + c7) + c6) + c5) + c4) + c3) + c2) + c1) + c0) (e1 : y1 = y + y / 256) (e2 : y2 = y1 + y1 / 65536) (e3 : y3 = y2 + y2 / 4294967296) : y3 % 2 ^ 7 = c0 + (c1 + (c2 + (c3 + (c4 + (c5 + (c6 + (c7 + 0))))))) ∧ y2 < 2 ^ 63 ∧ y1 < 2 ^ 63 ∧ y < 2 ^ 63 ∧ y3 < 2 ^ 63 := by
  have a1 : y / 256 = c1 + 256 * c2 + 65536 * c3 + 16777216 * c4 + 4294967296 * c5 + 1099511627776 * c6 + 281474976710656 * c7 := by omega
  rw [a1] at e1
  have f1 : y1 = (c0 + c1) + 256 * (c1 + c2) + 65536 * (c2 + c3) + 16777216 * (c3 + c4) + 4294967296 * (c4 + c5) + 1099511627776 * (c5 + c6) + 281474976710656 * (c6 + c7) + 72057594037927936 * c7 := by omega
  have a2 : y1 / 65536 = (c2 + c3) + 256 * (c3 + c4) + 65536 * (c4 + c5) + 16777216 * (c5 + c6) + 4294967296 * (c6 + c7) + 1099511627776 * c7 := by omega
  rw [a2] at e2
  have f2 : y2 = (c0 + c1 + c2 + c3) + 256 * (c1 + c2 + c3 + c4) + 65536 * (c2 + c3 + c4 + c5) + 16777216 * (c3 + c4 + c5 + c6) + 4294967296 * (c4 + c5 + c6 + c7) + 1099511627776 * (c5 + c6 + c7) + 281474976710656 * (c6 + c7) + 72057594037927936 * c7 := by omega
  have a3 : y2 / 4294967296 = (c4 + c5 + c6 + c7) + 256 * (c5 + c6 + c7) + 65536 * (c6 + c7) + 16777216 * c7 := by omega
  rw [a3] at e3
  have f3 : y3 = (c0 + (c1 + (c2 + (c3 + (c4 + (c5 + (c6 + (c7 + 0)))))))) + 128 * (2 * (c1 + c2 + c3 + c4 + (c5 + c6 + c7)) + 512 * (c2 + c3 + c4 + c5 + (c6 + c7)) + 131072 * (c3 + c4 + c5 + c6 + c7) + 33554432 * (c4 + c5 + c6 + c7) + 8589934592 * (c5 + c6 + c7) + 2199023255552 * (c6 + c7) + 562949953421312 * c7) := by
    rw [e3, f2]; clear e3 f2 a3 e2 a2 f1 e1 a1 ey; omega
  refine ⟨?_, ?_, ?_, ?_, ?_⟩
  · rw [f3]; clear e3 f2 a3 e2 a2 f1 e1 a1 ey f3; omega
  · rw [f2]; clear e3 f2 a3 e2 a2 f1 e1 a1 ey f3; omega
  · rw [f1]; clear e3 f2 a3 e2 a2 f1 e1 a1 ey f3; omega
  · rw [ey]; clear e3 f2 a3 e2 a2 f1 e1 a1 ey f3; omega
  · rw [f3]; clear e3 f2 a3 e2 a2 f1 e1 a1 ey f3; omega
def l1_ (v : Int64) : Int64 := v - ((Int64.toUInt64 v >>> ((Int32.toInt64 (1 : Int32)).toUInt64 &&& Int64.toUInt64 63)).toInt64 &&& (6148914691236517205 : Int64))
def l2_ (v : Int64) : Int64 := (v &&& (3689348814741910323 : Int64)) + ((Int64.toUInt64 v >>> ((Int32.toInt64 (2 : Int32)).toUInt64 &&& Int64.toUInt64 63)).toInt64 &&& (3689348814741910323 : Int64))
def l3_ (v : Int64) : Int64 := (v + (Int64.toUInt64 v >>> ((Int32.toInt64 (4 : Int32)).toUInt64 &&& Int64.toUInt64 63)).toInt64) &&& (1085102592571150095 : Int64)
def l4_ (v : Int64) : Int64 := v + (Int64.toUInt64 v >>> ((Int32.toInt64 (8 : Int32)).toUInt64 &&& Int64.toUInt64 63)).toInt64
def l5_ (v : Int64) : Int64 := v + (Int64.toUInt64 v >>> ((Int32.toInt64 (16 : Int32)).toUInt64 &&& Int64.toUInt64 63)).toInt64
def l6_ (v : Int64) : Int64 := v + (Int64.toUInt64 v >>> ((Int32.toInt64 (32 : Int32)).toUInt64 &&& Int64.toUInt64 63)).toInt64
theorem bl_parts (v : Int64) (z : iw_M) : fJ13_bitCount_95d88 v z = some ((l6_ (l5_ (l4_ (l3_ (l2_ (l1_ v)))))).toInt32 &&& (127 : Int32), z) := rfl
theorem l1_N {a : Nat} (h : a < 2 ^ 64) : l1_ (lN a) = lN (sw1 8 a) := by
  unfold l1_ sw1
  rw [g_ushr (k := 1) (p := 2) (by decide) (by decide) (by decide) h, show (6148914691236517205 : Int64) = lN (mk5 8) from by decide, fb_andL]
  exact lN_sub (Nat.le_trans Nat.and_le_left (Nat.div_le_self _ _))
theorem l2_N {a : Nat} (h : a < 2 ^ 64) : l2_ (lN a) = lN (sw2 8 a) := by
  unfold l2_ sw2
  rw [g_ushr (k := 2) (p := 4) (by decide) (by decide) (by decide) h, show (3689348814741910323 : Int64) = lN (mk3 8) from by decide, fb_andL, fb_andL, lN_add]
theorem l3_N {a : Nat} (h : a < 2 ^ 64) : l3_ (lN a) = lN (sw3 8 a) := by
  unfold l3_ sw3
  rw [g_ushr (k := 4) (p := 16) (by decide) (by decide) (by decide) h, show (1085102592571150095 : Int64) = lN (mkF 8) from by decide, lN_add, fb_andL]
theorem l4_N {a : Nat} (h : a < 2 ^ 64) : l4_ (lN a) = lN (a + a / 256) := by
  unfold l4_
  rw [g_ushr (k := 8) (p := 256) (by decide) (by decide) (by decide) h, lN_add]
theorem l5_N {a : Nat} (h : a < 2 ^ 64) : l5_ (lN a) = lN (a + a / 65536) := by
  unfold l5_
  rw [g_ushr (k := 16) (p := 65536) (by decide) (by decide) (by decide) h, lN_add]
theorem l6_N {a : Nat} (h : a < 2 ^ 64) : l6_ (lN a) = lN (a + a / 4294967296) := by
  unfold l6_
  rw [g_ushr (k := 32) (p := 4294967296) (by decide) (by decide) (by decide) h, lN_add]
theorem mk3_8 (x : Nat) : x &&& mk3 8 < 2 ^ 62 := Nat.and_lt_two_pow (n := 62) x (by decide)
theorem blN {a : Nat} (h : a < 2 ^ 64) (z : iw_M) : fJ13_bitCount_95d88 (lN a) z = some (nI (fb_ct a.testBit 64), z) := by
  have s1 : sw1 8 a ≤ a := Nat.sub_le _ _
  have s2 : sw2 8 (sw1 8 a) < 2 ^ 64 := by
    have x1 := mk3_8 (sw1 8 a)
    have x2 := mk3_8 (sw1 8 a / 4)
    unfold sw2
    omega
  rw [bl_parts, l1_N h, l2_N (by omega), l3_N s2]
  have eA : sw3 8 (sw2 8 (sw1 8 a)) = pS 8 a := swA_pS 8 a (by simpa using h)
  rw [eA]
  obtain ⟨r1, r2, r3, r4, r5⟩ := sum8 (c0 := p8 (a % 256)) (c1 := p8 (a / 256 % 256)) (c2 := p8 (a / 256 / 256 % 256)) (c3 := p8 (a / 256 / 256 / 256 % 256)) (c4 := p8 (a / 256 / 256 / 256 / 256 % 256)) (c5 := p8 (a / 256 / 256 / 256 / 256 / 256 % 256)) (c6 := p8 (a / 256 / 256 / 256 / 256 / 256 / 256 % 256)) (c7 := p8 (a / 256 / 256 / 256 / 256 / 256 / 256 / 256 % 256)) (p8_le (by omega)) (p8_le (by omega)) (p8_le (by omega)) (p8_le (by omega)) (p8_le (by omega)) (p8_le (by omega)) (p8_le (by omega)) (p8_le (by omega)) (y := pS 8 a) rfl rfl rfl rfl
  rw [l4_N (by omega), l5_N (by omega), l6_N (by omega), lN_i, show (127 : Int32) = nI (2 ^ 7 - 1) from by decide, fa_mask, r1]
  rw [show (64 : Nat) = 8 * 8 from rfl, ct_pT]
  rfl
