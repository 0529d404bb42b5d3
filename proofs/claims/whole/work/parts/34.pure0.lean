/-! PURE 0: numbers, memories -/
theorem ok_nI {i N : Nat} (h : i < N) (hN : N < 2 ^ 31) : iw_ok (nI i) N = true := by
  have h1 : ¬ nI i < 0 := nI_pos (by omega)
  simp only [iw_ok, Bool.and_eq_true, Bool.not_eq_true', decide_eq_false_iff_not, decide_eq_true_eq]
  exact ⟨h1, by rw [nI_clamp (by omega)]; exact h⟩
theorem cl_nI {i : Nat} (h : i < 2 ^ 31) : Int32.toNatClampNeg (nI i) = i := nI_clamp h
theorem wI_2 (z : iw_M) (k j : Nat) (v : Int32) : (iw_wI z k j v).2 = z.2 := rfl
theorem wL_1 (z : iw_M) (k j : Nat) (v : Int64) : (iw_wL z k j v).1 = z.1 := rfl
theorem wI_s (z : iw_M) (k j : Nat) (v : Int32) : (iw_wI z k j v).1 k = upd (z.1 k) j v := by simp [iw_wI]
theorem wI_n (z : iw_M) {k a : Nat} (j : Nat) (v : Int32) (h : a ≠ k) : (iw_wI z k j v).1 a = z.1 a := by simp [iw_wI, h]
theorem wL_s (z : iw_M) (k j : Nat) (v : Int64) : (iw_wL z k j v).2 k = vp_updL (z.2 k) j v := by simp [iw_wL]
theorem wL_n (z : iw_M) {k a : Nat} (j : Nat) (v : Int64) (h : a ≠ k) : (iw_wL z k j v).2 a = z.2 a := by simp [iw_wL, h]
theorem upd_s (f : Nat → Int32) (j : Nat) (v : Int32) : upd f j v j = v := by simp [upd]
theorem upd_n (f : Nat → Int32) {j a : Nat} (v : Int32) (h : a ≠ j) : upd f j v a = f a := by simp [upd, h]
/-- the count of bits, as the class has it -/
def bc (v : Int32) : Int32 := match fJ6_bitCount_0f7a4 v ((fun _ _ => 0), (fun _ _ => 0)) with
  | some q => q.1
  | none => 0
theorem bc_eq (v : Int32) (z : iw_M) : fJ6_bitCount_0f7a4 v z = some (bc v, z) := rfl
def lk (a b : Int32) : Int32 := 3 * bc (a &&& b) - bc (a ^^^ b)
theorem lkX (a b : Int32) (z : iw_M) : fX8_likeness a b z = some (lk a b, z) := rfl
theorem lk_comm (a b : Int32) : lk a b = lk b a := by
  unfold lk
  rw [Int32.and_comm, Int32.xor_comm]
/-- the count of 16 bits, as the reference has it -/
def bm (v : Int32) : Nat → Int32
  | 0 => 0
  | k + 1 => bm v k + ((v >>> (nI k &&& 31)) &&& 1)
/-- bytes -/
theorem and_bytes {a b c d : Nat} (hb : b < 256) (hd : d < 256) : (256 * a + b) &&& (256 * c + d) = 256 * (a &&& c) + (b &&& d) := by
  have h := Nat.and_lt_two_pow b (n := 8) hd
  apply Nat.eq_of_testBit_eq
  intro i
  rw [Nat.testBit_and, show (256 : Nat) = 2 ^ 8 from rfl, Nat.testBit_two_pow_mul_add a hb, Nat.testBit_two_pow_mul_add c hd, Nat.testBit_two_pow_mul_add (a &&& c) h]
  by_cases hi : i < 8
  · rw [if_pos hi, if_pos hi, if_pos hi, Nat.testBit_and]
  · rw [if_neg hi, if_neg hi, if_neg hi, Nat.testBit_and]
def mk5 : Nat → Nat
  | 0 => 0
  | k + 1 => 256 * mk5 k + 0x55
def mk3 : Nat → Nat
  | 0 => 0
  | k + 1 => 256 * mk3 k + 0x33
def mkF : Nat → Nat
  | 0 => 0
  | k + 1 => 256 * mkF k + 0x0f
def sw1 (k x : Nat) : Nat := x - ((x / 2) &&& mk5 k)
def sw2 (k x : Nat) : Nat := (x &&& mk3 k) + ((x / 4) &&& mk3 k)
def sw3 (k x : Nat) : Nat := (x + x / 16) &&& mkF k
def t8 (b : Nat) : Nat := sw2 1 (sw1 1 b)
def p8 (b : Nat) : Nat := fb_ct b.testBit 8
theorem by_1 : ∀ b : Fin 256, ∀ r : Fin 2, (128 * r.val + b.val / 2) &&& 0x55 = (b.val / 2) &&& 0x55 := by decide +kernel
theorem by_2 : ∀ b : Fin 256, ∀ r : Fin 4, (64 * r.val + b.val / 4) &&& 0x33 = (b.val / 4) &&& 0x33 := by decide +kernel
theorem by_3 : ∀ b : Fin 256, sw1 1 b.val < 256 ∧ t8 b.val ≤ 0x44 ∧ t8 b.val % 16 ≤ 4 ∧ sw3 1 (t8 b.val) = p8 b.val ∧ p8 b.val ≤ 8 := by decide +kernel
theorem by_4 : ∀ c : Fin 69, ∀ r : Fin 5, (c.val + (16 * r.val + c.val / 16)) &&& 0x0f = (c.val + c.val / 16) &&& 0x0f ∧ c.val + (16 * r.val + c.val / 16) < 256 := by decide +kernel
theorem sw1_s (k q b : Nat) (hb : b < 256) : sw1 (k + 1) (256 * q + b) = 256 * sw1 k q + sw1 1 b := by
  have e : (256 * q + b) / 2 = 256 * (q / 2) + (128 * (q % 2) + b / 2) := by omega
  have h1 := by_1 ⟨b, hb⟩ ⟨q % 2, by omega⟩
  dsimp only at h1
  unfold sw1
  rw [e]
  show _ - ((256 * (q / 2) + (128 * (q % 2) + b / 2)) &&& (256 * mk5 k + 0x55)) = _
  rw [and_bytes (by omega) (by omega), h1]
  have a1 : (q / 2) &&& mk5 k ≤ q / 2 := Nat.and_le_left
  have a2 : (b / 2) &&& 0x55 ≤ b / 2 := Nat.and_le_left
  show _ = 256 * (q - ((q / 2) &&& mk5 k)) + (b - ((b / 2) &&& 0x55))
  omega
theorem sw2_s (k q c : Nat) (hc : c < 256) : sw2 (k + 1) (256 * q + c) = 256 * sw2 k q + sw2 1 c := by
  have e : (256 * q + c) / 4 = 256 * (q / 4) + (64 * (q % 4) + c / 4) := by omega
  have h1 := by_2 ⟨c, hc⟩ ⟨q % 4, by omega⟩
  dsimp only at h1
  unfold sw2
  rw [e]
  show ((256 * q + c) &&& (256 * mk3 k + 0x33)) + ((256 * (q / 4) + (64 * (q % 4) + c / 4)) &&& (256 * mk3 k + 0x33)) = _
  rw [and_bytes hc (by omega), and_bytes (by omega) (by omega), h1]
  show _ = 256 * ((q &&& mk3 k) + ((q / 4) &&& mk3 k)) + ((c &&& 0x33) + ((c / 4) &&& 0x33))
  omega
theorem sw3_s (k q c : Nat) (hc : c ≤ 0x44) (hq : q % 16 ≤ 4) : sw3 (k + 1) (256 * q + c) = 256 * sw3 k q + sw3 1 c := by
  have e : (256 * q + c) / 16 = 256 * (q / 16) + (16 * (q % 16) + c / 16) := by omega
  have h1 := by_4 ⟨c, by omega⟩ ⟨q % 16, by omega⟩
  dsimp only at h1
  unfold sw3
  rw [e]
  show (256 * q + c + (256 * (q / 16) + (16 * (q % 16) + c / 16))) &&& (256 * mkF k + 0x0f) = _
  rw [show 256 * q + c + (256 * (q / 16) + (16 * (q % 16) + c / 16)) = 256 * (q + q / 16) + (c + (16 * (q % 16) + c / 16)) by omega]
  rw [and_bytes h1.2 (by omega), h1.1]
  rfl
/-- the three steps, byte by byte -/
def swA (k x : Nat) : Nat := sw3 k (sw2 k (sw1 k x))
theorem swT (k q b : Nat) (hb : b < 256) : sw2 (k + 1) (sw1 (k + 1) (256 * q + b)) = 256 * sw2 k (sw1 k q) + t8 b := by
  rw [sw1_s k q b hb, sw2_s k _ _ (by_3 ⟨b, hb⟩).1]; rfl
theorem swT16 : ∀ (k q : Nat), q < 256 ^ k → sw2 k (sw1 k q) % 16 ≤ 4
  | 0, q, h => by
    have : q = 0 := by simpa using h
    subst this; decide
  | k + 1, q, h => by
    have e : q = 256 * (q / 256) + q % 256 := by omega
    rw [e, swT k _ _ (by omega)]
    have := (by_3 ⟨q % 256, by omega⟩).2.2.1
    dsimp only at this
    omega
theorem swA_s (k q b : Nat) (hb : b < 256) (hq : q < 256 ^ k) : swA (k + 1) (256 * q + b) = 256 * swA k q + p8 b := by
  unfold swA
  rw [swT k q b hb, sw3_s k _ _ (by_3 ⟨b, hb⟩).2.1 (swT16 k q hq), (by_3 ⟨b, hb⟩).2.2.2.1]
theorem p8_le {b : Nat} (hb : b < 256) : p8 b ≤ 8 := (by_3 ⟨b, hb⟩).2.2.2.2
theorem ct_bytes (q b n : Nat) (hb : b < 256) : fb_ct (256 * q + b).testBit (8 + n) = p8 b + fb_ct q.testBit n := by
  rw [fb_ct_split]
  congr 1
  · exact fb_ct_cong (fun k hk => by rw [show (256 : Nat) = 2 ^ 8 from rfl, Nat.testBit_two_pow_mul_add q hb, if_pos hk])
  · exact fb_ct_cong (fun k hk => by rw [show (256 : Nat) = 2 ^ 8 from rfl, Nat.testBit_two_pow_mul_add q hb, if_neg (by omega)]; congr 1; omega)
