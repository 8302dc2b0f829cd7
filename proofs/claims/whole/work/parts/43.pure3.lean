/-! ===== lN n to 2^64: shifts, and, or, masks, one bit ===== -/
theorem wb_tb (n : Nat) : (lN n).toBitVec = BitVec.ofNat 64 n := rfl
theorem wb_inj {a b : Int64} (h : a.toBitVec = b.toBitVec) : a = b := Int64.toBitVec_inj.mp h
theorem wb_tn {n : Nat} (h : n < 2 ^ 64) : (lN n).toBitVec.toNat = n := by rw [wb_tb, BitVec.toNat_ofNat, Nat.mod_eq_of_lt h]
theorem wb_of (x : Int64) : ∃ n, n < 2 ^ 64 ∧ x = lN n := ⟨x.toBitVec.toNat, x.toBitVec.isLt, wb_inj (by rw [wb_tb]; simp)⟩
theorem wb_of32 (x : Int32) : ∃ n, n < 2 ^ 32 ∧ x = nI n := ⟨x.toBitVec.toNat, x.toBitVec.isLt, Int32.toBitVec_inj.mp (by show _ = BitVec.ofNat 32 _; simp)⟩
theorem wb_c : ∀ k, k < 64 → ((nI k).toInt64 &&& 63) = lN k := by decide +kernel
theorem wb_cu : ∀ k, k < 64 → ((nI k).toInt64.toUInt64 &&& Int64.toUInt64 63) = UInt64.ofNat k := by decide +kernel
theorem wb_sm : ∀ k, k < 64 → (BitVec.ofNat 64 k).smod 64 = BitVec.ofNat 64 k := by decide +kernel
theorem wb_pw {a b : Nat} (h : a ≤ b) : 2 ^ b = 2 ^ a * 2 ^ (b - a) := by rw [← Nat.pow_add]; congr 1; omega
theorem wb_lt2 {a b : Nat} (h : a < b) : 2 ^ a < 2 ^ b := Nat.pow_lt_pow_right (by decide) h
theorem wb_mod (n : Nat) : lN n = lN (n % 2 ^ 64) := wb_inj (by rw [wb_tb, wb_tb]; apply BitVec.eq_of_toNat_eq; rw [BitVec.toNat_ofNat, BitVec.toNat_ofNat, Nat.mod_mod])
theorem wb_shr {n k : Nat} (hn : n < 2 ^ 64) (hk : k < 64) : ((lN n).toUInt64 >>> ((nI k).toInt64.toUInt64 &&& Int64.toUInt64 63)).toInt64 = lN (n / 2 ^ k) := by
  rw [wb_cu k hk]
  apply wb_inj
  apply BitVec.eq_of_toNat_eq
  show ((lN n).toUInt64 >>> UInt64.ofNat k).toNat = (BitVec.ofNat 64 _).toNat
  have h1 : (UInt64.ofNat k).toNat = k := by
    show (BitVec.ofNat 64 k).toNat = k
    rw [BitVec.toNat_ofNat, Nat.mod_eq_of_lt (by omega)]
  have h2 : (lN n).toUInt64.toNat = n := wb_tn hn
  rw [UInt64.toNat_shiftRight, h1, h2, Nat.mod_eq_of_lt hk, Nat.shiftRight_eq_div_pow, BitVec.toNat_ofNat, Nat.mod_eq_of_lt (Nat.lt_of_le_of_lt (Nat.div_le_self _ _) hn)]
theorem wb_shl (n : Nat) {k : Nat} (hk : k < 64) : lN n <<< ((nI k).toInt64 &&& 63) = lN (n * 2 ^ k) := by
  rw [wb_c k hk]
  apply wb_inj
  rw [Int64.toBitVec_shiftLeft, wb_tb, wb_tb, wb_tb, wb_sm k hk]
  apply BitVec.eq_of_toNat_eq
  rw [BitVec.shiftLeft_eq', BitVec.toNat_shiftLeft, BitVec.toNat_ofNat, BitVec.toNat_ofNat, BitVec.toNat_ofNat, Nat.mod_eq_of_lt (show k < 2 ^ 64 by omega), Nat.shiftLeft_eq, Nat.mul_mod, Nat.mod_mod, ← Nat.mul_mod]
theorem wb_and {a b : Nat} (ha : a < 2 ^ 64) (hb : b < 2 ^ 64) : lN a &&& lN b = lN (a &&& b) := by
  apply wb_inj
  rw [Int64.toBitVec_and, wb_tb, wb_tb, wb_tb]
  apply BitVec.eq_of_toNat_eq
  rw [BitVec.toNat_and, BitVec.toNat_ofNat, BitVec.toNat_ofNat, BitVec.toNat_ofNat, Nat.mod_eq_of_lt ha, Nat.mod_eq_of_lt hb, Nat.mod_eq_of_lt (Nat.and_lt_two_pow _ hb)]
theorem wb_or {a b : Nat} (ha : a < 2 ^ 64) (hb : b < 2 ^ 64) : lN a ||| lN b = lN (a ||| b) := by
  apply wb_inj
  rw [Int64.toBitVec_or, wb_tb, wb_tb, wb_tb]
  apply BitVec.eq_of_toNat_eq
  rw [BitVec.toNat_or, BitVec.toNat_ofNat, BitVec.toNat_ofNat, BitVec.toNat_ofNat, Nat.mod_eq_of_lt ha, Nat.mod_eq_of_lt hb, Nat.mod_eq_of_lt (Nat.or_lt_two_pow ha hb)]
theorem wb_mask {n k : Nat} (hn : n < 2 ^ 64) (hk : k < 64) : lN n &&& lN (2 ^ k - 1) = lN (n % 2 ^ k) := by
  rw [wb_and hn (by have := wb_lt2 hk; omega), Nat.and_two_pow_sub_one_eq_mod]
theorem wb_a1 {n : Nat} (hn : n < 2 ^ 64) : lN n &&& 1 = lN (n % 2) := wb_mask (k := 1) hn (by decide)
theorem wb_bit {n k : Nat} (hn : n < 2 ^ 64) (hk : k < 64) : ((lN n).toUInt64 >>> ((nI k).toInt64.toUInt64 &&& Int64.toUInt64 63)).toInt64 &&& 1 = lN (n / 2 ^ k % 2) := by
  rw [wb_shr hn hk, wb_a1 (Nat.lt_of_le_of_lt (Nat.div_le_self _ _) hn)]
theorem wb_xor {q k : Nat} (hk : k < 63) (h : 2 ^ k ≤ q) (h2 : q < 2 ^ (k + 1)) : lN q ^^^ lN (2 ^ k) = lN (q - 2 ^ k) := by
  obtain ⟨r, rfl⟩ : ∃ r, q = 2 ^ k + r := ⟨q - 2 ^ k, by omega⟩
  have hr : r < 2 ^ k := by rw [Nat.pow_succ] at h2; omega
  have hx : (2 ^ k + r) ^^^ 2 ^ k = r := by
    apply Nat.eq_of_testBit_eq
    intro i
    rw [Nat.testBit_xor, Nat.testBit_two_pow]
    rcases Nat.lt_trichotomy i k with h | h | h
    · rw [Nat.testBit_two_pow_add_gt h]
      simp [show ¬ k = i by omega]
    · subst h
      rw [Nat.testBit_two_pow_add_eq]
      simp
    · have a1 : 2 ^ (k + 1) ≤ 2 ^ i := Nat.pow_le_pow_right (by decide) h
      rw [Nat.testBit_lt_two_pow (show 2 ^ k + r < 2 ^ i by omega), Nat.testBit_lt_two_pow (show r < 2 ^ i by omega)]
      simp [show ¬ k = i by omega]
  have b1 := wb_lt2 (show k + 1 < 64 by omega)
  have b2 := wb_lt2 (show k < 64 by omega)
  apply wb_inj
  rw [Int64.toBitVec_xor, wb_tb, wb_tb, wb_tb]
  apply BitVec.eq_of_toNat_eq
  rw [BitVec.toNat_xor, BitVec.toNat_ofNat, BitVec.toNat_ofNat, BitVec.toNat_ofNat, Nat.mod_eq_of_lt (by omega : 2 ^ k + r < 2 ^ 64), Nat.mod_eq_of_lt b2, hx, Nat.add_sub_cancel_left, Nat.mod_eq_of_lt (by omega)]
/-! the switches: bits of four words here, a ring of 200 there -/
theorem wb_get {n i : Nat} (hi : i < 64) : (lN n).toBitVec.getLsbD i = n.testBit i := by
  rw [wb_tb, BitVec.getLsbD_ofNat]
  simp [hi]
def pc_1 (i : Int64) : Int64 := i - (((i.toUInt64 >>> ((1 : Int32).toInt64.toUInt64 &&& Int64.toUInt64 63)).toInt64) &&& 6148914691236517205)
def pc_2 (i : Int64) : Int64 := (i &&& 3689348814741910323) + (((i.toUInt64 >>> ((2 : Int32).toInt64.toUInt64 &&& Int64.toUInt64 63)).toInt64) &&& 3689348814741910323)
def pc_3 (i : Int64) : Int64 := (i + ((i.toUInt64 >>> ((4 : Int32).toInt64.toUInt64 &&& Int64.toUInt64 63)).toInt64)) &&& 1085102592571150095
def pc_4 (i : Int64) : Int64 := i + ((i.toUInt64 >>> ((8 : Int32).toInt64.toUInt64 &&& Int64.toUInt64 63)).toInt64)
def pc_5 (i : Int64) : Int64 := i + ((i.toUInt64 >>> ((16 : Int32).toInt64.toUInt64 &&& Int64.toUInt64 63)).toInt64)
def pc_6 (i : Int64) : Int64 := i + ((i.toUInt64 >>> ((32 : Int32).toInt64.toUInt64 &&& Int64.toUInt64 63)).toInt64)
theorem pc_all (i : Int64) : sJ13_bitCount_95d88 i = (pc_6 (pc_5 (pc_4 (pc_3 (pc_2 (pc_1 i)))))).toInt32 &&& 127 := by
  unfold sJ13_bitCount_95d88 pc_6 pc_5 pc_4 pc_3 pc_2 pc_1
  rfl
/-- byte by byte -/
def pn_map (g : Nat → Nat) : Nat → Nat → Nat
  | 0, _ => 0
  | k + 1, n => g (n % 256) + 256 * pn_map g k (n / 256)
def pn_m (b : Nat) : Nat → Nat
  | 0 => 0
  | k + 1 => b + 256 * pn_m b k
theorem pn_and (a b : Nat) : a &&& b = ((a % 256) &&& (b % 256)) + 256 * ((a / 256) &&& (b / 256)) := by
  have h1 : (a &&& b) % 256 = (a % 256) &&& (b % 256) := Nat.and_mod_two_pow (n := 8)
  have h2 : (a &&& b) / 256 = (a / 256) &&& (b / 256) := Nat.and_div_two_pow (n := 8)
  rw [← h1, ← h2]
  omega
def pn_1 (c : Nat) : Nat := c - (c / 2 &&& 85)
def pn_2 (c : Nat) : Nat := (pn_1 c &&& 51) + (pn_1 c / 4 &&& 51)
def pn_3 (c : Nat) : Nat := (pn_2 c + pn_2 c / 16) &&& 15
theorem pn_e1 : ∀ c, c < 256 → ∀ e, e < 2 → (c / 2 + 128 * e) &&& 85 = (c / 2) &&& 85 := by decide +kernel
theorem pn_e2 : ∀ c, c < 256 → ∀ e, e < 4 → (c / 4 + 64 * e) &&& 51 = (c / 4) &&& 51 := by decide +kernel
theorem pn_b1 : ∀ c, c < 256 → pn_1 c < 256 := by decide +kernel
theorem pn_b2 : ∀ c, c < 256 → pn_2 c ≤ 68 ∧ pn_2 c % 16 ≤ 4 := by decide +kernel
theorem pn_b3 : ∀ c, c < 256 → pn_3 c ≤ 8 := by decide +kernel
theorem pn_s1 : ∀ k n, n < 256 ^ k → n - ((n / 2) &&& pn_m 85 k) = pn_map pn_1 k n := by
  intro k
  induction k with
  | zero =>
    intro n h
    have : n = 0 := by rw [Nat.pow_zero] at h; omega
    subst this
    rfl
  | succ k ih =>
    intro n h
    have hm : n / 256 < 256 ^ k := by rw [Nat.pow_succ] at h; exact Nat.div_lt_of_lt_mul (by rw [Nat.mul_comm]; exact h)
    have := ih (n / 256) hm
    rw [pn_map, ← this, pn_and (n / 2)]
    have e1 : pn_m 85 (k + 1) % 256 = 85 := by rw [pn_m]; omega
    have e2 : pn_m 85 (k + 1) / 256 = pn_m 85 k := by rw [pn_m]; omega
    have e3 : n / 2 % 256 = (n % 256) / 2 + 128 * (n / 256 % 2) := by omega
    have e4 : n / 2 / 256 = n / 256 / 2 := by omega
    rw [e1, e2, e3, e4, pn_e1 _ (by omega) _ (by omega)]
    have l1 : (n % 256 / 2 &&& 85) ≤ n % 256 / 2 := Nat.and_le_left
    have l2 : (n / 256 / 2 &&& pn_m 85 k) ≤ n / 256 / 2 := Nat.and_le_left
    unfold pn_1
    omega
theorem pn_s2 : ∀ k n, (pn_map pn_1 k n &&& pn_m 51 k) + (pn_map pn_1 k n / 4 &&& pn_m 51 k) = pn_map pn_2 k n := by
  intro k
  induction k with
  | zero => intro n; simp [pn_map, pn_m]
  | succ k ih =>
    intro n
    have := ih (n / 256)
    rw [pn_map, pn_map, ← this]
    have hb := pn_b1 (n % 256) (by omega)
    generalize hz : pn_map pn_1 k (n / 256) = z
    have e1 : pn_m 51 (k + 1) % 256 = 51 := by rw [pn_m]; omega
    have e2 : pn_m 51 (k + 1) / 256 = pn_m 51 k := by rw [pn_m]; omega
    unfold pn_2
    generalize pn_1 (n % 256) = y at hb ⊢
    rw [pn_and (y + 256 * z), pn_and ((y + 256 * z) / 4), e1, e2]
    have e3 : (y + 256 * z) % 256 = y := by omega
    have e4 : (y + 256 * z) / 256 = z := by omega
    have e5 : (y + 256 * z) / 4 % 256 = y / 4 + 64 * (z % 4) := by omega
    have e6 : (y + 256 * z) / 4 / 256 = z / 4 := by omega
    rw [e3, e4, e5, e6, pn_e2 y hb _ (by omega)]
    omega
theorem pn_z : ∀ k n, pn_map pn_2 k n % 16 ≤ 4 := by
  intro k n
  cases k with
  | zero => exact Nat.zero_le 4
  | succ k =>
    rw [pn_map]
    have := (pn_b2 (n % 256) (by omega)).2
    omega
theorem pn_s3 : ∀ k n, (pn_map pn_2 k n + pn_map pn_2 k n / 16) &&& pn_m 15 k = pn_map pn_3 k n := by
  intro k
  induction k with
  | zero => intro n; simp [pn_map, pn_m]
  | succ k ih =>
    intro n
    have := ih (n / 256)
    rw [pn_map, pn_map, ← this]
    have hb := (pn_b2 (n % 256) (by omega)).1
    have hz := pn_z k (n / 256)
    generalize pn_map pn_2 k (n / 256) = z at hz ⊢
    have e1 : pn_m 15 (k + 1) % 256 = 15 := by rw [pn_m]; omega
    have e2 : pn_m 15 (k + 1) / 256 = pn_m 15 k := by rw [pn_m]; omega
    unfold pn_3
    generalize pn_2 (n % 256) = y at hb ⊢
    rw [pn_and (y + 256 * z + (y + 256 * z) / 16), e1, e2]
    have e3 : (y + 256 * z + (y + 256 * z) / 16) % 256 = y + y / 16 + 16 * (z % 16) := by omega
    have e4 : (y + 256 * z + (y + 256 * z) / 16) / 256 = z + z / 16 := by omega
    have e5 : ∀ x : Nat, x &&& 15 = x % 16 := fun x => Nat.and_two_pow_sub_one_eq_mod x 4
    rw [e3, e4, e5, e5]
    omega
def pn_sum : Nat → Nat → Nat
  | 0, _ => 0
  | k + 1, n => pn_3 (n % 256) + pn_sum k (n / 256)
theorem pn_lt (n : Nat) : pn_map pn_3 8 n < 1157442765409226769 := by
  have h : ∀ m, pn_3 (m % 256) ≤ 8 := fun m => pn_b3 _ (by omega)
  have h0 := h n
  have h1 := h (n / 256)
  have h2 := h (n / 256 / 256)
  have h3 := h (n / 256 / 256 / 256)
  have h4 := h (n / 256 / 256 / 256 / 256)
  have h5 := h (n / 256 / 256 / 256 / 256 / 256)
  have h6 := h (n / 256 / 256 / 256 / 256 / 256 / 256)
  have h7 := h (n / 256 / 256 / 256 / 256 / 256 / 256 / 256)
  simp only [pn_map]
  omega
/-! the last three steps, on eight small bytes -/
theorem pn_q1 {p t x : Nat} (h : p ≤ 8) (hx : x = p + 256 * t) : x / 256 = t := by omega
theorem pn_q2 {a b y w : Nat} (ha : a ≤ 16) (hb : b ≤ 16) (h : y = a + 256 * (b + 256 * w)) : y / 65536 = w := by omega
theorem pn_q3 {a b c d z w : Nat} (ha : a ≤ 32) (hb : b ≤ 32) (hc : c ≤ 32) (hd : d ≤ 32) (h : z = a + 256 * (b + 256 * (c + 256 * (d + 256 * w)))) : z / 4294967296 = w := by omega
theorem pn_q4 {a b z w u v : Nat} (ha : a ≤ 32) (hb : b ≤ 32) (hz : z = a + 256 * u) (hw : w = b + 256 * v) : (z + w) % 128 = a + b := by omega
theorem pn_q5 {p q r t0 t1 t2 t3 : Nat} (h0 : t0 = p + 256 * t1) (h1 : t1 = q + 256 * t2) (h2 : t2 = r + 256 * t3) : t0 + t1 = (p + q) + 256 * ((q + r) + 256 * (t2 + t3)) := by omega
theorem pn_q6 {p0 p1 p2 p3 p4 p5 p6 t0 t1 t2 t3 t4 t5 t6 t7 : Nat} (h0 : t0 = p0 + 256 * t1) (h1 : t1 = p1 + 256 * t2) (h2 : t2 = p2 + 256 * t3) (h3 : t3 = p3 + 256 * t4) (h4 : t4 = p4 + 256 * t5) (h5 : t5 = p5 + 256 * t6) (h6 : t6 = p6 + 256 * t7) : (t0 + t1) + (t2 + t3) = (p0 + p1 + p2 + p3) + 256 * ((p1 + p2 + p3 + p4) + 256 * ((p2 + p3 + p4 + p5) + 256 * ((p3 + p4 + p5 + p6) + 256 * ((t4 + t5) + (t6 + t7))))) := by omega
theorem pn_q7 {p4 p5 p6 p7 t4 t5 t6 t7 : Nat} (h4 : t4 = p4 + 256 * t5) (h5 : t5 = p5 + 256 * t6) (h6 : t6 = p6 + 256 * t7) (h7 : t7 = p7) : (t4 + t5) + (t6 + t7) = (p4 + p5 + p6 + p7) + 256 * ((t5 + t6) + t7) := by omega
theorem pn_last {p0 p1 p2 p3 p4 p5 p6 p7 t0 t1 t2 t3 t4 t5 t6 t7 : Nat} (b0 : p0 ≤ 8) (b1 : p1 ≤ 8) (b2 : p2 ≤ 8) (b3 : p3 ≤ 8) (b4 : p4 ≤ 8) (b5 : p5 ≤ 8) (b6 : p6 ≤ 8) (b7 : p7 ≤ 8)
    (h0 : t0 = p0 + 256 * t1) (h1 : t1 = p1 + 256 * t2) (h2 : t2 = p2 + 256 * t3) (h3 : t3 = p3 + 256 * t4) (h4 : t4 = p4 + 256 * t5) (h5 : t5 = p5 + 256 * t6) (h6 : t6 = p6 + 256 * t7) (h7 : t7 = p7) :
    ((t0 + t0 / 256) + (t0 + t0 / 256) / 65536 + ((t0 + t0 / 256) + (t0 + t0 / 256) / 65536) / 4294967296) % 128 = (p0 + p1 + p2 + p3) + (p4 + p5 + p6 + p7) := by
  have e1 := pn_q1 b0 h0
  rw [e1]
  have e2 := pn_q2 (Nat.add_le_add b0 b1) (Nat.add_le_add b1 b2) (pn_q5 h0 h1 h2)
  rw [e2]
  have l : ∀ {a b c d : Nat}, a ≤ 8 → b ≤ 8 → c ≤ 8 → d ≤ 8 → a + b + c + d ≤ 32 := fun ha hb hc hd => Nat.add_le_add (Nat.add_le_add (Nat.add_le_add ha hb) hc) hd
  have z := pn_q6 h0 h1 h2 h3 h4 h5 h6
  have e3 := pn_q3 (l b0 b1 b2 b3) (l b1 b2 b3 b4) (l b2 b3 b4 b5) (l b3 b4 b5 b6) z
  rw [e3]
  exact pn_q4 (l b0 b1 b2 b3) (l b4 b5 b6 b7) z (pn_q7 h4 h5 h6 h7)
theorem pn_count (n : Nat) : ((pn_map pn_3 8 n + pn_map pn_3 8 n / 256) + (pn_map pn_3 8 n + pn_map pn_3 8 n / 256) / 65536 + ((pn_map pn_3 8 n + pn_map pn_3 8 n / 256) + (pn_map pn_3 8 n + pn_map pn_3 8 n / 256) / 65536) / 4294967296) % 128 = pn_sum 8 n := by
  have h : ∀ m, pn_3 (m % 256) ≤ 8 := fun m => pn_b3 _ (by omega)
  have st : ∀ k m, pn_map pn_3 (k + 1) m = pn_3 (m % 256) + 256 * pn_map pn_3 k (m / 256) := fun _ _ => rfl
  have l7 : pn_map pn_3 1 (n / 256 / 256 / 256 / 256 / 256 / 256 / 256) = pn_3 (n / 256 / 256 / 256 / 256 / 256 / 256 / 256 % 256) := Nat.add_zero _
  have e := pn_last (h n) (h (n / 256)) (h (n / 256 / 256)) (h (n / 256 / 256 / 256)) (h (n / 256 / 256 / 256 / 256)) (h (n / 256 / 256 / 256 / 256 / 256)) (h (n / 256 / 256 / 256 / 256 / 256 / 256)) (h (n / 256 / 256 / 256 / 256 / 256 / 256 / 256)) (st 7 _) (st 6 _) (st 5 _) (st 4 _) (st 3 _) (st 2 _) (st 1 _) l7
  rw [e]
  simp only [pn_sum]
  omega
/-- how many of the first n places have it -/
def pc_ct (p : Nat → Bool) : Nat → Nat
  | 0 => 0
  | n + 1 => pc_ct p n + (if p n then 1 else 0)
theorem pc_cong {p q : Nat → Bool} : ∀ {n : Nat}, (∀ i, i < n → p i = q i) → pc_ct p n = pc_ct q n := by
  intro n
  induction n with
  | zero => intro _; rfl
  | succ n ih =>
    intro h
    rw [pc_ct, pc_ct, ih (fun i hi => h i (by omega)), h n (by omega)]
theorem pc_split (p : Nat → Bool) (m : Nat) : ∀ n, pc_ct p (m + n) = pc_ct p m + pc_ct (fun i => p (m + i)) n := by
  intro n
  induction n with
  | zero => rfl
  | succ n ih =>
    show pc_ct p (m + n) + (if p (m + n) then 1 else 0) = pc_ct p m + (pc_ct (fun i => p (m + i)) n + (if p (m + n) then 1 else 0))
    rw [ih]
    omega
theorem pc_zero {p : Nat → Bool} : ∀ {n : Nat}, (∀ i, i < n → p i = false) → pc_ct p n = 0 := by
  intro n
  induction n with
  | zero => intro _; rfl
  | succ n ih =>
    intro h
    rw [pc_ct, ih (fun i hi => h i (by omega)), h n (by omega)]
    rfl
theorem pc_cut (p : Nat → Bool) (k : Nat) : ∀ n, pc_ct (fun i => decide (i < k) && p i) n = pc_ct p (min k n) := by
  intro n
  rcases Nat.le_total n k with h | h
  · rw [Nat.min_eq_right h]
    exact pc_cong (fun i hi => by rw [decide_eq_true (by omega : i < k), Bool.true_and])
  · rw [Nat.min_eq_left h]
    obtain ⟨d, rfl⟩ := Nat.exists_eq_add_of_le h
    rw [pc_split, pc_zero (n := d) (fun i _ => by rw [decide_eq_false (by omega), Bool.false_and])]
    exact pc_cong (fun i hi => by rw [decide_eq_true (by omega : i < k), Bool.true_and])
theorem pc_byte : ∀ c, c < 256 → pc_ct (fun i => c.testBit i) 8 = pn_3 c := by decide +kernel
theorem pc_sum : ∀ k n, pc_ct (fun i => n.testBit i) (8 * k) = pn_sum k n := by
  intro k
  induction k with
  | zero => intro n; rfl
  | succ k ih =>
    intro n
    rw [show 8 * (k + 1) = 8 + 8 * k from by omega, pc_split, pn_sum, ← ih (n / 256), ← pc_byte (n % 256) (by omega)]
    congr 1
    · refine pc_cong (fun i hi => ?_)
      have := Nat.testBit_mod_two_pow n 8 i
      rw [show (256 : Nat) = 2 ^ 8 from rfl, this, decide_eq_true hi, Bool.true_and]
    · refine pc_cong (fun i _ => ?_)
      show n.testBit (8 + i) = (n / 2 ^ 8).testBit i
      rw [Nat.testBit_div_two_pow, Nat.add_comm]
theorem pc_nat {n : Nat} (hn : n < 2 ^ 64) : sJ13_bitCount_95d88 (lN n) = nI (pc_ct (fun i => n.testBit i) 64) := by
  have l5 : (6148914691236517205 : Int64) = lN (pn_m 85 8) := by decide +kernel
  have l3 : (3689348814741910323 : Int64) = lN (pn_m 51 8) := by decide +kernel
  have lf : (1085102592571150095 : Int64) = lN (pn_m 15 8) := by decide +kernel
  have b5 : pn_m 85 8 < 2 ^ 64 := by decide +kernel
  have b3 : pn_m 51 8 < 2 ^ 64 := by decide +kernel
  have bf : pn_m 15 8 < 2 ^ 64 := by decide +kernel
  have s : ∀ (k : Nat) (m : Nat), m < 2 ^ 64 → k < 64 → ((lN m).toUInt64 >>> ((nI k).toInt64.toUInt64 &&& Int64.toUInt64 63)).toInt64 = lN (m / 2 ^ k) := fun k m hm hk => wb_shr hm hk
  have q1 : pc_1 (lN n) = lN (pn_map pn_1 8 n) := by
    unfold pc_1
    rw [show (1 : Int32) = nI 1 from rfl, s 1 n hn (by decide), l5, wb_and (by omega) b5]
    have l : (n / 2 ^ 1 &&& pn_m 85 8) ≤ n / 2 ^ 1 := Nat.and_le_left
    rw [lN_sub (by omega)]
    exact congrArg lN (pn_s1 8 n (by omega))
  have c1 : pn_map pn_1 8 n < 2 ^ 64 := by
    rw [← pn_s1 8 n (by omega)]
    omega
  have q2 : pc_2 (lN (pn_map pn_1 8 n)) = lN (pn_map pn_2 8 n) := by
    unfold pc_2
    rw [show (2 : Int32) = nI 2 from rfl, s 2 _ c1 (by decide), l3, wb_and c1 b3, wb_and (by omega) b3, lN_add]
    exact congrArg lN (pn_s2 8 n)
  have c2 : pn_map pn_2 8 n < 2 ^ 63 := by
    have h : ∀ m, pn_2 (m % 256) ≤ 68 := fun m => (pn_b2 _ (by omega)).1
    have h0 := h n
    have h1 := h (n / 256)
    have h2 := h (n / 256 / 256)
    have h3 := h (n / 256 / 256 / 256)
    have h4 := h (n / 256 / 256 / 256 / 256)
    have h5 := h (n / 256 / 256 / 256 / 256 / 256)
    have h6 := h (n / 256 / 256 / 256 / 256 / 256 / 256)
    have h7 := h (n / 256 / 256 / 256 / 256 / 256 / 256 / 256)
    simp only [pn_map]
    omega
  have q3 : pc_3 (lN (pn_map pn_2 8 n)) = lN (pn_map pn_3 8 n) := by
    unfold pc_3
    rw [show (4 : Int32) = nI 4 from rfl, s 4 _ (by omega) (by decide), lf, lN_add, wb_and (by omega) bf]
    exact congrArg lN (pn_s3 8 n)
  have c3 := pn_lt n
  have hc := pn_count n
  have hs : pc_ct (fun i => n.testBit i) 64 = pn_sum 8 n := pc_sum 8 n
  rw [pc_all, q1, q2, q3, hs, ← hc]
  generalize pn_map pn_3 8 n = x at c3 ⊢
  have q4 : pc_4 (lN x) = lN (x + x / 256) := by
    unfold pc_4
    rw [show (8 : Int32) = nI 8 from rfl, s 8 _ (by omega) (by decide), lN_add]
  rw [q4]
  have c4 : x + x / 256 < 2 ^ 62 := by omega
  generalize x + x / 256 = y at c4 ⊢
  have q5 : pc_5 (lN y) = lN (y + y / 65536) := by
    unfold pc_5
    rw [show (16 : Int32) = nI 16 from rfl, s 16 _ (by omega) (by decide), lN_add]
  rw [q5]
  have c5 : y + y / 65536 < 2 ^ 63 := by omega
  generalize y + y / 65536 = z at c5 ⊢
  have q6 : pc_6 (lN z) = lN (z + z / 4294967296) := by
    unfold pc_6
    rw [show (32 : Int32) = nI 32 from rfl, s 32 _ (by omega) (by decide), lN_add]
  rw [q6, lN_i]
  generalize z + z / 4294967296 = w
  rw [pk_and (nI w) 7 (by decide)]
  have : (nI w).toBitVec.toNat = w % 2 ^ 32 := BitVec.toNat_ofNat w 32
  rw [this]
  congr 1
  omega
def pb_bit (b1 b2 b3 b4 : Int64) (i : Nat) : Bool := if i < 64 then b1.toBitVec.getLsbD i else if i < 128 then b2.toBitVec.getLsbD (i - 64) else if i < 192 then b3.toBitVec.getLsbD (i - 128) else b4.toBitVec.getLsbD (i - 192)
theorem pb_low (b : Int64) (t : Int32) : sJ13_bitCount_95d88 (b &&& sX4_lowBits t) = nI (pc_ct (fun i => b.toBitVec.getLsbD i) (min t.toInt.toNat 64)) := by
  obtain ⟨n, hn, rfl⟩ := wb_of b
  have hg : ∀ k, k ≤ 64 → pc_ct (fun i => (lN n).toBitVec.getLsbD i) k = pc_ct (fun i => n.testBit i) k := fun k hk => pc_cong (fun i hi => wb_get (by omega))
  rw [hg _ (by omega)]
  have k64 : (64 : Int32).toInt = 64 := by decide
  unfold sX4_lowBits
  by_cases h0 : 0 < t
  · rw [if_pos h0]
    rw [Int32.lt_iff_toInt_lt, Int32.toInt_zero] at h0
    by_cases h1 : t < 64
    · rw [if_pos h1]
      rw [Int32.lt_iff_toInt_lt, k64] at h1
      obtain ⟨k, hk⟩ : ∃ k, t.toInt.toNat = k := ⟨_, rfl⟩
      have ht : t = nI k := by rw [← hk]; exact pb_nI (by omega)
      have hk2 : k < 64 := by omega
      have hp : 0 < 2 ^ k := Nat.two_pow_pos k
      rw [hk, ht, show (1 : Int64) <<< ((nI k).toInt64 &&& 63) = lN (1 * 2 ^ k) from wb_shl 1 hk2, Nat.one_mul, show lN (2 ^ k) - 1 = lN (2 ^ k - 1) from lN_sub (a := 2 ^ k) (b := 1) hp, wb_mask hn hk2, pc_nat (Nat.lt_of_le_of_lt (Nat.mod_le _ _) hn)]
      have : pc_ct (fun i => (n % 2 ^ k).testBit i) 64 = pc_ct (fun i => decide (i < k) && n.testBit i) 64 := pc_cong (fun i _ => Nat.testBit_mod_two_pow n k i)
      rw [this, pc_cut]
    · rw [if_neg h1]
      rw [Int32.lt_iff_toInt_lt, k64] at h1
      have hm : lN n &&& (-1) = lN n := Int64.toBitVec_inj.mp (by
        rw [Int64.toBitVec_and]
        exact BitVec.and_allOnes)
      rw [hm, pc_nat hn, Nat.min_eq_right (by omega)]
  · rw [if_neg h0]
    rw [Int32.lt_iff_toInt_lt, Int32.toInt_zero] at h0
    have hm : lN n &&& 0 = lN 0 := Int64.toBitVec_inj.mp (by
      rw [Int64.toBitVec_and]
      exact BitVec.and_zero)
    rw [hm, pc_nat (by decide), Nat.min_eq_left (by omega), show t.toInt.toNat = 0 from by omega]
    exact congrArg nI (pc_zero (fun i _ => Nat.zero_testBit i))
theorem pb_countIn (b1 b2 b3 b4 : Int64) {k : Nat} (hk : k ≤ 256) : sX4_countIn b1 b2 b3 b4 (nI k) = nI (pc_ct (pb_bit b1 b2 b3 b4) k) := by
  have hI : (nI k).toInt = k := nI_toInt (by omega)
  have hs : ∀ (m : Nat) (M : Int32), m ≤ 256 → M.toInt = m → (nI k - M).toInt.toNat = k - m := by
    intro m M hm hM
    rw [x_subI (by rw [hI, hM]; omega) (by rw [hI, hM]; omega), hI, hM]
    omega
  unfold sX4_countIn
  rw [pb_low, pb_low, pb_low, pb_low, hs 64 64 (by omega) (by decide), hs 128 128 (by omega) (by decide), hs 192 192 (by omega) (by decide), hI, nI_add, nI_add, nI_add, show ((k : Int)).toNat = k from rfl]
  refine congrArg nI ?_
  have g1 : ∀ m, m ≤ 64 → pc_ct (pb_bit b1 b2 b3 b4) m = pc_ct (fun i => b1.toBitVec.getLsbD i) m := fun m hm => pc_cong (fun i hi => by unfold pb_bit; rw [if_pos (by omega)])
  have g2 : ∀ m, m ≤ 64 → pc_ct (fun i => pb_bit b1 b2 b3 b4 (64 + i)) m = pc_ct (fun i => b2.toBitVec.getLsbD i) m := fun m hm => pc_cong (fun i hi => by
    unfold pb_bit
    rw [if_neg (by omega), if_pos (by omega), show 64 + i - 64 = i from by omega])
  have g3 : ∀ m, m ≤ 64 → pc_ct (fun i => pb_bit b1 b2 b3 b4 (128 + i)) m = pc_ct (fun i => b3.toBitVec.getLsbD i) m := fun m hm => pc_cong (fun i hi => by
    unfold pb_bit
    rw [if_neg (by omega), if_neg (by omega), if_pos (by omega), show 128 + i - 128 = i from by omega])
  have g4 : ∀ m, m ≤ 64 → pc_ct (fun i => pb_bit b1 b2 b3 b4 (192 + i)) m = pc_ct (fun i => b4.toBitVec.getLsbD i) m := fun m hm => pc_cong (fun i hi => by
    unfold pb_bit
    rw [if_neg (by omega), if_neg (by omega), if_neg (by omega), show 192 + i - 192 = i from by omega])
  have z : ∀ p : Nat → Bool, pc_ct p 0 = 0 := fun _ => rfl
  rcases Nat.le_total k 64 with a | a
  · rw [Nat.min_eq_left a, show min (k - 64) 64 = 0 from by omega, show min (k - 128) 64 = 0 from by omega, show min (k - 192) 64 = 0 from by omega, z, z, z, g1 k a]
    rfl
  · rcases Nat.le_total k 128 with b | b
    · obtain ⟨d, rfl⟩ := Nat.exists_eq_add_of_le a
      rw [show min (64 + d) 64 = 64 from by omega, show min (64 + d - 64) 64 = d from by omega, show min (64 + d - 128) 64 = 0 from by omega, show min (64 + d - 192) 64 = 0 from by omega, z, z, pc_split, g1 64 (by omega), g2 d (by omega)]
      rfl
    · rcases Nat.le_total k 192 with c | c
      · obtain ⟨d, rfl⟩ := Nat.exists_eq_add_of_le b
        rw [show min (128 + d) 64 = 64 from by omega, show min (128 + d - 64) 64 = 64 from by omega, show min (128 + d - 128) 64 = d from by omega, show min (128 + d - 192) 64 = 0 from by omega, z, pc_split, g3 d (by omega), show (128 : Nat) = 64 + 64 from rfl, pc_split, g1 64 (by omega), g2 64 (by omega)]
        rfl
      · obtain ⟨d, rfl⟩ := Nat.exists_eq_add_of_le c
        rw [show min (192 + d) 64 = 64 from by omega, show min (192 + d - 64) 64 = 64 from by omega, show min (192 + d - 128) 64 = 64 from by omega, show min (192 + d - 192) 64 = d from by omega, pc_split, g4 d (by omega)]
        have h2 : pc_ct (pb_bit b1 b2 b3 b4) 192 = pc_ct (pb_bit b1 b2 b3 b4) 64 + pc_ct (fun i => pb_bit b1 b2 b3 b4 (64 + i)) 64 + pc_ct (fun i => pb_bit b1 b2 b3 b4 (128 + i)) 64 := by
          have e1 := pc_split (pb_bit b1 b2 b3 b4) 128 64
          have e2 := pc_split (pb_bit b1 b2 b3 b4) 64 64
          rw [← e2]
          exact e1
        rw [h2, g1 64 (by omega), g2 64 (by omega), g3 64 (by omega)]
theorem pb_sh1 (b c : Int64) {i : Nat} (hi : i < 64) : ((b <<< ((1 : Int32).toInt64 &&& 63)) ||| ((c.toUInt64 >>> ((63 : Int32).toInt64.toUInt64 &&& Int64.toUInt64 63)).toInt64)).toBitVec.getLsbD i = if i = 0 then c.toBitVec.getLsbD 63 else b.toBitVec.getLsbD (i - 1) := by
  obtain ⟨n, hn, rfl⟩ := wb_of b
  obtain ⟨m, hm, rfl⟩ := wb_of c
  rw [Int64.toBitVec_or, BitVec.getLsbD_or, show (1 : Int32) = nI 1 from rfl, show (63 : Int32) = nI 63 from rfl, wb_shl n (by decide), wb_shr hm (by decide), wb_get hi, wb_get hi, Nat.testBit_mul_two_pow, Nat.testBit_div_two_pow, wb_get (by decide)]
  by_cases h : i = 0
  · subst h
    rw [if_pos rfl]
    simp
  · rw [if_neg h, wb_get (by omega), decide_eq_true (by omega : 1 ≤ i), Bool.true_and, Nat.testBit_lt_two_pow (x := m) (i := i + 63) (Nat.lt_of_lt_of_le hm (Nat.pow_le_pow_right (by decide) (by omega))), Bool.or_false]
theorem pb_sh0 (b : Int64) {i : Nat} (hi : i < 64) : (b <<< ((1 : Int32).toInt64 &&& 63)).toBitVec.getLsbD i = if i = 0 then false else b.toBitVec.getLsbD (i - 1) := by
  obtain ⟨n, hn, rfl⟩ := wb_of b
  rw [show (1 : Int32) = nI 1 from rfl, wb_shl n (by decide), wb_get hi, Nat.testBit_mul_two_pow]
  by_cases h : i = 0
  · subst h
    rw [if_pos rfl]
    rfl
  · rw [if_neg h, wb_get (by omega), decide_eq_true (by omega : 1 ≤ i), Bool.true_and]
theorem pb_pass (b1 b2 b3 b4 : Int64) {i : Nat} (hi : i < 256) : pb_bit (sX4_passTick b1 b2 b3 b4).1 (sX4_passTick b1 b2 b3 b4).2.1 (sX4_passTick b1 b2 b3 b4).2.2.1 (sX4_passTick b1 b2 b3 b4).2.2.2 i = if i = 0 then false else pb_bit b1 b2 b3 b4 (i - 1) := by
  unfold pb_bit sX4_passTick
  dsimp only
  by_cases h1 : i < 64
  · rw [if_pos h1, pb_sh0 _ h1]
    by_cases h : i = 0
    · rw [if_pos h, if_pos h]
    · rw [if_neg h, if_neg h, if_pos (by omega)]
  · rw [if_neg h1]
    have hz : i ≠ 0 := by omega
    rw [if_neg hz]
    by_cases h2 : i < 128
    · rw [if_pos h2, pb_sh1 _ _ (by omega)]
      by_cases h : i - 64 = 0
      · rw [if_pos h, if_pos (by omega), show i - 1 = 63 from by omega]
      · rw [if_neg h, if_neg (by omega), if_pos (by omega), show i - 64 - 1 = i - 1 - 64 from by omega]
    · rw [if_neg h2]
      by_cases h3 : i < 192
      · rw [if_pos h3, pb_sh1 _ _ (by omega)]
        by_cases h : i - 128 = 0
        · rw [if_pos h, if_neg (by omega), if_pos (by omega), show i - 1 - 64 = 63 from by omega]
        · rw [if_neg h, if_neg (by omega), if_neg (by omega), if_pos (by omega), show i - 128 - 1 = i - 1 - 128 from by omega]
      · rw [if_neg h3, pb_sh1 _ _ (by omega)]
        by_cases h : i - 192 = 0
        · rw [if_pos h, if_neg (by omega), if_neg (by omega), if_pos (by omega), show i - 1 - 128 = 63 from by omega]
        · rw [if_neg h, if_neg (by omega), if_neg (by omega), if_neg (by omega), show i - 192 - 1 = i - 1 - 192 from by omega]
theorem pb_mark (b1 b2 b3 b4 : Int64) (i : Nat) : pb_bit (sX4_markTick b1) b2 b3 b4 i = (decide (i = 0) || pb_bit b1 b2 b3 b4 i) := by
  unfold pb_bit sX4_markTick
  by_cases h1 : i < 64
  · rw [if_pos h1, if_pos h1, Int64.toBitVec_or, BitVec.getLsbD_or, Bool.or_comm]
    congr 1
    rw [show (1 : Int64) = lN 1 from rfl, wb_get h1, show (1 : Nat) = 2 ^ 0 from rfl, Nat.testBit_two_pow]
    by_cases h : i = 0
    · subst h; rfl
    · rw [decide_eq_false h, decide_eq_false (fun q => h q.symm)]
  · rw [if_neg h1, if_neg h1, decide_eq_false (by omega), Bool.false_or]
/-- the ring of the reference and the words of the class -/
def pb_ring (tick : Nat) (b1 b2 b3 b4 : Int64) (row : Nat → Int32) : Prop := (∀ i, i < 200 → pb_bit b1 b2 b3 b4 i = (decide (i < tick) && decide (row (14 + (tick - i) % 200) = 1))) ∧ ∀ k, k < 200 → row (14 + k) = 0 ∨ row (14 + k) = 1
theorem pb_sw {tick : Nat} (ht : tick < 1000000) (row : Nat → Int32) (h0 : row 0 = nI tick) (hr : ∀ k, k < 200 → row (14 + k) = 0 ∨ row (14 + k) = 1) {K : Nat} (hK : K ≤ 200) : ∀ (fuel t : Nat), t ≤ tick → tick - t ≤ K → t < fuel → sX9_switchesOf_l9 row (nI K) (fun n _ => n) fuel (nI (pc_ct (fun i => decide (i < tick) && decide (row (14 + (tick - i) % 200) = 1)) (tick - t))) (nI t) = nI (pc_ct (fun i => decide (i < tick) && decide (row (14 + (tick - i) % 200) = 1)) K) := by
  intro fuel
  induction fuel with
  | zero => intro t _ _ h; omega
  | succ fuel ih =>
    intro t h1 h2 h3
    rw [sX9_switchesOf_l9]
    by_cases c0 : nI t ≤ 0
    · rw [if_pos c0]
      rw [Int32.le_iff_toInt_le, nI_toInt (by omega), Int32.toInt_zero] at c0
      have hz : t = 0 := by omega
      subst hz
      obtain ⟨d, rfl⟩ := Nat.exists_eq_add_of_le h2
      rw [pc_split, pc_zero (n := d) (fun i _ => by rw [decide_eq_false (by omega), Bool.false_and])]
      rfl
    · rw [if_neg c0]
      rw [Int32.le_iff_toInt_le, nI_toInt (by omega), Int32.toInt_zero] at c0
      have hs : (nI tick - nI K).toInt = (tick : Int) - K := pk_sub_toInt (by omega) (by omega)
      rw [h0]
      by_cases c1 : nI t ≤ nI tick - nI K
      · rw [if_pos c1]
        rw [Int32.le_iff_toInt_le, nI_toInt (by omega), hs] at c1
        rw [show tick - t = K from by omega]
      · rw [if_neg c1]
        rw [Int32.le_iff_toInt_le, nI_toInt (by omega), hs] at c1
        obtain ⟨u, rfl⟩ : ∃ u, t = u + 1 := ⟨t - 1, by omega⟩
        have hv : (14 + (nI (u + 1) - nI (u + 1) / 200 * 200)).toNatClampNeg = 14 + (u + 1) % 200 := by
          rw [show (200 : Int32) = nI 200 from rfl, pk_rem (by omega) (by decide) (by decide), show (14 : Int32) = nI 14 from rfl, nI_add, nI_clamp (by omega)]
        have hu : nI (u + 1) + (-1) = nI u := pk_m1 u
        rw [hv, hu]
        have hn : pc_ct (fun i => decide (i < tick) && decide (row (14 + (tick - i) % 200) = 1)) (tick - u) = pc_ct (fun i => decide (i < tick) && decide (row (14 + (tick - i) % 200) = 1)) (tick - (u + 1)) + (if row (14 + (u + 1) % 200) = 1 then 1 else 0) := by
          rw [show tick - u = (tick - (u + 1)) + 1 from by omega, pc_ct, decide_eq_true (by omega : tick - (u + 1) < tick), Bool.true_and, show tick - (tick - (u + 1)) = u + 1 from by omega]
          simp
        have hx : nI (pc_ct (fun i => decide (i < tick) && decide (row (14 + (tick - i) % 200) = 1)) (tick - (u + 1))) + row (14 + (u + 1) % 200) = nI (pc_ct (fun i => decide (i < tick) && decide (row (14 + (tick - i) % 200) = 1)) (tick - u)) := by
          rw [hn]
          rcases hr ((u + 1) % 200) (by omega) with q | q
          · rw [q, if_neg (by decide), Nat.add_zero]
            exact Int32.add_zero _
          · rw [q, if_pos rfl]
            exact nI_1 _
        rw [hx]
        exact ih u (by omega) (by omega) (by omega)
theorem pb_swOf {tick : Nat} (ht : tick < 1000000) {row : Nat → Int32} (h0 : row 0 = nI tick) {b1 b2 b3 b4 : Int64} (h : pb_ring tick b1 b2 b3 b4 row) {K : Nat} (hK : K ≤ 200) : sX9_switchesOf row (nI K) = sX4_countIn b1 b2 b3 b4 (nI K) := by
  rw [pb_countIn b1 b2 b3 b4 (by omega)]
  unfold sX9_switchesOf
  have e : pc_ct (pb_bit b1 b2 b3 b4) K = pc_ct (fun i => decide (i < tick) && decide (row (14 + (tick - i) % 200) = 1)) K := pc_cong (fun i hi => h.1 i (by omega))
  have := pb_sw ht row h0 h.2 hK (tick + 1) tick (Nat.le_refl _) (by omega) (by omega)
  rw [Nat.sub_self] at this
  rw [e, ← this, h0, nI_toInt (by omega)]
  rfl
