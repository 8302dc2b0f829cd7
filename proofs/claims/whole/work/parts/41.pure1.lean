/-! class and reference told as one: numbers, sine, parts, pushes, steps -/
theorem pb_num (num : Nat → Int32) {k : Int32} (n : Nat) (h0 : ¬ k < 0) (h1 : ¬ 24 ≤ k) (hn : k.toNatClampNeg = n) : sX2_number num k = num n := by
  unfold sX2_number
  rw [if_neg h0, if_neg h1, hn]
theorem pb_n0 (num : Nat → Int32) : sX2_number num 0 = num 0 := pb_num num 0 (by decide) (by decide) (by decide)
theorem pb_n7 (num : Nat → Int32) : sX2_number num 7 = num 7 := pb_num num 7 (by decide) (by decide) (by decide)
theorem pb_n8 (num : Nat → Int32) : sX2_number num 8 = num 8 := pb_num num 8 (by decide) (by decide) (by decide)
theorem pb_n9 (num : Nat → Int32) : sX2_number num 9 = num 9 := pb_num num 9 (by decide) (by decide) (by decide)
theorem pb_n10 (num : Nat → Int32) : sX2_number num 10 = num 10 := pb_num num 10 (by decide) (by decide) (by decide)
theorem pb_n11 (num : Nat → Int32) : sX2_number num 11 = num 11 := pb_num num 11 (by decide) (by decide) (by decide)
theorem pb_n12 (num : Nat → Int32) : sX2_number num 12 = num 12 := pb_num num 12 (by decide) (by decide) (by decide)
theorem pb_n13 (num : Nat → Int32) : sX2_number num 13 = num 13 := pb_num num 13 (by decide) (by decide) (by decide)
theorem pb_n14 (num : Nat → Int32) : sX2_number num 14 = num 14 := pb_num num 14 (by decide) (by decide) (by decide)
theorem pb_n15 (num : Nat → Int32) : sX2_number num 15 = num 15 := pb_num num 15 (by decide) (by decide) (by decide)
theorem pb_n16 (num : Nat → Int32) : sX2_number num 16 = num 16 := pb_num num 16 (by decide) (by decide) (by decide)
theorem pb_n17 (num : Nat → Int32) : sX2_number num 17 = num 17 := pb_num num 17 (by decide) (by decide) (by decide)
theorem pb_n18 (num : Nat → Int32) : sX2_number num 18 = num 18 := pb_num num 18 (by decide) (by decide) (by decide)
theorem pb_n19 (num : Nat → Int32) : sX2_number num 19 = num 19 := pb_num num 19 (by decide) (by decide) (by decide)
theorem pb_n20 (num : Nat → Int32) : sX2_number num 20 = num 20 := pb_num num 20 (by decide) (by decide) (by decide)
theorem pb_n21 (num : Nat → Int32) : sX2_number num 21 = num 21 := pb_num num 21 (by decide) (by decide) (by decide)
theorem pb_n22 (num : Nat → Int32) : sX2_number num 22 = num 22 := pb_num num 22 (by decide) (by decide) (by decide)
theorem pb_n23 (num : Nat → Int32) : sX2_number num 23 = num 23 := pb_num num 23 (by decide) (by decide) (by decide)
theorem pb_n1 (num : Nat → Int32) : sX2_number num ((1 + 1) - 1) = num 1 := pb_num num 1 (by decide) (by decide) (by decide)
theorem pb_n2 (num : Nat → Int32) : sX2_number num ((1 + 2) - 1) = num 2 := pb_num num 2 (by decide) (by decide) (by decide)
theorem pb_n3 (num : Nat → Int32) : sX2_number num ((3 + 1) - 1) = num 3 := pb_num num 3 (by decide) (by decide) (by decide)
theorem pb_n4 (num : Nat → Int32) : sX2_number num ((3 + 2) - 1) = num 4 := pb_num num 4 (by decide) (by decide) (by decide)
theorem pb_n5 (num : Nat → Int32) : sX2_number num ((5 + 1) - 1) = num 5 := pb_num num 5 (by decide) (by decide) (by decide)
theorem pb_n6 (num : Nat → Int32) : sX2_number num ((5 + 2) - 1) = num 6 := pb_num num 6 (by decide) (by decide) (by decide)
theorem pb_bey : sX8_isBeyond = sX9_isBeyond := rfl
theorem pb_lean : sX8_leanOf = sX9_leanOf := rfl
theorem pb_and4095 (v : Int32) : (v &&& 4095).toInt = v.toInt % 4096 := by
  have h : (v &&& 4095).toBitVec.toNat = v.toBitVec.toNat % 4096 := by
    rw [Int32.toBitVec_and, BitVec.toNat_and]
    exact Nat.and_two_pow_sub_one_eq_mod _ 12
  have e1 : (v &&& 4095).toInt = if 2 * (v &&& 4095).toBitVec.toNat < 2 ^ 32 then ((v &&& 4095).toBitVec.toNat : Int) else ((v &&& 4095).toBitVec.toNat : Int) - ((2 ^ 32 : Nat) : Int) := BitVec.toInt_eq_toNat_cond _
  have e2 : v.toInt = if 2 * v.toBitVec.toNat < 2 ^ 32 then (v.toBitVec.toNat : Int) else (v.toBitVec.toNat : Int) - ((2 ^ 32 : Nat) : Int) := BitVec.toInt_eq_toNat_cond _
  rw [e1, if_pos (by omega), h, e2]
  split <;> omega
theorem pb_modI (v : Int32) : (sX9_mod v).toInt = v.toInt % 4096 := by
  have h := x_rem v
  have hl := x_rem_lt v
  have hq := Int.mul_tdiv_add_tmod v.toInt 4096
  have k : (4096 : Int32).toInt = 4096 := by decide
  unfold sX9_mod
  rw [← h] at hq
  by_cases c : 0 ≤ (v - v / 4096 * 4096)
  · rw [if_pos c]
    rw [Int32.le_iff_toInt_le, Int32.toInt_zero] at c
    omega
  · rw [if_neg c]
    rw [Int32.le_iff_toInt_le, Int32.toInt_zero] at c
    rw [x_addI (by rw [k]; omega) (by rw [k]; omega), k]
    omega
theorem pb_wrap (v : Int32) : sX8_wrapped v = sX9_mod v := Int32.toInt_inj.mp (by rw [pb_modI]; exact pb_and4095 v)
theorem pb_wrapI (v : Int32) : 0 ≤ (sX8_wrapped v).toInt ∧ (sX8_wrapped v).toInt < 4096 := by
  rw [pb_wrap, pb_modI]
  omega
set_option maxRecDepth 100000 in
theorem pb_sine_en : ∀ i, i < 64 → ∀ j, j < 64 → sX8_sineOf (nI (64 * i + j)) = sX9_sineOf (nI (64 * i + j)) ∧ (sX8_sineOf (nI (64 * i + j))).toInt ≤ 4096 ∧ -4096 ≤ (sX8_sineOf (nI (64 * i + j))).toInt := by decide +kernel
theorem pb_nI {x : Int32} (h : 0 ≤ x.toInt) : x = nI x.toInt.toNat := by
  have := x_rg x
  refine Int32.toInt_inj.mp ?_
  rw [nI_toInt (by omega)]
  omega
theorem pb_sine_lo {x : Int32} (h0 : 0 ≤ x.toInt) (h1 : x.toInt < 4096) : sX8_sineOf x = sX9_sineOf x ∧ (sX8_sineOf x).toInt ≤ 4096 ∧ -4096 ≤ (sX8_sineOf x).toInt := by
  rw [pb_nI h0]
  generalize hn : x.toInt.toNat = n
  have hn2 : n < 4096 := by omega
  have e : 64 * (n / 64) + n % 64 = n := Nat.div_add_mod n 64
  have := pb_sine_en (n / 64) (by omega) (n % 64) (by omega)
  rw [e] at this
  exact this
theorem pb_sine_mask (v : Int32) : sX8_sineOf v = sX8_sineOf (sX8_wrapped v) := by
  have h1 : sX8_wrapped v &&& 2047 = v &&& 2047 := by
    unfold sX8_wrapped
    rw [Int32.and_assoc]
    rfl
  have h2 : sX8_wrapped v &&& 2048 = v &&& 2048 := by
    unfold sX8_wrapped
    rw [Int32.and_assoc]
    rfl
  unfold sX8_sineOf
  rw [h1, h2]
theorem pb_sine (v : Int32) : sX8_sineOf v = sX9_sineOf (sX9_mod v) := by
  rw [pb_sine_mask, ← pb_wrap]
  exact (pb_sine_lo (pb_wrapI v).1 (pb_wrapI v).2).1
theorem pb_sineB (v : Int32) : (sX8_sineOf v).toInt.natAbs ≤ 4096 := by
  rw [pb_sine_mask]
  have := (pb_sine_lo (pb_wrapI v).1 (pb_wrapI v).2).2
  omega
theorem pb_mod_lo {x : Int32} (h0 : 0 ≤ x.toInt) (h1 : x.toInt < 4096) : sX9_mod x = x := Int32.toInt_inj.mp (by rw [pb_modI]; omega)
theorem pb_sine_id {x : Int32} (h0 : 0 ≤ x.toInt) (h1 : x.toInt < 4096) : sX8_sineOf x = sX9_sineOf x := by rw [pb_sine, pb_mod_lo h0 h1]
theorem pb_cos (a : Int32) : sX8_sineOf (a + 1024) = sX9_cosineOf a := pb_sine _
theorem pb_negI {x : Int32} (h : x.toInt ≠ -2147483648) : (-x).toInt = -x.toInt := by
  have := x_rg x
  rw [Int32.toInt_neg, x_bm (by omega) (by omega)]
theorem pb_cell {told num : Nat → Int32} (hT : told 17 = num 17) (i j : Int32) : sX2_hasCell num i j = sX9_isCell told i j := by
  unfold sX2_hasCell sX9_isCell sX8_isBeyond sX9_within
  rw [pb_n17, hT]
  generalize num 17 = c
  have key : ∀ v : Int32, ((if c < v then (1 : Int32) else if -c ≤ v then 0 else 1) = 0) ↔ ¬ ((if v < -c then (0 : Int32) else if c < v then 0 else 1) = 0) := by
    intro v
    by_cases h1 : c < v
    · by_cases h2 : v < -c <;> simp [h1, h2]
    · by_cases h2 : v < -c
      · have h3 : ¬ -c ≤ v := by
          rw [Int32.lt_iff_toInt_lt] at h2
          rw [Int32.le_iff_toInt_le]
          omega
        simp [h1, h2, h3]
      · have h3 : -c ≤ v := by
          rw [Int32.lt_iff_toInt_lt] at h2
          rw [Int32.le_iff_toInt_le]
          omega
        simp [h1, h2, h3]
  by_cases ha : (if i < -c then (0 : Int32) else if c < i then 0 else 1) = 0
  · rw [if_neg (fun h => (key i).mp h ha), if_pos ha]
  · rw [if_pos ((key i).mpr ha), if_neg ha]
    by_cases hb : (if j < -c then (0 : Int32) else if c < j then 0 else 1) = 0
    · rw [if_neg (fun h => (key j).mp h hb), if_pos hb]
    · rw [if_pos ((key j).mpr hb), if_neg hb]
/-- a cell, by its numbers -/
theorem pb_has {num : Nat → Int32} (h0 : 0 ≤ (num 17).toInt) {i j : Int32} : ¬ sX2_hasCell num i j = 0 ↔ (-(num 17).toInt ≤ i.toInt ∧ i.toInt ≤ (num 17).toInt) ∧ -(num 17).toInt ≤ j.toInt ∧ j.toInt ≤ (num 17).toInt := by
  unfold sX2_hasCell sX8_isBeyond
  rw [pb_n17]
  generalize num 17 = c at *
  have hc := x_rg c
  have hn : (-c).toInt = -c.toInt := pb_negI (by omega)
  have key : ∀ v : Int32, ((if c < v then (1 : Int32) else if -c ≤ v then 0 else 1) = 0) ↔ (-c.toInt ≤ v.toInt ∧ v.toInt ≤ c.toInt) := by
    intro v
    by_cases h1 : c < v
    · rw [if_pos h1]
      rw [Int32.lt_iff_toInt_lt] at h1
      exact ⟨fun h => absurd h (by decide), fun h => by omega⟩
    · rw [if_neg h1]
      rw [Int32.lt_iff_toInt_lt] at h1
      by_cases h2 : -c ≤ v
      · rw [if_pos h2]
        rw [Int32.le_iff_toInt_le, hn] at h2
        exact ⟨fun _ => ⟨h2, by omega⟩, fun _ => rfl⟩
      · rw [if_neg h2]
        rw [Int32.le_iff_toInt_le, hn] at h2
        exact ⟨fun h => absurd h (by decide), fun h => by omega⟩
  by_cases ha : (if c < i then (1 : Int32) else if -c ≤ i then 0 else 1) = 0
  · rw [if_pos ha]
    by_cases hb : (if c < j then (1 : Int32) else if -c ≤ j then 0 else 1) = 0
    · rw [if_pos hb]
      exact ⟨fun _ => ⟨(key i).mp ha, (key j).mp hb⟩, fun _ => by decide⟩
    · rw [if_neg hb]
      exact ⟨fun h => absurd rfl h, fun h => absurd ((key j).mpr h.2) hb⟩
  · rw [if_neg ha]
    exact ⟨fun h => absurd rfl h, fun h => absurd ((key i).mpr h.1) ha⟩
theorem pb_xor {a b : Int32} (hb : 0 ≤ b.toInt) : 0 ≤ (a ^^^ b) ↔ ¬ a.toInt < 0 := by
  rw [Int32.le_iff_toInt_le, Int32.toInt_zero]
  have h : (a ^^^ b).toBitVec.msb = (a.toBitVec.msb ^^ b.toBitVec.msb) := by rw [Int32.toBitVec_xor, BitVec.msb_xor]
  rw [BitVec.msb_eq_toInt, BitVec.msb_eq_toInt, BitVec.msb_eq_toInt] at h
  have h0 : decide (b.toBitVec.toInt < 0) = false := decide_eq_false (by show ¬ b.toInt < 0; omega)
  rw [h0, Bool.xor_false] at h
  have h2 : decide ((a ^^^ b).toInt < 0) = decide (a.toInt < 0) := h
  rw [decide_eq_decide] at h2
  omega
theorem pb_part {v s : Int32} (hs0 : 1 ≤ s.toInt) (hs1 : s.toInt ≤ 500) (hv0 : -1000000 ≤ v.toInt) (hv1 : v.toInt ≤ 1000000) : sX2_nearestCell v s = sX9_partOf v s := by
  unfold sX2_nearestCell sX9_partOf sJ9_floorDiv_7cf53
  have k2 : (2 : Int32).toInt = 2 := by decide
  have k1 : (1 : Int32).toInt = 1 := by decide
  have e1 : (2 * v).toInt = 2 * v.toInt := by rw [x_mulI (by rw [k2]; omega) (by rw [k2]; omega), k2]
  have e2 : (2 * v + s).toInt = 2 * v.toInt + s.toInt := by rw [x_addI (by rw [e1]; omega) (by rw [e1]; omega), e1]
  have e3 : (2 * s).toInt = 2 * s.toInt := by rw [x_mulI (by rw [k2]; omega) (by rw [k2]; omega), k2]
  rw [if_neg (by rw [Int32.le_iff_toInt_le, Int32.toInt_zero]; omega)]
  generalize 2 * v + s = a at *
  generalize 2 * s = b at *
  have hb0 : 2 ≤ b.toInt := by omega
  have hb1 : b.toInt ≤ 1000 := by omega
  have ha0 : -2100000 ≤ a.toInt := by omega
  have ha1 : a.toInt ≤ 2100000 := by omega
  have hne : b ≠ -1 := fun h => by rw [h] at hb0; exact absurd hb0 (by decide)
  have hd : (a / b).toInt = a.toInt.tdiv b.toInt := Int32.toInt_div_of_ne_right _ _ hne
  by_cases c : a.toInt < 0
  · have hal : a < 0 := by
      rw [Int32.lt_iff_toInt_lt, Int32.toInt_zero]
      exact c
    rw [if_neg (fun h => (pb_xor (by omega)).mp h c), if_pos hal]
    have f1 : (b - 1 - a).toInt = b.toInt - 1 - a.toInt := by
      have g : (b - 1).toInt = b.toInt - 1 := by rw [x_subI (by rw [k1]; omega) (by rw [k1]; omega), k1]
      rw [x_subI (by rw [g]; omega) (by rw [g]; omega), g]
    have f2 : ((b - 1 - a) / b).toInt = (b.toInt - 1 - a.toInt) / b.toInt := by
      rw [Int32.toInt_div_of_ne_right _ _ hne, f1, Int.tdiv_eq_ediv_of_nonneg (by omega)]
    generalize hB : b.toInt = B at *
    generalize hN : -a.toInt = n at *
    have hA : a.toInt = -n := by omega
    have hn0 : 0 < n := by omega
    have hdq : (a / b).toInt = -(n / B) := by rw [hd, hA, Int.neg_tdiv, Int.tdiv_eq_ediv_of_nonneg (by omega)]
    have hq0 : 0 ≤ n / B := Int.ediv_nonneg (by omega) (by omega)
    have hq1 : n / B ≤ n := Int.ediv_le_self _ (by omega)
    have hqr : B * (n / B) + n % B = n := Int.mul_ediv_add_emod n B
    have hr0 : 0 ≤ n % B := Int.emod_nonneg _ (by omega)
    have hr1 : n % B < B := Int.emod_lt_of_pos _ (by omega)
    have hmul : ((a / b) * b).toInt = -(B * (n / B)) := by
      rw [x_mulI (by rw [hdq, hB, Int.neg_mul, Int.mul_comm]; omega) (by rw [hdq, hB, Int.neg_mul, Int.mul_comm]; omega), hdq, hB, Int.neg_mul, Int.mul_comm]
    have hg : (b.toInt - 1 - a.toInt) = B - 1 + n := by omega
    have f3 : ((b - 1 - a) / b).toInt = (B - 1 + n) / B := by rw [f2, hA]; congr 1; omega
    by_cases hr : n % B = 0
    · have hQ : (B - 1 + n) / B = n / B := ((Int.ediv_emod_unique (r := B - 1) (q := n / B) (by omega : 0 < B)).mpr ⟨by omega, by omega, by omega⟩).1
      rw [if_pos (Int32.toInt_inj.mp (by rw [hmul, hA]; omega))]
      refine Int32.toInt_inj.mp ?_
      rw [pb_negI (by rw [f3, hQ]; omega), f3, hQ, hdq]
    · have hQ : (B - 1 + n) / B = n / B + 1 := ((Int.ediv_emod_unique (r := n % B - 1) (q := n / B + 1) (by omega : 0 < B)).mpr ⟨by rw [Int.mul_add]; omega, by omega, by omega⟩).1
      rw [if_neg (fun h => by
        have h2 := congrArg Int32.toInt h
        rw [hmul, hA] at h2
        omega)]
      refine Int32.toInt_inj.mp ?_
      rw [pb_negI (by rw [f3, hQ]; omega), f3, hQ, x_subI (by rw [hdq, k1]; omega) (by rw [hdq, k1]; omega), hdq, k1]
      omega
  · rw [if_pos ((pb_xor (by omega)).mpr c), if_neg (by rw [Int32.lt_iff_toInt_lt, Int32.toInt_zero]; exact c)]
/-- the reference's numbers are the class' -/
def pb_T (told num : Nat → Int32) : Prop := ∀ k, k < 24 → told k = num k
/-- in their bounds -/
def pb_R (num : Nat → Int32) : Prop := ∀ k, k < 24 → (xLeast k).toInt ≤ (num k).toInt ∧ (num k).toInt ≤ (xMost k).toInt
theorem pb_clampI {F p : Int32} (hF : 0 ≤ F.toInt) : xMax (-F) (xMin F p) = if p ≤ F then (if -F ≤ p then p else -F) else F := by
  have hr := x_rg F
  have hn : (-F).toInt = -F.toInt := pb_negI (by omega)
  unfold xMax xMin
  by_cases h1 : p ≤ F
  · rw [if_pos h1]
    have h2 : (if p < F then p else F) = p := by
      by_cases h3 : p < F
      · rw [if_pos h3]
      · rw [if_neg h3]
        rw [Int32.lt_iff_toInt_lt] at h3
        rw [Int32.le_iff_toInt_le] at h1
        exact Int32.toInt_inj.mp (by omega)
    rw [h2]
    by_cases h4 : -F ≤ p
    · rw [if_pos h4]
      by_cases h5 : -F < p
      · rw [if_pos h5]
      · rw [if_neg h5]
        rw [Int32.lt_iff_toInt_lt] at h5
        rw [Int32.le_iff_toInt_le] at h4
        exact Int32.toInt_inj.mp (by omega)
    · rw [if_neg h4, if_neg]
      intro h5
      rw [Int32.lt_iff_toInt_lt] at h5
      rw [Int32.le_iff_toInt_le] at h4
      omega
  · rw [if_neg h1, if_neg (fun h => h1 (Int32.le_of_lt h))]
    by_cases h5 : -F < F
    · rw [if_pos h5]
    · rw [if_neg h5]
      rw [Int32.lt_iff_toInt_lt, hn] at h5
      exact Int32.toInt_inj.mp (by rw [hn]; omega)
theorem pb_bal {told num : Nat → Int32} (hT : pb_T told num) (now f : Nat → Int32) (hF : 0 ≤ (now 5).toInt) : sX9_balancing_try told now f = sX2_balancingPush num (f 2) (f 3) (f 10) (f 11) (f 12) (f 13) (now 5) := by
  unfold sX9_balancing_try sX2_balancingPush
  rw [pb_n9, pb_n10, pb_n11, pb_n12, pb_n13, pb_n14, hT 9 (by decide), hT 10 (by decide), hT 11 (by decide), hT 12 (by decide), hT 13 (by decide), hT 14 (by decide), pb_lean, pb_clampI hF]
theorem pb_energy {told num : Nat → Int32} (h1 : told 1 = num 1) (now : Nat → Int32) : sX2_energyOf num (now 10) (now 11) (now 12) (now 13) 1 = sX9_energyOf_0 now told := by
  unfold sX2_energyOf sX9_energyOf_0
  rw [pb_n1, pb_cos, h1]
  rfl
theorem pb_energy2 {told num : Nat → Int32} (h1 : told 2 = num 2) (now : Nat → Int32) : sX2_energyOf num (now 10) (now 11) (now 12) (now 13) 2 = sX9_energyOf_1 now told := by
  unfold sX2_energyOf sX9_energyOf_1
  rw [pb_n2, pb_cos, h1]
  rfl
theorem pb_target {x : Int32} (h0 : 0 ≤ x.toInt) (h1 : x.toInt ≤ 200) : (x * 10430).toInt64 = x.toInt64 * 10430 := by
  have k : (10430 : Int32).toInt = 10430 := by decide
  have k6 : (10430 : Int64).toInt = 10430 := by decide
  refine Int64.toInt_inj.mp ?_
  rw [Int32.toInt_toInt64, x_mulI (by rw [k]; omega) (by rw [k]; omega), x_mulL (by rw [Int32.toInt_toInt64, k6]; omega) (by rw [Int32.toInt_toInt64, k6]; omega), Int32.toInt_toInt64, k, k6]
theorem pb_R1 {num : Nat → Int32} (hR : pb_R num) : 0 ≤ (num 1).toInt ∧ (num 1).toInt ≤ 200 := hR 1 (by decide)
theorem pb_push {told num : Nat → Int32} (hT : pb_T told num) (hR : pb_R num) (now : Nat → Int32) (hF : 0 ≤ (now 5).toInt) : sX9_pushNow now told = sX8_pushIn num (now 1) (now 5) (now 2) (now 3) (now 10) (now 11) (now 12) (now 13) := by
  unfold sX9_pushNow sX8_pushIn
  by_cases h2 : now 1 = 2
  · rw [if_pos h2, if_neg (by rw [h2]; decide), if_pos h2]
    exact pb_bal hT now now hF
  · rw [if_neg h2, if_neg h2]
    by_cases h1 : now 1 = 1
    · rw [if_pos h1, if_pos h1]
      unfold sX2_swingPush sX2_targetOf
      rw [pb_cos, pb_energy (hT 1 (by decide)), pb_n1, pb_target (pb_R1 hR).1 (pb_R1 hR).2, hT 1 (by decide)]
    · rw [if_neg h1, if_neg h1]
theorem pb_turn0 {told num : Nat → Int32} (hT : pb_T told num) (f : Nat → Int32) (u : Int32) (h0 : 0 ≤ (f 10).toInt) (h1 : (f 10).toInt < 4096) : sX9_turn_0 told f u = sX2_speedGain num (f 10) (f 11) (f 12) (f 13) 1 u := by
  unfold sX9_turn_0 sX2_speedGain
  rw [pb_n1, pb_n5, pb_n3, hT 1 (by decide), hT 5 (by decide), hT 3 (by decide), ← pb_cos, ← pb_sine_id h0 h1]
  rfl
theorem pb_turn1 {told num : Nat → Int32} (hT : pb_T told num) (f : Nat → Int32) (u : Int32) (h0 : 0 ≤ (f 11).toInt) (h1 : (f 11).toInt < 4096) : sX9_turn_1 told f u = sX2_speedGain num (f 10) (f 11) (f 12) (f 13) 2 u := by
  unfold sX9_turn_1 sX2_speedGain
  rw [pb_n2, pb_n6, pb_n4, hT 2 (by decide), hT 6 (by decide), hT 4 (by decide), ← pb_cos, ← pb_sine_id h0 h1]
  rfl
abbrev pbM : Type := Int32 × Int32 × Int32 × Int32 × Int32 × Int32
def pb_mo (f : Nat → Int32) : pbM := (f 2, f 3, f 10, f 11, f 12, f 13)
def pb_ms (k : Nat) : Bool := k == 2 || k == 3 || k == 10 || k == 11 || k == 12 || k == 13
/-- one step, of class and reference -/
theorem pb_step {told num : Nat → Int32} (hT : pb_T told num) (f : Nat → Int32) (u : Int32) (h0 : 0 ≤ (f 10).toInt) (h1 : (f 10).toInt < 4096) (h2 : 0 ≤ (f 11).toInt) (h3 : (f 11).toInt < 4096) : (sX9_step told f u).1 = (sX2_makeStep num (f 2) (f 3) (f 10) (f 11) (f 12) (f 13) u).1 ∧ pb_mo (sX9_step told f u).2 = (sX2_makeStep num (f 2) (f 3) (f 10) (f 11) (f 12) (f 13) u).2 ∧ ∀ k, pb_ms k = false → (sX9_step told f u).2 k = f k := by
  unfold sX9_step sX2_makeStep sX2_makeStep_q_1 sX2_outcomeOf
  rw [pb_turn0 hT f u h0 h1, pb_turn1 hT f u h2 h3, ← pb_sine (f 10 - f 11), pb_n8, pb_n0, pb_n20, hT 8 (by decide), hT 0 (by decide), hT 20 (by decide), ← pb_bey]
  simp only [← pb_wrap]
  generalize f 12 + (sX2_speedGain num (f 10) (f 11) (f 12) (f 13) 1 u - num 8 * sX8_sineOf (f 10 - f 11) / 4096) = W1
  generalize f 13 + (sX2_speedGain num (f 10) (f 11) (f 12) (f 13) 2 u + num 8 * sX8_sineOf (f 10 - f 11) / 4096) = W2
  have hk : ∀ k, pb_ms k = false → k ≠ 2 ∧ k ≠ 3 ∧ k ≠ 10 ∧ k ≠ 11 ∧ k ≠ 12 ∧ k ≠ 13 := by
    intro k h
    simp only [pb_ms, Bool.or_eq_false_iff, beq_eq_false_iff_ne] at h
    exact ⟨h.1.1.1.1.1, h.1.1.1.1.2, h.1.1.1.2, h.1.1.2, h.1.2, h.2⟩
  by_cases c1 : sX8_isBeyond (f 2 + (f 3 + u) / 8) (num 0) = 0
  · rw [if_pos c1, if_pos c1]
    by_cases c2 : sX8_isBeyond W1 (num 20) = 0
    · rw [if_pos c2, if_pos c2]
      by_cases c3 : sX8_isBeyond W2 (num 20) = 0
      · rw [if_pos c3, if_pos c3]
        refine ⟨rfl, rfl, fun k h => ?_⟩
        obtain ⟨a, b, c, d, e, g⟩ := hk k h
        simp only [upd, if_neg a, if_neg b, if_neg c, if_neg d, if_neg e, if_neg g]
      · rw [if_neg c3, if_neg c3]
        refine ⟨rfl, rfl, fun k h => ?_⟩
        obtain ⟨a, b, c, d, e, g⟩ := hk k h
        simp only [upd, if_neg a, if_neg b, if_neg c, if_neg d, if_neg e, if_neg g]
    · rw [if_neg c2, if_neg c2]
      refine ⟨rfl, rfl, fun k h => ?_⟩
      obtain ⟨a, b, c, d, e, g⟩ := hk k h
      simp only [upd, if_neg a, if_neg b, if_neg c, if_neg d, if_neg e, if_neg g]
  · rw [if_neg c1, if_neg c1]
    by_cases c2 : f 2 + (f 3 + u) / 8 ≤ 0
    · rw [if_pos c2, if_pos c2]
      refine ⟨rfl, rfl, fun k h => ?_⟩
      obtain ⟨a, b, c, d, e, g⟩ := hk k h
      simp only [upd, if_neg a, if_neg b, if_neg c, if_neg d, if_neg e, if_neg g]
    · rw [if_neg c2, if_neg c2]
      refine ⟨rfl, rfl, fun k h => ?_⟩
      obtain ⟨a, b, c, d, e, g⟩ := hk k h
      simp only [upd, if_neg a, if_neg b, if_neg c, if_neg d, if_neg e, if_neg g]
theorem pb_leans {told num : Nat → Int32} (f : Nat → Int32) {k : Int32} {n : Nat} (hk : sX2_number num k = num n) (hT : told n = num n) : sX9_leansBeyond f (told n) = sX2_leansBeyond num (f 10) (f 11) k := by
  unfold sX9_leansBeyond sX2_leansBeyond
  rw [hk, hT]
  rfl
