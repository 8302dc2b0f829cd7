/-! one tick, of class and reference -/
theorem pb_m32 {x y : Int32} {a b : Nat} (hx : x.toInt.natAbs ≤ a) (hy : y.toInt.natAbs ≤ b) (hab : a * b < 2147483648) : (x * y).toInt = x.toInt * y.toInt ∧ (x * y).toInt.natAbs ≤ a * b := by
  have h : (x.toInt * y.toInt).natAbs ≤ a * b := by
    rw [Int.natAbs_mul]
    exact Nat.mul_le_mul hx hy
  have e : (x * y).toInt = x.toInt * y.toInt := x_mulI (by omega) (by omega)
  exact ⟨e, by rw [e]; exact h⟩
theorem pb_d32 {x : Int32} {a : Nat} (hx : x.toInt.natAbs ≤ a) : (x / 4096).toInt.natAbs ≤ a / 4096 := by
  have k : (4096 : Int32).toInt = 4096 := by decide
  rw [Int32.toInt_div_of_ne_right _ _ (by decide), k, Int.natAbs_tdiv]
  exact Nat.div_le_div_right hx
theorem pb_a32 {x y : Int32} {a b : Nat} (hx : x.toInt.natAbs ≤ a) (hy : y.toInt.natAbs ≤ b) (hab : a + b < 2147483648) : (x + y).toInt.natAbs ≤ a + b := by
  rw [x_addI (by omega) (by omega)]
  omega
theorem pb_s32 {x y : Int32} {a b : Nat} (hx : x.toInt.natAbs ≤ a) (hy : y.toInt.natAbs ≤ b) (hab : a + b < 2147483648) : (x - y).toInt.natAbs ≤ a + b := by
  rw [x_subI (by omega) (by omega)]
  omega
theorem pb_gain {g c d s t w u : Int32} (hg : g.toInt.natAbs ≤ 200) (hc : c.toInt.natAbs ≤ 9) (hd : d.toInt.natAbs ≤ 400) (hs : s.toInt.natAbs ≤ 4096) (ht : t.toInt.natAbs ≤ 4096) (hw : w.toInt.natAbs ≤ 9999) (hu : u.toInt.natAbs ≤ 500) : ((g * s - c * u * t) / 4096 - d * w / 4096).toInt.natAbs ≤ 5676 := by
  have a1 := (pb_m32 hg hs (by decide)).2
  have a2 := (pb_m32 (pb_m32 hc hu (by decide)).2 ht (by decide)).2
  have a3 := (pb_m32 hd hw (by decide)).2
  have a4 := pb_d32 (pb_s32 a1 a2 (by decide))
  have a5 := pb_d32 a3
  exact Nat.le_trans (pb_s32 a4 a5 (by decide)) (by decide)
theorem pb_nat {x : Int32} {a : Nat} (h : 0 ≤ x.toInt ∧ x.toInt ≤ a) : x.toInt.natAbs ≤ a := by omega
theorem pb_speed {num : Nat → Int32} (hR : pb_R num) {a1 a2 w1 w2 u : Int32} (h1 : w1.toInt.natAbs ≤ 9999) (h2 : w2.toInt.natAbs ≤ 9999) (hu : u.toInt.natAbs ≤ 500) (x v : Int32) : (sX2_makeStep num x v a1 a2 w1 w2 u).2.2.2.2.2.1.toInt.natAbs ≤ 20000 ∧ (sX2_makeStep num x v a1 a2 w1 w2 u).2.2.2.2.2.2.toInt.natAbs ≤ 20000 := by
  have r1 := pb_nat (a := 200) (hR 1 (by decide))
  have r2 := pb_nat (a := 200) (hR 2 (by decide))
  have r3 := pb_nat (a := 400) (hR 3 (by decide))
  have r4 := pb_nat (a := 400) (hR 4 (by decide))
  have r5 := pb_nat (a := 9) (hR 5 (by decide))
  have r6 := pb_nat (a := 9) (hR 6 (by decide))
  have r8 := pb_nat (a := 200) (hR 8 (by decide))
  have s := pb_d32 (pb_m32 r8 (pb_sineB (a1 - a2)) (by decide)).2
  have g1 := pb_gain r1 r5 r3 (pb_sineB a1) (pb_sineB (a1 + 1024)) h1 hu
  have g2 := pb_gain r2 r6 r4 (pb_sineB a2) (pb_sineB (a2 + 1024)) h2 hu
  have e1 : (sX2_makeStep num x v a1 a2 w1 w2 u).2.2.2.2.2.1 = w1 + ((num 1 * sX8_sineOf a1 - num 5 * u * sX8_sineOf (a1 + 1024)) / 4096 - num 3 * w1 / 4096 - num 8 * sX8_sineOf (a1 - a2) / 4096) := by
    show w1 + (sX2_speedGain num a1 a2 w1 w2 1 u - sX2_number num 8 * sX8_sineOf (a1 - a2) / 4096) = _
    unfold sX2_speedGain
    rw [pb_n1, pb_n5, pb_n3, pb_n8]
    rfl
  have e2 : (sX2_makeStep num x v a1 a2 w1 w2 u).2.2.2.2.2.2 = w2 + ((num 2 * sX8_sineOf a2 - num 6 * u * sX8_sineOf (a2 + 1024)) / 4096 - num 4 * w2 / 4096 + num 8 * sX8_sineOf (a1 - a2) / 4096) := by
    show w2 + (sX2_speedGain num a1 a2 w1 w2 2 u + sX2_number num 8 * sX8_sineOf (a1 - a2) / 4096) = _
    unfold sX2_speedGain
    rw [pb_n2, pb_n6, pb_n4, pb_n8]
    rfl
  rw [e1, e2]
  exact ⟨Nat.le_trans (pb_a32 h1 (pb_s32 g1 s (by decide)) (by decide)) (by decide), Nat.le_trans (pb_a32 h2 (pb_a32 g2 s (by decide)) (by decide)) (by decide)⟩
theorem pb_beyI {v c : Int32} (hc : 0 ≤ c.toInt) (h : sX8_isBeyond v c = 0) : v.toInt.natAbs ≤ c.toInt.toNat := by
  unfold sX8_isBeyond at h
  have hr := x_rg c
  have hn : (-c).toInt = -c.toInt := pb_negI (by omega)
  by_cases h1 : c < v
  · rw [if_pos h1] at h
    exact absurd h (by decide)
  · rw [if_neg h1] at h
    by_cases h2 : -c ≤ v
    · rw [Int32.lt_iff_toInt_lt] at h1
      rw [Int32.le_iff_toInt_le, hn] at h2
      omega
    · rw [if_neg h2] at h
      exact absurd h (by decide)
theorem pb_code (num : Nat → Int32) (x v a1 a2 w1 w2 u : Int32) : ((sX2_makeStep num x v a1 a2 w1 w2 u).1 = 0 ∧ sX8_isBeyond (sX2_makeStep num x v a1 a2 w1 w2 u).2.2.2.2.2.1 (num 20) = 0 ∧ sX8_isBeyond (sX2_makeStep num x v a1 a2 w1 w2 u).2.2.2.2.2.2 (num 20) = 0) ∨ (sX2_makeStep num x v a1 a2 w1 w2 u).1 = 1 ∨ (sX2_makeStep num x v a1 a2 w1 w2 u).1 = 2 := by
  unfold sX2_makeStep sX2_makeStep_q_1 sX2_outcomeOf
  rw [pb_n20]
  dsimp only
  generalize w1 + (sX2_speedGain num a1 a2 w1 w2 1 u - sX2_number num 8 * sX8_sineOf (a1 - a2) / 4096) = W1
  generalize w2 + (sX2_speedGain num a1 a2 w1 w2 2 u + sX2_number num 8 * sX8_sineOf (a1 - a2) / 4096) = W2
  by_cases c1 : sX8_isBeyond (x + (v + u) / 8) (sX2_number num 0) = 0
  · rw [if_pos c1]
    by_cases c2 : sX8_isBeyond W1 (num 20) = 0
    · rw [if_pos c2]
      by_cases c3 : sX8_isBeyond W2 (num 20) = 0
      · rw [if_pos c3]
        exact Or.inl ⟨rfl, c2, c3⟩
      · rw [if_neg c3]
        exact Or.inr (Or.inr rfl)
    · rw [if_neg c2]
      exact Or.inr (Or.inr rfl)
  · rw [if_neg c1]
    by_cases c2 : x + (v + u) / 8 ≤ 0
    · rw [if_pos c2]
      exact Or.inr (Or.inl rfl)
    · rw [if_neg c2]
      exact Or.inr (Or.inl rfl)
theorem pb_balB (num : Nat → Int32) (x v a1 a2 w1 w2 : Int32) {force : Int32} (h0 : 0 ≤ force.toInt) (h1 : force.toInt ≤ 500) : (sX2_balancingPush num x v a1 a2 w1 w2 force).toInt.natAbs ≤ 500 := by
  unfold sX2_balancingPush
  rw [pb_clampI h0]
  have hn : (-force).toInt = -force.toInt := pb_negI (by omega)
  generalize (sX2_number num 9 * sX8_leanOf a1 + sX2_number num 10 * w1 + sX2_number num 11 * sX8_leanOf a2 + sX2_number num 12 * w2 + sX2_number num 13 * x + sX2_number num 14 * v) / 64 = p
  by_cases c1 : p ≤ force
  · rw [if_pos c1]
    by_cases c2 : -force ≤ p
    · rw [if_pos c2]
      rw [Int32.le_iff_toInt_le] at c1 c2
      omega
    · rw [if_neg c2, hn]
      omega
  · rw [if_neg c1]
    omega
theorem pb_pushB (num : Nat → Int32) (mode x v a1 a2 w1 w2 : Int32) {force : Int32} (h0 : 0 ≤ force.toInt) (h1 : force.toInt ≤ 500) : (sX8_pushIn num mode force x v a1 a2 w1 w2).toInt.natAbs ≤ 500 := by
  have hn : (-force).toInt = -force.toInt := pb_negI (by omega)
  have f1 : force.toInt.natAbs ≤ 500 := by omega
  have f2 : (-force).toInt.natAbs ≤ 500 := by omega
  unfold sX8_pushIn
  by_cases c1 : mode = 1
  · rw [if_pos c1]
    unfold sX2_swingPush
    split
    · exact f1
    · split
      · split
        · exact f2
        · exact f1
      · split
        · exact f1
        · exact f2
  · rw [if_neg c1]
    by_cases c2 : mode = 2
    · rw [if_pos c2]
      exact pb_balB num x v a1 a2 w1 w2 h0 h1
    · rw [if_neg c2]
      decide
abbrev pbG : Type := Int32 × Int32 × Int32 × Int32 × Int32 × Int32 × Int32 × Int32 × Int32 × Int32 × Int32 × Int32 × Int64 × Int64 × Int64 × Int64
/-- the class' numbers, out of the reference's row -/
def pb_G (row : Nat → Int32) (b1 b2 b3 b4 : Int64) : pbG := (row 2, row 3, row 10, row 11, row 12, row 13, row 0, row 1, row 4, row 6, row 7, row 9, b1, b2, b3, b4)
def pb_V (T : Int) (row : Nat → Int32) : Prop := (0 ≤ (row 0).toInt ∧ (row 0).toInt ≤ T) ∧ (row 1 = 0 ∨ row 1 = 1 ∨ row 1 = 2 ∨ row 1 = 3) ∧ pb_B row ∧ (row 1 ≠ 3 → (row 12).toInt.natAbs ≤ 9999 ∧ (row 13).toInt.natAbs ≤ 9999) ∧ 1 ≤ (row 5).toInt ∧ (row 5).toInt ≤ 500
theorem pb_ringPass {t : Nat} {b1 b2 b3 b4 : Int64} {row : Nat → Int32} (h : pb_ring t b1 b2 b3 b4 row) (v : Int32) : pb_ring (t + 1) (sX4_passTick b1 b2 b3 b4).1 (sX4_passTick b1 b2 b3 b4).2.1 (sX4_passTick b1 b2 b3 b4).2.2.1 (sX4_passTick b1 b2 b3 b4).2.2.2 (upd (upd row 0 v) (14 + (t + 1) % 200) 0) := by
  refine ⟨fun i hi => ?_, fun k hk => ?_⟩
  · rw [pb_pass b1 b2 b3 b4 (by omega)]
    by_cases h0 : i = 0
    · subst h0
      rw [if_pos rfl]
      simp [upd]
    · rw [if_neg h0, h.1 (i - 1) (by omega)]
      have e1 : t + 1 - i = t - (i - 1) := by omega
      have hne : 14 + (t - (i - 1)) % 200 ≠ 14 + (t + 1) % 200 ∨ ¬ i < t + 1 := by omega
      rw [e1]
      have e3 : decide (i < t + 1) = decide (i - 1 < t) := by rw [decide_eq_decide]; omega
      rw [e3]
      by_cases hl : i - 1 < t
      · rw [decide_eq_true hl, Bool.true_and, Bool.true_and]
        have hn2 : 14 + (t - (i - 1)) % 200 ≠ 14 + (t + 1) % 200 := by omega
        have e4 : upd (upd row 0 v) (14 + (t + 1) % 200) 0 (14 + (t - (i - 1)) % 200) = row (14 + (t - (i - 1)) % 200) := by
          show (if _ then _ else _) = _
          rw [if_neg hn2]
          show (if _ then _ else _) = _
          rw [if_neg (by omega)]
        rw [e4]
      · rw [decide_eq_false hl, Bool.false_and, Bool.false_and]
  · by_cases hk2 : 14 + k = 14 + (t + 1) % 200
    · left
      show (if _ then _ else _) = _
      rw [if_pos hk2]
    · have e4 : upd (upd row 0 v) (14 + (t + 1) % 200) 0 (14 + k) = row (14 + k) := by
        show (if _ then _ else _) = _
        rw [if_neg hk2]
        show (if _ then _ else _) = _
        rw [if_neg (by omega)]
      rw [e4]
      exact h.2 k hk
theorem pb_ringMark {t : Nat} (ht : 0 < t) {b1 b2 b3 b4 : Int64} {row : Nat → Int32} (h : pb_ring t b1 b2 b3 b4 row) (m s : Int32) : pb_ring t (sX4_markTick b1) b2 b3 b4 (upd (upd (upd row 1 m) 6 s) (14 + t % 200) 1) := by
  refine ⟨fun i hi => ?_, fun k hk => ?_⟩
  · rw [pb_mark]
    by_cases h0 : i = 0
    · subst h0
      simp [upd, ht]
    · rw [decide_eq_false h0, Bool.false_or, h.1 i hi]
      by_cases hl : i < t
      · rw [decide_eq_true hl, Bool.true_and, Bool.true_and]
        have e4 : upd (upd (upd row 1 m) 6 s) (14 + t % 200) 1 (14 + (t - i) % 200) = row (14 + (t - i) % 200) := by
          show (if _ then _ else _) = _
          rw [if_neg (by omega)]
          show (if _ then _ else _) = _
          rw [if_neg (by omega)]
          show (if _ then _ else _) = _
          rw [if_neg (by omega)]
        rw [e4]
      · rw [decide_eq_false hl, Bool.false_and, Bool.false_and]
  · by_cases hk2 : 14 + k = 14 + t % 200
    · right
      show (if _ then _ else _) = _
      rw [if_pos hk2]
    · have e4 : upd (upd (upd row 1 m) 6 s) (14 + t % 200) 1 (14 + k) = row (14 + k) := by
        show (if _ then _ else _) = _
        rw [if_neg hk2]
        show (if _ then _ else _) = _
        rw [if_neg (by omega)]
        show (if _ then _ else _) = _
        rw [if_neg (by omega)]
      rw [e4]
      exact h.2 k hk
theorem pb_ringOf {t : Nat} {b1 b2 b3 b4 : Int64} {row row' : Nat → Int32} (h : pb_ring t b1 b2 b3 b4 row) (e : ∀ k, k < 200 → row' (14 + k) = row (14 + k)) : pb_ring t b1 b2 b3 b4 row' :=
  ⟨fun i hi => by rw [h.1 i hi, e _ (by omega)], fun k hk => by rw [e k hk]; exact h.2 k hk⟩
theorem pb_slot {x : Int32} {t : Nat} (ht : t < 1000000) (h : x = nI t) : (14 + (x - x / 200 * 200)).toNatClampNeg = 14 + t % 200 := by
  rw [h, show (200 : Int32) = nI 200 from rfl, pk_rem (by omega) (by decide) (by decide), show (14 : Int32) = nI 14 from rfl, nI_add, nI_clamp (by omega)]
/-- behind a switch: the count, and what it does to mode and lock -/
theorem pb_after {told num : Nat → Int32} (hT : pb_T told num) (hR : pb_R num) {t : Nat} (h0 : 0 < t) (ht : t < 1000000) {row : Nat → Int32} (hrow : row 0 = nI t) {b1 b2 b3 b4 : Int64} (h : pb_ring t b1 b2 b3 b4 row) (m : Int32) : ∃ row' m' l', (if sX9_switchesOf (upd (upd (upd row 1 m) 6 (row 6 + 1)) (14 + t % 200) 1) (told 22) ≤ told 21 then upd (upd (upd row 1 m) 6 (row 6 + 1)) (14 + t % 200) 1 else upd (upd (upd (upd (upd row 1 m) 6 (row 6 + 1)) (14 + t % 200) 1) 1 1) 4 (told 23)) = row' ∧ (if sX4_countIn (sX4_markTick b1) b2 b3 b4 (sX2_number num 22) ≤ sX2_number num 21 then (m, row 4, row 6 + 1, sX4_markTick b1) else (1, sX2_number num 23, row 6 + 1, sX4_markTick b1)) = (m', l', row 6 + 1, sX4_markTick b1) ∧ row' 1 = m' ∧ row' 4 = l' ∧ row' 6 = row 6 + 1 ∧ (m' = m ∨ m' = 1) ∧ pb_ring t (sX4_markTick b1) b2 b3 b4 row' ∧ ∀ k, k < 14 → k ≠ 1 → k ≠ 4 → k ≠ 6 → row' k = row k := by
  have hm := pb_ringMark h0 h m (row 6 + 1)
  have h22 := hR 22 (by decide)
  have k22 : (xMost 22).toInt = 200 := by decide
  have l22 : (xLeast 22).toInt = 1 := by decide
  rw [k22, l22] at h22
  have hK : num 22 = nI (num 22).toInt.toNat := pb_nI (by omega)
  have hrow2 : upd (upd (upd row 1 m) 6 (row 6 + 1)) (14 + t % 200) 1 0 = nI t := by
    show (if _ then _ else _) = _
    rw [if_neg (by omega)]
    exact hrow
  have hc : sX9_switchesOf (upd (upd (upd row 1 m) 6 (row 6 + 1)) (14 + t % 200) 1) (told 22) = sX4_countIn (sX4_markTick b1) b2 b3 b4 (sX2_number num 22) := by
    rw [pb_n22, hT 22 (by decide), hK]
    exact pb_swOf ht hrow2 hm (by omega)
  have lo : ∀ k, k < 14 → upd (upd (upd row 1 m) 6 (row 6 + 1)) (14 + t % 200) 1 k = upd (upd row 1 m) 6 (row 6 + 1) k := fun k hk => by
    show (if _ then _ else _) = _
    rw [if_neg (by omega)]
  rw [hc, pb_n21, pb_n23, hT 21 (by decide), hT 23 (by decide)]
  by_cases c : sX4_countIn (sX4_markTick b1) b2 b3 b4 (sX2_number num 22) ≤ num 21
  · refine ⟨_, m, row 4, rfl, by rw [if_pos c], ?_⟩
    rw [if_pos c]
    refine ⟨by rw [lo 1 (by decide)]; rfl, by rw [lo 4 (by decide)]; rfl, by rw [lo 6 (by decide)]; rfl, Or.inl rfl, hm, fun k hk h1 h4 h6 => ?_⟩
    rw [lo k hk]
    show (if _ then _ else _) = _
    rw [if_neg h6]
    show (if _ then _ else _) = _
    rw [if_neg h1]
  · refine ⟨_, 1, num 23, rfl, by rw [if_neg c], ?_⟩
    rw [if_neg c]
    refine ⟨rfl, rfl, ?_, Or.inr rfl, pb_ringOf hm (fun k hk => ?_), fun k hk h1 h4 h6 => ?_⟩
    · show upd (upd (upd row 1 m) 6 (row 6 + 1)) (14 + t % 200) 1 6 = _
      rw [lo 6 (by decide)]
      rfl
    · show (if _ then _ else _) = _
      rw [if_neg (by omega)]
      show (if _ then _ else _) = _
      rw [if_neg (by omega)]
    · show (if _ then _ else _) = _
      rw [if_neg h4]
      show (if _ then _ else _) = _
      rw [if_neg h1, lo k hk]
      show (if _ then _ else _) = _
      rw [if_neg h6]
      show (if _ then _ else _) = _
      rw [if_neg h1]
abbrev pbP : Type := (Nat → Int32) × Int32 × (Nat → Int32) × (Nat → Int32) × (Nat → Int32)
/-- the switch of modes -/
theorem pb_switch {told num : Nat → Int32} (hT : pb_T told num) (hR : pb_R num) {t : Nat} (h0 : 0 < t) (ht : t < 1000000) {row : Nat → Int32} (hrow : row 0 = nI t) (hB : pb_B row) (hF : 1 ≤ (row 5).toInt) {b1 b2 b3 b4 : Int64} (h : pb_ring t b1 b2 b3 b4 row) {tw : Int32} {mrs mfs tri rs fs : Nat → Int32} (hM : pb_MT num tw mrs mfs) (hok : pb_ok num (row 5) rs fs) : ∃ (r : pbP) (b1' : Int64), sX9_switches tw row told mrs mfs tri = r ∧ sX8_switchModeIfDue num (row 1) (row 4) (row 6) (row 10) (row 11) (row 12) (row 13) rs b1 b2 b3 b4 = (r.1 1, r.1 4, r.1 6, b1') ∧ (r.1 1 = row 1 ∨ r.1 1 = 1 ∨ r.1 1 = 2) ∧ pb_ring t b1' b2 b3 b4 r.1 ∧ (∀ k, k < 14 → k ≠ 1 → k ≠ 4 → k ≠ 6 → r.1 k = row k) ∧ pb_MT num r.2.1 r.2.2.1 r.2.2.2.1 := by
  have hl : sX9_leansBeyond row (told 19) = sX2_leansBeyond num (row 10) (row 11) 19 := pb_leans row (pb_n19 num) (hT 19 (by decide))
  have hs := pb_slot ht hrow
  by_cases m1 : row 1 = 1
  · have m2 : ¬ row 1 = 2 := by rw [m1]; decide
    by_cases l0 : row 4 = 0
    · obtain ⟨q, q1, q2, q3⟩ := pb_capt hT hR tw row mrs mfs tri hB hF hM hok
      by_cases c : sX8_canCapture num (row 10) (row 11) (row 12) (row 13) rs = 0
      · refine ⟨(row, q), b1, ?_, ?_, Or.inl rfl, h, fun _ _ _ _ _ => rfl, Or.inr (by rw [q2]; exact q3)⟩
        · unfold sX9_switches sX9_switches_q_25
          rw [if_pos m1, if_pos l0, q1, if_pos c, if_neg m2]
        · unfold sX8_switchModeIfDue
          rw [if_pos m1, if_pos l0, if_pos c, if_neg m2]
      · obtain ⟨row', m', l', e1, e2, e3, e4, e5, e6, e7, e8⟩ := pb_after hT hR h0 ht hrow h 2
        refine ⟨(row', q), sX4_markTick b1, ?_, ?_, ?_, e7, e8, Or.inr (by rw [q2]; exact q3)⟩
        · unfold sX9_switches sX9_switches_q_25 sX9_switches_q_41
          rw [if_pos m1, if_pos l0, q1, if_neg c, if_neg m2, hs, ← e1]
          split
          · rfl
          · rfl
        · unfold sX8_switchModeIfDue sX8_switchModeIfDue_q_16
          rw [if_pos m1, if_pos l0, if_neg c, e2]
          show _ = (row' 1, row' 4, row' 6, _)
          rw [e3, e4, e5]
        · show row' 1 = row 1 ∨ row' 1 = 1 ∨ row' 1 = 2
          rw [e3]
          rcases e6 with e | e
          · exact Or.inr (Or.inr e)
          · exact Or.inr (Or.inl e)
    · refine ⟨(row, tw, mrs, mfs, tri), b1, ?_, ?_, Or.inl rfl, h, fun _ _ _ _ _ => rfl, hM⟩
      · unfold sX9_switches
        rw [if_pos m1, if_neg l0, if_neg m2]
      · unfold sX8_switchModeIfDue
        rw [if_pos m1, if_neg l0, if_neg m2]
  · by_cases m2 : row 1 = 2
    · by_cases c : sX2_leansBeyond num (row 10) (row 11) 19 = 0
      · refine ⟨(row, tw, mrs, mfs, tri), b1, ?_, ?_, Or.inl rfl, h, fun _ _ _ _ _ => rfl, hM⟩
        · unfold sX9_switches
          rw [if_neg m1, if_pos m2, hl, if_pos c]
        · unfold sX8_switchModeIfDue
          rw [if_neg m1, if_pos m2, if_pos c]
      · obtain ⟨row', m', l', e1, e2, e3, e4, e5, e6, e7, e8⟩ := pb_after hT hR h0 ht hrow h 1
        refine ⟨(row', tw, mrs, mfs, tri), sX4_markTick b1, ?_, ?_, ?_, e7, e8, hM⟩
        · unfold sX9_switches sX9_switches_q_11
          rw [if_neg m1, if_pos m2, hl, if_neg c, hs, ← e1]
          split
          · rfl
          · rfl
        · unfold sX8_switchModeIfDue sX8_switchModeIfDue_q_4
          rw [if_neg m1, if_pos m2, if_neg c, e2]
          show _ = (row' 1, row' 4, row' 6, _)
          rw [e3, e4, e5]
        · show row' 1 = row 1 ∨ row' 1 = 1 ∨ row' 1 = 2
          rw [e3]
          rcases e6 with e | e
          · exact Or.inr (Or.inl e)
          · exact Or.inr (Or.inl e)
    · refine ⟨(row, tw, mrs, mfs, tri), b1, ?_, ?_, Or.inl rfl, h, fun _ _ _ _ _ => rfl, hM⟩
      · unfold sX9_switches
        rw [if_neg m1, if_neg m2]
      · unfold sX8_switchModeIfDue
        rw [if_neg m1, if_neg m2]
/-- push and step behind it, and what a step that goes wrong does -/
theorem pb_go {told num : Nat → Int32} (hT : pb_T told num) (hR : pb_R num) {row : Nat → Int32} {T : Int} (hV : pb_V T row) (hm : row 1 ≠ 3) {t : Nat} {b1 b2 b3 b4 : Int64} (h : pb_ring t b1 b2 b3 b4 row) : ∃ (q : Int32 × pbM) (row' : Nat → Int32), sX2_makeStep num (row 2) (row 3) (row 10) (row 11) (row 12) (row 13) (sX8_pushIn num (row 1) (row 5) (row 2) (row 3) (row 10) (row 11) (row 12) (row 13)) = q ∧ (if (sX9_step told row (sX9_pushNow row told)).1 ≤ 0 then (sX9_step told row (sX9_pushNow row told)).2 else upd (upd (upd (sX9_step told row (sX9_pushNow row told)).2 1 3) 7 ((sX9_step told row (sX9_pushNow row told)).2 7 + 1)) 9 (sX9_step told row (sX9_pushNow row told)).1) = row' ∧ pb_V T row' ∧ pb_ring t b1 b2 b3 b4 row' ∧ pb_mo row' = q.2 ∧ row' 0 = row 0 ∧ row' 4 = row 4 ∧ row' 5 = row 5 ∧ row' 6 = row 6 ∧ row' 8 = row 8 ∧ ((q.1 = 0 ∧ row' 1 = row 1 ∧ row' 7 = row 7 ∧ row' 9 = row 9) ∨ (¬ q.1 = 0 ∧ row' 1 = 3 ∧ row' 7 = row 7 + 1 ∧ row' 9 = q.1)) := by
  obtain ⟨v0, v1, v2, v3, v4, v5⟩ := hV
  have hw := v3 hm
  have hp := pb_push hT hR row (by omega)
  have hpB := pb_pushB num (row 1) (row 2) (row 3) (row 10) (row 11) (row 12) (row 13) (force := row 5) (by omega) v5
  have hs := pb_step hT row (sX9_pushNow row told) v2.1.1.1 v2.1.1.2 v2.1.2.1 v2.1.2.2
  generalize hS : sX9_step told row (sX9_pushNow row told) = S at hs
  rw [hp] at hs
  have hsp := pb_speed hR (a1 := row 10) (a2 := row 11) hw.1 hw.2 hpB (row 2) (row 3)
  have hcd := pb_code num (row 2) (row 3) (row 10) (row 11) (row 12) (row 13) (sX8_pushIn num (row 1) (row 5) (row 2) (row 3) (row 10) (row 11) (row 12) (row 13))
  have hA := pb_stA num (row 2) (row 3) (row 10) (row 11) (row 12) (row 13) (sX8_pushIn num (row 1) (row 5) (row 2) (row 3) (row 10) (row 11) (row 12) (row 13))
  generalize sX2_makeStep num (row 2) (row 3) (row 10) (row 11) (row 12) (row 13) (sX8_pushIn num (row 1) (row 5) (row 2) (row 3) (row 10) (row 11) (row 12) (row 13)) = q at hs hsp hcd hA
  obtain ⟨s1, s2, s3⟩ := hs
  have f10 : S.2 10 = q.2.2.2.1 := congrArg (fun q : pbM => q.2.2.1) s2
  have f11 : S.2 11 = q.2.2.2.2.1 := congrArg (fun q : pbM => q.2.2.2.1) s2
  have f12 : S.2 12 = q.2.2.2.2.2.1 := congrArg (fun q : pbM => q.2.2.2.2.1) s2
  have f13 : S.2 13 = q.2.2.2.2.2.2 := congrArg (fun q : pbM => q.2.2.2.2.2) s2
  have r20 := hR 20 (by decide)
  have k20 : (xMost 20).toInt = 9999 := by decide
  have l20 : (xLeast 20).toInt = 1 := by decide
  rw [k20, l20] at r20
  have hring : ∀ k, k < 200 → S.2 (14 + k) = row (14 + k) := fun k hk => s3 _ (by
    simp only [pb_ms, Bool.or_eq_false_iff, beq_eq_false_iff_ne]
    omega)
  by_cases c : q.1 = 0
  · refine ⟨q, S.2, rfl, by rw [if_pos (by rw [s1, c]; decide)], ?_, pb_ringOf h hring, s2, s3 0 rfl, s3 4 rfl, s3 5 rfl, s3 6 rfl, s3 8 rfl, Or.inl ⟨c, s3 1 rfl, s3 7 rfl, s3 9 rfl⟩⟩
    have hb : sX8_isBeyond q.2.2.2.2.2.1 (num 20) = 0 ∧ sX8_isBeyond q.2.2.2.2.2.2 (num 20) = 0 := by
      rcases hcd with x | x | x
      · exact x.2
      · rw [c] at x; exact absurd x (by decide)
      · rw [c] at x; exact absurd x (by decide)
    have w1 := pb_beyI (by omega) hb.1
    have w2 := pb_beyI (by omega) hb.2
    refine ⟨by rw [s3 0 rfl]; exact v0, by rw [s3 1 rfl]; exact v1, ⟨?_, by rw [f12]; exact hsp.1, by rw [f13]; exact hsp.2⟩, fun _ => ⟨by rw [f12]; omega, by rw [f13]; omega⟩, by rw [s3 5 rfl]; exact ⟨v4, v5⟩⟩
    rw [f10, f11]
    exact hA
  · have c2 : ¬ S.1 ≤ 0 := by
      rw [s1]
      rcases hcd with x | x | x
      · exact absurd x.1 c
      · rw [x]; decide
      · rw [x]; decide
    refine ⟨q, upd (upd (upd S.2 1 3) 7 (S.2 7 + 1)) 9 S.1, rfl, by rw [if_neg c2], ?_, pb_ringOf h (fun k hk => ?_), s2, s3 0 rfl, s3 4 rfl, s3 5 rfl, s3 6 rfl, s3 8 rfl, Or.inr ⟨c, rfl, ?_, s1⟩⟩
    · refine ⟨?_, Or.inr (Or.inr (Or.inr rfl)), ⟨?_, ?_, ?_⟩, fun x => absurd rfl x, ?_⟩
      · show 0 ≤ (S.2 0).toInt ∧ (S.2 0).toInt ≤ T
        rw [s3 0 rfl]
        exact v0
      · show (0 ≤ (S.2 10).toInt ∧ (S.2 10).toInt < 4096) ∧ 0 ≤ (S.2 11).toInt ∧ (S.2 11).toInt < 4096
        rw [f10, f11]
        exact hA
      · show (S.2 12).toInt.natAbs ≤ 20000
        rw [f12]
        exact hsp.1
      · show (S.2 13).toInt.natAbs ≤ 20000
        rw [f13]
        exact hsp.2
      · show 1 ≤ (S.2 5).toInt ∧ (S.2 5).toInt ≤ 500
        rw [s3 5 rfl]
        exact ⟨v4, v5⟩
    · rw [← hring k hk]
      show (if _ then _ else _) = _
      rw [if_neg (by omega)]
      show (if _ then _ else _) = _
      rw [if_neg (by omega)]
      show (if _ then _ else _) = _
      rw [if_neg (by omega)]
    · show S.2 7 + 1 = _
      rw [s3 7 rfl]
