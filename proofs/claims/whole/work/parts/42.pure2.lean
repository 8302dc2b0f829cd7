/-! the trials of the cells, told as one -/
abbrev pb_st (num : Nat → Int32) (force : Int32) (g : pbM) : Int32 × pbM := sX2_makeStep num g.1 g.2.1 g.2.2.1 g.2.2.2.1 g.2.2.2.2.1 g.2.2.2.2.2 (sX2_balancingPush num g.1 g.2.1 g.2.2.1 g.2.2.2.1 g.2.2.2.2.1 g.2.2.2.2.2 force)
def pb_lp (num : Nat → Int32) (force : Int32) : Nat → Int32 → Int32 → pbM → Int32 × Int32 × pbM
  | 0, why, n, g => (why, n, g)
  | k + 1, why, n, g =>
    if num 18 ≤ n then (why, n, g)
    else
      if why = 0 then
        if (pb_st num force g).1 = 0 then
          if sX2_leansBeyond num (pb_st num force g).2.2.2.1 (pb_st num force g).2.2.2.2.1 19 = 0 then
            pb_lp num force k (pb_st num force g).1 (n + 1) (pb_st num force g).2
          else pb_lp num force k 3 (n + 1) (pb_st num force g).2
        else pb_lp num force k (pb_st num force g).1 (n + 1) (pb_st num force g).2
      else (why, n, g)
theorem pb_lpC (num : Nat → Int32) (force : Int32) (kont : Int32 → Int32 → pbM → (Nat → Int32) × (Nat → Int32) × pbM) : ∀ (k : Nat) (why n : Int32) (g : pbM), sX5_tryCell_l14 num force kont k why n g = kont (pb_lp num force k why n g).1 (pb_lp num force k why n g).2.1 (pb_lp num force k why n g).2.2 := by
  intro k
  induction k with
  | zero => intro why n g; rfl
  | succ k ih =>
    intro why n g
    rw [sX5_tryCell_l14, pb_lp, pb_n18]
    by_cases h1 : num 18 ≤ n
    · rw [if_pos h1, if_pos h1]
    · rw [if_neg h1, if_neg h1]
      by_cases h2 : why = 0
      · rw [if_pos h2, if_pos h2]
        by_cases h3 : (pb_st num force g).1 = 0
        · rw [if_pos h3, if_pos h3]
          by_cases h4 : sX2_leansBeyond num (pb_st num force g).2.2.2.1 (pb_st num force g).2.2.2.2.1 19 = 0
          · rw [if_pos h4, if_pos h4]
            exact ih _ _ _
          · rw [if_neg h4, if_neg h4]
            exact ih _ _ _
        · rw [if_neg h3, if_neg h3]
          exact ih _ _ _
      · rw [if_neg h2, if_neg h2]
theorem pb_stA (num : Nat → Int32) (x v a1 a2 w1 w2 u : Int32) : (0 ≤ (sX2_makeStep num x v a1 a2 w1 w2 u).2.2.2.1.toInt ∧ (sX2_makeStep num x v a1 a2 w1 w2 u).2.2.2.1.toInt < 4096) ∧ 0 ≤ (sX2_makeStep num x v a1 a2 w1 w2 u).2.2.2.2.1.toInt ∧ (sX2_makeStep num x v a1 a2 w1 w2 u).2.2.2.2.1.toInt < 4096 := ⟨pb_wrapI _, pb_wrapI _⟩
theorem pb_lpM {told num : Nat → Int32} (hT : pb_T told num) (now : Nat → Int32) (hF : 0 ≤ (now 5).toInt) : ∀ (k : Nat) (why n : Int32) (tri : Nat → Int32), (0 ≤ (tri 10).toInt ∧ (tri 10).toInt < 4096) → (0 ≤ (tri 11).toInt ∧ (tri 11).toInt < 4096) → ∃ tri', pb_mo tri' = (pb_lp num (now 5) k why n (pb_mo tri)).2.2 ∧ ∀ kont, sX9_tries_l71 now told kont k why n tri = kont (pb_lp num (now 5) k why n (pb_mo tri)).1 (pb_lp num (now 5) k why n (pb_mo tri)).2.1 tri' := by
  intro k
  induction k with
  | zero => intro why n tri _ _; exact ⟨tri, rfl, fun _ => rfl⟩
  | succ k ih =>
    intro why n tri ha hb
    have hbal := pb_bal hT now tri hF
    have hs := pb_step hT tri (sX9_balancing_try told now tri) ha.1 ha.2 hb.1 hb.2
    generalize hS : sX9_step told tri (sX9_balancing_try told now tri) = S at hs
    rw [hbal] at hs
    obtain ⟨s1, s2, -⟩ := hs
    have s1 : S.1 = (pb_st num (now 5) (pb_mo tri)).1 := s1
    have s2 : pb_mo S.2 = (pb_st num (now 5) (pb_mo tri)).2 := s2
    have e10 : S.2 10 = (pb_st num (now 5) (pb_mo tri)).2.2.2.1 := congrArg (fun q : pbM => q.2.2.1) s2
    have e11 : S.2 11 = (pb_st num (now 5) (pb_mo tri)).2.2.2.2.1 := congrArg (fun q : pbM => q.2.2.2.1) s2
    have hA := pb_stA num (tri 2) (tri 3) (tri 10) (tri 11) (tri 12) (tri 13) (sX2_balancingPush num (tri 2) (tri 3) (tri 10) (tri 11) (tri 12) (tri 13) (now 5))
    have hA1 : 0 ≤ (S.2 10).toInt ∧ (S.2 10).toInt < 4096 := by rw [e10]; exact hA.1
    have hA2 : 0 ≤ (S.2 11).toInt ∧ (S.2 11).toInt < 4096 := by rw [e11]; exact hA.2
    have hl : sX9_leansBeyond S.2 (told 19) = sX2_leansBeyond num (pb_st num (now 5) (pb_mo tri)).2.2.2.1 (pb_st num (now 5) (pb_mo tri)).2.2.2.2.1 19 := by
      rw [pb_leans S.2 (pb_n19 num) (hT 19 (by decide)), e10, e11]
    by_cases h1 : num 18 ≤ n
    · refine ⟨tri, by rw [pb_lp, if_pos h1], fun kont => ?_⟩
      rw [pb_lp, if_pos h1, sX9_tries_l71, hT 18 (by decide), if_pos h1]
    · by_cases h2 : why = 0
      · by_cases h3 : (pb_st num (now 5) (pb_mo tri)).1 = 0
        · by_cases h4 : sX2_leansBeyond num (pb_st num (now 5) (pb_mo tri)).2.2.2.1 (pb_st num (now 5) (pb_mo tri)).2.2.2.2.1 19 = 0
          · obtain ⟨tri', t1, t2⟩ := ih S.1 (n + 1) S.2 hA1 hA2
            refine ⟨tri', ?_, fun kont => ?_⟩
            · rw [pb_lp, if_neg h1, if_pos h2, if_pos h3, if_pos h4, t1, s1, s2]
            · rw [sX9_tries_l71, hT 18 (by decide), if_neg h1, if_pos h2, hS, if_pos (by rw [s1]; exact h3), if_pos (by rw [hl]; exact h4), t2, pb_lp, if_neg h1, if_pos h2, if_pos h3, if_pos h4, s1, s2]
          · obtain ⟨tri', t1, t2⟩ := ih 3 (n + 1) S.2 hA1 hA2
            refine ⟨tri', ?_, fun kont => ?_⟩
            · rw [pb_lp, if_neg h1, if_pos h2, if_pos h3, if_neg h4, t1, s2]
            · rw [sX9_tries_l71, hT 18 (by decide), if_neg h1, if_pos h2, hS, if_pos (by rw [s1]; exact h3), if_neg (by rw [hl]; exact h4), t2, pb_lp, if_neg h1, if_pos h2, if_pos h3, if_neg h4, s2]
        · obtain ⟨tri', t1, t2⟩ := ih S.1 (n + 1) S.2 hA1 hA2
          refine ⟨tri', ?_, fun kont => ?_⟩
          · rw [pb_lp, if_neg h1, if_pos h2, if_neg h3, t1, s1, s2]
          · rw [sX9_tries_l71, hT 18 (by decide), if_neg h1, if_pos h2, hS, if_neg (by rw [s1]; exact h3), t2, pb_lp, if_neg h1, if_pos h2, if_neg h3, s1, s2]
      · refine ⟨tri, by rw [pb_lp, if_neg h1, if_neg h2], fun kont => ?_⟩
        rw [pb_lp, if_neg h1, if_neg h2, sX9_tries_l71, hT 18 (by decide), if_neg h1, if_neg h2]
def pb_r (num : Nat → Int32) (force i j : Int32) : Int32 × Int32 × pbM := pb_lp num force (xMu (num 18) 0 + 1) 0 0 (0, 0, sX8_wrapped (i * num 15), sX8_wrapped (i * num 15), j * num 16, j * num 16)
def pb_why (num : Nat → Int32) (force i j : Int32) : Int32 := if (pb_r num force i j).1 = 0 then (if sX2_leansBeyond num (pb_r num force i j).2.2.2.2.1 (pb_r num force i j).2.2.2.2.2.1 15 = 0 then (pb_r num force i j).1 else 4) else (pb_r num force i j).1
def pb_at (num : Nat → Int32) (force i j : Int32) : Int32 := if (pb_r num force i j).1 = 0 then -1 else (pb_r num force i j).2.1
theorem pb_place {i j : Int32} (hi : -3 ≤ i.toInt ∧ i.toInt ≤ 3) (hj : -3 ≤ j.toInt ∧ j.toInt ≤ 3) : (sX5_placeOf i j).toInt = 7 * (i.toInt + 3) + j.toInt + 3 := by
  unfold sX5_placeOf
  have k3 : (3 : Int32).toInt = 3 := by decide
  have k7 : (7 : Int32).toInt = 7 := by decide
  have e1 : (i + 3).toInt = i.toInt + 3 := by rw [x_addI (by rw [k3]; omega) (by rw [k3]; omega), k3]
  have e2 : ((i + 3) * 7).toInt = 7 * (i.toInt + 3) := by rw [x_mulI (by rw [e1, k7]; omega) (by rw [e1, k7]; omega), e1, k7, Int.mul_comm]
  have e3 : ((i + 3) * 7 + j).toInt = 7 * (i.toInt + 3) + j.toInt := by rw [x_addI (by rw [e2]; omega) (by rw [e2]; omega), e2]
  rw [x_addI (by rw [e3, k3]; omega) (by rw [e3, k3]; omega), e3, k3]
theorem pb_cellE (i j : Int32) : sX9_cell i j = sX5_placeOf i j := by
  unfold sX9_cell sX5_placeOf
  rw [Int32.mul_comm]
theorem pb_put {i j : Int32} (hi : -3 ≤ i.toInt ∧ i.toInt ≤ 3) (hj : -3 ≤ j.toInt ∧ j.toInt ≤ 3) (f : Nat → Int32) (v : Int32) : sX8_putAt 49 f (sX5_placeOf i j) v = upd f (sX5_placeOf i j).toNatClampNeg v := by
  have h := pb_place hi hj
  have k : (nI 49).toInt = 49 := by decide
  unfold sX8_putAt
  rw [if_neg (by rw [Int32.lt_iff_toInt_lt, Int32.toInt_zero]; omega), if_neg (by rw [Int32.le_iff_toInt_le, k]; omega)]
theorem pb_val {i j : Int32} (hi : -3 ≤ i.toInt ∧ i.toInt ≤ 3) (hj : -3 ≤ j.toInt ∧ j.toInt ≤ 3) (f : Nat → Int32) : sX8_valueAt 49 f (sX5_placeOf i j) = f (sX5_placeOf i j).toNatClampNeg := by
  have h := pb_place hi hj
  have k : (nI 49).toInt = 49 := by decide
  unfold sX8_valueAt
  rw [if_neg (by rw [Int32.lt_iff_toInt_lt, Int32.toInt_zero]; omega), if_neg (by rw [Int32.le_iff_toInt_le, k]; omega)]
/-- the count of the region, in its bounds -/
def pb_c3 (num : Nat → Int32) : Prop := 0 ≤ (num 17).toInt ∧ (num 17).toInt ≤ 3
theorem pb_R3 {num : Nat → Int32} (hR : pb_R num) : pb_c3 num := hR 17 (by decide)
theorem pb_has3 {num : Nat → Int32} (hc : pb_c3 num) {i j : Int32} (h : ¬ sX2_hasCell num i j = 0) : (-3 ≤ i.toInt ∧ i.toInt ≤ 3) ∧ -3 ≤ j.toInt ∧ j.toInt ≤ 3 := by
  have := (pb_has hc.1).mp h
  have h3 := hc.2
  omega
def pb_ok (num : Nat → Int32) (force : Int32) (rs fs : Nat → Int32) : Prop := ∀ i j : Int32, ¬ sX2_hasCell num i j = 0 → rs (sX5_placeOf i j).toNatClampNeg = pb_why num force i j ∧ fs (sX5_placeOf i j).toNatClampNeg = pb_at num force i j
def pb_D (num : Nat → Int32) (force : Int32) (i j : Int) (rs fs : Nat → Int32) : Prop := ∀ i' j' : Int32, ¬ sX2_hasCell num i' j' = 0 → (i'.toInt < i ∨ (i'.toInt = i ∧ j'.toInt < j)) → rs (sX5_placeOf i' j').toNatClampNeg = pb_why num force i' j' ∧ fs (sX5_placeOf i' j').toNatClampNeg = pb_at num force i' j'
theorem pb_D_step {num : Nat → Int32} (hc : pb_c3 num) {force i j : Int32} {rs fs : Nat → Int32} (hv : ¬ sX2_hasCell num i j = 0) (h : pb_D num force i.toInt j.toInt rs fs) : pb_D num force i.toInt (j.toInt + 1) (upd rs (sX5_placeOf i j).toNatClampNeg (pb_why num force i j)) (upd fs (sX5_placeOf i j).toNatClampNeg (pb_at num force i j)) := by
  intro i' j' hv' ho
  have b1 := pb_has3 hc hv
  have b2 := pb_has3 hc hv'
  have p1 := pb_place b1.1 b1.2
  have p2 := pb_place b2.1 b2.2
  by_cases he : i'.toInt = i.toInt ∧ j'.toInt = j.toInt
  · have e1 : i' = i := Int32.toInt_inj.mp he.1
    have e2 : j' = j := Int32.toInt_inj.mp he.2
    subst e1
    subst e2
    exact ⟨if_pos rfl, if_pos rfl⟩
  · have hne : (sX5_placeOf i' j').toNatClampNeg ≠ (sX5_placeOf i j).toNatClampNeg := by
      rw [x_nat, x_nat, p1, p2]
      omega
    have := h i' j' hv' (by omega)
    exact ⟨(if_neg hne).trans this.1, (if_neg hne).trans this.2⟩
theorem pb_D_row {num : Nat → Int32} (hc : pb_c3 num) {force : Int32} {i j : Int} {rs fs : Nat → Int32} (hj : (num 17).toInt < j) (h : pb_D num force i j rs fs) : pb_D num force (i + 1) (-(num 17).toInt) rs fs := by
  intro i' j' hv ho
  have b := (pb_has hc.1).mp hv
  exact h i' j' hv (by omega)
theorem pb_D_all {num : Nat → Int32} (hc : pb_c3 num) {force : Int32} {i j : Int} {rs fs : Nat → Int32} (hi : (num 17).toInt < i) (h : pb_D num force i j rs fs) : pb_ok num force rs fs := by
  intro i' j' hv
  have b := (pb_has hc.1).mp hv
  exact h i' j' hv (by omega)
theorem pb_D_0 {num : Nat → Int32} (hc : pb_c3 num) {force : Int32} {rs fs : Nat → Int32} : pb_D num force (-(num 17).toInt) (-(num 17).toInt) rs fs := by
  intro i' j' hv ho
  have b := (pb_has hc.1).mp hv
  omega
theorem pb_neg3 {num : Nat → Int32} (hc : pb_c3 num) : (-(num 17)).toInt = -(num 17).toInt := pb_negI (by have := hc.1; omega)
theorem pb_inc {j : Int32} (h : j.toInt ≤ 1000000) : (j + 1).toInt = j.toInt + 1 := by
  have k : (1 : Int32).toInt = 1 := by decide
  have := x_rg j
  rw [x_addI (by rw [k]; omega) (by rw [k]; omega), k]
theorem pb_tryC (rs fs num : Nat → Int32) (force i j place : Int32) : sX5_tryCell rs fs num 0 0 (sX8_wrapped (i * num 15)) (sX8_wrapped (i * num 15)) (j * num 16) (j * num 16) place force = (sX8_putAt 49 rs place (pb_why num force i j), sX8_putAt 49 fs place (pb_at num force i j), (pb_r num force i j).2.2) := by
  unfold sX5_tryCell pb_why pb_at
  rw [pb_lpC, pb_n18]
  generalize hr : pb_r num force i j = r
  have hr2 : pb_lp num force (xMu (num 18) 0 + 1) 0 0 (0, 0, sX8_wrapped (i * num 15), sX8_wrapped (i * num 15), j * num 16, j * num 16) = r := hr
  rw [hr2]
  by_cases h1 : r.1 = 0
  · simp only [if_pos h1]
    by_cases h2 : sX2_leansBeyond num r.2.2.2.2.1 r.2.2.2.2.2.1 15 = 0
    · simp only [if_pos h2]
    · simp only [if_neg h2]
  · simp only [if_neg h1]
theorem pb_inC {num : Nat → Int32} (hc : pb_c3 num) {force i : Int32} (hi : -(num 17).toInt ≤ i.toInt ∧ i.toInt ≤ (num 17).toInt) (kont : Int32 → (Nat → Int32) → (Nat → Int32) → pbM → (Nat → Int32) × (Nat → Int32) × pbM) : ∀ (k : Nat) (j : Int32) (rs fs : Nat → Int32) (g : pbM), -(num 17).toInt ≤ j.toInt → j.toInt ≤ (num 17).toInt + 1 → ((num 17).toInt + 1 - j.toInt).toNat < k → pb_D num force i.toInt j.toInt rs fs → ∃ j' rs' fs' g', pb_D num force (i.toInt + 1) (-(num 17).toInt) rs' fs' ∧ sX5_tryAll_l25 num force i kont k j rs fs g = kont j' rs' fs' g' := by
  intro k
  induction k with
  | zero => intro j rs fs g _ _ h _; omega
  | succ k ih =>
    intro j rs fs g hj0 hj1 hk hD
    by_cases h : num 17 < j
    · refine ⟨j, rs, fs, g, ?_, by rw [sX5_tryAll_l25, pb_n17, if_pos h]⟩
      rw [Int32.lt_iff_toInt_lt] at h
      exact pb_D_row hc h hD
    · have hj2 : j.toInt ≤ (num 17).toInt := by rw [Int32.lt_iff_toInt_lt] at h; omega
      have h3 := hc.2
      have hv : ¬ sX2_hasCell num i j = 0 := (pb_has hc.1).mpr ⟨hi, hj0, hj2⟩
      have b := pb_has3 hc hv
      have hD2 := pb_D_step hc hv hD
      have e := pb_inc (j := j) (by omega)
      rw [← e] at hD2
      obtain ⟨j', rs', fs', g', d1, d2⟩ := ih (j + 1) _ _ (pb_r num force i j).2.2 (by rw [e]; omega) (by rw [e]; omega) (by rw [e]; omega) hD2
      refine ⟨j', rs', fs', g', d1, ?_⟩
      rw [sX5_tryAll_l25, pb_n17, if_neg h, pb_n15, pb_n16]
      simp only [sX1_restAt]
      rw [pb_tryC, pb_put b.1 b.2, pb_put b.1 b.2]
      exact d2
theorem pb_outC {num : Nat → Int32} (hc : pb_c3 num) {force : Int32} (kont : Int32 → (Nat → Int32) → (Nat → Int32) → pbM → (Nat → Int32) × (Nat → Int32) × pbM) : ∀ (k : Nat) (i : Int32) (rs fs : Nat → Int32) (g : pbM), -(num 17).toInt ≤ i.toInt → i.toInt ≤ (num 17).toInt + 1 → ((num 17).toInt + 1 - i.toInt).toNat < k → pb_D num force i.toInt (-(num 17).toInt) rs fs → ∃ i' rs' fs' g', pb_ok num force rs' fs' ∧ sX5_tryAll_l13 num force kont k i rs fs g = kont i' rs' fs' g' := by
  intro k
  induction k with
  | zero => intro i rs fs g _ _ h _; omega
  | succ k ih =>
    intro i rs fs g hi0 hi1 hk hD
    by_cases h : num 17 < i
    · refine ⟨i, rs, fs, g, ?_, by rw [sX5_tryAll_l13, pb_n17, if_pos h]⟩
      rw [Int32.lt_iff_toInt_lt] at h
      exact pb_D_all hc h hD
    · have hi2 : i.toInt ≤ (num 17).toInt := by rw [Int32.lt_iff_toInt_lt] at h; omega
      have h3 := hc.2
      have h0 := hc.1
      have hn := pb_neg3 hc
      have e := pb_inc (j := i) (by omega)
      rw [← hn] at hD
      obtain ⟨j1, rs1, fs1, g1, d1, d2⟩ := pb_inC hc (force := force) (i := i) ⟨hi0, hi2⟩ (fun (j_25 : Int32) (rs_25 : Nat → Int32) (fs_25 : Nat → Int32) (g_25 : pbM) => sX5_tryAll_l13 num force kont k (i + 1) rs_25 fs_25 g_25) (xMu2 (num 17) (-(num 17)) + 1) (-(num 17)) rs fs g (by rw [hn]; omega) (by rw [hn]; omega) (by unfold xMu2; omega) hD
      rw [← e] at d1
      obtain ⟨i', rs', fs', g', q1, q2⟩ := ih (i + 1) rs1 fs1 g1 (by rw [e]; omega) (by rw [e]; omega) (by rw [e]; omega) d1
      refine ⟨i', rs', fs', g', q1, ?_⟩
      rw [sX5_tryAll_l13, pb_n17, if_neg h]
      exact d2.trans q2
theorem pb_tryAll {num : Nat → Int32} (hc : pb_c3 num) (rs fs : Nat → Int32) (x v a1 a2 w1 w2 force : Int32) : ∃ rs' fs' g', pb_ok num force rs' fs' ∧ sX5_tryAll rs fs num x v a1 a2 w1 w2 force = (rs', fs', g') := by
  have hn := pb_neg3 hc
  have h0 := hc.1
  have h3 := hc.2
  obtain ⟨i', rs', fs', g', q1, q2⟩ := pb_outC hc (force := force) (fun (i_13 : Int32) (rs_13 : Nat → Int32) (fs_13 : Nat → Int32) (g_13 : pbM) => (rs_13, fs_13, g_13.1, g_13.2.1, g_13.2.2.1, g_13.2.2.2.1, g_13.2.2.2.2.1, g_13.2.2.2.2.2)) (xMu2 (num 17) (-(num 17)) + 1) (-(num 17)) rs fs (x, v, a1, a2, w1, w2) (by rw [hn]; omega) (by rw [hn]; omega) (by unfold xMu2; omega) (by rw [hn]; exact pb_D_0 hc)
  refine ⟨rs', fs', g', q1, ?_⟩
  unfold sX5_tryAll
  rw [pb_n17]
  exact q2
theorem pb_triesM {told num : Nat → Int32} (hT : pb_T told num) (now rs fs tri : Nat → Int32) (hF : 0 ≤ (now 5).toInt) (i j : Int32) : ∃ tri', sX9_tries now told rs fs tri i j = (upd rs (sX5_placeOf i j).toNatClampNeg (pb_why num (now 5) i j), upd fs (sX5_placeOf i j).toNatClampNeg (pb_at num (now 5) i j), tri') := by
  have hw := pb_wrapI (i * num 15)
  have hm : pb_mo (upd (upd (upd (upd (upd (upd tri 2 0) 3 0) 10 (sX8_wrapped (i * num 15))) 12 (j * num 16)) 11 (sX8_wrapped (i * num 15))) 13 (j * num 16)) = (0, 0, sX8_wrapped (i * num 15), sX8_wrapped (i * num 15), j * num 16, j * num 16) := rfl
  obtain ⟨tri', t1, t2⟩ := pb_lpM hT now hF (xMu (num 18) 0 + 1) 0 0 (upd (upd (upd (upd (upd (upd tri 2 0) 3 0) 10 (sX8_wrapped (i * num 15))) 12 (j * num 16)) 11 (sX8_wrapped (i * num 15))) 13 (j * num 16)) hw hw
  rw [hm] at t1 t2
  refine ⟨tri', ?_⟩
  unfold sX9_tries pb_why pb_at
  rw [hT 18 (by decide), hT 15 (by decide), hT 16 (by decide), ← pb_wrap, t2, pb_cellE]
  generalize hr : pb_r num (now 5) i j = r
  have hr2 : pb_lp num (now 5) (xMu (num 18) 0 + 1) 0 0 (0, 0, sX8_wrapped (i * num 15), sX8_wrapped (i * num 15), j * num 16, j * num 16) = r := hr
  rw [hr2] at t1 ⊢
  have e10 : tri' 10 = r.2.2.2.2.1 := congrArg (fun q : pbM => q.2.2.1) t1
  have e11 : tri' 11 = r.2.2.2.2.2.1 := congrArg (fun q : pbM => q.2.2.2.1) t1
  have hl : sX9_leansBeyond tri' (num 15) = sX2_leansBeyond num r.2.2.2.2.1 r.2.2.2.2.2.1 15 := by
    have := pb_leans (told := told) tri' (pb_n15 num) (hT 15 (by decide))
    rw [hT 15 (by decide)] at this
    rw [this, e10, e11]
  by_cases h1 : r.1 = 0
  · simp only [if_pos h1]
    by_cases h2 : sX2_leansBeyond num r.2.2.2.2.1 r.2.2.2.2.2.1 15 = 0
    · simp only [if_pos h2]
      rw [if_pos (by rw [hl]; exact h2)]
    · simp only [if_neg h2]
      rw [if_neg (by rw [hl]; exact h2)]
  · simp only [if_neg h1]
theorem pb_inM {told num : Nat → Int32} (hT : pb_T told num) (hc : pb_c3 num) (now : Nat → Int32) (hF : 0 ≤ (now 5).toInt) {i : Int32} (hi : -(num 17).toInt ≤ i.toInt ∧ i.toInt ≤ (num 17).toInt) (kont : Int32 → (Nat → Int32) → (Nat → Int32) → (Nat → Int32) → Int32 × (Nat → Int32) × (Nat → Int32) × (Nat → Int32)) : ∀ (k : Nat) (j : Int32) (rs fs tri : Nat → Int32), -(num 17).toInt ≤ j.toInt → j.toInt ≤ (num 17).toInt + 1 → ((num 17).toInt + 1 - j.toInt).toNat < k → pb_D num (now 5) i.toInt j.toInt rs fs → ∃ j' rs' fs' tri', pb_D num (now 5) (i.toInt + 1) (-(num 17).toInt) rs' fs' ∧ sX9_lays_l53 now told i kont k j rs fs tri = kont j' rs' fs' tri' := by
  intro k
  induction k with
  | zero => intro j rs fs g _ _ h _; omega
  | succ k ih =>
    intro j rs fs tri hj0 hj1 hk hD
    by_cases h : num 17 < j
    · refine ⟨j, rs, fs, tri, ?_, by rw [sX9_lays_l53, hT 17 (by decide), if_pos h]⟩
      rw [Int32.lt_iff_toInt_lt] at h
      exact pb_D_row hc h hD
    · have hj2 : j.toInt ≤ (num 17).toInt := by rw [Int32.lt_iff_toInt_lt] at h; omega
      have h3 := hc.2
      have hv : ¬ sX2_hasCell num i j = 0 := (pb_has hc.1).mpr ⟨hi, hj0, hj2⟩
      have hD2 := pb_D_step hc hv hD
      have e := pb_inc (j := j) (by omega)
      rw [← e] at hD2
      obtain ⟨tri1, t1⟩ := pb_triesM hT now rs fs tri hF i j
      obtain ⟨j', rs', fs', tri', d1, d2⟩ := ih (j + 1) _ _ tri1 (by rw [e]; omega) (by rw [e]; omega) (by rw [e]; omega) hD2
      refine ⟨j', rs', fs', tri', d1, ?_⟩
      rw [sX9_lays_l53, hT 17 (by decide), if_neg h, t1]
      exact d2
theorem pb_outM {told num : Nat → Int32} (hT : pb_T told num) (hc : pb_c3 num) (now : Nat → Int32) (hF : 0 ≤ (now 5).toInt) (kont : Int32 → (Nat → Int32) → (Nat → Int32) → (Nat → Int32) → Int32 × (Nat → Int32) × (Nat → Int32) × (Nat → Int32)) : ∀ (k : Nat) (i : Int32) (rs fs tri : Nat → Int32), -(num 17).toInt ≤ i.toInt → i.toInt ≤ (num 17).toInt + 1 → ((num 17).toInt + 1 - i.toInt).toNat < k → pb_D num (now 5) i.toInt (-(num 17).toInt) rs fs → ∃ i' rs' fs' tri', pb_ok num (now 5) rs' fs' ∧ sX9_lays_l33 now told kont k i rs fs tri = kont i' rs' fs' tri' := by
  intro k
  induction k with
  | zero => intro i rs fs g _ _ h _; omega
  | succ k ih =>
    intro i rs fs tri hi0 hi1 hk hD
    by_cases h : num 17 < i
    · refine ⟨i, rs, fs, tri, ?_, by rw [sX9_lays_l33, hT 17 (by decide), if_pos h]⟩
      rw [Int32.lt_iff_toInt_lt] at h
      exact pb_D_all hc h hD
    · have hi2 : i.toInt ≤ (num 17).toInt := by rw [Int32.lt_iff_toInt_lt] at h; omega
      have h3 := hc.2
      have h0 := hc.1
      have hn := pb_neg3 hc
      have e := pb_inc (j := i) (by omega)
      rw [← hn] at hD
      obtain ⟨j1, rs1, fs1, tri1, d1, d2⟩ := pb_inM hT hc now hF (i := i) ⟨hi0, hi2⟩ (fun (j_53 : Int32) (rs_53 : Nat → Int32) (fs_53 : Nat → Int32) (tri_53 : Nat → Int32) => sX9_lays_l33 now told kont k (i + 1) rs_53 fs_53 tri_53) (xMu2 (num 17) (-(num 17)) + 1) (-(num 17)) rs fs tri (by rw [hn]; omega) (by rw [hn]; omega) (by unfold xMu2; omega) hD
      rw [← e] at d1
      obtain ⟨i', rs', fs', tri', q1, q2⟩ := ih (i + 1) rs1 fs1 tri1 (by rw [e]; omega) (by rw [e]; omega) (by rw [e]; omega) d1
      refine ⟨i', rs', fs', tri', q1, ?_⟩
      rw [sX9_lays_l33, hT 17 (by decide), if_neg h]
      exact d2.trans q2
/-- what the reference keeps of its trials -/
def pb_MT (num : Nat → Int32) (tw : Int32) (rs fs : Nat → Int32) : Prop := tw = 0 ∨ pb_ok num tw rs fs
abbrev pbQ : Type := Int32 × (Nat → Int32) × (Nat → Int32) × (Nat → Int32)
theorem pb_lays {told num : Nat → Int32} (hT : pb_T told num) (hc : pb_c3 num) (tw : Int32) (now rs fs tri : Nat → Int32) (hF : 1 ≤ (now 5).toInt) (hM : pb_MT num tw rs fs) : ∃ q : pbQ, sX9_lays tw now told rs fs tri = q ∧ q.1 = now 5 ∧ pb_ok num (now 5) q.2.1 q.2.2.1 := by
  unfold sX9_lays
  by_cases h : tw = now 5
  · rw [if_pos h]
    rcases hM with h0 | h1
    · have hz : (now 5).toInt = 0 := by rw [← h, h0]; rfl
      omega
    · rw [h] at h1
      exact ⟨_, rfl, h, h1⟩
  · rw [if_neg h, hT 17 (by decide)]
    have hn := pb_neg3 hc
    have h0 := hc.1
    have h3 := hc.2
    obtain ⟨i', rs', fs', tri', q1, q2⟩ := pb_outM hT hc now (by omega) (fun (i_33 : Int32) (rs_33 : Nat → Int32) (fs_33 : Nat → Int32) (tri_33 : Nat → Int32) => (now 5, rs_33, fs_33, tri_33)) (xMu2 (num 17) (-(num 17)) + 1) (-(num 17)) rs fs tri (by rw [hn]; omega) (by rw [hn]; omega) (by unfold xMu2; omega) (by rw [hn]; exact pb_D_0 hc)
    exact ⟨_, q2, rfl, q1⟩
theorem pb_cntIn {told num : Nat → Int32} (hT : pb_T told num) (hc : pb_c3 num) {reason i : Int32} (hi : -(num 17).toInt ≤ i.toInt ∧ i.toInt ≤ (num 17).toInt) {rs : Nat → Int32} {q : pbQ} (hq : ∀ i j : Int32, ¬ sX2_hasCell num i j = 0 → rs (sX5_placeOf i j).toNatClampNeg = q.2.1 (sX5_placeOf i j).toNatClampNeg) (kC : Int32 → Int32 → Int32) (kM : Int32 → Int32 → Int32 × pbQ) (hk : ∀ j n, kM j n = (kC j n, q)) : ∀ (k : Nat) (j n : Int32), -(num 17).toInt ≤ j.toInt → j.toInt ≤ (num 17).toInt + 1 → sX9_cells_l36 told reason i q kM k j n = (sX5_countOf_l16 rs reason (num 17) i kC k j n, q) := by
  intro k
  induction k with
  | zero => intro j n _ _; exact hk j n
  | succ k ih =>
    intro j n hj0 hj1
    rw [sX9_cells_l36, sX5_countOf_l16, hT 17 (by decide)]
    by_cases h : num 17 < j
    · rw [if_pos h, if_pos h]
      exact hk j n
    · rw [if_neg h, if_neg h]
      have hj2 : j.toInt ≤ (num 17).toInt := by rw [Int32.lt_iff_toInt_lt] at h; omega
      have h3 := hc.2
      have hv : ¬ sX2_hasCell num i j = 0 := (pb_has hc.1).mpr ⟨hi, hj0, hj2⟩
      have b := pb_has3 hc hv
      have e := pb_inc (j := j) (by omega)
      have hr : sX5_reasonAt rs i j = q.2.1 (sX9_cell i j).toNatClampNeg := by
        unfold sX5_reasonAt
        rw [pb_val b.1 b.2, pb_cellE]
        exact hq i j hv
      rw [hr]
      by_cases h2 : q.2.1 (sX9_cell i j).toNatClampNeg = reason
      · rw [if_pos h2, if_pos h2]
        exact ih _ _ (by rw [e]; omega) (by rw [e]; omega)
      · rw [if_neg h2, if_neg h2]
        exact ih _ _ (by rw [e]; omega) (by rw [e]; omega)
theorem pb_cntOut {told num : Nat → Int32} (hT : pb_T told num) (hc : pb_c3 num) {reason : Int32} {rs : Nat → Int32} {q : pbQ} (hq : ∀ i j : Int32, ¬ sX2_hasCell num i j = 0 → rs (sX5_placeOf i j).toNatClampNeg = q.2.1 (sX5_placeOf i j).toNatClampNeg) (kC : Int32 → Int32 → Int32) (kM : Int32 → Int32 → Int32 × pbQ) (hk : ∀ j n, kM j n = (kC j n, q)) : ∀ (k : Nat) (i n : Int32), -(num 17).toInt ≤ i.toInt → i.toInt ≤ (num 17).toInt + 1 → sX9_cells_l15 told reason q kM k i n = (sX5_countOf_l6 rs reason (num 17) kC k i n, q) := by
  intro k
  induction k with
  | zero => intro j n _ _; exact hk j n
  | succ k ih =>
    intro i n hi0 hi1
    rw [sX9_cells_l15, sX5_countOf_l6, hT 17 (by decide)]
    by_cases h : num 17 < i
    · rw [if_pos h, if_pos h]
      exact hk i n
    · rw [if_neg h, if_neg h]
      have hi2 : i.toInt ≤ (num 17).toInt := by rw [Int32.lt_iff_toInt_lt] at h; omega
      have h3 := hc.2
      have h0 := hc.1
      have hn := pb_neg3 hc
      have e := pb_inc (j := i) (by omega)
      exact pb_cntIn hT hc ⟨hi0, hi2⟩ hq _ _ (fun j n => ih (i + 1) n (by rw [e]; omega) (by rw [e]; omega)) _ _ _ (by rw [hn]; omega) (by rw [hn]; omega)
theorem pb_same {num : Nat → Int32} {force : Int32} {rs fs : Nat → Int32} {q : pbQ} (h1 : pb_ok num force rs fs) (h2 : pb_ok num force q.2.1 q.2.2.1) : ∀ i j : Int32, ¬ sX2_hasCell num i j = 0 → rs (sX5_placeOf i j).toNatClampNeg = q.2.1 (sX5_placeOf i j).toNatClampNeg := fun i j hv => (h1 i j hv).1.trans (h2 i j hv).1.symm
theorem pb_same2 {num : Nat → Int32} {force : Int32} {rs fs : Nat → Int32} {q : pbQ} (h1 : pb_ok num force rs fs) (h2 : pb_ok num force q.2.1 q.2.2.1) : ∀ i j : Int32, ¬ sX2_hasCell num i j = 0 → fs (sX5_placeOf i j).toNatClampNeg = q.2.2.1 (sX5_placeOf i j).toNatClampNeg := fun i j hv => (h1 i j hv).2.trans (h2 i j hv).2.symm
theorem pb_cells {told num : Nat → Int32} (hT : pb_T told num) (hc : pb_c3 num) (tw : Int32) (now mrs mfs tri : Nat → Int32) (hF : 1 ≤ (now 5).toInt) (hM : pb_MT num tw mrs mfs) {rs fs : Nat → Int32} (hok : pb_ok num (now 5) rs fs) (reason : Int32) : ∃ q : pbQ, sX9_cells tw now told mrs mfs tri reason = (sX5_countOf rs reason (num 17), q) ∧ q.1 = now 5 ∧ pb_ok num (now 5) q.2.1 q.2.2.1 := by
  obtain ⟨q, h1, h2, h3⟩ := pb_lays hT hc tw now mrs mfs tri hF hM
  have hn := pb_neg3 hc
  have h0 := hc.1
  refine ⟨q, ?_, h2, h3⟩
  unfold sX9_cells sX9_cells_q_1 sX5_countOf
  rw [h1, hT 17 (by decide)]
  exact pb_cntOut hT hc (pb_same hok h3) _ _ (fun _ _ => rfl) _ _ _ (by rw [hn]; omega) (by rw [hn]; omega)
theorem pb_R15 {num : Nat → Int32} (hR : pb_R num) : 1 ≤ (num 15).toInt ∧ (num 15).toInt ≤ 500 := hR 15 (by decide)
theorem pb_R16 {num : Nat → Int32} (hR : pb_R num) : 1 ≤ (num 16).toInt ∧ (num 16).toInt ≤ 500 := hR 16 (by decide)
theorem pb_leanB {a : Int32} (h0 : 0 ≤ a.toInt) (h1 : a.toInt < 4096) : -4096 ≤ (sX8_leanOf a).toInt ∧ (sX8_leanOf a).toInt ≤ 4096 := by
  unfold sX8_leanOf
  have k : (4096 : Int32).toInt = 4096 := by decide
  by_cases h : 2048 ≤ a
  · rw [if_pos h, x_subI (by rw [k]; omega) (by rw [k]; omega), k]
    omega
  · rw [if_neg h]
    omega
theorem pb_partA {told num : Nat → Int32} (hT : pb_T told num) (hR : pb_R num) {a : Int32} (h0 : 0 ≤ a.toInt) (h1 : a.toInt < 4096) : sX2_cellOfAngle num a = sX9_partOf (sX9_leanOf a) (told 15) := by
  have hb := pb_leanB h0 h1
  unfold sX2_cellOfAngle
  rw [pb_n15, hT 15 (by decide), pb_part (pb_R15 hR).1 (pb_R15 hR).2 (by omega) (by omega), pb_lean]
theorem pb_partW {told num : Nat → Int32} (hT : pb_T told num) (hR : pb_R num) {w : Int32} (h : w.toInt.natAbs ≤ 20000) : sX2_cellOfSpeed num w = sX9_partOf w (told 16) := by
  unfold sX2_cellOfSpeed
  rw [pb_n16, hT 16 (by decide), pb_part (pb_R16 hR).1 (pb_R16 hR).2 (by omega) (by omega)]
/-- angles and speeds in their bounds -/
def pb_B (f : Nat → Int32) : Prop := ((0 ≤ (f 10).toInt ∧ (f 10).toInt < 4096) ∧ 0 ≤ (f 11).toInt ∧ (f 11).toInt < 4096) ∧ (f 12).toInt.natAbs ≤ 20000 ∧ (f 13).toInt.natAbs ≤ 20000
theorem pb_verif {told num : Nat → Int32} (hT : pb_T told num) (hR : pb_R num) {a1 a2 w1 w2 i j link : Int32} {rs mrs : Nat → Int32} (hq : ∀ i j : Int32, ¬ sX2_hasCell num i j = 0 → rs (sX5_placeOf i j).toNatClampNeg = mrs (sX5_placeOf i j).toNatClampNeg) (hi : sX2_cellOfAngle num (sX1_angleOf a1 a2 link) = i) (hj : sX2_cellOfSpeed num (sX1_speedOf w1 w2 link) = j) : sX8_isVerifiedFor num a1 a2 w1 w2 rs link = if sX9_isCell told i j = 0 then 0 else if mrs (sX9_cell i j).toNatClampNeg = 0 then 1 else 0 := by
  unfold sX8_isVerifiedFor
  rw [hi, hj, pb_cell (hT 17 (by decide))]
  by_cases h : sX9_isCell told i j = 0
  · rw [if_pos h, if_pos h]
  · rw [if_neg h, if_neg h]
    have hv : ¬ sX2_hasCell num i j = 0 := by rw [pb_cell (hT 17 (by decide))]; exact h
    have b := pb_has3 (pb_R3 hR) hv
    have hr : sX5_reasonAt rs i j = mrs (sX9_cell i j).toNatClampNeg := by
      unfold sX5_reasonAt
      rw [pb_val b.1 b.2, pb_cellE]
      exact hq i j hv
    rw [hr]
theorem pb_caught0 {told num : Nat → Int32} (hT : pb_T told num) (hR : pb_R num) {now rs mrs : Nat → Int32} (hB : pb_B now) (hq : ∀ i j : Int32, ¬ sX2_hasCell num i j = 0 → rs (sX5_placeOf i j).toNatClampNeg = mrs (sX5_placeOf i j).toNatClampNeg) : sX8_isVerifiedFor num (now 10) (now 11) (now 12) (now 13) rs 1 = sX9_isCaught_0 now told mrs :=
  pb_verif hT hR hq (pb_partA hT hR hB.1.1.1 hB.1.1.2) (pb_partW hT hR hB.2.1)
theorem pb_caught1 {told num : Nat → Int32} (hT : pb_T told num) (hR : pb_R num) {now rs mrs : Nat → Int32} (hB : pb_B now) (hq : ∀ i j : Int32, ¬ sX2_hasCell num i j = 0 → rs (sX5_placeOf i j).toNatClampNeg = mrs (sX5_placeOf i j).toNatClampNeg) : sX8_isVerifiedFor num (now 10) (now 11) (now 12) (now 13) rs 2 = sX9_isCaught_1 now told mrs :=
  pb_verif hT hR hq (pb_partA hT hR hB.1.2.1 hB.1.2.2) (pb_partW hT hR hB.2.2)
theorem pb_capt {told num : Nat → Int32} (hT : pb_T told num) (hR : pb_R num) (tw : Int32) (now mrs mfs tri : Nat → Int32) (hB : pb_B now) (hF : 1 ≤ (now 5).toInt) (hM : pb_MT num tw mrs mfs) {rs fs : Nat → Int32} (hok : pb_ok num (now 5) rs fs) : ∃ q : pbQ, sX9_canCapture tw now told mrs mfs tri = (sX8_canCapture num (now 10) (now 11) (now 12) (now 13) rs, q) ∧ q.1 = now 5 ∧ pb_ok num (now 5) q.2.1 q.2.2.1 := by
  obtain ⟨q, h1, h2, h3⟩ := pb_lays hT (pb_R3 hR) tw now mrs mfs tri hF hM
  refine ⟨q, ?_, h2, h3⟩
  have hq := pb_same hok h3
  unfold sX9_canCapture sX9_canCapture_q_1 sX8_canCapture
  rw [h1, pb_caught0 hT hR hB hq, pb_caught1 hT hR hB hq]
  by_cases c1 : sX9_isCaught_0 now told q.2.1 = 0
  · rw [if_pos c1, if_pos c1]
  · rw [if_neg c1, if_neg c1]
    by_cases c2 : sX9_isCaught_1 now told q.2.1 = 0
    · rw [if_pos c2, if_pos c2]
    · rw [if_neg c2, if_neg c2]
