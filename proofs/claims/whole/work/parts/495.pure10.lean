/-! call by call: what the class answers, the reference answers -/
theorem pb_w1 {v lo hi : Int32} (h1 : ¬ v < lo) (h2 : v ≤ hi) : ¬ sX9_within v lo hi = 0 := by
  unfold sX9_within
  rw [if_neg h1, if_neg (by rw [Int32.not_lt]; exact h2)]
  decide
theorem pb_w0 {v lo hi : Int32} (h : v < lo ∨ ¬ v ≤ hi) : sX9_within v lo hi = 0 := by
  unfold sX9_within
  by_cases c : v < lo
  · rw [if_pos c]
  · rw [if_neg c, if_pos (by rw [← Int32.not_le]; exact h.resolve_left c)]
theorem pb_I0 {x : Int32} (h : ¬ x < 0) : 0 ≤ x.toInt := by
  rw [Int32.lt_iff_toInt_lt, Int32.toInt_zero] at h
  omega
theorem pb_Ile {x y : Int32} {n : Int} (hy : y.toInt = n) (h : x ≤ y) : x.toInt ≤ n := by
  rw [Int32.le_iff_toInt_le, hy] at h
  exact h
theorem pb_Ige {x y : Int32} {n : Int} (hy : y.toInt = n) (h : ¬ x < y) : n ≤ x.toInt := by
  rw [Int32.lt_iff_toInt_lt, hy] at h
  omega
theorem pc_sine {angle : Int32} (o1a : ¬ angle < 0) (o1b : angle ≤ 4095) : sX9_sine angle = (sX8_sine_ok angle, 0) := by
  unfold sX9_sine sX8_sine_ok
  have h := pb_Ile (n := 4095) (by decide) o1b
  rw [if_neg (pb_w1 o1a o1b), pb_sine_id (pb_I0 o1a) (by omega)]
theorem pc_sineX {angle : Int32} (b : angle < 0 ∨ ¬ angle ≤ 4095) : sX9_sine angle = (0, 1) := by
  unfold sX9_sine
  rw [if_pos (pb_w0 b)]
theorem pc_lean {angle : Int32} (o1a : ¬ angle < 0) (o1b : angle ≤ 4095) : sX9_lean angle = (sX8_lean_ok angle, 0) := by
  unfold sX9_lean sX8_lean_ok
  rw [if_neg (pb_w1 o1a o1b), pb_lean]
theorem pc_leanX {angle : Int32} (b : angle < 0 ∨ ¬ angle ≤ 4095) : sX9_lean angle = (0, 1) := by
  unfold sX9_lean
  rw [if_pos (pb_w0 b)]
theorem pc_state (now : Nat → Int32) {what : Int32} (o1a : ¬ what < 0) (o1b : what ≤ 8) : sX9_state now what = (sX8_state_ok (now 0) (now 1) (now 4) (now 5) (now 6) (now 7) (now 8) (now 2) (now 3) what, 0) := by
  unfold sX9_state
  rw [if_neg (pb_w1 o1a o1b)]
  obtain ⟨j, hj, rfl⟩ := nI_of2 (M := 8) (n := 8) (by decide) o1a o1b
  clear o1a o1b
  match j, hj with
  | 0, _ => rfl
  | 1, _ => rfl
  | 2, _ => rfl
  | 3, _ => rfl
  | 4, _ => rfl
  | 5, _ => rfl
  | 6, _ => rfl
  | 7, _ => rfl
  | 8, _ => rfl
  | n + 9, hn => exact absurd hn (by omega)
theorem pc_stateX (now : Nat → Int32) {what : Int32} (b : what < 0 ∨ ¬ what ≤ 8) : sX9_state now what = (0, 1) := by
  unfold sX9_state
  rw [if_pos (pb_w0 b)]
theorem pc_lk {link : Int32} (h1 : ¬ link < 1) (h2 : link ≤ 2) : link = 1 ∨ link = 2 := by
  have a := pb_Ige (n := 1) (by decide) h1
  have b := pb_Ile (n := 2) (by decide) h2
  rcases (show link.toInt = 1 ∨ link.toInt = 2 by omega) with h | h
  · exact Or.inl (Int32.toInt_inj.mp (by rw [h]; rfl))
  · exact Or.inr (Int32.toInt_inj.mp (by rw [h]; rfl))
theorem pc_ofLink (now : Nat → Int32) {link : Int32} (hl : link = 1 ∨ link = 2) (what : Int32) : sX9_ofLink_g now link what = sX1_partOfLink (now 10) (now 11) (now 12) (now 13) link what := by
  unfold sX9_ofLink_g sX1_partOfLink
  by_cases w0 : what = 0
  · rw [if_pos w0, if_neg (by rw [w0]; decide), if_pos w0]
    rcases hl with rfl | rfl
    · rfl
    · rfl
  · rw [if_neg w0, if_neg w0]
    by_cases w1 : what = 1
    · rw [if_pos w1, if_pos w1]
      rcases hl with rfl | rfl
      · rfl
      · rfl
    · rw [if_neg w1, if_neg w1]
      rcases hl with rfl | rfl
      · rfl
      · rfl
theorem pc_link (now : Nat → Int32) {link what : Int32} (o1a : ¬ link < 1) (o1b : link ≤ 2) (o2a : ¬ what < 0) (o2b : what ≤ 2) : sX9_link now link what = (sX8_link_ok (now 10) (now 11) (now 12) (now 13) link what, 0) := by
  unfold sX9_link sX8_link_ok
  rw [if_neg (pb_w1 o1a o1b), if_neg (pb_w1 o2a o2b), pc_ofLink now (pc_lk o1a o1b)]
theorem pc_linkX1 (now : Nat → Int32) {link : Int32} (what : Int32) (b : link < 1 ∨ ¬ link ≤ 2) : sX9_link now link what = (0, 1) := by
  unfold sX9_link
  rw [if_pos (pb_w0 b)]
theorem pc_linkX2 (now : Nat → Int32) {link what : Int32} (o1a : ¬ link < 1) (o1b : link ≤ 2) (b : what < 0 ∨ ¬ what ≤ 2) : sX9_link now link what = (0, 2) := by
  unfold sX9_link
  rw [if_neg (pb_w1 o1a o1b), if_pos (pb_w0 b)]
theorem pc_energy {told num : Nat → Int32} (hT : pb_T told num) (now : Nat → Int32) {link : Int32} (o1a : ¬ link < 1) (o1b : link ≤ 2) : sX9_energy now told link = (sX8_energy_ok num (now 10) (now 11) (now 12) (now 13) link, 0) := by
  unfold sX9_energy sX8_energy_ok
  rw [if_neg (pb_w1 o1a o1b)]
  rcases pc_lk o1a o1b with rfl | rfl
  · rw [pb_energy (hT 1 (by decide))]
    rfl
  · rw [pb_energy2 (hT 2 (by decide))]
    rfl
theorem pc_energyX (told now : Nat → Int32) {link : Int32} (b : link < 1 ∨ ¬ link ≤ 2) : sX9_energy now told link = (0, 1) := by
  unfold sX9_energy
  rw [if_pos (pb_w0 b)]
theorem pc_target {told num : Nat → Int32} (hT : pb_T told num) {link : Int32} (o1a : ¬ link < 1) (o1b : link ≤ 2) : sX9_target told link = (sX8_target_ok num link, 0) := by
  unfold sX9_target sX8_target_ok sX2_targetOf
  rw [if_neg (pb_w1 o1a o1b)]
  rcases pc_lk o1a o1b with rfl | rfl
  · rw [pb_n1, ← hT 1 (by decide)]
    rfl
  · rw [pb_n2, ← hT 2 (by decide)]
    rfl
theorem pc_targetX (told : Nat → Int32) {link : Int32} (b : link < 1 ∨ ¬ link ≤ 2) : sX9_target told link = (0, 1) := by
  unfold sX9_target
  rw [if_pos (pb_w0 b)]
theorem pc_push {told num : Nat → Int32} (hT : pb_T told num) (hR : pb_R num) {now : Nat → Int32} (hV : pb_V 9999 now) : sX9_push now told = (sX8_push num (now 1) (now 5) (now 2) (now 3) (now 10) (now 11) (now 12) (now 13), 0) := by
  have h5 := hV.2.2.2.2.1
  unfold sX9_push sX8_push
  rw [pb_push hT hR now (by omega)]
theorem pc_switchesIn {now : Nat → Int32} (hV : pb_V 9999 now) {b1 b2 b3 b4 : Int64} (h : pb_ring (now 0).toInt.toNat b1 b2 b3 b4 now) {ticks : Int32} (o1a : ¬ ticks < 1) (o1b : ticks ≤ 200) : sX9_switchesIn now ticks = (sX8_switchesIn_ok b1 b2 b3 b4 ticks, 0) := by
  have hv := hV.1
  have a := pb_Ige (n := 1) (by decide) o1a
  have b := pb_Ile (n := 200) (by decide) o1b
  have e := pb_swOf (tick := (now 0).toInt.toNat) (by omega) (pb_nI hv.1) h (K := ticks.toInt.toNat) (by omega)
  rw [← pb_nI (by omega)] at e
  unfold sX9_switchesIn sX8_switchesIn_ok
  rw [if_neg (pb_w1 o1a o1b), e]
theorem pc_switchesInX (now : Nat → Int32) {ticks : Int32} (b : ticks < 1 ∨ ¬ ticks ≤ 200) : sX9_switchesIn now ticks = (0, 1) := by
  unfold sX9_switchesIn
  rw [if_pos (pb_w0 b)]
theorem pc_cellOf {told num : Nat → Int32} (hT : pb_T told num) (hR : pb_R num) {now : Nat → Int32} (hV : pb_V 9999 now) {link what : Int32} (o1a : ¬ link < 1) (o1b : link ≤ 2) (o2a : ¬ what < 0) (o2b : what ≤ 1) : sX9_cellOf now told link what = (sX8_cellOf_ok num (now 10) (now 11) (now 12) (now 13) link what, 0) := by
  have hB := hV.2.2.1
  unfold sX9_cellOf sX8_cellOf_ok sX9_partOfLink_g
  rw [if_neg (pb_w1 o1a o1b), if_neg (pb_w1 o2a o2b)]
  rcases pc_lk o1a o1b with rfl | rfl
  · by_cases w0 : what = 0
    · rw [if_pos w0, if_pos w0]
      exact congrArg (fun x => (x, (0 : Int32))) (pb_partA hT hR hB.1.1.1 hB.1.1.2).symm
    · rw [if_neg w0, if_neg w0]
      exact congrArg (fun x => (x, (0 : Int32))) (pb_partW hT hR hB.2.1).symm
  · by_cases w0 : what = 0
    · rw [if_pos w0, if_pos w0]
      exact congrArg (fun x => (x, (0 : Int32))) (pb_partA hT hR hB.1.2.1 hB.1.2.2).symm
    · rw [if_neg w0, if_neg w0]
      exact congrArg (fun x => (x, (0 : Int32))) (pb_partW hT hR hB.2.2).symm
theorem pc_cellOfX1 (now told : Nat → Int32) {link : Int32} (what : Int32) (b : link < 1 ∨ ¬ link ≤ 2) : sX9_cellOf now told link what = (0, 1) := by
  unfold sX9_cellOf
  rw [if_pos (pb_w0 b)]
theorem pc_cellOfX2 (now told : Nat → Int32) {link what : Int32} (o1a : ¬ link < 1) (o1b : link ≤ 2) (b : what < 0 ∨ ¬ what ≤ 1) : sX9_cellOf now told link what = (0, 2) := by
  unfold sX9_cellOf
  rw [if_neg (pb_w1 o1a o1b), if_pos (pb_w0 b)]
/-! with the trials -/
theorem pc_reason {told num : Nat → Int32} (hT : pb_T told num) (hR : pb_R num) {now : Nat → Int32} (hV : pb_V 9999 now) {rs fs : Nat → Int32} (hok : pb_ok num (now 5) rs fs) {tw : Int32} {mrs mfs : Nat → Int32} (hM : pb_MT num tw mrs mfs) (tri : Nat → Int32) {i j : Int32} (o : ¬ sX2_hasCell num i j = 0) : ∃ q : pbQ, sX9_reason tw now told mrs mfs tri i j = (sX8_reason_ok rs i j, 0, q) ∧ pb_MT num q.1 q.2.1 q.2.2.1 := by
  obtain ⟨q, q1, q2, q3⟩ := pb_lays hT (pb_R3 hR) tw now mrs mfs tri hV.2.2.2.2.1 hM
  refine ⟨q, ?_, Or.inr (by rw [q2]; exact q3)⟩
  have b := pb_has3 (pb_R3 hR) o
  unfold sX9_reason sX9_reason_q_4 sX8_reason_ok sX5_reasonAt
  rw [if_neg (by rw [← pb_cell (hT 17 (by decide))]; exact o), q1, pb_val b.1 b.2, pb_cellE, ← pb_same hok q3 i j o]
theorem pc_reasonX {told num : Nat → Int32} (hT : pb_T told num) (now : Nat → Int32) (tw : Int32) (mrs mfs tri : Nat → Int32) {i j : Int32} (b : sX2_hasCell num i j = 0) : sX9_reason tw now told mrs mfs tri i j = (0, 1, tw, mrs, mfs, tri) := by
  unfold sX9_reason
  rw [if_pos (by rw [← pb_cell (hT 17 (by decide))]; exact b)]
theorem pc_failedStep {told num : Nat → Int32} (hT : pb_T told num) (hR : pb_R num) {now : Nat → Int32} (hV : pb_V 9999 now) {rs fs : Nat → Int32} (hok : pb_ok num (now 5) rs fs) {tw : Int32} {mrs mfs : Nat → Int32} (hM : pb_MT num tw mrs mfs) (tri : Nat → Int32) {i j : Int32} (o : ¬ sX2_hasCell num i j = 0) : ∃ q : pbQ, sX9_failedStep tw now told mrs mfs tri i j = (sX8_failedStep_ok fs i j, 0, q) ∧ pb_MT num q.1 q.2.1 q.2.2.1 := by
  obtain ⟨q, q1, q2, q3⟩ := pb_lays hT (pb_R3 hR) tw now mrs mfs tri hV.2.2.2.2.1 hM
  refine ⟨q, ?_, Or.inr (by rw [q2]; exact q3)⟩
  have b := pb_has3 (pb_R3 hR) o
  unfold sX9_failedStep sX9_failedStep_q_4 sX8_failedStep_ok sX5_failedStepAt
  rw [if_neg (by rw [← pb_cell (hT 17 (by decide))]; exact o), q1, pb_val b.1 b.2, pb_cellE, ← pb_same2 hok q3 i j o]
theorem pc_failedStepX {told num : Nat → Int32} (hT : pb_T told num) (now : Nat → Int32) (tw : Int32) (mrs mfs tri : Nat → Int32) {i j : Int32} (b : sX2_hasCell num i j = 0) : sX9_failedStep tw now told mrs mfs tri i j = (0, 1, tw, mrs, mfs, tri) := by
  unfold sX9_failedStep
  rw [if_pos (by rw [← pb_cell (hT 17 (by decide))]; exact b)]
theorem pc_regionSize {told num : Nat → Int32} (hT : pb_T told num) (hR : pb_R num) {now : Nat → Int32} (hV : pb_V 9999 now) {rs fs : Nat → Int32} (hok : pb_ok num (now 5) rs fs) {tw : Int32} {mrs mfs : Nat → Int32} (hM : pb_MT num tw mrs mfs) (tri : Nat → Int32) : ∃ q : pbQ, sX9_regionSize tw now told mrs mfs tri = (sX8_regionSize num rs, 0, q) ∧ pb_MT num q.1 q.2.1 q.2.2.1 := by
  obtain ⟨q, q1, q2, q3⟩ := pb_cells hT (pb_R3 hR) tw now mrs mfs tri hV.2.2.2.2.1 hM hok 0
  refine ⟨q, ?_, Or.inr (by rw [q2]; exact q3)⟩
  unfold sX9_regionSize sX9_regionSize_q_1 sX8_regionSize
  rw [q1, pb_n17]
theorem pc_isCapturable {told num : Nat → Int32} (hT : pb_T told num) (hR : pb_R num) {now : Nat → Int32} (hV : pb_V 9999 now) {rs fs : Nat → Int32} (hok : pb_ok num (now 5) rs fs) {tw : Int32} {mrs mfs : Nat → Int32} (hM : pb_MT num tw mrs mfs) (tri : Nat → Int32) : ∃ q : pbQ, sX9_isCapturable tw now told mrs mfs tri = (sX8_isCapturable num (now 10) (now 11) (now 12) (now 13) rs, 0, q) ∧ pb_MT num q.1 q.2.1 q.2.2.1 := by
  obtain ⟨q, q1, q2, q3⟩ := pb_capt hT hR tw now mrs mfs tri hV.2.2.1 hV.2.2.2.2.1 hM hok
  refine ⟨q, ?_, Or.inr (by rw [q2]; exact q3)⟩
  unfold sX9_isCapturable sX9_isCapturable_q_1 sX8_isCapturable
  rw [q1]
/-! a reason that no cell has -/
theorem pb_lp01 (num : Nat → Int32) (force : Int32) : ∀ (k : Nat) (why n : Int32) (g : pbM), (why = 0 ∨ why = 1 ∨ why = 2 ∨ why = 3) → ((pb_lp num force k why n g).1 = 0 ∨ (pb_lp num force k why n g).1 = 1 ∨ (pb_lp num force k why n g).1 = 2 ∨ (pb_lp num force k why n g).1 = 3) := by
  intro k
  induction k with
  | zero => intro why n g h; exact h
  | succ k ih =>
    intro why n g h
    have hc := pb_code num g.1 g.2.1 g.2.2.1 g.2.2.2.1 g.2.2.2.2.1 g.2.2.2.2.2 (sX2_balancingPush num g.1 g.2.1 g.2.2.1 g.2.2.2.1 g.2.2.2.2.1 g.2.2.2.2.2 force)
    have hc2 : (pb_st num force g).1 = 0 ∨ (pb_st num force g).1 = 1 ∨ (pb_st num force g).1 = 2 ∨ (pb_st num force g).1 = 3 := by
      rcases hc with x | x | x
      · exact Or.inl x.1
      · exact Or.inr (Or.inl x)
      · exact Or.inr (Or.inr (Or.inl x))
    rw [pb_lp]
    split
    · exact h
    · split
      · split
        · split
          · exact ih _ _ _ hc2
          · exact ih _ _ _ (Or.inr (Or.inr (Or.inr rfl)))
        · exact ih _ _ _ hc2
      · exact h
theorem pb_whyB (num : Nat → Int32) (force i j : Int32) : 0 ≤ (pb_why num force i j).toInt ∧ (pb_why num force i j).toInt ≤ 4 := by
  have h := pb_lp01 num force (xMu (num 18) 0 + 1) 0 0 (0, 0, sX8_wrapped (i * num 15), sX8_wrapped (i * num 15), j * num 16, j * num 16) (Or.inl rfl)
  have h2 : (pb_r num force i j).1 = 0 ∨ (pb_r num force i j).1 = 1 ∨ (pb_r num force i j).1 = 2 ∨ (pb_r num force i j).1 = 3 := h
  have k : ∀ x : Int32, (x = 0 ∨ x = 1 ∨ x = 2 ∨ x = 3) → 0 ≤ x.toInt ∧ x.toInt ≤ 4 := by
    intro x hx
    rcases hx with rfl | rfl | rfl | rfl <;> decide
  unfold pb_why
  split
  · split
    · exact k _ h2
    · decide
  · exact k _ h2
theorem pb_noIn {num rs : Nat → Int32} (hc : pb_c3 num) {reason i : Int32} (hi : -(num 17).toInt ≤ i.toInt ∧ i.toInt ≤ (num 17).toInt) (hr : ∀ i j : Int32, ¬ sX2_hasCell num i j = 0 → ¬ rs (sX5_placeOf i j).toNatClampNeg = reason) (kC : Int32 → Int32 → Int32) (hk : ∀ j, kC j 0 = 0) : ∀ (k : Nat) (j : Int32), -(num 17).toInt ≤ j.toInt → j.toInt ≤ (num 17).toInt + 1 → sX5_countOf_l16 rs reason (num 17) i kC k j 0 = 0 := by
  intro k
  induction k with
  | zero => intro j _ _; exact hk j
  | succ k ih =>
    intro j hj0 hj1
    rw [sX5_countOf_l16]
    by_cases h : num 17 < j
    · rw [if_pos h]
      exact hk j
    · rw [if_neg h]
      have hj2 : j.toInt ≤ (num 17).toInt := by rw [Int32.lt_iff_toInt_lt] at h; omega
      have h3 := hc.2
      have hv : ¬ sX2_hasCell num i j = 0 := (pb_has hc.1).mpr ⟨hi, hj0, hj2⟩
      have b := pb_has3 hc hv
      have e := pb_inc (j := j) (by omega)
      rw [if_neg (by unfold sX5_reasonAt; rw [pb_val b.1 b.2]; exact hr i j hv), Int32.add_zero]
      exact ih _ (by rw [e]; omega) (by rw [e]; omega)
theorem pb_noOut {num rs : Nat → Int32} (hc : pb_c3 num) {reason : Int32} (hr : ∀ i j : Int32, ¬ sX2_hasCell num i j = 0 → ¬ rs (sX5_placeOf i j).toNatClampNeg = reason) : ∀ (k : Nat) (i : Int32), -(num 17).toInt ≤ i.toInt → i.toInt ≤ (num 17).toInt + 1 → sX5_countOf_l6 rs reason (num 17) (fun _ n => n) k i 0 = 0 := by
  intro k
  induction k with
  | zero => intro i _ _; rfl
  | succ k ih =>
    intro i hi0 hi1
    rw [sX5_countOf_l6]
    by_cases h : num 17 < i
    · rw [if_pos h]
    · rw [if_neg h]
      have hi2 : i.toInt ≤ (num 17).toInt := by rw [Int32.lt_iff_toInt_lt] at h; omega
      have h3 := hc.2
      have h0 := hc.1
      have hn := pb_neg3 hc
      have e := pb_inc (j := i) (by omega)
      exact pb_noIn hc ⟨hi0, hi2⟩ hr _ (fun _ => ih (i + 1) (by rw [e]; omega) (by rw [e]; omega)) _ _ (by rw [hn]; omega) (by rw [hn]; omega)
theorem pc_cellsWith {told num : Nat → Int32} (hT : pb_T told num) (hR : pb_R num) {now : Nat → Int32} (hV : pb_V 9999 now) {rs fs : Nat → Int32} (hok : pb_ok num (now 5) rs fs) {tw : Int32} {mrs mfs : Nat → Int32} (hM : pb_MT num tw mrs mfs) (tri : Nat → Int32) (reason : Int32) : ∃ q : pbQ, sX9_cellsWith tw now told mrs mfs tri reason = (sX8_cellsWith num rs reason, 0, q) ∧ pb_MT num q.1 q.2.1 q.2.2.1 := by
  unfold sX9_cellsWith sX8_cellsWith
  rw [pb_n17]
  have hc := pb_R3 hR
  by_cases c : sX9_within reason 0 4 = 0
  · refine ⟨(tw, mrs, mfs, tri), ?_, hM⟩
    rw [if_pos c]
    have hn := pb_neg3 hc
    have h0 := hc.1
    have hz : sX5_countOf rs reason (num 17) = 0 := by
      unfold sX5_countOf
      refine pb_noOut hc (fun i j hv x => ?_) _ _ (by rw [hn]; omega) (by rw [hn]; omega)
      have hb := pb_whyB num (now 5) i j
      rw [← (hok i j hv).1, x] at hb
      refine pb_w1 (v := reason) (lo := 0) (hi := 4) ?_ ?_ c
      · rw [Int32.lt_iff_toInt_lt, Int32.toInt_zero]
        omega
      · rw [Int32.le_iff_toInt_le, show (4 : Int32).toInt = 4 from by decide]
        exact hb.2
    rw [hz]
  · rw [if_neg c]
    obtain ⟨q, q1, q2, q3⟩ := pb_cells hT hc tw now mrs mfs tri hV.2.2.2.2.1 hM hok reason
    refine ⟨q, ?_, Or.inr (by rw [q2]; exact q3)⟩
    unfold sX9_cellsWith_q_2
    rw [q1]
/-! what would be -/
theorem pb_lo (now was : Nat → Int32) : ∀ g : Nat → Int32, ∀ k, k < 214 → sX9_copies (sX9_copies now was 0 0 214) g 0 0 214 k = now k := by
  intro g k hk
  have e1 : sX9_copies now was 0 0 214 = pb_lay now was 0 0 214 := pb_cp now was (at_ := 0) (into := 0) (many := 214) (by decide) (by decide)
  have e2 : ∀ f : Nat → Int32, sX9_copies f g 0 0 214 = pb_lay f g 0 0 214 := fun f => pb_cp f g (at_ := 0) (into := 0) (many := 214) (by decide) (by decide)
  rw [e1, e2]
  show (if _ then _ else _) = _
  rw [if_pos (by omega)]
  show (if _ then _ else _) = _
  rw [if_pos (by omega)]
  exact congrArg now (by omega)
theorem pb_J0 {num : Nat → Int32} {now : Nat → Int32} (hV : pb_V 9999 now) {b1 b2 b3 b4 : Int64} (hr : pb_ring (now 0).toInt.toNat b1 b2 b3 b4 now) {tw : Int32} {mrs mfs : Nat → Int32} (hM : pb_MT num tw mrs mfs) (tri : Nat → Int32) : pb_J num ((now 0).toInt + (0 : Int32).toInt) (now 5) (now 8) (pb_G now b1 b2 b3 b4) (now, tw, mrs, mfs, tri) := by
  refine ⟨b1, b2, b3, b4, rfl, hr, ?_, rfl, rfl, hM⟩
  obtain ⟨v0, v1⟩ := hV
  refine ⟨⟨v0.1, ?_⟩, v1⟩
  rw [Int32.toInt_zero]
  dsimp only
  omega
theorem pb_JM {num : Nat → Int32} {T : Int} {force resets : Int32} {g : pbG} {m : pbP} (h : pb_J num T force resets g m) : pb_MT num m.2.1 m.2.2.1 m.2.2.2.1 := by
  obtain ⟨b1, b2, b3, b4, h1, h2, h3, h4, h5, h6⟩ := h
  exact h6
theorem pc_ticksUntil {told num : Nat → Int32} (hT : pb_T told num) (hR : pb_R num) {now : Nat → Int32} (hV : pb_V 9999 now) {b1 b2 b3 b4 : Int64} (hr : pb_ring (now 0).toInt.toNat b1 b2 b3 b4 now) {rs fs : Nat → Int32} (hok : pb_ok num (now 5) rs fs) {tw : Int32} {mrs mfs : Nat → Int32} (hM : pb_MT num tw mrs mfs) (tri was ars : Nat → Int32) {limit : Int32} (mode : Int32) (o1a : ¬ limit < 0) (o1b : limit ≤ 1000) : ∃ (v : Int32) (g : pbG) (m : pbP) (was' now' : Nat → Int32), sX8_ticksUntil num (now 0) (now 1) (now 4) (now 5) (now 6) (now 7) (now 9) (now 2) (now 3) (now 10) (now 11) (now 12) (now 13) rs b1 b2 b3 b4 ars mode limit = (v, g) ∧ sX9_ticksTo tw now told mrs mfs tri was mode limit = (v, 0, now', m.2.1, m.2.2.1, m.2.2.2.1, m.2.2.2.2, was') ∧ (∀ k, k < 214 → now' k = now k) ∧ pb_MT num m.2.1 m.2.2.1 m.2.2.2.1 := by
  have hb := pb_Ile (n := 1000) (by decide) o1b
  have h0 := pb_I0 o1a
  have hv := hV.1
  have hok2 := pb_okCpy (pb_R3 hR) (ars := ars) (afs := fs) hok
  unfold sX9_ticksTo sX9_ticksTo_q_4 sX8_ticksUntil
  rw [if_neg (pb_w1 o1a o1b)]
  obtain ⟨i', g', m', j1, j2, j3⟩ := pb_tuL hT hR (T := (now 0).toInt) (force := now 5) (resets := now 8) (limit := limit) (mode := mode) hb (by omega) hok2 (fun (k_13 : Int32) (g_13 : Int32 × Int32 × Int32 × Int32 × Int32 × Int32 × Int32 × Int32 × Int32 × Int32 × Int32 × Int32 × Int64 × Int64 × Int64 × Int64) => if g_13.2.2.2.2.2.2.2.1 = mode then (k_13, g_13) else ((-1), g_13)) (fun (k_49 : Int32) (g_49 : (Nat → Int32) × Int32 × (Nat → Int32) × (Nat → Int32) × (Nat → Int32)) => if (g_49.1 1) = mode then (k_49, 0, (sX9_copies (sX9_copies now was 0 0 214) g_49.1 0 0 214), g_49.2.1, g_49.2.2.1, g_49.2.2.2.1, g_49.2.2.2.2, (sX9_copies now was 0 0 214)) else ((-1), 0, (sX9_copies (sX9_copies now was 0 0 214) g_49.1 0 0 214), g_49.2.1, g_49.2.2.1, g_49.2.2.2.1, g_49.2.2.2.2, (sX9_copies now was 0 0 214))) (xMu limit 0 + 1) 0 (pb_G now b1 b2 b3 b4) (now, tw, mrs, mfs, tri) (by decide) (by rw [Int32.toInt_zero]; exact h0) (by unfold xMu; omega) (pb_J0 hV hr hM tri)
  have hm := (pb_J2 j1).2.1
  refine ⟨if g'.2.2.2.2.2.2.2.1 = mode then i' else -1, g', m', sX9_copies now was 0 0 214, sX9_copies (sX9_copies now was 0 0 214) m'.1 0 0 214, ?_, ?_, pb_lo now was m'.1, pb_JM j1⟩
  · refine Eq.trans j2 ?_
    by_cases c : g'.2.2.2.2.2.2.2.1 = mode
    · simp only [if_pos c]
    · simp only [if_neg c]
  · refine Eq.trans j3 ?_
    rw [← hm]
    by_cases c : m'.1 1 = mode
    · simp only [if_pos c]
    · simp only [if_neg c]
theorem pc_ticksToX {told : Nat → Int32} (now : Nat → Int32) (tw : Int32) (mrs mfs tri was : Nat → Int32) {limit : Int32} (mode : Int32) (b : limit < 0 ∨ ¬ limit ≤ 1000) : sX9_ticksTo tw now told mrs mfs tri was mode limit = (0, 1, now, tw, mrs, mfs, tri, was) := by
  unfold sX9_ticksTo
  rw [if_pos (pb_w0 b)]
theorem pc_farthest {told num : Nat → Int32} (hT : pb_T told num) (hR : pb_R num) {now : Nat → Int32} (hV : pb_V 9999 now) {b1 b2 b3 b4 : Int64} (hr : pb_ring (now 0).toInt.toNat b1 b2 b3 b4 now) {rs fs : Nat → Int32} (hok : pb_ok num (now 5) rs fs) {tw : Int32} {mrs mfs : Nat → Int32} (hM : pb_MT num tw mrs mfs) (tri was ars : Nat → Int32) {ticks : Int32} (o1a : ¬ ticks < 0) (o1b : ticks ≤ 1000) : ∃ (v : Int32) (g : pbG) (m : pbP) (was' now' : Nat → Int32), sX8_farthest_ok num (now 0) (now 1) (now 4) (now 5) (now 6) (now 7) (now 9) (now 2) (now 3) (now 10) (now 11) (now 12) (now 13) rs b1 b2 b3 b4 ars ticks = (v, g) ∧ sX9_farthest tw now told mrs mfs tri was ticks = (v, 0, now', m.2.1, m.2.2.1, m.2.2.2.1, m.2.2.2.2, was') ∧ (∀ k, k < 214 → now' k = now k) ∧ pb_MT num m.2.1 m.2.2.1 m.2.2.2.1 := by
  have hb := pb_Ile (n := 1000) (by decide) o1b
  have h0 := pb_I0 o1a
  have hv := hV.1
  have hok2 := pb_okCpy (pb_R3 hR) (ars := ars) (afs := fs) hok
  unfold sX9_farthest sX9_farthest_q_4 sX8_farthest_ok
  rw [if_neg (pb_w1 o1a o1b)]
  obtain ⟨i', most', g', m', j1, j2, j3⟩ := pb_faL hT hR (T := (now 0).toInt) (force := now 5) (resets := now 8) (ticks := ticks) hb (by omega) hok2 (fun (_ : Int32) (most__35 : Int32) (g_35 : pbG) => (most__35, g_35)) (fun (k_75 : Int32) (most_75 : Int32) (g_75 : (Nat → Int32) × Int32 × (Nat → Int32) × (Nat → Int32) × (Nat → Int32)) => (most_75, 0, (sX9_copies (sX9_copies now was 0 0 214) g_75.1 0 0 214), g_75.2.1, g_75.2.2.1, g_75.2.2.2.1, g_75.2.2.2.2, (sX9_copies now was 0 0 214))) (xMu ticks 0 + 1) 0 (xAbs (now 2)) (pb_G now b1 b2 b3 b4) (now, tw, mrs, mfs, tri) (by decide) (by rw [Int32.toInt_zero]; exact h0) (by unfold xMu; omega) (pb_J0 hV hr hM tri)
  refine ⟨most', g', m', sX9_copies now was 0 0 214, sX9_copies (sX9_copies now was 0 0 214) m'.1 0 0 214, j2, ?_, pb_lo now was m'.1, pb_JM j1⟩
  rw [pb_abs] at j3
  by_cases c : 0 ≤ now 2
  · rw [if_pos c]
    rw [if_pos c] at j3
    exact j3
  · rw [if_neg c]
    rw [if_neg c] at j3
    exact j3
theorem pc_farthestX {told : Nat → Int32} (now : Nat → Int32) (tw : Int32) (mrs mfs tri was : Nat → Int32) {ticks : Int32} (b : ticks < 0 ∨ ¬ ticks ≤ 1000) : sX9_farthest tw now told mrs mfs tri was ticks = (0, 1, now, tw, mrs, mfs, tri, was) := by
  unfold sX9_farthest
  rw [if_pos (pb_w0 b)]
theorem pc_linkAfter {told num : Nat → Int32} (hT : pb_T told num) (hR : pb_R num) {now : Nat → Int32} (hV : pb_V 9999 now) {b1 b2 b3 b4 : Int64} (hr : pb_ring (now 0).toInt.toNat b1 b2 b3 b4 now) {rs fs : Nat → Int32} (hok : pb_ok num (now 5) rs fs) {tw : Int32} {mrs mfs : Nat → Int32} (hM : pb_MT num tw mrs mfs) (tri was ars : Nat → Int32) {link what ticks : Int32} (o1a : ¬ link < 1) (o1b : link ≤ 2) (o2a : ¬ what < 0) (o2b : what ≤ 2) (o3a : ¬ ticks < 0) (o3b : ticks ≤ 1000) : ∃ (v : Int32) (g : pbG) (m : pbP) (was' now' : Nat → Int32), sX8_linkAfter_ok num (now 0) (now 1) (now 4) (now 5) (now 6) (now 7) (now 9) (now 2) (now 3) (now 10) (now 11) (now 12) (now 13) rs b1 b2 b3 b4 ars link what ticks = (v, g) ∧ sX9_linkAfter tw now told mrs mfs tri was link what ticks = (v, 0, now', m.2.1, m.2.2.1, m.2.2.2.1, m.2.2.2.2, was') ∧ (∀ k, k < 214 → now' k = now k) ∧ pb_MT num m.2.1 m.2.2.1 m.2.2.2.1 := by
  have hb := pb_Ile (n := 1000) (by decide) o3b
  have h0 := pb_I0 o3a
  have hv := hV.1
  have hok2 := pb_okCpy (pb_R3 hR) (ars := ars) (afs := fs) hok
  unfold sX9_linkAfter sX9_linkAfter_q_12 sX8_linkAfter_ok
  rw [if_neg (pb_w1 o1a o1b), if_neg (pb_w1 o2a o2b), if_neg (pb_w1 o3a o3b)]
  obtain ⟨i', g', m', j1, j2, j3⟩ := pb_lkL hT hR (T := (now 0).toInt) (force := now 5) (resets := now 8) (ticks := ticks) hb (by omega) hok2 (fun (_ : Int32) (g_32 : pbG) => (sX1_partOfLink g_32.2.2.1 g_32.2.2.2.1 g_32.2.2.2.2.1 g_32.2.2.2.2.2.1 link what, g_32)) (fun (k_62 : Int32) (g_62 : (Nat → Int32) × Int32 × (Nat → Int32) × (Nat → Int32) × (Nat → Int32)) => (sX9_ofLink_g g_62.1 link what, 0, (sX9_copies (sX9_copies now was 0 0 214) g_62.1 0 0 214), g_62.2.1, g_62.2.2.1, g_62.2.2.2.1, g_62.2.2.2.2, (sX9_copies now was 0 0 214))) (xMu ticks 0 + 1) 0 (pb_G now b1 b2 b3 b4) (now, tw, mrs, mfs, tri) (by decide) (by rw [Int32.toInt_zero]; exact h0) (by unfold xMu; omega) (pb_J0 hV hr hM tri)
  refine ⟨sX1_partOfLink g'.2.2.1 g'.2.2.2.1 g'.2.2.2.2.1 g'.2.2.2.2.2.1 link what, g', m', sX9_copies now was 0 0 214, sX9_copies (sX9_copies now was 0 0 214) m'.1 0 0 214, j2, ?_, pb_lo now was m'.1, pb_JM j1⟩
  refine Eq.trans j3 ?_
  obtain ⟨-, -, e1, e2, e3, e4⟩ := pb_J2 j1
  rw [pc_ofLink m'.1 (pc_lk o1a o1b), e1, e2, e3, e4]
theorem pc_linkAfterX1 {told : Nat → Int32} (now : Nat → Int32) (tw : Int32) (mrs mfs tri was : Nat → Int32) {link : Int32} (what ticks : Int32) (b : link < 1 ∨ ¬ link ≤ 2) : sX9_linkAfter tw now told mrs mfs tri was link what ticks = (0, 1, now, tw, mrs, mfs, tri, was) := by
  unfold sX9_linkAfter
  rw [if_pos (pb_w0 b)]
theorem pc_linkAfterX2 {told : Nat → Int32} (now : Nat → Int32) (tw : Int32) (mrs mfs tri was : Nat → Int32) {link what : Int32} (ticks : Int32) (o1a : ¬ link < 1) (o1b : link ≤ 2) (b : what < 0 ∨ ¬ what ≤ 2) : sX9_linkAfter tw now told mrs mfs tri was link what ticks = (0, 2, now, tw, mrs, mfs, tri, was) := by
  unfold sX9_linkAfter
  rw [if_neg (pb_w1 o1a o1b), if_pos (pb_w0 b)]
theorem pc_linkAfterX3 {told : Nat → Int32} (now : Nat → Int32) (tw : Int32) (mrs mfs tri was : Nat → Int32) {link what ticks : Int32} (o1a : ¬ link < 1) (o1b : link ≤ 2) (o2a : ¬ what < 0) (o2b : what ≤ 2) (b : ticks < 0 ∨ ¬ ticks ≤ 1000) : sX9_linkAfter tw now told mrs mfs tri was link what ticks = (0, 2, now, tw, mrs, mfs, tri, was) := by
  unfold sX9_linkAfter
  rw [if_neg (pb_w1 o1a o1b), if_neg (pb_w1 o2a o2b), if_pos (pb_w0 b)]
