theorem pb_Vmono {T T' : Int} {row : Nat → Int32} (h : pb_V T row) (hT : T ≤ T') : pb_V T' row := ⟨⟨h.1.1, by have := h.1.2; omega⟩, h.2⟩
/-- the rest of a tick that isn't stopped -/
theorem pb_rest {told num : Nat → Int32} (hT : pb_T told num) (hR : pb_R num) {t : Nat} (ht : t < 900000) {row : Nat → Int32} (hrow : row 0 = nI (t + 1)) {T : Int} (hV : pb_V T row) (hm : row 1 ≠ 3) {P : Int64 × Int64 × Int64 × Int64} (h : pb_ring (t + 1) P.1 P.2.1 P.2.2.1 P.2.2.2 row) {tw : Int32} {mrs mfs tri rs fs : Nat → Int32} (hM : pb_MT num tw mrs mfs) (hok : pb_ok num (row 5) rs fs) (n1 n2 : Nat → Int32) (tick mode lock sw : Int32) (htick : tick + 1 = row 0) (c1 c2 c3 c4 : Int64) : ∃ (r : pbP) (b1' : Int64), sX9_passes_q_4 tw n1 told mrs mfs tri n2 (sX9_switches tw row told mrs mfs tri) = r ∧ sX8_doTick_q_4 num tick mode lock (row 5) sw (row 7) (row 9) (row 2) (row 3) (row 10) (row 11) (row 12) (row 13) rs c1 c2 c3 c4 P (sX8_switchModeIfDue num (row 1) (row 4) (row 6) (row 10) (row 11) (row 12) (row 13) rs P.1 P.2.1 P.2.2.1 P.2.2.2) = pb_G r.1 b1' P.2.1 P.2.2.1 P.2.2.2 ∧ pb_ring (t + 1) b1' P.2.1 P.2.2.1 P.2.2.2 r.1 ∧ pb_V T r.1 ∧ r.1 0 = row 0 ∧ r.1 5 = row 5 ∧ r.1 8 = row 8 ∧ pb_MT num r.2.1 r.2.2.1 r.2.2.2.1 := by
  obtain ⟨q, b1', a1, a2, a3, a4, a5, a6⟩ := pb_switch hT hR (by omega) (by omega) hrow hV.2.2.1 hV.2.2.2.2.1 h (tri := tri) hM hok
  rw [a1, a2]
  have k0 := a5 0 (by decide) (by decide) (by decide) (by decide)
  have k2 := a5 2 (by decide) (by decide) (by decide) (by decide)
  have k3 := a5 3 (by decide) (by decide) (by decide) (by decide)
  have k5 := a5 5 (by decide) (by decide) (by decide) (by decide)
  have k7 := a5 7 (by decide) (by decide) (by decide) (by decide)
  have k8 := a5 8 (by decide) (by decide) (by decide) (by decide)
  have k9 := a5 9 (by decide) (by decide) (by decide) (by decide)
  have k10 := a5 10 (by decide) (by decide) (by decide) (by decide)
  have k11 := a5 11 (by decide) (by decide) (by decide) (by decide)
  have k12 := a5 12 (by decide) (by decide) (by decide) (by decide)
  have k13 := a5 13 (by decide) (by decide) (by decide) (by decide)
  obtain ⟨v0, v1, v2, v3, v4⟩ := hV
  have hm3 : q.1 1 ≠ 3 := by
    rcases a3 with e | e | e
    · rw [e]; exact hm
    · rw [e]; decide
    · rw [e]; decide
  have hV3 : pb_V T q.1 := by
    refine ⟨by rw [k0]; exact v0, ?_, ?_, fun _ => by rw [k12, k13]; exact v3 hm, by rw [k5]; exact v4⟩
    · rcases a3 with e | e | e
      · rw [e]; exact v1
      · exact Or.inr (Or.inl e)
      · exact Or.inr (Or.inr (Or.inl e))
    · unfold pb_B
      rw [k10, k11, k12, k13]
      exact v2
  obtain ⟨w, row', e1, e2, e3, e4, e5, e6, e7, e8, e9, e10, e11⟩ := pb_go hT hR hV3 hm3 a4
  have g1 : row' 2 = w.2.1 := congrArg (fun q : pbM => q.1) e5
  have g2 : row' 3 = w.2.2.1 := congrArg (fun q : pbM => q.2.1) e5
  have g3 : row' 10 = w.2.2.2.1 := congrArg (fun q : pbM => q.2.2.1) e5
  have g4 : row' 11 = w.2.2.2.2.1 := congrArg (fun q : pbM => q.2.2.2.1) e5
  have g5 : row' 12 = w.2.2.2.2.2.1 := congrArg (fun q : pbM => q.2.2.2.2.1) e5
  have g6 : row' 13 = w.2.2.2.2.2.2 := congrArg (fun q : pbM => q.2.2.2.2.2) e5
  refine ⟨(row', q.2), b1', ?_, ?_, e4, e3, e6.trans k0, e8.trans k5, e10.trans k8, a6⟩
  · unfold sX9_passes_q_4 sX9_passes_q_5
    rw [← e2]
    split
    · rfl
    · rfl
  · unfold sX8_doTick_q_4
    dsimp only
    rw [← k2, ← k3, ← k5, ← k10, ← k11, ← k12, ← k13, e1, ← k7, ← k9]
    unfold sX8_doTick_q_5 pb_G
    dsimp only
    rw [g1, g2, g3, g4, g5, g6, e6, e7, e9, htick, k0]
    rcases e11 with ⟨z0, z1, z2, z3⟩ | ⟨z0, z1, z2, z3⟩
    · rw [if_pos z0, z1, z2, z3]
    · rw [if_neg z0, z1, z2, z3]
/-- one tick -/
theorem pb_tick {told num : Nat → Int32} (hT : pb_T told num) (hR : pb_R num) {T : Int} (hT2 : T < 900000) {now : Nat → Int32} (hV : pb_V T now) {b1 b2 b3 b4 : Int64} (h : pb_ring (now 0).toInt.toNat b1 b2 b3 b4 now) {tw : Int32} {mrs mfs tri rs fs : Nat → Int32} (hM : pb_MT num tw mrs mfs) (hok : pb_ok num (now 5) rs fs) : ∃ (r : pbP) (b1' b2' b3' b4' : Int64), sX9_passes tw now told mrs mfs tri = r ∧ sX8_doTick num (now 0) (now 1) (now 4) (now 5) (now 6) (now 7) (now 9) (now 2) (now 3) (now 10) (now 11) (now 12) (now 13) rs b1 b2 b3 b4 = pb_G r.1 b1' b2' b3' b4' ∧ pb_ring (r.1 0).toInt.toNat b1' b2' b3' b4' r.1 ∧ pb_V (T + 1) r.1 ∧ r.1 5 = now 5 ∧ r.1 8 = now 8 ∧ pb_MT num r.2.1 r.2.2.1 r.2.2.2.1 := by
  obtain ⟨t, ht⟩ : ∃ t, (now 0).toInt.toNat = t := ⟨_, rfl⟩
  rw [ht] at h
  have hv0 := hV.1
  have htl : t < 900000 := by omega
  have hn : now 0 = nI t := by rw [← ht]; exact pb_nI hv0.1
  have hn1 : now 0 + 1 = nI (t + 1) := by rw [hn]; exact nI_1 t
  have hI1 : (now 0 + 1).toInt = (t : Int) + 1 := by rw [hn1, nI_toInt (by omega)]; omega
  have hs := pb_slot (x := now 0 + 1) (t := t + 1) (by omega) hn1
  have hring := pb_ringPass h (now 0 + 1)
  unfold sX9_passes sX9_passes_q_1 sX8_doTick sX8_doTick_q_1
  rw [hs]
  generalize hP : sX4_passTick b1 b2 b3 b4 = P at hring
  have lo : ∀ k, k < 14 → k ≠ 0 → upd (upd now 0 (now 0 + 1)) (14 + (t + 1) % 200) 0 k = now k := fun k hk h0 => by
    show (if _ then _ else _) = _
    rw [if_neg (by omega)]
    show (if _ then _ else _) = _
    rw [if_neg h0]
  have lo0 : upd (upd now 0 (now 0 + 1)) (14 + (t + 1) % 200) 0 0 = now 0 + 1 := by
    show (if _ then _ else _) = _
    rw [if_neg (by omega)]
    rfl
  generalize hrow : upd (upd now 0 (now 0 + 1)) (14 + (t + 1) % 200) 0 = row at hring lo lo0
  have l1 := lo 1 (by decide) (by decide)
  have l2 := lo 2 (by decide) (by decide)
  have l3 := lo 3 (by decide) (by decide)
  have l4 := lo 4 (by decide) (by decide)
  have l5 := lo 5 (by decide) (by decide)
  have l6 := lo 6 (by decide) (by decide)
  have l7 := lo 7 (by decide) (by decide)
  have l8 := lo 8 (by decide) (by decide)
  have l9 := lo 9 (by decide) (by decide)
  have l10 := lo 10 (by decide) (by decide)
  have l11 := lo 11 (by decide) (by decide)
  have l12 := lo 12 (by decide) (by decide)
  have l13 := lo 13 (by decide) (by decide)
  have hV1 : pb_V (T + 1) row := by
    obtain ⟨v0, v1, v2, v3, v4⟩ := hV
    refine ⟨by rw [lo0, hI1]; omega, by rw [l1]; exact v1, ?_, fun x => by rw [l12, l13]; exact v3 (by rw [← l1]; exact x), by rw [l5]; exact v4⟩
    unfold pb_B
    rw [l10, l11, l12, l13]
    exact v2
  have hI2 : (row 0).toInt.toNat = t + 1 := by rw [lo0, hI1]; omega
  rw [l1]
  by_cases m3 : now 1 = 3
  · refine ⟨(row, tw, mrs, mfs, tri), P.1, P.2.1, P.2.2.1, P.2.2.2, by rw [if_pos m3], ?_, ?_, hV1, l5, l8, hM⟩
    · rw [if_pos m3]
      unfold pb_G
      dsimp only
      rw [l1, l2, l3, l4, l6, l7, l9, l10, l11, l12, l13, lo0]
    · show pb_ring (row 0).toInt.toNat _ _ _ _ row
      rw [hI2]
      exact hring
  · rw [if_neg m3, if_neg m3, l4]
    have part : ∀ lk : Int32, ∃ (r : pbP) (b1' : Int64), sX9_passes_q_4 tw now told mrs mfs tri row (sX9_switches tw (upd row 4 lk) told mrs mfs tri) = r ∧ sX8_doTick_q_4 num (now 0) (now 1) (now 4) (now 5) (now 6) (now 7) (now 9) (now 2) (now 3) (now 10) (now 11) (now 12) (now 13) rs b1 b2 b3 b4 P (sX8_switchModeIfDue num (now 1) lk (now 6) (now 10) (now 11) (now 12) (now 13) rs P.1 P.2.1 P.2.2.1 P.2.2.2) = pb_G r.1 b1' P.2.1 P.2.2.1 P.2.2.2 ∧ pb_ring (t + 1) b1' P.2.1 P.2.2.1 P.2.2.2 r.1 ∧ pb_V (T + 1) r.1 ∧ r.1 0 = row 0 ∧ r.1 5 = now 5 ∧ r.1 8 = now 8 ∧ pb_MT num r.2.1 r.2.2.1 r.2.2.2.1 := by
      intro lk
      have hring2 : pb_ring (t + 1) P.1 P.2.1 P.2.2.1 P.2.2.2 (upd row 4 lk) := pb_ringOf hring (fun k _ => by
        show (if _ then _ else _) = _
        rw [if_neg (by omega)])
      have hV2 : pb_V (T + 1) (upd row 4 lk) := hV1
      have hok2 : pb_ok num (upd row 4 lk 5) rs fs := by
        show pb_ok num (row 5) rs fs
        rw [l5]
        exact hok
      obtain ⟨r, b1', r1, r2, r3, r4, r5, r6, r7, r8⟩ := pb_rest hT hR htl (row := upd row 4 lk) (lo0.trans hn1) hV2 (by show row 1 ≠ 3; rw [l1]; exact m3) hring2 (tri := tri) hM hok2 now row (now 0) (now 1) (now 4) (now 6) lo0.symm b1 b2 b3 b4
      refine ⟨r, b1', r1, ?_, r3, r4, r5, r6.trans l5, r7.trans l8, r8⟩
      rw [← r2]
      show sX8_doTick_q_4 num (now 0) (now 1) (now 4) (now 5) (now 6) (now 7) (now 9) (now 2) (now 3) (now 10) (now 11) (now 12) (now 13) rs b1 b2 b3 b4 P (sX8_switchModeIfDue num (now 1) lk (now 6) (now 10) (now 11) (now 12) (now 13) rs P.1 P.2.1 P.2.2.1 P.2.2.2) = sX8_doTick_q_4 num (now 0) (now 1) (now 4) (row 5) (now 6) (row 7) (row 9) (row 2) (row 3) (row 10) (row 11) (row 12) (row 13) rs b1 b2 b3 b4 P (sX8_switchModeIfDue num (row 1) lk (row 6) (row 10) (row 11) (row 12) (row 13) rs P.1 P.2.1 P.2.2.1 P.2.2.2)
      rw [l1, l2, l3, l5, l6, l7, l9, l10, l11, l12, l13]
    by_cases c : now 4 ≤ 0
    · rw [if_pos c, if_pos c, Int32.sub_zero]
      obtain ⟨r, b1', r1, r2, r3, r4, r5, r6, r7, r8⟩ := part (now 4)
      exact ⟨r, b1', P.2.1, P.2.2.1, P.2.2.2, r1, r2, by rw [r5, hI2]; exact r3, r4, r6, r7, r8⟩
    · rw [if_neg c, if_neg c]
      obtain ⟨r, b1', r1, r2, r3, r4, r5, r6, r7, r8⟩ := part (now 4 - 1)
      exact ⟨r, b1', P.2.1, P.2.2.1, P.2.2.2, r1, r2, by rw [r5, hI2]; exact r3, r4, r6, r7, r8⟩
/-- a run of ticks -/
def pb_J (num : Nat → Int32) (T : Int) (force resets : Int32) (g : pbG) (m : pbP) : Prop := ∃ b1 b2 b3 b4 : Int64, g = pb_G m.1 b1 b2 b3 b4 ∧ pb_ring (m.1 0).toInt.toNat b1 b2 b3 b4 m.1 ∧ pb_V T m.1 ∧ m.1 5 = force ∧ m.1 8 = resets ∧ pb_MT num m.2.1 m.2.2.1 m.2.2.2.1
abbrev pb_tc (num : Nat → Int32) (force : Int32) (rs : Nat → Int32) (g : pbG) : pbG := sX8_doTick num g.2.2.2.2.2.2.1 g.2.2.2.2.2.2.2.1 g.2.2.2.2.2.2.2.2.1 force g.2.2.2.2.2.2.2.2.2.1 g.2.2.2.2.2.2.2.2.2.2.1 g.2.2.2.2.2.2.2.2.2.2.2.1 g.1 g.2.1 g.2.2.1 g.2.2.2.1 g.2.2.2.2.1 g.2.2.2.2.2.1 rs g.2.2.2.2.2.2.2.2.2.2.2.2.1 g.2.2.2.2.2.2.2.2.2.2.2.2.2.1 g.2.2.2.2.2.2.2.2.2.2.2.2.2.2.1 g.2.2.2.2.2.2.2.2.2.2.2.2.2.2.2
abbrev pb_tm (told : Nat → Int32) (m : pbP) : pbP := sX9_passes m.2.1 m.1 told m.2.2.1 m.2.2.2.1 m.2.2.2.2
theorem pb_Jt {told num : Nat → Int32} (hT : pb_T told num) (hR : pb_R num) {T : Int} (hT2 : T < 900000) {force resets : Int32} {rs fs : Nat → Int32} (hok : pb_ok num force rs fs) {g : pbG} {m : pbP} (h : pb_J num T force resets g m) : pb_J num (T + 1) force resets (pb_tc num force rs g) (pb_tm told m) := by
  obtain ⟨b1, b2, b3, b4, e, h1, h2, h3, h4, h5⟩ := h
  subst h3
  obtain ⟨r, c1, c2, c3, c4, r1, r2, r3, r4, r5, r6, r7⟩ := pb_tick hT hR hT2 h2 h1 (tri := m.2.2.2.2) h5 hok
  refine ⟨c1, c2, c3, c4, ?_, ?_, ?_, ?_, ?_, ?_⟩
  · rw [e, show pb_tm told m = r from r1]
    exact r2
  · rw [show pb_tm told m = r from r1]; exact r3
  · rw [show pb_tm told m = r from r1]; exact r4
  · rw [show pb_tm told m = r from r1]; exact r5
  · rw [show pb_tm told m = r from r1, r6]; exact h4
  · rw [show pb_tm told m = r from r1]; exact r7
theorem pb_Jmono {num : Nat → Int32} {T T' : Int} {force resets : Int32} {g : pbG} {m : pbP} (h : pb_J num T force resets g m) (hT : T ≤ T') : pb_J num T' force resets g m := by
  obtain ⟨b1, b2, b3, b4, e, h1, h2, h3⟩ := h
  exact ⟨b1, b2, b3, b4, e, h1, pb_Vmono h2 hT, h3⟩
theorem pb_J2 {num : Nat → Int32} {T : Int} {force resets : Int32} {g : pbG} {m : pbP} (h : pb_J num T force resets g m) : m.1 2 = g.1 ∧ m.1 1 = g.2.2.2.2.2.2.2.1 ∧ m.1 10 = g.2.2.1 ∧ m.1 11 = g.2.2.2.1 ∧ m.1 12 = g.2.2.2.2.1 ∧ m.1 13 = g.2.2.2.2.2.1 := by
  obtain ⟨b1, b2, b3, b4, e, -⟩ := h
  subst e
  exact ⟨rfl, rfl, rfl, rfl, rfl, rfl⟩
abbrev pbRunC : Type := Int32 × Int32 × Int32 × Int32 × Int32 × Int32 × Int32 × Int32 × Int32 × Int32 × Int32 × Int32 × Int32 × Int64 × Int64 × Int64 × Int64 × Int32 × Int32
abbrev pbLkC : Type := Int32 × pbG
abbrev pbRunM : Type := Int32 × Int32 × (Nat → Int32) × Int32 × (Nat → Int32) × (Nat → Int32) × (Nat → Int32) × Int32 × (Nat → Int32)
abbrev pbLkM : Type := Int32 × Int32 × (Nat → Int32) × Int32 × (Nat → Int32) × (Nat → Int32) × (Nat → Int32) × (Nat → Int32)
theorem pb_runL {told num : Nat → Int32} (hT : pb_T told num) (hR : pb_R num) {T : Int} {force resets ticks : Int32} (hk1 : ticks.toInt ≤ 1000) (hT2 : T + ticks.toInt < 900000) {rs fs : Nat → Int32} (hok : pb_ok num force rs fs) (kC : Int32 → pbG → pbRunC) (kM : Int32 → pbP → pbRunM) : ∀ (k : Nat) (i : Int32) (g : pbG) (m : pbP), 0 ≤ i.toInt → i.toInt ≤ ticks.toInt → (ticks.toInt - i.toInt).toNat < k → pb_J num (T + i.toInt) force resets g m → ∃ i' g' m', pb_J num (T + ticks.toInt) force resets g' m' ∧ sX8_run_ok_l46 num force rs ticks kC k i g = kC i' g' ∧ sX9_run_l64 told ticks kM k i m = kM i' m' := by
  intro k
  induction k with
  | zero => intro i g m _ _ h _; omega
  | succ k ih =>
    intro i g m h0 h1 hk hJ
    by_cases c : ticks ≤ i
    · refine ⟨i, g, m, ?_, by rw [sX8_run_ok_l46, if_pos c], by rw [sX9_run_l64, if_pos c]⟩
      exact pb_Jmono hJ (by omega)
    · have c2 : i.toInt < ticks.toInt := by rw [Int32.le_iff_toInt_le] at c; omega
      have e := pb_inc (j := i) (by omega)
      have hJ2 := pb_Jt hT hR (by omega) hok hJ
      have hJ3 : pb_J num (T + (i + 1).toInt) force resets (pb_tc num force rs g) (pb_tm told m) := by
        rw [e, ← Int.add_assoc]
        exact hJ2
      obtain ⟨i', g', m', a1, a2, a3⟩ := ih (i + 1) _ _ (by rw [e]; omega) (by rw [e]; omega) (by rw [e]; omega) hJ3
      refine ⟨i', g', m', a1, ?_, ?_⟩
      · rw [sX8_run_ok_l46, if_neg c]
        exact a2
      · rw [sX9_run_l64, if_neg c]
        exact a3
theorem pb_lkL {told num : Nat → Int32} (hT : pb_T told num) (hR : pb_R num) {T : Int} {force resets ticks : Int32} (hk1 : ticks.toInt ≤ 1000) (hT2 : T + ticks.toInt < 900000) {rs ars fs : Nat → Int32} (hok : pb_ok num force (va_cpy rs ars 0 0 49) fs) (kC : Int32 → pbG → pbLkC) (kM : Int32 → pbP → pbLkM) : ∀ (k : Nat) (i : Int32) (g : pbG) (m : pbP), 0 ≤ i.toInt → i.toInt ≤ ticks.toInt → (ticks.toInt - i.toInt).toNat < k → pb_J num (T + i.toInt) force resets g m → ∃ i' g' m', pb_J num (T + ticks.toInt) force resets g' m' ∧ sX8_linkAfter_ok_l32 num force rs ars ticks kC k i g = kC i' g' ∧ sX9_linkAfter_l62 told ticks kM k i m = kM i' m' := by
  intro k
  induction k with
  | zero => intro i g m _ _ h _; omega
  | succ k ih =>
    intro i g m h0 h1 hk hJ
    by_cases c : ticks ≤ i
    · refine ⟨i, g, m, ?_, by rw [sX8_linkAfter_ok_l32, if_pos c], by rw [sX9_linkAfter_l62, if_pos c]⟩
      exact pb_Jmono hJ (by omega)
    · have c2 : i.toInt < ticks.toInt := by rw [Int32.le_iff_toInt_le] at c; omega
      have e := pb_inc (j := i) (by omega)
      have hJ2 := pb_Jt hT hR (by omega) hok hJ
      have hJ3 : pb_J num (T + (i + 1).toInt) force resets (pb_tc num force (va_cpy rs ars 0 0 49) g) (pb_tm told m) := by
        rw [e, ← Int.add_assoc]
        exact hJ2
      obtain ⟨i', g', m', a1, a2, a3⟩ := ih (i + 1) _ _ (by rw [e]; omega) (by rw [e]; omega) (by rw [e]; omega) hJ3
      refine ⟨i', g', m', a1, ?_, ?_⟩
      · rw [sX8_linkAfter_ok_l32, if_neg c]
        exact a2
      · rw [sX9_linkAfter_l62, if_neg c]
        exact a3
theorem pb_tuL {told num : Nat → Int32} (hT : pb_T told num) (hR : pb_R num) {T : Int} {force resets limit mode : Int32} (hk1 : limit.toInt ≤ 1000) (hT2 : T + limit.toInt < 900000) {rs ars fs : Nat → Int32} (hok : pb_ok num force (va_cpy rs ars 0 0 49) fs) (kC : Int32 → pbG → pbLkC) (kM : Int32 → pbP → pbLkM) : ∀ (k : Nat) (i : Int32) (g : pbG) (m : pbP), 0 ≤ i.toInt → i.toInt ≤ limit.toInt → (limit.toInt - i.toInt).toNat < k → pb_J num (T + i.toInt) force resets g m → ∃ i' g' m', pb_J num (T + limit.toInt) force resets g' m' ∧ sX8_ticksUntil_l13 num force rs ars mode limit kC k i g = kC i' g' ∧ sX9_ticksTo_l49 told mode limit kM k i m = kM i' m' := by
  intro k
  induction k with
  | zero => intro i g m _ _ h _; omega
  | succ k ih =>
    intro i g m h0 h1 hk hJ
    have hm := (pb_J2 hJ).2.1
    by_cases c : limit ≤ i
    · refine ⟨i, g, m, ?_, by rw [sX8_ticksUntil_l13, if_pos c], by rw [sX9_ticksTo_l49, if_pos c]⟩
      exact pb_Jmono hJ (by omega)
    · have c2 : i.toInt < limit.toInt := by rw [Int32.le_iff_toInt_le] at c; omega
      by_cases d : m.1 1 = mode
      · refine ⟨i, g, m, ?_, by rw [sX8_ticksUntil_l13, if_neg c, if_pos (by rw [← hm]; exact d)], by rw [sX9_ticksTo_l49, if_neg c, if_pos d]⟩
        exact pb_Jmono hJ (by omega)
      · have e := pb_inc (j := i) (by omega)
        have hJ2 := pb_Jt hT hR (by omega) hok hJ
        have hJ3 : pb_J num (T + (i + 1).toInt) force resets (pb_tc num force (va_cpy rs ars 0 0 49) g) (pb_tm told m) := by
          rw [e, ← Int.add_assoc]
          exact hJ2
        obtain ⟨i', g', m', a1, a2, a3⟩ := ih (i + 1) _ _ (by rw [e]; omega) (by rw [e]; omega) (by rw [e]; omega) hJ3
        refine ⟨i', g', m', a1, ?_, ?_⟩
        · rw [sX8_ticksUntil_l13, if_neg c, if_neg (by rw [← hm]; exact d)]
          exact a2
        · rw [sX9_ticksTo_l49, if_neg c, if_neg d]
          exact a3
theorem pb_abs (x : Int32) : xAbs x = if 0 ≤ x then x else -x := by
  unfold xAbs
  rw [Int32.zero_sub]
theorem pb_faL {told num : Nat → Int32} (hT : pb_T told num) (hR : pb_R num) {T : Int} {force resets ticks : Int32} (hk1 : ticks.toInt ≤ 1000) (hT2 : T + ticks.toInt < 900000) {rs ars fs : Nat → Int32} (hok : pb_ok num force (va_cpy rs ars 0 0 49) fs) (kC : Int32 → Int32 → pbG → pbLkC) (kM : Int32 → Int32 → pbP → pbLkM) : ∀ (k : Nat) (i most : Int32) (g : pbG) (m : pbP), 0 ≤ i.toInt → i.toInt ≤ ticks.toInt → (ticks.toInt - i.toInt).toNat < k → pb_J num (T + i.toInt) force resets g m → ∃ i' most' g' m', pb_J num (T + ticks.toInt) force resets g' m' ∧ sX8_farthest_ok_l35 num force rs ars ticks kC k i most g = kC i' most' g' ∧ sX9_farthest_l75 told ticks kM k i most m = kM i' most' m' := by
  intro k
  induction k with
  | zero => intro i most g m _ _ h _; omega
  | succ k ih =>
    intro i most g m h0 h1 hk hJ
    by_cases c : ticks ≤ i
    · refine ⟨i, most, g, m, ?_, by rw [sX8_farthest_ok_l35, if_pos c], by rw [sX9_farthest_l75, if_pos c]⟩
      exact pb_Jmono hJ (by omega)
    · have c2 : i.toInt < ticks.toInt := by rw [Int32.le_iff_toInt_le] at c; omega
      have e := pb_inc (j := i) (by omega)
      have hJ2 := pb_Jt hT hR (by omega) hok hJ
      have hJ3 : pb_J num (T + (i + 1).toInt) force resets (pb_tc num force (va_cpy rs ars 0 0 49) g) (pb_tm told m) := by
        rw [e, ← Int.add_assoc]
        exact hJ2
      have hx := (pb_J2 hJ2).1
      obtain ⟨i', most', g', m', a1, a2, a3⟩ := ih (i + 1) (xMax most (xAbs (pb_tc num force (va_cpy rs ars 0 0 49) g).1)) _ _ (by rw [e]; omega) (by rw [e]; omega) (by rw [e]; omega) hJ3
      refine ⟨i', most', g', m', a1, ?_, ?_⟩
      · rw [sX8_farthest_ok_l35, if_neg c]
        exact a2
      · rw [sX9_farthest_l75, if_neg c]
        rw [← hx, pb_abs] at a3
        generalize hM : pb_tm told m = M at a3
        have hM2 : sX9_passes m.2.1 m.1 told m.2.2.1 m.2.2.2.1 m.2.2.2.2 = M := hM
        rw [hM2]
        unfold xMax at a3
        by_cases d : 0 ≤ M.1 2
        · rw [if_pos d] at a3
          rw [if_pos d]
          by_cases f : M.1 2 ≤ most
          · rw [if_pos f]
            rw [if_neg (by rw [Int32.not_lt]; exact f)] at a3
            exact a3
          · rw [if_neg f]
            rw [if_pos (by rw [← Int32.not_le]; exact f)] at a3
            exact a3
        · rw [if_neg d] at a3
          rw [if_neg d]
          by_cases f : -(M.1 2) ≤ most
          · rw [if_pos f]
            rw [if_neg (by rw [Int32.not_lt]; exact f)] at a3
            exact a3
          · rw [if_neg f]
            rw [if_pos (by rw [← Int32.not_le]; exact f)] at a3
            exact a3
theorem pb_cpyLo {f g : Nat → Int32} {n k : Nat} (h : k < n) : va_cpy f g 0 0 n k = f k := by
  unfold va_cpy
  rw [if_pos (by omega)]
  congr 1
  omega
theorem pb_okCpy {num : Nat → Int32} (hc : pb_c3 num) {force : Int32} {rs fs ars afs : Nat → Int32} (h : pb_ok num force rs fs) : pb_ok num force (va_cpy rs ars 0 0 49) (va_cpy fs afs 0 0 49) := by
  intro i j hv
  have b := pb_has3 hc hv
  have p := pb_place b.1 b.2
  have hp : (sX5_placeOf i j).toNatClampNeg < 49 := by rw [x_nat]; omega
  rw [pb_cpyLo hp, pb_cpyLo hp]
  exact h i j hv
