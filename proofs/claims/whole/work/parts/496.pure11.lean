/-! call by call: what changes the plant's history -/
theorem pb_Srow {num row : Nat → Int32} (hc : pb_c3 num) {s : pbSit} (h : pb_S num s row) (r f : Nat → Int32) : pb_S num (s.1, s.2.1, s.2.2.1, va_cpy s.2.2.2.1 r 0 0 49, va_cpy s.2.2.2.2 f 0 0 49) row := ⟨h.1, h.2.1, h.2.2.1, h.2.2.2.1, pb_okCpy hc h.2.2.2.2⟩
theorem pb_HK2 {num : Nat → Int32} (hc : pb_c3 num) {sits : Nat → pbSit} {nx sz : Nat} (hn : nx < 10) (hs : sz ≤ 10) {now und : Nat → Int32} (h : pb_H num sits nx sz und) (h10 : pb_S num (sits 10) now) (S : pbSit) (r f : Nat → Int32) : pb_H num (fun j => if j = 10 then S else if j = nx then ((sits 10).1, (sits 10).2.1, (sits 10).2.2.1, va_cpy (sits 10).2.2.2.1 r 0 0 49, va_cpy (sits 10).2.2.2.2 f 0 0 49) else sits j) ((nx + 1) % 10) (min (sz + 1) 10) (if sz = 10 then pb_lay now (pb_lay und und 214 0 1926) 0 1926 214 else pb_lay now und 0 (214 * sz) 214) := by
  refine pb_HK hn hs h ?_ (fun j hj hne => ?_)
  · rw [if_neg (by omega), if_pos rfl]
    exact pb_Srow hc h10 r f
  · rw [if_neg (by omega), if_neg hne]
def pb_und (sz : Nat) (now und : Nat → Int32) : Nat → Int32 := if sz = 10 then pb_lay now (pb_lay und und 214 0 1926) 0 1926 214 else pb_lay now und 0 (214 * sz) 214
theorem pc_run {told num : Nat → Int32} (hT : pb_T told num) (hR : pb_R num) {now : Nat → Int32} (hV : pb_V 9999 now) {b1 b2 b3 b4 : Int64} (hr : pb_ring (now 0).toInt.toNat b1 b2 b3 b4 now) {rs fs : Nat → Int32} (hok : pb_ok num (now 5) rs fs) {tw : Int32} {mrs mfs : Nat → Int32} (hM : pb_MT num tw mrs mfs) (tri und : Nat → Int32) {nx sz : Nat} (hn : nx < 10) (hs : sz ≤ 10) {ticks : Int32} (o1a : ¬ ticks < 1) (o1b : ticks ≤ 1000) (ht : now 0 + ticks ≤ 9999) : ∃ (g : pbG) (m : pbP), sX8_run_ok num (now 0) (now 1) (now 4) (now 5) (now 6) (now 7) (now 9) (now 2) (now 3) (now 10) (now 11) (now 12) (now 13) rs b1 b2 b3 b4 (nI nx) (nI sz) ticks = (g.2.2.2.2.2.2.2.1, g.1, g.2.1, g.2.2.1, g.2.2.2.1, g.2.2.2.2.1, g.2.2.2.2.2.1, g.2.2.2.2.2.2.1, g.2.2.2.2.2.2.2.1, g.2.2.2.2.2.2.2.2.1, g.2.2.2.2.2.2.2.2.2.1, g.2.2.2.2.2.2.2.2.2.2.1, g.2.2.2.2.2.2.2.2.2.2.2.1, g.2.2.2.2.2.2.2.2.2.2.2.2.1, g.2.2.2.2.2.2.2.2.2.2.2.2.2.1, g.2.2.2.2.2.2.2.2.2.2.2.2.2.2.1, g.2.2.2.2.2.2.2.2.2.2.2.2.2.2.2, nI ((nx + 1) % 10), nI (min (sz + 1) 10)) ∧ sX9_run tw (nI sz) now told mrs mfs tri und ticks = (g.2.2.2.2.2.2.2.1, 0, m.1, m.2.1, m.2.2.1, m.2.2.2.1, m.2.2.2.2, nI (min (sz + 1) 10), pb_und sz now und) ∧ pb_S num (g, now 5, now 8, rs, fs) m.1 ∧ pb_MT num m.2.1 m.2.2.1 m.2.2.2.1 := by
  have hb := pb_Ile (n := 1000) (by decide) o1b
  have h1 := pb_Ige (n := 1) (by decide) o1a
  have hv := hV.1
  have hsum : (now 0 + ticks).toInt = (now 0).toInt + ticks.toInt := x_addI (by omega) (by omega)
  have ht2 := pb_Ile (n := 9999) (by decide) ht
  rw [hsum] at ht2
  unfold sX9_run sX9_run_q_7 sX8_run_ok sX8_run_ok_q_2
  rw [if_neg (pb_w1 o1a o1b), if_pos ht, pb_keeps hs, pb_remember hn hs]
  obtain ⟨i', g', m', j1, j2, j3⟩ := pb_runL hT hR (T := (now 0).toInt) (force := now 5) (resets := now 8) (ticks := ticks) hb (by omega) hok (fun (_ : Int32) (g_46 : pbG) => (g_46.2.2.2.2.2.2.2.1, g_46.1, g_46.2.1, g_46.2.2.1, g_46.2.2.2.1, g_46.2.2.2.2.1, g_46.2.2.2.2.2.1, g_46.2.2.2.2.2.2.1, g_46.2.2.2.2.2.2.2.1, g_46.2.2.2.2.2.2.2.2.1, g_46.2.2.2.2.2.2.2.2.2.1, g_46.2.2.2.2.2.2.2.2.2.2.1, g_46.2.2.2.2.2.2.2.2.2.2.2.1, g_46.2.2.2.2.2.2.2.2.2.2.2.2.1, g_46.2.2.2.2.2.2.2.2.2.2.2.2.2.1, g_46.2.2.2.2.2.2.2.2.2.2.2.2.2.2.1, g_46.2.2.2.2.2.2.2.2.2.2.2.2.2.2.2, nI ((nx + 1) % 10), nI (min (sz + 1) 10))) (fun (_ : Int32) (g_64 : (Nat → Int32) × Int32 × (Nat → Int32) × (Nat → Int32) × (Nat → Int32)) => (g_64.1 1, 0, g_64.1, g_64.2.1, g_64.2.2.1, g_64.2.2.2.1, g_64.2.2.2.2, nI (min (sz + 1) 10), pb_und sz now und)) (xMu ticks 0 + 1) 0 (pb_G now b1 b2 b3 b4) (now, tw, mrs, mfs, tri) (by decide) (by rw [Int32.toInt_zero]; omega) (by unfold xMu; omega) (pb_J0 hV hr hM tri)
  have hm := (pb_J2 j1).2.1
  refine ⟨g', m', j2, ?_, pb_SJ (by omega) j1 hok, pb_JM j1⟩
  rw [← hm]
  exact j3
theorem pc_runX1 {told : Nat → Int32} (now : Nat → Int32) (tw undos : Int32) (mrs mfs tri und : Nat → Int32) {ticks : Int32} (b : ticks < 1 ∨ ¬ ticks ≤ 1000) : sX9_run tw undos now told mrs mfs tri und ticks = (0, 1, now, tw, mrs, mfs, tri, undos, und) := by
  unfold sX9_run
  rw [if_pos (pb_w0 b)]
theorem pc_runX2 {told : Nat → Int32} (now : Nat → Int32) (tw undos : Int32) (mrs mfs tri und : Nat → Int32) {ticks : Int32} (o1a : ¬ ticks < 1) (o1b : ticks ≤ 1000) (b : ¬ now 0 + ticks ≤ 9999) : sX9_run tw undos now told mrs mfs tri und ticks = (0, 2, now, tw, mrs, mfs, tri, undos, und) := by
  unfold sX9_run
  rw [if_neg (pb_w1 o1a o1b), if_neg b]
theorem pc_setMode {num now : Nat → Int32} (hV : pb_V 9999 now) {b1 b2 b3 b4 : Int64} (hr : pb_ring (now 0).toInt.toNat b1 b2 b3 b4 now) {rs fs : Nat → Int32} (hok : pb_ok num (now 5) rs fs) (und : Nat → Int32) {nx sz : Nat} (hn : nx < 10) (hs : sz ≤ 10) {mode : Int32} (o1a : ¬ mode < 0) (o1b : mode ≤ 2) (o2 : ¬ now 1 = 3) : sX8_setMode_ok (now 1) (nI nx) (nI sz) mode = (now 1, mode, nI ((nx + 1) % 10), nI (min (sz + 1) 10)) ∧ sX9_setMode (nI sz) now und mode = (now 1, 0, upd now 1 mode, nI (min (sz + 1) 10), pb_und sz now und) ∧ pb_S num ((now 2, now 3, now 10, now 11, now 12, now 13, now 0, mode, now 4, now 6, now 7, now 9, b1, b2, b3, b4), now 5, now 8, rs, fs) (upd now 1 mode) := by
  obtain ⟨v0, v1, v2, v3, v4⟩ := hV
  refine ⟨?_, ?_, ⟨⟨b1, b2, b3, b4, rfl, pb_ringOf hr (fun k _ => ?_)⟩, ⟨v0, ?_, v2, fun _ => v3 o2, v4⟩, rfl, rfl, hok⟩⟩
  · unfold sX8_setMode_ok sX8_setMode_ok_q_1
    rw [pb_remember hn hs]
  · unfold sX9_setMode sX9_setMode_q_7
    rw [if_neg (pb_w1 o1a o1b), if_neg o2, pb_keeps hs]
    rfl
  · show (if _ then _ else _) = _
    rw [if_neg (by omega)]
  · show mode = 0 ∨ mode = 1 ∨ mode = 2 ∨ mode = 3
    obtain ⟨j, hj, rfl⟩ := nI_of2 (M := 2) (n := 2) (by decide) o1a o1b
    rcases (show j = 0 ∨ j = 1 ∨ j = 2 by omega) with rfl | rfl | rfl
    · exact Or.inl rfl
    · exact Or.inr (Or.inl rfl)
    · exact Or.inr (Or.inr (Or.inl rfl))
theorem pc_setModeX1 (now : Nat → Int32) (undos : Int32) (und : Nat → Int32) {mode : Int32} (b : mode < 0 ∨ ¬ mode ≤ 2) : sX9_setMode undos now und mode = (0, 1, now, undos, und) := by
  unfold sX9_setMode
  rw [if_pos (pb_w0 b)]
theorem pc_setModeX2 (now : Nat → Int32) (undos : Int32) (und : Nat → Int32) {mode : Int32} (o1a : ¬ mode < 0) (o1b : mode ≤ 2) (b : now 1 = 3) : sX9_setMode undos now und mode = (0, 2, now, undos, und) := by
  unfold sX9_setMode
  rw [if_neg (pb_w1 o1a o1b), if_pos b]
def pb_rst (now : Nat → Int32) (a1 a2 : Int32) : Nat → Int32 := upd (upd (upd (upd (upd (upd (upd (upd (upd now 1 0) 2 0) 3 0) 4 0) 10 a1) 11 a2) 12 0) 13 0) 8 (now 8 + 1)
theorem pc_reset {num now : Nat → Int32} (hV : pb_V 9999 now) {b1 b2 b3 b4 : Int64} (hr : pb_ring (now 0).toInt.toNat b1 b2 b3 b4 now) {rs fs : Nat → Int32} (hok : pb_ok num (now 5) rs fs) (und : Nat → Int32) {nx sz : Nat} (hn : nx < 10) (hs : sz ≤ 10) {a1 a2 : Int32} (o1a : ¬ a1 < 0) (o1b : a1 ≤ 4095) (o2a : ¬ a2 < 0) (o2b : a2 ≤ 4095) : sX8_reset_ok (now 1) (now 8) (nI nx) (nI sz) a1 a2 = (now 1, 0, 0, a1, a2, 0, 0, 0, 0, now 8 + 1, nI ((nx + 1) % 10), nI (min (sz + 1) 10)) ∧ sX9_reset (nI sz) now und a1 a2 = (now 1, 0, pb_rst now a1 a2, nI (min (sz + 1) 10), pb_und sz now und) ∧ pb_S num ((0, 0, a1, a2, 0, 0, now 0, 0, 0, now 6, now 7, now 9, b1, b2, b3, b4), now 5, now 8 + 1, rs, fs) (pb_rst now a1 a2) := by
  obtain ⟨v0, v1, v2, v3, v4⟩ := hV
  have x1 := pb_Ile (n := 4095) (by decide) o1b
  have x2 := pb_Ile (n := 4095) (by decide) o2b
  have y1 := pb_I0 o1a
  have y2 := pb_I0 o2a
  refine ⟨?_, ?_, ⟨⟨b1, b2, b3, b4, rfl, pb_ringOf hr (fun k _ => ?_)⟩, ⟨v0, Or.inl rfl, ⟨⟨?_, ?_⟩, ?_, ?_⟩, fun _ => ⟨?_, ?_⟩, v4⟩, rfl, rfl, hok⟩⟩
  · unfold sX8_reset_ok sX8_reset_ok_q_1 sX8_reset_ok_q_2 sX1_restAt
    rw [pb_remember hn hs]
  · unfold sX9_reset sX9_reset_q_7
    rw [if_neg (pb_w1 o1a o1b), if_neg (pb_w1 o2a o2b), pb_keeps hs]
    rfl
  · unfold pb_rst
    simp only [upd]
    rw [if_neg (by omega), if_neg (by omega), if_neg (by omega), if_neg (by omega), if_neg (by omega), if_neg (by omega), if_neg (by omega), if_neg (by omega), if_neg (by omega)]
  · show 0 ≤ a1.toInt ∧ a1.toInt < 4096
    omega
  · show 0 ≤ a2.toInt ∧ a2.toInt < 4096
    omega
  · show (0 : Int32).toInt.natAbs ≤ 20000
    decide
  · show (0 : Int32).toInt.natAbs ≤ 20000
    decide
  · show (0 : Int32).toInt.natAbs ≤ 9999
    decide
  · show (0 : Int32).toInt.natAbs ≤ 9999
    decide
theorem pc_resetX1 (now : Nat → Int32) (undos : Int32) (und : Nat → Int32) {a1 : Int32} (a2 : Int32) (b : a1 < 0 ∨ ¬ a1 ≤ 4095) : sX9_reset undos now und a1 a2 = (0, 1, now, undos, und) := by
  unfold sX9_reset
  rw [if_pos (pb_w0 b)]
theorem pc_resetX2 (now : Nat → Int32) (undos : Int32) (und : Nat → Int32) {a1 a2 : Int32} (o1a : ¬ a1 < 0) (o1b : a1 ≤ 4095) (b : a2 < 0 ∨ ¬ a2 ≤ 4095) : sX9_reset undos now und a1 a2 = (0, 1, now, undos, und) := by
  unfold sX9_reset
  rw [if_neg (pb_w1 o1a o1b), if_pos (pb_w0 b)]
/-- the speed of a link -/
theorem pc_spd (now : Nat → Int32) {link : Int32} (hl : link = 1 ∨ link = 2) : now (((12 + link) - 1).toNatClampNeg) = sX1_speedOf (now 12) (now 13) link := by
  rcases hl with rfl | rfl
  · rfl
  · rfl
theorem pb_bey0 {v c : Int32} (h0 : 0 ≤ c.toInt) : sX9_isBeyond v c = 0 ↔ ¬ (c < v ∨ v < -c) := by
  unfold sX9_isBeyond
  by_cases h1 : c < v
  · rw [if_pos h1]
    exact ⟨fun h => absurd h (by decide), fun h => absurd (Or.inl h1) h⟩
  · rw [if_neg h1]
    by_cases h2 : -c ≤ v
    · rw [if_pos h2]
      exact ⟨fun _ h => h.elim h1 (fun x => by rw [← Int32.not_le] at x; exact x h2), fun _ => rfl⟩
    · rw [if_neg h2]
      exact ⟨fun h => absurd h (by decide), fun h => absurd (Or.inr (by rw [← Int32.not_le]; exact h2)) h⟩
theorem pc_nudge {num now : Nat → Int32} (hV : pb_V 9999 now) {b1 b2 b3 b4 : Int64} (hr : pb_ring (now 0).toInt.toNat b1 b2 b3 b4 now) {rs fs : Nat → Int32} (hok : pb_ok num (now 5) rs fs) (und : Nat → Int32) {nx sz : Nat} (hn : nx < 10) (hs : sz ≤ 10) {link amount : Int32} (o1a : ¬ link < 1) (o1b : link ≤ 2) (o2a : ¬ amount < (-500)) (o2b : amount ≤ 500) (o3 : ¬ now 1 = 3) (o4 : sX9_isBeyond (sX1_speedOf (now 12) (now 13) link + amount) 9999 = 0) : sX8_nudge_ok (now 12) (now 13) (nI nx) (nI sz) link amount = (sX1_speedOf (now 12) (now 13) link + amount, (sX1_setSpeed (now 12) (now 13) link (sX1_speedOf (now 12) (now 13) link + amount)).1, (sX1_setSpeed (now 12) (now 13) link (sX1_speedOf (now 12) (now 13) link + amount)).2, nI ((nx + 1) % 10), nI (min (sz + 1) 10)) ∧ sX9_nudge (nI sz) now und link amount = (sX1_speedOf (now 12) (now 13) link + amount, 0, upd now (((12 + link) - 1).toNatClampNeg) (sX1_speedOf (now 12) (now 13) link + amount), nI (min (sz + 1) 10), pb_und sz now und) ∧ pb_S num ((now 2, now 3, now 10, now 11, (sX1_setSpeed (now 12) (now 13) link (sX1_speedOf (now 12) (now 13) link + amount)).1, (sX1_setSpeed (now 12) (now 13) link (sX1_speedOf (now 12) (now 13) link + amount)).2, now 0, now 1, now 4, now 6, now 7, now 9, b1, b2, b3, b4), now 5, now 8, rs, fs) (upd now (((12 + link) - 1).toNatClampNeg) (sX1_speedOf (now 12) (now 13) link + amount)) := by
  obtain ⟨v0, v1, v2, v3, v4⟩ := hV
  have hl := pc_lk o1a o1b
  refine ⟨?_, ?_, ?_⟩
  · unfold sX8_nudge_ok sX8_nudge_ok_q_3 sX8_nudge_ok_q_4
    rw [pb_remember hn hs]
  · unfold sX9_nudge sX9_nudge_q_15
    rw [if_neg (pb_w1 o1a o1b), if_neg (pb_w1 o2a o2b), if_neg o3, pc_spd now hl, if_pos o4, pb_keeps hs]
    rfl
  · have hb := pb_beyI (v := sX1_speedOf (now 12) (now 13) link + amount) (c := 9999) (by decide) o4
    have k9 : (9999 : Int32).toInt.toNat = 9999 := by decide
    rw [k9] at hb
    have hw := v3 o3
    generalize sX1_speedOf (now 12) (now 13) link + amount = sp at hb ⊢
    rcases hl with rfl | rfl
    · refine ⟨⟨b1, b2, b3, b4, rfl, pb_ringOf hr (fun k _ => ?_)⟩, ⟨v0, v1, ⟨v2.1, ?_, v2.2.2⟩, fun _ => ⟨?_, hw.2⟩, v4⟩, rfl, rfl, hok⟩
      · show (if _ then _ else _) = _
        rw [show ((12 : Int32) + 1 - 1).toNatClampNeg = 12 from by decide, if_neg (show ¬ 14 + k = 12 by omega)]
      · show sp.toInt.natAbs ≤ 20000
        omega
      · show sp.toInt.natAbs ≤ 9999
        omega
    · refine ⟨⟨b1, b2, b3, b4, rfl, pb_ringOf hr (fun k _ => ?_)⟩, ⟨v0, v1, ⟨v2.1, v2.2.1, ?_⟩, fun _ => ⟨hw.1, ?_⟩, v4⟩, rfl, rfl, hok⟩
      · show (if _ then _ else _) = _
        rw [show ((12 : Int32) + 2 - 1).toNatClampNeg = 13 from by decide, if_neg (show ¬ 14 + k = 13 by omega)]
      · show sp.toInt.natAbs ≤ 20000
        omega
      · show sp.toInt.natAbs ≤ 9999
        omega
theorem pc_nudgeX1 (now : Nat → Int32) (undos : Int32) (und : Nat → Int32) {link : Int32} (amount : Int32) (b : link < 1 ∨ ¬ link ≤ 2) : sX9_nudge undos now und link amount = (0, 1, now, undos, und) := by
  unfold sX9_nudge
  rw [if_pos (pb_w0 b)]
theorem pc_nudgeX2 (now : Nat → Int32) (undos : Int32) (und : Nat → Int32) {link amount : Int32} (o1a : ¬ link < 1) (o1b : link ≤ 2) (b : amount < (-500) ∨ ¬ amount ≤ 500) : sX9_nudge undos now und link amount = (0, 2, now, undos, und) := by
  unfold sX9_nudge
  rw [if_neg (pb_w1 o1a o1b), if_pos (pb_w0 b)]
theorem pc_nudgeX3 (now : Nat → Int32) (undos : Int32) (und : Nat → Int32) {link amount : Int32} (o1a : ¬ link < 1) (o1b : link ≤ 2) (o2a : ¬ amount < (-500)) (o2b : amount ≤ 500) (b : now 1 = 3) : sX9_nudge undos now und link amount = (0, 3, now, undos, und) := by
  unfold sX9_nudge
  rw [if_neg (pb_w1 o1a o1b), if_neg (pb_w1 o2a o2b), if_pos b]
theorem pc_nudgeX4 (now : Nat → Int32) (undos : Int32) (und : Nat → Int32) {link amount : Int32} (o1a : ¬ link < 1) (o1b : link ≤ 2) (o2a : ¬ amount < (-500)) (o2b : amount ≤ 500) (o3 : ¬ now 1 = 3) (b : ¬ sX9_isBeyond (sX1_speedOf (now 12) (now 13) link + amount) 9999 = 0) : sX9_nudge undos now und link amount = (0, 3, now, undos, und) := by
  unfold sX9_nudge
  rw [if_neg (pb_w1 o1a o1b), if_neg (pb_w1 o2a o2b), if_neg o3, pc_spd now (pc_lk o1a o1b), if_neg b]
theorem pc_setForce {told num : Nat → Int32} (hT : pb_T told num) (hR : pb_R num) {now : Nat → Int32} (hV : pb_V 9999 now) {b1 b2 b3 b4 : Int64} (hr : pb_ring (now 0).toInt.toNat b1 b2 b3 b4 now) (rs fs : Nat → Int32) {tw : Int32} {mrs mfs : Nat → Int32} (hM : pb_MT num tw mrs mfs) (tri und : Nat → Int32) {nx sz : Nat} (hn : nx < 10) (hs : sz ≤ 10) (tx tv ta1 ta2 tw1 tw2 : Int32) {force : Int32} (o1a : ¬ force < 1) (o1b : force ≤ 500) : ∃ (v : Int32) (rs' fs' : Nat → Int32) (tr : pbM) (q : pbQ), sX8_setForce_ok num rs fs tx tv ta1 ta2 tw1 tw2 (nI nx) (nI sz) force = (v, rs', fs', tr.1, tr.2.1, tr.2.2.1, tr.2.2.2.1, tr.2.2.2.2.1, tr.2.2.2.2.2, nI ((nx + 1) % 10), nI (min (sz + 1) 10)) ∧ sX9_setForce tw (nI sz) now told mrs mfs tri und force = (v, 0, upd now 5 force, q.1, q.2.1, q.2.2.1, q.2.2.2, nI (min (sz + 1) 10), pb_und sz now und) ∧ pb_S num (pb_G now b1 b2 b3 b4, force, now 8, rs', fs') (upd now 5 force) ∧ pb_MT num q.1 q.2.1 q.2.2.1 := by
  have x1 := pb_Ile (n := 500) (by decide) o1b
  have x0 := pb_Ige (n := 1) (by decide) o1a
  obtain ⟨v0, v1, v2, v3, v4⟩ := hV
  obtain ⟨rs', fs', tr, t1, t2⟩ := pb_tryAll (pb_R3 hR) rs fs tx tv ta1 ta2 tw1 tw2 force
  obtain ⟨q, q1, q2, q3⟩ := pb_cells hT (pb_R3 hR) tw (upd now 5 force) mrs mfs tri x0 hM (rs := rs') (fs := fs') t1 0
  refine ⟨sX8_regionSize num rs', rs', fs', tr, q, ?_, ?_, ⟨⟨b1, b2, b3, b4, rfl, pb_ringOf hr (fun k _ => ?_)⟩, ⟨v0, v1, v2, v3, x0, x1⟩, rfl, rfl, t1⟩, Or.inr (by rw [q2]; exact q3)⟩
  · unfold sX8_setForce_ok sX8_setForce_ok_q_1 sX8_setForce_ok_q_2
    rw [pb_remember hn hs, t2]
  · unfold sX9_setForce sX9_setForce_q_4 sX9_setForce_q_5 sX8_regionSize
    rw [if_neg (pb_w1 o1a o1b), pb_keeps hs, q1, pb_n17]
    rfl
  · show (if _ then _ else _) = _
    rw [if_neg (by omega)]
theorem pc_setForceX {told : Nat → Int32} (now : Nat → Int32) (tw undos : Int32) (mrs mfs tri und : Nat → Int32) {force : Int32} (b : force < 1 ∨ ¬ force ≤ 500) : sX9_setForce tw undos now told mrs mfs tri und force = (0, 1, now, tw, mrs, mfs, tri, undos, und) := by
  unfold sX9_setForce
  rw [if_pos (pb_w0 b)]
theorem pc_undo0 (now und : Nat → Int32) : sX9_undo (nI 0) now und = (-1, 0, now, nI 0) := by
  unfold sX9_undo
  rw [if_pos (show nI 0 = (0 : Int32) from rfl)]
/-! snapshots -/
theorem pc_slot {slot : Int32} (o1a : ¬ slot < 0) (o1b : slot ≤ 1) : slot = 0 ∨ slot = 1 := by
  obtain ⟨j, hj, rfl⟩ := nI_of2 (M := 1) (n := 1) (by decide) o1a o1b
  rcases (show j = 0 ∨ j = 1 by omega) with rfl | rfl
  · exact Or.inl rfl
  · exact Or.inr rfl
theorem pc_save0 (now slo sav : Nat → Int32) : sX9_saveSnapshot now slo sav 0 = (sav 0, 0, pb_lay now slo 0 0 214, upd sav 0 1) := by
  unfold sX9_saveSnapshot sX9_saveSnapshot_q_6
  rw [if_neg (by decide), show sX9_copies now slo 0 (214 * 0) 214 = pb_lay now slo 0 0 214 from pb_cp now slo (at_ := 0) (into := 0) (many := 214) (by decide) (by decide)]
  rfl
theorem pc_save1 (now slo sav : Nat → Int32) : sX9_saveSnapshot now slo sav 1 = (sav 1, 0, pb_lay now slo 0 214 214, upd sav 1 1) := by
  unfold sX9_saveSnapshot sX9_saveSnapshot_q_6
  rw [if_neg (by decide), show sX9_copies now slo 0 (214 * 1) 214 = pb_lay now slo 0 214 214 from pb_cp now slo (at_ := 0) (into := 214) (many := 214) (by decide) (by decide)]
  rfl
theorem pc_saveX (now slo sav : Nat → Int32) {slot : Int32} (b : slot < 0 ∨ ¬ slot ≤ 1) : sX9_saveSnapshot now slo sav slot = (0, 1, slo, sav) := by
  unfold sX9_saveSnapshot
  rw [if_pos (pb_w0 b)]
theorem pc_restX1 (undos : Int32) (now slo sav : Nat → Int32) {slot : Int32} (b : slot < 0 ∨ ¬ slot ≤ 1) : sX9_restoreSnapshot undos now slo sav slot = (0, 1, now, undos) := by
  unfold sX9_restoreSnapshot
  rw [if_pos (pb_w0 b)]
theorem pc_restX20 (undos : Int32) (now slo sav : Nat → Int32) (h : sav 0 = 0) : sX9_restoreSnapshot undos now slo sav 0 = (0, 2, now, undos) := by
  unfold sX9_restoreSnapshot
  rw [if_neg (by decide), if_pos (show sav (Int32.toNatClampNeg 0) = 0 from h)]
theorem pc_restX21 (undos : Int32) (now slo sav : Nat → Int32) (h : sav 1 = 0) : sX9_restoreSnapshot undos now slo sav 1 = (0, 2, now, undos) := by
  unfold sX9_restoreSnapshot
  rw [if_neg (by decide), if_pos (show sav (Int32.toNatClampNeg 1) = 0 from h)]
theorem pc_rest0 (undos : Int32) (now slo sav : Nat → Int32) (h : ¬ sav 0 = 0) : sX9_restoreSnapshot undos now slo sav 0 = (slo 0, 0, pb_lay slo now 0 0 214, 0) := by
  unfold sX9_restoreSnapshot sX9_restoreSnapshot_q_9
  rw [if_neg (by decide), if_neg (show ¬ sav (Int32.toNatClampNeg 0) = 0 from h), show sX9_copies slo now (214 * 0) 0 214 = pb_lay slo now 0 0 214 from pb_cp slo now (at_ := 0) (into := 0) (many := 214) (by decide) (by decide)]
  rfl
theorem pc_rest1 (undos : Int32) (now slo sav : Nat → Int32) (h : ¬ sav 1 = 0) : sX9_restoreSnapshot undos now slo sav 1 = (slo 214, 0, pb_lay slo now 214 0 214, 0) := by
  unfold sX9_restoreSnapshot sX9_restoreSnapshot_q_9
  rw [if_neg (by decide), if_neg (show ¬ sav (Int32.toNatClampNeg 1) = 0 from h), show sX9_copies slo now (214 * 1) 0 214 = pb_lay slo now 214 0 214 from pb_cp slo now (at_ := 214) (into := 0) (many := 214) (by decide) (by decide)]
  rfl
theorem pb_layIn {f g : Nat → Int32} {a i m k : Nat} (h1 : i ≤ k) (h2 : k < i + m) : pb_lay f g a i m k = f (a + (k - i)) := if_pos ⟨h1, h2⟩
theorem pb_layOut {f g : Nat → Int32} {a i m k : Nat} (h : k < i ∨ i + m ≤ k) : pb_lay f g a i m k = g k := if_neg (by omega)
