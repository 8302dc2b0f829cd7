/-! one row a call: what changes the situation -/
set_option maxRecDepth 100000 in
set_option maxHeartbeats 4000000 in
theorem C_run (l : Launch) (hst : l.stackTraces = false) (E : XE) (Z : XZ) (cL : ClassId) (h h9 o : Nat) (u w : Nat → Nat) (g : Nat → Int64) {t : Int32} {W8 W9 : va_W} (hI : xI E h u h9 w t W8 W9) (p1 : Int32) : xC l E Z cL h h9 o u w yL_run wsL_run yX9_run wsX9_run ({ frames := 9, cells := 0, slots := 0, locals := 203 }) [.int p1] W8 W9 g (fun b : Int32 => .int b) (fun b => b.toInt64) := by
  obtain ⟨errorAt, used, en, met, start, rnext, kind, value, buf, nums, num, sits, tx, tv, ta1, ta2, tw1, tw2, next, size, f0, f1, length, textSize, start9, next9, token, value9, error, errorAt9, seen, tw, undos, text, rs, fs, tri, was, und, slo, now, told, sav, rfl, rfl, hI⟩ := hI
  have hI0 := hI
  obtain ⟨hT, hR, hS10, hMT, hE9, ⟨n, hn, hu1, hu2, hB⟩, ⟨nx, sz, hnx, hsz, hx1, hx2, hx3, hH⟩, hsv, hf0, hf1, hS12, hS13⟩ := hI0
  obtain ⟨b1, b2, b3, b4, rs8, fs8, e10, hrg, hV, hok⟩ := pb_Sof hS10
  subst hx1; subst hx2; subst hx3
  by_cases p1A : p1 < 1
  · exact ⟨1, _, g, _, _, w_run_c1 l E Z cL _ h o _ g _ p1 (L_run_x1 l E h u _ _ _ _ _ _ _ _ _ _ _ _ _ _ _ _ _ _ _ _ _ _ p1 hst (Or.inl p1A)) rfl rfl (Nat.le_of_ble_eq_true rfl) (Nat.le_of_ble_eq_true rfl) rfl, M_run l Z E h9 w _ _ _ _ _ _ _ _ _ _ _ _ _ _ _ _ _ _ _ _ _ _ p1 (pf_w1 hT hR) (pf_w2 hT hR) (pf_m3 hT hR) (pf_m0 hT hR) hV.1.1 (pf_T1 hV) (pf_a0 hV) (pf_a1 hV) (pf_b0 hV) (pf_b1 hV) (pf_u0 hsz) (pf_u1 hsz) _ (pc_runX1 _ _ _ _ _ _ _ (Or.inl p1A)), (xI.mk hI), fun z => absurd z (by decide)⟩
  by_cases p1B : p1 ≤ 1000
  rotate_left
  · exact ⟨1, _, g, _, _, w_run_c1 l E Z cL _ h o _ g _ p1 (L_run_x1 l E h u _ _ _ _ _ _ _ _ _ _ _ _ _ _ _ _ _ _ _ _ _ _ p1 hst (Or.inr p1B)) rfl rfl (Nat.le_of_ble_eq_true rfl) (Nat.le_of_ble_eq_true rfl) rfl, M_run l Z E h9 w _ _ _ _ _ _ _ _ _ _ _ _ _ _ _ _ _ _ _ _ _ _ p1 (pf_w1 hT hR) (pf_w2 hT hR) (pf_m3 hT hR) (pf_m0 hT hR) hV.1.1 (pf_T1 hV) (pf_a0 hV) (pf_a1 hV) (pf_b0 hV) (pf_b1 hV) (pf_u0 hsz) (pf_u1 hsz) _ (pc_runX1 _ _ _ _ _ _ _ (Or.inr p1B)), (xI.mk hI), fun z => absurd z (by decide)⟩
  by_cases c : now 0 + p1 ≤ 9999
  rotate_left
  · exact ⟨2, _, g, _, _, w_run_c2 l E Z cL _ h o _ g _ p1 (L_run_x2 l E h u _ _ _ _ _ _ _ _ _ _ _ _ _ _ _ _ _ _ _ _ _ _ p1 hst p1A p1B (by rw [e10]; exact c)) rfl rfl (Nat.le_of_ble_eq_true rfl) (Nat.le_of_ble_eq_true rfl) rfl, M_run l Z E h9 w _ _ _ _ _ _ _ _ _ _ _ _ _ _ _ _ _ _ _ _ _ _ p1 (pf_w1 hT hR) (pf_w2 hT hR) (pf_m3 hT hR) (pf_m0 hT hR) hV.1.1 (pf_T1 hV) (pf_a0 hV) (pf_a1 hV) (pf_b0 hV) (pf_b1 hV) (pf_u0 hsz) (pf_u1 hsz) _ (pc_runX2 _ _ _ _ _ _ _ p1A p1B c), (xI.mk hI), fun z => absurd z (by decide)⟩
  obtain ⟨g2, m2, a1, a2, a3, a4⟩ := pc_run hT hR hV hrg hok hMT tri und hnx hsz p1A p1B c
  exact ⟨0, _, _, _, _, w_run l E Z cL _ _ h o _ g _ p1 _ (L_run l Z E h u _ _ _ _ _ _ _ _ _ _ _ _ _ _ _ _ _ _ _ _ _ nx hnx p1 p1A p1B (by rw [e10]; exact c) (pf_z1 hR) (pf_z2 hR) _ (Eq.trans (by first | (rw [e10]; done) | (rw [e10]; rfl)) a1)) rfl rfl (Nat.le_of_ble_eq_true rfl) (Nat.le_of_ble_eq_true rfl) rfl, M_run l Z E h9 w _ _ _ _ _ _ _ _ _ _ _ _ _ _ _ _ _ _ _ _ _ _ p1 (pf_w1 hT hR) (pf_w2 hT hR) (pf_m3 hT hR) (pf_m0 hT hR) hV.1.1 (pf_T1 hV) (pf_a0 hV) (pf_a1 hV) (pf_b0 hV) (pf_b1 hV) (pf_u0 hsz) (pf_u1 hsz) _ a2, (xI.mk ⟨hT, hR, (by rw [e10]; exact a3), a4, hE9, ⟨n, hn, hu1, hu2, hB⟩, ⟨(nx + 1) % 10, min (sz + 1) 10, Nat.mod_lt _ (by decide), by omega, rfl, rfl, rfl, pb_HK2 (pb_R3 hR) hnx hsz hH hS10 _ _ _⟩, hsv, hf0, hf1, (fun z => by show pb_S num (if 12 = 10 then _ else if 12 = nx then _ else sits 12) slo; rw [if_neg (by decide), if_neg (by omega)]; exact hS12 z), (fun z => by show pb_S num (if 13 = 10 then _ else if 13 = nx then _ else sits 13) (fun k => slo (214 + k)); rw [if_neg (by decide), if_neg (by omega)]; exact hS13 z)⟩), (fun _ => x_u0 _ _)⟩
set_option maxRecDepth 100000 in
set_option maxHeartbeats 4000000 in
theorem C_setMode (l : Launch) (hst : l.stackTraces = false) (E : XE) (Z : XZ) (cL : ClassId) (h h9 o : Nat) (u w : Nat → Nat) (g : Nat → Int64) {t : Int32} {W8 W9 : va_W} (hI : xI E h u h9 w t W8 W9) (p1 : Int32) : xC l E Z cL h h9 o u w yL_setMode wsL_setMode yX9_setMode wsX9_setMode ({ frames := 2, cells := 0, slots := 0, locals := 45 }) [.int p1] W8 W9 g (fun b : Int32 => .int b) (fun b => b.toInt64) := by
  obtain ⟨errorAt, used, en, met, start, rnext, kind, value, buf, nums, num, sits, tx, tv, ta1, ta2, tw1, tw2, next, size, f0, f1, length, textSize, start9, next9, token, value9, error, errorAt9, seen, tw, undos, text, rs, fs, tri, was, und, slo, now, told, sav, rfl, rfl, hI⟩ := hI
  have hI0 := hI
  obtain ⟨hT, hR, hS10, hMT, hE9, ⟨n, hn, hu1, hu2, hB⟩, ⟨nx, sz, hnx, hsz, hx1, hx2, hx3, hH⟩, hsv, hf0, hf1, hS12, hS13⟩ := hI0
  obtain ⟨b1, b2, b3, b4, rs8, fs8, e10, hrg, hV, hok⟩ := pb_Sof hS10
  subst hx1; subst hx2; subst hx3
  by_cases p1A : p1 < 0
  · exact ⟨1, _, g, _, _, w_setMode_c1 l E Z cL _ h o _ g _ p1 (L_setMode_x1 l E h u _ _ _ _ _ _ _ _ _ _ _ _ _ _ _ _ _ _ _ _ _ _ p1 hst (Or.inl p1A)) rfl rfl (Nat.le_of_ble_eq_true rfl) (Nat.le_of_ble_eq_true rfl) rfl, M_setMode l Z E h9 w _ _ _ _ _ _ _ _ _ _ _ _ _ _ _ _ _ _ _ _ _ _ p1 (pf_u0 hsz) (pf_u1 hsz) _ (pc_setModeX1 _ _ _ (Or.inl p1A)), (xI.mk hI), fun z => absurd z (by decide)⟩
  by_cases p1B : p1 ≤ 2
  rotate_left
  · exact ⟨1, _, g, _, _, w_setMode_c1 l E Z cL _ h o _ g _ p1 (L_setMode_x1 l E h u _ _ _ _ _ _ _ _ _ _ _ _ _ _ _ _ _ _ _ _ _ _ p1 hst (Or.inr p1B)) rfl rfl (Nat.le_of_ble_eq_true rfl) (Nat.le_of_ble_eq_true rfl) rfl, M_setMode l Z E h9 w _ _ _ _ _ _ _ _ _ _ _ _ _ _ _ _ _ _ _ _ _ _ p1 (pf_u0 hsz) (pf_u1 hsz) _ (pc_setModeX1 _ _ _ (Or.inr p1B)), (xI.mk hI), fun z => absurd z (by decide)⟩
  by_cases c : now 1 = 3
  · exact ⟨2, _, g, _, _, w_setMode_c2 l E Z cL _ h o _ g _ p1 (L_setMode_x2 l E h u _ _ _ _ _ _ _ _ _ _ _ _ _ _ _ _ _ _ _ _ _ _ p1 hst p1A p1B (by rw [e10]; exact c)) rfl rfl (Nat.le_of_ble_eq_true rfl) (Nat.le_of_ble_eq_true rfl) rfl, M_setMode l Z E h9 w _ _ _ _ _ _ _ _ _ _ _ _ _ _ _ _ _ _ _ _ _ _ p1 (pf_u0 hsz) (pf_u1 hsz) _ (pc_setModeX2 _ _ _ p1A p1B c), (xI.mk hI), fun z => absurd z (by decide)⟩
  obtain ⟨a1, a2, a3⟩ := pc_setMode hV hrg hok und hnx hsz p1A p1B c
  exact ⟨0, _, _, _, _, w_setMode l E Z cL _ _ h o _ g _ p1 _ (L_setMode l Z E h u _ _ _ _ _ _ _ _ _ _ _ _ _ _ _ _ _ _ _ _ _ nx hnx p1 p1A p1B (by rw [e10]; exact c) _ (Eq.trans (by first | (rw [e10]; done) | (rw [e10]; rfl)) a1)) rfl rfl (Nat.le_of_ble_eq_true rfl) (Nat.le_of_ble_eq_true rfl) rfl, M_setMode l Z E h9 w _ _ _ _ _ _ _ _ _ _ _ _ _ _ _ _ _ _ _ _ _ _ p1 (pf_u0 hsz) (pf_u1 hsz) _ a2, (xI.mk ⟨hT, hR, (by rw [e10]; exact a3), hMT, hE9, ⟨n, hn, hu1, hu2, hB⟩, ⟨(nx + 1) % 10, min (sz + 1) 10, Nat.mod_lt _ (by decide), by omega, rfl, rfl, rfl, pb_HK2 (pb_R3 hR) hnx hsz hH hS10 _ _ _⟩, hsv, hf0, hf1, (fun z => by show pb_S num (if 12 = 10 then _ else if 12 = nx then _ else sits 12) slo; rw [if_neg (by decide), if_neg (by omega)]; exact hS12 z), (fun z => by show pb_S num (if 13 = 10 then _ else if 13 = nx then _ else sits 13) (fun k => slo (214 + k)); rw [if_neg (by decide), if_neg (by omega)]; exact hS13 z)⟩), (fun _ => x_u0 _ _)⟩
set_option maxRecDepth 100000 in
set_option maxHeartbeats 4000000 in
theorem C_reset (l : Launch) (hst : l.stackTraces = false) (E : XE) (Z : XZ) (cL : ClassId) (h h9 o : Nat) (u w : Nat → Nat) (g : Nat → Int64) {t : Int32} {W8 W9 : va_W} (hI : xI E h u h9 w t W8 W9) (p1 p2 : Int32) : xC l E Z cL h h9 o u w yL_reset wsL_reset yX9_reset wsX9_reset ({ frames := 2, cells := 0, slots := 0, locals := 45 }) [.int p1, .int p2] W8 W9 g (fun b : Int32 => .int b) (fun b => b.toInt64) := by
  obtain ⟨errorAt, used, en, met, start, rnext, kind, value, buf, nums, num, sits, tx, tv, ta1, ta2, tw1, tw2, next, size, f0, f1, length, textSize, start9, next9, token, value9, error, errorAt9, seen, tw, undos, text, rs, fs, tri, was, und, slo, now, told, sav, rfl, rfl, hI⟩ := hI
  have hI0 := hI
  obtain ⟨hT, hR, hS10, hMT, hE9, ⟨n, hn, hu1, hu2, hB⟩, ⟨nx, sz, hnx, hsz, hx1, hx2, hx3, hH⟩, hsv, hf0, hf1, hS12, hS13⟩ := hI0
  obtain ⟨b1, b2, b3, b4, rs8, fs8, e10, hrg, hV, hok⟩ := pb_Sof hS10
  subst hx1; subst hx2; subst hx3
  by_cases p1A : p1 < 0
  · exact ⟨1, _, g, _, _, w_reset_c1 l E Z cL _ h o _ g _ p1 p2 (L_reset_x1 l E h u _ _ _ _ _ _ _ _ _ _ _ _ _ _ _ _ _ _ _ _ _ _ p1 p2 hst (Or.inl p1A)) rfl rfl (Nat.le_of_ble_eq_true rfl) (Nat.le_of_ble_eq_true rfl) rfl, M_reset l Z E h9 w _ _ _ _ _ _ _ _ _ _ _ _ _ _ _ _ _ _ _ _ _ _ p1 p2 (pf_u0 hsz) (pf_u1 hsz) _ (pc_resetX1 _ _ _ _ (Or.inl p1A)), (xI.mk hI), fun z => absurd z (by decide)⟩
  by_cases p1B : p1 ≤ 4095
  rotate_left
  · exact ⟨1, _, g, _, _, w_reset_c1 l E Z cL _ h o _ g _ p1 p2 (L_reset_x1 l E h u _ _ _ _ _ _ _ _ _ _ _ _ _ _ _ _ _ _ _ _ _ _ p1 p2 hst (Or.inr p1B)) rfl rfl (Nat.le_of_ble_eq_true rfl) (Nat.le_of_ble_eq_true rfl) rfl, M_reset l Z E h9 w _ _ _ _ _ _ _ _ _ _ _ _ _ _ _ _ _ _ _ _ _ _ p1 p2 (pf_u0 hsz) (pf_u1 hsz) _ (pc_resetX1 _ _ _ _ (Or.inr p1B)), (xI.mk hI), fun z => absurd z (by decide)⟩
  by_cases p2A : p2 < 0
  · exact ⟨1, _, g, _, _, w_reset_c1 l E Z cL _ h o _ g _ p1 p2 (L_reset_x2 l E h u _ _ _ _ _ _ _ _ _ _ _ _ _ _ _ _ _ _ _ _ _ _ p1 p2 hst p1A p1B (Or.inl p2A)) rfl rfl (Nat.le_of_ble_eq_true rfl) (Nat.le_of_ble_eq_true rfl) rfl, M_reset l Z E h9 w _ _ _ _ _ _ _ _ _ _ _ _ _ _ _ _ _ _ _ _ _ _ p1 p2 (pf_u0 hsz) (pf_u1 hsz) _ (pc_resetX2 _ _ _ p1A p1B (Or.inl p2A)), (xI.mk hI), fun z => absurd z (by decide)⟩
  by_cases p2B : p2 ≤ 4095
  rotate_left
  · exact ⟨1, _, g, _, _, w_reset_c1 l E Z cL _ h o _ g _ p1 p2 (L_reset_x2 l E h u _ _ _ _ _ _ _ _ _ _ _ _ _ _ _ _ _ _ _ _ _ _ p1 p2 hst p1A p1B (Or.inr p2B)) rfl rfl (Nat.le_of_ble_eq_true rfl) (Nat.le_of_ble_eq_true rfl) rfl, M_reset l Z E h9 w _ _ _ _ _ _ _ _ _ _ _ _ _ _ _ _ _ _ _ _ _ _ p1 p2 (pf_u0 hsz) (pf_u1 hsz) _ (pc_resetX2 _ _ _ p1A p1B (Or.inr p2B)), (xI.mk hI), fun z => absurd z (by decide)⟩
  obtain ⟨a1, a2, a3⟩ := pc_reset hV hrg hok und hnx hsz p1A p1B p2A p2B
  exact ⟨0, _, _, _, _, w_reset l E Z cL _ _ h o _ g _ p1 p2 _ (L_reset l Z E h u _ _ _ _ _ _ _ _ _ _ _ _ _ _ _ _ _ _ _ _ _ nx hnx p1 p2 p1A p1B p2A p2B _ (Eq.trans (by first | (rw [e10]; done) | (rw [e10]; rfl)) a1)) rfl rfl (Nat.le_of_ble_eq_true rfl) (Nat.le_of_ble_eq_true rfl) rfl, M_reset l Z E h9 w _ _ _ _ _ _ _ _ _ _ _ _ _ _ _ _ _ _ _ _ _ _ p1 p2 (pf_u0 hsz) (pf_u1 hsz) _ a2, (xI.mk ⟨hT, hR, (by rw [e10]; exact a3), hMT, hE9, ⟨n, hn, hu1, hu2, hB⟩, ⟨(nx + 1) % 10, min (sz + 1) 10, Nat.mod_lt _ (by decide), by omega, rfl, rfl, rfl, pb_HK2 (pb_R3 hR) hnx hsz hH hS10 _ _ _⟩, hsv, hf0, hf1, (fun z => by show pb_S num (if 12 = 10 then _ else if 12 = nx then _ else sits 12) slo; rw [if_neg (by decide), if_neg (by omega)]; exact hS12 z), (fun z => by show pb_S num (if 13 = 10 then _ else if 13 = nx then _ else sits 13) (fun k => slo (214 + k)); rw [if_neg (by decide), if_neg (by omega)]; exact hS13 z)⟩), (fun _ => x_u0 _ _)⟩
set_option maxRecDepth 100000 in
set_option maxHeartbeats 4000000 in
theorem C_nudge (l : Launch) (hst : l.stackTraces = false) (E : XE) (Z : XZ) (cL : ClassId) (h h9 o : Nat) (u w : Nat → Nat) (g : Nat → Int64) {t : Int32} {W8 W9 : va_W} (hI : xI E h u h9 w t W8 W9) (p1 p2 : Int32) : xC l E Z cL h h9 o u w yL_nudge wsL_nudge yX9_nudge wsX9_nudge ({ frames := 2, cells := 0, slots := 0, locals := 45 }) [.int p1, .int p2] W8 W9 g (fun b : Int32 => .int b) (fun b => b.toInt64) := by
  obtain ⟨errorAt, used, en, met, start, rnext, kind, value, buf, nums, num, sits, tx, tv, ta1, ta2, tw1, tw2, next, size, f0, f1, length, textSize, start9, next9, token, value9, error, errorAt9, seen, tw, undos, text, rs, fs, tri, was, und, slo, now, told, sav, rfl, rfl, hI⟩ := hI
  have hI0 := hI
  obtain ⟨hT, hR, hS10, hMT, hE9, ⟨n, hn, hu1, hu2, hB⟩, ⟨nx, sz, hnx, hsz, hx1, hx2, hx3, hH⟩, hsv, hf0, hf1, hS12, hS13⟩ := hI0
  obtain ⟨b1, b2, b3, b4, rs8, fs8, e10, hrg, hV, hok⟩ := pb_Sof hS10
  subst hx1; subst hx2; subst hx3
  by_cases p1A : p1 < 1
  · exact ⟨1, _, g, _, _, w_nudge_c1 l E Z cL _ h o _ g _ p1 p2 (L_nudge_x1 l E h u _ _ _ _ _ _ _ _ _ _ _ _ _ _ _ _ _ _ _ _ _ _ p1 p2 hst (Or.inl p1A)) rfl rfl (Nat.le_of_ble_eq_true rfl) (Nat.le_of_ble_eq_true rfl) rfl, M_nudge l Z E h9 w _ _ _ _ _ _ _ _ _ _ _ _ _ _ _ _ _ _ _ _ _ _ p1 p2 (pf_u0 hsz) (pf_u1 hsz) _ (pc_nudgeX1 _ _ _ _ (Or.inl p1A)), (xI.mk hI), fun z => absurd z (by decide)⟩
  by_cases p1B : p1 ≤ 2
  rotate_left
  · exact ⟨1, _, g, _, _, w_nudge_c1 l E Z cL _ h o _ g _ p1 p2 (L_nudge_x1 l E h u _ _ _ _ _ _ _ _ _ _ _ _ _ _ _ _ _ _ _ _ _ _ p1 p2 hst (Or.inr p1B)) rfl rfl (Nat.le_of_ble_eq_true rfl) (Nat.le_of_ble_eq_true rfl) rfl, M_nudge l Z E h9 w _ _ _ _ _ _ _ _ _ _ _ _ _ _ _ _ _ _ _ _ _ _ p1 p2 (pf_u0 hsz) (pf_u1 hsz) _ (pc_nudgeX1 _ _ _ _ (Or.inr p1B)), (xI.mk hI), fun z => absurd z (by decide)⟩
  by_cases p2A : p2 < (-500)
  · exact ⟨2, _, g, _, _, w_nudge_c2 l E Z cL _ h o _ g _ p1 p2 (L_nudge_x2 l E h u _ _ _ _ _ _ _ _ _ _ _ _ _ _ _ _ _ _ _ _ _ _ p1 p2 hst p1A p1B (Or.inl p2A)) rfl rfl (Nat.le_of_ble_eq_true rfl) (Nat.le_of_ble_eq_true rfl) rfl, M_nudge l Z E h9 w _ _ _ _ _ _ _ _ _ _ _ _ _ _ _ _ _ _ _ _ _ _ p1 p2 (pf_u0 hsz) (pf_u1 hsz) _ (pc_nudgeX2 _ _ _ p1A p1B (Or.inl p2A)), (xI.mk hI), fun z => absurd z (by decide)⟩
  by_cases p2B : p2 ≤ 500
  rotate_left
  · exact ⟨2, _, g, _, _, w_nudge_c2 l E Z cL _ h o _ g _ p1 p2 (L_nudge_x2 l E h u _ _ _ _ _ _ _ _ _ _ _ _ _ _ _ _ _ _ _ _ _ _ p1 p2 hst p1A p1B (Or.inr p2B)) rfl rfl (Nat.le_of_ble_eq_true rfl) (Nat.le_of_ble_eq_true rfl) rfl, M_nudge l Z E h9 w _ _ _ _ _ _ _ _ _ _ _ _ _ _ _ _ _ _ _ _ _ _ p1 p2 (pf_u0 hsz) (pf_u1 hsz) _ (pc_nudgeX2 _ _ _ p1A p1B (Or.inr p2B)), (xI.mk hI), fun z => absurd z (by decide)⟩
  by_cases c : now 1 = 3
  · exact ⟨3, _, g, _, _, w_nudge_c3 l E Z cL _ h o _ g _ p1 p2 (L_nudge_x3 l E h u _ _ _ _ _ _ _ _ _ _ _ _ _ _ _ _ _ _ _ _ _ _ p1 p2 hst p1A p1B p2A p2B (by rw [e10]; exact c)) rfl rfl (Nat.le_of_ble_eq_true rfl) (Nat.le_of_ble_eq_true rfl) rfl, M_nudge l Z E h9 w _ _ _ _ _ _ _ _ _ _ _ _ _ _ _ _ _ _ _ _ _ _ p1 p2 (pf_u0 hsz) (pf_u1 hsz) _ (pc_nudgeX3 _ _ _ p1A p1B p2A p2B c), (xI.mk hI), fun z => absurd z (by decide)⟩
  have k9 : (0 : Int) ≤ (9999 : Int32).toInt := by decide
  by_cases d : sX9_isBeyond (sX1_speedOf (now 12) (now 13) p1 + p2) 9999 = 0
  rotate_left
  · have d2 : 9999 < (sX1_speedOf (now 12) (now 13) p1 + p2) ∨ (sX1_speedOf (now 12) (now 13) p1 + p2) < -9999 := Classical.byContradiction fun z => d ((pb_bey0 k9).mpr z)
    exact ⟨3, _, g, _, _, w_nudge_c3 l E Z cL _ h o _ g _ p1 p2 (L_nudge_x4 l E h u _ _ _ _ _ _ _ _ _ _ _ _ _ _ _ _ _ _ _ _ _ _ p1 p2 hst p1A p1B p2A p2B (by rw [e10]; exact c) (by rw [e10]; exact (d2.elim Or.inl (fun z => Or.inr (by first | exact z | (rw [Int32.not_le]; exact z)))))) rfl rfl (Nat.le_of_ble_eq_true rfl) (Nat.le_of_ble_eq_true rfl) rfl, M_nudge l Z E h9 w _ _ _ _ _ _ _ _ _ _ _ _ _ _ _ _ _ _ _ _ _ _ p1 p2 (pf_u0 hsz) (pf_u1 hsz) _ (pc_nudgeX4 _ _ _ p1A p1B p2A p2B c d), (xI.mk hI), fun z => absurd z (by decide)⟩
  have d2 := (pb_bey0 k9).mp d
  obtain ⟨a1, a2, a3⟩ := pc_nudge hV hrg hok und hnx hsz p1A p1B p2A p2B c d
  exact ⟨0, _, _, _, _, w_nudge l E Z cL _ _ h o _ g _ p1 p2 _ (L_nudge l Z E h u _ _ _ _ _ _ _ _ _ _ _ _ _ _ _ _ _ _ _ _ _ nx hnx p1 p2 p1A p1B p2A p2B (by rw [e10]; exact c) (by rw [e10]; exact (fun z => d2 (Or.inl z))) (by rw [e10]; exact (by rw [← Int32.not_lt]; exact fun z => d2 (Or.inr z))) _ (Eq.trans (by first | (rw [e10]; done) | (rw [e10]; rfl)) a1)) rfl rfl (Nat.le_of_ble_eq_true rfl) (Nat.le_of_ble_eq_true rfl) rfl, M_nudge l Z E h9 w _ _ _ _ _ _ _ _ _ _ _ _ _ _ _ _ _ _ _ _ _ _ p1 p2 (pf_u0 hsz) (pf_u1 hsz) _ a2, (xI.mk ⟨hT, hR, (by rw [e10]; exact a3), hMT, hE9, ⟨n, hn, hu1, hu2, hB⟩, ⟨(nx + 1) % 10, min (sz + 1) 10, Nat.mod_lt _ (by decide), by omega, rfl, rfl, rfl, pb_HK2 (pb_R3 hR) hnx hsz hH hS10 _ _ _⟩, hsv, hf0, hf1, (fun z => by show pb_S num (if 12 = 10 then _ else if 12 = nx then _ else sits 12) slo; rw [if_neg (by decide), if_neg (by omega)]; exact hS12 z), (fun z => by show pb_S num (if 13 = 10 then _ else if 13 = nx then _ else sits 13) (fun k => slo (214 + k)); rw [if_neg (by decide), if_neg (by omega)]; exact hS13 z)⟩), (fun _ => x_u0 _ _)⟩
set_option maxRecDepth 100000 in
set_option maxHeartbeats 4000000 in
theorem C_setForce (l : Launch) (hst : l.stackTraces = false) (E : XE) (Z : XZ) (cL : ClassId) (h h9 o : Nat) (u w : Nat → Nat) (g : Nat → Int64) {t : Int32} {W8 W9 : va_W} (hI : xI E h u h9 w t W8 W9) (p1 : Int32) : xC l E Z cL h h9 o u w yL_setForce wsL_setForce yX9_setForce wsX9_setForce ({ frames := 7, cells := 0, slots := 0, locals := 164 }) [.int p1] W8 W9 g (fun b : Int32 => .int b) (fun b => b.toInt64) := by
  obtain ⟨errorAt, used, en, met, start, rnext, kind, value, buf, nums, num, sits, tx, tv, ta1, ta2, tw1, tw2, next, size, f0, f1, length, textSize, start9, next9, token, value9, error, errorAt9, seen, tw, undos, text, rs, fs, tri, was, und, slo, now, told, sav, rfl, rfl, hI⟩ := hI
  have hI0 := hI
  obtain ⟨hT, hR, hS10, hMT, hE9, ⟨n, hn, hu1, hu2, hB⟩, ⟨nx, sz, hnx, hsz, hx1, hx2, hx3, hH⟩, hsv, hf0, hf1, hS12, hS13⟩ := hI0
  obtain ⟨b1, b2, b3, b4, rs8, fs8, e10, hrg, hV, hok⟩ := pb_Sof hS10
  subst hx1; subst hx2; subst hx3
  by_cases p1A : p1 < 1
  · exact ⟨1, _, g, _, _, w_setForce_c1 l E Z cL _ h o _ g _ p1 (L_setForce_x1 l E h u _ _ _ _ _ _ _ _ _ _ _ _ _ _ _ _ _ _ _ _ _ _ p1 hst (Or.inl p1A)) rfl rfl (Nat.le_of_ble_eq_true rfl) (Nat.le_of_ble_eq_true rfl) rfl, M_setForce l Z E h9 w _ _ _ _ _ _ _ _ _ _ _ _ _ _ _ _ _ _ _ _ _ _ p1 (pf_m3 hT hR) (pf_m0 hT hR) (pf_u0 hsz) (pf_u1 hsz) _ (pc_setForceX _ _ _ _ _ _ _ (Or.inl p1A)), (xI.mk hI), fun z => absurd z (by decide)⟩
  by_cases p1B : p1 ≤ 500
  rotate_left
  · exact ⟨1, _, g, _, _, w_setForce_c1 l E Z cL _ h o _ g _ p1 (L_setForce_x1 l E h u _ _ _ _ _ _ _ _ _ _ _ _ _ _ _ _ _ _ _ _ _ _ p1 hst (Or.inr p1B)) rfl rfl (Nat.le_of_ble_eq_true rfl) (Nat.le_of_ble_eq_true rfl) rfl, M_setForce l Z E h9 w _ _ _ _ _ _ _ _ _ _ _ _ _ _ _ _ _ _ _ _ _ _ p1 (pf_m3 hT hR) (pf_m0 hT hR) (pf_u0 hsz) (pf_u1 hsz) _ (pc_setForceX _ _ _ _ _ _ _ (Or.inr p1B)), (xI.mk hI), fun z => absurd z (by decide)⟩
  obtain ⟨v, rs2, fs2, tr2, q2, a1, a2, a3, a4⟩ := pc_setForce hT hR hV hrg rs8 fs8 hMT tri und hnx hsz tx tv ta1 ta2 tw1 tw2 p1A p1B
  exact ⟨0, _, _, _, _, w_setForce l E Z cL _ _ h o _ g _ p1 _ (L_setForce l Z E h u _ _ _ _ _ _ _ _ _ _ _ _ _ _ _ _ _ _ _ _ _ nx hnx p1 p1A p1B (pf_c3 hR) (pf_c0 hR) _ (Eq.trans (by first | (rw [e10]; done) | (rw [e10]; rfl)) a1)) rfl rfl (Nat.le_of_ble_eq_true rfl) (Nat.le_of_ble_eq_true rfl) rfl, M_setForce l Z E h9 w _ _ _ _ _ _ _ _ _ _ _ _ _ _ _ _ _ _ _ _ _ _ p1 (pf_m3 hT hR) (pf_m0 hT hR) (pf_u0 hsz) (pf_u1 hsz) _ a2, (xI.mk ⟨hT, hR, (by rw [e10]; exact a3), a4, hE9, ⟨n, hn, hu1, hu2, hB⟩, ⟨(nx + 1) % 10, min (sz + 1) 10, Nat.mod_lt _ (by decide), by omega, rfl, rfl, rfl, pb_HK2 (pb_R3 hR) hnx hsz hH hS10 _ _ _⟩, hsv, hf0, hf1, (fun z => by show pb_S num (if 12 = 10 then _ else if 12 = nx then _ else sits 12) slo; rw [if_neg (by decide), if_neg (by omega)]; exact hS12 z), (fun z => by show pb_S num (if 13 = 10 then _ else if 13 = nx then _ else sits 13) (fun k => slo (214 + k)); rw [if_neg (by decide), if_neg (by omega)]; exact hS13 z)⟩), (fun _ => x_u0 _ _)⟩
