/-! one row a call, the rest -/
theorem xA.val {l : Launch} {y : MethodName} {ws : List Cond} {rm : Room} {E : XE} {Z : XZ} {W W' : va_W} {av : List Value} {v v' : Int32} {mc ms : Nat} (h : xA l y ws rm E Z W av (some (.int v)) W' mc ms) (e : v = v') : xA l y ws rm E Z W av (some (.int v')) W' mc ms := by
  subst e
  exact h
theorem pb_Hc {num : Nat → Int32} {sits sits' : Nat → pbSit} {nx sz : Nat} {und : Nat → Int32} (h : pb_H num sits nx sz und) (e : ∀ j, j < 10 → sits' j = sits j) : pb_H num sits' nx sz und := fun k hk => by
  rw [e _ (Nat.mod_lt _ (by decide))]
  exact h k hk
set_option maxRecDepth 100000 in
set_option maxHeartbeats 4000000 in
theorem C_errorPosition (l : Launch) (E : XE) (Z : XZ) (h h9 : Nat) (u w : Nat → Nat) {t : Int32} {W8 W9 : va_W} (hI : xI E h u h9 w t W8 W9) : xD2 l E Z h h9 u w yX8_errorPosition wsX8_errorPosition 1 yX9_errorPosition wsX9_errorPosition ({ frames := 0, cells := 0, slots := 0, locals := 0 }) [] W8 W9 := by
  obtain ⟨errorAt, used, en, met, start, rnext, kind, value, buf, nums, num, sits, tx, tv, ta1, ta2, tw1, tw2, next, size, f0, f1, length, textSize, start9, next9, token, value9, error, errorAt9, seen, tw, undos, text, rs, fs, tri, was, und, slo, now, told, sav, rfl, rfl, hI⟩ := hI
  have hI0 := hI
  obtain ⟨hT, hR, hS10, hMT, hE9, ⟨n, hn, hu1, hu2, hB⟩, ⟨nx, sz, hnx, hsz, hx1, hx2, hx3, hH⟩, hsv, hf0, hf1, hS12, hS13⟩ := hI0
  obtain ⟨b1, b2, b3, b4, rs8, fs8, e10, hrg, hV, hok⟩ := pb_Sof hS10
  exact ⟨_, 0, _, _, _, rfl, rfl, (Nat.le_of_ble_eq_true rfl), (Nat.le_of_ble_eq_true rfl), xA.val (L_errorPosition l Z E h u _ _ _ _ _ _ _ _ _ _ _ _ _ _ _ _ _ _ _ _ _ _) (show sX8_errorPosition errorAt = errorAt9 from hE9.symm), M_errorPosition l Z E h9 w _ _ _ _ _ _ _ _ _ _ _ _ _ _ _ _ _ _ _ _ _ _ _ (show sX9_errorPosition errorAt9 = (errorAt9, 0) from rfl), (xI.mk hI)⟩
set_option maxRecDepth 100000 in
set_option maxHeartbeats 4000000 in
theorem C_push (l : Launch) (E : XE) (Z : XZ) (h h9 : Nat) (u w : Nat → Nat) {t : Int32} {W8 W9 : va_W} (hI : xI E h u h9 w t W8 W9) : xD2 l E Z h h9 u w yX8_push wsX8_push 1 yX9_push wsX9_push ({ frames := 4, cells := 0, slots := 0, locals := 90 }) [] W8 W9 := by
  obtain ⟨errorAt, used, en, met, start, rnext, kind, value, buf, nums, num, sits, tx, tv, ta1, ta2, tw1, tw2, next, size, f0, f1, length, textSize, start9, next9, token, value9, error, errorAt9, seen, tw, undos, text, rs, fs, tri, was, und, slo, now, told, sav, rfl, rfl, hI⟩ := hI
  have hI0 := hI
  obtain ⟨hT, hR, hS10, hMT, hE9, ⟨n, hn, hu1, hu2, hB⟩, ⟨nx, sz, hnx, hsz, hx1, hx2, hx3, hH⟩, hsv, hf0, hf1, hS12, hS13⟩ := hI0
  obtain ⟨b1, b2, b3, b4, rs8, fs8, e10, hrg, hV, hok⟩ := pb_Sof hS10
  exact ⟨_, 0, _, _, _, rfl, rfl, (Nat.le_of_ble_eq_true rfl), (Nat.le_of_ble_eq_true rfl), xA.val (L_push l Z E h u _ _ _ _ _ _ _ _ _ _ _ _ _ _ _ _ _ _ _ _ _ _) (by first | (rw [e10]; done) | (rw [e10]; rfl)), M_push l Z E h9 w _ _ _ _ _ _ _ _ _ _ _ _ _ _ _ _ _ _ _ _ _ _ _ (pc_push hT hR hV), (xI.mk hI)⟩
set_option maxRecDepth 100000 in
set_option maxHeartbeats 4000000 in
theorem C_stopReason (l : Launch) (E : XE) (Z : XZ) (h h9 : Nat) (u w : Nat → Nat) {t : Int32} {W8 W9 : va_W} (hI : xI E h u h9 w t W8 W9) : xD2 l E Z h h9 u w yX8_stopReason wsX8_stopReason 1 yX9_stopReason wsX9_stopReason ({ frames := 0, cells := 0, slots := 0, locals := 0 }) [] W8 W9 := by
  obtain ⟨errorAt, used, en, met, start, rnext, kind, value, buf, nums, num, sits, tx, tv, ta1, ta2, tw1, tw2, next, size, f0, f1, length, textSize, start9, next9, token, value9, error, errorAt9, seen, tw, undos, text, rs, fs, tri, was, und, slo, now, told, sav, rfl, rfl, hI⟩ := hI
  have hI0 := hI
  obtain ⟨hT, hR, hS10, hMT, hE9, ⟨n, hn, hu1, hu2, hB⟩, ⟨nx, sz, hnx, hsz, hx1, hx2, hx3, hH⟩, hsv, hf0, hf1, hS12, hS13⟩ := hI0
  obtain ⟨b1, b2, b3, b4, rs8, fs8, e10, hrg, hV, hok⟩ := pb_Sof hS10
  exact ⟨_, 0, _, _, _, rfl, rfl, (Nat.le_of_ble_eq_true rfl), (Nat.le_of_ble_eq_true rfl), xA.val (L_stopReason l Z E h u _ _ _ _ _ _ _ _ _ _ _ _ _ _ _ _ _ _ _ _ _ _) (by first | (rw [e10]; done) | (rw [e10]; rfl)), M_stopReason l Z E h9 w _ _ _ _ _ _ _ _ _ _ _ _ _ _ _ _ _ _ _ _ _ _ _ (show sX9_stopReason now = (now 9, 0) from rfl), (xI.mk hI)⟩
set_option maxRecDepth 100000 in
set_option maxHeartbeats 4000000 in
theorem C_regionSize (l : Launch) (E : XE) (Z : XZ) (h h9 : Nat) (u w : Nat → Nat) {t : Int32} {W8 W9 : va_W} (hI : xI E h u h9 w t W8 W9) : xD2 l E Z h h9 u w yX8_regionSize wsX8_regionSize 1 yX9_regionSize wsX9_regionSize ({ frames := 7, cells := 0, slots := 0, locals := 164 }) [] W8 W9 := by
  obtain ⟨errorAt, used, en, met, start, rnext, kind, value, buf, nums, num, sits, tx, tv, ta1, ta2, tw1, tw2, next, size, f0, f1, length, textSize, start9, next9, token, value9, error, errorAt9, seen, tw, undos, text, rs, fs, tri, was, und, slo, now, told, sav, rfl, rfl, hI⟩ := hI
  have hI0 := hI
  obtain ⟨hT, hR, hS10, hMT, hE9, ⟨n, hn, hu1, hu2, hB⟩, ⟨nx, sz, hnx, hsz, hx1, hx2, hx3, hH⟩, hsv, hf0, hf1, hS12, hS13⟩ := hI0
  obtain ⟨b1, b2, b3, b4, rs8, fs8, e10, hrg, hV, hok⟩ := pb_Sof hS10
  obtain ⟨q, q1, q2⟩ := pc_regionSize hT hR hV hok hMT tri
  exact ⟨_, 0, _, _, _, rfl, rfl, (Nat.le_of_ble_eq_true rfl), (Nat.le_of_ble_eq_true rfl), xA.val (L_regionSize l Z E h u _ _ _ _ _ _ _ _ _ _ _ _ _ _ _ _ _ _ _ _ _ _ (pf_c3 hR) (pf_c0 hR)) (by first | (rw [e10]; done) | (rw [e10]; rfl)), M_regionSize l Z E h9 w _ _ _ _ _ _ _ _ _ _ _ _ _ _ _ _ _ _ _ _ _ _ (pf_m3 hT hR) (pf_m0 hT hR) _ q1, (xI.mk ⟨hT, hR, hS10, q2, hE9, ⟨n, hn, hu1, hu2, hB⟩, ⟨nx, sz, hnx, hsz, hx1, hx2, hx3, hH⟩, hsv, hf0, hf1, hS12, hS13⟩)⟩
set_option maxRecDepth 100000 in
set_option maxHeartbeats 4000000 in
theorem C_cellsWith (l : Launch) (E : XE) (Z : XZ) (h h9 : Nat) (u w : Nat → Nat) {t : Int32} {W8 W9 : va_W} (hI : xI E h u h9 w t W8 W9) (p1 : Int32) : xD2 l E Z h h9 u w yX8_cellsWith wsX8_cellsWith 2 yX9_cellsWith wsX9_cellsWith ({ frames := 7, cells := 0, slots := 0, locals := 164 }) [.int p1] W8 W9 := by
  obtain ⟨errorAt, used, en, met, start, rnext, kind, value, buf, nums, num, sits, tx, tv, ta1, ta2, tw1, tw2, next, size, f0, f1, length, textSize, start9, next9, token, value9, error, errorAt9, seen, tw, undos, text, rs, fs, tri, was, und, slo, now, told, sav, rfl, rfl, hI⟩ := hI
  have hI0 := hI
  obtain ⟨hT, hR, hS10, hMT, hE9, ⟨n, hn, hu1, hu2, hB⟩, ⟨nx, sz, hnx, hsz, hx1, hx2, hx3, hH⟩, hsv, hf0, hf1, hS12, hS13⟩ := hI0
  obtain ⟨b1, b2, b3, b4, rs8, fs8, e10, hrg, hV, hok⟩ := pb_Sof hS10
  obtain ⟨q, q1, q2⟩ := pc_cellsWith hT hR hV hok hMT tri p1
  exact ⟨_, 0, _, _, _, rfl, rfl, (Nat.le_of_ble_eq_true rfl), (Nat.le_of_ble_eq_true rfl), xA.val (L_cellsWith l Z E h u _ _ _ _ _ _ _ _ _ _ _ _ _ _ _ _ _ _ _ _ _ _ p1 (pf_c3 hR) (pf_c0 hR)) (by first | (rw [e10]; done) | (rw [e10]; rfl)), M_cellsWith l Z E h9 w _ _ _ _ _ _ _ _ _ _ _ _ _ _ _ _ _ _ _ _ _ _ p1 (pf_m3 hT hR) (pf_m0 hT hR) _ q1, (xI.mk ⟨hT, hR, hS10, q2, hE9, ⟨n, hn, hu1, hu2, hB⟩, ⟨nx, sz, hnx, hsz, hx1, hx2, hx3, hH⟩, hsv, hf0, hf1, hS12, hS13⟩)⟩
set_option maxRecDepth 100000 in
set_option maxHeartbeats 4000000 in
theorem C_isCapturable (l : Launch) (E : XE) (Z : XZ) (h h9 : Nat) (u w : Nat → Nat) {t : Int32} {W8 W9 : va_W} (hI : xI E h u h9 w t W8 W9) : xD2 l E Z h h9 u w yX8_isCapturable wsX8_isCapturable 1 yX9_isCapturable wsX9_isCapturable ({ frames := 7, cells := 0, slots := 0, locals := 160 }) [] W8 W9 := by
  obtain ⟨errorAt, used, en, met, start, rnext, kind, value, buf, nums, num, sits, tx, tv, ta1, ta2, tw1, tw2, next, size, f0, f1, length, textSize, start9, next9, token, value9, error, errorAt9, seen, tw, undos, text, rs, fs, tri, was, und, slo, now, told, sav, rfl, rfl, hI⟩ := hI
  have hI0 := hI
  obtain ⟨hT, hR, hS10, hMT, hE9, ⟨n, hn, hu1, hu2, hB⟩, ⟨nx, sz, hnx, hsz, hx1, hx2, hx3, hH⟩, hsv, hf0, hf1, hS12, hS13⟩ := hI0
  obtain ⟨b1, b2, b3, b4, rs8, fs8, e10, hrg, hV, hok⟩ := pb_Sof hS10
  obtain ⟨q, q1, q2⟩ := pc_isCapturable hT hR hV hok hMT tri
  exact ⟨_, 0, _, _, _, rfl, rfl, (Nat.le_of_ble_eq_true rfl), (Nat.le_of_ble_eq_true rfl), xA.val (L_isCapturable l Z E h u _ _ _ _ _ _ _ _ _ _ _ _ _ _ _ _ _ _ _ _ _ _ (pf_z1 hR) (pf_z2 hR)) (by first | (rw [e10]; done) | (rw [e10]; rfl)), M_isCapturable l Z E h9 w _ _ _ _ _ _ _ _ _ _ _ _ _ _ _ _ _ _ _ _ _ _ (pf_w1 hT hR) (pf_w2 hT hR) (pf_m3 hT hR) (pf_m0 hT hR) _ q1, (xI.mk ⟨hT, hR, hS10, q2, hE9, ⟨n, hn, hu1, hu2, hB⟩, ⟨nx, sz, hnx, hsz, hx1, hx2, hx3, hH⟩, hsv, hf0, hf1, hS12, hS13⟩)⟩
set_option maxRecDepth 100000 in
set_option maxHeartbeats 4000000 in
theorem C_append (l : Launch) (E : XE) (Z : XZ) (h h9 : Nat) (u w : Nat → Nat) {t : Int32} {W8 W9 : va_W} (hI : xI E h u h9 w t W8 W9) (p1 p2 p3 p4 p5 : Int32) : xD2 l E Z h h9 u w yX8_append wsX8_append 6 yX9_append wsX9_append ({ frames := 1, cells := 0, slots := 0, locals := 22 }) [.int p1, .int p2, .int p3, .int p4, .int p5] W8 W9 := by
  obtain ⟨errorAt, used, en, met, start, rnext, kind, value, buf, nums, num, sits, tx, tv, ta1, ta2, tw1, tw2, next, size, f0, f1, length, textSize, start9, next9, token, value9, error, errorAt9, seen, tw, undos, text, rs, fs, tri, was, und, slo, now, told, sav, rfl, rfl, hI⟩ := hI
  have hI0 := hI
  obtain ⟨hT, hR, hS10, hMT, hE9, ⟨n, hn, hu1, hu2, hB⟩, ⟨nx, sz, hnx, hsz, hx1, hx2, hx3, hH⟩, hsv, hf0, hf1, hS12, hS13⟩ := hI0
  obtain ⟨b1, b2, b3, b4, rs8, fs8, e10, hrg, hV, hok⟩ := pb_Sof hS10
  subst hu1; subst hu2
  obtain ⟨v, n2, buf2, text2, a1, a2, a3, a4⟩ := pe_append hB hn p1 p2 p3 p4 p5
  exact ⟨_, 0, _, _, _, rfl, rfl, (Nat.le_of_ble_eq_true rfl), (Nat.le_of_ble_eq_true rfl), L_append l Z E h u _ _ _ _ _ _ _ _ _ _ _ _ _ _ _ _ _ _ _ _ _ _ p1 p2 p3 p4 p5 _ a1, M_append l Z E h9 w _ _ _ _ _ _ _ _ _ _ _ _ _ _ _ _ _ _ _ _ _ _ p1 p2 p3 p4 p5 (by rw [nI_toInt (by omega)]; omega) (by rw [nI_toInt (by omega)]; omega) _ a2, (xI.mk ⟨hT, hR, hS10, hMT, hE9, ⟨n2, a3, rfl, rfl, a4⟩, ⟨nx, sz, hnx, hsz, hx1, hx2, hx3, hH⟩, hsv, hf0, hf1, hS12, hS13⟩)⟩
set_option maxRecDepth 100000 in
set_option maxHeartbeats 4000000 in
theorem C_undo (l : Launch) (E : XE) (Z : XZ) (h h9 : Nat) (u w : Nat → Nat) {t : Int32} {W8 W9 : va_W} (hI : xI E h u h9 w t W8 W9) : xD2 l E Z h h9 u w yX8_undo wsX8_undo 1 yX9_undo wsX9_undo ({ frames := 1, cells := 0, slots := 0, locals := 25 }) [] W8 W9 := by
  obtain ⟨errorAt, used, en, met, start, rnext, kind, value, buf, nums, num, sits, tx, tv, ta1, ta2, tw1, tw2, next, size, f0, f1, length, textSize, start9, next9, token, value9, error, errorAt9, seen, tw, undos, text, rs, fs, tri, was, und, slo, now, told, sav, rfl, rfl, hI⟩ := hI
  have hI0 := hI
  obtain ⟨hT, hR, hS10, hMT, hE9, ⟨n, hn, hu1, hu2, hB⟩, ⟨nx, sz, hnx, hsz, hx1, hx2, hx3, hH⟩, hsv, hf0, hf1, hS12, hS13⟩ := hI0
  obtain ⟨b1, b2, b3, b4, rs8, fs8, e10, hrg, hV, hok⟩ := pb_Sof hS10
  subst hx1; subst hx2; subst hx3
  by_cases hz : sz = 0
  · subst hz
    exact ⟨_, 0, _, _, _, rfl, rfl, (Nat.le_of_ble_eq_true rfl), (Nat.le_of_ble_eq_true rfl), L_undo_none l Z E h u _ _ _ _ _ _ _ _ _ _ _ _ _ _ _ _ _ _ _ _ _ nx hnx rfl, M_undo l Z E h9 w _ _ _ _ _ _ _ _ _ _ _ _ _ _ _ _ _ _ _ _ _ _ (pf_u0 hsz) (pf_u1 hsz) _ (pc_undo0 now und), (xI.mk ⟨hT, hR, hS10, hMT, hE9, ⟨n, hn, hu1, hu2, hB⟩, ⟨nx, 0, hnx, hsz, rfl, rfl, rfl, hH⟩, hsv, hf0, hf1, hS12, hS13⟩)⟩
  · have h0 : 0 < sz := Nat.pos_of_ne_zero hz
    obtain ⟨k1, k2⟩ := pb_HU hnx hsz h0 (now := now) hH
    exact ⟨_, 0, _, _, _, rfl, rfl, (Nat.le_of_ble_eq_true rfl), (Nat.le_of_ble_eq_true rfl), L_undo_some l Z E h u _ _ _ _ _ _ _ _ _ _ _ _ _ _ _ _ _ _ _ _ _ nx hnx (fun z => hz (by have z2 := congrArg Int32.toInt z; rw [nI_toInt (by omega), Int32.toInt_zero] at z2; omega)) _ (show sX8_undo_some (nI nx) (nI sz) = (nI (sz - 1), nI ((nx + 9) % 10), nI (sz - 1)) from by unfold sX8_undo_some; rw [pb_undoC hnx hsz h0]; rfl), M_undo l Z E h9 w _ _ _ _ _ _ _ _ _ _ _ _ _ _ _ _ _ _ _ _ _ _ (pf_u0 hsz) (pf_u1 hsz) _ (pb_undoM hsz h0 now und), (xI.mk ⟨hT, hR, (pb_Srow (pb_R3 hR) k1 _ _), hMT, hE9, ⟨n, hn, hu1, hu2, hB⟩, ⟨(nx + 9) % 10, sz - 1, Nat.mod_lt _ (by decide), by omega, rfl, rfl, rfl, k2 _ (fun j hj => if_neg (by omega))⟩, hsv, hf0, hf1, hS12, hS13⟩)⟩
