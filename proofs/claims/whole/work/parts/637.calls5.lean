/-! one row a call: snapshots, the plant's text -/
theorem pf_sv {sav : Nat → Int32} (h : ∀ k, sav k = 0 ∨ sav k = 1) (j : Nat) : ∀ k, upd sav j 1 k = 0 ∨ upd sav j 1 k = 1 := fun k => by
  unfold upd
  split
  · exact Or.inr rfl
  · exact h k
theorem pf_in0 (now slo : Nat → Int32) : ∀ k, k < 214 → pb_lay now slo 0 0 214 k = now k := fun k hk => (pb_layIn (by omega) (by omega)).trans (congrArg now (by omega))
theorem pf_in1 (now slo : Nat → Int32) : ∀ k, k < 214 → pb_lay now slo 0 214 214 (214 + k) = now k := fun k hk => (pb_layIn (by omega) (by omega)).trans (congrArg now (by omega))
theorem pf_out0 (now slo : Nat → Int32) : ∀ k, k < 214 → pb_lay now slo 0 0 214 (214 + k) = slo (214 + k) := fun k hk => pb_layOut (by omega)
theorem pf_out1 (now slo : Nat → Int32) : ∀ k, k < 214 → pb_lay now slo 0 214 214 k = slo k := fun k hk => pb_layOut (by omega)
theorem pf_in2 (now slo : Nat → Int32) : ∀ k, k < 214 → pb_lay slo now 214 0 214 k = slo (214 + k) := fun k hk => (pb_layIn (by omega) (by omega)).trans (congrArg slo (by omega))
set_option maxRecDepth 100000 in
set_option maxHeartbeats 4000000 in
theorem C_saveSnapshot (l : Launch) (hst : l.stackTraces = false) (E : XE) (Z : XZ) (cL : ClassId) (h h9 o : Nat) (u w : Nat → Nat) (g : Nat → Int64) {t : Int32} {W8 W9 : va_W} (hI : xI E h u h9 w t W8 W9) (p1 : Int32) : xC l E Z cL h h9 o u w yL_saveSnapshot wsL_saveSnapshot yX9_saveSnapshot wsX9_saveSnapshot ({ frames := 2, cells := 0, slots := 0, locals := 43 }) [.int p1] W8 W9 g (fun b : Int32 => .int b) (fun b => if b = 0 then 0 else 1) := by
  obtain ⟨errorAt, used, en, met, start, rnext, kind, value, buf, nums, num, sits, tx, tv, ta1, ta2, tw1, tw2, next, size, f0, f1, length, textSize, start9, next9, token, value9, error, errorAt9, seen, tw, undos, text, rs, fs, tri, was, und, slo, now, told, sav, rfl, rfl, hI⟩ := hI
  have hI0 := hI
  obtain ⟨hT, hR, hS10, hMT, hE9, ⟨n, hn, hu1, hu2, hB⟩, ⟨nx, sz, hnx, hsz, hx1, hx2, hx3, hH⟩, hsv, hf0, hf1, hS12, hS13⟩ := hI0
  obtain ⟨b1, b2, b3, b4, rs8, fs8, e10, hrg, hV, hok⟩ := pb_Sof hS10
  subst hf0; subst hf1
  by_cases p1A : p1 < 0
  · exact ⟨1, _, g, _, _, w_saveSnapshot_c1 l E Z cL _ h o _ g _ p1 (L_saveSnapshot_x1 l E h u _ _ _ _ _ _ _ _ _ _ _ _ _ _ _ _ _ _ _ _ _ _ p1 hst (Or.inl p1A)) rfl rfl (Nat.le_of_ble_eq_true rfl) (Nat.le_of_ble_eq_true rfl) rfl, M_saveSnapshot l Z E h9 w _ _ _ _ _ _ _ _ _ _ _ _ _ _ _ _ _ _ _ _ _ _ p1 hsv _ (pc_saveX _ _ _ (Or.inl p1A)), (xI.mk hI), fun z => absurd z (by decide)⟩
  by_cases p1B : p1 ≤ 1
  rotate_left
  · exact ⟨1, _, g, _, _, w_saveSnapshot_c1 l E Z cL _ h o _ g _ p1 (L_saveSnapshot_x1 l E h u _ _ _ _ _ _ _ _ _ _ _ _ _ _ _ _ _ _ _ _ _ _ p1 hst (Or.inr p1B)) rfl rfl (Nat.le_of_ble_eq_true rfl) (Nat.le_of_ble_eq_true rfl) rfl, M_saveSnapshot l Z E h9 w _ _ _ _ _ _ _ _ _ _ _ _ _ _ _ _ _ _ _ _ _ _ p1 hsv _ (pc_saveX _ _ _ (Or.inr p1B)), (xI.mk hI), fun z => absurd z (by decide)⟩
  rcases pc_slot p1A p1B with rfl | rfl
  · exact ⟨0, _, _, _, _, w_saveSnapshot l E Z cL _ _ h o _ g _ 0 _ (L_save0 l Z E h u _ _ _ _ _ _ _ _ _ _ _ _ _ _ _ _ _ _ _ _ _ _ 0 p1A p1B rfl (hsv 0) (sav 0) rfl) rfl rfl (Nat.le_of_ble_eq_true rfl) (Nat.le_of_ble_eq_true rfl) rfl, M_saveSnapshot l Z E h9 w _ _ _ _ _ _ _ _ _ _ _ _ _ _ _ _ _ _ _ _ _ _ 0 hsv _ (pc_save0 now slo sav), (xI.mk ⟨hT, hR, hS10, hMT, hE9, ⟨n, hn, hu1, hu2, hB⟩, ⟨nx, sz, hnx, hsz, hx1, hx2, hx3, (pb_Hc hH (fun j hj => if_neg (by omega)))⟩, pf_sv hsv 0, rfl, rfl, (fun _ => pb_Scong (pf_in0 now slo) (pb_Srow (pb_R3 hR) hS10 _ _)), (fun z => pb_Scong (pf_out0 now slo) (hS13 z))⟩), (fun _ => x_u0 _ _)⟩
  · exact ⟨0, _, _, _, _, w_saveSnapshot l E Z cL _ _ h o _ g _ 1 _ (L_save1 l Z E h u _ _ _ _ _ _ _ _ _ _ _ _ _ _ _ _ _ _ _ _ _ _ 1 p1A p1B (by decide) (hsv 1) (sav 1) rfl) rfl rfl (Nat.le_of_ble_eq_true rfl) (Nat.le_of_ble_eq_true rfl) rfl, M_saveSnapshot l Z E h9 w _ _ _ _ _ _ _ _ _ _ _ _ _ _ _ _ _ _ _ _ _ _ 1 hsv _ (pc_save1 now slo sav), (xI.mk ⟨hT, hR, hS10, hMT, hE9, ⟨n, hn, hu1, hu2, hB⟩, ⟨nx, sz, hnx, hsz, hx1, hx2, hx3, (pb_Hc hH (fun j hj => if_neg (by omega)))⟩, pf_sv hsv 1, rfl, rfl, (fun z => pb_Scong (pf_out1 now slo) (hS12 z)), (fun _ => pb_Scong (pf_in1 now slo) (pb_Srow (pb_R3 hR) hS10 _ _))⟩), (fun _ => x_u0 _ _)⟩
set_option maxRecDepth 100000 in
set_option maxHeartbeats 4000000 in
theorem C_restoreSnapshot (l : Launch) (hst : l.stackTraces = false) (E : XE) (Z : XZ) (cL : ClassId) (h h9 o : Nat) (u w : Nat → Nat) (g : Nat → Int64) {t : Int32} {W8 W9 : va_W} (hI : xI E h u h9 w t W8 W9) (p1 : Int32) : xC l E Z cL h h9 o u w yL_restoreSnapshot wsL_restoreSnapshot yX9_restoreSnapshot wsX9_restoreSnapshot ({ frames := 2, cells := 0, slots := 0, locals := 43 }) [.int p1] W8 W9 g (fun b : Int32 => .int b) (fun b => b.toInt64) := by
  obtain ⟨errorAt, used, en, met, start, rnext, kind, value, buf, nums, num, sits, tx, tv, ta1, ta2, tw1, tw2, next, size, f0, f1, length, textSize, start9, next9, token, value9, error, errorAt9, seen, tw, undos, text, rs, fs, tri, was, und, slo, now, told, sav, rfl, rfl, hI⟩ := hI
  have hI0 := hI
  obtain ⟨hT, hR, hS10, hMT, hE9, ⟨n, hn, hu1, hu2, hB⟩, ⟨nx, sz, hnx, hsz, hx1, hx2, hx3, hH⟩, hsv, hf0, hf1, hS12, hS13⟩ := hI0
  obtain ⟨b1, b2, b3, b4, rs8, fs8, e10, hrg, hV, hok⟩ := pb_Sof hS10
  subst hf0; subst hf1
  by_cases p1A : p1 < 0
  · exact ⟨1, _, g, _, _, w_restoreSnapshot_c1 l E Z cL _ h o _ g _ p1 (L_restoreSnapshot_x1 l E h u _ _ _ _ _ _ _ _ _ _ _ _ _ _ _ _ _ _ _ _ _ _ p1 hst (Or.inl p1A)) rfl rfl (Nat.le_of_ble_eq_true rfl) (Nat.le_of_ble_eq_true rfl) rfl, M_restoreSnapshot l Z E h9 w _ _ _ _ _ _ _ _ _ _ _ _ _ _ _ _ _ _ _ _ _ _ p1  _ (pc_restX1 _ _ _ _ (Or.inl p1A)), (xI.mk hI), fun z => absurd z (by decide)⟩
  by_cases p1B : p1 ≤ 1
  rotate_left
  · exact ⟨1, _, g, _, _, w_restoreSnapshot_c1 l E Z cL _ h o _ g _ p1 (L_restoreSnapshot_x1 l E h u _ _ _ _ _ _ _ _ _ _ _ _ _ _ _ _ _ _ _ _ _ _ p1 hst (Or.inr p1B)) rfl rfl (Nat.le_of_ble_eq_true rfl) (Nat.le_of_ble_eq_true rfl) rfl, M_restoreSnapshot l Z E h9 w _ _ _ _ _ _ _ _ _ _ _ _ _ _ _ _ _ _ _ _ _ _ p1  _ (pc_restX1 _ _ _ _ (Or.inr p1B)), (xI.mk hI), fun z => absurd z (by decide)⟩
  rcases pc_slot p1A p1B with rfl | rfl
  · by_cases c : sav 0 = 0
    · exact ⟨2, _, g, _, _, w_restoreSnapshot_c2 l E Z cL _ h o _ g _ 0 (L_restoreSnapshot_x20 l E h u _ _ _ _ _ _ _ _ _ _ _ _ _ _ _ _ _ _ _ _ _ _ 0 hst p1A p1B rfl c) rfl rfl (Nat.le_of_ble_eq_true rfl) (Nat.le_of_ble_eq_true rfl) rfl, M_restoreSnapshot l Z E h9 w _ _ _ _ _ _ _ _ _ _ _ _ _ _ _ _ _ _ _ _ _ _ 0  _ (pc_restX20 _ _ _ _ c), (xI.mk hI), fun z => absurd z (by decide)⟩
    · have hS := hS12 c
      obtain ⟨c1, c2, c3, c4, rs1, fs1, e1, -, -, -⟩ := pb_Sof hS
      exact ⟨0, _, _, _, _, w_restoreSnapshot l E Z cL _ _ h o _ g _ 0 _ (L_restore0 l Z E h u _ _ _ _ _ _ _ _ _ _ _ _ _ _ _ _ _ _ _ _ _ _ 0 p1A p1B rfl c _ (show sX8_restoreSnapshot_ok0 ((sits 12).1.2.2.2.2.2.2.1) = (sits 12).1.2.2.2.2.2.2.1 from rfl)) rfl rfl (Nat.le_of_ble_eq_true rfl) (Nat.le_of_ble_eq_true rfl) rfl, M_restoreSnapshot l Z E h9 w _ _ _ _ _ _ _ _ _ _ _ _ _ _ _ _ _ _ _ _ _ _ 0  _ (pc_rest0 _ now slo sav c), (xI.mk ⟨hT, hR, (pb_Scong (pf_in0 slo now) (pb_Srow (pb_R3 hR) hS _ _)), hMT, hE9, ⟨n, hn, hu1, hu2, hB⟩, ⟨nx, 0, hnx, by omega, hx1, rfl, rfl, fun k hk => absurd hk (Nat.not_lt_zero _)⟩, hsv, rfl, rfl, hS12, hS13⟩), (fun _ => (x_u0 _ _).trans (congrArg Int32.toInt64 (by first | (rw [e1]; done) | (rw [e1]; rfl))))⟩
  · by_cases c : sav 1 = 0
    · exact ⟨2, _, g, _, _, w_restoreSnapshot_c2 l E Z cL _ h o _ g _ 1 (L_restoreSnapshot_x21 l E h u _ _ _ _ _ _ _ _ _ _ _ _ _ _ _ _ _ _ _ _ _ _ 1 hst p1A p1B (by decide) c) rfl rfl (Nat.le_of_ble_eq_true rfl) (Nat.le_of_ble_eq_true rfl) rfl, M_restoreSnapshot l Z E h9 w _ _ _ _ _ _ _ _ _ _ _ _ _ _ _ _ _ _ _ _ _ _ 1  _ (pc_restX21 _ _ _ _ c), (xI.mk hI), fun z => absurd z (by decide)⟩
    · have hS := hS13 c
      obtain ⟨c1, c2, c3, c4, rs1, fs1, e1, -, -, -⟩ := pb_Sof hS
      exact ⟨0, _, _, _, _, w_restoreSnapshot l E Z cL _ _ h o _ g _ 1 _ (L_restore1 l Z E h u _ _ _ _ _ _ _ _ _ _ _ _ _ _ _ _ _ _ _ _ _ _ 1 p1A p1B (by decide) c _ (show sX8_restoreSnapshot_ok1 ((sits 13).1.2.2.2.2.2.2.1) = (sits 13).1.2.2.2.2.2.2.1 from rfl)) rfl rfl (Nat.le_of_ble_eq_true rfl) (Nat.le_of_ble_eq_true rfl) rfl, M_restoreSnapshot l Z E h9 w _ _ _ _ _ _ _ _ _ _ _ _ _ _ _ _ _ _ _ _ _ _ 1  _ (pc_rest1 _ now slo sav c), (xI.mk ⟨hT, hR, (pb_Scong (pf_in2 now slo) (pb_Srow (pb_R3 hR) hS _ _)), hMT, hE9, ⟨n, hn, hu1, hu2, hB⟩, ⟨nx, 0, hnx, by omega, hx1, rfl, rfl, fun k hk => absurd hk (Nat.not_lt_zero _)⟩, hsv, rfl, rfl, hS12, hS13⟩), (fun _ => (x_u0 _ _).trans (congrArg Int32.toInt64 (by first | (rw [e1]; done) | (rw [e1]; rfl))))⟩
theorem pf_sv0 {sav : Nat → Int32} (h : ∀ k, sav k = 0 ∨ sav k = 1) : ∀ k, upd (upd sav 0 0) 1 0 k = 0 ∨ upd (upd sav 0 0) 1 0 k = 1 := fun k => by
  unfold upd
  split
  · exact Or.inl rfl
  · split
    · exact Or.inl rfl
    · exact h k
set_option maxRecDepth 100000 in
set_option maxHeartbeats 4000000 in
theorem C_parse (l : Launch) (hst : l.stackTraces = false) (E : XE) (Z : XZ) (cL : ClassId) (h h9 o : Nat) (u w : Nat → Nat) (g : Nat → Int64) {t : Int32} {W8 W9 : va_W} (hI : xI E h u h9 w t W8 W9) (p1 : Int32) : xC l E Z cL h h9 o u w yL_parse wsL_parse yX9_parse wsX9_parse ({ frames := 6, cells := 0, slots := 0, locals := 128 }) [.int p1] W8 W9 g (fun b : Int32 => .int b) (fun b => b.toInt64) := by
  obtain ⟨errorAt, used, en, met, start, rnext, kind, value, buf, nums, num, sits, tx, tv, ta1, ta2, tw1, tw2, next, size, f0, f1, length, textSize, start9, next9, token, value9, error, errorAt9, seen, tw, undos, text, rs, fs, tri, was, und, slo, now, told, sav, rfl, rfl, hI⟩ := hI
  have hI0 := hI
  obtain ⟨hT, hR, hS10, hMT, hE9, ⟨n, hn, hu1, hu2, hB⟩, ⟨nx, sz, hnx, hsz, hx1, hx2, hx3, hH⟩, hsv, hf0, hf1, hS12, hS13⟩ := hI0
  obtain ⟨b1, b2, b3, b4, rs8, fs8, e10, hrg, hV, hok⟩ := pb_Sof hS10
  subst hu1; subst hu2
  by_cases p1A : p1 < 0
  · exact ⟨1, _, g, _, _, w_parse_c1 l E Z cL _ h o _ g _ p1 (L_parse_x1 l E h u _ _ _ _ _ _ _ _ _ _ _ _ _ _ _ _ _ _ _ _ _ _ p1 hst (Or.inl p1A)) rfl rfl (Nat.le_of_ble_eq_true rfl) (Nat.le_of_ble_eq_true rfl) rfl, M_parse l Z E h9 w _ _ _ _ _ _ _ _ _ _ _ _ _ _ _ _ _ _ _ _ _ _ p1 (by rw [nI_toInt (by omega)]; omega) _ (show sX9_parse (nI n) textSize start9 next9 token value9 error errorAt9 seen tw undos text told now sav p1 = (0, 1, nI n, textSize, start9, next9, token, value9, error, errorAt9, seen, undos, tw, told, now, sav) from by unfold sX9_parse; rw [if_pos (pb_w0 (Or.inl p1A))]), (xI.mk hI), fun z => absurd z (by decide)⟩
  by_cases p1B : p1 ≤ nI n
  rotate_left
  · exact ⟨1, _, g, _, _, w_parse_c1 l E Z cL _ h o _ g _ p1 (L_parse_x1 l E h u _ _ _ _ _ _ _ _ _ _ _ _ _ _ _ _ _ _ _ _ _ _ p1 hst (Or.inr p1B)) rfl rfl (Nat.le_of_ble_eq_true rfl) (Nat.le_of_ble_eq_true rfl) rfl, M_parse l Z E h9 w _ _ _ _ _ _ _ _ _ _ _ _ _ _ _ _ _ _ _ _ _ _ p1 (by rw [nI_toInt (by omega)]; omega) _ (show sX9_parse (nI n) textSize start9 next9 token value9 error errorAt9 seen tw undos text told now sav p1 = (0, 1, nI n, textSize, start9, next9, token, value9, error, errorAt9, seen, undos, tw, told, now, sav) from by unfold sX9_parse; rw [if_pos (pb_w0 (Or.inr p1B))]), (xI.mk hI), fun z => absurd z (by decide)⟩
  have hin := pb_w1 p1A p1B
  obtain ⟨m, hm, rfl⟩ := nI_of2 (M := nI n) (n := n) (nI_toInt (by omega)) p1A p1B
  have hB2 : pq_B m buf text := fun k hk => hB k (by omega)
  obtain ⟨cd, ct, ck, nn, r1, r2⟩ := pe_parse hB2 (by omega) value nums told (nI n) textSize start9 next9 token value9 error errorAt9 seen tw undos now sav hin
  rcases r2 with ⟨z0, zR, a, td, zD, zM⟩ | ⟨z0, a, td, zL, zM⟩
  · subst z0
    have hR2 : pb_R (va_cpy nn num 0 0 24) := pe_okOf (fun k hk => pb_cpyLo hk) zR
    obtain ⟨rs2, fs2, tr2, s1, s2⟩ := pe_start hR2 ((sits 10).2.2.2.1) ((sits 10).2.2.2.2) tx tv ta1 ta2 tw1 tw2
    obtain ⟨now2, n1, n2, n3, n4, n5⟩ := pe_begins now (sX9_lifts td) sav
    have hT2 : pb_T (sX9_lifts td) (va_cpy nn num 0 0 24) := fun k hk => by rw [pe_lifts td k hk, pb_cpyLo hk]; exact (zD k hk).symm
    have n2b : now2 5 = va_cpy nn num 0 0 24 7 := n2.trans (hT2 7 (by decide))
    have hSn := pe_fresh hR2 s2 n2b n3 n4 n5
    rw [n1] at zM
    have hq : sX8_parse_good num value buf nums ((sits 10).2.2.2.1) ((sits 10).2.2.2.2) tx tv ta1 ta2 tw1 tw2 (nI m) = (0, 0, 2048, 2048, 0, 0, 0, 0, 0, va_cpy nn num 0 0 24 7, 0, 0, 0, 0, 0, 0, 0, 0, rs2, fs2, tr2.1, tr2.2.1, tr2.2.2.1, tr2.2.2.2.1, tr2.2.2.2.2.1, tr2.2.2.2.2.2, ct, ck.1, ck.2.1, ck.2.2.1, ck.2.2.2, nn, va_cpy nn num 0 0 24) := by
      unfold sX8_parse_good
      rw [r1]
      dsimp only
      rw [s1]
    exact ⟨0, _, _, _, _, w_parse l E Z cL _ _ h o _ g _ (nI m) _ (L_parse_good l Z E h u _ _ _ _ _ _ _ _ _ _ _ _ _ _ _ _ _ _ _ _ _ _ (nI m) p1A p1B (by rw [r1]) (by rw [r1]; exact pf_c3 hR2) (by rw [r1]; exact pf_c0 hR2) _ hq) rfl rfl (Nat.le_of_ble_eq_true rfl) (Nat.le_of_ble_eq_true rfl) rfl, M_parse l Z E h9 w _ _ _ _ _ _ _ _ _ _ _ _ _ _ _ _ _ _ _ _ _ _ (nI m) (by rw [nI_toInt (by omega)]; omega) _ zM, (xI.mk ⟨hT2, hR2, hSn, (Or.inl rfl), rfl, ⟨0, by omega, rfl, rfl, fun k hk => absurd hk (Nat.not_lt_zero _)⟩, ⟨nx, 0, hnx, by omega, hx1, rfl, rfl, fun k hk => absurd hk (Nat.not_lt_zero _)⟩, pf_sv0 hsv, rfl, rfl, fun z => absurd rfl z, fun z => absurd rfl z⟩), (fun _ => x_u0 _ _)⟩
  · have hT2 : pb_T td num := fun k hk => (zL k hk).trans (hT k hk)
    have hq : sX8_parse_err value buf nums (nI m) = (cd, ck.1, ct, ck.1, ck.2.1, ck.2.2.1, ck.2.2.2, nn) := by
      unfold sX8_parse_err
      rw [r1]
    exact ⟨0, _, _, _, _, w_parse l E Z cL _ _ h o _ g _ (nI m) _ (L_parse_err l Z E h u _ _ _ _ _ _ _ _ _ _ _ _ _ _ _ _ _ _ _ _ _ _ (nI m) p1A p1B (by rw [r1]; exact z0) _ hq) rfl rfl (Nat.le_of_ble_eq_true rfl) (Nat.le_of_ble_eq_true rfl) rfl, M_parse l Z E h9 w _ _ _ _ _ _ _ _ _ _ _ _ _ _ _ _ _ _ _ _ _ _ (nI m) (by rw [nI_toInt (by omega)]; omega) _ zM, (xI.mk ⟨hT2, hR, hS10, hMT, rfl, ⟨0, by omega, rfl, rfl, fun k hk => absurd hk (Nat.not_lt_zero _)⟩, ⟨nx, sz, hnx, hsz, hx1, hx2, hx3, hH⟩, hsv, hf0, hf1, hS12, hS13⟩), (fun _ => x_u0 _ _)⟩
