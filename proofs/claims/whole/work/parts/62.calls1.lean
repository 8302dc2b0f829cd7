/-! class and reference side by side: what holds between two calls; one row a call -/
theorem pf_two {x : Int32} (h1 : 1 ≤ x.toInt) (h2 : x.toInt ≤ 500) : ¬ 2 * x = 0 := fun e => by
  have h := congrArg Int32.toInt e
  have k2 : (2 : Int32).toInt = 2 := by decide
  rw [x_mulI (by rw [k2]; omega) (by rw [k2]; omega), k2, Int32.toInt_zero] at h
  omega
theorem pf_15 {num : Nat → Int32} (hR : pb_R num) : ¬ 2 * num 15 = 0 := pf_two (hR 15 (by decide)).1 (hR 15 (by decide)).2
theorem pf_16 {num : Nat → Int32} (hR : pb_R num) : ¬ 2 * num 16 = 0 := pf_two (hR 16 (by decide)).1 (hR 16 (by decide)).2
theorem pf_z1 {num : Nat → Int32} (hR : pb_R num) : 0 < sX2_number num 15 → ¬ 2 * sX2_number num 15 = 0 := fun _ => by rw [pb_n15]; exact pf_15 hR
theorem pf_z2 {num : Nat → Int32} (hR : pb_R num) : 0 < sX2_number num 16 → ¬ 2 * sX2_number num 16 = 0 := fun _ => by rw [pb_n16]; exact pf_16 hR
theorem pf_c3 {num : Nat → Int32} (hR : pb_R num) : sX2_number num 17 ≤ 3 := by rw [pb_n17, Int32.le_iff_toInt_le]; exact (hR 17 (by decide)).2
theorem pf_c0 {num : Nat → Int32} (hR : pb_R num) : 0 ≤ sX2_number num 17 := by rw [pb_n17, Int32.le_iff_toInt_le]; exact (hR 17 (by decide)).1
theorem pf_w1 {told num : Nat → Int32} (hT : pb_T told num) (hR : pb_R num) : ¬ 2 * told 15 = 0 := by rw [hT 15 (by decide)]; exact pf_15 hR
theorem pf_w2 {told num : Nat → Int32} (hT : pb_T told num) (hR : pb_R num) : ¬ 2 * told 16 = 0 := by rw [hT 16 (by decide)]; exact pf_16 hR
theorem pf_m3 {told num : Nat → Int32} (hT : pb_T told num) (hR : pb_R num) : told 17 ≤ 3 := by rw [hT 17 (by decide), Int32.le_iff_toInt_le]; exact (hR 17 (by decide)).2
theorem pf_m0 {told num : Nat → Int32} (hT : pb_T told num) (hR : pb_R num) : 0 ≤ told 17 := by rw [hT 17 (by decide), Int32.le_iff_toInt_le]; exact (hR 17 (by decide)).1
theorem pf_T1 {now : Nat → Int32} (hV : pb_V 9999 now) : (now 0).toInt ≤ 100000 := Int.le_trans hV.1.2 (by decide)
theorem pf_a0 {now : Nat → Int32} (hV : pb_V 9999 now) : 0 ≤ now 10 := by rw [Int32.le_iff_toInt_le, Int32.toInt_zero]; exact hV.2.2.1.1.1.1
theorem pf_a1 {now : Nat → Int32} (hV : pb_V 9999 now) : now 10 < 4096 := by rw [Int32.lt_iff_toInt_lt]; exact hV.2.2.1.1.1.2
theorem pf_b0 {now : Nat → Int32} (hV : pb_V 9999 now) : 0 ≤ now 11 := by rw [Int32.le_iff_toInt_le, Int32.toInt_zero]; exact hV.2.2.1.1.2.1
theorem pf_b1 {now : Nat → Int32} (hV : pb_V 9999 now) : now 11 < 4096 := by rw [Int32.lt_iff_toInt_lt]; exact hV.2.2.1.1.2.2
theorem pf_u0 {sz : Nat} (h : sz ≤ 10) : 0 ≤ nI sz := by rw [Int32.le_iff_toInt_le, nI_toInt (by omega), Int32.toInt_zero]; omega
theorem pf_u1 {sz : Nat} (h : sz ≤ 10) : nI sz ≤ 10 := by
  have k : (10 : Int32).toInt = 10 := by decide
  rw [Int32.le_iff_toInt_le, nI_toInt (by omega), k]
  omega
theorem x_u0 (g : Nat → Int64) (x : Int64) : vp_updL g (Int32.toNatClampNeg 0) x 0 = x := if_pos rfl
def pb_I (num : Nat → Int32) (sits : Nat → pbSit) (errorAt used next size f0 f1 : Int32) (buf : Nat → Int32) (length errorAt9 tw undos : Int32) (text rs fs und slo now told sav : Nat → Int32) : Prop :=
  pb_T told num ∧ pb_R num ∧ pb_S num (sits 10) now ∧ pb_MT num tw rs fs ∧ errorAt9 = errorAt ∧ (∃ n, n ≤ 500 ∧ used = nI n ∧ length = nI n ∧ pq_B n buf text) ∧ (∃ nx sz, nx < 10 ∧ sz ≤ 10 ∧ next = nI nx ∧ size = nI sz ∧ undos = nI sz ∧ pb_H num sits nx sz und) ∧ (∀ k, sav k = 0 ∨ sav k = 1) ∧ f0 = sav 0 ∧ f1 = sav 1 ∧ (¬ f0 = 0 → pb_S num (sits 12) slo) ∧ (¬ f1 = 0 → pb_S num (sits 13) (fun k => slo (214 + k)))
def xI (E : XE) (h : Nat) (u : Nat → Nat) (h9 : Nat) (w : Nat → Nat) (t : Int32) (W8 W9 : va_W) : Prop := ∃ (errorAt used en met start rnext kind value : Int32) (buf nums num : Nat → Int32) (sits : Nat → pbSit) (tx tv ta1 ta2 tw1 tw2 next size f0 f1 : Int32) (length textSize start9 next9 token value9 error errorAt9 seen tw undos : Int32) (text rs fs tri was und slo now told sav : Nat → Int32), W8 = (xW8 E h u errorAt used en met start rnext kind value buf nums num sits tx tv ta1 ta2 tw1 tw2 next size f0 f1) ∧ W9 = (xW9 E h9 w t length textSize start9 next9 token value9 error errorAt9 seen tw undos text rs fs tri was und slo now told sav) ∧ pb_I num sits errorAt used next size f0 f1 buf length errorAt9 tw undos text rs fs und slo now told sav
section XI
variable {E : XE} {h : Nat} {u : Nat → Nat} {h9 : Nat} {w : Nat → Nat} {t : Int32}
theorem xI.mk {errorAt used en met start rnext kind value : Int32} {buf nums num : Nat → Int32} {sits : Nat → pbSit} {tx tv ta1 ta2 tw1 tw2 next size f0 f1 : Int32} {length textSize start9 next9 token value9 error errorAt9 seen tw undos : Int32} {text rs fs tri was und slo now told sav : Nat → Int32} (hI : pb_I num sits errorAt used next size f0 f1 buf length errorAt9 tw undos text rs fs und slo now told sav) : xI E h u h9 w t (xW8 E h u errorAt used en met start rnext kind value buf nums num sits tx tv ta1 ta2 tw1 tw2 next size f0 f1) (xW9 E h9 w t length textSize start9 next9 token value9 error errorAt9 seen tw undos text rs fs tri was und slo now told sav) := ⟨errorAt, used, en, met, start, rnext, kind, value, buf, nums, num, sits, tx, tv, ta1, ta2, tw1, tw2, next, size, f0, f1, length, textSize, start9, next9, token, value9, error, errorAt9, seen, tw, undos, text, rs, fs, tri, was, und, slo, now, told, sav, rfl, rfl, hI⟩
theorem xI.hd8 {W8 W9 : va_W} (hI : xI E h u h9 w t W8 W9) : ∃ fs, W8[0]? = some (h, .inr (8, fs)) := by
  obtain ⟨errorAt, used, en, met, start, rnext, kind, value, buf, nums, num, sits, tx, tv, ta1, ta2, tw1, tw2, next, size, f0, f1, length, textSize, start9, next9, token, value9, error, errorAt9, seen, tw, undos, text, rs, fs, tri, was, und, slo, now, told, sav, rfl, rfl, -⟩ := hI
  exact ⟨_, rfl⟩
theorem xI.hd9 {W8 W9 : va_W} (hI : xI E h u h9 w t W8 W9) : ∃ fs, W9[0]? = some (h9, .inr (9, fs)) := by
  obtain ⟨errorAt, used, en, met, start, rnext, kind, value, buf, nums, num, sits, tx, tv, ta1, ta2, tw1, tw2, next, size, f0, f1, length, textSize, start9, next9, token, value9, error, errorAt9, seen, tw, undos, text, rs, fs, tri, was, und, slo, now, told, sav, rfl, rfl, -⟩ := hI
  exact ⟨_, rfl⟩
theorem xI.th (l : Launch) (Z : XZ) {W8 W9 : va_W} (hI : xI E h u h9 w t W8 W9) : xA l yX9_thrown wsX9_thrown ({ frames := 0, cells := 0, slots := 0, locals := 0 }) E Z W9 [.ref h9] (some (.int t)) W9 0 0 := by
  obtain ⟨errorAt, used, en, met, start, rnext, kind, value, buf, nums, num, sits, tx, tv, ta1, ta2, tw1, tw2, next, size, f0, f1, length, textSize, start9, next9, token, value9, error, errorAt9, seen, tw, undos, text, rs, fs, tri, was, und, slo, now, told, sav, rfl, rfl, -⟩ := hI
  exact M_thrown l Z E h9 w _ _ _ _ _ _ _ _ _ _ _ _ _ _ _ _ _ _ _ _ _ _
end XI
/-- a call through a wrapper: the numbers of the refusals agree, and so do the answers -/
def xC (l : Launch) (E : XE) (Z : XZ) (cL : ClassId) (h h9 o : Nat) (u w : Nat → Nat) (yL : MethodName) (wsL : List Cond) (yM : MethodName) (wsM : List Cond) (rmM : Room) (As : List Value) (W8 W9 : va_W) (g : Nat → Int64) {T : Type} (val : T → Value) (lng : T → Int64) : Prop :=
  ∃ (k : Int32) (b : T) (g' : Nat → Int64) (W8' W9' : va_W), xL l yL wsL { frames := 12, cells := 1, slots := 6, locals := 450 } E Z cL (W8 ++ [(o, .inl (cL, 1, .inr (.inl g)))]) (.ref h :: (As ++ [.ref o])) (.int k) (W8' ++ [(o, .inl (cL, 1, .inr (.inl g')))]) ∧ xA l yM wsM rmM E Z W9 (.ref h9 :: As) (some (val b)) W9' 0 0 ∧ xI E h u h9 w k W8' W9' ∧ (k = 0 → g' 0 = lng b)
/-- a call of both -/
def xD2 (l : Launch) (E : XE) (Z : XZ) (h h9 : Nat) (u w : Nat → Nat) (yX : MethodName) (wsX : List Cond) (mX : Nat) (yM : MethodName) (wsM : List Cond) (rmM : Room) (As : List Value) (W8 W9 : va_W) : Prop :=
  ∃ (rm : Room) (t v : Int32) (W8' W9' : va_W), rm.cells = 0 ∧ rm.slots = 0 ∧ rm.frames + 1 ≤ 13 ∧ 8 + (mX + 11) + rm.locals ≤ 498 ∧ xA l yX wsX rm E Z W8 (.ref h :: As) (some (.int v)) W8' 0 0 ∧ xA l yM wsM rmM E Z W9 (.ref h9 :: As) (some (.int v)) W9' 0 0 ∧ xI E h u h9 w t W8' W9'
set_option maxRecDepth 100000 in
set_option maxHeartbeats 4000000 in
theorem C_sine (l : Launch) (hst : l.stackTraces = false) (E : XE) (Z : XZ) (cL : ClassId) (h h9 o : Nat) (u w : Nat → Nat) (g : Nat → Int64) {t : Int32} {W8 W9 : va_W} (hI : xI E h u h9 w t W8 W9) (p1 : Int32) : xC l E Z cL h h9 o u w yL_sine wsL_sine yX9_sine wsX9_sine ({ frames := 1, cells := 0, slots := 0, locals := 24 }) [.int p1] W8 W9 g (fun b : Int32 => .int b) (fun b => b.toInt64) := by
  obtain ⟨errorAt, used, en, met, start, rnext, kind, value, buf, nums, num, sits, tx, tv, ta1, ta2, tw1, tw2, next, size, f0, f1, length, textSize, start9, next9, token, value9, error, errorAt9, seen, tw, undos, text, rs, fs, tri, was, und, slo, now, told, sav, rfl, rfl, hI⟩ := hI
  have hI0 := hI
  by_cases p1A : p1 < 0
  · exact ⟨1, _, g, _, _, w_sine_c1 l E Z cL _ h o _ g _ p1 (L_sine_x1 l E h u _ _ _ _ _ _ _ _ _ _ _ _ _ _ _ _ _ _ _ _ _ _ p1 hst (Or.inl p1A)) rfl rfl (Nat.le_of_ble_eq_true rfl) (Nat.le_of_ble_eq_true rfl) rfl, M_sine l Z E h9 w _ _ _ _ _ _ _ _ _ _ _ _ _ _ _ _ _ _ _ _ _ _ p1  _ (pc_sineX (Or.inl p1A)), (xI.mk hI), fun z => absurd z (by decide)⟩
  by_cases p1B : p1 ≤ 4095
  rotate_left
  · exact ⟨1, _, g, _, _, w_sine_c1 l E Z cL _ h o _ g _ p1 (L_sine_x1 l E h u _ _ _ _ _ _ _ _ _ _ _ _ _ _ _ _ _ _ _ _ _ _ p1 hst (Or.inr p1B)) rfl rfl (Nat.le_of_ble_eq_true rfl) (Nat.le_of_ble_eq_true rfl) rfl, M_sine l Z E h9 w _ _ _ _ _ _ _ _ _ _ _ _ _ _ _ _ _ _ _ _ _ _ p1  _ (pc_sineX (Or.inr p1B)), (xI.mk hI), fun z => absurd z (by decide)⟩
  exact ⟨0, _, _, _, _, w_sine l E Z cL _ _ h o _ g _ p1 _ (L_sine l Z E h u _ _ _ _ _ _ _ _ _ _ _ _ _ _ _ _ _ _ _ _ _ _ p1 p1A p1B ) rfl rfl (Nat.le_of_ble_eq_true rfl) (Nat.le_of_ble_eq_true rfl) rfl, M_sine l Z E h9 w _ _ _ _ _ _ _ _ _ _ _ _ _ _ _ _ _ _ _ _ _ _ p1  _ (pc_sine p1A p1B), (xI.mk hI), (fun _ => by dsimp only; exact x_u0 _ _)⟩
set_option maxRecDepth 100000 in
set_option maxHeartbeats 4000000 in
theorem C_lean (l : Launch) (hst : l.stackTraces = false) (E : XE) (Z : XZ) (cL : ClassId) (h h9 o : Nat) (u w : Nat → Nat) (g : Nat → Int64) {t : Int32} {W8 W9 : va_W} (hI : xI E h u h9 w t W8 W9) (p1 : Int32) : xC l E Z cL h h9 o u w yL_lean wsL_lean yX9_lean wsX9_lean ({ frames := 1, cells := 0, slots := 0, locals := 22 }) [.int p1] W8 W9 g (fun b : Int32 => .int b) (fun b => b.toInt64) := by
  obtain ⟨errorAt, used, en, met, start, rnext, kind, value, buf, nums, num, sits, tx, tv, ta1, ta2, tw1, tw2, next, size, f0, f1, length, textSize, start9, next9, token, value9, error, errorAt9, seen, tw, undos, text, rs, fs, tri, was, und, slo, now, told, sav, rfl, rfl, hI⟩ := hI
  have hI0 := hI
  by_cases p1A : p1 < 0
  · exact ⟨1, _, g, _, _, w_lean_c1 l E Z cL _ h o _ g _ p1 (L_lean_x1 l E h u _ _ _ _ _ _ _ _ _ _ _ _ _ _ _ _ _ _ _ _ _ _ p1 hst (Or.inl p1A)) rfl rfl (Nat.le_of_ble_eq_true rfl) (Nat.le_of_ble_eq_true rfl) rfl, M_lean l Z E h9 w _ _ _ _ _ _ _ _ _ _ _ _ _ _ _ _ _ _ _ _ _ _ p1  _ (pc_leanX (Or.inl p1A)), (xI.mk hI), fun z => absurd z (by decide)⟩
  by_cases p1B : p1 ≤ 4095
  rotate_left
  · exact ⟨1, _, g, _, _, w_lean_c1 l E Z cL _ h o _ g _ p1 (L_lean_x1 l E h u _ _ _ _ _ _ _ _ _ _ _ _ _ _ _ _ _ _ _ _ _ _ p1 hst (Or.inr p1B)) rfl rfl (Nat.le_of_ble_eq_true rfl) (Nat.le_of_ble_eq_true rfl) rfl, M_lean l Z E h9 w _ _ _ _ _ _ _ _ _ _ _ _ _ _ _ _ _ _ _ _ _ _ p1  _ (pc_leanX (Or.inr p1B)), (xI.mk hI), fun z => absurd z (by decide)⟩
  exact ⟨0, _, _, _, _, w_lean l E Z cL _ _ h o _ g _ p1 _ (L_lean l Z E h u _ _ _ _ _ _ _ _ _ _ _ _ _ _ _ _ _ _ _ _ _ _ p1 p1A p1B ) rfl rfl (Nat.le_of_ble_eq_true rfl) (Nat.le_of_ble_eq_true rfl) rfl, M_lean l Z E h9 w _ _ _ _ _ _ _ _ _ _ _ _ _ _ _ _ _ _ _ _ _ _ p1  _ (pc_lean p1A p1B), (xI.mk hI), (fun _ => x_u0 _ _)⟩
set_option maxRecDepth 100000 in
set_option maxHeartbeats 4000000 in
theorem C_state (l : Launch) (hst : l.stackTraces = false) (E : XE) (Z : XZ) (cL : ClassId) (h h9 o : Nat) (u w : Nat → Nat) (g : Nat → Int64) {t : Int32} {W8 W9 : va_W} (hI : xI E h u h9 w t W8 W9) (p1 : Int32) : xC l E Z cL h h9 o u w yL_state wsL_state yX9_state wsX9_state ({ frames := 1, cells := 0, slots := 0, locals := 22 }) [.int p1] W8 W9 g (fun b : Int32 => .int b) (fun b => b.toInt64) := by
  obtain ⟨errorAt, used, en, met, start, rnext, kind, value, buf, nums, num, sits, tx, tv, ta1, ta2, tw1, tw2, next, size, f0, f1, length, textSize, start9, next9, token, value9, error, errorAt9, seen, tw, undos, text, rs, fs, tri, was, und, slo, now, told, sav, rfl, rfl, hI⟩ := hI
  have hI0 := hI
  obtain ⟨hT, hR, hS10, hMT, hE9, ⟨n, hn, hu1, hu2, hB⟩, ⟨nx, sz, hnx, hsz, hx1, hx2, hx3, hH⟩, hsv, hf0, hf1, hS12, hS13⟩ := hI0
  obtain ⟨b1, b2, b3, b4, rs8, fs8, e10, hrg, hV, hok⟩ := pb_Sof hS10
  by_cases p1A : p1 < 0
  · exact ⟨1, _, g, _, _, w_state_c1 l E Z cL _ h o _ g _ p1 (L_state_x1 l E h u _ _ _ _ _ _ _ _ _ _ _ _ _ _ _ _ _ _ _ _ _ _ p1 hst (Or.inl p1A)) rfl rfl (Nat.le_of_ble_eq_true rfl) (Nat.le_of_ble_eq_true rfl) rfl, M_state l Z E h9 w _ _ _ _ _ _ _ _ _ _ _ _ _ _ _ _ _ _ _ _ _ _ p1  _ (pc_stateX _ (Or.inl p1A)), (xI.mk hI), fun z => absurd z (by decide)⟩
  by_cases p1B : p1 ≤ 8
  rotate_left
  · exact ⟨1, _, g, _, _, w_state_c1 l E Z cL _ h o _ g _ p1 (L_state_x1 l E h u _ _ _ _ _ _ _ _ _ _ _ _ _ _ _ _ _ _ _ _ _ _ p1 hst (Or.inr p1B)) rfl rfl (Nat.le_of_ble_eq_true rfl) (Nat.le_of_ble_eq_true rfl) rfl, M_state l Z E h9 w _ _ _ _ _ _ _ _ _ _ _ _ _ _ _ _ _ _ _ _ _ _ p1  _ (pc_stateX _ (Or.inr p1B)), (xI.mk hI), fun z => absurd z (by decide)⟩
  exact ⟨0, _, _, _, _, w_state l E Z cL _ _ h o _ g _ p1 _ (L_state l Z E h u _ _ _ _ _ _ _ _ _ _ _ _ _ _ _ _ _ _ _ _ _ _ p1 p1A p1B ) rfl rfl (Nat.le_of_ble_eq_true rfl) (Nat.le_of_ble_eq_true rfl) rfl, M_state l Z E h9 w _ _ _ _ _ _ _ _ _ _ _ _ _ _ _ _ _ _ _ _ _ _ p1  _ (pc_state _ p1A p1B), (xI.mk hI), (fun _ => (x_u0 _ _).trans (congrArg Int32.toInt64 (by first | (rw [e10]; done) | (rw [e10]; rfl))))⟩
set_option maxRecDepth 100000 in
set_option maxHeartbeats 4000000 in
theorem C_link (l : Launch) (hst : l.stackTraces = false) (E : XE) (Z : XZ) (cL : ClassId) (h h9 o : Nat) (u w : Nat → Nat) (g : Nat → Int64) {t : Int32} {W8 W9 : va_W} (hI : xI E h u h9 w t W8 W9) (p1 p2 : Int32) : xC l E Z cL h h9 o u w yL_link wsL_link yX9_link wsX9_link ({ frames := 2, cells := 0, slots := 0, locals := 43 }) [.int p1, .int p2] W8 W9 g (fun b : Int32 => .int b) (fun b => b.toInt64) := by
  obtain ⟨errorAt, used, en, met, start, rnext, kind, value, buf, nums, num, sits, tx, tv, ta1, ta2, tw1, tw2, next, size, f0, f1, length, textSize, start9, next9, token, value9, error, errorAt9, seen, tw, undos, text, rs, fs, tri, was, und, slo, now, told, sav, rfl, rfl, hI⟩ := hI
  have hI0 := hI
  obtain ⟨hT, hR, hS10, hMT, hE9, ⟨n, hn, hu1, hu2, hB⟩, ⟨nx, sz, hnx, hsz, hx1, hx2, hx3, hH⟩, hsv, hf0, hf1, hS12, hS13⟩ := hI0
  obtain ⟨b1, b2, b3, b4, rs8, fs8, e10, hrg, hV, hok⟩ := pb_Sof hS10
  by_cases p1A : p1 < 1
  · exact ⟨1, _, g, _, _, w_link_c1 l E Z cL _ h o _ g _ p1 p2 (L_link_x1 l E h u _ _ _ _ _ _ _ _ _ _ _ _ _ _ _ _ _ _ _ _ _ _ p1 p2 hst (Or.inl p1A)) rfl rfl (Nat.le_of_ble_eq_true rfl) (Nat.le_of_ble_eq_true rfl) rfl, M_link l Z E h9 w _ _ _ _ _ _ _ _ _ _ _ _ _ _ _ _ _ _ _ _ _ _ p1 p2  _ (pc_linkX1 _ p2 (Or.inl p1A)), (xI.mk hI), fun z => absurd z (by decide)⟩
  by_cases p1B : p1 ≤ 2
  rotate_left
  · exact ⟨1, _, g, _, _, w_link_c1 l E Z cL _ h o _ g _ p1 p2 (L_link_x1 l E h u _ _ _ _ _ _ _ _ _ _ _ _ _ _ _ _ _ _ _ _ _ _ p1 p2 hst (Or.inr p1B)) rfl rfl (Nat.le_of_ble_eq_true rfl) (Nat.le_of_ble_eq_true rfl) rfl, M_link l Z E h9 w _ _ _ _ _ _ _ _ _ _ _ _ _ _ _ _ _ _ _ _ _ _ p1 p2  _ (pc_linkX1 _ p2 (Or.inr p1B)), (xI.mk hI), fun z => absurd z (by decide)⟩
  by_cases p2A : p2 < 0
  · exact ⟨2, _, g, _, _, w_link_c2 l E Z cL _ h o _ g _ p1 p2 (L_link_x2 l E h u _ _ _ _ _ _ _ _ _ _ _ _ _ _ _ _ _ _ _ _ _ _ p1 p2 hst p1A p1B (Or.inl p2A)) rfl rfl (Nat.le_of_ble_eq_true rfl) (Nat.le_of_ble_eq_true rfl) rfl, M_link l Z E h9 w _ _ _ _ _ _ _ _ _ _ _ _ _ _ _ _ _ _ _ _ _ _ p1 p2  _ (pc_linkX2 _ p1A p1B (Or.inl p2A)), (xI.mk hI), fun z => absurd z (by decide)⟩
  by_cases p2B : p2 ≤ 2
  rotate_left
  · exact ⟨2, _, g, _, _, w_link_c2 l E Z cL _ h o _ g _ p1 p2 (L_link_x2 l E h u _ _ _ _ _ _ _ _ _ _ _ _ _ _ _ _ _ _ _ _ _ _ p1 p2 hst p1A p1B (Or.inr p2B)) rfl rfl (Nat.le_of_ble_eq_true rfl) (Nat.le_of_ble_eq_true rfl) rfl, M_link l Z E h9 w _ _ _ _ _ _ _ _ _ _ _ _ _ _ _ _ _ _ _ _ _ _ p1 p2  _ (pc_linkX2 _ p1A p1B (Or.inr p2B)), (xI.mk hI), fun z => absurd z (by decide)⟩
  exact ⟨0, _, _, _, _, w_link l E Z cL _ _ h o _ g _ p1 p2 _ (L_link l Z E h u _ _ _ _ _ _ _ _ _ _ _ _ _ _ _ _ _ _ _ _ _ _ p1 p2 p1A p1B p2A p2B) rfl rfl (Nat.le_of_ble_eq_true rfl) (Nat.le_of_ble_eq_true rfl) rfl, M_link l Z E h9 w _ _ _ _ _ _ _ _ _ _ _ _ _ _ _ _ _ _ _ _ _ _ p1 p2  _ (pc_link _ p1A p1B p2A p2B), (xI.mk hI), (fun _ => (x_u0 _ _).trans (congrArg Int32.toInt64 (by first | (rw [e10]; done) | (rw [e10]; rfl))))⟩
set_option maxRecDepth 100000 in
set_option maxHeartbeats 4000000 in
theorem C_energy (l : Launch) (hst : l.stackTraces = false) (E : XE) (Z : XZ) (cL : ClassId) (h h9 o : Nat) (u w : Nat → Nat) (g : Nat → Int64) {t : Int32} {W8 W9 : va_W} (hI : xI E h u h9 w t W8 W9) (p1 : Int32) : xC l E Z cL h h9 o u w yL_energy wsL_energy yX9_energy wsX9_energy ({ frames := 3, cells := 0, slots := 0, locals := 67 }) [.int p1] W8 W9 g (fun b : Int64 => .long b) (fun b => b) := by
  obtain ⟨errorAt, used, en, met, start, rnext, kind, value, buf, nums, num, sits, tx, tv, ta1, ta2, tw1, tw2, next, size, f0, f1, length, textSize, start9, next9, token, value9, error, errorAt9, seen, tw, undos, text, rs, fs, tri, was, und, slo, now, told, sav, rfl, rfl, hI⟩ := hI
  have hI0 := hI
  obtain ⟨hT, hR, hS10, hMT, hE9, ⟨n, hn, hu1, hu2, hB⟩, ⟨nx, sz, hnx, hsz, hx1, hx2, hx3, hH⟩, hsv, hf0, hf1, hS12, hS13⟩ := hI0
  obtain ⟨b1, b2, b3, b4, rs8, fs8, e10, hrg, hV, hok⟩ := pb_Sof hS10
  by_cases p1A : p1 < 1
  · exact ⟨1, _, g, _, _, w_energy_c1 l E Z cL _ h o _ g _ p1 (L_energy_x1 l E h u _ _ _ _ _ _ _ _ _ _ _ _ _ _ _ _ _ _ _ _ _ _ p1 hst (Or.inl p1A)) rfl rfl (Nat.le_of_ble_eq_true rfl) (Nat.le_of_ble_eq_true rfl) rfl, M_energy l Z E h9 w _ _ _ _ _ _ _ _ _ _ _ _ _ _ _ _ _ _ _ _ _ _ p1  _ (pc_energyX _ _ (Or.inl p1A)), (xI.mk hI), fun z => absurd z (by decide)⟩
  by_cases p1B : p1 ≤ 2
  rotate_left
  · exact ⟨1, _, g, _, _, w_energy_c1 l E Z cL _ h o _ g _ p1 (L_energy_x1 l E h u _ _ _ _ _ _ _ _ _ _ _ _ _ _ _ _ _ _ _ _ _ _ p1 hst (Or.inr p1B)) rfl rfl (Nat.le_of_ble_eq_true rfl) (Nat.le_of_ble_eq_true rfl) rfl, M_energy l Z E h9 w _ _ _ _ _ _ _ _ _ _ _ _ _ _ _ _ _ _ _ _ _ _ p1  _ (pc_energyX _ _ (Or.inr p1B)), (xI.mk hI), fun z => absurd z (by decide)⟩
  exact ⟨0, _, _, _, _, w_energy l E Z cL _ _ h o _ g _ p1 _ (L_energy l Z E h u _ _ _ _ _ _ _ _ _ _ _ _ _ _ _ _ _ _ _ _ _ _ p1 p1A p1B ) rfl rfl (Nat.le_of_ble_eq_true rfl) (Nat.le_of_ble_eq_true rfl) rfl, M_energy l Z E h9 w _ _ _ _ _ _ _ _ _ _ _ _ _ _ _ _ _ _ _ _ _ _ p1  _ (pc_energy hT _ p1A p1B), (xI.mk hI), (fun _ => (x_u0 _ _).trans (by first | (rw [e10]; done) | (rw [e10]; rfl)))⟩
set_option maxRecDepth 100000 in
set_option maxHeartbeats 4000000 in
theorem C_target (l : Launch) (hst : l.stackTraces = false) (E : XE) (Z : XZ) (cL : ClassId) (h h9 o : Nat) (u w : Nat → Nat) (g : Nat → Int64) {t : Int32} {W8 W9 : va_W} (hI : xI E h u h9 w t W8 W9) (p1 : Int32) : xC l E Z cL h h9 o u w yL_target wsL_target yX9_target wsX9_target ({ frames := 2, cells := 0, slots := 0, locals := 43 }) [.int p1] W8 W9 g (fun b : Int32 => .int b) (fun b => b.toInt64) := by
  obtain ⟨errorAt, used, en, met, start, rnext, kind, value, buf, nums, num, sits, tx, tv, ta1, ta2, tw1, tw2, next, size, f0, f1, length, textSize, start9, next9, token, value9, error, errorAt9, seen, tw, undos, text, rs, fs, tri, was, und, slo, now, told, sav, rfl, rfl, hI⟩ := hI
  have hI0 := hI
  obtain ⟨hT, hR, hS10, hMT, hE9, ⟨n, hn, hu1, hu2, hB⟩, ⟨nx, sz, hnx, hsz, hx1, hx2, hx3, hH⟩, hsv, hf0, hf1, hS12, hS13⟩ := hI0
  obtain ⟨b1, b2, b3, b4, rs8, fs8, e10, hrg, hV, hok⟩ := pb_Sof hS10
  by_cases p1A : p1 < 1
  · exact ⟨1, _, g, _, _, w_target_c1 l E Z cL _ h o _ g _ p1 (L_target_x1 l E h u _ _ _ _ _ _ _ _ _ _ _ _ _ _ _ _ _ _ _ _ _ _ p1 hst (Or.inl p1A)) rfl rfl (Nat.le_of_ble_eq_true rfl) (Nat.le_of_ble_eq_true rfl) rfl, M_target l Z E h9 w _ _ _ _ _ _ _ _ _ _ _ _ _ _ _ _ _ _ _ _ _ _ p1  _ (pc_targetX _ (Or.inl p1A)), (xI.mk hI), fun z => absurd z (by decide)⟩
  by_cases p1B : p1 ≤ 2
  rotate_left
  · exact ⟨1, _, g, _, _, w_target_c1 l E Z cL _ h o _ g _ p1 (L_target_x1 l E h u _ _ _ _ _ _ _ _ _ _ _ _ _ _ _ _ _ _ _ _ _ _ p1 hst (Or.inr p1B)) rfl rfl (Nat.le_of_ble_eq_true rfl) (Nat.le_of_ble_eq_true rfl) rfl, M_target l Z E h9 w _ _ _ _ _ _ _ _ _ _ _ _ _ _ _ _ _ _ _ _ _ _ p1  _ (pc_targetX _ (Or.inr p1B)), (xI.mk hI), fun z => absurd z (by decide)⟩
  exact ⟨0, _, _, _, _, w_target l E Z cL _ _ h o _ g _ p1 _ (L_target l Z E h u _ _ _ _ _ _ _ _ _ _ _ _ _ _ _ _ _ _ _ _ _ _ p1 p1A p1B ) rfl rfl (Nat.le_of_ble_eq_true rfl) (Nat.le_of_ble_eq_true rfl) rfl, M_target l Z E h9 w _ _ _ _ _ _ _ _ _ _ _ _ _ _ _ _ _ _ _ _ _ _ p1  _ (pc_target hT p1A p1B), (xI.mk hI), (fun _ => x_u0 _ _)⟩
set_option maxRecDepth 100000 in
set_option maxHeartbeats 4000000 in
theorem C_switchesIn (l : Launch) (hst : l.stackTraces = false) (E : XE) (Z : XZ) (cL : ClassId) (h h9 o : Nat) (u w : Nat → Nat) (g : Nat → Int64) {t : Int32} {W8 W9 : va_W} (hI : xI E h u h9 w t W8 W9) (p1 : Int32) : xC l E Z cL h h9 o u w yL_switchesIn wsL_switchesIn yX9_switchesIn wsX9_switchesIn ({ frames := 1, cells := 0, slots := 0, locals := 23 }) [.int p1] W8 W9 g (fun b : Int32 => .int b) (fun b => b.toInt64) := by
  obtain ⟨errorAt, used, en, met, start, rnext, kind, value, buf, nums, num, sits, tx, tv, ta1, ta2, tw1, tw2, next, size, f0, f1, length, textSize, start9, next9, token, value9, error, errorAt9, seen, tw, undos, text, rs, fs, tri, was, und, slo, now, told, sav, rfl, rfl, hI⟩ := hI
  have hI0 := hI
  obtain ⟨hT, hR, hS10, hMT, hE9, ⟨n, hn, hu1, hu2, hB⟩, ⟨nx, sz, hnx, hsz, hx1, hx2, hx3, hH⟩, hsv, hf0, hf1, hS12, hS13⟩ := hI0
  obtain ⟨b1, b2, b3, b4, rs8, fs8, e10, hrg, hV, hok⟩ := pb_Sof hS10
  by_cases p1A : p1 < 1
  · exact ⟨1, _, g, _, _, w_switchesIn_c1 l E Z cL _ h o _ g _ p1 (L_switchesIn_x1 l E h u _ _ _ _ _ _ _ _ _ _ _ _ _ _ _ _ _ _ _ _ _ _ p1 hst (Or.inl p1A)) rfl rfl (Nat.le_of_ble_eq_true rfl) (Nat.le_of_ble_eq_true rfl) rfl, M_switchesIn l Z E h9 w _ _ _ _ _ _ _ _ _ _ _ _ _ _ _ _ _ _ _ _ _ _ p1  _ (pc_switchesInX _ (Or.inl p1A)), (xI.mk hI), fun z => absurd z (by decide)⟩
  by_cases p1B : p1 ≤ 200
  rotate_left
  · exact ⟨1, _, g, _, _, w_switchesIn_c1 l E Z cL _ h o _ g _ p1 (L_switchesIn_x1 l E h u _ _ _ _ _ _ _ _ _ _ _ _ _ _ _ _ _ _ _ _ _ _ p1 hst (Or.inr p1B)) rfl rfl (Nat.le_of_ble_eq_true rfl) (Nat.le_of_ble_eq_true rfl) rfl, M_switchesIn l Z E h9 w _ _ _ _ _ _ _ _ _ _ _ _ _ _ _ _ _ _ _ _ _ _ p1  _ (pc_switchesInX _ (Or.inr p1B)), (xI.mk hI), fun z => absurd z (by decide)⟩
  exact ⟨0, _, _, _, _, w_switchesIn l E Z cL _ _ h o _ g _ p1 _ (L_switchesIn l Z E h u _ _ _ _ _ _ _ _ _ _ _ _ _ _ _ _ _ _ _ _ _ _ p1 p1A p1B ) rfl rfl (Nat.le_of_ble_eq_true rfl) (Nat.le_of_ble_eq_true rfl) rfl, M_switchesIn l Z E h9 w _ _ _ _ _ _ _ _ _ _ _ _ _ _ _ _ _ _ _ _ _ _ p1  _ (pc_switchesIn hV hrg p1A p1B), (xI.mk hI), (fun _ => (x_u0 _ _).trans (congrArg Int32.toInt64 (by first | (rw [e10]; done) | (rw [e10]; rfl))))⟩
set_option maxRecDepth 100000 in
set_option maxHeartbeats 4000000 in
theorem C_reason (l : Launch) (hst : l.stackTraces = false) (E : XE) (Z : XZ) (cL : ClassId) (h h9 o : Nat) (u w : Nat → Nat) (g : Nat → Int64) {t : Int32} {W8 W9 : va_W} (hI : xI E h u h9 w t W8 W9) (p1 p2 : Int32) : xC l E Z cL h h9 o u w yL_reason wsL_reason yX9_reason wsX9_reason ({ frames := 6, cells := 0, slots := 0, locals := 140 }) [.int p1, .int p2] W8 W9 g (fun b : Int32 => .int b) (fun b => b.toInt64) := by
  obtain ⟨errorAt, used, en, met, start, rnext, kind, value, buf, nums, num, sits, tx, tv, ta1, ta2, tw1, tw2, next, size, f0, f1, length, textSize, start9, next9, token, value9, error, errorAt9, seen, tw, undos, text, rs, fs, tri, was, und, slo, now, told, sav, rfl, rfl, hI⟩ := hI
  have hI0 := hI
  obtain ⟨hT, hR, hS10, hMT, hE9, ⟨n, hn, hu1, hu2, hB⟩, ⟨nx, sz, hnx, hsz, hx1, hx2, hx3, hH⟩, hsv, hf0, hf1, hS12, hS13⟩ := hI0
  obtain ⟨b1, b2, b3, b4, rs8, fs8, e10, hrg, hV, hok⟩ := pb_Sof hS10
  by_cases c : sX2_hasCell num p1 p2 = 0
  · exact ⟨1, _, g, _, _, w_reason_c1 l E Z cL _ h o _ g _ p1 p2 (L_reason_x1 l E h u _ _ _ _ _ _ _ _ _ _ _ _ _ _ _ _ _ _ _ _ _ _ p1 p2 hst c) rfl rfl (Nat.le_of_ble_eq_true rfl) (Nat.le_of_ble_eq_true rfl) rfl, M_reason l Z E h9 w _ _ _ _ _ _ _ _ _ _ _ _ _ _ _ _ _ _ _ _ _ _ p1 p2 (pf_m3 hT hR) (pf_m0 hT hR) _ (pc_reasonX hT _ _ _ _ _ c), (xI.mk hI), fun z => absurd z (by decide)⟩
  · obtain ⟨q, q1, q2⟩ := pc_reason hT hR hV hok hMT tri c
    exact ⟨0, _, _, _, _, w_reason l E Z cL _ _ h o _ g _ p1 p2 _ (L_reason l Z E h u _ _ _ _ _ _ _ _ _ _ _ _ _ _ _ _ _ _ _ _ _ _ p1 p2 c) rfl rfl (Nat.le_of_ble_eq_true rfl) (Nat.le_of_ble_eq_true rfl) rfl, M_reason l Z E h9 w _ _ _ _ _ _ _ _ _ _ _ _ _ _ _ _ _ _ _ _ _ _ p1 p2 (pf_m3 hT hR) (pf_m0 hT hR) _ q1, (xI.mk ⟨hT, hR, hS10, q2, hE9, ⟨n, hn, hu1, hu2, hB⟩, ⟨nx, sz, hnx, hsz, hx1, hx2, hx3, hH⟩, hsv, hf0, hf1, hS12, hS13⟩), (fun _ => (x_u0 _ _).trans (congrArg Int32.toInt64 (by first | (rw [e10]; done) | (rw [e10]; rfl))))⟩
set_option maxRecDepth 100000 in
set_option maxHeartbeats 4000000 in
theorem C_failedStep (l : Launch) (hst : l.stackTraces = false) (E : XE) (Z : XZ) (cL : ClassId) (h h9 o : Nat) (u w : Nat → Nat) (g : Nat → Int64) {t : Int32} {W8 W9 : va_W} (hI : xI E h u h9 w t W8 W9) (p1 p2 : Int32) : xC l E Z cL h h9 o u w yL_failedStep wsL_failedStep yX9_failedStep wsX9_failedStep ({ frames := 6, cells := 0, slots := 0, locals := 140 }) [.int p1, .int p2] W8 W9 g (fun b : Int32 => .int b) (fun b => b.toInt64) := by
  obtain ⟨errorAt, used, en, met, start, rnext, kind, value, buf, nums, num, sits, tx, tv, ta1, ta2, tw1, tw2, next, size, f0, f1, length, textSize, start9, next9, token, value9, error, errorAt9, seen, tw, undos, text, rs, fs, tri, was, und, slo, now, told, sav, rfl, rfl, hI⟩ := hI
  have hI0 := hI
  obtain ⟨hT, hR, hS10, hMT, hE9, ⟨n, hn, hu1, hu2, hB⟩, ⟨nx, sz, hnx, hsz, hx1, hx2, hx3, hH⟩, hsv, hf0, hf1, hS12, hS13⟩ := hI0
  obtain ⟨b1, b2, b3, b4, rs8, fs8, e10, hrg, hV, hok⟩ := pb_Sof hS10
  by_cases c : sX2_hasCell num p1 p2 = 0
  · exact ⟨1, _, g, _, _, w_failedStep_c1 l E Z cL _ h o _ g _ p1 p2 (L_failedStep_x1 l E h u _ _ _ _ _ _ _ _ _ _ _ _ _ _ _ _ _ _ _ _ _ _ p1 p2 hst c) rfl rfl (Nat.le_of_ble_eq_true rfl) (Nat.le_of_ble_eq_true rfl) rfl, M_failedStep l Z E h9 w _ _ _ _ _ _ _ _ _ _ _ _ _ _ _ _ _ _ _ _ _ _ p1 p2 (pf_m3 hT hR) (pf_m0 hT hR) _ (pc_failedStepX hT _ _ _ _ _ c), (xI.mk hI), fun z => absurd z (by decide)⟩
  · obtain ⟨q, q1, q2⟩ := pc_failedStep hT hR hV hok hMT tri c
    exact ⟨0, _, _, _, _, w_failedStep l E Z cL _ _ h o _ g _ p1 p2 _ (L_failedStep l Z E h u _ _ _ _ _ _ _ _ _ _ _ _ _ _ _ _ _ _ _ _ _ _ p1 p2 c) rfl rfl (Nat.le_of_ble_eq_true rfl) (Nat.le_of_ble_eq_true rfl) rfl, M_failedStep l Z E h9 w _ _ _ _ _ _ _ _ _ _ _ _ _ _ _ _ _ _ _ _ _ _ p1 p2 (pf_m3 hT hR) (pf_m0 hT hR) _ q1, (xI.mk ⟨hT, hR, hS10, q2, hE9, ⟨n, hn, hu1, hu2, hB⟩, ⟨nx, sz, hnx, hsz, hx1, hx2, hx3, hH⟩, hsv, hf0, hf1, hS12, hS13⟩), (fun _ => (x_u0 _ _).trans (congrArg Int32.toInt64 (by first | (rw [e10]; done) | (rw [e10]; rfl))))⟩
set_option maxRecDepth 100000 in
set_option maxHeartbeats 4000000 in
theorem C_cellOf (l : Launch) (hst : l.stackTraces = false) (E : XE) (Z : XZ) (cL : ClassId) (h h9 o : Nat) (u w : Nat → Nat) (g : Nat → Int64) {t : Int32} {W8 W9 : va_W} (hI : xI E h u h9 w t W8 W9) (p1 p2 : Int32) : xC l E Z cL h h9 o u w yL_cellOf wsL_cellOf yX9_cellOf wsX9_cellOf ({ frames := 2, cells := 0, slots := 0, locals := 45 }) [.int p1, .int p2] W8 W9 g (fun b : Int32 => .int b) (fun b => b.toInt64) := by
  obtain ⟨errorAt, used, en, met, start, rnext, kind, value, buf, nums, num, sits, tx, tv, ta1, ta2, tw1, tw2, next, size, f0, f1, length, textSize, start9, next9, token, value9, error, errorAt9, seen, tw, undos, text, rs, fs, tri, was, und, slo, now, told, sav, rfl, rfl, hI⟩ := hI
  have hI0 := hI
  obtain ⟨hT, hR, hS10, hMT, hE9, ⟨n, hn, hu1, hu2, hB⟩, ⟨nx, sz, hnx, hsz, hx1, hx2, hx3, hH⟩, hsv, hf0, hf1, hS12, hS13⟩ := hI0
  obtain ⟨b1, b2, b3, b4, rs8, fs8, e10, hrg, hV, hok⟩ := pb_Sof hS10
  by_cases p1A : p1 < 1
  · exact ⟨1, _, g, _, _, w_cellOf_c1 l E Z cL _ h o _ g _ p1 p2 (L_cellOf_x1 l E h u _ _ _ _ _ _ _ _ _ _ _ _ _ _ _ _ _ _ _ _ _ _ p1 p2 hst (Or.inl p1A)) rfl rfl (Nat.le_of_ble_eq_true rfl) (Nat.le_of_ble_eq_true rfl) rfl, M_cellOf l Z E h9 w _ _ _ _ _ _ _ _ _ _ _ _ _ _ _ _ _ _ _ _ _ _ p1 p2 (pf_w1 hT hR) (pf_w2 hT hR) _ (pc_cellOfX1 _ _ p2 (Or.inl p1A)), (xI.mk hI), fun z => absurd z (by decide)⟩
  by_cases p1B : p1 ≤ 2
  rotate_left
  · exact ⟨1, _, g, _, _, w_cellOf_c1 l E Z cL _ h o _ g _ p1 p2 (L_cellOf_x1 l E h u _ _ _ _ _ _ _ _ _ _ _ _ _ _ _ _ _ _ _ _ _ _ p1 p2 hst (Or.inr p1B)) rfl rfl (Nat.le_of_ble_eq_true rfl) (Nat.le_of_ble_eq_true rfl) rfl, M_cellOf l Z E h9 w _ _ _ _ _ _ _ _ _ _ _ _ _ _ _ _ _ _ _ _ _ _ p1 p2 (pf_w1 hT hR) (pf_w2 hT hR) _ (pc_cellOfX1 _ _ p2 (Or.inr p1B)), (xI.mk hI), fun z => absurd z (by decide)⟩
  by_cases p2A : p2 < 0
  · exact ⟨2, _, g, _, _, w_cellOf_c2 l E Z cL _ h o _ g _ p1 p2 (L_cellOf_x2 l E h u _ _ _ _ _ _ _ _ _ _ _ _ _ _ _ _ _ _ _ _ _ _ p1 p2 hst p1A p1B (Or.inl p2A)) rfl rfl (Nat.le_of_ble_eq_true rfl) (Nat.le_of_ble_eq_true rfl) rfl, M_cellOf l Z E h9 w _ _ _ _ _ _ _ _ _ _ _ _ _ _ _ _ _ _ _ _ _ _ p1 p2 (pf_w1 hT hR) (pf_w2 hT hR) _ (pc_cellOfX2 _ _ p1A p1B (Or.inl p2A)), (xI.mk hI), fun z => absurd z (by decide)⟩
  by_cases p2B : p2 ≤ 1
  rotate_left
  · exact ⟨2, _, g, _, _, w_cellOf_c2 l E Z cL _ h o _ g _ p1 p2 (L_cellOf_x2 l E h u _ _ _ _ _ _ _ _ _ _ _ _ _ _ _ _ _ _ _ _ _ _ p1 p2 hst p1A p1B (Or.inr p2B)) rfl rfl (Nat.le_of_ble_eq_true rfl) (Nat.le_of_ble_eq_true rfl) rfl, M_cellOf l Z E h9 w _ _ _ _ _ _ _ _ _ _ _ _ _ _ _ _ _ _ _ _ _ _ p1 p2 (pf_w1 hT hR) (pf_w2 hT hR) _ (pc_cellOfX2 _ _ p1A p1B (Or.inr p2B)), (xI.mk hI), fun z => absurd z (by decide)⟩
  exact ⟨0, _, _, _, _, w_cellOf l E Z cL _ _ h o _ g _ p1 p2 _ (L_cellOf l Z E h u _ _ _ _ _ _ _ _ _ _ _ _ _ _ _ _ _ _ _ _ _ _ p1 p2 p1A p1B p2A p2B (pf_z1 hR) (pf_z2 hR)) rfl rfl (Nat.le_of_ble_eq_true rfl) (Nat.le_of_ble_eq_true rfl) rfl, M_cellOf l Z E h9 w _ _ _ _ _ _ _ _ _ _ _ _ _ _ _ _ _ _ _ _ _ _ p1 p2 (pf_w1 hT hR) (pf_w2 hT hR) _ (pc_cellOf hT hR hV p1A p1B p2A p2B), (xI.mk hI), (fun _ => (x_u0 _ _).trans (congrArg Int32.toInt64 (by first | (rw [e10]; done) | (rw [e10]; rfl))))⟩
