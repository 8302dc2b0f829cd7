theorem hdX8_requireRange : yX8_requireRange.cls = RX8 ∧ yX8_requireRange.cls ≠ "java/lang/invoke/MethodHandle" ∧ yX8_requireRange.cls ≠ "java/lang/invoke/VarHandle" ∧ (parseMethodDescriptor yX8_requireRange.desc).map (fun d => d.parameters.length) = some 3 := by decide +kernel
set_option maxHeartbeats 4000000 in
set_option maxRecDepth 100000 in
theorem kX8_requireRange_ok (l : Launch) (E : XE) (value : Int32) (least : Int32) (most : Int32) (h1 : ¬ value < least) (h2 : value ≤ most) : xR0 l yX8_requireRange wsX8_requireRange ({ frames := 0, cells := 0, slots := 0, locals := 0 }) E [] [.int value, .int least, .int most] := by
  refine xR0.of (cc := cX8_requireRange) (maxL := 3) (ret := none) (by decide) rfl (Nat.le_of_ble_eq_true rfl) ?_
  intro p e s m args below meth c ls hM hE hP hD hl
  obtain ⟨hx, hb, hr, hml, hts, hown, hlk, hnm⟩ := hM
  have hl : lv_has ls 3 [(0, .int value), (1, .int least), (2, .int most)] := hl
  refine lv_iload_n hx hb dX8_requireRange_0 rfl (lv_at hl 0 rfl) ?_
  refine lv_iload_n hx hb dX8_requireRange_1 rfl (lv_at hl 1 rfl) ?_
  refine lv_icmp_lt (tgt := 10) hx hb dX8_requireRange_2 (by decide) (fun c_1 => absurd c_1 h1) (fun _ => ?_)
  refine lv_iload_n hx hb dX8_requireRange_5 rfl (lv_at hl 0 rfl) ?_
  refine lv_iload_n hx hb dX8_requireRange_6 rfl (lv_at hl 2 rfl) ?_
  refine lv_icmp_le (tgt := 21) hx hb dX8_requireRange_7 (by decide) (fun _ => ?_) (fun c_2 => absurd h2 c_2)
  exact x_vr hx hb hr hlk dX8_requireRange_21
theorem hdX8_requireLink : yX8_requireLink.cls = RX8 ∧ yX8_requireLink.cls ≠ "java/lang/invoke/MethodHandle" ∧ yX8_requireLink.cls ≠ "java/lang/invoke/VarHandle" ∧ (parseMethodDescriptor yX8_requireLink.desc).map (fun d => d.parameters.length) = some 1 := by decide +kernel
set_option maxHeartbeats 4000000 in
set_option maxRecDepth 100000 in
theorem kX8_requireLink_ok (l : Launch) (E : XE) (link : Int32) (h1 : ¬ link < 1) (h2 : link ≤ 2) : xR0 l yX8_requireLink wsX8_requireLink ({ frames := 0, cells := 0, slots := 0, locals := 0 }) E [] [.int link] := by
  refine xR0.of (cc := cX8_requireLink) (maxL := 1) (ret := none) (by decide) rfl (Nat.le_of_ble_eq_true rfl) ?_
  intro p e s m args below meth c ls hM hE hP hD hl
  obtain ⟨hx, hb, hr, hml, hts, hown, hlk, hnm⟩ := hM
  have hl : lv_has ls 1 [(0, .int link)] := hl
  refine lv_iload_n hx hb dX8_requireLink_0 rfl (lv_at hl 0 rfl) ?_
  refine lv_iconst (v := 1) hx hb dX8_requireLink_1 (by decide) ?_
  refine lv_icmp_lt (tgt := 10) hx hb dX8_requireLink_2 (by decide) (fun c_1 => absurd c_1 h1) (fun _ => ?_)
  refine lv_iload_n hx hb dX8_requireLink_5 rfl (lv_at hl 0 rfl) ?_
  refine lv_iconst (v := 2) hx hb dX8_requireLink_6 (by decide) ?_
  refine lv_icmp_le (tgt := 21) hx hb dX8_requireLink_7 (by decide) (fun _ => ?_) (fun c_2 => absurd h2 c_2)
  exact x_vr hx hb hr hlk dX8_requireLink_21
theorem hdX8_requireSlot : yX8_requireSlot.cls = RX8 ∧ yX8_requireSlot.cls ≠ "java/lang/invoke/MethodHandle" ∧ yX8_requireSlot.cls ≠ "java/lang/invoke/VarHandle" ∧ (parseMethodDescriptor yX8_requireSlot.desc).map (fun d => d.parameters.length) = some 1 := by decide +kernel
set_option maxHeartbeats 4000000 in
set_option maxRecDepth 100000 in
theorem kX8_requireSlot_ok (l : Launch) (E : XE) (slot : Int32) (h1 : ¬ slot < 0) (h2 : slot ≤ 1) : xR0 l yX8_requireSlot wsX8_requireSlot ({ frames := 0, cells := 0, slots := 0, locals := 0 }) E [] [.int slot] := by
  refine xR0.of (cc := cX8_requireSlot) (maxL := 1) (ret := none) (by decide) rfl (Nat.le_of_ble_eq_true rfl) ?_
  intro p e s m args below meth c ls hM hE hP hD hl
  obtain ⟨hx, hb, hr, hml, hts, hown, hlk, hnm⟩ := hM
  have hl : lv_has ls 1 [(0, .int slot)] := hl
  refine lv_iload_n hx hb dX8_requireSlot_0 rfl (lv_at hl 0 rfl) ?_
  refine lv_if_lt (tgt := 9) hx hb dX8_requireSlot_1 (by decide) (fun c_1 => absurd c_1 h1) (fun _ => ?_)
  refine lv_iload_n hx hb dX8_requireSlot_4 rfl (lv_at hl 0 rfl) ?_
  refine lv_iconst (v := 1) hx hb dX8_requireSlot_5 (by decide) ?_
  refine lv_icmp_le (tgt := 20) hx hb dX8_requireSlot_6 (by decide) (fun _ => ?_) (fun c_2 => absurd h2 c_2)
  exact x_vr hx hb hr hlk dX8_requireSlot_20
theorem hdX8_requireCell : yX8_requireCell.cls = RX8 ∧ yX8_requireCell.cls ≠ "java/lang/invoke/MethodHandle" ∧ yX8_requireCell.cls ≠ "java/lang/invoke/VarHandle" ∧ (parseMethodDescriptor yX8_requireCell.desc).map (fun d => d.parameters.length) = some 2 := by decide +kernel
set_option maxHeartbeats 4000000 in
set_option maxRecDepth 100000 in
theorem kX8_requireCell_ok (l : Launch) (E : XE) (h : Nat) (pl : Nat) (rd : Nat) (nw : Nat) (ah : Nat) (tr : Nat) (hi : Nat) (s0 : Nat) (s1 : Nat) (errorAt : Int32) (an : Nat) (num : Nat → Int32) (i : Int32) (j : Int32) (h1 : ¬ (sX2_hasCell num i j) = 0) : xR0 l yX8_requireCell wsX8_requireCell ({ frames := 2, cells := 0, slots := 0, locals := 44 }) E [(h, .inr (8, [.ref pl, .ref rd, .ref nw, .ref ah, .ref tr, .ref hi, .ref s0, .ref s1, .int errorAt])), (pl, .inr (2, [.ref an])), (an, .inl (E.2.1, 24, .inl num))] [.ref h, .int i, .int j] := by
  refine xR0.of (cc := cX8_requireCell) (maxL := 3) (ret := none) (by decide) rfl (Nat.le_of_ble_eq_true rfl) ?_
  intro p e s m args below meth c ls hM hE hP hD hl
  obtain ⟨hx, hb, hr, hml, hts, hown, hlk, hnm⟩ := hM
  have g_1 : (Cond.fieldLink RX8 10 "RailPendulum" "plant" "LRailPendulum$Plant;").before args s = true := hts (Cond.fieldLink RX8 10 "RailPendulum" "plant" "LRailPendulum$Plant;") (by decide +kernel)
  have g_2 : ∀ w ∈ wsX80, w ∈ wsX8_requireCell := by decide +kernel
  have hl : lv_has ls 3 [(0, .ref h), (1, .int i), (2, .int j)] := hl
  refine lv_aload_n hx hb dX8_requireCell_0 rfl (lv_at hl 0 rfl) ?_
  refine va_get (D := E.1) (ci := 8) (v := .ref pl) (C := RX8) (T := TX8) (N := 9) hx hb hts g_2 hown hE.1 hP 0 rfl rfl 0 (by decide) g_1 (fun _ h9 => h9) rfl dX8_requireCell_1 ?_
  refine lv_iload_n hx hb dX8_requireCell_4 rfl (lv_at hl 1 rfl) ?_
  refine lv_iload_n hx hb dX8_requireCell_5 rfl (lv_at hl 2 rfl) ?_
  refine x_rV [.int i, .int j] (kX2_hasCell l E pl an num i j) ⟨hx, hb, hml, hown, hts⟩ (cwV 2 hts gX8_requireCell_X2_hasCell rfl rfl rfl hdX2_hasCell ⟨Nat.le_of_ble_eq_true rfl, Nat.le_of_ble_eq_true rfl⟩) hE hP hD [1, 2] rfl rfl (ci := 2) (q0 := 1) rfl rfl rfl hl.1 rfl rfl (Nat.le_of_ble_eq_true rfl) dX8_requireCell_6 (Nat.le_of_ble_eq_true rfl) (Nat.le_of_ble_eq_true rfl) ?_
  refine lv_if_ne (tgt := 23) hx hb dX8_requireCell_9 (by decide) (fun _ => ?_) (fun c_1 => absurd c_1 h1)
  exact x_vr hx hb hr hlk dX8_requireCell_23
theorem hdX8_requireNotStopped : yX8_requireNotStopped.cls = RX8 ∧ yX8_requireNotStopped.cls ≠ "java/lang/invoke/MethodHandle" ∧ yX8_requireNotStopped.cls ≠ "java/lang/invoke/VarHandle" ∧ (parseMethodDescriptor yX8_requireNotStopped.desc).map (fun d => d.parameters.length) = some 0 := by decide +kernel
set_option maxHeartbeats 4000000 in
set_option maxRecDepth 100000 in
theorem kX8_requireNotStopped_ok (l : Launch) (E : XE) (h : Nat) (pl : Nat) (rd : Nat) (nw : Nat) (ah : Nat) (tr : Nat) (hi : Nat) (s0 : Nat) (s1 : Nat) (errorAt : Int32) (mo : Nat) (re : Nat) (rc : Nat) (tick : Int32) (mode : Int32) (lock : Int32) (force : Int32) (switches : Int32) (stops : Int32) (resets : Int32) (latestStop : Int32) (h1 : ¬ mode = 3) : xR0 l yX8_requireNotStopped wsX8_requireNotStopped ({ frames := 0, cells := 0, slots := 0, locals := 0 }) E [(h, .inr (8, [.ref pl, .ref rd, .ref nw, .ref ah, .ref tr, .ref hi, .ref s0, .ref s1, .int errorAt])), (nw, .inr (6, [.ref mo, .ref re, .ref rc, .int tick, .int mode, .int lock, .int force, .int switches, .int stops, .int resets, .int latestStop]))] [.ref h] := by
  refine xR0.of (cc := cX8_requireNotStopped) (maxL := 1) (ret := none) (by decide) rfl (Nat.le_of_ble_eq_true rfl) ?_
  intro p e s m args below meth c ls hM hE hP hD hl
  obtain ⟨hx, hb, hr, hml, hts, hown, hlk, hnm⟩ := hM
  have g_1 : (Cond.fieldLink RX8 26 "RailPendulum" "now" "LRailPendulum$Situation;").before args s = true := hts (Cond.fieldLink RX8 26 "RailPendulum" "now" "LRailPendulum$Situation;") (by decide +kernel)
  have g_2 : ∀ w ∈ wsX80, w ∈ wsX8_requireNotStopped := by decide +kernel
  have g_3 : (Cond.fieldLinkNest RX8 203 "RailPendulum$Situation" "mode" "I" "RailPendulum").before args s = true := va_Nw.use rfl (hE.2 (Cond.fieldLinkNest RX8 203 "RailPendulum$Situation" "mode" "I" "RailPendulum") (by decide +kernel))
  have g_4 : ∀ w ∈ wsX60, w ∈ wsX8_requireNotStopped := by decide +kernel
  have hl : lv_has ls 1 [(0, .ref h)] := hl
  refine lv_aload_n hx hb dX8_requireNotStopped_0 rfl (lv_at hl 0 rfl) ?_
  refine va_get (D := E.1) (ci := 8) (v := .ref nw) (C := RX8) (T := TX8) (N := 9) hx hb hts g_2 hown hE.1 hP 0 rfl rfl 2 (by decide) g_1 (fun _ h9 => h9) rfl dX8_requireNotStopped_1 ?_
  refine va_getN (D := E.1) (ci := 6) (v := .int mode) (C := RX6) (T := TX6) (N := 11) hx hb hts g_4 hown hE.1 hP 1 rfl rfl 4 (by decide) g_3 (fun _ h9 => h9) rfl dX8_requireNotStopped_4 ?_
  refine lv_iconst (v := 3) hx hb dX8_requireNotStopped_7 (by decide) ?_
  refine lv_icmp_ne (tgt := 22) hx hb dX8_requireNotStopped_8 (by decide) (fun _ => ?_) (fun c_1 => absurd c_1 h1)
  exact x_vr hx hb hr hlk dX8_requireNotStopped_22
set_option maxHeartbeats 4000000 in
set_option maxRecDepth 100000 in
theorem kX8_requireRange_bad (l : Launch) (E : XE) (hst : l.stackTraces = false) (value : Int32) (least : Int32) (most : Int32) (hbad : value < least ∨ ¬ value ≤ most) : xX l yX8_requireRange wsX8_requireRange ({ frames := 6, cells := 1, slots := 6, locals := 90 }) E [] [.int value, .int least, .int most] "java/lang/IllegalArgumentException" := by
  refine xX.of (cc := cX8_requireRange) (maxL := 3) (ret := none) (by decide) rfl (Nat.le_of_ble_eq_true rfl) ?_
  intro p e s m args below meth c ls hM hE hP hD hThr ht hl
  obtain ⟨hx, hb, hr, hml, hts, hown, hlk, hnm⟩ := hM
  have g_1 : (Cond.classLink RX8 313 "java/lang/IllegalArgumentException").before args s = true := hts (Cond.classLink RX8 313 "java/lang/IllegalArgumentException") (by decide +kernel)
  have g_2 : (Cond.initialized "java/lang/IllegalArgumentException").before args s = true := hts (Cond.initialized "java/lang/IllegalArgumentException") (by decide +kernel)
  have g_3 : ∀ w ∈ (vx_atS RX8 317 "java/lang/IllegalArgumentException" xSup).filter goodWord, w.before args s = true := fun w h => hts w ((by decide +kernel : ∀ w ∈ (vx_atS RX8 317 "java/lang/IllegalArgumentException" xSup).filter goodWord, w ∈ wsX8_requireRange) w h)
  have hl : lv_has ls 3 [(0, .int value), (1, .int least), (2, .int most)] := hl
  refine lv_iload_n hx hb dX8_requireRange_0 rfl (lv_at hl 0 rfl) ?_
  refine lv_iload_n hx hb dX8_requireRange_1 rfl (lv_at hl 1 rfl) ?_
  refine lv_icmp_lt (tgt := 10) hx hb dX8_requireRange_2 (by decide) (fun c_1 => ?_) (fun c_1 => ?_)
  · exact x_thrW (ik := 313) (is := 315) (ic := 317) (text := "an argument is out of range") hx hb hst hown x_fit_ia g_1 g_2 hThr (by decide) g_3 x_hat_ia x_good_ia ht (hl.1.trans hml.symm) dX8_requireRange_10 dX8_requireRange_13 dX8_requireRange_14 dX8_requireRange_17 dX8_requireRange_20 (Nat.le_of_ble_eq_true rfl) (Nat.le_of_ble_eq_true rfl) (Nat.le_of_ble_eq_true rfl) (Nat.le_of_ble_eq_true rfl) hlk
  · refine lv_iload_n hx hb dX8_requireRange_5 rfl (lv_at hl 0 rfl) ?_
    refine lv_iload_n hx hb dX8_requireRange_6 rfl (lv_at hl 2 rfl) ?_
    refine lv_icmp_le (tgt := 21) hx hb dX8_requireRange_7 (by decide) (fun c_2 => hbad.elim (fun h => absurd h c_1) (fun h => absurd c_2 h)) (fun c_2 => ?_)
    exact x_thrW (ik := 313) (is := 315) (ic := 317) (text := "an argument is out of range") hx hb hst hown x_fit_ia g_1 g_2 hThr (by decide) g_3 x_hat_ia x_good_ia ht (hl.1.trans hml.symm) dX8_requireRange_10 dX8_requireRange_13 dX8_requireRange_14 dX8_requireRange_17 dX8_requireRange_20 (Nat.le_of_ble_eq_true rfl) (Nat.le_of_ble_eq_true rfl) (Nat.le_of_ble_eq_true rfl) (Nat.le_of_ble_eq_true rfl) hlk
set_option maxHeartbeats 4000000 in
set_option maxRecDepth 100000 in
theorem kX8_requireLink_bad (l : Launch) (E : XE) (hst : l.stackTraces = false) (link : Int32) (hbad : link < 1 ∨ ¬ link ≤ 2) : xX l yX8_requireLink wsX8_requireLink ({ frames := 6, cells := 1, slots := 6, locals := 90 }) E [] [.int link] "java/lang/IndexOutOfBoundsException" := by
  refine xX.of (cc := cX8_requireLink) (maxL := 1) (ret := none) (by decide) rfl (Nat.le_of_ble_eq_true rfl) ?_
  intro p e s m args below meth c ls hM hE hP hD hThr ht hl
  obtain ⟨hx, hb, hr, hml, hts, hown, hlk, hnm⟩ := hM
  have g_1 : (Cond.classLink RX8 302 "java/lang/IndexOutOfBoundsException").before args s = true := hts (Cond.classLink RX8 302 "java/lang/IndexOutOfBoundsException") (by decide +kernel)
  have g_2 : (Cond.initialized "java/lang/IndexOutOfBoundsException").before args s = true := hts (Cond.initialized "java/lang/IndexOutOfBoundsException") (by decide +kernel)
  have g_3 : ∀ w ∈ (vx_atS RX8 306 "java/lang/IndexOutOfBoundsException" xSup).filter goodWord, w.before args s = true := fun w h => hts w ((by decide +kernel : ∀ w ∈ (vx_atS RX8 306 "java/lang/IndexOutOfBoundsException" xSup).filter goodWord, w ∈ wsX8_requireLink) w h)
  have hl : lv_has ls 1 [(0, .int link)] := hl
  refine lv_iload_n hx hb dX8_requireLink_0 rfl (lv_at hl 0 rfl) ?_
  refine lv_iconst (v := 1) hx hb dX8_requireLink_1 (by decide) ?_
  refine lv_icmp_lt (tgt := 10) hx hb dX8_requireLink_2 (by decide) (fun c_1 => ?_) (fun c_1 => ?_)
  · exact x_thrW (ik := 302) (is := 309) (ic := 306) (text := "there is no such link") hx hb hst hown x_fit_io g_1 g_2 hThr (by decide) g_3 x_hat_io x_good_io ht (hl.1.trans hml.symm) dX8_requireLink_10 dX8_requireLink_13 dX8_requireLink_14 dX8_requireLink_17 dX8_requireLink_20 (Nat.le_of_ble_eq_true rfl) (Nat.le_of_ble_eq_true rfl) (Nat.le_of_ble_eq_true rfl) (Nat.le_of_ble_eq_true rfl) hlk
  · refine lv_iload_n hx hb dX8_requireLink_5 rfl (lv_at hl 0 rfl) ?_
    refine lv_iconst (v := 2) hx hb dX8_requireLink_6 (by decide) ?_
    refine lv_icmp_le (tgt := 21) hx hb dX8_requireLink_7 (by decide) (fun c_2 => hbad.elim (fun h => absurd h c_1) (fun h => absurd c_2 h)) (fun c_2 => ?_)
    exact x_thrW (ik := 302) (is := 309) (ic := 306) (text := "there is no such link") hx hb hst hown x_fit_io g_1 g_2 hThr (by decide) g_3 x_hat_io x_good_io ht (hl.1.trans hml.symm) dX8_requireLink_10 dX8_requireLink_13 dX8_requireLink_14 dX8_requireLink_17 dX8_requireLink_20 (Nat.le_of_ble_eq_true rfl) (Nat.le_of_ble_eq_true rfl) (Nat.le_of_ble_eq_true rfl) (Nat.le_of_ble_eq_true rfl) hlk
set_option maxHeartbeats 4000000 in
set_option maxRecDepth 100000 in
theorem kX8_requireSlot_bad (l : Launch) (E : XE) (hst : l.stackTraces = false) (slot : Int32) (hbad : slot < 0 ∨ ¬ slot ≤ 1) : xX l yX8_requireSlot wsX8_requireSlot ({ frames := 6, cells := 1, slots := 6, locals := 90 }) E [] [.int slot] "java/lang/IndexOutOfBoundsException" := by
  refine xX.of (cc := cX8_requireSlot) (maxL := 1) (ret := none) (by decide) rfl (Nat.le_of_ble_eq_true rfl) ?_
  intro p e s m args below meth c ls hM hE hP hD hThr ht hl
  obtain ⟨hx, hb, hr, hml, hts, hown, hlk, hnm⟩ := hM
  have g_1 : (Cond.classLink RX8 302 "java/lang/IndexOutOfBoundsException").before args s = true := hts (Cond.classLink RX8 302 "java/lang/IndexOutOfBoundsException") (by decide +kernel)
  have g_2 : (Cond.initialized "java/lang/IndexOutOfBoundsException").before args s = true := hts (Cond.initialized "java/lang/IndexOutOfBoundsException") (by decide +kernel)
  have g_3 : ∀ w ∈ (vx_atS RX8 306 "java/lang/IndexOutOfBoundsException" xSup).filter goodWord, w.before args s = true := fun w h => hts w ((by decide +kernel : ∀ w ∈ (vx_atS RX8 306 "java/lang/IndexOutOfBoundsException" xSup).filter goodWord, w ∈ wsX8_requireSlot) w h)
  have hl : lv_has ls 1 [(0, .int slot)] := hl
  refine lv_iload_n hx hb dX8_requireSlot_0 rfl (lv_at hl 0 rfl) ?_
  refine lv_if_lt (tgt := 9) hx hb dX8_requireSlot_1 (by decide) (fun c_1 => ?_) (fun c_1 => ?_)
  · exact x_thrW (ik := 302) (is := 311) (ic := 306) (text := "there is no such slot") hx hb hst hown x_fit_io g_1 g_2 hThr (by decide) g_3 x_hat_io x_good_io ht (hl.1.trans hml.symm) dX8_requireSlot_9 dX8_requireSlot_12 dX8_requireSlot_13 dX8_requireSlot_16 dX8_requireSlot_19 (Nat.le_of_ble_eq_true rfl) (Nat.le_of_ble_eq_true rfl) (Nat.le_of_ble_eq_true rfl) (Nat.le_of_ble_eq_true rfl) hlk
  · refine lv_iload_n hx hb dX8_requireSlot_4 rfl (lv_at hl 0 rfl) ?_
    refine lv_iconst (v := 1) hx hb dX8_requireSlot_5 (by decide) ?_
    refine lv_icmp_le (tgt := 20) hx hb dX8_requireSlot_6 (by decide) (fun c_2 => hbad.elim (fun h => absurd h c_1) (fun h => absurd c_2 h)) (fun c_2 => ?_)
    exact x_thrW (ik := 302) (is := 311) (ic := 306) (text := "there is no such slot") hx hb hst hown x_fit_io g_1 g_2 hThr (by decide) g_3 x_hat_io x_good_io ht (hl.1.trans hml.symm) dX8_requireSlot_9 dX8_requireSlot_12 dX8_requireSlot_13 dX8_requireSlot_16 dX8_requireSlot_19 (Nat.le_of_ble_eq_true rfl) (Nat.le_of_ble_eq_true rfl) (Nat.le_of_ble_eq_true rfl) (Nat.le_of_ble_eq_true rfl) hlk
set_option maxHeartbeats 4000000 in
set_option maxRecDepth 100000 in
theorem kX8_requireCell_bad (l : Launch) (E : XE) (hst : l.stackTraces = false) (h : Nat) (pl : Nat) (rd : Nat) (nw : Nat) (ah : Nat) (tr : Nat) (hi : Nat) (s0 : Nat) (s1 : Nat) (errorAt : Int32) (an : Nat) (num : Nat → Int32) (i : Int32) (j : Int32) (hbad : (sX2_hasCell num i j) = 0) : xX l yX8_requireCell wsX8_requireCell ({ frames := 6, cells := 1, slots := 6, locals := 90 }) E [(h, .inr (8, [.ref pl, .ref rd, .ref nw, .ref ah, .ref tr, .ref hi, .ref s0, .ref s1, .int errorAt])), (pl, .inr (2, [.ref an])), (an, .inl (E.2.1, 24, .inl num))] [.ref h, .int i, .int j] "java/lang/IndexOutOfBoundsException" := by
  refine xX.of (cc := cX8_requireCell) (maxL := 3) (ret := none) (by decide) rfl (Nat.le_of_ble_eq_true rfl) ?_
  intro p e s m args below meth c ls hM hE hP hD hThr ht hl
  obtain ⟨hx, hb, hr, hml, hts, hown, hlk, hnm⟩ := hM
  have g_1 : (Cond.fieldLink RX8 10 "RailPendulum" "plant" "LRailPendulum$Plant;").before args s = true := hts (Cond.fieldLink RX8 10 "RailPendulum" "plant" "LRailPendulum$Plant;") (by decide +kernel)
  have g_2 : ∀ w ∈ wsX80, w ∈ wsX8_requireCell := by decide +kernel
  have g_3 : (Cond.classLink RX8 302 "java/lang/IndexOutOfBoundsException").before args s = true := hts (Cond.classLink RX8 302 "java/lang/IndexOutOfBoundsException") (by decide +kernel)
  have g_4 : (Cond.initialized "java/lang/IndexOutOfBoundsException").before args s = true := hts (Cond.initialized "java/lang/IndexOutOfBoundsException") (by decide +kernel)
  have g_5 : ∀ w ∈ (vx_atS RX8 306 "java/lang/IndexOutOfBoundsException" xSup).filter goodWord, w.before args s = true := fun w h => hts w ((by decide +kernel : ∀ w ∈ (vx_atS RX8 306 "java/lang/IndexOutOfBoundsException" xSup).filter goodWord, w ∈ wsX8_requireCell) w h)
  have hl : lv_has ls 3 [(0, .ref h), (1, .int i), (2, .int j)] := hl
  refine lv_aload_n hx hb dX8_requireCell_0 rfl (lv_at hl 0 rfl) ?_
  refine va_get (D := E.1) (ci := 8) (v := .ref pl) (C := RX8) (T := TX8) (N := 9) hx hb hts g_2 hown hE.1 hP 0 rfl rfl 0 (by decide) g_1 (fun _ h9 => h9) rfl dX8_requireCell_1 ?_
  refine lv_iload_n hx hb dX8_requireCell_4 rfl (lv_at hl 1 rfl) ?_
  refine lv_iload_n hx hb dX8_requireCell_5 rfl (lv_at hl 2 rfl) ?_
  refine x_rV [.int i, .int j] (kX2_hasCell l E pl an num i j) ⟨hx, hb, hml, hown, hts⟩ (cwV 2 hts gX8_requireCell_X2_hasCell rfl rfl rfl hdX2_hasCell ⟨Nat.le_of_ble_eq_true rfl, Nat.le_of_ble_eq_true rfl⟩) hE hP hD [1, 2] rfl rfl (ci := 2) (q0 := 1) rfl rfl rfl hl.1 rfl rfl (Nat.le_of_ble_eq_true rfl) dX8_requireCell_6 (Nat.le_of_ble_eq_true rfl) (Nat.le_of_ble_eq_true rfl) ?_
  refine lv_if_ne (tgt := 23) hx hb dX8_requireCell_9 (by decide) (fun c_1 => absurd hbad c_1) (fun _ => ?_)
  exact x_thrW (ik := 302) (is := 304) (ic := 306) (text := "there is no such cell") hx hb hst hown x_fit_io g_3 g_4 hThr (by decide) g_5 x_hat_io x_good_io ht (hl.1.trans hml.symm) dX8_requireCell_12 dX8_requireCell_15 dX8_requireCell_16 dX8_requireCell_19 dX8_requireCell_22 (Nat.le_of_ble_eq_true rfl) (Nat.le_of_ble_eq_true rfl) (Nat.le_of_ble_eq_true rfl) (Nat.le_of_ble_eq_true rfl) hlk
set_option maxHeartbeats 4000000 in
set_option maxRecDepth 100000 in
theorem kX8_requireNotStopped_bad (l : Launch) (E : XE) (hst : l.stackTraces = false) (h : Nat) (pl : Nat) (rd : Nat) (nw : Nat) (ah : Nat) (tr : Nat) (hi : Nat) (s0 : Nat) (s1 : Nat) (errorAt : Int32) (mo : Nat) (re : Nat) (rc : Nat) (tick : Int32) (mode : Int32) (lock : Int32) (force : Int32) (switches : Int32) (stops : Int32) (resets : Int32) (latestStop : Int32) (hbad : mode = 3) : xX l yX8_requireNotStopped wsX8_requireNotStopped ({ frames := 6, cells := 1, slots := 6, locals := 90 }) E [(h, .inr (8, [.ref pl, .ref rd, .ref nw, .ref ah, .ref tr, .ref hi, .ref s0, .ref s1, .int errorAt])), (nw, .inr (6, [.ref mo, .ref re, .ref rc, .int tick, .int mode, .int lock, .int force, .int switches, .int stops, .int resets, .int latestStop]))] [.ref h] "java/lang/IllegalStateException" := by
  refine xX.of (cc := cX8_requireNotStopped) (maxL := 1) (ret := none) (by decide) rfl (Nat.le_of_ble_eq_true rfl) ?_
  intro p e s m args below meth c ls hM hE hP hD hThr ht hl
  obtain ⟨hx, hb, hr, hml, hts, hown, hlk, hnm⟩ := hM
  have g_1 : (Cond.fieldLink RX8 26 "RailPendulum" "now" "LRailPendulum$Situation;").before args s = true := hts (Cond.fieldLink RX8 26 "RailPendulum" "now" "LRailPendulum$Situation;") (by decide +kernel)
  have g_2 : ∀ w ∈ wsX80, w ∈ wsX8_requireNotStopped := by decide +kernel
  have g_3 : (Cond.fieldLinkNest RX8 203 "RailPendulum$Situation" "mode" "I" "RailPendulum").before args s = true := va_Nw.use rfl (hE.2 (Cond.fieldLinkNest RX8 203 "RailPendulum$Situation" "mode" "I" "RailPendulum") (by decide +kernel))
  have g_4 : ∀ w ∈ wsX60, w ∈ wsX8_requireNotStopped := by decide +kernel
  have g_5 : (Cond.classLink RX8 193 "java/lang/IllegalStateException").before args s = true := hts (Cond.classLink RX8 193 "java/lang/IllegalStateException") (by decide +kernel)
  have g_6 : (Cond.initialized "java/lang/IllegalStateException").before args s = true := hts (Cond.initialized "java/lang/IllegalStateException") (by decide +kernel)
  have g_7 : ∀ w ∈ (vx_atS RX8 197 "java/lang/IllegalStateException" xSup).filter goodWord, w.before args s = true := fun w h => hts w ((by decide +kernel : ∀ w ∈ (vx_atS RX8 197 "java/lang/IllegalStateException" xSup).filter goodWord, w ∈ wsX8_requireNotStopped) w h)
  have hl : lv_has ls 1 [(0, .ref h)] := hl
  refine lv_aload_n hx hb dX8_requireNotStopped_0 rfl (lv_at hl 0 rfl) ?_
  refine va_get (D := E.1) (ci := 8) (v := .ref nw) (C := RX8) (T := TX8) (N := 9) hx hb hts g_2 hown hE.1 hP 0 rfl rfl 2 (by decide) g_1 (fun _ h9 => h9) rfl dX8_requireNotStopped_1 ?_
  refine va_getN (D := E.1) (ci := 6) (v := .int mode) (C := RX6) (T := TX6) (N := 11) hx hb hts g_4 hown hE.1 hP 1 rfl rfl 4 (by decide) g_3 (fun _ h9 => h9) rfl dX8_requireNotStopped_4 ?_
  refine lv_iconst (v := 3) hx hb dX8_requireNotStopped_7 (by decide) ?_
  refine lv_icmp_ne (tgt := 22) hx hb dX8_requireNotStopped_8 (by decide) (fun c_1 => absurd hbad c_1) (fun _ => ?_)
  exact x_thrW (ik := 193) (is := 307) (ic := 197) (text := "the plant is stopped") hx hb hst hown x_fit_is g_5 g_6 hThr (by decide) g_7 x_hat_is x_good_is ht (hl.1.trans hml.symm) dX8_requireNotStopped_11 dX8_requireNotStopped_14 dX8_requireNotStopped_15 dX8_requireNotStopped_18 dX8_requireNotStopped_21 (Nat.le_of_ble_eq_true rfl) (Nat.le_of_ble_eq_true rfl) (Nat.le_of_ble_eq_true rfl) (Nat.le_of_ble_eq_true rfl) hlk
def sX8_sine_ok (angle : Int32) : Int32 :=
  sX8_sineOf angle
theorem hdX8_sine : yX8_sine.cls = RX8 ∧ yX8_sine.cls ≠ "java/lang/invoke/MethodHandle" ∧ yX8_sine.cls ≠ "java/lang/invoke/VarHandle" ∧ (parseMethodDescriptor yX8_sine.desc).map (fun d => d.parameters.length) = some 1 := by decide +kernel
set_option maxHeartbeats 4000000 in
set_option maxRecDepth 100000 in
theorem kX8_sine_ok (l : Launch) (E : XE) (h : Nat) (angle : Int32) (o1a : ¬ angle < 0) (o1b : angle ≤ 4095) : xR l yX8_sine wsX8_sine ({ frames := 1, cells := 0, slots := 0, locals := 26 }) E [] [.ref h, .int angle] (.int (sX8_sine_ok angle)) := by
  refine xR.of (cc := cX8_sine) (maxL := 2) (ret := (some .int)) (by decide) rfl (Nat.le_of_ble_eq_true rfl) ?_
  intro p e s m args below meth c ls hM hE hP hD hl
  obtain ⟨hx, hb, hr, hml, hts, hown, hlk, hnm⟩ := hM
  have hl : lv_has ls 2 [(0, .ref h), (1, .int angle)] := hl
  refine lv_iload_n hx hb dX8_sine_0 rfl (lv_at hl 1 rfl) ?_
  refine lv_iconst (v := 0) hx hb dX8_sine_1 (by decide) ?_
  refine lv_sipush (v := 4095) hx hb dX8_sine_2 (by decide) ?_
  refine x_r0S [.int angle, .int 0, .int 4095] (kX8_requireRange_ok l E angle 0 4095 o1a o1b) ⟨hx, hb, hml, hown, hts⟩ (va_cwS 3 hts gX8_sine_X8_requireRange rfl rfl rfl hdX8_requireRange.2 ⟨Nat.le_of_ble_eq_true rfl, Nat.le_of_ble_eq_true rfl⟩) hE hP hD [] rfl rfl hl.1 rfl rfl (Nat.le_of_ble_eq_true rfl) dX8_sine_5 (Nat.le_of_ble_eq_true rfl) (Nat.le_of_ble_eq_true rfl) ?_
  refine W.eq (g2 := F0 m 8 ls []) rfl ?_
  refine lv_iload_n hx hb dX8_sine_8 rfl (lv_at hl 1 rfl) ?_
  refine x_rS [.int angle] (kX8_sineOf l E angle) ⟨hx, hb, hml, hown, hts⟩ (va_cwS 1 hts gX8_sine_X8_sineOf rfl rfl rfl hdX8_sineOf.2 ⟨Nat.le_of_ble_eq_true rfl, Nat.le_of_ble_eq_true rfl⟩) hE hP hD [] rfl rfl hl.1 rfl rfl (Nat.le_of_ble_eq_true rfl) dX8_sine_9 (Nat.le_of_ble_eq_true rfl) (Nat.le_of_ble_eq_true rfl) ?_
  exact x_ir (by unfold sX8_sine_ok; try rfl) hx hb hr hlk dX8_sine_12
set_option maxHeartbeats 4000000 in
set_option maxRecDepth 100000 in
theorem kX8_sine_x1 (l : Launch) (E : XE) (hst : l.stackTraces = false) (h : Nat) (angle : Int32) (b1 : angle < 0 ∨ ¬ angle ≤ 4095) : xX l yX8_sine wsX8_sine ({ frames := 7, cells := 1, slots := 6, locals := 112 }) E [] [.ref h, .int angle] "java/lang/IllegalArgumentException" := by
  refine xX.of (cc := cX8_sine) (maxL := 2) (ret := (some .int)) (by decide) rfl (Nat.le_of_ble_eq_true rfl) ?_
  intro p e s m args below meth c ls hM hE hP hD hThr ht hl
  obtain ⟨hx, hb, hr, hml, hts, hown, hlk, hnm⟩ := hM
  have hl : lv_has ls 2 [(0, .ref h), (1, .int angle)] := hl
  refine lv_iload_n hx hb dX8_sine_0 rfl (lv_at hl 1 rfl) ?_
  refine lv_iconst (v := 0) hx hb dX8_sine_1 (by decide) ?_
  refine lv_sipush (v := 4095) hx hb dX8_sine_2 (by decide) ?_
  exact x_bS [.int angle, .int 0, .int 4095] (kX8_requireRange_bad l E hst angle 0 4095 b1) ⟨hx, hb, hml, hown, hts⟩ (va_cwS 3 hts gX8_sine_X8_requireRange rfl rfl rfl hdX8_requireRange.2 ⟨Nat.le_of_ble_eq_true rfl, Nat.le_of_ble_eq_true rfl⟩) hE hP hD hThr ht hlk [] rfl rfl hl.1 rfl rfl (Nat.le_of_ble_eq_true rfl) dX8_sine_5 (Nat.le_of_ble_eq_true rfl) (Nat.le_of_ble_eq_true rfl)
def sX8_lean_ok (angle : Int32) : Int32 :=
  sX8_leanOf angle
theorem hdX8_lean : yX8_lean.cls = RX8 ∧ yX8_lean.cls ≠ "java/lang/invoke/MethodHandle" ∧ yX8_lean.cls ≠ "java/lang/invoke/VarHandle" ∧ (parseMethodDescriptor yX8_lean.desc).map (fun d => d.parameters.length) = some 1 := by decide +kernel
set_option maxHeartbeats 4000000 in
set_option maxRecDepth 100000 in
theorem kX8_lean_ok (l : Launch) (E : XE) (h : Nat) (angle : Int32) (o1a : ¬ angle < 0) (o1b : angle ≤ 4095) : xR l yX8_lean wsX8_lean ({ frames := 1, cells := 0, slots := 0, locals := 22 }) E [] [.ref h, .int angle] (.int (sX8_lean_ok angle)) := by
  refine xR.of (cc := cX8_lean) (maxL := 2) (ret := (some .int)) (by decide) rfl (Nat.le_of_ble_eq_true rfl) ?_
  intro p e s m args below meth c ls hM hE hP hD hl
  obtain ⟨hx, hb, hr, hml, hts, hown, hlk, hnm⟩ := hM
  have hl : lv_has ls 2 [(0, .ref h), (1, .int angle)] := hl
  refine lv_iload_n hx hb dX8_lean_0 rfl (lv_at hl 1 rfl) ?_
  refine lv_iconst (v := 0) hx hb dX8_lean_1 (by decide) ?_
  refine lv_sipush (v := 4095) hx hb dX8_lean_2 (by decide) ?_
  refine x_r0S [.int angle, .int 0, .int 4095] (kX8_requireRange_ok l E angle 0 4095 o1a o1b) ⟨hx, hb, hml, hown, hts⟩ (va_cwS 3 hts gX8_lean_X8_requireRange rfl rfl rfl hdX8_requireRange.2 ⟨Nat.le_of_ble_eq_true rfl, Nat.le_of_ble_eq_true rfl⟩) hE hP hD [] rfl rfl hl.1 rfl rfl (Nat.le_of_ble_eq_true rfl) dX8_lean_5 (Nat.le_of_ble_eq_true rfl) (Nat.le_of_ble_eq_true rfl) ?_
  refine W.eq (g2 := F0 m 8 ls []) rfl ?_
  refine lv_iload_n hx hb dX8_lean_8 rfl (lv_at hl 1 rfl) ?_
  refine x_rS [.int angle] (kX8_leanOf l E angle) ⟨hx, hb, hml, hown, hts⟩ (va_cwS 1 hts gX8_lean_X8_leanOf rfl rfl rfl hdX8_leanOf.2 ⟨Nat.le_of_ble_eq_true rfl, Nat.le_of_ble_eq_true rfl⟩) hE hP hD [] rfl rfl hl.1 rfl rfl (Nat.le_of_ble_eq_true rfl) dX8_lean_9 (Nat.le_of_ble_eq_true rfl) (Nat.le_of_ble_eq_true rfl) ?_
  exact x_ir (by unfold sX8_lean_ok; try rfl) hx hb hr hlk dX8_lean_12
set_option maxHeartbeats 4000000 in
set_option maxRecDepth 100000 in
theorem kX8_lean_x1 (l : Launch) (E : XE) (hst : l.stackTraces = false) (h : Nat) (angle : Int32) (b1 : angle < 0 ∨ ¬ angle ≤ 4095) : xX l yX8_lean wsX8_lean ({ frames := 7, cells := 1, slots := 6, locals := 112 }) E [] [.ref h, .int angle] "java/lang/IllegalArgumentException" := by
  refine xX.of (cc := cX8_lean) (maxL := 2) (ret := (some .int)) (by decide) rfl (Nat.le_of_ble_eq_true rfl) ?_
  intro p e s m args below meth c ls hM hE hP hD hThr ht hl
  obtain ⟨hx, hb, hr, hml, hts, hown, hlk, hnm⟩ := hM
  have hl : lv_has ls 2 [(0, .ref h), (1, .int angle)] := hl
  refine lv_iload_n hx hb dX8_lean_0 rfl (lv_at hl 1 rfl) ?_
  refine lv_iconst (v := 0) hx hb dX8_lean_1 (by decide) ?_
  refine lv_sipush (v := 4095) hx hb dX8_lean_2 (by decide) ?_
  exact x_bS [.int angle, .int 0, .int 4095] (kX8_requireRange_bad l E hst angle 0 4095 b1) ⟨hx, hb, hml, hown, hts⟩ (va_cwS 3 hts gX8_lean_X8_requireRange rfl rfl rfl hdX8_requireRange.2 ⟨Nat.le_of_ble_eq_true rfl, Nat.le_of_ble_eq_true rfl⟩) hE hP hD hThr ht hlk [] rfl rfl hl.1 rfl rfl (Nat.le_of_ble_eq_true rfl) dX8_lean_5 (Nat.le_of_ble_eq_true rfl) (Nat.le_of_ble_eq_true rfl)
def sX8_state_ok (tick : Int32) (mode : Int32) (lock : Int32) (force : Int32) (switches : Int32) (stops : Int32) (resets : Int32) (x : Int32) (v : Int32) (what : Int32) : Int32 :=
  sX6_partOf tick mode lock force switches stops resets x v what
theorem hdX8_state : yX8_state.cls = RX8 ∧ yX8_state.cls ≠ "java/lang/invoke/MethodHandle" ∧ yX8_state.cls ≠ "java/lang/invoke/VarHandle" ∧ (parseMethodDescriptor yX8_state.desc).map (fun d => d.parameters.length) = some 1 := by decide +kernel
set_option maxHeartbeats 4000000 in
set_option maxRecDepth 100000 in
theorem kX8_state_ok (l : Launch) (E : XE) (h : Nat) (pl : Nat) (rd : Nat) (nw : Nat) (ah : Nat) (tr : Nat) (hi : Nat) (s0 : Nat) (s1 : Nat) (errorAt : Int32) (mo : Nat) (re : Nat) (rc : Nat) (tick : Int32) (mode : Int32) (lock : Int32) (force : Int32) (switches : Int32) (stops : Int32) (resets : Int32) (latestStop : Int32) (x : Int32) (v : Int32) (a1 : Int32) (a2 : Int32) (w1 : Int32) (w2 : Int32) (what : Int32) (o1a : ¬ what < 0) (o1b : what ≤ 8) : xR l yX8_state wsX8_state ({ frames := 1, cells := 0, slots := 0, locals := 22 }) E [(h, .inr (8, [.ref pl, .ref rd, .ref nw, .ref ah, .ref tr, .ref hi, .ref s0, .ref s1, .int errorAt])), (nw, .inr (6, [.ref mo, .ref re, .ref rc, .int tick, .int mode, .int lock, .int force, .int switches, .int stops, .int resets, .int latestStop])), (mo, .inr (1, [.int x, .int v, .int a1, .int a2, .int w1, .int w2]))] [.ref h, .int what] (.int (sX8_state_ok tick mode lock force switches stops resets x v what)) := by
  refine xR.of (cc := cX8_state) (maxL := 2) (ret := (some .int)) (by decide) rfl (Nat.le_of_ble_eq_true rfl) ?_
  intro p e s m args below meth c ls hM hE hP hD hl
  obtain ⟨hx, hb, hr, hml, hts, hown, hlk, hnm⟩ := hM
  have g_1 : (Cond.fieldLink RX8 26 "RailPendulum" "now" "LRailPendulum$Situation;").before args s = true := hts (Cond.fieldLink RX8 26 "RailPendulum" "now" "LRailPendulum$Situation;") (by decide +kernel)
  have g_2 : ∀ w ∈ wsX80, w ∈ wsX8_state := by decide +kernel
  have hl : lv_has ls 2 [(0, .ref h), (1, .int what)] := hl
  refine lv_iload_n hx hb dX8_state_0 rfl (lv_at hl 1 rfl) ?_
  refine lv_iconst (v := 0) hx hb dX8_state_1 (by decide) ?_
  refine lv_bipush (v := 8) hx hb dX8_state_2 (by decide) ?_
  refine x_r0S [.int what, .int 0, .int 8] (kX8_requireRange_ok l E what 0 8 o1a o1b) ⟨hx, hb, hml, hown, hts⟩ (va_cwS 3 hts gX8_state_X8_requireRange rfl rfl rfl hdX8_requireRange.2 ⟨Nat.le_of_ble_eq_true rfl, Nat.le_of_ble_eq_true rfl⟩) hE hP hD [] rfl rfl hl.1 rfl rfl (Nat.le_of_ble_eq_true rfl) dX8_state_4 (Nat.le_of_ble_eq_true rfl) (Nat.le_of_ble_eq_true rfl) ?_
  refine W.eq (g2 := F0 m 7 ls []) rfl ?_
  refine lv_aload_n hx hb dX8_state_7 rfl (lv_at hl 0 rfl) ?_
  refine va_get (D := E.1) (ci := 8) (v := .ref nw) (C := RX8) (T := TX8) (N := 9) hx hb hts g_2 hown hE.1 hP 0 rfl rfl 2 (by decide) g_1 (fun _ h9 => h9) rfl dX8_state_8 ?_
  refine lv_iload_n hx hb dX8_state_11 rfl (lv_at hl 1 rfl) ?_
  refine x_rV [.int what] (kX6_partOf l E nw mo re rc tick mode lock force switches stops resets latestStop x v a1 a2 w1 w2 what) ⟨hx, hb, hml, hown, hts⟩ (cwV 1 hts gX8_state_X6_partOf rfl rfl rfl hdX6_partOf ⟨Nat.le_of_ble_eq_true rfl, Nat.le_of_ble_eq_true rfl⟩) hE hP hD [1, 2] rfl rfl (ci := 6) (q0 := 1) rfl rfl rfl hl.1 rfl rfl (Nat.le_of_ble_eq_true rfl) dX8_state_12 (Nat.le_of_ble_eq_true rfl) (Nat.le_of_ble_eq_true rfl) ?_
  exact x_ir (by unfold sX8_state_ok; try rfl) hx hb hr hlk dX8_state_15
set_option maxHeartbeats 4000000 in
set_option maxRecDepth 100000 in
theorem kX8_state_x1 (l : Launch) (E : XE) (hst : l.stackTraces = false) (h : Nat) (what : Int32) (b1 : what < 0 ∨ ¬ what ≤ 8) : xX l yX8_state wsX8_state ({ frames := 7, cells := 1, slots := 6, locals := 112 }) E [] [.ref h, .int what] "java/lang/IllegalArgumentException" := by
  refine xX.of (cc := cX8_state) (maxL := 2) (ret := (some .int)) (by decide) rfl (Nat.le_of_ble_eq_true rfl) ?_
  intro p e s m args below meth c ls hM hE hP hD hThr ht hl
  obtain ⟨hx, hb, hr, hml, hts, hown, hlk, hnm⟩ := hM
  have hl : lv_has ls 2 [(0, .ref h), (1, .int what)] := hl
  refine lv_iload_n hx hb dX8_state_0 rfl (lv_at hl 1 rfl) ?_
  refine lv_iconst (v := 0) hx hb dX8_state_1 (by decide) ?_
  refine lv_bipush (v := 8) hx hb dX8_state_2 (by decide) ?_
  exact x_bS [.int what, .int 0, .int 8] (kX8_requireRange_bad l E hst what 0 8 b1) ⟨hx, hb, hml, hown, hts⟩ (va_cwS 3 hts gX8_state_X8_requireRange rfl rfl rfl hdX8_requireRange.2 ⟨Nat.le_of_ble_eq_true rfl, Nat.le_of_ble_eq_true rfl⟩) hE hP hD hThr ht hlk [] rfl rfl hl.1 rfl rfl (Nat.le_of_ble_eq_true rfl) dX8_state_4 (Nat.le_of_ble_eq_true rfl) (Nat.le_of_ble_eq_true rfl)
def sX8_link_ok (a1 : Int32) (a2 : Int32) (w1 : Int32) (w2 : Int32) (link : Int32) (what : Int32) : Int32 :=
  sX1_partOfLink a1 a2 w1 w2 link what
theorem hdX8_link : yX8_link.cls = RX8 ∧ yX8_link.cls ≠ "java/lang/invoke/MethodHandle" ∧ yX8_link.cls ≠ "java/lang/invoke/VarHandle" ∧ (parseMethodDescriptor yX8_link.desc).map (fun d => d.parameters.length) = some 2 := by decide +kernel
set_option maxHeartbeats 4000000 in
set_option maxRecDepth 100000 in
theorem kX8_link_ok (l : Launch) (E : XE) (h : Nat) (pl : Nat) (rd : Nat) (nw : Nat) (ah : Nat) (tr : Nat) (hi : Nat) (s0 : Nat) (s1 : Nat) (errorAt : Int32) (mo : Nat) (re : Nat) (rc : Nat) (tick : Int32) (mode : Int32) (lock : Int32) (force : Int32) (switches : Int32) (stops : Int32) (resets : Int32) (latestStop : Int32) (x : Int32) (v : Int32) (a1 : Int32) (a2 : Int32) (w1 : Int32) (w2 : Int32) (link : Int32) (what : Int32) (o1a : ¬ link < 1) (o1b : link ≤ 2) (o2a : ¬ what < 0) (o2b : what ≤ 2) : xR l yX8_link wsX8_link ({ frames := 2, cells := 0, slots := 0, locals := 43 }) E [(h, .inr (8, [.ref pl, .ref rd, .ref nw, .ref ah, .ref tr, .ref hi, .ref s0, .ref s1, .int errorAt])), (nw, .inr (6, [.ref mo, .ref re, .ref rc, .int tick, .int mode, .int lock, .int force, .int switches, .int stops, .int resets, .int latestStop])), (mo, .inr (1, [.int x, .int v, .int a1, .int a2, .int w1, .int w2]))] [.ref h, .int link, .int what] (.int (sX8_link_ok a1 a2 w1 w2 link what)) := by
  refine xR.of (cc := cX8_link) (maxL := 3) (ret := (some .int)) (by decide) rfl (Nat.le_of_ble_eq_true rfl) ?_
  intro p e s m args below meth c ls hM hE hP hD hl
  obtain ⟨hx, hb, hr, hml, hts, hown, hlk, hnm⟩ := hM
  have g_1 : (Cond.fieldLink RX8 26 "RailPendulum" "now" "LRailPendulum$Situation;").before args s = true := hts (Cond.fieldLink RX8 26 "RailPendulum" "now" "LRailPendulum$Situation;") (by decide +kernel)
  have g_2 : ∀ w ∈ wsX80, w ∈ wsX8_link := by decide +kernel
  have g_3 : (Cond.fieldLinkNest RX8 109 "RailPendulum$Situation" "motion" "LRailPendulum$Motion;" "RailPendulum").before args s = true := va_Nw.use rfl (hE.2 (Cond.fieldLinkNest RX8 109 "RailPendulum$Situation" "motion" "LRailPendulum$Motion;" "RailPendulum") (by decide +kernel))
  have g_4 : ∀ w ∈ wsX60, w ∈ wsX8_link := by decide +kernel
  have hl : lv_has ls 3 [(0, .ref h), (1, .int link), (2, .int what)] := hl
  refine lv_iload_n hx hb dX8_link_0 rfl (lv_at hl 1 rfl) ?_
  refine x_r0S [.int link] (kX8_requireLink_ok l E link o1a o1b) ⟨hx, hb, hml, hown, hts⟩ (va_cwS 1 hts gX8_link_X8_requireLink rfl rfl rfl hdX8_requireLink.2 ⟨Nat.le_of_ble_eq_true rfl, Nat.le_of_ble_eq_true rfl⟩) hE hP hD [] rfl rfl hl.1 rfl rfl (Nat.le_of_ble_eq_true rfl) dX8_link_1 (Nat.le_of_ble_eq_true rfl) (Nat.le_of_ble_eq_true rfl) ?_
  refine W.eq (g2 := F0 m 4 ls []) rfl ?_
  refine lv_iload_n hx hb dX8_link_4 rfl (lv_at hl 2 rfl) ?_
  refine lv_iconst (v := 0) hx hb dX8_link_5 (by decide) ?_
  refine lv_iconst (v := 2) hx hb dX8_link_6 (by decide) ?_
  refine x_r0S [.int what, .int 0, .int 2] (kX8_requireRange_ok l E what 0 2 o2a o2b) ⟨hx, hb, hml, hown, hts⟩ (va_cwS 3 hts gX8_link_X8_requireRange rfl rfl rfl hdX8_requireRange.2 ⟨Nat.le_of_ble_eq_true rfl, Nat.le_of_ble_eq_true rfl⟩) hE hP hD [] rfl rfl hl.1 rfl rfl (Nat.le_of_ble_eq_true rfl) dX8_link_7 (Nat.le_of_ble_eq_true rfl) (Nat.le_of_ble_eq_true rfl) ?_
  refine W.eq (g2 := F0 m 10 ls []) rfl ?_
  refine lv_aload_n hx hb dX8_link_10 rfl (lv_at hl 0 rfl) ?_
  refine va_get (D := E.1) (ci := 8) (v := .ref nw) (C := RX8) (T := TX8) (N := 9) hx hb hts g_2 hown hE.1 hP 0 rfl rfl 2 (by decide) g_1 (fun _ h9 => h9) rfl dX8_link_11 ?_
  refine va_getN (D := E.1) (ci := 6) (v := .ref mo) (C := RX6) (T := TX6) (N := 11) hx hb hts g_4 hown hE.1 hP 1 rfl rfl 0 (by decide) g_3 (fun _ h9 => h9) rfl dX8_link_14 ?_
  refine lv_iload_n hx hb dX8_link_17 rfl (lv_at hl 1 rfl) ?_
  refine lv_iload_n hx hb dX8_link_18 rfl (lv_at hl 2 rfl) ?_
  refine x_rV [.int link, .int what] (kX1_partOfLink l E mo x v a1 a2 w1 w2 link what) ⟨hx, hb, hml, hown, hts⟩ (cwV 2 hts gX8_link_X1_partOfLink rfl rfl rfl hdX1_partOfLink ⟨Nat.le_of_ble_eq_true rfl, Nat.le_of_ble_eq_true rfl⟩) hE hP hD [2] rfl rfl (ci := 1) (q0 := 2) rfl rfl rfl hl.1 rfl rfl (Nat.le_of_ble_eq_true rfl) dX8_link_19 (Nat.le_of_ble_eq_true rfl) (Nat.le_of_ble_eq_true rfl) ?_
  exact x_ir (by unfold sX8_link_ok; try rfl) hx hb hr hlk dX8_link_22
set_option maxHeartbeats 4000000 in
set_option maxRecDepth 100000 in
theorem kX8_link_x1 (l : Launch) (E : XE) (hst : l.stackTraces = false) (h : Nat) (link : Int32) (what : Int32) (b1 : link < 1 ∨ ¬ link ≤ 2) : xX l yX8_link wsX8_link ({ frames := 7, cells := 1, slots := 6, locals := 110 }) E [] [.ref h, .int link, .int what] "java/lang/IndexOutOfBoundsException" := by
  refine xX.of (cc := cX8_link) (maxL := 3) (ret := (some .int)) (by decide) rfl (Nat.le_of_ble_eq_true rfl) ?_
  intro p e s m args below meth c ls hM hE hP hD hThr ht hl
  obtain ⟨hx, hb, hr, hml, hts, hown, hlk, hnm⟩ := hM
  have hl : lv_has ls 3 [(0, .ref h), (1, .int link), (2, .int what)] := hl
  refine lv_iload_n hx hb dX8_link_0 rfl (lv_at hl 1 rfl) ?_
  exact x_bS [.int link] (kX8_requireLink_bad l E hst link b1) ⟨hx, hb, hml, hown, hts⟩ (va_cwS 1 hts gX8_link_X8_requireLink rfl rfl rfl hdX8_requireLink.2 ⟨Nat.le_of_ble_eq_true rfl, Nat.le_of_ble_eq_true rfl⟩) hE hP hD hThr ht hlk [] rfl rfl hl.1 rfl rfl (Nat.le_of_ble_eq_true rfl) dX8_link_1 (Nat.le_of_ble_eq_true rfl) (Nat.le_of_ble_eq_true rfl)
set_option maxHeartbeats 4000000 in
set_option maxRecDepth 100000 in
theorem kX8_link_x2 (l : Launch) (E : XE) (hst : l.stackTraces = false) (h : Nat) (link : Int32) (what : Int32) (o1a : ¬ link < 1) (o1b : link ≤ 2) (b2 : what < 0 ∨ ¬ what ≤ 2) : xX l yX8_link wsX8_link ({ frames := 7, cells := 1, slots := 6, locals := 112 }) E [] [.ref h, .int link, .int what] "java/lang/IllegalArgumentException" := by
  refine xX.of (cc := cX8_link) (maxL := 3) (ret := (some .int)) (by decide) rfl (Nat.le_of_ble_eq_true rfl) ?_
  intro p e s m args below meth c ls hM hE hP hD hThr ht hl
  obtain ⟨hx, hb, hr, hml, hts, hown, hlk, hnm⟩ := hM
  have hl : lv_has ls 3 [(0, .ref h), (1, .int link), (2, .int what)] := hl
  refine lv_iload_n hx hb dX8_link_0 rfl (lv_at hl 1 rfl) ?_
  refine x_r0S [.int link] (kX8_requireLink_ok l E link o1a o1b) ⟨hx, hb, hml, hown, hts⟩ (va_cwS 1 hts gX8_link_X8_requireLink rfl rfl rfl hdX8_requireLink.2 ⟨Nat.le_of_ble_eq_true rfl, Nat.le_of_ble_eq_true rfl⟩) hE hP hD [] rfl rfl hl.1 rfl rfl (Nat.le_of_ble_eq_true rfl) dX8_link_1 (Nat.le_of_ble_eq_true rfl) (Nat.le_of_ble_eq_true rfl) ?_
  refine W.eq (g2 := F0 m 4 ls []) rfl ?_
  refine lv_iload_n hx hb dX8_link_4 rfl (lv_at hl 2 rfl) ?_
  refine lv_iconst (v := 0) hx hb dX8_link_5 (by decide) ?_
  refine lv_iconst (v := 2) hx hb dX8_link_6 (by decide) ?_
  exact x_bS [.int what, .int 0, .int 2] (kX8_requireRange_bad l E hst what 0 2 b2) ⟨hx, hb, hml, hown, hts⟩ (va_cwS 3 hts gX8_link_X8_requireRange rfl rfl rfl hdX8_requireRange.2 ⟨Nat.le_of_ble_eq_true rfl, Nat.le_of_ble_eq_true rfl⟩) hE hP hD hThr ht hlk [] rfl rfl hl.1 rfl rfl (Nat.le_of_ble_eq_true rfl) dX8_link_7 (Nat.le_of_ble_eq_true rfl) (Nat.le_of_ble_eq_true rfl)
def sX8_energy_ok (num : Nat → Int32) (a1 : Int32) (a2 : Int32) (w1 : Int32) (w2 : Int32) (link : Int32) : Int64 :=
  sX2_energyOf num a1 a2 w1 w2 link
theorem hdX8_energy : yX8_energy.cls = RX8 ∧ yX8_energy.cls ≠ "java/lang/invoke/MethodHandle" ∧ yX8_energy.cls ≠ "java/lang/invoke/VarHandle" ∧ (parseMethodDescriptor yX8_energy.desc).map (fun d => d.parameters.length) = some 1 := by decide +kernel
set_option maxHeartbeats 4000000 in
set_option maxRecDepth 100000 in
theorem kX8_energy_ok (l : Launch) (E : XE) (h : Nat) (pl : Nat) (rd : Nat) (nw : Nat) (ah : Nat) (tr : Nat) (hi : Nat) (s0 : Nat) (s1 : Nat) (errorAt : Int32) (an : Nat) (num : Nat → Int32) (mo : Nat) (re : Nat) (rc : Nat) (tick : Int32) (mode : Int32) (lock : Int32) (force : Int32) (switches : Int32) (stops : Int32) (resets : Int32) (latestStop : Int32) (x : Int32) (v : Int32) (a1 : Int32) (a2 : Int32) (w1 : Int32) (w2 : Int32) (link : Int32) (o1a : ¬ link < 1) (o1b : link ≤ 2) : xR l yX8_energy wsX8_energy ({ frames := 2, cells := 0, slots := 0, locals := 52 }) E [(h, .inr (8, [.ref pl, .ref rd, .ref nw, .ref ah, .ref tr, .ref hi, .ref s0, .ref s1, .int errorAt])), (pl, .inr (2, [.ref an])), (an, .inl (E.2.1, 24, .inl num)), (nw, .inr (6, [.ref mo, .ref re, .ref rc, .int tick, .int mode, .int lock, .int force, .int switches, .int stops, .int resets, .int latestStop])), (mo, .inr (1, [.int x, .int v, .int a1, .int a2, .int w1, .int w2]))] [.ref h, .int link] (.long (sX8_energy_ok num a1 a2 w1 w2 link)) := by
  refine xR.of (cc := cX8_energy) (maxL := 2) (ret := (some .long)) (by decide) rfl (Nat.le_of_ble_eq_true rfl) ?_
  intro p e s m args below meth c ls hM hE hP hD hl
  obtain ⟨hx, hb, hr, hml, hts, hown, hlk, hnm⟩ := hM
  have g_1 : (Cond.fieldLink RX8 10 "RailPendulum" "plant" "LRailPendulum$Plant;").before args s = true := hts (Cond.fieldLink RX8 10 "RailPendulum" "plant" "LRailPendulum$Plant;") (by decide +kernel)
  have g_2 : ∀ w ∈ wsX80, w ∈ wsX8_energy := by decide +kernel
  have g_3 : (Cond.fieldLink RX8 26 "RailPendulum" "now" "LRailPendulum$Situation;").before args s = true := hts (Cond.fieldLink RX8 26 "RailPendulum" "now" "LRailPendulum$Situation;") (by decide +kernel)
  have g_4 : (Cond.fieldLinkNest RX8 109 "RailPendulum$Situation" "motion" "LRailPendulum$Motion;" "RailPendulum").before args s = true := va_Nw.use rfl (hE.2 (Cond.fieldLinkNest RX8 109 "RailPendulum$Situation" "motion" "LRailPendulum$Motion;" "RailPendulum") (by decide +kernel))
  have g_5 : ∀ w ∈ wsX60, w ∈ wsX8_energy := by decide +kernel
  have hl : lv_has ls 2 [(0, .ref h), (1, .int link)] := hl
  refine lv_iload_n hx hb dX8_energy_0 rfl (lv_at hl 1 rfl) ?_
  refine x_r0S [.int link] (kX8_requireLink_ok l E link o1a o1b) ⟨hx, hb, hml, hown, hts⟩ (va_cwS 1 hts gX8_energy_X8_requireLink rfl rfl rfl hdX8_requireLink.2 ⟨Nat.le_of_ble_eq_true rfl, Nat.le_of_ble_eq_true rfl⟩) hE hP hD [] rfl rfl hl.1 rfl rfl (Nat.le_of_ble_eq_true rfl) dX8_energy_1 (Nat.le_of_ble_eq_true rfl) (Nat.le_of_ble_eq_true rfl) ?_
  refine W.eq (g2 := F0 m 4 ls []) rfl ?_
  refine lv_aload_n hx hb dX8_energy_4 rfl (lv_at hl 0 rfl) ?_
  refine va_get (D := E.1) (ci := 8) (v := .ref pl) (C := RX8) (T := TX8) (N := 9) hx hb hts g_2 hown hE.1 hP 0 rfl rfl 0 (by decide) g_1 (fun _ h9 => h9) rfl dX8_energy_5 ?_
  refine lv_iload_n hx hb dX8_energy_8 rfl (lv_at hl 1 rfl) ?_
  refine lv_aload_n hx hb dX8_energy_9 rfl (lv_at hl 0 rfl) ?_
  refine va_get (D := E.1) (ci := 8) (v := .ref nw) (C := RX8) (T := TX8) (N := 9) hx hb hts g_2 hown hE.1 hP 0 rfl rfl 2 (by decide) g_3 (fun _ h9 => h9) rfl dX8_energy_10 ?_
  refine va_getN (D := E.1) (ci := 6) (v := .ref mo) (C := RX6) (T := TX6) (N := 11) hx hb hts g_5 hown hE.1 hP 3 rfl rfl 0 (by decide) g_4 (fun _ h9 => h9) rfl dX8_energy_13 ?_
  refine x_rV [.int link, .ref mo] (kX2_energyOf l E pl an num mo x v a1 a2 w1 w2 link) ⟨hx, hb, hml, hown, hts⟩ (cwV 2 hts gX8_energy_X2_energyOf rfl rfl rfl hdX2_energyOf ⟨Nat.le_of_ble_eq_true rfl, Nat.le_of_ble_eq_true rfl⟩) hE hP hD [1, 2, 4] rfl rfl (ci := 2) (q0 := 1) rfl rfl rfl hl.1 rfl rfl (Nat.le_of_ble_eq_true rfl) dX8_energy_16 (Nat.le_of_ble_eq_true rfl) (Nat.le_of_ble_eq_true rfl) ?_
  exact x_lr (by unfold sX8_energy_ok; try rfl) hx hb hr hlk dX8_energy_19
set_option maxHeartbeats 4000000 in
set_option maxRecDepth 100000 in
theorem kX8_energy_x1 (l : Launch) (E : XE) (hst : l.stackTraces = false) (h : Nat) (link : Int32) (b1 : link < 1 ∨ ¬ link ≤ 2) : xX l yX8_energy wsX8_energy ({ frames := 7, cells := 1, slots := 6, locals := 110 }) E [] [.ref h, .int link] "java/lang/IndexOutOfBoundsException" := by
  refine xX.of (cc := cX8_energy) (maxL := 2) (ret := (some .long)) (by decide) rfl (Nat.le_of_ble_eq_true rfl) ?_
  intro p e s m args below meth c ls hM hE hP hD hThr ht hl
  obtain ⟨hx, hb, hr, hml, hts, hown, hlk, hnm⟩ := hM
  have hl : lv_has ls 2 [(0, .ref h), (1, .int link)] := hl
  refine lv_iload_n hx hb dX8_energy_0 rfl (lv_at hl 1 rfl) ?_
  exact x_bS [.int link] (kX8_requireLink_bad l E hst link b1) ⟨hx, hb, hml, hown, hts⟩ (va_cwS 1 hts gX8_energy_X8_requireLink rfl rfl rfl hdX8_requireLink.2 ⟨Nat.le_of_ble_eq_true rfl, Nat.le_of_ble_eq_true rfl⟩) hE hP hD hThr ht hlk [] rfl rfl hl.1 rfl rfl (Nat.le_of_ble_eq_true rfl) dX8_energy_1 (Nat.le_of_ble_eq_true rfl) (Nat.le_of_ble_eq_true rfl)
def sX8_target_ok (num : Nat → Int32) (link : Int32) : Int32 :=
  sX2_targetOf num link
theorem hdX8_target : yX8_target.cls = RX8 ∧ yX8_target.cls ≠ "java/lang/invoke/MethodHandle" ∧ yX8_target.cls ≠ "java/lang/invoke/VarHandle" ∧ (parseMethodDescriptor yX8_target.desc).map (fun d => d.parameters.length) = some 1 := by decide +kernel
set_option maxHeartbeats 4000000 in
set_option maxRecDepth 100000 in
theorem kX8_target_ok (l : Launch) (E : XE) (h : Nat) (pl : Nat) (rd : Nat) (nw : Nat) (ah : Nat) (tr : Nat) (hi : Nat) (s0 : Nat) (s1 : Nat) (errorAt : Int32) (an : Nat) (num : Nat → Int32) (link : Int32) (o1a : ¬ link < 1) (o1b : link ≤ 2) : xR l yX8_target wsX8_target ({ frames := 2, cells := 0, slots := 0, locals := 42 }) E [(h, .inr (8, [.ref pl, .ref rd, .ref nw, .ref ah, .ref tr, .ref hi, .ref s0, .ref s1, .int errorAt])), (pl, .inr (2, [.ref an])), (an, .inl (E.2.1, 24, .inl num))] [.ref h, .int link] (.int (sX8_target_ok num link)) := by
  refine xR.of (cc := cX8_target) (maxL := 2) (ret := (some .int)) (by decide) rfl (Nat.le_of_ble_eq_true rfl) ?_
  intro p e s m args below meth c ls hM hE hP hD hl
  obtain ⟨hx, hb, hr, hml, hts, hown, hlk, hnm⟩ := hM
  have g_1 : (Cond.fieldLink RX8 10 "RailPendulum" "plant" "LRailPendulum$Plant;").before args s = true := hts (Cond.fieldLink RX8 10 "RailPendulum" "plant" "LRailPendulum$Plant;") (by decide +kernel)
  have g_2 : ∀ w ∈ wsX80, w ∈ wsX8_target := by decide +kernel
  have hl : lv_has ls 2 [(0, .ref h), (1, .int link)] := hl
  refine lv_iload_n hx hb dX8_target_0 rfl (lv_at hl 1 rfl) ?_
  refine x_r0S [.int link] (kX8_requireLink_ok l E link o1a o1b) ⟨hx, hb, hml, hown, hts⟩ (va_cwS 1 hts gX8_target_X8_requireLink rfl rfl rfl hdX8_requireLink.2 ⟨Nat.le_of_ble_eq_true rfl, Nat.le_of_ble_eq_true rfl⟩) hE hP hD [] rfl rfl hl.1 rfl rfl (Nat.le_of_ble_eq_true rfl) dX8_target_1 (Nat.le_of_ble_eq_true rfl) (Nat.le_of_ble_eq_true rfl) ?_
  refine W.eq (g2 := F0 m 4 ls []) rfl ?_
  refine lv_aload_n hx hb dX8_target_4 rfl (lv_at hl 0 rfl) ?_
  refine va_get (D := E.1) (ci := 8) (v := .ref pl) (C := RX8) (T := TX8) (N := 9) hx hb hts g_2 hown hE.1 hP 0 rfl rfl 0 (by decide) g_1 (fun _ h9 => h9) rfl dX8_target_5 ?_
  refine lv_iload_n hx hb dX8_target_8 rfl (lv_at hl 1 rfl) ?_
  refine x_rV [.int link] (kX2_targetOf l E pl an num link) ⟨hx, hb, hml, hown, hts⟩ (cwV 1 hts gX8_target_X2_targetOf rfl rfl rfl hdX2_targetOf ⟨Nat.le_of_ble_eq_true rfl, Nat.le_of_ble_eq_true rfl⟩) hE hP hD [1, 2] rfl rfl (ci := 2) (q0 := 1) rfl rfl rfl hl.1 rfl rfl (Nat.le_of_ble_eq_true rfl) dX8_target_9 (Nat.le_of_ble_eq_true rfl) (Nat.le_of_ble_eq_true rfl) ?_
  exact x_ir (by unfold sX8_target_ok; try rfl) hx hb hr hlk dX8_target_12
set_option maxHeartbeats 4000000 in
set_option maxRecDepth 100000 in
theorem kX8_target_x1 (l : Launch) (E : XE) (hst : l.stackTraces = false) (h : Nat) (link : Int32) (b1 : link < 1 ∨ ¬ link ≤ 2) : xX l yX8_target wsX8_target ({ frames := 7, cells := 1, slots := 6, locals := 110 }) E [] [.ref h, .int link] "java/lang/IndexOutOfBoundsException" := by
  refine xX.of (cc := cX8_target) (maxL := 2) (ret := (some .int)) (by decide) rfl (Nat.le_of_ble_eq_true rfl) ?_
  intro p e s m args below meth c ls hM hE hP hD hThr ht hl
  obtain ⟨hx, hb, hr, hml, hts, hown, hlk, hnm⟩ := hM
  have hl : lv_has ls 2 [(0, .ref h), (1, .int link)] := hl
  refine lv_iload_n hx hb dX8_target_0 rfl (lv_at hl 1 rfl) ?_
  exact x_bS [.int link] (kX8_requireLink_bad l E hst link b1) ⟨hx, hb, hml, hown, hts⟩ (va_cwS 1 hts gX8_target_X8_requireLink rfl rfl rfl hdX8_requireLink.2 ⟨Nat.le_of_ble_eq_true rfl, Nat.le_of_ble_eq_true rfl⟩) hE hP hD hThr ht hlk [] rfl rfl hl.1 rfl rfl (Nat.le_of_ble_eq_true rfl) dX8_target_1 (Nat.le_of_ble_eq_true rfl) (Nat.le_of_ble_eq_true rfl)
def sX8_switchesIn_ok (b1 : Int64) (b2 : Int64) (b3 : Int64) (b4 : Int64) (ticks : Int32) : Int32 :=
  sX4_countIn b1 b2 b3 b4 ticks
theorem hdX8_switchesIn : yX8_switchesIn.cls = RX8 ∧ yX8_switchesIn.cls ≠ "java/lang/invoke/MethodHandle" ∧ yX8_switchesIn.cls ≠ "java/lang/invoke/VarHandle" ∧ (parseMethodDescriptor yX8_switchesIn.desc).map (fun d => d.parameters.length) = some 1 := by decide +kernel
set_option maxHeartbeats 4000000 in
set_option maxRecDepth 100000 in
theorem kX8_switchesIn_ok (l : Launch) (E : XE) (h : Nat) (pl : Nat) (rd : Nat) (nw : Nat) (ah : Nat) (tr : Nat) (hi : Nat) (s0 : Nat) (s1 : Nat) (errorAt : Int32) (mo : Nat) (re : Nat) (rc : Nat) (tick : Int32) (mode : Int32) (lock : Int32) (force : Int32) (switches : Int32) (stops : Int32) (resets : Int32) (latestStop : Int32) (b1 : Int64) (b2 : Int64) (b3 : Int64) (b4 : Int64) (ticks : Int32) (o1a : ¬ ticks < 1) (o1b : ticks ≤ 200) : xR l yX8_switchesIn wsX8_switchesIn ({ frames := 2, cells := 0, slots := 0, locals := 42 }) E [(h, .inr (8, [.ref pl, .ref rd, .ref nw, .ref ah, .ref tr, .ref hi, .ref s0, .ref s1, .int errorAt])), (nw, .inr (6, [.ref mo, .ref re, .ref rc, .int tick, .int mode, .int lock, .int force, .int switches, .int stops, .int resets, .int latestStop])), (rc, .inr (4, [.long b1, .long b2, .long b3, .long b4]))] [.ref h, .int ticks] (.int (sX8_switchesIn_ok b1 b2 b3 b4 ticks)) := by
  refine xR.of (cc := cX8_switchesIn) (maxL := 2) (ret := (some .int)) (by decide) rfl (Nat.le_of_ble_eq_true rfl) ?_
  intro p e s m args below meth c ls hM hE hP hD hl
  obtain ⟨hx, hb, hr, hml, hts, hown, hlk, hnm⟩ := hM
  have g_1 : (Cond.fieldLink RX8 26 "RailPendulum" "now" "LRailPendulum$Situation;").before args s = true := hts (Cond.fieldLink RX8 26 "RailPendulum" "now" "LRailPendulum$Situation;") (by decide +kernel)
  have g_2 : ∀ w ∈ wsX80, w ∈ wsX8_switchesIn := by decide +kernel
  have g_3 : (Cond.fieldLinkNest RX8 130 "RailPendulum$Situation" "recent" "LRailPendulum$RecentSwitches;" "RailPendulum").before args s = true := va_Nw.use rfl (hE.2 (Cond.fieldLinkNest RX8 130 "RailPendulum$Situation" "recent" "LRailPendulum$RecentSwitches;" "RailPendulum") (by decide +kernel))
  have g_4 : ∀ w ∈ wsX60, w ∈ wsX8_switchesIn := by decide +kernel
  have hl : lv_has ls 2 [(0, .ref h), (1, .int ticks)] := hl
  refine lv_iload_n hx hb dX8_switchesIn_0 rfl (lv_at hl 1 rfl) ?_
  refine lv_iconst (v := 1) hx hb dX8_switchesIn_1 (by decide) ?_
  refine lv_sipush (v := 200) hx hb dX8_switchesIn_2 (by decide) ?_
  refine x_r0S [.int ticks, .int 1, .int 200] (kX8_requireRange_ok l E ticks 1 200 o1a o1b) ⟨hx, hb, hml, hown, hts⟩ (va_cwS 3 hts gX8_switchesIn_X8_requireRange rfl rfl rfl hdX8_requireRange.2 ⟨Nat.le_of_ble_eq_true rfl, Nat.le_of_ble_eq_true rfl⟩) hE hP hD [] rfl rfl hl.1 rfl rfl (Nat.le_of_ble_eq_true rfl) dX8_switchesIn_5 (Nat.le_of_ble_eq_true rfl) (Nat.le_of_ble_eq_true rfl) ?_
  refine W.eq (g2 := F0 m 8 ls []) rfl ?_
  refine lv_aload_n hx hb dX8_switchesIn_8 rfl (lv_at hl 0 rfl) ?_
  refine va_get (D := E.1) (ci := 8) (v := .ref nw) (C := RX8) (T := TX8) (N := 9) hx hb hts g_2 hown hE.1 hP 0 rfl rfl 2 (by decide) g_1 (fun _ h9 => h9) rfl dX8_switchesIn_9 ?_
  refine va_getN (D := E.1) (ci := 6) (v := .ref rc) (C := RX6) (T := TX6) (N := 11) hx hb hts g_4 hown hE.1 hP 1 rfl rfl 2 (by decide) g_3 (fun _ h9 => h9) rfl dX8_switchesIn_12 ?_
  refine lv_iload_n hx hb dX8_switchesIn_15 rfl (lv_at hl 1 rfl) ?_
  refine x_rV [.int ticks] (kX4_countIn l E rc b1 b2 b3 b4 ticks) ⟨hx, hb, hml, hown, hts⟩ (cwV 1 hts gX8_switchesIn_X4_countIn rfl rfl rfl hdX4_countIn ⟨Nat.le_of_ble_eq_true rfl, Nat.le_of_ble_eq_true rfl⟩) hE hP hD [2] rfl rfl (ci := 4) (q0 := 2) rfl rfl rfl hl.1 rfl rfl (Nat.le_of_ble_eq_true rfl) dX8_switchesIn_16 (Nat.le_of_ble_eq_true rfl) (Nat.le_of_ble_eq_true rfl) ?_
  exact x_ir (by unfold sX8_switchesIn_ok; try rfl) hx hb hr hlk dX8_switchesIn_19
set_option maxHeartbeats 4000000 in
set_option maxRecDepth 100000 in
theorem kX8_switchesIn_x1 (l : Launch) (E : XE) (hst : l.stackTraces = false) (h : Nat) (ticks : Int32) (b1 : ticks < 1 ∨ ¬ ticks ≤ 200) : xX l yX8_switchesIn wsX8_switchesIn ({ frames := 7, cells := 1, slots := 6, locals := 112 }) E [] [.ref h, .int ticks] "java/lang/IllegalArgumentException" := by
  refine xX.of (cc := cX8_switchesIn) (maxL := 2) (ret := (some .int)) (by decide) rfl (Nat.le_of_ble_eq_true rfl) ?_
  intro p e s m args below meth c ls hM hE hP hD hThr ht hl
  obtain ⟨hx, hb, hr, hml, hts, hown, hlk, hnm⟩ := hM
  have hl : lv_has ls 2 [(0, .ref h), (1, .int ticks)] := hl
  refine lv_iload_n hx hb dX8_switchesIn_0 rfl (lv_at hl 1 rfl) ?_
  refine lv_iconst (v := 1) hx hb dX8_switchesIn_1 (by decide) ?_
  refine lv_sipush (v := 200) hx hb dX8_switchesIn_2 (by decide) ?_
  exact x_bS [.int ticks, .int 1, .int 200] (kX8_requireRange_bad l E hst ticks 1 200 b1) ⟨hx, hb, hml, hown, hts⟩ (va_cwS 3 hts gX8_switchesIn_X8_requireRange rfl rfl rfl hdX8_requireRange.2 ⟨Nat.le_of_ble_eq_true rfl, Nat.le_of_ble_eq_true rfl⟩) hE hP hD hThr ht hlk [] rfl rfl hl.1 rfl rfl (Nat.le_of_ble_eq_true rfl) dX8_switchesIn_5 (Nat.le_of_ble_eq_true rfl) (Nat.le_of_ble_eq_true rfl)
def sX8_reason_ok (rs : Nat → Int32) (i : Int32) (j : Int32) : Int32 :=
  sX5_reasonAt rs i j
theorem hdX8_reason : yX8_reason.cls = RX8 ∧ yX8_reason.cls ≠ "java/lang/invoke/MethodHandle" ∧ yX8_reason.cls ≠ "java/lang/invoke/VarHandle" ∧ (parseMethodDescriptor yX8_reason.desc).map (fun d => d.parameters.length) = some 2 := by decide +kernel
set_option maxHeartbeats 4000000 in
set_option maxRecDepth 100000 in
theorem kX8_reason_ok (l : Launch) (E : XE) (h : Nat) (pl : Nat) (rd : Nat) (nw : Nat) (ah : Nat) (tr : Nat) (hi : Nat) (s0 : Nat) (s1 : Nat) (errorAt : Int32) (an : Nat) (num : Nat → Int32) (mo : Nat) (re : Nat) (rc : Nat) (tick : Int32) (mode : Int32) (lock : Int32) (force : Int32) (switches : Int32) (stops : Int32) (resets : Int32) (latestStop : Int32) (ar : Nat) (af : Nat) (rs : Nat → Int32) (i : Int32) (j : Int32) (o1a : ¬ (sX2_hasCell num i j) = 0) : xR l yX8_reason wsX8_reason ({ frames := 3, cells := 0, slots := 0, locals := 66 }) E [(h, .inr (8, [.ref pl, .ref rd, .ref nw, .ref ah, .ref tr, .ref hi, .ref s0, .ref s1, .int errorAt])), (pl, .inr (2, [.ref an])), (an, .inl (E.2.1, 24, .inl num)), (nw, .inr (6, [.ref mo, .ref re, .ref rc, .int tick, .int mode, .int lock, .int force, .int switches, .int stops, .int resets, .int latestStop])), (re, .inr (5, [.ref ar, .ref af])), (ar, .inl (E.2.1, 49, .inl rs))] [.ref h, .int i, .int j] (.int (sX8_reason_ok rs i j)) := by
  refine xR.of (cc := cX8_reason) (maxL := 3) (ret := (some .int)) (by decide) rfl (Nat.le_of_ble_eq_true rfl) ?_
  intro p e s m args below meth c ls hM hE hP hD hl
  obtain ⟨hx, hb, hr, hml, hts, hown, hlk, hnm⟩ := hM
  have g_1 : (Cond.fieldLink RX8 26 "RailPendulum" "now" "LRailPendulum$Situation;").before args s = true := hts (Cond.fieldLink RX8 26 "RailPendulum" "now" "LRailPendulum$Situation;") (by decide +kernel)
  have g_2 : ∀ w ∈ wsX80, w ∈ wsX8_reason := by decide +kernel
  have g_3 : (Cond.fieldLinkNest RX8 143 "RailPendulum$Situation" "region" "LRailPendulum$Region;" "RailPendulum").before args s = true := va_Nw.use rfl (hE.2 (Cond.fieldLinkNest RX8 143 "RailPendulum$Situation" "region" "LRailPendulum$Region;" "RailPendulum") (by decide +kernel))
  have g_4 : ∀ w ∈ wsX60, w ∈ wsX8_reason := by decide +kernel
  have hl : lv_has ls 3 [(0, .ref h), (1, .int i), (2, .int j)] := hl
  refine lv_aload_n hx hb dX8_reason_0 rfl (lv_at hl 0 rfl) ?_
  refine lv_iload_n hx hb dX8_reason_1 rfl (lv_at hl 1 rfl) ?_
  refine lv_iload_n hx hb dX8_reason_2 rfl (lv_at hl 2 rfl) ?_
  refine x_r0V [.int i, .int j] (kX8_requireCell_ok l E h pl rd nw ah tr hi s0 s1 errorAt an num i j o1a) ⟨hx, hb, hml, hown, hts⟩ (cwV 2 hts gX8_reason_X8_requireCell rfl rfl rfl hdX8_requireCell ⟨Nat.le_of_ble_eq_true rfl, Nat.le_of_ble_eq_true rfl⟩) hE hP hD [0, 1, 2] rfl rfl (ci := 8) (q0 := 0) rfl rfl rfl hl.1 rfl rfl (Nat.le_of_ble_eq_true rfl) dX8_reason_3 (Nat.le_of_ble_eq_true rfl) (Nat.le_of_ble_eq_true rfl) ?_
  refine W.eq (g2 := F0 m 6 ls []) rfl ?_
  refine lv_aload_n hx hb dX8_reason_6 rfl (lv_at hl 0 rfl) ?_
  refine va_get (D := E.1) (ci := 8) (v := .ref nw) (C := RX8) (T := TX8) (N := 9) hx hb hts g_2 hown hE.1 hP 0 rfl rfl 2 (by decide) g_1 (fun _ h9 => h9) rfl dX8_reason_7 ?_
  refine va_getN (D := E.1) (ci := 6) (v := .ref re) (C := RX6) (T := TX6) (N := 11) hx hb hts g_4 hown hE.1 hP 3 rfl rfl 1 (by decide) g_3 (fun _ h9 => h9) rfl dX8_reason_10 ?_
  refine lv_iload_n hx hb dX8_reason_13 rfl (lv_at hl 1 rfl) ?_
  refine lv_iload_n hx hb dX8_reason_14 rfl (lv_at hl 2 rfl) ?_
  refine x_rV [.int i, .int j] (kX5_reasonAt l E re ar af rs i j) ⟨hx, hb, hml, hown, hts⟩ (cwV 2 hts gX8_reason_X5_reasonAt rfl rfl rfl hdX5_reasonAt ⟨Nat.le_of_ble_eq_true rfl, Nat.le_of_ble_eq_true rfl⟩) hE hP hD [4, 5] rfl rfl (ci := 5) (q0 := 4) rfl rfl rfl hl.1 rfl rfl (Nat.le_of_ble_eq_true rfl) dX8_reason_15 (Nat.le_of_ble_eq_true rfl) (Nat.le_of_ble_eq_true rfl) ?_
  exact x_ir (by unfold sX8_reason_ok; try rfl) hx hb hr hlk dX8_reason_18
set_option maxHeartbeats 4000000 in
set_option maxRecDepth 100000 in
theorem kX8_reason_x1 (l : Launch) (E : XE) (hst : l.stackTraces = false) (h : Nat) (pl : Nat) (rd : Nat) (nw : Nat) (ah : Nat) (tr : Nat) (hi : Nat) (s0 : Nat) (s1 : Nat) (errorAt : Int32) (an : Nat) (num : Nat → Int32) (i : Int32) (j : Int32) (b1 : (sX2_hasCell num i j) = 0) : xX l yX8_reason wsX8_reason ({ frames := 7, cells := 1, slots := 6, locals := 112 }) E [(h, .inr (8, [.ref pl, .ref rd, .ref nw, .ref ah, .ref tr, .ref hi, .ref s0, .ref s1, .int errorAt])), (pl, .inr (2, [.ref an])), (an, .inl (E.2.1, 24, .inl num))] [.ref h, .int i, .int j] "java/lang/IndexOutOfBoundsException" := by
  refine xX.of (cc := cX8_reason) (maxL := 3) (ret := (some .int)) (by decide) rfl (Nat.le_of_ble_eq_true rfl) ?_
  intro p e s m args below meth c ls hM hE hP hD hThr ht hl
  obtain ⟨hx, hb, hr, hml, hts, hown, hlk, hnm⟩ := hM
  have hl : lv_has ls 3 [(0, .ref h), (1, .int i), (2, .int j)] := hl
  refine lv_aload_n hx hb dX8_reason_0 rfl (lv_at hl 0 rfl) ?_
  refine lv_iload_n hx hb dX8_reason_1 rfl (lv_at hl 1 rfl) ?_
  refine lv_iload_n hx hb dX8_reason_2 rfl (lv_at hl 2 rfl) ?_
  exact x_bV [.int i, .int j] (kX8_requireCell_bad l E hst h pl rd nw ah tr hi s0 s1 errorAt an num i j b1) ⟨hx, hb, hml, hown, hts⟩ (cwV 2 hts gX8_reason_X8_requireCell rfl rfl rfl hdX8_requireCell ⟨Nat.le_of_ble_eq_true rfl, Nat.le_of_ble_eq_true rfl⟩) hE hP hD hThr ht hlk [0, 1, 2] rfl rfl (ci := 8) (q0 := 0) rfl rfl rfl hl.1 rfl rfl (Nat.le_of_ble_eq_true rfl) dX8_reason_3 (Nat.le_of_ble_eq_true rfl) (Nat.le_of_ble_eq_true rfl)
def sX8_failedStep_ok (fs : Nat → Int32) (i : Int32) (j : Int32) : Int32 :=
  sX5_failedStepAt fs i j
theorem hdX8_failedStep : yX8_failedStep.cls = RX8 ∧ yX8_failedStep.cls ≠ "java/lang/invoke/MethodHandle" ∧ yX8_failedStep.cls ≠ "java/lang/invoke/VarHandle" ∧ (parseMethodDescriptor yX8_failedStep.desc).map (fun d => d.parameters.length) = some 2 := by decide +kernel
set_option maxHeartbeats 4000000 in
set_option maxRecDepth 100000 in
theorem kX8_failedStep_ok (l : Launch) (E : XE) (h : Nat) (pl : Nat) (rd : Nat) (nw : Nat) (ah : Nat) (tr : Nat) (hi : Nat) (s0 : Nat) (s1 : Nat) (errorAt : Int32) (an : Nat) (num : Nat → Int32) (mo : Nat) (re : Nat) (rc : Nat) (tick : Int32) (mode : Int32) (lock : Int32) (force : Int32) (switches : Int32) (stops : Int32) (resets : Int32) (latestStop : Int32) (ar : Nat) (af : Nat) (fs : Nat → Int32) (i : Int32) (j : Int32) (o1a : ¬ (sX2_hasCell num i j) = 0) : xR l yX8_failedStep wsX8_failedStep ({ frames := 3, cells := 0, slots := 0, locals := 66 }) E [(h, .inr (8, [.ref pl, .ref rd, .ref nw, .ref ah, .ref tr, .ref hi, .ref s0, .ref s1, .int errorAt])), (pl, .inr (2, [.ref an])), (an, .inl (E.2.1, 24, .inl num)), (nw, .inr (6, [.ref mo, .ref re, .ref rc, .int tick, .int mode, .int lock, .int force, .int switches, .int stops, .int resets, .int latestStop])), (re, .inr (5, [.ref ar, .ref af])), (af, .inl (E.2.1, 49, .inl fs))] [.ref h, .int i, .int j] (.int (sX8_failedStep_ok fs i j)) := by
  refine xR.of (cc := cX8_failedStep) (maxL := 3) (ret := (some .int)) (by decide) rfl (Nat.le_of_ble_eq_true rfl) ?_
  intro p e s m args below meth c ls hM hE hP hD hl
  obtain ⟨hx, hb, hr, hml, hts, hown, hlk, hnm⟩ := hM
  have g_1 : (Cond.fieldLink RX8 26 "RailPendulum" "now" "LRailPendulum$Situation;").before args s = true := hts (Cond.fieldLink RX8 26 "RailPendulum" "now" "LRailPendulum$Situation;") (by decide +kernel)
  have g_2 : ∀ w ∈ wsX80, w ∈ wsX8_failedStep := by decide +kernel
  have g_3 : (Cond.fieldLinkNest RX8 143 "RailPendulum$Situation" "region" "LRailPendulum$Region;" "RailPendulum").before args s = true := va_Nw.use rfl (hE.2 (Cond.fieldLinkNest RX8 143 "RailPendulum$Situation" "region" "LRailPendulum$Region;" "RailPendulum") (by decide +kernel))
  have g_4 : ∀ w ∈ wsX60, w ∈ wsX8_failedStep := by decide +kernel
  have hl : lv_has ls 3 [(0, .ref h), (1, .int i), (2, .int j)] := hl
  refine lv_aload_n hx hb dX8_failedStep_0 rfl (lv_at hl 0 rfl) ?_
  refine lv_iload_n hx hb dX8_failedStep_1 rfl (lv_at hl 1 rfl) ?_
  refine lv_iload_n hx hb dX8_failedStep_2 rfl (lv_at hl 2 rfl) ?_
  refine x_r0V [.int i, .int j] (kX8_requireCell_ok l E h pl rd nw ah tr hi s0 s1 errorAt an num i j o1a) ⟨hx, hb, hml, hown, hts⟩ (cwV 2 hts gX8_failedStep_X8_requireCell rfl rfl rfl hdX8_requireCell ⟨Nat.le_of_ble_eq_true rfl, Nat.le_of_ble_eq_true rfl⟩) hE hP hD [0, 1, 2] rfl rfl (ci := 8) (q0 := 0) rfl rfl rfl hl.1 rfl rfl (Nat.le_of_ble_eq_true rfl) dX8_failedStep_3 (Nat.le_of_ble_eq_true rfl) (Nat.le_of_ble_eq_true rfl) ?_
  refine W.eq (g2 := F0 m 6 ls []) rfl ?_
  refine lv_aload_n hx hb dX8_failedStep_6 rfl (lv_at hl 0 rfl) ?_
  refine va_get (D := E.1) (ci := 8) (v := .ref nw) (C := RX8) (T := TX8) (N := 9) hx hb hts g_2 hown hE.1 hP 0 rfl rfl 2 (by decide) g_1 (fun _ h9 => h9) rfl dX8_failedStep_7 ?_
  refine va_getN (D := E.1) (ci := 6) (v := .ref re) (C := RX6) (T := TX6) (N := 11) hx hb hts g_4 hown hE.1 hP 3 rfl rfl 1 (by decide) g_3 (fun _ h9 => h9) rfl dX8_failedStep_10 ?_
  refine lv_iload_n hx hb dX8_failedStep_13 rfl (lv_at hl 1 rfl) ?_
  refine lv_iload_n hx hb dX8_failedStep_14 rfl (lv_at hl 2 rfl) ?_
  refine x_rV [.int i, .int j] (kX5_failedStepAt l E re ar af fs i j) ⟨hx, hb, hml, hown, hts⟩ (cwV 2 hts gX8_failedStep_X5_failedStepAt rfl rfl rfl hdX5_failedStepAt ⟨Nat.le_of_ble_eq_true rfl, Nat.le_of_ble_eq_true rfl⟩) hE hP hD [4, 5] rfl rfl (ci := 5) (q0 := 4) rfl rfl rfl hl.1 rfl rfl (Nat.le_of_ble_eq_true rfl) dX8_failedStep_15 (Nat.le_of_ble_eq_true rfl) (Nat.le_of_ble_eq_true rfl) ?_
  exact x_ir (by unfold sX8_failedStep_ok; try rfl) hx hb hr hlk dX8_failedStep_18
set_option maxHeartbeats 4000000 in
set_option maxRecDepth 100000 in
theorem kX8_failedStep_x1 (l : Launch) (E : XE) (hst : l.stackTraces = false) (h : Nat) (pl : Nat) (rd : Nat) (nw : Nat) (ah : Nat) (tr : Nat) (hi : Nat) (s0 : Nat) (s1 : Nat) (errorAt : Int32) (an : Nat) (num : Nat → Int32) (i : Int32) (j : Int32) (b1 : (sX2_hasCell num i j) = 0) : xX l yX8_failedStep wsX8_failedStep ({ frames := 7, cells := 1, slots := 6, locals := 112 }) E [(h, .inr (8, [.ref pl, .ref rd, .ref nw, .ref ah, .ref tr, .ref hi, .ref s0, .ref s1, .int errorAt])), (pl, .inr (2, [.ref an])), (an, .inl (E.2.1, 24, .inl num))] [.ref h, .int i, .int j] "java/lang/IndexOutOfBoundsException" := by
  refine xX.of (cc := cX8_failedStep) (maxL := 3) (ret := (some .int)) (by decide) rfl (Nat.le_of_ble_eq_true rfl) ?_
  intro p e s m args below meth c ls hM hE hP hD hThr ht hl
  obtain ⟨hx, hb, hr, hml, hts, hown, hlk, hnm⟩ := hM
  have hl : lv_has ls 3 [(0, .ref h), (1, .int i), (2, .int j)] := hl
  refine lv_aload_n hx hb dX8_failedStep_0 rfl (lv_at hl 0 rfl) ?_
  refine lv_iload_n hx hb dX8_failedStep_1 rfl (lv_at hl 1 rfl) ?_
  refine lv_iload_n hx hb dX8_failedStep_2 rfl (lv_at hl 2 rfl) ?_
  exact x_bV [.int i, .int j] (kX8_requireCell_bad l E hst h pl rd nw ah tr hi s0 s1 errorAt an num i j b1) ⟨hx, hb, hml, hown, hts⟩ (cwV 2 hts gX8_failedStep_X8_requireCell rfl rfl rfl hdX8_requireCell ⟨Nat.le_of_ble_eq_true rfl, Nat.le_of_ble_eq_true rfl⟩) hE hP hD hThr ht hlk [0, 1, 2] rfl rfl (ci := 8) (q0 := 0) rfl rfl rfl hl.1 rfl rfl (Nat.le_of_ble_eq_true rfl) dX8_failedStep_3 (Nat.le_of_ble_eq_true rfl) (Nat.le_of_ble_eq_true rfl)
def sX8_cellOf_ok (num : Nat → Int32) (a1 : Int32) (a2 : Int32) (w1 : Int32) (w2 : Int32) (link : Int32) (what : Int32) : Int32 :=
  if what = 0 then
    sX2_cellOfAngle num (sX1_angleOf a1 a2 link)
  else
    sX2_cellOfSpeed num (sX1_speedOf w1 w2 link)
theorem hdX8_cellOf : yX8_cellOf.cls = RX8 ∧ yX8_cellOf.cls ≠ "java/lang/invoke/MethodHandle" ∧ yX8_cellOf.cls ≠ "java/lang/invoke/VarHandle" ∧ (parseMethodDescriptor yX8_cellOf.desc).map (fun d => d.parameters.length) = some 2 := by decide +kernel
set_option maxHeartbeats 4000000 in
set_option maxRecDepth 100000 in
theorem kX8_cellOf_ok (l : Launch) (E : XE) (h : Nat) (pl : Nat) (rd : Nat) (nw : Nat) (ah : Nat) (tr : Nat) (hi : Nat) (s0 : Nat) (s1 : Nat) (errorAt : Int32) (an : Nat) (num : Nat → Int32) (mo : Nat) (re : Nat) (rc : Nat) (tick : Int32) (mode : Int32) (lock : Int32) (force : Int32) (switches : Int32) (stops : Int32) (resets : Int32) (latestStop : Int32) (x : Int32) (v : Int32) (a1 : Int32) (a2 : Int32) (w1 : Int32) (w2 : Int32) (link : Int32) (what : Int32) (o1a : ¬ link < 1) (o1b : link ≤ 2) (o2a : ¬ what < 0) (o2b : what ≤ 1) (hz1 : 0 < sX2_number num 15 → ¬ 2 * sX2_number num 15 = 0) (hz2 : 0 < sX2_number num 16 → ¬ 2 * sX2_number num 16 = 0) : xR l yX8_cellOf wsX8_cellOf ({ frames := 3, cells := 0, slots := 0, locals := 64 }) E [(h, .inr (8, [.ref pl, .ref rd, .ref nw, .ref ah, .ref tr, .ref hi, .ref s0, .ref s1, .int errorAt])), (pl, .inr (2, [.ref an])), (an, .inl (E.2.1, 24, .inl num)), (nw, .inr (6, [.ref mo, .ref re, .ref rc, .int tick, .int mode, .int lock, .int force, .int switches, .int stops, .int resets, .int latestStop])), (mo, .inr (1, [.int x, .int v, .int a1, .int a2, .int w1, .int w2]))] [.ref h, .int link, .int what] (.int (sX8_cellOf_ok num a1 a2 w1 w2 link what)) := by
  refine xR.of (cc := cX8_cellOf) (maxL := 3) (ret := (some .int)) (by decide) rfl (Nat.le_of_ble_eq_true rfl) ?_
  intro p e s m args below meth c ls hM hE hP hD hl
  obtain ⟨hx, hb, hr, hml, hts, hown, hlk, hnm⟩ := hM
  have g_1 : (Cond.fieldLink RX8 10 "RailPendulum" "plant" "LRailPendulum$Plant;").before args s = true := hts (Cond.fieldLink RX8 10 "RailPendulum" "plant" "LRailPendulum$Plant;") (by decide +kernel)
  have g_2 : ∀ w ∈ wsX80, w ∈ wsX8_cellOf := by decide +kernel
  have g_3 : (Cond.fieldLink RX8 26 "RailPendulum" "now" "LRailPendulum$Situation;").before args s = true := hts (Cond.fieldLink RX8 26 "RailPendulum" "now" "LRailPendulum$Situation;") (by decide +kernel)
  have g_4 : (Cond.fieldLinkNest RX8 109 "RailPendulum$Situation" "motion" "LRailPendulum$Motion;" "RailPendulum").before args s = true := va_Nw.use rfl (hE.2 (Cond.fieldLinkNest RX8 109 "RailPendulum$Situation" "motion" "LRailPendulum$Motion;" "RailPendulum") (by decide +kernel))
  have g_5 : ∀ w ∈ wsX60, w ∈ wsX8_cellOf := by decide +kernel
  have hl : lv_has ls 3 [(0, .ref h), (1, .int link), (2, .int what)] := hl
  refine lv_iload_n hx hb dX8_cellOf_0 rfl (lv_at hl 1 rfl) ?_
  refine x_r0S [.int link] (kX8_requireLink_ok l E link o1a o1b) ⟨hx, hb, hml, hown, hts⟩ (va_cwS 1 hts gX8_cellOf_X8_requireLink rfl rfl rfl hdX8_requireLink.2 ⟨Nat.le_of_ble_eq_true rfl, Nat.le_of_ble_eq_true rfl⟩) hE hP hD [] rfl rfl hl.1 rfl rfl (Nat.le_of_ble_eq_true rfl) dX8_cellOf_1 (Nat.le_of_ble_eq_true rfl) (Nat.le_of_ble_eq_true rfl) ?_
  refine W.eq (g2 := F0 m 4 ls []) rfl ?_
  refine lv_iload_n hx hb dX8_cellOf_4 rfl (lv_at hl 2 rfl) ?_
  refine lv_iconst (v := 0) hx hb dX8_cellOf_5 (by decide) ?_
  refine lv_iconst (v := 1) hx hb dX8_cellOf_6 (by decide) ?_
  refine x_r0S [.int what, .int 0, .int 1] (kX8_requireRange_ok l E what 0 1 o2a o2b) ⟨hx, hb, hml, hown, hts⟩ (va_cwS 3 hts gX8_cellOf_X8_requireRange rfl rfl rfl hdX8_requireRange.2 ⟨Nat.le_of_ble_eq_true rfl, Nat.le_of_ble_eq_true rfl⟩) hE hP hD [] rfl rfl hl.1 rfl rfl (Nat.le_of_ble_eq_true rfl) dX8_cellOf_7 (Nat.le_of_ble_eq_true rfl) (Nat.le_of_ble_eq_true rfl) ?_
  refine W.eq (g2 := F0 m 10 ls []) rfl ?_
  refine lv_aload_n hx hb dX8_cellOf_10 rfl (lv_at hl 0 rfl) ?_
  refine va_get (D := E.1) (ci := 8) (v := .ref pl) (C := RX8) (T := TX8) (N := 9) hx hb hts g_2 hown hE.1 hP 0 rfl rfl 0 (by decide) g_1 (fun _ h9 => h9) rfl dX8_cellOf_11 ?_
  refine lv_aload_n hx hb dX8_cellOf_14 rfl (lv_at hl 0 rfl) ?_
  refine va_get (D := E.1) (ci := 8) (v := .ref nw) (C := RX8) (T := TX8) (N := 9) hx hb hts g_2 hown hE.1 hP 0 rfl rfl 2 (by decide) g_3 (fun _ h9 => h9) rfl dX8_cellOf_15 ?_
  refine va_getN (D := E.1) (ci := 6) (v := .ref mo) (C := RX6) (T := TX6) (N := 11) hx hb hts g_5 hown hE.1 hP 3 rfl rfl 0 (by decide) g_4 (fun _ h9 => h9) rfl dX8_cellOf_18 ?_
  refine lv_iload_n hx hb dX8_cellOf_21 rfl (lv_at hl 1 rfl) ?_
  refine lv_iload_n hx hb dX8_cellOf_22 rfl (lv_at hl 2 rfl) ?_
  refine x_rV [.ref mo, .int link, .int what] (kX2_cellPart l E pl an num mo x v a1 a2 w1 w2 link what o2a o2b hz1 hz2) ⟨hx, hb, hml, hown, hts⟩ (cwV 3 hts gX8_cellOf_X2_cellPart rfl rfl rfl hdX2_cellPart ⟨Nat.le_of_ble_eq_true rfl, Nat.le_of_ble_eq_true rfl⟩) hE hP hD [1, 2, 4] rfl rfl (ci := 2) (q0 := 1) rfl rfl rfl hl.1 rfl rfl (Nat.le_of_ble_eq_true rfl) dX8_cellOf_23 (Nat.le_of_ble_eq_true rfl) (Nat.le_of_ble_eq_true rfl) ?_
  exact x_ir (by unfold sX8_cellOf_ok; try rfl) hx hb hr hlk dX8_cellOf_26
set_option maxHeartbeats 4000000 in
set_option maxRecDepth 100000 in
theorem kX8_cellOf_x1 (l : Launch) (E : XE) (hst : l.stackTraces = false) (h : Nat) (link : Int32) (what : Int32) (b1 : link < 1 ∨ ¬ link ≤ 2) : xX l yX8_cellOf wsX8_cellOf ({ frames := 7, cells := 1, slots := 6, locals := 110 }) E [] [.ref h, .int link, .int what] "java/lang/IndexOutOfBoundsException" := by
  refine xX.of (cc := cX8_cellOf) (maxL := 3) (ret := (some .int)) (by decide) rfl (Nat.le_of_ble_eq_true rfl) ?_
  intro p e s m args below meth c ls hM hE hP hD hThr ht hl
  obtain ⟨hx, hb, hr, hml, hts, hown, hlk, hnm⟩ := hM
  have hl : lv_has ls 3 [(0, .ref h), (1, .int link), (2, .int what)] := hl
  refine lv_iload_n hx hb dX8_cellOf_0 rfl (lv_at hl 1 rfl) ?_
  exact x_bS [.int link] (kX8_requireLink_bad l E hst link b1) ⟨hx, hb, hml, hown, hts⟩ (va_cwS 1 hts gX8_cellOf_X8_requireLink rfl rfl rfl hdX8_requireLink.2 ⟨Nat.le_of_ble_eq_true rfl, Nat.le_of_ble_eq_true rfl⟩) hE hP hD hThr ht hlk [] rfl rfl hl.1 rfl rfl (Nat.le_of_ble_eq_true rfl) dX8_cellOf_1 (Nat.le_of_ble_eq_true rfl) (Nat.le_of_ble_eq_true rfl)
set_option maxHeartbeats 4000000 in
set_option maxRecDepth 100000 in
theorem kX8_cellOf_x2 (l : Launch) (E : XE) (hst : l.stackTraces = false) (h : Nat) (link : Int32) (what : Int32) (o1a : ¬ link < 1) (o1b : link ≤ 2) (b2 : what < 0 ∨ ¬ what ≤ 1) : xX l yX8_cellOf wsX8_cellOf ({ frames := 7, cells := 1, slots := 6, locals := 112 }) E [] [.ref h, .int link, .int what] "java/lang/IllegalArgumentException" := by
  refine xX.of (cc := cX8_cellOf) (maxL := 3) (ret := (some .int)) (by decide) rfl (Nat.le_of_ble_eq_true rfl) ?_
  intro p e s m args below meth c ls hM hE hP hD hThr ht hl
  obtain ⟨hx, hb, hr, hml, hts, hown, hlk, hnm⟩ := hM
  have hl : lv_has ls 3 [(0, .ref h), (1, .int link), (2, .int what)] := hl
  refine lv_iload_n hx hb dX8_cellOf_0 rfl (lv_at hl 1 rfl) ?_
  refine x_r0S [.int link] (kX8_requireLink_ok l E link o1a o1b) ⟨hx, hb, hml, hown, hts⟩ (va_cwS 1 hts gX8_cellOf_X8_requireLink rfl rfl rfl hdX8_requireLink.2 ⟨Nat.le_of_ble_eq_true rfl, Nat.le_of_ble_eq_true rfl⟩) hE hP hD [] rfl rfl hl.1 rfl rfl (Nat.le_of_ble_eq_true rfl) dX8_cellOf_1 (Nat.le_of_ble_eq_true rfl) (Nat.le_of_ble_eq_true rfl) ?_
  refine W.eq (g2 := F0 m 4 ls []) rfl ?_
  refine lv_iload_n hx hb dX8_cellOf_4 rfl (lv_at hl 2 rfl) ?_
  refine lv_iconst (v := 0) hx hb dX8_cellOf_5 (by decide) ?_
  refine lv_iconst (v := 1) hx hb dX8_cellOf_6 (by decide) ?_
  exact x_bS [.int what, .int 0, .int 1] (kX8_requireRange_bad l E hst what 0 1 b2) ⟨hx, hb, hml, hown, hts⟩ (va_cwS 3 hts gX8_cellOf_X8_requireRange rfl rfl rfl hdX8_requireRange.2 ⟨Nat.le_of_ble_eq_true rfl, Nat.le_of_ble_eq_true rfl⟩) hE hP hD hThr ht hlk [] rfl rfl hl.1 rfl rfl (Nat.le_of_ble_eq_true rfl) dX8_cellOf_7 (Nat.le_of_ble_eq_true rfl) (Nat.le_of_ble_eq_true rfl)
def sX8_ticksToBalance_ok_q_1 (num : Nat → Int32) (tick : Int32) (mode : Int32) (lock : Int32) (force : Int32) (switches : Int32) (stops : Int32) (latestStop : Int32) (x : Int32) (v : Int32) (a1 : Int32) (a2 : Int32) (w1 : Int32) (w2 : Int32) (rs : Nat → Int32) (b1 : Int64) (b2 : Int64) (b3 : Int64) (b4 : Int64) (ars : Nat → Int32) (limit : Int32) (q_1 : Int32 × Int32 × Int32 × Int32 × Int32 × Int32 × Int32 × Int32 × Int32 × Int32 × Int32 × Int32 × Int32 × Int64 × Int64 × Int64 × Int64) : Int32 × Int32 × Int32 × Int32 × Int32 × Int32 × Int32 × Int32 × Int32 × Int32 × Int32 × Int32 × Int32 × Int64 × Int64 × Int64 × Int64 :=
  (q_1.1, q_1.2.1, q_1.2.2.1, q_1.2.2.2.1, q_1.2.2.2.2.1, q_1.2.2.2.2.2.1, q_1.2.2.2.2.2.2.1, q_1.2.2.2.2.2.2.2.1, q_1.2.2.2.2.2.2.2.2.1, q_1.2.2.2.2.2.2.2.2.2.1, q_1.2.2.2.2.2.2.2.2.2.2.1, q_1.2.2.2.2.2.2.2.2.2.2.2.1, q_1.2.2.2.2.2.2.2.2.2.2.2.2.1, q_1.2.2.2.2.2.2.2.2.2.2.2.2.2.1, q_1.2.2.2.2.2.2.2.2.2.2.2.2.2.2.1, q_1.2.2.2.2.2.2.2.2.2.2.2.2.2.2.2.1, q_1.2.2.2.2.2.2.2.2.2.2.2.2.2.2.2.2)
def sX8_ticksToBalance_ok (num : Nat → Int32) (tick : Int32) (mode : Int32) (lock : Int32) (force : Int32) (switches : Int32) (stops : Int32) (latestStop : Int32) (x : Int32) (v : Int32) (a1 : Int32) (a2 : Int32) (w1 : Int32) (w2 : Int32) (rs : Nat → Int32) (b1 : Int64) (b2 : Int64) (b3 : Int64) (b4 : Int64) (ars : Nat → Int32) (limit : Int32) : Int32 × Int32 × Int32 × Int32 × Int32 × Int32 × Int32 × Int32 × Int32 × Int32 × Int32 × Int32 × Int32 × Int64 × Int64 × Int64 × Int64 :=
  sX8_ticksToBalance_ok_q_1 num tick mode lock force switches stops latestStop x v a1 a2 w1 w2 rs b1 b2 b3 b4 ars limit (sX8_ticksUntil num tick mode lock force switches stops latestStop x v a1 a2 w1 w2 rs b1 b2 b3 b4 ars 2 limit)
theorem hdX8_ticksToBalance : yX8_ticksToBalance.cls = RX8 ∧ yX8_ticksToBalance.cls ≠ "java/lang/invoke/MethodHandle" ∧ yX8_ticksToBalance.cls ≠ "java/lang/invoke/VarHandle" ∧ (parseMethodDescriptor yX8_ticksToBalance.desc).map (fun d => d.parameters.length) = some 1 := by decide +kernel
set_option maxHeartbeats 4000000 in
set_option maxRecDepth 100000 in
theorem kX8_ticksToBalance_ok (l : Launch) (E : XE) (h : Nat) (pl : Nat) (rd : Nat) (nw : Nat) (ah : Nat) (tr : Nat) (hi : Nat) (s0 : Nat) (s1 : Nat) (errorAt : Int32) (an : Nat) (num : Nat → Int32) (mo : Nat) (re : Nat) (rc : Nat) (tick : Int32) (mode : Int32) (lock : Int32) (force : Int32) (switches : Int32) (stops : Int32) (resets : Int32) (latestStop : Int32) (x : Int32) (v : Int32) (a1 : Int32) (a2 : Int32) (w1 : Int32) (w2 : Int32) (ar : Nat) (af : Nat) (rs : Nat → Int32) (fs : Nat → Int32) (b1 : Int64) (b2 : Int64) (b3 : Int64) (b4 : Int64) (amo : Nat) (are : Nat) (arc : Nat) (atick : Int32) (amode : Int32) (alock : Int32) (aforce : Int32) (aswitches : Int32) (astops : Int32) (aresets : Int32) (alatestStop : Int32) (ax : Int32) (av : Int32) (aa1 : Int32) (aa2 : Int32) (aw1 : Int32) (aw2 : Int32) (aar : Nat) (aaf : Nat) (ars : Nat → Int32) (afs : Nat → Int32) (ab1 : Int64) (ab2 : Int64) (ab3 : Int64) (ab4 : Int64) (limit : Int32) (o1a : ¬ limit < 0) (o1b : limit ≤ 1000) (hz1 : 0 < sX2_number num 15 → ¬ 2 * sX2_number num 15 = 0) (hz2 : 0 < sX2_number num 16 → ¬ 2 * sX2_number num 16 = 0) : xW (T := Int32 × Int32 × Int32 × Int32 × Int32 × Int32 × Int32 × Int32 × Int32 × Int32 × Int32 × Int32 × Int32 × Int64 × Int64 × Int64 × Int64) l yX8_ticksToBalance wsX8_ticksToBalance ({ frames := 8, cells := 0, slots := 0, locals := 175 }) E [(h, .inr (8, [.ref pl, .ref rd, .ref nw, .ref ah, .ref tr, .ref hi, .ref s0, .ref s1, .int errorAt])), (pl, .inr (2, [.ref an])), (an, .inl (E.2.1, 24, .inl num)), (nw, .inr (6, [.ref mo, .ref re, .ref rc, .int tick, .int mode, .int lock, .int force, .int switches, .int stops, .int resets, .int latestStop])), (mo, .inr (1, [.int x, .int v, .int a1, .int a2, .int w1, .int w2])), (re, .inr (5, [.ref ar, .ref af])), (ar, .inl (E.2.1, 49, .inl rs)), (af, .inl (E.2.1, 49, .inl fs)), (rc, .inr (4, [.long b1, .long b2, .long b3, .long b4])), (ah, .inr (6, [.ref amo, .ref are, .ref arc, .int atick, .int amode, .int alock, .int aforce, .int aswitches, .int astops, .int aresets, .int alatestStop])), (amo, .inr (1, [.int ax, .int av, .int aa1, .int aa2, .int aw1, .int aw2])), (are, .inr (5, [.ref aar, .ref aaf])), (aar, .inl (E.2.1, 49, .inl ars)), (aaf, .inl (E.2.1, 49, .inl afs)), (arc, .inr (4, [.long ab1, .long ab2, .long ab3, .long ab4]))] [.ref h, .int limit] (fun q => some (.int q.1)) (fun q => [(h, .inr (8, [.ref pl, .ref rd, .ref nw, .ref ah, .ref tr, .ref hi, .ref s0, .ref s1, .int errorAt])), (pl, .inr (2, [.ref an])), (an, .inl (E.2.1, 24, .inl num)), (nw, .inr (6, [.ref mo, .ref re, .ref rc, .int tick, .int mode, .int lock, .int force, .int switches, .int stops, .int resets, .int latestStop])), (mo, .inr (1, [.int x, .int v, .int a1, .int a2, .int w1, .int w2])), (re, .inr (5, [.ref ar, .ref af])), (ar, .inl (E.2.1, 49, .inl rs)), (af, .inl (E.2.1, 49, .inl fs)), (rc, .inr (4, [.long b1, .long b2, .long b3, .long b4])), (ah, .inr (6, [.ref amo, .ref are, .ref arc, .int q.2.2.2.2.2.2.2.1, .int q.2.2.2.2.2.2.2.2.1, .int q.2.2.2.2.2.2.2.2.2.1, .int force, .int q.2.2.2.2.2.2.2.2.2.2.1, .int q.2.2.2.2.2.2.2.2.2.2.2.1, .int resets, .int q.2.2.2.2.2.2.2.2.2.2.2.2.1])), (amo, .inr (1, [.int q.2.1, .int q.2.2.1, .int q.2.2.2.1, .int q.2.2.2.2.1, .int q.2.2.2.2.2.1, .int q.2.2.2.2.2.2.1])), (are, .inr (5, [.ref aar, .ref aaf])), (aar, .inl (E.2.1, 49, .inl (va_cpy rs ars 0 0 49))), (aaf, .inl (E.2.1, 49, .inl (va_cpy fs afs 0 0 49))), (arc, .inr (4, [.long q.2.2.2.2.2.2.2.2.2.2.2.2.2.1, .long q.2.2.2.2.2.2.2.2.2.2.2.2.2.2.1, .long q.2.2.2.2.2.2.2.2.2.2.2.2.2.2.2.1, .long q.2.2.2.2.2.2.2.2.2.2.2.2.2.2.2.2]))]) (sX8_ticksToBalance_ok num tick mode lock force switches stops latestStop x v a1 a2 w1 w2 rs b1 b2 b3 b4 ars limit) 0 0 := by
  refine xW.of (cc := cX8_ticksToBalance) (maxL := 2) (ret := (some .int)) (by decide) rfl (Nat.le_of_ble_eq_true rfl) ?_
  intro p e s m args below meth c ls A hM hE hP hD hS hA hl
  obtain ⟨hx, hb, hr, hml, hts, hown, hlk, hnm⟩ := hM
  have hX : xD A [h, pl, an, nw, mo, re, ar, af, rc, ah, amo, are, aar, aaf, arc] := xD.of hD rfl
  have hl : lv_has ls 2 [(0, .ref h), (1, .int limit)] := hl
  refine lv_iload_n hx hb dX8_ticksToBalance_0 rfl (lv_at hl 1 rfl) ?_
  refine lv_iconst (v := 0) hx hb dX8_ticksToBalance_1 (by decide) ?_
  refine lv_sipush (v := 1000) hx hb dX8_ticksToBalance_2 (by decide) ?_
  refine x_r0S [.int limit, .int 0, .int 1000] (kX8_requireRange_ok l E limit 0 1000 o1a o1b) ⟨hx, hb, hml, hown, hts⟩ (va_cwS 3 hts gX8_ticksToBalance_X8_requireRange rfl rfl rfl hdX8_requireRange.2 ⟨Nat.le_of_ble_eq_true rfl, Nat.le_of_ble_eq_true rfl⟩) hE hP (hX.d rfl) [] rfl rfl hl.1 rfl rfl (Nat.le_of_ble_eq_true rfl) dX8_ticksToBalance_5 (Nat.le_of_ble_eq_true rfl) (Nat.le_of_ble_eq_true rfl) ?_
  refine W.eq (g2 := F0 m 8 ls []) rfl ?_
  refine lv_aload_n hx hb dX8_ticksToBalance_8 rfl (lv_at hl 0 rfl) ?_
  refine lv_iconst (v := 2) hx hb dX8_ticksToBalance_9 (by decide) ?_
  refine lv_iload_n hx hb dX8_ticksToBalance_10 rfl (lv_at hl 1 rfl) ?_
  refine x_wV (wr := []) [.int 2, .int limit] (kX8_ticksUntil l E h pl rd nw ah tr hi s0 s1 errorAt an num mo re rc tick mode lock force switches stops resets latestStop x v a1 a2 w1 w2 ar af rs fs b1 b2 b3 b4 amo are arc atick amode alock aforce aswitches astops aresets alatestStop ax av aa1 aa2 aw1 aw2 aar aaf ars afs ab1 ab2 ab3 ab4 2 limit hz1 hz2) ⟨hx, hb, hml, hown, hts⟩ (cwV 2 hts gX8_ticksToBalance_X8_ticksUntil rfl rfl rfl hdX8_ticksUntil ⟨Nat.le_of_ble_eq_true rfl, Nat.le_of_ble_eq_true rfl⟩) hE hP (hX.d rfl) hS hA [0, 1, 2, 3, 4, 5, 6, 7, 8, 9, 10, 11, 12, 13, 14] [] rfl rfl rfl rfl (by decide) (ci := 8) (q0 := 0) rfl rfl rfl hl.1 rfl rfl (Nat.le_of_ble_eq_true rfl) dX8_ticksToBalance_11 (Nat.le_of_ble_eq_true rfl) (Nat.le_of_ble_eq_true rfl) (fun q_1 H locs hq_1 hP hD hS => ?_)
  have hP : va_P E.1 vwCl [(h, .inr (8, [.ref pl, .ref rd, .ref nw, .ref ah, .ref tr, .ref hi, .ref s0, .ref s1, .int errorAt])), (pl, .inr (2, [.ref an])), (an, .inl (E.2.1, 24, .inl num)), (nw, .inr (6, [.ref mo, .ref re, .ref rc, .int tick, .int mode, .int lock, .int force, .int switches, .int stops, .int resets, .int latestStop])), (mo, .inr (1, [.int x, .int v, .int a1, .int a2, .int w1, .int w2])), (re, .inr (5, [.ref ar, .ref af])), (ar, .inl (E.2.1, 49, .inl rs)), (af, .inl (E.2.1, 49, .inl fs)), (rc, .inr (4, [.long b1, .long b2, .long b3, .long b4])), (ah, .inr (6, [.ref amo, .ref are, .ref arc, .int q_1.2.2.2.2.2.2.2.1, .int q_1.2.2.2.2.2.2.2.2.1, .int q_1.2.2.2.2.2.2.2.2.2.1, .int force, .int q_1.2.2.2.2.2.2.2.2.2.2.1, .int q_1.2.2.2.2.2.2.2.2.2.2.2.1, .int resets, .int q_1.2.2.2.2.2.2.2.2.2.2.2.2.1])), (amo, .inr (1, [.int q_1.2.1, .int q_1.2.2.1, .int q_1.2.2.2.1, .int q_1.2.2.2.2.1, .int q_1.2.2.2.2.2.1, .int q_1.2.2.2.2.2.2.1])), (are, .inr (5, [.ref aar, .ref aaf])), (aar, .inl (E.2.1, 49, .inl (va_cpy rs ars 0 0 49))), (aaf, .inl (E.2.1, 49, .inl (va_cpy fs afs 0 0 49))), (arc, .inr (4, [.long q_1.2.2.2.2.2.2.2.2.2.2.2.2.2.1, .long q_1.2.2.2.2.2.2.2.2.2.2.2.2.2.2.1, .long q_1.2.2.2.2.2.2.2.2.2.2.2.2.2.2.2.1, .long q_1.2.2.2.2.2.2.2.2.2.2.2.2.2.2.2.2]))] H := hP
  have hX : xD A [h, pl, an, nw, mo, re, ar, af, rc, ah, amo, are, aar, aaf, arc] := xD.of hD rfl
  refine W.eq (g2 := F0 m 14 ls [.int q_1.1]) rfl ?_
  exact x_wi (q_1.1, q_1.2.1, q_1.2.2.1, q_1.2.2.2.1, q_1.2.2.2.2.1, q_1.2.2.2.2.2.1, q_1.2.2.2.2.2.2.1, q_1.2.2.2.2.2.2.2.1, q_1.2.2.2.2.2.2.2.2.1, q_1.2.2.2.2.2.2.2.2.2.1, q_1.2.2.2.2.2.2.2.2.2.2.1, q_1.2.2.2.2.2.2.2.2.2.2.2.1, q_1.2.2.2.2.2.2.2.2.2.2.2.2.1, q_1.2.2.2.2.2.2.2.2.2.2.2.2.2.1, q_1.2.2.2.2.2.2.2.2.2.2.2.2.2.2.1, q_1.2.2.2.2.2.2.2.2.2.2.2.2.2.2.2.1, q_1.2.2.2.2.2.2.2.2.2.2.2.2.2.2.2.2) (by unfold sX8_ticksToBalance_ok; rw [← hq_1]; unfold sX8_ticksToBalance_ok_q_1; try rfl) rfl hx hb hr hlk hS hP (hX.d rfl) [0, 1, 2, 3, 4, 5, 6, 7, 8, 9, 10, 11, 12, 13, 14] rfl rfl (Nat.le_of_ble_eq_true rfl) (Nat.le_of_ble_eq_true rfl) dX8_ticksToBalance_14
set_option maxHeartbeats 4000000 in
set_option maxRecDepth 100000 in
theorem kX8_ticksToBalance_x1 (l : Launch) (E : XE) (hst : l.stackTraces = false) (h : Nat) (limit : Int32) (b1 : limit < 0 ∨ ¬ limit ≤ 1000) : xX l yX8_ticksToBalance wsX8_ticksToBalance ({ frames := 7, cells := 1, slots := 6, locals := 112 }) E [] [.ref h, .int limit] "java/lang/IllegalArgumentException" := by
  refine xX.of (cc := cX8_ticksToBalance) (maxL := 2) (ret := (some .int)) (by decide) rfl (Nat.le_of_ble_eq_true rfl) ?_
  intro p e s m args below meth c ls hM hE hP hD hThr ht hl
  obtain ⟨hx, hb, hr, hml, hts, hown, hlk, hnm⟩ := hM
  have hl : lv_has ls 2 [(0, .ref h), (1, .int limit)] := hl
  refine lv_iload_n hx hb dX8_ticksToBalance_0 rfl (lv_at hl 1 rfl) ?_
  refine lv_iconst (v := 0) hx hb dX8_ticksToBalance_1 (by decide) ?_
  refine lv_sipush (v := 1000) hx hb dX8_ticksToBalance_2 (by decide) ?_
  exact x_bS [.int limit, .int 0, .int 1000] (kX8_requireRange_bad l E hst limit 0 1000 b1) ⟨hx, hb, hml, hown, hts⟩ (va_cwS 3 hts gX8_ticksToBalance_X8_requireRange rfl rfl rfl hdX8_requireRange.2 ⟨Nat.le_of_ble_eq_true rfl, Nat.le_of_ble_eq_true rfl⟩) hE hP hD hThr ht hlk [] rfl rfl hl.1 rfl rfl (Nat.le_of_ble_eq_true rfl) dX8_ticksToBalance_5 (Nat.le_of_ble_eq_true rfl) (Nat.le_of_ble_eq_true rfl)
def sX8_ticksToStop_ok_q_1 (num : Nat → Int32) (tick : Int32) (mode : Int32) (lock : Int32) (force : Int32) (switches : Int32) (stops : Int32) (latestStop : Int32) (x : Int32) (v : Int32) (a1 : Int32) (a2 : Int32) (w1 : Int32) (w2 : Int32) (rs : Nat → Int32) (b1 : Int64) (b2 : Int64) (b3 : Int64) (b4 : Int64) (ars : Nat → Int32) (limit : Int32) (q_1 : Int32 × Int32 × Int32 × Int32 × Int32 × Int32 × Int32 × Int32 × Int32 × Int32 × Int32 × Int32 × Int32 × Int64 × Int64 × Int64 × Int64) : Int32 × Int32 × Int32 × Int32 × Int32 × Int32 × Int32 × Int32 × Int32 × Int32 × Int32 × Int32 × Int32 × Int64 × Int64 × Int64 × Int64 :=
  (q_1.1, q_1.2.1, q_1.2.2.1, q_1.2.2.2.1, q_1.2.2.2.2.1, q_1.2.2.2.2.2.1, q_1.2.2.2.2.2.2.1, q_1.2.2.2.2.2.2.2.1, q_1.2.2.2.2.2.2.2.2.1, q_1.2.2.2.2.2.2.2.2.2.1, q_1.2.2.2.2.2.2.2.2.2.2.1, q_1.2.2.2.2.2.2.2.2.2.2.2.1, q_1.2.2.2.2.2.2.2.2.2.2.2.2.1, q_1.2.2.2.2.2.2.2.2.2.2.2.2.2.1, q_1.2.2.2.2.2.2.2.2.2.2.2.2.2.2.1, q_1.2.2.2.2.2.2.2.2.2.2.2.2.2.2.2.1, q_1.2.2.2.2.2.2.2.2.2.2.2.2.2.2.2.2)
def sX8_ticksToStop_ok (num : Nat → Int32) (tick : Int32) (mode : Int32) (lock : Int32) (force : Int32) (switches : Int32) (stops : Int32) (latestStop : Int32) (x : Int32) (v : Int32) (a1 : Int32) (a2 : Int32) (w1 : Int32) (w2 : Int32) (rs : Nat → Int32) (b1 : Int64) (b2 : Int64) (b3 : Int64) (b4 : Int64) (ars : Nat → Int32) (limit : Int32) : Int32 × Int32 × Int32 × Int32 × Int32 × Int32 × Int32 × Int32 × Int32 × Int32 × Int32 × Int32 × Int32 × Int64 × Int64 × Int64 × Int64 :=
  sX8_ticksToStop_ok_q_1 num tick mode lock force switches stops latestStop x v a1 a2 w1 w2 rs b1 b2 b3 b4 ars limit (sX8_ticksUntil num tick mode lock force switches stops latestStop x v a1 a2 w1 w2 rs b1 b2 b3 b4 ars 3 limit)
theorem hdX8_ticksToStop : yX8_ticksToStop.cls = RX8 ∧ yX8_ticksToStop.cls ≠ "java/lang/invoke/MethodHandle" ∧ yX8_ticksToStop.cls ≠ "java/lang/invoke/VarHandle" ∧ (parseMethodDescriptor yX8_ticksToStop.desc).map (fun d => d.parameters.length) = some 1 := by decide +kernel
set_option maxHeartbeats 4000000 in
set_option maxRecDepth 100000 in
theorem kX8_ticksToStop_ok (l : Launch) (E : XE) (h : Nat) (pl : Nat) (rd : Nat) (nw : Nat) (ah : Nat) (tr : Nat) (hi : Nat) (s0 : Nat) (s1 : Nat) (errorAt : Int32) (an : Nat) (num : Nat → Int32) (mo : Nat) (re : Nat) (rc : Nat) (tick : Int32) (mode : Int32) (lock : Int32) (force : Int32) (switches : Int32) (stops : Int32) (resets : Int32) (latestStop : Int32) (x : Int32) (v : Int32) (a1 : Int32) (a2 : Int32) (w1 : Int32) (w2 : Int32) (ar : Nat) (af : Nat) (rs : Nat → Int32) (fs : Nat → Int32) (b1 : Int64) (b2 : Int64) (b3 : Int64) (b4 : Int64) (amo : Nat) (are : Nat) (arc : Nat) (atick : Int32) (amode : Int32) (alock : Int32) (aforce : Int32) (aswitches : Int32) (astops : Int32) (aresets : Int32) (alatestStop : Int32) (ax : Int32) (av : Int32) (aa1 : Int32) (aa2 : Int32) (aw1 : Int32) (aw2 : Int32) (aar : Nat) (aaf : Nat) (ars : Nat → Int32) (afs : Nat → Int32) (ab1 : Int64) (ab2 : Int64) (ab3 : Int64) (ab4 : Int64) (limit : Int32) (o1a : ¬ limit < 0) (o1b : limit ≤ 1000) (hz1 : 0 < sX2_number num 15 → ¬ 2 * sX2_number num 15 = 0) (hz2 : 0 < sX2_number num 16 → ¬ 2 * sX2_number num 16 = 0) : xW (T := Int32 × Int32 × Int32 × Int32 × Int32 × Int32 × Int32 × Int32 × Int32 × Int32 × Int32 × Int32 × Int32 × Int64 × Int64 × Int64 × Int64) l yX8_ticksToStop wsX8_ticksToStop ({ frames := 8, cells := 0, slots := 0, locals := 175 }) E [(h, .inr (8, [.ref pl, .ref rd, .ref nw, .ref ah, .ref tr, .ref hi, .ref s0, .ref s1, .int errorAt])), (pl, .inr (2, [.ref an])), (an, .inl (E.2.1, 24, .inl num)), (nw, .inr (6, [.ref mo, .ref re, .ref rc, .int tick, .int mode, .int lock, .int force, .int switches, .int stops, .int resets, .int latestStop])), (mo, .inr (1, [.int x, .int v, .int a1, .int a2, .int w1, .int w2])), (re, .inr (5, [.ref ar, .ref af])), (ar, .inl (E.2.1, 49, .inl rs)), (af, .inl (E.2.1, 49, .inl fs)), (rc, .inr (4, [.long b1, .long b2, .long b3, .long b4])), (ah, .inr (6, [.ref amo, .ref are, .ref arc, .int atick, .int amode, .int alock, .int aforce, .int aswitches, .int astops, .int aresets, .int alatestStop])), (amo, .inr (1, [.int ax, .int av, .int aa1, .int aa2, .int aw1, .int aw2])), (are, .inr (5, [.ref aar, .ref aaf])), (aar, .inl (E.2.1, 49, .inl ars)), (aaf, .inl (E.2.1, 49, .inl afs)), (arc, .inr (4, [.long ab1, .long ab2, .long ab3, .long ab4]))] [.ref h, .int limit] (fun q => some (.int q.1)) (fun q => [(h, .inr (8, [.ref pl, .ref rd, .ref nw, .ref ah, .ref tr, .ref hi, .ref s0, .ref s1, .int errorAt])), (pl, .inr (2, [.ref an])), (an, .inl (E.2.1, 24, .inl num)), (nw, .inr (6, [.ref mo, .ref re, .ref rc, .int tick, .int mode, .int lock, .int force, .int switches, .int stops, .int resets, .int latestStop])), (mo, .inr (1, [.int x, .int v, .int a1, .int a2, .int w1, .int w2])), (re, .inr (5, [.ref ar, .ref af])), (ar, .inl (E.2.1, 49, .inl rs)), (af, .inl (E.2.1, 49, .inl fs)), (rc, .inr (4, [.long b1, .long b2, .long b3, .long b4])), (ah, .inr (6, [.ref amo, .ref are, .ref arc, .int q.2.2.2.2.2.2.2.1, .int q.2.2.2.2.2.2.2.2.1, .int q.2.2.2.2.2.2.2.2.2.1, .int force, .int q.2.2.2.2.2.2.2.2.2.2.1, .int q.2.2.2.2.2.2.2.2.2.2.2.1, .int resets, .int q.2.2.2.2.2.2.2.2.2.2.2.2.1])), (amo, .inr (1, [.int q.2.1, .int q.2.2.1, .int q.2.2.2.1, .int q.2.2.2.2.1, .int q.2.2.2.2.2.1, .int q.2.2.2.2.2.2.1])), (are, .inr (5, [.ref aar, .ref aaf])), (aar, .inl (E.2.1, 49, .inl (va_cpy rs ars 0 0 49))), (aaf, .inl (E.2.1, 49, .inl (va_cpy fs afs 0 0 49))), (arc, .inr (4, [.long q.2.2.2.2.2.2.2.2.2.2.2.2.2.1, .long q.2.2.2.2.2.2.2.2.2.2.2.2.2.2.1, .long q.2.2.2.2.2.2.2.2.2.2.2.2.2.2.2.1, .long q.2.2.2.2.2.2.2.2.2.2.2.2.2.2.2.2]))]) (sX8_ticksToStop_ok num tick mode lock force switches stops latestStop x v a1 a2 w1 w2 rs b1 b2 b3 b4 ars limit) 0 0 := by
  refine xW.of (cc := cX8_ticksToStop) (maxL := 2) (ret := (some .int)) (by decide) rfl (Nat.le_of_ble_eq_true rfl) ?_
  intro p e s m args below meth c ls A hM hE hP hD hS hA hl
  obtain ⟨hx, hb, hr, hml, hts, hown, hlk, hnm⟩ := hM
  have hX : xD A [h, pl, an, nw, mo, re, ar, af, rc, ah, amo, are, aar, aaf, arc] := xD.of hD rfl
  have hl : lv_has ls 2 [(0, .ref h), (1, .int limit)] := hl
  refine lv_iload_n hx hb dX8_ticksToStop_0 rfl (lv_at hl 1 rfl) ?_
  refine lv_iconst (v := 0) hx hb dX8_ticksToStop_1 (by decide) ?_
  refine lv_sipush (v := 1000) hx hb dX8_ticksToStop_2 (by decide) ?_
  refine x_r0S [.int limit, .int 0, .int 1000] (kX8_requireRange_ok l E limit 0 1000 o1a o1b) ⟨hx, hb, hml, hown, hts⟩ (va_cwS 3 hts gX8_ticksToStop_X8_requireRange rfl rfl rfl hdX8_requireRange.2 ⟨Nat.le_of_ble_eq_true rfl, Nat.le_of_ble_eq_true rfl⟩) hE hP (hX.d rfl) [] rfl rfl hl.1 rfl rfl (Nat.le_of_ble_eq_true rfl) dX8_ticksToStop_5 (Nat.le_of_ble_eq_true rfl) (Nat.le_of_ble_eq_true rfl) ?_
  refine W.eq (g2 := F0 m 8 ls []) rfl ?_
  refine lv_aload_n hx hb dX8_ticksToStop_8 rfl (lv_at hl 0 rfl) ?_
  refine lv_iconst (v := 3) hx hb dX8_ticksToStop_9 (by decide) ?_
  refine lv_iload_n hx hb dX8_ticksToStop_10 rfl (lv_at hl 1 rfl) ?_
  refine x_wV (wr := []) [.int 3, .int limit] (kX8_ticksUntil l E h pl rd nw ah tr hi s0 s1 errorAt an num mo re rc tick mode lock force switches stops resets latestStop x v a1 a2 w1 w2 ar af rs fs b1 b2 b3 b4 amo are arc atick amode alock aforce aswitches astops aresets alatestStop ax av aa1 aa2 aw1 aw2 aar aaf ars afs ab1 ab2 ab3 ab4 3 limit hz1 hz2) ⟨hx, hb, hml, hown, hts⟩ (cwV 2 hts gX8_ticksToStop_X8_ticksUntil rfl rfl rfl hdX8_ticksUntil ⟨Nat.le_of_ble_eq_true rfl, Nat.le_of_ble_eq_true rfl⟩) hE hP (hX.d rfl) hS hA [0, 1, 2, 3, 4, 5, 6, 7, 8, 9, 10, 11, 12, 13, 14] [] rfl rfl rfl rfl (by decide) (ci := 8) (q0 := 0) rfl rfl rfl hl.1 rfl rfl (Nat.le_of_ble_eq_true rfl) dX8_ticksToStop_11 (Nat.le_of_ble_eq_true rfl) (Nat.le_of_ble_eq_true rfl) (fun q_1 H locs hq_1 hP hD hS => ?_)
  have hP : va_P E.1 vwCl [(h, .inr (8, [.ref pl, .ref rd, .ref nw, .ref ah, .ref tr, .ref hi, .ref s0, .ref s1, .int errorAt])), (pl, .inr (2, [.ref an])), (an, .inl (E.2.1, 24, .inl num)), (nw, .inr (6, [.ref mo, .ref re, .ref rc, .int tick, .int mode, .int lock, .int force, .int switches, .int stops, .int resets, .int latestStop])), (mo, .inr (1, [.int x, .int v, .int a1, .int a2, .int w1, .int w2])), (re, .inr (5, [.ref ar, .ref af])), (ar, .inl (E.2.1, 49, .inl rs)), (af, .inl (E.2.1, 49, .inl fs)), (rc, .inr (4, [.long b1, .long b2, .long b3, .long b4])), (ah, .inr (6, [.ref amo, .ref are, .ref arc, .int q_1.2.2.2.2.2.2.2.1, .int q_1.2.2.2.2.2.2.2.2.1, .int q_1.2.2.2.2.2.2.2.2.2.1, .int force, .int q_1.2.2.2.2.2.2.2.2.2.2.1, .int q_1.2.2.2.2.2.2.2.2.2.2.2.1, .int resets, .int q_1.2.2.2.2.2.2.2.2.2.2.2.2.1])), (amo, .inr (1, [.int q_1.2.1, .int q_1.2.2.1, .int q_1.2.2.2.1, .int q_1.2.2.2.2.1, .int q_1.2.2.2.2.2.1, .int q_1.2.2.2.2.2.2.1])), (are, .inr (5, [.ref aar, .ref aaf])), (aar, .inl (E.2.1, 49, .inl (va_cpy rs ars 0 0 49))), (aaf, .inl (E.2.1, 49, .inl (va_cpy fs afs 0 0 49))), (arc, .inr (4, [.long q_1.2.2.2.2.2.2.2.2.2.2.2.2.2.1, .long q_1.2.2.2.2.2.2.2.2.2.2.2.2.2.2.1, .long q_1.2.2.2.2.2.2.2.2.2.2.2.2.2.2.2.1, .long q_1.2.2.2.2.2.2.2.2.2.2.2.2.2.2.2.2]))] H := hP
  have hX : xD A [h, pl, an, nw, mo, re, ar, af, rc, ah, amo, are, aar, aaf, arc] := xD.of hD rfl
  refine W.eq (g2 := F0 m 14 ls [.int q_1.1]) rfl ?_
  exact x_wi (q_1.1, q_1.2.1, q_1.2.2.1, q_1.2.2.2.1, q_1.2.2.2.2.1, q_1.2.2.2.2.2.1, q_1.2.2.2.2.2.2.1, q_1.2.2.2.2.2.2.2.1, q_1.2.2.2.2.2.2.2.2.1, q_1.2.2.2.2.2.2.2.2.2.1, q_1.2.2.2.2.2.2.2.2.2.2.1, q_1.2.2.2.2.2.2.2.2.2.2.2.1, q_1.2.2.2.2.2.2.2.2.2.2.2.2.1, q_1.2.2.2.2.2.2.2.2.2.2.2.2.2.1, q_1.2.2.2.2.2.2.2.2.2.2.2.2.2.2.1, q_1.2.2.2.2.2.2.2.2.2.2.2.2.2.2.2.1, q_1.2.2.2.2.2.2.2.2.2.2.2.2.2.2.2.2) (by unfold sX8_ticksToStop_ok; rw [← hq_1]; unfold sX8_ticksToStop_ok_q_1; try rfl) rfl hx hb hr hlk hS hP (hX.d rfl) [0, 1, 2, 3, 4, 5, 6, 7, 8, 9, 10, 11, 12, 13, 14] rfl rfl (Nat.le_of_ble_eq_true rfl) (Nat.le_of_ble_eq_true rfl) dX8_ticksToStop_14
set_option maxHeartbeats 4000000 in
set_option maxRecDepth 100000 in
theorem kX8_ticksToStop_x1 (l : Launch) (E : XE) (hst : l.stackTraces = false) (h : Nat) (limit : Int32) (b1 : limit < 0 ∨ ¬ limit ≤ 1000) : xX l yX8_ticksToStop wsX8_ticksToStop ({ frames := 7, cells := 1, slots := 6, locals := 112 }) E [] [.ref h, .int limit] "java/lang/IllegalArgumentException" := by
  refine xX.of (cc := cX8_ticksToStop) (maxL := 2) (ret := (some .int)) (by decide) rfl (Nat.le_of_ble_eq_true rfl) ?_
  intro p e s m args below meth c ls hM hE hP hD hThr ht hl
  obtain ⟨hx, hb, hr, hml, hts, hown, hlk, hnm⟩ := hM
  have hl : lv_has ls 2 [(0, .ref h), (1, .int limit)] := hl
  refine lv_iload_n hx hb dX8_ticksToStop_0 rfl (lv_at hl 1 rfl) ?_
  refine lv_iconst (v := 0) hx hb dX8_ticksToStop_1 (by decide) ?_
  refine lv_sipush (v := 1000) hx hb dX8_ticksToStop_2 (by decide) ?_
  exact x_bS [.int limit, .int 0, .int 1000] (kX8_requireRange_bad l E hst limit 0 1000 b1) ⟨hx, hb, hml, hown, hts⟩ (va_cwS 3 hts gX8_ticksToStop_X8_requireRange rfl rfl rfl hdX8_requireRange.2 ⟨Nat.le_of_ble_eq_true rfl, Nat.le_of_ble_eq_true rfl⟩) hE hP hD hThr ht hlk [] rfl rfl hl.1 rfl rfl (Nat.le_of_ble_eq_true rfl) dX8_ticksToStop_5 (Nat.le_of_ble_eq_true rfl) (Nat.le_of_ble_eq_true rfl)
