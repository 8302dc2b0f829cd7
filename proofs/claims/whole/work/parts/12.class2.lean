def sX4_passTick (b1 : Int64) (b2 : Int64) (b3 : Int64) (b4 : Int64) : Int64 × Int64 × Int64 × Int64 :=
  (b1 <<< ((1 : Int32).toInt64 &&& 63), (b2 <<< ((1 : Int32).toInt64 &&& 63)) ||| ((b1.toUInt64 >>> ((63 : Int32).toInt64.toUInt64 &&& Int64.toUInt64 63)).toInt64), (b3 <<< ((1 : Int32).toInt64 &&& 63)) ||| ((b2.toUInt64 >>> ((63 : Int32).toInt64.toUInt64 &&& Int64.toUInt64 63)).toInt64), (b4 <<< ((1 : Int32).toInt64 &&& 63)) ||| ((b3.toUInt64 >>> ((63 : Int32).toInt64.toUInt64 &&& Int64.toUInt64 63)).toInt64))
theorem hdX4_passTick : yX4_passTick.cls = RX4 ∧ yX4_passTick.cls ≠ "java/lang/invoke/MethodHandle" ∧ yX4_passTick.cls ≠ "java/lang/invoke/VarHandle" ∧ (parseMethodDescriptor yX4_passTick.desc).map (fun d => d.parameters.length) = some 0 := by decide +kernel
set_option maxHeartbeats 4000000 in
set_option maxRecDepth 100000 in
theorem kX4_passTick (l : Launch) (E : XE) (h : Nat) (b1 : Int64) (b2 : Int64) (b3 : Int64) (b4 : Int64) : xW (T := Int64 × Int64 × Int64 × Int64) l yX4_passTick wsX4_passTick ({ frames := 0, cells := 0, slots := 0, locals := 0 }) E [(h, .inr (4, [.long b1, .long b2, .long b3, .long b4]))] [.ref h] (fun _ => none) (fun q => [(h, .inr (4, [.long q.1, .long q.2.1, .long q.2.2.1, .long q.2.2.2]))]) (sX4_passTick b1 b2 b3 b4) 0 0 := by
  refine xW.of (cc := cX4_passTick) (maxL := 1) (ret := none) (by decide) rfl (Nat.le_of_ble_eq_true rfl) ?_
  intro p e s m args below meth c ls A hM hE hP hD hS hA hl
  obtain ⟨hx, hb, hr, hml, hts, hown, hlk, hnm⟩ := hM
  have g_1 : (Cond.fieldLink RX4 7 "RailPendulum$RecentSwitches" "fourth" "J").before args s = true := hts (Cond.fieldLink RX4 7 "RailPendulum$RecentSwitches" "fourth" "J") (by decide +kernel)
  have g_2 : ∀ w ∈ wsX40, w ∈ wsX4_passTick := by decide +kernel
  have g_3 : (Cond.fieldLink RX4 13 "RailPendulum$RecentSwitches" "third" "J").before args s = true := hts (Cond.fieldLink RX4 13 "RailPendulum$RecentSwitches" "third" "J") (by decide +kernel)
  have g_4 : (Cond.fieldLink RX4 16 "RailPendulum$RecentSwitches" "second" "J").before args s = true := hts (Cond.fieldLink RX4 16 "RailPendulum$RecentSwitches" "second" "J") (by decide +kernel)
  have g_5 : (Cond.fieldLink RX4 19 "RailPendulum$RecentSwitches" "first" "J").before args s = true := hts (Cond.fieldLink RX4 19 "RailPendulum$RecentSwitches" "first" "J") (by decide +kernel)
  have hX : xD A [h] := xD.of hD rfl
  have hl : lv_has ls 1 [(0, .ref h)] := hl
  refine lv_aload_n hx hb dX4_passTick_0 rfl (lv_at hl 0 rfl) ?_
  refine lv_aload_n hx hb dX4_passTick_1 rfl (lv_at hl 0 rfl) ?_
  refine va_get (D := E.1) (ci := 4) (v := .long b4) (C := RX4) (T := TX4) (N := 4) hx hb hts g_2 hown hE.1 hP 0 rfl rfl 3 (by decide) g_1 (fun _ h9 => h9) rfl dX4_passTick_2 ?_
  refine lv_iconst (v := 1) hx hb dX4_passTick_5 (by decide) ?_
  refine lv_lshl hx hb dX4_passTick_6 rfl ?_
  refine lv_aload_n hx hb dX4_passTick_7 rfl (lv_at hl 0 rfl) ?_
  refine va_get (D := E.1) (ci := 4) (v := .long b3) (C := RX4) (T := TX4) (N := 4) hx hb hts g_2 hown hE.1 hP 0 rfl rfl 2 (by decide) g_3 (fun _ h9 => h9) rfl dX4_passTick_8 ?_
  refine lv_bipush (v := 63) hx hb dX4_passTick_11 (by decide) ?_
  refine lv_lushr hx hb dX4_passTick_13 rfl ?_
  refine lv_lor hx hb dX4_passTick_14 ?_
  refine va_put (D := E.1) (ci := 4) (v := .long ((b4 <<< ((1 : Int32).toInt64 &&& 63)) ||| ((b3.toUInt64 >>> ((63 : Int32).toInt64.toUInt64 &&& Int64.toUInt64 63)).toInt64))) (ty := .long) (C := RX4) (T := TX4) (N := 4) hx hb hts g_2 tyX4 tyX4_ok nmX4 hown hE.1 hP (hX.d rfl) hS 0 rfl rfl 3 (by decide) g_1 (fun _ h9 => h9) rfl (by decide +kernel) rfl rfl (Nat.le_of_ble_eq_true rfl) dX4_passTick_15 (fun H locs hP _ hS => ?_)
  have hP : va_P E.1 vwCl [(h, .inr (4, [.long b1, .long b2, .long b3, .long ((b4 <<< ((1 : Int32).toInt64 &&& 63)) ||| ((b3.toUInt64 >>> ((63 : Int32).toInt64.toUInt64 &&& Int64.toUInt64 63)).toInt64))]))] H := hP
  refine lv_aload_n hx hb dX4_passTick_18 rfl (lv_at hl 0 rfl) ?_
  refine lv_aload_n hx hb dX4_passTick_19 rfl (lv_at hl 0 rfl) ?_
  refine va_get (D := E.1) (ci := 4) (v := .long b3) (C := RX4) (T := TX4) (N := 4) hx hb hts g_2 hown hE.1 hP 0 rfl rfl 2 (by decide) g_3 (fun _ h9 => h9) rfl dX4_passTick_20 ?_
  refine lv_iconst (v := 1) hx hb dX4_passTick_23 (by decide) ?_
  refine lv_lshl hx hb dX4_passTick_24 rfl ?_
  refine lv_aload_n hx hb dX4_passTick_25 rfl (lv_at hl 0 rfl) ?_
  refine va_get (D := E.1) (ci := 4) (v := .long b2) (C := RX4) (T := TX4) (N := 4) hx hb hts g_2 hown hE.1 hP 0 rfl rfl 1 (by decide) g_4 (fun _ h9 => h9) rfl dX4_passTick_26 ?_
  refine lv_bipush (v := 63) hx hb dX4_passTick_29 (by decide) ?_
  refine lv_lushr hx hb dX4_passTick_31 rfl ?_
  refine lv_lor hx hb dX4_passTick_32 ?_
  refine va_put (D := E.1) (ci := 4) (v := .long ((b3 <<< ((1 : Int32).toInt64 &&& 63)) ||| ((b2.toUInt64 >>> ((63 : Int32).toInt64.toUInt64 &&& Int64.toUInt64 63)).toInt64))) (ty := .long) (C := RX4) (T := TX4) (N := 4) hx hb hts g_2 tyX4 tyX4_ok nmX4 hown hE.1 hP (hX.d rfl) hS 0 rfl rfl 2 (by decide) g_3 (fun _ h9 => h9) rfl (by decide +kernel) rfl rfl (Nat.le_of_ble_eq_true rfl) dX4_passTick_33 (fun H locs hP _ hS => ?_)
  have hP : va_P E.1 vwCl [(h, .inr (4, [.long b1, .long b2, .long ((b3 <<< ((1 : Int32).toInt64 &&& 63)) ||| ((b2.toUInt64 >>> ((63 : Int32).toInt64.toUInt64 &&& Int64.toUInt64 63)).toInt64)), .long ((b4 <<< ((1 : Int32).toInt64 &&& 63)) ||| ((b3.toUInt64 >>> ((63 : Int32).toInt64.toUInt64 &&& Int64.toUInt64 63)).toInt64))]))] H := hP
  refine lv_aload_n hx hb dX4_passTick_36 rfl (lv_at hl 0 rfl) ?_
  refine lv_aload_n hx hb dX4_passTick_37 rfl (lv_at hl 0 rfl) ?_
  refine va_get (D := E.1) (ci := 4) (v := .long b2) (C := RX4) (T := TX4) (N := 4) hx hb hts g_2 hown hE.1 hP 0 rfl rfl 1 (by decide) g_4 (fun _ h9 => h9) rfl dX4_passTick_38 ?_
  refine lv_iconst (v := 1) hx hb dX4_passTick_41 (by decide) ?_
  refine lv_lshl hx hb dX4_passTick_42 rfl ?_
  refine lv_aload_n hx hb dX4_passTick_43 rfl (lv_at hl 0 rfl) ?_
  refine va_get (D := E.1) (ci := 4) (v := .long b1) (C := RX4) (T := TX4) (N := 4) hx hb hts g_2 hown hE.1 hP 0 rfl rfl 0 (by decide) g_5 (fun _ h9 => h9) rfl dX4_passTick_44 ?_
  refine lv_bipush (v := 63) hx hb dX4_passTick_47 (by decide) ?_
  refine lv_lushr hx hb dX4_passTick_49 rfl ?_
  refine lv_lor hx hb dX4_passTick_50 ?_
  refine va_put (D := E.1) (ci := 4) (v := .long ((b2 <<< ((1 : Int32).toInt64 &&& 63)) ||| ((b1.toUInt64 >>> ((63 : Int32).toInt64.toUInt64 &&& Int64.toUInt64 63)).toInt64))) (ty := .long) (C := RX4) (T := TX4) (N := 4) hx hb hts g_2 tyX4 tyX4_ok nmX4 hown hE.1 hP (hX.d rfl) hS 0 rfl rfl 1 (by decide) g_4 (fun _ h9 => h9) rfl (by decide +kernel) rfl rfl (Nat.le_of_ble_eq_true rfl) dX4_passTick_51 (fun H locs hP _ hS => ?_)
  have hP : va_P E.1 vwCl [(h, .inr (4, [.long b1, .long ((b2 <<< ((1 : Int32).toInt64 &&& 63)) ||| ((b1.toUInt64 >>> ((63 : Int32).toInt64.toUInt64 &&& Int64.toUInt64 63)).toInt64)), .long ((b3 <<< ((1 : Int32).toInt64 &&& 63)) ||| ((b2.toUInt64 >>> ((63 : Int32).toInt64.toUInt64 &&& Int64.toUInt64 63)).toInt64)), .long ((b4 <<< ((1 : Int32).toInt64 &&& 63)) ||| ((b3.toUInt64 >>> ((63 : Int32).toInt64.toUInt64 &&& Int64.toUInt64 63)).toInt64))]))] H := hP
  refine lv_aload_n hx hb dX4_passTick_54 rfl (lv_at hl 0 rfl) ?_
  refine lv_aload_n hx hb dX4_passTick_55 rfl (lv_at hl 0 rfl) ?_
  refine va_get (D := E.1) (ci := 4) (v := .long b1) (C := RX4) (T := TX4) (N := 4) hx hb hts g_2 hown hE.1 hP 0 rfl rfl 0 (by decide) g_5 (fun _ h9 => h9) rfl dX4_passTick_56 ?_
  refine lv_iconst (v := 1) hx hb dX4_passTick_59 (by decide) ?_
  refine lv_lshl hx hb dX4_passTick_60 rfl ?_
  refine va_put (D := E.1) (ci := 4) (v := .long (b1 <<< ((1 : Int32).toInt64 &&& 63))) (ty := .long) (C := RX4) (T := TX4) (N := 4) hx hb hts g_2 tyX4 tyX4_ok nmX4 hown hE.1 hP (hX.d rfl) hS 0 rfl rfl 0 (by decide) g_5 (fun _ h9 => h9) rfl (by decide +kernel) rfl rfl (Nat.le_of_ble_eq_true rfl) dX4_passTick_61 (fun H locs hP _ hS => ?_)
  have hP : va_P E.1 vwCl [(h, .inr (4, [.long (b1 <<< ((1 : Int32).toInt64 &&& 63)), .long ((b2 <<< ((1 : Int32).toInt64 &&& 63)) ||| ((b1.toUInt64 >>> ((63 : Int32).toInt64.toUInt64 &&& Int64.toUInt64 63)).toInt64)), .long ((b3 <<< ((1 : Int32).toInt64 &&& 63)) ||| ((b2.toUInt64 >>> ((63 : Int32).toInt64.toUInt64 &&& Int64.toUInt64 63)).toInt64)), .long ((b4 <<< ((1 : Int32).toInt64 &&& 63)) ||| ((b3.toUInt64 >>> ((63 : Int32).toInt64.toUInt64 &&& Int64.toUInt64 63)).toInt64))]))] H := hP
  exact x_wv (b1 <<< ((1 : Int32).toInt64 &&& 63), (b2 <<< ((1 : Int32).toInt64 &&& 63)) ||| ((b1.toUInt64 >>> ((63 : Int32).toInt64.toUInt64 &&& Int64.toUInt64 63)).toInt64), (b3 <<< ((1 : Int32).toInt64 &&& 63)) ||| ((b2.toUInt64 >>> ((63 : Int32).toInt64.toUInt64 &&& Int64.toUInt64 63)).toInt64), (b4 <<< ((1 : Int32).toInt64 &&& 63)) ||| ((b3.toUInt64 >>> ((63 : Int32).toInt64.toUInt64 &&& Int64.toUInt64 63)).toInt64)) (by unfold sX4_passTick; try rfl) rfl hx hb hr hlk hS hP (hX.d rfl) [0] rfl rfl (Nat.le_of_ble_eq_true rfl) (Nat.le_of_ble_eq_true rfl) dX4_passTick_64
def sX4_markTick (b1 : Int64) : Int64 :=
  b1 ||| 1
theorem hdX4_markTick : yX4_markTick.cls = RX4 ∧ yX4_markTick.cls ≠ "java/lang/invoke/MethodHandle" ∧ yX4_markTick.cls ≠ "java/lang/invoke/VarHandle" ∧ (parseMethodDescriptor yX4_markTick.desc).map (fun d => d.parameters.length) = some 0 := by decide +kernel
set_option maxHeartbeats 4000000 in
set_option maxRecDepth 100000 in
theorem kX4_markTick (l : Launch) (E : XE) (h : Nat) (b1 : Int64) (b2 : Int64) (b3 : Int64) (b4 : Int64) : xW (T := Int64) l yX4_markTick wsX4_markTick ({ frames := 0, cells := 0, slots := 0, locals := 0 }) E [(h, .inr (4, [.long b1, .long b2, .long b3, .long b4]))] [.ref h] (fun _ => none) (fun q => [(h, .inr (4, [.long q, .long b2, .long b3, .long b4]))]) (sX4_markTick b1) 0 0 := by
  refine xW.of (cc := cX4_markTick) (maxL := 1) (ret := none) (by decide) rfl (Nat.le_of_ble_eq_true rfl) ?_
  intro p e s m args below meth c ls A hM hE hP hD hS hA hl
  obtain ⟨hx, hb, hr, hml, hts, hown, hlk, hnm⟩ := hM
  have g_1 : (Cond.fieldLink RX4 19 "RailPendulum$RecentSwitches" "first" "J").before args s = true := hts (Cond.fieldLink RX4 19 "RailPendulum$RecentSwitches" "first" "J") (by decide +kernel)
  have g_2 : ∀ w ∈ wsX40, w ∈ wsX4_markTick := by decide +kernel
  have hX : xD A [h] := xD.of hD rfl
  have hl : lv_has ls 1 [(0, .ref h)] := hl
  refine lv_aload_n hx hb dX4_markTick_0 rfl (lv_at hl 0 rfl) ?_
  refine lv_dup hx hb dX4_markTick_1 rfl ?_
  refine va_get (D := E.1) (ci := 4) (v := .long b1) (C := RX4) (T := TX4) (N := 4) hx hb hts g_2 hown hE.1 hP 0 rfl rfl 0 (by decide) g_1 (fun _ h9 => h9) rfl dX4_markTick_2 ?_
  refine lv_lconst (v := 1) hx hb dX4_markTick_5 (by decide) ?_
  refine lv_lor hx hb dX4_markTick_6 ?_
  refine va_put (D := E.1) (ci := 4) (v := .long (b1 ||| 1)) (ty := .long) (C := RX4) (T := TX4) (N := 4) hx hb hts g_2 tyX4 tyX4_ok nmX4 hown hE.1 hP (hX.d rfl) hS 0 rfl rfl 0 (by decide) g_1 (fun _ h9 => h9) rfl (by decide +kernel) rfl rfl (Nat.le_of_ble_eq_true rfl) dX4_markTick_7 (fun H locs hP _ hS => ?_)
  have hP : va_P E.1 vwCl [(h, .inr (4, [.long (b1 ||| 1), .long b2, .long b3, .long b4]))] H := hP
  exact x_wv (b1 ||| 1) (by unfold sX4_markTick; try rfl) rfl hx hb hr hlk hS hP (hX.d rfl) [0] rfl rfl (Nat.le_of_ble_eq_true rfl) (Nat.le_of_ble_eq_true rfl) dX4_markTick_10
def sX4_lowBits (howMany : Int32) : Int64 :=
  if 0 < howMany then
    if howMany < 64 then
      ((1 : Int64) <<< (howMany.toInt64 &&& 63)) - 1
    else
      (-1)
  else
    0
theorem hdX4_lowBits : yX4_lowBits.cls = RX4 ∧ yX4_lowBits.cls ≠ "java/lang/invoke/MethodHandle" ∧ yX4_lowBits.cls ≠ "java/lang/invoke/VarHandle" ∧ (parseMethodDescriptor yX4_lowBits.desc).map (fun d => d.parameters.length) = some 1 := by decide +kernel
set_option maxHeartbeats 4000000 in
set_option maxRecDepth 100000 in
theorem kX4_lowBits (l : Launch) (E : XE) (howMany : Int32) : xR l yX4_lowBits wsX4_lowBits ({ frames := 0, cells := 0, slots := 0, locals := 0 }) E [] [.int howMany] (.long (sX4_lowBits howMany)) := by
  refine xR.of (cc := cX4_lowBits) (maxL := 1) (ret := (some .long)) (by decide) rfl (Nat.le_of_ble_eq_true rfl) ?_
  intro p e s m args below meth c ls hM hE hP hD hl
  obtain ⟨hx, hb, hr, hml, hts, hown, hlk, hnm⟩ := hM
  have g_1 : (Cond.constantLong RX4 32 (-1)).before args s = true := hts (Cond.constantLong RX4 32 (-1)) (by decide +kernel)
  have hl : lv_has ls 1 [(0, .int howMany)] := hl
  refine lv_iload_n hx hb dX4_lowBits_0 rfl (lv_at hl 0 rfl) ?_
  refine lv_if_gt (tgt := 6) hx hb dX4_lowBits_1 (by decide) (fun c_1 => ?_) (fun c_1 => ?_)
  · refine lv_iload_n hx hb dX4_lowBits_6 rfl (lv_at hl 0 rfl) ?_
    refine lv_bipush (v := 64) hx hb dX4_lowBits_7 (by decide) ?_
    refine lv_icmp_lt (tgt := 18) hx hb dX4_lowBits_9 (by decide) (fun c_2 => ?_) (fun c_2 => ?_)
    · refine lv_lconst (v := 1) hx hb dX4_lowBits_18 (by decide) ?_
      refine lv_iload_n hx hb dX4_lowBits_19 rfl (lv_at hl 0 rfl) ?_
      refine lv_lshl hx hb dX4_lowBits_20 rfl ?_
      refine lv_lconst (v := 1) hx hb dX4_lowBits_21 (by decide) ?_
      refine lv_lsub hx hb dX4_lowBits_22 ?_
      exact x_lr (by unfold sX4_lowBits; rw [if_pos c_1]; rw [if_pos c_2]; try rfl) hx hb hr hlk dX4_lowBits_23
    · refine lv_ldc2 (v := (-1)) hx hb hown g_1 dX4_lowBits_12 ?_
      refine lv_goto (tgt := 23) hx hb dX4_lowBits_15 (by decide) ?_
      exact x_lr (by unfold sX4_lowBits; rw [if_pos c_1]; rw [if_neg c_2]; try rfl) hx hb hr hlk dX4_lowBits_23
  · refine lv_lconst (v := 0) hx hb dX4_lowBits_4 (by decide) ?_
    exact x_lr (by unfold sX4_lowBits; rw [if_neg c_1]; try rfl) hx hb hr hlk dX4_lowBits_5
def sJ13_bitCount_95d88 (i : Int64) : Int32 :=
  (((((((((i - (((i.toUInt64 >>> ((1 : Int32).toInt64.toUInt64 &&& Int64.toUInt64 63)).toInt64) &&& 6148914691236517205)) &&& 3689348814741910323) + ((((i - (((i.toUInt64 >>> ((1 : Int32).toInt64.toUInt64 &&& Int64.toUInt64 63)).toInt64) &&& 6148914691236517205)).toUInt64 >>> ((2 : Int32).toInt64.toUInt64 &&& Int64.toUInt64 63)).toInt64) &&& 3689348814741910323)) + (((((i - (((i.toUInt64 >>> ((1 : Int32).toInt64.toUInt64 &&& Int64.toUInt64 63)).toInt64) &&& 6148914691236517205)) &&& 3689348814741910323) + ((((i - (((i.toUInt64 >>> ((1 : Int32).toInt64.toUInt64 &&& Int64.toUInt64 63)).toInt64) &&& 6148914691236517205)).toUInt64 >>> ((2 : Int32).toInt64.toUInt64 &&& Int64.toUInt64 63)).toInt64) &&& 3689348814741910323)).toUInt64 >>> ((4 : Int32).toInt64.toUInt64 &&& Int64.toUInt64 63)).toInt64)) &&& 1085102592571150095) + (((((((i - (((i.toUInt64 >>> ((1 : Int32).toInt64.toUInt64 &&& Int64.toUInt64 63)).toInt64) &&& 6148914691236517205)) &&& 3689348814741910323) + ((((i - (((i.toUInt64 >>> ((1 : Int32).toInt64.toUInt64 &&& Int64.toUInt64 63)).toInt64) &&& 6148914691236517205)).toUInt64 >>> ((2 : Int32).toInt64.toUInt64 &&& Int64.toUInt64 63)).toInt64) &&& 3689348814741910323)) + (((((i - (((i.toUInt64 >>> ((1 : Int32).toInt64.toUInt64 &&& Int64.toUInt64 63)).toInt64) &&& 6148914691236517205)) &&& 3689348814741910323) + ((((i - (((i.toUInt64 >>> ((1 : Int32).toInt64.toUInt64 &&& Int64.toUInt64 63)).toInt64) &&& 6148914691236517205)).toUInt64 >>> ((2 : Int32).toInt64.toUInt64 &&& Int64.toUInt64 63)).toInt64) &&& 3689348814741910323)).toUInt64 >>> ((4 : Int32).toInt64.toUInt64 &&& Int64.toUInt64 63)).toInt64)) &&& 1085102592571150095).toUInt64 >>> ((8 : Int32).toInt64.toUInt64 &&& Int64.toUInt64 63)).toInt64)) + ((((((((i - (((i.toUInt64 >>> ((1 : Int32).toInt64.toUInt64 &&& Int64.toUInt64 63)).toInt64) &&& 6148914691236517205)) &&& 3689348814741910323) + ((((i - (((i.toUInt64 >>> ((1 : Int32).toInt64.toUInt64 &&& Int64.toUInt64 63)).toInt64) &&& 6148914691236517205)).toUInt64 >>> ((2 : Int32).toInt64.toUInt64 &&& Int64.toUInt64 63)).toInt64) &&& 3689348814741910323)) + (((((i - (((i.toUInt64 >>> ((1 : Int32).toInt64.toUInt64 &&& Int64.toUInt64 63)).toInt64) &&& 6148914691236517205)) &&& 3689348814741910323) + ((((i - (((i.toUInt64 >>> ((1 : Int32).toInt64.toUInt64 &&& Int64.toUInt64 63)).toInt64) &&& 6148914691236517205)).toUInt64 >>> ((2 : Int32).toInt64.toUInt64 &&& Int64.toUInt64 63)).toInt64) &&& 3689348814741910323)).toUInt64 >>> ((4 : Int32).toInt64.toUInt64 &&& Int64.toUInt64 63)).toInt64)) &&& 1085102592571150095) + (((((((i - (((i.toUInt64 >>> ((1 : Int32).toInt64.toUInt64 &&& Int64.toUInt64 63)).toInt64) &&& 6148914691236517205)) &&& 3689348814741910323) + ((((i - (((i.toUInt64 >>> ((1 : Int32).toInt64.toUInt64 &&& Int64.toUInt64 63)).toInt64) &&& 6148914691236517205)).toUInt64 >>> ((2 : Int32).toInt64.toUInt64 &&& Int64.toUInt64 63)).toInt64) &&& 3689348814741910323)) + (((((i - (((i.toUInt64 >>> ((1 : Int32).toInt64.toUInt64 &&& Int64.toUInt64 63)).toInt64) &&& 6148914691236517205)) &&& 3689348814741910323) + ((((i - (((i.toUInt64 >>> ((1 : Int32).toInt64.toUInt64 &&& Int64.toUInt64 63)).toInt64) &&& 6148914691236517205)).toUInt64 >>> ((2 : Int32).toInt64.toUInt64 &&& Int64.toUInt64 63)).toInt64) &&& 3689348814741910323)).toUInt64 >>> ((4 : Int32).toInt64.toUInt64 &&& Int64.toUInt64 63)).toInt64)) &&& 1085102592571150095).toUInt64 >>> ((8 : Int32).toInt64.toUInt64 &&& Int64.toUInt64 63)).toInt64)).toUInt64 >>> ((16 : Int32).toInt64.toUInt64 &&& Int64.toUInt64 63)).toInt64)) + (((((((((i - (((i.toUInt64 >>> ((1 : Int32).toInt64.toUInt64 &&& Int64.toUInt64 63)).toInt64) &&& 6148914691236517205)) &&& 3689348814741910323) + ((((i - (((i.toUInt64 >>> ((1 : Int32).toInt64.toUInt64 &&& Int64.toUInt64 63)).toInt64) &&& 6148914691236517205)).toUInt64 >>> ((2 : Int32).toInt64.toUInt64 &&& Int64.toUInt64 63)).toInt64) &&& 3689348814741910323)) + (((((i - (((i.toUInt64 >>> ((1 : Int32).toInt64.toUInt64 &&& Int64.toUInt64 63)).toInt64) &&& 6148914691236517205)) &&& 3689348814741910323) + ((((i - (((i.toUInt64 >>> ((1 : Int32).toInt64.toUInt64 &&& Int64.toUInt64 63)).toInt64) &&& 6148914691236517205)).toUInt64 >>> ((2 : Int32).toInt64.toUInt64 &&& Int64.toUInt64 63)).toInt64) &&& 3689348814741910323)).toUInt64 >>> ((4 : Int32).toInt64.toUInt64 &&& Int64.toUInt64 63)).toInt64)) &&& 1085102592571150095) + (((((((i - (((i.toUInt64 >>> ((1 : Int32).toInt64.toUInt64 &&& Int64.toUInt64 63)).toInt64) &&& 6148914691236517205)) &&& 3689348814741910323) + ((((i - (((i.toUInt64 >>> ((1 : Int32).toInt64.toUInt64 &&& Int64.toUInt64 63)).toInt64) &&& 6148914691236517205)).toUInt64 >>> ((2 : Int32).toInt64.toUInt64 &&& Int64.toUInt64 63)).toInt64) &&& 3689348814741910323)) + (((((i - (((i.toUInt64 >>> ((1 : Int32).toInt64.toUInt64 &&& Int64.toUInt64 63)).toInt64) &&& 6148914691236517205)) &&& 3689348814741910323) + ((((i - (((i.toUInt64 >>> ((1 : Int32).toInt64.toUInt64 &&& Int64.toUInt64 63)).toInt64) &&& 6148914691236517205)).toUInt64 >>> ((2 : Int32).toInt64.toUInt64 &&& Int64.toUInt64 63)).toInt64) &&& 3689348814741910323)).toUInt64 >>> ((4 : Int32).toInt64.toUInt64 &&& Int64.toUInt64 63)).toInt64)) &&& 1085102592571150095).toUInt64 >>> ((8 : Int32).toInt64.toUInt64 &&& Int64.toUInt64 63)).toInt64)) + ((((((((i - (((i.toUInt64 >>> ((1 : Int32).toInt64.toUInt64 &&& Int64.toUInt64 63)).toInt64) &&& 6148914691236517205)) &&& 3689348814741910323) + ((((i - (((i.toUInt64 >>> ((1 : Int32).toInt64.toUInt64 &&& Int64.toUInt64 63)).toInt64) &&& 6148914691236517205)).toUInt64 >>> ((2 : Int32).toInt64.toUInt64 &&& Int64.toUInt64 63)).toInt64) &&& 3689348814741910323)) + (((((i - (((i.toUInt64 >>> ((1 : Int32).toInt64.toUInt64 &&& Int64.toUInt64 63)).toInt64) &&& 6148914691236517205)) &&& 3689348814741910323) + ((((i - (((i.toUInt64 >>> ((1 : Int32).toInt64.toUInt64 &&& Int64.toUInt64 63)).toInt64) &&& 6148914691236517205)).toUInt64 >>> ((2 : Int32).toInt64.toUInt64 &&& Int64.toUInt64 63)).toInt64) &&& 3689348814741910323)).toUInt64 >>> ((4 : Int32).toInt64.toUInt64 &&& Int64.toUInt64 63)).toInt64)) &&& 1085102592571150095) + (((((((i - (((i.toUInt64 >>> ((1 : Int32).toInt64.toUInt64 &&& Int64.toUInt64 63)).toInt64) &&& 6148914691236517205)) &&& 3689348814741910323) + ((((i - (((i.toUInt64 >>> ((1 : Int32).toInt64.toUInt64 &&& Int64.toUInt64 63)).toInt64) &&& 6148914691236517205)).toUInt64 >>> ((2 : Int32).toInt64.toUInt64 &&& Int64.toUInt64 63)).toInt64) &&& 3689348814741910323)) + (((((i - (((i.toUInt64 >>> ((1 : Int32).toInt64.toUInt64 &&& Int64.toUInt64 63)).toInt64) &&& 6148914691236517205)) &&& 3689348814741910323) + ((((i - (((i.toUInt64 >>> ((1 : Int32).toInt64.toUInt64 &&& Int64.toUInt64 63)).toInt64) &&& 6148914691236517205)).toUInt64 >>> ((2 : Int32).toInt64.toUInt64 &&& Int64.toUInt64 63)).toInt64) &&& 3689348814741910323)).toUInt64 >>> ((4 : Int32).toInt64.toUInt64 &&& Int64.toUInt64 63)).toInt64)) &&& 1085102592571150095).toUInt64 >>> ((8 : Int32).toInt64.toUInt64 &&& Int64.toUInt64 63)).toInt64)).toUInt64 >>> ((16 : Int32).toInt64.toUInt64 &&& Int64.toUInt64 63)).toInt64)).toUInt64 >>> ((32 : Int32).toInt64.toUInt64 &&& Int64.toUInt64 63)).toInt64)).toInt32) &&& 127
theorem hdJ13_bitCount_95d88 : yJ13_bitCount_95d88.cls = RJ13 ∧ yJ13_bitCount_95d88.cls ≠ "java/lang/invoke/MethodHandle" ∧ yJ13_bitCount_95d88.cls ≠ "java/lang/invoke/VarHandle" ∧ (parseMethodDescriptor yJ13_bitCount_95d88.desc).map (fun d => d.parameters.length) = some 1 := by decide +kernel
set_option maxHeartbeats 4000000 in
set_option maxRecDepth 100000 in
theorem kJ13_bitCount_95d88 (l : Launch) (E : XE) (i : Int64) : xR l yJ13_bitCount_95d88 wsJ13_bitCount_95d88 ({ frames := 0, cells := 0, slots := 0, locals := 0 }) E [] [.long i] (.int (sJ13_bitCount_95d88 i)) := by
  refine xR.of (cc := cJ13_bitCount_95d88) (maxL := 2) (ret := (some .int)) (by decide) rfl (Nat.le_of_ble_eq_true rfl) ?_
  intro p e s m args below meth c ls hM hE hP hD hl
  obtain ⟨hx, hb, hr, hml, hts, hown, hlk, hnm⟩ := hM
  have g_1 : (Cond.constantLong RJ13 314 (6148914691236517205)).before args s = true := hts (Cond.constantLong RJ13 314 (6148914691236517205)) (by decide +kernel)
  have g_2 : (Cond.constantLong RJ13 316 (3689348814741910323)).before args s = true := hts (Cond.constantLong RJ13 316 (3689348814741910323)) (by decide +kernel)
  have g_3 : (Cond.constantLong RJ13 318 (1085102592571150095)).before args s = true := hts (Cond.constantLong RJ13 318 (1085102592571150095)) (by decide +kernel)
  have hl : lv_has ls 2 [(0, .long i)] := hl
  refine lv_lload_n hx hb dJ13_bitCount_95d88_0 rfl (lv_at hl 0 rfl) ?_
  refine lv_lload_n hx hb dJ13_bitCount_95d88_1 rfl (lv_at hl 0 rfl) ?_
  refine lv_iconst (v := 1) hx hb dJ13_bitCount_95d88_2 (by decide) ?_
  refine lv_lushr hx hb dJ13_bitCount_95d88_3 rfl ?_
  refine lv_ldc2 (v := 6148914691236517205) hx hb hown g_1 dJ13_bitCount_95d88_4 ?_
  refine lv_land hx hb dJ13_bitCount_95d88_7 ?_
  refine lv_lsub hx hb dJ13_bitCount_95d88_8 ?_
  refine lv_lstore_n (lv' := [(0, .long (i - (((i.toUInt64 >>> ((1 : Int32).toInt64.toUInt64 &&& Int64.toUInt64 63)).toInt64) &&& 6148914691236517205)))]) hx hb dJ13_bitCount_95d88_9 rfl hl (by decide) rfl (fun ls hl => ?_)
  refine lv_lload_n hx hb dJ13_bitCount_95d88_10 rfl (lv_at hl 0 rfl) ?_
  refine lv_ldc2 (v := 3689348814741910323) hx hb hown g_2 dJ13_bitCount_95d88_11 ?_
  refine lv_land hx hb dJ13_bitCount_95d88_14 ?_
  refine lv_lload_n hx hb dJ13_bitCount_95d88_15 rfl (lv_at hl 0 rfl) ?_
  refine lv_iconst (v := 2) hx hb dJ13_bitCount_95d88_16 (by decide) ?_
  refine lv_lushr hx hb dJ13_bitCount_95d88_17 rfl ?_
  refine lv_ldc2 (v := 3689348814741910323) hx hb hown g_2 dJ13_bitCount_95d88_18 ?_
  refine lv_land hx hb dJ13_bitCount_95d88_21 ?_
  refine lv_ladd hx hb dJ13_bitCount_95d88_22 ?_
  refine lv_lstore_n (lv' := [(0, .long (((i - (((i.toUInt64 >>> ((1 : Int32).toInt64.toUInt64 &&& Int64.toUInt64 63)).toInt64) &&& 6148914691236517205)) &&& 3689348814741910323) + ((((i - (((i.toUInt64 >>> ((1 : Int32).toInt64.toUInt64 &&& Int64.toUInt64 63)).toInt64) &&& 6148914691236517205)).toUInt64 >>> ((2 : Int32).toInt64.toUInt64 &&& Int64.toUInt64 63)).toInt64) &&& 3689348814741910323)))]) hx hb dJ13_bitCount_95d88_23 rfl hl (by decide) rfl (fun ls hl => ?_)
  refine lv_lload_n hx hb dJ13_bitCount_95d88_24 rfl (lv_at hl 0 rfl) ?_
  refine lv_lload_n hx hb dJ13_bitCount_95d88_25 rfl (lv_at hl 0 rfl) ?_
  refine lv_iconst (v := 4) hx hb dJ13_bitCount_95d88_26 (by decide) ?_
  refine lv_lushr hx hb dJ13_bitCount_95d88_27 rfl ?_
  refine lv_ladd hx hb dJ13_bitCount_95d88_28 ?_
  refine lv_ldc2 (v := 1085102592571150095) hx hb hown g_3 dJ13_bitCount_95d88_29 ?_
  refine lv_land hx hb dJ13_bitCount_95d88_32 ?_
  refine lv_lstore_n (lv' := [(0, .long (((((i - (((i.toUInt64 >>> ((1 : Int32).toInt64.toUInt64 &&& Int64.toUInt64 63)).toInt64) &&& 6148914691236517205)) &&& 3689348814741910323) + ((((i - (((i.toUInt64 >>> ((1 : Int32).toInt64.toUInt64 &&& Int64.toUInt64 63)).toInt64) &&& 6148914691236517205)).toUInt64 >>> ((2 : Int32).toInt64.toUInt64 &&& Int64.toUInt64 63)).toInt64) &&& 3689348814741910323)) + (((((i - (((i.toUInt64 >>> ((1 : Int32).toInt64.toUInt64 &&& Int64.toUInt64 63)).toInt64) &&& 6148914691236517205)) &&& 3689348814741910323) + ((((i - (((i.toUInt64 >>> ((1 : Int32).toInt64.toUInt64 &&& Int64.toUInt64 63)).toInt64) &&& 6148914691236517205)).toUInt64 >>> ((2 : Int32).toInt64.toUInt64 &&& Int64.toUInt64 63)).toInt64) &&& 3689348814741910323)).toUInt64 >>> ((4 : Int32).toInt64.toUInt64 &&& Int64.toUInt64 63)).toInt64)) &&& 1085102592571150095))]) hx hb dJ13_bitCount_95d88_33 rfl hl (by decide) rfl (fun ls hl => ?_)
  refine lv_lload_n hx hb dJ13_bitCount_95d88_34 rfl (lv_at hl 0 rfl) ?_
  refine lv_lload_n hx hb dJ13_bitCount_95d88_35 rfl (lv_at hl 0 rfl) ?_
  refine lv_bipush (v := 8) hx hb dJ13_bitCount_95d88_36 (by decide) ?_
  refine lv_lushr hx hb dJ13_bitCount_95d88_38 rfl ?_
  refine lv_ladd hx hb dJ13_bitCount_95d88_39 ?_
  refine lv_lstore_n (lv' := [(0, .long ((((((i - (((i.toUInt64 >>> ((1 : Int32).toInt64.toUInt64 &&& Int64.toUInt64 63)).toInt64) &&& 6148914691236517205)) &&& 3689348814741910323) + ((((i - (((i.toUInt64 >>> ((1 : Int32).toInt64.toUInt64 &&& Int64.toUInt64 63)).toInt64) &&& 6148914691236517205)).toUInt64 >>> ((2 : Int32).toInt64.toUInt64 &&& Int64.toUInt64 63)).toInt64) &&& 3689348814741910323)) + (((((i - (((i.toUInt64 >>> ((1 : Int32).toInt64.toUInt64 &&& Int64.toUInt64 63)).toInt64) &&& 6148914691236517205)) &&& 3689348814741910323) + ((((i - (((i.toUInt64 >>> ((1 : Int32).toInt64.toUInt64 &&& Int64.toUInt64 63)).toInt64) &&& 6148914691236517205)).toUInt64 >>> ((2 : Int32).toInt64.toUInt64 &&& Int64.toUInt64 63)).toInt64) &&& 3689348814741910323)).toUInt64 >>> ((4 : Int32).toInt64.toUInt64 &&& Int64.toUInt64 63)).toInt64)) &&& 1085102592571150095) + (((((((i - (((i.toUInt64 >>> ((1 : Int32).toInt64.toUInt64 &&& Int64.toUInt64 63)).toInt64) &&& 6148914691236517205)) &&& 3689348814741910323) + ((((i - (((i.toUInt64 >>> ((1 : Int32).toInt64.toUInt64 &&& Int64.toUInt64 63)).toInt64) &&& 6148914691236517205)).toUInt64 >>> ((2 : Int32).toInt64.toUInt64 &&& Int64.toUInt64 63)).toInt64) &&& 3689348814741910323)) + (((((i - (((i.toUInt64 >>> ((1 : Int32).toInt64.toUInt64 &&& Int64.toUInt64 63)).toInt64) &&& 6148914691236517205)) &&& 3689348814741910323) + ((((i - (((i.toUInt64 >>> ((1 : Int32).toInt64.toUInt64 &&& Int64.toUInt64 63)).toInt64) &&& 6148914691236517205)).toUInt64 >>> ((2 : Int32).toInt64.toUInt64 &&& Int64.toUInt64 63)).toInt64) &&& 3689348814741910323)).toUInt64 >>> ((4 : Int32).toInt64.toUInt64 &&& Int64.toUInt64 63)).toInt64)) &&& 1085102592571150095).toUInt64 >>> ((8 : Int32).toInt64.toUInt64 &&& Int64.toUInt64 63)).toInt64)))]) hx hb dJ13_bitCount_95d88_40 rfl hl (by decide) rfl (fun ls hl => ?_)
  refine lv_lload_n hx hb dJ13_bitCount_95d88_41 rfl (lv_at hl 0 rfl) ?_
  refine lv_lload_n hx hb dJ13_bitCount_95d88_42 rfl (lv_at hl 0 rfl) ?_
  refine lv_bipush (v := 16) hx hb dJ13_bitCount_95d88_43 (by decide) ?_
  refine lv_lushr hx hb dJ13_bitCount_95d88_45 rfl ?_
  refine lv_ladd hx hb dJ13_bitCount_95d88_46 ?_
  refine lv_lstore_n (lv' := [(0, .long (((((((i - (((i.toUInt64 >>> ((1 : Int32).toInt64.toUInt64 &&& Int64.toUInt64 63)).toInt64) &&& 6148914691236517205)) &&& 3689348814741910323) + ((((i - (((i.toUInt64 >>> ((1 : Int32).toInt64.toUInt64 &&& Int64.toUInt64 63)).toInt64) &&& 6148914691236517205)).toUInt64 >>> ((2 : Int32).toInt64.toUInt64 &&& Int64.toUInt64 63)).toInt64) &&& 3689348814741910323)) + (((((i - (((i.toUInt64 >>> ((1 : Int32).toInt64.toUInt64 &&& Int64.toUInt64 63)).toInt64) &&& 6148914691236517205)) &&& 3689348814741910323) + ((((i - (((i.toUInt64 >>> ((1 : Int32).toInt64.toUInt64 &&& Int64.toUInt64 63)).toInt64) &&& 6148914691236517205)).toUInt64 >>> ((2 : Int32).toInt64.toUInt64 &&& Int64.toUInt64 63)).toInt64) &&& 3689348814741910323)).toUInt64 >>> ((4 : Int32).toInt64.toUInt64 &&& Int64.toUInt64 63)).toInt64)) &&& 1085102592571150095) + (((((((i - (((i.toUInt64 >>> ((1 : Int32).toInt64.toUInt64 &&& Int64.toUInt64 63)).toInt64) &&& 6148914691236517205)) &&& 3689348814741910323) + ((((i - (((i.toUInt64 >>> ((1 : Int32).toInt64.toUInt64 &&& Int64.toUInt64 63)).toInt64) &&& 6148914691236517205)).toUInt64 >>> ((2 : Int32).toInt64.toUInt64 &&& Int64.toUInt64 63)).toInt64) &&& 3689348814741910323)) + (((((i - (((i.toUInt64 >>> ((1 : Int32).toInt64.toUInt64 &&& Int64.toUInt64 63)).toInt64) &&& 6148914691236517205)) &&& 3689348814741910323) + ((((i - (((i.toUInt64 >>> ((1 : Int32).toInt64.toUInt64 &&& Int64.toUInt64 63)).toInt64) &&& 6148914691236517205)).toUInt64 >>> ((2 : Int32).toInt64.toUInt64 &&& Int64.toUInt64 63)).toInt64) &&& 3689348814741910323)).toUInt64 >>> ((4 : Int32).toInt64.toUInt64 &&& Int64.toUInt64 63)).toInt64)) &&& 1085102592571150095).toUInt64 >>> ((8 : Int32).toInt64.toUInt64 &&& Int64.toUInt64 63)).toInt64)) + ((((((((i - (((i.toUInt64 >>> ((1 : Int32).toInt64.toUInt64 &&& Int64.toUInt64 63)).toInt64) &&& 6148914691236517205)) &&& 3689348814741910323) + ((((i - (((i.toUInt64 >>> ((1 : Int32).toInt64.toUInt64 &&& Int64.toUInt64 63)).toInt64) &&& 6148914691236517205)).toUInt64 >>> ((2 : Int32).toInt64.toUInt64 &&& Int64.toUInt64 63)).toInt64) &&& 3689348814741910323)) + (((((i - (((i.toUInt64 >>> ((1 : Int32).toInt64.toUInt64 &&& Int64.toUInt64 63)).toInt64) &&& 6148914691236517205)) &&& 3689348814741910323) + ((((i - (((i.toUInt64 >>> ((1 : Int32).toInt64.toUInt64 &&& Int64.toUInt64 63)).toInt64) &&& 6148914691236517205)).toUInt64 >>> ((2 : Int32).toInt64.toUInt64 &&& Int64.toUInt64 63)).toInt64) &&& 3689348814741910323)).toUInt64 >>> ((4 : Int32).toInt64.toUInt64 &&& Int64.toUInt64 63)).toInt64)) &&& 1085102592571150095) + (((((((i - (((i.toUInt64 >>> ((1 : Int32).toInt64.toUInt64 &&& Int64.toUInt64 63)).toInt64) &&& 6148914691236517205)) &&& 3689348814741910323) + ((((i - (((i.toUInt64 >>> ((1 : Int32).toInt64.toUInt64 &&& Int64.toUInt64 63)).toInt64) &&& 6148914691236517205)).toUInt64 >>> ((2 : Int32).toInt64.toUInt64 &&& Int64.toUInt64 63)).toInt64) &&& 3689348814741910323)) + (((((i - (((i.toUInt64 >>> ((1 : Int32).toInt64.toUInt64 &&& Int64.toUInt64 63)).toInt64) &&& 6148914691236517205)) &&& 3689348814741910323) + ((((i - (((i.toUInt64 >>> ((1 : Int32).toInt64.toUInt64 &&& Int64.toUInt64 63)).toInt64) &&& 6148914691236517205)).toUInt64 >>> ((2 : Int32).toInt64.toUInt64 &&& Int64.toUInt64 63)).toInt64) &&& 3689348814741910323)).toUInt64 >>> ((4 : Int32).toInt64.toUInt64 &&& Int64.toUInt64 63)).toInt64)) &&& 1085102592571150095).toUInt64 >>> ((8 : Int32).toInt64.toUInt64 &&& Int64.toUInt64 63)).toInt64)).toUInt64 >>> ((16 : Int32).toInt64.toUInt64 &&& Int64.toUInt64 63)).toInt64)))]) hx hb dJ13_bitCount_95d88_47 rfl hl (by decide) rfl (fun ls hl => ?_)
  refine lv_lload_n hx hb dJ13_bitCount_95d88_48 rfl (lv_at hl 0 rfl) ?_
  refine lv_lload_n hx hb dJ13_bitCount_95d88_49 rfl (lv_at hl 0 rfl) ?_
  refine lv_bipush (v := 32) hx hb dJ13_bitCount_95d88_50 (by decide) ?_
  refine lv_lushr hx hb dJ13_bitCount_95d88_52 rfl ?_
  refine lv_ladd hx hb dJ13_bitCount_95d88_53 ?_
  refine lv_lstore_n (lv' := [(0, .long ((((((((i - (((i.toUInt64 >>> ((1 : Int32).toInt64.toUInt64 &&& Int64.toUInt64 63)).toInt64) &&& 6148914691236517205)) &&& 3689348814741910323) + ((((i - (((i.toUInt64 >>> ((1 : Int32).toInt64.toUInt64 &&& Int64.toUInt64 63)).toInt64) &&& 6148914691236517205)).toUInt64 >>> ((2 : Int32).toInt64.toUInt64 &&& Int64.toUInt64 63)).toInt64) &&& 3689348814741910323)) + (((((i - (((i.toUInt64 >>> ((1 : Int32).toInt64.toUInt64 &&& Int64.toUInt64 63)).toInt64) &&& 6148914691236517205)) &&& 3689348814741910323) + ((((i - (((i.toUInt64 >>> ((1 : Int32).toInt64.toUInt64 &&& Int64.toUInt64 63)).toInt64) &&& 6148914691236517205)).toUInt64 >>> ((2 : Int32).toInt64.toUInt64 &&& Int64.toUInt64 63)).toInt64) &&& 3689348814741910323)).toUInt64 >>> ((4 : Int32).toInt64.toUInt64 &&& Int64.toUInt64 63)).toInt64)) &&& 1085102592571150095) + (((((((i - (((i.toUInt64 >>> ((1 : Int32).toInt64.toUInt64 &&& Int64.toUInt64 63)).toInt64) &&& 6148914691236517205)) &&& 3689348814741910323) + ((((i - (((i.toUInt64 >>> ((1 : Int32).toInt64.toUInt64 &&& Int64.toUInt64 63)).toInt64) &&& 6148914691236517205)).toUInt64 >>> ((2 : Int32).toInt64.toUInt64 &&& Int64.toUInt64 63)).toInt64) &&& 3689348814741910323)) + (((((i - (((i.toUInt64 >>> ((1 : Int32).toInt64.toUInt64 &&& Int64.toUInt64 63)).toInt64) &&& 6148914691236517205)) &&& 3689348814741910323) + ((((i - (((i.toUInt64 >>> ((1 : Int32).toInt64.toUInt64 &&& Int64.toUInt64 63)).toInt64) &&& 6148914691236517205)).toUInt64 >>> ((2 : Int32).toInt64.toUInt64 &&& Int64.toUInt64 63)).toInt64) &&& 3689348814741910323)).toUInt64 >>> ((4 : Int32).toInt64.toUInt64 &&& Int64.toUInt64 63)).toInt64)) &&& 1085102592571150095).toUInt64 >>> ((8 : Int32).toInt64.toUInt64 &&& Int64.toUInt64 63)).toInt64)) + ((((((((i - (((i.toUInt64 >>> ((1 : Int32).toInt64.toUInt64 &&& Int64.toUInt64 63)).toInt64) &&& 6148914691236517205)) &&& 3689348814741910323) + ((((i - (((i.toUInt64 >>> ((1 : Int32).toInt64.toUInt64 &&& Int64.toUInt64 63)).toInt64) &&& 6148914691236517205)).toUInt64 >>> ((2 : Int32).toInt64.toUInt64 &&& Int64.toUInt64 63)).toInt64) &&& 3689348814741910323)) + (((((i - (((i.toUInt64 >>> ((1 : Int32).toInt64.toUInt64 &&& Int64.toUInt64 63)).toInt64) &&& 6148914691236517205)) &&& 3689348814741910323) + ((((i - (((i.toUInt64 >>> ((1 : Int32).toInt64.toUInt64 &&& Int64.toUInt64 63)).toInt64) &&& 6148914691236517205)).toUInt64 >>> ((2 : Int32).toInt64.toUInt64 &&& Int64.toUInt64 63)).toInt64) &&& 3689348814741910323)).toUInt64 >>> ((4 : Int32).toInt64.toUInt64 &&& Int64.toUInt64 63)).toInt64)) &&& 1085102592571150095) + (((((((i - (((i.toUInt64 >>> ((1 : Int32).toInt64.toUInt64 &&& Int64.toUInt64 63)).toInt64) &&& 6148914691236517205)) &&& 3689348814741910323) + ((((i - (((i.toUInt64 >>> ((1 : Int32).toInt64.toUInt64 &&& Int64.toUInt64 63)).toInt64) &&& 6148914691236517205)).toUInt64 >>> ((2 : Int32).toInt64.toUInt64 &&& Int64.toUInt64 63)).toInt64) &&& 3689348814741910323)) + (((((i - (((i.toUInt64 >>> ((1 : Int32).toInt64.toUInt64 &&& Int64.toUInt64 63)).toInt64) &&& 6148914691236517205)) &&& 3689348814741910323) + ((((i - (((i.toUInt64 >>> ((1 : Int32).toInt64.toUInt64 &&& Int64.toUInt64 63)).toInt64) &&& 6148914691236517205)).toUInt64 >>> ((2 : Int32).toInt64.toUInt64 &&& Int64.toUInt64 63)).toInt64) &&& 3689348814741910323)).toUInt64 >>> ((4 : Int32).toInt64.toUInt64 &&& Int64.toUInt64 63)).toInt64)) &&& 1085102592571150095).toUInt64 >>> ((8 : Int32).toInt64.toUInt64 &&& Int64.toUInt64 63)).toInt64)).toUInt64 >>> ((16 : Int32).toInt64.toUInt64 &&& Int64.toUInt64 63)).toInt64)) + (((((((((i - (((i.toUInt64 >>> ((1 : Int32).toInt64.toUInt64 &&& Int64.toUInt64 63)).toInt64) &&& 6148914691236517205)) &&& 3689348814741910323) + ((((i - (((i.toUInt64 >>> ((1 : Int32).toInt64.toUInt64 &&& Int64.toUInt64 63)).toInt64) &&& 6148914691236517205)).toUInt64 >>> ((2 : Int32).toInt64.toUInt64 &&& Int64.toUInt64 63)).toInt64) &&& 3689348814741910323)) + (((((i - (((i.toUInt64 >>> ((1 : Int32).toInt64.toUInt64 &&& Int64.toUInt64 63)).toInt64) &&& 6148914691236517205)) &&& 3689348814741910323) + ((((i - (((i.toUInt64 >>> ((1 : Int32).toInt64.toUInt64 &&& Int64.toUInt64 63)).toInt64) &&& 6148914691236517205)).toUInt64 >>> ((2 : Int32).toInt64.toUInt64 &&& Int64.toUInt64 63)).toInt64) &&& 3689348814741910323)).toUInt64 >>> ((4 : Int32).toInt64.toUInt64 &&& Int64.toUInt64 63)).toInt64)) &&& 1085102592571150095) + (((((((i - (((i.toUInt64 >>> ((1 : Int32).toInt64.toUInt64 &&& Int64.toUInt64 63)).toInt64) &&& 6148914691236517205)) &&& 3689348814741910323) + ((((i - (((i.toUInt64 >>> ((1 : Int32).toInt64.toUInt64 &&& Int64.toUInt64 63)).toInt64) &&& 6148914691236517205)).toUInt64 >>> ((2 : Int32).toInt64.toUInt64 &&& Int64.toUInt64 63)).toInt64) &&& 3689348814741910323)) + (((((i - (((i.toUInt64 >>> ((1 : Int32).toInt64.toUInt64 &&& Int64.toUInt64 63)).toInt64) &&& 6148914691236517205)) &&& 3689348814741910323) + ((((i - (((i.toUInt64 >>> ((1 : Int32).toInt64.toUInt64 &&& Int64.toUInt64 63)).toInt64) &&& 6148914691236517205)).toUInt64 >>> ((2 : Int32).toInt64.toUInt64 &&& Int64.toUInt64 63)).toInt64) &&& 3689348814741910323)).toUInt64 >>> ((4 : Int32).toInt64.toUInt64 &&& Int64.toUInt64 63)).toInt64)) &&& 1085102592571150095).toUInt64 >>> ((8 : Int32).toInt64.toUInt64 &&& Int64.toUInt64 63)).toInt64)) + ((((((((i - (((i.toUInt64 >>> ((1 : Int32).toInt64.toUInt64 &&& Int64.toUInt64 63)).toInt64) &&& 6148914691236517205)) &&& 3689348814741910323) + ((((i - (((i.toUInt64 >>> ((1 : Int32).toInt64.toUInt64 &&& Int64.toUInt64 63)).toInt64) &&& 6148914691236517205)).toUInt64 >>> ((2 : Int32).toInt64.toUInt64 &&& Int64.toUInt64 63)).toInt64) &&& 3689348814741910323)) + (((((i - (((i.toUInt64 >>> ((1 : Int32).toInt64.toUInt64 &&& Int64.toUInt64 63)).toInt64) &&& 6148914691236517205)) &&& 3689348814741910323) + ((((i - (((i.toUInt64 >>> ((1 : Int32).toInt64.toUInt64 &&& Int64.toUInt64 63)).toInt64) &&& 6148914691236517205)).toUInt64 >>> ((2 : Int32).toInt64.toUInt64 &&& Int64.toUInt64 63)).toInt64) &&& 3689348814741910323)).toUInt64 >>> ((4 : Int32).toInt64.toUInt64 &&& Int64.toUInt64 63)).toInt64)) &&& 1085102592571150095) + (((((((i - (((i.toUInt64 >>> ((1 : Int32).toInt64.toUInt64 &&& Int64.toUInt64 63)).toInt64) &&& 6148914691236517205)) &&& 3689348814741910323) + ((((i - (((i.toUInt64 >>> ((1 : Int32).toInt64.toUInt64 &&& Int64.toUInt64 63)).toInt64) &&& 6148914691236517205)).toUInt64 >>> ((2 : Int32).toInt64.toUInt64 &&& Int64.toUInt64 63)).toInt64) &&& 3689348814741910323)) + (((((i - (((i.toUInt64 >>> ((1 : Int32).toInt64.toUInt64 &&& Int64.toUInt64 63)).toInt64) &&& 6148914691236517205)) &&& 3689348814741910323) + ((((i - (((i.toUInt64 >>> ((1 : Int32).toInt64.toUInt64 &&& Int64.toUInt64 63)).toInt64) &&& 6148914691236517205)).toUInt64 >>> ((2 : Int32).toInt64.toUInt64 &&& Int64.toUInt64 63)).toInt64) &&& 3689348814741910323)).toUInt64 >>> ((4 : Int32).toInt64.toUInt64 &&& Int64.toUInt64 63)).toInt64)) &&& 1085102592571150095).toUInt64 >>> ((8 : Int32).toInt64.toUInt64 &&& Int64.toUInt64 63)).toInt64)).toUInt64 >>> ((16 : Int32).toInt64.toUInt64 &&& Int64.toUInt64 63)).toInt64)).toUInt64 >>> ((32 : Int32).toInt64.toUInt64 &&& Int64.toUInt64 63)).toInt64)))]) hx hb dJ13_bitCount_95d88_54 rfl hl (by decide) rfl (fun ls hl => ?_)
  refine lv_lload_n hx hb dJ13_bitCount_95d88_55 rfl (lv_at hl 0 rfl) ?_
  refine lv_l2i hx hb dJ13_bitCount_95d88_56 rfl ?_
  refine lv_bipush (v := 127) hx hb dJ13_bitCount_95d88_57 (by decide) ?_
  refine lv_iand hx hb dJ13_bitCount_95d88_59 ?_
  exact x_ir (by unfold sJ13_bitCount_95d88; try rfl) hx hb hr hlk dJ13_bitCount_95d88_60
def sX4_countIn (b1 : Int64) (b2 : Int64) (b3 : Int64) (b4 : Int64) (ticks : Int32) : Int32 :=
  (((sJ13_bitCount_95d88 (b1 &&& (sX4_lowBits ticks))) + (sJ13_bitCount_95d88 (b2 &&& (sX4_lowBits (ticks - 64))))) + (sJ13_bitCount_95d88 (b3 &&& (sX4_lowBits (ticks - 128))))) + (sJ13_bitCount_95d88 (b4 &&& (sX4_lowBits (ticks - 192))))
theorem hdX4_countIn : yX4_countIn.cls = RX4 ∧ yX4_countIn.cls ≠ "java/lang/invoke/MethodHandle" ∧ yX4_countIn.cls ≠ "java/lang/invoke/VarHandle" ∧ (parseMethodDescriptor yX4_countIn.desc).map (fun d => d.parameters.length) = some 1 := by decide +kernel
set_option maxHeartbeats 4000000 in
set_option maxRecDepth 100000 in
theorem kX4_countIn (l : Launch) (E : XE) (h : Nat) (b1 : Int64) (b2 : Int64) (b3 : Int64) (b4 : Int64) (ticks : Int32) : xR l yX4_countIn wsX4_countIn ({ frames := 1, cells := 0, slots := 0, locals := 21 }) E [(h, .inr (4, [.long b1, .long b2, .long b3, .long b4]))] [.ref h, .int ticks] (.int (sX4_countIn b1 b2 b3 b4 ticks)) := by
  refine xR.of (cc := cX4_countIn) (maxL := 2) (ret := (some .int)) (by decide) rfl (Nat.le_of_ble_eq_true rfl) ?_
  intro p e s m args below meth c ls hM hE hP hD hl
  obtain ⟨hx, hb, hr, hml, hts, hown, hlk, hnm⟩ := hM
  have g_1 : (Cond.fieldLink RX4 19 "RailPendulum$RecentSwitches" "first" "J").before args s = true := hts (Cond.fieldLink RX4 19 "RailPendulum$RecentSwitches" "first" "J") (by decide +kernel)
  have g_2 : ∀ w ∈ wsX40, w ∈ wsX4_countIn := by decide +kernel
  have g_3 : (Cond.fieldLink RX4 16 "RailPendulum$RecentSwitches" "second" "J").before args s = true := hts (Cond.fieldLink RX4 16 "RailPendulum$RecentSwitches" "second" "J") (by decide +kernel)
  have g_4 : (Cond.fieldLink RX4 13 "RailPendulum$RecentSwitches" "third" "J").before args s = true := hts (Cond.fieldLink RX4 13 "RailPendulum$RecentSwitches" "third" "J") (by decide +kernel)
  have g_5 : (Cond.fieldLink RX4 7 "RailPendulum$RecentSwitches" "fourth" "J").before args s = true := hts (Cond.fieldLink RX4 7 "RailPendulum$RecentSwitches" "fourth" "J") (by decide +kernel)
  have hl : lv_has ls 2 [(0, .ref h), (1, .int ticks)] := hl
  refine lv_aload_n hx hb dX4_countIn_0 rfl (lv_at hl 0 rfl) ?_
  refine va_get (D := E.1) (ci := 4) (v := .long b1) (C := RX4) (T := TX4) (N := 4) hx hb hts g_2 hown hE.1 hP 0 rfl rfl 0 (by decide) g_1 (fun _ h9 => h9) rfl dX4_countIn_1 ?_
  refine lv_iload_n hx hb dX4_countIn_4 rfl (lv_at hl 1 rfl) ?_
  refine x_rS [.int ticks] (kX4_lowBits l E ticks) ⟨hx, hb, hml, hown, hts⟩ (va_cwS 1 hts gX4_countIn_X4_lowBits rfl rfl rfl hdX4_lowBits.2 ⟨Nat.le_of_ble_eq_true rfl, Nat.le_of_ble_eq_true rfl⟩) hE hP hD [] rfl rfl hl.1 rfl rfl (Nat.le_of_ble_eq_true rfl) dX4_countIn_5 (Nat.le_of_ble_eq_true rfl) (Nat.le_of_ble_eq_true rfl) ?_
  refine lv_land hx hb dX4_countIn_8 ?_
  refine x_rS [.long (b1 &&& (sX4_lowBits ticks))] (kJ13_bitCount_95d88 l E (b1 &&& (sX4_lowBits ticks))) ⟨hx, hb, hml, hown, hts⟩ (va_cwS 1 hts gX4_countIn_J13_bitCount_95d88 rfl rfl rfl hdJ13_bitCount_95d88.2 ⟨Nat.le_of_ble_eq_true rfl, Nat.le_of_ble_eq_true rfl⟩) hE hP hD [] rfl rfl hl.1 rfl rfl (Nat.le_of_ble_eq_true rfl) dX4_countIn_9 (Nat.le_of_ble_eq_true rfl) (Nat.le_of_ble_eq_true rfl) ?_
  refine lv_aload_n hx hb dX4_countIn_12 rfl (lv_at hl 0 rfl) ?_
  refine va_get (D := E.1) (ci := 4) (v := .long b2) (C := RX4) (T := TX4) (N := 4) hx hb hts g_2 hown hE.1 hP 0 rfl rfl 1 (by decide) g_3 (fun _ h9 => h9) rfl dX4_countIn_13 ?_
  refine lv_iload_n hx hb dX4_countIn_16 rfl (lv_at hl 1 rfl) ?_
  refine lv_bipush (v := 64) hx hb dX4_countIn_17 (by decide) ?_
  refine lv_isub hx hb dX4_countIn_19 ?_
  refine x_rS [.int (ticks - 64)] (kX4_lowBits l E (ticks - 64)) ⟨hx, hb, hml, hown, hts⟩ (va_cwS 1 hts gX4_countIn_X4_lowBits rfl rfl rfl hdX4_lowBits.2 ⟨Nat.le_of_ble_eq_true rfl, Nat.le_of_ble_eq_true rfl⟩) hE hP hD [] rfl rfl hl.1 rfl rfl (Nat.le_of_ble_eq_true rfl) dX4_countIn_20 (Nat.le_of_ble_eq_true rfl) (Nat.le_of_ble_eq_true rfl) ?_
  refine lv_land hx hb dX4_countIn_23 ?_
  refine x_rS [.long (b2 &&& (sX4_lowBits (ticks - 64)))] (kJ13_bitCount_95d88 l E (b2 &&& (sX4_lowBits (ticks - 64)))) ⟨hx, hb, hml, hown, hts⟩ (va_cwS 1 hts gX4_countIn_J13_bitCount_95d88 rfl rfl rfl hdJ13_bitCount_95d88.2 ⟨Nat.le_of_ble_eq_true rfl, Nat.le_of_ble_eq_true rfl⟩) hE hP hD [] rfl rfl hl.1 rfl rfl (Nat.le_of_ble_eq_true rfl) dX4_countIn_24 (Nat.le_of_ble_eq_true rfl) (Nat.le_of_ble_eq_true rfl) ?_
  refine lv_iadd hx hb dX4_countIn_27 ?_
  refine lv_aload_n hx hb dX4_countIn_28 rfl (lv_at hl 0 rfl) ?_
  refine va_get (D := E.1) (ci := 4) (v := .long b3) (C := RX4) (T := TX4) (N := 4) hx hb hts g_2 hown hE.1 hP 0 rfl rfl 2 (by decide) g_4 (fun _ h9 => h9) rfl dX4_countIn_29 ?_
  refine lv_iload_n hx hb dX4_countIn_32 rfl (lv_at hl 1 rfl) ?_
  refine lv_sipush (v := 128) hx hb dX4_countIn_33 (by decide) ?_
  refine lv_isub hx hb dX4_countIn_36 ?_
  refine x_rS [.int (ticks - 128)] (kX4_lowBits l E (ticks - 128)) ⟨hx, hb, hml, hown, hts⟩ (va_cwS 1 hts gX4_countIn_X4_lowBits rfl rfl rfl hdX4_lowBits.2 ⟨Nat.le_of_ble_eq_true rfl, Nat.le_of_ble_eq_true rfl⟩) hE hP hD [] rfl rfl hl.1 rfl rfl (Nat.le_of_ble_eq_true rfl) dX4_countIn_37 (Nat.le_of_ble_eq_true rfl) (Nat.le_of_ble_eq_true rfl) ?_
  refine lv_land hx hb dX4_countIn_40 ?_
  refine x_rS [.long (b3 &&& (sX4_lowBits (ticks - 128)))] (kJ13_bitCount_95d88 l E (b3 &&& (sX4_lowBits (ticks - 128)))) ⟨hx, hb, hml, hown, hts⟩ (va_cwS 1 hts gX4_countIn_J13_bitCount_95d88 rfl rfl rfl hdJ13_bitCount_95d88.2 ⟨Nat.le_of_ble_eq_true rfl, Nat.le_of_ble_eq_true rfl⟩) hE hP hD [] rfl rfl hl.1 rfl rfl (Nat.le_of_ble_eq_true rfl) dX4_countIn_41 (Nat.le_of_ble_eq_true rfl) (Nat.le_of_ble_eq_true rfl) ?_
  refine lv_iadd hx hb dX4_countIn_44 ?_
  refine lv_aload_n hx hb dX4_countIn_45 rfl (lv_at hl 0 rfl) ?_
  refine va_get (D := E.1) (ci := 4) (v := .long b4) (C := RX4) (T := TX4) (N := 4) hx hb hts g_2 hown hE.1 hP 0 rfl rfl 3 (by decide) g_5 (fun _ h9 => h9) rfl dX4_countIn_46 ?_
  refine lv_iload_n hx hb dX4_countIn_49 rfl (lv_at hl 1 rfl) ?_
  refine lv_sipush (v := 192) hx hb dX4_countIn_50 (by decide) ?_
  refine lv_isub hx hb dX4_countIn_53 ?_
  refine x_rS [.int (ticks - 192)] (kX4_lowBits l E (ticks - 192)) ⟨hx, hb, hml, hown, hts⟩ (va_cwS 1 hts gX4_countIn_X4_lowBits rfl rfl rfl hdX4_lowBits.2 ⟨Nat.le_of_ble_eq_true rfl, Nat.le_of_ble_eq_true rfl⟩) hE hP hD [] rfl rfl hl.1 rfl rfl (Nat.le_of_ble_eq_true rfl) dX4_countIn_54 (Nat.le_of_ble_eq_true rfl) (Nat.le_of_ble_eq_true rfl) ?_
  refine lv_land hx hb dX4_countIn_57 ?_
  refine x_rS [.long (b4 &&& (sX4_lowBits (ticks - 192)))] (kJ13_bitCount_95d88 l E (b4 &&& (sX4_lowBits (ticks - 192)))) ⟨hx, hb, hml, hown, hts⟩ (va_cwS 1 hts gX4_countIn_J13_bitCount_95d88 rfl rfl rfl hdJ13_bitCount_95d88.2 ⟨Nat.le_of_ble_eq_true rfl, Nat.le_of_ble_eq_true rfl⟩) hE hP hD [] rfl rfl hl.1 rfl rfl (Nat.le_of_ble_eq_true rfl) dX4_countIn_58 (Nat.le_of_ble_eq_true rfl) (Nat.le_of_ble_eq_true rfl) ?_
  refine lv_iadd hx hb dX4_countIn_61 ?_
  exact x_ir (by unfold sX4_countIn; try rfl) hx hb hr hlk dX4_countIn_62
def sX4_clearAll  : Int64 × Int64 × Int64 × Int64 :=
  (0, 0, 0, 0)
theorem hdX4_clearAll : yX4_clearAll.cls = RX4 ∧ yX4_clearAll.cls ≠ "java/lang/invoke/MethodHandle" ∧ yX4_clearAll.cls ≠ "java/lang/invoke/VarHandle" ∧ (parseMethodDescriptor yX4_clearAll.desc).map (fun d => d.parameters.length) = some 0 := by decide +kernel
set_option maxHeartbeats 4000000 in
set_option maxRecDepth 100000 in
theorem kX4_clearAll (l : Launch) (E : XE) (h : Nat) (b1 : Int64) (b2 : Int64) (b3 : Int64) (b4 : Int64) : xW (T := Int64 × Int64 × Int64 × Int64) l yX4_clearAll wsX4_clearAll ({ frames := 0, cells := 0, slots := 0, locals := 0 }) E [(h, .inr (4, [.long b1, .long b2, .long b3, .long b4]))] [.ref h] (fun _ => none) (fun q => [(h, .inr (4, [.long q.1, .long q.2.1, .long q.2.2.1, .long q.2.2.2]))]) (sX4_clearAll) 0 0 := by
  refine xW.of (cc := cX4_clearAll) (maxL := 1) (ret := none) (by decide) rfl (Nat.le_of_ble_eq_true rfl) ?_
  intro p e s m args below meth c ls A hM hE hP hD hS hA hl
  obtain ⟨hx, hb, hr, hml, hts, hown, hlk, hnm⟩ := hM
  have g_1 : (Cond.fieldLink RX4 19 "RailPendulum$RecentSwitches" "first" "J").before args s = true := hts (Cond.fieldLink RX4 19 "RailPendulum$RecentSwitches" "first" "J") (by decide +kernel)
  have g_2 : ∀ w ∈ wsX40, w ∈ wsX4_clearAll := by decide +kernel
  have g_3 : (Cond.fieldLink RX4 16 "RailPendulum$RecentSwitches" "second" "J").before args s = true := hts (Cond.fieldLink RX4 16 "RailPendulum$RecentSwitches" "second" "J") (by decide +kernel)
  have g_4 : (Cond.fieldLink RX4 13 "RailPendulum$RecentSwitches" "third" "J").before args s = true := hts (Cond.fieldLink RX4 13 "RailPendulum$RecentSwitches" "third" "J") (by decide +kernel)
  have g_5 : (Cond.fieldLink RX4 7 "RailPendulum$RecentSwitches" "fourth" "J").before args s = true := hts (Cond.fieldLink RX4 7 "RailPendulum$RecentSwitches" "fourth" "J") (by decide +kernel)
  have hX : xD A [h] := xD.of hD rfl
  have hl : lv_has ls 1 [(0, .ref h)] := hl
  refine lv_aload_n hx hb dX4_clearAll_0 rfl (lv_at hl 0 rfl) ?_
  refine lv_lconst (v := 0) hx hb dX4_clearAll_1 (by decide) ?_
  refine va_put (D := E.1) (ci := 4) (v := .long 0) (ty := .long) (C := RX4) (T := TX4) (N := 4) hx hb hts g_2 tyX4 tyX4_ok nmX4 hown hE.1 hP (hX.d rfl) hS 0 rfl rfl 0 (by decide) g_1 (fun _ h9 => h9) rfl (by decide +kernel) rfl rfl (Nat.le_of_ble_eq_true rfl) dX4_clearAll_2 (fun H locs hP _ hS => ?_)
  have hP : va_P E.1 vwCl [(h, .inr (4, [.long 0, .long b2, .long b3, .long b4]))] H := hP
  refine lv_aload_n hx hb dX4_clearAll_5 rfl (lv_at hl 0 rfl) ?_
  refine lv_lconst (v := 0) hx hb dX4_clearAll_6 (by decide) ?_
  refine va_put (D := E.1) (ci := 4) (v := .long 0) (ty := .long) (C := RX4) (T := TX4) (N := 4) hx hb hts g_2 tyX4 tyX4_ok nmX4 hown hE.1 hP (hX.d rfl) hS 0 rfl rfl 1 (by decide) g_3 (fun _ h9 => h9) rfl (by decide +kernel) rfl rfl (Nat.le_of_ble_eq_true rfl) dX4_clearAll_7 (fun H locs hP _ hS => ?_)
  have hP : va_P E.1 vwCl [(h, .inr (4, [.long 0, .long 0, .long b3, .long b4]))] H := hP
  refine lv_aload_n hx hb dX4_clearAll_10 rfl (lv_at hl 0 rfl) ?_
  refine lv_lconst (v := 0) hx hb dX4_clearAll_11 (by decide) ?_
  refine va_put (D := E.1) (ci := 4) (v := .long 0) (ty := .long) (C := RX4) (T := TX4) (N := 4) hx hb hts g_2 tyX4 tyX4_ok nmX4 hown hE.1 hP (hX.d rfl) hS 0 rfl rfl 2 (by decide) g_4 (fun _ h9 => h9) rfl (by decide +kernel) rfl rfl (Nat.le_of_ble_eq_true rfl) dX4_clearAll_12 (fun H locs hP _ hS => ?_)
  have hP : va_P E.1 vwCl [(h, .inr (4, [.long 0, .long 0, .long 0, .long b4]))] H := hP
  refine lv_aload_n hx hb dX4_clearAll_15 rfl (lv_at hl 0 rfl) ?_
  refine lv_lconst (v := 0) hx hb dX4_clearAll_16 (by decide) ?_
  refine va_put (D := E.1) (ci := 4) (v := .long 0) (ty := .long) (C := RX4) (T := TX4) (N := 4) hx hb hts g_2 tyX4 tyX4_ok nmX4 hown hE.1 hP (hX.d rfl) hS 0 rfl rfl 3 (by decide) g_5 (fun _ h9 => h9) rfl (by decide +kernel) rfl rfl (Nat.le_of_ble_eq_true rfl) dX4_clearAll_17 (fun H locs hP _ hS => ?_)
  have hP : va_P E.1 vwCl [(h, .inr (4, [.long 0, .long 0, .long 0, .long 0]))] H := hP
  exact x_wv (0, 0, 0, 0) (by unfold sX4_clearAll; try rfl) rfl hx hb hr hlk hS hP (hX.d rfl) [0] rfl rfl (Nat.le_of_ble_eq_true rfl) (Nat.le_of_ble_eq_true rfl) dX4_clearAll_20
def sX4_copyFrom (ob1 : Int64) (ob2 : Int64) (ob3 : Int64) (ob4 : Int64) : Int64 × Int64 × Int64 × Int64 :=
  (ob1, ob2, ob3, ob4)
theorem hdX4_copyFrom : yX4_copyFrom.cls = RX4 ∧ yX4_copyFrom.cls ≠ "java/lang/invoke/MethodHandle" ∧ yX4_copyFrom.cls ≠ "java/lang/invoke/VarHandle" ∧ (parseMethodDescriptor yX4_copyFrom.desc).map (fun d => d.parameters.length) = some 1 := by decide +kernel
set_option maxHeartbeats 4000000 in
set_option maxRecDepth 100000 in
theorem kX4_copyFrom (l : Launch) (E : XE) (h : Nat) (b1 : Int64) (b2 : Int64) (b3 : Int64) (b4 : Int64) (other : Nat) (ob1 : Int64) (ob2 : Int64) (ob3 : Int64) (ob4 : Int64) : xW (T := Int64 × Int64 × Int64 × Int64) l yX4_copyFrom wsX4_copyFrom ({ frames := 0, cells := 0, slots := 0, locals := 0 }) E [(h, .inr (4, [.long b1, .long b2, .long b3, .long b4])), (other, .inr (4, [.long ob1, .long ob2, .long ob3, .long ob4]))] [.ref h, .ref other] (fun _ => none) (fun q => [(h, .inr (4, [.long q.1, .long q.2.1, .long q.2.2.1, .long q.2.2.2])), (other, .inr (4, [.long ob1, .long ob2, .long ob3, .long ob4]))]) (sX4_copyFrom ob1 ob2 ob3 ob4) 0 0 := by
  refine xW.of (cc := cX4_copyFrom) (maxL := 2) (ret := none) (by decide) rfl (Nat.le_of_ble_eq_true rfl) ?_
  intro p e s m args below meth c ls A hM hE hP hD hS hA hl
  obtain ⟨hx, hb, hr, hml, hts, hown, hlk, hnm⟩ := hM
  have g_1 : (Cond.fieldLink RX4 19 "RailPendulum$RecentSwitches" "first" "J").before args s = true := hts (Cond.fieldLink RX4 19 "RailPendulum$RecentSwitches" "first" "J") (by decide +kernel)
  have g_2 : ∀ w ∈ wsX40, w ∈ wsX4_copyFrom := by decide +kernel
  have g_3 : (Cond.fieldLink RX4 16 "RailPendulum$RecentSwitches" "second" "J").before args s = true := hts (Cond.fieldLink RX4 16 "RailPendulum$RecentSwitches" "second" "J") (by decide +kernel)
  have g_4 : (Cond.fieldLink RX4 13 "RailPendulum$RecentSwitches" "third" "J").before args s = true := hts (Cond.fieldLink RX4 13 "RailPendulum$RecentSwitches" "third" "J") (by decide +kernel)
  have g_5 : (Cond.fieldLink RX4 7 "RailPendulum$RecentSwitches" "fourth" "J").before args s = true := hts (Cond.fieldLink RX4 7 "RailPendulum$RecentSwitches" "fourth" "J") (by decide +kernel)
  have hX : xD A [h, other] := xD.of hD rfl
  have hl : lv_has ls 2 [(0, .ref h), (1, .ref other)] := hl
  refine lv_aload_n hx hb dX4_copyFrom_0 rfl (lv_at hl 0 rfl) ?_
  refine lv_aload_n hx hb dX4_copyFrom_1 rfl (lv_at hl 1 rfl) ?_
  refine va_get (D := E.1) (ci := 4) (v := .long ob1) (C := RX4) (T := TX4) (N := 4) hx hb hts g_2 hown hE.1 hP 1 rfl rfl 0 (by decide) g_1 (fun _ h9 => h9) rfl dX4_copyFrom_2 ?_
  refine va_put (D := E.1) (ci := 4) (v := .long ob1) (ty := .long) (C := RX4) (T := TX4) (N := 4) hx hb hts g_2 tyX4 tyX4_ok nmX4 hown hE.1 hP (hX.d rfl) hS 0 rfl rfl 0 (by decide) g_1 (fun _ h9 => h9) rfl (by decide +kernel) rfl rfl (Nat.le_of_ble_eq_true rfl) dX4_copyFrom_5 (fun H locs hP _ hS => ?_)
  have hP : va_P E.1 vwCl [(h, .inr (4, [.long ob1, .long b2, .long b3, .long b4])), (other, .inr (4, [.long ob1, .long ob2, .long ob3, .long ob4]))] H := hP
  refine lv_aload_n hx hb dX4_copyFrom_8 rfl (lv_at hl 0 rfl) ?_
  refine lv_aload_n hx hb dX4_copyFrom_9 rfl (lv_at hl 1 rfl) ?_
  refine va_get (D := E.1) (ci := 4) (v := .long ob2) (C := RX4) (T := TX4) (N := 4) hx hb hts g_2 hown hE.1 hP 1 rfl rfl 1 (by decide) g_3 (fun _ h9 => h9) rfl dX4_copyFrom_10 ?_
  refine va_put (D := E.1) (ci := 4) (v := .long ob2) (ty := .long) (C := RX4) (T := TX4) (N := 4) hx hb hts g_2 tyX4 tyX4_ok nmX4 hown hE.1 hP (hX.d rfl) hS 0 rfl rfl 1 (by decide) g_3 (fun _ h9 => h9) rfl (by decide +kernel) rfl rfl (Nat.le_of_ble_eq_true rfl) dX4_copyFrom_13 (fun H locs hP _ hS => ?_)
  have hP : va_P E.1 vwCl [(h, .inr (4, [.long ob1, .long ob2, .long b3, .long b4])), (other, .inr (4, [.long ob1, .long ob2, .long ob3, .long ob4]))] H := hP
  refine lv_aload_n hx hb dX4_copyFrom_16 rfl (lv_at hl 0 rfl) ?_
  refine lv_aload_n hx hb dX4_copyFrom_17 rfl (lv_at hl 1 rfl) ?_
  refine va_get (D := E.1) (ci := 4) (v := .long ob3) (C := RX4) (T := TX4) (N := 4) hx hb hts g_2 hown hE.1 hP 1 rfl rfl 2 (by decide) g_4 (fun _ h9 => h9) rfl dX4_copyFrom_18 ?_
  refine va_put (D := E.1) (ci := 4) (v := .long ob3) (ty := .long) (C := RX4) (T := TX4) (N := 4) hx hb hts g_2 tyX4 tyX4_ok nmX4 hown hE.1 hP (hX.d rfl) hS 0 rfl rfl 2 (by decide) g_4 (fun _ h9 => h9) rfl (by decide +kernel) rfl rfl (Nat.le_of_ble_eq_true rfl) dX4_copyFrom_21 (fun H locs hP _ hS => ?_)
  have hP : va_P E.1 vwCl [(h, .inr (4, [.long ob1, .long ob2, .long ob3, .long b4])), (other, .inr (4, [.long ob1, .long ob2, .long ob3, .long ob4]))] H := hP
  refine lv_aload_n hx hb dX4_copyFrom_24 rfl (lv_at hl 0 rfl) ?_
  refine lv_aload_n hx hb dX4_copyFrom_25 rfl (lv_at hl 1 rfl) ?_
  refine va_get (D := E.1) (ci := 4) (v := .long ob4) (C := RX4) (T := TX4) (N := 4) hx hb hts g_2 hown hE.1 hP 1 rfl rfl 3 (by decide) g_5 (fun _ h9 => h9) rfl dX4_copyFrom_26 ?_
  refine va_put (D := E.1) (ci := 4) (v := .long ob4) (ty := .long) (C := RX4) (T := TX4) (N := 4) hx hb hts g_2 tyX4 tyX4_ok nmX4 hown hE.1 hP (hX.d rfl) hS 0 rfl rfl 3 (by decide) g_5 (fun _ h9 => h9) rfl (by decide +kernel) rfl rfl (Nat.le_of_ble_eq_true rfl) dX4_copyFrom_29 (fun H locs hP _ hS => ?_)
  have hP : va_P E.1 vwCl [(h, .inr (4, [.long ob1, .long ob2, .long ob3, .long ob4])), (other, .inr (4, [.long ob1, .long ob2, .long ob3, .long ob4]))] H := hP
  exact x_wv (ob1, ob2, ob3, ob4) (by unfold sX4_copyFrom; try rfl) rfl hx hb hr hlk hS hP (hX.d rfl) [0, 1] rfl rfl (Nat.le_of_ble_eq_true rfl) (Nat.le_of_ble_eq_true rfl) dX4_copyFrom_32
def sX8_copyRow (n : Nat) (f : Nat → Int32) (g : Nat → Int32) : (Nat → Int32) :=
  va_cpy f g 0 0 n
theorem hdX8_copyRow : yX8_copyRow.cls = RX8 ∧ yX8_copyRow.cls ≠ "java/lang/invoke/MethodHandle" ∧ yX8_copyRow.cls ≠ "java/lang/invoke/VarHandle" ∧ (parseMethodDescriptor yX8_copyRow.desc).map (fun d => d.parameters.length) = some 2 := by decide +kernel
set_option maxHeartbeats 4000000 in
set_option maxRecDepth 100000 in
theorem kX8_copyRow (l : Launch) (E : XE) (fro : Nat) (n : Nat) (f : Nat → Int32) (to : Nat) (g : Nat → Int32) (hn : n < 2 ^ 31) : xW (T := (Nat → Int32)) l yX8_copyRow wsX8_copyRow ({ frames := 1, cells := 0, slots := 0, locals := 40 }) E [(fro, .inl (E.2.1, n, .inl f)), (to, .inl (E.2.1, n, .inl g))] [.ref fro, .ref to] (fun _ => none) (fun q => [(fro, .inl (E.2.1, n, .inl f)), (to, .inl (E.2.1, n, .inl q))]) (sX8_copyRow n f g) 0 0 := by
  refine xW.of (cc := cX8_copyRow) (maxL := 2) (ret := none) (by decide) rfl (Nat.le_of_ble_eq_true rfl) ?_
  intro p e s m args below meth c ls A hM hE hP hD hS hA hl
  obtain ⟨hx, hb, hr, hml, hts, hown, hlk, hnm⟩ := hM
  have g_1 : (Cond.methodLink RX8 324 Lib.Math.min.name).before args s = true := hts (Cond.methodLink RX8 324 Lib.Math.min.name) (by decide +kernel)
  have g_2 : (Cond.static Lib.Math.min.name).before args s = true := hts (Cond.static Lib.Math.min.name) (by decide +kernel)
  have g_3 : (Cond.initialized "java/lang/Math").before args s = true := hts (Cond.initialized "java/lang/Math") (by decide +kernel)
  have g_4 : (Cond.code Lib.Math.min.name Lib.Math.min.code 2 (some .int)).before args s = true := hts (Cond.code Lib.Math.min.name Lib.Math.min.code 2 (some .int)) (by decide +kernel)
  have g_5 : (Cond.methodLink RX8 327 arraycopyName).before args s = true := hts (Cond.methodLink RX8 327 arraycopyName) (by decide +kernel)
  have g_6 : (Cond.native arraycopyName).before args s = true := hts (Cond.native arraycopyName) (by decide +kernel)
  have g_7 : (Cond.static arraycopyName).before args s = true := hts (Cond.static arraycopyName) (by decide +kernel)
  have g_8 : (Cond.initialized "java/lang/System").before args s = true := hts (Cond.initialized "java/lang/System") (by decide +kernel)
  have hX : xD A [fro, to] := xD.of hD rfl
  have hl : lv_has ls 2 [(0, .ref fro), (1, .ref to)] := hl
  refine lv_aload_n hx hb dX8_copyRow_0 rfl (lv_at hl 0 rfl) ?_
  refine lv_iconst (v := 0) hx hb dX8_copyRow_1 (by decide) ?_
  refine lv_aload_n hx hb dX8_copyRow_2 rfl (lv_at hl 1 rfl) ?_
  refine lv_iconst (v := 0) hx hb dX8_copyRow_3 (by decide) ?_
  refine lv_aload_n hx hb dX8_copyRow_4 rfl (lv_at hl 0 rfl) ?_
  refine va_alen hx hb hE.1 hP 0 0 rfl rfl (v := nI n) rfl dX8_copyRow_5 ?_
  refine lv_aload_n hx hb dX8_copyRow_6 rfl (lv_at hl 1 rfl) ?_
  refine va_alen hx hb hE.1 hP 1 0 rfl rfl (v := nI n) rfl dX8_copyRow_7 ?_
  refine x_mmin hx hb (hml.trans hl.1.symm) hown g_1 g_2 g_3 g_4 dX8_copyRow_8 (Nat.le_of_ble_eq_true rfl) (Nat.le_of_ble_eq_true rfl) (Nat.le_of_ble_eq_true rfl) (Nat.le_of_ble_eq_true rfl) ?_
  refine W.eq (g2 := F0 m 11 ls [.int (nI n), .int 0, .ref to, .int 0, .ref fro]) (by rw [x_min_same]) ?_
  refine va_copyi hx hb (hml.trans hl.1.symm) hown g_5 g_6 g_7 g_8 hE.1 hP (hX.d rfl) hS 0 1 0 0 rfl rfl rfl rfl rfl (by decide) (by decide) (nI_pos hn) (by rw [nI_clamp hn]; exact Nat.le_of_eq (Nat.zero_add n)) (by rw [nI_clamp hn]; exact Nat.le_of_eq (Nat.zero_add n)) (fun _ _ => rfl) (Nat.le_of_ble_eq_true rfl) (Nat.le_of_ble_eq_true rfl) dX8_copyRow_11 (fun H locs hP _ hS => ?_)
  have hP : va_P E.1 vwCl [(fro, .inl (E.2.1, n, .inl f)), (to, .inl (E.2.1, n, .inl (va_cpy f g 0 0 n)))] H := by have h := hP; rw [nI_clamp hn] at h; exact h
  exact x_wv (va_cpy f g 0 0 n) (by unfold sX8_copyRow; try rfl) rfl hx hb hr hlk hS hP (hX.d rfl) [0, 1] rfl rfl (Nat.le_of_ble_eq_true rfl) (Nat.le_of_ble_eq_true rfl) dX8_copyRow_14
def sX2_takeNumbers_q_1 (num : Nat → Int32) (f : Nat → Int32) (q_1 : (Nat → Int32)) : (Nat → Int32) :=
  q_1
def sX2_takeNumbers (num : Nat → Int32) (f : Nat → Int32) : (Nat → Int32) :=
  sX2_takeNumbers_q_1 num f (sX8_copyRow 24 f num)
theorem hdX2_takeNumbers : yX2_takeNumbers.cls = RX2 ∧ yX2_takeNumbers.cls ≠ "java/lang/invoke/MethodHandle" ∧ yX2_takeNumbers.cls ≠ "java/lang/invoke/VarHandle" ∧ (parseMethodDescriptor yX2_takeNumbers.desc).map (fun d => d.parameters.length) = some 1 := by decide +kernel
set_option maxHeartbeats 4000000 in
set_option maxRecDepth 100000 in
theorem kX2_takeNumbers (l : Launch) (E : XE) (h : Nat) (an : Nat) (num : Nat → Int32) (described : Nat) (f : Nat → Int32) : xW (T := (Nat → Int32)) l yX2_takeNumbers wsX2_takeNumbers ({ frames := 2, cells := 0, slots := 0, locals := 61 }) E [(h, .inr (2, [.ref an])), (an, .inl (E.2.1, 24, .inl num)), (described, .inl (E.2.1, 24, .inl f))] [.ref h, .ref described] (fun _ => none) (fun q => [(h, .inr (2, [.ref an])), (an, .inl (E.2.1, 24, .inl q)), (described, .inl (E.2.1, 24, .inl f))]) (sX2_takeNumbers num f) 0 0 := by
  refine xW.of (cc := cX2_takeNumbers) (maxL := 2) (ret := none) (by decide) rfl (Nat.le_of_ble_eq_true rfl) ?_
  intro p e s m args below meth c ls A hM hE hP hD hS hA hl
  obtain ⟨hx, hb, hr, hml, hts, hown, hlk, hnm⟩ := hM
  have g_1 : (Cond.fieldLink RX2 9 "RailPendulum$Plant" "numbers" "[I").before args s = true := hts (Cond.fieldLink RX2 9 "RailPendulum$Plant" "numbers" "[I") (by decide +kernel)
  have g_2 : ∀ w ∈ wsX20, w ∈ wsX2_takeNumbers := by decide +kernel
  have g_3 : (Cond.initialized yX8_copyRow.cls).before args s = true := hts _ (by decide +kernel)
  have g_4 : (Cond.static yX8_copyRow).before args s = true := hts (Cond.static yX8_copyRow) (by decide +kernel)
  have g_5 : va_Nw (.methodLinkNest RX2 15 yX8_copyRow "RailPendulum") s := hE.2 _ (by decide +kernel)
  have hX : xD A [h, an, described] := xD.of hD rfl
  have hl : lv_has ls 2 [(0, .ref h), (1, .ref described)] := hl
  refine lv_aload_n hx hb dX2_takeNumbers_0 rfl (lv_at hl 1 rfl) ?_
  refine lv_aload_n hx hb dX2_takeNumbers_1 rfl (lv_at hl 0 rfl) ?_
  refine va_get (D := E.1) (ci := 2) (v := .ref an) (C := RX2) (T := TX2) (N := 1) hx hb hts g_2 hown hE.1 hP 0 rfl rfl 0 (by decide) g_1 (fun _ h9 => h9) rfl dX2_takeNumbers_2 ?_
  refine x_wSN (wr := [(h, .inr (2, [.ref an]))]) [.ref described, .ref an] (kX8_copyRow l E described 24 f an num (by decide)) ⟨hx, hb, hml, hown, hts⟩ ⟨va_cnB 2 hts gX2_takeNumbers_X8_copyRow_n15 rfl rfl rfl g_5 g_3 hdX8_copyRow.2 ⟨Nat.le_of_ble_eq_true rfl, Nat.le_of_ble_eq_true rfl⟩, g_4, trivial⟩ hE hP (hX.d rfl) hS hA [2, 1] [0] rfl rfl rfl rfl (by decide) hl.1 rfl rfl (Nat.le_of_ble_eq_true rfl) dX2_takeNumbers_5 (Nat.le_of_ble_eq_true rfl) (Nat.le_of_ble_eq_true rfl) (fun q_1 H locs hq_1 hP hD hS => ?_)
  have hP : va_P E.1 vwCl [(h, .inr (2, [.ref an])), (described, .inl (E.2.1, 24, .inl f)), (an, .inl (E.2.1, 24, .inl q_1))] H := hP
  have hX : xD A [h, described, an] := xD.of hD rfl
  refine W.eq (g2 := F0 m 8 ls []) rfl ?_
  exact x_wv q_1 (by unfold sX2_takeNumbers; rw [← hq_1]; unfold sX2_takeNumbers_q_1; try rfl) rfl hx hb hr hlk hS hP (hX.d rfl) [0, 2, 1] rfl rfl (Nat.le_of_ble_eq_true rfl) (Nat.le_of_ble_eq_true rfl) dX2_takeNumbers_8
def sX5_placeOf (i : Int32) (j : Int32) : Int32 :=
  (((i + 3) * 7) + j) + 3
theorem hdX5_placeOf : yX5_placeOf.cls = RX5 ∧ yX5_placeOf.cls ≠ "java/lang/invoke/MethodHandle" ∧ yX5_placeOf.cls ≠ "java/lang/invoke/VarHandle" ∧ (parseMethodDescriptor yX5_placeOf.desc).map (fun d => d.parameters.length) = some 2 := by decide +kernel
set_option maxHeartbeats 4000000 in
set_option maxRecDepth 100000 in
theorem kX5_placeOf (l : Launch) (E : XE) (i : Int32) (j : Int32) : xR l yX5_placeOf wsX5_placeOf ({ frames := 0, cells := 0, slots := 0, locals := 0 }) E [] [.int i, .int j] (.int (sX5_placeOf i j)) := by
  refine xR.of (cc := cX5_placeOf) (maxL := 2) (ret := (some .int)) (by decide) rfl (Nat.le_of_ble_eq_true rfl) ?_
  intro p e s m args below meth c ls hM hE hP hD hl
  obtain ⟨hx, hb, hr, hml, hts, hown, hlk, hnm⟩ := hM
  have hl : lv_has ls 2 [(0, .int i), (1, .int j)] := hl
  refine lv_iload_n hx hb dX5_placeOf_0 rfl (lv_at hl 0 rfl) ?_
  refine lv_iconst (v := 3) hx hb dX5_placeOf_1 (by decide) ?_
  refine lv_iadd hx hb dX5_placeOf_2 ?_
  refine lv_bipush (v := 7) hx hb dX5_placeOf_3 (by decide) ?_
  refine lv_imul hx hb dX5_placeOf_5 ?_
  refine lv_iload_n hx hb dX5_placeOf_6 rfl (lv_at hl 1 rfl) ?_
  refine lv_iadd hx hb dX5_placeOf_7 ?_
  refine lv_iconst (v := 3) hx hb dX5_placeOf_8 (by decide) ?_
  refine lv_iadd hx hb dX5_placeOf_9 ?_
  exact x_ir (by unfold sX5_placeOf; try rfl) hx hb hr hlk dX5_placeOf_10
def sX5_reasonAt (rs : Nat → Int32) (i : Int32) (j : Int32) : Int32 :=
  sX8_valueAt 49 rs (sX5_placeOf i j)
theorem hdX5_reasonAt : yX5_reasonAt.cls = RX5 ∧ yX5_reasonAt.cls ≠ "java/lang/invoke/MethodHandle" ∧ yX5_reasonAt.cls ≠ "java/lang/invoke/VarHandle" ∧ (parseMethodDescriptor yX5_reasonAt.desc).map (fun d => d.parameters.length) = some 2 := by decide +kernel
set_option maxHeartbeats 4000000 in
set_option maxRecDepth 100000 in
theorem kX5_reasonAt (l : Launch) (E : XE) (h : Nat) (ar : Nat) (af : Nat) (rs : Nat → Int32) (i : Int32) (j : Int32) : xR l yX5_reasonAt wsX5_reasonAt ({ frames := 1, cells := 0, slots := 0, locals := 21 }) E [(h, .inr (5, [.ref ar, .ref af])), (ar, .inl (E.2.1, 49, .inl rs))] [.ref h, .int i, .int j] (.int (sX5_reasonAt rs i j)) := by
  refine xR.of (cc := cX5_reasonAt) (maxL := 3) (ret := (some .int)) (by decide) rfl (Nat.le_of_ble_eq_true rfl) ?_
  intro p e s m args below meth c ls hM hE hP hD hl
  obtain ⟨hx, hb, hr, hml, hts, hown, hlk, hnm⟩ := hM
  have g_1 : (Cond.fieldLink RX5 11 "RailPendulum$Region" "reasons" "[I").before args s = true := hts (Cond.fieldLink RX5 11 "RailPendulum$Region" "reasons" "[I") (by decide +kernel)
  have g_2 : ∀ w ∈ wsX50, w ∈ wsX5_reasonAt := by decide +kernel
  have g_3 : (Cond.initialized yX8_valueAt.cls).before args s = true := hts _ (by decide +kernel)
  have g_4 : (Cond.static yX8_valueAt).before args s = true := hts (Cond.static yX8_valueAt) (by decide +kernel)
  have g_5 : va_Nw (.methodLinkNest RX5 22 yX8_valueAt "RailPendulum") s := hE.2 _ (by decide +kernel)
  have hl : lv_has ls 3 [(0, .ref h), (1, .int i), (2, .int j)] := hl
  refine lv_aload_n hx hb dX5_reasonAt_0 rfl (lv_at hl 0 rfl) ?_
  refine va_get (D := E.1) (ci := 5) (v := .ref ar) (C := RX5) (T := TX5) (N := 2) hx hb hts g_2 hown hE.1 hP 0 rfl rfl 0 (by decide) g_1 (fun _ h9 => h9) rfl dX5_reasonAt_1 ?_
  refine lv_iload_n hx hb dX5_reasonAt_4 rfl (lv_at hl 1 rfl) ?_
  refine lv_iload_n hx hb dX5_reasonAt_5 rfl (lv_at hl 2 rfl) ?_
  refine x_rS [.int i, .int j] (kX5_placeOf l E i j) ⟨hx, hb, hml, hown, hts⟩ (va_cwS 2 hts gX5_reasonAt_X5_placeOf rfl rfl rfl hdX5_placeOf.2 ⟨Nat.le_of_ble_eq_true rfl, Nat.le_of_ble_eq_true rfl⟩) hE hP hD [] rfl rfl hl.1 rfl rfl (Nat.le_of_ble_eq_true rfl) dX5_reasonAt_6 (Nat.le_of_ble_eq_true rfl) (Nat.le_of_ble_eq_true rfl) ?_
  refine x_rSN [.ref ar, .int (sX5_placeOf i j)] (kX8_valueAt l E ar 49 rs (sX5_placeOf i j) (by decide)) ⟨hx, hb, hml, hown, hts⟩ ⟨va_cnB 2 hts gX5_reasonAt_X8_valueAt_n22 rfl rfl rfl g_5 g_3 hdX8_valueAt.2 ⟨Nat.le_of_ble_eq_true rfl, Nat.le_of_ble_eq_true rfl⟩, g_4, trivial⟩ hE hP hD [1] rfl rfl hl.1 rfl rfl (Nat.le_of_ble_eq_true rfl) dX5_reasonAt_9 (Nat.le_of_ble_eq_true rfl) (Nat.le_of_ble_eq_true rfl) ?_
  exact x_ir (by unfold sX5_reasonAt; try rfl) hx hb hr hlk dX5_reasonAt_12
def sX5_failedStepAt (fs : Nat → Int32) (i : Int32) (j : Int32) : Int32 :=
  sX8_valueAt 49 fs (sX5_placeOf i j)
theorem hdX5_failedStepAt : yX5_failedStepAt.cls = RX5 ∧ yX5_failedStepAt.cls ≠ "java/lang/invoke/MethodHandle" ∧ yX5_failedStepAt.cls ≠ "java/lang/invoke/VarHandle" ∧ (parseMethodDescriptor yX5_failedStepAt.desc).map (fun d => d.parameters.length) = some 2 := by decide +kernel
set_option maxHeartbeats 4000000 in
set_option maxRecDepth 100000 in
theorem kX5_failedStepAt (l : Launch) (E : XE) (h : Nat) (ar : Nat) (af : Nat) (fs : Nat → Int32) (i : Int32) (j : Int32) : xR l yX5_failedStepAt wsX5_failedStepAt ({ frames := 1, cells := 0, slots := 0, locals := 21 }) E [(h, .inr (5, [.ref ar, .ref af])), (af, .inl (E.2.1, 49, .inl fs))] [.ref h, .int i, .int j] (.int (sX5_failedStepAt fs i j)) := by
  refine xR.of (cc := cX5_failedStepAt) (maxL := 3) (ret := (some .int)) (by decide) rfl (Nat.le_of_ble_eq_true rfl) ?_
  intro p e s m args below meth c ls hM hE hP hD hl
  obtain ⟨hx, hb, hr, hml, hts, hown, hlk, hnm⟩ := hM
  have g_1 : (Cond.fieldLink RX5 15 "RailPendulum$Region" "failedSteps" "[I").before args s = true := hts (Cond.fieldLink RX5 15 "RailPendulum$Region" "failedSteps" "[I") (by decide +kernel)
  have g_2 : ∀ w ∈ wsX50, w ∈ wsX5_failedStepAt := by decide +kernel
  have g_3 : (Cond.initialized yX8_valueAt.cls).before args s = true := hts _ (by decide +kernel)
  have g_4 : (Cond.static yX8_valueAt).before args s = true := hts (Cond.static yX8_valueAt) (by decide +kernel)
  have g_5 : va_Nw (.methodLinkNest RX5 22 yX8_valueAt "RailPendulum") s := hE.2 _ (by decide +kernel)
  have hl : lv_has ls 3 [(0, .ref h), (1, .int i), (2, .int j)] := hl
  refine lv_aload_n hx hb dX5_failedStepAt_0 rfl (lv_at hl 0 rfl) ?_
  refine va_get (D := E.1) (ci := 5) (v := .ref af) (C := RX5) (T := TX5) (N := 2) hx hb hts g_2 hown hE.1 hP 0 rfl rfl 1 (by decide) g_1 (fun _ h9 => h9) rfl dX5_failedStepAt_1 ?_
  refine lv_iload_n hx hb dX5_failedStepAt_4 rfl (lv_at hl 1 rfl) ?_
  refine lv_iload_n hx hb dX5_failedStepAt_5 rfl (lv_at hl 2 rfl) ?_
  refine x_rS [.int i, .int j] (kX5_placeOf l E i j) ⟨hx, hb, hml, hown, hts⟩ (va_cwS 2 hts gX5_failedStepAt_X5_placeOf rfl rfl rfl hdX5_placeOf.2 ⟨Nat.le_of_ble_eq_true rfl, Nat.le_of_ble_eq_true rfl⟩) hE hP hD [] rfl rfl hl.1 rfl rfl (Nat.le_of_ble_eq_true rfl) dX5_failedStepAt_6 (Nat.le_of_ble_eq_true rfl) (Nat.le_of_ble_eq_true rfl) ?_
  refine x_rSN [.ref af, .int (sX5_placeOf i j)] (kX8_valueAt l E af 49 fs (sX5_placeOf i j) (by decide)) ⟨hx, hb, hml, hown, hts⟩ ⟨va_cnB 2 hts gX5_failedStepAt_X8_valueAt_n22 rfl rfl rfl g_5 g_3 hdX8_valueAt.2 ⟨Nat.le_of_ble_eq_true rfl, Nat.le_of_ble_eq_true rfl⟩, g_4, trivial⟩ hE hP hD [1] rfl rfl hl.1 rfl rfl (Nat.le_of_ble_eq_true rfl) dX5_failedStepAt_9 (Nat.le_of_ble_eq_true rfl) (Nat.le_of_ble_eq_true rfl) ?_
  exact x_ir (by unfold sX5_failedStepAt; try rfl) hx hb hr hlk dX5_failedStepAt_12
def sX5_copyFrom_q_2 (rs : Nat → Int32) (fs : Nat → Int32) (ors : Nat → Int32) (ofs : Nat → Int32) (q_1 : (Nat → Int32)) (q_2 : (Nat → Int32)) : (Nat → Int32) × (Nat → Int32) :=
  (q_1, q_2)
def sX5_copyFrom_q_1 (rs : Nat → Int32) (fs : Nat → Int32) (ors : Nat → Int32) (ofs : Nat → Int32) (q_1 : (Nat → Int32)) : (Nat → Int32) × (Nat → Int32) :=
  sX5_copyFrom_q_2 rs fs ors ofs q_1 (sX8_copyRow 49 ofs fs)
def sX5_copyFrom (rs : Nat → Int32) (fs : Nat → Int32) (ors : Nat → Int32) (ofs : Nat → Int32) : (Nat → Int32) × (Nat → Int32) :=
  sX5_copyFrom_q_1 rs fs ors ofs (sX8_copyRow 49 ors rs)
theorem hdX5_copyFrom : yX5_copyFrom.cls = RX5 ∧ yX5_copyFrom.cls ≠ "java/lang/invoke/MethodHandle" ∧ yX5_copyFrom.cls ≠ "java/lang/invoke/VarHandle" ∧ (parseMethodDescriptor yX5_copyFrom.desc).map (fun d => d.parameters.length) = some 1 := by decide +kernel
set_option maxHeartbeats 4000000 in
set_option maxRecDepth 100000 in
theorem kX5_copyFrom (l : Launch) (E : XE) (h : Nat) (ar : Nat) (af : Nat) (rs : Nat → Int32) (fs : Nat → Int32) (other : Nat) (oar : Nat) (oaf : Nat) (ors : Nat → Int32) (ofs : Nat → Int32) : xW (T := (Nat → Int32) × (Nat → Int32)) l yX5_copyFrom wsX5_copyFrom ({ frames := 2, cells := 0, slots := 0, locals := 61 }) E [(h, .inr (5, [.ref ar, .ref af])), (ar, .inl (E.2.1, 49, .inl rs)), (af, .inl (E.2.1, 49, .inl fs)), (other, .inr (5, [.ref oar, .ref oaf])), (oar, .inl (E.2.1, 49, .inl ors)), (oaf, .inl (E.2.1, 49, .inl ofs))] [.ref h, .ref other] (fun _ => none) (fun q => [(h, .inr (5, [.ref ar, .ref af])), (ar, .inl (E.2.1, 49, .inl q.1)), (af, .inl (E.2.1, 49, .inl q.2)), (other, .inr (5, [.ref oar, .ref oaf])), (oar, .inl (E.2.1, 49, .inl ors)), (oaf, .inl (E.2.1, 49, .inl ofs))]) (sX5_copyFrom rs fs ors ofs) 0 0 := by
  refine xW.of (cc := cX5_copyFrom) (maxL := 2) (ret := none) (by decide) rfl (Nat.le_of_ble_eq_true rfl) ?_
  intro p e s m args below meth c ls A hM hE hP hD hS hA hl
  obtain ⟨hx, hb, hr, hml, hts, hown, hlk, hnm⟩ := hM
  have g_1 : (Cond.fieldLink RX5 11 "RailPendulum$Region" "reasons" "[I").before args s = true := hts (Cond.fieldLink RX5 11 "RailPendulum$Region" "reasons" "[I") (by decide +kernel)
  have g_2 : ∀ w ∈ wsX50, w ∈ wsX5_copyFrom := by decide +kernel
  have g_3 : (Cond.initialized yX8_copyRow.cls).before args s = true := hts _ (by decide +kernel)
  have g_4 : (Cond.static yX8_copyRow).before args s = true := hts (Cond.static yX8_copyRow) (by decide +kernel)
  have g_5 : va_Nw (.methodLinkNest RX5 70 yX8_copyRow "RailPendulum") s := hE.2 _ (by decide +kernel)
  have g_6 : (Cond.fieldLink RX5 15 "RailPendulum$Region" "failedSteps" "[I").before args s = true := hts (Cond.fieldLink RX5 15 "RailPendulum$Region" "failedSteps" "[I") (by decide +kernel)
  have hX : xD A [h, ar, af, other, oar, oaf] := xD.of hD rfl
  have hl : lv_has ls 2 [(0, .ref h), (1, .ref other)] := hl
  refine lv_aload_n hx hb dX5_copyFrom_0 rfl (lv_at hl 1 rfl) ?_
  refine va_get (D := E.1) (ci := 5) (v := .ref oar) (C := RX5) (T := TX5) (N := 2) hx hb hts g_2 hown hE.1 hP 3 rfl rfl 0 (by decide) g_1 (fun _ h9 => h9) rfl dX5_copyFrom_1 ?_
  refine lv_aload_n hx hb dX5_copyFrom_4 rfl (lv_at hl 0 rfl) ?_
  refine va_get (D := E.1) (ci := 5) (v := .ref ar) (C := RX5) (T := TX5) (N := 2) hx hb hts g_2 hown hE.1 hP 0 rfl rfl 0 (by decide) g_1 (fun _ h9 => h9) rfl dX5_copyFrom_5 ?_
  refine x_wSN (wr := [(h, .inr (5, [.ref ar, .ref af])), (af, .inl (E.2.1, 49, .inl fs)), (other, .inr (5, [.ref oar, .ref oaf])), (oaf, .inl (E.2.1, 49, .inl ofs))]) [.ref oar, .ref ar] (kX8_copyRow l E oar 49 ors ar rs (by decide)) ⟨hx, hb, hml, hown, hts⟩ ⟨va_cnB 2 hts gX5_copyFrom_X8_copyRow_n70 rfl rfl rfl g_5 g_3 hdX8_copyRow.2 ⟨Nat.le_of_ble_eq_true rfl, Nat.le_of_ble_eq_true rfl⟩, g_4, trivial⟩ hE hP (hX.d rfl) hS hA [4, 1] [0, 2, 3, 5] rfl rfl rfl rfl (by decide) hl.1 rfl rfl (Nat.le_of_ble_eq_true rfl) dX5_copyFrom_8 (Nat.le_of_ble_eq_true rfl) (Nat.le_of_ble_eq_true rfl) (fun q_1 H locs hq_1 hP hD hS => ?_)
  have hP : va_P E.1 vwCl [(h, .inr (5, [.ref ar, .ref af])), (af, .inl (E.2.1, 49, .inl fs)), (other, .inr (5, [.ref oar, .ref oaf])), (oaf, .inl (E.2.1, 49, .inl ofs)), (oar, .inl (E.2.1, 49, .inl ors)), (ar, .inl (E.2.1, 49, .inl q_1))] H := hP
  have hX : xD A [h, af, other, oaf, oar, ar] := xD.of hD rfl
  refine W.eq (g2 := F0 m 11 ls []) rfl ?_
  refine lv_aload_n hx hb dX5_copyFrom_11 rfl (lv_at hl 1 rfl) ?_
  refine va_get (D := E.1) (ci := 5) (v := .ref oaf) (C := RX5) (T := TX5) (N := 2) hx hb hts g_2 hown hE.1 hP 2 rfl rfl 1 (by decide) g_6 (fun _ h9 => h9) rfl dX5_copyFrom_12 ?_
  refine lv_aload_n hx hb dX5_copyFrom_15 rfl (lv_at hl 0 rfl) ?_
  refine va_get (D := E.1) (ci := 5) (v := .ref af) (C := RX5) (T := TX5) (N := 2) hx hb hts g_2 hown hE.1 hP 0 rfl rfl 1 (by decide) g_6 (fun _ h9 => h9) rfl dX5_copyFrom_16 ?_
  refine x_wSN (wr := [(h, .inr (5, [.ref ar, .ref af])), (other, .inr (5, [.ref oar, .ref oaf])), (oar, .inl (E.2.1, 49, .inl ors)), (ar, .inl (E.2.1, 49, .inl q_1))]) [.ref oaf, .ref af] (kX8_copyRow l E oaf 49 ofs af fs (by decide)) ⟨hx, hb, hml, hown, hts⟩ ⟨va_cnB 2 hts gX5_copyFrom_X8_copyRow_n70 rfl rfl rfl g_5 g_3 hdX8_copyRow.2 ⟨Nat.le_of_ble_eq_true rfl, Nat.le_of_ble_eq_true rfl⟩, g_4, trivial⟩ hE hP (hX.d rfl) hS hA [3, 1] [0, 2, 4, 5] rfl rfl rfl rfl (by decide) hl.1 rfl rfl (Nat.le_of_ble_eq_true rfl) dX5_copyFrom_19 (Nat.le_of_ble_eq_true rfl) (Nat.le_of_ble_eq_true rfl) (fun q_2 H locs hq_2 hP hD hS => ?_)
  have hP : va_P E.1 vwCl [(h, .inr (5, [.ref ar, .ref af])), (other, .inr (5, [.ref oar, .ref oaf])), (oar, .inl (E.2.1, 49, .inl ors)), (ar, .inl (E.2.1, 49, .inl q_1)), (oaf, .inl (E.2.1, 49, .inl ofs)), (af, .inl (E.2.1, 49, .inl q_2))] H := hP
  have hX : xD A [h, other, oar, ar, oaf, af] := xD.of hD rfl
  refine W.eq (g2 := F0 m 22 ls []) rfl ?_
  exact x_wv (q_1, q_2) (by unfold sX5_copyFrom; rw [← hq_1]; unfold sX5_copyFrom_q_1; rw [← hq_2]; unfold sX5_copyFrom_q_2; try rfl) rfl hx hb hr hlk hS hP (hX.d rfl) [0, 3, 5, 1, 2, 4] rfl rfl (Nat.le_of_ble_eq_true rfl) (Nat.le_of_ble_eq_true rfl) dX5_copyFrom_22
def sX6_begin_q_2 (firstForce : Int32) (q_1 : Int32 × Int32 × Int32 × Int32 × Int32 × Int32) (q_2 : Int64 × Int64 × Int64 × Int64) : Int32 × Int32 × Int32 × Int32 × Int32 × Int32 × Int32 × Int32 × Int32 × Int32 × Int32 × Int32 × Int32 × Int32 × Int64 × Int64 × Int64 × Int64 :=
  (q_1.1, q_1.2.1, q_1.2.2.1, q_1.2.2.2.1, q_1.2.2.2.2.1, q_1.2.2.2.2.2, 0, 0, 0, firstForce, 0, 0, 0, 0, q_2.1, q_2.2.1, q_2.2.2.1, q_2.2.2.2)
def sX6_begin_q_1 (firstForce : Int32) (q_1 : Int32 × Int32 × Int32 × Int32 × Int32 × Int32) : Int32 × Int32 × Int32 × Int32 × Int32 × Int32 × Int32 × Int32 × Int32 × Int32 × Int32 × Int32 × Int32 × Int32 × Int64 × Int64 × Int64 × Int64 :=
  sX6_begin_q_2 firstForce q_1 sX4_clearAll
def sX6_begin (firstForce : Int32) : Int32 × Int32 × Int32 × Int32 × Int32 × Int32 × Int32 × Int32 × Int32 × Int32 × Int32 × Int32 × Int32 × Int32 × Int64 × Int64 × Int64 × Int64 :=
  sX6_begin_q_1 firstForce (sX1_restAt 2048 2048)
theorem hdX6_begin : yX6_begin.cls = RX6 ∧ yX6_begin.cls ≠ "java/lang/invoke/MethodHandle" ∧ yX6_begin.cls ≠ "java/lang/invoke/VarHandle" ∧ (parseMethodDescriptor yX6_begin.desc).map (fun d => d.parameters.length) = some 1 := by decide +kernel
set_option maxHeartbeats 4000000 in
set_option maxRecDepth 100000 in
theorem kX6_begin (l : Launch) (E : XE) (h : Nat) (mo : Nat) (re : Nat) (rc : Nat) (tick : Int32) (mode : Int32) (lock : Int32) (force : Int32) (switches : Int32) (stops : Int32) (resets : Int32) (latestStop : Int32) (x : Int32) (v : Int32) (a1 : Int32) (a2 : Int32) (w1 : Int32) (w2 : Int32) (ar : Nat) (af : Nat) (rs : Nat → Int32) (fs : Nat → Int32) (b1 : Int64) (b2 : Int64) (b3 : Int64) (b4 : Int64) (firstForce : Int32) : xW (T := Int32 × Int32 × Int32 × Int32 × Int32 × Int32 × Int32 × Int32 × Int32 × Int32 × Int32 × Int32 × Int32 × Int32 × Int64 × Int64 × Int64 × Int64) l yX6_begin wsX6_begin ({ frames := 1, cells := 0, slots := 0, locals := 22 }) E [(h, .inr (6, [.ref mo, .ref re, .ref rc, .int tick, .int mode, .int lock, .int force, .int switches, .int stops, .int resets, .int latestStop])), (mo, .inr (1, [.int x, .int v, .int a1, .int a2, .int w1, .int w2])), (re, .inr (5, [.ref ar, .ref af])), (ar, .inl (E.2.1, 49, .inl rs)), (af, .inl (E.2.1, 49, .inl fs)), (rc, .inr (4, [.long b1, .long b2, .long b3, .long b4]))] [.ref h, .int firstForce] (fun _ => none) (fun q => [(h, .inr (6, [.ref mo, .ref re, .ref rc, .int q.2.2.2.2.2.2.1, .int q.2.2.2.2.2.2.2.1, .int q.2.2.2.2.2.2.2.2.1, .int q.2.2.2.2.2.2.2.2.2.1, .int q.2.2.2.2.2.2.2.2.2.2.1, .int q.2.2.2.2.2.2.2.2.2.2.2.1, .int q.2.2.2.2.2.2.2.2.2.2.2.2.1, .int q.2.2.2.2.2.2.2.2.2.2.2.2.2.1])), (mo, .inr (1, [.int q.1, .int q.2.1, .int q.2.2.1, .int q.2.2.2.1, .int q.2.2.2.2.1, .int q.2.2.2.2.2.1])), (re, .inr (5, [.ref ar, .ref af])), (ar, .inl (E.2.1, 49, .inl rs)), (af, .inl (E.2.1, 49, .inl fs)), (rc, .inr (4, [.long q.2.2.2.2.2.2.2.2.2.2.2.2.2.2.1, .long q.2.2.2.2.2.2.2.2.2.2.2.2.2.2.2.1, .long q.2.2.2.2.2.2.2.2.2.2.2.2.2.2.2.2.1, .long q.2.2.2.2.2.2.2.2.2.2.2.2.2.2.2.2.2]))]) (sX6_begin firstForce) 0 0 := by
  refine xW.of (cc := cX6_begin) (maxL := 2) (ret := none) (by decide) rfl (Nat.le_of_ble_eq_true rfl) ?_
  intro p e s m args below meth c ls A hM hE hP hD hS hA hl
  obtain ⟨hx, hb, hr, hml, hts, hown, hlk, hnm⟩ := hM
  have g_1 : (Cond.fieldLink RX6 12 "RailPendulum$Situation" "motion" "LRailPendulum$Motion;").before args s = true := hts (Cond.fieldLink RX6 12 "RailPendulum$Situation" "motion" "LRailPendulum$Motion;") (by decide +kernel)
  have g_2 : ∀ w ∈ wsX60, w ∈ wsX6_begin := by decide +kernel
  have g_3 : (Cond.fieldLink RX6 28 "RailPendulum$Situation" "recent" "LRailPendulum$RecentSwitches;").before args s = true := hts (Cond.fieldLink RX6 28 "RailPendulum$Situation" "recent" "LRailPendulum$RecentSwitches;") (by decide +kernel)
  have g_4 : (Cond.fieldLink RX6 39 "RailPendulum$Situation" "tick" "I").before args s = true := hts (Cond.fieldLink RX6 39 "RailPendulum$Situation" "tick" "I") (by decide +kernel)
  have g_5 : (Cond.fieldLink RX6 43 "RailPendulum$Situation" "mode" "I").before args s = true := hts (Cond.fieldLink RX6 43 "RailPendulum$Situation" "mode" "I") (by decide +kernel)
  have g_6 : (Cond.fieldLink RX6 46 "RailPendulum$Situation" "lock" "I").before args s = true := hts (Cond.fieldLink RX6 46 "RailPendulum$Situation" "lock" "I") (by decide +kernel)
  have g_7 : (Cond.fieldLink RX6 49 "RailPendulum$Situation" "force" "I").before args s = true := hts (Cond.fieldLink RX6 49 "RailPendulum$Situation" "force" "I") (by decide +kernel)
  have g_8 : (Cond.fieldLink RX6 52 "RailPendulum$Situation" "switches" "I").before args s = true := hts (Cond.fieldLink RX6 52 "RailPendulum$Situation" "switches" "I") (by decide +kernel)
  have g_9 : (Cond.fieldLink RX6 55 "RailPendulum$Situation" "stops" "I").before args s = true := hts (Cond.fieldLink RX6 55 "RailPendulum$Situation" "stops" "I") (by decide +kernel)
  have g_10 : (Cond.fieldLink RX6 58 "RailPendulum$Situation" "resets" "I").before args s = true := hts (Cond.fieldLink RX6 58 "RailPendulum$Situation" "resets" "I") (by decide +kernel)
  have g_11 : (Cond.fieldLink RX6 61 "RailPendulum$Situation" "latestStop" "I").before args s = true := hts (Cond.fieldLink RX6 61 "RailPendulum$Situation" "latestStop" "I") (by decide +kernel)
  have hX : xD A [h, mo, re, ar, af, rc] := xD.of hD rfl
  have hl : lv_has ls 2 [(0, .ref h), (1, .int firstForce)] := hl
  refine lv_aload_n hx hb dX6_begin_0 rfl (lv_at hl 0 rfl) ?_
  refine va_get (D := E.1) (ci := 6) (v := .ref mo) (C := RX6) (T := TX6) (N := 11) hx hb hts g_2 hown hE.1 hP 0 rfl rfl 0 (by decide) g_1 (fun _ h9 => h9) rfl dX6_begin_1 ?_
  refine lv_sipush (v := 2048) hx hb dX6_begin_4 (by decide) ?_
  refine lv_sipush (v := 2048) hx hb dX6_begin_7 (by decide) ?_
  refine x_wV (wr := [(h, .inr (6, [.ref mo, .ref re, .ref rc, .int tick, .int mode, .int lock, .int force, .int switches, .int stops, .int resets, .int latestStop])), (re, .inr (5, [.ref ar, .ref af])), (ar, .inl (E.2.1, 49, .inl rs)), (af, .inl (E.2.1, 49, .inl fs)), (rc, .inr (4, [.long b1, .long b2, .long b3, .long b4]))]) [.int 2048, .int 2048] (kX1_restAt l E mo x v a1 a2 w1 w2 2048 2048) ⟨hx, hb, hml, hown, hts⟩ (cwV 2 hts gX6_begin_X1_restAt rfl rfl rfl hdX1_restAt ⟨Nat.le_of_ble_eq_true rfl, Nat.le_of_ble_eq_true rfl⟩) hE hP (hX.d rfl) hS hA [1] [0, 2, 3, 4, 5] rfl rfl rfl rfl (by decide) (ci := 1) (q0 := 1) rfl rfl rfl hl.1 rfl rfl (Nat.le_of_ble_eq_true rfl) dX6_begin_10 (Nat.le_of_ble_eq_true rfl) (Nat.le_of_ble_eq_true rfl) (fun q_1 H locs hq_1 hP hD hS => ?_)
  have hP : va_P E.1 vwCl [(h, .inr (6, [.ref mo, .ref re, .ref rc, .int tick, .int mode, .int lock, .int force, .int switches, .int stops, .int resets, .int latestStop])), (re, .inr (5, [.ref ar, .ref af])), (ar, .inl (E.2.1, 49, .inl rs)), (af, .inl (E.2.1, 49, .inl fs)), (rc, .inr (4, [.long b1, .long b2, .long b3, .long b4])), (mo, .inr (1, [.int q_1.1, .int q_1.2.1, .int q_1.2.2.1, .int q_1.2.2.2.1, .int q_1.2.2.2.2.1, .int q_1.2.2.2.2.2]))] H := hP
  have hX : xD A [h, re, ar, af, rc, mo] := xD.of hD rfl
  refine W.eq (g2 := F0 m 13 ls []) rfl ?_
  refine lv_aload_n hx hb dX6_begin_13 rfl (lv_at hl 0 rfl) ?_
  refine va_get (D := E.1) (ci := 6) (v := .ref rc) (C := RX6) (T := TX6) (N := 11) hx hb hts g_2 hown hE.1 hP 0 rfl rfl 2 (by decide) g_3 (fun _ h9 => h9) rfl dX6_begin_14 ?_
  refine x_wV (wr := [(h, .inr (6, [.ref mo, .ref re, .ref rc, .int tick, .int mode, .int lock, .int force, .int switches, .int stops, .int resets, .int latestStop])), (re, .inr (5, [.ref ar, .ref af])), (ar, .inl (E.2.1, 49, .inl rs)), (af, .inl (E.2.1, 49, .inl fs)), (mo, .inr (1, [.int q_1.1, .int q_1.2.1, .int q_1.2.2.1, .int q_1.2.2.2.1, .int q_1.2.2.2.2.1, .int q_1.2.2.2.2.2]))]) [] (kX4_clearAll l E rc b1 b2 b3 b4) ⟨hx, hb, hml, hown, hts⟩ (cwV 0 hts gX6_begin_X4_clearAll rfl rfl rfl hdX4_clearAll ⟨Nat.le_of_ble_eq_true rfl, Nat.le_of_ble_eq_true rfl⟩) hE hP (hX.d rfl) hS hA [4] [0, 1, 2, 3, 5] rfl rfl rfl rfl (by decide) (ci := 4) (q0 := 4) rfl rfl rfl hl.1 rfl rfl (Nat.le_of_ble_eq_true rfl) dX6_begin_17 (Nat.le_of_ble_eq_true rfl) (Nat.le_of_ble_eq_true rfl) (fun q_2 H locs hq_2 hP hD hS => ?_)
  have hP : va_P E.1 vwCl [(h, .inr (6, [.ref mo, .ref re, .ref rc, .int tick, .int mode, .int lock, .int force, .int switches, .int stops, .int resets, .int latestStop])), (re, .inr (5, [.ref ar, .ref af])), (ar, .inl (E.2.1, 49, .inl rs)), (af, .inl (E.2.1, 49, .inl fs)), (mo, .inr (1, [.int q_1.1, .int q_1.2.1, .int q_1.2.2.1, .int q_1.2.2.2.1, .int q_1.2.2.2.2.1, .int q_1.2.2.2.2.2])), (rc, .inr (4, [.long q_2.1, .long q_2.2.1, .long q_2.2.2.1, .long q_2.2.2.2]))] H := hP
  have hX : xD A [h, re, ar, af, mo, rc] := xD.of hD rfl
  refine W.eq (g2 := F0 m 20 ls []) rfl ?_
  refine lv_aload_n hx hb dX6_begin_20 rfl (lv_at hl 0 rfl) ?_
  refine lv_iconst (v := 0) hx hb dX6_begin_21 (by decide) ?_
  refine va_put (D := E.1) (ci := 6) (v := .int 0) (ty := .int) (C := RX6) (T := TX6) (N := 11) hx hb hts g_2 tyX6 tyX6_ok nmX6 hown hE.1 hP (hX.d rfl) hS 0 rfl rfl 3 (by decide) g_4 (fun _ h9 => h9) rfl (by decide +kernel) rfl rfl (Nat.le_of_ble_eq_true rfl) dX6_begin_22 (fun H locs hP _ hS => ?_)
  have hP : va_P E.1 vwCl [(h, .inr (6, [.ref mo, .ref re, .ref rc, .int 0, .int mode, .int lock, .int force, .int switches, .int stops, .int resets, .int latestStop])), (re, .inr (5, [.ref ar, .ref af])), (ar, .inl (E.2.1, 49, .inl rs)), (af, .inl (E.2.1, 49, .inl fs)), (mo, .inr (1, [.int q_1.1, .int q_1.2.1, .int q_1.2.2.1, .int q_1.2.2.2.1, .int q_1.2.2.2.2.1, .int q_1.2.2.2.2.2])), (rc, .inr (4, [.long q_2.1, .long q_2.2.1, .long q_2.2.2.1, .long q_2.2.2.2]))] H := hP
  refine lv_aload_n hx hb dX6_begin_25 rfl (lv_at hl 0 rfl) ?_
  refine lv_iconst (v := 0) hx hb dX6_begin_26 (by decide) ?_
  refine va_put (D := E.1) (ci := 6) (v := .int 0) (ty := .int) (C := RX6) (T := TX6) (N := 11) hx hb hts g_2 tyX6 tyX6_ok nmX6 hown hE.1 hP (hX.d rfl) hS 0 rfl rfl 4 (by decide) g_5 (fun _ h9 => h9) rfl (by decide +kernel) rfl rfl (Nat.le_of_ble_eq_true rfl) dX6_begin_27 (fun H locs hP _ hS => ?_)
  have hP : va_P E.1 vwCl [(h, .inr (6, [.ref mo, .ref re, .ref rc, .int 0, .int 0, .int lock, .int force, .int switches, .int stops, .int resets, .int latestStop])), (re, .inr (5, [.ref ar, .ref af])), (ar, .inl (E.2.1, 49, .inl rs)), (af, .inl (E.2.1, 49, .inl fs)), (mo, .inr (1, [.int q_1.1, .int q_1.2.1, .int q_1.2.2.1, .int q_1.2.2.2.1, .int q_1.2.2.2.2.1, .int q_1.2.2.2.2.2])), (rc, .inr (4, [.long q_2.1, .long q_2.2.1, .long q_2.2.2.1, .long q_2.2.2.2]))] H := hP
  refine lv_aload_n hx hb dX6_begin_30 rfl (lv_at hl 0 rfl) ?_
  refine lv_iconst (v := 0) hx hb dX6_begin_31 (by decide) ?_
  refine va_put (D := E.1) (ci := 6) (v := .int 0) (ty := .int) (C := RX6) (T := TX6) (N := 11) hx hb hts g_2 tyX6 tyX6_ok nmX6 hown hE.1 hP (hX.d rfl) hS 0 rfl rfl 5 (by decide) g_6 (fun _ h9 => h9) rfl (by decide +kernel) rfl rfl (Nat.le_of_ble_eq_true rfl) dX6_begin_32 (fun H locs hP _ hS => ?_)
  have hP : va_P E.1 vwCl [(h, .inr (6, [.ref mo, .ref re, .ref rc, .int 0, .int 0, .int 0, .int force, .int switches, .int stops, .int resets, .int latestStop])), (re, .inr (5, [.ref ar, .ref af])), (ar, .inl (E.2.1, 49, .inl rs)), (af, .inl (E.2.1, 49, .inl fs)), (mo, .inr (1, [.int q_1.1, .int q_1.2.1, .int q_1.2.2.1, .int q_1.2.2.2.1, .int q_1.2.2.2.2.1, .int q_1.2.2.2.2.2])), (rc, .inr (4, [.long q_2.1, .long q_2.2.1, .long q_2.2.2.1, .long q_2.2.2.2]))] H := hP
  refine lv_aload_n hx hb dX6_begin_35 rfl (lv_at hl 0 rfl) ?_
  refine lv_iload_n hx hb dX6_begin_36 rfl (lv_at hl 1 rfl) ?_
  refine va_put (D := E.1) (ci := 6) (v := .int firstForce) (ty := .int) (C := RX6) (T := TX6) (N := 11) hx hb hts g_2 tyX6 tyX6_ok nmX6 hown hE.1 hP (hX.d rfl) hS 0 rfl rfl 6 (by decide) g_7 (fun _ h9 => h9) rfl (by decide +kernel) rfl rfl (Nat.le_of_ble_eq_true rfl) dX6_begin_37 (fun H locs hP _ hS => ?_)
  have hP : va_P E.1 vwCl [(h, .inr (6, [.ref mo, .ref re, .ref rc, .int 0, .int 0, .int 0, .int firstForce, .int switches, .int stops, .int resets, .int latestStop])), (re, .inr (5, [.ref ar, .ref af])), (ar, .inl (E.2.1, 49, .inl rs)), (af, .inl (E.2.1, 49, .inl fs)), (mo, .inr (1, [.int q_1.1, .int q_1.2.1, .int q_1.2.2.1, .int q_1.2.2.2.1, .int q_1.2.2.2.2.1, .int q_1.2.2.2.2.2])), (rc, .inr (4, [.long q_2.1, .long q_2.2.1, .long q_2.2.2.1, .long q_2.2.2.2]))] H := hP
  refine lv_aload_n hx hb dX6_begin_40 rfl (lv_at hl 0 rfl) ?_
  refine lv_iconst (v := 0) hx hb dX6_begin_41 (by decide) ?_
  refine va_put (D := E.1) (ci := 6) (v := .int 0) (ty := .int) (C := RX6) (T := TX6) (N := 11) hx hb hts g_2 tyX6 tyX6_ok nmX6 hown hE.1 hP (hX.d rfl) hS 0 rfl rfl 7 (by decide) g_8 (fun _ h9 => h9) rfl (by decide +kernel) rfl rfl (Nat.le_of_ble_eq_true rfl) dX6_begin_42 (fun H locs hP _ hS => ?_)
  have hP : va_P E.1 vwCl [(h, .inr (6, [.ref mo, .ref re, .ref rc, .int 0, .int 0, .int 0, .int firstForce, .int 0, .int stops, .int resets, .int latestStop])), (re, .inr (5, [.ref ar, .ref af])), (ar, .inl (E.2.1, 49, .inl rs)), (af, .inl (E.2.1, 49, .inl fs)), (mo, .inr (1, [.int q_1.1, .int q_1.2.1, .int q_1.2.2.1, .int q_1.2.2.2.1, .int q_1.2.2.2.2.1, .int q_1.2.2.2.2.2])), (rc, .inr (4, [.long q_2.1, .long q_2.2.1, .long q_2.2.2.1, .long q_2.2.2.2]))] H := hP
  refine lv_aload_n hx hb dX6_begin_45 rfl (lv_at hl 0 rfl) ?_
  refine lv_iconst (v := 0) hx hb dX6_begin_46 (by decide) ?_
  refine va_put (D := E.1) (ci := 6) (v := .int 0) (ty := .int) (C := RX6) (T := TX6) (N := 11) hx hb hts g_2 tyX6 tyX6_ok nmX6 hown hE.1 hP (hX.d rfl) hS 0 rfl rfl 8 (by decide) g_9 (fun _ h9 => h9) rfl (by decide +kernel) rfl rfl (Nat.le_of_ble_eq_true rfl) dX6_begin_47 (fun H locs hP _ hS => ?_)
  have hP : va_P E.1 vwCl [(h, .inr (6, [.ref mo, .ref re, .ref rc, .int 0, .int 0, .int 0, .int firstForce, .int 0, .int 0, .int resets, .int latestStop])), (re, .inr (5, [.ref ar, .ref af])), (ar, .inl (E.2.1, 49, .inl rs)), (af, .inl (E.2.1, 49, .inl fs)), (mo, .inr (1, [.int q_1.1, .int q_1.2.1, .int q_1.2.2.1, .int q_1.2.2.2.1, .int q_1.2.2.2.2.1, .int q_1.2.2.2.2.2])), (rc, .inr (4, [.long q_2.1, .long q_2.2.1, .long q_2.2.2.1, .long q_2.2.2.2]))] H := hP
  refine lv_aload_n hx hb dX6_begin_50 rfl (lv_at hl 0 rfl) ?_
  refine lv_iconst (v := 0) hx hb dX6_begin_51 (by decide) ?_
  refine va_put (D := E.1) (ci := 6) (v := .int 0) (ty := .int) (C := RX6) (T := TX6) (N := 11) hx hb hts g_2 tyX6 tyX6_ok nmX6 hown hE.1 hP (hX.d rfl) hS 0 rfl rfl 9 (by decide) g_10 (fun _ h9 => h9) rfl (by decide +kernel) rfl rfl (Nat.le_of_ble_eq_true rfl) dX6_begin_52 (fun H locs hP _ hS => ?_)
  have hP : va_P E.1 vwCl [(h, .inr (6, [.ref mo, .ref re, .ref rc, .int 0, .int 0, .int 0, .int firstForce, .int 0, .int 0, .int 0, .int latestStop])), (re, .inr (5, [.ref ar, .ref af])), (ar, .inl (E.2.1, 49, .inl rs)), (af, .inl (E.2.1, 49, .inl fs)), (mo, .inr (1, [.int q_1.1, .int q_1.2.1, .int q_1.2.2.1, .int q_1.2.2.2.1, .int q_1.2.2.2.2.1, .int q_1.2.2.2.2.2])), (rc, .inr (4, [.long q_2.1, .long q_2.2.1, .long q_2.2.2.1, .long q_2.2.2.2]))] H := hP
  refine lv_aload_n hx hb dX6_begin_55 rfl (lv_at hl 0 rfl) ?_
  refine lv_iconst (v := 0) hx hb dX6_begin_56 (by decide) ?_
  refine va_put (D := E.1) (ci := 6) (v := .int 0) (ty := .int) (C := RX6) (T := TX6) (N := 11) hx hb hts g_2 tyX6 tyX6_ok nmX6 hown hE.1 hP (hX.d rfl) hS 0 rfl rfl 10 (by decide) g_11 (fun _ h9 => h9) rfl (by decide +kernel) rfl rfl (Nat.le_of_ble_eq_true rfl) dX6_begin_57 (fun H locs hP _ hS => ?_)
  have hP : va_P E.1 vwCl [(h, .inr (6, [.ref mo, .ref re, .ref rc, .int 0, .int 0, .int 0, .int firstForce, .int 0, .int 0, .int 0, .int 0])), (re, .inr (5, [.ref ar, .ref af])), (ar, .inl (E.2.1, 49, .inl rs)), (af, .inl (E.2.1, 49, .inl fs)), (mo, .inr (1, [.int q_1.1, .int q_1.2.1, .int q_1.2.2.1, .int q_1.2.2.2.1, .int q_1.2.2.2.2.1, .int q_1.2.2.2.2.2])), (rc, .inr (4, [.long q_2.1, .long q_2.2.1, .long q_2.2.2.1, .long q_2.2.2.2]))] H := hP
  exact x_wv (q_1.1, q_1.2.1, q_1.2.2.1, q_1.2.2.2.1, q_1.2.2.2.2.1, q_1.2.2.2.2.2, 0, 0, 0, firstForce, 0, 0, 0, 0, q_2.1, q_2.2.1, q_2.2.2.1, q_2.2.2.2) (by unfold sX6_begin; rw [← hq_1]; unfold sX6_begin_q_1; rw [← hq_2]; unfold sX6_begin_q_2; try rfl) rfl hx hb hr hlk hS hP (hX.d rfl) [0, 4, 1, 2, 3, 5] rfl rfl (Nat.le_of_ble_eq_true rfl) (Nat.le_of_ble_eq_true rfl) dX6_begin_60
def sX6_partOf (tick : Int32) (mode : Int32) (lock : Int32) (force : Int32) (switches : Int32) (stops : Int32) (resets : Int32) (x : Int32) (v : Int32) (what : Int32) : Int32 :=
  if what = 0 then
    tick
  else
    if what = 1 then
      mode
    else
      if what = 2 then
        x
      else
        if what = 3 then
          v
        else
          if what = 4 then
            lock
          else
            if what = 5 then
              force
            else
              if what = 6 then
                switches
              else
                if what = 7 then
                  stops
                else
                  resets
theorem hdX6_partOf : yX6_partOf.cls = RX6 ∧ yX6_partOf.cls ≠ "java/lang/invoke/MethodHandle" ∧ yX6_partOf.cls ≠ "java/lang/invoke/VarHandle" ∧ (parseMethodDescriptor yX6_partOf.desc).map (fun d => d.parameters.length) = some 1 := by decide +kernel
set_option maxHeartbeats 4000000 in
set_option maxRecDepth 100000 in
theorem kX6_partOf (l : Launch) (E : XE) (h : Nat) (mo : Nat) (re : Nat) (rc : Nat) (tick : Int32) (mode : Int32) (lock : Int32) (force : Int32) (switches : Int32) (stops : Int32) (resets : Int32) (latestStop : Int32) (x : Int32) (v : Int32) (a1 : Int32) (a2 : Int32) (w1 : Int32) (w2 : Int32) (what : Int32) : xR l yX6_partOf wsX6_partOf ({ frames := 0, cells := 0, slots := 0, locals := 0 }) E [(h, .inr (6, [.ref mo, .ref re, .ref rc, .int tick, .int mode, .int lock, .int force, .int switches, .int stops, .int resets, .int latestStop])), (mo, .inr (1, [.int x, .int v, .int a1, .int a2, .int w1, .int w2]))] [.ref h, .int what] (.int (sX6_partOf tick mode lock force switches stops resets x v what)) := by
  refine xR.of (cc := cX6_partOf) (maxL := 2) (ret := (some .int)) (by decide) rfl (Nat.le_of_ble_eq_true rfl) ?_
  intro p e s m args below meth c ls hM hE hP hD hl
  obtain ⟨hx, hb, hr, hml, hts, hown, hlk, hnm⟩ := hM
  have g_1 : (Cond.fieldLink RX6 39 "RailPendulum$Situation" "tick" "I").before args s = true := hts (Cond.fieldLink RX6 39 "RailPendulum$Situation" "tick" "I") (by decide +kernel)
  have g_2 : ∀ w ∈ wsX60, w ∈ wsX6_partOf := by decide +kernel
  have g_3 : (Cond.fieldLink RX6 43 "RailPendulum$Situation" "mode" "I").before args s = true := hts (Cond.fieldLink RX6 43 "RailPendulum$Situation" "mode" "I") (by decide +kernel)
  have g_4 : (Cond.fieldLink RX6 12 "RailPendulum$Situation" "motion" "LRailPendulum$Motion;").before args s = true := hts (Cond.fieldLink RX6 12 "RailPendulum$Situation" "motion" "LRailPendulum$Motion;") (by decide +kernel)
  have g_5 : (Cond.fieldLinkNest RX6 64 "RailPendulum$Motion" "x" "I" "RailPendulum").before args s = true := va_Nw.use rfl (hE.2 (Cond.fieldLinkNest RX6 64 "RailPendulum$Motion" "x" "I" "RailPendulum") (by decide +kernel))
  have g_6 : ∀ w ∈ wsX10, w ∈ wsX6_partOf := by decide +kernel
  have g_7 : (Cond.fieldLinkNest RX6 67 "RailPendulum$Motion" "v" "I" "RailPendulum").before args s = true := va_Nw.use rfl (hE.2 (Cond.fieldLinkNest RX6 67 "RailPendulum$Motion" "v" "I" "RailPendulum") (by decide +kernel))
  have g_8 : (Cond.fieldLink RX6 46 "RailPendulum$Situation" "lock" "I").before args s = true := hts (Cond.fieldLink RX6 46 "RailPendulum$Situation" "lock" "I") (by decide +kernel)
  have g_9 : (Cond.fieldLink RX6 49 "RailPendulum$Situation" "force" "I").before args s = true := hts (Cond.fieldLink RX6 49 "RailPendulum$Situation" "force" "I") (by decide +kernel)
  have g_10 : (Cond.fieldLink RX6 52 "RailPendulum$Situation" "switches" "I").before args s = true := hts (Cond.fieldLink RX6 52 "RailPendulum$Situation" "switches" "I") (by decide +kernel)
  have g_11 : (Cond.fieldLink RX6 55 "RailPendulum$Situation" "stops" "I").before args s = true := hts (Cond.fieldLink RX6 55 "RailPendulum$Situation" "stops" "I") (by decide +kernel)
  have g_12 : (Cond.fieldLink RX6 58 "RailPendulum$Situation" "resets" "I").before args s = true := hts (Cond.fieldLink RX6 58 "RailPendulum$Situation" "resets" "I") (by decide +kernel)
  have hl : lv_has ls 2 [(0, .ref h), (1, .int what)] := hl
  refine lv_iload_n hx hb dX6_partOf_0 rfl (lv_at hl 1 rfl) ?_
  by_cases c_1 : what = 0
  · refine lv_tableIn (tgt := 48) (off := 47) hx hb dX6_partOf_1 (by rw [c_1]; decide) (by rw [c_1]; decide) (by rw [c_1]; rfl) (by decide) ?_
    refine lv_aload_n hx hb dX6_partOf_48 rfl (lv_at hl 0 rfl) ?_
    refine va_get (D := E.1) (ci := 6) (v := .int tick) (C := RX6) (T := TX6) (N := 11) hx hb hts g_2 hown hE.1 hP 0 rfl rfl 3 (by decide) g_1 (fun _ h9 => h9) rfl dX6_partOf_49 ?_
    exact x_ir (by unfold sX6_partOf; rw [if_pos c_1]; try rfl) hx hb hr hlk dX6_partOf_52
  · by_cases c_2 : what = 1
    · refine lv_tableIn (tgt := 53) (off := 52) hx hb dX6_partOf_1 (by rw [c_2]; decide) (by rw [c_2]; decide) (by rw [c_2]; rfl) (by decide) ?_
      refine lv_aload_n hx hb dX6_partOf_53 rfl (lv_at hl 0 rfl) ?_
      refine va_get (D := E.1) (ci := 6) (v := .int mode) (C := RX6) (T := TX6) (N := 11) hx hb hts g_2 hown hE.1 hP 0 rfl rfl 4 (by decide) g_3 (fun _ h9 => h9) rfl dX6_partOf_54 ?_
      exact x_ir (by unfold sX6_partOf; rw [if_neg c_1]; rw [if_pos c_2]; try rfl) hx hb hr hlk dX6_partOf_57
    · by_cases c_3 : what = 2
      · refine lv_tableIn (tgt := 58) (off := 57) hx hb dX6_partOf_1 (by rw [c_3]; decide) (by rw [c_3]; decide) (by rw [c_3]; rfl) (by decide) ?_
        refine lv_aload_n hx hb dX6_partOf_58 rfl (lv_at hl 0 rfl) ?_
        refine va_get (D := E.1) (ci := 6) (v := .ref mo) (C := RX6) (T := TX6) (N := 11) hx hb hts g_2 hown hE.1 hP 0 rfl rfl 0 (by decide) g_4 (fun _ h9 => h9) rfl dX6_partOf_59 ?_
        refine va_getN (D := E.1) (ci := 1) (v := .int x) (C := RX1) (T := TX1) (N := 6) hx hb hts g_6 hown hE.1 hP 1 rfl rfl 0 (by decide) g_5 (fun _ h9 => h9) rfl dX6_partOf_62 ?_
        exact x_ir (by unfold sX6_partOf; rw [if_neg c_1]; rw [if_neg c_2]; rw [if_pos c_3]; try rfl) hx hb hr hlk dX6_partOf_65
      · by_cases c_4 : what = 3
        · refine lv_tableIn (tgt := 66) (off := 65) hx hb dX6_partOf_1 (by rw [c_4]; decide) (by rw [c_4]; decide) (by rw [c_4]; rfl) (by decide) ?_
          refine lv_aload_n hx hb dX6_partOf_66 rfl (lv_at hl 0 rfl) ?_
          refine va_get (D := E.1) (ci := 6) (v := .ref mo) (C := RX6) (T := TX6) (N := 11) hx hb hts g_2 hown hE.1 hP 0 rfl rfl 0 (by decide) g_4 (fun _ h9 => h9) rfl dX6_partOf_67 ?_
          refine va_getN (D := E.1) (ci := 1) (v := .int v) (C := RX1) (T := TX1) (N := 6) hx hb hts g_6 hown hE.1 hP 1 rfl rfl 1 (by decide) g_7 (fun _ h9 => h9) rfl dX6_partOf_70 ?_
          exact x_ir (by unfold sX6_partOf; rw [if_neg c_1]; rw [if_neg c_2]; rw [if_neg c_3]; rw [if_pos c_4]; try rfl) hx hb hr hlk dX6_partOf_73
        · by_cases c_5 : what = 4
          · refine lv_tableIn (tgt := 74) (off := 73) hx hb dX6_partOf_1 (by rw [c_5]; decide) (by rw [c_5]; decide) (by rw [c_5]; rfl) (by decide) ?_
            refine lv_aload_n hx hb dX6_partOf_74 rfl (lv_at hl 0 rfl) ?_
            refine va_get (D := E.1) (ci := 6) (v := .int lock) (C := RX6) (T := TX6) (N := 11) hx hb hts g_2 hown hE.1 hP 0 rfl rfl 5 (by decide) g_8 (fun _ h9 => h9) rfl dX6_partOf_75 ?_
            exact x_ir (by unfold sX6_partOf; rw [if_neg c_1]; rw [if_neg c_2]; rw [if_neg c_3]; rw [if_neg c_4]; rw [if_pos c_5]; try rfl) hx hb hr hlk dX6_partOf_78
          · by_cases c_6 : what = 5
            · refine lv_tableIn (tgt := 79) (off := 78) hx hb dX6_partOf_1 (by rw [c_6]; decide) (by rw [c_6]; decide) (by rw [c_6]; rfl) (by decide) ?_
              refine lv_aload_n hx hb dX6_partOf_79 rfl (lv_at hl 0 rfl) ?_
              refine va_get (D := E.1) (ci := 6) (v := .int force) (C := RX6) (T := TX6) (N := 11) hx hb hts g_2 hown hE.1 hP 0 rfl rfl 6 (by decide) g_9 (fun _ h9 => h9) rfl dX6_partOf_80 ?_
              exact x_ir (by unfold sX6_partOf; rw [if_neg c_1]; rw [if_neg c_2]; rw [if_neg c_3]; rw [if_neg c_4]; rw [if_neg c_5]; rw [if_pos c_6]; try rfl) hx hb hr hlk dX6_partOf_83
            · by_cases c_7 : what = 6
              · refine lv_tableIn (tgt := 84) (off := 83) hx hb dX6_partOf_1 (by rw [c_7]; decide) (by rw [c_7]; decide) (by rw [c_7]; rfl) (by decide) ?_
                refine lv_aload_n hx hb dX6_partOf_84 rfl (lv_at hl 0 rfl) ?_
                refine va_get (D := E.1) (ci := 6) (v := .int switches) (C := RX6) (T := TX6) (N := 11) hx hb hts g_2 hown hE.1 hP 0 rfl rfl 7 (by decide) g_10 (fun _ h9 => h9) rfl dX6_partOf_85 ?_
                exact x_ir (by unfold sX6_partOf; rw [if_neg c_1]; rw [if_neg c_2]; rw [if_neg c_3]; rw [if_neg c_4]; rw [if_neg c_5]; rw [if_neg c_6]; rw [if_pos c_7]; try rfl) hx hb hr hlk dX6_partOf_88
              · by_cases c_8 : what = 7
                · refine lv_tableIn (tgt := 89) (off := 88) hx hb dX6_partOf_1 (by rw [c_8]; decide) (by rw [c_8]; decide) (by rw [c_8]; rfl) (by decide) ?_
                  refine lv_aload_n hx hb dX6_partOf_89 rfl (lv_at hl 0 rfl) ?_
                  refine va_get (D := E.1) (ci := 6) (v := .int stops) (C := RX6) (T := TX6) (N := 11) hx hb hts g_2 hown hE.1 hP 0 rfl rfl 8 (by decide) g_11 (fun _ h9 => h9) rfl dX6_partOf_90 ?_
                  exact x_ir (by unfold sX6_partOf; rw [if_neg c_1]; rw [if_neg c_2]; rw [if_neg c_3]; rw [if_neg c_4]; rw [if_neg c_5]; rw [if_neg c_6]; rw [if_neg c_7]; rw [if_pos c_8]; try rfl) hx hb hr hlk dX6_partOf_93
                · refine lv_tableOut (tgt := 94) hx hb dX6_partOf_1 (x_out0_7 c_1 c_2 c_3 c_4 c_5 c_6 c_7 c_8) (by decide) ?_
                  refine lv_aload_n hx hb dX6_partOf_94 rfl (lv_at hl 0 rfl) ?_
                  refine va_get (D := E.1) (ci := 6) (v := .int resets) (C := RX6) (T := TX6) (N := 11) hx hb hts g_2 hown hE.1 hP 0 rfl rfl 9 (by decide) g_12 (fun _ h9 => h9) rfl dX6_partOf_95 ?_
                  exact x_ir (by unfold sX6_partOf; rw [if_neg c_1]; rw [if_neg c_2]; rw [if_neg c_3]; rw [if_neg c_4]; rw [if_neg c_5]; rw [if_neg c_6]; rw [if_neg c_7]; rw [if_neg c_8]; try rfl) hx hb hr hlk dX6_partOf_98
def sX6_takeOver_q_3 (rs : Nat → Int32) (fs : Nat → Int32) (otick : Int32) (omode : Int32) (olock : Int32) (oforce : Int32) (oswitches : Int32) (ostops : Int32) (oresets : Int32) (olatestStop : Int32) (ox : Int32) (ov : Int32) (oa1 : Int32) (oa2 : Int32) (ow1 : Int32) (ow2 : Int32) (ors : Nat → Int32) (ofs : Nat → Int32) (ob1 : Int64) (ob2 : Int64) (ob3 : Int64) (ob4 : Int64) (q_1 : Int32 × Int32 × Int32 × Int32 × Int32 × Int32) (q_2 : (Nat → Int32) × (Nat → Int32)) (q_3 : Int64 × Int64 × Int64 × Int64) : Int32 × Int32 × Int32 × Int32 × Int32 × Int32 × Int32 × Int32 × Int32 × Int32 × Int32 × Int32 × Int32 × Int32 × Int64 × Int64 × Int64 × Int64 × (Nat → Int32) × (Nat → Int32) :=
  (q_1.1, q_1.2.1, q_1.2.2.1, q_1.2.2.2.1, q_1.2.2.2.2.1, q_1.2.2.2.2.2, otick, omode, olock, oforce, oswitches, ostops, oresets, olatestStop, q_3.1, q_3.2.1, q_3.2.2.1, q_3.2.2.2, q_2.1, q_2.2)
def sX6_takeOver_q_2 (rs : Nat → Int32) (fs : Nat → Int32) (otick : Int32) (omode : Int32) (olock : Int32) (oforce : Int32) (oswitches : Int32) (ostops : Int32) (oresets : Int32) (olatestStop : Int32) (ox : Int32) (ov : Int32) (oa1 : Int32) (oa2 : Int32) (ow1 : Int32) (ow2 : Int32) (ors : Nat → Int32) (ofs : Nat → Int32) (ob1 : Int64) (ob2 : Int64) (ob3 : Int64) (ob4 : Int64) (q_1 : Int32 × Int32 × Int32 × Int32 × Int32 × Int32) (q_2 : (Nat → Int32) × (Nat → Int32)) : Int32 × Int32 × Int32 × Int32 × Int32 × Int32 × Int32 × Int32 × Int32 × Int32 × Int32 × Int32 × Int32 × Int32 × Int64 × Int64 × Int64 × Int64 × (Nat → Int32) × (Nat → Int32) :=
  sX6_takeOver_q_3 rs fs otick omode olock oforce oswitches ostops oresets olatestStop ox ov oa1 oa2 ow1 ow2 ors ofs ob1 ob2 ob3 ob4 q_1 q_2 (sX4_copyFrom ob1 ob2 ob3 ob4)
def sX6_takeOver_q_1 (rs : Nat → Int32) (fs : Nat → Int32) (otick : Int32) (omode : Int32) (olock : Int32) (oforce : Int32) (oswitches : Int32) (ostops : Int32) (oresets : Int32) (olatestStop : Int32) (ox : Int32) (ov : Int32) (oa1 : Int32) (oa2 : Int32) (ow1 : Int32) (ow2 : Int32) (ors : Nat → Int32) (ofs : Nat → Int32) (ob1 : Int64) (ob2 : Int64) (ob3 : Int64) (ob4 : Int64) (q_1 : Int32 × Int32 × Int32 × Int32 × Int32 × Int32) : Int32 × Int32 × Int32 × Int32 × Int32 × Int32 × Int32 × Int32 × Int32 × Int32 × Int32 × Int32 × Int32 × Int32 × Int64 × Int64 × Int64 × Int64 × (Nat → Int32) × (Nat → Int32) :=
  sX6_takeOver_q_2 rs fs otick omode olock oforce oswitches ostops oresets olatestStop ox ov oa1 oa2 ow1 ow2 ors ofs ob1 ob2 ob3 ob4 q_1 (sX5_copyFrom rs fs ors ofs)
def sX6_takeOver (rs : Nat → Int32) (fs : Nat → Int32) (otick : Int32) (omode : Int32) (olock : Int32) (oforce : Int32) (oswitches : Int32) (ostops : Int32) (oresets : Int32) (olatestStop : Int32) (ox : Int32) (ov : Int32) (oa1 : Int32) (oa2 : Int32) (ow1 : Int32) (ow2 : Int32) (ors : Nat → Int32) (ofs : Nat → Int32) (ob1 : Int64) (ob2 : Int64) (ob3 : Int64) (ob4 : Int64) : Int32 × Int32 × Int32 × Int32 × Int32 × Int32 × Int32 × Int32 × Int32 × Int32 × Int32 × Int32 × Int32 × Int32 × Int64 × Int64 × Int64 × Int64 × (Nat → Int32) × (Nat → Int32) :=
  sX6_takeOver_q_1 rs fs otick omode olock oforce oswitches ostops oresets olatestStop ox ov oa1 oa2 ow1 ow2 ors ofs ob1 ob2 ob3 ob4 (sX1_copyFrom ox ov oa1 oa2 ow1 ow2)
theorem hdX6_takeOver : yX6_takeOver.cls = RX6 ∧ yX6_takeOver.cls ≠ "java/lang/invoke/MethodHandle" ∧ yX6_takeOver.cls ≠ "java/lang/invoke/VarHandle" ∧ (parseMethodDescriptor yX6_takeOver.desc).map (fun d => d.parameters.length) = some 1 := by decide +kernel
set_option maxHeartbeats 4000000 in
set_option maxRecDepth 100000 in
theorem kX6_takeOver (l : Launch) (E : XE) (h : Nat) (mo : Nat) (re : Nat) (rc : Nat) (tick : Int32) (mode : Int32) (lock : Int32) (force : Int32) (switches : Int32) (stops : Int32) (resets : Int32) (latestStop : Int32) (x : Int32) (v : Int32) (a1 : Int32) (a2 : Int32) (w1 : Int32) (w2 : Int32) (ar : Nat) (af : Nat) (rs : Nat → Int32) (fs : Nat → Int32) (b1 : Int64) (b2 : Int64) (b3 : Int64) (b4 : Int64) (other : Nat) (omo : Nat) (ore : Nat) (orc : Nat) (otick : Int32) (omode : Int32) (olock : Int32) (oforce : Int32) (oswitches : Int32) (ostops : Int32) (oresets : Int32) (olatestStop : Int32) (ox : Int32) (ov : Int32) (oa1 : Int32) (oa2 : Int32) (ow1 : Int32) (ow2 : Int32) (oar : Nat) (oaf : Nat) (ors : Nat → Int32) (ofs : Nat → Int32) (ob1 : Int64) (ob2 : Int64) (ob3 : Int64) (ob4 : Int64) : xW (T := Int32 × Int32 × Int32 × Int32 × Int32 × Int32 × Int32 × Int32 × Int32 × Int32 × Int32 × Int32 × Int32 × Int32 × Int64 × Int64 × Int64 × Int64 × (Nat → Int32) × (Nat → Int32)) l yX6_takeOver wsX6_takeOver ({ frames := 3, cells := 0, slots := 0, locals := 82 }) E [(h, .inr (6, [.ref mo, .ref re, .ref rc, .int tick, .int mode, .int lock, .int force, .int switches, .int stops, .int resets, .int latestStop])), (mo, .inr (1, [.int x, .int v, .int a1, .int a2, .int w1, .int w2])), (re, .inr (5, [.ref ar, .ref af])), (ar, .inl (E.2.1, 49, .inl rs)), (af, .inl (E.2.1, 49, .inl fs)), (rc, .inr (4, [.long b1, .long b2, .long b3, .long b4])), (other, .inr (6, [.ref omo, .ref ore, .ref orc, .int otick, .int omode, .int olock, .int oforce, .int oswitches, .int ostops, .int oresets, .int olatestStop])), (omo, .inr (1, [.int ox, .int ov, .int oa1, .int oa2, .int ow1, .int ow2])), (ore, .inr (5, [.ref oar, .ref oaf])), (oar, .inl (E.2.1, 49, .inl ors)), (oaf, .inl (E.2.1, 49, .inl ofs)), (orc, .inr (4, [.long ob1, .long ob2, .long ob3, .long ob4]))] [.ref h, .ref other] (fun _ => none) (fun q => [(h, .inr (6, [.ref mo, .ref re, .ref rc, .int q.2.2.2.2.2.2.1, .int q.2.2.2.2.2.2.2.1, .int q.2.2.2.2.2.2.2.2.1, .int q.2.2.2.2.2.2.2.2.2.1, .int q.2.2.2.2.2.2.2.2.2.2.1, .int q.2.2.2.2.2.2.2.2.2.2.2.1, .int q.2.2.2.2.2.2.2.2.2.2.2.2.1, .int q.2.2.2.2.2.2.2.2.2.2.2.2.2.1])), (mo, .inr (1, [.int q.1, .int q.2.1, .int q.2.2.1, .int q.2.2.2.1, .int q.2.2.2.2.1, .int q.2.2.2.2.2.1])), (re, .inr (5, [.ref ar, .ref af])), (ar, .inl (E.2.1, 49, .inl q.2.2.2.2.2.2.2.2.2.2.2.2.2.2.2.2.2.2.1)), (af, .inl (E.2.1, 49, .inl q.2.2.2.2.2.2.2.2.2.2.2.2.2.2.2.2.2.2.2)), (rc, .inr (4, [.long q.2.2.2.2.2.2.2.2.2.2.2.2.2.2.1, .long q.2.2.2.2.2.2.2.2.2.2.2.2.2.2.2.1, .long q.2.2.2.2.2.2.2.2.2.2.2.2.2.2.2.2.1, .long q.2.2.2.2.2.2.2.2.2.2.2.2.2.2.2.2.2.1])), (other, .inr (6, [.ref omo, .ref ore, .ref orc, .int otick, .int omode, .int olock, .int oforce, .int oswitches, .int ostops, .int oresets, .int olatestStop])), (omo, .inr (1, [.int ox, .int ov, .int oa1, .int oa2, .int ow1, .int ow2])), (ore, .inr (5, [.ref oar, .ref oaf])), (oar, .inl (E.2.1, 49, .inl ors)), (oaf, .inl (E.2.1, 49, .inl ofs)), (orc, .inr (4, [.long ob1, .long ob2, .long ob3, .long ob4]))]) (sX6_takeOver rs fs otick omode olock oforce oswitches ostops oresets olatestStop ox ov oa1 oa2 ow1 ow2 ors ofs ob1 ob2 ob3 ob4) 0 0 := by
  refine xW.of (cc := cX6_takeOver) (maxL := 2) (ret := none) (by decide) rfl (Nat.le_of_ble_eq_true rfl) ?_
  intro p e s m args below meth c ls A hM hE hP hD hS hA hl
  obtain ⟨hx, hb, hr, hml, hts, hown, hlk, hnm⟩ := hM
  have g_1 : (Cond.fieldLink RX6 12 "RailPendulum$Situation" "motion" "LRailPendulum$Motion;").before args s = true := hts (Cond.fieldLink RX6 12 "RailPendulum$Situation" "motion" "LRailPendulum$Motion;") (by decide +kernel)
  have g_2 : ∀ w ∈ wsX60, w ∈ wsX6_takeOver := by decide +kernel
  have g_3 : (Cond.fieldLink RX6 21 "RailPendulum$Situation" "region" "LRailPendulum$Region;").before args s = true := hts (Cond.fieldLink RX6 21 "RailPendulum$Situation" "region" "LRailPendulum$Region;") (by decide +kernel)
  have g_4 : (Cond.fieldLink RX6 28 "RailPendulum$Situation" "recent" "LRailPendulum$RecentSwitches;").before args s = true := hts (Cond.fieldLink RX6 28 "RailPendulum$Situation" "recent" "LRailPendulum$RecentSwitches;") (by decide +kernel)
  have g_5 : (Cond.fieldLink RX6 39 "RailPendulum$Situation" "tick" "I").before args s = true := hts (Cond.fieldLink RX6 39 "RailPendulum$Situation" "tick" "I") (by decide +kernel)
  have g_6 : (Cond.fieldLink RX6 43 "RailPendulum$Situation" "mode" "I").before args s = true := hts (Cond.fieldLink RX6 43 "RailPendulum$Situation" "mode" "I") (by decide +kernel)
  have g_7 : (Cond.fieldLink RX6 46 "RailPendulum$Situation" "lock" "I").before args s = true := hts (Cond.fieldLink RX6 46 "RailPendulum$Situation" "lock" "I") (by decide +kernel)
  have g_8 : (Cond.fieldLink RX6 49 "RailPendulum$Situation" "force" "I").before args s = true := hts (Cond.fieldLink RX6 49 "RailPendulum$Situation" "force" "I") (by decide +kernel)
  have g_9 : (Cond.fieldLink RX6 52 "RailPendulum$Situation" "switches" "I").before args s = true := hts (Cond.fieldLink RX6 52 "RailPendulum$Situation" "switches" "I") (by decide +kernel)
  have g_10 : (Cond.fieldLink RX6 55 "RailPendulum$Situation" "stops" "I").before args s = true := hts (Cond.fieldLink RX6 55 "RailPendulum$Situation" "stops" "I") (by decide +kernel)
  have g_11 : (Cond.fieldLink RX6 58 "RailPendulum$Situation" "resets" "I").before args s = true := hts (Cond.fieldLink RX6 58 "RailPendulum$Situation" "resets" "I") (by decide +kernel)
  have g_12 : (Cond.fieldLink RX6 61 "RailPendulum$Situation" "latestStop" "I").before args s = true := hts (Cond.fieldLink RX6 61 "RailPendulum$Situation" "latestStop" "I") (by decide +kernel)
  have hX : xD A [h, mo, re, ar, af, rc, other, omo, ore, oar, oaf, orc] := xD.of hD rfl
  have hl : lv_has ls 2 [(0, .ref h), (1, .ref other)] := hl
  refine lv_aload_n hx hb dX6_takeOver_0 rfl (lv_at hl 0 rfl) ?_
  refine va_get (D := E.1) (ci := 6) (v := .ref mo) (C := RX6) (T := TX6) (N := 11) hx hb hts g_2 hown hE.1 hP 0 rfl rfl 0 (by decide) g_1 (fun _ h9 => h9) rfl dX6_takeOver_1 ?_
  refine lv_aload_n hx hb dX6_takeOver_4 rfl (lv_at hl 1 rfl) ?_
  refine va_get (D := E.1) (ci := 6) (v := .ref omo) (C := RX6) (T := TX6) (N := 11) hx hb hts g_2 hown hE.1 hP 6 rfl rfl 0 (by decide) g_1 (fun _ h9 => h9) rfl dX6_takeOver_5 ?_
  refine x_wV (wr := [(h, .inr (6, [.ref mo, .ref re, .ref rc, .int tick, .int mode, .int lock, .int force, .int switches, .int stops, .int resets, .int latestStop])), (re, .inr (5, [.ref ar, .ref af])), (ar, .inl (E.2.1, 49, .inl rs)), (af, .inl (E.2.1, 49, .inl fs)), (rc, .inr (4, [.long b1, .long b2, .long b3, .long b4])), (other, .inr (6, [.ref omo, .ref ore, .ref orc, .int otick, .int omode, .int olock, .int oforce, .int oswitches, .int ostops, .int oresets, .int olatestStop])), (ore, .inr (5, [.ref oar, .ref oaf])), (oar, .inl (E.2.1, 49, .inl ors)), (oaf, .inl (E.2.1, 49, .inl ofs)), (orc, .inr (4, [.long ob1, .long ob2, .long ob3, .long ob4]))]) [.ref omo] (kX1_copyFrom l E mo x v a1 a2 w1 w2 omo ox ov oa1 oa2 ow1 ow2) ⟨hx, hb, hml, hown, hts⟩ (cwV 1 hts gX6_takeOver_X1_copyFrom rfl rfl rfl hdX1_copyFrom ⟨Nat.le_of_ble_eq_true rfl, Nat.le_of_ble_eq_true rfl⟩) hE hP (hX.d rfl) hS hA [1, 7] [0, 2, 3, 4, 5, 6, 8, 9, 10, 11] rfl rfl rfl rfl (by decide) (ci := 1) (q0 := 1) rfl rfl rfl hl.1 rfl rfl (Nat.le_of_ble_eq_true rfl) dX6_takeOver_8 (Nat.le_of_ble_eq_true rfl) (Nat.le_of_ble_eq_true rfl) (fun q_1 H locs hq_1 hP hD hS => ?_)
  have hP : va_P E.1 vwCl [(h, .inr (6, [.ref mo, .ref re, .ref rc, .int tick, .int mode, .int lock, .int force, .int switches, .int stops, .int resets, .int latestStop])), (re, .inr (5, [.ref ar, .ref af])), (ar, .inl (E.2.1, 49, .inl rs)), (af, .inl (E.2.1, 49, .inl fs)), (rc, .inr (4, [.long b1, .long b2, .long b3, .long b4])), (other, .inr (6, [.ref omo, .ref ore, .ref orc, .int otick, .int omode, .int olock, .int oforce, .int oswitches, .int ostops, .int oresets, .int olatestStop])), (ore, .inr (5, [.ref oar, .ref oaf])), (oar, .inl (E.2.1, 49, .inl ors)), (oaf, .inl (E.2.1, 49, .inl ofs)), (orc, .inr (4, [.long ob1, .long ob2, .long ob3, .long ob4])), (mo, .inr (1, [.int q_1.1, .int q_1.2.1, .int q_1.2.2.1, .int q_1.2.2.2.1, .int q_1.2.2.2.2.1, .int q_1.2.2.2.2.2])), (omo, .inr (1, [.int ox, .int ov, .int oa1, .int oa2, .int ow1, .int ow2]))] H := hP
  have hX : xD A [h, re, ar, af, rc, other, ore, oar, oaf, orc, mo, omo] := xD.of hD rfl
  refine W.eq (g2 := F0 m 11 ls []) rfl ?_
  refine lv_aload_n hx hb dX6_takeOver_11 rfl (lv_at hl 0 rfl) ?_
  refine va_get (D := E.1) (ci := 6) (v := .ref re) (C := RX6) (T := TX6) (N := 11) hx hb hts g_2 hown hE.1 hP 0 rfl rfl 1 (by decide) g_3 (fun _ h9 => h9) rfl dX6_takeOver_12 ?_
  refine lv_aload_n hx hb dX6_takeOver_15 rfl (lv_at hl 1 rfl) ?_
  refine va_get (D := E.1) (ci := 6) (v := .ref ore) (C := RX6) (T := TX6) (N := 11) hx hb hts g_2 hown hE.1 hP 5 rfl rfl 1 (by decide) g_3 (fun _ h9 => h9) rfl dX6_takeOver_16 ?_
  refine x_wV (wr := [(h, .inr (6, [.ref mo, .ref re, .ref rc, .int tick, .int mode, .int lock, .int force, .int switches, .int stops, .int resets, .int latestStop])), (rc, .inr (4, [.long b1, .long b2, .long b3, .long b4])), (other, .inr (6, [.ref omo, .ref ore, .ref orc, .int otick, .int omode, .int olock, .int oforce, .int oswitches, .int ostops, .int oresets, .int olatestStop])), (orc, .inr (4, [.long ob1, .long ob2, .long ob3, .long ob4])), (mo, .inr (1, [.int q_1.1, .int q_1.2.1, .int q_1.2.2.1, .int q_1.2.2.2.1, .int q_1.2.2.2.2.1, .int q_1.2.2.2.2.2])), (omo, .inr (1, [.int ox, .int ov, .int oa1, .int oa2, .int ow1, .int ow2]))]) [.ref ore] (kX5_copyFrom l E re ar af rs fs ore oar oaf ors ofs) ⟨hx, hb, hml, hown, hts⟩ (cwV 1 hts gX6_takeOver_X5_copyFrom rfl rfl rfl hdX5_copyFrom ⟨Nat.le_of_ble_eq_true rfl, Nat.le_of_ble_eq_true rfl⟩) hE hP (hX.d rfl) hS hA [1, 2, 3, 6, 7, 8] [0, 4, 5, 9, 10, 11] rfl rfl rfl rfl (by decide) (ci := 5) (q0 := 1) rfl rfl rfl hl.1 rfl rfl (Nat.le_of_ble_eq_true rfl) dX6_takeOver_19 (Nat.le_of_ble_eq_true rfl) (Nat.le_of_ble_eq_true rfl) (fun q_2 H locs hq_2 hP hD hS => ?_)
  have hP : va_P E.1 vwCl [(h, .inr (6, [.ref mo, .ref re, .ref rc, .int tick, .int mode, .int lock, .int force, .int switches, .int stops, .int resets, .int latestStop])), (rc, .inr (4, [.long b1, .long b2, .long b3, .long b4])), (other, .inr (6, [.ref omo, .ref ore, .ref orc, .int otick, .int omode, .int olock, .int oforce, .int oswitches, .int ostops, .int oresets, .int olatestStop])), (orc, .inr (4, [.long ob1, .long ob2, .long ob3, .long ob4])), (mo, .inr (1, [.int q_1.1, .int q_1.2.1, .int q_1.2.2.1, .int q_1.2.2.2.1, .int q_1.2.2.2.2.1, .int q_1.2.2.2.2.2])), (omo, .inr (1, [.int ox, .int ov, .int oa1, .int oa2, .int ow1, .int ow2])), (re, .inr (5, [.ref ar, .ref af])), (ar, .inl (E.2.1, 49, .inl q_2.1)), (af, .inl (E.2.1, 49, .inl q_2.2)), (ore, .inr (5, [.ref oar, .ref oaf])), (oar, .inl (E.2.1, 49, .inl ors)), (oaf, .inl (E.2.1, 49, .inl ofs))] H := hP
  have hX : xD A [h, rc, other, orc, mo, omo, re, ar, af, ore, oar, oaf] := xD.of hD rfl
  refine W.eq (g2 := F0 m 22 ls []) rfl ?_
  refine lv_aload_n hx hb dX6_takeOver_22 rfl (lv_at hl 0 rfl) ?_
  refine va_get (D := E.1) (ci := 6) (v := .ref rc) (C := RX6) (T := TX6) (N := 11) hx hb hts g_2 hown hE.1 hP 0 rfl rfl 2 (by decide) g_4 (fun _ h9 => h9) rfl dX6_takeOver_23 ?_
  refine lv_aload_n hx hb dX6_takeOver_26 rfl (lv_at hl 1 rfl) ?_
  refine va_get (D := E.1) (ci := 6) (v := .ref orc) (C := RX6) (T := TX6) (N := 11) hx hb hts g_2 hown hE.1 hP 2 rfl rfl 2 (by decide) g_4 (fun _ h9 => h9) rfl dX6_takeOver_27 ?_
  refine x_wV (wr := [(h, .inr (6, [.ref mo, .ref re, .ref rc, .int tick, .int mode, .int lock, .int force, .int switches, .int stops, .int resets, .int latestStop])), (other, .inr (6, [.ref omo, .ref ore, .ref orc, .int otick, .int omode, .int olock, .int oforce, .int oswitches, .int ostops, .int oresets, .int olatestStop])), (mo, .inr (1, [.int q_1.1, .int q_1.2.1, .int q_1.2.2.1, .int q_1.2.2.2.1, .int q_1.2.2.2.2.1, .int q_1.2.2.2.2.2])), (omo, .inr (1, [.int ox, .int ov, .int oa1, .int oa2, .int ow1, .int ow2])), (re, .inr (5, [.ref ar, .ref af])), (ar, .inl (E.2.1, 49, .inl q_2.1)), (af, .inl (E.2.1, 49, .inl q_2.2)), (ore, .inr (5, [.ref oar, .ref oaf])), (oar, .inl (E.2.1, 49, .inl ors)), (oaf, .inl (E.2.1, 49, .inl ofs))]) [.ref orc] (kX4_copyFrom l E rc b1 b2 b3 b4 orc ob1 ob2 ob3 ob4) ⟨hx, hb, hml, hown, hts⟩ (cwV 1 hts gX6_takeOver_X4_copyFrom rfl rfl rfl hdX4_copyFrom ⟨Nat.le_of_ble_eq_true rfl, Nat.le_of_ble_eq_true rfl⟩) hE hP (hX.d rfl) hS hA [1, 3] [0, 2, 4, 5, 6, 7, 8, 9, 10, 11] rfl rfl rfl rfl (by decide) (ci := 4) (q0 := 1) rfl rfl rfl hl.1 rfl rfl (Nat.le_of_ble_eq_true rfl) dX6_takeOver_30 (Nat.le_of_ble_eq_true rfl) (Nat.le_of_ble_eq_true rfl) (fun q_3 H locs hq_3 hP hD hS => ?_)
  have hP : va_P E.1 vwCl [(h, .inr (6, [.ref mo, .ref re, .ref rc, .int tick, .int mode, .int lock, .int force, .int switches, .int stops, .int resets, .int latestStop])), (other, .inr (6, [.ref omo, .ref ore, .ref orc, .int otick, .int omode, .int olock, .int oforce, .int oswitches, .int ostops, .int oresets, .int olatestStop])), (mo, .inr (1, [.int q_1.1, .int q_1.2.1, .int q_1.2.2.1, .int q_1.2.2.2.1, .int q_1.2.2.2.2.1, .int q_1.2.2.2.2.2])), (omo, .inr (1, [.int ox, .int ov, .int oa1, .int oa2, .int ow1, .int ow2])), (re, .inr (5, [.ref ar, .ref af])), (ar, .inl (E.2.1, 49, .inl q_2.1)), (af, .inl (E.2.1, 49, .inl q_2.2)), (ore, .inr (5, [.ref oar, .ref oaf])), (oar, .inl (E.2.1, 49, .inl ors)), (oaf, .inl (E.2.1, 49, .inl ofs)), (rc, .inr (4, [.long q_3.1, .long q_3.2.1, .long q_3.2.2.1, .long q_3.2.2.2])), (orc, .inr (4, [.long ob1, .long ob2, .long ob3, .long ob4]))] H := hP
  have hX : xD A [h, other, mo, omo, re, ar, af, ore, oar, oaf, rc, orc] := xD.of hD rfl
  refine W.eq (g2 := F0 m 33 ls []) rfl ?_
  refine lv_aload_n hx hb dX6_takeOver_33 rfl (lv_at hl 0 rfl) ?_
  refine lv_aload_n hx hb dX6_takeOver_34 rfl (lv_at hl 1 rfl) ?_
  refine va_get (D := E.1) (ci := 6) (v := .int otick) (C := RX6) (T := TX6) (N := 11) hx hb hts g_2 hown hE.1 hP 1 rfl rfl 3 (by decide) g_5 (fun _ h9 => h9) rfl dX6_takeOver_35 ?_
  refine va_put (D := E.1) (ci := 6) (v := .int otick) (ty := .int) (C := RX6) (T := TX6) (N := 11) hx hb hts g_2 tyX6 tyX6_ok nmX6 hown hE.1 hP (hX.d rfl) hS 0 rfl rfl 3 (by decide) g_5 (fun _ h9 => h9) rfl (by decide +kernel) rfl rfl (Nat.le_of_ble_eq_true rfl) dX6_takeOver_38 (fun H locs hP _ hS => ?_)
  have hP : va_P E.1 vwCl [(h, .inr (6, [.ref mo, .ref re, .ref rc, .int otick, .int mode, .int lock, .int force, .int switches, .int stops, .int resets, .int latestStop])), (other, .inr (6, [.ref omo, .ref ore, .ref orc, .int otick, .int omode, .int olock, .int oforce, .int oswitches, .int ostops, .int oresets, .int olatestStop])), (mo, .inr (1, [.int q_1.1, .int q_1.2.1, .int q_1.2.2.1, .int q_1.2.2.2.1, .int q_1.2.2.2.2.1, .int q_1.2.2.2.2.2])), (omo, .inr (1, [.int ox, .int ov, .int oa1, .int oa2, .int ow1, .int ow2])), (re, .inr (5, [.ref ar, .ref af])), (ar, .inl (E.2.1, 49, .inl q_2.1)), (af, .inl (E.2.1, 49, .inl q_2.2)), (ore, .inr (5, [.ref oar, .ref oaf])), (oar, .inl (E.2.1, 49, .inl ors)), (oaf, .inl (E.2.1, 49, .inl ofs)), (rc, .inr (4, [.long q_3.1, .long q_3.2.1, .long q_3.2.2.1, .long q_3.2.2.2])), (orc, .inr (4, [.long ob1, .long ob2, .long ob3, .long ob4]))] H := hP
  refine lv_aload_n hx hb dX6_takeOver_41 rfl (lv_at hl 0 rfl) ?_
  refine lv_aload_n hx hb dX6_takeOver_42 rfl (lv_at hl 1 rfl) ?_
  refine va_get (D := E.1) (ci := 6) (v := .int omode) (C := RX6) (T := TX6) (N := 11) hx hb hts g_2 hown hE.1 hP 1 rfl rfl 4 (by decide) g_6 (fun _ h9 => h9) rfl dX6_takeOver_43 ?_
  refine va_put (D := E.1) (ci := 6) (v := .int omode) (ty := .int) (C := RX6) (T := TX6) (N := 11) hx hb hts g_2 tyX6 tyX6_ok nmX6 hown hE.1 hP (hX.d rfl) hS 0 rfl rfl 4 (by decide) g_6 (fun _ h9 => h9) rfl (by decide +kernel) rfl rfl (Nat.le_of_ble_eq_true rfl) dX6_takeOver_46 (fun H locs hP _ hS => ?_)
  have hP : va_P E.1 vwCl [(h, .inr (6, [.ref mo, .ref re, .ref rc, .int otick, .int omode, .int lock, .int force, .int switches, .int stops, .int resets, .int latestStop])), (other, .inr (6, [.ref omo, .ref ore, .ref orc, .int otick, .int omode, .int olock, .int oforce, .int oswitches, .int ostops, .int oresets, .int olatestStop])), (mo, .inr (1, [.int q_1.1, .int q_1.2.1, .int q_1.2.2.1, .int q_1.2.2.2.1, .int q_1.2.2.2.2.1, .int q_1.2.2.2.2.2])), (omo, .inr (1, [.int ox, .int ov, .int oa1, .int oa2, .int ow1, .int ow2])), (re, .inr (5, [.ref ar, .ref af])), (ar, .inl (E.2.1, 49, .inl q_2.1)), (af, .inl (E.2.1, 49, .inl q_2.2)), (ore, .inr (5, [.ref oar, .ref oaf])), (oar, .inl (E.2.1, 49, .inl ors)), (oaf, .inl (E.2.1, 49, .inl ofs)), (rc, .inr (4, [.long q_3.1, .long q_3.2.1, .long q_3.2.2.1, .long q_3.2.2.2])), (orc, .inr (4, [.long ob1, .long ob2, .long ob3, .long ob4]))] H := hP
  refine lv_aload_n hx hb dX6_takeOver_49 rfl (lv_at hl 0 rfl) ?_
  refine lv_aload_n hx hb dX6_takeOver_50 rfl (lv_at hl 1 rfl) ?_
  refine va_get (D := E.1) (ci := 6) (v := .int olock) (C := RX6) (T := TX6) (N := 11) hx hb hts g_2 hown hE.1 hP 1 rfl rfl 5 (by decide) g_7 (fun _ h9 => h9) rfl dX6_takeOver_51 ?_
  refine va_put (D := E.1) (ci := 6) (v := .int olock) (ty := .int) (C := RX6) (T := TX6) (N := 11) hx hb hts g_2 tyX6 tyX6_ok nmX6 hown hE.1 hP (hX.d rfl) hS 0 rfl rfl 5 (by decide) g_7 (fun _ h9 => h9) rfl (by decide +kernel) rfl rfl (Nat.le_of_ble_eq_true rfl) dX6_takeOver_54 (fun H locs hP _ hS => ?_)
  have hP : va_P E.1 vwCl [(h, .inr (6, [.ref mo, .ref re, .ref rc, .int otick, .int omode, .int olock, .int force, .int switches, .int stops, .int resets, .int latestStop])), (other, .inr (6, [.ref omo, .ref ore, .ref orc, .int otick, .int omode, .int olock, .int oforce, .int oswitches, .int ostops, .int oresets, .int olatestStop])), (mo, .inr (1, [.int q_1.1, .int q_1.2.1, .int q_1.2.2.1, .int q_1.2.2.2.1, .int q_1.2.2.2.2.1, .int q_1.2.2.2.2.2])), (omo, .inr (1, [.int ox, .int ov, .int oa1, .int oa2, .int ow1, .int ow2])), (re, .inr (5, [.ref ar, .ref af])), (ar, .inl (E.2.1, 49, .inl q_2.1)), (af, .inl (E.2.1, 49, .inl q_2.2)), (ore, .inr (5, [.ref oar, .ref oaf])), (oar, .inl (E.2.1, 49, .inl ors)), (oaf, .inl (E.2.1, 49, .inl ofs)), (rc, .inr (4, [.long q_3.1, .long q_3.2.1, .long q_3.2.2.1, .long q_3.2.2.2])), (orc, .inr (4, [.long ob1, .long ob2, .long ob3, .long ob4]))] H := hP
  refine lv_aload_n hx hb dX6_takeOver_57 rfl (lv_at hl 0 rfl) ?_
  refine lv_aload_n hx hb dX6_takeOver_58 rfl (lv_at hl 1 rfl) ?_
  refine va_get (D := E.1) (ci := 6) (v := .int oforce) (C := RX6) (T := TX6) (N := 11) hx hb hts g_2 hown hE.1 hP 1 rfl rfl 6 (by decide) g_8 (fun _ h9 => h9) rfl dX6_takeOver_59 ?_
  refine va_put (D := E.1) (ci := 6) (v := .int oforce) (ty := .int) (C := RX6) (T := TX6) (N := 11) hx hb hts g_2 tyX6 tyX6_ok nmX6 hown hE.1 hP (hX.d rfl) hS 0 rfl rfl 6 (by decide) g_8 (fun _ h9 => h9) rfl (by decide +kernel) rfl rfl (Nat.le_of_ble_eq_true rfl) dX6_takeOver_62 (fun H locs hP _ hS => ?_)
  have hP : va_P E.1 vwCl [(h, .inr (6, [.ref mo, .ref re, .ref rc, .int otick, .int omode, .int olock, .int oforce, .int switches, .int stops, .int resets, .int latestStop])), (other, .inr (6, [.ref omo, .ref ore, .ref orc, .int otick, .int omode, .int olock, .int oforce, .int oswitches, .int ostops, .int oresets, .int olatestStop])), (mo, .inr (1, [.int q_1.1, .int q_1.2.1, .int q_1.2.2.1, .int q_1.2.2.2.1, .int q_1.2.2.2.2.1, .int q_1.2.2.2.2.2])), (omo, .inr (1, [.int ox, .int ov, .int oa1, .int oa2, .int ow1, .int ow2])), (re, .inr (5, [.ref ar, .ref af])), (ar, .inl (E.2.1, 49, .inl q_2.1)), (af, .inl (E.2.1, 49, .inl q_2.2)), (ore, .inr (5, [.ref oar, .ref oaf])), (oar, .inl (E.2.1, 49, .inl ors)), (oaf, .inl (E.2.1, 49, .inl ofs)), (rc, .inr (4, [.long q_3.1, .long q_3.2.1, .long q_3.2.2.1, .long q_3.2.2.2])), (orc, .inr (4, [.long ob1, .long ob2, .long ob3, .long ob4]))] H := hP
  refine lv_aload_n hx hb dX6_takeOver_65 rfl (lv_at hl 0 rfl) ?_
  refine lv_aload_n hx hb dX6_takeOver_66 rfl (lv_at hl 1 rfl) ?_
  refine va_get (D := E.1) (ci := 6) (v := .int oswitches) (C := RX6) (T := TX6) (N := 11) hx hb hts g_2 hown hE.1 hP 1 rfl rfl 7 (by decide) g_9 (fun _ h9 => h9) rfl dX6_takeOver_67 ?_
  refine va_put (D := E.1) (ci := 6) (v := .int oswitches) (ty := .int) (C := RX6) (T := TX6) (N := 11) hx hb hts g_2 tyX6 tyX6_ok nmX6 hown hE.1 hP (hX.d rfl) hS 0 rfl rfl 7 (by decide) g_9 (fun _ h9 => h9) rfl (by decide +kernel) rfl rfl (Nat.le_of_ble_eq_true rfl) dX6_takeOver_70 (fun H locs hP _ hS => ?_)
  have hP : va_P E.1 vwCl [(h, .inr (6, [.ref mo, .ref re, .ref rc, .int otick, .int omode, .int olock, .int oforce, .int oswitches, .int stops, .int resets, .int latestStop])), (other, .inr (6, [.ref omo, .ref ore, .ref orc, .int otick, .int omode, .int olock, .int oforce, .int oswitches, .int ostops, .int oresets, .int olatestStop])), (mo, .inr (1, [.int q_1.1, .int q_1.2.1, .int q_1.2.2.1, .int q_1.2.2.2.1, .int q_1.2.2.2.2.1, .int q_1.2.2.2.2.2])), (omo, .inr (1, [.int ox, .int ov, .int oa1, .int oa2, .int ow1, .int ow2])), (re, .inr (5, [.ref ar, .ref af])), (ar, .inl (E.2.1, 49, .inl q_2.1)), (af, .inl (E.2.1, 49, .inl q_2.2)), (ore, .inr (5, [.ref oar, .ref oaf])), (oar, .inl (E.2.1, 49, .inl ors)), (oaf, .inl (E.2.1, 49, .inl ofs)), (rc, .inr (4, [.long q_3.1, .long q_3.2.1, .long q_3.2.2.1, .long q_3.2.2.2])), (orc, .inr (4, [.long ob1, .long ob2, .long ob3, .long ob4]))] H := hP
  refine lv_aload_n hx hb dX6_takeOver_73 rfl (lv_at hl 0 rfl) ?_
  refine lv_aload_n hx hb dX6_takeOver_74 rfl (lv_at hl 1 rfl) ?_
  refine va_get (D := E.1) (ci := 6) (v := .int ostops) (C := RX6) (T := TX6) (N := 11) hx hb hts g_2 hown hE.1 hP 1 rfl rfl 8 (by decide) g_10 (fun _ h9 => h9) rfl dX6_takeOver_75 ?_
  refine va_put (D := E.1) (ci := 6) (v := .int ostops) (ty := .int) (C := RX6) (T := TX6) (N := 11) hx hb hts g_2 tyX6 tyX6_ok nmX6 hown hE.1 hP (hX.d rfl) hS 0 rfl rfl 8 (by decide) g_10 (fun _ h9 => h9) rfl (by decide +kernel) rfl rfl (Nat.le_of_ble_eq_true rfl) dX6_takeOver_78 (fun H locs hP _ hS => ?_)
  have hP : va_P E.1 vwCl [(h, .inr (6, [.ref mo, .ref re, .ref rc, .int otick, .int omode, .int olock, .int oforce, .int oswitches, .int ostops, .int resets, .int latestStop])), (other, .inr (6, [.ref omo, .ref ore, .ref orc, .int otick, .int omode, .int olock, .int oforce, .int oswitches, .int ostops, .int oresets, .int olatestStop])), (mo, .inr (1, [.int q_1.1, .int q_1.2.1, .int q_1.2.2.1, .int q_1.2.2.2.1, .int q_1.2.2.2.2.1, .int q_1.2.2.2.2.2])), (omo, .inr (1, [.int ox, .int ov, .int oa1, .int oa2, .int ow1, .int ow2])), (re, .inr (5, [.ref ar, .ref af])), (ar, .inl (E.2.1, 49, .inl q_2.1)), (af, .inl (E.2.1, 49, .inl q_2.2)), (ore, .inr (5, [.ref oar, .ref oaf])), (oar, .inl (E.2.1, 49, .inl ors)), (oaf, .inl (E.2.1, 49, .inl ofs)), (rc, .inr (4, [.long q_3.1, .long q_3.2.1, .long q_3.2.2.1, .long q_3.2.2.2])), (orc, .inr (4, [.long ob1, .long ob2, .long ob3, .long ob4]))] H := hP
  refine lv_aload_n hx hb dX6_takeOver_81 rfl (lv_at hl 0 rfl) ?_
  refine lv_aload_n hx hb dX6_takeOver_82 rfl (lv_at hl 1 rfl) ?_
  refine va_get (D := E.1) (ci := 6) (v := .int oresets) (C := RX6) (T := TX6) (N := 11) hx hb hts g_2 hown hE.1 hP 1 rfl rfl 9 (by decide) g_11 (fun _ h9 => h9) rfl dX6_takeOver_83 ?_
  refine va_put (D := E.1) (ci := 6) (v := .int oresets) (ty := .int) (C := RX6) (T := TX6) (N := 11) hx hb hts g_2 tyX6 tyX6_ok nmX6 hown hE.1 hP (hX.d rfl) hS 0 rfl rfl 9 (by decide) g_11 (fun _ h9 => h9) rfl (by decide +kernel) rfl rfl (Nat.le_of_ble_eq_true rfl) dX6_takeOver_86 (fun H locs hP _ hS => ?_)
  have hP : va_P E.1 vwCl [(h, .inr (6, [.ref mo, .ref re, .ref rc, .int otick, .int omode, .int olock, .int oforce, .int oswitches, .int ostops, .int oresets, .int latestStop])), (other, .inr (6, [.ref omo, .ref ore, .ref orc, .int otick, .int omode, .int olock, .int oforce, .int oswitches, .int ostops, .int oresets, .int olatestStop])), (mo, .inr (1, [.int q_1.1, .int q_1.2.1, .int q_1.2.2.1, .int q_1.2.2.2.1, .int q_1.2.2.2.2.1, .int q_1.2.2.2.2.2])), (omo, .inr (1, [.int ox, .int ov, .int oa1, .int oa2, .int ow1, .int ow2])), (re, .inr (5, [.ref ar, .ref af])), (ar, .inl (E.2.1, 49, .inl q_2.1)), (af, .inl (E.2.1, 49, .inl q_2.2)), (ore, .inr (5, [.ref oar, .ref oaf])), (oar, .inl (E.2.1, 49, .inl ors)), (oaf, .inl (E.2.1, 49, .inl ofs)), (rc, .inr (4, [.long q_3.1, .long q_3.2.1, .long q_3.2.2.1, .long q_3.2.2.2])), (orc, .inr (4, [.long ob1, .long ob2, .long ob3, .long ob4]))] H := hP
  refine lv_aload_n hx hb dX6_takeOver_89 rfl (lv_at hl 0 rfl) ?_
  refine lv_aload_n hx hb dX6_takeOver_90 rfl (lv_at hl 1 rfl) ?_
  refine va_get (D := E.1) (ci := 6) (v := .int olatestStop) (C := RX6) (T := TX6) (N := 11) hx hb hts g_2 hown hE.1 hP 1 rfl rfl 10 (by decide) g_12 (fun _ h9 => h9) rfl dX6_takeOver_91 ?_
  refine va_put (D := E.1) (ci := 6) (v := .int olatestStop) (ty := .int) (C := RX6) (T := TX6) (N := 11) hx hb hts g_2 tyX6 tyX6_ok nmX6 hown hE.1 hP (hX.d rfl) hS 0 rfl rfl 10 (by decide) g_12 (fun _ h9 => h9) rfl (by decide +kernel) rfl rfl (Nat.le_of_ble_eq_true rfl) dX6_takeOver_94 (fun H locs hP _ hS => ?_)
  have hP : va_P E.1 vwCl [(h, .inr (6, [.ref mo, .ref re, .ref rc, .int otick, .int omode, .int olock, .int oforce, .int oswitches, .int ostops, .int oresets, .int olatestStop])), (other, .inr (6, [.ref omo, .ref ore, .ref orc, .int otick, .int omode, .int olock, .int oforce, .int oswitches, .int ostops, .int oresets, .int olatestStop])), (mo, .inr (1, [.int q_1.1, .int q_1.2.1, .int q_1.2.2.1, .int q_1.2.2.2.1, .int q_1.2.2.2.2.1, .int q_1.2.2.2.2.2])), (omo, .inr (1, [.int ox, .int ov, .int oa1, .int oa2, .int ow1, .int ow2])), (re, .inr (5, [.ref ar, .ref af])), (ar, .inl (E.2.1, 49, .inl q_2.1)), (af, .inl (E.2.1, 49, .inl q_2.2)), (ore, .inr (5, [.ref oar, .ref oaf])), (oar, .inl (E.2.1, 49, .inl ors)), (oaf, .inl (E.2.1, 49, .inl ofs)), (rc, .inr (4, [.long q_3.1, .long q_3.2.1, .long q_3.2.2.1, .long q_3.2.2.2])), (orc, .inr (4, [.long ob1, .long ob2, .long ob3, .long ob4]))] H := hP
  exact x_wv (q_1.1, q_1.2.1, q_1.2.2.1, q_1.2.2.2.1, q_1.2.2.2.2.1, q_1.2.2.2.2.2, otick, omode, olock, oforce, oswitches, ostops, oresets, olatestStop, q_3.1, q_3.2.1, q_3.2.2.1, q_3.2.2.2, q_2.1, q_2.2) (by unfold sX6_takeOver; rw [← hq_1]; unfold sX6_takeOver_q_1; rw [← hq_2]; unfold sX6_takeOver_q_2; rw [← hq_3]; unfold sX6_takeOver_q_3; try rfl) rfl hx hb hr hlk hS hP (hX.d rfl) [0, 2, 4, 5, 6, 10, 1, 3, 7, 8, 9, 11] rfl rfl (Nat.le_of_ble_eq_true rfl) (Nat.le_of_ble_eq_true rfl) dX6_takeOver_97
def sX8_isVerifiedFor (num : Nat → Int32) (a1 : Int32) (a2 : Int32) (w1 : Int32) (w2 : Int32) (rs : Nat → Int32) (link : Int32) : Int32 :=
  if (sX2_hasCell num (sX2_cellOfAngle num (sX1_angleOf a1 a2 link)) (sX2_cellOfSpeed num (sX1_speedOf w1 w2 link))) = 0 then
    0
  else
    if (sX5_reasonAt rs (sX2_cellOfAngle num (sX1_angleOf a1 a2 link)) (sX2_cellOfSpeed num (sX1_speedOf w1 w2 link))) = 0 then
      1
    else
      0
theorem hdX8_isVerifiedFor : yX8_isVerifiedFor.cls = RX8 ∧ yX8_isVerifiedFor.cls ≠ "java/lang/invoke/MethodHandle" ∧ yX8_isVerifiedFor.cls ≠ "java/lang/invoke/VarHandle" ∧ (parseMethodDescriptor yX8_isVerifiedFor.desc).map (fun d => d.parameters.length) = some 2 := by decide +kernel
set_option maxHeartbeats 4000000 in
set_option maxRecDepth 100000 in
theorem kX8_isVerifiedFor (l : Launch) (E : XE) (h : Nat) (pl : Nat) (rd : Nat) (nw : Nat) (ah : Nat) (tr : Nat) (hi : Nat) (s0 : Nat) (s1 : Nat) (errorAt : Int32) (an : Nat) (num : Nat → Int32) (si : Nat) (mo : Nat) (re : Nat) (rc : Nat) (tick : Int32) (mode : Int32) (lock : Int32) (force : Int32) (switches : Int32) (stops : Int32) (resets : Int32) (latestStop : Int32) (x : Int32) (v : Int32) (a1 : Int32) (a2 : Int32) (w1 : Int32) (w2 : Int32) (ar : Nat) (af : Nat) (rs : Nat → Int32) (fs : Nat → Int32) (b1 : Int64) (b2 : Int64) (b3 : Int64) (b4 : Int64) (link : Int32) (hz1 : 0 < sX2_number num 15 → ¬ 2 * sX2_number num 15 = 0) (hz2 : 0 < sX2_number num 16 → ¬ 2 * sX2_number num 16 = 0) : xR l yX8_isVerifiedFor wsX8_isVerifiedFor ({ frames := 3, cells := 0, slots := 0, locals := 64 }) E [(h, .inr (8, [.ref pl, .ref rd, .ref nw, .ref ah, .ref tr, .ref hi, .ref s0, .ref s1, .int errorAt])), (pl, .inr (2, [.ref an])), (an, .inl (E.2.1, 24, .inl num)), (si, .inr (6, [.ref mo, .ref re, .ref rc, .int tick, .int mode, .int lock, .int force, .int switches, .int stops, .int resets, .int latestStop])), (mo, .inr (1, [.int x, .int v, .int a1, .int a2, .int w1, .int w2])), (re, .inr (5, [.ref ar, .ref af])), (ar, .inl (E.2.1, 49, .inl rs)), (af, .inl (E.2.1, 49, .inl fs)), (rc, .inr (4, [.long b1, .long b2, .long b3, .long b4]))] [.ref h, .ref si, .int link] (.int (sX8_isVerifiedFor num a1 a2 w1 w2 rs link)) := by
  refine xR.of (cc := cX8_isVerifiedFor) (maxL := 5) (ret := (some .boolean)) (by decide) rfl (Nat.le_of_ble_eq_true rfl) ?_
  intro p e s m args below meth c ls hM hE hP hD hl
  obtain ⟨hx, hb, hr, hml, hts, hown, hlk, hnm⟩ := hM
  have g_1 : (Cond.fieldLink RX8 10 "RailPendulum" "plant" "LRailPendulum$Plant;").before args s = true := hts (Cond.fieldLink RX8 10 "RailPendulum" "plant" "LRailPendulum$Plant;") (by decide +kernel)
  have g_2 : ∀ w ∈ wsX80, w ∈ wsX8_isVerifiedFor := by decide +kernel
  have g_3 : (Cond.fieldLinkNest RX8 109 "RailPendulum$Situation" "motion" "LRailPendulum$Motion;" "RailPendulum").before args s = true := va_Nw.use rfl (hE.2 (Cond.fieldLinkNest RX8 109 "RailPendulum$Situation" "motion" "LRailPendulum$Motion;" "RailPendulum") (by decide +kernel))
  have g_4 : ∀ w ∈ wsX60, w ∈ wsX8_isVerifiedFor := by decide +kernel
  have g_5 : (Cond.fieldLinkNest RX8 143 "RailPendulum$Situation" "region" "LRailPendulum$Region;" "RailPendulum").before args s = true := va_Nw.use rfl (hE.2 (Cond.fieldLinkNest RX8 143 "RailPendulum$Situation" "region" "LRailPendulum$Region;" "RailPendulum") (by decide +kernel))
  have hl : lv_has ls 5 [(0, .ref h), (1, .ref si), (2, .int link)] := hl
  refine lv_aload_n hx hb dX8_isVerifiedFor_0 rfl (lv_at hl 0 rfl) ?_
  refine va_get (D := E.1) (ci := 8) (v := .ref pl) (C := RX8) (T := TX8) (N := 9) hx hb hts g_2 hown hE.1 hP 0 rfl rfl 0 (by decide) g_1 (fun _ h9 => h9) rfl dX8_isVerifiedFor_1 ?_
  refine lv_aload_n hx hb dX8_isVerifiedFor_4 rfl (lv_at hl 1 rfl) ?_
  refine va_getN (D := E.1) (ci := 6) (v := .ref mo) (C := RX6) (T := TX6) (N := 11) hx hb hts g_4 hown hE.1 hP 3 rfl rfl 0 (by decide) g_3 (fun _ h9 => h9) rfl dX8_isVerifiedFor_5 ?_
  refine lv_iload_n hx hb dX8_isVerifiedFor_8 rfl (lv_at hl 2 rfl) ?_
  refine lv_iconst (v := 0) hx hb dX8_isVerifiedFor_9 (by decide) ?_
  refine x_rV [.ref mo, .int link, .int 0] (kX2_cellPart_0 l E pl an num mo x v a1 a2 w1 w2 link hz1) ⟨hx, hb, hml, hown, hts⟩ (cwV 3 hts gX8_isVerifiedFor_X2_cellPart rfl rfl rfl hdX2_cellPart ⟨Nat.le_of_ble_eq_true rfl, Nat.le_of_ble_eq_true rfl⟩) hE hP hD [1, 2, 4] rfl rfl (ci := 2) (q0 := 1) rfl rfl rfl hl.1 rfl rfl (Nat.le_of_ble_eq_true rfl) dX8_isVerifiedFor_10 (Nat.le_of_ble_eq_true rfl) (Nat.le_of_ble_eq_true rfl) ?_
  refine lv_istore_n (lv' := [(3, .int (sX2_cellOfAngle num (sX1_angleOf a1 a2 link))), (0, .ref h), (1, .ref si), (2, .int link)]) hx hb dX8_isVerifiedFor_13 rfl hl (by decide) rfl (fun ls hl => ?_)
  refine lv_aload_n hx hb dX8_isVerifiedFor_14 rfl (lv_at hl 1 rfl) ?_
  refine va_get (D := E.1) (ci := 8) (v := .ref pl) (C := RX8) (T := TX8) (N := 9) hx hb hts g_2 hown hE.1 hP 0 rfl rfl 0 (by decide) g_1 (fun _ h9 => h9) rfl dX8_isVerifiedFor_15 ?_
  refine lv_aload_n hx hb dX8_isVerifiedFor_18 rfl (lv_at hl 2 rfl) ?_
  refine va_getN (D := E.1) (ci := 6) (v := .ref mo) (C := RX6) (T := TX6) (N := 11) hx hb hts g_4 hown hE.1 hP 3 rfl rfl 0 (by decide) g_3 (fun _ h9 => h9) rfl dX8_isVerifiedFor_19 ?_
  refine lv_iload_n hx hb dX8_isVerifiedFor_22 rfl (lv_at hl 3 rfl) ?_
  refine lv_iconst (v := 1) hx hb dX8_isVerifiedFor_23 (by decide) ?_
  refine x_rV [.ref mo, .int link, .int 1] (kX2_cellPart_1 l E pl an num mo x v a1 a2 w1 w2 link hz2) ⟨hx, hb, hml, hown, hts⟩ (cwV 3 hts gX8_isVerifiedFor_X2_cellPart rfl rfl rfl hdX2_cellPart ⟨Nat.le_of_ble_eq_true rfl, Nat.le_of_ble_eq_true rfl⟩) hE hP hD [1, 2, 4] rfl rfl (ci := 2) (q0 := 1) rfl rfl rfl hl.1 rfl rfl (Nat.le_of_ble_eq_true rfl) dX8_isVerifiedFor_24 (Nat.le_of_ble_eq_true rfl) (Nat.le_of_ble_eq_true rfl) ?_
  refine lv_istore (lv' := [(4, .int (sX2_cellOfSpeed num (sX1_speedOf w1 w2 link))), (3, .int (sX2_cellOfAngle num (sX1_angleOf a1 a2 link))), (0, .ref h), (1, .ref si), (2, .int link)]) hx hb dX8_isVerifiedFor_27 hl (by decide) rfl (fun ls hl => ?_)
  refine lv_aload_n hx hb dX8_isVerifiedFor_29 rfl (lv_at hl 2 rfl) ?_
  refine va_get (D := E.1) (ci := 8) (v := .ref pl) (C := RX8) (T := TX8) (N := 9) hx hb hts g_2 hown hE.1 hP 0 rfl rfl 0 (by decide) g_1 (fun _ h9 => h9) rfl dX8_isVerifiedFor_30 ?_
  refine lv_iload_n hx hb dX8_isVerifiedFor_33 rfl (lv_at hl 1 rfl) ?_
  refine lv_iload hx hb dX8_isVerifiedFor_34 (lv_at hl 0 rfl) ?_
  refine x_rV [.int (sX2_cellOfAngle num (sX1_angleOf a1 a2 link)), .int (sX2_cellOfSpeed num (sX1_speedOf w1 w2 link))] (kX2_hasCell l E pl an num (sX2_cellOfAngle num (sX1_angleOf a1 a2 link)) (sX2_cellOfSpeed num (sX1_speedOf w1 w2 link))) ⟨hx, hb, hml, hown, hts⟩ (cwV 2 hts gX8_isVerifiedFor_X2_hasCell rfl rfl rfl hdX2_hasCell ⟨Nat.le_of_ble_eq_true rfl, Nat.le_of_ble_eq_true rfl⟩) hE hP hD [1, 2] rfl rfl (ci := 2) (q0 := 1) rfl rfl rfl hl.1 rfl rfl (Nat.le_of_ble_eq_true rfl) dX8_isVerifiedFor_36 (Nat.le_of_ble_eq_true rfl) (Nat.le_of_ble_eq_true rfl) ?_
  refine lv_if_eq (tgt := 59) hx hb dX8_isVerifiedFor_39 (by decide) (fun c_1 => ?_) (fun c_1 => ?_)
  · refine lv_iconst (v := 0) hx hb dX8_isVerifiedFor_59 (by decide) ?_
    exact x_zr (by unfold sX8_isVerifiedFor; rw [if_pos c_1]; try rfl) hx hb hr hlk rfl dX8_isVerifiedFor_60
  · refine lv_aload_n hx hb dX8_isVerifiedFor_42 rfl (lv_at hl 3 rfl) ?_
    refine va_getN (D := E.1) (ci := 6) (v := .ref re) (C := RX6) (T := TX6) (N := 11) hx hb hts g_4 hown hE.1 hP 3 rfl rfl 1 (by decide) g_5 (fun _ h9 => h9) rfl dX8_isVerifiedFor_43 ?_
    refine lv_iload_n hx hb dX8_isVerifiedFor_46 rfl (lv_at hl 1 rfl) ?_
    refine lv_iload hx hb dX8_isVerifiedFor_47 (lv_at hl 0 rfl) ?_
    refine x_rV [.int (sX2_cellOfAngle num (sX1_angleOf a1 a2 link)), .int (sX2_cellOfSpeed num (sX1_speedOf w1 w2 link))] (kX5_reasonAt l E re ar af rs (sX2_cellOfAngle num (sX1_angleOf a1 a2 link)) (sX2_cellOfSpeed num (sX1_speedOf w1 w2 link))) ⟨hx, hb, hml, hown, hts⟩ (cwV 2 hts gX8_isVerifiedFor_X5_reasonAt rfl rfl rfl hdX5_reasonAt ⟨Nat.le_of_ble_eq_true rfl, Nat.le_of_ble_eq_true rfl⟩) hE hP hD [5, 6] rfl rfl (ci := 5) (q0 := 5) rfl rfl rfl hl.1 rfl rfl (Nat.le_of_ble_eq_true rfl) dX8_isVerifiedFor_49 (Nat.le_of_ble_eq_true rfl) (Nat.le_of_ble_eq_true rfl) ?_
    refine lv_if_ne (tgt := 59) hx hb dX8_isVerifiedFor_52 (by decide) (fun c_2 => ?_) (fun c_2 => ?_)
    · refine lv_iconst (v := 0) hx hb dX8_isVerifiedFor_59 (by decide) ?_
      exact x_zr (by unfold sX8_isVerifiedFor; rw [if_neg c_1]; rw [if_neg c_2]; try rfl) hx hb hr hlk rfl dX8_isVerifiedFor_60
    · refine lv_iconst (v := 1) hx hb dX8_isVerifiedFor_55 (by decide) ?_
      refine lv_goto (tgt := 60) hx hb dX8_isVerifiedFor_56 (by decide) ?_
      exact x_zr (by unfold sX8_isVerifiedFor; rw [if_neg c_1]; rw [if_pos c_2]; try rfl) hx hb hr hlk rfl dX8_isVerifiedFor_60
def sX8_canCapture (num : Nat → Int32) (a1 : Int32) (a2 : Int32) (w1 : Int32) (w2 : Int32) (rs : Nat → Int32) : Int32 :=
  if (sX8_isVerifiedFor num a1 a2 w1 w2 rs 1) = 0 then
    0
  else
    if (sX8_isVerifiedFor num a1 a2 w1 w2 rs 2) = 0 then
      0
    else
      1
theorem hdX8_canCapture : yX8_canCapture.cls = RX8 ∧ yX8_canCapture.cls ≠ "java/lang/invoke/MethodHandle" ∧ yX8_canCapture.cls ≠ "java/lang/invoke/VarHandle" ∧ (parseMethodDescriptor yX8_canCapture.desc).map (fun d => d.parameters.length) = some 1 := by decide +kernel
set_option maxHeartbeats 4000000 in
set_option maxRecDepth 100000 in
theorem kX8_canCapture (l : Launch) (E : XE) (h : Nat) (pl : Nat) (rd : Nat) (nw : Nat) (ah : Nat) (tr : Nat) (hi : Nat) (s0 : Nat) (s1 : Nat) (errorAt : Int32) (an : Nat) (num : Nat → Int32) (si : Nat) (mo : Nat) (re : Nat) (rc : Nat) (tick : Int32) (mode : Int32) (lock : Int32) (force : Int32) (switches : Int32) (stops : Int32) (resets : Int32) (latestStop : Int32) (x : Int32) (v : Int32) (a1 : Int32) (a2 : Int32) (w1 : Int32) (w2 : Int32) (ar : Nat) (af : Nat) (rs : Nat → Int32) (fs : Nat → Int32) (b1 : Int64) (b2 : Int64) (b3 : Int64) (b4 : Int64) (hz1 : 0 < sX2_number num 15 → ¬ 2 * sX2_number num 15 = 0) (hz2 : 0 < sX2_number num 16 → ¬ 2 * sX2_number num 16 = 0) : xR l yX8_canCapture wsX8_canCapture ({ frames := 4, cells := 0, slots := 0, locals := 88 }) E [(h, .inr (8, [.ref pl, .ref rd, .ref nw, .ref ah, .ref tr, .ref hi, .ref s0, .ref s1, .int errorAt])), (pl, .inr (2, [.ref an])), (an, .inl (E.2.1, 24, .inl num)), (si, .inr (6, [.ref mo, .ref re, .ref rc, .int tick, .int mode, .int lock, .int force, .int switches, .int stops, .int resets, .int latestStop])), (mo, .inr (1, [.int x, .int v, .int a1, .int a2, .int w1, .int w2])), (re, .inr (5, [.ref ar, .ref af])), (ar, .inl (E.2.1, 49, .inl rs)), (af, .inl (E.2.1, 49, .inl fs)), (rc, .inr (4, [.long b1, .long b2, .long b3, .long b4]))] [.ref h, .ref si] (.int (sX8_canCapture num a1 a2 w1 w2 rs)) := by
  refine xR.of (cc := cX8_canCapture) (maxL := 2) (ret := (some .boolean)) (by decide) rfl (Nat.le_of_ble_eq_true rfl) ?_
  intro p e s m args below meth c ls hM hE hP hD hl
  obtain ⟨hx, hb, hr, hml, hts, hown, hlk, hnm⟩ := hM
  have hl : lv_has ls 2 [(0, .ref h), (1, .ref si)] := hl
  refine lv_aload_n hx hb dX8_canCapture_0 rfl (lv_at hl 0 rfl) ?_
  refine lv_aload_n hx hb dX8_canCapture_1 rfl (lv_at hl 1 rfl) ?_
  refine lv_iconst (v := 1) hx hb dX8_canCapture_2 (by decide) ?_
  refine x_rV [.ref si, .int 1] (kX8_isVerifiedFor l E h pl rd nw ah tr hi s0 s1 errorAt an num si mo re rc tick mode lock force switches stops resets latestStop x v a1 a2 w1 w2 ar af rs fs b1 b2 b3 b4 1 hz1 hz2) ⟨hx, hb, hml, hown, hts⟩ (cwV 2 hts gX8_canCapture_X8_isVerifiedFor rfl rfl rfl hdX8_isVerifiedFor ⟨Nat.le_of_ble_eq_true rfl, Nat.le_of_ble_eq_true rfl⟩) hE hP hD [0, 1, 2, 3, 4, 5, 6, 7, 8] rfl rfl (ci := 8) (q0 := 0) rfl rfl rfl hl.1 rfl rfl (Nat.le_of_ble_eq_true rfl) dX8_canCapture_3 (Nat.le_of_ble_eq_true rfl) (Nat.le_of_ble_eq_true rfl) ?_
  refine lv_if_eq (tgt := 22) hx hb dX8_canCapture_6 (by decide) (fun c_1 => ?_) (fun c_1 => ?_)
  · refine lv_iconst (v := 0) hx hb dX8_canCapture_22 (by decide) ?_
    exact x_zr (by unfold sX8_canCapture; rw [if_pos c_1]; try rfl) hx hb hr hlk rfl dX8_canCapture_23
  · refine lv_aload_n hx hb dX8_canCapture_9 rfl (lv_at hl 0 rfl) ?_
    refine lv_aload_n hx hb dX8_canCapture_10 rfl (lv_at hl 1 rfl) ?_
    refine lv_iconst (v := 2) hx hb dX8_canCapture_11 (by decide) ?_
    refine x_rV [.ref si, .int 2] (kX8_isVerifiedFor l E h pl rd nw ah tr hi s0 s1 errorAt an num si mo re rc tick mode lock force switches stops resets latestStop x v a1 a2 w1 w2 ar af rs fs b1 b2 b3 b4 2 hz1 hz2) ⟨hx, hb, hml, hown, hts⟩ (cwV 2 hts gX8_canCapture_X8_isVerifiedFor rfl rfl rfl hdX8_isVerifiedFor ⟨Nat.le_of_ble_eq_true rfl, Nat.le_of_ble_eq_true rfl⟩) hE hP hD [0, 1, 2, 3, 4, 5, 6, 7, 8] rfl rfl (ci := 8) (q0 := 0) rfl rfl rfl hl.1 rfl rfl (Nat.le_of_ble_eq_true rfl) dX8_canCapture_12 (Nat.le_of_ble_eq_true rfl) (Nat.le_of_ble_eq_true rfl) ?_
    refine lv_if_eq (tgt := 22) hx hb dX8_canCapture_15 (by decide) (fun c_2 => ?_) (fun c_2 => ?_)
    · refine lv_iconst (v := 0) hx hb dX8_canCapture_22 (by decide) ?_
      exact x_zr (by unfold sX8_canCapture; rw [if_neg c_1]; rw [if_pos c_2]; try rfl) hx hb hr hlk rfl dX8_canCapture_23
    · refine lv_iconst (v := 1) hx hb dX8_canCapture_18 (by decide) ?_
      refine lv_goto (tgt := 23) hx hb dX8_canCapture_19 (by decide) ?_
      exact x_zr (by unfold sX8_canCapture; rw [if_neg c_1]; rw [if_neg c_2]; try rfl) hx hb hr hlk rfl dX8_canCapture_23
def sX8_pushIn (num : Nat → Int32) (mode : Int32) (force : Int32) (x : Int32) (v : Int32) (a1 : Int32) (a2 : Int32) (w1 : Int32) (w2 : Int32) : Int32 :=
  if mode = 1 then
    sX2_swingPush num a1 a2 w1 w2 force
  else
    if mode = 2 then
      sX2_balancingPush num x v a1 a2 w1 w2 force
    else
      0
theorem hdX8_pushIn : yX8_pushIn.cls = RX8 ∧ yX8_pushIn.cls ≠ "java/lang/invoke/MethodHandle" ∧ yX8_pushIn.cls ≠ "java/lang/invoke/VarHandle" ∧ (parseMethodDescriptor yX8_pushIn.desc).map (fun d => d.parameters.length) = some 1 := by decide +kernel
set_option maxHeartbeats 4000000 in
set_option maxRecDepth 100000 in
theorem kX8_pushIn (l : Launch) (E : XE) (h : Nat) (pl : Nat) (rd : Nat) (nw : Nat) (ah : Nat) (tr : Nat) (hi : Nat) (s0 : Nat) (s1 : Nat) (errorAt : Int32) (an : Nat) (num : Nat → Int32) (si : Nat) (mo : Nat) (re : Nat) (rc : Nat) (tick : Int32) (mode : Int32) (lock : Int32) (force : Int32) (switches : Int32) (stops : Int32) (resets : Int32) (latestStop : Int32) (x : Int32) (v : Int32) (a1 : Int32) (a2 : Int32) (w1 : Int32) (w2 : Int32) (ar : Nat) (af : Nat) (rs : Nat → Int32) (fs : Nat → Int32) (b1 : Int64) (b2 : Int64) (b3 : Int64) (b4 : Int64) : xR l yX8_pushIn wsX8_pushIn ({ frames := 3, cells := 0, slots := 0, locals := 76 }) E [(h, .inr (8, [.ref pl, .ref rd, .ref nw, .ref ah, .ref tr, .ref hi, .ref s0, .ref s1, .int errorAt])), (pl, .inr (2, [.ref an])), (an, .inl (E.2.1, 24, .inl num)), (si, .inr (6, [.ref mo, .ref re, .ref rc, .int tick, .int mode, .int lock, .int force, .int switches, .int stops, .int resets, .int latestStop])), (mo, .inr (1, [.int x, .int v, .int a1, .int a2, .int w1, .int w2])), (re, .inr (5, [.ref ar, .ref af])), (ar, .inl (E.2.1, 49, .inl rs)), (af, .inl (E.2.1, 49, .inl fs)), (rc, .inr (4, [.long b1, .long b2, .long b3, .long b4]))] [.ref h, .ref si] (.int (sX8_pushIn num mode force x v a1 a2 w1 w2)) := by
  refine xR.of (cc := cX8_pushIn) (maxL := 2) (ret := (some .int)) (by decide) rfl (Nat.le_of_ble_eq_true rfl) ?_
  intro p e s m args below meth c ls hM hE hP hD hl
  obtain ⟨hx, hb, hr, hml, hts, hown, hlk, hnm⟩ := hM
  have g_1 : (Cond.fieldLinkNest RX8 203 "RailPendulum$Situation" "mode" "I" "RailPendulum").before args s = true := va_Nw.use rfl (hE.2 (Cond.fieldLinkNest RX8 203 "RailPendulum$Situation" "mode" "I" "RailPendulum") (by decide +kernel))
  have g_2 : ∀ w ∈ wsX60, w ∈ wsX8_pushIn := by decide +kernel
  have g_3 : (Cond.fieldLink RX8 10 "RailPendulum" "plant" "LRailPendulum$Plant;").before args s = true := hts (Cond.fieldLink RX8 10 "RailPendulum" "plant" "LRailPendulum$Plant;") (by decide +kernel)
  have g_4 : ∀ w ∈ wsX80, w ∈ wsX8_pushIn := by decide +kernel
  have g_5 : (Cond.fieldLinkNest RX8 109 "RailPendulum$Situation" "motion" "LRailPendulum$Motion;" "RailPendulum").before args s = true := va_Nw.use rfl (hE.2 (Cond.fieldLinkNest RX8 109 "RailPendulum$Situation" "motion" "LRailPendulum$Motion;" "RailPendulum") (by decide +kernel))
  have g_6 : (Cond.fieldLinkNest RX8 226 "RailPendulum$Situation" "force" "I" "RailPendulum").before args s = true := va_Nw.use rfl (hE.2 (Cond.fieldLinkNest RX8 226 "RailPendulum$Situation" "force" "I" "RailPendulum") (by decide +kernel))
  have hl : lv_has ls 2 [(0, .ref h), (1, .ref si)] := hl
  refine lv_aload_n hx hb dX8_pushIn_0 rfl (lv_at hl 1 rfl) ?_
  refine va_getN (D := E.1) (ci := 6) (v := .int mode) (C := RX6) (T := TX6) (N := 11) hx hb hts g_2 hown hE.1 hP 3 rfl rfl 4 (by decide) g_1 (fun _ h9 => h9) rfl dX8_pushIn_1 ?_
  refine lv_iconst (v := 1) hx hb dX8_pushIn_4 (by decide) ?_
  refine lv_icmp_ne (tgt := 24) hx hb dX8_pushIn_5 (by decide) (fun c_1 => ?_) (fun c_1 => ?_)
  · refine lv_aload_n hx hb dX8_pushIn_24 rfl (lv_at hl 1 rfl) ?_
    refine va_getN (D := E.1) (ci := 6) (v := .int mode) (C := RX6) (T := TX6) (N := 11) hx hb hts g_2 hown hE.1 hP 3 rfl rfl 4 (by decide) g_1 (fun _ h9 => h9) rfl dX8_pushIn_25 ?_
    refine lv_iconst (v := 2) hx hb dX8_pushIn_28 (by decide) ?_
    refine lv_icmp_ne (tgt := 50) hx hb dX8_pushIn_29 (by decide) (fun c_2 => ?_) (fun c_2 => ?_)
    · refine lv_iconst (v := 0) hx hb dX8_pushIn_50 (by decide) ?_
      exact x_ir (by unfold sX8_pushIn; rw [if_neg c_1]; rw [if_neg c_2]; try rfl) hx hb hr hlk dX8_pushIn_51
    · refine lv_aload_n hx hb dX8_pushIn_32 rfl (lv_at hl 0 rfl) ?_
      refine va_get (D := E.1) (ci := 8) (v := .ref pl) (C := RX8) (T := TX8) (N := 9) hx hb hts g_4 hown hE.1 hP 0 rfl rfl 0 (by decide) g_3 (fun _ h9 => h9) rfl dX8_pushIn_33 ?_
      refine lv_aload_n hx hb dX8_pushIn_36 rfl (lv_at hl 1 rfl) ?_
      refine va_getN (D := E.1) (ci := 6) (v := .ref mo) (C := RX6) (T := TX6) (N := 11) hx hb hts g_2 hown hE.1 hP 3 rfl rfl 0 (by decide) g_5 (fun _ h9 => h9) rfl dX8_pushIn_37 ?_
      refine lv_aload_n hx hb dX8_pushIn_40 rfl (lv_at hl 1 rfl) ?_
      refine va_getN (D := E.1) (ci := 6) (v := .int force) (C := RX6) (T := TX6) (N := 11) hx hb hts g_2 hown hE.1 hP 3 rfl rfl 6 (by decide) g_6 (fun _ h9 => h9) rfl dX8_pushIn_41 ?_
      refine x_rV [.ref mo, .int force] (kX2_balancingPush l E pl an num mo x v a1 a2 w1 w2 force) ⟨hx, hb, hml, hown, hts⟩ (cwV 2 hts gX8_pushIn_X2_balancingPush rfl rfl rfl hdX2_balancingPush ⟨Nat.le_of_ble_eq_true rfl, Nat.le_of_ble_eq_true rfl⟩) hE hP hD [1, 2, 4] rfl rfl (ci := 2) (q0 := 1) rfl rfl rfl hl.1 rfl rfl (Nat.le_of_ble_eq_true rfl) dX8_pushIn_44 (Nat.le_of_ble_eq_true rfl) (Nat.le_of_ble_eq_true rfl) ?_
      refine lv_goto (tgt := 51) hx hb dX8_pushIn_47 (by decide) ?_
      exact x_ir (by unfold sX8_pushIn; rw [if_neg c_1]; rw [if_pos c_2]; try rfl) hx hb hr hlk dX8_pushIn_51
  · refine lv_aload_n hx hb dX8_pushIn_8 rfl (lv_at hl 0 rfl) ?_
    refine va_get (D := E.1) (ci := 8) (v := .ref pl) (C := RX8) (T := TX8) (N := 9) hx hb hts g_4 hown hE.1 hP 0 rfl rfl 0 (by decide) g_3 (fun _ h9 => h9) rfl dX8_pushIn_9 ?_
    refine lv_aload_n hx hb dX8_pushIn_12 rfl (lv_at hl 1 rfl) ?_
    refine va_getN (D := E.1) (ci := 6) (v := .ref mo) (C := RX6) (T := TX6) (N := 11) hx hb hts g_2 hown hE.1 hP 3 rfl rfl 0 (by decide) g_5 (fun _ h9 => h9) rfl dX8_pushIn_13 ?_
    refine lv_aload_n hx hb dX8_pushIn_16 rfl (lv_at hl 1 rfl) ?_
    refine va_getN (D := E.1) (ci := 6) (v := .int force) (C := RX6) (T := TX6) (N := 11) hx hb hts g_2 hown hE.1 hP 3 rfl rfl 6 (by decide) g_6 (fun _ h9 => h9) rfl dX8_pushIn_17 ?_
    refine x_rV [.ref mo, .int force] (kX2_swingPush l E pl an num mo x v a1 a2 w1 w2 force) ⟨hx, hb, hml, hown, hts⟩ (cwV 2 hts gX8_pushIn_X2_swingPush rfl rfl rfl hdX2_swingPush ⟨Nat.le_of_ble_eq_true rfl, Nat.le_of_ble_eq_true rfl⟩) hE hP hD [1, 2, 4] rfl rfl (ci := 2) (q0 := 1) rfl rfl rfl hl.1 rfl rfl (Nat.le_of_ble_eq_true rfl) dX8_pushIn_20 (Nat.le_of_ble_eq_true rfl) (Nat.le_of_ble_eq_true rfl) ?_
    exact x_ir (by unfold sX8_pushIn; rw [if_pos c_1]; try rfl) hx hb hr hlk dX8_pushIn_23
def sX8_switchModeIfDue_q_14 (num : Nat → Int32) (mode : Int32) (lock : Int32) (switches : Int32) (a1 : Int32) (a2 : Int32) (w1 : Int32) (w2 : Int32) (rs : Nat → Int32) (b1 : Int64) (b2 : Int64) (b3 : Int64) (b4 : Int64) (q_14 : Int64) : Int32 × Int32 × Int32 × Int64 :=
  if (sX4_countIn q_14 b2 b3 b4 (sX2_number num 22)) ≤ (sX2_number num 21) then
    (1, lock, switches + 1, q_14)
  else
    (1, sX2_number num 23, switches + 1, q_14)
def sX8_switchModeIfDue_q_16 (num : Nat → Int32) (mode : Int32) (lock : Int32) (switches : Int32) (a1 : Int32) (a2 : Int32) (w1 : Int32) (w2 : Int32) (rs : Nat → Int32) (b1 : Int64) (b2 : Int64) (b3 : Int64) (b4 : Int64) (q_16 : Int64) : Int32 × Int32 × Int32 × Int64 :=
  if (sX4_countIn q_16 b2 b3 b4 (sX2_number num 22)) ≤ (sX2_number num 21) then
    (2, lock, switches + 1, q_16)
  else
    (1, sX2_number num 23, switches + 1, q_16)
def sX8_switchModeIfDue_q_9 (num : Nat → Int32) (mode : Int32) (lock : Int32) (switches : Int32) (a1 : Int32) (a2 : Int32) (w1 : Int32) (w2 : Int32) (rs : Nat → Int32) (b1 : Int64) (b2 : Int64) (b3 : Int64) (b4 : Int64) (q_9 : Int64) : Int32 × Int32 × Int32 × Int64 :=
  if (sX4_countIn q_9 b2 b3 b4 (sX2_number num 22)) ≤ (sX2_number num 21) then
    (1, lock, switches + 1, q_9)
  else
    (1, sX2_number num 23, switches + 1, q_9)
def sX8_switchModeIfDue_q_4 (num : Nat → Int32) (mode : Int32) (lock : Int32) (switches : Int32) (a1 : Int32) (a2 : Int32) (w1 : Int32) (w2 : Int32) (rs : Nat → Int32) (b1 : Int64) (b2 : Int64) (b3 : Int64) (b4 : Int64) (q_4 : Int64) : Int32 × Int32 × Int32 × Int64 :=
  if (sX4_countIn q_4 b2 b3 b4 (sX2_number num 22)) ≤ (sX2_number num 21) then
    (1, lock, switches + 1, q_4)
  else
    (1, sX2_number num 23, switches + 1, q_4)
def sX8_switchModeIfDue (num : Nat → Int32) (mode : Int32) (lock : Int32) (switches : Int32) (a1 : Int32) (a2 : Int32) (w1 : Int32) (w2 : Int32) (rs : Nat → Int32) (b1 : Int64) (b2 : Int64) (b3 : Int64) (b4 : Int64) : Int32 × Int32 × Int32 × Int64 :=
  if mode = 1 then
    if lock = 0 then
      if (sX8_canCapture num a1 a2 w1 w2 rs) = 0 then
        if mode = 2 then
          if (sX2_leansBeyond num a1 a2 19) = 0 then
            (mode, lock, switches, b1)
          else
            sX8_switchModeIfDue_q_14 num mode lock switches a1 a2 w1 w2 rs b1 b2 b3 b4 (sX4_markTick b1)
        else
          (mode, lock, switches, b1)
      else
        sX8_switchModeIfDue_q_16 num mode lock switches a1 a2 w1 w2 rs b1 b2 b3 b4 (sX4_markTick b1)
    else
      if mode = 2 then
        if (sX2_leansBeyond num a1 a2 19) = 0 then
          (mode, lock, switches, b1)
        else
          sX8_switchModeIfDue_q_9 num mode lock switches a1 a2 w1 w2 rs b1 b2 b3 b4 (sX4_markTick b1)
      else
        (mode, lock, switches, b1)
  else
    if mode = 2 then
      if (sX2_leansBeyond num a1 a2 19) = 0 then
        (mode, lock, switches, b1)
      else
        sX8_switchModeIfDue_q_4 num mode lock switches a1 a2 w1 w2 rs b1 b2 b3 b4 (sX4_markTick b1)
    else
      (mode, lock, switches, b1)
theorem hdX8_switchModeIfDue : yX8_switchModeIfDue.cls = RX8 ∧ yX8_switchModeIfDue.cls ≠ "java/lang/invoke/MethodHandle" ∧ yX8_switchModeIfDue.cls ≠ "java/lang/invoke/VarHandle" ∧ (parseMethodDescriptor yX8_switchModeIfDue.desc).map (fun d => d.parameters.length) = some 1 := by decide +kernel
set_option maxHeartbeats 4000000 in
set_option maxRecDepth 100000 in
theorem kX8_switchModeIfDue (l : Launch) (E : XE) (h : Nat) (pl : Nat) (rd : Nat) (nw : Nat) (ah : Nat) (tr : Nat) (hi : Nat) (s0 : Nat) (s1 : Nat) (errorAt : Int32) (an : Nat) (num : Nat → Int32) (si : Nat) (mo : Nat) (re : Nat) (rc : Nat) (tick : Int32) (mode : Int32) (lock : Int32) (force : Int32) (switches : Int32) (stops : Int32) (resets : Int32) (latestStop : Int32) (x : Int32) (v : Int32) (a1 : Int32) (a2 : Int32) (w1 : Int32) (w2 : Int32) (ar : Nat) (af : Nat) (rs : Nat → Int32) (fs : Nat → Int32) (b1 : Int64) (b2 : Int64) (b3 : Int64) (b4 : Int64) (hz1 : 0 < sX2_number num 15 → ¬ 2 * sX2_number num 15 = 0) (hz2 : 0 < sX2_number num 16 → ¬ 2 * sX2_number num 16 = 0) : xW (T := Int32 × Int32 × Int32 × Int64) l yX8_switchModeIfDue wsX8_switchModeIfDue ({ frames := 5, cells := 0, slots := 0, locals := 109 }) E [(h, .inr (8, [.ref pl, .ref rd, .ref nw, .ref ah, .ref tr, .ref hi, .ref s0, .ref s1, .int errorAt])), (pl, .inr (2, [.ref an])), (an, .inl (E.2.1, 24, .inl num)), (si, .inr (6, [.ref mo, .ref re, .ref rc, .int tick, .int mode, .int lock, .int force, .int switches, .int stops, .int resets, .int latestStop])), (mo, .inr (1, [.int x, .int v, .int a1, .int a2, .int w1, .int w2])), (re, .inr (5, [.ref ar, .ref af])), (ar, .inl (E.2.1, 49, .inl rs)), (af, .inl (E.2.1, 49, .inl fs)), (rc, .inr (4, [.long b1, .long b2, .long b3, .long b4]))] [.ref h, .ref si] (fun _ => none) (fun q => [(h, .inr (8, [.ref pl, .ref rd, .ref nw, .ref ah, .ref tr, .ref hi, .ref s0, .ref s1, .int errorAt])), (pl, .inr (2, [.ref an])), (an, .inl (E.2.1, 24, .inl num)), (si, .inr (6, [.ref mo, .ref re, .ref rc, .int tick, .int q.1, .int q.2.1, .int force, .int q.2.2.1, .int stops, .int resets, .int latestStop])), (mo, .inr (1, [.int x, .int v, .int a1, .int a2, .int w1, .int w2])), (re, .inr (5, [.ref ar, .ref af])), (ar, .inl (E.2.1, 49, .inl rs)), (af, .inl (E.2.1, 49, .inl fs)), (rc, .inr (4, [.long q.2.2.2, .long b2, .long b3, .long b4]))]) (sX8_switchModeIfDue num mode lock switches a1 a2 w1 w2 rs b1 b2 b3 b4) 0 0 := by
  refine xW.of (cc := cX8_switchModeIfDue) (maxL := 2) (ret := none) (by decide) rfl (Nat.le_of_ble_eq_true rfl) ?_
  intro p e s m args below meth c ls A hM hE hP hD hS hA hl
  obtain ⟨hx, hb, hr, hml, hts, hown, hlk, hnm⟩ := hM
  have g_1 : (Cond.fieldLinkNest RX8 203 "RailPendulum$Situation" "mode" "I" "RailPendulum").before args s = true := va_Nw.use rfl (hE.2 (Cond.fieldLinkNest RX8 203 "RailPendulum$Situation" "mode" "I" "RailPendulum") (by decide +kernel))
  have g_2 : ∀ w ∈ wsX60, w ∈ wsX8_switchModeIfDue := by decide +kernel
  have g_3 : (Cond.fieldLink RX8 10 "RailPendulum" "plant" "LRailPendulum$Plant;").before args s = true := hts (Cond.fieldLink RX8 10 "RailPendulum" "plant" "LRailPendulum$Plant;") (by decide +kernel)
  have g_4 : ∀ w ∈ wsX80, w ∈ wsX8_switchModeIfDue := by decide +kernel
  have g_5 : (Cond.fieldLinkNest RX8 109 "RailPendulum$Situation" "motion" "LRailPendulum$Motion;" "RailPendulum").before args s = true := va_Nw.use rfl (hE.2 (Cond.fieldLinkNest RX8 109 "RailPendulum$Situation" "motion" "LRailPendulum$Motion;" "RailPendulum") (by decide +kernel))
  have g_6 : (Cond.fieldLinkNest RX8 282 "RailPendulum$Situation" "switches" "I" "RailPendulum").before args s = true := va_Nw.use rfl (hE.2 (Cond.fieldLinkNest RX8 282 "RailPendulum$Situation" "switches" "I" "RailPendulum") (by decide +kernel))
  have g_7 : (Cond.fieldLinkNest RX8 130 "RailPendulum$Situation" "recent" "LRailPendulum$RecentSwitches;" "RailPendulum").before args s = true := va_Nw.use rfl (hE.2 (Cond.fieldLinkNest RX8 130 "RailPendulum$Situation" "recent" "LRailPendulum$RecentSwitches;" "RailPendulum") (by decide +kernel))
  have g_8 : (Cond.fieldLinkNest RX8 212 "RailPendulum$Situation" "lock" "I" "RailPendulum").before args s = true := va_Nw.use rfl (hE.2 (Cond.fieldLinkNest RX8 212 "RailPendulum$Situation" "lock" "I" "RailPendulum") (by decide +kernel))
  have hX : xD A [h, pl, an, si, mo, re, ar, af, rc] := xD.of hD rfl
  have hl : lv_has ls 2 [(0, .ref h), (1, .ref si)] := hl
  refine lv_aload_n hx hb dX8_switchModeIfDue_0 rfl (lv_at hl 1 rfl) ?_
  refine va_getN (D := E.1) (ci := 6) (v := .int mode) (C := RX6) (T := TX6) (N := 11) hx hb hts g_2 hown hE.1 hP 3 rfl rfl 4 (by decide) g_1 (fun _ h9 => h9) rfl dX8_switchModeIfDue_1 ?_
  refine lv_iconst (v := 1) hx hb dX8_switchModeIfDue_4 (by decide) ?_
  refine lv_icmp_ne (tgt := 31) hx hb dX8_switchModeIfDue_5 (by decide) (fun c_1 => ?_) (fun c_1 => ?_)
  · refine lv_aload_n hx hb dX8_switchModeIfDue_31 rfl (lv_at hl 1 rfl) ?_
    refine va_getN (D := E.1) (ci := 6) (v := .int mode) (C := RX6) (T := TX6) (N := 11) hx hb hts g_2 hown hE.1 hP 3 rfl rfl 4 (by decide) g_1 (fun _ h9 => h9) rfl dX8_switchModeIfDue_32 ?_
    refine lv_iconst (v := 2) hx hb dX8_switchModeIfDue_35 (by decide) ?_
    refine lv_icmp_ne (tgt := 63) hx hb dX8_switchModeIfDue_36 (by decide) (fun c_2 => ?_) (fun c_2 => ?_)
    · exact x_wv (mode, lock, switches, b1) (by unfold sX8_switchModeIfDue; rw [if_neg c_1]; rw [if_neg c_2]; try rfl) rfl hx hb hr hlk hS hP (hX.d rfl) [0, 1, 2, 3, 4, 5, 6, 7, 8] rfl rfl (Nat.le_of_ble_eq_true rfl) (Nat.le_of_ble_eq_true rfl) dX8_switchModeIfDue_63
    · refine lv_aload_n hx hb dX8_switchModeIfDue_39 rfl (lv_at hl 0 rfl) ?_
      refine va_get (D := E.1) (ci := 8) (v := .ref pl) (C := RX8) (T := TX8) (N := 9) hx hb hts g_4 hown hE.1 hP 0 rfl rfl 0 (by decide) g_3 (fun _ h9 => h9) rfl dX8_switchModeIfDue_40 ?_
      refine lv_aload_n hx hb dX8_switchModeIfDue_43 rfl (lv_at hl 1 rfl) ?_
      refine va_getN (D := E.1) (ci := 6) (v := .ref mo) (C := RX6) (T := TX6) (N := 11) hx hb hts g_2 hown hE.1 hP 3 rfl rfl 0 (by decide) g_5 (fun _ h9 => h9) rfl dX8_switchModeIfDue_44 ?_
      refine lv_bipush (v := 19) hx hb dX8_switchModeIfDue_47 (by decide) ?_
      refine x_rV [.ref mo, .int 19] (kX2_leansBeyond l E pl an num mo x v a1 a2 w1 w2 19) ⟨hx, hb, hml, hown, hts⟩ (cwV 2 hts gX8_switchModeIfDue_X2_leansBeyond rfl rfl rfl hdX2_leansBeyond ⟨Nat.le_of_ble_eq_true rfl, Nat.le_of_ble_eq_true rfl⟩) hE hP (hX.d rfl) [1, 2, 4] rfl rfl (ci := 2) (q0 := 1) rfl rfl rfl hl.1 rfl rfl (Nat.le_of_ble_eq_true rfl) dX8_switchModeIfDue_49 (Nat.le_of_ble_eq_true rfl) (Nat.le_of_ble_eq_true rfl) ?_
      refine lv_if_eq (tgt := 63) hx hb dX8_switchModeIfDue_52 (by decide) (fun c_3 => ?_) (fun c_3 => ?_)
      · exact x_wv (mode, lock, switches, b1) (by unfold sX8_switchModeIfDue; rw [if_neg c_1]; rw [if_pos c_2]; rw [if_pos c_3]; try rfl) rfl hx hb hr hlk hS hP (hX.d rfl) [0, 1, 2, 3, 4, 5, 6, 7, 8] rfl rfl (Nat.le_of_ble_eq_true rfl) (Nat.le_of_ble_eq_true rfl) dX8_switchModeIfDue_63
      · refine lv_aload_n hx hb dX8_switchModeIfDue_55 rfl (lv_at hl 1 rfl) ?_
        refine lv_iconst (v := 1) hx hb dX8_switchModeIfDue_56 (by decide) ?_
        refine va_putN (D := E.1) (ci := 6) (v := .int 1) (ty := .int) (C := RX6) (T := TX6) (N := 11) hx hb hts g_2 tyX6 tyX6_ok nmX6 hown hE.1 hP (hX.d rfl) hS 3 rfl rfl 4 (by decide) g_1 (fun _ h9 => h9) rfl (by decide +kernel) rfl rfl (Nat.le_of_ble_eq_true rfl) dX8_switchModeIfDue_57 (fun H locs hP _ hS => ?_)
        have hP : va_P E.1 vwCl [(h, .inr (8, [.ref pl, .ref rd, .ref nw, .ref ah, .ref tr, .ref hi, .ref s0, .ref s1, .int errorAt])), (pl, .inr (2, [.ref an])), (an, .inl (E.2.1, 24, .inl num)), (si, .inr (6, [.ref mo, .ref re, .ref rc, .int tick, .int 1, .int lock, .int force, .int switches, .int stops, .int resets, .int latestStop])), (mo, .inr (1, [.int x, .int v, .int a1, .int a2, .int w1, .int w2])), (re, .inr (5, [.ref ar, .ref af])), (ar, .inl (E.2.1, 49, .inl rs)), (af, .inl (E.2.1, 49, .inl fs)), (rc, .inr (4, [.long b1, .long b2, .long b3, .long b4]))] H := hP
        refine lv_goto (tgt := 64) hx hb dX8_switchModeIfDue_60 (by decide) ?_
        refine lv_aload_n hx hb dX8_switchModeIfDue_64 rfl (lv_at hl 1 rfl) ?_
        refine lv_dup hx hb dX8_switchModeIfDue_65 rfl ?_
        refine va_getN (D := E.1) (ci := 6) (v := .int switches) (C := RX6) (T := TX6) (N := 11) hx hb hts g_2 hown hE.1 hP 3 rfl rfl 7 (by decide) g_6 (fun _ h9 => h9) rfl dX8_switchModeIfDue_66 ?_
        refine lv_iconst (v := 1) hx hb dX8_switchModeIfDue_69 (by decide) ?_
        refine lv_iadd hx hb dX8_switchModeIfDue_70 ?_
        refine va_putN (D := E.1) (ci := 6) (v := .int (switches + 1)) (ty := .int) (C := RX6) (T := TX6) (N := 11) hx hb hts g_2 tyX6 tyX6_ok nmX6 hown hE.1 hP (hX.d rfl) hS 3 rfl rfl 7 (by decide) g_6 (fun _ h9 => h9) rfl (by decide +kernel) rfl rfl (Nat.le_of_ble_eq_true rfl) dX8_switchModeIfDue_71 (fun H locs hP _ hS => ?_)
        have hP : va_P E.1 vwCl [(h, .inr (8, [.ref pl, .ref rd, .ref nw, .ref ah, .ref tr, .ref hi, .ref s0, .ref s1, .int errorAt])), (pl, .inr (2, [.ref an])), (an, .inl (E.2.1, 24, .inl num)), (si, .inr (6, [.ref mo, .ref re, .ref rc, .int tick, .int 1, .int lock, .int force, .int (switches + 1), .int stops, .int resets, .int latestStop])), (mo, .inr (1, [.int x, .int v, .int a1, .int a2, .int w1, .int w2])), (re, .inr (5, [.ref ar, .ref af])), (ar, .inl (E.2.1, 49, .inl rs)), (af, .inl (E.2.1, 49, .inl fs)), (rc, .inr (4, [.long b1, .long b2, .long b3, .long b4]))] H := hP
        refine lv_aload_n hx hb dX8_switchModeIfDue_74 rfl (lv_at hl 1 rfl) ?_
        refine va_getN (D := E.1) (ci := 6) (v := .ref rc) (C := RX6) (T := TX6) (N := 11) hx hb hts g_2 hown hE.1 hP 3 rfl rfl 2 (by decide) g_7 (fun _ h9 => h9) rfl dX8_switchModeIfDue_75 ?_
        refine x_wV (wr := [(h, .inr (8, [.ref pl, .ref rd, .ref nw, .ref ah, .ref tr, .ref hi, .ref s0, .ref s1, .int errorAt])), (pl, .inr (2, [.ref an])), (an, .inl (E.2.1, 24, .inl num)), (si, .inr (6, [.ref mo, .ref re, .ref rc, .int tick, .int 1, .int lock, .int force, .int (switches + 1), .int stops, .int resets, .int latestStop])), (mo, .inr (1, [.int x, .int v, .int a1, .int a2, .int w1, .int w2])), (re, .inr (5, [.ref ar, .ref af])), (ar, .inl (E.2.1, 49, .inl rs)), (af, .inl (E.2.1, 49, .inl fs))]) [] (kX4_markTick l E rc b1 b2 b3 b4) ⟨hx, hb, hml, hown, hts⟩ (cwV 0 hts gX8_switchModeIfDue_X4_markTick rfl rfl rfl hdX4_markTick ⟨Nat.le_of_ble_eq_true rfl, Nat.le_of_ble_eq_true rfl⟩) hE hP (hX.d rfl) hS hA [8] [0, 1, 2, 3, 4, 5, 6, 7] rfl rfl rfl rfl (by decide) (ci := 4) (q0 := 8) rfl rfl rfl hl.1 rfl rfl (Nat.le_of_ble_eq_true rfl) dX8_switchModeIfDue_78 (Nat.le_of_ble_eq_true rfl) (Nat.le_of_ble_eq_true rfl) (fun q_4 H locs hq_4 hP hD hS => ?_)
        have hP : va_P E.1 vwCl [(h, .inr (8, [.ref pl, .ref rd, .ref nw, .ref ah, .ref tr, .ref hi, .ref s0, .ref s1, .int errorAt])), (pl, .inr (2, [.ref an])), (an, .inl (E.2.1, 24, .inl num)), (si, .inr (6, [.ref mo, .ref re, .ref rc, .int tick, .int 1, .int lock, .int force, .int (switches + 1), .int stops, .int resets, .int latestStop])), (mo, .inr (1, [.int x, .int v, .int a1, .int a2, .int w1, .int w2])), (re, .inr (5, [.ref ar, .ref af])), (ar, .inl (E.2.1, 49, .inl rs)), (af, .inl (E.2.1, 49, .inl fs)), (rc, .inr (4, [.long q_4, .long b2, .long b3, .long b4]))] H := hP
        have hX : xD A [h, pl, an, si, mo, re, ar, af, rc] := xD.of hD rfl
        refine W.eq (g2 := F0 m 81 ls []) rfl ?_
        refine lv_aload_n hx hb dX8_switchModeIfDue_81 rfl (lv_at hl 1 rfl) ?_
        refine va_getN (D := E.1) (ci := 6) (v := .ref rc) (C := RX6) (T := TX6) (N := 11) hx hb hts g_2 hown hE.1 hP 3 rfl rfl 2 (by decide) g_7 (fun _ h9 => h9) rfl dX8_switchModeIfDue_82 ?_
        refine lv_aload_n hx hb dX8_switchModeIfDue_85 rfl (lv_at hl 0 rfl) ?_
        refine va_get (D := E.1) (ci := 8) (v := .ref pl) (C := RX8) (T := TX8) (N := 9) hx hb hts g_4 hown hE.1 hP 0 rfl rfl 0 (by decide) g_3 (fun _ h9 => h9) rfl dX8_switchModeIfDue_86 ?_
        refine lv_bipush (v := 22) hx hb dX8_switchModeIfDue_89 (by decide) ?_
        refine x_rV [.int 22] (kX2_number l E pl an num 22) ⟨hx, hb, hml, hown, hts⟩ (cwV 1 hts gX8_switchModeIfDue_X2_number rfl rfl rfl hdX2_number ⟨Nat.le_of_ble_eq_true rfl, Nat.le_of_ble_eq_true rfl⟩) hE hP (hX.d rfl) [1, 2] rfl rfl (ci := 2) (q0 := 1) rfl rfl rfl hl.1 rfl rfl (Nat.le_of_ble_eq_true rfl) dX8_switchModeIfDue_91 (Nat.le_of_ble_eq_true rfl) (Nat.le_of_ble_eq_true rfl) ?_
        refine x_rV [.int (sX2_number num 22)] (kX4_countIn l E rc q_4 b2 b3 b4 (sX2_number num 22)) ⟨hx, hb, hml, hown, hts⟩ (cwV 1 hts gX8_switchModeIfDue_X4_countIn rfl rfl rfl hdX4_countIn ⟨Nat.le_of_ble_eq_true rfl, Nat.le_of_ble_eq_true rfl⟩) hE hP (hX.d rfl) [8] rfl rfl (ci := 4) (q0 := 8) rfl rfl rfl hl.1 rfl rfl (Nat.le_of_ble_eq_true rfl) dX8_switchModeIfDue_94 (Nat.le_of_ble_eq_true rfl) (Nat.le_of_ble_eq_true rfl) ?_
        refine lv_aload_n hx hb dX8_switchModeIfDue_97 rfl (lv_at hl 0 rfl) ?_
        refine va_get (D := E.1) (ci := 8) (v := .ref pl) (C := RX8) (T := TX8) (N := 9) hx hb hts g_4 hown hE.1 hP 0 rfl rfl 0 (by decide) g_3 (fun _ h9 => h9) rfl dX8_switchModeIfDue_98 ?_
        refine lv_bipush (v := 21) hx hb dX8_switchModeIfDue_101 (by decide) ?_
        refine x_rV [.int 21] (kX2_number l E pl an num 21) ⟨hx, hb, hml, hown, hts⟩ (cwV 1 hts gX8_switchModeIfDue_X2_number rfl rfl rfl hdX2_number ⟨Nat.le_of_ble_eq_true rfl, Nat.le_of_ble_eq_true rfl⟩) hE hP (hX.d rfl) [1, 2] rfl rfl (ci := 2) (q0 := 1) rfl rfl rfl hl.1 rfl rfl (Nat.le_of_ble_eq_true rfl) dX8_switchModeIfDue_103 (Nat.le_of_ble_eq_true rfl) (Nat.le_of_ble_eq_true rfl) ?_
        refine lv_icmp_le (tgt := 127) hx hb dX8_switchModeIfDue_106 (by decide) (fun c_5 => ?_) (fun c_5 => ?_)
        · exact x_wv (1, lock, switches + 1, q_4) (by unfold sX8_switchModeIfDue; rw [if_neg c_1]; rw [if_pos c_2]; rw [if_neg c_3]; rw [← hq_4]; unfold sX8_switchModeIfDue_q_4; rw [if_pos c_5]; try rfl) rfl hx hb hr hlk hS hP (hX.d rfl) [0, 1, 2, 3, 4, 5, 6, 7, 8] rfl rfl (Nat.le_of_ble_eq_true rfl) (Nat.le_of_ble_eq_true rfl) dX8_switchModeIfDue_127
        · refine lv_aload_n hx hb dX8_switchModeIfDue_109 rfl (lv_at hl 1 rfl) ?_
          refine lv_iconst (v := 1) hx hb dX8_switchModeIfDue_110 (by decide) ?_
          refine va_putN (D := E.1) (ci := 6) (v := .int 1) (ty := .int) (C := RX6) (T := TX6) (N := 11) hx hb hts g_2 tyX6 tyX6_ok nmX6 hown hE.1 hP (hX.d rfl) hS 3 rfl rfl 4 (by decide) g_1 (fun _ h9 => h9) rfl (by decide +kernel) rfl rfl (Nat.le_of_ble_eq_true rfl) dX8_switchModeIfDue_111 (fun H locs hP _ hS => ?_)
          have hP : va_P E.1 vwCl [(h, .inr (8, [.ref pl, .ref rd, .ref nw, .ref ah, .ref tr, .ref hi, .ref s0, .ref s1, .int errorAt])), (pl, .inr (2, [.ref an])), (an, .inl (E.2.1, 24, .inl num)), (si, .inr (6, [.ref mo, .ref re, .ref rc, .int tick, .int 1, .int lock, .int force, .int (switches + 1), .int stops, .int resets, .int latestStop])), (mo, .inr (1, [.int x, .int v, .int a1, .int a2, .int w1, .int w2])), (re, .inr (5, [.ref ar, .ref af])), (ar, .inl (E.2.1, 49, .inl rs)), (af, .inl (E.2.1, 49, .inl fs)), (rc, .inr (4, [.long q_4, .long b2, .long b3, .long b4]))] H := hP
          refine lv_aload_n hx hb dX8_switchModeIfDue_114 rfl (lv_at hl 1 rfl) ?_
          refine lv_aload_n hx hb dX8_switchModeIfDue_115 rfl (lv_at hl 0 rfl) ?_
          refine va_get (D := E.1) (ci := 8) (v := .ref pl) (C := RX8) (T := TX8) (N := 9) hx hb hts g_4 hown hE.1 hP 0 rfl rfl 0 (by decide) g_3 (fun _ h9 => h9) rfl dX8_switchModeIfDue_116 ?_
          refine lv_bipush (v := 23) hx hb dX8_switchModeIfDue_119 (by decide) ?_
          refine x_rV [.int 23] (kX2_number l E pl an num 23) ⟨hx, hb, hml, hown, hts⟩ (cwV 1 hts gX8_switchModeIfDue_X2_number rfl rfl rfl hdX2_number ⟨Nat.le_of_ble_eq_true rfl, Nat.le_of_ble_eq_true rfl⟩) hE hP (hX.d rfl) [1, 2] rfl rfl (ci := 2) (q0 := 1) rfl rfl rfl hl.1 rfl rfl (Nat.le_of_ble_eq_true rfl) dX8_switchModeIfDue_121 (Nat.le_of_ble_eq_true rfl) (Nat.le_of_ble_eq_true rfl) ?_
          refine va_putN (D := E.1) (ci := 6) (v := .int (sX2_number num 23)) (ty := .int) (C := RX6) (T := TX6) (N := 11) hx hb hts g_2 tyX6 tyX6_ok nmX6 hown hE.1 hP (hX.d rfl) hS 3 rfl rfl 5 (by decide) g_8 (fun _ h9 => h9) rfl (by decide +kernel) rfl rfl (Nat.le_of_ble_eq_true rfl) dX8_switchModeIfDue_124 (fun H locs hP _ hS => ?_)
          have hP : va_P E.1 vwCl [(h, .inr (8, [.ref pl, .ref rd, .ref nw, .ref ah, .ref tr, .ref hi, .ref s0, .ref s1, .int errorAt])), (pl, .inr (2, [.ref an])), (an, .inl (E.2.1, 24, .inl num)), (si, .inr (6, [.ref mo, .ref re, .ref rc, .int tick, .int 1, .int (sX2_number num 23), .int force, .int (switches + 1), .int stops, .int resets, .int latestStop])), (mo, .inr (1, [.int x, .int v, .int a1, .int a2, .int w1, .int w2])), (re, .inr (5, [.ref ar, .ref af])), (ar, .inl (E.2.1, 49, .inl rs)), (af, .inl (E.2.1, 49, .inl fs)), (rc, .inr (4, [.long q_4, .long b2, .long b3, .long b4]))] H := hP
          exact x_wv (1, sX2_number num 23, switches + 1, q_4) (by unfold sX8_switchModeIfDue; rw [if_neg c_1]; rw [if_pos c_2]; rw [if_neg c_3]; rw [← hq_4]; unfold sX8_switchModeIfDue_q_4; rw [if_neg c_5]; try rfl) rfl hx hb hr hlk hS hP (hX.d rfl) [0, 1, 2, 3, 4, 5, 6, 7, 8] rfl rfl (Nat.le_of_ble_eq_true rfl) (Nat.le_of_ble_eq_true rfl) dX8_switchModeIfDue_127
  · refine lv_aload_n hx hb dX8_switchModeIfDue_8 rfl (lv_at hl 1 rfl) ?_
    refine va_getN (D := E.1) (ci := 6) (v := .int lock) (C := RX6) (T := TX6) (N := 11) hx hb hts g_2 hown hE.1 hP 3 rfl rfl 5 (by decide) g_8 (fun _ h9 => h9) rfl dX8_switchModeIfDue_9 ?_
    refine lv_if_ne (tgt := 31) hx hb dX8_switchModeIfDue_12 (by decide) (fun c_6 => ?_) (fun c_6 => ?_)
    · refine lv_aload_n hx hb dX8_switchModeIfDue_31 rfl (lv_at hl 1 rfl) ?_
      refine va_getN (D := E.1) (ci := 6) (v := .int mode) (C := RX6) (T := TX6) (N := 11) hx hb hts g_2 hown hE.1 hP 3 rfl rfl 4 (by decide) g_1 (fun _ h9 => h9) rfl dX8_switchModeIfDue_32 ?_
      refine lv_iconst (v := 2) hx hb dX8_switchModeIfDue_35 (by decide) ?_
      refine lv_icmp_ne (tgt := 63) hx hb dX8_switchModeIfDue_36 (by decide) (fun c_7 => ?_) (fun c_7 => ?_)
      · exact x_wv (mode, lock, switches, b1) (by unfold sX8_switchModeIfDue; rw [if_pos c_1]; rw [if_neg c_6]; rw [if_neg c_7]; try rfl) rfl hx hb hr hlk hS hP (hX.d rfl) [0, 1, 2, 3, 4, 5, 6, 7, 8] rfl rfl (Nat.le_of_ble_eq_true rfl) (Nat.le_of_ble_eq_true rfl) dX8_switchModeIfDue_63
      · refine lv_aload_n hx hb dX8_switchModeIfDue_39 rfl (lv_at hl 0 rfl) ?_
        refine va_get (D := E.1) (ci := 8) (v := .ref pl) (C := RX8) (T := TX8) (N := 9) hx hb hts g_4 hown hE.1 hP 0 rfl rfl 0 (by decide) g_3 (fun _ h9 => h9) rfl dX8_switchModeIfDue_40 ?_
        refine lv_aload_n hx hb dX8_switchModeIfDue_43 rfl (lv_at hl 1 rfl) ?_
        refine va_getN (D := E.1) (ci := 6) (v := .ref mo) (C := RX6) (T := TX6) (N := 11) hx hb hts g_2 hown hE.1 hP 3 rfl rfl 0 (by decide) g_5 (fun _ h9 => h9) rfl dX8_switchModeIfDue_44 ?_
        refine lv_bipush (v := 19) hx hb dX8_switchModeIfDue_47 (by decide) ?_
        refine x_rV [.ref mo, .int 19] (kX2_leansBeyond l E pl an num mo x v a1 a2 w1 w2 19) ⟨hx, hb, hml, hown, hts⟩ (cwV 2 hts gX8_switchModeIfDue_X2_leansBeyond rfl rfl rfl hdX2_leansBeyond ⟨Nat.le_of_ble_eq_true rfl, Nat.le_of_ble_eq_true rfl⟩) hE hP (hX.d rfl) [1, 2, 4] rfl rfl (ci := 2) (q0 := 1) rfl rfl rfl hl.1 rfl rfl (Nat.le_of_ble_eq_true rfl) dX8_switchModeIfDue_49 (Nat.le_of_ble_eq_true rfl) (Nat.le_of_ble_eq_true rfl) ?_
        refine lv_if_eq (tgt := 63) hx hb dX8_switchModeIfDue_52 (by decide) (fun c_8 => ?_) (fun c_8 => ?_)
        · exact x_wv (mode, lock, switches, b1) (by unfold sX8_switchModeIfDue; rw [if_pos c_1]; rw [if_neg c_6]; rw [if_pos c_7]; rw [if_pos c_8]; try rfl) rfl hx hb hr hlk hS hP (hX.d rfl) [0, 1, 2, 3, 4, 5, 6, 7, 8] rfl rfl (Nat.le_of_ble_eq_true rfl) (Nat.le_of_ble_eq_true rfl) dX8_switchModeIfDue_63
        · refine lv_aload_n hx hb dX8_switchModeIfDue_55 rfl (lv_at hl 1 rfl) ?_
          refine lv_iconst (v := 1) hx hb dX8_switchModeIfDue_56 (by decide) ?_
          refine va_putN (D := E.1) (ci := 6) (v := .int 1) (ty := .int) (C := RX6) (T := TX6) (N := 11) hx hb hts g_2 tyX6 tyX6_ok nmX6 hown hE.1 hP (hX.d rfl) hS 3 rfl rfl 4 (by decide) g_1 (fun _ h9 => h9) rfl (by decide +kernel) rfl rfl (Nat.le_of_ble_eq_true rfl) dX8_switchModeIfDue_57 (fun H locs hP _ hS => ?_)
          have hP : va_P E.1 vwCl [(h, .inr (8, [.ref pl, .ref rd, .ref nw, .ref ah, .ref tr, .ref hi, .ref s0, .ref s1, .int errorAt])), (pl, .inr (2, [.ref an])), (an, .inl (E.2.1, 24, .inl num)), (si, .inr (6, [.ref mo, .ref re, .ref rc, .int tick, .int 1, .int lock, .int force, .int switches, .int stops, .int resets, .int latestStop])), (mo, .inr (1, [.int x, .int v, .int a1, .int a2, .int w1, .int w2])), (re, .inr (5, [.ref ar, .ref af])), (ar, .inl (E.2.1, 49, .inl rs)), (af, .inl (E.2.1, 49, .inl fs)), (rc, .inr (4, [.long b1, .long b2, .long b3, .long b4]))] H := hP
          refine lv_goto (tgt := 64) hx hb dX8_switchModeIfDue_60 (by decide) ?_
          refine lv_aload_n hx hb dX8_switchModeIfDue_64 rfl (lv_at hl 1 rfl) ?_
          refine lv_dup hx hb dX8_switchModeIfDue_65 rfl ?_
          refine va_getN (D := E.1) (ci := 6) (v := .int switches) (C := RX6) (T := TX6) (N := 11) hx hb hts g_2 hown hE.1 hP 3 rfl rfl 7 (by decide) g_6 (fun _ h9 => h9) rfl dX8_switchModeIfDue_66 ?_
          refine lv_iconst (v := 1) hx hb dX8_switchModeIfDue_69 (by decide) ?_
          refine lv_iadd hx hb dX8_switchModeIfDue_70 ?_
          refine va_putN (D := E.1) (ci := 6) (v := .int (switches + 1)) (ty := .int) (C := RX6) (T := TX6) (N := 11) hx hb hts g_2 tyX6 tyX6_ok nmX6 hown hE.1 hP (hX.d rfl) hS 3 rfl rfl 7 (by decide) g_6 (fun _ h9 => h9) rfl (by decide +kernel) rfl rfl (Nat.le_of_ble_eq_true rfl) dX8_switchModeIfDue_71 (fun H locs hP _ hS => ?_)
          have hP : va_P E.1 vwCl [(h, .inr (8, [.ref pl, .ref rd, .ref nw, .ref ah, .ref tr, .ref hi, .ref s0, .ref s1, .int errorAt])), (pl, .inr (2, [.ref an])), (an, .inl (E.2.1, 24, .inl num)), (si, .inr (6, [.ref mo, .ref re, .ref rc, .int tick, .int 1, .int lock, .int force, .int (switches + 1), .int stops, .int resets, .int latestStop])), (mo, .inr (1, [.int x, .int v, .int a1, .int a2, .int w1, .int w2])), (re, .inr (5, [.ref ar, .ref af])), (ar, .inl (E.2.1, 49, .inl rs)), (af, .inl (E.2.1, 49, .inl fs)), (rc, .inr (4, [.long b1, .long b2, .long b3, .long b4]))] H := hP
          refine lv_aload_n hx hb dX8_switchModeIfDue_74 rfl (lv_at hl 1 rfl) ?_
          refine va_getN (D := E.1) (ci := 6) (v := .ref rc) (C := RX6) (T := TX6) (N := 11) hx hb hts g_2 hown hE.1 hP 3 rfl rfl 2 (by decide) g_7 (fun _ h9 => h9) rfl dX8_switchModeIfDue_75 ?_
          refine x_wV (wr := [(h, .inr (8, [.ref pl, .ref rd, .ref nw, .ref ah, .ref tr, .ref hi, .ref s0, .ref s1, .int errorAt])), (pl, .inr (2, [.ref an])), (an, .inl (E.2.1, 24, .inl num)), (si, .inr (6, [.ref mo, .ref re, .ref rc, .int tick, .int 1, .int lock, .int force, .int (switches + 1), .int stops, .int resets, .int latestStop])), (mo, .inr (1, [.int x, .int v, .int a1, .int a2, .int w1, .int w2])), (re, .inr (5, [.ref ar, .ref af])), (ar, .inl (E.2.1, 49, .inl rs)), (af, .inl (E.2.1, 49, .inl fs))]) [] (kX4_markTick l E rc b1 b2 b3 b4) ⟨hx, hb, hml, hown, hts⟩ (cwV 0 hts gX8_switchModeIfDue_X4_markTick rfl rfl rfl hdX4_markTick ⟨Nat.le_of_ble_eq_true rfl, Nat.le_of_ble_eq_true rfl⟩) hE hP (hX.d rfl) hS hA [8] [0, 1, 2, 3, 4, 5, 6, 7] rfl rfl rfl rfl (by decide) (ci := 4) (q0 := 8) rfl rfl rfl hl.1 rfl rfl (Nat.le_of_ble_eq_true rfl) dX8_switchModeIfDue_78 (Nat.le_of_ble_eq_true rfl) (Nat.le_of_ble_eq_true rfl) (fun q_9 H locs hq_9 hP hD hS => ?_)
          have hP : va_P E.1 vwCl [(h, .inr (8, [.ref pl, .ref rd, .ref nw, .ref ah, .ref tr, .ref hi, .ref s0, .ref s1, .int errorAt])), (pl, .inr (2, [.ref an])), (an, .inl (E.2.1, 24, .inl num)), (si, .inr (6, [.ref mo, .ref re, .ref rc, .int tick, .int 1, .int lock, .int force, .int (switches + 1), .int stops, .int resets, .int latestStop])), (mo, .inr (1, [.int x, .int v, .int a1, .int a2, .int w1, .int w2])), (re, .inr (5, [.ref ar, .ref af])), (ar, .inl (E.2.1, 49, .inl rs)), (af, .inl (E.2.1, 49, .inl fs)), (rc, .inr (4, [.long q_9, .long b2, .long b3, .long b4]))] H := hP
          have hX : xD A [h, pl, an, si, mo, re, ar, af, rc] := xD.of hD rfl
          refine W.eq (g2 := F0 m 81 ls []) rfl ?_
          refine lv_aload_n hx hb dX8_switchModeIfDue_81 rfl (lv_at hl 1 rfl) ?_
          refine va_getN (D := E.1) (ci := 6) (v := .ref rc) (C := RX6) (T := TX6) (N := 11) hx hb hts g_2 hown hE.1 hP 3 rfl rfl 2 (by decide) g_7 (fun _ h9 => h9) rfl dX8_switchModeIfDue_82 ?_
          refine lv_aload_n hx hb dX8_switchModeIfDue_85 rfl (lv_at hl 0 rfl) ?_
          refine va_get (D := E.1) (ci := 8) (v := .ref pl) (C := RX8) (T := TX8) (N := 9) hx hb hts g_4 hown hE.1 hP 0 rfl rfl 0 (by decide) g_3 (fun _ h9 => h9) rfl dX8_switchModeIfDue_86 ?_
          refine lv_bipush (v := 22) hx hb dX8_switchModeIfDue_89 (by decide) ?_
          refine x_rV [.int 22] (kX2_number l E pl an num 22) ⟨hx, hb, hml, hown, hts⟩ (cwV 1 hts gX8_switchModeIfDue_X2_number rfl rfl rfl hdX2_number ⟨Nat.le_of_ble_eq_true rfl, Nat.le_of_ble_eq_true rfl⟩) hE hP (hX.d rfl) [1, 2] rfl rfl (ci := 2) (q0 := 1) rfl rfl rfl hl.1 rfl rfl (Nat.le_of_ble_eq_true rfl) dX8_switchModeIfDue_91 (Nat.le_of_ble_eq_true rfl) (Nat.le_of_ble_eq_true rfl) ?_
          refine x_rV [.int (sX2_number num 22)] (kX4_countIn l E rc q_9 b2 b3 b4 (sX2_number num 22)) ⟨hx, hb, hml, hown, hts⟩ (cwV 1 hts gX8_switchModeIfDue_X4_countIn rfl rfl rfl hdX4_countIn ⟨Nat.le_of_ble_eq_true rfl, Nat.le_of_ble_eq_true rfl⟩) hE hP (hX.d rfl) [8] rfl rfl (ci := 4) (q0 := 8) rfl rfl rfl hl.1 rfl rfl (Nat.le_of_ble_eq_true rfl) dX8_switchModeIfDue_94 (Nat.le_of_ble_eq_true rfl) (Nat.le_of_ble_eq_true rfl) ?_
          refine lv_aload_n hx hb dX8_switchModeIfDue_97 rfl (lv_at hl 0 rfl) ?_
          refine va_get (D := E.1) (ci := 8) (v := .ref pl) (C := RX8) (T := TX8) (N := 9) hx hb hts g_4 hown hE.1 hP 0 rfl rfl 0 (by decide) g_3 (fun _ h9 => h9) rfl dX8_switchModeIfDue_98 ?_
          refine lv_bipush (v := 21) hx hb dX8_switchModeIfDue_101 (by decide) ?_
          refine x_rV [.int 21] (kX2_number l E pl an num 21) ⟨hx, hb, hml, hown, hts⟩ (cwV 1 hts gX8_switchModeIfDue_X2_number rfl rfl rfl hdX2_number ⟨Nat.le_of_ble_eq_true rfl, Nat.le_of_ble_eq_true rfl⟩) hE hP (hX.d rfl) [1, 2] rfl rfl (ci := 2) (q0 := 1) rfl rfl rfl hl.1 rfl rfl (Nat.le_of_ble_eq_true rfl) dX8_switchModeIfDue_103 (Nat.le_of_ble_eq_true rfl) (Nat.le_of_ble_eq_true rfl) ?_
          refine lv_icmp_le (tgt := 127) hx hb dX8_switchModeIfDue_106 (by decide) (fun c_10 => ?_) (fun c_10 => ?_)
          · exact x_wv (1, lock, switches + 1, q_9) (by unfold sX8_switchModeIfDue; rw [if_pos c_1]; rw [if_neg c_6]; rw [if_pos c_7]; rw [if_neg c_8]; rw [← hq_9]; unfold sX8_switchModeIfDue_q_9; rw [if_pos c_10]; try rfl) rfl hx hb hr hlk hS hP (hX.d rfl) [0, 1, 2, 3, 4, 5, 6, 7, 8] rfl rfl (Nat.le_of_ble_eq_true rfl) (Nat.le_of_ble_eq_true rfl) dX8_switchModeIfDue_127
          · refine lv_aload_n hx hb dX8_switchModeIfDue_109 rfl (lv_at hl 1 rfl) ?_
            refine lv_iconst (v := 1) hx hb dX8_switchModeIfDue_110 (by decide) ?_
            refine va_putN (D := E.1) (ci := 6) (v := .int 1) (ty := .int) (C := RX6) (T := TX6) (N := 11) hx hb hts g_2 tyX6 tyX6_ok nmX6 hown hE.1 hP (hX.d rfl) hS 3 rfl rfl 4 (by decide) g_1 (fun _ h9 => h9) rfl (by decide +kernel) rfl rfl (Nat.le_of_ble_eq_true rfl) dX8_switchModeIfDue_111 (fun H locs hP _ hS => ?_)
            have hP : va_P E.1 vwCl [(h, .inr (8, [.ref pl, .ref rd, .ref nw, .ref ah, .ref tr, .ref hi, .ref s0, .ref s1, .int errorAt])), (pl, .inr (2, [.ref an])), (an, .inl (E.2.1, 24, .inl num)), (si, .inr (6, [.ref mo, .ref re, .ref rc, .int tick, .int 1, .int lock, .int force, .int (switches + 1), .int stops, .int resets, .int latestStop])), (mo, .inr (1, [.int x, .int v, .int a1, .int a2, .int w1, .int w2])), (re, .inr (5, [.ref ar, .ref af])), (ar, .inl (E.2.1, 49, .inl rs)), (af, .inl (E.2.1, 49, .inl fs)), (rc, .inr (4, [.long q_9, .long b2, .long b3, .long b4]))] H := hP
            refine lv_aload_n hx hb dX8_switchModeIfDue_114 rfl (lv_at hl 1 rfl) ?_
            refine lv_aload_n hx hb dX8_switchModeIfDue_115 rfl (lv_at hl 0 rfl) ?_
            refine va_get (D := E.1) (ci := 8) (v := .ref pl) (C := RX8) (T := TX8) (N := 9) hx hb hts g_4 hown hE.1 hP 0 rfl rfl 0 (by decide) g_3 (fun _ h9 => h9) rfl dX8_switchModeIfDue_116 ?_
            refine lv_bipush (v := 23) hx hb dX8_switchModeIfDue_119 (by decide) ?_
            refine x_rV [.int 23] (kX2_number l E pl an num 23) ⟨hx, hb, hml, hown, hts⟩ (cwV 1 hts gX8_switchModeIfDue_X2_number rfl rfl rfl hdX2_number ⟨Nat.le_of_ble_eq_true rfl, Nat.le_of_ble_eq_true rfl⟩) hE hP (hX.d rfl) [1, 2] rfl rfl (ci := 2) (q0 := 1) rfl rfl rfl hl.1 rfl rfl (Nat.le_of_ble_eq_true rfl) dX8_switchModeIfDue_121 (Nat.le_of_ble_eq_true rfl) (Nat.le_of_ble_eq_true rfl) ?_
            refine va_putN (D := E.1) (ci := 6) (v := .int (sX2_number num 23)) (ty := .int) (C := RX6) (T := TX6) (N := 11) hx hb hts g_2 tyX6 tyX6_ok nmX6 hown hE.1 hP (hX.d rfl) hS 3 rfl rfl 5 (by decide) g_8 (fun _ h9 => h9) rfl (by decide +kernel) rfl rfl (Nat.le_of_ble_eq_true rfl) dX8_switchModeIfDue_124 (fun H locs hP _ hS => ?_)
            have hP : va_P E.1 vwCl [(h, .inr (8, [.ref pl, .ref rd, .ref nw, .ref ah, .ref tr, .ref hi, .ref s0, .ref s1, .int errorAt])), (pl, .inr (2, [.ref an])), (an, .inl (E.2.1, 24, .inl num)), (si, .inr (6, [.ref mo, .ref re, .ref rc, .int tick, .int 1, .int (sX2_number num 23), .int force, .int (switches + 1), .int stops, .int resets, .int latestStop])), (mo, .inr (1, [.int x, .int v, .int a1, .int a2, .int w1, .int w2])), (re, .inr (5, [.ref ar, .ref af])), (ar, .inl (E.2.1, 49, .inl rs)), (af, .inl (E.2.1, 49, .inl fs)), (rc, .inr (4, [.long q_9, .long b2, .long b3, .long b4]))] H := hP
            exact x_wv (1, sX2_number num 23, switches + 1, q_9) (by unfold sX8_switchModeIfDue; rw [if_pos c_1]; rw [if_neg c_6]; rw [if_pos c_7]; rw [if_neg c_8]; rw [← hq_9]; unfold sX8_switchModeIfDue_q_9; rw [if_neg c_10]; try rfl) rfl hx hb hr hlk hS hP (hX.d rfl) [0, 1, 2, 3, 4, 5, 6, 7, 8] rfl rfl (Nat.le_of_ble_eq_true rfl) (Nat.le_of_ble_eq_true rfl) dX8_switchModeIfDue_127
    · refine lv_aload_n hx hb dX8_switchModeIfDue_15 rfl (lv_at hl 0 rfl) ?_
      refine lv_aload_n hx hb dX8_switchModeIfDue_16 rfl (lv_at hl 1 rfl) ?_
      refine x_rV [.ref si] (kX8_canCapture l E h pl rd nw ah tr hi s0 s1 errorAt an num si mo re rc tick mode lock force switches stops resets latestStop x v a1 a2 w1 w2 ar af rs fs b1 b2 b3 b4 hz1 hz2) ⟨hx, hb, hml, hown, hts⟩ (cwV 1 hts gX8_switchModeIfDue_X8_canCapture rfl rfl rfl hdX8_canCapture ⟨Nat.le_of_ble_eq_true rfl, Nat.le_of_ble_eq_true rfl⟩) hE hP (hX.d rfl) [0, 1, 2, 3, 4, 5, 6, 7, 8] rfl rfl (ci := 8) (q0 := 0) rfl rfl rfl hl.1 rfl rfl (Nat.le_of_ble_eq_true rfl) dX8_switchModeIfDue_17 (Nat.le_of_ble_eq_true rfl) (Nat.le_of_ble_eq_true rfl) ?_
      refine lv_if_eq (tgt := 31) hx hb dX8_switchModeIfDue_20 (by decide) (fun c_11 => ?_) (fun c_11 => ?_)
      · refine lv_aload_n hx hb dX8_switchModeIfDue_31 rfl (lv_at hl 1 rfl) ?_
        refine va_getN (D := E.1) (ci := 6) (v := .int mode) (C := RX6) (T := TX6) (N := 11) hx hb hts g_2 hown hE.1 hP 3 rfl rfl 4 (by decide) g_1 (fun _ h9 => h9) rfl dX8_switchModeIfDue_32 ?_
        refine lv_iconst (v := 2) hx hb dX8_switchModeIfDue_35 (by decide) ?_
        refine lv_icmp_ne (tgt := 63) hx hb dX8_switchModeIfDue_36 (by decide) (fun c_12 => ?_) (fun c_12 => ?_)
        · exact x_wv (mode, lock, switches, b1) (by unfold sX8_switchModeIfDue; rw [if_pos c_1]; rw [if_pos c_6]; rw [if_pos c_11]; rw [if_neg c_12]; try rfl) rfl hx hb hr hlk hS hP (hX.d rfl) [0, 1, 2, 3, 4, 5, 6, 7, 8] rfl rfl (Nat.le_of_ble_eq_true rfl) (Nat.le_of_ble_eq_true rfl) dX8_switchModeIfDue_63
        · refine lv_aload_n hx hb dX8_switchModeIfDue_39 rfl (lv_at hl 0 rfl) ?_
          refine va_get (D := E.1) (ci := 8) (v := .ref pl) (C := RX8) (T := TX8) (N := 9) hx hb hts g_4 hown hE.1 hP 0 rfl rfl 0 (by decide) g_3 (fun _ h9 => h9) rfl dX8_switchModeIfDue_40 ?_
          refine lv_aload_n hx hb dX8_switchModeIfDue_43 rfl (lv_at hl 1 rfl) ?_
          refine va_getN (D := E.1) (ci := 6) (v := .ref mo) (C := RX6) (T := TX6) (N := 11) hx hb hts g_2 hown hE.1 hP 3 rfl rfl 0 (by decide) g_5 (fun _ h9 => h9) rfl dX8_switchModeIfDue_44 ?_
          refine lv_bipush (v := 19) hx hb dX8_switchModeIfDue_47 (by decide) ?_
          refine x_rV [.ref mo, .int 19] (kX2_leansBeyond l E pl an num mo x v a1 a2 w1 w2 19) ⟨hx, hb, hml, hown, hts⟩ (cwV 2 hts gX8_switchModeIfDue_X2_leansBeyond rfl rfl rfl hdX2_leansBeyond ⟨Nat.le_of_ble_eq_true rfl, Nat.le_of_ble_eq_true rfl⟩) hE hP (hX.d rfl) [1, 2, 4] rfl rfl (ci := 2) (q0 := 1) rfl rfl rfl hl.1 rfl rfl (Nat.le_of_ble_eq_true rfl) dX8_switchModeIfDue_49 (Nat.le_of_ble_eq_true rfl) (Nat.le_of_ble_eq_true rfl) ?_
          refine lv_if_eq (tgt := 63) hx hb dX8_switchModeIfDue_52 (by decide) (fun c_13 => ?_) (fun c_13 => ?_)
          · exact x_wv (mode, lock, switches, b1) (by unfold sX8_switchModeIfDue; rw [if_pos c_1]; rw [if_pos c_6]; rw [if_pos c_11]; rw [if_pos c_12]; rw [if_pos c_13]; try rfl) rfl hx hb hr hlk hS hP (hX.d rfl) [0, 1, 2, 3, 4, 5, 6, 7, 8] rfl rfl (Nat.le_of_ble_eq_true rfl) (Nat.le_of_ble_eq_true rfl) dX8_switchModeIfDue_63
          · refine lv_aload_n hx hb dX8_switchModeIfDue_55 rfl (lv_at hl 1 rfl) ?_
            refine lv_iconst (v := 1) hx hb dX8_switchModeIfDue_56 (by decide) ?_
            refine va_putN (D := E.1) (ci := 6) (v := .int 1) (ty := .int) (C := RX6) (T := TX6) (N := 11) hx hb hts g_2 tyX6 tyX6_ok nmX6 hown hE.1 hP (hX.d rfl) hS 3 rfl rfl 4 (by decide) g_1 (fun _ h9 => h9) rfl (by decide +kernel) rfl rfl (Nat.le_of_ble_eq_true rfl) dX8_switchModeIfDue_57 (fun H locs hP _ hS => ?_)
            have hP : va_P E.1 vwCl [(h, .inr (8, [.ref pl, .ref rd, .ref nw, .ref ah, .ref tr, .ref hi, .ref s0, .ref s1, .int errorAt])), (pl, .inr (2, [.ref an])), (an, .inl (E.2.1, 24, .inl num)), (si, .inr (6, [.ref mo, .ref re, .ref rc, .int tick, .int 1, .int lock, .int force, .int switches, .int stops, .int resets, .int latestStop])), (mo, .inr (1, [.int x, .int v, .int a1, .int a2, .int w1, .int w2])), (re, .inr (5, [.ref ar, .ref af])), (ar, .inl (E.2.1, 49, .inl rs)), (af, .inl (E.2.1, 49, .inl fs)), (rc, .inr (4, [.long b1, .long b2, .long b3, .long b4]))] H := hP
            refine lv_goto (tgt := 64) hx hb dX8_switchModeIfDue_60 (by decide) ?_
            refine lv_aload_n hx hb dX8_switchModeIfDue_64 rfl (lv_at hl 1 rfl) ?_
            refine lv_dup hx hb dX8_switchModeIfDue_65 rfl ?_
            refine va_getN (D := E.1) (ci := 6) (v := .int switches) (C := RX6) (T := TX6) (N := 11) hx hb hts g_2 hown hE.1 hP 3 rfl rfl 7 (by decide) g_6 (fun _ h9 => h9) rfl dX8_switchModeIfDue_66 ?_
            refine lv_iconst (v := 1) hx hb dX8_switchModeIfDue_69 (by decide) ?_
            refine lv_iadd hx hb dX8_switchModeIfDue_70 ?_
            refine va_putN (D := E.1) (ci := 6) (v := .int (switches + 1)) (ty := .int) (C := RX6) (T := TX6) (N := 11) hx hb hts g_2 tyX6 tyX6_ok nmX6 hown hE.1 hP (hX.d rfl) hS 3 rfl rfl 7 (by decide) g_6 (fun _ h9 => h9) rfl (by decide +kernel) rfl rfl (Nat.le_of_ble_eq_true rfl) dX8_switchModeIfDue_71 (fun H locs hP _ hS => ?_)
            have hP : va_P E.1 vwCl [(h, .inr (8, [.ref pl, .ref rd, .ref nw, .ref ah, .ref tr, .ref hi, .ref s0, .ref s1, .int errorAt])), (pl, .inr (2, [.ref an])), (an, .inl (E.2.1, 24, .inl num)), (si, .inr (6, [.ref mo, .ref re, .ref rc, .int tick, .int 1, .int lock, .int force, .int (switches + 1), .int stops, .int resets, .int latestStop])), (mo, .inr (1, [.int x, .int v, .int a1, .int a2, .int w1, .int w2])), (re, .inr (5, [.ref ar, .ref af])), (ar, .inl (E.2.1, 49, .inl rs)), (af, .inl (E.2.1, 49, .inl fs)), (rc, .inr (4, [.long b1, .long b2, .long b3, .long b4]))] H := hP
            refine lv_aload_n hx hb dX8_switchModeIfDue_74 rfl (lv_at hl 1 rfl) ?_
            refine va_getN (D := E.1) (ci := 6) (v := .ref rc) (C := RX6) (T := TX6) (N := 11) hx hb hts g_2 hown hE.1 hP 3 rfl rfl 2 (by decide) g_7 (fun _ h9 => h9) rfl dX8_switchModeIfDue_75 ?_
            refine x_wV (wr := [(h, .inr (8, [.ref pl, .ref rd, .ref nw, .ref ah, .ref tr, .ref hi, .ref s0, .ref s1, .int errorAt])), (pl, .inr (2, [.ref an])), (an, .inl (E.2.1, 24, .inl num)), (si, .inr (6, [.ref mo, .ref re, .ref rc, .int tick, .int 1, .int lock, .int force, .int (switches + 1), .int stops, .int resets, .int latestStop])), (mo, .inr (1, [.int x, .int v, .int a1, .int a2, .int w1, .int w2])), (re, .inr (5, [.ref ar, .ref af])), (ar, .inl (E.2.1, 49, .inl rs)), (af, .inl (E.2.1, 49, .inl fs))]) [] (kX4_markTick l E rc b1 b2 b3 b4) ⟨hx, hb, hml, hown, hts⟩ (cwV 0 hts gX8_switchModeIfDue_X4_markTick rfl rfl rfl hdX4_markTick ⟨Nat.le_of_ble_eq_true rfl, Nat.le_of_ble_eq_true rfl⟩) hE hP (hX.d rfl) hS hA [8] [0, 1, 2, 3, 4, 5, 6, 7] rfl rfl rfl rfl (by decide) (ci := 4) (q0 := 8) rfl rfl rfl hl.1 rfl rfl (Nat.le_of_ble_eq_true rfl) dX8_switchModeIfDue_78 (Nat.le_of_ble_eq_true rfl) (Nat.le_of_ble_eq_true rfl) (fun q_14 H locs hq_14 hP hD hS => ?_)
            have hP : va_P E.1 vwCl [(h, .inr (8, [.ref pl, .ref rd, .ref nw, .ref ah, .ref tr, .ref hi, .ref s0, .ref s1, .int errorAt])), (pl, .inr (2, [.ref an])), (an, .inl (E.2.1, 24, .inl num)), (si, .inr (6, [.ref mo, .ref re, .ref rc, .int tick, .int 1, .int lock, .int force, .int (switches + 1), .int stops, .int resets, .int latestStop])), (mo, .inr (1, [.int x, .int v, .int a1, .int a2, .int w1, .int w2])), (re, .inr (5, [.ref ar, .ref af])), (ar, .inl (E.2.1, 49, .inl rs)), (af, .inl (E.2.1, 49, .inl fs)), (rc, .inr (4, [.long q_14, .long b2, .long b3, .long b4]))] H := hP
            have hX : xD A [h, pl, an, si, mo, re, ar, af, rc] := xD.of hD rfl
            refine W.eq (g2 := F0 m 81 ls []) rfl ?_
            refine lv_aload_n hx hb dX8_switchModeIfDue_81 rfl (lv_at hl 1 rfl) ?_
            refine va_getN (D := E.1) (ci := 6) (v := .ref rc) (C := RX6) (T := TX6) (N := 11) hx hb hts g_2 hown hE.1 hP 3 rfl rfl 2 (by decide) g_7 (fun _ h9 => h9) rfl dX8_switchModeIfDue_82 ?_
            refine lv_aload_n hx hb dX8_switchModeIfDue_85 rfl (lv_at hl 0 rfl) ?_
            refine va_get (D := E.1) (ci := 8) (v := .ref pl) (C := RX8) (T := TX8) (N := 9) hx hb hts g_4 hown hE.1 hP 0 rfl rfl 0 (by decide) g_3 (fun _ h9 => h9) rfl dX8_switchModeIfDue_86 ?_
            refine lv_bipush (v := 22) hx hb dX8_switchModeIfDue_89 (by decide) ?_
            refine x_rV [.int 22] (kX2_number l E pl an num 22) ⟨hx, hb, hml, hown, hts⟩ (cwV 1 hts gX8_switchModeIfDue_X2_number rfl rfl rfl hdX2_number ⟨Nat.le_of_ble_eq_true rfl, Nat.le_of_ble_eq_true rfl⟩) hE hP (hX.d rfl) [1, 2] rfl rfl (ci := 2) (q0 := 1) rfl rfl rfl hl.1 rfl rfl (Nat.le_of_ble_eq_true rfl) dX8_switchModeIfDue_91 (Nat.le_of_ble_eq_true rfl) (Nat.le_of_ble_eq_true rfl) ?_
            refine x_rV [.int (sX2_number num 22)] (kX4_countIn l E rc q_14 b2 b3 b4 (sX2_number num 22)) ⟨hx, hb, hml, hown, hts⟩ (cwV 1 hts gX8_switchModeIfDue_X4_countIn rfl rfl rfl hdX4_countIn ⟨Nat.le_of_ble_eq_true rfl, Nat.le_of_ble_eq_true rfl⟩) hE hP (hX.d rfl) [8] rfl rfl (ci := 4) (q0 := 8) rfl rfl rfl hl.1 rfl rfl (Nat.le_of_ble_eq_true rfl) dX8_switchModeIfDue_94 (Nat.le_of_ble_eq_true rfl) (Nat.le_of_ble_eq_true rfl) ?_
            refine lv_aload_n hx hb dX8_switchModeIfDue_97 rfl (lv_at hl 0 rfl) ?_
            refine va_get (D := E.1) (ci := 8) (v := .ref pl) (C := RX8) (T := TX8) (N := 9) hx hb hts g_4 hown hE.1 hP 0 rfl rfl 0 (by decide) g_3 (fun _ h9 => h9) rfl dX8_switchModeIfDue_98 ?_
            refine lv_bipush (v := 21) hx hb dX8_switchModeIfDue_101 (by decide) ?_
            refine x_rV [.int 21] (kX2_number l E pl an num 21) ⟨hx, hb, hml, hown, hts⟩ (cwV 1 hts gX8_switchModeIfDue_X2_number rfl rfl rfl hdX2_number ⟨Nat.le_of_ble_eq_true rfl, Nat.le_of_ble_eq_true rfl⟩) hE hP (hX.d rfl) [1, 2] rfl rfl (ci := 2) (q0 := 1) rfl rfl rfl hl.1 rfl rfl (Nat.le_of_ble_eq_true rfl) dX8_switchModeIfDue_103 (Nat.le_of_ble_eq_true rfl) (Nat.le_of_ble_eq_true rfl) ?_
            refine lv_icmp_le (tgt := 127) hx hb dX8_switchModeIfDue_106 (by decide) (fun c_15 => ?_) (fun c_15 => ?_)
            · exact x_wv (1, lock, switches + 1, q_14) (by unfold sX8_switchModeIfDue; rw [if_pos c_1]; rw [if_pos c_6]; rw [if_pos c_11]; rw [if_pos c_12]; rw [if_neg c_13]; rw [← hq_14]; unfold sX8_switchModeIfDue_q_14; rw [if_pos c_15]; try rfl) rfl hx hb hr hlk hS hP (hX.d rfl) [0, 1, 2, 3, 4, 5, 6, 7, 8] rfl rfl (Nat.le_of_ble_eq_true rfl) (Nat.le_of_ble_eq_true rfl) dX8_switchModeIfDue_127
            · refine lv_aload_n hx hb dX8_switchModeIfDue_109 rfl (lv_at hl 1 rfl) ?_
              refine lv_iconst (v := 1) hx hb dX8_switchModeIfDue_110 (by decide) ?_
              refine va_putN (D := E.1) (ci := 6) (v := .int 1) (ty := .int) (C := RX6) (T := TX6) (N := 11) hx hb hts g_2 tyX6 tyX6_ok nmX6 hown hE.1 hP (hX.d rfl) hS 3 rfl rfl 4 (by decide) g_1 (fun _ h9 => h9) rfl (by decide +kernel) rfl rfl (Nat.le_of_ble_eq_true rfl) dX8_switchModeIfDue_111 (fun H locs hP _ hS => ?_)
              have hP : va_P E.1 vwCl [(h, .inr (8, [.ref pl, .ref rd, .ref nw, .ref ah, .ref tr, .ref hi, .ref s0, .ref s1, .int errorAt])), (pl, .inr (2, [.ref an])), (an, .inl (E.2.1, 24, .inl num)), (si, .inr (6, [.ref mo, .ref re, .ref rc, .int tick, .int 1, .int lock, .int force, .int (switches + 1), .int stops, .int resets, .int latestStop])), (mo, .inr (1, [.int x, .int v, .int a1, .int a2, .int w1, .int w2])), (re, .inr (5, [.ref ar, .ref af])), (ar, .inl (E.2.1, 49, .inl rs)), (af, .inl (E.2.1, 49, .inl fs)), (rc, .inr (4, [.long q_14, .long b2, .long b3, .long b4]))] H := hP
              refine lv_aload_n hx hb dX8_switchModeIfDue_114 rfl (lv_at hl 1 rfl) ?_
              refine lv_aload_n hx hb dX8_switchModeIfDue_115 rfl (lv_at hl 0 rfl) ?_
              refine va_get (D := E.1) (ci := 8) (v := .ref pl) (C := RX8) (T := TX8) (N := 9) hx hb hts g_4 hown hE.1 hP 0 rfl rfl 0 (by decide) g_3 (fun _ h9 => h9) rfl dX8_switchModeIfDue_116 ?_
              refine lv_bipush (v := 23) hx hb dX8_switchModeIfDue_119 (by decide) ?_
              refine x_rV [.int 23] (kX2_number l E pl an num 23) ⟨hx, hb, hml, hown, hts⟩ (cwV 1 hts gX8_switchModeIfDue_X2_number rfl rfl rfl hdX2_number ⟨Nat.le_of_ble_eq_true rfl, Nat.le_of_ble_eq_true rfl⟩) hE hP (hX.d rfl) [1, 2] rfl rfl (ci := 2) (q0 := 1) rfl rfl rfl hl.1 rfl rfl (Nat.le_of_ble_eq_true rfl) dX8_switchModeIfDue_121 (Nat.le_of_ble_eq_true rfl) (Nat.le_of_ble_eq_true rfl) ?_
              refine va_putN (D := E.1) (ci := 6) (v := .int (sX2_number num 23)) (ty := .int) (C := RX6) (T := TX6) (N := 11) hx hb hts g_2 tyX6 tyX6_ok nmX6 hown hE.1 hP (hX.d rfl) hS 3 rfl rfl 5 (by decide) g_8 (fun _ h9 => h9) rfl (by decide +kernel) rfl rfl (Nat.le_of_ble_eq_true rfl) dX8_switchModeIfDue_124 (fun H locs hP _ hS => ?_)
              have hP : va_P E.1 vwCl [(h, .inr (8, [.ref pl, .ref rd, .ref nw, .ref ah, .ref tr, .ref hi, .ref s0, .ref s1, .int errorAt])), (pl, .inr (2, [.ref an])), (an, .inl (E.2.1, 24, .inl num)), (si, .inr (6, [.ref mo, .ref re, .ref rc, .int tick, .int 1, .int (sX2_number num 23), .int force, .int (switches + 1), .int stops, .int resets, .int latestStop])), (mo, .inr (1, [.int x, .int v, .int a1, .int a2, .int w1, .int w2])), (re, .inr (5, [.ref ar, .ref af])), (ar, .inl (E.2.1, 49, .inl rs)), (af, .inl (E.2.1, 49, .inl fs)), (rc, .inr (4, [.long q_14, .long b2, .long b3, .long b4]))] H := hP
              exact x_wv (1, sX2_number num 23, switches + 1, q_14) (by unfold sX8_switchModeIfDue; rw [if_pos c_1]; rw [if_pos c_6]; rw [if_pos c_11]; rw [if_pos c_12]; rw [if_neg c_13]; rw [← hq_14]; unfold sX8_switchModeIfDue_q_14; rw [if_neg c_15]; try rfl) rfl hx hb hr hlk hS hP (hX.d rfl) [0, 1, 2, 3, 4, 5, 6, 7, 8] rfl rfl (Nat.le_of_ble_eq_true rfl) (Nat.le_of_ble_eq_true rfl) dX8_switchModeIfDue_127
      · refine lv_aload_n hx hb dX8_switchModeIfDue_23 rfl (lv_at hl 1 rfl) ?_
        refine lv_iconst (v := 2) hx hb dX8_switchModeIfDue_24 (by decide) ?_
        refine va_putN (D := E.1) (ci := 6) (v := .int 2) (ty := .int) (C := RX6) (T := TX6) (N := 11) hx hb hts g_2 tyX6 tyX6_ok nmX6 hown hE.1 hP (hX.d rfl) hS 3 rfl rfl 4 (by decide) g_1 (fun _ h9 => h9) rfl (by decide +kernel) rfl rfl (Nat.le_of_ble_eq_true rfl) dX8_switchModeIfDue_25 (fun H locs hP _ hS => ?_)
        have hP : va_P E.1 vwCl [(h, .inr (8, [.ref pl, .ref rd, .ref nw, .ref ah, .ref tr, .ref hi, .ref s0, .ref s1, .int errorAt])), (pl, .inr (2, [.ref an])), (an, .inl (E.2.1, 24, .inl num)), (si, .inr (6, [.ref mo, .ref re, .ref rc, .int tick, .int 2, .int lock, .int force, .int switches, .int stops, .int resets, .int latestStop])), (mo, .inr (1, [.int x, .int v, .int a1, .int a2, .int w1, .int w2])), (re, .inr (5, [.ref ar, .ref af])), (ar, .inl (E.2.1, 49, .inl rs)), (af, .inl (E.2.1, 49, .inl fs)), (rc, .inr (4, [.long b1, .long b2, .long b3, .long b4]))] H := hP
        refine lv_goto (tgt := 64) hx hb dX8_switchModeIfDue_28 (by decide) ?_
        refine lv_aload_n hx hb dX8_switchModeIfDue_64 rfl (lv_at hl 1 rfl) ?_
        refine lv_dup hx hb dX8_switchModeIfDue_65 rfl ?_
        refine va_getN (D := E.1) (ci := 6) (v := .int switches) (C := RX6) (T := TX6) (N := 11) hx hb hts g_2 hown hE.1 hP 3 rfl rfl 7 (by decide) g_6 (fun _ h9 => h9) rfl dX8_switchModeIfDue_66 ?_
        refine lv_iconst (v := 1) hx hb dX8_switchModeIfDue_69 (by decide) ?_
        refine lv_iadd hx hb dX8_switchModeIfDue_70 ?_
        refine va_putN (D := E.1) (ci := 6) (v := .int (switches + 1)) (ty := .int) (C := RX6) (T := TX6) (N := 11) hx hb hts g_2 tyX6 tyX6_ok nmX6 hown hE.1 hP (hX.d rfl) hS 3 rfl rfl 7 (by decide) g_6 (fun _ h9 => h9) rfl (by decide +kernel) rfl rfl (Nat.le_of_ble_eq_true rfl) dX8_switchModeIfDue_71 (fun H locs hP _ hS => ?_)
        have hP : va_P E.1 vwCl [(h, .inr (8, [.ref pl, .ref rd, .ref nw, .ref ah, .ref tr, .ref hi, .ref s0, .ref s1, .int errorAt])), (pl, .inr (2, [.ref an])), (an, .inl (E.2.1, 24, .inl num)), (si, .inr (6, [.ref mo, .ref re, .ref rc, .int tick, .int 2, .int lock, .int force, .int (switches + 1), .int stops, .int resets, .int latestStop])), (mo, .inr (1, [.int x, .int v, .int a1, .int a2, .int w1, .int w2])), (re, .inr (5, [.ref ar, .ref af])), (ar, .inl (E.2.1, 49, .inl rs)), (af, .inl (E.2.1, 49, .inl fs)), (rc, .inr (4, [.long b1, .long b2, .long b3, .long b4]))] H := hP
        refine lv_aload_n hx hb dX8_switchModeIfDue_74 rfl (lv_at hl 1 rfl) ?_
        refine va_getN (D := E.1) (ci := 6) (v := .ref rc) (C := RX6) (T := TX6) (N := 11) hx hb hts g_2 hown hE.1 hP 3 rfl rfl 2 (by decide) g_7 (fun _ h9 => h9) rfl dX8_switchModeIfDue_75 ?_
        refine x_wV (wr := [(h, .inr (8, [.ref pl, .ref rd, .ref nw, .ref ah, .ref tr, .ref hi, .ref s0, .ref s1, .int errorAt])), (pl, .inr (2, [.ref an])), (an, .inl (E.2.1, 24, .inl num)), (si, .inr (6, [.ref mo, .ref re, .ref rc, .int tick, .int 2, .int lock, .int force, .int (switches + 1), .int stops, .int resets, .int latestStop])), (mo, .inr (1, [.int x, .int v, .int a1, .int a2, .int w1, .int w2])), (re, .inr (5, [.ref ar, .ref af])), (ar, .inl (E.2.1, 49, .inl rs)), (af, .inl (E.2.1, 49, .inl fs))]) [] (kX4_markTick l E rc b1 b2 b3 b4) ⟨hx, hb, hml, hown, hts⟩ (cwV 0 hts gX8_switchModeIfDue_X4_markTick rfl rfl rfl hdX4_markTick ⟨Nat.le_of_ble_eq_true rfl, Nat.le_of_ble_eq_true rfl⟩) hE hP (hX.d rfl) hS hA [8] [0, 1, 2, 3, 4, 5, 6, 7] rfl rfl rfl rfl (by decide) (ci := 4) (q0 := 8) rfl rfl rfl hl.1 rfl rfl (Nat.le_of_ble_eq_true rfl) dX8_switchModeIfDue_78 (Nat.le_of_ble_eq_true rfl) (Nat.le_of_ble_eq_true rfl) (fun q_16 H locs hq_16 hP hD hS => ?_)
        have hP : va_P E.1 vwCl [(h, .inr (8, [.ref pl, .ref rd, .ref nw, .ref ah, .ref tr, .ref hi, .ref s0, .ref s1, .int errorAt])), (pl, .inr (2, [.ref an])), (an, .inl (E.2.1, 24, .inl num)), (si, .inr (6, [.ref mo, .ref re, .ref rc, .int tick, .int 2, .int lock, .int force, .int (switches + 1), .int stops, .int resets, .int latestStop])), (mo, .inr (1, [.int x, .int v, .int a1, .int a2, .int w1, .int w2])), (re, .inr (5, [.ref ar, .ref af])), (ar, .inl (E.2.1, 49, .inl rs)), (af, .inl (E.2.1, 49, .inl fs)), (rc, .inr (4, [.long q_16, .long b2, .long b3, .long b4]))] H := hP
        have hX : xD A [h, pl, an, si, mo, re, ar, af, rc] := xD.of hD rfl
        refine W.eq (g2 := F0 m 81 ls []) rfl ?_
        refine lv_aload_n hx hb dX8_switchModeIfDue_81 rfl (lv_at hl 1 rfl) ?_
        refine va_getN (D := E.1) (ci := 6) (v := .ref rc) (C := RX6) (T := TX6) (N := 11) hx hb hts g_2 hown hE.1 hP 3 rfl rfl 2 (by decide) g_7 (fun _ h9 => h9) rfl dX8_switchModeIfDue_82 ?_
        refine lv_aload_n hx hb dX8_switchModeIfDue_85 rfl (lv_at hl 0 rfl) ?_
        refine va_get (D := E.1) (ci := 8) (v := .ref pl) (C := RX8) (T := TX8) (N := 9) hx hb hts g_4 hown hE.1 hP 0 rfl rfl 0 (by decide) g_3 (fun _ h9 => h9) rfl dX8_switchModeIfDue_86 ?_
        refine lv_bipush (v := 22) hx hb dX8_switchModeIfDue_89 (by decide) ?_
        refine x_rV [.int 22] (kX2_number l E pl an num 22) ⟨hx, hb, hml, hown, hts⟩ (cwV 1 hts gX8_switchModeIfDue_X2_number rfl rfl rfl hdX2_number ⟨Nat.le_of_ble_eq_true rfl, Nat.le_of_ble_eq_true rfl⟩) hE hP (hX.d rfl) [1, 2] rfl rfl (ci := 2) (q0 := 1) rfl rfl rfl hl.1 rfl rfl (Nat.le_of_ble_eq_true rfl) dX8_switchModeIfDue_91 (Nat.le_of_ble_eq_true rfl) (Nat.le_of_ble_eq_true rfl) ?_
        refine x_rV [.int (sX2_number num 22)] (kX4_countIn l E rc q_16 b2 b3 b4 (sX2_number num 22)) ⟨hx, hb, hml, hown, hts⟩ (cwV 1 hts gX8_switchModeIfDue_X4_countIn rfl rfl rfl hdX4_countIn ⟨Nat.le_of_ble_eq_true rfl, Nat.le_of_ble_eq_true rfl⟩) hE hP (hX.d rfl) [8] rfl rfl (ci := 4) (q0 := 8) rfl rfl rfl hl.1 rfl rfl (Nat.le_of_ble_eq_true rfl) dX8_switchModeIfDue_94 (Nat.le_of_ble_eq_true rfl) (Nat.le_of_ble_eq_true rfl) ?_
        refine lv_aload_n hx hb dX8_switchModeIfDue_97 rfl (lv_at hl 0 rfl) ?_
        refine va_get (D := E.1) (ci := 8) (v := .ref pl) (C := RX8) (T := TX8) (N := 9) hx hb hts g_4 hown hE.1 hP 0 rfl rfl 0 (by decide) g_3 (fun _ h9 => h9) rfl dX8_switchModeIfDue_98 ?_
        refine lv_bipush (v := 21) hx hb dX8_switchModeIfDue_101 (by decide) ?_
        refine x_rV [.int 21] (kX2_number l E pl an num 21) ⟨hx, hb, hml, hown, hts⟩ (cwV 1 hts gX8_switchModeIfDue_X2_number rfl rfl rfl hdX2_number ⟨Nat.le_of_ble_eq_true rfl, Nat.le_of_ble_eq_true rfl⟩) hE hP (hX.d rfl) [1, 2] rfl rfl (ci := 2) (q0 := 1) rfl rfl rfl hl.1 rfl rfl (Nat.le_of_ble_eq_true rfl) dX8_switchModeIfDue_103 (Nat.le_of_ble_eq_true rfl) (Nat.le_of_ble_eq_true rfl) ?_
        refine lv_icmp_le (tgt := 127) hx hb dX8_switchModeIfDue_106 (by decide) (fun c_17 => ?_) (fun c_17 => ?_)
        · exact x_wv (2, lock, switches + 1, q_16) (by unfold sX8_switchModeIfDue; rw [if_pos c_1]; rw [if_pos c_6]; rw [if_neg c_11]; rw [← hq_16]; unfold sX8_switchModeIfDue_q_16; rw [if_pos c_17]; try rfl) rfl hx hb hr hlk hS hP (hX.d rfl) [0, 1, 2, 3, 4, 5, 6, 7, 8] rfl rfl (Nat.le_of_ble_eq_true rfl) (Nat.le_of_ble_eq_true rfl) dX8_switchModeIfDue_127
        · refine lv_aload_n hx hb dX8_switchModeIfDue_109 rfl (lv_at hl 1 rfl) ?_
          refine lv_iconst (v := 1) hx hb dX8_switchModeIfDue_110 (by decide) ?_
          refine va_putN (D := E.1) (ci := 6) (v := .int 1) (ty := .int) (C := RX6) (T := TX6) (N := 11) hx hb hts g_2 tyX6 tyX6_ok nmX6 hown hE.1 hP (hX.d rfl) hS 3 rfl rfl 4 (by decide) g_1 (fun _ h9 => h9) rfl (by decide +kernel) rfl rfl (Nat.le_of_ble_eq_true rfl) dX8_switchModeIfDue_111 (fun H locs hP _ hS => ?_)
          have hP : va_P E.1 vwCl [(h, .inr (8, [.ref pl, .ref rd, .ref nw, .ref ah, .ref tr, .ref hi, .ref s0, .ref s1, .int errorAt])), (pl, .inr (2, [.ref an])), (an, .inl (E.2.1, 24, .inl num)), (si, .inr (6, [.ref mo, .ref re, .ref rc, .int tick, .int 1, .int lock, .int force, .int (switches + 1), .int stops, .int resets, .int latestStop])), (mo, .inr (1, [.int x, .int v, .int a1, .int a2, .int w1, .int w2])), (re, .inr (5, [.ref ar, .ref af])), (ar, .inl (E.2.1, 49, .inl rs)), (af, .inl (E.2.1, 49, .inl fs)), (rc, .inr (4, [.long q_16, .long b2, .long b3, .long b4]))] H := hP
          refine lv_aload_n hx hb dX8_switchModeIfDue_114 rfl (lv_at hl 1 rfl) ?_
          refine lv_aload_n hx hb dX8_switchModeIfDue_115 rfl (lv_at hl 0 rfl) ?_
          refine va_get (D := E.1) (ci := 8) (v := .ref pl) (C := RX8) (T := TX8) (N := 9) hx hb hts g_4 hown hE.1 hP 0 rfl rfl 0 (by decide) g_3 (fun _ h9 => h9) rfl dX8_switchModeIfDue_116 ?_
          refine lv_bipush (v := 23) hx hb dX8_switchModeIfDue_119 (by decide) ?_
          refine x_rV [.int 23] (kX2_number l E pl an num 23) ⟨hx, hb, hml, hown, hts⟩ (cwV 1 hts gX8_switchModeIfDue_X2_number rfl rfl rfl hdX2_number ⟨Nat.le_of_ble_eq_true rfl, Nat.le_of_ble_eq_true rfl⟩) hE hP (hX.d rfl) [1, 2] rfl rfl (ci := 2) (q0 := 1) rfl rfl rfl hl.1 rfl rfl (Nat.le_of_ble_eq_true rfl) dX8_switchModeIfDue_121 (Nat.le_of_ble_eq_true rfl) (Nat.le_of_ble_eq_true rfl) ?_
          refine va_putN (D := E.1) (ci := 6) (v := .int (sX2_number num 23)) (ty := .int) (C := RX6) (T := TX6) (N := 11) hx hb hts g_2 tyX6 tyX6_ok nmX6 hown hE.1 hP (hX.d rfl) hS 3 rfl rfl 5 (by decide) g_8 (fun _ h9 => h9) rfl (by decide +kernel) rfl rfl (Nat.le_of_ble_eq_true rfl) dX8_switchModeIfDue_124 (fun H locs hP _ hS => ?_)
          have hP : va_P E.1 vwCl [(h, .inr (8, [.ref pl, .ref rd, .ref nw, .ref ah, .ref tr, .ref hi, .ref s0, .ref s1, .int errorAt])), (pl, .inr (2, [.ref an])), (an, .inl (E.2.1, 24, .inl num)), (si, .inr (6, [.ref mo, .ref re, .ref rc, .int tick, .int 1, .int (sX2_number num 23), .int force, .int (switches + 1), .int stops, .int resets, .int latestStop])), (mo, .inr (1, [.int x, .int v, .int a1, .int a2, .int w1, .int w2])), (re, .inr (5, [.ref ar, .ref af])), (ar, .inl (E.2.1, 49, .inl rs)), (af, .inl (E.2.1, 49, .inl fs)), (rc, .inr (4, [.long q_16, .long b2, .long b3, .long b4]))] H := hP
          exact x_wv (1, sX2_number num 23, switches + 1, q_16) (by unfold sX8_switchModeIfDue; rw [if_pos c_1]; rw [if_pos c_6]; rw [if_neg c_11]; rw [← hq_16]; unfold sX8_switchModeIfDue_q_16; rw [if_neg c_17]; try rfl) rfl hx hb hr hlk hS hP (hX.d rfl) [0, 1, 2, 3, 4, 5, 6, 7, 8] rfl rfl (Nat.le_of_ble_eq_true rfl) (Nat.le_of_ble_eq_true rfl) dX8_switchModeIfDue_127
def sX8_doTick_q_5 (num : Nat → Int32) (tick : Int32) (mode : Int32) (lock : Int32) (force : Int32) (switches : Int32) (stops : Int32) (latestStop : Int32) (x : Int32) (v : Int32) (a1 : Int32) (a2 : Int32) (w1 : Int32) (w2 : Int32) (rs : Nat → Int32) (b1 : Int64) (b2 : Int64) (b3 : Int64) (b4 : Int64) (q_1 : Int64 × Int64 × Int64 × Int64) (q_4 : Int32 × Int32 × Int32 × Int64) (q_5 : Int32 × Int32 × Int32 × Int32 × Int32 × Int32 × Int32) : Int32 × Int32 × Int32 × Int32 × Int32 × Int32 × Int32 × Int32 × Int32 × Int32 × Int32 × Int32 × Int64 × Int64 × Int64 × Int64 :=
  if q_5.1 = 0 then
    (q_5.2.1, q_5.2.2.1, q_5.2.2.2.1, q_5.2.2.2.2.1, q_5.2.2.2.2.2.1, q_5.2.2.2.2.2.2, tick + 1, q_4.1, q_4.2.1, q_4.2.2.1, stops, latestStop, q_4.2.2.2, q_1.2.1, q_1.2.2.1, q_1.2.2.2)
  else
    (q_5.2.1, q_5.2.2.1, q_5.2.2.2.1, q_5.2.2.2.2.1, q_5.2.2.2.2.2.1, q_5.2.2.2.2.2.2, tick + 1, 3, q_4.2.1, q_4.2.2.1, stops + 1, q_5.1, q_4.2.2.2, q_1.2.1, q_1.2.2.1, q_1.2.2.2)
def sX8_doTick_q_4 (num : Nat → Int32) (tick : Int32) (mode : Int32) (lock : Int32) (force : Int32) (switches : Int32) (stops : Int32) (latestStop : Int32) (x : Int32) (v : Int32) (a1 : Int32) (a2 : Int32) (w1 : Int32) (w2 : Int32) (rs : Nat → Int32) (b1 : Int64) (b2 : Int64) (b3 : Int64) (b4 : Int64) (q_1 : Int64 × Int64 × Int64 × Int64) (q_4 : Int32 × Int32 × Int32 × Int64) : Int32 × Int32 × Int32 × Int32 × Int32 × Int32 × Int32 × Int32 × Int32 × Int32 × Int32 × Int32 × Int64 × Int64 × Int64 × Int64 :=
  sX8_doTick_q_5 num tick mode lock force switches stops latestStop x v a1 a2 w1 w2 rs b1 b2 b3 b4 q_1 q_4 (sX2_makeStep num x v a1 a2 w1 w2 (sX8_pushIn num q_4.1 force x v a1 a2 w1 w2))
def sX8_doTick_q_8 (num : Nat → Int32) (tick : Int32) (mode : Int32) (lock : Int32) (force : Int32) (switches : Int32) (stops : Int32) (latestStop : Int32) (x : Int32) (v : Int32) (a1 : Int32) (a2 : Int32) (w1 : Int32) (w2 : Int32) (rs : Nat → Int32) (b1 : Int64) (b2 : Int64) (b3 : Int64) (b4 : Int64) (q_1 : Int64 × Int64 × Int64 × Int64) (q_7 : Int32 × Int32 × Int32 × Int64) (q_8 : Int32 × Int32 × Int32 × Int32 × Int32 × Int32 × Int32) : Int32 × Int32 × Int32 × Int32 × Int32 × Int32 × Int32 × Int32 × Int32 × Int32 × Int32 × Int32 × Int64 × Int64 × Int64 × Int64 :=
  if q_8.1 = 0 then
    (q_8.2.1, q_8.2.2.1, q_8.2.2.2.1, q_8.2.2.2.2.1, q_8.2.2.2.2.2.1, q_8.2.2.2.2.2.2, tick + 1, q_7.1, q_7.2.1, q_7.2.2.1, stops, latestStop, q_7.2.2.2, q_1.2.1, q_1.2.2.1, q_1.2.2.2)
  else
    (q_8.2.1, q_8.2.2.1, q_8.2.2.2.1, q_8.2.2.2.2.1, q_8.2.2.2.2.2.1, q_8.2.2.2.2.2.2, tick + 1, 3, q_7.2.1, q_7.2.2.1, stops + 1, q_8.1, q_7.2.2.2, q_1.2.1, q_1.2.2.1, q_1.2.2.2)
def sX8_doTick_q_7 (num : Nat → Int32) (tick : Int32) (mode : Int32) (lock : Int32) (force : Int32) (switches : Int32) (stops : Int32) (latestStop : Int32) (x : Int32) (v : Int32) (a1 : Int32) (a2 : Int32) (w1 : Int32) (w2 : Int32) (rs : Nat → Int32) (b1 : Int64) (b2 : Int64) (b3 : Int64) (b4 : Int64) (q_1 : Int64 × Int64 × Int64 × Int64) (q_7 : Int32 × Int32 × Int32 × Int64) : Int32 × Int32 × Int32 × Int32 × Int32 × Int32 × Int32 × Int32 × Int32 × Int32 × Int32 × Int32 × Int64 × Int64 × Int64 × Int64 :=
  sX8_doTick_q_8 num tick mode lock force switches stops latestStop x v a1 a2 w1 w2 rs b1 b2 b3 b4 q_1 q_7 (sX2_makeStep num x v a1 a2 w1 w2 (sX8_pushIn num q_7.1 force x v a1 a2 w1 w2))
def sX8_doTick_q_1 (num : Nat → Int32) (tick : Int32) (mode : Int32) (lock : Int32) (force : Int32) (switches : Int32) (stops : Int32) (latestStop : Int32) (x : Int32) (v : Int32) (a1 : Int32) (a2 : Int32) (w1 : Int32) (w2 : Int32) (rs : Nat → Int32) (b1 : Int64) (b2 : Int64) (b3 : Int64) (b4 : Int64) (q_1 : Int64 × Int64 × Int64 × Int64) : Int32 × Int32 × Int32 × Int32 × Int32 × Int32 × Int32 × Int32 × Int32 × Int32 × Int32 × Int32 × Int64 × Int64 × Int64 × Int64 :=
  if mode = 3 then
    (x, v, a1, a2, w1, w2, tick + 1, mode, lock, switches, stops, latestStop, q_1.1, q_1.2.1, q_1.2.2.1, q_1.2.2.2)
  else
    if lock ≤ 0 then
      sX8_doTick_q_4 num tick mode lock force switches stops latestStop x v a1 a2 w1 w2 rs b1 b2 b3 b4 q_1 (sX8_switchModeIfDue num mode lock switches a1 a2 w1 w2 rs q_1.1 q_1.2.1 q_1.2.2.1 q_1.2.2.2)
    else
      sX8_doTick_q_7 num tick mode lock force switches stops latestStop x v a1 a2 w1 w2 rs b1 b2 b3 b4 q_1 (sX8_switchModeIfDue num mode (lock - 1) switches a1 a2 w1 w2 rs q_1.1 q_1.2.1 q_1.2.2.1 q_1.2.2.2)
def sX8_doTick (num : Nat → Int32) (tick : Int32) (mode : Int32) (lock : Int32) (force : Int32) (switches : Int32) (stops : Int32) (latestStop : Int32) (x : Int32) (v : Int32) (a1 : Int32) (a2 : Int32) (w1 : Int32) (w2 : Int32) (rs : Nat → Int32) (b1 : Int64) (b2 : Int64) (b3 : Int64) (b4 : Int64) : Int32 × Int32 × Int32 × Int32 × Int32 × Int32 × Int32 × Int32 × Int32 × Int32 × Int32 × Int32 × Int64 × Int64 × Int64 × Int64 :=
  sX8_doTick_q_1 num tick mode lock force switches stops latestStop x v a1 a2 w1 w2 rs b1 b2 b3 b4 (sX4_passTick b1 b2 b3 b4)
theorem hdX8_doTick : yX8_doTick.cls = RX8 ∧ yX8_doTick.cls ≠ "java/lang/invoke/MethodHandle" ∧ yX8_doTick.cls ≠ "java/lang/invoke/VarHandle" ∧ (parseMethodDescriptor yX8_doTick.desc).map (fun d => d.parameters.length) = some 1 := by decide +kernel
set_option maxHeartbeats 4000000 in
set_option maxRecDepth 100000 in
theorem kX8_doTick (l : Launch) (E : XE) (h : Nat) (pl : Nat) (rd : Nat) (nw : Nat) (ah : Nat) (tr : Nat) (hi : Nat) (s0 : Nat) (s1 : Nat) (errorAt : Int32) (an : Nat) (num : Nat → Int32) (si : Nat) (mo : Nat) (re : Nat) (rc : Nat) (tick : Int32) (mode : Int32) (lock : Int32) (force : Int32) (switches : Int32) (stops : Int32) (resets : Int32) (latestStop : Int32) (x : Int32) (v : Int32) (a1 : Int32) (a2 : Int32) (w1 : Int32) (w2 : Int32) (ar : Nat) (af : Nat) (rs : Nat → Int32) (fs : Nat → Int32) (b1 : Int64) (b2 : Int64) (b3 : Int64) (b4 : Int64) (hz1 : 0 < sX2_number num 15 → ¬ 2 * sX2_number num 15 = 0) (hz2 : 0 < sX2_number num 16 → ¬ 2 * sX2_number num 16 = 0) : xW (T := Int32 × Int32 × Int32 × Int32 × Int32 × Int32 × Int32 × Int32 × Int32 × Int32 × Int32 × Int32 × Int64 × Int64 × Int64 × Int64) l yX8_doTick wsX8_doTick ({ frames := 6, cells := 0, slots := 0, locals := 130 }) E [(h, .inr (8, [.ref pl, .ref rd, .ref nw, .ref ah, .ref tr, .ref hi, .ref s0, .ref s1, .int errorAt])), (pl, .inr (2, [.ref an])), (an, .inl (E.2.1, 24, .inl num)), (si, .inr (6, [.ref mo, .ref re, .ref rc, .int tick, .int mode, .int lock, .int force, .int switches, .int stops, .int resets, .int latestStop])), (mo, .inr (1, [.int x, .int v, .int a1, .int a2, .int w1, .int w2])), (re, .inr (5, [.ref ar, .ref af])), (ar, .inl (E.2.1, 49, .inl rs)), (af, .inl (E.2.1, 49, .inl fs)), (rc, .inr (4, [.long b1, .long b2, .long b3, .long b4]))] [.ref h, .ref si] (fun _ => none) (fun q => [(h, .inr (8, [.ref pl, .ref rd, .ref nw, .ref ah, .ref tr, .ref hi, .ref s0, .ref s1, .int errorAt])), (pl, .inr (2, [.ref an])), (an, .inl (E.2.1, 24, .inl num)), (si, .inr (6, [.ref mo, .ref re, .ref rc, .int q.2.2.2.2.2.2.1, .int q.2.2.2.2.2.2.2.1, .int q.2.2.2.2.2.2.2.2.1, .int force, .int q.2.2.2.2.2.2.2.2.2.1, .int q.2.2.2.2.2.2.2.2.2.2.1, .int resets, .int q.2.2.2.2.2.2.2.2.2.2.2.1])), (mo, .inr (1, [.int q.1, .int q.2.1, .int q.2.2.1, .int q.2.2.2.1, .int q.2.2.2.2.1, .int q.2.2.2.2.2.1])), (re, .inr (5, [.ref ar, .ref af])), (ar, .inl (E.2.1, 49, .inl rs)), (af, .inl (E.2.1, 49, .inl fs)), (rc, .inr (4, [.long q.2.2.2.2.2.2.2.2.2.2.2.2.1, .long q.2.2.2.2.2.2.2.2.2.2.2.2.2.1, .long q.2.2.2.2.2.2.2.2.2.2.2.2.2.2.1, .long q.2.2.2.2.2.2.2.2.2.2.2.2.2.2.2]))]) (sX8_doTick num tick mode lock force switches stops latestStop x v a1 a2 w1 w2 rs b1 b2 b3 b4) 0 0 := by
  refine xW.of (cc := cX8_doTick) (maxL := 3) (ret := none) (by decide) rfl (Nat.le_of_ble_eq_true rfl) ?_
  intro p e s m args below meth c ls A hM hE hP hD hS hA hl
  obtain ⟨hx, hb, hr, hml, hts, hown, hlk, hnm⟩ := hM
  have g_1 : (Cond.fieldLinkNest RX8 190 "RailPendulum$Situation" "tick" "I" "RailPendulum").before args s = true := va_Nw.use rfl (hE.2 (Cond.fieldLinkNest RX8 190 "RailPendulum$Situation" "tick" "I" "RailPendulum") (by decide +kernel))
  have g_2 : ∀ w ∈ wsX60, w ∈ wsX8_doTick := by decide +kernel
  have g_3 : (Cond.fieldLinkNest RX8 130 "RailPendulum$Situation" "recent" "LRailPendulum$RecentSwitches;" "RailPendulum").before args s = true := va_Nw.use rfl (hE.2 (Cond.fieldLinkNest RX8 130 "RailPendulum$Situation" "recent" "LRailPendulum$RecentSwitches;" "RailPendulum") (by decide +kernel))
  have g_4 : (Cond.fieldLinkNest RX8 203 "RailPendulum$Situation" "mode" "I" "RailPendulum").before args s = true := va_Nw.use rfl (hE.2 (Cond.fieldLinkNest RX8 203 "RailPendulum$Situation" "mode" "I" "RailPendulum") (by decide +kernel))
  have g_5 : (Cond.fieldLinkNest RX8 212 "RailPendulum$Situation" "lock" "I" "RailPendulum").before args s = true := va_Nw.use rfl (hE.2 (Cond.fieldLinkNest RX8 212 "RailPendulum$Situation" "lock" "I" "RailPendulum") (by decide +kernel))
  have g_6 : (Cond.fieldLink RX8 10 "RailPendulum" "plant" "LRailPendulum$Plant;").before args s = true := hts (Cond.fieldLink RX8 10 "RailPendulum" "plant" "LRailPendulum$Plant;") (by decide +kernel)
  have g_7 : ∀ w ∈ wsX80, w ∈ wsX8_doTick := by decide +kernel
  have g_8 : (Cond.fieldLinkNest RX8 109 "RailPendulum$Situation" "motion" "LRailPendulum$Motion;" "RailPendulum").before args s = true := va_Nw.use rfl (hE.2 (Cond.fieldLinkNest RX8 109 "RailPendulum$Situation" "motion" "LRailPendulum$Motion;" "RailPendulum") (by decide +kernel))
  have g_9 : (Cond.fieldLinkNest RX8 275 "RailPendulum$Situation" "stops" "I" "RailPendulum").before args s = true := va_Nw.use rfl (hE.2 (Cond.fieldLinkNest RX8 275 "RailPendulum$Situation" "stops" "I" "RailPendulum") (by decide +kernel))
  have g_10 : (Cond.fieldLinkNest RX8 127 "RailPendulum$Situation" "latestStop" "I" "RailPendulum").before args s = true := va_Nw.use rfl (hE.2 (Cond.fieldLinkNest RX8 127 "RailPendulum$Situation" "latestStop" "I" "RailPendulum") (by decide +kernel))
  have hX : xD A [h, pl, an, si, mo, re, ar, af, rc] := xD.of hD rfl
  have hl : lv_has ls 3 [(0, .ref h), (1, .ref si)] := hl
  refine lv_aload_n hx hb dX8_doTick_0 rfl (lv_at hl 1 rfl) ?_
  refine lv_dup hx hb dX8_doTick_1 rfl ?_
  refine va_getN (D := E.1) (ci := 6) (v := .int tick) (C := RX6) (T := TX6) (N := 11) hx hb hts g_2 hown hE.1 hP 3 rfl rfl 3 (by decide) g_1 (fun _ h9 => h9) rfl dX8_doTick_2 ?_
  refine lv_iconst (v := 1) hx hb dX8_doTick_5 (by decide) ?_
  refine lv_iadd hx hb dX8_doTick_6 ?_
  refine va_putN (D := E.1) (ci := 6) (v := .int (tick + 1)) (ty := .int) (C := RX6) (T := TX6) (N := 11) hx hb hts g_2 tyX6 tyX6_ok nmX6 hown hE.1 hP (hX.d rfl) hS 3 rfl rfl 3 (by decide) g_1 (fun _ h9 => h9) rfl (by decide +kernel) rfl rfl (Nat.le_of_ble_eq_true rfl) dX8_doTick_7 (fun H locs hP _ hS => ?_)
  have hP : va_P E.1 vwCl [(h, .inr (8, [.ref pl, .ref rd, .ref nw, .ref ah, .ref tr, .ref hi, .ref s0, .ref s1, .int errorAt])), (pl, .inr (2, [.ref an])), (an, .inl (E.2.1, 24, .inl num)), (si, .inr (6, [.ref mo, .ref re, .ref rc, .int (tick + 1), .int mode, .int lock, .int force, .int switches, .int stops, .int resets, .int latestStop])), (mo, .inr (1, [.int x, .int v, .int a1, .int a2, .int w1, .int w2])), (re, .inr (5, [.ref ar, .ref af])), (ar, .inl (E.2.1, 49, .inl rs)), (af, .inl (E.2.1, 49, .inl fs)), (rc, .inr (4, [.long b1, .long b2, .long b3, .long b4]))] H := hP
  refine lv_aload_n hx hb dX8_doTick_10 rfl (lv_at hl 1 rfl) ?_
  refine va_getN (D := E.1) (ci := 6) (v := .ref rc) (C := RX6) (T := TX6) (N := 11) hx hb hts g_2 hown hE.1 hP 3 rfl rfl 2 (by decide) g_3 (fun _ h9 => h9) rfl dX8_doTick_11 ?_
  refine x_wV (wr := [(h, .inr (8, [.ref pl, .ref rd, .ref nw, .ref ah, .ref tr, .ref hi, .ref s0, .ref s1, .int errorAt])), (pl, .inr (2, [.ref an])), (an, .inl (E.2.1, 24, .inl num)), (si, .inr (6, [.ref mo, .ref re, .ref rc, .int (tick + 1), .int mode, .int lock, .int force, .int switches, .int stops, .int resets, .int latestStop])), (mo, .inr (1, [.int x, .int v, .int a1, .int a2, .int w1, .int w2])), (re, .inr (5, [.ref ar, .ref af])), (ar, .inl (E.2.1, 49, .inl rs)), (af, .inl (E.2.1, 49, .inl fs))]) [] (kX4_passTick l E rc b1 b2 b3 b4) ⟨hx, hb, hml, hown, hts⟩ (cwV 0 hts gX8_doTick_X4_passTick rfl rfl rfl hdX4_passTick ⟨Nat.le_of_ble_eq_true rfl, Nat.le_of_ble_eq_true rfl⟩) hE hP (hX.d rfl) hS hA [8] [0, 1, 2, 3, 4, 5, 6, 7] rfl rfl rfl rfl (by decide) (ci := 4) (q0 := 8) rfl rfl rfl hl.1 rfl rfl (Nat.le_of_ble_eq_true rfl) dX8_doTick_14 (Nat.le_of_ble_eq_true rfl) (Nat.le_of_ble_eq_true rfl) (fun q_1 H locs hq_1 hP hD hS => ?_)
  have hP : va_P E.1 vwCl [(h, .inr (8, [.ref pl, .ref rd, .ref nw, .ref ah, .ref tr, .ref hi, .ref s0, .ref s1, .int errorAt])), (pl, .inr (2, [.ref an])), (an, .inl (E.2.1, 24, .inl num)), (si, .inr (6, [.ref mo, .ref re, .ref rc, .int (tick + 1), .int mode, .int lock, .int force, .int switches, .int stops, .int resets, .int latestStop])), (mo, .inr (1, [.int x, .int v, .int a1, .int a2, .int w1, .int w2])), (re, .inr (5, [.ref ar, .ref af])), (ar, .inl (E.2.1, 49, .inl rs)), (af, .inl (E.2.1, 49, .inl fs)), (rc, .inr (4, [.long q_1.1, .long q_1.2.1, .long q_1.2.2.1, .long q_1.2.2.2]))] H := hP
  have hX : xD A [h, pl, an, si, mo, re, ar, af, rc] := xD.of hD rfl
  refine W.eq (g2 := F0 m 17 ls []) rfl ?_
  refine lv_aload_n hx hb dX8_doTick_17 rfl (lv_at hl 1 rfl) ?_
  refine va_getN (D := E.1) (ci := 6) (v := .int mode) (C := RX6) (T := TX6) (N := 11) hx hb hts g_2 hown hE.1 hP 3 rfl rfl 4 (by decide) g_4 (fun _ h9 => h9) rfl dX8_doTick_18 ?_
  refine lv_iconst (v := 3) hx hb dX8_doTick_21 (by decide) ?_
  refine lv_icmp_ne (tgt := 26) hx hb dX8_doTick_22 (by decide) (fun c_2 => ?_) (fun c_2 => ?_)
  · refine lv_aload_n hx hb dX8_doTick_26 rfl (lv_at hl 1 rfl) ?_
    refine va_getN (D := E.1) (ci := 6) (v := .int lock) (C := RX6) (T := TX6) (N := 11) hx hb hts g_2 hown hE.1 hP 3 rfl rfl 5 (by decide) g_5 (fun _ h9 => h9) rfl dX8_doTick_27 ?_
    refine lv_if_le (tgt := 43) hx hb dX8_doTick_30 (by decide) (fun c_3 => ?_) (fun c_3 => ?_)
    · refine lv_aload_n hx hb dX8_doTick_43 rfl (lv_at hl 0 rfl) ?_
      refine lv_aload_n hx hb dX8_doTick_44 rfl (lv_at hl 1 rfl) ?_
      refine x_wV (wr := []) [.ref si] (kX8_switchModeIfDue l E h pl rd nw ah tr hi s0 s1 errorAt an num si mo re rc (tick + 1) mode lock force switches stops resets latestStop x v a1 a2 w1 w2 ar af rs fs q_1.1 q_1.2.1 q_1.2.2.1 q_1.2.2.2 hz1 hz2) ⟨hx, hb, hml, hown, hts⟩ (cwV 1 hts gX8_doTick_X8_switchModeIfDue rfl rfl rfl hdX8_switchModeIfDue ⟨Nat.le_of_ble_eq_true rfl, Nat.le_of_ble_eq_true rfl⟩) hE hP (hX.d rfl) hS hA [0, 1, 2, 3, 4, 5, 6, 7, 8] [] rfl rfl rfl rfl (by decide) (ci := 8) (q0 := 0) rfl rfl rfl hl.1 rfl rfl (Nat.le_of_ble_eq_true rfl) dX8_doTick_45 (Nat.le_of_ble_eq_true rfl) (Nat.le_of_ble_eq_true rfl) (fun q_4 H locs hq_4 hP hD hS => ?_)
      have hP : va_P E.1 vwCl [(h, .inr (8, [.ref pl, .ref rd, .ref nw, .ref ah, .ref tr, .ref hi, .ref s0, .ref s1, .int errorAt])), (pl, .inr (2, [.ref an])), (an, .inl (E.2.1, 24, .inl num)), (si, .inr (6, [.ref mo, .ref re, .ref rc, .int (tick + 1), .int q_4.1, .int q_4.2.1, .int force, .int q_4.2.2.1, .int stops, .int resets, .int latestStop])), (mo, .inr (1, [.int x, .int v, .int a1, .int a2, .int w1, .int w2])), (re, .inr (5, [.ref ar, .ref af])), (ar, .inl (E.2.1, 49, .inl rs)), (af, .inl (E.2.1, 49, .inl fs)), (rc, .inr (4, [.long q_4.2.2.2, .long q_1.2.1, .long q_1.2.2.1, .long q_1.2.2.2]))] H := hP
      have hX : xD A [h, pl, an, si, mo, re, ar, af, rc] := xD.of hD rfl
      refine W.eq (g2 := F0 m 48 ls []) rfl ?_
      refine lv_aload_n hx hb dX8_doTick_48 rfl (lv_at hl 0 rfl) ?_
      refine va_get (D := E.1) (ci := 8) (v := .ref pl) (C := RX8) (T := TX8) (N := 9) hx hb hts g_7 hown hE.1 hP 0 rfl rfl 0 (by decide) g_6 (fun _ h9 => h9) rfl dX8_doTick_49 ?_
      refine lv_aload_n hx hb dX8_doTick_52 rfl (lv_at hl 1 rfl) ?_
      refine va_getN (D := E.1) (ci := 6) (v := .ref mo) (C := RX6) (T := TX6) (N := 11) hx hb hts g_2 hown hE.1 hP 3 rfl rfl 0 (by decide) g_8 (fun _ h9 => h9) rfl dX8_doTick_53 ?_
      refine lv_aload_n hx hb dX8_doTick_56 rfl (lv_at hl 0 rfl) ?_
      refine lv_aload_n hx hb dX8_doTick_57 rfl (lv_at hl 1 rfl) ?_
      refine x_rV [.ref si] (kX8_pushIn l E h pl rd nw ah tr hi s0 s1 errorAt an num si mo re rc (tick + 1) q_4.1 q_4.2.1 force q_4.2.2.1 stops resets latestStop x v a1 a2 w1 w2 ar af rs fs q_4.2.2.2 q_1.2.1 q_1.2.2.1 q_1.2.2.2) ⟨hx, hb, hml, hown, hts⟩ (cwV 1 hts gX8_doTick_X8_pushIn rfl rfl rfl hdX8_pushIn ⟨Nat.le_of_ble_eq_true rfl, Nat.le_of_ble_eq_true rfl⟩) hE hP (hX.d rfl) [0, 1, 2, 3, 4, 5, 6, 7, 8] rfl rfl (ci := 8) (q0 := 0) rfl rfl rfl hl.1 rfl rfl (Nat.le_of_ble_eq_true rfl) dX8_doTick_58 (Nat.le_of_ble_eq_true rfl) (Nat.le_of_ble_eq_true rfl) ?_
      refine x_wV (wr := [(h, .inr (8, [.ref pl, .ref rd, .ref nw, .ref ah, .ref tr, .ref hi, .ref s0, .ref s1, .int errorAt])), (si, .inr (6, [.ref mo, .ref re, .ref rc, .int (tick + 1), .int q_4.1, .int q_4.2.1, .int force, .int q_4.2.2.1, .int stops, .int resets, .int latestStop])), (re, .inr (5, [.ref ar, .ref af])), (ar, .inl (E.2.1, 49, .inl rs)), (af, .inl (E.2.1, 49, .inl fs)), (rc, .inr (4, [.long q_4.2.2.2, .long q_1.2.1, .long q_1.2.2.1, .long q_1.2.2.2]))]) [.ref mo, .int (sX8_pushIn num q_4.1 force x v a1 a2 w1 w2)] (kX2_makeStep l E pl an num mo x v a1 a2 w1 w2 (sX8_pushIn num q_4.1 force x v a1 a2 w1 w2)) ⟨hx, hb, hml, hown, hts⟩ (cwV 2 hts gX8_doTick_X2_makeStep rfl rfl rfl hdX2_makeStep ⟨Nat.le_of_ble_eq_true rfl, Nat.le_of_ble_eq_true rfl⟩) hE hP (hX.d rfl) hS hA [1, 2, 4] [0, 3, 5, 6, 7, 8] rfl rfl rfl rfl (by decide) (ci := 2) (q0 := 1) rfl rfl rfl hl.1 rfl rfl (Nat.le_of_ble_eq_true rfl) dX8_doTick_61 (Nat.le_of_ble_eq_true rfl) (Nat.le_of_ble_eq_true rfl) (fun q_5 H locs hq_5 hP hD hS => ?_)
      have hP : va_P E.1 vwCl [(h, .inr (8, [.ref pl, .ref rd, .ref nw, .ref ah, .ref tr, .ref hi, .ref s0, .ref s1, .int errorAt])), (si, .inr (6, [.ref mo, .ref re, .ref rc, .int (tick + 1), .int q_4.1, .int q_4.2.1, .int force, .int q_4.2.2.1, .int stops, .int resets, .int latestStop])), (re, .inr (5, [.ref ar, .ref af])), (ar, .inl (E.2.1, 49, .inl rs)), (af, .inl (E.2.1, 49, .inl fs)), (rc, .inr (4, [.long q_4.2.2.2, .long q_1.2.1, .long q_1.2.2.1, .long q_1.2.2.2])), (pl, .inr (2, [.ref an])), (an, .inl (E.2.1, 24, .inl num)), (mo, .inr (1, [.int q_5.2.1, .int q_5.2.2.1, .int q_5.2.2.2.1, .int q_5.2.2.2.2.1, .int q_5.2.2.2.2.2.1, .int q_5.2.2.2.2.2.2]))] H := hP
      have hX : xD A [h, si, re, ar, af, rc, pl, an, mo] := xD.of hD rfl
      refine W.eq (g2 := F0 m 64 ls [.int q_5.1]) rfl ?_
      refine lv_istore_n (lv' := [(2, .int q_5.1), (0, .ref h), (1, .ref si)]) hx hb dX8_doTick_64 rfl hl (by decide) rfl (fun ls hl => ?_)
      refine lv_iload_n hx hb dX8_doTick_65 rfl (lv_at hl 0 rfl) ?_
      refine lv_if_eq (tgt := 89) hx hb dX8_doTick_66 (by decide) (fun c_6 => ?_) (fun c_6 => ?_)
      · exact x_wv (q_5.2.1, q_5.2.2.1, q_5.2.2.2.1, q_5.2.2.2.2.1, q_5.2.2.2.2.2.1, q_5.2.2.2.2.2.2, tick + 1, q_4.1, q_4.2.1, q_4.2.2.1, stops, latestStop, q_4.2.2.2, q_1.2.1, q_1.2.2.1, q_1.2.2.2) (by unfold sX8_doTick; rw [← hq_1]; unfold sX8_doTick_q_1; rw [if_neg c_2]; rw [if_pos c_3]; rw [← hq_4]; unfold sX8_doTick_q_4; rw [← hq_5]; unfold sX8_doTick_q_5; rw [if_pos c_6]; try rfl) rfl hx hb hr hlk hS hP (hX.d rfl) [0, 6, 7, 1, 8, 2, 3, 4, 5] rfl rfl (Nat.le_of_ble_eq_true rfl) (Nat.le_of_ble_eq_true rfl) dX8_doTick_89
      · refine lv_aload_n hx hb dX8_doTick_69 rfl (lv_at hl 2 rfl) ?_
        refine lv_iconst (v := 3) hx hb dX8_doTick_70 (by decide) ?_
        refine va_putN (D := E.1) (ci := 6) (v := .int 3) (ty := .int) (C := RX6) (T := TX6) (N := 11) hx hb hts g_2 tyX6 tyX6_ok nmX6 hown hE.1 hP (hX.d rfl) hS 1 rfl rfl 4 (by decide) g_4 (fun _ h9 => h9) rfl (by decide +kernel) rfl rfl (Nat.le_of_ble_eq_true rfl) dX8_doTick_71 (fun H locs hP _ hS => ?_)
        have hP : va_P E.1 vwCl [(h, .inr (8, [.ref pl, .ref rd, .ref nw, .ref ah, .ref tr, .ref hi, .ref s0, .ref s1, .int errorAt])), (si, .inr (6, [.ref mo, .ref re, .ref rc, .int (tick + 1), .int 3, .int q_4.2.1, .int force, .int q_4.2.2.1, .int stops, .int resets, .int latestStop])), (re, .inr (5, [.ref ar, .ref af])), (ar, .inl (E.2.1, 49, .inl rs)), (af, .inl (E.2.1, 49, .inl fs)), (rc, .inr (4, [.long q_4.2.2.2, .long q_1.2.1, .long q_1.2.2.1, .long q_1.2.2.2])), (pl, .inr (2, [.ref an])), (an, .inl (E.2.1, 24, .inl num)), (mo, .inr (1, [.int q_5.2.1, .int q_5.2.2.1, .int q_5.2.2.2.1, .int q_5.2.2.2.2.1, .int q_5.2.2.2.2.2.1, .int q_5.2.2.2.2.2.2]))] H := hP
        refine lv_aload_n hx hb dX8_doTick_74 rfl (lv_at hl 2 rfl) ?_
        refine lv_dup hx hb dX8_doTick_75 rfl ?_
        refine va_getN (D := E.1) (ci := 6) (v := .int stops) (C := RX6) (T := TX6) (N := 11) hx hb hts g_2 hown hE.1 hP 1 rfl rfl 8 (by decide) g_9 (fun _ h9 => h9) rfl dX8_doTick_76 ?_
        refine lv_iconst (v := 1) hx hb dX8_doTick_79 (by decide) ?_
        refine lv_iadd hx hb dX8_doTick_80 ?_
        refine va_putN (D := E.1) (ci := 6) (v := .int (stops + 1)) (ty := .int) (C := RX6) (T := TX6) (N := 11) hx hb hts g_2 tyX6 tyX6_ok nmX6 hown hE.1 hP (hX.d rfl) hS 1 rfl rfl 8 (by decide) g_9 (fun _ h9 => h9) rfl (by decide +kernel) rfl rfl (Nat.le_of_ble_eq_true rfl) dX8_doTick_81 (fun H locs hP _ hS => ?_)
        have hP : va_P E.1 vwCl [(h, .inr (8, [.ref pl, .ref rd, .ref nw, .ref ah, .ref tr, .ref hi, .ref s0, .ref s1, .int errorAt])), (si, .inr (6, [.ref mo, .ref re, .ref rc, .int (tick + 1), .int 3, .int q_4.2.1, .int force, .int q_4.2.2.1, .int (stops + 1), .int resets, .int latestStop])), (re, .inr (5, [.ref ar, .ref af])), (ar, .inl (E.2.1, 49, .inl rs)), (af, .inl (E.2.1, 49, .inl fs)), (rc, .inr (4, [.long q_4.2.2.2, .long q_1.2.1, .long q_1.2.2.1, .long q_1.2.2.2])), (pl, .inr (2, [.ref an])), (an, .inl (E.2.1, 24, .inl num)), (mo, .inr (1, [.int q_5.2.1, .int q_5.2.2.1, .int q_5.2.2.2.1, .int q_5.2.2.2.2.1, .int q_5.2.2.2.2.2.1, .int q_5.2.2.2.2.2.2]))] H := hP
        refine lv_aload_n hx hb dX8_doTick_84 rfl (lv_at hl 2 rfl) ?_
        refine lv_iload_n hx hb dX8_doTick_85 rfl (lv_at hl 0 rfl) ?_
        refine va_putN (D := E.1) (ci := 6) (v := .int q_5.1) (ty := .int) (C := RX6) (T := TX6) (N := 11) hx hb hts g_2 tyX6 tyX6_ok nmX6 hown hE.1 hP (hX.d rfl) hS 1 rfl rfl 10 (by decide) g_10 (fun _ h9 => h9) rfl (by decide +kernel) rfl rfl (Nat.le_of_ble_eq_true rfl) dX8_doTick_86 (fun H locs hP _ hS => ?_)
        have hP : va_P E.1 vwCl [(h, .inr (8, [.ref pl, .ref rd, .ref nw, .ref ah, .ref tr, .ref hi, .ref s0, .ref s1, .int errorAt])), (si, .inr (6, [.ref mo, .ref re, .ref rc, .int (tick + 1), .int 3, .int q_4.2.1, .int force, .int q_4.2.2.1, .int (stops + 1), .int resets, .int q_5.1])), (re, .inr (5, [.ref ar, .ref af])), (ar, .inl (E.2.1, 49, .inl rs)), (af, .inl (E.2.1, 49, .inl fs)), (rc, .inr (4, [.long q_4.2.2.2, .long q_1.2.1, .long q_1.2.2.1, .long q_1.2.2.2])), (pl, .inr (2, [.ref an])), (an, .inl (E.2.1, 24, .inl num)), (mo, .inr (1, [.int q_5.2.1, .int q_5.2.2.1, .int q_5.2.2.2.1, .int q_5.2.2.2.2.1, .int q_5.2.2.2.2.2.1, .int q_5.2.2.2.2.2.2]))] H := hP
        exact x_wv (q_5.2.1, q_5.2.2.1, q_5.2.2.2.1, q_5.2.2.2.2.1, q_5.2.2.2.2.2.1, q_5.2.2.2.2.2.2, tick + 1, 3, q_4.2.1, q_4.2.2.1, stops + 1, q_5.1, q_4.2.2.2, q_1.2.1, q_1.2.2.1, q_1.2.2.2) (by unfold sX8_doTick; rw [← hq_1]; unfold sX8_doTick_q_1; rw [if_neg c_2]; rw [if_pos c_3]; rw [← hq_4]; unfold sX8_doTick_q_4; rw [← hq_5]; unfold sX8_doTick_q_5; rw [if_neg c_6]; try rfl) rfl hx hb hr hlk hS hP (hX.d rfl) [0, 6, 7, 1, 8, 2, 3, 4, 5] rfl rfl (Nat.le_of_ble_eq_true rfl) (Nat.le_of_ble_eq_true rfl) dX8_doTick_89
    · refine lv_aload_n hx hb dX8_doTick_33 rfl (lv_at hl 1 rfl) ?_
      refine lv_dup hx hb dX8_doTick_34 rfl ?_
      refine va_getN (D := E.1) (ci := 6) (v := .int lock) (C := RX6) (T := TX6) (N := 11) hx hb hts g_2 hown hE.1 hP 3 rfl rfl 5 (by decide) g_5 (fun _ h9 => h9) rfl dX8_doTick_35 ?_
      refine lv_iconst (v := 1) hx hb dX8_doTick_38 (by decide) ?_
      refine lv_isub hx hb dX8_doTick_39 ?_
      refine va_putN (D := E.1) (ci := 6) (v := .int (lock - 1)) (ty := .int) (C := RX6) (T := TX6) (N := 11) hx hb hts g_2 tyX6 tyX6_ok nmX6 hown hE.1 hP (hX.d rfl) hS 3 rfl rfl 5 (by decide) g_5 (fun _ h9 => h9) rfl (by decide +kernel) rfl rfl (Nat.le_of_ble_eq_true rfl) dX8_doTick_40 (fun H locs hP _ hS => ?_)
      have hP : va_P E.1 vwCl [(h, .inr (8, [.ref pl, .ref rd, .ref nw, .ref ah, .ref tr, .ref hi, .ref s0, .ref s1, .int errorAt])), (pl, .inr (2, [.ref an])), (an, .inl (E.2.1, 24, .inl num)), (si, .inr (6, [.ref mo, .ref re, .ref rc, .int (tick + 1), .int mode, .int (lock - 1), .int force, .int switches, .int stops, .int resets, .int latestStop])), (mo, .inr (1, [.int x, .int v, .int a1, .int a2, .int w1, .int w2])), (re, .inr (5, [.ref ar, .ref af])), (ar, .inl (E.2.1, 49, .inl rs)), (af, .inl (E.2.1, 49, .inl fs)), (rc, .inr (4, [.long q_1.1, .long q_1.2.1, .long q_1.2.2.1, .long q_1.2.2.2]))] H := hP
      refine lv_aload_n hx hb dX8_doTick_43 rfl (lv_at hl 0 rfl) ?_
      refine lv_aload_n hx hb dX8_doTick_44 rfl (lv_at hl 1 rfl) ?_
      refine x_wV (wr := []) [.ref si] (kX8_switchModeIfDue l E h pl rd nw ah tr hi s0 s1 errorAt an num si mo re rc (tick + 1) mode (lock - 1) force switches stops resets latestStop x v a1 a2 w1 w2 ar af rs fs q_1.1 q_1.2.1 q_1.2.2.1 q_1.2.2.2 hz1 hz2) ⟨hx, hb, hml, hown, hts⟩ (cwV 1 hts gX8_doTick_X8_switchModeIfDue rfl rfl rfl hdX8_switchModeIfDue ⟨Nat.le_of_ble_eq_true rfl, Nat.le_of_ble_eq_true rfl⟩) hE hP (hX.d rfl) hS hA [0, 1, 2, 3, 4, 5, 6, 7, 8] [] rfl rfl rfl rfl (by decide) (ci := 8) (q0 := 0) rfl rfl rfl hl.1 rfl rfl (Nat.le_of_ble_eq_true rfl) dX8_doTick_45 (Nat.le_of_ble_eq_true rfl) (Nat.le_of_ble_eq_true rfl) (fun q_7 H locs hq_7 hP hD hS => ?_)
      have hP : va_P E.1 vwCl [(h, .inr (8, [.ref pl, .ref rd, .ref nw, .ref ah, .ref tr, .ref hi, .ref s0, .ref s1, .int errorAt])), (pl, .inr (2, [.ref an])), (an, .inl (E.2.1, 24, .inl num)), (si, .inr (6, [.ref mo, .ref re, .ref rc, .int (tick + 1), .int q_7.1, .int q_7.2.1, .int force, .int q_7.2.2.1, .int stops, .int resets, .int latestStop])), (mo, .inr (1, [.int x, .int v, .int a1, .int a2, .int w1, .int w2])), (re, .inr (5, [.ref ar, .ref af])), (ar, .inl (E.2.1, 49, .inl rs)), (af, .inl (E.2.1, 49, .inl fs)), (rc, .inr (4, [.long q_7.2.2.2, .long q_1.2.1, .long q_1.2.2.1, .long q_1.2.2.2]))] H := hP
      have hX : xD A [h, pl, an, si, mo, re, ar, af, rc] := xD.of hD rfl
      refine W.eq (g2 := F0 m 48 ls []) rfl ?_
      refine lv_aload_n hx hb dX8_doTick_48 rfl (lv_at hl 0 rfl) ?_
      refine va_get (D := E.1) (ci := 8) (v := .ref pl) (C := RX8) (T := TX8) (N := 9) hx hb hts g_7 hown hE.1 hP 0 rfl rfl 0 (by decide) g_6 (fun _ h9 => h9) rfl dX8_doTick_49 ?_
      refine lv_aload_n hx hb dX8_doTick_52 rfl (lv_at hl 1 rfl) ?_
      refine va_getN (D := E.1) (ci := 6) (v := .ref mo) (C := RX6) (T := TX6) (N := 11) hx hb hts g_2 hown hE.1 hP 3 rfl rfl 0 (by decide) g_8 (fun _ h9 => h9) rfl dX8_doTick_53 ?_
      refine lv_aload_n hx hb dX8_doTick_56 rfl (lv_at hl 0 rfl) ?_
      refine lv_aload_n hx hb dX8_doTick_57 rfl (lv_at hl 1 rfl) ?_
      refine x_rV [.ref si] (kX8_pushIn l E h pl rd nw ah tr hi s0 s1 errorAt an num si mo re rc (tick + 1) q_7.1 q_7.2.1 force q_7.2.2.1 stops resets latestStop x v a1 a2 w1 w2 ar af rs fs q_7.2.2.2 q_1.2.1 q_1.2.2.1 q_1.2.2.2) ⟨hx, hb, hml, hown, hts⟩ (cwV 1 hts gX8_doTick_X8_pushIn rfl rfl rfl hdX8_pushIn ⟨Nat.le_of_ble_eq_true rfl, Nat.le_of_ble_eq_true rfl⟩) hE hP (hX.d rfl) [0, 1, 2, 3, 4, 5, 6, 7, 8] rfl rfl (ci := 8) (q0 := 0) rfl rfl rfl hl.1 rfl rfl (Nat.le_of_ble_eq_true rfl) dX8_doTick_58 (Nat.le_of_ble_eq_true rfl) (Nat.le_of_ble_eq_true rfl) ?_
      refine x_wV (wr := [(h, .inr (8, [.ref pl, .ref rd, .ref nw, .ref ah, .ref tr, .ref hi, .ref s0, .ref s1, .int errorAt])), (si, .inr (6, [.ref mo, .ref re, .ref rc, .int (tick + 1), .int q_7.1, .int q_7.2.1, .int force, .int q_7.2.2.1, .int stops, .int resets, .int latestStop])), (re, .inr (5, [.ref ar, .ref af])), (ar, .inl (E.2.1, 49, .inl rs)), (af, .inl (E.2.1, 49, .inl fs)), (rc, .inr (4, [.long q_7.2.2.2, .long q_1.2.1, .long q_1.2.2.1, .long q_1.2.2.2]))]) [.ref mo, .int (sX8_pushIn num q_7.1 force x v a1 a2 w1 w2)] (kX2_makeStep l E pl an num mo x v a1 a2 w1 w2 (sX8_pushIn num q_7.1 force x v a1 a2 w1 w2)) ⟨hx, hb, hml, hown, hts⟩ (cwV 2 hts gX8_doTick_X2_makeStep rfl rfl rfl hdX2_makeStep ⟨Nat.le_of_ble_eq_true rfl, Nat.le_of_ble_eq_true rfl⟩) hE hP (hX.d rfl) hS hA [1, 2, 4] [0, 3, 5, 6, 7, 8] rfl rfl rfl rfl (by decide) (ci := 2) (q0 := 1) rfl rfl rfl hl.1 rfl rfl (Nat.le_of_ble_eq_true rfl) dX8_doTick_61 (Nat.le_of_ble_eq_true rfl) (Nat.le_of_ble_eq_true rfl) (fun q_8 H locs hq_8 hP hD hS => ?_)
      have hP : va_P E.1 vwCl [(h, .inr (8, [.ref pl, .ref rd, .ref nw, .ref ah, .ref tr, .ref hi, .ref s0, .ref s1, .int errorAt])), (si, .inr (6, [.ref mo, .ref re, .ref rc, .int (tick + 1), .int q_7.1, .int q_7.2.1, .int force, .int q_7.2.2.1, .int stops, .int resets, .int latestStop])), (re, .inr (5, [.ref ar, .ref af])), (ar, .inl (E.2.1, 49, .inl rs)), (af, .inl (E.2.1, 49, .inl fs)), (rc, .inr (4, [.long q_7.2.2.2, .long q_1.2.1, .long q_1.2.2.1, .long q_1.2.2.2])), (pl, .inr (2, [.ref an])), (an, .inl (E.2.1, 24, .inl num)), (mo, .inr (1, [.int q_8.2.1, .int q_8.2.2.1, .int q_8.2.2.2.1, .int q_8.2.2.2.2.1, .int q_8.2.2.2.2.2.1, .int q_8.2.2.2.2.2.2]))] H := hP
      have hX : xD A [h, si, re, ar, af, rc, pl, an, mo] := xD.of hD rfl
      refine W.eq (g2 := F0 m 64 ls [.int q_8.1]) rfl ?_
      refine lv_istore_n (lv' := [(2, .int q_8.1), (0, .ref h), (1, .ref si)]) hx hb dX8_doTick_64 rfl hl (by decide) rfl (fun ls hl => ?_)
      refine lv_iload_n hx hb dX8_doTick_65 rfl (lv_at hl 0 rfl) ?_
      refine lv_if_eq (tgt := 89) hx hb dX8_doTick_66 (by decide) (fun c_9 => ?_) (fun c_9 => ?_)
      · exact x_wv (q_8.2.1, q_8.2.2.1, q_8.2.2.2.1, q_8.2.2.2.2.1, q_8.2.2.2.2.2.1, q_8.2.2.2.2.2.2, tick + 1, q_7.1, q_7.2.1, q_7.2.2.1, stops, latestStop, q_7.2.2.2, q_1.2.1, q_1.2.2.1, q_1.2.2.2) (by unfold sX8_doTick; rw [← hq_1]; unfold sX8_doTick_q_1; rw [if_neg c_2]; rw [if_neg c_3]; rw [← hq_7]; unfold sX8_doTick_q_7; rw [← hq_8]; unfold sX8_doTick_q_8; rw [if_pos c_9]; try rfl) rfl hx hb hr hlk hS hP (hX.d rfl) [0, 6, 7, 1, 8, 2, 3, 4, 5] rfl rfl (Nat.le_of_ble_eq_true rfl) (Nat.le_of_ble_eq_true rfl) dX8_doTick_89
      · refine lv_aload_n hx hb dX8_doTick_69 rfl (lv_at hl 2 rfl) ?_
        refine lv_iconst (v := 3) hx hb dX8_doTick_70 (by decide) ?_
        refine va_putN (D := E.1) (ci := 6) (v := .int 3) (ty := .int) (C := RX6) (T := TX6) (N := 11) hx hb hts g_2 tyX6 tyX6_ok nmX6 hown hE.1 hP (hX.d rfl) hS 1 rfl rfl 4 (by decide) g_4 (fun _ h9 => h9) rfl (by decide +kernel) rfl rfl (Nat.le_of_ble_eq_true rfl) dX8_doTick_71 (fun H locs hP _ hS => ?_)
        have hP : va_P E.1 vwCl [(h, .inr (8, [.ref pl, .ref rd, .ref nw, .ref ah, .ref tr, .ref hi, .ref s0, .ref s1, .int errorAt])), (si, .inr (6, [.ref mo, .ref re, .ref rc, .int (tick + 1), .int 3, .int q_7.2.1, .int force, .int q_7.2.2.1, .int stops, .int resets, .int latestStop])), (re, .inr (5, [.ref ar, .ref af])), (ar, .inl (E.2.1, 49, .inl rs)), (af, .inl (E.2.1, 49, .inl fs)), (rc, .inr (4, [.long q_7.2.2.2, .long q_1.2.1, .long q_1.2.2.1, .long q_1.2.2.2])), (pl, .inr (2, [.ref an])), (an, .inl (E.2.1, 24, .inl num)), (mo, .inr (1, [.int q_8.2.1, .int q_8.2.2.1, .int q_8.2.2.2.1, .int q_8.2.2.2.2.1, .int q_8.2.2.2.2.2.1, .int q_8.2.2.2.2.2.2]))] H := hP
        refine lv_aload_n hx hb dX8_doTick_74 rfl (lv_at hl 2 rfl) ?_
        refine lv_dup hx hb dX8_doTick_75 rfl ?_
        refine va_getN (D := E.1) (ci := 6) (v := .int stops) (C := RX6) (T := TX6) (N := 11) hx hb hts g_2 hown hE.1 hP 1 rfl rfl 8 (by decide) g_9 (fun _ h9 => h9) rfl dX8_doTick_76 ?_
        refine lv_iconst (v := 1) hx hb dX8_doTick_79 (by decide) ?_
        refine lv_iadd hx hb dX8_doTick_80 ?_
        refine va_putN (D := E.1) (ci := 6) (v := .int (stops + 1)) (ty := .int) (C := RX6) (T := TX6) (N := 11) hx hb hts g_2 tyX6 tyX6_ok nmX6 hown hE.1 hP (hX.d rfl) hS 1 rfl rfl 8 (by decide) g_9 (fun _ h9 => h9) rfl (by decide +kernel) rfl rfl (Nat.le_of_ble_eq_true rfl) dX8_doTick_81 (fun H locs hP _ hS => ?_)
        have hP : va_P E.1 vwCl [(h, .inr (8, [.ref pl, .ref rd, .ref nw, .ref ah, .ref tr, .ref hi, .ref s0, .ref s1, .int errorAt])), (si, .inr (6, [.ref mo, .ref re, .ref rc, .int (tick + 1), .int 3, .int q_7.2.1, .int force, .int q_7.2.2.1, .int (stops + 1), .int resets, .int latestStop])), (re, .inr (5, [.ref ar, .ref af])), (ar, .inl (E.2.1, 49, .inl rs)), (af, .inl (E.2.1, 49, .inl fs)), (rc, .inr (4, [.long q_7.2.2.2, .long q_1.2.1, .long q_1.2.2.1, .long q_1.2.2.2])), (pl, .inr (2, [.ref an])), (an, .inl (E.2.1, 24, .inl num)), (mo, .inr (1, [.int q_8.2.1, .int q_8.2.2.1, .int q_8.2.2.2.1, .int q_8.2.2.2.2.1, .int q_8.2.2.2.2.2.1, .int q_8.2.2.2.2.2.2]))] H := hP
        refine lv_aload_n hx hb dX8_doTick_84 rfl (lv_at hl 2 rfl) ?_
        refine lv_iload_n hx hb dX8_doTick_85 rfl (lv_at hl 0 rfl) ?_
        refine va_putN (D := E.1) (ci := 6) (v := .int q_8.1) (ty := .int) (C := RX6) (T := TX6) (N := 11) hx hb hts g_2 tyX6 tyX6_ok nmX6 hown hE.1 hP (hX.d rfl) hS 1 rfl rfl 10 (by decide) g_10 (fun _ h9 => h9) rfl (by decide +kernel) rfl rfl (Nat.le_of_ble_eq_true rfl) dX8_doTick_86 (fun H locs hP _ hS => ?_)
        have hP : va_P E.1 vwCl [(h, .inr (8, [.ref pl, .ref rd, .ref nw, .ref ah, .ref tr, .ref hi, .ref s0, .ref s1, .int errorAt])), (si, .inr (6, [.ref mo, .ref re, .ref rc, .int (tick + 1), .int 3, .int q_7.2.1, .int force, .int q_7.2.2.1, .int (stops + 1), .int resets, .int q_8.1])), (re, .inr (5, [.ref ar, .ref af])), (ar, .inl (E.2.1, 49, .inl rs)), (af, .inl (E.2.1, 49, .inl fs)), (rc, .inr (4, [.long q_7.2.2.2, .long q_1.2.1, .long q_1.2.2.1, .long q_1.2.2.2])), (pl, .inr (2, [.ref an])), (an, .inl (E.2.1, 24, .inl num)), (mo, .inr (1, [.int q_8.2.1, .int q_8.2.2.1, .int q_8.2.2.2.1, .int q_8.2.2.2.2.1, .int q_8.2.2.2.2.2.1, .int q_8.2.2.2.2.2.2]))] H := hP
        exact x_wv (q_8.2.1, q_8.2.2.1, q_8.2.2.2.1, q_8.2.2.2.2.1, q_8.2.2.2.2.2.1, q_8.2.2.2.2.2.2, tick + 1, 3, q_7.2.1, q_7.2.2.1, stops + 1, q_8.1, q_7.2.2.2, q_1.2.1, q_1.2.2.1, q_1.2.2.2) (by unfold sX8_doTick; rw [← hq_1]; unfold sX8_doTick_q_1; rw [if_neg c_2]; rw [if_neg c_3]; rw [← hq_7]; unfold sX8_doTick_q_7; rw [← hq_8]; unfold sX8_doTick_q_8; rw [if_neg c_9]; try rfl) rfl hx hb hr hlk hS hP (hX.d rfl) [0, 6, 7, 1, 8, 2, 3, 4, 5] rfl rfl (Nat.le_of_ble_eq_true rfl) (Nat.le_of_ble_eq_true rfl) dX8_doTick_89
  · exact x_wv (x, v, a1, a2, w1, w2, tick + 1, mode, lock, switches, stops, latestStop, q_1.1, q_1.2.1, q_1.2.2.1, q_1.2.2.2) (by unfold sX8_doTick; rw [← hq_1]; unfold sX8_doTick_q_1; rw [if_pos c_2]; try rfl) rfl hx hb hr hlk hS hP (hX.d rfl) [0, 1, 2, 3, 4, 5, 6, 7, 8] rfl rfl (Nat.le_of_ble_eq_true rfl) (Nat.le_of_ble_eq_true rfl) dX8_doTick_25
