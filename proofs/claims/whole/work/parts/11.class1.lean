def sX8_wrapped (angle : Int32) : Int32 :=
  angle &&& 4095
theorem hdX8_wrapped : yX8_wrapped.cls = RX8 ∧ yX8_wrapped.cls ≠ "java/lang/invoke/MethodHandle" ∧ yX8_wrapped.cls ≠ "java/lang/invoke/VarHandle" ∧ (parseMethodDescriptor yX8_wrapped.desc).map (fun d => d.parameters.length) = some 1 := by decide +kernel
set_option maxHeartbeats 4000000 in
set_option maxRecDepth 100000 in
theorem kX8_wrapped (l : Launch) (E : XE) (angle : Int32) : xR l yX8_wrapped wsX8_wrapped ({ frames := 0, cells := 0, slots := 0, locals := 0 }) E [] [.int angle] (.int (sX8_wrapped angle)) := by
  refine xR.of (cc := cX8_wrapped) (maxL := 1) (ret := (some .int)) (by decide) rfl (Nat.le_of_ble_eq_true rfl) ?_
  intro p e s m args below meth c ls hM hE hP hD hl
  obtain ⟨hx, hb, hr, hml, hts, hown, hlk, hnm⟩ := hM
  have hl : lv_has ls 1 [(0, .int angle)] := hl
  refine lv_iload_n hx hb dX8_wrapped_0 rfl (lv_at hl 0 rfl) ?_
  refine lv_sipush (v := 4095) hx hb dX8_wrapped_1 (by decide) ?_
  refine lv_iand hx hb dX8_wrapped_4 ?_
  exact x_ir (by unfold sX8_wrapped; try rfl) hx hb hr hlk dX8_wrapped_5
def sX8_leanOf (angle : Int32) : Int32 :=
  if 2048 ≤ angle then
    angle - 4096
  else
    angle
theorem hdX8_leanOf : yX8_leanOf.cls = RX8 ∧ yX8_leanOf.cls ≠ "java/lang/invoke/MethodHandle" ∧ yX8_leanOf.cls ≠ "java/lang/invoke/VarHandle" ∧ (parseMethodDescriptor yX8_leanOf.desc).map (fun d => d.parameters.length) = some 1 := by decide +kernel
set_option maxHeartbeats 4000000 in
set_option maxRecDepth 100000 in
theorem kX8_leanOf (l : Launch) (E : XE) (angle : Int32) : xR l yX8_leanOf wsX8_leanOf ({ frames := 0, cells := 0, slots := 0, locals := 0 }) E [] [.int angle] (.int (sX8_leanOf angle)) := by
  refine xR.of (cc := cX8_leanOf) (maxL := 1) (ret := (some .int)) (by decide) rfl (Nat.le_of_ble_eq_true rfl) ?_
  intro p e s m args below meth c ls hM hE hP hD hl
  obtain ⟨hx, hb, hr, hml, hts, hown, hlk, hnm⟩ := hM
  have hl : lv_has ls 1 [(0, .int angle)] := hl
  refine lv_iload_n hx hb dX8_leanOf_0 rfl (lv_at hl 0 rfl) ?_
  refine lv_sipush (v := 2048) hx hb dX8_leanOf_1 (by decide) ?_
  refine lv_icmp_ge (tgt := 11) hx hb dX8_leanOf_4 (by decide) (fun c_1 => ?_) (fun c_1 => ?_)
  · refine lv_iload_n hx hb dX8_leanOf_11 rfl (lv_at hl 0 rfl) ?_
    refine lv_sipush (v := 4096) hx hb dX8_leanOf_12 (by decide) ?_
    refine lv_isub hx hb dX8_leanOf_15 ?_
    exact x_ir (by unfold sX8_leanOf; rw [if_pos c_1]; try rfl) hx hb hr hlk dX8_leanOf_16
  · refine lv_iload_n hx hb dX8_leanOf_7 rfl (lv_at hl 0 rfl) ?_
    refine lv_goto (tgt := 16) hx hb dX8_leanOf_8 (by decide) ?_
    exact x_ir (by unfold sX8_leanOf; rw [if_neg c_1]; try rfl) hx hb hr hlk dX8_leanOf_16
def sX8_isBeyond (value : Int32) (limit : Int32) : Int32 :=
  if limit < value then
    1
  else
    if (-limit) ≤ value then
      0
    else
      1
theorem hdX8_isBeyond : yX8_isBeyond.cls = RX8 ∧ yX8_isBeyond.cls ≠ "java/lang/invoke/MethodHandle" ∧ yX8_isBeyond.cls ≠ "java/lang/invoke/VarHandle" ∧ (parseMethodDescriptor yX8_isBeyond.desc).map (fun d => d.parameters.length) = some 2 := by decide +kernel
set_option maxHeartbeats 4000000 in
set_option maxRecDepth 100000 in
theorem kX8_isBeyond (l : Launch) (E : XE) (value : Int32) (limit : Int32) : xR l yX8_isBeyond wsX8_isBeyond ({ frames := 0, cells := 0, slots := 0, locals := 0 }) E [] [.int value, .int limit] (.int (sX8_isBeyond value limit)) := by
  refine xR.of (cc := cX8_isBeyond) (maxL := 2) (ret := (some .boolean)) (by decide) rfl (Nat.le_of_ble_eq_true rfl) ?_
  intro p e s m args below meth c ls hM hE hP hD hl
  obtain ⟨hx, hb, hr, hml, hts, hown, hlk, hnm⟩ := hM
  have hl : lv_has ls 2 [(0, .int value), (1, .int limit)] := hl
  refine lv_iload_n hx hb dX8_isBeyond_0 rfl (lv_at hl 0 rfl) ?_
  refine lv_iload_n hx hb dX8_isBeyond_1 rfl (lv_at hl 1 rfl) ?_
  refine lv_icmp_gt (tgt := 11) hx hb dX8_isBeyond_2 (by decide) (fun c_1 => ?_) (fun c_1 => ?_)
  · refine lv_iconst (v := 1) hx hb dX8_isBeyond_11 (by decide) ?_
    refine lv_goto (tgt := 16) hx hb dX8_isBeyond_12 (by decide) ?_
    exact x_zr (by unfold sX8_isBeyond; rw [if_pos c_1]; try rfl) hx hb hr hlk rfl dX8_isBeyond_16
  · refine lv_iload_n hx hb dX8_isBeyond_5 rfl (lv_at hl 0 rfl) ?_
    refine lv_iload_n hx hb dX8_isBeyond_6 rfl (lv_at hl 1 rfl) ?_
    refine lv_ineg hx hb dX8_isBeyond_7 ?_
    refine lv_icmp_ge (tgt := 15) hx hb dX8_isBeyond_8 (by decide) (fun c_2 => ?_) (fun c_2 => ?_)
    · refine lv_iconst (v := 0) hx hb dX8_isBeyond_15 (by decide) ?_
      exact x_zr (by unfold sX8_isBeyond; rw [if_neg c_1]; rw [if_pos c_2]; try rfl) hx hb hr hlk rfl dX8_isBeyond_16
    · refine lv_iconst (v := 1) hx hb dX8_isBeyond_11 (by decide) ?_
      refine lv_goto (tgt := 16) hx hb dX8_isBeyond_12 (by decide) ?_
      exact x_zr (by unfold sX8_isBeyond; rw [if_neg c_1]; rw [if_neg c_2]; try rfl) hx hb hr hlk rfl dX8_isBeyond_16
def sX8_sineOf (angle : Int32) : Int32 :=
  if 0 < (lg_cmp (20971520 - (4 * (((angle &&& 2047).toInt64) * ((2048 - (angle &&& 2047)).toInt64)))) 0) then
    if (angle &&& 2048) = 0 then
      ((65536 * (((angle &&& 2047).toInt64) * ((2048 - (angle &&& 2047)).toInt64))) / (20971520 - (4 * (((angle &&& 2047).toInt64) * ((2048 - (angle &&& 2047)).toInt64))))).toInt32
    else
      -(((65536 * (((angle &&& 2047).toInt64) * ((2048 - (angle &&& 2047)).toInt64))) / (20971520 - (4 * (((angle &&& 2047).toInt64) * ((2048 - (angle &&& 2047)).toInt64))))).toInt32)
  else
    0
theorem hdX8_sineOf : yX8_sineOf.cls = RX8 ∧ yX8_sineOf.cls ≠ "java/lang/invoke/MethodHandle" ∧ yX8_sineOf.cls ≠ "java/lang/invoke/VarHandle" ∧ (parseMethodDescriptor yX8_sineOf.desc).map (fun d => d.parameters.length) = some 1 := by decide +kernel
set_option maxHeartbeats 4000000 in
set_option maxRecDepth 100000 in
theorem kX8_sineOf (l : Launch) (E : XE) (angle : Int32) : xR l yX8_sineOf wsX8_sineOf ({ frames := 0, cells := 0, slots := 0, locals := 0 }) E [] [.int angle] (.int (sX8_sineOf angle)) := by
  refine xR.of (cc := cX8_sineOf) (maxL := 7) (ret := (some .int)) (by decide) rfl (Nat.le_of_ble_eq_true rfl) ?_
  intro p e s m args below meth c ls hM hE hP hD hl
  obtain ⟨hx, hb, hr, hml, hts, hown, hlk, hnm⟩ := hM
  have g_1 : (Cond.constantLong RX8 318 (20971520)).before args s = true := hts (Cond.constantLong RX8 318 (20971520)) (by decide +kernel)
  have g_2 : (Cond.constantLong RX8 320 (4)).before args s = true := hts (Cond.constantLong RX8 320 (4)) (by decide +kernel)
  have g_3 : (Cond.constantLong RX8 322 (65536)).before args s = true := hts (Cond.constantLong RX8 322 (65536)) (by decide +kernel)
  have hl : lv_has ls 7 [(0, .int angle)] := hl
  refine lv_iload_n hx hb dX8_sineOf_0 rfl (lv_at hl 0 rfl) ?_
  refine lv_sipush (v := 2047) hx hb dX8_sineOf_1 (by decide) ?_
  refine lv_iand hx hb dX8_sineOf_4 ?_
  refine lv_istore_n (lv' := [(1, .int (angle &&& 2047)), (0, .int angle)]) hx hb dX8_sineOf_5 rfl hl (by decide) rfl (fun ls hl => ?_)
  refine lv_iload_n hx hb dX8_sineOf_6 rfl (lv_at hl 0 rfl) ?_
  refine lv_i2l hx hb dX8_sineOf_7 rfl ?_
  refine lv_sipush (v := 2048) hx hb dX8_sineOf_8 (by decide) ?_
  refine lv_iload_n hx hb dX8_sineOf_11 rfl (lv_at hl 0 rfl) ?_
  refine lv_isub hx hb dX8_sineOf_12 ?_
  refine lv_i2l hx hb dX8_sineOf_13 rfl ?_
  refine lv_lmul hx hb dX8_sineOf_14 ?_
  refine lv_lstore_n (lv' := [(2, .long (((angle &&& 2047).toInt64) * ((2048 - (angle &&& 2047)).toInt64))), (1, .int (angle &&& 2047)), (0, .int angle)]) hx hb dX8_sineOf_15 rfl hl (by decide) rfl (fun ls hl => ?_)
  refine lv_ldc2 (v := 20971520) hx hb hown g_1 dX8_sineOf_16 ?_
  refine lv_ldc2 (v := 4) hx hb hown g_2 dX8_sineOf_19 ?_
  refine lv_lload_n hx hb dX8_sineOf_22 rfl (lv_at hl 0 rfl) ?_
  refine lv_lmul hx hb dX8_sineOf_23 ?_
  refine lv_lsub hx hb dX8_sineOf_24 ?_
  refine lv_lstore (lv' := [(4, .long (20971520 - (4 * (((angle &&& 2047).toInt64) * ((2048 - (angle &&& 2047)).toInt64))))), (2, .long (((angle &&& 2047).toInt64) * ((2048 - (angle &&& 2047)).toInt64))), (1, .int (angle &&& 2047)), (0, .int angle)]) hx hb dX8_sineOf_25 hl (by decide) rfl (fun ls hl => ?_)
  refine lv_lload hx hb dX8_sineOf_27 (lv_at hl 0 rfl) ?_
  refine lv_lconst (v := 0) hx hb dX8_sineOf_29 (by decide) ?_
  refine W.lcmp hx hb dX8_sineOf_30 ?_
  refine lv_if_gt (tgt := 36) hx hb dX8_sineOf_31 (by decide) (fun c_1 => ?_) (fun c_1 => ?_)
  · refine lv_ldc2 (v := 65536) hx hb hown g_3 dX8_sineOf_36 ?_
    refine lv_lload_n hx hb dX8_sineOf_39 rfl (lv_at hl 1 rfl) ?_
    refine lv_lmul hx hb dX8_sineOf_40 ?_
    refine lv_lload hx hb dX8_sineOf_41 (lv_at hl 0 rfl) ?_
    refine lv_ldiv hx hb dX8_sineOf_43 (x_cmp_pos c_1) ?_
    refine lv_l2i hx hb dX8_sineOf_44 rfl ?_
    refine lv_istore (lv' := [(6, .int (((65536 * (((angle &&& 2047).toInt64) * ((2048 - (angle &&& 2047)).toInt64))) / (20971520 - (4 * (((angle &&& 2047).toInt64) * ((2048 - (angle &&& 2047)).toInt64))))).toInt32)), (4, .long (20971520 - (4 * (((angle &&& 2047).toInt64) * ((2048 - (angle &&& 2047)).toInt64))))), (2, .long (((angle &&& 2047).toInt64) * ((2048 - (angle &&& 2047)).toInt64))), (1, .int (angle &&& 2047)), (0, .int angle)]) hx hb dX8_sineOf_45 hl (by decide) rfl (fun ls hl => ?_)
    refine lv_iload_n hx hb dX8_sineOf_47 rfl (lv_at hl 4 rfl) ?_
    refine lv_sipush (v := 2048) hx hb dX8_sineOf_48 (by decide) ?_
    refine lv_iand hx hb dX8_sineOf_51 ?_
    refine lv_if_ne (tgt := 60) hx hb dX8_sineOf_52 (by decide) (fun c_2 => ?_) (fun c_2 => ?_)
    · refine lv_iload hx hb dX8_sineOf_60 (lv_at hl 0 rfl) ?_
      refine lv_ineg hx hb dX8_sineOf_62 ?_
      exact x_ir (by unfold sX8_sineOf; rw [if_pos c_1]; rw [if_neg c_2]; try rfl) hx hb hr hlk dX8_sineOf_63
    · refine lv_iload hx hb dX8_sineOf_55 (lv_at hl 0 rfl) ?_
      refine lv_goto (tgt := 63) hx hb dX8_sineOf_57 (by decide) ?_
      exact x_ir (by unfold sX8_sineOf; rw [if_pos c_1]; rw [if_pos c_2]; try rfl) hx hb hr hlk dX8_sineOf_63
  · refine lv_iconst (v := 0) hx hb dX8_sineOf_34 (by decide) ?_
    exact x_ir (by unfold sX8_sineOf; rw [if_neg c_1]; try rfl) hx hb hr hlk dX8_sineOf_35
def sX8_valueAt (n : Nat) (f : Nat → Int32) (index : Int32) : Int32 :=
  if index < 0 then
    0
  else
    if (nI n) ≤ index then
      0
    else
      f index.toNatClampNeg
theorem hdX8_valueAt : yX8_valueAt.cls = RX8 ∧ yX8_valueAt.cls ≠ "java/lang/invoke/MethodHandle" ∧ yX8_valueAt.cls ≠ "java/lang/invoke/VarHandle" ∧ (parseMethodDescriptor yX8_valueAt.desc).map (fun d => d.parameters.length) = some 2 := by decide +kernel
set_option maxHeartbeats 4000000 in
set_option maxRecDepth 100000 in
theorem kX8_valueAt (l : Launch) (E : XE) (row : Nat) (n : Nat) (f : Nat → Int32) (index : Int32) (hn : n < 2 ^ 31) : xR l yX8_valueAt wsX8_valueAt ({ frames := 0, cells := 0, slots := 0, locals := 0 }) E [(row, .inl (E.2.1, n, .inl f))] [.ref row, .int index] (.int (sX8_valueAt n f index)) := by
  refine xR.of (cc := cX8_valueAt) (maxL := 2) (ret := (some .int)) (by decide) rfl (Nat.le_of_ble_eq_true rfl) ?_
  intro p e s m args below meth c ls hM hE hP hD hl
  obtain ⟨hx, hb, hr, hml, hts, hown, hlk, hnm⟩ := hM
  have hl : lv_has ls 2 [(0, .ref row), (1, .int index)] := hl
  refine lv_iload_n hx hb dX8_valueAt_0 rfl (lv_at hl 1 rfl) ?_
  refine lv_if_lt (tgt := 16) hx hb dX8_valueAt_1 (by decide) (fun c_1 => ?_) (fun c_1 => ?_)
  · refine lv_iconst (v := 0) hx hb dX8_valueAt_16 (by decide) ?_
    exact x_ir (by unfold sX8_valueAt; rw [if_pos c_1]; try rfl) hx hb hr hlk dX8_valueAt_17
  · refine lv_iload_n hx hb dX8_valueAt_4 rfl (lv_at hl 1 rfl) ?_
    refine lv_aload_n hx hb dX8_valueAt_5 rfl (lv_at hl 0 rfl) ?_
    refine va_alen hx hb hE.1 hP 0 0 rfl rfl (v := nI n) rfl dX8_valueAt_6 ?_
    refine lv_icmp_ge (tgt := 16) hx hb dX8_valueAt_7 (by decide) (fun c_2 => ?_) (fun c_2 => ?_)
    · refine lv_iconst (v := 0) hx hb dX8_valueAt_16 (by decide) ?_
      exact x_ir (by unfold sX8_valueAt; rw [if_neg c_1]; rw [if_pos c_2]; try rfl) hx hb hr hlk dX8_valueAt_17
    · refine lv_aload_n hx hb dX8_valueAt_10 rfl (lv_at hl 0 rfl) ?_
      refine lv_iload_n hx hb dX8_valueAt_11 rfl (lv_at hl 1 rfl) ?_
      refine x_iald hx hb hE.1 hP 0 0 rfl rfl index.toNatClampNeg rfl (x_inl c_1 c_2 (nI_toInt hn)) dX8_valueAt_12 ?_
      refine lv_goto (tgt := 17) hx hb dX8_valueAt_13 (by decide) ?_
      exact x_ir (by unfold sX8_valueAt; rw [if_neg c_1]; rw [if_neg c_2]; try rfl) hx hb hr hlk dX8_valueAt_17
def sX8_putAt (n : Nat) (f : Nat → Int32) (index : Int32) (value : Int32) : (Nat → Int32) :=
  if index < 0 then
    f
  else
    if (nI n) ≤ index then
      f
    else
      upd f index.toNatClampNeg value
theorem hdX8_putAt : yX8_putAt.cls = RX8 ∧ yX8_putAt.cls ≠ "java/lang/invoke/MethodHandle" ∧ yX8_putAt.cls ≠ "java/lang/invoke/VarHandle" ∧ (parseMethodDescriptor yX8_putAt.desc).map (fun d => d.parameters.length) = some 3 := by decide +kernel
set_option maxHeartbeats 4000000 in
set_option maxRecDepth 100000 in
theorem kX8_putAt (l : Launch) (E : XE) (row : Nat) (n : Nat) (f : Nat → Int32) (index : Int32) (value : Int32) (hn : n < 2 ^ 31) : xW (T := (Nat → Int32)) l yX8_putAt wsX8_putAt ({ frames := 0, cells := 0, slots := 0, locals := 0 }) E [(row, .inl (E.2.1, n, .inl f))] [.ref row, .int index, .int value] (fun _ => none) (fun q => [(row, .inl (E.2.1, n, .inl q))]) (sX8_putAt n f index value) 0 0 := by
  refine xW.of (cc := cX8_putAt) (maxL := 3) (ret := none) (by decide) rfl (Nat.le_of_ble_eq_true rfl) ?_
  intro p e s m args below meth c ls A hM hE hP hD hS hA hl
  obtain ⟨hx, hb, hr, hml, hts, hown, hlk, hnm⟩ := hM
  have hX : xD A [row] := xD.of hD rfl
  have hl : lv_has ls 3 [(0, .ref row), (1, .int index), (2, .int value)] := hl
  refine lv_iload_n hx hb dX8_putAt_0 rfl (lv_at hl 1 rfl) ?_
  refine lv_if_lt (tgt := 14) hx hb dX8_putAt_1 (by decide) (fun c_1 => ?_) (fun c_1 => ?_)
  · exact x_wv f (by unfold sX8_putAt; rw [if_pos c_1]; try rfl) rfl hx hb hr hlk hS hP (hX.d rfl) [0] rfl rfl (Nat.le_of_ble_eq_true rfl) (Nat.le_of_ble_eq_true rfl) dX8_putAt_14
  · refine lv_iload_n hx hb dX8_putAt_4 rfl (lv_at hl 1 rfl) ?_
    refine lv_aload_n hx hb dX8_putAt_5 rfl (lv_at hl 0 rfl) ?_
    refine va_alen hx hb hE.1 hP 0 0 rfl rfl (v := nI n) rfl dX8_putAt_6 ?_
    refine lv_icmp_ge (tgt := 14) hx hb dX8_putAt_7 (by decide) (fun c_2 => ?_) (fun c_2 => ?_)
    · exact x_wv f (by unfold sX8_putAt; rw [if_neg c_1]; rw [if_pos c_2]; try rfl) rfl hx hb hr hlk hS hP (hX.d rfl) [0] rfl rfl (Nat.le_of_ble_eq_true rfl) (Nat.le_of_ble_eq_true rfl) dX8_putAt_14
    · refine lv_aload_n hx hb dX8_putAt_10 rfl (lv_at hl 0 rfl) ?_
      refine lv_iload_n hx hb dX8_putAt_11 rfl (lv_at hl 1 rfl) ?_
      refine lv_iload_n hx hb dX8_putAt_12 rfl (lv_at hl 2 rfl) ?_
      refine x_iast hx hb hE.1 hP (hX.d rfl) hS 0 0 rfl rfl index.toNatClampNeg rfl (x_inl c_1 c_2 (nI_toInt hn)) dX8_putAt_13 (fun H locs hP _ hS => ?_)
      have hP : va_P E.1 vwCl [(row, .inl (E.2.1, n, .inl (upd f index.toNatClampNeg value)))] H := hP
      exact x_wv (upd f index.toNatClampNeg value) (by unfold sX8_putAt; rw [if_neg c_1]; rw [if_neg c_2]; try rfl) rfl hx hb hr hlk hS hP (hX.d rfl) [0] rfl rfl (Nat.le_of_ble_eq_true rfl) (Nat.le_of_ble_eq_true rfl) dX8_putAt_14
def sX1_angleOf (a1 : Int32) (a2 : Int32) (link : Int32) : Int32 :=
  if link = 1 then
    a1
  else
    a2
theorem hdX1_angleOf : yX1_angleOf.cls = RX1 ∧ yX1_angleOf.cls ≠ "java/lang/invoke/MethodHandle" ∧ yX1_angleOf.cls ≠ "java/lang/invoke/VarHandle" ∧ (parseMethodDescriptor yX1_angleOf.desc).map (fun d => d.parameters.length) = some 1 := by decide +kernel
set_option maxHeartbeats 4000000 in
set_option maxRecDepth 100000 in
theorem kX1_angleOf (l : Launch) (E : XE) (h : Nat) (x : Int32) (v : Int32) (a1 : Int32) (a2 : Int32) (w1 : Int32) (w2 : Int32) (link : Int32) : xR l yX1_angleOf wsX1_angleOf ({ frames := 0, cells := 0, slots := 0, locals := 0 }) E [(h, .inr (1, [.int x, .int v, .int a1, .int a2, .int w1, .int w2]))] [.ref h, .int link] (.int (sX1_angleOf a1 a2 link)) := by
  refine xR.of (cc := cX1_angleOf) (maxL := 2) (ret := (some .int)) (by decide) rfl (Nat.le_of_ble_eq_true rfl) ?_
  intro p e s m args below meth c ls hM hE hP hD hl
  obtain ⟨hx, hb, hr, hml, hts, hown, hlk, hnm⟩ := hM
  have g_1 : (Cond.fieldLink RX1 13 "RailPendulum$Motion" "a2" "I").before args s = true := hts (Cond.fieldLink RX1 13 "RailPendulum$Motion" "a2" "I") (by decide +kernel)
  have g_2 : ∀ w ∈ wsX10, w ∈ wsX1_angleOf := by decide +kernel
  have g_3 : (Cond.fieldLink RX1 7 "RailPendulum$Motion" "a1" "I").before args s = true := hts (Cond.fieldLink RX1 7 "RailPendulum$Motion" "a1" "I") (by decide +kernel)
  have hl : lv_has ls 2 [(0, .ref h), (1, .int link)] := hl
  refine lv_iload_n hx hb dX1_angleOf_0 rfl (lv_at hl 1 rfl) ?_
  refine lv_iconst (v := 1) hx hb dX1_angleOf_1 (by decide) ?_
  refine lv_icmp_ne (tgt := 12) hx hb dX1_angleOf_2 (by decide) (fun c_1 => ?_) (fun c_1 => ?_)
  · refine lv_aload_n hx hb dX1_angleOf_12 rfl (lv_at hl 0 rfl) ?_
    refine va_get (D := E.1) (ci := 1) (v := .int a2) (C := RX1) (T := TX1) (N := 6) hx hb hts g_2 hown hE.1 hP 0 rfl rfl 3 (by decide) g_1 (fun _ h9 => h9) rfl dX1_angleOf_13 ?_
    exact x_ir (by unfold sX1_angleOf; rw [if_neg c_1]; try rfl) hx hb hr hlk dX1_angleOf_16
  · refine lv_aload_n hx hb dX1_angleOf_5 rfl (lv_at hl 0 rfl) ?_
    refine va_get (D := E.1) (ci := 1) (v := .int a1) (C := RX1) (T := TX1) (N := 6) hx hb hts g_2 hown hE.1 hP 0 rfl rfl 2 (by decide) g_3 (fun _ h9 => h9) rfl dX1_angleOf_6 ?_
    refine lv_goto (tgt := 16) hx hb dX1_angleOf_9 (by decide) ?_
    exact x_ir (by unfold sX1_angleOf; rw [if_pos c_1]; try rfl) hx hb hr hlk dX1_angleOf_16
def sX1_speedOf (w1 : Int32) (w2 : Int32) (link : Int32) : Int32 :=
  if link = 1 then
    w1
  else
    w2
theorem hdX1_speedOf : yX1_speedOf.cls = RX1 ∧ yX1_speedOf.cls ≠ "java/lang/invoke/MethodHandle" ∧ yX1_speedOf.cls ≠ "java/lang/invoke/VarHandle" ∧ (parseMethodDescriptor yX1_speedOf.desc).map (fun d => d.parameters.length) = some 1 := by decide +kernel
set_option maxHeartbeats 4000000 in
set_option maxRecDepth 100000 in
theorem kX1_speedOf (l : Launch) (E : XE) (h : Nat) (x : Int32) (v : Int32) (a1 : Int32) (a2 : Int32) (w1 : Int32) (w2 : Int32) (link : Int32) : xR l yX1_speedOf wsX1_speedOf ({ frames := 0, cells := 0, slots := 0, locals := 0 }) E [(h, .inr (1, [.int x, .int v, .int a1, .int a2, .int w1, .int w2]))] [.ref h, .int link] (.int (sX1_speedOf w1 w2 link)) := by
  refine xR.of (cc := cX1_speedOf) (maxL := 2) (ret := (some .int)) (by decide) rfl (Nat.le_of_ble_eq_true rfl) ?_
  intro p e s m args below meth c ls hM hE hP hD hl
  obtain ⟨hx, hb, hr, hml, hts, hown, hlk, hnm⟩ := hM
  have g_1 : (Cond.fieldLink RX1 19 "RailPendulum$Motion" "w2" "I").before args s = true := hts (Cond.fieldLink RX1 19 "RailPendulum$Motion" "w2" "I") (by decide +kernel)
  have g_2 : ∀ w ∈ wsX10, w ∈ wsX1_speedOf := by decide +kernel
  have g_3 : (Cond.fieldLink RX1 16 "RailPendulum$Motion" "w1" "I").before args s = true := hts (Cond.fieldLink RX1 16 "RailPendulum$Motion" "w1" "I") (by decide +kernel)
  have hl : lv_has ls 2 [(0, .ref h), (1, .int link)] := hl
  refine lv_iload_n hx hb dX1_speedOf_0 rfl (lv_at hl 1 rfl) ?_
  refine lv_iconst (v := 1) hx hb dX1_speedOf_1 (by decide) ?_
  refine lv_icmp_ne (tgt := 12) hx hb dX1_speedOf_2 (by decide) (fun c_1 => ?_) (fun c_1 => ?_)
  · refine lv_aload_n hx hb dX1_speedOf_12 rfl (lv_at hl 0 rfl) ?_
    refine va_get (D := E.1) (ci := 1) (v := .int w2) (C := RX1) (T := TX1) (N := 6) hx hb hts g_2 hown hE.1 hP 0 rfl rfl 5 (by decide) g_1 (fun _ h9 => h9) rfl dX1_speedOf_13 ?_
    exact x_ir (by unfold sX1_speedOf; rw [if_neg c_1]; try rfl) hx hb hr hlk dX1_speedOf_16
  · refine lv_aload_n hx hb dX1_speedOf_5 rfl (lv_at hl 0 rfl) ?_
    refine va_get (D := E.1) (ci := 1) (v := .int w1) (C := RX1) (T := TX1) (N := 6) hx hb hts g_2 hown hE.1 hP 0 rfl rfl 4 (by decide) g_3 (fun _ h9 => h9) rfl dX1_speedOf_6 ?_
    refine lv_goto (tgt := 16) hx hb dX1_speedOf_9 (by decide) ?_
    exact x_ir (by unfold sX1_speedOf; rw [if_pos c_1]; try rfl) hx hb hr hlk dX1_speedOf_16
def sX1_setSpeed (w1 : Int32) (w2 : Int32) (link : Int32) (speed : Int32) : Int32 × Int32 :=
  if link = 1 then
    (speed, w2)
  else
    (w1, speed)
theorem hdX1_setSpeed : yX1_setSpeed.cls = RX1 ∧ yX1_setSpeed.cls ≠ "java/lang/invoke/MethodHandle" ∧ yX1_setSpeed.cls ≠ "java/lang/invoke/VarHandle" ∧ (parseMethodDescriptor yX1_setSpeed.desc).map (fun d => d.parameters.length) = some 2 := by decide +kernel
set_option maxHeartbeats 4000000 in
set_option maxRecDepth 100000 in
theorem kX1_setSpeed (l : Launch) (E : XE) (h : Nat) (x : Int32) (v : Int32) (a1 : Int32) (a2 : Int32) (w1 : Int32) (w2 : Int32) (link : Int32) (speed : Int32) : xW (T := Int32 × Int32) l yX1_setSpeed wsX1_setSpeed ({ frames := 0, cells := 0, slots := 0, locals := 0 }) E [(h, .inr (1, [.int x, .int v, .int a1, .int a2, .int w1, .int w2]))] [.ref h, .int link, .int speed] (fun _ => none) (fun q => [(h, .inr (1, [.int x, .int v, .int a1, .int a2, .int q.1, .int q.2]))]) (sX1_setSpeed w1 w2 link speed) 0 0 := by
  refine xW.of (cc := cX1_setSpeed) (maxL := 3) (ret := none) (by decide) rfl (Nat.le_of_ble_eq_true rfl) ?_
  intro p e s m args below meth c ls A hM hE hP hD hS hA hl
  obtain ⟨hx, hb, hr, hml, hts, hown, hlk, hnm⟩ := hM
  have g_1 : (Cond.fieldLink RX1 19 "RailPendulum$Motion" "w2" "I").before args s = true := hts (Cond.fieldLink RX1 19 "RailPendulum$Motion" "w2" "I") (by decide +kernel)
  have g_2 : ∀ w ∈ wsX10, w ∈ wsX1_setSpeed := by decide +kernel
  have g_3 : (Cond.fieldLink RX1 16 "RailPendulum$Motion" "w1" "I").before args s = true := hts (Cond.fieldLink RX1 16 "RailPendulum$Motion" "w1" "I") (by decide +kernel)
  have hX : xD A [h] := xD.of hD rfl
  have hl : lv_has ls 3 [(0, .ref h), (1, .int link), (2, .int speed)] := hl
  refine lv_iload_n hx hb dX1_setSpeed_0 rfl (lv_at hl 1 rfl) ?_
  refine lv_iconst (v := 1) hx hb dX1_setSpeed_1 (by decide) ?_
  refine lv_icmp_ne (tgt := 13) hx hb dX1_setSpeed_2 (by decide) (fun c_1 => ?_) (fun c_1 => ?_)
  · refine lv_aload_n hx hb dX1_setSpeed_13 rfl (lv_at hl 0 rfl) ?_
    refine lv_iload_n hx hb dX1_setSpeed_14 rfl (lv_at hl 2 rfl) ?_
    refine va_put (D := E.1) (ci := 1) (v := .int speed) (ty := .int) (C := RX1) (T := TX1) (N := 6) hx hb hts g_2 tyX1 tyX1_ok nmX1 hown hE.1 hP (hX.d rfl) hS 0 rfl rfl 5 (by decide) g_1 (fun _ h9 => h9) rfl (by decide +kernel) rfl rfl (Nat.le_of_ble_eq_true rfl) dX1_setSpeed_15 (fun H locs hP _ hS => ?_)
    have hP : va_P E.1 vwCl [(h, .inr (1, [.int x, .int v, .int a1, .int a2, .int w1, .int speed]))] H := hP
    exact x_wv (w1, speed) (by unfold sX1_setSpeed; rw [if_neg c_1]; try rfl) rfl hx hb hr hlk hS hP (hX.d rfl) [0] rfl rfl (Nat.le_of_ble_eq_true rfl) (Nat.le_of_ble_eq_true rfl) dX1_setSpeed_18
  · refine lv_aload_n hx hb dX1_setSpeed_5 rfl (lv_at hl 0 rfl) ?_
    refine lv_iload_n hx hb dX1_setSpeed_6 rfl (lv_at hl 2 rfl) ?_
    refine va_put (D := E.1) (ci := 1) (v := .int speed) (ty := .int) (C := RX1) (T := TX1) (N := 6) hx hb hts g_2 tyX1 tyX1_ok nmX1 hown hE.1 hP (hX.d rfl) hS 0 rfl rfl 4 (by decide) g_3 (fun _ h9 => h9) rfl (by decide +kernel) rfl rfl (Nat.le_of_ble_eq_true rfl) dX1_setSpeed_7 (fun H locs hP _ hS => ?_)
    have hP : va_P E.1 vwCl [(h, .inr (1, [.int x, .int v, .int a1, .int a2, .int speed, .int w2]))] H := hP
    refine lv_goto (tgt := 18) hx hb dX1_setSpeed_10 (by decide) ?_
    exact x_wv (speed, w2) (by unfold sX1_setSpeed; rw [if_pos c_1]; try rfl) rfl hx hb hr hlk hS hP (hX.d rfl) [0] rfl rfl (Nat.le_of_ble_eq_true rfl) (Nat.le_of_ble_eq_true rfl) dX1_setSpeed_18
def sX1_partOfLink (a1 : Int32) (a2 : Int32) (w1 : Int32) (w2 : Int32) (link : Int32) (what : Int32) : Int32 :=
  if what = 1 then
    sX1_speedOf w1 w2 link
  else
    if what = 0 then
      sX1_angleOf a1 a2 link
    else
      sX8_leanOf (sX1_angleOf a1 a2 link)
theorem hdX1_partOfLink : yX1_partOfLink.cls = RX1 ∧ yX1_partOfLink.cls ≠ "java/lang/invoke/MethodHandle" ∧ yX1_partOfLink.cls ≠ "java/lang/invoke/VarHandle" ∧ (parseMethodDescriptor yX1_partOfLink.desc).map (fun d => d.parameters.length) = some 2 := by decide +kernel
set_option maxHeartbeats 4000000 in
set_option maxRecDepth 100000 in
theorem kX1_partOfLink (l : Launch) (E : XE) (h : Nat) (x : Int32) (v : Int32) (a1 : Int32) (a2 : Int32) (w1 : Int32) (w2 : Int32) (link : Int32) (what : Int32) : xR l yX1_partOfLink wsX1_partOfLink ({ frames := 1, cells := 0, slots := 0, locals := 21 }) E [(h, .inr (1, [.int x, .int v, .int a1, .int a2, .int w1, .int w2]))] [.ref h, .int link, .int what] (.int (sX1_partOfLink a1 a2 w1 w2 link what)) := by
  refine xR.of (cc := cX1_partOfLink) (maxL := 3) (ret := (some .int)) (by decide) rfl (Nat.le_of_ble_eq_true rfl) ?_
  intro p e s m args below meth c ls hM hE hP hD hl
  obtain ⟨hx, hb, hr, hml, hts, hown, hlk, hnm⟩ := hM
  have g_1 : (Cond.initialized yX8_leanOf.cls).before args s = true := hts _ (by decide +kernel)
  have g_2 : (Cond.static yX8_leanOf).before args s = true := hts (Cond.static yX8_leanOf) (by decide +kernel)
  have g_3 : va_Nw (.methodLinkNest RX1 29 yX8_leanOf "RailPendulum") s := hE.2 _ (by decide +kernel)
  have hl : lv_has ls 3 [(0, .ref h), (1, .int link), (2, .int what)] := hl
  refine lv_iload_n hx hb dX1_partOfLink_0 rfl (lv_at hl 2 rfl) ?_
  refine lv_iconst (v := 1) hx hb dX1_partOfLink_1 (by decide) ?_
  refine lv_icmp_ne (tgt := 11) hx hb dX1_partOfLink_2 (by decide) (fun c_1 => ?_) (fun c_1 => ?_)
  · refine lv_iload_n hx hb dX1_partOfLink_11 rfl (lv_at hl 2 rfl) ?_
    refine lv_if_ne (tgt := 23) hx hb dX1_partOfLink_12 (by decide) (fun c_2 => ?_) (fun c_2 => ?_)
    · refine lv_aload_n hx hb dX1_partOfLink_23 rfl (lv_at hl 0 rfl) ?_
      refine lv_iload_n hx hb dX1_partOfLink_24 rfl (lv_at hl 1 rfl) ?_
      refine x_rV [.int link] (kX1_angleOf l E h x v a1 a2 w1 w2 link) ⟨hx, hb, hml, hown, hts⟩ (cwV 1 hts gX1_partOfLink_X1_angleOf rfl rfl rfl hdX1_angleOf ⟨Nat.le_of_ble_eq_true rfl, Nat.le_of_ble_eq_true rfl⟩) hE hP hD [0] rfl rfl (ci := 1) (q0 := 0) rfl rfl rfl hl.1 rfl rfl (Nat.le_of_ble_eq_true rfl) dX1_partOfLink_25 (Nat.le_of_ble_eq_true rfl) (Nat.le_of_ble_eq_true rfl) ?_
      refine x_rSN [.int (sX1_angleOf a1 a2 link)] (kX8_leanOf l E (sX1_angleOf a1 a2 link)) ⟨hx, hb, hml, hown, hts⟩ ⟨va_cnB 1 hts gX1_partOfLink_X8_leanOf_n29 rfl rfl rfl g_3 g_1 hdX8_leanOf.2 ⟨Nat.le_of_ble_eq_true rfl, Nat.le_of_ble_eq_true rfl⟩, g_2, trivial⟩ hE hP hD [] rfl rfl hl.1 rfl rfl (Nat.le_of_ble_eq_true rfl) dX1_partOfLink_28 (Nat.le_of_ble_eq_true rfl) (Nat.le_of_ble_eq_true rfl) ?_
      exact x_ir (by unfold sX1_partOfLink; rw [if_neg c_1]; rw [if_neg c_2]; try rfl) hx hb hr hlk dX1_partOfLink_31
    · refine lv_aload_n hx hb dX1_partOfLink_15 rfl (lv_at hl 0 rfl) ?_
      refine lv_iload_n hx hb dX1_partOfLink_16 rfl (lv_at hl 1 rfl) ?_
      refine x_rV [.int link] (kX1_angleOf l E h x v a1 a2 w1 w2 link) ⟨hx, hb, hml, hown, hts⟩ (cwV 1 hts gX1_partOfLink_X1_angleOf rfl rfl rfl hdX1_angleOf ⟨Nat.le_of_ble_eq_true rfl, Nat.le_of_ble_eq_true rfl⟩) hE hP hD [0] rfl rfl (ci := 1) (q0 := 0) rfl rfl rfl hl.1 rfl rfl (Nat.le_of_ble_eq_true rfl) dX1_partOfLink_17 (Nat.le_of_ble_eq_true rfl) (Nat.le_of_ble_eq_true rfl) ?_
      refine lv_goto (tgt := 31) hx hb dX1_partOfLink_20 (by decide) ?_
      exact x_ir (by unfold sX1_partOfLink; rw [if_neg c_1]; rw [if_pos c_2]; try rfl) hx hb hr hlk dX1_partOfLink_31
  · refine lv_aload_n hx hb dX1_partOfLink_5 rfl (lv_at hl 0 rfl) ?_
    refine lv_iload_n hx hb dX1_partOfLink_6 rfl (lv_at hl 1 rfl) ?_
    refine x_rV [.int link] (kX1_speedOf l E h x v a1 a2 w1 w2 link) ⟨hx, hb, hml, hown, hts⟩ (cwV 1 hts gX1_partOfLink_X1_speedOf rfl rfl rfl hdX1_speedOf ⟨Nat.le_of_ble_eq_true rfl, Nat.le_of_ble_eq_true rfl⟩) hE hP hD [0] rfl rfl (ci := 1) (q0 := 0) rfl rfl rfl hl.1 rfl rfl (Nat.le_of_ble_eq_true rfl) dX1_partOfLink_7 (Nat.le_of_ble_eq_true rfl) (Nat.le_of_ble_eq_true rfl) ?_
    exact x_ir (by unfold sX1_partOfLink; rw [if_pos c_1]; try rfl) hx hb hr hlk dX1_partOfLink_10
def sX1_restAt (angle1 : Int32) (angle2 : Int32) : Int32 × Int32 × Int32 × Int32 × Int32 × Int32 :=
  (0, 0, angle1, angle2, 0, 0)
theorem hdX1_restAt : yX1_restAt.cls = RX1 ∧ yX1_restAt.cls ≠ "java/lang/invoke/MethodHandle" ∧ yX1_restAt.cls ≠ "java/lang/invoke/VarHandle" ∧ (parseMethodDescriptor yX1_restAt.desc).map (fun d => d.parameters.length) = some 2 := by decide +kernel
set_option maxHeartbeats 4000000 in
set_option maxRecDepth 100000 in
theorem kX1_restAt (l : Launch) (E : XE) (h : Nat) (x : Int32) (v : Int32) (a1 : Int32) (a2 : Int32) (w1 : Int32) (w2 : Int32) (angle1 : Int32) (angle2 : Int32) : xW (T := Int32 × Int32 × Int32 × Int32 × Int32 × Int32) l yX1_restAt wsX1_restAt ({ frames := 0, cells := 0, slots := 0, locals := 0 }) E [(h, .inr (1, [.int x, .int v, .int a1, .int a2, .int w1, .int w2]))] [.ref h, .int angle1, .int angle2] (fun _ => none) (fun q => [(h, .inr (1, [.int q.1, .int q.2.1, .int q.2.2.1, .int q.2.2.2.1, .int q.2.2.2.2.1, .int q.2.2.2.2.2]))]) (sX1_restAt angle1 angle2) 0 0 := by
  refine xW.of (cc := cX1_restAt) (maxL := 3) (ret := none) (by decide) rfl (Nat.le_of_ble_eq_true rfl) ?_
  intro p e s m args below meth c ls A hM hE hP hD hS hA hl
  obtain ⟨hx, hb, hr, hml, hts, hown, hlk, hnm⟩ := hM
  have g_1 : (Cond.fieldLink RX1 34 "RailPendulum$Motion" "x" "I").before args s = true := hts (Cond.fieldLink RX1 34 "RailPendulum$Motion" "x" "I") (by decide +kernel)
  have g_2 : ∀ w ∈ wsX10, w ∈ wsX1_restAt := by decide +kernel
  have g_3 : (Cond.fieldLink RX1 37 "RailPendulum$Motion" "v" "I").before args s = true := hts (Cond.fieldLink RX1 37 "RailPendulum$Motion" "v" "I") (by decide +kernel)
  have g_4 : (Cond.fieldLink RX1 7 "RailPendulum$Motion" "a1" "I").before args s = true := hts (Cond.fieldLink RX1 7 "RailPendulum$Motion" "a1" "I") (by decide +kernel)
  have g_5 : (Cond.fieldLink RX1 13 "RailPendulum$Motion" "a2" "I").before args s = true := hts (Cond.fieldLink RX1 13 "RailPendulum$Motion" "a2" "I") (by decide +kernel)
  have g_6 : (Cond.fieldLink RX1 16 "RailPendulum$Motion" "w1" "I").before args s = true := hts (Cond.fieldLink RX1 16 "RailPendulum$Motion" "w1" "I") (by decide +kernel)
  have g_7 : (Cond.fieldLink RX1 19 "RailPendulum$Motion" "w2" "I").before args s = true := hts (Cond.fieldLink RX1 19 "RailPendulum$Motion" "w2" "I") (by decide +kernel)
  have hX : xD A [h] := xD.of hD rfl
  have hl : lv_has ls 3 [(0, .ref h), (1, .int angle1), (2, .int angle2)] := hl
  refine lv_aload_n hx hb dX1_restAt_0 rfl (lv_at hl 0 rfl) ?_
  refine lv_iconst (v := 0) hx hb dX1_restAt_1 (by decide) ?_
  refine va_put (D := E.1) (ci := 1) (v := .int 0) (ty := .int) (C := RX1) (T := TX1) (N := 6) hx hb hts g_2 tyX1 tyX1_ok nmX1 hown hE.1 hP (hX.d rfl) hS 0 rfl rfl 0 (by decide) g_1 (fun _ h9 => h9) rfl (by decide +kernel) rfl rfl (Nat.le_of_ble_eq_true rfl) dX1_restAt_2 (fun H locs hP _ hS => ?_)
  have hP : va_P E.1 vwCl [(h, .inr (1, [.int 0, .int v, .int a1, .int a2, .int w1, .int w2]))] H := hP
  refine lv_aload_n hx hb dX1_restAt_5 rfl (lv_at hl 0 rfl) ?_
  refine lv_iconst (v := 0) hx hb dX1_restAt_6 (by decide) ?_
  refine va_put (D := E.1) (ci := 1) (v := .int 0) (ty := .int) (C := RX1) (T := TX1) (N := 6) hx hb hts g_2 tyX1 tyX1_ok nmX1 hown hE.1 hP (hX.d rfl) hS 0 rfl rfl 1 (by decide) g_3 (fun _ h9 => h9) rfl (by decide +kernel) rfl rfl (Nat.le_of_ble_eq_true rfl) dX1_restAt_7 (fun H locs hP _ hS => ?_)
  have hP : va_P E.1 vwCl [(h, .inr (1, [.int 0, .int 0, .int a1, .int a2, .int w1, .int w2]))] H := hP
  refine lv_aload_n hx hb dX1_restAt_10 rfl (lv_at hl 0 rfl) ?_
  refine lv_iload_n hx hb dX1_restAt_11 rfl (lv_at hl 1 rfl) ?_
  refine va_put (D := E.1) (ci := 1) (v := .int angle1) (ty := .int) (C := RX1) (T := TX1) (N := 6) hx hb hts g_2 tyX1 tyX1_ok nmX1 hown hE.1 hP (hX.d rfl) hS 0 rfl rfl 2 (by decide) g_4 (fun _ h9 => h9) rfl (by decide +kernel) rfl rfl (Nat.le_of_ble_eq_true rfl) dX1_restAt_12 (fun H locs hP _ hS => ?_)
  have hP : va_P E.1 vwCl [(h, .inr (1, [.int 0, .int 0, .int angle1, .int a2, .int w1, .int w2]))] H := hP
  refine lv_aload_n hx hb dX1_restAt_15 rfl (lv_at hl 0 rfl) ?_
  refine lv_iload_n hx hb dX1_restAt_16 rfl (lv_at hl 2 rfl) ?_
  refine va_put (D := E.1) (ci := 1) (v := .int angle2) (ty := .int) (C := RX1) (T := TX1) (N := 6) hx hb hts g_2 tyX1 tyX1_ok nmX1 hown hE.1 hP (hX.d rfl) hS 0 rfl rfl 3 (by decide) g_5 (fun _ h9 => h9) rfl (by decide +kernel) rfl rfl (Nat.le_of_ble_eq_true rfl) dX1_restAt_17 (fun H locs hP _ hS => ?_)
  have hP : va_P E.1 vwCl [(h, .inr (1, [.int 0, .int 0, .int angle1, .int angle2, .int w1, .int w2]))] H := hP
  refine lv_aload_n hx hb dX1_restAt_20 rfl (lv_at hl 0 rfl) ?_
  refine lv_iconst (v := 0) hx hb dX1_restAt_21 (by decide) ?_
  refine va_put (D := E.1) (ci := 1) (v := .int 0) (ty := .int) (C := RX1) (T := TX1) (N := 6) hx hb hts g_2 tyX1 tyX1_ok nmX1 hown hE.1 hP (hX.d rfl) hS 0 rfl rfl 4 (by decide) g_6 (fun _ h9 => h9) rfl (by decide +kernel) rfl rfl (Nat.le_of_ble_eq_true rfl) dX1_restAt_22 (fun H locs hP _ hS => ?_)
  have hP : va_P E.1 vwCl [(h, .inr (1, [.int 0, .int 0, .int angle1, .int angle2, .int 0, .int w2]))] H := hP
  refine lv_aload_n hx hb dX1_restAt_25 rfl (lv_at hl 0 rfl) ?_
  refine lv_iconst (v := 0) hx hb dX1_restAt_26 (by decide) ?_
  refine va_put (D := E.1) (ci := 1) (v := .int 0) (ty := .int) (C := RX1) (T := TX1) (N := 6) hx hb hts g_2 tyX1 tyX1_ok nmX1 hown hE.1 hP (hX.d rfl) hS 0 rfl rfl 5 (by decide) g_7 (fun _ h9 => h9) rfl (by decide +kernel) rfl rfl (Nat.le_of_ble_eq_true rfl) dX1_restAt_27 (fun H locs hP _ hS => ?_)
  have hP : va_P E.1 vwCl [(h, .inr (1, [.int 0, .int 0, .int angle1, .int angle2, .int 0, .int 0]))] H := hP
  exact x_wv (0, 0, angle1, angle2, 0, 0) (by unfold sX1_restAt; try rfl) rfl hx hb hr hlk hS hP (hX.d rfl) [0] rfl rfl (Nat.le_of_ble_eq_true rfl) (Nat.le_of_ble_eq_true rfl) dX1_restAt_30
def sX1_copyFrom (ox : Int32) (ov : Int32) (oa1 : Int32) (oa2 : Int32) (ow1 : Int32) (ow2 : Int32) : Int32 × Int32 × Int32 × Int32 × Int32 × Int32 :=
  (ox, ov, oa1, oa2, ow1, ow2)
theorem hdX1_copyFrom : yX1_copyFrom.cls = RX1 ∧ yX1_copyFrom.cls ≠ "java/lang/invoke/MethodHandle" ∧ yX1_copyFrom.cls ≠ "java/lang/invoke/VarHandle" ∧ (parseMethodDescriptor yX1_copyFrom.desc).map (fun d => d.parameters.length) = some 1 := by decide +kernel
set_option maxHeartbeats 4000000 in
set_option maxRecDepth 100000 in
theorem kX1_copyFrom (l : Launch) (E : XE) (h : Nat) (x : Int32) (v : Int32) (a1 : Int32) (a2 : Int32) (w1 : Int32) (w2 : Int32) (other : Nat) (ox : Int32) (ov : Int32) (oa1 : Int32) (oa2 : Int32) (ow1 : Int32) (ow2 : Int32) : xW (T := Int32 × Int32 × Int32 × Int32 × Int32 × Int32) l yX1_copyFrom wsX1_copyFrom ({ frames := 0, cells := 0, slots := 0, locals := 0 }) E [(h, .inr (1, [.int x, .int v, .int a1, .int a2, .int w1, .int w2])), (other, .inr (1, [.int ox, .int ov, .int oa1, .int oa2, .int ow1, .int ow2]))] [.ref h, .ref other] (fun _ => none) (fun q => [(h, .inr (1, [.int q.1, .int q.2.1, .int q.2.2.1, .int q.2.2.2.1, .int q.2.2.2.2.1, .int q.2.2.2.2.2])), (other, .inr (1, [.int ox, .int ov, .int oa1, .int oa2, .int ow1, .int ow2]))]) (sX1_copyFrom ox ov oa1 oa2 ow1 ow2) 0 0 := by
  refine xW.of (cc := cX1_copyFrom) (maxL := 2) (ret := none) (by decide) rfl (Nat.le_of_ble_eq_true rfl) ?_
  intro p e s m args below meth c ls A hM hE hP hD hS hA hl
  obtain ⟨hx, hb, hr, hml, hts, hown, hlk, hnm⟩ := hM
  have g_1 : (Cond.fieldLink RX1 34 "RailPendulum$Motion" "x" "I").before args s = true := hts (Cond.fieldLink RX1 34 "RailPendulum$Motion" "x" "I") (by decide +kernel)
  have g_2 : ∀ w ∈ wsX10, w ∈ wsX1_copyFrom := by decide +kernel
  have g_3 : (Cond.fieldLink RX1 37 "RailPendulum$Motion" "v" "I").before args s = true := hts (Cond.fieldLink RX1 37 "RailPendulum$Motion" "v" "I") (by decide +kernel)
  have g_4 : (Cond.fieldLink RX1 7 "RailPendulum$Motion" "a1" "I").before args s = true := hts (Cond.fieldLink RX1 7 "RailPendulum$Motion" "a1" "I") (by decide +kernel)
  have g_5 : (Cond.fieldLink RX1 13 "RailPendulum$Motion" "a2" "I").before args s = true := hts (Cond.fieldLink RX1 13 "RailPendulum$Motion" "a2" "I") (by decide +kernel)
  have g_6 : (Cond.fieldLink RX1 16 "RailPendulum$Motion" "w1" "I").before args s = true := hts (Cond.fieldLink RX1 16 "RailPendulum$Motion" "w1" "I") (by decide +kernel)
  have g_7 : (Cond.fieldLink RX1 19 "RailPendulum$Motion" "w2" "I").before args s = true := hts (Cond.fieldLink RX1 19 "RailPendulum$Motion" "w2" "I") (by decide +kernel)
  have hX : xD A [h, other] := xD.of hD rfl
  have hl : lv_has ls 2 [(0, .ref h), (1, .ref other)] := hl
  refine lv_aload_n hx hb dX1_copyFrom_0 rfl (lv_at hl 0 rfl) ?_
  refine lv_aload_n hx hb dX1_copyFrom_1 rfl (lv_at hl 1 rfl) ?_
  refine va_get (D := E.1) (ci := 1) (v := .int ox) (C := RX1) (T := TX1) (N := 6) hx hb hts g_2 hown hE.1 hP 1 rfl rfl 0 (by decide) g_1 (fun _ h9 => h9) rfl dX1_copyFrom_2 ?_
  refine va_put (D := E.1) (ci := 1) (v := .int ox) (ty := .int) (C := RX1) (T := TX1) (N := 6) hx hb hts g_2 tyX1 tyX1_ok nmX1 hown hE.1 hP (hX.d rfl) hS 0 rfl rfl 0 (by decide) g_1 (fun _ h9 => h9) rfl (by decide +kernel) rfl rfl (Nat.le_of_ble_eq_true rfl) dX1_copyFrom_5 (fun H locs hP _ hS => ?_)
  have hP : va_P E.1 vwCl [(h, .inr (1, [.int ox, .int v, .int a1, .int a2, .int w1, .int w2])), (other, .inr (1, [.int ox, .int ov, .int oa1, .int oa2, .int ow1, .int ow2]))] H := hP
  refine lv_aload_n hx hb dX1_copyFrom_8 rfl (lv_at hl 0 rfl) ?_
  refine lv_aload_n hx hb dX1_copyFrom_9 rfl (lv_at hl 1 rfl) ?_
  refine va_get (D := E.1) (ci := 1) (v := .int ov) (C := RX1) (T := TX1) (N := 6) hx hb hts g_2 hown hE.1 hP 1 rfl rfl 1 (by decide) g_3 (fun _ h9 => h9) rfl dX1_copyFrom_10 ?_
  refine va_put (D := E.1) (ci := 1) (v := .int ov) (ty := .int) (C := RX1) (T := TX1) (N := 6) hx hb hts g_2 tyX1 tyX1_ok nmX1 hown hE.1 hP (hX.d rfl) hS 0 rfl rfl 1 (by decide) g_3 (fun _ h9 => h9) rfl (by decide +kernel) rfl rfl (Nat.le_of_ble_eq_true rfl) dX1_copyFrom_13 (fun H locs hP _ hS => ?_)
  have hP : va_P E.1 vwCl [(h, .inr (1, [.int ox, .int ov, .int a1, .int a2, .int w1, .int w2])), (other, .inr (1, [.int ox, .int ov, .int oa1, .int oa2, .int ow1, .int ow2]))] H := hP
  refine lv_aload_n hx hb dX1_copyFrom_16 rfl (lv_at hl 0 rfl) ?_
  refine lv_aload_n hx hb dX1_copyFrom_17 rfl (lv_at hl 1 rfl) ?_
  refine va_get (D := E.1) (ci := 1) (v := .int oa1) (C := RX1) (T := TX1) (N := 6) hx hb hts g_2 hown hE.1 hP 1 rfl rfl 2 (by decide) g_4 (fun _ h9 => h9) rfl dX1_copyFrom_18 ?_
  refine va_put (D := E.1) (ci := 1) (v := .int oa1) (ty := .int) (C := RX1) (T := TX1) (N := 6) hx hb hts g_2 tyX1 tyX1_ok nmX1 hown hE.1 hP (hX.d rfl) hS 0 rfl rfl 2 (by decide) g_4 (fun _ h9 => h9) rfl (by decide +kernel) rfl rfl (Nat.le_of_ble_eq_true rfl) dX1_copyFrom_21 (fun H locs hP _ hS => ?_)
  have hP : va_P E.1 vwCl [(h, .inr (1, [.int ox, .int ov, .int oa1, .int a2, .int w1, .int w2])), (other, .inr (1, [.int ox, .int ov, .int oa1, .int oa2, .int ow1, .int ow2]))] H := hP
  refine lv_aload_n hx hb dX1_copyFrom_24 rfl (lv_at hl 0 rfl) ?_
  refine lv_aload_n hx hb dX1_copyFrom_25 rfl (lv_at hl 1 rfl) ?_
  refine va_get (D := E.1) (ci := 1) (v := .int oa2) (C := RX1) (T := TX1) (N := 6) hx hb hts g_2 hown hE.1 hP 1 rfl rfl 3 (by decide) g_5 (fun _ h9 => h9) rfl dX1_copyFrom_26 ?_
  refine va_put (D := E.1) (ci := 1) (v := .int oa2) (ty := .int) (C := RX1) (T := TX1) (N := 6) hx hb hts g_2 tyX1 tyX1_ok nmX1 hown hE.1 hP (hX.d rfl) hS 0 rfl rfl 3 (by decide) g_5 (fun _ h9 => h9) rfl (by decide +kernel) rfl rfl (Nat.le_of_ble_eq_true rfl) dX1_copyFrom_29 (fun H locs hP _ hS => ?_)
  have hP : va_P E.1 vwCl [(h, .inr (1, [.int ox, .int ov, .int oa1, .int oa2, .int w1, .int w2])), (other, .inr (1, [.int ox, .int ov, .int oa1, .int oa2, .int ow1, .int ow2]))] H := hP
  refine lv_aload_n hx hb dX1_copyFrom_32 rfl (lv_at hl 0 rfl) ?_
  refine lv_aload_n hx hb dX1_copyFrom_33 rfl (lv_at hl 1 rfl) ?_
  refine va_get (D := E.1) (ci := 1) (v := .int ow1) (C := RX1) (T := TX1) (N := 6) hx hb hts g_2 hown hE.1 hP 1 rfl rfl 4 (by decide) g_6 (fun _ h9 => h9) rfl dX1_copyFrom_34 ?_
  refine va_put (D := E.1) (ci := 1) (v := .int ow1) (ty := .int) (C := RX1) (T := TX1) (N := 6) hx hb hts g_2 tyX1 tyX1_ok nmX1 hown hE.1 hP (hX.d rfl) hS 0 rfl rfl 4 (by decide) g_6 (fun _ h9 => h9) rfl (by decide +kernel) rfl rfl (Nat.le_of_ble_eq_true rfl) dX1_copyFrom_37 (fun H locs hP _ hS => ?_)
  have hP : va_P E.1 vwCl [(h, .inr (1, [.int ox, .int ov, .int oa1, .int oa2, .int ow1, .int w2])), (other, .inr (1, [.int ox, .int ov, .int oa1, .int oa2, .int ow1, .int ow2]))] H := hP
  refine lv_aload_n hx hb dX1_copyFrom_40 rfl (lv_at hl 0 rfl) ?_
  refine lv_aload_n hx hb dX1_copyFrom_41 rfl (lv_at hl 1 rfl) ?_
  refine va_get (D := E.1) (ci := 1) (v := .int ow2) (C := RX1) (T := TX1) (N := 6) hx hb hts g_2 hown hE.1 hP 1 rfl rfl 5 (by decide) g_7 (fun _ h9 => h9) rfl dX1_copyFrom_42 ?_
  refine va_put (D := E.1) (ci := 1) (v := .int ow2) (ty := .int) (C := RX1) (T := TX1) (N := 6) hx hb hts g_2 tyX1 tyX1_ok nmX1 hown hE.1 hP (hX.d rfl) hS 0 rfl rfl 5 (by decide) g_7 (fun _ h9 => h9) rfl (by decide +kernel) rfl rfl (Nat.le_of_ble_eq_true rfl) dX1_copyFrom_45 (fun H locs hP _ hS => ?_)
  have hP : va_P E.1 vwCl [(h, .inr (1, [.int ox, .int ov, .int oa1, .int oa2, .int ow1, .int ow2])), (other, .inr (1, [.int ox, .int ov, .int oa1, .int oa2, .int ow1, .int ow2]))] H := hP
  exact x_wv (ox, ov, oa1, oa2, ow1, ow2) (by unfold sX1_copyFrom; try rfl) rfl hx hb hr hlk hS hP (hX.d rfl) [0, 1] rfl rfl (Nat.le_of_ble_eq_true rfl) (Nat.le_of_ble_eq_true rfl) dX1_copyFrom_48
def sX2_number (num : Nat → Int32) (which : Int32) : Int32 :=
  if which < 0 then
    0
  else
    if 24 ≤ which then
      0
    else
      num which.toNatClampNeg
theorem hdX2_number : yX2_number.cls = RX2 ∧ yX2_number.cls ≠ "java/lang/invoke/MethodHandle" ∧ yX2_number.cls ≠ "java/lang/invoke/VarHandle" ∧ (parseMethodDescriptor yX2_number.desc).map (fun d => d.parameters.length) = some 1 := by decide +kernel
set_option maxHeartbeats 4000000 in
set_option maxRecDepth 100000 in
theorem kX2_number (l : Launch) (E : XE) (h : Nat) (an : Nat) (num : Nat → Int32) (which : Int32) : xR l yX2_number wsX2_number ({ frames := 0, cells := 0, slots := 0, locals := 0 }) E [(h, .inr (2, [.ref an])), (an, .inl (E.2.1, 24, .inl num))] [.ref h, .int which] (.int (sX2_number num which)) := by
  refine xR.of (cc := cX2_number) (maxL := 2) (ret := (some .int)) (by decide) rfl (Nat.le_of_ble_eq_true rfl) ?_
  intro p e s m args below meth c ls hM hE hP hD hl
  obtain ⟨hx, hb, hr, hml, hts, hown, hlk, hnm⟩ := hM
  have g_1 : (Cond.fieldLink RX2 9 "RailPendulum$Plant" "numbers" "[I").before args s = true := hts (Cond.fieldLink RX2 9 "RailPendulum$Plant" "numbers" "[I") (by decide +kernel)
  have g_2 : ∀ w ∈ wsX20, w ∈ wsX2_number := by decide +kernel
  have hl : lv_has ls 2 [(0, .ref h), (1, .int which)] := hl
  refine lv_iload_n hx hb dX2_number_0 rfl (lv_at hl 1 rfl) ?_
  refine lv_if_lt (tgt := 22) hx hb dX2_number_1 (by decide) (fun c_1 => ?_) (fun c_1 => ?_)
  · refine lv_iconst (v := 0) hx hb dX2_number_22 (by decide) ?_
    exact x_ir (by unfold sX2_number; rw [if_pos c_1]; try rfl) hx hb hr hlk dX2_number_23
  · refine lv_iload_n hx hb dX2_number_4 rfl (lv_at hl 1 rfl) ?_
    refine lv_aload_n hx hb dX2_number_5 rfl (lv_at hl 0 rfl) ?_
    refine va_get (D := E.1) (ci := 2) (v := .ref an) (C := RX2) (T := TX2) (N := 1) hx hb hts g_2 hown hE.1 hP 0 rfl rfl 0 (by decide) g_1 (fun _ h9 => h9) rfl dX2_number_6 ?_
    refine va_alen hx hb hE.1 hP 1 0 rfl rfl (v := 24) rfl dX2_number_9 ?_
    refine lv_icmp_ge (tgt := 22) hx hb dX2_number_10 (by decide) (fun c_2 => ?_) (fun c_2 => ?_)
    · refine lv_iconst (v := 0) hx hb dX2_number_22 (by decide) ?_
      exact x_ir (by unfold sX2_number; rw [if_neg c_1]; rw [if_pos c_2]; try rfl) hx hb hr hlk dX2_number_23
    · refine lv_aload_n hx hb dX2_number_13 rfl (lv_at hl 0 rfl) ?_
      refine va_get (D := E.1) (ci := 2) (v := .ref an) (C := RX2) (T := TX2) (N := 1) hx hb hts g_2 hown hE.1 hP 0 rfl rfl 0 (by decide) g_1 (fun _ h9 => h9) rfl dX2_number_14 ?_
      refine lv_iload_n hx hb dX2_number_17 rfl (lv_at hl 1 rfl) ?_
      refine x_iald hx hb hE.1 hP 1 0 rfl rfl which.toNatClampNeg rfl (x_inl c_1 c_2 (by decide)) dX2_number_18 ?_
      refine lv_goto (tgt := 23) hx hb dX2_number_19 (by decide) ?_
      exact x_ir (by unfold sX2_number; rw [if_neg c_1]; rw [if_neg c_2]; try rfl) hx hb hr hlk dX2_number_23
def sX2_energyOf (num : Nat → Int32) (a1 : Int32) (a2 : Int32) (w1 : Int32) (w2 : Int32) (link : Int32) : Int64 :=
  ((((sX1_speedOf w1 w2 link).toInt64) * ((sX1_speedOf w1 w2 link).toInt64)) / 2) + (((((sX2_number num ((1 + link) - 1)).toInt64) * ((sX8_sineOf ((sX1_angleOf a1 a2 link) + 1024)).toInt64)) * 10430) / 4096)
theorem hdX2_energyOf : yX2_energyOf.cls = RX2 ∧ yX2_energyOf.cls ≠ "java/lang/invoke/MethodHandle" ∧ yX2_energyOf.cls ≠ "java/lang/invoke/VarHandle" ∧ (parseMethodDescriptor yX2_energyOf.desc).map (fun d => d.parameters.length) = some 2 := by decide +kernel
set_option maxHeartbeats 4000000 in
set_option maxRecDepth 100000 in
theorem kX2_energyOf (l : Launch) (E : XE) (h : Nat) (an : Nat) (num : Nat → Int32) (mo : Nat) (x : Int32) (v : Int32) (a1 : Int32) (a2 : Int32) (w1 : Int32) (w2 : Int32) (link : Int32) : xR l yX2_energyOf wsX2_energyOf ({ frames := 1, cells := 0, slots := 0, locals := 26 }) E [(h, .inr (2, [.ref an])), (an, .inl (E.2.1, 24, .inl num)), (mo, .inr (1, [.int x, .int v, .int a1, .int a2, .int w1, .int w2]))] [.ref h, .int link, .ref mo] (.long (sX2_energyOf num a1 a2 w1 w2 link)) := by
  refine xR.of (cc := cX2_energyOf) (maxL := 7) (ret := (some .long)) (by decide) rfl (Nat.le_of_ble_eq_true rfl) ?_
  intro p e s m args below meth c ls hM hE hP hD hl
  obtain ⟨hx, hb, hr, hml, hts, hown, hlk, hnm⟩ := hM
  have g_1 : (Cond.constantLong RX2 28 (2)).before args s = true := hts (Cond.constantLong RX2 28 (2)) (by decide +kernel)
  have g_2 : (Cond.initialized yX8_sineOf.cls).before args s = true := hts _ (by decide +kernel)
  have g_3 : (Cond.static yX8_sineOf).before args s = true := hts (Cond.static yX8_sineOf) (by decide +kernel)
  have g_4 : va_Nw (.methodLinkNest RX2 33 yX8_sineOf "RailPendulum") s := hE.2 _ (by decide +kernel)
  have g_5 : (Cond.constantLong RX2 36 (10430)).before args s = true := hts (Cond.constantLong RX2 36 (10430)) (by decide +kernel)
  have g_6 : (Cond.constantLong RX2 38 (4096)).before args s = true := hts (Cond.constantLong RX2 38 (4096)) (by decide +kernel)
  have hl : lv_has ls 7 [(0, .ref h), (1, .int link), (2, .ref mo)] := hl
  refine lv_aload_n hx hb dX2_energyOf_0 rfl (lv_at hl 2 rfl) ?_
  refine lv_iload_n hx hb dX2_energyOf_1 rfl (lv_at hl 1 rfl) ?_
  refine x_rV [.int link] (kX1_speedOf l E mo x v a1 a2 w1 w2 link) ⟨hx, hb, hml, hown, hts⟩ (cwV 1 hts gX2_energyOf_X1_speedOf rfl rfl rfl hdX1_speedOf ⟨Nat.le_of_ble_eq_true rfl, Nat.le_of_ble_eq_true rfl⟩) hE hP hD [2] rfl rfl (ci := 1) (q0 := 2) rfl rfl rfl hl.1 rfl rfl (Nat.le_of_ble_eq_true rfl) dX2_energyOf_2 (Nat.le_of_ble_eq_true rfl) (Nat.le_of_ble_eq_true rfl) ?_
  refine lv_i2l hx hb dX2_energyOf_5 rfl ?_
  refine lv_lstore_n (lv' := [(3, .long ((sX1_speedOf w1 w2 link).toInt64)), (0, .ref h), (1, .int link), (2, .ref mo)]) hx hb dX2_energyOf_6 rfl hl (by decide) rfl (fun ls hl => ?_)
  refine lv_aload_n hx hb dX2_energyOf_7 rfl (lv_at hl 1 rfl) ?_
  refine lv_iconst (v := 1) hx hb dX2_energyOf_8 (by decide) ?_
  refine lv_iload_n hx hb dX2_energyOf_9 rfl (lv_at hl 2 rfl) ?_
  refine lv_iadd hx hb dX2_energyOf_10 ?_
  refine lv_iconst (v := 1) hx hb dX2_energyOf_11 (by decide) ?_
  refine lv_isub hx hb dX2_energyOf_12 ?_
  refine x_rV [.int ((1 + link) - 1)] (kX2_number l E h an num ((1 + link) - 1)) ⟨hx, hb, hml, hown, hts⟩ (cwV 1 hts gX2_energyOf_X2_number rfl rfl rfl hdX2_number ⟨Nat.le_of_ble_eq_true rfl, Nat.le_of_ble_eq_true rfl⟩) hE hP hD [0, 1] rfl rfl (ci := 2) (q0 := 0) rfl rfl rfl hl.1 rfl rfl (Nat.le_of_ble_eq_true rfl) dX2_energyOf_13 (Nat.le_of_ble_eq_true rfl) (Nat.le_of_ble_eq_true rfl) ?_
  refine lv_i2l hx hb dX2_energyOf_16 rfl ?_
  refine lv_lstore (lv' := [(5, .long ((sX2_number num ((1 + link) - 1)).toInt64)), (3, .long ((sX1_speedOf w1 w2 link).toInt64)), (0, .ref h), (1, .int link), (2, .ref mo)]) hx hb dX2_energyOf_17 hl (by decide) rfl (fun ls hl => ?_)
  refine lv_lload_n hx hb dX2_energyOf_19 rfl (lv_at hl 1 rfl) ?_
  refine lv_lload_n hx hb dX2_energyOf_20 rfl (lv_at hl 1 rfl) ?_
  refine lv_lmul hx hb dX2_energyOf_21 ?_
  refine lv_ldc2 (v := 2) hx hb hown g_1 dX2_energyOf_22 ?_
  refine lv_ldiv hx hb dX2_energyOf_25 (by decide) ?_
  refine lv_lload hx hb dX2_energyOf_26 (lv_at hl 0 rfl) ?_
  refine lv_aload_n hx hb dX2_energyOf_28 rfl (lv_at hl 4 rfl) ?_
  refine lv_iload_n hx hb dX2_energyOf_29 rfl (lv_at hl 3 rfl) ?_
  refine x_rV [.int link] (kX1_angleOf l E mo x v a1 a2 w1 w2 link) ⟨hx, hb, hml, hown, hts⟩ (cwV 1 hts gX2_energyOf_X1_angleOf rfl rfl rfl hdX1_angleOf ⟨Nat.le_of_ble_eq_true rfl, Nat.le_of_ble_eq_true rfl⟩) hE hP hD [2] rfl rfl (ci := 1) (q0 := 2) rfl rfl rfl hl.1 rfl rfl (Nat.le_of_ble_eq_true rfl) dX2_energyOf_30 (Nat.le_of_ble_eq_true rfl) (Nat.le_of_ble_eq_true rfl) ?_
  refine lv_sipush (v := 1024) hx hb dX2_energyOf_33 (by decide) ?_
  refine lv_iadd hx hb dX2_energyOf_36 ?_
  refine x_rSN [.int ((sX1_angleOf a1 a2 link) + 1024)] (kX8_sineOf l E ((sX1_angleOf a1 a2 link) + 1024)) ⟨hx, hb, hml, hown, hts⟩ ⟨va_cnB 1 hts gX2_energyOf_X8_sineOf_n33 rfl rfl rfl g_4 g_2 hdX8_sineOf.2 ⟨Nat.le_of_ble_eq_true rfl, Nat.le_of_ble_eq_true rfl⟩, g_3, trivial⟩ hE hP hD [] rfl rfl hl.1 rfl rfl (Nat.le_of_ble_eq_true rfl) dX2_energyOf_37 (Nat.le_of_ble_eq_true rfl) (Nat.le_of_ble_eq_true rfl) ?_
  refine lv_i2l hx hb dX2_energyOf_40 rfl ?_
  refine lv_lmul hx hb dX2_energyOf_41 ?_
  refine lv_ldc2 (v := 10430) hx hb hown g_5 dX2_energyOf_42 ?_
  refine lv_lmul hx hb dX2_energyOf_45 ?_
  refine lv_ldc2 (v := 4096) hx hb hown g_6 dX2_energyOf_46 ?_
  refine lv_ldiv hx hb dX2_energyOf_49 (by decide) ?_
  refine lv_ladd hx hb dX2_energyOf_50 ?_
  exact x_lr (by unfold sX2_energyOf; try rfl) hx hb hr hlk dX2_energyOf_51
def sX2_targetOf (num : Nat → Int32) (link : Int32) : Int32 :=
  (sX2_number num ((1 + link) - 1)) * 10430
theorem hdX2_targetOf : yX2_targetOf.cls = RX2 ∧ yX2_targetOf.cls ≠ "java/lang/invoke/MethodHandle" ∧ yX2_targetOf.cls ≠ "java/lang/invoke/VarHandle" ∧ (parseMethodDescriptor yX2_targetOf.desc).map (fun d => d.parameters.length) = some 1 := by decide +kernel
set_option maxHeartbeats 4000000 in
set_option maxRecDepth 100000 in
theorem kX2_targetOf (l : Launch) (E : XE) (h : Nat) (an : Nat) (num : Nat → Int32) (link : Int32) : xR l yX2_targetOf wsX2_targetOf ({ frames := 1, cells := 0, slots := 0, locals := 21 }) E [(h, .inr (2, [.ref an])), (an, .inl (E.2.1, 24, .inl num))] [.ref h, .int link] (.int (sX2_targetOf num link)) := by
  refine xR.of (cc := cX2_targetOf) (maxL := 2) (ret := (some .int)) (by decide) rfl (Nat.le_of_ble_eq_true rfl) ?_
  intro p e s m args below meth c ls hM hE hP hD hl
  obtain ⟨hx, hb, hr, hml, hts, hown, hlk, hnm⟩ := hM
  have hl : lv_has ls 2 [(0, .ref h), (1, .int link)] := hl
  refine lv_aload_n hx hb dX2_targetOf_0 rfl (lv_at hl 0 rfl) ?_
  refine lv_iconst (v := 1) hx hb dX2_targetOf_1 (by decide) ?_
  refine lv_iload_n hx hb dX2_targetOf_2 rfl (lv_at hl 1 rfl) ?_
  refine lv_iadd hx hb dX2_targetOf_3 ?_
  refine lv_iconst (v := 1) hx hb dX2_targetOf_4 (by decide) ?_
  refine lv_isub hx hb dX2_targetOf_5 ?_
  refine x_rV [.int ((1 + link) - 1)] (kX2_number l E h an num ((1 + link) - 1)) ⟨hx, hb, hml, hown, hts⟩ (cwV 1 hts gX2_targetOf_X2_number rfl rfl rfl hdX2_number ⟨Nat.le_of_ble_eq_true rfl, Nat.le_of_ble_eq_true rfl⟩) hE hP hD [0, 1] rfl rfl (ci := 2) (q0 := 0) rfl rfl rfl hl.1 rfl rfl (Nat.le_of_ble_eq_true rfl) dX2_targetOf_6 (Nat.le_of_ble_eq_true rfl) (Nat.le_of_ble_eq_true rfl) ?_
  refine lv_sipush (v := 10430) hx hb dX2_targetOf_9 (by decide) ?_
  refine lv_imul hx hb dX2_targetOf_12 ?_
  exact x_ir (by unfold sX2_targetOf; try rfl) hx hb hr hlk dX2_targetOf_13
def sX2_balancingPush (num : Nat → Int32) (x : Int32) (v : Int32) (a1 : Int32) (a2 : Int32) (w1 : Int32) (w2 : Int32) (force : Int32) : Int32 :=
  xMax (-force) (xMin force ((((((((sX2_number num 9) * (sX8_leanOf a1)) + ((sX2_number num 10) * w1)) + ((sX2_number num 11) * (sX8_leanOf a2))) + ((sX2_number num 12) * w2)) + ((sX2_number num 13) * x)) + ((sX2_number num 14) * v)) / 64))
theorem hdX2_balancingPush : yX2_balancingPush.cls = RX2 ∧ yX2_balancingPush.cls ≠ "java/lang/invoke/MethodHandle" ∧ yX2_balancingPush.cls ≠ "java/lang/invoke/VarHandle" ∧ (parseMethodDescriptor yX2_balancingPush.desc).map (fun d => d.parameters.length) = some 2 := by decide +kernel
set_option maxHeartbeats 4000000 in
set_option maxRecDepth 100000 in
theorem kX2_balancingPush (l : Launch) (E : XE) (h : Nat) (an : Nat) (num : Nat → Int32) (mo : Nat) (x : Int32) (v : Int32) (a1 : Int32) (a2 : Int32) (w1 : Int32) (w2 : Int32) (force : Int32) : xR l yX2_balancingPush wsX2_balancingPush ({ frames := 1, cells := 0, slots := 0, locals := 21 }) E [(h, .inr (2, [.ref an])), (an, .inl (E.2.1, 24, .inl num)), (mo, .inr (1, [.int x, .int v, .int a1, .int a2, .int w1, .int w2]))] [.ref h, .ref mo, .int force] (.int (sX2_balancingPush num x v a1 a2 w1 w2 force)) := by
  refine xR.of (cc := cX2_balancingPush) (maxL := 4) (ret := (some .int)) (by decide) rfl (Nat.le_of_ble_eq_true rfl) ?_
  intro p e s m args below meth c ls hM hE hP hD hl
  obtain ⟨hx, hb, hr, hml, hts, hown, hlk, hnm⟩ := hM
  have g_1 : (Cond.fieldLinkNest RX2 40 "RailPendulum$Motion" "a1" "I" "RailPendulum").before args s = true := va_Nw.use rfl (hE.2 (Cond.fieldLinkNest RX2 40 "RailPendulum$Motion" "a1" "I" "RailPendulum") (by decide +kernel))
  have g_2 : ∀ w ∈ wsX10, w ∈ wsX2_balancingPush := by decide +kernel
  have g_3 : (Cond.initialized yX8_leanOf.cls).before args s = true := hts _ (by decide +kernel)
  have g_4 : (Cond.static yX8_leanOf).before args s = true := hts (Cond.static yX8_leanOf) (by decide +kernel)
  have g_5 : va_Nw (.methodLinkNest RX2 44 yX8_leanOf "RailPendulum") s := hE.2 _ (by decide +kernel)
  have g_6 : (Cond.fieldLinkNest RX2 47 "RailPendulum$Motion" "w1" "I" "RailPendulum").before args s = true := va_Nw.use rfl (hE.2 (Cond.fieldLinkNest RX2 47 "RailPendulum$Motion" "w1" "I" "RailPendulum") (by decide +kernel))
  have g_7 : (Cond.fieldLinkNest RX2 50 "RailPendulum$Motion" "a2" "I" "RailPendulum").before args s = true := va_Nw.use rfl (hE.2 (Cond.fieldLinkNest RX2 50 "RailPendulum$Motion" "a2" "I" "RailPendulum") (by decide +kernel))
  have g_8 : (Cond.fieldLinkNest RX2 53 "RailPendulum$Motion" "w2" "I" "RailPendulum").before args s = true := va_Nw.use rfl (hE.2 (Cond.fieldLinkNest RX2 53 "RailPendulum$Motion" "w2" "I" "RailPendulum") (by decide +kernel))
  have g_9 : (Cond.fieldLinkNest RX2 56 "RailPendulum$Motion" "x" "I" "RailPendulum").before args s = true := va_Nw.use rfl (hE.2 (Cond.fieldLinkNest RX2 56 "RailPendulum$Motion" "x" "I" "RailPendulum") (by decide +kernel))
  have g_10 : (Cond.fieldLinkNest RX2 59 "RailPendulum$Motion" "v" "I" "RailPendulum").before args s = true := va_Nw.use rfl (hE.2 (Cond.fieldLinkNest RX2 59 "RailPendulum$Motion" "v" "I" "RailPendulum") (by decide +kernel))
  have g_11 : (Cond.methodLink RX2 62 Lib.Math.min.name).before args s = true := hts (Cond.methodLink RX2 62 Lib.Math.min.name) (by decide +kernel)
  have g_12 : (Cond.static Lib.Math.min.name).before args s = true := hts (Cond.static Lib.Math.min.name) (by decide +kernel)
  have g_13 : (Cond.initialized "java/lang/Math").before args s = true := hts (Cond.initialized "java/lang/Math") (by decide +kernel)
  have g_14 : (Cond.code Lib.Math.min.name Lib.Math.min.code 2 (some .int)).before args s = true := hts (Cond.code Lib.Math.min.name Lib.Math.min.code 2 (some .int)) (by decide +kernel)
  have g_15 : (Cond.methodLink RX2 68 Lib.Math.max.name).before args s = true := hts (Cond.methodLink RX2 68 Lib.Math.max.name) (by decide +kernel)
  have g_16 : (Cond.static Lib.Math.max.name).before args s = true := hts (Cond.static Lib.Math.max.name) (by decide +kernel)
  have g_17 : (Cond.code Lib.Math.max.name Lib.Math.max.code 2 (some .int)).before args s = true := hts (Cond.code Lib.Math.max.name Lib.Math.max.code 2 (some .int)) (by decide +kernel)
  have hl : lv_has ls 4 [(0, .ref h), (1, .ref mo), (2, .int force)] := hl
  refine lv_aload_n hx hb dX2_balancingPush_0 rfl (lv_at hl 0 rfl) ?_
  refine lv_bipush (v := 9) hx hb dX2_balancingPush_1 (by decide) ?_
  refine x_rV [.int 9] (kX2_number l E h an num 9) ⟨hx, hb, hml, hown, hts⟩ (cwV 1 hts gX2_balancingPush_X2_number rfl rfl rfl hdX2_number ⟨Nat.le_of_ble_eq_true rfl, Nat.le_of_ble_eq_true rfl⟩) hE hP hD [0, 1] rfl rfl (ci := 2) (q0 := 0) rfl rfl rfl hl.1 rfl rfl (Nat.le_of_ble_eq_true rfl) dX2_balancingPush_3 (Nat.le_of_ble_eq_true rfl) (Nat.le_of_ble_eq_true rfl) ?_
  refine lv_aload_n hx hb dX2_balancingPush_6 rfl (lv_at hl 1 rfl) ?_
  refine va_getN (D := E.1) (ci := 1) (v := .int a1) (C := RX1) (T := TX1) (N := 6) hx hb hts g_2 hown hE.1 hP 2 rfl rfl 2 (by decide) g_1 (fun _ h9 => h9) rfl dX2_balancingPush_7 ?_
  refine x_rSN [.int a1] (kX8_leanOf l E a1) ⟨hx, hb, hml, hown, hts⟩ ⟨va_cnB 1 hts gX2_balancingPush_X8_leanOf_n44 rfl rfl rfl g_5 g_3 hdX8_leanOf.2 ⟨Nat.le_of_ble_eq_true rfl, Nat.le_of_ble_eq_true rfl⟩, g_4, trivial⟩ hE hP hD [] rfl rfl hl.1 rfl rfl (Nat.le_of_ble_eq_true rfl) dX2_balancingPush_10 (Nat.le_of_ble_eq_true rfl) (Nat.le_of_ble_eq_true rfl) ?_
  refine lv_imul hx hb dX2_balancingPush_13 ?_
  refine lv_aload_n hx hb dX2_balancingPush_14 rfl (lv_at hl 0 rfl) ?_
  refine lv_bipush (v := 10) hx hb dX2_balancingPush_15 (by decide) ?_
  refine x_rV [.int 10] (kX2_number l E h an num 10) ⟨hx, hb, hml, hown, hts⟩ (cwV 1 hts gX2_balancingPush_X2_number rfl rfl rfl hdX2_number ⟨Nat.le_of_ble_eq_true rfl, Nat.le_of_ble_eq_true rfl⟩) hE hP hD [0, 1] rfl rfl (ci := 2) (q0 := 0) rfl rfl rfl hl.1 rfl rfl (Nat.le_of_ble_eq_true rfl) dX2_balancingPush_17 (Nat.le_of_ble_eq_true rfl) (Nat.le_of_ble_eq_true rfl) ?_
  refine lv_aload_n hx hb dX2_balancingPush_20 rfl (lv_at hl 1 rfl) ?_
  refine va_getN (D := E.1) (ci := 1) (v := .int w1) (C := RX1) (T := TX1) (N := 6) hx hb hts g_2 hown hE.1 hP 2 rfl rfl 4 (by decide) g_6 (fun _ h9 => h9) rfl dX2_balancingPush_21 ?_
  refine lv_imul hx hb dX2_balancingPush_24 ?_
  refine lv_iadd hx hb dX2_balancingPush_25 ?_
  refine lv_aload_n hx hb dX2_balancingPush_26 rfl (lv_at hl 0 rfl) ?_
  refine lv_bipush (v := 11) hx hb dX2_balancingPush_27 (by decide) ?_
  refine x_rV [.int 11] (kX2_number l E h an num 11) ⟨hx, hb, hml, hown, hts⟩ (cwV 1 hts gX2_balancingPush_X2_number rfl rfl rfl hdX2_number ⟨Nat.le_of_ble_eq_true rfl, Nat.le_of_ble_eq_true rfl⟩) hE hP hD [0, 1] rfl rfl (ci := 2) (q0 := 0) rfl rfl rfl hl.1 rfl rfl (Nat.le_of_ble_eq_true rfl) dX2_balancingPush_29 (Nat.le_of_ble_eq_true rfl) (Nat.le_of_ble_eq_true rfl) ?_
  refine lv_aload_n hx hb dX2_balancingPush_32 rfl (lv_at hl 1 rfl) ?_
  refine va_getN (D := E.1) (ci := 1) (v := .int a2) (C := RX1) (T := TX1) (N := 6) hx hb hts g_2 hown hE.1 hP 2 rfl rfl 3 (by decide) g_7 (fun _ h9 => h9) rfl dX2_balancingPush_33 ?_
  refine x_rSN [.int a2] (kX8_leanOf l E a2) ⟨hx, hb, hml, hown, hts⟩ ⟨va_cnB 1 hts gX2_balancingPush_X8_leanOf_n44 rfl rfl rfl g_5 g_3 hdX8_leanOf.2 ⟨Nat.le_of_ble_eq_true rfl, Nat.le_of_ble_eq_true rfl⟩, g_4, trivial⟩ hE hP hD [] rfl rfl hl.1 rfl rfl (Nat.le_of_ble_eq_true rfl) dX2_balancingPush_36 (Nat.le_of_ble_eq_true rfl) (Nat.le_of_ble_eq_true rfl) ?_
  refine lv_imul hx hb dX2_balancingPush_39 ?_
  refine lv_iadd hx hb dX2_balancingPush_40 ?_
  refine lv_aload_n hx hb dX2_balancingPush_41 rfl (lv_at hl 0 rfl) ?_
  refine lv_bipush (v := 12) hx hb dX2_balancingPush_42 (by decide) ?_
  refine x_rV [.int 12] (kX2_number l E h an num 12) ⟨hx, hb, hml, hown, hts⟩ (cwV 1 hts gX2_balancingPush_X2_number rfl rfl rfl hdX2_number ⟨Nat.le_of_ble_eq_true rfl, Nat.le_of_ble_eq_true rfl⟩) hE hP hD [0, 1] rfl rfl (ci := 2) (q0 := 0) rfl rfl rfl hl.1 rfl rfl (Nat.le_of_ble_eq_true rfl) dX2_balancingPush_44 (Nat.le_of_ble_eq_true rfl) (Nat.le_of_ble_eq_true rfl) ?_
  refine lv_aload_n hx hb dX2_balancingPush_47 rfl (lv_at hl 1 rfl) ?_
  refine va_getN (D := E.1) (ci := 1) (v := .int w2) (C := RX1) (T := TX1) (N := 6) hx hb hts g_2 hown hE.1 hP 2 rfl rfl 5 (by decide) g_8 (fun _ h9 => h9) rfl dX2_balancingPush_48 ?_
  refine lv_imul hx hb dX2_balancingPush_51 ?_
  refine lv_iadd hx hb dX2_balancingPush_52 ?_
  refine lv_aload_n hx hb dX2_balancingPush_53 rfl (lv_at hl 0 rfl) ?_
  refine lv_bipush (v := 13) hx hb dX2_balancingPush_54 (by decide) ?_
  refine x_rV [.int 13] (kX2_number l E h an num 13) ⟨hx, hb, hml, hown, hts⟩ (cwV 1 hts gX2_balancingPush_X2_number rfl rfl rfl hdX2_number ⟨Nat.le_of_ble_eq_true rfl, Nat.le_of_ble_eq_true rfl⟩) hE hP hD [0, 1] rfl rfl (ci := 2) (q0 := 0) rfl rfl rfl hl.1 rfl rfl (Nat.le_of_ble_eq_true rfl) dX2_balancingPush_56 (Nat.le_of_ble_eq_true rfl) (Nat.le_of_ble_eq_true rfl) ?_
  refine lv_aload_n hx hb dX2_balancingPush_59 rfl (lv_at hl 1 rfl) ?_
  refine va_getN (D := E.1) (ci := 1) (v := .int x) (C := RX1) (T := TX1) (N := 6) hx hb hts g_2 hown hE.1 hP 2 rfl rfl 0 (by decide) g_9 (fun _ h9 => h9) rfl dX2_balancingPush_60 ?_
  refine lv_imul hx hb dX2_balancingPush_63 ?_
  refine lv_iadd hx hb dX2_balancingPush_64 ?_
  refine lv_aload_n hx hb dX2_balancingPush_65 rfl (lv_at hl 0 rfl) ?_
  refine lv_bipush (v := 14) hx hb dX2_balancingPush_66 (by decide) ?_
  refine x_rV [.int 14] (kX2_number l E h an num 14) ⟨hx, hb, hml, hown, hts⟩ (cwV 1 hts gX2_balancingPush_X2_number rfl rfl rfl hdX2_number ⟨Nat.le_of_ble_eq_true rfl, Nat.le_of_ble_eq_true rfl⟩) hE hP hD [0, 1] rfl rfl (ci := 2) (q0 := 0) rfl rfl rfl hl.1 rfl rfl (Nat.le_of_ble_eq_true rfl) dX2_balancingPush_68 (Nat.le_of_ble_eq_true rfl) (Nat.le_of_ble_eq_true rfl) ?_
  refine lv_aload_n hx hb dX2_balancingPush_71 rfl (lv_at hl 1 rfl) ?_
  refine va_getN (D := E.1) (ci := 1) (v := .int v) (C := RX1) (T := TX1) (N := 6) hx hb hts g_2 hown hE.1 hP 2 rfl rfl 1 (by decide) g_10 (fun _ h9 => h9) rfl dX2_balancingPush_72 ?_
  refine lv_imul hx hb dX2_balancingPush_75 ?_
  refine lv_iadd hx hb dX2_balancingPush_76 ?_
  refine lv_istore_n (lv' := [(3, .int (((((((sX2_number num 9) * (sX8_leanOf a1)) + ((sX2_number num 10) * w1)) + ((sX2_number num 11) * (sX8_leanOf a2))) + ((sX2_number num 12) * w2)) + ((sX2_number num 13) * x)) + ((sX2_number num 14) * v))), (0, .ref h), (1, .ref mo), (2, .int force)]) hx hb dX2_balancingPush_77 rfl hl (by decide) rfl (fun ls hl => ?_)
  refine lv_iload_n hx hb dX2_balancingPush_78 rfl (lv_at hl 3 rfl) ?_
  refine lv_ineg hx hb dX2_balancingPush_79 ?_
  refine lv_iload_n hx hb dX2_balancingPush_80 rfl (lv_at hl 3 rfl) ?_
  refine lv_iload_n hx hb dX2_balancingPush_81 rfl (lv_at hl 0 rfl) ?_
  refine lv_bipush (v := 64) hx hb dX2_balancingPush_82 (by decide) ?_
  refine lv_idiv hx hb dX2_balancingPush_84 (by decide) ?_
  refine x_mmin hx hb (hml.trans hl.1.symm) hown g_11 g_12 g_13 g_14 dX2_balancingPush_85 (Nat.le_of_ble_eq_true rfl) (Nat.le_of_ble_eq_true rfl) (Nat.le_of_ble_eq_true rfl) (Nat.le_of_ble_eq_true rfl) ?_
  refine x_mmax hx hb (hml.trans hl.1.symm) hown g_15 g_16 g_13 g_17 dX2_balancingPush_88 (Nat.le_of_ble_eq_true rfl) (Nat.le_of_ble_eq_true rfl) (Nat.le_of_ble_eq_true rfl) (Nat.le_of_ble_eq_true rfl) ?_
  exact x_ir (by unfold sX2_balancingPush; try rfl) hx hb hr hlk dX2_balancingPush_91
def sX2_swingPush (num : Nat → Int32) (a1 : Int32) (a2 : Int32) (w1 : Int32) (w2 : Int32) (force : Int32) : Int32 :=
  if (w1 * (sX8_sineOf (a1 + 1024))) = 0 then
    force
  else
    if 0 ≤ (lg_cmp (sX2_energyOf num a1 a2 w1 w2 1) ((sX2_targetOf num 1).toInt64)) then
      if (w1 * (sX8_sineOf (a1 + 1024))) ≤ 0 then
        -force
      else
        force
    else
      if (w1 * (sX8_sineOf (a1 + 1024))) ≤ 0 then
        force
      else
        -force
theorem hdX2_swingPush : yX2_swingPush.cls = RX2 ∧ yX2_swingPush.cls ≠ "java/lang/invoke/MethodHandle" ∧ yX2_swingPush.cls ≠ "java/lang/invoke/VarHandle" ∧ (parseMethodDescriptor yX2_swingPush.desc).map (fun d => d.parameters.length) = some 2 := by decide +kernel
set_option maxHeartbeats 4000000 in
set_option maxRecDepth 100000 in
theorem kX2_swingPush (l : Launch) (E : XE) (h : Nat) (an : Nat) (num : Nat → Int32) (mo : Nat) (x : Int32) (v : Int32) (a1 : Int32) (a2 : Int32) (w1 : Int32) (w2 : Int32) (force : Int32) : xR l yX2_swingPush wsX2_swingPush ({ frames := 2, cells := 0, slots := 0, locals := 52 }) E [(h, .inr (2, [.ref an])), (an, .inl (E.2.1, 24, .inl num)), (mo, .inr (1, [.int x, .int v, .int a1, .int a2, .int w1, .int w2]))] [.ref h, .ref mo, .int force] (.int (sX2_swingPush num a1 a2 w1 w2 force)) := by
  refine xR.of (cc := cX2_swingPush) (maxL := 5) (ret := (some .int)) (by decide) rfl (Nat.le_of_ble_eq_true rfl) ?_
  intro p e s m args below meth c ls hM hE hP hD hl
  obtain ⟨hx, hb, hr, hml, hts, hown, hlk, hnm⟩ := hM
  have g_1 : (Cond.fieldLinkNest RX2 47 "RailPendulum$Motion" "w1" "I" "RailPendulum").before args s = true := va_Nw.use rfl (hE.2 (Cond.fieldLinkNest RX2 47 "RailPendulum$Motion" "w1" "I" "RailPendulum") (by decide +kernel))
  have g_2 : ∀ w ∈ wsX10, w ∈ wsX2_swingPush := by decide +kernel
  have g_3 : (Cond.fieldLinkNest RX2 40 "RailPendulum$Motion" "a1" "I" "RailPendulum").before args s = true := va_Nw.use rfl (hE.2 (Cond.fieldLinkNest RX2 40 "RailPendulum$Motion" "a1" "I" "RailPendulum") (by decide +kernel))
  have g_4 : (Cond.initialized yX8_sineOf.cls).before args s = true := hts _ (by decide +kernel)
  have g_5 : (Cond.static yX8_sineOf).before args s = true := hts (Cond.static yX8_sineOf) (by decide +kernel)
  have g_6 : va_Nw (.methodLinkNest RX2 33 yX8_sineOf "RailPendulum") s := hE.2 _ (by decide +kernel)
  have hl : lv_has ls 5 [(0, .ref h), (1, .ref mo), (2, .int force)] := hl
  refine lv_aload_n hx hb dX2_swingPush_0 rfl (lv_at hl 1 rfl) ?_
  refine va_getN (D := E.1) (ci := 1) (v := .int w1) (C := RX1) (T := TX1) (N := 6) hx hb hts g_2 hown hE.1 hP 2 rfl rfl 4 (by decide) g_1 (fun _ h9 => h9) rfl dX2_swingPush_1 ?_
  refine lv_aload_n hx hb dX2_swingPush_4 rfl (lv_at hl 1 rfl) ?_
  refine va_getN (D := E.1) (ci := 1) (v := .int a1) (C := RX1) (T := TX1) (N := 6) hx hb hts g_2 hown hE.1 hP 2 rfl rfl 2 (by decide) g_3 (fun _ h9 => h9) rfl dX2_swingPush_5 ?_
  refine lv_sipush (v := 1024) hx hb dX2_swingPush_8 (by decide) ?_
  refine lv_iadd hx hb dX2_swingPush_11 ?_
  refine x_rSN [.int (a1 + 1024)] (kX8_sineOf l E (a1 + 1024)) ⟨hx, hb, hml, hown, hts⟩ ⟨va_cnB 1 hts gX2_swingPush_X8_sineOf_n33 rfl rfl rfl g_6 g_4 hdX8_sineOf.2 ⟨Nat.le_of_ble_eq_true rfl, Nat.le_of_ble_eq_true rfl⟩, g_5, trivial⟩ hE hP hD [] rfl rfl hl.1 rfl rfl (Nat.le_of_ble_eq_true rfl) dX2_swingPush_12 (Nat.le_of_ble_eq_true rfl) (Nat.le_of_ble_eq_true rfl) ?_
  refine lv_imul hx hb dX2_swingPush_15 ?_
  refine lv_istore_n (lv' := [(3, .int (w1 * (sX8_sineOf (a1 + 1024)))), (0, .ref h), (1, .ref mo), (2, .int force)]) hx hb dX2_swingPush_16 rfl hl (by decide) rfl (fun ls hl => ?_)
  refine lv_iload_n hx hb dX2_swingPush_17 rfl (lv_at hl 0 rfl) ?_
  refine lv_if_ne (tgt := 23) hx hb dX2_swingPush_18 (by decide) (fun c_1 => ?_) (fun c_1 => ?_)
  · refine lv_aload_n hx hb dX2_swingPush_23 rfl (lv_at hl 1 rfl) ?_
    refine lv_iconst (v := 1) hx hb dX2_swingPush_24 (by decide) ?_
    refine lv_aload_n hx hb dX2_swingPush_25 rfl (lv_at hl 2 rfl) ?_
    refine x_rV [.int 1, .ref mo] (kX2_energyOf l E h an num mo x v a1 a2 w1 w2 1) ⟨hx, hb, hml, hown, hts⟩ (cwV 2 hts gX2_swingPush_X2_energyOf rfl rfl rfl hdX2_energyOf ⟨Nat.le_of_ble_eq_true rfl, Nat.le_of_ble_eq_true rfl⟩) hE hP hD [0, 1, 2] rfl rfl (ci := 2) (q0 := 0) rfl rfl rfl hl.1 rfl rfl (Nat.le_of_ble_eq_true rfl) dX2_swingPush_26 (Nat.le_of_ble_eq_true rfl) (Nat.le_of_ble_eq_true rfl) ?_
    refine lv_aload_n hx hb dX2_swingPush_29 rfl (lv_at hl 1 rfl) ?_
    refine lv_iconst (v := 1) hx hb dX2_swingPush_30 (by decide) ?_
    refine x_rV [.int 1] (kX2_targetOf l E h an num 1) ⟨hx, hb, hml, hown, hts⟩ (cwV 1 hts gX2_swingPush_X2_targetOf rfl rfl rfl hdX2_targetOf ⟨Nat.le_of_ble_eq_true rfl, Nat.le_of_ble_eq_true rfl⟩) hE hP hD [0, 1] rfl rfl (ci := 2) (q0 := 0) rfl rfl rfl hl.1 rfl rfl (Nat.le_of_ble_eq_true rfl) dX2_swingPush_31 (Nat.le_of_ble_eq_true rfl) (Nat.le_of_ble_eq_true rfl) ?_
    refine lv_i2l hx hb dX2_swingPush_34 rfl ?_
    refine W.lcmp hx hb dX2_swingPush_35 ?_
    refine lv_if_ge (tgt := 43) hx hb dX2_swingPush_36 (by decide) (fun c_2 => ?_) (fun c_2 => ?_)
    · refine lv_iconst (v := 0) hx hb dX2_swingPush_43 (by decide) ?_
      refine lv_istore (lv' := [(4, .int 0), (3, .int (w1 * (sX8_sineOf (a1 + 1024)))), (0, .ref h), (1, .ref mo), (2, .int force)]) hx hb dX2_swingPush_44 hl (by decide) rfl (fun ls hl => ?_)
      refine lv_iload hx hb dX2_swingPush_46 (lv_at hl 0 rfl) ?_
      refine lv_iload_n hx hb dX2_swingPush_48 rfl (lv_at hl 1 rfl) ?_
      refine lv_if_le (tgt := 56) hx hb dX2_swingPush_49 (by decide) (fun c_3 => ?_) (fun c_3 => ?_)
      · refine lv_iconst (v := 0) hx hb dX2_swingPush_56 (by decide) ?_
        refine lv_icmp_ne (tgt := 65) hx hb dX2_swingPush_57 (by decide) (fun c_4 => absurd rfl c_4) (fun c_4 => ?_)
        refine lv_iload_n hx hb dX2_swingPush_60 rfl (lv_at hl 4 rfl) ?_
        refine lv_ineg hx hb dX2_swingPush_61 ?_
        refine lv_goto (tgt := 66) hx hb dX2_swingPush_62 (by decide) ?_
        exact x_ir (by unfold sX2_swingPush; rw [if_neg c_1]; rw [if_pos c_2]; rw [if_pos c_3]; try rfl) hx hb hr hlk dX2_swingPush_66
      · refine lv_iconst (v := 1) hx hb dX2_swingPush_52 (by decide) ?_
        refine lv_goto (tgt := 57) hx hb dX2_swingPush_53 (by decide) ?_
        refine lv_icmp_ne (tgt := 65) hx hb dX2_swingPush_57 (by decide) (fun c_5 => ?_) (fun c_5 => absurd c_5 (by decide))
        refine lv_iload_n hx hb dX2_swingPush_65 rfl (lv_at hl 4 rfl) ?_
        exact x_ir (by unfold sX2_swingPush; rw [if_neg c_1]; rw [if_pos c_2]; rw [if_neg c_3]; try rfl) hx hb hr hlk dX2_swingPush_66
    · refine lv_iconst (v := 1) hx hb dX2_swingPush_39 (by decide) ?_
      refine lv_goto (tgt := 44) hx hb dX2_swingPush_40 (by decide) ?_
      refine lv_istore (lv' := [(4, .int 1), (3, .int (w1 * (sX8_sineOf (a1 + 1024)))), (0, .ref h), (1, .ref mo), (2, .int force)]) hx hb dX2_swingPush_44 hl (by decide) rfl (fun ls hl => ?_)
      refine lv_iload hx hb dX2_swingPush_46 (lv_at hl 0 rfl) ?_
      refine lv_iload_n hx hb dX2_swingPush_48 rfl (lv_at hl 1 rfl) ?_
      refine lv_if_le (tgt := 56) hx hb dX2_swingPush_49 (by decide) (fun c_6 => ?_) (fun c_6 => ?_)
      · refine lv_iconst (v := 0) hx hb dX2_swingPush_56 (by decide) ?_
        refine lv_icmp_ne (tgt := 65) hx hb dX2_swingPush_57 (by decide) (fun c_7 => ?_) (fun c_7 => absurd c_7 (by decide))
        refine lv_iload_n hx hb dX2_swingPush_65 rfl (lv_at hl 4 rfl) ?_
        exact x_ir (by unfold sX2_swingPush; rw [if_neg c_1]; rw [if_neg c_2]; rw [if_pos c_6]; try rfl) hx hb hr hlk dX2_swingPush_66
      · refine lv_iconst (v := 1) hx hb dX2_swingPush_52 (by decide) ?_
        refine lv_goto (tgt := 57) hx hb dX2_swingPush_53 (by decide) ?_
        refine lv_icmp_ne (tgt := 65) hx hb dX2_swingPush_57 (by decide) (fun c_8 => absurd rfl c_8) (fun c_8 => ?_)
        refine lv_iload_n hx hb dX2_swingPush_60 rfl (lv_at hl 4 rfl) ?_
        refine lv_ineg hx hb dX2_swingPush_61 ?_
        refine lv_goto (tgt := 66) hx hb dX2_swingPush_62 (by decide) ?_
        exact x_ir (by unfold sX2_swingPush; rw [if_neg c_1]; rw [if_neg c_2]; rw [if_neg c_6]; try rfl) hx hb hr hlk dX2_swingPush_66
  · refine lv_iload_n hx hb dX2_swingPush_21 rfl (lv_at hl 3 rfl) ?_
    exact x_ir (by unfold sX2_swingPush; rw [if_pos c_1]; try rfl) hx hb hr hlk dX2_swingPush_22
def sX2_speedGain (num : Nat → Int32) (a1 : Int32) (a2 : Int32) (w1 : Int32) (w2 : Int32) (link : Int32) (u : Int32) : Int32 :=
  ((((sX2_number num ((1 + link) - 1)) * (sX8_sineOf (sX1_angleOf a1 a2 link))) - (((sX2_number num ((5 + link) - 1)) * u) * (sX8_sineOf ((sX1_angleOf a1 a2 link) + 1024)))) / 4096) - (((sX2_number num ((3 + link) - 1)) * (sX1_speedOf w1 w2 link)) / 4096)
theorem hdX2_speedGain : yX2_speedGain.cls = RX2 ∧ yX2_speedGain.cls ≠ "java/lang/invoke/MethodHandle" ∧ yX2_speedGain.cls ≠ "java/lang/invoke/VarHandle" ∧ (parseMethodDescriptor yX2_speedGain.desc).map (fun d => d.parameters.length) = some 3 := by decide +kernel
set_option maxHeartbeats 4000000 in
set_option maxRecDepth 100000 in
theorem kX2_speedGain (l : Launch) (E : XE) (h : Nat) (an : Nat) (num : Nat → Int32) (mo : Nat) (x : Int32) (v : Int32) (a1 : Int32) (a2 : Int32) (w1 : Int32) (w2 : Int32) (link : Int32) (u : Int32) : xR l yX2_speedGain wsX2_speedGain ({ frames := 1, cells := 0, slots := 0, locals := 26 }) E [(h, .inr (2, [.ref an])), (an, .inl (E.2.1, 24, .inl num)), (mo, .inr (1, [.int x, .int v, .int a1, .int a2, .int w1, .int w2]))] [.ref h, .int link, .ref mo, .int u] (.int (sX2_speedGain num a1 a2 w1 w2 link u)) := by
  refine xR.of (cc := cX2_speedGain) (maxL := 7) (ret := (some .int)) (by decide) rfl (Nat.le_of_ble_eq_true rfl) ?_
  intro p e s m args below meth c ls hM hE hP hD hl
  obtain ⟨hx, hb, hr, hml, hts, hown, hlk, hnm⟩ := hM
  have g_1 : (Cond.initialized yX8_sineOf.cls).before args s = true := hts _ (by decide +kernel)
  have g_2 : (Cond.static yX8_sineOf).before args s = true := hts (Cond.static yX8_sineOf) (by decide +kernel)
  have g_3 : va_Nw (.methodLinkNest RX2 33 yX8_sineOf "RailPendulum") s := hE.2 _ (by decide +kernel)
  have hl : lv_has ls 7 [(0, .ref h), (1, .int link), (2, .ref mo), (3, .int u)] := hl
  refine lv_aload_n hx hb dX2_speedGain_0 rfl (lv_at hl 2 rfl) ?_
  refine lv_iload_n hx hb dX2_speedGain_1 rfl (lv_at hl 1 rfl) ?_
  refine x_rV [.int link] (kX1_angleOf l E mo x v a1 a2 w1 w2 link) ⟨hx, hb, hml, hown, hts⟩ (cwV 1 hts gX2_speedGain_X1_angleOf rfl rfl rfl hdX1_angleOf ⟨Nat.le_of_ble_eq_true rfl, Nat.le_of_ble_eq_true rfl⟩) hE hP hD [2] rfl rfl (ci := 1) (q0 := 2) rfl rfl rfl hl.1 rfl rfl (Nat.le_of_ble_eq_true rfl) dX2_speedGain_2 (Nat.le_of_ble_eq_true rfl) (Nat.le_of_ble_eq_true rfl) ?_
  refine lv_istore (lv' := [(4, .int (sX1_angleOf a1 a2 link)), (0, .ref h), (1, .int link), (2, .ref mo), (3, .int u)]) hx hb dX2_speedGain_5 hl (by decide) rfl (fun ls hl => ?_)
  refine lv_aload_n hx hb dX2_speedGain_7 rfl (lv_at hl 1 rfl) ?_
  refine lv_iconst (v := 1) hx hb dX2_speedGain_8 (by decide) ?_
  refine lv_iload_n hx hb dX2_speedGain_9 rfl (lv_at hl 2 rfl) ?_
  refine lv_iadd hx hb dX2_speedGain_10 ?_
  refine lv_iconst (v := 1) hx hb dX2_speedGain_11 (by decide) ?_
  refine lv_isub hx hb dX2_speedGain_12 ?_
  refine x_rV [.int ((1 + link) - 1)] (kX2_number l E h an num ((1 + link) - 1)) ⟨hx, hb, hml, hown, hts⟩ (cwV 1 hts gX2_speedGain_X2_number rfl rfl rfl hdX2_number ⟨Nat.le_of_ble_eq_true rfl, Nat.le_of_ble_eq_true rfl⟩) hE hP hD [0, 1] rfl rfl (ci := 2) (q0 := 0) rfl rfl rfl hl.1 rfl rfl (Nat.le_of_ble_eq_true rfl) dX2_speedGain_13 (Nat.le_of_ble_eq_true rfl) (Nat.le_of_ble_eq_true rfl) ?_
  refine lv_iload hx hb dX2_speedGain_16 (lv_at hl 0 rfl) ?_
  refine x_rSN [.int (sX1_angleOf a1 a2 link)] (kX8_sineOf l E (sX1_angleOf a1 a2 link)) ⟨hx, hb, hml, hown, hts⟩ ⟨va_cnB 1 hts gX2_speedGain_X8_sineOf_n33 rfl rfl rfl g_3 g_1 hdX8_sineOf.2 ⟨Nat.le_of_ble_eq_true rfl, Nat.le_of_ble_eq_true rfl⟩, g_2, trivial⟩ hE hP hD [] rfl rfl hl.1 rfl rfl (Nat.le_of_ble_eq_true rfl) dX2_speedGain_18 (Nat.le_of_ble_eq_true rfl) (Nat.le_of_ble_eq_true rfl) ?_
  refine lv_imul hx hb dX2_speedGain_21 ?_
  refine lv_istore (lv' := [(5, .int ((sX2_number num ((1 + link) - 1)) * (sX8_sineOf (sX1_angleOf a1 a2 link)))), (4, .int (sX1_angleOf a1 a2 link)), (0, .ref h), (1, .int link), (2, .ref mo), (3, .int u)]) hx hb dX2_speedGain_22 hl (by decide) rfl (fun ls hl => ?_)
  refine lv_aload_n hx hb dX2_speedGain_24 rfl (lv_at hl 2 rfl) ?_
  refine lv_iconst (v := 5) hx hb dX2_speedGain_25 (by decide) ?_
  refine lv_iload_n hx hb dX2_speedGain_26 rfl (lv_at hl 3 rfl) ?_
  refine lv_iadd hx hb dX2_speedGain_27 ?_
  refine lv_iconst (v := 1) hx hb dX2_speedGain_28 (by decide) ?_
  refine lv_isub hx hb dX2_speedGain_29 ?_
  refine x_rV [.int ((5 + link) - 1)] (kX2_number l E h an num ((5 + link) - 1)) ⟨hx, hb, hml, hown, hts⟩ (cwV 1 hts gX2_speedGain_X2_number rfl rfl rfl hdX2_number ⟨Nat.le_of_ble_eq_true rfl, Nat.le_of_ble_eq_true rfl⟩) hE hP hD [0, 1] rfl rfl (ci := 2) (q0 := 0) rfl rfl rfl hl.1 rfl rfl (Nat.le_of_ble_eq_true rfl) dX2_speedGain_30 (Nat.le_of_ble_eq_true rfl) (Nat.le_of_ble_eq_true rfl) ?_
  refine lv_iload_n hx hb dX2_speedGain_33 rfl (lv_at hl 5 rfl) ?_
  refine lv_imul hx hb dX2_speedGain_34 ?_
  refine lv_iload hx hb dX2_speedGain_35 (lv_at hl 1 rfl) ?_
  refine lv_sipush (v := 1024) hx hb dX2_speedGain_37 (by decide) ?_
  refine lv_iadd hx hb dX2_speedGain_40 ?_
  refine x_rSN [.int ((sX1_angleOf a1 a2 link) + 1024)] (kX8_sineOf l E ((sX1_angleOf a1 a2 link) + 1024)) ⟨hx, hb, hml, hown, hts⟩ ⟨va_cnB 1 hts gX2_speedGain_X8_sineOf_n33 rfl rfl rfl g_3 g_1 hdX8_sineOf.2 ⟨Nat.le_of_ble_eq_true rfl, Nat.le_of_ble_eq_true rfl⟩, g_2, trivial⟩ hE hP hD [] rfl rfl hl.1 rfl rfl (Nat.le_of_ble_eq_true rfl) dX2_speedGain_41 (Nat.le_of_ble_eq_true rfl) (Nat.le_of_ble_eq_true rfl) ?_
  refine lv_imul hx hb dX2_speedGain_44 ?_
  refine lv_istore (lv' := [(6, .int (((sX2_number num ((5 + link) - 1)) * u) * (sX8_sineOf ((sX1_angleOf a1 a2 link) + 1024)))), (5, .int ((sX2_number num ((1 + link) - 1)) * (sX8_sineOf (sX1_angleOf a1 a2 link)))), (4, .int (sX1_angleOf a1 a2 link)), (0, .ref h), (1, .int link), (2, .ref mo), (3, .int u)]) hx hb dX2_speedGain_45 hl (by decide) rfl (fun ls hl => ?_)
  refine lv_iload hx hb dX2_speedGain_47 (lv_at hl 1 rfl) ?_
  refine lv_iload hx hb dX2_speedGain_49 (lv_at hl 0 rfl) ?_
  refine lv_isub hx hb dX2_speedGain_51 ?_
  refine lv_sipush (v := 4096) hx hb dX2_speedGain_52 (by decide) ?_
  refine lv_idiv hx hb dX2_speedGain_55 (by decide) ?_
  refine lv_aload_n hx hb dX2_speedGain_56 rfl (lv_at hl 3 rfl) ?_
  refine lv_iconst (v := 3) hx hb dX2_speedGain_57 (by decide) ?_
  refine lv_iload_n hx hb dX2_speedGain_58 rfl (lv_at hl 4 rfl) ?_
  refine lv_iadd hx hb dX2_speedGain_59 ?_
  refine lv_iconst (v := 1) hx hb dX2_speedGain_60 (by decide) ?_
  refine lv_isub hx hb dX2_speedGain_61 ?_
  refine x_rV [.int ((3 + link) - 1)] (kX2_number l E h an num ((3 + link) - 1)) ⟨hx, hb, hml, hown, hts⟩ (cwV 1 hts gX2_speedGain_X2_number rfl rfl rfl hdX2_number ⟨Nat.le_of_ble_eq_true rfl, Nat.le_of_ble_eq_true rfl⟩) hE hP hD [0, 1] rfl rfl (ci := 2) (q0 := 0) rfl rfl rfl hl.1 rfl rfl (Nat.le_of_ble_eq_true rfl) dX2_speedGain_62 (Nat.le_of_ble_eq_true rfl) (Nat.le_of_ble_eq_true rfl) ?_
  refine lv_aload_n hx hb dX2_speedGain_65 rfl (lv_at hl 5 rfl) ?_
  refine lv_iload_n hx hb dX2_speedGain_66 rfl (lv_at hl 4 rfl) ?_
  refine x_rV [.int link] (kX1_speedOf l E mo x v a1 a2 w1 w2 link) ⟨hx, hb, hml, hown, hts⟩ (cwV 1 hts gX2_speedGain_X1_speedOf rfl rfl rfl hdX1_speedOf ⟨Nat.le_of_ble_eq_true rfl, Nat.le_of_ble_eq_true rfl⟩) hE hP hD [2] rfl rfl (ci := 1) (q0 := 2) rfl rfl rfl hl.1 rfl rfl (Nat.le_of_ble_eq_true rfl) dX2_speedGain_67 (Nat.le_of_ble_eq_true rfl) (Nat.le_of_ble_eq_true rfl) ?_
  refine lv_imul hx hb dX2_speedGain_70 ?_
  refine lv_sipush (v := 4096) hx hb dX2_speedGain_71 (by decide) ?_
  refine lv_idiv hx hb dX2_speedGain_74 (by decide) ?_
  refine lv_isub hx hb dX2_speedGain_75 ?_
  exact x_ir (by unfold sX2_speedGain; try rfl) hx hb hr hlk dX2_speedGain_76
def sX2_outcomeOf (num : Nat → Int32) (x : Int32) (v : Int32) (w1 : Int32) (w2 : Int32) : Int32 × Int32 × Int32 :=
  if (sX8_isBeyond x (sX2_number num 0)) = 0 then
    if (sX8_isBeyond w1 (sX2_number num 20)) = 0 then
      if (sX8_isBeyond w2 (sX2_number num 20)) = 0 then
        (0, x, v)
      else
        (2, x, v)
    else
      (2, x, v)
  else
    if x ≤ 0 then
      (1, -(sX2_number num 0), 0)
    else
      (1, sX2_number num 0, 0)
theorem hdX2_outcomeOf : yX2_outcomeOf.cls = RX2 ∧ yX2_outcomeOf.cls ≠ "java/lang/invoke/MethodHandle" ∧ yX2_outcomeOf.cls ≠ "java/lang/invoke/VarHandle" ∧ (parseMethodDescriptor yX2_outcomeOf.desc).map (fun d => d.parameters.length) = some 1 := by decide +kernel
set_option maxHeartbeats 4000000 in
set_option maxRecDepth 100000 in
theorem kX2_outcomeOf (l : Launch) (E : XE) (h : Nat) (an : Nat) (num : Nat → Int32) (mo : Nat) (x : Int32) (v : Int32) (a1 : Int32) (a2 : Int32) (w1 : Int32) (w2 : Int32) : xW (T := Int32 × Int32 × Int32) l yX2_outcomeOf wsX2_outcomeOf ({ frames := 1, cells := 0, slots := 0, locals := 21 }) E [(h, .inr (2, [.ref an])), (an, .inl (E.2.1, 24, .inl num)), (mo, .inr (1, [.int x, .int v, .int a1, .int a2, .int w1, .int w2]))] [.ref h, .ref mo] (fun q => some (.int q.1)) (fun q => [(h, .inr (2, [.ref an])), (an, .inl (E.2.1, 24, .inl num)), (mo, .inr (1, [.int q.2.1, .int q.2.2, .int a1, .int a2, .int w1, .int w2]))]) (sX2_outcomeOf num x v w1 w2) 0 0 := by
  refine xW.of (cc := cX2_outcomeOf) (maxL := 4) (ret := (some .int)) (by decide) rfl (Nat.le_of_ble_eq_true rfl) ?_
  intro p e s m args below meth c ls A hM hE hP hD hS hA hl
  obtain ⟨hx, hb, hr, hml, hts, hown, hlk, hnm⟩ := hM
  have g_1 : (Cond.fieldLinkNest RX2 56 "RailPendulum$Motion" "x" "I" "RailPendulum").before args s = true := va_Nw.use rfl (hE.2 (Cond.fieldLinkNest RX2 56 "RailPendulum$Motion" "x" "I" "RailPendulum") (by decide +kernel))
  have g_2 : ∀ w ∈ wsX10, w ∈ wsX2_outcomeOf := by decide +kernel
  have g_3 : (Cond.initialized yX8_isBeyond.cls).before args s = true := hts _ (by decide +kernel)
  have g_4 : (Cond.static yX8_isBeyond).before args s = true := hts (Cond.static yX8_isBeyond) (by decide +kernel)
  have g_5 : va_Nw (.methodLinkNest RX2 89 yX8_isBeyond "RailPendulum") s := hE.2 _ (by decide +kernel)
  have g_6 : (Cond.fieldLinkNest RX2 47 "RailPendulum$Motion" "w1" "I" "RailPendulum").before args s = true := va_Nw.use rfl (hE.2 (Cond.fieldLinkNest RX2 47 "RailPendulum$Motion" "w1" "I" "RailPendulum") (by decide +kernel))
  have g_7 : (Cond.fieldLinkNest RX2 53 "RailPendulum$Motion" "w2" "I" "RailPendulum").before args s = true := va_Nw.use rfl (hE.2 (Cond.fieldLinkNest RX2 53 "RailPendulum$Motion" "w2" "I" "RailPendulum") (by decide +kernel))
  have g_8 : (Cond.fieldLinkNest RX2 59 "RailPendulum$Motion" "v" "I" "RailPendulum").before args s = true := va_Nw.use rfl (hE.2 (Cond.fieldLinkNest RX2 59 "RailPendulum$Motion" "v" "I" "RailPendulum") (by decide +kernel))
  have hX : xD A [h, an, mo] := xD.of hD rfl
  have hl : lv_has ls 4 [(0, .ref h), (1, .ref mo)] := hl
  refine lv_aload_n hx hb dX2_outcomeOf_0 rfl (lv_at hl 0 rfl) ?_
  refine lv_iconst (v := 0) hx hb dX2_outcomeOf_1 (by decide) ?_
  refine x_rV [.int 0] (kX2_number l E h an num 0) ⟨hx, hb, hml, hown, hts⟩ (cwV 1 hts gX2_outcomeOf_X2_number rfl rfl rfl hdX2_number ⟨Nat.le_of_ble_eq_true rfl, Nat.le_of_ble_eq_true rfl⟩) hE hP (hX.d rfl) [0, 1] rfl rfl (ci := 2) (q0 := 0) rfl rfl rfl hl.1 rfl rfl (Nat.le_of_ble_eq_true rfl) dX2_outcomeOf_2 (Nat.le_of_ble_eq_true rfl) (Nat.le_of_ble_eq_true rfl) ?_
  refine lv_istore_n (lv' := [(2, .int (sX2_number num 0)), (0, .ref h), (1, .ref mo)]) hx hb dX2_outcomeOf_5 rfl hl (by decide) rfl (fun ls hl => ?_)
  refine lv_aload_n hx hb dX2_outcomeOf_6 rfl (lv_at hl 2 rfl) ?_
  refine va_getN (D := E.1) (ci := 1) (v := .int x) (C := RX1) (T := TX1) (N := 6) hx hb hts g_2 hown hE.1 hP 2 rfl rfl 0 (by decide) g_1 (fun _ h9 => h9) rfl dX2_outcomeOf_7 ?_
  refine lv_iload_n hx hb dX2_outcomeOf_10 rfl (lv_at hl 0 rfl) ?_
  refine x_rSN [.int x, .int (sX2_number num 0)] (kX8_isBeyond l E x (sX2_number num 0)) ⟨hx, hb, hml, hown, hts⟩ ⟨va_cnB 2 hts gX2_outcomeOf_X8_isBeyond_n89 rfl rfl rfl g_5 g_3 hdX8_isBeyond.2 ⟨Nat.le_of_ble_eq_true rfl, Nat.le_of_ble_eq_true rfl⟩, g_4, trivial⟩ hE hP (hX.d rfl) [] rfl rfl hl.1 rfl rfl (Nat.le_of_ble_eq_true rfl) dX2_outcomeOf_11 (Nat.le_of_ble_eq_true rfl) (Nat.le_of_ble_eq_true rfl) ?_
  refine lv_if_eq (tgt := 41) hx hb dX2_outcomeOf_14 (by decide) (fun c_1 => ?_) (fun c_1 => ?_)
  · refine lv_aload_n hx hb dX2_outcomeOf_41 rfl (lv_at hl 1 rfl) ?_
    refine lv_bipush (v := 20) hx hb dX2_outcomeOf_42 (by decide) ?_
    refine x_rV [.int 20] (kX2_number l E h an num 20) ⟨hx, hb, hml, hown, hts⟩ (cwV 1 hts gX2_outcomeOf_X2_number rfl rfl rfl hdX2_number ⟨Nat.le_of_ble_eq_true rfl, Nat.le_of_ble_eq_true rfl⟩) hE hP (hX.d rfl) [0, 1] rfl rfl (ci := 2) (q0 := 0) rfl rfl rfl hl.1 rfl rfl (Nat.le_of_ble_eq_true rfl) dX2_outcomeOf_44 (Nat.le_of_ble_eq_true rfl) (Nat.le_of_ble_eq_true rfl) ?_
    refine lv_istore_n (lv' := [(3, .int (sX2_number num 20)), (2, .int (sX2_number num 0)), (0, .ref h), (1, .ref mo)]) hx hb dX2_outcomeOf_47 rfl hl (by decide) rfl (fun ls hl => ?_)
    refine lv_aload_n hx hb dX2_outcomeOf_48 rfl (lv_at hl 3 rfl) ?_
    refine va_getN (D := E.1) (ci := 1) (v := .int w1) (C := RX1) (T := TX1) (N := 6) hx hb hts g_2 hown hE.1 hP 2 rfl rfl 4 (by decide) g_6 (fun _ h9 => h9) rfl dX2_outcomeOf_49 ?_
    refine lv_iload_n hx hb dX2_outcomeOf_52 rfl (lv_at hl 0 rfl) ?_
    refine x_rSN [.int w1, .int (sX2_number num 20)] (kX8_isBeyond l E w1 (sX2_number num 20)) ⟨hx, hb, hml, hown, hts⟩ ⟨va_cnB 2 hts gX2_outcomeOf_X8_isBeyond_n89 rfl rfl rfl g_5 g_3 hdX8_isBeyond.2 ⟨Nat.le_of_ble_eq_true rfl, Nat.le_of_ble_eq_true rfl⟩, g_4, trivial⟩ hE hP (hX.d rfl) [] rfl rfl hl.1 rfl rfl (Nat.le_of_ble_eq_true rfl) dX2_outcomeOf_53 (Nat.le_of_ble_eq_true rfl) (Nat.le_of_ble_eq_true rfl) ?_
    refine lv_if_ne (tgt := 70) hx hb dX2_outcomeOf_56 (by decide) (fun c_2 => ?_) (fun c_2 => ?_)
    · refine lv_iconst (v := 2) hx hb dX2_outcomeOf_70 (by decide) ?_
      refine lv_goto (tgt := 75) hx hb dX2_outcomeOf_71 (by decide) ?_
      exact x_wi (2, x, v) (by unfold sX2_outcomeOf; rw [if_pos c_1]; rw [if_neg c_2]; try rfl) rfl hx hb hr hlk hS hP (hX.d rfl) [0, 1, 2] rfl rfl (Nat.le_of_ble_eq_true rfl) (Nat.le_of_ble_eq_true rfl) dX2_outcomeOf_75
    · refine lv_aload_n hx hb dX2_outcomeOf_59 rfl (lv_at hl 3 rfl) ?_
      refine va_getN (D := E.1) (ci := 1) (v := .int w2) (C := RX1) (T := TX1) (N := 6) hx hb hts g_2 hown hE.1 hP 2 rfl rfl 5 (by decide) g_7 (fun _ h9 => h9) rfl dX2_outcomeOf_60 ?_
      refine lv_iload_n hx hb dX2_outcomeOf_63 rfl (lv_at hl 0 rfl) ?_
      refine x_rSN [.int w2, .int (sX2_number num 20)] (kX8_isBeyond l E w2 (sX2_number num 20)) ⟨hx, hb, hml, hown, hts⟩ ⟨va_cnB 2 hts gX2_outcomeOf_X8_isBeyond_n89 rfl rfl rfl g_5 g_3 hdX8_isBeyond.2 ⟨Nat.le_of_ble_eq_true rfl, Nat.le_of_ble_eq_true rfl⟩, g_4, trivial⟩ hE hP (hX.d rfl) [] rfl rfl hl.1 rfl rfl (Nat.le_of_ble_eq_true rfl) dX2_outcomeOf_64 (Nat.le_of_ble_eq_true rfl) (Nat.le_of_ble_eq_true rfl) ?_
      refine lv_if_eq (tgt := 74) hx hb dX2_outcomeOf_67 (by decide) (fun c_3 => ?_) (fun c_3 => ?_)
      · refine lv_iconst (v := 0) hx hb dX2_outcomeOf_74 (by decide) ?_
        exact x_wi (0, x, v) (by unfold sX2_outcomeOf; rw [if_pos c_1]; rw [if_pos c_2]; rw [if_pos c_3]; try rfl) rfl hx hb hr hlk hS hP (hX.d rfl) [0, 1, 2] rfl rfl (Nat.le_of_ble_eq_true rfl) (Nat.le_of_ble_eq_true rfl) dX2_outcomeOf_75
      · refine lv_iconst (v := 2) hx hb dX2_outcomeOf_70 (by decide) ?_
        refine lv_goto (tgt := 75) hx hb dX2_outcomeOf_71 (by decide) ?_
        exact x_wi (2, x, v) (by unfold sX2_outcomeOf; rw [if_pos c_1]; rw [if_pos c_2]; rw [if_neg c_3]; try rfl) rfl hx hb hr hlk hS hP (hX.d rfl) [0, 1, 2] rfl rfl (Nat.le_of_ble_eq_true rfl) (Nat.le_of_ble_eq_true rfl) dX2_outcomeOf_75
  · refine lv_aload_n hx hb dX2_outcomeOf_17 rfl (lv_at hl 2 rfl) ?_
    refine lv_aload_n hx hb dX2_outcomeOf_18 rfl (lv_at hl 2 rfl) ?_
    refine va_getN (D := E.1) (ci := 1) (v := .int x) (C := RX1) (T := TX1) (N := 6) hx hb hts g_2 hown hE.1 hP 2 rfl rfl 0 (by decide) g_1 (fun _ h9 => h9) rfl dX2_outcomeOf_19 ?_
    refine lv_if_le (tgt := 29) hx hb dX2_outcomeOf_22 (by decide) (fun c_4 => ?_) (fun c_4 => ?_)
    · refine lv_iload_n hx hb dX2_outcomeOf_29 rfl (lv_at hl 0 rfl) ?_
      refine lv_ineg hx hb dX2_outcomeOf_30 ?_
      refine va_putN (D := E.1) (ci := 1) (v := .int (-(sX2_number num 0))) (ty := .int) (C := RX1) (T := TX1) (N := 6) hx hb hts g_2 tyX1 tyX1_ok nmX1 hown hE.1 hP (hX.d rfl) hS 2 rfl rfl 0 (by decide) g_1 (fun _ h9 => h9) rfl (by decide +kernel) rfl rfl (Nat.le_of_ble_eq_true rfl) dX2_outcomeOf_31 (fun H locs hP _ hS => ?_)
      have hP : va_P E.1 vwCl [(h, .inr (2, [.ref an])), (an, .inl (E.2.1, 24, .inl num)), (mo, .inr (1, [.int (-(sX2_number num 0)), .int v, .int a1, .int a2, .int w1, .int w2]))] H := hP
      refine lv_aload_n hx hb dX2_outcomeOf_34 rfl (lv_at hl 2 rfl) ?_
      refine lv_iconst (v := 0) hx hb dX2_outcomeOf_35 (by decide) ?_
      refine va_putN (D := E.1) (ci := 1) (v := .int 0) (ty := .int) (C := RX1) (T := TX1) (N := 6) hx hb hts g_2 tyX1 tyX1_ok nmX1 hown hE.1 hP (hX.d rfl) hS 2 rfl rfl 1 (by decide) g_8 (fun _ h9 => h9) rfl (by decide +kernel) rfl rfl (Nat.le_of_ble_eq_true rfl) dX2_outcomeOf_36 (fun H locs hP _ hS => ?_)
      have hP : va_P E.1 vwCl [(h, .inr (2, [.ref an])), (an, .inl (E.2.1, 24, .inl num)), (mo, .inr (1, [.int (-(sX2_number num 0)), .int 0, .int a1, .int a2, .int w1, .int w2]))] H := hP
      refine lv_iconst (v := 1) hx hb dX2_outcomeOf_39 (by decide) ?_
      exact x_wi (1, -(sX2_number num 0), 0) (by unfold sX2_outcomeOf; rw [if_neg c_1]; rw [if_pos c_4]; try rfl) rfl hx hb hr hlk hS hP (hX.d rfl) [0, 1, 2] rfl rfl (Nat.le_of_ble_eq_true rfl) (Nat.le_of_ble_eq_true rfl) dX2_outcomeOf_40
    · refine lv_iload_n hx hb dX2_outcomeOf_25 rfl (lv_at hl 0 rfl) ?_
      refine lv_goto (tgt := 31) hx hb dX2_outcomeOf_26 (by decide) ?_
      refine va_putN (D := E.1) (ci := 1) (v := .int (sX2_number num 0)) (ty := .int) (C := RX1) (T := TX1) (N := 6) hx hb hts g_2 tyX1 tyX1_ok nmX1 hown hE.1 hP (hX.d rfl) hS 2 rfl rfl 0 (by decide) g_1 (fun _ h9 => h9) rfl (by decide +kernel) rfl rfl (Nat.le_of_ble_eq_true rfl) dX2_outcomeOf_31 (fun H locs hP _ hS => ?_)
      have hP : va_P E.1 vwCl [(h, .inr (2, [.ref an])), (an, .inl (E.2.1, 24, .inl num)), (mo, .inr (1, [.int (sX2_number num 0), .int v, .int a1, .int a2, .int w1, .int w2]))] H := hP
      refine lv_aload_n hx hb dX2_outcomeOf_34 rfl (lv_at hl 2 rfl) ?_
      refine lv_iconst (v := 0) hx hb dX2_outcomeOf_35 (by decide) ?_
      refine va_putN (D := E.1) (ci := 1) (v := .int 0) (ty := .int) (C := RX1) (T := TX1) (N := 6) hx hb hts g_2 tyX1 tyX1_ok nmX1 hown hE.1 hP (hX.d rfl) hS 2 rfl rfl 1 (by decide) g_8 (fun _ h9 => h9) rfl (by decide +kernel) rfl rfl (Nat.le_of_ble_eq_true rfl) dX2_outcomeOf_36 (fun H locs hP _ hS => ?_)
      have hP : va_P E.1 vwCl [(h, .inr (2, [.ref an])), (an, .inl (E.2.1, 24, .inl num)), (mo, .inr (1, [.int (sX2_number num 0), .int 0, .int a1, .int a2, .int w1, .int w2]))] H := hP
      refine lv_iconst (v := 1) hx hb dX2_outcomeOf_39 (by decide) ?_
      exact x_wi (1, sX2_number num 0, 0) (by unfold sX2_outcomeOf; rw [if_neg c_1]; rw [if_neg c_4]; try rfl) rfl hx hb hr hlk hS hP (hX.d rfl) [0, 1, 2] rfl rfl (Nat.le_of_ble_eq_true rfl) (Nat.le_of_ble_eq_true rfl) dX2_outcomeOf_40
def sX2_makeStep_q_1 (num : Nat → Int32) (x : Int32) (v : Int32) (a1 : Int32) (a2 : Int32) (w1 : Int32) (w2 : Int32) (u : Int32) (q_1 : Int32 × Int32 × Int32) : Int32 × Int32 × Int32 × Int32 × Int32 × Int32 × Int32 :=
  (q_1.1, q_1.2.1, q_1.2.2, sX8_wrapped (a1 + ((w1 + ((sX2_speedGain num a1 a2 w1 w2 1 u) - (((sX2_number num 8) * (sX8_sineOf (a1 - a2))) / 4096))) / 16)), sX8_wrapped (a2 + ((w2 + ((sX2_speedGain num a1 a2 w1 w2 2 u) + (((sX2_number num 8) * (sX8_sineOf (a1 - a2))) / 4096))) / 16)), w1 + ((sX2_speedGain num a1 a2 w1 w2 1 u) - (((sX2_number num 8) * (sX8_sineOf (a1 - a2))) / 4096)), w2 + ((sX2_speedGain num a1 a2 w1 w2 2 u) + (((sX2_number num 8) * (sX8_sineOf (a1 - a2))) / 4096)))
def sX2_makeStep (num : Nat → Int32) (x : Int32) (v : Int32) (a1 : Int32) (a2 : Int32) (w1 : Int32) (w2 : Int32) (u : Int32) : Int32 × Int32 × Int32 × Int32 × Int32 × Int32 × Int32 :=
  sX2_makeStep_q_1 num x v a1 a2 w1 w2 u (sX2_outcomeOf num (x + ((v + u) / 8)) (v + u) (w1 + ((sX2_speedGain num a1 a2 w1 w2 1 u) - (((sX2_number num 8) * (sX8_sineOf (a1 - a2))) / 4096))) (w2 + ((sX2_speedGain num a1 a2 w1 w2 2 u) + (((sX2_number num 8) * (sX8_sineOf (a1 - a2))) / 4096))))
theorem hdX2_makeStep : yX2_makeStep.cls = RX2 ∧ yX2_makeStep.cls ≠ "java/lang/invoke/MethodHandle" ∧ yX2_makeStep.cls ≠ "java/lang/invoke/VarHandle" ∧ (parseMethodDescriptor yX2_makeStep.desc).map (fun d => d.parameters.length) = some 2 := by decide +kernel
set_option maxHeartbeats 4000000 in
set_option maxRecDepth 100000 in
theorem kX2_makeStep (l : Launch) (E : XE) (h : Nat) (an : Nat) (num : Nat → Int32) (mo : Nat) (x : Int32) (v : Int32) (a1 : Int32) (a2 : Int32) (w1 : Int32) (w2 : Int32) (u : Int32) : xW (T := Int32 × Int32 × Int32 × Int32 × Int32 × Int32 × Int32) l yX2_makeStep wsX2_makeStep ({ frames := 2, cells := 0, slots := 0, locals := 52 }) E [(h, .inr (2, [.ref an])), (an, .inl (E.2.1, 24, .inl num)), (mo, .inr (1, [.int x, .int v, .int a1, .int a2, .int w1, .int w2]))] [.ref h, .ref mo, .int u] (fun q => some (.int q.1)) (fun q => [(h, .inr (2, [.ref an])), (an, .inl (E.2.1, 24, .inl num)), (mo, .inr (1, [.int q.2.1, .int q.2.2.1, .int q.2.2.2.1, .int q.2.2.2.2.1, .int q.2.2.2.2.2.1, .int q.2.2.2.2.2.2]))]) (sX2_makeStep num x v a1 a2 w1 w2 u) 0 0 := by
  refine xW.of (cc := cX2_makeStep) (maxL := 6) (ret := (some .int)) (by decide) rfl (Nat.le_of_ble_eq_true rfl) ?_
  intro p e s m args below meth c ls A hM hE hP hD hS hA hl
  obtain ⟨hx, hb, hr, hml, hts, hown, hlk, hnm⟩ := hM
  have g_1 : (Cond.fieldLinkNest RX2 40 "RailPendulum$Motion" "a1" "I" "RailPendulum").before args s = true := va_Nw.use rfl (hE.2 (Cond.fieldLinkNest RX2 40 "RailPendulum$Motion" "a1" "I" "RailPendulum") (by decide +kernel))
  have g_2 : ∀ w ∈ wsX10, w ∈ wsX2_makeStep := by decide +kernel
  have g_3 : (Cond.fieldLinkNest RX2 50 "RailPendulum$Motion" "a2" "I" "RailPendulum").before args s = true := va_Nw.use rfl (hE.2 (Cond.fieldLinkNest RX2 50 "RailPendulum$Motion" "a2" "I" "RailPendulum") (by decide +kernel))
  have g_4 : (Cond.initialized yX8_sineOf.cls).before args s = true := hts _ (by decide +kernel)
  have g_5 : (Cond.static yX8_sineOf).before args s = true := hts (Cond.static yX8_sineOf) (by decide +kernel)
  have g_6 : va_Nw (.methodLinkNest RX2 33 yX8_sineOf "RailPendulum") s := hE.2 _ (by decide +kernel)
  have g_7 : (Cond.fieldLinkNest RX2 59 "RailPendulum$Motion" "v" "I" "RailPendulum").before args s = true := va_Nw.use rfl (hE.2 (Cond.fieldLinkNest RX2 59 "RailPendulum$Motion" "v" "I" "RailPendulum") (by decide +kernel))
  have g_8 : (Cond.fieldLinkNest RX2 47 "RailPendulum$Motion" "w1" "I" "RailPendulum").before args s = true := va_Nw.use rfl (hE.2 (Cond.fieldLinkNest RX2 47 "RailPendulum$Motion" "w1" "I" "RailPendulum") (by decide +kernel))
  have g_9 : (Cond.fieldLinkNest RX2 53 "RailPendulum$Motion" "w2" "I" "RailPendulum").before args s = true := va_Nw.use rfl (hE.2 (Cond.fieldLinkNest RX2 53 "RailPendulum$Motion" "w2" "I" "RailPendulum") (by decide +kernel))
  have g_10 : (Cond.fieldLinkNest RX2 56 "RailPendulum$Motion" "x" "I" "RailPendulum").before args s = true := va_Nw.use rfl (hE.2 (Cond.fieldLinkNest RX2 56 "RailPendulum$Motion" "x" "I" "RailPendulum") (by decide +kernel))
  have g_11 : (Cond.initialized yX8_wrapped.cls).before args s = true := hts _ (by decide +kernel)
  have g_12 : (Cond.static yX8_wrapped).before args s = true := hts (Cond.static yX8_wrapped) (by decide +kernel)
  have g_13 : va_Nw (.methodLinkNest RX2 82 yX8_wrapped "RailPendulum") s := hE.2 _ (by decide +kernel)
  have hX : xD A [h, an, mo] := xD.of hD rfl
  have hl : lv_has ls 6 [(0, .ref h), (1, .ref mo), (2, .int u)] := hl
  refine lv_aload_n hx hb dX2_makeStep_0 rfl (lv_at hl 0 rfl) ?_
  refine lv_bipush (v := 8) hx hb dX2_makeStep_1 (by decide) ?_
  refine x_rV [.int 8] (kX2_number l E h an num 8) ⟨hx, hb, hml, hown, hts⟩ (cwV 1 hts gX2_makeStep_X2_number rfl rfl rfl hdX2_number ⟨Nat.le_of_ble_eq_true rfl, Nat.le_of_ble_eq_true rfl⟩) hE hP (hX.d rfl) [0, 1] rfl rfl (ci := 2) (q0 := 0) rfl rfl rfl hl.1 rfl rfl (Nat.le_of_ble_eq_true rfl) dX2_makeStep_3 (Nat.le_of_ble_eq_true rfl) (Nat.le_of_ble_eq_true rfl) ?_
  refine lv_aload_n hx hb dX2_makeStep_6 rfl (lv_at hl 1 rfl) ?_
  refine va_getN (D := E.1) (ci := 1) (v := .int a1) (C := RX1) (T := TX1) (N := 6) hx hb hts g_2 hown hE.1 hP 2 rfl rfl 2 (by decide) g_1 (fun _ h9 => h9) rfl dX2_makeStep_7 ?_
  refine lv_aload_n hx hb dX2_makeStep_10 rfl (lv_at hl 1 rfl) ?_
  refine va_getN (D := E.1) (ci := 1) (v := .int a2) (C := RX1) (T := TX1) (N := 6) hx hb hts g_2 hown hE.1 hP 2 rfl rfl 3 (by decide) g_3 (fun _ h9 => h9) rfl dX2_makeStep_11 ?_
  refine lv_isub hx hb dX2_makeStep_14 ?_
  refine x_rSN [.int (a1 - a2)] (kX8_sineOf l E (a1 - a2)) ⟨hx, hb, hml, hown, hts⟩ ⟨va_cnB 1 hts gX2_makeStep_X8_sineOf_n33 rfl rfl rfl g_6 g_4 hdX8_sineOf.2 ⟨Nat.le_of_ble_eq_true rfl, Nat.le_of_ble_eq_true rfl⟩, g_5, trivial⟩ hE hP (hX.d rfl) [] rfl rfl hl.1 rfl rfl (Nat.le_of_ble_eq_true rfl) dX2_makeStep_15 (Nat.le_of_ble_eq_true rfl) (Nat.le_of_ble_eq_true rfl) ?_
  refine lv_imul hx hb dX2_makeStep_18 ?_
  refine lv_sipush (v := 4096) hx hb dX2_makeStep_19 (by decide) ?_
  refine lv_idiv hx hb dX2_makeStep_22 (by decide) ?_
  refine lv_istore_n (lv' := [(3, .int (((sX2_number num 8) * (sX8_sineOf (a1 - a2))) / 4096)), (0, .ref h), (1, .ref mo), (2, .int u)]) hx hb dX2_makeStep_23 rfl hl (by decide) rfl (fun ls hl => ?_)
  refine lv_aload_n hx hb dX2_makeStep_24 rfl (lv_at hl 1 rfl) ?_
  refine lv_iconst (v := 1) hx hb dX2_makeStep_25 (by decide) ?_
  refine lv_aload_n hx hb dX2_makeStep_26 rfl (lv_at hl 2 rfl) ?_
  refine lv_iload_n hx hb dX2_makeStep_27 rfl (lv_at hl 3 rfl) ?_
  refine x_rV [.int 1, .ref mo, .int u] (kX2_speedGain l E h an num mo x v a1 a2 w1 w2 1 u) ⟨hx, hb, hml, hown, hts⟩ (cwV 3 hts gX2_makeStep_X2_speedGain rfl rfl rfl hdX2_speedGain ⟨Nat.le_of_ble_eq_true rfl, Nat.le_of_ble_eq_true rfl⟩) hE hP (hX.d rfl) [0, 1, 2] rfl rfl (ci := 2) (q0 := 0) rfl rfl rfl hl.1 rfl rfl (Nat.le_of_ble_eq_true rfl) dX2_makeStep_28 (Nat.le_of_ble_eq_true rfl) (Nat.le_of_ble_eq_true rfl) ?_
  refine lv_iload_n hx hb dX2_makeStep_31 rfl (lv_at hl 0 rfl) ?_
  refine lv_isub hx hb dX2_makeStep_32 ?_
  refine lv_istore (lv' := [(4, .int ((sX2_speedGain num a1 a2 w1 w2 1 u) - (((sX2_number num 8) * (sX8_sineOf (a1 - a2))) / 4096))), (3, .int (((sX2_number num 8) * (sX8_sineOf (a1 - a2))) / 4096)), (0, .ref h), (1, .ref mo), (2, .int u)]) hx hb dX2_makeStep_33 hl (by decide) rfl (fun ls hl => ?_)
  refine lv_aload_n hx hb dX2_makeStep_35 rfl (lv_at hl 2 rfl) ?_
  refine lv_iconst (v := 2) hx hb dX2_makeStep_36 (by decide) ?_
  refine lv_aload_n hx hb dX2_makeStep_37 rfl (lv_at hl 3 rfl) ?_
  refine lv_iload_n hx hb dX2_makeStep_38 rfl (lv_at hl 4 rfl) ?_
  refine x_rV [.int 2, .ref mo, .int u] (kX2_speedGain l E h an num mo x v a1 a2 w1 w2 2 u) ⟨hx, hb, hml, hown, hts⟩ (cwV 3 hts gX2_makeStep_X2_speedGain rfl rfl rfl hdX2_speedGain ⟨Nat.le_of_ble_eq_true rfl, Nat.le_of_ble_eq_true rfl⟩) hE hP (hX.d rfl) [0, 1, 2] rfl rfl (ci := 2) (q0 := 0) rfl rfl rfl hl.1 rfl rfl (Nat.le_of_ble_eq_true rfl) dX2_makeStep_39 (Nat.le_of_ble_eq_true rfl) (Nat.le_of_ble_eq_true rfl) ?_
  refine lv_iload_n hx hb dX2_makeStep_42 rfl (lv_at hl 1 rfl) ?_
  refine lv_iadd hx hb dX2_makeStep_43 ?_
  refine lv_istore (lv' := [(5, .int ((sX2_speedGain num a1 a2 w1 w2 2 u) + (((sX2_number num 8) * (sX8_sineOf (a1 - a2))) / 4096))), (4, .int ((sX2_speedGain num a1 a2 w1 w2 1 u) - (((sX2_number num 8) * (sX8_sineOf (a1 - a2))) / 4096))), (3, .int (((sX2_number num 8) * (sX8_sineOf (a1 - a2))) / 4096)), (0, .ref h), (1, .ref mo), (2, .int u)]) hx hb dX2_makeStep_44 hl (by decide) rfl (fun ls hl => ?_)
  refine lv_aload_n hx hb dX2_makeStep_46 rfl (lv_at hl 4 rfl) ?_
  refine lv_dup hx hb dX2_makeStep_47 rfl ?_
  refine va_getN (D := E.1) (ci := 1) (v := .int v) (C := RX1) (T := TX1) (N := 6) hx hb hts g_2 hown hE.1 hP 2 rfl rfl 1 (by decide) g_7 (fun _ h9 => h9) rfl dX2_makeStep_48 ?_
  refine lv_iload_n hx hb dX2_makeStep_51 rfl (lv_at hl 5 rfl) ?_
  refine lv_iadd hx hb dX2_makeStep_52 ?_
  refine va_putN (D := E.1) (ci := 1) (v := .int (v + u)) (ty := .int) (C := RX1) (T := TX1) (N := 6) hx hb hts g_2 tyX1 tyX1_ok nmX1 hown hE.1 hP (hX.d rfl) hS 2 rfl rfl 1 (by decide) g_7 (fun _ h9 => h9) rfl (by decide +kernel) rfl rfl (Nat.le_of_ble_eq_true rfl) dX2_makeStep_53 (fun H locs hP _ hS => ?_)
  have hP : va_P E.1 vwCl [(h, .inr (2, [.ref an])), (an, .inl (E.2.1, 24, .inl num)), (mo, .inr (1, [.int x, .int (v + u), .int a1, .int a2, .int w1, .int w2]))] H := hP
  refine lv_aload_n hx hb dX2_makeStep_56 rfl (lv_at hl 4 rfl) ?_
  refine lv_dup hx hb dX2_makeStep_57 rfl ?_
  refine va_getN (D := E.1) (ci := 1) (v := .int w1) (C := RX1) (T := TX1) (N := 6) hx hb hts g_2 hown hE.1 hP 2 rfl rfl 4 (by decide) g_8 (fun _ h9 => h9) rfl dX2_makeStep_58 ?_
  refine lv_iload hx hb dX2_makeStep_61 (lv_at hl 1 rfl) ?_
  refine lv_iadd hx hb dX2_makeStep_63 ?_
  refine va_putN (D := E.1) (ci := 1) (v := .int (w1 + ((sX2_speedGain num a1 a2 w1 w2 1 u) - (((sX2_number num 8) * (sX8_sineOf (a1 - a2))) / 4096)))) (ty := .int) (C := RX1) (T := TX1) (N := 6) hx hb hts g_2 tyX1 tyX1_ok nmX1 hown hE.1 hP (hX.d rfl) hS 2 rfl rfl 4 (by decide) g_8 (fun _ h9 => h9) rfl (by decide +kernel) rfl rfl (Nat.le_of_ble_eq_true rfl) dX2_makeStep_64 (fun H locs hP _ hS => ?_)
  have hP : va_P E.1 vwCl [(h, .inr (2, [.ref an])), (an, .inl (E.2.1, 24, .inl num)), (mo, .inr (1, [.int x, .int (v + u), .int a1, .int a2, .int (w1 + ((sX2_speedGain num a1 a2 w1 w2 1 u) - (((sX2_number num 8) * (sX8_sineOf (a1 - a2))) / 4096))), .int w2]))] H := hP
  refine lv_aload_n hx hb dX2_makeStep_67 rfl (lv_at hl 4 rfl) ?_
  refine lv_dup hx hb dX2_makeStep_68 rfl ?_
  refine va_getN (D := E.1) (ci := 1) (v := .int w2) (C := RX1) (T := TX1) (N := 6) hx hb hts g_2 hown hE.1 hP 2 rfl rfl 5 (by decide) g_9 (fun _ h9 => h9) rfl dX2_makeStep_69 ?_
  refine lv_iload hx hb dX2_makeStep_72 (lv_at hl 0 rfl) ?_
  refine lv_iadd hx hb dX2_makeStep_74 ?_
  refine va_putN (D := E.1) (ci := 1) (v := .int (w2 + ((sX2_speedGain num a1 a2 w1 w2 2 u) + (((sX2_number num 8) * (sX8_sineOf (a1 - a2))) / 4096)))) (ty := .int) (C := RX1) (T := TX1) (N := 6) hx hb hts g_2 tyX1 tyX1_ok nmX1 hown hE.1 hP (hX.d rfl) hS 2 rfl rfl 5 (by decide) g_9 (fun _ h9 => h9) rfl (by decide +kernel) rfl rfl (Nat.le_of_ble_eq_true rfl) dX2_makeStep_75 (fun H locs hP _ hS => ?_)
  have hP : va_P E.1 vwCl [(h, .inr (2, [.ref an])), (an, .inl (E.2.1, 24, .inl num)), (mo, .inr (1, [.int x, .int (v + u), .int a1, .int a2, .int (w1 + ((sX2_speedGain num a1 a2 w1 w2 1 u) - (((sX2_number num 8) * (sX8_sineOf (a1 - a2))) / 4096))), .int (w2 + ((sX2_speedGain num a1 a2 w1 w2 2 u) + (((sX2_number num 8) * (sX8_sineOf (a1 - a2))) / 4096)))]))] H := hP
  refine lv_aload_n hx hb dX2_makeStep_78 rfl (lv_at hl 4 rfl) ?_
  refine lv_dup hx hb dX2_makeStep_79 rfl ?_
  refine va_getN (D := E.1) (ci := 1) (v := .int x) (C := RX1) (T := TX1) (N := 6) hx hb hts g_2 hown hE.1 hP 2 rfl rfl 0 (by decide) g_10 (fun _ h9 => h9) rfl dX2_makeStep_80 ?_
  refine lv_aload_n hx hb dX2_makeStep_83 rfl (lv_at hl 4 rfl) ?_
  refine va_getN (D := E.1) (ci := 1) (v := .int (v + u)) (C := RX1) (T := TX1) (N := 6) hx hb hts g_2 hown hE.1 hP 2 rfl rfl 1 (by decide) g_7 (fun _ h9 => h9) rfl dX2_makeStep_84 ?_
  refine lv_bipush (v := 8) hx hb dX2_makeStep_87 (by decide) ?_
  refine lv_idiv hx hb dX2_makeStep_89 (by decide) ?_
  refine lv_iadd hx hb dX2_makeStep_90 ?_
  refine va_putN (D := E.1) (ci := 1) (v := .int (x + ((v + u) / 8))) (ty := .int) (C := RX1) (T := TX1) (N := 6) hx hb hts g_2 tyX1 tyX1_ok nmX1 hown hE.1 hP (hX.d rfl) hS 2 rfl rfl 0 (by decide) g_10 (fun _ h9 => h9) rfl (by decide +kernel) rfl rfl (Nat.le_of_ble_eq_true rfl) dX2_makeStep_91 (fun H locs hP _ hS => ?_)
  have hP : va_P E.1 vwCl [(h, .inr (2, [.ref an])), (an, .inl (E.2.1, 24, .inl num)), (mo, .inr (1, [.int (x + ((v + u) / 8)), .int (v + u), .int a1, .int a2, .int (w1 + ((sX2_speedGain num a1 a2 w1 w2 1 u) - (((sX2_number num 8) * (sX8_sineOf (a1 - a2))) / 4096))), .int (w2 + ((sX2_speedGain num a1 a2 w1 w2 2 u) + (((sX2_number num 8) * (sX8_sineOf (a1 - a2))) / 4096)))]))] H := hP
  refine lv_aload_n hx hb dX2_makeStep_94 rfl (lv_at hl 4 rfl) ?_
  refine lv_aload_n hx hb dX2_makeStep_95 rfl (lv_at hl 4 rfl) ?_
  refine va_getN (D := E.1) (ci := 1) (v := .int a1) (C := RX1) (T := TX1) (N := 6) hx hb hts g_2 hown hE.1 hP 2 rfl rfl 2 (by decide) g_1 (fun _ h9 => h9) rfl dX2_makeStep_96 ?_
  refine lv_aload_n hx hb dX2_makeStep_99 rfl (lv_at hl 4 rfl) ?_
  refine va_getN (D := E.1) (ci := 1) (v := .int (w1 + ((sX2_speedGain num a1 a2 w1 w2 1 u) - (((sX2_number num 8) * (sX8_sineOf (a1 - a2))) / 4096)))) (C := RX1) (T := TX1) (N := 6) hx hb hts g_2 hown hE.1 hP 2 rfl rfl 4 (by decide) g_8 (fun _ h9 => h9) rfl dX2_makeStep_100 ?_
  refine lv_bipush (v := 16) hx hb dX2_makeStep_103 (by decide) ?_
  refine lv_idiv hx hb dX2_makeStep_105 (by decide) ?_
  refine lv_iadd hx hb dX2_makeStep_106 ?_
  refine x_rSN [.int (a1 + ((w1 + ((sX2_speedGain num a1 a2 w1 w2 1 u) - (((sX2_number num 8) * (sX8_sineOf (a1 - a2))) / 4096))) / 16))] (kX8_wrapped l E (a1 + ((w1 + ((sX2_speedGain num a1 a2 w1 w2 1 u) - (((sX2_number num 8) * (sX8_sineOf (a1 - a2))) / 4096))) / 16))) ⟨hx, hb, hml, hown, hts⟩ ⟨va_cnB 1 hts gX2_makeStep_X8_wrapped_n82 rfl rfl rfl g_13 g_11 hdX8_wrapped.2 ⟨Nat.le_of_ble_eq_true rfl, Nat.le_of_ble_eq_true rfl⟩, g_12, trivial⟩ hE hP (hX.d rfl) [] rfl rfl hl.1 rfl rfl (Nat.le_of_ble_eq_true rfl) dX2_makeStep_107 (Nat.le_of_ble_eq_true rfl) (Nat.le_of_ble_eq_true rfl) ?_
  refine va_putN (D := E.1) (ci := 1) (v := .int (sX8_wrapped (a1 + ((w1 + ((sX2_speedGain num a1 a2 w1 w2 1 u) - (((sX2_number num 8) * (sX8_sineOf (a1 - a2))) / 4096))) / 16)))) (ty := .int) (C := RX1) (T := TX1) (N := 6) hx hb hts g_2 tyX1 tyX1_ok nmX1 hown hE.1 hP (hX.d rfl) hS 2 rfl rfl 2 (by decide) g_1 (fun _ h9 => h9) rfl (by decide +kernel) rfl rfl (Nat.le_of_ble_eq_true rfl) dX2_makeStep_110 (fun H locs hP _ hS => ?_)
  have hP : va_P E.1 vwCl [(h, .inr (2, [.ref an])), (an, .inl (E.2.1, 24, .inl num)), (mo, .inr (1, [.int (x + ((v + u) / 8)), .int (v + u), .int (sX8_wrapped (a1 + ((w1 + ((sX2_speedGain num a1 a2 w1 w2 1 u) - (((sX2_number num 8) * (sX8_sineOf (a1 - a2))) / 4096))) / 16))), .int a2, .int (w1 + ((sX2_speedGain num a1 a2 w1 w2 1 u) - (((sX2_number num 8) * (sX8_sineOf (a1 - a2))) / 4096))), .int (w2 + ((sX2_speedGain num a1 a2 w1 w2 2 u) + (((sX2_number num 8) * (sX8_sineOf (a1 - a2))) / 4096)))]))] H := hP
  refine lv_aload_n hx hb dX2_makeStep_113 rfl (lv_at hl 4 rfl) ?_
  refine lv_aload_n hx hb dX2_makeStep_114 rfl (lv_at hl 4 rfl) ?_
  refine va_getN (D := E.1) (ci := 1) (v := .int a2) (C := RX1) (T := TX1) (N := 6) hx hb hts g_2 hown hE.1 hP 2 rfl rfl 3 (by decide) g_3 (fun _ h9 => h9) rfl dX2_makeStep_115 ?_
  refine lv_aload_n hx hb dX2_makeStep_118 rfl (lv_at hl 4 rfl) ?_
  refine va_getN (D := E.1) (ci := 1) (v := .int (w2 + ((sX2_speedGain num a1 a2 w1 w2 2 u) + (((sX2_number num 8) * (sX8_sineOf (a1 - a2))) / 4096)))) (C := RX1) (T := TX1) (N := 6) hx hb hts g_2 hown hE.1 hP 2 rfl rfl 5 (by decide) g_9 (fun _ h9 => h9) rfl dX2_makeStep_119 ?_
  refine lv_bipush (v := 16) hx hb dX2_makeStep_122 (by decide) ?_
  refine lv_idiv hx hb dX2_makeStep_124 (by decide) ?_
  refine lv_iadd hx hb dX2_makeStep_125 ?_
  refine x_rSN [.int (a2 + ((w2 + ((sX2_speedGain num a1 a2 w1 w2 2 u) + (((sX2_number num 8) * (sX8_sineOf (a1 - a2))) / 4096))) / 16))] (kX8_wrapped l E (a2 + ((w2 + ((sX2_speedGain num a1 a2 w1 w2 2 u) + (((sX2_number num 8) * (sX8_sineOf (a1 - a2))) / 4096))) / 16))) ⟨hx, hb, hml, hown, hts⟩ ⟨va_cnB 1 hts gX2_makeStep_X8_wrapped_n82 rfl rfl rfl g_13 g_11 hdX8_wrapped.2 ⟨Nat.le_of_ble_eq_true rfl, Nat.le_of_ble_eq_true rfl⟩, g_12, trivial⟩ hE hP (hX.d rfl) [] rfl rfl hl.1 rfl rfl (Nat.le_of_ble_eq_true rfl) dX2_makeStep_126 (Nat.le_of_ble_eq_true rfl) (Nat.le_of_ble_eq_true rfl) ?_
  refine va_putN (D := E.1) (ci := 1) (v := .int (sX8_wrapped (a2 + ((w2 + ((sX2_speedGain num a1 a2 w1 w2 2 u) + (((sX2_number num 8) * (sX8_sineOf (a1 - a2))) / 4096))) / 16)))) (ty := .int) (C := RX1) (T := TX1) (N := 6) hx hb hts g_2 tyX1 tyX1_ok nmX1 hown hE.1 hP (hX.d rfl) hS 2 rfl rfl 3 (by decide) g_3 (fun _ h9 => h9) rfl (by decide +kernel) rfl rfl (Nat.le_of_ble_eq_true rfl) dX2_makeStep_129 (fun H locs hP _ hS => ?_)
  have hP : va_P E.1 vwCl [(h, .inr (2, [.ref an])), (an, .inl (E.2.1, 24, .inl num)), (mo, .inr (1, [.int (x + ((v + u) / 8)), .int (v + u), .int (sX8_wrapped (a1 + ((w1 + ((sX2_speedGain num a1 a2 w1 w2 1 u) - (((sX2_number num 8) * (sX8_sineOf (a1 - a2))) / 4096))) / 16))), .int (sX8_wrapped (a2 + ((w2 + ((sX2_speedGain num a1 a2 w1 w2 2 u) + (((sX2_number num 8) * (sX8_sineOf (a1 - a2))) / 4096))) / 16))), .int (w1 + ((sX2_speedGain num a1 a2 w1 w2 1 u) - (((sX2_number num 8) * (sX8_sineOf (a1 - a2))) / 4096))), .int (w2 + ((sX2_speedGain num a1 a2 w1 w2 2 u) + (((sX2_number num 8) * (sX8_sineOf (a1 - a2))) / 4096)))]))] H := hP
  refine lv_aload_n hx hb dX2_makeStep_132 rfl (lv_at hl 3 rfl) ?_
  refine lv_aload_n hx hb dX2_makeStep_133 rfl (lv_at hl 4 rfl) ?_
  refine x_wV (wr := []) [.ref mo] (kX2_outcomeOf l E h an num mo (x + ((v + u) / 8)) (v + u) (sX8_wrapped (a1 + ((w1 + ((sX2_speedGain num a1 a2 w1 w2 1 u) - (((sX2_number num 8) * (sX8_sineOf (a1 - a2))) / 4096))) / 16))) (sX8_wrapped (a2 + ((w2 + ((sX2_speedGain num a1 a2 w1 w2 2 u) + (((sX2_number num 8) * (sX8_sineOf (a1 - a2))) / 4096))) / 16))) (w1 + ((sX2_speedGain num a1 a2 w1 w2 1 u) - (((sX2_number num 8) * (sX8_sineOf (a1 - a2))) / 4096))) (w2 + ((sX2_speedGain num a1 a2 w1 w2 2 u) + (((sX2_number num 8) * (sX8_sineOf (a1 - a2))) / 4096)))) ⟨hx, hb, hml, hown, hts⟩ (cwV 1 hts gX2_makeStep_X2_outcomeOf rfl rfl rfl hdX2_outcomeOf ⟨Nat.le_of_ble_eq_true rfl, Nat.le_of_ble_eq_true rfl⟩) hE hP (hX.d rfl) hS hA [0, 1, 2] [] rfl rfl rfl rfl (by decide) (ci := 2) (q0 := 0) rfl rfl rfl hl.1 rfl rfl (Nat.le_of_ble_eq_true rfl) dX2_makeStep_134 (Nat.le_of_ble_eq_true rfl) (Nat.le_of_ble_eq_true rfl) (fun q_1 H locs hq_1 hP hD hS => ?_)
  have hP : va_P E.1 vwCl [(h, .inr (2, [.ref an])), (an, .inl (E.2.1, 24, .inl num)), (mo, .inr (1, [.int q_1.2.1, .int q_1.2.2, .int (sX8_wrapped (a1 + ((w1 + ((sX2_speedGain num a1 a2 w1 w2 1 u) - (((sX2_number num 8) * (sX8_sineOf (a1 - a2))) / 4096))) / 16))), .int (sX8_wrapped (a2 + ((w2 + ((sX2_speedGain num a1 a2 w1 w2 2 u) + (((sX2_number num 8) * (sX8_sineOf (a1 - a2))) / 4096))) / 16))), .int (w1 + ((sX2_speedGain num a1 a2 w1 w2 1 u) - (((sX2_number num 8) * (sX8_sineOf (a1 - a2))) / 4096))), .int (w2 + ((sX2_speedGain num a1 a2 w1 w2 2 u) + (((sX2_number num 8) * (sX8_sineOf (a1 - a2))) / 4096)))]))] H := hP
  have hX : xD A [h, an, mo] := xD.of hD rfl
  refine W.eq (g2 := F0 m 137 ls [.int q_1.1]) rfl ?_
  exact x_wi (q_1.1, q_1.2.1, q_1.2.2, sX8_wrapped (a1 + ((w1 + ((sX2_speedGain num a1 a2 w1 w2 1 u) - (((sX2_number num 8) * (sX8_sineOf (a1 - a2))) / 4096))) / 16)), sX8_wrapped (a2 + ((w2 + ((sX2_speedGain num a1 a2 w1 w2 2 u) + (((sX2_number num 8) * (sX8_sineOf (a1 - a2))) / 4096))) / 16)), w1 + ((sX2_speedGain num a1 a2 w1 w2 1 u) - (((sX2_number num 8) * (sX8_sineOf (a1 - a2))) / 4096)), w2 + ((sX2_speedGain num a1 a2 w1 w2 2 u) + (((sX2_number num 8) * (sX8_sineOf (a1 - a2))) / 4096))) (by unfold sX2_makeStep; rw [← hq_1]; unfold sX2_makeStep_q_1; try rfl) rfl hx hb hr hlk hS hP (hX.d rfl) [0, 1, 2] rfl rfl (Nat.le_of_ble_eq_true rfl) (Nat.le_of_ble_eq_true rfl) dX2_makeStep_137
def sX2_leansBeyond (num : Nat → Int32) (a1 : Int32) (a2 : Int32) (limit : Int32) : Int32 :=
  if (sX8_isBeyond (sX8_leanOf a1) (sX2_number num limit)) = 0 then
    if (sX8_isBeyond (sX8_leanOf a2) (sX2_number num limit)) = 0 then
      0
    else
      1
  else
    1
theorem hdX2_leansBeyond : yX2_leansBeyond.cls = RX2 ∧ yX2_leansBeyond.cls ≠ "java/lang/invoke/MethodHandle" ∧ yX2_leansBeyond.cls ≠ "java/lang/invoke/VarHandle" ∧ (parseMethodDescriptor yX2_leansBeyond.desc).map (fun d => d.parameters.length) = some 2 := by decide +kernel
set_option maxHeartbeats 4000000 in
set_option maxRecDepth 100000 in
theorem kX2_leansBeyond (l : Launch) (E : XE) (h : Nat) (an : Nat) (num : Nat → Int32) (mo : Nat) (x : Int32) (v : Int32) (a1 : Int32) (a2 : Int32) (w1 : Int32) (w2 : Int32) (limit : Int32) : xR l yX2_leansBeyond wsX2_leansBeyond ({ frames := 1, cells := 0, slots := 0, locals := 21 }) E [(h, .inr (2, [.ref an])), (an, .inl (E.2.1, 24, .inl num)), (mo, .inr (1, [.int x, .int v, .int a1, .int a2, .int w1, .int w2]))] [.ref h, .ref mo, .int limit] (.int (sX2_leansBeyond num a1 a2 limit)) := by
  refine xR.of (cc := cX2_leansBeyond) (maxL := 4) (ret := (some .boolean)) (by decide) rfl (Nat.le_of_ble_eq_true rfl) ?_
  intro p e s m args below meth c ls hM hE hP hD hl
  obtain ⟨hx, hb, hr, hml, hts, hown, hlk, hnm⟩ := hM
  have g_1 : (Cond.fieldLinkNest RX2 40 "RailPendulum$Motion" "a1" "I" "RailPendulum").before args s = true := va_Nw.use rfl (hE.2 (Cond.fieldLinkNest RX2 40 "RailPendulum$Motion" "a1" "I" "RailPendulum") (by decide +kernel))
  have g_2 : ∀ w ∈ wsX10, w ∈ wsX2_leansBeyond := by decide +kernel
  have g_3 : (Cond.initialized yX8_leanOf.cls).before args s = true := hts _ (by decide +kernel)
  have g_4 : (Cond.static yX8_leanOf).before args s = true := hts (Cond.static yX8_leanOf) (by decide +kernel)
  have g_5 : va_Nw (.methodLinkNest RX2 44 yX8_leanOf "RailPendulum") s := hE.2 _ (by decide +kernel)
  have g_6 : (Cond.initialized yX8_isBeyond.cls).before args s = true := hts _ (by decide +kernel)
  have g_7 : (Cond.static yX8_isBeyond).before args s = true := hts (Cond.static yX8_isBeyond) (by decide +kernel)
  have g_8 : va_Nw (.methodLinkNest RX2 89 yX8_isBeyond "RailPendulum") s := hE.2 _ (by decide +kernel)
  have g_9 : (Cond.fieldLinkNest RX2 50 "RailPendulum$Motion" "a2" "I" "RailPendulum").before args s = true := va_Nw.use rfl (hE.2 (Cond.fieldLinkNest RX2 50 "RailPendulum$Motion" "a2" "I" "RailPendulum") (by decide +kernel))
  have hl : lv_has ls 4 [(0, .ref h), (1, .ref mo), (2, .int limit)] := hl
  refine lv_aload_n hx hb dX2_leansBeyond_0 rfl (lv_at hl 0 rfl) ?_
  refine lv_iload_n hx hb dX2_leansBeyond_1 rfl (lv_at hl 2 rfl) ?_
  refine x_rV [.int limit] (kX2_number l E h an num limit) ⟨hx, hb, hml, hown, hts⟩ (cwV 1 hts gX2_leansBeyond_X2_number rfl rfl rfl hdX2_number ⟨Nat.le_of_ble_eq_true rfl, Nat.le_of_ble_eq_true rfl⟩) hE hP hD [0, 1] rfl rfl (ci := 2) (q0 := 0) rfl rfl rfl hl.1 rfl rfl (Nat.le_of_ble_eq_true rfl) dX2_leansBeyond_2 (Nat.le_of_ble_eq_true rfl) (Nat.le_of_ble_eq_true rfl) ?_
  refine lv_istore_n (lv' := [(3, .int (sX2_number num limit)), (0, .ref h), (1, .ref mo), (2, .int limit)]) hx hb dX2_leansBeyond_5 rfl hl (by decide) rfl (fun ls hl => ?_)
  refine lv_aload_n hx hb dX2_leansBeyond_6 rfl (lv_at hl 2 rfl) ?_
  refine va_getN (D := E.1) (ci := 1) (v := .int a1) (C := RX1) (T := TX1) (N := 6) hx hb hts g_2 hown hE.1 hP 2 rfl rfl 2 (by decide) g_1 (fun _ h9 => h9) rfl dX2_leansBeyond_7 ?_
  refine x_rSN [.int a1] (kX8_leanOf l E a1) ⟨hx, hb, hml, hown, hts⟩ ⟨va_cnB 1 hts gX2_leansBeyond_X8_leanOf_n44 rfl rfl rfl g_5 g_3 hdX8_leanOf.2 ⟨Nat.le_of_ble_eq_true rfl, Nat.le_of_ble_eq_true rfl⟩, g_4, trivial⟩ hE hP hD [] rfl rfl hl.1 rfl rfl (Nat.le_of_ble_eq_true rfl) dX2_leansBeyond_10 (Nat.le_of_ble_eq_true rfl) (Nat.le_of_ble_eq_true rfl) ?_
  refine lv_iload_n hx hb dX2_leansBeyond_13 rfl (lv_at hl 0 rfl) ?_
  refine x_rSN [.int (sX8_leanOf a1), .int (sX2_number num limit)] (kX8_isBeyond l E (sX8_leanOf a1) (sX2_number num limit)) ⟨hx, hb, hml, hown, hts⟩ ⟨va_cnB 2 hts gX2_leansBeyond_X8_isBeyond_n89 rfl rfl rfl g_8 g_6 hdX8_isBeyond.2 ⟨Nat.le_of_ble_eq_true rfl, Nat.le_of_ble_eq_true rfl⟩, g_7, trivial⟩ hE hP hD [] rfl rfl hl.1 rfl rfl (Nat.le_of_ble_eq_true rfl) dX2_leansBeyond_14 (Nat.le_of_ble_eq_true rfl) (Nat.le_of_ble_eq_true rfl) ?_
  refine lv_if_ne (tgt := 34) hx hb dX2_leansBeyond_17 (by decide) (fun c_1 => ?_) (fun c_1 => ?_)
  · refine lv_iconst (v := 1) hx hb dX2_leansBeyond_34 (by decide) ?_
    refine lv_goto (tgt := 39) hx hb dX2_leansBeyond_35 (by decide) ?_
    exact x_zr (by unfold sX2_leansBeyond; rw [if_neg c_1]; try rfl) hx hb hr hlk rfl dX2_leansBeyond_39
  · refine lv_aload_n hx hb dX2_leansBeyond_20 rfl (lv_at hl 2 rfl) ?_
    refine va_getN (D := E.1) (ci := 1) (v := .int a2) (C := RX1) (T := TX1) (N := 6) hx hb hts g_2 hown hE.1 hP 2 rfl rfl 3 (by decide) g_9 (fun _ h9 => h9) rfl dX2_leansBeyond_21 ?_
    refine x_rSN [.int a2] (kX8_leanOf l E a2) ⟨hx, hb, hml, hown, hts⟩ ⟨va_cnB 1 hts gX2_leansBeyond_X8_leanOf_n44 rfl rfl rfl g_5 g_3 hdX8_leanOf.2 ⟨Nat.le_of_ble_eq_true rfl, Nat.le_of_ble_eq_true rfl⟩, g_4, trivial⟩ hE hP hD [] rfl rfl hl.1 rfl rfl (Nat.le_of_ble_eq_true rfl) dX2_leansBeyond_24 (Nat.le_of_ble_eq_true rfl) (Nat.le_of_ble_eq_true rfl) ?_
    refine lv_iload_n hx hb dX2_leansBeyond_27 rfl (lv_at hl 0 rfl) ?_
    refine x_rSN [.int (sX8_leanOf a2), .int (sX2_number num limit)] (kX8_isBeyond l E (sX8_leanOf a2) (sX2_number num limit)) ⟨hx, hb, hml, hown, hts⟩ ⟨va_cnB 2 hts gX2_leansBeyond_X8_isBeyond_n89 rfl rfl rfl g_8 g_6 hdX8_isBeyond.2 ⟨Nat.le_of_ble_eq_true rfl, Nat.le_of_ble_eq_true rfl⟩, g_7, trivial⟩ hE hP hD [] rfl rfl hl.1 rfl rfl (Nat.le_of_ble_eq_true rfl) dX2_leansBeyond_28 (Nat.le_of_ble_eq_true rfl) (Nat.le_of_ble_eq_true rfl) ?_
    refine lv_if_eq (tgt := 38) hx hb dX2_leansBeyond_31 (by decide) (fun c_2 => ?_) (fun c_2 => ?_)
    · refine lv_iconst (v := 0) hx hb dX2_leansBeyond_38 (by decide) ?_
      exact x_zr (by unfold sX2_leansBeyond; rw [if_pos c_1]; rw [if_pos c_2]; try rfl) hx hb hr hlk rfl dX2_leansBeyond_39
    · refine lv_iconst (v := 1) hx hb dX2_leansBeyond_34 (by decide) ?_
      refine lv_goto (tgt := 39) hx hb dX2_leansBeyond_35 (by decide) ?_
      exact x_zr (by unfold sX2_leansBeyond; rw [if_pos c_1]; rw [if_neg c_2]; try rfl) hx hb hr hlk rfl dX2_leansBeyond_39
def sX2_hasCell (num : Nat → Int32) (i : Int32) (j : Int32) : Int32 :=
  if (sX8_isBeyond i (sX2_number num 17)) = 0 then
    if (sX8_isBeyond j (sX2_number num 17)) = 0 then
      1
    else
      0
  else
    0
theorem hdX2_hasCell : yX2_hasCell.cls = RX2 ∧ yX2_hasCell.cls ≠ "java/lang/invoke/MethodHandle" ∧ yX2_hasCell.cls ≠ "java/lang/invoke/VarHandle" ∧ (parseMethodDescriptor yX2_hasCell.desc).map (fun d => d.parameters.length) = some 2 := by decide +kernel
set_option maxHeartbeats 4000000 in
set_option maxRecDepth 100000 in
theorem kX2_hasCell (l : Launch) (E : XE) (h : Nat) (an : Nat) (num : Nat → Int32) (i : Int32) (j : Int32) : xR l yX2_hasCell wsX2_hasCell ({ frames := 1, cells := 0, slots := 0, locals := 21 }) E [(h, .inr (2, [.ref an])), (an, .inl (E.2.1, 24, .inl num))] [.ref h, .int i, .int j] (.int (sX2_hasCell num i j)) := by
  refine xR.of (cc := cX2_hasCell) (maxL := 4) (ret := (some .boolean)) (by decide) rfl (Nat.le_of_ble_eq_true rfl) ?_
  intro p e s m args below meth c ls hM hE hP hD hl
  obtain ⟨hx, hb, hr, hml, hts, hown, hlk, hnm⟩ := hM
  have g_1 : (Cond.initialized yX8_isBeyond.cls).before args s = true := hts _ (by decide +kernel)
  have g_2 : (Cond.static yX8_isBeyond).before args s = true := hts (Cond.static yX8_isBeyond) (by decide +kernel)
  have g_3 : va_Nw (.methodLinkNest RX2 89 yX8_isBeyond "RailPendulum") s := hE.2 _ (by decide +kernel)
  have hl : lv_has ls 4 [(0, .ref h), (1, .int i), (2, .int j)] := hl
  refine lv_aload_n hx hb dX2_hasCell_0 rfl (lv_at hl 0 rfl) ?_
  refine lv_bipush (v := 17) hx hb dX2_hasCell_1 (by decide) ?_
  refine x_rV [.int 17] (kX2_number l E h an num 17) ⟨hx, hb, hml, hown, hts⟩ (cwV 1 hts gX2_hasCell_X2_number rfl rfl rfl hdX2_number ⟨Nat.le_of_ble_eq_true rfl, Nat.le_of_ble_eq_true rfl⟩) hE hP hD [0, 1] rfl rfl (ci := 2) (q0 := 0) rfl rfl rfl hl.1 rfl rfl (Nat.le_of_ble_eq_true rfl) dX2_hasCell_3 (Nat.le_of_ble_eq_true rfl) (Nat.le_of_ble_eq_true rfl) ?_
  refine lv_istore_n (lv' := [(3, .int (sX2_number num 17)), (0, .ref h), (1, .int i), (2, .int j)]) hx hb dX2_hasCell_6 rfl hl (by decide) rfl (fun ls hl => ?_)
  refine lv_iload_n hx hb dX2_hasCell_7 rfl (lv_at hl 2 rfl) ?_
  refine lv_iload_n hx hb dX2_hasCell_8 rfl (lv_at hl 0 rfl) ?_
  refine x_rSN [.int i, .int (sX2_number num 17)] (kX8_isBeyond l E i (sX2_number num 17)) ⟨hx, hb, hml, hown, hts⟩ ⟨va_cnB 2 hts gX2_hasCell_X8_isBeyond_n89 rfl rfl rfl g_3 g_1 hdX8_isBeyond.2 ⟨Nat.le_of_ble_eq_true rfl, Nat.le_of_ble_eq_true rfl⟩, g_2, trivial⟩ hE hP hD [] rfl rfl hl.1 rfl rfl (Nat.le_of_ble_eq_true rfl) dX2_hasCell_9 (Nat.le_of_ble_eq_true rfl) (Nat.le_of_ble_eq_true rfl) ?_
  refine lv_if_ne (tgt := 27) hx hb dX2_hasCell_12 (by decide) (fun c_1 => ?_) (fun c_1 => ?_)
  · refine lv_iconst (v := 0) hx hb dX2_hasCell_27 (by decide) ?_
    exact x_zr (by unfold sX2_hasCell; rw [if_neg c_1]; try rfl) hx hb hr hlk rfl dX2_hasCell_28
  · refine lv_iload_n hx hb dX2_hasCell_15 rfl (lv_at hl 3 rfl) ?_
    refine lv_iload_n hx hb dX2_hasCell_16 rfl (lv_at hl 0 rfl) ?_
    refine x_rSN [.int j, .int (sX2_number num 17)] (kX8_isBeyond l E j (sX2_number num 17)) ⟨hx, hb, hml, hown, hts⟩ ⟨va_cnB 2 hts gX2_hasCell_X8_isBeyond_n89 rfl rfl rfl g_3 g_1 hdX8_isBeyond.2 ⟨Nat.le_of_ble_eq_true rfl, Nat.le_of_ble_eq_true rfl⟩, g_2, trivial⟩ hE hP hD [] rfl rfl hl.1 rfl rfl (Nat.le_of_ble_eq_true rfl) dX2_hasCell_17 (Nat.le_of_ble_eq_true rfl) (Nat.le_of_ble_eq_true rfl) ?_
    refine lv_if_ne (tgt := 27) hx hb dX2_hasCell_20 (by decide) (fun c_2 => ?_) (fun c_2 => ?_)
    · refine lv_iconst (v := 0) hx hb dX2_hasCell_27 (by decide) ?_
      exact x_zr (by unfold sX2_hasCell; rw [if_pos c_1]; rw [if_neg c_2]; try rfl) hx hb hr hlk rfl dX2_hasCell_28
    · refine lv_iconst (v := 1) hx hb dX2_hasCell_23 (by decide) ?_
      refine lv_goto (tgt := 28) hx hb dX2_hasCell_24 (by decide) ?_
      exact x_zr (by unfold sX2_hasCell; rw [if_pos c_1]; rw [if_pos c_2]; try rfl) hx hb hr hlk rfl dX2_hasCell_28
def sJ9_floorDiv_7cf53 (x : Int32) (y : Int32) : Int32 :=
  if 0 ≤ (x ^^^ y) then
    x / y
  else
    if ((x / y) * y) = x then
      x / y
    else
      (x / y) - 1
theorem hdJ9_floorDiv_7cf53 : yJ9_floorDiv_7cf53.cls = RJ9 ∧ yJ9_floorDiv_7cf53.cls ≠ "java/lang/invoke/MethodHandle" ∧ yJ9_floorDiv_7cf53.cls ≠ "java/lang/invoke/VarHandle" ∧ (parseMethodDescriptor yJ9_floorDiv_7cf53.desc).map (fun d => d.parameters.length) = some 2 := by decide +kernel
set_option maxHeartbeats 4000000 in
set_option maxRecDepth 100000 in
theorem kJ9_floorDiv_7cf53 (l : Launch) (E : XE) (x : Int32) (y : Int32) (hy : ¬ y = 0) : xR l yJ9_floorDiv_7cf53 wsJ9_floorDiv_7cf53 ({ frames := 0, cells := 0, slots := 0, locals := 0 }) E [] [.int x, .int y] (.int (sJ9_floorDiv_7cf53 x y)) := by
  refine xR.ofF (cc := cJ9_floorDiv_7cf53) (maxL := 3) (ret := (some .int)) x_floorPlain rfl (Nat.le_of_ble_eq_true rfl) ?_
  intro p e s m args below meth c ls hM hE hP hD hl
  obtain ⟨hx, hb, hr, hml, hts, hown, hlk, hnm⟩ := hM
  have hl : lv_has ls 3 [(0, .int x), (1, .int y)] := hl
  refine lv_iload_n hx hb dJ9_floorDiv_7cf53_0 rfl (lv_at hl 0 rfl) ?_
  refine lv_iload_n hx hb dJ9_floorDiv_7cf53_1 rfl (lv_at hl 1 rfl) ?_
  refine lv_idiv hx hb dJ9_floorDiv_7cf53_2 hy ?_
  refine lv_istore_n (lv' := [(2, .int (x / y)), (0, .int x), (1, .int y)]) hx hb dJ9_floorDiv_7cf53_3 rfl hl (by decide) rfl (fun ls hl => ?_)
  refine lv_iload_n hx hb dJ9_floorDiv_7cf53_4 rfl (lv_at hl 1 rfl) ?_
  refine lv_iload_n hx hb dJ9_floorDiv_7cf53_5 rfl (lv_at hl 2 rfl) ?_
  refine lv_ixor hx hb dJ9_floorDiv_7cf53_6 ?_
  refine lv_if_ge (tgt := 21) hx hb dJ9_floorDiv_7cf53_7 (by decide) (fun c_1 => ?_) (fun c_1 => ?_)
  · refine lv_iload_n hx hb dJ9_floorDiv_7cf53_21 rfl (lv_at hl 0 rfl) ?_
    exact x_ir (by unfold sJ9_floorDiv_7cf53; rw [if_pos c_1]; try rfl) hx hb hr hlk dJ9_floorDiv_7cf53_22
  · refine lv_iload_n hx hb dJ9_floorDiv_7cf53_10 rfl (lv_at hl 0 rfl) ?_
    refine lv_iload_n hx hb dJ9_floorDiv_7cf53_11 rfl (lv_at hl 2 rfl) ?_
    refine lv_imul hx hb dJ9_floorDiv_7cf53_12 ?_
    refine lv_iload_n hx hb dJ9_floorDiv_7cf53_13 rfl (lv_at hl 1 rfl) ?_
    refine lv_icmp_eq (tgt := 21) hx hb dJ9_floorDiv_7cf53_14 (by decide) (fun c_2 => ?_) (fun c_2 => ?_)
    · refine lv_iload_n hx hb dJ9_floorDiv_7cf53_21 rfl (lv_at hl 0 rfl) ?_
      exact x_ir (by unfold sJ9_floorDiv_7cf53; rw [if_neg c_1]; rw [if_pos c_2]; try rfl) hx hb hr hlk dJ9_floorDiv_7cf53_22
    · refine lv_iload_n hx hb dJ9_floorDiv_7cf53_17 rfl (lv_at hl 0 rfl) ?_
      refine lv_iconst (v := 1) hx hb dJ9_floorDiv_7cf53_18 (by decide) ?_
      refine lv_isub hx hb dJ9_floorDiv_7cf53_19 ?_
      exact x_ir (by unfold sJ9_floorDiv_7cf53; rw [if_neg c_1]; rw [if_neg c_2]; try rfl) hx hb hr hlk dJ9_floorDiv_7cf53_20
def sX2_nearestCell (amount : Int32) (size : Int32) : Int32 :=
  if size ≤ 0 then
    0
  else
    sJ9_floorDiv_7cf53 ((2 * amount) + size) (2 * size)
def sX2_cellOfAngle (num : Nat → Int32) (angle : Int32) : Int32 :=
  sX2_nearestCell (sX8_leanOf angle) (sX2_number num 15)
def sX2_cellOfSpeed (num : Nat → Int32) (speed : Int32) : Int32 :=
  sX2_nearestCell speed (sX2_number num 16)
theorem hdX2_cellPart : yX2_cellPart.cls = RX2 ∧ yX2_cellPart.cls ≠ "java/lang/invoke/MethodHandle" ∧ yX2_cellPart.cls ≠ "java/lang/invoke/VarHandle" ∧ (parseMethodDescriptor yX2_cellPart.desc).map (fun d => d.parameters.length) = some 3 := by decide +kernel
set_option maxHeartbeats 4000000 in
set_option maxRecDepth 100000 in
theorem kX2_cellPart_0 (l : Launch) (E : XE) (h : Nat) (an : Nat) (num : Nat → Int32) (mo : Nat) (x : Int32) (v : Int32) (a1 : Int32) (a2 : Int32) (w1 : Int32) (w2 : Int32) (link : Int32) (hz : 0 < sX2_number num 15 → ¬ 2 * sX2_number num 15 = 0) : xR l yX2_cellPart wsX2_cellPart ({ frames := 1, cells := 0, slots := 0, locals := 22 }) E [(h, .inr (2, [.ref an])), (an, .inl (E.2.1, 24, .inl num)), (mo, .inr (1, [.int x, .int v, .int a1, .int a2, .int w1, .int w2]))] [.ref h, .ref mo, .int link, .int 0] (.int (sX2_cellOfAngle num (sX1_angleOf a1 a2 link))) := by
  refine xR.of (cc := cX2_cellPart) (maxL := 6) (ret := (some .int)) (by decide) rfl (Nat.le_of_ble_eq_true rfl) ?_
  intro p e s m args below meth c ls hM hE hP hD hl
  obtain ⟨hx, hb, hr, hml, hts, hown, hlk, hnm⟩ := hM
  have g_1 : (Cond.initialized yX8_leanOf.cls).before args s = true := hts _ (by decide +kernel)
  have g_2 : (Cond.static yX8_leanOf).before args s = true := hts (Cond.static yX8_leanOf) (by decide +kernel)
  have g_3 : va_Nw (.methodLinkNest RX2 44 yX8_leanOf "RailPendulum") s := hE.2 _ (by decide +kernel)
  have hl : lv_has ls 6 [(0, .ref h), (1, .ref mo), (2, .int link), (3, .int 0)] := hl
  refine lv_iload_n hx hb dX2_cellPart_0 rfl (lv_at hl 3 rfl) ?_
  refine lv_if_ne (tgt := 15) hx hb dX2_cellPart_1 (by decide) (fun c_1 => absurd rfl c_1) (fun c_1 => ?_)
  refine lv_aload_n hx hb dX2_cellPart_4 rfl (lv_at hl 1 rfl) ?_
  refine lv_iload_n hx hb dX2_cellPart_5 rfl (lv_at hl 2 rfl) ?_
  refine x_rV [.int link] (kX1_angleOf l E mo x v a1 a2 w1 w2 link) ⟨hx, hb, hml, hown, hts⟩ (cwV 1 hts gX2_cellPart_X1_angleOf rfl rfl rfl hdX1_angleOf ⟨Nat.le_of_ble_eq_true rfl, Nat.le_of_ble_eq_true rfl⟩) hE hP hD [2] rfl rfl (ci := 1) (q0 := 2) rfl rfl rfl hl.1 rfl rfl (Nat.le_of_ble_eq_true rfl) dX2_cellPart_6 (Nat.le_of_ble_eq_true rfl) (Nat.le_of_ble_eq_true rfl) ?_
  refine x_rSN [.int (sX1_angleOf a1 a2 link)] (kX8_leanOf l E (sX1_angleOf a1 a2 link)) ⟨hx, hb, hml, hown, hts⟩ ⟨va_cnB 1 hts gX2_cellPart_X8_leanOf_n44 rfl rfl rfl g_3 g_1 hdX8_leanOf.2 ⟨Nat.le_of_ble_eq_true rfl, Nat.le_of_ble_eq_true rfl⟩, g_2, trivial⟩ hE hP hD [] rfl rfl hl.1 rfl rfl (Nat.le_of_ble_eq_true rfl) dX2_cellPart_9 (Nat.le_of_ble_eq_true rfl) (Nat.le_of_ble_eq_true rfl) ?_
  refine lv_goto (tgt := 20) hx hb dX2_cellPart_12 (by decide) ?_
  refine lv_istore (lv' := [(4, .int (sX8_leanOf (sX1_angleOf a1 a2 link))), (0, .ref h), (1, .ref mo), (2, .int link), (3, .int 0)]) hx hb dX2_cellPart_20 hl (by decide) rfl (fun ls hl => ?_)
  refine lv_aload_n hx hb dX2_cellPart_22 rfl (lv_at hl 1 rfl) ?_
  refine lv_iload_n hx hb dX2_cellPart_23 rfl (lv_at hl 4 rfl) ?_
  refine lv_if_ne (tgt := 32) hx hb dX2_cellPart_24 (by decide) (fun c_2 => absurd rfl c_2) (fun c_2 => ?_)
  refine lv_bipush (v := 15) hx hb dX2_cellPart_27 (by decide) ?_
  refine lv_goto (tgt := 34) hx hb dX2_cellPart_29 (by decide) ?_
  refine x_rV [.int 15] (kX2_number l E h an num 15) ⟨hx, hb, hml, hown, hts⟩ (cwV 1 hts gX2_cellPart_X2_number rfl rfl rfl hdX2_number ⟨Nat.le_of_ble_eq_true rfl, Nat.le_of_ble_eq_true rfl⟩) hE hP hD [0, 1] rfl rfl (ci := 2) (q0 := 0) rfl rfl rfl hl.1 rfl rfl (Nat.le_of_ble_eq_true rfl) dX2_cellPart_34 (Nat.le_of_ble_eq_true rfl) (Nat.le_of_ble_eq_true rfl) ?_
  refine lv_istore (lv' := [(5, .int (sX2_number num 15)), (4, .int (sX8_leanOf (sX1_angleOf a1 a2 link))), (0, .ref h), (1, .ref mo), (2, .int link), (3, .int 0)]) hx hb dX2_cellPart_37 hl (by decide) rfl (fun ls hl => ?_)
  refine lv_iload hx hb dX2_cellPart_39 (lv_at hl 0 rfl) ?_
  refine lv_if_le (tgt := 61) hx hb dX2_cellPart_41 (by decide) (fun c_3 => ?_) (fun c_3 => ?_)
  · refine lv_iconst (v := 0) hx hb dX2_cellPart_61 (by decide) ?_
    exact x_ir (by unfold sX2_cellOfAngle sX2_nearestCell; rw [if_pos c_3]; try rfl) hx hb hr hlk dX2_cellPart_62
  · refine lv_iconst (v := 2) hx hb dX2_cellPart_44 (by decide) ?_
    refine lv_iload hx hb dX2_cellPart_45 (lv_at hl 1 rfl) ?_
    refine lv_imul hx hb dX2_cellPart_47 ?_
    refine lv_iload hx hb dX2_cellPart_48 (lv_at hl 0 rfl) ?_
    refine lv_iadd hx hb dX2_cellPart_50 ?_
    refine lv_iconst (v := 2) hx hb dX2_cellPart_51 (by decide) ?_
    refine lv_iload hx hb dX2_cellPart_52 (lv_at hl 0 rfl) ?_
    refine lv_imul hx hb dX2_cellPart_54 ?_
    refine x_rS [.int ((2 * (sX8_leanOf (sX1_angleOf a1 a2 link))) + (sX2_number num 15)), .int (2 * (sX2_number num 15))] (kJ9_floorDiv_7cf53 l E ((2 * (sX8_leanOf (sX1_angleOf a1 a2 link))) + (sX2_number num 15)) (2 * (sX2_number num 15)) (hz (Int32.not_le.mp c_3))) ⟨hx, hb, hml, hown, hts⟩ (va_cwS 2 hts gX2_cellPart_J9_floorDiv_7cf53 rfl rfl rfl hdJ9_floorDiv_7cf53.2 ⟨Nat.le_of_ble_eq_true rfl, Nat.le_of_ble_eq_true rfl⟩) hE hP hD [] rfl rfl hl.1 rfl rfl (Nat.le_of_ble_eq_true rfl) dX2_cellPart_55 (Nat.le_of_ble_eq_true rfl) (Nat.le_of_ble_eq_true rfl) ?_
    refine lv_goto (tgt := 62) hx hb dX2_cellPart_58 (by decide) ?_
    exact x_ir (by unfold sX2_cellOfAngle sX2_nearestCell; rw [if_neg c_3]; try rfl) hx hb hr hlk dX2_cellPart_62
set_option maxHeartbeats 4000000 in
set_option maxRecDepth 100000 in
theorem kX2_cellPart_1 (l : Launch) (E : XE) (h : Nat) (an : Nat) (num : Nat → Int32) (mo : Nat) (x : Int32) (v : Int32) (a1 : Int32) (a2 : Int32) (w1 : Int32) (w2 : Int32) (link : Int32) (hz : 0 < sX2_number num 16 → ¬ 2 * sX2_number num 16 = 0) : xR l yX2_cellPart wsX2_cellPart ({ frames := 1, cells := 0, slots := 0, locals := 22 }) E [(h, .inr (2, [.ref an])), (an, .inl (E.2.1, 24, .inl num)), (mo, .inr (1, [.int x, .int v, .int a1, .int a2, .int w1, .int w2]))] [.ref h, .ref mo, .int link, .int 1] (.int (sX2_cellOfSpeed num (sX1_speedOf w1 w2 link))) := by
  refine xR.of (cc := cX2_cellPart) (maxL := 6) (ret := (some .int)) (by decide) rfl (Nat.le_of_ble_eq_true rfl) ?_
  intro p e s m args below meth c ls hM hE hP hD hl
  obtain ⟨hx, hb, hr, hml, hts, hown, hlk, hnm⟩ := hM
  have hl : lv_has ls 6 [(0, .ref h), (1, .ref mo), (2, .int link), (3, .int 1)] := hl
  refine lv_iload_n hx hb dX2_cellPart_0 rfl (lv_at hl 3 rfl) ?_
  refine lv_if_ne (tgt := 15) hx hb dX2_cellPart_1 (by decide) (fun c_1 => ?_) (fun c_1 => absurd c_1 (by decide))
  refine lv_aload_n hx hb dX2_cellPart_15 rfl (lv_at hl 1 rfl) ?_
  refine lv_iload_n hx hb dX2_cellPart_16 rfl (lv_at hl 2 rfl) ?_
  refine x_rV [.int link] (kX1_speedOf l E mo x v a1 a2 w1 w2 link) ⟨hx, hb, hml, hown, hts⟩ (cwV 1 hts gX2_cellPart_X1_speedOf rfl rfl rfl hdX1_speedOf ⟨Nat.le_of_ble_eq_true rfl, Nat.le_of_ble_eq_true rfl⟩) hE hP hD [2] rfl rfl (ci := 1) (q0 := 2) rfl rfl rfl hl.1 rfl rfl (Nat.le_of_ble_eq_true rfl) dX2_cellPart_17 (Nat.le_of_ble_eq_true rfl) (Nat.le_of_ble_eq_true rfl) ?_
  refine lv_istore (lv' := [(4, .int (sX1_speedOf w1 w2 link)), (0, .ref h), (1, .ref mo), (2, .int link), (3, .int 1)]) hx hb dX2_cellPart_20 hl (by decide) rfl (fun ls hl => ?_)
  refine lv_aload_n hx hb dX2_cellPart_22 rfl (lv_at hl 1 rfl) ?_
  refine lv_iload_n hx hb dX2_cellPart_23 rfl (lv_at hl 4 rfl) ?_
  refine lv_if_ne (tgt := 32) hx hb dX2_cellPart_24 (by decide) (fun c_2 => ?_) (fun c_2 => absurd c_2 (by decide))
  refine lv_bipush (v := 16) hx hb dX2_cellPart_32 (by decide) ?_
  refine x_rV [.int 16] (kX2_number l E h an num 16) ⟨hx, hb, hml, hown, hts⟩ (cwV 1 hts gX2_cellPart_X2_number rfl rfl rfl hdX2_number ⟨Nat.le_of_ble_eq_true rfl, Nat.le_of_ble_eq_true rfl⟩) hE hP hD [0, 1] rfl rfl (ci := 2) (q0 := 0) rfl rfl rfl hl.1 rfl rfl (Nat.le_of_ble_eq_true rfl) dX2_cellPart_34 (Nat.le_of_ble_eq_true rfl) (Nat.le_of_ble_eq_true rfl) ?_
  refine lv_istore (lv' := [(5, .int (sX2_number num 16)), (4, .int (sX1_speedOf w1 w2 link)), (0, .ref h), (1, .ref mo), (2, .int link), (3, .int 1)]) hx hb dX2_cellPart_37 hl (by decide) rfl (fun ls hl => ?_)
  refine lv_iload hx hb dX2_cellPart_39 (lv_at hl 0 rfl) ?_
  refine lv_if_le (tgt := 61) hx hb dX2_cellPart_41 (by decide) (fun c_3 => ?_) (fun c_3 => ?_)
  · refine lv_iconst (v := 0) hx hb dX2_cellPart_61 (by decide) ?_
    exact x_ir (by unfold sX2_cellOfSpeed sX2_nearestCell; rw [if_pos c_3]; try rfl) hx hb hr hlk dX2_cellPart_62
  · refine lv_iconst (v := 2) hx hb dX2_cellPart_44 (by decide) ?_
    refine lv_iload hx hb dX2_cellPart_45 (lv_at hl 1 rfl) ?_
    refine lv_imul hx hb dX2_cellPart_47 ?_
    refine lv_iload hx hb dX2_cellPart_48 (lv_at hl 0 rfl) ?_
    refine lv_iadd hx hb dX2_cellPart_50 ?_
    refine lv_iconst (v := 2) hx hb dX2_cellPart_51 (by decide) ?_
    refine lv_iload hx hb dX2_cellPart_52 (lv_at hl 0 rfl) ?_
    refine lv_imul hx hb dX2_cellPart_54 ?_
    refine x_rS [.int ((2 * (sX1_speedOf w1 w2 link)) + (sX2_number num 16)), .int (2 * (sX2_number num 16))] (kJ9_floorDiv_7cf53 l E ((2 * (sX1_speedOf w1 w2 link)) + (sX2_number num 16)) (2 * (sX2_number num 16)) (hz (Int32.not_le.mp c_3))) ⟨hx, hb, hml, hown, hts⟩ (va_cwS 2 hts gX2_cellPart_J9_floorDiv_7cf53 rfl rfl rfl hdJ9_floorDiv_7cf53.2 ⟨Nat.le_of_ble_eq_true rfl, Nat.le_of_ble_eq_true rfl⟩) hE hP hD [] rfl rfl hl.1 rfl rfl (Nat.le_of_ble_eq_true rfl) dX2_cellPart_55 (Nat.le_of_ble_eq_true rfl) (Nat.le_of_ble_eq_true rfl) ?_
    refine lv_goto (tgt := 62) hx hb dX2_cellPart_58 (by decide) ?_
    exact x_ir (by unfold sX2_cellOfSpeed sX2_nearestCell; rw [if_neg c_3]; try rfl) hx hb hr hlk dX2_cellPart_62
set_option maxHeartbeats 4000000 in
theorem kX2_cellPart (l : Launch) (E : XE) (h : Nat) (an : Nat) (num : Nat → Int32) (mo : Nat) (x : Int32) (v : Int32) (a1 : Int32) (a2 : Int32) (w1 : Int32) (w2 : Int32) (link : Int32) (what : Int32) (o2a : ¬ what < 0) (o2b : what ≤ 1) (hz1 : 0 < sX2_number num 15 → ¬ 2 * sX2_number num 15 = 0) (hz2 : 0 < sX2_number num 16 → ¬ 2 * sX2_number num 16 = 0) : xR l yX2_cellPart wsX2_cellPart ({ frames := 1, cells := 0, slots := 0, locals := 22 }) E [(h, .inr (2, [.ref an])), (an, .inl (E.2.1, 24, .inl num)), (mo, .inr (1, [.int x, .int v, .int a1, .int a2, .int w1, .int w2]))] [.ref h, .ref mo, .int link, .int what] (.int (if what = 0 then sX2_cellOfAngle num (sX1_angleOf a1 a2 link) else sX2_cellOfSpeed num (sX1_speedOf w1 w2 link))) := by
  by_cases hw : what = 0
  · subst hw
    rw [if_pos rfl]
    exact kX2_cellPart_0 l E h an num mo x v a1 a2 w1 w2 link hz1
  · have hw1 : what = 1 := by
      have q0 : ¬ what.toInt = 0 := fun q => hw (Int32.toInt_inj.mp q)
      have q1 : what.toInt ≤ 1 := Int32.le_iff_toInt_le.mp o2b
      have q2 : ¬ what.toInt < 0 := fun q => o2a (Int32.lt_iff_toInt_lt.mpr q)
      have q3 : what.toInt = 1 := by omega
      exact Int32.toInt_inj.mp q3
    subst hw1
    rw [if_neg hw]
    exact kX2_cellPart_1 l E h an num mo x v a1 a2 w1 w2 link hz2
