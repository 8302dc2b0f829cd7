def sX9_within (v : Int32) (low : Int32) (high : Int32) : Int32 :=
  if v < low then
    0
  else
    if high < v then
      0
    else
      1
theorem hdX9_within : yX9_within.cls = RX9 ∧ yX9_within.cls ≠ "java/lang/invoke/MethodHandle" ∧ yX9_within.cls ≠ "java/lang/invoke/VarHandle" ∧ (parseMethodDescriptor yX9_within.desc).map (fun d => d.parameters.length) = some 3 := by decide +kernel
set_option maxHeartbeats 4000000 in
set_option maxRecDepth 100000 in
theorem kX9_within (l : Launch) (E : XE) (v : Int32) (low : Int32) (high : Int32) : xR l yX9_within wsX9_within ({ frames := 0, cells := 0, slots := 0, locals := 0 }) E [] [.int v, .int low, .int high] (.int (sX9_within v low high)) := by
  refine xR.of (cc := cX9_within) (maxL := 3) (ret := (some .boolean)) (by decide) rfl (Nat.le_of_ble_eq_true rfl) ?_
  intro p e s m args below meth c ls hM hE hP hD hl
  obtain ⟨hx, hb, hr, hml, hts, hown, hlk, hnm⟩ := hM
  have hl : lv_has ls 3 [(0, .int v), (1, .int low), (2, .int high)] := hl
  refine lv_iload_n hx hb dX9_within_0 rfl (lv_at hl 0 rfl) ?_
  refine lv_iload_n hx hb dX9_within_1 rfl (lv_at hl 1 rfl) ?_
  refine lv_icmp_lt (tgt := 14) hx hb dX9_within_2 (by decide) (fun c_1 => ?_) (fun c_1 => ?_)
  · refine lv_iconst (v := 0) hx hb dX9_within_14 (by decide) ?_
    exact x_zr (by unfold sX9_within; rw [if_pos c_1]; try rfl) hx hb hr hlk rfl dX9_within_15
  · refine lv_iload_n hx hb dX9_within_5 rfl (lv_at hl 0 rfl) ?_
    refine lv_iload_n hx hb dX9_within_6 rfl (lv_at hl 2 rfl) ?_
    refine lv_icmp_gt (tgt := 14) hx hb dX9_within_7 (by decide) (fun c_2 => ?_) (fun c_2 => ?_)
    · refine lv_iconst (v := 0) hx hb dX9_within_14 (by decide) ?_
      exact x_zr (by unfold sX9_within; rw [if_neg c_1]; rw [if_pos c_2]; try rfl) hx hb hr hlk rfl dX9_within_15
    · refine lv_iconst (v := 1) hx hb dX9_within_10 (by decide) ?_
      refine lv_goto (tgt := 15) hx hb dX9_within_11 (by decide) ?_
      exact x_zr (by unfold sX9_within; rw [if_neg c_1]; rw [if_neg c_2]; try rfl) hx hb hr hlk rfl dX9_within_15
def sX9_mod (v : Int32) : Int32 :=
  if 0 ≤ (v - v / 4096 * 4096) then
    v - v / 4096 * 4096
  else
    (v - v / 4096 * 4096) + 4096
theorem hdX9_mod : yX9_mod.cls = RX9 ∧ yX9_mod.cls ≠ "java/lang/invoke/MethodHandle" ∧ yX9_mod.cls ≠ "java/lang/invoke/VarHandle" ∧ (parseMethodDescriptor yX9_mod.desc).map (fun d => d.parameters.length) = some 1 := by decide +kernel
set_option maxHeartbeats 4000000 in
set_option maxRecDepth 100000 in
theorem kX9_mod (l : Launch) (E : XE) (v : Int32) : xR l yX9_mod wsX9_mod ({ frames := 0, cells := 0, slots := 0, locals := 0 }) E [] [.int v] (.int (sX9_mod v)) := by
  refine xR.of (cc := cX9_mod) (maxL := 2) (ret := (some .int)) (by decide) rfl (Nat.le_of_ble_eq_true rfl) ?_
  intro p e s m args below meth c ls hM hE hP hD hl
  obtain ⟨hx, hb, hr, hml, hts, hown, hlk, hnm⟩ := hM
  have hl : lv_has ls 2 [(0, .int v)] := hl
  refine lv_iload_n hx hb dX9_mod_0 rfl (lv_at hl 0 rfl) ?_
  refine lv_sipush (v := 4096) hx hb dX9_mod_1 (by decide) ?_
  refine lv_irem hx hb dX9_mod_4 (by decide) ?_
  refine lv_istore_n (lv' := [(1, .int (v - v / 4096 * 4096)), (0, .int v)]) hx hb dX9_mod_5 rfl hl (by decide) rfl (fun ls hl => ?_)
  refine lv_iload_n hx hb dX9_mod_6 rfl (lv_at hl 0 rfl) ?_
  refine lv_if_ge (tgt := 18) hx hb dX9_mod_7 (by decide) (fun c_1 => ?_) (fun c_1 => ?_)
  · refine lv_iload_n hx hb dX9_mod_18 rfl (lv_at hl 0 rfl) ?_
    exact x_ir (by unfold sX9_mod; rw [if_pos c_1]; try rfl) hx hb hr hlk dX9_mod_19
  · refine lv_iload_n hx hb dX9_mod_10 rfl (lv_at hl 0 rfl) ?_
    refine lv_sipush (v := 4096) hx hb dX9_mod_11 (by decide) ?_
    refine lv_iadd hx hb dX9_mod_14 ?_
    refine lv_goto (tgt := 19) hx hb dX9_mod_15 (by decide) ?_
    exact x_ir (by unfold sX9_mod; rw [if_neg c_1]; try rfl) hx hb hr hlk dX9_mod_19
theorem x_mod (v : Int32) : 0 ≤ sX9_mod v ∧ sX9_mod v < 4096 := by
  have k : (4096 : Int32).toInt = 4096 := by decide
  have h := x_rem_lt v
  unfold sX9_mod
  split
  · rename_i c
    exact ⟨c, by rw [Int32.lt_iff_toInt_lt, k]; exact h.2⟩
  · rename_i c
    rw [Int32.le_iff_toInt_le, Int32.toInt_zero] at c
    have e : ((v - v / 4096 * 4096) + 4096).toInt = (v - v / 4096 * 4096).toInt + 4096 := by rw [x_addI (by rw [k]; omega) (by rw [k]; omega), k]
    exact ⟨by rw [Int32.le_iff_toInt_le, Int32.toInt_zero, e]; omega, by rw [Int32.lt_iff_toInt_lt, k, e]; omega⟩

def sX9_sineOf (angle : Int32) : Int32 :=
  if 2048 ≤ angle then
    -(((65536 * (((angle - 2048).toInt64) * ((2048 - (angle - 2048)).toInt64))) / (20971520 - (4 * (((angle - 2048).toInt64) * ((2048 - (angle - 2048)).toInt64))))).toInt32)
  else
    ((65536 * (angle.toInt64 * ((2048 - angle).toInt64))) / (20971520 - (4 * (angle.toInt64 * ((2048 - angle).toInt64))))).toInt32
theorem hdX9_sineOf : yX9_sineOf.cls = RX9 ∧ yX9_sineOf.cls ≠ "java/lang/invoke/MethodHandle" ∧ yX9_sineOf.cls ≠ "java/lang/invoke/VarHandle" ∧ (parseMethodDescriptor yX9_sineOf.desc).map (fun d => d.parameters.length) = some 1 := by decide +kernel
set_option maxHeartbeats 4000000 in
set_option maxRecDepth 100000 in
theorem kX9_sineOf (l : Launch) (E : XE) (angle : Int32) (h0 : 0 ≤ angle) (h1 : angle < 4096) : xR l yX9_sineOf wsX9_sineOf ({ frames := 0, cells := 0, slots := 0, locals := 0 }) E [] [.int angle] (.int (sX9_sineOf angle)) := by
  refine xR.of (cc := cX9_sineOf) (maxL := 5) (ret := (some .int)) (by decide) rfl (Nat.le_of_ble_eq_true rfl) ?_
  intro p e s m args below meth c ls hM hE hP hD hl
  obtain ⟨hx, hb, hr, hml, hts, hown, hlk, hnm⟩ := hM
  have g_1 : (Cond.constantLong RX9 169 (65536)).before args s = true := hts (Cond.constantLong RX9 169 (65536)) (by decide +kernel)
  have g_2 : (Cond.constantLong RX9 171 (20971520)).before args s = true := hts (Cond.constantLong RX9 171 (20971520)) (by decide +kernel)
  have g_3 : (Cond.constantLong RX9 173 (4)).before args s = true := hts (Cond.constantLong RX9 173 (4)) (by decide +kernel)
  have hl : lv_has ls 5 [(0, .int angle)] := hl
  refine lv_iload_n hx hb dX9_sineOf_0 rfl (lv_at hl 0 rfl) ?_
  refine lv_sipush (v := 2048) hx hb dX9_sineOf_1 (by decide) ?_
  refine lv_icmp_ge (tgt := 11) hx hb dX9_sineOf_4 (by decide) (fun c_1 => ?_) (fun c_1 => ?_)
  · refine lv_iload_n hx hb dX9_sineOf_11 rfl (lv_at hl 0 rfl) ?_
    refine lv_sipush (v := 2048) hx hb dX9_sineOf_12 (by decide) ?_
    refine lv_isub hx hb dX9_sineOf_15 ?_
    refine lv_istore_n (lv' := [(1, .int (angle - 2048)), (0, .int angle)]) hx hb dX9_sineOf_16 rfl hl (by decide) rfl (fun ls hl => ?_)
    refine lv_iload_n hx hb dX9_sineOf_17 rfl (lv_at hl 0 rfl) ?_
    refine lv_i2l hx hb dX9_sineOf_18 rfl ?_
    refine lv_sipush (v := 2048) hx hb dX9_sineOf_19 (by decide) ?_
    refine lv_iload_n hx hb dX9_sineOf_22 rfl (lv_at hl 0 rfl) ?_
    refine lv_isub hx hb dX9_sineOf_23 ?_
    refine lv_i2l hx hb dX9_sineOf_24 rfl ?_
    refine lv_lmul hx hb dX9_sineOf_25 ?_
    refine lv_lstore_n (lv' := [(2, .long (((angle - 2048).toInt64) * ((2048 - (angle - 2048)).toInt64))), (1, .int (angle - 2048)), (0, .int angle)]) hx hb dX9_sineOf_26 rfl hl (by decide) rfl (fun ls hl => ?_)
    refine lv_ldc2 (v := 65536) hx hb hown g_1 dX9_sineOf_27 ?_
    refine lv_lload_n hx hb dX9_sineOf_30 rfl (lv_at hl 0 rfl) ?_
    refine lv_lmul hx hb dX9_sineOf_31 ?_
    refine lv_ldc2 (v := 20971520) hx hb hown g_2 dX9_sineOf_32 ?_
    refine lv_ldc2 (v := 4) hx hb hown g_3 dX9_sineOf_35 ?_
    refine lv_lload_n hx hb dX9_sineOf_38 rfl (lv_at hl 0 rfl) ?_
    refine lv_lmul hx hb dX9_sineOf_39 ?_
    refine lv_lsub hx hb dX9_sineOf_40 ?_
    refine lv_ldiv hx hb dX9_sineOf_41 (x_sdiv1 h0 h1 c_1) ?_
    refine lv_l2i hx hb dX9_sineOf_42 rfl ?_
    refine lv_istore (lv' := [(4, .int (((65536 * (((angle - 2048).toInt64) * ((2048 - (angle - 2048)).toInt64))) / (20971520 - (4 * (((angle - 2048).toInt64) * ((2048 - (angle - 2048)).toInt64))))).toInt32)), (2, .long (((angle - 2048).toInt64) * ((2048 - (angle - 2048)).toInt64))), (1, .int (angle - 2048)), (0, .int angle)]) hx hb dX9_sineOf_43 hl (by decide) rfl (fun ls hl => ?_)
    refine lv_iload_n hx hb dX9_sineOf_45 rfl (lv_at hl 3 rfl) ?_
    refine lv_sipush (v := 2048) hx hb dX9_sineOf_46 (by decide) ?_
    refine lv_icmp_ge (tgt := 57) hx hb dX9_sineOf_49 (by decide) (fun _ => ?_) (fun c_2 => absurd c_1 c_2)
    refine lv_iload hx hb dX9_sineOf_57 (lv_at hl 0 rfl) ?_
    refine lv_ineg hx hb dX9_sineOf_59 ?_
    exact x_ir (by unfold sX9_sineOf; rw [if_pos c_1]; try rfl) hx hb hr hlk dX9_sineOf_60
  · refine lv_iload_n hx hb dX9_sineOf_7 rfl (lv_at hl 0 rfl) ?_
    refine lv_goto (tgt := 16) hx hb dX9_sineOf_8 (by decide) ?_
    refine lv_istore_n (lv' := [(1, .int angle), (0, .int angle)]) hx hb dX9_sineOf_16 rfl hl (by decide) rfl (fun ls hl => ?_)
    refine lv_iload_n hx hb dX9_sineOf_17 rfl (lv_at hl 0 rfl) ?_
    refine lv_i2l hx hb dX9_sineOf_18 rfl ?_
    refine lv_sipush (v := 2048) hx hb dX9_sineOf_19 (by decide) ?_
    refine lv_iload_n hx hb dX9_sineOf_22 rfl (lv_at hl 0 rfl) ?_
    refine lv_isub hx hb dX9_sineOf_23 ?_
    refine lv_i2l hx hb dX9_sineOf_24 rfl ?_
    refine lv_lmul hx hb dX9_sineOf_25 ?_
    refine lv_lstore_n (lv' := [(2, .long (angle.toInt64 * ((2048 - angle).toInt64))), (1, .int angle), (0, .int angle)]) hx hb dX9_sineOf_26 rfl hl (by decide) rfl (fun ls hl => ?_)
    refine lv_ldc2 (v := 65536) hx hb hown g_1 dX9_sineOf_27 ?_
    refine lv_lload_n hx hb dX9_sineOf_30 rfl (lv_at hl 0 rfl) ?_
    refine lv_lmul hx hb dX9_sineOf_31 ?_
    refine lv_ldc2 (v := 20971520) hx hb hown g_2 dX9_sineOf_32 ?_
    refine lv_ldc2 (v := 4) hx hb hown g_3 dX9_sineOf_35 ?_
    refine lv_lload_n hx hb dX9_sineOf_38 rfl (lv_at hl 0 rfl) ?_
    refine lv_lmul hx hb dX9_sineOf_39 ?_
    refine lv_lsub hx hb dX9_sineOf_40 ?_
    refine lv_ldiv hx hb dX9_sineOf_41 (x_sdiv2 h0 h1 c_1) ?_
    refine lv_l2i hx hb dX9_sineOf_42 rfl ?_
    refine lv_istore (lv' := [(4, .int (((65536 * (angle.toInt64 * ((2048 - angle).toInt64))) / (20971520 - (4 * (angle.toInt64 * ((2048 - angle).toInt64))))).toInt32)), (2, .long (angle.toInt64 * ((2048 - angle).toInt64))), (1, .int angle), (0, .int angle)]) hx hb dX9_sineOf_43 hl (by decide) rfl (fun ls hl => ?_)
    refine lv_iload_n hx hb dX9_sineOf_45 rfl (lv_at hl 3 rfl) ?_
    refine lv_sipush (v := 2048) hx hb dX9_sineOf_46 (by decide) ?_
    refine lv_icmp_ge (tgt := 57) hx hb dX9_sineOf_49 (by decide) (fun c_3 => absurd c_3 c_1) (fun _ => ?_)
    refine lv_iload hx hb dX9_sineOf_52 (lv_at hl 0 rfl) ?_
    refine lv_goto (tgt := 60) hx hb dX9_sineOf_54 (by decide) ?_
    exact x_ir (by unfold sX9_sineOf; rw [if_neg c_1]; try rfl) hx hb hr hlk dX9_sineOf_60
def sX9_cosineOf (angle : Int32) : Int32 :=
  sX9_sineOf (sX9_mod (angle + 1024))
theorem hdX9_cosineOf : yX9_cosineOf.cls = RX9 ∧ yX9_cosineOf.cls ≠ "java/lang/invoke/MethodHandle" ∧ yX9_cosineOf.cls ≠ "java/lang/invoke/VarHandle" ∧ (parseMethodDescriptor yX9_cosineOf.desc).map (fun d => d.parameters.length) = some 1 := by decide +kernel
set_option maxHeartbeats 4000000 in
set_option maxRecDepth 100000 in
theorem kX9_cosineOf (l : Launch) (E : XE) (angle : Int32) : xR l yX9_cosineOf wsX9_cosineOf ({ frames := 1, cells := 0, slots := 0, locals := 24 }) E [] [.int angle] (.int (sX9_cosineOf angle)) := by
  refine xR.of (cc := cX9_cosineOf) (maxL := 1) (ret := (some .int)) (by decide) rfl (Nat.le_of_ble_eq_true rfl) ?_
  intro p e s m args below meth c ls hM hE hP hD hl
  obtain ⟨hx, hb, hr, hml, hts, hown, hlk, hnm⟩ := hM
  have hl : lv_has ls 1 [(0, .int angle)] := hl
  refine lv_iload_n hx hb dX9_cosineOf_0 rfl (lv_at hl 0 rfl) ?_
  refine lv_sipush (v := 1024) hx hb dX9_cosineOf_1 (by decide) ?_
  refine lv_iadd hx hb dX9_cosineOf_4 ?_
  refine x_rS [.int (angle + 1024)] (kX9_mod l E (angle + 1024)) ⟨hx, hb, hml, hown, hts⟩ (va_cwS 1 hts gX9_cosineOf_X9_mod rfl rfl rfl hdX9_mod.2 ⟨Nat.le_of_ble_eq_true rfl, Nat.le_of_ble_eq_true rfl⟩) hE hP hD [] rfl rfl hl.1 rfl rfl (Nat.le_of_ble_eq_true rfl) dX9_cosineOf_5 (Nat.le_of_ble_eq_true rfl) (Nat.le_of_ble_eq_true rfl) ?_
  refine x_rS [.int (sX9_mod (angle + 1024))] (kX9_sineOf l E (sX9_mod (angle + 1024)) (x_mod _).1 (x_mod _).2) ⟨hx, hb, hml, hown, hts⟩ (va_cwS 1 hts gX9_cosineOf_X9_sineOf rfl rfl rfl hdX9_sineOf.2 ⟨Nat.le_of_ble_eq_true rfl, Nat.le_of_ble_eq_true rfl⟩) hE hP hD [] rfl rfl hl.1 rfl rfl (Nat.le_of_ble_eq_true rfl) dX9_cosineOf_8 (Nat.le_of_ble_eq_true rfl) (Nat.le_of_ble_eq_true rfl) ?_
  exact x_ir (by unfold sX9_cosineOf; try rfl) hx hb hr hlk dX9_cosineOf_11
def sX9_leanOf (angle : Int32) : Int32 :=
  if 2048 ≤ angle then
    angle - 4096
  else
    angle
theorem hdX9_leanOf : yX9_leanOf.cls = RX9 ∧ yX9_leanOf.cls ≠ "java/lang/invoke/MethodHandle" ∧ yX9_leanOf.cls ≠ "java/lang/invoke/VarHandle" ∧ (parseMethodDescriptor yX9_leanOf.desc).map (fun d => d.parameters.length) = some 1 := by decide +kernel
set_option maxHeartbeats 4000000 in
set_option maxRecDepth 100000 in
theorem kX9_leanOf (l : Launch) (E : XE) (angle : Int32) : xR l yX9_leanOf wsX9_leanOf ({ frames := 0, cells := 0, slots := 0, locals := 0 }) E [] [.int angle] (.int (sX9_leanOf angle)) := by
  refine xR.of (cc := cX9_leanOf) (maxL := 1) (ret := (some .int)) (by decide) rfl (Nat.le_of_ble_eq_true rfl) ?_
  intro p e s m args below meth c ls hM hE hP hD hl
  obtain ⟨hx, hb, hr, hml, hts, hown, hlk, hnm⟩ := hM
  have hl : lv_has ls 1 [(0, .int angle)] := hl
  refine lv_iload_n hx hb dX9_leanOf_0 rfl (lv_at hl 0 rfl) ?_
  refine lv_sipush (v := 2048) hx hb dX9_leanOf_1 (by decide) ?_
  refine lv_icmp_ge (tgt := 11) hx hb dX9_leanOf_4 (by decide) (fun c_1 => ?_) (fun c_1 => ?_)
  · refine lv_iload_n hx hb dX9_leanOf_11 rfl (lv_at hl 0 rfl) ?_
    refine lv_sipush (v := 4096) hx hb dX9_leanOf_12 (by decide) ?_
    refine lv_isub hx hb dX9_leanOf_15 ?_
    exact x_ir (by unfold sX9_leanOf; rw [if_pos c_1]; try rfl) hx hb hr hlk dX9_leanOf_16
  · refine lv_iload_n hx hb dX9_leanOf_7 rfl (lv_at hl 0 rfl) ?_
    refine lv_goto (tgt := 16) hx hb dX9_leanOf_8 (by decide) ?_
    exact x_ir (by unfold sX9_leanOf; rw [if_neg c_1]; try rfl) hx hb hr hlk dX9_leanOf_16
def sX9_isBeyond (v : Int32) (bound : Int32) : Int32 :=
  if bound < v then
    1
  else
    if (-bound) ≤ v then
      0
    else
      1
theorem hdX9_isBeyond : yX9_isBeyond.cls = RX9 ∧ yX9_isBeyond.cls ≠ "java/lang/invoke/MethodHandle" ∧ yX9_isBeyond.cls ≠ "java/lang/invoke/VarHandle" ∧ (parseMethodDescriptor yX9_isBeyond.desc).map (fun d => d.parameters.length) = some 2 := by decide +kernel
set_option maxHeartbeats 4000000 in
set_option maxRecDepth 100000 in
theorem kX9_isBeyond (l : Launch) (E : XE) (v : Int32) (bound : Int32) : xR l yX9_isBeyond wsX9_isBeyond ({ frames := 0, cells := 0, slots := 0, locals := 0 }) E [] [.int v, .int bound] (.int (sX9_isBeyond v bound)) := by
  refine xR.of (cc := cX9_isBeyond) (maxL := 2) (ret := (some .boolean)) (by decide) rfl (Nat.le_of_ble_eq_true rfl) ?_
  intro p e s m args below meth c ls hM hE hP hD hl
  obtain ⟨hx, hb, hr, hml, hts, hown, hlk, hnm⟩ := hM
  have hl : lv_has ls 2 [(0, .int v), (1, .int bound)] := hl
  refine lv_iload_n hx hb dX9_isBeyond_0 rfl (lv_at hl 0 rfl) ?_
  refine lv_iload_n hx hb dX9_isBeyond_1 rfl (lv_at hl 1 rfl) ?_
  refine lv_icmp_gt (tgt := 11) hx hb dX9_isBeyond_2 (by decide) (fun c_1 => ?_) (fun c_1 => ?_)
  · refine lv_iconst (v := 1) hx hb dX9_isBeyond_11 (by decide) ?_
    refine lv_goto (tgt := 16) hx hb dX9_isBeyond_12 (by decide) ?_
    exact x_zr (by unfold sX9_isBeyond; rw [if_pos c_1]; try rfl) hx hb hr hlk rfl dX9_isBeyond_16
  · refine lv_iload_n hx hb dX9_isBeyond_5 rfl (lv_at hl 0 rfl) ?_
    refine lv_iload_n hx hb dX9_isBeyond_6 rfl (lv_at hl 1 rfl) ?_
    refine lv_ineg hx hb dX9_isBeyond_7 ?_
    refine lv_icmp_ge (tgt := 15) hx hb dX9_isBeyond_8 (by decide) (fun c_2 => ?_) (fun c_2 => ?_)
    · refine lv_iconst (v := 0) hx hb dX9_isBeyond_15 (by decide) ?_
      exact x_zr (by unfold sX9_isBeyond; rw [if_neg c_1]; rw [if_pos c_2]; try rfl) hx hb hr hlk rfl dX9_isBeyond_16
    · refine lv_iconst (v := 1) hx hb dX9_isBeyond_11 (by decide) ?_
      refine lv_goto (tgt := 16) hx hb dX9_isBeyond_12 (by decide) ?_
      exact x_zr (by unfold sX9_isBeyond; rw [if_neg c_1]; rw [if_neg c_2]; try rfl) hx hb hr hlk rfl dX9_isBeyond_16
def sX9_cell (i : Int32) (j : Int32) : Int32 :=
  ((7 * (i + 3)) + j) + 3
theorem hdX9_cell : yX9_cell.cls = RX9 ∧ yX9_cell.cls ≠ "java/lang/invoke/MethodHandle" ∧ yX9_cell.cls ≠ "java/lang/invoke/VarHandle" ∧ (parseMethodDescriptor yX9_cell.desc).map (fun d => d.parameters.length) = some 2 := by decide +kernel
set_option maxHeartbeats 4000000 in
set_option maxRecDepth 100000 in
theorem kX9_cell (l : Launch) (E : XE) (i : Int32) (j : Int32) : xR l yX9_cell wsX9_cell ({ frames := 0, cells := 0, slots := 0, locals := 0 }) E [] [.int i, .int j] (.int (sX9_cell i j)) := by
  refine xR.of (cc := cX9_cell) (maxL := 2) (ret := (some .int)) (by decide) rfl (Nat.le_of_ble_eq_true rfl) ?_
  intro p e s m args below meth c ls hM hE hP hD hl
  obtain ⟨hx, hb, hr, hml, hts, hown, hlk, hnm⟩ := hM
  have hl : lv_has ls 2 [(0, .int i), (1, .int j)] := hl
  refine lv_bipush (v := 7) hx hb dX9_cell_0 (by decide) ?_
  refine lv_iload_n hx hb dX9_cell_2 rfl (lv_at hl 0 rfl) ?_
  refine lv_iconst (v := 3) hx hb dX9_cell_3 (by decide) ?_
  refine lv_iadd hx hb dX9_cell_4 ?_
  refine lv_imul hx hb dX9_cell_5 ?_
  refine lv_iload_n hx hb dX9_cell_6 rfl (lv_at hl 1 rfl) ?_
  refine lv_iadd hx hb dX9_cell_7 ?_
  refine lv_iconst (v := 3) hx hb dX9_cell_8 (by decide) ?_
  refine lv_iadd hx hb dX9_cell_9 ?_
  exact x_ir (by unfold sX9_cell; try rfl) hx hb hr hlk dX9_cell_10
def xMu2 (N i : Int32) : Nat := (N.toInt + 1 - i.toInt).toNat
theorem x_cnt {N : Int32} (h3 : N ≤ 3) (h0 : 0 ≤ N) : 0 ≤ N.toInt ∧ N.toInt ≤ 3 ∧ (-N).toInt = -N.toInt := by
  have k : (3 : Int32).toInt = 3 := by decide
  rw [Int32.le_iff_toInt_le, k] at h3
  rw [Int32.le_iff_toInt_le, Int32.toInt_zero] at h0
  exact ⟨h0, h3, by rw [Int32.toInt_neg, x_bm (by omega) (by omega)]⟩
theorem x_step2 {i N : Int32} (hlo : -(N) ≤ i) (c : ¬ N < i) (h3 : N ≤ 3) (h0 : 0 ≤ N) : -(N) ≤ i + 1 := by
  obtain ⟨a, b, n⟩ := x_cnt h3 h0
  have k : (1 : Int32).toInt = 1 := by decide
  rw [Int32.le_iff_toInt_le, n] at hlo ⊢
  rw [Int32.lt_iff_toInt_lt] at c
  rw [x_addI (by rw [k]; omega) (by rw [k]; omega), k]
  omega
theorem x_mu2 {i N : Int32} {k : Nat} (hlo : -(N) ≤ i) (c : ¬ N < i) (h3 : N ≤ 3) (h0 : 0 ≤ N) (h : xMu2 N i < k + 1) : xMu2 N (i + 1) < k := by
  obtain ⟨a, b, n⟩ := x_cnt h3 h0
  have k1 : (1 : Int32).toInt = 1 := by decide
  rw [Int32.le_iff_toInt_le, n] at hlo
  rw [Int32.lt_iff_toInt_lt] at c
  unfold xMu2 at h ⊢
  rw [x_addI (by rw [k1]; omega) (by rw [k1]; omega), k1]
  omega
theorem x_cell_n {i j : Int32} (a1 : -3 ≤ i.toInt) (a2 : i.toInt ≤ 3) (b1 : -3 ≤ j.toInt) (b2 : j.toInt ≤ 3) : (sX9_cell i j).toInt = 7 * (i.toInt + 3) + j.toInt + 3 := by
  have k3 : (3 : Int32).toInt = 3 := by decide
  have k7 : (7 : Int32).toInt = 7 := by decide
  have e1 : (i + 3).toInt = i.toInt + 3 := by rw [x_addI (by rw [k3]; omega) (by rw [k3]; omega), k3]
  have e2 : (7 * (i + 3)).toInt = 7 * (i.toInt + 3) := by rw [x_mulI (by rw [k7, e1]; omega) (by rw [k7, e1]; omega), k7, e1]
  have e3 : (7 * (i + 3) + j).toInt = 7 * (i.toInt + 3) + j.toInt := by rw [x_addI (by rw [e2]; omega) (by rw [e2]; omega), e2]
  unfold sX9_cell
  rw [x_addI (by rw [e3, k3]; omega) (by rw [e3, k3]; omega), e3, k3]
theorem x_cell_v {i j : Int32} (a1 : -3 ≤ i.toInt) (a2 : i.toInt ≤ 3) (b1 : -3 ≤ j.toInt) (b2 : j.toInt ≤ 3) : vp_in (sX9_cell i j) 49 := by
  rw [vp_in_iff, x_cell_n a1 a2 b1 b2]
  omega
theorem x_cell_in {i j N : Int32} (hi : -(N) ≤ i) (ci : ¬ N < i) (hj : -(N) ≤ j) (cj : ¬ N < j) (h3 : N ≤ 3) (h0 : 0 ≤ N) : vp_in (sX9_cell i j) 49 := by
  obtain ⟨a, b, n⟩ := x_cnt h3 h0
  rw [Int32.le_iff_toInt_le, n] at hi hj
  rw [Int32.lt_iff_toInt_lt] at ci cj
  exact x_cell_v (by omega) (by omega) (by omega) (by omega)
theorem x_within {v lo hi : Int32} (c : ¬ sX9_within v lo hi = 0) : lo ≤ v ∧ v ≤ hi := by
  unfold sX9_within at c
  split at c
  · exact absurd rfl c
  · split at c
    · exact absurd rfl c
    · rename_i c1 c2
      exact ⟨Int32.not_lt.mp c1, Int32.not_lt.mp c2⟩
theorem x_ix200 {t : Int32} (h : ¬ t < 0) : vp_in (14 + (t - t / 200 * 200)) 214 := by
  have k : (200 : Int32).toInt = 200 := by decide
  have k14 : (14 : Int32).toInt = 14 := by decide
  have r := x_rg t
  rw [Int32.lt_iff_toInt_lt, Int32.toInt_zero] at h
  have hm := Int.mul_tdiv_add_tmod t.toInt 200
  have hd : (t / 200).toInt = t.toInt.tdiv 200 := by rw [Int32.toInt_div_of_ne_right _ _ (by decide), k]
  have h1 := Int.tmod_lt_of_pos t.toInt (b := 200) (by decide)
  have h2 := Int.tmod_nonneg (a := t.toInt) 200 (by omega)
  have e1 : (t / 200 * 200).toInt = 200 * t.toInt.tdiv 200 := by rw [x_mulI (by rw [hd, k]; omega) (by rw [hd, k]; omega), hd, k, Int.mul_comm]
  have e2 : (t - t / 200 * 200).toInt = t.toInt.tmod 200 := by rw [x_subI (by rw [e1]; omega) (by rw [e1]; omega), e1]; omega
  rw [vp_in_iff, x_addI (by rw [k14, e2]; omega) (by rw [k14, e2]; omega), k14, e2]
  omega
theorem x_pos0 {t : Int32} (c : ¬ t ≤ 0) : ¬ t < 0 := by
  rw [Int32.le_iff_toInt_le, Int32.toInt_zero] at c
  rw [Int32.lt_iff_toInt_lt, Int32.toInt_zero]
  omega
theorem x_dn {t : Int32} {k : Nat} (c : ¬ t ≤ 0) (h : t.toInt.toNat < k + 1) : (t + (-1)).toInt.toNat < k := by
  have k1 : (-1 : Int32).toInt = -1 := by decide
  have r := x_rg t
  rw [Int32.le_iff_toInt_le, Int32.toInt_zero] at c
  rw [x_addI (by rw [k1]; omega) (by rw [k1]; omega), k1]
  omega

def sX9_thrown (thrown : Int32) : Int32 :=
  thrown
theorem hdX9_thrown : yX9_thrown.cls = RX9 ∧ yX9_thrown.cls ≠ "java/lang/invoke/MethodHandle" ∧ yX9_thrown.cls ≠ "java/lang/invoke/VarHandle" ∧ (parseMethodDescriptor yX9_thrown.desc).map (fun d => d.parameters.length) = some 0 := by decide +kernel
set_option maxHeartbeats 4000000 in
set_option maxRecDepth 100000 in
theorem kX9_thrown (l : Launch) (E : XE) (h : Nat) (thrown : Int32) (nw : Nat) (td : Nat) (tx : Nat) (length : Int32) (textSize : Int32) (start : Int32) (next : Int32) (token : Int32) (value : Int32) (error : Int32) (errorAt : Int32) (seen : Int32) (triedWith : Int32) (rr : Nat) (ss : Nat) (tr : Nat) (wa : Nat) (undos : Int32) (ud : Nat) (sl : Nat) (sv : Nat) : xR l yX9_thrown wsX9_thrown ({ frames := 0, cells := 0, slots := 0, locals := 0 }) E [(h, .inr (9, [.int thrown, .ref nw, .ref td, .ref tx, .int length, .int textSize, .int start, .int next, .int token, .int value, .int error, .int errorAt, .int seen, .int triedWith, .ref rr, .ref ss, .ref tr, .ref wa, .int undos, .ref ud, .ref sl, .ref sv]))] [.ref h] (.int (sX9_thrown thrown)) := by
  refine xR.of (cc := cX9_thrown) (maxL := 1) (ret := (some .int)) (by decide) rfl (Nat.le_of_ble_eq_true rfl) ?_
  intro p e s m args below meth c ls hM hE hP hD hl
  obtain ⟨hx, hb, hr, hml, hts, hown, hlk, hnm⟩ := hM
  have g_1 : (Cond.fieldLink RX9 55 "RailPendulumModel" "thrown" "I").before args s = true := hts (Cond.fieldLink RX9 55 "RailPendulumModel" "thrown" "I") (by decide +kernel)
  have g_2 : ∀ w ∈ wsX90, w ∈ wsX9_thrown := by decide +kernel
  have hl : lv_has ls 1 [(0, .ref h)] := hl
  refine lv_aload_n hx hb dX9_thrown_0 rfl (lv_at hl 0 rfl) ?_
  refine va_get (D := E.1) (ci := 9) (v := .int thrown) (C := RX9) (T := TX9) (N := 22) hx hb hts g_2 hown hE.1 hP 0 rfl rfl 0 (by decide) g_1 (fun _ h9 => h9) rfl dX9_thrown_1 ?_
  exact x_ir (by unfold sX9_thrown; try rfl) hx hb hr hlk dX9_thrown_4
theorem x_ink {i N : Int32} {n : Nat} (h1 : ¬ i < 0) (h2 : ¬ N ≤ i) (hN : N.toInt ≤ n) : vp_in i n := by
  rw [vp_in_iff]
  rw [Int32.le_iff_toInt_le] at h2
  rw [Int32.lt_iff_toInt_lt, Int32.toInt_zero] at h1
  omega

def sX9_throwsIf (thrown : Int32) (is : Int32) (kind : Int32) : Int32 × Int32 :=
  if thrown = 0 then
    if is = 0 then
      if thrown ≤ 0 then
        (0, thrown)
      else
        (1, thrown)
    else
      if kind ≤ 0 then
        (0, kind)
      else
        (1, kind)
  else
    if thrown ≤ 0 then
      (0, thrown)
    else
      (1, thrown)
theorem hdX9_throwsIf : yX9_throwsIf.cls = RX9 ∧ yX9_throwsIf.cls ≠ "java/lang/invoke/MethodHandle" ∧ yX9_throwsIf.cls ≠ "java/lang/invoke/VarHandle" ∧ (parseMethodDescriptor yX9_throwsIf.desc).map (fun d => d.parameters.length) = some 2 := by decide +kernel
set_option maxHeartbeats 4000000 in
set_option maxRecDepth 100000 in
theorem kX9_throwsIf (l : Launch) (E : XE) (h : Nat) (thrown : Int32) (nw : Nat) (td : Nat) (tx : Nat) (length : Int32) (textSize : Int32) (start : Int32) (next : Int32) (token : Int32) (value : Int32) (error : Int32) (errorAt : Int32) (seen : Int32) (triedWith : Int32) (rr : Nat) (ss : Nat) (tr : Nat) (wa : Nat) (undos : Int32) (ud : Nat) (sl : Nat) (sv : Nat) (is : Int32) (kind : Int32) : xW (T := Int32 × Int32) l yX9_throwsIf wsX9_throwsIf ({ frames := 0, cells := 0, slots := 0, locals := 0 }) E [(h, .inr (9, [.int thrown, .ref nw, .ref td, .ref tx, .int length, .int textSize, .int start, .int next, .int token, .int value, .int error, .int errorAt, .int seen, .int triedWith, .ref rr, .ref ss, .ref tr, .ref wa, .int undos, .ref ud, .ref sl, .ref sv]))] [.ref h, .int is, .int kind] (fun q => some (.int q.1)) (fun q => [(h, .inr (9, [.int q.2, .ref nw, .ref td, .ref tx, .int length, .int textSize, .int start, .int next, .int token, .int value, .int error, .int errorAt, .int seen, .int triedWith, .ref rr, .ref ss, .ref tr, .ref wa, .int undos, .ref ud, .ref sl, .ref sv]))]) (sX9_throwsIf thrown is kind) 0 0 := by
  refine xW.of (cc := cX9_throwsIf) (maxL := 3) (ret := (some .boolean)) (by decide) rfl (Nat.le_of_ble_eq_true rfl) ?_
  intro p e s m args below meth c ls A hM hE hP hD hS hA hl
  obtain ⟨hx, hb, hr, hml, hts, hown, hlk, hnm⟩ := hM
  have g_1 : (Cond.fieldLink RX9 55 "RailPendulumModel" "thrown" "I").before args s = true := hts (Cond.fieldLink RX9 55 "RailPendulumModel" "thrown" "I") (by decide +kernel)
  have g_2 : ∀ w ∈ wsX90, w ∈ wsX9_throwsIf := by decide +kernel
  have hX : xD A [h] := xD.of hD rfl
  have hl : lv_has ls 3 [(0, .ref h), (1, .int is), (2, .int kind)] := hl
  refine lv_aload_n hx hb dX9_throwsIf_0 rfl (lv_at hl 0 rfl) ?_
  refine va_get (D := E.1) (ci := 9) (v := .int thrown) (C := RX9) (T := TX9) (N := 22) hx hb hts g_2 hown hE.1 hP 0 rfl rfl 0 (by decide) g_1 (fun _ h9 => h9) rfl dX9_throwsIf_1 ?_
  refine lv_if_ne (tgt := 16) hx hb dX9_throwsIf_4 (by decide) (fun c_1 => ?_) (fun c_1 => ?_)
  · refine lv_aload_n hx hb dX9_throwsIf_16 rfl (lv_at hl 0 rfl) ?_
    refine va_get (D := E.1) (ci := 9) (v := .int thrown) (C := RX9) (T := TX9) (N := 22) hx hb hts g_2 hown hE.1 hP 0 rfl rfl 0 (by decide) g_1 (fun _ h9 => h9) rfl dX9_throwsIf_17 ?_
    refine lv_if_le (tgt := 27) hx hb dX9_throwsIf_20 (by decide) (fun c_2 => ?_) (fun c_2 => ?_)
    · refine lv_iconst (v := 0) hx hb dX9_throwsIf_27 (by decide) ?_
      exact x_wz (0, thrown) (by unfold sX9_throwsIf; rw [if_neg c_1]; rw [if_pos c_2]; try rfl) rfl hx hb hr hlk rfl hS hP (hX.d rfl) [0] rfl rfl (Nat.le_of_ble_eq_true rfl) (Nat.le_of_ble_eq_true rfl) dX9_throwsIf_28
    · refine lv_iconst (v := 1) hx hb dX9_throwsIf_23 (by decide) ?_
      refine lv_goto (tgt := 28) hx hb dX9_throwsIf_24 (by decide) ?_
      exact x_wz (1, thrown) (by unfold sX9_throwsIf; rw [if_neg c_1]; rw [if_neg c_2]; try rfl) rfl hx hb hr hlk rfl hS hP (hX.d rfl) [0] rfl rfl (Nat.le_of_ble_eq_true rfl) (Nat.le_of_ble_eq_true rfl) dX9_throwsIf_28
  · refine lv_iload_n hx hb dX9_throwsIf_7 rfl (lv_at hl 1 rfl) ?_
    refine lv_if_eq (tgt := 16) hx hb dX9_throwsIf_8 (by decide) (fun c_3 => ?_) (fun c_3 => ?_)
    · refine lv_aload_n hx hb dX9_throwsIf_16 rfl (lv_at hl 0 rfl) ?_
      refine va_get (D := E.1) (ci := 9) (v := .int thrown) (C := RX9) (T := TX9) (N := 22) hx hb hts g_2 hown hE.1 hP 0 rfl rfl 0 (by decide) g_1 (fun _ h9 => h9) rfl dX9_throwsIf_17 ?_
      refine lv_if_le (tgt := 27) hx hb dX9_throwsIf_20 (by decide) (fun c_4 => ?_) (fun c_4 => ?_)
      · refine lv_iconst (v := 0) hx hb dX9_throwsIf_27 (by decide) ?_
        exact x_wz (0, thrown) (by unfold sX9_throwsIf; rw [if_pos c_1]; rw [if_pos c_3]; rw [if_pos c_4]; try rfl) rfl hx hb hr hlk rfl hS hP (hX.d rfl) [0] rfl rfl (Nat.le_of_ble_eq_true rfl) (Nat.le_of_ble_eq_true rfl) dX9_throwsIf_28
      · refine lv_iconst (v := 1) hx hb dX9_throwsIf_23 (by decide) ?_
        refine lv_goto (tgt := 28) hx hb dX9_throwsIf_24 (by decide) ?_
        exact x_wz (1, thrown) (by unfold sX9_throwsIf; rw [if_pos c_1]; rw [if_pos c_3]; rw [if_neg c_4]; try rfl) rfl hx hb hr hlk rfl hS hP (hX.d rfl) [0] rfl rfl (Nat.le_of_ble_eq_true rfl) (Nat.le_of_ble_eq_true rfl) dX9_throwsIf_28
    · refine lv_aload_n hx hb dX9_throwsIf_11 rfl (lv_at hl 0 rfl) ?_
      refine lv_iload_n hx hb dX9_throwsIf_12 rfl (lv_at hl 2 rfl) ?_
      refine va_put (D := E.1) (ci := 9) (v := .int kind) (ty := .int) (C := RX9) (T := TX9) (N := 22) hx hb hts g_2 tyX9 tyX9_ok nmX9 hown hE.1 hP (hX.d rfl) hS 0 rfl rfl 0 (by decide) g_1 (fun _ h9 => h9) rfl (by decide +kernel) rfl rfl (Nat.le_of_ble_eq_true rfl) dX9_throwsIf_13 (fun H locs hP _ hS => ?_)
      have hP : va_P E.1 vwCl [(h, .inr (9, [.int kind, .ref nw, .ref td, .ref tx, .int length, .int textSize, .int start, .int next, .int token, .int value, .int error, .int errorAt, .int seen, .int triedWith, .ref rr, .ref ss, .ref tr, .ref wa, .int undos, .ref ud, .ref sl, .ref sv]))] H := hP
      refine lv_aload_n hx hb dX9_throwsIf_16 rfl (lv_at hl 0 rfl) ?_
      refine va_get (D := E.1) (ci := 9) (v := .int kind) (C := RX9) (T := TX9) (N := 22) hx hb hts g_2 hown hE.1 hP 0 rfl rfl 0 (by decide) g_1 (fun _ h9 => h9) rfl dX9_throwsIf_17 ?_
      refine lv_if_le (tgt := 27) hx hb dX9_throwsIf_20 (by decide) (fun c_5 => ?_) (fun c_5 => ?_)
      · refine lv_iconst (v := 0) hx hb dX9_throwsIf_27 (by decide) ?_
        exact x_wz (0, kind) (by unfold sX9_throwsIf; rw [if_pos c_1]; rw [if_neg c_3]; rw [if_pos c_5]; try rfl) rfl hx hb hr hlk rfl hS hP (hX.d rfl) [0] rfl rfl (Nat.le_of_ble_eq_true rfl) (Nat.le_of_ble_eq_true rfl) dX9_throwsIf_28
      · refine lv_iconst (v := 1) hx hb dX9_throwsIf_23 (by decide) ?_
        refine lv_goto (tgt := 28) hx hb dX9_throwsIf_24 (by decide) ?_
        exact x_wz (1, kind) (by unfold sX9_throwsIf; rw [if_pos c_1]; rw [if_neg c_3]; rw [if_neg c_5]; try rfl) rfl hx hb hr hlk rfl hS hP (hX.d rfl) [0] rfl rfl (Nat.le_of_ble_eq_true rfl) (Nat.le_of_ble_eq_true rfl) dX9_throwsIf_28
def sX9_draft (told : Nat → Int32) (what : Int32) (v : Int32) : (Nat → Int32) :=
  upd told ((24 + what).toNatClampNeg) v
theorem hdX9_draft : yX9_draft.cls = RX9 ∧ yX9_draft.cls ≠ "java/lang/invoke/MethodHandle" ∧ yX9_draft.cls ≠ "java/lang/invoke/VarHandle" ∧ (parseMethodDescriptor yX9_draft.desc).map (fun d => d.parameters.length) = some 2 := by decide +kernel
set_option maxHeartbeats 4000000 in
set_option maxRecDepth 100000 in
theorem kX9_draft (l : Launch) (E : XE) (h : Nat) (thrown : Int32) (nw : Nat) (td : Nat) (tx : Nat) (length : Int32) (textSize : Int32) (start : Int32) (next : Int32) (token : Int32) (value : Int32) (error : Int32) (errorAt : Int32) (seen : Int32) (triedWith : Int32) (rr : Nat) (ss : Nat) (tr : Nat) (wa : Nat) (undos : Int32) (ud : Nat) (sl : Nat) (sv : Nat) (told : Nat → Int32) (what : Int32) (v : Int32) (hw0 : ¬ what < 0) (hw1 : ¬ 24 ≤ what) : xW (T := (Nat → Int32)) l yX9_draft wsX9_draft ({ frames := 0, cells := 0, slots := 0, locals := 0 }) E [(h, .inr (9, [.int thrown, .ref nw, .ref td, .ref tx, .int length, .int textSize, .int start, .int next, .int token, .int value, .int error, .int errorAt, .int seen, .int triedWith, .ref rr, .ref ss, .ref tr, .ref wa, .int undos, .ref ud, .ref sl, .ref sv])), (td, .inl (E.2.1, 48, .inl told))] [.ref h, .int what, .int v] (fun _ => none) (fun q => [(h, .inr (9, [.int thrown, .ref nw, .ref td, .ref tx, .int length, .int textSize, .int start, .int next, .int token, .int value, .int error, .int errorAt, .int seen, .int triedWith, .ref rr, .ref ss, .ref tr, .ref wa, .int undos, .ref ud, .ref sl, .ref sv])), (td, .inl (E.2.1, 48, .inl q))]) (sX9_draft told what v) 0 0 := by
  refine xW.of (cc := cX9_draft) (maxL := 3) (ret := none) (by decide) rfl (Nat.le_of_ble_eq_true rfl) ?_
  intro p e s m args below meth c ls A hM hE hP hD hS hA hl
  obtain ⟨hx, hb, hr, hml, hts, hown, hlk, hnm⟩ := hM
  have g_1 : (Cond.fieldLink RX9 13 "RailPendulumModel" "told" "[I").before args s = true := hts (Cond.fieldLink RX9 13 "RailPendulumModel" "told" "[I") (by decide +kernel)
  have g_2 : ∀ w ∈ wsX90, w ∈ wsX9_draft := by decide +kernel
  have hX : xD A [h, td] := xD.of hD rfl
  have hl : lv_has ls 3 [(0, .ref h), (1, .int what), (2, .int v)] := hl
  refine lv_aload_n hx hb dX9_draft_0 rfl (lv_at hl 0 rfl) ?_
  refine va_get (D := E.1) (ci := 9) (v := .ref td) (C := RX9) (T := TX9) (N := 22) hx hb hts g_2 hown hE.1 hP 0 rfl rfl 2 (by decide) g_1 (fun _ h9 => h9) rfl dX9_draft_1 ?_
  refine lv_bipush (v := 24) hx hb dX9_draft_4 (by decide) ?_
  refine lv_iload_n hx hb dX9_draft_6 rfl (lv_at hl 1 rfl) ?_
  refine lv_iadd hx hb dX9_draft_7 ?_
  refine lv_iload_n hx hb dX9_draft_8 rfl (lv_at hl 2 rfl) ?_
  refine x_iast hx hb hE.1 hP (hX.d rfl) hS 1 0 rfl rfl ((24 + what).toNatClampNeg) rfl (x_in_add hw0 hw1 (by decide) (by decide) (by decide)) dX9_draft_9 (fun H locs hP _ hS => ?_)
  have hP : va_P E.1 vwCl [(h, .inr (9, [.int thrown, .ref nw, .ref td, .ref tx, .int length, .int textSize, .int start, .int next, .int token, .int value, .int error, .int errorAt, .int seen, .int triedWith, .ref rr, .ref ss, .ref tr, .ref wa, .int undos, .ref ud, .ref sl, .ref sv])), (td, .inl (E.2.1, 48, .inl (upd told ((24 + what).toNatClampNeg) v)))] H := hP
  exact x_wv (upd told ((24 + what).toNatClampNeg) v) (by unfold sX9_draft; try rfl) rfl hx hb hr hlk hS hP (hX.d rfl) [0, 1] rfl rfl (Nat.le_of_ble_eq_true rfl) (Nat.le_of_ble_eq_true rfl) dX9_draft_10
def sX9_lifts_l2  (kont_2 : Int32 → (Nat → Int32) → (Nat → Int32)) : Nat → Int32 → (Nat → Int32) → (Nat → Int32)
  | 0, i_2, told_2 => kont_2 i_2 told_2
  | kk_2 + 1, i_2, told_2 =>
    if 24 ≤ i_2 then
      kont_2 i_2 told_2
    else
      sX9_lifts_l2 kont_2 kk_2 (i_2 + 1) (upd told_2 i_2.toNatClampNeg (told_2 ((24 + i_2).toNatClampNeg)))
theorem sX9_lifts_l2_s  (kont_2 : Int32 → (Nat → Int32) → (Nat → Int32)) (kk_2 : Nat) (i_2 : Int32) (told_2 : Nat → Int32) : sX9_lifts_l2 kont_2 (kk_2 + 1) i_2 told_2 =
    if 24 ≤ i_2 then
      kont_2 i_2 told_2
    else
      sX9_lifts_l2 kont_2 kk_2 (i_2 + 1) (upd told_2 i_2.toNatClampNeg (told_2 ((24 + i_2).toNatClampNeg))) := rfl
def sX9_lifts (told : Nat → Int32) : (Nat → Int32) :=
  sX9_lifts_l2 (fun (i_2 : Int32) (told_2 : Nat → Int32) => told_2) 25 0 told
theorem hdX9_lifts : yX9_lifts.cls = RX9 ∧ yX9_lifts.cls ≠ "java/lang/invoke/MethodHandle" ∧ yX9_lifts.cls ≠ "java/lang/invoke/VarHandle" ∧ (parseMethodDescriptor yX9_lifts.desc).map (fun d => d.parameters.length) = some 0 := by decide +kernel
set_option maxHeartbeats 4000000 in
set_option maxRecDepth 100000 in
theorem kX9_lifts (l : Launch) (E : XE) (h : Nat) (thrown : Int32) (nw : Nat) (td : Nat) (tx : Nat) (length : Int32) (textSize : Int32) (start : Int32) (next : Int32) (token : Int32) (value : Int32) (error : Int32) (errorAt : Int32) (seen : Int32) (triedWith : Int32) (rr : Nat) (ss : Nat) (tr : Nat) (wa : Nat) (undos : Int32) (ud : Nat) (sl : Nat) (sv : Nat) (told : Nat → Int32) : xW (T := (Nat → Int32)) l yX9_lifts wsX9_lifts ({ frames := 0, cells := 0, slots := 0, locals := 0 }) E [(h, .inr (9, [.int thrown, .ref nw, .ref td, .ref tx, .int length, .int textSize, .int start, .int next, .int token, .int value, .int error, .int errorAt, .int seen, .int triedWith, .ref rr, .ref ss, .ref tr, .ref wa, .int undos, .ref ud, .ref sl, .ref sv])), (td, .inl (E.2.1, 48, .inl told))] [.ref h] (fun _ => none) (fun q => [(h, .inr (9, [.int thrown, .ref nw, .ref td, .ref tx, .int length, .int textSize, .int start, .int next, .int token, .int value, .int error, .int errorAt, .int seen, .int triedWith, .ref rr, .ref ss, .ref tr, .ref wa, .int undos, .ref ud, .ref sl, .ref sv])), (td, .inl (E.2.1, 48, .inl q))]) (sX9_lifts told) 0 0 := by
  refine xW.of (cc := cX9_lifts) (maxL := 2) (ret := none) (by decide) rfl (Nat.le_of_ble_eq_true rfl) ?_
  intro p e s m args below meth c ls A hM hE hP hD hS hA hl
  obtain ⟨hx, hb, hr, hml, hts, hown, hlk, hnm⟩ := hM
  have g_1 : (Cond.fieldLink RX9 13 "RailPendulumModel" "told" "[I").before args s = true := hts (Cond.fieldLink RX9 13 "RailPendulumModel" "told" "[I") (by decide +kernel)
  have g_2 : ∀ w ∈ wsX90, w ∈ wsX9_lifts := by decide +kernel
  have hX : xD A [h, td] := xD.of hD rfl
  have hl : lv_has ls 2 [(0, .ref h)] := hl
  refine lv_iconst (v := 0) hx hb dX9_lifts_0 (by decide) ?_
  refine lv_istore_n (lv' := [(1, .int 0), (0, .ref h)]) hx hb dX9_lifts_1 rfl hl (by decide) rfl (fun ls hl => ?_)
  have ex_2 : ∀ (i_2 : Int32) (told_2 : Nat → Int32), (¬ i_2 < 0) → ∀ (H : Heap) (locs : List Loc), va_P E.1 vwCl [(h, .inr (9, [.int thrown, .ref nw, .ref td, .ref tx, .int length, .int textSize, .int start, .int next, .int token, .int value, .int error, .int errorAt, .int seen, .int triedWith, .ref rr, .ref ss, .ref tr, .ref wa, .int undos, .ref ud, .ref sl, .ref sv])), (td, .inl (E.2.1, 48, .inl told_2))] H → va_S A s.heap H locs → ∀ (ls : Array Slot), lv_has ls 2 [(0, .ref h), (1, .int i_2)] → (sX9_lifts told) = told_2 → W p l e ({ frames := 0, cells := 0, slots := 0, locals := 0 }) s m args below meth c H locs 0 0 (MQ below (xO (T := (Nat → Int32)) E A (fun _ => none) (fun q => [(h, .inr (9, [.int thrown, .ref nw, .ref td, .ref tx, .int length, .int textSize, .int start, .int next, .int token, .int value, .int error, .int errorAt, .int seen, .int triedWith, .ref rr, .ref ss, .ref tr, .ref wa, .int undos, .ref ud, .ref sl, .ref sv])), (td, .inl (E.2.1, 48, .inl q))]) (sX9_lifts told)) args s 0 0 A) (F0 m 29 ls []) := by
    intro i_2 told_2 hi0_2 H locs hP hS ls hl hx_2
    exact x_wv told_2 (by rw [hx_2]; try rfl) rfl hx hb hr hlk hS hP (hX.d rfl) [0, 1] rfl rfl (Nat.le_of_ble_eq_true rfl) (Nat.le_of_ble_eq_true rfl) dX9_lifts_29
  have lp_2 : ∀ (kk_2 : Nat), ∀ (i_2 : Int32) (told_2 : Nat → Int32), (¬ i_2 < 0) → (xMu 24 i_2) < kk_2 → ∀ (H : Heap) (locs : List Loc), va_P E.1 vwCl [(h, .inr (9, [.int thrown, .ref nw, .ref td, .ref tx, .int length, .int textSize, .int start, .int next, .int token, .int value, .int error, .int errorAt, .int seen, .int triedWith, .ref rr, .ref ss, .ref tr, .ref wa, .int undos, .ref ud, .ref sl, .ref sv])), (td, .inl (E.2.1, 48, .inl told_2))] H → va_S A s.heap H locs → ∀ (ls : Array Slot), lv_has ls 2 [(0, .ref h), (1, .int i_2)] → (sX9_lifts told) = sX9_lifts_l2 (fun (i_2 : Int32) (told_2 : Nat → Int32) => told_2) kk_2 i_2 told_2 → W p l e ({ frames := 0, cells := 0, slots := 0, locals := 0 }) s m args below meth c H locs 0 0 (MQ below (xO (T := (Nat → Int32)) E A (fun _ => none) (fun q => [(h, .inr (9, [.int thrown, .ref nw, .ref td, .ref tx, .int length, .int textSize, .int start, .int next, .int token, .int value, .int error, .int errorAt, .int seen, .int triedWith, .ref rr, .ref ss, .ref tr, .ref wa, .int undos, .ref ud, .ref sl, .ref sv])), (td, .inl (E.2.1, 48, .inl q))]) (sX9_lifts told)) args s 0 0 A) (F0 m 2 ls []) := by
    intro kk_2
    induction kk_2 with
    | zero =>
      intro i_2 told_2 hi0_2 hmu
      exact absurd hmu (Nat.not_lt_zero _)
    | succ kk_2 ih_2 =>
      intro i_2 told_2 hi0_2 hmu H locs hP hS ls hl hlq_2
      refine lv_iload_n hx hb dX9_lifts_2 rfl (lv_at hl 1 rfl) ?_
      refine lv_bipush (v := 24) hx hb dX9_lifts_3 (by decide) ?_
      refine lv_icmp_ge (tgt := 29) hx hb dX9_lifts_5 (by decide) (fun c_1 => ?_) (fun c_1 => ?_)
      · exact ex_2 i_2 told_2 hi0_2 _ _ hP hS ls (lv_sub hl [0, 1] rfl) (by rw [hlq_2]; rw [sX9_lifts_l2_s]; rw [if_pos c_1]; try rfl)
      · refine lv_aload_n hx hb dX9_lifts_8 rfl (lv_at hl 0 rfl) ?_
        refine va_get (D := E.1) (ci := 9) (v := .ref td) (C := RX9) (T := TX9) (N := 22) hx hb hts g_2 hown hE.1 hP 0 rfl rfl 2 (by decide) g_1 (fun _ h9 => h9) rfl dX9_lifts_9 ?_
        refine lv_iload_n hx hb dX9_lifts_12 rfl (lv_at hl 1 rfl) ?_
        refine lv_aload_n hx hb dX9_lifts_13 rfl (lv_at hl 0 rfl) ?_
        refine va_get (D := E.1) (ci := 9) (v := .ref td) (C := RX9) (T := TX9) (N := 22) hx hb hts g_2 hown hE.1 hP 0 rfl rfl 2 (by decide) g_1 (fun _ h9 => h9) rfl dX9_lifts_14 ?_
        refine lv_bipush (v := 24) hx hb dX9_lifts_17 (by decide) ?_
        refine lv_iload_n hx hb dX9_lifts_19 rfl (lv_at hl 1 rfl) ?_
        refine lv_iadd hx hb dX9_lifts_20 ?_
        refine x_iald hx hb hE.1 hP 1 0 rfl rfl ((24 + i_2).toNatClampNeg) rfl (x_in_add hi0_2 c_1 (by decide) (by decide) (by decide)) dX9_lifts_21 ?_
        refine x_iast hx hb hE.1 hP (hX.d rfl) hS 1 0 rfl rfl i_2.toNatClampNeg rfl (x_ink hi0_2 c_1 (by decide)) dX9_lifts_22 (fun H locs hP _ hS => ?_)
        have hP : va_P E.1 vwCl [(h, .inr (9, [.int thrown, .ref nw, .ref td, .ref tx, .int length, .int textSize, .int start, .int next, .int token, .int value, .int error, .int errorAt, .int seen, .int triedWith, .ref rr, .ref ss, .ref tr, .ref wa, .int undos, .ref ud, .ref sl, .ref sv])), (td, .inl (E.2.1, 48, .inl (upd told_2 i_2.toNatClampNeg (told_2 ((24 + i_2).toNatClampNeg)))))] H := hP
        refine lv_iinc (v := i_2 + 1) (lv' := [(1, .int (i_2 + 1)), (0, .ref h)]) hx hb dX9_lifts_23 hl (k := 1) rfl (by rfl) (by decide) rfl (fun ls hl => ?_)
        refine lv_goto (tgt := 2) hx hb dX9_lifts_26 (by decide) ?_
        exact ih_2 (i_2 + 1) (upd told_2 i_2.toNatClampNeg (told_2 ((24 + i_2).toNatClampNeg))) (x_step hi0_2 c_1) (x_mu hi0_2 c_1 hmu) _ _ hP hS ls (lv_sub hl [1, 0] rfl) (by rw [hlq_2]; rw [sX9_lifts_l2_s]; rw [if_neg c_1]; try rfl)
  exact lp_2 25 0 told (by decide) (by decide) _ _ hP hS ls (lv_sub hl [1, 0] rfl) (by unfold sX9_lifts; try rfl)
def sX9_clearDraft_l2  (kont_2 : Int32 → (Nat → Int32) → (Nat → Int32)) : Nat → Int32 → (Nat → Int32) → (Nat → Int32)
  | 0, i_2, told_2 => kont_2 i_2 told_2
  | kk_2 + 1, i_2, told_2 =>
    if 24 ≤ i_2 then
      kont_2 i_2 told_2
    else
      sX9_clearDraft_l2 kont_2 kk_2 (i_2 + 1) (sX9_draft told_2 i_2 0)
theorem sX9_clearDraft_l2_s  (kont_2 : Int32 → (Nat → Int32) → (Nat → Int32)) (kk_2 : Nat) (i_2 : Int32) (told_2 : Nat → Int32) : sX9_clearDraft_l2 kont_2 (kk_2 + 1) i_2 told_2 =
    if 24 ≤ i_2 then
      kont_2 i_2 told_2
    else
      sX9_clearDraft_l2 kont_2 kk_2 (i_2 + 1) (sX9_draft told_2 i_2 0) := rfl
def sX9_clearDraft (told : Nat → Int32) : (Nat → Int32) :=
  sX9_clearDraft_l2 (fun (i_2 : Int32) (told_2 : Nat → Int32) => (sX9_draft (sX9_draft (sX9_draft (sX9_draft (sX9_draft (sX9_draft (sX9_draft (sX9_draft (sX9_draft (sX9_draft (sX9_draft (sX9_draft (sX9_draft (sX9_draft (sX9_draft (sX9_draft (sX9_draft (sX9_draft (sX9_draft (sX9_draft (sX9_draft (sX9_draft told_2 0 4000) 1 40) 2 60) 3 8) 4 8) 5 1) 6 1) 7 60) 8 10) 9 4) 10 8) 11 4) 12 8) 15 64) 16 32) 17 2) 18 60) 19 512) 20 1500) 21 4) 22 50) 23 100)) 25 0 told
theorem hdX9_clearDraft : yX9_clearDraft.cls = RX9 ∧ yX9_clearDraft.cls ≠ "java/lang/invoke/MethodHandle" ∧ yX9_clearDraft.cls ≠ "java/lang/invoke/VarHandle" ∧ (parseMethodDescriptor yX9_clearDraft.desc).map (fun d => d.parameters.length) = some 0 := by decide +kernel
set_option maxHeartbeats 4000000 in
set_option maxRecDepth 100000 in
theorem kX9_clearDraft (l : Launch) (E : XE) (h : Nat) (thrown : Int32) (nw : Nat) (td : Nat) (tx : Nat) (length : Int32) (textSize : Int32) (start : Int32) (next : Int32) (token : Int32) (value : Int32) (error : Int32) (errorAt : Int32) (seen : Int32) (triedWith : Int32) (rr : Nat) (ss : Nat) (tr : Nat) (wa : Nat) (undos : Int32) (ud : Nat) (sl : Nat) (sv : Nat) (told : Nat → Int32) : xW (T := (Nat → Int32)) l yX9_clearDraft wsX9_clearDraft ({ frames := 1, cells := 0, slots := 0, locals := 22 }) E [(h, .inr (9, [.int thrown, .ref nw, .ref td, .ref tx, .int length, .int textSize, .int start, .int next, .int token, .int value, .int error, .int errorAt, .int seen, .int triedWith, .ref rr, .ref ss, .ref tr, .ref wa, .int undos, .ref ud, .ref sl, .ref sv])), (td, .inl (E.2.1, 48, .inl told))] [.ref h] (fun _ => none) (fun q => [(h, .inr (9, [.int thrown, .ref nw, .ref td, .ref tx, .int length, .int textSize, .int start, .int next, .int token, .int value, .int error, .int errorAt, .int seen, .int triedWith, .ref rr, .ref ss, .ref tr, .ref wa, .int undos, .ref ud, .ref sl, .ref sv])), (td, .inl (E.2.1, 48, .inl q))]) (sX9_clearDraft told) 0 0 := by
  refine xW.of (cc := cX9_clearDraft) (maxL := 2) (ret := none) (by decide) rfl (Nat.le_of_ble_eq_true rfl) ?_
  intro p e s m args below meth c ls A hM hE hP hD hS hA hl
  obtain ⟨hx, hb, hr, hml, hts, hown, hlk, hnm⟩ := hM
  have hX : xD A [h, td] := xD.of hD rfl
  have hl : lv_has ls 2 [(0, .ref h)] := hl
  refine lv_iconst (v := 0) hx hb dX9_clearDraft_0 (by decide) ?_
  refine lv_istore_n (lv' := [(1, .int 0), (0, .ref h)]) hx hb dX9_clearDraft_1 rfl hl (by decide) rfl (fun ls hl => ?_)
  have ex_2 : ∀ (i_2 : Int32) (told_2 : Nat → Int32), (¬ i_2 < 0) → ∀ (H : Heap) (locs : List Loc), va_P E.1 vwCl [(h, .inr (9, [.int thrown, .ref nw, .ref td, .ref tx, .int length, .int textSize, .int start, .int next, .int token, .int value, .int error, .int errorAt, .int seen, .int triedWith, .ref rr, .ref ss, .ref tr, .ref wa, .int undos, .ref ud, .ref sl, .ref sv])), (td, .inl (E.2.1, 48, .inl told_2))] H → va_S A s.heap H locs → ∀ (ls : Array Slot), lv_has ls 2 [(0, .ref h), (1, .int i_2)] → (sX9_clearDraft told) = (sX9_draft (sX9_draft (sX9_draft (sX9_draft (sX9_draft (sX9_draft (sX9_draft (sX9_draft (sX9_draft (sX9_draft (sX9_draft (sX9_draft (sX9_draft (sX9_draft (sX9_draft (sX9_draft (sX9_draft (sX9_draft (sX9_draft (sX9_draft (sX9_draft (sX9_draft told_2 0 4000) 1 40) 2 60) 3 8) 4 8) 5 1) 6 1) 7 60) 8 10) 9 4) 10 8) 11 4) 12 8) 15 64) 16 32) 17 2) 18 60) 19 512) 20 1500) 21 4) 22 50) 23 100) → W p l e ({ frames := 1, cells := 0, slots := 0, locals := 22 }) s m args below meth c H locs 0 0 (MQ below (xO (T := (Nat → Int32)) E A (fun _ => none) (fun q => [(h, .inr (9, [.int thrown, .ref nw, .ref td, .ref tx, .int length, .int textSize, .int start, .int next, .int token, .int value, .int error, .int errorAt, .int seen, .int triedWith, .ref rr, .ref ss, .ref tr, .ref wa, .int undos, .ref ud, .ref sl, .ref sv])), (td, .inl (E.2.1, 48, .inl q))]) (sX9_clearDraft told)) args s 0 0 A) (F0 m 20 ls []) := by
    intro i_2 told_2 hi0_2 H locs hP hS ls hl hx_2
    refine lv_aload_n hx hb dX9_clearDraft_20 rfl (lv_at hl 0 rfl) ?_
    refine lv_iconst (v := 0) hx hb dX9_clearDraft_21 (by decide) ?_
    refine lv_sipush (v := 4000) hx hb dX9_clearDraft_22 (by decide) ?_
    refine x_wV (wr := []) [.int 0, .int 4000] (kX9_draft l E h thrown nw td tx length textSize start next token value error errorAt seen triedWith rr ss tr wa undos ud sl sv told_2 0 4000 (by decide) (by decide)) ⟨hx, hb, hml, hown, hts⟩ (cwV 2 hts gX9_clearDraft_X9_draft rfl rfl rfl hdX9_draft ⟨Nat.le_of_ble_eq_true rfl, Nat.le_of_ble_eq_true rfl⟩) hE hP (hX.d rfl) hS hA [0, 1] [] rfl rfl rfl rfl (by decide) (ci := 9) (q0 := 0) rfl rfl rfl hl.1 rfl rfl (Nat.le_of_ble_eq_true rfl) dX9_clearDraft_25 (Nat.le_of_ble_eq_true rfl) (Nat.le_of_ble_eq_true rfl) (fun q_1 H locs hq_1 hP hD hS => ?_)
    subst hq_1
    have hP : va_P E.1 vwCl [(h, .inr (9, [.int thrown, .ref nw, .ref td, .ref tx, .int length, .int textSize, .int start, .int next, .int token, .int value, .int error, .int errorAt, .int seen, .int triedWith, .ref rr, .ref ss, .ref tr, .ref wa, .int undos, .ref ud, .ref sl, .ref sv])), (td, .inl (E.2.1, 48, .inl (sX9_draft told_2 0 4000)))] H := hP
    have hX : xD A [h, td] := xD.of hD rfl
    refine W.eq (g2 := F0 m 28 ls []) rfl ?_
    refine lv_aload_n hx hb dX9_clearDraft_28 rfl (lv_at hl 0 rfl) ?_
    refine lv_iconst (v := 1) hx hb dX9_clearDraft_29 (by decide) ?_
    refine lv_bipush (v := 40) hx hb dX9_clearDraft_30 (by decide) ?_
    refine x_wV (wr := []) [.int 1, .int 40] (kX9_draft l E h thrown nw td tx length textSize start next token value error errorAt seen triedWith rr ss tr wa undos ud sl sv (sX9_draft told_2 0 4000) 1 40 (by decide) (by decide)) ⟨hx, hb, hml, hown, hts⟩ (cwV 2 hts gX9_clearDraft_X9_draft rfl rfl rfl hdX9_draft ⟨Nat.le_of_ble_eq_true rfl, Nat.le_of_ble_eq_true rfl⟩) hE hP (hX.d rfl) hS hA [0, 1] [] rfl rfl rfl rfl (by decide) (ci := 9) (q0 := 0) rfl rfl rfl hl.1 rfl rfl (Nat.le_of_ble_eq_true rfl) dX9_clearDraft_32 (Nat.le_of_ble_eq_true rfl) (Nat.le_of_ble_eq_true rfl) (fun q_2 H locs hq_2 hP hD hS => ?_)
    subst hq_2
    have hP : va_P E.1 vwCl [(h, .inr (9, [.int thrown, .ref nw, .ref td, .ref tx, .int length, .int textSize, .int start, .int next, .int token, .int value, .int error, .int errorAt, .int seen, .int triedWith, .ref rr, .ref ss, .ref tr, .ref wa, .int undos, .ref ud, .ref sl, .ref sv])), (td, .inl (E.2.1, 48, .inl (sX9_draft (sX9_draft told_2 0 4000) 1 40)))] H := hP
    have hX : xD A [h, td] := xD.of hD rfl
    refine W.eq (g2 := F0 m 35 ls []) rfl ?_
    refine lv_aload_n hx hb dX9_clearDraft_35 rfl (lv_at hl 0 rfl) ?_
    refine lv_iconst (v := 2) hx hb dX9_clearDraft_36 (by decide) ?_
    refine lv_bipush (v := 60) hx hb dX9_clearDraft_37 (by decide) ?_
    refine x_wV (wr := []) [.int 2, .int 60] (kX9_draft l E h thrown nw td tx length textSize start next token value error errorAt seen triedWith rr ss tr wa undos ud sl sv (sX9_draft (sX9_draft told_2 0 4000) 1 40) 2 60 (by decide) (by decide)) ⟨hx, hb, hml, hown, hts⟩ (cwV 2 hts gX9_clearDraft_X9_draft rfl rfl rfl hdX9_draft ⟨Nat.le_of_ble_eq_true rfl, Nat.le_of_ble_eq_true rfl⟩) hE hP (hX.d rfl) hS hA [0, 1] [] rfl rfl rfl rfl (by decide) (ci := 9) (q0 := 0) rfl rfl rfl hl.1 rfl rfl (Nat.le_of_ble_eq_true rfl) dX9_clearDraft_39 (Nat.le_of_ble_eq_true rfl) (Nat.le_of_ble_eq_true rfl) (fun q_3 H locs hq_3 hP hD hS => ?_)
    subst hq_3
    have hP : va_P E.1 vwCl [(h, .inr (9, [.int thrown, .ref nw, .ref td, .ref tx, .int length, .int textSize, .int start, .int next, .int token, .int value, .int error, .int errorAt, .int seen, .int triedWith, .ref rr, .ref ss, .ref tr, .ref wa, .int undos, .ref ud, .ref sl, .ref sv])), (td, .inl (E.2.1, 48, .inl (sX9_draft (sX9_draft (sX9_draft told_2 0 4000) 1 40) 2 60)))] H := hP
    have hX : xD A [h, td] := xD.of hD rfl
    refine W.eq (g2 := F0 m 42 ls []) rfl ?_
    refine lv_aload_n hx hb dX9_clearDraft_42 rfl (lv_at hl 0 rfl) ?_
    refine lv_iconst (v := 3) hx hb dX9_clearDraft_43 (by decide) ?_
    refine lv_bipush (v := 8) hx hb dX9_clearDraft_44 (by decide) ?_
    refine x_wV (wr := []) [.int 3, .int 8] (kX9_draft l E h thrown nw td tx length textSize start next token value error errorAt seen triedWith rr ss tr wa undos ud sl sv (sX9_draft (sX9_draft (sX9_draft told_2 0 4000) 1 40) 2 60) 3 8 (by decide) (by decide)) ⟨hx, hb, hml, hown, hts⟩ (cwV 2 hts gX9_clearDraft_X9_draft rfl rfl rfl hdX9_draft ⟨Nat.le_of_ble_eq_true rfl, Nat.le_of_ble_eq_true rfl⟩) hE hP (hX.d rfl) hS hA [0, 1] [] rfl rfl rfl rfl (by decide) (ci := 9) (q0 := 0) rfl rfl rfl hl.1 rfl rfl (Nat.le_of_ble_eq_true rfl) dX9_clearDraft_46 (Nat.le_of_ble_eq_true rfl) (Nat.le_of_ble_eq_true rfl) (fun q_4 H locs hq_4 hP hD hS => ?_)
    subst hq_4
    have hP : va_P E.1 vwCl [(h, .inr (9, [.int thrown, .ref nw, .ref td, .ref tx, .int length, .int textSize, .int start, .int next, .int token, .int value, .int error, .int errorAt, .int seen, .int triedWith, .ref rr, .ref ss, .ref tr, .ref wa, .int undos, .ref ud, .ref sl, .ref sv])), (td, .inl (E.2.1, 48, .inl (sX9_draft (sX9_draft (sX9_draft (sX9_draft told_2 0 4000) 1 40) 2 60) 3 8)))] H := hP
    have hX : xD A [h, td] := xD.of hD rfl
    refine W.eq (g2 := F0 m 49 ls []) rfl ?_
    refine lv_aload_n hx hb dX9_clearDraft_49 rfl (lv_at hl 0 rfl) ?_
    refine lv_iconst (v := 4) hx hb dX9_clearDraft_50 (by decide) ?_
    refine lv_bipush (v := 8) hx hb dX9_clearDraft_51 (by decide) ?_
    refine x_wV (wr := []) [.int 4, .int 8] (kX9_draft l E h thrown nw td tx length textSize start next token value error errorAt seen triedWith rr ss tr wa undos ud sl sv (sX9_draft (sX9_draft (sX9_draft (sX9_draft told_2 0 4000) 1 40) 2 60) 3 8) 4 8 (by decide) (by decide)) ⟨hx, hb, hml, hown, hts⟩ (cwV 2 hts gX9_clearDraft_X9_draft rfl rfl rfl hdX9_draft ⟨Nat.le_of_ble_eq_true rfl, Nat.le_of_ble_eq_true rfl⟩) hE hP (hX.d rfl) hS hA [0, 1] [] rfl rfl rfl rfl (by decide) (ci := 9) (q0 := 0) rfl rfl rfl hl.1 rfl rfl (Nat.le_of_ble_eq_true rfl) dX9_clearDraft_53 (Nat.le_of_ble_eq_true rfl) (Nat.le_of_ble_eq_true rfl) (fun q_5 H locs hq_5 hP hD hS => ?_)
    subst hq_5
    have hP : va_P E.1 vwCl [(h, .inr (9, [.int thrown, .ref nw, .ref td, .ref tx, .int length, .int textSize, .int start, .int next, .int token, .int value, .int error, .int errorAt, .int seen, .int triedWith, .ref rr, .ref ss, .ref tr, .ref wa, .int undos, .ref ud, .ref sl, .ref sv])), (td, .inl (E.2.1, 48, .inl (sX9_draft (sX9_draft (sX9_draft (sX9_draft (sX9_draft told_2 0 4000) 1 40) 2 60) 3 8) 4 8)))] H := hP
    have hX : xD A [h, td] := xD.of hD rfl
    refine W.eq (g2 := F0 m 56 ls []) rfl ?_
    refine lv_aload_n hx hb dX9_clearDraft_56 rfl (lv_at hl 0 rfl) ?_
    refine lv_iconst (v := 5) hx hb dX9_clearDraft_57 (by decide) ?_
    refine lv_iconst (v := 1) hx hb dX9_clearDraft_58 (by decide) ?_
    refine x_wV (wr := []) [.int 5, .int 1] (kX9_draft l E h thrown nw td tx length textSize start next token value error errorAt seen triedWith rr ss tr wa undos ud sl sv (sX9_draft (sX9_draft (sX9_draft (sX9_draft (sX9_draft told_2 0 4000) 1 40) 2 60) 3 8) 4 8) 5 1 (by decide) (by decide)) ⟨hx, hb, hml, hown, hts⟩ (cwV 2 hts gX9_clearDraft_X9_draft rfl rfl rfl hdX9_draft ⟨Nat.le_of_ble_eq_true rfl, Nat.le_of_ble_eq_true rfl⟩) hE hP (hX.d rfl) hS hA [0, 1] [] rfl rfl rfl rfl (by decide) (ci := 9) (q0 := 0) rfl rfl rfl hl.1 rfl rfl (Nat.le_of_ble_eq_true rfl) dX9_clearDraft_59 (Nat.le_of_ble_eq_true rfl) (Nat.le_of_ble_eq_true rfl) (fun q_6 H locs hq_6 hP hD hS => ?_)
    subst hq_6
    have hP : va_P E.1 vwCl [(h, .inr (9, [.int thrown, .ref nw, .ref td, .ref tx, .int length, .int textSize, .int start, .int next, .int token, .int value, .int error, .int errorAt, .int seen, .int triedWith, .ref rr, .ref ss, .ref tr, .ref wa, .int undos, .ref ud, .ref sl, .ref sv])), (td, .inl (E.2.1, 48, .inl (sX9_draft (sX9_draft (sX9_draft (sX9_draft (sX9_draft (sX9_draft told_2 0 4000) 1 40) 2 60) 3 8) 4 8) 5 1)))] H := hP
    have hX : xD A [h, td] := xD.of hD rfl
    refine W.eq (g2 := F0 m 62 ls []) rfl ?_
    refine lv_aload_n hx hb dX9_clearDraft_62 rfl (lv_at hl 0 rfl) ?_
    refine lv_bipush (v := 6) hx hb dX9_clearDraft_63 (by decide) ?_
    refine lv_iconst (v := 1) hx hb dX9_clearDraft_65 (by decide) ?_
    refine x_wV (wr := []) [.int 6, .int 1] (kX9_draft l E h thrown nw td tx length textSize start next token value error errorAt seen triedWith rr ss tr wa undos ud sl sv (sX9_draft (sX9_draft (sX9_draft (sX9_draft (sX9_draft (sX9_draft told_2 0 4000) 1 40) 2 60) 3 8) 4 8) 5 1) 6 1 (by decide) (by decide)) ⟨hx, hb, hml, hown, hts⟩ (cwV 2 hts gX9_clearDraft_X9_draft rfl rfl rfl hdX9_draft ⟨Nat.le_of_ble_eq_true rfl, Nat.le_of_ble_eq_true rfl⟩) hE hP (hX.d rfl) hS hA [0, 1] [] rfl rfl rfl rfl (by decide) (ci := 9) (q0 := 0) rfl rfl rfl hl.1 rfl rfl (Nat.le_of_ble_eq_true rfl) dX9_clearDraft_66 (Nat.le_of_ble_eq_true rfl) (Nat.le_of_ble_eq_true rfl) (fun q_7 H locs hq_7 hP hD hS => ?_)
    subst hq_7
    have hP : va_P E.1 vwCl [(h, .inr (9, [.int thrown, .ref nw, .ref td, .ref tx, .int length, .int textSize, .int start, .int next, .int token, .int value, .int error, .int errorAt, .int seen, .int triedWith, .ref rr, .ref ss, .ref tr, .ref wa, .int undos, .ref ud, .ref sl, .ref sv])), (td, .inl (E.2.1, 48, .inl (sX9_draft (sX9_draft (sX9_draft (sX9_draft (sX9_draft (sX9_draft (sX9_draft told_2 0 4000) 1 40) 2 60) 3 8) 4 8) 5 1) 6 1)))] H := hP
    have hX : xD A [h, td] := xD.of hD rfl
    refine W.eq (g2 := F0 m 69 ls []) rfl ?_
    refine lv_aload_n hx hb dX9_clearDraft_69 rfl (lv_at hl 0 rfl) ?_
    refine lv_bipush (v := 7) hx hb dX9_clearDraft_70 (by decide) ?_
    refine lv_bipush (v := 60) hx hb dX9_clearDraft_72 (by decide) ?_
    refine x_wV (wr := []) [.int 7, .int 60] (kX9_draft l E h thrown nw td tx length textSize start next token value error errorAt seen triedWith rr ss tr wa undos ud sl sv (sX9_draft (sX9_draft (sX9_draft (sX9_draft (sX9_draft (sX9_draft (sX9_draft told_2 0 4000) 1 40) 2 60) 3 8) 4 8) 5 1) 6 1) 7 60 (by decide) (by decide)) ⟨hx, hb, hml, hown, hts⟩ (cwV 2 hts gX9_clearDraft_X9_draft rfl rfl rfl hdX9_draft ⟨Nat.le_of_ble_eq_true rfl, Nat.le_of_ble_eq_true rfl⟩) hE hP (hX.d rfl) hS hA [0, 1] [] rfl rfl rfl rfl (by decide) (ci := 9) (q0 := 0) rfl rfl rfl hl.1 rfl rfl (Nat.le_of_ble_eq_true rfl) dX9_clearDraft_74 (Nat.le_of_ble_eq_true rfl) (Nat.le_of_ble_eq_true rfl) (fun q_8 H locs hq_8 hP hD hS => ?_)
    subst hq_8
    have hP : va_P E.1 vwCl [(h, .inr (9, [.int thrown, .ref nw, .ref td, .ref tx, .int length, .int textSize, .int start, .int next, .int token, .int value, .int error, .int errorAt, .int seen, .int triedWith, .ref rr, .ref ss, .ref tr, .ref wa, .int undos, .ref ud, .ref sl, .ref sv])), (td, .inl (E.2.1, 48, .inl (sX9_draft (sX9_draft (sX9_draft (sX9_draft (sX9_draft (sX9_draft (sX9_draft (sX9_draft told_2 0 4000) 1 40) 2 60) 3 8) 4 8) 5 1) 6 1) 7 60)))] H := hP
    have hX : xD A [h, td] := xD.of hD rfl
    refine W.eq (g2 := F0 m 77 ls []) rfl ?_
    refine lv_aload_n hx hb dX9_clearDraft_77 rfl (lv_at hl 0 rfl) ?_
    refine lv_bipush (v := 8) hx hb dX9_clearDraft_78 (by decide) ?_
    refine lv_bipush (v := 10) hx hb dX9_clearDraft_80 (by decide) ?_
    refine x_wV (wr := []) [.int 8, .int 10] (kX9_draft l E h thrown nw td tx length textSize start next token value error errorAt seen triedWith rr ss tr wa undos ud sl sv (sX9_draft (sX9_draft (sX9_draft (sX9_draft (sX9_draft (sX9_draft (sX9_draft (sX9_draft told_2 0 4000) 1 40) 2 60) 3 8) 4 8) 5 1) 6 1) 7 60) 8 10 (by decide) (by decide)) ⟨hx, hb, hml, hown, hts⟩ (cwV 2 hts gX9_clearDraft_X9_draft rfl rfl rfl hdX9_draft ⟨Nat.le_of_ble_eq_true rfl, Nat.le_of_ble_eq_true rfl⟩) hE hP (hX.d rfl) hS hA [0, 1] [] rfl rfl rfl rfl (by decide) (ci := 9) (q0 := 0) rfl rfl rfl hl.1 rfl rfl (Nat.le_of_ble_eq_true rfl) dX9_clearDraft_82 (Nat.le_of_ble_eq_true rfl) (Nat.le_of_ble_eq_true rfl) (fun q_9 H locs hq_9 hP hD hS => ?_)
    subst hq_9
    have hP : va_P E.1 vwCl [(h, .inr (9, [.int thrown, .ref nw, .ref td, .ref tx, .int length, .int textSize, .int start, .int next, .int token, .int value, .int error, .int errorAt, .int seen, .int triedWith, .ref rr, .ref ss, .ref tr, .ref wa, .int undos, .ref ud, .ref sl, .ref sv])), (td, .inl (E.2.1, 48, .inl (sX9_draft (sX9_draft (sX9_draft (sX9_draft (sX9_draft (sX9_draft (sX9_draft (sX9_draft (sX9_draft told_2 0 4000) 1 40) 2 60) 3 8) 4 8) 5 1) 6 1) 7 60) 8 10)))] H := hP
    have hX : xD A [h, td] := xD.of hD rfl
    refine W.eq (g2 := F0 m 85 ls []) rfl ?_
    refine lv_aload_n hx hb dX9_clearDraft_85 rfl (lv_at hl 0 rfl) ?_
    refine lv_bipush (v := 9) hx hb dX9_clearDraft_86 (by decide) ?_
    refine lv_iconst (v := 4) hx hb dX9_clearDraft_88 (by decide) ?_
    refine x_wV (wr := []) [.int 9, .int 4] (kX9_draft l E h thrown nw td tx length textSize start next token value error errorAt seen triedWith rr ss tr wa undos ud sl sv (sX9_draft (sX9_draft (sX9_draft (sX9_draft (sX9_draft (sX9_draft (sX9_draft (sX9_draft (sX9_draft told_2 0 4000) 1 40) 2 60) 3 8) 4 8) 5 1) 6 1) 7 60) 8 10) 9 4 (by decide) (by decide)) ⟨hx, hb, hml, hown, hts⟩ (cwV 2 hts gX9_clearDraft_X9_draft rfl rfl rfl hdX9_draft ⟨Nat.le_of_ble_eq_true rfl, Nat.le_of_ble_eq_true rfl⟩) hE hP (hX.d rfl) hS hA [0, 1] [] rfl rfl rfl rfl (by decide) (ci := 9) (q0 := 0) rfl rfl rfl hl.1 rfl rfl (Nat.le_of_ble_eq_true rfl) dX9_clearDraft_89 (Nat.le_of_ble_eq_true rfl) (Nat.le_of_ble_eq_true rfl) (fun q_10 H locs hq_10 hP hD hS => ?_)
    subst hq_10
    have hP : va_P E.1 vwCl [(h, .inr (9, [.int thrown, .ref nw, .ref td, .ref tx, .int length, .int textSize, .int start, .int next, .int token, .int value, .int error, .int errorAt, .int seen, .int triedWith, .ref rr, .ref ss, .ref tr, .ref wa, .int undos, .ref ud, .ref sl, .ref sv])), (td, .inl (E.2.1, 48, .inl (sX9_draft (sX9_draft (sX9_draft (sX9_draft (sX9_draft (sX9_draft (sX9_draft (sX9_draft (sX9_draft (sX9_draft told_2 0 4000) 1 40) 2 60) 3 8) 4 8) 5 1) 6 1) 7 60) 8 10) 9 4)))] H := hP
    have hX : xD A [h, td] := xD.of hD rfl
    refine W.eq (g2 := F0 m 92 ls []) rfl ?_
    refine lv_aload_n hx hb dX9_clearDraft_92 rfl (lv_at hl 0 rfl) ?_
    refine lv_bipush (v := 10) hx hb dX9_clearDraft_93 (by decide) ?_
    refine lv_bipush (v := 8) hx hb dX9_clearDraft_95 (by decide) ?_
    refine x_wV (wr := []) [.int 10, .int 8] (kX9_draft l E h thrown nw td tx length textSize start next token value error errorAt seen triedWith rr ss tr wa undos ud sl sv (sX9_draft (sX9_draft (sX9_draft (sX9_draft (sX9_draft (sX9_draft (sX9_draft (sX9_draft (sX9_draft (sX9_draft told_2 0 4000) 1 40) 2 60) 3 8) 4 8) 5 1) 6 1) 7 60) 8 10) 9 4) 10 8 (by decide) (by decide)) ⟨hx, hb, hml, hown, hts⟩ (cwV 2 hts gX9_clearDraft_X9_draft rfl rfl rfl hdX9_draft ⟨Nat.le_of_ble_eq_true rfl, Nat.le_of_ble_eq_true rfl⟩) hE hP (hX.d rfl) hS hA [0, 1] [] rfl rfl rfl rfl (by decide) (ci := 9) (q0 := 0) rfl rfl rfl hl.1 rfl rfl (Nat.le_of_ble_eq_true rfl) dX9_clearDraft_97 (Nat.le_of_ble_eq_true rfl) (Nat.le_of_ble_eq_true rfl) (fun q_11 H locs hq_11 hP hD hS => ?_)
    subst hq_11
    have hP : va_P E.1 vwCl [(h, .inr (9, [.int thrown, .ref nw, .ref td, .ref tx, .int length, .int textSize, .int start, .int next, .int token, .int value, .int error, .int errorAt, .int seen, .int triedWith, .ref rr, .ref ss, .ref tr, .ref wa, .int undos, .ref ud, .ref sl, .ref sv])), (td, .inl (E.2.1, 48, .inl (sX9_draft (sX9_draft (sX9_draft (sX9_draft (sX9_draft (sX9_draft (sX9_draft (sX9_draft (sX9_draft (sX9_draft (sX9_draft told_2 0 4000) 1 40) 2 60) 3 8) 4 8) 5 1) 6 1) 7 60) 8 10) 9 4) 10 8)))] H := hP
    have hX : xD A [h, td] := xD.of hD rfl
    refine W.eq (g2 := F0 m 100 ls []) rfl ?_
    refine lv_aload_n hx hb dX9_clearDraft_100 rfl (lv_at hl 0 rfl) ?_
    refine lv_bipush (v := 11) hx hb dX9_clearDraft_101 (by decide) ?_
    refine lv_iconst (v := 4) hx hb dX9_clearDraft_103 (by decide) ?_
    refine x_wV (wr := []) [.int 11, .int 4] (kX9_draft l E h thrown nw td tx length textSize start next token value error errorAt seen triedWith rr ss tr wa undos ud sl sv (sX9_draft (sX9_draft (sX9_draft (sX9_draft (sX9_draft (sX9_draft (sX9_draft (sX9_draft (sX9_draft (sX9_draft (sX9_draft told_2 0 4000) 1 40) 2 60) 3 8) 4 8) 5 1) 6 1) 7 60) 8 10) 9 4) 10 8) 11 4 (by decide) (by decide)) ⟨hx, hb, hml, hown, hts⟩ (cwV 2 hts gX9_clearDraft_X9_draft rfl rfl rfl hdX9_draft ⟨Nat.le_of_ble_eq_true rfl, Nat.le_of_ble_eq_true rfl⟩) hE hP (hX.d rfl) hS hA [0, 1] [] rfl rfl rfl rfl (by decide) (ci := 9) (q0 := 0) rfl rfl rfl hl.1 rfl rfl (Nat.le_of_ble_eq_true rfl) dX9_clearDraft_104 (Nat.le_of_ble_eq_true rfl) (Nat.le_of_ble_eq_true rfl) (fun q_12 H locs hq_12 hP hD hS => ?_)
    subst hq_12
    have hP : va_P E.1 vwCl [(h, .inr (9, [.int thrown, .ref nw, .ref td, .ref tx, .int length, .int textSize, .int start, .int next, .int token, .int value, .int error, .int errorAt, .int seen, .int triedWith, .ref rr, .ref ss, .ref tr, .ref wa, .int undos, .ref ud, .ref sl, .ref sv])), (td, .inl (E.2.1, 48, .inl (sX9_draft (sX9_draft (sX9_draft (sX9_draft (sX9_draft (sX9_draft (sX9_draft (sX9_draft (sX9_draft (sX9_draft (sX9_draft (sX9_draft told_2 0 4000) 1 40) 2 60) 3 8) 4 8) 5 1) 6 1) 7 60) 8 10) 9 4) 10 8) 11 4)))] H := hP
    have hX : xD A [h, td] := xD.of hD rfl
    refine W.eq (g2 := F0 m 107 ls []) rfl ?_
    refine lv_aload_n hx hb dX9_clearDraft_107 rfl (lv_at hl 0 rfl) ?_
    refine lv_bipush (v := 12) hx hb dX9_clearDraft_108 (by decide) ?_
    refine lv_bipush (v := 8) hx hb dX9_clearDraft_110 (by decide) ?_
    refine x_wV (wr := []) [.int 12, .int 8] (kX9_draft l E h thrown nw td tx length textSize start next token value error errorAt seen triedWith rr ss tr wa undos ud sl sv (sX9_draft (sX9_draft (sX9_draft (sX9_draft (sX9_draft (sX9_draft (sX9_draft (sX9_draft (sX9_draft (sX9_draft (sX9_draft (sX9_draft told_2 0 4000) 1 40) 2 60) 3 8) 4 8) 5 1) 6 1) 7 60) 8 10) 9 4) 10 8) 11 4) 12 8 (by decide) (by decide)) ⟨hx, hb, hml, hown, hts⟩ (cwV 2 hts gX9_clearDraft_X9_draft rfl rfl rfl hdX9_draft ⟨Nat.le_of_ble_eq_true rfl, Nat.le_of_ble_eq_true rfl⟩) hE hP (hX.d rfl) hS hA [0, 1] [] rfl rfl rfl rfl (by decide) (ci := 9) (q0 := 0) rfl rfl rfl hl.1 rfl rfl (Nat.le_of_ble_eq_true rfl) dX9_clearDraft_112 (Nat.le_of_ble_eq_true rfl) (Nat.le_of_ble_eq_true rfl) (fun q_13 H locs hq_13 hP hD hS => ?_)
    subst hq_13
    have hP : va_P E.1 vwCl [(h, .inr (9, [.int thrown, .ref nw, .ref td, .ref tx, .int length, .int textSize, .int start, .int next, .int token, .int value, .int error, .int errorAt, .int seen, .int triedWith, .ref rr, .ref ss, .ref tr, .ref wa, .int undos, .ref ud, .ref sl, .ref sv])), (td, .inl (E.2.1, 48, .inl (sX9_draft (sX9_draft (sX9_draft (sX9_draft (sX9_draft (sX9_draft (sX9_draft (sX9_draft (sX9_draft (sX9_draft (sX9_draft (sX9_draft (sX9_draft told_2 0 4000) 1 40) 2 60) 3 8) 4 8) 5 1) 6 1) 7 60) 8 10) 9 4) 10 8) 11 4) 12 8)))] H := hP
    have hX : xD A [h, td] := xD.of hD rfl
    refine W.eq (g2 := F0 m 115 ls []) rfl ?_
    refine lv_aload_n hx hb dX9_clearDraft_115 rfl (lv_at hl 0 rfl) ?_
    refine lv_bipush (v := 15) hx hb dX9_clearDraft_116 (by decide) ?_
    refine lv_bipush (v := 64) hx hb dX9_clearDraft_118 (by decide) ?_
    refine x_wV (wr := []) [.int 15, .int 64] (kX9_draft l E h thrown nw td tx length textSize start next token value error errorAt seen triedWith rr ss tr wa undos ud sl sv (sX9_draft (sX9_draft (sX9_draft (sX9_draft (sX9_draft (sX9_draft (sX9_draft (sX9_draft (sX9_draft (sX9_draft (sX9_draft (sX9_draft (sX9_draft told_2 0 4000) 1 40) 2 60) 3 8) 4 8) 5 1) 6 1) 7 60) 8 10) 9 4) 10 8) 11 4) 12 8) 15 64 (by decide) (by decide)) ⟨hx, hb, hml, hown, hts⟩ (cwV 2 hts gX9_clearDraft_X9_draft rfl rfl rfl hdX9_draft ⟨Nat.le_of_ble_eq_true rfl, Nat.le_of_ble_eq_true rfl⟩) hE hP (hX.d rfl) hS hA [0, 1] [] rfl rfl rfl rfl (by decide) (ci := 9) (q0 := 0) rfl rfl rfl hl.1 rfl rfl (Nat.le_of_ble_eq_true rfl) dX9_clearDraft_120 (Nat.le_of_ble_eq_true rfl) (Nat.le_of_ble_eq_true rfl) (fun q_14 H locs hq_14 hP hD hS => ?_)
    subst hq_14
    have hP : va_P E.1 vwCl [(h, .inr (9, [.int thrown, .ref nw, .ref td, .ref tx, .int length, .int textSize, .int start, .int next, .int token, .int value, .int error, .int errorAt, .int seen, .int triedWith, .ref rr, .ref ss, .ref tr, .ref wa, .int undos, .ref ud, .ref sl, .ref sv])), (td, .inl (E.2.1, 48, .inl (sX9_draft (sX9_draft (sX9_draft (sX9_draft (sX9_draft (sX9_draft (sX9_draft (sX9_draft (sX9_draft (sX9_draft (sX9_draft (sX9_draft (sX9_draft (sX9_draft told_2 0 4000) 1 40) 2 60) 3 8) 4 8) 5 1) 6 1) 7 60) 8 10) 9 4) 10 8) 11 4) 12 8) 15 64)))] H := hP
    have hX : xD A [h, td] := xD.of hD rfl
    refine W.eq (g2 := F0 m 123 ls []) rfl ?_
    refine lv_aload_n hx hb dX9_clearDraft_123 rfl (lv_at hl 0 rfl) ?_
    refine lv_bipush (v := 16) hx hb dX9_clearDraft_124 (by decide) ?_
    refine lv_bipush (v := 32) hx hb dX9_clearDraft_126 (by decide) ?_
    refine x_wV (wr := []) [.int 16, .int 32] (kX9_draft l E h thrown nw td tx length textSize start next token value error errorAt seen triedWith rr ss tr wa undos ud sl sv (sX9_draft (sX9_draft (sX9_draft (sX9_draft (sX9_draft (sX9_draft (sX9_draft (sX9_draft (sX9_draft (sX9_draft (sX9_draft (sX9_draft (sX9_draft (sX9_draft told_2 0 4000) 1 40) 2 60) 3 8) 4 8) 5 1) 6 1) 7 60) 8 10) 9 4) 10 8) 11 4) 12 8) 15 64) 16 32 (by decide) (by decide)) ⟨hx, hb, hml, hown, hts⟩ (cwV 2 hts gX9_clearDraft_X9_draft rfl rfl rfl hdX9_draft ⟨Nat.le_of_ble_eq_true rfl, Nat.le_of_ble_eq_true rfl⟩) hE hP (hX.d rfl) hS hA [0, 1] [] rfl rfl rfl rfl (by decide) (ci := 9) (q0 := 0) rfl rfl rfl hl.1 rfl rfl (Nat.le_of_ble_eq_true rfl) dX9_clearDraft_128 (Nat.le_of_ble_eq_true rfl) (Nat.le_of_ble_eq_true rfl) (fun q_15 H locs hq_15 hP hD hS => ?_)
    subst hq_15
    have hP : va_P E.1 vwCl [(h, .inr (9, [.int thrown, .ref nw, .ref td, .ref tx, .int length, .int textSize, .int start, .int next, .int token, .int value, .int error, .int errorAt, .int seen, .int triedWith, .ref rr, .ref ss, .ref tr, .ref wa, .int undos, .ref ud, .ref sl, .ref sv])), (td, .inl (E.2.1, 48, .inl (sX9_draft (sX9_draft (sX9_draft (sX9_draft (sX9_draft (sX9_draft (sX9_draft (sX9_draft (sX9_draft (sX9_draft (sX9_draft (sX9_draft (sX9_draft (sX9_draft (sX9_draft told_2 0 4000) 1 40) 2 60) 3 8) 4 8) 5 1) 6 1) 7 60) 8 10) 9 4) 10 8) 11 4) 12 8) 15 64) 16 32)))] H := hP
    have hX : xD A [h, td] := xD.of hD rfl
    refine W.eq (g2 := F0 m 131 ls []) rfl ?_
    refine lv_aload_n hx hb dX9_clearDraft_131 rfl (lv_at hl 0 rfl) ?_
    refine lv_bipush (v := 17) hx hb dX9_clearDraft_132 (by decide) ?_
    refine lv_iconst (v := 2) hx hb dX9_clearDraft_134 (by decide) ?_
    refine x_wV (wr := []) [.int 17, .int 2] (kX9_draft l E h thrown nw td tx length textSize start next token value error errorAt seen triedWith rr ss tr wa undos ud sl sv (sX9_draft (sX9_draft (sX9_draft (sX9_draft (sX9_draft (sX9_draft (sX9_draft (sX9_draft (sX9_draft (sX9_draft (sX9_draft (sX9_draft (sX9_draft (sX9_draft (sX9_draft told_2 0 4000) 1 40) 2 60) 3 8) 4 8) 5 1) 6 1) 7 60) 8 10) 9 4) 10 8) 11 4) 12 8) 15 64) 16 32) 17 2 (by decide) (by decide)) ⟨hx, hb, hml, hown, hts⟩ (cwV 2 hts gX9_clearDraft_X9_draft rfl rfl rfl hdX9_draft ⟨Nat.le_of_ble_eq_true rfl, Nat.le_of_ble_eq_true rfl⟩) hE hP (hX.d rfl) hS hA [0, 1] [] rfl rfl rfl rfl (by decide) (ci := 9) (q0 := 0) rfl rfl rfl hl.1 rfl rfl (Nat.le_of_ble_eq_true rfl) dX9_clearDraft_135 (Nat.le_of_ble_eq_true rfl) (Nat.le_of_ble_eq_true rfl) (fun q_16 H locs hq_16 hP hD hS => ?_)
    subst hq_16
    have hP : va_P E.1 vwCl [(h, .inr (9, [.int thrown, .ref nw, .ref td, .ref tx, .int length, .int textSize, .int start, .int next, .int token, .int value, .int error, .int errorAt, .int seen, .int triedWith, .ref rr, .ref ss, .ref tr, .ref wa, .int undos, .ref ud, .ref sl, .ref sv])), (td, .inl (E.2.1, 48, .inl (sX9_draft (sX9_draft (sX9_draft (sX9_draft (sX9_draft (sX9_draft (sX9_draft (sX9_draft (sX9_draft (sX9_draft (sX9_draft (sX9_draft (sX9_draft (sX9_draft (sX9_draft (sX9_draft told_2 0 4000) 1 40) 2 60) 3 8) 4 8) 5 1) 6 1) 7 60) 8 10) 9 4) 10 8) 11 4) 12 8) 15 64) 16 32) 17 2)))] H := hP
    have hX : xD A [h, td] := xD.of hD rfl
    refine W.eq (g2 := F0 m 138 ls []) rfl ?_
    refine lv_aload_n hx hb dX9_clearDraft_138 rfl (lv_at hl 0 rfl) ?_
    refine lv_bipush (v := 18) hx hb dX9_clearDraft_139 (by decide) ?_
    refine lv_bipush (v := 60) hx hb dX9_clearDraft_141 (by decide) ?_
    refine x_wV (wr := []) [.int 18, .int 60] (kX9_draft l E h thrown nw td tx length textSize start next token value error errorAt seen triedWith rr ss tr wa undos ud sl sv (sX9_draft (sX9_draft (sX9_draft (sX9_draft (sX9_draft (sX9_draft (sX9_draft (sX9_draft (sX9_draft (sX9_draft (sX9_draft (sX9_draft (sX9_draft (sX9_draft (sX9_draft (sX9_draft told_2 0 4000) 1 40) 2 60) 3 8) 4 8) 5 1) 6 1) 7 60) 8 10) 9 4) 10 8) 11 4) 12 8) 15 64) 16 32) 17 2) 18 60 (by decide) (by decide)) ⟨hx, hb, hml, hown, hts⟩ (cwV 2 hts gX9_clearDraft_X9_draft rfl rfl rfl hdX9_draft ⟨Nat.le_of_ble_eq_true rfl, Nat.le_of_ble_eq_true rfl⟩) hE hP (hX.d rfl) hS hA [0, 1] [] rfl rfl rfl rfl (by decide) (ci := 9) (q0 := 0) rfl rfl rfl hl.1 rfl rfl (Nat.le_of_ble_eq_true rfl) dX9_clearDraft_143 (Nat.le_of_ble_eq_true rfl) (Nat.le_of_ble_eq_true rfl) (fun q_17 H locs hq_17 hP hD hS => ?_)
    subst hq_17
    have hP : va_P E.1 vwCl [(h, .inr (9, [.int thrown, .ref nw, .ref td, .ref tx, .int length, .int textSize, .int start, .int next, .int token, .int value, .int error, .int errorAt, .int seen, .int triedWith, .ref rr, .ref ss, .ref tr, .ref wa, .int undos, .ref ud, .ref sl, .ref sv])), (td, .inl (E.2.1, 48, .inl (sX9_draft (sX9_draft (sX9_draft (sX9_draft (sX9_draft (sX9_draft (sX9_draft (sX9_draft (sX9_draft (sX9_draft (sX9_draft (sX9_draft (sX9_draft (sX9_draft (sX9_draft (sX9_draft (sX9_draft told_2 0 4000) 1 40) 2 60) 3 8) 4 8) 5 1) 6 1) 7 60) 8 10) 9 4) 10 8) 11 4) 12 8) 15 64) 16 32) 17 2) 18 60)))] H := hP
    have hX : xD A [h, td] := xD.of hD rfl
    refine W.eq (g2 := F0 m 146 ls []) rfl ?_
    refine lv_aload_n hx hb dX9_clearDraft_146 rfl (lv_at hl 0 rfl) ?_
    refine lv_bipush (v := 19) hx hb dX9_clearDraft_147 (by decide) ?_
    refine lv_sipush (v := 512) hx hb dX9_clearDraft_149 (by decide) ?_
    refine x_wV (wr := []) [.int 19, .int 512] (kX9_draft l E h thrown nw td tx length textSize start next token value error errorAt seen triedWith rr ss tr wa undos ud sl sv (sX9_draft (sX9_draft (sX9_draft (sX9_draft (sX9_draft (sX9_draft (sX9_draft (sX9_draft (sX9_draft (sX9_draft (sX9_draft (sX9_draft (sX9_draft (sX9_draft (sX9_draft (sX9_draft (sX9_draft told_2 0 4000) 1 40) 2 60) 3 8) 4 8) 5 1) 6 1) 7 60) 8 10) 9 4) 10 8) 11 4) 12 8) 15 64) 16 32) 17 2) 18 60) 19 512 (by decide) (by decide)) ⟨hx, hb, hml, hown, hts⟩ (cwV 2 hts gX9_clearDraft_X9_draft rfl rfl rfl hdX9_draft ⟨Nat.le_of_ble_eq_true rfl, Nat.le_of_ble_eq_true rfl⟩) hE hP (hX.d rfl) hS hA [0, 1] [] rfl rfl rfl rfl (by decide) (ci := 9) (q0 := 0) rfl rfl rfl hl.1 rfl rfl (Nat.le_of_ble_eq_true rfl) dX9_clearDraft_152 (Nat.le_of_ble_eq_true rfl) (Nat.le_of_ble_eq_true rfl) (fun q_18 H locs hq_18 hP hD hS => ?_)
    subst hq_18
    have hP : va_P E.1 vwCl [(h, .inr (9, [.int thrown, .ref nw, .ref td, .ref tx, .int length, .int textSize, .int start, .int next, .int token, .int value, .int error, .int errorAt, .int seen, .int triedWith, .ref rr, .ref ss, .ref tr, .ref wa, .int undos, .ref ud, .ref sl, .ref sv])), (td, .inl (E.2.1, 48, .inl (sX9_draft (sX9_draft (sX9_draft (sX9_draft (sX9_draft (sX9_draft (sX9_draft (sX9_draft (sX9_draft (sX9_draft (sX9_draft (sX9_draft (sX9_draft (sX9_draft (sX9_draft (sX9_draft (sX9_draft (sX9_draft told_2 0 4000) 1 40) 2 60) 3 8) 4 8) 5 1) 6 1) 7 60) 8 10) 9 4) 10 8) 11 4) 12 8) 15 64) 16 32) 17 2) 18 60) 19 512)))] H := hP
    have hX : xD A [h, td] := xD.of hD rfl
    refine W.eq (g2 := F0 m 155 ls []) rfl ?_
    refine lv_aload_n hx hb dX9_clearDraft_155 rfl (lv_at hl 0 rfl) ?_
    refine lv_bipush (v := 20) hx hb dX9_clearDraft_156 (by decide) ?_
    refine lv_sipush (v := 1500) hx hb dX9_clearDraft_158 (by decide) ?_
    refine x_wV (wr := []) [.int 20, .int 1500] (kX9_draft l E h thrown nw td tx length textSize start next token value error errorAt seen triedWith rr ss tr wa undos ud sl sv (sX9_draft (sX9_draft (sX9_draft (sX9_draft (sX9_draft (sX9_draft (sX9_draft (sX9_draft (sX9_draft (sX9_draft (sX9_draft (sX9_draft (sX9_draft (sX9_draft (sX9_draft (sX9_draft (sX9_draft (sX9_draft told_2 0 4000) 1 40) 2 60) 3 8) 4 8) 5 1) 6 1) 7 60) 8 10) 9 4) 10 8) 11 4) 12 8) 15 64) 16 32) 17 2) 18 60) 19 512) 20 1500 (by decide) (by decide)) ⟨hx, hb, hml, hown, hts⟩ (cwV 2 hts gX9_clearDraft_X9_draft rfl rfl rfl hdX9_draft ⟨Nat.le_of_ble_eq_true rfl, Nat.le_of_ble_eq_true rfl⟩) hE hP (hX.d rfl) hS hA [0, 1] [] rfl rfl rfl rfl (by decide) (ci := 9) (q0 := 0) rfl rfl rfl hl.1 rfl rfl (Nat.le_of_ble_eq_true rfl) dX9_clearDraft_161 (Nat.le_of_ble_eq_true rfl) (Nat.le_of_ble_eq_true rfl) (fun q_19 H locs hq_19 hP hD hS => ?_)
    subst hq_19
    have hP : va_P E.1 vwCl [(h, .inr (9, [.int thrown, .ref nw, .ref td, .ref tx, .int length, .int textSize, .int start, .int next, .int token, .int value, .int error, .int errorAt, .int seen, .int triedWith, .ref rr, .ref ss, .ref tr, .ref wa, .int undos, .ref ud, .ref sl, .ref sv])), (td, .inl (E.2.1, 48, .inl (sX9_draft (sX9_draft (sX9_draft (sX9_draft (sX9_draft (sX9_draft (sX9_draft (sX9_draft (sX9_draft (sX9_draft (sX9_draft (sX9_draft (sX9_draft (sX9_draft (sX9_draft (sX9_draft (sX9_draft (sX9_draft (sX9_draft told_2 0 4000) 1 40) 2 60) 3 8) 4 8) 5 1) 6 1) 7 60) 8 10) 9 4) 10 8) 11 4) 12 8) 15 64) 16 32) 17 2) 18 60) 19 512) 20 1500)))] H := hP
    have hX : xD A [h, td] := xD.of hD rfl
    refine W.eq (g2 := F0 m 164 ls []) rfl ?_
    refine lv_aload_n hx hb dX9_clearDraft_164 rfl (lv_at hl 0 rfl) ?_
    refine lv_bipush (v := 21) hx hb dX9_clearDraft_165 (by decide) ?_
    refine lv_iconst (v := 4) hx hb dX9_clearDraft_167 (by decide) ?_
    refine x_wV (wr := []) [.int 21, .int 4] (kX9_draft l E h thrown nw td tx length textSize start next token value error errorAt seen triedWith rr ss tr wa undos ud sl sv (sX9_draft (sX9_draft (sX9_draft (sX9_draft (sX9_draft (sX9_draft (sX9_draft (sX9_draft (sX9_draft (sX9_draft (sX9_draft (sX9_draft (sX9_draft (sX9_draft (sX9_draft (sX9_draft (sX9_draft (sX9_draft (sX9_draft told_2 0 4000) 1 40) 2 60) 3 8) 4 8) 5 1) 6 1) 7 60) 8 10) 9 4) 10 8) 11 4) 12 8) 15 64) 16 32) 17 2) 18 60) 19 512) 20 1500) 21 4 (by decide) (by decide)) ⟨hx, hb, hml, hown, hts⟩ (cwV 2 hts gX9_clearDraft_X9_draft rfl rfl rfl hdX9_draft ⟨Nat.le_of_ble_eq_true rfl, Nat.le_of_ble_eq_true rfl⟩) hE hP (hX.d rfl) hS hA [0, 1] [] rfl rfl rfl rfl (by decide) (ci := 9) (q0 := 0) rfl rfl rfl hl.1 rfl rfl (Nat.le_of_ble_eq_true rfl) dX9_clearDraft_168 (Nat.le_of_ble_eq_true rfl) (Nat.le_of_ble_eq_true rfl) (fun q_20 H locs hq_20 hP hD hS => ?_)
    subst hq_20
    have hP : va_P E.1 vwCl [(h, .inr (9, [.int thrown, .ref nw, .ref td, .ref tx, .int length, .int textSize, .int start, .int next, .int token, .int value, .int error, .int errorAt, .int seen, .int triedWith, .ref rr, .ref ss, .ref tr, .ref wa, .int undos, .ref ud, .ref sl, .ref sv])), (td, .inl (E.2.1, 48, .inl (sX9_draft (sX9_draft (sX9_draft (sX9_draft (sX9_draft (sX9_draft (sX9_draft (sX9_draft (sX9_draft (sX9_draft (sX9_draft (sX9_draft (sX9_draft (sX9_draft (sX9_draft (sX9_draft (sX9_draft (sX9_draft (sX9_draft (sX9_draft told_2 0 4000) 1 40) 2 60) 3 8) 4 8) 5 1) 6 1) 7 60) 8 10) 9 4) 10 8) 11 4) 12 8) 15 64) 16 32) 17 2) 18 60) 19 512) 20 1500) 21 4)))] H := hP
    have hX : xD A [h, td] := xD.of hD rfl
    refine W.eq (g2 := F0 m 171 ls []) rfl ?_
    refine lv_aload_n hx hb dX9_clearDraft_171 rfl (lv_at hl 0 rfl) ?_
    refine lv_bipush (v := 22) hx hb dX9_clearDraft_172 (by decide) ?_
    refine lv_bipush (v := 50) hx hb dX9_clearDraft_174 (by decide) ?_
    refine x_wV (wr := []) [.int 22, .int 50] (kX9_draft l E h thrown nw td tx length textSize start next token value error errorAt seen triedWith rr ss tr wa undos ud sl sv (sX9_draft (sX9_draft (sX9_draft (sX9_draft (sX9_draft (sX9_draft (sX9_draft (sX9_draft (sX9_draft (sX9_draft (sX9_draft (sX9_draft (sX9_draft (sX9_draft (sX9_draft (sX9_draft (sX9_draft (sX9_draft (sX9_draft (sX9_draft told_2 0 4000) 1 40) 2 60) 3 8) 4 8) 5 1) 6 1) 7 60) 8 10) 9 4) 10 8) 11 4) 12 8) 15 64) 16 32) 17 2) 18 60) 19 512) 20 1500) 21 4) 22 50 (by decide) (by decide)) ⟨hx, hb, hml, hown, hts⟩ (cwV 2 hts gX9_clearDraft_X9_draft rfl rfl rfl hdX9_draft ⟨Nat.le_of_ble_eq_true rfl, Nat.le_of_ble_eq_true rfl⟩) hE hP (hX.d rfl) hS hA [0, 1] [] rfl rfl rfl rfl (by decide) (ci := 9) (q0 := 0) rfl rfl rfl hl.1 rfl rfl (Nat.le_of_ble_eq_true rfl) dX9_clearDraft_176 (Nat.le_of_ble_eq_true rfl) (Nat.le_of_ble_eq_true rfl) (fun q_21 H locs hq_21 hP hD hS => ?_)
    subst hq_21
    have hP : va_P E.1 vwCl [(h, .inr (9, [.int thrown, .ref nw, .ref td, .ref tx, .int length, .int textSize, .int start, .int next, .int token, .int value, .int error, .int errorAt, .int seen, .int triedWith, .ref rr, .ref ss, .ref tr, .ref wa, .int undos, .ref ud, .ref sl, .ref sv])), (td, .inl (E.2.1, 48, .inl (sX9_draft (sX9_draft (sX9_draft (sX9_draft (sX9_draft (sX9_draft (sX9_draft (sX9_draft (sX9_draft (sX9_draft (sX9_draft (sX9_draft (sX9_draft (sX9_draft (sX9_draft (sX9_draft (sX9_draft (sX9_draft (sX9_draft (sX9_draft (sX9_draft told_2 0 4000) 1 40) 2 60) 3 8) 4 8) 5 1) 6 1) 7 60) 8 10) 9 4) 10 8) 11 4) 12 8) 15 64) 16 32) 17 2) 18 60) 19 512) 20 1500) 21 4) 22 50)))] H := hP
    have hX : xD A [h, td] := xD.of hD rfl
    refine W.eq (g2 := F0 m 179 ls []) rfl ?_
    refine lv_aload_n hx hb dX9_clearDraft_179 rfl (lv_at hl 0 rfl) ?_
    refine lv_bipush (v := 23) hx hb dX9_clearDraft_180 (by decide) ?_
    refine lv_bipush (v := 100) hx hb dX9_clearDraft_182 (by decide) ?_
    refine x_wV (wr := []) [.int 23, .int 100] (kX9_draft l E h thrown nw td tx length textSize start next token value error errorAt seen triedWith rr ss tr wa undos ud sl sv (sX9_draft (sX9_draft (sX9_draft (sX9_draft (sX9_draft (sX9_draft (sX9_draft (sX9_draft (sX9_draft (sX9_draft (sX9_draft (sX9_draft (sX9_draft (sX9_draft (sX9_draft (sX9_draft (sX9_draft (sX9_draft (sX9_draft (sX9_draft (sX9_draft told_2 0 4000) 1 40) 2 60) 3 8) 4 8) 5 1) 6 1) 7 60) 8 10) 9 4) 10 8) 11 4) 12 8) 15 64) 16 32) 17 2) 18 60) 19 512) 20 1500) 21 4) 22 50) 23 100 (by decide) (by decide)) ⟨hx, hb, hml, hown, hts⟩ (cwV 2 hts gX9_clearDraft_X9_draft rfl rfl rfl hdX9_draft ⟨Nat.le_of_ble_eq_true rfl, Nat.le_of_ble_eq_true rfl⟩) hE hP (hX.d rfl) hS hA [0, 1] [] rfl rfl rfl rfl (by decide) (ci := 9) (q0 := 0) rfl rfl rfl hl.1 rfl rfl (Nat.le_of_ble_eq_true rfl) dX9_clearDraft_184 (Nat.le_of_ble_eq_true rfl) (Nat.le_of_ble_eq_true rfl) (fun q_22 H locs hq_22 hP hD hS => ?_)
    subst hq_22
    have hP : va_P E.1 vwCl [(h, .inr (9, [.int thrown, .ref nw, .ref td, .ref tx, .int length, .int textSize, .int start, .int next, .int token, .int value, .int error, .int errorAt, .int seen, .int triedWith, .ref rr, .ref ss, .ref tr, .ref wa, .int undos, .ref ud, .ref sl, .ref sv])), (td, .inl (E.2.1, 48, .inl (sX9_draft (sX9_draft (sX9_draft (sX9_draft (sX9_draft (sX9_draft (sX9_draft (sX9_draft (sX9_draft (sX9_draft (sX9_draft (sX9_draft (sX9_draft (sX9_draft (sX9_draft (sX9_draft (sX9_draft (sX9_draft (sX9_draft (sX9_draft (sX9_draft (sX9_draft told_2 0 4000) 1 40) 2 60) 3 8) 4 8) 5 1) 6 1) 7 60) 8 10) 9 4) 10 8) 11 4) 12 8) 15 64) 16 32) 17 2) 18 60) 19 512) 20 1500) 21 4) 22 50) 23 100)))] H := hP
    have hX : xD A [h, td] := xD.of hD rfl
    refine W.eq (g2 := F0 m 187 ls []) rfl ?_
    exact x_wv (sX9_draft (sX9_draft (sX9_draft (sX9_draft (sX9_draft (sX9_draft (sX9_draft (sX9_draft (sX9_draft (sX9_draft (sX9_draft (sX9_draft (sX9_draft (sX9_draft (sX9_draft (sX9_draft (sX9_draft (sX9_draft (sX9_draft (sX9_draft (sX9_draft (sX9_draft told_2 0 4000) 1 40) 2 60) 3 8) 4 8) 5 1) 6 1) 7 60) 8 10) 9 4) 10 8) 11 4) 12 8) 15 64) 16 32) 17 2) 18 60) 19 512) 20 1500) 21 4) 22 50) 23 100) (by rw [hx_2]; try rfl) rfl hx hb hr hlk hS hP (hX.d rfl) [0, 1] rfl rfl (Nat.le_of_ble_eq_true rfl) (Nat.le_of_ble_eq_true rfl) dX9_clearDraft_187
  have lp_2 : ∀ (kk_2 : Nat), ∀ (i_2 : Int32) (told_2 : Nat → Int32), (¬ i_2 < 0) → (xMu 24 i_2) < kk_2 → ∀ (H : Heap) (locs : List Loc), va_P E.1 vwCl [(h, .inr (9, [.int thrown, .ref nw, .ref td, .ref tx, .int length, .int textSize, .int start, .int next, .int token, .int value, .int error, .int errorAt, .int seen, .int triedWith, .ref rr, .ref ss, .ref tr, .ref wa, .int undos, .ref ud, .ref sl, .ref sv])), (td, .inl (E.2.1, 48, .inl told_2))] H → va_S A s.heap H locs → ∀ (ls : Array Slot), lv_has ls 2 [(0, .ref h), (1, .int i_2)] → (sX9_clearDraft told) = sX9_clearDraft_l2 (fun (i_2 : Int32) (told_2 : Nat → Int32) => (sX9_draft (sX9_draft (sX9_draft (sX9_draft (sX9_draft (sX9_draft (sX9_draft (sX9_draft (sX9_draft (sX9_draft (sX9_draft (sX9_draft (sX9_draft (sX9_draft (sX9_draft (sX9_draft (sX9_draft (sX9_draft (sX9_draft (sX9_draft (sX9_draft (sX9_draft told_2 0 4000) 1 40) 2 60) 3 8) 4 8) 5 1) 6 1) 7 60) 8 10) 9 4) 10 8) 11 4) 12 8) 15 64) 16 32) 17 2) 18 60) 19 512) 20 1500) 21 4) 22 50) 23 100)) kk_2 i_2 told_2 → W p l e ({ frames := 1, cells := 0, slots := 0, locals := 22 }) s m args below meth c H locs 0 0 (MQ below (xO (T := (Nat → Int32)) E A (fun _ => none) (fun q => [(h, .inr (9, [.int thrown, .ref nw, .ref td, .ref tx, .int length, .int textSize, .int start, .int next, .int token, .int value, .int error, .int errorAt, .int seen, .int triedWith, .ref rr, .ref ss, .ref tr, .ref wa, .int undos, .ref ud, .ref sl, .ref sv])), (td, .inl (E.2.1, 48, .inl q))]) (sX9_clearDraft told)) args s 0 0 A) (F0 m 2 ls []) := by
    intro kk_2
    induction kk_2 with
    | zero =>
      intro i_2 told_2 hi0_2 hmu
      exact absurd hmu (Nat.not_lt_zero _)
    | succ kk_2 ih_2 =>
      intro i_2 told_2 hi0_2 hmu H locs hP hS ls hl hlq_2
      refine lv_iload_n hx hb dX9_clearDraft_2 rfl (lv_at hl 1 rfl) ?_
      refine lv_bipush (v := 24) hx hb dX9_clearDraft_3 (by decide) ?_
      refine lv_icmp_ge (tgt := 20) hx hb dX9_clearDraft_5 (by decide) (fun c_23 => ?_) (fun c_23 => ?_)
      · exact ex_2 i_2 told_2 hi0_2 _ _ hP hS ls (lv_sub hl [0, 1] rfl) (by rw [hlq_2]; rw [sX9_clearDraft_l2_s]; rw [if_pos c_23]; try rfl)
      · refine lv_aload_n hx hb dX9_clearDraft_8 rfl (lv_at hl 0 rfl) ?_
        refine lv_iload_n hx hb dX9_clearDraft_9 rfl (lv_at hl 1 rfl) ?_
        refine lv_iconst (v := 0) hx hb dX9_clearDraft_10 (by decide) ?_
        refine x_wV (wr := []) [.int i_2, .int 0] (kX9_draft l E h thrown nw td tx length textSize start next token value error errorAt seen triedWith rr ss tr wa undos ud sl sv told_2 i_2 0 hi0_2 c_23) ⟨hx, hb, hml, hown, hts⟩ (cwV 2 hts gX9_clearDraft_X9_draft rfl rfl rfl hdX9_draft ⟨Nat.le_of_ble_eq_true rfl, Nat.le_of_ble_eq_true rfl⟩) hE hP (hX.d rfl) hS hA [0, 1] [] rfl rfl rfl rfl (by decide) (ci := 9) (q0 := 0) rfl rfl rfl hl.1 rfl rfl (Nat.le_of_ble_eq_true rfl) dX9_clearDraft_11 (Nat.le_of_ble_eq_true rfl) (Nat.le_of_ble_eq_true rfl) (fun q_24 H locs hq_24 hP hD hS => ?_)
        subst hq_24
        have hP : va_P E.1 vwCl [(h, .inr (9, [.int thrown, .ref nw, .ref td, .ref tx, .int length, .int textSize, .int start, .int next, .int token, .int value, .int error, .int errorAt, .int seen, .int triedWith, .ref rr, .ref ss, .ref tr, .ref wa, .int undos, .ref ud, .ref sl, .ref sv])), (td, .inl (E.2.1, 48, .inl (sX9_draft told_2 i_2 0)))] H := hP
        have hX : xD A [h, td] := xD.of hD rfl
        refine W.eq (g2 := F0 m 14 ls []) rfl ?_
        refine lv_iinc (v := i_2 + 1) (lv' := [(1, .int (i_2 + 1)), (0, .ref h)]) hx hb dX9_clearDraft_14 hl (k := 1) rfl (by rfl) (by decide) rfl (fun ls hl => ?_)
        refine lv_goto (tgt := 2) hx hb dX9_clearDraft_17 (by decide) ?_
        exact ih_2 (i_2 + 1) (sX9_draft told_2 i_2 0) (x_step hi0_2 c_23) (x_mu hi0_2 c_23 hmu) _ _ hP hS ls (lv_sub hl [1, 0] rfl) (by rw [hlq_2]; rw [sX9_clearDraft_l2_s]; rw [if_neg c_23]; try rfl)
  exact lp_2 25 0 told (by decide) (by decide) _ _ hP hS ls (lv_sub hl [1, 0] rfl) (by unfold sX9_clearDraft; try rfl)
def sX9_turn_0 (told : Nat → Int32) (f : Nat → Int32) (push : Int32) : Int32 :=
  ((((told 1) * (sX9_sineOf (f 10))) - (((told 5) * push) * (sX9_cosineOf (f 10)))) / 4096) - (((told 3) * (f 12)) / 4096)
theorem hdX9_turn : yX9_turn.cls = RX9 ∧ yX9_turn.cls ≠ "java/lang/invoke/MethodHandle" ∧ yX9_turn.cls ≠ "java/lang/invoke/VarHandle" ∧ (parseMethodDescriptor yX9_turn.desc).map (fun d => d.parameters.length) = some 3 := by decide +kernel
set_option maxHeartbeats 4000000 in
set_option maxRecDepth 100000 in
theorem kX9_turn_0 (l : Launch) (E : XE) (h : Nat) (thrown : Int32) (nw : Nat) (td : Nat) (tx : Nat) (length : Int32) (textSize : Int32) (start : Int32) (next : Int32) (token : Int32) (value : Int32) (error : Int32) (errorAt : Int32) (seen : Int32) (triedWith : Int32) (rr : Nat) (ss : Nat) (tr : Nat) (wa : Nat) (undos : Int32) (ud : Nat) (sl : Nat) (sv : Nat) (told : Nat → Int32) (row : Nat) (n : Nat) (f : Nat → Int32) (push : Int32) (hn : 14 ≤ n) (h0 : 0 ≤ f 10) (h1 : f 10 < 4096) : xR l yX9_turn wsX9_turn ({ frames := 2, cells := 0, slots := 0, locals := 44 }) E [(h, .inr (9, [.int thrown, .ref nw, .ref td, .ref tx, .int length, .int textSize, .int start, .int next, .int token, .int value, .int error, .int errorAt, .int seen, .int triedWith, .ref rr, .ref ss, .ref tr, .ref wa, .int undos, .ref ud, .ref sl, .ref sv])), (td, .inl (E.2.1, 48, .inl told)), (row, .inl (E.2.1, n, .inl f))] [.ref h, .ref row, .int 0, .int push] (.int (sX9_turn_0 told f push)) := by
  refine xR.of (cc := cX9_turn) (maxL := 6) (ret := (some .int)) (by decide) rfl (Nat.le_of_ble_eq_true rfl) ?_
  intro p e s m args below meth c ls hM hE hP hD hl
  obtain ⟨hx, hb, hr, hml, hts, hown, hlk, hnm⟩ := hM
  have g_1 : (Cond.fieldLink RX9 13 "RailPendulumModel" "told" "[I").before args s = true := hts (Cond.fieldLink RX9 13 "RailPendulumModel" "told" "[I") (by decide +kernel)
  have g_2 : ∀ w ∈ wsX90, w ∈ wsX9_turn := by decide +kernel
  have hl : lv_has ls 6 [(0, .ref h), (1, .ref row), (2, .int 0), (3, .int push)] := hl
  refine lv_aload_n hx hb dX9_turn_0 rfl (lv_at hl 1 rfl) ?_
  refine lv_bipush (v := 10) hx hb dX9_turn_1 (by decide) ?_
  refine lv_iload_n hx hb dX9_turn_3 rfl (lv_at hl 2 rfl) ?_
  refine lv_iadd hx hb dX9_turn_4 ?_
  refine lv_topi (fun z_1 ez_1 => ?_)
  obtain rfl : z_1 = 10 := ez_1.trans (by decide)
  refine x_iald hx hb hE.1 hP 2 0 rfl rfl 10 (by decide) (x_lit (k := 10) hn (by decide) (by decide)) dX9_turn_5 ?_
  refine lv_istore (lv' := [(4, .int (f 10)), (0, .ref h), (1, .ref row), (2, .int 0), (3, .int push)]) hx hb dX9_turn_6 hl (by decide) rfl (fun ls hl => ?_)
  refine lv_aload_n hx hb dX9_turn_8 rfl (lv_at hl 1 rfl) ?_
  refine va_get (D := E.1) (ci := 9) (v := .ref td) (C := RX9) (T := TX9) (N := 22) hx hb hts g_2 hown hE.1 hP 0 rfl rfl 2 (by decide) g_1 (fun _ h9 => h9) rfl dX9_turn_9 ?_
  refine lv_iconst (v := 1) hx hb dX9_turn_12 (by decide) ?_
  refine lv_iload_n hx hb dX9_turn_13 rfl (lv_at hl 3 rfl) ?_
  refine lv_iadd hx hb dX9_turn_14 ?_
  refine lv_topi (fun z_2 ez_2 => ?_)
  obtain rfl : z_2 = 1 := ez_2.trans (by decide)
  refine x_iald hx hb hE.1 hP 1 0 rfl rfl 1 (by decide) (by unfold vp_in; decide) dX9_turn_15 ?_
  refine lv_iload hx hb dX9_turn_16 (lv_at hl 0 rfl) ?_
  refine x_rS [.int (f 10)] (kX9_sineOf l E (f 10) h0 h1) ⟨hx, hb, hml, hown, hts⟩ (va_cwS 1 hts gX9_turn_X9_sineOf rfl rfl rfl hdX9_sineOf.2 ⟨Nat.le_of_ble_eq_true rfl, Nat.le_of_ble_eq_true rfl⟩) hE hP hD [] rfl rfl hl.1 rfl rfl (Nat.le_of_ble_eq_true rfl) dX9_turn_18 (Nat.le_of_ble_eq_true rfl) (Nat.le_of_ble_eq_true rfl) ?_
  refine lv_imul hx hb dX9_turn_21 ?_
  refine lv_aload_n hx hb dX9_turn_22 rfl (lv_at hl 1 rfl) ?_
  refine va_get (D := E.1) (ci := 9) (v := .ref td) (C := RX9) (T := TX9) (N := 22) hx hb hts g_2 hown hE.1 hP 0 rfl rfl 2 (by decide) g_1 (fun _ h9 => h9) rfl dX9_turn_23 ?_
  refine lv_iconst (v := 5) hx hb dX9_turn_26 (by decide) ?_
  refine lv_iload_n hx hb dX9_turn_27 rfl (lv_at hl 3 rfl) ?_
  refine lv_iadd hx hb dX9_turn_28 ?_
  refine lv_topi (fun z_3 ez_3 => ?_)
  obtain rfl : z_3 = 5 := ez_3.trans (by decide)
  refine x_iald hx hb hE.1 hP 1 0 rfl rfl 5 (by decide) (by unfold vp_in; decide) dX9_turn_29 ?_
  refine lv_iload_n hx hb dX9_turn_30 rfl (lv_at hl 4 rfl) ?_
  refine lv_imul hx hb dX9_turn_31 ?_
  refine lv_iload hx hb dX9_turn_32 (lv_at hl 0 rfl) ?_
  refine x_rS [.int (f 10)] (kX9_cosineOf l E (f 10)) ⟨hx, hb, hml, hown, hts⟩ (va_cwS 1 hts gX9_turn_X9_cosineOf rfl rfl rfl hdX9_cosineOf.2 ⟨Nat.le_of_ble_eq_true rfl, Nat.le_of_ble_eq_true rfl⟩) hE hP hD [] rfl rfl hl.1 rfl rfl (Nat.le_of_ble_eq_true rfl) dX9_turn_34 (Nat.le_of_ble_eq_true rfl) (Nat.le_of_ble_eq_true rfl) ?_
  refine lv_imul hx hb dX9_turn_37 ?_
  refine lv_isub hx hb dX9_turn_38 ?_
  refine lv_istore (lv' := [(5, .int (((told 1) * (sX9_sineOf (f 10))) - (((told 5) * push) * (sX9_cosineOf (f 10))))), (4, .int (f 10)), (0, .ref h), (1, .ref row), (2, .int 0), (3, .int push)]) hx hb dX9_turn_39 hl (by decide) rfl (fun ls hl => ?_)
  refine lv_iload hx hb dX9_turn_41 (lv_at hl 0 rfl) ?_
  refine lv_sipush (v := 4096) hx hb dX9_turn_43 (by decide) ?_
  refine lv_idiv hx hb dX9_turn_46 (by decide) ?_
  refine lv_aload_n hx hb dX9_turn_47 rfl (lv_at hl 2 rfl) ?_
  refine va_get (D := E.1) (ci := 9) (v := .ref td) (C := RX9) (T := TX9) (N := 22) hx hb hts g_2 hown hE.1 hP 0 rfl rfl 2 (by decide) g_1 (fun _ h9 => h9) rfl dX9_turn_48 ?_
  refine lv_iconst (v := 3) hx hb dX9_turn_51 (by decide) ?_
  refine lv_iload_n hx hb dX9_turn_52 rfl (lv_at hl 4 rfl) ?_
  refine lv_iadd hx hb dX9_turn_53 ?_
  refine lv_topi (fun z_4 ez_4 => ?_)
  obtain rfl : z_4 = 3 := ez_4.trans (by decide)
  refine x_iald hx hb hE.1 hP 1 0 rfl rfl 3 (by decide) (by unfold vp_in; decide) dX9_turn_54 ?_
  refine lv_aload_n hx hb dX9_turn_55 rfl (lv_at hl 3 rfl) ?_
  refine lv_bipush (v := 12) hx hb dX9_turn_56 (by decide) ?_
  refine lv_iload_n hx hb dX9_turn_58 rfl (lv_at hl 4 rfl) ?_
  refine lv_iadd hx hb dX9_turn_59 ?_
  refine lv_topi (fun z_5 ez_5 => ?_)
  obtain rfl : z_5 = 12 := ez_5.trans (by decide)
  refine x_iald hx hb hE.1 hP 2 0 rfl rfl 12 (by decide) (x_lit (k := 12) hn (by decide) (by decide)) dX9_turn_60 ?_
  refine lv_imul hx hb dX9_turn_61 ?_
  refine lv_sipush (v := 4096) hx hb dX9_turn_62 (by decide) ?_
  refine lv_idiv hx hb dX9_turn_65 (by decide) ?_
  refine lv_isub hx hb dX9_turn_66 ?_
  exact x_ir (by unfold sX9_turn_0; try rfl) hx hb hr hlk dX9_turn_67
def sX9_turn_1 (told : Nat → Int32) (f : Nat → Int32) (push : Int32) : Int32 :=
  ((((told 2) * (sX9_sineOf (f 11))) - (((told 6) * push) * (sX9_cosineOf (f 11)))) / 4096) - (((told 4) * (f 13)) / 4096)
set_option maxHeartbeats 4000000 in
set_option maxRecDepth 100000 in
theorem kX9_turn_1 (l : Launch) (E : XE) (h : Nat) (thrown : Int32) (nw : Nat) (td : Nat) (tx : Nat) (length : Int32) (textSize : Int32) (start : Int32) (next : Int32) (token : Int32) (value : Int32) (error : Int32) (errorAt : Int32) (seen : Int32) (triedWith : Int32) (rr : Nat) (ss : Nat) (tr : Nat) (wa : Nat) (undos : Int32) (ud : Nat) (sl : Nat) (sv : Nat) (told : Nat → Int32) (row : Nat) (n : Nat) (f : Nat → Int32) (push : Int32) (hn : 14 ≤ n) (h0 : 0 ≤ f 11) (h1 : f 11 < 4096) : xR l yX9_turn wsX9_turn ({ frames := 2, cells := 0, slots := 0, locals := 44 }) E [(h, .inr (9, [.int thrown, .ref nw, .ref td, .ref tx, .int length, .int textSize, .int start, .int next, .int token, .int value, .int error, .int errorAt, .int seen, .int triedWith, .ref rr, .ref ss, .ref tr, .ref wa, .int undos, .ref ud, .ref sl, .ref sv])), (td, .inl (E.2.1, 48, .inl told)), (row, .inl (E.2.1, n, .inl f))] [.ref h, .ref row, .int 1, .int push] (.int (sX9_turn_1 told f push)) := by
  refine xR.of (cc := cX9_turn) (maxL := 6) (ret := (some .int)) (by decide) rfl (Nat.le_of_ble_eq_true rfl) ?_
  intro p e s m args below meth c ls hM hE hP hD hl
  obtain ⟨hx, hb, hr, hml, hts, hown, hlk, hnm⟩ := hM
  have g_1 : (Cond.fieldLink RX9 13 "RailPendulumModel" "told" "[I").before args s = true := hts (Cond.fieldLink RX9 13 "RailPendulumModel" "told" "[I") (by decide +kernel)
  have g_2 : ∀ w ∈ wsX90, w ∈ wsX9_turn := by decide +kernel
  have hl : lv_has ls 6 [(0, .ref h), (1, .ref row), (2, .int 1), (3, .int push)] := hl
  refine lv_aload_n hx hb dX9_turn_0 rfl (lv_at hl 1 rfl) ?_
  refine lv_bipush (v := 10) hx hb dX9_turn_1 (by decide) ?_
  refine lv_iload_n hx hb dX9_turn_3 rfl (lv_at hl 2 rfl) ?_
  refine lv_iadd hx hb dX9_turn_4 ?_
  refine lv_topi (fun z_1 ez_1 => ?_)
  obtain rfl : z_1 = 11 := ez_1.trans (by decide)
  refine x_iald hx hb hE.1 hP 2 0 rfl rfl 11 (by decide) (x_lit (k := 11) hn (by decide) (by decide)) dX9_turn_5 ?_
  refine lv_istore (lv' := [(4, .int (f 11)), (0, .ref h), (1, .ref row), (2, .int 1), (3, .int push)]) hx hb dX9_turn_6 hl (by decide) rfl (fun ls hl => ?_)
  refine lv_aload_n hx hb dX9_turn_8 rfl (lv_at hl 1 rfl) ?_
  refine va_get (D := E.1) (ci := 9) (v := .ref td) (C := RX9) (T := TX9) (N := 22) hx hb hts g_2 hown hE.1 hP 0 rfl rfl 2 (by decide) g_1 (fun _ h9 => h9) rfl dX9_turn_9 ?_
  refine lv_iconst (v := 1) hx hb dX9_turn_12 (by decide) ?_
  refine lv_iload_n hx hb dX9_turn_13 rfl (lv_at hl 3 rfl) ?_
  refine lv_iadd hx hb dX9_turn_14 ?_
  refine lv_topi (fun z_2 ez_2 => ?_)
  obtain rfl : z_2 = 2 := ez_2.trans (by decide)
  refine x_iald hx hb hE.1 hP 1 0 rfl rfl 2 (by decide) (by unfold vp_in; decide) dX9_turn_15 ?_
  refine lv_iload hx hb dX9_turn_16 (lv_at hl 0 rfl) ?_
  refine x_rS [.int (f 11)] (kX9_sineOf l E (f 11) h0 h1) ⟨hx, hb, hml, hown, hts⟩ (va_cwS 1 hts gX9_turn_X9_sineOf rfl rfl rfl hdX9_sineOf.2 ⟨Nat.le_of_ble_eq_true rfl, Nat.le_of_ble_eq_true rfl⟩) hE hP hD [] rfl rfl hl.1 rfl rfl (Nat.le_of_ble_eq_true rfl) dX9_turn_18 (Nat.le_of_ble_eq_true rfl) (Nat.le_of_ble_eq_true rfl) ?_
  refine lv_imul hx hb dX9_turn_21 ?_
  refine lv_aload_n hx hb dX9_turn_22 rfl (lv_at hl 1 rfl) ?_
  refine va_get (D := E.1) (ci := 9) (v := .ref td) (C := RX9) (T := TX9) (N := 22) hx hb hts g_2 hown hE.1 hP 0 rfl rfl 2 (by decide) g_1 (fun _ h9 => h9) rfl dX9_turn_23 ?_
  refine lv_iconst (v := 5) hx hb dX9_turn_26 (by decide) ?_
  refine lv_iload_n hx hb dX9_turn_27 rfl (lv_at hl 3 rfl) ?_
  refine lv_iadd hx hb dX9_turn_28 ?_
  refine lv_topi (fun z_3 ez_3 => ?_)
  obtain rfl : z_3 = 6 := ez_3.trans (by decide)
  refine x_iald hx hb hE.1 hP 1 0 rfl rfl 6 (by decide) (by unfold vp_in; decide) dX9_turn_29 ?_
  refine lv_iload_n hx hb dX9_turn_30 rfl (lv_at hl 4 rfl) ?_
  refine lv_imul hx hb dX9_turn_31 ?_
  refine lv_iload hx hb dX9_turn_32 (lv_at hl 0 rfl) ?_
  refine x_rS [.int (f 11)] (kX9_cosineOf l E (f 11)) ⟨hx, hb, hml, hown, hts⟩ (va_cwS 1 hts gX9_turn_X9_cosineOf rfl rfl rfl hdX9_cosineOf.2 ⟨Nat.le_of_ble_eq_true rfl, Nat.le_of_ble_eq_true rfl⟩) hE hP hD [] rfl rfl hl.1 rfl rfl (Nat.le_of_ble_eq_true rfl) dX9_turn_34 (Nat.le_of_ble_eq_true rfl) (Nat.le_of_ble_eq_true rfl) ?_
  refine lv_imul hx hb dX9_turn_37 ?_
  refine lv_isub hx hb dX9_turn_38 ?_
  refine lv_istore (lv' := [(5, .int (((told 2) * (sX9_sineOf (f 11))) - (((told 6) * push) * (sX9_cosineOf (f 11))))), (4, .int (f 11)), (0, .ref h), (1, .ref row), (2, .int 1), (3, .int push)]) hx hb dX9_turn_39 hl (by decide) rfl (fun ls hl => ?_)
  refine lv_iload hx hb dX9_turn_41 (lv_at hl 0 rfl) ?_
  refine lv_sipush (v := 4096) hx hb dX9_turn_43 (by decide) ?_
  refine lv_idiv hx hb dX9_turn_46 (by decide) ?_
  refine lv_aload_n hx hb dX9_turn_47 rfl (lv_at hl 2 rfl) ?_
  refine va_get (D := E.1) (ci := 9) (v := .ref td) (C := RX9) (T := TX9) (N := 22) hx hb hts g_2 hown hE.1 hP 0 rfl rfl 2 (by decide) g_1 (fun _ h9 => h9) rfl dX9_turn_48 ?_
  refine lv_iconst (v := 3) hx hb dX9_turn_51 (by decide) ?_
  refine lv_iload_n hx hb dX9_turn_52 rfl (lv_at hl 4 rfl) ?_
  refine lv_iadd hx hb dX9_turn_53 ?_
  refine lv_topi (fun z_4 ez_4 => ?_)
  obtain rfl : z_4 = 4 := ez_4.trans (by decide)
  refine x_iald hx hb hE.1 hP 1 0 rfl rfl 4 (by decide) (by unfold vp_in; decide) dX9_turn_54 ?_
  refine lv_aload_n hx hb dX9_turn_55 rfl (lv_at hl 3 rfl) ?_
  refine lv_bipush (v := 12) hx hb dX9_turn_56 (by decide) ?_
  refine lv_iload_n hx hb dX9_turn_58 rfl (lv_at hl 4 rfl) ?_
  refine lv_iadd hx hb dX9_turn_59 ?_
  refine lv_topi (fun z_5 ez_5 => ?_)
  obtain rfl : z_5 = 13 := ez_5.trans (by decide)
  refine x_iald hx hb hE.1 hP 2 0 rfl rfl 13 (by decide) (x_lit (k := 13) hn (by decide) (by decide)) dX9_turn_60 ?_
  refine lv_imul hx hb dX9_turn_61 ?_
  refine lv_sipush (v := 4096) hx hb dX9_turn_62 (by decide) ?_
  refine lv_idiv hx hb dX9_turn_65 (by decide) ?_
  refine lv_isub hx hb dX9_turn_66 ?_
  exact x_ir (by unfold sX9_turn_1; try rfl) hx hb hr hlk dX9_turn_67
def sX9_step (told : Nat → Int32) (f : Nat → Int32) (push : Int32) : Int32 × (Nat → Int32) :=
  if (sX9_isBeyond ((f 2) + (((f 3) + push) / 8)) (told 0)) = 0 then
    if (sX9_isBeyond ((f 12) + ((sX9_turn_0 told f push) - (((told 8) * (sX9_sineOf (sX9_mod ((f 10) - (f 11))))) / 4096))) (told 20)) = 0 then
      if (sX9_isBeyond ((f 13) + ((sX9_turn_1 told f push) + (((told 8) * (sX9_sineOf (sX9_mod ((f 10) - (f 11))))) / 4096))) (told 20)) = 0 then
        (0, upd (upd (upd (upd (upd (upd f 3 ((f 3) + push)) 12 ((f 12) + ((sX9_turn_0 told f push) - (((told 8) * (sX9_sineOf (sX9_mod ((f 10) - (f 11))))) / 4096)))) 13 ((f 13) + ((sX9_turn_1 told f push) + (((told 8) * (sX9_sineOf (sX9_mod ((f 10) - (f 11))))) / 4096)))) 2 ((f 2) + (((f 3) + push) / 8))) 10 (sX9_mod ((f 10) + (((f 12) + ((sX9_turn_0 told f push) - (((told 8) * (sX9_sineOf (sX9_mod ((f 10) - (f 11))))) / 4096))) / 16)))) 11 (sX9_mod ((f 11) + (((f 13) + ((sX9_turn_1 told f push) + (((told 8) * (sX9_sineOf (sX9_mod ((f 10) - (f 11))))) / 4096))) / 16))))
      else
        (2, upd (upd (upd (upd (upd (upd f 3 ((f 3) + push)) 12 ((f 12) + ((sX9_turn_0 told f push) - (((told 8) * (sX9_sineOf (sX9_mod ((f 10) - (f 11))))) / 4096)))) 13 ((f 13) + ((sX9_turn_1 told f push) + (((told 8) * (sX9_sineOf (sX9_mod ((f 10) - (f 11))))) / 4096)))) 2 ((f 2) + (((f 3) + push) / 8))) 10 (sX9_mod ((f 10) + (((f 12) + ((sX9_turn_0 told f push) - (((told 8) * (sX9_sineOf (sX9_mod ((f 10) - (f 11))))) / 4096))) / 16)))) 11 (sX9_mod ((f 11) + (((f 13) + ((sX9_turn_1 told f push) + (((told 8) * (sX9_sineOf (sX9_mod ((f 10) - (f 11))))) / 4096))) / 16))))
    else
      (2, upd (upd (upd (upd (upd (upd f 3 ((f 3) + push)) 12 ((f 12) + ((sX9_turn_0 told f push) - (((told 8) * (sX9_sineOf (sX9_mod ((f 10) - (f 11))))) / 4096)))) 13 ((f 13) + ((sX9_turn_1 told f push) + (((told 8) * (sX9_sineOf (sX9_mod ((f 10) - (f 11))))) / 4096)))) 2 ((f 2) + (((f 3) + push) / 8))) 10 (sX9_mod ((f 10) + (((f 12) + ((sX9_turn_0 told f push) - (((told 8) * (sX9_sineOf (sX9_mod ((f 10) - (f 11))))) / 4096))) / 16)))) 11 (sX9_mod ((f 11) + (((f 13) + ((sX9_turn_1 told f push) + (((told 8) * (sX9_sineOf (sX9_mod ((f 10) - (f 11))))) / 4096))) / 16))))
  else
    if ((f 2) + (((f 3) + push) / 8)) ≤ 0 then
      (1, upd (upd (upd (upd (upd (upd (upd (upd f 3 ((f 3) + push)) 12 ((f 12) + ((sX9_turn_0 told f push) - (((told 8) * (sX9_sineOf (sX9_mod ((f 10) - (f 11))))) / 4096)))) 13 ((f 13) + ((sX9_turn_1 told f push) + (((told 8) * (sX9_sineOf (sX9_mod ((f 10) - (f 11))))) / 4096)))) 2 ((f 2) + (((f 3) + push) / 8))) 10 (sX9_mod ((f 10) + (((f 12) + ((sX9_turn_0 told f push) - (((told 8) * (sX9_sineOf (sX9_mod ((f 10) - (f 11))))) / 4096))) / 16)))) 11 (sX9_mod ((f 11) + (((f 13) + ((sX9_turn_1 told f push) + (((told 8) * (sX9_sineOf (sX9_mod ((f 10) - (f 11))))) / 4096))) / 16)))) 2 (-(told 0))) 3 0)
    else
      (1, upd (upd (upd (upd (upd (upd (upd (upd f 3 ((f 3) + push)) 12 ((f 12) + ((sX9_turn_0 told f push) - (((told 8) * (sX9_sineOf (sX9_mod ((f 10) - (f 11))))) / 4096)))) 13 ((f 13) + ((sX9_turn_1 told f push) + (((told 8) * (sX9_sineOf (sX9_mod ((f 10) - (f 11))))) / 4096)))) 2 ((f 2) + (((f 3) + push) / 8))) 10 (sX9_mod ((f 10) + (((f 12) + ((sX9_turn_0 told f push) - (((told 8) * (sX9_sineOf (sX9_mod ((f 10) - (f 11))))) / 4096))) / 16)))) 11 (sX9_mod ((f 11) + (((f 13) + ((sX9_turn_1 told f push) + (((told 8) * (sX9_sineOf (sX9_mod ((f 10) - (f 11))))) / 4096))) / 16)))) 2 (told 0)) 3 0)
theorem hdX9_step : yX9_step.cls = RX9 ∧ yX9_step.cls ≠ "java/lang/invoke/MethodHandle" ∧ yX9_step.cls ≠ "java/lang/invoke/VarHandle" ∧ (parseMethodDescriptor yX9_step.desc).map (fun d => d.parameters.length) = some 2 := by decide +kernel
set_option maxHeartbeats 4000000 in
set_option maxRecDepth 100000 in
theorem kX9_step (l : Launch) (E : XE) (h : Nat) (thrown : Int32) (nw : Nat) (td : Nat) (tx : Nat) (length : Int32) (textSize : Int32) (start : Int32) (next : Int32) (token : Int32) (value : Int32) (error : Int32) (errorAt : Int32) (seen : Int32) (triedWith : Int32) (rr : Nat) (ss : Nat) (tr : Nat) (wa : Nat) (undos : Int32) (ud : Nat) (sl : Nat) (sv : Nat) (told : Nat → Int32) (row : Nat) (n : Nat) (f : Nat → Int32) (push : Int32) (hn : 14 ≤ n) (ha0 : 0 ≤ f 10) (ha1 : f 10 < 4096) (hb0 : 0 ≤ f 11) (hb1 : f 11 < 4096) : xW (T := Int32 × (Nat → Int32)) l yX9_step wsX9_step ({ frames := 3, cells := 0, slots := 0, locals := 69 }) E [(h, .inr (9, [.int thrown, .ref nw, .ref td, .ref tx, .int length, .int textSize, .int start, .int next, .int token, .int value, .int error, .int errorAt, .int seen, .int triedWith, .ref rr, .ref ss, .ref tr, .ref wa, .int undos, .ref ud, .ref sl, .ref sv])), (td, .inl (E.2.1, 48, .inl told)), (row, .inl (E.2.1, n, .inl f))] [.ref h, .ref row, .int push] (fun q => some (.int q.1)) (fun q => [(h, .inr (9, [.int thrown, .ref nw, .ref td, .ref tx, .int length, .int textSize, .int start, .int next, .int token, .int value, .int error, .int errorAt, .int seen, .int triedWith, .ref rr, .ref ss, .ref tr, .ref wa, .int undos, .ref ud, .ref sl, .ref sv])), (td, .inl (E.2.1, 48, .inl told)), (row, .inl (E.2.1, n, .inl q.2))]) (sX9_step told f push) 0 0 := by
  refine xW.of (cc := cX9_step) (maxL := 6) (ret := (some .int)) (by decide) rfl (Nat.le_of_ble_eq_true rfl) ?_
  intro p e s m args below meth c ls A hM hE hP hD hS hA hl
  obtain ⟨hx, hb, hr, hml, hts, hown, hlk, hnm⟩ := hM
  have g_1 : (Cond.fieldLink RX9 13 "RailPendulumModel" "told" "[I").before args s = true := hts (Cond.fieldLink RX9 13 "RailPendulumModel" "told" "[I") (by decide +kernel)
  have g_2 : ∀ w ∈ wsX90, w ∈ wsX9_step := by decide +kernel
  have hX : xD A [h, td, row] := xD.of hD rfl
  have hl : lv_has ls 6 [(0, .ref h), (1, .ref row), (2, .int push)] := hl
  refine lv_aload_n hx hb dX9_step_0 rfl (lv_at hl 0 rfl) ?_
  refine va_get (D := E.1) (ci := 9) (v := .ref td) (C := RX9) (T := TX9) (N := 22) hx hb hts g_2 hown hE.1 hP 0 rfl rfl 2 (by decide) g_1 (fun _ h9 => h9) rfl dX9_step_1 ?_
  refine lv_bipush (v := 8) hx hb dX9_step_4 (by decide) ?_
  refine x_iald hx hb hE.1 hP 1 0 rfl rfl 8 (by decide) (by unfold vp_in; decide) dX9_step_6 ?_
  refine lv_aload_n hx hb dX9_step_7 rfl (lv_at hl 1 rfl) ?_
  refine lv_bipush (v := 10) hx hb dX9_step_8 (by decide) ?_
  refine x_iald hx hb hE.1 hP 2 0 rfl rfl 10 (by decide) (x_lit (k := 10) hn (by decide) (by decide)) dX9_step_10 ?_
  refine lv_aload_n hx hb dX9_step_11 rfl (lv_at hl 1 rfl) ?_
  refine lv_bipush (v := 11) hx hb dX9_step_12 (by decide) ?_
  refine x_iald hx hb hE.1 hP 2 0 rfl rfl 11 (by decide) (x_lit (k := 11) hn (by decide) (by decide)) dX9_step_14 ?_
  refine lv_isub hx hb dX9_step_15 ?_
  refine x_rS [.int ((f 10) - (f 11))] (kX9_mod l E ((f 10) - (f 11))) ⟨hx, hb, hml, hown, hts⟩ (va_cwS 1 hts gX9_step_X9_mod rfl rfl rfl hdX9_mod.2 ⟨Nat.le_of_ble_eq_true rfl, Nat.le_of_ble_eq_true rfl⟩) hE hP (hX.d rfl) [] rfl rfl hl.1 rfl rfl (Nat.le_of_ble_eq_true rfl) dX9_step_16 (Nat.le_of_ble_eq_true rfl) (Nat.le_of_ble_eq_true rfl) ?_
  refine x_rS [.int (sX9_mod ((f 10) - (f 11)))] (kX9_sineOf l E (sX9_mod ((f 10) - (f 11))) (x_mod _).1 (x_mod _).2) ⟨hx, hb, hml, hown, hts⟩ (va_cwS 1 hts gX9_step_X9_sineOf rfl rfl rfl hdX9_sineOf.2 ⟨Nat.le_of_ble_eq_true rfl, Nat.le_of_ble_eq_true rfl⟩) hE hP (hX.d rfl) [] rfl rfl hl.1 rfl rfl (Nat.le_of_ble_eq_true rfl) dX9_step_19 (Nat.le_of_ble_eq_true rfl) (Nat.le_of_ble_eq_true rfl) ?_
  refine lv_imul hx hb dX9_step_22 ?_
  refine lv_sipush (v := 4096) hx hb dX9_step_23 (by decide) ?_
  refine lv_idiv hx hb dX9_step_26 (by decide) ?_
  refine lv_istore_n (lv' := [(3, .int (((told 8) * (sX9_sineOf (sX9_mod ((f 10) - (f 11))))) / 4096)), (0, .ref h), (1, .ref row), (2, .int push)]) hx hb dX9_step_27 rfl hl (by decide) rfl (fun ls hl => ?_)
  refine lv_aload_n hx hb dX9_step_28 rfl (lv_at hl 1 rfl) ?_
  refine lv_aload_n hx hb dX9_step_29 rfl (lv_at hl 2 rfl) ?_
  refine lv_iconst (v := 0) hx hb dX9_step_30 (by decide) ?_
  refine lv_iload_n hx hb dX9_step_31 rfl (lv_at hl 3 rfl) ?_
  refine x_rV [.ref row, .int 0, .int push] (kX9_turn_0 l E h thrown nw td tx length textSize start next token value error errorAt seen triedWith rr ss tr wa undos ud sl sv told row n f push hn ha0 ha1) ⟨hx, hb, hml, hown, hts⟩ (cwV 3 hts gX9_step_X9_turn rfl rfl rfl hdX9_turn ⟨Nat.le_of_ble_eq_true rfl, Nat.le_of_ble_eq_true rfl⟩) hE hP (hX.d rfl) [0, 1, 2] rfl rfl (ci := 9) (q0 := 0) rfl rfl rfl hl.1 rfl rfl (Nat.le_of_ble_eq_true rfl) dX9_step_32 (Nat.le_of_ble_eq_true rfl) (Nat.le_of_ble_eq_true rfl) ?_
  refine lv_iload_n hx hb dX9_step_35 rfl (lv_at hl 0 rfl) ?_
  refine lv_isub hx hb dX9_step_36 ?_
  refine lv_istore (lv' := [(4, .int ((sX9_turn_0 told f push) - (((told 8) * (sX9_sineOf (sX9_mod ((f 10) - (f 11))))) / 4096))), (3, .int (((told 8) * (sX9_sineOf (sX9_mod ((f 10) - (f 11))))) / 4096)), (0, .ref h), (1, .ref row), (2, .int push)]) hx hb dX9_step_37 hl (by decide) rfl (fun ls hl => ?_)
  refine lv_aload_n hx hb dX9_step_39 rfl (lv_at hl 2 rfl) ?_
  refine lv_aload_n hx hb dX9_step_40 rfl (lv_at hl 3 rfl) ?_
  refine lv_iconst (v := 1) hx hb dX9_step_41 (by decide) ?_
  refine lv_iload_n hx hb dX9_step_42 rfl (lv_at hl 4 rfl) ?_
  refine x_rV [.ref row, .int 1, .int push] (kX9_turn_1 l E h thrown nw td tx length textSize start next token value error errorAt seen triedWith rr ss tr wa undos ud sl sv told row n f push hn hb0 hb1) ⟨hx, hb, hml, hown, hts⟩ (cwV 3 hts gX9_step_X9_turn rfl rfl rfl hdX9_turn ⟨Nat.le_of_ble_eq_true rfl, Nat.le_of_ble_eq_true rfl⟩) hE hP (hX.d rfl) [0, 1, 2] rfl rfl (ci := 9) (q0 := 0) rfl rfl rfl hl.1 rfl rfl (Nat.le_of_ble_eq_true rfl) dX9_step_43 (Nat.le_of_ble_eq_true rfl) (Nat.le_of_ble_eq_true rfl) ?_
  refine lv_iload_n hx hb dX9_step_46 rfl (lv_at hl 1 rfl) ?_
  refine lv_iadd hx hb dX9_step_47 ?_
  refine lv_istore (lv' := [(5, .int ((sX9_turn_1 told f push) + (((told 8) * (sX9_sineOf (sX9_mod ((f 10) - (f 11))))) / 4096))), (4, .int ((sX9_turn_0 told f push) - (((told 8) * (sX9_sineOf (sX9_mod ((f 10) - (f 11))))) / 4096))), (3, .int (((told 8) * (sX9_sineOf (sX9_mod ((f 10) - (f 11))))) / 4096)), (0, .ref h), (1, .ref row), (2, .int push)]) hx hb dX9_step_48 hl (by decide) rfl (fun ls hl => ?_)
  refine lv_aload_n hx hb dX9_step_50 rfl (lv_at hl 4 rfl) ?_
  refine lv_iconst (v := 3) hx hb dX9_step_51 (by decide) ?_
  refine lv_dup2_11 hx hb dX9_step_52 rfl rfl ?_
  refine x_iald hx hb hE.1 hP 2 0 rfl rfl 3 (by decide) (x_lit (k := 3) hn (by decide) (by decide)) dX9_step_53 ?_
  refine lv_iload_n hx hb dX9_step_54 rfl (lv_at hl 5 rfl) ?_
  refine lv_iadd hx hb dX9_step_55 ?_
  refine x_iast hx hb hE.1 hP (hX.d rfl) hS 2 0 rfl rfl 3 (by decide) (x_lit (k := 3) hn (by decide) (by decide)) dX9_step_56 (fun H locs hP _ hS => ?_)
  have hP : va_P E.1 vwCl [(h, .inr (9, [.int thrown, .ref nw, .ref td, .ref tx, .int length, .int textSize, .int start, .int next, .int token, .int value, .int error, .int errorAt, .int seen, .int triedWith, .ref rr, .ref ss, .ref tr, .ref wa, .int undos, .ref ud, .ref sl, .ref sv])), (td, .inl (E.2.1, 48, .inl told)), (row, .inl (E.2.1, n, .inl (upd f 3 ((f 3) + push))))] H := hP
  refine lv_aload_n hx hb dX9_step_57 rfl (lv_at hl 4 rfl) ?_
  refine lv_bipush (v := 12) hx hb dX9_step_58 (by decide) ?_
  refine lv_dup2_11 hx hb dX9_step_60 rfl rfl ?_
  refine x_iald hx hb hE.1 hP 2 0 rfl rfl 12 (by decide) (x_lit (k := 12) hn (by decide) (by decide)) dX9_step_61 ?_
  refine W.eq (g2 := F0 m 62 ls [.int (f 12), .int 12, .ref row]) rfl ?_
  refine lv_iload hx hb dX9_step_62 (lv_at hl 1 rfl) ?_
  refine lv_iadd hx hb dX9_step_64 ?_
  refine x_iast hx hb hE.1 hP (hX.d rfl) hS 2 0 rfl rfl 12 (by decide) (x_lit (k := 12) hn (by decide) (by decide)) dX9_step_65 (fun H locs hP _ hS => ?_)
  have hP : va_P E.1 vwCl [(h, .inr (9, [.int thrown, .ref nw, .ref td, .ref tx, .int length, .int textSize, .int start, .int next, .int token, .int value, .int error, .int errorAt, .int seen, .int triedWith, .ref rr, .ref ss, .ref tr, .ref wa, .int undos, .ref ud, .ref sl, .ref sv])), (td, .inl (E.2.1, 48, .inl told)), (row, .inl (E.2.1, n, .inl (upd (upd f 3 ((f 3) + push)) 12 ((f 12) + ((sX9_turn_0 told f push) - (((told 8) * (sX9_sineOf (sX9_mod ((f 10) - (f 11))))) / 4096))))))] H := hP
  refine lv_aload_n hx hb dX9_step_66 rfl (lv_at hl 4 rfl) ?_
  refine lv_bipush (v := 13) hx hb dX9_step_67 (by decide) ?_
  refine lv_dup2_11 hx hb dX9_step_69 rfl rfl ?_
  refine x_iald hx hb hE.1 hP 2 0 rfl rfl 13 (by decide) (x_lit (k := 13) hn (by decide) (by decide)) dX9_step_70 ?_
  refine W.eq (g2 := F0 m 71 ls [.int (f 13), .int 13, .ref row]) rfl ?_
  refine lv_iload hx hb dX9_step_71 (lv_at hl 0 rfl) ?_
  refine lv_iadd hx hb dX9_step_73 ?_
  refine x_iast hx hb hE.1 hP (hX.d rfl) hS 2 0 rfl rfl 13 (by decide) (x_lit (k := 13) hn (by decide) (by decide)) dX9_step_74 (fun H locs hP _ hS => ?_)
  have hP : va_P E.1 vwCl [(h, .inr (9, [.int thrown, .ref nw, .ref td, .ref tx, .int length, .int textSize, .int start, .int next, .int token, .int value, .int error, .int errorAt, .int seen, .int triedWith, .ref rr, .ref ss, .ref tr, .ref wa, .int undos, .ref ud, .ref sl, .ref sv])), (td, .inl (E.2.1, 48, .inl told)), (row, .inl (E.2.1, n, .inl (upd (upd (upd f 3 ((f 3) + push)) 12 ((f 12) + ((sX9_turn_0 told f push) - (((told 8) * (sX9_sineOf (sX9_mod ((f 10) - (f 11))))) / 4096)))) 13 ((f 13) + ((sX9_turn_1 told f push) + (((told 8) * (sX9_sineOf (sX9_mod ((f 10) - (f 11))))) / 4096))))))] H := hP
  refine lv_aload_n hx hb dX9_step_75 rfl (lv_at hl 4 rfl) ?_
  refine lv_iconst (v := 2) hx hb dX9_step_76 (by decide) ?_
  refine lv_dup2_11 hx hb dX9_step_77 rfl rfl ?_
  refine x_iald hx hb hE.1 hP 2 0 rfl rfl 2 (by decide) (x_lit (k := 2) hn (by decide) (by decide)) dX9_step_78 ?_
  refine W.eq (g2 := F0 m 79 ls [.int (f 2), .int 2, .ref row]) rfl ?_
  refine lv_aload_n hx hb dX9_step_79 rfl (lv_at hl 4 rfl) ?_
  refine lv_iconst (v := 3) hx hb dX9_step_80 (by decide) ?_
  refine x_iald hx hb hE.1 hP 2 0 rfl rfl 3 (by decide) (x_lit (k := 3) hn (by decide) (by decide)) dX9_step_81 ?_
  refine W.eq (g2 := F0 m 82 ls [.int ((f 3) + push), .int (f 2), .int 2, .ref row]) rfl ?_
  refine lv_bipush (v := 8) hx hb dX9_step_82 (by decide) ?_
  refine lv_idiv hx hb dX9_step_84 (by decide) ?_
  refine lv_iadd hx hb dX9_step_85 ?_
  refine x_iast hx hb hE.1 hP (hX.d rfl) hS 2 0 rfl rfl 2 (by decide) (x_lit (k := 2) hn (by decide) (by decide)) dX9_step_86 (fun H locs hP _ hS => ?_)
  have hP : va_P E.1 vwCl [(h, .inr (9, [.int thrown, .ref nw, .ref td, .ref tx, .int length, .int textSize, .int start, .int next, .int token, .int value, .int error, .int errorAt, .int seen, .int triedWith, .ref rr, .ref ss, .ref tr, .ref wa, .int undos, .ref ud, .ref sl, .ref sv])), (td, .inl (E.2.1, 48, .inl told)), (row, .inl (E.2.1, n, .inl (upd (upd (upd (upd f 3 ((f 3) + push)) 12 ((f 12) + ((sX9_turn_0 told f push) - (((told 8) * (sX9_sineOf (sX9_mod ((f 10) - (f 11))))) / 4096)))) 13 ((f 13) + ((sX9_turn_1 told f push) + (((told 8) * (sX9_sineOf (sX9_mod ((f 10) - (f 11))))) / 4096)))) 2 ((f 2) + (((f 3) + push) / 8)))))] H := hP
  refine lv_aload_n hx hb dX9_step_87 rfl (lv_at hl 4 rfl) ?_
  refine lv_bipush (v := 10) hx hb dX9_step_88 (by decide) ?_
  refine lv_aload_n hx hb dX9_step_90 rfl (lv_at hl 4 rfl) ?_
  refine lv_bipush (v := 10) hx hb dX9_step_91 (by decide) ?_
  refine x_iald hx hb hE.1 hP 2 0 rfl rfl 10 (by decide) (x_lit (k := 10) hn (by decide) (by decide)) dX9_step_93 ?_
  refine W.eq (g2 := F0 m 94 ls [.int (f 10), .int 10, .ref row]) rfl ?_
  refine lv_aload_n hx hb dX9_step_94 rfl (lv_at hl 4 rfl) ?_
  refine lv_bipush (v := 12) hx hb dX9_step_95 (by decide) ?_
  refine x_iald hx hb hE.1 hP 2 0 rfl rfl 12 (by decide) (x_lit (k := 12) hn (by decide) (by decide)) dX9_step_97 ?_
  refine W.eq (g2 := F0 m 98 ls [.int ((f 12) + ((sX9_turn_0 told f push) - (((told 8) * (sX9_sineOf (sX9_mod ((f 10) - (f 11))))) / 4096))), .int (f 10), .int 10, .ref row]) rfl ?_
  refine lv_bipush (v := 16) hx hb dX9_step_98 (by decide) ?_
  refine lv_idiv hx hb dX9_step_100 (by decide) ?_
  refine lv_iadd hx hb dX9_step_101 ?_
  refine x_rS [.int ((f 10) + (((f 12) + ((sX9_turn_0 told f push) - (((told 8) * (sX9_sineOf (sX9_mod ((f 10) - (f 11))))) / 4096))) / 16))] (kX9_mod l E ((f 10) + (((f 12) + ((sX9_turn_0 told f push) - (((told 8) * (sX9_sineOf (sX9_mod ((f 10) - (f 11))))) / 4096))) / 16))) ⟨hx, hb, hml, hown, hts⟩ (va_cwS 1 hts gX9_step_X9_mod rfl rfl rfl hdX9_mod.2 ⟨Nat.le_of_ble_eq_true rfl, Nat.le_of_ble_eq_true rfl⟩) hE hP (hX.d rfl) [] rfl rfl hl.1 rfl rfl (Nat.le_of_ble_eq_true rfl) dX9_step_102 (Nat.le_of_ble_eq_true rfl) (Nat.le_of_ble_eq_true rfl) ?_
  refine x_iast hx hb hE.1 hP (hX.d rfl) hS 2 0 rfl rfl 10 (by decide) (x_lit (k := 10) hn (by decide) (by decide)) dX9_step_105 (fun H locs hP _ hS => ?_)
  have hP : va_P E.1 vwCl [(h, .inr (9, [.int thrown, .ref nw, .ref td, .ref tx, .int length, .int textSize, .int start, .int next, .int token, .int value, .int error, .int errorAt, .int seen, .int triedWith, .ref rr, .ref ss, .ref tr, .ref wa, .int undos, .ref ud, .ref sl, .ref sv])), (td, .inl (E.2.1, 48, .inl told)), (row, .inl (E.2.1, n, .inl (upd (upd (upd (upd (upd f 3 ((f 3) + push)) 12 ((f 12) + ((sX9_turn_0 told f push) - (((told 8) * (sX9_sineOf (sX9_mod ((f 10) - (f 11))))) / 4096)))) 13 ((f 13) + ((sX9_turn_1 told f push) + (((told 8) * (sX9_sineOf (sX9_mod ((f 10) - (f 11))))) / 4096)))) 2 ((f 2) + (((f 3) + push) / 8))) 10 (sX9_mod ((f 10) + (((f 12) + ((sX9_turn_0 told f push) - (((told 8) * (sX9_sineOf (sX9_mod ((f 10) - (f 11))))) / 4096))) / 16))))))] H := hP
  refine lv_aload_n hx hb dX9_step_106 rfl (lv_at hl 4 rfl) ?_
  refine lv_bipush (v := 11) hx hb dX9_step_107 (by decide) ?_
  refine lv_aload_n hx hb dX9_step_109 rfl (lv_at hl 4 rfl) ?_
  refine lv_bipush (v := 11) hx hb dX9_step_110 (by decide) ?_
  refine x_iald hx hb hE.1 hP 2 0 rfl rfl 11 (by decide) (x_lit (k := 11) hn (by decide) (by decide)) dX9_step_112 ?_
  refine W.eq (g2 := F0 m 113 ls [.int (f 11), .int 11, .ref row]) rfl ?_
  refine lv_aload_n hx hb dX9_step_113 rfl (lv_at hl 4 rfl) ?_
  refine lv_bipush (v := 13) hx hb dX9_step_114 (by decide) ?_
  refine x_iald hx hb hE.1 hP 2 0 rfl rfl 13 (by decide) (x_lit (k := 13) hn (by decide) (by decide)) dX9_step_116 ?_
  refine W.eq (g2 := F0 m 117 ls [.int ((f 13) + ((sX9_turn_1 told f push) + (((told 8) * (sX9_sineOf (sX9_mod ((f 10) - (f 11))))) / 4096))), .int (f 11), .int 11, .ref row]) rfl ?_
  refine lv_bipush (v := 16) hx hb dX9_step_117 (by decide) ?_
  refine lv_idiv hx hb dX9_step_119 (by decide) ?_
  refine lv_iadd hx hb dX9_step_120 ?_
  refine x_rS [.int ((f 11) + (((f 13) + ((sX9_turn_1 told f push) + (((told 8) * (sX9_sineOf (sX9_mod ((f 10) - (f 11))))) / 4096))) / 16))] (kX9_mod l E ((f 11) + (((f 13) + ((sX9_turn_1 told f push) + (((told 8) * (sX9_sineOf (sX9_mod ((f 10) - (f 11))))) / 4096))) / 16))) ⟨hx, hb, hml, hown, hts⟩ (va_cwS 1 hts gX9_step_X9_mod rfl rfl rfl hdX9_mod.2 ⟨Nat.le_of_ble_eq_true rfl, Nat.le_of_ble_eq_true rfl⟩) hE hP (hX.d rfl) [] rfl rfl hl.1 rfl rfl (Nat.le_of_ble_eq_true rfl) dX9_step_121 (Nat.le_of_ble_eq_true rfl) (Nat.le_of_ble_eq_true rfl) ?_
  refine x_iast hx hb hE.1 hP (hX.d rfl) hS 2 0 rfl rfl 11 (by decide) (x_lit (k := 11) hn (by decide) (by decide)) dX9_step_124 (fun H locs hP _ hS => ?_)
  have hP : va_P E.1 vwCl [(h, .inr (9, [.int thrown, .ref nw, .ref td, .ref tx, .int length, .int textSize, .int start, .int next, .int token, .int value, .int error, .int errorAt, .int seen, .int triedWith, .ref rr, .ref ss, .ref tr, .ref wa, .int undos, .ref ud, .ref sl, .ref sv])), (td, .inl (E.2.1, 48, .inl told)), (row, .inl (E.2.1, n, .inl (upd (upd (upd (upd (upd (upd f 3 ((f 3) + push)) 12 ((f 12) + ((sX9_turn_0 told f push) - (((told 8) * (sX9_sineOf (sX9_mod ((f 10) - (f 11))))) / 4096)))) 13 ((f 13) + ((sX9_turn_1 told f push) + (((told 8) * (sX9_sineOf (sX9_mod ((f 10) - (f 11))))) / 4096)))) 2 ((f 2) + (((f 3) + push) / 8))) 10 (sX9_mod ((f 10) + (((f 12) + ((sX9_turn_0 told f push) - (((told 8) * (sX9_sineOf (sX9_mod ((f 10) - (f 11))))) / 4096))) / 16)))) 11 (sX9_mod ((f 11) + (((f 13) + ((sX9_turn_1 told f push) + (((told 8) * (sX9_sineOf (sX9_mod ((f 10) - (f 11))))) / 4096))) / 16))))))] H := hP
  refine lv_aload_n hx hb dX9_step_125 rfl (lv_at hl 4 rfl) ?_
  refine lv_iconst (v := 2) hx hb dX9_step_126 (by decide) ?_
  refine x_iald hx hb hE.1 hP 2 0 rfl rfl 2 (by decide) (x_lit (k := 2) hn (by decide) (by decide)) dX9_step_127 ?_
  refine W.eq (g2 := F0 m 128 ls [.int ((f 2) + (((f 3) + push) / 8))]) rfl ?_
  refine lv_aload_n hx hb dX9_step_128 rfl (lv_at hl 3 rfl) ?_
  refine va_get (D := E.1) (ci := 9) (v := .ref td) (C := RX9) (T := TX9) (N := 22) hx hb hts g_2 hown hE.1 hP 0 rfl rfl 2 (by decide) g_1 (fun _ h9 => h9) rfl dX9_step_129 ?_
  refine lv_iconst (v := 0) hx hb dX9_step_132 (by decide) ?_
  refine x_iald hx hb hE.1 hP 1 0 rfl rfl 0 (by decide) (by unfold vp_in; decide) dX9_step_133 ?_
  refine x_rS [.int ((f 2) + (((f 3) + push) / 8)), .int (told 0)] (kX9_isBeyond l E ((f 2) + (((f 3) + push) / 8)) (told 0)) ⟨hx, hb, hml, hown, hts⟩ (va_cwS 2 hts gX9_step_X9_isBeyond rfl rfl rfl hdX9_isBeyond.2 ⟨Nat.le_of_ble_eq_true rfl, Nat.le_of_ble_eq_true rfl⟩) hE hP (hX.d rfl) [] rfl rfl hl.1 rfl rfl (Nat.le_of_ble_eq_true rfl) dX9_step_134 (Nat.le_of_ble_eq_true rfl) (Nat.le_of_ble_eq_true rfl) ?_
  refine lv_if_eq (tgt := 171) hx hb dX9_step_137 (by decide) (fun c_1 => ?_) (fun c_1 => ?_)
  · refine lv_aload_n hx hb dX9_step_171 rfl (lv_at hl 4 rfl) ?_
    refine lv_bipush (v := 12) hx hb dX9_step_172 (by decide) ?_
    refine x_iald hx hb hE.1 hP 2 0 rfl rfl 12 (by decide) (x_lit (k := 12) hn (by decide) (by decide)) dX9_step_174 ?_
    refine W.eq (g2 := F0 m 175 ls [.int ((f 12) + ((sX9_turn_0 told f push) - (((told 8) * (sX9_sineOf (sX9_mod ((f 10) - (f 11))))) / 4096)))]) rfl ?_
    refine lv_aload_n hx hb dX9_step_175 rfl (lv_at hl 3 rfl) ?_
    refine va_get (D := E.1) (ci := 9) (v := .ref td) (C := RX9) (T := TX9) (N := 22) hx hb hts g_2 hown hE.1 hP 0 rfl rfl 2 (by decide) g_1 (fun _ h9 => h9) rfl dX9_step_176 ?_
    refine lv_bipush (v := 20) hx hb dX9_step_179 (by decide) ?_
    refine x_iald hx hb hE.1 hP 1 0 rfl rfl 20 (by decide) (by unfold vp_in; decide) dX9_step_181 ?_
    refine x_rS [.int ((f 12) + ((sX9_turn_0 told f push) - (((told 8) * (sX9_sineOf (sX9_mod ((f 10) - (f 11))))) / 4096))), .int (told 20)] (kX9_isBeyond l E ((f 12) + ((sX9_turn_0 told f push) - (((told 8) * (sX9_sineOf (sX9_mod ((f 10) - (f 11))))) / 4096))) (told 20)) ⟨hx, hb, hml, hown, hts⟩ (va_cwS 2 hts gX9_step_X9_isBeyond rfl rfl rfl hdX9_isBeyond.2 ⟨Nat.le_of_ble_eq_true rfl, Nat.le_of_ble_eq_true rfl⟩) hE hP (hX.d rfl) [] rfl rfl hl.1 rfl rfl (Nat.le_of_ble_eq_true rfl) dX9_step_182 (Nat.le_of_ble_eq_true rfl) (Nat.le_of_ble_eq_true rfl) ?_
    refine lv_if_ne (tgt := 205) hx hb dX9_step_185 (by decide) (fun c_2 => ?_) (fun c_2 => ?_)
    · refine lv_iconst (v := 2) hx hb dX9_step_205 (by decide) ?_
      refine lv_goto (tgt := 210) hx hb dX9_step_206 (by decide) ?_
      exact x_wi (2, upd (upd (upd (upd (upd (upd f 3 ((f 3) + push)) 12 ((f 12) + ((sX9_turn_0 told f push) - (((told 8) * (sX9_sineOf (sX9_mod ((f 10) - (f 11))))) / 4096)))) 13 ((f 13) + ((sX9_turn_1 told f push) + (((told 8) * (sX9_sineOf (sX9_mod ((f 10) - (f 11))))) / 4096)))) 2 ((f 2) + (((f 3) + push) / 8))) 10 (sX9_mod ((f 10) + (((f 12) + ((sX9_turn_0 told f push) - (((told 8) * (sX9_sineOf (sX9_mod ((f 10) - (f 11))))) / 4096))) / 16)))) 11 (sX9_mod ((f 11) + (((f 13) + ((sX9_turn_1 told f push) + (((told 8) * (sX9_sineOf (sX9_mod ((f 10) - (f 11))))) / 4096))) / 16)))) (by unfold sX9_step; rw [if_pos c_1]; rw [if_neg c_2]; try rfl) rfl hx hb hr hlk hS hP (hX.d rfl) [0, 1, 2] rfl rfl (Nat.le_of_ble_eq_true rfl) (Nat.le_of_ble_eq_true rfl) dX9_step_210
    · refine lv_aload_n hx hb dX9_step_188 rfl (lv_at hl 4 rfl) ?_
      refine lv_bipush (v := 13) hx hb dX9_step_189 (by decide) ?_
      refine x_iald hx hb hE.1 hP 2 0 rfl rfl 13 (by decide) (x_lit (k := 13) hn (by decide) (by decide)) dX9_step_191 ?_
      refine W.eq (g2 := F0 m 192 ls [.int ((f 13) + ((sX9_turn_1 told f push) + (((told 8) * (sX9_sineOf (sX9_mod ((f 10) - (f 11))))) / 4096)))]) rfl ?_
      refine lv_aload_n hx hb dX9_step_192 rfl (lv_at hl 3 rfl) ?_
      refine va_get (D := E.1) (ci := 9) (v := .ref td) (C := RX9) (T := TX9) (N := 22) hx hb hts g_2 hown hE.1 hP 0 rfl rfl 2 (by decide) g_1 (fun _ h9 => h9) rfl dX9_step_193 ?_
      refine lv_bipush (v := 20) hx hb dX9_step_196 (by decide) ?_
      refine x_iald hx hb hE.1 hP 1 0 rfl rfl 20 (by decide) (by unfold vp_in; decide) dX9_step_198 ?_
      refine x_rS [.int ((f 13) + ((sX9_turn_1 told f push) + (((told 8) * (sX9_sineOf (sX9_mod ((f 10) - (f 11))))) / 4096))), .int (told 20)] (kX9_isBeyond l E ((f 13) + ((sX9_turn_1 told f push) + (((told 8) * (sX9_sineOf (sX9_mod ((f 10) - (f 11))))) / 4096))) (told 20)) ⟨hx, hb, hml, hown, hts⟩ (va_cwS 2 hts gX9_step_X9_isBeyond rfl rfl rfl hdX9_isBeyond.2 ⟨Nat.le_of_ble_eq_true rfl, Nat.le_of_ble_eq_true rfl⟩) hE hP (hX.d rfl) [] rfl rfl hl.1 rfl rfl (Nat.le_of_ble_eq_true rfl) dX9_step_199 (Nat.le_of_ble_eq_true rfl) (Nat.le_of_ble_eq_true rfl) ?_
      refine lv_if_eq (tgt := 209) hx hb dX9_step_202 (by decide) (fun c_3 => ?_) (fun c_3 => ?_)
      · refine lv_iconst (v := 0) hx hb dX9_step_209 (by decide) ?_
        exact x_wi (0, upd (upd (upd (upd (upd (upd f 3 ((f 3) + push)) 12 ((f 12) + ((sX9_turn_0 told f push) - (((told 8) * (sX9_sineOf (sX9_mod ((f 10) - (f 11))))) / 4096)))) 13 ((f 13) + ((sX9_turn_1 told f push) + (((told 8) * (sX9_sineOf (sX9_mod ((f 10) - (f 11))))) / 4096)))) 2 ((f 2) + (((f 3) + push) / 8))) 10 (sX9_mod ((f 10) + (((f 12) + ((sX9_turn_0 told f push) - (((told 8) * (sX9_sineOf (sX9_mod ((f 10) - (f 11))))) / 4096))) / 16)))) 11 (sX9_mod ((f 11) + (((f 13) + ((sX9_turn_1 told f push) + (((told 8) * (sX9_sineOf (sX9_mod ((f 10) - (f 11))))) / 4096))) / 16)))) (by unfold sX9_step; rw [if_pos c_1]; rw [if_pos c_2]; rw [if_pos c_3]; try rfl) rfl hx hb hr hlk hS hP (hX.d rfl) [0, 1, 2] rfl rfl (Nat.le_of_ble_eq_true rfl) (Nat.le_of_ble_eq_true rfl) dX9_step_210
      · refine lv_iconst (v := 2) hx hb dX9_step_205 (by decide) ?_
        refine lv_goto (tgt := 210) hx hb dX9_step_206 (by decide) ?_
        exact x_wi (2, upd (upd (upd (upd (upd (upd f 3 ((f 3) + push)) 12 ((f 12) + ((sX9_turn_0 told f push) - (((told 8) * (sX9_sineOf (sX9_mod ((f 10) - (f 11))))) / 4096)))) 13 ((f 13) + ((sX9_turn_1 told f push) + (((told 8) * (sX9_sineOf (sX9_mod ((f 10) - (f 11))))) / 4096)))) 2 ((f 2) + (((f 3) + push) / 8))) 10 (sX9_mod ((f 10) + (((f 12) + ((sX9_turn_0 told f push) - (((told 8) * (sX9_sineOf (sX9_mod ((f 10) - (f 11))))) / 4096))) / 16)))) 11 (sX9_mod ((f 11) + (((f 13) + ((sX9_turn_1 told f push) + (((told 8) * (sX9_sineOf (sX9_mod ((f 10) - (f 11))))) / 4096))) / 16)))) (by unfold sX9_step; rw [if_pos c_1]; rw [if_pos c_2]; rw [if_neg c_3]; try rfl) rfl hx hb hr hlk hS hP (hX.d rfl) [0, 1, 2] rfl rfl (Nat.le_of_ble_eq_true rfl) (Nat.le_of_ble_eq_true rfl) dX9_step_210
  · refine lv_aload_n hx hb dX9_step_140 rfl (lv_at hl 4 rfl) ?_
    refine lv_iconst (v := 2) hx hb dX9_step_141 (by decide) ?_
    refine lv_aload_n hx hb dX9_step_142 rfl (lv_at hl 4 rfl) ?_
    refine lv_iconst (v := 2) hx hb dX9_step_143 (by decide) ?_
    refine x_iald hx hb hE.1 hP 2 0 rfl rfl 2 (by decide) (x_lit (k := 2) hn (by decide) (by decide)) dX9_step_144 ?_
    refine W.eq (g2 := F0 m 145 ls [.int ((f 2) + (((f 3) + push) / 8)), .int 2, .ref row]) rfl ?_
    refine lv_if_le (tgt := 157) hx hb dX9_step_145 (by decide) (fun c_4 => ?_) (fun c_4 => ?_)
    · refine lv_aload_n hx hb dX9_step_157 rfl (lv_at hl 3 rfl) ?_
      refine va_get (D := E.1) (ci := 9) (v := .ref td) (C := RX9) (T := TX9) (N := 22) hx hb hts g_2 hown hE.1 hP 0 rfl rfl 2 (by decide) g_1 (fun _ h9 => h9) rfl dX9_step_158 ?_
      refine lv_iconst (v := 0) hx hb dX9_step_161 (by decide) ?_
      refine x_iald hx hb hE.1 hP 1 0 rfl rfl 0 (by decide) (by unfold vp_in; decide) dX9_step_162 ?_
      refine lv_ineg hx hb dX9_step_163 ?_
      refine x_iast hx hb hE.1 hP (hX.d rfl) hS 2 0 rfl rfl 2 (by decide) (x_lit (k := 2) hn (by decide) (by decide)) dX9_step_164 (fun H locs hP _ hS => ?_)
      have hP : va_P E.1 vwCl [(h, .inr (9, [.int thrown, .ref nw, .ref td, .ref tx, .int length, .int textSize, .int start, .int next, .int token, .int value, .int error, .int errorAt, .int seen, .int triedWith, .ref rr, .ref ss, .ref tr, .ref wa, .int undos, .ref ud, .ref sl, .ref sv])), (td, .inl (E.2.1, 48, .inl told)), (row, .inl (E.2.1, n, .inl (upd (upd (upd (upd (upd (upd (upd f 3 ((f 3) + push)) 12 ((f 12) + ((sX9_turn_0 told f push) - (((told 8) * (sX9_sineOf (sX9_mod ((f 10) - (f 11))))) / 4096)))) 13 ((f 13) + ((sX9_turn_1 told f push) + (((told 8) * (sX9_sineOf (sX9_mod ((f 10) - (f 11))))) / 4096)))) 2 ((f 2) + (((f 3) + push) / 8))) 10 (sX9_mod ((f 10) + (((f 12) + ((sX9_turn_0 told f push) - (((told 8) * (sX9_sineOf (sX9_mod ((f 10) - (f 11))))) / 4096))) / 16)))) 11 (sX9_mod ((f 11) + (((f 13) + ((sX9_turn_1 told f push) + (((told 8) * (sX9_sineOf (sX9_mod ((f 10) - (f 11))))) / 4096))) / 16)))) 2 (-(told 0)))))] H := hP
      refine lv_aload_n hx hb dX9_step_165 rfl (lv_at hl 4 rfl) ?_
      refine lv_iconst (v := 3) hx hb dX9_step_166 (by decide) ?_
      refine lv_iconst (v := 0) hx hb dX9_step_167 (by decide) ?_
      refine x_iast hx hb hE.1 hP (hX.d rfl) hS 2 0 rfl rfl 3 (by decide) (x_lit (k := 3) hn (by decide) (by decide)) dX9_step_168 (fun H locs hP _ hS => ?_)
      have hP : va_P E.1 vwCl [(h, .inr (9, [.int thrown, .ref nw, .ref td, .ref tx, .int length, .int textSize, .int start, .int next, .int token, .int value, .int error, .int errorAt, .int seen, .int triedWith, .ref rr, .ref ss, .ref tr, .ref wa, .int undos, .ref ud, .ref sl, .ref sv])), (td, .inl (E.2.1, 48, .inl told)), (row, .inl (E.2.1, n, .inl (upd (upd (upd (upd (upd (upd (upd (upd f 3 ((f 3) + push)) 12 ((f 12) + ((sX9_turn_0 told f push) - (((told 8) * (sX9_sineOf (sX9_mod ((f 10) - (f 11))))) / 4096)))) 13 ((f 13) + ((sX9_turn_1 told f push) + (((told 8) * (sX9_sineOf (sX9_mod ((f 10) - (f 11))))) / 4096)))) 2 ((f 2) + (((f 3) + push) / 8))) 10 (sX9_mod ((f 10) + (((f 12) + ((sX9_turn_0 told f push) - (((told 8) * (sX9_sineOf (sX9_mod ((f 10) - (f 11))))) / 4096))) / 16)))) 11 (sX9_mod ((f 11) + (((f 13) + ((sX9_turn_1 told f push) + (((told 8) * (sX9_sineOf (sX9_mod ((f 10) - (f 11))))) / 4096))) / 16)))) 2 (-(told 0))) 3 0)))] H := hP
      refine lv_iconst (v := 1) hx hb dX9_step_169 (by decide) ?_
      exact x_wi (1, upd (upd (upd (upd (upd (upd (upd (upd f 3 ((f 3) + push)) 12 ((f 12) + ((sX9_turn_0 told f push) - (((told 8) * (sX9_sineOf (sX9_mod ((f 10) - (f 11))))) / 4096)))) 13 ((f 13) + ((sX9_turn_1 told f push) + (((told 8) * (sX9_sineOf (sX9_mod ((f 10) - (f 11))))) / 4096)))) 2 ((f 2) + (((f 3) + push) / 8))) 10 (sX9_mod ((f 10) + (((f 12) + ((sX9_turn_0 told f push) - (((told 8) * (sX9_sineOf (sX9_mod ((f 10) - (f 11))))) / 4096))) / 16)))) 11 (sX9_mod ((f 11) + (((f 13) + ((sX9_turn_1 told f push) + (((told 8) * (sX9_sineOf (sX9_mod ((f 10) - (f 11))))) / 4096))) / 16)))) 2 (-(told 0))) 3 0) (by unfold sX9_step; rw [if_neg c_1]; rw [if_pos c_4]; try rfl) rfl hx hb hr hlk hS hP (hX.d rfl) [0, 1, 2] rfl rfl (Nat.le_of_ble_eq_true rfl) (Nat.le_of_ble_eq_true rfl) dX9_step_170
    · refine lv_aload_n hx hb dX9_step_148 rfl (lv_at hl 3 rfl) ?_
      refine va_get (D := E.1) (ci := 9) (v := .ref td) (C := RX9) (T := TX9) (N := 22) hx hb hts g_2 hown hE.1 hP 0 rfl rfl 2 (by decide) g_1 (fun _ h9 => h9) rfl dX9_step_149 ?_
      refine lv_iconst (v := 0) hx hb dX9_step_152 (by decide) ?_
      refine x_iald hx hb hE.1 hP 1 0 rfl rfl 0 (by decide) (by unfold vp_in; decide) dX9_step_153 ?_
      refine lv_goto (tgt := 164) hx hb dX9_step_154 (by decide) ?_
      refine x_iast hx hb hE.1 hP (hX.d rfl) hS 2 0 rfl rfl 2 (by decide) (x_lit (k := 2) hn (by decide) (by decide)) dX9_step_164 (fun H locs hP _ hS => ?_)
      have hP : va_P E.1 vwCl [(h, .inr (9, [.int thrown, .ref nw, .ref td, .ref tx, .int length, .int textSize, .int start, .int next, .int token, .int value, .int error, .int errorAt, .int seen, .int triedWith, .ref rr, .ref ss, .ref tr, .ref wa, .int undos, .ref ud, .ref sl, .ref sv])), (td, .inl (E.2.1, 48, .inl told)), (row, .inl (E.2.1, n, .inl (upd (upd (upd (upd (upd (upd (upd f 3 ((f 3) + push)) 12 ((f 12) + ((sX9_turn_0 told f push) - (((told 8) * (sX9_sineOf (sX9_mod ((f 10) - (f 11))))) / 4096)))) 13 ((f 13) + ((sX9_turn_1 told f push) + (((told 8) * (sX9_sineOf (sX9_mod ((f 10) - (f 11))))) / 4096)))) 2 ((f 2) + (((f 3) + push) / 8))) 10 (sX9_mod ((f 10) + (((f 12) + ((sX9_turn_0 told f push) - (((told 8) * (sX9_sineOf (sX9_mod ((f 10) - (f 11))))) / 4096))) / 16)))) 11 (sX9_mod ((f 11) + (((f 13) + ((sX9_turn_1 told f push) + (((told 8) * (sX9_sineOf (sX9_mod ((f 10) - (f 11))))) / 4096))) / 16)))) 2 (told 0))))] H := hP
      refine lv_aload_n hx hb dX9_step_165 rfl (lv_at hl 4 rfl) ?_
      refine lv_iconst (v := 3) hx hb dX9_step_166 (by decide) ?_
      refine lv_iconst (v := 0) hx hb dX9_step_167 (by decide) ?_
      refine x_iast hx hb hE.1 hP (hX.d rfl) hS 2 0 rfl rfl 3 (by decide) (x_lit (k := 3) hn (by decide) (by decide)) dX9_step_168 (fun H locs hP _ hS => ?_)
      have hP : va_P E.1 vwCl [(h, .inr (9, [.int thrown, .ref nw, .ref td, .ref tx, .int length, .int textSize, .int start, .int next, .int token, .int value, .int error, .int errorAt, .int seen, .int triedWith, .ref rr, .ref ss, .ref tr, .ref wa, .int undos, .ref ud, .ref sl, .ref sv])), (td, .inl (E.2.1, 48, .inl told)), (row, .inl (E.2.1, n, .inl (upd (upd (upd (upd (upd (upd (upd (upd f 3 ((f 3) + push)) 12 ((f 12) + ((sX9_turn_0 told f push) - (((told 8) * (sX9_sineOf (sX9_mod ((f 10) - (f 11))))) / 4096)))) 13 ((f 13) + ((sX9_turn_1 told f push) + (((told 8) * (sX9_sineOf (sX9_mod ((f 10) - (f 11))))) / 4096)))) 2 ((f 2) + (((f 3) + push) / 8))) 10 (sX9_mod ((f 10) + (((f 12) + ((sX9_turn_0 told f push) - (((told 8) * (sX9_sineOf (sX9_mod ((f 10) - (f 11))))) / 4096))) / 16)))) 11 (sX9_mod ((f 11) + (((f 13) + ((sX9_turn_1 told f push) + (((told 8) * (sX9_sineOf (sX9_mod ((f 10) - (f 11))))) / 4096))) / 16)))) 2 (told 0)) 3 0)))] H := hP
      refine lv_iconst (v := 1) hx hb dX9_step_169 (by decide) ?_
      exact x_wi (1, upd (upd (upd (upd (upd (upd (upd (upd f 3 ((f 3) + push)) 12 ((f 12) + ((sX9_turn_0 told f push) - (((told 8) * (sX9_sineOf (sX9_mod ((f 10) - (f 11))))) / 4096)))) 13 ((f 13) + ((sX9_turn_1 told f push) + (((told 8) * (sX9_sineOf (sX9_mod ((f 10) - (f 11))))) / 4096)))) 2 ((f 2) + (((f 3) + push) / 8))) 10 (sX9_mod ((f 10) + (((f 12) + ((sX9_turn_0 told f push) - (((told 8) * (sX9_sineOf (sX9_mod ((f 10) - (f 11))))) / 4096))) / 16)))) 11 (sX9_mod ((f 11) + (((f 13) + ((sX9_turn_1 told f push) + (((told 8) * (sX9_sineOf (sX9_mod ((f 10) - (f 11))))) / 4096))) / 16)))) 2 (told 0)) 3 0) (by unfold sX9_step; rw [if_neg c_1]; rw [if_neg c_4]; try rfl) rfl hx hb hr hlk hS hP (hX.d rfl) [0, 1, 2] rfl rfl (Nat.le_of_ble_eq_true rfl) (Nat.le_of_ble_eq_true rfl) dX9_step_170
theorem x_step_ang (told f : Nat → Int32) (push : Int32) : 0 ≤ (sX9_step told f push).2 10 ∧ (sX9_step told f push).2 10 < 4096 ∧ 0 ≤ (sX9_step told f push).2 11 ∧ (sX9_step told f push).2 11 < 4096 := by
  unfold sX9_step
  repeat' split
  all_goals exact ⟨(x_mod _).1, (x_mod _).2, (x_mod _).1, (x_mod _).2⟩

def sX9_balancing_now (told : Nat → Int32) (f : Nat → Int32) : Int32 :=
  if ((((((((told 9) * (sX9_leanOf (f 10))) + ((told 10) * (f 12))) + ((told 11) * (sX9_leanOf (f 11)))) + ((told 12) * (f 13))) + ((told 13) * (f 2))) + ((told 14) * (f 3))) / 64) ≤ (f 5) then
    if (-(f 5)) ≤ ((((((((told 9) * (sX9_leanOf (f 10))) + ((told 10) * (f 12))) + ((told 11) * (sX9_leanOf (f 11)))) + ((told 12) * (f 13))) + ((told 13) * (f 2))) + ((told 14) * (f 3))) / 64) then
      (((((((told 9) * (sX9_leanOf (f 10))) + ((told 10) * (f 12))) + ((told 11) * (sX9_leanOf (f 11)))) + ((told 12) * (f 13))) + ((told 13) * (f 2))) + ((told 14) * (f 3))) / 64
    else
      -(f 5)
  else
    f 5
theorem hdX9_balancing : yX9_balancing.cls = RX9 ∧ yX9_balancing.cls ≠ "java/lang/invoke/MethodHandle" ∧ yX9_balancing.cls ≠ "java/lang/invoke/VarHandle" ∧ (parseMethodDescriptor yX9_balancing.desc).map (fun d => d.parameters.length) = some 1 := by decide +kernel
set_option maxHeartbeats 4000000 in
set_option maxRecDepth 100000 in
theorem kX9_balancing_now (l : Launch) (E : XE) (h : Nat) (thrown : Int32) (row : Nat) (td : Nat) (tx : Nat) (length : Int32) (textSize : Int32) (start : Int32) (next : Int32) (token : Int32) (value : Int32) (error : Int32) (errorAt : Int32) (seen : Int32) (triedWith : Int32) (rr : Nat) (ss : Nat) (tr : Nat) (wa : Nat) (undos : Int32) (ud : Nat) (sl : Nat) (sv : Nat) (told : Nat → Int32) (f : Nat → Int32) : xR l yX9_balancing wsX9_balancing ({ frames := 1, cells := 0, slots := 0, locals := 20 }) E [(h, .inr (9, [.int thrown, .ref row, .ref td, .ref tx, .int length, .int textSize, .int start, .int next, .int token, .int value, .int error, .int errorAt, .int seen, .int triedWith, .ref rr, .ref ss, .ref tr, .ref wa, .int undos, .ref ud, .ref sl, .ref sv])), (td, .inl (E.2.1, 48, .inl told)), (row, .inl (E.2.1, 214, .inl f))] [.ref h, .ref row] (.int (sX9_balancing_now told f)) := by
  refine xR.of (cc := cX9_balancing) (maxL := 5) (ret := (some .int)) (by decide) rfl (Nat.le_of_ble_eq_true rfl) ?_
  intro p e s m args below meth c ls hM hE hP hD hl
  obtain ⟨hx, hb, hr, hml, hts, hown, hlk, hnm⟩ := hM
  have g_1 : (Cond.fieldLink RX9 13 "RailPendulumModel" "told" "[I").before args s = true := hts (Cond.fieldLink RX9 13 "RailPendulumModel" "told" "[I") (by decide +kernel)
  have g_2 : ∀ w ∈ wsX90, w ∈ wsX9_balancing := by decide +kernel
  have g_3 : (Cond.fieldLink RX9 7 "RailPendulumModel" "now" "[I").before args s = true := hts (Cond.fieldLink RX9 7 "RailPendulumModel" "now" "[I") (by decide +kernel)
  have hl : lv_has ls 5 [(0, .ref h), (1, .ref row)] := hl
  refine lv_aload_n hx hb dX9_balancing_0 rfl (lv_at hl 0 rfl) ?_
  refine va_get (D := E.1) (ci := 9) (v := .ref td) (C := RX9) (T := TX9) (N := 22) hx hb hts g_2 hown hE.1 hP 0 rfl rfl 2 (by decide) g_1 (fun _ h9 => h9) rfl dX9_balancing_1 ?_
  refine lv_bipush (v := 9) hx hb dX9_balancing_4 (by decide) ?_
  refine x_iald hx hb hE.1 hP 1 0 rfl rfl 9 (by decide) (by unfold vp_in; decide) dX9_balancing_6 ?_
  refine lv_aload_n hx hb dX9_balancing_7 rfl (lv_at hl 1 rfl) ?_
  refine lv_bipush (v := 10) hx hb dX9_balancing_8 (by decide) ?_
  refine x_iald hx hb hE.1 hP 2 0 rfl rfl 10 (by decide) (by unfold vp_in; decide) dX9_balancing_10 ?_
  refine x_rS [.int (f 10)] (kX9_leanOf l E (f 10)) ⟨hx, hb, hml, hown, hts⟩ (va_cwS 1 hts gX9_balancing_X9_leanOf rfl rfl rfl hdX9_leanOf.2 ⟨Nat.le_of_ble_eq_true rfl, Nat.le_of_ble_eq_true rfl⟩) hE hP hD [] rfl rfl hl.1 rfl rfl (Nat.le_of_ble_eq_true rfl) dX9_balancing_11 (Nat.le_of_ble_eq_true rfl) (Nat.le_of_ble_eq_true rfl) ?_
  refine lv_imul hx hb dX9_balancing_14 ?_
  refine lv_aload_n hx hb dX9_balancing_15 rfl (lv_at hl 0 rfl) ?_
  refine va_get (D := E.1) (ci := 9) (v := .ref td) (C := RX9) (T := TX9) (N := 22) hx hb hts g_2 hown hE.1 hP 0 rfl rfl 2 (by decide) g_1 (fun _ h9 => h9) rfl dX9_balancing_16 ?_
  refine lv_bipush (v := 10) hx hb dX9_balancing_19 (by decide) ?_
  refine x_iald hx hb hE.1 hP 1 0 rfl rfl 10 (by decide) (by unfold vp_in; decide) dX9_balancing_21 ?_
  refine lv_aload_n hx hb dX9_balancing_22 rfl (lv_at hl 1 rfl) ?_
  refine lv_bipush (v := 12) hx hb dX9_balancing_23 (by decide) ?_
  refine x_iald hx hb hE.1 hP 2 0 rfl rfl 12 (by decide) (by unfold vp_in; decide) dX9_balancing_25 ?_
  refine lv_imul hx hb dX9_balancing_26 ?_
  refine lv_iadd hx hb dX9_balancing_27 ?_
  refine lv_aload_n hx hb dX9_balancing_28 rfl (lv_at hl 0 rfl) ?_
  refine va_get (D := E.1) (ci := 9) (v := .ref td) (C := RX9) (T := TX9) (N := 22) hx hb hts g_2 hown hE.1 hP 0 rfl rfl 2 (by decide) g_1 (fun _ h9 => h9) rfl dX9_balancing_29 ?_
  refine lv_bipush (v := 11) hx hb dX9_balancing_32 (by decide) ?_
  refine x_iald hx hb hE.1 hP 1 0 rfl rfl 11 (by decide) (by unfold vp_in; decide) dX9_balancing_34 ?_
  refine lv_aload_n hx hb dX9_balancing_35 rfl (lv_at hl 1 rfl) ?_
  refine lv_bipush (v := 11) hx hb dX9_balancing_36 (by decide) ?_
  refine x_iald hx hb hE.1 hP 2 0 rfl rfl 11 (by decide) (by unfold vp_in; decide) dX9_balancing_38 ?_
  refine x_rS [.int (f 11)] (kX9_leanOf l E (f 11)) ⟨hx, hb, hml, hown, hts⟩ (va_cwS 1 hts gX9_balancing_X9_leanOf rfl rfl rfl hdX9_leanOf.2 ⟨Nat.le_of_ble_eq_true rfl, Nat.le_of_ble_eq_true rfl⟩) hE hP hD [] rfl rfl hl.1 rfl rfl (Nat.le_of_ble_eq_true rfl) dX9_balancing_39 (Nat.le_of_ble_eq_true rfl) (Nat.le_of_ble_eq_true rfl) ?_
  refine lv_imul hx hb dX9_balancing_42 ?_
  refine lv_iadd hx hb dX9_balancing_43 ?_
  refine lv_aload_n hx hb dX9_balancing_44 rfl (lv_at hl 0 rfl) ?_
  refine va_get (D := E.1) (ci := 9) (v := .ref td) (C := RX9) (T := TX9) (N := 22) hx hb hts g_2 hown hE.1 hP 0 rfl rfl 2 (by decide) g_1 (fun _ h9 => h9) rfl dX9_balancing_45 ?_
  refine lv_bipush (v := 12) hx hb dX9_balancing_48 (by decide) ?_
  refine x_iald hx hb hE.1 hP 1 0 rfl rfl 12 (by decide) (by unfold vp_in; decide) dX9_balancing_50 ?_
  refine lv_aload_n hx hb dX9_balancing_51 rfl (lv_at hl 1 rfl) ?_
  refine lv_bipush (v := 13) hx hb dX9_balancing_52 (by decide) ?_
  refine x_iald hx hb hE.1 hP 2 0 rfl rfl 13 (by decide) (by unfold vp_in; decide) dX9_balancing_54 ?_
  refine lv_imul hx hb dX9_balancing_55 ?_
  refine lv_iadd hx hb dX9_balancing_56 ?_
  refine lv_aload_n hx hb dX9_balancing_57 rfl (lv_at hl 0 rfl) ?_
  refine va_get (D := E.1) (ci := 9) (v := .ref td) (C := RX9) (T := TX9) (N := 22) hx hb hts g_2 hown hE.1 hP 0 rfl rfl 2 (by decide) g_1 (fun _ h9 => h9) rfl dX9_balancing_58 ?_
  refine lv_bipush (v := 13) hx hb dX9_balancing_61 (by decide) ?_
  refine x_iald hx hb hE.1 hP 1 0 rfl rfl 13 (by decide) (by unfold vp_in; decide) dX9_balancing_63 ?_
  refine lv_aload_n hx hb dX9_balancing_64 rfl (lv_at hl 1 rfl) ?_
  refine lv_iconst (v := 2) hx hb dX9_balancing_65 (by decide) ?_
  refine x_iald hx hb hE.1 hP 2 0 rfl rfl 2 (by decide) (by unfold vp_in; decide) dX9_balancing_66 ?_
  refine lv_imul hx hb dX9_balancing_67 ?_
  refine lv_iadd hx hb dX9_balancing_68 ?_
  refine lv_aload_n hx hb dX9_balancing_69 rfl (lv_at hl 0 rfl) ?_
  refine va_get (D := E.1) (ci := 9) (v := .ref td) (C := RX9) (T := TX9) (N := 22) hx hb hts g_2 hown hE.1 hP 0 rfl rfl 2 (by decide) g_1 (fun _ h9 => h9) rfl dX9_balancing_70 ?_
  refine lv_bipush (v := 14) hx hb dX9_balancing_73 (by decide) ?_
  refine x_iald hx hb hE.1 hP 1 0 rfl rfl 14 (by decide) (by unfold vp_in; decide) dX9_balancing_75 ?_
  refine lv_aload_n hx hb dX9_balancing_76 rfl (lv_at hl 1 rfl) ?_
  refine lv_iconst (v := 3) hx hb dX9_balancing_77 (by decide) ?_
  refine x_iald hx hb hE.1 hP 2 0 rfl rfl 3 (by decide) (by unfold vp_in; decide) dX9_balancing_78 ?_
  refine lv_imul hx hb dX9_balancing_79 ?_
  refine lv_iadd hx hb dX9_balancing_80 ?_
  refine lv_istore_n (lv' := [(2, .int (((((((told 9) * (sX9_leanOf (f 10))) + ((told 10) * (f 12))) + ((told 11) * (sX9_leanOf (f 11)))) + ((told 12) * (f 13))) + ((told 13) * (f 2))) + ((told 14) * (f 3)))), (0, .ref h), (1, .ref row)]) hx hb dX9_balancing_81 rfl hl (by decide) rfl (fun ls hl => ?_)
  refine lv_iload_n hx hb dX9_balancing_82 rfl (lv_at hl 0 rfl) ?_
  refine lv_bipush (v := 64) hx hb dX9_balancing_83 (by decide) ?_
  refine lv_idiv hx hb dX9_balancing_85 (by decide) ?_
  refine lv_istore_n (lv' := [(3, .int ((((((((told 9) * (sX9_leanOf (f 10))) + ((told 10) * (f 12))) + ((told 11) * (sX9_leanOf (f 11)))) + ((told 12) * (f 13))) + ((told 13) * (f 2))) + ((told 14) * (f 3))) / 64)), (2, .int (((((((told 9) * (sX9_leanOf (f 10))) + ((told 10) * (f 12))) + ((told 11) * (sX9_leanOf (f 11)))) + ((told 12) * (f 13))) + ((told 13) * (f 2))) + ((told 14) * (f 3)))), (0, .ref h), (1, .ref row)]) hx hb dX9_balancing_86 rfl hl (by decide) rfl (fun ls hl => ?_)
  refine lv_aload_n hx hb dX9_balancing_87 rfl (lv_at hl 2 rfl) ?_
  refine va_get (D := E.1) (ci := 9) (v := .ref row) (C := RX9) (T := TX9) (N := 22) hx hb hts g_2 hown hE.1 hP 0 rfl rfl 1 (by decide) g_3 (fun _ h9 => h9) rfl dX9_balancing_88 ?_
  refine lv_iconst (v := 5) hx hb dX9_balancing_91 (by decide) ?_
  refine x_iald hx hb hE.1 hP 2 0 rfl rfl 5 (by decide) (by unfold vp_in; decide) dX9_balancing_92 ?_
  refine lv_istore (lv' := [(4, .int (f 5)), (3, .int ((((((((told 9) * (sX9_leanOf (f 10))) + ((told 10) * (f 12))) + ((told 11) * (sX9_leanOf (f 11)))) + ((told 12) * (f 13))) + ((told 13) * (f 2))) + ((told 14) * (f 3))) / 64)), (2, .int (((((((told 9) * (sX9_leanOf (f 10))) + ((told 10) * (f 12))) + ((told 11) * (sX9_leanOf (f 11)))) + ((told 12) * (f 13))) + ((told 13) * (f 2))) + ((told 14) * (f 3)))), (0, .ref h), (1, .ref row)]) hx hb dX9_balancing_93 hl (by decide) rfl (fun ls hl => ?_)
  refine lv_iload_n hx hb dX9_balancing_95 rfl (lv_at hl 1 rfl) ?_
  refine lv_iload hx hb dX9_balancing_96 (lv_at hl 0 rfl) ?_
  refine lv_icmp_le (tgt := 106) hx hb dX9_balancing_98 (by decide) (fun c_1 => ?_) (fun c_1 => ?_)
  · refine lv_iload_n hx hb dX9_balancing_106 rfl (lv_at hl 1 rfl) ?_
    refine lv_iload hx hb dX9_balancing_107 (lv_at hl 0 rfl) ?_
    refine lv_ineg hx hb dX9_balancing_109 ?_
    refine lv_icmp_ge (tgt := 119) hx hb dX9_balancing_110 (by decide) (fun c_2 => ?_) (fun c_2 => ?_)
    · refine lv_iload_n hx hb dX9_balancing_119 rfl (lv_at hl 1 rfl) ?_
      exact x_ir (by unfold sX9_balancing_now; rw [if_pos c_1]; rw [if_pos c_2]; try rfl) hx hb hr hlk dX9_balancing_120
    · refine lv_iload hx hb dX9_balancing_113 (lv_at hl 0 rfl) ?_
      refine lv_ineg hx hb dX9_balancing_115 ?_
      refine lv_goto (tgt := 120) hx hb dX9_balancing_116 (by decide) ?_
      exact x_ir (by unfold sX9_balancing_now; rw [if_pos c_1]; rw [if_neg c_2]; try rfl) hx hb hr hlk dX9_balancing_120
  · refine lv_iload hx hb dX9_balancing_101 (lv_at hl 0 rfl) ?_
    refine lv_goto (tgt := 120) hx hb dX9_balancing_103 (by decide) ?_
    exact x_ir (by unfold sX9_balancing_now; rw [if_neg c_1]; try rfl) hx hb hr hlk dX9_balancing_120
def sX9_balancing_try (told : Nat → Int32) (now : Nat → Int32) (f : Nat → Int32) : Int32 :=
  if ((((((((told 9) * (sX9_leanOf (f 10))) + ((told 10) * (f 12))) + ((told 11) * (sX9_leanOf (f 11)))) + ((told 12) * (f 13))) + ((told 13) * (f 2))) + ((told 14) * (f 3))) / 64) ≤ (now 5) then
    if (-(now 5)) ≤ ((((((((told 9) * (sX9_leanOf (f 10))) + ((told 10) * (f 12))) + ((told 11) * (sX9_leanOf (f 11)))) + ((told 12) * (f 13))) + ((told 13) * (f 2))) + ((told 14) * (f 3))) / 64) then
      (((((((told 9) * (sX9_leanOf (f 10))) + ((told 10) * (f 12))) + ((told 11) * (sX9_leanOf (f 11)))) + ((told 12) * (f 13))) + ((told 13) * (f 2))) + ((told 14) * (f 3))) / 64
    else
      -(now 5)
  else
    now 5
set_option maxHeartbeats 4000000 in
set_option maxRecDepth 100000 in
theorem kX9_balancing_try (l : Launch) (E : XE) (h : Nat) (thrown : Int32) (nw : Nat) (td : Nat) (tx : Nat) (length : Int32) (textSize : Int32) (start : Int32) (next : Int32) (token : Int32) (value : Int32) (error : Int32) (errorAt : Int32) (seen : Int32) (triedWith : Int32) (rr : Nat) (ss : Nat) (tr : Nat) (wa : Nat) (undos : Int32) (ud : Nat) (sl : Nat) (sv : Nat) (told : Nat → Int32) (now : Nat → Int32) (row : Nat) (f : Nat → Int32) : xR l yX9_balancing wsX9_balancing ({ frames := 1, cells := 0, slots := 0, locals := 20 }) E [(h, .inr (9, [.int thrown, .ref nw, .ref td, .ref tx, .int length, .int textSize, .int start, .int next, .int token, .int value, .int error, .int errorAt, .int seen, .int triedWith, .ref rr, .ref ss, .ref tr, .ref wa, .int undos, .ref ud, .ref sl, .ref sv])), (td, .inl (E.2.1, 48, .inl told)), (nw, .inl (E.2.1, 214, .inl now)), (row, .inl (E.2.1, 14, .inl f))] [.ref h, .ref row] (.int (sX9_balancing_try told now f)) := by
  refine xR.of (cc := cX9_balancing) (maxL := 5) (ret := (some .int)) (by decide) rfl (Nat.le_of_ble_eq_true rfl) ?_
  intro p e s m args below meth c ls hM hE hP hD hl
  obtain ⟨hx, hb, hr, hml, hts, hown, hlk, hnm⟩ := hM
  have g_1 : (Cond.fieldLink RX9 13 "RailPendulumModel" "told" "[I").before args s = true := hts (Cond.fieldLink RX9 13 "RailPendulumModel" "told" "[I") (by decide +kernel)
  have g_2 : ∀ w ∈ wsX90, w ∈ wsX9_balancing := by decide +kernel
  have g_3 : (Cond.fieldLink RX9 7 "RailPendulumModel" "now" "[I").before args s = true := hts (Cond.fieldLink RX9 7 "RailPendulumModel" "now" "[I") (by decide +kernel)
  have hl : lv_has ls 5 [(0, .ref h), (1, .ref row)] := hl
  refine lv_aload_n hx hb dX9_balancing_0 rfl (lv_at hl 0 rfl) ?_
  refine va_get (D := E.1) (ci := 9) (v := .ref td) (C := RX9) (T := TX9) (N := 22) hx hb hts g_2 hown hE.1 hP 0 rfl rfl 2 (by decide) g_1 (fun _ h9 => h9) rfl dX9_balancing_1 ?_
  refine lv_bipush (v := 9) hx hb dX9_balancing_4 (by decide) ?_
  refine x_iald hx hb hE.1 hP 1 0 rfl rfl 9 (by decide) (by unfold vp_in; decide) dX9_balancing_6 ?_
  refine lv_aload_n hx hb dX9_balancing_7 rfl (lv_at hl 1 rfl) ?_
  refine lv_bipush (v := 10) hx hb dX9_balancing_8 (by decide) ?_
  refine x_iald hx hb hE.1 hP 3 0 rfl rfl 10 (by decide) (by unfold vp_in; decide) dX9_balancing_10 ?_
  refine x_rS [.int (f 10)] (kX9_leanOf l E (f 10)) ⟨hx, hb, hml, hown, hts⟩ (va_cwS 1 hts gX9_balancing_X9_leanOf rfl rfl rfl hdX9_leanOf.2 ⟨Nat.le_of_ble_eq_true rfl, Nat.le_of_ble_eq_true rfl⟩) hE hP hD [] rfl rfl hl.1 rfl rfl (Nat.le_of_ble_eq_true rfl) dX9_balancing_11 (Nat.le_of_ble_eq_true rfl) (Nat.le_of_ble_eq_true rfl) ?_
  refine lv_imul hx hb dX9_balancing_14 ?_
  refine lv_aload_n hx hb dX9_balancing_15 rfl (lv_at hl 0 rfl) ?_
  refine va_get (D := E.1) (ci := 9) (v := .ref td) (C := RX9) (T := TX9) (N := 22) hx hb hts g_2 hown hE.1 hP 0 rfl rfl 2 (by decide) g_1 (fun _ h9 => h9) rfl dX9_balancing_16 ?_
  refine lv_bipush (v := 10) hx hb dX9_balancing_19 (by decide) ?_
  refine x_iald hx hb hE.1 hP 1 0 rfl rfl 10 (by decide) (by unfold vp_in; decide) dX9_balancing_21 ?_
  refine lv_aload_n hx hb dX9_balancing_22 rfl (lv_at hl 1 rfl) ?_
  refine lv_bipush (v := 12) hx hb dX9_balancing_23 (by decide) ?_
  refine x_iald hx hb hE.1 hP 3 0 rfl rfl 12 (by decide) (by unfold vp_in; decide) dX9_balancing_25 ?_
  refine lv_imul hx hb dX9_balancing_26 ?_
  refine lv_iadd hx hb dX9_balancing_27 ?_
  refine lv_aload_n hx hb dX9_balancing_28 rfl (lv_at hl 0 rfl) ?_
  refine va_get (D := E.1) (ci := 9) (v := .ref td) (C := RX9) (T := TX9) (N := 22) hx hb hts g_2 hown hE.1 hP 0 rfl rfl 2 (by decide) g_1 (fun _ h9 => h9) rfl dX9_balancing_29 ?_
  refine lv_bipush (v := 11) hx hb dX9_balancing_32 (by decide) ?_
  refine x_iald hx hb hE.1 hP 1 0 rfl rfl 11 (by decide) (by unfold vp_in; decide) dX9_balancing_34 ?_
  refine lv_aload_n hx hb dX9_balancing_35 rfl (lv_at hl 1 rfl) ?_
  refine lv_bipush (v := 11) hx hb dX9_balancing_36 (by decide) ?_
  refine x_iald hx hb hE.1 hP 3 0 rfl rfl 11 (by decide) (by unfold vp_in; decide) dX9_balancing_38 ?_
  refine x_rS [.int (f 11)] (kX9_leanOf l E (f 11)) ⟨hx, hb, hml, hown, hts⟩ (va_cwS 1 hts gX9_balancing_X9_leanOf rfl rfl rfl hdX9_leanOf.2 ⟨Nat.le_of_ble_eq_true rfl, Nat.le_of_ble_eq_true rfl⟩) hE hP hD [] rfl rfl hl.1 rfl rfl (Nat.le_of_ble_eq_true rfl) dX9_balancing_39 (Nat.le_of_ble_eq_true rfl) (Nat.le_of_ble_eq_true rfl) ?_
  refine lv_imul hx hb dX9_balancing_42 ?_
  refine lv_iadd hx hb dX9_balancing_43 ?_
  refine lv_aload_n hx hb dX9_balancing_44 rfl (lv_at hl 0 rfl) ?_
  refine va_get (D := E.1) (ci := 9) (v := .ref td) (C := RX9) (T := TX9) (N := 22) hx hb hts g_2 hown hE.1 hP 0 rfl rfl 2 (by decide) g_1 (fun _ h9 => h9) rfl dX9_balancing_45 ?_
  refine lv_bipush (v := 12) hx hb dX9_balancing_48 (by decide) ?_
  refine x_iald hx hb hE.1 hP 1 0 rfl rfl 12 (by decide) (by unfold vp_in; decide) dX9_balancing_50 ?_
  refine lv_aload_n hx hb dX9_balancing_51 rfl (lv_at hl 1 rfl) ?_
  refine lv_bipush (v := 13) hx hb dX9_balancing_52 (by decide) ?_
  refine x_iald hx hb hE.1 hP 3 0 rfl rfl 13 (by decide) (by unfold vp_in; decide) dX9_balancing_54 ?_
  refine lv_imul hx hb dX9_balancing_55 ?_
  refine lv_iadd hx hb dX9_balancing_56 ?_
  refine lv_aload_n hx hb dX9_balancing_57 rfl (lv_at hl 0 rfl) ?_
  refine va_get (D := E.1) (ci := 9) (v := .ref td) (C := RX9) (T := TX9) (N := 22) hx hb hts g_2 hown hE.1 hP 0 rfl rfl 2 (by decide) g_1 (fun _ h9 => h9) rfl dX9_balancing_58 ?_
  refine lv_bipush (v := 13) hx hb dX9_balancing_61 (by decide) ?_
  refine x_iald hx hb hE.1 hP 1 0 rfl rfl 13 (by decide) (by unfold vp_in; decide) dX9_balancing_63 ?_
  refine lv_aload_n hx hb dX9_balancing_64 rfl (lv_at hl 1 rfl) ?_
  refine lv_iconst (v := 2) hx hb dX9_balancing_65 (by decide) ?_
  refine x_iald hx hb hE.1 hP 3 0 rfl rfl 2 (by decide) (by unfold vp_in; decide) dX9_balancing_66 ?_
  refine lv_imul hx hb dX9_balancing_67 ?_
  refine lv_iadd hx hb dX9_balancing_68 ?_
  refine lv_aload_n hx hb dX9_balancing_69 rfl (lv_at hl 0 rfl) ?_
  refine va_get (D := E.1) (ci := 9) (v := .ref td) (C := RX9) (T := TX9) (N := 22) hx hb hts g_2 hown hE.1 hP 0 rfl rfl 2 (by decide) g_1 (fun _ h9 => h9) rfl dX9_balancing_70 ?_
  refine lv_bipush (v := 14) hx hb dX9_balancing_73 (by decide) ?_
  refine x_iald hx hb hE.1 hP 1 0 rfl rfl 14 (by decide) (by unfold vp_in; decide) dX9_balancing_75 ?_
  refine lv_aload_n hx hb dX9_balancing_76 rfl (lv_at hl 1 rfl) ?_
  refine lv_iconst (v := 3) hx hb dX9_balancing_77 (by decide) ?_
  refine x_iald hx hb hE.1 hP 3 0 rfl rfl 3 (by decide) (by unfold vp_in; decide) dX9_balancing_78 ?_
  refine lv_imul hx hb dX9_balancing_79 ?_
  refine lv_iadd hx hb dX9_balancing_80 ?_
  refine lv_istore_n (lv' := [(2, .int (((((((told 9) * (sX9_leanOf (f 10))) + ((told 10) * (f 12))) + ((told 11) * (sX9_leanOf (f 11)))) + ((told 12) * (f 13))) + ((told 13) * (f 2))) + ((told 14) * (f 3)))), (0, .ref h), (1, .ref row)]) hx hb dX9_balancing_81 rfl hl (by decide) rfl (fun ls hl => ?_)
  refine lv_iload_n hx hb dX9_balancing_82 rfl (lv_at hl 0 rfl) ?_
  refine lv_bipush (v := 64) hx hb dX9_balancing_83 (by decide) ?_
  refine lv_idiv hx hb dX9_balancing_85 (by decide) ?_
  refine lv_istore_n (lv' := [(3, .int ((((((((told 9) * (sX9_leanOf (f 10))) + ((told 10) * (f 12))) + ((told 11) * (sX9_leanOf (f 11)))) + ((told 12) * (f 13))) + ((told 13) * (f 2))) + ((told 14) * (f 3))) / 64)), (2, .int (((((((told 9) * (sX9_leanOf (f 10))) + ((told 10) * (f 12))) + ((told 11) * (sX9_leanOf (f 11)))) + ((told 12) * (f 13))) + ((told 13) * (f 2))) + ((told 14) * (f 3)))), (0, .ref h), (1, .ref row)]) hx hb dX9_balancing_86 rfl hl (by decide) rfl (fun ls hl => ?_)
  refine lv_aload_n hx hb dX9_balancing_87 rfl (lv_at hl 2 rfl) ?_
  refine va_get (D := E.1) (ci := 9) (v := .ref nw) (C := RX9) (T := TX9) (N := 22) hx hb hts g_2 hown hE.1 hP 0 rfl rfl 1 (by decide) g_3 (fun _ h9 => h9) rfl dX9_balancing_88 ?_
  refine lv_iconst (v := 5) hx hb dX9_balancing_91 (by decide) ?_
  refine x_iald hx hb hE.1 hP 2 0 rfl rfl 5 (by decide) (by unfold vp_in; decide) dX9_balancing_92 ?_
  refine lv_istore (lv' := [(4, .int (now 5)), (3, .int ((((((((told 9) * (sX9_leanOf (f 10))) + ((told 10) * (f 12))) + ((told 11) * (sX9_leanOf (f 11)))) + ((told 12) * (f 13))) + ((told 13) * (f 2))) + ((told 14) * (f 3))) / 64)), (2, .int (((((((told 9) * (sX9_leanOf (f 10))) + ((told 10) * (f 12))) + ((told 11) * (sX9_leanOf (f 11)))) + ((told 12) * (f 13))) + ((told 13) * (f 2))) + ((told 14) * (f 3)))), (0, .ref h), (1, .ref row)]) hx hb dX9_balancing_93 hl (by decide) rfl (fun ls hl => ?_)
  refine lv_iload_n hx hb dX9_balancing_95 rfl (lv_at hl 1 rfl) ?_
  refine lv_iload hx hb dX9_balancing_96 (lv_at hl 0 rfl) ?_
  refine lv_icmp_le (tgt := 106) hx hb dX9_balancing_98 (by decide) (fun c_1 => ?_) (fun c_1 => ?_)
  · refine lv_iload_n hx hb dX9_balancing_106 rfl (lv_at hl 1 rfl) ?_
    refine lv_iload hx hb dX9_balancing_107 (lv_at hl 0 rfl) ?_
    refine lv_ineg hx hb dX9_balancing_109 ?_
    refine lv_icmp_ge (tgt := 119) hx hb dX9_balancing_110 (by decide) (fun c_2 => ?_) (fun c_2 => ?_)
    · refine lv_iload_n hx hb dX9_balancing_119 rfl (lv_at hl 1 rfl) ?_
      exact x_ir (by unfold sX9_balancing_try; rw [if_pos c_1]; rw [if_pos c_2]; try rfl) hx hb hr hlk dX9_balancing_120
    · refine lv_iload hx hb dX9_balancing_113 (lv_at hl 0 rfl) ?_
      refine lv_ineg hx hb dX9_balancing_115 ?_
      refine lv_goto (tgt := 120) hx hb dX9_balancing_116 (by decide) ?_
      exact x_ir (by unfold sX9_balancing_try; rw [if_pos c_1]; rw [if_neg c_2]; try rfl) hx hb hr hlk dX9_balancing_120
  · refine lv_iload hx hb dX9_balancing_101 (lv_at hl 0 rfl) ?_
    refine lv_goto (tgt := 120) hx hb dX9_balancing_103 (by decide) ?_
    exact x_ir (by unfold sX9_balancing_try; rw [if_neg c_1]; try rfl) hx hb hr hlk dX9_balancing_120
def sX9_leansBeyond (f : Nat → Int32) (bound : Int32) : Int32 :=
  if (sX9_isBeyond (sX9_leanOf (f 10)) bound) = 0 then
    if (sX9_isBeyond (sX9_leanOf (f 11)) bound) = 0 then
      0
    else
      1
  else
    1
theorem hdX9_leansBeyond : yX9_leansBeyond.cls = RX9 ∧ yX9_leansBeyond.cls ≠ "java/lang/invoke/MethodHandle" ∧ yX9_leansBeyond.cls ≠ "java/lang/invoke/VarHandle" ∧ (parseMethodDescriptor yX9_leansBeyond.desc).map (fun d => d.parameters.length) = some 2 := by decide +kernel
set_option maxHeartbeats 4000000 in
set_option maxRecDepth 100000 in
theorem kX9_leansBeyond (l : Launch) (E : XE) (row : Nat) (n : Nat) (f : Nat → Int32) (bound : Int32) (hn : 14 ≤ n) : xR l yX9_leansBeyond wsX9_leansBeyond ({ frames := 1, cells := 0, slots := 0, locals := 21 }) E [(row, .inl (E.2.1, n, .inl f))] [.ref row, .int bound] (.int (sX9_leansBeyond f bound)) := by
  refine xR.of (cc := cX9_leansBeyond) (maxL := 2) (ret := (some .boolean)) (by decide) rfl (Nat.le_of_ble_eq_true rfl) ?_
  intro p e s m args below meth c ls hM hE hP hD hl
  obtain ⟨hx, hb, hr, hml, hts, hown, hlk, hnm⟩ := hM
  have hl : lv_has ls 2 [(0, .ref row), (1, .int bound)] := hl
  refine lv_aload_n hx hb dX9_leansBeyond_0 rfl (lv_at hl 0 rfl) ?_
  refine lv_bipush (v := 10) hx hb dX9_leansBeyond_1 (by decide) ?_
  refine x_iald hx hb hE.1 hP 0 0 rfl rfl 10 (by decide) (x_lit (k := 10) hn (by decide) (by decide)) dX9_leansBeyond_3 ?_
  refine x_rS [.int (f 10)] (kX9_leanOf l E (f 10)) ⟨hx, hb, hml, hown, hts⟩ (va_cwS 1 hts gX9_leansBeyond_X9_leanOf rfl rfl rfl hdX9_leanOf.2 ⟨Nat.le_of_ble_eq_true rfl, Nat.le_of_ble_eq_true rfl⟩) hE hP hD [] rfl rfl hl.1 rfl rfl (Nat.le_of_ble_eq_true rfl) dX9_leansBeyond_4 (Nat.le_of_ble_eq_true rfl) (Nat.le_of_ble_eq_true rfl) ?_
  refine lv_iload_n hx hb dX9_leansBeyond_7 rfl (lv_at hl 1 rfl) ?_
  refine x_rS [.int (sX9_leanOf (f 10)), .int bound] (kX9_isBeyond l E (sX9_leanOf (f 10)) bound) ⟨hx, hb, hml, hown, hts⟩ (va_cwS 2 hts gX9_leansBeyond_X9_isBeyond rfl rfl rfl hdX9_isBeyond.2 ⟨Nat.le_of_ble_eq_true rfl, Nat.le_of_ble_eq_true rfl⟩) hE hP hD [] rfl rfl hl.1 rfl rfl (Nat.le_of_ble_eq_true rfl) dX9_leansBeyond_8 (Nat.le_of_ble_eq_true rfl) (Nat.le_of_ble_eq_true rfl) ?_
  refine lv_if_ne (tgt := 28) hx hb dX9_leansBeyond_11 (by decide) (fun c_1 => ?_) (fun c_1 => ?_)
  · refine lv_iconst (v := 1) hx hb dX9_leansBeyond_28 (by decide) ?_
    refine lv_goto (tgt := 33) hx hb dX9_leansBeyond_29 (by decide) ?_
    exact x_zr (by unfold sX9_leansBeyond; rw [if_neg c_1]; try rfl) hx hb hr hlk rfl dX9_leansBeyond_33
  · refine lv_aload_n hx hb dX9_leansBeyond_14 rfl (lv_at hl 0 rfl) ?_
    refine lv_bipush (v := 11) hx hb dX9_leansBeyond_15 (by decide) ?_
    refine x_iald hx hb hE.1 hP 0 0 rfl rfl 11 (by decide) (x_lit (k := 11) hn (by decide) (by decide)) dX9_leansBeyond_17 ?_
    refine x_rS [.int (f 11)] (kX9_leanOf l E (f 11)) ⟨hx, hb, hml, hown, hts⟩ (va_cwS 1 hts gX9_leansBeyond_X9_leanOf rfl rfl rfl hdX9_leanOf.2 ⟨Nat.le_of_ble_eq_true rfl, Nat.le_of_ble_eq_true rfl⟩) hE hP hD [] rfl rfl hl.1 rfl rfl (Nat.le_of_ble_eq_true rfl) dX9_leansBeyond_18 (Nat.le_of_ble_eq_true rfl) (Nat.le_of_ble_eq_true rfl) ?_
    refine lv_iload_n hx hb dX9_leansBeyond_21 rfl (lv_at hl 1 rfl) ?_
    refine x_rS [.int (sX9_leanOf (f 11)), .int bound] (kX9_isBeyond l E (sX9_leanOf (f 11)) bound) ⟨hx, hb, hml, hown, hts⟩ (va_cwS 2 hts gX9_leansBeyond_X9_isBeyond rfl rfl rfl hdX9_isBeyond.2 ⟨Nat.le_of_ble_eq_true rfl, Nat.le_of_ble_eq_true rfl⟩) hE hP hD [] rfl rfl hl.1 rfl rfl (Nat.le_of_ble_eq_true rfl) dX9_leansBeyond_22 (Nat.le_of_ble_eq_true rfl) (Nat.le_of_ble_eq_true rfl) ?_
    refine lv_if_eq (tgt := 32) hx hb dX9_leansBeyond_25 (by decide) (fun c_2 => ?_) (fun c_2 => ?_)
    · refine lv_iconst (v := 0) hx hb dX9_leansBeyond_32 (by decide) ?_
      exact x_zr (by unfold sX9_leansBeyond; rw [if_pos c_1]; rw [if_pos c_2]; try rfl) hx hb hr hlk rfl dX9_leansBeyond_33
    · refine lv_iconst (v := 1) hx hb dX9_leansBeyond_28 (by decide) ?_
      refine lv_goto (tgt := 33) hx hb dX9_leansBeyond_29 (by decide) ?_
      exact x_zr (by unfold sX9_leansBeyond; rw [if_pos c_1]; rw [if_neg c_2]; try rfl) hx hb hr hlk rfl dX9_leansBeyond_33
def sX9_isCell (told : Nat → Int32) (i : Int32) (j : Int32) : Int32 :=
  if (sX9_within i (-(told 17)) (told 17)) = 0 then
    0
  else
    if (sX9_within j (-(told 17)) (told 17)) = 0 then
      0
    else
      1
theorem hdX9_isCell : yX9_isCell.cls = RX9 ∧ yX9_isCell.cls ≠ "java/lang/invoke/MethodHandle" ∧ yX9_isCell.cls ≠ "java/lang/invoke/VarHandle" ∧ (parseMethodDescriptor yX9_isCell.desc).map (fun d => d.parameters.length) = some 2 := by decide +kernel
set_option maxHeartbeats 4000000 in
set_option maxRecDepth 100000 in
theorem kX9_isCell (l : Launch) (E : XE) (h : Nat) (thrown : Int32) (nw : Nat) (td : Nat) (tx : Nat) (length : Int32) (textSize : Int32) (start : Int32) (next : Int32) (token : Int32) (value : Int32) (error : Int32) (errorAt : Int32) (seen : Int32) (triedWith : Int32) (rr : Nat) (ss : Nat) (tr : Nat) (wa : Nat) (undos : Int32) (ud : Nat) (sl : Nat) (sv : Nat) (told : Nat → Int32) (i : Int32) (j : Int32) : xR l yX9_isCell wsX9_isCell ({ frames := 1, cells := 0, slots := 0, locals := 22 }) E [(h, .inr (9, [.int thrown, .ref nw, .ref td, .ref tx, .int length, .int textSize, .int start, .int next, .int token, .int value, .int error, .int errorAt, .int seen, .int triedWith, .ref rr, .ref ss, .ref tr, .ref wa, .int undos, .ref ud, .ref sl, .ref sv])), (td, .inl (E.2.1, 48, .inl told))] [.ref h, .int i, .int j] (.int (sX9_isCell told i j)) := by
  refine xR.of (cc := cX9_isCell) (maxL := 3) (ret := (some .boolean)) (by decide) rfl (Nat.le_of_ble_eq_true rfl) ?_
  intro p e s m args below meth c ls hM hE hP hD hl
  obtain ⟨hx, hb, hr, hml, hts, hown, hlk, hnm⟩ := hM
  have g_1 : (Cond.fieldLink RX9 13 "RailPendulumModel" "told" "[I").before args s = true := hts (Cond.fieldLink RX9 13 "RailPendulumModel" "told" "[I") (by decide +kernel)
  have g_2 : ∀ w ∈ wsX90, w ∈ wsX9_isCell := by decide +kernel
  have hl : lv_has ls 3 [(0, .ref h), (1, .int i), (2, .int j)] := hl
  refine lv_iload_n hx hb dX9_isCell_0 rfl (lv_at hl 1 rfl) ?_
  refine lv_aload_n hx hb dX9_isCell_1 rfl (lv_at hl 0 rfl) ?_
  refine va_get (D := E.1) (ci := 9) (v := .ref td) (C := RX9) (T := TX9) (N := 22) hx hb hts g_2 hown hE.1 hP 0 rfl rfl 2 (by decide) g_1 (fun _ h9 => h9) rfl dX9_isCell_2 ?_
  refine lv_bipush (v := 17) hx hb dX9_isCell_5 (by decide) ?_
  refine x_iald hx hb hE.1 hP 1 0 rfl rfl 17 (by decide) (by unfold vp_in; decide) dX9_isCell_7 ?_
  refine lv_ineg hx hb dX9_isCell_8 ?_
  refine lv_aload_n hx hb dX9_isCell_9 rfl (lv_at hl 0 rfl) ?_
  refine va_get (D := E.1) (ci := 9) (v := .ref td) (C := RX9) (T := TX9) (N := 22) hx hb hts g_2 hown hE.1 hP 0 rfl rfl 2 (by decide) g_1 (fun _ h9 => h9) rfl dX9_isCell_10 ?_
  refine lv_bipush (v := 17) hx hb dX9_isCell_13 (by decide) ?_
  refine x_iald hx hb hE.1 hP 1 0 rfl rfl 17 (by decide) (by unfold vp_in; decide) dX9_isCell_15 ?_
  refine x_rS [.int i, .int (-(told 17)), .int (told 17)] (kX9_within l E i (-(told 17)) (told 17)) ⟨hx, hb, hml, hown, hts⟩ (va_cwS 3 hts gX9_isCell_X9_within rfl rfl rfl hdX9_within.2 ⟨Nat.le_of_ble_eq_true rfl, Nat.le_of_ble_eq_true rfl⟩) hE hP hD [] rfl rfl hl.1 rfl rfl (Nat.le_of_ble_eq_true rfl) dX9_isCell_16 (Nat.le_of_ble_eq_true rfl) (Nat.le_of_ble_eq_true rfl) ?_
  refine lv_if_eq (tgt := 48) hx hb dX9_isCell_19 (by decide) (fun c_1 => ?_) (fun c_1 => ?_)
  · refine lv_iconst (v := 0) hx hb dX9_isCell_48 (by decide) ?_
    exact x_zr (by unfold sX9_isCell; rw [if_pos c_1]; try rfl) hx hb hr hlk rfl dX9_isCell_49
  · refine lv_iload_n hx hb dX9_isCell_22 rfl (lv_at hl 2 rfl) ?_
    refine lv_aload_n hx hb dX9_isCell_23 rfl (lv_at hl 0 rfl) ?_
    refine va_get (D := E.1) (ci := 9) (v := .ref td) (C := RX9) (T := TX9) (N := 22) hx hb hts g_2 hown hE.1 hP 0 rfl rfl 2 (by decide) g_1 (fun _ h9 => h9) rfl dX9_isCell_24 ?_
    refine lv_bipush (v := 17) hx hb dX9_isCell_27 (by decide) ?_
    refine x_iald hx hb hE.1 hP 1 0 rfl rfl 17 (by decide) (by unfold vp_in; decide) dX9_isCell_29 ?_
    refine lv_ineg hx hb dX9_isCell_30 ?_
    refine lv_aload_n hx hb dX9_isCell_31 rfl (lv_at hl 0 rfl) ?_
    refine va_get (D := E.1) (ci := 9) (v := .ref td) (C := RX9) (T := TX9) (N := 22) hx hb hts g_2 hown hE.1 hP 0 rfl rfl 2 (by decide) g_1 (fun _ h9 => h9) rfl dX9_isCell_32 ?_
    refine lv_bipush (v := 17) hx hb dX9_isCell_35 (by decide) ?_
    refine x_iald hx hb hE.1 hP 1 0 rfl rfl 17 (by decide) (by unfold vp_in; decide) dX9_isCell_37 ?_
    refine x_rS [.int j, .int (-(told 17)), .int (told 17)] (kX9_within l E j (-(told 17)) (told 17)) ⟨hx, hb, hml, hown, hts⟩ (va_cwS 3 hts gX9_isCell_X9_within rfl rfl rfl hdX9_within.2 ⟨Nat.le_of_ble_eq_true rfl, Nat.le_of_ble_eq_true rfl⟩) hE hP hD [] rfl rfl hl.1 rfl rfl (Nat.le_of_ble_eq_true rfl) dX9_isCell_38 (Nat.le_of_ble_eq_true rfl) (Nat.le_of_ble_eq_true rfl) ?_
    refine lv_if_eq (tgt := 48) hx hb dX9_isCell_41 (by decide) (fun c_2 => ?_) (fun c_2 => ?_)
    · refine lv_iconst (v := 0) hx hb dX9_isCell_48 (by decide) ?_
      exact x_zr (by unfold sX9_isCell; rw [if_neg c_1]; rw [if_pos c_2]; try rfl) hx hb hr hlk rfl dX9_isCell_49
    · refine lv_iconst (v := 1) hx hb dX9_isCell_44 (by decide) ?_
      refine lv_goto (tgt := 49) hx hb dX9_isCell_45 (by decide) ?_
      exact x_zr (by unfold sX9_isCell; rw [if_neg c_1]; rw [if_neg c_2]; try rfl) hx hb hr hlk rfl dX9_isCell_49
theorem x_iscell {told : Nat → Int32} {i j : Int32} (h3 : told 17 ≤ 3) (h0 : 0 ≤ told 17) (c : ¬ sX9_isCell told i j = 0) : vp_in (sX9_cell i j) 49 := by
  unfold sX9_isCell at c
  split at c
  · exact absurd rfl c
  · split at c
    · exact absurd rfl c
    · rename_i c1 c2
      obtain ⟨a1, a2⟩ := x_within c1
      obtain ⟨b1, b2⟩ := x_within c2
      exact x_cell_in a1 (Int32.not_lt.mpr a2) b1 (Int32.not_lt.mpr b2) h3 h0

def sX9_partOf (v : Int32) (width : Int32) : Int32 :=
  if ((2 * v) + width) < 0 then
    -((((2 * width) - 1) - ((2 * v) + width)) / (2 * width))
  else
    ((2 * v) + width) / (2 * width)
theorem hdX9_partOf : yX9_partOf.cls = RX9 ∧ yX9_partOf.cls ≠ "java/lang/invoke/MethodHandle" ∧ yX9_partOf.cls ≠ "java/lang/invoke/VarHandle" ∧ (parseMethodDescriptor yX9_partOf.desc).map (fun d => d.parameters.length) = some 2 := by decide +kernel
set_option maxHeartbeats 4000000 in
set_option maxRecDepth 100000 in
theorem kX9_partOf (l : Launch) (E : XE) (v : Int32) (width : Int32) (hw : ¬ 2 * width = 0) : xR l yX9_partOf wsX9_partOf ({ frames := 0, cells := 0, slots := 0, locals := 0 }) E [] [.int v, .int width] (.int (sX9_partOf v width)) := by
  refine xR.of (cc := cX9_partOf) (maxL := 4) (ret := (some .int)) (by decide) rfl (Nat.le_of_ble_eq_true rfl) ?_
  intro p e s m args below meth c ls hM hE hP hD hl
  obtain ⟨hx, hb, hr, hml, hts, hown, hlk, hnm⟩ := hM
  have hl : lv_has ls 4 [(0, .int v), (1, .int width)] := hl
  refine lv_iconst (v := 2) hx hb dX9_partOf_0 (by decide) ?_
  refine lv_iload_n hx hb dX9_partOf_1 rfl (lv_at hl 0 rfl) ?_
  refine lv_imul hx hb dX9_partOf_2 ?_
  refine lv_iload_n hx hb dX9_partOf_3 rfl (lv_at hl 1 rfl) ?_
  refine lv_iadd hx hb dX9_partOf_4 ?_
  refine lv_istore_n (lv' := [(2, .int ((2 * v) + width)), (0, .int v), (1, .int width)]) hx hb dX9_partOf_5 rfl hl (by decide) rfl (fun ls hl => ?_)
  refine lv_iconst (v := 2) hx hb dX9_partOf_6 (by decide) ?_
  refine lv_iload_n hx hb dX9_partOf_7 rfl (lv_at hl 2 rfl) ?_
  refine lv_imul hx hb dX9_partOf_8 ?_
  refine lv_istore_n (lv' := [(3, .int (2 * width)), (2, .int ((2 * v) + width)), (0, .int v), (1, .int width)]) hx hb dX9_partOf_9 rfl hl (by decide) rfl (fun ls hl => ?_)
  refine lv_iload_n hx hb dX9_partOf_10 rfl (lv_at hl 1 rfl) ?_
  refine lv_if_lt (tgt := 20) hx hb dX9_partOf_11 (by decide) (fun c_1 => ?_) (fun c_1 => ?_)
  · refine lv_iload_n hx hb dX9_partOf_20 rfl (lv_at hl 0 rfl) ?_
    refine lv_iconst (v := 1) hx hb dX9_partOf_21 (by decide) ?_
    refine lv_isub hx hb dX9_partOf_22 ?_
    refine lv_iload_n hx hb dX9_partOf_23 rfl (lv_at hl 1 rfl) ?_
    refine lv_isub hx hb dX9_partOf_24 ?_
    refine lv_iload_n hx hb dX9_partOf_25 rfl (lv_at hl 0 rfl) ?_
    refine lv_idiv hx hb dX9_partOf_26 hw ?_
    refine lv_ineg hx hb dX9_partOf_27 ?_
    exact x_ir (by unfold sX9_partOf; rw [if_pos c_1]; try rfl) hx hb hr hlk dX9_partOf_28
  · refine lv_iload_n hx hb dX9_partOf_14 rfl (lv_at hl 1 rfl) ?_
    refine lv_iload_n hx hb dX9_partOf_15 rfl (lv_at hl 0 rfl) ?_
    refine lv_idiv hx hb dX9_partOf_16 hw ?_
    refine lv_goto (tgt := 28) hx hb dX9_partOf_17 (by decide) ?_
    exact x_ir (by unfold sX9_partOf; rw [if_neg c_1]; try rfl) hx hb hr hlk dX9_partOf_28
def sX9_partOfLink_00 (now : Nat → Int32) (told : Nat → Int32) : Int32 :=
  sX9_partOf (sX9_leanOf (now 10)) (told 15)
theorem hdX9_partOfLink : yX9_partOfLink.cls = RX9 ∧ yX9_partOfLink.cls ≠ "java/lang/invoke/MethodHandle" ∧ yX9_partOfLink.cls ≠ "java/lang/invoke/VarHandle" ∧ (parseMethodDescriptor yX9_partOfLink.desc).map (fun d => d.parameters.length) = some 2 := by decide +kernel
set_option maxHeartbeats 4000000 in
set_option maxRecDepth 100000 in
theorem kX9_partOfLink_00 (l : Launch) (E : XE) (h : Nat) (thrown : Int32) (nw : Nat) (td : Nat) (tx : Nat) (length : Int32) (textSize : Int32) (start : Int32) (next : Int32) (token : Int32) (value : Int32) (error : Int32) (errorAt : Int32) (seen : Int32) (triedWith : Int32) (rr : Nat) (ss : Nat) (tr : Nat) (wa : Nat) (undos : Int32) (ud : Nat) (sl : Nat) (sv : Nat) (now : Nat → Int32) (told : Nat → Int32) (hw1 : ¬ 2 * told 15 = 0) (hw2 : ¬ 2 * told 16 = 0) : xR l yX9_partOfLink wsX9_partOfLink ({ frames := 1, cells := 0, slots := 0, locals := 23 }) E [(h, .inr (9, [.int thrown, .ref nw, .ref td, .ref tx, .int length, .int textSize, .int start, .int next, .int token, .int value, .int error, .int errorAt, .int seen, .int triedWith, .ref rr, .ref ss, .ref tr, .ref wa, .int undos, .ref ud, .ref sl, .ref sv])), (nw, .inl (E.2.1, 214, .inl now)), (td, .inl (E.2.1, 48, .inl told))] [.ref h, .int 0, .int 0] (.int (sX9_partOfLink_00 now told)) := by
  refine xR.of (cc := cX9_partOfLink) (maxL := 3) (ret := (some .int)) (by decide) rfl (Nat.le_of_ble_eq_true rfl) ?_
  intro p e s m args below meth c ls hM hE hP hD hl
  obtain ⟨hx, hb, hr, hml, hts, hown, hlk, hnm⟩ := hM
  have g_1 : (Cond.fieldLink RX9 7 "RailPendulumModel" "now" "[I").before args s = true := hts (Cond.fieldLink RX9 7 "RailPendulumModel" "now" "[I") (by decide +kernel)
  have g_2 : ∀ w ∈ wsX90, w ∈ wsX9_partOfLink := by decide +kernel
  have g_3 : (Cond.fieldLink RX9 13 "RailPendulumModel" "told" "[I").before args s = true := hts (Cond.fieldLink RX9 13 "RailPendulumModel" "told" "[I") (by decide +kernel)
  have hl : lv_has ls 3 [(0, .ref h), (1, .int 0), (2, .int 0)] := hl
  refine lv_iload_n hx hb dX9_partOfLink_0 rfl (lv_at hl 2 rfl) ?_
  refine lv_if_ne (tgt := 29) hx hb dX9_partOfLink_1 (by decide) (fun c_1 => absurd rfl c_1) (fun c_1 => ?_)
  refine lv_aload_n hx hb dX9_partOfLink_4 rfl (lv_at hl 0 rfl) ?_
  refine va_get (D := E.1) (ci := 9) (v := .ref nw) (C := RX9) (T := TX9) (N := 22) hx hb hts g_2 hown hE.1 hP 0 rfl rfl 1 (by decide) g_1 (fun _ h9 => h9) rfl dX9_partOfLink_5 ?_
  refine lv_bipush (v := 10) hx hb dX9_partOfLink_8 (by decide) ?_
  refine lv_iload_n hx hb dX9_partOfLink_10 rfl (lv_at hl 1 rfl) ?_
  refine lv_iadd hx hb dX9_partOfLink_11 ?_
  refine lv_topi (fun z_2 ez_2 => ?_)
  obtain rfl : z_2 = 10 := ez_2.trans (by decide)
  refine x_iald hx hb hE.1 hP 1 0 rfl rfl 10 (by decide) (by unfold vp_in; decide) dX9_partOfLink_12 ?_
  refine x_rS [.int (now 10)] (kX9_leanOf l E (now 10)) ⟨hx, hb, hml, hown, hts⟩ (va_cwS 1 hts gX9_partOfLink_X9_leanOf rfl rfl rfl hdX9_leanOf.2 ⟨Nat.le_of_ble_eq_true rfl, Nat.le_of_ble_eq_true rfl⟩) hE hP hD [] rfl rfl hl.1 rfl rfl (Nat.le_of_ble_eq_true rfl) dX9_partOfLink_13 (Nat.le_of_ble_eq_true rfl) (Nat.le_of_ble_eq_true rfl) ?_
  refine lv_aload_n hx hb dX9_partOfLink_16 rfl (lv_at hl 0 rfl) ?_
  refine va_get (D := E.1) (ci := 9) (v := .ref td) (C := RX9) (T := TX9) (N := 22) hx hb hts g_2 hown hE.1 hP 0 rfl rfl 2 (by decide) g_3 (fun _ h9 => h9) rfl dX9_partOfLink_17 ?_
  refine lv_bipush (v := 15) hx hb dX9_partOfLink_20 (by decide) ?_
  refine x_iald hx hb hE.1 hP 2 0 rfl rfl 15 (by decide) (by unfold vp_in; decide) dX9_partOfLink_22 ?_
  refine x_rS [.int (sX9_leanOf (now 10)), .int (told 15)] (kX9_partOf l E (sX9_leanOf (now 10)) (told 15) hw1) ⟨hx, hb, hml, hown, hts⟩ (va_cwS 2 hts gX9_partOfLink_X9_partOf rfl rfl rfl hdX9_partOf.2 ⟨Nat.le_of_ble_eq_true rfl, Nat.le_of_ble_eq_true rfl⟩) hE hP hD [] rfl rfl hl.1 rfl rfl (Nat.le_of_ble_eq_true rfl) dX9_partOfLink_23 (Nat.le_of_ble_eq_true rfl) (Nat.le_of_ble_eq_true rfl) ?_
  refine lv_goto (tgt := 48) hx hb dX9_partOfLink_26 (by decide) ?_
  exact x_ir (by unfold sX9_partOfLink_00; try rfl) hx hb hr hlk dX9_partOfLink_48
def sX9_partOfLink_01 (now : Nat → Int32) (told : Nat → Int32) : Int32 :=
  sX9_partOf (now 12) (told 16)
set_option maxHeartbeats 4000000 in
set_option maxRecDepth 100000 in
theorem kX9_partOfLink_01 (l : Launch) (E : XE) (h : Nat) (thrown : Int32) (nw : Nat) (td : Nat) (tx : Nat) (length : Int32) (textSize : Int32) (start : Int32) (next : Int32) (token : Int32) (value : Int32) (error : Int32) (errorAt : Int32) (seen : Int32) (triedWith : Int32) (rr : Nat) (ss : Nat) (tr : Nat) (wa : Nat) (undos : Int32) (ud : Nat) (sl : Nat) (sv : Nat) (now : Nat → Int32) (told : Nat → Int32) (hw1 : ¬ 2 * told 15 = 0) (hw2 : ¬ 2 * told 16 = 0) : xR l yX9_partOfLink wsX9_partOfLink ({ frames := 1, cells := 0, slots := 0, locals := 23 }) E [(h, .inr (9, [.int thrown, .ref nw, .ref td, .ref tx, .int length, .int textSize, .int start, .int next, .int token, .int value, .int error, .int errorAt, .int seen, .int triedWith, .ref rr, .ref ss, .ref tr, .ref wa, .int undos, .ref ud, .ref sl, .ref sv])), (nw, .inl (E.2.1, 214, .inl now)), (td, .inl (E.2.1, 48, .inl told))] [.ref h, .int 0, .int 1] (.int (sX9_partOfLink_01 now told)) := by
  refine xR.of (cc := cX9_partOfLink) (maxL := 3) (ret := (some .int)) (by decide) rfl (Nat.le_of_ble_eq_true rfl) ?_
  intro p e s m args below meth c ls hM hE hP hD hl
  obtain ⟨hx, hb, hr, hml, hts, hown, hlk, hnm⟩ := hM
  have g_1 : (Cond.fieldLink RX9 7 "RailPendulumModel" "now" "[I").before args s = true := hts (Cond.fieldLink RX9 7 "RailPendulumModel" "now" "[I") (by decide +kernel)
  have g_2 : ∀ w ∈ wsX90, w ∈ wsX9_partOfLink := by decide +kernel
  have g_3 : (Cond.fieldLink RX9 13 "RailPendulumModel" "told" "[I").before args s = true := hts (Cond.fieldLink RX9 13 "RailPendulumModel" "told" "[I") (by decide +kernel)
  have hl : lv_has ls 3 [(0, .ref h), (1, .int 0), (2, .int 1)] := hl
  refine lv_iload_n hx hb dX9_partOfLink_0 rfl (lv_at hl 2 rfl) ?_
  refine lv_if_ne (tgt := 29) hx hb dX9_partOfLink_1 (by decide) (fun c_1 => ?_) (fun c_1 => absurd c_1 (by decide))
  refine lv_aload_n hx hb dX9_partOfLink_29 rfl (lv_at hl 0 rfl) ?_
  refine va_get (D := E.1) (ci := 9) (v := .ref nw) (C := RX9) (T := TX9) (N := 22) hx hb hts g_2 hown hE.1 hP 0 rfl rfl 1 (by decide) g_1 (fun _ h9 => h9) rfl dX9_partOfLink_30 ?_
  refine lv_bipush (v := 12) hx hb dX9_partOfLink_33 (by decide) ?_
  refine lv_iload_n hx hb dX9_partOfLink_35 rfl (lv_at hl 1 rfl) ?_
  refine lv_iadd hx hb dX9_partOfLink_36 ?_
  refine lv_topi (fun z_2 ez_2 => ?_)
  obtain rfl : z_2 = 12 := ez_2.trans (by decide)
  refine x_iald hx hb hE.1 hP 1 0 rfl rfl 12 (by decide) (by unfold vp_in; decide) dX9_partOfLink_37 ?_
  refine lv_aload_n hx hb dX9_partOfLink_38 rfl (lv_at hl 0 rfl) ?_
  refine va_get (D := E.1) (ci := 9) (v := .ref td) (C := RX9) (T := TX9) (N := 22) hx hb hts g_2 hown hE.1 hP 0 rfl rfl 2 (by decide) g_3 (fun _ h9 => h9) rfl dX9_partOfLink_39 ?_
  refine lv_bipush (v := 16) hx hb dX9_partOfLink_42 (by decide) ?_
  refine x_iald hx hb hE.1 hP 2 0 rfl rfl 16 (by decide) (by unfold vp_in; decide) dX9_partOfLink_44 ?_
  refine x_rS [.int (now 12), .int (told 16)] (kX9_partOf l E (now 12) (told 16) hw2) ⟨hx, hb, hml, hown, hts⟩ (va_cwS 2 hts gX9_partOfLink_X9_partOf rfl rfl rfl hdX9_partOf.2 ⟨Nat.le_of_ble_eq_true rfl, Nat.le_of_ble_eq_true rfl⟩) hE hP hD [] rfl rfl hl.1 rfl rfl (Nat.le_of_ble_eq_true rfl) dX9_partOfLink_45 (Nat.le_of_ble_eq_true rfl) (Nat.le_of_ble_eq_true rfl) ?_
  exact x_ir (by unfold sX9_partOfLink_01; try rfl) hx hb hr hlk dX9_partOfLink_48
def sX9_partOfLink_10 (now : Nat → Int32) (told : Nat → Int32) : Int32 :=
  sX9_partOf (sX9_leanOf (now 11)) (told 15)
set_option maxHeartbeats 4000000 in
set_option maxRecDepth 100000 in
theorem kX9_partOfLink_10 (l : Launch) (E : XE) (h : Nat) (thrown : Int32) (nw : Nat) (td : Nat) (tx : Nat) (length : Int32) (textSize : Int32) (start : Int32) (next : Int32) (token : Int32) (value : Int32) (error : Int32) (errorAt : Int32) (seen : Int32) (triedWith : Int32) (rr : Nat) (ss : Nat) (tr : Nat) (wa : Nat) (undos : Int32) (ud : Nat) (sl : Nat) (sv : Nat) (now : Nat → Int32) (told : Nat → Int32) (hw1 : ¬ 2 * told 15 = 0) (hw2 : ¬ 2 * told 16 = 0) : xR l yX9_partOfLink wsX9_partOfLink ({ frames := 1, cells := 0, slots := 0, locals := 23 }) E [(h, .inr (9, [.int thrown, .ref nw, .ref td, .ref tx, .int length, .int textSize, .int start, .int next, .int token, .int value, .int error, .int errorAt, .int seen, .int triedWith, .ref rr, .ref ss, .ref tr, .ref wa, .int undos, .ref ud, .ref sl, .ref sv])), (nw, .inl (E.2.1, 214, .inl now)), (td, .inl (E.2.1, 48, .inl told))] [.ref h, .int 1, .int 0] (.int (sX9_partOfLink_10 now told)) := by
  refine xR.of (cc := cX9_partOfLink) (maxL := 3) (ret := (some .int)) (by decide) rfl (Nat.le_of_ble_eq_true rfl) ?_
  intro p e s m args below meth c ls hM hE hP hD hl
  obtain ⟨hx, hb, hr, hml, hts, hown, hlk, hnm⟩ := hM
  have g_1 : (Cond.fieldLink RX9 7 "RailPendulumModel" "now" "[I").before args s = true := hts (Cond.fieldLink RX9 7 "RailPendulumModel" "now" "[I") (by decide +kernel)
  have g_2 : ∀ w ∈ wsX90, w ∈ wsX9_partOfLink := by decide +kernel
  have g_3 : (Cond.fieldLink RX9 13 "RailPendulumModel" "told" "[I").before args s = true := hts (Cond.fieldLink RX9 13 "RailPendulumModel" "told" "[I") (by decide +kernel)
  have hl : lv_has ls 3 [(0, .ref h), (1, .int 1), (2, .int 0)] := hl
  refine lv_iload_n hx hb dX9_partOfLink_0 rfl (lv_at hl 2 rfl) ?_
  refine lv_if_ne (tgt := 29) hx hb dX9_partOfLink_1 (by decide) (fun c_1 => absurd rfl c_1) (fun c_1 => ?_)
  refine lv_aload_n hx hb dX9_partOfLink_4 rfl (lv_at hl 0 rfl) ?_
  refine va_get (D := E.1) (ci := 9) (v := .ref nw) (C := RX9) (T := TX9) (N := 22) hx hb hts g_2 hown hE.1 hP 0 rfl rfl 1 (by decide) g_1 (fun _ h9 => h9) rfl dX9_partOfLink_5 ?_
  refine lv_bipush (v := 10) hx hb dX9_partOfLink_8 (by decide) ?_
  refine lv_iload_n hx hb dX9_partOfLink_10 rfl (lv_at hl 1 rfl) ?_
  refine lv_iadd hx hb dX9_partOfLink_11 ?_
  refine lv_topi (fun z_2 ez_2 => ?_)
  obtain rfl : z_2 = 11 := ez_2.trans (by decide)
  refine x_iald hx hb hE.1 hP 1 0 rfl rfl 11 (by decide) (by unfold vp_in; decide) dX9_partOfLink_12 ?_
  refine x_rS [.int (now 11)] (kX9_leanOf l E (now 11)) ⟨hx, hb, hml, hown, hts⟩ (va_cwS 1 hts gX9_partOfLink_X9_leanOf rfl rfl rfl hdX9_leanOf.2 ⟨Nat.le_of_ble_eq_true rfl, Nat.le_of_ble_eq_true rfl⟩) hE hP hD [] rfl rfl hl.1 rfl rfl (Nat.le_of_ble_eq_true rfl) dX9_partOfLink_13 (Nat.le_of_ble_eq_true rfl) (Nat.le_of_ble_eq_true rfl) ?_
  refine lv_aload_n hx hb dX9_partOfLink_16 rfl (lv_at hl 0 rfl) ?_
  refine va_get (D := E.1) (ci := 9) (v := .ref td) (C := RX9) (T := TX9) (N := 22) hx hb hts g_2 hown hE.1 hP 0 rfl rfl 2 (by decide) g_3 (fun _ h9 => h9) rfl dX9_partOfLink_17 ?_
  refine lv_bipush (v := 15) hx hb dX9_partOfLink_20 (by decide) ?_
  refine x_iald hx hb hE.1 hP 2 0 rfl rfl 15 (by decide) (by unfold vp_in; decide) dX9_partOfLink_22 ?_
  refine x_rS [.int (sX9_leanOf (now 11)), .int (told 15)] (kX9_partOf l E (sX9_leanOf (now 11)) (told 15) hw1) ⟨hx, hb, hml, hown, hts⟩ (va_cwS 2 hts gX9_partOfLink_X9_partOf rfl rfl rfl hdX9_partOf.2 ⟨Nat.le_of_ble_eq_true rfl, Nat.le_of_ble_eq_true rfl⟩) hE hP hD [] rfl rfl hl.1 rfl rfl (Nat.le_of_ble_eq_true rfl) dX9_partOfLink_23 (Nat.le_of_ble_eq_true rfl) (Nat.le_of_ble_eq_true rfl) ?_
  refine lv_goto (tgt := 48) hx hb dX9_partOfLink_26 (by decide) ?_
  exact x_ir (by unfold sX9_partOfLink_10; try rfl) hx hb hr hlk dX9_partOfLink_48
def sX9_partOfLink_11 (now : Nat → Int32) (told : Nat → Int32) : Int32 :=
  sX9_partOf (now 13) (told 16)
set_option maxHeartbeats 4000000 in
set_option maxRecDepth 100000 in
theorem kX9_partOfLink_11 (l : Launch) (E : XE) (h : Nat) (thrown : Int32) (nw : Nat) (td : Nat) (tx : Nat) (length : Int32) (textSize : Int32) (start : Int32) (next : Int32) (token : Int32) (value : Int32) (error : Int32) (errorAt : Int32) (seen : Int32) (triedWith : Int32) (rr : Nat) (ss : Nat) (tr : Nat) (wa : Nat) (undos : Int32) (ud : Nat) (sl : Nat) (sv : Nat) (now : Nat → Int32) (told : Nat → Int32) (hw1 : ¬ 2 * told 15 = 0) (hw2 : ¬ 2 * told 16 = 0) : xR l yX9_partOfLink wsX9_partOfLink ({ frames := 1, cells := 0, slots := 0, locals := 23 }) E [(h, .inr (9, [.int thrown, .ref nw, .ref td, .ref tx, .int length, .int textSize, .int start, .int next, .int token, .int value, .int error, .int errorAt, .int seen, .int triedWith, .ref rr, .ref ss, .ref tr, .ref wa, .int undos, .ref ud, .ref sl, .ref sv])), (nw, .inl (E.2.1, 214, .inl now)), (td, .inl (E.2.1, 48, .inl told))] [.ref h, .int 1, .int 1] (.int (sX9_partOfLink_11 now told)) := by
  refine xR.of (cc := cX9_partOfLink) (maxL := 3) (ret := (some .int)) (by decide) rfl (Nat.le_of_ble_eq_true rfl) ?_
  intro p e s m args below meth c ls hM hE hP hD hl
  obtain ⟨hx, hb, hr, hml, hts, hown, hlk, hnm⟩ := hM
  have g_1 : (Cond.fieldLink RX9 7 "RailPendulumModel" "now" "[I").before args s = true := hts (Cond.fieldLink RX9 7 "RailPendulumModel" "now" "[I") (by decide +kernel)
  have g_2 : ∀ w ∈ wsX90, w ∈ wsX9_partOfLink := by decide +kernel
  have g_3 : (Cond.fieldLink RX9 13 "RailPendulumModel" "told" "[I").before args s = true := hts (Cond.fieldLink RX9 13 "RailPendulumModel" "told" "[I") (by decide +kernel)
  have hl : lv_has ls 3 [(0, .ref h), (1, .int 1), (2, .int 1)] := hl
  refine lv_iload_n hx hb dX9_partOfLink_0 rfl (lv_at hl 2 rfl) ?_
  refine lv_if_ne (tgt := 29) hx hb dX9_partOfLink_1 (by decide) (fun c_1 => ?_) (fun c_1 => absurd c_1 (by decide))
  refine lv_aload_n hx hb dX9_partOfLink_29 rfl (lv_at hl 0 rfl) ?_
  refine va_get (D := E.1) (ci := 9) (v := .ref nw) (C := RX9) (T := TX9) (N := 22) hx hb hts g_2 hown hE.1 hP 0 rfl rfl 1 (by decide) g_1 (fun _ h9 => h9) rfl dX9_partOfLink_30 ?_
  refine lv_bipush (v := 12) hx hb dX9_partOfLink_33 (by decide) ?_
  refine lv_iload_n hx hb dX9_partOfLink_35 rfl (lv_at hl 1 rfl) ?_
  refine lv_iadd hx hb dX9_partOfLink_36 ?_
  refine lv_topi (fun z_2 ez_2 => ?_)
  obtain rfl : z_2 = 13 := ez_2.trans (by decide)
  refine x_iald hx hb hE.1 hP 1 0 rfl rfl 13 (by decide) (by unfold vp_in; decide) dX9_partOfLink_37 ?_
  refine lv_aload_n hx hb dX9_partOfLink_38 rfl (lv_at hl 0 rfl) ?_
  refine va_get (D := E.1) (ci := 9) (v := .ref td) (C := RX9) (T := TX9) (N := 22) hx hb hts g_2 hown hE.1 hP 0 rfl rfl 2 (by decide) g_3 (fun _ h9 => h9) rfl dX9_partOfLink_39 ?_
  refine lv_bipush (v := 16) hx hb dX9_partOfLink_42 (by decide) ?_
  refine x_iald hx hb hE.1 hP 2 0 rfl rfl 16 (by decide) (by unfold vp_in; decide) dX9_partOfLink_44 ?_
  refine x_rS [.int (now 13), .int (told 16)] (kX9_partOf l E (now 13) (told 16) hw2) ⟨hx, hb, hml, hown, hts⟩ (va_cwS 2 hts gX9_partOfLink_X9_partOf rfl rfl rfl hdX9_partOf.2 ⟨Nat.le_of_ble_eq_true rfl, Nat.le_of_ble_eq_true rfl⟩) hE hP hD [] rfl rfl hl.1 rfl rfl (Nat.le_of_ble_eq_true rfl) dX9_partOfLink_45 (Nat.le_of_ble_eq_true rfl) (Nat.le_of_ble_eq_true rfl) ?_
  exact x_ir (by unfold sX9_partOfLink_11; try rfl) hx hb hr hlk dX9_partOfLink_48
