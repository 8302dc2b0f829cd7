theorem x_muN {i N : Int32} {k : Nat} (h2 : ¬ N ≤ i) (h : xMu N i < k + 1) : xMu N (i + 1) < k := by
  have hN : N.toInt < 2147483648 := by have := N.toInt_lt; omega
  have hI : -2147483648 ≤ i.toInt := by have := i.le_toInt; omega
  rw [Int32.le_iff_toInt_le] at h2
  have e1 : (1 : Int32).toInt = 1 := by decide
  have e : (i + 1).toInt = i.toInt + 1 := by
    rw [Int32.toInt_add, e1, Int.bmod_eq_of_le (by omega) (by omega)]
  unfold xMu at h ⊢
  rw [e]
  omega

def sX3_hasRoomFor (used : Int32) (bytes : Int32) : Int32 :=
  if 500 < (used + bytes) then
    0
  else
    1
theorem hdX3_hasRoomFor : yX3_hasRoomFor.cls = RX3 ∧ yX3_hasRoomFor.cls ≠ "java/lang/invoke/MethodHandle" ∧ yX3_hasRoomFor.cls ≠ "java/lang/invoke/VarHandle" ∧ (parseMethodDescriptor yX3_hasRoomFor.desc).map (fun d => d.parameters.length) = some 1 := by decide +kernel
set_option maxHeartbeats 4000000 in
set_option maxRecDepth 100000 in
theorem kX3_hasRoomFor (l : Launch) (E : XE) (h : Nat) (bu : Nat) (nu : Nat) (used : Int32) (en : Int32) (met : Int32) (start : Int32) (next : Int32) (kind : Int32) (value : Int32) (bytes : Int32) : xR l yX3_hasRoomFor wsX3_hasRoomFor ({ frames := 0, cells := 0, slots := 0, locals := 0 }) E [(h, .inr (3, [.ref bu, .ref nu, .int used, .int en, .int met, .int start, .int next, .int kind, .int value]))] [.ref h, .int bytes] (.int (sX3_hasRoomFor used bytes)) := by
  refine xR.of (cc := cX3_hasRoomFor) (maxL := 2) (ret := (some .boolean)) (by decide) rfl (Nat.le_of_ble_eq_true rfl) ?_
  intro p e s m args below meth c ls hM hE hP hD hl
  obtain ⟨hx, hb, hr, hml, hts, hown, hlk, hnm⟩ := hM
  have g_1 : (Cond.fieldLink RX3 18 "RailPendulum$PlantReader" "used" "I").before args s = true := hts (Cond.fieldLink RX3 18 "RailPendulum$PlantReader" "used" "I") (by decide +kernel)
  have g_2 : ∀ w ∈ wsX30, w ∈ wsX3_hasRoomFor := by decide +kernel
  have hl : lv_has ls 2 [(0, .ref h), (1, .int bytes)] := hl
  refine lv_aload_n hx hb dX3_hasRoomFor_0 rfl (lv_at hl 0 rfl) ?_
  refine va_get (D := E.1) (ci := 3) (v := .int used) (C := RX3) (T := TX3) (N := 9) hx hb hts g_2 hown hE.1 hP 0 rfl rfl 2 (by decide) g_1 (fun _ h9 => h9) rfl dX3_hasRoomFor_1 ?_
  refine lv_iload_n hx hb dX3_hasRoomFor_4 rfl (lv_at hl 1 rfl) ?_
  refine lv_iadd hx hb dX3_hasRoomFor_5 ?_
  refine lv_sipush (v := 500) hx hb dX3_hasRoomFor_6 (by decide) ?_
  refine lv_icmp_gt (tgt := 16) hx hb dX3_hasRoomFor_9 (by decide) (fun c_1 => ?_) (fun c_1 => ?_)
  · refine lv_iconst (v := 0) hx hb dX3_hasRoomFor_16 (by decide) ?_
    exact x_zr (by unfold sX3_hasRoomFor; rw [if_pos c_1]; try rfl) hx hb hr hlk rfl dX3_hasRoomFor_17
  · refine lv_iconst (v := 1) hx hb dX3_hasRoomFor_12 (by decide) ?_
    refine lv_goto (tgt := 17) hx hb dX3_hasRoomFor_13 (by decide) ?_
    exact x_zr (by unfold sX3_hasRoomFor; rw [if_neg c_1]; try rfl) hx hb hr hlk rfl dX3_hasRoomFor_17
def sX3_addBytesOf_q_8 (used : Int32) (buf : Nat → Int32) (word : Int32) (q_2 : (Nat → Int32)) (q_4 : (Nat → Int32)) (q_6 : (Nat → Int32)) (q_8 : (Nat → Int32)) : Int32 × (Nat → Int32) :=
  ((((used + 1) + 1) + 1) + 1, q_8)
def sX3_addBytesOf_q_6 (used : Int32) (buf : Nat → Int32) (word : Int32) (q_2 : (Nat → Int32)) (q_4 : (Nat → Int32)) (q_6 : (Nat → Int32)) : Int32 × (Nat → Int32) :=
  sX3_addBytesOf_q_8 used buf word q_2 q_4 q_6 (sX8_putAt 500 q_6 (((used + 1) + 1) + 1) (((word.toUInt32 >>> ((0 : Int32).toUInt32 &&& Int32.toUInt32 31)).toInt32) &&& 255))
def sX3_addBytesOf_q_4 (used : Int32) (buf : Nat → Int32) (word : Int32) (q_2 : (Nat → Int32)) (q_4 : (Nat → Int32)) : Int32 × (Nat → Int32) :=
  sX3_addBytesOf_q_6 used buf word q_2 q_4 (sX8_putAt 500 q_4 ((used + 1) + 1) (((word.toUInt32 >>> ((8 : Int32).toUInt32 &&& Int32.toUInt32 31)).toInt32) &&& 255))
def sX3_addBytesOf_q_2 (used : Int32) (buf : Nat → Int32) (word : Int32) (q_2 : (Nat → Int32)) : Int32 × (Nat → Int32) :=
  sX3_addBytesOf_q_4 used buf word q_2 (sX8_putAt 500 q_2 (used + 1) (((word.toUInt32 >>> ((16 : Int32).toUInt32 &&& Int32.toUInt32 31)).toInt32) &&& 255))
def sX3_addBytesOf (used : Int32) (buf : Nat → Int32) (word : Int32) : Int32 × (Nat → Int32) :=
  sX3_addBytesOf_q_2 used buf word (sX8_putAt 500 buf used (((word.toUInt32 >>> ((24 : Int32).toUInt32 &&& Int32.toUInt32 31)).toInt32) &&& 255))
theorem hdX3_addBytesOf : yX3_addBytesOf.cls = RX3 ∧ yX3_addBytesOf.cls ≠ "java/lang/invoke/MethodHandle" ∧ yX3_addBytesOf.cls ≠ "java/lang/invoke/VarHandle" ∧ (parseMethodDescriptor yX3_addBytesOf.desc).map (fun d => d.parameters.length) = some 1 := by decide +kernel
set_option maxHeartbeats 4000000 in
set_option maxRecDepth 100000 in
theorem kX3_addBytesOf (l : Launch) (E : XE) (h : Nat) (bu : Nat) (nu : Nat) (used : Int32) (en : Int32) (met : Int32) (start : Int32) (next : Int32) (kind : Int32) (value : Int32) (buf : Nat → Int32) (word : Int32) : xW (T := Int32 × (Nat → Int32)) l yX3_addBytesOf wsX3_addBytesOf ({ frames := 1, cells := 0, slots := 0, locals := 22 }) E [(h, .inr (3, [.ref bu, .ref nu, .int used, .int en, .int met, .int start, .int next, .int kind, .int value])), (bu, .inl (E.2.1, 500, .inl buf))] [.ref h, .int word] (fun _ => none) (fun q => [(h, .inr (3, [.ref bu, .ref nu, .int q.1, .int en, .int met, .int start, .int next, .int kind, .int value])), (bu, .inl (E.2.1, 500, .inl q.2))]) (sX3_addBytesOf used buf word) 0 0 := by
  refine xW.of (cc := cX3_addBytesOf) (maxL := 3) (ret := none) (by decide) rfl (Nat.le_of_ble_eq_true rfl) ?_
  intro p e s m args below meth c ls A hM hE hP hD hS hA hl
  obtain ⟨hx, hb, hr, hml, hts, hown, hlk, hnm⟩ := hM
  have g_1 : (Cond.fieldLink RX3 9 "RailPendulum$PlantReader" "buffer" "[I").before args s = true := hts (Cond.fieldLink RX3 9 "RailPendulum$PlantReader" "buffer" "[I") (by decide +kernel)
  have g_2 : ∀ w ∈ wsX30, w ∈ wsX3_addBytesOf := by decide +kernel
  have g_3 : (Cond.fieldLink RX3 18 "RailPendulum$PlantReader" "used" "I").before args s = true := hts (Cond.fieldLink RX3 18 "RailPendulum$PlantReader" "used" "I") (by decide +kernel)
  have g_4 : (Cond.initialized yX8_putAt.cls).before args s = true := hts _ (by decide +kernel)
  have g_5 : (Cond.static yX8_putAt).before args s = true := hts (Cond.static yX8_putAt) (by decide +kernel)
  have g_6 : va_Nw (.methodLinkNest RX3 22 yX8_putAt "RailPendulum") s := hE.2 _ (by decide +kernel)
  have hX : xD A [h, bu] := xD.of hD rfl
  have hl : lv_has ls 3 [(0, .ref h), (1, .int word)] := hl
  refine lv_bipush (v := 24) hx hb dX3_addBytesOf_0 (by decide) ?_
  refine lv_istore_n (lv' := [(2, .int 24), (0, .ref h), (1, .int word)]) hx hb dX3_addBytesOf_2 rfl hl (by decide) rfl (fun ls hl => ?_)
  refine lv_iload_n hx hb dX3_addBytesOf_3 rfl (lv_at hl 0 rfl) ?_
  refine lv_if_lt (tgt := 41) hx hb dX3_addBytesOf_4 (by decide) (fun c_1 => absurd c_1 (by decide)) (fun c_1 => ?_)
  refine lv_aload_n hx hb dX3_addBytesOf_7 rfl (lv_at hl 1 rfl) ?_
  refine va_get (D := E.1) (ci := 3) (v := .ref bu) (C := RX3) (T := TX3) (N := 9) hx hb hts g_2 hown hE.1 hP 0 rfl rfl 0 (by decide) g_1 (fun _ h9 => h9) rfl dX3_addBytesOf_8 ?_
  refine lv_aload_n hx hb dX3_addBytesOf_11 rfl (lv_at hl 1 rfl) ?_
  refine va_get (D := E.1) (ci := 3) (v := .int used) (C := RX3) (T := TX3) (N := 9) hx hb hts g_2 hown hE.1 hP 0 rfl rfl 2 (by decide) g_3 (fun _ h9 => h9) rfl dX3_addBytesOf_12 ?_
  refine lv_iload_n hx hb dX3_addBytesOf_15 rfl (lv_at hl 2 rfl) ?_
  refine lv_iload_n hx hb dX3_addBytesOf_16 rfl (lv_at hl 0 rfl) ?_
  refine lv_iushr hx hb dX3_addBytesOf_17 rfl ?_
  refine lv_sipush (v := 255) hx hb dX3_addBytesOf_18 (by decide) ?_
  refine lv_iand hx hb dX3_addBytesOf_21 ?_
  refine x_wSN (wr := [(h, .inr (3, [.ref bu, .ref nu, .int used, .int en, .int met, .int start, .int next, .int kind, .int value]))]) [.ref bu, .int used, .int (((word.toUInt32 >>> ((24 : Int32).toUInt32 &&& Int32.toUInt32 31)).toInt32) &&& 255)] (kX8_putAt l E bu 500 buf used (((word.toUInt32 >>> ((24 : Int32).toUInt32 &&& Int32.toUInt32 31)).toInt32) &&& 255) (by decide)) ⟨hx, hb, hml, hown, hts⟩ ⟨va_cnB 3 hts gX3_addBytesOf_X8_putAt_n22 rfl rfl rfl g_6 g_4 hdX8_putAt.2 ⟨Nat.le_of_ble_eq_true rfl, Nat.le_of_ble_eq_true rfl⟩, g_5, trivial⟩ hE hP (hX.d rfl) hS hA [1] [0] rfl rfl rfl rfl (by decide) hl.1 rfl rfl (Nat.le_of_ble_eq_true rfl) dX3_addBytesOf_22 (Nat.le_of_ble_eq_true rfl) (Nat.le_of_ble_eq_true rfl) (fun q_2 H locs hq_2 hP hD hS => ?_)
  have hP : va_P E.1 vwCl [(h, .inr (3, [.ref bu, .ref nu, .int used, .int en, .int met, .int start, .int next, .int kind, .int value])), (bu, .inl (E.2.1, 500, .inl q_2))] H := hP
  have hX : xD A [h, bu] := xD.of hD rfl
  refine W.eq (g2 := F0 m 25 ls []) rfl ?_
  refine lv_aload_n hx hb dX3_addBytesOf_25 rfl (lv_at hl 1 rfl) ?_
  refine lv_dup hx hb dX3_addBytesOf_26 rfl ?_
  refine va_get (D := E.1) (ci := 3) (v := .int used) (C := RX3) (T := TX3) (N := 9) hx hb hts g_2 hown hE.1 hP 0 rfl rfl 2 (by decide) g_3 (fun _ h9 => h9) rfl dX3_addBytesOf_27 ?_
  refine lv_iconst (v := 1) hx hb dX3_addBytesOf_30 (by decide) ?_
  refine lv_iadd hx hb dX3_addBytesOf_31 ?_
  refine va_put (D := E.1) (ci := 3) (v := .int (used + 1)) (ty := .int) (C := RX3) (T := TX3) (N := 9) hx hb hts g_2 tyX3 tyX3_ok nmX3 hown hE.1 hP (hX.d rfl) hS 0 rfl rfl 2 (by decide) g_3 (fun _ h9 => h9) rfl (by decide +kernel) rfl rfl (Nat.le_of_ble_eq_true rfl) dX3_addBytesOf_32 (fun H locs hP _ hS => ?_)
  have hP : va_P E.1 vwCl [(h, .inr (3, [.ref bu, .ref nu, .int (used + 1), .int en, .int met, .int start, .int next, .int kind, .int value])), (bu, .inl (E.2.1, 500, .inl q_2))] H := hP
  refine lv_iinc (v := 16) (lv' := [(2, .int 16), (0, .ref h), (1, .int word)]) hx hb dX3_addBytesOf_35 hl (k := 0) rfl (by decide) (by decide) rfl (fun ls hl => ?_)
  refine lv_goto (tgt := 3) hx hb dX3_addBytesOf_38 (by decide) ?_
  refine lv_iload_n hx hb dX3_addBytesOf_3 rfl (lv_at hl 0 rfl) ?_
  refine lv_if_lt (tgt := 41) hx hb dX3_addBytesOf_4 (by decide) (fun c_3 => absurd c_3 (by decide)) (fun c_3 => ?_)
  refine lv_aload_n hx hb dX3_addBytesOf_7 rfl (lv_at hl 1 rfl) ?_
  refine va_get (D := E.1) (ci := 3) (v := .ref bu) (C := RX3) (T := TX3) (N := 9) hx hb hts g_2 hown hE.1 hP 0 rfl rfl 0 (by decide) g_1 (fun _ h9 => h9) rfl dX3_addBytesOf_8 ?_
  refine lv_aload_n hx hb dX3_addBytesOf_11 rfl (lv_at hl 1 rfl) ?_
  refine va_get (D := E.1) (ci := 3) (v := .int (used + 1)) (C := RX3) (T := TX3) (N := 9) hx hb hts g_2 hown hE.1 hP 0 rfl rfl 2 (by decide) g_3 (fun _ h9 => h9) rfl dX3_addBytesOf_12 ?_
  refine lv_iload_n hx hb dX3_addBytesOf_15 rfl (lv_at hl 2 rfl) ?_
  refine lv_iload_n hx hb dX3_addBytesOf_16 rfl (lv_at hl 0 rfl) ?_
  refine lv_iushr hx hb dX3_addBytesOf_17 rfl ?_
  refine lv_sipush (v := 255) hx hb dX3_addBytesOf_18 (by decide) ?_
  refine lv_iand hx hb dX3_addBytesOf_21 ?_
  refine x_wSN (wr := [(h, .inr (3, [.ref bu, .ref nu, .int (used + 1), .int en, .int met, .int start, .int next, .int kind, .int value]))]) [.ref bu, .int (used + 1), .int (((word.toUInt32 >>> ((16 : Int32).toUInt32 &&& Int32.toUInt32 31)).toInt32) &&& 255)] (kX8_putAt l E bu 500 q_2 (used + 1) (((word.toUInt32 >>> ((16 : Int32).toUInt32 &&& Int32.toUInt32 31)).toInt32) &&& 255) (by decide)) ⟨hx, hb, hml, hown, hts⟩ ⟨va_cnB 3 hts gX3_addBytesOf_X8_putAt_n22 rfl rfl rfl g_6 g_4 hdX8_putAt.2 ⟨Nat.le_of_ble_eq_true rfl, Nat.le_of_ble_eq_true rfl⟩, g_5, trivial⟩ hE hP (hX.d rfl) hS hA [1] [0] rfl rfl rfl rfl (by decide) hl.1 rfl rfl (Nat.le_of_ble_eq_true rfl) dX3_addBytesOf_22 (Nat.le_of_ble_eq_true rfl) (Nat.le_of_ble_eq_true rfl) (fun q_4 H locs hq_4 hP hD hS => ?_)
  have hP : va_P E.1 vwCl [(h, .inr (3, [.ref bu, .ref nu, .int (used + 1), .int en, .int met, .int start, .int next, .int kind, .int value])), (bu, .inl (E.2.1, 500, .inl q_4))] H := hP
  have hX : xD A [h, bu] := xD.of hD rfl
  refine W.eq (g2 := F0 m 25 ls []) rfl ?_
  refine lv_aload_n hx hb dX3_addBytesOf_25 rfl (lv_at hl 1 rfl) ?_
  refine lv_dup hx hb dX3_addBytesOf_26 rfl ?_
  refine va_get (D := E.1) (ci := 3) (v := .int (used + 1)) (C := RX3) (T := TX3) (N := 9) hx hb hts g_2 hown hE.1 hP 0 rfl rfl 2 (by decide) g_3 (fun _ h9 => h9) rfl dX3_addBytesOf_27 ?_
  refine lv_iconst (v := 1) hx hb dX3_addBytesOf_30 (by decide) ?_
  refine lv_iadd hx hb dX3_addBytesOf_31 ?_
  refine va_put (D := E.1) (ci := 3) (v := .int ((used + 1) + 1)) (ty := .int) (C := RX3) (T := TX3) (N := 9) hx hb hts g_2 tyX3 tyX3_ok nmX3 hown hE.1 hP (hX.d rfl) hS 0 rfl rfl 2 (by decide) g_3 (fun _ h9 => h9) rfl (by decide +kernel) rfl rfl (Nat.le_of_ble_eq_true rfl) dX3_addBytesOf_32 (fun H locs hP _ hS => ?_)
  have hP : va_P E.1 vwCl [(h, .inr (3, [.ref bu, .ref nu, .int ((used + 1) + 1), .int en, .int met, .int start, .int next, .int kind, .int value])), (bu, .inl (E.2.1, 500, .inl q_4))] H := hP
  refine lv_iinc (v := 8) (lv' := [(2, .int 8), (0, .ref h), (1, .int word)]) hx hb dX3_addBytesOf_35 hl (k := 0) rfl (by decide) (by decide) rfl (fun ls hl => ?_)
  refine lv_goto (tgt := 3) hx hb dX3_addBytesOf_38 (by decide) ?_
  refine lv_iload_n hx hb dX3_addBytesOf_3 rfl (lv_at hl 0 rfl) ?_
  refine lv_if_lt (tgt := 41) hx hb dX3_addBytesOf_4 (by decide) (fun c_5 => absurd c_5 (by decide)) (fun c_5 => ?_)
  refine lv_aload_n hx hb dX3_addBytesOf_7 rfl (lv_at hl 1 rfl) ?_
  refine va_get (D := E.1) (ci := 3) (v := .ref bu) (C := RX3) (T := TX3) (N := 9) hx hb hts g_2 hown hE.1 hP 0 rfl rfl 0 (by decide) g_1 (fun _ h9 => h9) rfl dX3_addBytesOf_8 ?_
  refine lv_aload_n hx hb dX3_addBytesOf_11 rfl (lv_at hl 1 rfl) ?_
  refine va_get (D := E.1) (ci := 3) (v := .int ((used + 1) + 1)) (C := RX3) (T := TX3) (N := 9) hx hb hts g_2 hown hE.1 hP 0 rfl rfl 2 (by decide) g_3 (fun _ h9 => h9) rfl dX3_addBytesOf_12 ?_
  refine lv_iload_n hx hb dX3_addBytesOf_15 rfl (lv_at hl 2 rfl) ?_
  refine lv_iload_n hx hb dX3_addBytesOf_16 rfl (lv_at hl 0 rfl) ?_
  refine lv_iushr hx hb dX3_addBytesOf_17 rfl ?_
  refine lv_sipush (v := 255) hx hb dX3_addBytesOf_18 (by decide) ?_
  refine lv_iand hx hb dX3_addBytesOf_21 ?_
  refine x_wSN (wr := [(h, .inr (3, [.ref bu, .ref nu, .int ((used + 1) + 1), .int en, .int met, .int start, .int next, .int kind, .int value]))]) [.ref bu, .int ((used + 1) + 1), .int (((word.toUInt32 >>> ((8 : Int32).toUInt32 &&& Int32.toUInt32 31)).toInt32) &&& 255)] (kX8_putAt l E bu 500 q_4 ((used + 1) + 1) (((word.toUInt32 >>> ((8 : Int32).toUInt32 &&& Int32.toUInt32 31)).toInt32) &&& 255) (by decide)) ⟨hx, hb, hml, hown, hts⟩ ⟨va_cnB 3 hts gX3_addBytesOf_X8_putAt_n22 rfl rfl rfl g_6 g_4 hdX8_putAt.2 ⟨Nat.le_of_ble_eq_true rfl, Nat.le_of_ble_eq_true rfl⟩, g_5, trivial⟩ hE hP (hX.d rfl) hS hA [1] [0] rfl rfl rfl rfl (by decide) hl.1 rfl rfl (Nat.le_of_ble_eq_true rfl) dX3_addBytesOf_22 (Nat.le_of_ble_eq_true rfl) (Nat.le_of_ble_eq_true rfl) (fun q_6 H locs hq_6 hP hD hS => ?_)
  have hP : va_P E.1 vwCl [(h, .inr (3, [.ref bu, .ref nu, .int ((used + 1) + 1), .int en, .int met, .int start, .int next, .int kind, .int value])), (bu, .inl (E.2.1, 500, .inl q_6))] H := hP
  have hX : xD A [h, bu] := xD.of hD rfl
  refine W.eq (g2 := F0 m 25 ls []) rfl ?_
  refine lv_aload_n hx hb dX3_addBytesOf_25 rfl (lv_at hl 1 rfl) ?_
  refine lv_dup hx hb dX3_addBytesOf_26 rfl ?_
  refine va_get (D := E.1) (ci := 3) (v := .int ((used + 1) + 1)) (C := RX3) (T := TX3) (N := 9) hx hb hts g_2 hown hE.1 hP 0 rfl rfl 2 (by decide) g_3 (fun _ h9 => h9) rfl dX3_addBytesOf_27 ?_
  refine lv_iconst (v := 1) hx hb dX3_addBytesOf_30 (by decide) ?_
  refine lv_iadd hx hb dX3_addBytesOf_31 ?_
  refine va_put (D := E.1) (ci := 3) (v := .int (((used + 1) + 1) + 1)) (ty := .int) (C := RX3) (T := TX3) (N := 9) hx hb hts g_2 tyX3 tyX3_ok nmX3 hown hE.1 hP (hX.d rfl) hS 0 rfl rfl 2 (by decide) g_3 (fun _ h9 => h9) rfl (by decide +kernel) rfl rfl (Nat.le_of_ble_eq_true rfl) dX3_addBytesOf_32 (fun H locs hP _ hS => ?_)
  have hP : va_P E.1 vwCl [(h, .inr (3, [.ref bu, .ref nu, .int (((used + 1) + 1) + 1), .int en, .int met, .int start, .int next, .int kind, .int value])), (bu, .inl (E.2.1, 500, .inl q_6))] H := hP
  refine lv_iinc (v := 0) (lv' := [(2, .int 0), (0, .ref h), (1, .int word)]) hx hb dX3_addBytesOf_35 hl (k := 0) rfl (by decide) (by decide) rfl (fun ls hl => ?_)
  refine lv_goto (tgt := 3) hx hb dX3_addBytesOf_38 (by decide) ?_
  refine lv_iload_n hx hb dX3_addBytesOf_3 rfl (lv_at hl 0 rfl) ?_
  refine lv_if_lt (tgt := 41) hx hb dX3_addBytesOf_4 (by decide) (fun c_7 => absurd c_7 (by decide)) (fun c_7 => ?_)
  refine lv_aload_n hx hb dX3_addBytesOf_7 rfl (lv_at hl 1 rfl) ?_
  refine va_get (D := E.1) (ci := 3) (v := .ref bu) (C := RX3) (T := TX3) (N := 9) hx hb hts g_2 hown hE.1 hP 0 rfl rfl 0 (by decide) g_1 (fun _ h9 => h9) rfl dX3_addBytesOf_8 ?_
  refine lv_aload_n hx hb dX3_addBytesOf_11 rfl (lv_at hl 1 rfl) ?_
  refine va_get (D := E.1) (ci := 3) (v := .int (((used + 1) + 1) + 1)) (C := RX3) (T := TX3) (N := 9) hx hb hts g_2 hown hE.1 hP 0 rfl rfl 2 (by decide) g_3 (fun _ h9 => h9) rfl dX3_addBytesOf_12 ?_
  refine lv_iload_n hx hb dX3_addBytesOf_15 rfl (lv_at hl 2 rfl) ?_
  refine lv_iload_n hx hb dX3_addBytesOf_16 rfl (lv_at hl 0 rfl) ?_
  refine lv_iushr hx hb dX3_addBytesOf_17 rfl ?_
  refine lv_sipush (v := 255) hx hb dX3_addBytesOf_18 (by decide) ?_
  refine lv_iand hx hb dX3_addBytesOf_21 ?_
  refine x_wSN (wr := [(h, .inr (3, [.ref bu, .ref nu, .int (((used + 1) + 1) + 1), .int en, .int met, .int start, .int next, .int kind, .int value]))]) [.ref bu, .int (((used + 1) + 1) + 1), .int (((word.toUInt32 >>> ((0 : Int32).toUInt32 &&& Int32.toUInt32 31)).toInt32) &&& 255)] (kX8_putAt l E bu 500 q_6 (((used + 1) + 1) + 1) (((word.toUInt32 >>> ((0 : Int32).toUInt32 &&& Int32.toUInt32 31)).toInt32) &&& 255) (by decide)) ⟨hx, hb, hml, hown, hts⟩ ⟨va_cnB 3 hts gX3_addBytesOf_X8_putAt_n22 rfl rfl rfl g_6 g_4 hdX8_putAt.2 ⟨Nat.le_of_ble_eq_true rfl, Nat.le_of_ble_eq_true rfl⟩, g_5, trivial⟩ hE hP (hX.d rfl) hS hA [1] [0] rfl rfl rfl rfl (by decide) hl.1 rfl rfl (Nat.le_of_ble_eq_true rfl) dX3_addBytesOf_22 (Nat.le_of_ble_eq_true rfl) (Nat.le_of_ble_eq_true rfl) (fun q_8 H locs hq_8 hP hD hS => ?_)
  have hP : va_P E.1 vwCl [(h, .inr (3, [.ref bu, .ref nu, .int (((used + 1) + 1) + 1), .int en, .int met, .int start, .int next, .int kind, .int value])), (bu, .inl (E.2.1, 500, .inl q_8))] H := hP
  have hX : xD A [h, bu] := xD.of hD rfl
  refine W.eq (g2 := F0 m 25 ls []) rfl ?_
  refine lv_aload_n hx hb dX3_addBytesOf_25 rfl (lv_at hl 1 rfl) ?_
  refine lv_dup hx hb dX3_addBytesOf_26 rfl ?_
  refine va_get (D := E.1) (ci := 3) (v := .int (((used + 1) + 1) + 1)) (C := RX3) (T := TX3) (N := 9) hx hb hts g_2 hown hE.1 hP 0 rfl rfl 2 (by decide) g_3 (fun _ h9 => h9) rfl dX3_addBytesOf_27 ?_
  refine lv_iconst (v := 1) hx hb dX3_addBytesOf_30 (by decide) ?_
  refine lv_iadd hx hb dX3_addBytesOf_31 ?_
  refine va_put (D := E.1) (ci := 3) (v := .int ((((used + 1) + 1) + 1) + 1)) (ty := .int) (C := RX3) (T := TX3) (N := 9) hx hb hts g_2 tyX3 tyX3_ok nmX3 hown hE.1 hP (hX.d rfl) hS 0 rfl rfl 2 (by decide) g_3 (fun _ h9 => h9) rfl (by decide +kernel) rfl rfl (Nat.le_of_ble_eq_true rfl) dX3_addBytesOf_32 (fun H locs hP _ hS => ?_)
  have hP : va_P E.1 vwCl [(h, .inr (3, [.ref bu, .ref nu, .int ((((used + 1) + 1) + 1) + 1), .int en, .int met, .int start, .int next, .int kind, .int value])), (bu, .inl (E.2.1, 500, .inl q_8))] H := hP
  refine lv_iinc (v := (-8)) (lv' := [(2, .int (-8)), (0, .ref h), (1, .int word)]) hx hb dX3_addBytesOf_35 hl (k := 0) rfl (by decide) (by decide) rfl (fun ls hl => ?_)
  refine lv_goto (tgt := 3) hx hb dX3_addBytesOf_38 (by decide) ?_
  refine lv_iload_n hx hb dX3_addBytesOf_3 rfl (lv_at hl 0 rfl) ?_
  refine lv_if_lt (tgt := 41) hx hb dX3_addBytesOf_4 (by decide) (fun c_9 => ?_) (fun c_9 => absurd (by decide) c_9)
  exact x_wv ((((used + 1) + 1) + 1) + 1, q_8) (by unfold sX3_addBytesOf; rw [← hq_2]; unfold sX3_addBytesOf_q_2; rw [← hq_4]; unfold sX3_addBytesOf_q_4; rw [← hq_6]; unfold sX3_addBytesOf_q_6; rw [← hq_8]; unfold sX3_addBytesOf_q_8; try rfl) rfl hx hb hr hlk hS hP (hX.d rfl) [0, 1] rfl rfl (Nat.le_of_ble_eq_true rfl) (Nat.le_of_ble_eq_true rfl) dX3_addBytesOf_41
def sX8_append_q_6 (used : Int32) (buf : Nat → Int32) (a_ : Int32) (b_ : Int32) (c_ : Int32) (d_ : Int32) (e_ : Int32) (q_2 : Int32 × (Nat → Int32)) (q_3 : Int32 × (Nat → Int32)) (q_4 : Int32 × (Nat → Int32)) (q_5 : Int32 × (Nat → Int32)) (q_6 : Int32 × (Nat → Int32)) : Int32 × Int32 × (Nat → Int32) :=
  (q_6.1, q_6.1, q_6.2)
def sX8_append_q_5 (used : Int32) (buf : Nat → Int32) (a_ : Int32) (b_ : Int32) (c_ : Int32) (d_ : Int32) (e_ : Int32) (q_2 : Int32 × (Nat → Int32)) (q_3 : Int32 × (Nat → Int32)) (q_4 : Int32 × (Nat → Int32)) (q_5 : Int32 × (Nat → Int32)) : Int32 × Int32 × (Nat → Int32) :=
  sX8_append_q_6 used buf a_ b_ c_ d_ e_ q_2 q_3 q_4 q_5 (sX3_addBytesOf q_5.1 q_5.2 e_)
def sX8_append_q_4 (used : Int32) (buf : Nat → Int32) (a_ : Int32) (b_ : Int32) (c_ : Int32) (d_ : Int32) (e_ : Int32) (q_2 : Int32 × (Nat → Int32)) (q_3 : Int32 × (Nat → Int32)) (q_4 : Int32 × (Nat → Int32)) : Int32 × Int32 × (Nat → Int32) :=
  sX8_append_q_5 used buf a_ b_ c_ d_ e_ q_2 q_3 q_4 (sX3_addBytesOf q_4.1 q_4.2 d_)
def sX8_append_q_3 (used : Int32) (buf : Nat → Int32) (a_ : Int32) (b_ : Int32) (c_ : Int32) (d_ : Int32) (e_ : Int32) (q_2 : Int32 × (Nat → Int32)) (q_3 : Int32 × (Nat → Int32)) : Int32 × Int32 × (Nat → Int32) :=
  sX8_append_q_4 used buf a_ b_ c_ d_ e_ q_2 q_3 (sX3_addBytesOf q_3.1 q_3.2 c_)
def sX8_append_q_2 (used : Int32) (buf : Nat → Int32) (a_ : Int32) (b_ : Int32) (c_ : Int32) (d_ : Int32) (e_ : Int32) (q_2 : Int32 × (Nat → Int32)) : Int32 × Int32 × (Nat → Int32) :=
  sX8_append_q_3 used buf a_ b_ c_ d_ e_ q_2 (sX3_addBytesOf q_2.1 q_2.2 b_)
def sX8_append (used : Int32) (buf : Nat → Int32) (a_ : Int32) (b_ : Int32) (c_ : Int32) (d_ : Int32) (e_ : Int32) : Int32 × Int32 × (Nat → Int32) :=
  if (sX3_hasRoomFor used 20) = 0 then
    ((-1), used, buf)
  else
    sX8_append_q_2 used buf a_ b_ c_ d_ e_ (sX3_addBytesOf used buf a_)
theorem hdX8_append : yX8_append.cls = RX8 ∧ yX8_append.cls ≠ "java/lang/invoke/MethodHandle" ∧ yX8_append.cls ≠ "java/lang/invoke/VarHandle" ∧ (parseMethodDescriptor yX8_append.desc).map (fun d => d.parameters.length) = some 5 := by decide +kernel
set_option maxHeartbeats 4000000 in
set_option maxRecDepth 100000 in
theorem kX8_append (l : Launch) (E : XE) (h : Nat) (pl : Nat) (rd : Nat) (nw : Nat) (ah : Nat) (tr : Nat) (hi : Nat) (s0 : Nat) (s1 : Nat) (errorAt : Int32) (bu : Nat) (nu : Nat) (used : Int32) (en : Int32) (met : Int32) (start : Int32) (next : Int32) (kind : Int32) (value : Int32) (buf : Nat → Int32) (a_ : Int32) (b_ : Int32) (c_ : Int32) (d_ : Int32) (e_ : Int32) : xW (T := Int32 × Int32 × (Nat → Int32)) l yX8_append wsX8_append ({ frames := 2, cells := 0, slots := 0, locals := 44 }) E [(h, .inr (8, [.ref pl, .ref rd, .ref nw, .ref ah, .ref tr, .ref hi, .ref s0, .ref s1, .int errorAt])), (rd, .inr (3, [.ref bu, .ref nu, .int used, .int en, .int met, .int start, .int next, .int kind, .int value])), (bu, .inl (E.2.1, 500, .inl buf))] [.ref h, .int a_, .int b_, .int c_, .int d_, .int e_] (fun q => some (.int q.1)) (fun q => [(h, .inr (8, [.ref pl, .ref rd, .ref nw, .ref ah, .ref tr, .ref hi, .ref s0, .ref s1, .int errorAt])), (rd, .inr (3, [.ref bu, .ref nu, .int q.2.1, .int en, .int met, .int start, .int next, .int kind, .int value])), (bu, .inl (E.2.1, 500, .inl q.2.2))]) (sX8_append used buf a_ b_ c_ d_ e_) 0 0 := by
  refine xW.of (cc := cX8_append) (maxL := 6) (ret := (some .int)) (by decide) rfl (Nat.le_of_ble_eq_true rfl) ?_
  intro p e s m args below meth c ls A hM hE hP hD hS hA hl
  obtain ⟨hx, hb, hr, hml, hts, hown, hlk, hnm⟩ := hM
  have g_1 : (Cond.fieldLink RX8 19 "RailPendulum" "reader" "LRailPendulum$PlantReader;").before args s = true := hts (Cond.fieldLink RX8 19 "RailPendulum" "reader" "LRailPendulum$PlantReader;") (by decide +kernel)
  have g_2 : ∀ w ∈ wsX80, w ∈ wsX8_append := by decide +kernel
  have g_3 : (Cond.fieldLinkNest RX8 80 "RailPendulum$PlantReader" "used" "I" "RailPendulum").before args s = true := va_Nw.use rfl (hE.2 (Cond.fieldLinkNest RX8 80 "RailPendulum$PlantReader" "used" "I" "RailPendulum") (by decide +kernel))
  have g_4 : ∀ w ∈ wsX30, w ∈ wsX8_append := by decide +kernel
  have hX : xD A [h, rd, bu] := xD.of hD rfl
  have hl : lv_has ls 6 [(0, .ref h), (1, .int a_), (2, .int b_), (3, .int c_), (4, .int d_), (5, .int e_)] := hl
  refine lv_aload_n hx hb dX8_append_0 rfl (lv_at hl 0 rfl) ?_
  refine va_get (D := E.1) (ci := 8) (v := .ref rd) (C := RX8) (T := TX8) (N := 9) hx hb hts g_2 hown hE.1 hP 0 rfl rfl 1 (by decide) g_1 (fun _ h9 => h9) rfl dX8_append_1 ?_
  refine lv_bipush (v := 20) hx hb dX8_append_4 (by decide) ?_
  refine x_rV [.int 20] (kX3_hasRoomFor l E rd bu nu used en met start next kind value 20) ⟨hx, hb, hml, hown, hts⟩ (cwV 1 hts gX8_append_X3_hasRoomFor rfl rfl rfl hdX3_hasRoomFor ⟨Nat.le_of_ble_eq_true rfl, Nat.le_of_ble_eq_true rfl⟩) hE hP (hX.d rfl) [1] rfl rfl (ci := 3) (q0 := 1) rfl rfl rfl hl.1 rfl rfl (Nat.le_of_ble_eq_true rfl) dX8_append_6 (Nat.le_of_ble_eq_true rfl) (Nat.le_of_ble_eq_true rfl) ?_
  refine lv_if_ne (tgt := 14) hx hb dX8_append_9 (by decide) (fun c_1 => ?_) (fun c_1 => ?_)
  · refine lv_aload_n hx hb dX8_append_14 rfl (lv_at hl 0 rfl) ?_
    refine va_get (D := E.1) (ci := 8) (v := .ref rd) (C := RX8) (T := TX8) (N := 9) hx hb hts g_2 hown hE.1 hP 0 rfl rfl 1 (by decide) g_1 (fun _ h9 => h9) rfl dX8_append_15 ?_
    refine lv_iload_n hx hb dX8_append_18 rfl (lv_at hl 1 rfl) ?_
    refine x_wV (wr := [(h, .inr (8, [.ref pl, .ref rd, .ref nw, .ref ah, .ref tr, .ref hi, .ref s0, .ref s1, .int errorAt]))]) [.int a_] (kX3_addBytesOf l E rd bu nu used en met start next kind value buf a_) ⟨hx, hb, hml, hown, hts⟩ (cwV 1 hts gX8_append_X3_addBytesOf rfl rfl rfl hdX3_addBytesOf ⟨Nat.le_of_ble_eq_true rfl, Nat.le_of_ble_eq_true rfl⟩) hE hP (hX.d rfl) hS hA [1, 2] [0] rfl rfl rfl rfl (by decide) (ci := 3) (q0 := 1) rfl rfl rfl hl.1 rfl rfl (Nat.le_of_ble_eq_true rfl) dX8_append_19 (Nat.le_of_ble_eq_true rfl) (Nat.le_of_ble_eq_true rfl) (fun q_2 H locs hq_2 hP hD hS => ?_)
    have hP : va_P E.1 vwCl [(h, .inr (8, [.ref pl, .ref rd, .ref nw, .ref ah, .ref tr, .ref hi, .ref s0, .ref s1, .int errorAt])), (rd, .inr (3, [.ref bu, .ref nu, .int q_2.1, .int en, .int met, .int start, .int next, .int kind, .int value])), (bu, .inl (E.2.1, 500, .inl q_2.2))] H := hP
    have hX : xD A [h, rd, bu] := xD.of hD rfl
    refine W.eq (g2 := F0 m 22 ls []) rfl ?_
    refine lv_aload_n hx hb dX8_append_22 rfl (lv_at hl 0 rfl) ?_
    refine va_get (D := E.1) (ci := 8) (v := .ref rd) (C := RX8) (T := TX8) (N := 9) hx hb hts g_2 hown hE.1 hP 0 rfl rfl 1 (by decide) g_1 (fun _ h9 => h9) rfl dX8_append_23 ?_
    refine lv_iload_n hx hb dX8_append_26 rfl (lv_at hl 2 rfl) ?_
    refine x_wV (wr := [(h, .inr (8, [.ref pl, .ref rd, .ref nw, .ref ah, .ref tr, .ref hi, .ref s0, .ref s1, .int errorAt]))]) [.int b_] (kX3_addBytesOf l E rd bu nu q_2.1 en met start next kind value q_2.2 b_) ⟨hx, hb, hml, hown, hts⟩ (cwV 1 hts gX8_append_X3_addBytesOf rfl rfl rfl hdX3_addBytesOf ⟨Nat.le_of_ble_eq_true rfl, Nat.le_of_ble_eq_true rfl⟩) hE hP (hX.d rfl) hS hA [1, 2] [0] rfl rfl rfl rfl (by decide) (ci := 3) (q0 := 1) rfl rfl rfl hl.1 rfl rfl (Nat.le_of_ble_eq_true rfl) dX8_append_27 (Nat.le_of_ble_eq_true rfl) (Nat.le_of_ble_eq_true rfl) (fun q_3 H locs hq_3 hP hD hS => ?_)
    have hP : va_P E.1 vwCl [(h, .inr (8, [.ref pl, .ref rd, .ref nw, .ref ah, .ref tr, .ref hi, .ref s0, .ref s1, .int errorAt])), (rd, .inr (3, [.ref bu, .ref nu, .int q_3.1, .int en, .int met, .int start, .int next, .int kind, .int value])), (bu, .inl (E.2.1, 500, .inl q_3.2))] H := hP
    have hX : xD A [h, rd, bu] := xD.of hD rfl
    refine W.eq (g2 := F0 m 30 ls []) rfl ?_
    refine lv_aload_n hx hb dX8_append_30 rfl (lv_at hl 0 rfl) ?_
    refine va_get (D := E.1) (ci := 8) (v := .ref rd) (C := RX8) (T := TX8) (N := 9) hx hb hts g_2 hown hE.1 hP 0 rfl rfl 1 (by decide) g_1 (fun _ h9 => h9) rfl dX8_append_31 ?_
    refine lv_iload_n hx hb dX8_append_34 rfl (lv_at hl 3 rfl) ?_
    refine x_wV (wr := [(h, .inr (8, [.ref pl, .ref rd, .ref nw, .ref ah, .ref tr, .ref hi, .ref s0, .ref s1, .int errorAt]))]) [.int c_] (kX3_addBytesOf l E rd bu nu q_3.1 en met start next kind value q_3.2 c_) ⟨hx, hb, hml, hown, hts⟩ (cwV 1 hts gX8_append_X3_addBytesOf rfl rfl rfl hdX3_addBytesOf ⟨Nat.le_of_ble_eq_true rfl, Nat.le_of_ble_eq_true rfl⟩) hE hP (hX.d rfl) hS hA [1, 2] [0] rfl rfl rfl rfl (by decide) (ci := 3) (q0 := 1) rfl rfl rfl hl.1 rfl rfl (Nat.le_of_ble_eq_true rfl) dX8_append_35 (Nat.le_of_ble_eq_true rfl) (Nat.le_of_ble_eq_true rfl) (fun q_4 H locs hq_4 hP hD hS => ?_)
    have hP : va_P E.1 vwCl [(h, .inr (8, [.ref pl, .ref rd, .ref nw, .ref ah, .ref tr, .ref hi, .ref s0, .ref s1, .int errorAt])), (rd, .inr (3, [.ref bu, .ref nu, .int q_4.1, .int en, .int met, .int start, .int next, .int kind, .int value])), (bu, .inl (E.2.1, 500, .inl q_4.2))] H := hP
    have hX : xD A [h, rd, bu] := xD.of hD rfl
    refine W.eq (g2 := F0 m 38 ls []) rfl ?_
    refine lv_aload_n hx hb dX8_append_38 rfl (lv_at hl 0 rfl) ?_
    refine va_get (D := E.1) (ci := 8) (v := .ref rd) (C := RX8) (T := TX8) (N := 9) hx hb hts g_2 hown hE.1 hP 0 rfl rfl 1 (by decide) g_1 (fun _ h9 => h9) rfl dX8_append_39 ?_
    refine lv_iload hx hb dX8_append_42 (lv_at hl 4 rfl) ?_
    refine x_wV (wr := [(h, .inr (8, [.ref pl, .ref rd, .ref nw, .ref ah, .ref tr, .ref hi, .ref s0, .ref s1, .int errorAt]))]) [.int d_] (kX3_addBytesOf l E rd bu nu q_4.1 en met start next kind value q_4.2 d_) ⟨hx, hb, hml, hown, hts⟩ (cwV 1 hts gX8_append_X3_addBytesOf rfl rfl rfl hdX3_addBytesOf ⟨Nat.le_of_ble_eq_true rfl, Nat.le_of_ble_eq_true rfl⟩) hE hP (hX.d rfl) hS hA [1, 2] [0] rfl rfl rfl rfl (by decide) (ci := 3) (q0 := 1) rfl rfl rfl hl.1 rfl rfl (Nat.le_of_ble_eq_true rfl) dX8_append_44 (Nat.le_of_ble_eq_true rfl) (Nat.le_of_ble_eq_true rfl) (fun q_5 H locs hq_5 hP hD hS => ?_)
    have hP : va_P E.1 vwCl [(h, .inr (8, [.ref pl, .ref rd, .ref nw, .ref ah, .ref tr, .ref hi, .ref s0, .ref s1, .int errorAt])), (rd, .inr (3, [.ref bu, .ref nu, .int q_5.1, .int en, .int met, .int start, .int next, .int kind, .int value])), (bu, .inl (E.2.1, 500, .inl q_5.2))] H := hP
    have hX : xD A [h, rd, bu] := xD.of hD rfl
    refine W.eq (g2 := F0 m 47 ls []) rfl ?_
    refine lv_aload_n hx hb dX8_append_47 rfl (lv_at hl 0 rfl) ?_
    refine va_get (D := E.1) (ci := 8) (v := .ref rd) (C := RX8) (T := TX8) (N := 9) hx hb hts g_2 hown hE.1 hP 0 rfl rfl 1 (by decide) g_1 (fun _ h9 => h9) rfl dX8_append_48 ?_
    refine lv_iload hx hb dX8_append_51 (lv_at hl 5 rfl) ?_
    refine x_wV (wr := [(h, .inr (8, [.ref pl, .ref rd, .ref nw, .ref ah, .ref tr, .ref hi, .ref s0, .ref s1, .int errorAt]))]) [.int e_] (kX3_addBytesOf l E rd bu nu q_5.1 en met start next kind value q_5.2 e_) ⟨hx, hb, hml, hown, hts⟩ (cwV 1 hts gX8_append_X3_addBytesOf rfl rfl rfl hdX3_addBytesOf ⟨Nat.le_of_ble_eq_true rfl, Nat.le_of_ble_eq_true rfl⟩) hE hP (hX.d rfl) hS hA [1, 2] [0] rfl rfl rfl rfl (by decide) (ci := 3) (q0 := 1) rfl rfl rfl hl.1 rfl rfl (Nat.le_of_ble_eq_true rfl) dX8_append_53 (Nat.le_of_ble_eq_true rfl) (Nat.le_of_ble_eq_true rfl) (fun q_6 H locs hq_6 hP hD hS => ?_)
    have hP : va_P E.1 vwCl [(h, .inr (8, [.ref pl, .ref rd, .ref nw, .ref ah, .ref tr, .ref hi, .ref s0, .ref s1, .int errorAt])), (rd, .inr (3, [.ref bu, .ref nu, .int q_6.1, .int en, .int met, .int start, .int next, .int kind, .int value])), (bu, .inl (E.2.1, 500, .inl q_6.2))] H := hP
    have hX : xD A [h, rd, bu] := xD.of hD rfl
    refine W.eq (g2 := F0 m 56 ls []) rfl ?_
    refine lv_aload_n hx hb dX8_append_56 rfl (lv_at hl 0 rfl) ?_
    refine va_get (D := E.1) (ci := 8) (v := .ref rd) (C := RX8) (T := TX8) (N := 9) hx hb hts g_2 hown hE.1 hP 0 rfl rfl 1 (by decide) g_1 (fun _ h9 => h9) rfl dX8_append_57 ?_
    refine va_getN (D := E.1) (ci := 3) (v := .int q_6.1) (C := RX3) (T := TX3) (N := 9) hx hb hts g_4 hown hE.1 hP 1 rfl rfl 2 (by decide) g_3 (fun _ h9 => h9) rfl dX8_append_60 ?_
    exact x_wi (q_6.1, q_6.1, q_6.2) (by unfold sX8_append; rw [if_neg c_1]; rw [← hq_2]; unfold sX8_append_q_2; rw [← hq_3]; unfold sX8_append_q_3; rw [← hq_4]; unfold sX8_append_q_4; rw [← hq_5]; unfold sX8_append_q_5; rw [← hq_6]; unfold sX8_append_q_6; try rfl) rfl hx hb hr hlk hS hP (hX.d rfl) [0, 1, 2] rfl rfl (Nat.le_of_ble_eq_true rfl) (Nat.le_of_ble_eq_true rfl) dX8_append_63
  · refine lv_iconst (v := (-1)) hx hb dX8_append_12 (by decide) ?_
    exact x_wi ((-1), used, buf) (by unfold sX8_append; rw [if_pos c_1]; try rfl) rfl hx hb hr hlk hS hP (hX.d rfl) [0, 1, 2] rfl rfl (Nat.le_of_ble_eq_true rfl) (Nat.le_of_ble_eq_true rfl) dX8_append_13
def sX3_isSeparator (sign : Int32) : Int32 :=
  if sign = 32 then
    1
  else
    if sign = 10 then
      1
    else
      0
theorem hdX3_isSeparator : yX3_isSeparator.cls = RX3 ∧ yX3_isSeparator.cls ≠ "java/lang/invoke/MethodHandle" ∧ yX3_isSeparator.cls ≠ "java/lang/invoke/VarHandle" ∧ (parseMethodDescriptor yX3_isSeparator.desc).map (fun d => d.parameters.length) = some 1 := by decide +kernel
set_option maxHeartbeats 4000000 in
set_option maxRecDepth 100000 in
theorem kX3_isSeparator (l : Launch) (E : XE) (sign : Int32) : xR l yX3_isSeparator wsX3_isSeparator ({ frames := 0, cells := 0, slots := 0, locals := 0 }) E [] [.int sign] (.int (sX3_isSeparator sign)) := by
  refine xR.of (cc := cX3_isSeparator) (maxL := 1) (ret := (some .boolean)) (by decide) rfl (Nat.le_of_ble_eq_true rfl) ?_
  intro p e s m args below meth c ls hM hE hP hD hl
  obtain ⟨hx, hb, hr, hml, hts, hown, hlk, hnm⟩ := hM
  have hl : lv_has ls 1 [(0, .int sign)] := hl
  refine lv_iload_n hx hb dX3_isSeparator_0 rfl (lv_at hl 0 rfl) ?_
  refine lv_bipush (v := 32) hx hb dX3_isSeparator_1 (by decide) ?_
  refine lv_icmp_eq (tgt := 12) hx hb dX3_isSeparator_3 (by decide) (fun c_1 => ?_) (fun c_1 => ?_)
  · refine lv_iconst (v := 1) hx hb dX3_isSeparator_12 (by decide) ?_
    refine lv_goto (tgt := 17) hx hb dX3_isSeparator_13 (by decide) ?_
    exact x_zr (by unfold sX3_isSeparator; rw [if_pos c_1]; try rfl) hx hb hr hlk rfl dX3_isSeparator_17
  · refine lv_iload_n hx hb dX3_isSeparator_6 rfl (lv_at hl 0 rfl) ?_
    refine lv_bipush (v := 10) hx hb dX3_isSeparator_7 (by decide) ?_
    refine lv_icmp_ne (tgt := 16) hx hb dX3_isSeparator_9 (by decide) (fun c_2 => ?_) (fun c_2 => ?_)
    · refine lv_iconst (v := 0) hx hb dX3_isSeparator_16 (by decide) ?_
      exact x_zr (by unfold sX3_isSeparator; rw [if_neg c_1]; rw [if_neg c_2]; try rfl) hx hb hr hlk rfl dX3_isSeparator_17
    · refine lv_iconst (v := 1) hx hb dX3_isSeparator_12 (by decide) ?_
      refine lv_goto (tgt := 17) hx hb dX3_isSeparator_13 (by decide) ?_
      exact x_zr (by unfold sX3_isSeparator; rw [if_neg c_1]; rw [if_pos c_2]; try rfl) hx hb hr hlk rfl dX3_isSeparator_17
def sX3_isLetter (sign : Int32) : Int32 :=
  if sign < 97 then
    0
  else
    if 122 < sign then
      0
    else
      1
theorem hdX3_isLetter : yX3_isLetter.cls = RX3 ∧ yX3_isLetter.cls ≠ "java/lang/invoke/MethodHandle" ∧ yX3_isLetter.cls ≠ "java/lang/invoke/VarHandle" ∧ (parseMethodDescriptor yX3_isLetter.desc).map (fun d => d.parameters.length) = some 1 := by decide +kernel
set_option maxHeartbeats 4000000 in
set_option maxRecDepth 100000 in
theorem kX3_isLetter (l : Launch) (E : XE) (sign : Int32) : xR l yX3_isLetter wsX3_isLetter ({ frames := 0, cells := 0, slots := 0, locals := 0 }) E [] [.int sign] (.int (sX3_isLetter sign)) := by
  refine xR.of (cc := cX3_isLetter) (maxL := 1) (ret := (some .boolean)) (by decide) rfl (Nat.le_of_ble_eq_true rfl) ?_
  intro p e s m args below meth c ls hM hE hP hD hl
  obtain ⟨hx, hb, hr, hml, hts, hown, hlk, hnm⟩ := hM
  have hl : lv_has ls 1 [(0, .int sign)] := hl
  refine lv_iload_n hx hb dX3_isLetter_0 rfl (lv_at hl 0 rfl) ?_
  refine lv_bipush (v := 97) hx hb dX3_isLetter_1 (by decide) ?_
  refine lv_icmp_lt (tgt := 16) hx hb dX3_isLetter_3 (by decide) (fun c_1 => ?_) (fun c_1 => ?_)
  · refine lv_iconst (v := 0) hx hb dX3_isLetter_16 (by decide) ?_
    exact x_zr (by unfold sX3_isLetter; rw [if_pos c_1]; try rfl) hx hb hr hlk rfl dX3_isLetter_17
  · refine lv_iload_n hx hb dX3_isLetter_6 rfl (lv_at hl 0 rfl) ?_
    refine lv_bipush (v := 122) hx hb dX3_isLetter_7 (by decide) ?_
    refine lv_icmp_gt (tgt := 16) hx hb dX3_isLetter_9 (by decide) (fun c_2 => ?_) (fun c_2 => ?_)
    · refine lv_iconst (v := 0) hx hb dX3_isLetter_16 (by decide) ?_
      exact x_zr (by unfold sX3_isLetter; rw [if_neg c_1]; rw [if_pos c_2]; try rfl) hx hb hr hlk rfl dX3_isLetter_17
    · refine lv_iconst (v := 1) hx hb dX3_isLetter_12 (by decide) ?_
      refine lv_goto (tgt := 17) hx hb dX3_isLetter_13 (by decide) ?_
      exact x_zr (by unfold sX3_isLetter; rw [if_neg c_1]; rw [if_neg c_2]; try rfl) hx hb hr hlk rfl dX3_isLetter_17
def sX3_isDigit (sign : Int32) : Int32 :=
  if sign < 48 then
    0
  else
    if 57 < sign then
      0
    else
      1
theorem hdX3_isDigit : yX3_isDigit.cls = RX3 ∧ yX3_isDigit.cls ≠ "java/lang/invoke/MethodHandle" ∧ yX3_isDigit.cls ≠ "java/lang/invoke/VarHandle" ∧ (parseMethodDescriptor yX3_isDigit.desc).map (fun d => d.parameters.length) = some 1 := by decide +kernel
set_option maxHeartbeats 4000000 in
set_option maxRecDepth 100000 in
theorem kX3_isDigit (l : Launch) (E : XE) (sign : Int32) : xR l yX3_isDigit wsX3_isDigit ({ frames := 0, cells := 0, slots := 0, locals := 0 }) E [] [.int sign] (.int (sX3_isDigit sign)) := by
  refine xR.of (cc := cX3_isDigit) (maxL := 1) (ret := (some .boolean)) (by decide) rfl (Nat.le_of_ble_eq_true rfl) ?_
  intro p e s m args below meth c ls hM hE hP hD hl
  obtain ⟨hx, hb, hr, hml, hts, hown, hlk, hnm⟩ := hM
  have hl : lv_has ls 1 [(0, .int sign)] := hl
  refine lv_iload_n hx hb dX3_isDigit_0 rfl (lv_at hl 0 rfl) ?_
  refine lv_bipush (v := 48) hx hb dX3_isDigit_1 (by decide) ?_
  refine lv_icmp_lt (tgt := 16) hx hb dX3_isDigit_3 (by decide) (fun c_1 => ?_) (fun c_1 => ?_)
  · refine lv_iconst (v := 0) hx hb dX3_isDigit_16 (by decide) ?_
    exact x_zr (by unfold sX3_isDigit; rw [if_pos c_1]; try rfl) hx hb hr hlk rfl dX3_isDigit_17
  · refine lv_iload_n hx hb dX3_isDigit_6 rfl (lv_at hl 0 rfl) ?_
    refine lv_bipush (v := 57) hx hb dX3_isDigit_7 (by decide) ?_
    refine lv_icmp_gt (tgt := 16) hx hb dX3_isDigit_9 (by decide) (fun c_2 => ?_) (fun c_2 => ?_)
    · refine lv_iconst (v := 0) hx hb dX3_isDigit_16 (by decide) ?_
      exact x_zr (by unfold sX3_isDigit; rw [if_neg c_1]; rw [if_pos c_2]; try rfl) hx hb hr hlk rfl dX3_isDigit_17
    · refine lv_iconst (v := 1) hx hb dX3_isDigit_12 (by decide) ?_
      refine lv_goto (tgt := 17) hx hb dX3_isDigit_13 (by decide) ?_
      exact x_zr (by unfold sX3_isDigit; rw [if_neg c_1]; rw [if_neg c_2]; try rfl) hx hb hr hlk rfl dX3_isDigit_17
def sX3_readLetters_l0 (en : Int32) (buf : Nat → Int32) (kont_0 : Int32 → Int32 × Int32) : Nat → Int32 → Int32 × Int32
  | 0, u_0 => kont_0 u_0
  | kk_0 + 1, u_0 =>
    if en ≤ u_0 then
      kont_0 u_0
    else
      if (sX3_isLetter (sX8_valueAt 500 buf u_0)) = 0 then
        kont_0 u_0
      else
        sX3_readLetters_l0 en buf kont_0 kk_0 (u_0 + 1)
theorem sX3_readLetters_l0_s (en : Int32) (buf : Nat → Int32) (kont_0 : Int32 → Int32 × Int32) (kk_0 : Nat) (u_0 : Int32) : sX3_readLetters_l0 en buf kont_0 (kk_0 + 1) u_0 =
    if en ≤ u_0 then
      kont_0 u_0
    else
      if (sX3_isLetter (sX8_valueAt 500 buf u_0)) = 0 then
        kont_0 u_0
      else
        sX3_readLetters_l0 en buf kont_0 kk_0 (u_0 + 1) := rfl
def sX3_readLetters (en : Int32) (start : Int32) (next : Int32) (buf : Nat → Int32) : Int32 × Int32 :=
  sX3_readLetters_l0 en buf (fun (u_0 : Int32) => if 8 < (u_0 - start) then (u_0, 4) else (u_0, 1)) (xMu en next + 1) next
theorem hdX3_readLetters : yX3_readLetters.cls = RX3 ∧ yX3_readLetters.cls ≠ "java/lang/invoke/MethodHandle" ∧ yX3_readLetters.cls ≠ "java/lang/invoke/VarHandle" ∧ (parseMethodDescriptor yX3_readLetters.desc).map (fun d => d.parameters.length) = some 0 := by decide +kernel
set_option maxHeartbeats 4000000 in
set_option maxRecDepth 100000 in
theorem kX3_readLetters (l : Launch) (E : XE) (h : Nat) (bu : Nat) (nu : Nat) (used : Int32) (en : Int32) (met : Int32) (start : Int32) (next : Int32) (kind : Int32) (value : Int32) (buf : Nat → Int32) : xW (T := Int32 × Int32) l yX3_readLetters wsX3_readLetters ({ frames := 1, cells := 0, slots := 0, locals := 21 }) E [(h, .inr (3, [.ref bu, .ref nu, .int used, .int en, .int met, .int start, .int next, .int kind, .int value])), (bu, .inl (E.2.1, 500, .inl buf))] [.ref h] (fun _ => none) (fun q => [(h, .inr (3, [.ref bu, .ref nu, .int used, .int en, .int met, .int start, .int q.1, .int q.2, .int value])), (bu, .inl (E.2.1, 500, .inl buf))]) (sX3_readLetters en start next buf) 0 0 := by
  refine xW.of (cc := cX3_readLetters) (maxL := 1) (ret := none) (by decide) rfl (Nat.le_of_ble_eq_true rfl) ?_
  intro p e s m args below meth c ls A hM hE hP hD hS hA hl
  obtain ⟨hx, hb, hr, hml, hts, hown, hlk, hnm⟩ := hM
  have g_1 : (Cond.fieldLink RX3 36 "RailPendulum$PlantReader" "next" "I").before args s = true := hts (Cond.fieldLink RX3 36 "RailPendulum$PlantReader" "next" "I") (by decide +kernel)
  have g_2 : ∀ w ∈ wsX30, w ∈ wsX3_readLetters := by decide +kernel
  have g_3 : (Cond.fieldLink RX3 88 "RailPendulum$PlantReader" "start" "I").before args s = true := hts (Cond.fieldLink RX3 88 "RailPendulum$PlantReader" "start" "I") (by decide +kernel)
  have g_4 : (Cond.fieldLink RX3 45 "RailPendulum$PlantReader" "kind" "I").before args s = true := hts (Cond.fieldLink RX3 45 "RailPendulum$PlantReader" "kind" "I") (by decide +kernel)
  have g_5 : (Cond.fieldLink RX3 33 "RailPendulum$PlantReader" "end" "I").before args s = true := hts (Cond.fieldLink RX3 33 "RailPendulum$PlantReader" "end" "I") (by decide +kernel)
  have g_6 : (Cond.fieldLink RX3 9 "RailPendulum$PlantReader" "buffer" "[I").before args s = true := hts (Cond.fieldLink RX3 9 "RailPendulum$PlantReader" "buffer" "[I") (by decide +kernel)
  have g_7 : (Cond.initialized yX8_valueAt.cls).before args s = true := hts _ (by decide +kernel)
  have g_8 : (Cond.static yX8_valueAt).before args s = true := hts (Cond.static yX8_valueAt) (by decide +kernel)
  have g_9 : va_Nw (.methodLinkNest RX3 58 yX8_valueAt "RailPendulum") s := hE.2 _ (by decide +kernel)
  have hX : xD A [h, bu] := xD.of hD rfl
  have hl : lv_has ls 1 [(0, .ref h)] := hl
  have ex_0 : ∀ (u_0 : Int32), ∀ (H : Heap) (locs : List Loc), va_P E.1 vwCl [(h, .inr (3, [.ref bu, .ref nu, .int used, .int en, .int met, .int start, .int u_0, .int kind, .int value])), (bu, .inl (E.2.1, 500, .inl buf))] H → va_S A s.heap H locs → ∀ (ls : Array Slot), lv_has ls 1 [(0, .ref h)] → (sX3_readLetters en start next buf) = (if 8 < (u_0 - start) then (u_0, 4) else (u_0, 1)) → W p l e ({ frames := 1, cells := 0, slots := 0, locals := 21 }) s m args below meth c H locs 0 0 (MQ below (xO (T := Int32 × Int32) E A (fun _ => none) (fun q => [(h, .inr (3, [.ref bu, .ref nu, .int used, .int en, .int met, .int start, .int q.1, .int q.2, .int value])), (bu, .inl (E.2.1, 500, .inl buf))]) (sX3_readLetters en start next buf)) args s 0 0 A) (F0 m 41 ls []) := by
    intro u_0 H locs hP hS ls hl hx_0
    refine lv_aload_n hx hb dX3_readLetters_41 rfl (lv_at hl 0 rfl) ?_
    refine lv_aload_n hx hb dX3_readLetters_42 rfl (lv_at hl 0 rfl) ?_
    refine va_get (D := E.1) (ci := 3) (v := .int u_0) (C := RX3) (T := TX3) (N := 9) hx hb hts g_2 hown hE.1 hP 0 rfl rfl 6 (by decide) g_1 (fun _ h9 => h9) rfl dX3_readLetters_43 ?_
    refine lv_aload_n hx hb dX3_readLetters_46 rfl (lv_at hl 0 rfl) ?_
    refine va_get (D := E.1) (ci := 3) (v := .int start) (C := RX3) (T := TX3) (N := 9) hx hb hts g_2 hown hE.1 hP 0 rfl rfl 5 (by decide) g_3 (fun _ h9 => h9) rfl dX3_readLetters_47 ?_
    refine lv_isub hx hb dX3_readLetters_50 ?_
    refine lv_bipush (v := 8) hx hb dX3_readLetters_51 (by decide) ?_
    refine lv_icmp_gt (tgt := 60) hx hb dX3_readLetters_53 (by decide) (fun c_1 => ?_) (fun c_1 => ?_)
    · refine lv_iconst (v := 4) hx hb dX3_readLetters_60 (by decide) ?_
      refine va_put (D := E.1) (ci := 3) (v := .int 4) (ty := .int) (C := RX3) (T := TX3) (N := 9) hx hb hts g_2 tyX3 tyX3_ok nmX3 hown hE.1 hP (hX.d rfl) hS 0 rfl rfl 7 (by decide) g_4 (fun _ h9 => h9) rfl (by decide +kernel) rfl rfl (Nat.le_of_ble_eq_true rfl) dX3_readLetters_61 (fun H locs hP _ hS => ?_)
      have hP : va_P E.1 vwCl [(h, .inr (3, [.ref bu, .ref nu, .int used, .int en, .int met, .int start, .int u_0, .int 4, .int value])), (bu, .inl (E.2.1, 500, .inl buf))] H := hP
      exact x_wv (u_0, 4) (by rw [hx_0]; rw [if_pos c_1]; try rfl) rfl hx hb hr hlk hS hP (hX.d rfl) [0, 1] rfl rfl (Nat.le_of_ble_eq_true rfl) (Nat.le_of_ble_eq_true rfl) dX3_readLetters_64
    · refine lv_iconst (v := 1) hx hb dX3_readLetters_56 (by decide) ?_
      refine lv_goto (tgt := 61) hx hb dX3_readLetters_57 (by decide) ?_
      refine va_put (D := E.1) (ci := 3) (v := .int 1) (ty := .int) (C := RX3) (T := TX3) (N := 9) hx hb hts g_2 tyX3 tyX3_ok nmX3 hown hE.1 hP (hX.d rfl) hS 0 rfl rfl 7 (by decide) g_4 (fun _ h9 => h9) rfl (by decide +kernel) rfl rfl (Nat.le_of_ble_eq_true rfl) dX3_readLetters_61 (fun H locs hP _ hS => ?_)
      have hP : va_P E.1 vwCl [(h, .inr (3, [.ref bu, .ref nu, .int used, .int en, .int met, .int start, .int u_0, .int 1, .int value])), (bu, .inl (E.2.1, 500, .inl buf))] H := hP
      exact x_wv (u_0, 1) (by rw [hx_0]; rw [if_neg c_1]; try rfl) rfl hx hb hr hlk hS hP (hX.d rfl) [0, 1] rfl rfl (Nat.le_of_ble_eq_true rfl) (Nat.le_of_ble_eq_true rfl) dX3_readLetters_64
  have lp_0 : ∀ (kk_0 : Nat), ∀ (u_0 : Int32), (xMu en u_0) < kk_0 → ∀ (H : Heap) (locs : List Loc), va_P E.1 vwCl [(h, .inr (3, [.ref bu, .ref nu, .int used, .int en, .int met, .int start, .int u_0, .int kind, .int value])), (bu, .inl (E.2.1, 500, .inl buf))] H → va_S A s.heap H locs → ∀ (ls : Array Slot), lv_has ls 1 [(0, .ref h)] → (sX3_readLetters en start next buf) = sX3_readLetters_l0 en buf (fun (u_0 : Int32) => if 8 < (u_0 - start) then (u_0, 4) else (u_0, 1)) kk_0 u_0 → W p l e ({ frames := 1, cells := 0, slots := 0, locals := 21 }) s m args below meth c H locs 0 0 (MQ below (xO (T := Int32 × Int32) E A (fun _ => none) (fun q => [(h, .inr (3, [.ref bu, .ref nu, .int used, .int en, .int met, .int start, .int q.1, .int q.2, .int value])), (bu, .inl (E.2.1, 500, .inl buf))]) (sX3_readLetters en start next buf)) args s 0 0 A) (F0 m 0 ls []) := by
    intro kk_0
    induction kk_0 with
    | zero =>
      intro u_0 hmu
      exact absurd hmu (Nat.not_lt_zero _)
    | succ kk_0 ih_0 =>
      intro u_0 hmu H locs hP hS ls hl hlq_0
      refine lv_aload_n hx hb dX3_readLetters_0 rfl (lv_at hl 0 rfl) ?_
      refine va_get (D := E.1) (ci := 3) (v := .int u_0) (C := RX3) (T := TX3) (N := 9) hx hb hts g_2 hown hE.1 hP 0 rfl rfl 6 (by decide) g_1 (fun _ h9 => h9) rfl dX3_readLetters_1 ?_
      refine lv_aload_n hx hb dX3_readLetters_4 rfl (lv_at hl 0 rfl) ?_
      refine va_get (D := E.1) (ci := 3) (v := .int en) (C := RX3) (T := TX3) (N := 9) hx hb hts g_2 hown hE.1 hP 0 rfl rfl 3 (by decide) g_5 (fun _ h9 => h9) rfl dX3_readLetters_5 ?_
      refine lv_icmp_ge (tgt := 41) hx hb dX3_readLetters_8 (by decide) (fun c_2 => ?_) (fun c_2 => ?_)
      · exact ex_0 u_0  _ _ hP hS ls (lv_sub hl [0] rfl) (by rw [hlq_0]; rw [sX3_readLetters_l0_s]; rw [if_pos c_2]; try rfl)
      · refine lv_aload_n hx hb dX3_readLetters_11 rfl (lv_at hl 0 rfl) ?_
        refine va_get (D := E.1) (ci := 3) (v := .ref bu) (C := RX3) (T := TX3) (N := 9) hx hb hts g_2 hown hE.1 hP 0 rfl rfl 0 (by decide) g_6 (fun _ h9 => h9) rfl dX3_readLetters_12 ?_
        refine lv_aload_n hx hb dX3_readLetters_15 rfl (lv_at hl 0 rfl) ?_
        refine va_get (D := E.1) (ci := 3) (v := .int u_0) (C := RX3) (T := TX3) (N := 9) hx hb hts g_2 hown hE.1 hP 0 rfl rfl 6 (by decide) g_1 (fun _ h9 => h9) rfl dX3_readLetters_16 ?_
        refine x_rSN [.ref bu, .int u_0] (kX8_valueAt l E bu 500 buf u_0 (by decide)) ⟨hx, hb, hml, hown, hts⟩ ⟨va_cnB 2 hts gX3_readLetters_X8_valueAt_n58 rfl rfl rfl g_9 g_7 hdX8_valueAt.2 ⟨Nat.le_of_ble_eq_true rfl, Nat.le_of_ble_eq_true rfl⟩, g_8, trivial⟩ hE hP (hX.d rfl) [1] rfl rfl hl.1 rfl rfl (Nat.le_of_ble_eq_true rfl) dX3_readLetters_19 (Nat.le_of_ble_eq_true rfl) (Nat.le_of_ble_eq_true rfl) ?_
        refine x_rS [.int (sX8_valueAt 500 buf u_0)] (kX3_isLetter l E (sX8_valueAt 500 buf u_0)) ⟨hx, hb, hml, hown, hts⟩ (va_cwS 1 hts gX3_readLetters_X3_isLetter rfl rfl rfl hdX3_isLetter.2 ⟨Nat.le_of_ble_eq_true rfl, Nat.le_of_ble_eq_true rfl⟩) hE hP (hX.d rfl) [] rfl rfl hl.1 rfl rfl (Nat.le_of_ble_eq_true rfl) dX3_readLetters_22 (Nat.le_of_ble_eq_true rfl) (Nat.le_of_ble_eq_true rfl) ?_
        refine lv_if_eq (tgt := 41) hx hb dX3_readLetters_25 (by decide) (fun c_3 => ?_) (fun c_3 => ?_)
        · exact ex_0 u_0  _ _ hP hS ls (lv_sub hl [0] rfl) (by rw [hlq_0]; rw [sX3_readLetters_l0_s]; rw [if_neg c_2]; rw [if_pos c_3]; try rfl)
        · refine lv_aload_n hx hb dX3_readLetters_28 rfl (lv_at hl 0 rfl) ?_
          refine lv_dup hx hb dX3_readLetters_29 rfl ?_
          refine va_get (D := E.1) (ci := 3) (v := .int u_0) (C := RX3) (T := TX3) (N := 9) hx hb hts g_2 hown hE.1 hP 0 rfl rfl 6 (by decide) g_1 (fun _ h9 => h9) rfl dX3_readLetters_30 ?_
          refine lv_iconst (v := 1) hx hb dX3_readLetters_33 (by decide) ?_
          refine lv_iadd hx hb dX3_readLetters_34 ?_
          refine va_put (D := E.1) (ci := 3) (v := .int (u_0 + 1)) (ty := .int) (C := RX3) (T := TX3) (N := 9) hx hb hts g_2 tyX3 tyX3_ok nmX3 hown hE.1 hP (hX.d rfl) hS 0 rfl rfl 6 (by decide) g_1 (fun _ h9 => h9) rfl (by decide +kernel) rfl rfl (Nat.le_of_ble_eq_true rfl) dX3_readLetters_35 (fun H locs hP _ hS => ?_)
          have hP : va_P E.1 vwCl [(h, .inr (3, [.ref bu, .ref nu, .int used, .int en, .int met, .int start, .int (u_0 + 1), .int kind, .int value])), (bu, .inl (E.2.1, 500, .inl buf))] H := hP
          refine lv_goto (tgt := 0) hx hb dX3_readLetters_38 (by decide) ?_
          exact ih_0 (u_0 + 1) (x_muN c_2 hmu) _ _ hP hS ls (lv_sub hl [0] rfl) (by rw [hlq_0]; rw [sX3_readLetters_l0_s]; rw [if_neg c_2]; rw [if_neg c_3]; try rfl)
  exact lp_0 (xMu en next + 1) next  (Nat.lt_succ_self _) _ _ hP hS ls (lv_sub hl [0] rfl) (by unfold sX3_readLetters; try rfl)
