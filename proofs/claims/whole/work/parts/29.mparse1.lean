/-- where the reader of the reference stands -/
def xNx (t n : Int32) : Prop := 0 ≤ n.toInt ∧ n.toInt ≤ t.toInt ∧ t.toInt ≤ 500
def xTok (t s n : Int32) : Prop := 0 ≤ s.toInt ∧ s.toInt ≤ n.toInt ∧ n.toInt ≤ t.toInt ∧ t.toInt ≤ 500
theorem xTok.x {t s n : Int32} (h : xTok t s n) : xNx t n := ⟨Int.le_trans h.1 h.2.1, h.2.2⟩
theorem xNx.a {t n : Int32} (h : xNx t n) : ¬ n < 0 := by
  rw [Int32.lt_iff_toInt_lt, Int32.toInt_zero]
  have := h.1
  omega
theorem xNx.b {t n : Int32} (h : xNx t n) : t ≤ 500 := by
  rw [Int32.le_iff_toInt_le]
  have e : (500 : Int32).toInt = 500 := by decide
  rw [e]
  exact h.2.2
theorem xNx.s {t n : Int32} (h : xNx t n) (c : ¬ t ≤ n) : xNx t (n + 1) := by
  have e := x_up h.a c
  rw [Int32.le_iff_toInt_le] at c
  obtain ⟨h1, h2, h3⟩ := h
  exact ⟨by rw [e]; omega, by rw [e]; omega, h3⟩
theorem x_inb {i t : Int32} (h0 : ¬ i < 0) (hc : ¬ t ≤ i) (ht : t ≤ 500) : vp_in i 500 := by
  rw [vp_in_iff]
  have e : (500 : Int32).toInt = 500 := by decide
  rw [Int32.lt_iff_toInt_lt, Int32.toInt_zero] at h0
  rw [Int32.le_iff_toInt_le] at hc ht
  rw [e] at ht
  omega
theorem x_plus1 {n : Int32} (h0 : 0 ≤ n.toInt) (h1 : n.toInt ≤ 1000) : (n + 1).toInt = n.toInt + 1 := by
  have e1 : (1 : Int32).toInt = 1 := by decide
  rw [Int32.toInt_add, e1, Int.bmod_eq_of_le (by omega) (by omega)]
theorem x_bytes0 {n : Int32} (h0 : 0 ≤ n.toInt) (h1 : n.toInt ≤ 496) : vp_in n 500 := by
  rw [vp_in_iff]
  omega
theorem x_bytes1 {n : Int32} (h0 : 0 ≤ n.toInt) (h1 : n.toInt ≤ 496) : vp_in (n + 1) 500 := by
  rw [vp_in_iff, x_plus1 h0 (by omega)]
  omega
theorem x_bytes2 {n : Int32} (h0 : 0 ≤ n.toInt) (h1 : n.toInt ≤ 496) : vp_in ((n + 1) + 1) 500 := by
  have e := x_plus1 h0 (by omega)
  rw [vp_in_iff, x_plus1 (by omega) (by omega), e]
  omega
theorem x_bytes3 {n : Int32} (h0 : 0 ≤ n.toInt) (h1 : n.toInt ≤ 496) : vp_in (((n + 1) + 1) + 1) 500 := by
  have e := x_plus1 h0 (by omega)
  have e2 := x_plus1 (n := n + 1) (by omega) (by omega)
  rw [vp_in_iff, x_plus1 (by omega) (by omega), e2, e]
  omega

def sX9_bytesOf (length : Int32) (text : Nat → Int32) (word : Int32) : Int32 × (Nat → Int32) :=
  ((((length + 1) + 1) + 1) + 1, upd (upd (upd (upd text length.toNatClampNeg (vp_nar .byte ((word >>> (24 &&& 31)).toInt8.toInt32))) ((length + 1).toNatClampNeg) (vp_nar .byte ((word >>> (16 &&& 31)).toInt8.toInt32))) (((length + 1) + 1).toNatClampNeg) (vp_nar .byte ((word >>> (8 &&& 31)).toInt8.toInt32))) ((((length + 1) + 1) + 1).toNatClampNeg) (vp_nar .byte ((word >>> (0 &&& 31)).toInt8.toInt32)))
theorem hdX9_bytesOf : yX9_bytesOf.cls = RX9 ∧ yX9_bytesOf.cls ≠ "java/lang/invoke/MethodHandle" ∧ yX9_bytesOf.cls ≠ "java/lang/invoke/VarHandle" ∧ (parseMethodDescriptor yX9_bytesOf.desc).map (fun d => d.parameters.length) = some 1 := by decide +kernel
set_option maxHeartbeats 4000000 in
set_option maxRecDepth 100000 in
theorem kX9_bytesOf (l : Launch) (E : XE) (h : Nat) (thrown : Int32) (nw : Nat) (td : Nat) (tx : Nat) (length : Int32) (textSize : Int32) (start : Int32) (next : Int32) (token : Int32) (value : Int32) (error : Int32) (errorAt : Int32) (seen : Int32) (triedWith : Int32) (rr : Nat) (ss : Nat) (tr : Nat) (wa : Nat) (undos : Int32) (ud : Nat) (sl : Nat) (sv : Nat) (text : Nat → Int32) (word : Int32) (hb0 : 0 ≤ length.toInt) (hb1 : length.toInt ≤ 496) : xW (T := Int32 × (Nat → Int32)) l yX9_bytesOf wsX9_bytesOf ({ frames := 0, cells := 0, slots := 0, locals := 0 }) E [(h, .inr (9, [.int thrown, .ref nw, .ref td, .ref tx, .int length, .int textSize, .int start, .int next, .int token, .int value, .int error, .int errorAt, .int seen, .int triedWith, .ref rr, .ref ss, .ref tr, .ref wa, .int undos, .ref ud, .ref sl, .ref sv])), (tx, .inl (E.2.2.1, 500, .inl text))] [.ref h, .int word] (fun _ => none) (fun q => [(h, .inr (9, [.int thrown, .ref nw, .ref td, .ref tx, .int q.1, .int textSize, .int start, .int next, .int token, .int value, .int error, .int errorAt, .int seen, .int triedWith, .ref rr, .ref ss, .ref tr, .ref wa, .int undos, .ref ud, .ref sl, .ref sv])), (tx, .inl (E.2.2.1, 500, .inl q.2))]) (sX9_bytesOf length text word) 0 0 := by
  refine xW.of (cc := cX9_bytesOf) (maxL := 3) (ret := none) (by decide) rfl (Nat.le_of_ble_eq_true rfl) ?_
  intro p e s m args below meth c ls A hM hE hP hD hS hA hl
  obtain ⟨hx, hb, hr, hml, hts, hown, hlk, hnm⟩ := hM
  have g_1 : (Cond.fieldLink RX9 16 "RailPendulumModel" "text" "[B").before args s = true := hts (Cond.fieldLink RX9 16 "RailPendulumModel" "text" "[B") (by decide +kernel)
  have g_2 : ∀ w ∈ wsX90, w ∈ wsX9_bytesOf := by decide +kernel
  have g_3 : (Cond.fieldLink RX9 62 "RailPendulumModel" "length" "I").before args s = true := hts (Cond.fieldLink RX9 62 "RailPendulumModel" "length" "I") (by decide +kernel)
  have hX : xD A [h, tx] := xD.of hD rfl
  have hl : lv_has ls 3 [(0, .ref h), (1, .int word)] := hl
  refine lv_bipush (v := 24) hx hb dX9_bytesOf_0 (by decide) ?_
  refine lv_istore_n (lv' := [(2, .int 24), (0, .ref h), (1, .int word)]) hx hb dX9_bytesOf_2 rfl hl (by decide) rfl (fun ls hl => ?_)
  refine lv_iload_n hx hb dX9_bytesOf_3 rfl (lv_at hl 0 rfl) ?_
  refine lv_if_lt (tgt := 36) hx hb dX9_bytesOf_4 (by decide) (fun c_1 => absurd c_1 (by decide)) (fun c_1 => ?_)
  refine lv_aload_n hx hb dX9_bytesOf_7 rfl (lv_at hl 1 rfl) ?_
  refine va_get (D := E.1) (ci := 9) (v := .ref tx) (C := RX9) (T := TX9) (N := 22) hx hb hts g_2 hown hE.1 hP 0 rfl rfl 3 (by decide) g_1 (fun _ h9 => h9) rfl dX9_bytesOf_8 ?_
  refine lv_aload_n hx hb dX9_bytesOf_11 rfl (lv_at hl 1 rfl) ?_
  refine va_get (D := E.1) (ci := 9) (v := .int length) (C := RX9) (T := TX9) (N := 22) hx hb hts g_2 hown hE.1 hP 0 rfl rfl 4 (by decide) g_3 (fun _ h9 => h9) rfl dX9_bytesOf_12 ?_
  refine lv_iload_n hx hb dX9_bytesOf_15 rfl (lv_at hl 2 rfl) ?_
  refine lv_iload_n hx hb dX9_bytesOf_16 rfl (lv_at hl 0 rfl) ?_
  refine lv_ishr hx hb dX9_bytesOf_17 ?_
  refine lv_i2b hx hb dX9_bytesOf_18 rfl ?_
  refine x_bast hx hb hE.1 hP (hX.d rfl) hS 1 1 rfl rfl length.toNatClampNeg rfl (x_bytes0 hb0 hb1) dX9_bytesOf_19 (fun H locs hP _ hS => ?_)
  have hP : va_P E.1 vwCl [(h, .inr (9, [.int thrown, .ref nw, .ref td, .ref tx, .int length, .int textSize, .int start, .int next, .int token, .int value, .int error, .int errorAt, .int seen, .int triedWith, .ref rr, .ref ss, .ref tr, .ref wa, .int undos, .ref ud, .ref sl, .ref sv])), (tx, .inl (E.2.2.1, 500, .inl (upd text length.toNatClampNeg (vp_nar .byte ((word >>> (24 &&& 31)).toInt8.toInt32)))))] H := hP
  refine lv_aload_n hx hb dX9_bytesOf_20 rfl (lv_at hl 1 rfl) ?_
  refine lv_dup hx hb dX9_bytesOf_21 rfl ?_
  refine va_get (D := E.1) (ci := 9) (v := .int length) (C := RX9) (T := TX9) (N := 22) hx hb hts g_2 hown hE.1 hP 0 rfl rfl 4 (by decide) g_3 (fun _ h9 => h9) rfl dX9_bytesOf_22 ?_
  refine lv_iconst (v := 1) hx hb dX9_bytesOf_25 (by decide) ?_
  refine lv_iadd hx hb dX9_bytesOf_26 ?_
  refine va_put (D := E.1) (ci := 9) (v := .int (length + 1)) (ty := .int) (C := RX9) (T := TX9) (N := 22) hx hb hts g_2 tyX9 tyX9_ok nmX9 hown hE.1 hP (hX.d rfl) hS 0 rfl rfl 4 (by decide) g_3 (fun _ h9 => h9) rfl (by decide +kernel) rfl rfl (Nat.le_of_ble_eq_true rfl) dX9_bytesOf_27 (fun H locs hP _ hS => ?_)
  have hP : va_P E.1 vwCl [(h, .inr (9, [.int thrown, .ref nw, .ref td, .ref tx, .int (length + 1), .int textSize, .int start, .int next, .int token, .int value, .int error, .int errorAt, .int seen, .int triedWith, .ref rr, .ref ss, .ref tr, .ref wa, .int undos, .ref ud, .ref sl, .ref sv])), (tx, .inl (E.2.2.1, 500, .inl (upd text length.toNatClampNeg (vp_nar .byte ((word >>> (24 &&& 31)).toInt8.toInt32)))))] H := hP
  refine lv_iinc (v := 16) (lv' := [(2, .int 16), (0, .ref h), (1, .int word)]) hx hb dX9_bytesOf_30 hl (k := 0) rfl (by decide) (by decide) rfl (fun ls hl => ?_)
  refine lv_goto (tgt := 3) hx hb dX9_bytesOf_33 (by decide) ?_
  refine lv_iload_n hx hb dX9_bytesOf_3 rfl (lv_at hl 0 rfl) ?_
  refine lv_if_lt (tgt := 36) hx hb dX9_bytesOf_4 (by decide) (fun c_2 => absurd c_2 (by decide)) (fun c_2 => ?_)
  refine lv_aload_n hx hb dX9_bytesOf_7 rfl (lv_at hl 1 rfl) ?_
  refine va_get (D := E.1) (ci := 9) (v := .ref tx) (C := RX9) (T := TX9) (N := 22) hx hb hts g_2 hown hE.1 hP 0 rfl rfl 3 (by decide) g_1 (fun _ h9 => h9) rfl dX9_bytesOf_8 ?_
  refine lv_aload_n hx hb dX9_bytesOf_11 rfl (lv_at hl 1 rfl) ?_
  refine va_get (D := E.1) (ci := 9) (v := .int (length + 1)) (C := RX9) (T := TX9) (N := 22) hx hb hts g_2 hown hE.1 hP 0 rfl rfl 4 (by decide) g_3 (fun _ h9 => h9) rfl dX9_bytesOf_12 ?_
  refine lv_iload_n hx hb dX9_bytesOf_15 rfl (lv_at hl 2 rfl) ?_
  refine lv_iload_n hx hb dX9_bytesOf_16 rfl (lv_at hl 0 rfl) ?_
  refine lv_ishr hx hb dX9_bytesOf_17 ?_
  refine lv_i2b hx hb dX9_bytesOf_18 rfl ?_
  refine x_bast hx hb hE.1 hP (hX.d rfl) hS 1 1 rfl rfl ((length + 1).toNatClampNeg) rfl (x_bytes1 hb0 hb1) dX9_bytesOf_19 (fun H locs hP _ hS => ?_)
  have hP : va_P E.1 vwCl [(h, .inr (9, [.int thrown, .ref nw, .ref td, .ref tx, .int (length + 1), .int textSize, .int start, .int next, .int token, .int value, .int error, .int errorAt, .int seen, .int triedWith, .ref rr, .ref ss, .ref tr, .ref wa, .int undos, .ref ud, .ref sl, .ref sv])), (tx, .inl (E.2.2.1, 500, .inl (upd (upd text length.toNatClampNeg (vp_nar .byte ((word >>> (24 &&& 31)).toInt8.toInt32))) ((length + 1).toNatClampNeg) (vp_nar .byte ((word >>> (16 &&& 31)).toInt8.toInt32)))))] H := hP
  refine lv_aload_n hx hb dX9_bytesOf_20 rfl (lv_at hl 1 rfl) ?_
  refine lv_dup hx hb dX9_bytesOf_21 rfl ?_
  refine va_get (D := E.1) (ci := 9) (v := .int (length + 1)) (C := RX9) (T := TX9) (N := 22) hx hb hts g_2 hown hE.1 hP 0 rfl rfl 4 (by decide) g_3 (fun _ h9 => h9) rfl dX9_bytesOf_22 ?_
  refine lv_iconst (v := 1) hx hb dX9_bytesOf_25 (by decide) ?_
  refine lv_iadd hx hb dX9_bytesOf_26 ?_
  refine va_put (D := E.1) (ci := 9) (v := .int ((length + 1) + 1)) (ty := .int) (C := RX9) (T := TX9) (N := 22) hx hb hts g_2 tyX9 tyX9_ok nmX9 hown hE.1 hP (hX.d rfl) hS 0 rfl rfl 4 (by decide) g_3 (fun _ h9 => h9) rfl (by decide +kernel) rfl rfl (Nat.le_of_ble_eq_true rfl) dX9_bytesOf_27 (fun H locs hP _ hS => ?_)
  have hP : va_P E.1 vwCl [(h, .inr (9, [.int thrown, .ref nw, .ref td, .ref tx, .int ((length + 1) + 1), .int textSize, .int start, .int next, .int token, .int value, .int error, .int errorAt, .int seen, .int triedWith, .ref rr, .ref ss, .ref tr, .ref wa, .int undos, .ref ud, .ref sl, .ref sv])), (tx, .inl (E.2.2.1, 500, .inl (upd (upd text length.toNatClampNeg (vp_nar .byte ((word >>> (24 &&& 31)).toInt8.toInt32))) ((length + 1).toNatClampNeg) (vp_nar .byte ((word >>> (16 &&& 31)).toInt8.toInt32)))))] H := hP
  refine lv_iinc (v := 8) (lv' := [(2, .int 8), (0, .ref h), (1, .int word)]) hx hb dX9_bytesOf_30 hl (k := 0) rfl (by decide) (by decide) rfl (fun ls hl => ?_)
  refine lv_goto (tgt := 3) hx hb dX9_bytesOf_33 (by decide) ?_
  refine lv_iload_n hx hb dX9_bytesOf_3 rfl (lv_at hl 0 rfl) ?_
  refine lv_if_lt (tgt := 36) hx hb dX9_bytesOf_4 (by decide) (fun c_3 => absurd c_3 (by decide)) (fun c_3 => ?_)
  refine lv_aload_n hx hb dX9_bytesOf_7 rfl (lv_at hl 1 rfl) ?_
  refine va_get (D := E.1) (ci := 9) (v := .ref tx) (C := RX9) (T := TX9) (N := 22) hx hb hts g_2 hown hE.1 hP 0 rfl rfl 3 (by decide) g_1 (fun _ h9 => h9) rfl dX9_bytesOf_8 ?_
  refine lv_aload_n hx hb dX9_bytesOf_11 rfl (lv_at hl 1 rfl) ?_
  refine va_get (D := E.1) (ci := 9) (v := .int ((length + 1) + 1)) (C := RX9) (T := TX9) (N := 22) hx hb hts g_2 hown hE.1 hP 0 rfl rfl 4 (by decide) g_3 (fun _ h9 => h9) rfl dX9_bytesOf_12 ?_
  refine lv_iload_n hx hb dX9_bytesOf_15 rfl (lv_at hl 2 rfl) ?_
  refine lv_iload_n hx hb dX9_bytesOf_16 rfl (lv_at hl 0 rfl) ?_
  refine lv_ishr hx hb dX9_bytesOf_17 ?_
  refine lv_i2b hx hb dX9_bytesOf_18 rfl ?_
  refine x_bast hx hb hE.1 hP (hX.d rfl) hS 1 1 rfl rfl (((length + 1) + 1).toNatClampNeg) rfl (x_bytes2 hb0 hb1) dX9_bytesOf_19 (fun H locs hP _ hS => ?_)
  have hP : va_P E.1 vwCl [(h, .inr (9, [.int thrown, .ref nw, .ref td, .ref tx, .int ((length + 1) + 1), .int textSize, .int start, .int next, .int token, .int value, .int error, .int errorAt, .int seen, .int triedWith, .ref rr, .ref ss, .ref tr, .ref wa, .int undos, .ref ud, .ref sl, .ref sv])), (tx, .inl (E.2.2.1, 500, .inl (upd (upd (upd text length.toNatClampNeg (vp_nar .byte ((word >>> (24 &&& 31)).toInt8.toInt32))) ((length + 1).toNatClampNeg) (vp_nar .byte ((word >>> (16 &&& 31)).toInt8.toInt32))) (((length + 1) + 1).toNatClampNeg) (vp_nar .byte ((word >>> (8 &&& 31)).toInt8.toInt32)))))] H := hP
  refine lv_aload_n hx hb dX9_bytesOf_20 rfl (lv_at hl 1 rfl) ?_
  refine lv_dup hx hb dX9_bytesOf_21 rfl ?_
  refine va_get (D := E.1) (ci := 9) (v := .int ((length + 1) + 1)) (C := RX9) (T := TX9) (N := 22) hx hb hts g_2 hown hE.1 hP 0 rfl rfl 4 (by decide) g_3 (fun _ h9 => h9) rfl dX9_bytesOf_22 ?_
  refine lv_iconst (v := 1) hx hb dX9_bytesOf_25 (by decide) ?_
  refine lv_iadd hx hb dX9_bytesOf_26 ?_
  refine va_put (D := E.1) (ci := 9) (v := .int (((length + 1) + 1) + 1)) (ty := .int) (C := RX9) (T := TX9) (N := 22) hx hb hts g_2 tyX9 tyX9_ok nmX9 hown hE.1 hP (hX.d rfl) hS 0 rfl rfl 4 (by decide) g_3 (fun _ h9 => h9) rfl (by decide +kernel) rfl rfl (Nat.le_of_ble_eq_true rfl) dX9_bytesOf_27 (fun H locs hP _ hS => ?_)
  have hP : va_P E.1 vwCl [(h, .inr (9, [.int thrown, .ref nw, .ref td, .ref tx, .int (((length + 1) + 1) + 1), .int textSize, .int start, .int next, .int token, .int value, .int error, .int errorAt, .int seen, .int triedWith, .ref rr, .ref ss, .ref tr, .ref wa, .int undos, .ref ud, .ref sl, .ref sv])), (tx, .inl (E.2.2.1, 500, .inl (upd (upd (upd text length.toNatClampNeg (vp_nar .byte ((word >>> (24 &&& 31)).toInt8.toInt32))) ((length + 1).toNatClampNeg) (vp_nar .byte ((word >>> (16 &&& 31)).toInt8.toInt32))) (((length + 1) + 1).toNatClampNeg) (vp_nar .byte ((word >>> (8 &&& 31)).toInt8.toInt32)))))] H := hP
  refine lv_iinc (v := 0) (lv' := [(2, .int 0), (0, .ref h), (1, .int word)]) hx hb dX9_bytesOf_30 hl (k := 0) rfl (by decide) (by decide) rfl (fun ls hl => ?_)
  refine lv_goto (tgt := 3) hx hb dX9_bytesOf_33 (by decide) ?_
  refine lv_iload_n hx hb dX9_bytesOf_3 rfl (lv_at hl 0 rfl) ?_
  refine lv_if_lt (tgt := 36) hx hb dX9_bytesOf_4 (by decide) (fun c_4 => absurd c_4 (by decide)) (fun c_4 => ?_)
  refine lv_aload_n hx hb dX9_bytesOf_7 rfl (lv_at hl 1 rfl) ?_
  refine va_get (D := E.1) (ci := 9) (v := .ref tx) (C := RX9) (T := TX9) (N := 22) hx hb hts g_2 hown hE.1 hP 0 rfl rfl 3 (by decide) g_1 (fun _ h9 => h9) rfl dX9_bytesOf_8 ?_
  refine lv_aload_n hx hb dX9_bytesOf_11 rfl (lv_at hl 1 rfl) ?_
  refine va_get (D := E.1) (ci := 9) (v := .int (((length + 1) + 1) + 1)) (C := RX9) (T := TX9) (N := 22) hx hb hts g_2 hown hE.1 hP 0 rfl rfl 4 (by decide) g_3 (fun _ h9 => h9) rfl dX9_bytesOf_12 ?_
  refine lv_iload_n hx hb dX9_bytesOf_15 rfl (lv_at hl 2 rfl) ?_
  refine lv_iload_n hx hb dX9_bytesOf_16 rfl (lv_at hl 0 rfl) ?_
  refine lv_ishr hx hb dX9_bytesOf_17 ?_
  refine lv_i2b hx hb dX9_bytesOf_18 rfl ?_
  refine x_bast hx hb hE.1 hP (hX.d rfl) hS 1 1 rfl rfl ((((length + 1) + 1) + 1).toNatClampNeg) rfl (x_bytes3 hb0 hb1) dX9_bytesOf_19 (fun H locs hP _ hS => ?_)
  have hP : va_P E.1 vwCl [(h, .inr (9, [.int thrown, .ref nw, .ref td, .ref tx, .int (((length + 1) + 1) + 1), .int textSize, .int start, .int next, .int token, .int value, .int error, .int errorAt, .int seen, .int triedWith, .ref rr, .ref ss, .ref tr, .ref wa, .int undos, .ref ud, .ref sl, .ref sv])), (tx, .inl (E.2.2.1, 500, .inl (upd (upd (upd (upd text length.toNatClampNeg (vp_nar .byte ((word >>> (24 &&& 31)).toInt8.toInt32))) ((length + 1).toNatClampNeg) (vp_nar .byte ((word >>> (16 &&& 31)).toInt8.toInt32))) (((length + 1) + 1).toNatClampNeg) (vp_nar .byte ((word >>> (8 &&& 31)).toInt8.toInt32))) ((((length + 1) + 1) + 1).toNatClampNeg) (vp_nar .byte ((word >>> (0 &&& 31)).toInt8.toInt32)))))] H := hP
  refine lv_aload_n hx hb dX9_bytesOf_20 rfl (lv_at hl 1 rfl) ?_
  refine lv_dup hx hb dX9_bytesOf_21 rfl ?_
  refine va_get (D := E.1) (ci := 9) (v := .int (((length + 1) + 1) + 1)) (C := RX9) (T := TX9) (N := 22) hx hb hts g_2 hown hE.1 hP 0 rfl rfl 4 (by decide) g_3 (fun _ h9 => h9) rfl dX9_bytesOf_22 ?_
  refine lv_iconst (v := 1) hx hb dX9_bytesOf_25 (by decide) ?_
  refine lv_iadd hx hb dX9_bytesOf_26 ?_
  refine va_put (D := E.1) (ci := 9) (v := .int ((((length + 1) + 1) + 1) + 1)) (ty := .int) (C := RX9) (T := TX9) (N := 22) hx hb hts g_2 tyX9 tyX9_ok nmX9 hown hE.1 hP (hX.d rfl) hS 0 rfl rfl 4 (by decide) g_3 (fun _ h9 => h9) rfl (by decide +kernel) rfl rfl (Nat.le_of_ble_eq_true rfl) dX9_bytesOf_27 (fun H locs hP _ hS => ?_)
  have hP : va_P E.1 vwCl [(h, .inr (9, [.int thrown, .ref nw, .ref td, .ref tx, .int ((((length + 1) + 1) + 1) + 1), .int textSize, .int start, .int next, .int token, .int value, .int error, .int errorAt, .int seen, .int triedWith, .ref rr, .ref ss, .ref tr, .ref wa, .int undos, .ref ud, .ref sl, .ref sv])), (tx, .inl (E.2.2.1, 500, .inl (upd (upd (upd (upd text length.toNatClampNeg (vp_nar .byte ((word >>> (24 &&& 31)).toInt8.toInt32))) ((length + 1).toNatClampNeg) (vp_nar .byte ((word >>> (16 &&& 31)).toInt8.toInt32))) (((length + 1) + 1).toNatClampNeg) (vp_nar .byte ((word >>> (8 &&& 31)).toInt8.toInt32))) ((((length + 1) + 1) + 1).toNatClampNeg) (vp_nar .byte ((word >>> (0 &&& 31)).toInt8.toInt32)))))] H := hP
  refine lv_iinc (v := (-8)) (lv' := [(2, .int (-8)), (0, .ref h), (1, .int word)]) hx hb dX9_bytesOf_30 hl (k := 0) rfl (by decide) (by decide) rfl (fun ls hl => ?_)
  refine lv_goto (tgt := 3) hx hb dX9_bytesOf_33 (by decide) ?_
  refine lv_iload_n hx hb dX9_bytesOf_3 rfl (lv_at hl 0 rfl) ?_
  refine lv_if_lt (tgt := 36) hx hb dX9_bytesOf_4 (by decide) (fun c_5 => ?_) (fun c_5 => absurd (by decide) c_5)
  exact x_wv ((((length + 1) + 1) + 1) + 1, upd (upd (upd (upd text length.toNatClampNeg (vp_nar .byte ((word >>> (24 &&& 31)).toInt8.toInt32))) ((length + 1).toNatClampNeg) (vp_nar .byte ((word >>> (16 &&& 31)).toInt8.toInt32))) (((length + 1) + 1).toNatClampNeg) (vp_nar .byte ((word >>> (8 &&& 31)).toInt8.toInt32))) ((((length + 1) + 1) + 1).toNatClampNeg) (vp_nar .byte ((word >>> (0 &&& 31)).toInt8.toInt32))) (by unfold sX9_bytesOf; try rfl) rfl hx hb hr hlk hS hP (hX.d rfl) [0, 1] rfl rfl (Nat.le_of_ble_eq_true rfl) (Nat.le_of_ble_eq_true rfl) dX9_bytesOf_36
theorem x_bytes4 {n : Int32} {text : Nat → Int32} {w : Int32} (h0 : 0 ≤ n.toInt) (h1 : n.toInt ≤ 496) : (sX9_bytesOf n text w).1.toInt = n.toInt + 4 := by
  have e := x_plus1 h0 (by omega)
  have e2 := x_plus1 (n := n + 1) (by omega) (by omega)
  have e3 := x_plus1 (n := n + 1 + 1) (by omega) (by omega)
  unfold sX9_bytesOf
  show ((((n + 1) + 1) + 1) + 1).toInt = _
  rw [x_plus1 (by omega) (by omega), e3, e2, e]
  omega
theorem x_add20 {n : Int32} (h0 : 0 ≤ n.toInt) (h1 : n.toInt ≤ 500) (c : n + 20 ≤ 500) : n.toInt ≤ 480 := by
  have e20 : (20 : Int32).toInt = 20 := by decide
  have e500 : (500 : Int32).toInt = 500 := by decide
  rw [Int32.le_iff_toInt_le, Int32.toInt_add, e20, e500, Int.bmod_eq_of_le (by omega) (by omega)] at c
  omega
def sX9_byteAt (textSize : Int32) (text : Nat → Int32) (at_ : Int32) : Int32 :=
  if textSize ≤ at_ then
    (-1)
  else
    (text at_.toNatClampNeg) &&& 255
theorem hdX9_byteAt : yX9_byteAt.cls = RX9 ∧ yX9_byteAt.cls ≠ "java/lang/invoke/MethodHandle" ∧ yX9_byteAt.cls ≠ "java/lang/invoke/VarHandle" ∧ (parseMethodDescriptor yX9_byteAt.desc).map (fun d => d.parameters.length) = some 1 := by decide +kernel
set_option maxHeartbeats 4000000 in
set_option maxRecDepth 100000 in
theorem kX9_byteAt (l : Launch) (E : XE) (h : Nat) (thrown : Int32) (nw : Nat) (td : Nat) (tx : Nat) (length : Int32) (textSize : Int32) (start : Int32) (next : Int32) (token : Int32) (value : Int32) (error : Int32) (errorAt : Int32) (seen : Int32) (triedWith : Int32) (rr : Nat) (ss : Nat) (tr : Nat) (wa : Nat) (undos : Int32) (ud : Nat) (sl : Nat) (sv : Nat) (text : Nat → Int32) (at_ : Int32) (hb0 : ¬ at_ < 0) (hb1 : textSize ≤ 500) : xR l yX9_byteAt wsX9_byteAt ({ frames := 0, cells := 0, slots := 0, locals := 0 }) E [(h, .inr (9, [.int thrown, .ref nw, .ref td, .ref tx, .int length, .int textSize, .int start, .int next, .int token, .int value, .int error, .int errorAt, .int seen, .int triedWith, .ref rr, .ref ss, .ref tr, .ref wa, .int undos, .ref ud, .ref sl, .ref sv])), (tx, .inl (E.2.2.1, 500, .inl text))] [.ref h, .int at_] (.int (sX9_byteAt textSize text at_)) := by
  refine xR.of (cc := cX9_byteAt) (maxL := 2) (ret := (some .int)) (by decide) rfl (Nat.le_of_ble_eq_true rfl) ?_
  intro p e s m args below meth c ls hM hE hP hD hl
  obtain ⟨hx, hb, hr, hml, hts, hown, hlk, hnm⟩ := hM
  have g_1 : (Cond.fieldLink RX9 69 "RailPendulumModel" "textSize" "I").before args s = true := hts (Cond.fieldLink RX9 69 "RailPendulumModel" "textSize" "I") (by decide +kernel)
  have g_2 : ∀ w ∈ wsX90, w ∈ wsX9_byteAt := by decide +kernel
  have g_3 : (Cond.fieldLink RX9 16 "RailPendulumModel" "text" "[B").before args s = true := hts (Cond.fieldLink RX9 16 "RailPendulumModel" "text" "[B") (by decide +kernel)
  have hl : lv_has ls 2 [(0, .ref h), (1, .int at_)] := hl
  refine lv_iload_n hx hb dX9_byteAt_0 rfl (lv_at hl 1 rfl) ?_
  refine lv_aload_n hx hb dX9_byteAt_1 rfl (lv_at hl 0 rfl) ?_
  refine va_get (D := E.1) (ci := 9) (v := .int textSize) (C := RX9) (T := TX9) (N := 22) hx hb hts g_2 hown hE.1 hP 0 rfl rfl 5 (by decide) g_1 (fun _ h9 => h9) rfl dX9_byteAt_2 ?_
  refine lv_icmp_ge (tgt := 21) hx hb dX9_byteAt_5 (by decide) (fun c_1 => ?_) (fun c_1 => ?_)
  · refine lv_iconst (v := (-1)) hx hb dX9_byteAt_21 (by decide) ?_
    exact x_ir (by unfold sX9_byteAt; rw [if_pos c_1]; try rfl) hx hb hr hlk dX9_byteAt_22
  · refine lv_aload_n hx hb dX9_byteAt_8 rfl (lv_at hl 0 rfl) ?_
    refine va_get (D := E.1) (ci := 9) (v := .ref tx) (C := RX9) (T := TX9) (N := 22) hx hb hts g_2 hown hE.1 hP 0 rfl rfl 3 (by decide) g_3 (fun _ h9 => h9) rfl dX9_byteAt_9 ?_
    refine lv_iload_n hx hb dX9_byteAt_12 rfl (lv_at hl 1 rfl) ?_
    refine x_bald hx hb hE.1 hP 1 1 rfl rfl at_.toNatClampNeg rfl (x_inb hb0 c_1 hb1) dX9_byteAt_13 ?_
    refine lv_sipush (v := 255) hx hb dX9_byteAt_14 (by decide) ?_
    refine lv_iand hx hb dX9_byteAt_17 ?_
    refine lv_goto (tgt := 22) hx hb dX9_byteAt_18 (by decide) ?_
    exact x_ir (by unfold sX9_byteAt; rw [if_neg c_1]; try rfl) hx hb hr hlk dX9_byteAt_22
theorem x_byteLt {t u k : Int32} {text : Nat → Int32} (c : sX9_byteAt t text u = k) (hk : ¬ k = -1) : ¬ t ≤ u := fun h => by
  unfold sX9_byteAt at c
  rw [if_pos h] at c
  exact hk c.symm
theorem x_byteW {t u lo hi : Int32} {text : Nat → Int32} (c : ¬ sX9_within (sX9_byteAt t text u) lo hi = 0) (h0 : 0 ≤ lo) : ¬ t ≤ u := fun h => by
  have h1 := (x_within c).1
  unfold sX9_byteAt at h1
  rw [if_pos h] at h1
  exact absurd (Int32.le_trans h0 h1) (by decide)
theorem x_byteN {t u : Int32} {text : Nat → Int32} (c : ¬ sX9_byteAt t text u = -1) : ¬ t ≤ u := fun h => by
  unfold sX9_byteAt at c
  rw [if_pos h] at c
  exact c rfl
def sX9_advance_l153 (textSize : Int32) (text : Nat → Int32) (u_0 : Int32) (kont_153 : Int32 → Int32 → Int32 × Int32 × Int32 × Int32) : Nat → Int32 → Int32 → Int32 × Int32 × Int32 × Int32
  | 0, u_153, u2_153 => kont_153 u_153 u2_153
  | kk_153 + 1, u_153, u2_153 =>
    if (sX9_within (sX9_byteAt textSize text u_153) 48 57) = 0 then
      kont_153 u_153 u2_153
    else
      if 4 ≤ (u_153 - u_0) then
        sX9_advance_l153 textSize text u_0 kont_153 kk_153 (u_153 + 1) u2_153
      else
        sX9_advance_l153 textSize text u_0 kont_153 kk_153 (u_153 + 1) (((10 * u2_153) + (sX9_byteAt textSize text u_153)) - 48)
theorem sX9_advance_l153_s (textSize : Int32) (text : Nat → Int32) (u_0 : Int32) (kont_153 : Int32 → Int32 → Int32 × Int32 × Int32 × Int32) (kk_153 : Nat) (u_153 : Int32) (u2_153 : Int32) : sX9_advance_l153 textSize text u_0 kont_153 (kk_153 + 1) u_153 u2_153 =
    if (sX9_within (sX9_byteAt textSize text u_153) 48 57) = 0 then
      kont_153 u_153 u2_153
    else
      if 4 ≤ (u_153 - u_0) then
        sX9_advance_l153 textSize text u_0 kont_153 kk_153 (u_153 + 1) u2_153
      else
        sX9_advance_l153 textSize text u_0 kont_153 kk_153 (u_153 + 1) (((10 * u2_153) + (sX9_byteAt textSize text u_153)) - 48) := rfl
def sX9_advance_l85 (textSize : Int32) (text : Nat → Int32) (kont_85 : Int32 → Int32 × Int32 × Int32 × Int32) : Nat → Int32 → Int32 × Int32 × Int32 × Int32
  | 0, u_85 => kont_85 u_85
  | kk_85 + 1, u_85 =>
    if (sX9_within (sX9_byteAt textSize text u_85) 97 122) = 0 then
      kont_85 u_85
    else
      sX9_advance_l85 textSize text kont_85 kk_85 (u_85 + 1)
theorem sX9_advance_l85_s (textSize : Int32) (text : Nat → Int32) (kont_85 : Int32 → Int32 × Int32 × Int32 × Int32) (kk_85 : Nat) (u_85 : Int32) : sX9_advance_l85 textSize text kont_85 (kk_85 + 1) u_85 =
    if (sX9_within (sX9_byteAt textSize text u_85) 97 122) = 0 then
      kont_85 u_85
    else
      sX9_advance_l85 textSize text kont_85 kk_85 (u_85 + 1) := rfl
def sX9_advance_l0 (textSize : Int32) (text : Nat → Int32) (kont_0 : Int32 → Int32 × Int32 × Int32 × Int32) : Nat → Int32 → Int32 × Int32 × Int32 × Int32
  | 0, u_0 => kont_0 u_0
  | kk_0 + 1, u_0 =>
    if (sX9_byteAt textSize text u_0) = 32 then
      sX9_advance_l0 textSize text kont_0 kk_0 (u_0 + 1)
    else
      if (sX9_byteAt textSize text u_0) = 10 then
        sX9_advance_l0 textSize text kont_0 kk_0 (u_0 + 1)
      else
        kont_0 u_0
theorem sX9_advance_l0_s (textSize : Int32) (text : Nat → Int32) (kont_0 : Int32 → Int32 × Int32 × Int32 × Int32) (kk_0 : Nat) (u_0 : Int32) : sX9_advance_l0 textSize text kont_0 (kk_0 + 1) u_0 =
    if (sX9_byteAt textSize text u_0) = 32 then
      sX9_advance_l0 textSize text kont_0 kk_0 (u_0 + 1)
    else
      if (sX9_byteAt textSize text u_0) = 10 then
        sX9_advance_l0 textSize text kont_0 kk_0 (u_0 + 1)
      else
        kont_0 u_0 := rfl
def sX9_advance (textSize : Int32) (next : Int32) (text : Nat → Int32) : Int32 × Int32 × Int32 × Int32 :=
  sX9_advance_l0 textSize text (fun (u_0 : Int32) => if (sX9_byteAt textSize text u_0) = (-1) then (u_0, u_0, 0, 0) else if (sX9_within (sX9_byteAt textSize text u_0) 97 122) = 0 then if (sX9_within (sX9_byteAt textSize text u_0) 48 57) = 0 then if (sX9_byteAt textSize text u_0) = 59 then (u_0, u_0 + 1, 3, 0) else (u_0, u_0 + 1, 4, 0) else sX9_advance_l153 textSize text u_0 (fun (u_153 : Int32) (u2_153 : Int32) => if (u_153 - u_0) ≤ 4 then (u_0, u_153, 2, u2_153) else (u_0, u_153, 4, u2_153)) (xMu textSize u_0 + 1) u_0 0 else sX9_advance_l85 textSize text (fun (u_85 : Int32) => if (u_85 - u_0) ≤ 8 then (u_0, u_85, 1, 0) else (u_0, u_85, 4, 0)) (xMu textSize u_0 + 1) u_0) (xMu textSize next + 1) next
theorem hdX9_advance : yX9_advance.cls = RX9 ∧ yX9_advance.cls ≠ "java/lang/invoke/MethodHandle" ∧ yX9_advance.cls ≠ "java/lang/invoke/VarHandle" ∧ (parseMethodDescriptor yX9_advance.desc).map (fun d => d.parameters.length) = some 0 := by decide +kernel
set_option maxHeartbeats 4000000 in
set_option maxRecDepth 100000 in
theorem kX9_advance (l : Launch) (E : XE) (h : Nat) (thrown : Int32) (nw : Nat) (td : Nat) (tx : Nat) (length : Int32) (textSize : Int32) (start : Int32) (next : Int32) (token : Int32) (value : Int32) (error : Int32) (errorAt : Int32) (seen : Int32) (triedWith : Int32) (rr : Nat) (ss : Nat) (tr : Nat) (wa : Nat) (undos : Int32) (ud : Nat) (sl : Nat) (sv : Nat) (text : Nat → Int32) (hq : xNx textSize next) : xW (T := Int32 × Int32 × Int32 × Int32) l yX9_advance wsX9_advance ({ frames := 1, cells := 0, slots := 0, locals := 22 }) E [(h, .inr (9, [.int thrown, .ref nw, .ref td, .ref tx, .int length, .int textSize, .int start, .int next, .int token, .int value, .int error, .int errorAt, .int seen, .int triedWith, .ref rr, .ref ss, .ref tr, .ref wa, .int undos, .ref ud, .ref sl, .ref sv])), (tx, .inl (E.2.2.1, 500, .inl text))] [.ref h] (fun _ => none) (fun q => [(h, .inr (9, [.int thrown, .ref nw, .ref td, .ref tx, .int length, .int textSize, .int q.1, .int q.2.1, .int q.2.2.1, .int q.2.2.2, .int error, .int errorAt, .int seen, .int triedWith, .ref rr, .ref ss, .ref tr, .ref wa, .int undos, .ref ud, .ref sl, .ref sv])), (tx, .inl (E.2.2.1, 500, .inl text))]) (sX9_advance textSize next text) 0 0 := by
  refine xW.of (cc := cX9_advance) (maxL := 2) (ret := none) (by decide) rfl (Nat.le_of_ble_eq_true rfl) ?_
  intro p e s m args below meth c ls A hM hE hP hD hS hA hl
  obtain ⟨hx, hb, hr, hml, hts, hown, hlk, hnm⟩ := hM
  have g_1 : (Cond.fieldLink RX9 72 "RailPendulumModel" "next" "I").before args s = true := hts (Cond.fieldLink RX9 72 "RailPendulumModel" "next" "I") (by decide +kernel)
  have g_2 : ∀ w ∈ wsX90, w ∈ wsX9_advance := by decide +kernel
  have g_3 : (Cond.fieldLink RX9 79 "RailPendulumModel" "start" "I").before args s = true := hts (Cond.fieldLink RX9 79 "RailPendulumModel" "start" "I") (by decide +kernel)
  have g_4 : (Cond.fieldLink RX9 82 "RailPendulumModel" "value" "I").before args s = true := hts (Cond.fieldLink RX9 82 "RailPendulumModel" "value" "I") (by decide +kernel)
  have g_5 : (Cond.fieldLink RX9 85 "RailPendulumModel" "token" "I").before args s = true := hts (Cond.fieldLink RX9 85 "RailPendulumModel" "token" "I") (by decide +kernel)
  have hX : xD A [h, tx] := xD.of hD rfl
  have hl : lv_has ls 2 [(0, .ref h)] := hl
  have ex_0 : ∀ (u_0 : Int32), (xNx textSize u_0) → ∀ (H : Heap) (locs : List Loc), va_P E.1 vwCl [(h, .inr (9, [.int thrown, .ref nw, .ref td, .ref tx, .int length, .int textSize, .int start, .int u_0, .int token, .int value, .int error, .int errorAt, .int seen, .int triedWith, .ref rr, .ref ss, .ref tr, .ref wa, .int undos, .ref ud, .ref sl, .ref sv])), (tx, .inl (E.2.2.1, 500, .inl text))] H → va_S A s.heap H locs → ∀ (ls : Array Slot), lv_has ls 2 [(0, .ref h)] → (sX9_advance textSize next text) = (if (sX9_byteAt textSize text u_0) = (-1) then (u_0, u_0, 0, 0) else if (sX9_within (sX9_byteAt textSize text u_0) 97 122) = 0 then if (sX9_within (sX9_byteAt textSize text u_0) 48 57) = 0 then if (sX9_byteAt textSize text u_0) = 59 then (u_0, u_0 + 1, 3, 0) else (u_0, u_0 + 1, 4, 0) else sX9_advance_l153 textSize text u_0 (fun (u_153 : Int32) (u2_153 : Int32) => if (u_153 - u_0) ≤ 4 then (u_0, u_153, 2, u2_153) else (u_0, u_153, 4, u2_153)) (xMu textSize u_0 + 1) u_0 0 else sX9_advance_l85 textSize text (fun (u_85 : Int32) => if (u_85 - u_0) ≤ 8 then (u_0, u_85, 1, 0) else (u_0, u_85, 4, 0)) (xMu textSize u_0 + 1) u_0 : Int32 × Int32 × Int32 × Int32) → W p l e ({ frames := 1, cells := 0, slots := 0, locals := 22 }) s m args below meth c H locs 0 0 (MQ below (xO (T := Int32 × Int32 × Int32 × Int32) E A (fun _ => none) (fun q => [(h, .inr (9, [.int thrown, .ref nw, .ref td, .ref tx, .int length, .int textSize, .int q.1, .int q.2.1, .int q.2.2.1, .int q.2.2.2, .int error, .int errorAt, .int seen, .int triedWith, .ref rr, .ref ss, .ref tr, .ref wa, .int undos, .ref ud, .ref sl, .ref sv])), (tx, .inl (E.2.2.1, 500, .inl text))]) (sX9_advance textSize next text)) args s 0 0 A) (F0 m 39 ls []) := by
    intro u_0 hu_0 H locs hP hS ls hl hx_0
    refine lv_aload_n hx hb dX9_advance_39 rfl (lv_at hl 0 rfl) ?_
    refine lv_aload_n hx hb dX9_advance_40 rfl (lv_at hl 0 rfl) ?_
    refine va_get (D := E.1) (ci := 9) (v := .int u_0) (C := RX9) (T := TX9) (N := 22) hx hb hts g_2 hown hE.1 hP 0 rfl rfl 7 (by decide) g_1 (fun _ h9 => h9) rfl dX9_advance_41 ?_
    refine va_put (D := E.1) (ci := 9) (v := .int u_0) (ty := .int) (C := RX9) (T := TX9) (N := 22) hx hb hts g_2 tyX9 tyX9_ok nmX9 hown hE.1 hP (hX.d rfl) hS 0 rfl rfl 6 (by decide) g_3 (fun _ h9 => h9) rfl (by decide +kernel) rfl rfl (Nat.le_of_ble_eq_true rfl) dX9_advance_44 (fun H locs hP _ hS => ?_)
    have hP : va_P E.1 vwCl [(h, .inr (9, [.int thrown, .ref nw, .ref td, .ref tx, .int length, .int textSize, .int u_0, .int u_0, .int token, .int value, .int error, .int errorAt, .int seen, .int triedWith, .ref rr, .ref ss, .ref tr, .ref wa, .int undos, .ref ud, .ref sl, .ref sv])), (tx, .inl (E.2.2.1, 500, .inl text))] H := hP
    refine lv_aload_n hx hb dX9_advance_47 rfl (lv_at hl 0 rfl) ?_
    refine lv_iconst (v := 0) hx hb dX9_advance_48 (by decide) ?_
    refine va_put (D := E.1) (ci := 9) (v := .int 0) (ty := .int) (C := RX9) (T := TX9) (N := 22) hx hb hts g_2 tyX9 tyX9_ok nmX9 hown hE.1 hP (hX.d rfl) hS 0 rfl rfl 9 (by decide) g_4 (fun _ h9 => h9) rfl (by decide +kernel) rfl rfl (Nat.le_of_ble_eq_true rfl) dX9_advance_49 (fun H locs hP _ hS => ?_)
    have hP : va_P E.1 vwCl [(h, .inr (9, [.int thrown, .ref nw, .ref td, .ref tx, .int length, .int textSize, .int u_0, .int u_0, .int token, .int 0, .int error, .int errorAt, .int seen, .int triedWith, .ref rr, .ref ss, .ref tr, .ref wa, .int undos, .ref ud, .ref sl, .ref sv])), (tx, .inl (E.2.2.1, 500, .inl text))] H := hP
    refine lv_aload_n hx hb dX9_advance_52 rfl (lv_at hl 0 rfl) ?_
    refine lv_aload_n hx hb dX9_advance_53 rfl (lv_at hl 0 rfl) ?_
    refine va_get (D := E.1) (ci := 9) (v := .int u_0) (C := RX9) (T := TX9) (N := 22) hx hb hts g_2 hown hE.1 hP 0 rfl rfl 7 (by decide) g_1 (fun _ h9 => h9) rfl dX9_advance_54 ?_
    refine x_rV [.int u_0] (kX9_byteAt l E h thrown nw td tx length textSize u_0 u_0 token 0 error errorAt seen triedWith rr ss tr wa undos ud sl sv text u_0 (xNx.a hu_0) (xNx.b hu_0)) ⟨hx, hb, hml, hown, hts⟩ (cwV 1 hts gX9_advance_X9_byteAt rfl rfl rfl hdX9_byteAt ⟨Nat.le_of_ble_eq_true rfl, Nat.le_of_ble_eq_true rfl⟩) hE hP (hX.d rfl) [0, 1] rfl rfl (ci := 9) (q0 := 0) rfl rfl rfl hl.1 rfl rfl (Nat.le_of_ble_eq_true rfl) dX9_advance_57 (Nat.le_of_ble_eq_true rfl) (Nat.le_of_ble_eq_true rfl) ?_
    refine lv_istore_n (lv' := [(1, .int (sX9_byteAt textSize text u_0)), (0, .ref h)]) hx hb dX9_advance_60 rfl hl (by decide) rfl (fun ls hl => ?_)
    refine lv_iload_n hx hb dX9_advance_61 rfl (lv_at hl 0 rfl) ?_
    refine lv_iconst (v := (-1)) hx hb dX9_advance_62 (by decide) ?_
    refine lv_icmp_ne (tgt := 74) hx hb dX9_advance_63 (by decide) (fun c_1 => ?_) (fun c_1 => ?_)
    · refine lv_iload_n hx hb dX9_advance_74 rfl (lv_at hl 0 rfl) ?_
      refine lv_bipush (v := 97) hx hb dX9_advance_75 (by decide) ?_
      refine lv_bipush (v := 122) hx hb dX9_advance_77 (by decide) ?_
      refine x_rS [.int (sX9_byteAt textSize text u_0), .int 97, .int 122] (kX9_within l E (sX9_byteAt textSize text u_0) 97 122) ⟨hx, hb, hml, hown, hts⟩ (va_cwS 3 hts gX9_advance_X9_within rfl rfl rfl hdX9_within.2 ⟨Nat.le_of_ble_eq_true rfl, Nat.le_of_ble_eq_true rfl⟩) hE hP (hX.d rfl) [] rfl rfl hl.1 rfl rfl (Nat.le_of_ble_eq_true rfl) dX9_advance_79 (Nat.le_of_ble_eq_true rfl) (Nat.le_of_ble_eq_true rfl) ?_
      refine lv_if_eq (tgt := 142) hx hb dX9_advance_82 (by decide) (fun c_2 => ?_) (fun c_2 => ?_)
      · refine lv_iload_n hx hb dX9_advance_142 rfl (lv_at hl 0 rfl) ?_
        refine lv_bipush (v := 48) hx hb dX9_advance_143 (by decide) ?_
        refine lv_bipush (v := 57) hx hb dX9_advance_145 (by decide) ?_
        refine x_rS [.int (sX9_byteAt textSize text u_0), .int 48, .int 57] (kX9_within l E (sX9_byteAt textSize text u_0) 48 57) ⟨hx, hb, hml, hown, hts⟩ (va_cwS 3 hts gX9_advance_X9_within rfl rfl rfl hdX9_within.2 ⟨Nat.le_of_ble_eq_true rfl, Nat.le_of_ble_eq_true rfl⟩) hE hP (hX.d rfl) [] rfl rfl hl.1 rfl rfl (Nat.le_of_ble_eq_true rfl) dX9_advance_147 (Nat.le_of_ble_eq_true rfl) (Nat.le_of_ble_eq_true rfl) ?_
        refine lv_if_eq (tgt := 252) hx hb dX9_advance_150 (by decide) (fun c_3 => ?_) (fun c_3 => ?_)
        · refine lv_aload_n hx hb dX9_advance_252 rfl (lv_at hl 1 rfl) ?_
          refine lv_dup hx hb dX9_advance_253 rfl ?_
          refine va_get (D := E.1) (ci := 9) (v := .int u_0) (C := RX9) (T := TX9) (N := 22) hx hb hts g_2 hown hE.1 hP 0 rfl rfl 7 (by decide) g_1 (fun _ h9 => h9) rfl dX9_advance_254 ?_
          refine lv_iconst (v := 1) hx hb dX9_advance_257 (by decide) ?_
          refine lv_iadd hx hb dX9_advance_258 ?_
          refine va_put (D := E.1) (ci := 9) (v := .int (u_0 + 1)) (ty := .int) (C := RX9) (T := TX9) (N := 22) hx hb hts g_2 tyX9 tyX9_ok nmX9 hown hE.1 hP (hX.d rfl) hS 0 rfl rfl 7 (by decide) g_1 (fun _ h9 => h9) rfl (by decide +kernel) rfl rfl (Nat.le_of_ble_eq_true rfl) dX9_advance_259 (fun H locs hP _ hS => ?_)
          have hP : va_P E.1 vwCl [(h, .inr (9, [.int thrown, .ref nw, .ref td, .ref tx, .int length, .int textSize, .int u_0, .int (u_0 + 1), .int token, .int 0, .int error, .int errorAt, .int seen, .int triedWith, .ref rr, .ref ss, .ref tr, .ref wa, .int undos, .ref ud, .ref sl, .ref sv])), (tx, .inl (E.2.2.1, 500, .inl text))] H := hP
          refine lv_aload_n hx hb dX9_advance_262 rfl (lv_at hl 1 rfl) ?_
          refine lv_iload_n hx hb dX9_advance_263 rfl (lv_at hl 0 rfl) ?_
          refine lv_bipush (v := 59) hx hb dX9_advance_264 (by decide) ?_
          refine lv_icmp_ne (tgt := 273) hx hb dX9_advance_266 (by decide) (fun c_4 => ?_) (fun c_4 => ?_)
          · refine lv_iconst (v := 4) hx hb dX9_advance_273 (by decide) ?_
            refine va_put (D := E.1) (ci := 9) (v := .int 4) (ty := .int) (C := RX9) (T := TX9) (N := 22) hx hb hts g_2 tyX9 tyX9_ok nmX9 hown hE.1 hP (hX.d rfl) hS 0 rfl rfl 8 (by decide) g_5 (fun _ h9 => h9) rfl (by decide +kernel) rfl rfl (Nat.le_of_ble_eq_true rfl) dX9_advance_274 (fun H locs hP _ hS => ?_)
            have hP : va_P E.1 vwCl [(h, .inr (9, [.int thrown, .ref nw, .ref td, .ref tx, .int length, .int textSize, .int u_0, .int (u_0 + 1), .int 4, .int 0, .int error, .int errorAt, .int seen, .int triedWith, .ref rr, .ref ss, .ref tr, .ref wa, .int undos, .ref ud, .ref sl, .ref sv])), (tx, .inl (E.2.2.1, 500, .inl text))] H := hP
            exact x_wv (u_0, u_0 + 1, 4, 0) (by rw [hx_0]; rw [if_neg c_1]; rw [if_pos c_2]; rw [if_pos c_3]; rw [if_neg c_4]; try rfl) rfl hx hb hr hlk hS hP (hX.d rfl) [0, 1] rfl rfl (Nat.le_of_ble_eq_true rfl) (Nat.le_of_ble_eq_true rfl) dX9_advance_277
          · refine lv_iconst (v := 3) hx hb dX9_advance_269 (by decide) ?_
            refine lv_goto (tgt := 274) hx hb dX9_advance_270 (by decide) ?_
            refine va_put (D := E.1) (ci := 9) (v := .int 3) (ty := .int) (C := RX9) (T := TX9) (N := 22) hx hb hts g_2 tyX9 tyX9_ok nmX9 hown hE.1 hP (hX.d rfl) hS 0 rfl rfl 8 (by decide) g_5 (fun _ h9 => h9) rfl (by decide +kernel) rfl rfl (Nat.le_of_ble_eq_true rfl) dX9_advance_274 (fun H locs hP _ hS => ?_)
            have hP : va_P E.1 vwCl [(h, .inr (9, [.int thrown, .ref nw, .ref td, .ref tx, .int length, .int textSize, .int u_0, .int (u_0 + 1), .int 3, .int 0, .int error, .int errorAt, .int seen, .int triedWith, .ref rr, .ref ss, .ref tr, .ref wa, .int undos, .ref ud, .ref sl, .ref sv])), (tx, .inl (E.2.2.1, 500, .inl text))] H := hP
            exact x_wv (u_0, u_0 + 1, 3, 0) (by rw [hx_0]; rw [if_neg c_1]; rw [if_pos c_2]; rw [if_pos c_3]; rw [if_pos c_4]; try rfl) rfl hx hb hr hlk hS hP (hX.d rfl) [0, 1] rfl rfl (Nat.le_of_ble_eq_true rfl) (Nat.le_of_ble_eq_true rfl) dX9_advance_277
        · have ex_153 : ∀ (u_153 : Int32) (u2_153 : Int32), (xNx textSize u_153) → ∀ (H : Heap) (locs : List Loc), va_P E.1 vwCl [(h, .inr (9, [.int thrown, .ref nw, .ref td, .ref tx, .int length, .int textSize, .int u_0, .int u_153, .int token, .int u2_153, .int error, .int errorAt, .int seen, .int triedWith, .ref rr, .ref ss, .ref tr, .ref wa, .int undos, .ref ud, .ref sl, .ref sv])), (tx, .inl (E.2.2.1, 500, .inl text))] H → va_S A s.heap H locs → ∀ (ls : Array Slot), lv_has ls 2 [(0, .ref h), (1, .int (sX9_byteAt textSize text u_0))] → (sX9_advance textSize next text) = (if (u_153 - u_0) ≤ 4 then (u_0, u_153, 2, u2_153) else (u_0, u_153, 4, u2_153) : Int32 × Int32 × Int32 × Int32) → W p l e ({ frames := 1, cells := 0, slots := 0, locals := 22 }) s m args below meth c H locs 0 0 (MQ below (xO (T := Int32 × Int32 × Int32 × Int32) E A (fun _ => none) (fun q => [(h, .inr (9, [.int thrown, .ref nw, .ref td, .ref tx, .int length, .int textSize, .int q.1, .int q.2.1, .int q.2.2.1, .int q.2.2.2, .int error, .int errorAt, .int seen, .int triedWith, .ref rr, .ref ss, .ref tr, .ref wa, .int undos, .ref ud, .ref sl, .ref sv])), (tx, .inl (E.2.2.1, 500, .inl text))]) (sX9_advance textSize next text)) args s 0 0 A) (F0 m 227 ls []) := by
            intro u_153 u2_153 hu_153 H locs hP hS ls hl hx_153
            refine lv_aload_n hx hb dX9_advance_227 rfl (lv_at hl 0 rfl) ?_
            refine lv_aload_n hx hb dX9_advance_228 rfl (lv_at hl 0 rfl) ?_
            refine va_get (D := E.1) (ci := 9) (v := .int u_153) (C := RX9) (T := TX9) (N := 22) hx hb hts g_2 hown hE.1 hP 0 rfl rfl 7 (by decide) g_1 (fun _ h9 => h9) rfl dX9_advance_229 ?_
            refine lv_aload_n hx hb dX9_advance_232 rfl (lv_at hl 0 rfl) ?_
            refine va_get (D := E.1) (ci := 9) (v := .int u_0) (C := RX9) (T := TX9) (N := 22) hx hb hts g_2 hown hE.1 hP 0 rfl rfl 6 (by decide) g_3 (fun _ h9 => h9) rfl dX9_advance_233 ?_
            refine lv_isub hx hb dX9_advance_236 ?_
            refine lv_iconst (v := 4) hx hb dX9_advance_237 (by decide) ?_
            refine lv_icmp_le (tgt := 245) hx hb dX9_advance_238 (by decide) (fun c_5 => ?_) (fun c_5 => ?_)
            · refine lv_iconst (v := 2) hx hb dX9_advance_245 (by decide) ?_
              refine va_put (D := E.1) (ci := 9) (v := .int 2) (ty := .int) (C := RX9) (T := TX9) (N := 22) hx hb hts g_2 tyX9 tyX9_ok nmX9 hown hE.1 hP (hX.d rfl) hS 0 rfl rfl 8 (by decide) g_5 (fun _ h9 => h9) rfl (by decide +kernel) rfl rfl (Nat.le_of_ble_eq_true rfl) dX9_advance_246 (fun H locs hP _ hS => ?_)
              have hP : va_P E.1 vwCl [(h, .inr (9, [.int thrown, .ref nw, .ref td, .ref tx, .int length, .int textSize, .int u_0, .int u_153, .int 2, .int u2_153, .int error, .int errorAt, .int seen, .int triedWith, .ref rr, .ref ss, .ref tr, .ref wa, .int undos, .ref ud, .ref sl, .ref sv])), (tx, .inl (E.2.2.1, 500, .inl text))] H := hP
              refine lv_goto (tgt := 277) hx hb dX9_advance_249 (by decide) ?_
              exact x_wv (u_0, u_153, 2, u2_153) (by rw [hx_153]; rw [if_pos c_5]; try rfl) rfl hx hb hr hlk hS hP (hX.d rfl) [0, 1] rfl rfl (Nat.le_of_ble_eq_true rfl) (Nat.le_of_ble_eq_true rfl) dX9_advance_277
            · refine lv_iconst (v := 4) hx hb dX9_advance_241 (by decide) ?_
              refine lv_goto (tgt := 246) hx hb dX9_advance_242 (by decide) ?_
              refine va_put (D := E.1) (ci := 9) (v := .int 4) (ty := .int) (C := RX9) (T := TX9) (N := 22) hx hb hts g_2 tyX9 tyX9_ok nmX9 hown hE.1 hP (hX.d rfl) hS 0 rfl rfl 8 (by decide) g_5 (fun _ h9 => h9) rfl (by decide +kernel) rfl rfl (Nat.le_of_ble_eq_true rfl) dX9_advance_246 (fun H locs hP _ hS => ?_)
              have hP : va_P E.1 vwCl [(h, .inr (9, [.int thrown, .ref nw, .ref td, .ref tx, .int length, .int textSize, .int u_0, .int u_153, .int 4, .int u2_153, .int error, .int errorAt, .int seen, .int triedWith, .ref rr, .ref ss, .ref tr, .ref wa, .int undos, .ref ud, .ref sl, .ref sv])), (tx, .inl (E.2.2.1, 500, .inl text))] H := hP
              refine lv_goto (tgt := 277) hx hb dX9_advance_249 (by decide) ?_
              exact x_wv (u_0, u_153, 4, u2_153) (by rw [hx_153]; rw [if_neg c_5]; try rfl) rfl hx hb hr hlk hS hP (hX.d rfl) [0, 1] rfl rfl (Nat.le_of_ble_eq_true rfl) (Nat.le_of_ble_eq_true rfl) dX9_advance_277
          have lp_153 : ∀ (kk_153 : Nat), ∀ (u_153 : Int32) (u2_153 : Int32), (xNx textSize u_153) → (xMu textSize u_153) < kk_153 → ∀ (H : Heap) (locs : List Loc), va_P E.1 vwCl [(h, .inr (9, [.int thrown, .ref nw, .ref td, .ref tx, .int length, .int textSize, .int u_0, .int u_153, .int token, .int u2_153, .int error, .int errorAt, .int seen, .int triedWith, .ref rr, .ref ss, .ref tr, .ref wa, .int undos, .ref ud, .ref sl, .ref sv])), (tx, .inl (E.2.2.1, 500, .inl text))] H → va_S A s.heap H locs → ∀ (ls : Array Slot), lv_has ls 2 [(0, .ref h), (1, .int (sX9_byteAt textSize text u_0))] → (sX9_advance textSize next text) = sX9_advance_l153 textSize text u_0 (fun (u_153 : Int32) (u2_153 : Int32) => if (u_153 - u_0) ≤ 4 then (u_0, u_153, 2, u2_153) else (u_0, u_153, 4, u2_153)) kk_153 u_153 u2_153 → W p l e ({ frames := 1, cells := 0, slots := 0, locals := 22 }) s m args below meth c H locs 0 0 (MQ below (xO (T := Int32 × Int32 × Int32 × Int32) E A (fun _ => none) (fun q => [(h, .inr (9, [.int thrown, .ref nw, .ref td, .ref tx, .int length, .int textSize, .int q.1, .int q.2.1, .int q.2.2.1, .int q.2.2.2, .int error, .int errorAt, .int seen, .int triedWith, .ref rr, .ref ss, .ref tr, .ref wa, .int undos, .ref ud, .ref sl, .ref sv])), (tx, .inl (E.2.2.1, 500, .inl text))]) (sX9_advance textSize next text)) args s 0 0 A) (F0 m 153 ls []) := by
            intro kk_153
            induction kk_153 with
            | zero =>
              intro u_153 u2_153 hu_153 hmu
              exact absurd hmu (Nat.not_lt_zero _)
            | succ kk_153 ih_153 =>
              intro u_153 u2_153 hu_153 hmu H locs hP hS ls hl hlq_153
              refine lv_aload_n hx hb dX9_advance_153 rfl (lv_at hl 0 rfl) ?_
              refine lv_aload_n hx hb dX9_advance_154 rfl (lv_at hl 0 rfl) ?_
              refine va_get (D := E.1) (ci := 9) (v := .int u_153) (C := RX9) (T := TX9) (N := 22) hx hb hts g_2 hown hE.1 hP 0 rfl rfl 7 (by decide) g_1 (fun _ h9 => h9) rfl dX9_advance_155 ?_
              refine x_rV [.int u_153] (kX9_byteAt l E h thrown nw td tx length textSize u_0 u_153 token u2_153 error errorAt seen triedWith rr ss tr wa undos ud sl sv text u_153 (xNx.a hu_153) (xNx.b hu_153)) ⟨hx, hb, hml, hown, hts⟩ (cwV 1 hts gX9_advance_X9_byteAt rfl rfl rfl hdX9_byteAt ⟨Nat.le_of_ble_eq_true rfl, Nat.le_of_ble_eq_true rfl⟩) hE hP (hX.d rfl) [0, 1] rfl rfl (ci := 9) (q0 := 0) rfl rfl rfl hl.1 rfl rfl (Nat.le_of_ble_eq_true rfl) dX9_advance_158 (Nat.le_of_ble_eq_true rfl) (Nat.le_of_ble_eq_true rfl) ?_
              refine lv_bipush (v := 48) hx hb dX9_advance_161 (by decide) ?_
              refine lv_bipush (v := 57) hx hb dX9_advance_163 (by decide) ?_
              refine x_rS [.int (sX9_byteAt textSize text u_153), .int 48, .int 57] (kX9_within l E (sX9_byteAt textSize text u_153) 48 57) ⟨hx, hb, hml, hown, hts⟩ (va_cwS 3 hts gX9_advance_X9_within rfl rfl rfl hdX9_within.2 ⟨Nat.le_of_ble_eq_true rfl, Nat.le_of_ble_eq_true rfl⟩) hE hP (hX.d rfl) [] rfl rfl hl.1 rfl rfl (Nat.le_of_ble_eq_true rfl) dX9_advance_165 (Nat.le_of_ble_eq_true rfl) (Nat.le_of_ble_eq_true rfl) ?_
              refine lv_if_eq (tgt := 227) hx hb dX9_advance_168 (by decide) (fun c_6 => ?_) (fun c_6 => ?_)
              · exact ex_153 u_153 u2_153 hu_153 _ _ hP hS ls (lv_sub hl [0, 1] rfl) (by rw [hlq_153]; rw [sX9_advance_l153_s]; rw [if_pos c_6]; try rfl)
              · refine lv_aload_n hx hb dX9_advance_171 rfl (lv_at hl 0 rfl) ?_
                refine lv_aload_n hx hb dX9_advance_172 rfl (lv_at hl 0 rfl) ?_
                refine va_get (D := E.1) (ci := 9) (v := .int u_153) (C := RX9) (T := TX9) (N := 22) hx hb hts g_2 hown hE.1 hP 0 rfl rfl 7 (by decide) g_1 (fun _ h9 => h9) rfl dX9_advance_173 ?_
                refine lv_aload_n hx hb dX9_advance_176 rfl (lv_at hl 0 rfl) ?_
                refine va_get (D := E.1) (ci := 9) (v := .int u_0) (C := RX9) (T := TX9) (N := 22) hx hb hts g_2 hown hE.1 hP 0 rfl rfl 6 (by decide) g_3 (fun _ h9 => h9) rfl dX9_advance_177 ?_
                refine lv_isub hx hb dX9_advance_180 ?_
                refine lv_iconst (v := 4) hx hb dX9_advance_181 (by decide) ?_
                refine lv_icmp_ge (tgt := 207) hx hb dX9_advance_182 (by decide) (fun c_7 => ?_) (fun c_7 => ?_)
                · refine lv_aload_n hx hb dX9_advance_207 rfl (lv_at hl 0 rfl) ?_
                  refine va_get (D := E.1) (ci := 9) (v := .int u2_153) (C := RX9) (T := TX9) (N := 22) hx hb hts g_2 hown hE.1 hP 0 rfl rfl 9 (by decide) g_4 (fun _ h9 => h9) rfl dX9_advance_208 ?_
                  refine va_put (D := E.1) (ci := 9) (v := .int u2_153) (ty := .int) (C := RX9) (T := TX9) (N := 22) hx hb hts g_2 tyX9 tyX9_ok nmX9 hown hE.1 hP (hX.d rfl) hS 0 rfl rfl 9 (by decide) g_4 (fun _ h9 => h9) rfl (by decide +kernel) rfl rfl (Nat.le_of_ble_eq_true rfl) dX9_advance_211 (fun H locs hP _ hS => ?_)
                  have hP : va_P E.1 vwCl [(h, .inr (9, [.int thrown, .ref nw, .ref td, .ref tx, .int length, .int textSize, .int u_0, .int u_153, .int token, .int u2_153, .int error, .int errorAt, .int seen, .int triedWith, .ref rr, .ref ss, .ref tr, .ref wa, .int undos, .ref ud, .ref sl, .ref sv])), (tx, .inl (E.2.2.1, 500, .inl text))] H := hP
                  refine lv_aload_n hx hb dX9_advance_214 rfl (lv_at hl 0 rfl) ?_
                  refine lv_dup hx hb dX9_advance_215 rfl ?_
                  refine va_get (D := E.1) (ci := 9) (v := .int u_153) (C := RX9) (T := TX9) (N := 22) hx hb hts g_2 hown hE.1 hP 0 rfl rfl 7 (by decide) g_1 (fun _ h9 => h9) rfl dX9_advance_216 ?_
                  refine lv_iconst (v := 1) hx hb dX9_advance_219 (by decide) ?_
                  refine lv_iadd hx hb dX9_advance_220 ?_
                  refine va_put (D := E.1) (ci := 9) (v := .int (u_153 + 1)) (ty := .int) (C := RX9) (T := TX9) (N := 22) hx hb hts g_2 tyX9 tyX9_ok nmX9 hown hE.1 hP (hX.d rfl) hS 0 rfl rfl 7 (by decide) g_1 (fun _ h9 => h9) rfl (by decide +kernel) rfl rfl (Nat.le_of_ble_eq_true rfl) dX9_advance_221 (fun H locs hP _ hS => ?_)
                  have hP : va_P E.1 vwCl [(h, .inr (9, [.int thrown, .ref nw, .ref td, .ref tx, .int length, .int textSize, .int u_0, .int (u_153 + 1), .int token, .int u2_153, .int error, .int errorAt, .int seen, .int triedWith, .ref rr, .ref ss, .ref tr, .ref wa, .int undos, .ref ud, .ref sl, .ref sv])), (tx, .inl (E.2.2.1, 500, .inl text))] H := hP
                  refine lv_goto (tgt := 153) hx hb dX9_advance_224 (by decide) ?_
                  exact ih_153 (u_153 + 1) u2_153 (xNx.s hu_153 (x_byteW c_6 (by decide))) (x_muN (x_byteW c_6 (by decide)) hmu) _ _ hP hS ls (lv_sub hl [0, 1] rfl) (by rw [hlq_153]; rw [sX9_advance_l153_s]; rw [if_neg c_6]; rw [if_pos c_7]; try rfl)
                · refine lv_bipush (v := 10) hx hb dX9_advance_185 (by decide) ?_
                  refine lv_aload_n hx hb dX9_advance_187 rfl (lv_at hl 0 rfl) ?_
                  refine va_get (D := E.1) (ci := 9) (v := .int u2_153) (C := RX9) (T := TX9) (N := 22) hx hb hts g_2 hown hE.1 hP 0 rfl rfl 9 (by decide) g_4 (fun _ h9 => h9) rfl dX9_advance_188 ?_
                  refine lv_imul hx hb dX9_advance_191 ?_
                  refine lv_aload_n hx hb dX9_advance_192 rfl (lv_at hl 0 rfl) ?_
                  refine lv_aload_n hx hb dX9_advance_193 rfl (lv_at hl 0 rfl) ?_
                  refine va_get (D := E.1) (ci := 9) (v := .int u_153) (C := RX9) (T := TX9) (N := 22) hx hb hts g_2 hown hE.1 hP 0 rfl rfl 7 (by decide) g_1 (fun _ h9 => h9) rfl dX9_advance_194 ?_
                  refine x_rV [.int u_153] (kX9_byteAt l E h thrown nw td tx length textSize u_0 u_153 token u2_153 error errorAt seen triedWith rr ss tr wa undos ud sl sv text u_153 (xNx.a hu_153) (xNx.b hu_153)) ⟨hx, hb, hml, hown, hts⟩ (cwV 1 hts gX9_advance_X9_byteAt rfl rfl rfl hdX9_byteAt ⟨Nat.le_of_ble_eq_true rfl, Nat.le_of_ble_eq_true rfl⟩) hE hP (hX.d rfl) [0, 1] rfl rfl (ci := 9) (q0 := 0) rfl rfl rfl hl.1 rfl rfl (Nat.le_of_ble_eq_true rfl) dX9_advance_197 (Nat.le_of_ble_eq_true rfl) (Nat.le_of_ble_eq_true rfl) ?_
                  refine lv_iadd hx hb dX9_advance_200 ?_
                  refine lv_bipush (v := 48) hx hb dX9_advance_201 (by decide) ?_
                  refine lv_isub hx hb dX9_advance_203 ?_
                  refine lv_goto (tgt := 211) hx hb dX9_advance_204 (by decide) ?_
                  refine va_put (D := E.1) (ci := 9) (v := .int (((10 * u2_153) + (sX9_byteAt textSize text u_153)) - 48)) (ty := .int) (C := RX9) (T := TX9) (N := 22) hx hb hts g_2 tyX9 tyX9_ok nmX9 hown hE.1 hP (hX.d rfl) hS 0 rfl rfl 9 (by decide) g_4 (fun _ h9 => h9) rfl (by decide +kernel) rfl rfl (Nat.le_of_ble_eq_true rfl) dX9_advance_211 (fun H locs hP _ hS => ?_)
                  have hP : va_P E.1 vwCl [(h, .inr (9, [.int thrown, .ref nw, .ref td, .ref tx, .int length, .int textSize, .int u_0, .int u_153, .int token, .int (((10 * u2_153) + (sX9_byteAt textSize text u_153)) - 48), .int error, .int errorAt, .int seen, .int triedWith, .ref rr, .ref ss, .ref tr, .ref wa, .int undos, .ref ud, .ref sl, .ref sv])), (tx, .inl (E.2.2.1, 500, .inl text))] H := hP
                  refine lv_aload_n hx hb dX9_advance_214 rfl (lv_at hl 0 rfl) ?_
                  refine lv_dup hx hb dX9_advance_215 rfl ?_
                  refine va_get (D := E.1) (ci := 9) (v := .int u_153) (C := RX9) (T := TX9) (N := 22) hx hb hts g_2 hown hE.1 hP 0 rfl rfl 7 (by decide) g_1 (fun _ h9 => h9) rfl dX9_advance_216 ?_
                  refine lv_iconst (v := 1) hx hb dX9_advance_219 (by decide) ?_
                  refine lv_iadd hx hb dX9_advance_220 ?_
                  refine va_put (D := E.1) (ci := 9) (v := .int (u_153 + 1)) (ty := .int) (C := RX9) (T := TX9) (N := 22) hx hb hts g_2 tyX9 tyX9_ok nmX9 hown hE.1 hP (hX.d rfl) hS 0 rfl rfl 7 (by decide) g_1 (fun _ h9 => h9) rfl (by decide +kernel) rfl rfl (Nat.le_of_ble_eq_true rfl) dX9_advance_221 (fun H locs hP _ hS => ?_)
                  have hP : va_P E.1 vwCl [(h, .inr (9, [.int thrown, .ref nw, .ref td, .ref tx, .int length, .int textSize, .int u_0, .int (u_153 + 1), .int token, .int (((10 * u2_153) + (sX9_byteAt textSize text u_153)) - 48), .int error, .int errorAt, .int seen, .int triedWith, .ref rr, .ref ss, .ref tr, .ref wa, .int undos, .ref ud, .ref sl, .ref sv])), (tx, .inl (E.2.2.1, 500, .inl text))] H := hP
                  refine lv_goto (tgt := 153) hx hb dX9_advance_224 (by decide) ?_
                  exact ih_153 (u_153 + 1) (((10 * u2_153) + (sX9_byteAt textSize text u_153)) - 48) (xNx.s hu_153 (x_byteW c_6 (by decide))) (x_muN (x_byteW c_6 (by decide)) hmu) _ _ hP hS ls (lv_sub hl [0, 1] rfl) (by rw [hlq_153]; rw [sX9_advance_l153_s]; rw [if_neg c_6]; rw [if_neg c_7]; try rfl)
          exact lp_153 (xMu textSize u_0 + 1) u_0 0 hu_0 (Nat.lt_succ_self _) _ _ hP hS ls (lv_sub hl [1, 0] rfl) (by rw [hx_0]; rw [if_neg c_1]; rw [if_pos c_2]; rw [if_neg c_3]; try rfl)
      · have ex_85 : ∀ (u_85 : Int32), (xNx textSize u_85) → ∀ (H : Heap) (locs : List Loc), va_P E.1 vwCl [(h, .inr (9, [.int thrown, .ref nw, .ref td, .ref tx, .int length, .int textSize, .int u_0, .int u_85, .int token, .int 0, .int error, .int errorAt, .int seen, .int triedWith, .ref rr, .ref ss, .ref tr, .ref wa, .int undos, .ref ud, .ref sl, .ref sv])), (tx, .inl (E.2.2.1, 500, .inl text))] H → va_S A s.heap H locs → ∀ (ls : Array Slot), lv_has ls 2 [(0, .ref h), (1, .int (sX9_byteAt textSize text u_0))] → (sX9_advance textSize next text) = (if (u_85 - u_0) ≤ 8 then (u_0, u_85, 1, 0) else (u_0, u_85, 4, 0) : Int32 × Int32 × Int32 × Int32) → W p l e ({ frames := 1, cells := 0, slots := 0, locals := 22 }) s m args below meth c H locs 0 0 (MQ below (xO (T := Int32 × Int32 × Int32 × Int32) E A (fun _ => none) (fun q => [(h, .inr (9, [.int thrown, .ref nw, .ref td, .ref tx, .int length, .int textSize, .int q.1, .int q.2.1, .int q.2.2.1, .int q.2.2.2, .int error, .int errorAt, .int seen, .int triedWith, .ref rr, .ref ss, .ref tr, .ref wa, .int undos, .ref ud, .ref sl, .ref sv])), (tx, .inl (E.2.2.1, 500, .inl text))]) (sX9_advance textSize next text)) args s 0 0 A) (F0 m 116 ls []) := by
          intro u_85 hu_85 H locs hP hS ls hl hx_85
          refine lv_aload_n hx hb dX9_advance_116 rfl (lv_at hl 0 rfl) ?_
          refine lv_aload_n hx hb dX9_advance_117 rfl (lv_at hl 0 rfl) ?_
          refine va_get (D := E.1) (ci := 9) (v := .int u_85) (C := RX9) (T := TX9) (N := 22) hx hb hts g_2 hown hE.1 hP 0 rfl rfl 7 (by decide) g_1 (fun _ h9 => h9) rfl dX9_advance_118 ?_
          refine lv_aload_n hx hb dX9_advance_121 rfl (lv_at hl 0 rfl) ?_
          refine va_get (D := E.1) (ci := 9) (v := .int u_0) (C := RX9) (T := TX9) (N := 22) hx hb hts g_2 hown hE.1 hP 0 rfl rfl 6 (by decide) g_3 (fun _ h9 => h9) rfl dX9_advance_122 ?_
          refine lv_isub hx hb dX9_advance_125 ?_
          refine lv_bipush (v := 8) hx hb dX9_advance_126 (by decide) ?_
          refine lv_icmp_le (tgt := 135) hx hb dX9_advance_128 (by decide) (fun c_8 => ?_) (fun c_8 => ?_)
          · refine lv_iconst (v := 1) hx hb dX9_advance_135 (by decide) ?_
            refine va_put (D := E.1) (ci := 9) (v := .int 1) (ty := .int) (C := RX9) (T := TX9) (N := 22) hx hb hts g_2 tyX9 tyX9_ok nmX9 hown hE.1 hP (hX.d rfl) hS 0 rfl rfl 8 (by decide) g_5 (fun _ h9 => h9) rfl (by decide +kernel) rfl rfl (Nat.le_of_ble_eq_true rfl) dX9_advance_136 (fun H locs hP _ hS => ?_)
            have hP : va_P E.1 vwCl [(h, .inr (9, [.int thrown, .ref nw, .ref td, .ref tx, .int length, .int textSize, .int u_0, .int u_85, .int 1, .int 0, .int error, .int errorAt, .int seen, .int triedWith, .ref rr, .ref ss, .ref tr, .ref wa, .int undos, .ref ud, .ref sl, .ref sv])), (tx, .inl (E.2.2.1, 500, .inl text))] H := hP
            refine lv_goto (tgt := 277) hx hb dX9_advance_139 (by decide) ?_
            exact x_wv (u_0, u_85, 1, 0) (by rw [hx_85]; rw [if_pos c_8]; try rfl) rfl hx hb hr hlk hS hP (hX.d rfl) [0, 1] rfl rfl (Nat.le_of_ble_eq_true rfl) (Nat.le_of_ble_eq_true rfl) dX9_advance_277
          · refine lv_iconst (v := 4) hx hb dX9_advance_131 (by decide) ?_
            refine lv_goto (tgt := 136) hx hb dX9_advance_132 (by decide) ?_
            refine va_put (D := E.1) (ci := 9) (v := .int 4) (ty := .int) (C := RX9) (T := TX9) (N := 22) hx hb hts g_2 tyX9 tyX9_ok nmX9 hown hE.1 hP (hX.d rfl) hS 0 rfl rfl 8 (by decide) g_5 (fun _ h9 => h9) rfl (by decide +kernel) rfl rfl (Nat.le_of_ble_eq_true rfl) dX9_advance_136 (fun H locs hP _ hS => ?_)
            have hP : va_P E.1 vwCl [(h, .inr (9, [.int thrown, .ref nw, .ref td, .ref tx, .int length, .int textSize, .int u_0, .int u_85, .int 4, .int 0, .int error, .int errorAt, .int seen, .int triedWith, .ref rr, .ref ss, .ref tr, .ref wa, .int undos, .ref ud, .ref sl, .ref sv])), (tx, .inl (E.2.2.1, 500, .inl text))] H := hP
            refine lv_goto (tgt := 277) hx hb dX9_advance_139 (by decide) ?_
            exact x_wv (u_0, u_85, 4, 0) (by rw [hx_85]; rw [if_neg c_8]; try rfl) rfl hx hb hr hlk hS hP (hX.d rfl) [0, 1] rfl rfl (Nat.le_of_ble_eq_true rfl) (Nat.le_of_ble_eq_true rfl) dX9_advance_277
        have lp_85 : ∀ (kk_85 : Nat), ∀ (u_85 : Int32), (xNx textSize u_85) → (xMu textSize u_85) < kk_85 → ∀ (H : Heap) (locs : List Loc), va_P E.1 vwCl [(h, .inr (9, [.int thrown, .ref nw, .ref td, .ref tx, .int length, .int textSize, .int u_0, .int u_85, .int token, .int 0, .int error, .int errorAt, .int seen, .int triedWith, .ref rr, .ref ss, .ref tr, .ref wa, .int undos, .ref ud, .ref sl, .ref sv])), (tx, .inl (E.2.2.1, 500, .inl text))] H → va_S A s.heap H locs → ∀ (ls : Array Slot), lv_has ls 2 [(0, .ref h), (1, .int (sX9_byteAt textSize text u_0))] → (sX9_advance textSize next text) = sX9_advance_l85 textSize text (fun (u_85 : Int32) => if (u_85 - u_0) ≤ 8 then (u_0, u_85, 1, 0) else (u_0, u_85, 4, 0)) kk_85 u_85 → W p l e ({ frames := 1, cells := 0, slots := 0, locals := 22 }) s m args below meth c H locs 0 0 (MQ below (xO (T := Int32 × Int32 × Int32 × Int32) E A (fun _ => none) (fun q => [(h, .inr (9, [.int thrown, .ref nw, .ref td, .ref tx, .int length, .int textSize, .int q.1, .int q.2.1, .int q.2.2.1, .int q.2.2.2, .int error, .int errorAt, .int seen, .int triedWith, .ref rr, .ref ss, .ref tr, .ref wa, .int undos, .ref ud, .ref sl, .ref sv])), (tx, .inl (E.2.2.1, 500, .inl text))]) (sX9_advance textSize next text)) args s 0 0 A) (F0 m 85 ls []) := by
          intro kk_85
          induction kk_85 with
          | zero =>
            intro u_85 hu_85 hmu
            exact absurd hmu (Nat.not_lt_zero _)
          | succ kk_85 ih_85 =>
            intro u_85 hu_85 hmu H locs hP hS ls hl hlq_85
            refine lv_aload_n hx hb dX9_advance_85 rfl (lv_at hl 0 rfl) ?_
            refine lv_aload_n hx hb dX9_advance_86 rfl (lv_at hl 0 rfl) ?_
            refine va_get (D := E.1) (ci := 9) (v := .int u_85) (C := RX9) (T := TX9) (N := 22) hx hb hts g_2 hown hE.1 hP 0 rfl rfl 7 (by decide) g_1 (fun _ h9 => h9) rfl dX9_advance_87 ?_
            refine x_rV [.int u_85] (kX9_byteAt l E h thrown nw td tx length textSize u_0 u_85 token 0 error errorAt seen triedWith rr ss tr wa undos ud sl sv text u_85 (xNx.a hu_85) (xNx.b hu_85)) ⟨hx, hb, hml, hown, hts⟩ (cwV 1 hts gX9_advance_X9_byteAt rfl rfl rfl hdX9_byteAt ⟨Nat.le_of_ble_eq_true rfl, Nat.le_of_ble_eq_true rfl⟩) hE hP (hX.d rfl) [0, 1] rfl rfl (ci := 9) (q0 := 0) rfl rfl rfl hl.1 rfl rfl (Nat.le_of_ble_eq_true rfl) dX9_advance_90 (Nat.le_of_ble_eq_true rfl) (Nat.le_of_ble_eq_true rfl) ?_
            refine lv_bipush (v := 97) hx hb dX9_advance_93 (by decide) ?_
            refine lv_bipush (v := 122) hx hb dX9_advance_95 (by decide) ?_
            refine x_rS [.int (sX9_byteAt textSize text u_85), .int 97, .int 122] (kX9_within l E (sX9_byteAt textSize text u_85) 97 122) ⟨hx, hb, hml, hown, hts⟩ (va_cwS 3 hts gX9_advance_X9_within rfl rfl rfl hdX9_within.2 ⟨Nat.le_of_ble_eq_true rfl, Nat.le_of_ble_eq_true rfl⟩) hE hP (hX.d rfl) [] rfl rfl hl.1 rfl rfl (Nat.le_of_ble_eq_true rfl) dX9_advance_97 (Nat.le_of_ble_eq_true rfl) (Nat.le_of_ble_eq_true rfl) ?_
            refine lv_if_eq (tgt := 116) hx hb dX9_advance_100 (by decide) (fun c_9 => ?_) (fun c_9 => ?_)
            · exact ex_85 u_85 hu_85 _ _ hP hS ls (lv_sub hl [0, 1] rfl) (by rw [hlq_85]; rw [sX9_advance_l85_s]; rw [if_pos c_9]; try rfl)
            · refine lv_aload_n hx hb dX9_advance_103 rfl (lv_at hl 0 rfl) ?_
              refine lv_dup hx hb dX9_advance_104 rfl ?_
              refine va_get (D := E.1) (ci := 9) (v := .int u_85) (C := RX9) (T := TX9) (N := 22) hx hb hts g_2 hown hE.1 hP 0 rfl rfl 7 (by decide) g_1 (fun _ h9 => h9) rfl dX9_advance_105 ?_
              refine lv_iconst (v := 1) hx hb dX9_advance_108 (by decide) ?_
              refine lv_iadd hx hb dX9_advance_109 ?_
              refine va_put (D := E.1) (ci := 9) (v := .int (u_85 + 1)) (ty := .int) (C := RX9) (T := TX9) (N := 22) hx hb hts g_2 tyX9 tyX9_ok nmX9 hown hE.1 hP (hX.d rfl) hS 0 rfl rfl 7 (by decide) g_1 (fun _ h9 => h9) rfl (by decide +kernel) rfl rfl (Nat.le_of_ble_eq_true rfl) dX9_advance_110 (fun H locs hP _ hS => ?_)
              have hP : va_P E.1 vwCl [(h, .inr (9, [.int thrown, .ref nw, .ref td, .ref tx, .int length, .int textSize, .int u_0, .int (u_85 + 1), .int token, .int 0, .int error, .int errorAt, .int seen, .int triedWith, .ref rr, .ref ss, .ref tr, .ref wa, .int undos, .ref ud, .ref sl, .ref sv])), (tx, .inl (E.2.2.1, 500, .inl text))] H := hP
              refine lv_goto (tgt := 85) hx hb dX9_advance_113 (by decide) ?_
              exact ih_85 (u_85 + 1) (xNx.s hu_85 (x_byteW c_9 (by decide))) (x_muN (x_byteW c_9 (by decide)) hmu) _ _ hP hS ls (lv_sub hl [0, 1] rfl) (by rw [hlq_85]; rw [sX9_advance_l85_s]; rw [if_neg c_9]; try rfl)
        exact lp_85 (xMu textSize u_0 + 1) u_0 hu_0 (Nat.lt_succ_self _) _ _ hP hS ls (lv_sub hl [1, 0] rfl) (by rw [hx_0]; rw [if_neg c_1]; rw [if_neg c_2]; try rfl)
    · refine lv_aload_n hx hb dX9_advance_66 rfl (lv_at hl 1 rfl) ?_
      refine lv_iconst (v := 0) hx hb dX9_advance_67 (by decide) ?_
      refine va_put (D := E.1) (ci := 9) (v := .int 0) (ty := .int) (C := RX9) (T := TX9) (N := 22) hx hb hts g_2 tyX9 tyX9_ok nmX9 hown hE.1 hP (hX.d rfl) hS 0 rfl rfl 8 (by decide) g_5 (fun _ h9 => h9) rfl (by decide +kernel) rfl rfl (Nat.le_of_ble_eq_true rfl) dX9_advance_68 (fun H locs hP _ hS => ?_)
      have hP : va_P E.1 vwCl [(h, .inr (9, [.int thrown, .ref nw, .ref td, .ref tx, .int length, .int textSize, .int u_0, .int u_0, .int 0, .int 0, .int error, .int errorAt, .int seen, .int triedWith, .ref rr, .ref ss, .ref tr, .ref wa, .int undos, .ref ud, .ref sl, .ref sv])), (tx, .inl (E.2.2.1, 500, .inl text))] H := hP
      refine lv_goto (tgt := 277) hx hb dX9_advance_71 (by decide) ?_
      exact x_wv (u_0, u_0, 0, 0) (by rw [hx_0]; rw [if_pos c_1]; try rfl) rfl hx hb hr hlk hS hP (hX.d rfl) [0, 1] rfl rfl (Nat.le_of_ble_eq_true rfl) (Nat.le_of_ble_eq_true rfl) dX9_advance_277
  have lp_0 : ∀ (kk_0 : Nat), ∀ (u_0 : Int32), (xNx textSize u_0) → (xMu textSize u_0) < kk_0 → ∀ (H : Heap) (locs : List Loc), va_P E.1 vwCl [(h, .inr (9, [.int thrown, .ref nw, .ref td, .ref tx, .int length, .int textSize, .int start, .int u_0, .int token, .int value, .int error, .int errorAt, .int seen, .int triedWith, .ref rr, .ref ss, .ref tr, .ref wa, .int undos, .ref ud, .ref sl, .ref sv])), (tx, .inl (E.2.2.1, 500, .inl text))] H → va_S A s.heap H locs → ∀ (ls : Array Slot), lv_has ls 2 [(0, .ref h)] → (sX9_advance textSize next text) = sX9_advance_l0 textSize text (fun (u_0 : Int32) => if (sX9_byteAt textSize text u_0) = (-1) then (u_0, u_0, 0, 0) else if (sX9_within (sX9_byteAt textSize text u_0) 97 122) = 0 then if (sX9_within (sX9_byteAt textSize text u_0) 48 57) = 0 then if (sX9_byteAt textSize text u_0) = 59 then (u_0, u_0 + 1, 3, 0) else (u_0, u_0 + 1, 4, 0) else sX9_advance_l153 textSize text u_0 (fun (u_153 : Int32) (u2_153 : Int32) => if (u_153 - u_0) ≤ 4 then (u_0, u_153, 2, u2_153) else (u_0, u_153, 4, u2_153)) (xMu textSize u_0 + 1) u_0 0 else sX9_advance_l85 textSize text (fun (u_85 : Int32) => if (u_85 - u_0) ≤ 8 then (u_0, u_85, 1, 0) else (u_0, u_85, 4, 0)) (xMu textSize u_0 + 1) u_0) kk_0 u_0 → W p l e ({ frames := 1, cells := 0, slots := 0, locals := 22 }) s m args below meth c H locs 0 0 (MQ below (xO (T := Int32 × Int32 × Int32 × Int32) E A (fun _ => none) (fun q => [(h, .inr (9, [.int thrown, .ref nw, .ref td, .ref tx, .int length, .int textSize, .int q.1, .int q.2.1, .int q.2.2.1, .int q.2.2.2, .int error, .int errorAt, .int seen, .int triedWith, .ref rr, .ref ss, .ref tr, .ref wa, .int undos, .ref ud, .ref sl, .ref sv])), (tx, .inl (E.2.2.1, 500, .inl text))]) (sX9_advance textSize next text)) args s 0 0 A) (F0 m 0 ls []) := by
    intro kk_0
    induction kk_0 with
    | zero =>
      intro u_0 hu_0 hmu
      exact absurd hmu (Nat.not_lt_zero _)
    | succ kk_0 ih_0 =>
      intro u_0 hu_0 hmu H locs hP hS ls hl hlq_0
      refine lv_aload_n hx hb dX9_advance_0 rfl (lv_at hl 0 rfl) ?_
      refine lv_aload_n hx hb dX9_advance_1 rfl (lv_at hl 0 rfl) ?_
      refine va_get (D := E.1) (ci := 9) (v := .int u_0) (C := RX9) (T := TX9) (N := 22) hx hb hts g_2 hown hE.1 hP 0 rfl rfl 7 (by decide) g_1 (fun _ h9 => h9) rfl dX9_advance_2 ?_
      refine x_rV [.int u_0] (kX9_byteAt l E h thrown nw td tx length textSize start u_0 token value error errorAt seen triedWith rr ss tr wa undos ud sl sv text u_0 (xNx.a hu_0) (xNx.b hu_0)) ⟨hx, hb, hml, hown, hts⟩ (cwV 1 hts gX9_advance_X9_byteAt rfl rfl rfl hdX9_byteAt ⟨Nat.le_of_ble_eq_true rfl, Nat.le_of_ble_eq_true rfl⟩) hE hP (hX.d rfl) [0, 1] rfl rfl (ci := 9) (q0 := 0) rfl rfl rfl hl.1 rfl rfl (Nat.le_of_ble_eq_true rfl) dX9_advance_5 (Nat.le_of_ble_eq_true rfl) (Nat.le_of_ble_eq_true rfl) ?_
      refine lv_bipush (v := 32) hx hb dX9_advance_8 (by decide) ?_
      refine lv_icmp_eq (tgt := 26) hx hb dX9_advance_10 (by decide) (fun c_10 => ?_) (fun c_10 => ?_)
      · refine lv_aload_n hx hb dX9_advance_26 rfl (lv_at hl 0 rfl) ?_
        refine lv_dup hx hb dX9_advance_27 rfl ?_
        refine va_get (D := E.1) (ci := 9) (v := .int u_0) (C := RX9) (T := TX9) (N := 22) hx hb hts g_2 hown hE.1 hP 0 rfl rfl 7 (by decide) g_1 (fun _ h9 => h9) rfl dX9_advance_28 ?_
        refine lv_iconst (v := 1) hx hb dX9_advance_31 (by decide) ?_
        refine lv_iadd hx hb dX9_advance_32 ?_
        refine va_put (D := E.1) (ci := 9) (v := .int (u_0 + 1)) (ty := .int) (C := RX9) (T := TX9) (N := 22) hx hb hts g_2 tyX9 tyX9_ok nmX9 hown hE.1 hP (hX.d rfl) hS 0 rfl rfl 7 (by decide) g_1 (fun _ h9 => h9) rfl (by decide +kernel) rfl rfl (Nat.le_of_ble_eq_true rfl) dX9_advance_33 (fun H locs hP _ hS => ?_)
        have hP : va_P E.1 vwCl [(h, .inr (9, [.int thrown, .ref nw, .ref td, .ref tx, .int length, .int textSize, .int start, .int (u_0 + 1), .int token, .int value, .int error, .int errorAt, .int seen, .int triedWith, .ref rr, .ref ss, .ref tr, .ref wa, .int undos, .ref ud, .ref sl, .ref sv])), (tx, .inl (E.2.2.1, 500, .inl text))] H := hP
        refine lv_goto (tgt := 0) hx hb dX9_advance_36 (by decide) ?_
        exact ih_0 (u_0 + 1) (xNx.s hu_0 (x_byteLt c_10 (by decide))) (x_muN (x_byteLt c_10 (by decide)) hmu) _ _ hP hS ls (lv_sub hl [0] rfl) (by rw [hlq_0]; rw [sX9_advance_l0_s]; rw [if_pos c_10]; try rfl)
      · refine lv_aload_n hx hb dX9_advance_13 rfl (lv_at hl 0 rfl) ?_
        refine lv_aload_n hx hb dX9_advance_14 rfl (lv_at hl 0 rfl) ?_
        refine va_get (D := E.1) (ci := 9) (v := .int u_0) (C := RX9) (T := TX9) (N := 22) hx hb hts g_2 hown hE.1 hP 0 rfl rfl 7 (by decide) g_1 (fun _ h9 => h9) rfl dX9_advance_15 ?_
        refine x_rV [.int u_0] (kX9_byteAt l E h thrown nw td tx length textSize start u_0 token value error errorAt seen triedWith rr ss tr wa undos ud sl sv text u_0 (xNx.a hu_0) (xNx.b hu_0)) ⟨hx, hb, hml, hown, hts⟩ (cwV 1 hts gX9_advance_X9_byteAt rfl rfl rfl hdX9_byteAt ⟨Nat.le_of_ble_eq_true rfl, Nat.le_of_ble_eq_true rfl⟩) hE hP (hX.d rfl) [0, 1] rfl rfl (ci := 9) (q0 := 0) rfl rfl rfl hl.1 rfl rfl (Nat.le_of_ble_eq_true rfl) dX9_advance_18 (Nat.le_of_ble_eq_true rfl) (Nat.le_of_ble_eq_true rfl) ?_
        refine lv_bipush (v := 10) hx hb dX9_advance_21 (by decide) ?_
        refine lv_icmp_ne (tgt := 39) hx hb dX9_advance_23 (by decide) (fun c_11 => ?_) (fun c_11 => ?_)
        · exact ex_0 u_0 hu_0 _ _ hP hS ls (lv_sub hl [0] rfl) (by rw [hlq_0]; rw [sX9_advance_l0_s]; rw [if_neg c_10]; rw [if_neg c_11]; try rfl)
        · refine lv_aload_n hx hb dX9_advance_26 rfl (lv_at hl 0 rfl) ?_
          refine lv_dup hx hb dX9_advance_27 rfl ?_
          refine va_get (D := E.1) (ci := 9) (v := .int u_0) (C := RX9) (T := TX9) (N := 22) hx hb hts g_2 hown hE.1 hP 0 rfl rfl 7 (by decide) g_1 (fun _ h9 => h9) rfl dX9_advance_28 ?_
          refine lv_iconst (v := 1) hx hb dX9_advance_31 (by decide) ?_
          refine lv_iadd hx hb dX9_advance_32 ?_
          refine va_put (D := E.1) (ci := 9) (v := .int (u_0 + 1)) (ty := .int) (C := RX9) (T := TX9) (N := 22) hx hb hts g_2 tyX9 tyX9_ok nmX9 hown hE.1 hP (hX.d rfl) hS 0 rfl rfl 7 (by decide) g_1 (fun _ h9 => h9) rfl (by decide +kernel) rfl rfl (Nat.le_of_ble_eq_true rfl) dX9_advance_33 (fun H locs hP _ hS => ?_)
          have hP : va_P E.1 vwCl [(h, .inr (9, [.int thrown, .ref nw, .ref td, .ref tx, .int length, .int textSize, .int start, .int (u_0 + 1), .int token, .int value, .int error, .int errorAt, .int seen, .int triedWith, .ref rr, .ref ss, .ref tr, .ref wa, .int undos, .ref ud, .ref sl, .ref sv])), (tx, .inl (E.2.2.1, 500, .inl text))] H := hP
          refine lv_goto (tgt := 0) hx hb dX9_advance_36 (by decide) ?_
          exact ih_0 (u_0 + 1) (xNx.s hu_0 (x_byteLt c_11 (by decide))) (x_muN (x_byteLt c_11 (by decide)) hmu) _ _ hP hS ls (lv_sub hl [0] rfl) (by rw [hlq_0]; rw [sX9_advance_l0_s]; rw [if_neg c_10]; rw [if_pos c_11]; try rfl)
  exact lp_0 (xMu textSize next + 1) next hq (Nat.lt_succ_self _) _ _ hP hS ls (lv_sub hl [0] rfl) (by unfold sX9_advance; try rfl)
theorem xTok.s {t s n : Int32} (h : xTok t s n) (c : ¬ t ≤ n) : xTok t s (n + 1) := by
  have e := x_up h.x.a c
  rw [Int32.le_iff_toInt_le] at c
  obtain ⟨h1, h2, h3, h4⟩ := h
  exact ⟨h1, by rw [e]; omega, by rw [e]; omega, h4⟩
theorem xNx.t {t n : Int32} (h : xNx t n) : xTok t n n := ⟨h.1, Int.le_refl _, h.2⟩
theorem x_adv_l0 {t : Int32} {text : Nat → Int32} {P : Int32 × Int32 × Int32 × Int32 → Prop} {kont : Int32 → Int32 × Int32 × Int32 × Int32} (hk : ∀ u, xNx t u → P (kont u)) : ∀ (kk : Nat) (u : Int32), xNx t u → P (sX9_advance_l0 t text kont kk u)
  | 0, u, h => hk u h
  | kk + 1, u, h => by
    rw [sX9_advance_l0_s]
    split
    · rename_i c
      exact x_adv_l0 hk kk _ (h.s (x_byteLt c (by decide)))
    · split
      · rename_i c
        exact x_adv_l0 hk kk _ (h.s (x_byteLt c (by decide)))
      · exact hk u h
theorem x_adv_l85 {t s : Int32} {text : Nat → Int32} {P : Int32 × Int32 × Int32 × Int32 → Prop} {kont : Int32 → Int32 × Int32 × Int32 × Int32} (hk : ∀ u, xTok t s u → P (kont u)) : ∀ (kk : Nat) (u : Int32), xTok t s u → P (sX9_advance_l85 t text kont kk u)
  | 0, u, h => hk u h
  | kk + 1, u, h => by
    rw [sX9_advance_l85_s]
    split
    · exact hk u h
    · rename_i c
      exact x_adv_l85 hk kk _ (h.s (x_byteW c (by decide)))
theorem x_adv_l153 {t s : Int32} {text : Nat → Int32} {P : Int32 × Int32 × Int32 × Int32 → Prop} {kont : Int32 → Int32 → Int32 × Int32 × Int32 × Int32} (hk : ∀ u v, xTok t s u → P (kont u v)) : ∀ (kk : Nat) (u v : Int32), xTok t s u → P (sX9_advance_l153 t text s kont kk u v)
  | 0, u, v, h => hk u v h
  | kk + 1, u, v, h => by
    rw [sX9_advance_l153_s]
    split
    · exact hk u v h
    · rename_i c
      split
      · exact x_adv_l153 hk kk _ _ (h.s (x_byteW c (by decide)))
      · exact x_adv_l153 hk kk _ _ (h.s (x_byteW c (by decide)))
theorem x_advT {t n : Int32} {text : Nat → Int32} (h : xNx t n) : xTok t (sX9_advance t n text).1 (sX9_advance t n text).2.1 := by
  unfold sX9_advance
  refine x_adv_l0 (P := fun q => xTok t q.1 q.2.1) (fun u hu => ?_) _ _ h
  split
  · exact hu.t
  · rename_i c
    split
    · split
      · split
        · exact hu.t.s (x_byteN c)
        · exact hu.t.s (x_byteN c)
      · refine x_adv_l153 (P := fun q => xTok t q.1 q.2.1) (fun u2 v h2 => ?_) _ _ _ hu.t
        split
        · exact h2
        · exact h2
    · refine x_adv_l85 (P := fun q => xTok t q.1 q.2.1) (fun u2 h2 => ?_) _ _ hu.t
      split
      · exact h2
      · exact h2
theorem x_tokin {t s n k : Int32} {wi : Nat} (ht : xTok t s n) (he : n - s = sJ0_length_8abf5 wi) (hk : ¬ k < 0) (hc : ¬ sJ0_length_8abf5 wi ≤ k) : vp_in (s + k) 500 := by
  rw [← he] at hc
  obtain ⟨h1, h2, h3, h4⟩ := ht
  have e : (n - s).toInt = n.toInt - s.toInt := by
    rw [Int32.toInt_sub, Int.bmod_eq_of_le (by omega) (by omega)]
  rw [Int32.le_iff_toInt_le, e] at hc
  rw [Int32.lt_iff_toInt_lt, Int32.toInt_zero] at hk
  have e2 : (s + k).toInt = s.toInt + k.toInt := by
    rw [Int32.toInt_add, Int.bmod_eq_of_le (by omega) (by omega)]
  rw [vp_in_iff, e2]
  omega
theorem x_or1 {v : Int32} {p : Prop} (h : v = 0 ∨ (v = 1 ∧ p)) : v = 0 ∨ v = 1 := h.imp_right And.left
def sX9_isWord_l32 (start : Int32) (text : Nat → Int32) (wi : Nat) (kont_32 : Int32 → Int32 → Int32) : Nat → Int32 → Int32 → Int32
  | 0, k_32, sm_32 => kont_32 k_32 sm_32
  | kk_32 + 1, k_32, sm_32 =>
    if (sJ0_length_8abf5 wi) ≤ k_32 then
      kont_32 k_32 sm_32
    else
      if sm_32 = 0 then
        kont_32 k_32 sm_32
      else
        if (text ((start + k_32).toNatClampNeg)) = (sJ0_charAt_5068e wi k_32) then
          sX9_isWord_l32 start text wi kont_32 kk_32 (k_32 + 1) 1
        else
          sX9_isWord_l32 start text wi kont_32 kk_32 (k_32 + 1) 0
theorem sX9_isWord_l32_s (start : Int32) (text : Nat → Int32) (wi : Nat) (kont_32 : Int32 → Int32 → Int32) (kk_32 : Nat) (k_32 : Int32) (sm_32 : Int32) : sX9_isWord_l32 start text wi kont_32 (kk_32 + 1) k_32 sm_32 =
    if (sJ0_length_8abf5 wi) ≤ k_32 then
      kont_32 k_32 sm_32
    else
      if sm_32 = 0 then
        kont_32 k_32 sm_32
      else
        if (text ((start + k_32).toNatClampNeg)) = (sJ0_charAt_5068e wi k_32) then
          sX9_isWord_l32 start text wi kont_32 kk_32 (k_32 + 1) 1
        else
          sX9_isWord_l32 start text wi kont_32 kk_32 (k_32 + 1) 0 := rfl
def sX9_isWord (start : Int32) (next : Int32) (token : Int32) (text : Nat → Int32) (wi : Nat) : Int32 :=
  if token = 1 then
    if (next - start) = (sJ0_length_8abf5 wi) then
      sX9_isWord_l32 start text wi (fun (k_32 : Int32) (sm_32 : Int32) => sm_32) (xMu (sJ0_length_8abf5 wi) 0 + 1) 0 1
    else
      sX9_isWord_l32 start text wi (fun (k_32 : Int32) (sm_32 : Int32) => sm_32) (xMu (sJ0_length_8abf5 wi) 0 + 1) 0 0
  else
    sX9_isWord_l32 start text wi (fun (k_32 : Int32) (sm_32 : Int32) => sm_32) (xMu (sJ0_length_8abf5 wi) 0 + 1) 0 0
theorem hdX9_isWord : yX9_isWord.cls = RX9 ∧ yX9_isWord.cls ≠ "java/lang/invoke/MethodHandle" ∧ yX9_isWord.cls ≠ "java/lang/invoke/VarHandle" ∧ (parseMethodDescriptor yX9_isWord.desc).map (fun d => d.parameters.length) = some 1 := by decide +kernel
set_option maxHeartbeats 4000000 in
set_option maxRecDepth 100000 in
theorem kX9_isWord (l : Launch) (E : XE) (Z : XZ) (h : Nat) (thrown : Int32) (nw : Nat) (td : Nat) (tx : Nat) (length : Int32) (textSize : Int32) (start : Int32) (next : Int32) (token : Int32) (value : Int32) (error : Int32) (errorAt : Int32) (seen : Int32) (triedWith : Int32) (rr : Nat) (ss : Nat) (tr : Nat) (wa : Nat) (undos : Int32) (ud : Nat) (sl : Nat) (sv : Nat) (text : Nat → Int32) (wi : Nat) (hi : wi < 10) (ht : xTok textSize start next) : xRZ l yX9_isWord wsX9_isWord ({ frames := 4, cells := 0, slots := 0, locals := 85 }) E Z [(h, .inr (9, [.int thrown, .ref nw, .ref td, .ref tx, .int length, .int textSize, .int start, .int next, .int token, .int value, .int error, .int errorAt, .int seen, .int triedWith, .ref rr, .ref ss, .ref tr, .ref wa, .int undos, .ref ud, .ref sl, .ref sv])), (tx, .inl (E.2.2.1, 500, .inl text))] [.ref h, .ref (xK Z wi)] (.int (sX9_isWord start next token text wi)) := by
  refine xRZ.of (cc := cX9_isWord) (maxL := 4) (ret := (some .boolean)) (by decide) rfl (Nat.le_of_ble_eq_true rfl) ?_
  intro p e s m args below meth c ls hM hE hP hD hZ hl
  obtain ⟨hx, hb, hr, hml, hts, hown, hlk, hnm⟩ := hM
  have g_1 : (Cond.fieldLink RX9 85 "RailPendulumModel" "token" "I").before args s = true := hts (Cond.fieldLink RX9 85 "RailPendulumModel" "token" "I") (by decide +kernel)
  have g_2 : ∀ w ∈ wsX90, w ∈ wsX9_isWord := by decide +kernel
  have g_3 : (Cond.fieldLink RX9 16 "RailPendulumModel" "text" "[B").before args s = true := hts (Cond.fieldLink RX9 16 "RailPendulumModel" "text" "[B") (by decide +kernel)
  have g_4 : (Cond.fieldLink RX9 79 "RailPendulumModel" "start" "I").before args s = true := hts (Cond.fieldLink RX9 79 "RailPendulumModel" "start" "I") (by decide +kernel)
  have g_5 : (Cond.fieldLink RX9 72 "RailPendulumModel" "next" "I").before args s = true := hts (Cond.fieldLink RX9 72 "RailPendulumModel" "next" "I") (by decide +kernel)
  have hS : va_S (fun _ => False) s.heap s.heap [] := va_S.rf
  have hl : lv_has ls 4 [(0, .ref h), (1, .ref (xK Z wi))] := hl
  refine lv_aload_n hx hb dX9_isWord_0 rfl (lv_at hl 0 rfl) ?_
  refine va_get (D := E.1) (ci := 9) (v := .int token) (C := RX9) (T := TX9) (N := 22) hx hb hts g_2 hown hE.1 hP 0 rfl rfl 8 (by decide) g_1 (fun _ h9 => h9) rfl dX9_isWord_1 ?_
  refine lv_iconst (v := 1) hx hb dX9_isWord_4 (by decide) ?_
  refine lv_icmp_ne (tgt := 28) hx hb dX9_isWord_5 (by decide) (fun c_1 => ?_) (fun c_1 => ?_)
  · refine lv_iconst (v := 0) hx hb dX9_isWord_28 (by decide) ?_
    refine lv_istore_n (lv' := [(2, .int 0), (0, .ref h), (1, .ref (xK Z wi))]) hx hb dX9_isWord_29 rfl hl (by decide) rfl (fun ls hl => ?_)
    refine lv_iconst (v := 0) hx hb dX9_isWord_30 (by decide) ?_
    refine lv_istore_n (lv' := [(3, .int 0), (2, .int 0), (0, .ref h), (1, .ref (xK Z wi))]) hx hb dX9_isWord_31 rfl hl (by decide) rfl (fun ls hl => ?_)
    have ex_32 : ∀ (k_32 : Int32) (sm_32 : Int32), (¬ k_32 < 0) → (sm_32 = 0 ∨ (sm_32 = 1 ∧ next - start = sJ0_length_8abf5 wi)) → ∀ (ls : Array Slot), lv_has ls 4 [(0, .ref h), (1, .ref (xK Z wi)), (2, .int sm_32), (3, .int k_32)] → (sX9_isWord start next token text wi) = (sm_32 : Int32) → W p l e ({ frames := 4, cells := 0, slots := 0, locals := 85 }) s m args below meth c s.heap [] 0 0 (MQ below (xQ (.int (sX9_isWord start next token text wi))) args s 0 0 (fun _ => False)) (F0 m 75 ls []) := by
      intro k_32 sm_32 hk0_32 hsm_32 ls hl hx_32
      refine lv_iload_n hx hb dX9_isWord_75 rfl (lv_at hl 2 rfl) ?_
      exact x_zr (by rw [hx_32]; try rfl) hx hb hr hlk (x_nb (x_or1 hsm_32)) dX9_isWord_76
    have lp_32 : ∀ (kk_32 : Nat), ∀ (k_32 : Int32) (sm_32 : Int32), (¬ k_32 < 0) → (sm_32 = 0 ∨ (sm_32 = 1 ∧ next - start = sJ0_length_8abf5 wi)) → (xMu (sJ0_length_8abf5 wi) k_32) < kk_32 → ∀ (ls : Array Slot), lv_has ls 4 [(0, .ref h), (1, .ref (xK Z wi)), (2, .int sm_32), (3, .int k_32)] → (sX9_isWord start next token text wi) = sX9_isWord_l32 start text wi (fun (k_32 : Int32) (sm_32 : Int32) => sm_32) kk_32 k_32 sm_32 → W p l e ({ frames := 4, cells := 0, slots := 0, locals := 85 }) s m args below meth c s.heap [] 0 0 (MQ below (xQ (.int (sX9_isWord start next token text wi))) args s 0 0 (fun _ => False)) (F0 m 32 ls []) := by
      intro kk_32
      induction kk_32 with
      | zero =>
        intro k_32 sm_32 hk0_32 hsm_32 hmu
        exact absurd hmu (Nat.not_lt_zero _)
      | succ kk_32 ih_32 =>
        intro k_32 sm_32 hk0_32 hsm_32 hmu ls hl hlq_32
        refine lv_iload_n hx hb dX9_isWord_32 rfl (lv_at hl 3 rfl) ?_
        refine lv_aload_n hx hb dX9_isWord_33 rfl (lv_at hl 1 rfl) ?_
        refine x_zK hi [] (kJ0_length_8abf5 l E Z wi hi) ⟨hx, hb, hml, hown, hts⟩ (cwV 0 hts gX9_isWord_J0_length_8abf5 rfl rfl rfl hdJ0_length_8abf5 ⟨Nat.le_of_ble_eq_true rfl, Nat.le_of_ble_eq_true rfl⟩) hZ hS hE hP hD [] rfl rfl hl.1 rfl rfl (Nat.le_of_ble_eq_true rfl) dX9_isWord_34 (Nat.le_of_ble_eq_true rfl) (Nat.le_of_ble_eq_true rfl) ?_
        refine lv_icmp_ge (tgt := 75) hx hb dX9_isWord_37 (by decide) (fun c_2 => ?_) (fun c_2 => ?_)
        · exact ex_32 k_32 sm_32 hk0_32 hsm_32 ls (lv_sub hl [0, 1, 2, 3] rfl) (by rw [hlq_32]; rw [sX9_isWord_l32_s]; rw [if_pos c_2]; try rfl)
        · refine lv_iload_n hx hb dX9_isWord_40 rfl (lv_at hl 2 rfl) ?_
          refine lv_if_eq (tgt := 75) hx hb dX9_isWord_41 (by decide) (fun c_3 => ?_) (fun c_3 => ?_)
          · exact ex_32 k_32 sm_32 hk0_32 hsm_32 ls (lv_sub hl [0, 1, 2, 3] rfl) (by rw [hlq_32]; rw [sX9_isWord_l32_s]; rw [if_neg c_2]; rw [if_pos c_3]; try rfl)
          · refine lv_aload_n hx hb dX9_isWord_44 rfl (lv_at hl 0 rfl) ?_
            refine va_get (D := E.1) (ci := 9) (v := .ref tx) (C := RX9) (T := TX9) (N := 22) hx hb hts g_2 hown hE.1 hP 0 rfl rfl 3 (by decide) g_3 (fun _ h9 => h9) rfl dX9_isWord_45 ?_
            refine lv_aload_n hx hb dX9_isWord_48 rfl (lv_at hl 0 rfl) ?_
            refine va_get (D := E.1) (ci := 9) (v := .int start) (C := RX9) (T := TX9) (N := 22) hx hb hts g_2 hown hE.1 hP 0 rfl rfl 6 (by decide) g_4 (fun _ h9 => h9) rfl dX9_isWord_49 ?_
            refine lv_iload_n hx hb dX9_isWord_52 rfl (lv_at hl 3 rfl) ?_
            refine lv_iadd hx hb dX9_isWord_53 ?_
            refine x_bald hx hb hE.1 hP 1 1 rfl rfl ((start + k_32).toNatClampNeg) rfl (x_tokin ht (hsm_32.resolve_left c_3).2 hk0_32 c_2) dX9_isWord_54 ?_
            refine lv_aload_n hx hb dX9_isWord_55 rfl (lv_at hl 1 rfl) ?_
            refine lv_iload_n hx hb dX9_isWord_56 rfl (lv_at hl 3 rfl) ?_
            refine x_zK hi [.int k_32] (kJ0_charAt_5068e l E Z wi k_32 hi hk0_32 (x_ltlen hi c_2)) ⟨hx, hb, hml, hown, hts⟩ (cwV 1 hts gX9_isWord_J0_charAt_5068e rfl rfl rfl hdJ0_charAt_5068e ⟨Nat.le_of_ble_eq_true rfl, Nat.le_of_ble_eq_true rfl⟩) hZ hS hE hP hD [] rfl rfl hl.1 rfl rfl (Nat.le_of_ble_eq_true rfl) dX9_isWord_57 (Nat.le_of_ble_eq_true rfl) (Nat.le_of_ble_eq_true rfl) ?_
            refine lv_icmp_ne (tgt := 67) hx hb dX9_isWord_60 (by decide) (fun c_4 => ?_) (fun c_4 => ?_)
            · refine lv_iconst (v := 0) hx hb dX9_isWord_67 (by decide) ?_
              refine lv_istore_n (lv' := [(2, .int 0), (0, .ref h), (1, .ref (xK Z wi)), (3, .int k_32)]) hx hb dX9_isWord_68 rfl hl (by decide) rfl (fun ls hl => ?_)
              refine lv_iinc (v := k_32 + 1) (lv' := [(3, .int (k_32 + 1)), (2, .int 0), (0, .ref h), (1, .ref (xK Z wi))]) hx hb dX9_isWord_69 hl (k := 3) rfl (by rfl) (by decide) rfl (fun ls hl => ?_)
              refine lv_goto (tgt := 32) hx hb dX9_isWord_72 (by decide) ?_
              exact ih_32 (k_32 + 1) 0 (x_step hk0_32 c_2) (Or.inl rfl) (x_mu hk0_32 c_2 hmu) ls (lv_sub hl [2, 3, 1, 0] rfl) (by rw [hlq_32]; rw [sX9_isWord_l32_s]; rw [if_neg c_2]; rw [if_neg c_3]; rw [if_neg c_4]; try rfl)
            · refine lv_iconst (v := 1) hx hb dX9_isWord_63 (by decide) ?_
              refine lv_goto (tgt := 68) hx hb dX9_isWord_64 (by decide) ?_
              refine lv_istore_n (lv' := [(2, .int 1), (0, .ref h), (1, .ref (xK Z wi)), (3, .int k_32)]) hx hb dX9_isWord_68 rfl hl (by decide) rfl (fun ls hl => ?_)
              refine lv_iinc (v := k_32 + 1) (lv' := [(3, .int (k_32 + 1)), (2, .int 1), (0, .ref h), (1, .ref (xK Z wi))]) hx hb dX9_isWord_69 hl (k := 3) rfl (by rfl) (by decide) rfl (fun ls hl => ?_)
              refine lv_goto (tgt := 32) hx hb dX9_isWord_72 (by decide) ?_
              exact ih_32 (k_32 + 1) 1 (x_step hk0_32 c_2) (Or.inr ⟨rfl, (hsm_32.resolve_left c_3).2⟩) (x_mu hk0_32 c_2 hmu) ls (lv_sub hl [2, 3, 1, 0] rfl) (by rw [hlq_32]; rw [sX9_isWord_l32_s]; rw [if_neg c_2]; rw [if_neg c_3]; rw [if_pos c_4]; try rfl)
    exact lp_32 (xMu (sJ0_length_8abf5 wi) 0 + 1) 0 0 (by decide) (Or.inl rfl) (Nat.lt_succ_self _) ls (lv_sub hl [2, 3, 1, 0] rfl) (by unfold sX9_isWord; rw [if_neg c_1]; try rfl)
  · refine lv_aload_n hx hb dX9_isWord_8 rfl (lv_at hl 0 rfl) ?_
    refine va_get (D := E.1) (ci := 9) (v := .int next) (C := RX9) (T := TX9) (N := 22) hx hb hts g_2 hown hE.1 hP 0 rfl rfl 7 (by decide) g_5 (fun _ h9 => h9) rfl dX9_isWord_9 ?_
    refine lv_aload_n hx hb dX9_isWord_12 rfl (lv_at hl 0 rfl) ?_
    refine va_get (D := E.1) (ci := 9) (v := .int start) (C := RX9) (T := TX9) (N := 22) hx hb hts g_2 hown hE.1 hP 0 rfl rfl 6 (by decide) g_4 (fun _ h9 => h9) rfl dX9_isWord_13 ?_
    refine lv_isub hx hb dX9_isWord_16 ?_
    refine lv_aload_n hx hb dX9_isWord_17 rfl (lv_at hl 1 rfl) ?_
    refine x_zK hi [] (kJ0_length_8abf5 l E Z wi hi) ⟨hx, hb, hml, hown, hts⟩ (cwV 0 hts gX9_isWord_J0_length_8abf5 rfl rfl rfl hdJ0_length_8abf5 ⟨Nat.le_of_ble_eq_true rfl, Nat.le_of_ble_eq_true rfl⟩) hZ hS hE hP hD [] rfl rfl hl.1 rfl rfl (Nat.le_of_ble_eq_true rfl) dX9_isWord_18 (Nat.le_of_ble_eq_true rfl) (Nat.le_of_ble_eq_true rfl) ?_
    refine lv_icmp_ne (tgt := 28) hx hb dX9_isWord_21 (by decide) (fun c_5 => ?_) (fun c_5 => ?_)
    · refine lv_iconst (v := 0) hx hb dX9_isWord_28 (by decide) ?_
      refine lv_istore_n (lv' := [(2, .int 0), (0, .ref h), (1, .ref (xK Z wi))]) hx hb dX9_isWord_29 rfl hl (by decide) rfl (fun ls hl => ?_)
      refine lv_iconst (v := 0) hx hb dX9_isWord_30 (by decide) ?_
      refine lv_istore_n (lv' := [(3, .int 0), (2, .int 0), (0, .ref h), (1, .ref (xK Z wi))]) hx hb dX9_isWord_31 rfl hl (by decide) rfl (fun ls hl => ?_)
      have ex_32 : ∀ (k_32 : Int32) (sm_32 : Int32), (¬ k_32 < 0) → (sm_32 = 0 ∨ (sm_32 = 1 ∧ next - start = sJ0_length_8abf5 wi)) → ∀ (ls : Array Slot), lv_has ls 4 [(0, .ref h), (1, .ref (xK Z wi)), (2, .int sm_32), (3, .int k_32)] → (sX9_isWord start next token text wi) = (sm_32 : Int32) → W p l e ({ frames := 4, cells := 0, slots := 0, locals := 85 }) s m args below meth c s.heap [] 0 0 (MQ below (xQ (.int (sX9_isWord start next token text wi))) args s 0 0 (fun _ => False)) (F0 m 75 ls []) := by
        intro k_32 sm_32 hk0_32 hsm_32 ls hl hx_32
        refine lv_iload_n hx hb dX9_isWord_75 rfl (lv_at hl 2 rfl) ?_
        exact x_zr (by rw [hx_32]; try rfl) hx hb hr hlk (x_nb (x_or1 hsm_32)) dX9_isWord_76
      have lp_32 : ∀ (kk_32 : Nat), ∀ (k_32 : Int32) (sm_32 : Int32), (¬ k_32 < 0) → (sm_32 = 0 ∨ (sm_32 = 1 ∧ next - start = sJ0_length_8abf5 wi)) → (xMu (sJ0_length_8abf5 wi) k_32) < kk_32 → ∀ (ls : Array Slot), lv_has ls 4 [(0, .ref h), (1, .ref (xK Z wi)), (2, .int sm_32), (3, .int k_32)] → (sX9_isWord start next token text wi) = sX9_isWord_l32 start text wi (fun (k_32 : Int32) (sm_32 : Int32) => sm_32) kk_32 k_32 sm_32 → W p l e ({ frames := 4, cells := 0, slots := 0, locals := 85 }) s m args below meth c s.heap [] 0 0 (MQ below (xQ (.int (sX9_isWord start next token text wi))) args s 0 0 (fun _ => False)) (F0 m 32 ls []) := by
        intro kk_32
        induction kk_32 with
        | zero =>
          intro k_32 sm_32 hk0_32 hsm_32 hmu
          exact absurd hmu (Nat.not_lt_zero _)
        | succ kk_32 ih_32 =>
          intro k_32 sm_32 hk0_32 hsm_32 hmu ls hl hlq_32
          refine lv_iload_n hx hb dX9_isWord_32 rfl (lv_at hl 3 rfl) ?_
          refine lv_aload_n hx hb dX9_isWord_33 rfl (lv_at hl 1 rfl) ?_
          refine x_zK hi [] (kJ0_length_8abf5 l E Z wi hi) ⟨hx, hb, hml, hown, hts⟩ (cwV 0 hts gX9_isWord_J0_length_8abf5 rfl rfl rfl hdJ0_length_8abf5 ⟨Nat.le_of_ble_eq_true rfl, Nat.le_of_ble_eq_true rfl⟩) hZ hS hE hP hD [] rfl rfl hl.1 rfl rfl (Nat.le_of_ble_eq_true rfl) dX9_isWord_34 (Nat.le_of_ble_eq_true rfl) (Nat.le_of_ble_eq_true rfl) ?_
          refine lv_icmp_ge (tgt := 75) hx hb dX9_isWord_37 (by decide) (fun c_6 => ?_) (fun c_6 => ?_)
          · exact ex_32 k_32 sm_32 hk0_32 hsm_32 ls (lv_sub hl [0, 1, 2, 3] rfl) (by rw [hlq_32]; rw [sX9_isWord_l32_s]; rw [if_pos c_6]; try rfl)
          · refine lv_iload_n hx hb dX9_isWord_40 rfl (lv_at hl 2 rfl) ?_
            refine lv_if_eq (tgt := 75) hx hb dX9_isWord_41 (by decide) (fun c_7 => ?_) (fun c_7 => ?_)
            · exact ex_32 k_32 sm_32 hk0_32 hsm_32 ls (lv_sub hl [0, 1, 2, 3] rfl) (by rw [hlq_32]; rw [sX9_isWord_l32_s]; rw [if_neg c_6]; rw [if_pos c_7]; try rfl)
            · refine lv_aload_n hx hb dX9_isWord_44 rfl (lv_at hl 0 rfl) ?_
              refine va_get (D := E.1) (ci := 9) (v := .ref tx) (C := RX9) (T := TX9) (N := 22) hx hb hts g_2 hown hE.1 hP 0 rfl rfl 3 (by decide) g_3 (fun _ h9 => h9) rfl dX9_isWord_45 ?_
              refine lv_aload_n hx hb dX9_isWord_48 rfl (lv_at hl 0 rfl) ?_
              refine va_get (D := E.1) (ci := 9) (v := .int start) (C := RX9) (T := TX9) (N := 22) hx hb hts g_2 hown hE.1 hP 0 rfl rfl 6 (by decide) g_4 (fun _ h9 => h9) rfl dX9_isWord_49 ?_
              refine lv_iload_n hx hb dX9_isWord_52 rfl (lv_at hl 3 rfl) ?_
              refine lv_iadd hx hb dX9_isWord_53 ?_
              refine x_bald hx hb hE.1 hP 1 1 rfl rfl ((start + k_32).toNatClampNeg) rfl (x_tokin ht (hsm_32.resolve_left c_7).2 hk0_32 c_6) dX9_isWord_54 ?_
              refine lv_aload_n hx hb dX9_isWord_55 rfl (lv_at hl 1 rfl) ?_
              refine lv_iload_n hx hb dX9_isWord_56 rfl (lv_at hl 3 rfl) ?_
              refine x_zK hi [.int k_32] (kJ0_charAt_5068e l E Z wi k_32 hi hk0_32 (x_ltlen hi c_6)) ⟨hx, hb, hml, hown, hts⟩ (cwV 1 hts gX9_isWord_J0_charAt_5068e rfl rfl rfl hdJ0_charAt_5068e ⟨Nat.le_of_ble_eq_true rfl, Nat.le_of_ble_eq_true rfl⟩) hZ hS hE hP hD [] rfl rfl hl.1 rfl rfl (Nat.le_of_ble_eq_true rfl) dX9_isWord_57 (Nat.le_of_ble_eq_true rfl) (Nat.le_of_ble_eq_true rfl) ?_
              refine lv_icmp_ne (tgt := 67) hx hb dX9_isWord_60 (by decide) (fun c_8 => ?_) (fun c_8 => ?_)
              · refine lv_iconst (v := 0) hx hb dX9_isWord_67 (by decide) ?_
                refine lv_istore_n (lv' := [(2, .int 0), (0, .ref h), (1, .ref (xK Z wi)), (3, .int k_32)]) hx hb dX9_isWord_68 rfl hl (by decide) rfl (fun ls hl => ?_)
                refine lv_iinc (v := k_32 + 1) (lv' := [(3, .int (k_32 + 1)), (2, .int 0), (0, .ref h), (1, .ref (xK Z wi))]) hx hb dX9_isWord_69 hl (k := 3) rfl (by rfl) (by decide) rfl (fun ls hl => ?_)
                refine lv_goto (tgt := 32) hx hb dX9_isWord_72 (by decide) ?_
                exact ih_32 (k_32 + 1) 0 (x_step hk0_32 c_6) (Or.inl rfl) (x_mu hk0_32 c_6 hmu) ls (lv_sub hl [2, 3, 1, 0] rfl) (by rw [hlq_32]; rw [sX9_isWord_l32_s]; rw [if_neg c_6]; rw [if_neg c_7]; rw [if_neg c_8]; try rfl)
              · refine lv_iconst (v := 1) hx hb dX9_isWord_63 (by decide) ?_
                refine lv_goto (tgt := 68) hx hb dX9_isWord_64 (by decide) ?_
                refine lv_istore_n (lv' := [(2, .int 1), (0, .ref h), (1, .ref (xK Z wi)), (3, .int k_32)]) hx hb dX9_isWord_68 rfl hl (by decide) rfl (fun ls hl => ?_)
                refine lv_iinc (v := k_32 + 1) (lv' := [(3, .int (k_32 + 1)), (2, .int 1), (0, .ref h), (1, .ref (xK Z wi))]) hx hb dX9_isWord_69 hl (k := 3) rfl (by rfl) (by decide) rfl (fun ls hl => ?_)
                refine lv_goto (tgt := 32) hx hb dX9_isWord_72 (by decide) ?_
                exact ih_32 (k_32 + 1) 1 (x_step hk0_32 c_6) (Or.inr ⟨rfl, (hsm_32.resolve_left c_7).2⟩) (x_mu hk0_32 c_6 hmu) ls (lv_sub hl [2, 3, 1, 0] rfl) (by rw [hlq_32]; rw [sX9_isWord_l32_s]; rw [if_neg c_6]; rw [if_neg c_7]; rw [if_pos c_8]; try rfl)
      exact lp_32 (xMu (sJ0_length_8abf5 wi) 0 + 1) 0 0 (by decide) (Or.inl rfl) (Nat.lt_succ_self _) ls (lv_sub hl [2, 3, 1, 0] rfl) (by unfold sX9_isWord; rw [if_pos c_1]; rw [if_neg c_5]; try rfl)
    · refine lv_iconst (v := 1) hx hb dX9_isWord_24 (by decide) ?_
      refine lv_goto (tgt := 29) hx hb dX9_isWord_25 (by decide) ?_
      refine lv_istore_n (lv' := [(2, .int 1), (0, .ref h), (1, .ref (xK Z wi))]) hx hb dX9_isWord_29 rfl hl (by decide) rfl (fun ls hl => ?_)
      refine lv_iconst (v := 0) hx hb dX9_isWord_30 (by decide) ?_
      refine lv_istore_n (lv' := [(3, .int 0), (2, .int 1), (0, .ref h), (1, .ref (xK Z wi))]) hx hb dX9_isWord_31 rfl hl (by decide) rfl (fun ls hl => ?_)
      have ex_32 : ∀ (k_32 : Int32) (sm_32 : Int32), (¬ k_32 < 0) → (sm_32 = 0 ∨ (sm_32 = 1 ∧ next - start = sJ0_length_8abf5 wi)) → ∀ (ls : Array Slot), lv_has ls 4 [(0, .ref h), (1, .ref (xK Z wi)), (2, .int sm_32), (3, .int k_32)] → (sX9_isWord start next token text wi) = (sm_32 : Int32) → W p l e ({ frames := 4, cells := 0, slots := 0, locals := 85 }) s m args below meth c s.heap [] 0 0 (MQ below (xQ (.int (sX9_isWord start next token text wi))) args s 0 0 (fun _ => False)) (F0 m 75 ls []) := by
        intro k_32 sm_32 hk0_32 hsm_32 ls hl hx_32
        refine lv_iload_n hx hb dX9_isWord_75 rfl (lv_at hl 2 rfl) ?_
        exact x_zr (by rw [hx_32]; try rfl) hx hb hr hlk (x_nb (x_or1 hsm_32)) dX9_isWord_76
      have lp_32 : ∀ (kk_32 : Nat), ∀ (k_32 : Int32) (sm_32 : Int32), (¬ k_32 < 0) → (sm_32 = 0 ∨ (sm_32 = 1 ∧ next - start = sJ0_length_8abf5 wi)) → (xMu (sJ0_length_8abf5 wi) k_32) < kk_32 → ∀ (ls : Array Slot), lv_has ls 4 [(0, .ref h), (1, .ref (xK Z wi)), (2, .int sm_32), (3, .int k_32)] → (sX9_isWord start next token text wi) = sX9_isWord_l32 start text wi (fun (k_32 : Int32) (sm_32 : Int32) => sm_32) kk_32 k_32 sm_32 → W p l e ({ frames := 4, cells := 0, slots := 0, locals := 85 }) s m args below meth c s.heap [] 0 0 (MQ below (xQ (.int (sX9_isWord start next token text wi))) args s 0 0 (fun _ => False)) (F0 m 32 ls []) := by
        intro kk_32
        induction kk_32 with
        | zero =>
          intro k_32 sm_32 hk0_32 hsm_32 hmu
          exact absurd hmu (Nat.not_lt_zero _)
        | succ kk_32 ih_32 =>
          intro k_32 sm_32 hk0_32 hsm_32 hmu ls hl hlq_32
          refine lv_iload_n hx hb dX9_isWord_32 rfl (lv_at hl 3 rfl) ?_
          refine lv_aload_n hx hb dX9_isWord_33 rfl (lv_at hl 1 rfl) ?_
          refine x_zK hi [] (kJ0_length_8abf5 l E Z wi hi) ⟨hx, hb, hml, hown, hts⟩ (cwV 0 hts gX9_isWord_J0_length_8abf5 rfl rfl rfl hdJ0_length_8abf5 ⟨Nat.le_of_ble_eq_true rfl, Nat.le_of_ble_eq_true rfl⟩) hZ hS hE hP hD [] rfl rfl hl.1 rfl rfl (Nat.le_of_ble_eq_true rfl) dX9_isWord_34 (Nat.le_of_ble_eq_true rfl) (Nat.le_of_ble_eq_true rfl) ?_
          refine lv_icmp_ge (tgt := 75) hx hb dX9_isWord_37 (by decide) (fun c_9 => ?_) (fun c_9 => ?_)
          · exact ex_32 k_32 sm_32 hk0_32 hsm_32 ls (lv_sub hl [0, 1, 2, 3] rfl) (by rw [hlq_32]; rw [sX9_isWord_l32_s]; rw [if_pos c_9]; try rfl)
          · refine lv_iload_n hx hb dX9_isWord_40 rfl (lv_at hl 2 rfl) ?_
            refine lv_if_eq (tgt := 75) hx hb dX9_isWord_41 (by decide) (fun c_10 => ?_) (fun c_10 => ?_)
            · exact ex_32 k_32 sm_32 hk0_32 hsm_32 ls (lv_sub hl [0, 1, 2, 3] rfl) (by rw [hlq_32]; rw [sX9_isWord_l32_s]; rw [if_neg c_9]; rw [if_pos c_10]; try rfl)
            · refine lv_aload_n hx hb dX9_isWord_44 rfl (lv_at hl 0 rfl) ?_
              refine va_get (D := E.1) (ci := 9) (v := .ref tx) (C := RX9) (T := TX9) (N := 22) hx hb hts g_2 hown hE.1 hP 0 rfl rfl 3 (by decide) g_3 (fun _ h9 => h9) rfl dX9_isWord_45 ?_
              refine lv_aload_n hx hb dX9_isWord_48 rfl (lv_at hl 0 rfl) ?_
              refine va_get (D := E.1) (ci := 9) (v := .int start) (C := RX9) (T := TX9) (N := 22) hx hb hts g_2 hown hE.1 hP 0 rfl rfl 6 (by decide) g_4 (fun _ h9 => h9) rfl dX9_isWord_49 ?_
              refine lv_iload_n hx hb dX9_isWord_52 rfl (lv_at hl 3 rfl) ?_
              refine lv_iadd hx hb dX9_isWord_53 ?_
              refine x_bald hx hb hE.1 hP 1 1 rfl rfl ((start + k_32).toNatClampNeg) rfl (x_tokin ht (hsm_32.resolve_left c_10).2 hk0_32 c_9) dX9_isWord_54 ?_
              refine lv_aload_n hx hb dX9_isWord_55 rfl (lv_at hl 1 rfl) ?_
              refine lv_iload_n hx hb dX9_isWord_56 rfl (lv_at hl 3 rfl) ?_
              refine x_zK hi [.int k_32] (kJ0_charAt_5068e l E Z wi k_32 hi hk0_32 (x_ltlen hi c_9)) ⟨hx, hb, hml, hown, hts⟩ (cwV 1 hts gX9_isWord_J0_charAt_5068e rfl rfl rfl hdJ0_charAt_5068e ⟨Nat.le_of_ble_eq_true rfl, Nat.le_of_ble_eq_true rfl⟩) hZ hS hE hP hD [] rfl rfl hl.1 rfl rfl (Nat.le_of_ble_eq_true rfl) dX9_isWord_57 (Nat.le_of_ble_eq_true rfl) (Nat.le_of_ble_eq_true rfl) ?_
              refine lv_icmp_ne (tgt := 67) hx hb dX9_isWord_60 (by decide) (fun c_11 => ?_) (fun c_11 => ?_)
              · refine lv_iconst (v := 0) hx hb dX9_isWord_67 (by decide) ?_
                refine lv_istore_n (lv' := [(2, .int 0), (0, .ref h), (1, .ref (xK Z wi)), (3, .int k_32)]) hx hb dX9_isWord_68 rfl hl (by decide) rfl (fun ls hl => ?_)
                refine lv_iinc (v := k_32 + 1) (lv' := [(3, .int (k_32 + 1)), (2, .int 0), (0, .ref h), (1, .ref (xK Z wi))]) hx hb dX9_isWord_69 hl (k := 3) rfl (by rfl) (by decide) rfl (fun ls hl => ?_)
                refine lv_goto (tgt := 32) hx hb dX9_isWord_72 (by decide) ?_
                exact ih_32 (k_32 + 1) 0 (x_step hk0_32 c_9) (Or.inl rfl) (x_mu hk0_32 c_9 hmu) ls (lv_sub hl [2, 3, 1, 0] rfl) (by rw [hlq_32]; rw [sX9_isWord_l32_s]; rw [if_neg c_9]; rw [if_neg c_10]; rw [if_neg c_11]; try rfl)
              · refine lv_iconst (v := 1) hx hb dX9_isWord_63 (by decide) ?_
                refine lv_goto (tgt := 68) hx hb dX9_isWord_64 (by decide) ?_
                refine lv_istore_n (lv' := [(2, .int 1), (0, .ref h), (1, .ref (xK Z wi)), (3, .int k_32)]) hx hb dX9_isWord_68 rfl hl (by decide) rfl (fun ls hl => ?_)
                refine lv_iinc (v := k_32 + 1) (lv' := [(3, .int (k_32 + 1)), (2, .int 1), (0, .ref h), (1, .ref (xK Z wi))]) hx hb dX9_isWord_69 hl (k := 3) rfl (by rfl) (by decide) rfl (fun ls hl => ?_)
                refine lv_goto (tgt := 32) hx hb dX9_isWord_72 (by decide) ?_
                exact ih_32 (k_32 + 1) 1 (x_step hk0_32 c_9) (Or.inr ⟨rfl, (hsm_32.resolve_left c_10).2⟩) (x_mu hk0_32 c_9 hmu) ls (lv_sub hl [2, 3, 1, 0] rfl) (by rw [hlq_32]; rw [sX9_isWord_l32_s]; rw [if_neg c_9]; rw [if_neg c_10]; rw [if_pos c_11]; try rfl)
      exact lp_32 (xMu (sJ0_length_8abf5 wi) 0 + 1) 0 1 (by decide) (Or.inr ⟨rfl, c_5⟩) (Nat.lt_succ_self _) ls (lv_sub hl [2, 3, 1, 0] rfl) (by unfold sX9_isWord; rw [if_pos c_1]; rw [if_pos c_5]; try rfl)
def sX9_fails (start : Int32) (error : Int32) (errorAt : Int32) (why : Int32) : Int32 × Int32 :=
  if error = 0 then
    (why, start)
  else
    (error, errorAt)
theorem hdX9_fails : yX9_fails.cls = RX9 ∧ yX9_fails.cls ≠ "java/lang/invoke/MethodHandle" ∧ yX9_fails.cls ≠ "java/lang/invoke/VarHandle" ∧ (parseMethodDescriptor yX9_fails.desc).map (fun d => d.parameters.length) = some 1 := by decide +kernel
set_option maxHeartbeats 4000000 in
set_option maxRecDepth 100000 in
theorem kX9_fails (l : Launch) (E : XE) (h : Nat) (thrown : Int32) (nw : Nat) (td : Nat) (tx : Nat) (length : Int32) (textSize : Int32) (start : Int32) (next : Int32) (token : Int32) (value : Int32) (error : Int32) (errorAt : Int32) (seen : Int32) (triedWith : Int32) (rr : Nat) (ss : Nat) (tr : Nat) (wa : Nat) (undos : Int32) (ud : Nat) (sl : Nat) (sv : Nat) (why : Int32) : xW (T := Int32 × Int32) l yX9_fails wsX9_fails ({ frames := 0, cells := 0, slots := 0, locals := 0 }) E [(h, .inr (9, [.int thrown, .ref nw, .ref td, .ref tx, .int length, .int textSize, .int start, .int next, .int token, .int value, .int error, .int errorAt, .int seen, .int triedWith, .ref rr, .ref ss, .ref tr, .ref wa, .int undos, .ref ud, .ref sl, .ref sv]))] [.ref h, .int why] (fun _ => some (.int 0)) (fun q => [(h, .inr (9, [.int thrown, .ref nw, .ref td, .ref tx, .int length, .int textSize, .int start, .int next, .int token, .int value, .int q.1, .int q.2, .int seen, .int triedWith, .ref rr, .ref ss, .ref tr, .ref wa, .int undos, .ref ud, .ref sl, .ref sv]))]) (sX9_fails start error errorAt why) 0 0 := by
  refine xW.of (cc := cX9_fails) (maxL := 2) (ret := (some .boolean)) (by decide) rfl (Nat.le_of_ble_eq_true rfl) ?_
  intro p e s m args below meth c ls A hM hE hP hD hS hA hl
  obtain ⟨hx, hb, hr, hml, hts, hown, hlk, hnm⟩ := hM
  have g_1 : (Cond.fieldLink RX9 101 "RailPendulumModel" "error" "I").before args s = true := hts (Cond.fieldLink RX9 101 "RailPendulumModel" "error" "I") (by decide +kernel)
  have g_2 : ∀ w ∈ wsX90, w ∈ wsX9_fails := by decide +kernel
  have g_3 : (Cond.fieldLink RX9 79 "RailPendulumModel" "start" "I").before args s = true := hts (Cond.fieldLink RX9 79 "RailPendulumModel" "start" "I") (by decide +kernel)
  have g_4 : (Cond.fieldLink RX9 20 "RailPendulumModel" "errorAt" "I").before args s = true := hts (Cond.fieldLink RX9 20 "RailPendulumModel" "errorAt" "I") (by decide +kernel)
  have hX : xD A [h] := xD.of hD rfl
  have hl : lv_has ls 2 [(0, .ref h), (1, .int why)] := hl
  refine lv_aload_n hx hb dX9_fails_0 rfl (lv_at hl 0 rfl) ?_
  refine va_get (D := E.1) (ci := 9) (v := .int error) (C := RX9) (T := TX9) (N := 22) hx hb hts g_2 hown hE.1 hP 0 rfl rfl 10 (by decide) g_1 (fun _ h9 => h9) rfl dX9_fails_1 ?_
  refine lv_if_ne (tgt := 20) hx hb dX9_fails_4 (by decide) (fun c_1 => ?_) (fun c_1 => ?_)
  · refine lv_iconst (v := 0) hx hb dX9_fails_20 (by decide) ?_
    exact x_wz (error, errorAt) (by unfold sX9_fails; rw [if_neg c_1]; try rfl) rfl hx hb hr hlk rfl hS hP (hX.d rfl) [0] rfl rfl (Nat.le_of_ble_eq_true rfl) (Nat.le_of_ble_eq_true rfl) dX9_fails_21
  · refine lv_aload_n hx hb dX9_fails_7 rfl (lv_at hl 0 rfl) ?_
    refine lv_iload_n hx hb dX9_fails_8 rfl (lv_at hl 1 rfl) ?_
    refine va_put (D := E.1) (ci := 9) (v := .int why) (ty := .int) (C := RX9) (T := TX9) (N := 22) hx hb hts g_2 tyX9 tyX9_ok nmX9 hown hE.1 hP (hX.d rfl) hS 0 rfl rfl 10 (by decide) g_1 (fun _ h9 => h9) rfl (by decide +kernel) rfl rfl (Nat.le_of_ble_eq_true rfl) dX9_fails_9 (fun H locs hP _ hS => ?_)
    have hP : va_P E.1 vwCl [(h, .inr (9, [.int thrown, .ref nw, .ref td, .ref tx, .int length, .int textSize, .int start, .int next, .int token, .int value, .int why, .int errorAt, .int seen, .int triedWith, .ref rr, .ref ss, .ref tr, .ref wa, .int undos, .ref ud, .ref sl, .ref sv]))] H := hP
    refine lv_aload_n hx hb dX9_fails_12 rfl (lv_at hl 0 rfl) ?_
    refine lv_aload_n hx hb dX9_fails_13 rfl (lv_at hl 0 rfl) ?_
    refine va_get (D := E.1) (ci := 9) (v := .int start) (C := RX9) (T := TX9) (N := 22) hx hb hts g_2 hown hE.1 hP 0 rfl rfl 6 (by decide) g_3 (fun _ h9 => h9) rfl dX9_fails_14 ?_
    refine va_put (D := E.1) (ci := 9) (v := .int start) (ty := .int) (C := RX9) (T := TX9) (N := 22) hx hb hts g_2 tyX9 tyX9_ok nmX9 hown hE.1 hP (hX.d rfl) hS 0 rfl rfl 11 (by decide) g_4 (fun _ h9 => h9) rfl (by decide +kernel) rfl rfl (Nat.le_of_ble_eq_true rfl) dX9_fails_17 (fun H locs hP _ hS => ?_)
    have hP : va_P E.1 vwCl [(h, .inr (9, [.int thrown, .ref nw, .ref td, .ref tx, .int length, .int textSize, .int start, .int next, .int token, .int value, .int why, .int start, .int seen, .int triedWith, .ref rr, .ref ss, .ref tr, .ref wa, .int undos, .ref ud, .ref sl, .ref sv]))] H := hP
    refine lv_iconst (v := 0) hx hb dX9_fails_20 (by decide) ?_
    exact x_wz (why, start) (by unfold sX9_fails; rw [if_pos c_1]; try rfl) rfl hx hb hr hlk rfl hS hP (hX.d rfl) [0] rfl rfl (Nat.le_of_ble_eq_true rfl) (Nat.le_of_ble_eq_true rfl) dX9_fails_21
