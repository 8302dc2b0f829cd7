def sX9_append_q_10 (length : Int32) (text : Nat → Int32) (a_ : Int32) (b_ : Int32) (c_ : Int32) (d_ : Int32) (e_ : Int32) (q_2 : Int32 × (Nat → Int32)) (q_4 : Int32 × (Nat → Int32)) (q_6 : Int32 × (Nat → Int32)) (q_8 : Int32 × (Nat → Int32)) (q_10 : Int32 × (Nat → Int32)) : Int32 × Int32 × Int32 × (Nat → Int32) :=
  (q_10.1, 0, q_10.1, q_10.2)
def sX9_append_q_8 (length : Int32) (text : Nat → Int32) (a_ : Int32) (b_ : Int32) (c_ : Int32) (d_ : Int32) (e_ : Int32) (q_2 : Int32 × (Nat → Int32)) (q_4 : Int32 × (Nat → Int32)) (q_6 : Int32 × (Nat → Int32)) (q_8 : Int32 × (Nat → Int32)) : Int32 × Int32 × Int32 × (Nat → Int32) :=
  sX9_append_q_10 length text a_ b_ c_ d_ e_ q_2 q_4 q_6 q_8 (sX9_bytesOf q_8.1 q_8.2 e_)
def sX9_append_q_6 (length : Int32) (text : Nat → Int32) (a_ : Int32) (b_ : Int32) (c_ : Int32) (d_ : Int32) (e_ : Int32) (q_2 : Int32 × (Nat → Int32)) (q_4 : Int32 × (Nat → Int32)) (q_6 : Int32 × (Nat → Int32)) : Int32 × Int32 × Int32 × (Nat → Int32) :=
  sX9_append_q_8 length text a_ b_ c_ d_ e_ q_2 q_4 q_6 (sX9_bytesOf q_6.1 q_6.2 d_)
def sX9_append_q_4 (length : Int32) (text : Nat → Int32) (a_ : Int32) (b_ : Int32) (c_ : Int32) (d_ : Int32) (e_ : Int32) (q_2 : Int32 × (Nat → Int32)) (q_4 : Int32 × (Nat → Int32)) : Int32 × Int32 × Int32 × (Nat → Int32) :=
  sX9_append_q_6 length text a_ b_ c_ d_ e_ q_2 q_4 (sX9_bytesOf q_4.1 q_4.2 c_)
def sX9_append_q_2 (length : Int32) (text : Nat → Int32) (a_ : Int32) (b_ : Int32) (c_ : Int32) (d_ : Int32) (e_ : Int32) (q_2 : Int32 × (Nat → Int32)) : Int32 × Int32 × Int32 × (Nat → Int32) :=
  sX9_append_q_4 length text a_ b_ c_ d_ e_ q_2 (sX9_bytesOf q_2.1 q_2.2 b_)
def sX9_append (length : Int32) (text : Nat → Int32) (a_ : Int32) (b_ : Int32) (c_ : Int32) (d_ : Int32) (e_ : Int32) : Int32 × Int32 × Int32 × (Nat → Int32) :=
  if (length + 20) ≤ 500 then
    sX9_append_q_2 length text a_ b_ c_ d_ e_ (sX9_bytesOf length text a_)
  else
    ((-1), 0, length, text)
theorem hdX9_append : yX9_append.cls = RX9 ∧ yX9_append.cls ≠ "java/lang/invoke/MethodHandle" ∧ yX9_append.cls ≠ "java/lang/invoke/VarHandle" ∧ (parseMethodDescriptor yX9_append.desc).map (fun d => d.parameters.length) = some 5 := by decide +kernel
set_option maxHeartbeats 4000000 in
set_option maxRecDepth 100000 in
theorem kX9_append (l : Launch) (E : XE) (h : Nat) (thrown : Int32) (nw : Nat) (td : Nat) (tx : Nat) (length : Int32) (textSize : Int32) (start : Int32) (next : Int32) (token : Int32) (value : Int32) (error : Int32) (errorAt : Int32) (seen : Int32) (triedWith : Int32) (rr : Nat) (ss : Nat) (tr : Nat) (wa : Nat) (undos : Int32) (ud : Nat) (sl : Nat) (sv : Nat) (text : Nat → Int32) (a_ : Int32) (b_ : Int32) (c_ : Int32) (d_ : Int32) (e_ : Int32) (hb0 : 0 ≤ length.toInt) (hb1 : length.toInt ≤ 500) : xW (T := Int32 × Int32 × Int32 × (Nat → Int32)) l yX9_append wsX9_append ({ frames := 1, cells := 0, slots := 0, locals := 22 }) E [(h, .inr (9, [.int thrown, .ref nw, .ref td, .ref tx, .int length, .int textSize, .int start, .int next, .int token, .int value, .int error, .int errorAt, .int seen, .int triedWith, .ref rr, .ref ss, .ref tr, .ref wa, .int undos, .ref ud, .ref sl, .ref sv])), (tx, .inl (E.2.2.1, 500, .inl text))] [.ref h, .int a_, .int b_, .int c_, .int d_, .int e_] (fun q => some (.int q.1)) (fun q => [(h, .inr (9, [.int q.2.1, .ref nw, .ref td, .ref tx, .int q.2.2.1, .int textSize, .int start, .int next, .int token, .int value, .int error, .int errorAt, .int seen, .int triedWith, .ref rr, .ref ss, .ref tr, .ref wa, .int undos, .ref ud, .ref sl, .ref sv])), (tx, .inl (E.2.2.1, 500, .inl q.2.2.2))]) (sX9_append length text a_ b_ c_ d_ e_) 0 0 := by
  refine xW.of (cc := cX9_append) (maxL := 6) (ret := (some .int)) (by decide) rfl (Nat.le_of_ble_eq_true rfl) ?_
  intro p e s m args below meth c ls A hM hE hP hD hS hA hl
  obtain ⟨hx, hb, hr, hml, hts, hown, hlk, hnm⟩ := hM
  have g_1 : (Cond.fieldLink RX9 55 "RailPendulumModel" "thrown" "I").before args s = true := hts (Cond.fieldLink RX9 55 "RailPendulumModel" "thrown" "I") (by decide +kernel)
  have g_2 : ∀ w ∈ wsX90, w ∈ wsX9_append := by decide +kernel
  have g_3 : (Cond.fieldLink RX9 62 "RailPendulumModel" "length" "I").before args s = true := hts (Cond.fieldLink RX9 62 "RailPendulumModel" "length" "I") (by decide +kernel)
  have hX : xD A [h, tx] := xD.of hD rfl
  have hl : lv_has ls 6 [(0, .ref h), (1, .int a_), (2, .int b_), (3, .int c_), (4, .int d_), (5, .int e_)] := hl
  refine lv_aload_n hx hb dX9_append_0 rfl (lv_at hl 0 rfl) ?_
  refine lv_iconst (v := 0) hx hb dX9_append_1 (by decide) ?_
  refine va_put (D := E.1) (ci := 9) (v := .int 0) (ty := .int) (C := RX9) (T := TX9) (N := 22) hx hb hts g_2 tyX9 tyX9_ok nmX9 hown hE.1 hP (hX.d rfl) hS 0 rfl rfl 0 (by decide) g_1 (fun _ h9 => h9) rfl (by decide +kernel) rfl rfl (Nat.le_of_ble_eq_true rfl) dX9_append_2 (fun H locs hP _ hS => ?_)
  have hP : va_P E.1 vwCl [(h, .inr (9, [.int 0, .ref nw, .ref td, .ref tx, .int length, .int textSize, .int start, .int next, .int token, .int value, .int error, .int errorAt, .int seen, .int triedWith, .ref rr, .ref ss, .ref tr, .ref wa, .int undos, .ref ud, .ref sl, .ref sv])), (tx, .inl (E.2.2.1, 500, .inl text))] H := hP
  refine lv_aload_n hx hb dX9_append_5 rfl (lv_at hl 0 rfl) ?_
  refine va_get (D := E.1) (ci := 9) (v := .int length) (C := RX9) (T := TX9) (N := 22) hx hb hts g_2 hown hE.1 hP 0 rfl rfl 4 (by decide) g_3 (fun _ h9 => h9) rfl dX9_append_6 ?_
  refine lv_bipush (v := 20) hx hb dX9_append_9 (by decide) ?_
  refine lv_iadd hx hb dX9_append_11 ?_
  refine lv_sipush (v := 500) hx hb dX9_append_12 (by decide) ?_
  refine lv_icmp_le (tgt := 20) hx hb dX9_append_15 (by decide) (fun c_1 => ?_) (fun c_1 => ?_)
  · refine lv_aload_n hx hb dX9_append_20 rfl (lv_at hl 0 rfl) ?_
    refine lv_iload_n hx hb dX9_append_21 rfl (lv_at hl 1 rfl) ?_
    refine x_wV (wr := []) [.int a_] (kX9_bytesOf l E h 0 nw td tx length textSize start next token value error errorAt seen triedWith rr ss tr wa undos ud sl sv text a_ (by have h80 := x_add20 hb0 hb1 c_1; omega) (by have h80 := x_add20 hb0 hb1 c_1; omega)) ⟨hx, hb, hml, hown, hts⟩ (cwV 1 hts gX9_append_X9_bytesOf rfl rfl rfl hdX9_bytesOf ⟨Nat.le_of_ble_eq_true rfl, Nat.le_of_ble_eq_true rfl⟩) hE hP (hX.d rfl) hS hA [0, 1] [] rfl rfl rfl rfl (by decide) (ci := 9) (q0 := 0) rfl rfl rfl hl.1 rfl rfl (Nat.le_of_ble_eq_true rfl) dX9_append_22 (Nat.le_of_ble_eq_true rfl) (Nat.le_of_ble_eq_true rfl) (fun q_2 H locs hq_2 hP hD hS => ?_)
    have hP : va_P E.1 vwCl [(h, .inr (9, [.int 0, .ref nw, .ref td, .ref tx, .int q_2.1, .int textSize, .int start, .int next, .int token, .int value, .int error, .int errorAt, .int seen, .int triedWith, .ref rr, .ref ss, .ref tr, .ref wa, .int undos, .ref ud, .ref sl, .ref sv])), (tx, .inl (E.2.2.1, 500, .inl q_2.2))] H := hP
    have hX : xD A [h, tx] := xD.of hD rfl
    have gv_3 : q_2.1.toInt = length.toInt + 4 := by rw [hq_2]; exact x_bytes4 (by have h80 := x_add20 hb0 hb1 c_1; omega) (by have h80 := x_add20 hb0 hb1 c_1; omega)
    refine W.eq (g2 := F0 m 25 ls []) rfl ?_
    refine lv_aload_n hx hb dX9_append_25 rfl (lv_at hl 0 rfl) ?_
    refine lv_iload_n hx hb dX9_append_26 rfl (lv_at hl 2 rfl) ?_
    refine x_wV (wr := []) [.int b_] (kX9_bytesOf l E h 0 nw td tx q_2.1 textSize start next token value error errorAt seen triedWith rr ss tr wa undos ud sl sv q_2.2 b_ (by have h80 := x_add20 hb0 hb1 c_1; omega) (by have h80 := x_add20 hb0 hb1 c_1; omega)) ⟨hx, hb, hml, hown, hts⟩ (cwV 1 hts gX9_append_X9_bytesOf rfl rfl rfl hdX9_bytesOf ⟨Nat.le_of_ble_eq_true rfl, Nat.le_of_ble_eq_true rfl⟩) hE hP (hX.d rfl) hS hA [0, 1] [] rfl rfl rfl rfl (by decide) (ci := 9) (q0 := 0) rfl rfl rfl hl.1 rfl rfl (Nat.le_of_ble_eq_true rfl) dX9_append_27 (Nat.le_of_ble_eq_true rfl) (Nat.le_of_ble_eq_true rfl) (fun q_4 H locs hq_4 hP hD hS => ?_)
    have hP : va_P E.1 vwCl [(h, .inr (9, [.int 0, .ref nw, .ref td, .ref tx, .int q_4.1, .int textSize, .int start, .int next, .int token, .int value, .int error, .int errorAt, .int seen, .int triedWith, .ref rr, .ref ss, .ref tr, .ref wa, .int undos, .ref ud, .ref sl, .ref sv])), (tx, .inl (E.2.2.1, 500, .inl q_4.2))] H := hP
    have hX : xD A [h, tx] := xD.of hD rfl
    have gv_5 : q_4.1.toInt = q_2.1.toInt + 4 := by rw [hq_4]; exact x_bytes4 (by have h80 := x_add20 hb0 hb1 c_1; omega) (by have h80 := x_add20 hb0 hb1 c_1; omega)
    refine W.eq (g2 := F0 m 30 ls []) rfl ?_
    refine lv_aload_n hx hb dX9_append_30 rfl (lv_at hl 0 rfl) ?_
    refine lv_iload_n hx hb dX9_append_31 rfl (lv_at hl 3 rfl) ?_
    refine x_wV (wr := []) [.int c_] (kX9_bytesOf l E h 0 nw td tx q_4.1 textSize start next token value error errorAt seen triedWith rr ss tr wa undos ud sl sv q_4.2 c_ (by have h80 := x_add20 hb0 hb1 c_1; omega) (by have h80 := x_add20 hb0 hb1 c_1; omega)) ⟨hx, hb, hml, hown, hts⟩ (cwV 1 hts gX9_append_X9_bytesOf rfl rfl rfl hdX9_bytesOf ⟨Nat.le_of_ble_eq_true rfl, Nat.le_of_ble_eq_true rfl⟩) hE hP (hX.d rfl) hS hA [0, 1] [] rfl rfl rfl rfl (by decide) (ci := 9) (q0 := 0) rfl rfl rfl hl.1 rfl rfl (Nat.le_of_ble_eq_true rfl) dX9_append_32 (Nat.le_of_ble_eq_true rfl) (Nat.le_of_ble_eq_true rfl) (fun q_6 H locs hq_6 hP hD hS => ?_)
    have hP : va_P E.1 vwCl [(h, .inr (9, [.int 0, .ref nw, .ref td, .ref tx, .int q_6.1, .int textSize, .int start, .int next, .int token, .int value, .int error, .int errorAt, .int seen, .int triedWith, .ref rr, .ref ss, .ref tr, .ref wa, .int undos, .ref ud, .ref sl, .ref sv])), (tx, .inl (E.2.2.1, 500, .inl q_6.2))] H := hP
    have hX : xD A [h, tx] := xD.of hD rfl
    have gv_7 : q_6.1.toInt = q_4.1.toInt + 4 := by rw [hq_6]; exact x_bytes4 (by have h80 := x_add20 hb0 hb1 c_1; omega) (by have h80 := x_add20 hb0 hb1 c_1; omega)
    refine W.eq (g2 := F0 m 35 ls []) rfl ?_
    refine lv_aload_n hx hb dX9_append_35 rfl (lv_at hl 0 rfl) ?_
    refine lv_iload hx hb dX9_append_36 (lv_at hl 4 rfl) ?_
    refine x_wV (wr := []) [.int d_] (kX9_bytesOf l E h 0 nw td tx q_6.1 textSize start next token value error errorAt seen triedWith rr ss tr wa undos ud sl sv q_6.2 d_ (by have h80 := x_add20 hb0 hb1 c_1; omega) (by have h80 := x_add20 hb0 hb1 c_1; omega)) ⟨hx, hb, hml, hown, hts⟩ (cwV 1 hts gX9_append_X9_bytesOf rfl rfl rfl hdX9_bytesOf ⟨Nat.le_of_ble_eq_true rfl, Nat.le_of_ble_eq_true rfl⟩) hE hP (hX.d rfl) hS hA [0, 1] [] rfl rfl rfl rfl (by decide) (ci := 9) (q0 := 0) rfl rfl rfl hl.1 rfl rfl (Nat.le_of_ble_eq_true rfl) dX9_append_38 (Nat.le_of_ble_eq_true rfl) (Nat.le_of_ble_eq_true rfl) (fun q_8 H locs hq_8 hP hD hS => ?_)
    have hP : va_P E.1 vwCl [(h, .inr (9, [.int 0, .ref nw, .ref td, .ref tx, .int q_8.1, .int textSize, .int start, .int next, .int token, .int value, .int error, .int errorAt, .int seen, .int triedWith, .ref rr, .ref ss, .ref tr, .ref wa, .int undos, .ref ud, .ref sl, .ref sv])), (tx, .inl (E.2.2.1, 500, .inl q_8.2))] H := hP
    have hX : xD A [h, tx] := xD.of hD rfl
    have gv_9 : q_8.1.toInt = q_6.1.toInt + 4 := by rw [hq_8]; exact x_bytes4 (by have h80 := x_add20 hb0 hb1 c_1; omega) (by have h80 := x_add20 hb0 hb1 c_1; omega)
    refine W.eq (g2 := F0 m 41 ls []) rfl ?_
    refine lv_aload_n hx hb dX9_append_41 rfl (lv_at hl 0 rfl) ?_
    refine lv_iload hx hb dX9_append_42 (lv_at hl 5 rfl) ?_
    refine x_wV (wr := []) [.int e_] (kX9_bytesOf l E h 0 nw td tx q_8.1 textSize start next token value error errorAt seen triedWith rr ss tr wa undos ud sl sv q_8.2 e_ (by have h80 := x_add20 hb0 hb1 c_1; omega) (by have h80 := x_add20 hb0 hb1 c_1; omega)) ⟨hx, hb, hml, hown, hts⟩ (cwV 1 hts gX9_append_X9_bytesOf rfl rfl rfl hdX9_bytesOf ⟨Nat.le_of_ble_eq_true rfl, Nat.le_of_ble_eq_true rfl⟩) hE hP (hX.d rfl) hS hA [0, 1] [] rfl rfl rfl rfl (by decide) (ci := 9) (q0 := 0) rfl rfl rfl hl.1 rfl rfl (Nat.le_of_ble_eq_true rfl) dX9_append_44 (Nat.le_of_ble_eq_true rfl) (Nat.le_of_ble_eq_true rfl) (fun q_10 H locs hq_10 hP hD hS => ?_)
    have hP : va_P E.1 vwCl [(h, .inr (9, [.int 0, .ref nw, .ref td, .ref tx, .int q_10.1, .int textSize, .int start, .int next, .int token, .int value, .int error, .int errorAt, .int seen, .int triedWith, .ref rr, .ref ss, .ref tr, .ref wa, .int undos, .ref ud, .ref sl, .ref sv])), (tx, .inl (E.2.2.1, 500, .inl q_10.2))] H := hP
    have hX : xD A [h, tx] := xD.of hD rfl
    have gv_11 : q_10.1.toInt = q_8.1.toInt + 4 := by rw [hq_10]; exact x_bytes4 (by have h80 := x_add20 hb0 hb1 c_1; omega) (by have h80 := x_add20 hb0 hb1 c_1; omega)
    refine W.eq (g2 := F0 m 47 ls []) rfl ?_
    refine lv_aload_n hx hb dX9_append_47 rfl (lv_at hl 0 rfl) ?_
    refine va_get (D := E.1) (ci := 9) (v := .int q_10.1) (C := RX9) (T := TX9) (N := 22) hx hb hts g_2 hown hE.1 hP 0 rfl rfl 4 (by decide) g_3 (fun _ h9 => h9) rfl dX9_append_48 ?_
    exact x_wi (q_10.1, 0, q_10.1, q_10.2) (by unfold sX9_append; rw [if_pos c_1]; rw [← hq_2]; unfold sX9_append_q_2; rw [← hq_4]; unfold sX9_append_q_4; rw [← hq_6]; unfold sX9_append_q_6; rw [← hq_8]; unfold sX9_append_q_8; rw [← hq_10]; unfold sX9_append_q_10; try rfl) rfl hx hb hr hlk hS hP (hX.d rfl) [0, 1] rfl rfl (Nat.le_of_ble_eq_true rfl) (Nat.le_of_ble_eq_true rfl) dX9_append_51
  · refine lv_iconst (v := (-1)) hx hb dX9_append_18 (by decide) ?_
    exact x_wi ((-1), 0, length, text) (by unfold sX9_append; rw [if_neg c_1]; try rfl) rfl hx hb hr hlk hS hP (hX.d rfl) [0, 1] rfl rfl (Nat.le_of_ble_eq_true rfl) (Nat.le_of_ble_eq_true rfl) dX9_append_19
def sX9_begins_l2  (kont_2 : Int32 → (Nat → Int32) → (Nat → Int32) × Int32 × Int32 × (Nat → Int32)) : Nat → Int32 → (Nat → Int32) → (Nat → Int32) × Int32 × Int32 × (Nat → Int32)
  | 0, i_2, now_2 => kont_2 i_2 now_2
  | kk_2 + 1, i_2, now_2 =>
    if 214 ≤ i_2 then
      kont_2 i_2 now_2
    else
      sX9_begins_l2 kont_2 kk_2 (i_2 + 1) (upd now_2 i_2.toNatClampNeg 0)
theorem sX9_begins_l2_s  (kont_2 : Int32 → (Nat → Int32) → (Nat → Int32) × Int32 × Int32 × (Nat → Int32)) (kk_2 : Nat) (i_2 : Int32) (now_2 : Nat → Int32) : sX9_begins_l2 kont_2 (kk_2 + 1) i_2 now_2 =
    if 214 ≤ i_2 then
      kont_2 i_2 now_2
    else
      sX9_begins_l2 kont_2 kk_2 (i_2 + 1) (upd now_2 i_2.toNatClampNeg 0) := rfl
def sX9_begins (now : Nat → Int32) (told : Nat → Int32) (sav : Nat → Int32) : (Nat → Int32) × Int32 × Int32 × (Nat → Int32) :=
  sX9_begins_l2 (fun (i_2 : Int32) (now_2 : Nat → Int32) => (upd (upd (upd now_2 5 (told 7)) 10 2048) 11 2048, 0, 0, upd (upd sav 0 0) 1 0)) 215 0 now
theorem hdX9_begins : yX9_begins.cls = RX9 ∧ yX9_begins.cls ≠ "java/lang/invoke/MethodHandle" ∧ yX9_begins.cls ≠ "java/lang/invoke/VarHandle" ∧ (parseMethodDescriptor yX9_begins.desc).map (fun d => d.parameters.length) = some 0 := by decide +kernel
set_option maxHeartbeats 4000000 in
set_option maxRecDepth 100000 in
theorem kX9_begins (l : Launch) (E : XE) (h : Nat) (thrown : Int32) (nw : Nat) (td : Nat) (tx : Nat) (length : Int32) (textSize : Int32) (start : Int32) (next : Int32) (token : Int32) (value : Int32) (error : Int32) (errorAt : Int32) (seen : Int32) (triedWith : Int32) (rr : Nat) (ss : Nat) (tr : Nat) (wa : Nat) (undos : Int32) (ud : Nat) (sl : Nat) (sv : Nat) (now : Nat → Int32) (told : Nat → Int32) (sav : Nat → Int32) : xW (T := (Nat → Int32) × Int32 × Int32 × (Nat → Int32)) l yX9_begins wsX9_begins ({ frames := 0, cells := 0, slots := 0, locals := 0 }) E [(h, .inr (9, [.int thrown, .ref nw, .ref td, .ref tx, .int length, .int textSize, .int start, .int next, .int token, .int value, .int error, .int errorAt, .int seen, .int triedWith, .ref rr, .ref ss, .ref tr, .ref wa, .int undos, .ref ud, .ref sl, .ref sv])), (nw, .inl (E.2.1, 214, .inl now)), (td, .inl (E.2.1, 48, .inl told)), (sv, .inl (E.2.2.2.1, 2, .inl sav))] [.ref h] (fun _ => none) (fun q => [(h, .inr (9, [.int thrown, .ref nw, .ref td, .ref tx, .int length, .int textSize, .int start, .int next, .int token, .int value, .int error, .int errorAt, .int seen, .int q.2.2.1, .ref rr, .ref ss, .ref tr, .ref wa, .int q.2.1, .ref ud, .ref sl, .ref sv])), (nw, .inl (E.2.1, 214, .inl q.1)), (td, .inl (E.2.1, 48, .inl told)), (sv, .inl (E.2.2.2.1, 2, .inl q.2.2.2))]) (sX9_begins now told sav) 0 0 := by
  refine xW.of (cc := cX9_begins) (maxL := 2) (ret := none) (by decide) rfl (Nat.le_of_ble_eq_true rfl) ?_
  intro p e s m args below meth c ls A hM hE hP hD hS hA hl
  obtain ⟨hx, hb, hr, hml, hts, hown, hlk, hnm⟩ := hM
  have g_1 : (Cond.fieldLink RX9 7 "RailPendulumModel" "now" "[I").before args s = true := hts (Cond.fieldLink RX9 7 "RailPendulumModel" "now" "[I") (by decide +kernel)
  have g_2 : ∀ w ∈ wsX90, w ∈ wsX9_begins := by decide +kernel
  have g_3 : (Cond.fieldLink RX9 13 "RailPendulumModel" "told" "[I").before args s = true := hts (Cond.fieldLink RX9 13 "RailPendulumModel" "told" "[I") (by decide +kernel)
  have g_4 : (Cond.fieldLink RX9 163 "RailPendulumModel" "undos" "I").before args s = true := hts (Cond.fieldLink RX9 163 "RailPendulumModel" "undos" "I") (by decide +kernel)
  have g_5 : (Cond.fieldLink RX9 42 "RailPendulumModel" "isSaved" "[Z").before args s = true := hts (Cond.fieldLink RX9 42 "RailPendulumModel" "isSaved" "[Z") (by decide +kernel)
  have g_6 : (Cond.fieldLink RX9 166 "RailPendulumModel" "triedWith" "I").before args s = true := hts (Cond.fieldLink RX9 166 "RailPendulumModel" "triedWith" "I") (by decide +kernel)
  have hX : xD A [h, nw, td, sv] := xD.of hD rfl
  have hl : lv_has ls 2 [(0, .ref h)] := hl
  refine lv_iconst (v := 0) hx hb dX9_begins_0 (by decide) ?_
  refine lv_istore_n (lv' := [(1, .int 0), (0, .ref h)]) hx hb dX9_begins_1 rfl hl (by decide) rfl (fun ls hl => ?_)
  have ex_2 : ∀ (i_2 : Int32) (now_2 : Nat → Int32), (¬ i_2 < 0) → ∀ (H : Heap) (locs : List Loc), va_P E.1 vwCl [(h, .inr (9, [.int thrown, .ref nw, .ref td, .ref tx, .int length, .int textSize, .int start, .int next, .int token, .int value, .int error, .int errorAt, .int seen, .int triedWith, .ref rr, .ref ss, .ref tr, .ref wa, .int undos, .ref ud, .ref sl, .ref sv])), (nw, .inl (E.2.1, 214, .inl now_2)), (td, .inl (E.2.1, 48, .inl told)), (sv, .inl (E.2.2.2.1, 2, .inl sav))] H → va_S A s.heap H locs → ∀ (ls : Array Slot), lv_has ls 2 [(0, .ref h), (1, .int i_2)] → (sX9_begins now told sav) = ((upd (upd (upd now_2 5 (told 7)) 10 2048) 11 2048, 0, 0, upd (upd sav 0 0) 1 0) : (Nat → Int32) × Int32 × Int32 × (Nat → Int32)) → W p l e ({ frames := 0, cells := 0, slots := 0, locals := 0 }) s m args below meth c H locs 0 0 (MQ below (xO (T := (Nat → Int32) × Int32 × Int32 × (Nat → Int32)) E A (fun _ => none) (fun q => [(h, .inr (9, [.int thrown, .ref nw, .ref td, .ref tx, .int length, .int textSize, .int start, .int next, .int token, .int value, .int error, .int errorAt, .int seen, .int q.2.2.1, .ref rr, .ref ss, .ref tr, .ref wa, .int q.2.1, .ref ud, .ref sl, .ref sv])), (nw, .inl (E.2.1, 214, .inl q.1)), (td, .inl (E.2.1, 48, .inl told)), (sv, .inl (E.2.2.2.1, 2, .inl q.2.2.2))]) (sX9_begins now told sav)) args s 0 0 A) (F0 m 22 ls []) := by
    intro i_2 now_2 hi0_2 H locs hP hS ls hl hx_2
    refine lv_aload_n hx hb dX9_begins_22 rfl (lv_at hl 0 rfl) ?_
    refine va_get (D := E.1) (ci := 9) (v := .ref nw) (C := RX9) (T := TX9) (N := 22) hx hb hts g_2 hown hE.1 hP 0 rfl rfl 1 (by decide) g_1 (fun _ h9 => h9) rfl dX9_begins_23 ?_
    refine lv_iconst (v := 5) hx hb dX9_begins_26 (by decide) ?_
    refine lv_aload_n hx hb dX9_begins_27 rfl (lv_at hl 0 rfl) ?_
    refine va_get (D := E.1) (ci := 9) (v := .ref td) (C := RX9) (T := TX9) (N := 22) hx hb hts g_2 hown hE.1 hP 0 rfl rfl 2 (by decide) g_3 (fun _ h9 => h9) rfl dX9_begins_28 ?_
    refine lv_bipush (v := 7) hx hb dX9_begins_31 (by decide) ?_
    refine x_iald hx hb hE.1 hP 2 0 rfl rfl 7 (by decide) (by unfold vp_in; decide) dX9_begins_33 ?_
    refine x_iast hx hb hE.1 hP (hX.d rfl) hS 1 0 rfl rfl 5 (by decide) (by unfold vp_in; decide) dX9_begins_34 (fun H locs hP _ hS => ?_)
    have hP : va_P E.1 vwCl [(h, .inr (9, [.int thrown, .ref nw, .ref td, .ref tx, .int length, .int textSize, .int start, .int next, .int token, .int value, .int error, .int errorAt, .int seen, .int triedWith, .ref rr, .ref ss, .ref tr, .ref wa, .int undos, .ref ud, .ref sl, .ref sv])), (nw, .inl (E.2.1, 214, .inl (upd now_2 5 (told 7)))), (td, .inl (E.2.1, 48, .inl told)), (sv, .inl (E.2.2.2.1, 2, .inl sav))] H := hP
    refine lv_aload_n hx hb dX9_begins_35 rfl (lv_at hl 0 rfl) ?_
    refine va_get (D := E.1) (ci := 9) (v := .ref nw) (C := RX9) (T := TX9) (N := 22) hx hb hts g_2 hown hE.1 hP 0 rfl rfl 1 (by decide) g_1 (fun _ h9 => h9) rfl dX9_begins_36 ?_
    refine lv_bipush (v := 10) hx hb dX9_begins_39 (by decide) ?_
    refine lv_sipush (v := 2048) hx hb dX9_begins_41 (by decide) ?_
    refine x_iast hx hb hE.1 hP (hX.d rfl) hS 1 0 rfl rfl 10 (by decide) (by unfold vp_in; decide) dX9_begins_44 (fun H locs hP _ hS => ?_)
    have hP : va_P E.1 vwCl [(h, .inr (9, [.int thrown, .ref nw, .ref td, .ref tx, .int length, .int textSize, .int start, .int next, .int token, .int value, .int error, .int errorAt, .int seen, .int triedWith, .ref rr, .ref ss, .ref tr, .ref wa, .int undos, .ref ud, .ref sl, .ref sv])), (nw, .inl (E.2.1, 214, .inl (upd (upd now_2 5 (told 7)) 10 2048))), (td, .inl (E.2.1, 48, .inl told)), (sv, .inl (E.2.2.2.1, 2, .inl sav))] H := hP
    refine lv_aload_n hx hb dX9_begins_45 rfl (lv_at hl 0 rfl) ?_
    refine va_get (D := E.1) (ci := 9) (v := .ref nw) (C := RX9) (T := TX9) (N := 22) hx hb hts g_2 hown hE.1 hP 0 rfl rfl 1 (by decide) g_1 (fun _ h9 => h9) rfl dX9_begins_46 ?_
    refine lv_bipush (v := 11) hx hb dX9_begins_49 (by decide) ?_
    refine lv_sipush (v := 2048) hx hb dX9_begins_51 (by decide) ?_
    refine x_iast hx hb hE.1 hP (hX.d rfl) hS 1 0 rfl rfl 11 (by decide) (by unfold vp_in; decide) dX9_begins_54 (fun H locs hP _ hS => ?_)
    have hP : va_P E.1 vwCl [(h, .inr (9, [.int thrown, .ref nw, .ref td, .ref tx, .int length, .int textSize, .int start, .int next, .int token, .int value, .int error, .int errorAt, .int seen, .int triedWith, .ref rr, .ref ss, .ref tr, .ref wa, .int undos, .ref ud, .ref sl, .ref sv])), (nw, .inl (E.2.1, 214, .inl (upd (upd (upd now_2 5 (told 7)) 10 2048) 11 2048))), (td, .inl (E.2.1, 48, .inl told)), (sv, .inl (E.2.2.2.1, 2, .inl sav))] H := hP
    refine lv_aload_n hx hb dX9_begins_55 rfl (lv_at hl 0 rfl) ?_
    refine lv_iconst (v := 0) hx hb dX9_begins_56 (by decide) ?_
    refine va_put (D := E.1) (ci := 9) (v := .int 0) (ty := .int) (C := RX9) (T := TX9) (N := 22) hx hb hts g_2 tyX9 tyX9_ok nmX9 hown hE.1 hP (hX.d rfl) hS 0 rfl rfl 18 (by decide) g_4 (fun _ h9 => h9) rfl (by decide +kernel) rfl rfl (Nat.le_of_ble_eq_true rfl) dX9_begins_57 (fun H locs hP _ hS => ?_)
    have hP : va_P E.1 vwCl [(h, .inr (9, [.int thrown, .ref nw, .ref td, .ref tx, .int length, .int textSize, .int start, .int next, .int token, .int value, .int error, .int errorAt, .int seen, .int triedWith, .ref rr, .ref ss, .ref tr, .ref wa, .int 0, .ref ud, .ref sl, .ref sv])), (nw, .inl (E.2.1, 214, .inl (upd (upd (upd now_2 5 (told 7)) 10 2048) 11 2048))), (td, .inl (E.2.1, 48, .inl told)), (sv, .inl (E.2.2.2.1, 2, .inl sav))] H := hP
    refine lv_aload_n hx hb dX9_begins_60 rfl (lv_at hl 0 rfl) ?_
    refine va_get (D := E.1) (ci := 9) (v := .ref sv) (C := RX9) (T := TX9) (N := 22) hx hb hts g_2 hown hE.1 hP 0 rfl rfl 21 (by decide) g_5 (fun _ h9 => h9) rfl dX9_begins_61 ?_
    refine lv_iconst (v := 0) hx hb dX9_begins_64 (by decide) ?_
    refine lv_iconst (v := 0) hx hb dX9_begins_65 (by decide) ?_
    refine x_zast hx hb hE.1 hP (hX.d rfl) hS 3 2 rfl rfl 0 (by decide) (by unfold vp_in; decide) dX9_begins_66 (fun H locs hP _ hS => ?_)
    have hP : va_P E.1 vwCl [(h, .inr (9, [.int thrown, .ref nw, .ref td, .ref tx, .int length, .int textSize, .int start, .int next, .int token, .int value, .int error, .int errorAt, .int seen, .int triedWith, .ref rr, .ref ss, .ref tr, .ref wa, .int 0, .ref ud, .ref sl, .ref sv])), (nw, .inl (E.2.1, 214, .inl (upd (upd (upd now_2 5 (told 7)) 10 2048) 11 2048))), (td, .inl (E.2.1, 48, .inl told)), (sv, .inl (E.2.2.2.1, 2, .inl (upd sav 0 0)))] H := hP
    refine lv_aload_n hx hb dX9_begins_67 rfl (lv_at hl 0 rfl) ?_
    refine va_get (D := E.1) (ci := 9) (v := .ref sv) (C := RX9) (T := TX9) (N := 22) hx hb hts g_2 hown hE.1 hP 0 rfl rfl 21 (by decide) g_5 (fun _ h9 => h9) rfl dX9_begins_68 ?_
    refine lv_iconst (v := 1) hx hb dX9_begins_71 (by decide) ?_
    refine lv_iconst (v := 0) hx hb dX9_begins_72 (by decide) ?_
    refine x_zast hx hb hE.1 hP (hX.d rfl) hS 3 2 rfl rfl 1 (by decide) (by unfold vp_in; decide) dX9_begins_73 (fun H locs hP _ hS => ?_)
    have hP : va_P E.1 vwCl [(h, .inr (9, [.int thrown, .ref nw, .ref td, .ref tx, .int length, .int textSize, .int start, .int next, .int token, .int value, .int error, .int errorAt, .int seen, .int triedWith, .ref rr, .ref ss, .ref tr, .ref wa, .int 0, .ref ud, .ref sl, .ref sv])), (nw, .inl (E.2.1, 214, .inl (upd (upd (upd now_2 5 (told 7)) 10 2048) 11 2048))), (td, .inl (E.2.1, 48, .inl told)), (sv, .inl (E.2.2.2.1, 2, .inl (upd (upd sav 0 0) 1 0)))] H := hP
    refine lv_aload_n hx hb dX9_begins_74 rfl (lv_at hl 0 rfl) ?_
    refine lv_iconst (v := 0) hx hb dX9_begins_75 (by decide) ?_
    refine va_put (D := E.1) (ci := 9) (v := .int 0) (ty := .int) (C := RX9) (T := TX9) (N := 22) hx hb hts g_2 tyX9 tyX9_ok nmX9 hown hE.1 hP (hX.d rfl) hS 0 rfl rfl 13 (by decide) g_6 (fun _ h9 => h9) rfl (by decide +kernel) rfl rfl (Nat.le_of_ble_eq_true rfl) dX9_begins_76 (fun H locs hP _ hS => ?_)
    have hP : va_P E.1 vwCl [(h, .inr (9, [.int thrown, .ref nw, .ref td, .ref tx, .int length, .int textSize, .int start, .int next, .int token, .int value, .int error, .int errorAt, .int seen, .int 0, .ref rr, .ref ss, .ref tr, .ref wa, .int 0, .ref ud, .ref sl, .ref sv])), (nw, .inl (E.2.1, 214, .inl (upd (upd (upd now_2 5 (told 7)) 10 2048) 11 2048))), (td, .inl (E.2.1, 48, .inl told)), (sv, .inl (E.2.2.2.1, 2, .inl (upd (upd sav 0 0) 1 0)))] H := hP
    exact x_wv (upd (upd (upd now_2 5 (told 7)) 10 2048) 11 2048, 0, 0, upd (upd sav 0 0) 1 0) (by rw [hx_2]; try rfl) rfl hx hb hr hlk hS hP (hX.d rfl) [0, 1, 2, 3] rfl rfl (Nat.le_of_ble_eq_true rfl) (Nat.le_of_ble_eq_true rfl) dX9_begins_79
  have lp_2 : ∀ (kk_2 : Nat), ∀ (i_2 : Int32) (now_2 : Nat → Int32), (¬ i_2 < 0) → (xMu 214 i_2) < kk_2 → ∀ (H : Heap) (locs : List Loc), va_P E.1 vwCl [(h, .inr (9, [.int thrown, .ref nw, .ref td, .ref tx, .int length, .int textSize, .int start, .int next, .int token, .int value, .int error, .int errorAt, .int seen, .int triedWith, .ref rr, .ref ss, .ref tr, .ref wa, .int undos, .ref ud, .ref sl, .ref sv])), (nw, .inl (E.2.1, 214, .inl now_2)), (td, .inl (E.2.1, 48, .inl told)), (sv, .inl (E.2.2.2.1, 2, .inl sav))] H → va_S A s.heap H locs → ∀ (ls : Array Slot), lv_has ls 2 [(0, .ref h), (1, .int i_2)] → (sX9_begins now told sav) = sX9_begins_l2 (fun (i_2 : Int32) (now_2 : Nat → Int32) => (upd (upd (upd now_2 5 (told 7)) 10 2048) 11 2048, 0, 0, upd (upd sav 0 0) 1 0)) kk_2 i_2 now_2 → W p l e ({ frames := 0, cells := 0, slots := 0, locals := 0 }) s m args below meth c H locs 0 0 (MQ below (xO (T := (Nat → Int32) × Int32 × Int32 × (Nat → Int32)) E A (fun _ => none) (fun q => [(h, .inr (9, [.int thrown, .ref nw, .ref td, .ref tx, .int length, .int textSize, .int start, .int next, .int token, .int value, .int error, .int errorAt, .int seen, .int q.2.2.1, .ref rr, .ref ss, .ref tr, .ref wa, .int q.2.1, .ref ud, .ref sl, .ref sv])), (nw, .inl (E.2.1, 214, .inl q.1)), (td, .inl (E.2.1, 48, .inl told)), (sv, .inl (E.2.2.2.1, 2, .inl q.2.2.2))]) (sX9_begins now told sav)) args s 0 0 A) (F0 m 2 ls []) := by
    intro kk_2
    induction kk_2 with
    | zero =>
      intro i_2 now_2 hi0_2 hmu
      exact absurd hmu (Nat.not_lt_zero _)
    | succ kk_2 ih_2 =>
      intro i_2 now_2 hi0_2 hmu H locs hP hS ls hl hlq_2
      refine lv_iload_n hx hb dX9_begins_2 rfl (lv_at hl 1 rfl) ?_
      refine lv_sipush (v := 214) hx hb dX9_begins_3 (by decide) ?_
      refine lv_icmp_ge (tgt := 22) hx hb dX9_begins_6 (by decide) (fun c_1 => ?_) (fun c_1 => ?_)
      · exact ex_2 i_2 now_2 hi0_2 _ _ hP hS ls (lv_sub hl [0, 1] rfl) (by rw [hlq_2]; rw [sX9_begins_l2_s]; rw [if_pos c_1]; try rfl)
      · refine lv_aload_n hx hb dX9_begins_9 rfl (lv_at hl 0 rfl) ?_
        refine va_get (D := E.1) (ci := 9) (v := .ref nw) (C := RX9) (T := TX9) (N := 22) hx hb hts g_2 hown hE.1 hP 0 rfl rfl 1 (by decide) g_1 (fun _ h9 => h9) rfl dX9_begins_10 ?_
        refine lv_iload_n hx hb dX9_begins_13 rfl (lv_at hl 1 rfl) ?_
        refine lv_iconst (v := 0) hx hb dX9_begins_14 (by decide) ?_
        refine x_iast hx hb hE.1 hP (hX.d rfl) hS 1 0 rfl rfl i_2.toNatClampNeg rfl (x_ink hi0_2 c_1 (by decide)) dX9_begins_15 (fun H locs hP _ hS => ?_)
        have hP : va_P E.1 vwCl [(h, .inr (9, [.int thrown, .ref nw, .ref td, .ref tx, .int length, .int textSize, .int start, .int next, .int token, .int value, .int error, .int errorAt, .int seen, .int triedWith, .ref rr, .ref ss, .ref tr, .ref wa, .int undos, .ref ud, .ref sl, .ref sv])), (nw, .inl (E.2.1, 214, .inl (upd now_2 i_2.toNatClampNeg 0))), (td, .inl (E.2.1, 48, .inl told)), (sv, .inl (E.2.2.2.1, 2, .inl sav))] H := hP
        refine lv_iinc (v := i_2 + 1) (lv' := [(1, .int (i_2 + 1)), (0, .ref h)]) hx hb dX9_begins_16 hl (k := 1) rfl (by rfl) (by decide) rfl (fun ls hl => ?_)
        refine lv_goto (tgt := 2) hx hb dX9_begins_19 (by decide) ?_
        exact ih_2 (i_2 + 1) (upd now_2 i_2.toNatClampNeg 0) (x_step hi0_2 c_1) (x_mu hi0_2 c_1 hmu) _ _ hP hS ls (lv_sub hl [1, 0] rfl) (by rw [hlq_2]; rw [sX9_begins_l2_s]; rw [if_neg c_1]; try rfl)
  exact lp_2 215 0 now (by decide) (by decide) _ _ hP hS ls (lv_sub hl [1, 0] rfl) (by unfold sX9_begins; try rfl)
