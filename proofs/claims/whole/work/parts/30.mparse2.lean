def sX9_starts (textSize : Int32) (start : Int32) (next : Int32) (token : Int32) (value : Int32) (error : Int32) (errorAt : Int32) (text : Nat → Int32) (why : Int32) (can : Int32) : Int32 × Int32 × Int32 × Int32 × Int32 × Int32 × Int32 :=
  if can = 0 then
    (0, (sX9_fails start error errorAt why).1, (sX9_fails start error errorAt why).2, start, next, token, value)
  else
    (1, error, errorAt, (sX9_advance textSize next text).1, (sX9_advance textSize next text).2.1, (sX9_advance textSize next text).2.2.1, (sX9_advance textSize next text).2.2.2)
theorem hdX9_starts : yX9_starts.cls = RX9 ∧ yX9_starts.cls ≠ "java/lang/invoke/MethodHandle" ∧ yX9_starts.cls ≠ "java/lang/invoke/VarHandle" ∧ (parseMethodDescriptor yX9_starts.desc).map (fun d => d.parameters.length) = some 2 := by decide +kernel
set_option maxHeartbeats 4000000 in
set_option maxRecDepth 100000 in
theorem kX9_starts (l : Launch) (E : XE) (h : Nat) (thrown : Int32) (nw : Nat) (td : Nat) (tx : Nat) (length : Int32) (textSize : Int32) (start : Int32) (next : Int32) (token : Int32) (value : Int32) (error : Int32) (errorAt : Int32) (seen : Int32) (triedWith : Int32) (rr : Nat) (ss : Nat) (tr : Nat) (wa : Nat) (undos : Int32) (ud : Nat) (sl : Nat) (sv : Nat) (text : Nat → Int32) (why : Int32) (can : Int32) (ht : xTok textSize start next) : xW (T := Int32 × Int32 × Int32 × Int32 × Int32 × Int32 × Int32) l yX9_starts wsX9_starts ({ frames := 2, cells := 0, slots := 0, locals := 43 }) E [(h, .inr (9, [.int thrown, .ref nw, .ref td, .ref tx, .int length, .int textSize, .int start, .int next, .int token, .int value, .int error, .int errorAt, .int seen, .int triedWith, .ref rr, .ref ss, .ref tr, .ref wa, .int undos, .ref ud, .ref sl, .ref sv])), (tx, .inl (E.2.2.1, 500, .inl text))] [.ref h, .int why, .int can] (fun q => some (.int q.1)) (fun q => [(h, .inr (9, [.int thrown, .ref nw, .ref td, .ref tx, .int length, .int textSize, .int q.2.2.2.1, .int q.2.2.2.2.1, .int q.2.2.2.2.2.1, .int q.2.2.2.2.2.2, .int q.2.1, .int q.2.2.1, .int seen, .int triedWith, .ref rr, .ref ss, .ref tr, .ref wa, .int undos, .ref ud, .ref sl, .ref sv])), (tx, .inl (E.2.2.1, 500, .inl text))]) (sX9_starts textSize start next token value error errorAt text why can) 0 0 := by
  refine xW.of (cc := cX9_starts) (maxL := 3) (ret := (some .boolean)) (by decide) rfl (Nat.le_of_ble_eq_true rfl) ?_
  intro p e s m args below meth c ls A hM hE hP hD hS hA hl
  obtain ⟨hx, hb, hr, hml, hts, hown, hlk, hnm⟩ := hM
  have hX : xD A [h, tx] := xD.of hD rfl
  have hl : lv_has ls 3 [(0, .ref h), (1, .int why), (2, .int can)] := hl
  refine lv_iload_n hx hb dX9_starts_0 rfl (lv_at hl 2 rfl) ?_
  refine lv_if_ne (tgt := 10) hx hb dX9_starts_1 (by decide) (fun c_1 => ?_) (fun c_1 => ?_)
  · refine lv_aload_n hx hb dX9_starts_10 rfl (lv_at hl 0 rfl) ?_
    refine x_wV (wr := []) [] (kX9_advance l E h thrown nw td tx length textSize start next token value error errorAt seen triedWith rr ss tr wa undos ud sl sv text (xTok.x ht)) ⟨hx, hb, hml, hown, hts⟩ (cwV 0 hts gX9_starts_X9_advance rfl rfl rfl hdX9_advance ⟨Nat.le_of_ble_eq_true rfl, Nat.le_of_ble_eq_true rfl⟩) hE hP (hX.d rfl) hS hA [0, 1] [] rfl rfl rfl rfl (by decide) (ci := 9) (q0 := 0) rfl rfl rfl hl.1 rfl rfl (Nat.le_of_ble_eq_true rfl) dX9_starts_11 (Nat.le_of_ble_eq_true rfl) (Nat.le_of_ble_eq_true rfl) (fun q_2 H locs hq_2 hP hD hS => ?_)
    subst hq_2
    have hP : va_P E.1 vwCl [(h, .inr (9, [.int thrown, .ref nw, .ref td, .ref tx, .int length, .int textSize, .int ((sX9_advance textSize next text).1), .int ((sX9_advance textSize next text).2.1), .int ((sX9_advance textSize next text).2.2.1), .int ((sX9_advance textSize next text).2.2.2), .int error, .int errorAt, .int seen, .int triedWith, .ref rr, .ref ss, .ref tr, .ref wa, .int undos, .ref ud, .ref sl, .ref sv])), (tx, .inl (E.2.2.1, 500, .inl text))] H := hP
    have hX : xD A [h, tx] := xD.of hD rfl
    have gv_3 : xTok textSize ((sX9_advance textSize next text).1) ((sX9_advance textSize next text).2.1) := by exact x_advT (xTok.x ht)
    refine W.eq (g2 := F0 m 14 ls []) rfl ?_
    refine lv_iconst (v := 1) hx hb dX9_starts_14 (by decide) ?_
    exact x_wz (1, error, errorAt, (sX9_advance textSize next text).1, (sX9_advance textSize next text).2.1, (sX9_advance textSize next text).2.2.1, (sX9_advance textSize next text).2.2.2) (by unfold sX9_starts; rw [if_neg c_1]; try rfl) rfl hx hb hr hlk rfl hS hP (hX.d rfl) [0, 1] rfl rfl (Nat.le_of_ble_eq_true rfl) (Nat.le_of_ble_eq_true rfl) dX9_starts_15
  · refine lv_aload_n hx hb dX9_starts_4 rfl (lv_at hl 0 rfl) ?_
    refine lv_iload_n hx hb dX9_starts_5 rfl (lv_at hl 1 rfl) ?_
    refine x_wV (wr := [(tx, .inl (E.2.2.1, 500, .inl text))]) [.int why] (kX9_fails l E h thrown nw td tx length textSize start next token value error errorAt seen triedWith rr ss tr wa undos ud sl sv why) ⟨hx, hb, hml, hown, hts⟩ (cwV 1 hts gX9_starts_X9_fails rfl rfl rfl hdX9_fails ⟨Nat.le_of_ble_eq_true rfl, Nat.le_of_ble_eq_true rfl⟩) hE hP (hX.d rfl) hS hA [0] [1] rfl rfl rfl rfl (by decide) (ci := 9) (q0 := 0) rfl rfl rfl hl.1 rfl rfl (Nat.le_of_ble_eq_true rfl) dX9_starts_6 (Nat.le_of_ble_eq_true rfl) (Nat.le_of_ble_eq_true rfl) (fun q_4 H locs hq_4 hP hD hS => ?_)
    subst hq_4
    have hP : va_P E.1 vwCl [(tx, .inl (E.2.2.1, 500, .inl text)), (h, .inr (9, [.int thrown, .ref nw, .ref td, .ref tx, .int length, .int textSize, .int start, .int next, .int token, .int value, .int ((sX9_fails start error errorAt why).1), .int ((sX9_fails start error errorAt why).2), .int seen, .int triedWith, .ref rr, .ref ss, .ref tr, .ref wa, .int undos, .ref ud, .ref sl, .ref sv]))] H := hP
    have hX : xD A [tx, h] := xD.of hD rfl
    refine W.eq (g2 := F0 m 9 ls [.int 0]) rfl ?_
    exact x_wz (0, (sX9_fails start error errorAt why).1, (sX9_fails start error errorAt why).2, start, next, token, value) (by unfold sX9_starts; rw [if_pos c_1]; try rfl) rfl hx hb hr hlk rfl hS hP (hX.d rfl) [1, 0] rfl rfl (Nat.le_of_ble_eq_true rfl) (Nat.le_of_ble_eq_true rfl) dX9_starts_9
theorem x_startsT {t s n tk v er ea : Int32} {text : Nat → Int32} {why can : Int32} (ht : xTok t s n) : xTok t (sX9_starts t s n tk v er ea text why can).2.2.2.1 (sX9_starts t s n tk v er ea text why can).2.2.2.2.1 := by
  unfold sX9_starts
  split
  · exact ht
  · exact x_advT ht.x
def sX9_once (textSize : Int32) (start : Int32) (next : Int32) (token : Int32) (value : Int32) (error : Int32) (errorAt : Int32) (seen : Int32) (text : Nat → Int32) (bit : Int32) : Int32 × Int32 × Int32 × Int32 × Int32 × Int32 × Int32 × Int32 :=
  if ((seen >>> (bit &&& 31)) &&& 1) = 0 then
    if ((sX9_starts textSize start next token value error errorAt text 2 1).1) = 0 then
      (0, (sX9_starts textSize start next token value error errorAt text 2 1).2.1, (sX9_starts textSize start next token value error errorAt text 2 1).2.2.1, (sX9_starts textSize start next token value error errorAt text 2 1).2.2.2.1, (sX9_starts textSize start next token value error errorAt text 2 1).2.2.2.2.1, (sX9_starts textSize start next token value error errorAt text 2 1).2.2.2.2.2.1, (sX9_starts textSize start next token value error errorAt text 2 1).2.2.2.2.2.2, seen)
    else
      (1, (sX9_starts textSize start next token value error errorAt text 2 1).2.1, (sX9_starts textSize start next token value error errorAt text 2 1).2.2.1, (sX9_starts textSize start next token value error errorAt text 2 1).2.2.2.1, (sX9_starts textSize start next token value error errorAt text 2 1).2.2.2.2.1, (sX9_starts textSize start next token value error errorAt text 2 1).2.2.2.2.2.1, (sX9_starts textSize start next token value error errorAt text 2 1).2.2.2.2.2.2, seen ||| (1 <<< (bit &&& 31)))
  else
    if ((sX9_starts textSize start next token value error errorAt text 2 0).1) = 0 then
      (0, (sX9_starts textSize start next token value error errorAt text 2 0).2.1, (sX9_starts textSize start next token value error errorAt text 2 0).2.2.1, (sX9_starts textSize start next token value error errorAt text 2 0).2.2.2.1, (sX9_starts textSize start next token value error errorAt text 2 0).2.2.2.2.1, (sX9_starts textSize start next token value error errorAt text 2 0).2.2.2.2.2.1, (sX9_starts textSize start next token value error errorAt text 2 0).2.2.2.2.2.2, seen)
    else
      (1, (sX9_starts textSize start next token value error errorAt text 2 0).2.1, (sX9_starts textSize start next token value error errorAt text 2 0).2.2.1, (sX9_starts textSize start next token value error errorAt text 2 0).2.2.2.1, (sX9_starts textSize start next token value error errorAt text 2 0).2.2.2.2.1, (sX9_starts textSize start next token value error errorAt text 2 0).2.2.2.2.2.1, (sX9_starts textSize start next token value error errorAt text 2 0).2.2.2.2.2.2, seen ||| (1 <<< (bit &&& 31)))
theorem hdX9_once : yX9_once.cls = RX9 ∧ yX9_once.cls ≠ "java/lang/invoke/MethodHandle" ∧ yX9_once.cls ≠ "java/lang/invoke/VarHandle" ∧ (parseMethodDescriptor yX9_once.desc).map (fun d => d.parameters.length) = some 1 := by decide +kernel
set_option maxHeartbeats 4000000 in
set_option maxRecDepth 100000 in
theorem kX9_once (l : Launch) (E : XE) (h : Nat) (thrown : Int32) (nw : Nat) (td : Nat) (tx : Nat) (length : Int32) (textSize : Int32) (start : Int32) (next : Int32) (token : Int32) (value : Int32) (error : Int32) (errorAt : Int32) (seen : Int32) (triedWith : Int32) (rr : Nat) (ss : Nat) (tr : Nat) (wa : Nat) (undos : Int32) (ud : Nat) (sl : Nat) (sv : Nat) (text : Nat → Int32) (bit : Int32) (ht : xTok textSize start next) : xW (T := Int32 × Int32 × Int32 × Int32 × Int32 × Int32 × Int32 × Int32) l yX9_once wsX9_once ({ frames := 3, cells := 0, slots := 0, locals := 65 }) E [(h, .inr (9, [.int thrown, .ref nw, .ref td, .ref tx, .int length, .int textSize, .int start, .int next, .int token, .int value, .int error, .int errorAt, .int seen, .int triedWith, .ref rr, .ref ss, .ref tr, .ref wa, .int undos, .ref ud, .ref sl, .ref sv])), (tx, .inl (E.2.2.1, 500, .inl text))] [.ref h, .int bit] (fun q => some (.int q.1)) (fun q => [(h, .inr (9, [.int thrown, .ref nw, .ref td, .ref tx, .int length, .int textSize, .int q.2.2.2.1, .int q.2.2.2.2.1, .int q.2.2.2.2.2.1, .int q.2.2.2.2.2.2.1, .int q.2.1, .int q.2.2.1, .int q.2.2.2.2.2.2.2, .int triedWith, .ref rr, .ref ss, .ref tr, .ref wa, .int undos, .ref ud, .ref sl, .ref sv])), (tx, .inl (E.2.2.1, 500, .inl text))]) (sX9_once textSize start next token value error errorAt seen text bit) 0 0 := by
  refine xW.of (cc := cX9_once) (maxL := 2) (ret := (some .boolean)) (by decide) rfl (Nat.le_of_ble_eq_true rfl) ?_
  intro p e s m args below meth c ls A hM hE hP hD hS hA hl
  obtain ⟨hx, hb, hr, hml, hts, hown, hlk, hnm⟩ := hM
  have g_1 : (Cond.fieldLink RX9 111 "RailPendulumModel" "seen" "I").before args s = true := hts (Cond.fieldLink RX9 111 "RailPendulumModel" "seen" "I") (by decide +kernel)
  have g_2 : ∀ w ∈ wsX90, w ∈ wsX9_once := by decide +kernel
  have hX : xD A [h, tx] := xD.of hD rfl
  have hl : lv_has ls 2 [(0, .ref h), (1, .int bit)] := hl
  refine lv_aload_n hx hb dX9_once_0 rfl (lv_at hl 0 rfl) ?_
  refine lv_iconst (v := 2) hx hb dX9_once_1 (by decide) ?_
  refine lv_aload_n hx hb dX9_once_2 rfl (lv_at hl 0 rfl) ?_
  refine va_get (D := E.1) (ci := 9) (v := .int seen) (C := RX9) (T := TX9) (N := 22) hx hb hts g_2 hown hE.1 hP 0 rfl rfl 12 (by decide) g_1 (fun _ h9 => h9) rfl dX9_once_3 ?_
  refine lv_iload_n hx hb dX9_once_6 rfl (lv_at hl 1 rfl) ?_
  refine lv_ishr hx hb dX9_once_7 ?_
  refine lv_iconst (v := 1) hx hb dX9_once_8 (by decide) ?_
  refine lv_iand hx hb dX9_once_9 ?_
  refine lv_if_ne (tgt := 17) hx hb dX9_once_10 (by decide) (fun c_1 => ?_) (fun c_1 => ?_)
  · refine lv_iconst (v := 0) hx hb dX9_once_17 (by decide) ?_
    refine x_wV (wr := []) [.int 2, .int 0] (kX9_starts l E h thrown nw td tx length textSize start next token value error errorAt seen triedWith rr ss tr wa undos ud sl sv text 2 0 ht) ⟨hx, hb, hml, hown, hts⟩ (cwV 2 hts gX9_once_X9_starts rfl rfl rfl hdX9_starts ⟨Nat.le_of_ble_eq_true rfl, Nat.le_of_ble_eq_true rfl⟩) hE hP (hX.d rfl) hS hA [0, 1] [] rfl rfl rfl rfl (by decide) (ci := 9) (q0 := 0) rfl rfl rfl hl.1 rfl rfl (Nat.le_of_ble_eq_true rfl) dX9_once_18 (Nat.le_of_ble_eq_true rfl) (Nat.le_of_ble_eq_true rfl) (fun q_2 H locs hq_2 hP hD hS => ?_)
    subst hq_2
    have hP : va_P E.1 vwCl [(h, .inr (9, [.int thrown, .ref nw, .ref td, .ref tx, .int length, .int textSize, .int ((sX9_starts textSize start next token value error errorAt text 2 0).2.2.2.1), .int ((sX9_starts textSize start next token value error errorAt text 2 0).2.2.2.2.1), .int ((sX9_starts textSize start next token value error errorAt text 2 0).2.2.2.2.2.1), .int ((sX9_starts textSize start next token value error errorAt text 2 0).2.2.2.2.2.2), .int ((sX9_starts textSize start next token value error errorAt text 2 0).2.1), .int ((sX9_starts textSize start next token value error errorAt text 2 0).2.2.1), .int seen, .int triedWith, .ref rr, .ref ss, .ref tr, .ref wa, .int undos, .ref ud, .ref sl, .ref sv])), (tx, .inl (E.2.2.1, 500, .inl text))] H := hP
    have hX : xD A [h, tx] := xD.of hD rfl
    have gv_3 : xTok textSize ((sX9_starts textSize start next token value error errorAt text 2 0).2.2.2.1) ((sX9_starts textSize start next token value error errorAt text 2 0).2.2.2.2.1) := by exact x_startsT ht
    refine W.eq (g2 := F0 m 21 ls [.int ((sX9_starts textSize start next token value error errorAt text 2 0).1)]) rfl ?_
    refine lv_if_ne (tgt := 26) hx hb dX9_once_21 (by decide) (fun c_4 => ?_) (fun c_4 => ?_)
    · refine lv_aload_n hx hb dX9_once_26 rfl (lv_at hl 0 rfl) ?_
      refine lv_dup hx hb dX9_once_27 rfl ?_
      refine va_get (D := E.1) (ci := 9) (v := .int seen) (C := RX9) (T := TX9) (N := 22) hx hb hts g_2 hown hE.1 hP 0 rfl rfl 12 (by decide) g_1 (fun _ h9 => h9) rfl dX9_once_28 ?_
      refine lv_iconst (v := 1) hx hb dX9_once_31 (by decide) ?_
      refine lv_iload_n hx hb dX9_once_32 rfl (lv_at hl 1 rfl) ?_
      refine lv_ishl hx hb dX9_once_33 ?_
      refine lv_ior hx hb dX9_once_34 ?_
      refine va_put (D := E.1) (ci := 9) (v := .int (seen ||| (1 <<< (bit &&& 31)))) (ty := .int) (C := RX9) (T := TX9) (N := 22) hx hb hts g_2 tyX9 tyX9_ok nmX9 hown hE.1 hP (hX.d rfl) hS 0 rfl rfl 12 (by decide) g_1 (fun _ h9 => h9) rfl (by decide +kernel) rfl rfl (Nat.le_of_ble_eq_true rfl) dX9_once_35 (fun H locs hP _ hS => ?_)
      have hP : va_P E.1 vwCl [(h, .inr (9, [.int thrown, .ref nw, .ref td, .ref tx, .int length, .int textSize, .int ((sX9_starts textSize start next token value error errorAt text 2 0).2.2.2.1), .int ((sX9_starts textSize start next token value error errorAt text 2 0).2.2.2.2.1), .int ((sX9_starts textSize start next token value error errorAt text 2 0).2.2.2.2.2.1), .int ((sX9_starts textSize start next token value error errorAt text 2 0).2.2.2.2.2.2), .int ((sX9_starts textSize start next token value error errorAt text 2 0).2.1), .int ((sX9_starts textSize start next token value error errorAt text 2 0).2.2.1), .int (seen ||| (1 <<< (bit &&& 31))), .int triedWith, .ref rr, .ref ss, .ref tr, .ref wa, .int undos, .ref ud, .ref sl, .ref sv])), (tx, .inl (E.2.2.1, 500, .inl text))] H := hP
      refine lv_iconst (v := 1) hx hb dX9_once_38 (by decide) ?_
      exact x_wz (1, (sX9_starts textSize start next token value error errorAt text 2 0).2.1, (sX9_starts textSize start next token value error errorAt text 2 0).2.2.1, (sX9_starts textSize start next token value error errorAt text 2 0).2.2.2.1, (sX9_starts textSize start next token value error errorAt text 2 0).2.2.2.2.1, (sX9_starts textSize start next token value error errorAt text 2 0).2.2.2.2.2.1, (sX9_starts textSize start next token value error errorAt text 2 0).2.2.2.2.2.2, seen ||| (1 <<< (bit &&& 31))) (by unfold sX9_once; rw [if_neg c_1]; rw [if_neg c_4]; try rfl) rfl hx hb hr hlk rfl hS hP (hX.d rfl) [0, 1] rfl rfl (Nat.le_of_ble_eq_true rfl) (Nat.le_of_ble_eq_true rfl) dX9_once_39
    · refine lv_iconst (v := 0) hx hb dX9_once_24 (by decide) ?_
      exact x_wz (0, (sX9_starts textSize start next token value error errorAt text 2 0).2.1, (sX9_starts textSize start next token value error errorAt text 2 0).2.2.1, (sX9_starts textSize start next token value error errorAt text 2 0).2.2.2.1, (sX9_starts textSize start next token value error errorAt text 2 0).2.2.2.2.1, (sX9_starts textSize start next token value error errorAt text 2 0).2.2.2.2.2.1, (sX9_starts textSize start next token value error errorAt text 2 0).2.2.2.2.2.2, seen) (by unfold sX9_once; rw [if_neg c_1]; rw [if_pos c_4]; try rfl) rfl hx hb hr hlk rfl hS hP (hX.d rfl) [0, 1] rfl rfl (Nat.le_of_ble_eq_true rfl) (Nat.le_of_ble_eq_true rfl) dX9_once_25
  · refine lv_iconst (v := 1) hx hb dX9_once_13 (by decide) ?_
    refine lv_goto (tgt := 18) hx hb dX9_once_14 (by decide) ?_
    refine x_wV (wr := []) [.int 2, .int 1] (kX9_starts l E h thrown nw td tx length textSize start next token value error errorAt seen triedWith rr ss tr wa undos ud sl sv text 2 1 ht) ⟨hx, hb, hml, hown, hts⟩ (cwV 2 hts gX9_once_X9_starts rfl rfl rfl hdX9_starts ⟨Nat.le_of_ble_eq_true rfl, Nat.le_of_ble_eq_true rfl⟩) hE hP (hX.d rfl) hS hA [0, 1] [] rfl rfl rfl rfl (by decide) (ci := 9) (q0 := 0) rfl rfl rfl hl.1 rfl rfl (Nat.le_of_ble_eq_true rfl) dX9_once_18 (Nat.le_of_ble_eq_true rfl) (Nat.le_of_ble_eq_true rfl) (fun q_5 H locs hq_5 hP hD hS => ?_)
    subst hq_5
    have hP : va_P E.1 vwCl [(h, .inr (9, [.int thrown, .ref nw, .ref td, .ref tx, .int length, .int textSize, .int ((sX9_starts textSize start next token value error errorAt text 2 1).2.2.2.1), .int ((sX9_starts textSize start next token value error errorAt text 2 1).2.2.2.2.1), .int ((sX9_starts textSize start next token value error errorAt text 2 1).2.2.2.2.2.1), .int ((sX9_starts textSize start next token value error errorAt text 2 1).2.2.2.2.2.2), .int ((sX9_starts textSize start next token value error errorAt text 2 1).2.1), .int ((sX9_starts textSize start next token value error errorAt text 2 1).2.2.1), .int seen, .int triedWith, .ref rr, .ref ss, .ref tr, .ref wa, .int undos, .ref ud, .ref sl, .ref sv])), (tx, .inl (E.2.2.1, 500, .inl text))] H := hP
    have hX : xD A [h, tx] := xD.of hD rfl
    have gv_6 : xTok textSize ((sX9_starts textSize start next token value error errorAt text 2 1).2.2.2.1) ((sX9_starts textSize start next token value error errorAt text 2 1).2.2.2.2.1) := by exact x_startsT ht
    refine W.eq (g2 := F0 m 21 ls [.int ((sX9_starts textSize start next token value error errorAt text 2 1).1)]) rfl ?_
    refine lv_if_ne (tgt := 26) hx hb dX9_once_21 (by decide) (fun c_7 => ?_) (fun c_7 => ?_)
    · refine lv_aload_n hx hb dX9_once_26 rfl (lv_at hl 0 rfl) ?_
      refine lv_dup hx hb dX9_once_27 rfl ?_
      refine va_get (D := E.1) (ci := 9) (v := .int seen) (C := RX9) (T := TX9) (N := 22) hx hb hts g_2 hown hE.1 hP 0 rfl rfl 12 (by decide) g_1 (fun _ h9 => h9) rfl dX9_once_28 ?_
      refine lv_iconst (v := 1) hx hb dX9_once_31 (by decide) ?_
      refine lv_iload_n hx hb dX9_once_32 rfl (lv_at hl 1 rfl) ?_
      refine lv_ishl hx hb dX9_once_33 ?_
      refine lv_ior hx hb dX9_once_34 ?_
      refine va_put (D := E.1) (ci := 9) (v := .int (seen ||| (1 <<< (bit &&& 31)))) (ty := .int) (C := RX9) (T := TX9) (N := 22) hx hb hts g_2 tyX9 tyX9_ok nmX9 hown hE.1 hP (hX.d rfl) hS 0 rfl rfl 12 (by decide) g_1 (fun _ h9 => h9) rfl (by decide +kernel) rfl rfl (Nat.le_of_ble_eq_true rfl) dX9_once_35 (fun H locs hP _ hS => ?_)
      have hP : va_P E.1 vwCl [(h, .inr (9, [.int thrown, .ref nw, .ref td, .ref tx, .int length, .int textSize, .int ((sX9_starts textSize start next token value error errorAt text 2 1).2.2.2.1), .int ((sX9_starts textSize start next token value error errorAt text 2 1).2.2.2.2.1), .int ((sX9_starts textSize start next token value error errorAt text 2 1).2.2.2.2.2.1), .int ((sX9_starts textSize start next token value error errorAt text 2 1).2.2.2.2.2.2), .int ((sX9_starts textSize start next token value error errorAt text 2 1).2.1), .int ((sX9_starts textSize start next token value error errorAt text 2 1).2.2.1), .int (seen ||| (1 <<< (bit &&& 31))), .int triedWith, .ref rr, .ref ss, .ref tr, .ref wa, .int undos, .ref ud, .ref sl, .ref sv])), (tx, .inl (E.2.2.1, 500, .inl text))] H := hP
      refine lv_iconst (v := 1) hx hb dX9_once_38 (by decide) ?_
      exact x_wz (1, (sX9_starts textSize start next token value error errorAt text 2 1).2.1, (sX9_starts textSize start next token value error errorAt text 2 1).2.2.1, (sX9_starts textSize start next token value error errorAt text 2 1).2.2.2.1, (sX9_starts textSize start next token value error errorAt text 2 1).2.2.2.2.1, (sX9_starts textSize start next token value error errorAt text 2 1).2.2.2.2.2.1, (sX9_starts textSize start next token value error errorAt text 2 1).2.2.2.2.2.2, seen ||| (1 <<< (bit &&& 31))) (by unfold sX9_once; rw [if_pos c_1]; rw [if_neg c_7]; try rfl) rfl hx hb hr hlk rfl hS hP (hX.d rfl) [0, 1] rfl rfl (Nat.le_of_ble_eq_true rfl) (Nat.le_of_ble_eq_true rfl) dX9_once_39
    · refine lv_iconst (v := 0) hx hb dX9_once_24 (by decide) ?_
      exact x_wz (0, (sX9_starts textSize start next token value error errorAt text 2 1).2.1, (sX9_starts textSize start next token value error errorAt text 2 1).2.2.1, (sX9_starts textSize start next token value error errorAt text 2 1).2.2.2.1, (sX9_starts textSize start next token value error errorAt text 2 1).2.2.2.2.1, (sX9_starts textSize start next token value error errorAt text 2 1).2.2.2.2.2.1, (sX9_starts textSize start next token value error errorAt text 2 1).2.2.2.2.2.2, seen) (by unfold sX9_once; rw [if_pos c_1]; rw [if_pos c_7]; try rfl) rfl hx hb hr hlk rfl hS hP (hX.d rfl) [0, 1] rfl rfl (Nat.le_of_ble_eq_true rfl) (Nat.le_of_ble_eq_true rfl) dX9_once_25
theorem x_onceT {t s n tk v er ea sn : Int32} {text : Nat → Int32} {bit : Int32} (ht : xTok t s n) : xTok t (sX9_once t s n tk v er ea sn text bit).2.2.2.1 (sX9_once t s n tk v er ea sn text bit).2.2.2.2.1 := by
  unfold sX9_once
  split
  · split
    · exact x_startsT ht
    · exact x_startsT ht
  · split
    · exact x_startsT ht
    · exact x_startsT ht
def sX9_sets (textSize : Int32) (start : Int32) (next : Int32) (token : Int32) (value : Int32) (error : Int32) (errorAt : Int32) (text : Nat → Int32) (told : Nat → Int32) (what : Int32) (low : Int32) (high : Int32) : Int32 × Int32 × Int32 × Int32 × Int32 × Int32 × Int32 × (Nat → Int32) :=
  if token = 2 then
    if (sX9_within value low high) = 0 then
      (0, (sX9_fails start error errorAt 3).1, (sX9_fails start error errorAt 3).2, start, next, token, value, told)
    else
      (1, error, errorAt, (sX9_advance textSize next text).1, (sX9_advance textSize next text).2.1, (sX9_advance textSize next text).2.2.1, (sX9_advance textSize next text).2.2.2, (sX9_draft told what value))
  else
    (0, (sX9_fails start error errorAt 1).1, (sX9_fails start error errorAt 1).2, start, next, token, value, told)
theorem hdX9_sets : yX9_sets.cls = RX9 ∧ yX9_sets.cls ≠ "java/lang/invoke/MethodHandle" ∧ yX9_sets.cls ≠ "java/lang/invoke/VarHandle" ∧ (parseMethodDescriptor yX9_sets.desc).map (fun d => d.parameters.length) = some 3 := by decide +kernel
set_option maxHeartbeats 4000000 in
set_option maxRecDepth 100000 in
theorem kX9_sets (l : Launch) (E : XE) (h : Nat) (thrown : Int32) (nw : Nat) (td : Nat) (tx : Nat) (length : Int32) (textSize : Int32) (start : Int32) (next : Int32) (token : Int32) (value : Int32) (error : Int32) (errorAt : Int32) (seen : Int32) (triedWith : Int32) (rr : Nat) (ss : Nat) (tr : Nat) (wa : Nat) (undos : Int32) (ud : Nat) (sl : Nat) (sv : Nat) (text : Nat → Int32) (told : Nat → Int32) (what : Int32) (low : Int32) (high : Int32) (hw0 : ¬ what < 0) (hw1 : ¬ 24 ≤ what) (ht : xTok textSize start next) : xW (T := Int32 × Int32 × Int32 × Int32 × Int32 × Int32 × Int32 × (Nat → Int32)) l yX9_sets wsX9_sets ({ frames := 2, cells := 0, slots := 0, locals := 43 }) E [(h, .inr (9, [.int thrown, .ref nw, .ref td, .ref tx, .int length, .int textSize, .int start, .int next, .int token, .int value, .int error, .int errorAt, .int seen, .int triedWith, .ref rr, .ref ss, .ref tr, .ref wa, .int undos, .ref ud, .ref sl, .ref sv])), (tx, .inl (E.2.2.1, 500, .inl text)), (td, .inl (E.2.1, 48, .inl told))] [.ref h, .int what, .int low, .int high] (fun q => some (.int q.1)) (fun q => [(h, .inr (9, [.int thrown, .ref nw, .ref td, .ref tx, .int length, .int textSize, .int q.2.2.2.1, .int q.2.2.2.2.1, .int q.2.2.2.2.2.1, .int q.2.2.2.2.2.2.1, .int q.2.1, .int q.2.2.1, .int seen, .int triedWith, .ref rr, .ref ss, .ref tr, .ref wa, .int undos, .ref ud, .ref sl, .ref sv])), (tx, .inl (E.2.2.1, 500, .inl text)), (td, .inl (E.2.1, 48, .inl q.2.2.2.2.2.2.2))]) (sX9_sets textSize start next token value error errorAt text told what low high) 0 0 := by
  refine xW.of (cc := cX9_sets) (maxL := 4) (ret := (some .boolean)) (by decide) rfl (Nat.le_of_ble_eq_true rfl) ?_
  intro p e s m args below meth c ls A hM hE hP hD hS hA hl
  obtain ⟨hx, hb, hr, hml, hts, hown, hlk, hnm⟩ := hM
  have g_1 : (Cond.fieldLink RX9 85 "RailPendulumModel" "token" "I").before args s = true := hts (Cond.fieldLink RX9 85 "RailPendulumModel" "token" "I") (by decide +kernel)
  have g_2 : ∀ w ∈ wsX90, w ∈ wsX9_sets := by decide +kernel
  have g_3 : (Cond.fieldLink RX9 82 "RailPendulumModel" "value" "I").before args s = true := hts (Cond.fieldLink RX9 82 "RailPendulumModel" "value" "I") (by decide +kernel)
  have hX : xD A [h, tx, td] := xD.of hD rfl
  have hl : lv_has ls 4 [(0, .ref h), (1, .int what), (2, .int low), (3, .int high)] := hl
  refine lv_aload_n hx hb dX9_sets_0 rfl (lv_at hl 0 rfl) ?_
  refine va_get (D := E.1) (ci := 9) (v := .int token) (C := RX9) (T := TX9) (N := 22) hx hb hts g_2 hown hE.1 hP 0 rfl rfl 8 (by decide) g_1 (fun _ h9 => h9) rfl dX9_sets_1 ?_
  refine lv_iconst (v := 2) hx hb dX9_sets_4 (by decide) ?_
  refine lv_icmp_eq (tgt := 14) hx hb dX9_sets_5 (by decide) (fun c_1 => ?_) (fun c_1 => ?_)
  · refine lv_aload_n hx hb dX9_sets_14 rfl (lv_at hl 0 rfl) ?_
    refine va_get (D := E.1) (ci := 9) (v := .int value) (C := RX9) (T := TX9) (N := 22) hx hb hts g_2 hown hE.1 hP 0 rfl rfl 9 (by decide) g_3 (fun _ h9 => h9) rfl dX9_sets_15 ?_
    refine lv_iload_n hx hb dX9_sets_18 rfl (lv_at hl 2 rfl) ?_
    refine lv_iload_n hx hb dX9_sets_19 rfl (lv_at hl 3 rfl) ?_
    refine x_rS [.int value, .int low, .int high] (kX9_within l E value low high) ⟨hx, hb, hml, hown, hts⟩ (va_cwS 3 hts gX9_sets_X9_within rfl rfl rfl hdX9_within.2 ⟨Nat.le_of_ble_eq_true rfl, Nat.le_of_ble_eq_true rfl⟩) hE hP (hX.d rfl) [] rfl rfl hl.1 rfl rfl (Nat.le_of_ble_eq_true rfl) dX9_sets_20 (Nat.le_of_ble_eq_true rfl) (Nat.le_of_ble_eq_true rfl) ?_
    refine lv_if_ne (tgt := 32) hx hb dX9_sets_23 (by decide) (fun c_2 => ?_) (fun c_2 => ?_)
    · refine lv_aload_n hx hb dX9_sets_32 rfl (lv_at hl 0 rfl) ?_
      refine lv_iload_n hx hb dX9_sets_33 rfl (lv_at hl 1 rfl) ?_
      refine lv_aload_n hx hb dX9_sets_34 rfl (lv_at hl 0 rfl) ?_
      refine va_get (D := E.1) (ci := 9) (v := .int value) (C := RX9) (T := TX9) (N := 22) hx hb hts g_2 hown hE.1 hP 0 rfl rfl 9 (by decide) g_3 (fun _ h9 => h9) rfl dX9_sets_35 ?_
      refine x_wV (wr := [(tx, .inl (E.2.2.1, 500, .inl text))]) [.int what, .int value] (kX9_draft l E h thrown nw td tx length textSize start next token value error errorAt seen triedWith rr ss tr wa undos ud sl sv told what value hw0 hw1) ⟨hx, hb, hml, hown, hts⟩ (cwV 2 hts gX9_sets_X9_draft rfl rfl rfl hdX9_draft ⟨Nat.le_of_ble_eq_true rfl, Nat.le_of_ble_eq_true rfl⟩) hE hP (hX.d rfl) hS hA [0, 2] [1] rfl rfl rfl rfl (by decide) (ci := 9) (q0 := 0) rfl rfl rfl hl.1 rfl rfl (Nat.le_of_ble_eq_true rfl) dX9_sets_38 (Nat.le_of_ble_eq_true rfl) (Nat.le_of_ble_eq_true rfl) (fun q_3 H locs hq_3 hP hD hS => ?_)
      subst hq_3
      have hP : va_P E.1 vwCl [(tx, .inl (E.2.2.1, 500, .inl text)), (h, .inr (9, [.int thrown, .ref nw, .ref td, .ref tx, .int length, .int textSize, .int start, .int next, .int token, .int value, .int error, .int errorAt, .int seen, .int triedWith, .ref rr, .ref ss, .ref tr, .ref wa, .int undos, .ref ud, .ref sl, .ref sv])), (td, .inl (E.2.1, 48, .inl (sX9_draft told what value)))] H := hP
      have hX : xD A [tx, h, td] := xD.of hD rfl
      refine W.eq (g2 := F0 m 41 ls []) rfl ?_
      refine lv_aload_n hx hb dX9_sets_41 rfl (lv_at hl 0 rfl) ?_
      refine x_wV (wr := [(td, .inl (E.2.1, 48, .inl (sX9_draft told what value)))]) [] (kX9_advance l E h thrown nw td tx length textSize start next token value error errorAt seen triedWith rr ss tr wa undos ud sl sv text (xTok.x ht)) ⟨hx, hb, hml, hown, hts⟩ (cwV 0 hts gX9_sets_X9_advance rfl rfl rfl hdX9_advance ⟨Nat.le_of_ble_eq_true rfl, Nat.le_of_ble_eq_true rfl⟩) hE hP (hX.d rfl) hS hA [1, 0] [2] rfl rfl rfl rfl (by decide) (ci := 9) (q0 := 1) rfl rfl rfl hl.1 rfl rfl (Nat.le_of_ble_eq_true rfl) dX9_sets_42 (Nat.le_of_ble_eq_true rfl) (Nat.le_of_ble_eq_true rfl) (fun q_4 H locs hq_4 hP hD hS => ?_)
      subst hq_4
      have hP : va_P E.1 vwCl [(td, .inl (E.2.1, 48, .inl (sX9_draft told what value))), (h, .inr (9, [.int thrown, .ref nw, .ref td, .ref tx, .int length, .int textSize, .int ((sX9_advance textSize next text).1), .int ((sX9_advance textSize next text).2.1), .int ((sX9_advance textSize next text).2.2.1), .int ((sX9_advance textSize next text).2.2.2), .int error, .int errorAt, .int seen, .int triedWith, .ref rr, .ref ss, .ref tr, .ref wa, .int undos, .ref ud, .ref sl, .ref sv])), (tx, .inl (E.2.2.1, 500, .inl text))] H := hP
      have hX : xD A [td, h, tx] := xD.of hD rfl
      have gv_5 : xTok textSize ((sX9_advance textSize next text).1) ((sX9_advance textSize next text).2.1) := by exact x_advT (xTok.x ht)
      refine W.eq (g2 := F0 m 45 ls []) rfl ?_
      refine lv_iconst (v := 1) hx hb dX9_sets_45 (by decide) ?_
      exact x_wz (1, error, errorAt, (sX9_advance textSize next text).1, (sX9_advance textSize next text).2.1, (sX9_advance textSize next text).2.2.1, (sX9_advance textSize next text).2.2.2, (sX9_draft told what value)) (by unfold sX9_sets; rw [if_pos c_1]; rw [if_neg c_2]; try rfl) rfl hx hb hr hlk rfl hS hP (hX.d rfl) [1, 2, 0] rfl rfl (Nat.le_of_ble_eq_true rfl) (Nat.le_of_ble_eq_true rfl) dX9_sets_46
    · refine lv_aload_n hx hb dX9_sets_26 rfl (lv_at hl 0 rfl) ?_
      refine lv_iconst (v := 3) hx hb dX9_sets_27 (by decide) ?_
      refine x_wV (wr := [(tx, .inl (E.2.2.1, 500, .inl text)), (td, .inl (E.2.1, 48, .inl told))]) [.int 3] (kX9_fails l E h thrown nw td tx length textSize start next token value error errorAt seen triedWith rr ss tr wa undos ud sl sv 3) ⟨hx, hb, hml, hown, hts⟩ (cwV 1 hts gX9_sets_X9_fails rfl rfl rfl hdX9_fails ⟨Nat.le_of_ble_eq_true rfl, Nat.le_of_ble_eq_true rfl⟩) hE hP (hX.d rfl) hS hA [0] [1, 2] rfl rfl rfl rfl (by decide) (ci := 9) (q0 := 0) rfl rfl rfl hl.1 rfl rfl (Nat.le_of_ble_eq_true rfl) dX9_sets_28 (Nat.le_of_ble_eq_true rfl) (Nat.le_of_ble_eq_true rfl) (fun q_6 H locs hq_6 hP hD hS => ?_)
      subst hq_6
      have hP : va_P E.1 vwCl [(tx, .inl (E.2.2.1, 500, .inl text)), (td, .inl (E.2.1, 48, .inl told)), (h, .inr (9, [.int thrown, .ref nw, .ref td, .ref tx, .int length, .int textSize, .int start, .int next, .int token, .int value, .int ((sX9_fails start error errorAt 3).1), .int ((sX9_fails start error errorAt 3).2), .int seen, .int triedWith, .ref rr, .ref ss, .ref tr, .ref wa, .int undos, .ref ud, .ref sl, .ref sv]))] H := hP
      have hX : xD A [tx, td, h] := xD.of hD rfl
      refine W.eq (g2 := F0 m 31 ls [.int 0]) rfl ?_
      exact x_wz (0, (sX9_fails start error errorAt 3).1, (sX9_fails start error errorAt 3).2, start, next, token, value, told) (by unfold sX9_sets; rw [if_pos c_1]; rw [if_pos c_2]; try rfl) rfl hx hb hr hlk rfl hS hP (hX.d rfl) [2, 0, 1] rfl rfl (Nat.le_of_ble_eq_true rfl) (Nat.le_of_ble_eq_true rfl) dX9_sets_31
  · refine lv_aload_n hx hb dX9_sets_8 rfl (lv_at hl 0 rfl) ?_
    refine lv_iconst (v := 1) hx hb dX9_sets_9 (by decide) ?_
    refine x_wV (wr := [(tx, .inl (E.2.2.1, 500, .inl text)), (td, .inl (E.2.1, 48, .inl told))]) [.int 1] (kX9_fails l E h thrown nw td tx length textSize start next token value error errorAt seen triedWith rr ss tr wa undos ud sl sv 1) ⟨hx, hb, hml, hown, hts⟩ (cwV 1 hts gX9_sets_X9_fails rfl rfl rfl hdX9_fails ⟨Nat.le_of_ble_eq_true rfl, Nat.le_of_ble_eq_true rfl⟩) hE hP (hX.d rfl) hS hA [0] [1, 2] rfl rfl rfl rfl (by decide) (ci := 9) (q0 := 0) rfl rfl rfl hl.1 rfl rfl (Nat.le_of_ble_eq_true rfl) dX9_sets_10 (Nat.le_of_ble_eq_true rfl) (Nat.le_of_ble_eq_true rfl) (fun q_7 H locs hq_7 hP hD hS => ?_)
    subst hq_7
    have hP : va_P E.1 vwCl [(tx, .inl (E.2.2.1, 500, .inl text)), (td, .inl (E.2.1, 48, .inl told)), (h, .inr (9, [.int thrown, .ref nw, .ref td, .ref tx, .int length, .int textSize, .int start, .int next, .int token, .int value, .int ((sX9_fails start error errorAt 1).1), .int ((sX9_fails start error errorAt 1).2), .int seen, .int triedWith, .ref rr, .ref ss, .ref tr, .ref wa, .int undos, .ref ud, .ref sl, .ref sv]))] H := hP
    have hX : xD A [tx, td, h] := xD.of hD rfl
    refine W.eq (g2 := F0 m 13 ls [.int 0]) rfl ?_
    exact x_wz (0, (sX9_fails start error errorAt 1).1, (sX9_fails start error errorAt 1).2, start, next, token, value, told) (by unfold sX9_sets; rw [if_neg c_1]; try rfl) rfl hx hb hr hlk rfl hS hP (hX.d rfl) [2, 0, 1] rfl rfl (Nat.le_of_ble_eq_true rfl) (Nat.le_of_ble_eq_true rfl) dX9_sets_13
theorem x_setsT {t s n tk v er ea : Int32} {text told : Nat → Int32} {what low high : Int32} (ht : xTok t s n) : xTok t (sX9_sets t s n tk v er ea text told what low high).2.2.2.1 (sX9_sets t s n tk v er ea text told what low high).2.2.2.2.1 := by
  unfold sX9_sets
  split
  · split
    · exact ht
    · exact x_advT ht.x
  · exact ht
theorem x_sets01 (t s n tk v er ea : Int32) (text told : Nat → Int32) (what low high : Int32) : (sX9_sets t s n tk v er ea text told what low high).1 = 0 ∨ (sX9_sets t s n tk v er ea text told what low high).1 = 1 := by
  unfold sX9_sets
  split
  · split
    · exact Or.inl rfl
    · exact Or.inr rfl
  · exact Or.inl rfl
theorem x_9k {k : Int32} (h0 : ¬ k < 0) (h1 : ¬ 6 ≤ k) : ¬ 9 + k < 0 ∧ ¬ 24 ≤ 9 + k := by
  have e9 : (9 : Int32).toInt = 9 := by decide
  have e6 : (6 : Int32).toInt = 6 := by decide
  have e24 : (24 : Int32).toInt = 24 := by decide
  rw [Int32.lt_iff_toInt_lt, Int32.toInt_zero] at h0
  rw [Int32.le_iff_toInt_le, e6] at h1
  have e : (9 + k).toInt = 9 + k.toInt := by
    rw [Int32.toInt_add, e9, Int.bmod_eq_of_le (by omega) (by omega)]
  rw [Int32.lt_iff_toInt_lt, Int32.le_iff_toInt_le, e, e24, Int32.toInt_zero]
  omega
