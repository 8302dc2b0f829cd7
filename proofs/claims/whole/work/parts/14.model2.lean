def sX9_isCaught_0 (now : Nat → Int32) (told : Nat → Int32) (rs : Nat → Int32) : Int32 :=
  if (sX9_isCell told (sX9_partOfLink_00 now told) (sX9_partOfLink_01 now told)) = 0 then
    0
  else
    if (rs ((sX9_cell (sX9_partOfLink_00 now told) (sX9_partOfLink_01 now told)).toNatClampNeg)) = 0 then
      1
    else
      0
theorem hdX9_isCaught : yX9_isCaught.cls = RX9 ∧ yX9_isCaught.cls ≠ "java/lang/invoke/MethodHandle" ∧ yX9_isCaught.cls ≠ "java/lang/invoke/VarHandle" ∧ (parseMethodDescriptor yX9_isCaught.desc).map (fun d => d.parameters.length) = some 1 := by decide +kernel
set_option maxHeartbeats 4000000 in
set_option maxRecDepth 100000 in
theorem kX9_isCaught_0 (l : Launch) (E : XE) (h : Nat) (thrown : Int32) (nw : Nat) (td : Nat) (tx : Nat) (length : Int32) (textSize : Int32) (start : Int32) (next : Int32) (token : Int32) (value : Int32) (error : Int32) (errorAt : Int32) (seen : Int32) (triedWith : Int32) (rr : Nat) (ss : Nat) (tr : Nat) (wa : Nat) (undos : Int32) (ud : Nat) (sl : Nat) (sv : Nat) (now : Nat → Int32) (told : Nat → Int32) (rs : Nat → Int32) (hw1 : ¬ 2 * told 15 = 0) (hw2 : ¬ 2 * told 16 = 0) (hc3 : told 17 ≤ 3) (hc0 : 0 ≤ told 17) : xR l yX9_isCaught wsX9_isCaught ({ frames := 2, cells := 0, slots := 0, locals := 45 }) E [(h, .inr (9, [.int thrown, .ref nw, .ref td, .ref tx, .int length, .int textSize, .int start, .int next, .int token, .int value, .int error, .int errorAt, .int seen, .int triedWith, .ref rr, .ref ss, .ref tr, .ref wa, .int undos, .ref ud, .ref sl, .ref sv])), (nw, .inl (E.2.1, 214, .inl now)), (td, .inl (E.2.1, 48, .inl told)), (rr, .inl (E.2.1, 49, .inl rs))] [.ref h, .int 0] (.int (sX9_isCaught_0 now told rs)) := by
  refine xR.of (cc := cX9_isCaught) (maxL := 4) (ret := (some .boolean)) (by decide) rfl (Nat.le_of_ble_eq_true rfl) ?_
  intro p e s m args below meth c ls hM hE hP hD hl
  obtain ⟨hx, hb, hr, hml, hts, hown, hlk, hnm⟩ := hM
  have g_1 : (Cond.fieldLink RX9 24 "RailPendulumModel" "reasons" "[I").before args s = true := hts (Cond.fieldLink RX9 24 "RailPendulumModel" "reasons" "[I") (by decide +kernel)
  have g_2 : ∀ w ∈ wsX90, w ∈ wsX9_isCaught := by decide +kernel
  have hl : lv_has ls 4 [(0, .ref h), (1, .int 0)] := hl
  refine lv_aload_n hx hb dX9_isCaught_0 rfl (lv_at hl 0 rfl) ?_
  refine lv_iload_n hx hb dX9_isCaught_1 rfl (lv_at hl 1 rfl) ?_
  refine lv_iconst (v := 0) hx hb dX9_isCaught_2 (by decide) ?_
  refine x_rV [.int 0, .int 0] (kX9_partOfLink_00 l E h thrown nw td tx length textSize start next token value error errorAt seen triedWith rr ss tr wa undos ud sl sv now told hw1 hw2) ⟨hx, hb, hml, hown, hts⟩ (cwV 2 hts gX9_isCaught_X9_partOfLink rfl rfl rfl hdX9_partOfLink ⟨Nat.le_of_ble_eq_true rfl, Nat.le_of_ble_eq_true rfl⟩) hE hP hD [0, 1, 2] rfl rfl (ci := 9) (q0 := 0) rfl rfl rfl hl.1 rfl rfl (Nat.le_of_ble_eq_true rfl) dX9_isCaught_3 (Nat.le_of_ble_eq_true rfl) (Nat.le_of_ble_eq_true rfl) ?_
  refine lv_istore_n (lv' := [(2, .int (sX9_partOfLink_00 now told)), (0, .ref h), (1, .int 0)]) hx hb dX9_isCaught_6 rfl hl (by decide) rfl (fun ls hl => ?_)
  refine lv_aload_n hx hb dX9_isCaught_7 rfl (lv_at hl 1 rfl) ?_
  refine lv_iload_n hx hb dX9_isCaught_8 rfl (lv_at hl 2 rfl) ?_
  refine lv_iconst (v := 1) hx hb dX9_isCaught_9 (by decide) ?_
  refine x_rV [.int 0, .int 1] (kX9_partOfLink_01 l E h thrown nw td tx length textSize start next token value error errorAt seen triedWith rr ss tr wa undos ud sl sv now told hw1 hw2) ⟨hx, hb, hml, hown, hts⟩ (cwV 2 hts gX9_isCaught_X9_partOfLink rfl rfl rfl hdX9_partOfLink ⟨Nat.le_of_ble_eq_true rfl, Nat.le_of_ble_eq_true rfl⟩) hE hP hD [0, 1, 2] rfl rfl (ci := 9) (q0 := 0) rfl rfl rfl hl.1 rfl rfl (Nat.le_of_ble_eq_true rfl) dX9_isCaught_10 (Nat.le_of_ble_eq_true rfl) (Nat.le_of_ble_eq_true rfl) ?_
  refine lv_istore_n (lv' := [(3, .int (sX9_partOfLink_01 now told)), (2, .int (sX9_partOfLink_00 now told)), (0, .ref h), (1, .int 0)]) hx hb dX9_isCaught_13 rfl hl (by decide) rfl (fun ls hl => ?_)
  refine lv_aload_n hx hb dX9_isCaught_14 rfl (lv_at hl 2 rfl) ?_
  refine lv_iload_n hx hb dX9_isCaught_15 rfl (lv_at hl 1 rfl) ?_
  refine lv_iload_n hx hb dX9_isCaught_16 rfl (lv_at hl 0 rfl) ?_
  refine x_rV [.int (sX9_partOfLink_00 now told), .int (sX9_partOfLink_01 now told)] (kX9_isCell l E h thrown nw td tx length textSize start next token value error errorAt seen triedWith rr ss tr wa undos ud sl sv told (sX9_partOfLink_00 now told) (sX9_partOfLink_01 now told)) ⟨hx, hb, hml, hown, hts⟩ (cwV 2 hts gX9_isCaught_X9_isCell rfl rfl rfl hdX9_isCell ⟨Nat.le_of_ble_eq_true rfl, Nat.le_of_ble_eq_true rfl⟩) hE hP hD [0, 2] rfl rfl (ci := 9) (q0 := 0) rfl rfl rfl hl.1 rfl rfl (Nat.le_of_ble_eq_true rfl) dX9_isCaught_17 (Nat.le_of_ble_eq_true rfl) (Nat.le_of_ble_eq_true rfl) ?_
  refine lv_if_eq (tgt := 40) hx hb dX9_isCaught_20 (by decide) (fun c_1 => ?_) (fun c_1 => ?_)
  · refine lv_iconst (v := 0) hx hb dX9_isCaught_40 (by decide) ?_
    exact x_zr (by unfold sX9_isCaught_0; rw [if_pos c_1]; try rfl) hx hb hr hlk rfl dX9_isCaught_41
  · refine lv_aload_n hx hb dX9_isCaught_23 rfl (lv_at hl 2 rfl) ?_
    refine va_get (D := E.1) (ci := 9) (v := .ref rr) (C := RX9) (T := TX9) (N := 22) hx hb hts g_2 hown hE.1 hP 0 rfl rfl 14 (by decide) g_1 (fun _ h9 => h9) rfl dX9_isCaught_24 ?_
    refine lv_iload_n hx hb dX9_isCaught_27 rfl (lv_at hl 1 rfl) ?_
    refine lv_iload_n hx hb dX9_isCaught_28 rfl (lv_at hl 0 rfl) ?_
    refine x_rS [.int (sX9_partOfLink_00 now told), .int (sX9_partOfLink_01 now told)] (kX9_cell l E (sX9_partOfLink_00 now told) (sX9_partOfLink_01 now told)) ⟨hx, hb, hml, hown, hts⟩ (va_cwS 2 hts gX9_isCaught_X9_cell rfl rfl rfl hdX9_cell.2 ⟨Nat.le_of_ble_eq_true rfl, Nat.le_of_ble_eq_true rfl⟩) hE hP hD [] rfl rfl hl.1 rfl rfl (Nat.le_of_ble_eq_true rfl) dX9_isCaught_29 (Nat.le_of_ble_eq_true rfl) (Nat.le_of_ble_eq_true rfl) ?_
    refine x_iald hx hb hE.1 hP 3 0 rfl rfl ((sX9_cell (sX9_partOfLink_00 now told) (sX9_partOfLink_01 now told)).toNatClampNeg) rfl (x_iscell hc3 hc0 c_1) dX9_isCaught_32 ?_
    refine lv_if_ne (tgt := 40) hx hb dX9_isCaught_33 (by decide) (fun c_2 => ?_) (fun c_2 => ?_)
    · refine lv_iconst (v := 0) hx hb dX9_isCaught_40 (by decide) ?_
      exact x_zr (by unfold sX9_isCaught_0; rw [if_neg c_1]; rw [if_neg c_2]; try rfl) hx hb hr hlk rfl dX9_isCaught_41
    · refine lv_iconst (v := 1) hx hb dX9_isCaught_36 (by decide) ?_
      refine lv_goto (tgt := 41) hx hb dX9_isCaught_37 (by decide) ?_
      exact x_zr (by unfold sX9_isCaught_0; rw [if_neg c_1]; rw [if_pos c_2]; try rfl) hx hb hr hlk rfl dX9_isCaught_41
def sX9_isCaught_1 (now : Nat → Int32) (told : Nat → Int32) (rs : Nat → Int32) : Int32 :=
  if (sX9_isCell told (sX9_partOfLink_10 now told) (sX9_partOfLink_11 now told)) = 0 then
    0
  else
    if (rs ((sX9_cell (sX9_partOfLink_10 now told) (sX9_partOfLink_11 now told)).toNatClampNeg)) = 0 then
      1
    else
      0
set_option maxHeartbeats 4000000 in
set_option maxRecDepth 100000 in
theorem kX9_isCaught_1 (l : Launch) (E : XE) (h : Nat) (thrown : Int32) (nw : Nat) (td : Nat) (tx : Nat) (length : Int32) (textSize : Int32) (start : Int32) (next : Int32) (token : Int32) (value : Int32) (error : Int32) (errorAt : Int32) (seen : Int32) (triedWith : Int32) (rr : Nat) (ss : Nat) (tr : Nat) (wa : Nat) (undos : Int32) (ud : Nat) (sl : Nat) (sv : Nat) (now : Nat → Int32) (told : Nat → Int32) (rs : Nat → Int32) (hw1 : ¬ 2 * told 15 = 0) (hw2 : ¬ 2 * told 16 = 0) (hc3 : told 17 ≤ 3) (hc0 : 0 ≤ told 17) : xR l yX9_isCaught wsX9_isCaught ({ frames := 2, cells := 0, slots := 0, locals := 45 }) E [(h, .inr (9, [.int thrown, .ref nw, .ref td, .ref tx, .int length, .int textSize, .int start, .int next, .int token, .int value, .int error, .int errorAt, .int seen, .int triedWith, .ref rr, .ref ss, .ref tr, .ref wa, .int undos, .ref ud, .ref sl, .ref sv])), (nw, .inl (E.2.1, 214, .inl now)), (td, .inl (E.2.1, 48, .inl told)), (rr, .inl (E.2.1, 49, .inl rs))] [.ref h, .int 1] (.int (sX9_isCaught_1 now told rs)) := by
  refine xR.of (cc := cX9_isCaught) (maxL := 4) (ret := (some .boolean)) (by decide) rfl (Nat.le_of_ble_eq_true rfl) ?_
  intro p e s m args below meth c ls hM hE hP hD hl
  obtain ⟨hx, hb, hr, hml, hts, hown, hlk, hnm⟩ := hM
  have g_1 : (Cond.fieldLink RX9 24 "RailPendulumModel" "reasons" "[I").before args s = true := hts (Cond.fieldLink RX9 24 "RailPendulumModel" "reasons" "[I") (by decide +kernel)
  have g_2 : ∀ w ∈ wsX90, w ∈ wsX9_isCaught := by decide +kernel
  have hl : lv_has ls 4 [(0, .ref h), (1, .int 1)] := hl
  refine lv_aload_n hx hb dX9_isCaught_0 rfl (lv_at hl 0 rfl) ?_
  refine lv_iload_n hx hb dX9_isCaught_1 rfl (lv_at hl 1 rfl) ?_
  refine lv_iconst (v := 0) hx hb dX9_isCaught_2 (by decide) ?_
  refine x_rV [.int 1, .int 0] (kX9_partOfLink_10 l E h thrown nw td tx length textSize start next token value error errorAt seen triedWith rr ss tr wa undos ud sl sv now told hw1 hw2) ⟨hx, hb, hml, hown, hts⟩ (cwV 2 hts gX9_isCaught_X9_partOfLink rfl rfl rfl hdX9_partOfLink ⟨Nat.le_of_ble_eq_true rfl, Nat.le_of_ble_eq_true rfl⟩) hE hP hD [0, 1, 2] rfl rfl (ci := 9) (q0 := 0) rfl rfl rfl hl.1 rfl rfl (Nat.le_of_ble_eq_true rfl) dX9_isCaught_3 (Nat.le_of_ble_eq_true rfl) (Nat.le_of_ble_eq_true rfl) ?_
  refine lv_istore_n (lv' := [(2, .int (sX9_partOfLink_10 now told)), (0, .ref h), (1, .int 1)]) hx hb dX9_isCaught_6 rfl hl (by decide) rfl (fun ls hl => ?_)
  refine lv_aload_n hx hb dX9_isCaught_7 rfl (lv_at hl 1 rfl) ?_
  refine lv_iload_n hx hb dX9_isCaught_8 rfl (lv_at hl 2 rfl) ?_
  refine lv_iconst (v := 1) hx hb dX9_isCaught_9 (by decide) ?_
  refine x_rV [.int 1, .int 1] (kX9_partOfLink_11 l E h thrown nw td tx length textSize start next token value error errorAt seen triedWith rr ss tr wa undos ud sl sv now told hw1 hw2) ⟨hx, hb, hml, hown, hts⟩ (cwV 2 hts gX9_isCaught_X9_partOfLink rfl rfl rfl hdX9_partOfLink ⟨Nat.le_of_ble_eq_true rfl, Nat.le_of_ble_eq_true rfl⟩) hE hP hD [0, 1, 2] rfl rfl (ci := 9) (q0 := 0) rfl rfl rfl hl.1 rfl rfl (Nat.le_of_ble_eq_true rfl) dX9_isCaught_10 (Nat.le_of_ble_eq_true rfl) (Nat.le_of_ble_eq_true rfl) ?_
  refine lv_istore_n (lv' := [(3, .int (sX9_partOfLink_11 now told)), (2, .int (sX9_partOfLink_10 now told)), (0, .ref h), (1, .int 1)]) hx hb dX9_isCaught_13 rfl hl (by decide) rfl (fun ls hl => ?_)
  refine lv_aload_n hx hb dX9_isCaught_14 rfl (lv_at hl 2 rfl) ?_
  refine lv_iload_n hx hb dX9_isCaught_15 rfl (lv_at hl 1 rfl) ?_
  refine lv_iload_n hx hb dX9_isCaught_16 rfl (lv_at hl 0 rfl) ?_
  refine x_rV [.int (sX9_partOfLink_10 now told), .int (sX9_partOfLink_11 now told)] (kX9_isCell l E h thrown nw td tx length textSize start next token value error errorAt seen triedWith rr ss tr wa undos ud sl sv told (sX9_partOfLink_10 now told) (sX9_partOfLink_11 now told)) ⟨hx, hb, hml, hown, hts⟩ (cwV 2 hts gX9_isCaught_X9_isCell rfl rfl rfl hdX9_isCell ⟨Nat.le_of_ble_eq_true rfl, Nat.le_of_ble_eq_true rfl⟩) hE hP hD [0, 2] rfl rfl (ci := 9) (q0 := 0) rfl rfl rfl hl.1 rfl rfl (Nat.le_of_ble_eq_true rfl) dX9_isCaught_17 (Nat.le_of_ble_eq_true rfl) (Nat.le_of_ble_eq_true rfl) ?_
  refine lv_if_eq (tgt := 40) hx hb dX9_isCaught_20 (by decide) (fun c_1 => ?_) (fun c_1 => ?_)
  · refine lv_iconst (v := 0) hx hb dX9_isCaught_40 (by decide) ?_
    exact x_zr (by unfold sX9_isCaught_1; rw [if_pos c_1]; try rfl) hx hb hr hlk rfl dX9_isCaught_41
  · refine lv_aload_n hx hb dX9_isCaught_23 rfl (lv_at hl 2 rfl) ?_
    refine va_get (D := E.1) (ci := 9) (v := .ref rr) (C := RX9) (T := TX9) (N := 22) hx hb hts g_2 hown hE.1 hP 0 rfl rfl 14 (by decide) g_1 (fun _ h9 => h9) rfl dX9_isCaught_24 ?_
    refine lv_iload_n hx hb dX9_isCaught_27 rfl (lv_at hl 1 rfl) ?_
    refine lv_iload_n hx hb dX9_isCaught_28 rfl (lv_at hl 0 rfl) ?_
    refine x_rS [.int (sX9_partOfLink_10 now told), .int (sX9_partOfLink_11 now told)] (kX9_cell l E (sX9_partOfLink_10 now told) (sX9_partOfLink_11 now told)) ⟨hx, hb, hml, hown, hts⟩ (va_cwS 2 hts gX9_isCaught_X9_cell rfl rfl rfl hdX9_cell.2 ⟨Nat.le_of_ble_eq_true rfl, Nat.le_of_ble_eq_true rfl⟩) hE hP hD [] rfl rfl hl.1 rfl rfl (Nat.le_of_ble_eq_true rfl) dX9_isCaught_29 (Nat.le_of_ble_eq_true rfl) (Nat.le_of_ble_eq_true rfl) ?_
    refine x_iald hx hb hE.1 hP 3 0 rfl rfl ((sX9_cell (sX9_partOfLink_10 now told) (sX9_partOfLink_11 now told)).toNatClampNeg) rfl (x_iscell hc3 hc0 c_1) dX9_isCaught_32 ?_
    refine lv_if_ne (tgt := 40) hx hb dX9_isCaught_33 (by decide) (fun c_2 => ?_) (fun c_2 => ?_)
    · refine lv_iconst (v := 0) hx hb dX9_isCaught_40 (by decide) ?_
      exact x_zr (by unfold sX9_isCaught_1; rw [if_neg c_1]; rw [if_neg c_2]; try rfl) hx hb hr hlk rfl dX9_isCaught_41
    · refine lv_iconst (v := 1) hx hb dX9_isCaught_36 (by decide) ?_
      refine lv_goto (tgt := 41) hx hb dX9_isCaught_37 (by decide) ?_
      exact x_zr (by unfold sX9_isCaught_1; rw [if_neg c_1]; rw [if_pos c_2]; try rfl) hx hb hr hlk rfl dX9_isCaught_41
def sX9_energyOf_0 (now : Nat → Int32) (told : Nat → Int32) : Int64 :=
  ((((now 12).toInt64) * ((now 12).toInt64)) / 2) + (((((told 1).toInt64) * ((sX9_cosineOf (now 10)).toInt64)) * 10430) / 4096)
theorem hdX9_energyOf : yX9_energyOf.cls = RX9 ∧ yX9_energyOf.cls ≠ "java/lang/invoke/MethodHandle" ∧ yX9_energyOf.cls ≠ "java/lang/invoke/VarHandle" ∧ (parseMethodDescriptor yX9_energyOf.desc).map (fun d => d.parameters.length) = some 1 := by decide +kernel
set_option maxHeartbeats 4000000 in
set_option maxRecDepth 100000 in
theorem kX9_energyOf_0 (l : Launch) (E : XE) (h : Nat) (thrown : Int32) (nw : Nat) (td : Nat) (tx : Nat) (length : Int32) (textSize : Int32) (start : Int32) (next : Int32) (token : Int32) (value : Int32) (error : Int32) (errorAt : Int32) (seen : Int32) (triedWith : Int32) (rr : Nat) (ss : Nat) (tr : Nat) (wa : Nat) (undos : Int32) (ud : Nat) (sl : Nat) (sv : Nat) (now : Nat → Int32) (told : Nat → Int32) : xR l yX9_energyOf wsX9_energyOf ({ frames := 2, cells := 0, slots := 0, locals := 44 }) E [(h, .inr (9, [.int thrown, .ref nw, .ref td, .ref tx, .int length, .int textSize, .int start, .int next, .int token, .int value, .int error, .int errorAt, .int seen, .int triedWith, .ref rr, .ref ss, .ref tr, .ref wa, .int undos, .ref ud, .ref sl, .ref sv])), (nw, .inl (E.2.1, 214, .inl now)), (td, .inl (E.2.1, 48, .inl told))] [.ref h, .int 0] (.long (sX9_energyOf_0 now told)) := by
  refine xR.of (cc := cX9_energyOf) (maxL := 4) (ret := (some .long)) (by decide) rfl (Nat.le_of_ble_eq_true rfl) ?_
  intro p e s m args below meth c ls hM hE hP hD hl
  obtain ⟨hx, hb, hr, hml, hts, hown, hlk, hnm⟩ := hM
  have g_1 : (Cond.fieldLink RX9 7 "RailPendulumModel" "now" "[I").before args s = true := hts (Cond.fieldLink RX9 7 "RailPendulumModel" "now" "[I") (by decide +kernel)
  have g_2 : ∀ w ∈ wsX90, w ∈ wsX9_energyOf := by decide +kernel
  have g_3 : (Cond.constantLong RX9 240 (2)).before args s = true := hts (Cond.constantLong RX9 240 (2)) (by decide +kernel)
  have g_4 : (Cond.fieldLink RX9 13 "RailPendulumModel" "told" "[I").before args s = true := hts (Cond.fieldLink RX9 13 "RailPendulumModel" "told" "[I") (by decide +kernel)
  have g_5 : (Cond.constantLong RX9 242 (10430)).before args s = true := hts (Cond.constantLong RX9 242 (10430)) (by decide +kernel)
  have g_6 : (Cond.constantLong RX9 244 (4096)).before args s = true := hts (Cond.constantLong RX9 244 (4096)) (by decide +kernel)
  have hl : lv_has ls 4 [(0, .ref h), (1, .int 0)] := hl
  refine lv_aload_n hx hb dX9_energyOf_0 rfl (lv_at hl 0 rfl) ?_
  refine va_get (D := E.1) (ci := 9) (v := .ref nw) (C := RX9) (T := TX9) (N := 22) hx hb hts g_2 hown hE.1 hP 0 rfl rfl 1 (by decide) g_1 (fun _ h9 => h9) rfl dX9_energyOf_1 ?_
  refine lv_bipush (v := 12) hx hb dX9_energyOf_4 (by decide) ?_
  refine lv_iload_n hx hb dX9_energyOf_6 rfl (lv_at hl 1 rfl) ?_
  refine lv_iadd hx hb dX9_energyOf_7 ?_
  refine lv_topi (fun z_1 ez_1 => ?_)
  obtain rfl : z_1 = 12 := ez_1.trans (by decide)
  refine x_iald hx hb hE.1 hP 1 0 rfl rfl 12 (by decide) (by unfold vp_in; decide) dX9_energyOf_8 ?_
  refine lv_i2l hx hb dX9_energyOf_9 rfl ?_
  refine lv_lstore_n (lv' := [(2, .long ((now 12).toInt64)), (0, .ref h), (1, .int 0)]) hx hb dX9_energyOf_10 rfl hl (by decide) rfl (fun ls hl => ?_)
  refine lv_lload_n hx hb dX9_energyOf_11 rfl (lv_at hl 0 rfl) ?_
  refine lv_lload_n hx hb dX9_energyOf_12 rfl (lv_at hl 0 rfl) ?_
  refine lv_lmul hx hb dX9_energyOf_13 ?_
  refine lv_ldc2 (v := 2) hx hb hown g_3 dX9_energyOf_14 ?_
  refine lv_ldiv hx hb dX9_energyOf_17 (by decide) ?_
  refine lv_aload_n hx hb dX9_energyOf_18 rfl (lv_at hl 1 rfl) ?_
  refine va_get (D := E.1) (ci := 9) (v := .ref td) (C := RX9) (T := TX9) (N := 22) hx hb hts g_2 hown hE.1 hP 0 rfl rfl 2 (by decide) g_4 (fun _ h9 => h9) rfl dX9_energyOf_19 ?_
  refine lv_iconst (v := 1) hx hb dX9_energyOf_22 (by decide) ?_
  refine lv_iload_n hx hb dX9_energyOf_23 rfl (lv_at hl 2 rfl) ?_
  refine lv_iadd hx hb dX9_energyOf_24 ?_
  refine lv_topi (fun z_2 ez_2 => ?_)
  obtain rfl : z_2 = 1 := ez_2.trans (by decide)
  refine x_iald hx hb hE.1 hP 2 0 rfl rfl 1 (by decide) (by unfold vp_in; decide) dX9_energyOf_25 ?_
  refine lv_i2l hx hb dX9_energyOf_26 rfl ?_
  refine lv_aload_n hx hb dX9_energyOf_27 rfl (lv_at hl 1 rfl) ?_
  refine va_get (D := E.1) (ci := 9) (v := .ref nw) (C := RX9) (T := TX9) (N := 22) hx hb hts g_2 hown hE.1 hP 0 rfl rfl 1 (by decide) g_1 (fun _ h9 => h9) rfl dX9_energyOf_28 ?_
  refine lv_bipush (v := 10) hx hb dX9_energyOf_31 (by decide) ?_
  refine lv_iload_n hx hb dX9_energyOf_33 rfl (lv_at hl 2 rfl) ?_
  refine lv_iadd hx hb dX9_energyOf_34 ?_
  refine lv_topi (fun z_3 ez_3 => ?_)
  obtain rfl : z_3 = 10 := ez_3.trans (by decide)
  refine x_iald hx hb hE.1 hP 1 0 rfl rfl 10 (by decide) (by unfold vp_in; decide) dX9_energyOf_35 ?_
  refine x_rS [.int (now 10)] (kX9_cosineOf l E (now 10)) ⟨hx, hb, hml, hown, hts⟩ (va_cwS 1 hts gX9_energyOf_X9_cosineOf rfl rfl rfl hdX9_cosineOf.2 ⟨Nat.le_of_ble_eq_true rfl, Nat.le_of_ble_eq_true rfl⟩) hE hP hD [] rfl rfl hl.1 rfl rfl (Nat.le_of_ble_eq_true rfl) dX9_energyOf_36 (Nat.le_of_ble_eq_true rfl) (Nat.le_of_ble_eq_true rfl) ?_
  refine lv_i2l hx hb dX9_energyOf_39 rfl ?_
  refine lv_lmul hx hb dX9_energyOf_40 ?_
  refine lv_ldc2 (v := 10430) hx hb hown g_5 dX9_energyOf_41 ?_
  refine lv_lmul hx hb dX9_energyOf_44 ?_
  refine lv_ldc2 (v := 4096) hx hb hown g_6 dX9_energyOf_45 ?_
  refine lv_ldiv hx hb dX9_energyOf_48 (by decide) ?_
  refine lv_ladd hx hb dX9_energyOf_49 ?_
  exact x_lr (by unfold sX9_energyOf_0; try rfl) hx hb hr hlk dX9_energyOf_50
def sX9_energyOf_1 (now : Nat → Int32) (told : Nat → Int32) : Int64 :=
  ((((now 13).toInt64) * ((now 13).toInt64)) / 2) + (((((told 2).toInt64) * ((sX9_cosineOf (now 11)).toInt64)) * 10430) / 4096)
set_option maxHeartbeats 4000000 in
set_option maxRecDepth 100000 in
theorem kX9_energyOf_1 (l : Launch) (E : XE) (h : Nat) (thrown : Int32) (nw : Nat) (td : Nat) (tx : Nat) (length : Int32) (textSize : Int32) (start : Int32) (next : Int32) (token : Int32) (value : Int32) (error : Int32) (errorAt : Int32) (seen : Int32) (triedWith : Int32) (rr : Nat) (ss : Nat) (tr : Nat) (wa : Nat) (undos : Int32) (ud : Nat) (sl : Nat) (sv : Nat) (now : Nat → Int32) (told : Nat → Int32) : xR l yX9_energyOf wsX9_energyOf ({ frames := 2, cells := 0, slots := 0, locals := 44 }) E [(h, .inr (9, [.int thrown, .ref nw, .ref td, .ref tx, .int length, .int textSize, .int start, .int next, .int token, .int value, .int error, .int errorAt, .int seen, .int triedWith, .ref rr, .ref ss, .ref tr, .ref wa, .int undos, .ref ud, .ref sl, .ref sv])), (nw, .inl (E.2.1, 214, .inl now)), (td, .inl (E.2.1, 48, .inl told))] [.ref h, .int 1] (.long (sX9_energyOf_1 now told)) := by
  refine xR.of (cc := cX9_energyOf) (maxL := 4) (ret := (some .long)) (by decide) rfl (Nat.le_of_ble_eq_true rfl) ?_
  intro p e s m args below meth c ls hM hE hP hD hl
  obtain ⟨hx, hb, hr, hml, hts, hown, hlk, hnm⟩ := hM
  have g_1 : (Cond.fieldLink RX9 7 "RailPendulumModel" "now" "[I").before args s = true := hts (Cond.fieldLink RX9 7 "RailPendulumModel" "now" "[I") (by decide +kernel)
  have g_2 : ∀ w ∈ wsX90, w ∈ wsX9_energyOf := by decide +kernel
  have g_3 : (Cond.constantLong RX9 240 (2)).before args s = true := hts (Cond.constantLong RX9 240 (2)) (by decide +kernel)
  have g_4 : (Cond.fieldLink RX9 13 "RailPendulumModel" "told" "[I").before args s = true := hts (Cond.fieldLink RX9 13 "RailPendulumModel" "told" "[I") (by decide +kernel)
  have g_5 : (Cond.constantLong RX9 242 (10430)).before args s = true := hts (Cond.constantLong RX9 242 (10430)) (by decide +kernel)
  have g_6 : (Cond.constantLong RX9 244 (4096)).before args s = true := hts (Cond.constantLong RX9 244 (4096)) (by decide +kernel)
  have hl : lv_has ls 4 [(0, .ref h), (1, .int 1)] := hl
  refine lv_aload_n hx hb dX9_energyOf_0 rfl (lv_at hl 0 rfl) ?_
  refine va_get (D := E.1) (ci := 9) (v := .ref nw) (C := RX9) (T := TX9) (N := 22) hx hb hts g_2 hown hE.1 hP 0 rfl rfl 1 (by decide) g_1 (fun _ h9 => h9) rfl dX9_energyOf_1 ?_
  refine lv_bipush (v := 12) hx hb dX9_energyOf_4 (by decide) ?_
  refine lv_iload_n hx hb dX9_energyOf_6 rfl (lv_at hl 1 rfl) ?_
  refine lv_iadd hx hb dX9_energyOf_7 ?_
  refine lv_topi (fun z_1 ez_1 => ?_)
  obtain rfl : z_1 = 13 := ez_1.trans (by decide)
  refine x_iald hx hb hE.1 hP 1 0 rfl rfl 13 (by decide) (by unfold vp_in; decide) dX9_energyOf_8 ?_
  refine lv_i2l hx hb dX9_energyOf_9 rfl ?_
  refine lv_lstore_n (lv' := [(2, .long ((now 13).toInt64)), (0, .ref h), (1, .int 1)]) hx hb dX9_energyOf_10 rfl hl (by decide) rfl (fun ls hl => ?_)
  refine lv_lload_n hx hb dX9_energyOf_11 rfl (lv_at hl 0 rfl) ?_
  refine lv_lload_n hx hb dX9_energyOf_12 rfl (lv_at hl 0 rfl) ?_
  refine lv_lmul hx hb dX9_energyOf_13 ?_
  refine lv_ldc2 (v := 2) hx hb hown g_3 dX9_energyOf_14 ?_
  refine lv_ldiv hx hb dX9_energyOf_17 (by decide) ?_
  refine lv_aload_n hx hb dX9_energyOf_18 rfl (lv_at hl 1 rfl) ?_
  refine va_get (D := E.1) (ci := 9) (v := .ref td) (C := RX9) (T := TX9) (N := 22) hx hb hts g_2 hown hE.1 hP 0 rfl rfl 2 (by decide) g_4 (fun _ h9 => h9) rfl dX9_energyOf_19 ?_
  refine lv_iconst (v := 1) hx hb dX9_energyOf_22 (by decide) ?_
  refine lv_iload_n hx hb dX9_energyOf_23 rfl (lv_at hl 2 rfl) ?_
  refine lv_iadd hx hb dX9_energyOf_24 ?_
  refine lv_topi (fun z_2 ez_2 => ?_)
  obtain rfl : z_2 = 2 := ez_2.trans (by decide)
  refine x_iald hx hb hE.1 hP 2 0 rfl rfl 2 (by decide) (by unfold vp_in; decide) dX9_energyOf_25 ?_
  refine lv_i2l hx hb dX9_energyOf_26 rfl ?_
  refine lv_aload_n hx hb dX9_energyOf_27 rfl (lv_at hl 1 rfl) ?_
  refine va_get (D := E.1) (ci := 9) (v := .ref nw) (C := RX9) (T := TX9) (N := 22) hx hb hts g_2 hown hE.1 hP 0 rfl rfl 1 (by decide) g_1 (fun _ h9 => h9) rfl dX9_energyOf_28 ?_
  refine lv_bipush (v := 10) hx hb dX9_energyOf_31 (by decide) ?_
  refine lv_iload_n hx hb dX9_energyOf_33 rfl (lv_at hl 2 rfl) ?_
  refine lv_iadd hx hb dX9_energyOf_34 ?_
  refine lv_topi (fun z_3 ez_3 => ?_)
  obtain rfl : z_3 = 11 := ez_3.trans (by decide)
  refine x_iald hx hb hE.1 hP 1 0 rfl rfl 11 (by decide) (by unfold vp_in; decide) dX9_energyOf_35 ?_
  refine x_rS [.int (now 11)] (kX9_cosineOf l E (now 11)) ⟨hx, hb, hml, hown, hts⟩ (va_cwS 1 hts gX9_energyOf_X9_cosineOf rfl rfl rfl hdX9_cosineOf.2 ⟨Nat.le_of_ble_eq_true rfl, Nat.le_of_ble_eq_true rfl⟩) hE hP hD [] rfl rfl hl.1 rfl rfl (Nat.le_of_ble_eq_true rfl) dX9_energyOf_36 (Nat.le_of_ble_eq_true rfl) (Nat.le_of_ble_eq_true rfl) ?_
  refine lv_i2l hx hb dX9_energyOf_39 rfl ?_
  refine lv_lmul hx hb dX9_energyOf_40 ?_
  refine lv_ldc2 (v := 10430) hx hb hown g_5 dX9_energyOf_41 ?_
  refine lv_lmul hx hb dX9_energyOf_44 ?_
  refine lv_ldc2 (v := 4096) hx hb hown g_6 dX9_energyOf_45 ?_
  refine lv_ldiv hx hb dX9_energyOf_48 (by decide) ?_
  refine lv_ladd hx hb dX9_energyOf_49 ?_
  exact x_lr (by unfold sX9_energyOf_1; try rfl) hx hb hr hlk dX9_energyOf_50
def sX9_ofLink_1 (now : Nat → Int32) (what : Int32) : Int32 :=
  if what = 0 then
    now 10
  else
    if what = 1 then
      now 12
    else
      sX9_leanOf (now 10)
theorem hdX9_ofLink : yX9_ofLink.cls = RX9 ∧ yX9_ofLink.cls ≠ "java/lang/invoke/MethodHandle" ∧ yX9_ofLink.cls ≠ "java/lang/invoke/VarHandle" ∧ (parseMethodDescriptor yX9_ofLink.desc).map (fun d => d.parameters.length) = some 2 := by decide +kernel
set_option maxHeartbeats 4000000 in
set_option maxRecDepth 100000 in
theorem kX9_ofLink_1 (l : Launch) (E : XE) (h : Nat) (thrown : Int32) (nw : Nat) (td : Nat) (tx : Nat) (length : Int32) (textSize : Int32) (start : Int32) (next : Int32) (token : Int32) (value : Int32) (error : Int32) (errorAt : Int32) (seen : Int32) (triedWith : Int32) (rr : Nat) (ss : Nat) (tr : Nat) (wa : Nat) (undos : Int32) (ud : Nat) (sl : Nat) (sv : Nat) (now : Nat → Int32) (what : Int32) : xR l yX9_ofLink wsX9_ofLink ({ frames := 1, cells := 0, slots := 0, locals := 20 }) E [(h, .inr (9, [.int thrown, .ref nw, .ref td, .ref tx, .int length, .int textSize, .int start, .int next, .int token, .int value, .int error, .int errorAt, .int seen, .int triedWith, .ref rr, .ref ss, .ref tr, .ref wa, .int undos, .ref ud, .ref sl, .ref sv])), (nw, .inl (E.2.1, 214, .inl now))] [.ref h, .int 1, .int what] (.int (sX9_ofLink_1 now what)) := by
  refine xR.of (cc := cX9_ofLink) (maxL := 3) (ret := (some .int)) (by decide) rfl (Nat.le_of_ble_eq_true rfl) ?_
  intro p e s m args below meth c ls hM hE hP hD hl
  obtain ⟨hx, hb, hr, hml, hts, hown, hlk, hnm⟩ := hM
  have g_1 : (Cond.fieldLink RX9 7 "RailPendulumModel" "now" "[I").before args s = true := hts (Cond.fieldLink RX9 7 "RailPendulumModel" "now" "[I") (by decide +kernel)
  have g_2 : ∀ w ∈ wsX90, w ∈ wsX9_ofLink := by decide +kernel
  have hl : lv_has ls 3 [(0, .ref h), (1, .int 1), (2, .int what)] := hl
  refine lv_iload_n hx hb dX9_ofLink_0 rfl (lv_at hl 2 rfl) ?_
  refine lv_if_ne (tgt := 18) hx hb dX9_ofLink_1 (by decide) (fun c_1 => ?_) (fun c_1 => ?_)
  · refine lv_iload_n hx hb dX9_ofLink_18 rfl (lv_at hl 2 rfl) ?_
    refine lv_iconst (v := 1) hx hb dX9_ofLink_19 (by decide) ?_
    refine lv_icmp_ne (tgt := 37) hx hb dX9_ofLink_20 (by decide) (fun c_2 => ?_) (fun c_2 => ?_)
    · refine lv_aload_n hx hb dX9_ofLink_37 rfl (lv_at hl 0 rfl) ?_
      refine va_get (D := E.1) (ci := 9) (v := .ref nw) (C := RX9) (T := TX9) (N := 22) hx hb hts g_2 hown hE.1 hP 0 rfl rfl 1 (by decide) g_1 (fun _ h9 => h9) rfl dX9_ofLink_38 ?_
      refine lv_bipush (v := 10) hx hb dX9_ofLink_41 (by decide) ?_
      refine lv_iload_n hx hb dX9_ofLink_43 rfl (lv_at hl 1 rfl) ?_
      refine lv_iadd hx hb dX9_ofLink_44 ?_
      refine lv_topi (fun z_3 ez_3 => ?_)
      obtain rfl : z_3 = 11 := ez_3.trans (by decide)
      refine lv_iconst (v := 1) hx hb dX9_ofLink_45 (by decide) ?_
      refine lv_isub hx hb dX9_ofLink_46 ?_
      refine lv_topi (fun z_4 ez_4 => ?_)
      obtain rfl : z_4 = 10 := ez_4.trans (by decide)
      refine x_iald hx hb hE.1 hP 1 0 rfl rfl 10 (by decide) (by unfold vp_in; decide) dX9_ofLink_47 ?_
      refine x_rS [.int (now 10)] (kX9_leanOf l E (now 10)) ⟨hx, hb, hml, hown, hts⟩ (va_cwS 1 hts gX9_ofLink_X9_leanOf rfl rfl rfl hdX9_leanOf.2 ⟨Nat.le_of_ble_eq_true rfl, Nat.le_of_ble_eq_true rfl⟩) hE hP hD [] rfl rfl hl.1 rfl rfl (Nat.le_of_ble_eq_true rfl) dX9_ofLink_48 (Nat.le_of_ble_eq_true rfl) (Nat.le_of_ble_eq_true rfl) ?_
      exact x_ir (by unfold sX9_ofLink_1; rw [if_neg c_1]; rw [if_neg c_2]; try rfl) hx hb hr hlk dX9_ofLink_51
    · refine lv_aload_n hx hb dX9_ofLink_23 rfl (lv_at hl 0 rfl) ?_
      refine va_get (D := E.1) (ci := 9) (v := .ref nw) (C := RX9) (T := TX9) (N := 22) hx hb hts g_2 hown hE.1 hP 0 rfl rfl 1 (by decide) g_1 (fun _ h9 => h9) rfl dX9_ofLink_24 ?_
      refine lv_bipush (v := 12) hx hb dX9_ofLink_27 (by decide) ?_
      refine lv_iload_n hx hb dX9_ofLink_29 rfl (lv_at hl 1 rfl) ?_
      refine lv_iadd hx hb dX9_ofLink_30 ?_
      refine lv_topi (fun z_5 ez_5 => ?_)
      obtain rfl : z_5 = 13 := ez_5.trans (by decide)
      refine lv_iconst (v := 1) hx hb dX9_ofLink_31 (by decide) ?_
      refine lv_isub hx hb dX9_ofLink_32 ?_
      refine lv_topi (fun z_6 ez_6 => ?_)
      obtain rfl : z_6 = 12 := ez_6.trans (by decide)
      refine x_iald hx hb hE.1 hP 1 0 rfl rfl 12 (by decide) (by unfold vp_in; decide) dX9_ofLink_33 ?_
      refine lv_goto (tgt := 51) hx hb dX9_ofLink_34 (by decide) ?_
      exact x_ir (by unfold sX9_ofLink_1; rw [if_neg c_1]; rw [if_pos c_2]; try rfl) hx hb hr hlk dX9_ofLink_51
  · refine lv_aload_n hx hb dX9_ofLink_4 rfl (lv_at hl 0 rfl) ?_
    refine va_get (D := E.1) (ci := 9) (v := .ref nw) (C := RX9) (T := TX9) (N := 22) hx hb hts g_2 hown hE.1 hP 0 rfl rfl 1 (by decide) g_1 (fun _ h9 => h9) rfl dX9_ofLink_5 ?_
    refine lv_bipush (v := 10) hx hb dX9_ofLink_8 (by decide) ?_
    refine lv_iload_n hx hb dX9_ofLink_10 rfl (lv_at hl 1 rfl) ?_
    refine lv_iadd hx hb dX9_ofLink_11 ?_
    refine lv_topi (fun z_7 ez_7 => ?_)
    obtain rfl : z_7 = 11 := ez_7.trans (by decide)
    refine lv_iconst (v := 1) hx hb dX9_ofLink_12 (by decide) ?_
    refine lv_isub hx hb dX9_ofLink_13 ?_
    refine lv_topi (fun z_8 ez_8 => ?_)
    obtain rfl : z_8 = 10 := ez_8.trans (by decide)
    refine x_iald hx hb hE.1 hP 1 0 rfl rfl 10 (by decide) (by unfold vp_in; decide) dX9_ofLink_14 ?_
    refine lv_goto (tgt := 51) hx hb dX9_ofLink_15 (by decide) ?_
    exact x_ir (by unfold sX9_ofLink_1; rw [if_pos c_1]; try rfl) hx hb hr hlk dX9_ofLink_51
def sX9_ofLink_2 (now : Nat → Int32) (what : Int32) : Int32 :=
  if what = 0 then
    now 11
  else
    if what = 1 then
      now 13
    else
      sX9_leanOf (now 11)
set_option maxHeartbeats 4000000 in
set_option maxRecDepth 100000 in
theorem kX9_ofLink_2 (l : Launch) (E : XE) (h : Nat) (thrown : Int32) (nw : Nat) (td : Nat) (tx : Nat) (length : Int32) (textSize : Int32) (start : Int32) (next : Int32) (token : Int32) (value : Int32) (error : Int32) (errorAt : Int32) (seen : Int32) (triedWith : Int32) (rr : Nat) (ss : Nat) (tr : Nat) (wa : Nat) (undos : Int32) (ud : Nat) (sl : Nat) (sv : Nat) (now : Nat → Int32) (what : Int32) : xR l yX9_ofLink wsX9_ofLink ({ frames := 1, cells := 0, slots := 0, locals := 20 }) E [(h, .inr (9, [.int thrown, .ref nw, .ref td, .ref tx, .int length, .int textSize, .int start, .int next, .int token, .int value, .int error, .int errorAt, .int seen, .int triedWith, .ref rr, .ref ss, .ref tr, .ref wa, .int undos, .ref ud, .ref sl, .ref sv])), (nw, .inl (E.2.1, 214, .inl now))] [.ref h, .int 2, .int what] (.int (sX9_ofLink_2 now what)) := by
  refine xR.of (cc := cX9_ofLink) (maxL := 3) (ret := (some .int)) (by decide) rfl (Nat.le_of_ble_eq_true rfl) ?_
  intro p e s m args below meth c ls hM hE hP hD hl
  obtain ⟨hx, hb, hr, hml, hts, hown, hlk, hnm⟩ := hM
  have g_1 : (Cond.fieldLink RX9 7 "RailPendulumModel" "now" "[I").before args s = true := hts (Cond.fieldLink RX9 7 "RailPendulumModel" "now" "[I") (by decide +kernel)
  have g_2 : ∀ w ∈ wsX90, w ∈ wsX9_ofLink := by decide +kernel
  have hl : lv_has ls 3 [(0, .ref h), (1, .int 2), (2, .int what)] := hl
  refine lv_iload_n hx hb dX9_ofLink_0 rfl (lv_at hl 2 rfl) ?_
  refine lv_if_ne (tgt := 18) hx hb dX9_ofLink_1 (by decide) (fun c_1 => ?_) (fun c_1 => ?_)
  · refine lv_iload_n hx hb dX9_ofLink_18 rfl (lv_at hl 2 rfl) ?_
    refine lv_iconst (v := 1) hx hb dX9_ofLink_19 (by decide) ?_
    refine lv_icmp_ne (tgt := 37) hx hb dX9_ofLink_20 (by decide) (fun c_2 => ?_) (fun c_2 => ?_)
    · refine lv_aload_n hx hb dX9_ofLink_37 rfl (lv_at hl 0 rfl) ?_
      refine va_get (D := E.1) (ci := 9) (v := .ref nw) (C := RX9) (T := TX9) (N := 22) hx hb hts g_2 hown hE.1 hP 0 rfl rfl 1 (by decide) g_1 (fun _ h9 => h9) rfl dX9_ofLink_38 ?_
      refine lv_bipush (v := 10) hx hb dX9_ofLink_41 (by decide) ?_
      refine lv_iload_n hx hb dX9_ofLink_43 rfl (lv_at hl 1 rfl) ?_
      refine lv_iadd hx hb dX9_ofLink_44 ?_
      refine lv_topi (fun z_3 ez_3 => ?_)
      obtain rfl : z_3 = 12 := ez_3.trans (by decide)
      refine lv_iconst (v := 1) hx hb dX9_ofLink_45 (by decide) ?_
      refine lv_isub hx hb dX9_ofLink_46 ?_
      refine lv_topi (fun z_4 ez_4 => ?_)
      obtain rfl : z_4 = 11 := ez_4.trans (by decide)
      refine x_iald hx hb hE.1 hP 1 0 rfl rfl 11 (by decide) (by unfold vp_in; decide) dX9_ofLink_47 ?_
      refine x_rS [.int (now 11)] (kX9_leanOf l E (now 11)) ⟨hx, hb, hml, hown, hts⟩ (va_cwS 1 hts gX9_ofLink_X9_leanOf rfl rfl rfl hdX9_leanOf.2 ⟨Nat.le_of_ble_eq_true rfl, Nat.le_of_ble_eq_true rfl⟩) hE hP hD [] rfl rfl hl.1 rfl rfl (Nat.le_of_ble_eq_true rfl) dX9_ofLink_48 (Nat.le_of_ble_eq_true rfl) (Nat.le_of_ble_eq_true rfl) ?_
      exact x_ir (by unfold sX9_ofLink_2; rw [if_neg c_1]; rw [if_neg c_2]; try rfl) hx hb hr hlk dX9_ofLink_51
    · refine lv_aload_n hx hb dX9_ofLink_23 rfl (lv_at hl 0 rfl) ?_
      refine va_get (D := E.1) (ci := 9) (v := .ref nw) (C := RX9) (T := TX9) (N := 22) hx hb hts g_2 hown hE.1 hP 0 rfl rfl 1 (by decide) g_1 (fun _ h9 => h9) rfl dX9_ofLink_24 ?_
      refine lv_bipush (v := 12) hx hb dX9_ofLink_27 (by decide) ?_
      refine lv_iload_n hx hb dX9_ofLink_29 rfl (lv_at hl 1 rfl) ?_
      refine lv_iadd hx hb dX9_ofLink_30 ?_
      refine lv_topi (fun z_5 ez_5 => ?_)
      obtain rfl : z_5 = 14 := ez_5.trans (by decide)
      refine lv_iconst (v := 1) hx hb dX9_ofLink_31 (by decide) ?_
      refine lv_isub hx hb dX9_ofLink_32 ?_
      refine lv_topi (fun z_6 ez_6 => ?_)
      obtain rfl : z_6 = 13 := ez_6.trans (by decide)
      refine x_iald hx hb hE.1 hP 1 0 rfl rfl 13 (by decide) (by unfold vp_in; decide) dX9_ofLink_33 ?_
      refine lv_goto (tgt := 51) hx hb dX9_ofLink_34 (by decide) ?_
      exact x_ir (by unfold sX9_ofLink_2; rw [if_neg c_1]; rw [if_pos c_2]; try rfl) hx hb hr hlk dX9_ofLink_51
  · refine lv_aload_n hx hb dX9_ofLink_4 rfl (lv_at hl 0 rfl) ?_
    refine va_get (D := E.1) (ci := 9) (v := .ref nw) (C := RX9) (T := TX9) (N := 22) hx hb hts g_2 hown hE.1 hP 0 rfl rfl 1 (by decide) g_1 (fun _ h9 => h9) rfl dX9_ofLink_5 ?_
    refine lv_bipush (v := 10) hx hb dX9_ofLink_8 (by decide) ?_
    refine lv_iload_n hx hb dX9_ofLink_10 rfl (lv_at hl 1 rfl) ?_
    refine lv_iadd hx hb dX9_ofLink_11 ?_
    refine lv_topi (fun z_7 ez_7 => ?_)
    obtain rfl : z_7 = 12 := ez_7.trans (by decide)
    refine lv_iconst (v := 1) hx hb dX9_ofLink_12 (by decide) ?_
    refine lv_isub hx hb dX9_ofLink_13 ?_
    refine lv_topi (fun z_8 ez_8 => ?_)
    obtain rfl : z_8 = 11 := ez_8.trans (by decide)
    refine x_iald hx hb hE.1 hP 1 0 rfl rfl 11 (by decide) (by unfold vp_in; decide) dX9_ofLink_14 ?_
    refine lv_goto (tgt := 51) hx hb dX9_ofLink_15 (by decide) ?_
    exact x_ir (by unfold sX9_ofLink_2; rw [if_pos c_1]; try rfl) hx hb hr hlk dX9_ofLink_51
def sX9_pushNow (now : Nat → Int32) (told : Nat → Int32) : Int32 :=
  if (now 1) = 2 then
    sX9_balancing_now told now
  else
    if (now 1) = 1 then
      if ((now 12) * (sX9_cosineOf (now 10))) = 0 then
        now 5
      else
        if 0 ≤ (lg_cmp (sX9_energyOf_0 now told) (((told 1).toInt64) * 10430)) then
          if ((now 12) * (sX9_cosineOf (now 10))) ≤ 0 then
            -(now 5)
          else
            now 5
        else
          if ((now 12) * (sX9_cosineOf (now 10))) ≤ 0 then
            now 5
          else
            -(now 5)
    else
      0
theorem hdX9_pushNow : yX9_pushNow.cls = RX9 ∧ yX9_pushNow.cls ≠ "java/lang/invoke/MethodHandle" ∧ yX9_pushNow.cls ≠ "java/lang/invoke/VarHandle" ∧ (parseMethodDescriptor yX9_pushNow.desc).map (fun d => d.parameters.length) = some 0 := by decide +kernel
set_option maxHeartbeats 4000000 in
set_option maxRecDepth 100000 in
theorem kX9_pushNow (l : Launch) (E : XE) (h : Nat) (thrown : Int32) (nw : Nat) (td : Nat) (tx : Nat) (length : Int32) (textSize : Int32) (start : Int32) (next : Int32) (token : Int32) (value : Int32) (error : Int32) (errorAt : Int32) (seen : Int32) (triedWith : Int32) (rr : Nat) (ss : Nat) (tr : Nat) (wa : Nat) (undos : Int32) (ud : Nat) (sl : Nat) (sv : Nat) (now : Nat → Int32) (told : Nat → Int32) : xR l yX9_pushNow wsX9_pushNow ({ frames := 3, cells := 0, slots := 0, locals := 67 }) E [(h, .inr (9, [.int thrown, .ref nw, .ref td, .ref tx, .int length, .int textSize, .int start, .int next, .int token, .int value, .int error, .int errorAt, .int seen, .int triedWith, .ref rr, .ref ss, .ref tr, .ref wa, .int undos, .ref ud, .ref sl, .ref sv])), (nw, .inl (E.2.1, 214, .inl now)), (td, .inl (E.2.1, 48, .inl told))] [.ref h] (.int (sX9_pushNow now told)) := by
  refine xR.of (cc := cX9_pushNow) (maxL := 4) (ret := (some .int)) (by decide) rfl (Nat.le_of_ble_eq_true rfl) ?_
  intro p e s m args below meth c ls hM hE hP hD hl
  obtain ⟨hx, hb, hr, hml, hts, hown, hlk, hnm⟩ := hM
  have g_1 : (Cond.fieldLink RX9 7 "RailPendulumModel" "now" "[I").before args s = true := hts (Cond.fieldLink RX9 7 "RailPendulumModel" "now" "[I") (by decide +kernel)
  have g_2 : ∀ w ∈ wsX90, w ∈ wsX9_pushNow := by decide +kernel
  have g_3 : (Cond.fieldLink RX9 13 "RailPendulumModel" "told" "[I").before args s = true := hts (Cond.fieldLink RX9 13 "RailPendulumModel" "told" "[I") (by decide +kernel)
  have g_4 : (Cond.constantLong RX9 242 (10430)).before args s = true := hts (Cond.constantLong RX9 242 (10430)) (by decide +kernel)
  have hl : lv_has ls 4 [(0, .ref h)] := hl
  refine lv_aload_n hx hb dX9_pushNow_0 rfl (lv_at hl 0 rfl) ?_
  refine va_get (D := E.1) (ci := 9) (v := .ref nw) (C := RX9) (T := TX9) (N := 22) hx hb hts g_2 hown hE.1 hP 0 rfl rfl 1 (by decide) g_1 (fun _ h9 => h9) rfl dX9_pushNow_1 ?_
  refine lv_iconst (v := 1) hx hb dX9_pushNow_4 (by decide) ?_
  refine x_iald hx hb hE.1 hP 1 0 rfl rfl 1 (by decide) (by unfold vp_in; decide) dX9_pushNow_5 ?_
  refine lv_iconst (v := 2) hx hb dX9_pushNow_6 (by decide) ?_
  refine lv_icmp_ne (tgt := 19) hx hb dX9_pushNow_7 (by decide) (fun c_1 => ?_) (fun c_1 => ?_)
  · refine lv_aload_n hx hb dX9_pushNow_19 rfl (lv_at hl 0 rfl) ?_
    refine va_get (D := E.1) (ci := 9) (v := .ref nw) (C := RX9) (T := TX9) (N := 22) hx hb hts g_2 hown hE.1 hP 0 rfl rfl 1 (by decide) g_1 (fun _ h9 => h9) rfl dX9_pushNow_20 ?_
    refine lv_iconst (v := 1) hx hb dX9_pushNow_23 (by decide) ?_
    refine x_iald hx hb hE.1 hP 1 0 rfl rfl 1 (by decide) (by unfold vp_in; decide) dX9_pushNow_24 ?_
    refine lv_iconst (v := 1) hx hb dX9_pushNow_25 (by decide) ?_
    refine lv_icmp_eq (tgt := 31) hx hb dX9_pushNow_26 (by decide) (fun c_2 => ?_) (fun c_2 => ?_)
    · refine lv_aload_n hx hb dX9_pushNow_31 rfl (lv_at hl 0 rfl) ?_
      refine va_get (D := E.1) (ci := 9) (v := .ref nw) (C := RX9) (T := TX9) (N := 22) hx hb hts g_2 hown hE.1 hP 0 rfl rfl 1 (by decide) g_1 (fun _ h9 => h9) rfl dX9_pushNow_32 ?_
      refine lv_iconst (v := 5) hx hb dX9_pushNow_35 (by decide) ?_
      refine x_iald hx hb hE.1 hP 1 0 rfl rfl 5 (by decide) (by unfold vp_in; decide) dX9_pushNow_36 ?_
      refine lv_istore_n (lv' := [(1, .int (now 5)), (0, .ref h)]) hx hb dX9_pushNow_37 rfl hl (by decide) rfl (fun ls hl => ?_)
      refine lv_aload_n hx hb dX9_pushNow_38 rfl (lv_at hl 1 rfl) ?_
      refine va_get (D := E.1) (ci := 9) (v := .ref nw) (C := RX9) (T := TX9) (N := 22) hx hb hts g_2 hown hE.1 hP 0 rfl rfl 1 (by decide) g_1 (fun _ h9 => h9) rfl dX9_pushNow_39 ?_
      refine lv_bipush (v := 12) hx hb dX9_pushNow_42 (by decide) ?_
      refine x_iald hx hb hE.1 hP 1 0 rfl rfl 12 (by decide) (by unfold vp_in; decide) dX9_pushNow_44 ?_
      refine lv_aload_n hx hb dX9_pushNow_45 rfl (lv_at hl 1 rfl) ?_
      refine va_get (D := E.1) (ci := 9) (v := .ref nw) (C := RX9) (T := TX9) (N := 22) hx hb hts g_2 hown hE.1 hP 0 rfl rfl 1 (by decide) g_1 (fun _ h9 => h9) rfl dX9_pushNow_46 ?_
      refine lv_bipush (v := 10) hx hb dX9_pushNow_49 (by decide) ?_
      refine x_iald hx hb hE.1 hP 1 0 rfl rfl 10 (by decide) (by unfold vp_in; decide) dX9_pushNow_51 ?_
      refine x_rS [.int (now 10)] (kX9_cosineOf l E (now 10)) ⟨hx, hb, hml, hown, hts⟩ (va_cwS 1 hts gX9_pushNow_X9_cosineOf rfl rfl rfl hdX9_cosineOf.2 ⟨Nat.le_of_ble_eq_true rfl, Nat.le_of_ble_eq_true rfl⟩) hE hP hD [] rfl rfl hl.1 rfl rfl (Nat.le_of_ble_eq_true rfl) dX9_pushNow_52 (Nat.le_of_ble_eq_true rfl) (Nat.le_of_ble_eq_true rfl) ?_
      refine lv_imul hx hb dX9_pushNow_55 ?_
      refine lv_istore_n (lv' := [(2, .int ((now 12) * (sX9_cosineOf (now 10)))), (1, .int (now 5)), (0, .ref h)]) hx hb dX9_pushNow_56 rfl hl (by decide) rfl (fun ls hl => ?_)
      refine lv_iload_n hx hb dX9_pushNow_57 rfl (lv_at hl 0 rfl) ?_
      refine lv_if_ne (tgt := 63) hx hb dX9_pushNow_58 (by decide) (fun c_3 => ?_) (fun c_3 => ?_)
      · refine lv_aload_n hx hb dX9_pushNow_63 rfl (lv_at hl 2 rfl) ?_
        refine lv_iconst (v := 0) hx hb dX9_pushNow_64 (by decide) ?_
        refine x_rV [.int 0] (kX9_energyOf_0 l E h thrown nw td tx length textSize start next token value error errorAt seen triedWith rr ss tr wa undos ud sl sv now told) ⟨hx, hb, hml, hown, hts⟩ (cwV 1 hts gX9_pushNow_X9_energyOf rfl rfl rfl hdX9_energyOf ⟨Nat.le_of_ble_eq_true rfl, Nat.le_of_ble_eq_true rfl⟩) hE hP hD [0, 1, 2] rfl rfl (ci := 9) (q0 := 0) rfl rfl rfl hl.1 rfl rfl (Nat.le_of_ble_eq_true rfl) dX9_pushNow_65 (Nat.le_of_ble_eq_true rfl) (Nat.le_of_ble_eq_true rfl) ?_
        refine lv_aload_n hx hb dX9_pushNow_68 rfl (lv_at hl 2 rfl) ?_
        refine va_get (D := E.1) (ci := 9) (v := .ref td) (C := RX9) (T := TX9) (N := 22) hx hb hts g_2 hown hE.1 hP 0 rfl rfl 2 (by decide) g_3 (fun _ h9 => h9) rfl dX9_pushNow_69 ?_
        refine lv_iconst (v := 1) hx hb dX9_pushNow_72 (by decide) ?_
        refine x_iald hx hb hE.1 hP 2 0 rfl rfl 1 (by decide) (by unfold vp_in; decide) dX9_pushNow_73 ?_
        refine lv_i2l hx hb dX9_pushNow_74 rfl ?_
        refine lv_ldc2 (v := 10430) hx hb hown g_4 dX9_pushNow_75 ?_
        refine lv_lmul hx hb dX9_pushNow_78 ?_
        refine W.lcmp hx hb dX9_pushNow_79 ?_
        refine lv_if_ge (tgt := 87) hx hb dX9_pushNow_80 (by decide) (fun c_4 => ?_) (fun c_4 => ?_)
        · refine lv_iconst (v := 0) hx hb dX9_pushNow_87 (by decide) ?_
          refine lv_istore_n (lv' := [(3, .int 0), (2, .int ((now 12) * (sX9_cosineOf (now 10)))), (1, .int (now 5)), (0, .ref h)]) hx hb dX9_pushNow_88 rfl hl (by decide) rfl (fun ls hl => ?_)
          refine lv_iload_n hx hb dX9_pushNow_89 rfl (lv_at hl 1 rfl) ?_
          refine lv_if_le (tgt := 97) hx hb dX9_pushNow_90 (by decide) (fun c_5 => ?_) (fun c_5 => ?_)
          · refine lv_iconst (v := 0) hx hb dX9_pushNow_97 (by decide) ?_
            refine lv_iload_n hx hb dX9_pushNow_98 rfl (lv_at hl 0 rfl) ?_
            refine lv_icmp_ne (tgt := 107) hx hb dX9_pushNow_99 (by decide) (fun c_6 => absurd rfl c_6) (fun c_6 => ?_)
            refine lv_iload_n hx hb dX9_pushNow_102 rfl (lv_at hl 2 rfl) ?_
            refine lv_ineg hx hb dX9_pushNow_103 ?_
            refine lv_goto (tgt := 108) hx hb dX9_pushNow_104 (by decide) ?_
            exact x_ir (by unfold sX9_pushNow; rw [if_neg c_1]; rw [if_pos c_2]; rw [if_neg c_3]; rw [if_pos c_4]; rw [if_pos c_5]; try rfl) hx hb hr hlk dX9_pushNow_108
          · refine lv_iconst (v := 1) hx hb dX9_pushNow_93 (by decide) ?_
            refine lv_goto (tgt := 98) hx hb dX9_pushNow_94 (by decide) ?_
            refine lv_iload_n hx hb dX9_pushNow_98 rfl (lv_at hl 0 rfl) ?_
            refine lv_icmp_ne (tgt := 107) hx hb dX9_pushNow_99 (by decide) (fun c_7 => ?_) (fun c_7 => absurd c_7 (by decide))
            refine lv_iload_n hx hb dX9_pushNow_107 rfl (lv_at hl 2 rfl) ?_
            exact x_ir (by unfold sX9_pushNow; rw [if_neg c_1]; rw [if_pos c_2]; rw [if_neg c_3]; rw [if_pos c_4]; rw [if_neg c_5]; try rfl) hx hb hr hlk dX9_pushNow_108
        · refine lv_iconst (v := 1) hx hb dX9_pushNow_83 (by decide) ?_
          refine lv_goto (tgt := 88) hx hb dX9_pushNow_84 (by decide) ?_
          refine lv_istore_n (lv' := [(3, .int 1), (2, .int ((now 12) * (sX9_cosineOf (now 10)))), (1, .int (now 5)), (0, .ref h)]) hx hb dX9_pushNow_88 rfl hl (by decide) rfl (fun ls hl => ?_)
          refine lv_iload_n hx hb dX9_pushNow_89 rfl (lv_at hl 1 rfl) ?_
          refine lv_if_le (tgt := 97) hx hb dX9_pushNow_90 (by decide) (fun c_8 => ?_) (fun c_8 => ?_)
          · refine lv_iconst (v := 0) hx hb dX9_pushNow_97 (by decide) ?_
            refine lv_iload_n hx hb dX9_pushNow_98 rfl (lv_at hl 0 rfl) ?_
            refine lv_icmp_ne (tgt := 107) hx hb dX9_pushNow_99 (by decide) (fun c_9 => ?_) (fun c_9 => absurd c_9 (by decide))
            refine lv_iload_n hx hb dX9_pushNow_107 rfl (lv_at hl 2 rfl) ?_
            exact x_ir (by unfold sX9_pushNow; rw [if_neg c_1]; rw [if_pos c_2]; rw [if_neg c_3]; rw [if_neg c_4]; rw [if_pos c_8]; try rfl) hx hb hr hlk dX9_pushNow_108
          · refine lv_iconst (v := 1) hx hb dX9_pushNow_93 (by decide) ?_
            refine lv_goto (tgt := 98) hx hb dX9_pushNow_94 (by decide) ?_
            refine lv_iload_n hx hb dX9_pushNow_98 rfl (lv_at hl 0 rfl) ?_
            refine lv_icmp_ne (tgt := 107) hx hb dX9_pushNow_99 (by decide) (fun c_10 => absurd rfl c_10) (fun c_10 => ?_)
            refine lv_iload_n hx hb dX9_pushNow_102 rfl (lv_at hl 2 rfl) ?_
            refine lv_ineg hx hb dX9_pushNow_103 ?_
            refine lv_goto (tgt := 108) hx hb dX9_pushNow_104 (by decide) ?_
            exact x_ir (by unfold sX9_pushNow; rw [if_neg c_1]; rw [if_pos c_2]; rw [if_neg c_3]; rw [if_neg c_4]; rw [if_neg c_8]; try rfl) hx hb hr hlk dX9_pushNow_108
      · refine lv_iload_n hx hb dX9_pushNow_61 rfl (lv_at hl 1 rfl) ?_
        exact x_ir (by unfold sX9_pushNow; rw [if_neg c_1]; rw [if_pos c_2]; rw [if_pos c_3]; try rfl) hx hb hr hlk dX9_pushNow_62
    · refine lv_iconst (v := 0) hx hb dX9_pushNow_29 (by decide) ?_
      exact x_ir (by unfold sX9_pushNow; rw [if_neg c_1]; rw [if_neg c_2]; try rfl) hx hb hr hlk dX9_pushNow_30
  · refine lv_aload_n hx hb dX9_pushNow_10 rfl (lv_at hl 0 rfl) ?_
    refine lv_aload_n hx hb dX9_pushNow_11 rfl (lv_at hl 0 rfl) ?_
    refine va_get (D := E.1) (ci := 9) (v := .ref nw) (C := RX9) (T := TX9) (N := 22) hx hb hts g_2 hown hE.1 hP 0 rfl rfl 1 (by decide) g_1 (fun _ h9 => h9) rfl dX9_pushNow_12 ?_
    refine x_rV [.ref nw] (kX9_balancing_now l E h thrown nw td tx length textSize start next token value error errorAt seen triedWith rr ss tr wa undos ud sl sv told now) ⟨hx, hb, hml, hown, hts⟩ (cwV 1 hts gX9_pushNow_X9_balancing rfl rfl rfl hdX9_balancing ⟨Nat.le_of_ble_eq_true rfl, Nat.le_of_ble_eq_true rfl⟩) hE hP hD [0, 2, 1] rfl rfl (ci := 9) (q0 := 0) rfl rfl rfl hl.1 rfl rfl (Nat.le_of_ble_eq_true rfl) dX9_pushNow_15 (Nat.le_of_ble_eq_true rfl) (Nat.le_of_ble_eq_true rfl) ?_
    exact x_ir (by unfold sX9_pushNow; rw [if_pos c_1]; try rfl) hx hb hr hlk dX9_pushNow_18
def sX9_tries_l71 (now : Nat → Int32) (told : Nat → Int32) (kont_71 : Int32 → Int32 → (Nat → Int32) → (Nat → Int32) × (Nat → Int32) × (Nat → Int32)) : Nat → Int32 → Int32 → (Nat → Int32) → (Nat → Int32) × (Nat → Int32) × (Nat → Int32)
  | 0, why_71, n_71, tri_71 => kont_71 why_71 n_71 tri_71
  | kk_71 + 1, why_71, n_71, tri_71 =>
    if (told 18) ≤ n_71 then
      kont_71 why_71 n_71 tri_71
    else
      if why_71 = 0 then
        if ((sX9_step told tri_71 (sX9_balancing_try told now tri_71)).1) = 0 then
          if (sX9_leansBeyond ((sX9_step told tri_71 (sX9_balancing_try told now tri_71)).2) (told 19)) = 0 then
            sX9_tries_l71 now told kont_71 kk_71 ((sX9_step told tri_71 (sX9_balancing_try told now tri_71)).1) (n_71 + 1) ((sX9_step told tri_71 (sX9_balancing_try told now tri_71)).2)
          else
            sX9_tries_l71 now told kont_71 kk_71 3 (n_71 + 1) ((sX9_step told tri_71 (sX9_balancing_try told now tri_71)).2)
        else
          sX9_tries_l71 now told kont_71 kk_71 ((sX9_step told tri_71 (sX9_balancing_try told now tri_71)).1) (n_71 + 1) ((sX9_step told tri_71 (sX9_balancing_try told now tri_71)).2)
      else
        kont_71 why_71 n_71 tri_71
theorem sX9_tries_l71_s (now : Nat → Int32) (told : Nat → Int32) (kont_71 : Int32 → Int32 → (Nat → Int32) → (Nat → Int32) × (Nat → Int32) × (Nat → Int32)) (kk_71 : Nat) (why_71 : Int32) (n_71 : Int32) (tri_71 : Nat → Int32) : sX9_tries_l71 now told kont_71 (kk_71 + 1) why_71 n_71 tri_71 =
    if (told 18) ≤ n_71 then
      kont_71 why_71 n_71 tri_71
    else
      if why_71 = 0 then
        if ((sX9_step told tri_71 (sX9_balancing_try told now tri_71)).1) = 0 then
          if (sX9_leansBeyond ((sX9_step told tri_71 (sX9_balancing_try told now tri_71)).2) (told 19)) = 0 then
            sX9_tries_l71 now told kont_71 kk_71 ((sX9_step told tri_71 (sX9_balancing_try told now tri_71)).1) (n_71 + 1) ((sX9_step told tri_71 (sX9_balancing_try told now tri_71)).2)
          else
            sX9_tries_l71 now told kont_71 kk_71 3 (n_71 + 1) ((sX9_step told tri_71 (sX9_balancing_try told now tri_71)).2)
        else
          sX9_tries_l71 now told kont_71 kk_71 ((sX9_step told tri_71 (sX9_balancing_try told now tri_71)).1) (n_71 + 1) ((sX9_step told tri_71 (sX9_balancing_try told now tri_71)).2)
      else
        kont_71 why_71 n_71 tri_71 := rfl
def sX9_tries (now : Nat → Int32) (told : Nat → Int32) (rs : Nat → Int32) (fs : Nat → Int32) (tri : Nat → Int32) (i : Int32) (j : Int32) : (Nat → Int32) × (Nat → Int32) × (Nat → Int32) :=
  sX9_tries_l71 now told (fun (why_71 : Int32) (n_71 : Int32) (tri_71 : Nat → Int32) => if why_71 = 0 then if (sX9_leansBeyond tri_71 (told 15)) = 0 then (upd rs ((sX9_cell i j).toNatClampNeg) why_71, upd fs ((sX9_cell i j).toNatClampNeg) (-1), tri_71) else (upd rs ((sX9_cell i j).toNatClampNeg) 4, upd fs ((sX9_cell i j).toNatClampNeg) (-1), tri_71) else (upd rs ((sX9_cell i j).toNatClampNeg) why_71, upd fs ((sX9_cell i j).toNatClampNeg) n_71, tri_71)) (xMu (told 18) 0 + 1) 0 0 (upd (upd (upd (upd (upd (upd tri 2 0) 3 0) 10 (sX9_mod (i * (told 15)))) 12 (j * (told 16))) 11 (sX9_mod (i * (told 15)))) 13 (j * (told 16)))
theorem hdX9_tries : yX9_tries.cls = RX9 ∧ yX9_tries.cls ≠ "java/lang/invoke/MethodHandle" ∧ yX9_tries.cls ≠ "java/lang/invoke/VarHandle" ∧ (parseMethodDescriptor yX9_tries.desc).map (fun d => d.parameters.length) = some 2 := by decide +kernel
set_option maxHeartbeats 4000000 in
set_option maxRecDepth 100000 in
theorem kX9_tries (l : Launch) (E : XE) (h : Nat) (thrown : Int32) (nw : Nat) (td : Nat) (tx : Nat) (length : Int32) (textSize : Int32) (start : Int32) (next : Int32) (token : Int32) (value : Int32) (error : Int32) (errorAt : Int32) (seen : Int32) (triedWith : Int32) (rr : Nat) (ss : Nat) (tr : Nat) (wa : Nat) (undos : Int32) (ud : Nat) (sl : Nat) (sv : Nat) (now : Nat → Int32) (told : Nat → Int32) (rs : Nat → Int32) (fs : Nat → Int32) (tri : Nat → Int32) (i : Int32) (j : Int32) (hcell : vp_in (sX9_cell i j) 49) : xW (T := (Nat → Int32) × (Nat → Int32) × (Nat → Int32)) l yX9_tries wsX9_tries ({ frames := 4, cells := 0, slots := 0, locals := 94 }) E [(h, .inr (9, [.int thrown, .ref nw, .ref td, .ref tx, .int length, .int textSize, .int start, .int next, .int token, .int value, .int error, .int errorAt, .int seen, .int triedWith, .ref rr, .ref ss, .ref tr, .ref wa, .int undos, .ref ud, .ref sl, .ref sv])), (nw, .inl (E.2.1, 214, .inl now)), (td, .inl (E.2.1, 48, .inl told)), (rr, .inl (E.2.1, 49, .inl rs)), (ss, .inl (E.2.1, 49, .inl fs)), (tr, .inl (E.2.1, 14, .inl tri))] [.ref h, .int i, .int j] (fun _ => none) (fun q => [(h, .inr (9, [.int thrown, .ref nw, .ref td, .ref tx, .int length, .int textSize, .int start, .int next, .int token, .int value, .int error, .int errorAt, .int seen, .int triedWith, .ref rr, .ref ss, .ref tr, .ref wa, .int undos, .ref ud, .ref sl, .ref sv])), (nw, .inl (E.2.1, 214, .inl now)), (td, .inl (E.2.1, 48, .inl told)), (rr, .inl (E.2.1, 49, .inl q.1)), (ss, .inl (E.2.1, 49, .inl q.2.1)), (tr, .inl (E.2.1, 14, .inl q.2.2))]) (sX9_tries now told rs fs tri i j) 0 0 := by
  refine xW.of (cc := cX9_tries) (maxL := 5) (ret := none) (by decide) rfl (Nat.le_of_ble_eq_true rfl) ?_
  intro p e s m args below meth c ls A hM hE hP hD hS hA hl
  obtain ⟨hx, hb, hr, hml, hts, hown, hlk, hnm⟩ := hM
  have g_1 : (Cond.fieldLink RX9 30 "RailPendulumModel" "trial" "[I").before args s = true := hts (Cond.fieldLink RX9 30 "RailPendulumModel" "trial" "[I") (by decide +kernel)
  have g_2 : ∀ w ∈ wsX90, w ∈ wsX9_tries := by decide +kernel
  have g_3 : (Cond.fieldLink RX9 13 "RailPendulumModel" "told" "[I").before args s = true := hts (Cond.fieldLink RX9 13 "RailPendulumModel" "told" "[I") (by decide +kernel)
  have g_4 : (Cond.fieldLink RX9 27 "RailPendulumModel" "steps" "[I").before args s = true := hts (Cond.fieldLink RX9 27 "RailPendulumModel" "steps" "[I") (by decide +kernel)
  have g_5 : (Cond.fieldLink RX9 24 "RailPendulumModel" "reasons" "[I").before args s = true := hts (Cond.fieldLink RX9 24 "RailPendulumModel" "reasons" "[I") (by decide +kernel)
  have hX : xD A [h, nw, td, rr, ss, tr] := xD.of hD rfl
  have hl : lv_has ls 5 [(0, .ref h), (1, .int i), (2, .int j)] := hl
  refine lv_aload_n hx hb dX9_tries_0 rfl (lv_at hl 0 rfl) ?_
  refine va_get (D := E.1) (ci := 9) (v := .ref tr) (C := RX9) (T := TX9) (N := 22) hx hb hts g_2 hown hE.1 hP 0 rfl rfl 16 (by decide) g_1 (fun _ h9 => h9) rfl dX9_tries_1 ?_
  refine lv_iconst (v := 2) hx hb dX9_tries_4 (by decide) ?_
  refine lv_iconst (v := 0) hx hb dX9_tries_5 (by decide) ?_
  refine x_iast hx hb hE.1 hP (hX.d rfl) hS 5 0 rfl rfl 2 (by decide) (by unfold vp_in; decide) dX9_tries_6 (fun H locs hP _ hS => ?_)
  have hP : va_P E.1 vwCl [(h, .inr (9, [.int thrown, .ref nw, .ref td, .ref tx, .int length, .int textSize, .int start, .int next, .int token, .int value, .int error, .int errorAt, .int seen, .int triedWith, .ref rr, .ref ss, .ref tr, .ref wa, .int undos, .ref ud, .ref sl, .ref sv])), (nw, .inl (E.2.1, 214, .inl now)), (td, .inl (E.2.1, 48, .inl told)), (rr, .inl (E.2.1, 49, .inl rs)), (ss, .inl (E.2.1, 49, .inl fs)), (tr, .inl (E.2.1, 14, .inl (upd tri 2 0)))] H := hP
  refine lv_aload_n hx hb dX9_tries_7 rfl (lv_at hl 0 rfl) ?_
  refine va_get (D := E.1) (ci := 9) (v := .ref tr) (C := RX9) (T := TX9) (N := 22) hx hb hts g_2 hown hE.1 hP 0 rfl rfl 16 (by decide) g_1 (fun _ h9 => h9) rfl dX9_tries_8 ?_
  refine lv_iconst (v := 3) hx hb dX9_tries_11 (by decide) ?_
  refine lv_iconst (v := 0) hx hb dX9_tries_12 (by decide) ?_
  refine x_iast hx hb hE.1 hP (hX.d rfl) hS 5 0 rfl rfl 3 (by decide) (by unfold vp_in; decide) dX9_tries_13 (fun H locs hP _ hS => ?_)
  have hP : va_P E.1 vwCl [(h, .inr (9, [.int thrown, .ref nw, .ref td, .ref tx, .int length, .int textSize, .int start, .int next, .int token, .int value, .int error, .int errorAt, .int seen, .int triedWith, .ref rr, .ref ss, .ref tr, .ref wa, .int undos, .ref ud, .ref sl, .ref sv])), (nw, .inl (E.2.1, 214, .inl now)), (td, .inl (E.2.1, 48, .inl told)), (rr, .inl (E.2.1, 49, .inl rs)), (ss, .inl (E.2.1, 49, .inl fs)), (tr, .inl (E.2.1, 14, .inl (upd (upd tri 2 0) 3 0)))] H := hP
  refine lv_iconst (v := 0) hx hb dX9_tries_14 (by decide) ?_
  refine lv_istore_n (lv' := [(3, .int 0), (0, .ref h), (1, .int i), (2, .int j)]) hx hb dX9_tries_15 rfl hl (by decide) rfl (fun ls hl => ?_)
  refine lv_iload_n hx hb dX9_tries_16 rfl (lv_at hl 0 rfl) ?_
  refine lv_iconst (v := 2) hx hb dX9_tries_17 (by decide) ?_
  refine lv_icmp_ge (tgt := 66) hx hb dX9_tries_18 (by decide) (fun c_1 => absurd c_1 (by decide)) (fun c_1 => ?_)
  refine lv_aload_n hx hb dX9_tries_21 rfl (lv_at hl 1 rfl) ?_
  refine va_get (D := E.1) (ci := 9) (v := .ref tr) (C := RX9) (T := TX9) (N := 22) hx hb hts g_2 hown hE.1 hP 0 rfl rfl 16 (by decide) g_1 (fun _ h9 => h9) rfl dX9_tries_22 ?_
  refine lv_bipush (v := 10) hx hb dX9_tries_25 (by decide) ?_
  refine lv_iload_n hx hb dX9_tries_27 rfl (lv_at hl 0 rfl) ?_
  refine lv_iadd hx hb dX9_tries_28 ?_
  refine lv_topi (fun z_2 ez_2 => ?_)
  obtain rfl : z_2 = 10 := ez_2.trans (by decide)
  refine lv_iload_n hx hb dX9_tries_29 rfl (lv_at hl 2 rfl) ?_
  refine lv_aload_n hx hb dX9_tries_30 rfl (lv_at hl 1 rfl) ?_
  refine va_get (D := E.1) (ci := 9) (v := .ref td) (C := RX9) (T := TX9) (N := 22) hx hb hts g_2 hown hE.1 hP 0 rfl rfl 2 (by decide) g_3 (fun _ h9 => h9) rfl dX9_tries_31 ?_
  refine lv_bipush (v := 15) hx hb dX9_tries_34 (by decide) ?_
  refine x_iald hx hb hE.1 hP 2 0 rfl rfl 15 (by decide) (by unfold vp_in; decide) dX9_tries_36 ?_
  refine lv_imul hx hb dX9_tries_37 ?_
  refine x_rS [.int (i * (told 15))] (kX9_mod l E (i * (told 15))) ⟨hx, hb, hml, hown, hts⟩ (va_cwS 1 hts gX9_tries_X9_mod rfl rfl rfl hdX9_mod.2 ⟨Nat.le_of_ble_eq_true rfl, Nat.le_of_ble_eq_true rfl⟩) hE hP (hX.d rfl) [] rfl rfl hl.1 rfl rfl (Nat.le_of_ble_eq_true rfl) dX9_tries_38 (Nat.le_of_ble_eq_true rfl) (Nat.le_of_ble_eq_true rfl) ?_
  refine x_iast hx hb hE.1 hP (hX.d rfl) hS 5 0 rfl rfl 10 (by decide) (by unfold vp_in; decide) dX9_tries_41 (fun H locs hP _ hS => ?_)
  have hP : va_P E.1 vwCl [(h, .inr (9, [.int thrown, .ref nw, .ref td, .ref tx, .int length, .int textSize, .int start, .int next, .int token, .int value, .int error, .int errorAt, .int seen, .int triedWith, .ref rr, .ref ss, .ref tr, .ref wa, .int undos, .ref ud, .ref sl, .ref sv])), (nw, .inl (E.2.1, 214, .inl now)), (td, .inl (E.2.1, 48, .inl told)), (rr, .inl (E.2.1, 49, .inl rs)), (ss, .inl (E.2.1, 49, .inl fs)), (tr, .inl (E.2.1, 14, .inl (upd (upd (upd tri 2 0) 3 0) 10 (sX9_mod (i * (told 15))))))] H := hP
  refine lv_aload_n hx hb dX9_tries_42 rfl (lv_at hl 1 rfl) ?_
  refine va_get (D := E.1) (ci := 9) (v := .ref tr) (C := RX9) (T := TX9) (N := 22) hx hb hts g_2 hown hE.1 hP 0 rfl rfl 16 (by decide) g_1 (fun _ h9 => h9) rfl dX9_tries_43 ?_
  refine lv_bipush (v := 12) hx hb dX9_tries_46 (by decide) ?_
  refine lv_iload_n hx hb dX9_tries_48 rfl (lv_at hl 0 rfl) ?_
  refine lv_iadd hx hb dX9_tries_49 ?_
  refine lv_topi (fun z_3 ez_3 => ?_)
  obtain rfl : z_3 = 12 := ez_3.trans (by decide)
  refine lv_iload_n hx hb dX9_tries_50 rfl (lv_at hl 3 rfl) ?_
  refine lv_aload_n hx hb dX9_tries_51 rfl (lv_at hl 1 rfl) ?_
  refine va_get (D := E.1) (ci := 9) (v := .ref td) (C := RX9) (T := TX9) (N := 22) hx hb hts g_2 hown hE.1 hP 0 rfl rfl 2 (by decide) g_3 (fun _ h9 => h9) rfl dX9_tries_52 ?_
  refine lv_bipush (v := 16) hx hb dX9_tries_55 (by decide) ?_
  refine x_iald hx hb hE.1 hP 2 0 rfl rfl 16 (by decide) (by unfold vp_in; decide) dX9_tries_57 ?_
  refine lv_imul hx hb dX9_tries_58 ?_
  refine x_iast hx hb hE.1 hP (hX.d rfl) hS 5 0 rfl rfl 12 (by decide) (by unfold vp_in; decide) dX9_tries_59 (fun H locs hP _ hS => ?_)
  have hP : va_P E.1 vwCl [(h, .inr (9, [.int thrown, .ref nw, .ref td, .ref tx, .int length, .int textSize, .int start, .int next, .int token, .int value, .int error, .int errorAt, .int seen, .int triedWith, .ref rr, .ref ss, .ref tr, .ref wa, .int undos, .ref ud, .ref sl, .ref sv])), (nw, .inl (E.2.1, 214, .inl now)), (td, .inl (E.2.1, 48, .inl told)), (rr, .inl (E.2.1, 49, .inl rs)), (ss, .inl (E.2.1, 49, .inl fs)), (tr, .inl (E.2.1, 14, .inl (upd (upd (upd (upd tri 2 0) 3 0) 10 (sX9_mod (i * (told 15)))) 12 (j * (told 16)))))] H := hP
  refine lv_iinc (v := 1) (lv' := [(3, .int 1), (0, .ref h), (1, .int i), (2, .int j)]) hx hb dX9_tries_60 hl (k := 0) rfl (by decide) (by decide) rfl (fun ls hl => ?_)
  refine lv_goto (tgt := 16) hx hb dX9_tries_63 (by decide) ?_
  refine lv_iload_n hx hb dX9_tries_16 rfl (lv_at hl 0 rfl) ?_
  refine lv_iconst (v := 2) hx hb dX9_tries_17 (by decide) ?_
  refine lv_icmp_ge (tgt := 66) hx hb dX9_tries_18 (by decide) (fun c_4 => absurd c_4 (by decide)) (fun c_4 => ?_)
  refine lv_aload_n hx hb dX9_tries_21 rfl (lv_at hl 1 rfl) ?_
  refine va_get (D := E.1) (ci := 9) (v := .ref tr) (C := RX9) (T := TX9) (N := 22) hx hb hts g_2 hown hE.1 hP 0 rfl rfl 16 (by decide) g_1 (fun _ h9 => h9) rfl dX9_tries_22 ?_
  refine lv_bipush (v := 10) hx hb dX9_tries_25 (by decide) ?_
  refine lv_iload_n hx hb dX9_tries_27 rfl (lv_at hl 0 rfl) ?_
  refine lv_iadd hx hb dX9_tries_28 ?_
  refine lv_topi (fun z_5 ez_5 => ?_)
  obtain rfl : z_5 = 11 := ez_5.trans (by decide)
  refine lv_iload_n hx hb dX9_tries_29 rfl (lv_at hl 2 rfl) ?_
  refine lv_aload_n hx hb dX9_tries_30 rfl (lv_at hl 1 rfl) ?_
  refine va_get (D := E.1) (ci := 9) (v := .ref td) (C := RX9) (T := TX9) (N := 22) hx hb hts g_2 hown hE.1 hP 0 rfl rfl 2 (by decide) g_3 (fun _ h9 => h9) rfl dX9_tries_31 ?_
  refine lv_bipush (v := 15) hx hb dX9_tries_34 (by decide) ?_
  refine x_iald hx hb hE.1 hP 2 0 rfl rfl 15 (by decide) (by unfold vp_in; decide) dX9_tries_36 ?_
  refine lv_imul hx hb dX9_tries_37 ?_
  refine x_rS [.int (i * (told 15))] (kX9_mod l E (i * (told 15))) ⟨hx, hb, hml, hown, hts⟩ (va_cwS 1 hts gX9_tries_X9_mod rfl rfl rfl hdX9_mod.2 ⟨Nat.le_of_ble_eq_true rfl, Nat.le_of_ble_eq_true rfl⟩) hE hP (hX.d rfl) [] rfl rfl hl.1 rfl rfl (Nat.le_of_ble_eq_true rfl) dX9_tries_38 (Nat.le_of_ble_eq_true rfl) (Nat.le_of_ble_eq_true rfl) ?_
  refine x_iast hx hb hE.1 hP (hX.d rfl) hS 5 0 rfl rfl 11 (by decide) (by unfold vp_in; decide) dX9_tries_41 (fun H locs hP _ hS => ?_)
  have hP : va_P E.1 vwCl [(h, .inr (9, [.int thrown, .ref nw, .ref td, .ref tx, .int length, .int textSize, .int start, .int next, .int token, .int value, .int error, .int errorAt, .int seen, .int triedWith, .ref rr, .ref ss, .ref tr, .ref wa, .int undos, .ref ud, .ref sl, .ref sv])), (nw, .inl (E.2.1, 214, .inl now)), (td, .inl (E.2.1, 48, .inl told)), (rr, .inl (E.2.1, 49, .inl rs)), (ss, .inl (E.2.1, 49, .inl fs)), (tr, .inl (E.2.1, 14, .inl (upd (upd (upd (upd (upd tri 2 0) 3 0) 10 (sX9_mod (i * (told 15)))) 12 (j * (told 16))) 11 (sX9_mod (i * (told 15))))))] H := hP
  refine lv_aload_n hx hb dX9_tries_42 rfl (lv_at hl 1 rfl) ?_
  refine va_get (D := E.1) (ci := 9) (v := .ref tr) (C := RX9) (T := TX9) (N := 22) hx hb hts g_2 hown hE.1 hP 0 rfl rfl 16 (by decide) g_1 (fun _ h9 => h9) rfl dX9_tries_43 ?_
  refine lv_bipush (v := 12) hx hb dX9_tries_46 (by decide) ?_
  refine lv_iload_n hx hb dX9_tries_48 rfl (lv_at hl 0 rfl) ?_
  refine lv_iadd hx hb dX9_tries_49 ?_
  refine lv_topi (fun z_6 ez_6 => ?_)
  obtain rfl : z_6 = 13 := ez_6.trans (by decide)
  refine lv_iload_n hx hb dX9_tries_50 rfl (lv_at hl 3 rfl) ?_
  refine lv_aload_n hx hb dX9_tries_51 rfl (lv_at hl 1 rfl) ?_
  refine va_get (D := E.1) (ci := 9) (v := .ref td) (C := RX9) (T := TX9) (N := 22) hx hb hts g_2 hown hE.1 hP 0 rfl rfl 2 (by decide) g_3 (fun _ h9 => h9) rfl dX9_tries_52 ?_
  refine lv_bipush (v := 16) hx hb dX9_tries_55 (by decide) ?_
  refine x_iald hx hb hE.1 hP 2 0 rfl rfl 16 (by decide) (by unfold vp_in; decide) dX9_tries_57 ?_
  refine lv_imul hx hb dX9_tries_58 ?_
  refine x_iast hx hb hE.1 hP (hX.d rfl) hS 5 0 rfl rfl 13 (by decide) (by unfold vp_in; decide) dX9_tries_59 (fun H locs hP _ hS => ?_)
  have hP : va_P E.1 vwCl [(h, .inr (9, [.int thrown, .ref nw, .ref td, .ref tx, .int length, .int textSize, .int start, .int next, .int token, .int value, .int error, .int errorAt, .int seen, .int triedWith, .ref rr, .ref ss, .ref tr, .ref wa, .int undos, .ref ud, .ref sl, .ref sv])), (nw, .inl (E.2.1, 214, .inl now)), (td, .inl (E.2.1, 48, .inl told)), (rr, .inl (E.2.1, 49, .inl rs)), (ss, .inl (E.2.1, 49, .inl fs)), (tr, .inl (E.2.1, 14, .inl (upd (upd (upd (upd (upd (upd tri 2 0) 3 0) 10 (sX9_mod (i * (told 15)))) 12 (j * (told 16))) 11 (sX9_mod (i * (told 15)))) 13 (j * (told 16)))))] H := hP
  refine lv_iinc (v := 2) (lv' := [(3, .int 2), (0, .ref h), (1, .int i), (2, .int j)]) hx hb dX9_tries_60 hl (k := 0) rfl (by decide) (by decide) rfl (fun ls hl => ?_)
  refine lv_goto (tgt := 16) hx hb dX9_tries_63 (by decide) ?_
  refine lv_iload_n hx hb dX9_tries_16 rfl (lv_at hl 0 rfl) ?_
  refine lv_iconst (v := 2) hx hb dX9_tries_17 (by decide) ?_
  refine lv_icmp_ge (tgt := 66) hx hb dX9_tries_18 (by decide) (fun c_7 => ?_) (fun c_7 => absurd (by decide) c_7)
  refine lv_iconst (v := 0) hx hb dX9_tries_66 (by decide) ?_
  refine lv_istore_n (lv' := [(3, .int 0), (0, .ref h), (1, .int i), (2, .int j)]) hx hb dX9_tries_67 rfl hl (by decide) rfl (fun ls hl => ?_)
  refine lv_iconst (v := 0) hx hb dX9_tries_68 (by decide) ?_
  refine lv_istore (lv' := [(4, .int 0), (3, .int 0), (0, .ref h), (1, .int i), (2, .int j)]) hx hb dX9_tries_69 hl (by decide) rfl (fun ls hl => ?_)
  have ex_71 : ∀ (why_71 : Int32) (n_71 : Int32) (tri_71 : Nat → Int32), (0 ≤ tri_71 10) → (tri_71 10 < 4096) → (0 ≤ tri_71 11) → (tri_71 11 < 4096) → (¬ n_71 < 0) → ∀ (H : Heap) (locs : List Loc), va_P E.1 vwCl [(h, .inr (9, [.int thrown, .ref nw, .ref td, .ref tx, .int length, .int textSize, .int start, .int next, .int token, .int value, .int error, .int errorAt, .int seen, .int triedWith, .ref rr, .ref ss, .ref tr, .ref wa, .int undos, .ref ud, .ref sl, .ref sv])), (nw, .inl (E.2.1, 214, .inl now)), (td, .inl (E.2.1, 48, .inl told)), (rr, .inl (E.2.1, 49, .inl rs)), (ss, .inl (E.2.1, 49, .inl fs)), (tr, .inl (E.2.1, 14, .inl tri_71))] H → va_S A s.heap H locs → ∀ (ls : Array Slot), lv_has ls 5 [(0, .ref h), (1, .int i), (2, .int j), (3, .int why_71), (4, .int n_71)] → (sX9_tries now told rs fs tri i j) = (if why_71 = 0 then if (sX9_leansBeyond tri_71 (told 15)) = 0 then (upd rs ((sX9_cell i j).toNatClampNeg) why_71, upd fs ((sX9_cell i j).toNatClampNeg) (-1), tri_71) else (upd rs ((sX9_cell i j).toNatClampNeg) 4, upd fs ((sX9_cell i j).toNatClampNeg) (-1), tri_71) else (upd rs ((sX9_cell i j).toNatClampNeg) why_71, upd fs ((sX9_cell i j).toNatClampNeg) n_71, tri_71)) → W p l e ({ frames := 4, cells := 0, slots := 0, locals := 94 }) s m args below meth c H locs 0 0 (MQ below (xO (T := (Nat → Int32) × (Nat → Int32) × (Nat → Int32)) E A (fun _ => none) (fun q => [(h, .inr (9, [.int thrown, .ref nw, .ref td, .ref tx, .int length, .int textSize, .int start, .int next, .int token, .int value, .int error, .int errorAt, .int seen, .int triedWith, .ref rr, .ref ss, .ref tr, .ref wa, .int undos, .ref ud, .ref sl, .ref sv])), (nw, .inl (E.2.1, 214, .inl now)), (td, .inl (E.2.1, 48, .inl told)), (rr, .inl (E.2.1, 49, .inl q.1)), (ss, .inl (E.2.1, 49, .inl q.2.1)), (tr, .inl (E.2.1, 14, .inl q.2.2))]) (sX9_tries now told rs fs tri i j)) args s 0 0 A) (F0 m 137 ls []) := by
    intro why_71 n_71 tri_71 ha0_71 ha1_71 hb0_71 hb1_71 hn0_71 H locs hP hS ls hl hx_71
    refine lv_aload_n hx hb dX9_tries_137 rfl (lv_at hl 0 rfl) ?_
    refine va_get (D := E.1) (ci := 9) (v := .ref ss) (C := RX9) (T := TX9) (N := 22) hx hb hts g_2 hown hE.1 hP 0 rfl rfl 15 (by decide) g_4 (fun _ h9 => h9) rfl dX9_tries_138 ?_
    refine lv_iload_n hx hb dX9_tries_141 rfl (lv_at hl 1 rfl) ?_
    refine lv_iload_n hx hb dX9_tries_142 rfl (lv_at hl 2 rfl) ?_
    refine x_rS [.int i, .int j] (kX9_cell l E i j) ⟨hx, hb, hml, hown, hts⟩ (va_cwS 2 hts gX9_tries_X9_cell rfl rfl rfl hdX9_cell.2 ⟨Nat.le_of_ble_eq_true rfl, Nat.le_of_ble_eq_true rfl⟩) hE hP (hX.d rfl) [] rfl rfl hl.1 rfl rfl (Nat.le_of_ble_eq_true rfl) dX9_tries_143 (Nat.le_of_ble_eq_true rfl) (Nat.le_of_ble_eq_true rfl) ?_
    refine lv_iload_n hx hb dX9_tries_146 rfl (lv_at hl 3 rfl) ?_
    refine lv_if_ne (tgt := 154) hx hb dX9_tries_147 (by decide) (fun c_8 => ?_) (fun c_8 => ?_)
    · refine lv_iload hx hb dX9_tries_154 (lv_at hl 4 rfl) ?_
      refine x_iast hx hb hE.1 hP (hX.d rfl) hS 4 0 rfl rfl ((sX9_cell i j).toNatClampNeg) rfl hcell dX9_tries_156 (fun H locs hP _ hS => ?_)
      have hP : va_P E.1 vwCl [(h, .inr (9, [.int thrown, .ref nw, .ref td, .ref tx, .int length, .int textSize, .int start, .int next, .int token, .int value, .int error, .int errorAt, .int seen, .int triedWith, .ref rr, .ref ss, .ref tr, .ref wa, .int undos, .ref ud, .ref sl, .ref sv])), (nw, .inl (E.2.1, 214, .inl now)), (td, .inl (E.2.1, 48, .inl told)), (rr, .inl (E.2.1, 49, .inl rs)), (ss, .inl (E.2.1, 49, .inl (upd fs ((sX9_cell i j).toNatClampNeg) n_71))), (tr, .inl (E.2.1, 14, .inl tri_71))] H := hP
      refine lv_aload_n hx hb dX9_tries_157 rfl (lv_at hl 0 rfl) ?_
      refine va_get (D := E.1) (ci := 9) (v := .ref rr) (C := RX9) (T := TX9) (N := 22) hx hb hts g_2 hown hE.1 hP 0 rfl rfl 14 (by decide) g_5 (fun _ h9 => h9) rfl dX9_tries_158 ?_
      refine lv_iload_n hx hb dX9_tries_161 rfl (lv_at hl 1 rfl) ?_
      refine lv_iload_n hx hb dX9_tries_162 rfl (lv_at hl 2 rfl) ?_
      refine x_rS [.int i, .int j] (kX9_cell l E i j) ⟨hx, hb, hml, hown, hts⟩ (va_cwS 2 hts gX9_tries_X9_cell rfl rfl rfl hdX9_cell.2 ⟨Nat.le_of_ble_eq_true rfl, Nat.le_of_ble_eq_true rfl⟩) hE hP (hX.d rfl) [] rfl rfl hl.1 rfl rfl (Nat.le_of_ble_eq_true rfl) dX9_tries_163 (Nat.le_of_ble_eq_true rfl) (Nat.le_of_ble_eq_true rfl) ?_
      refine lv_iload_n hx hb dX9_tries_166 rfl (lv_at hl 3 rfl) ?_
      refine lv_if_ne (tgt := 191) hx hb dX9_tries_167 (by decide) (fun _ => ?_) (fun c_9 => absurd c_9 c_8)
      refine lv_iload_n hx hb dX9_tries_191 rfl (lv_at hl 3 rfl) ?_
      refine x_iast hx hb hE.1 hP (hX.d rfl) hS 3 0 rfl rfl ((sX9_cell i j).toNatClampNeg) rfl hcell dX9_tries_192 (fun H locs hP _ hS => ?_)
      have hP : va_P E.1 vwCl [(h, .inr (9, [.int thrown, .ref nw, .ref td, .ref tx, .int length, .int textSize, .int start, .int next, .int token, .int value, .int error, .int errorAt, .int seen, .int triedWith, .ref rr, .ref ss, .ref tr, .ref wa, .int undos, .ref ud, .ref sl, .ref sv])), (nw, .inl (E.2.1, 214, .inl now)), (td, .inl (E.2.1, 48, .inl told)), (rr, .inl (E.2.1, 49, .inl (upd rs ((sX9_cell i j).toNatClampNeg) why_71))), (ss, .inl (E.2.1, 49, .inl (upd fs ((sX9_cell i j).toNatClampNeg) n_71))), (tr, .inl (E.2.1, 14, .inl tri_71))] H := hP
      exact x_wv (upd rs ((sX9_cell i j).toNatClampNeg) why_71, upd fs ((sX9_cell i j).toNatClampNeg) n_71, tri_71) (by rw [hx_71]; rw [if_neg c_8]; try rfl) rfl hx hb hr hlk hS hP (hX.d rfl) [0, 1, 2, 3, 4, 5] rfl rfl (Nat.le_of_ble_eq_true rfl) (Nat.le_of_ble_eq_true rfl) dX9_tries_193
    · refine lv_iconst (v := (-1)) hx hb dX9_tries_150 (by decide) ?_
      refine lv_goto (tgt := 156) hx hb dX9_tries_151 (by decide) ?_
      refine x_iast hx hb hE.1 hP (hX.d rfl) hS 4 0 rfl rfl ((sX9_cell i j).toNatClampNeg) rfl hcell dX9_tries_156 (fun H locs hP _ hS => ?_)
      have hP : va_P E.1 vwCl [(h, .inr (9, [.int thrown, .ref nw, .ref td, .ref tx, .int length, .int textSize, .int start, .int next, .int token, .int value, .int error, .int errorAt, .int seen, .int triedWith, .ref rr, .ref ss, .ref tr, .ref wa, .int undos, .ref ud, .ref sl, .ref sv])), (nw, .inl (E.2.1, 214, .inl now)), (td, .inl (E.2.1, 48, .inl told)), (rr, .inl (E.2.1, 49, .inl rs)), (ss, .inl (E.2.1, 49, .inl (upd fs ((sX9_cell i j).toNatClampNeg) (-1)))), (tr, .inl (E.2.1, 14, .inl tri_71))] H := hP
      refine lv_aload_n hx hb dX9_tries_157 rfl (lv_at hl 0 rfl) ?_
      refine va_get (D := E.1) (ci := 9) (v := .ref rr) (C := RX9) (T := TX9) (N := 22) hx hb hts g_2 hown hE.1 hP 0 rfl rfl 14 (by decide) g_5 (fun _ h9 => h9) rfl dX9_tries_158 ?_
      refine lv_iload_n hx hb dX9_tries_161 rfl (lv_at hl 1 rfl) ?_
      refine lv_iload_n hx hb dX9_tries_162 rfl (lv_at hl 2 rfl) ?_
      refine x_rS [.int i, .int j] (kX9_cell l E i j) ⟨hx, hb, hml, hown, hts⟩ (va_cwS 2 hts gX9_tries_X9_cell rfl rfl rfl hdX9_cell.2 ⟨Nat.le_of_ble_eq_true rfl, Nat.le_of_ble_eq_true rfl⟩) hE hP (hX.d rfl) [] rfl rfl hl.1 rfl rfl (Nat.le_of_ble_eq_true rfl) dX9_tries_163 (Nat.le_of_ble_eq_true rfl) (Nat.le_of_ble_eq_true rfl) ?_
      refine lv_iload_n hx hb dX9_tries_166 rfl (lv_at hl 3 rfl) ?_
      refine lv_if_ne (tgt := 191) hx hb dX9_tries_167 (by decide) (fun c_10 => absurd c_8 c_10) (fun _ => ?_)
      refine lv_aload_n hx hb dX9_tries_170 rfl (lv_at hl 0 rfl) ?_
      refine va_get (D := E.1) (ci := 9) (v := .ref tr) (C := RX9) (T := TX9) (N := 22) hx hb hts g_2 hown hE.1 hP 0 rfl rfl 16 (by decide) g_1 (fun _ h9 => h9) rfl dX9_tries_171 ?_
      refine lv_aload_n hx hb dX9_tries_174 rfl (lv_at hl 0 rfl) ?_
      refine va_get (D := E.1) (ci := 9) (v := .ref td) (C := RX9) (T := TX9) (N := 22) hx hb hts g_2 hown hE.1 hP 0 rfl rfl 2 (by decide) g_3 (fun _ h9 => h9) rfl dX9_tries_175 ?_
      refine lv_bipush (v := 15) hx hb dX9_tries_178 (by decide) ?_
      refine x_iald hx hb hE.1 hP 2 0 rfl rfl 15 (by decide) (by unfold vp_in; decide) dX9_tries_180 ?_
      refine x_rS [.ref tr, .int (told 15)] (kX9_leansBeyond l E tr 14 tri_71 (told 15) (by decide)) ⟨hx, hb, hml, hown, hts⟩ (va_cwS 2 hts gX9_tries_X9_leansBeyond rfl rfl rfl hdX9_leansBeyond.2 ⟨Nat.le_of_ble_eq_true rfl, Nat.le_of_ble_eq_true rfl⟩) hE hP (hX.d rfl) [5] rfl rfl hl.1 rfl rfl (Nat.le_of_ble_eq_true rfl) dX9_tries_181 (Nat.le_of_ble_eq_true rfl) (Nat.le_of_ble_eq_true rfl) ?_
      refine lv_if_eq (tgt := 191) hx hb dX9_tries_184 (by decide) (fun c_11 => ?_) (fun c_11 => ?_)
      · refine lv_iload_n hx hb dX9_tries_191 rfl (lv_at hl 3 rfl) ?_
        refine x_iast hx hb hE.1 hP (hX.d rfl) hS 3 0 rfl rfl ((sX9_cell i j).toNatClampNeg) rfl hcell dX9_tries_192 (fun H locs hP _ hS => ?_)
        have hP : va_P E.1 vwCl [(h, .inr (9, [.int thrown, .ref nw, .ref td, .ref tx, .int length, .int textSize, .int start, .int next, .int token, .int value, .int error, .int errorAt, .int seen, .int triedWith, .ref rr, .ref ss, .ref tr, .ref wa, .int undos, .ref ud, .ref sl, .ref sv])), (nw, .inl (E.2.1, 214, .inl now)), (td, .inl (E.2.1, 48, .inl told)), (rr, .inl (E.2.1, 49, .inl (upd rs ((sX9_cell i j).toNatClampNeg) why_71))), (ss, .inl (E.2.1, 49, .inl (upd fs ((sX9_cell i j).toNatClampNeg) (-1)))), (tr, .inl (E.2.1, 14, .inl tri_71))] H := hP
        exact x_wv (upd rs ((sX9_cell i j).toNatClampNeg) why_71, upd fs ((sX9_cell i j).toNatClampNeg) (-1), tri_71) (by rw [hx_71]; rw [if_pos c_8]; rw [if_pos c_11]; try rfl) rfl hx hb hr hlk hS hP (hX.d rfl) [0, 1, 2, 3, 4, 5] rfl rfl (Nat.le_of_ble_eq_true rfl) (Nat.le_of_ble_eq_true rfl) dX9_tries_193
      · refine lv_iconst (v := 4) hx hb dX9_tries_187 (by decide) ?_
        refine lv_goto (tgt := 192) hx hb dX9_tries_188 (by decide) ?_
        refine x_iast hx hb hE.1 hP (hX.d rfl) hS 3 0 rfl rfl ((sX9_cell i j).toNatClampNeg) rfl hcell dX9_tries_192 (fun H locs hP _ hS => ?_)
        have hP : va_P E.1 vwCl [(h, .inr (9, [.int thrown, .ref nw, .ref td, .ref tx, .int length, .int textSize, .int start, .int next, .int token, .int value, .int error, .int errorAt, .int seen, .int triedWith, .ref rr, .ref ss, .ref tr, .ref wa, .int undos, .ref ud, .ref sl, .ref sv])), (nw, .inl (E.2.1, 214, .inl now)), (td, .inl (E.2.1, 48, .inl told)), (rr, .inl (E.2.1, 49, .inl (upd rs ((sX9_cell i j).toNatClampNeg) 4))), (ss, .inl (E.2.1, 49, .inl (upd fs ((sX9_cell i j).toNatClampNeg) (-1)))), (tr, .inl (E.2.1, 14, .inl tri_71))] H := hP
        exact x_wv (upd rs ((sX9_cell i j).toNatClampNeg) 4, upd fs ((sX9_cell i j).toNatClampNeg) (-1), tri_71) (by rw [hx_71]; rw [if_pos c_8]; rw [if_neg c_11]; try rfl) rfl hx hb hr hlk hS hP (hX.d rfl) [0, 1, 2, 3, 4, 5] rfl rfl (Nat.le_of_ble_eq_true rfl) (Nat.le_of_ble_eq_true rfl) dX9_tries_193
  have lp_71 : ∀ (kk_71 : Nat), ∀ (why_71 : Int32) (n_71 : Int32) (tri_71 : Nat → Int32), (0 ≤ tri_71 10) → (tri_71 10 < 4096) → (0 ≤ tri_71 11) → (tri_71 11 < 4096) → (¬ n_71 < 0) → (xMu (told 18) n_71) < kk_71 → ∀ (H : Heap) (locs : List Loc), va_P E.1 vwCl [(h, .inr (9, [.int thrown, .ref nw, .ref td, .ref tx, .int length, .int textSize, .int start, .int next, .int token, .int value, .int error, .int errorAt, .int seen, .int triedWith, .ref rr, .ref ss, .ref tr, .ref wa, .int undos, .ref ud, .ref sl, .ref sv])), (nw, .inl (E.2.1, 214, .inl now)), (td, .inl (E.2.1, 48, .inl told)), (rr, .inl (E.2.1, 49, .inl rs)), (ss, .inl (E.2.1, 49, .inl fs)), (tr, .inl (E.2.1, 14, .inl tri_71))] H → va_S A s.heap H locs → ∀ (ls : Array Slot), lv_has ls 5 [(0, .ref h), (1, .int i), (2, .int j), (3, .int why_71), (4, .int n_71)] → (sX9_tries now told rs fs tri i j) = sX9_tries_l71 now told (fun (why_71 : Int32) (n_71 : Int32) (tri_71 : Nat → Int32) => if why_71 = 0 then if (sX9_leansBeyond tri_71 (told 15)) = 0 then (upd rs ((sX9_cell i j).toNatClampNeg) why_71, upd fs ((sX9_cell i j).toNatClampNeg) (-1), tri_71) else (upd rs ((sX9_cell i j).toNatClampNeg) 4, upd fs ((sX9_cell i j).toNatClampNeg) (-1), tri_71) else (upd rs ((sX9_cell i j).toNatClampNeg) why_71, upd fs ((sX9_cell i j).toNatClampNeg) n_71, tri_71)) kk_71 why_71 n_71 tri_71 → W p l e ({ frames := 4, cells := 0, slots := 0, locals := 94 }) s m args below meth c H locs 0 0 (MQ below (xO (T := (Nat → Int32) × (Nat → Int32) × (Nat → Int32)) E A (fun _ => none) (fun q => [(h, .inr (9, [.int thrown, .ref nw, .ref td, .ref tx, .int length, .int textSize, .int start, .int next, .int token, .int value, .int error, .int errorAt, .int seen, .int triedWith, .ref rr, .ref ss, .ref tr, .ref wa, .int undos, .ref ud, .ref sl, .ref sv])), (nw, .inl (E.2.1, 214, .inl now)), (td, .inl (E.2.1, 48, .inl told)), (rr, .inl (E.2.1, 49, .inl q.1)), (ss, .inl (E.2.1, 49, .inl q.2.1)), (tr, .inl (E.2.1, 14, .inl q.2.2))]) (sX9_tries now told rs fs tri i j)) args s 0 0 A) (F0 m 71 ls []) := by
    intro kk_71
    induction kk_71 with
    | zero =>
      intro why_71 n_71 tri_71 ha0_71 ha1_71 hb0_71 hb1_71 hn0_71 hmu
      exact absurd hmu (Nat.not_lt_zero _)
    | succ kk_71 ih_71 =>
      intro why_71 n_71 tri_71 ha0_71 ha1_71 hb0_71 hb1_71 hn0_71 hmu H locs hP hS ls hl hlq_71
      refine lv_iload hx hb dX9_tries_71 (lv_at hl 4 rfl) ?_
      refine lv_aload_n hx hb dX9_tries_73 rfl (lv_at hl 0 rfl) ?_
      refine va_get (D := E.1) (ci := 9) (v := .ref td) (C := RX9) (T := TX9) (N := 22) hx hb hts g_2 hown hE.1 hP 0 rfl rfl 2 (by decide) g_3 (fun _ h9 => h9) rfl dX9_tries_74 ?_
      refine lv_bipush (v := 18) hx hb dX9_tries_77 (by decide) ?_
      refine x_iald hx hb hE.1 hP 2 0 rfl rfl 18 (by decide) (by unfold vp_in; decide) dX9_tries_79 ?_
      refine lv_icmp_ge (tgt := 137) hx hb dX9_tries_80 (by decide) (fun c_12 => ?_) (fun c_12 => ?_)
      · exact ex_71 why_71 n_71 tri_71 ha0_71 ha1_71 hb0_71 hb1_71 hn0_71 _ _ hP hS ls (lv_sub hl [0, 1, 2, 3, 4] rfl) (by rw [hlq_71]; rw [sX9_tries_l71_s]; rw [if_pos c_12]; try rfl)
      · refine lv_iload_n hx hb dX9_tries_83 rfl (lv_at hl 3 rfl) ?_
        refine lv_if_ne (tgt := 137) hx hb dX9_tries_84 (by decide) (fun c_13 => ?_) (fun c_13 => ?_)
        · exact ex_71 why_71 n_71 tri_71 ha0_71 ha1_71 hb0_71 hb1_71 hn0_71 _ _ hP hS ls (lv_sub hl [0, 1, 2, 3, 4] rfl) (by rw [hlq_71]; rw [sX9_tries_l71_s]; rw [if_neg c_12]; rw [if_neg c_13]; try rfl)
        · refine lv_iinc (v := n_71 + 1) (lv' := [(4, .int (n_71 + 1)), (0, .ref h), (1, .int i), (2, .int j), (3, .int why_71)]) hx hb dX9_tries_87 hl (k := 4) rfl (by rfl) (by decide) rfl (fun ls hl => ?_)
          refine lv_aload_n hx hb dX9_tries_90 rfl (lv_at hl 1 rfl) ?_
          refine lv_aload_n hx hb dX9_tries_91 rfl (lv_at hl 1 rfl) ?_
          refine va_get (D := E.1) (ci := 9) (v := .ref tr) (C := RX9) (T := TX9) (N := 22) hx hb hts g_2 hown hE.1 hP 0 rfl rfl 16 (by decide) g_1 (fun _ h9 => h9) rfl dX9_tries_92 ?_
          refine lv_aload_n hx hb dX9_tries_95 rfl (lv_at hl 1 rfl) ?_
          refine lv_aload_n hx hb dX9_tries_96 rfl (lv_at hl 1 rfl) ?_
          refine va_get (D := E.1) (ci := 9) (v := .ref tr) (C := RX9) (T := TX9) (N := 22) hx hb hts g_2 hown hE.1 hP 0 rfl rfl 16 (by decide) g_1 (fun _ h9 => h9) rfl dX9_tries_97 ?_
          refine x_rV [.ref tr] (kX9_balancing_try l E h thrown nw td tx length textSize start next token value error errorAt seen triedWith rr ss tr wa undos ud sl sv told now tr tri_71) ⟨hx, hb, hml, hown, hts⟩ (cwV 1 hts gX9_tries_X9_balancing rfl rfl rfl hdX9_balancing ⟨Nat.le_of_ble_eq_true rfl, Nat.le_of_ble_eq_true rfl⟩) hE hP (hX.d rfl) [0, 2, 1, 5] rfl rfl (ci := 9) (q0 := 0) rfl rfl rfl hl.1 rfl rfl (Nat.le_of_ble_eq_true rfl) dX9_tries_100 (Nat.le_of_ble_eq_true rfl) (Nat.le_of_ble_eq_true rfl) ?_
          refine x_wV (wr := [(nw, .inl (E.2.1, 214, .inl now)), (rr, .inl (E.2.1, 49, .inl rs)), (ss, .inl (E.2.1, 49, .inl fs))]) [.ref tr, .int (sX9_balancing_try told now tri_71)] (kX9_step l E h thrown nw td tx length textSize start next token value error errorAt seen triedWith rr ss tr wa undos ud sl sv told tr 14 tri_71 (sX9_balancing_try told now tri_71) (by decide) ha0_71 ha1_71 hb0_71 hb1_71) ⟨hx, hb, hml, hown, hts⟩ (cwV 2 hts gX9_tries_X9_step rfl rfl rfl hdX9_step ⟨Nat.le_of_ble_eq_true rfl, Nat.le_of_ble_eq_true rfl⟩) hE hP (hX.d rfl) hS hA [0, 2, 5] [1, 3, 4] rfl rfl rfl rfl (by decide) (ci := 9) (q0 := 0) rfl rfl rfl hl.1 rfl rfl (Nat.le_of_ble_eq_true rfl) dX9_tries_103 (Nat.le_of_ble_eq_true rfl) (Nat.le_of_ble_eq_true rfl) (fun q_14 H locs hq_14 hP hD hS => ?_)
          subst hq_14
          have hP : va_P E.1 vwCl [(nw, .inl (E.2.1, 214, .inl now)), (rr, .inl (E.2.1, 49, .inl rs)), (ss, .inl (E.2.1, 49, .inl fs)), (h, .inr (9, [.int thrown, .ref nw, .ref td, .ref tx, .int length, .int textSize, .int start, .int next, .int token, .int value, .int error, .int errorAt, .int seen, .int triedWith, .ref rr, .ref ss, .ref tr, .ref wa, .int undos, .ref ud, .ref sl, .ref sv])), (td, .inl (E.2.1, 48, .inl told)), (tr, .inl (E.2.1, 14, .inl ((sX9_step told tri_71 (sX9_balancing_try told now tri_71)).2)))] H := hP
          have hX : xD A [nw, rr, ss, h, td, tr] := xD.of hD rfl
          refine W.eq (g2 := F0 m 106 ls [.int ((sX9_step told tri_71 (sX9_balancing_try told now tri_71)).1)]) rfl ?_
          refine lv_istore_n (lv' := [(3, .int ((sX9_step told tri_71 (sX9_balancing_try told now tri_71)).1)), (4, .int (n_71 + 1)), (0, .ref h), (1, .int i), (2, .int j)]) hx hb dX9_tries_106 rfl hl (by decide) rfl (fun ls hl => ?_)
          refine lv_iload_n hx hb dX9_tries_107 rfl (lv_at hl 0 rfl) ?_
          refine lv_if_ne (tgt := 132) hx hb dX9_tries_108 (by decide) (fun c_15 => ?_) (fun c_15 => ?_)
          · refine lv_iload_n hx hb dX9_tries_132 rfl (lv_at hl 0 rfl) ?_
            refine lv_istore_n (lv' := [(3, .int ((sX9_step told tri_71 (sX9_balancing_try told now tri_71)).1)), (4, .int (n_71 + 1)), (0, .ref h), (1, .int i), (2, .int j)]) hx hb dX9_tries_133 rfl hl (by decide) rfl (fun ls hl => ?_)
            refine lv_goto (tgt := 71) hx hb dX9_tries_134 (by decide) ?_
            have hP := (x_pick hP (hX.d rfl) (w1 := [(h, .inr (9, [.int thrown, .ref nw, .ref td, .ref tx, .int length, .int textSize, .int start, .int next, .int token, .int value, .int error, .int errorAt, .int seen, .int triedWith, .ref rr, .ref ss, .ref tr, .ref wa, .int undos, .ref ud, .ref sl, .ref sv])), (nw, .inl (E.2.1, 214, .inl now)), (td, .inl (E.2.1, 48, .inl told)), (rr, .inl (E.2.1, 49, .inl rs)), (ss, .inl (E.2.1, 49, .inl fs)), (tr, .inl (E.2.1, 14, .inl ((sX9_step told tri_71 (sX9_balancing_try told now tri_71)).2)))]) [3, 0, 4, 1, 2, 5] rfl rfl).1
            exact ih_71 ((sX9_step told tri_71 (sX9_balancing_try told now tri_71)).1) (n_71 + 1) ((sX9_step told tri_71 (sX9_balancing_try told now tri_71)).2) (x_step_ang _ _ _).1 (x_step_ang _ _ _).2.1 (x_step_ang _ _ _).2.2.1 (x_step_ang _ _ _).2.2.2 (x_step hn0_71 c_12) (x_mu hn0_71 c_12 hmu) _ _ hP hS ls (lv_sub hl [2, 3, 4, 0, 1] rfl) (by rw [hlq_71]; rw [sX9_tries_l71_s]; rw [if_neg c_12]; rw [if_pos c_13]; rw [if_neg c_15]; try rfl)
          · refine lv_aload_n hx hb dX9_tries_111 rfl (lv_at hl 2 rfl) ?_
            refine va_get (D := E.1) (ci := 9) (v := .ref tr) (C := RX9) (T := TX9) (N := 22) hx hb hts g_2 hown hE.1 hP 3 rfl rfl 16 (by decide) g_1 (fun _ h9 => h9) rfl dX9_tries_112 ?_
            refine lv_aload_n hx hb dX9_tries_115 rfl (lv_at hl 2 rfl) ?_
            refine va_get (D := E.1) (ci := 9) (v := .ref td) (C := RX9) (T := TX9) (N := 22) hx hb hts g_2 hown hE.1 hP 3 rfl rfl 2 (by decide) g_3 (fun _ h9 => h9) rfl dX9_tries_116 ?_
            refine lv_bipush (v := 19) hx hb dX9_tries_119 (by decide) ?_
            refine x_iald hx hb hE.1 hP 4 0 rfl rfl 19 (by decide) (by unfold vp_in; decide) dX9_tries_121 ?_
            refine x_rS [.ref tr, .int (told 19)] (kX9_leansBeyond l E tr 14 ((sX9_step told tri_71 (sX9_balancing_try told now tri_71)).2) (told 19) (by decide)) ⟨hx, hb, hml, hown, hts⟩ (va_cwS 2 hts gX9_tries_X9_leansBeyond rfl rfl rfl hdX9_leansBeyond.2 ⟨Nat.le_of_ble_eq_true rfl, Nat.le_of_ble_eq_true rfl⟩) hE hP (hX.d rfl) [5] rfl rfl hl.1 rfl rfl (Nat.le_of_ble_eq_true rfl) dX9_tries_122 (Nat.le_of_ble_eq_true rfl) (Nat.le_of_ble_eq_true rfl) ?_
            refine lv_if_eq (tgt := 132) hx hb dX9_tries_125 (by decide) (fun c_16 => ?_) (fun c_16 => ?_)
            · refine lv_iload_n hx hb dX9_tries_132 rfl (lv_at hl 0 rfl) ?_
              refine lv_istore_n (lv' := [(3, .int ((sX9_step told tri_71 (sX9_balancing_try told now tri_71)).1)), (4, .int (n_71 + 1)), (0, .ref h), (1, .int i), (2, .int j)]) hx hb dX9_tries_133 rfl hl (by decide) rfl (fun ls hl => ?_)
              refine lv_goto (tgt := 71) hx hb dX9_tries_134 (by decide) ?_
              have hP := (x_pick hP (hX.d rfl) (w1 := [(h, .inr (9, [.int thrown, .ref nw, .ref td, .ref tx, .int length, .int textSize, .int start, .int next, .int token, .int value, .int error, .int errorAt, .int seen, .int triedWith, .ref rr, .ref ss, .ref tr, .ref wa, .int undos, .ref ud, .ref sl, .ref sv])), (nw, .inl (E.2.1, 214, .inl now)), (td, .inl (E.2.1, 48, .inl told)), (rr, .inl (E.2.1, 49, .inl rs)), (ss, .inl (E.2.1, 49, .inl fs)), (tr, .inl (E.2.1, 14, .inl ((sX9_step told tri_71 (sX9_balancing_try told now tri_71)).2)))]) [3, 0, 4, 1, 2, 5] rfl rfl).1
              exact ih_71 ((sX9_step told tri_71 (sX9_balancing_try told now tri_71)).1) (n_71 + 1) ((sX9_step told tri_71 (sX9_balancing_try told now tri_71)).2) (x_step_ang _ _ _).1 (x_step_ang _ _ _).2.1 (x_step_ang _ _ _).2.2.1 (x_step_ang _ _ _).2.2.2 (x_step hn0_71 c_12) (x_mu hn0_71 c_12 hmu) _ _ hP hS ls (lv_sub hl [2, 3, 4, 0, 1] rfl) (by rw [hlq_71]; rw [sX9_tries_l71_s]; rw [if_neg c_12]; rw [if_pos c_13]; rw [if_pos c_15]; rw [if_pos c_16]; try rfl)
            · refine lv_iconst (v := 3) hx hb dX9_tries_128 (by decide) ?_
              refine lv_goto (tgt := 133) hx hb dX9_tries_129 (by decide) ?_
              refine lv_istore_n (lv' := [(3, .int 3), (4, .int (n_71 + 1)), (0, .ref h), (1, .int i), (2, .int j)]) hx hb dX9_tries_133 rfl hl (by decide) rfl (fun ls hl => ?_)
              refine lv_goto (tgt := 71) hx hb dX9_tries_134 (by decide) ?_
              have hP := (x_pick hP (hX.d rfl) (w1 := [(h, .inr (9, [.int thrown, .ref nw, .ref td, .ref tx, .int length, .int textSize, .int start, .int next, .int token, .int value, .int error, .int errorAt, .int seen, .int triedWith, .ref rr, .ref ss, .ref tr, .ref wa, .int undos, .ref ud, .ref sl, .ref sv])), (nw, .inl (E.2.1, 214, .inl now)), (td, .inl (E.2.1, 48, .inl told)), (rr, .inl (E.2.1, 49, .inl rs)), (ss, .inl (E.2.1, 49, .inl fs)), (tr, .inl (E.2.1, 14, .inl ((sX9_step told tri_71 (sX9_balancing_try told now tri_71)).2)))]) [3, 0, 4, 1, 2, 5] rfl rfl).1
              exact ih_71 3 (n_71 + 1) ((sX9_step told tri_71 (sX9_balancing_try told now tri_71)).2) (x_step_ang _ _ _).1 (x_step_ang _ _ _).2.1 (x_step_ang _ _ _).2.2.1 (x_step_ang _ _ _).2.2.2 (x_step hn0_71 c_12) (x_mu hn0_71 c_12 hmu) _ _ hP hS ls (lv_sub hl [2, 3, 4, 0, 1] rfl) (by rw [hlq_71]; rw [sX9_tries_l71_s]; rw [if_neg c_12]; rw [if_pos c_13]; rw [if_pos c_15]; rw [if_neg c_16]; try rfl)
  exact lp_71 (xMu (told 18) 0 + 1) 0 0 (upd (upd (upd (upd (upd (upd tri 2 0) 3 0) 10 (sX9_mod (i * (told 15)))) 12 (j * (told 16))) 11 (sX9_mod (i * (told 15)))) 13 (j * (told 16))) (x_mod _).1 (x_mod _).2 (x_mod _).1 (x_mod _).2 (by decide) (Nat.lt_succ_self _) _ _ hP hS ls (lv_sub hl [2, 3, 4, 1, 0] rfl) (by unfold sX9_tries; try rfl)
def sX9_lays_l53 (now : Nat → Int32) (told : Nat → Int32) (i_33 : Int32) (kont_53 : Int32 → (Nat → Int32) → (Nat → Int32) → (Nat → Int32) → Int32 × (Nat → Int32) × (Nat → Int32) × (Nat → Int32)) : Nat → Int32 → (Nat → Int32) → (Nat → Int32) → (Nat → Int32) → Int32 × (Nat → Int32) × (Nat → Int32) × (Nat → Int32)
  | 0, j_53, rs_53, fs_53, tri_53 => kont_53 j_53 rs_53 fs_53 tri_53
  | kk_53 + 1, j_53, rs_53, fs_53, tri_53 =>
    if (told 17) < j_53 then
      kont_53 j_53 rs_53 fs_53 tri_53
    else
      sX9_lays_l53 now told i_33 kont_53 kk_53 (j_53 + 1) ((sX9_tries now told rs_53 fs_53 tri_53 i_33 j_53).1) ((sX9_tries now told rs_53 fs_53 tri_53 i_33 j_53).2.1) ((sX9_tries now told rs_53 fs_53 tri_53 i_33 j_53).2.2)
theorem sX9_lays_l53_s (now : Nat → Int32) (told : Nat → Int32) (i_33 : Int32) (kont_53 : Int32 → (Nat → Int32) → (Nat → Int32) → (Nat → Int32) → Int32 × (Nat → Int32) × (Nat → Int32) × (Nat → Int32)) (kk_53 : Nat) (j_53 : Int32) (rs_53 : Nat → Int32) (fs_53 : Nat → Int32) (tri_53 : Nat → Int32) : sX9_lays_l53 now told i_33 kont_53 (kk_53 + 1) j_53 rs_53 fs_53 tri_53 =
    if (told 17) < j_53 then
      kont_53 j_53 rs_53 fs_53 tri_53
    else
      sX9_lays_l53 now told i_33 kont_53 kk_53 (j_53 + 1) ((sX9_tries now told rs_53 fs_53 tri_53 i_33 j_53).1) ((sX9_tries now told rs_53 fs_53 tri_53 i_33 j_53).2.1) ((sX9_tries now told rs_53 fs_53 tri_53 i_33 j_53).2.2) := rfl
def sX9_lays_l33 (now : Nat → Int32) (told : Nat → Int32) (kont_33 : Int32 → (Nat → Int32) → (Nat → Int32) → (Nat → Int32) → Int32 × (Nat → Int32) × (Nat → Int32) × (Nat → Int32)) : Nat → Int32 → (Nat → Int32) → (Nat → Int32) → (Nat → Int32) → Int32 × (Nat → Int32) × (Nat → Int32) × (Nat → Int32)
  | 0, i_33, rs_33, fs_33, tri_33 => kont_33 i_33 rs_33 fs_33 tri_33
  | kk_33 + 1, i_33, rs_33, fs_33, tri_33 =>
    if (told 17) < i_33 then
      kont_33 i_33 rs_33 fs_33 tri_33
    else
      sX9_lays_l53 now told i_33 (fun (j_53 : Int32) (rs_53 : Nat → Int32) (fs_53 : Nat → Int32) (tri_53 : Nat → Int32) => sX9_lays_l33 now told kont_33 kk_33 (i_33 + 1) rs_53 fs_53 tri_53) (xMu2 (told 17) (-(told 17)) + 1) (-(told 17)) rs_33 fs_33 tri_33
theorem sX9_lays_l33_s (now : Nat → Int32) (told : Nat → Int32) (kont_33 : Int32 → (Nat → Int32) → (Nat → Int32) → (Nat → Int32) → Int32 × (Nat → Int32) × (Nat → Int32) × (Nat → Int32)) (kk_33 : Nat) (i_33 : Int32) (rs_33 : Nat → Int32) (fs_33 : Nat → Int32) (tri_33 : Nat → Int32) : sX9_lays_l33 now told kont_33 (kk_33 + 1) i_33 rs_33 fs_33 tri_33 =
    if (told 17) < i_33 then
      kont_33 i_33 rs_33 fs_33 tri_33
    else
      sX9_lays_l53 now told i_33 (fun (j_53 : Int32) (rs_53 : Nat → Int32) (fs_53 : Nat → Int32) (tri_53 : Nat → Int32) => sX9_lays_l33 now told kont_33 kk_33 (i_33 + 1) rs_53 fs_53 tri_53) (xMu2 (told 17) (-(told 17)) + 1) (-(told 17)) rs_33 fs_33 tri_33 := rfl
def sX9_lays (triedWith : Int32) (now : Nat → Int32) (told : Nat → Int32) (rs : Nat → Int32) (fs : Nat → Int32) (tri : Nat → Int32) : Int32 × (Nat → Int32) × (Nat → Int32) × (Nat → Int32) :=
  if triedWith = (now 5) then
    (triedWith, rs, fs, tri)
  else
    sX9_lays_l33 now told (fun (i_33 : Int32) (rs_33 : Nat → Int32) (fs_33 : Nat → Int32) (tri_33 : Nat → Int32) => (now 5, rs_33, fs_33, tri_33)) (xMu2 (told 17) (-(told 17)) + 1) (-(told 17)) rs fs tri
theorem hdX9_lays : yX9_lays.cls = RX9 ∧ yX9_lays.cls ≠ "java/lang/invoke/MethodHandle" ∧ yX9_lays.cls ≠ "java/lang/invoke/VarHandle" ∧ (parseMethodDescriptor yX9_lays.desc).map (fun d => d.parameters.length) = some 0 := by decide +kernel
set_option maxHeartbeats 4000000 in
set_option maxRecDepth 100000 in
theorem kX9_lays (l : Launch) (E : XE) (h : Nat) (thrown : Int32) (nw : Nat) (td : Nat) (tx : Nat) (length : Int32) (textSize : Int32) (start : Int32) (next : Int32) (token : Int32) (value : Int32) (error : Int32) (errorAt : Int32) (seen : Int32) (triedWith : Int32) (rr : Nat) (ss : Nat) (tr : Nat) (wa : Nat) (undos : Int32) (ud : Nat) (sl : Nat) (sv : Nat) (now : Nat → Int32) (told : Nat → Int32) (rs : Nat → Int32) (fs : Nat → Int32) (tri : Nat → Int32) (hc3 : told 17 ≤ 3) (hc0 : 0 ≤ told 17) : xW (T := Int32 × (Nat → Int32) × (Nat → Int32) × (Nat → Int32)) l yX9_lays wsX9_lays ({ frames := 5, cells := 0, slots := 0, locals := 118 }) E [(h, .inr (9, [.int thrown, .ref nw, .ref td, .ref tx, .int length, .int textSize, .int start, .int next, .int token, .int value, .int error, .int errorAt, .int seen, .int triedWith, .ref rr, .ref ss, .ref tr, .ref wa, .int undos, .ref ud, .ref sl, .ref sv])), (nw, .inl (E.2.1, 214, .inl now)), (td, .inl (E.2.1, 48, .inl told)), (rr, .inl (E.2.1, 49, .inl rs)), (ss, .inl (E.2.1, 49, .inl fs)), (tr, .inl (E.2.1, 14, .inl tri))] [.ref h] (fun _ => none) (fun q => [(h, .inr (9, [.int thrown, .ref nw, .ref td, .ref tx, .int length, .int textSize, .int start, .int next, .int token, .int value, .int error, .int errorAt, .int seen, .int q.1, .ref rr, .ref ss, .ref tr, .ref wa, .int undos, .ref ud, .ref sl, .ref sv])), (nw, .inl (E.2.1, 214, .inl now)), (td, .inl (E.2.1, 48, .inl told)), (rr, .inl (E.2.1, 49, .inl q.2.1)), (ss, .inl (E.2.1, 49, .inl q.2.2.1)), (tr, .inl (E.2.1, 14, .inl q.2.2.2))]) (sX9_lays triedWith now told rs fs tri) 0 0 := by
  refine xW.of (cc := cX9_lays) (maxL := 3) (ret := none) (by decide) rfl (Nat.le_of_ble_eq_true rfl) ?_
  intro p e s m args below meth c ls A hM hE hP hD hS hA hl
  obtain ⟨hx, hb, hr, hml, hts, hown, hlk, hnm⟩ := hM
  have g_1 : (Cond.fieldLink RX9 166 "RailPendulumModel" "triedWith" "I").before args s = true := hts (Cond.fieldLink RX9 166 "RailPendulumModel" "triedWith" "I") (by decide +kernel)
  have g_2 : ∀ w ∈ wsX90, w ∈ wsX9_lays := by decide +kernel
  have g_3 : (Cond.fieldLink RX9 7 "RailPendulumModel" "now" "[I").before args s = true := hts (Cond.fieldLink RX9 7 "RailPendulumModel" "now" "[I") (by decide +kernel)
  have g_4 : (Cond.fieldLink RX9 13 "RailPendulumModel" "told" "[I").before args s = true := hts (Cond.fieldLink RX9 13 "RailPendulumModel" "told" "[I") (by decide +kernel)
  have hX : xD A [h, nw, td, rr, ss, tr] := xD.of hD rfl
  have hl : lv_has ls 3 [(0, .ref h)] := hl
  refine lv_aload_n hx hb dX9_lays_0 rfl (lv_at hl 0 rfl) ?_
  refine va_get (D := E.1) (ci := 9) (v := .int triedWith) (C := RX9) (T := TX9) (N := 22) hx hb hts g_2 hown hE.1 hP 0 rfl rfl 13 (by decide) g_1 (fun _ h9 => h9) rfl dX9_lays_1 ?_
  refine lv_aload_n hx hb dX9_lays_4 rfl (lv_at hl 0 rfl) ?_
  refine va_get (D := E.1) (ci := 9) (v := .ref nw) (C := RX9) (T := TX9) (N := 22) hx hb hts g_2 hown hE.1 hP 0 rfl rfl 1 (by decide) g_3 (fun _ h9 => h9) rfl dX9_lays_5 ?_
  refine lv_iconst (v := 5) hx hb dX9_lays_8 (by decide) ?_
  refine x_iald hx hb hE.1 hP 1 0 rfl rfl 5 (by decide) (by unfold vp_in; decide) dX9_lays_9 ?_
  refine lv_icmp_ne (tgt := 14) hx hb dX9_lays_10 (by decide) (fun c_1 => ?_) (fun c_1 => ?_)
  · refine lv_aload_n hx hb dX9_lays_14 rfl (lv_at hl 0 rfl) ?_
    refine lv_aload_n hx hb dX9_lays_15 rfl (lv_at hl 0 rfl) ?_
    refine va_get (D := E.1) (ci := 9) (v := .ref nw) (C := RX9) (T := TX9) (N := 22) hx hb hts g_2 hown hE.1 hP 0 rfl rfl 1 (by decide) g_3 (fun _ h9 => h9) rfl dX9_lays_16 ?_
    refine lv_iconst (v := 5) hx hb dX9_lays_19 (by decide) ?_
    refine x_iald hx hb hE.1 hP 1 0 rfl rfl 5 (by decide) (by unfold vp_in; decide) dX9_lays_20 ?_
    refine va_put (D := E.1) (ci := 9) (v := .int (now 5)) (ty := .int) (C := RX9) (T := TX9) (N := 22) hx hb hts g_2 tyX9 tyX9_ok nmX9 hown hE.1 hP (hX.d rfl) hS 0 rfl rfl 13 (by decide) g_1 (fun _ h9 => h9) rfl (by decide +kernel) rfl rfl (Nat.le_of_ble_eq_true rfl) dX9_lays_21 (fun H locs hP _ hS => ?_)
    have hP : va_P E.1 vwCl [(h, .inr (9, [.int thrown, .ref nw, .ref td, .ref tx, .int length, .int textSize, .int start, .int next, .int token, .int value, .int error, .int errorAt, .int seen, .int (now 5), .ref rr, .ref ss, .ref tr, .ref wa, .int undos, .ref ud, .ref sl, .ref sv])), (nw, .inl (E.2.1, 214, .inl now)), (td, .inl (E.2.1, 48, .inl told)), (rr, .inl (E.2.1, 49, .inl rs)), (ss, .inl (E.2.1, 49, .inl fs)), (tr, .inl (E.2.1, 14, .inl tri))] H := hP
    refine lv_aload_n hx hb dX9_lays_24 rfl (lv_at hl 0 rfl) ?_
    refine va_get (D := E.1) (ci := 9) (v := .ref td) (C := RX9) (T := TX9) (N := 22) hx hb hts g_2 hown hE.1 hP 0 rfl rfl 2 (by decide) g_4 (fun _ h9 => h9) rfl dX9_lays_25 ?_
    refine lv_bipush (v := 17) hx hb dX9_lays_28 (by decide) ?_
    refine x_iald hx hb hE.1 hP 2 0 rfl rfl 17 (by decide) (by unfold vp_in; decide) dX9_lays_30 ?_
    refine lv_ineg hx hb dX9_lays_31 ?_
    refine lv_istore_n (lv' := [(1, .int (-(told 17))), (0, .ref h)]) hx hb dX9_lays_32 rfl hl (by decide) rfl (fun ls hl => ?_)
    have ex_33 : ∀ (i_33 : Int32) (rs_33 : Nat → Int32) (fs_33 : Nat → Int32) (tri_33 : Nat → Int32), (-(told 17) ≤ i_33) → ∀ (H : Heap) (locs : List Loc), va_P E.1 vwCl [(h, .inr (9, [.int thrown, .ref nw, .ref td, .ref tx, .int length, .int textSize, .int start, .int next, .int token, .int value, .int error, .int errorAt, .int seen, .int (now 5), .ref rr, .ref ss, .ref tr, .ref wa, .int undos, .ref ud, .ref sl, .ref sv])), (nw, .inl (E.2.1, 214, .inl now)), (td, .inl (E.2.1, 48, .inl told)), (rr, .inl (E.2.1, 49, .inl rs_33)), (ss, .inl (E.2.1, 49, .inl fs_33)), (tr, .inl (E.2.1, 14, .inl tri_33))] H → va_S A s.heap H locs → ∀ (ls : Array Slot), lv_has ls 3 [(0, .ref h), (1, .int i_33)] → (sX9_lays triedWith now told rs fs tri) = ((now 5, rs_33, fs_33, tri_33)) → W p l e ({ frames := 5, cells := 0, slots := 0, locals := 118 }) s m args below meth c H locs 0 0 (MQ below (xO (T := Int32 × (Nat → Int32) × (Nat → Int32) × (Nat → Int32)) E A (fun _ => none) (fun q => [(h, .inr (9, [.int thrown, .ref nw, .ref td, .ref tx, .int length, .int textSize, .int start, .int next, .int token, .int value, .int error, .int errorAt, .int seen, .int q.1, .ref rr, .ref ss, .ref tr, .ref wa, .int undos, .ref ud, .ref sl, .ref sv])), (nw, .inl (E.2.1, 214, .inl now)), (td, .inl (E.2.1, 48, .inl told)), (rr, .inl (E.2.1, 49, .inl q.2.1)), (ss, .inl (E.2.1, 49, .inl q.2.2.1)), (tr, .inl (E.2.1, 14, .inl q.2.2.2))]) (sX9_lays triedWith now told rs fs tri)) args s 0 0 A) (F0 m 82 ls []) := by
      intro i_33 rs_33 fs_33 tri_33 hlo_33 H locs hP hS ls hl hx_33
      exact x_wv (now 5, rs_33, fs_33, tri_33) (by rw [hx_33]; try rfl) rfl hx hb hr hlk hS hP (hX.d rfl) [0, 1, 2, 3, 4, 5] rfl rfl (Nat.le_of_ble_eq_true rfl) (Nat.le_of_ble_eq_true rfl) dX9_lays_82
    have lp_33 : ∀ (kk_33 : Nat), ∀ (i_33 : Int32) (rs_33 : Nat → Int32) (fs_33 : Nat → Int32) (tri_33 : Nat → Int32), (-(told 17) ≤ i_33) → (xMu2 (told 17) i_33) < kk_33 → ∀ (H : Heap) (locs : List Loc), va_P E.1 vwCl [(h, .inr (9, [.int thrown, .ref nw, .ref td, .ref tx, .int length, .int textSize, .int start, .int next, .int token, .int value, .int error, .int errorAt, .int seen, .int (now 5), .ref rr, .ref ss, .ref tr, .ref wa, .int undos, .ref ud, .ref sl, .ref sv])), (nw, .inl (E.2.1, 214, .inl now)), (td, .inl (E.2.1, 48, .inl told)), (rr, .inl (E.2.1, 49, .inl rs_33)), (ss, .inl (E.2.1, 49, .inl fs_33)), (tr, .inl (E.2.1, 14, .inl tri_33))] H → va_S A s.heap H locs → ∀ (ls : Array Slot), lv_has ls 3 [(0, .ref h), (1, .int i_33)] → (sX9_lays triedWith now told rs fs tri) = sX9_lays_l33 now told (fun (i_33 : Int32) (rs_33 : Nat → Int32) (fs_33 : Nat → Int32) (tri_33 : Nat → Int32) => (now 5, rs_33, fs_33, tri_33)) kk_33 i_33 rs_33 fs_33 tri_33 → W p l e ({ frames := 5, cells := 0, slots := 0, locals := 118 }) s m args below meth c H locs 0 0 (MQ below (xO (T := Int32 × (Nat → Int32) × (Nat → Int32) × (Nat → Int32)) E A (fun _ => none) (fun q => [(h, .inr (9, [.int thrown, .ref nw, .ref td, .ref tx, .int length, .int textSize, .int start, .int next, .int token, .int value, .int error, .int errorAt, .int seen, .int q.1, .ref rr, .ref ss, .ref tr, .ref wa, .int undos, .ref ud, .ref sl, .ref sv])), (nw, .inl (E.2.1, 214, .inl now)), (td, .inl (E.2.1, 48, .inl told)), (rr, .inl (E.2.1, 49, .inl q.2.1)), (ss, .inl (E.2.1, 49, .inl q.2.2.1)), (tr, .inl (E.2.1, 14, .inl q.2.2.2))]) (sX9_lays triedWith now told rs fs tri)) args s 0 0 A) (F0 m 33 ls []) := by
      intro kk_33
      induction kk_33 with
      | zero =>
        intro i_33 rs_33 fs_33 tri_33 hlo_33 hmu
        exact absurd hmu (Nat.not_lt_zero _)
      | succ kk_33 ih_33 =>
        intro i_33 rs_33 fs_33 tri_33 hlo_33 hmu H locs hP hS ls hl hlq_33
        refine lv_iload_n hx hb dX9_lays_33 rfl (lv_at hl 1 rfl) ?_
        refine lv_aload_n hx hb dX9_lays_34 rfl (lv_at hl 0 rfl) ?_
        refine va_get (D := E.1) (ci := 9) (v := .ref td) (C := RX9) (T := TX9) (N := 22) hx hb hts g_2 hown hE.1 hP 0 rfl rfl 2 (by decide) g_4 (fun _ h9 => h9) rfl dX9_lays_35 ?_
        refine lv_bipush (v := 17) hx hb dX9_lays_38 (by decide) ?_
        refine x_iald hx hb hE.1 hP 2 0 rfl rfl 17 (by decide) (by unfold vp_in; decide) dX9_lays_40 ?_
        refine lv_icmp_gt (tgt := 82) hx hb dX9_lays_41 (by decide) (fun c_2 => ?_) (fun c_2 => ?_)
        · exact ex_33 i_33 rs_33 fs_33 tri_33 hlo_33 _ _ hP hS ls (lv_sub hl [0, 1] rfl) (by rw [hlq_33]; rw [sX9_lays_l33_s]; rw [if_pos c_2]; try rfl)
        · refine lv_aload_n hx hb dX9_lays_44 rfl (lv_at hl 0 rfl) ?_
          refine va_get (D := E.1) (ci := 9) (v := .ref td) (C := RX9) (T := TX9) (N := 22) hx hb hts g_2 hown hE.1 hP 0 rfl rfl 2 (by decide) g_4 (fun _ h9 => h9) rfl dX9_lays_45 ?_
          refine lv_bipush (v := 17) hx hb dX9_lays_48 (by decide) ?_
          refine x_iald hx hb hE.1 hP 2 0 rfl rfl 17 (by decide) (by unfold vp_in; decide) dX9_lays_50 ?_
          refine lv_ineg hx hb dX9_lays_51 ?_
          refine lv_istore_n (lv' := [(2, .int (-(told 17))), (0, .ref h), (1, .int i_33)]) hx hb dX9_lays_52 rfl hl (by decide) rfl (fun ls hl => ?_)
          have ex_53 : ∀ (j_53 : Int32) (rs_53 : Nat → Int32) (fs_53 : Nat → Int32) (tri_53 : Nat → Int32), (-(told 17) ≤ j_53) → ∀ (H : Heap) (locs : List Loc), va_P E.1 vwCl [(h, .inr (9, [.int thrown, .ref nw, .ref td, .ref tx, .int length, .int textSize, .int start, .int next, .int token, .int value, .int error, .int errorAt, .int seen, .int (now 5), .ref rr, .ref ss, .ref tr, .ref wa, .int undos, .ref ud, .ref sl, .ref sv])), (nw, .inl (E.2.1, 214, .inl now)), (td, .inl (E.2.1, 48, .inl told)), (rr, .inl (E.2.1, 49, .inl rs_53)), (ss, .inl (E.2.1, 49, .inl fs_53)), (tr, .inl (E.2.1, 14, .inl tri_53))] H → va_S A s.heap H locs → ∀ (ls : Array Slot), lv_has ls 3 [(0, .ref h), (1, .int i_33), (2, .int j_53)] → (sX9_lays triedWith now told rs fs tri) = (sX9_lays_l33 now told (fun (i_33 : Int32) (rs_33 : Nat → Int32) (fs_33 : Nat → Int32) (tri_33 : Nat → Int32) => (now 5, rs_33, fs_33, tri_33)) kk_33 (i_33 + 1) rs_53 fs_53 tri_53) → W p l e ({ frames := 5, cells := 0, slots := 0, locals := 118 }) s m args below meth c H locs 0 0 (MQ below (xO (T := Int32 × (Nat → Int32) × (Nat → Int32) × (Nat → Int32)) E A (fun _ => none) (fun q => [(h, .inr (9, [.int thrown, .ref nw, .ref td, .ref tx, .int length, .int textSize, .int start, .int next, .int token, .int value, .int error, .int errorAt, .int seen, .int q.1, .ref rr, .ref ss, .ref tr, .ref wa, .int undos, .ref ud, .ref sl, .ref sv])), (nw, .inl (E.2.1, 214, .inl now)), (td, .inl (E.2.1, 48, .inl told)), (rr, .inl (E.2.1, 49, .inl q.2.1)), (ss, .inl (E.2.1, 49, .inl q.2.2.1)), (tr, .inl (E.2.1, 14, .inl q.2.2.2))]) (sX9_lays triedWith now told rs fs tri)) args s 0 0 A) (F0 m 76 ls []) := by
            intro j_53 rs_53 fs_53 tri_53 hlo_53 H locs hP hS ls hl hx_53
            refine lv_iinc (v := i_33 + 1) (lv' := [(1, .int (i_33 + 1)), (0, .ref h), (2, .int j_53)]) hx hb dX9_lays_76 hl (k := 1) rfl (by rfl) (by decide) rfl (fun ls hl => ?_)
            refine lv_goto (tgt := 33) hx hb dX9_lays_79 (by decide) ?_
            exact ih_33 (i_33 + 1) rs_53 fs_53 tri_53 (x_step2 hlo_33 c_2 hc3 hc0) (x_mu2 hlo_33 c_2 hc3 hc0 hmu) _ _ hP hS ls (lv_sub hl [1, 0] rfl) (by rw [hx_53]; try rfl)
          have lp_53 : ∀ (kk_53 : Nat), ∀ (j_53 : Int32) (rs_53 : Nat → Int32) (fs_53 : Nat → Int32) (tri_53 : Nat → Int32), (-(told 17) ≤ j_53) → (xMu2 (told 17) j_53) < kk_53 → ∀ (H : Heap) (locs : List Loc), va_P E.1 vwCl [(h, .inr (9, [.int thrown, .ref nw, .ref td, .ref tx, .int length, .int textSize, .int start, .int next, .int token, .int value, .int error, .int errorAt, .int seen, .int (now 5), .ref rr, .ref ss, .ref tr, .ref wa, .int undos, .ref ud, .ref sl, .ref sv])), (nw, .inl (E.2.1, 214, .inl now)), (td, .inl (E.2.1, 48, .inl told)), (rr, .inl (E.2.1, 49, .inl rs_53)), (ss, .inl (E.2.1, 49, .inl fs_53)), (tr, .inl (E.2.1, 14, .inl tri_53))] H → va_S A s.heap H locs → ∀ (ls : Array Slot), lv_has ls 3 [(0, .ref h), (1, .int i_33), (2, .int j_53)] → (sX9_lays triedWith now told rs fs tri) = sX9_lays_l53 now told i_33 (fun (j_53 : Int32) (rs_53 : Nat → Int32) (fs_53 : Nat → Int32) (tri_53 : Nat → Int32) => sX9_lays_l33 now told (fun (i_33 : Int32) (rs_33 : Nat → Int32) (fs_33 : Nat → Int32) (tri_33 : Nat → Int32) => (now 5, rs_33, fs_33, tri_33)) kk_33 (i_33 + 1) rs_53 fs_53 tri_53) kk_53 j_53 rs_53 fs_53 tri_53 → W p l e ({ frames := 5, cells := 0, slots := 0, locals := 118 }) s m args below meth c H locs 0 0 (MQ below (xO (T := Int32 × (Nat → Int32) × (Nat → Int32) × (Nat → Int32)) E A (fun _ => none) (fun q => [(h, .inr (9, [.int thrown, .ref nw, .ref td, .ref tx, .int length, .int textSize, .int start, .int next, .int token, .int value, .int error, .int errorAt, .int seen, .int q.1, .ref rr, .ref ss, .ref tr, .ref wa, .int undos, .ref ud, .ref sl, .ref sv])), (nw, .inl (E.2.1, 214, .inl now)), (td, .inl (E.2.1, 48, .inl told)), (rr, .inl (E.2.1, 49, .inl q.2.1)), (ss, .inl (E.2.1, 49, .inl q.2.2.1)), (tr, .inl (E.2.1, 14, .inl q.2.2.2))]) (sX9_lays triedWith now told rs fs tri)) args s 0 0 A) (F0 m 53 ls []) := by
            intro kk_53
            induction kk_53 with
            | zero =>
              intro j_53 rs_53 fs_53 tri_53 hlo_53 hmu
              exact absurd hmu (Nat.not_lt_zero _)
            | succ kk_53 ih_53 =>
              intro j_53 rs_53 fs_53 tri_53 hlo_53 hmu H locs hP hS ls hl hlq_53
              refine lv_iload_n hx hb dX9_lays_53 rfl (lv_at hl 2 rfl) ?_
              refine lv_aload_n hx hb dX9_lays_54 rfl (lv_at hl 0 rfl) ?_
              refine va_get (D := E.1) (ci := 9) (v := .ref td) (C := RX9) (T := TX9) (N := 22) hx hb hts g_2 hown hE.1 hP 0 rfl rfl 2 (by decide) g_4 (fun _ h9 => h9) rfl dX9_lays_55 ?_
              refine lv_bipush (v := 17) hx hb dX9_lays_58 (by decide) ?_
              refine x_iald hx hb hE.1 hP 2 0 rfl rfl 17 (by decide) (by unfold vp_in; decide) dX9_lays_60 ?_
              refine lv_icmp_gt (tgt := 76) hx hb dX9_lays_61 (by decide) (fun c_3 => ?_) (fun c_3 => ?_)
              · exact ex_53 j_53 rs_53 fs_53 tri_53 hlo_53 _ _ hP hS ls (lv_sub hl [0, 1, 2] rfl) (by rw [hlq_53]; rw [sX9_lays_l53_s]; rw [if_pos c_3]; try rfl)
              · refine lv_aload_n hx hb dX9_lays_64 rfl (lv_at hl 0 rfl) ?_
                refine lv_iload_n hx hb dX9_lays_65 rfl (lv_at hl 1 rfl) ?_
                refine lv_iload_n hx hb dX9_lays_66 rfl (lv_at hl 2 rfl) ?_
                refine x_wV (wr := []) [.int i_33, .int j_53] (kX9_tries l E h thrown nw td tx length textSize start next token value error errorAt seen (now 5) rr ss tr wa undos ud sl sv now told rs_53 fs_53 tri_53 i_33 j_53 (x_cell_in hlo_33 c_2 hlo_53 c_3 hc3 hc0)) ⟨hx, hb, hml, hown, hts⟩ (cwV 2 hts gX9_lays_X9_tries rfl rfl rfl hdX9_tries ⟨Nat.le_of_ble_eq_true rfl, Nat.le_of_ble_eq_true rfl⟩) hE hP (hX.d rfl) hS hA [0, 1, 2, 3, 4, 5] [] rfl rfl rfl rfl (by decide) (ci := 9) (q0 := 0) rfl rfl rfl hl.1 rfl rfl (Nat.le_of_ble_eq_true rfl) dX9_lays_67 (Nat.le_of_ble_eq_true rfl) (Nat.le_of_ble_eq_true rfl) (fun q_4 H locs hq_4 hP hD hS => ?_)
                subst hq_4
                have hP : va_P E.1 vwCl [(h, .inr (9, [.int thrown, .ref nw, .ref td, .ref tx, .int length, .int textSize, .int start, .int next, .int token, .int value, .int error, .int errorAt, .int seen, .int (now 5), .ref rr, .ref ss, .ref tr, .ref wa, .int undos, .ref ud, .ref sl, .ref sv])), (nw, .inl (E.2.1, 214, .inl now)), (td, .inl (E.2.1, 48, .inl told)), (rr, .inl (E.2.1, 49, .inl ((sX9_tries now told rs_53 fs_53 tri_53 i_33 j_53).1))), (ss, .inl (E.2.1, 49, .inl ((sX9_tries now told rs_53 fs_53 tri_53 i_33 j_53).2.1))), (tr, .inl (E.2.1, 14, .inl ((sX9_tries now told rs_53 fs_53 tri_53 i_33 j_53).2.2)))] H := hP
                have hX : xD A [h, nw, td, rr, ss, tr] := xD.of hD rfl
                refine W.eq (g2 := F0 m 70 ls []) rfl ?_
                refine lv_iinc (v := j_53 + 1) (lv' := [(2, .int (j_53 + 1)), (0, .ref h), (1, .int i_33)]) hx hb dX9_lays_70 hl (k := 2) rfl (by rfl) (by decide) rfl (fun ls hl => ?_)
                refine lv_goto (tgt := 53) hx hb dX9_lays_73 (by decide) ?_
                exact ih_53 (j_53 + 1) ((sX9_tries now told rs_53 fs_53 tri_53 i_33 j_53).1) ((sX9_tries now told rs_53 fs_53 tri_53 i_33 j_53).2.1) ((sX9_tries now told rs_53 fs_53 tri_53 i_33 j_53).2.2) (x_step2 hlo_53 c_3 hc3 hc0) (x_mu2 hlo_53 c_3 hc3 hc0 hmu) _ _ hP hS ls (lv_sub hl [1, 2, 0] rfl) (by rw [hlq_53]; rw [sX9_lays_l53_s]; rw [if_neg c_3]; try rfl)
          exact lp_53 (xMu2 (told 17) (-(told 17)) + 1) (-(told 17)) rs_33 fs_33 tri_33 (Int32.le_refl _) (Nat.lt_succ_self _) _ _ hP hS ls (lv_sub hl [1, 2, 0] rfl) (by rw [hlq_33]; rw [sX9_lays_l33_s]; rw [if_neg c_2]; try rfl)
    exact lp_33 (xMu2 (told 17) (-(told 17)) + 1) (-(told 17)) rs fs tri (Int32.le_refl _) (Nat.lt_succ_self _) _ _ hP hS ls (lv_sub hl [1, 0] rfl) (by unfold sX9_lays; rw [if_neg c_1]; try rfl)
  · exact x_wv (triedWith, rs, fs, tri) (by unfold sX9_lays; rw [if_pos c_1]; try rfl) rfl hx hb hr hlk hS hP (hX.d rfl) [0, 1, 2, 3, 4, 5] rfl rfl (Nat.le_of_ble_eq_true rfl) (Nat.le_of_ble_eq_true rfl) dX9_lays_13
def sX9_cells_l36 (told : Nat → Int32) (reason : Int32) (i_15 : Int32) (q_1 : Int32 × (Nat → Int32) × (Nat → Int32) × (Nat → Int32)) (kont_36 : Int32 → Int32 → Int32 × Int32 × (Nat → Int32) × (Nat → Int32) × (Nat → Int32)) : Nat → Int32 → Int32 → Int32 × Int32 × (Nat → Int32) × (Nat → Int32) × (Nat → Int32)
  | 0, j_36, n_36 => kont_36 j_36 n_36
  | kk_36 + 1, j_36, n_36 =>
    if (told 17) < j_36 then
      kont_36 j_36 n_36
    else
      if (q_1.2.1 ((sX9_cell i_15 j_36).toNatClampNeg)) = reason then
        sX9_cells_l36 told reason i_15 q_1 kont_36 kk_36 (j_36 + 1) (n_36 + 1)
      else
        sX9_cells_l36 told reason i_15 q_1 kont_36 kk_36 (j_36 + 1) (n_36 + 0)
theorem sX9_cells_l36_s (told : Nat → Int32) (reason : Int32) (i_15 : Int32) (q_1 : Int32 × (Nat → Int32) × (Nat → Int32) × (Nat → Int32)) (kont_36 : Int32 → Int32 → Int32 × Int32 × (Nat → Int32) × (Nat → Int32) × (Nat → Int32)) (kk_36 : Nat) (j_36 : Int32) (n_36 : Int32) : sX9_cells_l36 told reason i_15 q_1 kont_36 (kk_36 + 1) j_36 n_36 =
    if (told 17) < j_36 then
      kont_36 j_36 n_36
    else
      if (q_1.2.1 ((sX9_cell i_15 j_36).toNatClampNeg)) = reason then
        sX9_cells_l36 told reason i_15 q_1 kont_36 kk_36 (j_36 + 1) (n_36 + 1)
      else
        sX9_cells_l36 told reason i_15 q_1 kont_36 kk_36 (j_36 + 1) (n_36 + 0) := rfl
def sX9_cells_l15 (told : Nat → Int32) (reason : Int32) (q_1 : Int32 × (Nat → Int32) × (Nat → Int32) × (Nat → Int32)) (kont_15 : Int32 → Int32 → Int32 × Int32 × (Nat → Int32) × (Nat → Int32) × (Nat → Int32)) : Nat → Int32 → Int32 → Int32 × Int32 × (Nat → Int32) × (Nat → Int32) × (Nat → Int32)
  | 0, i_15, n_15 => kont_15 i_15 n_15
  | kk_15 + 1, i_15, n_15 =>
    if (told 17) < i_15 then
      kont_15 i_15 n_15
    else
      sX9_cells_l36 told reason i_15 q_1 (fun (j_36 : Int32) (n_36 : Int32) => sX9_cells_l15 told reason q_1 kont_15 kk_15 (i_15 + 1) n_36) (xMu2 (told 17) (-(told 17)) + 1) (-(told 17)) n_15
theorem sX9_cells_l15_s (told : Nat → Int32) (reason : Int32) (q_1 : Int32 × (Nat → Int32) × (Nat → Int32) × (Nat → Int32)) (kont_15 : Int32 → Int32 → Int32 × Int32 × (Nat → Int32) × (Nat → Int32) × (Nat → Int32)) (kk_15 : Nat) (i_15 : Int32) (n_15 : Int32) : sX9_cells_l15 told reason q_1 kont_15 (kk_15 + 1) i_15 n_15 =
    if (told 17) < i_15 then
      kont_15 i_15 n_15
    else
      sX9_cells_l36 told reason i_15 q_1 (fun (j_36 : Int32) (n_36 : Int32) => sX9_cells_l15 told reason q_1 kont_15 kk_15 (i_15 + 1) n_36) (xMu2 (told 17) (-(told 17)) + 1) (-(told 17)) n_15 := rfl
def sX9_cells_q_1 (triedWith : Int32) (now : Nat → Int32) (told : Nat → Int32) (rs : Nat → Int32) (fs : Nat → Int32) (tri : Nat → Int32) (reason : Int32) (q_1 : Int32 × (Nat → Int32) × (Nat → Int32) × (Nat → Int32)) : Int32 × Int32 × (Nat → Int32) × (Nat → Int32) × (Nat → Int32) :=
  sX9_cells_l15 told reason q_1 (fun (i_15 : Int32) (n_15 : Int32) => (n_15, q_1.1, q_1.2.1, q_1.2.2.1, q_1.2.2.2)) (xMu2 (told 17) (-(told 17)) + 1) (-(told 17)) 0
def sX9_cells (triedWith : Int32) (now : Nat → Int32) (told : Nat → Int32) (rs : Nat → Int32) (fs : Nat → Int32) (tri : Nat → Int32) (reason : Int32) : Int32 × Int32 × (Nat → Int32) × (Nat → Int32) × (Nat → Int32) :=
  sX9_cells_q_1 triedWith now told rs fs tri reason (sX9_lays triedWith now told rs fs tri)
theorem hdX9_cells : yX9_cells.cls = RX9 ∧ yX9_cells.cls ≠ "java/lang/invoke/MethodHandle" ∧ yX9_cells.cls ≠ "java/lang/invoke/VarHandle" ∧ (parseMethodDescriptor yX9_cells.desc).map (fun d => d.parameters.length) = some 1 := by decide +kernel
set_option maxHeartbeats 4000000 in
set_option maxRecDepth 100000 in
theorem kX9_cells (l : Launch) (E : XE) (h : Nat) (thrown : Int32) (nw : Nat) (td : Nat) (tx : Nat) (length : Int32) (textSize : Int32) (start : Int32) (next : Int32) (token : Int32) (value : Int32) (error : Int32) (errorAt : Int32) (seen : Int32) (triedWith : Int32) (rr : Nat) (ss : Nat) (tr : Nat) (wa : Nat) (undos : Int32) (ud : Nat) (sl : Nat) (sv : Nat) (now : Nat → Int32) (told : Nat → Int32) (rs : Nat → Int32) (fs : Nat → Int32) (tri : Nat → Int32) (reason : Int32) (hc3 : told 17 ≤ 3) (hc0 : 0 ≤ told 17) : xW (T := Int32 × Int32 × (Nat → Int32) × (Nat → Int32) × (Nat → Int32)) l yX9_cells wsX9_cells ({ frames := 6, cells := 0, slots := 0, locals := 140 }) E [(h, .inr (9, [.int thrown, .ref nw, .ref td, .ref tx, .int length, .int textSize, .int start, .int next, .int token, .int value, .int error, .int errorAt, .int seen, .int triedWith, .ref rr, .ref ss, .ref tr, .ref wa, .int undos, .ref ud, .ref sl, .ref sv])), (nw, .inl (E.2.1, 214, .inl now)), (td, .inl (E.2.1, 48, .inl told)), (rr, .inl (E.2.1, 49, .inl rs)), (ss, .inl (E.2.1, 49, .inl fs)), (tr, .inl (E.2.1, 14, .inl tri))] [.ref h, .int reason] (fun q => some (.int q.1)) (fun q => [(h, .inr (9, [.int thrown, .ref nw, .ref td, .ref tx, .int length, .int textSize, .int start, .int next, .int token, .int value, .int error, .int errorAt, .int seen, .int q.2.1, .ref rr, .ref ss, .ref tr, .ref wa, .int undos, .ref ud, .ref sl, .ref sv])), (nw, .inl (E.2.1, 214, .inl now)), (td, .inl (E.2.1, 48, .inl told)), (rr, .inl (E.2.1, 49, .inl q.2.2.1)), (ss, .inl (E.2.1, 49, .inl q.2.2.2.1)), (tr, .inl (E.2.1, 14, .inl q.2.2.2.2))]) (sX9_cells triedWith now told rs fs tri reason) 0 0 := by
  refine xW.of (cc := cX9_cells) (maxL := 5) (ret := (some .int)) (by decide) rfl (Nat.le_of_ble_eq_true rfl) ?_
  intro p e s m args below meth c ls A hM hE hP hD hS hA hl
  obtain ⟨hx, hb, hr, hml, hts, hown, hlk, hnm⟩ := hM
  have g_1 : (Cond.fieldLink RX9 13 "RailPendulumModel" "told" "[I").before args s = true := hts (Cond.fieldLink RX9 13 "RailPendulumModel" "told" "[I") (by decide +kernel)
  have g_2 : ∀ w ∈ wsX90, w ∈ wsX9_cells := by decide +kernel
  have g_3 : (Cond.fieldLink RX9 24 "RailPendulumModel" "reasons" "[I").before args s = true := hts (Cond.fieldLink RX9 24 "RailPendulumModel" "reasons" "[I") (by decide +kernel)
  have hX : xD A [h, nw, td, rr, ss, tr] := xD.of hD rfl
  have hl : lv_has ls 5 [(0, .ref h), (1, .int reason)] := hl
  refine lv_aload_n hx hb dX9_cells_0 rfl (lv_at hl 0 rfl) ?_
  refine x_wV (wr := []) [] (kX9_lays l E h thrown nw td tx length textSize start next token value error errorAt seen triedWith rr ss tr wa undos ud sl sv now told rs fs tri hc3 hc0) ⟨hx, hb, hml, hown, hts⟩ (cwV 0 hts gX9_cells_X9_lays rfl rfl rfl hdX9_lays ⟨Nat.le_of_ble_eq_true rfl, Nat.le_of_ble_eq_true rfl⟩) hE hP (hX.d rfl) hS hA [0, 1, 2, 3, 4, 5] [] rfl rfl rfl rfl (by decide) (ci := 9) (q0 := 0) rfl rfl rfl hl.1 rfl rfl (Nat.le_of_ble_eq_true rfl) dX9_cells_1 (Nat.le_of_ble_eq_true rfl) (Nat.le_of_ble_eq_true rfl) (fun q_1 H locs hq_1 hP hD hS => ?_)
  have hP : va_P E.1 vwCl [(h, .inr (9, [.int thrown, .ref nw, .ref td, .ref tx, .int length, .int textSize, .int start, .int next, .int token, .int value, .int error, .int errorAt, .int seen, .int q_1.1, .ref rr, .ref ss, .ref tr, .ref wa, .int undos, .ref ud, .ref sl, .ref sv])), (nw, .inl (E.2.1, 214, .inl now)), (td, .inl (E.2.1, 48, .inl told)), (rr, .inl (E.2.1, 49, .inl q_1.2.1)), (ss, .inl (E.2.1, 49, .inl q_1.2.2.1)), (tr, .inl (E.2.1, 14, .inl q_1.2.2.2))] H := hP
  have hX : xD A [h, nw, td, rr, ss, tr] := xD.of hD rfl
  refine W.eq (g2 := F0 m 4 ls []) rfl ?_
  refine lv_iconst (v := 0) hx hb dX9_cells_4 (by decide) ?_
  refine lv_istore_n (lv' := [(2, .int 0), (0, .ref h), (1, .int reason)]) hx hb dX9_cells_5 rfl hl (by decide) rfl (fun ls hl => ?_)
  refine lv_aload_n hx hb dX9_cells_6 rfl (lv_at hl 1 rfl) ?_
  refine va_get (D := E.1) (ci := 9) (v := .ref td) (C := RX9) (T := TX9) (N := 22) hx hb hts g_2 hown hE.1 hP 0 rfl rfl 2 (by decide) g_1 (fun _ h9 => h9) rfl dX9_cells_7 ?_
  refine lv_bipush (v := 17) hx hb dX9_cells_10 (by decide) ?_
  refine x_iald hx hb hE.1 hP 2 0 rfl rfl 17 (by decide) (by unfold vp_in; decide) dX9_cells_12 ?_
  refine lv_ineg hx hb dX9_cells_13 ?_
  refine lv_istore_n (lv' := [(3, .int (-(told 17))), (2, .int 0), (0, .ref h), (1, .int reason)]) hx hb dX9_cells_14 rfl hl (by decide) rfl (fun ls hl => ?_)
  have ex_15 : ∀ (i_15 : Int32) (n_15 : Int32), (-(told 17) ≤ i_15) → ∀ (H : Heap) (locs : List Loc), va_P E.1 vwCl [(h, .inr (9, [.int thrown, .ref nw, .ref td, .ref tx, .int length, .int textSize, .int start, .int next, .int token, .int value, .int error, .int errorAt, .int seen, .int q_1.1, .ref rr, .ref ss, .ref tr, .ref wa, .int undos, .ref ud, .ref sl, .ref sv])), (nw, .inl (E.2.1, 214, .inl now)), (td, .inl (E.2.1, 48, .inl told)), (rr, .inl (E.2.1, 49, .inl q_1.2.1)), (ss, .inl (E.2.1, 49, .inl q_1.2.2.1)), (tr, .inl (E.2.1, 14, .inl q_1.2.2.2))] H → va_S A s.heap H locs → ∀ (ls : Array Slot), lv_has ls 5 [(0, .ref h), (1, .int reason), (2, .int n_15), (3, .int i_15)] → (sX9_cells triedWith now told rs fs tri reason) = ((n_15, q_1.1, q_1.2.1, q_1.2.2.1, q_1.2.2.2)) → W p l e ({ frames := 6, cells := 0, slots := 0, locals := 140 }) s m args below meth c H locs 0 0 (MQ below (xO (T := Int32 × Int32 × (Nat → Int32) × (Nat → Int32) × (Nat → Int32)) E A (fun q => some (.int q.1)) (fun q => [(h, .inr (9, [.int thrown, .ref nw, .ref td, .ref tx, .int length, .int textSize, .int start, .int next, .int token, .int value, .int error, .int errorAt, .int seen, .int q.2.1, .ref rr, .ref ss, .ref tr, .ref wa, .int undos, .ref ud, .ref sl, .ref sv])), (nw, .inl (E.2.1, 214, .inl now)), (td, .inl (E.2.1, 48, .inl told)), (rr, .inl (E.2.1, 49, .inl q.2.2.1)), (ss, .inl (E.2.1, 49, .inl q.2.2.2.1)), (tr, .inl (E.2.1, 14, .inl q.2.2.2.2))]) (sX9_cells triedWith now told rs fs tri reason)) args s 0 0 A) (F0 m 83 ls []) := by
    intro i_15 n_15 hlo_15 H locs hP hS ls hl hx_15
    refine lv_iload_n hx hb dX9_cells_83 rfl (lv_at hl 2 rfl) ?_
    exact x_wi (n_15, q_1.1, q_1.2.1, q_1.2.2.1, q_1.2.2.2) (by rw [hx_15]; try rfl) rfl hx hb hr hlk hS hP (hX.d rfl) [0, 1, 2, 3, 4, 5] rfl rfl (Nat.le_of_ble_eq_true rfl) (Nat.le_of_ble_eq_true rfl) dX9_cells_84
  have lp_15 : ∀ (kk_15 : Nat), ∀ (i_15 : Int32) (n_15 : Int32), (-(told 17) ≤ i_15) → (xMu2 (told 17) i_15) < kk_15 → ∀ (H : Heap) (locs : List Loc), va_P E.1 vwCl [(h, .inr (9, [.int thrown, .ref nw, .ref td, .ref tx, .int length, .int textSize, .int start, .int next, .int token, .int value, .int error, .int errorAt, .int seen, .int q_1.1, .ref rr, .ref ss, .ref tr, .ref wa, .int undos, .ref ud, .ref sl, .ref sv])), (nw, .inl (E.2.1, 214, .inl now)), (td, .inl (E.2.1, 48, .inl told)), (rr, .inl (E.2.1, 49, .inl q_1.2.1)), (ss, .inl (E.2.1, 49, .inl q_1.2.2.1)), (tr, .inl (E.2.1, 14, .inl q_1.2.2.2))] H → va_S A s.heap H locs → ∀ (ls : Array Slot), lv_has ls 5 [(0, .ref h), (1, .int reason), (2, .int n_15), (3, .int i_15)] → (sX9_cells triedWith now told rs fs tri reason) = sX9_cells_l15 told reason q_1 (fun (i_15 : Int32) (n_15 : Int32) => (n_15, q_1.1, q_1.2.1, q_1.2.2.1, q_1.2.2.2)) kk_15 i_15 n_15 → W p l e ({ frames := 6, cells := 0, slots := 0, locals := 140 }) s m args below meth c H locs 0 0 (MQ below (xO (T := Int32 × Int32 × (Nat → Int32) × (Nat → Int32) × (Nat → Int32)) E A (fun q => some (.int q.1)) (fun q => [(h, .inr (9, [.int thrown, .ref nw, .ref td, .ref tx, .int length, .int textSize, .int start, .int next, .int token, .int value, .int error, .int errorAt, .int seen, .int q.2.1, .ref rr, .ref ss, .ref tr, .ref wa, .int undos, .ref ud, .ref sl, .ref sv])), (nw, .inl (E.2.1, 214, .inl now)), (td, .inl (E.2.1, 48, .inl told)), (rr, .inl (E.2.1, 49, .inl q.2.2.1)), (ss, .inl (E.2.1, 49, .inl q.2.2.2.1)), (tr, .inl (E.2.1, 14, .inl q.2.2.2.2))]) (sX9_cells triedWith now told rs fs tri reason)) args s 0 0 A) (F0 m 15 ls []) := by
    intro kk_15
    induction kk_15 with
    | zero =>
      intro i_15 n_15 hlo_15 hmu
      exact absurd hmu (Nat.not_lt_zero _)
    | succ kk_15 ih_15 =>
      intro i_15 n_15 hlo_15 hmu H locs hP hS ls hl hlq_15
      refine lv_iload_n hx hb dX9_cells_15 rfl (lv_at hl 3 rfl) ?_
      refine lv_aload_n hx hb dX9_cells_16 rfl (lv_at hl 0 rfl) ?_
      refine va_get (D := E.1) (ci := 9) (v := .ref td) (C := RX9) (T := TX9) (N := 22) hx hb hts g_2 hown hE.1 hP 0 rfl rfl 2 (by decide) g_1 (fun _ h9 => h9) rfl dX9_cells_17 ?_
      refine lv_bipush (v := 17) hx hb dX9_cells_20 (by decide) ?_
      refine x_iald hx hb hE.1 hP 2 0 rfl rfl 17 (by decide) (by unfold vp_in; decide) dX9_cells_22 ?_
      refine lv_icmp_gt (tgt := 83) hx hb dX9_cells_23 (by decide) (fun c_2 => ?_) (fun c_2 => ?_)
      · exact ex_15 i_15 n_15 hlo_15 _ _ hP hS ls (lv_sub hl [0, 1, 2, 3] rfl) (by rw [hlq_15]; rw [sX9_cells_l15_s]; rw [if_pos c_2]; try rfl)
      · refine lv_aload_n hx hb dX9_cells_26 rfl (lv_at hl 0 rfl) ?_
        refine va_get (D := E.1) (ci := 9) (v := .ref td) (C := RX9) (T := TX9) (N := 22) hx hb hts g_2 hown hE.1 hP 0 rfl rfl 2 (by decide) g_1 (fun _ h9 => h9) rfl dX9_cells_27 ?_
        refine lv_bipush (v := 17) hx hb dX9_cells_30 (by decide) ?_
        refine x_iald hx hb hE.1 hP 2 0 rfl rfl 17 (by decide) (by unfold vp_in; decide) dX9_cells_32 ?_
        refine lv_ineg hx hb dX9_cells_33 ?_
        refine lv_istore (lv' := [(4, .int (-(told 17))), (0, .ref h), (1, .int reason), (2, .int n_15), (3, .int i_15)]) hx hb dX9_cells_34 hl (by decide) rfl (fun ls hl => ?_)
        have ex_36 : ∀ (j_36 : Int32) (n_36 : Int32), (-(told 17) ≤ j_36) → ∀ (H : Heap) (locs : List Loc), va_P E.1 vwCl [(h, .inr (9, [.int thrown, .ref nw, .ref td, .ref tx, .int length, .int textSize, .int start, .int next, .int token, .int value, .int error, .int errorAt, .int seen, .int q_1.1, .ref rr, .ref ss, .ref tr, .ref wa, .int undos, .ref ud, .ref sl, .ref sv])), (nw, .inl (E.2.1, 214, .inl now)), (td, .inl (E.2.1, 48, .inl told)), (rr, .inl (E.2.1, 49, .inl q_1.2.1)), (ss, .inl (E.2.1, 49, .inl q_1.2.2.1)), (tr, .inl (E.2.1, 14, .inl q_1.2.2.2))] H → va_S A s.heap H locs → ∀ (ls : Array Slot), lv_has ls 5 [(0, .ref h), (1, .int reason), (2, .int n_36), (3, .int i_15), (4, .int j_36)] → (sX9_cells triedWith now told rs fs tri reason) = (sX9_cells_l15 told reason q_1 (fun (i_15 : Int32) (n_15 : Int32) => (n_15, q_1.1, q_1.2.1, q_1.2.2.1, q_1.2.2.2)) kk_15 (i_15 + 1) n_36) → W p l e ({ frames := 6, cells := 0, slots := 0, locals := 140 }) s m args below meth c H locs 0 0 (MQ below (xO (T := Int32 × Int32 × (Nat → Int32) × (Nat → Int32) × (Nat → Int32)) E A (fun q => some (.int q.1)) (fun q => [(h, .inr (9, [.int thrown, .ref nw, .ref td, .ref tx, .int length, .int textSize, .int start, .int next, .int token, .int value, .int error, .int errorAt, .int seen, .int q.2.1, .ref rr, .ref ss, .ref tr, .ref wa, .int undos, .ref ud, .ref sl, .ref sv])), (nw, .inl (E.2.1, 214, .inl now)), (td, .inl (E.2.1, 48, .inl told)), (rr, .inl (E.2.1, 49, .inl q.2.2.1)), (ss, .inl (E.2.1, 49, .inl q.2.2.2.1)), (tr, .inl (E.2.1, 14, .inl q.2.2.2.2))]) (sX9_cells triedWith now told rs fs tri reason)) args s 0 0 A) (F0 m 77 ls []) := by
          intro j_36 n_36 hlo_36 H locs hP hS ls hl hx_36
          refine lv_iinc (v := i_15 + 1) (lv' := [(3, .int (i_15 + 1)), (0, .ref h), (1, .int reason), (2, .int n_36), (4, .int j_36)]) hx hb dX9_cells_77 hl (k := 3) rfl (by rfl) (by decide) rfl (fun ls hl => ?_)
          refine lv_goto (tgt := 15) hx hb dX9_cells_80 (by decide) ?_
          exact ih_15 (i_15 + 1) n_36 (x_step2 hlo_15 c_2 hc3 hc0) (x_mu2 hlo_15 c_2 hc3 hc0 hmu) _ _ hP hS ls (lv_sub hl [1, 2, 3, 0] rfl) (by rw [hx_36]; try rfl)
        have lp_36 : ∀ (kk_36 : Nat), ∀ (j_36 : Int32) (n_36 : Int32), (-(told 17) ≤ j_36) → (xMu2 (told 17) j_36) < kk_36 → ∀ (H : Heap) (locs : List Loc), va_P E.1 vwCl [(h, .inr (9, [.int thrown, .ref nw, .ref td, .ref tx, .int length, .int textSize, .int start, .int next, .int token, .int value, .int error, .int errorAt, .int seen, .int q_1.1, .ref rr, .ref ss, .ref tr, .ref wa, .int undos, .ref ud, .ref sl, .ref sv])), (nw, .inl (E.2.1, 214, .inl now)), (td, .inl (E.2.1, 48, .inl told)), (rr, .inl (E.2.1, 49, .inl q_1.2.1)), (ss, .inl (E.2.1, 49, .inl q_1.2.2.1)), (tr, .inl (E.2.1, 14, .inl q_1.2.2.2))] H → va_S A s.heap H locs → ∀ (ls : Array Slot), lv_has ls 5 [(0, .ref h), (1, .int reason), (2, .int n_36), (3, .int i_15), (4, .int j_36)] → (sX9_cells triedWith now told rs fs tri reason) = sX9_cells_l36 told reason i_15 q_1 (fun (j_36 : Int32) (n_36 : Int32) => sX9_cells_l15 told reason q_1 (fun (i_15 : Int32) (n_15 : Int32) => (n_15, q_1.1, q_1.2.1, q_1.2.2.1, q_1.2.2.2)) kk_15 (i_15 + 1) n_36) kk_36 j_36 n_36 → W p l e ({ frames := 6, cells := 0, slots := 0, locals := 140 }) s m args below meth c H locs 0 0 (MQ below (xO (T := Int32 × Int32 × (Nat → Int32) × (Nat → Int32) × (Nat → Int32)) E A (fun q => some (.int q.1)) (fun q => [(h, .inr (9, [.int thrown, .ref nw, .ref td, .ref tx, .int length, .int textSize, .int start, .int next, .int token, .int value, .int error, .int errorAt, .int seen, .int q.2.1, .ref rr, .ref ss, .ref tr, .ref wa, .int undos, .ref ud, .ref sl, .ref sv])), (nw, .inl (E.2.1, 214, .inl now)), (td, .inl (E.2.1, 48, .inl told)), (rr, .inl (E.2.1, 49, .inl q.2.2.1)), (ss, .inl (E.2.1, 49, .inl q.2.2.2.1)), (tr, .inl (E.2.1, 14, .inl q.2.2.2.2))]) (sX9_cells triedWith now told rs fs tri reason)) args s 0 0 A) (F0 m 36 ls []) := by
          intro kk_36
          induction kk_36 with
          | zero =>
            intro j_36 n_36 hlo_36 hmu
            exact absurd hmu (Nat.not_lt_zero _)
          | succ kk_36 ih_36 =>
            intro j_36 n_36 hlo_36 hmu H locs hP hS ls hl hlq_36
            refine lv_iload hx hb dX9_cells_36 (lv_at hl 4 rfl) ?_
            refine lv_aload_n hx hb dX9_cells_38 rfl (lv_at hl 0 rfl) ?_
            refine va_get (D := E.1) (ci := 9) (v := .ref td) (C := RX9) (T := TX9) (N := 22) hx hb hts g_2 hown hE.1 hP 0 rfl rfl 2 (by decide) g_1 (fun _ h9 => h9) rfl dX9_cells_39 ?_
            refine lv_bipush (v := 17) hx hb dX9_cells_42 (by decide) ?_
            refine x_iald hx hb hE.1 hP 2 0 rfl rfl 17 (by decide) (by unfold vp_in; decide) dX9_cells_44 ?_
            refine lv_icmp_gt (tgt := 77) hx hb dX9_cells_45 (by decide) (fun c_3 => ?_) (fun c_3 => ?_)
            · exact ex_36 j_36 n_36 hlo_36 _ _ hP hS ls (lv_sub hl [0, 1, 2, 3, 4] rfl) (by rw [hlq_36]; rw [sX9_cells_l36_s]; rw [if_pos c_3]; try rfl)
            · refine lv_iload_n hx hb dX9_cells_48 rfl (lv_at hl 2 rfl) ?_
              refine lv_aload_n hx hb dX9_cells_49 rfl (lv_at hl 0 rfl) ?_
              refine va_get (D := E.1) (ci := 9) (v := .ref rr) (C := RX9) (T := TX9) (N := 22) hx hb hts g_2 hown hE.1 hP 0 rfl rfl 14 (by decide) g_3 (fun _ h9 => h9) rfl dX9_cells_50 ?_
              refine lv_iload_n hx hb dX9_cells_53 rfl (lv_at hl 3 rfl) ?_
              refine lv_iload hx hb dX9_cells_54 (lv_at hl 4 rfl) ?_
              refine x_rS [.int i_15, .int j_36] (kX9_cell l E i_15 j_36) ⟨hx, hb, hml, hown, hts⟩ (va_cwS 2 hts gX9_cells_X9_cell rfl rfl rfl hdX9_cell.2 ⟨Nat.le_of_ble_eq_true rfl, Nat.le_of_ble_eq_true rfl⟩) hE hP (hX.d rfl) [] rfl rfl hl.1 rfl rfl (Nat.le_of_ble_eq_true rfl) dX9_cells_56 (Nat.le_of_ble_eq_true rfl) (Nat.le_of_ble_eq_true rfl) ?_
              refine x_iald hx hb hE.1 hP 3 0 rfl rfl ((sX9_cell i_15 j_36).toNatClampNeg) rfl (x_cell_in hlo_15 c_2 hlo_36 c_3 hc3 hc0) dX9_cells_59 ?_
              refine lv_iload_n hx hb dX9_cells_60 rfl (lv_at hl 1 rfl) ?_
              refine lv_icmp_ne (tgt := 68) hx hb dX9_cells_61 (by decide) (fun c_4 => ?_) (fun c_4 => ?_)
              · refine lv_iconst (v := 0) hx hb dX9_cells_68 (by decide) ?_
                refine lv_iadd hx hb dX9_cells_69 ?_
                refine lv_istore_n (lv' := [(2, .int (n_36 + 0)), (0, .ref h), (1, .int reason), (3, .int i_15), (4, .int j_36)]) hx hb dX9_cells_70 rfl hl (by decide) rfl (fun ls hl => ?_)
                refine lv_iinc (v := j_36 + 1) (lv' := [(4, .int (j_36 + 1)), (2, .int (n_36 + 0)), (0, .ref h), (1, .int reason), (3, .int i_15)]) hx hb dX9_cells_71 hl (k := 4) rfl (by rfl) (by decide) rfl (fun ls hl => ?_)
                refine lv_goto (tgt := 36) hx hb dX9_cells_74 (by decide) ?_
                exact ih_36 (j_36 + 1) (n_36 + 0) (x_step2 hlo_36 c_3 hc3 hc0) (x_mu2 hlo_36 c_3 hc3 hc0 hmu) _ _ hP hS ls (lv_sub hl [2, 3, 1, 4, 0] rfl) (by rw [hlq_36]; rw [sX9_cells_l36_s]; rw [if_neg c_3]; rw [if_neg c_4]; try rfl)
              · refine lv_iconst (v := 1) hx hb dX9_cells_64 (by decide) ?_
                refine lv_goto (tgt := 69) hx hb dX9_cells_65 (by decide) ?_
                refine lv_iadd hx hb dX9_cells_69 ?_
                refine lv_istore_n (lv' := [(2, .int (n_36 + 1)), (0, .ref h), (1, .int reason), (3, .int i_15), (4, .int j_36)]) hx hb dX9_cells_70 rfl hl (by decide) rfl (fun ls hl => ?_)
                refine lv_iinc (v := j_36 + 1) (lv' := [(4, .int (j_36 + 1)), (2, .int (n_36 + 1)), (0, .ref h), (1, .int reason), (3, .int i_15)]) hx hb dX9_cells_71 hl (k := 4) rfl (by rfl) (by decide) rfl (fun ls hl => ?_)
                refine lv_goto (tgt := 36) hx hb dX9_cells_74 (by decide) ?_
                exact ih_36 (j_36 + 1) (n_36 + 1) (x_step2 hlo_36 c_3 hc3 hc0) (x_mu2 hlo_36 c_3 hc3 hc0 hmu) _ _ hP hS ls (lv_sub hl [2, 3, 1, 4, 0] rfl) (by rw [hlq_36]; rw [sX9_cells_l36_s]; rw [if_neg c_3]; rw [if_pos c_4]; try rfl)
        exact lp_36 (xMu2 (told 17) (-(told 17)) + 1) (-(told 17)) n_15 (Int32.le_refl _) (Nat.lt_succ_self _) _ _ hP hS ls (lv_sub hl [1, 2, 3, 4, 0] rfl) (by rw [hlq_15]; rw [sX9_cells_l15_s]; rw [if_neg c_2]; try rfl)
  exact lp_15 (xMu2 (told 17) (-(told 17)) + 1) (-(told 17)) 0 (Int32.le_refl _) (Nat.lt_succ_self _) _ _ hP hS ls (lv_sub hl [2, 3, 1, 0] rfl) (by unfold sX9_cells; rw [← hq_1]; unfold sX9_cells_q_1; try rfl)
def sX9_canCapture_q_1 (triedWith : Int32) (now : Nat → Int32) (told : Nat → Int32) (rs : Nat → Int32) (fs : Nat → Int32) (tri : Nat → Int32) (q_1 : Int32 × (Nat → Int32) × (Nat → Int32) × (Nat → Int32)) : Int32 × Int32 × (Nat → Int32) × (Nat → Int32) × (Nat → Int32) :=
  if (sX9_isCaught_0 now told q_1.2.1) = 0 then
    (0, q_1.1, q_1.2.1, q_1.2.2.1, q_1.2.2.2)
  else
    if (sX9_isCaught_1 now told q_1.2.1) = 0 then
      (0, q_1.1, q_1.2.1, q_1.2.2.1, q_1.2.2.2)
    else
      (1, q_1.1, q_1.2.1, q_1.2.2.1, q_1.2.2.2)
def sX9_canCapture (triedWith : Int32) (now : Nat → Int32) (told : Nat → Int32) (rs : Nat → Int32) (fs : Nat → Int32) (tri : Nat → Int32) : Int32 × Int32 × (Nat → Int32) × (Nat → Int32) × (Nat → Int32) :=
  sX9_canCapture_q_1 triedWith now told rs fs tri (sX9_lays triedWith now told rs fs tri)
theorem hdX9_canCapture : yX9_canCapture.cls = RX9 ∧ yX9_canCapture.cls ≠ "java/lang/invoke/MethodHandle" ∧ yX9_canCapture.cls ≠ "java/lang/invoke/VarHandle" ∧ (parseMethodDescriptor yX9_canCapture.desc).map (fun d => d.parameters.length) = some 0 := by decide +kernel
set_option maxHeartbeats 4000000 in
set_option maxRecDepth 100000 in
theorem kX9_canCapture (l : Launch) (E : XE) (h : Nat) (thrown : Int32) (nw : Nat) (td : Nat) (tx : Nat) (length : Int32) (textSize : Int32) (start : Int32) (next : Int32) (token : Int32) (value : Int32) (error : Int32) (errorAt : Int32) (seen : Int32) (triedWith : Int32) (rr : Nat) (ss : Nat) (tr : Nat) (wa : Nat) (undos : Int32) (ud : Nat) (sl : Nat) (sv : Nat) (now : Nat → Int32) (told : Nat → Int32) (rs : Nat → Int32) (fs : Nat → Int32) (tri : Nat → Int32) (hw1 : ¬ 2 * told 15 = 0) (hw2 : ¬ 2 * told 16 = 0) (hc3 : told 17 ≤ 3) (hc0 : 0 ≤ told 17) : xW (T := Int32 × Int32 × (Nat → Int32) × (Nat → Int32) × (Nat → Int32)) l yX9_canCapture wsX9_canCapture ({ frames := 6, cells := 0, slots := 0, locals := 140 }) E [(h, .inr (9, [.int thrown, .ref nw, .ref td, .ref tx, .int length, .int textSize, .int start, .int next, .int token, .int value, .int error, .int errorAt, .int seen, .int triedWith, .ref rr, .ref ss, .ref tr, .ref wa, .int undos, .ref ud, .ref sl, .ref sv])), (nw, .inl (E.2.1, 214, .inl now)), (td, .inl (E.2.1, 48, .inl told)), (rr, .inl (E.2.1, 49, .inl rs)), (ss, .inl (E.2.1, 49, .inl fs)), (tr, .inl (E.2.1, 14, .inl tri))] [.ref h] (fun q => some (.int q.1)) (fun q => [(h, .inr (9, [.int thrown, .ref nw, .ref td, .ref tx, .int length, .int textSize, .int start, .int next, .int token, .int value, .int error, .int errorAt, .int seen, .int q.2.1, .ref rr, .ref ss, .ref tr, .ref wa, .int undos, .ref ud, .ref sl, .ref sv])), (nw, .inl (E.2.1, 214, .inl now)), (td, .inl (E.2.1, 48, .inl told)), (rr, .inl (E.2.1, 49, .inl q.2.2.1)), (ss, .inl (E.2.1, 49, .inl q.2.2.2.1)), (tr, .inl (E.2.1, 14, .inl q.2.2.2.2))]) (sX9_canCapture triedWith now told rs fs tri) 0 0 := by
  refine xW.of (cc := cX9_canCapture) (maxL := 1) (ret := (some .boolean)) (by decide) rfl (Nat.le_of_ble_eq_true rfl) ?_
  intro p e s m args below meth c ls A hM hE hP hD hS hA hl
  obtain ⟨hx, hb, hr, hml, hts, hown, hlk, hnm⟩ := hM
  have hX : xD A [h, nw, td, rr, ss, tr] := xD.of hD rfl
  have hl : lv_has ls 1 [(0, .ref h)] := hl
  refine lv_aload_n hx hb dX9_canCapture_0 rfl (lv_at hl 0 rfl) ?_
  refine x_wV (wr := []) [] (kX9_lays l E h thrown nw td tx length textSize start next token value error errorAt seen triedWith rr ss tr wa undos ud sl sv now told rs fs tri hc3 hc0) ⟨hx, hb, hml, hown, hts⟩ (cwV 0 hts gX9_canCapture_X9_lays rfl rfl rfl hdX9_lays ⟨Nat.le_of_ble_eq_true rfl, Nat.le_of_ble_eq_true rfl⟩) hE hP (hX.d rfl) hS hA [0, 1, 2, 3, 4, 5] [] rfl rfl rfl rfl (by decide) (ci := 9) (q0 := 0) rfl rfl rfl hl.1 rfl rfl (Nat.le_of_ble_eq_true rfl) dX9_canCapture_1 (Nat.le_of_ble_eq_true rfl) (Nat.le_of_ble_eq_true rfl) (fun q_1 H locs hq_1 hP hD hS => ?_)
  have hP : va_P E.1 vwCl [(h, .inr (9, [.int thrown, .ref nw, .ref td, .ref tx, .int length, .int textSize, .int start, .int next, .int token, .int value, .int error, .int errorAt, .int seen, .int q_1.1, .ref rr, .ref ss, .ref tr, .ref wa, .int undos, .ref ud, .ref sl, .ref sv])), (nw, .inl (E.2.1, 214, .inl now)), (td, .inl (E.2.1, 48, .inl told)), (rr, .inl (E.2.1, 49, .inl q_1.2.1)), (ss, .inl (E.2.1, 49, .inl q_1.2.2.1)), (tr, .inl (E.2.1, 14, .inl q_1.2.2.2))] H := hP
  have hX : xD A [h, nw, td, rr, ss, tr] := xD.of hD rfl
  refine W.eq (g2 := F0 m 4 ls []) rfl ?_
  refine lv_aload_n hx hb dX9_canCapture_4 rfl (lv_at hl 0 rfl) ?_
  refine lv_iconst (v := 0) hx hb dX9_canCapture_5 (by decide) ?_
  refine x_rV [.int 0] (kX9_isCaught_0 l E h thrown nw td tx length textSize start next token value error errorAt seen q_1.1 rr ss tr wa undos ud sl sv now told q_1.2.1 hw1 hw2 hc3 hc0) ⟨hx, hb, hml, hown, hts⟩ (cwV 1 hts gX9_canCapture_X9_isCaught rfl rfl rfl hdX9_isCaught ⟨Nat.le_of_ble_eq_true rfl, Nat.le_of_ble_eq_true rfl⟩) hE hP (hX.d rfl) [0, 1, 2, 3] rfl rfl (ci := 9) (q0 := 0) rfl rfl rfl hl.1 rfl rfl (Nat.le_of_ble_eq_true rfl) dX9_canCapture_6 (Nat.le_of_ble_eq_true rfl) (Nat.le_of_ble_eq_true rfl) ?_
  refine lv_if_eq (tgt := 24) hx hb dX9_canCapture_9 (by decide) (fun c_2 => ?_) (fun c_2 => ?_)
  · refine lv_iconst (v := 0) hx hb dX9_canCapture_24 (by decide) ?_
    exact x_wz (0, q_1.1, q_1.2.1, q_1.2.2.1, q_1.2.2.2) (by unfold sX9_canCapture; rw [← hq_1]; unfold sX9_canCapture_q_1; rw [if_pos c_2]; try rfl) rfl hx hb hr hlk rfl hS hP (hX.d rfl) [0, 1, 2, 3, 4, 5] rfl rfl (Nat.le_of_ble_eq_true rfl) (Nat.le_of_ble_eq_true rfl) dX9_canCapture_25
  · refine lv_aload_n hx hb dX9_canCapture_12 rfl (lv_at hl 0 rfl) ?_
    refine lv_iconst (v := 1) hx hb dX9_canCapture_13 (by decide) ?_
    refine x_rV [.int 1] (kX9_isCaught_1 l E h thrown nw td tx length textSize start next token value error errorAt seen q_1.1 rr ss tr wa undos ud sl sv now told q_1.2.1 hw1 hw2 hc3 hc0) ⟨hx, hb, hml, hown, hts⟩ (cwV 1 hts gX9_canCapture_X9_isCaught rfl rfl rfl hdX9_isCaught ⟨Nat.le_of_ble_eq_true rfl, Nat.le_of_ble_eq_true rfl⟩) hE hP (hX.d rfl) [0, 1, 2, 3] rfl rfl (ci := 9) (q0 := 0) rfl rfl rfl hl.1 rfl rfl (Nat.le_of_ble_eq_true rfl) dX9_canCapture_14 (Nat.le_of_ble_eq_true rfl) (Nat.le_of_ble_eq_true rfl) ?_
    refine lv_if_eq (tgt := 24) hx hb dX9_canCapture_17 (by decide) (fun c_3 => ?_) (fun c_3 => ?_)
    · refine lv_iconst (v := 0) hx hb dX9_canCapture_24 (by decide) ?_
      exact x_wz (0, q_1.1, q_1.2.1, q_1.2.2.1, q_1.2.2.2) (by unfold sX9_canCapture; rw [← hq_1]; unfold sX9_canCapture_q_1; rw [if_neg c_2]; rw [if_pos c_3]; try rfl) rfl hx hb hr hlk rfl hS hP (hX.d rfl) [0, 1, 2, 3, 4, 5] rfl rfl (Nat.le_of_ble_eq_true rfl) (Nat.le_of_ble_eq_true rfl) dX9_canCapture_25
    · refine lv_iconst (v := 1) hx hb dX9_canCapture_20 (by decide) ?_
      refine lv_goto (tgt := 25) hx hb dX9_canCapture_21 (by decide) ?_
      exact x_wz (1, q_1.1, q_1.2.1, q_1.2.2.1, q_1.2.2.2) (by unfold sX9_canCapture; rw [← hq_1]; unfold sX9_canCapture_q_1; rw [if_neg c_2]; rw [if_neg c_3]; try rfl) rfl hx hb hr hlk rfl hS hP (hX.d rfl) [0, 1, 2, 3, 4, 5] rfl rfl (Nat.le_of_ble_eq_true rfl) (Nat.le_of_ble_eq_true rfl) dX9_canCapture_25
def sX9_switchesOf_l9 (now : Nat → Int32) (ticks : Int32) (kont_9 : Int32 → Int32 → Int32) : Nat → Int32 → Int32 → Int32
  | 0, n_9, t_9 => kont_9 n_9 t_9
  | kk_9 + 1, n_9, t_9 =>
    if t_9 ≤ 0 then
      kont_9 n_9 t_9
    else
      if t_9 ≤ ((now 0) - ticks) then
        kont_9 n_9 t_9
      else
        sX9_switchesOf_l9 now ticks kont_9 kk_9 (n_9 + (now ((14 + (t_9 - t_9 / 200 * 200)).toNatClampNeg))) (t_9 + (-1))
theorem sX9_switchesOf_l9_s (now : Nat → Int32) (ticks : Int32) (kont_9 : Int32 → Int32 → Int32) (kk_9 : Nat) (n_9 : Int32) (t_9 : Int32) : sX9_switchesOf_l9 now ticks kont_9 (kk_9 + 1) n_9 t_9 =
    if t_9 ≤ 0 then
      kont_9 n_9 t_9
    else
      if t_9 ≤ ((now 0) - ticks) then
        kont_9 n_9 t_9
      else
        sX9_switchesOf_l9 now ticks kont_9 kk_9 (n_9 + (now ((14 + (t_9 - t_9 / 200 * 200)).toNatClampNeg))) (t_9 + (-1)) := rfl
def sX9_switchesOf (now : Nat → Int32) (ticks : Int32) : Int32 :=
  sX9_switchesOf_l9 now ticks (fun (n_9 : Int32) (t_9 : Int32) => n_9) ((now 0).toInt.toNat + 1) 0 (now 0)
theorem hdX9_switchesOf : yX9_switchesOf.cls = RX9 ∧ yX9_switchesOf.cls ≠ "java/lang/invoke/MethodHandle" ∧ yX9_switchesOf.cls ≠ "java/lang/invoke/VarHandle" ∧ (parseMethodDescriptor yX9_switchesOf.desc).map (fun d => d.parameters.length) = some 1 := by decide +kernel
set_option maxHeartbeats 4000000 in
set_option maxRecDepth 100000 in
theorem kX9_switchesOf (l : Launch) (E : XE) (h : Nat) (thrown : Int32) (nw : Nat) (td : Nat) (tx : Nat) (length : Int32) (textSize : Int32) (start : Int32) (next : Int32) (token : Int32) (value : Int32) (error : Int32) (errorAt : Int32) (seen : Int32) (triedWith : Int32) (rr : Nat) (ss : Nat) (tr : Nat) (wa : Nat) (undos : Int32) (ud : Nat) (sl : Nat) (sv : Nat) (now : Nat → Int32) (ticks : Int32) : xR l yX9_switchesOf wsX9_switchesOf ({ frames := 0, cells := 0, slots := 0, locals := 0 }) E [(h, .inr (9, [.int thrown, .ref nw, .ref td, .ref tx, .int length, .int textSize, .int start, .int next, .int token, .int value, .int error, .int errorAt, .int seen, .int triedWith, .ref rr, .ref ss, .ref tr, .ref wa, .int undos, .ref ud, .ref sl, .ref sv])), (nw, .inl (E.2.1, 214, .inl now))] [.ref h, .int ticks] (.int (sX9_switchesOf now ticks)) := by
  refine xR.of (cc := cX9_switchesOf) (maxL := 4) (ret := (some .int)) (by decide) rfl (Nat.le_of_ble_eq_true rfl) ?_
  intro p e s m args below meth c ls hM hE hP hD hl
  obtain ⟨hx, hb, hr, hml, hts, hown, hlk, hnm⟩ := hM
  have g_1 : (Cond.fieldLink RX9 7 "RailPendulumModel" "now" "[I").before args s = true := hts (Cond.fieldLink RX9 7 "RailPendulumModel" "now" "[I") (by decide +kernel)
  have g_2 : ∀ w ∈ wsX90, w ∈ wsX9_switchesOf := by decide +kernel
  have hl : lv_has ls 4 [(0, .ref h), (1, .int ticks)] := hl
  refine lv_iconst (v := 0) hx hb dX9_switchesOf_0 (by decide) ?_
  refine lv_istore_n (lv' := [(2, .int 0), (0, .ref h), (1, .int ticks)]) hx hb dX9_switchesOf_1 rfl hl (by decide) rfl (fun ls hl => ?_)
  refine lv_aload_n hx hb dX9_switchesOf_2 rfl (lv_at hl 1 rfl) ?_
  refine va_get (D := E.1) (ci := 9) (v := .ref nw) (C := RX9) (T := TX9) (N := 22) hx hb hts g_2 hown hE.1 hP 0 rfl rfl 1 (by decide) g_1 (fun _ h9 => h9) rfl dX9_switchesOf_3 ?_
  refine lv_iconst (v := 0) hx hb dX9_switchesOf_6 (by decide) ?_
  refine x_iald hx hb hE.1 hP 1 0 rfl rfl 0 (by decide) (by unfold vp_in; decide) dX9_switchesOf_7 ?_
  refine lv_istore_n (lv' := [(3, .int (now 0)), (2, .int 0), (0, .ref h), (1, .int ticks)]) hx hb dX9_switchesOf_8 rfl hl (by decide) rfl (fun ls hl => ?_)
  have ex_9 : ∀ (n_9 : Int32) (t_9 : Int32), ∀ (ls : Array Slot), lv_has ls 4 [(0, .ref h), (1, .int ticks), (2, .int n_9), (3, .int t_9)] → (sX9_switchesOf now ticks) = (n_9) → W p l e ({ frames := 0, cells := 0, slots := 0, locals := 0 }) s m args below meth c s.heap [] 0 0 (MQ below (xQ (.int (sX9_switchesOf now ticks))) args s 0 0 (fun _ => False)) (F0 m 47 ls []) := by
    intro n_9 t_9 ls hl hx_9
    refine lv_iload_n hx hb dX9_switchesOf_47 rfl (lv_at hl 2 rfl) ?_
    exact x_ir (by rw [hx_9]; try rfl) hx hb hr hlk dX9_switchesOf_48
  have lp_9 : ∀ (kk_9 : Nat), ∀ (n_9 : Int32) (t_9 : Int32), (t_9.toInt.toNat) < kk_9 → ∀ (ls : Array Slot), lv_has ls 4 [(0, .ref h), (1, .int ticks), (2, .int n_9), (3, .int t_9)] → (sX9_switchesOf now ticks) = sX9_switchesOf_l9 now ticks (fun (n_9 : Int32) (t_9 : Int32) => n_9) kk_9 n_9 t_9 → W p l e ({ frames := 0, cells := 0, slots := 0, locals := 0 }) s m args below meth c s.heap [] 0 0 (MQ below (xQ (.int (sX9_switchesOf now ticks))) args s 0 0 (fun _ => False)) (F0 m 9 ls []) := by
    intro kk_9
    induction kk_9 with
    | zero =>
      intro n_9 t_9 hmu
      exact absurd hmu (Nat.not_lt_zero _)
    | succ kk_9 ih_9 =>
      intro n_9 t_9 hmu ls hl hlq_9
      refine lv_iload_n hx hb dX9_switchesOf_9 rfl (lv_at hl 3 rfl) ?_
      refine lv_if_le (tgt := 47) hx hb dX9_switchesOf_10 (by decide) (fun c_1 => ?_) (fun c_1 => ?_)
      · exact ex_9 n_9 t_9  ls (lv_sub hl [0, 1, 2, 3] rfl) (by rw [hlq_9]; rw [sX9_switchesOf_l9_s]; rw [if_pos c_1]; try rfl)
      · refine lv_iload_n hx hb dX9_switchesOf_13 rfl (lv_at hl 3 rfl) ?_
        refine lv_aload_n hx hb dX9_switchesOf_14 rfl (lv_at hl 0 rfl) ?_
        refine va_get (D := E.1) (ci := 9) (v := .ref nw) (C := RX9) (T := TX9) (N := 22) hx hb hts g_2 hown hE.1 hP 0 rfl rfl 1 (by decide) g_1 (fun _ h9 => h9) rfl dX9_switchesOf_15 ?_
        refine lv_iconst (v := 0) hx hb dX9_switchesOf_18 (by decide) ?_
        refine x_iald hx hb hE.1 hP 1 0 rfl rfl 0 (by decide) (by unfold vp_in; decide) dX9_switchesOf_19 ?_
        refine lv_iload_n hx hb dX9_switchesOf_20 rfl (lv_at hl 1 rfl) ?_
        refine lv_isub hx hb dX9_switchesOf_21 ?_
        refine lv_icmp_le (tgt := 47) hx hb dX9_switchesOf_22 (by decide) (fun c_2 => ?_) (fun c_2 => ?_)
        · exact ex_9 n_9 t_9  ls (lv_sub hl [0, 1, 2, 3] rfl) (by rw [hlq_9]; rw [sX9_switchesOf_l9_s]; rw [if_neg c_1]; rw [if_pos c_2]; try rfl)
        · refine lv_iload_n hx hb dX9_switchesOf_25 rfl (lv_at hl 2 rfl) ?_
          refine lv_aload_n hx hb dX9_switchesOf_26 rfl (lv_at hl 0 rfl) ?_
          refine va_get (D := E.1) (ci := 9) (v := .ref nw) (C := RX9) (T := TX9) (N := 22) hx hb hts g_2 hown hE.1 hP 0 rfl rfl 1 (by decide) g_1 (fun _ h9 => h9) rfl dX9_switchesOf_27 ?_
          refine lv_bipush (v := 14) hx hb dX9_switchesOf_30 (by decide) ?_
          refine lv_iload_n hx hb dX9_switchesOf_32 rfl (lv_at hl 3 rfl) ?_
          refine lv_sipush (v := 200) hx hb dX9_switchesOf_33 (by decide) ?_
          refine lv_irem hx hb dX9_switchesOf_36 (by decide) ?_
          refine lv_iadd hx hb dX9_switchesOf_37 ?_
          refine x_iald hx hb hE.1 hP 1 0 rfl rfl ((14 + (t_9 - t_9 / 200 * 200)).toNatClampNeg) rfl (x_ix200 (x_pos0 c_1)) dX9_switchesOf_38 ?_
          refine lv_iadd hx hb dX9_switchesOf_39 ?_
          refine lv_istore_n (lv' := [(2, .int (n_9 + (now ((14 + (t_9 - t_9 / 200 * 200)).toNatClampNeg)))), (0, .ref h), (1, .int ticks), (3, .int t_9)]) hx hb dX9_switchesOf_40 rfl hl (by decide) rfl (fun ls hl => ?_)
          refine lv_iinc (v := t_9 + (-1)) (lv' := [(3, .int (t_9 + (-1))), (2, .int (n_9 + (now ((14 + (t_9 - t_9 / 200 * 200)).toNatClampNeg)))), (0, .ref h), (1, .int ticks)]) hx hb dX9_switchesOf_41 hl (k := 3) rfl (by rfl) (by decide) rfl (fun ls hl => ?_)
          refine lv_goto (tgt := 9) hx hb dX9_switchesOf_44 (by decide) ?_
          exact ih_9 (n_9 + (now ((14 + (t_9 - t_9 / 200 * 200)).toNatClampNeg))) (t_9 + (-1)) (x_dn c_1 hmu) ls (lv_sub hl [2, 3, 1, 0] rfl) (by rw [hlq_9]; rw [sX9_switchesOf_l9_s]; rw [if_neg c_1]; rw [if_neg c_2]; try rfl)
  exact lp_9 ((now 0).toInt.toNat + 1) 0 (now 0)  (Nat.lt_succ_self _) ls (lv_sub hl [2, 3, 1, 0] rfl) (by unfold sX9_switchesOf; try rfl)
def sX9_switches_q_36 (triedWith : Int32) (now : Nat → Int32) (told : Nat → Int32) (rs : Nat → Int32) (fs : Nat → Int32) (tri : Nat → Int32) (q_25 : Int32 × Int32 × (Nat → Int32) × (Nat → Int32) × (Nat → Int32)) (q_36 : (Nat → Int32)) : (Nat → Int32) × Int32 × (Nat → Int32) × (Nat → Int32) × (Nat → Int32) :=
  if (sX9_switchesOf q_36 (told 22)) ≤ (told 21) then
    (q_36, q_25.2.1, q_25.2.2.1, q_25.2.2.2.1, q_25.2.2.2.2)
  else
    (upd (upd q_36 1 1) 4 (told 23), q_25.2.1, q_25.2.2.1, q_25.2.2.2.1, q_25.2.2.2.2)
def sX9_switches_q_46 (triedWith : Int32) (now : Nat → Int32) (told : Nat → Int32) (rs : Nat → Int32) (fs : Nat → Int32) (tri : Nat → Int32) (q_25 : Int32 × Int32 × (Nat → Int32) × (Nat → Int32) × (Nat → Int32)) (q_46 : (Nat → Int32)) : (Nat → Int32) × Int32 × (Nat → Int32) × (Nat → Int32) × (Nat → Int32) :=
  if (sX9_switchesOf q_46 (told 22)) ≤ (told 21) then
    (q_46, q_25.2.1, q_25.2.2.1, q_25.2.2.2.1, q_25.2.2.2.2)
  else
    (upd (upd q_46 1 1) 4 (told 23), q_25.2.1, q_25.2.2.1, q_25.2.2.2.1, q_25.2.2.2.2)
def sX9_switches_q_50 (triedWith : Int32) (now : Nat → Int32) (told : Nat → Int32) (rs : Nat → Int32) (fs : Nat → Int32) (tri : Nat → Int32) (q_25 : Int32 × Int32 × (Nat → Int32) × (Nat → Int32) × (Nat → Int32)) (q_50 : (Nat → Int32)) : (Nat → Int32) × Int32 × (Nat → Int32) × (Nat → Int32) × (Nat → Int32) :=
  if (sX9_switchesOf q_50 (told 22)) ≤ (told 21) then
    (q_50, q_25.2.1, q_25.2.2.1, q_25.2.2.2.1, q_25.2.2.2.2)
  else
    (upd (upd q_50 1 1) 4 (told 23), q_25.2.1, q_25.2.2.1, q_25.2.2.2.1, q_25.2.2.2.2)
def sX9_switches_q_41 (triedWith : Int32) (now : Nat → Int32) (told : Nat → Int32) (rs : Nat → Int32) (fs : Nat → Int32) (tri : Nat → Int32) (q_25 : Int32 × Int32 × (Nat → Int32) × (Nat → Int32) × (Nat → Int32)) (q_41 : (Nat → Int32)) : (Nat → Int32) × Int32 × (Nat → Int32) × (Nat → Int32) × (Nat → Int32) :=
  if (sX9_switchesOf q_41 (told 22)) ≤ (told 21) then
    (q_41, q_25.2.1, q_25.2.2.1, q_25.2.2.2.1, q_25.2.2.2.2)
  else
    (upd (upd q_41 1 1) 4 (told 23), q_25.2.1, q_25.2.2.1, q_25.2.2.2.1, q_25.2.2.2.2)
def sX9_switches_q_25 (triedWith : Int32) (now : Nat → Int32) (told : Nat → Int32) (rs : Nat → Int32) (fs : Nat → Int32) (tri : Nat → Int32) (q_25 : Int32 × Int32 × (Nat → Int32) × (Nat → Int32) × (Nat → Int32)) : (Nat → Int32) × Int32 × (Nat → Int32) × (Nat → Int32) × (Nat → Int32) :=
  if q_25.1 = 0 then
    if (now 1) = 2 then
      if (sX9_leansBeyond now (told 19)) = 0 then
        (now, q_25.2.1, q_25.2.2.1, q_25.2.2.2.1, q_25.2.2.2.2)
      else
        sX9_switches_q_36 triedWith now told rs fs tri q_25 (upd (upd (upd now 1 1) 6 ((now 6) + 1)) ((14 + ((now 0) - (now 0) / 200 * 200)).toNatClampNeg) 1)
    else
      (now, q_25.2.1, q_25.2.2.1, q_25.2.2.2.1, q_25.2.2.2.2)
  else
    if (now 1) = 2 then
      if (sX9_leansBeyond now (told 19)) = 0 then
        sX9_switches_q_46 triedWith now told rs fs tri q_25 (upd (upd (upd now 1 2) 6 ((now 6) + 1)) ((14 + ((now 0) - (now 0) / 200 * 200)).toNatClampNeg) 1)
      else
        sX9_switches_q_50 triedWith now told rs fs tri q_25 (upd (upd (upd now 1 2) 6 ((now 6) + 1)) ((14 + ((now 0) - (now 0) / 200 * 200)).toNatClampNeg) 1)
    else
      sX9_switches_q_41 triedWith now told rs fs tri q_25 (upd (upd (upd now 1 2) 6 ((now 6) + 1)) ((14 + ((now 0) - (now 0) / 200 * 200)).toNatClampNeg) 1)
def sX9_switches_q_23 (triedWith : Int32) (now : Nat → Int32) (told : Nat → Int32) (rs : Nat → Int32) (fs : Nat → Int32) (tri : Nat → Int32) (q_23 : (Nat → Int32)) : (Nat → Int32) × Int32 × (Nat → Int32) × (Nat → Int32) × (Nat → Int32) :=
  if (sX9_switchesOf q_23 (told 22)) ≤ (told 21) then
    (q_23, triedWith, rs, fs, tri)
  else
    (upd (upd q_23 1 1) 4 (told 23), triedWith, rs, fs, tri)
def sX9_switches_q_11 (triedWith : Int32) (now : Nat → Int32) (told : Nat → Int32) (rs : Nat → Int32) (fs : Nat → Int32) (tri : Nat → Int32) (q_11 : (Nat → Int32)) : (Nat → Int32) × Int32 × (Nat → Int32) × (Nat → Int32) × (Nat → Int32) :=
  if (sX9_switchesOf q_11 (told 22)) ≤ (told 21) then
    (q_11, triedWith, rs, fs, tri)
  else
    (upd (upd q_11 1 1) 4 (told 23), triedWith, rs, fs, tri)
def sX9_switches (triedWith : Int32) (now : Nat → Int32) (told : Nat → Int32) (rs : Nat → Int32) (fs : Nat → Int32) (tri : Nat → Int32) : (Nat → Int32) × Int32 × (Nat → Int32) × (Nat → Int32) × (Nat → Int32) :=
  if (now 1) = 1 then
    if (now 4) = 0 then
      sX9_switches_q_25 triedWith now told rs fs tri (sX9_canCapture triedWith now told rs fs tri)
    else
      if (now 1) = 2 then
        if (sX9_leansBeyond now (told 19)) = 0 then
          (now, triedWith, rs, fs, tri)
        else
          sX9_switches_q_23 triedWith now told rs fs tri (upd (upd (upd now 1 1) 6 ((now 6) + 1)) ((14 + ((now 0) - (now 0) / 200 * 200)).toNatClampNeg) 1)
      else
        (now, triedWith, rs, fs, tri)
  else
    if (now 1) = 2 then
      if (sX9_leansBeyond now (told 19)) = 0 then
        (now, triedWith, rs, fs, tri)
      else
        sX9_switches_q_11 triedWith now told rs fs tri (upd (upd (upd now 1 1) 6 ((now 6) + 1)) ((14 + ((now 0) - (now 0) / 200 * 200)).toNatClampNeg) 1)
    else
      (now, triedWith, rs, fs, tri)
theorem hdX9_switches : yX9_switches.cls = RX9 ∧ yX9_switches.cls ≠ "java/lang/invoke/MethodHandle" ∧ yX9_switches.cls ≠ "java/lang/invoke/VarHandle" ∧ (parseMethodDescriptor yX9_switches.desc).map (fun d => d.parameters.length) = some 0 := by decide +kernel
set_option maxHeartbeats 4000000 in
set_option maxRecDepth 100000 in
theorem kX9_switches (l : Launch) (E : XE) (h : Nat) (thrown : Int32) (nw : Nat) (td : Nat) (tx : Nat) (length : Int32) (textSize : Int32) (start : Int32) (next : Int32) (token : Int32) (value : Int32) (error : Int32) (errorAt : Int32) (seen : Int32) (triedWith : Int32) (rr : Nat) (ss : Nat) (tr : Nat) (wa : Nat) (undos : Int32) (ud : Nat) (sl : Nat) (sv : Nat) (now : Nat → Int32) (told : Nat → Int32) (rs : Nat → Int32) (fs : Nat → Int32) (tri : Nat → Int32) (hw1 : ¬ 2 * told 15 = 0) (hw2 : ¬ 2 * told 16 = 0) (hc3 : told 17 ≤ 3) (hc0 : 0 ≤ told 17) (ht : ¬ now 0 < 0) : xW (T := (Nat → Int32) × Int32 × (Nat → Int32) × (Nat → Int32) × (Nat → Int32)) l yX9_switches wsX9_switches ({ frames := 7, cells := 0, slots := 0, locals := 160 }) E [(h, .inr (9, [.int thrown, .ref nw, .ref td, .ref tx, .int length, .int textSize, .int start, .int next, .int token, .int value, .int error, .int errorAt, .int seen, .int triedWith, .ref rr, .ref ss, .ref tr, .ref wa, .int undos, .ref ud, .ref sl, .ref sv])), (nw, .inl (E.2.1, 214, .inl now)), (td, .inl (E.2.1, 48, .inl told)), (rr, .inl (E.2.1, 49, .inl rs)), (ss, .inl (E.2.1, 49, .inl fs)), (tr, .inl (E.2.1, 14, .inl tri))] [.ref h] (fun _ => none) (fun q => [(h, .inr (9, [.int thrown, .ref nw, .ref td, .ref tx, .int length, .int textSize, .int start, .int next, .int token, .int value, .int error, .int errorAt, .int seen, .int q.2.1, .ref rr, .ref ss, .ref tr, .ref wa, .int undos, .ref ud, .ref sl, .ref sv])), (nw, .inl (E.2.1, 214, .inl q.1)), (td, .inl (E.2.1, 48, .inl told)), (rr, .inl (E.2.1, 49, .inl q.2.2.1)), (ss, .inl (E.2.1, 49, .inl q.2.2.2.1)), (tr, .inl (E.2.1, 14, .inl q.2.2.2.2))]) (sX9_switches triedWith now told rs fs tri) 0 0 := by
  refine xW.of (cc := cX9_switches) (maxL := 3) (ret := none) (by decide) rfl (Nat.le_of_ble_eq_true rfl) ?_
  intro p e s m args below meth c ls A hM hE hP hD hS hA hl
  obtain ⟨hx, hb, hr, hml, hts, hown, hlk, hnm⟩ := hM
  have g_1 : (Cond.fieldLink RX9 7 "RailPendulumModel" "now" "[I").before args s = true := hts (Cond.fieldLink RX9 7 "RailPendulumModel" "now" "[I") (by decide +kernel)
  have g_2 : ∀ w ∈ wsX90, w ∈ wsX9_switches := by decide +kernel
  have g_3 : (Cond.fieldLink RX9 13 "RailPendulumModel" "told" "[I").before args s = true := hts (Cond.fieldLink RX9 13 "RailPendulumModel" "told" "[I") (by decide +kernel)
  have hX : xD A [h, nw, td, rr, ss, tr] := xD.of hD rfl
  have hl : lv_has ls 3 [(0, .ref h)] := hl
  refine lv_aload_n hx hb dX9_switches_0 rfl (lv_at hl 0 rfl) ?_
  refine va_get (D := E.1) (ci := 9) (v := .ref nw) (C := RX9) (T := TX9) (N := 22) hx hb hts g_2 hown hE.1 hP 0 rfl rfl 1 (by decide) g_1 (fun _ h9 => h9) rfl dX9_switches_1 ?_
  refine lv_iconst (v := 1) hx hb dX9_switches_4 (by decide) ?_
  refine x_iald hx hb hE.1 hP 1 0 rfl rfl 1 (by decide) (by unfold vp_in; decide) dX9_switches_5 ?_
  refine lv_iconst (v := 1) hx hb dX9_switches_6 (by decide) ?_
  refine lv_icmp_ne (tgt := 30) hx hb dX9_switches_7 (by decide) (fun c_1 => ?_) (fun c_1 => ?_)
  · refine lv_iconst (v := 0) hx hb dX9_switches_30 (by decide) ?_
    refine lv_istore_n (lv' := [(1, .int 0), (0, .ref h)]) hx hb dX9_switches_31 rfl hl (by decide) rfl (fun ls hl => ?_)
    refine lv_aload_n hx hb dX9_switches_32 rfl (lv_at hl 1 rfl) ?_
    refine va_get (D := E.1) (ci := 9) (v := .ref nw) (C := RX9) (T := TX9) (N := 22) hx hb hts g_2 hown hE.1 hP 0 rfl rfl 1 (by decide) g_1 (fun _ h9 => h9) rfl dX9_switches_33 ?_
    refine lv_iconst (v := 1) hx hb dX9_switches_36 (by decide) ?_
    refine x_iald hx hb hE.1 hP 1 0 rfl rfl 1 (by decide) (by unfold vp_in; decide) dX9_switches_37 ?_
    refine lv_iconst (v := 2) hx hb dX9_switches_38 (by decide) ?_
    refine lv_icmp_ne (tgt := 63) hx hb dX9_switches_39 (by decide) (fun c_2 => ?_) (fun c_2 => ?_)
    · refine lv_iconst (v := 0) hx hb dX9_switches_63 (by decide) ?_
      refine lv_istore_n (lv' := [(2, .int 0), (1, .int 0), (0, .ref h)]) hx hb dX9_switches_64 rfl hl (by decide) rfl (fun ls hl => ?_)
      refine lv_iload_n hx hb dX9_switches_65 rfl (lv_at hl 1 rfl) ?_
      refine lv_if_ne (tgt := 74) hx hb dX9_switches_66 (by decide) (fun c_3 => absurd rfl c_3) (fun c_3 => ?_)
      refine lv_iload_n hx hb dX9_switches_69 rfl (lv_at hl 0 rfl) ?_
      refine lv_if_ne (tgt := 74) hx hb dX9_switches_70 (by decide) (fun c_4 => absurd rfl c_4) (fun c_4 => ?_)
      exact x_wv (now, triedWith, rs, fs, tri) (by unfold sX9_switches; rw [if_neg c_1]; rw [if_neg c_2]; try rfl) rfl hx hb hr hlk hS hP (hX.d rfl) [0, 1, 2, 3, 4, 5] rfl rfl (Nat.le_of_ble_eq_true rfl) (Nat.le_of_ble_eq_true rfl) dX9_switches_73
    · refine lv_aload_n hx hb dX9_switches_42 rfl (lv_at hl 1 rfl) ?_
      refine va_get (D := E.1) (ci := 9) (v := .ref nw) (C := RX9) (T := TX9) (N := 22) hx hb hts g_2 hown hE.1 hP 0 rfl rfl 1 (by decide) g_1 (fun _ h9 => h9) rfl dX9_switches_43 ?_
      refine lv_aload_n hx hb dX9_switches_46 rfl (lv_at hl 1 rfl) ?_
      refine va_get (D := E.1) (ci := 9) (v := .ref td) (C := RX9) (T := TX9) (N := 22) hx hb hts g_2 hown hE.1 hP 0 rfl rfl 2 (by decide) g_3 (fun _ h9 => h9) rfl dX9_switches_47 ?_
      refine lv_bipush (v := 19) hx hb dX9_switches_50 (by decide) ?_
      refine x_iald hx hb hE.1 hP 2 0 rfl rfl 19 (by decide) (by unfold vp_in; decide) dX9_switches_52 ?_
      refine x_rS [.ref nw, .int (told 19)] (kX9_leansBeyond l E nw 214 now (told 19) (by decide)) ⟨hx, hb, hml, hown, hts⟩ (va_cwS 2 hts gX9_switches_X9_leansBeyond rfl rfl rfl hdX9_leansBeyond.2 ⟨Nat.le_of_ble_eq_true rfl, Nat.le_of_ble_eq_true rfl⟩) hE hP (hX.d rfl) [1] rfl rfl hl.1 rfl rfl (Nat.le_of_ble_eq_true rfl) dX9_switches_53 (Nat.le_of_ble_eq_true rfl) (Nat.le_of_ble_eq_true rfl) ?_
      refine lv_if_eq (tgt := 63) hx hb dX9_switches_56 (by decide) (fun c_5 => ?_) (fun c_5 => ?_)
      · refine lv_iconst (v := 0) hx hb dX9_switches_63 (by decide) ?_
        refine lv_istore_n (lv' := [(2, .int 0), (1, .int 0), (0, .ref h)]) hx hb dX9_switches_64 rfl hl (by decide) rfl (fun ls hl => ?_)
        refine lv_iload_n hx hb dX9_switches_65 rfl (lv_at hl 1 rfl) ?_
        refine lv_if_ne (tgt := 74) hx hb dX9_switches_66 (by decide) (fun c_6 => absurd rfl c_6) (fun c_6 => ?_)
        refine lv_iload_n hx hb dX9_switches_69 rfl (lv_at hl 0 rfl) ?_
        refine lv_if_ne (tgt := 74) hx hb dX9_switches_70 (by decide) (fun c_7 => absurd rfl c_7) (fun c_7 => ?_)
        exact x_wv (now, triedWith, rs, fs, tri) (by unfold sX9_switches; rw [if_neg c_1]; rw [if_pos c_2]; rw [if_pos c_5]; try rfl) rfl hx hb hr hlk hS hP (hX.d rfl) [0, 1, 2, 3, 4, 5] rfl rfl (Nat.le_of_ble_eq_true rfl) (Nat.le_of_ble_eq_true rfl) dX9_switches_73
      · refine lv_iconst (v := 1) hx hb dX9_switches_59 (by decide) ?_
        refine lv_goto (tgt := 64) hx hb dX9_switches_60 (by decide) ?_
        refine lv_istore_n (lv' := [(2, .int 1), (1, .int 0), (0, .ref h)]) hx hb dX9_switches_64 rfl hl (by decide) rfl (fun ls hl => ?_)
        refine lv_iload_n hx hb dX9_switches_65 rfl (lv_at hl 1 rfl) ?_
        refine lv_if_ne (tgt := 74) hx hb dX9_switches_66 (by decide) (fun c_8 => absurd rfl c_8) (fun c_8 => ?_)
        refine lv_iload_n hx hb dX9_switches_69 rfl (lv_at hl 0 rfl) ?_
        refine lv_if_ne (tgt := 74) hx hb dX9_switches_70 (by decide) (fun c_9 => ?_) (fun c_9 => absurd c_9 (by decide))
        refine lv_aload_n hx hb dX9_switches_74 rfl (lv_at hl 2 rfl) ?_
        refine va_get (D := E.1) (ci := 9) (v := .ref nw) (C := RX9) (T := TX9) (N := 22) hx hb hts g_2 hown hE.1 hP 0 rfl rfl 1 (by decide) g_1 (fun _ h9 => h9) rfl dX9_switches_75 ?_
        refine lv_iconst (v := 1) hx hb dX9_switches_78 (by decide) ?_
        refine lv_iload_n hx hb dX9_switches_79 rfl (lv_at hl 1 rfl) ?_
        refine lv_if_eq (tgt := 87) hx hb dX9_switches_80 (by decide) (fun c_10 => ?_) (fun c_10 => absurd (by decide) c_10)
        refine lv_iconst (v := 1) hx hb dX9_switches_87 (by decide) ?_
        refine x_iast hx hb hE.1 hP (hX.d rfl) hS 1 0 rfl rfl 1 (by decide) (by unfold vp_in; decide) dX9_switches_88 (fun H locs hP _ hS => ?_)
        have hP : va_P E.1 vwCl [(h, .inr (9, [.int thrown, .ref nw, .ref td, .ref tx, .int length, .int textSize, .int start, .int next, .int token, .int value, .int error, .int errorAt, .int seen, .int triedWith, .ref rr, .ref ss, .ref tr, .ref wa, .int undos, .ref ud, .ref sl, .ref sv])), (nw, .inl (E.2.1, 214, .inl (upd now 1 1))), (td, .inl (E.2.1, 48, .inl told)), (rr, .inl (E.2.1, 49, .inl rs)), (ss, .inl (E.2.1, 49, .inl fs)), (tr, .inl (E.2.1, 14, .inl tri))] H := hP
        refine lv_aload_n hx hb dX9_switches_89 rfl (lv_at hl 2 rfl) ?_
        refine va_get (D := E.1) (ci := 9) (v := .ref nw) (C := RX9) (T := TX9) (N := 22) hx hb hts g_2 hown hE.1 hP 0 rfl rfl 1 (by decide) g_1 (fun _ h9 => h9) rfl dX9_switches_90 ?_
        refine lv_bipush (v := 6) hx hb dX9_switches_93 (by decide) ?_
        refine lv_dup2_11 hx hb dX9_switches_95 rfl rfl ?_
        refine x_iald hx hb hE.1 hP 1 0 rfl rfl 6 (by decide) (by unfold vp_in; decide) dX9_switches_96 ?_
        refine W.eq (g2 := F0 m 97 ls [.int (now 6), .int 6, .ref nw]) rfl ?_
        refine lv_iconst (v := 1) hx hb dX9_switches_97 (by decide) ?_
        refine lv_iadd hx hb dX9_switches_98 ?_
        refine x_iast hx hb hE.1 hP (hX.d rfl) hS 1 0 rfl rfl 6 (by decide) (by unfold vp_in; decide) dX9_switches_99 (fun H locs hP _ hS => ?_)
        have hP : va_P E.1 vwCl [(h, .inr (9, [.int thrown, .ref nw, .ref td, .ref tx, .int length, .int textSize, .int start, .int next, .int token, .int value, .int error, .int errorAt, .int seen, .int triedWith, .ref rr, .ref ss, .ref tr, .ref wa, .int undos, .ref ud, .ref sl, .ref sv])), (nw, .inl (E.2.1, 214, .inl (upd (upd now 1 1) 6 ((now 6) + 1)))), (td, .inl (E.2.1, 48, .inl told)), (rr, .inl (E.2.1, 49, .inl rs)), (ss, .inl (E.2.1, 49, .inl fs)), (tr, .inl (E.2.1, 14, .inl tri))] H := hP
        refine lv_aload_n hx hb dX9_switches_100 rfl (lv_at hl 2 rfl) ?_
        refine va_get (D := E.1) (ci := 9) (v := .ref nw) (C := RX9) (T := TX9) (N := 22) hx hb hts g_2 hown hE.1 hP 0 rfl rfl 1 (by decide) g_1 (fun _ h9 => h9) rfl dX9_switches_101 ?_
        refine lv_bipush (v := 14) hx hb dX9_switches_104 (by decide) ?_
        refine lv_aload_n hx hb dX9_switches_106 rfl (lv_at hl 2 rfl) ?_
        refine va_get (D := E.1) (ci := 9) (v := .ref nw) (C := RX9) (T := TX9) (N := 22) hx hb hts g_2 hown hE.1 hP 0 rfl rfl 1 (by decide) g_1 (fun _ h9 => h9) rfl dX9_switches_107 ?_
        refine lv_iconst (v := 0) hx hb dX9_switches_110 (by decide) ?_
        refine x_iald hx hb hE.1 hP 1 0 rfl rfl 0 (by decide) (by unfold vp_in; decide) dX9_switches_111 ?_
        refine W.eq (g2 := F0 m 112 ls [.int (now 0), .int 14, .ref nw]) rfl ?_
        refine lv_sipush (v := 200) hx hb dX9_switches_112 (by decide) ?_
        refine lv_irem hx hb dX9_switches_115 (by decide) ?_
        refine lv_iadd hx hb dX9_switches_116 ?_
        refine lv_iconst (v := 1) hx hb dX9_switches_117 (by decide) ?_
        refine x_iast hx hb hE.1 hP (hX.d rfl) hS 1 0 rfl rfl ((14 + ((now 0) - (now 0) / 200 * 200)).toNatClampNeg) rfl (x_ix200 ht) dX9_switches_118 (fun H locs hP _ hS => ?_)
        have hP : va_P E.1 vwCl [(h, .inr (9, [.int thrown, .ref nw, .ref td, .ref tx, .int length, .int textSize, .int start, .int next, .int token, .int value, .int error, .int errorAt, .int seen, .int triedWith, .ref rr, .ref ss, .ref tr, .ref wa, .int undos, .ref ud, .ref sl, .ref sv])), (nw, .inl (E.2.1, 214, .inl (upd (upd (upd now 1 1) 6 ((now 6) + 1)) ((14 + ((now 0) - (now 0) / 200 * 200)).toNatClampNeg) 1))), (td, .inl (E.2.1, 48, .inl told)), (rr, .inl (E.2.1, 49, .inl rs)), (ss, .inl (E.2.1, 49, .inl fs)), (tr, .inl (E.2.1, 14, .inl tri))] H := hP
        obtain ⟨q_11, hq_11⟩ : ∃ g : Nat → Int32, g = upd (upd (upd now 1 1) 6 ((now 6) + 1)) ((14 + ((now 0) - (now 0) / 200 * 200)).toNatClampNeg) 1 := ⟨_, rfl⟩
        rw [← hq_11] at hP
        refine lv_aload_n hx hb dX9_switches_119 rfl (lv_at hl 2 rfl) ?_
        refine lv_aload_n hx hb dX9_switches_120 rfl (lv_at hl 2 rfl) ?_
        refine va_get (D := E.1) (ci := 9) (v := .ref td) (C := RX9) (T := TX9) (N := 22) hx hb hts g_2 hown hE.1 hP 0 rfl rfl 2 (by decide) g_3 (fun _ h9 => h9) rfl dX9_switches_121 ?_
        refine lv_bipush (v := 22) hx hb dX9_switches_124 (by decide) ?_
        refine x_iald hx hb hE.1 hP 2 0 rfl rfl 22 (by decide) (by unfold vp_in; decide) dX9_switches_126 ?_
        refine x_rV [.int (told 22)] (kX9_switchesOf l E h thrown nw td tx length textSize start next token value error errorAt seen triedWith rr ss tr wa undos ud sl sv q_11 (told 22)) ⟨hx, hb, hml, hown, hts⟩ (cwV 1 hts gX9_switches_X9_switchesOf rfl rfl rfl hdX9_switchesOf ⟨Nat.le_of_ble_eq_true rfl, Nat.le_of_ble_eq_true rfl⟩) hE hP (hX.d rfl) [0, 1] rfl rfl (ci := 9) (q0 := 0) rfl rfl rfl hl.1 rfl rfl (Nat.le_of_ble_eq_true rfl) dX9_switches_127 (Nat.le_of_ble_eq_true rfl) (Nat.le_of_ble_eq_true rfl) ?_
        refine lv_aload_n hx hb dX9_switches_130 rfl (lv_at hl 2 rfl) ?_
        refine va_get (D := E.1) (ci := 9) (v := .ref td) (C := RX9) (T := TX9) (N := 22) hx hb hts g_2 hown hE.1 hP 0 rfl rfl 2 (by decide) g_3 (fun _ h9 => h9) rfl dX9_switches_131 ?_
        refine lv_bipush (v := 21) hx hb dX9_switches_134 (by decide) ?_
        refine x_iald hx hb hE.1 hP 2 0 rfl rfl 21 (by decide) (by unfold vp_in; decide) dX9_switches_136 ?_
        refine lv_icmp_le (tgt := 160) hx hb dX9_switches_137 (by decide) (fun c_12 => ?_) (fun c_12 => ?_)
        · exact x_wv (q_11, triedWith, rs, fs, tri) (by unfold sX9_switches; rw [if_neg c_1]; rw [if_pos c_2]; rw [if_neg c_5]; rw [← hq_11]; unfold sX9_switches_q_11; rw [if_pos c_12]; try rfl) rfl hx hb hr hlk hS hP (hX.d rfl) [0, 1, 2, 3, 4, 5] rfl rfl (Nat.le_of_ble_eq_true rfl) (Nat.le_of_ble_eq_true rfl) dX9_switches_160
        · refine lv_aload_n hx hb dX9_switches_140 rfl (lv_at hl 2 rfl) ?_
          refine va_get (D := E.1) (ci := 9) (v := .ref nw) (C := RX9) (T := TX9) (N := 22) hx hb hts g_2 hown hE.1 hP 0 rfl rfl 1 (by decide) g_1 (fun _ h9 => h9) rfl dX9_switches_141 ?_
          refine lv_iconst (v := 1) hx hb dX9_switches_144 (by decide) ?_
          refine lv_iconst (v := 1) hx hb dX9_switches_145 (by decide) ?_
          refine x_iast hx hb hE.1 hP (hX.d rfl) hS 1 0 rfl rfl 1 (by decide) (by unfold vp_in; decide) dX9_switches_146 (fun H locs hP _ hS => ?_)
          have hP : va_P E.1 vwCl [(h, .inr (9, [.int thrown, .ref nw, .ref td, .ref tx, .int length, .int textSize, .int start, .int next, .int token, .int value, .int error, .int errorAt, .int seen, .int triedWith, .ref rr, .ref ss, .ref tr, .ref wa, .int undos, .ref ud, .ref sl, .ref sv])), (nw, .inl (E.2.1, 214, .inl (upd q_11 1 1))), (td, .inl (E.2.1, 48, .inl told)), (rr, .inl (E.2.1, 49, .inl rs)), (ss, .inl (E.2.1, 49, .inl fs)), (tr, .inl (E.2.1, 14, .inl tri))] H := hP
          refine lv_aload_n hx hb dX9_switches_147 rfl (lv_at hl 2 rfl) ?_
          refine va_get (D := E.1) (ci := 9) (v := .ref nw) (C := RX9) (T := TX9) (N := 22) hx hb hts g_2 hown hE.1 hP 0 rfl rfl 1 (by decide) g_1 (fun _ h9 => h9) rfl dX9_switches_148 ?_
          refine lv_iconst (v := 4) hx hb dX9_switches_151 (by decide) ?_
          refine lv_aload_n hx hb dX9_switches_152 rfl (lv_at hl 2 rfl) ?_
          refine va_get (D := E.1) (ci := 9) (v := .ref td) (C := RX9) (T := TX9) (N := 22) hx hb hts g_2 hown hE.1 hP 0 rfl rfl 2 (by decide) g_3 (fun _ h9 => h9) rfl dX9_switches_153 ?_
          refine lv_bipush (v := 23) hx hb dX9_switches_156 (by decide) ?_
          refine x_iald hx hb hE.1 hP 2 0 rfl rfl 23 (by decide) (by unfold vp_in; decide) dX9_switches_158 ?_
          refine x_iast hx hb hE.1 hP (hX.d rfl) hS 1 0 rfl rfl 4 (by decide) (by unfold vp_in; decide) dX9_switches_159 (fun H locs hP _ hS => ?_)
          have hP : va_P E.1 vwCl [(h, .inr (9, [.int thrown, .ref nw, .ref td, .ref tx, .int length, .int textSize, .int start, .int next, .int token, .int value, .int error, .int errorAt, .int seen, .int triedWith, .ref rr, .ref ss, .ref tr, .ref wa, .int undos, .ref ud, .ref sl, .ref sv])), (nw, .inl (E.2.1, 214, .inl (upd (upd q_11 1 1) 4 (told 23)))), (td, .inl (E.2.1, 48, .inl told)), (rr, .inl (E.2.1, 49, .inl rs)), (ss, .inl (E.2.1, 49, .inl fs)), (tr, .inl (E.2.1, 14, .inl tri))] H := hP
          exact x_wv (upd (upd q_11 1 1) 4 (told 23), triedWith, rs, fs, tri) (by unfold sX9_switches; rw [if_neg c_1]; rw [if_pos c_2]; rw [if_neg c_5]; rw [← hq_11]; unfold sX9_switches_q_11; rw [if_neg c_12]; try rfl) rfl hx hb hr hlk hS hP (hX.d rfl) [0, 1, 2, 3, 4, 5] rfl rfl (Nat.le_of_ble_eq_true rfl) (Nat.le_of_ble_eq_true rfl) dX9_switches_160
  · refine lv_aload_n hx hb dX9_switches_10 rfl (lv_at hl 0 rfl) ?_
    refine va_get (D := E.1) (ci := 9) (v := .ref nw) (C := RX9) (T := TX9) (N := 22) hx hb hts g_2 hown hE.1 hP 0 rfl rfl 1 (by decide) g_1 (fun _ h9 => h9) rfl dX9_switches_11 ?_
    refine lv_iconst (v := 4) hx hb dX9_switches_14 (by decide) ?_
    refine x_iald hx hb hE.1 hP 1 0 rfl rfl 4 (by decide) (by unfold vp_in; decide) dX9_switches_15 ?_
    refine lv_if_ne (tgt := 30) hx hb dX9_switches_16 (by decide) (fun c_13 => ?_) (fun c_13 => ?_)
    · refine lv_iconst (v := 0) hx hb dX9_switches_30 (by decide) ?_
      refine lv_istore_n (lv' := [(1, .int 0), (0, .ref h)]) hx hb dX9_switches_31 rfl hl (by decide) rfl (fun ls hl => ?_)
      refine lv_aload_n hx hb dX9_switches_32 rfl (lv_at hl 1 rfl) ?_
      refine va_get (D := E.1) (ci := 9) (v := .ref nw) (C := RX9) (T := TX9) (N := 22) hx hb hts g_2 hown hE.1 hP 0 rfl rfl 1 (by decide) g_1 (fun _ h9 => h9) rfl dX9_switches_33 ?_
      refine lv_iconst (v := 1) hx hb dX9_switches_36 (by decide) ?_
      refine x_iald hx hb hE.1 hP 1 0 rfl rfl 1 (by decide) (by unfold vp_in; decide) dX9_switches_37 ?_
      refine lv_iconst (v := 2) hx hb dX9_switches_38 (by decide) ?_
      refine lv_icmp_ne (tgt := 63) hx hb dX9_switches_39 (by decide) (fun c_14 => ?_) (fun c_14 => ?_)
      · refine lv_iconst (v := 0) hx hb dX9_switches_63 (by decide) ?_
        refine lv_istore_n (lv' := [(2, .int 0), (1, .int 0), (0, .ref h)]) hx hb dX9_switches_64 rfl hl (by decide) rfl (fun ls hl => ?_)
        refine lv_iload_n hx hb dX9_switches_65 rfl (lv_at hl 1 rfl) ?_
        refine lv_if_ne (tgt := 74) hx hb dX9_switches_66 (by decide) (fun c_15 => absurd rfl c_15) (fun c_15 => ?_)
        refine lv_iload_n hx hb dX9_switches_69 rfl (lv_at hl 0 rfl) ?_
        refine lv_if_ne (tgt := 74) hx hb dX9_switches_70 (by decide) (fun c_16 => absurd rfl c_16) (fun c_16 => ?_)
        exact x_wv (now, triedWith, rs, fs, tri) (by unfold sX9_switches; rw [if_pos c_1]; rw [if_neg c_13]; rw [if_neg c_14]; try rfl) rfl hx hb hr hlk hS hP (hX.d rfl) [0, 1, 2, 3, 4, 5] rfl rfl (Nat.le_of_ble_eq_true rfl) (Nat.le_of_ble_eq_true rfl) dX9_switches_73
      · refine lv_aload_n hx hb dX9_switches_42 rfl (lv_at hl 1 rfl) ?_
        refine va_get (D := E.1) (ci := 9) (v := .ref nw) (C := RX9) (T := TX9) (N := 22) hx hb hts g_2 hown hE.1 hP 0 rfl rfl 1 (by decide) g_1 (fun _ h9 => h9) rfl dX9_switches_43 ?_
        refine lv_aload_n hx hb dX9_switches_46 rfl (lv_at hl 1 rfl) ?_
        refine va_get (D := E.1) (ci := 9) (v := .ref td) (C := RX9) (T := TX9) (N := 22) hx hb hts g_2 hown hE.1 hP 0 rfl rfl 2 (by decide) g_3 (fun _ h9 => h9) rfl dX9_switches_47 ?_
        refine lv_bipush (v := 19) hx hb dX9_switches_50 (by decide) ?_
        refine x_iald hx hb hE.1 hP 2 0 rfl rfl 19 (by decide) (by unfold vp_in; decide) dX9_switches_52 ?_
        refine x_rS [.ref nw, .int (told 19)] (kX9_leansBeyond l E nw 214 now (told 19) (by decide)) ⟨hx, hb, hml, hown, hts⟩ (va_cwS 2 hts gX9_switches_X9_leansBeyond rfl rfl rfl hdX9_leansBeyond.2 ⟨Nat.le_of_ble_eq_true rfl, Nat.le_of_ble_eq_true rfl⟩) hE hP (hX.d rfl) [1] rfl rfl hl.1 rfl rfl (Nat.le_of_ble_eq_true rfl) dX9_switches_53 (Nat.le_of_ble_eq_true rfl) (Nat.le_of_ble_eq_true rfl) ?_
        refine lv_if_eq (tgt := 63) hx hb dX9_switches_56 (by decide) (fun c_17 => ?_) (fun c_17 => ?_)
        · refine lv_iconst (v := 0) hx hb dX9_switches_63 (by decide) ?_
          refine lv_istore_n (lv' := [(2, .int 0), (1, .int 0), (0, .ref h)]) hx hb dX9_switches_64 rfl hl (by decide) rfl (fun ls hl => ?_)
          refine lv_iload_n hx hb dX9_switches_65 rfl (lv_at hl 1 rfl) ?_
          refine lv_if_ne (tgt := 74) hx hb dX9_switches_66 (by decide) (fun c_18 => absurd rfl c_18) (fun c_18 => ?_)
          refine lv_iload_n hx hb dX9_switches_69 rfl (lv_at hl 0 rfl) ?_
          refine lv_if_ne (tgt := 74) hx hb dX9_switches_70 (by decide) (fun c_19 => absurd rfl c_19) (fun c_19 => ?_)
          exact x_wv (now, triedWith, rs, fs, tri) (by unfold sX9_switches; rw [if_pos c_1]; rw [if_neg c_13]; rw [if_pos c_14]; rw [if_pos c_17]; try rfl) rfl hx hb hr hlk hS hP (hX.d rfl) [0, 1, 2, 3, 4, 5] rfl rfl (Nat.le_of_ble_eq_true rfl) (Nat.le_of_ble_eq_true rfl) dX9_switches_73
        · refine lv_iconst (v := 1) hx hb dX9_switches_59 (by decide) ?_
          refine lv_goto (tgt := 64) hx hb dX9_switches_60 (by decide) ?_
          refine lv_istore_n (lv' := [(2, .int 1), (1, .int 0), (0, .ref h)]) hx hb dX9_switches_64 rfl hl (by decide) rfl (fun ls hl => ?_)
          refine lv_iload_n hx hb dX9_switches_65 rfl (lv_at hl 1 rfl) ?_
          refine lv_if_ne (tgt := 74) hx hb dX9_switches_66 (by decide) (fun c_20 => absurd rfl c_20) (fun c_20 => ?_)
          refine lv_iload_n hx hb dX9_switches_69 rfl (lv_at hl 0 rfl) ?_
          refine lv_if_ne (tgt := 74) hx hb dX9_switches_70 (by decide) (fun c_21 => ?_) (fun c_21 => absurd c_21 (by decide))
          refine lv_aload_n hx hb dX9_switches_74 rfl (lv_at hl 2 rfl) ?_
          refine va_get (D := E.1) (ci := 9) (v := .ref nw) (C := RX9) (T := TX9) (N := 22) hx hb hts g_2 hown hE.1 hP 0 rfl rfl 1 (by decide) g_1 (fun _ h9 => h9) rfl dX9_switches_75 ?_
          refine lv_iconst (v := 1) hx hb dX9_switches_78 (by decide) ?_
          refine lv_iload_n hx hb dX9_switches_79 rfl (lv_at hl 1 rfl) ?_
          refine lv_if_eq (tgt := 87) hx hb dX9_switches_80 (by decide) (fun c_22 => ?_) (fun c_22 => absurd (by decide) c_22)
          refine lv_iconst (v := 1) hx hb dX9_switches_87 (by decide) ?_
          refine x_iast hx hb hE.1 hP (hX.d rfl) hS 1 0 rfl rfl 1 (by decide) (by unfold vp_in; decide) dX9_switches_88 (fun H locs hP _ hS => ?_)
          have hP : va_P E.1 vwCl [(h, .inr (9, [.int thrown, .ref nw, .ref td, .ref tx, .int length, .int textSize, .int start, .int next, .int token, .int value, .int error, .int errorAt, .int seen, .int triedWith, .ref rr, .ref ss, .ref tr, .ref wa, .int undos, .ref ud, .ref sl, .ref sv])), (nw, .inl (E.2.1, 214, .inl (upd now 1 1))), (td, .inl (E.2.1, 48, .inl told)), (rr, .inl (E.2.1, 49, .inl rs)), (ss, .inl (E.2.1, 49, .inl fs)), (tr, .inl (E.2.1, 14, .inl tri))] H := hP
          refine lv_aload_n hx hb dX9_switches_89 rfl (lv_at hl 2 rfl) ?_
          refine va_get (D := E.1) (ci := 9) (v := .ref nw) (C := RX9) (T := TX9) (N := 22) hx hb hts g_2 hown hE.1 hP 0 rfl rfl 1 (by decide) g_1 (fun _ h9 => h9) rfl dX9_switches_90 ?_
          refine lv_bipush (v := 6) hx hb dX9_switches_93 (by decide) ?_
          refine lv_dup2_11 hx hb dX9_switches_95 rfl rfl ?_
          refine x_iald hx hb hE.1 hP 1 0 rfl rfl 6 (by decide) (by unfold vp_in; decide) dX9_switches_96 ?_
          refine W.eq (g2 := F0 m 97 ls [.int (now 6), .int 6, .ref nw]) rfl ?_
          refine lv_iconst (v := 1) hx hb dX9_switches_97 (by decide) ?_
          refine lv_iadd hx hb dX9_switches_98 ?_
          refine x_iast hx hb hE.1 hP (hX.d rfl) hS 1 0 rfl rfl 6 (by decide) (by unfold vp_in; decide) dX9_switches_99 (fun H locs hP _ hS => ?_)
          have hP : va_P E.1 vwCl [(h, .inr (9, [.int thrown, .ref nw, .ref td, .ref tx, .int length, .int textSize, .int start, .int next, .int token, .int value, .int error, .int errorAt, .int seen, .int triedWith, .ref rr, .ref ss, .ref tr, .ref wa, .int undos, .ref ud, .ref sl, .ref sv])), (nw, .inl (E.2.1, 214, .inl (upd (upd now 1 1) 6 ((now 6) + 1)))), (td, .inl (E.2.1, 48, .inl told)), (rr, .inl (E.2.1, 49, .inl rs)), (ss, .inl (E.2.1, 49, .inl fs)), (tr, .inl (E.2.1, 14, .inl tri))] H := hP
          refine lv_aload_n hx hb dX9_switches_100 rfl (lv_at hl 2 rfl) ?_
          refine va_get (D := E.1) (ci := 9) (v := .ref nw) (C := RX9) (T := TX9) (N := 22) hx hb hts g_2 hown hE.1 hP 0 rfl rfl 1 (by decide) g_1 (fun _ h9 => h9) rfl dX9_switches_101 ?_
          refine lv_bipush (v := 14) hx hb dX9_switches_104 (by decide) ?_
          refine lv_aload_n hx hb dX9_switches_106 rfl (lv_at hl 2 rfl) ?_
          refine va_get (D := E.1) (ci := 9) (v := .ref nw) (C := RX9) (T := TX9) (N := 22) hx hb hts g_2 hown hE.1 hP 0 rfl rfl 1 (by decide) g_1 (fun _ h9 => h9) rfl dX9_switches_107 ?_
          refine lv_iconst (v := 0) hx hb dX9_switches_110 (by decide) ?_
          refine x_iald hx hb hE.1 hP 1 0 rfl rfl 0 (by decide) (by unfold vp_in; decide) dX9_switches_111 ?_
          refine W.eq (g2 := F0 m 112 ls [.int (now 0), .int 14, .ref nw]) rfl ?_
          refine lv_sipush (v := 200) hx hb dX9_switches_112 (by decide) ?_
          refine lv_irem hx hb dX9_switches_115 (by decide) ?_
          refine lv_iadd hx hb dX9_switches_116 ?_
          refine lv_iconst (v := 1) hx hb dX9_switches_117 (by decide) ?_
          refine x_iast hx hb hE.1 hP (hX.d rfl) hS 1 0 rfl rfl ((14 + ((now 0) - (now 0) / 200 * 200)).toNatClampNeg) rfl (x_ix200 ht) dX9_switches_118 (fun H locs hP _ hS => ?_)
          have hP : va_P E.1 vwCl [(h, .inr (9, [.int thrown, .ref nw, .ref td, .ref tx, .int length, .int textSize, .int start, .int next, .int token, .int value, .int error, .int errorAt, .int seen, .int triedWith, .ref rr, .ref ss, .ref tr, .ref wa, .int undos, .ref ud, .ref sl, .ref sv])), (nw, .inl (E.2.1, 214, .inl (upd (upd (upd now 1 1) 6 ((now 6) + 1)) ((14 + ((now 0) - (now 0) / 200 * 200)).toNatClampNeg) 1))), (td, .inl (E.2.1, 48, .inl told)), (rr, .inl (E.2.1, 49, .inl rs)), (ss, .inl (E.2.1, 49, .inl fs)), (tr, .inl (E.2.1, 14, .inl tri))] H := hP
          obtain ⟨q_23, hq_23⟩ : ∃ g : Nat → Int32, g = upd (upd (upd now 1 1) 6 ((now 6) + 1)) ((14 + ((now 0) - (now 0) / 200 * 200)).toNatClampNeg) 1 := ⟨_, rfl⟩
          rw [← hq_23] at hP
          refine lv_aload_n hx hb dX9_switches_119 rfl (lv_at hl 2 rfl) ?_
          refine lv_aload_n hx hb dX9_switches_120 rfl (lv_at hl 2 rfl) ?_
          refine va_get (D := E.1) (ci := 9) (v := .ref td) (C := RX9) (T := TX9) (N := 22) hx hb hts g_2 hown hE.1 hP 0 rfl rfl 2 (by decide) g_3 (fun _ h9 => h9) rfl dX9_switches_121 ?_
          refine lv_bipush (v := 22) hx hb dX9_switches_124 (by decide) ?_
          refine x_iald hx hb hE.1 hP 2 0 rfl rfl 22 (by decide) (by unfold vp_in; decide) dX9_switches_126 ?_
          refine x_rV [.int (told 22)] (kX9_switchesOf l E h thrown nw td tx length textSize start next token value error errorAt seen triedWith rr ss tr wa undos ud sl sv q_23 (told 22)) ⟨hx, hb, hml, hown, hts⟩ (cwV 1 hts gX9_switches_X9_switchesOf rfl rfl rfl hdX9_switchesOf ⟨Nat.le_of_ble_eq_true rfl, Nat.le_of_ble_eq_true rfl⟩) hE hP (hX.d rfl) [0, 1] rfl rfl (ci := 9) (q0 := 0) rfl rfl rfl hl.1 rfl rfl (Nat.le_of_ble_eq_true rfl) dX9_switches_127 (Nat.le_of_ble_eq_true rfl) (Nat.le_of_ble_eq_true rfl) ?_
          refine lv_aload_n hx hb dX9_switches_130 rfl (lv_at hl 2 rfl) ?_
          refine va_get (D := E.1) (ci := 9) (v := .ref td) (C := RX9) (T := TX9) (N := 22) hx hb hts g_2 hown hE.1 hP 0 rfl rfl 2 (by decide) g_3 (fun _ h9 => h9) rfl dX9_switches_131 ?_
          refine lv_bipush (v := 21) hx hb dX9_switches_134 (by decide) ?_
          refine x_iald hx hb hE.1 hP 2 0 rfl rfl 21 (by decide) (by unfold vp_in; decide) dX9_switches_136 ?_
          refine lv_icmp_le (tgt := 160) hx hb dX9_switches_137 (by decide) (fun c_24 => ?_) (fun c_24 => ?_)
          · exact x_wv (q_23, triedWith, rs, fs, tri) (by unfold sX9_switches; rw [if_pos c_1]; rw [if_neg c_13]; rw [if_pos c_14]; rw [if_neg c_17]; rw [← hq_23]; unfold sX9_switches_q_23; rw [if_pos c_24]; try rfl) rfl hx hb hr hlk hS hP (hX.d rfl) [0, 1, 2, 3, 4, 5] rfl rfl (Nat.le_of_ble_eq_true rfl) (Nat.le_of_ble_eq_true rfl) dX9_switches_160
          · refine lv_aload_n hx hb dX9_switches_140 rfl (lv_at hl 2 rfl) ?_
            refine va_get (D := E.1) (ci := 9) (v := .ref nw) (C := RX9) (T := TX9) (N := 22) hx hb hts g_2 hown hE.1 hP 0 rfl rfl 1 (by decide) g_1 (fun _ h9 => h9) rfl dX9_switches_141 ?_
            refine lv_iconst (v := 1) hx hb dX9_switches_144 (by decide) ?_
            refine lv_iconst (v := 1) hx hb dX9_switches_145 (by decide) ?_
            refine x_iast hx hb hE.1 hP (hX.d rfl) hS 1 0 rfl rfl 1 (by decide) (by unfold vp_in; decide) dX9_switches_146 (fun H locs hP _ hS => ?_)
            have hP : va_P E.1 vwCl [(h, .inr (9, [.int thrown, .ref nw, .ref td, .ref tx, .int length, .int textSize, .int start, .int next, .int token, .int value, .int error, .int errorAt, .int seen, .int triedWith, .ref rr, .ref ss, .ref tr, .ref wa, .int undos, .ref ud, .ref sl, .ref sv])), (nw, .inl (E.2.1, 214, .inl (upd q_23 1 1))), (td, .inl (E.2.1, 48, .inl told)), (rr, .inl (E.2.1, 49, .inl rs)), (ss, .inl (E.2.1, 49, .inl fs)), (tr, .inl (E.2.1, 14, .inl tri))] H := hP
            refine lv_aload_n hx hb dX9_switches_147 rfl (lv_at hl 2 rfl) ?_
            refine va_get (D := E.1) (ci := 9) (v := .ref nw) (C := RX9) (T := TX9) (N := 22) hx hb hts g_2 hown hE.1 hP 0 rfl rfl 1 (by decide) g_1 (fun _ h9 => h9) rfl dX9_switches_148 ?_
            refine lv_iconst (v := 4) hx hb dX9_switches_151 (by decide) ?_
            refine lv_aload_n hx hb dX9_switches_152 rfl (lv_at hl 2 rfl) ?_
            refine va_get (D := E.1) (ci := 9) (v := .ref td) (C := RX9) (T := TX9) (N := 22) hx hb hts g_2 hown hE.1 hP 0 rfl rfl 2 (by decide) g_3 (fun _ h9 => h9) rfl dX9_switches_153 ?_
            refine lv_bipush (v := 23) hx hb dX9_switches_156 (by decide) ?_
            refine x_iald hx hb hE.1 hP 2 0 rfl rfl 23 (by decide) (by unfold vp_in; decide) dX9_switches_158 ?_
            refine x_iast hx hb hE.1 hP (hX.d rfl) hS 1 0 rfl rfl 4 (by decide) (by unfold vp_in; decide) dX9_switches_159 (fun H locs hP _ hS => ?_)
            have hP : va_P E.1 vwCl [(h, .inr (9, [.int thrown, .ref nw, .ref td, .ref tx, .int length, .int textSize, .int start, .int next, .int token, .int value, .int error, .int errorAt, .int seen, .int triedWith, .ref rr, .ref ss, .ref tr, .ref wa, .int undos, .ref ud, .ref sl, .ref sv])), (nw, .inl (E.2.1, 214, .inl (upd (upd q_23 1 1) 4 (told 23)))), (td, .inl (E.2.1, 48, .inl told)), (rr, .inl (E.2.1, 49, .inl rs)), (ss, .inl (E.2.1, 49, .inl fs)), (tr, .inl (E.2.1, 14, .inl tri))] H := hP
            exact x_wv (upd (upd q_23 1 1) 4 (told 23), triedWith, rs, fs, tri) (by unfold sX9_switches; rw [if_pos c_1]; rw [if_neg c_13]; rw [if_pos c_14]; rw [if_neg c_17]; rw [← hq_23]; unfold sX9_switches_q_23; rw [if_neg c_24]; try rfl) rfl hx hb hr hlk hS hP (hX.d rfl) [0, 1, 2, 3, 4, 5] rfl rfl (Nat.le_of_ble_eq_true rfl) (Nat.le_of_ble_eq_true rfl) dX9_switches_160
    · refine lv_aload_n hx hb dX9_switches_19 rfl (lv_at hl 0 rfl) ?_
      refine x_wV (wr := []) [] (kX9_canCapture l E h thrown nw td tx length textSize start next token value error errorAt seen triedWith rr ss tr wa undos ud sl sv now told rs fs tri hw1 hw2 hc3 hc0) ⟨hx, hb, hml, hown, hts⟩ (cwV 0 hts gX9_switches_X9_canCapture rfl rfl rfl hdX9_canCapture ⟨Nat.le_of_ble_eq_true rfl, Nat.le_of_ble_eq_true rfl⟩) hE hP (hX.d rfl) hS hA [0, 1, 2, 3, 4, 5] [] rfl rfl rfl rfl (by decide) (ci := 9) (q0 := 0) rfl rfl rfl hl.1 rfl rfl (Nat.le_of_ble_eq_true rfl) dX9_switches_20 (Nat.le_of_ble_eq_true rfl) (Nat.le_of_ble_eq_true rfl) (fun q_25 H locs hq_25 hP hD hS => ?_)
      have hP : va_P E.1 vwCl [(h, .inr (9, [.int thrown, .ref nw, .ref td, .ref tx, .int length, .int textSize, .int start, .int next, .int token, .int value, .int error, .int errorAt, .int seen, .int q_25.2.1, .ref rr, .ref ss, .ref tr, .ref wa, .int undos, .ref ud, .ref sl, .ref sv])), (nw, .inl (E.2.1, 214, .inl now)), (td, .inl (E.2.1, 48, .inl told)), (rr, .inl (E.2.1, 49, .inl q_25.2.2.1)), (ss, .inl (E.2.1, 49, .inl q_25.2.2.2.1)), (tr, .inl (E.2.1, 14, .inl q_25.2.2.2.2))] H := hP
      have hX : xD A [h, nw, td, rr, ss, tr] := xD.of hD rfl
      refine W.eq (g2 := F0 m 23 ls [.int q_25.1]) rfl ?_
      refine lv_if_eq (tgt := 30) hx hb dX9_switches_23 (by decide) (fun c_26 => ?_) (fun c_26 => ?_)
      · refine lv_iconst (v := 0) hx hb dX9_switches_30 (by decide) ?_
        refine lv_istore_n (lv' := [(1, .int 0), (0, .ref h)]) hx hb dX9_switches_31 rfl hl (by decide) rfl (fun ls hl => ?_)
        refine lv_aload_n hx hb dX9_switches_32 rfl (lv_at hl 1 rfl) ?_
        refine va_get (D := E.1) (ci := 9) (v := .ref nw) (C := RX9) (T := TX9) (N := 22) hx hb hts g_2 hown hE.1 hP 0 rfl rfl 1 (by decide) g_1 (fun _ h9 => h9) rfl dX9_switches_33 ?_
        refine lv_iconst (v := 1) hx hb dX9_switches_36 (by decide) ?_
        refine x_iald hx hb hE.1 hP 1 0 rfl rfl 1 (by decide) (by unfold vp_in; decide) dX9_switches_37 ?_
        refine lv_iconst (v := 2) hx hb dX9_switches_38 (by decide) ?_
        refine lv_icmp_ne (tgt := 63) hx hb dX9_switches_39 (by decide) (fun c_27 => ?_) (fun c_27 => ?_)
        · refine lv_iconst (v := 0) hx hb dX9_switches_63 (by decide) ?_
          refine lv_istore_n (lv' := [(2, .int 0), (1, .int 0), (0, .ref h)]) hx hb dX9_switches_64 rfl hl (by decide) rfl (fun ls hl => ?_)
          refine lv_iload_n hx hb dX9_switches_65 rfl (lv_at hl 1 rfl) ?_
          refine lv_if_ne (tgt := 74) hx hb dX9_switches_66 (by decide) (fun c_28 => absurd rfl c_28) (fun c_28 => ?_)
          refine lv_iload_n hx hb dX9_switches_69 rfl (lv_at hl 0 rfl) ?_
          refine lv_if_ne (tgt := 74) hx hb dX9_switches_70 (by decide) (fun c_29 => absurd rfl c_29) (fun c_29 => ?_)
          exact x_wv (now, q_25.2.1, q_25.2.2.1, q_25.2.2.2.1, q_25.2.2.2.2) (by unfold sX9_switches; rw [if_pos c_1]; rw [if_pos c_13]; rw [← hq_25]; unfold sX9_switches_q_25; rw [if_pos c_26]; rw [if_neg c_27]; try rfl) rfl hx hb hr hlk hS hP (hX.d rfl) [0, 1, 2, 3, 4, 5] rfl rfl (Nat.le_of_ble_eq_true rfl) (Nat.le_of_ble_eq_true rfl) dX9_switches_73
        · refine lv_aload_n hx hb dX9_switches_42 rfl (lv_at hl 1 rfl) ?_
          refine va_get (D := E.1) (ci := 9) (v := .ref nw) (C := RX9) (T := TX9) (N := 22) hx hb hts g_2 hown hE.1 hP 0 rfl rfl 1 (by decide) g_1 (fun _ h9 => h9) rfl dX9_switches_43 ?_
          refine lv_aload_n hx hb dX9_switches_46 rfl (lv_at hl 1 rfl) ?_
          refine va_get (D := E.1) (ci := 9) (v := .ref td) (C := RX9) (T := TX9) (N := 22) hx hb hts g_2 hown hE.1 hP 0 rfl rfl 2 (by decide) g_3 (fun _ h9 => h9) rfl dX9_switches_47 ?_
          refine lv_bipush (v := 19) hx hb dX9_switches_50 (by decide) ?_
          refine x_iald hx hb hE.1 hP 2 0 rfl rfl 19 (by decide) (by unfold vp_in; decide) dX9_switches_52 ?_
          refine x_rS [.ref nw, .int (told 19)] (kX9_leansBeyond l E nw 214 now (told 19) (by decide)) ⟨hx, hb, hml, hown, hts⟩ (va_cwS 2 hts gX9_switches_X9_leansBeyond rfl rfl rfl hdX9_leansBeyond.2 ⟨Nat.le_of_ble_eq_true rfl, Nat.le_of_ble_eq_true rfl⟩) hE hP (hX.d rfl) [1] rfl rfl hl.1 rfl rfl (Nat.le_of_ble_eq_true rfl) dX9_switches_53 (Nat.le_of_ble_eq_true rfl) (Nat.le_of_ble_eq_true rfl) ?_
          refine lv_if_eq (tgt := 63) hx hb dX9_switches_56 (by decide) (fun c_30 => ?_) (fun c_30 => ?_)
          · refine lv_iconst (v := 0) hx hb dX9_switches_63 (by decide) ?_
            refine lv_istore_n (lv' := [(2, .int 0), (1, .int 0), (0, .ref h)]) hx hb dX9_switches_64 rfl hl (by decide) rfl (fun ls hl => ?_)
            refine lv_iload_n hx hb dX9_switches_65 rfl (lv_at hl 1 rfl) ?_
            refine lv_if_ne (tgt := 74) hx hb dX9_switches_66 (by decide) (fun c_31 => absurd rfl c_31) (fun c_31 => ?_)
            refine lv_iload_n hx hb dX9_switches_69 rfl (lv_at hl 0 rfl) ?_
            refine lv_if_ne (tgt := 74) hx hb dX9_switches_70 (by decide) (fun c_32 => absurd rfl c_32) (fun c_32 => ?_)
            exact x_wv (now, q_25.2.1, q_25.2.2.1, q_25.2.2.2.1, q_25.2.2.2.2) (by unfold sX9_switches; rw [if_pos c_1]; rw [if_pos c_13]; rw [← hq_25]; unfold sX9_switches_q_25; rw [if_pos c_26]; rw [if_pos c_27]; rw [if_pos c_30]; try rfl) rfl hx hb hr hlk hS hP (hX.d rfl) [0, 1, 2, 3, 4, 5] rfl rfl (Nat.le_of_ble_eq_true rfl) (Nat.le_of_ble_eq_true rfl) dX9_switches_73
          · refine lv_iconst (v := 1) hx hb dX9_switches_59 (by decide) ?_
            refine lv_goto (tgt := 64) hx hb dX9_switches_60 (by decide) ?_
            refine lv_istore_n (lv' := [(2, .int 1), (1, .int 0), (0, .ref h)]) hx hb dX9_switches_64 rfl hl (by decide) rfl (fun ls hl => ?_)
            refine lv_iload_n hx hb dX9_switches_65 rfl (lv_at hl 1 rfl) ?_
            refine lv_if_ne (tgt := 74) hx hb dX9_switches_66 (by decide) (fun c_33 => absurd rfl c_33) (fun c_33 => ?_)
            refine lv_iload_n hx hb dX9_switches_69 rfl (lv_at hl 0 rfl) ?_
            refine lv_if_ne (tgt := 74) hx hb dX9_switches_70 (by decide) (fun c_34 => ?_) (fun c_34 => absurd c_34 (by decide))
            refine lv_aload_n hx hb dX9_switches_74 rfl (lv_at hl 2 rfl) ?_
            refine va_get (D := E.1) (ci := 9) (v := .ref nw) (C := RX9) (T := TX9) (N := 22) hx hb hts g_2 hown hE.1 hP 0 rfl rfl 1 (by decide) g_1 (fun _ h9 => h9) rfl dX9_switches_75 ?_
            refine lv_iconst (v := 1) hx hb dX9_switches_78 (by decide) ?_
            refine lv_iload_n hx hb dX9_switches_79 rfl (lv_at hl 1 rfl) ?_
            refine lv_if_eq (tgt := 87) hx hb dX9_switches_80 (by decide) (fun c_35 => ?_) (fun c_35 => absurd (by decide) c_35)
            refine lv_iconst (v := 1) hx hb dX9_switches_87 (by decide) ?_
            refine x_iast hx hb hE.1 hP (hX.d rfl) hS 1 0 rfl rfl 1 (by decide) (by unfold vp_in; decide) dX9_switches_88 (fun H locs hP _ hS => ?_)
            have hP : va_P E.1 vwCl [(h, .inr (9, [.int thrown, .ref nw, .ref td, .ref tx, .int length, .int textSize, .int start, .int next, .int token, .int value, .int error, .int errorAt, .int seen, .int q_25.2.1, .ref rr, .ref ss, .ref tr, .ref wa, .int undos, .ref ud, .ref sl, .ref sv])), (nw, .inl (E.2.1, 214, .inl (upd now 1 1))), (td, .inl (E.2.1, 48, .inl told)), (rr, .inl (E.2.1, 49, .inl q_25.2.2.1)), (ss, .inl (E.2.1, 49, .inl q_25.2.2.2.1)), (tr, .inl (E.2.1, 14, .inl q_25.2.2.2.2))] H := hP
            refine lv_aload_n hx hb dX9_switches_89 rfl (lv_at hl 2 rfl) ?_
            refine va_get (D := E.1) (ci := 9) (v := .ref nw) (C := RX9) (T := TX9) (N := 22) hx hb hts g_2 hown hE.1 hP 0 rfl rfl 1 (by decide) g_1 (fun _ h9 => h9) rfl dX9_switches_90 ?_
            refine lv_bipush (v := 6) hx hb dX9_switches_93 (by decide) ?_
            refine lv_dup2_11 hx hb dX9_switches_95 rfl rfl ?_
            refine x_iald hx hb hE.1 hP 1 0 rfl rfl 6 (by decide) (by unfold vp_in; decide) dX9_switches_96 ?_
            refine W.eq (g2 := F0 m 97 ls [.int (now 6), .int 6, .ref nw]) rfl ?_
            refine lv_iconst (v := 1) hx hb dX9_switches_97 (by decide) ?_
            refine lv_iadd hx hb dX9_switches_98 ?_
            refine x_iast hx hb hE.1 hP (hX.d rfl) hS 1 0 rfl rfl 6 (by decide) (by unfold vp_in; decide) dX9_switches_99 (fun H locs hP _ hS => ?_)
            have hP : va_P E.1 vwCl [(h, .inr (9, [.int thrown, .ref nw, .ref td, .ref tx, .int length, .int textSize, .int start, .int next, .int token, .int value, .int error, .int errorAt, .int seen, .int q_25.2.1, .ref rr, .ref ss, .ref tr, .ref wa, .int undos, .ref ud, .ref sl, .ref sv])), (nw, .inl (E.2.1, 214, .inl (upd (upd now 1 1) 6 ((now 6) + 1)))), (td, .inl (E.2.1, 48, .inl told)), (rr, .inl (E.2.1, 49, .inl q_25.2.2.1)), (ss, .inl (E.2.1, 49, .inl q_25.2.2.2.1)), (tr, .inl (E.2.1, 14, .inl q_25.2.2.2.2))] H := hP
            refine lv_aload_n hx hb dX9_switches_100 rfl (lv_at hl 2 rfl) ?_
            refine va_get (D := E.1) (ci := 9) (v := .ref nw) (C := RX9) (T := TX9) (N := 22) hx hb hts g_2 hown hE.1 hP 0 rfl rfl 1 (by decide) g_1 (fun _ h9 => h9) rfl dX9_switches_101 ?_
            refine lv_bipush (v := 14) hx hb dX9_switches_104 (by decide) ?_
            refine lv_aload_n hx hb dX9_switches_106 rfl (lv_at hl 2 rfl) ?_
            refine va_get (D := E.1) (ci := 9) (v := .ref nw) (C := RX9) (T := TX9) (N := 22) hx hb hts g_2 hown hE.1 hP 0 rfl rfl 1 (by decide) g_1 (fun _ h9 => h9) rfl dX9_switches_107 ?_
            refine lv_iconst (v := 0) hx hb dX9_switches_110 (by decide) ?_
            refine x_iald hx hb hE.1 hP 1 0 rfl rfl 0 (by decide) (by unfold vp_in; decide) dX9_switches_111 ?_
            refine W.eq (g2 := F0 m 112 ls [.int (now 0), .int 14, .ref nw]) rfl ?_
            refine lv_sipush (v := 200) hx hb dX9_switches_112 (by decide) ?_
            refine lv_irem hx hb dX9_switches_115 (by decide) ?_
            refine lv_iadd hx hb dX9_switches_116 ?_
            refine lv_iconst (v := 1) hx hb dX9_switches_117 (by decide) ?_
            refine x_iast hx hb hE.1 hP (hX.d rfl) hS 1 0 rfl rfl ((14 + ((now 0) - (now 0) / 200 * 200)).toNatClampNeg) rfl (x_ix200 ht) dX9_switches_118 (fun H locs hP _ hS => ?_)
            have hP : va_P E.1 vwCl [(h, .inr (9, [.int thrown, .ref nw, .ref td, .ref tx, .int length, .int textSize, .int start, .int next, .int token, .int value, .int error, .int errorAt, .int seen, .int q_25.2.1, .ref rr, .ref ss, .ref tr, .ref wa, .int undos, .ref ud, .ref sl, .ref sv])), (nw, .inl (E.2.1, 214, .inl (upd (upd (upd now 1 1) 6 ((now 6) + 1)) ((14 + ((now 0) - (now 0) / 200 * 200)).toNatClampNeg) 1))), (td, .inl (E.2.1, 48, .inl told)), (rr, .inl (E.2.1, 49, .inl q_25.2.2.1)), (ss, .inl (E.2.1, 49, .inl q_25.2.2.2.1)), (tr, .inl (E.2.1, 14, .inl q_25.2.2.2.2))] H := hP
            obtain ⟨q_36, hq_36⟩ : ∃ g : Nat → Int32, g = upd (upd (upd now 1 1) 6 ((now 6) + 1)) ((14 + ((now 0) - (now 0) / 200 * 200)).toNatClampNeg) 1 := ⟨_, rfl⟩
            rw [← hq_36] at hP
            refine lv_aload_n hx hb dX9_switches_119 rfl (lv_at hl 2 rfl) ?_
            refine lv_aload_n hx hb dX9_switches_120 rfl (lv_at hl 2 rfl) ?_
            refine va_get (D := E.1) (ci := 9) (v := .ref td) (C := RX9) (T := TX9) (N := 22) hx hb hts g_2 hown hE.1 hP 0 rfl rfl 2 (by decide) g_3 (fun _ h9 => h9) rfl dX9_switches_121 ?_
            refine lv_bipush (v := 22) hx hb dX9_switches_124 (by decide) ?_
            refine x_iald hx hb hE.1 hP 2 0 rfl rfl 22 (by decide) (by unfold vp_in; decide) dX9_switches_126 ?_
            refine x_rV [.int (told 22)] (kX9_switchesOf l E h thrown nw td tx length textSize start next token value error errorAt seen q_25.2.1 rr ss tr wa undos ud sl sv q_36 (told 22)) ⟨hx, hb, hml, hown, hts⟩ (cwV 1 hts gX9_switches_X9_switchesOf rfl rfl rfl hdX9_switchesOf ⟨Nat.le_of_ble_eq_true rfl, Nat.le_of_ble_eq_true rfl⟩) hE hP (hX.d rfl) [0, 1] rfl rfl (ci := 9) (q0 := 0) rfl rfl rfl hl.1 rfl rfl (Nat.le_of_ble_eq_true rfl) dX9_switches_127 (Nat.le_of_ble_eq_true rfl) (Nat.le_of_ble_eq_true rfl) ?_
            refine lv_aload_n hx hb dX9_switches_130 rfl (lv_at hl 2 rfl) ?_
            refine va_get (D := E.1) (ci := 9) (v := .ref td) (C := RX9) (T := TX9) (N := 22) hx hb hts g_2 hown hE.1 hP 0 rfl rfl 2 (by decide) g_3 (fun _ h9 => h9) rfl dX9_switches_131 ?_
            refine lv_bipush (v := 21) hx hb dX9_switches_134 (by decide) ?_
            refine x_iald hx hb hE.1 hP 2 0 rfl rfl 21 (by decide) (by unfold vp_in; decide) dX9_switches_136 ?_
            refine lv_icmp_le (tgt := 160) hx hb dX9_switches_137 (by decide) (fun c_37 => ?_) (fun c_37 => ?_)
            · exact x_wv (q_36, q_25.2.1, q_25.2.2.1, q_25.2.2.2.1, q_25.2.2.2.2) (by unfold sX9_switches; rw [if_pos c_1]; rw [if_pos c_13]; rw [← hq_25]; unfold sX9_switches_q_25; rw [if_pos c_26]; rw [if_pos c_27]; rw [if_neg c_30]; rw [← hq_36]; unfold sX9_switches_q_36; rw [if_pos c_37]; try rfl) rfl hx hb hr hlk hS hP (hX.d rfl) [0, 1, 2, 3, 4, 5] rfl rfl (Nat.le_of_ble_eq_true rfl) (Nat.le_of_ble_eq_true rfl) dX9_switches_160
            · refine lv_aload_n hx hb dX9_switches_140 rfl (lv_at hl 2 rfl) ?_
              refine va_get (D := E.1) (ci := 9) (v := .ref nw) (C := RX9) (T := TX9) (N := 22) hx hb hts g_2 hown hE.1 hP 0 rfl rfl 1 (by decide) g_1 (fun _ h9 => h9) rfl dX9_switches_141 ?_
              refine lv_iconst (v := 1) hx hb dX9_switches_144 (by decide) ?_
              refine lv_iconst (v := 1) hx hb dX9_switches_145 (by decide) ?_
              refine x_iast hx hb hE.1 hP (hX.d rfl) hS 1 0 rfl rfl 1 (by decide) (by unfold vp_in; decide) dX9_switches_146 (fun H locs hP _ hS => ?_)
              have hP : va_P E.1 vwCl [(h, .inr (9, [.int thrown, .ref nw, .ref td, .ref tx, .int length, .int textSize, .int start, .int next, .int token, .int value, .int error, .int errorAt, .int seen, .int q_25.2.1, .ref rr, .ref ss, .ref tr, .ref wa, .int undos, .ref ud, .ref sl, .ref sv])), (nw, .inl (E.2.1, 214, .inl (upd q_36 1 1))), (td, .inl (E.2.1, 48, .inl told)), (rr, .inl (E.2.1, 49, .inl q_25.2.2.1)), (ss, .inl (E.2.1, 49, .inl q_25.2.2.2.1)), (tr, .inl (E.2.1, 14, .inl q_25.2.2.2.2))] H := hP
              refine lv_aload_n hx hb dX9_switches_147 rfl (lv_at hl 2 rfl) ?_
              refine va_get (D := E.1) (ci := 9) (v := .ref nw) (C := RX9) (T := TX9) (N := 22) hx hb hts g_2 hown hE.1 hP 0 rfl rfl 1 (by decide) g_1 (fun _ h9 => h9) rfl dX9_switches_148 ?_
              refine lv_iconst (v := 4) hx hb dX9_switches_151 (by decide) ?_
              refine lv_aload_n hx hb dX9_switches_152 rfl (lv_at hl 2 rfl) ?_
              refine va_get (D := E.1) (ci := 9) (v := .ref td) (C := RX9) (T := TX9) (N := 22) hx hb hts g_2 hown hE.1 hP 0 rfl rfl 2 (by decide) g_3 (fun _ h9 => h9) rfl dX9_switches_153 ?_
              refine lv_bipush (v := 23) hx hb dX9_switches_156 (by decide) ?_
              refine x_iald hx hb hE.1 hP 2 0 rfl rfl 23 (by decide) (by unfold vp_in; decide) dX9_switches_158 ?_
              refine x_iast hx hb hE.1 hP (hX.d rfl) hS 1 0 rfl rfl 4 (by decide) (by unfold vp_in; decide) dX9_switches_159 (fun H locs hP _ hS => ?_)
              have hP : va_P E.1 vwCl [(h, .inr (9, [.int thrown, .ref nw, .ref td, .ref tx, .int length, .int textSize, .int start, .int next, .int token, .int value, .int error, .int errorAt, .int seen, .int q_25.2.1, .ref rr, .ref ss, .ref tr, .ref wa, .int undos, .ref ud, .ref sl, .ref sv])), (nw, .inl (E.2.1, 214, .inl (upd (upd q_36 1 1) 4 (told 23)))), (td, .inl (E.2.1, 48, .inl told)), (rr, .inl (E.2.1, 49, .inl q_25.2.2.1)), (ss, .inl (E.2.1, 49, .inl q_25.2.2.2.1)), (tr, .inl (E.2.1, 14, .inl q_25.2.2.2.2))] H := hP
              exact x_wv (upd (upd q_36 1 1) 4 (told 23), q_25.2.1, q_25.2.2.1, q_25.2.2.2.1, q_25.2.2.2.2) (by unfold sX9_switches; rw [if_pos c_1]; rw [if_pos c_13]; rw [← hq_25]; unfold sX9_switches_q_25; rw [if_pos c_26]; rw [if_pos c_27]; rw [if_neg c_30]; rw [← hq_36]; unfold sX9_switches_q_36; rw [if_neg c_37]; try rfl) rfl hx hb hr hlk hS hP (hX.d rfl) [0, 1, 2, 3, 4, 5] rfl rfl (Nat.le_of_ble_eq_true rfl) (Nat.le_of_ble_eq_true rfl) dX9_switches_160
      · refine lv_iconst (v := 1) hx hb dX9_switches_26 (by decide) ?_
        refine lv_goto (tgt := 31) hx hb dX9_switches_27 (by decide) ?_
        refine lv_istore_n (lv' := [(1, .int 1), (0, .ref h)]) hx hb dX9_switches_31 rfl hl (by decide) rfl (fun ls hl => ?_)
        refine lv_aload_n hx hb dX9_switches_32 rfl (lv_at hl 1 rfl) ?_
        refine va_get (D := E.1) (ci := 9) (v := .ref nw) (C := RX9) (T := TX9) (N := 22) hx hb hts g_2 hown hE.1 hP 0 rfl rfl 1 (by decide) g_1 (fun _ h9 => h9) rfl dX9_switches_33 ?_
        refine lv_iconst (v := 1) hx hb dX9_switches_36 (by decide) ?_
        refine x_iald hx hb hE.1 hP 1 0 rfl rfl 1 (by decide) (by unfold vp_in; decide) dX9_switches_37 ?_
        refine lv_iconst (v := 2) hx hb dX9_switches_38 (by decide) ?_
        refine lv_icmp_ne (tgt := 63) hx hb dX9_switches_39 (by decide) (fun c_38 => ?_) (fun c_38 => ?_)
        · refine lv_iconst (v := 0) hx hb dX9_switches_63 (by decide) ?_
          refine lv_istore_n (lv' := [(2, .int 0), (1, .int 1), (0, .ref h)]) hx hb dX9_switches_64 rfl hl (by decide) rfl (fun ls hl => ?_)
          refine lv_iload_n hx hb dX9_switches_65 rfl (lv_at hl 1 rfl) ?_
          refine lv_if_ne (tgt := 74) hx hb dX9_switches_66 (by decide) (fun c_39 => ?_) (fun c_39 => absurd c_39 (by decide))
          refine lv_aload_n hx hb dX9_switches_74 rfl (lv_at hl 2 rfl) ?_
          refine va_get (D := E.1) (ci := 9) (v := .ref nw) (C := RX9) (T := TX9) (N := 22) hx hb hts g_2 hown hE.1 hP 0 rfl rfl 1 (by decide) g_1 (fun _ h9 => h9) rfl dX9_switches_75 ?_
          refine lv_iconst (v := 1) hx hb dX9_switches_78 (by decide) ?_
          refine lv_iload_n hx hb dX9_switches_79 rfl (lv_at hl 1 rfl) ?_
          refine lv_if_eq (tgt := 87) hx hb dX9_switches_80 (by decide) (fun c_40 => absurd c_40 (by decide)) (fun c_40 => ?_)
          refine lv_iconst (v := 2) hx hb dX9_switches_83 (by decide) ?_
          refine lv_goto (tgt := 88) hx hb dX9_switches_84 (by decide) ?_
          refine x_iast hx hb hE.1 hP (hX.d rfl) hS 1 0 rfl rfl 1 (by decide) (by unfold vp_in; decide) dX9_switches_88 (fun H locs hP _ hS => ?_)
          have hP : va_P E.1 vwCl [(h, .inr (9, [.int thrown, .ref nw, .ref td, .ref tx, .int length, .int textSize, .int start, .int next, .int token, .int value, .int error, .int errorAt, .int seen, .int q_25.2.1, .ref rr, .ref ss, .ref tr, .ref wa, .int undos, .ref ud, .ref sl, .ref sv])), (nw, .inl (E.2.1, 214, .inl (upd now 1 2))), (td, .inl (E.2.1, 48, .inl told)), (rr, .inl (E.2.1, 49, .inl q_25.2.2.1)), (ss, .inl (E.2.1, 49, .inl q_25.2.2.2.1)), (tr, .inl (E.2.1, 14, .inl q_25.2.2.2.2))] H := hP
          refine lv_aload_n hx hb dX9_switches_89 rfl (lv_at hl 2 rfl) ?_
          refine va_get (D := E.1) (ci := 9) (v := .ref nw) (C := RX9) (T := TX9) (N := 22) hx hb hts g_2 hown hE.1 hP 0 rfl rfl 1 (by decide) g_1 (fun _ h9 => h9) rfl dX9_switches_90 ?_
          refine lv_bipush (v := 6) hx hb dX9_switches_93 (by decide) ?_
          refine lv_dup2_11 hx hb dX9_switches_95 rfl rfl ?_
          refine x_iald hx hb hE.1 hP 1 0 rfl rfl 6 (by decide) (by unfold vp_in; decide) dX9_switches_96 ?_
          refine W.eq (g2 := F0 m 97 ls [.int (now 6), .int 6, .ref nw]) rfl ?_
          refine lv_iconst (v := 1) hx hb dX9_switches_97 (by decide) ?_
          refine lv_iadd hx hb dX9_switches_98 ?_
          refine x_iast hx hb hE.1 hP (hX.d rfl) hS 1 0 rfl rfl 6 (by decide) (by unfold vp_in; decide) dX9_switches_99 (fun H locs hP _ hS => ?_)
          have hP : va_P E.1 vwCl [(h, .inr (9, [.int thrown, .ref nw, .ref td, .ref tx, .int length, .int textSize, .int start, .int next, .int token, .int value, .int error, .int errorAt, .int seen, .int q_25.2.1, .ref rr, .ref ss, .ref tr, .ref wa, .int undos, .ref ud, .ref sl, .ref sv])), (nw, .inl (E.2.1, 214, .inl (upd (upd now 1 2) 6 ((now 6) + 1)))), (td, .inl (E.2.1, 48, .inl told)), (rr, .inl (E.2.1, 49, .inl q_25.2.2.1)), (ss, .inl (E.2.1, 49, .inl q_25.2.2.2.1)), (tr, .inl (E.2.1, 14, .inl q_25.2.2.2.2))] H := hP
          refine lv_aload_n hx hb dX9_switches_100 rfl (lv_at hl 2 rfl) ?_
          refine va_get (D := E.1) (ci := 9) (v := .ref nw) (C := RX9) (T := TX9) (N := 22) hx hb hts g_2 hown hE.1 hP 0 rfl rfl 1 (by decide) g_1 (fun _ h9 => h9) rfl dX9_switches_101 ?_
          refine lv_bipush (v := 14) hx hb dX9_switches_104 (by decide) ?_
          refine lv_aload_n hx hb dX9_switches_106 rfl (lv_at hl 2 rfl) ?_
          refine va_get (D := E.1) (ci := 9) (v := .ref nw) (C := RX9) (T := TX9) (N := 22) hx hb hts g_2 hown hE.1 hP 0 rfl rfl 1 (by decide) g_1 (fun _ h9 => h9) rfl dX9_switches_107 ?_
          refine lv_iconst (v := 0) hx hb dX9_switches_110 (by decide) ?_
          refine x_iald hx hb hE.1 hP 1 0 rfl rfl 0 (by decide) (by unfold vp_in; decide) dX9_switches_111 ?_
          refine W.eq (g2 := F0 m 112 ls [.int (now 0), .int 14, .ref nw]) rfl ?_
          refine lv_sipush (v := 200) hx hb dX9_switches_112 (by decide) ?_
          refine lv_irem hx hb dX9_switches_115 (by decide) ?_
          refine lv_iadd hx hb dX9_switches_116 ?_
          refine lv_iconst (v := 1) hx hb dX9_switches_117 (by decide) ?_
          refine x_iast hx hb hE.1 hP (hX.d rfl) hS 1 0 rfl rfl ((14 + ((now 0) - (now 0) / 200 * 200)).toNatClampNeg) rfl (x_ix200 ht) dX9_switches_118 (fun H locs hP _ hS => ?_)
          have hP : va_P E.1 vwCl [(h, .inr (9, [.int thrown, .ref nw, .ref td, .ref tx, .int length, .int textSize, .int start, .int next, .int token, .int value, .int error, .int errorAt, .int seen, .int q_25.2.1, .ref rr, .ref ss, .ref tr, .ref wa, .int undos, .ref ud, .ref sl, .ref sv])), (nw, .inl (E.2.1, 214, .inl (upd (upd (upd now 1 2) 6 ((now 6) + 1)) ((14 + ((now 0) - (now 0) / 200 * 200)).toNatClampNeg) 1))), (td, .inl (E.2.1, 48, .inl told)), (rr, .inl (E.2.1, 49, .inl q_25.2.2.1)), (ss, .inl (E.2.1, 49, .inl q_25.2.2.2.1)), (tr, .inl (E.2.1, 14, .inl q_25.2.2.2.2))] H := hP
          obtain ⟨q_41, hq_41⟩ : ∃ g : Nat → Int32, g = upd (upd (upd now 1 2) 6 ((now 6) + 1)) ((14 + ((now 0) - (now 0) / 200 * 200)).toNatClampNeg) 1 := ⟨_, rfl⟩
          rw [← hq_41] at hP
          refine lv_aload_n hx hb dX9_switches_119 rfl (lv_at hl 2 rfl) ?_
          refine lv_aload_n hx hb dX9_switches_120 rfl (lv_at hl 2 rfl) ?_
          refine va_get (D := E.1) (ci := 9) (v := .ref td) (C := RX9) (T := TX9) (N := 22) hx hb hts g_2 hown hE.1 hP 0 rfl rfl 2 (by decide) g_3 (fun _ h9 => h9) rfl dX9_switches_121 ?_
          refine lv_bipush (v := 22) hx hb dX9_switches_124 (by decide) ?_
          refine x_iald hx hb hE.1 hP 2 0 rfl rfl 22 (by decide) (by unfold vp_in; decide) dX9_switches_126 ?_
          refine x_rV [.int (told 22)] (kX9_switchesOf l E h thrown nw td tx length textSize start next token value error errorAt seen q_25.2.1 rr ss tr wa undos ud sl sv q_41 (told 22)) ⟨hx, hb, hml, hown, hts⟩ (cwV 1 hts gX9_switches_X9_switchesOf rfl rfl rfl hdX9_switchesOf ⟨Nat.le_of_ble_eq_true rfl, Nat.le_of_ble_eq_true rfl⟩) hE hP (hX.d rfl) [0, 1] rfl rfl (ci := 9) (q0 := 0) rfl rfl rfl hl.1 rfl rfl (Nat.le_of_ble_eq_true rfl) dX9_switches_127 (Nat.le_of_ble_eq_true rfl) (Nat.le_of_ble_eq_true rfl) ?_
          refine lv_aload_n hx hb dX9_switches_130 rfl (lv_at hl 2 rfl) ?_
          refine va_get (D := E.1) (ci := 9) (v := .ref td) (C := RX9) (T := TX9) (N := 22) hx hb hts g_2 hown hE.1 hP 0 rfl rfl 2 (by decide) g_3 (fun _ h9 => h9) rfl dX9_switches_131 ?_
          refine lv_bipush (v := 21) hx hb dX9_switches_134 (by decide) ?_
          refine x_iald hx hb hE.1 hP 2 0 rfl rfl 21 (by decide) (by unfold vp_in; decide) dX9_switches_136 ?_
          refine lv_icmp_le (tgt := 160) hx hb dX9_switches_137 (by decide) (fun c_42 => ?_) (fun c_42 => ?_)
          · exact x_wv (q_41, q_25.2.1, q_25.2.2.1, q_25.2.2.2.1, q_25.2.2.2.2) (by unfold sX9_switches; rw [if_pos c_1]; rw [if_pos c_13]; rw [← hq_25]; unfold sX9_switches_q_25; rw [if_neg c_26]; rw [if_neg c_38]; rw [← hq_41]; unfold sX9_switches_q_41; rw [if_pos c_42]; try rfl) rfl hx hb hr hlk hS hP (hX.d rfl) [0, 1, 2, 3, 4, 5] rfl rfl (Nat.le_of_ble_eq_true rfl) (Nat.le_of_ble_eq_true rfl) dX9_switches_160
          · refine lv_aload_n hx hb dX9_switches_140 rfl (lv_at hl 2 rfl) ?_
            refine va_get (D := E.1) (ci := 9) (v := .ref nw) (C := RX9) (T := TX9) (N := 22) hx hb hts g_2 hown hE.1 hP 0 rfl rfl 1 (by decide) g_1 (fun _ h9 => h9) rfl dX9_switches_141 ?_
            refine lv_iconst (v := 1) hx hb dX9_switches_144 (by decide) ?_
            refine lv_iconst (v := 1) hx hb dX9_switches_145 (by decide) ?_
            refine x_iast hx hb hE.1 hP (hX.d rfl) hS 1 0 rfl rfl 1 (by decide) (by unfold vp_in; decide) dX9_switches_146 (fun H locs hP _ hS => ?_)
            have hP : va_P E.1 vwCl [(h, .inr (9, [.int thrown, .ref nw, .ref td, .ref tx, .int length, .int textSize, .int start, .int next, .int token, .int value, .int error, .int errorAt, .int seen, .int q_25.2.1, .ref rr, .ref ss, .ref tr, .ref wa, .int undos, .ref ud, .ref sl, .ref sv])), (nw, .inl (E.2.1, 214, .inl (upd q_41 1 1))), (td, .inl (E.2.1, 48, .inl told)), (rr, .inl (E.2.1, 49, .inl q_25.2.2.1)), (ss, .inl (E.2.1, 49, .inl q_25.2.2.2.1)), (tr, .inl (E.2.1, 14, .inl q_25.2.2.2.2))] H := hP
            refine lv_aload_n hx hb dX9_switches_147 rfl (lv_at hl 2 rfl) ?_
            refine va_get (D := E.1) (ci := 9) (v := .ref nw) (C := RX9) (T := TX9) (N := 22) hx hb hts g_2 hown hE.1 hP 0 rfl rfl 1 (by decide) g_1 (fun _ h9 => h9) rfl dX9_switches_148 ?_
            refine lv_iconst (v := 4) hx hb dX9_switches_151 (by decide) ?_
            refine lv_aload_n hx hb dX9_switches_152 rfl (lv_at hl 2 rfl) ?_
            refine va_get (D := E.1) (ci := 9) (v := .ref td) (C := RX9) (T := TX9) (N := 22) hx hb hts g_2 hown hE.1 hP 0 rfl rfl 2 (by decide) g_3 (fun _ h9 => h9) rfl dX9_switches_153 ?_
            refine lv_bipush (v := 23) hx hb dX9_switches_156 (by decide) ?_
            refine x_iald hx hb hE.1 hP 2 0 rfl rfl 23 (by decide) (by unfold vp_in; decide) dX9_switches_158 ?_
            refine x_iast hx hb hE.1 hP (hX.d rfl) hS 1 0 rfl rfl 4 (by decide) (by unfold vp_in; decide) dX9_switches_159 (fun H locs hP _ hS => ?_)
            have hP : va_P E.1 vwCl [(h, .inr (9, [.int thrown, .ref nw, .ref td, .ref tx, .int length, .int textSize, .int start, .int next, .int token, .int value, .int error, .int errorAt, .int seen, .int q_25.2.1, .ref rr, .ref ss, .ref tr, .ref wa, .int undos, .ref ud, .ref sl, .ref sv])), (nw, .inl (E.2.1, 214, .inl (upd (upd q_41 1 1) 4 (told 23)))), (td, .inl (E.2.1, 48, .inl told)), (rr, .inl (E.2.1, 49, .inl q_25.2.2.1)), (ss, .inl (E.2.1, 49, .inl q_25.2.2.2.1)), (tr, .inl (E.2.1, 14, .inl q_25.2.2.2.2))] H := hP
            exact x_wv (upd (upd q_41 1 1) 4 (told 23), q_25.2.1, q_25.2.2.1, q_25.2.2.2.1, q_25.2.2.2.2) (by unfold sX9_switches; rw [if_pos c_1]; rw [if_pos c_13]; rw [← hq_25]; unfold sX9_switches_q_25; rw [if_neg c_26]; rw [if_neg c_38]; rw [← hq_41]; unfold sX9_switches_q_41; rw [if_neg c_42]; try rfl) rfl hx hb hr hlk hS hP (hX.d rfl) [0, 1, 2, 3, 4, 5] rfl rfl (Nat.le_of_ble_eq_true rfl) (Nat.le_of_ble_eq_true rfl) dX9_switches_160
        · refine lv_aload_n hx hb dX9_switches_42 rfl (lv_at hl 1 rfl) ?_
          refine va_get (D := E.1) (ci := 9) (v := .ref nw) (C := RX9) (T := TX9) (N := 22) hx hb hts g_2 hown hE.1 hP 0 rfl rfl 1 (by decide) g_1 (fun _ h9 => h9) rfl dX9_switches_43 ?_
          refine lv_aload_n hx hb dX9_switches_46 rfl (lv_at hl 1 rfl) ?_
          refine va_get (D := E.1) (ci := 9) (v := .ref td) (C := RX9) (T := TX9) (N := 22) hx hb hts g_2 hown hE.1 hP 0 rfl rfl 2 (by decide) g_3 (fun _ h9 => h9) rfl dX9_switches_47 ?_
          refine lv_bipush (v := 19) hx hb dX9_switches_50 (by decide) ?_
          refine x_iald hx hb hE.1 hP 2 0 rfl rfl 19 (by decide) (by unfold vp_in; decide) dX9_switches_52 ?_
          refine x_rS [.ref nw, .int (told 19)] (kX9_leansBeyond l E nw 214 now (told 19) (by decide)) ⟨hx, hb, hml, hown, hts⟩ (va_cwS 2 hts gX9_switches_X9_leansBeyond rfl rfl rfl hdX9_leansBeyond.2 ⟨Nat.le_of_ble_eq_true rfl, Nat.le_of_ble_eq_true rfl⟩) hE hP (hX.d rfl) [1] rfl rfl hl.1 rfl rfl (Nat.le_of_ble_eq_true rfl) dX9_switches_53 (Nat.le_of_ble_eq_true rfl) (Nat.le_of_ble_eq_true rfl) ?_
          refine lv_if_eq (tgt := 63) hx hb dX9_switches_56 (by decide) (fun c_43 => ?_) (fun c_43 => ?_)
          · refine lv_iconst (v := 0) hx hb dX9_switches_63 (by decide) ?_
            refine lv_istore_n (lv' := [(2, .int 0), (1, .int 1), (0, .ref h)]) hx hb dX9_switches_64 rfl hl (by decide) rfl (fun ls hl => ?_)
            refine lv_iload_n hx hb dX9_switches_65 rfl (lv_at hl 1 rfl) ?_
            refine lv_if_ne (tgt := 74) hx hb dX9_switches_66 (by decide) (fun c_44 => ?_) (fun c_44 => absurd c_44 (by decide))
            refine lv_aload_n hx hb dX9_switches_74 rfl (lv_at hl 2 rfl) ?_
            refine va_get (D := E.1) (ci := 9) (v := .ref nw) (C := RX9) (T := TX9) (N := 22) hx hb hts g_2 hown hE.1 hP 0 rfl rfl 1 (by decide) g_1 (fun _ h9 => h9) rfl dX9_switches_75 ?_
            refine lv_iconst (v := 1) hx hb dX9_switches_78 (by decide) ?_
            refine lv_iload_n hx hb dX9_switches_79 rfl (lv_at hl 1 rfl) ?_
            refine lv_if_eq (tgt := 87) hx hb dX9_switches_80 (by decide) (fun c_45 => absurd c_45 (by decide)) (fun c_45 => ?_)
            refine lv_iconst (v := 2) hx hb dX9_switches_83 (by decide) ?_
            refine lv_goto (tgt := 88) hx hb dX9_switches_84 (by decide) ?_
            refine x_iast hx hb hE.1 hP (hX.d rfl) hS 1 0 rfl rfl 1 (by decide) (by unfold vp_in; decide) dX9_switches_88 (fun H locs hP _ hS => ?_)
            have hP : va_P E.1 vwCl [(h, .inr (9, [.int thrown, .ref nw, .ref td, .ref tx, .int length, .int textSize, .int start, .int next, .int token, .int value, .int error, .int errorAt, .int seen, .int q_25.2.1, .ref rr, .ref ss, .ref tr, .ref wa, .int undos, .ref ud, .ref sl, .ref sv])), (nw, .inl (E.2.1, 214, .inl (upd now 1 2))), (td, .inl (E.2.1, 48, .inl told)), (rr, .inl (E.2.1, 49, .inl q_25.2.2.1)), (ss, .inl (E.2.1, 49, .inl q_25.2.2.2.1)), (tr, .inl (E.2.1, 14, .inl q_25.2.2.2.2))] H := hP
            refine lv_aload_n hx hb dX9_switches_89 rfl (lv_at hl 2 rfl) ?_
            refine va_get (D := E.1) (ci := 9) (v := .ref nw) (C := RX9) (T := TX9) (N := 22) hx hb hts g_2 hown hE.1 hP 0 rfl rfl 1 (by decide) g_1 (fun _ h9 => h9) rfl dX9_switches_90 ?_
            refine lv_bipush (v := 6) hx hb dX9_switches_93 (by decide) ?_
            refine lv_dup2_11 hx hb dX9_switches_95 rfl rfl ?_
            refine x_iald hx hb hE.1 hP 1 0 rfl rfl 6 (by decide) (by unfold vp_in; decide) dX9_switches_96 ?_
            refine W.eq (g2 := F0 m 97 ls [.int (now 6), .int 6, .ref nw]) rfl ?_
            refine lv_iconst (v := 1) hx hb dX9_switches_97 (by decide) ?_
            refine lv_iadd hx hb dX9_switches_98 ?_
            refine x_iast hx hb hE.1 hP (hX.d rfl) hS 1 0 rfl rfl 6 (by decide) (by unfold vp_in; decide) dX9_switches_99 (fun H locs hP _ hS => ?_)
            have hP : va_P E.1 vwCl [(h, .inr (9, [.int thrown, .ref nw, .ref td, .ref tx, .int length, .int textSize, .int start, .int next, .int token, .int value, .int error, .int errorAt, .int seen, .int q_25.2.1, .ref rr, .ref ss, .ref tr, .ref wa, .int undos, .ref ud, .ref sl, .ref sv])), (nw, .inl (E.2.1, 214, .inl (upd (upd now 1 2) 6 ((now 6) + 1)))), (td, .inl (E.2.1, 48, .inl told)), (rr, .inl (E.2.1, 49, .inl q_25.2.2.1)), (ss, .inl (E.2.1, 49, .inl q_25.2.2.2.1)), (tr, .inl (E.2.1, 14, .inl q_25.2.2.2.2))] H := hP
            refine lv_aload_n hx hb dX9_switches_100 rfl (lv_at hl 2 rfl) ?_
            refine va_get (D := E.1) (ci := 9) (v := .ref nw) (C := RX9) (T := TX9) (N := 22) hx hb hts g_2 hown hE.1 hP 0 rfl rfl 1 (by decide) g_1 (fun _ h9 => h9) rfl dX9_switches_101 ?_
            refine lv_bipush (v := 14) hx hb dX9_switches_104 (by decide) ?_
            refine lv_aload_n hx hb dX9_switches_106 rfl (lv_at hl 2 rfl) ?_
            refine va_get (D := E.1) (ci := 9) (v := .ref nw) (C := RX9) (T := TX9) (N := 22) hx hb hts g_2 hown hE.1 hP 0 rfl rfl 1 (by decide) g_1 (fun _ h9 => h9) rfl dX9_switches_107 ?_
            refine lv_iconst (v := 0) hx hb dX9_switches_110 (by decide) ?_
            refine x_iald hx hb hE.1 hP 1 0 rfl rfl 0 (by decide) (by unfold vp_in; decide) dX9_switches_111 ?_
            refine W.eq (g2 := F0 m 112 ls [.int (now 0), .int 14, .ref nw]) rfl ?_
            refine lv_sipush (v := 200) hx hb dX9_switches_112 (by decide) ?_
            refine lv_irem hx hb dX9_switches_115 (by decide) ?_
            refine lv_iadd hx hb dX9_switches_116 ?_
            refine lv_iconst (v := 1) hx hb dX9_switches_117 (by decide) ?_
            refine x_iast hx hb hE.1 hP (hX.d rfl) hS 1 0 rfl rfl ((14 + ((now 0) - (now 0) / 200 * 200)).toNatClampNeg) rfl (x_ix200 ht) dX9_switches_118 (fun H locs hP _ hS => ?_)
            have hP : va_P E.1 vwCl [(h, .inr (9, [.int thrown, .ref nw, .ref td, .ref tx, .int length, .int textSize, .int start, .int next, .int token, .int value, .int error, .int errorAt, .int seen, .int q_25.2.1, .ref rr, .ref ss, .ref tr, .ref wa, .int undos, .ref ud, .ref sl, .ref sv])), (nw, .inl (E.2.1, 214, .inl (upd (upd (upd now 1 2) 6 ((now 6) + 1)) ((14 + ((now 0) - (now 0) / 200 * 200)).toNatClampNeg) 1))), (td, .inl (E.2.1, 48, .inl told)), (rr, .inl (E.2.1, 49, .inl q_25.2.2.1)), (ss, .inl (E.2.1, 49, .inl q_25.2.2.2.1)), (tr, .inl (E.2.1, 14, .inl q_25.2.2.2.2))] H := hP
            obtain ⟨q_46, hq_46⟩ : ∃ g : Nat → Int32, g = upd (upd (upd now 1 2) 6 ((now 6) + 1)) ((14 + ((now 0) - (now 0) / 200 * 200)).toNatClampNeg) 1 := ⟨_, rfl⟩
            rw [← hq_46] at hP
            refine lv_aload_n hx hb dX9_switches_119 rfl (lv_at hl 2 rfl) ?_
            refine lv_aload_n hx hb dX9_switches_120 rfl (lv_at hl 2 rfl) ?_
            refine va_get (D := E.1) (ci := 9) (v := .ref td) (C := RX9) (T := TX9) (N := 22) hx hb hts g_2 hown hE.1 hP 0 rfl rfl 2 (by decide) g_3 (fun _ h9 => h9) rfl dX9_switches_121 ?_
            refine lv_bipush (v := 22) hx hb dX9_switches_124 (by decide) ?_
            refine x_iald hx hb hE.1 hP 2 0 rfl rfl 22 (by decide) (by unfold vp_in; decide) dX9_switches_126 ?_
            refine x_rV [.int (told 22)] (kX9_switchesOf l E h thrown nw td tx length textSize start next token value error errorAt seen q_25.2.1 rr ss tr wa undos ud sl sv q_46 (told 22)) ⟨hx, hb, hml, hown, hts⟩ (cwV 1 hts gX9_switches_X9_switchesOf rfl rfl rfl hdX9_switchesOf ⟨Nat.le_of_ble_eq_true rfl, Nat.le_of_ble_eq_true rfl⟩) hE hP (hX.d rfl) [0, 1] rfl rfl (ci := 9) (q0 := 0) rfl rfl rfl hl.1 rfl rfl (Nat.le_of_ble_eq_true rfl) dX9_switches_127 (Nat.le_of_ble_eq_true rfl) (Nat.le_of_ble_eq_true rfl) ?_
            refine lv_aload_n hx hb dX9_switches_130 rfl (lv_at hl 2 rfl) ?_
            refine va_get (D := E.1) (ci := 9) (v := .ref td) (C := RX9) (T := TX9) (N := 22) hx hb hts g_2 hown hE.1 hP 0 rfl rfl 2 (by decide) g_3 (fun _ h9 => h9) rfl dX9_switches_131 ?_
            refine lv_bipush (v := 21) hx hb dX9_switches_134 (by decide) ?_
            refine x_iald hx hb hE.1 hP 2 0 rfl rfl 21 (by decide) (by unfold vp_in; decide) dX9_switches_136 ?_
            refine lv_icmp_le (tgt := 160) hx hb dX9_switches_137 (by decide) (fun c_47 => ?_) (fun c_47 => ?_)
            · exact x_wv (q_46, q_25.2.1, q_25.2.2.1, q_25.2.2.2.1, q_25.2.2.2.2) (by unfold sX9_switches; rw [if_pos c_1]; rw [if_pos c_13]; rw [← hq_25]; unfold sX9_switches_q_25; rw [if_neg c_26]; rw [if_pos c_38]; rw [if_pos c_43]; rw [← hq_46]; unfold sX9_switches_q_46; rw [if_pos c_47]; try rfl) rfl hx hb hr hlk hS hP (hX.d rfl) [0, 1, 2, 3, 4, 5] rfl rfl (Nat.le_of_ble_eq_true rfl) (Nat.le_of_ble_eq_true rfl) dX9_switches_160
            · refine lv_aload_n hx hb dX9_switches_140 rfl (lv_at hl 2 rfl) ?_
              refine va_get (D := E.1) (ci := 9) (v := .ref nw) (C := RX9) (T := TX9) (N := 22) hx hb hts g_2 hown hE.1 hP 0 rfl rfl 1 (by decide) g_1 (fun _ h9 => h9) rfl dX9_switches_141 ?_
              refine lv_iconst (v := 1) hx hb dX9_switches_144 (by decide) ?_
              refine lv_iconst (v := 1) hx hb dX9_switches_145 (by decide) ?_
              refine x_iast hx hb hE.1 hP (hX.d rfl) hS 1 0 rfl rfl 1 (by decide) (by unfold vp_in; decide) dX9_switches_146 (fun H locs hP _ hS => ?_)
              have hP : va_P E.1 vwCl [(h, .inr (9, [.int thrown, .ref nw, .ref td, .ref tx, .int length, .int textSize, .int start, .int next, .int token, .int value, .int error, .int errorAt, .int seen, .int q_25.2.1, .ref rr, .ref ss, .ref tr, .ref wa, .int undos, .ref ud, .ref sl, .ref sv])), (nw, .inl (E.2.1, 214, .inl (upd q_46 1 1))), (td, .inl (E.2.1, 48, .inl told)), (rr, .inl (E.2.1, 49, .inl q_25.2.2.1)), (ss, .inl (E.2.1, 49, .inl q_25.2.2.2.1)), (tr, .inl (E.2.1, 14, .inl q_25.2.2.2.2))] H := hP
              refine lv_aload_n hx hb dX9_switches_147 rfl (lv_at hl 2 rfl) ?_
              refine va_get (D := E.1) (ci := 9) (v := .ref nw) (C := RX9) (T := TX9) (N := 22) hx hb hts g_2 hown hE.1 hP 0 rfl rfl 1 (by decide) g_1 (fun _ h9 => h9) rfl dX9_switches_148 ?_
              refine lv_iconst (v := 4) hx hb dX9_switches_151 (by decide) ?_
              refine lv_aload_n hx hb dX9_switches_152 rfl (lv_at hl 2 rfl) ?_
              refine va_get (D := E.1) (ci := 9) (v := .ref td) (C := RX9) (T := TX9) (N := 22) hx hb hts g_2 hown hE.1 hP 0 rfl rfl 2 (by decide) g_3 (fun _ h9 => h9) rfl dX9_switches_153 ?_
              refine lv_bipush (v := 23) hx hb dX9_switches_156 (by decide) ?_
              refine x_iald hx hb hE.1 hP 2 0 rfl rfl 23 (by decide) (by unfold vp_in; decide) dX9_switches_158 ?_
              refine x_iast hx hb hE.1 hP (hX.d rfl) hS 1 0 rfl rfl 4 (by decide) (by unfold vp_in; decide) dX9_switches_159 (fun H locs hP _ hS => ?_)
              have hP : va_P E.1 vwCl [(h, .inr (9, [.int thrown, .ref nw, .ref td, .ref tx, .int length, .int textSize, .int start, .int next, .int token, .int value, .int error, .int errorAt, .int seen, .int q_25.2.1, .ref rr, .ref ss, .ref tr, .ref wa, .int undos, .ref ud, .ref sl, .ref sv])), (nw, .inl (E.2.1, 214, .inl (upd (upd q_46 1 1) 4 (told 23)))), (td, .inl (E.2.1, 48, .inl told)), (rr, .inl (E.2.1, 49, .inl q_25.2.2.1)), (ss, .inl (E.2.1, 49, .inl q_25.2.2.2.1)), (tr, .inl (E.2.1, 14, .inl q_25.2.2.2.2))] H := hP
              exact x_wv (upd (upd q_46 1 1) 4 (told 23), q_25.2.1, q_25.2.2.1, q_25.2.2.2.1, q_25.2.2.2.2) (by unfold sX9_switches; rw [if_pos c_1]; rw [if_pos c_13]; rw [← hq_25]; unfold sX9_switches_q_25; rw [if_neg c_26]; rw [if_pos c_38]; rw [if_pos c_43]; rw [← hq_46]; unfold sX9_switches_q_46; rw [if_neg c_47]; try rfl) rfl hx hb hr hlk hS hP (hX.d rfl) [0, 1, 2, 3, 4, 5] rfl rfl (Nat.le_of_ble_eq_true rfl) (Nat.le_of_ble_eq_true rfl) dX9_switches_160
          · refine lv_iconst (v := 1) hx hb dX9_switches_59 (by decide) ?_
            refine lv_goto (tgt := 64) hx hb dX9_switches_60 (by decide) ?_
            refine lv_istore_n (lv' := [(2, .int 1), (1, .int 1), (0, .ref h)]) hx hb dX9_switches_64 rfl hl (by decide) rfl (fun ls hl => ?_)
            refine lv_iload_n hx hb dX9_switches_65 rfl (lv_at hl 1 rfl) ?_
            refine lv_if_ne (tgt := 74) hx hb dX9_switches_66 (by decide) (fun c_48 => ?_) (fun c_48 => absurd c_48 (by decide))
            refine lv_aload_n hx hb dX9_switches_74 rfl (lv_at hl 2 rfl) ?_
            refine va_get (D := E.1) (ci := 9) (v := .ref nw) (C := RX9) (T := TX9) (N := 22) hx hb hts g_2 hown hE.1 hP 0 rfl rfl 1 (by decide) g_1 (fun _ h9 => h9) rfl dX9_switches_75 ?_
            refine lv_iconst (v := 1) hx hb dX9_switches_78 (by decide) ?_
            refine lv_iload_n hx hb dX9_switches_79 rfl (lv_at hl 1 rfl) ?_
            refine lv_if_eq (tgt := 87) hx hb dX9_switches_80 (by decide) (fun c_49 => absurd c_49 (by decide)) (fun c_49 => ?_)
            refine lv_iconst (v := 2) hx hb dX9_switches_83 (by decide) ?_
            refine lv_goto (tgt := 88) hx hb dX9_switches_84 (by decide) ?_
            refine x_iast hx hb hE.1 hP (hX.d rfl) hS 1 0 rfl rfl 1 (by decide) (by unfold vp_in; decide) dX9_switches_88 (fun H locs hP _ hS => ?_)
            have hP : va_P E.1 vwCl [(h, .inr (9, [.int thrown, .ref nw, .ref td, .ref tx, .int length, .int textSize, .int start, .int next, .int token, .int value, .int error, .int errorAt, .int seen, .int q_25.2.1, .ref rr, .ref ss, .ref tr, .ref wa, .int undos, .ref ud, .ref sl, .ref sv])), (nw, .inl (E.2.1, 214, .inl (upd now 1 2))), (td, .inl (E.2.1, 48, .inl told)), (rr, .inl (E.2.1, 49, .inl q_25.2.2.1)), (ss, .inl (E.2.1, 49, .inl q_25.2.2.2.1)), (tr, .inl (E.2.1, 14, .inl q_25.2.2.2.2))] H := hP
            refine lv_aload_n hx hb dX9_switches_89 rfl (lv_at hl 2 rfl) ?_
            refine va_get (D := E.1) (ci := 9) (v := .ref nw) (C := RX9) (T := TX9) (N := 22) hx hb hts g_2 hown hE.1 hP 0 rfl rfl 1 (by decide) g_1 (fun _ h9 => h9) rfl dX9_switches_90 ?_
            refine lv_bipush (v := 6) hx hb dX9_switches_93 (by decide) ?_
            refine lv_dup2_11 hx hb dX9_switches_95 rfl rfl ?_
            refine x_iald hx hb hE.1 hP 1 0 rfl rfl 6 (by decide) (by unfold vp_in; decide) dX9_switches_96 ?_
            refine W.eq (g2 := F0 m 97 ls [.int (now 6), .int 6, .ref nw]) rfl ?_
            refine lv_iconst (v := 1) hx hb dX9_switches_97 (by decide) ?_
            refine lv_iadd hx hb dX9_switches_98 ?_
            refine x_iast hx hb hE.1 hP (hX.d rfl) hS 1 0 rfl rfl 6 (by decide) (by unfold vp_in; decide) dX9_switches_99 (fun H locs hP _ hS => ?_)
            have hP : va_P E.1 vwCl [(h, .inr (9, [.int thrown, .ref nw, .ref td, .ref tx, .int length, .int textSize, .int start, .int next, .int token, .int value, .int error, .int errorAt, .int seen, .int q_25.2.1, .ref rr, .ref ss, .ref tr, .ref wa, .int undos, .ref ud, .ref sl, .ref sv])), (nw, .inl (E.2.1, 214, .inl (upd (upd now 1 2) 6 ((now 6) + 1)))), (td, .inl (E.2.1, 48, .inl told)), (rr, .inl (E.2.1, 49, .inl q_25.2.2.1)), (ss, .inl (E.2.1, 49, .inl q_25.2.2.2.1)), (tr, .inl (E.2.1, 14, .inl q_25.2.2.2.2))] H := hP
            refine lv_aload_n hx hb dX9_switches_100 rfl (lv_at hl 2 rfl) ?_
            refine va_get (D := E.1) (ci := 9) (v := .ref nw) (C := RX9) (T := TX9) (N := 22) hx hb hts g_2 hown hE.1 hP 0 rfl rfl 1 (by decide) g_1 (fun _ h9 => h9) rfl dX9_switches_101 ?_
            refine lv_bipush (v := 14) hx hb dX9_switches_104 (by decide) ?_
            refine lv_aload_n hx hb dX9_switches_106 rfl (lv_at hl 2 rfl) ?_
            refine va_get (D := E.1) (ci := 9) (v := .ref nw) (C := RX9) (T := TX9) (N := 22) hx hb hts g_2 hown hE.1 hP 0 rfl rfl 1 (by decide) g_1 (fun _ h9 => h9) rfl dX9_switches_107 ?_
            refine lv_iconst (v := 0) hx hb dX9_switches_110 (by decide) ?_
            refine x_iald hx hb hE.1 hP 1 0 rfl rfl 0 (by decide) (by unfold vp_in; decide) dX9_switches_111 ?_
            refine W.eq (g2 := F0 m 112 ls [.int (now 0), .int 14, .ref nw]) rfl ?_
            refine lv_sipush (v := 200) hx hb dX9_switches_112 (by decide) ?_
            refine lv_irem hx hb dX9_switches_115 (by decide) ?_
            refine lv_iadd hx hb dX9_switches_116 ?_
            refine lv_iconst (v := 1) hx hb dX9_switches_117 (by decide) ?_
            refine x_iast hx hb hE.1 hP (hX.d rfl) hS 1 0 rfl rfl ((14 + ((now 0) - (now 0) / 200 * 200)).toNatClampNeg) rfl (x_ix200 ht) dX9_switches_118 (fun H locs hP _ hS => ?_)
            have hP : va_P E.1 vwCl [(h, .inr (9, [.int thrown, .ref nw, .ref td, .ref tx, .int length, .int textSize, .int start, .int next, .int token, .int value, .int error, .int errorAt, .int seen, .int q_25.2.1, .ref rr, .ref ss, .ref tr, .ref wa, .int undos, .ref ud, .ref sl, .ref sv])), (nw, .inl (E.2.1, 214, .inl (upd (upd (upd now 1 2) 6 ((now 6) + 1)) ((14 + ((now 0) - (now 0) / 200 * 200)).toNatClampNeg) 1))), (td, .inl (E.2.1, 48, .inl told)), (rr, .inl (E.2.1, 49, .inl q_25.2.2.1)), (ss, .inl (E.2.1, 49, .inl q_25.2.2.2.1)), (tr, .inl (E.2.1, 14, .inl q_25.2.2.2.2))] H := hP
            obtain ⟨q_50, hq_50⟩ : ∃ g : Nat → Int32, g = upd (upd (upd now 1 2) 6 ((now 6) + 1)) ((14 + ((now 0) - (now 0) / 200 * 200)).toNatClampNeg) 1 := ⟨_, rfl⟩
            rw [← hq_50] at hP
            refine lv_aload_n hx hb dX9_switches_119 rfl (lv_at hl 2 rfl) ?_
            refine lv_aload_n hx hb dX9_switches_120 rfl (lv_at hl 2 rfl) ?_
            refine va_get (D := E.1) (ci := 9) (v := .ref td) (C := RX9) (T := TX9) (N := 22) hx hb hts g_2 hown hE.1 hP 0 rfl rfl 2 (by decide) g_3 (fun _ h9 => h9) rfl dX9_switches_121 ?_
            refine lv_bipush (v := 22) hx hb dX9_switches_124 (by decide) ?_
            refine x_iald hx hb hE.1 hP 2 0 rfl rfl 22 (by decide) (by unfold vp_in; decide) dX9_switches_126 ?_
            refine x_rV [.int (told 22)] (kX9_switchesOf l E h thrown nw td tx length textSize start next token value error errorAt seen q_25.2.1 rr ss tr wa undos ud sl sv q_50 (told 22)) ⟨hx, hb, hml, hown, hts⟩ (cwV 1 hts gX9_switches_X9_switchesOf rfl rfl rfl hdX9_switchesOf ⟨Nat.le_of_ble_eq_true rfl, Nat.le_of_ble_eq_true rfl⟩) hE hP (hX.d rfl) [0, 1] rfl rfl (ci := 9) (q0 := 0) rfl rfl rfl hl.1 rfl rfl (Nat.le_of_ble_eq_true rfl) dX9_switches_127 (Nat.le_of_ble_eq_true rfl) (Nat.le_of_ble_eq_true rfl) ?_
            refine lv_aload_n hx hb dX9_switches_130 rfl (lv_at hl 2 rfl) ?_
            refine va_get (D := E.1) (ci := 9) (v := .ref td) (C := RX9) (T := TX9) (N := 22) hx hb hts g_2 hown hE.1 hP 0 rfl rfl 2 (by decide) g_3 (fun _ h9 => h9) rfl dX9_switches_131 ?_
            refine lv_bipush (v := 21) hx hb dX9_switches_134 (by decide) ?_
            refine x_iald hx hb hE.1 hP 2 0 rfl rfl 21 (by decide) (by unfold vp_in; decide) dX9_switches_136 ?_
            refine lv_icmp_le (tgt := 160) hx hb dX9_switches_137 (by decide) (fun c_51 => ?_) (fun c_51 => ?_)
            · exact x_wv (q_50, q_25.2.1, q_25.2.2.1, q_25.2.2.2.1, q_25.2.2.2.2) (by unfold sX9_switches; rw [if_pos c_1]; rw [if_pos c_13]; rw [← hq_25]; unfold sX9_switches_q_25; rw [if_neg c_26]; rw [if_pos c_38]; rw [if_neg c_43]; rw [← hq_50]; unfold sX9_switches_q_50; rw [if_pos c_51]; try rfl) rfl hx hb hr hlk hS hP (hX.d rfl) [0, 1, 2, 3, 4, 5] rfl rfl (Nat.le_of_ble_eq_true rfl) (Nat.le_of_ble_eq_true rfl) dX9_switches_160
            · refine lv_aload_n hx hb dX9_switches_140 rfl (lv_at hl 2 rfl) ?_
              refine va_get (D := E.1) (ci := 9) (v := .ref nw) (C := RX9) (T := TX9) (N := 22) hx hb hts g_2 hown hE.1 hP 0 rfl rfl 1 (by decide) g_1 (fun _ h9 => h9) rfl dX9_switches_141 ?_
              refine lv_iconst (v := 1) hx hb dX9_switches_144 (by decide) ?_
              refine lv_iconst (v := 1) hx hb dX9_switches_145 (by decide) ?_
              refine x_iast hx hb hE.1 hP (hX.d rfl) hS 1 0 rfl rfl 1 (by decide) (by unfold vp_in; decide) dX9_switches_146 (fun H locs hP _ hS => ?_)
              have hP : va_P E.1 vwCl [(h, .inr (9, [.int thrown, .ref nw, .ref td, .ref tx, .int length, .int textSize, .int start, .int next, .int token, .int value, .int error, .int errorAt, .int seen, .int q_25.2.1, .ref rr, .ref ss, .ref tr, .ref wa, .int undos, .ref ud, .ref sl, .ref sv])), (nw, .inl (E.2.1, 214, .inl (upd q_50 1 1))), (td, .inl (E.2.1, 48, .inl told)), (rr, .inl (E.2.1, 49, .inl q_25.2.2.1)), (ss, .inl (E.2.1, 49, .inl q_25.2.2.2.1)), (tr, .inl (E.2.1, 14, .inl q_25.2.2.2.2))] H := hP
              refine lv_aload_n hx hb dX9_switches_147 rfl (lv_at hl 2 rfl) ?_
              refine va_get (D := E.1) (ci := 9) (v := .ref nw) (C := RX9) (T := TX9) (N := 22) hx hb hts g_2 hown hE.1 hP 0 rfl rfl 1 (by decide) g_1 (fun _ h9 => h9) rfl dX9_switches_148 ?_
              refine lv_iconst (v := 4) hx hb dX9_switches_151 (by decide) ?_
              refine lv_aload_n hx hb dX9_switches_152 rfl (lv_at hl 2 rfl) ?_
              refine va_get (D := E.1) (ci := 9) (v := .ref td) (C := RX9) (T := TX9) (N := 22) hx hb hts g_2 hown hE.1 hP 0 rfl rfl 2 (by decide) g_3 (fun _ h9 => h9) rfl dX9_switches_153 ?_
              refine lv_bipush (v := 23) hx hb dX9_switches_156 (by decide) ?_
              refine x_iald hx hb hE.1 hP 2 0 rfl rfl 23 (by decide) (by unfold vp_in; decide) dX9_switches_158 ?_
              refine x_iast hx hb hE.1 hP (hX.d rfl) hS 1 0 rfl rfl 4 (by decide) (by unfold vp_in; decide) dX9_switches_159 (fun H locs hP _ hS => ?_)
              have hP : va_P E.1 vwCl [(h, .inr (9, [.int thrown, .ref nw, .ref td, .ref tx, .int length, .int textSize, .int start, .int next, .int token, .int value, .int error, .int errorAt, .int seen, .int q_25.2.1, .ref rr, .ref ss, .ref tr, .ref wa, .int undos, .ref ud, .ref sl, .ref sv])), (nw, .inl (E.2.1, 214, .inl (upd (upd q_50 1 1) 4 (told 23)))), (td, .inl (E.2.1, 48, .inl told)), (rr, .inl (E.2.1, 49, .inl q_25.2.2.1)), (ss, .inl (E.2.1, 49, .inl q_25.2.2.2.1)), (tr, .inl (E.2.1, 14, .inl q_25.2.2.2.2))] H := hP
              exact x_wv (upd (upd q_50 1 1) 4 (told 23), q_25.2.1, q_25.2.2.1, q_25.2.2.2.1, q_25.2.2.2.2) (by unfold sX9_switches; rw [if_pos c_1]; rw [if_pos c_13]; rw [← hq_25]; unfold sX9_switches_q_25; rw [if_neg c_26]; rw [if_pos c_38]; rw [if_neg c_43]; rw [← hq_50]; unfold sX9_switches_q_50; rw [if_neg c_51]; try rfl) rfl hx hb hr hlk hS hP (hX.d rfl) [0, 1, 2, 3, 4, 5] rfl rfl (Nat.le_of_ble_eq_true rfl) (Nat.le_of_ble_eq_true rfl) dX9_switches_160
