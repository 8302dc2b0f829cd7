def sX3_readToken_l8 (en : Int32) (buf : Nat → Int32) (kont_8 : Int32 → Int32 × Int32 × Int32 × Int32) : Nat → Int32 → Int32 × Int32 × Int32 × Int32
  | 0, u_8 => kont_8 u_8
  | kk_8 + 1, u_8 =>
    if en ≤ u_8 then
      kont_8 u_8
    else
      if (sX3_isSeparator (sX8_valueAt 500 buf u_8)) = 0 then
        kont_8 u_8
      else
        sX3_readToken_l8 en buf kont_8 kk_8 (u_8 + 1)
theorem sX3_readToken_l8_s (en : Int32) (buf : Nat → Int32) (kont_8 : Int32 → Int32 × Int32 × Int32 × Int32) (kk_8 : Nat) (u_8 : Int32) : sX3_readToken_l8 en buf kont_8 (kk_8 + 1) u_8 =
    if en ≤ u_8 then
      kont_8 u_8
    else
      if (sX3_isSeparator (sX8_valueAt 500 buf u_8)) = 0 then
        kont_8 u_8
      else
        sX3_readToken_l8 en buf kont_8 kk_8 (u_8 + 1) := rfl
def sX3_readToken (en : Int32) (next : Int32) (value : Int32) (buf : Nat → Int32) : Int32 × Int32 × Int32 × Int32 :=
  sX3_readToken_l8 en buf (fun (u_8 : Int32) => if u_8 < en then if (sX3_isLetter (sX8_valueAt 500 buf u_8)) = 0 then if (sX3_isDigit (sX8_valueAt 500 buf u_8)) = 0 then if (sX8_valueAt 500 buf u_8) = 59 then (u_8, u_8 + 1, 3, value) else (u_8, u_8 + 1, 4, value) else (u_8, (sX3_readDigits en u_8 u_8 buf).1, (sX3_readDigits en u_8 u_8 buf).2.1, (sX3_readDigits en u_8 u_8 buf).2.2) else (u_8, (sX3_readLetters en u_8 u_8 buf).1, (sX3_readLetters en u_8 u_8 buf).2, value) else (u_8, u_8, 0, value)) (xMu en next + 1) next
theorem hdX3_readToken : yX3_readToken.cls = RX3 ∧ yX3_readToken.cls ≠ "java/lang/invoke/MethodHandle" ∧ yX3_readToken.cls ≠ "java/lang/invoke/VarHandle" ∧ (parseMethodDescriptor yX3_readToken.desc).map (fun d => d.parameters.length) = some 0 := by decide +kernel
set_option maxHeartbeats 4000000 in
set_option maxRecDepth 100000 in
theorem kX3_readToken (l : Launch) (E : XE) (h : Nat) (bu : Nat) (nu : Nat) (used : Int32) (en : Int32) (met : Int32) (start : Int32) (next : Int32) (kind : Int32) (value : Int32) (buf : Nat → Int32) : xW (T := Int32 × Int32 × Int32 × Int32) l yX3_readToken wsX3_readToken ({ frames := 2, cells := 0, slots := 0, locals := 41 }) E [(h, .inr (3, [.ref bu, .ref nu, .int used, .int en, .int met, .int start, .int next, .int kind, .int value])), (bu, .inl (E.2.1, 500, .inl buf))] [.ref h] (fun _ => none) (fun q => [(h, .inr (3, [.ref bu, .ref nu, .int used, .int en, .int met, .int q.1, .int q.2.1, .int q.2.2.1, .int q.2.2.2])), (bu, .inl (E.2.1, 500, .inl buf))]) (sX3_readToken en next value buf) 0 0 := by
  refine xW.of (cc := cX3_readToken) (maxL := 2) (ret := none) (by decide) rfl (Nat.le_of_ble_eq_true rfl) ?_
  intro p e s m args below meth c ls A hM hE hP hD hS hA hl
  obtain ⟨hx, hb, hr, hml, hts, hown, hlk, hnm⟩ := hM
  have g_1 : (Cond.fieldLink RX3 36 "RailPendulum$PlantReader" "next" "I").before args s = true := hts (Cond.fieldLink RX3 36 "RailPendulum$PlantReader" "next" "I") (by decide +kernel)
  have g_2 : ∀ w ∈ wsX30, w ∈ wsX3_readToken := by decide +kernel
  have g_3 : (Cond.fieldLink RX3 88 "RailPendulum$PlantReader" "start" "I").before args s = true := hts (Cond.fieldLink RX3 88 "RailPendulum$PlantReader" "start" "I") (by decide +kernel)
  have g_4 : (Cond.fieldLink RX3 33 "RailPendulum$PlantReader" "end" "I").before args s = true := hts (Cond.fieldLink RX3 33 "RailPendulum$PlantReader" "end" "I") (by decide +kernel)
  have g_5 : (Cond.fieldLink RX3 9 "RailPendulum$PlantReader" "buffer" "[I").before args s = true := hts (Cond.fieldLink RX3 9 "RailPendulum$PlantReader" "buffer" "[I") (by decide +kernel)
  have g_6 : (Cond.initialized yX8_valueAt.cls).before args s = true := hts _ (by decide +kernel)
  have g_7 : (Cond.static yX8_valueAt).before args s = true := hts (Cond.static yX8_valueAt) (by decide +kernel)
  have g_8 : va_Nw (.methodLinkNest RX3 58 yX8_valueAt "RailPendulum") s := hE.2 _ (by decide +kernel)
  have g_9 : (Cond.fieldLink RX3 45 "RailPendulum$PlantReader" "kind" "I").before args s = true := hts (Cond.fieldLink RX3 45 "RailPendulum$PlantReader" "kind" "I") (by decide +kernel)
  have hX : xD A [h, bu] := xD.of hD rfl
  have hl : lv_has ls 2 [(0, .ref h)] := hl
  refine lv_aload_n hx hb dX3_readToken_0 rfl (lv_at hl 0 rfl) ?_
  refine lv_aload_n hx hb dX3_readToken_1 rfl (lv_at hl 0 rfl) ?_
  refine va_get (D := E.1) (ci := 3) (v := .int next) (C := RX3) (T := TX3) (N := 9) hx hb hts g_2 hown hE.1 hP 0 rfl rfl 6 (by decide) g_1 (fun _ h9 => h9) rfl dX3_readToken_2 ?_
  refine va_put (D := E.1) (ci := 3) (v := .int next) (ty := .int) (C := RX3) (T := TX3) (N := 9) hx hb hts g_2 tyX3 tyX3_ok nmX3 hown hE.1 hP (hX.d rfl) hS 0 rfl rfl 5 (by decide) g_3 (fun _ h9 => h9) rfl (by decide +kernel) rfl rfl (Nat.le_of_ble_eq_true rfl) dX3_readToken_5 (fun H locs hP _ hS => ?_)
  have hP : va_P E.1 vwCl [(h, .inr (3, [.ref bu, .ref nu, .int used, .int en, .int met, .int next, .int next, .int kind, .int value])), (bu, .inl (E.2.1, 500, .inl buf))] H := hP
  have ex_8 : ∀ (u_8 : Int32), ∀ (H : Heap) (locs : List Loc), va_P E.1 vwCl [(h, .inr (3, [.ref bu, .ref nu, .int used, .int en, .int met, .int u_8, .int next, .int kind, .int value])), (bu, .inl (E.2.1, 500, .inl buf))] H → va_S A s.heap H locs → ∀ (ls : Array Slot), lv_has ls 2 [(0, .ref h)] → (sX3_readToken en next value buf) = (if u_8 < en then if (sX3_isLetter (sX8_valueAt 500 buf u_8)) = 0 then if (sX3_isDigit (sX8_valueAt 500 buf u_8)) = 0 then if (sX8_valueAt 500 buf u_8) = 59 then (u_8, u_8 + 1, 3, value) else (u_8, u_8 + 1, 4, value) else (u_8, (sX3_readDigits en u_8 u_8 buf).1, (sX3_readDigits en u_8 u_8 buf).2.1, (sX3_readDigits en u_8 u_8 buf).2.2) else (u_8, (sX3_readLetters en u_8 u_8 buf).1, (sX3_readLetters en u_8 u_8 buf).2, value) else (u_8, u_8, 0, value)) → W p l e ({ frames := 2, cells := 0, slots := 0, locals := 41 }) s m args below meth c H locs 0 0 (MQ below (xO (T := Int32 × Int32 × Int32 × Int32) E A (fun _ => none) (fun q => [(h, .inr (3, [.ref bu, .ref nu, .int used, .int en, .int met, .int q.1, .int q.2.1, .int q.2.2.1, .int q.2.2.2])), (bu, .inl (E.2.1, 500, .inl buf))]) (sX3_readToken en next value buf)) args s 0 0 A) (F0 m 49 ls []) := by
    intro u_8 H locs hP hS ls hl hx_8
    refine lv_aload_n hx hb dX3_readToken_49 rfl (lv_at hl 0 rfl) ?_
    refine lv_aload_n hx hb dX3_readToken_50 rfl (lv_at hl 0 rfl) ?_
    refine va_get (D := E.1) (ci := 3) (v := .int u_8) (C := RX3) (T := TX3) (N := 9) hx hb hts g_2 hown hE.1 hP 0 rfl rfl 5 (by decide) g_3 (fun _ h9 => h9) rfl dX3_readToken_51 ?_
    refine va_put (D := E.1) (ci := 3) (v := .int u_8) (ty := .int) (C := RX3) (T := TX3) (N := 9) hx hb hts g_2 tyX3 tyX3_ok nmX3 hown hE.1 hP (hX.d rfl) hS 0 rfl rfl 6 (by decide) g_1 (fun _ h9 => h9) rfl (by decide +kernel) rfl rfl (Nat.le_of_ble_eq_true rfl) dX3_readToken_54 (fun H locs hP _ hS => ?_)
    have hP : va_P E.1 vwCl [(h, .inr (3, [.ref bu, .ref nu, .int used, .int en, .int met, .int u_8, .int u_8, .int kind, .int value])), (bu, .inl (E.2.1, 500, .inl buf))] H := hP
    refine lv_aload_n hx hb dX3_readToken_57 rfl (lv_at hl 0 rfl) ?_
    refine va_get (D := E.1) (ci := 3) (v := .int u_8) (C := RX3) (T := TX3) (N := 9) hx hb hts g_2 hown hE.1 hP 0 rfl rfl 5 (by decide) g_3 (fun _ h9 => h9) rfl dX3_readToken_58 ?_
    refine lv_aload_n hx hb dX3_readToken_61 rfl (lv_at hl 0 rfl) ?_
    refine va_get (D := E.1) (ci := 3) (v := .int en) (C := RX3) (T := TX3) (N := 9) hx hb hts g_2 hown hE.1 hP 0 rfl rfl 3 (by decide) g_4 (fun _ h9 => h9) rfl dX3_readToken_62 ?_
    refine lv_icmp_lt (tgt := 74) hx hb dX3_readToken_65 (by decide) (fun c_1 => ?_) (fun c_1 => ?_)
    · refine lv_aload_n hx hb dX3_readToken_74 rfl (lv_at hl 0 rfl) ?_
      refine va_get (D := E.1) (ci := 3) (v := .ref bu) (C := RX3) (T := TX3) (N := 9) hx hb hts g_2 hown hE.1 hP 0 rfl rfl 0 (by decide) g_5 (fun _ h9 => h9) rfl dX3_readToken_75 ?_
      refine lv_aload_n hx hb dX3_readToken_78 rfl (lv_at hl 0 rfl) ?_
      refine va_get (D := E.1) (ci := 3) (v := .int u_8) (C := RX3) (T := TX3) (N := 9) hx hb hts g_2 hown hE.1 hP 0 rfl rfl 5 (by decide) g_3 (fun _ h9 => h9) rfl dX3_readToken_79 ?_
      refine x_rSN [.ref bu, .int u_8] (kX8_valueAt l E bu 500 buf u_8 (by decide)) ⟨hx, hb, hml, hown, hts⟩ ⟨va_cnB 2 hts gX3_readToken_X8_valueAt_n58 rfl rfl rfl g_8 g_6 hdX8_valueAt.2 ⟨Nat.le_of_ble_eq_true rfl, Nat.le_of_ble_eq_true rfl⟩, g_7, trivial⟩ hE hP (hX.d rfl) [1] rfl rfl hl.1 rfl rfl (Nat.le_of_ble_eq_true rfl) dX3_readToken_82 (Nat.le_of_ble_eq_true rfl) (Nat.le_of_ble_eq_true rfl) ?_
      refine lv_istore_n (lv' := [(1, .int (sX8_valueAt 500 buf u_8)), (0, .ref h)]) hx hb dX3_readToken_85 rfl hl (by decide) rfl (fun ls hl => ?_)
      refine lv_iload_n hx hb dX3_readToken_86 rfl (lv_at hl 0 rfl) ?_
      refine x_rS [.int (sX8_valueAt 500 buf u_8)] (kX3_isLetter l E (sX8_valueAt 500 buf u_8)) ⟨hx, hb, hml, hown, hts⟩ (va_cwS 1 hts gX3_readToken_X3_isLetter rfl rfl rfl hdX3_isLetter.2 ⟨Nat.le_of_ble_eq_true rfl, Nat.le_of_ble_eq_true rfl⟩) hE hP (hX.d rfl) [] rfl rfl hl.1 rfl rfl (Nat.le_of_ble_eq_true rfl) dX3_readToken_87 (Nat.le_of_ble_eq_true rfl) (Nat.le_of_ble_eq_true rfl) ?_
      refine lv_if_eq (tgt := 100) hx hb dX3_readToken_90 (by decide) (fun c_2 => ?_) (fun c_2 => ?_)
      · refine lv_iload_n hx hb dX3_readToken_100 rfl (lv_at hl 0 rfl) ?_
        refine x_rS [.int (sX8_valueAt 500 buf u_8)] (kX3_isDigit l E (sX8_valueAt 500 buf u_8)) ⟨hx, hb, hml, hown, hts⟩ (va_cwS 1 hts gX3_readToken_X3_isDigit rfl rfl rfl hdX3_isDigit.2 ⟨Nat.le_of_ble_eq_true rfl, Nat.le_of_ble_eq_true rfl⟩) hE hP (hX.d rfl) [] rfl rfl hl.1 rfl rfl (Nat.le_of_ble_eq_true rfl) dX3_readToken_101 (Nat.le_of_ble_eq_true rfl) (Nat.le_of_ble_eq_true rfl) ?_
        refine lv_if_eq (tgt := 114) hx hb dX3_readToken_104 (by decide) (fun c_3 => ?_) (fun c_3 => ?_)
        · refine lv_aload_n hx hb dX3_readToken_114 rfl (lv_at hl 1 rfl) ?_
          refine lv_dup hx hb dX3_readToken_115 rfl ?_
          refine va_get (D := E.1) (ci := 3) (v := .int u_8) (C := RX3) (T := TX3) (N := 9) hx hb hts g_2 hown hE.1 hP 0 rfl rfl 6 (by decide) g_1 (fun _ h9 => h9) rfl dX3_readToken_116 ?_
          refine lv_iconst (v := 1) hx hb dX3_readToken_119 (by decide) ?_
          refine lv_iadd hx hb dX3_readToken_120 ?_
          refine va_put (D := E.1) (ci := 3) (v := .int (u_8 + 1)) (ty := .int) (C := RX3) (T := TX3) (N := 9) hx hb hts g_2 tyX3 tyX3_ok nmX3 hown hE.1 hP (hX.d rfl) hS 0 rfl rfl 6 (by decide) g_1 (fun _ h9 => h9) rfl (by decide +kernel) rfl rfl (Nat.le_of_ble_eq_true rfl) dX3_readToken_121 (fun H locs hP _ hS => ?_)
          have hP : va_P E.1 vwCl [(h, .inr (3, [.ref bu, .ref nu, .int used, .int en, .int met, .int u_8, .int (u_8 + 1), .int kind, .int value])), (bu, .inl (E.2.1, 500, .inl buf))] H := hP
          refine lv_aload_n hx hb dX3_readToken_124 rfl (lv_at hl 1 rfl) ?_
          refine lv_iload_n hx hb dX3_readToken_125 rfl (lv_at hl 0 rfl) ?_
          refine lv_bipush (v := 59) hx hb dX3_readToken_126 (by decide) ?_
          refine lv_icmp_ne (tgt := 135) hx hb dX3_readToken_128 (by decide) (fun c_4 => ?_) (fun c_4 => ?_)
          · refine lv_iconst (v := 4) hx hb dX3_readToken_135 (by decide) ?_
            refine va_put (D := E.1) (ci := 3) (v := .int 4) (ty := .int) (C := RX3) (T := TX3) (N := 9) hx hb hts g_2 tyX3 tyX3_ok nmX3 hown hE.1 hP (hX.d rfl) hS 0 rfl rfl 7 (by decide) g_9 (fun _ h9 => h9) rfl (by decide +kernel) rfl rfl (Nat.le_of_ble_eq_true rfl) dX3_readToken_136 (fun H locs hP _ hS => ?_)
            have hP : va_P E.1 vwCl [(h, .inr (3, [.ref bu, .ref nu, .int used, .int en, .int met, .int u_8, .int (u_8 + 1), .int 4, .int value])), (bu, .inl (E.2.1, 500, .inl buf))] H := hP
            exact x_wv (u_8, u_8 + 1, 4, value) (by rw [hx_8]; rw [if_pos c_1]; rw [if_pos c_2]; rw [if_pos c_3]; rw [if_neg c_4]; try rfl) rfl hx hb hr hlk hS hP (hX.d rfl) [0, 1] rfl rfl (Nat.le_of_ble_eq_true rfl) (Nat.le_of_ble_eq_true rfl) dX3_readToken_139
          · refine lv_iconst (v := 3) hx hb dX3_readToken_131 (by decide) ?_
            refine lv_goto (tgt := 136) hx hb dX3_readToken_132 (by decide) ?_
            refine va_put (D := E.1) (ci := 3) (v := .int 3) (ty := .int) (C := RX3) (T := TX3) (N := 9) hx hb hts g_2 tyX3 tyX3_ok nmX3 hown hE.1 hP (hX.d rfl) hS 0 rfl rfl 7 (by decide) g_9 (fun _ h9 => h9) rfl (by decide +kernel) rfl rfl (Nat.le_of_ble_eq_true rfl) dX3_readToken_136 (fun H locs hP _ hS => ?_)
            have hP : va_P E.1 vwCl [(h, .inr (3, [.ref bu, .ref nu, .int used, .int en, .int met, .int u_8, .int (u_8 + 1), .int 3, .int value])), (bu, .inl (E.2.1, 500, .inl buf))] H := hP
            exact x_wv (u_8, u_8 + 1, 3, value) (by rw [hx_8]; rw [if_pos c_1]; rw [if_pos c_2]; rw [if_pos c_3]; rw [if_pos c_4]; try rfl) rfl hx hb hr hlk hS hP (hX.d rfl) [0, 1] rfl rfl (Nat.le_of_ble_eq_true rfl) (Nat.le_of_ble_eq_true rfl) dX3_readToken_139
        · refine lv_aload_n hx hb dX3_readToken_107 rfl (lv_at hl 1 rfl) ?_
          refine x_wV (wr := []) [] (kX3_readDigits l E h bu nu used en met u_8 u_8 kind value buf) ⟨hx, hb, hml, hown, hts⟩ (cwV 0 hts gX3_readToken_X3_readDigits rfl rfl rfl hdX3_readDigits ⟨Nat.le_of_ble_eq_true rfl, Nat.le_of_ble_eq_true rfl⟩) hE hP (hX.d rfl) hS hA [0, 1] [] rfl rfl rfl rfl (by decide) (ci := 3) (q0 := 0) rfl rfl rfl hl.1 rfl rfl (Nat.le_of_ble_eq_true rfl) dX3_readToken_108 (Nat.le_of_ble_eq_true rfl) (Nat.le_of_ble_eq_true rfl) (fun q_5 H locs hq_5 hP hD hS => ?_)
          subst hq_5
          have hP : va_P E.1 vwCl [(h, .inr (3, [.ref bu, .ref nu, .int used, .int en, .int met, .int u_8, .int ((sX3_readDigits en u_8 u_8 buf).1), .int ((sX3_readDigits en u_8 u_8 buf).2.1), .int ((sX3_readDigits en u_8 u_8 buf).2.2)])), (bu, .inl (E.2.1, 500, .inl buf))] H := hP
          have hX : xD A [h, bu] := xD.of hD rfl
          refine W.eq (g2 := F0 m 111 ls []) rfl ?_
          refine lv_goto (tgt := 139) hx hb dX3_readToken_111 (by decide) ?_
          exact x_wv (u_8, (sX3_readDigits en u_8 u_8 buf).1, (sX3_readDigits en u_8 u_8 buf).2.1, (sX3_readDigits en u_8 u_8 buf).2.2) (by rw [hx_8]; rw [if_pos c_1]; rw [if_pos c_2]; rw [if_neg c_3]; try rfl) rfl hx hb hr hlk hS hP (hX.d rfl) [0, 1] rfl rfl (Nat.le_of_ble_eq_true rfl) (Nat.le_of_ble_eq_true rfl) dX3_readToken_139
      · refine lv_aload_n hx hb dX3_readToken_93 rfl (lv_at hl 1 rfl) ?_
        refine x_wV (wr := []) [] (kX3_readLetters l E h bu nu used en met u_8 u_8 kind value buf) ⟨hx, hb, hml, hown, hts⟩ (cwV 0 hts gX3_readToken_X3_readLetters rfl rfl rfl hdX3_readLetters ⟨Nat.le_of_ble_eq_true rfl, Nat.le_of_ble_eq_true rfl⟩) hE hP (hX.d rfl) hS hA [0, 1] [] rfl rfl rfl rfl (by decide) (ci := 3) (q0 := 0) rfl rfl rfl hl.1 rfl rfl (Nat.le_of_ble_eq_true rfl) dX3_readToken_94 (Nat.le_of_ble_eq_true rfl) (Nat.le_of_ble_eq_true rfl) (fun q_6 H locs hq_6 hP hD hS => ?_)
        subst hq_6
        have hP : va_P E.1 vwCl [(h, .inr (3, [.ref bu, .ref nu, .int used, .int en, .int met, .int u_8, .int ((sX3_readLetters en u_8 u_8 buf).1), .int ((sX3_readLetters en u_8 u_8 buf).2), .int value])), (bu, .inl (E.2.1, 500, .inl buf))] H := hP
        have hX : xD A [h, bu] := xD.of hD rfl
        refine W.eq (g2 := F0 m 97 ls []) rfl ?_
        refine lv_goto (tgt := 139) hx hb dX3_readToken_97 (by decide) ?_
        exact x_wv (u_8, (sX3_readLetters en u_8 u_8 buf).1, (sX3_readLetters en u_8 u_8 buf).2, value) (by rw [hx_8]; rw [if_pos c_1]; rw [if_neg c_2]; try rfl) rfl hx hb hr hlk hS hP (hX.d rfl) [0, 1] rfl rfl (Nat.le_of_ble_eq_true rfl) (Nat.le_of_ble_eq_true rfl) dX3_readToken_139
    · refine lv_aload_n hx hb dX3_readToken_68 rfl (lv_at hl 0 rfl) ?_
      refine lv_iconst (v := 0) hx hb dX3_readToken_69 (by decide) ?_
      refine va_put (D := E.1) (ci := 3) (v := .int 0) (ty := .int) (C := RX3) (T := TX3) (N := 9) hx hb hts g_2 tyX3 tyX3_ok nmX3 hown hE.1 hP (hX.d rfl) hS 0 rfl rfl 7 (by decide) g_9 (fun _ h9 => h9) rfl (by decide +kernel) rfl rfl (Nat.le_of_ble_eq_true rfl) dX3_readToken_70 (fun H locs hP _ hS => ?_)
      have hP : va_P E.1 vwCl [(h, .inr (3, [.ref bu, .ref nu, .int used, .int en, .int met, .int u_8, .int u_8, .int 0, .int value])), (bu, .inl (E.2.1, 500, .inl buf))] H := hP
      exact x_wv (u_8, u_8, 0, value) (by rw [hx_8]; rw [if_neg c_1]; try rfl) rfl hx hb hr hlk hS hP (hX.d rfl) [0, 1] rfl rfl (Nat.le_of_ble_eq_true rfl) (Nat.le_of_ble_eq_true rfl) dX3_readToken_73
  have lp_8 : ∀ (kk_8 : Nat), ∀ (u_8 : Int32), (xMu en u_8) < kk_8 → ∀ (H : Heap) (locs : List Loc), va_P E.1 vwCl [(h, .inr (3, [.ref bu, .ref nu, .int used, .int en, .int met, .int u_8, .int next, .int kind, .int value])), (bu, .inl (E.2.1, 500, .inl buf))] H → va_S A s.heap H locs → ∀ (ls : Array Slot), lv_has ls 2 [(0, .ref h)] → (sX3_readToken en next value buf) = sX3_readToken_l8 en buf (fun (u_8 : Int32) => if u_8 < en then if (sX3_isLetter (sX8_valueAt 500 buf u_8)) = 0 then if (sX3_isDigit (sX8_valueAt 500 buf u_8)) = 0 then if (sX8_valueAt 500 buf u_8) = 59 then (u_8, u_8 + 1, 3, value) else (u_8, u_8 + 1, 4, value) else (u_8, (sX3_readDigits en u_8 u_8 buf).1, (sX3_readDigits en u_8 u_8 buf).2.1, (sX3_readDigits en u_8 u_8 buf).2.2) else (u_8, (sX3_readLetters en u_8 u_8 buf).1, (sX3_readLetters en u_8 u_8 buf).2, value) else (u_8, u_8, 0, value)) kk_8 u_8 → W p l e ({ frames := 2, cells := 0, slots := 0, locals := 41 }) s m args below meth c H locs 0 0 (MQ below (xO (T := Int32 × Int32 × Int32 × Int32) E A (fun _ => none) (fun q => [(h, .inr (3, [.ref bu, .ref nu, .int used, .int en, .int met, .int q.1, .int q.2.1, .int q.2.2.1, .int q.2.2.2])), (bu, .inl (E.2.1, 500, .inl buf))]) (sX3_readToken en next value buf)) args s 0 0 A) (F0 m 8 ls []) := by
    intro kk_8
    induction kk_8 with
    | zero =>
      intro u_8 hmu
      exact absurd hmu (Nat.not_lt_zero _)
    | succ kk_8 ih_8 =>
      intro u_8 hmu H locs hP hS ls hl hlq_8
      refine lv_aload_n hx hb dX3_readToken_8 rfl (lv_at hl 0 rfl) ?_
      refine va_get (D := E.1) (ci := 3) (v := .int u_8) (C := RX3) (T := TX3) (N := 9) hx hb hts g_2 hown hE.1 hP 0 rfl rfl 5 (by decide) g_3 (fun _ h9 => h9) rfl dX3_readToken_9 ?_
      refine lv_aload_n hx hb dX3_readToken_12 rfl (lv_at hl 0 rfl) ?_
      refine va_get (D := E.1) (ci := 3) (v := .int en) (C := RX3) (T := TX3) (N := 9) hx hb hts g_2 hown hE.1 hP 0 rfl rfl 3 (by decide) g_4 (fun _ h9 => h9) rfl dX3_readToken_13 ?_
      refine lv_icmp_ge (tgt := 49) hx hb dX3_readToken_16 (by decide) (fun c_7 => ?_) (fun c_7 => ?_)
      · exact ex_8 u_8  _ _ hP hS ls (lv_sub hl [0] rfl) (by rw [hlq_8]; rw [sX3_readToken_l8_s]; rw [if_pos c_7]; try rfl)
      · refine lv_aload_n hx hb dX3_readToken_19 rfl (lv_at hl 0 rfl) ?_
        refine va_get (D := E.1) (ci := 3) (v := .ref bu) (C := RX3) (T := TX3) (N := 9) hx hb hts g_2 hown hE.1 hP 0 rfl rfl 0 (by decide) g_5 (fun _ h9 => h9) rfl dX3_readToken_20 ?_
        refine lv_aload_n hx hb dX3_readToken_23 rfl (lv_at hl 0 rfl) ?_
        refine va_get (D := E.1) (ci := 3) (v := .int u_8) (C := RX3) (T := TX3) (N := 9) hx hb hts g_2 hown hE.1 hP 0 rfl rfl 5 (by decide) g_3 (fun _ h9 => h9) rfl dX3_readToken_24 ?_
        refine x_rSN [.ref bu, .int u_8] (kX8_valueAt l E bu 500 buf u_8 (by decide)) ⟨hx, hb, hml, hown, hts⟩ ⟨va_cnB 2 hts gX3_readToken_X8_valueAt_n58 rfl rfl rfl g_8 g_6 hdX8_valueAt.2 ⟨Nat.le_of_ble_eq_true rfl, Nat.le_of_ble_eq_true rfl⟩, g_7, trivial⟩ hE hP (hX.d rfl) [1] rfl rfl hl.1 rfl rfl (Nat.le_of_ble_eq_true rfl) dX3_readToken_27 (Nat.le_of_ble_eq_true rfl) (Nat.le_of_ble_eq_true rfl) ?_
        refine x_rS [.int (sX8_valueAt 500 buf u_8)] (kX3_isSeparator l E (sX8_valueAt 500 buf u_8)) ⟨hx, hb, hml, hown, hts⟩ (va_cwS 1 hts gX3_readToken_X3_isSeparator rfl rfl rfl hdX3_isSeparator.2 ⟨Nat.le_of_ble_eq_true rfl, Nat.le_of_ble_eq_true rfl⟩) hE hP (hX.d rfl) [] rfl rfl hl.1 rfl rfl (Nat.le_of_ble_eq_true rfl) dX3_readToken_30 (Nat.le_of_ble_eq_true rfl) (Nat.le_of_ble_eq_true rfl) ?_
        refine lv_if_eq (tgt := 49) hx hb dX3_readToken_33 (by decide) (fun c_8 => ?_) (fun c_8 => ?_)
        · exact ex_8 u_8  _ _ hP hS ls (lv_sub hl [0] rfl) (by rw [hlq_8]; rw [sX3_readToken_l8_s]; rw [if_neg c_7]; rw [if_pos c_8]; try rfl)
        · refine lv_aload_n hx hb dX3_readToken_36 rfl (lv_at hl 0 rfl) ?_
          refine lv_dup hx hb dX3_readToken_37 rfl ?_
          refine va_get (D := E.1) (ci := 3) (v := .int u_8) (C := RX3) (T := TX3) (N := 9) hx hb hts g_2 hown hE.1 hP 0 rfl rfl 5 (by decide) g_3 (fun _ h9 => h9) rfl dX3_readToken_38 ?_
          refine lv_iconst (v := 1) hx hb dX3_readToken_41 (by decide) ?_
          refine lv_iadd hx hb dX3_readToken_42 ?_
          refine va_put (D := E.1) (ci := 3) (v := .int (u_8 + 1)) (ty := .int) (C := RX3) (T := TX3) (N := 9) hx hb hts g_2 tyX3 tyX3_ok nmX3 hown hE.1 hP (hX.d rfl) hS 0 rfl rfl 5 (by decide) g_3 (fun _ h9 => h9) rfl (by decide +kernel) rfl rfl (Nat.le_of_ble_eq_true rfl) dX3_readToken_43 (fun H locs hP _ hS => ?_)
          have hP : va_P E.1 vwCl [(h, .inr (3, [.ref bu, .ref nu, .int used, .int en, .int met, .int (u_8 + 1), .int next, .int kind, .int value])), (bu, .inl (E.2.1, 500, .inl buf))] H := hP
          refine lv_goto (tgt := 8) hx hb dX3_readToken_46 (by decide) ?_
          exact ih_8 (u_8 + 1) (x_muN c_7 hmu) _ _ hP hS ls (lv_sub hl [0] rfl) (by rw [hlq_8]; rw [sX3_readToken_l8_s]; rw [if_neg c_7]; rw [if_neg c_8]; try rfl)
  exact lp_8 (xMu en next + 1) next  (Nat.lt_succ_self _) _ _ hP hS ls (lv_sub hl [0] rfl) (by unfold sX3_readToken; try rfl)
