def sX3_readDigits_l5 (en : Int32) (buf : Nat → Int32) (kont_5 : Int32 → Int32 → Int32 × Int32 × Int32) : Nat → Int32 → Int32 → Int32 × Int32 × Int32
  | 0, u_5, u2_5 => kont_5 u_5 u2_5
  | kk_5 + 1, u_5, u2_5 =>
    if en ≤ u_5 then
      kont_5 u_5 u2_5
    else
      if (sX3_isDigit (sX8_valueAt 500 buf u_5)) = 0 then
        kont_5 u_5 u2_5
      else
        sX3_readDigits_l5 en buf kont_5 kk_5 (u_5 + 1) (((u2_5 * 10) + (sX8_valueAt 500 buf u_5)) - 48)
theorem sX3_readDigits_l5_s (en : Int32) (buf : Nat → Int32) (kont_5 : Int32 → Int32 → Int32 × Int32 × Int32) (kk_5 : Nat) (u_5 : Int32) (u2_5 : Int32) : sX3_readDigits_l5 en buf kont_5 (kk_5 + 1) u_5 u2_5 =
    if en ≤ u_5 then
      kont_5 u_5 u2_5
    else
      if (sX3_isDigit (sX8_valueAt 500 buf u_5)) = 0 then
        kont_5 u_5 u2_5
      else
        sX3_readDigits_l5 en buf kont_5 kk_5 (u_5 + 1) (((u2_5 * 10) + (sX8_valueAt 500 buf u_5)) - 48) := rfl
def sX3_readDigits (en : Int32) (start : Int32) (next : Int32) (buf : Nat → Int32) : Int32 × Int32 × Int32 :=
  sX3_readDigits_l5 en buf (fun (u_5 : Int32) (u2_5 : Int32) => if 4 < (u_5 - start) then (u_5, 4, u2_5) else (u_5, 2, u2_5)) (xMu en next + 1) next 0
theorem hdX3_readDigits : yX3_readDigits.cls = RX3 ∧ yX3_readDigits.cls ≠ "java/lang/invoke/MethodHandle" ∧ yX3_readDigits.cls ≠ "java/lang/invoke/VarHandle" ∧ (parseMethodDescriptor yX3_readDigits.desc).map (fun d => d.parameters.length) = some 0 := by decide +kernel
set_option maxHeartbeats 4000000 in
set_option maxRecDepth 100000 in
theorem kX3_readDigits (l : Launch) (E : XE) (h : Nat) (bu : Nat) (nu : Nat) (used : Int32) (en : Int32) (met : Int32) (start : Int32) (next : Int32) (kind : Int32) (value : Int32) (buf : Nat → Int32) : xW (T := Int32 × Int32 × Int32) l yX3_readDigits wsX3_readDigits ({ frames := 1, cells := 0, slots := 0, locals := 21 }) E [(h, .inr (3, [.ref bu, .ref nu, .int used, .int en, .int met, .int start, .int next, .int kind, .int value])), (bu, .inl (E.2.1, 500, .inl buf))] [.ref h] (fun _ => none) (fun q => [(h, .inr (3, [.ref bu, .ref nu, .int used, .int en, .int met, .int start, .int q.1, .int q.2.1, .int q.2.2])), (bu, .inl (E.2.1, 500, .inl buf))]) (sX3_readDigits en start next buf) 0 0 := by
  refine xW.of (cc := cX3_readDigits) (maxL := 1) (ret := none) (by decide) rfl (Nat.le_of_ble_eq_true rfl) ?_
  intro p e s m args below meth c ls A hM hE hP hD hS hA hl
  obtain ⟨hx, hb, hr, hml, hts, hown, hlk, hnm⟩ := hM
  have g_1 : (Cond.fieldLink RX3 66 "RailPendulum$PlantReader" "value" "I").before args s = true := hts (Cond.fieldLink RX3 66 "RailPendulum$PlantReader" "value" "I") (by decide +kernel)
  have g_2 : ∀ w ∈ wsX30, w ∈ wsX3_readDigits := by decide +kernel
  have g_3 : (Cond.fieldLink RX3 36 "RailPendulum$PlantReader" "next" "I").before args s = true := hts (Cond.fieldLink RX3 36 "RailPendulum$PlantReader" "next" "I") (by decide +kernel)
  have g_4 : (Cond.fieldLink RX3 88 "RailPendulum$PlantReader" "start" "I").before args s = true := hts (Cond.fieldLink RX3 88 "RailPendulum$PlantReader" "start" "I") (by decide +kernel)
  have g_5 : (Cond.fieldLink RX3 45 "RailPendulum$PlantReader" "kind" "I").before args s = true := hts (Cond.fieldLink RX3 45 "RailPendulum$PlantReader" "kind" "I") (by decide +kernel)
  have g_6 : (Cond.fieldLink RX3 33 "RailPendulum$PlantReader" "end" "I").before args s = true := hts (Cond.fieldLink RX3 33 "RailPendulum$PlantReader" "end" "I") (by decide +kernel)
  have g_7 : (Cond.fieldLink RX3 9 "RailPendulum$PlantReader" "buffer" "[I").before args s = true := hts (Cond.fieldLink RX3 9 "RailPendulum$PlantReader" "buffer" "[I") (by decide +kernel)
  have g_8 : (Cond.initialized yX8_valueAt.cls).before args s = true := hts _ (by decide +kernel)
  have g_9 : (Cond.static yX8_valueAt).before args s = true := hts (Cond.static yX8_valueAt) (by decide +kernel)
  have g_10 : va_Nw (.methodLinkNest RX3 58 yX8_valueAt "RailPendulum") s := hE.2 _ (by decide +kernel)
  have hX : xD A [h, bu] := xD.of hD rfl
  have hl : lv_has ls 1 [(0, .ref h)] := hl
  refine lv_aload_n hx hb dX3_readDigits_0 rfl (lv_at hl 0 rfl) ?_
  refine lv_iconst (v := 0) hx hb dX3_readDigits_1 (by decide) ?_
  refine va_put (D := E.1) (ci := 3) (v := .int 0) (ty := .int) (C := RX3) (T := TX3) (N := 9) hx hb hts g_2 tyX3 tyX3_ok nmX3 hown hE.1 hP (hX.d rfl) hS 0 rfl rfl 8 (by decide) g_1 (fun _ h9 => h9) rfl (by decide +kernel) rfl rfl (Nat.le_of_ble_eq_true rfl) dX3_readDigits_2 (fun H locs hP _ hS => ?_)
  have hP : va_P E.1 vwCl [(h, .inr (3, [.ref bu, .ref nu, .int used, .int en, .int met, .int start, .int next, .int kind, .int 0])), (bu, .inl (E.2.1, 500, .inl buf))] H := hP
  have ex_5 : ∀ (u_5 : Int32) (u2_5 : Int32), ∀ (H : Heap) (locs : List Loc), va_P E.1 vwCl [(h, .inr (3, [.ref bu, .ref nu, .int used, .int en, .int met, .int start, .int u_5, .int kind, .int u2_5])), (bu, .inl (E.2.1, 500, .inl buf))] H → va_S A s.heap H locs → ∀ (ls : Array Slot), lv_has ls 1 [(0, .ref h)] → (sX3_readDigits en start next buf) = (if 4 < (u_5 - start) then (u_5, 4, u2_5) else (u_5, 2, u2_5)) → W p l e ({ frames := 1, cells := 0, slots := 0, locals := 21 }) s m args below meth c H locs 0 0 (MQ below (xO (T := Int32 × Int32 × Int32) E A (fun _ => none) (fun q => [(h, .inr (3, [.ref bu, .ref nu, .int used, .int en, .int met, .int start, .int q.1, .int q.2.1, .int q.2.2])), (bu, .inl (E.2.1, 500, .inl buf))]) (sX3_readDigits en start next buf)) args s 0 0 A) (F0 m 72 ls []) := by
    intro u_5 u2_5 H locs hP hS ls hl hx_5
    refine lv_aload_n hx hb dX3_readDigits_72 rfl (lv_at hl 0 rfl) ?_
    refine lv_aload_n hx hb dX3_readDigits_73 rfl (lv_at hl 0 rfl) ?_
    refine va_get (D := E.1) (ci := 3) (v := .int u_5) (C := RX3) (T := TX3) (N := 9) hx hb hts g_2 hown hE.1 hP 0 rfl rfl 6 (by decide) g_3 (fun _ h9 => h9) rfl dX3_readDigits_74 ?_
    refine lv_aload_n hx hb dX3_readDigits_77 rfl (lv_at hl 0 rfl) ?_
    refine va_get (D := E.1) (ci := 3) (v := .int start) (C := RX3) (T := TX3) (N := 9) hx hb hts g_2 hown hE.1 hP 0 rfl rfl 5 (by decide) g_4 (fun _ h9 => h9) rfl dX3_readDigits_78 ?_
    refine lv_isub hx hb dX3_readDigits_81 ?_
    refine lv_iconst (v := 4) hx hb dX3_readDigits_82 (by decide) ?_
    refine lv_icmp_gt (tgt := 90) hx hb dX3_readDigits_83 (by decide) (fun c_1 => ?_) (fun c_1 => ?_)
    · refine lv_iconst (v := 4) hx hb dX3_readDigits_90 (by decide) ?_
      refine va_put (D := E.1) (ci := 3) (v := .int 4) (ty := .int) (C := RX3) (T := TX3) (N := 9) hx hb hts g_2 tyX3 tyX3_ok nmX3 hown hE.1 hP (hX.d rfl) hS 0 rfl rfl 7 (by decide) g_5 (fun _ h9 => h9) rfl (by decide +kernel) rfl rfl (Nat.le_of_ble_eq_true rfl) dX3_readDigits_91 (fun H locs hP _ hS => ?_)
      have hP : va_P E.1 vwCl [(h, .inr (3, [.ref bu, .ref nu, .int used, .int en, .int met, .int start, .int u_5, .int 4, .int u2_5])), (bu, .inl (E.2.1, 500, .inl buf))] H := hP
      exact x_wv (u_5, 4, u2_5) (by rw [hx_5]; rw [if_pos c_1]; try rfl) rfl hx hb hr hlk hS hP (hX.d rfl) [0, 1] rfl rfl (Nat.le_of_ble_eq_true rfl) (Nat.le_of_ble_eq_true rfl) dX3_readDigits_94
    · refine lv_iconst (v := 2) hx hb dX3_readDigits_86 (by decide) ?_
      refine lv_goto (tgt := 91) hx hb dX3_readDigits_87 (by decide) ?_
      refine va_put (D := E.1) (ci := 3) (v := .int 2) (ty := .int) (C := RX3) (T := TX3) (N := 9) hx hb hts g_2 tyX3 tyX3_ok nmX3 hown hE.1 hP (hX.d rfl) hS 0 rfl rfl 7 (by decide) g_5 (fun _ h9 => h9) rfl (by decide +kernel) rfl rfl (Nat.le_of_ble_eq_true rfl) dX3_readDigits_91 (fun H locs hP _ hS => ?_)
      have hP : va_P E.1 vwCl [(h, .inr (3, [.ref bu, .ref nu, .int used, .int en, .int met, .int start, .int u_5, .int 2, .int u2_5])), (bu, .inl (E.2.1, 500, .inl buf))] H := hP
      exact x_wv (u_5, 2, u2_5) (by rw [hx_5]; rw [if_neg c_1]; try rfl) rfl hx hb hr hlk hS hP (hX.d rfl) [0, 1] rfl rfl (Nat.le_of_ble_eq_true rfl) (Nat.le_of_ble_eq_true rfl) dX3_readDigits_94
  have lp_5 : ∀ (kk_5 : Nat), ∀ (u_5 : Int32) (u2_5 : Int32), (xMu en u_5) < kk_5 → ∀ (H : Heap) (locs : List Loc), va_P E.1 vwCl [(h, .inr (3, [.ref bu, .ref nu, .int used, .int en, .int met, .int start, .int u_5, .int kind, .int u2_5])), (bu, .inl (E.2.1, 500, .inl buf))] H → va_S A s.heap H locs → ∀ (ls : Array Slot), lv_has ls 1 [(0, .ref h)] → (sX3_readDigits en start next buf) = sX3_readDigits_l5 en buf (fun (u_5 : Int32) (u2_5 : Int32) => if 4 < (u_5 - start) then (u_5, 4, u2_5) else (u_5, 2, u2_5)) kk_5 u_5 u2_5 → W p l e ({ frames := 1, cells := 0, slots := 0, locals := 21 }) s m args below meth c H locs 0 0 (MQ below (xO (T := Int32 × Int32 × Int32) E A (fun _ => none) (fun q => [(h, .inr (3, [.ref bu, .ref nu, .int used, .int en, .int met, .int start, .int q.1, .int q.2.1, .int q.2.2])), (bu, .inl (E.2.1, 500, .inl buf))]) (sX3_readDigits en start next buf)) args s 0 0 A) (F0 m 5 ls []) := by
    intro kk_5
    induction kk_5 with
    | zero =>
      intro u_5 u2_5 hmu
      exact absurd hmu (Nat.not_lt_zero _)
    | succ kk_5 ih_5 =>
      intro u_5 u2_5 hmu H locs hP hS ls hl hlq_5
      refine lv_aload_n hx hb dX3_readDigits_5 rfl (lv_at hl 0 rfl) ?_
      refine va_get (D := E.1) (ci := 3) (v := .int u_5) (C := RX3) (T := TX3) (N := 9) hx hb hts g_2 hown hE.1 hP 0 rfl rfl 6 (by decide) g_3 (fun _ h9 => h9) rfl dX3_readDigits_6 ?_
      refine lv_aload_n hx hb dX3_readDigits_9 rfl (lv_at hl 0 rfl) ?_
      refine va_get (D := E.1) (ci := 3) (v := .int en) (C := RX3) (T := TX3) (N := 9) hx hb hts g_2 hown hE.1 hP 0 rfl rfl 3 (by decide) g_6 (fun _ h9 => h9) rfl dX3_readDigits_10 ?_
      refine lv_icmp_ge (tgt := 72) hx hb dX3_readDigits_13 (by decide) (fun c_2 => ?_) (fun c_2 => ?_)
      · exact ex_5 u_5 u2_5  _ _ hP hS ls (lv_sub hl [0] rfl) (by rw [hlq_5]; rw [sX3_readDigits_l5_s]; rw [if_pos c_2]; try rfl)
      · refine lv_aload_n hx hb dX3_readDigits_16 rfl (lv_at hl 0 rfl) ?_
        refine va_get (D := E.1) (ci := 3) (v := .ref bu) (C := RX3) (T := TX3) (N := 9) hx hb hts g_2 hown hE.1 hP 0 rfl rfl 0 (by decide) g_7 (fun _ h9 => h9) rfl dX3_readDigits_17 ?_
        refine lv_aload_n hx hb dX3_readDigits_20 rfl (lv_at hl 0 rfl) ?_
        refine va_get (D := E.1) (ci := 3) (v := .int u_5) (C := RX3) (T := TX3) (N := 9) hx hb hts g_2 hown hE.1 hP 0 rfl rfl 6 (by decide) g_3 (fun _ h9 => h9) rfl dX3_readDigits_21 ?_
        refine x_rSN [.ref bu, .int u_5] (kX8_valueAt l E bu 500 buf u_5 (by decide)) ⟨hx, hb, hml, hown, hts⟩ ⟨va_cnB 2 hts gX3_readDigits_X8_valueAt_n58 rfl rfl rfl g_10 g_8 hdX8_valueAt.2 ⟨Nat.le_of_ble_eq_true rfl, Nat.le_of_ble_eq_true rfl⟩, g_9, trivial⟩ hE hP (hX.d rfl) [1] rfl rfl hl.1 rfl rfl (Nat.le_of_ble_eq_true rfl) dX3_readDigits_24 (Nat.le_of_ble_eq_true rfl) (Nat.le_of_ble_eq_true rfl) ?_
        refine x_rS [.int (sX8_valueAt 500 buf u_5)] (kX3_isDigit l E (sX8_valueAt 500 buf u_5)) ⟨hx, hb, hml, hown, hts⟩ (va_cwS 1 hts gX3_readDigits_X3_isDigit rfl rfl rfl hdX3_isDigit.2 ⟨Nat.le_of_ble_eq_true rfl, Nat.le_of_ble_eq_true rfl⟩) hE hP (hX.d rfl) [] rfl rfl hl.1 rfl rfl (Nat.le_of_ble_eq_true rfl) dX3_readDigits_27 (Nat.le_of_ble_eq_true rfl) (Nat.le_of_ble_eq_true rfl) ?_
        refine lv_if_eq (tgt := 72) hx hb dX3_readDigits_30 (by decide) (fun c_3 => ?_) (fun c_3 => ?_)
        · exact ex_5 u_5 u2_5  _ _ hP hS ls (lv_sub hl [0] rfl) (by rw [hlq_5]; rw [sX3_readDigits_l5_s]; rw [if_neg c_2]; rw [if_pos c_3]; try rfl)
        · refine lv_aload_n hx hb dX3_readDigits_33 rfl (lv_at hl 0 rfl) ?_
          refine lv_aload_n hx hb dX3_readDigits_34 rfl (lv_at hl 0 rfl) ?_
          refine va_get (D := E.1) (ci := 3) (v := .int u2_5) (C := RX3) (T := TX3) (N := 9) hx hb hts g_2 hown hE.1 hP 0 rfl rfl 8 (by decide) g_1 (fun _ h9 => h9) rfl dX3_readDigits_35 ?_
          refine lv_bipush (v := 10) hx hb dX3_readDigits_38 (by decide) ?_
          refine lv_imul hx hb dX3_readDigits_40 ?_
          refine lv_aload_n hx hb dX3_readDigits_41 rfl (lv_at hl 0 rfl) ?_
          refine va_get (D := E.1) (ci := 3) (v := .ref bu) (C := RX3) (T := TX3) (N := 9) hx hb hts g_2 hown hE.1 hP 0 rfl rfl 0 (by decide) g_7 (fun _ h9 => h9) rfl dX3_readDigits_42 ?_
          refine lv_aload_n hx hb dX3_readDigits_45 rfl (lv_at hl 0 rfl) ?_
          refine va_get (D := E.1) (ci := 3) (v := .int u_5) (C := RX3) (T := TX3) (N := 9) hx hb hts g_2 hown hE.1 hP 0 rfl rfl 6 (by decide) g_3 (fun _ h9 => h9) rfl dX3_readDigits_46 ?_
          refine x_rSN [.ref bu, .int u_5] (kX8_valueAt l E bu 500 buf u_5 (by decide)) ⟨hx, hb, hml, hown, hts⟩ ⟨va_cnB 2 hts gX3_readDigits_X8_valueAt_n58 rfl rfl rfl g_10 g_8 hdX8_valueAt.2 ⟨Nat.le_of_ble_eq_true rfl, Nat.le_of_ble_eq_true rfl⟩, g_9, trivial⟩ hE hP (hX.d rfl) [1] rfl rfl hl.1 rfl rfl (Nat.le_of_ble_eq_true rfl) dX3_readDigits_49 (Nat.le_of_ble_eq_true rfl) (Nat.le_of_ble_eq_true rfl) ?_
          refine lv_iadd hx hb dX3_readDigits_52 ?_
          refine lv_bipush (v := 48) hx hb dX3_readDigits_53 (by decide) ?_
          refine lv_isub hx hb dX3_readDigits_55 ?_
          refine va_put (D := E.1) (ci := 3) (v := .int (((u2_5 * 10) + (sX8_valueAt 500 buf u_5)) - 48)) (ty := .int) (C := RX3) (T := TX3) (N := 9) hx hb hts g_2 tyX3 tyX3_ok nmX3 hown hE.1 hP (hX.d rfl) hS 0 rfl rfl 8 (by decide) g_1 (fun _ h9 => h9) rfl (by decide +kernel) rfl rfl (Nat.le_of_ble_eq_true rfl) dX3_readDigits_56 (fun H locs hP _ hS => ?_)
          have hP : va_P E.1 vwCl [(h, .inr (3, [.ref bu, .ref nu, .int used, .int en, .int met, .int start, .int u_5, .int kind, .int (((u2_5 * 10) + (sX8_valueAt 500 buf u_5)) - 48)])), (bu, .inl (E.2.1, 500, .inl buf))] H := hP
          refine lv_aload_n hx hb dX3_readDigits_59 rfl (lv_at hl 0 rfl) ?_
          refine lv_dup hx hb dX3_readDigits_60 rfl ?_
          refine va_get (D := E.1) (ci := 3) (v := .int u_5) (C := RX3) (T := TX3) (N := 9) hx hb hts g_2 hown hE.1 hP 0 rfl rfl 6 (by decide) g_3 (fun _ h9 => h9) rfl dX3_readDigits_61 ?_
          refine lv_iconst (v := 1) hx hb dX3_readDigits_64 (by decide) ?_
          refine lv_iadd hx hb dX3_readDigits_65 ?_
          refine va_put (D := E.1) (ci := 3) (v := .int (u_5 + 1)) (ty := .int) (C := RX3) (T := TX3) (N := 9) hx hb hts g_2 tyX3 tyX3_ok nmX3 hown hE.1 hP (hX.d rfl) hS 0 rfl rfl 6 (by decide) g_3 (fun _ h9 => h9) rfl (by decide +kernel) rfl rfl (Nat.le_of_ble_eq_true rfl) dX3_readDigits_66 (fun H locs hP _ hS => ?_)
          have hP : va_P E.1 vwCl [(h, .inr (3, [.ref bu, .ref nu, .int used, .int en, .int met, .int start, .int (u_5 + 1), .int kind, .int (((u2_5 * 10) + (sX8_valueAt 500 buf u_5)) - 48)])), (bu, .inl (E.2.1, 500, .inl buf))] H := hP
          refine lv_goto (tgt := 5) hx hb dX3_readDigits_69 (by decide) ?_
          exact ih_5 (u_5 + 1) (((u2_5 * 10) + (sX8_valueAt 500 buf u_5)) - 48) (x_muN c_2 hmu) _ _ hP hS ls (lv_sub hl [0] rfl) (by rw [hlq_5]; rw [sX3_readDigits_l5_s]; rw [if_neg c_2]; rw [if_neg c_3]; try rfl)
  exact lp_5 (xMu en next + 1) next 0  (Nat.lt_succ_self _) _ _ hP hS ls (lv_sub hl [0] rfl) (by unfold sX3_readDigits; try rfl)
