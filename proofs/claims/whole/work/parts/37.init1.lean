theorem hdX1_init : yX1_init.cls = RX1 ∧ yX1_init.cls ≠ "java/lang/invoke/MethodHandle" ∧ yX1_init.cls ≠ "java/lang/invoke/VarHandle" ∧ (parseMethodDescriptor yX1_init.desc).map (fun d => d.parameters.length) = some 0 := by decide +kernel
set_option maxHeartbeats 4000000 in
set_option maxRecDepth 100000 in
theorem kX1_init (l : Launch) (E : XE) (Z : XZ) (h : Nat) : xN l yX1_init wsX1_init ({ frames := 1, cells := 0, slots := 0, locals := 12 }) E Z [(h, .inr (1, [.int 0, .int 0, .int 0, .int 0, .int 0, .int 0]))] [.ref h] (fun u => [(h, .inr (1, [.int 0, .int 0, .int 0, .int 0, .int 0, .int 0]))]) 0 0 := by
  refine xN.of (cc := cX1_init) (maxL := 1) (ret := none) (by decide) rfl (Nat.le_of_ble_eq_true rfl) ?_
  intro p e s m args below meth c ls A hM hE hP hD hS hA hZ hAO hl
  obtain ⟨hx, hb, hr, hml, hts, hown, hlk, hnm⟩ := hM
  have g_1 : (Cond.methodLink RX1 1 objectInit).before args s = true := hts (Cond.methodLink RX1 1 objectInit) (by decide +kernel)
  have g_2 : (Cond.instanceMethod objectInit).before args s = true := hts (Cond.instanceMethod objectInit) (by decide +kernel)
  have g_3 : (Cond.code objectInit ⟨#[0xb1]⟩ 1 none).before args s = true := hts (Cond.code objectInit ⟨#[0xb1]⟩ 1 none) (by decide +kernel)
  have hX : xD A [h] := xD.of hD rfl
  have hl : lv_has ls 1 [(0, .ref h)] := hl
  refine lv_aload_n hx hb dX1_init_0 rfl (lv_at hl 0 rfl) ?_
  refine W.objInit hx hb hown g_1 g_2 g_3 rfl (by rw [hml]; exact hl.1) rfl dX1_init_1 (Nat.le_of_ble_eq_true rfl) (Nat.le_of_ble_eq_true rfl) ?_
  refine W.eq (g2 := F0 m 4 ls []) rfl ?_
  exact x_nv (fun k => ([] : List Nat).getD k 0) hx hb hr hlk hS hP (hX.d rfl) [0] rfl rfl (Nat.le_of_ble_eq_true rfl) (Nat.le_of_ble_eq_true rfl) dX1_init_4
theorem hdX4_init : yX4_init.cls = RX4 ∧ yX4_init.cls ≠ "java/lang/invoke/MethodHandle" ∧ yX4_init.cls ≠ "java/lang/invoke/VarHandle" ∧ (parseMethodDescriptor yX4_init.desc).map (fun d => d.parameters.length) = some 0 := by decide +kernel
set_option maxHeartbeats 4000000 in
set_option maxRecDepth 100000 in
theorem kX4_init (l : Launch) (E : XE) (Z : XZ) (h : Nat) : xN l yX4_init wsX4_init ({ frames := 1, cells := 0, slots := 0, locals := 12 }) E Z [(h, .inr (4, [.long 0, .long 0, .long 0, .long 0]))] [.ref h] (fun u => [(h, .inr (4, [.long 0, .long 0, .long 0, .long 0]))]) 0 0 := by
  refine xN.of (cc := cX4_init) (maxL := 1) (ret := none) (by decide) rfl (Nat.le_of_ble_eq_true rfl) ?_
  intro p e s m args below meth c ls A hM hE hP hD hS hA hZ hAO hl
  obtain ⟨hx, hb, hr, hml, hts, hown, hlk, hnm⟩ := hM
  have g_1 : (Cond.methodLink RX4 1 objectInit).before args s = true := hts (Cond.methodLink RX4 1 objectInit) (by decide +kernel)
  have g_2 : (Cond.instanceMethod objectInit).before args s = true := hts (Cond.instanceMethod objectInit) (by decide +kernel)
  have g_3 : (Cond.code objectInit ⟨#[0xb1]⟩ 1 none).before args s = true := hts (Cond.code objectInit ⟨#[0xb1]⟩ 1 none) (by decide +kernel)
  have hX : xD A [h] := xD.of hD rfl
  have hl : lv_has ls 1 [(0, .ref h)] := hl
  refine lv_aload_n hx hb dX4_init_0 rfl (lv_at hl 0 rfl) ?_
  refine W.objInit hx hb hown g_1 g_2 g_3 rfl (by rw [hml]; exact hl.1) rfl dX4_init_1 (Nat.le_of_ble_eq_true rfl) (Nat.le_of_ble_eq_true rfl) ?_
  refine W.eq (g2 := F0 m 4 ls []) rfl ?_
  exact x_nv (fun k => ([] : List Nat).getD k 0) hx hb hr hlk hS hP (hX.d rfl) [0] rfl rfl (Nat.le_of_ble_eq_true rfl) (Nat.le_of_ble_eq_true rfl) dX4_init_4
theorem hdX2_init : yX2_init.cls = RX2 ∧ yX2_init.cls ≠ "java/lang/invoke/MethodHandle" ∧ yX2_init.cls ≠ "java/lang/invoke/VarHandle" ∧ (parseMethodDescriptor yX2_init.desc).map (fun d => d.parameters.length) = some 0 := by decide +kernel
set_option maxHeartbeats 4000000 in
set_option maxRecDepth 100000 in
theorem kX2_init (l : Launch) (E : XE) (Z : XZ) (h : Nat) : xN l yX2_init wsX2_init ({ frames := 1, cells := 1, slots := 24, locals := 12 }) E Z [(h, .inr (2, [.null]))] [.ref h] (fun u => [(h, .inr (2, [.ref (u 0)])), ((u 0), .inl (E.2.1, 24, .inl (fun _ => 0)))]) 1 24 := by
  refine xN.of (cc := cX2_init) (maxL := 1) (ret := none) (by decide) rfl (Nat.le_of_ble_eq_true rfl) ?_
  intro p e s m args below meth c ls A hM hE hP hD hS hA hZ hAO hl
  obtain ⟨hx, hb, hr, hml, hts, hown, hlk, hnm⟩ := hM
  have g_1 : (Cond.methodLink RX2 3 objectInit).before args s = true := hts (Cond.methodLink RX2 3 objectInit) (by decide +kernel)
  have g_2 : (Cond.instanceMethod objectInit).before args s = true := hts (Cond.instanceMethod objectInit) (by decide +kernel)
  have g_3 : (Cond.code objectInit ⟨#[0xb1]⟩ 1 none).before args s = true := hts (Cond.code objectInit ⟨#[0xb1]⟩ 1 none) (by decide +kernel)
  have g_4 : (Cond.arrayClass .int).before args s = true := hts (Cond.arrayClass .int) (by decide +kernel)
  have g_5 : (Cond.fieldLink RX2 9 "RailPendulum$Plant" "numbers" "[I").before args s = true := hts (Cond.fieldLink RX2 9 "RailPendulum$Plant" "numbers" "[I") (by decide +kernel)
  have g_6 : ∀ w ∈ wsX20, w ∈ wsX2_init := by decide +kernel
  have hX : xD A [h] := xD.of hD rfl
  have hl : lv_has ls 1 [(0, .ref h)] := hl
  refine lv_aload_n hx hb dX2_init_0 rfl (lv_at hl 0 rfl) ?_
  refine W.objInit hx hb hown g_1 g_2 g_3 rfl (by rw [hml]; exact hl.1) rfl dX2_init_1 (Nat.le_of_ble_eq_true rfl) (Nat.le_of_ble_eq_true rfl) ?_
  refine W.eq (g2 := F0 m 4 ls []) rfl ?_
  refine lv_aload_n hx hb dX2_init_4 rfl (lv_at hl 0 rfl) ?_
  refine lv_bipush (v := 24) hx hb dX2_init_5 (by decide) ?_
  refine x_newI hx hb g_4 hE hP (hX.d rfl) hS hA 24 (by decide) (by decide) (by decide) (Nat.le_of_ble_eq_true rfl) (Nat.le_of_ble_eq_true rfl) dX2_init_7 (fun n_1 H hP hD hS => ?_)
  have hP : va_P E.1 vwCl [(h, .inr (2, [.null])), (n_1, .inl (E.2.1, 24, .inl (fun _ => 0)))] H := hP
  have hX : xD A [h, n_1] := xD.of hD rfl
  refine W.widen (k := 1) (n := 24) (by omega) (by omega) ?_
  refine va_putF (D := E.1) (ci := 2) (v := .ref n_1) (ty := .array .int) (C := RX2) (T := TX2) (N := 1) hx hb hts g_6 tyX2 tyX2_ok nmX2 hown hE.1 hP (hX.d rfl) hS 0 rfl rfl 0 (by decide) g_5 (fun _ h9 => h9) rfl hnm rfl (by decide +kernel) rfl rfl (Nat.le_of_ble_eq_true rfl) dX2_init_9 (fun H locs hP _ hS => ?_)
  have hP : va_P E.1 vwCl [(h, .inr (2, [.ref n_1])), (n_1, .inl (E.2.1, 24, .inl (fun _ => 0)))] H := hP
  exact x_nv (fun k => ([n_1] : List Nat).getD k 0) hx hb hr hlk hS hP (hX.d rfl) [0, 1] rfl rfl (Nat.le_of_ble_eq_true rfl) (Nat.le_of_ble_eq_true rfl) dX2_init_12
theorem hdX3_init : yX3_init.cls = RX3 ∧ yX3_init.cls ≠ "java/lang/invoke/MethodHandle" ∧ yX3_init.cls ≠ "java/lang/invoke/VarHandle" ∧ (parseMethodDescriptor yX3_init.desc).map (fun d => d.parameters.length) = some 0 := by decide +kernel
set_option maxHeartbeats 4000000 in
set_option maxRecDepth 100000 in
theorem kX3_init (l : Launch) (E : XE) (Z : XZ) (h : Nat) : xN l yX3_init wsX3_init ({ frames := 1, cells := 2, slots := 524, locals := 12 }) E Z [(h, .inr (3, [.null, .null, .int 0, .int 0, .int 0, .int 0, .int 0, .int 0, .int 0]))] [.ref h] (fun u => [(h, .inr (3, [.ref (u 0), .ref (u 1), .int 0, .int 0, .int 0, .int 0, .int 0, .int 0, .int 0])), ((u 0), .inl (E.2.1, 500, .inl (fun _ => 0))), ((u 1), .inl (E.2.1, 24, .inl (fun _ => 0)))]) 2 524 := by
  refine xN.of (cc := cX3_init) (maxL := 1) (ret := none) (by decide) rfl (Nat.le_of_ble_eq_true rfl) ?_
  intro p e s m args below meth c ls A hM hE hP hD hS hA hZ hAO hl
  obtain ⟨hx, hb, hr, hml, hts, hown, hlk, hnm⟩ := hM
  have g_1 : (Cond.methodLink RX3 3 objectInit).before args s = true := hts (Cond.methodLink RX3 3 objectInit) (by decide +kernel)
  have g_2 : (Cond.instanceMethod objectInit).before args s = true := hts (Cond.instanceMethod objectInit) (by decide +kernel)
  have g_3 : (Cond.code objectInit ⟨#[0xb1]⟩ 1 none).before args s = true := hts (Cond.code objectInit ⟨#[0xb1]⟩ 1 none) (by decide +kernel)
  have g_4 : (Cond.arrayClass .int).before args s = true := hts (Cond.arrayClass .int) (by decide +kernel)
  have g_5 : (Cond.fieldLink RX3 9 "RailPendulum$PlantReader" "buffer" "[I").before args s = true := hts (Cond.fieldLink RX3 9 "RailPendulum$PlantReader" "buffer" "[I") (by decide +kernel)
  have g_6 : ∀ w ∈ wsX30, w ∈ wsX3_init := by decide +kernel
  have g_7 : (Cond.fieldLink RX3 15 "RailPendulum$PlantReader" "numbers" "[I").before args s = true := hts (Cond.fieldLink RX3 15 "RailPendulum$PlantReader" "numbers" "[I") (by decide +kernel)
  have hX : xD A [h] := xD.of hD rfl
  have hl : lv_has ls 1 [(0, .ref h)] := hl
  refine lv_aload_n hx hb dX3_init_0 rfl (lv_at hl 0 rfl) ?_
  refine W.objInit hx hb hown g_1 g_2 g_3 rfl (by rw [hml]; exact hl.1) rfl dX3_init_1 (Nat.le_of_ble_eq_true rfl) (Nat.le_of_ble_eq_true rfl) ?_
  refine W.eq (g2 := F0 m 4 ls []) rfl ?_
  refine lv_aload_n hx hb dX3_init_4 rfl (lv_at hl 0 rfl) ?_
  refine lv_sipush (v := 500) hx hb dX3_init_5 (by decide) ?_
  refine x_newI hx hb g_4 hE hP (hX.d rfl) hS hA 500 (by decide) (by decide) (by decide) (Nat.le_of_ble_eq_true rfl) (Nat.le_of_ble_eq_true rfl) dX3_init_8 (fun n_1 H hP hD hS => ?_)
  have hP : va_P E.1 vwCl [(h, .inr (3, [.null, .null, .int 0, .int 0, .int 0, .int 0, .int 0, .int 0, .int 0])), (n_1, .inl (E.2.1, 500, .inl (fun _ => 0)))] H := hP
  have hX : xD A [h, n_1] := xD.of hD rfl
  refine W.widen (k := 1) (n := 500) (by omega) (by omega) ?_
  refine va_putF (D := E.1) (ci := 3) (v := .ref n_1) (ty := .array .int) (C := RX3) (T := TX3) (N := 9) hx hb hts g_6 tyX3 tyX3_ok nmX3 hown hE.1 hP (hX.d rfl) hS 0 rfl rfl 0 (by decide) g_5 (fun _ h9 => h9) rfl hnm rfl (by decide +kernel) rfl rfl (Nat.le_of_ble_eq_true rfl) dX3_init_10 (fun H locs hP _ hS => ?_)
  have hP : va_P E.1 vwCl [(h, .inr (3, [.ref n_1, .null, .int 0, .int 0, .int 0, .int 0, .int 0, .int 0, .int 0])), (n_1, .inl (E.2.1, 500, .inl (fun _ => 0)))] H := hP
  refine lv_aload_n hx hb dX3_init_13 rfl (lv_at hl 0 rfl) ?_
  refine lv_bipush (v := 24) hx hb dX3_init_14 (by decide) ?_
  refine x_newI hx hb g_4 hE hP (hX.d rfl) hS hA 24 (by decide) (by decide) (by decide) (Nat.le_of_ble_eq_true rfl) (Nat.le_of_ble_eq_true rfl) dX3_init_16 (fun n_2 H hP hD hS => ?_)
  have hP : va_P E.1 vwCl [(h, .inr (3, [.ref n_1, .null, .int 0, .int 0, .int 0, .int 0, .int 0, .int 0, .int 0])), (n_1, .inl (E.2.1, 500, .inl (fun _ => 0))), (n_2, .inl (E.2.1, 24, .inl (fun _ => 0)))] H := hP
  have hX : xD A [h, n_1, n_2] := xD.of hD rfl
  refine W.widen (k := 2) (n := 524) (by omega) (by omega) ?_
  refine va_putF (D := E.1) (ci := 3) (v := .ref n_2) (ty := .array .int) (C := RX3) (T := TX3) (N := 9) hx hb hts g_6 tyX3 tyX3_ok nmX3 hown hE.1 hP (hX.d rfl) hS 0 rfl rfl 1 (by decide) g_7 (fun _ h9 => h9) rfl hnm rfl (by decide +kernel) rfl rfl (Nat.le_of_ble_eq_true rfl) dX3_init_18 (fun H locs hP _ hS => ?_)
  have hP : va_P E.1 vwCl [(h, .inr (3, [.ref n_1, .ref n_2, .int 0, .int 0, .int 0, .int 0, .int 0, .int 0, .int 0])), (n_1, .inl (E.2.1, 500, .inl (fun _ => 0))), (n_2, .inl (E.2.1, 24, .inl (fun _ => 0)))] H := hP
  exact x_nv (fun k => ([n_1, n_2] : List Nat).getD k 0) hx hb hr hlk hS hP (hX.d rfl) [0, 1, 2] rfl rfl (Nat.le_of_ble_eq_true rfl) (Nat.le_of_ble_eq_true rfl) dX3_init_21
theorem hdX5_init : yX5_init.cls = RX5 ∧ yX5_init.cls ≠ "java/lang/invoke/MethodHandle" ∧ yX5_init.cls ≠ "java/lang/invoke/VarHandle" ∧ (parseMethodDescriptor yX5_init.desc).map (fun d => d.parameters.length) = some 0 := by decide +kernel
set_option maxHeartbeats 4000000 in
set_option maxRecDepth 100000 in
theorem kX5_init (l : Launch) (E : XE) (Z : XZ) (h : Nat) : xN l yX5_init wsX5_init ({ frames := 1, cells := 2, slots := 98, locals := 12 }) E Z [(h, .inr (5, [.null, .null]))] [.ref h] (fun u => [(h, .inr (5, [.ref (u 0), .ref (u 1)])), ((u 0), .inl (E.2.1, 49, .inl (fun _ => 0))), ((u 1), .inl (E.2.1, 49, .inl (fun _ => 0)))]) 2 98 := by
  refine xN.of (cc := cX5_init) (maxL := 1) (ret := none) (by decide) rfl (Nat.le_of_ble_eq_true rfl) ?_
  intro p e s m args below meth c ls A hM hE hP hD hS hA hZ hAO hl
  obtain ⟨hx, hb, hr, hml, hts, hown, hlk, hnm⟩ := hM
  have g_1 : (Cond.methodLink RX5 5 objectInit).before args s = true := hts (Cond.methodLink RX5 5 objectInit) (by decide +kernel)
  have g_2 : (Cond.instanceMethod objectInit).before args s = true := hts (Cond.instanceMethod objectInit) (by decide +kernel)
  have g_3 : (Cond.code objectInit ⟨#[0xb1]⟩ 1 none).before args s = true := hts (Cond.code objectInit ⟨#[0xb1]⟩ 1 none) (by decide +kernel)
  have g_4 : (Cond.arrayClass .int).before args s = true := hts (Cond.arrayClass .int) (by decide +kernel)
  have g_5 : (Cond.fieldLink RX5 11 "RailPendulum$Region" "reasons" "[I").before args s = true := hts (Cond.fieldLink RX5 11 "RailPendulum$Region" "reasons" "[I") (by decide +kernel)
  have g_6 : ∀ w ∈ wsX50, w ∈ wsX5_init := by decide +kernel
  have g_7 : (Cond.fieldLink RX5 15 "RailPendulum$Region" "failedSteps" "[I").before args s = true := hts (Cond.fieldLink RX5 15 "RailPendulum$Region" "failedSteps" "[I") (by decide +kernel)
  have hX : xD A [h] := xD.of hD rfl
  have hl : lv_has ls 1 [(0, .ref h)] := hl
  refine lv_aload_n hx hb dX5_init_0 rfl (lv_at hl 0 rfl) ?_
  refine W.objInit hx hb hown g_1 g_2 g_3 rfl (by rw [hml]; exact hl.1) rfl dX5_init_1 (Nat.le_of_ble_eq_true rfl) (Nat.le_of_ble_eq_true rfl) ?_
  refine W.eq (g2 := F0 m 4 ls []) rfl ?_
  refine lv_aload_n hx hb dX5_init_4 rfl (lv_at hl 0 rfl) ?_
  refine lv_bipush (v := 49) hx hb dX5_init_5 (by decide) ?_
  refine x_newI hx hb g_4 hE hP (hX.d rfl) hS hA 49 (by decide) (by decide) (by decide) (Nat.le_of_ble_eq_true rfl) (Nat.le_of_ble_eq_true rfl) dX5_init_7 (fun n_1 H hP hD hS => ?_)
  have hP : va_P E.1 vwCl [(h, .inr (5, [.null, .null])), (n_1, .inl (E.2.1, 49, .inl (fun _ => 0)))] H := hP
  have hX : xD A [h, n_1] := xD.of hD rfl
  refine W.widen (k := 1) (n := 49) (by omega) (by omega) ?_
  refine va_putF (D := E.1) (ci := 5) (v := .ref n_1) (ty := .array .int) (C := RX5) (T := TX5) (N := 2) hx hb hts g_6 tyX5 tyX5_ok nmX5 hown hE.1 hP (hX.d rfl) hS 0 rfl rfl 0 (by decide) g_5 (fun _ h9 => h9) rfl hnm rfl (by decide +kernel) rfl rfl (Nat.le_of_ble_eq_true rfl) dX5_init_9 (fun H locs hP _ hS => ?_)
  have hP : va_P E.1 vwCl [(h, .inr (5, [.ref n_1, .null])), (n_1, .inl (E.2.1, 49, .inl (fun _ => 0)))] H := hP
  refine lv_aload_n hx hb dX5_init_12 rfl (lv_at hl 0 rfl) ?_
  refine lv_bipush (v := 49) hx hb dX5_init_13 (by decide) ?_
  refine x_newI hx hb g_4 hE hP (hX.d rfl) hS hA 49 (by decide) (by decide) (by decide) (Nat.le_of_ble_eq_true rfl) (Nat.le_of_ble_eq_true rfl) dX5_init_15 (fun n_2 H hP hD hS => ?_)
  have hP : va_P E.1 vwCl [(h, .inr (5, [.ref n_1, .null])), (n_1, .inl (E.2.1, 49, .inl (fun _ => 0))), (n_2, .inl (E.2.1, 49, .inl (fun _ => 0)))] H := hP
  have hX : xD A [h, n_1, n_2] := xD.of hD rfl
  refine W.widen (k := 2) (n := 98) (by omega) (by omega) ?_
  refine va_putF (D := E.1) (ci := 5) (v := .ref n_2) (ty := .array .int) (C := RX5) (T := TX5) (N := 2) hx hb hts g_6 tyX5 tyX5_ok nmX5 hown hE.1 hP (hX.d rfl) hS 0 rfl rfl 1 (by decide) g_7 (fun _ h9 => h9) rfl hnm rfl (by decide +kernel) rfl rfl (Nat.le_of_ble_eq_true rfl) dX5_init_17 (fun H locs hP _ hS => ?_)
  have hP : va_P E.1 vwCl [(h, .inr (5, [.ref n_1, .ref n_2])), (n_1, .inl (E.2.1, 49, .inl (fun _ => 0))), (n_2, .inl (E.2.1, 49, .inl (fun _ => 0)))] H := hP
  exact x_nv (fun k => ([n_1, n_2] : List Nat).getD k 0) hx hb hr hlk hS hP (hX.d rfl) [0, 1, 2] rfl rfl (Nat.le_of_ble_eq_true rfl) (Nat.le_of_ble_eq_true rfl) dX5_init_20
theorem hdX6_init : yX6_init.cls = RX6 ∧ yX6_init.cls ≠ "java/lang/invoke/MethodHandle" ∧ yX6_init.cls ≠ "java/lang/invoke/VarHandle" ∧ (parseMethodDescriptor yX6_init.desc).map (fun d => d.parameters.length) = some 0 := by decide +kernel
set_option maxHeartbeats 4000000 in
set_option maxRecDepth 100000 in
theorem kX6_init (l : Launch) (E : XE) (Z : XZ) (h : Nat) : xN l yX6_init wsX6_init ({ frames := 2, cells := 5, slots := 110, locals := 32 }) E Z [(h, .inr (6, [.null, .null, .null, .int 0, .int 0, .int 0, .int 0, .int 0, .int 0, .int 0, .int 0]))] [.ref h] (fun u => [(h, .inr (6, [.ref (u 0), .ref (u 1), .ref (u 4), .int 0, .int 0, .int 0, .int 0, .int 0, .int 0, .int 0, .int 0])), ((u 0), .inr (1, [.int 0, .int 0, .int 0, .int 0, .int 0, .int 0])), ((u 1), .inr (5, [.ref (u 2), .ref (u 3)])), ((u 2), .inl (E.2.1, 49, .inl (fun _ => 0))), ((u 3), .inl (E.2.1, 49, .inl (fun _ => 0))), ((u 4), .inr (4, [.long 0, .long 0, .long 0, .long 0]))]) 5 110 := by
  refine xN.of (cc := cX6_init) (maxL := 1) (ret := none) (by decide) rfl (Nat.le_of_ble_eq_true rfl) ?_
  intro p e s m args below meth c ls A hM hE hP hD hS hA hZ hAO hl
  obtain ⟨hx, hb, hr, hml, hts, hown, hlk, hnm⟩ := hM
  have g_1 : (Cond.methodLink RX6 3 objectInit).before args s = true := hts (Cond.methodLink RX6 3 objectInit) (by decide +kernel)
  have g_2 : (Cond.instanceMethod objectInit).before args s = true := hts (Cond.instanceMethod objectInit) (by decide +kernel)
  have g_3 : (Cond.code objectInit ⟨#[0xb1]⟩ 1 none).before args s = true := hts (Cond.code objectInit ⟨#[0xb1]⟩ 1 none) (by decide +kernel)
  have g_4 : (Cond.classLink RX6 9 RX1).before args s = true := hts (Cond.classLink RX6 9 RX1) (by decide +kernel)
  have g_5 : (Cond.instantiable RX1 6).before args s = true := hts (Cond.instantiable RX1 6) (by decide +kernel)
  have g_6 : (Cond.initialized RX1).before args s = true := hts (Cond.initialized RX1) (by decide +kernel)
  have g_7 : ∀ w ∈ wsX10, w ∈ wsX6_init := by decide +kernel
  have g_8 : (Cond.initialized yX1_init.cls).before args s = true := hts _ (by decide +kernel)
  have g_9 : (Cond.instanceMethod yX1_init).before args s = true := hts (Cond.instanceMethod yX1_init) (by decide +kernel)
  have g_10 : va_Nw (.methodLinkNest RX6 11 yX1_init "RailPendulum") s := hE.2 _ (by decide +kernel)
  have g_11 : (Cond.fieldLink RX6 12 "RailPendulum$Situation" "motion" "LRailPendulum$Motion;").before args s = true := hts (Cond.fieldLink RX6 12 "RailPendulum$Situation" "motion" "LRailPendulum$Motion;") (by decide +kernel)
  have g_12 : ∀ w ∈ wsX60, w ∈ wsX6_init := by decide +kernel
  have g_13 : (Cond.classLink RX6 18 RX5).before args s = true := hts (Cond.classLink RX6 18 RX5) (by decide +kernel)
  have g_14 : (Cond.instantiable RX5 2).before args s = true := hts (Cond.instantiable RX5 2) (by decide +kernel)
  have g_15 : (Cond.initialized RX5).before args s = true := hts (Cond.initialized RX5) (by decide +kernel)
  have g_16 : ∀ w ∈ wsX50, w ∈ wsX6_init := by decide +kernel
  have g_17 : (Cond.initialized yX5_init.cls).before args s = true := hts _ (by decide +kernel)
  have g_18 : (Cond.instanceMethod yX5_init).before args s = true := hts (Cond.instanceMethod yX5_init) (by decide +kernel)
  have g_19 : va_Nw (.methodLinkNest RX6 20 yX5_init "RailPendulum") s := hE.2 _ (by decide +kernel)
  have g_20 : (Cond.fieldLink RX6 21 "RailPendulum$Situation" "region" "LRailPendulum$Region;").before args s = true := hts (Cond.fieldLink RX6 21 "RailPendulum$Situation" "region" "LRailPendulum$Region;") (by decide +kernel)
  have g_21 : (Cond.classLink RX6 25 RX4).before args s = true := hts (Cond.classLink RX6 25 RX4) (by decide +kernel)
  have g_22 : (Cond.instantiable RX4 4).before args s = true := hts (Cond.instantiable RX4 4) (by decide +kernel)
  have g_23 : (Cond.initialized RX4).before args s = true := hts (Cond.initialized RX4) (by decide +kernel)
  have g_24 : ∀ w ∈ wsX40, w ∈ wsX6_init := by decide +kernel
  have g_25 : (Cond.initialized yX4_init.cls).before args s = true := hts _ (by decide +kernel)
  have g_26 : (Cond.instanceMethod yX4_init).before args s = true := hts (Cond.instanceMethod yX4_init) (by decide +kernel)
  have g_27 : va_Nw (.methodLinkNest RX6 27 yX4_init "RailPendulum") s := hE.2 _ (by decide +kernel)
  have g_28 : (Cond.fieldLink RX6 28 "RailPendulum$Situation" "recent" "LRailPendulum$RecentSwitches;").before args s = true := hts (Cond.fieldLink RX6 28 "RailPendulum$Situation" "recent" "LRailPendulum$RecentSwitches;") (by decide +kernel)
  have hX : xD A [h] := xD.of hD rfl
  have hl : lv_has ls 1 [(0, .ref h)] := hl
  refine lv_aload_n hx hb dX6_init_0 rfl (lv_at hl 0 rfl) ?_
  refine W.objInit hx hb hown g_1 g_2 g_3 rfl (by rw [hml]; exact hl.1) rfl dX6_init_1 (Nat.le_of_ble_eq_true rfl) (Nat.le_of_ble_eq_true rfl) ?_
  refine W.eq (g2 := F0 m 4 ls []) rfl ?_
  refine lv_aload_n hx hb dX6_init_4 rfl (lv_at hl 0 rfl) ?_
  refine va_new (ci := 1) (fs := [.int 0, .int 0, .int 0, .int 0, .int 0, .int 0]) (C := RX1) (T := TX1) (N := 6) hx hb hts g_7 tyX1 tyX1_ok hown g_4 g_5 g_6 hE.1 hP (hX.d rfl) hS hA rfl (fun j hj => by rcases (show j = 0 ∨ j = 1 ∨ j = 2 ∨ j = 3 ∨ j = 4 ∨ j = 5 by omega) with rfl | rfl | rfl | rfl | rfl | rfl <;> rfl) (Nat.le_of_ble_eq_true rfl) (Nat.le_of_ble_eq_true rfl) dX6_init_5 (fun n_1 H hP hD hS => ?_)
  have hP : va_P E.1 vwCl [(h, .inr (6, [.null, .null, .null, .int 0, .int 0, .int 0, .int 0, .int 0, .int 0, .int 0, .int 0])), (n_1, .inr (1, [.int 0, .int 0, .int 0, .int 0, .int 0, .int 0]))] H := hP
  have hX : xD A [h, n_1] := xD.of hD rfl
  refine W.widen (k := 1) (n := 6) (by omega) (by omega) ?_
  refine lv_dup hx hb dX6_init_8 rfl ?_
  refine x_nIN (wr := [(h, .inr (6, [.null, .null, .null, .int 0, .int 0, .int 0, .int 0, .int 0, .int 0, .int 0, .int 0]))]) [] (kX1_init l E Z n_1) ⟨hx, hb, hml, hown, hts⟩ ⟨va_cnB 0 hts gX6_init_X1_init_n11 rfl rfl rfl g_10 g_8 hdX1_init.2 ⟨Nat.le_of_ble_eq_true rfl, Nat.le_of_ble_eq_true rfl⟩, rfl, g_9⟩ hZ hAO hE hP (hX.d rfl) hS hA [1] [0] rfl rfl rfl rfl (by decide) hl.1 rfl rfl (Nat.le_of_ble_eq_true rfl) dX6_init_9 (Nat.le_of_ble_eq_true rfl) (Nat.le_of_ble_eq_true rfl) (fun q_2 H locs hP hD hS => ?_)
  have hP : va_P E.1 vwCl [(h, .inr (6, [.null, .null, .null, .int 0, .int 0, .int 0, .int 0, .int 0, .int 0, .int 0, .int 0])), (n_1, .inr (1, [.int 0, .int 0, .int 0, .int 0, .int 0, .int 0]))] H := hP
  have hX : xD A [h, n_1] := xD.of hD rfl
  refine W.widen (k := 1) (n := 6) (by omega) (by omega) ?_
  refine W.eq (g2 := F0 m 12 ls [.ref n_1, .ref h]) rfl ?_
  refine va_putF (D := E.1) (ci := 6) (v := .ref n_1) (ty := .object "RailPendulum$Motion") (C := RX6) (T := TX6) (N := 11) hx hb hts g_12 tyX6 tyX6_ok nmX6 hown hE.1 hP (hX.d rfl) hS 0 rfl rfl 0 (by decide) g_11 (fun _ h9 => h9) rfl hnm rfl (by decide +kernel) rfl rfl (Nat.le_of_ble_eq_true rfl) dX6_init_12 (fun H locs hP _ hS => ?_)
  have hP : va_P E.1 vwCl [(h, .inr (6, [.ref n_1, .null, .null, .int 0, .int 0, .int 0, .int 0, .int 0, .int 0, .int 0, .int 0])), (n_1, .inr (1, [.int 0, .int 0, .int 0, .int 0, .int 0, .int 0]))] H := hP
  refine lv_aload_n hx hb dX6_init_15 rfl (lv_at hl 0 rfl) ?_
  refine va_new (ci := 5) (fs := [.null, .null]) (C := RX5) (T := TX5) (N := 2) hx hb hts g_16 tyX5 tyX5_ok hown g_13 g_14 g_15 hE.1 hP (hX.d rfl) hS hA rfl (fun j hj => by rcases (show j = 0 ∨ j = 1 by omega) with rfl | rfl <;> rfl) (Nat.le_of_ble_eq_true rfl) (Nat.le_of_ble_eq_true rfl) dX6_init_16 (fun n_3 H hP hD hS => ?_)
  have hP : va_P E.1 vwCl [(h, .inr (6, [.ref n_1, .null, .null, .int 0, .int 0, .int 0, .int 0, .int 0, .int 0, .int 0, .int 0])), (n_1, .inr (1, [.int 0, .int 0, .int 0, .int 0, .int 0, .int 0])), (n_3, .inr (5, [.null, .null]))] H := hP
  have hX : xD A [h, n_1, n_3] := xD.of hD rfl
  refine W.widen (k := 2) (n := 8) (by omega) (by omega) ?_
  refine lv_dup hx hb dX6_init_19 rfl ?_
  refine x_nIN (wr := [(h, .inr (6, [.ref n_1, .null, .null, .int 0, .int 0, .int 0, .int 0, .int 0, .int 0, .int 0, .int 0])), (n_1, .inr (1, [.int 0, .int 0, .int 0, .int 0, .int 0, .int 0]))]) [] (kX5_init l E Z n_3) ⟨hx, hb, hml, hown, hts⟩ ⟨va_cnB 0 hts gX6_init_X5_init_n20 rfl rfl rfl g_19 g_17 hdX5_init.2 ⟨Nat.le_of_ble_eq_true rfl, Nat.le_of_ble_eq_true rfl⟩, rfl, g_18⟩ hZ hAO hE hP (hX.d rfl) hS hA [2] [0, 1] rfl rfl rfl rfl (by decide) hl.1 rfl rfl (Nat.le_of_ble_eq_true rfl) dX6_init_20 (Nat.le_of_ble_eq_true rfl) (Nat.le_of_ble_eq_true rfl) (fun q_4 H locs hP hD hS => ?_)
  have hP : va_P E.1 vwCl [(h, .inr (6, [.ref n_1, .null, .null, .int 0, .int 0, .int 0, .int 0, .int 0, .int 0, .int 0, .int 0])), (n_1, .inr (1, [.int 0, .int 0, .int 0, .int 0, .int 0, .int 0])), (n_3, .inr (5, [.ref (q_4 0), .ref (q_4 1)])), ((q_4 0), .inl (E.2.1, 49, .inl (fun _ => 0))), ((q_4 1), .inl (E.2.1, 49, .inl (fun _ => 0)))] H := hP
  have hX : xD A [h, n_1, n_3, (q_4 0), (q_4 1)] := xD.of hD rfl
  refine W.widen (k := 4) (n := 106) (by omega) (by omega) ?_
  refine W.eq (g2 := F0 m 23 ls [.ref n_3, .ref h]) rfl ?_
  refine va_putF (D := E.1) (ci := 6) (v := .ref n_3) (ty := .object "RailPendulum$Region") (C := RX6) (T := TX6) (N := 11) hx hb hts g_12 tyX6 tyX6_ok nmX6 hown hE.1 hP (hX.d rfl) hS 0 rfl rfl 1 (by decide) g_20 (fun _ h9 => h9) rfl hnm rfl (by decide +kernel) rfl rfl (Nat.le_of_ble_eq_true rfl) dX6_init_23 (fun H locs hP _ hS => ?_)
  have hP : va_P E.1 vwCl [(h, .inr (6, [.ref n_1, .ref n_3, .null, .int 0, .int 0, .int 0, .int 0, .int 0, .int 0, .int 0, .int 0])), (n_1, .inr (1, [.int 0, .int 0, .int 0, .int 0, .int 0, .int 0])), (n_3, .inr (5, [.ref (q_4 0), .ref (q_4 1)])), ((q_4 0), .inl (E.2.1, 49, .inl (fun _ => 0))), ((q_4 1), .inl (E.2.1, 49, .inl (fun _ => 0)))] H := hP
  refine lv_aload_n hx hb dX6_init_26 rfl (lv_at hl 0 rfl) ?_
  refine va_new (ci := 4) (fs := [.long 0, .long 0, .long 0, .long 0]) (C := RX4) (T := TX4) (N := 4) hx hb hts g_24 tyX4 tyX4_ok hown g_21 g_22 g_23 hE.1 hP (hX.d rfl) hS hA rfl (fun j hj => by rcases (show j = 0 ∨ j = 1 ∨ j = 2 ∨ j = 3 by omega) with rfl | rfl | rfl | rfl <;> rfl) (Nat.le_of_ble_eq_true rfl) (Nat.le_of_ble_eq_true rfl) dX6_init_27 (fun n_5 H hP hD hS => ?_)
  have hP : va_P E.1 vwCl [(h, .inr (6, [.ref n_1, .ref n_3, .null, .int 0, .int 0, .int 0, .int 0, .int 0, .int 0, .int 0, .int 0])), (n_1, .inr (1, [.int 0, .int 0, .int 0, .int 0, .int 0, .int 0])), (n_3, .inr (5, [.ref (q_4 0), .ref (q_4 1)])), ((q_4 0), .inl (E.2.1, 49, .inl (fun _ => 0))), ((q_4 1), .inl (E.2.1, 49, .inl (fun _ => 0))), (n_5, .inr (4, [.long 0, .long 0, .long 0, .long 0]))] H := hP
  have hX : xD A [h, n_1, n_3, (q_4 0), (q_4 1), n_5] := xD.of hD rfl
  refine W.widen (k := 5) (n := 110) (by omega) (by omega) ?_
  refine lv_dup hx hb dX6_init_30 rfl ?_
  refine x_nIN (wr := [(h, .inr (6, [.ref n_1, .ref n_3, .null, .int 0, .int 0, .int 0, .int 0, .int 0, .int 0, .int 0, .int 0])), (n_1, .inr (1, [.int 0, .int 0, .int 0, .int 0, .int 0, .int 0])), (n_3, .inr (5, [.ref (q_4 0), .ref (q_4 1)])), ((q_4 0), .inl (E.2.1, 49, .inl (fun _ => 0))), ((q_4 1), .inl (E.2.1, 49, .inl (fun _ => 0)))]) [] (kX4_init l E Z n_5) ⟨hx, hb, hml, hown, hts⟩ ⟨va_cnB 0 hts gX6_init_X4_init_n27 rfl rfl rfl g_27 g_25 hdX4_init.2 ⟨Nat.le_of_ble_eq_true rfl, Nat.le_of_ble_eq_true rfl⟩, rfl, g_26⟩ hZ hAO hE hP (hX.d rfl) hS hA [5] [0, 1, 2, 3, 4] rfl rfl rfl rfl (by decide) hl.1 rfl rfl (Nat.le_of_ble_eq_true rfl) dX6_init_31 (Nat.le_of_ble_eq_true rfl) (Nat.le_of_ble_eq_true rfl) (fun q_6 H locs hP hD hS => ?_)
  have hP : va_P E.1 vwCl [(h, .inr (6, [.ref n_1, .ref n_3, .null, .int 0, .int 0, .int 0, .int 0, .int 0, .int 0, .int 0, .int 0])), (n_1, .inr (1, [.int 0, .int 0, .int 0, .int 0, .int 0, .int 0])), (n_3, .inr (5, [.ref (q_4 0), .ref (q_4 1)])), ((q_4 0), .inl (E.2.1, 49, .inl (fun _ => 0))), ((q_4 1), .inl (E.2.1, 49, .inl (fun _ => 0))), (n_5, .inr (4, [.long 0, .long 0, .long 0, .long 0]))] H := hP
  have hX : xD A [h, n_1, n_3, (q_4 0), (q_4 1), n_5] := xD.of hD rfl
  refine W.widen (k := 5) (n := 110) (by omega) (by omega) ?_
  refine W.eq (g2 := F0 m 34 ls [.ref n_5, .ref h]) rfl ?_
  refine va_putF (D := E.1) (ci := 6) (v := .ref n_5) (ty := .object "RailPendulum$RecentSwitches") (C := RX6) (T := TX6) (N := 11) hx hb hts g_12 tyX6 tyX6_ok nmX6 hown hE.1 hP (hX.d rfl) hS 0 rfl rfl 2 (by decide) g_28 (fun _ h9 => h9) rfl hnm rfl (by decide +kernel) rfl rfl (Nat.le_of_ble_eq_true rfl) dX6_init_34 (fun H locs hP _ hS => ?_)
  have hP : va_P E.1 vwCl [(h, .inr (6, [.ref n_1, .ref n_3, .ref n_5, .int 0, .int 0, .int 0, .int 0, .int 0, .int 0, .int 0, .int 0])), (n_1, .inr (1, [.int 0, .int 0, .int 0, .int 0, .int 0, .int 0])), (n_3, .inr (5, [.ref (q_4 0), .ref (q_4 1)])), ((q_4 0), .inl (E.2.1, 49, .inl (fun _ => 0))), ((q_4 1), .inl (E.2.1, 49, .inl (fun _ => 0))), (n_5, .inr (4, [.long 0, .long 0, .long 0, .long 0]))] H := hP
  exact x_nv (fun k => ([n_1, n_3, (q_4 0), (q_4 1), n_5] : List Nat).getD k 0) hx hb hr hlk hS hP (hX.d rfl) [0, 1, 2, 3, 4, 5] rfl rfl (Nat.le_of_ble_eq_true rfl) (Nat.le_of_ble_eq_true rfl) dX6_init_37
theorem hdX7_init : yX7_init.cls = RX7 ∧ yX7_init.cls ≠ "java/lang/invoke/MethodHandle" ∧ yX7_init.cls ≠ "java/lang/invoke/VarHandle" ∧ (parseMethodDescriptor yX7_init.desc).map (fun d => d.parameters.length) = some 0 := by decide +kernel
set_option maxHeartbeats 4000000 in
set_option maxRecDepth 100000 in
theorem kX7_init (l : Launch) (E : XE) (Z : XZ) (h : Nat) : xN l yX7_init wsX7_init ({ frames := 3, cells := 6, slots := 121, locals := 52 }) E Z [(h, .inr (7, [.null, .int 0]))] [.ref h] (fun u => [(h, .inr (7, [.ref (u 0), .int 0])), ((u 0), .inr (6, [.ref (u 1), .ref (u 2), .ref (u 5), .int 0, .int 0, .int 0, .int 0, .int 0, .int 0, .int 0, .int 0])), ((u 1), .inr (1, [.int 0, .int 0, .int 0, .int 0, .int 0, .int 0])), ((u 2), .inr (5, [.ref (u 3), .ref (u 4)])), ((u 3), .inl (E.2.1, 49, .inl (fun _ => 0))), ((u 4), .inl (E.2.1, 49, .inl (fun _ => 0))), ((u 5), .inr (4, [.long 0, .long 0, .long 0, .long 0]))]) 6 121 := by
  refine xN.of (cc := cX7_init) (maxL := 1) (ret := none) (by decide) rfl (Nat.le_of_ble_eq_true rfl) ?_
  intro p e s m args below meth c ls A hM hE hP hD hS hA hZ hAO hl
  obtain ⟨hx, hb, hr, hml, hts, hown, hlk, hnm⟩ := hM
  have g_1 : (Cond.methodLink RX7 1 objectInit).before args s = true := hts (Cond.methodLink RX7 1 objectInit) (by decide +kernel)
  have g_2 : (Cond.instanceMethod objectInit).before args s = true := hts (Cond.instanceMethod objectInit) (by decide +kernel)
  have g_3 : (Cond.code objectInit ⟨#[0xb1]⟩ 1 none).before args s = true := hts (Cond.code objectInit ⟨#[0xb1]⟩ 1 none) (by decide +kernel)
  have g_4 : (Cond.classLink RX7 7 RX6).before args s = true := hts (Cond.classLink RX7 7 RX6) (by decide +kernel)
  have g_5 : (Cond.instantiable RX6 11).before args s = true := hts (Cond.instantiable RX6 11) (by decide +kernel)
  have g_6 : (Cond.initialized RX6).before args s = true := hts (Cond.initialized RX6) (by decide +kernel)
  have g_7 : ∀ w ∈ wsX60, w ∈ wsX7_init := by decide +kernel
  have g_8 : (Cond.initialized yX6_init.cls).before args s = true := hts _ (by decide +kernel)
  have g_9 : (Cond.instanceMethod yX6_init).before args s = true := hts (Cond.instanceMethod yX6_init) (by decide +kernel)
  have g_10 : va_Nw (.methodLinkNest RX7 9 yX6_init "RailPendulum") s := hE.2 _ (by decide +kernel)
  have g_11 : (Cond.fieldLink RX7 10 "RailPendulum$Snapshot" "kept" "LRailPendulum$Situation;").before args s = true := hts (Cond.fieldLink RX7 10 "RailPendulum$Snapshot" "kept" "LRailPendulum$Situation;") (by decide +kernel)
  have g_12 : ∀ w ∈ wsX70, w ∈ wsX7_init := by decide +kernel
  have hX : xD A [h] := xD.of hD rfl
  have hl : lv_has ls 1 [(0, .ref h)] := hl
  refine lv_aload_n hx hb dX7_init_0 rfl (lv_at hl 0 rfl) ?_
  refine W.objInit hx hb hown g_1 g_2 g_3 rfl (by rw [hml]; exact hl.1) rfl dX7_init_1 (Nat.le_of_ble_eq_true rfl) (Nat.le_of_ble_eq_true rfl) ?_
  refine W.eq (g2 := F0 m 4 ls []) rfl ?_
  refine lv_aload_n hx hb dX7_init_4 rfl (lv_at hl 0 rfl) ?_
  refine va_new (ci := 6) (fs := [.null, .null, .null, .int 0, .int 0, .int 0, .int 0, .int 0, .int 0, .int 0, .int 0]) (C := RX6) (T := TX6) (N := 11) hx hb hts g_7 tyX6 tyX6_ok hown g_4 g_5 g_6 hE.1 hP (hX.d rfl) hS hA rfl (fun j hj => by rcases (show j = 0 ∨ j = 1 ∨ j = 2 ∨ j = 3 ∨ j = 4 ∨ j = 5 ∨ j = 6 ∨ j = 7 ∨ j = 8 ∨ j = 9 ∨ j = 10 by omega) with rfl | rfl | rfl | rfl | rfl | rfl | rfl | rfl | rfl | rfl | rfl <;> rfl) (Nat.le_of_ble_eq_true rfl) (Nat.le_of_ble_eq_true rfl) dX7_init_5 (fun n_1 H hP hD hS => ?_)
  have hP : va_P E.1 vwCl [(h, .inr (7, [.null, .int 0])), (n_1, .inr (6, [.null, .null, .null, .int 0, .int 0, .int 0, .int 0, .int 0, .int 0, .int 0, .int 0]))] H := hP
  have hX : xD A [h, n_1] := xD.of hD rfl
  refine W.widen (k := 1) (n := 11) (by omega) (by omega) ?_
  refine lv_dup hx hb dX7_init_8 rfl ?_
  refine x_nIN (wr := [(h, .inr (7, [.null, .int 0]))]) [] (kX6_init l E Z n_1) ⟨hx, hb, hml, hown, hts⟩ ⟨va_cnB 0 hts gX7_init_X6_init_n9 rfl rfl rfl g_10 g_8 hdX6_init.2 ⟨Nat.le_of_ble_eq_true rfl, Nat.le_of_ble_eq_true rfl⟩, rfl, g_9⟩ hZ hAO hE hP (hX.d rfl) hS hA [1] [0] rfl rfl rfl rfl (by decide) hl.1 rfl rfl (Nat.le_of_ble_eq_true rfl) dX7_init_9 (Nat.le_of_ble_eq_true rfl) (Nat.le_of_ble_eq_true rfl) (fun q_2 H locs hP hD hS => ?_)
  have hP : va_P E.1 vwCl [(h, .inr (7, [.null, .int 0])), (n_1, .inr (6, [.ref (q_2 0), .ref (q_2 1), .ref (q_2 4), .int 0, .int 0, .int 0, .int 0, .int 0, .int 0, .int 0, .int 0])), ((q_2 0), .inr (1, [.int 0, .int 0, .int 0, .int 0, .int 0, .int 0])), ((q_2 1), .inr (5, [.ref (q_2 2), .ref (q_2 3)])), ((q_2 2), .inl (E.2.1, 49, .inl (fun _ => 0))), ((q_2 3), .inl (E.2.1, 49, .inl (fun _ => 0))), ((q_2 4), .inr (4, [.long 0, .long 0, .long 0, .long 0]))] H := hP
  have hX : xD A [h, n_1, (q_2 0), (q_2 1), (q_2 2), (q_2 3), (q_2 4)] := xD.of hD rfl
  refine W.widen (k := 6) (n := 121) (by omega) (by omega) ?_
  refine W.eq (g2 := F0 m 12 ls [.ref n_1, .ref h]) rfl ?_
  refine va_putF (D := E.1) (ci := 7) (v := .ref n_1) (ty := .object "RailPendulum$Situation") (C := RX7) (T := TX7) (N := 2) hx hb hts g_12 tyX7 tyX7_ok nmX7 hown hE.1 hP (hX.d rfl) hS 0 rfl rfl 0 (by decide) g_11 (fun _ h9 => h9) rfl hnm rfl (by decide +kernel) rfl rfl (Nat.le_of_ble_eq_true rfl) dX7_init_12 (fun H locs hP _ hS => ?_)
  have hP : va_P E.1 vwCl [(h, .inr (7, [.ref n_1, .int 0])), (n_1, .inr (6, [.ref (q_2 0), .ref (q_2 1), .ref (q_2 4), .int 0, .int 0, .int 0, .int 0, .int 0, .int 0, .int 0, .int 0])), ((q_2 0), .inr (1, [.int 0, .int 0, .int 0, .int 0, .int 0, .int 0])), ((q_2 1), .inr (5, [.ref (q_2 2), .ref (q_2 3)])), ((q_2 2), .inl (E.2.1, 49, .inl (fun _ => 0))), ((q_2 3), .inl (E.2.1, 49, .inl (fun _ => 0))), ((q_2 4), .inr (4, [.long 0, .long 0, .long 0, .long 0]))] H := hP
  exact x_nv (fun k => ([n_1, (q_2 0), (q_2 1), (q_2 2), (q_2 3), (q_2 4)] : List Nat).getD k 0) hx hb hr hlk hS hP (hX.d rfl) [0, 1, 2, 3, 4, 5, 6] rfl rfl (Nat.le_of_ble_eq_true rfl) (Nat.le_of_ble_eq_true rfl) dX7_init_15
