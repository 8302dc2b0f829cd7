/-! the law's wrappers: they answer 0 and lay the answer down, or the number of the refusal -/
set_option maxRecDepth 100000 in
set_option maxHeartbeats 4000000 in
theorem w_parse (l : Launch) (E : XE) (Z : XZ) (cL : ClassId) (w1 w1' : va_W) (h o : Nat) (fs : List Value) (g : Nat → Int64) (rm : Room) (p1 : Int32) (v : Int32) (hM : xA l yX8_parse wsX8_parse rm E Z w1 [.ref h, .int p1] (some (.int v)) w1' 0 0) (hrc : rm.cells = 0) (hrs : rm.slots = 0) (hfr : rm.frames + 1 ≤ 12) (hlo : 8 + (3 + 11) + rm.locals ≤ 450) (hq : w1[0]? = some (h, .inr (8, fs))) : xL l yL_parse wsL_parse { frames := 12, cells := 1, slots := 6, locals := 450 } E Z cL (w1 ++ [(o, .inl (cL, 1, .inr (.inl g)))]) [.ref h, .int p1, .ref o] (.int 0) (w1' ++ [(o, .inl (cL, 1, .inr (.inl (vp_updL g (Int32.toNatClampNeg 0) v.toInt64))))]) := by
  refine xL.of (cc := cL_parse) (maxL := 4) (ret := some .int) (hh := [(0, 9, 12, 13)]) (by decide +kernel) rfl (Nat.le_of_ble_eq_true rfl) ?_
  intro p e s m args below meth c ls A hMM hE hP hD hS hA hZ hThr hLg ht hl
  obtain ⟨hx, hb, hr, hml, hts, hown, hlk, -⟩ := hMM
  have hl : lv_has ls 4 [(0, .ref h), (1, .int p1), (2, .ref o)] := hl
  refine lv_aload_n hx hb dL_parse_0 rfl (lv_at hl 2 rfl) ?_
  refine lv_iconst (v := 0) hx hb dL_parse_1 (by decide) ?_
  refine lv_aload_n hx hb dL_parse_2 rfl (lv_at hl 0 rfl) ?_
  refine lv_iload_n hx hb dL_parse_3 rfl (lv_at hl 1 rfl) ?_
  refine x_gV [.int p1] hM ⟨hx, hb, hml, hown, hts⟩ (cwV 1 hts gL_parse_X8_parse rfl hrc hrs hdX8_parse ⟨hfr, hlo⟩) hZ hE hP hD hS hA (ci := 8) rfl rfl hq hl.1 rfl rfl (Nat.le_of_ble_eq_true rfl) dL_parse_4 (Nat.le_of_ble_eq_true rfl) (Nat.le_of_ble_eq_true rfl) (fun H1 locs1 hP hD hS => ?_)
  refine lv_i2l hx hb dL_parse_7 rfl ?_
  refine va_last (D := E.1) (cl := vwCl) (tys := [(cL, .long)]) hx hb hLg.1 hP hD hS w1'.length 0 (x_right (k := 0) rfl) rfl (x_lit (m := 1) (k := 0) (Nat.le_refl _) (by decide) (by decide)) dL_parse_8 (fun H2 locs2 hP hD hS => ?_)
  rw [x_setR] at hP hD
  refine lv_goto (tgt := 15) hx hb dL_parse_9 (by decide) ?_
  refine lv_iconst (v := 0) hx hb dL_parse_15 (by decide) ?_
  exact x_gI hx hb hr hlk hS hP hD (Nat.le_of_ble_eq_true rfl) (Nat.le_of_ble_eq_true rfl) dL_parse_16
set_option maxRecDepth 100000 in
set_option maxHeartbeats 4000000 in
theorem w_parse_c1 (l : Launch) (E : XE) (Z : XZ) (cL : ClassId) (w1 : va_W) (h o : Nat) (fs : List Value) (g : Nat → Int64) (rm : Room) (p1 : Int32) (hM : xX l yX8_parse wsX8_parse rm E w1 [.ref h, .int p1] "java/lang/IllegalArgumentException") (hrc : rm.cells = 1) (hrs : rm.slots = 6) (hfr : rm.frames + 1 ≤ 12) (hlo : 8 + (3 + 11) + rm.locals ≤ 450) (hq : w1[0]? = some (h, .inr (8, fs))) : xL l yL_parse wsL_parse { frames := 12, cells := 1, slots := 6, locals := 450 } E Z cL (w1 ++ [(o, .inl (cL, 1, .inr (.inl g)))]) [.ref h, .int p1, .ref o] (.int 1) (w1 ++ [(o, .inl (cL, 1, .inr (.inl g)))]) := by
  refine xL.of (cc := cL_parse) (maxL := 4) (ret := some .int) (hh := [(0, 9, 12, 13)]) (by decide +kernel) rfl (Nat.le_of_ble_eq_true rfl) ?_
  intro p e s m args below meth c ls A hMM hE hP hD hS hA hZ hThr hLg ht hl
  obtain ⟨hx, hb, hr, hml, hts, hown, hlk, -⟩ := hMM
  have hl : lv_has ls 4 [(0, .ref h), (1, .int p1), (2, .ref o)] := hl
  refine lv_aload_n hx hb dL_parse_0 rfl (lv_at hl 2 rfl) ?_
  refine lv_iconst (v := 0) hx hb dL_parse_1 (by decide) ?_
  refine lv_aload_n hx hb dL_parse_2 rfl (lv_at hl 0 rfl) ?_
  refine lv_iload_n hx hb dL_parse_3 rfl (lv_at hl 1 rfl) ?_
  refine x_gX [.int p1] hM ⟨hx, hb, hml, hown, hts⟩ (cwV 1 hts gL_parse_X8_parse rfl hrc hrs hdX8_parse ⟨hfr, hlo⟩) hE hThr hP hD (ci := 8) rfl rfl hq hl.1 rfl rfl (Nat.le_of_ble_eq_true rfl) dL_parse_4 (Nat.le_of_ble_eq_true rfl) (Nat.le_of_ble_eq_true rfl) (fun q ce H1 hP hS hce hv hcl => ?_)
  refine vx_catch (own := RL) (name := "java/lang/IllegalArgumentException") (E := "java/lang/IllegalArgumentException") hown [] (⟨0, 9, 12, 13⟩ : ExceptionTableEntry) [] (ht.trans rfl) (fun _ h => nomatch h) (by decide) (by decide) (hts _ (by decide +kernel)) (va_Nw.use (xCast_t (.castable "java/lang/IllegalArgumentException" "java/lang/IllegalArgumentException") (by decide +kernel)) (hThr.2.2.1 _ (by decide +kernel))) hce hv hcl ?_
  show W p l e _ s m args below meth c H1 [] (0 + 1) (0 + 6) _ (F0 m 12 ls [.ref q])
  refine lv_astore_n (lv' := [(3, .ref q), (0, .ref h), (1, .int p1), (2, .ref o)]) hx hb dL_parse_12 rfl hl (by decide) rfl (fun ls hl => ?_)
  refine lv_iconst (v := 1) hx hb dL_parse_13 (by decide) ?_
  exact x_gI hx hb hr hlk hS hP hD (Nat.le_of_ble_eq_true rfl) (Nat.le_of_ble_eq_true rfl) dL_parse_14
set_option maxRecDepth 100000 in
set_option maxHeartbeats 4000000 in
theorem w_sine (l : Launch) (E : XE) (Z : XZ) (cL : ClassId) (w1 w1' : va_W) (h o : Nat) (fs : List Value) (g : Nat → Int64) (rm : Room) (p1 : Int32) (v : Int32) (hM : xA l yX8_sine wsX8_sine rm E Z w1 [.ref h, .int p1] (some (.int v)) w1' 0 0) (hrc : rm.cells = 0) (hrs : rm.slots = 0) (hfr : rm.frames + 1 ≤ 12) (hlo : 8 + (2 + 11) + rm.locals ≤ 450) (hq : w1[0]? = some (h, .inr (8, fs))) : xL l yL_sine wsL_sine { frames := 12, cells := 1, slots := 6, locals := 450 } E Z cL (w1 ++ [(o, .inl (cL, 1, .inr (.inl g)))]) [.ref h, .int p1, .ref o] (.int 0) (w1' ++ [(o, .inl (cL, 1, .inr (.inl (vp_updL g (Int32.toNatClampNeg 0) v.toInt64))))]) := by
  refine xL.of (cc := cL_sine) (maxL := 4) (ret := some .int) (hh := [(0, 9, 12, 13)]) (by decide +kernel) rfl (Nat.le_of_ble_eq_true rfl) ?_
  intro p e s m args below meth c ls A hMM hE hP hD hS hA hZ hThr hLg ht hl
  obtain ⟨hx, hb, hr, hml, hts, hown, hlk, -⟩ := hMM
  have hl : lv_has ls 4 [(0, .ref h), (1, .int p1), (2, .ref o)] := hl
  refine lv_aload_n hx hb dL_sine_0 rfl (lv_at hl 2 rfl) ?_
  refine lv_iconst (v := 0) hx hb dL_sine_1 (by decide) ?_
  refine lv_aload_n hx hb dL_sine_2 rfl (lv_at hl 0 rfl) ?_
  refine lv_iload_n hx hb dL_sine_3 rfl (lv_at hl 1 rfl) ?_
  refine x_gV [.int p1] hM ⟨hx, hb, hml, hown, hts⟩ (cwV 1 hts gL_sine_X8_sine rfl hrc hrs hdX8_sine ⟨hfr, hlo⟩) hZ hE hP hD hS hA (ci := 8) rfl rfl hq hl.1 rfl rfl (Nat.le_of_ble_eq_true rfl) dL_sine_4 (Nat.le_of_ble_eq_true rfl) (Nat.le_of_ble_eq_true rfl) (fun H1 locs1 hP hD hS => ?_)
  refine lv_i2l hx hb dL_sine_7 rfl ?_
  refine va_last (D := E.1) (cl := vwCl) (tys := [(cL, .long)]) hx hb hLg.1 hP hD hS w1'.length 0 (x_right (k := 0) rfl) rfl (x_lit (m := 1) (k := 0) (Nat.le_refl _) (by decide) (by decide)) dL_sine_8 (fun H2 locs2 hP hD hS => ?_)
  rw [x_setR] at hP hD
  refine lv_goto (tgt := 15) hx hb dL_sine_9 (by decide) ?_
  refine lv_iconst (v := 0) hx hb dL_sine_15 (by decide) ?_
  exact x_gI hx hb hr hlk hS hP hD (Nat.le_of_ble_eq_true rfl) (Nat.le_of_ble_eq_true rfl) dL_sine_16
set_option maxRecDepth 100000 in
set_option maxHeartbeats 4000000 in
theorem w_sine_c1 (l : Launch) (E : XE) (Z : XZ) (cL : ClassId) (w1 : va_W) (h o : Nat) (fs : List Value) (g : Nat → Int64) (rm : Room) (p1 : Int32) (hM : xX l yX8_sine wsX8_sine rm E w1 [.ref h, .int p1] "java/lang/IllegalArgumentException") (hrc : rm.cells = 1) (hrs : rm.slots = 6) (hfr : rm.frames + 1 ≤ 12) (hlo : 8 + (2 + 11) + rm.locals ≤ 450) (hq : w1[0]? = some (h, .inr (8, fs))) : xL l yL_sine wsL_sine { frames := 12, cells := 1, slots := 6, locals := 450 } E Z cL (w1 ++ [(o, .inl (cL, 1, .inr (.inl g)))]) [.ref h, .int p1, .ref o] (.int 1) (w1 ++ [(o, .inl (cL, 1, .inr (.inl g)))]) := by
  refine xL.of (cc := cL_sine) (maxL := 4) (ret := some .int) (hh := [(0, 9, 12, 13)]) (by decide +kernel) rfl (Nat.le_of_ble_eq_true rfl) ?_
  intro p e s m args below meth c ls A hMM hE hP hD hS hA hZ hThr hLg ht hl
  obtain ⟨hx, hb, hr, hml, hts, hown, hlk, -⟩ := hMM
  have hl : lv_has ls 4 [(0, .ref h), (1, .int p1), (2, .ref o)] := hl
  refine lv_aload_n hx hb dL_sine_0 rfl (lv_at hl 2 rfl) ?_
  refine lv_iconst (v := 0) hx hb dL_sine_1 (by decide) ?_
  refine lv_aload_n hx hb dL_sine_2 rfl (lv_at hl 0 rfl) ?_
  refine lv_iload_n hx hb dL_sine_3 rfl (lv_at hl 1 rfl) ?_
  refine x_gX [.int p1] hM ⟨hx, hb, hml, hown, hts⟩ (cwV 1 hts gL_sine_X8_sine rfl hrc hrs hdX8_sine ⟨hfr, hlo⟩) hE hThr hP hD (ci := 8) rfl rfl hq hl.1 rfl rfl (Nat.le_of_ble_eq_true rfl) dL_sine_4 (Nat.le_of_ble_eq_true rfl) (Nat.le_of_ble_eq_true rfl) (fun q ce H1 hP hS hce hv hcl => ?_)
  refine vx_catch (own := RL) (name := "java/lang/IllegalArgumentException") (E := "java/lang/IllegalArgumentException") hown [] (⟨0, 9, 12, 13⟩ : ExceptionTableEntry) [] (ht.trans rfl) (fun _ h => nomatch h) (by decide) (by decide) (hts _ (by decide +kernel)) (va_Nw.use (xCast_t (.castable "java/lang/IllegalArgumentException" "java/lang/IllegalArgumentException") (by decide +kernel)) (hThr.2.2.1 _ (by decide +kernel))) hce hv hcl ?_
  show W p l e _ s m args below meth c H1 [] (0 + 1) (0 + 6) _ (F0 m 12 ls [.ref q])
  refine lv_astore_n (lv' := [(3, .ref q), (0, .ref h), (1, .int p1), (2, .ref o)]) hx hb dL_sine_12 rfl hl (by decide) rfl (fun ls hl => ?_)
  refine lv_iconst (v := 1) hx hb dL_sine_13 (by decide) ?_
  exact x_gI hx hb hr hlk hS hP hD (Nat.le_of_ble_eq_true rfl) (Nat.le_of_ble_eq_true rfl) dL_sine_14
set_option maxRecDepth 100000 in
set_option maxHeartbeats 4000000 in
theorem w_lean (l : Launch) (E : XE) (Z : XZ) (cL : ClassId) (w1 w1' : va_W) (h o : Nat) (fs : List Value) (g : Nat → Int64) (rm : Room) (p1 : Int32) (v : Int32) (hM : xA l yX8_lean wsX8_lean rm E Z w1 [.ref h, .int p1] (some (.int v)) w1' 0 0) (hrc : rm.cells = 0) (hrs : rm.slots = 0) (hfr : rm.frames + 1 ≤ 12) (hlo : 8 + (2 + 11) + rm.locals ≤ 450) (hq : w1[0]? = some (h, .inr (8, fs))) : xL l yL_lean wsL_lean { frames := 12, cells := 1, slots := 6, locals := 450 } E Z cL (w1 ++ [(o, .inl (cL, 1, .inr (.inl g)))]) [.ref h, .int p1, .ref o] (.int 0) (w1' ++ [(o, .inl (cL, 1, .inr (.inl (vp_updL g (Int32.toNatClampNeg 0) v.toInt64))))]) := by
  refine xL.of (cc := cL_lean) (maxL := 4) (ret := some .int) (hh := [(0, 9, 12, 13)]) (by decide +kernel) rfl (Nat.le_of_ble_eq_true rfl) ?_
  intro p e s m args below meth c ls A hMM hE hP hD hS hA hZ hThr hLg ht hl
  obtain ⟨hx, hb, hr, hml, hts, hown, hlk, -⟩ := hMM
  have hl : lv_has ls 4 [(0, .ref h), (1, .int p1), (2, .ref o)] := hl
  refine lv_aload_n hx hb dL_lean_0 rfl (lv_at hl 2 rfl) ?_
  refine lv_iconst (v := 0) hx hb dL_lean_1 (by decide) ?_
  refine lv_aload_n hx hb dL_lean_2 rfl (lv_at hl 0 rfl) ?_
  refine lv_iload_n hx hb dL_lean_3 rfl (lv_at hl 1 rfl) ?_
  refine x_gV [.int p1] hM ⟨hx, hb, hml, hown, hts⟩ (cwV 1 hts gL_lean_X8_lean rfl hrc hrs hdX8_lean ⟨hfr, hlo⟩) hZ hE hP hD hS hA (ci := 8) rfl rfl hq hl.1 rfl rfl (Nat.le_of_ble_eq_true rfl) dL_lean_4 (Nat.le_of_ble_eq_true rfl) (Nat.le_of_ble_eq_true rfl) (fun H1 locs1 hP hD hS => ?_)
  refine lv_i2l hx hb dL_lean_7 rfl ?_
  refine va_last (D := E.1) (cl := vwCl) (tys := [(cL, .long)]) hx hb hLg.1 hP hD hS w1'.length 0 (x_right (k := 0) rfl) rfl (x_lit (m := 1) (k := 0) (Nat.le_refl _) (by decide) (by decide)) dL_lean_8 (fun H2 locs2 hP hD hS => ?_)
  rw [x_setR] at hP hD
  refine lv_goto (tgt := 15) hx hb dL_lean_9 (by decide) ?_
  refine lv_iconst (v := 0) hx hb dL_lean_15 (by decide) ?_
  exact x_gI hx hb hr hlk hS hP hD (Nat.le_of_ble_eq_true rfl) (Nat.le_of_ble_eq_true rfl) dL_lean_16
set_option maxRecDepth 100000 in
set_option maxHeartbeats 4000000 in
theorem w_lean_c1 (l : Launch) (E : XE) (Z : XZ) (cL : ClassId) (w1 : va_W) (h o : Nat) (fs : List Value) (g : Nat → Int64) (rm : Room) (p1 : Int32) (hM : xX l yX8_lean wsX8_lean rm E w1 [.ref h, .int p1] "java/lang/IllegalArgumentException") (hrc : rm.cells = 1) (hrs : rm.slots = 6) (hfr : rm.frames + 1 ≤ 12) (hlo : 8 + (2 + 11) + rm.locals ≤ 450) (hq : w1[0]? = some (h, .inr (8, fs))) : xL l yL_lean wsL_lean { frames := 12, cells := 1, slots := 6, locals := 450 } E Z cL (w1 ++ [(o, .inl (cL, 1, .inr (.inl g)))]) [.ref h, .int p1, .ref o] (.int 1) (w1 ++ [(o, .inl (cL, 1, .inr (.inl g)))]) := by
  refine xL.of (cc := cL_lean) (maxL := 4) (ret := some .int) (hh := [(0, 9, 12, 13)]) (by decide +kernel) rfl (Nat.le_of_ble_eq_true rfl) ?_
  intro p e s m args below meth c ls A hMM hE hP hD hS hA hZ hThr hLg ht hl
  obtain ⟨hx, hb, hr, hml, hts, hown, hlk, -⟩ := hMM
  have hl : lv_has ls 4 [(0, .ref h), (1, .int p1), (2, .ref o)] := hl
  refine lv_aload_n hx hb dL_lean_0 rfl (lv_at hl 2 rfl) ?_
  refine lv_iconst (v := 0) hx hb dL_lean_1 (by decide) ?_
  refine lv_aload_n hx hb dL_lean_2 rfl (lv_at hl 0 rfl) ?_
  refine lv_iload_n hx hb dL_lean_3 rfl (lv_at hl 1 rfl) ?_
  refine x_gX [.int p1] hM ⟨hx, hb, hml, hown, hts⟩ (cwV 1 hts gL_lean_X8_lean rfl hrc hrs hdX8_lean ⟨hfr, hlo⟩) hE hThr hP hD (ci := 8) rfl rfl hq hl.1 rfl rfl (Nat.le_of_ble_eq_true rfl) dL_lean_4 (Nat.le_of_ble_eq_true rfl) (Nat.le_of_ble_eq_true rfl) (fun q ce H1 hP hS hce hv hcl => ?_)
  refine vx_catch (own := RL) (name := "java/lang/IllegalArgumentException") (E := "java/lang/IllegalArgumentException") hown [] (⟨0, 9, 12, 13⟩ : ExceptionTableEntry) [] (ht.trans rfl) (fun _ h => nomatch h) (by decide) (by decide) (hts _ (by decide +kernel)) (va_Nw.use (xCast_t (.castable "java/lang/IllegalArgumentException" "java/lang/IllegalArgumentException") (by decide +kernel)) (hThr.2.2.1 _ (by decide +kernel))) hce hv hcl ?_
  show W p l e _ s m args below meth c H1 [] (0 + 1) (0 + 6) _ (F0 m 12 ls [.ref q])
  refine lv_astore_n (lv' := [(3, .ref q), (0, .ref h), (1, .int p1), (2, .ref o)]) hx hb dL_lean_12 rfl hl (by decide) rfl (fun ls hl => ?_)
  refine lv_iconst (v := 1) hx hb dL_lean_13 (by decide) ?_
  exact x_gI hx hb hr hlk hS hP hD (Nat.le_of_ble_eq_true rfl) (Nat.le_of_ble_eq_true rfl) dL_lean_14
set_option maxRecDepth 100000 in
set_option maxHeartbeats 4000000 in
theorem w_state (l : Launch) (E : XE) (Z : XZ) (cL : ClassId) (w1 w1' : va_W) (h o : Nat) (fs : List Value) (g : Nat → Int64) (rm : Room) (p1 : Int32) (v : Int32) (hM : xA l yX8_state wsX8_state rm E Z w1 [.ref h, .int p1] (some (.int v)) w1' 0 0) (hrc : rm.cells = 0) (hrs : rm.slots = 0) (hfr : rm.frames + 1 ≤ 12) (hlo : 8 + (2 + 11) + rm.locals ≤ 450) (hq : w1[0]? = some (h, .inr (8, fs))) : xL l yL_state wsL_state { frames := 12, cells := 1, slots := 6, locals := 450 } E Z cL (w1 ++ [(o, .inl (cL, 1, .inr (.inl g)))]) [.ref h, .int p1, .ref o] (.int 0) (w1' ++ [(o, .inl (cL, 1, .inr (.inl (vp_updL g (Int32.toNatClampNeg 0) v.toInt64))))]) := by
  refine xL.of (cc := cL_state) (maxL := 4) (ret := some .int) (hh := [(0, 9, 12, 13)]) (by decide +kernel) rfl (Nat.le_of_ble_eq_true rfl) ?_
  intro p e s m args below meth c ls A hMM hE hP hD hS hA hZ hThr hLg ht hl
  obtain ⟨hx, hb, hr, hml, hts, hown, hlk, -⟩ := hMM
  have hl : lv_has ls 4 [(0, .ref h), (1, .int p1), (2, .ref o)] := hl
  refine lv_aload_n hx hb dL_state_0 rfl (lv_at hl 2 rfl) ?_
  refine lv_iconst (v := 0) hx hb dL_state_1 (by decide) ?_
  refine lv_aload_n hx hb dL_state_2 rfl (lv_at hl 0 rfl) ?_
  refine lv_iload_n hx hb dL_state_3 rfl (lv_at hl 1 rfl) ?_
  refine x_gV [.int p1] hM ⟨hx, hb, hml, hown, hts⟩ (cwV 1 hts gL_state_X8_state rfl hrc hrs hdX8_state ⟨hfr, hlo⟩) hZ hE hP hD hS hA (ci := 8) rfl rfl hq hl.1 rfl rfl (Nat.le_of_ble_eq_true rfl) dL_state_4 (Nat.le_of_ble_eq_true rfl) (Nat.le_of_ble_eq_true rfl) (fun H1 locs1 hP hD hS => ?_)
  refine lv_i2l hx hb dL_state_7 rfl ?_
  refine va_last (D := E.1) (cl := vwCl) (tys := [(cL, .long)]) hx hb hLg.1 hP hD hS w1'.length 0 (x_right (k := 0) rfl) rfl (x_lit (m := 1) (k := 0) (Nat.le_refl _) (by decide) (by decide)) dL_state_8 (fun H2 locs2 hP hD hS => ?_)
  rw [x_setR] at hP hD
  refine lv_goto (tgt := 15) hx hb dL_state_9 (by decide) ?_
  refine lv_iconst (v := 0) hx hb dL_state_15 (by decide) ?_
  exact x_gI hx hb hr hlk hS hP hD (Nat.le_of_ble_eq_true rfl) (Nat.le_of_ble_eq_true rfl) dL_state_16
set_option maxRecDepth 100000 in
set_option maxHeartbeats 4000000 in
theorem w_state_c1 (l : Launch) (E : XE) (Z : XZ) (cL : ClassId) (w1 : va_W) (h o : Nat) (fs : List Value) (g : Nat → Int64) (rm : Room) (p1 : Int32) (hM : xX l yX8_state wsX8_state rm E w1 [.ref h, .int p1] "java/lang/IllegalArgumentException") (hrc : rm.cells = 1) (hrs : rm.slots = 6) (hfr : rm.frames + 1 ≤ 12) (hlo : 8 + (2 + 11) + rm.locals ≤ 450) (hq : w1[0]? = some (h, .inr (8, fs))) : xL l yL_state wsL_state { frames := 12, cells := 1, slots := 6, locals := 450 } E Z cL (w1 ++ [(o, .inl (cL, 1, .inr (.inl g)))]) [.ref h, .int p1, .ref o] (.int 1) (w1 ++ [(o, .inl (cL, 1, .inr (.inl g)))]) := by
  refine xL.of (cc := cL_state) (maxL := 4) (ret := some .int) (hh := [(0, 9, 12, 13)]) (by decide +kernel) rfl (Nat.le_of_ble_eq_true rfl) ?_
  intro p e s m args below meth c ls A hMM hE hP hD hS hA hZ hThr hLg ht hl
  obtain ⟨hx, hb, hr, hml, hts, hown, hlk, -⟩ := hMM
  have hl : lv_has ls 4 [(0, .ref h), (1, .int p1), (2, .ref o)] := hl
  refine lv_aload_n hx hb dL_state_0 rfl (lv_at hl 2 rfl) ?_
  refine lv_iconst (v := 0) hx hb dL_state_1 (by decide) ?_
  refine lv_aload_n hx hb dL_state_2 rfl (lv_at hl 0 rfl) ?_
  refine lv_iload_n hx hb dL_state_3 rfl (lv_at hl 1 rfl) ?_
  refine x_gX [.int p1] hM ⟨hx, hb, hml, hown, hts⟩ (cwV 1 hts gL_state_X8_state rfl hrc hrs hdX8_state ⟨hfr, hlo⟩) hE hThr hP hD (ci := 8) rfl rfl hq hl.1 rfl rfl (Nat.le_of_ble_eq_true rfl) dL_state_4 (Nat.le_of_ble_eq_true rfl) (Nat.le_of_ble_eq_true rfl) (fun q ce H1 hP hS hce hv hcl => ?_)
  refine vx_catch (own := RL) (name := "java/lang/IllegalArgumentException") (E := "java/lang/IllegalArgumentException") hown [] (⟨0, 9, 12, 13⟩ : ExceptionTableEntry) [] (ht.trans rfl) (fun _ h => nomatch h) (by decide) (by decide) (hts _ (by decide +kernel)) (va_Nw.use (xCast_t (.castable "java/lang/IllegalArgumentException" "java/lang/IllegalArgumentException") (by decide +kernel)) (hThr.2.2.1 _ (by decide +kernel))) hce hv hcl ?_
  show W p l e _ s m args below meth c H1 [] (0 + 1) (0 + 6) _ (F0 m 12 ls [.ref q])
  refine lv_astore_n (lv' := [(3, .ref q), (0, .ref h), (1, .int p1), (2, .ref o)]) hx hb dL_state_12 rfl hl (by decide) rfl (fun ls hl => ?_)
  refine lv_iconst (v := 1) hx hb dL_state_13 (by decide) ?_
  exact x_gI hx hb hr hlk hS hP hD (Nat.le_of_ble_eq_true rfl) (Nat.le_of_ble_eq_true rfl) dL_state_14
set_option maxRecDepth 100000 in
set_option maxHeartbeats 4000000 in
theorem w_link (l : Launch) (E : XE) (Z : XZ) (cL : ClassId) (w1 w1' : va_W) (h o : Nat) (fs : List Value) (g : Nat → Int64) (rm : Room) (p1 p2 : Int32) (v : Int32) (hM : xA l yX8_link wsX8_link rm E Z w1 [.ref h, .int p1, .int p2] (some (.int v)) w1' 0 0) (hrc : rm.cells = 0) (hrs : rm.slots = 0) (hfr : rm.frames + 1 ≤ 12) (hlo : 8 + (3 + 11) + rm.locals ≤ 450) (hq : w1[0]? = some (h, .inr (8, fs))) : xL l yL_link wsL_link { frames := 12, cells := 1, slots := 6, locals := 450 } E Z cL (w1 ++ [(o, .inl (cL, 1, .inr (.inl g)))]) [.ref h, .int p1, .int p2, .ref o] (.int 0) (w1' ++ [(o, .inl (cL, 1, .inr (.inl (vp_updL g (Int32.toNatClampNeg 0) v.toInt64))))]) := by
  refine xL.of (cc := cL_link) (maxL := 5) (ret := some .int) (hh := [(0, 10, 13, 28), (0, 10, 17, 13)]) (by decide +kernel) rfl (Nat.le_of_ble_eq_true rfl) ?_
  intro p e s m args below meth c ls A hMM hE hP hD hS hA hZ hThr hLg ht hl
  obtain ⟨hx, hb, hr, hml, hts, hown, hlk, -⟩ := hMM
  have hl : lv_has ls 5 [(0, .ref h), (1, .int p1), (2, .int p2), (3, .ref o)] := hl
  refine lv_aload_n hx hb dL_link_0 rfl (lv_at hl 3 rfl) ?_
  refine lv_iconst (v := 0) hx hb dL_link_1 (by decide) ?_
  refine lv_aload_n hx hb dL_link_2 rfl (lv_at hl 0 rfl) ?_
  refine lv_iload_n hx hb dL_link_3 rfl (lv_at hl 1 rfl) ?_
  refine lv_iload_n hx hb dL_link_4 rfl (lv_at hl 2 rfl) ?_
  refine x_gV [.int p1, .int p2] hM ⟨hx, hb, hml, hown, hts⟩ (cwV 2 hts gL_link_X8_link rfl hrc hrs hdX8_link ⟨hfr, hlo⟩) hZ hE hP hD hS hA (ci := 8) rfl rfl hq hl.1 rfl rfl (Nat.le_of_ble_eq_true rfl) dL_link_5 (Nat.le_of_ble_eq_true rfl) (Nat.le_of_ble_eq_true rfl) (fun H1 locs1 hP hD hS => ?_)
  refine lv_i2l hx hb dL_link_8 rfl ?_
  refine va_last (D := E.1) (cl := vwCl) (tys := [(cL, .long)]) hx hb hLg.1 hP hD hS w1'.length 0 (x_right (k := 0) rfl) rfl (x_lit (m := 1) (k := 0) (Nat.le_refl _) (by decide) (by decide)) dL_link_9 (fun H2 locs2 hP hD hS => ?_)
  rw [x_setR] at hP hD
  refine lv_goto (tgt := 21) hx hb dL_link_10 (by decide) ?_
  refine lv_iconst (v := 0) hx hb dL_link_21 (by decide) ?_
  exact x_gI hx hb hr hlk hS hP hD (Nat.le_of_ble_eq_true rfl) (Nat.le_of_ble_eq_true rfl) dL_link_22
set_option maxRecDepth 100000 in
set_option maxHeartbeats 4000000 in
theorem w_link_c1 (l : Launch) (E : XE) (Z : XZ) (cL : ClassId) (w1 : va_W) (h o : Nat) (fs : List Value) (g : Nat → Int64) (rm : Room) (p1 p2 : Int32) (hM : xX l yX8_link wsX8_link rm E w1 [.ref h, .int p1, .int p2] "java/lang/IndexOutOfBoundsException") (hrc : rm.cells = 1) (hrs : rm.slots = 6) (hfr : rm.frames + 1 ≤ 12) (hlo : 8 + (3 + 11) + rm.locals ≤ 450) (hq : w1[0]? = some (h, .inr (8, fs))) : xL l yL_link wsL_link { frames := 12, cells := 1, slots := 6, locals := 450 } E Z cL (w1 ++ [(o, .inl (cL, 1, .inr (.inl g)))]) [.ref h, .int p1, .int p2, .ref o] (.int 1) (w1 ++ [(o, .inl (cL, 1, .inr (.inl g)))]) := by
  refine xL.of (cc := cL_link) (maxL := 5) (ret := some .int) (hh := [(0, 10, 13, 28), (0, 10, 17, 13)]) (by decide +kernel) rfl (Nat.le_of_ble_eq_true rfl) ?_
  intro p e s m args below meth c ls A hMM hE hP hD hS hA hZ hThr hLg ht hl
  obtain ⟨hx, hb, hr, hml, hts, hown, hlk, -⟩ := hMM
  have hl : lv_has ls 5 [(0, .ref h), (1, .int p1), (2, .int p2), (3, .ref o)] := hl
  refine lv_aload_n hx hb dL_link_0 rfl (lv_at hl 3 rfl) ?_
  refine lv_iconst (v := 0) hx hb dL_link_1 (by decide) ?_
  refine lv_aload_n hx hb dL_link_2 rfl (lv_at hl 0 rfl) ?_
  refine lv_iload_n hx hb dL_link_3 rfl (lv_at hl 1 rfl) ?_
  refine lv_iload_n hx hb dL_link_4 rfl (lv_at hl 2 rfl) ?_
  refine x_gX [.int p1, .int p2] hM ⟨hx, hb, hml, hown, hts⟩ (cwV 2 hts gL_link_X8_link rfl hrc hrs hdX8_link ⟨hfr, hlo⟩) hE hThr hP hD (ci := 8) rfl rfl hq hl.1 rfl rfl (Nat.le_of_ble_eq_true rfl) dL_link_5 (Nat.le_of_ble_eq_true rfl) (Nat.le_of_ble_eq_true rfl) (fun q ce H1 hP hS hce hv hcl => ?_)
  refine vx_catch (own := RL) (name := "java/lang/IndexOutOfBoundsException") (E := "java/lang/IndexOutOfBoundsException") hown [] (⟨0, 10, 13, 28⟩ : ExceptionTableEntry) [(⟨0, 10, 17, 13⟩ : ExceptionTableEntry)] (ht.trans rfl) (fun _ h => nomatch h) (by decide) (by decide) (hts _ (by decide +kernel)) (va_Nw.use (xCast_t (.castable "java/lang/IndexOutOfBoundsException" "java/lang/IndexOutOfBoundsException") (by decide +kernel)) (hThr.2.2.1 _ (by decide +kernel))) hce hv hcl ?_
  show W p l e _ s m args below meth c H1 [] (0 + 1) (0 + 6) _ (F0 m 13 ls [.ref q])
  refine lv_astore (lv' := [(4, .ref q), (0, .ref h), (1, .int p1), (2, .int p2), (3, .ref o)]) hx hb dL_link_13 hl (by decide) rfl (fun ls hl => ?_)
  refine lv_iconst (v := 1) hx hb dL_link_15 (by decide) ?_
  exact x_gI hx hb hr hlk hS hP hD (Nat.le_of_ble_eq_true rfl) (Nat.le_of_ble_eq_true rfl) dL_link_16
set_option maxRecDepth 100000 in
set_option maxHeartbeats 4000000 in
theorem w_link_c2 (l : Launch) (E : XE) (Z : XZ) (cL : ClassId) (w1 : va_W) (h o : Nat) (fs : List Value) (g : Nat → Int64) (rm : Room) (p1 p2 : Int32) (hM : xX l yX8_link wsX8_link rm E w1 [.ref h, .int p1, .int p2] "java/lang/IllegalArgumentException") (hrc : rm.cells = 1) (hrs : rm.slots = 6) (hfr : rm.frames + 1 ≤ 12) (hlo : 8 + (3 + 11) + rm.locals ≤ 450) (hq : w1[0]? = some (h, .inr (8, fs))) : xL l yL_link wsL_link { frames := 12, cells := 1, slots := 6, locals := 450 } E Z cL (w1 ++ [(o, .inl (cL, 1, .inr (.inl g)))]) [.ref h, .int p1, .int p2, .ref o] (.int 2) (w1 ++ [(o, .inl (cL, 1, .inr (.inl g)))]) := by
  refine xL.of (cc := cL_link) (maxL := 5) (ret := some .int) (hh := [(0, 10, 13, 28), (0, 10, 17, 13)]) (by decide +kernel) rfl (Nat.le_of_ble_eq_true rfl) ?_
  intro p e s m args below meth c ls A hMM hE hP hD hS hA hZ hThr hLg ht hl
  obtain ⟨hx, hb, hr, hml, hts, hown, hlk, -⟩ := hMM
  have hl : lv_has ls 5 [(0, .ref h), (1, .int p1), (2, .int p2), (3, .ref o)] := hl
  refine lv_aload_n hx hb dL_link_0 rfl (lv_at hl 3 rfl) ?_
  refine lv_iconst (v := 0) hx hb dL_link_1 (by decide) ?_
  refine lv_aload_n hx hb dL_link_2 rfl (lv_at hl 0 rfl) ?_
  refine lv_iload_n hx hb dL_link_3 rfl (lv_at hl 1 rfl) ?_
  refine lv_iload_n hx hb dL_link_4 rfl (lv_at hl 2 rfl) ?_
  refine x_gX [.int p1, .int p2] hM ⟨hx, hb, hml, hown, hts⟩ (cwV 2 hts gL_link_X8_link rfl hrc hrs hdX8_link ⟨hfr, hlo⟩) hE hThr hP hD (ci := 8) rfl rfl hq hl.1 rfl rfl (Nat.le_of_ble_eq_true rfl) dL_link_5 (Nat.le_of_ble_eq_true rfl) (Nat.le_of_ble_eq_true rfl) (fun q ce H1 hP hS hce hv hcl => ?_)
  refine vx_catch (own := RL) (name := "java/lang/IllegalArgumentException") (E := "java/lang/IllegalArgumentException") hown [(⟨0, 10, 13, 28⟩ : ExceptionTableEntry)] (⟨0, 10, 17, 13⟩ : ExceptionTableEntry) [] (ht.trans rfl) (List.forall_mem_cons.mpr ⟨Or.inr ⟨by decide, "java/lang/IndexOutOfBoundsException", hts _ (by decide +kernel), hLg.2.1⟩, (fun _ h => nomatch h)⟩) (by decide) (by decide) (hts _ (by decide +kernel)) (va_Nw.use (xCast_t (.castable "java/lang/IllegalArgumentException" "java/lang/IllegalArgumentException") (by decide +kernel)) (hThr.2.2.1 _ (by decide +kernel))) hce hv hcl ?_
  show W p l e _ s m args below meth c H1 [] (0 + 1) (0 + 6) _ (F0 m 17 ls [.ref q])
  refine lv_astore (lv' := [(4, .ref q), (0, .ref h), (1, .int p1), (2, .int p2), (3, .ref o)]) hx hb dL_link_17 hl (by decide) rfl (fun ls hl => ?_)
  refine lv_iconst (v := 2) hx hb dL_link_19 (by decide) ?_
  exact x_gI hx hb hr hlk hS hP hD (Nat.le_of_ble_eq_true rfl) (Nat.le_of_ble_eq_true rfl) dL_link_20
set_option maxRecDepth 100000 in
set_option maxHeartbeats 4000000 in
theorem w_energy (l : Launch) (E : XE) (Z : XZ) (cL : ClassId) (w1 w1' : va_W) (h o : Nat) (fs : List Value) (g : Nat → Int64) (rm : Room) (p1 : Int32) (v : Int64) (hM : xA l yX8_energy wsX8_energy rm E Z w1 [.ref h, .int p1] (some (.long v)) w1' 0 0) (hrc : rm.cells = 0) (hrs : rm.slots = 0) (hfr : rm.frames + 1 ≤ 12) (hlo : 8 + (2 + 11) + rm.locals ≤ 450) (hq : w1[0]? = some (h, .inr (8, fs))) : xL l yL_energy wsL_energy { frames := 12, cells := 1, slots := 6, locals := 450 } E Z cL (w1 ++ [(o, .inl (cL, 1, .inr (.inl g)))]) [.ref h, .int p1, .ref o] (.int 0) (w1' ++ [(o, .inl (cL, 1, .inr (.inl (vp_updL g (Int32.toNatClampNeg 0) v))))]) := by
  refine xL.of (cc := cL_energy) (maxL := 4) (ret := some .int) (hh := [(0, 8, 11, 28)]) (by decide +kernel) rfl (Nat.le_of_ble_eq_true rfl) ?_
  intro p e s m args below meth c ls A hMM hE hP hD hS hA hZ hThr hLg ht hl
  obtain ⟨hx, hb, hr, hml, hts, hown, hlk, -⟩ := hMM
  have hl : lv_has ls 4 [(0, .ref h), (1, .int p1), (2, .ref o)] := hl
  refine lv_aload_n hx hb dL_energy_0 rfl (lv_at hl 2 rfl) ?_
  refine lv_iconst (v := 0) hx hb dL_energy_1 (by decide) ?_
  refine lv_aload_n hx hb dL_energy_2 rfl (lv_at hl 0 rfl) ?_
  refine lv_iload_n hx hb dL_energy_3 rfl (lv_at hl 1 rfl) ?_
  refine x_gV [.int p1] hM ⟨hx, hb, hml, hown, hts⟩ (cwV 1 hts gL_energy_X8_energy rfl hrc hrs hdX8_energy ⟨hfr, hlo⟩) hZ hE hP hD hS hA (ci := 8) rfl rfl hq hl.1 rfl rfl (Nat.le_of_ble_eq_true rfl) dL_energy_4 (Nat.le_of_ble_eq_true rfl) (Nat.le_of_ble_eq_true rfl) (fun H1 locs1 hP hD hS => ?_)
  refine va_last (D := E.1) (cl := vwCl) (tys := [(cL, .long)]) hx hb hLg.1 hP hD hS w1'.length 0 (x_right (k := 0) rfl) rfl (x_lit (m := 1) (k := 0) (Nat.le_refl _) (by decide) (by decide)) dL_energy_7 (fun H2 locs2 hP hD hS => ?_)
  rw [x_setR] at hP hD
  refine lv_goto (tgt := 14) hx hb dL_energy_8 (by decide) ?_
  refine lv_iconst (v := 0) hx hb dL_energy_14 (by decide) ?_
  exact x_gI hx hb hr hlk hS hP hD (Nat.le_of_ble_eq_true rfl) (Nat.le_of_ble_eq_true rfl) dL_energy_15
set_option maxRecDepth 100000 in
set_option maxHeartbeats 4000000 in
theorem w_energy_c1 (l : Launch) (E : XE) (Z : XZ) (cL : ClassId) (w1 : va_W) (h o : Nat) (fs : List Value) (g : Nat → Int64) (rm : Room) (p1 : Int32) (hM : xX l yX8_energy wsX8_energy rm E w1 [.ref h, .int p1] "java/lang/IndexOutOfBoundsException") (hrc : rm.cells = 1) (hrs : rm.slots = 6) (hfr : rm.frames + 1 ≤ 12) (hlo : 8 + (2 + 11) + rm.locals ≤ 450) (hq : w1[0]? = some (h, .inr (8, fs))) : xL l yL_energy wsL_energy { frames := 12, cells := 1, slots := 6, locals := 450 } E Z cL (w1 ++ [(o, .inl (cL, 1, .inr (.inl g)))]) [.ref h, .int p1, .ref o] (.int 1) (w1 ++ [(o, .inl (cL, 1, .inr (.inl g)))]) := by
  refine xL.of (cc := cL_energy) (maxL := 4) (ret := some .int) (hh := [(0, 8, 11, 28)]) (by decide +kernel) rfl (Nat.le_of_ble_eq_true rfl) ?_
  intro p e s m args below meth c ls A hMM hE hP hD hS hA hZ hThr hLg ht hl
  obtain ⟨hx, hb, hr, hml, hts, hown, hlk, -⟩ := hMM
  have hl : lv_has ls 4 [(0, .ref h), (1, .int p1), (2, .ref o)] := hl
  refine lv_aload_n hx hb dL_energy_0 rfl (lv_at hl 2 rfl) ?_
  refine lv_iconst (v := 0) hx hb dL_energy_1 (by decide) ?_
  refine lv_aload_n hx hb dL_energy_2 rfl (lv_at hl 0 rfl) ?_
  refine lv_iload_n hx hb dL_energy_3 rfl (lv_at hl 1 rfl) ?_
  refine x_gX [.int p1] hM ⟨hx, hb, hml, hown, hts⟩ (cwV 1 hts gL_energy_X8_energy rfl hrc hrs hdX8_energy ⟨hfr, hlo⟩) hE hThr hP hD (ci := 8) rfl rfl hq hl.1 rfl rfl (Nat.le_of_ble_eq_true rfl) dL_energy_4 (Nat.le_of_ble_eq_true rfl) (Nat.le_of_ble_eq_true rfl) (fun q ce H1 hP hS hce hv hcl => ?_)
  refine vx_catch (own := RL) (name := "java/lang/IndexOutOfBoundsException") (E := "java/lang/IndexOutOfBoundsException") hown [] (⟨0, 8, 11, 28⟩ : ExceptionTableEntry) [] (ht.trans rfl) (fun _ h => nomatch h) (by decide) (by decide) (hts _ (by decide +kernel)) (va_Nw.use (xCast_t (.castable "java/lang/IndexOutOfBoundsException" "java/lang/IndexOutOfBoundsException") (by decide +kernel)) (hThr.2.2.1 _ (by decide +kernel))) hce hv hcl ?_
  show W p l e _ s m args below meth c H1 [] (0 + 1) (0 + 6) _ (F0 m 11 ls [.ref q])
  refine lv_astore_n (lv' := [(3, .ref q), (0, .ref h), (1, .int p1), (2, .ref o)]) hx hb dL_energy_11 rfl hl (by decide) rfl (fun ls hl => ?_)
  refine lv_iconst (v := 1) hx hb dL_energy_12 (by decide) ?_
  exact x_gI hx hb hr hlk hS hP hD (Nat.le_of_ble_eq_true rfl) (Nat.le_of_ble_eq_true rfl) dL_energy_13
set_option maxRecDepth 100000 in
set_option maxHeartbeats 4000000 in
theorem w_target (l : Launch) (E : XE) (Z : XZ) (cL : ClassId) (w1 w1' : va_W) (h o : Nat) (fs : List Value) (g : Nat → Int64) (rm : Room) (p1 : Int32) (v : Int32) (hM : xA l yX8_target wsX8_target rm E Z w1 [.ref h, .int p1] (some (.int v)) w1' 0 0) (hrc : rm.cells = 0) (hrs : rm.slots = 0) (hfr : rm.frames + 1 ≤ 12) (hlo : 8 + (2 + 11) + rm.locals ≤ 450) (hq : w1[0]? = some (h, .inr (8, fs))) : xL l yL_target wsL_target { frames := 12, cells := 1, slots := 6, locals := 450 } E Z cL (w1 ++ [(o, .inl (cL, 1, .inr (.inl g)))]) [.ref h, .int p1, .ref o] (.int 0) (w1' ++ [(o, .inl (cL, 1, .inr (.inl (vp_updL g (Int32.toNatClampNeg 0) v.toInt64))))]) := by
  refine xL.of (cc := cL_target) (maxL := 4) (ret := some .int) (hh := [(0, 9, 12, 28)]) (by decide +kernel) rfl (Nat.le_of_ble_eq_true rfl) ?_
  intro p e s m args below meth c ls A hMM hE hP hD hS hA hZ hThr hLg ht hl
  obtain ⟨hx, hb, hr, hml, hts, hown, hlk, -⟩ := hMM
  have hl : lv_has ls 4 [(0, .ref h), (1, .int p1), (2, .ref o)] := hl
  refine lv_aload_n hx hb dL_target_0 rfl (lv_at hl 2 rfl) ?_
  refine lv_iconst (v := 0) hx hb dL_target_1 (by decide) ?_
  refine lv_aload_n hx hb dL_target_2 rfl (lv_at hl 0 rfl) ?_
  refine lv_iload_n hx hb dL_target_3 rfl (lv_at hl 1 rfl) ?_
  refine x_gV [.int p1] hM ⟨hx, hb, hml, hown, hts⟩ (cwV 1 hts gL_target_X8_target rfl hrc hrs hdX8_target ⟨hfr, hlo⟩) hZ hE hP hD hS hA (ci := 8) rfl rfl hq hl.1 rfl rfl (Nat.le_of_ble_eq_true rfl) dL_target_4 (Nat.le_of_ble_eq_true rfl) (Nat.le_of_ble_eq_true rfl) (fun H1 locs1 hP hD hS => ?_)
  refine lv_i2l hx hb dL_target_7 rfl ?_
  refine va_last (D := E.1) (cl := vwCl) (tys := [(cL, .long)]) hx hb hLg.1 hP hD hS w1'.length 0 (x_right (k := 0) rfl) rfl (x_lit (m := 1) (k := 0) (Nat.le_refl _) (by decide) (by decide)) dL_target_8 (fun H2 locs2 hP hD hS => ?_)
  rw [x_setR] at hP hD
  refine lv_goto (tgt := 15) hx hb dL_target_9 (by decide) ?_
  refine lv_iconst (v := 0) hx hb dL_target_15 (by decide) ?_
  exact x_gI hx hb hr hlk hS hP hD (Nat.le_of_ble_eq_true rfl) (Nat.le_of_ble_eq_true rfl) dL_target_16
set_option maxRecDepth 100000 in
set_option maxHeartbeats 4000000 in
theorem w_target_c1 (l : Launch) (E : XE) (Z : XZ) (cL : ClassId) (w1 : va_W) (h o : Nat) (fs : List Value) (g : Nat → Int64) (rm : Room) (p1 : Int32) (hM : xX l yX8_target wsX8_target rm E w1 [.ref h, .int p1] "java/lang/IndexOutOfBoundsException") (hrc : rm.cells = 1) (hrs : rm.slots = 6) (hfr : rm.frames + 1 ≤ 12) (hlo : 8 + (2 + 11) + rm.locals ≤ 450) (hq : w1[0]? = some (h, .inr (8, fs))) : xL l yL_target wsL_target { frames := 12, cells := 1, slots := 6, locals := 450 } E Z cL (w1 ++ [(o, .inl (cL, 1, .inr (.inl g)))]) [.ref h, .int p1, .ref o] (.int 1) (w1 ++ [(o, .inl (cL, 1, .inr (.inl g)))]) := by
  refine xL.of (cc := cL_target) (maxL := 4) (ret := some .int) (hh := [(0, 9, 12, 28)]) (by decide +kernel) rfl (Nat.le_of_ble_eq_true rfl) ?_
  intro p e s m args below meth c ls A hMM hE hP hD hS hA hZ hThr hLg ht hl
  obtain ⟨hx, hb, hr, hml, hts, hown, hlk, -⟩ := hMM
  have hl : lv_has ls 4 [(0, .ref h), (1, .int p1), (2, .ref o)] := hl
  refine lv_aload_n hx hb dL_target_0 rfl (lv_at hl 2 rfl) ?_
  refine lv_iconst (v := 0) hx hb dL_target_1 (by decide) ?_
  refine lv_aload_n hx hb dL_target_2 rfl (lv_at hl 0 rfl) ?_
  refine lv_iload_n hx hb dL_target_3 rfl (lv_at hl 1 rfl) ?_
  refine x_gX [.int p1] hM ⟨hx, hb, hml, hown, hts⟩ (cwV 1 hts gL_target_X8_target rfl hrc hrs hdX8_target ⟨hfr, hlo⟩) hE hThr hP hD (ci := 8) rfl rfl hq hl.1 rfl rfl (Nat.le_of_ble_eq_true rfl) dL_target_4 (Nat.le_of_ble_eq_true rfl) (Nat.le_of_ble_eq_true rfl) (fun q ce H1 hP hS hce hv hcl => ?_)
  refine vx_catch (own := RL) (name := "java/lang/IndexOutOfBoundsException") (E := "java/lang/IndexOutOfBoundsException") hown [] (⟨0, 9, 12, 28⟩ : ExceptionTableEntry) [] (ht.trans rfl) (fun _ h => nomatch h) (by decide) (by decide) (hts _ (by decide +kernel)) (va_Nw.use (xCast_t (.castable "java/lang/IndexOutOfBoundsException" "java/lang/IndexOutOfBoundsException") (by decide +kernel)) (hThr.2.2.1 _ (by decide +kernel))) hce hv hcl ?_
  show W p l e _ s m args below meth c H1 [] (0 + 1) (0 + 6) _ (F0 m 12 ls [.ref q])
  refine lv_astore_n (lv' := [(3, .ref q), (0, .ref h), (1, .int p1), (2, .ref o)]) hx hb dL_target_12 rfl hl (by decide) rfl (fun ls hl => ?_)
  refine lv_iconst (v := 1) hx hb dL_target_13 (by decide) ?_
  exact x_gI hx hb hr hlk hS hP hD (Nat.le_of_ble_eq_true rfl) (Nat.le_of_ble_eq_true rfl) dL_target_14
set_option maxRecDepth 100000 in
set_option maxHeartbeats 4000000 in
theorem w_switchesIn (l : Launch) (E : XE) (Z : XZ) (cL : ClassId) (w1 w1' : va_W) (h o : Nat) (fs : List Value) (g : Nat → Int64) (rm : Room) (p1 : Int32) (v : Int32) (hM : xA l yX8_switchesIn wsX8_switchesIn rm E Z w1 [.ref h, .int p1] (some (.int v)) w1' 0 0) (hrc : rm.cells = 0) (hrs : rm.slots = 0) (hfr : rm.frames + 1 ≤ 12) (hlo : 8 + (2 + 11) + rm.locals ≤ 450) (hq : w1[0]? = some (h, .inr (8, fs))) : xL l yL_switchesIn wsL_switchesIn { frames := 12, cells := 1, slots := 6, locals := 450 } E Z cL (w1 ++ [(o, .inl (cL, 1, .inr (.inl g)))]) [.ref h, .int p1, .ref o] (.int 0) (w1' ++ [(o, .inl (cL, 1, .inr (.inl (vp_updL g (Int32.toNatClampNeg 0) v.toInt64))))]) := by
  refine xL.of (cc := cL_switchesIn) (maxL := 4) (ret := some .int) (hh := [(0, 9, 12, 13)]) (by decide +kernel) rfl (Nat.le_of_ble_eq_true rfl) ?_
  intro p e s m args below meth c ls A hMM hE hP hD hS hA hZ hThr hLg ht hl
  obtain ⟨hx, hb, hr, hml, hts, hown, hlk, -⟩ := hMM
  have hl : lv_has ls 4 [(0, .ref h), (1, .int p1), (2, .ref o)] := hl
  refine lv_aload_n hx hb dL_switchesIn_0 rfl (lv_at hl 2 rfl) ?_
  refine lv_iconst (v := 0) hx hb dL_switchesIn_1 (by decide) ?_
  refine lv_aload_n hx hb dL_switchesIn_2 rfl (lv_at hl 0 rfl) ?_
  refine lv_iload_n hx hb dL_switchesIn_3 rfl (lv_at hl 1 rfl) ?_
  refine x_gV [.int p1] hM ⟨hx, hb, hml, hown, hts⟩ (cwV 1 hts gL_switchesIn_X8_switchesIn rfl hrc hrs hdX8_switchesIn ⟨hfr, hlo⟩) hZ hE hP hD hS hA (ci := 8) rfl rfl hq hl.1 rfl rfl (Nat.le_of_ble_eq_true rfl) dL_switchesIn_4 (Nat.le_of_ble_eq_true rfl) (Nat.le_of_ble_eq_true rfl) (fun H1 locs1 hP hD hS => ?_)
  refine lv_i2l hx hb dL_switchesIn_7 rfl ?_
  refine va_last (D := E.1) (cl := vwCl) (tys := [(cL, .long)]) hx hb hLg.1 hP hD hS w1'.length 0 (x_right (k := 0) rfl) rfl (x_lit (m := 1) (k := 0) (Nat.le_refl _) (by decide) (by decide)) dL_switchesIn_8 (fun H2 locs2 hP hD hS => ?_)
  rw [x_setR] at hP hD
  refine lv_goto (tgt := 15) hx hb dL_switchesIn_9 (by decide) ?_
  refine lv_iconst (v := 0) hx hb dL_switchesIn_15 (by decide) ?_
  exact x_gI hx hb hr hlk hS hP hD (Nat.le_of_ble_eq_true rfl) (Nat.le_of_ble_eq_true rfl) dL_switchesIn_16
set_option maxRecDepth 100000 in
set_option maxHeartbeats 4000000 in
theorem w_switchesIn_c1 (l : Launch) (E : XE) (Z : XZ) (cL : ClassId) (w1 : va_W) (h o : Nat) (fs : List Value) (g : Nat → Int64) (rm : Room) (p1 : Int32) (hM : xX l yX8_switchesIn wsX8_switchesIn rm E w1 [.ref h, .int p1] "java/lang/IllegalArgumentException") (hrc : rm.cells = 1) (hrs : rm.slots = 6) (hfr : rm.frames + 1 ≤ 12) (hlo : 8 + (2 + 11) + rm.locals ≤ 450) (hq : w1[0]? = some (h, .inr (8, fs))) : xL l yL_switchesIn wsL_switchesIn { frames := 12, cells := 1, slots := 6, locals := 450 } E Z cL (w1 ++ [(o, .inl (cL, 1, .inr (.inl g)))]) [.ref h, .int p1, .ref o] (.int 1) (w1 ++ [(o, .inl (cL, 1, .inr (.inl g)))]) := by
  refine xL.of (cc := cL_switchesIn) (maxL := 4) (ret := some .int) (hh := [(0, 9, 12, 13)]) (by decide +kernel) rfl (Nat.le_of_ble_eq_true rfl) ?_
  intro p e s m args below meth c ls A hMM hE hP hD hS hA hZ hThr hLg ht hl
  obtain ⟨hx, hb, hr, hml, hts, hown, hlk, -⟩ := hMM
  have hl : lv_has ls 4 [(0, .ref h), (1, .int p1), (2, .ref o)] := hl
  refine lv_aload_n hx hb dL_switchesIn_0 rfl (lv_at hl 2 rfl) ?_
  refine lv_iconst (v := 0) hx hb dL_switchesIn_1 (by decide) ?_
  refine lv_aload_n hx hb dL_switchesIn_2 rfl (lv_at hl 0 rfl) ?_
  refine lv_iload_n hx hb dL_switchesIn_3 rfl (lv_at hl 1 rfl) ?_
  refine x_gX [.int p1] hM ⟨hx, hb, hml, hown, hts⟩ (cwV 1 hts gL_switchesIn_X8_switchesIn rfl hrc hrs hdX8_switchesIn ⟨hfr, hlo⟩) hE hThr hP hD (ci := 8) rfl rfl hq hl.1 rfl rfl (Nat.le_of_ble_eq_true rfl) dL_switchesIn_4 (Nat.le_of_ble_eq_true rfl) (Nat.le_of_ble_eq_true rfl) (fun q ce H1 hP hS hce hv hcl => ?_)
  refine vx_catch (own := RL) (name := "java/lang/IllegalArgumentException") (E := "java/lang/IllegalArgumentException") hown [] (⟨0, 9, 12, 13⟩ : ExceptionTableEntry) [] (ht.trans rfl) (fun _ h => nomatch h) (by decide) (by decide) (hts _ (by decide +kernel)) (va_Nw.use (xCast_t (.castable "java/lang/IllegalArgumentException" "java/lang/IllegalArgumentException") (by decide +kernel)) (hThr.2.2.1 _ (by decide +kernel))) hce hv hcl ?_
  show W p l e _ s m args below meth c H1 [] (0 + 1) (0 + 6) _ (F0 m 12 ls [.ref q])
  refine lv_astore_n (lv' := [(3, .ref q), (0, .ref h), (1, .int p1), (2, .ref o)]) hx hb dL_switchesIn_12 rfl hl (by decide) rfl (fun ls hl => ?_)
  refine lv_iconst (v := 1) hx hb dL_switchesIn_13 (by decide) ?_
  exact x_gI hx hb hr hlk hS hP hD (Nat.le_of_ble_eq_true rfl) (Nat.le_of_ble_eq_true rfl) dL_switchesIn_14
set_option maxRecDepth 100000 in
set_option maxHeartbeats 4000000 in
theorem w_reason (l : Launch) (E : XE) (Z : XZ) (cL : ClassId) (w1 w1' : va_W) (h o : Nat) (fs : List Value) (g : Nat → Int64) (rm : Room) (p1 p2 : Int32) (v : Int32) (hM : xA l yX8_reason wsX8_reason rm E Z w1 [.ref h, .int p1, .int p2] (some (.int v)) w1' 0 0) (hrc : rm.cells = 0) (hrs : rm.slots = 0) (hfr : rm.frames + 1 ≤ 12) (hlo : 8 + (3 + 11) + rm.locals ≤ 450) (hq : w1[0]? = some (h, .inr (8, fs))) : xL l yL_reason wsL_reason { frames := 12, cells := 1, slots := 6, locals := 450 } E Z cL (w1 ++ [(o, .inl (cL, 1, .inr (.inl g)))]) [.ref h, .int p1, .int p2, .ref o] (.int 0) (w1' ++ [(o, .inl (cL, 1, .inr (.inl (vp_updL g (Int32.toNatClampNeg 0) v.toInt64))))]) := by
  refine xL.of (cc := cL_reason) (maxL := 5) (ret := some .int) (hh := [(0, 10, 13, 28)]) (by decide +kernel) rfl (Nat.le_of_ble_eq_true rfl) ?_
  intro p e s m args below meth c ls A hMM hE hP hD hS hA hZ hThr hLg ht hl
  obtain ⟨hx, hb, hr, hml, hts, hown, hlk, -⟩ := hMM
  have hl : lv_has ls 5 [(0, .ref h), (1, .int p1), (2, .int p2), (3, .ref o)] := hl
  refine lv_aload_n hx hb dL_reason_0 rfl (lv_at hl 3 rfl) ?_
  refine lv_iconst (v := 0) hx hb dL_reason_1 (by decide) ?_
  refine lv_aload_n hx hb dL_reason_2 rfl (lv_at hl 0 rfl) ?_
  refine lv_iload_n hx hb dL_reason_3 rfl (lv_at hl 1 rfl) ?_
  refine lv_iload_n hx hb dL_reason_4 rfl (lv_at hl 2 rfl) ?_
  refine x_gV [.int p1, .int p2] hM ⟨hx, hb, hml, hown, hts⟩ (cwV 2 hts gL_reason_X8_reason rfl hrc hrs hdX8_reason ⟨hfr, hlo⟩) hZ hE hP hD hS hA (ci := 8) rfl rfl hq hl.1 rfl rfl (Nat.le_of_ble_eq_true rfl) dL_reason_5 (Nat.le_of_ble_eq_true rfl) (Nat.le_of_ble_eq_true rfl) (fun H1 locs1 hP hD hS => ?_)
  refine lv_i2l hx hb dL_reason_8 rfl ?_
  refine va_last (D := E.1) (cl := vwCl) (tys := [(cL, .long)]) hx hb hLg.1 hP hD hS w1'.length 0 (x_right (k := 0) rfl) rfl (x_lit (m := 1) (k := 0) (Nat.le_refl _) (by decide) (by decide)) dL_reason_9 (fun H2 locs2 hP hD hS => ?_)
  rw [x_setR] at hP hD
  refine lv_goto (tgt := 17) hx hb dL_reason_10 (by decide) ?_
  refine lv_iconst (v := 0) hx hb dL_reason_17 (by decide) ?_
  exact x_gI hx hb hr hlk hS hP hD (Nat.le_of_ble_eq_true rfl) (Nat.le_of_ble_eq_true rfl) dL_reason_18
set_option maxRecDepth 100000 in
set_option maxHeartbeats 4000000 in
theorem w_reason_c1 (l : Launch) (E : XE) (Z : XZ) (cL : ClassId) (w1 : va_W) (h o : Nat) (fs : List Value) (g : Nat → Int64) (rm : Room) (p1 p2 : Int32) (hM : xX l yX8_reason wsX8_reason rm E w1 [.ref h, .int p1, .int p2] "java/lang/IndexOutOfBoundsException") (hrc : rm.cells = 1) (hrs : rm.slots = 6) (hfr : rm.frames + 1 ≤ 12) (hlo : 8 + (3 + 11) + rm.locals ≤ 450) (hq : w1[0]? = some (h, .inr (8, fs))) : xL l yL_reason wsL_reason { frames := 12, cells := 1, slots := 6, locals := 450 } E Z cL (w1 ++ [(o, .inl (cL, 1, .inr (.inl g)))]) [.ref h, .int p1, .int p2, .ref o] (.int 1) (w1 ++ [(o, .inl (cL, 1, .inr (.inl g)))]) := by
  refine xL.of (cc := cL_reason) (maxL := 5) (ret := some .int) (hh := [(0, 10, 13, 28)]) (by decide +kernel) rfl (Nat.le_of_ble_eq_true rfl) ?_
  intro p e s m args below meth c ls A hMM hE hP hD hS hA hZ hThr hLg ht hl
  obtain ⟨hx, hb, hr, hml, hts, hown, hlk, -⟩ := hMM
  have hl : lv_has ls 5 [(0, .ref h), (1, .int p1), (2, .int p2), (3, .ref o)] := hl
  refine lv_aload_n hx hb dL_reason_0 rfl (lv_at hl 3 rfl) ?_
  refine lv_iconst (v := 0) hx hb dL_reason_1 (by decide) ?_
  refine lv_aload_n hx hb dL_reason_2 rfl (lv_at hl 0 rfl) ?_
  refine lv_iload_n hx hb dL_reason_3 rfl (lv_at hl 1 rfl) ?_
  refine lv_iload_n hx hb dL_reason_4 rfl (lv_at hl 2 rfl) ?_
  refine x_gX [.int p1, .int p2] hM ⟨hx, hb, hml, hown, hts⟩ (cwV 2 hts gL_reason_X8_reason rfl hrc hrs hdX8_reason ⟨hfr, hlo⟩) hE hThr hP hD (ci := 8) rfl rfl hq hl.1 rfl rfl (Nat.le_of_ble_eq_true rfl) dL_reason_5 (Nat.le_of_ble_eq_true rfl) (Nat.le_of_ble_eq_true rfl) (fun q ce H1 hP hS hce hv hcl => ?_)
  refine vx_catch (own := RL) (name := "java/lang/IndexOutOfBoundsException") (E := "java/lang/IndexOutOfBoundsException") hown [] (⟨0, 10, 13, 28⟩ : ExceptionTableEntry) [] (ht.trans rfl) (fun _ h => nomatch h) (by decide) (by decide) (hts _ (by decide +kernel)) (va_Nw.use (xCast_t (.castable "java/lang/IndexOutOfBoundsException" "java/lang/IndexOutOfBoundsException") (by decide +kernel)) (hThr.2.2.1 _ (by decide +kernel))) hce hv hcl ?_
  show W p l e _ s m args below meth c H1 [] (0 + 1) (0 + 6) _ (F0 m 13 ls [.ref q])
  refine lv_astore (lv' := [(4, .ref q), (0, .ref h), (1, .int p1), (2, .int p2), (3, .ref o)]) hx hb dL_reason_13 hl (by decide) rfl (fun ls hl => ?_)
  refine lv_iconst (v := 1) hx hb dL_reason_15 (by decide) ?_
  exact x_gI hx hb hr hlk hS hP hD (Nat.le_of_ble_eq_true rfl) (Nat.le_of_ble_eq_true rfl) dL_reason_16
set_option maxRecDepth 100000 in
set_option maxHeartbeats 4000000 in
theorem w_failedStep (l : Launch) (E : XE) (Z : XZ) (cL : ClassId) (w1 w1' : va_W) (h o : Nat) (fs : List Value) (g : Nat → Int64) (rm : Room) (p1 p2 : Int32) (v : Int32) (hM : xA l yX8_failedStep wsX8_failedStep rm E Z w1 [.ref h, .int p1, .int p2] (some (.int v)) w1' 0 0) (hrc : rm.cells = 0) (hrs : rm.slots = 0) (hfr : rm.frames + 1 ≤ 12) (hlo : 8 + (3 + 11) + rm.locals ≤ 450) (hq : w1[0]? = some (h, .inr (8, fs))) : xL l yL_failedStep wsL_failedStep { frames := 12, cells := 1, slots := 6, locals := 450 } E Z cL (w1 ++ [(o, .inl (cL, 1, .inr (.inl g)))]) [.ref h, .int p1, .int p2, .ref o] (.int 0) (w1' ++ [(o, .inl (cL, 1, .inr (.inl (vp_updL g (Int32.toNatClampNeg 0) v.toInt64))))]) := by
  refine xL.of (cc := cL_failedStep) (maxL := 5) (ret := some .int) (hh := [(0, 10, 13, 28)]) (by decide +kernel) rfl (Nat.le_of_ble_eq_true rfl) ?_
  intro p e s m args below meth c ls A hMM hE hP hD hS hA hZ hThr hLg ht hl
  obtain ⟨hx, hb, hr, hml, hts, hown, hlk, -⟩ := hMM
  have hl : lv_has ls 5 [(0, .ref h), (1, .int p1), (2, .int p2), (3, .ref o)] := hl
  refine lv_aload_n hx hb dL_failedStep_0 rfl (lv_at hl 3 rfl) ?_
  refine lv_iconst (v := 0) hx hb dL_failedStep_1 (by decide) ?_
  refine lv_aload_n hx hb dL_failedStep_2 rfl (lv_at hl 0 rfl) ?_
  refine lv_iload_n hx hb dL_failedStep_3 rfl (lv_at hl 1 rfl) ?_
  refine lv_iload_n hx hb dL_failedStep_4 rfl (lv_at hl 2 rfl) ?_
  refine x_gV [.int p1, .int p2] hM ⟨hx, hb, hml, hown, hts⟩ (cwV 2 hts gL_failedStep_X8_failedStep rfl hrc hrs hdX8_failedStep ⟨hfr, hlo⟩) hZ hE hP hD hS hA (ci := 8) rfl rfl hq hl.1 rfl rfl (Nat.le_of_ble_eq_true rfl) dL_failedStep_5 (Nat.le_of_ble_eq_true rfl) (Nat.le_of_ble_eq_true rfl) (fun H1 locs1 hP hD hS => ?_)
  refine lv_i2l hx hb dL_failedStep_8 rfl ?_
  refine va_last (D := E.1) (cl := vwCl) (tys := [(cL, .long)]) hx hb hLg.1 hP hD hS w1'.length 0 (x_right (k := 0) rfl) rfl (x_lit (m := 1) (k := 0) (Nat.le_refl _) (by decide) (by decide)) dL_failedStep_9 (fun H2 locs2 hP hD hS => ?_)
  rw [x_setR] at hP hD
  refine lv_goto (tgt := 17) hx hb dL_failedStep_10 (by decide) ?_
  refine lv_iconst (v := 0) hx hb dL_failedStep_17 (by decide) ?_
  exact x_gI hx hb hr hlk hS hP hD (Nat.le_of_ble_eq_true rfl) (Nat.le_of_ble_eq_true rfl) dL_failedStep_18
set_option maxRecDepth 100000 in
set_option maxHeartbeats 4000000 in
theorem w_failedStep_c1 (l : Launch) (E : XE) (Z : XZ) (cL : ClassId) (w1 : va_W) (h o : Nat) (fs : List Value) (g : Nat → Int64) (rm : Room) (p1 p2 : Int32) (hM : xX l yX8_failedStep wsX8_failedStep rm E w1 [.ref h, .int p1, .int p2] "java/lang/IndexOutOfBoundsException") (hrc : rm.cells = 1) (hrs : rm.slots = 6) (hfr : rm.frames + 1 ≤ 12) (hlo : 8 + (3 + 11) + rm.locals ≤ 450) (hq : w1[0]? = some (h, .inr (8, fs))) : xL l yL_failedStep wsL_failedStep { frames := 12, cells := 1, slots := 6, locals := 450 } E Z cL (w1 ++ [(o, .inl (cL, 1, .inr (.inl g)))]) [.ref h, .int p1, .int p2, .ref o] (.int 1) (w1 ++ [(o, .inl (cL, 1, .inr (.inl g)))]) := by
  refine xL.of (cc := cL_failedStep) (maxL := 5) (ret := some .int) (hh := [(0, 10, 13, 28)]) (by decide +kernel) rfl (Nat.le_of_ble_eq_true rfl) ?_
  intro p e s m args below meth c ls A hMM hE hP hD hS hA hZ hThr hLg ht hl
  obtain ⟨hx, hb, hr, hml, hts, hown, hlk, -⟩ := hMM
  have hl : lv_has ls 5 [(0, .ref h), (1, .int p1), (2, .int p2), (3, .ref o)] := hl
  refine lv_aload_n hx hb dL_failedStep_0 rfl (lv_at hl 3 rfl) ?_
  refine lv_iconst (v := 0) hx hb dL_failedStep_1 (by decide) ?_
  refine lv_aload_n hx hb dL_failedStep_2 rfl (lv_at hl 0 rfl) ?_
  refine lv_iload_n hx hb dL_failedStep_3 rfl (lv_at hl 1 rfl) ?_
  refine lv_iload_n hx hb dL_failedStep_4 rfl (lv_at hl 2 rfl) ?_
  refine x_gX [.int p1, .int p2] hM ⟨hx, hb, hml, hown, hts⟩ (cwV 2 hts gL_failedStep_X8_failedStep rfl hrc hrs hdX8_failedStep ⟨hfr, hlo⟩) hE hThr hP hD (ci := 8) rfl rfl hq hl.1 rfl rfl (Nat.le_of_ble_eq_true rfl) dL_failedStep_5 (Nat.le_of_ble_eq_true rfl) (Nat.le_of_ble_eq_true rfl) (fun q ce H1 hP hS hce hv hcl => ?_)
  refine vx_catch (own := RL) (name := "java/lang/IndexOutOfBoundsException") (E := "java/lang/IndexOutOfBoundsException") hown [] (⟨0, 10, 13, 28⟩ : ExceptionTableEntry) [] (ht.trans rfl) (fun _ h => nomatch h) (by decide) (by decide) (hts _ (by decide +kernel)) (va_Nw.use (xCast_t (.castable "java/lang/IndexOutOfBoundsException" "java/lang/IndexOutOfBoundsException") (by decide +kernel)) (hThr.2.2.1 _ (by decide +kernel))) hce hv hcl ?_
  show W p l e _ s m args below meth c H1 [] (0 + 1) (0 + 6) _ (F0 m 13 ls [.ref q])
  refine lv_astore (lv' := [(4, .ref q), (0, .ref h), (1, .int p1), (2, .int p2), (3, .ref o)]) hx hb dL_failedStep_13 hl (by decide) rfl (fun ls hl => ?_)
  refine lv_iconst (v := 1) hx hb dL_failedStep_15 (by decide) ?_
  exact x_gI hx hb hr hlk hS hP hD (Nat.le_of_ble_eq_true rfl) (Nat.le_of_ble_eq_true rfl) dL_failedStep_16
set_option maxRecDepth 100000 in
set_option maxHeartbeats 4000000 in
theorem w_cellOf (l : Launch) (E : XE) (Z : XZ) (cL : ClassId) (w1 w1' : va_W) (h o : Nat) (fs : List Value) (g : Nat → Int64) (rm : Room) (p1 p2 : Int32) (v : Int32) (hM : xA l yX8_cellOf wsX8_cellOf rm E Z w1 [.ref h, .int p1, .int p2] (some (.int v)) w1' 0 0) (hrc : rm.cells = 0) (hrs : rm.slots = 0) (hfr : rm.frames + 1 ≤ 12) (hlo : 8 + (3 + 11) + rm.locals ≤ 450) (hq : w1[0]? = some (h, .inr (8, fs))) : xL l yL_cellOf wsL_cellOf { frames := 12, cells := 1, slots := 6, locals := 450 } E Z cL (w1 ++ [(o, .inl (cL, 1, .inr (.inl g)))]) [.ref h, .int p1, .int p2, .ref o] (.int 0) (w1' ++ [(o, .inl (cL, 1, .inr (.inl (vp_updL g (Int32.toNatClampNeg 0) v.toInt64))))]) := by
  refine xL.of (cc := cL_cellOf) (maxL := 5) (ret := some .int) (hh := [(0, 10, 13, 28), (0, 10, 17, 13)]) (by decide +kernel) rfl (Nat.le_of_ble_eq_true rfl) ?_
  intro p e s m args below meth c ls A hMM hE hP hD hS hA hZ hThr hLg ht hl
  obtain ⟨hx, hb, hr, hml, hts, hown, hlk, -⟩ := hMM
  have hl : lv_has ls 5 [(0, .ref h), (1, .int p1), (2, .int p2), (3, .ref o)] := hl
  refine lv_aload_n hx hb dL_cellOf_0 rfl (lv_at hl 3 rfl) ?_
  refine lv_iconst (v := 0) hx hb dL_cellOf_1 (by decide) ?_
  refine lv_aload_n hx hb dL_cellOf_2 rfl (lv_at hl 0 rfl) ?_
  refine lv_iload_n hx hb dL_cellOf_3 rfl (lv_at hl 1 rfl) ?_
  refine lv_iload_n hx hb dL_cellOf_4 rfl (lv_at hl 2 rfl) ?_
  refine x_gV [.int p1, .int p2] hM ⟨hx, hb, hml, hown, hts⟩ (cwV 2 hts gL_cellOf_X8_cellOf rfl hrc hrs hdX8_cellOf ⟨hfr, hlo⟩) hZ hE hP hD hS hA (ci := 8) rfl rfl hq hl.1 rfl rfl (Nat.le_of_ble_eq_true rfl) dL_cellOf_5 (Nat.le_of_ble_eq_true rfl) (Nat.le_of_ble_eq_true rfl) (fun H1 locs1 hP hD hS => ?_)
  refine lv_i2l hx hb dL_cellOf_8 rfl ?_
  refine va_last (D := E.1) (cl := vwCl) (tys := [(cL, .long)]) hx hb hLg.1 hP hD hS w1'.length 0 (x_right (k := 0) rfl) rfl (x_lit (m := 1) (k := 0) (Nat.le_refl _) (by decide) (by decide)) dL_cellOf_9 (fun H2 locs2 hP hD hS => ?_)
  rw [x_setR] at hP hD
  refine lv_goto (tgt := 21) hx hb dL_cellOf_10 (by decide) ?_
  refine lv_iconst (v := 0) hx hb dL_cellOf_21 (by decide) ?_
  exact x_gI hx hb hr hlk hS hP hD (Nat.le_of_ble_eq_true rfl) (Nat.le_of_ble_eq_true rfl) dL_cellOf_22
set_option maxRecDepth 100000 in
set_option maxHeartbeats 4000000 in
theorem w_cellOf_c1 (l : Launch) (E : XE) (Z : XZ) (cL : ClassId) (w1 : va_W) (h o : Nat) (fs : List Value) (g : Nat → Int64) (rm : Room) (p1 p2 : Int32) (hM : xX l yX8_cellOf wsX8_cellOf rm E w1 [.ref h, .int p1, .int p2] "java/lang/IndexOutOfBoundsException") (hrc : rm.cells = 1) (hrs : rm.slots = 6) (hfr : rm.frames + 1 ≤ 12) (hlo : 8 + (3 + 11) + rm.locals ≤ 450) (hq : w1[0]? = some (h, .inr (8, fs))) : xL l yL_cellOf wsL_cellOf { frames := 12, cells := 1, slots := 6, locals := 450 } E Z cL (w1 ++ [(o, .inl (cL, 1, .inr (.inl g)))]) [.ref h, .int p1, .int p2, .ref o] (.int 1) (w1 ++ [(o, .inl (cL, 1, .inr (.inl g)))]) := by
  refine xL.of (cc := cL_cellOf) (maxL := 5) (ret := some .int) (hh := [(0, 10, 13, 28), (0, 10, 17, 13)]) (by decide +kernel) rfl (Nat.le_of_ble_eq_true rfl) ?_
  intro p e s m args below meth c ls A hMM hE hP hD hS hA hZ hThr hLg ht hl
  obtain ⟨hx, hb, hr, hml, hts, hown, hlk, -⟩ := hMM
  have hl : lv_has ls 5 [(0, .ref h), (1, .int p1), (2, .int p2), (3, .ref o)] := hl
  refine lv_aload_n hx hb dL_cellOf_0 rfl (lv_at hl 3 rfl) ?_
  refine lv_iconst (v := 0) hx hb dL_cellOf_1 (by decide) ?_
  refine lv_aload_n hx hb dL_cellOf_2 rfl (lv_at hl 0 rfl) ?_
  refine lv_iload_n hx hb dL_cellOf_3 rfl (lv_at hl 1 rfl) ?_
  refine lv_iload_n hx hb dL_cellOf_4 rfl (lv_at hl 2 rfl) ?_
  refine x_gX [.int p1, .int p2] hM ⟨hx, hb, hml, hown, hts⟩ (cwV 2 hts gL_cellOf_X8_cellOf rfl hrc hrs hdX8_cellOf ⟨hfr, hlo⟩) hE hThr hP hD (ci := 8) rfl rfl hq hl.1 rfl rfl (Nat.le_of_ble_eq_true rfl) dL_cellOf_5 (Nat.le_of_ble_eq_true rfl) (Nat.le_of_ble_eq_true rfl) (fun q ce H1 hP hS hce hv hcl => ?_)
  refine vx_catch (own := RL) (name := "java/lang/IndexOutOfBoundsException") (E := "java/lang/IndexOutOfBoundsException") hown [] (⟨0, 10, 13, 28⟩ : ExceptionTableEntry) [(⟨0, 10, 17, 13⟩ : ExceptionTableEntry)] (ht.trans rfl) (fun _ h => nomatch h) (by decide) (by decide) (hts _ (by decide +kernel)) (va_Nw.use (xCast_t (.castable "java/lang/IndexOutOfBoundsException" "java/lang/IndexOutOfBoundsException") (by decide +kernel)) (hThr.2.2.1 _ (by decide +kernel))) hce hv hcl ?_
  show W p l e _ s m args below meth c H1 [] (0 + 1) (0 + 6) _ (F0 m 13 ls [.ref q])
  refine lv_astore (lv' := [(4, .ref q), (0, .ref h), (1, .int p1), (2, .int p2), (3, .ref o)]) hx hb dL_cellOf_13 hl (by decide) rfl (fun ls hl => ?_)
  refine lv_iconst (v := 1) hx hb dL_cellOf_15 (by decide) ?_
  exact x_gI hx hb hr hlk hS hP hD (Nat.le_of_ble_eq_true rfl) (Nat.le_of_ble_eq_true rfl) dL_cellOf_16
set_option maxRecDepth 100000 in
set_option maxHeartbeats 4000000 in
theorem w_cellOf_c2 (l : Launch) (E : XE) (Z : XZ) (cL : ClassId) (w1 : va_W) (h o : Nat) (fs : List Value) (g : Nat → Int64) (rm : Room) (p1 p2 : Int32) (hM : xX l yX8_cellOf wsX8_cellOf rm E w1 [.ref h, .int p1, .int p2] "java/lang/IllegalArgumentException") (hrc : rm.cells = 1) (hrs : rm.slots = 6) (hfr : rm.frames + 1 ≤ 12) (hlo : 8 + (3 + 11) + rm.locals ≤ 450) (hq : w1[0]? = some (h, .inr (8, fs))) : xL l yL_cellOf wsL_cellOf { frames := 12, cells := 1, slots := 6, locals := 450 } E Z cL (w1 ++ [(o, .inl (cL, 1, .inr (.inl g)))]) [.ref h, .int p1, .int p2, .ref o] (.int 2) (w1 ++ [(o, .inl (cL, 1, .inr (.inl g)))]) := by
  refine xL.of (cc := cL_cellOf) (maxL := 5) (ret := some .int) (hh := [(0, 10, 13, 28), (0, 10, 17, 13)]) (by decide +kernel) rfl (Nat.le_of_ble_eq_true rfl) ?_
  intro p e s m args below meth c ls A hMM hE hP hD hS hA hZ hThr hLg ht hl
  obtain ⟨hx, hb, hr, hml, hts, hown, hlk, -⟩ := hMM
  have hl : lv_has ls 5 [(0, .ref h), (1, .int p1), (2, .int p2), (3, .ref o)] := hl
  refine lv_aload_n hx hb dL_cellOf_0 rfl (lv_at hl 3 rfl) ?_
  refine lv_iconst (v := 0) hx hb dL_cellOf_1 (by decide) ?_
  refine lv_aload_n hx hb dL_cellOf_2 rfl (lv_at hl 0 rfl) ?_
  refine lv_iload_n hx hb dL_cellOf_3 rfl (lv_at hl 1 rfl) ?_
  refine lv_iload_n hx hb dL_cellOf_4 rfl (lv_at hl 2 rfl) ?_
  refine x_gX [.int p1, .int p2] hM ⟨hx, hb, hml, hown, hts⟩ (cwV 2 hts gL_cellOf_X8_cellOf rfl hrc hrs hdX8_cellOf ⟨hfr, hlo⟩) hE hThr hP hD (ci := 8) rfl rfl hq hl.1 rfl rfl (Nat.le_of_ble_eq_true rfl) dL_cellOf_5 (Nat.le_of_ble_eq_true rfl) (Nat.le_of_ble_eq_true rfl) (fun q ce H1 hP hS hce hv hcl => ?_)
  refine vx_catch (own := RL) (name := "java/lang/IllegalArgumentException") (E := "java/lang/IllegalArgumentException") hown [(⟨0, 10, 13, 28⟩ : ExceptionTableEntry)] (⟨0, 10, 17, 13⟩ : ExceptionTableEntry) [] (ht.trans rfl) (List.forall_mem_cons.mpr ⟨Or.inr ⟨by decide, "java/lang/IndexOutOfBoundsException", hts _ (by decide +kernel), hLg.2.1⟩, (fun _ h => nomatch h)⟩) (by decide) (by decide) (hts _ (by decide +kernel)) (va_Nw.use (xCast_t (.castable "java/lang/IllegalArgumentException" "java/lang/IllegalArgumentException") (by decide +kernel)) (hThr.2.2.1 _ (by decide +kernel))) hce hv hcl ?_
  show W p l e _ s m args below meth c H1 [] (0 + 1) (0 + 6) _ (F0 m 17 ls [.ref q])
  refine lv_astore (lv' := [(4, .ref q), (0, .ref h), (1, .int p1), (2, .int p2), (3, .ref o)]) hx hb dL_cellOf_17 hl (by decide) rfl (fun ls hl => ?_)
  refine lv_iconst (v := 2) hx hb dL_cellOf_19 (by decide) ?_
  exact x_gI hx hb hr hlk hS hP hD (Nat.le_of_ble_eq_true rfl) (Nat.le_of_ble_eq_true rfl) dL_cellOf_20
set_option maxRecDepth 100000 in
set_option maxHeartbeats 4000000 in
theorem w_ticksToBalance (l : Launch) (E : XE) (Z : XZ) (cL : ClassId) (w1 w1' : va_W) (h o : Nat) (fs : List Value) (g : Nat → Int64) (rm : Room) (p1 : Int32) (v : Int32) (hM : xA l yX8_ticksToBalance wsX8_ticksToBalance rm E Z w1 [.ref h, .int p1] (some (.int v)) w1' 0 0) (hrc : rm.cells = 0) (hrs : rm.slots = 0) (hfr : rm.frames + 1 ≤ 12) (hlo : 8 + (2 + 11) + rm.locals ≤ 450) (hq : w1[0]? = some (h, .inr (8, fs))) : xL l yL_ticksToBalance wsL_ticksToBalance { frames := 12, cells := 1, slots := 6, locals := 450 } E Z cL (w1 ++ [(o, .inl (cL, 1, .inr (.inl g)))]) [.ref h, .int p1, .ref o] (.int 0) (w1' ++ [(o, .inl (cL, 1, .inr (.inl (vp_updL g (Int32.toNatClampNeg 0) v.toInt64))))]) := by
  refine xL.of (cc := cL_ticksToBalance) (maxL := 4) (ret := some .int) (hh := [(0, 9, 12, 13)]) (by decide +kernel) rfl (Nat.le_of_ble_eq_true rfl) ?_
  intro p e s m args below meth c ls A hMM hE hP hD hS hA hZ hThr hLg ht hl
  obtain ⟨hx, hb, hr, hml, hts, hown, hlk, -⟩ := hMM
  have hl : lv_has ls 4 [(0, .ref h), (1, .int p1), (2, .ref o)] := hl
  refine lv_aload_n hx hb dL_ticksToBalance_0 rfl (lv_at hl 2 rfl) ?_
  refine lv_iconst (v := 0) hx hb dL_ticksToBalance_1 (by decide) ?_
  refine lv_aload_n hx hb dL_ticksToBalance_2 rfl (lv_at hl 0 rfl) ?_
  refine lv_iload_n hx hb dL_ticksToBalance_3 rfl (lv_at hl 1 rfl) ?_
  refine x_gV [.int p1] hM ⟨hx, hb, hml, hown, hts⟩ (cwV 1 hts gL_ticksToBalance_X8_ticksToBalance rfl hrc hrs hdX8_ticksToBalance ⟨hfr, hlo⟩) hZ hE hP hD hS hA (ci := 8) rfl rfl hq hl.1 rfl rfl (Nat.le_of_ble_eq_true rfl) dL_ticksToBalance_4 (Nat.le_of_ble_eq_true rfl) (Nat.le_of_ble_eq_true rfl) (fun H1 locs1 hP hD hS => ?_)
  refine lv_i2l hx hb dL_ticksToBalance_7 rfl ?_
  refine va_last (D := E.1) (cl := vwCl) (tys := [(cL, .long)]) hx hb hLg.1 hP hD hS w1'.length 0 (x_right (k := 0) rfl) rfl (x_lit (m := 1) (k := 0) (Nat.le_refl _) (by decide) (by decide)) dL_ticksToBalance_8 (fun H2 locs2 hP hD hS => ?_)
  rw [x_setR] at hP hD
  refine lv_goto (tgt := 15) hx hb dL_ticksToBalance_9 (by decide) ?_
  refine lv_iconst (v := 0) hx hb dL_ticksToBalance_15 (by decide) ?_
  exact x_gI hx hb hr hlk hS hP hD (Nat.le_of_ble_eq_true rfl) (Nat.le_of_ble_eq_true rfl) dL_ticksToBalance_16
set_option maxRecDepth 100000 in
set_option maxHeartbeats 4000000 in
theorem w_ticksToBalance_c1 (l : Launch) (E : XE) (Z : XZ) (cL : ClassId) (w1 : va_W) (h o : Nat) (fs : List Value) (g : Nat → Int64) (rm : Room) (p1 : Int32) (hM : xX l yX8_ticksToBalance wsX8_ticksToBalance rm E w1 [.ref h, .int p1] "java/lang/IllegalArgumentException") (hrc : rm.cells = 1) (hrs : rm.slots = 6) (hfr : rm.frames + 1 ≤ 12) (hlo : 8 + (2 + 11) + rm.locals ≤ 450) (hq : w1[0]? = some (h, .inr (8, fs))) : xL l yL_ticksToBalance wsL_ticksToBalance { frames := 12, cells := 1, slots := 6, locals := 450 } E Z cL (w1 ++ [(o, .inl (cL, 1, .inr (.inl g)))]) [.ref h, .int p1, .ref o] (.int 1) (w1 ++ [(o, .inl (cL, 1, .inr (.inl g)))]) := by
  refine xL.of (cc := cL_ticksToBalance) (maxL := 4) (ret := some .int) (hh := [(0, 9, 12, 13)]) (by decide +kernel) rfl (Nat.le_of_ble_eq_true rfl) ?_
  intro p e s m args below meth c ls A hMM hE hP hD hS hA hZ hThr hLg ht hl
  obtain ⟨hx, hb, hr, hml, hts, hown, hlk, -⟩ := hMM
  have hl : lv_has ls 4 [(0, .ref h), (1, .int p1), (2, .ref o)] := hl
  refine lv_aload_n hx hb dL_ticksToBalance_0 rfl (lv_at hl 2 rfl) ?_
  refine lv_iconst (v := 0) hx hb dL_ticksToBalance_1 (by decide) ?_
  refine lv_aload_n hx hb dL_ticksToBalance_2 rfl (lv_at hl 0 rfl) ?_
  refine lv_iload_n hx hb dL_ticksToBalance_3 rfl (lv_at hl 1 rfl) ?_
  refine x_gX [.int p1] hM ⟨hx, hb, hml, hown, hts⟩ (cwV 1 hts gL_ticksToBalance_X8_ticksToBalance rfl hrc hrs hdX8_ticksToBalance ⟨hfr, hlo⟩) hE hThr hP hD (ci := 8) rfl rfl hq hl.1 rfl rfl (Nat.le_of_ble_eq_true rfl) dL_ticksToBalance_4 (Nat.le_of_ble_eq_true rfl) (Nat.le_of_ble_eq_true rfl) (fun q ce H1 hP hS hce hv hcl => ?_)
  refine vx_catch (own := RL) (name := "java/lang/IllegalArgumentException") (E := "java/lang/IllegalArgumentException") hown [] (⟨0, 9, 12, 13⟩ : ExceptionTableEntry) [] (ht.trans rfl) (fun _ h => nomatch h) (by decide) (by decide) (hts _ (by decide +kernel)) (va_Nw.use (xCast_t (.castable "java/lang/IllegalArgumentException" "java/lang/IllegalArgumentException") (by decide +kernel)) (hThr.2.2.1 _ (by decide +kernel))) hce hv hcl ?_
  show W p l e _ s m args below meth c H1 [] (0 + 1) (0 + 6) _ (F0 m 12 ls [.ref q])
  refine lv_astore_n (lv' := [(3, .ref q), (0, .ref h), (1, .int p1), (2, .ref o)]) hx hb dL_ticksToBalance_12 rfl hl (by decide) rfl (fun ls hl => ?_)
  refine lv_iconst (v := 1) hx hb dL_ticksToBalance_13 (by decide) ?_
  exact x_gI hx hb hr hlk hS hP hD (Nat.le_of_ble_eq_true rfl) (Nat.le_of_ble_eq_true rfl) dL_ticksToBalance_14
set_option maxRecDepth 100000 in
set_option maxHeartbeats 4000000 in
theorem w_ticksToStop (l : Launch) (E : XE) (Z : XZ) (cL : ClassId) (w1 w1' : va_W) (h o : Nat) (fs : List Value) (g : Nat → Int64) (rm : Room) (p1 : Int32) (v : Int32) (hM : xA l yX8_ticksToStop wsX8_ticksToStop rm E Z w1 [.ref h, .int p1] (some (.int v)) w1' 0 0) (hrc : rm.cells = 0) (hrs : rm.slots = 0) (hfr : rm.frames + 1 ≤ 12) (hlo : 8 + (2 + 11) + rm.locals ≤ 450) (hq : w1[0]? = some (h, .inr (8, fs))) : xL l yL_ticksToStop wsL_ticksToStop { frames := 12, cells := 1, slots := 6, locals := 450 } E Z cL (w1 ++ [(o, .inl (cL, 1, .inr (.inl g)))]) [.ref h, .int p1, .ref o] (.int 0) (w1' ++ [(o, .inl (cL, 1, .inr (.inl (vp_updL g (Int32.toNatClampNeg 0) v.toInt64))))]) := by
  refine xL.of (cc := cL_ticksToStop) (maxL := 4) (ret := some .int) (hh := [(0, 9, 12, 13)]) (by decide +kernel) rfl (Nat.le_of_ble_eq_true rfl) ?_
  intro p e s m args below meth c ls A hMM hE hP hD hS hA hZ hThr hLg ht hl
  obtain ⟨hx, hb, hr, hml, hts, hown, hlk, -⟩ := hMM
  have hl : lv_has ls 4 [(0, .ref h), (1, .int p1), (2, .ref o)] := hl
  refine lv_aload_n hx hb dL_ticksToStop_0 rfl (lv_at hl 2 rfl) ?_
  refine lv_iconst (v := 0) hx hb dL_ticksToStop_1 (by decide) ?_
  refine lv_aload_n hx hb dL_ticksToStop_2 rfl (lv_at hl 0 rfl) ?_
  refine lv_iload_n hx hb dL_ticksToStop_3 rfl (lv_at hl 1 rfl) ?_
  refine x_gV [.int p1] hM ⟨hx, hb, hml, hown, hts⟩ (cwV 1 hts gL_ticksToStop_X8_ticksToStop rfl hrc hrs hdX8_ticksToStop ⟨hfr, hlo⟩) hZ hE hP hD hS hA (ci := 8) rfl rfl hq hl.1 rfl rfl (Nat.le_of_ble_eq_true rfl) dL_ticksToStop_4 (Nat.le_of_ble_eq_true rfl) (Nat.le_of_ble_eq_true rfl) (fun H1 locs1 hP hD hS => ?_)
  refine lv_i2l hx hb dL_ticksToStop_7 rfl ?_
  refine va_last (D := E.1) (cl := vwCl) (tys := [(cL, .long)]) hx hb hLg.1 hP hD hS w1'.length 0 (x_right (k := 0) rfl) rfl (x_lit (m := 1) (k := 0) (Nat.le_refl _) (by decide) (by decide)) dL_ticksToStop_8 (fun H2 locs2 hP hD hS => ?_)
  rw [x_setR] at hP hD
  refine lv_goto (tgt := 15) hx hb dL_ticksToStop_9 (by decide) ?_
  refine lv_iconst (v := 0) hx hb dL_ticksToStop_15 (by decide) ?_
  exact x_gI hx hb hr hlk hS hP hD (Nat.le_of_ble_eq_true rfl) (Nat.le_of_ble_eq_true rfl) dL_ticksToStop_16
set_option maxRecDepth 100000 in
set_option maxHeartbeats 4000000 in
theorem w_ticksToStop_c1 (l : Launch) (E : XE) (Z : XZ) (cL : ClassId) (w1 : va_W) (h o : Nat) (fs : List Value) (g : Nat → Int64) (rm : Room) (p1 : Int32) (hM : xX l yX8_ticksToStop wsX8_ticksToStop rm E w1 [.ref h, .int p1] "java/lang/IllegalArgumentException") (hrc : rm.cells = 1) (hrs : rm.slots = 6) (hfr : rm.frames + 1 ≤ 12) (hlo : 8 + (2 + 11) + rm.locals ≤ 450) (hq : w1[0]? = some (h, .inr (8, fs))) : xL l yL_ticksToStop wsL_ticksToStop { frames := 12, cells := 1, slots := 6, locals := 450 } E Z cL (w1 ++ [(o, .inl (cL, 1, .inr (.inl g)))]) [.ref h, .int p1, .ref o] (.int 1) (w1 ++ [(o, .inl (cL, 1, .inr (.inl g)))]) := by
  refine xL.of (cc := cL_ticksToStop) (maxL := 4) (ret := some .int) (hh := [(0, 9, 12, 13)]) (by decide +kernel) rfl (Nat.le_of_ble_eq_true rfl) ?_
  intro p e s m args below meth c ls A hMM hE hP hD hS hA hZ hThr hLg ht hl
  obtain ⟨hx, hb, hr, hml, hts, hown, hlk, -⟩ := hMM
  have hl : lv_has ls 4 [(0, .ref h), (1, .int p1), (2, .ref o)] := hl
  refine lv_aload_n hx hb dL_ticksToStop_0 rfl (lv_at hl 2 rfl) ?_
  refine lv_iconst (v := 0) hx hb dL_ticksToStop_1 (by decide) ?_
  refine lv_aload_n hx hb dL_ticksToStop_2 rfl (lv_at hl 0 rfl) ?_
  refine lv_iload_n hx hb dL_ticksToStop_3 rfl (lv_at hl 1 rfl) ?_
  refine x_gX [.int p1] hM ⟨hx, hb, hml, hown, hts⟩ (cwV 1 hts gL_ticksToStop_X8_ticksToStop rfl hrc hrs hdX8_ticksToStop ⟨hfr, hlo⟩) hE hThr hP hD (ci := 8) rfl rfl hq hl.1 rfl rfl (Nat.le_of_ble_eq_true rfl) dL_ticksToStop_4 (Nat.le_of_ble_eq_true rfl) (Nat.le_of_ble_eq_true rfl) (fun q ce H1 hP hS hce hv hcl => ?_)
  refine vx_catch (own := RL) (name := "java/lang/IllegalArgumentException") (E := "java/lang/IllegalArgumentException") hown [] (⟨0, 9, 12, 13⟩ : ExceptionTableEntry) [] (ht.trans rfl) (fun _ h => nomatch h) (by decide) (by decide) (hts _ (by decide +kernel)) (va_Nw.use (xCast_t (.castable "java/lang/IllegalArgumentException" "java/lang/IllegalArgumentException") (by decide +kernel)) (hThr.2.2.1 _ (by decide +kernel))) hce hv hcl ?_
  show W p l e _ s m args below meth c H1 [] (0 + 1) (0 + 6) _ (F0 m 12 ls [.ref q])
  refine lv_astore_n (lv' := [(3, .ref q), (0, .ref h), (1, .int p1), (2, .ref o)]) hx hb dL_ticksToStop_12 rfl hl (by decide) rfl (fun ls hl => ?_)
  refine lv_iconst (v := 1) hx hb dL_ticksToStop_13 (by decide) ?_
  exact x_gI hx hb hr hlk hS hP hD (Nat.le_of_ble_eq_true rfl) (Nat.le_of_ble_eq_true rfl) dL_ticksToStop_14
set_option maxRecDepth 100000 in
set_option maxHeartbeats 4000000 in
theorem w_farthest (l : Launch) (E : XE) (Z : XZ) (cL : ClassId) (w1 w1' : va_W) (h o : Nat) (fs : List Value) (g : Nat → Int64) (rm : Room) (p1 : Int32) (v : Int32) (hM : xA l yX8_farthest wsX8_farthest rm E Z w1 [.ref h, .int p1] (some (.int v)) w1' 0 0) (hrc : rm.cells = 0) (hrs : rm.slots = 0) (hfr : rm.frames + 1 ≤ 12) (hlo : 8 + (4 + 11) + rm.locals ≤ 450) (hq : w1[0]? = some (h, .inr (8, fs))) : xL l yL_farthest wsL_farthest { frames := 12, cells := 1, slots := 6, locals := 450 } E Z cL (w1 ++ [(o, .inl (cL, 1, .inr (.inl g)))]) [.ref h, .int p1, .ref o] (.int 0) (w1' ++ [(o, .inl (cL, 1, .inr (.inl (vp_updL g (Int32.toNatClampNeg 0) v.toInt64))))]) := by
  refine xL.of (cc := cL_farthest) (maxL := 4) (ret := some .int) (hh := [(0, 9, 12, 13)]) (by decide +kernel) rfl (Nat.le_of_ble_eq_true rfl) ?_
  intro p e s m args below meth c ls A hMM hE hP hD hS hA hZ hThr hLg ht hl
  obtain ⟨hx, hb, hr, hml, hts, hown, hlk, -⟩ := hMM
  have hl : lv_has ls 4 [(0, .ref h), (1, .int p1), (2, .ref o)] := hl
  refine lv_aload_n hx hb dL_farthest_0 rfl (lv_at hl 2 rfl) ?_
  refine lv_iconst (v := 0) hx hb dL_farthest_1 (by decide) ?_
  refine lv_aload_n hx hb dL_farthest_2 rfl (lv_at hl 0 rfl) ?_
  refine lv_iload_n hx hb dL_farthest_3 rfl (lv_at hl 1 rfl) ?_
  refine x_gV [.int p1] hM ⟨hx, hb, hml, hown, hts⟩ (cwV 1 hts gL_farthest_X8_farthest rfl hrc hrs hdX8_farthest ⟨hfr, hlo⟩) hZ hE hP hD hS hA (ci := 8) rfl rfl hq hl.1 rfl rfl (Nat.le_of_ble_eq_true rfl) dL_farthest_4 (Nat.le_of_ble_eq_true rfl) (Nat.le_of_ble_eq_true rfl) (fun H1 locs1 hP hD hS => ?_)
  refine lv_i2l hx hb dL_farthest_7 rfl ?_
  refine va_last (D := E.1) (cl := vwCl) (tys := [(cL, .long)]) hx hb hLg.1 hP hD hS w1'.length 0 (x_right (k := 0) rfl) rfl (x_lit (m := 1) (k := 0) (Nat.le_refl _) (by decide) (by decide)) dL_farthest_8 (fun H2 locs2 hP hD hS => ?_)
  rw [x_setR] at hP hD
  refine lv_goto (tgt := 15) hx hb dL_farthest_9 (by decide) ?_
  refine lv_iconst (v := 0) hx hb dL_farthest_15 (by decide) ?_
  exact x_gI hx hb hr hlk hS hP hD (Nat.le_of_ble_eq_true rfl) (Nat.le_of_ble_eq_true rfl) dL_farthest_16
set_option maxRecDepth 100000 in
set_option maxHeartbeats 4000000 in
theorem w_farthest_c1 (l : Launch) (E : XE) (Z : XZ) (cL : ClassId) (w1 : va_W) (h o : Nat) (fs : List Value) (g : Nat → Int64) (rm : Room) (p1 : Int32) (hM : xX l yX8_farthest wsX8_farthest rm E w1 [.ref h, .int p1] "java/lang/IllegalArgumentException") (hrc : rm.cells = 1) (hrs : rm.slots = 6) (hfr : rm.frames + 1 ≤ 12) (hlo : 8 + (4 + 11) + rm.locals ≤ 450) (hq : w1[0]? = some (h, .inr (8, fs))) : xL l yL_farthest wsL_farthest { frames := 12, cells := 1, slots := 6, locals := 450 } E Z cL (w1 ++ [(o, .inl (cL, 1, .inr (.inl g)))]) [.ref h, .int p1, .ref o] (.int 1) (w1 ++ [(o, .inl (cL, 1, .inr (.inl g)))]) := by
  refine xL.of (cc := cL_farthest) (maxL := 4) (ret := some .int) (hh := [(0, 9, 12, 13)]) (by decide +kernel) rfl (Nat.le_of_ble_eq_true rfl) ?_
  intro p e s m args below meth c ls A hMM hE hP hD hS hA hZ hThr hLg ht hl
  obtain ⟨hx, hb, hr, hml, hts, hown, hlk, -⟩ := hMM
  have hl : lv_has ls 4 [(0, .ref h), (1, .int p1), (2, .ref o)] := hl
  refine lv_aload_n hx hb dL_farthest_0 rfl (lv_at hl 2 rfl) ?_
  refine lv_iconst (v := 0) hx hb dL_farthest_1 (by decide) ?_
  refine lv_aload_n hx hb dL_farthest_2 rfl (lv_at hl 0 rfl) ?_
  refine lv_iload_n hx hb dL_farthest_3 rfl (lv_at hl 1 rfl) ?_
  refine x_gX [.int p1] hM ⟨hx, hb, hml, hown, hts⟩ (cwV 1 hts gL_farthest_X8_farthest rfl hrc hrs hdX8_farthest ⟨hfr, hlo⟩) hE hThr hP hD (ci := 8) rfl rfl hq hl.1 rfl rfl (Nat.le_of_ble_eq_true rfl) dL_farthest_4 (Nat.le_of_ble_eq_true rfl) (Nat.le_of_ble_eq_true rfl) (fun q ce H1 hP hS hce hv hcl => ?_)
  refine vx_catch (own := RL) (name := "java/lang/IllegalArgumentException") (E := "java/lang/IllegalArgumentException") hown [] (⟨0, 9, 12, 13⟩ : ExceptionTableEntry) [] (ht.trans rfl) (fun _ h => nomatch h) (by decide) (by decide) (hts _ (by decide +kernel)) (va_Nw.use (xCast_t (.castable "java/lang/IllegalArgumentException" "java/lang/IllegalArgumentException") (by decide +kernel)) (hThr.2.2.1 _ (by decide +kernel))) hce hv hcl ?_
  show W p l e _ s m args below meth c H1 [] (0 + 1) (0 + 6) _ (F0 m 12 ls [.ref q])
  refine lv_astore_n (lv' := [(3, .ref q), (0, .ref h), (1, .int p1), (2, .ref o)]) hx hb dL_farthest_12 rfl hl (by decide) rfl (fun ls hl => ?_)
  refine lv_iconst (v := 1) hx hb dL_farthest_13 (by decide) ?_
  exact x_gI hx hb hr hlk hS hP hD (Nat.le_of_ble_eq_true rfl) (Nat.le_of_ble_eq_true rfl) dL_farthest_14
set_option maxRecDepth 100000 in
set_option maxHeartbeats 4000000 in
theorem w_linkAfter (l : Launch) (E : XE) (Z : XZ) (cL : ClassId) (w1 w1' : va_W) (h o : Nat) (fs : List Value) (g : Nat → Int64) (rm : Room) (p1 p2 p3 : Int32) (v : Int32) (hM : xA l yX8_linkAfter wsX8_linkAfter rm E Z w1 [.ref h, .int p1, .int p2, .int p3] (some (.int v)) w1' 0 0) (hrc : rm.cells = 0) (hrs : rm.slots = 0) (hfr : rm.frames + 1 ≤ 12) (hlo : 8 + (5 + 11) + rm.locals ≤ 450) (hq : w1[0]? = some (h, .inr (8, fs))) : xL l yL_linkAfter wsL_linkAfter { frames := 12, cells := 1, slots := 6, locals := 450 } E Z cL (w1 ++ [(o, .inl (cL, 1, .inr (.inl g)))]) [.ref h, .int p1, .int p2, .int p3, .ref o] (.int 0) (w1' ++ [(o, .inl (cL, 1, .inr (.inl (vp_updL g (Int32.toNatClampNeg 0) v.toInt64))))]) := by
  refine xL.of (cc := cL_linkAfter) (maxL := 6) (ret := some .int) (hh := [(0, 12, 15, 28), (0, 12, 19, 13)]) (by decide +kernel) rfl (Nat.le_of_ble_eq_true rfl) ?_
  intro p e s m args below meth c ls A hMM hE hP hD hS hA hZ hThr hLg ht hl
  obtain ⟨hx, hb, hr, hml, hts, hown, hlk, -⟩ := hMM
  have hl : lv_has ls 6 [(0, .ref h), (1, .int p1), (2, .int p2), (3, .int p3), (4, .ref o)] := hl
  refine lv_aload hx hb dL_linkAfter_0 (lv_at hl 4 rfl) ?_
  refine lv_iconst (v := 0) hx hb dL_linkAfter_2 (by decide) ?_
  refine lv_aload_n hx hb dL_linkAfter_3 rfl (lv_at hl 0 rfl) ?_
  refine lv_iload_n hx hb dL_linkAfter_4 rfl (lv_at hl 1 rfl) ?_
  refine lv_iload_n hx hb dL_linkAfter_5 rfl (lv_at hl 2 rfl) ?_
  refine lv_iload_n hx hb dL_linkAfter_6 rfl (lv_at hl 3 rfl) ?_
  refine x_gV [.int p1, .int p2, .int p3] hM ⟨hx, hb, hml, hown, hts⟩ (cwV 3 hts gL_linkAfter_X8_linkAfter rfl hrc hrs hdX8_linkAfter ⟨hfr, hlo⟩) hZ hE hP hD hS hA (ci := 8) rfl rfl hq hl.1 rfl rfl (Nat.le_of_ble_eq_true rfl) dL_linkAfter_7 (Nat.le_of_ble_eq_true rfl) (Nat.le_of_ble_eq_true rfl) (fun H1 locs1 hP hD hS => ?_)
  refine lv_i2l hx hb dL_linkAfter_10 rfl ?_
  refine va_last (D := E.1) (cl := vwCl) (tys := [(cL, .long)]) hx hb hLg.1 hP hD hS w1'.length 0 (x_right (k := 0) rfl) rfl (x_lit (m := 1) (k := 0) (Nat.le_refl _) (by decide) (by decide)) dL_linkAfter_11 (fun H2 locs2 hP hD hS => ?_)
  rw [x_setR] at hP hD
  refine lv_goto (tgt := 23) hx hb dL_linkAfter_12 (by decide) ?_
  refine lv_iconst (v := 0) hx hb dL_linkAfter_23 (by decide) ?_
  exact x_gI hx hb hr hlk hS hP hD (Nat.le_of_ble_eq_true rfl) (Nat.le_of_ble_eq_true rfl) dL_linkAfter_24
set_option maxRecDepth 100000 in
set_option maxHeartbeats 4000000 in
theorem w_linkAfter_c1 (l : Launch) (E : XE) (Z : XZ) (cL : ClassId) (w1 : va_W) (h o : Nat) (fs : List Value) (g : Nat → Int64) (rm : Room) (p1 p2 p3 : Int32) (hM : xX l yX8_linkAfter wsX8_linkAfter rm E w1 [.ref h, .int p1, .int p2, .int p3] "java/lang/IndexOutOfBoundsException") (hrc : rm.cells = 1) (hrs : rm.slots = 6) (hfr : rm.frames + 1 ≤ 12) (hlo : 8 + (5 + 11) + rm.locals ≤ 450) (hq : w1[0]? = some (h, .inr (8, fs))) : xL l yL_linkAfter wsL_linkAfter { frames := 12, cells := 1, slots := 6, locals := 450 } E Z cL (w1 ++ [(o, .inl (cL, 1, .inr (.inl g)))]) [.ref h, .int p1, .int p2, .int p3, .ref o] (.int 1) (w1 ++ [(o, .inl (cL, 1, .inr (.inl g)))]) := by
  refine xL.of (cc := cL_linkAfter) (maxL := 6) (ret := some .int) (hh := [(0, 12, 15, 28), (0, 12, 19, 13)]) (by decide +kernel) rfl (Nat.le_of_ble_eq_true rfl) ?_
  intro p e s m args below meth c ls A hMM hE hP hD hS hA hZ hThr hLg ht hl
  obtain ⟨hx, hb, hr, hml, hts, hown, hlk, -⟩ := hMM
  have hl : lv_has ls 6 [(0, .ref h), (1, .int p1), (2, .int p2), (3, .int p3), (4, .ref o)] := hl
  refine lv_aload hx hb dL_linkAfter_0 (lv_at hl 4 rfl) ?_
  refine lv_iconst (v := 0) hx hb dL_linkAfter_2 (by decide) ?_
  refine lv_aload_n hx hb dL_linkAfter_3 rfl (lv_at hl 0 rfl) ?_
  refine lv_iload_n hx hb dL_linkAfter_4 rfl (lv_at hl 1 rfl) ?_
  refine lv_iload_n hx hb dL_linkAfter_5 rfl (lv_at hl 2 rfl) ?_
  refine lv_iload_n hx hb dL_linkAfter_6 rfl (lv_at hl 3 rfl) ?_
  refine x_gX [.int p1, .int p2, .int p3] hM ⟨hx, hb, hml, hown, hts⟩ (cwV 3 hts gL_linkAfter_X8_linkAfter rfl hrc hrs hdX8_linkAfter ⟨hfr, hlo⟩) hE hThr hP hD (ci := 8) rfl rfl hq hl.1 rfl rfl (Nat.le_of_ble_eq_true rfl) dL_linkAfter_7 (Nat.le_of_ble_eq_true rfl) (Nat.le_of_ble_eq_true rfl) (fun q ce H1 hP hS hce hv hcl => ?_)
  refine vx_catch (own := RL) (name := "java/lang/IndexOutOfBoundsException") (E := "java/lang/IndexOutOfBoundsException") hown [] (⟨0, 12, 15, 28⟩ : ExceptionTableEntry) [(⟨0, 12, 19, 13⟩ : ExceptionTableEntry)] (ht.trans rfl) (fun _ h => nomatch h) (by decide) (by decide) (hts _ (by decide +kernel)) (va_Nw.use (xCast_t (.castable "java/lang/IndexOutOfBoundsException" "java/lang/IndexOutOfBoundsException") (by decide +kernel)) (hThr.2.2.1 _ (by decide +kernel))) hce hv hcl ?_
  show W p l e _ s m args below meth c H1 [] (0 + 1) (0 + 6) _ (F0 m 15 ls [.ref q])
  refine lv_astore (lv' := [(5, .ref q), (0, .ref h), (1, .int p1), (2, .int p2), (3, .int p3), (4, .ref o)]) hx hb dL_linkAfter_15 hl (by decide) rfl (fun ls hl => ?_)
  refine lv_iconst (v := 1) hx hb dL_linkAfter_17 (by decide) ?_
  exact x_gI hx hb hr hlk hS hP hD (Nat.le_of_ble_eq_true rfl) (Nat.le_of_ble_eq_true rfl) dL_linkAfter_18
set_option maxRecDepth 100000 in
set_option maxHeartbeats 4000000 in
theorem w_linkAfter_c2 (l : Launch) (E : XE) (Z : XZ) (cL : ClassId) (w1 : va_W) (h o : Nat) (fs : List Value) (g : Nat → Int64) (rm : Room) (p1 p2 p3 : Int32) (hM : xX l yX8_linkAfter wsX8_linkAfter rm E w1 [.ref h, .int p1, .int p2, .int p3] "java/lang/IllegalArgumentException") (hrc : rm.cells = 1) (hrs : rm.slots = 6) (hfr : rm.frames + 1 ≤ 12) (hlo : 8 + (5 + 11) + rm.locals ≤ 450) (hq : w1[0]? = some (h, .inr (8, fs))) : xL l yL_linkAfter wsL_linkAfter { frames := 12, cells := 1, slots := 6, locals := 450 } E Z cL (w1 ++ [(o, .inl (cL, 1, .inr (.inl g)))]) [.ref h, .int p1, .int p2, .int p3, .ref o] (.int 2) (w1 ++ [(o, .inl (cL, 1, .inr (.inl g)))]) := by
  refine xL.of (cc := cL_linkAfter) (maxL := 6) (ret := some .int) (hh := [(0, 12, 15, 28), (0, 12, 19, 13)]) (by decide +kernel) rfl (Nat.le_of_ble_eq_true rfl) ?_
  intro p e s m args below meth c ls A hMM hE hP hD hS hA hZ hThr hLg ht hl
  obtain ⟨hx, hb, hr, hml, hts, hown, hlk, -⟩ := hMM
  have hl : lv_has ls 6 [(0, .ref h), (1, .int p1), (2, .int p2), (3, .int p3), (4, .ref o)] := hl
  refine lv_aload hx hb dL_linkAfter_0 (lv_at hl 4 rfl) ?_
  refine lv_iconst (v := 0) hx hb dL_linkAfter_2 (by decide) ?_
  refine lv_aload_n hx hb dL_linkAfter_3 rfl (lv_at hl 0 rfl) ?_
  refine lv_iload_n hx hb dL_linkAfter_4 rfl (lv_at hl 1 rfl) ?_
  refine lv_iload_n hx hb dL_linkAfter_5 rfl (lv_at hl 2 rfl) ?_
  refine lv_iload_n hx hb dL_linkAfter_6 rfl (lv_at hl 3 rfl) ?_
  refine x_gX [.int p1, .int p2, .int p3] hM ⟨hx, hb, hml, hown, hts⟩ (cwV 3 hts gL_linkAfter_X8_linkAfter rfl hrc hrs hdX8_linkAfter ⟨hfr, hlo⟩) hE hThr hP hD (ci := 8) rfl rfl hq hl.1 rfl rfl (Nat.le_of_ble_eq_true rfl) dL_linkAfter_7 (Nat.le_of_ble_eq_true rfl) (Nat.le_of_ble_eq_true rfl) (fun q ce H1 hP hS hce hv hcl => ?_)
  refine vx_catch (own := RL) (name := "java/lang/IllegalArgumentException") (E := "java/lang/IllegalArgumentException") hown [(⟨0, 12, 15, 28⟩ : ExceptionTableEntry)] (⟨0, 12, 19, 13⟩ : ExceptionTableEntry) [] (ht.trans rfl) (List.forall_mem_cons.mpr ⟨Or.inr ⟨by decide, "java/lang/IndexOutOfBoundsException", hts _ (by decide +kernel), hLg.2.1⟩, (fun _ h => nomatch h)⟩) (by decide) (by decide) (hts _ (by decide +kernel)) (va_Nw.use (xCast_t (.castable "java/lang/IllegalArgumentException" "java/lang/IllegalArgumentException") (by decide +kernel)) (hThr.2.2.1 _ (by decide +kernel))) hce hv hcl ?_
  show W p l e _ s m args below meth c H1 [] (0 + 1) (0 + 6) _ (F0 m 19 ls [.ref q])
  refine lv_astore (lv' := [(5, .ref q), (0, .ref h), (1, .int p1), (2, .int p2), (3, .int p3), (4, .ref o)]) hx hb dL_linkAfter_19 hl (by decide) rfl (fun ls hl => ?_)
  refine lv_iconst (v := 2) hx hb dL_linkAfter_21 (by decide) ?_
  exact x_gI hx hb hr hlk hS hP hD (Nat.le_of_ble_eq_true rfl) (Nat.le_of_ble_eq_true rfl) dL_linkAfter_22
set_option maxRecDepth 100000 in
set_option maxHeartbeats 4000000 in
theorem w_run (l : Launch) (E : XE) (Z : XZ) (cL : ClassId) (w1 w1' : va_W) (h o : Nat) (fs : List Value) (g : Nat → Int64) (rm : Room) (p1 : Int32) (v : Int32) (hM : xA l yX8_run wsX8_run rm E Z w1 [.ref h, .int p1] (some (.int v)) w1' 0 0) (hrc : rm.cells = 0) (hrs : rm.slots = 0) (hfr : rm.frames + 1 ≤ 12) (hlo : 8 + (3 + 11) + rm.locals ≤ 450) (hq : w1[0]? = some (h, .inr (8, fs))) : xL l yL_run wsL_run { frames := 12, cells := 1, slots := 6, locals := 450 } E Z cL (w1 ++ [(o, .inl (cL, 1, .inr (.inl g)))]) [.ref h, .int p1, .ref o] (.int 0) (w1' ++ [(o, .inl (cL, 1, .inr (.inl (vp_updL g (Int32.toNatClampNeg 0) v.toInt64))))]) := by
  refine xL.of (cc := cL_run) (maxL := 4) (ret := some .int) (hh := [(0, 9, 12, 13), (0, 9, 15, 65)]) (by decide +kernel) rfl (Nat.le_of_ble_eq_true rfl) ?_
  intro p e s m args below meth c ls A hMM hE hP hD hS hA hZ hThr hLg ht hl
  obtain ⟨hx, hb, hr, hml, hts, hown, hlk, -⟩ := hMM
  have hl : lv_has ls 4 [(0, .ref h), (1, .int p1), (2, .ref o)] := hl
  refine lv_aload_n hx hb dL_run_0 rfl (lv_at hl 2 rfl) ?_
  refine lv_iconst (v := 0) hx hb dL_run_1 (by decide) ?_
  refine lv_aload_n hx hb dL_run_2 rfl (lv_at hl 0 rfl) ?_
  refine lv_iload_n hx hb dL_run_3 rfl (lv_at hl 1 rfl) ?_
  refine x_gV [.int p1] hM ⟨hx, hb, hml, hown, hts⟩ (cwV 1 hts gL_run_X8_run rfl hrc hrs hdX8_run ⟨hfr, hlo⟩) hZ hE hP hD hS hA (ci := 8) rfl rfl hq hl.1 rfl rfl (Nat.le_of_ble_eq_true rfl) dL_run_4 (Nat.le_of_ble_eq_true rfl) (Nat.le_of_ble_eq_true rfl) (fun H1 locs1 hP hD hS => ?_)
  refine lv_i2l hx hb dL_run_7 rfl ?_
  refine va_last (D := E.1) (cl := vwCl) (tys := [(cL, .long)]) hx hb hLg.1 hP hD hS w1'.length 0 (x_right (k := 0) rfl) rfl (x_lit (m := 1) (k := 0) (Nat.le_refl _) (by decide) (by decide)) dL_run_8 (fun H2 locs2 hP hD hS => ?_)
  rw [x_setR] at hP hD
  refine lv_goto (tgt := 18) hx hb dL_run_9 (by decide) ?_
  refine lv_iconst (v := 0) hx hb dL_run_18 (by decide) ?_
  exact x_gI hx hb hr hlk hS hP hD (Nat.le_of_ble_eq_true rfl) (Nat.le_of_ble_eq_true rfl) dL_run_19
set_option maxRecDepth 100000 in
set_option maxHeartbeats 4000000 in
theorem w_run_c1 (l : Launch) (E : XE) (Z : XZ) (cL : ClassId) (w1 : va_W) (h o : Nat) (fs : List Value) (g : Nat → Int64) (rm : Room) (p1 : Int32) (hM : xX l yX8_run wsX8_run rm E w1 [.ref h, .int p1] "java/lang/IllegalArgumentException") (hrc : rm.cells = 1) (hrs : rm.slots = 6) (hfr : rm.frames + 1 ≤ 12) (hlo : 8 + (3 + 11) + rm.locals ≤ 450) (hq : w1[0]? = some (h, .inr (8, fs))) : xL l yL_run wsL_run { frames := 12, cells := 1, slots := 6, locals := 450 } E Z cL (w1 ++ [(o, .inl (cL, 1, .inr (.inl g)))]) [.ref h, .int p1, .ref o] (.int 1) (w1 ++ [(o, .inl (cL, 1, .inr (.inl g)))]) := by
  refine xL.of (cc := cL_run) (maxL := 4) (ret := some .int) (hh := [(0, 9, 12, 13), (0, 9, 15, 65)]) (by decide +kernel) rfl (Nat.le_of_ble_eq_true rfl) ?_
  intro p e s m args below meth c ls A hMM hE hP hD hS hA hZ hThr hLg ht hl
  obtain ⟨hx, hb, hr, hml, hts, hown, hlk, -⟩ := hMM
  have hl : lv_has ls 4 [(0, .ref h), (1, .int p1), (2, .ref o)] := hl
  refine lv_aload_n hx hb dL_run_0 rfl (lv_at hl 2 rfl) ?_
  refine lv_iconst (v := 0) hx hb dL_run_1 (by decide) ?_
  refine lv_aload_n hx hb dL_run_2 rfl (lv_at hl 0 rfl) ?_
  refine lv_iload_n hx hb dL_run_3 rfl (lv_at hl 1 rfl) ?_
  refine x_gX [.int p1] hM ⟨hx, hb, hml, hown, hts⟩ (cwV 1 hts gL_run_X8_run rfl hrc hrs hdX8_run ⟨hfr, hlo⟩) hE hThr hP hD (ci := 8) rfl rfl hq hl.1 rfl rfl (Nat.le_of_ble_eq_true rfl) dL_run_4 (Nat.le_of_ble_eq_true rfl) (Nat.le_of_ble_eq_true rfl) (fun q ce H1 hP hS hce hv hcl => ?_)
  refine vx_catch (own := RL) (name := "java/lang/IllegalArgumentException") (E := "java/lang/IllegalArgumentException") hown [] (⟨0, 9, 12, 13⟩ : ExceptionTableEntry) [(⟨0, 9, 15, 65⟩ : ExceptionTableEntry)] (ht.trans rfl) (fun _ h => nomatch h) (by decide) (by decide) (hts _ (by decide +kernel)) (va_Nw.use (xCast_t (.castable "java/lang/IllegalArgumentException" "java/lang/IllegalArgumentException") (by decide +kernel)) (hThr.2.2.1 _ (by decide +kernel))) hce hv hcl ?_
  show W p l e _ s m args below meth c H1 [] (0 + 1) (0 + 6) _ (F0 m 12 ls [.ref q])
  refine lv_astore_n (lv' := [(3, .ref q), (0, .ref h), (1, .int p1), (2, .ref o)]) hx hb dL_run_12 rfl hl (by decide) rfl (fun ls hl => ?_)
  refine lv_iconst (v := 1) hx hb dL_run_13 (by decide) ?_
  exact x_gI hx hb hr hlk hS hP hD (Nat.le_of_ble_eq_true rfl) (Nat.le_of_ble_eq_true rfl) dL_run_14
set_option maxRecDepth 100000 in
set_option maxHeartbeats 4000000 in
theorem w_run_c2 (l : Launch) (E : XE) (Z : XZ) (cL : ClassId) (w1 : va_W) (h o : Nat) (fs : List Value) (g : Nat → Int64) (rm : Room) (p1 : Int32) (hM : xX l yX8_run wsX8_run rm E w1 [.ref h, .int p1] "java/lang/IllegalStateException") (hrc : rm.cells = 1) (hrs : rm.slots = 6) (hfr : rm.frames + 1 ≤ 12) (hlo : 8 + (3 + 11) + rm.locals ≤ 450) (hq : w1[0]? = some (h, .inr (8, fs))) : xL l yL_run wsL_run { frames := 12, cells := 1, slots := 6, locals := 450 } E Z cL (w1 ++ [(o, .inl (cL, 1, .inr (.inl g)))]) [.ref h, .int p1, .ref o] (.int 2) (w1 ++ [(o, .inl (cL, 1, .inr (.inl g)))]) := by
  refine xL.of (cc := cL_run) (maxL := 4) (ret := some .int) (hh := [(0, 9, 12, 13), (0, 9, 15, 65)]) (by decide +kernel) rfl (Nat.le_of_ble_eq_true rfl) ?_
  intro p e s m args below meth c ls A hMM hE hP hD hS hA hZ hThr hLg ht hl
  obtain ⟨hx, hb, hr, hml, hts, hown, hlk, -⟩ := hMM
  have hl : lv_has ls 4 [(0, .ref h), (1, .int p1), (2, .ref o)] := hl
  refine lv_aload_n hx hb dL_run_0 rfl (lv_at hl 2 rfl) ?_
  refine lv_iconst (v := 0) hx hb dL_run_1 (by decide) ?_
  refine lv_aload_n hx hb dL_run_2 rfl (lv_at hl 0 rfl) ?_
  refine lv_iload_n hx hb dL_run_3 rfl (lv_at hl 1 rfl) ?_
  refine x_gX [.int p1] hM ⟨hx, hb, hml, hown, hts⟩ (cwV 1 hts gL_run_X8_run rfl hrc hrs hdX8_run ⟨hfr, hlo⟩) hE hThr hP hD (ci := 8) rfl rfl hq hl.1 rfl rfl (Nat.le_of_ble_eq_true rfl) dL_run_4 (Nat.le_of_ble_eq_true rfl) (Nat.le_of_ble_eq_true rfl) (fun q ce H1 hP hS hce hv hcl => ?_)
  refine vx_catch (own := RL) (name := "java/lang/IllegalStateException") (E := "java/lang/IllegalStateException") hown [(⟨0, 9, 12, 13⟩ : ExceptionTableEntry)] (⟨0, 9, 15, 65⟩ : ExceptionTableEntry) [] (ht.trans rfl) (List.forall_mem_cons.mpr ⟨Or.inr ⟨by decide, "java/lang/IllegalArgumentException", hts _ (by decide +kernel), hLg.2.2.2⟩, (fun _ h => nomatch h)⟩) (by decide) (by decide) (hts _ (by decide +kernel)) (va_Nw.use (xCast_t (.castable "java/lang/IllegalStateException" "java/lang/IllegalStateException") (by decide +kernel)) (hThr.2.2.1 _ (by decide +kernel))) hce hv hcl ?_
  show W p l e _ s m args below meth c H1 [] (0 + 1) (0 + 6) _ (F0 m 15 ls [.ref q])
  refine lv_astore_n (lv' := [(3, .ref q), (0, .ref h), (1, .int p1), (2, .ref o)]) hx hb dL_run_15 rfl hl (by decide) rfl (fun ls hl => ?_)
  refine lv_iconst (v := 2) hx hb dL_run_16 (by decide) ?_
  exact x_gI hx hb hr hlk hS hP hD (Nat.le_of_ble_eq_true rfl) (Nat.le_of_ble_eq_true rfl) dL_run_17
set_option maxRecDepth 100000 in
set_option maxHeartbeats 4000000 in
theorem w_setMode (l : Launch) (E : XE) (Z : XZ) (cL : ClassId) (w1 w1' : va_W) (h o : Nat) (fs : List Value) (g : Nat → Int64) (rm : Room) (p1 : Int32) (v : Int32) (hM : xA l yX8_setMode wsX8_setMode rm E Z w1 [.ref h, .int p1] (some (.int v)) w1' 0 0) (hrc : rm.cells = 0) (hrs : rm.slots = 0) (hfr : rm.frames + 1 ≤ 12) (hlo : 8 + (3 + 11) + rm.locals ≤ 450) (hq : w1[0]? = some (h, .inr (8, fs))) : xL l yL_setMode wsL_setMode { frames := 12, cells := 1, slots := 6, locals := 450 } E Z cL (w1 ++ [(o, .inl (cL, 1, .inr (.inl g)))]) [.ref h, .int p1, .ref o] (.int 0) (w1' ++ [(o, .inl (cL, 1, .inr (.inl (vp_updL g (Int32.toNatClampNeg 0) v.toInt64))))]) := by
  refine xL.of (cc := cL_setMode) (maxL := 4) (ret := some .int) (hh := [(0, 9, 12, 13), (0, 9, 15, 65)]) (by decide +kernel) rfl (Nat.le_of_ble_eq_true rfl) ?_
  intro p e s m args below meth c ls A hMM hE hP hD hS hA hZ hThr hLg ht hl
  obtain ⟨hx, hb, hr, hml, hts, hown, hlk, -⟩ := hMM
  have hl : lv_has ls 4 [(0, .ref h), (1, .int p1), (2, .ref o)] := hl
  refine lv_aload_n hx hb dL_setMode_0 rfl (lv_at hl 2 rfl) ?_
  refine lv_iconst (v := 0) hx hb dL_setMode_1 (by decide) ?_
  refine lv_aload_n hx hb dL_setMode_2 rfl (lv_at hl 0 rfl) ?_
  refine lv_iload_n hx hb dL_setMode_3 rfl (lv_at hl 1 rfl) ?_
  refine x_gV [.int p1] hM ⟨hx, hb, hml, hown, hts⟩ (cwV 1 hts gL_setMode_X8_setMode rfl hrc hrs hdX8_setMode ⟨hfr, hlo⟩) hZ hE hP hD hS hA (ci := 8) rfl rfl hq hl.1 rfl rfl (Nat.le_of_ble_eq_true rfl) dL_setMode_4 (Nat.le_of_ble_eq_true rfl) (Nat.le_of_ble_eq_true rfl) (fun H1 locs1 hP hD hS => ?_)
  refine lv_i2l hx hb dL_setMode_7 rfl ?_
  refine va_last (D := E.1) (cl := vwCl) (tys := [(cL, .long)]) hx hb hLg.1 hP hD hS w1'.length 0 (x_right (k := 0) rfl) rfl (x_lit (m := 1) (k := 0) (Nat.le_refl _) (by decide) (by decide)) dL_setMode_8 (fun H2 locs2 hP hD hS => ?_)
  rw [x_setR] at hP hD
  refine lv_goto (tgt := 18) hx hb dL_setMode_9 (by decide) ?_
  refine lv_iconst (v := 0) hx hb dL_setMode_18 (by decide) ?_
  exact x_gI hx hb hr hlk hS hP hD (Nat.le_of_ble_eq_true rfl) (Nat.le_of_ble_eq_true rfl) dL_setMode_19
set_option maxRecDepth 100000 in
set_option maxHeartbeats 4000000 in
theorem w_setMode_c1 (l : Launch) (E : XE) (Z : XZ) (cL : ClassId) (w1 : va_W) (h o : Nat) (fs : List Value) (g : Nat → Int64) (rm : Room) (p1 : Int32) (hM : xX l yX8_setMode wsX8_setMode rm E w1 [.ref h, .int p1] "java/lang/IllegalArgumentException") (hrc : rm.cells = 1) (hrs : rm.slots = 6) (hfr : rm.frames + 1 ≤ 12) (hlo : 8 + (3 + 11) + rm.locals ≤ 450) (hq : w1[0]? = some (h, .inr (8, fs))) : xL l yL_setMode wsL_setMode { frames := 12, cells := 1, slots := 6, locals := 450 } E Z cL (w1 ++ [(o, .inl (cL, 1, .inr (.inl g)))]) [.ref h, .int p1, .ref o] (.int 1) (w1 ++ [(o, .inl (cL, 1, .inr (.inl g)))]) := by
  refine xL.of (cc := cL_setMode) (maxL := 4) (ret := some .int) (hh := [(0, 9, 12, 13), (0, 9, 15, 65)]) (by decide +kernel) rfl (Nat.le_of_ble_eq_true rfl) ?_
  intro p e s m args below meth c ls A hMM hE hP hD hS hA hZ hThr hLg ht hl
  obtain ⟨hx, hb, hr, hml, hts, hown, hlk, -⟩ := hMM
  have hl : lv_has ls 4 [(0, .ref h), (1, .int p1), (2, .ref o)] := hl
  refine lv_aload_n hx hb dL_setMode_0 rfl (lv_at hl 2 rfl) ?_
  refine lv_iconst (v := 0) hx hb dL_setMode_1 (by decide) ?_
  refine lv_aload_n hx hb dL_setMode_2 rfl (lv_at hl 0 rfl) ?_
  refine lv_iload_n hx hb dL_setMode_3 rfl (lv_at hl 1 rfl) ?_
  refine x_gX [.int p1] hM ⟨hx, hb, hml, hown, hts⟩ (cwV 1 hts gL_setMode_X8_setMode rfl hrc hrs hdX8_setMode ⟨hfr, hlo⟩) hE hThr hP hD (ci := 8) rfl rfl hq hl.1 rfl rfl (Nat.le_of_ble_eq_true rfl) dL_setMode_4 (Nat.le_of_ble_eq_true rfl) (Nat.le_of_ble_eq_true rfl) (fun q ce H1 hP hS hce hv hcl => ?_)
  refine vx_catch (own := RL) (name := "java/lang/IllegalArgumentException") (E := "java/lang/IllegalArgumentException") hown [] (⟨0, 9, 12, 13⟩ : ExceptionTableEntry) [(⟨0, 9, 15, 65⟩ : ExceptionTableEntry)] (ht.trans rfl) (fun _ h => nomatch h) (by decide) (by decide) (hts _ (by decide +kernel)) (va_Nw.use (xCast_t (.castable "java/lang/IllegalArgumentException" "java/lang/IllegalArgumentException") (by decide +kernel)) (hThr.2.2.1 _ (by decide +kernel))) hce hv hcl ?_
  show W p l e _ s m args below meth c H1 [] (0 + 1) (0 + 6) _ (F0 m 12 ls [.ref q])
  refine lv_astore_n (lv' := [(3, .ref q), (0, .ref h), (1, .int p1), (2, .ref o)]) hx hb dL_setMode_12 rfl hl (by decide) rfl (fun ls hl => ?_)
  refine lv_iconst (v := 1) hx hb dL_setMode_13 (by decide) ?_
  exact x_gI hx hb hr hlk hS hP hD (Nat.le_of_ble_eq_true rfl) (Nat.le_of_ble_eq_true rfl) dL_setMode_14
set_option maxRecDepth 100000 in
set_option maxHeartbeats 4000000 in
theorem w_setMode_c2 (l : Launch) (E : XE) (Z : XZ) (cL : ClassId) (w1 : va_W) (h o : Nat) (fs : List Value) (g : Nat → Int64) (rm : Room) (p1 : Int32) (hM : xX l yX8_setMode wsX8_setMode rm E w1 [.ref h, .int p1] "java/lang/IllegalStateException") (hrc : rm.cells = 1) (hrs : rm.slots = 6) (hfr : rm.frames + 1 ≤ 12) (hlo : 8 + (3 + 11) + rm.locals ≤ 450) (hq : w1[0]? = some (h, .inr (8, fs))) : xL l yL_setMode wsL_setMode { frames := 12, cells := 1, slots := 6, locals := 450 } E Z cL (w1 ++ [(o, .inl (cL, 1, .inr (.inl g)))]) [.ref h, .int p1, .ref o] (.int 2) (w1 ++ [(o, .inl (cL, 1, .inr (.inl g)))]) := by
  refine xL.of (cc := cL_setMode) (maxL := 4) (ret := some .int) (hh := [(0, 9, 12, 13), (0, 9, 15, 65)]) (by decide +kernel) rfl (Nat.le_of_ble_eq_true rfl) ?_
  intro p e s m args below meth c ls A hMM hE hP hD hS hA hZ hThr hLg ht hl
  obtain ⟨hx, hb, hr, hml, hts, hown, hlk, -⟩ := hMM
  have hl : lv_has ls 4 [(0, .ref h), (1, .int p1), (2, .ref o)] := hl
  refine lv_aload_n hx hb dL_setMode_0 rfl (lv_at hl 2 rfl) ?_
  refine lv_iconst (v := 0) hx hb dL_setMode_1 (by decide) ?_
  refine lv_aload_n hx hb dL_setMode_2 rfl (lv_at hl 0 rfl) ?_
  refine lv_iload_n hx hb dL_setMode_3 rfl (lv_at hl 1 rfl) ?_
  refine x_gX [.int p1] hM ⟨hx, hb, hml, hown, hts⟩ (cwV 1 hts gL_setMode_X8_setMode rfl hrc hrs hdX8_setMode ⟨hfr, hlo⟩) hE hThr hP hD (ci := 8) rfl rfl hq hl.1 rfl rfl (Nat.le_of_ble_eq_true rfl) dL_setMode_4 (Nat.le_of_ble_eq_true rfl) (Nat.le_of_ble_eq_true rfl) (fun q ce H1 hP hS hce hv hcl => ?_)
  refine vx_catch (own := RL) (name := "java/lang/IllegalStateException") (E := "java/lang/IllegalStateException") hown [(⟨0, 9, 12, 13⟩ : ExceptionTableEntry)] (⟨0, 9, 15, 65⟩ : ExceptionTableEntry) [] (ht.trans rfl) (List.forall_mem_cons.mpr ⟨Or.inr ⟨by decide, "java/lang/IllegalArgumentException", hts _ (by decide +kernel), hLg.2.2.2⟩, (fun _ h => nomatch h)⟩) (by decide) (by decide) (hts _ (by decide +kernel)) (va_Nw.use (xCast_t (.castable "java/lang/IllegalStateException" "java/lang/IllegalStateException") (by decide +kernel)) (hThr.2.2.1 _ (by decide +kernel))) hce hv hcl ?_
  show W p l e _ s m args below meth c H1 [] (0 + 1) (0 + 6) _ (F0 m 15 ls [.ref q])
  refine lv_astore_n (lv' := [(3, .ref q), (0, .ref h), (1, .int p1), (2, .ref o)]) hx hb dL_setMode_15 rfl hl (by decide) rfl (fun ls hl => ?_)
  refine lv_iconst (v := 2) hx hb dL_setMode_16 (by decide) ?_
  exact x_gI hx hb hr hlk hS hP hD (Nat.le_of_ble_eq_true rfl) (Nat.le_of_ble_eq_true rfl) dL_setMode_17
set_option maxRecDepth 100000 in
set_option maxHeartbeats 4000000 in
theorem w_reset (l : Launch) (E : XE) (Z : XZ) (cL : ClassId) (w1 w1' : va_W) (h o : Nat) (fs : List Value) (g : Nat → Int64) (rm : Room) (p1 p2 : Int32) (v : Int32) (hM : xA l yX8_reset wsX8_reset rm E Z w1 [.ref h, .int p1, .int p2] (some (.int v)) w1' 0 0) (hrc : rm.cells = 0) (hrs : rm.slots = 0) (hfr : rm.frames + 1 ≤ 12) (hlo : 8 + (4 + 11) + rm.locals ≤ 450) (hq : w1[0]? = some (h, .inr (8, fs))) : xL l yL_reset wsL_reset { frames := 12, cells := 1, slots := 6, locals := 450 } E Z cL (w1 ++ [(o, .inl (cL, 1, .inr (.inl g)))]) [.ref h, .int p1, .int p2, .ref o] (.int 0) (w1' ++ [(o, .inl (cL, 1, .inr (.inl (vp_updL g (Int32.toNatClampNeg 0) v.toInt64))))]) := by
  refine xL.of (cc := cL_reset) (maxL := 5) (ret := some .int) (hh := [(0, 10, 13, 13)]) (by decide +kernel) rfl (Nat.le_of_ble_eq_true rfl) ?_
  intro p e s m args below meth c ls A hMM hE hP hD hS hA hZ hThr hLg ht hl
  obtain ⟨hx, hb, hr, hml, hts, hown, hlk, -⟩ := hMM
  have hl : lv_has ls 5 [(0, .ref h), (1, .int p1), (2, .int p2), (3, .ref o)] := hl
  refine lv_aload_n hx hb dL_reset_0 rfl (lv_at hl 3 rfl) ?_
  refine lv_iconst (v := 0) hx hb dL_reset_1 (by decide) ?_
  refine lv_aload_n hx hb dL_reset_2 rfl (lv_at hl 0 rfl) ?_
  refine lv_iload_n hx hb dL_reset_3 rfl (lv_at hl 1 rfl) ?_
  refine lv_iload_n hx hb dL_reset_4 rfl (lv_at hl 2 rfl) ?_
  refine x_gV [.int p1, .int p2] hM ⟨hx, hb, hml, hown, hts⟩ (cwV 2 hts gL_reset_X8_reset rfl hrc hrs hdX8_reset ⟨hfr, hlo⟩) hZ hE hP hD hS hA (ci := 8) rfl rfl hq hl.1 rfl rfl (Nat.le_of_ble_eq_true rfl) dL_reset_5 (Nat.le_of_ble_eq_true rfl) (Nat.le_of_ble_eq_true rfl) (fun H1 locs1 hP hD hS => ?_)
  refine lv_i2l hx hb dL_reset_8 rfl ?_
  refine va_last (D := E.1) (cl := vwCl) (tys := [(cL, .long)]) hx hb hLg.1 hP hD hS w1'.length 0 (x_right (k := 0) rfl) rfl (x_lit (m := 1) (k := 0) (Nat.le_refl _) (by decide) (by decide)) dL_reset_9 (fun H2 locs2 hP hD hS => ?_)
  rw [x_setR] at hP hD
  refine lv_goto (tgt := 17) hx hb dL_reset_10 (by decide) ?_
  refine lv_iconst (v := 0) hx hb dL_reset_17 (by decide) ?_
  exact x_gI hx hb hr hlk hS hP hD (Nat.le_of_ble_eq_true rfl) (Nat.le_of_ble_eq_true rfl) dL_reset_18
set_option maxRecDepth 100000 in
set_option maxHeartbeats 4000000 in
theorem w_reset_c1 (l : Launch) (E : XE) (Z : XZ) (cL : ClassId) (w1 : va_W) (h o : Nat) (fs : List Value) (g : Nat → Int64) (rm : Room) (p1 p2 : Int32) (hM : xX l yX8_reset wsX8_reset rm E w1 [.ref h, .int p1, .int p2] "java/lang/IllegalArgumentException") (hrc : rm.cells = 1) (hrs : rm.slots = 6) (hfr : rm.frames + 1 ≤ 12) (hlo : 8 + (4 + 11) + rm.locals ≤ 450) (hq : w1[0]? = some (h, .inr (8, fs))) : xL l yL_reset wsL_reset { frames := 12, cells := 1, slots := 6, locals := 450 } E Z cL (w1 ++ [(o, .inl (cL, 1, .inr (.inl g)))]) [.ref h, .int p1, .int p2, .ref o] (.int 1) (w1 ++ [(o, .inl (cL, 1, .inr (.inl g)))]) := by
  refine xL.of (cc := cL_reset) (maxL := 5) (ret := some .int) (hh := [(0, 10, 13, 13)]) (by decide +kernel) rfl (Nat.le_of_ble_eq_true rfl) ?_
  intro p e s m args below meth c ls A hMM hE hP hD hS hA hZ hThr hLg ht hl
  obtain ⟨hx, hb, hr, hml, hts, hown, hlk, -⟩ := hMM
  have hl : lv_has ls 5 [(0, .ref h), (1, .int p1), (2, .int p2), (3, .ref o)] := hl
  refine lv_aload_n hx hb dL_reset_0 rfl (lv_at hl 3 rfl) ?_
  refine lv_iconst (v := 0) hx hb dL_reset_1 (by decide) ?_
  refine lv_aload_n hx hb dL_reset_2 rfl (lv_at hl 0 rfl) ?_
  refine lv_iload_n hx hb dL_reset_3 rfl (lv_at hl 1 rfl) ?_
  refine lv_iload_n hx hb dL_reset_4 rfl (lv_at hl 2 rfl) ?_
  refine x_gX [.int p1, .int p2] hM ⟨hx, hb, hml, hown, hts⟩ (cwV 2 hts gL_reset_X8_reset rfl hrc hrs hdX8_reset ⟨hfr, hlo⟩) hE hThr hP hD (ci := 8) rfl rfl hq hl.1 rfl rfl (Nat.le_of_ble_eq_true rfl) dL_reset_5 (Nat.le_of_ble_eq_true rfl) (Nat.le_of_ble_eq_true rfl) (fun q ce H1 hP hS hce hv hcl => ?_)
  refine vx_catch (own := RL) (name := "java/lang/IllegalArgumentException") (E := "java/lang/IllegalArgumentException") hown [] (⟨0, 10, 13, 13⟩ : ExceptionTableEntry) [] (ht.trans rfl) (fun _ h => nomatch h) (by decide) (by decide) (hts _ (by decide +kernel)) (va_Nw.use (xCast_t (.castable "java/lang/IllegalArgumentException" "java/lang/IllegalArgumentException") (by decide +kernel)) (hThr.2.2.1 _ (by decide +kernel))) hce hv hcl ?_
  show W p l e _ s m args below meth c H1 [] (0 + 1) (0 + 6) _ (F0 m 13 ls [.ref q])
  refine lv_astore (lv' := [(4, .ref q), (0, .ref h), (1, .int p1), (2, .int p2), (3, .ref o)]) hx hb dL_reset_13 hl (by decide) rfl (fun ls hl => ?_)
  refine lv_iconst (v := 1) hx hb dL_reset_15 (by decide) ?_
  exact x_gI hx hb hr hlk hS hP hD (Nat.le_of_ble_eq_true rfl) (Nat.le_of_ble_eq_true rfl) dL_reset_16
set_option maxRecDepth 100000 in
set_option maxHeartbeats 4000000 in
theorem w_nudge (l : Launch) (E : XE) (Z : XZ) (cL : ClassId) (w1 w1' : va_W) (h o : Nat) (fs : List Value) (g : Nat → Int64) (rm : Room) (p1 p2 : Int32) (v : Int32) (hM : xA l yX8_nudge wsX8_nudge rm E Z w1 [.ref h, .int p1, .int p2] (some (.int v)) w1' 0 0) (hrc : rm.cells = 0) (hrs : rm.slots = 0) (hfr : rm.frames + 1 ≤ 12) (hlo : 8 + (4 + 11) + rm.locals ≤ 450) (hq : w1[0]? = some (h, .inr (8, fs))) : xL l yL_nudge wsL_nudge { frames := 12, cells := 1, slots := 6, locals := 450 } E Z cL (w1 ++ [(o, .inl (cL, 1, .inr (.inl g)))]) [.ref h, .int p1, .int p2, .ref o] (.int 0) (w1' ++ [(o, .inl (cL, 1, .inr (.inl (vp_updL g (Int32.toNatClampNeg 0) v.toInt64))))]) := by
  refine xL.of (cc := cL_nudge) (maxL := 5) (ret := some .int) (hh := [(0, 10, 13, 28), (0, 10, 17, 13), (0, 10, 21, 65)]) (by decide +kernel) rfl (Nat.le_of_ble_eq_true rfl) ?_
  intro p e s m args below meth c ls A hMM hE hP hD hS hA hZ hThr hLg ht hl
  obtain ⟨hx, hb, hr, hml, hts, hown, hlk, -⟩ := hMM
  have hl : lv_has ls 5 [(0, .ref h), (1, .int p1), (2, .int p2), (3, .ref o)] := hl
  refine lv_aload_n hx hb dL_nudge_0 rfl (lv_at hl 3 rfl) ?_
  refine lv_iconst (v := 0) hx hb dL_nudge_1 (by decide) ?_
  refine lv_aload_n hx hb dL_nudge_2 rfl (lv_at hl 0 rfl) ?_
  refine lv_iload_n hx hb dL_nudge_3 rfl (lv_at hl 1 rfl) ?_
  refine lv_iload_n hx hb dL_nudge_4 rfl (lv_at hl 2 rfl) ?_
  refine x_gV [.int p1, .int p2] hM ⟨hx, hb, hml, hown, hts⟩ (cwV 2 hts gL_nudge_X8_nudge rfl hrc hrs hdX8_nudge ⟨hfr, hlo⟩) hZ hE hP hD hS hA (ci := 8) rfl rfl hq hl.1 rfl rfl (Nat.le_of_ble_eq_true rfl) dL_nudge_5 (Nat.le_of_ble_eq_true rfl) (Nat.le_of_ble_eq_true rfl) (fun H1 locs1 hP hD hS => ?_)
  refine lv_i2l hx hb dL_nudge_8 rfl ?_
  refine va_last (D := E.1) (cl := vwCl) (tys := [(cL, .long)]) hx hb hLg.1 hP hD hS w1'.length 0 (x_right (k := 0) rfl) rfl (x_lit (m := 1) (k := 0) (Nat.le_refl _) (by decide) (by decide)) dL_nudge_9 (fun H2 locs2 hP hD hS => ?_)
  rw [x_setR] at hP hD
  refine lv_goto (tgt := 25) hx hb dL_nudge_10 (by decide) ?_
  refine lv_iconst (v := 0) hx hb dL_nudge_25 (by decide) ?_
  exact x_gI hx hb hr hlk hS hP hD (Nat.le_of_ble_eq_true rfl) (Nat.le_of_ble_eq_true rfl) dL_nudge_26
set_option maxRecDepth 100000 in
set_option maxHeartbeats 4000000 in
theorem w_nudge_c1 (l : Launch) (E : XE) (Z : XZ) (cL : ClassId) (w1 : va_W) (h o : Nat) (fs : List Value) (g : Nat → Int64) (rm : Room) (p1 p2 : Int32) (hM : xX l yX8_nudge wsX8_nudge rm E w1 [.ref h, .int p1, .int p2] "java/lang/IndexOutOfBoundsException") (hrc : rm.cells = 1) (hrs : rm.slots = 6) (hfr : rm.frames + 1 ≤ 12) (hlo : 8 + (4 + 11) + rm.locals ≤ 450) (hq : w1[0]? = some (h, .inr (8, fs))) : xL l yL_nudge wsL_nudge { frames := 12, cells := 1, slots := 6, locals := 450 } E Z cL (w1 ++ [(o, .inl (cL, 1, .inr (.inl g)))]) [.ref h, .int p1, .int p2, .ref o] (.int 1) (w1 ++ [(o, .inl (cL, 1, .inr (.inl g)))]) := by
  refine xL.of (cc := cL_nudge) (maxL := 5) (ret := some .int) (hh := [(0, 10, 13, 28), (0, 10, 17, 13), (0, 10, 21, 65)]) (by decide +kernel) rfl (Nat.le_of_ble_eq_true rfl) ?_
  intro p e s m args below meth c ls A hMM hE hP hD hS hA hZ hThr hLg ht hl
  obtain ⟨hx, hb, hr, hml, hts, hown, hlk, -⟩ := hMM
  have hl : lv_has ls 5 [(0, .ref h), (1, .int p1), (2, .int p2), (3, .ref o)] := hl
  refine lv_aload_n hx hb dL_nudge_0 rfl (lv_at hl 3 rfl) ?_
  refine lv_iconst (v := 0) hx hb dL_nudge_1 (by decide) ?_
  refine lv_aload_n hx hb dL_nudge_2 rfl (lv_at hl 0 rfl) ?_
  refine lv_iload_n hx hb dL_nudge_3 rfl (lv_at hl 1 rfl) ?_
  refine lv_iload_n hx hb dL_nudge_4 rfl (lv_at hl 2 rfl) ?_
  refine x_gX [.int p1, .int p2] hM ⟨hx, hb, hml, hown, hts⟩ (cwV 2 hts gL_nudge_X8_nudge rfl hrc hrs hdX8_nudge ⟨hfr, hlo⟩) hE hThr hP hD (ci := 8) rfl rfl hq hl.1 rfl rfl (Nat.le_of_ble_eq_true rfl) dL_nudge_5 (Nat.le_of_ble_eq_true rfl) (Nat.le_of_ble_eq_true rfl) (fun q ce H1 hP hS hce hv hcl => ?_)
  refine vx_catch (own := RL) (name := "java/lang/IndexOutOfBoundsException") (E := "java/lang/IndexOutOfBoundsException") hown [] (⟨0, 10, 13, 28⟩ : ExceptionTableEntry) [(⟨0, 10, 17, 13⟩ : ExceptionTableEntry), (⟨0, 10, 21, 65⟩ : ExceptionTableEntry)] (ht.trans rfl) (fun _ h => nomatch h) (by decide) (by decide) (hts _ (by decide +kernel)) (va_Nw.use (xCast_t (.castable "java/lang/IndexOutOfBoundsException" "java/lang/IndexOutOfBoundsException") (by decide +kernel)) (hThr.2.2.1 _ (by decide +kernel))) hce hv hcl ?_
  show W p l e _ s m args below meth c H1 [] (0 + 1) (0 + 6) _ (F0 m 13 ls [.ref q])
  refine lv_astore (lv' := [(4, .ref q), (0, .ref h), (1, .int p1), (2, .int p2), (3, .ref o)]) hx hb dL_nudge_13 hl (by decide) rfl (fun ls hl => ?_)
  refine lv_iconst (v := 1) hx hb dL_nudge_15 (by decide) ?_
  exact x_gI hx hb hr hlk hS hP hD (Nat.le_of_ble_eq_true rfl) (Nat.le_of_ble_eq_true rfl) dL_nudge_16
set_option maxRecDepth 100000 in
set_option maxHeartbeats 4000000 in
theorem w_nudge_c2 (l : Launch) (E : XE) (Z : XZ) (cL : ClassId) (w1 : va_W) (h o : Nat) (fs : List Value) (g : Nat → Int64) (rm : Room) (p1 p2 : Int32) (hM : xX l yX8_nudge wsX8_nudge rm E w1 [.ref h, .int p1, .int p2] "java/lang/IllegalArgumentException") (hrc : rm.cells = 1) (hrs : rm.slots = 6) (hfr : rm.frames + 1 ≤ 12) (hlo : 8 + (4 + 11) + rm.locals ≤ 450) (hq : w1[0]? = some (h, .inr (8, fs))) : xL l yL_nudge wsL_nudge { frames := 12, cells := 1, slots := 6, locals := 450 } E Z cL (w1 ++ [(o, .inl (cL, 1, .inr (.inl g)))]) [.ref h, .int p1, .int p2, .ref o] (.int 2) (w1 ++ [(o, .inl (cL, 1, .inr (.inl g)))]) := by
  refine xL.of (cc := cL_nudge) (maxL := 5) (ret := some .int) (hh := [(0, 10, 13, 28), (0, 10, 17, 13), (0, 10, 21, 65)]) (by decide +kernel) rfl (Nat.le_of_ble_eq_true rfl) ?_
  intro p e s m args below meth c ls A hMM hE hP hD hS hA hZ hThr hLg ht hl
  obtain ⟨hx, hb, hr, hml, hts, hown, hlk, -⟩ := hMM
  have hl : lv_has ls 5 [(0, .ref h), (1, .int p1), (2, .int p2), (3, .ref o)] := hl
  refine lv_aload_n hx hb dL_nudge_0 rfl (lv_at hl 3 rfl) ?_
  refine lv_iconst (v := 0) hx hb dL_nudge_1 (by decide) ?_
  refine lv_aload_n hx hb dL_nudge_2 rfl (lv_at hl 0 rfl) ?_
  refine lv_iload_n hx hb dL_nudge_3 rfl (lv_at hl 1 rfl) ?_
  refine lv_iload_n hx hb dL_nudge_4 rfl (lv_at hl 2 rfl) ?_
  refine x_gX [.int p1, .int p2] hM ⟨hx, hb, hml, hown, hts⟩ (cwV 2 hts gL_nudge_X8_nudge rfl hrc hrs hdX8_nudge ⟨hfr, hlo⟩) hE hThr hP hD (ci := 8) rfl rfl hq hl.1 rfl rfl (Nat.le_of_ble_eq_true rfl) dL_nudge_5 (Nat.le_of_ble_eq_true rfl) (Nat.le_of_ble_eq_true rfl) (fun q ce H1 hP hS hce hv hcl => ?_)
  refine vx_catch (own := RL) (name := "java/lang/IllegalArgumentException") (E := "java/lang/IllegalArgumentException") hown [(⟨0, 10, 13, 28⟩ : ExceptionTableEntry)] (⟨0, 10, 17, 13⟩ : ExceptionTableEntry) [(⟨0, 10, 21, 65⟩ : ExceptionTableEntry)] (ht.trans rfl) (List.forall_mem_cons.mpr ⟨Or.inr ⟨by decide, "java/lang/IndexOutOfBoundsException", hts _ (by decide +kernel), hLg.2.1⟩, (fun _ h => nomatch h)⟩) (by decide) (by decide) (hts _ (by decide +kernel)) (va_Nw.use (xCast_t (.castable "java/lang/IllegalArgumentException" "java/lang/IllegalArgumentException") (by decide +kernel)) (hThr.2.2.1 _ (by decide +kernel))) hce hv hcl ?_
  show W p l e _ s m args below meth c H1 [] (0 + 1) (0 + 6) _ (F0 m 17 ls [.ref q])
  refine lv_astore (lv' := [(4, .ref q), (0, .ref h), (1, .int p1), (2, .int p2), (3, .ref o)]) hx hb dL_nudge_17 hl (by decide) rfl (fun ls hl => ?_)
  refine lv_iconst (v := 2) hx hb dL_nudge_19 (by decide) ?_
  exact x_gI hx hb hr hlk hS hP hD (Nat.le_of_ble_eq_true rfl) (Nat.le_of_ble_eq_true rfl) dL_nudge_20
set_option maxRecDepth 100000 in
set_option maxHeartbeats 4000000 in
theorem w_nudge_c3 (l : Launch) (E : XE) (Z : XZ) (cL : ClassId) (w1 : va_W) (h o : Nat) (fs : List Value) (g : Nat → Int64) (rm : Room) (p1 p2 : Int32) (hM : xX l yX8_nudge wsX8_nudge rm E w1 [.ref h, .int p1, .int p2] "java/lang/IllegalStateException") (hrc : rm.cells = 1) (hrs : rm.slots = 6) (hfr : rm.frames + 1 ≤ 12) (hlo : 8 + (4 + 11) + rm.locals ≤ 450) (hq : w1[0]? = some (h, .inr (8, fs))) : xL l yL_nudge wsL_nudge { frames := 12, cells := 1, slots := 6, locals := 450 } E Z cL (w1 ++ [(o, .inl (cL, 1, .inr (.inl g)))]) [.ref h, .int p1, .int p2, .ref o] (.int 3) (w1 ++ [(o, .inl (cL, 1, .inr (.inl g)))]) := by
  refine xL.of (cc := cL_nudge) (maxL := 5) (ret := some .int) (hh := [(0, 10, 13, 28), (0, 10, 17, 13), (0, 10, 21, 65)]) (by decide +kernel) rfl (Nat.le_of_ble_eq_true rfl) ?_
  intro p e s m args below meth c ls A hMM hE hP hD hS hA hZ hThr hLg ht hl
  obtain ⟨hx, hb, hr, hml, hts, hown, hlk, -⟩ := hMM
  have hl : lv_has ls 5 [(0, .ref h), (1, .int p1), (2, .int p2), (3, .ref o)] := hl
  refine lv_aload_n hx hb dL_nudge_0 rfl (lv_at hl 3 rfl) ?_
  refine lv_iconst (v := 0) hx hb dL_nudge_1 (by decide) ?_
  refine lv_aload_n hx hb dL_nudge_2 rfl (lv_at hl 0 rfl) ?_
  refine lv_iload_n hx hb dL_nudge_3 rfl (lv_at hl 1 rfl) ?_
  refine lv_iload_n hx hb dL_nudge_4 rfl (lv_at hl 2 rfl) ?_
  refine x_gX [.int p1, .int p2] hM ⟨hx, hb, hml, hown, hts⟩ (cwV 2 hts gL_nudge_X8_nudge rfl hrc hrs hdX8_nudge ⟨hfr, hlo⟩) hE hThr hP hD (ci := 8) rfl rfl hq hl.1 rfl rfl (Nat.le_of_ble_eq_true rfl) dL_nudge_5 (Nat.le_of_ble_eq_true rfl) (Nat.le_of_ble_eq_true rfl) (fun q ce H1 hP hS hce hv hcl => ?_)
  refine vx_catch (own := RL) (name := "java/lang/IllegalStateException") (E := "java/lang/IllegalStateException") hown [(⟨0, 10, 13, 28⟩ : ExceptionTableEntry), (⟨0, 10, 17, 13⟩ : ExceptionTableEntry)] (⟨0, 10, 21, 65⟩ : ExceptionTableEntry) [] (ht.trans rfl) (List.forall_mem_cons.mpr ⟨Or.inr ⟨by decide, "java/lang/IndexOutOfBoundsException", hts _ (by decide +kernel), hLg.2.2.1⟩, (List.forall_mem_cons.mpr ⟨Or.inr ⟨by decide, "java/lang/IllegalArgumentException", hts _ (by decide +kernel), hLg.2.2.2⟩, (fun _ h => nomatch h)⟩)⟩) (by decide) (by decide) (hts _ (by decide +kernel)) (va_Nw.use (xCast_t (.castable "java/lang/IllegalStateException" "java/lang/IllegalStateException") (by decide +kernel)) (hThr.2.2.1 _ (by decide +kernel))) hce hv hcl ?_
  show W p l e _ s m args below meth c H1 [] (0 + 1) (0 + 6) _ (F0 m 21 ls [.ref q])
  refine lv_astore (lv' := [(4, .ref q), (0, .ref h), (1, .int p1), (2, .int p2), (3, .ref o)]) hx hb dL_nudge_21 hl (by decide) rfl (fun ls hl => ?_)
  refine lv_iconst (v := 3) hx hb dL_nudge_23 (by decide) ?_
  exact x_gI hx hb hr hlk hS hP hD (Nat.le_of_ble_eq_true rfl) (Nat.le_of_ble_eq_true rfl) dL_nudge_24
set_option maxRecDepth 100000 in
set_option maxHeartbeats 4000000 in
theorem w_setForce (l : Launch) (E : XE) (Z : XZ) (cL : ClassId) (w1 w1' : va_W) (h o : Nat) (fs : List Value) (g : Nat → Int64) (rm : Room) (p1 : Int32) (v : Int32) (hM : xA l yX8_setForce wsX8_setForce rm E Z w1 [.ref h, .int p1] (some (.int v)) w1' 0 0) (hrc : rm.cells = 0) (hrs : rm.slots = 0) (hfr : rm.frames + 1 ≤ 12) (hlo : 8 + (2 + 11) + rm.locals ≤ 450) (hq : w1[0]? = some (h, .inr (8, fs))) : xL l yL_setForce wsL_setForce { frames := 12, cells := 1, slots := 6, locals := 450 } E Z cL (w1 ++ [(o, .inl (cL, 1, .inr (.inl g)))]) [.ref h, .int p1, .ref o] (.int 0) (w1' ++ [(o, .inl (cL, 1, .inr (.inl (vp_updL g (Int32.toNatClampNeg 0) v.toInt64))))]) := by
  refine xL.of (cc := cL_setForce) (maxL := 4) (ret := some .int) (hh := [(0, 9, 12, 13)]) (by decide +kernel) rfl (Nat.le_of_ble_eq_true rfl) ?_
  intro p e s m args below meth c ls A hMM hE hP hD hS hA hZ hThr hLg ht hl
  obtain ⟨hx, hb, hr, hml, hts, hown, hlk, -⟩ := hMM
  have hl : lv_has ls 4 [(0, .ref h), (1, .int p1), (2, .ref o)] := hl
  refine lv_aload_n hx hb dL_setForce_0 rfl (lv_at hl 2 rfl) ?_
  refine lv_iconst (v := 0) hx hb dL_setForce_1 (by decide) ?_
  refine lv_aload_n hx hb dL_setForce_2 rfl (lv_at hl 0 rfl) ?_
  refine lv_iload_n hx hb dL_setForce_3 rfl (lv_at hl 1 rfl) ?_
  refine x_gV [.int p1] hM ⟨hx, hb, hml, hown, hts⟩ (cwV 1 hts gL_setForce_X8_setForce rfl hrc hrs hdX8_setForce ⟨hfr, hlo⟩) hZ hE hP hD hS hA (ci := 8) rfl rfl hq hl.1 rfl rfl (Nat.le_of_ble_eq_true rfl) dL_setForce_4 (Nat.le_of_ble_eq_true rfl) (Nat.le_of_ble_eq_true rfl) (fun H1 locs1 hP hD hS => ?_)
  refine lv_i2l hx hb dL_setForce_7 rfl ?_
  refine va_last (D := E.1) (cl := vwCl) (tys := [(cL, .long)]) hx hb hLg.1 hP hD hS w1'.length 0 (x_right (k := 0) rfl) rfl (x_lit (m := 1) (k := 0) (Nat.le_refl _) (by decide) (by decide)) dL_setForce_8 (fun H2 locs2 hP hD hS => ?_)
  rw [x_setR] at hP hD
  refine lv_goto (tgt := 15) hx hb dL_setForce_9 (by decide) ?_
  refine lv_iconst (v := 0) hx hb dL_setForce_15 (by decide) ?_
  exact x_gI hx hb hr hlk hS hP hD (Nat.le_of_ble_eq_true rfl) (Nat.le_of_ble_eq_true rfl) dL_setForce_16
set_option maxRecDepth 100000 in
set_option maxHeartbeats 4000000 in
theorem w_setForce_c1 (l : Launch) (E : XE) (Z : XZ) (cL : ClassId) (w1 : va_W) (h o : Nat) (fs : List Value) (g : Nat → Int64) (rm : Room) (p1 : Int32) (hM : xX l yX8_setForce wsX8_setForce rm E w1 [.ref h, .int p1] "java/lang/IllegalArgumentException") (hrc : rm.cells = 1) (hrs : rm.slots = 6) (hfr : rm.frames + 1 ≤ 12) (hlo : 8 + (2 + 11) + rm.locals ≤ 450) (hq : w1[0]? = some (h, .inr (8, fs))) : xL l yL_setForce wsL_setForce { frames := 12, cells := 1, slots := 6, locals := 450 } E Z cL (w1 ++ [(o, .inl (cL, 1, .inr (.inl g)))]) [.ref h, .int p1, .ref o] (.int 1) (w1 ++ [(o, .inl (cL, 1, .inr (.inl g)))]) := by
  refine xL.of (cc := cL_setForce) (maxL := 4) (ret := some .int) (hh := [(0, 9, 12, 13)]) (by decide +kernel) rfl (Nat.le_of_ble_eq_true rfl) ?_
  intro p e s m args below meth c ls A hMM hE hP hD hS hA hZ hThr hLg ht hl
  obtain ⟨hx, hb, hr, hml, hts, hown, hlk, -⟩ := hMM
  have hl : lv_has ls 4 [(0, .ref h), (1, .int p1), (2, .ref o)] := hl
  refine lv_aload_n hx hb dL_setForce_0 rfl (lv_at hl 2 rfl) ?_
  refine lv_iconst (v := 0) hx hb dL_setForce_1 (by decide) ?_
  refine lv_aload_n hx hb dL_setForce_2 rfl (lv_at hl 0 rfl) ?_
  refine lv_iload_n hx hb dL_setForce_3 rfl (lv_at hl 1 rfl) ?_
  refine x_gX [.int p1] hM ⟨hx, hb, hml, hown, hts⟩ (cwV 1 hts gL_setForce_X8_setForce rfl hrc hrs hdX8_setForce ⟨hfr, hlo⟩) hE hThr hP hD (ci := 8) rfl rfl hq hl.1 rfl rfl (Nat.le_of_ble_eq_true rfl) dL_setForce_4 (Nat.le_of_ble_eq_true rfl) (Nat.le_of_ble_eq_true rfl) (fun q ce H1 hP hS hce hv hcl => ?_)
  refine vx_catch (own := RL) (name := "java/lang/IllegalArgumentException") (E := "java/lang/IllegalArgumentException") hown [] (⟨0, 9, 12, 13⟩ : ExceptionTableEntry) [] (ht.trans rfl) (fun _ h => nomatch h) (by decide) (by decide) (hts _ (by decide +kernel)) (va_Nw.use (xCast_t (.castable "java/lang/IllegalArgumentException" "java/lang/IllegalArgumentException") (by decide +kernel)) (hThr.2.2.1 _ (by decide +kernel))) hce hv hcl ?_
  show W p l e _ s m args below meth c H1 [] (0 + 1) (0 + 6) _ (F0 m 12 ls [.ref q])
  refine lv_astore_n (lv' := [(3, .ref q), (0, .ref h), (1, .int p1), (2, .ref o)]) hx hb dL_setForce_12 rfl hl (by decide) rfl (fun ls hl => ?_)
  refine lv_iconst (v := 1) hx hb dL_setForce_13 (by decide) ?_
  exact x_gI hx hb hr hlk hS hP hD (Nat.le_of_ble_eq_true rfl) (Nat.le_of_ble_eq_true rfl) dL_setForce_14
set_option maxRecDepth 100000 in
set_option maxHeartbeats 4000000 in
theorem w_saveSnapshot (l : Launch) (E : XE) (Z : XZ) (cL : ClassId) (w1 w1' : va_W) (h o : Nat) (fs : List Value) (g : Nat → Int64) (rm : Room) (p1 : Int32) (v : Int32) (hM : xA l yX8_saveSnapshot wsX8_saveSnapshot rm E Z w1 [.ref h, .int p1] (some (.int v)) w1' 0 0) (hrc : rm.cells = 0) (hrs : rm.slots = 0) (hfr : rm.frames + 1 ≤ 12) (hlo : 8 + (4 + 11) + rm.locals ≤ 450) (hq : w1[0]? = some (h, .inr (8, fs))) : xL l yL_saveSnapshot wsL_saveSnapshot { frames := 12, cells := 1, slots := 6, locals := 450 } E Z cL (w1 ++ [(o, .inl (cL, 1, .inr (.inl g)))]) [.ref h, .int p1, .ref o] (.int 0) (w1' ++ [(o, .inl (cL, 1, .inr (.inl (vp_updL g (Int32.toNatClampNeg 0) (if v = 0 then 0 else 1)))))]) := by
  refine xL.of (cc := cL_saveSnapshot) (maxL := 4) (ret := some .int) (hh := [(0, 16, 19, 28)]) (by decide +kernel) rfl (Nat.le_of_ble_eq_true rfl) ?_
  intro p e s m args below meth c ls A hMM hE hP hD hS hA hZ hThr hLg ht hl
  obtain ⟨hx, hb, hr, hml, hts, hown, hlk, -⟩ := hMM
  have hl : lv_has ls 4 [(0, .ref h), (1, .int p1), (2, .ref o)] := hl
  refine lv_aload_n hx hb dL_saveSnapshot_0 rfl (lv_at hl 2 rfl) ?_
  refine lv_iconst (v := 0) hx hb dL_saveSnapshot_1 (by decide) ?_
  refine lv_aload_n hx hb dL_saveSnapshot_2 rfl (lv_at hl 0 rfl) ?_
  refine lv_iload_n hx hb dL_saveSnapshot_3 rfl (lv_at hl 1 rfl) ?_
  refine x_gV [.int p1] hM ⟨hx, hb, hml, hown, hts⟩ (cwV 1 hts gL_saveSnapshot_X8_saveSnapshot rfl hrc hrs hdX8_saveSnapshot ⟨hfr, hlo⟩) hZ hE hP hD hS hA (ci := 8) rfl rfl hq hl.1 rfl rfl (Nat.le_of_ble_eq_true rfl) dL_saveSnapshot_4 (Nat.le_of_ble_eq_true rfl) (Nat.le_of_ble_eq_true rfl) (fun H1 locs1 hP hD hS => ?_)
  refine lv_if_eq (tgt := 14) hx hb dL_saveSnapshot_7 (by decide) (fun z => ?_) (fun z => ?_)
  · rw [if_pos z]
    refine lv_lconst (v := 0) hx hb dL_saveSnapshot_14 (by decide) ?_
    refine va_last (D := E.1) (cl := vwCl) (tys := [(cL, .long)]) hx hb hLg.1 hP hD hS w1'.length 0 (x_right (k := 0) rfl) rfl (x_lit (m := 1) (k := 0) (Nat.le_refl _) (by decide) (by decide)) dL_saveSnapshot_15 (fun H2 locs2 hP hD hS => ?_)
    rw [x_setR] at hP hD
    refine lv_goto (tgt := 22) hx hb dL_saveSnapshot_16 (by decide) ?_
    refine lv_iconst (v := 0) hx hb dL_saveSnapshot_22 (by decide) ?_
    exact x_gI hx hb hr hlk hS hP hD (Nat.le_of_ble_eq_true rfl) (Nat.le_of_ble_eq_true rfl) dL_saveSnapshot_23
  · rw [if_neg z]
    refine lv_lconst (v := 1) hx hb dL_saveSnapshot_10 (by decide) ?_
    refine lv_goto (tgt := 15) hx hb dL_saveSnapshot_11 (by decide) ?_
    refine va_last (D := E.1) (cl := vwCl) (tys := [(cL, .long)]) hx hb hLg.1 hP hD hS w1'.length 0 (x_right (k := 0) rfl) rfl (x_lit (m := 1) (k := 0) (Nat.le_refl _) (by decide) (by decide)) dL_saveSnapshot_15 (fun H2 locs2 hP hD hS => ?_)
    rw [x_setR] at hP hD
    refine lv_goto (tgt := 22) hx hb dL_saveSnapshot_16 (by decide) ?_
    refine lv_iconst (v := 0) hx hb dL_saveSnapshot_22 (by decide) ?_
    exact x_gI hx hb hr hlk hS hP hD (Nat.le_of_ble_eq_true rfl) (Nat.le_of_ble_eq_true rfl) dL_saveSnapshot_23
set_option maxRecDepth 100000 in
set_option maxHeartbeats 4000000 in
theorem w_saveSnapshot_c1 (l : Launch) (E : XE) (Z : XZ) (cL : ClassId) (w1 : va_W) (h o : Nat) (fs : List Value) (g : Nat → Int64) (rm : Room) (p1 : Int32) (hM : xX l yX8_saveSnapshot wsX8_saveSnapshot rm E w1 [.ref h, .int p1] "java/lang/IndexOutOfBoundsException") (hrc : rm.cells = 1) (hrs : rm.slots = 6) (hfr : rm.frames + 1 ≤ 12) (hlo : 8 + (4 + 11) + rm.locals ≤ 450) (hq : w1[0]? = some (h, .inr (8, fs))) : xL l yL_saveSnapshot wsL_saveSnapshot { frames := 12, cells := 1, slots := 6, locals := 450 } E Z cL (w1 ++ [(o, .inl (cL, 1, .inr (.inl g)))]) [.ref h, .int p1, .ref o] (.int 1) (w1 ++ [(o, .inl (cL, 1, .inr (.inl g)))]) := by
  refine xL.of (cc := cL_saveSnapshot) (maxL := 4) (ret := some .int) (hh := [(0, 16, 19, 28)]) (by decide +kernel) rfl (Nat.le_of_ble_eq_true rfl) ?_
  intro p e s m args below meth c ls A hMM hE hP hD hS hA hZ hThr hLg ht hl
  obtain ⟨hx, hb, hr, hml, hts, hown, hlk, -⟩ := hMM
  have hl : lv_has ls 4 [(0, .ref h), (1, .int p1), (2, .ref o)] := hl
  refine lv_aload_n hx hb dL_saveSnapshot_0 rfl (lv_at hl 2 rfl) ?_
  refine lv_iconst (v := 0) hx hb dL_saveSnapshot_1 (by decide) ?_
  refine lv_aload_n hx hb dL_saveSnapshot_2 rfl (lv_at hl 0 rfl) ?_
  refine lv_iload_n hx hb dL_saveSnapshot_3 rfl (lv_at hl 1 rfl) ?_
  refine x_gX [.int p1] hM ⟨hx, hb, hml, hown, hts⟩ (cwV 1 hts gL_saveSnapshot_X8_saveSnapshot rfl hrc hrs hdX8_saveSnapshot ⟨hfr, hlo⟩) hE hThr hP hD (ci := 8) rfl rfl hq hl.1 rfl rfl (Nat.le_of_ble_eq_true rfl) dL_saveSnapshot_4 (Nat.le_of_ble_eq_true rfl) (Nat.le_of_ble_eq_true rfl) (fun q ce H1 hP hS hce hv hcl => ?_)
  refine vx_catch (own := RL) (name := "java/lang/IndexOutOfBoundsException") (E := "java/lang/IndexOutOfBoundsException") hown [] (⟨0, 16, 19, 28⟩ : ExceptionTableEntry) [] (ht.trans rfl) (fun _ h => nomatch h) (by decide) (by decide) (hts _ (by decide +kernel)) (va_Nw.use (xCast_t (.castable "java/lang/IndexOutOfBoundsException" "java/lang/IndexOutOfBoundsException") (by decide +kernel)) (hThr.2.2.1 _ (by decide +kernel))) hce hv hcl ?_
  show W p l e _ s m args below meth c H1 [] (0 + 1) (0 + 6) _ (F0 m 19 ls [.ref q])
  refine lv_astore_n (lv' := [(3, .ref q), (0, .ref h), (1, .int p1), (2, .ref o)]) hx hb dL_saveSnapshot_19 rfl hl (by decide) rfl (fun ls hl => ?_)
  refine lv_iconst (v := 1) hx hb dL_saveSnapshot_20 (by decide) ?_
  exact x_gI hx hb hr hlk hS hP hD (Nat.le_of_ble_eq_true rfl) (Nat.le_of_ble_eq_true rfl) dL_saveSnapshot_21
set_option maxRecDepth 100000 in
set_option maxHeartbeats 4000000 in
theorem w_restoreSnapshot (l : Launch) (E : XE) (Z : XZ) (cL : ClassId) (w1 w1' : va_W) (h o : Nat) (fs : List Value) (g : Nat → Int64) (rm : Room) (p1 : Int32) (v : Int32) (hM : xA l yX8_restoreSnapshot wsX8_restoreSnapshot rm E Z w1 [.ref h, .int p1] (some (.int v)) w1' 0 0) (hrc : rm.cells = 0) (hrs : rm.slots = 0) (hfr : rm.frames + 1 ≤ 12) (hlo : 8 + (3 + 11) + rm.locals ≤ 450) (hq : w1[0]? = some (h, .inr (8, fs))) : xL l yL_restoreSnapshot wsL_restoreSnapshot { frames := 12, cells := 1, slots := 6, locals := 450 } E Z cL (w1 ++ [(o, .inl (cL, 1, .inr (.inl g)))]) [.ref h, .int p1, .ref o] (.int 0) (w1' ++ [(o, .inl (cL, 1, .inr (.inl (vp_updL g (Int32.toNatClampNeg 0) v.toInt64))))]) := by
  refine xL.of (cc := cL_restoreSnapshot) (maxL := 4) (ret := some .int) (hh := [(0, 9, 12, 28), (0, 9, 15, 65)]) (by decide +kernel) rfl (Nat.le_of_ble_eq_true rfl) ?_
  intro p e s m args below meth c ls A hMM hE hP hD hS hA hZ hThr hLg ht hl
  obtain ⟨hx, hb, hr, hml, hts, hown, hlk, -⟩ := hMM
  have hl : lv_has ls 4 [(0, .ref h), (1, .int p1), (2, .ref o)] := hl
  refine lv_aload_n hx hb dL_restoreSnapshot_0 rfl (lv_at hl 2 rfl) ?_
  refine lv_iconst (v := 0) hx hb dL_restoreSnapshot_1 (by decide) ?_
  refine lv_aload_n hx hb dL_restoreSnapshot_2 rfl (lv_at hl 0 rfl) ?_
  refine lv_iload_n hx hb dL_restoreSnapshot_3 rfl (lv_at hl 1 rfl) ?_
  refine x_gV [.int p1] hM ⟨hx, hb, hml, hown, hts⟩ (cwV 1 hts gL_restoreSnapshot_X8_restoreSnapshot rfl hrc hrs hdX8_restoreSnapshot ⟨hfr, hlo⟩) hZ hE hP hD hS hA (ci := 8) rfl rfl hq hl.1 rfl rfl (Nat.le_of_ble_eq_true rfl) dL_restoreSnapshot_4 (Nat.le_of_ble_eq_true rfl) (Nat.le_of_ble_eq_true rfl) (fun H1 locs1 hP hD hS => ?_)
  refine lv_i2l hx hb dL_restoreSnapshot_7 rfl ?_
  refine va_last (D := E.1) (cl := vwCl) (tys := [(cL, .long)]) hx hb hLg.1 hP hD hS w1'.length 0 (x_right (k := 0) rfl) rfl (x_lit (m := 1) (k := 0) (Nat.le_refl _) (by decide) (by decide)) dL_restoreSnapshot_8 (fun H2 locs2 hP hD hS => ?_)
  rw [x_setR] at hP hD
  refine lv_goto (tgt := 18) hx hb dL_restoreSnapshot_9 (by decide) ?_
  refine lv_iconst (v := 0) hx hb dL_restoreSnapshot_18 (by decide) ?_
  exact x_gI hx hb hr hlk hS hP hD (Nat.le_of_ble_eq_true rfl) (Nat.le_of_ble_eq_true rfl) dL_restoreSnapshot_19
set_option maxRecDepth 100000 in
set_option maxHeartbeats 4000000 in
theorem w_restoreSnapshot_c1 (l : Launch) (E : XE) (Z : XZ) (cL : ClassId) (w1 : va_W) (h o : Nat) (fs : List Value) (g : Nat → Int64) (rm : Room) (p1 : Int32) (hM : xX l yX8_restoreSnapshot wsX8_restoreSnapshot rm E w1 [.ref h, .int p1] "java/lang/IndexOutOfBoundsException") (hrc : rm.cells = 1) (hrs : rm.slots = 6) (hfr : rm.frames + 1 ≤ 12) (hlo : 8 + (3 + 11) + rm.locals ≤ 450) (hq : w1[0]? = some (h, .inr (8, fs))) : xL l yL_restoreSnapshot wsL_restoreSnapshot { frames := 12, cells := 1, slots := 6, locals := 450 } E Z cL (w1 ++ [(o, .inl (cL, 1, .inr (.inl g)))]) [.ref h, .int p1, .ref o] (.int 1) (w1 ++ [(o, .inl (cL, 1, .inr (.inl g)))]) := by
  refine xL.of (cc := cL_restoreSnapshot) (maxL := 4) (ret := some .int) (hh := [(0, 9, 12, 28), (0, 9, 15, 65)]) (by decide +kernel) rfl (Nat.le_of_ble_eq_true rfl) ?_
  intro p e s m args below meth c ls A hMM hE hP hD hS hA hZ hThr hLg ht hl
  obtain ⟨hx, hb, hr, hml, hts, hown, hlk, -⟩ := hMM
  have hl : lv_has ls 4 [(0, .ref h), (1, .int p1), (2, .ref o)] := hl
  refine lv_aload_n hx hb dL_restoreSnapshot_0 rfl (lv_at hl 2 rfl) ?_
  refine lv_iconst (v := 0) hx hb dL_restoreSnapshot_1 (by decide) ?_
  refine lv_aload_n hx hb dL_restoreSnapshot_2 rfl (lv_at hl 0 rfl) ?_
  refine lv_iload_n hx hb dL_restoreSnapshot_3 rfl (lv_at hl 1 rfl) ?_
  refine x_gX [.int p1] hM ⟨hx, hb, hml, hown, hts⟩ (cwV 1 hts gL_restoreSnapshot_X8_restoreSnapshot rfl hrc hrs hdX8_restoreSnapshot ⟨hfr, hlo⟩) hE hThr hP hD (ci := 8) rfl rfl hq hl.1 rfl rfl (Nat.le_of_ble_eq_true rfl) dL_restoreSnapshot_4 (Nat.le_of_ble_eq_true rfl) (Nat.le_of_ble_eq_true rfl) (fun q ce H1 hP hS hce hv hcl => ?_)
  refine vx_catch (own := RL) (name := "java/lang/IndexOutOfBoundsException") (E := "java/lang/IndexOutOfBoundsException") hown [] (⟨0, 9, 12, 28⟩ : ExceptionTableEntry) [(⟨0, 9, 15, 65⟩ : ExceptionTableEntry)] (ht.trans rfl) (fun _ h => nomatch h) (by decide) (by decide) (hts _ (by decide +kernel)) (va_Nw.use (xCast_t (.castable "java/lang/IndexOutOfBoundsException" "java/lang/IndexOutOfBoundsException") (by decide +kernel)) (hThr.2.2.1 _ (by decide +kernel))) hce hv hcl ?_
  show W p l e _ s m args below meth c H1 [] (0 + 1) (0 + 6) _ (F0 m 12 ls [.ref q])
  refine lv_astore_n (lv' := [(3, .ref q), (0, .ref h), (1, .int p1), (2, .ref o)]) hx hb dL_restoreSnapshot_12 rfl hl (by decide) rfl (fun ls hl => ?_)
  refine lv_iconst (v := 1) hx hb dL_restoreSnapshot_13 (by decide) ?_
  exact x_gI hx hb hr hlk hS hP hD (Nat.le_of_ble_eq_true rfl) (Nat.le_of_ble_eq_true rfl) dL_restoreSnapshot_14
set_option maxRecDepth 100000 in
set_option maxHeartbeats 4000000 in
theorem w_restoreSnapshot_c2 (l : Launch) (E : XE) (Z : XZ) (cL : ClassId) (w1 : va_W) (h o : Nat) (fs : List Value) (g : Nat → Int64) (rm : Room) (p1 : Int32) (hM : xX l yX8_restoreSnapshot wsX8_restoreSnapshot rm E w1 [.ref h, .int p1] "java/lang/IllegalStateException") (hrc : rm.cells = 1) (hrs : rm.slots = 6) (hfr : rm.frames + 1 ≤ 12) (hlo : 8 + (3 + 11) + rm.locals ≤ 450) (hq : w1[0]? = some (h, .inr (8, fs))) : xL l yL_restoreSnapshot wsL_restoreSnapshot { frames := 12, cells := 1, slots := 6, locals := 450 } E Z cL (w1 ++ [(o, .inl (cL, 1, .inr (.inl g)))]) [.ref h, .int p1, .ref o] (.int 2) (w1 ++ [(o, .inl (cL, 1, .inr (.inl g)))]) := by
  refine xL.of (cc := cL_restoreSnapshot) (maxL := 4) (ret := some .int) (hh := [(0, 9, 12, 28), (0, 9, 15, 65)]) (by decide +kernel) rfl (Nat.le_of_ble_eq_true rfl) ?_
  intro p e s m args below meth c ls A hMM hE hP hD hS hA hZ hThr hLg ht hl
  obtain ⟨hx, hb, hr, hml, hts, hown, hlk, -⟩ := hMM
  have hl : lv_has ls 4 [(0, .ref h), (1, .int p1), (2, .ref o)] := hl
  refine lv_aload_n hx hb dL_restoreSnapshot_0 rfl (lv_at hl 2 rfl) ?_
  refine lv_iconst (v := 0) hx hb dL_restoreSnapshot_1 (by decide) ?_
  refine lv_aload_n hx hb dL_restoreSnapshot_2 rfl (lv_at hl 0 rfl) ?_
  refine lv_iload_n hx hb dL_restoreSnapshot_3 rfl (lv_at hl 1 rfl) ?_
  refine x_gX [.int p1] hM ⟨hx, hb, hml, hown, hts⟩ (cwV 1 hts gL_restoreSnapshot_X8_restoreSnapshot rfl hrc hrs hdX8_restoreSnapshot ⟨hfr, hlo⟩) hE hThr hP hD (ci := 8) rfl rfl hq hl.1 rfl rfl (Nat.le_of_ble_eq_true rfl) dL_restoreSnapshot_4 (Nat.le_of_ble_eq_true rfl) (Nat.le_of_ble_eq_true rfl) (fun q ce H1 hP hS hce hv hcl => ?_)
  refine vx_catch (own := RL) (name := "java/lang/IllegalStateException") (E := "java/lang/IllegalStateException") hown [(⟨0, 9, 12, 28⟩ : ExceptionTableEntry)] (⟨0, 9, 15, 65⟩ : ExceptionTableEntry) [] (ht.trans rfl) (List.forall_mem_cons.mpr ⟨Or.inr ⟨by decide, "java/lang/IndexOutOfBoundsException", hts _ (by decide +kernel), hLg.2.2.1⟩, (fun _ h => nomatch h)⟩) (by decide) (by decide) (hts _ (by decide +kernel)) (va_Nw.use (xCast_t (.castable "java/lang/IllegalStateException" "java/lang/IllegalStateException") (by decide +kernel)) (hThr.2.2.1 _ (by decide +kernel))) hce hv hcl ?_
  show W p l e _ s m args below meth c H1 [] (0 + 1) (0 + 6) _ (F0 m 15 ls [.ref q])
  refine lv_astore_n (lv' := [(3, .ref q), (0, .ref h), (1, .int p1), (2, .ref o)]) hx hb dL_restoreSnapshot_15 rfl hl (by decide) rfl (fun ls hl => ?_)
  refine lv_iconst (v := 2) hx hb dL_restoreSnapshot_16 (by decide) ?_
  exact x_gI hx hb hr hlk hS hP hD (Nat.le_of_ble_eq_true rfl) (Nat.le_of_ble_eq_true rfl) dL_restoreSnapshot_17
