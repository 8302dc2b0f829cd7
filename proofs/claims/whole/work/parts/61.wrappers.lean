/-! x -/
set_option maxRecDepth 100000 in
set_option maxHeartbeats 4000000 in
theorem w_sine (l : Launch) (E : XE) (Z : XZ) (cL : ClassId) (w1 w1' : va_W) (h o : Nat) (fs : List Value) (g : Nat → Int64) (rm : Room) (p1 : Int32) (v : Int32) (hM : xA l yX8_sine wsX8_sine rm E Z w1 [.ref h, .int p1] (some (.int v)) w1' 0 0) (hrc : rm.cells = 0) (hrs : rm.slots = 0) (hfr : rm.frames + 1 ≤ 12) (hlo : 8 + (2 + 11) + rm.locals ≤ 450) (hq : w1[0]? = some (h, .inr (8, fs))) : xL l yL_sine wsL_sine { frames := 12, cells := 1, slots := 6, locals := 450 } E Z cL (w1 ++ [(o, .inl (cL, 1, .inr (.inl g)))]) [.ref h, .int p1, .ref o] (.int 0) (w1' ++ [(o, .inl (cL, 1, .inr (.inl (vp_updL g (Int32.toNatClampNeg 0) v.toInt64))))]) := by
  refine xL.of (cc := cL_sine) (maxL := 4) (ret := some .int) (hh := [(0, 9, 12, 13)]) (by decide +kernel) rfl (Nat.le_of_ble_eq_true rfl) ?_
  intro p e s m args below meth c ls A hMM hE hP hD hS hA hZ hThr hLg ht hl
  obtain ⟨hx, hb, hr, hml, hts, hown, hlk, -⟩ := hMM
  have hl : lv_has ls 4 [(0, .ref h), (1, .int p1), (2, .ref o)] := hl
  refine lv_aload_n hx hb dL_sine_0 rfl (lv_at hl 2 rfl) ?_
  refine lv_iconst (v := 0) hx hb dL_sine_1 (by decide) ?_
  refine lv_aload_n hx hb dL_sine_2 rfl (lv_at hl 0 rfl) ?_
  refine lv_iload_n hx hb dL_sine_3 rfl (lv_at hl 1 rfl) ?_
  refine x_gV [.int p1] hM ⟨hx, hb, hml, hown, hts⟩ (cwV 1 hts gL_sine_X8_sine rfl hrc hrs hdX8_sine ⟨hfr, hlo⟩) hZ hE hP hD hS hA (ci := 8) rfl rfl hq hl.1 rfl rfl (Nat.le_of_ble_eq_true rfl) dL_sine_4 (Nat.le_of_ble_eq_true rfl) (Nat.le_of_ble_eq_true rfl) (fun H1 locs1 hP hD hS => ?_)
  refine lv_i2l hx hb dL_sine_7 rfl ?_
  refine va_last (D := E.1) (cl := vwCl) (tys := [(cL, .long)]) hx hb hLg.1 hP hD hS w1'.length 0 (x_right (k := 0) rfl) rfl (x_lit (m := 1) (k := 0) (Nat.le_refl _) (by decide) (by decide)) dL_sine_8 (fun H2 locs2 hP hD hS => ?_)
  rw [x_setR] at hP hD
  refine lv_goto (tgt := 15) hx hb dL_sine_9 (by decide) ?_
  refine lv_iconst (v := 0) hx hb dL_sine_15 (by decide) ?_
  exact x_gI hx hb hr hlk hS hP hD (Nat.le_of_ble_eq_true rfl) (Nat.le_of_ble_eq_true rfl) dL_sine_16
set_option maxRecDepth 100000 in
set_option maxHeartbeats 4000000 in
theorem w_sine_c1 (l : Launch) (E : XE) (Z : XZ) (cL : ClassId) (w1 : va_W) (h o : Nat) (fs : List Value) (g : Nat → Int64) (rm : Room) (p1 : Int32) (hM : xX l yX8_sine wsX8_sine rm E w1 [.ref h, .int p1] "java/lang/IllegalArgumentException") (hrc : rm.cells = 1) (hrs : rm.slots = 6) (hfr : rm.frames + 1 ≤ 12) (hlo : 8 + (2 + 11) + rm.locals ≤ 450) (hq : w1[0]? = some (h, .inr (8, fs))) : xL l yL_sine wsL_sine { frames := 12, cells := 1, slots := 6, locals := 450 } E Z cL (w1 ++ [(o, .inl (cL, 1, .inr (.inl g)))]) [.ref h, .int p1, .ref o] (.int 1) (w1 ++ [(o, .inl (cL, 1, .inr (.inl g)))]) := by
  refine xL.of (cc := cL_sine) (maxL := 4) (ret := some .int) (hh := [(0, 9, 12, 13)]) (by decide +kernel) rfl (Nat.le_of_ble_eq_true rfl) ?_
  intro p e s m args below meth c ls A hMM hE hP hD hS hA hZ hThr hLg ht hl
  obtain ⟨hx, hb, hr, hml, hts, hown, hlk, -⟩ := hMM
  have hl : lv_has ls 4 [(0, .ref h), (1, .int p1), (2, .ref o)] := hl
  refine lv_aload_n hx hb dL_sine_0 rfl (lv_at hl 2 rfl) ?_
  refine lv_iconst (v := 0) hx hb dL_sine_1 (by decide) ?_
  refine lv_aload_n hx hb dL_sine_2 rfl (lv_at hl 0 rfl) ?_
  refine lv_iload_n hx hb dL_sine_3 rfl (lv_at hl 1 rfl) ?_
  refine x_gX [.int p1] hM ⟨hx, hb, hml, hown, hts⟩ (cwV 1 hts gL_sine_X8_sine rfl hrc hrs hdX8_sine ⟨hfr, hlo⟩) hE hThr hP hD (ci := 8) rfl rfl hq hl.1 rfl rfl (Nat.le_of_ble_eq_true rfl) dL_sine_4 (Nat.le_of_ble_eq_true rfl) (Nat.le_of_ble_eq_true rfl) (fun q ce H1 hP hS hce hv hcl => ?_)
  refine vx_catch (own := RL) (name := "java/lang/IllegalArgumentException") (E := "java/lang/IllegalArgumentException") hown [] (⟨0, 9, 12, 13⟩ : ExceptionTableEntry) [] (ht.trans rfl) (fun _ h => nomatch h) (by decide) (by decide) (hts _ (by decide +kernel)) (va_Nw.use (xCast_t (.castable "java/lang/IllegalArgumentException" "java/lang/IllegalArgumentException") (by decide +kernel)) (hThr.2.2.1 _ (by decide +kernel))) hce hv hcl ?_
  show W p l e _ s m args below meth c H1 [] (0 + 1) (0 + 6) _ (F0 m 12 ls [.ref q])
  refine lv_astore_n (lv' := [(3, .ref q), (0, .ref h), (1, .int p1), (2, .ref o)]) hx hb dL_sine_12 rfl hl (by decide) rfl (fun ls hl => ?_)
  refine lv_iconst (v := 1) hx hb dL_sine_13 (by decide) ?_
  exact x_gI hx hb hr hlk hS hP hD (Nat.le_of_ble_eq_true rfl) (Nat.le_of_ble_eq_true rfl) dL_sine_14
set_option maxRecDepth 100000 in
set_option maxHeartbeats 4000000 in
theorem w_nudge (l : Launch) (E : XE) (Z : XZ) (cL : ClassId) (w1 w1' : va_W) (h o : Nat) (fs : List Value) (g : Nat → Int64) (rm : Room) (p1 p2 : Int32) (v : Int32) (hM : xA l yX8_nudge wsX8_nudge rm E Z w1 [.ref h, .int p1, .int p2] (some (.int v)) w1' 0 0) (hrc : rm.cells = 0) (hrs : rm.slots = 0) (hfr : rm.frames + 1 ≤ 12) (hlo : 8 + (4 + 11) + rm.locals ≤ 450) (hq : w1[0]? = some (h, .inr (8, fs))) : xL l yL_nudge wsL_nudge { frames := 12, cells := 1, slots := 6, locals := 450 } E Z cL (w1 ++ [(o, .inl (cL, 1, .inr (.inl g)))]) [.ref h, .int p1, .int p2, .ref o] (.int 0) (w1' ++ [(o, .inl (cL, 1, .inr (.inl (vp_updL g (Int32.toNatClampNeg 0) v.toInt64))))]) := by
  refine xL.of (cc := cL_nudge) (maxL := 5) (ret := some .int) (hh := [(0, 10, 13, 28), (0, 10, 17, 13), (0, 10, 21, 65)]) (by decide +kernel) rfl (Nat.le_of_ble_eq_true rfl) ?_
  intro p e s m args below meth c ls A hMM hE hP hD hS hA hZ hThr hLg ht hl
  obtain ⟨hx, hb, hr, hml, hts, hown, hlk, -⟩ := hMM
  have hl : lv_has ls 5 [(0, .ref h), (1, .int p1), (2, .int p2), (3, .ref o)] := hl
  refine lv_aload_n hx hb dL_nudge_0 rfl (lv_at hl 3 rfl) ?_
  refine lv_iconst (v := 0) hx hb dL_nudge_1 (by decide) ?_
  refine lv_aload_n hx hb dL_nudge_2 rfl (lv_at hl 0 rfl) ?_
  refine lv_iload_n hx hb dL_nudge_3 rfl (lv_at hl 1 rfl) ?_
  refine lv_iload_n hx hb dL_nudge_4 rfl (lv_at hl 2 rfl) ?_
  refine x_gV [.int p1, .int p2] hM ⟨hx, hb, hml, hown, hts⟩ (cwV 2 hts gL_nudge_X8_nudge rfl hrc hrs hdX8_nudge ⟨hfr, hlo⟩) hZ hE hP hD hS hA (ci := 8) rfl rfl hq hl.1 rfl rfl (Nat.le_of_ble_eq_true rfl) dL_nudge_5 (Nat.le_of_ble_eq_true rfl) (Nat.le_of_ble_eq_true rfl) (fun H1 locs1 hP hD hS => ?_)
  refine lv_i2l hx hb dL_nudge_8 rfl ?_
  refine va_last (D := E.1) (cl := vwCl) (tys := [(cL, .long)]) hx hb hLg.1 hP hD hS w1'.length 0 (x_right (k := 0) rfl) rfl (x_lit (m := 1) (k := 0) (Nat.le_refl _) (by decide) (by decide)) dL_nudge_9 (fun H2 locs2 hP hD hS => ?_)
  rw [x_setR] at hP hD
  refine lv_goto (tgt := 25) hx hb dL_nudge_10 (by decide) ?_
  refine lv_iconst (v := 0) hx hb dL_nudge_25 (by decide) ?_
  exact x_gI hx hb hr hlk hS hP hD (Nat.le_of_ble_eq_true rfl) (Nat.le_of_ble_eq_true rfl) dL_nudge_26
set_option maxRecDepth 100000 in
set_option maxHeartbeats 4000000 in
theorem w_nudge_c1 (l : Launch) (E : XE) (Z : XZ) (cL : ClassId) (w1 : va_W) (h o : Nat) (fs : List Value) (g : Nat → Int64) (rm : Room) (p1 p2 : Int32) (hM : xX l yX8_nudge wsX8_nudge rm E w1 [.ref h, .int p1, .int p2] "java/lang/IndexOutOfBoundsException") (hrc : rm.cells = 1) (hrs : rm.slots = 6) (hfr : rm.frames + 1 ≤ 12) (hlo : 8 + (4 + 11) + rm.locals ≤ 450) (hq : w1[0]? = some (h, .inr (8, fs))) : xL l yL_nudge wsL_nudge { frames := 12, cells := 1, slots := 6, locals := 450 } E Z cL (w1 ++ [(o, .inl (cL, 1, .inr (.inl g)))]) [.ref h, .int p1, .int p2, .ref o] (.int 1) (w1 ++ [(o, .inl (cL, 1, .inr (.inl g)))]) := by
  refine xL.of (cc := cL_nudge) (maxL := 5) (ret := some .int) (hh := [(0, 10, 13, 28), (0, 10, 17, 13), (0, 10, 21, 65)]) (by decide +kernel) rfl (Nat.le_of_ble_eq_true rfl) ?_
  intro p e s m args below meth c ls A hMM hE hP hD hS hA hZ hThr hLg ht hl
  obtain ⟨hx, hb, hr, hml, hts, hown, hlk, -⟩ := hMM
  have hl : lv_has ls 5 [(0, .ref h), (1, .int p1), (2, .int p2), (3, .ref o)] := hl
  refine lv_aload_n hx hb dL_nudge_0 rfl (lv_at hl 3 rfl) ?_
  refine lv_iconst (v := 0) hx hb dL_nudge_1 (by decide) ?_
  refine lv_aload_n hx hb dL_nudge_2 rfl (lv_at hl 0 rfl) ?_
  refine lv_iload_n hx hb dL_nudge_3 rfl (lv_at hl 1 rfl) ?_
  refine lv_iload_n hx hb dL_nudge_4 rfl (lv_at hl 2 rfl) ?_
  refine x_gX [.int p1, .int p2] hM ⟨hx, hb, hml, hown, hts⟩ (cwV 2 hts gL_nudge_X8_nudge rfl hrc hrs hdX8_nudge ⟨hfr, hlo⟩) hE hThr hP hD (ci := 8) rfl rfl hq hl.1 rfl rfl (Nat.le_of_ble_eq_true rfl) dL_nudge_5 (Nat.le_of_ble_eq_true rfl) (Nat.le_of_ble_eq_true rfl) (fun q ce H1 hP hS hce hv hcl => ?_)
  refine vx_catch (own := RL) (name := "java/lang/IndexOutOfBoundsException") (E := "java/lang/IndexOutOfBoundsException") hown [] (⟨0, 10, 13, 28⟩ : ExceptionTableEntry) [(⟨0, 10, 17, 13⟩ : ExceptionTableEntry), (⟨0, 10, 21, 65⟩ : ExceptionTableEntry)] (ht.trans rfl) (fun _ h => nomatch h) (by decide) (by decide) (hts _ (by decide +kernel)) (va_Nw.use (xCast_t (.castable "java/lang/IndexOutOfBoundsException" "java/lang/IndexOutOfBoundsException") (by decide +kernel)) (hThr.2.2.1 _ (by decide +kernel))) hce hv hcl ?_
  show W p l e _ s m args below meth c H1 [] (0 + 1) (0 + 6) _ (F0 m 13 ls [.ref q])
  refine lv_astore (lv' := [(4, .ref q), (0, .ref h), (1, .int p1), (2, .int p2), (3, .ref o)]) hx hb dL_nudge_13 hl (by decide) rfl (fun ls hl => ?_)
  refine lv_iconst (v := 1) hx hb dL_nudge_15 (by decide) ?_
  exact x_gI hx hb hr hlk hS hP hD (Nat.le_of_ble_eq_true rfl) (Nat.le_of_ble_eq_true rfl) dL_nudge_16
set_option maxRecDepth 100000 in
set_option maxHeartbeats 4000000 in
theorem w_nudge_c2 (l : Launch) (E : XE) (Z : XZ) (cL : ClassId) (w1 : va_W) (h o : Nat) (fs : List Value) (g : Nat → Int64) (rm : Room) (p1 p2 : Int32) (hM : xX l yX8_nudge wsX8_nudge rm E w1 [.ref h, .int p1, .int p2] "java/lang/IllegalArgumentException") (hrc : rm.cells = 1) (hrs : rm.slots = 6) (hfr : rm.frames + 1 ≤ 12) (hlo : 8 + (4 + 11) + rm.locals ≤ 450) (hq : w1[0]? = some (h, .inr (8, fs))) : xL l yL_nudge wsL_nudge { frames := 12, cells := 1, slots := 6, locals := 450 } E Z cL (w1 ++ [(o, .inl (cL, 1, .inr (.inl g)))]) [.ref h, .int p1, .int p2, .ref o] (.int 2) (w1 ++ [(o, .inl (cL, 1, .inr (.inl g)))]) := by
  refine xL.of (cc := cL_nudge) (maxL := 5) (ret := some .int) (hh := [(0, 10, 13, 28), (0, 10, 17, 13), (0, 10, 21, 65)]) (by decide +kernel) rfl (Nat.le_of_ble_eq_true rfl) ?_
  intro p e s m args below meth c ls A hMM hE hP hD hS hA hZ hThr hLg ht hl
  obtain ⟨hx, hb, hr, hml, hts, hown, hlk, -⟩ := hMM
  have hl : lv_has ls 5 [(0, .ref h), (1, .int p1), (2, .int p2), (3, .ref o)] := hl
  refine lv_aload_n hx hb dL_nudge_0 rfl (lv_at hl 3 rfl) ?_
  refine lv_iconst (v := 0) hx hb dL_nudge_1 (by decide) ?_
  refine lv_aload_n hx hb dL_nudge_2 rfl (lv_at hl 0 rfl) ?_
  refine lv_iload_n hx hb dL_nudge_3 rfl (lv_at hl 1 rfl) ?_
  refine lv_iload_n hx hb dL_nudge_4 rfl (lv_at hl 2 rfl) ?_
  refine x_gX [.int p1, .int p2] hM ⟨hx, hb, hml, hown, hts⟩ (cwV 2 hts gL_nudge_X8_nudge rfl hrc hrs hdX8_nudge ⟨hfr, hlo⟩) hE hThr hP hD (ci := 8) rfl rfl hq hl.1 rfl rfl (Nat.le_of_ble_eq_true rfl) dL_nudge_5 (Nat.le_of_ble_eq_true rfl) (Nat.le_of_ble_eq_true rfl) (fun q ce H1 hP hS hce hv hcl => ?_)
  refine vx_catch (own := RL) (name := "java/lang/IllegalArgumentException") (E := "java/lang/IllegalArgumentException") hown [(⟨0, 10, 13, 28⟩ : ExceptionTableEntry)] (⟨0, 10, 17, 13⟩ : ExceptionTableEntry) [(⟨0, 10, 21, 65⟩ : ExceptionTableEntry)] (ht.trans rfl) (List.forall_mem_cons.mpr ⟨Or.inr ⟨by decide, "java/lang/IndexOutOfBoundsException", hts _ (by decide +kernel), hLg.2.1⟩, (fun _ h => nomatch h)⟩) (by decide) (by decide) (hts _ (by decide +kernel)) (va_Nw.use (xCast_t (.castable "java/lang/IllegalArgumentException" "java/lang/IllegalArgumentException") (by decide +kernel)) (hThr.2.2.1 _ (by decide +kernel))) hce hv hcl ?_
  show W p l e _ s m args below meth c H1 [] (0 + 1) (0 + 6) _ (F0 m 17 ls [.ref q])
  refine lv_astore (lv' := [(4, .ref q), (0, .ref h), (1, .int p1), (2, .int p2), (3, .ref o)]) hx hb dL_nudge_17 hl (by decide) rfl (fun ls hl => ?_)
  refine lv_iconst (v := 2) hx hb dL_nudge_19 (by decide) ?_
  exact x_gI hx hb hr hlk hS hP hD (Nat.le_of_ble_eq_true rfl) (Nat.le_of_ble_eq_true rfl) dL_nudge_20
set_option maxRecDepth 100000 in
set_option maxHeartbeats 4000000 in
theorem w_nudge_c3 (l : Launch) (E : XE) (Z : XZ) (cL : ClassId) (w1 : va_W) (h o : Nat) (fs : List Value) (g : Nat → Int64) (rm : Room) (p1 p2 : Int32) (hM : xX l yX8_nudge wsX8_nudge rm E w1 [.ref h, .int p1, .int p2] "java/lang/IllegalStateException") (hrc : rm.cells = 1) (hrs : rm.slots = 6) (hfr : rm.frames + 1 ≤ 12) (hlo : 8 + (4 + 11) + rm.locals ≤ 450) (hq : w1[0]? = some (h, .inr (8, fs))) : xL l yL_nudge wsL_nudge { frames := 12, cells := 1, slots := 6, locals := 450 } E Z cL (w1 ++ [(o, .inl (cL, 1, .inr (.inl g)))]) [.ref h, .int p1, .int p2, .ref o] (.int 3) (w1 ++ [(o, .inl (cL, 1, .inr (.inl g)))]) := by
  refine xL.of (cc := cL_nudge) (maxL := 5) (ret := some .int) (hh := [(0, 10, 13, 28), (0, 10, 17, 13), (0, 10, 21, 65)]) (by decide +kernel) rfl (Nat.le_of_ble_eq_true rfl) ?_
  intro p e s m args below meth c ls A hMM hE hP hD hS hA hZ hThr hLg ht hl
  obtain ⟨hx, hb, hr, hml, hts, hown, hlk, -⟩ := hMM
  have hl : lv_has ls 5 [(0, .ref h), (1, .int p1), (2, .int p2), (3, .ref o)] := hl
  refine lv_aload_n hx hb dL_nudge_0 rfl (lv_at hl 3 rfl) ?_
  refine lv_iconst (v := 0) hx hb dL_nudge_1 (by decide) ?_
  refine lv_aload_n hx hb dL_nudge_2 rfl (lv_at hl 0 rfl) ?_
  refine lv_iload_n hx hb dL_nudge_3 rfl (lv_at hl 1 rfl) ?_
  refine lv_iload_n hx hb dL_nudge_4 rfl (lv_at hl 2 rfl) ?_
  refine x_gX [.int p1, .int p2] hM ⟨hx, hb, hml, hown, hts⟩ (cwV 2 hts gL_nudge_X8_nudge rfl hrc hrs hdX8_nudge ⟨hfr, hlo⟩) hE hThr hP hD (ci := 8) rfl rfl hq hl.1 rfl rfl (Nat.le_of_ble_eq_true rfl) dL_nudge_5 (Nat.le_of_ble_eq_true rfl) (Nat.le_of_ble_eq_true rfl) (fun q ce H1 hP hS hce hv hcl => ?_)
  refine vx_catch (own := RL) (name := "java/lang/IllegalStateException") (E := "java/lang/IllegalStateException") hown [(⟨0, 10, 13, 28⟩ : ExceptionTableEntry), (⟨0, 10, 17, 13⟩ : ExceptionTableEntry)] (⟨0, 10, 21, 65⟩ : ExceptionTableEntry) [] (ht.trans rfl) (List.forall_mem_cons.mpr ⟨Or.inr ⟨by decide, "java/lang/IndexOutOfBoundsException", hts _ (by decide +kernel), hLg.2.2.1⟩, (List.forall_mem_cons.mpr ⟨Or.inr ⟨by decide, "java/lang/IllegalArgumentException", hts _ (by decide +kernel), hLg.2.2.2⟩, (fun _ h => nomatch h)⟩)⟩) (by decide) (by decide) (hts _ (by decide +kernel)) (va_Nw.use (xCast_t (.castable "java/lang/IllegalStateException" "java/lang/IllegalStateException") (by decide +kernel)) (hThr.2.2.1 _ (by decide +kernel))) hce hv hcl ?_
  show W p l e _ s m args below meth c H1 [] (0 + 1) (0 + 6) _ (F0 m 21 ls [.ref q])
  refine lv_astore (lv' := [(4, .ref q), (0, .ref h), (1, .int p1), (2, .int p2), (3, .ref o)]) hx hb dL_nudge_21 hl (by decide) rfl (fun ls hl => ?_)
  refine lv_iconst (v := 3) hx hb dL_nudge_23 (by decide) ?_
  exact x_gI hx hb hr hlk hS hP hD (Nat.le_of_ble_eq_true rfl) (Nat.le_of_ble_eq_true rfl) dL_nudge_24
set_option maxRecDepth 100000 in
set_option maxHeartbeats 4000000 in
theorem w_saveSnapshot (l : Launch) (E : XE) (Z : XZ) (cL : ClassId) (w1 w1' : va_W) (h o : Nat) (fs : List Value) (g : Nat → Int64) (rm : Room) (p1 : Int32) (v : Int32) (hM : xA l yX8_saveSnapshot wsX8_saveSnapshot rm E Z w1 [.ref h, .int p1] (some (.int v)) w1' 0 0) (hrc : rm.cells = 0) (hrs : rm.slots = 0) (hfr : rm.frames + 1 ≤ 12) (hlo : 8 + (4 + 11) + rm.locals ≤ 450) (hq : w1[0]? = some (h, .inr (8, fs))) : xL l yL_saveSnapshot wsL_saveSnapshot { frames := 12, cells := 1, slots := 6, locals := 450 } E Z cL (w1 ++ [(o, .inl (cL, 1, .inr (.inl g)))]) [.ref h, .int p1, .ref o] (.int 0) (w1' ++ [(o, .inl (cL, 1, .inr (.inl (vp_updL g (Int32.toNatClampNeg 0) (if v = 0 then 0 else 1)))))]) := by
  refine xL.of (cc := cL_saveSnapshot) (maxL := 4) (ret := some .int) (hh := [(0, 16, 19, 28)]) (by decide +kernel) rfl (Nat.le_of_ble_eq_true rfl) ?_
  intro p e s m args below meth c ls A hMM hE hP hD hS hA hZ hThr hLg ht hl
  obtain ⟨hx, hb, hr, hml, hts, hown, hlk, -⟩ := hMM
  have hl : lv_has ls 4 [(0, .ref h), (1, .int p1), (2, .ref o)] := hl
  refine lv_aload_n hx hb dL_saveSnapshot_0 rfl (lv_at hl 2 rfl) ?_
  refine lv_iconst (v := 0) hx hb dL_saveSnapshot_1 (by decide) ?_
  refine lv_aload_n hx hb dL_saveSnapshot_2 rfl (lv_at hl 0 rfl) ?_
  refine lv_iload_n hx hb dL_saveSnapshot_3 rfl (lv_at hl 1 rfl) ?_
  refine x_gV [.int p1] hM ⟨hx, hb, hml, hown, hts⟩ (cwV 1 hts gL_saveSnapshot_X8_saveSnapshot rfl hrc hrs hdX8_saveSnapshot ⟨hfr, hlo⟩) hZ hE hP hD hS hA (ci := 8) rfl rfl hq hl.1 rfl rfl (Nat.le_of_ble_eq_true rfl) dL_saveSnapshot_4 (Nat.le_of_ble_eq_true rfl) (Nat.le_of_ble_eq_true rfl) (fun H1 locs1 hP hD hS => ?_)
  refine lv_if_eq (tgt := 14) hx hb dL_saveSnapshot_7 (by decide) (fun z => ?_) (fun z => ?_)
  · rw [if_pos z]
    refine lv_lconst (v := 0) hx hb dL_saveSnapshot_14 (by decide) ?_
    refine va_last (D := E.1) (cl := vwCl) (tys := [(cL, .long)]) hx hb hLg.1 hP hD hS w1'.length 0 (x_right (k := 0) rfl) rfl (x_lit (m := 1) (k := 0) (Nat.le_refl _) (by decide) (by decide)) dL_saveSnapshot_15 (fun H2 locs2 hP hD hS => ?_)
    rw [x_setR] at hP hD
    refine lv_goto (tgt := 22) hx hb dL_saveSnapshot_16 (by decide) ?_
    refine lv_iconst (v := 0) hx hb dL_saveSnapshot_22 (by decide) ?_
    exact x_gI hx hb hr hlk hS hP hD (Nat.le_of_ble_eq_true rfl) (Nat.le_of_ble_eq_true rfl) dL_saveSnapshot_23
  · rw [if_neg z]
    refine lv_lconst (v := 1) hx hb dL_saveSnapshot_10 (by decide) ?_
    refine lv_goto (tgt := 15) hx hb dL_saveSnapshot_11 (by decide) ?_
    refine va_last (D := E.1) (cl := vwCl) (tys := [(cL, .long)]) hx hb hLg.1 hP hD hS w1'.length 0 (x_right (k := 0) rfl) rfl (x_lit (m := 1) (k := 0) (Nat.le_refl _) (by decide) (by decide)) dL_saveSnapshot_15 (fun H2 locs2 hP hD hS => ?_)
    rw [x_setR] at hP hD
    refine lv_goto (tgt := 22) hx hb dL_saveSnapshot_16 (by decide) ?_
    refine lv_iconst (v := 0) hx hb dL_saveSnapshot_22 (by decide) ?_
    exact x_gI hx hb hr hlk hS hP hD (Nat.le_of_ble_eq_true rfl) (Nat.le_of_ble_eq_true rfl) dL_saveSnapshot_23
set_option maxRecDepth 100000 in
set_option maxHeartbeats 4000000 in
theorem w_saveSnapshot_c1 (l : Launch) (E : XE) (Z : XZ) (cL : ClassId) (w1 : va_W) (h o : Nat) (fs : List Value) (g : Nat → Int64) (rm : Room) (p1 : Int32) (hM : xX l yX8_saveSnapshot wsX8_saveSnapshot rm E w1 [.ref h, .int p1] "java/lang/IndexOutOfBoundsException") (hrc : rm.cells = 1) (hrs : rm.slots = 6) (hfr : rm.frames + 1 ≤ 12) (hlo : 8 + (4 + 11) + rm.locals ≤ 450) (hq : w1[0]? = some (h, .inr (8, fs))) : xL l yL_saveSnapshot wsL_saveSnapshot { frames := 12, cells := 1, slots := 6, locals := 450 } E Z cL (w1 ++ [(o, .inl (cL, 1, .inr (.inl g)))]) [.ref h, .int p1, .ref o] (.int 1) (w1 ++ [(o, .inl (cL, 1, .inr (.inl g)))]) := by
  refine xL.of (cc := cL_saveSnapshot) (maxL := 4) (ret := some .int) (hh := [(0, 16, 19, 28)]) (by decide +kernel) rfl (Nat.le_of_ble_eq_true rfl) ?_
  intro p e s m args below meth c ls A hMM hE hP hD hS hA hZ hThr hLg ht hl
  obtain ⟨hx, hb, hr, hml, hts, hown, hlk, -⟩ := hMM
  have hl : lv_has ls 4 [(0, .ref h), (1, .int p1), (2, .ref o)] := hl
  refine lv_aload_n hx hb dL_saveSnapshot_0 rfl (lv_at hl 2 rfl) ?_
  refine lv_iconst (v := 0) hx hb dL_saveSnapshot_1 (by decide) ?_
  refine lv_aload_n hx hb dL_saveSnapshot_2 rfl (lv_at hl 0 rfl) ?_
  refine lv_iload_n hx hb dL_saveSnapshot_3 rfl (lv_at hl 1 rfl) ?_
  refine x_gX [.int p1] hM ⟨hx, hb, hml, hown, hts⟩ (cwV 1 hts gL_saveSnapshot_X8_saveSnapshot rfl hrc hrs hdX8_saveSnapshot ⟨hfr, hlo⟩) hE hThr hP hD (ci := 8) rfl rfl hq hl.1 rfl rfl (Nat.le_of_ble_eq_true rfl) dL_saveSnapshot_4 (Nat.le_of_ble_eq_true rfl) (Nat.le_of_ble_eq_true rfl) (fun q ce H1 hP hS hce hv hcl => ?_)
  refine vx_catch (own := RL) (name := "java/lang/IndexOutOfBoundsException") (E := "java/lang/IndexOutOfBoundsException") hown [] (⟨0, 16, 19, 28⟩ : ExceptionTableEntry) [] (ht.trans rfl) (fun _ h => nomatch h) (by decide) (by decide) (hts _ (by decide +kernel)) (va_Nw.use (xCast_t (.castable "java/lang/IndexOutOfBoundsException" "java/lang/IndexOutOfBoundsException") (by decide +kernel)) (hThr.2.2.1 _ (by decide +kernel))) hce hv hcl ?_
  show W p l e _ s m args below meth c H1 [] (0 + 1) (0 + 6) _ (F0 m 19 ls [.ref q])
  refine lv_astore_n (lv' := [(3, .ref q), (0, .ref h), (1, .int p1), (2, .ref o)]) hx hb dL_saveSnapshot_19 rfl hl (by decide) rfl (fun ls hl => ?_)
  refine lv_iconst (v := 1) hx hb dL_saveSnapshot_20 (by decide) ?_
  exact x_gI hx hb hr hlk hS hP hD (Nat.le_of_ble_eq_true rfl) (Nat.le_of_ble_eq_true rfl) dL_saveSnapshot_21
set_option maxRecDepth 100000 in
set_option maxHeartbeats 4000000 in
theorem w_energy (l : Launch) (E : XE) (Z : XZ) (cL : ClassId) (w1 w1' : va_W) (h o : Nat) (fs : List Value) (g : Nat → Int64) (rm : Room) (p1 : Int32) (v : Int64) (hM : xA l yX8_energy wsX8_energy rm E Z w1 [.ref h, .int p1] (some (.long v)) w1' 0 0) (hrc : rm.cells = 0) (hrs : rm.slots = 0) (hfr : rm.frames + 1 ≤ 12) (hlo : 8 + (2 + 11) + rm.locals ≤ 450) (hq : w1[0]? = some (h, .inr (8, fs))) : xL l yL_energy wsL_energy { frames := 12, cells := 1, slots := 6, locals := 450 } E Z cL (w1 ++ [(o, .inl (cL, 1, .inr (.inl g)))]) [.ref h, .int p1, .ref o] (.int 0) (w1' ++ [(o, .inl (cL, 1, .inr (.inl (vp_updL g (Int32.toNatClampNeg 0) v))))]) := by
  refine xL.of (cc := cL_energy) (maxL := 4) (ret := some .int) (hh := [(0, 8, 11, 28)]) (by decide +kernel) rfl (Nat.le_of_ble_eq_true rfl) ?_
  intro p e s m args below meth c ls A hMM hE hP hD hS hA hZ hThr hLg ht hl
  obtain ⟨hx, hb, hr, hml, hts, hown, hlk, -⟩ := hMM
  have hl : lv_has ls 4 [(0, .ref h), (1, .int p1), (2, .ref o)] := hl
  refine lv_aload_n hx hb dL_energy_0 rfl (lv_at hl 2 rfl) ?_
  refine lv_iconst (v := 0) hx hb dL_energy_1 (by decide) ?_
  refine lv_aload_n hx hb dL_energy_2 rfl (lv_at hl 0 rfl) ?_
  refine lv_iload_n hx hb dL_energy_3 rfl (lv_at hl 1 rfl) ?_
  refine x_gV [.int p1] hM ⟨hx, hb, hml, hown, hts⟩ (cwV 1 hts gL_energy_X8_energy rfl hrc hrs hdX8_energy ⟨hfr, hlo⟩) hZ hE hP hD hS hA (ci := 8) rfl rfl hq hl.1 rfl rfl (Nat.le_of_ble_eq_true rfl) dL_energy_4 (Nat.le_of_ble_eq_true rfl) (Nat.le_of_ble_eq_true rfl) (fun H1 locs1 hP hD hS => ?_)
  refine va_last (D := E.1) (cl := vwCl) (tys := [(cL, .long)]) hx hb hLg.1 hP hD hS w1'.length 0 (x_right (k := 0) rfl) rfl (x_lit (m := 1) (k := 0) (Nat.le_refl _) (by decide) (by decide)) dL_energy_7 (fun H2 locs2 hP hD hS => ?_)
  rw [x_setR] at hP hD
  refine lv_goto (tgt := 14) hx hb dL_energy_8 (by decide) ?_
  refine lv_iconst (v := 0) hx hb dL_energy_14 (by decide) ?_
  exact x_gI hx hb hr hlk hS hP hD (Nat.le_of_ble_eq_true rfl) (Nat.le_of_ble_eq_true rfl) dL_energy_15
set_option maxRecDepth 100000 in
set_option maxHeartbeats 4000000 in
theorem w_energy_c1 (l : Launch) (E : XE) (Z : XZ) (cL : ClassId) (w1 : va_W) (h o : Nat) (fs : List Value) (g : Nat → Int64) (rm : Room) (p1 : Int32) (hM : xX l yX8_energy wsX8_energy rm E w1 [.ref h, .int p1] "java/lang/IndexOutOfBoundsException") (hrc : rm.cells = 1) (hrs : rm.slots = 6) (hfr : rm.frames + 1 ≤ 12) (hlo : 8 + (2 + 11) + rm.locals ≤ 450) (hq : w1[0]? = some (h, .inr (8, fs))) : xL l yL_energy wsL_energy { frames := 12, cells := 1, slots := 6, locals := 450 } E Z cL (w1 ++ [(o, .inl (cL, 1, .inr (.inl g)))]) [.ref h, .int p1, .ref o] (.int 1) (w1 ++ [(o, .inl (cL, 1, .inr (.inl g)))]) := by
  refine xL.of (cc := cL_energy) (maxL := 4) (ret := some .int) (hh := [(0, 8, 11, 28)]) (by decide +kernel) rfl (Nat.le_of_ble_eq_true rfl) ?_
  intro p e s m args below meth c ls A hMM hE hP hD hS hA hZ hThr hLg ht hl
  obtain ⟨hx, hb, hr, hml, hts, hown, hlk, -⟩ := hMM
  have hl : lv_has ls 4 [(0, .ref h), (1, .int p1), (2, .ref o)] := hl
  refine lv_aload_n hx hb dL_energy_0 rfl (lv_at hl 2 rfl) ?_
  refine lv_iconst (v := 0) hx hb dL_energy_1 (by decide) ?_
  refine lv_aload_n hx hb dL_energy_2 rfl (lv_at hl 0 rfl) ?_
  refine lv_iload_n hx hb dL_energy_3 rfl (lv_at hl 1 rfl) ?_
  refine x_gX [.int p1] hM ⟨hx, hb, hml, hown, hts⟩ (cwV 1 hts gL_energy_X8_energy rfl hrc hrs hdX8_energy ⟨hfr, hlo⟩) hE hThr hP hD (ci := 8) rfl rfl hq hl.1 rfl rfl (Nat.le_of_ble_eq_true rfl) dL_energy_4 (Nat.le_of_ble_eq_true rfl) (Nat.le_of_ble_eq_true rfl) (fun q ce H1 hP hS hce hv hcl => ?_)
  refine vx_catch (own := RL) (name := "java/lang/IndexOutOfBoundsException") (E := "java/lang/IndexOutOfBoundsException") hown [] (⟨0, 8, 11, 28⟩ : ExceptionTableEntry) [] (ht.trans rfl) (fun _ h => nomatch h) (by decide) (by decide) (hts _ (by decide +kernel)) (va_Nw.use (xCast_t (.castable "java/lang/IndexOutOfBoundsException" "java/lang/IndexOutOfBoundsException") (by decide +kernel)) (hThr.2.2.1 _ (by decide +kernel))) hce hv hcl ?_
  show W p l e _ s m args below meth c H1 [] (0 + 1) (0 + 6) _ (F0 m 11 ls [.ref q])
  refine lv_astore_n (lv' := [(3, .ref q), (0, .ref h), (1, .int p1), (2, .ref o)]) hx hb dL_energy_11 rfl hl (by decide) rfl (fun ls hl => ?_)
  refine lv_iconst (v := 1) hx hb dL_energy_12 (by decide) ?_
  exact x_gI hx hb hr hlk hS hP hD (Nat.le_of_ble_eq_true rfl) (Nat.le_of_ble_eq_true rfl) dL_energy_13
