/-! the law's cases: from a case's first row to the loop's next turn -/
def xLW (s : State) (E : XE) (cL : ClassId) (h h9 o : Nat) (u w : Nat → Nat) (H : Heap) (locs : List Loc) : Prop := ∃ (W8 W9 : va_W) (g : Nat → Int64) (t : Int32), xI E h u h9 w t W8 W9 ∧ va_P E.1 vwCl ((W8 ++ [(o, .inl (cL, 1, .inr (.inl g)))]) ++ W9) H ∧ va_D (fun q : Nat => s.heap.size ≤ q) ((W8 ++ [(o, .inl (cL, 1, .inr (.inl g)))]) ++ W9) ∧ va_S (fun q : Nat => s.heap.size ≤ q) s.heap H locs
def xHd (p : Program) (l : Launch) (e : Env) (s : State) (m : MethodId) (below : List Frame) (meth : Method) (c : Code) (E : XE) (cL : ClassId) (h h9 o b : Nat) (u w : Nat → Nat) (x4 : Int32) (pc cells slots : Nat) : Prop := ∀ (H : Heap) (locs : List Loc) (ls : Array Slot), xLW s E cL h h9 o u w H locs → lv_has ls 8 [(4, .int x4), (3, .ref o), (2, .ref h9), (1, .ref h), (0, .ref b)] → W p l e room_1 s m #[Value.ref b] below meth c H locs cells slots (lw_Z below #[Value.ref b] s) (F0 m pc ls [])
def xCx (p : Program) (s : State) (m : MethodId) (c : Code) (b L : Nat) (xs : Nat → Int32) (E : XE) (Z : XZ) (cL : ClassId) : Prop := p.tables.exec = Jvm.exec ∧ c.code = cL_law ∧ c.maxLocals = 8 ∧ s.vm.findClass RL = some m.cls ∧ (∀ w ∈ wsL_law, w.before #[Value.ref b] s = true) ∧ va_X b L xs s s.heap ∧ b < s.heap.size ∧ xEnv E s ∧ xZ Z (fun q : Nat => s.heap.size ≤ q) s s.heap ∧ xThr s ∧ xLg E cL s
theorem lc_cmp (x : Int64) : lg_cmp x x = 0 := (lg_cmp_eq x x).mpr rfl
section LCS
variable {p : Program} {l : Launch} {e : Env} {s : State} {m : MethodId} {below : List Frame} {meth : Method} {c : Code} {E : XE} {Z : XZ} {cL : ClassId} {h h9 o b L : Nat} {u w : Nat → Nat} {xs : Nat → Int32} {x4 : Int32} {cells slots : Nat}
set_option maxHeartbeats 4000000 in
set_option maxRecDepth 100000 in
theorem lc_append (hst : l.stackTraces = false) (C0 : xCx p s m c b L xs E Z cL) (hc : cells + 1 ≤ 601024) (hs : slots + 6 ≤ 7293034) (i1 : vp_in (x4 + 1) L) (i2 : vp_in (x4 + 2) L) (i3 : vp_in (x4 + 3) L) (i4 : vp_in (x4 + 4) L) (i5 : vp_in (x4 + 5) L) (kk : xHd p l e s m below meth c E cL h h9 o b u w x4 1686 (cells + 1) (slots + 6)) : xHd p l e s m below meth c E cL h h9 o b u w x4 176 cells slots := by
  obtain ⟨hx, hb, hml, hown, hts, hX, hbl, hE, hZ, hThr, hLg⟩ := C0
  have hA : ∀ q : Nat, s.heap.size ≤ q → (fun q : Nat => s.heap.size ≤ q) q := fun _ h => h
  have hAo : ∀ q : Nat, q < s.heap.size → ¬ (fun q : Nat => s.heap.size ≤ q) q := fun _ h => Nat.not_le.mpr h
  have hbA : ¬ (fun q : Nat => s.heap.size ≤ q) b := Nat.not_le.mpr hbl
  intro H locs ls hLW hl
  obtain ⟨W8, W9, g, t, hI, hP, hD, hS⟩ := hLW
  obtain ⟨f9, hq9⟩ := hI.hd9
  obtain ⟨f8, hq8⟩ := hI.hd8
  obtain ⟨rm, t2, v, V8, V9, hrc, hrs, hfr, hlo, hxx, hm, hI2⟩ := C_append l E Z h h9 u w hI (xs (x4 + 1).toNatClampNeg) (xs (x4 + 2).toNatClampNeg) (xs (x4 + 3).toNatClampNeg) (xs (x4 + 4).toNatClampNeg) (xs (x4 + 5).toNatClampNeg)
  refine lv_aload_n hx hb dL_law_176 rfl (lv_at hl 3 rfl) ?_
  refine lv_aload_n hx hb dL_law_177 rfl (lv_at hl 4 rfl) ?_
  refine lv_iload hx hb dL_law_178 (lv_at hl 0 rfl) ?_
  refine lv_iconst (v := 1) hx hb dL_law_180 (by decide) ?_
  refine lv_iadd hx hb dL_law_181 ?_
  refine va_sld hx hb hX hbl hbA hS i1 dL_law_182 ?_
  refine lv_aload_n hx hb dL_law_183 rfl (lv_at hl 4 rfl) ?_
  refine lv_iload hx hb dL_law_184 (lv_at hl 0 rfl) ?_
  refine lv_iconst (v := 2) hx hb dL_law_186 (by decide) ?_
  refine lv_iadd hx hb dL_law_187 ?_
  refine va_sld hx hb hX hbl hbA hS i2 dL_law_188 ?_
  refine lv_aload_n hx hb dL_law_189 rfl (lv_at hl 4 rfl) ?_
  refine lv_iload hx hb dL_law_190 (lv_at hl 0 rfl) ?_
  refine lv_iconst (v := 3) hx hb dL_law_192 (by decide) ?_
  refine lv_iadd hx hb dL_law_193 ?_
  refine va_sld hx hb hX hbl hbA hS i3 dL_law_194 ?_
  refine lv_aload_n hx hb dL_law_195 rfl (lv_at hl 4 rfl) ?_
  refine lv_iload hx hb dL_law_196 (lv_at hl 0 rfl) ?_
  refine lv_iconst (v := 4) hx hb dL_law_198 (by decide) ?_
  refine lv_iadd hx hb dL_law_199 ?_
  refine va_sld hx hb hX hbl hbA hS i4 dL_law_200 ?_
  refine lv_aload_n hx hb dL_law_201 rfl (lv_at hl 4 rfl) ?_
  refine lv_iload hx hb dL_law_202 (lv_at hl 0 rfl) ?_
  refine lv_iconst (v := 5) hx hb dL_law_204 (by decide) ?_
  refine lv_iadd hx hb dL_law_205 ?_
  refine va_sld hx hb hX hbl hbA hS i5 dL_law_206 ?_
  rw [List.append_assoc] at hP hD
  refine x_gV [.int (xs (x4 + 1).toNatClampNeg), .int (xs (x4 + 2).toNatClampNeg), .int (xs (x4 + 3).toNatClampNeg), .int (xs (x4 + 4).toNatClampNeg), .int (xs (x4 + 5).toNatClampNeg)] hxx ⟨hx, hb, hml, hown, hts⟩ (cwV 5 hts gL_law_X8_append rfl hrc hrs hdX8_append ⟨hfr, hlo⟩) hZ hE hP hD hS hA (ci := 8) rfl rfl hq8 hl.1 rfl rfl (Nat.le_of_ble_eq_true rfl) dL_law_207 (Nat.le_of_succ_le hc) (Nat.le_trans (Nat.le_add_right _ 6) hs) (fun H locs hP hD hS => ?_)
  rw [← List.append_assoc] at hP hD
  refine lv_aload_n hx hb dL_law_210 rfl (lv_at hl 2 rfl) ?_
  refine lv_aload_n hx hb dL_law_211 rfl (lv_at hl 4 rfl) ?_
  refine lv_iload hx hb dL_law_212 (lv_at hl 0 rfl) ?_
  refine lv_iconst (v := 1) hx hb dL_law_214 (by decide) ?_
  refine lv_iadd hx hb dL_law_215 ?_
  refine va_sld hx hb hX hbl hbA hS i1 dL_law_216 ?_
  refine lv_aload_n hx hb dL_law_217 rfl (lv_at hl 4 rfl) ?_
  refine lv_iload hx hb dL_law_218 (lv_at hl 0 rfl) ?_
  refine lv_iconst (v := 2) hx hb dL_law_220 (by decide) ?_
  refine lv_iadd hx hb dL_law_221 ?_
  refine va_sld hx hb hX hbl hbA hS i2 dL_law_222 ?_
  refine lv_aload_n hx hb dL_law_223 rfl (lv_at hl 4 rfl) ?_
  refine lv_iload hx hb dL_law_224 (lv_at hl 0 rfl) ?_
  refine lv_iconst (v := 3) hx hb dL_law_226 (by decide) ?_
  refine lv_iadd hx hb dL_law_227 ?_
  refine va_sld hx hb hX hbl hbA hS i3 dL_law_228 ?_
  refine lv_aload_n hx hb dL_law_229 rfl (lv_at hl 4 rfl) ?_
  refine lv_iload hx hb dL_law_230 (lv_at hl 0 rfl) ?_
  refine lv_iconst (v := 4) hx hb dL_law_232 (by decide) ?_
  refine lv_iadd hx hb dL_law_233 ?_
  refine va_sld hx hb hX hbl hbA hS i4 dL_law_234 ?_
  refine lv_aload_n hx hb dL_law_235 rfl (lv_at hl 4 rfl) ?_
  refine lv_iload hx hb dL_law_236 (lv_at hl 0 rfl) ?_
  refine lv_iconst (v := 5) hx hb dL_law_238 (by decide) ?_
  refine lv_iadd hx hb dL_law_239 ?_
  refine va_sld hx hb hX hbl hbA hS i5 dL_law_240 ?_
  refine x_gV2 [.int (xs (x4 + 1).toNatClampNeg), .int (xs (x4 + 2).toNatClampNeg), .int (xs (x4 + 3).toNatClampNeg), .int (xs (x4 + 4).toNatClampNeg), .int (xs (x4 + 5).toNatClampNeg)] hm ⟨hx, hb, hml, hown, hts⟩ (cwV 5 hts gL_law_X9_append rfl rfl rfl hdX9_append ⟨Nat.le_of_ble_eq_true rfl, Nat.le_of_ble_eq_true rfl⟩) hZ hE hP hD hS hA (ci := 9) rfl rfl hq9 hl.1 rfl rfl (Nat.le_of_ble_eq_true rfl) dL_law_241 (Nat.le_of_succ_le hc) (Nat.le_trans (Nat.le_add_right _ 6) hs) (fun H locs hP hD hS => ?_)
  refine lv_icmp_eq (tgt := 1686) hx hb dL_law_244 (by decide) (fun _ => ?_) (fun z => absurd rfl z)
  refine W.widen (k := cells + 1) (n := slots + 6) (Nat.le_add_right _ _) (Nat.le_add_right _ _) ?_
  exact kk H locs ls ⟨V8, V9, g, t2, hI2, hP, hD, hS⟩ hl
set_option maxHeartbeats 4000000 in
set_option maxRecDepth 100000 in
theorem lc_parse (hst : l.stackTraces = false) (C0 : xCx p s m c b L xs E Z cL) (hc : cells + 1 ≤ 601024) (hs : slots + 6 ≤ 7293034) (i1 : vp_in (x4 + 1) L) (i2 : vp_in (x4 + 2) L) (i3 : vp_in (x4 + 3) L) (i4 : vp_in (x4 + 4) L) (i5 : vp_in (x4 + 5) L) (kk : xHd p l e s m below meth c E cL h h9 o b u w x4 1686 (cells + 1) (slots + 6)) : xHd p l e s m below meth c E cL h h9 o b u w x4 249 cells slots := by
  obtain ⟨hx, hb, hml, hown, hts, hX, hbl, hE, hZ, hThr, hLg⟩ := C0
  have hA : ∀ q : Nat, s.heap.size ≤ q → (fun q : Nat => s.heap.size ≤ q) q := fun _ h => h
  have hAo : ∀ q : Nat, q < s.heap.size → ¬ (fun q : Nat => s.heap.size ≤ q) q := fun _ h => Nat.not_le.mpr h
  have hbA : ¬ (fun q : Nat => s.heap.size ≤ q) b := Nat.not_le.mpr hbl
  intro H locs ls hLW hl
  obtain ⟨W8, W9, g, t, hI, hP, hD, hS⟩ := hLW
  obtain ⟨f9, hq9⟩ := hI.hd9
  obtain ⟨k, v, g2, V8, V9, hw, hm, hI2, hk⟩ := C_parse l hst E Z cL h h9 o u w g hI (xs (x4 + 1).toNatClampNeg)
  refine lv_aload_n hx hb dL_law_249 rfl (lv_at hl 3 rfl) ?_
  refine lv_aload_n hx hb dL_law_250 rfl (lv_at hl 4 rfl) ?_
  refine lv_iload hx hb dL_law_251 (lv_at hl 0 rfl) ?_
  refine lv_iconst (v := 1) hx hb dL_law_253 (by decide) ?_
  refine lv_iadd hx hb dL_law_254 ?_
  refine va_sld hx hb hX hbl hbA hS i1 dL_law_255 ?_
  refine lv_aload_n hx hb dL_law_256 rfl (lv_at hl 1 rfl) ?_
  refine x_gL [.ref h, .int (xs (x4 + 1).toNatClampNeg), .ref o] hw ⟨hx, hb, hml, hown, hts⟩ (vx_cwSW 3 hts gL_law_L_parse rfl rfl rfl (by decide +kernel) ⟨Nat.le_of_ble_eq_true rfl, Nat.le_of_ble_eq_true rfl⟩) hZ hThr hAo hLg hE hP hD hS hA hl.1 rfl rfl (Nat.le_of_ble_eq_true rfl) dL_law_257 hc hs (fun H locs hP hD hS => ?_)
  refine lv_istore (lv' := [(5, .int k), (4, .int x4), (3, .ref o), (2, .ref h9), (1, .ref h), (0, .ref b)]) hx hb dL_law_260 hl (by decide) rfl (fun ls hl => ?_)
  refine lv_aload_n hx hb dL_law_262 rfl (lv_at hl 3 rfl) ?_
  refine lv_aload_n hx hb dL_law_263 rfl (lv_at hl 5 rfl) ?_
  refine lv_iload hx hb dL_law_264 (lv_at hl 1 rfl) ?_
  refine lv_iconst (v := 1) hx hb dL_law_266 (by decide) ?_
  refine lv_iadd hx hb dL_law_267 ?_
  refine va_sld hx hb hX hbl hbA hS i1 dL_law_268 ?_
  refine x_gV2 [.int (xs (x4 + 1).toNatClampNeg)] hm ⟨hx, hb, hml, hown, hts⟩ (cwV 1 hts gL_law_X9_parse rfl rfl rfl hdX9_parse ⟨Nat.le_of_ble_eq_true rfl, Nat.le_of_ble_eq_true rfl⟩) hZ hE hP hD hS hA (ci := 9) rfl rfl hq9 hl.1 rfl rfl (Nat.le_of_ble_eq_true rfl) dL_law_269 hc hs (fun H locs hP hD hS => ?_)
  refine lv_istore (lv' := [(6, .int v), (5, .int k), (4, .int x4), (3, .ref o), (2, .ref h9), (1, .ref h), (0, .ref b)]) hx hb dL_law_272 hl (by decide) rfl (fun ls hl => ?_)
  refine lv_aload_n hx hb dL_law_274 rfl (lv_at hl 4 rfl) ?_
  obtain ⟨f10, hq10⟩ := hI2.hd9
  refine x_gV2 [] (hI2.th l Z) ⟨hx, hb, hml, hown, hts⟩ (cwV 0 hts gL_law_X9_thrown rfl rfl rfl hdX9_thrown ⟨Nat.le_of_ble_eq_true rfl, Nat.le_of_ble_eq_true rfl⟩) hZ hE hP hD hS hA (ci := 9) rfl rfl hq10 hl.1 rfl rfl (Nat.le_of_ble_eq_true rfl) dL_law_275 hc hs (fun H locs hP hD hS => ?_)
  refine lv_iload hx hb dL_law_278 (lv_at hl 1 rfl) ?_
  refine lv_icmp_eq (tgt := 285) hx hb dL_law_280 (by decide) (fun _ => ?_) (fun z => absurd rfl z)
  refine lv_iload hx hb dL_law_285 (lv_at hl 1 rfl) ?_
  refine lv_if_ne (tgt := 302) hx hb dL_law_287 (by decide) (fun _ => ?_) (fun z => ?_)
  rotate_left
  refine lv_aload_n hx hb dL_law_290 rfl (lv_at hl 3 rfl) ?_
  refine lv_iconst (v := 0) hx hb dL_law_291 (by decide) ?_
  refine va_lald (D := E.1) (cl := vwCl) (tys := [(cL, .long)]) hx hb hLg.1 hP V8.length 0 (x_left (x_right (k := 0) rfl)) rfl (x_lit (m := 1) (k := 0) (Nat.le_refl _) (by decide) (by decide)) dL_law_292 ?_
  rw [show g2 (Int32.toNatClampNeg 0) = v.toInt64 from hk z]
  refine lv_iload hx hb dL_law_293 (lv_at hl 0 rfl) ?_
  refine lv_i2l hx hb dL_law_295 rfl ?_
  refine W.lcmp hx hb dL_law_296 ?_
  refine lv_if_eq (tgt := 302) hx hb dL_law_297 (by decide) (fun _ => ?_) (fun q => absurd (lc_cmp _) q)
  refine lv_goto (tgt := 1686) hx hb dL_law_302 (by decide) ?_
  exact kk H locs ls ⟨V8, V9, g2, k, hI2, hP, hD, hS⟩ (lv_sub hl [2, 3, 4, 5, 6] rfl)
  refine lv_goto (tgt := 1686) hx hb dL_law_302 (by decide) ?_
  exact kk H locs ls ⟨V8, V9, g2, k, hI2, hP, hD, hS⟩ (lv_sub hl [2, 3, 4, 5, 6] rfl)
set_option maxHeartbeats 4000000 in
set_option maxRecDepth 100000 in
theorem lc_errorPosition (hst : l.stackTraces = false) (C0 : xCx p s m c b L xs E Z cL) (hc : cells + 1 ≤ 601024) (hs : slots + 6 ≤ 7293034) (i1 : vp_in (x4 + 1) L) (i2 : vp_in (x4 + 2) L) (i3 : vp_in (x4 + 3) L) (i4 : vp_in (x4 + 4) L) (i5 : vp_in (x4 + 5) L) (kk : xHd p l e s m below meth c E cL h h9 o b u w x4 1686 (cells + 1) (slots + 6)) : xHd p l e s m below meth c E cL h h9 o b u w x4 305 cells slots := by
  obtain ⟨hx, hb, hml, hown, hts, hX, hbl, hE, hZ, hThr, hLg⟩ := C0
  have hA : ∀ q : Nat, s.heap.size ≤ q → (fun q : Nat => s.heap.size ≤ q) q := fun _ h => h
  have hAo : ∀ q : Nat, q < s.heap.size → ¬ (fun q : Nat => s.heap.size ≤ q) q := fun _ h => Nat.not_le.mpr h
  have hbA : ¬ (fun q : Nat => s.heap.size ≤ q) b := Nat.not_le.mpr hbl
  intro H locs ls hLW hl
  obtain ⟨W8, W9, g, t, hI, hP, hD, hS⟩ := hLW
  obtain ⟨f9, hq9⟩ := hI.hd9
  obtain ⟨f8, hq8⟩ := hI.hd8
  obtain ⟨rm, t2, v, V8, V9, hrc, hrs, hfr, hlo, hxx, hm, hI2⟩ := C_errorPosition l E Z h h9 u w hI 
  refine lv_aload_n hx hb dL_law_305 rfl (lv_at hl 3 rfl) ?_
  rw [List.append_assoc] at hP hD
  refine x_gV [] hxx ⟨hx, hb, hml, hown, hts⟩ (cwV 0 hts gL_law_X8_errorPosition rfl hrc hrs hdX8_errorPosition ⟨hfr, hlo⟩) hZ hE hP hD hS hA (ci := 8) rfl rfl hq8 hl.1 rfl rfl (Nat.le_of_ble_eq_true rfl) dL_law_306 (Nat.le_of_succ_le hc) (Nat.le_trans (Nat.le_add_right _ 6) hs) (fun H locs hP hD hS => ?_)
  rw [← List.append_assoc] at hP hD
  refine lv_aload_n hx hb dL_law_309 rfl (lv_at hl 2 rfl) ?_
  refine x_gV2 [] hm ⟨hx, hb, hml, hown, hts⟩ (cwV 0 hts gL_law_X9_errorPosition rfl rfl rfl hdX9_errorPosition ⟨Nat.le_of_ble_eq_true rfl, Nat.le_of_ble_eq_true rfl⟩) hZ hE hP hD hS hA (ci := 9) rfl rfl hq9 hl.1 rfl rfl (Nat.le_of_ble_eq_true rfl) dL_law_310 (Nat.le_of_succ_le hc) (Nat.le_trans (Nat.le_add_right _ 6) hs) (fun H locs hP hD hS => ?_)
  refine lv_icmp_eq (tgt := 1686) hx hb dL_law_313 (by decide) (fun _ => ?_) (fun z => absurd rfl z)
  refine W.widen (k := cells + 1) (n := slots + 6) (Nat.le_add_right _ _) (Nat.le_add_right _ _) ?_
  exact kk H locs ls ⟨V8, V9, g, t2, hI2, hP, hD, hS⟩ hl
set_option maxHeartbeats 4000000 in
set_option maxRecDepth 100000 in
theorem lc_sine (hst : l.stackTraces = false) (C0 : xCx p s m c b L xs E Z cL) (hc : cells + 1 ≤ 601024) (hs : slots + 6 ≤ 7293034) (i1 : vp_in (x4 + 1) L) (i2 : vp_in (x4 + 2) L) (i3 : vp_in (x4 + 3) L) (i4 : vp_in (x4 + 4) L) (i5 : vp_in (x4 + 5) L) (kk : xHd p l e s m below meth c E cL h h9 o b u w x4 1686 (cells + 1) (slots + 6)) : xHd p l e s m below meth c E cL h h9 o b u w x4 318 cells slots := by
  obtain ⟨hx, hb, hml, hown, hts, hX, hbl, hE, hZ, hThr, hLg⟩ := C0
  have hA : ∀ q : Nat, s.heap.size ≤ q → (fun q : Nat => s.heap.size ≤ q) q := fun _ h => h
  have hAo : ∀ q : Nat, q < s.heap.size → ¬ (fun q : Nat => s.heap.size ≤ q) q := fun _ h => Nat.not_le.mpr h
  have hbA : ¬ (fun q : Nat => s.heap.size ≤ q) b := Nat.not_le.mpr hbl
  intro H locs ls hLW hl
  obtain ⟨W8, W9, g, t, hI, hP, hD, hS⟩ := hLW
  obtain ⟨f9, hq9⟩ := hI.hd9
  obtain ⟨k, v, g2, V8, V9, hw, hm, hI2, hk⟩ := C_sine l hst E Z cL h h9 o u w g hI (xs (x4 + 1).toNatClampNeg)
  refine lv_aload_n hx hb dL_law_318 rfl (lv_at hl 3 rfl) ?_
  refine lv_aload_n hx hb dL_law_319 rfl (lv_at hl 4 rfl) ?_
  refine lv_iload hx hb dL_law_320 (lv_at hl 0 rfl) ?_
  refine lv_iconst (v := 1) hx hb dL_law_322 (by decide) ?_
  refine lv_iadd hx hb dL_law_323 ?_
  refine va_sld hx hb hX hbl hbA hS i1 dL_law_324 ?_
  refine lv_aload_n hx hb dL_law_325 rfl (lv_at hl 1 rfl) ?_
  refine x_gL [.ref h, .int (xs (x4 + 1).toNatClampNeg), .ref o] hw ⟨hx, hb, hml, hown, hts⟩ (vx_cwSW 3 hts gL_law_L_sine rfl rfl rfl (by decide +kernel) ⟨Nat.le_of_ble_eq_true rfl, Nat.le_of_ble_eq_true rfl⟩) hZ hThr hAo hLg hE hP hD hS hA hl.1 rfl rfl (Nat.le_of_ble_eq_true rfl) dL_law_326 hc hs (fun H locs hP hD hS => ?_)
  refine lv_istore (lv' := [(5, .int k), (4, .int x4), (3, .ref o), (2, .ref h9), (1, .ref h), (0, .ref b)]) hx hb dL_law_329 hl (by decide) rfl (fun ls hl => ?_)
  refine lv_aload_n hx hb dL_law_331 rfl (lv_at hl 3 rfl) ?_
  refine lv_aload_n hx hb dL_law_332 rfl (lv_at hl 5 rfl) ?_
  refine lv_iload hx hb dL_law_333 (lv_at hl 1 rfl) ?_
  refine lv_iconst (v := 1) hx hb dL_law_335 (by decide) ?_
  refine lv_iadd hx hb dL_law_336 ?_
  refine va_sld hx hb hX hbl hbA hS i1 dL_law_337 ?_
  refine x_gV2 [.int (xs (x4 + 1).toNatClampNeg)] hm ⟨hx, hb, hml, hown, hts⟩ (cwV 1 hts gL_law_X9_sine rfl rfl rfl hdX9_sine ⟨Nat.le_of_ble_eq_true rfl, Nat.le_of_ble_eq_true rfl⟩) hZ hE hP hD hS hA (ci := 9) rfl rfl hq9 hl.1 rfl rfl (Nat.le_of_ble_eq_true rfl) dL_law_338 hc hs (fun H locs hP hD hS => ?_)
  refine lv_istore (lv' := [(6, .int v), (5, .int k), (4, .int x4), (3, .ref o), (2, .ref h9), (1, .ref h), (0, .ref b)]) hx hb dL_law_341 hl (by decide) rfl (fun ls hl => ?_)
  refine lv_aload_n hx hb dL_law_343 rfl (lv_at hl 4 rfl) ?_
  obtain ⟨f10, hq10⟩ := hI2.hd9
  refine x_gV2 [] (hI2.th l Z) ⟨hx, hb, hml, hown, hts⟩ (cwV 0 hts gL_law_X9_thrown rfl rfl rfl hdX9_thrown ⟨Nat.le_of_ble_eq_true rfl, Nat.le_of_ble_eq_true rfl⟩) hZ hE hP hD hS hA (ci := 9) rfl rfl hq10 hl.1 rfl rfl (Nat.le_of_ble_eq_true rfl) dL_law_344 hc hs (fun H locs hP hD hS => ?_)
  refine lv_iload hx hb dL_law_347 (lv_at hl 1 rfl) ?_
  refine lv_icmp_eq (tgt := 354) hx hb dL_law_349 (by decide) (fun _ => ?_) (fun z => absurd rfl z)
  refine lv_iload hx hb dL_law_354 (lv_at hl 1 rfl) ?_
  refine lv_if_ne (tgt := 371) hx hb dL_law_356 (by decide) (fun _ => ?_) (fun z => ?_)
  rotate_left
  refine lv_aload_n hx hb dL_law_359 rfl (lv_at hl 3 rfl) ?_
  refine lv_iconst (v := 0) hx hb dL_law_360 (by decide) ?_
  refine va_lald (D := E.1) (cl := vwCl) (tys := [(cL, .long)]) hx hb hLg.1 hP V8.length 0 (x_left (x_right (k := 0) rfl)) rfl (x_lit (m := 1) (k := 0) (Nat.le_refl _) (by decide) (by decide)) dL_law_361 ?_
  rw [show g2 (Int32.toNatClampNeg 0) = v.toInt64 from hk z]
  refine lv_iload hx hb dL_law_362 (lv_at hl 0 rfl) ?_
  refine lv_i2l hx hb dL_law_364 rfl ?_
  refine W.lcmp hx hb dL_law_365 ?_
  refine lv_if_eq (tgt := 371) hx hb dL_law_366 (by decide) (fun _ => ?_) (fun q => absurd (lc_cmp _) q)
  refine lv_goto (tgt := 1686) hx hb dL_law_371 (by decide) ?_
  exact kk H locs ls ⟨V8, V9, g2, k, hI2, hP, hD, hS⟩ (lv_sub hl [2, 3, 4, 5, 6] rfl)
  refine lv_goto (tgt := 1686) hx hb dL_law_371 (by decide) ?_
  exact kk H locs ls ⟨V8, V9, g2, k, hI2, hP, hD, hS⟩ (lv_sub hl [2, 3, 4, 5, 6] rfl)
set_option maxHeartbeats 4000000 in
set_option maxRecDepth 100000 in
theorem lc_lean (hst : l.stackTraces = false) (C0 : xCx p s m c b L xs E Z cL) (hc : cells + 1 ≤ 601024) (hs : slots + 6 ≤ 7293034) (i1 : vp_in (x4 + 1) L) (i2 : vp_in (x4 + 2) L) (i3 : vp_in (x4 + 3) L) (i4 : vp_in (x4 + 4) L) (i5 : vp_in (x4 + 5) L) (kk : xHd p l e s m below meth c E cL h h9 o b u w x4 1686 (cells + 1) (slots + 6)) : xHd p l e s m below meth c E cL h h9 o b u w x4 374 cells slots := by
  obtain ⟨hx, hb, hml, hown, hts, hX, hbl, hE, hZ, hThr, hLg⟩ := C0
  have hA : ∀ q : Nat, s.heap.size ≤ q → (fun q : Nat => s.heap.size ≤ q) q := fun _ h => h
  have hAo : ∀ q : Nat, q < s.heap.size → ¬ (fun q : Nat => s.heap.size ≤ q) q := fun _ h => Nat.not_le.mpr h
  have hbA : ¬ (fun q : Nat => s.heap.size ≤ q) b := Nat.not_le.mpr hbl
  intro H locs ls hLW hl
  obtain ⟨W8, W9, g, t, hI, hP, hD, hS⟩ := hLW
  obtain ⟨f9, hq9⟩ := hI.hd9
  obtain ⟨k, v, g2, V8, V9, hw, hm, hI2, hk⟩ := C_lean l hst E Z cL h h9 o u w g hI (xs (x4 + 1).toNatClampNeg)
  refine lv_aload_n hx hb dL_law_374 rfl (lv_at hl 3 rfl) ?_
  refine lv_aload_n hx hb dL_law_375 rfl (lv_at hl 4 rfl) ?_
  refine lv_iload hx hb dL_law_376 (lv_at hl 0 rfl) ?_
  refine lv_iconst (v := 1) hx hb dL_law_378 (by decide) ?_
  refine lv_iadd hx hb dL_law_379 ?_
  refine va_sld hx hb hX hbl hbA hS i1 dL_law_380 ?_
  refine lv_aload_n hx hb dL_law_381 rfl (lv_at hl 1 rfl) ?_
  refine x_gL [.ref h, .int (xs (x4 + 1).toNatClampNeg), .ref o] hw ⟨hx, hb, hml, hown, hts⟩ (vx_cwSW 3 hts gL_law_L_lean rfl rfl rfl (by decide +kernel) ⟨Nat.le_of_ble_eq_true rfl, Nat.le_of_ble_eq_true rfl⟩) hZ hThr hAo hLg hE hP hD hS hA hl.1 rfl rfl (Nat.le_of_ble_eq_true rfl) dL_law_382 hc hs (fun H locs hP hD hS => ?_)
  refine lv_istore (lv' := [(5, .int k), (4, .int x4), (3, .ref o), (2, .ref h9), (1, .ref h), (0, .ref b)]) hx hb dL_law_385 hl (by decide) rfl (fun ls hl => ?_)
  refine lv_aload_n hx hb dL_law_387 rfl (lv_at hl 3 rfl) ?_
  refine lv_aload_n hx hb dL_law_388 rfl (lv_at hl 5 rfl) ?_
  refine lv_iload hx hb dL_law_389 (lv_at hl 1 rfl) ?_
  refine lv_iconst (v := 1) hx hb dL_law_391 (by decide) ?_
  refine lv_iadd hx hb dL_law_392 ?_
  refine va_sld hx hb hX hbl hbA hS i1 dL_law_393 ?_
  refine x_gV2 [.int (xs (x4 + 1).toNatClampNeg)] hm ⟨hx, hb, hml, hown, hts⟩ (cwV 1 hts gL_law_X9_lean rfl rfl rfl hdX9_lean ⟨Nat.le_of_ble_eq_true rfl, Nat.le_of_ble_eq_true rfl⟩) hZ hE hP hD hS hA (ci := 9) rfl rfl hq9 hl.1 rfl rfl (Nat.le_of_ble_eq_true rfl) dL_law_394 hc hs (fun H locs hP hD hS => ?_)
  refine lv_istore (lv' := [(6, .int v), (5, .int k), (4, .int x4), (3, .ref o), (2, .ref h9), (1, .ref h), (0, .ref b)]) hx hb dL_law_397 hl (by decide) rfl (fun ls hl => ?_)
  refine lv_aload_n hx hb dL_law_399 rfl (lv_at hl 4 rfl) ?_
  obtain ⟨f10, hq10⟩ := hI2.hd9
  refine x_gV2 [] (hI2.th l Z) ⟨hx, hb, hml, hown, hts⟩ (cwV 0 hts gL_law_X9_thrown rfl rfl rfl hdX9_thrown ⟨Nat.le_of_ble_eq_true rfl, Nat.le_of_ble_eq_true rfl⟩) hZ hE hP hD hS hA (ci := 9) rfl rfl hq10 hl.1 rfl rfl (Nat.le_of_ble_eq_true rfl) dL_law_400 hc hs (fun H locs hP hD hS => ?_)
  refine lv_iload hx hb dL_law_403 (lv_at hl 1 rfl) ?_
  refine lv_icmp_eq (tgt := 410) hx hb dL_law_405 (by decide) (fun _ => ?_) (fun z => absurd rfl z)
  refine lv_iload hx hb dL_law_410 (lv_at hl 1 rfl) ?_
  refine lv_if_ne (tgt := 427) hx hb dL_law_412 (by decide) (fun _ => ?_) (fun z => ?_)
  rotate_left
  refine lv_aload_n hx hb dL_law_415 rfl (lv_at hl 3 rfl) ?_
  refine lv_iconst (v := 0) hx hb dL_law_416 (by decide) ?_
  refine va_lald (D := E.1) (cl := vwCl) (tys := [(cL, .long)]) hx hb hLg.1 hP V8.length 0 (x_left (x_right (k := 0) rfl)) rfl (x_lit (m := 1) (k := 0) (Nat.le_refl _) (by decide) (by decide)) dL_law_417 ?_
  rw [show g2 (Int32.toNatClampNeg 0) = v.toInt64 from hk z]
  refine lv_iload hx hb dL_law_418 (lv_at hl 0 rfl) ?_
  refine lv_i2l hx hb dL_law_420 rfl ?_
  refine W.lcmp hx hb dL_law_421 ?_
  refine lv_if_eq (tgt := 427) hx hb dL_law_422 (by decide) (fun _ => ?_) (fun q => absurd (lc_cmp _) q)
  refine lv_goto (tgt := 1686) hx hb dL_law_427 (by decide) ?_
  exact kk H locs ls ⟨V8, V9, g2, k, hI2, hP, hD, hS⟩ (lv_sub hl [2, 3, 4, 5, 6] rfl)
  refine lv_goto (tgt := 1686) hx hb dL_law_427 (by decide) ?_
  exact kk H locs ls ⟨V8, V9, g2, k, hI2, hP, hD, hS⟩ (lv_sub hl [2, 3, 4, 5, 6] rfl)
set_option maxHeartbeats 4000000 in
set_option maxRecDepth 100000 in
theorem lc_state (hst : l.stackTraces = false) (C0 : xCx p s m c b L xs E Z cL) (hc : cells + 1 ≤ 601024) (hs : slots + 6 ≤ 7293034) (i1 : vp_in (x4 + 1) L) (i2 : vp_in (x4 + 2) L) (i3 : vp_in (x4 + 3) L) (i4 : vp_in (x4 + 4) L) (i5 : vp_in (x4 + 5) L) (kk : xHd p l e s m below meth c E cL h h9 o b u w x4 1686 (cells + 1) (slots + 6)) : xHd p l e s m below meth c E cL h h9 o b u w x4 430 cells slots := by
  obtain ⟨hx, hb, hml, hown, hts, hX, hbl, hE, hZ, hThr, hLg⟩ := C0
  have hA : ∀ q : Nat, s.heap.size ≤ q → (fun q : Nat => s.heap.size ≤ q) q := fun _ h => h
  have hAo : ∀ q : Nat, q < s.heap.size → ¬ (fun q : Nat => s.heap.size ≤ q) q := fun _ h => Nat.not_le.mpr h
  have hbA : ¬ (fun q : Nat => s.heap.size ≤ q) b := Nat.not_le.mpr hbl
  intro H locs ls hLW hl
  obtain ⟨W8, W9, g, t, hI, hP, hD, hS⟩ := hLW
  obtain ⟨f9, hq9⟩ := hI.hd9
  obtain ⟨k, v, g2, V8, V9, hw, hm, hI2, hk⟩ := C_state l hst E Z cL h h9 o u w g hI (xs (x4 + 1).toNatClampNeg)
  refine lv_aload_n hx hb dL_law_430 rfl (lv_at hl 3 rfl) ?_
  refine lv_aload_n hx hb dL_law_431 rfl (lv_at hl 4 rfl) ?_
  refine lv_iload hx hb dL_law_432 (lv_at hl 0 rfl) ?_
  refine lv_iconst (v := 1) hx hb dL_law_434 (by decide) ?_
  refine lv_iadd hx hb dL_law_435 ?_
  refine va_sld hx hb hX hbl hbA hS i1 dL_law_436 ?_
  refine lv_aload_n hx hb dL_law_437 rfl (lv_at hl 1 rfl) ?_
  refine x_gL [.ref h, .int (xs (x4 + 1).toNatClampNeg), .ref o] hw ⟨hx, hb, hml, hown, hts⟩ (vx_cwSW 3 hts gL_law_L_state rfl rfl rfl (by decide +kernel) ⟨Nat.le_of_ble_eq_true rfl, Nat.le_of_ble_eq_true rfl⟩) hZ hThr hAo hLg hE hP hD hS hA hl.1 rfl rfl (Nat.le_of_ble_eq_true rfl) dL_law_438 hc hs (fun H locs hP hD hS => ?_)
  refine lv_istore (lv' := [(5, .int k), (4, .int x4), (3, .ref o), (2, .ref h9), (1, .ref h), (0, .ref b)]) hx hb dL_law_441 hl (by decide) rfl (fun ls hl => ?_)
  refine lv_aload_n hx hb dL_law_443 rfl (lv_at hl 3 rfl) ?_
  refine lv_aload_n hx hb dL_law_444 rfl (lv_at hl 5 rfl) ?_
  refine lv_iload hx hb dL_law_445 (lv_at hl 1 rfl) ?_
  refine lv_iconst (v := 1) hx hb dL_law_447 (by decide) ?_
  refine lv_iadd hx hb dL_law_448 ?_
  refine va_sld hx hb hX hbl hbA hS i1 dL_law_449 ?_
  refine x_gV2 [.int (xs (x4 + 1).toNatClampNeg)] hm ⟨hx, hb, hml, hown, hts⟩ (cwV 1 hts gL_law_X9_state rfl rfl rfl hdX9_state ⟨Nat.le_of_ble_eq_true rfl, Nat.le_of_ble_eq_true rfl⟩) hZ hE hP hD hS hA (ci := 9) rfl rfl hq9 hl.1 rfl rfl (Nat.le_of_ble_eq_true rfl) dL_law_450 hc hs (fun H locs hP hD hS => ?_)
  refine lv_istore (lv' := [(6, .int v), (5, .int k), (4, .int x4), (3, .ref o), (2, .ref h9), (1, .ref h), (0, .ref b)]) hx hb dL_law_453 hl (by decide) rfl (fun ls hl => ?_)
  refine lv_aload_n hx hb dL_law_455 rfl (lv_at hl 4 rfl) ?_
  obtain ⟨f10, hq10⟩ := hI2.hd9
  refine x_gV2 [] (hI2.th l Z) ⟨hx, hb, hml, hown, hts⟩ (cwV 0 hts gL_law_X9_thrown rfl rfl rfl hdX9_thrown ⟨Nat.le_of_ble_eq_true rfl, Nat.le_of_ble_eq_true rfl⟩) hZ hE hP hD hS hA (ci := 9) rfl rfl hq10 hl.1 rfl rfl (Nat.le_of_ble_eq_true rfl) dL_law_456 hc hs (fun H locs hP hD hS => ?_)
  refine lv_iload hx hb dL_law_459 (lv_at hl 1 rfl) ?_
  refine lv_icmp_eq (tgt := 466) hx hb dL_law_461 (by decide) (fun _ => ?_) (fun z => absurd rfl z)
  refine lv_iload hx hb dL_law_466 (lv_at hl 1 rfl) ?_
  refine lv_if_ne (tgt := 483) hx hb dL_law_468 (by decide) (fun _ => ?_) (fun z => ?_)
  rotate_left
  refine lv_aload_n hx hb dL_law_471 rfl (lv_at hl 3 rfl) ?_
  refine lv_iconst (v := 0) hx hb dL_law_472 (by decide) ?_
  refine va_lald (D := E.1) (cl := vwCl) (tys := [(cL, .long)]) hx hb hLg.1 hP V8.length 0 (x_left (x_right (k := 0) rfl)) rfl (x_lit (m := 1) (k := 0) (Nat.le_refl _) (by decide) (by decide)) dL_law_473 ?_
  rw [show g2 (Int32.toNatClampNeg 0) = v.toInt64 from hk z]
  refine lv_iload hx hb dL_law_474 (lv_at hl 0 rfl) ?_
  refine lv_i2l hx hb dL_law_476 rfl ?_
  refine W.lcmp hx hb dL_law_477 ?_
  refine lv_if_eq (tgt := 483) hx hb dL_law_478 (by decide) (fun _ => ?_) (fun q => absurd (lc_cmp _) q)
  refine lv_goto (tgt := 1686) hx hb dL_law_483 (by decide) ?_
  exact kk H locs ls ⟨V8, V9, g2, k, hI2, hP, hD, hS⟩ (lv_sub hl [2, 3, 4, 5, 6] rfl)
  refine lv_goto (tgt := 1686) hx hb dL_law_483 (by decide) ?_
  exact kk H locs ls ⟨V8, V9, g2, k, hI2, hP, hD, hS⟩ (lv_sub hl [2, 3, 4, 5, 6] rfl)
set_option maxHeartbeats 4000000 in
set_option maxRecDepth 100000 in
theorem lc_link (hst : l.stackTraces = false) (C0 : xCx p s m c b L xs E Z cL) (hc : cells + 1 ≤ 601024) (hs : slots + 6 ≤ 7293034) (i1 : vp_in (x4 + 1) L) (i2 : vp_in (x4 + 2) L) (i3 : vp_in (x4 + 3) L) (i4 : vp_in (x4 + 4) L) (i5 : vp_in (x4 + 5) L) (kk : xHd p l e s m below meth c E cL h h9 o b u w x4 1686 (cells + 1) (slots + 6)) : xHd p l e s m below meth c E cL h h9 o b u w x4 486 cells slots := by
  obtain ⟨hx, hb, hml, hown, hts, hX, hbl, hE, hZ, hThr, hLg⟩ := C0
  have hA : ∀ q : Nat, s.heap.size ≤ q → (fun q : Nat => s.heap.size ≤ q) q := fun _ h => h
  have hAo : ∀ q : Nat, q < s.heap.size → ¬ (fun q : Nat => s.heap.size ≤ q) q := fun _ h => Nat.not_le.mpr h
  have hbA : ¬ (fun q : Nat => s.heap.size ≤ q) b := Nat.not_le.mpr hbl
  intro H locs ls hLW hl
  obtain ⟨W8, W9, g, t, hI, hP, hD, hS⟩ := hLW
  obtain ⟨f9, hq9⟩ := hI.hd9
  obtain ⟨k, v, g2, V8, V9, hw, hm, hI2, hk⟩ := C_link l hst E Z cL h h9 o u w g hI (xs (x4 + 1).toNatClampNeg) (xs (x4 + 2).toNatClampNeg)
  refine lv_aload_n hx hb dL_law_486 rfl (lv_at hl 3 rfl) ?_
  refine lv_aload_n hx hb dL_law_487 rfl (lv_at hl 4 rfl) ?_
  refine lv_iload hx hb dL_law_488 (lv_at hl 0 rfl) ?_
  refine lv_iconst (v := 1) hx hb dL_law_490 (by decide) ?_
  refine lv_iadd hx hb dL_law_491 ?_
  refine va_sld hx hb hX hbl hbA hS i1 dL_law_492 ?_
  refine lv_aload_n hx hb dL_law_493 rfl (lv_at hl 4 rfl) ?_
  refine lv_iload hx hb dL_law_494 (lv_at hl 0 rfl) ?_
  refine lv_iconst (v := 2) hx hb dL_law_496 (by decide) ?_
  refine lv_iadd hx hb dL_law_497 ?_
  refine va_sld hx hb hX hbl hbA hS i2 dL_law_498 ?_
  refine lv_aload_n hx hb dL_law_499 rfl (lv_at hl 1 rfl) ?_
  refine x_gL [.ref h, .int (xs (x4 + 1).toNatClampNeg), .int (xs (x4 + 2).toNatClampNeg), .ref o] hw ⟨hx, hb, hml, hown, hts⟩ (vx_cwSW 4 hts gL_law_L_link rfl rfl rfl (by decide +kernel) ⟨Nat.le_of_ble_eq_true rfl, Nat.le_of_ble_eq_true rfl⟩) hZ hThr hAo hLg hE hP hD hS hA hl.1 rfl rfl (Nat.le_of_ble_eq_true rfl) dL_law_500 hc hs (fun H locs hP hD hS => ?_)
  refine lv_istore (lv' := [(5, .int k), (4, .int x4), (3, .ref o), (2, .ref h9), (1, .ref h), (0, .ref b)]) hx hb dL_law_503 hl (by decide) rfl (fun ls hl => ?_)
  refine lv_aload_n hx hb dL_law_505 rfl (lv_at hl 3 rfl) ?_
  refine lv_aload_n hx hb dL_law_506 rfl (lv_at hl 5 rfl) ?_
  refine lv_iload hx hb dL_law_507 (lv_at hl 1 rfl) ?_
  refine lv_iconst (v := 1) hx hb dL_law_509 (by decide) ?_
  refine lv_iadd hx hb dL_law_510 ?_
  refine va_sld hx hb hX hbl hbA hS i1 dL_law_511 ?_
  refine lv_aload_n hx hb dL_law_512 rfl (lv_at hl 5 rfl) ?_
  refine lv_iload hx hb dL_law_513 (lv_at hl 1 rfl) ?_
  refine lv_iconst (v := 2) hx hb dL_law_515 (by decide) ?_
  refine lv_iadd hx hb dL_law_516 ?_
  refine va_sld hx hb hX hbl hbA hS i2 dL_law_517 ?_
  refine x_gV2 [.int (xs (x4 + 1).toNatClampNeg), .int (xs (x4 + 2).toNatClampNeg)] hm ⟨hx, hb, hml, hown, hts⟩ (cwV 2 hts gL_law_X9_link rfl rfl rfl hdX9_link ⟨Nat.le_of_ble_eq_true rfl, Nat.le_of_ble_eq_true rfl⟩) hZ hE hP hD hS hA (ci := 9) rfl rfl hq9 hl.1 rfl rfl (Nat.le_of_ble_eq_true rfl) dL_law_518 hc hs (fun H locs hP hD hS => ?_)
  refine lv_istore (lv' := [(6, .int v), (5, .int k), (4, .int x4), (3, .ref o), (2, .ref h9), (1, .ref h), (0, .ref b)]) hx hb dL_law_521 hl (by decide) rfl (fun ls hl => ?_)
  refine lv_aload_n hx hb dL_law_523 rfl (lv_at hl 4 rfl) ?_
  obtain ⟨f10, hq10⟩ := hI2.hd9
  refine x_gV2 [] (hI2.th l Z) ⟨hx, hb, hml, hown, hts⟩ (cwV 0 hts gL_law_X9_thrown rfl rfl rfl hdX9_thrown ⟨Nat.le_of_ble_eq_true rfl, Nat.le_of_ble_eq_true rfl⟩) hZ hE hP hD hS hA (ci := 9) rfl rfl hq10 hl.1 rfl rfl (Nat.le_of_ble_eq_true rfl) dL_law_524 hc hs (fun H locs hP hD hS => ?_)
  refine lv_iload hx hb dL_law_527 (lv_at hl 1 rfl) ?_
  refine lv_icmp_eq (tgt := 534) hx hb dL_law_529 (by decide) (fun _ => ?_) (fun z => absurd rfl z)
  refine lv_iload hx hb dL_law_534 (lv_at hl 1 rfl) ?_
  refine lv_if_ne (tgt := 551) hx hb dL_law_536 (by decide) (fun _ => ?_) (fun z => ?_)
  rotate_left
  refine lv_aload_n hx hb dL_law_539 rfl (lv_at hl 3 rfl) ?_
  refine lv_iconst (v := 0) hx hb dL_law_540 (by decide) ?_
  refine va_lald (D := E.1) (cl := vwCl) (tys := [(cL, .long)]) hx hb hLg.1 hP V8.length 0 (x_left (x_right (k := 0) rfl)) rfl (x_lit (m := 1) (k := 0) (Nat.le_refl _) (by decide) (by decide)) dL_law_541 ?_
  rw [show g2 (Int32.toNatClampNeg 0) = v.toInt64 from hk z]
  refine lv_iload hx hb dL_law_542 (lv_at hl 0 rfl) ?_
  refine lv_i2l hx hb dL_law_544 rfl ?_
  refine W.lcmp hx hb dL_law_545 ?_
  refine lv_if_eq (tgt := 551) hx hb dL_law_546 (by decide) (fun _ => ?_) (fun q => absurd (lc_cmp _) q)
  refine lv_goto (tgt := 1686) hx hb dL_law_551 (by decide) ?_
  exact kk H locs ls ⟨V8, V9, g2, k, hI2, hP, hD, hS⟩ (lv_sub hl [2, 3, 4, 5, 6] rfl)
  refine lv_goto (tgt := 1686) hx hb dL_law_551 (by decide) ?_
  exact kk H locs ls ⟨V8, V9, g2, k, hI2, hP, hD, hS⟩ (lv_sub hl [2, 3, 4, 5, 6] rfl)
set_option maxHeartbeats 4000000 in
set_option maxRecDepth 100000 in
theorem lc_energy (hst : l.stackTraces = false) (C0 : xCx p s m c b L xs E Z cL) (hc : cells + 1 ≤ 601024) (hs : slots + 6 ≤ 7293034) (i1 : vp_in (x4 + 1) L) (i2 : vp_in (x4 + 2) L) (i3 : vp_in (x4 + 3) L) (i4 : vp_in (x4 + 4) L) (i5 : vp_in (x4 + 5) L) (kk : xHd p l e s m below meth c E cL h h9 o b u w x4 1686 (cells + 1) (slots + 6)) : xHd p l e s m below meth c E cL h h9 o b u w x4 554 cells slots := by
  obtain ⟨hx, hb, hml, hown, hts, hX, hbl, hE, hZ, hThr, hLg⟩ := C0
  have hA : ∀ q : Nat, s.heap.size ≤ q → (fun q : Nat => s.heap.size ≤ q) q := fun _ h => h
  have hAo : ∀ q : Nat, q < s.heap.size → ¬ (fun q : Nat => s.heap.size ≤ q) q := fun _ h => Nat.not_le.mpr h
  have hbA : ¬ (fun q : Nat => s.heap.size ≤ q) b := Nat.not_le.mpr hbl
  intro H locs ls hLW hl
  obtain ⟨W8, W9, g, t, hI, hP, hD, hS⟩ := hLW
  obtain ⟨f9, hq9⟩ := hI.hd9
  obtain ⟨k, v, g2, V8, V9, hw, hm, hI2, hk⟩ := C_energy l hst E Z cL h h9 o u w g hI (xs (x4 + 1).toNatClampNeg)
  refine lv_aload_n hx hb dL_law_554 rfl (lv_at hl 3 rfl) ?_
  refine lv_aload_n hx hb dL_law_555 rfl (lv_at hl 4 rfl) ?_
  refine lv_iload hx hb dL_law_556 (lv_at hl 0 rfl) ?_
  refine lv_iconst (v := 1) hx hb dL_law_558 (by decide) ?_
  refine lv_iadd hx hb dL_law_559 ?_
  refine va_sld hx hb hX hbl hbA hS i1 dL_law_560 ?_
  refine lv_aload_n hx hb dL_law_561 rfl (lv_at hl 1 rfl) ?_
  refine x_gL [.ref h, .int (xs (x4 + 1).toNatClampNeg), .ref o] hw ⟨hx, hb, hml, hown, hts⟩ (vx_cwSW 3 hts gL_law_L_energy rfl rfl rfl (by decide +kernel) ⟨Nat.le_of_ble_eq_true rfl, Nat.le_of_ble_eq_true rfl⟩) hZ hThr hAo hLg hE hP hD hS hA hl.1 rfl rfl (Nat.le_of_ble_eq_true rfl) dL_law_562 hc hs (fun H locs hP hD hS => ?_)
  refine lv_istore (lv' := [(5, .int k), (4, .int x4), (3, .ref o), (2, .ref h9), (1, .ref h), (0, .ref b)]) hx hb dL_law_565 hl (by decide) rfl (fun ls hl => ?_)
  refine lv_aload_n hx hb dL_law_567 rfl (lv_at hl 3 rfl) ?_
  refine lv_aload_n hx hb dL_law_568 rfl (lv_at hl 5 rfl) ?_
  refine lv_iload hx hb dL_law_569 (lv_at hl 1 rfl) ?_
  refine lv_iconst (v := 1) hx hb dL_law_571 (by decide) ?_
  refine lv_iadd hx hb dL_law_572 ?_
  refine va_sld hx hb hX hbl hbA hS i1 dL_law_573 ?_
  refine x_gV2 [.int (xs (x4 + 1).toNatClampNeg)] hm ⟨hx, hb, hml, hown, hts⟩ (cwV 1 hts gL_law_X9_energy rfl rfl rfl hdX9_energy ⟨Nat.le_of_ble_eq_true rfl, Nat.le_of_ble_eq_true rfl⟩) hZ hE hP hD hS hA (ci := 9) rfl rfl hq9 hl.1 rfl rfl (Nat.le_of_ble_eq_true rfl) dL_law_574 hc hs (fun H locs hP hD hS => ?_)
  refine lv_lstore (lv' := [(6, .long v), (5, .int k), (4, .int x4), (3, .ref o), (2, .ref h9), (1, .ref h), (0, .ref b)]) hx hb dL_law_577 hl (by decide) rfl (fun ls hl => ?_)
  refine lv_aload_n hx hb dL_law_579 rfl (lv_at hl 4 rfl) ?_
  obtain ⟨f10, hq10⟩ := hI2.hd9
  refine x_gV2 [] (hI2.th l Z) ⟨hx, hb, hml, hown, hts⟩ (cwV 0 hts gL_law_X9_thrown rfl rfl rfl hdX9_thrown ⟨Nat.le_of_ble_eq_true rfl, Nat.le_of_ble_eq_true rfl⟩) hZ hE hP hD hS hA (ci := 9) rfl rfl hq10 hl.1 rfl rfl (Nat.le_of_ble_eq_true rfl) dL_law_580 hc hs (fun H locs hP hD hS => ?_)
  refine lv_iload hx hb dL_law_583 (lv_at hl 1 rfl) ?_
  refine lv_icmp_eq (tgt := 590) hx hb dL_law_585 (by decide) (fun _ => ?_) (fun z => absurd rfl z)
  refine lv_iload hx hb dL_law_590 (lv_at hl 1 rfl) ?_
  refine lv_if_ne (tgt := 606) hx hb dL_law_592 (by decide) (fun _ => ?_) (fun z => ?_)
  rotate_left
  refine lv_aload_n hx hb dL_law_595 rfl (lv_at hl 3 rfl) ?_
  refine lv_iconst (v := 0) hx hb dL_law_596 (by decide) ?_
  refine va_lald (D := E.1) (cl := vwCl) (tys := [(cL, .long)]) hx hb hLg.1 hP V8.length 0 (x_left (x_right (k := 0) rfl)) rfl (x_lit (m := 1) (k := 0) (Nat.le_refl _) (by decide) (by decide)) dL_law_597 ?_
  rw [show g2 (Int32.toNatClampNeg 0) = v from hk z]
  refine lv_lload hx hb dL_law_598 (lv_at hl 0 rfl) ?_
  refine W.lcmp hx hb dL_law_600 ?_
  refine lv_if_eq (tgt := 606) hx hb dL_law_601 (by decide) (fun _ => ?_) (fun q => absurd (lc_cmp _) q)
  refine lv_goto (tgt := 1686) hx hb dL_law_606 (by decide) ?_
  exact kk H locs ls ⟨V8, V9, g2, k, hI2, hP, hD, hS⟩ (lv_sub hl [2, 3, 4, 5, 6] rfl)
  refine lv_goto (tgt := 1686) hx hb dL_law_606 (by decide) ?_
  exact kk H locs ls ⟨V8, V9, g2, k, hI2, hP, hD, hS⟩ (lv_sub hl [2, 3, 4, 5, 6] rfl)
set_option maxHeartbeats 4000000 in
set_option maxRecDepth 100000 in
theorem lc_target (hst : l.stackTraces = false) (C0 : xCx p s m c b L xs E Z cL) (hc : cells + 1 ≤ 601024) (hs : slots + 6 ≤ 7293034) (i1 : vp_in (x4 + 1) L) (i2 : vp_in (x4 + 2) L) (i3 : vp_in (x4 + 3) L) (i4 : vp_in (x4 + 4) L) (i5 : vp_in (x4 + 5) L) (kk : xHd p l e s m below meth c E cL h h9 o b u w x4 1686 (cells + 1) (slots + 6)) : xHd p l e s m below meth c E cL h h9 o b u w x4 609 cells slots := by
  obtain ⟨hx, hb, hml, hown, hts, hX, hbl, hE, hZ, hThr, hLg⟩ := C0
  have hA : ∀ q : Nat, s.heap.size ≤ q → (fun q : Nat => s.heap.size ≤ q) q := fun _ h => h
  have hAo : ∀ q : Nat, q < s.heap.size → ¬ (fun q : Nat => s.heap.size ≤ q) q := fun _ h => Nat.not_le.mpr h
  have hbA : ¬ (fun q : Nat => s.heap.size ≤ q) b := Nat.not_le.mpr hbl
  intro H locs ls hLW hl
  obtain ⟨W8, W9, g, t, hI, hP, hD, hS⟩ := hLW
  obtain ⟨f9, hq9⟩ := hI.hd9
  obtain ⟨k, v, g2, V8, V9, hw, hm, hI2, hk⟩ := C_target l hst E Z cL h h9 o u w g hI (xs (x4 + 1).toNatClampNeg)
  refine lv_aload_n hx hb dL_law_609 rfl (lv_at hl 3 rfl) ?_
  refine lv_aload_n hx hb dL_law_610 rfl (lv_at hl 4 rfl) ?_
  refine lv_iload hx hb dL_law_611 (lv_at hl 0 rfl) ?_
  refine lv_iconst (v := 1) hx hb dL_law_613 (by decide) ?_
  refine lv_iadd hx hb dL_law_614 ?_
  refine va_sld hx hb hX hbl hbA hS i1 dL_law_615 ?_
  refine lv_aload_n hx hb dL_law_616 rfl (lv_at hl 1 rfl) ?_
  refine x_gL [.ref h, .int (xs (x4 + 1).toNatClampNeg), .ref o] hw ⟨hx, hb, hml, hown, hts⟩ (vx_cwSW 3 hts gL_law_L_target rfl rfl rfl (by decide +kernel) ⟨Nat.le_of_ble_eq_true rfl, Nat.le_of_ble_eq_true rfl⟩) hZ hThr hAo hLg hE hP hD hS hA hl.1 rfl rfl (Nat.le_of_ble_eq_true rfl) dL_law_617 hc hs (fun H locs hP hD hS => ?_)
  refine lv_istore (lv' := [(5, .int k), (4, .int x4), (3, .ref o), (2, .ref h9), (1, .ref h), (0, .ref b)]) hx hb dL_law_620 hl (by decide) rfl (fun ls hl => ?_)
  refine lv_aload_n hx hb dL_law_622 rfl (lv_at hl 3 rfl) ?_
  refine lv_aload_n hx hb dL_law_623 rfl (lv_at hl 5 rfl) ?_
  refine lv_iload hx hb dL_law_624 (lv_at hl 1 rfl) ?_
  refine lv_iconst (v := 1) hx hb dL_law_626 (by decide) ?_
  refine lv_iadd hx hb dL_law_627 ?_
  refine va_sld hx hb hX hbl hbA hS i1 dL_law_628 ?_
  refine x_gV2 [.int (xs (x4 + 1).toNatClampNeg)] hm ⟨hx, hb, hml, hown, hts⟩ (cwV 1 hts gL_law_X9_target rfl rfl rfl hdX9_target ⟨Nat.le_of_ble_eq_true rfl, Nat.le_of_ble_eq_true rfl⟩) hZ hE hP hD hS hA (ci := 9) rfl rfl hq9 hl.1 rfl rfl (Nat.le_of_ble_eq_true rfl) dL_law_629 hc hs (fun H locs hP hD hS => ?_)
  refine lv_istore (lv' := [(6, .int v), (5, .int k), (4, .int x4), (3, .ref o), (2, .ref h9), (1, .ref h), (0, .ref b)]) hx hb dL_law_632 hl (by decide) rfl (fun ls hl => ?_)
  refine lv_aload_n hx hb dL_law_634 rfl (lv_at hl 4 rfl) ?_
  obtain ⟨f10, hq10⟩ := hI2.hd9
  refine x_gV2 [] (hI2.th l Z) ⟨hx, hb, hml, hown, hts⟩ (cwV 0 hts gL_law_X9_thrown rfl rfl rfl hdX9_thrown ⟨Nat.le_of_ble_eq_true rfl, Nat.le_of_ble_eq_true rfl⟩) hZ hE hP hD hS hA (ci := 9) rfl rfl hq10 hl.1 rfl rfl (Nat.le_of_ble_eq_true rfl) dL_law_635 hc hs (fun H locs hP hD hS => ?_)
  refine lv_iload hx hb dL_law_638 (lv_at hl 1 rfl) ?_
  refine lv_icmp_eq (tgt := 645) hx hb dL_law_640 (by decide) (fun _ => ?_) (fun z => absurd rfl z)
  refine lv_iload hx hb dL_law_645 (lv_at hl 1 rfl) ?_
  refine lv_if_ne (tgt := 662) hx hb dL_law_647 (by decide) (fun _ => ?_) (fun z => ?_)
  rotate_left
  refine lv_aload_n hx hb dL_law_650 rfl (lv_at hl 3 rfl) ?_
  refine lv_iconst (v := 0) hx hb dL_law_651 (by decide) ?_
  refine va_lald (D := E.1) (cl := vwCl) (tys := [(cL, .long)]) hx hb hLg.1 hP V8.length 0 (x_left (x_right (k := 0) rfl)) rfl (x_lit (m := 1) (k := 0) (Nat.le_refl _) (by decide) (by decide)) dL_law_652 ?_
  rw [show g2 (Int32.toNatClampNeg 0) = v.toInt64 from hk z]
  refine lv_iload hx hb dL_law_653 (lv_at hl 0 rfl) ?_
  refine lv_i2l hx hb dL_law_655 rfl ?_
  refine W.lcmp hx hb dL_law_656 ?_
  refine lv_if_eq (tgt := 662) hx hb dL_law_657 (by decide) (fun _ => ?_) (fun q => absurd (lc_cmp _) q)
  refine lv_goto (tgt := 1686) hx hb dL_law_662 (by decide) ?_
  exact kk H locs ls ⟨V8, V9, g2, k, hI2, hP, hD, hS⟩ (lv_sub hl [2, 3, 4, 5, 6] rfl)
  refine lv_goto (tgt := 1686) hx hb dL_law_662 (by decide) ?_
  exact kk H locs ls ⟨V8, V9, g2, k, hI2, hP, hD, hS⟩ (lv_sub hl [2, 3, 4, 5, 6] rfl)
set_option maxHeartbeats 4000000 in
set_option maxRecDepth 100000 in
theorem lc_push (hst : l.stackTraces = false) (C0 : xCx p s m c b L xs E Z cL) (hc : cells + 1 ≤ 601024) (hs : slots + 6 ≤ 7293034) (i1 : vp_in (x4 + 1) L) (i2 : vp_in (x4 + 2) L) (i3 : vp_in (x4 + 3) L) (i4 : vp_in (x4 + 4) L) (i5 : vp_in (x4 + 5) L) (kk : xHd p l e s m below meth c E cL h h9 o b u w x4 1686 (cells + 1) (slots + 6)) : xHd p l e s m below meth c E cL h h9 o b u w x4 665 cells slots := by
  obtain ⟨hx, hb, hml, hown, hts, hX, hbl, hE, hZ, hThr, hLg⟩ := C0
  have hA : ∀ q : Nat, s.heap.size ≤ q → (fun q : Nat => s.heap.size ≤ q) q := fun _ h => h
  have hAo : ∀ q : Nat, q < s.heap.size → ¬ (fun q : Nat => s.heap.size ≤ q) q := fun _ h => Nat.not_le.mpr h
  have hbA : ¬ (fun q : Nat => s.heap.size ≤ q) b := Nat.not_le.mpr hbl
  intro H locs ls hLW hl
  obtain ⟨W8, W9, g, t, hI, hP, hD, hS⟩ := hLW
  obtain ⟨f9, hq9⟩ := hI.hd9
  obtain ⟨f8, hq8⟩ := hI.hd8
  obtain ⟨rm, t2, v, V8, V9, hrc, hrs, hfr, hlo, hxx, hm, hI2⟩ := C_push l E Z h h9 u w hI 
  refine lv_aload_n hx hb dL_law_665 rfl (lv_at hl 3 rfl) ?_
  rw [List.append_assoc] at hP hD
  refine x_gV [] hxx ⟨hx, hb, hml, hown, hts⟩ (cwV 0 hts gL_law_X8_push rfl hrc hrs hdX8_push ⟨hfr, hlo⟩) hZ hE hP hD hS hA (ci := 8) rfl rfl hq8 hl.1 rfl rfl (Nat.le_of_ble_eq_true rfl) dL_law_666 (Nat.le_of_succ_le hc) (Nat.le_trans (Nat.le_add_right _ 6) hs) (fun H locs hP hD hS => ?_)
  rw [← List.append_assoc] at hP hD
  refine lv_aload_n hx hb dL_law_669 rfl (lv_at hl 2 rfl) ?_
  refine x_gV2 [] hm ⟨hx, hb, hml, hown, hts⟩ (cwV 0 hts gL_law_X9_push rfl rfl rfl hdX9_push ⟨Nat.le_of_ble_eq_true rfl, Nat.le_of_ble_eq_true rfl⟩) hZ hE hP hD hS hA (ci := 9) rfl rfl hq9 hl.1 rfl rfl (Nat.le_of_ble_eq_true rfl) dL_law_670 (Nat.le_of_succ_le hc) (Nat.le_trans (Nat.le_add_right _ 6) hs) (fun H locs hP hD hS => ?_)
  refine lv_icmp_eq (tgt := 1686) hx hb dL_law_673 (by decide) (fun _ => ?_) (fun z => absurd rfl z)
  refine W.widen (k := cells + 1) (n := slots + 6) (Nat.le_add_right _ _) (Nat.le_add_right _ _) ?_
  exact kk H locs ls ⟨V8, V9, g, t2, hI2, hP, hD, hS⟩ hl
set_option maxHeartbeats 4000000 in
set_option maxRecDepth 100000 in
theorem lc_stopReason (hst : l.stackTraces = false) (C0 : xCx p s m c b L xs E Z cL) (hc : cells + 1 ≤ 601024) (hs : slots + 6 ≤ 7293034) (i1 : vp_in (x4 + 1) L) (i2 : vp_in (x4 + 2) L) (i3 : vp_in (x4 + 3) L) (i4 : vp_in (x4 + 4) L) (i5 : vp_in (x4 + 5) L) (kk : xHd p l e s m below meth c E cL h h9 o b u w x4 1686 (cells + 1) (slots + 6)) : xHd p l e s m below meth c E cL h h9 o b u w x4 678 cells slots := by
  obtain ⟨hx, hb, hml, hown, hts, hX, hbl, hE, hZ, hThr, hLg⟩ := C0
  have hA : ∀ q : Nat, s.heap.size ≤ q → (fun q : Nat => s.heap.size ≤ q) q := fun _ h => h
  have hAo : ∀ q : Nat, q < s.heap.size → ¬ (fun q : Nat => s.heap.size ≤ q) q := fun _ h => Nat.not_le.mpr h
  have hbA : ¬ (fun q : Nat => s.heap.size ≤ q) b := Nat.not_le.mpr hbl
  intro H locs ls hLW hl
  obtain ⟨W8, W9, g, t, hI, hP, hD, hS⟩ := hLW
  obtain ⟨f9, hq9⟩ := hI.hd9
  obtain ⟨f8, hq8⟩ := hI.hd8
  obtain ⟨rm, t2, v, V8, V9, hrc, hrs, hfr, hlo, hxx, hm, hI2⟩ := C_stopReason l E Z h h9 u w hI 
  refine lv_aload_n hx hb dL_law_678 rfl (lv_at hl 3 rfl) ?_
  rw [List.append_assoc] at hP hD
  refine x_gV [] hxx ⟨hx, hb, hml, hown, hts⟩ (cwV 0 hts gL_law_X8_stopReason rfl hrc hrs hdX8_stopReason ⟨hfr, hlo⟩) hZ hE hP hD hS hA (ci := 8) rfl rfl hq8 hl.1 rfl rfl (Nat.le_of_ble_eq_true rfl) dL_law_679 (Nat.le_of_succ_le hc) (Nat.le_trans (Nat.le_add_right _ 6) hs) (fun H locs hP hD hS => ?_)
  rw [← List.append_assoc] at hP hD
  refine lv_aload_n hx hb dL_law_682 rfl (lv_at hl 2 rfl) ?_
  refine x_gV2 [] hm ⟨hx, hb, hml, hown, hts⟩ (cwV 0 hts gL_law_X9_stopReason rfl rfl rfl hdX9_stopReason ⟨Nat.le_of_ble_eq_true rfl, Nat.le_of_ble_eq_true rfl⟩) hZ hE hP hD hS hA (ci := 9) rfl rfl hq9 hl.1 rfl rfl (Nat.le_of_ble_eq_true rfl) dL_law_683 (Nat.le_of_succ_le hc) (Nat.le_trans (Nat.le_add_right _ 6) hs) (fun H locs hP hD hS => ?_)
  refine lv_icmp_eq (tgt := 1686) hx hb dL_law_686 (by decide) (fun _ => ?_) (fun z => absurd rfl z)
  refine W.widen (k := cells + 1) (n := slots + 6) (Nat.le_add_right _ _) (Nat.le_add_right _ _) ?_
  exact kk H locs ls ⟨V8, V9, g, t2, hI2, hP, hD, hS⟩ hl
set_option maxHeartbeats 4000000 in
set_option maxRecDepth 100000 in
theorem lc_switchesIn (hst : l.stackTraces = false) (C0 : xCx p s m c b L xs E Z cL) (hc : cells + 1 ≤ 601024) (hs : slots + 6 ≤ 7293034) (i1 : vp_in (x4 + 1) L) (i2 : vp_in (x4 + 2) L) (i3 : vp_in (x4 + 3) L) (i4 : vp_in (x4 + 4) L) (i5 : vp_in (x4 + 5) L) (kk : xHd p l e s m below meth c E cL h h9 o b u w x4 1686 (cells + 1) (slots + 6)) : xHd p l e s m below meth c E cL h h9 o b u w x4 691 cells slots := by
  obtain ⟨hx, hb, hml, hown, hts, hX, hbl, hE, hZ, hThr, hLg⟩ := C0
  have hA : ∀ q : Nat, s.heap.size ≤ q → (fun q : Nat => s.heap.size ≤ q) q := fun _ h => h
  have hAo : ∀ q : Nat, q < s.heap.size → ¬ (fun q : Nat => s.heap.size ≤ q) q := fun _ h => Nat.not_le.mpr h
  have hbA : ¬ (fun q : Nat => s.heap.size ≤ q) b := Nat.not_le.mpr hbl
  intro H locs ls hLW hl
  obtain ⟨W8, W9, g, t, hI, hP, hD, hS⟩ := hLW
  obtain ⟨f9, hq9⟩ := hI.hd9
  obtain ⟨k, v, g2, V8, V9, hw, hm, hI2, hk⟩ := C_switchesIn l hst E Z cL h h9 o u w g hI (xs (x4 + 1).toNatClampNeg)
  refine lv_aload_n hx hb dL_law_691 rfl (lv_at hl 3 rfl) ?_
  refine lv_aload_n hx hb dL_law_692 rfl (lv_at hl 4 rfl) ?_
  refine lv_iload hx hb dL_law_693 (lv_at hl 0 rfl) ?_
  refine lv_iconst (v := 1) hx hb dL_law_695 (by decide) ?_
  refine lv_iadd hx hb dL_law_696 ?_
  refine va_sld hx hb hX hbl hbA hS i1 dL_law_697 ?_
  refine lv_aload_n hx hb dL_law_698 rfl (lv_at hl 1 rfl) ?_
  refine x_gL [.ref h, .int (xs (x4 + 1).toNatClampNeg), .ref o] hw ⟨hx, hb, hml, hown, hts⟩ (vx_cwSW 3 hts gL_law_L_switchesIn rfl rfl rfl (by decide +kernel) ⟨Nat.le_of_ble_eq_true rfl, Nat.le_of_ble_eq_true rfl⟩) hZ hThr hAo hLg hE hP hD hS hA hl.1 rfl rfl (Nat.le_of_ble_eq_true rfl) dL_law_699 hc hs (fun H locs hP hD hS => ?_)
  refine lv_istore (lv' := [(5, .int k), (4, .int x4), (3, .ref o), (2, .ref h9), (1, .ref h), (0, .ref b)]) hx hb dL_law_702 hl (by decide) rfl (fun ls hl => ?_)
  refine lv_aload_n hx hb dL_law_704 rfl (lv_at hl 3 rfl) ?_
  refine lv_aload_n hx hb dL_law_705 rfl (lv_at hl 5 rfl) ?_
  refine lv_iload hx hb dL_law_706 (lv_at hl 1 rfl) ?_
  refine lv_iconst (v := 1) hx hb dL_law_708 (by decide) ?_
  refine lv_iadd hx hb dL_law_709 ?_
  refine va_sld hx hb hX hbl hbA hS i1 dL_law_710 ?_
  refine x_gV2 [.int (xs (x4 + 1).toNatClampNeg)] hm ⟨hx, hb, hml, hown, hts⟩ (cwV 1 hts gL_law_X9_switchesIn rfl rfl rfl hdX9_switchesIn ⟨Nat.le_of_ble_eq_true rfl, Nat.le_of_ble_eq_true rfl⟩) hZ hE hP hD hS hA (ci := 9) rfl rfl hq9 hl.1 rfl rfl (Nat.le_of_ble_eq_true rfl) dL_law_711 hc hs (fun H locs hP hD hS => ?_)
  refine lv_istore (lv' := [(6, .int v), (5, .int k), (4, .int x4), (3, .ref o), (2, .ref h9), (1, .ref h), (0, .ref b)]) hx hb dL_law_714 hl (by decide) rfl (fun ls hl => ?_)
  refine lv_aload_n hx hb dL_law_716 rfl (lv_at hl 4 rfl) ?_
  obtain ⟨f10, hq10⟩ := hI2.hd9
  refine x_gV2 [] (hI2.th l Z) ⟨hx, hb, hml, hown, hts⟩ (cwV 0 hts gL_law_X9_thrown rfl rfl rfl hdX9_thrown ⟨Nat.le_of_ble_eq_true rfl, Nat.le_of_ble_eq_true rfl⟩) hZ hE hP hD hS hA (ci := 9) rfl rfl hq10 hl.1 rfl rfl (Nat.le_of_ble_eq_true rfl) dL_law_717 hc hs (fun H locs hP hD hS => ?_)
  refine lv_iload hx hb dL_law_720 (lv_at hl 1 rfl) ?_
  refine lv_icmp_eq (tgt := 727) hx hb dL_law_722 (by decide) (fun _ => ?_) (fun z => absurd rfl z)
  refine lv_iload hx hb dL_law_727 (lv_at hl 1 rfl) ?_
  refine lv_if_ne (tgt := 744) hx hb dL_law_729 (by decide) (fun _ => ?_) (fun z => ?_)
  rotate_left
  refine lv_aload_n hx hb dL_law_732 rfl (lv_at hl 3 rfl) ?_
  refine lv_iconst (v := 0) hx hb dL_law_733 (by decide) ?_
  refine va_lald (D := E.1) (cl := vwCl) (tys := [(cL, .long)]) hx hb hLg.1 hP V8.length 0 (x_left (x_right (k := 0) rfl)) rfl (x_lit (m := 1) (k := 0) (Nat.le_refl _) (by decide) (by decide)) dL_law_734 ?_
  rw [show g2 (Int32.toNatClampNeg 0) = v.toInt64 from hk z]
  refine lv_iload hx hb dL_law_735 (lv_at hl 0 rfl) ?_
  refine lv_i2l hx hb dL_law_737 rfl ?_
  refine W.lcmp hx hb dL_law_738 ?_
  refine lv_if_eq (tgt := 744) hx hb dL_law_739 (by decide) (fun _ => ?_) (fun q => absurd (lc_cmp _) q)
  refine lv_goto (tgt := 1686) hx hb dL_law_744 (by decide) ?_
  exact kk H locs ls ⟨V8, V9, g2, k, hI2, hP, hD, hS⟩ (lv_sub hl [2, 3, 4, 5, 6] rfl)
  refine lv_goto (tgt := 1686) hx hb dL_law_744 (by decide) ?_
  exact kk H locs ls ⟨V8, V9, g2, k, hI2, hP, hD, hS⟩ (lv_sub hl [2, 3, 4, 5, 6] rfl)
set_option maxHeartbeats 4000000 in
set_option maxRecDepth 100000 in
theorem lc_reason (hst : l.stackTraces = false) (C0 : xCx p s m c b L xs E Z cL) (hc : cells + 1 ≤ 601024) (hs : slots + 6 ≤ 7293034) (i1 : vp_in (x4 + 1) L) (i2 : vp_in (x4 + 2) L) (i3 : vp_in (x4 + 3) L) (i4 : vp_in (x4 + 4) L) (i5 : vp_in (x4 + 5) L) (kk : xHd p l e s m below meth c E cL h h9 o b u w x4 1686 (cells + 1) (slots + 6)) : xHd p l e s m below meth c E cL h h9 o b u w x4 747 cells slots := by
  obtain ⟨hx, hb, hml, hown, hts, hX, hbl, hE, hZ, hThr, hLg⟩ := C0
  have hA : ∀ q : Nat, s.heap.size ≤ q → (fun q : Nat => s.heap.size ≤ q) q := fun _ h => h
  have hAo : ∀ q : Nat, q < s.heap.size → ¬ (fun q : Nat => s.heap.size ≤ q) q := fun _ h => Nat.not_le.mpr h
  have hbA : ¬ (fun q : Nat => s.heap.size ≤ q) b := Nat.not_le.mpr hbl
  intro H locs ls hLW hl
  obtain ⟨W8, W9, g, t, hI, hP, hD, hS⟩ := hLW
  obtain ⟨f9, hq9⟩ := hI.hd9
  obtain ⟨k, v, g2, V8, V9, hw, hm, hI2, hk⟩ := C_reason l hst E Z cL h h9 o u w g hI (xs (x4 + 1).toNatClampNeg) (xs (x4 + 2).toNatClampNeg)
  refine lv_aload_n hx hb dL_law_747 rfl (lv_at hl 3 rfl) ?_
  refine lv_aload_n hx hb dL_law_748 rfl (lv_at hl 4 rfl) ?_
  refine lv_iload hx hb dL_law_749 (lv_at hl 0 rfl) ?_
  refine lv_iconst (v := 1) hx hb dL_law_751 (by decide) ?_
  refine lv_iadd hx hb dL_law_752 ?_
  refine va_sld hx hb hX hbl hbA hS i1 dL_law_753 ?_
  refine lv_aload_n hx hb dL_law_754 rfl (lv_at hl 4 rfl) ?_
  refine lv_iload hx hb dL_law_755 (lv_at hl 0 rfl) ?_
  refine lv_iconst (v := 2) hx hb dL_law_757 (by decide) ?_
  refine lv_iadd hx hb dL_law_758 ?_
  refine va_sld hx hb hX hbl hbA hS i2 dL_law_759 ?_
  refine lv_aload_n hx hb dL_law_760 rfl (lv_at hl 1 rfl) ?_
  refine x_gL [.ref h, .int (xs (x4 + 1).toNatClampNeg), .int (xs (x4 + 2).toNatClampNeg), .ref o] hw ⟨hx, hb, hml, hown, hts⟩ (vx_cwSW 4 hts gL_law_L_reason rfl rfl rfl (by decide +kernel) ⟨Nat.le_of_ble_eq_true rfl, Nat.le_of_ble_eq_true rfl⟩) hZ hThr hAo hLg hE hP hD hS hA hl.1 rfl rfl (Nat.le_of_ble_eq_true rfl) dL_law_761 hc hs (fun H locs hP hD hS => ?_)
  refine lv_istore (lv' := [(5, .int k), (4, .int x4), (3, .ref o), (2, .ref h9), (1, .ref h), (0, .ref b)]) hx hb dL_law_764 hl (by decide) rfl (fun ls hl => ?_)
  refine lv_aload_n hx hb dL_law_766 rfl (lv_at hl 3 rfl) ?_
  refine lv_aload_n hx hb dL_law_767 rfl (lv_at hl 5 rfl) ?_
  refine lv_iload hx hb dL_law_768 (lv_at hl 1 rfl) ?_
  refine lv_iconst (v := 1) hx hb dL_law_770 (by decide) ?_
  refine lv_iadd hx hb dL_law_771 ?_
  refine va_sld hx hb hX hbl hbA hS i1 dL_law_772 ?_
  refine lv_aload_n hx hb dL_law_773 rfl (lv_at hl 5 rfl) ?_
  refine lv_iload hx hb dL_law_774 (lv_at hl 1 rfl) ?_
  refine lv_iconst (v := 2) hx hb dL_law_776 (by decide) ?_
  refine lv_iadd hx hb dL_law_777 ?_
  refine va_sld hx hb hX hbl hbA hS i2 dL_law_778 ?_
  refine x_gV2 [.int (xs (x4 + 1).toNatClampNeg), .int (xs (x4 + 2).toNatClampNeg)] hm ⟨hx, hb, hml, hown, hts⟩ (cwV 2 hts gL_law_X9_reason rfl rfl rfl hdX9_reason ⟨Nat.le_of_ble_eq_true rfl, Nat.le_of_ble_eq_true rfl⟩) hZ hE hP hD hS hA (ci := 9) rfl rfl hq9 hl.1 rfl rfl (Nat.le_of_ble_eq_true rfl) dL_law_779 hc hs (fun H locs hP hD hS => ?_)
  refine lv_istore (lv' := [(6, .int v), (5, .int k), (4, .int x4), (3, .ref o), (2, .ref h9), (1, .ref h), (0, .ref b)]) hx hb dL_law_782 hl (by decide) rfl (fun ls hl => ?_)
  refine lv_aload_n hx hb dL_law_784 rfl (lv_at hl 4 rfl) ?_
  obtain ⟨f10, hq10⟩ := hI2.hd9
  refine x_gV2 [] (hI2.th l Z) ⟨hx, hb, hml, hown, hts⟩ (cwV 0 hts gL_law_X9_thrown rfl rfl rfl hdX9_thrown ⟨Nat.le_of_ble_eq_true rfl, Nat.le_of_ble_eq_true rfl⟩) hZ hE hP hD hS hA (ci := 9) rfl rfl hq10 hl.1 rfl rfl (Nat.le_of_ble_eq_true rfl) dL_law_785 hc hs (fun H locs hP hD hS => ?_)
  refine lv_iload hx hb dL_law_788 (lv_at hl 1 rfl) ?_
  refine lv_icmp_eq (tgt := 795) hx hb dL_law_790 (by decide) (fun _ => ?_) (fun z => absurd rfl z)
  refine lv_iload hx hb dL_law_795 (lv_at hl 1 rfl) ?_
  refine lv_if_ne (tgt := 812) hx hb dL_law_797 (by decide) (fun _ => ?_) (fun z => ?_)
  rotate_left
  refine lv_aload_n hx hb dL_law_800 rfl (lv_at hl 3 rfl) ?_
  refine lv_iconst (v := 0) hx hb dL_law_801 (by decide) ?_
  refine va_lald (D := E.1) (cl := vwCl) (tys := [(cL, .long)]) hx hb hLg.1 hP V8.length 0 (x_left (x_right (k := 0) rfl)) rfl (x_lit (m := 1) (k := 0) (Nat.le_refl _) (by decide) (by decide)) dL_law_802 ?_
  rw [show g2 (Int32.toNatClampNeg 0) = v.toInt64 from hk z]
  refine lv_iload hx hb dL_law_803 (lv_at hl 0 rfl) ?_
  refine lv_i2l hx hb dL_law_805 rfl ?_
  refine W.lcmp hx hb dL_law_806 ?_
  refine lv_if_eq (tgt := 812) hx hb dL_law_807 (by decide) (fun _ => ?_) (fun q => absurd (lc_cmp _) q)
  refine lv_goto (tgt := 1686) hx hb dL_law_812 (by decide) ?_
  exact kk H locs ls ⟨V8, V9, g2, k, hI2, hP, hD, hS⟩ (lv_sub hl [2, 3, 4, 5, 6] rfl)
  refine lv_goto (tgt := 1686) hx hb dL_law_812 (by decide) ?_
  exact kk H locs ls ⟨V8, V9, g2, k, hI2, hP, hD, hS⟩ (lv_sub hl [2, 3, 4, 5, 6] rfl)
set_option maxHeartbeats 4000000 in
set_option maxRecDepth 100000 in
theorem lc_failedStep (hst : l.stackTraces = false) (C0 : xCx p s m c b L xs E Z cL) (hc : cells + 1 ≤ 601024) (hs : slots + 6 ≤ 7293034) (i1 : vp_in (x4 + 1) L) (i2 : vp_in (x4 + 2) L) (i3 : vp_in (x4 + 3) L) (i4 : vp_in (x4 + 4) L) (i5 : vp_in (x4 + 5) L) (kk : xHd p l e s m below meth c E cL h h9 o b u w x4 1686 (cells + 1) (slots + 6)) : xHd p l e s m below meth c E cL h h9 o b u w x4 815 cells slots := by
  obtain ⟨hx, hb, hml, hown, hts, hX, hbl, hE, hZ, hThr, hLg⟩ := C0
  have hA : ∀ q : Nat, s.heap.size ≤ q → (fun q : Nat => s.heap.size ≤ q) q := fun _ h => h
  have hAo : ∀ q : Nat, q < s.heap.size → ¬ (fun q : Nat => s.heap.size ≤ q) q := fun _ h => Nat.not_le.mpr h
  have hbA : ¬ (fun q : Nat => s.heap.size ≤ q) b := Nat.not_le.mpr hbl
  intro H locs ls hLW hl
  obtain ⟨W8, W9, g, t, hI, hP, hD, hS⟩ := hLW
  obtain ⟨f9, hq9⟩ := hI.hd9
  obtain ⟨k, v, g2, V8, V9, hw, hm, hI2, hk⟩ := C_failedStep l hst E Z cL h h9 o u w g hI (xs (x4 + 1).toNatClampNeg) (xs (x4 + 2).toNatClampNeg)
  refine lv_aload_n hx hb dL_law_815 rfl (lv_at hl 3 rfl) ?_
  refine lv_aload_n hx hb dL_law_816 rfl (lv_at hl 4 rfl) ?_
  refine lv_iload hx hb dL_law_817 (lv_at hl 0 rfl) ?_
  refine lv_iconst (v := 1) hx hb dL_law_819 (by decide) ?_
  refine lv_iadd hx hb dL_law_820 ?_
  refine va_sld hx hb hX hbl hbA hS i1 dL_law_821 ?_
  refine lv_aload_n hx hb dL_law_822 rfl (lv_at hl 4 rfl) ?_
  refine lv_iload hx hb dL_law_823 (lv_at hl 0 rfl) ?_
  refine lv_iconst (v := 2) hx hb dL_law_825 (by decide) ?_
  refine lv_iadd hx hb dL_law_826 ?_
  refine va_sld hx hb hX hbl hbA hS i2 dL_law_827 ?_
  refine lv_aload_n hx hb dL_law_828 rfl (lv_at hl 1 rfl) ?_
  refine x_gL [.ref h, .int (xs (x4 + 1).toNatClampNeg), .int (xs (x4 + 2).toNatClampNeg), .ref o] hw ⟨hx, hb, hml, hown, hts⟩ (vx_cwSW 4 hts gL_law_L_failedStep rfl rfl rfl (by decide +kernel) ⟨Nat.le_of_ble_eq_true rfl, Nat.le_of_ble_eq_true rfl⟩) hZ hThr hAo hLg hE hP hD hS hA hl.1 rfl rfl (Nat.le_of_ble_eq_true rfl) dL_law_829 hc hs (fun H locs hP hD hS => ?_)
  refine lv_istore (lv' := [(5, .int k), (4, .int x4), (3, .ref o), (2, .ref h9), (1, .ref h), (0, .ref b)]) hx hb dL_law_832 hl (by decide) rfl (fun ls hl => ?_)
  refine lv_aload_n hx hb dL_law_834 rfl (lv_at hl 3 rfl) ?_
  refine lv_aload_n hx hb dL_law_835 rfl (lv_at hl 5 rfl) ?_
  refine lv_iload hx hb dL_law_836 (lv_at hl 1 rfl) ?_
  refine lv_iconst (v := 1) hx hb dL_law_838 (by decide) ?_
  refine lv_iadd hx hb dL_law_839 ?_
  refine va_sld hx hb hX hbl hbA hS i1 dL_law_840 ?_
  refine lv_aload_n hx hb dL_law_841 rfl (lv_at hl 5 rfl) ?_
  refine lv_iload hx hb dL_law_842 (lv_at hl 1 rfl) ?_
  refine lv_iconst (v := 2) hx hb dL_law_844 (by decide) ?_
  refine lv_iadd hx hb dL_law_845 ?_
  refine va_sld hx hb hX hbl hbA hS i2 dL_law_846 ?_
  refine x_gV2 [.int (xs (x4 + 1).toNatClampNeg), .int (xs (x4 + 2).toNatClampNeg)] hm ⟨hx, hb, hml, hown, hts⟩ (cwV 2 hts gL_law_X9_failedStep rfl rfl rfl hdX9_failedStep ⟨Nat.le_of_ble_eq_true rfl, Nat.le_of_ble_eq_true rfl⟩) hZ hE hP hD hS hA (ci := 9) rfl rfl hq9 hl.1 rfl rfl (Nat.le_of_ble_eq_true rfl) dL_law_847 hc hs (fun H locs hP hD hS => ?_)
  refine lv_istore (lv' := [(6, .int v), (5, .int k), (4, .int x4), (3, .ref o), (2, .ref h9), (1, .ref h), (0, .ref b)]) hx hb dL_law_850 hl (by decide) rfl (fun ls hl => ?_)
  refine lv_aload_n hx hb dL_law_852 rfl (lv_at hl 4 rfl) ?_
  obtain ⟨f10, hq10⟩ := hI2.hd9
  refine x_gV2 [] (hI2.th l Z) ⟨hx, hb, hml, hown, hts⟩ (cwV 0 hts gL_law_X9_thrown rfl rfl rfl hdX9_thrown ⟨Nat.le_of_ble_eq_true rfl, Nat.le_of_ble_eq_true rfl⟩) hZ hE hP hD hS hA (ci := 9) rfl rfl hq10 hl.1 rfl rfl (Nat.le_of_ble_eq_true rfl) dL_law_853 hc hs (fun H locs hP hD hS => ?_)
  refine lv_iload hx hb dL_law_856 (lv_at hl 1 rfl) ?_
  refine lv_icmp_eq (tgt := 863) hx hb dL_law_858 (by decide) (fun _ => ?_) (fun z => absurd rfl z)
  refine lv_iload hx hb dL_law_863 (lv_at hl 1 rfl) ?_
  refine lv_if_ne (tgt := 880) hx hb dL_law_865 (by decide) (fun _ => ?_) (fun z => ?_)
  rotate_left
  refine lv_aload_n hx hb dL_law_868 rfl (lv_at hl 3 rfl) ?_
  refine lv_iconst (v := 0) hx hb dL_law_869 (by decide) ?_
  refine va_lald (D := E.1) (cl := vwCl) (tys := [(cL, .long)]) hx hb hLg.1 hP V8.length 0 (x_left (x_right (k := 0) rfl)) rfl (x_lit (m := 1) (k := 0) (Nat.le_refl _) (by decide) (by decide)) dL_law_870 ?_
  rw [show g2 (Int32.toNatClampNeg 0) = v.toInt64 from hk z]
  refine lv_iload hx hb dL_law_871 (lv_at hl 0 rfl) ?_
  refine lv_i2l hx hb dL_law_873 rfl ?_
  refine W.lcmp hx hb dL_law_874 ?_
  refine lv_if_eq (tgt := 880) hx hb dL_law_875 (by decide) (fun _ => ?_) (fun q => absurd (lc_cmp _) q)
  refine lv_goto (tgt := 1686) hx hb dL_law_880 (by decide) ?_
  exact kk H locs ls ⟨V8, V9, g2, k, hI2, hP, hD, hS⟩ (lv_sub hl [2, 3, 4, 5, 6] rfl)
  refine lv_goto (tgt := 1686) hx hb dL_law_880 (by decide) ?_
  exact kk H locs ls ⟨V8, V9, g2, k, hI2, hP, hD, hS⟩ (lv_sub hl [2, 3, 4, 5, 6] rfl)
set_option maxHeartbeats 4000000 in
set_option maxRecDepth 100000 in
theorem lc_regionSize (hst : l.stackTraces = false) (C0 : xCx p s m c b L xs E Z cL) (hc : cells + 1 ≤ 601024) (hs : slots + 6 ≤ 7293034) (i1 : vp_in (x4 + 1) L) (i2 : vp_in (x4 + 2) L) (i3 : vp_in (x4 + 3) L) (i4 : vp_in (x4 + 4) L) (i5 : vp_in (x4 + 5) L) (kk : xHd p l e s m below meth c E cL h h9 o b u w x4 1686 (cells + 1) (slots + 6)) : xHd p l e s m below meth c E cL h h9 o b u w x4 883 cells slots := by
  obtain ⟨hx, hb, hml, hown, hts, hX, hbl, hE, hZ, hThr, hLg⟩ := C0
  have hA : ∀ q : Nat, s.heap.size ≤ q → (fun q : Nat => s.heap.size ≤ q) q := fun _ h => h
  have hAo : ∀ q : Nat, q < s.heap.size → ¬ (fun q : Nat => s.heap.size ≤ q) q := fun _ h => Nat.not_le.mpr h
  have hbA : ¬ (fun q : Nat => s.heap.size ≤ q) b := Nat.not_le.mpr hbl
  intro H locs ls hLW hl
  obtain ⟨W8, W9, g, t, hI, hP, hD, hS⟩ := hLW
  obtain ⟨f9, hq9⟩ := hI.hd9
  obtain ⟨f8, hq8⟩ := hI.hd8
  obtain ⟨rm, t2, v, V8, V9, hrc, hrs, hfr, hlo, hxx, hm, hI2⟩ := C_regionSize l E Z h h9 u w hI 
  refine lv_aload_n hx hb dL_law_883 rfl (lv_at hl 3 rfl) ?_
  rw [List.append_assoc] at hP hD
  refine x_gV [] hxx ⟨hx, hb, hml, hown, hts⟩ (cwV 0 hts gL_law_X8_regionSize rfl hrc hrs hdX8_regionSize ⟨hfr, hlo⟩) hZ hE hP hD hS hA (ci := 8) rfl rfl hq8 hl.1 rfl rfl (Nat.le_of_ble_eq_true rfl) dL_law_884 (Nat.le_of_succ_le hc) (Nat.le_trans (Nat.le_add_right _ 6) hs) (fun H locs hP hD hS => ?_)
  rw [← List.append_assoc] at hP hD
  refine lv_aload_n hx hb dL_law_887 rfl (lv_at hl 2 rfl) ?_
  refine x_gV2 [] hm ⟨hx, hb, hml, hown, hts⟩ (cwV 0 hts gL_law_X9_regionSize rfl rfl rfl hdX9_regionSize ⟨Nat.le_of_ble_eq_true rfl, Nat.le_of_ble_eq_true rfl⟩) hZ hE hP hD hS hA (ci := 9) rfl rfl hq9 hl.1 rfl rfl (Nat.le_of_ble_eq_true rfl) dL_law_888 (Nat.le_of_succ_le hc) (Nat.le_trans (Nat.le_add_right _ 6) hs) (fun H locs hP hD hS => ?_)
  refine lv_icmp_eq (tgt := 1686) hx hb dL_law_891 (by decide) (fun _ => ?_) (fun z => absurd rfl z)
  refine W.widen (k := cells + 1) (n := slots + 6) (Nat.le_add_right _ _) (Nat.le_add_right _ _) ?_
  exact kk H locs ls ⟨V8, V9, g, t2, hI2, hP, hD, hS⟩ hl
set_option maxHeartbeats 4000000 in
set_option maxRecDepth 100000 in
theorem lc_cellsWith (hst : l.stackTraces = false) (C0 : xCx p s m c b L xs E Z cL) (hc : cells + 1 ≤ 601024) (hs : slots + 6 ≤ 7293034) (i1 : vp_in (x4 + 1) L) (i2 : vp_in (x4 + 2) L) (i3 : vp_in (x4 + 3) L) (i4 : vp_in (x4 + 4) L) (i5 : vp_in (x4 + 5) L) (kk : xHd p l e s m below meth c E cL h h9 o b u w x4 1686 (cells + 1) (slots + 6)) : xHd p l e s m below meth c E cL h h9 o b u w x4 896 cells slots := by
  obtain ⟨hx, hb, hml, hown, hts, hX, hbl, hE, hZ, hThr, hLg⟩ := C0
  have hA : ∀ q : Nat, s.heap.size ≤ q → (fun q : Nat => s.heap.size ≤ q) q := fun _ h => h
  have hAo : ∀ q : Nat, q < s.heap.size → ¬ (fun q : Nat => s.heap.size ≤ q) q := fun _ h => Nat.not_le.mpr h
  have hbA : ¬ (fun q : Nat => s.heap.size ≤ q) b := Nat.not_le.mpr hbl
  intro H locs ls hLW hl
  obtain ⟨W8, W9, g, t, hI, hP, hD, hS⟩ := hLW
  obtain ⟨f9, hq9⟩ := hI.hd9
  obtain ⟨f8, hq8⟩ := hI.hd8
  obtain ⟨rm, t2, v, V8, V9, hrc, hrs, hfr, hlo, hxx, hm, hI2⟩ := C_cellsWith l E Z h h9 u w hI (xs (x4 + 1).toNatClampNeg)
  refine lv_aload_n hx hb dL_law_896 rfl (lv_at hl 3 rfl) ?_
  refine lv_aload_n hx hb dL_law_897 rfl (lv_at hl 4 rfl) ?_
  refine lv_iload hx hb dL_law_898 (lv_at hl 0 rfl) ?_
  refine lv_iconst (v := 1) hx hb dL_law_900 (by decide) ?_
  refine lv_iadd hx hb dL_law_901 ?_
  refine va_sld hx hb hX hbl hbA hS i1 dL_law_902 ?_
  rw [List.append_assoc] at hP hD
  refine x_gV [.int (xs (x4 + 1).toNatClampNeg)] hxx ⟨hx, hb, hml, hown, hts⟩ (cwV 1 hts gL_law_X8_cellsWith rfl hrc hrs hdX8_cellsWith ⟨hfr, hlo⟩) hZ hE hP hD hS hA (ci := 8) rfl rfl hq8 hl.1 rfl rfl (Nat.le_of_ble_eq_true rfl) dL_law_903 (Nat.le_of_succ_le hc) (Nat.le_trans (Nat.le_add_right _ 6) hs) (fun H locs hP hD hS => ?_)
  rw [← List.append_assoc] at hP hD
  refine lv_aload_n hx hb dL_law_906 rfl (lv_at hl 2 rfl) ?_
  refine lv_aload_n hx hb dL_law_907 rfl (lv_at hl 4 rfl) ?_
  refine lv_iload hx hb dL_law_908 (lv_at hl 0 rfl) ?_
  refine lv_iconst (v := 1) hx hb dL_law_910 (by decide) ?_
  refine lv_iadd hx hb dL_law_911 ?_
  refine va_sld hx hb hX hbl hbA hS i1 dL_law_912 ?_
  refine x_gV2 [.int (xs (x4 + 1).toNatClampNeg)] hm ⟨hx, hb, hml, hown, hts⟩ (cwV 1 hts gL_law_X9_cellsWith rfl rfl rfl hdX9_cellsWith ⟨Nat.le_of_ble_eq_true rfl, Nat.le_of_ble_eq_true rfl⟩) hZ hE hP hD hS hA (ci := 9) rfl rfl hq9 hl.1 rfl rfl (Nat.le_of_ble_eq_true rfl) dL_law_913 (Nat.le_of_succ_le hc) (Nat.le_trans (Nat.le_add_right _ 6) hs) (fun H locs hP hD hS => ?_)
  refine lv_icmp_eq (tgt := 1686) hx hb dL_law_916 (by decide) (fun _ => ?_) (fun z => absurd rfl z)
  refine W.widen (k := cells + 1) (n := slots + 6) (Nat.le_add_right _ _) (Nat.le_add_right _ _) ?_
  exact kk H locs ls ⟨V8, V9, g, t2, hI2, hP, hD, hS⟩ hl
set_option maxHeartbeats 4000000 in
set_option maxRecDepth 100000 in
theorem lc_cellOf (hst : l.stackTraces = false) (C0 : xCx p s m c b L xs E Z cL) (hc : cells + 1 ≤ 601024) (hs : slots + 6 ≤ 7293034) (i1 : vp_in (x4 + 1) L) (i2 : vp_in (x4 + 2) L) (i3 : vp_in (x4 + 3) L) (i4 : vp_in (x4 + 4) L) (i5 : vp_in (x4 + 5) L) (kk : xHd p l e s m below meth c E cL h h9 o b u w x4 1686 (cells + 1) (slots + 6)) : xHd p l e s m below meth c E cL h h9 o b u w x4 921 cells slots := by
  obtain ⟨hx, hb, hml, hown, hts, hX, hbl, hE, hZ, hThr, hLg⟩ := C0
  have hA : ∀ q : Nat, s.heap.size ≤ q → (fun q : Nat => s.heap.size ≤ q) q := fun _ h => h
  have hAo : ∀ q : Nat, q < s.heap.size → ¬ (fun q : Nat => s.heap.size ≤ q) q := fun _ h => Nat.not_le.mpr h
  have hbA : ¬ (fun q : Nat => s.heap.size ≤ q) b := Nat.not_le.mpr hbl
  intro H locs ls hLW hl
  obtain ⟨W8, W9, g, t, hI, hP, hD, hS⟩ := hLW
  obtain ⟨f9, hq9⟩ := hI.hd9
  obtain ⟨k, v, g2, V8, V9, hw, hm, hI2, hk⟩ := C_cellOf l hst E Z cL h h9 o u w g hI (xs (x4 + 1).toNatClampNeg) (xs (x4 + 2).toNatClampNeg)
  refine lv_aload_n hx hb dL_law_921 rfl (lv_at hl 3 rfl) ?_
  refine lv_aload_n hx hb dL_law_922 rfl (lv_at hl 4 rfl) ?_
  refine lv_iload hx hb dL_law_923 (lv_at hl 0 rfl) ?_
  refine lv_iconst (v := 1) hx hb dL_law_925 (by decide) ?_
  refine lv_iadd hx hb dL_law_926 ?_
  refine va_sld hx hb hX hbl hbA hS i1 dL_law_927 ?_
  refine lv_aload_n hx hb dL_law_928 rfl (lv_at hl 4 rfl) ?_
  refine lv_iload hx hb dL_law_929 (lv_at hl 0 rfl) ?_
  refine lv_iconst (v := 2) hx hb dL_law_931 (by decide) ?_
  refine lv_iadd hx hb dL_law_932 ?_
  refine va_sld hx hb hX hbl hbA hS i2 dL_law_933 ?_
  refine lv_aload_n hx hb dL_law_934 rfl (lv_at hl 1 rfl) ?_
  refine x_gL [.ref h, .int (xs (x4 + 1).toNatClampNeg), .int (xs (x4 + 2).toNatClampNeg), .ref o] hw ⟨hx, hb, hml, hown, hts⟩ (vx_cwSW 4 hts gL_law_L_cellOf rfl rfl rfl (by decide +kernel) ⟨Nat.le_of_ble_eq_true rfl, Nat.le_of_ble_eq_true rfl⟩) hZ hThr hAo hLg hE hP hD hS hA hl.1 rfl rfl (Nat.le_of_ble_eq_true rfl) dL_law_935 hc hs (fun H locs hP hD hS => ?_)
  refine lv_istore (lv' := [(5, .int k), (4, .int x4), (3, .ref o), (2, .ref h9), (1, .ref h), (0, .ref b)]) hx hb dL_law_938 hl (by decide) rfl (fun ls hl => ?_)
  refine lv_aload_n hx hb dL_law_940 rfl (lv_at hl 3 rfl) ?_
  refine lv_aload_n hx hb dL_law_941 rfl (lv_at hl 5 rfl) ?_
  refine lv_iload hx hb dL_law_942 (lv_at hl 1 rfl) ?_
  refine lv_iconst (v := 1) hx hb dL_law_944 (by decide) ?_
  refine lv_iadd hx hb dL_law_945 ?_
  refine va_sld hx hb hX hbl hbA hS i1 dL_law_946 ?_
  refine lv_aload_n hx hb dL_law_947 rfl (lv_at hl 5 rfl) ?_
  refine lv_iload hx hb dL_law_948 (lv_at hl 1 rfl) ?_
  refine lv_iconst (v := 2) hx hb dL_law_950 (by decide) ?_
  refine lv_iadd hx hb dL_law_951 ?_
  refine va_sld hx hb hX hbl hbA hS i2 dL_law_952 ?_
  refine x_gV2 [.int (xs (x4 + 1).toNatClampNeg), .int (xs (x4 + 2).toNatClampNeg)] hm ⟨hx, hb, hml, hown, hts⟩ (cwV 2 hts gL_law_X9_cellOf rfl rfl rfl hdX9_cellOf ⟨Nat.le_of_ble_eq_true rfl, Nat.le_of_ble_eq_true rfl⟩) hZ hE hP hD hS hA (ci := 9) rfl rfl hq9 hl.1 rfl rfl (Nat.le_of_ble_eq_true rfl) dL_law_953 hc hs (fun H locs hP hD hS => ?_)
  refine lv_istore (lv' := [(6, .int v), (5, .int k), (4, .int x4), (3, .ref o), (2, .ref h9), (1, .ref h), (0, .ref b)]) hx hb dL_law_956 hl (by decide) rfl (fun ls hl => ?_)
  refine lv_aload_n hx hb dL_law_958 rfl (lv_at hl 4 rfl) ?_
  obtain ⟨f10, hq10⟩ := hI2.hd9
  refine x_gV2 [] (hI2.th l Z) ⟨hx, hb, hml, hown, hts⟩ (cwV 0 hts gL_law_X9_thrown rfl rfl rfl hdX9_thrown ⟨Nat.le_of_ble_eq_true rfl, Nat.le_of_ble_eq_true rfl⟩) hZ hE hP hD hS hA (ci := 9) rfl rfl hq10 hl.1 rfl rfl (Nat.le_of_ble_eq_true rfl) dL_law_959 hc hs (fun H locs hP hD hS => ?_)
  refine lv_iload hx hb dL_law_962 (lv_at hl 1 rfl) ?_
  refine lv_icmp_eq (tgt := 969) hx hb dL_law_964 (by decide) (fun _ => ?_) (fun z => absurd rfl z)
  refine lv_iload hx hb dL_law_969 (lv_at hl 1 rfl) ?_
  refine lv_if_ne (tgt := 986) hx hb dL_law_971 (by decide) (fun _ => ?_) (fun z => ?_)
  rotate_left
  refine lv_aload_n hx hb dL_law_974 rfl (lv_at hl 3 rfl) ?_
  refine lv_iconst (v := 0) hx hb dL_law_975 (by decide) ?_
  refine va_lald (D := E.1) (cl := vwCl) (tys := [(cL, .long)]) hx hb hLg.1 hP V8.length 0 (x_left (x_right (k := 0) rfl)) rfl (x_lit (m := 1) (k := 0) (Nat.le_refl _) (by decide) (by decide)) dL_law_976 ?_
  rw [show g2 (Int32.toNatClampNeg 0) = v.toInt64 from hk z]
  refine lv_iload hx hb dL_law_977 (lv_at hl 0 rfl) ?_
  refine lv_i2l hx hb dL_law_979 rfl ?_
  refine W.lcmp hx hb dL_law_980 ?_
  refine lv_if_eq (tgt := 986) hx hb dL_law_981 (by decide) (fun _ => ?_) (fun q => absurd (lc_cmp _) q)
  refine lv_goto (tgt := 1686) hx hb dL_law_986 (by decide) ?_
  exact kk H locs ls ⟨V8, V9, g2, k, hI2, hP, hD, hS⟩ (lv_sub hl [2, 3, 4, 5, 6] rfl)
  refine lv_goto (tgt := 1686) hx hb dL_law_986 (by decide) ?_
  exact kk H locs ls ⟨V8, V9, g2, k, hI2, hP, hD, hS⟩ (lv_sub hl [2, 3, 4, 5, 6] rfl)
set_option maxHeartbeats 4000000 in
set_option maxRecDepth 100000 in
theorem lc_isCapturable (hst : l.stackTraces = false) (C0 : xCx p s m c b L xs E Z cL) (hc : cells + 1 ≤ 601024) (hs : slots + 6 ≤ 7293034) (i1 : vp_in (x4 + 1) L) (i2 : vp_in (x4 + 2) L) (i3 : vp_in (x4 + 3) L) (i4 : vp_in (x4 + 4) L) (i5 : vp_in (x4 + 5) L) (kk : xHd p l e s m below meth c E cL h h9 o b u w x4 1686 (cells + 1) (slots + 6)) : xHd p l e s m below meth c E cL h h9 o b u w x4 989 cells slots := by
  obtain ⟨hx, hb, hml, hown, hts, hX, hbl, hE, hZ, hThr, hLg⟩ := C0
  have hA : ∀ q : Nat, s.heap.size ≤ q → (fun q : Nat => s.heap.size ≤ q) q := fun _ h => h
  have hAo : ∀ q : Nat, q < s.heap.size → ¬ (fun q : Nat => s.heap.size ≤ q) q := fun _ h => Nat.not_le.mpr h
  have hbA : ¬ (fun q : Nat => s.heap.size ≤ q) b := Nat.not_le.mpr hbl
  intro H locs ls hLW hl
  obtain ⟨W8, W9, g, t, hI, hP, hD, hS⟩ := hLW
  obtain ⟨f9, hq9⟩ := hI.hd9
  obtain ⟨f8, hq8⟩ := hI.hd8
  obtain ⟨rm, t2, v, V8, V9, hrc, hrs, hfr, hlo, hxx, hm, hI2⟩ := C_isCapturable l E Z h h9 u w hI 
  refine lv_aload_n hx hb dL_law_989 rfl (lv_at hl 3 rfl) ?_
  rw [List.append_assoc] at hP hD
  refine x_gV [] hxx ⟨hx, hb, hml, hown, hts⟩ (cwV 0 hts gL_law_X8_isCapturable rfl hrc hrs hdX8_isCapturable ⟨hfr, hlo⟩) hZ hE hP hD hS hA (ci := 8) rfl rfl hq8 hl.1 rfl rfl (Nat.le_of_ble_eq_true rfl) dL_law_990 (Nat.le_of_succ_le hc) (Nat.le_trans (Nat.le_add_right _ 6) hs) (fun H locs hP hD hS => ?_)
  rw [← List.append_assoc] at hP hD
  refine lv_aload_n hx hb dL_law_993 rfl (lv_at hl 2 rfl) ?_
  refine x_gV2 [] hm ⟨hx, hb, hml, hown, hts⟩ (cwV 0 hts gL_law_X9_isCapturable rfl rfl rfl hdX9_isCapturable ⟨Nat.le_of_ble_eq_true rfl, Nat.le_of_ble_eq_true rfl⟩) hZ hE hP hD hS hA (ci := 9) rfl rfl hq9 hl.1 rfl rfl (Nat.le_of_ble_eq_true rfl) dL_law_994 (Nat.le_of_succ_le hc) (Nat.le_trans (Nat.le_add_right _ 6) hs) (fun H locs hP hD hS => ?_)
  refine lv_icmp_eq (tgt := 1686) hx hb dL_law_997 (by decide) (fun _ => ?_) (fun z => absurd rfl z)
  refine W.widen (k := cells + 1) (n := slots + 6) (Nat.le_add_right _ _) (Nat.le_add_right _ _) ?_
  exact kk H locs ls ⟨V8, V9, g, t2, hI2, hP, hD, hS⟩ hl
set_option maxHeartbeats 4000000 in
set_option maxRecDepth 100000 in
theorem lc_ticksToBalance (hst : l.stackTraces = false) (C0 : xCx p s m c b L xs E Z cL) (hc : cells + 1 ≤ 601024) (hs : slots + 6 ≤ 7293034) (i1 : vp_in (x4 + 1) L) (i2 : vp_in (x4 + 2) L) (i3 : vp_in (x4 + 3) L) (i4 : vp_in (x4 + 4) L) (i5 : vp_in (x4 + 5) L) (kk : xHd p l e s m below meth c E cL h h9 o b u w x4 1686 (cells + 1) (slots + 6)) : xHd p l e s m below meth c E cL h h9 o b u w x4 1002 cells slots := by
  obtain ⟨hx, hb, hml, hown, hts, hX, hbl, hE, hZ, hThr, hLg⟩ := C0
  have hA : ∀ q : Nat, s.heap.size ≤ q → (fun q : Nat => s.heap.size ≤ q) q := fun _ h => h
  have hAo : ∀ q : Nat, q < s.heap.size → ¬ (fun q : Nat => s.heap.size ≤ q) q := fun _ h => Nat.not_le.mpr h
  have hbA : ¬ (fun q : Nat => s.heap.size ≤ q) b := Nat.not_le.mpr hbl
  intro H locs ls hLW hl
  obtain ⟨W8, W9, g, t, hI, hP, hD, hS⟩ := hLW
  obtain ⟨f9, hq9⟩ := hI.hd9
  obtain ⟨k, v, g2, V8, V9, hw, hm, hI2, hk⟩ := C_ticksToBalance l hst E Z cL h h9 o u w g hI (xs (x4 + 1).toNatClampNeg)
  refine lv_aload_n hx hb dL_law_1002 rfl (lv_at hl 3 rfl) ?_
  refine lv_aload_n hx hb dL_law_1003 rfl (lv_at hl 4 rfl) ?_
  refine lv_iload hx hb dL_law_1004 (lv_at hl 0 rfl) ?_
  refine lv_iconst (v := 1) hx hb dL_law_1006 (by decide) ?_
  refine lv_iadd hx hb dL_law_1007 ?_
  refine va_sld hx hb hX hbl hbA hS i1 dL_law_1008 ?_
  refine lv_aload_n hx hb dL_law_1009 rfl (lv_at hl 1 rfl) ?_
  refine x_gL [.ref h, .int (xs (x4 + 1).toNatClampNeg), .ref o] hw ⟨hx, hb, hml, hown, hts⟩ (vx_cwSW 3 hts gL_law_L_ticksToBalance rfl rfl rfl (by decide +kernel) ⟨Nat.le_of_ble_eq_true rfl, Nat.le_of_ble_eq_true rfl⟩) hZ hThr hAo hLg hE hP hD hS hA hl.1 rfl rfl (Nat.le_of_ble_eq_true rfl) dL_law_1010 hc hs (fun H locs hP hD hS => ?_)
  refine lv_istore (lv' := [(5, .int k), (4, .int x4), (3, .ref o), (2, .ref h9), (1, .ref h), (0, .ref b)]) hx hb dL_law_1013 hl (by decide) rfl (fun ls hl => ?_)
  refine lv_aload_n hx hb dL_law_1015 rfl (lv_at hl 3 rfl) ?_
  refine lv_aload_n hx hb dL_law_1016 rfl (lv_at hl 5 rfl) ?_
  refine lv_iload hx hb dL_law_1017 (lv_at hl 1 rfl) ?_
  refine lv_iconst (v := 1) hx hb dL_law_1019 (by decide) ?_
  refine lv_iadd hx hb dL_law_1020 ?_
  refine va_sld hx hb hX hbl hbA hS i1 dL_law_1021 ?_
  refine x_gV2 [.int (xs (x4 + 1).toNatClampNeg)] hm ⟨hx, hb, hml, hown, hts⟩ (cwV 1 hts gL_law_X9_ticksToBalance rfl rfl rfl hdX9_ticksToBalance ⟨Nat.le_of_ble_eq_true rfl, Nat.le_of_ble_eq_true rfl⟩) hZ hE hP hD hS hA (ci := 9) rfl rfl hq9 hl.1 rfl rfl (Nat.le_of_ble_eq_true rfl) dL_law_1022 hc hs (fun H locs hP hD hS => ?_)
  refine lv_istore (lv' := [(6, .int v), (5, .int k), (4, .int x4), (3, .ref o), (2, .ref h9), (1, .ref h), (0, .ref b)]) hx hb dL_law_1025 hl (by decide) rfl (fun ls hl => ?_)
  refine lv_aload_n hx hb dL_law_1027 rfl (lv_at hl 4 rfl) ?_
  obtain ⟨f10, hq10⟩ := hI2.hd9
  refine x_gV2 [] (hI2.th l Z) ⟨hx, hb, hml, hown, hts⟩ (cwV 0 hts gL_law_X9_thrown rfl rfl rfl hdX9_thrown ⟨Nat.le_of_ble_eq_true rfl, Nat.le_of_ble_eq_true rfl⟩) hZ hE hP hD hS hA (ci := 9) rfl rfl hq10 hl.1 rfl rfl (Nat.le_of_ble_eq_true rfl) dL_law_1028 hc hs (fun H locs hP hD hS => ?_)
  refine lv_iload hx hb dL_law_1031 (lv_at hl 1 rfl) ?_
  refine lv_icmp_eq (tgt := 1038) hx hb dL_law_1033 (by decide) (fun _ => ?_) (fun z => absurd rfl z)
  refine lv_iload hx hb dL_law_1038 (lv_at hl 1 rfl) ?_
  refine lv_if_ne (tgt := 1055) hx hb dL_law_1040 (by decide) (fun _ => ?_) (fun z => ?_)
  rotate_left
  refine lv_aload_n hx hb dL_law_1043 rfl (lv_at hl 3 rfl) ?_
  refine lv_iconst (v := 0) hx hb dL_law_1044 (by decide) ?_
  refine va_lald (D := E.1) (cl := vwCl) (tys := [(cL, .long)]) hx hb hLg.1 hP V8.length 0 (x_left (x_right (k := 0) rfl)) rfl (x_lit (m := 1) (k := 0) (Nat.le_refl _) (by decide) (by decide)) dL_law_1045 ?_
  rw [show g2 (Int32.toNatClampNeg 0) = v.toInt64 from hk z]
  refine lv_iload hx hb dL_law_1046 (lv_at hl 0 rfl) ?_
  refine lv_i2l hx hb dL_law_1048 rfl ?_
  refine W.lcmp hx hb dL_law_1049 ?_
  refine lv_if_eq (tgt := 1055) hx hb dL_law_1050 (by decide) (fun _ => ?_) (fun q => absurd (lc_cmp _) q)
  refine lv_goto (tgt := 1686) hx hb dL_law_1055 (by decide) ?_
  exact kk H locs ls ⟨V8, V9, g2, k, hI2, hP, hD, hS⟩ (lv_sub hl [2, 3, 4, 5, 6] rfl)
  refine lv_goto (tgt := 1686) hx hb dL_law_1055 (by decide) ?_
  exact kk H locs ls ⟨V8, V9, g2, k, hI2, hP, hD, hS⟩ (lv_sub hl [2, 3, 4, 5, 6] rfl)
set_option maxHeartbeats 4000000 in
set_option maxRecDepth 100000 in
theorem lc_ticksToStop (hst : l.stackTraces = false) (C0 : xCx p s m c b L xs E Z cL) (hc : cells + 1 ≤ 601024) (hs : slots + 6 ≤ 7293034) (i1 : vp_in (x4 + 1) L) (i2 : vp_in (x4 + 2) L) (i3 : vp_in (x4 + 3) L) (i4 : vp_in (x4 + 4) L) (i5 : vp_in (x4 + 5) L) (kk : xHd p l e s m below meth c E cL h h9 o b u w x4 1686 (cells + 1) (slots + 6)) : xHd p l e s m below meth c E cL h h9 o b u w x4 1058 cells slots := by
  obtain ⟨hx, hb, hml, hown, hts, hX, hbl, hE, hZ, hThr, hLg⟩ := C0
  have hA : ∀ q : Nat, s.heap.size ≤ q → (fun q : Nat => s.heap.size ≤ q) q := fun _ h => h
  have hAo : ∀ q : Nat, q < s.heap.size → ¬ (fun q : Nat => s.heap.size ≤ q) q := fun _ h => Nat.not_le.mpr h
  have hbA : ¬ (fun q : Nat => s.heap.size ≤ q) b := Nat.not_le.mpr hbl
  intro H locs ls hLW hl
  obtain ⟨W8, W9, g, t, hI, hP, hD, hS⟩ := hLW
  obtain ⟨f9, hq9⟩ := hI.hd9
  obtain ⟨k, v, g2, V8, V9, hw, hm, hI2, hk⟩ := C_ticksToStop l hst E Z cL h h9 o u w g hI (xs (x4 + 1).toNatClampNeg)
  refine lv_aload_n hx hb dL_law_1058 rfl (lv_at hl 3 rfl) ?_
  refine lv_aload_n hx hb dL_law_1059 rfl (lv_at hl 4 rfl) ?_
  refine lv_iload hx hb dL_law_1060 (lv_at hl 0 rfl) ?_
  refine lv_iconst (v := 1) hx hb dL_law_1062 (by decide) ?_
  refine lv_iadd hx hb dL_law_1063 ?_
  refine va_sld hx hb hX hbl hbA hS i1 dL_law_1064 ?_
  refine lv_aload_n hx hb dL_law_1065 rfl (lv_at hl 1 rfl) ?_
  refine x_gL [.ref h, .int (xs (x4 + 1).toNatClampNeg), .ref o] hw ⟨hx, hb, hml, hown, hts⟩ (vx_cwSW 3 hts gL_law_L_ticksToStop rfl rfl rfl (by decide +kernel) ⟨Nat.le_of_ble_eq_true rfl, Nat.le_of_ble_eq_true rfl⟩) hZ hThr hAo hLg hE hP hD hS hA hl.1 rfl rfl (Nat.le_of_ble_eq_true rfl) dL_law_1066 hc hs (fun H locs hP hD hS => ?_)
  refine lv_istore (lv' := [(5, .int k), (4, .int x4), (3, .ref o), (2, .ref h9), (1, .ref h), (0, .ref b)]) hx hb dL_law_1069 hl (by decide) rfl (fun ls hl => ?_)
  refine lv_aload_n hx hb dL_law_1071 rfl (lv_at hl 3 rfl) ?_
  refine lv_aload_n hx hb dL_law_1072 rfl (lv_at hl 5 rfl) ?_
  refine lv_iload hx hb dL_law_1073 (lv_at hl 1 rfl) ?_
  refine lv_iconst (v := 1) hx hb dL_law_1075 (by decide) ?_
  refine lv_iadd hx hb dL_law_1076 ?_
  refine va_sld hx hb hX hbl hbA hS i1 dL_law_1077 ?_
  refine x_gV2 [.int (xs (x4 + 1).toNatClampNeg)] hm ⟨hx, hb, hml, hown, hts⟩ (cwV 1 hts gL_law_X9_ticksToStop rfl rfl rfl hdX9_ticksToStop ⟨Nat.le_of_ble_eq_true rfl, Nat.le_of_ble_eq_true rfl⟩) hZ hE hP hD hS hA (ci := 9) rfl rfl hq9 hl.1 rfl rfl (Nat.le_of_ble_eq_true rfl) dL_law_1078 hc hs (fun H locs hP hD hS => ?_)
  refine lv_istore (lv' := [(6, .int v), (5, .int k), (4, .int x4), (3, .ref o), (2, .ref h9), (1, .ref h), (0, .ref b)]) hx hb dL_law_1081 hl (by decide) rfl (fun ls hl => ?_)
  refine lv_aload_n hx hb dL_law_1083 rfl (lv_at hl 4 rfl) ?_
  obtain ⟨f10, hq10⟩ := hI2.hd9
  refine x_gV2 [] (hI2.th l Z) ⟨hx, hb, hml, hown, hts⟩ (cwV 0 hts gL_law_X9_thrown rfl rfl rfl hdX9_thrown ⟨Nat.le_of_ble_eq_true rfl, Nat.le_of_ble_eq_true rfl⟩) hZ hE hP hD hS hA (ci := 9) rfl rfl hq10 hl.1 rfl rfl (Nat.le_of_ble_eq_true rfl) dL_law_1084 hc hs (fun H locs hP hD hS => ?_)
  refine lv_iload hx hb dL_law_1087 (lv_at hl 1 rfl) ?_
  refine lv_icmp_eq (tgt := 1094) hx hb dL_law_1089 (by decide) (fun _ => ?_) (fun z => absurd rfl z)
  refine lv_iload hx hb dL_law_1094 (lv_at hl 1 rfl) ?_
  refine lv_if_ne (tgt := 1111) hx hb dL_law_1096 (by decide) (fun _ => ?_) (fun z => ?_)
  rotate_left
  refine lv_aload_n hx hb dL_law_1099 rfl (lv_at hl 3 rfl) ?_
  refine lv_iconst (v := 0) hx hb dL_law_1100 (by decide) ?_
  refine va_lald (D := E.1) (cl := vwCl) (tys := [(cL, .long)]) hx hb hLg.1 hP V8.length 0 (x_left (x_right (k := 0) rfl)) rfl (x_lit (m := 1) (k := 0) (Nat.le_refl _) (by decide) (by decide)) dL_law_1101 ?_
  rw [show g2 (Int32.toNatClampNeg 0) = v.toInt64 from hk z]
  refine lv_iload hx hb dL_law_1102 (lv_at hl 0 rfl) ?_
  refine lv_i2l hx hb dL_law_1104 rfl ?_
  refine W.lcmp hx hb dL_law_1105 ?_
  refine lv_if_eq (tgt := 1111) hx hb dL_law_1106 (by decide) (fun _ => ?_) (fun q => absurd (lc_cmp _) q)
  refine lv_goto (tgt := 1686) hx hb dL_law_1111 (by decide) ?_
  exact kk H locs ls ⟨V8, V9, g2, k, hI2, hP, hD, hS⟩ (lv_sub hl [2, 3, 4, 5, 6] rfl)
  refine lv_goto (tgt := 1686) hx hb dL_law_1111 (by decide) ?_
  exact kk H locs ls ⟨V8, V9, g2, k, hI2, hP, hD, hS⟩ (lv_sub hl [2, 3, 4, 5, 6] rfl)
set_option maxHeartbeats 4000000 in
set_option maxRecDepth 100000 in
theorem lc_farthest (hst : l.stackTraces = false) (C0 : xCx p s m c b L xs E Z cL) (hc : cells + 1 ≤ 601024) (hs : slots + 6 ≤ 7293034) (i1 : vp_in (x4 + 1) L) (i2 : vp_in (x4 + 2) L) (i3 : vp_in (x4 + 3) L) (i4 : vp_in (x4 + 4) L) (i5 : vp_in (x4 + 5) L) (kk : xHd p l e s m below meth c E cL h h9 o b u w x4 1686 (cells + 1) (slots + 6)) : xHd p l e s m below meth c E cL h h9 o b u w x4 1114 cells slots := by
  obtain ⟨hx, hb, hml, hown, hts, hX, hbl, hE, hZ, hThr, hLg⟩ := C0
  have hA : ∀ q : Nat, s.heap.size ≤ q → (fun q : Nat => s.heap.size ≤ q) q := fun _ h => h
  have hAo : ∀ q : Nat, q < s.heap.size → ¬ (fun q : Nat => s.heap.size ≤ q) q := fun _ h => Nat.not_le.mpr h
  have hbA : ¬ (fun q : Nat => s.heap.size ≤ q) b := Nat.not_le.mpr hbl
  intro H locs ls hLW hl
  obtain ⟨W8, W9, g, t, hI, hP, hD, hS⟩ := hLW
  obtain ⟨f9, hq9⟩ := hI.hd9
  obtain ⟨k, v, g2, V8, V9, hw, hm, hI2, hk⟩ := C_farthest l hst E Z cL h h9 o u w g hI (xs (x4 + 1).toNatClampNeg)
  refine lv_aload_n hx hb dL_law_1114 rfl (lv_at hl 3 rfl) ?_
  refine lv_aload_n hx hb dL_law_1115 rfl (lv_at hl 4 rfl) ?_
  refine lv_iload hx hb dL_law_1116 (lv_at hl 0 rfl) ?_
  refine lv_iconst (v := 1) hx hb dL_law_1118 (by decide) ?_
  refine lv_iadd hx hb dL_law_1119 ?_
  refine va_sld hx hb hX hbl hbA hS i1 dL_law_1120 ?_
  refine lv_aload_n hx hb dL_law_1121 rfl (lv_at hl 1 rfl) ?_
  refine x_gL [.ref h, .int (xs (x4 + 1).toNatClampNeg), .ref o] hw ⟨hx, hb, hml, hown, hts⟩ (vx_cwSW 3 hts gL_law_L_farthest rfl rfl rfl (by decide +kernel) ⟨Nat.le_of_ble_eq_true rfl, Nat.le_of_ble_eq_true rfl⟩) hZ hThr hAo hLg hE hP hD hS hA hl.1 rfl rfl (Nat.le_of_ble_eq_true rfl) dL_law_1122 hc hs (fun H locs hP hD hS => ?_)
  refine lv_istore (lv' := [(5, .int k), (4, .int x4), (3, .ref o), (2, .ref h9), (1, .ref h), (0, .ref b)]) hx hb dL_law_1125 hl (by decide) rfl (fun ls hl => ?_)
  refine lv_aload_n hx hb dL_law_1127 rfl (lv_at hl 3 rfl) ?_
  refine lv_aload_n hx hb dL_law_1128 rfl (lv_at hl 5 rfl) ?_
  refine lv_iload hx hb dL_law_1129 (lv_at hl 1 rfl) ?_
  refine lv_iconst (v := 1) hx hb dL_law_1131 (by decide) ?_
  refine lv_iadd hx hb dL_law_1132 ?_
  refine va_sld hx hb hX hbl hbA hS i1 dL_law_1133 ?_
  refine x_gV2 [.int (xs (x4 + 1).toNatClampNeg)] hm ⟨hx, hb, hml, hown, hts⟩ (cwV 1 hts gL_law_X9_farthest rfl rfl rfl hdX9_farthest ⟨Nat.le_of_ble_eq_true rfl, Nat.le_of_ble_eq_true rfl⟩) hZ hE hP hD hS hA (ci := 9) rfl rfl hq9 hl.1 rfl rfl (Nat.le_of_ble_eq_true rfl) dL_law_1134 hc hs (fun H locs hP hD hS => ?_)
  refine lv_istore (lv' := [(6, .int v), (5, .int k), (4, .int x4), (3, .ref o), (2, .ref h9), (1, .ref h), (0, .ref b)]) hx hb dL_law_1137 hl (by decide) rfl (fun ls hl => ?_)
  refine lv_aload_n hx hb dL_law_1139 rfl (lv_at hl 4 rfl) ?_
  obtain ⟨f10, hq10⟩ := hI2.hd9
  refine x_gV2 [] (hI2.th l Z) ⟨hx, hb, hml, hown, hts⟩ (cwV 0 hts gL_law_X9_thrown rfl rfl rfl hdX9_thrown ⟨Nat.le_of_ble_eq_true rfl, Nat.le_of_ble_eq_true rfl⟩) hZ hE hP hD hS hA (ci := 9) rfl rfl hq10 hl.1 rfl rfl (Nat.le_of_ble_eq_true rfl) dL_law_1140 hc hs (fun H locs hP hD hS => ?_)
  refine lv_iload hx hb dL_law_1143 (lv_at hl 1 rfl) ?_
  refine lv_icmp_eq (tgt := 1150) hx hb dL_law_1145 (by decide) (fun _ => ?_) (fun z => absurd rfl z)
  refine lv_iload hx hb dL_law_1150 (lv_at hl 1 rfl) ?_
  refine lv_if_ne (tgt := 1167) hx hb dL_law_1152 (by decide) (fun _ => ?_) (fun z => ?_)
  rotate_left
  refine lv_aload_n hx hb dL_law_1155 rfl (lv_at hl 3 rfl) ?_
  refine lv_iconst (v := 0) hx hb dL_law_1156 (by decide) ?_
  refine va_lald (D := E.1) (cl := vwCl) (tys := [(cL, .long)]) hx hb hLg.1 hP V8.length 0 (x_left (x_right (k := 0) rfl)) rfl (x_lit (m := 1) (k := 0) (Nat.le_refl _) (by decide) (by decide)) dL_law_1157 ?_
  rw [show g2 (Int32.toNatClampNeg 0) = v.toInt64 from hk z]
  refine lv_iload hx hb dL_law_1158 (lv_at hl 0 rfl) ?_
  refine lv_i2l hx hb dL_law_1160 rfl ?_
  refine W.lcmp hx hb dL_law_1161 ?_
  refine lv_if_eq (tgt := 1167) hx hb dL_law_1162 (by decide) (fun _ => ?_) (fun q => absurd (lc_cmp _) q)
  refine lv_goto (tgt := 1686) hx hb dL_law_1167 (by decide) ?_
  exact kk H locs ls ⟨V8, V9, g2, k, hI2, hP, hD, hS⟩ (lv_sub hl [2, 3, 4, 5, 6] rfl)
  refine lv_goto (tgt := 1686) hx hb dL_law_1167 (by decide) ?_
  exact kk H locs ls ⟨V8, V9, g2, k, hI2, hP, hD, hS⟩ (lv_sub hl [2, 3, 4, 5, 6] rfl)
set_option maxHeartbeats 4000000 in
set_option maxRecDepth 100000 in
theorem lc_linkAfter (hst : l.stackTraces = false) (C0 : xCx p s m c b L xs E Z cL) (hc : cells + 1 ≤ 601024) (hs : slots + 6 ≤ 7293034) (i1 : vp_in (x4 + 1) L) (i2 : vp_in (x4 + 2) L) (i3 : vp_in (x4 + 3) L) (i4 : vp_in (x4 + 4) L) (i5 : vp_in (x4 + 5) L) (kk : xHd p l e s m below meth c E cL h h9 o b u w x4 1686 (cells + 1) (slots + 6)) : xHd p l e s m below meth c E cL h h9 o b u w x4 1170 cells slots := by
  obtain ⟨hx, hb, hml, hown, hts, hX, hbl, hE, hZ, hThr, hLg⟩ := C0
  have hA : ∀ q : Nat, s.heap.size ≤ q → (fun q : Nat => s.heap.size ≤ q) q := fun _ h => h
  have hAo : ∀ q : Nat, q < s.heap.size → ¬ (fun q : Nat => s.heap.size ≤ q) q := fun _ h => Nat.not_le.mpr h
  have hbA : ¬ (fun q : Nat => s.heap.size ≤ q) b := Nat.not_le.mpr hbl
  intro H locs ls hLW hl
  obtain ⟨W8, W9, g, t, hI, hP, hD, hS⟩ := hLW
  obtain ⟨f9, hq9⟩ := hI.hd9
  obtain ⟨k, v, g2, V8, V9, hw, hm, hI2, hk⟩ := C_linkAfter l hst E Z cL h h9 o u w g hI (xs (x4 + 1).toNatClampNeg) (xs (x4 + 2).toNatClampNeg) (xs (x4 + 3).toNatClampNeg)
  refine lv_aload_n hx hb dL_law_1170 rfl (lv_at hl 3 rfl) ?_
  refine lv_aload_n hx hb dL_law_1171 rfl (lv_at hl 4 rfl) ?_
  refine lv_iload hx hb dL_law_1172 (lv_at hl 0 rfl) ?_
  refine lv_iconst (v := 1) hx hb dL_law_1174 (by decide) ?_
  refine lv_iadd hx hb dL_law_1175 ?_
  refine va_sld hx hb hX hbl hbA hS i1 dL_law_1176 ?_
  refine lv_aload_n hx hb dL_law_1177 rfl (lv_at hl 4 rfl) ?_
  refine lv_iload hx hb dL_law_1178 (lv_at hl 0 rfl) ?_
  refine lv_iconst (v := 2) hx hb dL_law_1180 (by decide) ?_
  refine lv_iadd hx hb dL_law_1181 ?_
  refine va_sld hx hb hX hbl hbA hS i2 dL_law_1182 ?_
  refine lv_aload_n hx hb dL_law_1183 rfl (lv_at hl 4 rfl) ?_
  refine lv_iload hx hb dL_law_1184 (lv_at hl 0 rfl) ?_
  refine lv_iconst (v := 3) hx hb dL_law_1186 (by decide) ?_
  refine lv_iadd hx hb dL_law_1187 ?_
  refine va_sld hx hb hX hbl hbA hS i3 dL_law_1188 ?_
  refine lv_aload_n hx hb dL_law_1189 rfl (lv_at hl 1 rfl) ?_
  refine x_gL [.ref h, .int (xs (x4 + 1).toNatClampNeg), .int (xs (x4 + 2).toNatClampNeg), .int (xs (x4 + 3).toNatClampNeg), .ref o] hw ⟨hx, hb, hml, hown, hts⟩ (vx_cwSW 5 hts gL_law_L_linkAfter rfl rfl rfl (by decide +kernel) ⟨Nat.le_of_ble_eq_true rfl, Nat.le_of_ble_eq_true rfl⟩) hZ hThr hAo hLg hE hP hD hS hA hl.1 rfl rfl (Nat.le_of_ble_eq_true rfl) dL_law_1190 hc hs (fun H locs hP hD hS => ?_)
  refine lv_istore (lv' := [(5, .int k), (4, .int x4), (3, .ref o), (2, .ref h9), (1, .ref h), (0, .ref b)]) hx hb dL_law_1193 hl (by decide) rfl (fun ls hl => ?_)
  refine lv_aload_n hx hb dL_law_1195 rfl (lv_at hl 3 rfl) ?_
  refine lv_aload_n hx hb dL_law_1196 rfl (lv_at hl 5 rfl) ?_
  refine lv_iload hx hb dL_law_1197 (lv_at hl 1 rfl) ?_
  refine lv_iconst (v := 1) hx hb dL_law_1199 (by decide) ?_
  refine lv_iadd hx hb dL_law_1200 ?_
  refine va_sld hx hb hX hbl hbA hS i1 dL_law_1201 ?_
  refine lv_aload_n hx hb dL_law_1202 rfl (lv_at hl 5 rfl) ?_
  refine lv_iload hx hb dL_law_1203 (lv_at hl 1 rfl) ?_
  refine lv_iconst (v := 2) hx hb dL_law_1205 (by decide) ?_
  refine lv_iadd hx hb dL_law_1206 ?_
  refine va_sld hx hb hX hbl hbA hS i2 dL_law_1207 ?_
  refine lv_aload_n hx hb dL_law_1208 rfl (lv_at hl 5 rfl) ?_
  refine lv_iload hx hb dL_law_1209 (lv_at hl 1 rfl) ?_
  refine lv_iconst (v := 3) hx hb dL_law_1211 (by decide) ?_
  refine lv_iadd hx hb dL_law_1212 ?_
  refine va_sld hx hb hX hbl hbA hS i3 dL_law_1213 ?_
  refine x_gV2 [.int (xs (x4 + 1).toNatClampNeg), .int (xs (x4 + 2).toNatClampNeg), .int (xs (x4 + 3).toNatClampNeg)] hm ⟨hx, hb, hml, hown, hts⟩ (cwV 3 hts gL_law_X9_linkAfter rfl rfl rfl hdX9_linkAfter ⟨Nat.le_of_ble_eq_true rfl, Nat.le_of_ble_eq_true rfl⟩) hZ hE hP hD hS hA (ci := 9) rfl rfl hq9 hl.1 rfl rfl (Nat.le_of_ble_eq_true rfl) dL_law_1214 hc hs (fun H locs hP hD hS => ?_)
  refine lv_istore (lv' := [(6, .int v), (5, .int k), (4, .int x4), (3, .ref o), (2, .ref h9), (1, .ref h), (0, .ref b)]) hx hb dL_law_1217 hl (by decide) rfl (fun ls hl => ?_)
  refine lv_aload_n hx hb dL_law_1219 rfl (lv_at hl 4 rfl) ?_
  obtain ⟨f10, hq10⟩ := hI2.hd9
  refine x_gV2 [] (hI2.th l Z) ⟨hx, hb, hml, hown, hts⟩ (cwV 0 hts gL_law_X9_thrown rfl rfl rfl hdX9_thrown ⟨Nat.le_of_ble_eq_true rfl, Nat.le_of_ble_eq_true rfl⟩) hZ hE hP hD hS hA (ci := 9) rfl rfl hq10 hl.1 rfl rfl (Nat.le_of_ble_eq_true rfl) dL_law_1220 hc hs (fun H locs hP hD hS => ?_)
  refine lv_iload hx hb dL_law_1223 (lv_at hl 1 rfl) ?_
  refine lv_icmp_eq (tgt := 1230) hx hb dL_law_1225 (by decide) (fun _ => ?_) (fun z => absurd rfl z)
  refine lv_iload hx hb dL_law_1230 (lv_at hl 1 rfl) ?_
  refine lv_if_ne (tgt := 1247) hx hb dL_law_1232 (by decide) (fun _ => ?_) (fun z => ?_)
  rotate_left
  refine lv_aload_n hx hb dL_law_1235 rfl (lv_at hl 3 rfl) ?_
  refine lv_iconst (v := 0) hx hb dL_law_1236 (by decide) ?_
  refine va_lald (D := E.1) (cl := vwCl) (tys := [(cL, .long)]) hx hb hLg.1 hP V8.length 0 (x_left (x_right (k := 0) rfl)) rfl (x_lit (m := 1) (k := 0) (Nat.le_refl _) (by decide) (by decide)) dL_law_1237 ?_
  rw [show g2 (Int32.toNatClampNeg 0) = v.toInt64 from hk z]
  refine lv_iload hx hb dL_law_1238 (lv_at hl 0 rfl) ?_
  refine lv_i2l hx hb dL_law_1240 rfl ?_
  refine W.lcmp hx hb dL_law_1241 ?_
  refine lv_if_eq (tgt := 1247) hx hb dL_law_1242 (by decide) (fun _ => ?_) (fun q => absurd (lc_cmp _) q)
  refine lv_goto (tgt := 1686) hx hb dL_law_1247 (by decide) ?_
  exact kk H locs ls ⟨V8, V9, g2, k, hI2, hP, hD, hS⟩ (lv_sub hl [2, 3, 4, 5, 6] rfl)
  refine lv_goto (tgt := 1686) hx hb dL_law_1247 (by decide) ?_
  exact kk H locs ls ⟨V8, V9, g2, k, hI2, hP, hD, hS⟩ (lv_sub hl [2, 3, 4, 5, 6] rfl)
set_option maxHeartbeats 4000000 in
set_option maxRecDepth 100000 in
theorem lc_run (hst : l.stackTraces = false) (C0 : xCx p s m c b L xs E Z cL) (hc : cells + 1 ≤ 601024) (hs : slots + 6 ≤ 7293034) (i1 : vp_in (x4 + 1) L) (i2 : vp_in (x4 + 2) L) (i3 : vp_in (x4 + 3) L) (i4 : vp_in (x4 + 4) L) (i5 : vp_in (x4 + 5) L) (kk : xHd p l e s m below meth c E cL h h9 o b u w x4 1686 (cells + 1) (slots + 6)) : xHd p l e s m below meth c E cL h h9 o b u w x4 1250 cells slots := by
  obtain ⟨hx, hb, hml, hown, hts, hX, hbl, hE, hZ, hThr, hLg⟩ := C0
  have hA : ∀ q : Nat, s.heap.size ≤ q → (fun q : Nat => s.heap.size ≤ q) q := fun _ h => h
  have hAo : ∀ q : Nat, q < s.heap.size → ¬ (fun q : Nat => s.heap.size ≤ q) q := fun _ h => Nat.not_le.mpr h
  have hbA : ¬ (fun q : Nat => s.heap.size ≤ q) b := Nat.not_le.mpr hbl
  intro H locs ls hLW hl
  obtain ⟨W8, W9, g, t, hI, hP, hD, hS⟩ := hLW
  obtain ⟨f9, hq9⟩ := hI.hd9
  obtain ⟨k, v, g2, V8, V9, hw, hm, hI2, hk⟩ := C_run l hst E Z cL h h9 o u w g hI (xs (x4 + 1).toNatClampNeg)
  refine lv_aload_n hx hb dL_law_1250 rfl (lv_at hl 3 rfl) ?_
  refine lv_aload_n hx hb dL_law_1251 rfl (lv_at hl 4 rfl) ?_
  refine lv_iload hx hb dL_law_1252 (lv_at hl 0 rfl) ?_
  refine lv_iconst (v := 1) hx hb dL_law_1254 (by decide) ?_
  refine lv_iadd hx hb dL_law_1255 ?_
  refine va_sld hx hb hX hbl hbA hS i1 dL_law_1256 ?_
  refine lv_aload_n hx hb dL_law_1257 rfl (lv_at hl 1 rfl) ?_
  refine x_gL [.ref h, .int (xs (x4 + 1).toNatClampNeg), .ref o] hw ⟨hx, hb, hml, hown, hts⟩ (vx_cwSW 3 hts gL_law_L_run rfl rfl rfl (by decide +kernel) ⟨Nat.le_of_ble_eq_true rfl, Nat.le_of_ble_eq_true rfl⟩) hZ hThr hAo hLg hE hP hD hS hA hl.1 rfl rfl (Nat.le_of_ble_eq_true rfl) dL_law_1258 hc hs (fun H locs hP hD hS => ?_)
  refine lv_istore (lv' := [(5, .int k), (4, .int x4), (3, .ref o), (2, .ref h9), (1, .ref h), (0, .ref b)]) hx hb dL_law_1261 hl (by decide) rfl (fun ls hl => ?_)
  refine lv_aload_n hx hb dL_law_1263 rfl (lv_at hl 3 rfl) ?_
  refine lv_aload_n hx hb dL_law_1264 rfl (lv_at hl 5 rfl) ?_
  refine lv_iload hx hb dL_law_1265 (lv_at hl 1 rfl) ?_
  refine lv_iconst (v := 1) hx hb dL_law_1267 (by decide) ?_
  refine lv_iadd hx hb dL_law_1268 ?_
  refine va_sld hx hb hX hbl hbA hS i1 dL_law_1269 ?_
  refine x_gV2 [.int (xs (x4 + 1).toNatClampNeg)] hm ⟨hx, hb, hml, hown, hts⟩ (cwV 1 hts gL_law_X9_run rfl rfl rfl hdX9_run ⟨Nat.le_of_ble_eq_true rfl, Nat.le_of_ble_eq_true rfl⟩) hZ hE hP hD hS hA (ci := 9) rfl rfl hq9 hl.1 rfl rfl (Nat.le_of_ble_eq_true rfl) dL_law_1270 hc hs (fun H locs hP hD hS => ?_)
  refine lv_istore (lv' := [(6, .int v), (5, .int k), (4, .int x4), (3, .ref o), (2, .ref h9), (1, .ref h), (0, .ref b)]) hx hb dL_law_1273 hl (by decide) rfl (fun ls hl => ?_)
  refine lv_aload_n hx hb dL_law_1275 rfl (lv_at hl 4 rfl) ?_
  obtain ⟨f10, hq10⟩ := hI2.hd9
  refine x_gV2 [] (hI2.th l Z) ⟨hx, hb, hml, hown, hts⟩ (cwV 0 hts gL_law_X9_thrown rfl rfl rfl hdX9_thrown ⟨Nat.le_of_ble_eq_true rfl, Nat.le_of_ble_eq_true rfl⟩) hZ hE hP hD hS hA (ci := 9) rfl rfl hq10 hl.1 rfl rfl (Nat.le_of_ble_eq_true rfl) dL_law_1276 hc hs (fun H locs hP hD hS => ?_)
  refine lv_iload hx hb dL_law_1279 (lv_at hl 1 rfl) ?_
  refine lv_icmp_eq (tgt := 1286) hx hb dL_law_1281 (by decide) (fun _ => ?_) (fun z => absurd rfl z)
  refine lv_iload hx hb dL_law_1286 (lv_at hl 1 rfl) ?_
  refine lv_if_ne (tgt := 1303) hx hb dL_law_1288 (by decide) (fun _ => ?_) (fun z => ?_)
  rotate_left
  refine lv_aload_n hx hb dL_law_1291 rfl (lv_at hl 3 rfl) ?_
  refine lv_iconst (v := 0) hx hb dL_law_1292 (by decide) ?_
  refine va_lald (D := E.1) (cl := vwCl) (tys := [(cL, .long)]) hx hb hLg.1 hP V8.length 0 (x_left (x_right (k := 0) rfl)) rfl (x_lit (m := 1) (k := 0) (Nat.le_refl _) (by decide) (by decide)) dL_law_1293 ?_
  rw [show g2 (Int32.toNatClampNeg 0) = v.toInt64 from hk z]
  refine lv_iload hx hb dL_law_1294 (lv_at hl 0 rfl) ?_
  refine lv_i2l hx hb dL_law_1296 rfl ?_
  refine W.lcmp hx hb dL_law_1297 ?_
  refine lv_if_eq (tgt := 1303) hx hb dL_law_1298 (by decide) (fun _ => ?_) (fun q => absurd (lc_cmp _) q)
  refine lv_goto (tgt := 1686) hx hb dL_law_1303 (by decide) ?_
  exact kk H locs ls ⟨V8, V9, g2, k, hI2, hP, hD, hS⟩ (lv_sub hl [2, 3, 4, 5, 6] rfl)
  refine lv_goto (tgt := 1686) hx hb dL_law_1303 (by decide) ?_
  exact kk H locs ls ⟨V8, V9, g2, k, hI2, hP, hD, hS⟩ (lv_sub hl [2, 3, 4, 5, 6] rfl)
set_option maxHeartbeats 4000000 in
set_option maxRecDepth 100000 in
theorem lc_setMode (hst : l.stackTraces = false) (C0 : xCx p s m c b L xs E Z cL) (hc : cells + 1 ≤ 601024) (hs : slots + 6 ≤ 7293034) (i1 : vp_in (x4 + 1) L) (i2 : vp_in (x4 + 2) L) (i3 : vp_in (x4 + 3) L) (i4 : vp_in (x4 + 4) L) (i5 : vp_in (x4 + 5) L) (kk : xHd p l e s m below meth c E cL h h9 o b u w x4 1686 (cells + 1) (slots + 6)) : xHd p l e s m below meth c E cL h h9 o b u w x4 1306 cells slots := by
  obtain ⟨hx, hb, hml, hown, hts, hX, hbl, hE, hZ, hThr, hLg⟩ := C0
  have hA : ∀ q : Nat, s.heap.size ≤ q → (fun q : Nat => s.heap.size ≤ q) q := fun _ h => h
  have hAo : ∀ q : Nat, q < s.heap.size → ¬ (fun q : Nat => s.heap.size ≤ q) q := fun _ h => Nat.not_le.mpr h
  have hbA : ¬ (fun q : Nat => s.heap.size ≤ q) b := Nat.not_le.mpr hbl
  intro H locs ls hLW hl
  obtain ⟨W8, W9, g, t, hI, hP, hD, hS⟩ := hLW
  obtain ⟨f9, hq9⟩ := hI.hd9
  obtain ⟨k, v, g2, V8, V9, hw, hm, hI2, hk⟩ := C_setMode l hst E Z cL h h9 o u w g hI (xs (x4 + 1).toNatClampNeg)
  refine lv_aload_n hx hb dL_law_1306 rfl (lv_at hl 3 rfl) ?_
  refine lv_aload_n hx hb dL_law_1307 rfl (lv_at hl 4 rfl) ?_
  refine lv_iload hx hb dL_law_1308 (lv_at hl 0 rfl) ?_
  refine lv_iconst (v := 1) hx hb dL_law_1310 (by decide) ?_
  refine lv_iadd hx hb dL_law_1311 ?_
  refine va_sld hx hb hX hbl hbA hS i1 dL_law_1312 ?_
  refine lv_aload_n hx hb dL_law_1313 rfl (lv_at hl 1 rfl) ?_
  refine x_gL [.ref h, .int (xs (x4 + 1).toNatClampNeg), .ref o] hw ⟨hx, hb, hml, hown, hts⟩ (vx_cwSW 3 hts gL_law_L_setMode rfl rfl rfl (by decide +kernel) ⟨Nat.le_of_ble_eq_true rfl, Nat.le_of_ble_eq_true rfl⟩) hZ hThr hAo hLg hE hP hD hS hA hl.1 rfl rfl (Nat.le_of_ble_eq_true rfl) dL_law_1314 hc hs (fun H locs hP hD hS => ?_)
  refine lv_istore (lv' := [(5, .int k), (4, .int x4), (3, .ref o), (2, .ref h9), (1, .ref h), (0, .ref b)]) hx hb dL_law_1317 hl (by decide) rfl (fun ls hl => ?_)
  refine lv_aload_n hx hb dL_law_1319 rfl (lv_at hl 3 rfl) ?_
  refine lv_aload_n hx hb dL_law_1320 rfl (lv_at hl 5 rfl) ?_
  refine lv_iload hx hb dL_law_1321 (lv_at hl 1 rfl) ?_
  refine lv_iconst (v := 1) hx hb dL_law_1323 (by decide) ?_
  refine lv_iadd hx hb dL_law_1324 ?_
  refine va_sld hx hb hX hbl hbA hS i1 dL_law_1325 ?_
  refine x_gV2 [.int (xs (x4 + 1).toNatClampNeg)] hm ⟨hx, hb, hml, hown, hts⟩ (cwV 1 hts gL_law_X9_setMode rfl rfl rfl hdX9_setMode ⟨Nat.le_of_ble_eq_true rfl, Nat.le_of_ble_eq_true rfl⟩) hZ hE hP hD hS hA (ci := 9) rfl rfl hq9 hl.1 rfl rfl (Nat.le_of_ble_eq_true rfl) dL_law_1326 hc hs (fun H locs hP hD hS => ?_)
  refine lv_istore (lv' := [(6, .int v), (5, .int k), (4, .int x4), (3, .ref o), (2, .ref h9), (1, .ref h), (0, .ref b)]) hx hb dL_law_1329 hl (by decide) rfl (fun ls hl => ?_)
  refine lv_aload_n hx hb dL_law_1331 rfl (lv_at hl 4 rfl) ?_
  obtain ⟨f10, hq10⟩ := hI2.hd9
  refine x_gV2 [] (hI2.th l Z) ⟨hx, hb, hml, hown, hts⟩ (cwV 0 hts gL_law_X9_thrown rfl rfl rfl hdX9_thrown ⟨Nat.le_of_ble_eq_true rfl, Nat.le_of_ble_eq_true rfl⟩) hZ hE hP hD hS hA (ci := 9) rfl rfl hq10 hl.1 rfl rfl (Nat.le_of_ble_eq_true rfl) dL_law_1332 hc hs (fun H locs hP hD hS => ?_)
  refine lv_iload hx hb dL_law_1335 (lv_at hl 1 rfl) ?_
  refine lv_icmp_eq (tgt := 1342) hx hb dL_law_1337 (by decide) (fun _ => ?_) (fun z => absurd rfl z)
  refine lv_iload hx hb dL_law_1342 (lv_at hl 1 rfl) ?_
  refine lv_if_ne (tgt := 1359) hx hb dL_law_1344 (by decide) (fun _ => ?_) (fun z => ?_)
  rotate_left
  refine lv_aload_n hx hb dL_law_1347 rfl (lv_at hl 3 rfl) ?_
  refine lv_iconst (v := 0) hx hb dL_law_1348 (by decide) ?_
  refine va_lald (D := E.1) (cl := vwCl) (tys := [(cL, .long)]) hx hb hLg.1 hP V8.length 0 (x_left (x_right (k := 0) rfl)) rfl (x_lit (m := 1) (k := 0) (Nat.le_refl _) (by decide) (by decide)) dL_law_1349 ?_
  rw [show g2 (Int32.toNatClampNeg 0) = v.toInt64 from hk z]
  refine lv_iload hx hb dL_law_1350 (lv_at hl 0 rfl) ?_
  refine lv_i2l hx hb dL_law_1352 rfl ?_
  refine W.lcmp hx hb dL_law_1353 ?_
  refine lv_if_eq (tgt := 1359) hx hb dL_law_1354 (by decide) (fun _ => ?_) (fun q => absurd (lc_cmp _) q)
  refine lv_goto (tgt := 1686) hx hb dL_law_1359 (by decide) ?_
  exact kk H locs ls ⟨V8, V9, g2, k, hI2, hP, hD, hS⟩ (lv_sub hl [2, 3, 4, 5, 6] rfl)
  refine lv_goto (tgt := 1686) hx hb dL_law_1359 (by decide) ?_
  exact kk H locs ls ⟨V8, V9, g2, k, hI2, hP, hD, hS⟩ (lv_sub hl [2, 3, 4, 5, 6] rfl)
set_option maxHeartbeats 4000000 in
set_option maxRecDepth 100000 in
theorem lc_reset (hst : l.stackTraces = false) (C0 : xCx p s m c b L xs E Z cL) (hc : cells + 1 ≤ 601024) (hs : slots + 6 ≤ 7293034) (i1 : vp_in (x4 + 1) L) (i2 : vp_in (x4 + 2) L) (i3 : vp_in (x4 + 3) L) (i4 : vp_in (x4 + 4) L) (i5 : vp_in (x4 + 5) L) (kk : xHd p l e s m below meth c E cL h h9 o b u w x4 1686 (cells + 1) (slots + 6)) : xHd p l e s m below meth c E cL h h9 o b u w x4 1362 cells slots := by
  obtain ⟨hx, hb, hml, hown, hts, hX, hbl, hE, hZ, hThr, hLg⟩ := C0
  have hA : ∀ q : Nat, s.heap.size ≤ q → (fun q : Nat => s.heap.size ≤ q) q := fun _ h => h
  have hAo : ∀ q : Nat, q < s.heap.size → ¬ (fun q : Nat => s.heap.size ≤ q) q := fun _ h => Nat.not_le.mpr h
  have hbA : ¬ (fun q : Nat => s.heap.size ≤ q) b := Nat.not_le.mpr hbl
  intro H locs ls hLW hl
  obtain ⟨W8, W9, g, t, hI, hP, hD, hS⟩ := hLW
  obtain ⟨f9, hq9⟩ := hI.hd9
  obtain ⟨k, v, g2, V8, V9, hw, hm, hI2, hk⟩ := C_reset l hst E Z cL h h9 o u w g hI (xs (x4 + 1).toNatClampNeg) (xs (x4 + 2).toNatClampNeg)
  refine lv_aload_n hx hb dL_law_1362 rfl (lv_at hl 3 rfl) ?_
  refine lv_aload_n hx hb dL_law_1363 rfl (lv_at hl 4 rfl) ?_
  refine lv_iload hx hb dL_law_1364 (lv_at hl 0 rfl) ?_
  refine lv_iconst (v := 1) hx hb dL_law_1366 (by decide) ?_
  refine lv_iadd hx hb dL_law_1367 ?_
  refine va_sld hx hb hX hbl hbA hS i1 dL_law_1368 ?_
  refine lv_aload_n hx hb dL_law_1369 rfl (lv_at hl 4 rfl) ?_
  refine lv_iload hx hb dL_law_1370 (lv_at hl 0 rfl) ?_
  refine lv_iconst (v := 2) hx hb dL_law_1372 (by decide) ?_
  refine lv_iadd hx hb dL_law_1373 ?_
  refine va_sld hx hb hX hbl hbA hS i2 dL_law_1374 ?_
  refine lv_aload_n hx hb dL_law_1375 rfl (lv_at hl 1 rfl) ?_
  refine x_gL [.ref h, .int (xs (x4 + 1).toNatClampNeg), .int (xs (x4 + 2).toNatClampNeg), .ref o] hw ⟨hx, hb, hml, hown, hts⟩ (vx_cwSW 4 hts gL_law_L_reset rfl rfl rfl (by decide +kernel) ⟨Nat.le_of_ble_eq_true rfl, Nat.le_of_ble_eq_true rfl⟩) hZ hThr hAo hLg hE hP hD hS hA hl.1 rfl rfl (Nat.le_of_ble_eq_true rfl) dL_law_1376 hc hs (fun H locs hP hD hS => ?_)
  refine lv_istore (lv' := [(5, .int k), (4, .int x4), (3, .ref o), (2, .ref h9), (1, .ref h), (0, .ref b)]) hx hb dL_law_1379 hl (by decide) rfl (fun ls hl => ?_)
  refine lv_aload_n hx hb dL_law_1381 rfl (lv_at hl 3 rfl) ?_
  refine lv_aload_n hx hb dL_law_1382 rfl (lv_at hl 5 rfl) ?_
  refine lv_iload hx hb dL_law_1383 (lv_at hl 1 rfl) ?_
  refine lv_iconst (v := 1) hx hb dL_law_1385 (by decide) ?_
  refine lv_iadd hx hb dL_law_1386 ?_
  refine va_sld hx hb hX hbl hbA hS i1 dL_law_1387 ?_
  refine lv_aload_n hx hb dL_law_1388 rfl (lv_at hl 5 rfl) ?_
  refine lv_iload hx hb dL_law_1389 (lv_at hl 1 rfl) ?_
  refine lv_iconst (v := 2) hx hb dL_law_1391 (by decide) ?_
  refine lv_iadd hx hb dL_law_1392 ?_
  refine va_sld hx hb hX hbl hbA hS i2 dL_law_1393 ?_
  refine x_gV2 [.int (xs (x4 + 1).toNatClampNeg), .int (xs (x4 + 2).toNatClampNeg)] hm ⟨hx, hb, hml, hown, hts⟩ (cwV 2 hts gL_law_X9_reset rfl rfl rfl hdX9_reset ⟨Nat.le_of_ble_eq_true rfl, Nat.le_of_ble_eq_true rfl⟩) hZ hE hP hD hS hA (ci := 9) rfl rfl hq9 hl.1 rfl rfl (Nat.le_of_ble_eq_true rfl) dL_law_1394 hc hs (fun H locs hP hD hS => ?_)
  refine lv_istore (lv' := [(6, .int v), (5, .int k), (4, .int x4), (3, .ref o), (2, .ref h9), (1, .ref h), (0, .ref b)]) hx hb dL_law_1397 hl (by decide) rfl (fun ls hl => ?_)
  refine lv_aload_n hx hb dL_law_1399 rfl (lv_at hl 4 rfl) ?_
  obtain ⟨f10, hq10⟩ := hI2.hd9
  refine x_gV2 [] (hI2.th l Z) ⟨hx, hb, hml, hown, hts⟩ (cwV 0 hts gL_law_X9_thrown rfl rfl rfl hdX9_thrown ⟨Nat.le_of_ble_eq_true rfl, Nat.le_of_ble_eq_true rfl⟩) hZ hE hP hD hS hA (ci := 9) rfl rfl hq10 hl.1 rfl rfl (Nat.le_of_ble_eq_true rfl) dL_law_1400 hc hs (fun H locs hP hD hS => ?_)
  refine lv_iload hx hb dL_law_1403 (lv_at hl 1 rfl) ?_
  refine lv_icmp_eq (tgt := 1410) hx hb dL_law_1405 (by decide) (fun _ => ?_) (fun z => absurd rfl z)
  refine lv_iload hx hb dL_law_1410 (lv_at hl 1 rfl) ?_
  refine lv_if_ne (tgt := 1427) hx hb dL_law_1412 (by decide) (fun _ => ?_) (fun z => ?_)
  rotate_left
  refine lv_aload_n hx hb dL_law_1415 rfl (lv_at hl 3 rfl) ?_
  refine lv_iconst (v := 0) hx hb dL_law_1416 (by decide) ?_
  refine va_lald (D := E.1) (cl := vwCl) (tys := [(cL, .long)]) hx hb hLg.1 hP V8.length 0 (x_left (x_right (k := 0) rfl)) rfl (x_lit (m := 1) (k := 0) (Nat.le_refl _) (by decide) (by decide)) dL_law_1417 ?_
  rw [show g2 (Int32.toNatClampNeg 0) = v.toInt64 from hk z]
  refine lv_iload hx hb dL_law_1418 (lv_at hl 0 rfl) ?_
  refine lv_i2l hx hb dL_law_1420 rfl ?_
  refine W.lcmp hx hb dL_law_1421 ?_
  refine lv_if_eq (tgt := 1427) hx hb dL_law_1422 (by decide) (fun _ => ?_) (fun q => absurd (lc_cmp _) q)
  refine lv_goto (tgt := 1686) hx hb dL_law_1427 (by decide) ?_
  exact kk H locs ls ⟨V8, V9, g2, k, hI2, hP, hD, hS⟩ (lv_sub hl [2, 3, 4, 5, 6] rfl)
  refine lv_goto (tgt := 1686) hx hb dL_law_1427 (by decide) ?_
  exact kk H locs ls ⟨V8, V9, g2, k, hI2, hP, hD, hS⟩ (lv_sub hl [2, 3, 4, 5, 6] rfl)
set_option maxHeartbeats 4000000 in
set_option maxRecDepth 100000 in
theorem lc_nudge (hst : l.stackTraces = false) (C0 : xCx p s m c b L xs E Z cL) (hc : cells + 1 ≤ 601024) (hs : slots + 6 ≤ 7293034) (i1 : vp_in (x4 + 1) L) (i2 : vp_in (x4 + 2) L) (i3 : vp_in (x4 + 3) L) (i4 : vp_in (x4 + 4) L) (i5 : vp_in (x4 + 5) L) (kk : xHd p l e s m below meth c E cL h h9 o b u w x4 1686 (cells + 1) (slots + 6)) : xHd p l e s m below meth c E cL h h9 o b u w x4 1430 cells slots := by
  obtain ⟨hx, hb, hml, hown, hts, hX, hbl, hE, hZ, hThr, hLg⟩ := C0
  have hA : ∀ q : Nat, s.heap.size ≤ q → (fun q : Nat => s.heap.size ≤ q) q := fun _ h => h
  have hAo : ∀ q : Nat, q < s.heap.size → ¬ (fun q : Nat => s.heap.size ≤ q) q := fun _ h => Nat.not_le.mpr h
  have hbA : ¬ (fun q : Nat => s.heap.size ≤ q) b := Nat.not_le.mpr hbl
  intro H locs ls hLW hl
  obtain ⟨W8, W9, g, t, hI, hP, hD, hS⟩ := hLW
  obtain ⟨f9, hq9⟩ := hI.hd9
  obtain ⟨k, v, g2, V8, V9, hw, hm, hI2, hk⟩ := C_nudge l hst E Z cL h h9 o u w g hI (xs (x4 + 1).toNatClampNeg) (xs (x4 + 2).toNatClampNeg)
  refine lv_aload_n hx hb dL_law_1430 rfl (lv_at hl 3 rfl) ?_
  refine lv_aload_n hx hb dL_law_1431 rfl (lv_at hl 4 rfl) ?_
  refine lv_iload hx hb dL_law_1432 (lv_at hl 0 rfl) ?_
  refine lv_iconst (v := 1) hx hb dL_law_1434 (by decide) ?_
  refine lv_iadd hx hb dL_law_1435 ?_
  refine va_sld hx hb hX hbl hbA hS i1 dL_law_1436 ?_
  refine lv_aload_n hx hb dL_law_1437 rfl (lv_at hl 4 rfl) ?_
  refine lv_iload hx hb dL_law_1438 (lv_at hl 0 rfl) ?_
  refine lv_iconst (v := 2) hx hb dL_law_1440 (by decide) ?_
  refine lv_iadd hx hb dL_law_1441 ?_
  refine va_sld hx hb hX hbl hbA hS i2 dL_law_1442 ?_
  refine lv_aload_n hx hb dL_law_1443 rfl (lv_at hl 1 rfl) ?_
  refine x_gL [.ref h, .int (xs (x4 + 1).toNatClampNeg), .int (xs (x4 + 2).toNatClampNeg), .ref o] hw ⟨hx, hb, hml, hown, hts⟩ (vx_cwSW 4 hts gL_law_L_nudge rfl rfl rfl (by decide +kernel) ⟨Nat.le_of_ble_eq_true rfl, Nat.le_of_ble_eq_true rfl⟩) hZ hThr hAo hLg hE hP hD hS hA hl.1 rfl rfl (Nat.le_of_ble_eq_true rfl) dL_law_1444 hc hs (fun H locs hP hD hS => ?_)
  refine lv_istore (lv' := [(5, .int k), (4, .int x4), (3, .ref o), (2, .ref h9), (1, .ref h), (0, .ref b)]) hx hb dL_law_1447 hl (by decide) rfl (fun ls hl => ?_)
  refine lv_aload_n hx hb dL_law_1449 rfl (lv_at hl 3 rfl) ?_
  refine lv_aload_n hx hb dL_law_1450 rfl (lv_at hl 5 rfl) ?_
  refine lv_iload hx hb dL_law_1451 (lv_at hl 1 rfl) ?_
  refine lv_iconst (v := 1) hx hb dL_law_1453 (by decide) ?_
  refine lv_iadd hx hb dL_law_1454 ?_
  refine va_sld hx hb hX hbl hbA hS i1 dL_law_1455 ?_
  refine lv_aload_n hx hb dL_law_1456 rfl (lv_at hl 5 rfl) ?_
  refine lv_iload hx hb dL_law_1457 (lv_at hl 1 rfl) ?_
  refine lv_iconst (v := 2) hx hb dL_law_1459 (by decide) ?_
  refine lv_iadd hx hb dL_law_1460 ?_
  refine va_sld hx hb hX hbl hbA hS i2 dL_law_1461 ?_
  refine x_gV2 [.int (xs (x4 + 1).toNatClampNeg), .int (xs (x4 + 2).toNatClampNeg)] hm ⟨hx, hb, hml, hown, hts⟩ (cwV 2 hts gL_law_X9_nudge rfl rfl rfl hdX9_nudge ⟨Nat.le_of_ble_eq_true rfl, Nat.le_of_ble_eq_true rfl⟩) hZ hE hP hD hS hA (ci := 9) rfl rfl hq9 hl.1 rfl rfl (Nat.le_of_ble_eq_true rfl) dL_law_1462 hc hs (fun H locs hP hD hS => ?_)
  refine lv_istore (lv' := [(6, .int v), (5, .int k), (4, .int x4), (3, .ref o), (2, .ref h9), (1, .ref h), (0, .ref b)]) hx hb dL_law_1465 hl (by decide) rfl (fun ls hl => ?_)
  refine lv_aload_n hx hb dL_law_1467 rfl (lv_at hl 4 rfl) ?_
  obtain ⟨f10, hq10⟩ := hI2.hd9
  refine x_gV2 [] (hI2.th l Z) ⟨hx, hb, hml, hown, hts⟩ (cwV 0 hts gL_law_X9_thrown rfl rfl rfl hdX9_thrown ⟨Nat.le_of_ble_eq_true rfl, Nat.le_of_ble_eq_true rfl⟩) hZ hE hP hD hS hA (ci := 9) rfl rfl hq10 hl.1 rfl rfl (Nat.le_of_ble_eq_true rfl) dL_law_1468 hc hs (fun H locs hP hD hS => ?_)
  refine lv_iload hx hb dL_law_1471 (lv_at hl 1 rfl) ?_
  refine lv_icmp_eq (tgt := 1478) hx hb dL_law_1473 (by decide) (fun _ => ?_) (fun z => absurd rfl z)
  refine lv_iload hx hb dL_law_1478 (lv_at hl 1 rfl) ?_
  refine lv_if_ne (tgt := 1495) hx hb dL_law_1480 (by decide) (fun _ => ?_) (fun z => ?_)
  rotate_left
  refine lv_aload_n hx hb dL_law_1483 rfl (lv_at hl 3 rfl) ?_
  refine lv_iconst (v := 0) hx hb dL_law_1484 (by decide) ?_
  refine va_lald (D := E.1) (cl := vwCl) (tys := [(cL, .long)]) hx hb hLg.1 hP V8.length 0 (x_left (x_right (k := 0) rfl)) rfl (x_lit (m := 1) (k := 0) (Nat.le_refl _) (by decide) (by decide)) dL_law_1485 ?_
  rw [show g2 (Int32.toNatClampNeg 0) = v.toInt64 from hk z]
  refine lv_iload hx hb dL_law_1486 (lv_at hl 0 rfl) ?_
  refine lv_i2l hx hb dL_law_1488 rfl ?_
  refine W.lcmp hx hb dL_law_1489 ?_
  refine lv_if_eq (tgt := 1495) hx hb dL_law_1490 (by decide) (fun _ => ?_) (fun q => absurd (lc_cmp _) q)
  refine lv_goto (tgt := 1686) hx hb dL_law_1495 (by decide) ?_
  exact kk H locs ls ⟨V8, V9, g2, k, hI2, hP, hD, hS⟩ (lv_sub hl [2, 3, 4, 5, 6] rfl)
  refine lv_goto (tgt := 1686) hx hb dL_law_1495 (by decide) ?_
  exact kk H locs ls ⟨V8, V9, g2, k, hI2, hP, hD, hS⟩ (lv_sub hl [2, 3, 4, 5, 6] rfl)
set_option maxHeartbeats 4000000 in
set_option maxRecDepth 100000 in
theorem lc_setForce (hst : l.stackTraces = false) (C0 : xCx p s m c b L xs E Z cL) (hc : cells + 1 ≤ 601024) (hs : slots + 6 ≤ 7293034) (i1 : vp_in (x4 + 1) L) (i2 : vp_in (x4 + 2) L) (i3 : vp_in (x4 + 3) L) (i4 : vp_in (x4 + 4) L) (i5 : vp_in (x4 + 5) L) (kk : xHd p l e s m below meth c E cL h h9 o b u w x4 1686 (cells + 1) (slots + 6)) : xHd p l e s m below meth c E cL h h9 o b u w x4 1498 cells slots := by
  obtain ⟨hx, hb, hml, hown, hts, hX, hbl, hE, hZ, hThr, hLg⟩ := C0
  have hA : ∀ q : Nat, s.heap.size ≤ q → (fun q : Nat => s.heap.size ≤ q) q := fun _ h => h
  have hAo : ∀ q : Nat, q < s.heap.size → ¬ (fun q : Nat => s.heap.size ≤ q) q := fun _ h => Nat.not_le.mpr h
  have hbA : ¬ (fun q : Nat => s.heap.size ≤ q) b := Nat.not_le.mpr hbl
  intro H locs ls hLW hl
  obtain ⟨W8, W9, g, t, hI, hP, hD, hS⟩ := hLW
  obtain ⟨f9, hq9⟩ := hI.hd9
  obtain ⟨k, v, g2, V8, V9, hw, hm, hI2, hk⟩ := C_setForce l hst E Z cL h h9 o u w g hI (xs (x4 + 1).toNatClampNeg)
  refine lv_aload_n hx hb dL_law_1498 rfl (lv_at hl 3 rfl) ?_
  refine lv_aload_n hx hb dL_law_1499 rfl (lv_at hl 4 rfl) ?_
  refine lv_iload hx hb dL_law_1500 (lv_at hl 0 rfl) ?_
  refine lv_iconst (v := 1) hx hb dL_law_1502 (by decide) ?_
  refine lv_iadd hx hb dL_law_1503 ?_
  refine va_sld hx hb hX hbl hbA hS i1 dL_law_1504 ?_
  refine lv_aload_n hx hb dL_law_1505 rfl (lv_at hl 1 rfl) ?_
  refine x_gL [.ref h, .int (xs (x4 + 1).toNatClampNeg), .ref o] hw ⟨hx, hb, hml, hown, hts⟩ (vx_cwSW 3 hts gL_law_L_setForce rfl rfl rfl (by decide +kernel) ⟨Nat.le_of_ble_eq_true rfl, Nat.le_of_ble_eq_true rfl⟩) hZ hThr hAo hLg hE hP hD hS hA hl.1 rfl rfl (Nat.le_of_ble_eq_true rfl) dL_law_1506 hc hs (fun H locs hP hD hS => ?_)
  refine lv_istore (lv' := [(5, .int k), (4, .int x4), (3, .ref o), (2, .ref h9), (1, .ref h), (0, .ref b)]) hx hb dL_law_1509 hl (by decide) rfl (fun ls hl => ?_)
  refine lv_aload_n hx hb dL_law_1511 rfl (lv_at hl 3 rfl) ?_
  refine lv_aload_n hx hb dL_law_1512 rfl (lv_at hl 5 rfl) ?_
  refine lv_iload hx hb dL_law_1513 (lv_at hl 1 rfl) ?_
  refine lv_iconst (v := 1) hx hb dL_law_1515 (by decide) ?_
  refine lv_iadd hx hb dL_law_1516 ?_
  refine va_sld hx hb hX hbl hbA hS i1 dL_law_1517 ?_
  refine x_gV2 [.int (xs (x4 + 1).toNatClampNeg)] hm ⟨hx, hb, hml, hown, hts⟩ (cwV 1 hts gL_law_X9_setForce rfl rfl rfl hdX9_setForce ⟨Nat.le_of_ble_eq_true rfl, Nat.le_of_ble_eq_true rfl⟩) hZ hE hP hD hS hA (ci := 9) rfl rfl hq9 hl.1 rfl rfl (Nat.le_of_ble_eq_true rfl) dL_law_1518 hc hs (fun H locs hP hD hS => ?_)
  refine lv_istore (lv' := [(6, .int v), (5, .int k), (4, .int x4), (3, .ref o), (2, .ref h9), (1, .ref h), (0, .ref b)]) hx hb dL_law_1521 hl (by decide) rfl (fun ls hl => ?_)
  refine lv_aload_n hx hb dL_law_1523 rfl (lv_at hl 4 rfl) ?_
  obtain ⟨f10, hq10⟩ := hI2.hd9
  refine x_gV2 [] (hI2.th l Z) ⟨hx, hb, hml, hown, hts⟩ (cwV 0 hts gL_law_X9_thrown rfl rfl rfl hdX9_thrown ⟨Nat.le_of_ble_eq_true rfl, Nat.le_of_ble_eq_true rfl⟩) hZ hE hP hD hS hA (ci := 9) rfl rfl hq10 hl.1 rfl rfl (Nat.le_of_ble_eq_true rfl) dL_law_1524 hc hs (fun H locs hP hD hS => ?_)
  refine lv_iload hx hb dL_law_1527 (lv_at hl 1 rfl) ?_
  refine lv_icmp_eq (tgt := 1534) hx hb dL_law_1529 (by decide) (fun _ => ?_) (fun z => absurd rfl z)
  refine lv_iload hx hb dL_law_1534 (lv_at hl 1 rfl) ?_
  refine lv_if_ne (tgt := 1551) hx hb dL_law_1536 (by decide) (fun _ => ?_) (fun z => ?_)
  rotate_left
  refine lv_aload_n hx hb dL_law_1539 rfl (lv_at hl 3 rfl) ?_
  refine lv_iconst (v := 0) hx hb dL_law_1540 (by decide) ?_
  refine va_lald (D := E.1) (cl := vwCl) (tys := [(cL, .long)]) hx hb hLg.1 hP V8.length 0 (x_left (x_right (k := 0) rfl)) rfl (x_lit (m := 1) (k := 0) (Nat.le_refl _) (by decide) (by decide)) dL_law_1541 ?_
  rw [show g2 (Int32.toNatClampNeg 0) = v.toInt64 from hk z]
  refine lv_iload hx hb dL_law_1542 (lv_at hl 0 rfl) ?_
  refine lv_i2l hx hb dL_law_1544 rfl ?_
  refine W.lcmp hx hb dL_law_1545 ?_
  refine lv_if_eq (tgt := 1551) hx hb dL_law_1546 (by decide) (fun _ => ?_) (fun q => absurd (lc_cmp _) q)
  refine lv_goto (tgt := 1686) hx hb dL_law_1551 (by decide) ?_
  exact kk H locs ls ⟨V8, V9, g2, k, hI2, hP, hD, hS⟩ (lv_sub hl [2, 3, 4, 5, 6] rfl)
  refine lv_goto (tgt := 1686) hx hb dL_law_1551 (by decide) ?_
  exact kk H locs ls ⟨V8, V9, g2, k, hI2, hP, hD, hS⟩ (lv_sub hl [2, 3, 4, 5, 6] rfl)
set_option maxHeartbeats 4000000 in
set_option maxRecDepth 100000 in
theorem lc_undo (hst : l.stackTraces = false) (C0 : xCx p s m c b L xs E Z cL) (hc : cells + 1 ≤ 601024) (hs : slots + 6 ≤ 7293034) (i1 : vp_in (x4 + 1) L) (i2 : vp_in (x4 + 2) L) (i3 : vp_in (x4 + 3) L) (i4 : vp_in (x4 + 4) L) (i5 : vp_in (x4 + 5) L) (kk : xHd p l e s m below meth c E cL h h9 o b u w x4 1686 (cells + 1) (slots + 6)) : xHd p l e s m below meth c E cL h h9 o b u w x4 1554 cells slots := by
  obtain ⟨hx, hb, hml, hown, hts, hX, hbl, hE, hZ, hThr, hLg⟩ := C0
  have hA : ∀ q : Nat, s.heap.size ≤ q → (fun q : Nat => s.heap.size ≤ q) q := fun _ h => h
  have hAo : ∀ q : Nat, q < s.heap.size → ¬ (fun q : Nat => s.heap.size ≤ q) q := fun _ h => Nat.not_le.mpr h
  have hbA : ¬ (fun q : Nat => s.heap.size ≤ q) b := Nat.not_le.mpr hbl
  intro H locs ls hLW hl
  obtain ⟨W8, W9, g, t, hI, hP, hD, hS⟩ := hLW
  obtain ⟨f9, hq9⟩ := hI.hd9
  obtain ⟨f8, hq8⟩ := hI.hd8
  obtain ⟨rm, t2, v, V8, V9, hrc, hrs, hfr, hlo, hxx, hm, hI2⟩ := C_undo l E Z h h9 u w hI 
  refine lv_aload_n hx hb dL_law_1554 rfl (lv_at hl 3 rfl) ?_
  rw [List.append_assoc] at hP hD
  refine x_gV [] hxx ⟨hx, hb, hml, hown, hts⟩ (cwV 0 hts gL_law_X8_undo rfl hrc hrs hdX8_undo ⟨hfr, hlo⟩) hZ hE hP hD hS hA (ci := 8) rfl rfl hq8 hl.1 rfl rfl (Nat.le_of_ble_eq_true rfl) dL_law_1555 (Nat.le_of_succ_le hc) (Nat.le_trans (Nat.le_add_right _ 6) hs) (fun H locs hP hD hS => ?_)
  rw [← List.append_assoc] at hP hD
  refine lv_aload_n hx hb dL_law_1558 rfl (lv_at hl 2 rfl) ?_
  refine x_gV2 [] hm ⟨hx, hb, hml, hown, hts⟩ (cwV 0 hts gL_law_X9_undo rfl rfl rfl hdX9_undo ⟨Nat.le_of_ble_eq_true rfl, Nat.le_of_ble_eq_true rfl⟩) hZ hE hP hD hS hA (ci := 9) rfl rfl hq9 hl.1 rfl rfl (Nat.le_of_ble_eq_true rfl) dL_law_1559 (Nat.le_of_succ_le hc) (Nat.le_trans (Nat.le_add_right _ 6) hs) (fun H locs hP hD hS => ?_)
  refine lv_icmp_eq (tgt := 1686) hx hb dL_law_1562 (by decide) (fun _ => ?_) (fun z => absurd rfl z)
  refine W.widen (k := cells + 1) (n := slots + 6) (Nat.le_add_right _ _) (Nat.le_add_right _ _) ?_
  exact kk H locs ls ⟨V8, V9, g, t2, hI2, hP, hD, hS⟩ hl
set_option maxHeartbeats 4000000 in
set_option maxRecDepth 100000 in
theorem lc_saveSnapshot (hst : l.stackTraces = false) (C0 : xCx p s m c b L xs E Z cL) (hc : cells + 1 ≤ 601024) (hs : slots + 6 ≤ 7293034) (i1 : vp_in (x4 + 1) L) (i2 : vp_in (x4 + 2) L) (i3 : vp_in (x4 + 3) L) (i4 : vp_in (x4 + 4) L) (i5 : vp_in (x4 + 5) L) (kk : xHd p l e s m below meth c E cL h h9 o b u w x4 1686 (cells + 1) (slots + 6)) : xHd p l e s m below meth c E cL h h9 o b u w x4 1567 cells slots := by
  obtain ⟨hx, hb, hml, hown, hts, hX, hbl, hE, hZ, hThr, hLg⟩ := C0
  have hA : ∀ q : Nat, s.heap.size ≤ q → (fun q : Nat => s.heap.size ≤ q) q := fun _ h => h
  have hAo : ∀ q : Nat, q < s.heap.size → ¬ (fun q : Nat => s.heap.size ≤ q) q := fun _ h => Nat.not_le.mpr h
  have hbA : ¬ (fun q : Nat => s.heap.size ≤ q) b := Nat.not_le.mpr hbl
  intro H locs ls hLW hl
  obtain ⟨W8, W9, g, t, hI, hP, hD, hS⟩ := hLW
  obtain ⟨f9, hq9⟩ := hI.hd9
  obtain ⟨k, v, g2, V8, V9, hw, hm, hI2, hk⟩ := C_saveSnapshot l hst E Z cL h h9 o u w g hI (xs (x4 + 1).toNatClampNeg)
  refine lv_aload_n hx hb dL_law_1567 rfl (lv_at hl 3 rfl) ?_
  refine lv_aload_n hx hb dL_law_1568 rfl (lv_at hl 4 rfl) ?_
  refine lv_iload hx hb dL_law_1569 (lv_at hl 0 rfl) ?_
  refine lv_iconst (v := 1) hx hb dL_law_1571 (by decide) ?_
  refine lv_iadd hx hb dL_law_1572 ?_
  refine va_sld hx hb hX hbl hbA hS i1 dL_law_1573 ?_
  refine lv_aload_n hx hb dL_law_1574 rfl (lv_at hl 1 rfl) ?_
  refine x_gL [.ref h, .int (xs (x4 + 1).toNatClampNeg), .ref o] hw ⟨hx, hb, hml, hown, hts⟩ (vx_cwSW 3 hts gL_law_L_saveSnapshot rfl rfl rfl (by decide +kernel) ⟨Nat.le_of_ble_eq_true rfl, Nat.le_of_ble_eq_true rfl⟩) hZ hThr hAo hLg hE hP hD hS hA hl.1 rfl rfl (Nat.le_of_ble_eq_true rfl) dL_law_1575 hc hs (fun H locs hP hD hS => ?_)
  refine lv_istore (lv' := [(5, .int k), (4, .int x4), (3, .ref o), (2, .ref h9), (1, .ref h), (0, .ref b)]) hx hb dL_law_1578 hl (by decide) rfl (fun ls hl => ?_)
  refine lv_aload_n hx hb dL_law_1580 rfl (lv_at hl 3 rfl) ?_
  refine lv_aload_n hx hb dL_law_1581 rfl (lv_at hl 5 rfl) ?_
  refine lv_iload hx hb dL_law_1582 (lv_at hl 1 rfl) ?_
  refine lv_iconst (v := 1) hx hb dL_law_1584 (by decide) ?_
  refine lv_iadd hx hb dL_law_1585 ?_
  refine va_sld hx hb hX hbl hbA hS i1 dL_law_1586 ?_
  refine x_gV2 [.int (xs (x4 + 1).toNatClampNeg)] hm ⟨hx, hb, hml, hown, hts⟩ (cwV 1 hts gL_law_X9_saveSnapshot rfl rfl rfl hdX9_saveSnapshot ⟨Nat.le_of_ble_eq_true rfl, Nat.le_of_ble_eq_true rfl⟩) hZ hE hP hD hS hA (ci := 9) rfl rfl hq9 hl.1 rfl rfl (Nat.le_of_ble_eq_true rfl) dL_law_1587 hc hs (fun H locs hP hD hS => ?_)
  refine lv_istore (lv' := [(6, .int v), (5, .int k), (4, .int x4), (3, .ref o), (2, .ref h9), (1, .ref h), (0, .ref b)]) hx hb dL_law_1590 hl (by decide) rfl (fun ls hl => ?_)
  refine lv_aload_n hx hb dL_law_1592 rfl (lv_at hl 4 rfl) ?_
  obtain ⟨f10, hq10⟩ := hI2.hd9
  refine x_gV2 [] (hI2.th l Z) ⟨hx, hb, hml, hown, hts⟩ (cwV 0 hts gL_law_X9_thrown rfl rfl rfl hdX9_thrown ⟨Nat.le_of_ble_eq_true rfl, Nat.le_of_ble_eq_true rfl⟩) hZ hE hP hD hS hA (ci := 9) rfl rfl hq10 hl.1 rfl rfl (Nat.le_of_ble_eq_true rfl) dL_law_1593 hc hs (fun H locs hP hD hS => ?_)
  refine lv_iload hx hb dL_law_1596 (lv_at hl 1 rfl) ?_
  refine lv_icmp_eq (tgt := 1603) hx hb dL_law_1598 (by decide) (fun _ => ?_) (fun z => absurd rfl z)
  refine lv_iload hx hb dL_law_1603 (lv_at hl 1 rfl) ?_
  refine lv_if_ne (tgt := 1627) hx hb dL_law_1605 (by decide) (fun _ => ?_) (fun z => ?_)
  rotate_left
  refine lv_aload_n hx hb dL_law_1608 rfl (lv_at hl 3 rfl) ?_
  refine lv_iconst (v := 0) hx hb dL_law_1609 (by decide) ?_
  refine va_lald (D := E.1) (cl := vwCl) (tys := [(cL, .long)]) hx hb hLg.1 hP V8.length 0 (x_left (x_right (k := 0) rfl)) rfl (x_lit (m := 1) (k := 0) (Nat.le_refl _) (by decide) (by decide)) dL_law_1610 ?_
  rw [show g2 (Int32.toNatClampNeg 0) = (if v = 0 then (0 : Int64) else 1) from hk z]
  refine lv_iload hx hb dL_law_1611 (lv_at hl 0 rfl) ?_
  refine lv_if_eq (tgt := 1620) hx hb dL_law_1613 (by decide) (fun y => ?_) (fun y => ?_)
  · refine lv_lconst (v := 0) hx hb dL_law_1620 rfl ?_
    rw [show (if v = 0 then (0 : Int64) else 1) = 0 from if_pos y]
    refine W.lcmp hx hb dL_law_1621 ?_
    refine lv_if_eq (tgt := 1627) hx hb dL_law_1622 (by decide) (fun _ => ?_) (fun q => absurd (lc_cmp _) q)
    refine lv_goto (tgt := 1686) hx hb dL_law_1627 (by decide) ?_
    exact kk H locs ls ⟨V8, V9, g2, k, hI2, hP, hD, hS⟩ (lv_sub hl [2, 3, 4, 5, 6] rfl)
  · refine lv_lconst (v := 1) hx hb dL_law_1616 rfl ?_
    refine lv_goto (tgt := 1621) hx hb dL_law_1617 (by decide) ?_
    rw [show (if v = 0 then (0 : Int64) else 1) = 1 from if_neg y]
    refine W.lcmp hx hb dL_law_1621 ?_
    refine lv_if_eq (tgt := 1627) hx hb dL_law_1622 (by decide) (fun _ => ?_) (fun q => absurd (lc_cmp _) q)
    refine lv_goto (tgt := 1686) hx hb dL_law_1627 (by decide) ?_
    exact kk H locs ls ⟨V8, V9, g2, k, hI2, hP, hD, hS⟩ (lv_sub hl [2, 3, 4, 5, 6] rfl)
  refine lv_goto (tgt := 1686) hx hb dL_law_1627 (by decide) ?_
  exact kk H locs ls ⟨V8, V9, g2, k, hI2, hP, hD, hS⟩ (lv_sub hl [2, 3, 4, 5, 6] rfl)
set_option maxHeartbeats 4000000 in
set_option maxRecDepth 100000 in
theorem lc_restoreSnapshot (hst : l.stackTraces = false) (C0 : xCx p s m c b L xs E Z cL) (hc : cells + 1 ≤ 601024) (hs : slots + 6 ≤ 7293034) (i1 : vp_in (x4 + 1) L) (i2 : vp_in (x4 + 2) L) (i3 : vp_in (x4 + 3) L) (i4 : vp_in (x4 + 4) L) (i5 : vp_in (x4 + 5) L) (kk : xHd p l e s m below meth c E cL h h9 o b u w x4 1686 (cells + 1) (slots + 6)) : xHd p l e s m below meth c E cL h h9 o b u w x4 1630 cells slots := by
  obtain ⟨hx, hb, hml, hown, hts, hX, hbl, hE, hZ, hThr, hLg⟩ := C0
  have hA : ∀ q : Nat, s.heap.size ≤ q → (fun q : Nat => s.heap.size ≤ q) q := fun _ h => h
  have hAo : ∀ q : Nat, q < s.heap.size → ¬ (fun q : Nat => s.heap.size ≤ q) q := fun _ h => Nat.not_le.mpr h
  have hbA : ¬ (fun q : Nat => s.heap.size ≤ q) b := Nat.not_le.mpr hbl
  intro H locs ls hLW hl
  obtain ⟨W8, W9, g, t, hI, hP, hD, hS⟩ := hLW
  obtain ⟨f9, hq9⟩ := hI.hd9
  obtain ⟨k, v, g2, V8, V9, hw, hm, hI2, hk⟩ := C_restoreSnapshot l hst E Z cL h h9 o u w g hI (xs (x4 + 1).toNatClampNeg)
  refine lv_aload_n hx hb dL_law_1630 rfl (lv_at hl 3 rfl) ?_
  refine lv_aload_n hx hb dL_law_1631 rfl (lv_at hl 4 rfl) ?_
  refine lv_iload hx hb dL_law_1632 (lv_at hl 0 rfl) ?_
  refine lv_iconst (v := 1) hx hb dL_law_1634 (by decide) ?_
  refine lv_iadd hx hb dL_law_1635 ?_
  refine va_sld hx hb hX hbl hbA hS i1 dL_law_1636 ?_
  refine lv_aload_n hx hb dL_law_1637 rfl (lv_at hl 1 rfl) ?_
  refine x_gL [.ref h, .int (xs (x4 + 1).toNatClampNeg), .ref o] hw ⟨hx, hb, hml, hown, hts⟩ (vx_cwSW 3 hts gL_law_L_restoreSnapshot rfl rfl rfl (by decide +kernel) ⟨Nat.le_of_ble_eq_true rfl, Nat.le_of_ble_eq_true rfl⟩) hZ hThr hAo hLg hE hP hD hS hA hl.1 rfl rfl (Nat.le_of_ble_eq_true rfl) dL_law_1638 hc hs (fun H locs hP hD hS => ?_)
  refine lv_istore (lv' := [(5, .int k), (4, .int x4), (3, .ref o), (2, .ref h9), (1, .ref h), (0, .ref b)]) hx hb dL_law_1641 hl (by decide) rfl (fun ls hl => ?_)
  refine lv_aload_n hx hb dL_law_1643 rfl (lv_at hl 3 rfl) ?_
  refine lv_aload_n hx hb dL_law_1644 rfl (lv_at hl 5 rfl) ?_
  refine lv_iload hx hb dL_law_1645 (lv_at hl 1 rfl) ?_
  refine lv_iconst (v := 1) hx hb dL_law_1647 (by decide) ?_
  refine lv_iadd hx hb dL_law_1648 ?_
  refine va_sld hx hb hX hbl hbA hS i1 dL_law_1649 ?_
  refine x_gV2 [.int (xs (x4 + 1).toNatClampNeg)] hm ⟨hx, hb, hml, hown, hts⟩ (cwV 1 hts gL_law_X9_restoreSnapshot rfl rfl rfl hdX9_restoreSnapshot ⟨Nat.le_of_ble_eq_true rfl, Nat.le_of_ble_eq_true rfl⟩) hZ hE hP hD hS hA (ci := 9) rfl rfl hq9 hl.1 rfl rfl (Nat.le_of_ble_eq_true rfl) dL_law_1650 hc hs (fun H locs hP hD hS => ?_)
  refine lv_istore (lv' := [(6, .int v), (5, .int k), (4, .int x4), (3, .ref o), (2, .ref h9), (1, .ref h), (0, .ref b)]) hx hb dL_law_1653 hl (by decide) rfl (fun ls hl => ?_)
  refine lv_aload_n hx hb dL_law_1655 rfl (lv_at hl 4 rfl) ?_
  obtain ⟨f10, hq10⟩ := hI2.hd9
  refine x_gV2 [] (hI2.th l Z) ⟨hx, hb, hml, hown, hts⟩ (cwV 0 hts gL_law_X9_thrown rfl rfl rfl hdX9_thrown ⟨Nat.le_of_ble_eq_true rfl, Nat.le_of_ble_eq_true rfl⟩) hZ hE hP hD hS hA (ci := 9) rfl rfl hq10 hl.1 rfl rfl (Nat.le_of_ble_eq_true rfl) dL_law_1656 hc hs (fun H locs hP hD hS => ?_)
  refine lv_iload hx hb dL_law_1659 (lv_at hl 1 rfl) ?_
  refine lv_icmp_eq (tgt := 1666) hx hb dL_law_1661 (by decide) (fun _ => ?_) (fun z => absurd rfl z)
  refine lv_iload hx hb dL_law_1666 (lv_at hl 1 rfl) ?_
  refine lv_if_ne (tgt := 1683) hx hb dL_law_1668 (by decide) (fun _ => ?_) (fun z => ?_)
  rotate_left
  refine lv_aload_n hx hb dL_law_1671 rfl (lv_at hl 3 rfl) ?_
  refine lv_iconst (v := 0) hx hb dL_law_1672 (by decide) ?_
  refine va_lald (D := E.1) (cl := vwCl) (tys := [(cL, .long)]) hx hb hLg.1 hP V8.length 0 (x_left (x_right (k := 0) rfl)) rfl (x_lit (m := 1) (k := 0) (Nat.le_refl _) (by decide) (by decide)) dL_law_1673 ?_
  rw [show g2 (Int32.toNatClampNeg 0) = v.toInt64 from hk z]
  refine lv_iload hx hb dL_law_1674 (lv_at hl 0 rfl) ?_
  refine lv_i2l hx hb dL_law_1676 rfl ?_
  refine W.lcmp hx hb dL_law_1677 ?_
  refine lv_if_eq (tgt := 1683) hx hb dL_law_1678 (by decide) (fun _ => ?_) (fun q => absurd (lc_cmp _) q)
  refine lv_goto (tgt := 1686) hx hb dL_law_1683 (by decide) ?_
  exact kk H locs ls ⟨V8, V9, g2, k, hI2, hP, hD, hS⟩ (lv_sub hl [2, 3, 4, 5, 6] rfl)
  refine lv_goto (tgt := 1686) hx hb dL_law_1683 (by decide) ?_
  exact kk H locs ls ⟨V8, V9, g2, k, hI2, hP, hD, hS⟩ (lv_sub hl [2, 3, 4, 5, 6] rfl)
end LCS
