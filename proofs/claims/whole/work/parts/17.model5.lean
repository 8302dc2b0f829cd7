theorem x_zast {p : Program} {l : Launch} {e : Env} {R : Room} {s : State} {m : MethodId} {args : Array Value} {below : List Frame} {meth : Method} {c : Code} {H : Heap} {locs : List Loc} {cells slots : Nat} {Q : State → Prop} {cc : ByteArray} {pc : Nat} {ls : Array Slot} {a : Nat} {rest : List Value} {ws : va_W} {A : Nat → Prop} {H0 : Heap} {D : va_G} {cl : List vw_C} {tys : List (ClassId × FieldType)} (hx : p.tables.exec = Jvm.exec) (hb : c.code = cc) (hK : va_K D cl tys s) (hP : va_P D cl ws H) (hD : va_D A ws) (hS : va_S A H0 H locs) (q0 t0 : Nat) {cA : ClassId} {n : Nat} {f : Nat → Int32} (ha : ws[q0]? = some (a, .inl (cA, n, .inl f))) (ht : tys[t0]? = some (cA, .boolean)) {i : Int32} {x : Int32} (k : Nat) (hk : i.toNatClampNeg = k) (hin : vp_in i n) (hdg : decode cc pc = .ok (.bastore, 1))
    (kk : ∀ (H1 : Heap) (locs1 : List Loc), va_P D cl (ws.set q0 (a, .inl (cA, n, .inl (upd f k (vp_nar .boolean x))))) H1 → va_D A (ws.set q0 (a, .inl (cA, n, .inl (upd f k (vp_nar .boolean x))))) → va_S A H0 H1 locs1 → W p l e R s m args below meth c H1 locs1 cells slots Q (F0 m (pc + 1) ls rest)) : W p l e R s m args below meth c H locs cells slots Q (F0 m pc ls (.int x :: .int i :: .ref a :: rest)) := by
  subst hk
  exact va_zast hx hb hK hP hD hS q0 t0 ha ht hin hdg kk
theorem x_wl {p : Program} {l : Launch} {e : Env} {R : Room} {s : State} {m : MethodId} {args : Array Value} {below : List Frame} {meth : Method} {c : Code} {H : Heap} {locs : List Loc} {cells slots : Nat} {E : XE} {ws : va_W} {A : Nat → Prop} {cc : ByteArray} {pc : Nat} {ls : Array Slot} {T : Type} {rv : T → Option Value} {W1 : T → va_W} {q : T} {mc ms : Nat} {v : Int64} (u : T) (he : q = u) (hv : rv u = some (.long v)) (hx : p.tables.exec = Jvm.exec) (hb : c.code = cc) (hr : meth.sig.returnType = some .long) (hlk : meth.locks = false) (hS : va_S A s.heap H locs) (hP : va_P E.1 vwCl ws H) (hD : va_D A ws) (is : List Nat) (hn : va_nd is = true) (hs : is.map (fun i => ws[i]?) = (W1 u).map some) (hc : cells ≤ mc) (hsl : slots ≤ ms) (hdg : decode cc pc = .ok (.lreturn, 1)) : W p l e R s m args below meth c H locs cells slots (MQ below (xO E A rv W1 q) args s mc ms A) (F0 m pc ls [.long v]) := by
  subst he
  obtain ⟨h1, h2⟩ := x_pick hP hD is hn hs
  exact W.widen hc hsl (W.lret hx hb hr (fun t ht _ => ⟨by rw [hv], by rw [ht]; exact h1, h2, hS.F ht⟩) hS.2.2 hdg hlk)
theorem x_lk {link : Int32} (c : ¬ sX9_within link 1 2 = 0) : link = 1 ∨ link = 2 := by
  obtain ⟨a, b⟩ := x_within c
  have k1 : (1 : Int32).toInt = 1 := by decide
  have k2 : (2 : Int32).toInt = 2 := by decide
  rw [Int32.le_iff_toInt_le, k1] at a
  rw [Int32.le_iff_toInt_le, k2] at b
  rcases (show link.toInt = 1 ∨ link.toInt = 2 by omega) with h | h
  · exact Or.inl (Int32.toInt_inj.mp (by rw [h]; decide))
  · exact Or.inr (Int32.toInt_inj.mp (by rw [h]; decide))
theorem x_lk0 {link : Int32} (c : ¬ sX9_within link 1 2 = 0) : link - 1 = 0 ∨ link - 1 = 1 := by
  rcases x_lk c with rfl | rfl
  · exact Or.inl (by decide)
  · exact Or.inr (by decide)
theorem x_i0 {link : Int32} (h : link = 0 ∨ link = 1) : vp_in (10 + link) 214 ∧ vp_in (12 + link) 214 ∧ vp_in (1 + link) 48 := by
  rcases h with rfl | rfl <;> exact ⟨by unfold vp_in; decide, by unfold vp_in; decide, by unfold vp_in; decide⟩
theorem x_i1 {link : Int32} (h : link = 1 ∨ link = 2) : vp_in ((10 + link) - 1) 214 ∧ vp_in ((12 + link) - 1) 214 ∧ vp_in ((1 + link) - 1) 48 := by
  rcases h with rfl | rfl <;> exact ⟨by unfold vp_in; decide, by unfold vp_in; decide, by unfold vp_in; decide⟩
theorem x_what {w : Int32} (c : ¬ sX9_within w 0 8 = 0) : vp_in w 214 := by
  obtain ⟨a, b⟩ := x_within c
  have k : (8 : Int32).toInt = 8 := by decide
  rw [Int32.le_iff_toInt_le, Int32.toInt_zero] at a
  rw [Int32.le_iff_toInt_le, k] at b
  rw [vp_in_iff]
  omega
theorem x_th {a k lim : Int32} {T : Int} (h : a.toInt = T + k.toInt) (hk : ¬ k < 0) (hm : ¬ lim ≤ k) (hl : lim ≤ 1000) (h0 : 0 ≤ T) (h1 : T ≤ 100000) : ¬ a + 1 < 0 := by
  have k1 : (1 : Int32).toInt = 1 := by decide
  have kt : (1000 : Int32).toInt = 1000 := by decide
  rw [Int32.le_iff_toInt_le, kt] at hl
  rw [Int32.le_iff_toInt_le] at hm
  rw [Int32.lt_iff_toInt_lt, Int32.toInt_zero] at hk
  rw [Int32.lt_iff_toInt_lt, Int32.toInt_zero, x_addI (by rw [k1]; omega) (by rw [k1]; omega), k1]
  omega
theorem x_tk {a b k lim : Int32} {T : Int} (h : a.toInt = T + k.toInt) (e : b = a + 1) (hk : ¬ k < 0) (hm : ¬ lim ≤ k) (hl : lim ≤ 1000) (h0 : 0 ≤ T) (h1 : T ≤ 100000) : b.toInt = T + (k + 1).toInt := by
  have k1 : (1 : Int32).toInt = 1 := by decide
  have kt : (1000 : Int32).toInt = 1000 := by decide
  have e1 := x_up hk hm
  rw [Int32.le_iff_toInt_le, kt] at hl
  rw [Int32.le_iff_toInt_le] at hm
  rw [Int32.lt_iff_toInt_lt, Int32.toInt_zero] at hk
  rw [e, x_addI (by rw [k1]; omega) (by rw [k1]; omega), k1, e1]
  omega
theorem x_tk0 (T : Int) : T = T + (0 : Int32).toInt := by
  have : (0 : Int32).toInt = 0 := by decide
  omega

def sX9_partOfLink_g (now : Nat → Int32) (told : Nat → Int32) (link : Int32) (what : Int32) : Int32 :=
  if what = 0 then
    sX9_partOf (sX9_leanOf (now ((10 + link).toNatClampNeg))) (told 15)
  else
    sX9_partOf (now ((12 + link).toNatClampNeg)) (told 16)
set_option maxHeartbeats 4000000 in
set_option maxRecDepth 100000 in
theorem kX9_partOfLink_g (l : Launch) (E : XE) (h : Nat) (thrown : Int32) (nw : Nat) (td : Nat) (tx : Nat) (length : Int32) (textSize : Int32) (start : Int32) (next : Int32) (token : Int32) (value : Int32) (error : Int32) (errorAt : Int32) (seen : Int32) (triedWith : Int32) (rr : Nat) (ss : Nat) (tr : Nat) (wa : Nat) (undos : Int32) (ud : Nat) (sl : Nat) (sv : Nat) (now : Nat → Int32) (told : Nat → Int32) (link : Int32) (what : Int32) (hl0 : link = 0 ∨ link = 1) (hw1 : ¬ 2 * told 15 = 0) (hw2 : ¬ 2 * told 16 = 0) : xR l yX9_partOfLink wsX9_partOfLink ({ frames := 1, cells := 0, slots := 0, locals := 23 }) E [(h, .inr (9, [.int thrown, .ref nw, .ref td, .ref tx, .int length, .int textSize, .int start, .int next, .int token, .int value, .int error, .int errorAt, .int seen, .int triedWith, .ref rr, .ref ss, .ref tr, .ref wa, .int undos, .ref ud, .ref sl, .ref sv])), (nw, .inl (E.2.1, 214, .inl now)), (td, .inl (E.2.1, 48, .inl told))] [.ref h, .int link, .int what] (.int (sX9_partOfLink_g now told link what)) := by
  refine xR.of (cc := cX9_partOfLink) (maxL := 3) (ret := (some .int)) (by decide) rfl (Nat.le_of_ble_eq_true rfl) ?_
  intro p e s m args below meth c ls hM hE hP hD hl
  obtain ⟨hx, hb, hr, hml, hts, hown, hlk, hnm⟩ := hM
  have g_1 : (Cond.fieldLink RX9 7 "RailPendulumModel" "now" "[I").before args s = true := hts (Cond.fieldLink RX9 7 "RailPendulumModel" "now" "[I") (by decide +kernel)
  have g_2 : ∀ w ∈ wsX90, w ∈ wsX9_partOfLink := by decide +kernel
  have g_3 : (Cond.fieldLink RX9 13 "RailPendulumModel" "told" "[I").before args s = true := hts (Cond.fieldLink RX9 13 "RailPendulumModel" "told" "[I") (by decide +kernel)
  have hl : lv_has ls 3 [(0, .ref h), (1, .int link), (2, .int what)] := hl
  refine lv_iload_n hx hb dX9_partOfLink_0 rfl (lv_at hl 2 rfl) ?_
  refine lv_if_ne (tgt := 29) hx hb dX9_partOfLink_1 (by decide) (fun c_1 => ?_) (fun c_1 => ?_)
  · refine lv_aload_n hx hb dX9_partOfLink_29 rfl (lv_at hl 0 rfl) ?_
    refine va_get (D := E.1) (ci := 9) (v := .ref nw) (C := RX9) (T := TX9) (N := 22) hx hb hts g_2 hown hE.1 hP 0 rfl rfl 1 (by decide) g_1 (fun _ h9 => h9) rfl dX9_partOfLink_30 ?_
    refine lv_bipush (v := 12) hx hb dX9_partOfLink_33 (by decide) ?_
    refine lv_iload_n hx hb dX9_partOfLink_35 rfl (lv_at hl 1 rfl) ?_
    refine lv_iadd hx hb dX9_partOfLink_36 ?_
    refine x_iald hx hb hE.1 hP 1 0 rfl rfl ((12 + link).toNatClampNeg) rfl (x_i0 hl0).2.1 dX9_partOfLink_37 ?_
    refine lv_aload_n hx hb dX9_partOfLink_38 rfl (lv_at hl 0 rfl) ?_
    refine va_get (D := E.1) (ci := 9) (v := .ref td) (C := RX9) (T := TX9) (N := 22) hx hb hts g_2 hown hE.1 hP 0 rfl rfl 2 (by decide) g_3 (fun _ h9 => h9) rfl dX9_partOfLink_39 ?_
    refine lv_bipush (v := 16) hx hb dX9_partOfLink_42 (by decide) ?_
    refine x_iald hx hb hE.1 hP 2 0 rfl rfl 16 (by decide) (by unfold vp_in; decide) dX9_partOfLink_44 ?_
    refine x_rS [.int (now ((12 + link).toNatClampNeg)), .int (told 16)] (kX9_partOf l E (now ((12 + link).toNatClampNeg)) (told 16) hw2) ⟨hx, hb, hml, hown, hts⟩ (va_cwS 2 hts gX9_partOfLink_X9_partOf rfl rfl rfl hdX9_partOf.2 ⟨Nat.le_of_ble_eq_true rfl, Nat.le_of_ble_eq_true rfl⟩) hE hP hD [] rfl rfl hl.1 rfl rfl (Nat.le_of_ble_eq_true rfl) dX9_partOfLink_45 (Nat.le_of_ble_eq_true rfl) (Nat.le_of_ble_eq_true rfl) ?_
    exact x_ir (by unfold sX9_partOfLink_g; rw [if_neg c_1]; try rfl) hx hb hr hlk dX9_partOfLink_48
  · refine lv_aload_n hx hb dX9_partOfLink_4 rfl (lv_at hl 0 rfl) ?_
    refine va_get (D := E.1) (ci := 9) (v := .ref nw) (C := RX9) (T := TX9) (N := 22) hx hb hts g_2 hown hE.1 hP 0 rfl rfl 1 (by decide) g_1 (fun _ h9 => h9) rfl dX9_partOfLink_5 ?_
    refine lv_bipush (v := 10) hx hb dX9_partOfLink_8 (by decide) ?_
    refine lv_iload_n hx hb dX9_partOfLink_10 rfl (lv_at hl 1 rfl) ?_
    refine lv_iadd hx hb dX9_partOfLink_11 ?_
    refine x_iald hx hb hE.1 hP 1 0 rfl rfl ((10 + link).toNatClampNeg) rfl (x_i0 hl0).1 dX9_partOfLink_12 ?_
    refine x_rS [.int (now ((10 + link).toNatClampNeg))] (kX9_leanOf l E (now ((10 + link).toNatClampNeg))) ⟨hx, hb, hml, hown, hts⟩ (va_cwS 1 hts gX9_partOfLink_X9_leanOf rfl rfl rfl hdX9_leanOf.2 ⟨Nat.le_of_ble_eq_true rfl, Nat.le_of_ble_eq_true rfl⟩) hE hP hD [] rfl rfl hl.1 rfl rfl (Nat.le_of_ble_eq_true rfl) dX9_partOfLink_13 (Nat.le_of_ble_eq_true rfl) (Nat.le_of_ble_eq_true rfl) ?_
    refine lv_aload_n hx hb dX9_partOfLink_16 rfl (lv_at hl 0 rfl) ?_
    refine va_get (D := E.1) (ci := 9) (v := .ref td) (C := RX9) (T := TX9) (N := 22) hx hb hts g_2 hown hE.1 hP 0 rfl rfl 2 (by decide) g_3 (fun _ h9 => h9) rfl dX9_partOfLink_17 ?_
    refine lv_bipush (v := 15) hx hb dX9_partOfLink_20 (by decide) ?_
    refine x_iald hx hb hE.1 hP 2 0 rfl rfl 15 (by decide) (by unfold vp_in; decide) dX9_partOfLink_22 ?_
    refine x_rS [.int (sX9_leanOf (now ((10 + link).toNatClampNeg))), .int (told 15)] (kX9_partOf l E (sX9_leanOf (now ((10 + link).toNatClampNeg))) (told 15) hw1) ⟨hx, hb, hml, hown, hts⟩ (va_cwS 2 hts gX9_partOfLink_X9_partOf rfl rfl rfl hdX9_partOf.2 ⟨Nat.le_of_ble_eq_true rfl, Nat.le_of_ble_eq_true rfl⟩) hE hP hD [] rfl rfl hl.1 rfl rfl (Nat.le_of_ble_eq_true rfl) dX9_partOfLink_23 (Nat.le_of_ble_eq_true rfl) (Nat.le_of_ble_eq_true rfl) ?_
    refine lv_goto (tgt := 48) hx hb dX9_partOfLink_26 (by decide) ?_
    exact x_ir (by unfold sX9_partOfLink_g; rw [if_pos c_1]; try rfl) hx hb hr hlk dX9_partOfLink_48
def sX9_energyOf_g (now : Nat → Int32) (told : Nat → Int32) (link : Int32) : Int64 :=
  ((((now ((12 + link).toNatClampNeg)).toInt64) * ((now ((12 + link).toNatClampNeg)).toInt64)) / 2) + (((((told ((1 + link).toNatClampNeg)).toInt64) * ((sX9_cosineOf (now ((10 + link).toNatClampNeg))).toInt64)) * 10430) / 4096)
set_option maxHeartbeats 4000000 in
set_option maxRecDepth 100000 in
theorem kX9_energyOf_g (l : Launch) (E : XE) (h : Nat) (thrown : Int32) (nw : Nat) (td : Nat) (tx : Nat) (length : Int32) (textSize : Int32) (start : Int32) (next : Int32) (token : Int32) (value : Int32) (error : Int32) (errorAt : Int32) (seen : Int32) (triedWith : Int32) (rr : Nat) (ss : Nat) (tr : Nat) (wa : Nat) (undos : Int32) (ud : Nat) (sl : Nat) (sv : Nat) (now : Nat → Int32) (told : Nat → Int32) (link : Int32) (hl0 : link = 0 ∨ link = 1) : xR l yX9_energyOf wsX9_energyOf ({ frames := 2, cells := 0, slots := 0, locals := 44 }) E [(h, .inr (9, [.int thrown, .ref nw, .ref td, .ref tx, .int length, .int textSize, .int start, .int next, .int token, .int value, .int error, .int errorAt, .int seen, .int triedWith, .ref rr, .ref ss, .ref tr, .ref wa, .int undos, .ref ud, .ref sl, .ref sv])), (nw, .inl (E.2.1, 214, .inl now)), (td, .inl (E.2.1, 48, .inl told))] [.ref h, .int link] (.long (sX9_energyOf_g now told link)) := by
  refine xR.of (cc := cX9_energyOf) (maxL := 4) (ret := (some .long)) (by decide) rfl (Nat.le_of_ble_eq_true rfl) ?_
  intro p e s m args below meth c ls hM hE hP hD hl
  obtain ⟨hx, hb, hr, hml, hts, hown, hlk, hnm⟩ := hM
  have g_1 : (Cond.fieldLink RX9 7 "RailPendulumModel" "now" "[I").before args s = true := hts (Cond.fieldLink RX9 7 "RailPendulumModel" "now" "[I") (by decide +kernel)
  have g_2 : ∀ w ∈ wsX90, w ∈ wsX9_energyOf := by decide +kernel
  have g_3 : (Cond.constantLong RX9 240 (2)).before args s = true := hts (Cond.constantLong RX9 240 (2)) (by decide +kernel)
  have g_4 : (Cond.fieldLink RX9 13 "RailPendulumModel" "told" "[I").before args s = true := hts (Cond.fieldLink RX9 13 "RailPendulumModel" "told" "[I") (by decide +kernel)
  have g_5 : (Cond.constantLong RX9 242 (10430)).before args s = true := hts (Cond.constantLong RX9 242 (10430)) (by decide +kernel)
  have g_6 : (Cond.constantLong RX9 244 (4096)).before args s = true := hts (Cond.constantLong RX9 244 (4096)) (by decide +kernel)
  have hl : lv_has ls 4 [(0, .ref h), (1, .int link)] := hl
  refine lv_aload_n hx hb dX9_energyOf_0 rfl (lv_at hl 0 rfl) ?_
  refine va_get (D := E.1) (ci := 9) (v := .ref nw) (C := RX9) (T := TX9) (N := 22) hx hb hts g_2 hown hE.1 hP 0 rfl rfl 1 (by decide) g_1 (fun _ h9 => h9) rfl dX9_energyOf_1 ?_
  refine lv_bipush (v := 12) hx hb dX9_energyOf_4 (by decide) ?_
  refine lv_iload_n hx hb dX9_energyOf_6 rfl (lv_at hl 1 rfl) ?_
  refine lv_iadd hx hb dX9_energyOf_7 ?_
  refine x_iald hx hb hE.1 hP 1 0 rfl rfl ((12 + link).toNatClampNeg) rfl (x_i0 hl0).2.1 dX9_energyOf_8 ?_
  refine lv_i2l hx hb dX9_energyOf_9 rfl ?_
  refine lv_lstore_n (lv' := [(2, .long ((now ((12 + link).toNatClampNeg)).toInt64)), (0, .ref h), (1, .int link)]) hx hb dX9_energyOf_10 rfl hl (by decide) rfl (fun ls hl => ?_)
  refine lv_lload_n hx hb dX9_energyOf_11 rfl (lv_at hl 0 rfl) ?_
  refine lv_lload_n hx hb dX9_energyOf_12 rfl (lv_at hl 0 rfl) ?_
  refine lv_lmul hx hb dX9_energyOf_13 ?_
  refine lv_ldc2 (v := 2) hx hb hown g_3 dX9_energyOf_14 ?_
  refine lv_ldiv hx hb dX9_energyOf_17 (by decide) ?_
  refine lv_aload_n hx hb dX9_energyOf_18 rfl (lv_at hl 1 rfl) ?_
  refine va_get (D := E.1) (ci := 9) (v := .ref td) (C := RX9) (T := TX9) (N := 22) hx hb hts g_2 hown hE.1 hP 0 rfl rfl 2 (by decide) g_4 (fun _ h9 => h9) rfl dX9_energyOf_19 ?_
  refine lv_iconst (v := 1) hx hb dX9_energyOf_22 (by decide) ?_
  refine lv_iload_n hx hb dX9_energyOf_23 rfl (lv_at hl 2 rfl) ?_
  refine lv_iadd hx hb dX9_energyOf_24 ?_
  refine x_iald hx hb hE.1 hP 2 0 rfl rfl ((1 + link).toNatClampNeg) rfl (x_i0 hl0).2.2 dX9_energyOf_25 ?_
  refine lv_i2l hx hb dX9_energyOf_26 rfl ?_
  refine lv_aload_n hx hb dX9_energyOf_27 rfl (lv_at hl 1 rfl) ?_
  refine va_get (D := E.1) (ci := 9) (v := .ref nw) (C := RX9) (T := TX9) (N := 22) hx hb hts g_2 hown hE.1 hP 0 rfl rfl 1 (by decide) g_1 (fun _ h9 => h9) rfl dX9_energyOf_28 ?_
  refine lv_bipush (v := 10) hx hb dX9_energyOf_31 (by decide) ?_
  refine lv_iload_n hx hb dX9_energyOf_33 rfl (lv_at hl 2 rfl) ?_
  refine lv_iadd hx hb dX9_energyOf_34 ?_
  refine x_iald hx hb hE.1 hP 1 0 rfl rfl ((10 + link).toNatClampNeg) rfl (x_i0 hl0).1 dX9_energyOf_35 ?_
  refine x_rS [.int (now ((10 + link).toNatClampNeg))] (kX9_cosineOf l E (now ((10 + link).toNatClampNeg))) ⟨hx, hb, hml, hown, hts⟩ (va_cwS 1 hts gX9_energyOf_X9_cosineOf rfl rfl rfl hdX9_cosineOf.2 ⟨Nat.le_of_ble_eq_true rfl, Nat.le_of_ble_eq_true rfl⟩) hE hP hD [] rfl rfl hl.1 rfl rfl (Nat.le_of_ble_eq_true rfl) dX9_energyOf_36 (Nat.le_of_ble_eq_true rfl) (Nat.le_of_ble_eq_true rfl) ?_
  refine lv_i2l hx hb dX9_energyOf_39 rfl ?_
  refine lv_lmul hx hb dX9_energyOf_40 ?_
  refine lv_ldc2 (v := 10430) hx hb hown g_5 dX9_energyOf_41 ?_
  refine lv_lmul hx hb dX9_energyOf_44 ?_
  refine lv_ldc2 (v := 4096) hx hb hown g_6 dX9_energyOf_45 ?_
  refine lv_ldiv hx hb dX9_energyOf_48 (by decide) ?_
  refine lv_ladd hx hb dX9_energyOf_49 ?_
  exact x_lr (by unfold sX9_energyOf_g; try rfl) hx hb hr hlk dX9_energyOf_50
def sX9_ofLink_g (now : Nat → Int32) (link : Int32) (what : Int32) : Int32 :=
  if what = 0 then
    now (((10 + link) - 1).toNatClampNeg)
  else
    if what = 1 then
      now (((12 + link) - 1).toNatClampNeg)
    else
      sX9_leanOf (now (((10 + link) - 1).toNatClampNeg))
set_option maxHeartbeats 4000000 in
set_option maxRecDepth 100000 in
theorem kX9_ofLink_g (l : Launch) (E : XE) (h : Nat) (thrown : Int32) (nw : Nat) (td : Nat) (tx : Nat) (length : Int32) (textSize : Int32) (start : Int32) (next : Int32) (token : Int32) (value : Int32) (error : Int32) (errorAt : Int32) (seen : Int32) (triedWith : Int32) (rr : Nat) (ss : Nat) (tr : Nat) (wa : Nat) (undos : Int32) (ud : Nat) (sl : Nat) (sv : Nat) (now : Nat → Int32) (link : Int32) (what : Int32) (hl1 : link = 1 ∨ link = 2) : xR l yX9_ofLink wsX9_ofLink ({ frames := 1, cells := 0, slots := 0, locals := 20 }) E [(h, .inr (9, [.int thrown, .ref nw, .ref td, .ref tx, .int length, .int textSize, .int start, .int next, .int token, .int value, .int error, .int errorAt, .int seen, .int triedWith, .ref rr, .ref ss, .ref tr, .ref wa, .int undos, .ref ud, .ref sl, .ref sv])), (nw, .inl (E.2.1, 214, .inl now))] [.ref h, .int link, .int what] (.int (sX9_ofLink_g now link what)) := by
  refine xR.of (cc := cX9_ofLink) (maxL := 3) (ret := (some .int)) (by decide) rfl (Nat.le_of_ble_eq_true rfl) ?_
  intro p e s m args below meth c ls hM hE hP hD hl
  obtain ⟨hx, hb, hr, hml, hts, hown, hlk, hnm⟩ := hM
  have g_1 : (Cond.fieldLink RX9 7 "RailPendulumModel" "now" "[I").before args s = true := hts (Cond.fieldLink RX9 7 "RailPendulumModel" "now" "[I") (by decide +kernel)
  have g_2 : ∀ w ∈ wsX90, w ∈ wsX9_ofLink := by decide +kernel
  have hl : lv_has ls 3 [(0, .ref h), (1, .int link), (2, .int what)] := hl
  refine lv_iload_n hx hb dX9_ofLink_0 rfl (lv_at hl 2 rfl) ?_
  refine lv_if_ne (tgt := 18) hx hb dX9_ofLink_1 (by decide) (fun c_1 => ?_) (fun c_1 => ?_)
  · refine lv_iload_n hx hb dX9_ofLink_18 rfl (lv_at hl 2 rfl) ?_
    refine lv_iconst (v := 1) hx hb dX9_ofLink_19 (by decide) ?_
    refine lv_icmp_ne (tgt := 37) hx hb dX9_ofLink_20 (by decide) (fun c_2 => ?_) (fun c_2 => ?_)
    · refine lv_aload_n hx hb dX9_ofLink_37 rfl (lv_at hl 0 rfl) ?_
      refine va_get (D := E.1) (ci := 9) (v := .ref nw) (C := RX9) (T := TX9) (N := 22) hx hb hts g_2 hown hE.1 hP 0 rfl rfl 1 (by decide) g_1 (fun _ h9 => h9) rfl dX9_ofLink_38 ?_
      refine lv_bipush (v := 10) hx hb dX9_ofLink_41 (by decide) ?_
      refine lv_iload_n hx hb dX9_ofLink_43 rfl (lv_at hl 1 rfl) ?_
      refine lv_iadd hx hb dX9_ofLink_44 ?_
      refine lv_iconst (v := 1) hx hb dX9_ofLink_45 (by decide) ?_
      refine lv_isub hx hb dX9_ofLink_46 ?_
      refine x_iald hx hb hE.1 hP 1 0 rfl rfl (((10 + link) - 1).toNatClampNeg) rfl (x_i1 hl1).1 dX9_ofLink_47 ?_
      refine x_rS [.int (now (((10 + link) - 1).toNatClampNeg))] (kX9_leanOf l E (now (((10 + link) - 1).toNatClampNeg))) ⟨hx, hb, hml, hown, hts⟩ (va_cwS 1 hts gX9_ofLink_X9_leanOf rfl rfl rfl hdX9_leanOf.2 ⟨Nat.le_of_ble_eq_true rfl, Nat.le_of_ble_eq_true rfl⟩) hE hP hD [] rfl rfl hl.1 rfl rfl (Nat.le_of_ble_eq_true rfl) dX9_ofLink_48 (Nat.le_of_ble_eq_true rfl) (Nat.le_of_ble_eq_true rfl) ?_
      exact x_ir (by unfold sX9_ofLink_g; rw [if_neg c_1]; rw [if_neg c_2]; try rfl) hx hb hr hlk dX9_ofLink_51
    · refine lv_aload_n hx hb dX9_ofLink_23 rfl (lv_at hl 0 rfl) ?_
      refine va_get (D := E.1) (ci := 9) (v := .ref nw) (C := RX9) (T := TX9) (N := 22) hx hb hts g_2 hown hE.1 hP 0 rfl rfl 1 (by decide) g_1 (fun _ h9 => h9) rfl dX9_ofLink_24 ?_
      refine lv_bipush (v := 12) hx hb dX9_ofLink_27 (by decide) ?_
      refine lv_iload_n hx hb dX9_ofLink_29 rfl (lv_at hl 1 rfl) ?_
      refine lv_iadd hx hb dX9_ofLink_30 ?_
      refine lv_iconst (v := 1) hx hb dX9_ofLink_31 (by decide) ?_
      refine lv_isub hx hb dX9_ofLink_32 ?_
      refine x_iald hx hb hE.1 hP 1 0 rfl rfl (((12 + link) - 1).toNatClampNeg) rfl (x_i1 hl1).2.1 dX9_ofLink_33 ?_
      refine lv_goto (tgt := 51) hx hb dX9_ofLink_34 (by decide) ?_
      exact x_ir (by unfold sX9_ofLink_g; rw [if_neg c_1]; rw [if_pos c_2]; try rfl) hx hb hr hlk dX9_ofLink_51
  · refine lv_aload_n hx hb dX9_ofLink_4 rfl (lv_at hl 0 rfl) ?_
    refine va_get (D := E.1) (ci := 9) (v := .ref nw) (C := RX9) (T := TX9) (N := 22) hx hb hts g_2 hown hE.1 hP 0 rfl rfl 1 (by decide) g_1 (fun _ h9 => h9) rfl dX9_ofLink_5 ?_
    refine lv_bipush (v := 10) hx hb dX9_ofLink_8 (by decide) ?_
    refine lv_iload_n hx hb dX9_ofLink_10 rfl (lv_at hl 1 rfl) ?_
    refine lv_iadd hx hb dX9_ofLink_11 ?_
    refine lv_iconst (v := 1) hx hb dX9_ofLink_12 (by decide) ?_
    refine lv_isub hx hb dX9_ofLink_13 ?_
    refine x_iald hx hb hE.1 hP 1 0 rfl rfl (((10 + link) - 1).toNatClampNeg) rfl (x_i1 hl1).1 dX9_ofLink_14 ?_
    refine lv_goto (tgt := 51) hx hb dX9_ofLink_15 (by decide) ?_
    exact x_ir (by unfold sX9_ofLink_g; rw [if_pos c_1]; try rfl) hx hb hr hlk dX9_ofLink_51
def sX9_cellOf (now : Nat → Int32) (told : Nat → Int32) (link : Int32) (what : Int32) : Int32 × Int32 :=
  if (sX9_within link 1 2) = 0 then
    (0, 1)
  else
    if (sX9_within what 0 1) = 0 then
      (0, 2)
    else
      (sX9_partOfLink_g now told (link - 1) what, 0)
theorem hdX9_cellOf : yX9_cellOf.cls = RX9 ∧ yX9_cellOf.cls ≠ "java/lang/invoke/MethodHandle" ∧ yX9_cellOf.cls ≠ "java/lang/invoke/VarHandle" ∧ (parseMethodDescriptor yX9_cellOf.desc).map (fun d => d.parameters.length) = some 2 := by decide +kernel
set_option maxHeartbeats 4000000 in
set_option maxRecDepth 100000 in
theorem kX9_cellOf (l : Launch) (E : XE) (h : Nat) (thrown : Int32) (nw : Nat) (td : Nat) (tx : Nat) (length : Int32) (textSize : Int32) (start : Int32) (next : Int32) (token : Int32) (value : Int32) (error : Int32) (errorAt : Int32) (seen : Int32) (triedWith : Int32) (rr : Nat) (ss : Nat) (tr : Nat) (wa : Nat) (undos : Int32) (ud : Nat) (sl : Nat) (sv : Nat) (now : Nat → Int32) (told : Nat → Int32) (link : Int32) (what : Int32) (hw1 : ¬ 2 * told 15 = 0) (hw2 : ¬ 2 * told 16 = 0) : xW (T := Int32 × Int32) l yX9_cellOf wsX9_cellOf ({ frames := 2, cells := 0, slots := 0, locals := 45 }) E [(h, .inr (9, [.int thrown, .ref nw, .ref td, .ref tx, .int length, .int textSize, .int start, .int next, .int token, .int value, .int error, .int errorAt, .int seen, .int triedWith, .ref rr, .ref ss, .ref tr, .ref wa, .int undos, .ref ud, .ref sl, .ref sv])), (nw, .inl (E.2.1, 214, .inl now)), (td, .inl (E.2.1, 48, .inl told))] [.ref h, .int link, .int what] (fun q => some (.int q.1)) (fun q => [(h, .inr (9, [.int q.2, .ref nw, .ref td, .ref tx, .int length, .int textSize, .int start, .int next, .int token, .int value, .int error, .int errorAt, .int seen, .int triedWith, .ref rr, .ref ss, .ref tr, .ref wa, .int undos, .ref ud, .ref sl, .ref sv])), (nw, .inl (E.2.1, 214, .inl now)), (td, .inl (E.2.1, 48, .inl told))]) (sX9_cellOf now told link what) 0 0 := by
  refine xW.of (cc := cX9_cellOf) (maxL := 3) (ret := (some .int)) (by decide) rfl (Nat.le_of_ble_eq_true rfl) ?_
  intro p e s m args below meth c ls A hM hE hP hD hS hA hl
  obtain ⟨hx, hb, hr, hml, hts, hown, hlk, hnm⟩ := hM
  have hX : xD A [h, nw, td] := xD.of hD rfl
  have hl : lv_has ls 3 [(0, .ref h), (1, .int link), (2, .int what)] := hl
  refine lv_aload_n hx hb dX9_cellOf_0 rfl (lv_at hl 0 rfl) ?_
  refine lv_iload_n hx hb dX9_cellOf_1 rfl (lv_at hl 1 rfl) ?_
  by_cases c_1 : (sX9_within link 1 2) = 0
  · refine x_wV (wr := [(nw, .inl (E.2.1, 214, .inl now)), (td, .inl (E.2.1, 48, .inl told))]) [.int link] (kX9_noLink_bad l E h thrown nw td tx length textSize start next token value error errorAt seen triedWith rr ss tr wa undos ud sl sv link c_1) ⟨hx, hb, hml, hown, hts⟩ (cwV 1 hts gX9_cellOf_X9_noLink rfl rfl rfl hdX9_noLink ⟨Nat.le_of_ble_eq_true rfl, Nat.le_of_ble_eq_true rfl⟩) hE hP (hX.d rfl) hS hA [0] [1, 2] rfl rfl rfl rfl (by decide) (ci := 9) (q0 := 0) rfl rfl rfl hl.1 rfl rfl (Nat.le_of_ble_eq_true rfl) dX9_cellOf_2 (Nat.le_of_ble_eq_true rfl) (Nat.le_of_ble_eq_true rfl) (fun q_2 H locs hq_2 hP hD hS => ?_)
    have hP : va_P E.1 vwCl [(nw, .inl (E.2.1, 214, .inl now)), (td, .inl (E.2.1, 48, .inl told)), (h, .inr (9, [.int 1, .ref nw, .ref td, .ref tx, .int length, .int textSize, .int start, .int next, .int token, .int value, .int error, .int errorAt, .int seen, .int triedWith, .ref rr, .ref ss, .ref tr, .ref wa, .int undos, .ref ud, .ref sl, .ref sv]))] H := hP
    have hX : xD A [nw, td, h] := xD.of hD rfl
    refine W.eq (g2 := F0 m 5 ls [.int 1]) rfl ?_
    refine lv_if_ne (tgt := 30) hx hb dX9_cellOf_5 (by decide) (fun c_3 => ?_) (fun c_3 => absurd c_3 (by decide))
    refine lv_iconst (v := 0) hx hb dX9_cellOf_30 (by decide) ?_
    refine lv_goto (tgt := 42) hx hb dX9_cellOf_31 (by decide) ?_
    exact x_wi (0, 1) (by unfold sX9_cellOf; rw [if_pos c_1]; try rfl) rfl hx hb hr hlk hS hP (hX.d rfl) [2, 0, 1] rfl rfl (Nat.le_of_ble_eq_true rfl) (Nat.le_of_ble_eq_true rfl) dX9_cellOf_42
  · refine x_wV (wr := [(nw, .inl (E.2.1, 214, .inl now)), (td, .inl (E.2.1, 48, .inl told))]) [.int link] (kX9_noLink_ok l E h thrown nw td tx length textSize start next token value error errorAt seen triedWith rr ss tr wa undos ud sl sv link c_1) ⟨hx, hb, hml, hown, hts⟩ (cwV 1 hts gX9_cellOf_X9_noLink rfl rfl rfl hdX9_noLink ⟨Nat.le_of_ble_eq_true rfl, Nat.le_of_ble_eq_true rfl⟩) hE hP (hX.d rfl) hS hA [0] [1, 2] rfl rfl rfl rfl (by decide) (ci := 9) (q0 := 0) rfl rfl rfl hl.1 rfl rfl (Nat.le_of_ble_eq_true rfl) dX9_cellOf_2 (Nat.le_of_ble_eq_true rfl) (Nat.le_of_ble_eq_true rfl) (fun q_4 H locs hq_4 hP hD hS => ?_)
    have hP : va_P E.1 vwCl [(nw, .inl (E.2.1, 214, .inl now)), (td, .inl (E.2.1, 48, .inl told)), (h, .inr (9, [.int 0, .ref nw, .ref td, .ref tx, .int length, .int textSize, .int start, .int next, .int token, .int value, .int error, .int errorAt, .int seen, .int triedWith, .ref rr, .ref ss, .ref tr, .ref wa, .int undos, .ref ud, .ref sl, .ref sv]))] H := hP
    have hX : xD A [nw, td, h] := xD.of hD rfl
    refine W.eq (g2 := F0 m 5 ls [.int 0]) rfl ?_
    refine lv_if_ne (tgt := 30) hx hb dX9_cellOf_5 (by decide) (fun c_5 => absurd rfl c_5) (fun c_5 => ?_)
    refine lv_aload_n hx hb dX9_cellOf_8 rfl (lv_at hl 0 rfl) ?_
    refine lv_iload_n hx hb dX9_cellOf_9 rfl (lv_at hl 2 rfl) ?_
    refine lv_iconst (v := 0) hx hb dX9_cellOf_10 (by decide) ?_
    refine lv_iconst (v := 1) hx hb dX9_cellOf_11 (by decide) ?_
    refine x_rS [.int what, .int 0, .int 1] (kX9_within l E what 0 1) ⟨hx, hb, hml, hown, hts⟩ (va_cwS 3 hts gX9_cellOf_X9_within rfl rfl rfl hdX9_within.2 ⟨Nat.le_of_ble_eq_true rfl, Nat.le_of_ble_eq_true rfl⟩) hE hP (hX.d rfl) [] rfl rfl hl.1 rfl rfl (Nat.le_of_ble_eq_true rfl) dX9_cellOf_12 (Nat.le_of_ble_eq_true rfl) (Nat.le_of_ble_eq_true rfl) ?_
    refine lv_if_ne (tgt := 22) hx hb dX9_cellOf_15 (by decide) (fun c_6 => ?_) (fun c_6 => ?_)
    · refine lv_iconst (v := 0) hx hb dX9_cellOf_22 (by decide) ?_
      refine lv_iconst (v := 2) hx hb dX9_cellOf_23 (by decide) ?_
      refine x_wV (wr := [(nw, .inl (E.2.1, 214, .inl now)), (td, .inl (E.2.1, 48, .inl told))]) [.int 0, .int 2] (kX9_throwsIf_0 l E h nw td tx length textSize start next token value error errorAt seen triedWith rr ss tr wa undos ud sl sv 2) ⟨hx, hb, hml, hown, hts⟩ (cwV 2 hts gX9_cellOf_X9_throwsIf rfl rfl rfl hdX9_throwsIf ⟨Nat.le_of_ble_eq_true rfl, Nat.le_of_ble_eq_true rfl⟩) hE hP (hX.d rfl) hS hA [2] [0, 1] rfl rfl rfl rfl (by decide) (ci := 9) (q0 := 2) rfl rfl rfl hl.1 rfl rfl (Nat.le_of_ble_eq_true rfl) dX9_cellOf_24 (Nat.le_of_ble_eq_true rfl) (Nat.le_of_ble_eq_true rfl) (fun q_7 H locs hq_7 hP hD hS => ?_)
      have hP : va_P E.1 vwCl [(nw, .inl (E.2.1, 214, .inl now)), (td, .inl (E.2.1, 48, .inl told)), (h, .inr (9, [.int 0, .ref nw, .ref td, .ref tx, .int length, .int textSize, .int start, .int next, .int token, .int value, .int error, .int errorAt, .int seen, .int triedWith, .ref rr, .ref ss, .ref tr, .ref wa, .int undos, .ref ud, .ref sl, .ref sv]))] H := hP
      have hX : xD A [nw, td, h] := xD.of hD rfl
      refine W.eq (g2 := F0 m 27 ls [.int 0]) rfl ?_
      refine lv_if_eq (tgt := 34) hx hb dX9_cellOf_27 (by decide) (fun c_8 => ?_) (fun c_8 => absurd (by decide) c_8)
      refine lv_aload_n hx hb dX9_cellOf_34 rfl (lv_at hl 0 rfl) ?_
      refine lv_iload_n hx hb dX9_cellOf_35 rfl (lv_at hl 1 rfl) ?_
      refine lv_iconst (v := 1) hx hb dX9_cellOf_36 (by decide) ?_
      refine lv_isub hx hb dX9_cellOf_37 ?_
      refine lv_iload_n hx hb dX9_cellOf_38 rfl (lv_at hl 2 rfl) ?_
      refine x_rV [.int (link - 1), .int what] (kX9_partOfLink_g l E h 0 nw td tx length textSize start next token value error errorAt seen triedWith rr ss tr wa undos ud sl sv now told (link - 1) what (x_lk0 c_1) hw1 hw2) ⟨hx, hb, hml, hown, hts⟩ (cwV 2 hts gX9_cellOf_X9_partOfLink rfl rfl rfl hdX9_partOfLink ⟨Nat.le_of_ble_eq_true rfl, Nat.le_of_ble_eq_true rfl⟩) hE hP (hX.d rfl) [2, 0, 1] rfl rfl (ci := 9) (q0 := 2) rfl rfl rfl hl.1 rfl rfl (Nat.le_of_ble_eq_true rfl) dX9_cellOf_39 (Nat.le_of_ble_eq_true rfl) (Nat.le_of_ble_eq_true rfl) ?_
      exact x_wi (sX9_partOfLink_g now told (link - 1) what, 0) (by unfold sX9_cellOf; rw [if_neg c_1]; rw [if_neg c_6]; try rfl) rfl hx hb hr hlk hS hP (hX.d rfl) [2, 0, 1] rfl rfl (Nat.le_of_ble_eq_true rfl) (Nat.le_of_ble_eq_true rfl) dX9_cellOf_42
    · refine lv_iconst (v := 1) hx hb dX9_cellOf_18 (by decide) ?_
      refine lv_goto (tgt := 23) hx hb dX9_cellOf_19 (by decide) ?_
      refine lv_iconst (v := 2) hx hb dX9_cellOf_23 (by decide) ?_
      refine x_wV (wr := [(nw, .inl (E.2.1, 214, .inl now)), (td, .inl (E.2.1, 48, .inl told))]) [.int 1, .int 2] (kX9_throwsIf_12 l E h nw td tx length textSize start next token value error errorAt seen triedWith rr ss tr wa undos ud sl sv) ⟨hx, hb, hml, hown, hts⟩ (cwV 2 hts gX9_cellOf_X9_throwsIf rfl rfl rfl hdX9_throwsIf ⟨Nat.le_of_ble_eq_true rfl, Nat.le_of_ble_eq_true rfl⟩) hE hP (hX.d rfl) hS hA [2] [0, 1] rfl rfl rfl rfl (by decide) (ci := 9) (q0 := 2) rfl rfl rfl hl.1 rfl rfl (Nat.le_of_ble_eq_true rfl) dX9_cellOf_24 (Nat.le_of_ble_eq_true rfl) (Nat.le_of_ble_eq_true rfl) (fun q_9 H locs hq_9 hP hD hS => ?_)
      have hP : va_P E.1 vwCl [(nw, .inl (E.2.1, 214, .inl now)), (td, .inl (E.2.1, 48, .inl told)), (h, .inr (9, [.int 2, .ref nw, .ref td, .ref tx, .int length, .int textSize, .int start, .int next, .int token, .int value, .int error, .int errorAt, .int seen, .int triedWith, .ref rr, .ref ss, .ref tr, .ref wa, .int undos, .ref ud, .ref sl, .ref sv]))] H := hP
      have hX : xD A [nw, td, h] := xD.of hD rfl
      refine W.eq (g2 := F0 m 27 ls [.int 1]) rfl ?_
      refine lv_if_eq (tgt := 34) hx hb dX9_cellOf_27 (by decide) (fun c_10 => absurd c_10 (by decide)) (fun c_10 => ?_)
      refine lv_iconst (v := 0) hx hb dX9_cellOf_30 (by decide) ?_
      refine lv_goto (tgt := 42) hx hb dX9_cellOf_31 (by decide) ?_
      exact x_wi (0, 2) (by unfold sX9_cellOf; rw [if_neg c_1]; rw [if_pos c_6]; try rfl) rfl hx hb hr hlk hS hP (hX.d rfl) [2, 0, 1] rfl rfl (Nat.le_of_ble_eq_true rfl) (Nat.le_of_ble_eq_true rfl) dX9_cellOf_42
def sX9_state (now : Nat → Int32) (what : Int32) : Int32 × Int32 :=
  if (sX9_within what 0 8) = 0 then
    (0, 1)
  else
    (now what.toNatClampNeg, 0)
theorem hdX9_state : yX9_state.cls = RX9 ∧ yX9_state.cls ≠ "java/lang/invoke/MethodHandle" ∧ yX9_state.cls ≠ "java/lang/invoke/VarHandle" ∧ (parseMethodDescriptor yX9_state.desc).map (fun d => d.parameters.length) = some 1 := by decide +kernel
set_option maxHeartbeats 4000000 in
set_option maxRecDepth 100000 in
theorem kX9_state (l : Launch) (E : XE) (h : Nat) (thrown : Int32) (nw : Nat) (td : Nat) (tx : Nat) (length : Int32) (textSize : Int32) (start : Int32) (next : Int32) (token : Int32) (value : Int32) (error : Int32) (errorAt : Int32) (seen : Int32) (triedWith : Int32) (rr : Nat) (ss : Nat) (tr : Nat) (wa : Nat) (undos : Int32) (ud : Nat) (sl : Nat) (sv : Nat) (now : Nat → Int32) (what : Int32) : xW (T := Int32 × Int32) l yX9_state wsX9_state ({ frames := 1, cells := 0, slots := 0, locals := 22 }) E [(h, .inr (9, [.int thrown, .ref nw, .ref td, .ref tx, .int length, .int textSize, .int start, .int next, .int token, .int value, .int error, .int errorAt, .int seen, .int triedWith, .ref rr, .ref ss, .ref tr, .ref wa, .int undos, .ref ud, .ref sl, .ref sv])), (nw, .inl (E.2.1, 214, .inl now))] [.ref h, .int what] (fun q => some (.int q.1)) (fun q => [(h, .inr (9, [.int q.2, .ref nw, .ref td, .ref tx, .int length, .int textSize, .int start, .int next, .int token, .int value, .int error, .int errorAt, .int seen, .int triedWith, .ref rr, .ref ss, .ref tr, .ref wa, .int undos, .ref ud, .ref sl, .ref sv])), (nw, .inl (E.2.1, 214, .inl now))]) (sX9_state now what) 0 0 := by
  refine xW.of (cc := cX9_state) (maxL := 2) (ret := (some .int)) (by decide) rfl (Nat.le_of_ble_eq_true rfl) ?_
  intro p e s m args below meth c ls A hM hE hP hD hS hA hl
  obtain ⟨hx, hb, hr, hml, hts, hown, hlk, hnm⟩ := hM
  have g_1 : (Cond.fieldLink RX9 55 "RailPendulumModel" "thrown" "I").before args s = true := hts (Cond.fieldLink RX9 55 "RailPendulumModel" "thrown" "I") (by decide +kernel)
  have g_2 : ∀ w ∈ wsX90, w ∈ wsX9_state := by decide +kernel
  have g_3 : (Cond.fieldLink RX9 7 "RailPendulumModel" "now" "[I").before args s = true := hts (Cond.fieldLink RX9 7 "RailPendulumModel" "now" "[I") (by decide +kernel)
  have hX : xD A [h, nw] := xD.of hD rfl
  have hl : lv_has ls 2 [(0, .ref h), (1, .int what)] := hl
  refine lv_aload_n hx hb dX9_state_0 rfl (lv_at hl 0 rfl) ?_
  refine lv_iconst (v := 0) hx hb dX9_state_1 (by decide) ?_
  refine va_put (D := E.1) (ci := 9) (v := .int 0) (ty := .int) (C := RX9) (T := TX9) (N := 22) hx hb hts g_2 tyX9 tyX9_ok nmX9 hown hE.1 hP (hX.d rfl) hS 0 rfl rfl 0 (by decide) g_1 (fun _ h9 => h9) rfl (by decide +kernel) rfl rfl (Nat.le_of_ble_eq_true rfl) dX9_state_2 (fun H locs hP _ hS => ?_)
  have hP : va_P E.1 vwCl [(h, .inr (9, [.int 0, .ref nw, .ref td, .ref tx, .int length, .int textSize, .int start, .int next, .int token, .int value, .int error, .int errorAt, .int seen, .int triedWith, .ref rr, .ref ss, .ref tr, .ref wa, .int undos, .ref ud, .ref sl, .ref sv])), (nw, .inl (E.2.1, 214, .inl now))] H := hP
  refine lv_aload_n hx hb dX9_state_5 rfl (lv_at hl 0 rfl) ?_
  refine lv_iload_n hx hb dX9_state_6 rfl (lv_at hl 1 rfl) ?_
  refine lv_iconst (v := 0) hx hb dX9_state_7 (by decide) ?_
  refine lv_bipush (v := 8) hx hb dX9_state_8 (by decide) ?_
  refine x_rS [.int what, .int 0, .int 8] (kX9_within l E what 0 8) ⟨hx, hb, hml, hown, hts⟩ (va_cwS 3 hts gX9_state_X9_within rfl rfl rfl hdX9_within.2 ⟨Nat.le_of_ble_eq_true rfl, Nat.le_of_ble_eq_true rfl⟩) hE hP (hX.d rfl) [] rfl rfl hl.1 rfl rfl (Nat.le_of_ble_eq_true rfl) dX9_state_10 (Nat.le_of_ble_eq_true rfl) (Nat.le_of_ble_eq_true rfl) ?_
  refine lv_if_ne (tgt := 20) hx hb dX9_state_13 (by decide) (fun c_1 => ?_) (fun c_1 => ?_)
  · refine lv_iconst (v := 0) hx hb dX9_state_20 (by decide) ?_
    refine lv_iconst (v := 1) hx hb dX9_state_21 (by decide) ?_
    refine x_wV (wr := [(nw, .inl (E.2.1, 214, .inl now))]) [.int 0, .int 1] (kX9_throwsIf_0 l E h nw td tx length textSize start next token value error errorAt seen triedWith rr ss tr wa undos ud sl sv 1) ⟨hx, hb, hml, hown, hts⟩ (cwV 2 hts gX9_state_X9_throwsIf rfl rfl rfl hdX9_throwsIf ⟨Nat.le_of_ble_eq_true rfl, Nat.le_of_ble_eq_true rfl⟩) hE hP (hX.d rfl) hS hA [0] [1] rfl rfl rfl rfl (by decide) (ci := 9) (q0 := 0) rfl rfl rfl hl.1 rfl rfl (Nat.le_of_ble_eq_true rfl) dX9_state_22 (Nat.le_of_ble_eq_true rfl) (Nat.le_of_ble_eq_true rfl) (fun q_2 H locs hq_2 hP hD hS => ?_)
    have hP : va_P E.1 vwCl [(nw, .inl (E.2.1, 214, .inl now)), (h, .inr (9, [.int 0, .ref nw, .ref td, .ref tx, .int length, .int textSize, .int start, .int next, .int token, .int value, .int error, .int errorAt, .int seen, .int triedWith, .ref rr, .ref ss, .ref tr, .ref wa, .int undos, .ref ud, .ref sl, .ref sv]))] H := hP
    have hX : xD A [nw, h] := xD.of hD rfl
    refine W.eq (g2 := F0 m 25 ls [.int 0]) rfl ?_
    refine lv_if_eq (tgt := 32) hx hb dX9_state_25 (by decide) (fun c_3 => ?_) (fun c_3 => absurd (by decide) c_3)
    refine lv_aload_n hx hb dX9_state_32 rfl (lv_at hl 0 rfl) ?_
    refine va_get (D := E.1) (ci := 9) (v := .ref nw) (C := RX9) (T := TX9) (N := 22) hx hb hts g_2 hown hE.1 hP 1 rfl rfl 1 (by decide) g_3 (fun _ h9 => h9) rfl dX9_state_33 ?_
    refine lv_iload_n hx hb dX9_state_36 rfl (lv_at hl 1 rfl) ?_
    refine x_iald hx hb hE.1 hP 0 0 rfl rfl what.toNatClampNeg rfl (x_what c_1) dX9_state_37 ?_
    exact x_wi (now what.toNatClampNeg, 0) (by unfold sX9_state; rw [if_neg c_1]; try rfl) rfl hx hb hr hlk hS hP (hX.d rfl) [1, 0] rfl rfl (Nat.le_of_ble_eq_true rfl) (Nat.le_of_ble_eq_true rfl) dX9_state_38
  · refine lv_iconst (v := 1) hx hb dX9_state_16 (by decide) ?_
    refine lv_goto (tgt := 21) hx hb dX9_state_17 (by decide) ?_
    refine lv_iconst (v := 1) hx hb dX9_state_21 (by decide) ?_
    refine x_wV (wr := [(nw, .inl (E.2.1, 214, .inl now))]) [.int 1, .int 1] (kX9_throwsIf_11 l E h nw td tx length textSize start next token value error errorAt seen triedWith rr ss tr wa undos ud sl sv) ⟨hx, hb, hml, hown, hts⟩ (cwV 2 hts gX9_state_X9_throwsIf rfl rfl rfl hdX9_throwsIf ⟨Nat.le_of_ble_eq_true rfl, Nat.le_of_ble_eq_true rfl⟩) hE hP (hX.d rfl) hS hA [0] [1] rfl rfl rfl rfl (by decide) (ci := 9) (q0 := 0) rfl rfl rfl hl.1 rfl rfl (Nat.le_of_ble_eq_true rfl) dX9_state_22 (Nat.le_of_ble_eq_true rfl) (Nat.le_of_ble_eq_true rfl) (fun q_4 H locs hq_4 hP hD hS => ?_)
    have hP : va_P E.1 vwCl [(nw, .inl (E.2.1, 214, .inl now)), (h, .inr (9, [.int 1, .ref nw, .ref td, .ref tx, .int length, .int textSize, .int start, .int next, .int token, .int value, .int error, .int errorAt, .int seen, .int triedWith, .ref rr, .ref ss, .ref tr, .ref wa, .int undos, .ref ud, .ref sl, .ref sv]))] H := hP
    have hX : xD A [nw, h] := xD.of hD rfl
    refine W.eq (g2 := F0 m 25 ls [.int 1]) rfl ?_
    refine lv_if_eq (tgt := 32) hx hb dX9_state_25 (by decide) (fun c_5 => absurd c_5 (by decide)) (fun c_5 => ?_)
    refine lv_iconst (v := 0) hx hb dX9_state_28 (by decide) ?_
    refine lv_goto (tgt := 38) hx hb dX9_state_29 (by decide) ?_
    exact x_wi (0, 1) (by unfold sX9_state; rw [if_pos c_1]; try rfl) rfl hx hb hr hlk hS hP (hX.d rfl) [1, 0] rfl rfl (Nat.le_of_ble_eq_true rfl) (Nat.le_of_ble_eq_true rfl) dX9_state_38
def sX9_link (now : Nat → Int32) (link : Int32) (what : Int32) : Int32 × Int32 :=
  if (sX9_within link 1 2) = 0 then
    (0, 1)
  else
    if (sX9_within what 0 2) = 0 then
      (0, 2)
    else
      (sX9_ofLink_g now link what, 0)
theorem hdX9_link : yX9_link.cls = RX9 ∧ yX9_link.cls ≠ "java/lang/invoke/MethodHandle" ∧ yX9_link.cls ≠ "java/lang/invoke/VarHandle" ∧ (parseMethodDescriptor yX9_link.desc).map (fun d => d.parameters.length) = some 2 := by decide +kernel
set_option maxHeartbeats 4000000 in
set_option maxRecDepth 100000 in
theorem kX9_link (l : Launch) (E : XE) (h : Nat) (thrown : Int32) (nw : Nat) (td : Nat) (tx : Nat) (length : Int32) (textSize : Int32) (start : Int32) (next : Int32) (token : Int32) (value : Int32) (error : Int32) (errorAt : Int32) (seen : Int32) (triedWith : Int32) (rr : Nat) (ss : Nat) (tr : Nat) (wa : Nat) (undos : Int32) (ud : Nat) (sl : Nat) (sv : Nat) (now : Nat → Int32) (link : Int32) (what : Int32) : xW (T := Int32 × Int32) l yX9_link wsX9_link ({ frames := 2, cells := 0, slots := 0, locals := 43 }) E [(h, .inr (9, [.int thrown, .ref nw, .ref td, .ref tx, .int length, .int textSize, .int start, .int next, .int token, .int value, .int error, .int errorAt, .int seen, .int triedWith, .ref rr, .ref ss, .ref tr, .ref wa, .int undos, .ref ud, .ref sl, .ref sv])), (nw, .inl (E.2.1, 214, .inl now))] [.ref h, .int link, .int what] (fun q => some (.int q.1)) (fun q => [(h, .inr (9, [.int q.2, .ref nw, .ref td, .ref tx, .int length, .int textSize, .int start, .int next, .int token, .int value, .int error, .int errorAt, .int seen, .int triedWith, .ref rr, .ref ss, .ref tr, .ref wa, .int undos, .ref ud, .ref sl, .ref sv])), (nw, .inl (E.2.1, 214, .inl now))]) (sX9_link now link what) 0 0 := by
  refine xW.of (cc := cX9_link) (maxL := 3) (ret := (some .int)) (by decide) rfl (Nat.le_of_ble_eq_true rfl) ?_
  intro p e s m args below meth c ls A hM hE hP hD hS hA hl
  obtain ⟨hx, hb, hr, hml, hts, hown, hlk, hnm⟩ := hM
  have hX : xD A [h, nw] := xD.of hD rfl
  have hl : lv_has ls 3 [(0, .ref h), (1, .int link), (2, .int what)] := hl
  refine lv_aload_n hx hb dX9_link_0 rfl (lv_at hl 0 rfl) ?_
  refine lv_iload_n hx hb dX9_link_1 rfl (lv_at hl 1 rfl) ?_
  by_cases c_1 : (sX9_within link 1 2) = 0
  · refine x_wV (wr := [(nw, .inl (E.2.1, 214, .inl now))]) [.int link] (kX9_noLink_bad l E h thrown nw td tx length textSize start next token value error errorAt seen triedWith rr ss tr wa undos ud sl sv link c_1) ⟨hx, hb, hml, hown, hts⟩ (cwV 1 hts gX9_link_X9_noLink rfl rfl rfl hdX9_noLink ⟨Nat.le_of_ble_eq_true rfl, Nat.le_of_ble_eq_true rfl⟩) hE hP (hX.d rfl) hS hA [0] [1] rfl rfl rfl rfl (by decide) (ci := 9) (q0 := 0) rfl rfl rfl hl.1 rfl rfl (Nat.le_of_ble_eq_true rfl) dX9_link_2 (Nat.le_of_ble_eq_true rfl) (Nat.le_of_ble_eq_true rfl) (fun q_2 H locs hq_2 hP hD hS => ?_)
    have hP : va_P E.1 vwCl [(nw, .inl (E.2.1, 214, .inl now)), (h, .inr (9, [.int 1, .ref nw, .ref td, .ref tx, .int length, .int textSize, .int start, .int next, .int token, .int value, .int error, .int errorAt, .int seen, .int triedWith, .ref rr, .ref ss, .ref tr, .ref wa, .int undos, .ref ud, .ref sl, .ref sv]))] H := hP
    have hX : xD A [nw, h] := xD.of hD rfl
    refine W.eq (g2 := F0 m 5 ls [.int 1]) rfl ?_
    refine lv_if_ne (tgt := 30) hx hb dX9_link_5 (by decide) (fun c_3 => ?_) (fun c_3 => absurd c_3 (by decide))
    refine lv_iconst (v := 0) hx hb dX9_link_30 (by decide) ?_
    refine lv_goto (tgt := 40) hx hb dX9_link_31 (by decide) ?_
    exact x_wi (0, 1) (by unfold sX9_link; rw [if_pos c_1]; try rfl) rfl hx hb hr hlk hS hP (hX.d rfl) [1, 0] rfl rfl (Nat.le_of_ble_eq_true rfl) (Nat.le_of_ble_eq_true rfl) dX9_link_40
  · refine x_wV (wr := [(nw, .inl (E.2.1, 214, .inl now))]) [.int link] (kX9_noLink_ok l E h thrown nw td tx length textSize start next token value error errorAt seen triedWith rr ss tr wa undos ud sl sv link c_1) ⟨hx, hb, hml, hown, hts⟩ (cwV 1 hts gX9_link_X9_noLink rfl rfl rfl hdX9_noLink ⟨Nat.le_of_ble_eq_true rfl, Nat.le_of_ble_eq_true rfl⟩) hE hP (hX.d rfl) hS hA [0] [1] rfl rfl rfl rfl (by decide) (ci := 9) (q0 := 0) rfl rfl rfl hl.1 rfl rfl (Nat.le_of_ble_eq_true rfl) dX9_link_2 (Nat.le_of_ble_eq_true rfl) (Nat.le_of_ble_eq_true rfl) (fun q_4 H locs hq_4 hP hD hS => ?_)
    have hP : va_P E.1 vwCl [(nw, .inl (E.2.1, 214, .inl now)), (h, .inr (9, [.int 0, .ref nw, .ref td, .ref tx, .int length, .int textSize, .int start, .int next, .int token, .int value, .int error, .int errorAt, .int seen, .int triedWith, .ref rr, .ref ss, .ref tr, .ref wa, .int undos, .ref ud, .ref sl, .ref sv]))] H := hP
    have hX : xD A [nw, h] := xD.of hD rfl
    refine W.eq (g2 := F0 m 5 ls [.int 0]) rfl ?_
    refine lv_if_ne (tgt := 30) hx hb dX9_link_5 (by decide) (fun c_5 => absurd rfl c_5) (fun c_5 => ?_)
    refine lv_aload_n hx hb dX9_link_8 rfl (lv_at hl 0 rfl) ?_
    refine lv_iload_n hx hb dX9_link_9 rfl (lv_at hl 2 rfl) ?_
    refine lv_iconst (v := 0) hx hb dX9_link_10 (by decide) ?_
    refine lv_iconst (v := 2) hx hb dX9_link_11 (by decide) ?_
    refine x_rS [.int what, .int 0, .int 2] (kX9_within l E what 0 2) ⟨hx, hb, hml, hown, hts⟩ (va_cwS 3 hts gX9_link_X9_within rfl rfl rfl hdX9_within.2 ⟨Nat.le_of_ble_eq_true rfl, Nat.le_of_ble_eq_true rfl⟩) hE hP (hX.d rfl) [] rfl rfl hl.1 rfl rfl (Nat.le_of_ble_eq_true rfl) dX9_link_12 (Nat.le_of_ble_eq_true rfl) (Nat.le_of_ble_eq_true rfl) ?_
    refine lv_if_ne (tgt := 22) hx hb dX9_link_15 (by decide) (fun c_6 => ?_) (fun c_6 => ?_)
    · refine lv_iconst (v := 0) hx hb dX9_link_22 (by decide) ?_
      refine lv_iconst (v := 2) hx hb dX9_link_23 (by decide) ?_
      refine x_wV (wr := [(nw, .inl (E.2.1, 214, .inl now))]) [.int 0, .int 2] (kX9_throwsIf_0 l E h nw td tx length textSize start next token value error errorAt seen triedWith rr ss tr wa undos ud sl sv 2) ⟨hx, hb, hml, hown, hts⟩ (cwV 2 hts gX9_link_X9_throwsIf rfl rfl rfl hdX9_throwsIf ⟨Nat.le_of_ble_eq_true rfl, Nat.le_of_ble_eq_true rfl⟩) hE hP (hX.d rfl) hS hA [1] [0] rfl rfl rfl rfl (by decide) (ci := 9) (q0 := 1) rfl rfl rfl hl.1 rfl rfl (Nat.le_of_ble_eq_true rfl) dX9_link_24 (Nat.le_of_ble_eq_true rfl) (Nat.le_of_ble_eq_true rfl) (fun q_7 H locs hq_7 hP hD hS => ?_)
      have hP : va_P E.1 vwCl [(nw, .inl (E.2.1, 214, .inl now)), (h, .inr (9, [.int 0, .ref nw, .ref td, .ref tx, .int length, .int textSize, .int start, .int next, .int token, .int value, .int error, .int errorAt, .int seen, .int triedWith, .ref rr, .ref ss, .ref tr, .ref wa, .int undos, .ref ud, .ref sl, .ref sv]))] H := hP
      have hX : xD A [nw, h] := xD.of hD rfl
      refine W.eq (g2 := F0 m 27 ls [.int 0]) rfl ?_
      refine lv_if_eq (tgt := 34) hx hb dX9_link_27 (by decide) (fun c_8 => ?_) (fun c_8 => absurd (by decide) c_8)
      refine lv_aload_n hx hb dX9_link_34 rfl (lv_at hl 0 rfl) ?_
      refine lv_iload_n hx hb dX9_link_35 rfl (lv_at hl 1 rfl) ?_
      refine lv_iload_n hx hb dX9_link_36 rfl (lv_at hl 2 rfl) ?_
      refine x_rV [.int link, .int what] (kX9_ofLink_g l E h 0 nw td tx length textSize start next token value error errorAt seen triedWith rr ss tr wa undos ud sl sv now link what (x_lk c_1)) ⟨hx, hb, hml, hown, hts⟩ (cwV 2 hts gX9_link_X9_ofLink rfl rfl rfl hdX9_ofLink ⟨Nat.le_of_ble_eq_true rfl, Nat.le_of_ble_eq_true rfl⟩) hE hP (hX.d rfl) [1, 0] rfl rfl (ci := 9) (q0 := 1) rfl rfl rfl hl.1 rfl rfl (Nat.le_of_ble_eq_true rfl) dX9_link_37 (Nat.le_of_ble_eq_true rfl) (Nat.le_of_ble_eq_true rfl) ?_
      exact x_wi (sX9_ofLink_g now link what, 0) (by unfold sX9_link; rw [if_neg c_1]; rw [if_neg c_6]; try rfl) rfl hx hb hr hlk hS hP (hX.d rfl) [1, 0] rfl rfl (Nat.le_of_ble_eq_true rfl) (Nat.le_of_ble_eq_true rfl) dX9_link_40
    · refine lv_iconst (v := 1) hx hb dX9_link_18 (by decide) ?_
      refine lv_goto (tgt := 23) hx hb dX9_link_19 (by decide) ?_
      refine lv_iconst (v := 2) hx hb dX9_link_23 (by decide) ?_
      refine x_wV (wr := [(nw, .inl (E.2.1, 214, .inl now))]) [.int 1, .int 2] (kX9_throwsIf_12 l E h nw td tx length textSize start next token value error errorAt seen triedWith rr ss tr wa undos ud sl sv) ⟨hx, hb, hml, hown, hts⟩ (cwV 2 hts gX9_link_X9_throwsIf rfl rfl rfl hdX9_throwsIf ⟨Nat.le_of_ble_eq_true rfl, Nat.le_of_ble_eq_true rfl⟩) hE hP (hX.d rfl) hS hA [1] [0] rfl rfl rfl rfl (by decide) (ci := 9) (q0 := 1) rfl rfl rfl hl.1 rfl rfl (Nat.le_of_ble_eq_true rfl) dX9_link_24 (Nat.le_of_ble_eq_true rfl) (Nat.le_of_ble_eq_true rfl) (fun q_9 H locs hq_9 hP hD hS => ?_)
      have hP : va_P E.1 vwCl [(nw, .inl (E.2.1, 214, .inl now)), (h, .inr (9, [.int 2, .ref nw, .ref td, .ref tx, .int length, .int textSize, .int start, .int next, .int token, .int value, .int error, .int errorAt, .int seen, .int triedWith, .ref rr, .ref ss, .ref tr, .ref wa, .int undos, .ref ud, .ref sl, .ref sv]))] H := hP
      have hX : xD A [nw, h] := xD.of hD rfl
      refine W.eq (g2 := F0 m 27 ls [.int 1]) rfl ?_
      refine lv_if_eq (tgt := 34) hx hb dX9_link_27 (by decide) (fun c_10 => absurd c_10 (by decide)) (fun c_10 => ?_)
      refine lv_iconst (v := 0) hx hb dX9_link_30 (by decide) ?_
      refine lv_goto (tgt := 40) hx hb dX9_link_31 (by decide) ?_
      exact x_wi (0, 2) (by unfold sX9_link; rw [if_neg c_1]; rw [if_pos c_6]; try rfl) rfl hx hb hr hlk hS hP (hX.d rfl) [1, 0] rfl rfl (Nat.le_of_ble_eq_true rfl) (Nat.le_of_ble_eq_true rfl) dX9_link_40
def sX9_energy (now : Nat → Int32) (told : Nat → Int32) (link : Int32) : Int64 × Int32 :=
  if (sX9_within link 1 2) = 0 then
    (0, 1)
  else
    (sX9_energyOf_g now told (link - 1), 0)
theorem hdX9_energy : yX9_energy.cls = RX9 ∧ yX9_energy.cls ≠ "java/lang/invoke/MethodHandle" ∧ yX9_energy.cls ≠ "java/lang/invoke/VarHandle" ∧ (parseMethodDescriptor yX9_energy.desc).map (fun d => d.parameters.length) = some 1 := by decide +kernel
set_option maxHeartbeats 4000000 in
set_option maxRecDepth 100000 in
theorem kX9_energy (l : Launch) (E : XE) (h : Nat) (thrown : Int32) (nw : Nat) (td : Nat) (tx : Nat) (length : Int32) (textSize : Int32) (start : Int32) (next : Int32) (token : Int32) (value : Int32) (error : Int32) (errorAt : Int32) (seen : Int32) (triedWith : Int32) (rr : Nat) (ss : Nat) (tr : Nat) (wa : Nat) (undos : Int32) (ud : Nat) (sl : Nat) (sv : Nat) (now : Nat → Int32) (told : Nat → Int32) (link : Int32) : xW (T := Int64 × Int32) l yX9_energy wsX9_energy ({ frames := 3, cells := 0, slots := 0, locals := 67 }) E [(h, .inr (9, [.int thrown, .ref nw, .ref td, .ref tx, .int length, .int textSize, .int start, .int next, .int token, .int value, .int error, .int errorAt, .int seen, .int triedWith, .ref rr, .ref ss, .ref tr, .ref wa, .int undos, .ref ud, .ref sl, .ref sv])), (nw, .inl (E.2.1, 214, .inl now)), (td, .inl (E.2.1, 48, .inl told))] [.ref h, .int link] (fun q => some (.long q.1)) (fun q => [(h, .inr (9, [.int q.2, .ref nw, .ref td, .ref tx, .int length, .int textSize, .int start, .int next, .int token, .int value, .int error, .int errorAt, .int seen, .int triedWith, .ref rr, .ref ss, .ref tr, .ref wa, .int undos, .ref ud, .ref sl, .ref sv])), (nw, .inl (E.2.1, 214, .inl now)), (td, .inl (E.2.1, 48, .inl told))]) (sX9_energy now told link) 0 0 := by
  refine xW.of (cc := cX9_energy) (maxL := 2) (ret := (some .long)) (by decide) rfl (Nat.le_of_ble_eq_true rfl) ?_
  intro p e s m args below meth c ls A hM hE hP hD hS hA hl
  obtain ⟨hx, hb, hr, hml, hts, hown, hlk, hnm⟩ := hM
  have hX : xD A [h, nw, td] := xD.of hD rfl
  have hl : lv_has ls 2 [(0, .ref h), (1, .int link)] := hl
  refine lv_aload_n hx hb dX9_energy_0 rfl (lv_at hl 0 rfl) ?_
  refine lv_iload_n hx hb dX9_energy_1 rfl (lv_at hl 1 rfl) ?_
  by_cases c_1 : (sX9_within link 1 2) = 0
  · refine x_wV (wr := [(nw, .inl (E.2.1, 214, .inl now)), (td, .inl (E.2.1, 48, .inl told))]) [.int link] (kX9_noLink_bad l E h thrown nw td tx length textSize start next token value error errorAt seen triedWith rr ss tr wa undos ud sl sv link c_1) ⟨hx, hb, hml, hown, hts⟩ (cwV 1 hts gX9_energy_X9_noLink rfl rfl rfl hdX9_noLink ⟨Nat.le_of_ble_eq_true rfl, Nat.le_of_ble_eq_true rfl⟩) hE hP (hX.d rfl) hS hA [0] [1, 2] rfl rfl rfl rfl (by decide) (ci := 9) (q0 := 0) rfl rfl rfl hl.1 rfl rfl (Nat.le_of_ble_eq_true rfl) dX9_energy_2 (Nat.le_of_ble_eq_true rfl) (Nat.le_of_ble_eq_true rfl) (fun q_2 H locs hq_2 hP hD hS => ?_)
    have hP : va_P E.1 vwCl [(nw, .inl (E.2.1, 214, .inl now)), (td, .inl (E.2.1, 48, .inl told)), (h, .inr (9, [.int 1, .ref nw, .ref td, .ref tx, .int length, .int textSize, .int start, .int next, .int token, .int value, .int error, .int errorAt, .int seen, .int triedWith, .ref rr, .ref ss, .ref tr, .ref wa, .int undos, .ref ud, .ref sl, .ref sv]))] H := hP
    have hX : xD A [nw, td, h] := xD.of hD rfl
    refine W.eq (g2 := F0 m 5 ls [.int 1]) rfl ?_
    refine lv_if_eq (tgt := 12) hx hb dX9_energy_5 (by decide) (fun c_3 => absurd c_3 (by decide)) (fun c_3 => ?_)
    refine lv_lconst (v := 0) hx hb dX9_energy_8 (by decide) ?_
    refine lv_goto (tgt := 19) hx hb dX9_energy_9 (by decide) ?_
    exact x_wl (0, 1) (by unfold sX9_energy; rw [if_pos c_1]; try rfl) rfl hx hb hr hlk hS hP (hX.d rfl) [2, 0, 1] rfl rfl (Nat.le_of_ble_eq_true rfl) (Nat.le_of_ble_eq_true rfl) dX9_energy_19
  · refine x_wV (wr := [(nw, .inl (E.2.1, 214, .inl now)), (td, .inl (E.2.1, 48, .inl told))]) [.int link] (kX9_noLink_ok l E h thrown nw td tx length textSize start next token value error errorAt seen triedWith rr ss tr wa undos ud sl sv link c_1) ⟨hx, hb, hml, hown, hts⟩ (cwV 1 hts gX9_energy_X9_noLink rfl rfl rfl hdX9_noLink ⟨Nat.le_of_ble_eq_true rfl, Nat.le_of_ble_eq_true rfl⟩) hE hP (hX.d rfl) hS hA [0] [1, 2] rfl rfl rfl rfl (by decide) (ci := 9) (q0 := 0) rfl rfl rfl hl.1 rfl rfl (Nat.le_of_ble_eq_true rfl) dX9_energy_2 (Nat.le_of_ble_eq_true rfl) (Nat.le_of_ble_eq_true rfl) (fun q_4 H locs hq_4 hP hD hS => ?_)
    have hP : va_P E.1 vwCl [(nw, .inl (E.2.1, 214, .inl now)), (td, .inl (E.2.1, 48, .inl told)), (h, .inr (9, [.int 0, .ref nw, .ref td, .ref tx, .int length, .int textSize, .int start, .int next, .int token, .int value, .int error, .int errorAt, .int seen, .int triedWith, .ref rr, .ref ss, .ref tr, .ref wa, .int undos, .ref ud, .ref sl, .ref sv]))] H := hP
    have hX : xD A [nw, td, h] := xD.of hD rfl
    refine W.eq (g2 := F0 m 5 ls [.int 0]) rfl ?_
    refine lv_if_eq (tgt := 12) hx hb dX9_energy_5 (by decide) (fun c_5 => ?_) (fun c_5 => absurd (by decide) c_5)
    refine lv_aload_n hx hb dX9_energy_12 rfl (lv_at hl 0 rfl) ?_
    refine lv_iload_n hx hb dX9_energy_13 rfl (lv_at hl 1 rfl) ?_
    refine lv_iconst (v := 1) hx hb dX9_energy_14 (by decide) ?_
    refine lv_isub hx hb dX9_energy_15 ?_
    refine x_rV [.int (link - 1)] (kX9_energyOf_g l E h 0 nw td tx length textSize start next token value error errorAt seen triedWith rr ss tr wa undos ud sl sv now told (link - 1) (x_lk0 c_1)) ⟨hx, hb, hml, hown, hts⟩ (cwV 1 hts gX9_energy_X9_energyOf rfl rfl rfl hdX9_energyOf ⟨Nat.le_of_ble_eq_true rfl, Nat.le_of_ble_eq_true rfl⟩) hE hP (hX.d rfl) [2, 0, 1] rfl rfl (ci := 9) (q0 := 2) rfl rfl rfl hl.1 rfl rfl (Nat.le_of_ble_eq_true rfl) dX9_energy_16 (Nat.le_of_ble_eq_true rfl) (Nat.le_of_ble_eq_true rfl) ?_
    exact x_wl (sX9_energyOf_g now told (link - 1), 0) (by unfold sX9_energy; rw [if_neg c_1]; try rfl) rfl hx hb hr hlk hS hP (hX.d rfl) [2, 0, 1] rfl rfl (Nat.le_of_ble_eq_true rfl) (Nat.le_of_ble_eq_true rfl) dX9_energy_19
def sX9_target (told : Nat → Int32) (link : Int32) : Int32 × Int32 :=
  if (sX9_within link 1 2) = 0 then
    (0, 1)
  else
    ((told (((1 + link) - 1).toNatClampNeg)) * 10430, 0)
theorem hdX9_target : yX9_target.cls = RX9 ∧ yX9_target.cls ≠ "java/lang/invoke/MethodHandle" ∧ yX9_target.cls ≠ "java/lang/invoke/VarHandle" ∧ (parseMethodDescriptor yX9_target.desc).map (fun d => d.parameters.length) = some 1 := by decide +kernel
set_option maxHeartbeats 4000000 in
set_option maxRecDepth 100000 in
theorem kX9_target (l : Launch) (E : XE) (h : Nat) (thrown : Int32) (nw : Nat) (td : Nat) (tx : Nat) (length : Int32) (textSize : Int32) (start : Int32) (next : Int32) (token : Int32) (value : Int32) (error : Int32) (errorAt : Int32) (seen : Int32) (triedWith : Int32) (rr : Nat) (ss : Nat) (tr : Nat) (wa : Nat) (undos : Int32) (ud : Nat) (sl : Nat) (sv : Nat) (told : Nat → Int32) (link : Int32) : xW (T := Int32 × Int32) l yX9_target wsX9_target ({ frames := 2, cells := 0, slots := 0, locals := 43 }) E [(h, .inr (9, [.int thrown, .ref nw, .ref td, .ref tx, .int length, .int textSize, .int start, .int next, .int token, .int value, .int error, .int errorAt, .int seen, .int triedWith, .ref rr, .ref ss, .ref tr, .ref wa, .int undos, .ref ud, .ref sl, .ref sv])), (td, .inl (E.2.1, 48, .inl told))] [.ref h, .int link] (fun q => some (.int q.1)) (fun q => [(h, .inr (9, [.int q.2, .ref nw, .ref td, .ref tx, .int length, .int textSize, .int start, .int next, .int token, .int value, .int error, .int errorAt, .int seen, .int triedWith, .ref rr, .ref ss, .ref tr, .ref wa, .int undos, .ref ud, .ref sl, .ref sv])), (td, .inl (E.2.1, 48, .inl told))]) (sX9_target told link) 0 0 := by
  refine xW.of (cc := cX9_target) (maxL := 2) (ret := (some .int)) (by decide) rfl (Nat.le_of_ble_eq_true rfl) ?_
  intro p e s m args below meth c ls A hM hE hP hD hS hA hl
  obtain ⟨hx, hb, hr, hml, hts, hown, hlk, hnm⟩ := hM
  have g_1 : (Cond.fieldLink RX9 13 "RailPendulumModel" "told" "[I").before args s = true := hts (Cond.fieldLink RX9 13 "RailPendulumModel" "told" "[I") (by decide +kernel)
  have g_2 : ∀ w ∈ wsX90, w ∈ wsX9_target := by decide +kernel
  have hX : xD A [h, td] := xD.of hD rfl
  have hl : lv_has ls 2 [(0, .ref h), (1, .int link)] := hl
  refine lv_aload_n hx hb dX9_target_0 rfl (lv_at hl 0 rfl) ?_
  refine lv_iload_n hx hb dX9_target_1 rfl (lv_at hl 1 rfl) ?_
  by_cases c_1 : (sX9_within link 1 2) = 0
  · refine x_wV (wr := [(td, .inl (E.2.1, 48, .inl told))]) [.int link] (kX9_noLink_bad l E h thrown nw td tx length textSize start next token value error errorAt seen triedWith rr ss tr wa undos ud sl sv link c_1) ⟨hx, hb, hml, hown, hts⟩ (cwV 1 hts gX9_target_X9_noLink rfl rfl rfl hdX9_noLink ⟨Nat.le_of_ble_eq_true rfl, Nat.le_of_ble_eq_true rfl⟩) hE hP (hX.d rfl) hS hA [0] [1] rfl rfl rfl rfl (by decide) (ci := 9) (q0 := 0) rfl rfl rfl hl.1 rfl rfl (Nat.le_of_ble_eq_true rfl) dX9_target_2 (Nat.le_of_ble_eq_true rfl) (Nat.le_of_ble_eq_true rfl) (fun q_2 H locs hq_2 hP hD hS => ?_)
    have hP : va_P E.1 vwCl [(td, .inl (E.2.1, 48, .inl told)), (h, .inr (9, [.int 1, .ref nw, .ref td, .ref tx, .int length, .int textSize, .int start, .int next, .int token, .int value, .int error, .int errorAt, .int seen, .int triedWith, .ref rr, .ref ss, .ref tr, .ref wa, .int undos, .ref ud, .ref sl, .ref sv]))] H := hP
    have hX : xD A [td, h] := xD.of hD rfl
    refine W.eq (g2 := F0 m 5 ls [.int 1]) rfl ?_
    refine lv_if_eq (tgt := 12) hx hb dX9_target_5 (by decide) (fun c_3 => absurd c_3 (by decide)) (fun c_3 => ?_)
    refine lv_iconst (v := 0) hx hb dX9_target_8 (by decide) ?_
    refine lv_goto (tgt := 26) hx hb dX9_target_9 (by decide) ?_
    exact x_wi (0, 1) (by unfold sX9_target; rw [if_pos c_1]; try rfl) rfl hx hb hr hlk hS hP (hX.d rfl) [1, 0] rfl rfl (Nat.le_of_ble_eq_true rfl) (Nat.le_of_ble_eq_true rfl) dX9_target_26
  · refine x_wV (wr := [(td, .inl (E.2.1, 48, .inl told))]) [.int link] (kX9_noLink_ok l E h thrown nw td tx length textSize start next token value error errorAt seen triedWith rr ss tr wa undos ud sl sv link c_1) ⟨hx, hb, hml, hown, hts⟩ (cwV 1 hts gX9_target_X9_noLink rfl rfl rfl hdX9_noLink ⟨Nat.le_of_ble_eq_true rfl, Nat.le_of_ble_eq_true rfl⟩) hE hP (hX.d rfl) hS hA [0] [1] rfl rfl rfl rfl (by decide) (ci := 9) (q0 := 0) rfl rfl rfl hl.1 rfl rfl (Nat.le_of_ble_eq_true rfl) dX9_target_2 (Nat.le_of_ble_eq_true rfl) (Nat.le_of_ble_eq_true rfl) (fun q_4 H locs hq_4 hP hD hS => ?_)
    have hP : va_P E.1 vwCl [(td, .inl (E.2.1, 48, .inl told)), (h, .inr (9, [.int 0, .ref nw, .ref td, .ref tx, .int length, .int textSize, .int start, .int next, .int token, .int value, .int error, .int errorAt, .int seen, .int triedWith, .ref rr, .ref ss, .ref tr, .ref wa, .int undos, .ref ud, .ref sl, .ref sv]))] H := hP
    have hX : xD A [td, h] := xD.of hD rfl
    refine W.eq (g2 := F0 m 5 ls [.int 0]) rfl ?_
    refine lv_if_eq (tgt := 12) hx hb dX9_target_5 (by decide) (fun c_5 => ?_) (fun c_5 => absurd (by decide) c_5)
    refine lv_aload_n hx hb dX9_target_12 rfl (lv_at hl 0 rfl) ?_
    refine va_get (D := E.1) (ci := 9) (v := .ref td) (C := RX9) (T := TX9) (N := 22) hx hb hts g_2 hown hE.1 hP 1 rfl rfl 2 (by decide) g_1 (fun _ h9 => h9) rfl dX9_target_13 ?_
    refine lv_iconst (v := 1) hx hb dX9_target_16 (by decide) ?_
    refine lv_iload_n hx hb dX9_target_17 rfl (lv_at hl 1 rfl) ?_
    refine lv_iadd hx hb dX9_target_18 ?_
    refine lv_iconst (v := 1) hx hb dX9_target_19 (by decide) ?_
    refine lv_isub hx hb dX9_target_20 ?_
    refine x_iald hx hb hE.1 hP 0 0 rfl rfl (((1 + link) - 1).toNatClampNeg) rfl (x_i1 (x_lk c_1)).2.2 dX9_target_21 ?_
    refine lv_sipush (v := 10430) hx hb dX9_target_22 (by decide) ?_
    refine lv_imul hx hb dX9_target_25 ?_
    exact x_wi ((told (((1 + link) - 1).toNatClampNeg)) * 10430, 0) (by unfold sX9_target; rw [if_neg c_1]; try rfl) rfl hx hb hr hlk hS hP (hX.d rfl) [1, 0] rfl rfl (Nat.le_of_ble_eq_true rfl) (Nat.le_of_ble_eq_true rfl) dX9_target_26
def sX9_ticksTo_l49 (told : Nat → Int32) (mode : Int32) (limit : Int32) (kont_49 : Int32 → ((Nat → Int32) × Int32 × (Nat → Int32) × (Nat → Int32) × (Nat → Int32)) → Int32 × Int32 × (Nat → Int32) × Int32 × (Nat → Int32) × (Nat → Int32) × (Nat → Int32) × (Nat → Int32)) : Nat → Int32 → ((Nat → Int32) × Int32 × (Nat → Int32) × (Nat → Int32) × (Nat → Int32)) → Int32 × Int32 × (Nat → Int32) × Int32 × (Nat → Int32) × (Nat → Int32) × (Nat → Int32) × (Nat → Int32)
  | 0, k_49, g_49 => kont_49 k_49 g_49
  | kk_49 + 1, k_49, g_49 =>
    if limit ≤ k_49 then
      kont_49 k_49 g_49
    else
      if (g_49.1 1) = mode then
        kont_49 k_49 g_49
      else
        sX9_ticksTo_l49 told mode limit kont_49 kk_49 (k_49 + 1) (sX9_passes g_49.2.1 g_49.1 told g_49.2.2.1 g_49.2.2.2.1 g_49.2.2.2.2)
theorem sX9_ticksTo_l49_s (told : Nat → Int32) (mode : Int32) (limit : Int32) (kont_49 : Int32 → ((Nat → Int32) × Int32 × (Nat → Int32) × (Nat → Int32) × (Nat → Int32)) → Int32 × Int32 × (Nat → Int32) × Int32 × (Nat → Int32) × (Nat → Int32) × (Nat → Int32) × (Nat → Int32)) (kk_49 : Nat) (k_49 : Int32) (g_49 : (Nat → Int32) × Int32 × (Nat → Int32) × (Nat → Int32) × (Nat → Int32)) : sX9_ticksTo_l49 told mode limit kont_49 (kk_49 + 1) k_49 g_49 =
    if limit ≤ k_49 then
      kont_49 k_49 g_49
    else
      if (g_49.1 1) = mode then
        kont_49 k_49 g_49
      else
        sX9_ticksTo_l49 told mode limit kont_49 kk_49 (k_49 + 1) (sX9_passes g_49.2.1 g_49.1 told g_49.2.2.1 g_49.2.2.2.1 g_49.2.2.2.2) := rfl
def sX9_ticksTo_q_4 (triedWith : Int32) (now : Nat → Int32) (told : Nat → Int32) (rs : Nat → Int32) (fs : Nat → Int32) (tri : Nat → Int32) (was : Nat → Int32) (mode : Int32) (limit : Int32) (q_4 : (Nat → Int32)) : Int32 × Int32 × (Nat → Int32) × Int32 × (Nat → Int32) × (Nat → Int32) × (Nat → Int32) × (Nat → Int32) :=
  sX9_ticksTo_l49 told mode limit (fun (k_49 : Int32) (g_49 : (Nat → Int32) × Int32 × (Nat → Int32) × (Nat → Int32) × (Nat → Int32)) => if (g_49.1 1) = mode then (k_49, 0, (sX9_copies q_4 g_49.1 0 0 214), g_49.2.1, g_49.2.2.1, g_49.2.2.2.1, g_49.2.2.2.2, q_4) else ((-1), 0, (sX9_copies q_4 g_49.1 0 0 214), g_49.2.1, g_49.2.2.1, g_49.2.2.2.1, g_49.2.2.2.2, q_4)) (xMu limit 0 + 1) 0 (now, triedWith, rs, fs, tri)
def sX9_ticksTo (triedWith : Int32) (now : Nat → Int32) (told : Nat → Int32) (rs : Nat → Int32) (fs : Nat → Int32) (tri : Nat → Int32) (was : Nat → Int32) (mode : Int32) (limit : Int32) : Int32 × Int32 × (Nat → Int32) × Int32 × (Nat → Int32) × (Nat → Int32) × (Nat → Int32) × (Nat → Int32) :=
  if (sX9_within limit 0 1000) = 0 then
    (0, 1, now, triedWith, rs, fs, tri, was)
  else
    sX9_ticksTo_q_4 triedWith now told rs fs tri was mode limit (sX9_copies now was 0 0 214)
theorem hdX9_ticksTo : yX9_ticksTo.cls = RX9 ∧ yX9_ticksTo.cls ≠ "java/lang/invoke/MethodHandle" ∧ yX9_ticksTo.cls ≠ "java/lang/invoke/VarHandle" ∧ (parseMethodDescriptor yX9_ticksTo.desc).map (fun d => d.parameters.length) = some 2 := by decide +kernel
set_option maxHeartbeats 4000000 in
set_option maxRecDepth 100000 in
theorem kX9_ticksTo (l : Launch) (E : XE) (h : Nat) (thrown : Int32) (nw : Nat) (td : Nat) (tx : Nat) (length : Int32) (textSize : Int32) (start : Int32) (next : Int32) (token : Int32) (value : Int32) (error : Int32) (errorAt : Int32) (seen : Int32) (triedWith : Int32) (rr : Nat) (ss : Nat) (tr : Nat) (wa : Nat) (undos : Int32) (ud : Nat) (sl : Nat) (sv : Nat) (now : Nat → Int32) (told : Nat → Int32) (rs : Nat → Int32) (fs : Nat → Int32) (tri : Nat → Int32) (was : Nat → Int32) (mode : Int32) (limit : Int32) (hw1 : ¬ 2 * told 15 = 0) (hw2 : ¬ 2 * told 16 = 0) (hc3 : told 17 ≤ 3) (hc0 : 0 ≤ told 17) (hT0 : 0 ≤ (now 0).toInt) (hT1 : (now 0).toInt ≤ 100000) (ha0 : 0 ≤ now 10) (ha1 : now 10 < 4096) (hb0 : 0 ≤ now 11) (hb1 : now 11 < 4096) : xW (T := Int32 × Int32 × (Nat → Int32) × Int32 × (Nat → Int32) × (Nat → Int32) × (Nat → Int32) × (Nat → Int32)) l yX9_ticksTo wsX9_ticksTo ({ frames := 9, cells := 0, slots := 0, locals := 203 }) E [(h, .inr (9, [.int thrown, .ref nw, .ref td, .ref tx, .int length, .int textSize, .int start, .int next, .int token, .int value, .int error, .int errorAt, .int seen, .int triedWith, .ref rr, .ref ss, .ref tr, .ref wa, .int undos, .ref ud, .ref sl, .ref sv])), (nw, .inl (E.2.1, 214, .inl now)), (td, .inl (E.2.1, 48, .inl told)), (rr, .inl (E.2.1, 49, .inl rs)), (ss, .inl (E.2.1, 49, .inl fs)), (tr, .inl (E.2.1, 14, .inl tri)), (wa, .inl (E.2.1, 214, .inl was))] [.ref h, .int mode, .int limit] (fun q => some (.int q.1)) (fun q => [(h, .inr (9, [.int q.2.1, .ref nw, .ref td, .ref tx, .int length, .int textSize, .int start, .int next, .int token, .int value, .int error, .int errorAt, .int seen, .int q.2.2.2.1, .ref rr, .ref ss, .ref tr, .ref wa, .int undos, .ref ud, .ref sl, .ref sv])), (nw, .inl (E.2.1, 214, .inl q.2.2.1)), (td, .inl (E.2.1, 48, .inl told)), (rr, .inl (E.2.1, 49, .inl q.2.2.2.2.1)), (ss, .inl (E.2.1, 49, .inl q.2.2.2.2.2.1)), (tr, .inl (E.2.1, 14, .inl q.2.2.2.2.2.2.1)), (wa, .inl (E.2.1, 214, .inl q.2.2.2.2.2.2.2))]) (sX9_ticksTo triedWith now told rs fs tri was mode limit) 0 0 := by
  refine xW.of (cc := cX9_ticksTo) (maxL := 5) (ret := (some .int)) (by decide) rfl (Nat.le_of_ble_eq_true rfl) ?_
  intro p e s m args below meth c ls A hM hE hP hD hS hA hl
  obtain ⟨hx, hb, hr, hml, hts, hown, hlk, hnm⟩ := hM
  have g_1 : (Cond.fieldLink RX9 55 "RailPendulumModel" "thrown" "I").before args s = true := hts (Cond.fieldLink RX9 55 "RailPendulumModel" "thrown" "I") (by decide +kernel)
  have g_2 : ∀ w ∈ wsX90, w ∈ wsX9_ticksTo := by decide +kernel
  have g_3 : (Cond.fieldLink RX9 7 "RailPendulumModel" "now" "[I").before args s = true := hts (Cond.fieldLink RX9 7 "RailPendulumModel" "now" "[I") (by decide +kernel)
  have g_4 : (Cond.fieldLink RX9 33 "RailPendulumModel" "was" "[I").before args s = true := hts (Cond.fieldLink RX9 33 "RailPendulumModel" "was" "[I") (by decide +kernel)
  have hX : xD A [h, nw, td, rr, ss, tr, wa] := xD.of hD rfl
  have hl : lv_has ls 5 [(0, .ref h), (1, .int mode), (2, .int limit)] := hl
  refine lv_aload_n hx hb dX9_ticksTo_0 rfl (lv_at hl 0 rfl) ?_
  refine lv_iconst (v := 0) hx hb dX9_ticksTo_1 (by decide) ?_
  refine va_put (D := E.1) (ci := 9) (v := .int 0) (ty := .int) (C := RX9) (T := TX9) (N := 22) hx hb hts g_2 tyX9 tyX9_ok nmX9 hown hE.1 hP (hX.d rfl) hS 0 rfl rfl 0 (by decide) g_1 (fun _ h9 => h9) rfl (by decide +kernel) rfl rfl (Nat.le_of_ble_eq_true rfl) dX9_ticksTo_2 (fun H locs hP _ hS => ?_)
  have hP : va_P E.1 vwCl [(h, .inr (9, [.int 0, .ref nw, .ref td, .ref tx, .int length, .int textSize, .int start, .int next, .int token, .int value, .int error, .int errorAt, .int seen, .int triedWith, .ref rr, .ref ss, .ref tr, .ref wa, .int undos, .ref ud, .ref sl, .ref sv])), (nw, .inl (E.2.1, 214, .inl now)), (td, .inl (E.2.1, 48, .inl told)), (rr, .inl (E.2.1, 49, .inl rs)), (ss, .inl (E.2.1, 49, .inl fs)), (tr, .inl (E.2.1, 14, .inl tri)), (wa, .inl (E.2.1, 214, .inl was))] H := hP
  refine lv_aload_n hx hb dX9_ticksTo_5 rfl (lv_at hl 0 rfl) ?_
  refine lv_iload_n hx hb dX9_ticksTo_6 rfl (lv_at hl 2 rfl) ?_
  refine lv_iconst (v := 0) hx hb dX9_ticksTo_7 (by decide) ?_
  refine lv_sipush (v := 1000) hx hb dX9_ticksTo_8 (by decide) ?_
  refine x_rS [.int limit, .int 0, .int 1000] (kX9_within l E limit 0 1000) ⟨hx, hb, hml, hown, hts⟩ (va_cwS 3 hts gX9_ticksTo_X9_within rfl rfl rfl hdX9_within.2 ⟨Nat.le_of_ble_eq_true rfl, Nat.le_of_ble_eq_true rfl⟩) hE hP (hX.d rfl) [] rfl rfl hl.1 rfl rfl (Nat.le_of_ble_eq_true rfl) dX9_ticksTo_11 (Nat.le_of_ble_eq_true rfl) (Nat.le_of_ble_eq_true rfl) ?_
  refine lv_if_ne (tgt := 21) hx hb dX9_ticksTo_14 (by decide) (fun c_1 => ?_) (fun c_1 => ?_)
  · refine lv_iconst (v := 0) hx hb dX9_ticksTo_21 (by decide) ?_
    refine lv_iconst (v := 1) hx hb dX9_ticksTo_22 (by decide) ?_
    refine x_wV (wr := [(nw, .inl (E.2.1, 214, .inl now)), (td, .inl (E.2.1, 48, .inl told)), (rr, .inl (E.2.1, 49, .inl rs)), (ss, .inl (E.2.1, 49, .inl fs)), (tr, .inl (E.2.1, 14, .inl tri)), (wa, .inl (E.2.1, 214, .inl was))]) [.int 0, .int 1] (kX9_throwsIf_0 l E h nw td tx length textSize start next token value error errorAt seen triedWith rr ss tr wa undos ud sl sv 1) ⟨hx, hb, hml, hown, hts⟩ (cwV 2 hts gX9_ticksTo_X9_throwsIf rfl rfl rfl hdX9_throwsIf ⟨Nat.le_of_ble_eq_true rfl, Nat.le_of_ble_eq_true rfl⟩) hE hP (hX.d rfl) hS hA [0] [1, 2, 3, 4, 5, 6] rfl rfl rfl rfl (by decide) (ci := 9) (q0 := 0) rfl rfl rfl hl.1 rfl rfl (Nat.le_of_ble_eq_true rfl) dX9_ticksTo_23 (Nat.le_of_ble_eq_true rfl) (Nat.le_of_ble_eq_true rfl) (fun q_2 H locs hq_2 hP hD hS => ?_)
    have hP : va_P E.1 vwCl [(nw, .inl (E.2.1, 214, .inl now)), (td, .inl (E.2.1, 48, .inl told)), (rr, .inl (E.2.1, 49, .inl rs)), (ss, .inl (E.2.1, 49, .inl fs)), (tr, .inl (E.2.1, 14, .inl tri)), (wa, .inl (E.2.1, 214, .inl was)), (h, .inr (9, [.int 0, .ref nw, .ref td, .ref tx, .int length, .int textSize, .int start, .int next, .int token, .int value, .int error, .int errorAt, .int seen, .int triedWith, .ref rr, .ref ss, .ref tr, .ref wa, .int undos, .ref ud, .ref sl, .ref sv]))] H := hP
    have hX : xD A [nw, td, rr, ss, tr, wa, h] := xD.of hD rfl
    refine W.eq (g2 := F0 m 26 ls [.int 0]) rfl ?_
    refine lv_if_eq (tgt := 31) hx hb dX9_ticksTo_26 (by decide) (fun c_3 => ?_) (fun c_3 => absurd (by decide) c_3)
    refine lv_aload_n hx hb dX9_ticksTo_31 rfl (lv_at hl 0 rfl) ?_
    refine va_get (D := E.1) (ci := 9) (v := .ref nw) (C := RX9) (T := TX9) (N := 22) hx hb hts g_2 hown hE.1 hP 6 rfl rfl 1 (by decide) g_3 (fun _ h9 => h9) rfl dX9_ticksTo_32 ?_
    refine lv_iconst (v := 0) hx hb dX9_ticksTo_35 (by decide) ?_
    refine lv_aload_n hx hb dX9_ticksTo_36 rfl (lv_at hl 0 rfl) ?_
    refine va_get (D := E.1) (ci := 9) (v := .ref wa) (C := RX9) (T := TX9) (N := 22) hx hb hts g_2 hown hE.1 hP 6 rfl rfl 17 (by decide) g_4 (fun _ h9 => h9) rfl dX9_ticksTo_37 ?_
    refine lv_iconst (v := 0) hx hb dX9_ticksTo_40 (by decide) ?_
    refine lv_sipush (v := 214) hx hb dX9_ticksTo_41 (by decide) ?_
    refine x_wS (wr := [(td, .inl (E.2.1, 48, .inl told)), (rr, .inl (E.2.1, 49, .inl rs)), (ss, .inl (E.2.1, 49, .inl fs)), (tr, .inl (E.2.1, 14, .inl tri)), (h, .inr (9, [.int 0, .ref nw, .ref td, .ref tx, .int length, .int textSize, .int start, .int next, .int token, .int value, .int error, .int errorAt, .int seen, .int triedWith, .ref rr, .ref ss, .ref tr, .ref wa, .int undos, .ref ud, .ref sl, .ref sv]))]) [.ref nw, .int 0, .ref wa, .int 0, .int 214] (kX9_copies l E nw 214 now wa 214 was 0 0 214 (by decide) (by decide) (by decide) (by decide) (by decide) (by decide)) ⟨hx, hb, hml, hown, hts⟩ (va_cwS 5 hts gX9_ticksTo_X9_copies rfl rfl rfl hdX9_copies.2 ⟨Nat.le_of_ble_eq_true rfl, Nat.le_of_ble_eq_true rfl⟩) hE hP (hX.d rfl) hS hA [0, 5] [1, 2, 3, 4, 6] rfl rfl rfl rfl (by decide) hl.1 rfl rfl (Nat.le_of_ble_eq_true rfl) dX9_ticksTo_44 (Nat.le_of_ble_eq_true rfl) (Nat.le_of_ble_eq_true rfl) (fun q_4 H locs hq_4 hP hD hS => ?_)
    have hP : va_P E.1 vwCl [(td, .inl (E.2.1, 48, .inl told)), (rr, .inl (E.2.1, 49, .inl rs)), (ss, .inl (E.2.1, 49, .inl fs)), (tr, .inl (E.2.1, 14, .inl tri)), (h, .inr (9, [.int 0, .ref nw, .ref td, .ref tx, .int length, .int textSize, .int start, .int next, .int token, .int value, .int error, .int errorAt, .int seen, .int triedWith, .ref rr, .ref ss, .ref tr, .ref wa, .int undos, .ref ud, .ref sl, .ref sv])), (nw, .inl (E.2.1, 214, .inl now)), (wa, .inl (E.2.1, 214, .inl q_4))] H := hP
    have hX : xD A [td, rr, ss, tr, h, nw, wa] := xD.of hD rfl
    refine W.eq (g2 := F0 m 47 ls []) rfl ?_
    refine lv_iconst (v := 0) hx hb dX9_ticksTo_47 (by decide) ?_
    refine lv_istore_n (lv' := [(3, .int 0), (0, .ref h), (1, .int mode), (2, .int limit)]) hx hb dX9_ticksTo_48 rfl hl (by decide) rfl (fun ls hl => ?_)
    have ex_49 : ∀ (k_49 : Int32) (g_49 : (Nat → Int32) × Int32 × (Nat → Int32) × (Nat → Int32) × (Nat → Int32)), (¬ k_49 < 0) → ((g_49.1 0).toInt = (now 0).toInt + k_49.toInt) → (0 ≤ g_49.1 10) → (g_49.1 10 < 4096) → (0 ≤ g_49.1 11) → (g_49.1 11 < 4096) → ∀ (H : Heap) (locs : List Loc), va_P E.1 vwCl [(td, .inl (E.2.1, 48, .inl told)), (rr, .inl (E.2.1, 49, .inl g_49.2.2.1)), (ss, .inl (E.2.1, 49, .inl g_49.2.2.2.1)), (tr, .inl (E.2.1, 14, .inl g_49.2.2.2.2)), (h, .inr (9, [.int 0, .ref nw, .ref td, .ref tx, .int length, .int textSize, .int start, .int next, .int token, .int value, .int error, .int errorAt, .int seen, .int g_49.2.1, .ref rr, .ref ss, .ref tr, .ref wa, .int undos, .ref ud, .ref sl, .ref sv])), (nw, .inl (E.2.1, 214, .inl g_49.1)), (wa, .inl (E.2.1, 214, .inl q_4))] H → va_S A s.heap H locs → ∀ (ls : Array Slot), lv_has ls 5 [(0, .ref h), (1, .int mode), (2, .int limit), (3, .int k_49)] → (sX9_ticksTo triedWith now told rs fs tri was mode limit) = (if (g_49.1 1) = mode then (k_49, 0, (sX9_copies q_4 g_49.1 0 0 214), g_49.2.1, g_49.2.2.1, g_49.2.2.2.1, g_49.2.2.2.2, q_4) else ((-1), 0, (sX9_copies q_4 g_49.1 0 0 214), g_49.2.1, g_49.2.2.1, g_49.2.2.2.1, g_49.2.2.2.2, q_4)) → W p l e ({ frames := 9, cells := 0, slots := 0, locals := 203 }) s m args below meth c H locs 0 0 (MQ below (xO (T := Int32 × Int32 × (Nat → Int32) × Int32 × (Nat → Int32) × (Nat → Int32) × (Nat → Int32) × (Nat → Int32)) E A (fun q => some (.int q.1)) (fun q => [(h, .inr (9, [.int q.2.1, .ref nw, .ref td, .ref tx, .int length, .int textSize, .int start, .int next, .int token, .int value, .int error, .int errorAt, .int seen, .int q.2.2.2.1, .ref rr, .ref ss, .ref tr, .ref wa, .int undos, .ref ud, .ref sl, .ref sv])), (nw, .inl (E.2.1, 214, .inl q.2.2.1)), (td, .inl (E.2.1, 48, .inl told)), (rr, .inl (E.2.1, 49, .inl q.2.2.2.2.1)), (ss, .inl (E.2.1, 49, .inl q.2.2.2.2.2.1)), (tr, .inl (E.2.1, 14, .inl q.2.2.2.2.2.2.1)), (wa, .inl (E.2.1, 214, .inl q.2.2.2.2.2.2.2))]) (sX9_ticksTo triedWith now told rs fs tri was mode limit)) args s 0 0 A) (F0 m 74 ls []) := by
      intro k_49 g_49 hi0_49 htk_49 ha0_49 ha1_49 hb0_49 hb1_49 H locs hP hS ls hl hx_49
      refine lv_aload_n hx hb dX9_ticksTo_74 rfl (lv_at hl 0 rfl) ?_
      refine va_get (D := E.1) (ci := 9) (v := .ref nw) (C := RX9) (T := TX9) (N := 22) hx hb hts g_2 hown hE.1 hP 4 rfl rfl 1 (by decide) g_3 (fun _ h9 => h9) rfl dX9_ticksTo_75 ?_
      refine lv_iconst (v := 1) hx hb dX9_ticksTo_78 (by decide) ?_
      refine x_iald hx hb hE.1 hP 5 0 rfl rfl 1 (by decide) (by unfold vp_in; decide) dX9_ticksTo_79 ?_
      refine lv_iload_n hx hb dX9_ticksTo_80 rfl (lv_at hl 1 rfl) ?_
      refine lv_icmp_ne (tgt := 88) hx hb dX9_ticksTo_81 (by decide) (fun c_5 => ?_) (fun c_5 => ?_)
      · refine lv_iconst (v := 0) hx hb dX9_ticksTo_88 (by decide) ?_
        refine lv_istore (lv' := [(4, .int 0), (0, .ref h), (1, .int mode), (2, .int limit), (3, .int k_49)]) hx hb dX9_ticksTo_89 hl (by decide) rfl (fun ls hl => ?_)
        refine lv_aload_n hx hb dX9_ticksTo_91 rfl (lv_at hl 1 rfl) ?_
        refine va_get (D := E.1) (ci := 9) (v := .ref wa) (C := RX9) (T := TX9) (N := 22) hx hb hts g_2 hown hE.1 hP 4 rfl rfl 17 (by decide) g_4 (fun _ h9 => h9) rfl dX9_ticksTo_92 ?_
        refine lv_iconst (v := 0) hx hb dX9_ticksTo_95 (by decide) ?_
        refine lv_aload_n hx hb dX9_ticksTo_96 rfl (lv_at hl 1 rfl) ?_
        refine va_get (D := E.1) (ci := 9) (v := .ref nw) (C := RX9) (T := TX9) (N := 22) hx hb hts g_2 hown hE.1 hP 4 rfl rfl 1 (by decide) g_3 (fun _ h9 => h9) rfl dX9_ticksTo_97 ?_
        refine lv_iconst (v := 0) hx hb dX9_ticksTo_100 (by decide) ?_
        refine lv_sipush (v := 214) hx hb dX9_ticksTo_101 (by decide) ?_
        refine x_wS (wr := [(td, .inl (E.2.1, 48, .inl told)), (rr, .inl (E.2.1, 49, .inl g_49.2.2.1)), (ss, .inl (E.2.1, 49, .inl g_49.2.2.2.1)), (tr, .inl (E.2.1, 14, .inl g_49.2.2.2.2)), (h, .inr (9, [.int 0, .ref nw, .ref td, .ref tx, .int length, .int textSize, .int start, .int next, .int token, .int value, .int error, .int errorAt, .int seen, .int g_49.2.1, .ref rr, .ref ss, .ref tr, .ref wa, .int undos, .ref ud, .ref sl, .ref sv]))]) [.ref wa, .int 0, .ref nw, .int 0, .int 214] (kX9_copies l E wa 214 q_4 nw 214 g_49.1 0 0 214 (by decide) (by decide) (by decide) (by decide) (by decide) (by decide)) ⟨hx, hb, hml, hown, hts⟩ (va_cwS 5 hts gX9_ticksTo_X9_copies rfl rfl rfl hdX9_copies.2 ⟨Nat.le_of_ble_eq_true rfl, Nat.le_of_ble_eq_true rfl⟩) hE hP (hX.d rfl) hS hA [6, 5] [0, 1, 2, 3, 4] rfl rfl rfl rfl (by decide) hl.1 rfl rfl (Nat.le_of_ble_eq_true rfl) dX9_ticksTo_104 (Nat.le_of_ble_eq_true rfl) (Nat.le_of_ble_eq_true rfl) (fun q_6 H locs hq_6 hP hD hS => ?_)
        subst hq_6
        have hP : va_P E.1 vwCl [(td, .inl (E.2.1, 48, .inl told)), (rr, .inl (E.2.1, 49, .inl g_49.2.2.1)), (ss, .inl (E.2.1, 49, .inl g_49.2.2.2.1)), (tr, .inl (E.2.1, 14, .inl g_49.2.2.2.2)), (h, .inr (9, [.int 0, .ref nw, .ref td, .ref tx, .int length, .int textSize, .int start, .int next, .int token, .int value, .int error, .int errorAt, .int seen, .int g_49.2.1, .ref rr, .ref ss, .ref tr, .ref wa, .int undos, .ref ud, .ref sl, .ref sv])), (wa, .inl (E.2.1, 214, .inl q_4)), (nw, .inl (E.2.1, 214, .inl (sX9_copies q_4 g_49.1 0 0 214)))] H := hP
        have hX : xD A [td, rr, ss, tr, h, wa, nw] := xD.of hD rfl
        refine W.eq (g2 := F0 m 107 ls []) rfl ?_
        refine lv_iload hx hb dX9_ticksTo_107 (lv_at hl 0 rfl) ?_
        refine lv_if_eq (tgt := 116) hx hb dX9_ticksTo_109 (by decide) (fun c_7 => ?_) (fun c_7 => absurd (by decide) c_7)
        refine lv_iconst (v := (-1)) hx hb dX9_ticksTo_116 (by decide) ?_
        exact x_wi ((-1), 0, (sX9_copies q_4 g_49.1 0 0 214), g_49.2.1, g_49.2.2.1, g_49.2.2.2.1, g_49.2.2.2.2, q_4) (by rw [hx_49]; rw [if_neg c_5]; try rfl) rfl hx hb hr hlk hS hP (hX.d rfl) [4, 6, 0, 1, 2, 3, 5] rfl rfl (Nat.le_of_ble_eq_true rfl) (Nat.le_of_ble_eq_true rfl) dX9_ticksTo_117
      · refine lv_iconst (v := 1) hx hb dX9_ticksTo_84 (by decide) ?_
        refine lv_goto (tgt := 89) hx hb dX9_ticksTo_85 (by decide) ?_
        refine lv_istore (lv' := [(4, .int 1), (0, .ref h), (1, .int mode), (2, .int limit), (3, .int k_49)]) hx hb dX9_ticksTo_89 hl (by decide) rfl (fun ls hl => ?_)
        refine lv_aload_n hx hb dX9_ticksTo_91 rfl (lv_at hl 1 rfl) ?_
        refine va_get (D := E.1) (ci := 9) (v := .ref wa) (C := RX9) (T := TX9) (N := 22) hx hb hts g_2 hown hE.1 hP 4 rfl rfl 17 (by decide) g_4 (fun _ h9 => h9) rfl dX9_ticksTo_92 ?_
        refine lv_iconst (v := 0) hx hb dX9_ticksTo_95 (by decide) ?_
        refine lv_aload_n hx hb dX9_ticksTo_96 rfl (lv_at hl 1 rfl) ?_
        refine va_get (D := E.1) (ci := 9) (v := .ref nw) (C := RX9) (T := TX9) (N := 22) hx hb hts g_2 hown hE.1 hP 4 rfl rfl 1 (by decide) g_3 (fun _ h9 => h9) rfl dX9_ticksTo_97 ?_
        refine lv_iconst (v := 0) hx hb dX9_ticksTo_100 (by decide) ?_
        refine lv_sipush (v := 214) hx hb dX9_ticksTo_101 (by decide) ?_
        refine x_wS (wr := [(td, .inl (E.2.1, 48, .inl told)), (rr, .inl (E.2.1, 49, .inl g_49.2.2.1)), (ss, .inl (E.2.1, 49, .inl g_49.2.2.2.1)), (tr, .inl (E.2.1, 14, .inl g_49.2.2.2.2)), (h, .inr (9, [.int 0, .ref nw, .ref td, .ref tx, .int length, .int textSize, .int start, .int next, .int token, .int value, .int error, .int errorAt, .int seen, .int g_49.2.1, .ref rr, .ref ss, .ref tr, .ref wa, .int undos, .ref ud, .ref sl, .ref sv]))]) [.ref wa, .int 0, .ref nw, .int 0, .int 214] (kX9_copies l E wa 214 q_4 nw 214 g_49.1 0 0 214 (by decide) (by decide) (by decide) (by decide) (by decide) (by decide)) ⟨hx, hb, hml, hown, hts⟩ (va_cwS 5 hts gX9_ticksTo_X9_copies rfl rfl rfl hdX9_copies.2 ⟨Nat.le_of_ble_eq_true rfl, Nat.le_of_ble_eq_true rfl⟩) hE hP (hX.d rfl) hS hA [6, 5] [0, 1, 2, 3, 4] rfl rfl rfl rfl (by decide) hl.1 rfl rfl (Nat.le_of_ble_eq_true rfl) dX9_ticksTo_104 (Nat.le_of_ble_eq_true rfl) (Nat.le_of_ble_eq_true rfl) (fun q_8 H locs hq_8 hP hD hS => ?_)
        subst hq_8
        have hP : va_P E.1 vwCl [(td, .inl (E.2.1, 48, .inl told)), (rr, .inl (E.2.1, 49, .inl g_49.2.2.1)), (ss, .inl (E.2.1, 49, .inl g_49.2.2.2.1)), (tr, .inl (E.2.1, 14, .inl g_49.2.2.2.2)), (h, .inr (9, [.int 0, .ref nw, .ref td, .ref tx, .int length, .int textSize, .int start, .int next, .int token, .int value, .int error, .int errorAt, .int seen, .int g_49.2.1, .ref rr, .ref ss, .ref tr, .ref wa, .int undos, .ref ud, .ref sl, .ref sv])), (wa, .inl (E.2.1, 214, .inl q_4)), (nw, .inl (E.2.1, 214, .inl (sX9_copies q_4 g_49.1 0 0 214)))] H := hP
        have hX : xD A [td, rr, ss, tr, h, wa, nw] := xD.of hD rfl
        refine W.eq (g2 := F0 m 107 ls []) rfl ?_
        refine lv_iload hx hb dX9_ticksTo_107 (lv_at hl 0 rfl) ?_
        refine lv_if_eq (tgt := 116) hx hb dX9_ticksTo_109 (by decide) (fun c_9 => absurd c_9 (by decide)) (fun c_9 => ?_)
        refine lv_iload_n hx hb dX9_ticksTo_112 rfl (lv_at hl 4 rfl) ?_
        refine lv_goto (tgt := 117) hx hb dX9_ticksTo_113 (by decide) ?_
        exact x_wi (k_49, 0, (sX9_copies q_4 g_49.1 0 0 214), g_49.2.1, g_49.2.2.1, g_49.2.2.2.1, g_49.2.2.2.2, q_4) (by rw [hx_49]; rw [if_pos c_5]; try rfl) rfl hx hb hr hlk hS hP (hX.d rfl) [4, 6, 0, 1, 2, 3, 5] rfl rfl (Nat.le_of_ble_eq_true rfl) (Nat.le_of_ble_eq_true rfl) dX9_ticksTo_117
    have lp_49 : ∀ (kk_49 : Nat), ∀ (k_49 : Int32) (g_49 : (Nat → Int32) × Int32 × (Nat → Int32) × (Nat → Int32) × (Nat → Int32)), (¬ k_49 < 0) → ((g_49.1 0).toInt = (now 0).toInt + k_49.toInt) → (0 ≤ g_49.1 10) → (g_49.1 10 < 4096) → (0 ≤ g_49.1 11) → (g_49.1 11 < 4096) → (xMu limit k_49) < kk_49 → ∀ (H : Heap) (locs : List Loc), va_P E.1 vwCl [(td, .inl (E.2.1, 48, .inl told)), (rr, .inl (E.2.1, 49, .inl g_49.2.2.1)), (ss, .inl (E.2.1, 49, .inl g_49.2.2.2.1)), (tr, .inl (E.2.1, 14, .inl g_49.2.2.2.2)), (h, .inr (9, [.int 0, .ref nw, .ref td, .ref tx, .int length, .int textSize, .int start, .int next, .int token, .int value, .int error, .int errorAt, .int seen, .int g_49.2.1, .ref rr, .ref ss, .ref tr, .ref wa, .int undos, .ref ud, .ref sl, .ref sv])), (nw, .inl (E.2.1, 214, .inl g_49.1)), (wa, .inl (E.2.1, 214, .inl q_4))] H → va_S A s.heap H locs → ∀ (ls : Array Slot), lv_has ls 5 [(0, .ref h), (1, .int mode), (2, .int limit), (3, .int k_49)] → (sX9_ticksTo triedWith now told rs fs tri was mode limit) = sX9_ticksTo_l49 told mode limit (fun (k_49 : Int32) (g_49 : (Nat → Int32) × Int32 × (Nat → Int32) × (Nat → Int32) × (Nat → Int32)) => if (g_49.1 1) = mode then (k_49, 0, (sX9_copies q_4 g_49.1 0 0 214), g_49.2.1, g_49.2.2.1, g_49.2.2.2.1, g_49.2.2.2.2, q_4) else ((-1), 0, (sX9_copies q_4 g_49.1 0 0 214), g_49.2.1, g_49.2.2.1, g_49.2.2.2.1, g_49.2.2.2.2, q_4)) kk_49 k_49 g_49 → W p l e ({ frames := 9, cells := 0, slots := 0, locals := 203 }) s m args below meth c H locs 0 0 (MQ below (xO (T := Int32 × Int32 × (Nat → Int32) × Int32 × (Nat → Int32) × (Nat → Int32) × (Nat → Int32) × (Nat → Int32)) E A (fun q => some (.int q.1)) (fun q => [(h, .inr (9, [.int q.2.1, .ref nw, .ref td, .ref tx, .int length, .int textSize, .int start, .int next, .int token, .int value, .int error, .int errorAt, .int seen, .int q.2.2.2.1, .ref rr, .ref ss, .ref tr, .ref wa, .int undos, .ref ud, .ref sl, .ref sv])), (nw, .inl (E.2.1, 214, .inl q.2.2.1)), (td, .inl (E.2.1, 48, .inl told)), (rr, .inl (E.2.1, 49, .inl q.2.2.2.2.1)), (ss, .inl (E.2.1, 49, .inl q.2.2.2.2.2.1)), (tr, .inl (E.2.1, 14, .inl q.2.2.2.2.2.2.1)), (wa, .inl (E.2.1, 214, .inl q.2.2.2.2.2.2.2))]) (sX9_ticksTo triedWith now told rs fs tri was mode limit)) args s 0 0 A) (F0 m 49 ls []) := by
      intro kk_49
      induction kk_49 with
      | zero =>
        intro k_49 g_49 hi0_49 htk_49 ha0_49 ha1_49 hb0_49 hb1_49 hmu
        exact absurd hmu (Nat.not_lt_zero _)
      | succ kk_49 ih_49 =>
        intro k_49 g_49 hi0_49 htk_49 ha0_49 ha1_49 hb0_49 hb1_49 hmu H locs hP hS ls hl hlq_49
        refine lv_iload_n hx hb dX9_ticksTo_49 rfl (lv_at hl 3 rfl) ?_
        refine lv_iload_n hx hb dX9_ticksTo_50 rfl (lv_at hl 2 rfl) ?_
        refine lv_icmp_ge (tgt := 74) hx hb dX9_ticksTo_51 (by decide) (fun c_10 => ?_) (fun c_10 => ?_)
        · exact ex_49 k_49 g_49 hi0_49 htk_49 ha0_49 ha1_49 hb0_49 hb1_49 _ _ hP hS ls (lv_sub hl [0, 1, 2, 3] rfl) (by rw [hlq_49]; rw [sX9_ticksTo_l49_s]; rw [if_pos c_10]; try rfl)
        · refine lv_aload_n hx hb dX9_ticksTo_54 rfl (lv_at hl 0 rfl) ?_
          refine va_get (D := E.1) (ci := 9) (v := .ref nw) (C := RX9) (T := TX9) (N := 22) hx hb hts g_2 hown hE.1 hP 4 rfl rfl 1 (by decide) g_3 (fun _ h9 => h9) rfl dX9_ticksTo_55 ?_
          refine lv_iconst (v := 1) hx hb dX9_ticksTo_58 (by decide) ?_
          refine x_iald hx hb hE.1 hP 5 0 rfl rfl 1 (by decide) (by unfold vp_in; decide) dX9_ticksTo_59 ?_
          refine lv_iload_n hx hb dX9_ticksTo_60 rfl (lv_at hl 1 rfl) ?_
          refine lv_icmp_eq (tgt := 74) hx hb dX9_ticksTo_61 (by decide) (fun c_11 => ?_) (fun c_11 => ?_)
          · exact ex_49 k_49 g_49 hi0_49 htk_49 ha0_49 ha1_49 hb0_49 hb1_49 _ _ hP hS ls (lv_sub hl [0, 1, 2, 3] rfl) (by rw [hlq_49]; rw [sX9_ticksTo_l49_s]; rw [if_neg c_10]; rw [if_pos c_11]; try rfl)
          · refine lv_aload_n hx hb dX9_ticksTo_64 rfl (lv_at hl 0 rfl) ?_
            refine x_wV (wr := [(wa, .inl (E.2.1, 214, .inl q_4))]) [] (kX9_passes l E h 0 nw td tx length textSize start next token value error errorAt seen g_49.2.1 rr ss tr wa undos ud sl sv g_49.1 told g_49.2.2.1 g_49.2.2.2.1 g_49.2.2.2.2 hw1 hw2 hc3 hc0 (x_th htk_49 hi0_49 c_10 (x_within c_1).2 hT0 hT1) ha0_49 ha1_49 hb0_49 hb1_49) ⟨hx, hb, hml, hown, hts⟩ (cwV 0 hts gX9_ticksTo_X9_passes rfl rfl rfl hdX9_passes ⟨Nat.le_of_ble_eq_true rfl, Nat.le_of_ble_eq_true rfl⟩) hE hP (hX.d rfl) hS hA [4, 5, 0, 1, 2, 3] [6] rfl rfl rfl rfl (by decide) (ci := 9) (q0 := 4) rfl rfl rfl hl.1 rfl rfl (Nat.le_of_ble_eq_true rfl) dX9_ticksTo_65 (Nat.le_of_ble_eq_true rfl) (Nat.le_of_ble_eq_true rfl) (fun q_12 H locs hq_12 hP hD hS => ?_)
            subst hq_12
            have hP : va_P E.1 vwCl [(wa, .inl (E.2.1, 214, .inl q_4)), (h, .inr (9, [.int 0, .ref nw, .ref td, .ref tx, .int length, .int textSize, .int start, .int next, .int token, .int value, .int error, .int errorAt, .int seen, .int ((sX9_passes g_49.2.1 g_49.1 told g_49.2.2.1 g_49.2.2.2.1 g_49.2.2.2.2).2.1), .ref rr, .ref ss, .ref tr, .ref wa, .int undos, .ref ud, .ref sl, .ref sv])), (nw, .inl (E.2.1, 214, .inl ((sX9_passes g_49.2.1 g_49.1 told g_49.2.2.1 g_49.2.2.2.1 g_49.2.2.2.2).1))), (td, .inl (E.2.1, 48, .inl told)), (rr, .inl (E.2.1, 49, .inl ((sX9_passes g_49.2.1 g_49.1 told g_49.2.2.1 g_49.2.2.2.1 g_49.2.2.2.2).2.2.1))), (ss, .inl (E.2.1, 49, .inl ((sX9_passes g_49.2.1 g_49.1 told g_49.2.2.1 g_49.2.2.2.1 g_49.2.2.2.2).2.2.2.1))), (tr, .inl (E.2.1, 14, .inl ((sX9_passes g_49.2.1 g_49.1 told g_49.2.2.1 g_49.2.2.2.1 g_49.2.2.2.2).2.2.2.2)))] H := hP
            have hX : xD A [wa, h, nw, td, rr, ss, tr] := xD.of hD rfl
            refine W.eq (g2 := F0 m 68 ls []) rfl ?_
            refine lv_iinc (v := k_49 + 1) (lv' := [(3, .int (k_49 + 1)), (0, .ref h), (1, .int mode), (2, .int limit)]) hx hb dX9_ticksTo_68 hl (k := 3) rfl (by rfl) (by decide) rfl (fun ls hl => ?_)
            refine lv_goto (tgt := 49) hx hb dX9_ticksTo_71 (by decide) ?_
            have hP := (x_pick hP (hX.d rfl) (w1 := [(td, .inl (E.2.1, 48, .inl told)), (rr, .inl (E.2.1, 49, .inl ((sX9_passes g_49.2.1 g_49.1 told g_49.2.2.1 g_49.2.2.2.1 g_49.2.2.2.2).2.2.1))), (ss, .inl (E.2.1, 49, .inl ((sX9_passes g_49.2.1 g_49.1 told g_49.2.2.1 g_49.2.2.2.1 g_49.2.2.2.2).2.2.2.1))), (tr, .inl (E.2.1, 14, .inl ((sX9_passes g_49.2.1 g_49.1 told g_49.2.2.1 g_49.2.2.2.1 g_49.2.2.2.2).2.2.2.2))), (h, .inr (9, [.int 0, .ref nw, .ref td, .ref tx, .int length, .int textSize, .int start, .int next, .int token, .int value, .int error, .int errorAt, .int seen, .int ((sX9_passes g_49.2.1 g_49.1 told g_49.2.2.1 g_49.2.2.2.1 g_49.2.2.2.2).2.1), .ref rr, .ref ss, .ref tr, .ref wa, .int undos, .ref ud, .ref sl, .ref sv])), (nw, .inl (E.2.1, 214, .inl ((sX9_passes g_49.2.1 g_49.1 told g_49.2.2.1 g_49.2.2.2.1 g_49.2.2.2.2).1))), (wa, .inl (E.2.1, 214, .inl q_4))]) [3, 4, 5, 6, 1, 2, 0] rfl rfl).1
            exact ih_49 (k_49 + 1) (sX9_passes g_49.2.1 g_49.1 told g_49.2.2.1 g_49.2.2.2.1 g_49.2.2.2.2) (x_step hi0_49 c_10) (x_tk htk_49 (x_pass _ _ _ _ _ _ (x_th htk_49 hi0_49 c_10 (x_within c_1).2 hT0 hT1) ha0_49 ha1_49 hb0_49 hb1_49).1 hi0_49 c_10 (x_within c_1).2 hT0 hT1) (x_pass _ _ _ _ _ _ (x_th htk_49 hi0_49 c_10 (x_within c_1).2 hT0 hT1) ha0_49 ha1_49 hb0_49 hb1_49).2.1 (x_pass _ _ _ _ _ _ (x_th htk_49 hi0_49 c_10 (x_within c_1).2 hT0 hT1) ha0_49 ha1_49 hb0_49 hb1_49).2.2.1 (x_pass _ _ _ _ _ _ (x_th htk_49 hi0_49 c_10 (x_within c_1).2 hT0 hT1) ha0_49 ha1_49 hb0_49 hb1_49).2.2.2.1 (x_pass _ _ _ _ _ _ (x_th htk_49 hi0_49 c_10 (x_within c_1).2 hT0 hT1) ha0_49 ha1_49 hb0_49 hb1_49).2.2.2.2 (x_mu hi0_49 c_10 hmu) _ _ hP hS ls (lv_sub hl [1, 2, 3, 0] rfl) (by rw [hlq_49]; rw [sX9_ticksTo_l49_s]; rw [if_neg c_10]; rw [if_neg c_11]; try rfl)
    exact lp_49 (xMu limit 0 + 1) 0 (now, triedWith, rs, fs, tri) (by decide) (x_tk0 _) ha0 ha1 hb0 hb1 (Nat.lt_succ_self _) _ _ hP hS ls (lv_sub hl [1, 2, 3, 0] rfl) (by unfold sX9_ticksTo; rw [if_neg c_1]; rw [← hq_4]; unfold sX9_ticksTo_q_4; try rfl)
  · refine lv_iconst (v := 1) hx hb dX9_ticksTo_17 (by decide) ?_
    refine lv_goto (tgt := 22) hx hb dX9_ticksTo_18 (by decide) ?_
    refine lv_iconst (v := 1) hx hb dX9_ticksTo_22 (by decide) ?_
    refine x_wV (wr := [(nw, .inl (E.2.1, 214, .inl now)), (td, .inl (E.2.1, 48, .inl told)), (rr, .inl (E.2.1, 49, .inl rs)), (ss, .inl (E.2.1, 49, .inl fs)), (tr, .inl (E.2.1, 14, .inl tri)), (wa, .inl (E.2.1, 214, .inl was))]) [.int 1, .int 1] (kX9_throwsIf_11 l E h nw td tx length textSize start next token value error errorAt seen triedWith rr ss tr wa undos ud sl sv) ⟨hx, hb, hml, hown, hts⟩ (cwV 2 hts gX9_ticksTo_X9_throwsIf rfl rfl rfl hdX9_throwsIf ⟨Nat.le_of_ble_eq_true rfl, Nat.le_of_ble_eq_true rfl⟩) hE hP (hX.d rfl) hS hA [0] [1, 2, 3, 4, 5, 6] rfl rfl rfl rfl (by decide) (ci := 9) (q0 := 0) rfl rfl rfl hl.1 rfl rfl (Nat.le_of_ble_eq_true rfl) dX9_ticksTo_23 (Nat.le_of_ble_eq_true rfl) (Nat.le_of_ble_eq_true rfl) (fun q_13 H locs hq_13 hP hD hS => ?_)
    have hP : va_P E.1 vwCl [(nw, .inl (E.2.1, 214, .inl now)), (td, .inl (E.2.1, 48, .inl told)), (rr, .inl (E.2.1, 49, .inl rs)), (ss, .inl (E.2.1, 49, .inl fs)), (tr, .inl (E.2.1, 14, .inl tri)), (wa, .inl (E.2.1, 214, .inl was)), (h, .inr (9, [.int 1, .ref nw, .ref td, .ref tx, .int length, .int textSize, .int start, .int next, .int token, .int value, .int error, .int errorAt, .int seen, .int triedWith, .ref rr, .ref ss, .ref tr, .ref wa, .int undos, .ref ud, .ref sl, .ref sv]))] H := hP
    have hX : xD A [nw, td, rr, ss, tr, wa, h] := xD.of hD rfl
    refine W.eq (g2 := F0 m 26 ls [.int 1]) rfl ?_
    refine lv_if_eq (tgt := 31) hx hb dX9_ticksTo_26 (by decide) (fun c_14 => absurd c_14 (by decide)) (fun c_14 => ?_)
    refine lv_iconst (v := 0) hx hb dX9_ticksTo_29 (by decide) ?_
    exact x_wi (0, 1, now, triedWith, rs, fs, tri, was) (by unfold sX9_ticksTo; rw [if_pos c_1]; try rfl) rfl hx hb hr hlk hS hP (hX.d rfl) [6, 0, 1, 2, 3, 4, 5] rfl rfl (Nat.le_of_ble_eq_true rfl) (Nat.le_of_ble_eq_true rfl) dX9_ticksTo_30
def sX9_ticksToBalance (triedWith : Int32) (now : Nat → Int32) (told : Nat → Int32) (rs : Nat → Int32) (fs : Nat → Int32) (tri : Nat → Int32) (was : Nat → Int32) (limit : Int32) : Int32 × Int32 × (Nat → Int32) × Int32 × (Nat → Int32) × (Nat → Int32) × (Nat → Int32) × (Nat → Int32) :=
  ((sX9_ticksTo triedWith now told rs fs tri was 2 limit).1, (sX9_ticksTo triedWith now told rs fs tri was 2 limit).2.1, (sX9_ticksTo triedWith now told rs fs tri was 2 limit).2.2.1, (sX9_ticksTo triedWith now told rs fs tri was 2 limit).2.2.2.1, (sX9_ticksTo triedWith now told rs fs tri was 2 limit).2.2.2.2.1, (sX9_ticksTo triedWith now told rs fs tri was 2 limit).2.2.2.2.2.1, (sX9_ticksTo triedWith now told rs fs tri was 2 limit).2.2.2.2.2.2.1, (sX9_ticksTo triedWith now told rs fs tri was 2 limit).2.2.2.2.2.2.2)
theorem hdX9_ticksToBalance : yX9_ticksToBalance.cls = RX9 ∧ yX9_ticksToBalance.cls ≠ "java/lang/invoke/MethodHandle" ∧ yX9_ticksToBalance.cls ≠ "java/lang/invoke/VarHandle" ∧ (parseMethodDescriptor yX9_ticksToBalance.desc).map (fun d => d.parameters.length) = some 1 := by decide +kernel
set_option maxHeartbeats 4000000 in
set_option maxRecDepth 100000 in
theorem kX9_ticksToBalance (l : Launch) (E : XE) (h : Nat) (thrown : Int32) (nw : Nat) (td : Nat) (tx : Nat) (length : Int32) (textSize : Int32) (start : Int32) (next : Int32) (token : Int32) (value : Int32) (error : Int32) (errorAt : Int32) (seen : Int32) (triedWith : Int32) (rr : Nat) (ss : Nat) (tr : Nat) (wa : Nat) (undos : Int32) (ud : Nat) (sl : Nat) (sv : Nat) (now : Nat → Int32) (told : Nat → Int32) (rs : Nat → Int32) (fs : Nat → Int32) (tri : Nat → Int32) (was : Nat → Int32) (limit : Int32) (hw1 : ¬ 2 * told 15 = 0) (hw2 : ¬ 2 * told 16 = 0) (hc3 : told 17 ≤ 3) (hc0 : 0 ≤ told 17) (hT0 : 0 ≤ (now 0).toInt) (hT1 : (now 0).toInt ≤ 100000) (ha0 : 0 ≤ now 10) (ha1 : now 10 < 4096) (hb0 : 0 ≤ now 11) (hb1 : now 11 < 4096) : xW (T := Int32 × Int32 × (Nat → Int32) × Int32 × (Nat → Int32) × (Nat → Int32) × (Nat → Int32) × (Nat → Int32)) l yX9_ticksToBalance wsX9_ticksToBalance ({ frames := 10, cells := 0, slots := 0, locals := 227 }) E [(h, .inr (9, [.int thrown, .ref nw, .ref td, .ref tx, .int length, .int textSize, .int start, .int next, .int token, .int value, .int error, .int errorAt, .int seen, .int triedWith, .ref rr, .ref ss, .ref tr, .ref wa, .int undos, .ref ud, .ref sl, .ref sv])), (nw, .inl (E.2.1, 214, .inl now)), (td, .inl (E.2.1, 48, .inl told)), (rr, .inl (E.2.1, 49, .inl rs)), (ss, .inl (E.2.1, 49, .inl fs)), (tr, .inl (E.2.1, 14, .inl tri)), (wa, .inl (E.2.1, 214, .inl was))] [.ref h, .int limit] (fun q => some (.int q.1)) (fun q => [(h, .inr (9, [.int q.2.1, .ref nw, .ref td, .ref tx, .int length, .int textSize, .int start, .int next, .int token, .int value, .int error, .int errorAt, .int seen, .int q.2.2.2.1, .ref rr, .ref ss, .ref tr, .ref wa, .int undos, .ref ud, .ref sl, .ref sv])), (nw, .inl (E.2.1, 214, .inl q.2.2.1)), (td, .inl (E.2.1, 48, .inl told)), (rr, .inl (E.2.1, 49, .inl q.2.2.2.2.1)), (ss, .inl (E.2.1, 49, .inl q.2.2.2.2.2.1)), (tr, .inl (E.2.1, 14, .inl q.2.2.2.2.2.2.1)), (wa, .inl (E.2.1, 214, .inl q.2.2.2.2.2.2.2))]) (sX9_ticksToBalance triedWith now told rs fs tri was limit) 0 0 := by
  refine xW.of (cc := cX9_ticksToBalance) (maxL := 2) (ret := (some .int)) (by decide) rfl (Nat.le_of_ble_eq_true rfl) ?_
  intro p e s m args below meth c ls A hM hE hP hD hS hA hl
  obtain ⟨hx, hb, hr, hml, hts, hown, hlk, hnm⟩ := hM
  have hX : xD A [h, nw, td, rr, ss, tr, wa] := xD.of hD rfl
  have hl : lv_has ls 2 [(0, .ref h), (1, .int limit)] := hl
  refine lv_aload_n hx hb dX9_ticksToBalance_0 rfl (lv_at hl 0 rfl) ?_
  refine lv_iconst (v := 2) hx hb dX9_ticksToBalance_1 (by decide) ?_
  refine lv_iload_n hx hb dX9_ticksToBalance_2 rfl (lv_at hl 1 rfl) ?_
  refine x_wV (wr := []) [.int 2, .int limit] (kX9_ticksTo l E h thrown nw td tx length textSize start next token value error errorAt seen triedWith rr ss tr wa undos ud sl sv now told rs fs tri was 2 limit hw1 hw2 hc3 hc0 hT0 hT1 ha0 ha1 hb0 hb1) ⟨hx, hb, hml, hown, hts⟩ (cwV 2 hts gX9_ticksToBalance_X9_ticksTo rfl rfl rfl hdX9_ticksTo ⟨Nat.le_of_ble_eq_true rfl, Nat.le_of_ble_eq_true rfl⟩) hE hP (hX.d rfl) hS hA [0, 1, 2, 3, 4, 5, 6] [] rfl rfl rfl rfl (by decide) (ci := 9) (q0 := 0) rfl rfl rfl hl.1 rfl rfl (Nat.le_of_ble_eq_true rfl) dX9_ticksToBalance_3 (Nat.le_of_ble_eq_true rfl) (Nat.le_of_ble_eq_true rfl) (fun q_1 H locs hq_1 hP hD hS => ?_)
  subst hq_1
  have hP : va_P E.1 vwCl [(h, .inr (9, [.int ((sX9_ticksTo triedWith now told rs fs tri was 2 limit).2.1), .ref nw, .ref td, .ref tx, .int length, .int textSize, .int start, .int next, .int token, .int value, .int error, .int errorAt, .int seen, .int ((sX9_ticksTo triedWith now told rs fs tri was 2 limit).2.2.2.1), .ref rr, .ref ss, .ref tr, .ref wa, .int undos, .ref ud, .ref sl, .ref sv])), (nw, .inl (E.2.1, 214, .inl ((sX9_ticksTo triedWith now told rs fs tri was 2 limit).2.2.1))), (td, .inl (E.2.1, 48, .inl told)), (rr, .inl (E.2.1, 49, .inl ((sX9_ticksTo triedWith now told rs fs tri was 2 limit).2.2.2.2.1))), (ss, .inl (E.2.1, 49, .inl ((sX9_ticksTo triedWith now told rs fs tri was 2 limit).2.2.2.2.2.1))), (tr, .inl (E.2.1, 14, .inl ((sX9_ticksTo triedWith now told rs fs tri was 2 limit).2.2.2.2.2.2.1))), (wa, .inl (E.2.1, 214, .inl ((sX9_ticksTo triedWith now told rs fs tri was 2 limit).2.2.2.2.2.2.2)))] H := hP
  have hX : xD A [h, nw, td, rr, ss, tr, wa] := xD.of hD rfl
  refine W.eq (g2 := F0 m 6 ls [.int ((sX9_ticksTo triedWith now told rs fs tri was 2 limit).1)]) rfl ?_
  exact x_wi ((sX9_ticksTo triedWith now told rs fs tri was 2 limit).1, (sX9_ticksTo triedWith now told rs fs tri was 2 limit).2.1, (sX9_ticksTo triedWith now told rs fs tri was 2 limit).2.2.1, (sX9_ticksTo triedWith now told rs fs tri was 2 limit).2.2.2.1, (sX9_ticksTo triedWith now told rs fs tri was 2 limit).2.2.2.2.1, (sX9_ticksTo triedWith now told rs fs tri was 2 limit).2.2.2.2.2.1, (sX9_ticksTo triedWith now told rs fs tri was 2 limit).2.2.2.2.2.2.1, (sX9_ticksTo triedWith now told rs fs tri was 2 limit).2.2.2.2.2.2.2) (by unfold sX9_ticksToBalance; try rfl) rfl hx hb hr hlk hS hP (hX.d rfl) [0, 1, 2, 3, 4, 5, 6] rfl rfl (Nat.le_of_ble_eq_true rfl) (Nat.le_of_ble_eq_true rfl) dX9_ticksToBalance_6
def sX9_ticksToStop (triedWith : Int32) (now : Nat → Int32) (told : Nat → Int32) (rs : Nat → Int32) (fs : Nat → Int32) (tri : Nat → Int32) (was : Nat → Int32) (limit : Int32) : Int32 × Int32 × (Nat → Int32) × Int32 × (Nat → Int32) × (Nat → Int32) × (Nat → Int32) × (Nat → Int32) :=
  ((sX9_ticksTo triedWith now told rs fs tri was 3 limit).1, (sX9_ticksTo triedWith now told rs fs tri was 3 limit).2.1, (sX9_ticksTo triedWith now told rs fs tri was 3 limit).2.2.1, (sX9_ticksTo triedWith now told rs fs tri was 3 limit).2.2.2.1, (sX9_ticksTo triedWith now told rs fs tri was 3 limit).2.2.2.2.1, (sX9_ticksTo triedWith now told rs fs tri was 3 limit).2.2.2.2.2.1, (sX9_ticksTo triedWith now told rs fs tri was 3 limit).2.2.2.2.2.2.1, (sX9_ticksTo triedWith now told rs fs tri was 3 limit).2.2.2.2.2.2.2)
theorem hdX9_ticksToStop : yX9_ticksToStop.cls = RX9 ∧ yX9_ticksToStop.cls ≠ "java/lang/invoke/MethodHandle" ∧ yX9_ticksToStop.cls ≠ "java/lang/invoke/VarHandle" ∧ (parseMethodDescriptor yX9_ticksToStop.desc).map (fun d => d.parameters.length) = some 1 := by decide +kernel
set_option maxHeartbeats 4000000 in
set_option maxRecDepth 100000 in
theorem kX9_ticksToStop (l : Launch) (E : XE) (h : Nat) (thrown : Int32) (nw : Nat) (td : Nat) (tx : Nat) (length : Int32) (textSize : Int32) (start : Int32) (next : Int32) (token : Int32) (value : Int32) (error : Int32) (errorAt : Int32) (seen : Int32) (triedWith : Int32) (rr : Nat) (ss : Nat) (tr : Nat) (wa : Nat) (undos : Int32) (ud : Nat) (sl : Nat) (sv : Nat) (now : Nat → Int32) (told : Nat → Int32) (rs : Nat → Int32) (fs : Nat → Int32) (tri : Nat → Int32) (was : Nat → Int32) (limit : Int32) (hw1 : ¬ 2 * told 15 = 0) (hw2 : ¬ 2 * told 16 = 0) (hc3 : told 17 ≤ 3) (hc0 : 0 ≤ told 17) (hT0 : 0 ≤ (now 0).toInt) (hT1 : (now 0).toInt ≤ 100000) (ha0 : 0 ≤ now 10) (ha1 : now 10 < 4096) (hb0 : 0 ≤ now 11) (hb1 : now 11 < 4096) : xW (T := Int32 × Int32 × (Nat → Int32) × Int32 × (Nat → Int32) × (Nat → Int32) × (Nat → Int32) × (Nat → Int32)) l yX9_ticksToStop wsX9_ticksToStop ({ frames := 10, cells := 0, slots := 0, locals := 227 }) E [(h, .inr (9, [.int thrown, .ref nw, .ref td, .ref tx, .int length, .int textSize, .int start, .int next, .int token, .int value, .int error, .int errorAt, .int seen, .int triedWith, .ref rr, .ref ss, .ref tr, .ref wa, .int undos, .ref ud, .ref sl, .ref sv])), (nw, .inl (E.2.1, 214, .inl now)), (td, .inl (E.2.1, 48, .inl told)), (rr, .inl (E.2.1, 49, .inl rs)), (ss, .inl (E.2.1, 49, .inl fs)), (tr, .inl (E.2.1, 14, .inl tri)), (wa, .inl (E.2.1, 214, .inl was))] [.ref h, .int limit] (fun q => some (.int q.1)) (fun q => [(h, .inr (9, [.int q.2.1, .ref nw, .ref td, .ref tx, .int length, .int textSize, .int start, .int next, .int token, .int value, .int error, .int errorAt, .int seen, .int q.2.2.2.1, .ref rr, .ref ss, .ref tr, .ref wa, .int undos, .ref ud, .ref sl, .ref sv])), (nw, .inl (E.2.1, 214, .inl q.2.2.1)), (td, .inl (E.2.1, 48, .inl told)), (rr, .inl (E.2.1, 49, .inl q.2.2.2.2.1)), (ss, .inl (E.2.1, 49, .inl q.2.2.2.2.2.1)), (tr, .inl (E.2.1, 14, .inl q.2.2.2.2.2.2.1)), (wa, .inl (E.2.1, 214, .inl q.2.2.2.2.2.2.2))]) (sX9_ticksToStop triedWith now told rs fs tri was limit) 0 0 := by
  refine xW.of (cc := cX9_ticksToStop) (maxL := 2) (ret := (some .int)) (by decide) rfl (Nat.le_of_ble_eq_true rfl) ?_
  intro p e s m args below meth c ls A hM hE hP hD hS hA hl
  obtain ⟨hx, hb, hr, hml, hts, hown, hlk, hnm⟩ := hM
  have hX : xD A [h, nw, td, rr, ss, tr, wa] := xD.of hD rfl
  have hl : lv_has ls 2 [(0, .ref h), (1, .int limit)] := hl
  refine lv_aload_n hx hb dX9_ticksToStop_0 rfl (lv_at hl 0 rfl) ?_
  refine lv_iconst (v := 3) hx hb dX9_ticksToStop_1 (by decide) ?_
  refine lv_iload_n hx hb dX9_ticksToStop_2 rfl (lv_at hl 1 rfl) ?_
  refine x_wV (wr := []) [.int 3, .int limit] (kX9_ticksTo l E h thrown nw td tx length textSize start next token value error errorAt seen triedWith rr ss tr wa undos ud sl sv now told rs fs tri was 3 limit hw1 hw2 hc3 hc0 hT0 hT1 ha0 ha1 hb0 hb1) ⟨hx, hb, hml, hown, hts⟩ (cwV 2 hts gX9_ticksToStop_X9_ticksTo rfl rfl rfl hdX9_ticksTo ⟨Nat.le_of_ble_eq_true rfl, Nat.le_of_ble_eq_true rfl⟩) hE hP (hX.d rfl) hS hA [0, 1, 2, 3, 4, 5, 6] [] rfl rfl rfl rfl (by decide) (ci := 9) (q0 := 0) rfl rfl rfl hl.1 rfl rfl (Nat.le_of_ble_eq_true rfl) dX9_ticksToStop_3 (Nat.le_of_ble_eq_true rfl) (Nat.le_of_ble_eq_true rfl) (fun q_1 H locs hq_1 hP hD hS => ?_)
  subst hq_1
  have hP : va_P E.1 vwCl [(h, .inr (9, [.int ((sX9_ticksTo triedWith now told rs fs tri was 3 limit).2.1), .ref nw, .ref td, .ref tx, .int length, .int textSize, .int start, .int next, .int token, .int value, .int error, .int errorAt, .int seen, .int ((sX9_ticksTo triedWith now told rs fs tri was 3 limit).2.2.2.1), .ref rr, .ref ss, .ref tr, .ref wa, .int undos, .ref ud, .ref sl, .ref sv])), (nw, .inl (E.2.1, 214, .inl ((sX9_ticksTo triedWith now told rs fs tri was 3 limit).2.2.1))), (td, .inl (E.2.1, 48, .inl told)), (rr, .inl (E.2.1, 49, .inl ((sX9_ticksTo triedWith now told rs fs tri was 3 limit).2.2.2.2.1))), (ss, .inl (E.2.1, 49, .inl ((sX9_ticksTo triedWith now told rs fs tri was 3 limit).2.2.2.2.2.1))), (tr, .inl (E.2.1, 14, .inl ((sX9_ticksTo triedWith now told rs fs tri was 3 limit).2.2.2.2.2.2.1))), (wa, .inl (E.2.1, 214, .inl ((sX9_ticksTo triedWith now told rs fs tri was 3 limit).2.2.2.2.2.2.2)))] H := hP
  have hX : xD A [h, nw, td, rr, ss, tr, wa] := xD.of hD rfl
  refine W.eq (g2 := F0 m 6 ls [.int ((sX9_ticksTo triedWith now told rs fs tri was 3 limit).1)]) rfl ?_
  exact x_wi ((sX9_ticksTo triedWith now told rs fs tri was 3 limit).1, (sX9_ticksTo triedWith now told rs fs tri was 3 limit).2.1, (sX9_ticksTo triedWith now told rs fs tri was 3 limit).2.2.1, (sX9_ticksTo triedWith now told rs fs tri was 3 limit).2.2.2.1, (sX9_ticksTo triedWith now told rs fs tri was 3 limit).2.2.2.2.1, (sX9_ticksTo triedWith now told rs fs tri was 3 limit).2.2.2.2.2.1, (sX9_ticksTo triedWith now told rs fs tri was 3 limit).2.2.2.2.2.2.1, (sX9_ticksTo triedWith now told rs fs tri was 3 limit).2.2.2.2.2.2.2) (by unfold sX9_ticksToStop; try rfl) rfl hx hb hr hlk hS hP (hX.d rfl) [0, 1, 2, 3, 4, 5, 6] rfl rfl (Nat.le_of_ble_eq_true rfl) (Nat.le_of_ble_eq_true rfl) dX9_ticksToStop_6
def sX9_farthest_l75 (told : Nat → Int32) (ticks : Int32) (kont_75 : Int32 → Int32 → ((Nat → Int32) × Int32 × (Nat → Int32) × (Nat → Int32) × (Nat → Int32)) → Int32 × Int32 × (Nat → Int32) × Int32 × (Nat → Int32) × (Nat → Int32) × (Nat → Int32) × (Nat → Int32)) : Nat → Int32 → Int32 → ((Nat → Int32) × Int32 × (Nat → Int32) × (Nat → Int32) × (Nat → Int32)) → Int32 × Int32 × (Nat → Int32) × Int32 × (Nat → Int32) × (Nat → Int32) × (Nat → Int32) × (Nat → Int32)
  | 0, k_75, most_75, g_75 => kont_75 k_75 most_75 g_75
  | kk_75 + 1, k_75, most_75, g_75 =>
    if ticks ≤ k_75 then
      kont_75 k_75 most_75 g_75
    else
      if 0 ≤ (((sX9_passes g_75.2.1 g_75.1 told g_75.2.2.1 g_75.2.2.2.1 g_75.2.2.2.2).1) 2) then
        if (((sX9_passes g_75.2.1 g_75.1 told g_75.2.2.1 g_75.2.2.2.1 g_75.2.2.2.2).1) 2) ≤ most_75 then
          sX9_farthest_l75 told ticks kont_75 kk_75 (k_75 + 1) most_75 (sX9_passes g_75.2.1 g_75.1 told g_75.2.2.1 g_75.2.2.2.1 g_75.2.2.2.2)
        else
          sX9_farthest_l75 told ticks kont_75 kk_75 (k_75 + 1) (((sX9_passes g_75.2.1 g_75.1 told g_75.2.2.1 g_75.2.2.2.1 g_75.2.2.2.2).1) 2) (sX9_passes g_75.2.1 g_75.1 told g_75.2.2.1 g_75.2.2.2.1 g_75.2.2.2.2)
      else
        if (-(((sX9_passes g_75.2.1 g_75.1 told g_75.2.2.1 g_75.2.2.2.1 g_75.2.2.2.2).1) 2)) ≤ most_75 then
          sX9_farthest_l75 told ticks kont_75 kk_75 (k_75 + 1) most_75 (sX9_passes g_75.2.1 g_75.1 told g_75.2.2.1 g_75.2.2.2.1 g_75.2.2.2.2)
        else
          sX9_farthest_l75 told ticks kont_75 kk_75 (k_75 + 1) (-(((sX9_passes g_75.2.1 g_75.1 told g_75.2.2.1 g_75.2.2.2.1 g_75.2.2.2.2).1) 2)) (sX9_passes g_75.2.1 g_75.1 told g_75.2.2.1 g_75.2.2.2.1 g_75.2.2.2.2)
theorem sX9_farthest_l75_s (told : Nat → Int32) (ticks : Int32) (kont_75 : Int32 → Int32 → ((Nat → Int32) × Int32 × (Nat → Int32) × (Nat → Int32) × (Nat → Int32)) → Int32 × Int32 × (Nat → Int32) × Int32 × (Nat → Int32) × (Nat → Int32) × (Nat → Int32) × (Nat → Int32)) (kk_75 : Nat) (k_75 : Int32) (most_75 : Int32) (g_75 : (Nat → Int32) × Int32 × (Nat → Int32) × (Nat → Int32) × (Nat → Int32)) : sX9_farthest_l75 told ticks kont_75 (kk_75 + 1) k_75 most_75 g_75 =
    if ticks ≤ k_75 then
      kont_75 k_75 most_75 g_75
    else
      if 0 ≤ (((sX9_passes g_75.2.1 g_75.1 told g_75.2.2.1 g_75.2.2.2.1 g_75.2.2.2.2).1) 2) then
        if (((sX9_passes g_75.2.1 g_75.1 told g_75.2.2.1 g_75.2.2.2.1 g_75.2.2.2.2).1) 2) ≤ most_75 then
          sX9_farthest_l75 told ticks kont_75 kk_75 (k_75 + 1) most_75 (sX9_passes g_75.2.1 g_75.1 told g_75.2.2.1 g_75.2.2.2.1 g_75.2.2.2.2)
        else
          sX9_farthest_l75 told ticks kont_75 kk_75 (k_75 + 1) (((sX9_passes g_75.2.1 g_75.1 told g_75.2.2.1 g_75.2.2.2.1 g_75.2.2.2.2).1) 2) (sX9_passes g_75.2.1 g_75.1 told g_75.2.2.1 g_75.2.2.2.1 g_75.2.2.2.2)
      else
        if (-(((sX9_passes g_75.2.1 g_75.1 told g_75.2.2.1 g_75.2.2.2.1 g_75.2.2.2.2).1) 2)) ≤ most_75 then
          sX9_farthest_l75 told ticks kont_75 kk_75 (k_75 + 1) most_75 (sX9_passes g_75.2.1 g_75.1 told g_75.2.2.1 g_75.2.2.2.1 g_75.2.2.2.2)
        else
          sX9_farthest_l75 told ticks kont_75 kk_75 (k_75 + 1) (-(((sX9_passes g_75.2.1 g_75.1 told g_75.2.2.1 g_75.2.2.2.1 g_75.2.2.2.2).1) 2)) (sX9_passes g_75.2.1 g_75.1 told g_75.2.2.1 g_75.2.2.2.1 g_75.2.2.2.2) := rfl
def sX9_farthest_q_4 (triedWith : Int32) (now : Nat → Int32) (told : Nat → Int32) (rs : Nat → Int32) (fs : Nat → Int32) (tri : Nat → Int32) (was : Nat → Int32) (ticks : Int32) (q_4 : (Nat → Int32)) : Int32 × Int32 × (Nat → Int32) × Int32 × (Nat → Int32) × (Nat → Int32) × (Nat → Int32) × (Nat → Int32) :=
  if 0 ≤ (now 2) then
    sX9_farthest_l75 told ticks (fun (k_75 : Int32) (most_75 : Int32) (g_75 : (Nat → Int32) × Int32 × (Nat → Int32) × (Nat → Int32) × (Nat → Int32)) => (most_75, 0, (sX9_copies q_4 g_75.1 0 0 214), g_75.2.1, g_75.2.2.1, g_75.2.2.2.1, g_75.2.2.2.2, q_4)) (xMu ticks 0 + 1) 0 (now 2) (now, triedWith, rs, fs, tri)
  else
    sX9_farthest_l75 told ticks (fun (k_75 : Int32) (most_75 : Int32) (g_75 : (Nat → Int32) × Int32 × (Nat → Int32) × (Nat → Int32) × (Nat → Int32)) => (most_75, 0, (sX9_copies q_4 g_75.1 0 0 214), g_75.2.1, g_75.2.2.1, g_75.2.2.2.1, g_75.2.2.2.2, q_4)) (xMu ticks 0 + 1) 0 (-(now 2)) (now, triedWith, rs, fs, tri)
def sX9_farthest (triedWith : Int32) (now : Nat → Int32) (told : Nat → Int32) (rs : Nat → Int32) (fs : Nat → Int32) (tri : Nat → Int32) (was : Nat → Int32) (ticks : Int32) : Int32 × Int32 × (Nat → Int32) × Int32 × (Nat → Int32) × (Nat → Int32) × (Nat → Int32) × (Nat → Int32) :=
  if (sX9_within ticks 0 1000) = 0 then
    (0, 1, now, triedWith, rs, fs, tri, was)
  else
    sX9_farthest_q_4 triedWith now told rs fs tri was ticks (sX9_copies now was 0 0 214)
theorem hdX9_farthest : yX9_farthest.cls = RX9 ∧ yX9_farthest.cls ≠ "java/lang/invoke/MethodHandle" ∧ yX9_farthest.cls ≠ "java/lang/invoke/VarHandle" ∧ (parseMethodDescriptor yX9_farthest.desc).map (fun d => d.parameters.length) = some 1 := by decide +kernel
set_option maxHeartbeats 4000000 in
set_option maxRecDepth 100000 in
theorem kX9_farthest (l : Launch) (E : XE) (h : Nat) (thrown : Int32) (nw : Nat) (td : Nat) (tx : Nat) (length : Int32) (textSize : Int32) (start : Int32) (next : Int32) (token : Int32) (value : Int32) (error : Int32) (errorAt : Int32) (seen : Int32) (triedWith : Int32) (rr : Nat) (ss : Nat) (tr : Nat) (wa : Nat) (undos : Int32) (ud : Nat) (sl : Nat) (sv : Nat) (now : Nat → Int32) (told : Nat → Int32) (rs : Nat → Int32) (fs : Nat → Int32) (tri : Nat → Int32) (was : Nat → Int32) (ticks : Int32) (hw1 : ¬ 2 * told 15 = 0) (hw2 : ¬ 2 * told 16 = 0) (hc3 : told 17 ≤ 3) (hc0 : 0 ≤ told 17) (hT0 : 0 ≤ (now 0).toInt) (hT1 : (now 0).toInt ≤ 100000) (ha0 : 0 ≤ now 10) (ha1 : now 10 < 4096) (hb0 : 0 ≤ now 11) (hb1 : now 11 < 4096) : xW (T := Int32 × Int32 × (Nat → Int32) × Int32 × (Nat → Int32) × (Nat → Int32) × (Nat → Int32) × (Nat → Int32)) l yX9_farthest wsX9_farthest ({ frames := 9, cells := 0, slots := 0, locals := 203 }) E [(h, .inr (9, [.int thrown, .ref nw, .ref td, .ref tx, .int length, .int textSize, .int start, .int next, .int token, .int value, .int error, .int errorAt, .int seen, .int triedWith, .ref rr, .ref ss, .ref tr, .ref wa, .int undos, .ref ud, .ref sl, .ref sv])), (nw, .inl (E.2.1, 214, .inl now)), (td, .inl (E.2.1, 48, .inl told)), (rr, .inl (E.2.1, 49, .inl rs)), (ss, .inl (E.2.1, 49, .inl fs)), (tr, .inl (E.2.1, 14, .inl tri)), (wa, .inl (E.2.1, 214, .inl was))] [.ref h, .int ticks] (fun q => some (.int q.1)) (fun q => [(h, .inr (9, [.int q.2.1, .ref nw, .ref td, .ref tx, .int length, .int textSize, .int start, .int next, .int token, .int value, .int error, .int errorAt, .int seen, .int q.2.2.2.1, .ref rr, .ref ss, .ref tr, .ref wa, .int undos, .ref ud, .ref sl, .ref sv])), (nw, .inl (E.2.1, 214, .inl q.2.2.1)), (td, .inl (E.2.1, 48, .inl told)), (rr, .inl (E.2.1, 49, .inl q.2.2.2.2.1)), (ss, .inl (E.2.1, 49, .inl q.2.2.2.2.2.1)), (tr, .inl (E.2.1, 14, .inl q.2.2.2.2.2.2.1)), (wa, .inl (E.2.1, 214, .inl q.2.2.2.2.2.2.2))]) (sX9_farthest triedWith now told rs fs tri was ticks) 0 0 := by
  refine xW.of (cc := cX9_farthest) (maxL := 5) (ret := (some .int)) (by decide) rfl (Nat.le_of_ble_eq_true rfl) ?_
  intro p e s m args below meth c ls A hM hE hP hD hS hA hl
  obtain ⟨hx, hb, hr, hml, hts, hown, hlk, hnm⟩ := hM
  have g_1 : (Cond.fieldLink RX9 55 "RailPendulumModel" "thrown" "I").before args s = true := hts (Cond.fieldLink RX9 55 "RailPendulumModel" "thrown" "I") (by decide +kernel)
  have g_2 : ∀ w ∈ wsX90, w ∈ wsX9_farthest := by decide +kernel
  have g_3 : (Cond.fieldLink RX9 7 "RailPendulumModel" "now" "[I").before args s = true := hts (Cond.fieldLink RX9 7 "RailPendulumModel" "now" "[I") (by decide +kernel)
  have g_4 : (Cond.fieldLink RX9 33 "RailPendulumModel" "was" "[I").before args s = true := hts (Cond.fieldLink RX9 33 "RailPendulumModel" "was" "[I") (by decide +kernel)
  have hX : xD A [h, nw, td, rr, ss, tr, wa] := xD.of hD rfl
  have hl : lv_has ls 5 [(0, .ref h), (1, .int ticks)] := hl
  refine lv_aload_n hx hb dX9_farthest_0 rfl (lv_at hl 0 rfl) ?_
  refine lv_iconst (v := 0) hx hb dX9_farthest_1 (by decide) ?_
  refine va_put (D := E.1) (ci := 9) (v := .int 0) (ty := .int) (C := RX9) (T := TX9) (N := 22) hx hb hts g_2 tyX9 tyX9_ok nmX9 hown hE.1 hP (hX.d rfl) hS 0 rfl rfl 0 (by decide) g_1 (fun _ h9 => h9) rfl (by decide +kernel) rfl rfl (Nat.le_of_ble_eq_true rfl) dX9_farthest_2 (fun H locs hP _ hS => ?_)
  have hP : va_P E.1 vwCl [(h, .inr (9, [.int 0, .ref nw, .ref td, .ref tx, .int length, .int textSize, .int start, .int next, .int token, .int value, .int error, .int errorAt, .int seen, .int triedWith, .ref rr, .ref ss, .ref tr, .ref wa, .int undos, .ref ud, .ref sl, .ref sv])), (nw, .inl (E.2.1, 214, .inl now)), (td, .inl (E.2.1, 48, .inl told)), (rr, .inl (E.2.1, 49, .inl rs)), (ss, .inl (E.2.1, 49, .inl fs)), (tr, .inl (E.2.1, 14, .inl tri)), (wa, .inl (E.2.1, 214, .inl was))] H := hP
  refine lv_aload_n hx hb dX9_farthest_5 rfl (lv_at hl 0 rfl) ?_
  refine lv_iload_n hx hb dX9_farthest_6 rfl (lv_at hl 1 rfl) ?_
  refine lv_iconst (v := 0) hx hb dX9_farthest_7 (by decide) ?_
  refine lv_sipush (v := 1000) hx hb dX9_farthest_8 (by decide) ?_
  refine x_rS [.int ticks, .int 0, .int 1000] (kX9_within l E ticks 0 1000) ⟨hx, hb, hml, hown, hts⟩ (va_cwS 3 hts gX9_farthest_X9_within rfl rfl rfl hdX9_within.2 ⟨Nat.le_of_ble_eq_true rfl, Nat.le_of_ble_eq_true rfl⟩) hE hP (hX.d rfl) [] rfl rfl hl.1 rfl rfl (Nat.le_of_ble_eq_true rfl) dX9_farthest_11 (Nat.le_of_ble_eq_true rfl) (Nat.le_of_ble_eq_true rfl) ?_
  refine lv_if_ne (tgt := 21) hx hb dX9_farthest_14 (by decide) (fun c_1 => ?_) (fun c_1 => ?_)
  · refine lv_iconst (v := 0) hx hb dX9_farthest_21 (by decide) ?_
    refine lv_iconst (v := 1) hx hb dX9_farthest_22 (by decide) ?_
    refine x_wV (wr := [(nw, .inl (E.2.1, 214, .inl now)), (td, .inl (E.2.1, 48, .inl told)), (rr, .inl (E.2.1, 49, .inl rs)), (ss, .inl (E.2.1, 49, .inl fs)), (tr, .inl (E.2.1, 14, .inl tri)), (wa, .inl (E.2.1, 214, .inl was))]) [.int 0, .int 1] (kX9_throwsIf_0 l E h nw td tx length textSize start next token value error errorAt seen triedWith rr ss tr wa undos ud sl sv 1) ⟨hx, hb, hml, hown, hts⟩ (cwV 2 hts gX9_farthest_X9_throwsIf rfl rfl rfl hdX9_throwsIf ⟨Nat.le_of_ble_eq_true rfl, Nat.le_of_ble_eq_true rfl⟩) hE hP (hX.d rfl) hS hA [0] [1, 2, 3, 4, 5, 6] rfl rfl rfl rfl (by decide) (ci := 9) (q0 := 0) rfl rfl rfl hl.1 rfl rfl (Nat.le_of_ble_eq_true rfl) dX9_farthest_23 (Nat.le_of_ble_eq_true rfl) (Nat.le_of_ble_eq_true rfl) (fun q_2 H locs hq_2 hP hD hS => ?_)
    have hP : va_P E.1 vwCl [(nw, .inl (E.2.1, 214, .inl now)), (td, .inl (E.2.1, 48, .inl told)), (rr, .inl (E.2.1, 49, .inl rs)), (ss, .inl (E.2.1, 49, .inl fs)), (tr, .inl (E.2.1, 14, .inl tri)), (wa, .inl (E.2.1, 214, .inl was)), (h, .inr (9, [.int 0, .ref nw, .ref td, .ref tx, .int length, .int textSize, .int start, .int next, .int token, .int value, .int error, .int errorAt, .int seen, .int triedWith, .ref rr, .ref ss, .ref tr, .ref wa, .int undos, .ref ud, .ref sl, .ref sv]))] H := hP
    have hX : xD A [nw, td, rr, ss, tr, wa, h] := xD.of hD rfl
    refine W.eq (g2 := F0 m 26 ls [.int 0]) rfl ?_
    refine lv_if_eq (tgt := 31) hx hb dX9_farthest_26 (by decide) (fun c_3 => ?_) (fun c_3 => absurd (by decide) c_3)
    refine lv_aload_n hx hb dX9_farthest_31 rfl (lv_at hl 0 rfl) ?_
    refine va_get (D := E.1) (ci := 9) (v := .ref nw) (C := RX9) (T := TX9) (N := 22) hx hb hts g_2 hown hE.1 hP 6 rfl rfl 1 (by decide) g_3 (fun _ h9 => h9) rfl dX9_farthest_32 ?_
    refine lv_iconst (v := 0) hx hb dX9_farthest_35 (by decide) ?_
    refine lv_aload_n hx hb dX9_farthest_36 rfl (lv_at hl 0 rfl) ?_
    refine va_get (D := E.1) (ci := 9) (v := .ref wa) (C := RX9) (T := TX9) (N := 22) hx hb hts g_2 hown hE.1 hP 6 rfl rfl 17 (by decide) g_4 (fun _ h9 => h9) rfl dX9_farthest_37 ?_
    refine lv_iconst (v := 0) hx hb dX9_farthest_40 (by decide) ?_
    refine lv_sipush (v := 214) hx hb dX9_farthest_41 (by decide) ?_
    refine x_wS (wr := [(td, .inl (E.2.1, 48, .inl told)), (rr, .inl (E.2.1, 49, .inl rs)), (ss, .inl (E.2.1, 49, .inl fs)), (tr, .inl (E.2.1, 14, .inl tri)), (h, .inr (9, [.int 0, .ref nw, .ref td, .ref tx, .int length, .int textSize, .int start, .int next, .int token, .int value, .int error, .int errorAt, .int seen, .int triedWith, .ref rr, .ref ss, .ref tr, .ref wa, .int undos, .ref ud, .ref sl, .ref sv]))]) [.ref nw, .int 0, .ref wa, .int 0, .int 214] (kX9_copies l E nw 214 now wa 214 was 0 0 214 (by decide) (by decide) (by decide) (by decide) (by decide) (by decide)) ⟨hx, hb, hml, hown, hts⟩ (va_cwS 5 hts gX9_farthest_X9_copies rfl rfl rfl hdX9_copies.2 ⟨Nat.le_of_ble_eq_true rfl, Nat.le_of_ble_eq_true rfl⟩) hE hP (hX.d rfl) hS hA [0, 5] [1, 2, 3, 4, 6] rfl rfl rfl rfl (by decide) hl.1 rfl rfl (Nat.le_of_ble_eq_true rfl) dX9_farthest_44 (Nat.le_of_ble_eq_true rfl) (Nat.le_of_ble_eq_true rfl) (fun q_4 H locs hq_4 hP hD hS => ?_)
    have hP : va_P E.1 vwCl [(td, .inl (E.2.1, 48, .inl told)), (rr, .inl (E.2.1, 49, .inl rs)), (ss, .inl (E.2.1, 49, .inl fs)), (tr, .inl (E.2.1, 14, .inl tri)), (h, .inr (9, [.int 0, .ref nw, .ref td, .ref tx, .int length, .int textSize, .int start, .int next, .int token, .int value, .int error, .int errorAt, .int seen, .int triedWith, .ref rr, .ref ss, .ref tr, .ref wa, .int undos, .ref ud, .ref sl, .ref sv])), (nw, .inl (E.2.1, 214, .inl now)), (wa, .inl (E.2.1, 214, .inl q_4))] H := hP
    have hX : xD A [td, rr, ss, tr, h, nw, wa] := xD.of hD rfl
    refine W.eq (g2 := F0 m 47 ls []) rfl ?_
    refine lv_aload_n hx hb dX9_farthest_47 rfl (lv_at hl 0 rfl) ?_
    refine va_get (D := E.1) (ci := 9) (v := .ref nw) (C := RX9) (T := TX9) (N := 22) hx hb hts g_2 hown hE.1 hP 4 rfl rfl 1 (by decide) g_3 (fun _ h9 => h9) rfl dX9_farthest_48 ?_
    refine lv_iconst (v := 2) hx hb dX9_farthest_51 (by decide) ?_
    refine x_iald hx hb hE.1 hP 5 0 rfl rfl 2 (by decide) (by unfold vp_in; decide) dX9_farthest_52 ?_
    refine lv_if_ge (tgt := 66) hx hb dX9_farthest_53 (by decide) (fun c_5 => ?_) (fun c_5 => ?_)
    · refine lv_aload_n hx hb dX9_farthest_66 rfl (lv_at hl 0 rfl) ?_
      refine va_get (D := E.1) (ci := 9) (v := .ref nw) (C := RX9) (T := TX9) (N := 22) hx hb hts g_2 hown hE.1 hP 4 rfl rfl 1 (by decide) g_3 (fun _ h9 => h9) rfl dX9_farthest_67 ?_
      refine lv_iconst (v := 2) hx hb dX9_farthest_70 (by decide) ?_
      refine x_iald hx hb hE.1 hP 5 0 rfl rfl 2 (by decide) (by unfold vp_in; decide) dX9_farthest_71 ?_
      refine lv_istore_n (lv' := [(2, .int (now 2)), (0, .ref h), (1, .int ticks)]) hx hb dX9_farthest_72 rfl hl (by decide) rfl (fun ls hl => ?_)
      refine lv_iconst (v := 0) hx hb dX9_farthest_73 (by decide) ?_
      refine lv_istore_n (lv' := [(3, .int 0), (2, .int (now 2)), (0, .ref h), (1, .int ticks)]) hx hb dX9_farthest_74 rfl hl (by decide) rfl (fun ls hl => ?_)
      have ex_75 : ∀ (k_75 : Int32) (most_75 : Int32) (g_75 : (Nat → Int32) × Int32 × (Nat → Int32) × (Nat → Int32) × (Nat → Int32)), (¬ k_75 < 0) → ((g_75.1 0).toInt = (now 0).toInt + k_75.toInt) → (0 ≤ g_75.1 10) → (g_75.1 10 < 4096) → (0 ≤ g_75.1 11) → (g_75.1 11 < 4096) → ∀ (H : Heap) (locs : List Loc), va_P E.1 vwCl [(td, .inl (E.2.1, 48, .inl told)), (rr, .inl (E.2.1, 49, .inl g_75.2.2.1)), (ss, .inl (E.2.1, 49, .inl g_75.2.2.2.1)), (tr, .inl (E.2.1, 14, .inl g_75.2.2.2.2)), (h, .inr (9, [.int 0, .ref nw, .ref td, .ref tx, .int length, .int textSize, .int start, .int next, .int token, .int value, .int error, .int errorAt, .int seen, .int g_75.2.1, .ref rr, .ref ss, .ref tr, .ref wa, .int undos, .ref ud, .ref sl, .ref sv])), (nw, .inl (E.2.1, 214, .inl g_75.1)), (wa, .inl (E.2.1, 214, .inl q_4))] H → va_S A s.heap H locs → ∀ (ls : Array Slot), lv_has ls 5 [(0, .ref h), (1, .int ticks), (2, .int most_75), (3, .int k_75)] → (sX9_farthest triedWith now told rs fs tri was ticks) = ((most_75, 0, (sX9_copies q_4 g_75.1 0 0 214), g_75.2.1, g_75.2.2.1, g_75.2.2.2.1, g_75.2.2.2.2, q_4)) → W p l e ({ frames := 9, cells := 0, slots := 0, locals := 203 }) s m args below meth c H locs 0 0 (MQ below (xO (T := Int32 × Int32 × (Nat → Int32) × Int32 × (Nat → Int32) × (Nat → Int32) × (Nat → Int32) × (Nat → Int32)) E A (fun q => some (.int q.1)) (fun q => [(h, .inr (9, [.int q.2.1, .ref nw, .ref td, .ref tx, .int length, .int textSize, .int start, .int next, .int token, .int value, .int error, .int errorAt, .int seen, .int q.2.2.2.1, .ref rr, .ref ss, .ref tr, .ref wa, .int undos, .ref ud, .ref sl, .ref sv])), (nw, .inl (E.2.1, 214, .inl q.2.2.1)), (td, .inl (E.2.1, 48, .inl told)), (rr, .inl (E.2.1, 49, .inl q.2.2.2.2.1)), (ss, .inl (E.2.1, 49, .inl q.2.2.2.2.2.1)), (tr, .inl (E.2.1, 14, .inl q.2.2.2.2.2.2.1)), (wa, .inl (E.2.1, 214, .inl q.2.2.2.2.2.2.2))]) (sX9_farthest triedWith now told rs fs tri was ticks)) args s 0 0 A) (F0 m 130 ls []) := by
        intro k_75 most_75 g_75 hi0_75 htk_75 ha0_75 ha1_75 hb0_75 hb1_75 H locs hP hS ls hl hx_75
        refine lv_aload_n hx hb dX9_farthest_130 rfl (lv_at hl 0 rfl) ?_
        refine va_get (D := E.1) (ci := 9) (v := .ref wa) (C := RX9) (T := TX9) (N := 22) hx hb hts g_2 hown hE.1 hP 4 rfl rfl 17 (by decide) g_4 (fun _ h9 => h9) rfl dX9_farthest_131 ?_
        refine lv_iconst (v := 0) hx hb dX9_farthest_134 (by decide) ?_
        refine lv_aload_n hx hb dX9_farthest_135 rfl (lv_at hl 0 rfl) ?_
        refine va_get (D := E.1) (ci := 9) (v := .ref nw) (C := RX9) (T := TX9) (N := 22) hx hb hts g_2 hown hE.1 hP 4 rfl rfl 1 (by decide) g_3 (fun _ h9 => h9) rfl dX9_farthest_136 ?_
        refine lv_iconst (v := 0) hx hb dX9_farthest_139 (by decide) ?_
        refine lv_sipush (v := 214) hx hb dX9_farthest_140 (by decide) ?_
        refine x_wS (wr := [(td, .inl (E.2.1, 48, .inl told)), (rr, .inl (E.2.1, 49, .inl g_75.2.2.1)), (ss, .inl (E.2.1, 49, .inl g_75.2.2.2.1)), (tr, .inl (E.2.1, 14, .inl g_75.2.2.2.2)), (h, .inr (9, [.int 0, .ref nw, .ref td, .ref tx, .int length, .int textSize, .int start, .int next, .int token, .int value, .int error, .int errorAt, .int seen, .int g_75.2.1, .ref rr, .ref ss, .ref tr, .ref wa, .int undos, .ref ud, .ref sl, .ref sv]))]) [.ref wa, .int 0, .ref nw, .int 0, .int 214] (kX9_copies l E wa 214 q_4 nw 214 g_75.1 0 0 214 (by decide) (by decide) (by decide) (by decide) (by decide) (by decide)) ⟨hx, hb, hml, hown, hts⟩ (va_cwS 5 hts gX9_farthest_X9_copies rfl rfl rfl hdX9_copies.2 ⟨Nat.le_of_ble_eq_true rfl, Nat.le_of_ble_eq_true rfl⟩) hE hP (hX.d rfl) hS hA [6, 5] [0, 1, 2, 3, 4] rfl rfl rfl rfl (by decide) hl.1 rfl rfl (Nat.le_of_ble_eq_true rfl) dX9_farthest_143 (Nat.le_of_ble_eq_true rfl) (Nat.le_of_ble_eq_true rfl) (fun q_6 H locs hq_6 hP hD hS => ?_)
        subst hq_6
        have hP : va_P E.1 vwCl [(td, .inl (E.2.1, 48, .inl told)), (rr, .inl (E.2.1, 49, .inl g_75.2.2.1)), (ss, .inl (E.2.1, 49, .inl g_75.2.2.2.1)), (tr, .inl (E.2.1, 14, .inl g_75.2.2.2.2)), (h, .inr (9, [.int 0, .ref nw, .ref td, .ref tx, .int length, .int textSize, .int start, .int next, .int token, .int value, .int error, .int errorAt, .int seen, .int g_75.2.1, .ref rr, .ref ss, .ref tr, .ref wa, .int undos, .ref ud, .ref sl, .ref sv])), (wa, .inl (E.2.1, 214, .inl q_4)), (nw, .inl (E.2.1, 214, .inl (sX9_copies q_4 g_75.1 0 0 214)))] H := hP
        have hX : xD A [td, rr, ss, tr, h, wa, nw] := xD.of hD rfl
        refine W.eq (g2 := F0 m 146 ls []) rfl ?_
        refine lv_iload_n hx hb dX9_farthest_146 rfl (lv_at hl 2 rfl) ?_
        exact x_wi (most_75, 0, (sX9_copies q_4 g_75.1 0 0 214), g_75.2.1, g_75.2.2.1, g_75.2.2.2.1, g_75.2.2.2.2, q_4) (by rw [hx_75]; try rfl) rfl hx hb hr hlk hS hP (hX.d rfl) [4, 6, 0, 1, 2, 3, 5] rfl rfl (Nat.le_of_ble_eq_true rfl) (Nat.le_of_ble_eq_true rfl) dX9_farthest_147
      have lp_75 : ∀ (kk_75 : Nat), ∀ (k_75 : Int32) (most_75 : Int32) (g_75 : (Nat → Int32) × Int32 × (Nat → Int32) × (Nat → Int32) × (Nat → Int32)), (¬ k_75 < 0) → ((g_75.1 0).toInt = (now 0).toInt + k_75.toInt) → (0 ≤ g_75.1 10) → (g_75.1 10 < 4096) → (0 ≤ g_75.1 11) → (g_75.1 11 < 4096) → (xMu ticks k_75) < kk_75 → ∀ (H : Heap) (locs : List Loc), va_P E.1 vwCl [(td, .inl (E.2.1, 48, .inl told)), (rr, .inl (E.2.1, 49, .inl g_75.2.2.1)), (ss, .inl (E.2.1, 49, .inl g_75.2.2.2.1)), (tr, .inl (E.2.1, 14, .inl g_75.2.2.2.2)), (h, .inr (9, [.int 0, .ref nw, .ref td, .ref tx, .int length, .int textSize, .int start, .int next, .int token, .int value, .int error, .int errorAt, .int seen, .int g_75.2.1, .ref rr, .ref ss, .ref tr, .ref wa, .int undos, .ref ud, .ref sl, .ref sv])), (nw, .inl (E.2.1, 214, .inl g_75.1)), (wa, .inl (E.2.1, 214, .inl q_4))] H → va_S A s.heap H locs → ∀ (ls : Array Slot), lv_has ls 5 [(0, .ref h), (1, .int ticks), (2, .int most_75), (3, .int k_75)] → (sX9_farthest triedWith now told rs fs tri was ticks) = sX9_farthest_l75 told ticks (fun (k_75 : Int32) (most_75 : Int32) (g_75 : (Nat → Int32) × Int32 × (Nat → Int32) × (Nat → Int32) × (Nat → Int32)) => (most_75, 0, (sX9_copies q_4 g_75.1 0 0 214), g_75.2.1, g_75.2.2.1, g_75.2.2.2.1, g_75.2.2.2.2, q_4)) kk_75 k_75 most_75 g_75 → W p l e ({ frames := 9, cells := 0, slots := 0, locals := 203 }) s m args below meth c H locs 0 0 (MQ below (xO (T := Int32 × Int32 × (Nat → Int32) × Int32 × (Nat → Int32) × (Nat → Int32) × (Nat → Int32) × (Nat → Int32)) E A (fun q => some (.int q.1)) (fun q => [(h, .inr (9, [.int q.2.1, .ref nw, .ref td, .ref tx, .int length, .int textSize, .int start, .int next, .int token, .int value, .int error, .int errorAt, .int seen, .int q.2.2.2.1, .ref rr, .ref ss, .ref tr, .ref wa, .int undos, .ref ud, .ref sl, .ref sv])), (nw, .inl (E.2.1, 214, .inl q.2.2.1)), (td, .inl (E.2.1, 48, .inl told)), (rr, .inl (E.2.1, 49, .inl q.2.2.2.2.1)), (ss, .inl (E.2.1, 49, .inl q.2.2.2.2.2.1)), (tr, .inl (E.2.1, 14, .inl q.2.2.2.2.2.2.1)), (wa, .inl (E.2.1, 214, .inl q.2.2.2.2.2.2.2))]) (sX9_farthest triedWith now told rs fs tri was ticks)) args s 0 0 A) (F0 m 75 ls []) := by
        intro kk_75
        induction kk_75 with
        | zero =>
          intro k_75 most_75 g_75 hi0_75 htk_75 ha0_75 ha1_75 hb0_75 hb1_75 hmu
          exact absurd hmu (Nat.not_lt_zero _)
        | succ kk_75 ih_75 =>
          intro k_75 most_75 g_75 hi0_75 htk_75 ha0_75 ha1_75 hb0_75 hb1_75 hmu H locs hP hS ls hl hlq_75
          refine lv_iload_n hx hb dX9_farthest_75 rfl (lv_at hl 3 rfl) ?_
          refine lv_iload_n hx hb dX9_farthest_76 rfl (lv_at hl 1 rfl) ?_
          refine lv_icmp_ge (tgt := 130) hx hb dX9_farthest_77 (by decide) (fun c_7 => ?_) (fun c_7 => ?_)
          · exact ex_75 k_75 most_75 g_75 hi0_75 htk_75 ha0_75 ha1_75 hb0_75 hb1_75 _ _ hP hS ls (lv_sub hl [0, 1, 2, 3] rfl) (by rw [hlq_75]; rw [sX9_farthest_l75_s]; rw [if_pos c_7]; try rfl)
          · refine lv_aload_n hx hb dX9_farthest_80 rfl (lv_at hl 0 rfl) ?_
            refine x_wV (wr := [(wa, .inl (E.2.1, 214, .inl q_4))]) [] (kX9_passes l E h 0 nw td tx length textSize start next token value error errorAt seen g_75.2.1 rr ss tr wa undos ud sl sv g_75.1 told g_75.2.2.1 g_75.2.2.2.1 g_75.2.2.2.2 hw1 hw2 hc3 hc0 (x_th htk_75 hi0_75 c_7 (x_within c_1).2 hT0 hT1) ha0_75 ha1_75 hb0_75 hb1_75) ⟨hx, hb, hml, hown, hts⟩ (cwV 0 hts gX9_farthest_X9_passes rfl rfl rfl hdX9_passes ⟨Nat.le_of_ble_eq_true rfl, Nat.le_of_ble_eq_true rfl⟩) hE hP (hX.d rfl) hS hA [4, 5, 0, 1, 2, 3] [6] rfl rfl rfl rfl (by decide) (ci := 9) (q0 := 4) rfl rfl rfl hl.1 rfl rfl (Nat.le_of_ble_eq_true rfl) dX9_farthest_81 (Nat.le_of_ble_eq_true rfl) (Nat.le_of_ble_eq_true rfl) (fun q_8 H locs hq_8 hP hD hS => ?_)
            subst hq_8
            have hP : va_P E.1 vwCl [(wa, .inl (E.2.1, 214, .inl q_4)), (h, .inr (9, [.int 0, .ref nw, .ref td, .ref tx, .int length, .int textSize, .int start, .int next, .int token, .int value, .int error, .int errorAt, .int seen, .int ((sX9_passes g_75.2.1 g_75.1 told g_75.2.2.1 g_75.2.2.2.1 g_75.2.2.2.2).2.1), .ref rr, .ref ss, .ref tr, .ref wa, .int undos, .ref ud, .ref sl, .ref sv])), (nw, .inl (E.2.1, 214, .inl ((sX9_passes g_75.2.1 g_75.1 told g_75.2.2.1 g_75.2.2.2.1 g_75.2.2.2.2).1))), (td, .inl (E.2.1, 48, .inl told)), (rr, .inl (E.2.1, 49, .inl ((sX9_passes g_75.2.1 g_75.1 told g_75.2.2.1 g_75.2.2.2.1 g_75.2.2.2.2).2.2.1))), (ss, .inl (E.2.1, 49, .inl ((sX9_passes g_75.2.1 g_75.1 told g_75.2.2.1 g_75.2.2.2.1 g_75.2.2.2.2).2.2.2.1))), (tr, .inl (E.2.1, 14, .inl ((sX9_passes g_75.2.1 g_75.1 told g_75.2.2.1 g_75.2.2.2.1 g_75.2.2.2.2).2.2.2.2)))] H := hP
            have hX : xD A [wa, h, nw, td, rr, ss, tr] := xD.of hD rfl
            refine W.eq (g2 := F0 m 84 ls []) rfl ?_
            refine lv_aload_n hx hb dX9_farthest_84 rfl (lv_at hl 0 rfl) ?_
            refine va_get (D := E.1) (ci := 9) (v := .ref nw) (C := RX9) (T := TX9) (N := 22) hx hb hts g_2 hown hE.1 hP 1 rfl rfl 1 (by decide) g_3 (fun _ h9 => h9) rfl dX9_farthest_85 ?_
            refine lv_iconst (v := 2) hx hb dX9_farthest_88 (by decide) ?_
            refine x_iald hx hb hE.1 hP 2 0 rfl rfl 2 (by decide) (by unfold vp_in; decide) dX9_farthest_89 ?_
            refine lv_if_ge (tgt := 103) hx hb dX9_farthest_90 (by decide) (fun c_9 => ?_) (fun c_9 => ?_)
            · refine lv_aload_n hx hb dX9_farthest_103 rfl (lv_at hl 0 rfl) ?_
              refine va_get (D := E.1) (ci := 9) (v := .ref nw) (C := RX9) (T := TX9) (N := 22) hx hb hts g_2 hown hE.1 hP 1 rfl rfl 1 (by decide) g_3 (fun _ h9 => h9) rfl dX9_farthest_104 ?_
              refine lv_iconst (v := 2) hx hb dX9_farthest_107 (by decide) ?_
              refine x_iald hx hb hE.1 hP 2 0 rfl rfl 2 (by decide) (by unfold vp_in; decide) dX9_farthest_108 ?_
              refine lv_istore (lv' := [(4, .int (((sX9_passes g_75.2.1 g_75.1 told g_75.2.2.1 g_75.2.2.2.1 g_75.2.2.2.2).1) 2)), (0, .ref h), (1, .int ticks), (2, .int most_75), (3, .int k_75)]) hx hb dX9_farthest_109 hl (by decide) rfl (fun ls hl => ?_)
              refine lv_iload hx hb dX9_farthest_111 (lv_at hl 0 rfl) ?_
              refine lv_iload_n hx hb dX9_farthest_113 rfl (lv_at hl 3 rfl) ?_
              refine lv_icmp_le (tgt := 122) hx hb dX9_farthest_114 (by decide) (fun c_10 => ?_) (fun c_10 => ?_)
              · refine lv_iload_n hx hb dX9_farthest_122 rfl (lv_at hl 3 rfl) ?_
                refine lv_istore_n (lv' := [(2, .int most_75), (4, .int (((sX9_passes g_75.2.1 g_75.1 told g_75.2.2.1 g_75.2.2.2.1 g_75.2.2.2.2).1) 2)), (0, .ref h), (1, .int ticks), (3, .int k_75)]) hx hb dX9_farthest_123 rfl hl (by decide) rfl (fun ls hl => ?_)
                refine lv_iinc (v := k_75 + 1) (lv' := [(3, .int (k_75 + 1)), (2, .int most_75), (4, .int (((sX9_passes g_75.2.1 g_75.1 told g_75.2.2.1 g_75.2.2.2.1 g_75.2.2.2.2).1) 2)), (0, .ref h), (1, .int ticks)]) hx hb dX9_farthest_124 hl (k := 4) rfl (by rfl) (by decide) rfl (fun ls hl => ?_)
                refine lv_goto (tgt := 75) hx hb dX9_farthest_127 (by decide) ?_
                have hP := (x_pick hP (hX.d rfl) (w1 := [(td, .inl (E.2.1, 48, .inl told)), (rr, .inl (E.2.1, 49, .inl ((sX9_passes g_75.2.1 g_75.1 told g_75.2.2.1 g_75.2.2.2.1 g_75.2.2.2.2).2.2.1))), (ss, .inl (E.2.1, 49, .inl ((sX9_passes g_75.2.1 g_75.1 told g_75.2.2.1 g_75.2.2.2.1 g_75.2.2.2.2).2.2.2.1))), (tr, .inl (E.2.1, 14, .inl ((sX9_passes g_75.2.1 g_75.1 told g_75.2.2.1 g_75.2.2.2.1 g_75.2.2.2.2).2.2.2.2))), (h, .inr (9, [.int 0, .ref nw, .ref td, .ref tx, .int length, .int textSize, .int start, .int next, .int token, .int value, .int error, .int errorAt, .int seen, .int ((sX9_passes g_75.2.1 g_75.1 told g_75.2.2.1 g_75.2.2.2.1 g_75.2.2.2.2).2.1), .ref rr, .ref ss, .ref tr, .ref wa, .int undos, .ref ud, .ref sl, .ref sv])), (nw, .inl (E.2.1, 214, .inl ((sX9_passes g_75.2.1 g_75.1 told g_75.2.2.1 g_75.2.2.2.1 g_75.2.2.2.2).1))), (wa, .inl (E.2.1, 214, .inl q_4))]) [3, 4, 5, 6, 1, 2, 0] rfl rfl).1
                exact ih_75 (k_75 + 1) most_75 (sX9_passes g_75.2.1 g_75.1 told g_75.2.2.1 g_75.2.2.2.1 g_75.2.2.2.2) (x_step hi0_75 c_7) (x_tk htk_75 (x_pass _ _ _ _ _ _ (x_th htk_75 hi0_75 c_7 (x_within c_1).2 hT0 hT1) ha0_75 ha1_75 hb0_75 hb1_75).1 hi0_75 c_7 (x_within c_1).2 hT0 hT1) (x_pass _ _ _ _ _ _ (x_th htk_75 hi0_75 c_7 (x_within c_1).2 hT0 hT1) ha0_75 ha1_75 hb0_75 hb1_75).2.1 (x_pass _ _ _ _ _ _ (x_th htk_75 hi0_75 c_7 (x_within c_1).2 hT0 hT1) ha0_75 ha1_75 hb0_75 hb1_75).2.2.1 (x_pass _ _ _ _ _ _ (x_th htk_75 hi0_75 c_7 (x_within c_1).2 hT0 hT1) ha0_75 ha1_75 hb0_75 hb1_75).2.2.2.1 (x_pass _ _ _ _ _ _ (x_th htk_75 hi0_75 c_7 (x_within c_1).2 hT0 hT1) ha0_75 ha1_75 hb0_75 hb1_75).2.2.2.2 (x_mu hi0_75 c_7 hmu) _ _ hP hS ls (lv_sub hl [3, 4, 1, 0] rfl) (by rw [hlq_75]; rw [sX9_farthest_l75_s]; rw [if_neg c_7]; rw [if_pos c_9]; rw [if_pos c_10]; try rfl)
              · refine lv_iload hx hb dX9_farthest_117 (lv_at hl 0 rfl) ?_
                refine lv_goto (tgt := 123) hx hb dX9_farthest_119 (by decide) ?_
                refine lv_istore_n (lv' := [(2, .int (((sX9_passes g_75.2.1 g_75.1 told g_75.2.2.1 g_75.2.2.2.1 g_75.2.2.2.2).1) 2)), (4, .int (((sX9_passes g_75.2.1 g_75.1 told g_75.2.2.1 g_75.2.2.2.1 g_75.2.2.2.2).1) 2)), (0, .ref h), (1, .int ticks), (3, .int k_75)]) hx hb dX9_farthest_123 rfl hl (by decide) rfl (fun ls hl => ?_)
                refine lv_iinc (v := k_75 + 1) (lv' := [(3, .int (k_75 + 1)), (2, .int (((sX9_passes g_75.2.1 g_75.1 told g_75.2.2.1 g_75.2.2.2.1 g_75.2.2.2.2).1) 2)), (4, .int (((sX9_passes g_75.2.1 g_75.1 told g_75.2.2.1 g_75.2.2.2.1 g_75.2.2.2.2).1) 2)), (0, .ref h), (1, .int ticks)]) hx hb dX9_farthest_124 hl (k := 4) rfl (by rfl) (by decide) rfl (fun ls hl => ?_)
                refine lv_goto (tgt := 75) hx hb dX9_farthest_127 (by decide) ?_
                have hP := (x_pick hP (hX.d rfl) (w1 := [(td, .inl (E.2.1, 48, .inl told)), (rr, .inl (E.2.1, 49, .inl ((sX9_passes g_75.2.1 g_75.1 told g_75.2.2.1 g_75.2.2.2.1 g_75.2.2.2.2).2.2.1))), (ss, .inl (E.2.1, 49, .inl ((sX9_passes g_75.2.1 g_75.1 told g_75.2.2.1 g_75.2.2.2.1 g_75.2.2.2.2).2.2.2.1))), (tr, .inl (E.2.1, 14, .inl ((sX9_passes g_75.2.1 g_75.1 told g_75.2.2.1 g_75.2.2.2.1 g_75.2.2.2.2).2.2.2.2))), (h, .inr (9, [.int 0, .ref nw, .ref td, .ref tx, .int length, .int textSize, .int start, .int next, .int token, .int value, .int error, .int errorAt, .int seen, .int ((sX9_passes g_75.2.1 g_75.1 told g_75.2.2.1 g_75.2.2.2.1 g_75.2.2.2.2).2.1), .ref rr, .ref ss, .ref tr, .ref wa, .int undos, .ref ud, .ref sl, .ref sv])), (nw, .inl (E.2.1, 214, .inl ((sX9_passes g_75.2.1 g_75.1 told g_75.2.2.1 g_75.2.2.2.1 g_75.2.2.2.2).1))), (wa, .inl (E.2.1, 214, .inl q_4))]) [3, 4, 5, 6, 1, 2, 0] rfl rfl).1
                exact ih_75 (k_75 + 1) (((sX9_passes g_75.2.1 g_75.1 told g_75.2.2.1 g_75.2.2.2.1 g_75.2.2.2.2).1) 2) (sX9_passes g_75.2.1 g_75.1 told g_75.2.2.1 g_75.2.2.2.1 g_75.2.2.2.2) (x_step hi0_75 c_7) (x_tk htk_75 (x_pass _ _ _ _ _ _ (x_th htk_75 hi0_75 c_7 (x_within c_1).2 hT0 hT1) ha0_75 ha1_75 hb0_75 hb1_75).1 hi0_75 c_7 (x_within c_1).2 hT0 hT1) (x_pass _ _ _ _ _ _ (x_th htk_75 hi0_75 c_7 (x_within c_1).2 hT0 hT1) ha0_75 ha1_75 hb0_75 hb1_75).2.1 (x_pass _ _ _ _ _ _ (x_th htk_75 hi0_75 c_7 (x_within c_1).2 hT0 hT1) ha0_75 ha1_75 hb0_75 hb1_75).2.2.1 (x_pass _ _ _ _ _ _ (x_th htk_75 hi0_75 c_7 (x_within c_1).2 hT0 hT1) ha0_75 ha1_75 hb0_75 hb1_75).2.2.2.1 (x_pass _ _ _ _ _ _ (x_th htk_75 hi0_75 c_7 (x_within c_1).2 hT0 hT1) ha0_75 ha1_75 hb0_75 hb1_75).2.2.2.2 (x_mu hi0_75 c_7 hmu) _ _ hP hS ls (lv_sub hl [3, 4, 1, 0] rfl) (by rw [hlq_75]; rw [sX9_farthest_l75_s]; rw [if_neg c_7]; rw [if_pos c_9]; rw [if_neg c_10]; try rfl)
            · refine lv_aload_n hx hb dX9_farthest_93 rfl (lv_at hl 0 rfl) ?_
              refine va_get (D := E.1) (ci := 9) (v := .ref nw) (C := RX9) (T := TX9) (N := 22) hx hb hts g_2 hown hE.1 hP 1 rfl rfl 1 (by decide) g_3 (fun _ h9 => h9) rfl dX9_farthest_94 ?_
              refine lv_iconst (v := 2) hx hb dX9_farthest_97 (by decide) ?_
              refine x_iald hx hb hE.1 hP 2 0 rfl rfl 2 (by decide) (by unfold vp_in; decide) dX9_farthest_98 ?_
              refine lv_ineg hx hb dX9_farthest_99 ?_
              refine lv_goto (tgt := 109) hx hb dX9_farthest_100 (by decide) ?_
              refine lv_istore (lv' := [(4, .int (-(((sX9_passes g_75.2.1 g_75.1 told g_75.2.2.1 g_75.2.2.2.1 g_75.2.2.2.2).1) 2))), (0, .ref h), (1, .int ticks), (2, .int most_75), (3, .int k_75)]) hx hb dX9_farthest_109 hl (by decide) rfl (fun ls hl => ?_)
              refine lv_iload hx hb dX9_farthest_111 (lv_at hl 0 rfl) ?_
              refine lv_iload_n hx hb dX9_farthest_113 rfl (lv_at hl 3 rfl) ?_
              refine lv_icmp_le (tgt := 122) hx hb dX9_farthest_114 (by decide) (fun c_11 => ?_) (fun c_11 => ?_)
              · refine lv_iload_n hx hb dX9_farthest_122 rfl (lv_at hl 3 rfl) ?_
                refine lv_istore_n (lv' := [(2, .int most_75), (4, .int (-(((sX9_passes g_75.2.1 g_75.1 told g_75.2.2.1 g_75.2.2.2.1 g_75.2.2.2.2).1) 2))), (0, .ref h), (1, .int ticks), (3, .int k_75)]) hx hb dX9_farthest_123 rfl hl (by decide) rfl (fun ls hl => ?_)
                refine lv_iinc (v := k_75 + 1) (lv' := [(3, .int (k_75 + 1)), (2, .int most_75), (4, .int (-(((sX9_passes g_75.2.1 g_75.1 told g_75.2.2.1 g_75.2.2.2.1 g_75.2.2.2.2).1) 2))), (0, .ref h), (1, .int ticks)]) hx hb dX9_farthest_124 hl (k := 4) rfl (by rfl) (by decide) rfl (fun ls hl => ?_)
                refine lv_goto (tgt := 75) hx hb dX9_farthest_127 (by decide) ?_
                have hP := (x_pick hP (hX.d rfl) (w1 := [(td, .inl (E.2.1, 48, .inl told)), (rr, .inl (E.2.1, 49, .inl ((sX9_passes g_75.2.1 g_75.1 told g_75.2.2.1 g_75.2.2.2.1 g_75.2.2.2.2).2.2.1))), (ss, .inl (E.2.1, 49, .inl ((sX9_passes g_75.2.1 g_75.1 told g_75.2.2.1 g_75.2.2.2.1 g_75.2.2.2.2).2.2.2.1))), (tr, .inl (E.2.1, 14, .inl ((sX9_passes g_75.2.1 g_75.1 told g_75.2.2.1 g_75.2.2.2.1 g_75.2.2.2.2).2.2.2.2))), (h, .inr (9, [.int 0, .ref nw, .ref td, .ref tx, .int length, .int textSize, .int start, .int next, .int token, .int value, .int error, .int errorAt, .int seen, .int ((sX9_passes g_75.2.1 g_75.1 told g_75.2.2.1 g_75.2.2.2.1 g_75.2.2.2.2).2.1), .ref rr, .ref ss, .ref tr, .ref wa, .int undos, .ref ud, .ref sl, .ref sv])), (nw, .inl (E.2.1, 214, .inl ((sX9_passes g_75.2.1 g_75.1 told g_75.2.2.1 g_75.2.2.2.1 g_75.2.2.2.2).1))), (wa, .inl (E.2.1, 214, .inl q_4))]) [3, 4, 5, 6, 1, 2, 0] rfl rfl).1
                exact ih_75 (k_75 + 1) most_75 (sX9_passes g_75.2.1 g_75.1 told g_75.2.2.1 g_75.2.2.2.1 g_75.2.2.2.2) (x_step hi0_75 c_7) (x_tk htk_75 (x_pass _ _ _ _ _ _ (x_th htk_75 hi0_75 c_7 (x_within c_1).2 hT0 hT1) ha0_75 ha1_75 hb0_75 hb1_75).1 hi0_75 c_7 (x_within c_1).2 hT0 hT1) (x_pass _ _ _ _ _ _ (x_th htk_75 hi0_75 c_7 (x_within c_1).2 hT0 hT1) ha0_75 ha1_75 hb0_75 hb1_75).2.1 (x_pass _ _ _ _ _ _ (x_th htk_75 hi0_75 c_7 (x_within c_1).2 hT0 hT1) ha0_75 ha1_75 hb0_75 hb1_75).2.2.1 (x_pass _ _ _ _ _ _ (x_th htk_75 hi0_75 c_7 (x_within c_1).2 hT0 hT1) ha0_75 ha1_75 hb0_75 hb1_75).2.2.2.1 (x_pass _ _ _ _ _ _ (x_th htk_75 hi0_75 c_7 (x_within c_1).2 hT0 hT1) ha0_75 ha1_75 hb0_75 hb1_75).2.2.2.2 (x_mu hi0_75 c_7 hmu) _ _ hP hS ls (lv_sub hl [3, 4, 1, 0] rfl) (by rw [hlq_75]; rw [sX9_farthest_l75_s]; rw [if_neg c_7]; rw [if_neg c_9]; rw [if_pos c_11]; try rfl)
              · refine lv_iload hx hb dX9_farthest_117 (lv_at hl 0 rfl) ?_
                refine lv_goto (tgt := 123) hx hb dX9_farthest_119 (by decide) ?_
                refine lv_istore_n (lv' := [(2, .int (-(((sX9_passes g_75.2.1 g_75.1 told g_75.2.2.1 g_75.2.2.2.1 g_75.2.2.2.2).1) 2))), (4, .int (-(((sX9_passes g_75.2.1 g_75.1 told g_75.2.2.1 g_75.2.2.2.1 g_75.2.2.2.2).1) 2))), (0, .ref h), (1, .int ticks), (3, .int k_75)]) hx hb dX9_farthest_123 rfl hl (by decide) rfl (fun ls hl => ?_)
                refine lv_iinc (v := k_75 + 1) (lv' := [(3, .int (k_75 + 1)), (2, .int (-(((sX9_passes g_75.2.1 g_75.1 told g_75.2.2.1 g_75.2.2.2.1 g_75.2.2.2.2).1) 2))), (4, .int (-(((sX9_passes g_75.2.1 g_75.1 told g_75.2.2.1 g_75.2.2.2.1 g_75.2.2.2.2).1) 2))), (0, .ref h), (1, .int ticks)]) hx hb dX9_farthest_124 hl (k := 4) rfl (by rfl) (by decide) rfl (fun ls hl => ?_)
                refine lv_goto (tgt := 75) hx hb dX9_farthest_127 (by decide) ?_
                have hP := (x_pick hP (hX.d rfl) (w1 := [(td, .inl (E.2.1, 48, .inl told)), (rr, .inl (E.2.1, 49, .inl ((sX9_passes g_75.2.1 g_75.1 told g_75.2.2.1 g_75.2.2.2.1 g_75.2.2.2.2).2.2.1))), (ss, .inl (E.2.1, 49, .inl ((sX9_passes g_75.2.1 g_75.1 told g_75.2.2.1 g_75.2.2.2.1 g_75.2.2.2.2).2.2.2.1))), (tr, .inl (E.2.1, 14, .inl ((sX9_passes g_75.2.1 g_75.1 told g_75.2.2.1 g_75.2.2.2.1 g_75.2.2.2.2).2.2.2.2))), (h, .inr (9, [.int 0, .ref nw, .ref td, .ref tx, .int length, .int textSize, .int start, .int next, .int token, .int value, .int error, .int errorAt, .int seen, .int ((sX9_passes g_75.2.1 g_75.1 told g_75.2.2.1 g_75.2.2.2.1 g_75.2.2.2.2).2.1), .ref rr, .ref ss, .ref tr, .ref wa, .int undos, .ref ud, .ref sl, .ref sv])), (nw, .inl (E.2.1, 214, .inl ((sX9_passes g_75.2.1 g_75.1 told g_75.2.2.1 g_75.2.2.2.1 g_75.2.2.2.2).1))), (wa, .inl (E.2.1, 214, .inl q_4))]) [3, 4, 5, 6, 1, 2, 0] rfl rfl).1
                exact ih_75 (k_75 + 1) (-(((sX9_passes g_75.2.1 g_75.1 told g_75.2.2.1 g_75.2.2.2.1 g_75.2.2.2.2).1) 2)) (sX9_passes g_75.2.1 g_75.1 told g_75.2.2.1 g_75.2.2.2.1 g_75.2.2.2.2) (x_step hi0_75 c_7) (x_tk htk_75 (x_pass _ _ _ _ _ _ (x_th htk_75 hi0_75 c_7 (x_within c_1).2 hT0 hT1) ha0_75 ha1_75 hb0_75 hb1_75).1 hi0_75 c_7 (x_within c_1).2 hT0 hT1) (x_pass _ _ _ _ _ _ (x_th htk_75 hi0_75 c_7 (x_within c_1).2 hT0 hT1) ha0_75 ha1_75 hb0_75 hb1_75).2.1 (x_pass _ _ _ _ _ _ (x_th htk_75 hi0_75 c_7 (x_within c_1).2 hT0 hT1) ha0_75 ha1_75 hb0_75 hb1_75).2.2.1 (x_pass _ _ _ _ _ _ (x_th htk_75 hi0_75 c_7 (x_within c_1).2 hT0 hT1) ha0_75 ha1_75 hb0_75 hb1_75).2.2.2.1 (x_pass _ _ _ _ _ _ (x_th htk_75 hi0_75 c_7 (x_within c_1).2 hT0 hT1) ha0_75 ha1_75 hb0_75 hb1_75).2.2.2.2 (x_mu hi0_75 c_7 hmu) _ _ hP hS ls (lv_sub hl [3, 4, 1, 0] rfl) (by rw [hlq_75]; rw [sX9_farthest_l75_s]; rw [if_neg c_7]; rw [if_neg c_9]; rw [if_neg c_11]; try rfl)
      exact lp_75 (xMu ticks 0 + 1) 0 (now 2) (now, triedWith, rs, fs, tri) (by decide) (x_tk0 _) ha0 ha1 hb0 hb1 (Nat.lt_succ_self _) _ _ hP hS ls (lv_sub hl [2, 3, 1, 0] rfl) (by unfold sX9_farthest; rw [if_neg c_1]; rw [← hq_4]; unfold sX9_farthest_q_4; rw [if_pos c_5]; try rfl)
    · refine lv_aload_n hx hb dX9_farthest_56 rfl (lv_at hl 0 rfl) ?_
      refine va_get (D := E.1) (ci := 9) (v := .ref nw) (C := RX9) (T := TX9) (N := 22) hx hb hts g_2 hown hE.1 hP 4 rfl rfl 1 (by decide) g_3 (fun _ h9 => h9) rfl dX9_farthest_57 ?_
      refine lv_iconst (v := 2) hx hb dX9_farthest_60 (by decide) ?_
      refine x_iald hx hb hE.1 hP 5 0 rfl rfl 2 (by decide) (by unfold vp_in; decide) dX9_farthest_61 ?_
      refine lv_ineg hx hb dX9_farthest_62 ?_
      refine lv_goto (tgt := 72) hx hb dX9_farthest_63 (by decide) ?_
      refine lv_istore_n (lv' := [(2, .int (-(now 2))), (0, .ref h), (1, .int ticks)]) hx hb dX9_farthest_72 rfl hl (by decide) rfl (fun ls hl => ?_)
      refine lv_iconst (v := 0) hx hb dX9_farthest_73 (by decide) ?_
      refine lv_istore_n (lv' := [(3, .int 0), (2, .int (-(now 2))), (0, .ref h), (1, .int ticks)]) hx hb dX9_farthest_74 rfl hl (by decide) rfl (fun ls hl => ?_)
      have ex_75 : ∀ (k_75 : Int32) (most_75 : Int32) (g_75 : (Nat → Int32) × Int32 × (Nat → Int32) × (Nat → Int32) × (Nat → Int32)), (¬ k_75 < 0) → ((g_75.1 0).toInt = (now 0).toInt + k_75.toInt) → (0 ≤ g_75.1 10) → (g_75.1 10 < 4096) → (0 ≤ g_75.1 11) → (g_75.1 11 < 4096) → ∀ (H : Heap) (locs : List Loc), va_P E.1 vwCl [(td, .inl (E.2.1, 48, .inl told)), (rr, .inl (E.2.1, 49, .inl g_75.2.2.1)), (ss, .inl (E.2.1, 49, .inl g_75.2.2.2.1)), (tr, .inl (E.2.1, 14, .inl g_75.2.2.2.2)), (h, .inr (9, [.int 0, .ref nw, .ref td, .ref tx, .int length, .int textSize, .int start, .int next, .int token, .int value, .int error, .int errorAt, .int seen, .int g_75.2.1, .ref rr, .ref ss, .ref tr, .ref wa, .int undos, .ref ud, .ref sl, .ref sv])), (nw, .inl (E.2.1, 214, .inl g_75.1)), (wa, .inl (E.2.1, 214, .inl q_4))] H → va_S A s.heap H locs → ∀ (ls : Array Slot), lv_has ls 5 [(0, .ref h), (1, .int ticks), (2, .int most_75), (3, .int k_75)] → (sX9_farthest triedWith now told rs fs tri was ticks) = ((most_75, 0, (sX9_copies q_4 g_75.1 0 0 214), g_75.2.1, g_75.2.2.1, g_75.2.2.2.1, g_75.2.2.2.2, q_4)) → W p l e ({ frames := 9, cells := 0, slots := 0, locals := 203 }) s m args below meth c H locs 0 0 (MQ below (xO (T := Int32 × Int32 × (Nat → Int32) × Int32 × (Nat → Int32) × (Nat → Int32) × (Nat → Int32) × (Nat → Int32)) E A (fun q => some (.int q.1)) (fun q => [(h, .inr (9, [.int q.2.1, .ref nw, .ref td, .ref tx, .int length, .int textSize, .int start, .int next, .int token, .int value, .int error, .int errorAt, .int seen, .int q.2.2.2.1, .ref rr, .ref ss, .ref tr, .ref wa, .int undos, .ref ud, .ref sl, .ref sv])), (nw, .inl (E.2.1, 214, .inl q.2.2.1)), (td, .inl (E.2.1, 48, .inl told)), (rr, .inl (E.2.1, 49, .inl q.2.2.2.2.1)), (ss, .inl (E.2.1, 49, .inl q.2.2.2.2.2.1)), (tr, .inl (E.2.1, 14, .inl q.2.2.2.2.2.2.1)), (wa, .inl (E.2.1, 214, .inl q.2.2.2.2.2.2.2))]) (sX9_farthest triedWith now told rs fs tri was ticks)) args s 0 0 A) (F0 m 130 ls []) := by
        intro k_75 most_75 g_75 hi0_75 htk_75 ha0_75 ha1_75 hb0_75 hb1_75 H locs hP hS ls hl hx_75
        refine lv_aload_n hx hb dX9_farthest_130 rfl (lv_at hl 0 rfl) ?_
        refine va_get (D := E.1) (ci := 9) (v := .ref wa) (C := RX9) (T := TX9) (N := 22) hx hb hts g_2 hown hE.1 hP 4 rfl rfl 17 (by decide) g_4 (fun _ h9 => h9) rfl dX9_farthest_131 ?_
        refine lv_iconst (v := 0) hx hb dX9_farthest_134 (by decide) ?_
        refine lv_aload_n hx hb dX9_farthest_135 rfl (lv_at hl 0 rfl) ?_
        refine va_get (D := E.1) (ci := 9) (v := .ref nw) (C := RX9) (T := TX9) (N := 22) hx hb hts g_2 hown hE.1 hP 4 rfl rfl 1 (by decide) g_3 (fun _ h9 => h9) rfl dX9_farthest_136 ?_
        refine lv_iconst (v := 0) hx hb dX9_farthest_139 (by decide) ?_
        refine lv_sipush (v := 214) hx hb dX9_farthest_140 (by decide) ?_
        refine x_wS (wr := [(td, .inl (E.2.1, 48, .inl told)), (rr, .inl (E.2.1, 49, .inl g_75.2.2.1)), (ss, .inl (E.2.1, 49, .inl g_75.2.2.2.1)), (tr, .inl (E.2.1, 14, .inl g_75.2.2.2.2)), (h, .inr (9, [.int 0, .ref nw, .ref td, .ref tx, .int length, .int textSize, .int start, .int next, .int token, .int value, .int error, .int errorAt, .int seen, .int g_75.2.1, .ref rr, .ref ss, .ref tr, .ref wa, .int undos, .ref ud, .ref sl, .ref sv]))]) [.ref wa, .int 0, .ref nw, .int 0, .int 214] (kX9_copies l E wa 214 q_4 nw 214 g_75.1 0 0 214 (by decide) (by decide) (by decide) (by decide) (by decide) (by decide)) ⟨hx, hb, hml, hown, hts⟩ (va_cwS 5 hts gX9_farthest_X9_copies rfl rfl rfl hdX9_copies.2 ⟨Nat.le_of_ble_eq_true rfl, Nat.le_of_ble_eq_true rfl⟩) hE hP (hX.d rfl) hS hA [6, 5] [0, 1, 2, 3, 4] rfl rfl rfl rfl (by decide) hl.1 rfl rfl (Nat.le_of_ble_eq_true rfl) dX9_farthest_143 (Nat.le_of_ble_eq_true rfl) (Nat.le_of_ble_eq_true rfl) (fun q_12 H locs hq_12 hP hD hS => ?_)
        subst hq_12
        have hP : va_P E.1 vwCl [(td, .inl (E.2.1, 48, .inl told)), (rr, .inl (E.2.1, 49, .inl g_75.2.2.1)), (ss, .inl (E.2.1, 49, .inl g_75.2.2.2.1)), (tr, .inl (E.2.1, 14, .inl g_75.2.2.2.2)), (h, .inr (9, [.int 0, .ref nw, .ref td, .ref tx, .int length, .int textSize, .int start, .int next, .int token, .int value, .int error, .int errorAt, .int seen, .int g_75.2.1, .ref rr, .ref ss, .ref tr, .ref wa, .int undos, .ref ud, .ref sl, .ref sv])), (wa, .inl (E.2.1, 214, .inl q_4)), (nw, .inl (E.2.1, 214, .inl (sX9_copies q_4 g_75.1 0 0 214)))] H := hP
        have hX : xD A [td, rr, ss, tr, h, wa, nw] := xD.of hD rfl
        refine W.eq (g2 := F0 m 146 ls []) rfl ?_
        refine lv_iload_n hx hb dX9_farthest_146 rfl (lv_at hl 2 rfl) ?_
        exact x_wi (most_75, 0, (sX9_copies q_4 g_75.1 0 0 214), g_75.2.1, g_75.2.2.1, g_75.2.2.2.1, g_75.2.2.2.2, q_4) (by rw [hx_75]; try rfl) rfl hx hb hr hlk hS hP (hX.d rfl) [4, 6, 0, 1, 2, 3, 5] rfl rfl (Nat.le_of_ble_eq_true rfl) (Nat.le_of_ble_eq_true rfl) dX9_farthest_147
      have lp_75 : ∀ (kk_75 : Nat), ∀ (k_75 : Int32) (most_75 : Int32) (g_75 : (Nat → Int32) × Int32 × (Nat → Int32) × (Nat → Int32) × (Nat → Int32)), (¬ k_75 < 0) → ((g_75.1 0).toInt = (now 0).toInt + k_75.toInt) → (0 ≤ g_75.1 10) → (g_75.1 10 < 4096) → (0 ≤ g_75.1 11) → (g_75.1 11 < 4096) → (xMu ticks k_75) < kk_75 → ∀ (H : Heap) (locs : List Loc), va_P E.1 vwCl [(td, .inl (E.2.1, 48, .inl told)), (rr, .inl (E.2.1, 49, .inl g_75.2.2.1)), (ss, .inl (E.2.1, 49, .inl g_75.2.2.2.1)), (tr, .inl (E.2.1, 14, .inl g_75.2.2.2.2)), (h, .inr (9, [.int 0, .ref nw, .ref td, .ref tx, .int length, .int textSize, .int start, .int next, .int token, .int value, .int error, .int errorAt, .int seen, .int g_75.2.1, .ref rr, .ref ss, .ref tr, .ref wa, .int undos, .ref ud, .ref sl, .ref sv])), (nw, .inl (E.2.1, 214, .inl g_75.1)), (wa, .inl (E.2.1, 214, .inl q_4))] H → va_S A s.heap H locs → ∀ (ls : Array Slot), lv_has ls 5 [(0, .ref h), (1, .int ticks), (2, .int most_75), (3, .int k_75)] → (sX9_farthest triedWith now told rs fs tri was ticks) = sX9_farthest_l75 told ticks (fun (k_75 : Int32) (most_75 : Int32) (g_75 : (Nat → Int32) × Int32 × (Nat → Int32) × (Nat → Int32) × (Nat → Int32)) => (most_75, 0, (sX9_copies q_4 g_75.1 0 0 214), g_75.2.1, g_75.2.2.1, g_75.2.2.2.1, g_75.2.2.2.2, q_4)) kk_75 k_75 most_75 g_75 → W p l e ({ frames := 9, cells := 0, slots := 0, locals := 203 }) s m args below meth c H locs 0 0 (MQ below (xO (T := Int32 × Int32 × (Nat → Int32) × Int32 × (Nat → Int32) × (Nat → Int32) × (Nat → Int32) × (Nat → Int32)) E A (fun q => some (.int q.1)) (fun q => [(h, .inr (9, [.int q.2.1, .ref nw, .ref td, .ref tx, .int length, .int textSize, .int start, .int next, .int token, .int value, .int error, .int errorAt, .int seen, .int q.2.2.2.1, .ref rr, .ref ss, .ref tr, .ref wa, .int undos, .ref ud, .ref sl, .ref sv])), (nw, .inl (E.2.1, 214, .inl q.2.2.1)), (td, .inl (E.2.1, 48, .inl told)), (rr, .inl (E.2.1, 49, .inl q.2.2.2.2.1)), (ss, .inl (E.2.1, 49, .inl q.2.2.2.2.2.1)), (tr, .inl (E.2.1, 14, .inl q.2.2.2.2.2.2.1)), (wa, .inl (E.2.1, 214, .inl q.2.2.2.2.2.2.2))]) (sX9_farthest triedWith now told rs fs tri was ticks)) args s 0 0 A) (F0 m 75 ls []) := by
        intro kk_75
        induction kk_75 with
        | zero =>
          intro k_75 most_75 g_75 hi0_75 htk_75 ha0_75 ha1_75 hb0_75 hb1_75 hmu
          exact absurd hmu (Nat.not_lt_zero _)
        | succ kk_75 ih_75 =>
          intro k_75 most_75 g_75 hi0_75 htk_75 ha0_75 ha1_75 hb0_75 hb1_75 hmu H locs hP hS ls hl hlq_75
          refine lv_iload_n hx hb dX9_farthest_75 rfl (lv_at hl 3 rfl) ?_
          refine lv_iload_n hx hb dX9_farthest_76 rfl (lv_at hl 1 rfl) ?_
          refine lv_icmp_ge (tgt := 130) hx hb dX9_farthest_77 (by decide) (fun c_13 => ?_) (fun c_13 => ?_)
          · exact ex_75 k_75 most_75 g_75 hi0_75 htk_75 ha0_75 ha1_75 hb0_75 hb1_75 _ _ hP hS ls (lv_sub hl [0, 1, 2, 3] rfl) (by rw [hlq_75]; rw [sX9_farthest_l75_s]; rw [if_pos c_13]; try rfl)
          · refine lv_aload_n hx hb dX9_farthest_80 rfl (lv_at hl 0 rfl) ?_
            refine x_wV (wr := [(wa, .inl (E.2.1, 214, .inl q_4))]) [] (kX9_passes l E h 0 nw td tx length textSize start next token value error errorAt seen g_75.2.1 rr ss tr wa undos ud sl sv g_75.1 told g_75.2.2.1 g_75.2.2.2.1 g_75.2.2.2.2 hw1 hw2 hc3 hc0 (x_th htk_75 hi0_75 c_13 (x_within c_1).2 hT0 hT1) ha0_75 ha1_75 hb0_75 hb1_75) ⟨hx, hb, hml, hown, hts⟩ (cwV 0 hts gX9_farthest_X9_passes rfl rfl rfl hdX9_passes ⟨Nat.le_of_ble_eq_true rfl, Nat.le_of_ble_eq_true rfl⟩) hE hP (hX.d rfl) hS hA [4, 5, 0, 1, 2, 3] [6] rfl rfl rfl rfl (by decide) (ci := 9) (q0 := 4) rfl rfl rfl hl.1 rfl rfl (Nat.le_of_ble_eq_true rfl) dX9_farthest_81 (Nat.le_of_ble_eq_true rfl) (Nat.le_of_ble_eq_true rfl) (fun q_14 H locs hq_14 hP hD hS => ?_)
            subst hq_14
            have hP : va_P E.1 vwCl [(wa, .inl (E.2.1, 214, .inl q_4)), (h, .inr (9, [.int 0, .ref nw, .ref td, .ref tx, .int length, .int textSize, .int start, .int next, .int token, .int value, .int error, .int errorAt, .int seen, .int ((sX9_passes g_75.2.1 g_75.1 told g_75.2.2.1 g_75.2.2.2.1 g_75.2.2.2.2).2.1), .ref rr, .ref ss, .ref tr, .ref wa, .int undos, .ref ud, .ref sl, .ref sv])), (nw, .inl (E.2.1, 214, .inl ((sX9_passes g_75.2.1 g_75.1 told g_75.2.2.1 g_75.2.2.2.1 g_75.2.2.2.2).1))), (td, .inl (E.2.1, 48, .inl told)), (rr, .inl (E.2.1, 49, .inl ((sX9_passes g_75.2.1 g_75.1 told g_75.2.2.1 g_75.2.2.2.1 g_75.2.2.2.2).2.2.1))), (ss, .inl (E.2.1, 49, .inl ((sX9_passes g_75.2.1 g_75.1 told g_75.2.2.1 g_75.2.2.2.1 g_75.2.2.2.2).2.2.2.1))), (tr, .inl (E.2.1, 14, .inl ((sX9_passes g_75.2.1 g_75.1 told g_75.2.2.1 g_75.2.2.2.1 g_75.2.2.2.2).2.2.2.2)))] H := hP
            have hX : xD A [wa, h, nw, td, rr, ss, tr] := xD.of hD rfl
            refine W.eq (g2 := F0 m 84 ls []) rfl ?_
            refine lv_aload_n hx hb dX9_farthest_84 rfl (lv_at hl 0 rfl) ?_
            refine va_get (D := E.1) (ci := 9) (v := .ref nw) (C := RX9) (T := TX9) (N := 22) hx hb hts g_2 hown hE.1 hP 1 rfl rfl 1 (by decide) g_3 (fun _ h9 => h9) rfl dX9_farthest_85 ?_
            refine lv_iconst (v := 2) hx hb dX9_farthest_88 (by decide) ?_
            refine x_iald hx hb hE.1 hP 2 0 rfl rfl 2 (by decide) (by unfold vp_in; decide) dX9_farthest_89 ?_
            refine lv_if_ge (tgt := 103) hx hb dX9_farthest_90 (by decide) (fun c_15 => ?_) (fun c_15 => ?_)
            · refine lv_aload_n hx hb dX9_farthest_103 rfl (lv_at hl 0 rfl) ?_
              refine va_get (D := E.1) (ci := 9) (v := .ref nw) (C := RX9) (T := TX9) (N := 22) hx hb hts g_2 hown hE.1 hP 1 rfl rfl 1 (by decide) g_3 (fun _ h9 => h9) rfl dX9_farthest_104 ?_
              refine lv_iconst (v := 2) hx hb dX9_farthest_107 (by decide) ?_
              refine x_iald hx hb hE.1 hP 2 0 rfl rfl 2 (by decide) (by unfold vp_in; decide) dX9_farthest_108 ?_
              refine lv_istore (lv' := [(4, .int (((sX9_passes g_75.2.1 g_75.1 told g_75.2.2.1 g_75.2.2.2.1 g_75.2.2.2.2).1) 2)), (0, .ref h), (1, .int ticks), (2, .int most_75), (3, .int k_75)]) hx hb dX9_farthest_109 hl (by decide) rfl (fun ls hl => ?_)
              refine lv_iload hx hb dX9_farthest_111 (lv_at hl 0 rfl) ?_
              refine lv_iload_n hx hb dX9_farthest_113 rfl (lv_at hl 3 rfl) ?_
              refine lv_icmp_le (tgt := 122) hx hb dX9_farthest_114 (by decide) (fun c_16 => ?_) (fun c_16 => ?_)
              · refine lv_iload_n hx hb dX9_farthest_122 rfl (lv_at hl 3 rfl) ?_
                refine lv_istore_n (lv' := [(2, .int most_75), (4, .int (((sX9_passes g_75.2.1 g_75.1 told g_75.2.2.1 g_75.2.2.2.1 g_75.2.2.2.2).1) 2)), (0, .ref h), (1, .int ticks), (3, .int k_75)]) hx hb dX9_farthest_123 rfl hl (by decide) rfl (fun ls hl => ?_)
                refine lv_iinc (v := k_75 + 1) (lv' := [(3, .int (k_75 + 1)), (2, .int most_75), (4, .int (((sX9_passes g_75.2.1 g_75.1 told g_75.2.2.1 g_75.2.2.2.1 g_75.2.2.2.2).1) 2)), (0, .ref h), (1, .int ticks)]) hx hb dX9_farthest_124 hl (k := 4) rfl (by rfl) (by decide) rfl (fun ls hl => ?_)
                refine lv_goto (tgt := 75) hx hb dX9_farthest_127 (by decide) ?_
                have hP := (x_pick hP (hX.d rfl) (w1 := [(td, .inl (E.2.1, 48, .inl told)), (rr, .inl (E.2.1, 49, .inl ((sX9_passes g_75.2.1 g_75.1 told g_75.2.2.1 g_75.2.2.2.1 g_75.2.2.2.2).2.2.1))), (ss, .inl (E.2.1, 49, .inl ((sX9_passes g_75.2.1 g_75.1 told g_75.2.2.1 g_75.2.2.2.1 g_75.2.2.2.2).2.2.2.1))), (tr, .inl (E.2.1, 14, .inl ((sX9_passes g_75.2.1 g_75.1 told g_75.2.2.1 g_75.2.2.2.1 g_75.2.2.2.2).2.2.2.2))), (h, .inr (9, [.int 0, .ref nw, .ref td, .ref tx, .int length, .int textSize, .int start, .int next, .int token, .int value, .int error, .int errorAt, .int seen, .int ((sX9_passes g_75.2.1 g_75.1 told g_75.2.2.1 g_75.2.2.2.1 g_75.2.2.2.2).2.1), .ref rr, .ref ss, .ref tr, .ref wa, .int undos, .ref ud, .ref sl, .ref sv])), (nw, .inl (E.2.1, 214, .inl ((sX9_passes g_75.2.1 g_75.1 told g_75.2.2.1 g_75.2.2.2.1 g_75.2.2.2.2).1))), (wa, .inl (E.2.1, 214, .inl q_4))]) [3, 4, 5, 6, 1, 2, 0] rfl rfl).1
                exact ih_75 (k_75 + 1) most_75 (sX9_passes g_75.2.1 g_75.1 told g_75.2.2.1 g_75.2.2.2.1 g_75.2.2.2.2) (x_step hi0_75 c_13) (x_tk htk_75 (x_pass _ _ _ _ _ _ (x_th htk_75 hi0_75 c_13 (x_within c_1).2 hT0 hT1) ha0_75 ha1_75 hb0_75 hb1_75).1 hi0_75 c_13 (x_within c_1).2 hT0 hT1) (x_pass _ _ _ _ _ _ (x_th htk_75 hi0_75 c_13 (x_within c_1).2 hT0 hT1) ha0_75 ha1_75 hb0_75 hb1_75).2.1 (x_pass _ _ _ _ _ _ (x_th htk_75 hi0_75 c_13 (x_within c_1).2 hT0 hT1) ha0_75 ha1_75 hb0_75 hb1_75).2.2.1 (x_pass _ _ _ _ _ _ (x_th htk_75 hi0_75 c_13 (x_within c_1).2 hT0 hT1) ha0_75 ha1_75 hb0_75 hb1_75).2.2.2.1 (x_pass _ _ _ _ _ _ (x_th htk_75 hi0_75 c_13 (x_within c_1).2 hT0 hT1) ha0_75 ha1_75 hb0_75 hb1_75).2.2.2.2 (x_mu hi0_75 c_13 hmu) _ _ hP hS ls (lv_sub hl [3, 4, 1, 0] rfl) (by rw [hlq_75]; rw [sX9_farthest_l75_s]; rw [if_neg c_13]; rw [if_pos c_15]; rw [if_pos c_16]; try rfl)
              · refine lv_iload hx hb dX9_farthest_117 (lv_at hl 0 rfl) ?_
                refine lv_goto (tgt := 123) hx hb dX9_farthest_119 (by decide) ?_
                refine lv_istore_n (lv' := [(2, .int (((sX9_passes g_75.2.1 g_75.1 told g_75.2.2.1 g_75.2.2.2.1 g_75.2.2.2.2).1) 2)), (4, .int (((sX9_passes g_75.2.1 g_75.1 told g_75.2.2.1 g_75.2.2.2.1 g_75.2.2.2.2).1) 2)), (0, .ref h), (1, .int ticks), (3, .int k_75)]) hx hb dX9_farthest_123 rfl hl (by decide) rfl (fun ls hl => ?_)
                refine lv_iinc (v := k_75 + 1) (lv' := [(3, .int (k_75 + 1)), (2, .int (((sX9_passes g_75.2.1 g_75.1 told g_75.2.2.1 g_75.2.2.2.1 g_75.2.2.2.2).1) 2)), (4, .int (((sX9_passes g_75.2.1 g_75.1 told g_75.2.2.1 g_75.2.2.2.1 g_75.2.2.2.2).1) 2)), (0, .ref h), (1, .int ticks)]) hx hb dX9_farthest_124 hl (k := 4) rfl (by rfl) (by decide) rfl (fun ls hl => ?_)
                refine lv_goto (tgt := 75) hx hb dX9_farthest_127 (by decide) ?_
                have hP := (x_pick hP (hX.d rfl) (w1 := [(td, .inl (E.2.1, 48, .inl told)), (rr, .inl (E.2.1, 49, .inl ((sX9_passes g_75.2.1 g_75.1 told g_75.2.2.1 g_75.2.2.2.1 g_75.2.2.2.2).2.2.1))), (ss, .inl (E.2.1, 49, .inl ((sX9_passes g_75.2.1 g_75.1 told g_75.2.2.1 g_75.2.2.2.1 g_75.2.2.2.2).2.2.2.1))), (tr, .inl (E.2.1, 14, .inl ((sX9_passes g_75.2.1 g_75.1 told g_75.2.2.1 g_75.2.2.2.1 g_75.2.2.2.2).2.2.2.2))), (h, .inr (9, [.int 0, .ref nw, .ref td, .ref tx, .int length, .int textSize, .int start, .int next, .int token, .int value, .int error, .int errorAt, .int seen, .int ((sX9_passes g_75.2.1 g_75.1 told g_75.2.2.1 g_75.2.2.2.1 g_75.2.2.2.2).2.1), .ref rr, .ref ss, .ref tr, .ref wa, .int undos, .ref ud, .ref sl, .ref sv])), (nw, .inl (E.2.1, 214, .inl ((sX9_passes g_75.2.1 g_75.1 told g_75.2.2.1 g_75.2.2.2.1 g_75.2.2.2.2).1))), (wa, .inl (E.2.1, 214, .inl q_4))]) [3, 4, 5, 6, 1, 2, 0] rfl rfl).1
                exact ih_75 (k_75 + 1) (((sX9_passes g_75.2.1 g_75.1 told g_75.2.2.1 g_75.2.2.2.1 g_75.2.2.2.2).1) 2) (sX9_passes g_75.2.1 g_75.1 told g_75.2.2.1 g_75.2.2.2.1 g_75.2.2.2.2) (x_step hi0_75 c_13) (x_tk htk_75 (x_pass _ _ _ _ _ _ (x_th htk_75 hi0_75 c_13 (x_within c_1).2 hT0 hT1) ha0_75 ha1_75 hb0_75 hb1_75).1 hi0_75 c_13 (x_within c_1).2 hT0 hT1) (x_pass _ _ _ _ _ _ (x_th htk_75 hi0_75 c_13 (x_within c_1).2 hT0 hT1) ha0_75 ha1_75 hb0_75 hb1_75).2.1 (x_pass _ _ _ _ _ _ (x_th htk_75 hi0_75 c_13 (x_within c_1).2 hT0 hT1) ha0_75 ha1_75 hb0_75 hb1_75).2.2.1 (x_pass _ _ _ _ _ _ (x_th htk_75 hi0_75 c_13 (x_within c_1).2 hT0 hT1) ha0_75 ha1_75 hb0_75 hb1_75).2.2.2.1 (x_pass _ _ _ _ _ _ (x_th htk_75 hi0_75 c_13 (x_within c_1).2 hT0 hT1) ha0_75 ha1_75 hb0_75 hb1_75).2.2.2.2 (x_mu hi0_75 c_13 hmu) _ _ hP hS ls (lv_sub hl [3, 4, 1, 0] rfl) (by rw [hlq_75]; rw [sX9_farthest_l75_s]; rw [if_neg c_13]; rw [if_pos c_15]; rw [if_neg c_16]; try rfl)
            · refine lv_aload_n hx hb dX9_farthest_93 rfl (lv_at hl 0 rfl) ?_
              refine va_get (D := E.1) (ci := 9) (v := .ref nw) (C := RX9) (T := TX9) (N := 22) hx hb hts g_2 hown hE.1 hP 1 rfl rfl 1 (by decide) g_3 (fun _ h9 => h9) rfl dX9_farthest_94 ?_
              refine lv_iconst (v := 2) hx hb dX9_farthest_97 (by decide) ?_
              refine x_iald hx hb hE.1 hP 2 0 rfl rfl 2 (by decide) (by unfold vp_in; decide) dX9_farthest_98 ?_
              refine lv_ineg hx hb dX9_farthest_99 ?_
              refine lv_goto (tgt := 109) hx hb dX9_farthest_100 (by decide) ?_
              refine lv_istore (lv' := [(4, .int (-(((sX9_passes g_75.2.1 g_75.1 told g_75.2.2.1 g_75.2.2.2.1 g_75.2.2.2.2).1) 2))), (0, .ref h), (1, .int ticks), (2, .int most_75), (3, .int k_75)]) hx hb dX9_farthest_109 hl (by decide) rfl (fun ls hl => ?_)
              refine lv_iload hx hb dX9_farthest_111 (lv_at hl 0 rfl) ?_
              refine lv_iload_n hx hb dX9_farthest_113 rfl (lv_at hl 3 rfl) ?_
              refine lv_icmp_le (tgt := 122) hx hb dX9_farthest_114 (by decide) (fun c_17 => ?_) (fun c_17 => ?_)
              · refine lv_iload_n hx hb dX9_farthest_122 rfl (lv_at hl 3 rfl) ?_
                refine lv_istore_n (lv' := [(2, .int most_75), (4, .int (-(((sX9_passes g_75.2.1 g_75.1 told g_75.2.2.1 g_75.2.2.2.1 g_75.2.2.2.2).1) 2))), (0, .ref h), (1, .int ticks), (3, .int k_75)]) hx hb dX9_farthest_123 rfl hl (by decide) rfl (fun ls hl => ?_)
                refine lv_iinc (v := k_75 + 1) (lv' := [(3, .int (k_75 + 1)), (2, .int most_75), (4, .int (-(((sX9_passes g_75.2.1 g_75.1 told g_75.2.2.1 g_75.2.2.2.1 g_75.2.2.2.2).1) 2))), (0, .ref h), (1, .int ticks)]) hx hb dX9_farthest_124 hl (k := 4) rfl (by rfl) (by decide) rfl (fun ls hl => ?_)
                refine lv_goto (tgt := 75) hx hb dX9_farthest_127 (by decide) ?_
                have hP := (x_pick hP (hX.d rfl) (w1 := [(td, .inl (E.2.1, 48, .inl told)), (rr, .inl (E.2.1, 49, .inl ((sX9_passes g_75.2.1 g_75.1 told g_75.2.2.1 g_75.2.2.2.1 g_75.2.2.2.2).2.2.1))), (ss, .inl (E.2.1, 49, .inl ((sX9_passes g_75.2.1 g_75.1 told g_75.2.2.1 g_75.2.2.2.1 g_75.2.2.2.2).2.2.2.1))), (tr, .inl (E.2.1, 14, .inl ((sX9_passes g_75.2.1 g_75.1 told g_75.2.2.1 g_75.2.2.2.1 g_75.2.2.2.2).2.2.2.2))), (h, .inr (9, [.int 0, .ref nw, .ref td, .ref tx, .int length, .int textSize, .int start, .int next, .int token, .int value, .int error, .int errorAt, .int seen, .int ((sX9_passes g_75.2.1 g_75.1 told g_75.2.2.1 g_75.2.2.2.1 g_75.2.2.2.2).2.1), .ref rr, .ref ss, .ref tr, .ref wa, .int undos, .ref ud, .ref sl, .ref sv])), (nw, .inl (E.2.1, 214, .inl ((sX9_passes g_75.2.1 g_75.1 told g_75.2.2.1 g_75.2.2.2.1 g_75.2.2.2.2).1))), (wa, .inl (E.2.1, 214, .inl q_4))]) [3, 4, 5, 6, 1, 2, 0] rfl rfl).1
                exact ih_75 (k_75 + 1) most_75 (sX9_passes g_75.2.1 g_75.1 told g_75.2.2.1 g_75.2.2.2.1 g_75.2.2.2.2) (x_step hi0_75 c_13) (x_tk htk_75 (x_pass _ _ _ _ _ _ (x_th htk_75 hi0_75 c_13 (x_within c_1).2 hT0 hT1) ha0_75 ha1_75 hb0_75 hb1_75).1 hi0_75 c_13 (x_within c_1).2 hT0 hT1) (x_pass _ _ _ _ _ _ (x_th htk_75 hi0_75 c_13 (x_within c_1).2 hT0 hT1) ha0_75 ha1_75 hb0_75 hb1_75).2.1 (x_pass _ _ _ _ _ _ (x_th htk_75 hi0_75 c_13 (x_within c_1).2 hT0 hT1) ha0_75 ha1_75 hb0_75 hb1_75).2.2.1 (x_pass _ _ _ _ _ _ (x_th htk_75 hi0_75 c_13 (x_within c_1).2 hT0 hT1) ha0_75 ha1_75 hb0_75 hb1_75).2.2.2.1 (x_pass _ _ _ _ _ _ (x_th htk_75 hi0_75 c_13 (x_within c_1).2 hT0 hT1) ha0_75 ha1_75 hb0_75 hb1_75).2.2.2.2 (x_mu hi0_75 c_13 hmu) _ _ hP hS ls (lv_sub hl [3, 4, 1, 0] rfl) (by rw [hlq_75]; rw [sX9_farthest_l75_s]; rw [if_neg c_13]; rw [if_neg c_15]; rw [if_pos c_17]; try rfl)
              · refine lv_iload hx hb dX9_farthest_117 (lv_at hl 0 rfl) ?_
                refine lv_goto (tgt := 123) hx hb dX9_farthest_119 (by decide) ?_
                refine lv_istore_n (lv' := [(2, .int (-(((sX9_passes g_75.2.1 g_75.1 told g_75.2.2.1 g_75.2.2.2.1 g_75.2.2.2.2).1) 2))), (4, .int (-(((sX9_passes g_75.2.1 g_75.1 told g_75.2.2.1 g_75.2.2.2.1 g_75.2.2.2.2).1) 2))), (0, .ref h), (1, .int ticks), (3, .int k_75)]) hx hb dX9_farthest_123 rfl hl (by decide) rfl (fun ls hl => ?_)
                refine lv_iinc (v := k_75 + 1) (lv' := [(3, .int (k_75 + 1)), (2, .int (-(((sX9_passes g_75.2.1 g_75.1 told g_75.2.2.1 g_75.2.2.2.1 g_75.2.2.2.2).1) 2))), (4, .int (-(((sX9_passes g_75.2.1 g_75.1 told g_75.2.2.1 g_75.2.2.2.1 g_75.2.2.2.2).1) 2))), (0, .ref h), (1, .int ticks)]) hx hb dX9_farthest_124 hl (k := 4) rfl (by rfl) (by decide) rfl (fun ls hl => ?_)
                refine lv_goto (tgt := 75) hx hb dX9_farthest_127 (by decide) ?_
                have hP := (x_pick hP (hX.d rfl) (w1 := [(td, .inl (E.2.1, 48, .inl told)), (rr, .inl (E.2.1, 49, .inl ((sX9_passes g_75.2.1 g_75.1 told g_75.2.2.1 g_75.2.2.2.1 g_75.2.2.2.2).2.2.1))), (ss, .inl (E.2.1, 49, .inl ((sX9_passes g_75.2.1 g_75.1 told g_75.2.2.1 g_75.2.2.2.1 g_75.2.2.2.2).2.2.2.1))), (tr, .inl (E.2.1, 14, .inl ((sX9_passes g_75.2.1 g_75.1 told g_75.2.2.1 g_75.2.2.2.1 g_75.2.2.2.2).2.2.2.2))), (h, .inr (9, [.int 0, .ref nw, .ref td, .ref tx, .int length, .int textSize, .int start, .int next, .int token, .int value, .int error, .int errorAt, .int seen, .int ((sX9_passes g_75.2.1 g_75.1 told g_75.2.2.1 g_75.2.2.2.1 g_75.2.2.2.2).2.1), .ref rr, .ref ss, .ref tr, .ref wa, .int undos, .ref ud, .ref sl, .ref sv])), (nw, .inl (E.2.1, 214, .inl ((sX9_passes g_75.2.1 g_75.1 told g_75.2.2.1 g_75.2.2.2.1 g_75.2.2.2.2).1))), (wa, .inl (E.2.1, 214, .inl q_4))]) [3, 4, 5, 6, 1, 2, 0] rfl rfl).1
                exact ih_75 (k_75 + 1) (-(((sX9_passes g_75.2.1 g_75.1 told g_75.2.2.1 g_75.2.2.2.1 g_75.2.2.2.2).1) 2)) (sX9_passes g_75.2.1 g_75.1 told g_75.2.2.1 g_75.2.2.2.1 g_75.2.2.2.2) (x_step hi0_75 c_13) (x_tk htk_75 (x_pass _ _ _ _ _ _ (x_th htk_75 hi0_75 c_13 (x_within c_1).2 hT0 hT1) ha0_75 ha1_75 hb0_75 hb1_75).1 hi0_75 c_13 (x_within c_1).2 hT0 hT1) (x_pass _ _ _ _ _ _ (x_th htk_75 hi0_75 c_13 (x_within c_1).2 hT0 hT1) ha0_75 ha1_75 hb0_75 hb1_75).2.1 (x_pass _ _ _ _ _ _ (x_th htk_75 hi0_75 c_13 (x_within c_1).2 hT0 hT1) ha0_75 ha1_75 hb0_75 hb1_75).2.2.1 (x_pass _ _ _ _ _ _ (x_th htk_75 hi0_75 c_13 (x_within c_1).2 hT0 hT1) ha0_75 ha1_75 hb0_75 hb1_75).2.2.2.1 (x_pass _ _ _ _ _ _ (x_th htk_75 hi0_75 c_13 (x_within c_1).2 hT0 hT1) ha0_75 ha1_75 hb0_75 hb1_75).2.2.2.2 (x_mu hi0_75 c_13 hmu) _ _ hP hS ls (lv_sub hl [3, 4, 1, 0] rfl) (by rw [hlq_75]; rw [sX9_farthest_l75_s]; rw [if_neg c_13]; rw [if_neg c_15]; rw [if_neg c_17]; try rfl)
      exact lp_75 (xMu ticks 0 + 1) 0 (-(now 2)) (now, triedWith, rs, fs, tri) (by decide) (x_tk0 _) ha0 ha1 hb0 hb1 (Nat.lt_succ_self _) _ _ hP hS ls (lv_sub hl [2, 3, 1, 0] rfl) (by unfold sX9_farthest; rw [if_neg c_1]; rw [← hq_4]; unfold sX9_farthest_q_4; rw [if_neg c_5]; try rfl)
  · refine lv_iconst (v := 1) hx hb dX9_farthest_17 (by decide) ?_
    refine lv_goto (tgt := 22) hx hb dX9_farthest_18 (by decide) ?_
    refine lv_iconst (v := 1) hx hb dX9_farthest_22 (by decide) ?_
    refine x_wV (wr := [(nw, .inl (E.2.1, 214, .inl now)), (td, .inl (E.2.1, 48, .inl told)), (rr, .inl (E.2.1, 49, .inl rs)), (ss, .inl (E.2.1, 49, .inl fs)), (tr, .inl (E.2.1, 14, .inl tri)), (wa, .inl (E.2.1, 214, .inl was))]) [.int 1, .int 1] (kX9_throwsIf_11 l E h nw td tx length textSize start next token value error errorAt seen triedWith rr ss tr wa undos ud sl sv) ⟨hx, hb, hml, hown, hts⟩ (cwV 2 hts gX9_farthest_X9_throwsIf rfl rfl rfl hdX9_throwsIf ⟨Nat.le_of_ble_eq_true rfl, Nat.le_of_ble_eq_true rfl⟩) hE hP (hX.d rfl) hS hA [0] [1, 2, 3, 4, 5, 6] rfl rfl rfl rfl (by decide) (ci := 9) (q0 := 0) rfl rfl rfl hl.1 rfl rfl (Nat.le_of_ble_eq_true rfl) dX9_farthest_23 (Nat.le_of_ble_eq_true rfl) (Nat.le_of_ble_eq_true rfl) (fun q_18 H locs hq_18 hP hD hS => ?_)
    have hP : va_P E.1 vwCl [(nw, .inl (E.2.1, 214, .inl now)), (td, .inl (E.2.1, 48, .inl told)), (rr, .inl (E.2.1, 49, .inl rs)), (ss, .inl (E.2.1, 49, .inl fs)), (tr, .inl (E.2.1, 14, .inl tri)), (wa, .inl (E.2.1, 214, .inl was)), (h, .inr (9, [.int 1, .ref nw, .ref td, .ref tx, .int length, .int textSize, .int start, .int next, .int token, .int value, .int error, .int errorAt, .int seen, .int triedWith, .ref rr, .ref ss, .ref tr, .ref wa, .int undos, .ref ud, .ref sl, .ref sv]))] H := hP
    have hX : xD A [nw, td, rr, ss, tr, wa, h] := xD.of hD rfl
    refine W.eq (g2 := F0 m 26 ls [.int 1]) rfl ?_
    refine lv_if_eq (tgt := 31) hx hb dX9_farthest_26 (by decide) (fun c_19 => absurd c_19 (by decide)) (fun c_19 => ?_)
    refine lv_iconst (v := 0) hx hb dX9_farthest_29 (by decide) ?_
    exact x_wi (0, 1, now, triedWith, rs, fs, tri, was) (by unfold sX9_farthest; rw [if_pos c_1]; try rfl) rfl hx hb hr hlk hS hP (hX.d rfl) [6, 0, 1, 2, 3, 4, 5] rfl rfl (Nat.le_of_ble_eq_true rfl) (Nat.le_of_ble_eq_true rfl) dX9_farthest_30
def sX9_linkAfter_l62 (told : Nat → Int32) (ticks : Int32) (kont_62 : Int32 → ((Nat → Int32) × Int32 × (Nat → Int32) × (Nat → Int32) × (Nat → Int32)) → Int32 × Int32 × (Nat → Int32) × Int32 × (Nat → Int32) × (Nat → Int32) × (Nat → Int32) × (Nat → Int32)) : Nat → Int32 → ((Nat → Int32) × Int32 × (Nat → Int32) × (Nat → Int32) × (Nat → Int32)) → Int32 × Int32 × (Nat → Int32) × Int32 × (Nat → Int32) × (Nat → Int32) × (Nat → Int32) × (Nat → Int32)
  | 0, k_62, g_62 => kont_62 k_62 g_62
  | kk_62 + 1, k_62, g_62 =>
    if ticks ≤ k_62 then
      kont_62 k_62 g_62
    else
      sX9_linkAfter_l62 told ticks kont_62 kk_62 (k_62 + 1) (sX9_passes g_62.2.1 g_62.1 told g_62.2.2.1 g_62.2.2.2.1 g_62.2.2.2.2)
theorem sX9_linkAfter_l62_s (told : Nat → Int32) (ticks : Int32) (kont_62 : Int32 → ((Nat → Int32) × Int32 × (Nat → Int32) × (Nat → Int32) × (Nat → Int32)) → Int32 × Int32 × (Nat → Int32) × Int32 × (Nat → Int32) × (Nat → Int32) × (Nat → Int32) × (Nat → Int32)) (kk_62 : Nat) (k_62 : Int32) (g_62 : (Nat → Int32) × Int32 × (Nat → Int32) × (Nat → Int32) × (Nat → Int32)) : sX9_linkAfter_l62 told ticks kont_62 (kk_62 + 1) k_62 g_62 =
    if ticks ≤ k_62 then
      kont_62 k_62 g_62
    else
      sX9_linkAfter_l62 told ticks kont_62 kk_62 (k_62 + 1) (sX9_passes g_62.2.1 g_62.1 told g_62.2.2.1 g_62.2.2.2.1 g_62.2.2.2.2) := rfl
def sX9_linkAfter_q_12 (triedWith : Int32) (now : Nat → Int32) (told : Nat → Int32) (rs : Nat → Int32) (fs : Nat → Int32) (tri : Nat → Int32) (was : Nat → Int32) (link : Int32) (what : Int32) (ticks : Int32) (q_12 : (Nat → Int32)) : Int32 × Int32 × (Nat → Int32) × Int32 × (Nat → Int32) × (Nat → Int32) × (Nat → Int32) × (Nat → Int32) :=
  sX9_linkAfter_l62 told ticks (fun (k_62 : Int32) (g_62 : (Nat → Int32) × Int32 × (Nat → Int32) × (Nat → Int32) × (Nat → Int32)) => (sX9_ofLink_g g_62.1 link what, 0, (sX9_copies q_12 g_62.1 0 0 214), g_62.2.1, g_62.2.2.1, g_62.2.2.2.1, g_62.2.2.2.2, q_12)) (xMu ticks 0 + 1) 0 (now, triedWith, rs, fs, tri)
def sX9_linkAfter (triedWith : Int32) (now : Nat → Int32) (told : Nat → Int32) (rs : Nat → Int32) (fs : Nat → Int32) (tri : Nat → Int32) (was : Nat → Int32) (link : Int32) (what : Int32) (ticks : Int32) : Int32 × Int32 × (Nat → Int32) × Int32 × (Nat → Int32) × (Nat → Int32) × (Nat → Int32) × (Nat → Int32) :=
  if (sX9_within link 1 2) = 0 then
    (0, 1, now, triedWith, rs, fs, tri, was)
  else
    if (sX9_within what 0 2) = 0 then
      (0, 2, now, triedWith, rs, fs, tri, was)
    else
      if (sX9_within ticks 0 1000) = 0 then
        (0, 2, now, triedWith, rs, fs, tri, was)
      else
        sX9_linkAfter_q_12 triedWith now told rs fs tri was link what ticks (sX9_copies now was 0 0 214)
theorem hdX9_linkAfter : yX9_linkAfter.cls = RX9 ∧ yX9_linkAfter.cls ≠ "java/lang/invoke/MethodHandle" ∧ yX9_linkAfter.cls ≠ "java/lang/invoke/VarHandle" ∧ (parseMethodDescriptor yX9_linkAfter.desc).map (fun d => d.parameters.length) = some 3 := by decide +kernel
set_option maxHeartbeats 4000000 in
set_option maxRecDepth 100000 in
theorem kX9_linkAfter (l : Launch) (E : XE) (h : Nat) (thrown : Int32) (nw : Nat) (td : Nat) (tx : Nat) (length : Int32) (textSize : Int32) (start : Int32) (next : Int32) (token : Int32) (value : Int32) (error : Int32) (errorAt : Int32) (seen : Int32) (triedWith : Int32) (rr : Nat) (ss : Nat) (tr : Nat) (wa : Nat) (undos : Int32) (ud : Nat) (sl : Nat) (sv : Nat) (now : Nat → Int32) (told : Nat → Int32) (rs : Nat → Int32) (fs : Nat → Int32) (tri : Nat → Int32) (was : Nat → Int32) (link : Int32) (what : Int32) (ticks : Int32) (hw1 : ¬ 2 * told 15 = 0) (hw2 : ¬ 2 * told 16 = 0) (hc3 : told 17 ≤ 3) (hc0 : 0 ≤ told 17) (hT0 : 0 ≤ (now 0).toInt) (hT1 : (now 0).toInt ≤ 100000) (ha0 : 0 ≤ now 10) (ha1 : now 10 < 4096) (hb0 : 0 ≤ now 11) (hb1 : now 11 < 4096) : xW (T := Int32 × Int32 × (Nat → Int32) × Int32 × (Nat → Int32) × (Nat → Int32) × (Nat → Int32) × (Nat → Int32)) l yX9_linkAfter wsX9_linkAfter ({ frames := 9, cells := 0, slots := 0, locals := 203 }) E [(h, .inr (9, [.int thrown, .ref nw, .ref td, .ref tx, .int length, .int textSize, .int start, .int next, .int token, .int value, .int error, .int errorAt, .int seen, .int triedWith, .ref rr, .ref ss, .ref tr, .ref wa, .int undos, .ref ud, .ref sl, .ref sv])), (nw, .inl (E.2.1, 214, .inl now)), (td, .inl (E.2.1, 48, .inl told)), (rr, .inl (E.2.1, 49, .inl rs)), (ss, .inl (E.2.1, 49, .inl fs)), (tr, .inl (E.2.1, 14, .inl tri)), (wa, .inl (E.2.1, 214, .inl was))] [.ref h, .int link, .int what, .int ticks] (fun q => some (.int q.1)) (fun q => [(h, .inr (9, [.int q.2.1, .ref nw, .ref td, .ref tx, .int length, .int textSize, .int start, .int next, .int token, .int value, .int error, .int errorAt, .int seen, .int q.2.2.2.1, .ref rr, .ref ss, .ref tr, .ref wa, .int undos, .ref ud, .ref sl, .ref sv])), (nw, .inl (E.2.1, 214, .inl q.2.2.1)), (td, .inl (E.2.1, 48, .inl told)), (rr, .inl (E.2.1, 49, .inl q.2.2.2.2.1)), (ss, .inl (E.2.1, 49, .inl q.2.2.2.2.2.1)), (tr, .inl (E.2.1, 14, .inl q.2.2.2.2.2.2.1)), (wa, .inl (E.2.1, 214, .inl q.2.2.2.2.2.2.2))]) (sX9_linkAfter triedWith now told rs fs tri was link what ticks) 0 0 := by
  refine xW.of (cc := cX9_linkAfter) (maxL := 5) (ret := (some .int)) (by decide) rfl (Nat.le_of_ble_eq_true rfl) ?_
  intro p e s m args below meth c ls A hM hE hP hD hS hA hl
  obtain ⟨hx, hb, hr, hml, hts, hown, hlk, hnm⟩ := hM
  have g_1 : (Cond.fieldLink RX9 7 "RailPendulumModel" "now" "[I").before args s = true := hts (Cond.fieldLink RX9 7 "RailPendulumModel" "now" "[I") (by decide +kernel)
  have g_2 : ∀ w ∈ wsX90, w ∈ wsX9_linkAfter := by decide +kernel
  have g_3 : (Cond.fieldLink RX9 33 "RailPendulumModel" "was" "[I").before args s = true := hts (Cond.fieldLink RX9 33 "RailPendulumModel" "was" "[I") (by decide +kernel)
  have hX : xD A [h, nw, td, rr, ss, tr, wa] := xD.of hD rfl
  have hl : lv_has ls 5 [(0, .ref h), (1, .int link), (2, .int what), (3, .int ticks)] := hl
  refine lv_aload_n hx hb dX9_linkAfter_0 rfl (lv_at hl 0 rfl) ?_
  refine lv_iload_n hx hb dX9_linkAfter_1 rfl (lv_at hl 1 rfl) ?_
  by_cases c_1 : (sX9_within link 1 2) = 0
  · refine x_wV (wr := [(nw, .inl (E.2.1, 214, .inl now)), (td, .inl (E.2.1, 48, .inl told)), (rr, .inl (E.2.1, 49, .inl rs)), (ss, .inl (E.2.1, 49, .inl fs)), (tr, .inl (E.2.1, 14, .inl tri)), (wa, .inl (E.2.1, 214, .inl was))]) [.int link] (kX9_noLink_bad l E h thrown nw td tx length textSize start next token value error errorAt seen triedWith rr ss tr wa undos ud sl sv link c_1) ⟨hx, hb, hml, hown, hts⟩ (cwV 1 hts gX9_linkAfter_X9_noLink rfl rfl rfl hdX9_noLink ⟨Nat.le_of_ble_eq_true rfl, Nat.le_of_ble_eq_true rfl⟩) hE hP (hX.d rfl) hS hA [0] [1, 2, 3, 4, 5, 6] rfl rfl rfl rfl (by decide) (ci := 9) (q0 := 0) rfl rfl rfl hl.1 rfl rfl (Nat.le_of_ble_eq_true rfl) dX9_linkAfter_2 (Nat.le_of_ble_eq_true rfl) (Nat.le_of_ble_eq_true rfl) (fun q_2 H locs hq_2 hP hD hS => ?_)
    have hP : va_P E.1 vwCl [(nw, .inl (E.2.1, 214, .inl now)), (td, .inl (E.2.1, 48, .inl told)), (rr, .inl (E.2.1, 49, .inl rs)), (ss, .inl (E.2.1, 49, .inl fs)), (tr, .inl (E.2.1, 14, .inl tri)), (wa, .inl (E.2.1, 214, .inl was)), (h, .inr (9, [.int 1, .ref nw, .ref td, .ref tx, .int length, .int textSize, .int start, .int next, .int token, .int value, .int error, .int errorAt, .int seen, .int triedWith, .ref rr, .ref ss, .ref tr, .ref wa, .int undos, .ref ud, .ref sl, .ref sv]))] H := hP
    have hX : xD A [nw, td, rr, ss, tr, wa, h] := xD.of hD rfl
    refine W.eq (g2 := F0 m 5 ls [.int 1]) rfl ?_
    refine lv_if_ne (tgt := 41) hx hb dX9_linkAfter_5 (by decide) (fun c_3 => ?_) (fun c_3 => absurd c_3 (by decide))
    refine lv_iconst (v := 0) hx hb dX9_linkAfter_41 (by decide) ?_
    exact x_wi (0, 1, now, triedWith, rs, fs, tri, was) (by unfold sX9_linkAfter; rw [if_pos c_1]; try rfl) rfl hx hb hr hlk hS hP (hX.d rfl) [6, 0, 1, 2, 3, 4, 5] rfl rfl (Nat.le_of_ble_eq_true rfl) (Nat.le_of_ble_eq_true rfl) dX9_linkAfter_42
  · refine x_wV (wr := [(nw, .inl (E.2.1, 214, .inl now)), (td, .inl (E.2.1, 48, .inl told)), (rr, .inl (E.2.1, 49, .inl rs)), (ss, .inl (E.2.1, 49, .inl fs)), (tr, .inl (E.2.1, 14, .inl tri)), (wa, .inl (E.2.1, 214, .inl was))]) [.int link] (kX9_noLink_ok l E h thrown nw td tx length textSize start next token value error errorAt seen triedWith rr ss tr wa undos ud sl sv link c_1) ⟨hx, hb, hml, hown, hts⟩ (cwV 1 hts gX9_linkAfter_X9_noLink rfl rfl rfl hdX9_noLink ⟨Nat.le_of_ble_eq_true rfl, Nat.le_of_ble_eq_true rfl⟩) hE hP (hX.d rfl) hS hA [0] [1, 2, 3, 4, 5, 6] rfl rfl rfl rfl (by decide) (ci := 9) (q0 := 0) rfl rfl rfl hl.1 rfl rfl (Nat.le_of_ble_eq_true rfl) dX9_linkAfter_2 (Nat.le_of_ble_eq_true rfl) (Nat.le_of_ble_eq_true rfl) (fun q_4 H locs hq_4 hP hD hS => ?_)
    have hP : va_P E.1 vwCl [(nw, .inl (E.2.1, 214, .inl now)), (td, .inl (E.2.1, 48, .inl told)), (rr, .inl (E.2.1, 49, .inl rs)), (ss, .inl (E.2.1, 49, .inl fs)), (tr, .inl (E.2.1, 14, .inl tri)), (wa, .inl (E.2.1, 214, .inl was)), (h, .inr (9, [.int 0, .ref nw, .ref td, .ref tx, .int length, .int textSize, .int start, .int next, .int token, .int value, .int error, .int errorAt, .int seen, .int triedWith, .ref rr, .ref ss, .ref tr, .ref wa, .int undos, .ref ud, .ref sl, .ref sv]))] H := hP
    have hX : xD A [nw, td, rr, ss, tr, wa, h] := xD.of hD rfl
    refine W.eq (g2 := F0 m 5 ls [.int 0]) rfl ?_
    refine lv_if_ne (tgt := 41) hx hb dX9_linkAfter_5 (by decide) (fun c_5 => absurd rfl c_5) (fun c_5 => ?_)
    refine lv_aload_n hx hb dX9_linkAfter_8 rfl (lv_at hl 0 rfl) ?_
    refine lv_iload_n hx hb dX9_linkAfter_9 rfl (lv_at hl 2 rfl) ?_
    refine lv_iconst (v := 0) hx hb dX9_linkAfter_10 (by decide) ?_
    refine lv_iconst (v := 2) hx hb dX9_linkAfter_11 (by decide) ?_
    refine x_rS [.int what, .int 0, .int 2] (kX9_within l E what 0 2) ⟨hx, hb, hml, hown, hts⟩ (va_cwS 3 hts gX9_linkAfter_X9_within rfl rfl rfl hdX9_within.2 ⟨Nat.le_of_ble_eq_true rfl, Nat.le_of_ble_eq_true rfl⟩) hE hP (hX.d rfl) [] rfl rfl hl.1 rfl rfl (Nat.le_of_ble_eq_true rfl) dX9_linkAfter_12 (Nat.le_of_ble_eq_true rfl) (Nat.le_of_ble_eq_true rfl) ?_
    refine lv_if_eq (tgt := 29) hx hb dX9_linkAfter_15 (by decide) (fun c_6 => ?_) (fun c_6 => ?_)
    · refine lv_iconst (v := 1) hx hb dX9_linkAfter_29 (by decide) ?_
      refine lv_goto (tgt := 34) hx hb dX9_linkAfter_30 (by decide) ?_
      refine lv_iconst (v := 2) hx hb dX9_linkAfter_34 (by decide) ?_
      refine x_wV (wr := [(nw, .inl (E.2.1, 214, .inl now)), (td, .inl (E.2.1, 48, .inl told)), (rr, .inl (E.2.1, 49, .inl rs)), (ss, .inl (E.2.1, 49, .inl fs)), (tr, .inl (E.2.1, 14, .inl tri)), (wa, .inl (E.2.1, 214, .inl was))]) [.int 1, .int 2] (kX9_throwsIf_12 l E h nw td tx length textSize start next token value error errorAt seen triedWith rr ss tr wa undos ud sl sv) ⟨hx, hb, hml, hown, hts⟩ (cwV 2 hts gX9_linkAfter_X9_throwsIf rfl rfl rfl hdX9_throwsIf ⟨Nat.le_of_ble_eq_true rfl, Nat.le_of_ble_eq_true rfl⟩) hE hP (hX.d rfl) hS hA [6] [0, 1, 2, 3, 4, 5] rfl rfl rfl rfl (by decide) (ci := 9) (q0 := 6) rfl rfl rfl hl.1 rfl rfl (Nat.le_of_ble_eq_true rfl) dX9_linkAfter_35 (Nat.le_of_ble_eq_true rfl) (Nat.le_of_ble_eq_true rfl) (fun q_7 H locs hq_7 hP hD hS => ?_)
      have hP : va_P E.1 vwCl [(nw, .inl (E.2.1, 214, .inl now)), (td, .inl (E.2.1, 48, .inl told)), (rr, .inl (E.2.1, 49, .inl rs)), (ss, .inl (E.2.1, 49, .inl fs)), (tr, .inl (E.2.1, 14, .inl tri)), (wa, .inl (E.2.1, 214, .inl was)), (h, .inr (9, [.int 2, .ref nw, .ref td, .ref tx, .int length, .int textSize, .int start, .int next, .int token, .int value, .int error, .int errorAt, .int seen, .int triedWith, .ref rr, .ref ss, .ref tr, .ref wa, .int undos, .ref ud, .ref sl, .ref sv]))] H := hP
      have hX : xD A [nw, td, rr, ss, tr, wa, h] := xD.of hD rfl
      refine W.eq (g2 := F0 m 38 ls [.int 1]) rfl ?_
      refine lv_if_eq (tgt := 43) hx hb dX9_linkAfter_38 (by decide) (fun c_8 => absurd c_8 (by decide)) (fun c_8 => ?_)
      refine lv_iconst (v := 0) hx hb dX9_linkAfter_41 (by decide) ?_
      exact x_wi (0, 2, now, triedWith, rs, fs, tri, was) (by unfold sX9_linkAfter; rw [if_neg c_1]; rw [if_pos c_6]; try rfl) rfl hx hb hr hlk hS hP (hX.d rfl) [6, 0, 1, 2, 3, 4, 5] rfl rfl (Nat.le_of_ble_eq_true rfl) (Nat.le_of_ble_eq_true rfl) dX9_linkAfter_42
    · refine lv_iload_n hx hb dX9_linkAfter_18 rfl (lv_at hl 3 rfl) ?_
      refine lv_iconst (v := 0) hx hb dX9_linkAfter_19 (by decide) ?_
      refine lv_sipush (v := 1000) hx hb dX9_linkAfter_20 (by decide) ?_
      refine x_rS [.int ticks, .int 0, .int 1000] (kX9_within l E ticks 0 1000) ⟨hx, hb, hml, hown, hts⟩ (va_cwS 3 hts gX9_linkAfter_X9_within rfl rfl rfl hdX9_within.2 ⟨Nat.le_of_ble_eq_true rfl, Nat.le_of_ble_eq_true rfl⟩) hE hP (hX.d rfl) [] rfl rfl hl.1 rfl rfl (Nat.le_of_ble_eq_true rfl) dX9_linkAfter_23 (Nat.le_of_ble_eq_true rfl) (Nat.le_of_ble_eq_true rfl) ?_
      refine lv_if_ne (tgt := 33) hx hb dX9_linkAfter_26 (by decide) (fun c_9 => ?_) (fun c_9 => ?_)
      · refine lv_iconst (v := 0) hx hb dX9_linkAfter_33 (by decide) ?_
        refine lv_iconst (v := 2) hx hb dX9_linkAfter_34 (by decide) ?_
        refine x_wV (wr := [(nw, .inl (E.2.1, 214, .inl now)), (td, .inl (E.2.1, 48, .inl told)), (rr, .inl (E.2.1, 49, .inl rs)), (ss, .inl (E.2.1, 49, .inl fs)), (tr, .inl (E.2.1, 14, .inl tri)), (wa, .inl (E.2.1, 214, .inl was))]) [.int 0, .int 2] (kX9_throwsIf_0 l E h nw td tx length textSize start next token value error errorAt seen triedWith rr ss tr wa undos ud sl sv 2) ⟨hx, hb, hml, hown, hts⟩ (cwV 2 hts gX9_linkAfter_X9_throwsIf rfl rfl rfl hdX9_throwsIf ⟨Nat.le_of_ble_eq_true rfl, Nat.le_of_ble_eq_true rfl⟩) hE hP (hX.d rfl) hS hA [6] [0, 1, 2, 3, 4, 5] rfl rfl rfl rfl (by decide) (ci := 9) (q0 := 6) rfl rfl rfl hl.1 rfl rfl (Nat.le_of_ble_eq_true rfl) dX9_linkAfter_35 (Nat.le_of_ble_eq_true rfl) (Nat.le_of_ble_eq_true rfl) (fun q_10 H locs hq_10 hP hD hS => ?_)
        have hP : va_P E.1 vwCl [(nw, .inl (E.2.1, 214, .inl now)), (td, .inl (E.2.1, 48, .inl told)), (rr, .inl (E.2.1, 49, .inl rs)), (ss, .inl (E.2.1, 49, .inl fs)), (tr, .inl (E.2.1, 14, .inl tri)), (wa, .inl (E.2.1, 214, .inl was)), (h, .inr (9, [.int 0, .ref nw, .ref td, .ref tx, .int length, .int textSize, .int start, .int next, .int token, .int value, .int error, .int errorAt, .int seen, .int triedWith, .ref rr, .ref ss, .ref tr, .ref wa, .int undos, .ref ud, .ref sl, .ref sv]))] H := hP
        have hX : xD A [nw, td, rr, ss, tr, wa, h] := xD.of hD rfl
        refine W.eq (g2 := F0 m 38 ls [.int 0]) rfl ?_
        refine lv_if_eq (tgt := 43) hx hb dX9_linkAfter_38 (by decide) (fun c_11 => ?_) (fun c_11 => absurd (by decide) c_11)
        refine lv_aload_n hx hb dX9_linkAfter_43 rfl (lv_at hl 0 rfl) ?_
        refine va_get (D := E.1) (ci := 9) (v := .ref nw) (C := RX9) (T := TX9) (N := 22) hx hb hts g_2 hown hE.1 hP 6 rfl rfl 1 (by decide) g_1 (fun _ h9 => h9) rfl dX9_linkAfter_44 ?_
        refine lv_iconst (v := 0) hx hb dX9_linkAfter_47 (by decide) ?_
        refine lv_aload_n hx hb dX9_linkAfter_48 rfl (lv_at hl 0 rfl) ?_
        refine va_get (D := E.1) (ci := 9) (v := .ref wa) (C := RX9) (T := TX9) (N := 22) hx hb hts g_2 hown hE.1 hP 6 rfl rfl 17 (by decide) g_3 (fun _ h9 => h9) rfl dX9_linkAfter_49 ?_
        refine lv_iconst (v := 0) hx hb dX9_linkAfter_52 (by decide) ?_
        refine lv_sipush (v := 214) hx hb dX9_linkAfter_53 (by decide) ?_
        refine x_wS (wr := [(td, .inl (E.2.1, 48, .inl told)), (rr, .inl (E.2.1, 49, .inl rs)), (ss, .inl (E.2.1, 49, .inl fs)), (tr, .inl (E.2.1, 14, .inl tri)), (h, .inr (9, [.int 0, .ref nw, .ref td, .ref tx, .int length, .int textSize, .int start, .int next, .int token, .int value, .int error, .int errorAt, .int seen, .int triedWith, .ref rr, .ref ss, .ref tr, .ref wa, .int undos, .ref ud, .ref sl, .ref sv]))]) [.ref nw, .int 0, .ref wa, .int 0, .int 214] (kX9_copies l E nw 214 now wa 214 was 0 0 214 (by decide) (by decide) (by decide) (by decide) (by decide) (by decide)) ⟨hx, hb, hml, hown, hts⟩ (va_cwS 5 hts gX9_linkAfter_X9_copies rfl rfl rfl hdX9_copies.2 ⟨Nat.le_of_ble_eq_true rfl, Nat.le_of_ble_eq_true rfl⟩) hE hP (hX.d rfl) hS hA [0, 5] [1, 2, 3, 4, 6] rfl rfl rfl rfl (by decide) hl.1 rfl rfl (Nat.le_of_ble_eq_true rfl) dX9_linkAfter_56 (Nat.le_of_ble_eq_true rfl) (Nat.le_of_ble_eq_true rfl) (fun q_12 H locs hq_12 hP hD hS => ?_)
        have hP : va_P E.1 vwCl [(td, .inl (E.2.1, 48, .inl told)), (rr, .inl (E.2.1, 49, .inl rs)), (ss, .inl (E.2.1, 49, .inl fs)), (tr, .inl (E.2.1, 14, .inl tri)), (h, .inr (9, [.int 0, .ref nw, .ref td, .ref tx, .int length, .int textSize, .int start, .int next, .int token, .int value, .int error, .int errorAt, .int seen, .int triedWith, .ref rr, .ref ss, .ref tr, .ref wa, .int undos, .ref ud, .ref sl, .ref sv])), (nw, .inl (E.2.1, 214, .inl now)), (wa, .inl (E.2.1, 214, .inl q_12))] H := hP
        have hX : xD A [td, rr, ss, tr, h, nw, wa] := xD.of hD rfl
        refine W.eq (g2 := F0 m 59 ls []) rfl ?_
        refine lv_iconst (v := 0) hx hb dX9_linkAfter_59 (by decide) ?_
        refine lv_istore (lv' := [(4, .int 0), (0, .ref h), (1, .int link), (2, .int what), (3, .int ticks)]) hx hb dX9_linkAfter_60 hl (by decide) rfl (fun ls hl => ?_)
        have ex_62 : ∀ (k_62 : Int32) (g_62 : (Nat → Int32) × Int32 × (Nat → Int32) × (Nat → Int32) × (Nat → Int32)), (¬ k_62 < 0) → ((g_62.1 0).toInt = (now 0).toInt + k_62.toInt) → (0 ≤ g_62.1 10) → (g_62.1 10 < 4096) → (0 ≤ g_62.1 11) → (g_62.1 11 < 4096) → ∀ (H : Heap) (locs : List Loc), va_P E.1 vwCl [(td, .inl (E.2.1, 48, .inl told)), (rr, .inl (E.2.1, 49, .inl g_62.2.2.1)), (ss, .inl (E.2.1, 49, .inl g_62.2.2.2.1)), (tr, .inl (E.2.1, 14, .inl g_62.2.2.2.2)), (h, .inr (9, [.int 0, .ref nw, .ref td, .ref tx, .int length, .int textSize, .int start, .int next, .int token, .int value, .int error, .int errorAt, .int seen, .int g_62.2.1, .ref rr, .ref ss, .ref tr, .ref wa, .int undos, .ref ud, .ref sl, .ref sv])), (nw, .inl (E.2.1, 214, .inl g_62.1)), (wa, .inl (E.2.1, 214, .inl q_12))] H → va_S A s.heap H locs → ∀ (ls : Array Slot), lv_has ls 5 [(0, .ref h), (1, .int link), (2, .int what), (3, .int ticks), (4, .int k_62)] → (sX9_linkAfter triedWith now told rs fs tri was link what ticks) = ((sX9_ofLink_g g_62.1 link what, 0, (sX9_copies q_12 g_62.1 0 0 214), g_62.2.1, g_62.2.2.1, g_62.2.2.2.1, g_62.2.2.2.2, q_12)) → W p l e ({ frames := 9, cells := 0, slots := 0, locals := 203 }) s m args below meth c H locs 0 0 (MQ below (xO (T := Int32 × Int32 × (Nat → Int32) × Int32 × (Nat → Int32) × (Nat → Int32) × (Nat → Int32) × (Nat → Int32)) E A (fun q => some (.int q.1)) (fun q => [(h, .inr (9, [.int q.2.1, .ref nw, .ref td, .ref tx, .int length, .int textSize, .int start, .int next, .int token, .int value, .int error, .int errorAt, .int seen, .int q.2.2.2.1, .ref rr, .ref ss, .ref tr, .ref wa, .int undos, .ref ud, .ref sl, .ref sv])), (nw, .inl (E.2.1, 214, .inl q.2.2.1)), (td, .inl (E.2.1, 48, .inl told)), (rr, .inl (E.2.1, 49, .inl q.2.2.2.2.1)), (ss, .inl (E.2.1, 49, .inl q.2.2.2.2.2.1)), (tr, .inl (E.2.1, 14, .inl q.2.2.2.2.2.2.1)), (wa, .inl (E.2.1, 214, .inl q.2.2.2.2.2.2.2))]) (sX9_linkAfter triedWith now told rs fs tri was link what ticks)) args s 0 0 A) (F0 m 78 ls []) := by
          intro k_62 g_62 hi0_62 htk_62 ha0_62 ha1_62 hb0_62 hb1_62 H locs hP hS ls hl hx_62
          refine lv_aload_n hx hb dX9_linkAfter_78 rfl (lv_at hl 0 rfl) ?_
          refine lv_iload_n hx hb dX9_linkAfter_79 rfl (lv_at hl 1 rfl) ?_
          refine lv_iload_n hx hb dX9_linkAfter_80 rfl (lv_at hl 2 rfl) ?_
          refine x_rV [.int link, .int what] (kX9_ofLink_g l E h 0 nw td tx length textSize start next token value error errorAt seen g_62.2.1 rr ss tr wa undos ud sl sv g_62.1 link what (x_lk c_1)) ⟨hx, hb, hml, hown, hts⟩ (cwV 2 hts gX9_linkAfter_X9_ofLink rfl rfl rfl hdX9_ofLink ⟨Nat.le_of_ble_eq_true rfl, Nat.le_of_ble_eq_true rfl⟩) hE hP (hX.d rfl) [4, 5] rfl rfl (ci := 9) (q0 := 4) rfl rfl rfl hl.1 rfl rfl (Nat.le_of_ble_eq_true rfl) dX9_linkAfter_81 (Nat.le_of_ble_eq_true rfl) (Nat.le_of_ble_eq_true rfl) ?_
          refine lv_istore (lv' := [(4, .int (sX9_ofLink_g g_62.1 link what)), (0, .ref h), (1, .int link), (2, .int what), (3, .int ticks)]) hx hb dX9_linkAfter_84 hl (by decide) rfl (fun ls hl => ?_)
          refine lv_aload_n hx hb dX9_linkAfter_86 rfl (lv_at hl 1 rfl) ?_
          refine va_get (D := E.1) (ci := 9) (v := .ref wa) (C := RX9) (T := TX9) (N := 22) hx hb hts g_2 hown hE.1 hP 4 rfl rfl 17 (by decide) g_3 (fun _ h9 => h9) rfl dX9_linkAfter_87 ?_
          refine lv_iconst (v := 0) hx hb dX9_linkAfter_90 (by decide) ?_
          refine lv_aload_n hx hb dX9_linkAfter_91 rfl (lv_at hl 1 rfl) ?_
          refine va_get (D := E.1) (ci := 9) (v := .ref nw) (C := RX9) (T := TX9) (N := 22) hx hb hts g_2 hown hE.1 hP 4 rfl rfl 1 (by decide) g_1 (fun _ h9 => h9) rfl dX9_linkAfter_92 ?_
          refine lv_iconst (v := 0) hx hb dX9_linkAfter_95 (by decide) ?_
          refine lv_sipush (v := 214) hx hb dX9_linkAfter_96 (by decide) ?_
          refine x_wS (wr := [(td, .inl (E.2.1, 48, .inl told)), (rr, .inl (E.2.1, 49, .inl g_62.2.2.1)), (ss, .inl (E.2.1, 49, .inl g_62.2.2.2.1)), (tr, .inl (E.2.1, 14, .inl g_62.2.2.2.2)), (h, .inr (9, [.int 0, .ref nw, .ref td, .ref tx, .int length, .int textSize, .int start, .int next, .int token, .int value, .int error, .int errorAt, .int seen, .int g_62.2.1, .ref rr, .ref ss, .ref tr, .ref wa, .int undos, .ref ud, .ref sl, .ref sv]))]) [.ref wa, .int 0, .ref nw, .int 0, .int 214] (kX9_copies l E wa 214 q_12 nw 214 g_62.1 0 0 214 (by decide) (by decide) (by decide) (by decide) (by decide) (by decide)) ⟨hx, hb, hml, hown, hts⟩ (va_cwS 5 hts gX9_linkAfter_X9_copies rfl rfl rfl hdX9_copies.2 ⟨Nat.le_of_ble_eq_true rfl, Nat.le_of_ble_eq_true rfl⟩) hE hP (hX.d rfl) hS hA [6, 5] [0, 1, 2, 3, 4] rfl rfl rfl rfl (by decide) hl.1 rfl rfl (Nat.le_of_ble_eq_true rfl) dX9_linkAfter_99 (Nat.le_of_ble_eq_true rfl) (Nat.le_of_ble_eq_true rfl) (fun q_13 H locs hq_13 hP hD hS => ?_)
          subst hq_13
          have hP : va_P E.1 vwCl [(td, .inl (E.2.1, 48, .inl told)), (rr, .inl (E.2.1, 49, .inl g_62.2.2.1)), (ss, .inl (E.2.1, 49, .inl g_62.2.2.2.1)), (tr, .inl (E.2.1, 14, .inl g_62.2.2.2.2)), (h, .inr (9, [.int 0, .ref nw, .ref td, .ref tx, .int length, .int textSize, .int start, .int next, .int token, .int value, .int error, .int errorAt, .int seen, .int g_62.2.1, .ref rr, .ref ss, .ref tr, .ref wa, .int undos, .ref ud, .ref sl, .ref sv])), (wa, .inl (E.2.1, 214, .inl q_12)), (nw, .inl (E.2.1, 214, .inl (sX9_copies q_12 g_62.1 0 0 214)))] H := hP
          have hX : xD A [td, rr, ss, tr, h, wa, nw] := xD.of hD rfl
          refine W.eq (g2 := F0 m 102 ls []) rfl ?_
          refine lv_iload hx hb dX9_linkAfter_102 (lv_at hl 0 rfl) ?_
          exact x_wi (sX9_ofLink_g g_62.1 link what, 0, (sX9_copies q_12 g_62.1 0 0 214), g_62.2.1, g_62.2.2.1, g_62.2.2.2.1, g_62.2.2.2.2, q_12) (by rw [hx_62]; try rfl) rfl hx hb hr hlk hS hP (hX.d rfl) [4, 6, 0, 1, 2, 3, 5] rfl rfl (Nat.le_of_ble_eq_true rfl) (Nat.le_of_ble_eq_true rfl) dX9_linkAfter_104
        have lp_62 : ∀ (kk_62 : Nat), ∀ (k_62 : Int32) (g_62 : (Nat → Int32) × Int32 × (Nat → Int32) × (Nat → Int32) × (Nat → Int32)), (¬ k_62 < 0) → ((g_62.1 0).toInt = (now 0).toInt + k_62.toInt) → (0 ≤ g_62.1 10) → (g_62.1 10 < 4096) → (0 ≤ g_62.1 11) → (g_62.1 11 < 4096) → (xMu ticks k_62) < kk_62 → ∀ (H : Heap) (locs : List Loc), va_P E.1 vwCl [(td, .inl (E.2.1, 48, .inl told)), (rr, .inl (E.2.1, 49, .inl g_62.2.2.1)), (ss, .inl (E.2.1, 49, .inl g_62.2.2.2.1)), (tr, .inl (E.2.1, 14, .inl g_62.2.2.2.2)), (h, .inr (9, [.int 0, .ref nw, .ref td, .ref tx, .int length, .int textSize, .int start, .int next, .int token, .int value, .int error, .int errorAt, .int seen, .int g_62.2.1, .ref rr, .ref ss, .ref tr, .ref wa, .int undos, .ref ud, .ref sl, .ref sv])), (nw, .inl (E.2.1, 214, .inl g_62.1)), (wa, .inl (E.2.1, 214, .inl q_12))] H → va_S A s.heap H locs → ∀ (ls : Array Slot), lv_has ls 5 [(0, .ref h), (1, .int link), (2, .int what), (3, .int ticks), (4, .int k_62)] → (sX9_linkAfter triedWith now told rs fs tri was link what ticks) = sX9_linkAfter_l62 told ticks (fun (k_62 : Int32) (g_62 : (Nat → Int32) × Int32 × (Nat → Int32) × (Nat → Int32) × (Nat → Int32)) => (sX9_ofLink_g g_62.1 link what, 0, (sX9_copies q_12 g_62.1 0 0 214), g_62.2.1, g_62.2.2.1, g_62.2.2.2.1, g_62.2.2.2.2, q_12)) kk_62 k_62 g_62 → W p l e ({ frames := 9, cells := 0, slots := 0, locals := 203 }) s m args below meth c H locs 0 0 (MQ below (xO (T := Int32 × Int32 × (Nat → Int32) × Int32 × (Nat → Int32) × (Nat → Int32) × (Nat → Int32) × (Nat → Int32)) E A (fun q => some (.int q.1)) (fun q => [(h, .inr (9, [.int q.2.1, .ref nw, .ref td, .ref tx, .int length, .int textSize, .int start, .int next, .int token, .int value, .int error, .int errorAt, .int seen, .int q.2.2.2.1, .ref rr, .ref ss, .ref tr, .ref wa, .int undos, .ref ud, .ref sl, .ref sv])), (nw, .inl (E.2.1, 214, .inl q.2.2.1)), (td, .inl (E.2.1, 48, .inl told)), (rr, .inl (E.2.1, 49, .inl q.2.2.2.2.1)), (ss, .inl (E.2.1, 49, .inl q.2.2.2.2.2.1)), (tr, .inl (E.2.1, 14, .inl q.2.2.2.2.2.2.1)), (wa, .inl (E.2.1, 214, .inl q.2.2.2.2.2.2.2))]) (sX9_linkAfter triedWith now told rs fs tri was link what ticks)) args s 0 0 A) (F0 m 62 ls []) := by
          intro kk_62
          induction kk_62 with
          | zero =>
            intro k_62 g_62 hi0_62 htk_62 ha0_62 ha1_62 hb0_62 hb1_62 hmu
            exact absurd hmu (Nat.not_lt_zero _)
          | succ kk_62 ih_62 =>
            intro k_62 g_62 hi0_62 htk_62 ha0_62 ha1_62 hb0_62 hb1_62 hmu H locs hP hS ls hl hlq_62
            refine lv_iload hx hb dX9_linkAfter_62 (lv_at hl 4 rfl) ?_
            refine lv_iload_n hx hb dX9_linkAfter_64 rfl (lv_at hl 3 rfl) ?_
            refine lv_icmp_ge (tgt := 78) hx hb dX9_linkAfter_65 (by decide) (fun c_14 => ?_) (fun c_14 => ?_)
            · exact ex_62 k_62 g_62 hi0_62 htk_62 ha0_62 ha1_62 hb0_62 hb1_62 _ _ hP hS ls (lv_sub hl [0, 1, 2, 3, 4] rfl) (by rw [hlq_62]; rw [sX9_linkAfter_l62_s]; rw [if_pos c_14]; try rfl)
            · refine lv_aload_n hx hb dX9_linkAfter_68 rfl (lv_at hl 0 rfl) ?_
              refine x_wV (wr := [(wa, .inl (E.2.1, 214, .inl q_12))]) [] (kX9_passes l E h 0 nw td tx length textSize start next token value error errorAt seen g_62.2.1 rr ss tr wa undos ud sl sv g_62.1 told g_62.2.2.1 g_62.2.2.2.1 g_62.2.2.2.2 hw1 hw2 hc3 hc0 (x_th htk_62 hi0_62 c_14 (x_within c_9).2 hT0 hT1) ha0_62 ha1_62 hb0_62 hb1_62) ⟨hx, hb, hml, hown, hts⟩ (cwV 0 hts gX9_linkAfter_X9_passes rfl rfl rfl hdX9_passes ⟨Nat.le_of_ble_eq_true rfl, Nat.le_of_ble_eq_true rfl⟩) hE hP (hX.d rfl) hS hA [4, 5, 0, 1, 2, 3] [6] rfl rfl rfl rfl (by decide) (ci := 9) (q0 := 4) rfl rfl rfl hl.1 rfl rfl (Nat.le_of_ble_eq_true rfl) dX9_linkAfter_69 (Nat.le_of_ble_eq_true rfl) (Nat.le_of_ble_eq_true rfl) (fun q_15 H locs hq_15 hP hD hS => ?_)
              subst hq_15
              have hP : va_P E.1 vwCl [(wa, .inl (E.2.1, 214, .inl q_12)), (h, .inr (9, [.int 0, .ref nw, .ref td, .ref tx, .int length, .int textSize, .int start, .int next, .int token, .int value, .int error, .int errorAt, .int seen, .int ((sX9_passes g_62.2.1 g_62.1 told g_62.2.2.1 g_62.2.2.2.1 g_62.2.2.2.2).2.1), .ref rr, .ref ss, .ref tr, .ref wa, .int undos, .ref ud, .ref sl, .ref sv])), (nw, .inl (E.2.1, 214, .inl ((sX9_passes g_62.2.1 g_62.1 told g_62.2.2.1 g_62.2.2.2.1 g_62.2.2.2.2).1))), (td, .inl (E.2.1, 48, .inl told)), (rr, .inl (E.2.1, 49, .inl ((sX9_passes g_62.2.1 g_62.1 told g_62.2.2.1 g_62.2.2.2.1 g_62.2.2.2.2).2.2.1))), (ss, .inl (E.2.1, 49, .inl ((sX9_passes g_62.2.1 g_62.1 told g_62.2.2.1 g_62.2.2.2.1 g_62.2.2.2.2).2.2.2.1))), (tr, .inl (E.2.1, 14, .inl ((sX9_passes g_62.2.1 g_62.1 told g_62.2.2.1 g_62.2.2.2.1 g_62.2.2.2.2).2.2.2.2)))] H := hP
              have hX : xD A [wa, h, nw, td, rr, ss, tr] := xD.of hD rfl
              refine W.eq (g2 := F0 m 72 ls []) rfl ?_
              refine lv_iinc (v := k_62 + 1) (lv' := [(4, .int (k_62 + 1)), (0, .ref h), (1, .int link), (2, .int what), (3, .int ticks)]) hx hb dX9_linkAfter_72 hl (k := 4) rfl (by rfl) (by decide) rfl (fun ls hl => ?_)
              refine lv_goto (tgt := 62) hx hb dX9_linkAfter_75 (by decide) ?_
              have hP := (x_pick hP (hX.d rfl) (w1 := [(td, .inl (E.2.1, 48, .inl told)), (rr, .inl (E.2.1, 49, .inl ((sX9_passes g_62.2.1 g_62.1 told g_62.2.2.1 g_62.2.2.2.1 g_62.2.2.2.2).2.2.1))), (ss, .inl (E.2.1, 49, .inl ((sX9_passes g_62.2.1 g_62.1 told g_62.2.2.1 g_62.2.2.2.1 g_62.2.2.2.2).2.2.2.1))), (tr, .inl (E.2.1, 14, .inl ((sX9_passes g_62.2.1 g_62.1 told g_62.2.2.1 g_62.2.2.2.1 g_62.2.2.2.2).2.2.2.2))), (h, .inr (9, [.int 0, .ref nw, .ref td, .ref tx, .int length, .int textSize, .int start, .int next, .int token, .int value, .int error, .int errorAt, .int seen, .int ((sX9_passes g_62.2.1 g_62.1 told g_62.2.2.1 g_62.2.2.2.1 g_62.2.2.2.2).2.1), .ref rr, .ref ss, .ref tr, .ref wa, .int undos, .ref ud, .ref sl, .ref sv])), (nw, .inl (E.2.1, 214, .inl ((sX9_passes g_62.2.1 g_62.1 told g_62.2.2.1 g_62.2.2.2.1 g_62.2.2.2.2).1))), (wa, .inl (E.2.1, 214, .inl q_12))]) [3, 4, 5, 6, 1, 2, 0] rfl rfl).1
              exact ih_62 (k_62 + 1) (sX9_passes g_62.2.1 g_62.1 told g_62.2.2.1 g_62.2.2.2.1 g_62.2.2.2.2) (x_step hi0_62 c_14) (x_tk htk_62 (x_pass _ _ _ _ _ _ (x_th htk_62 hi0_62 c_14 (x_within c_9).2 hT0 hT1) ha0_62 ha1_62 hb0_62 hb1_62).1 hi0_62 c_14 (x_within c_9).2 hT0 hT1) (x_pass _ _ _ _ _ _ (x_th htk_62 hi0_62 c_14 (x_within c_9).2 hT0 hT1) ha0_62 ha1_62 hb0_62 hb1_62).2.1 (x_pass _ _ _ _ _ _ (x_th htk_62 hi0_62 c_14 (x_within c_9).2 hT0 hT1) ha0_62 ha1_62 hb0_62 hb1_62).2.2.1 (x_pass _ _ _ _ _ _ (x_th htk_62 hi0_62 c_14 (x_within c_9).2 hT0 hT1) ha0_62 ha1_62 hb0_62 hb1_62).2.2.2.1 (x_pass _ _ _ _ _ _ (x_th htk_62 hi0_62 c_14 (x_within c_9).2 hT0 hT1) ha0_62 ha1_62 hb0_62 hb1_62).2.2.2.2 (x_mu hi0_62 c_14 hmu) _ _ hP hS ls (lv_sub hl [1, 2, 3, 4, 0] rfl) (by rw [hlq_62]; rw [sX9_linkAfter_l62_s]; rw [if_neg c_14]; try rfl)
        exact lp_62 (xMu ticks 0 + 1) 0 (now, triedWith, rs, fs, tri) (by decide) (x_tk0 _) ha0 ha1 hb0 hb1 (Nat.lt_succ_self _) _ _ hP hS ls (lv_sub hl [1, 2, 3, 4, 0] rfl) (by unfold sX9_linkAfter; rw [if_neg c_1]; rw [if_neg c_6]; rw [if_neg c_9]; rw [← hq_12]; unfold sX9_linkAfter_q_12; try rfl)
      · refine lv_iconst (v := 1) hx hb dX9_linkAfter_29 (by decide) ?_
        refine lv_goto (tgt := 34) hx hb dX9_linkAfter_30 (by decide) ?_
        refine lv_iconst (v := 2) hx hb dX9_linkAfter_34 (by decide) ?_
        refine x_wV (wr := [(nw, .inl (E.2.1, 214, .inl now)), (td, .inl (E.2.1, 48, .inl told)), (rr, .inl (E.2.1, 49, .inl rs)), (ss, .inl (E.2.1, 49, .inl fs)), (tr, .inl (E.2.1, 14, .inl tri)), (wa, .inl (E.2.1, 214, .inl was))]) [.int 1, .int 2] (kX9_throwsIf_12 l E h nw td tx length textSize start next token value error errorAt seen triedWith rr ss tr wa undos ud sl sv) ⟨hx, hb, hml, hown, hts⟩ (cwV 2 hts gX9_linkAfter_X9_throwsIf rfl rfl rfl hdX9_throwsIf ⟨Nat.le_of_ble_eq_true rfl, Nat.le_of_ble_eq_true rfl⟩) hE hP (hX.d rfl) hS hA [6] [0, 1, 2, 3, 4, 5] rfl rfl rfl rfl (by decide) (ci := 9) (q0 := 6) rfl rfl rfl hl.1 rfl rfl (Nat.le_of_ble_eq_true rfl) dX9_linkAfter_35 (Nat.le_of_ble_eq_true rfl) (Nat.le_of_ble_eq_true rfl) (fun q_16 H locs hq_16 hP hD hS => ?_)
        have hP : va_P E.1 vwCl [(nw, .inl (E.2.1, 214, .inl now)), (td, .inl (E.2.1, 48, .inl told)), (rr, .inl (E.2.1, 49, .inl rs)), (ss, .inl (E.2.1, 49, .inl fs)), (tr, .inl (E.2.1, 14, .inl tri)), (wa, .inl (E.2.1, 214, .inl was)), (h, .inr (9, [.int 2, .ref nw, .ref td, .ref tx, .int length, .int textSize, .int start, .int next, .int token, .int value, .int error, .int errorAt, .int seen, .int triedWith, .ref rr, .ref ss, .ref tr, .ref wa, .int undos, .ref ud, .ref sl, .ref sv]))] H := hP
        have hX : xD A [nw, td, rr, ss, tr, wa, h] := xD.of hD rfl
        refine W.eq (g2 := F0 m 38 ls [.int 1]) rfl ?_
        refine lv_if_eq (tgt := 43) hx hb dX9_linkAfter_38 (by decide) (fun c_17 => absurd c_17 (by decide)) (fun c_17 => ?_)
        refine lv_iconst (v := 0) hx hb dX9_linkAfter_41 (by decide) ?_
        exact x_wi (0, 2, now, triedWith, rs, fs, tri, was) (by unfold sX9_linkAfter; rw [if_neg c_1]; rw [if_neg c_6]; rw [if_pos c_9]; try rfl) rfl hx hb hr hlk hS hP (hX.d rfl) [6, 0, 1, 2, 3, 4, 5] rfl rfl (Nat.le_of_ble_eq_true rfl) (Nat.le_of_ble_eq_true rfl) dX9_linkAfter_42
def sX9_run_l64 (told : Nat → Int32) (ticks : Int32) (kont_64 : Int32 → ((Nat → Int32) × Int32 × (Nat → Int32) × (Nat → Int32) × (Nat → Int32)) → Int32 × Int32 × (Nat → Int32) × Int32 × (Nat → Int32) × (Nat → Int32) × (Nat → Int32) × Int32 × (Nat → Int32)) : Nat → Int32 → ((Nat → Int32) × Int32 × (Nat → Int32) × (Nat → Int32) × (Nat → Int32)) → Int32 × Int32 × (Nat → Int32) × Int32 × (Nat → Int32) × (Nat → Int32) × (Nat → Int32) × Int32 × (Nat → Int32)
  | 0, k_64, g_64 => kont_64 k_64 g_64
  | kk_64 + 1, k_64, g_64 =>
    if ticks ≤ k_64 then
      kont_64 k_64 g_64
    else
      sX9_run_l64 told ticks kont_64 kk_64 (k_64 + 1) (sX9_passes g_64.2.1 g_64.1 told g_64.2.2.1 g_64.2.2.2.1 g_64.2.2.2.2)
theorem sX9_run_l64_s (told : Nat → Int32) (ticks : Int32) (kont_64 : Int32 → ((Nat → Int32) × Int32 × (Nat → Int32) × (Nat → Int32) × (Nat → Int32)) → Int32 × Int32 × (Nat → Int32) × Int32 × (Nat → Int32) × (Nat → Int32) × (Nat → Int32) × Int32 × (Nat → Int32)) (kk_64 : Nat) (k_64 : Int32) (g_64 : (Nat → Int32) × Int32 × (Nat → Int32) × (Nat → Int32) × (Nat → Int32)) : sX9_run_l64 told ticks kont_64 (kk_64 + 1) k_64 g_64 =
    if ticks ≤ k_64 then
      kont_64 k_64 g_64
    else
      sX9_run_l64 told ticks kont_64 kk_64 (k_64 + 1) (sX9_passes g_64.2.1 g_64.1 told g_64.2.2.1 g_64.2.2.2.1 g_64.2.2.2.2) := rfl
def sX9_run_q_7 (triedWith : Int32) (undos : Int32) (now : Nat → Int32) (told : Nat → Int32) (rs : Nat → Int32) (fs : Nat → Int32) (tri : Nat → Int32) (und : Nat → Int32) (ticks : Int32) (q_7 : Int32 × (Nat → Int32)) : Int32 × Int32 × (Nat → Int32) × Int32 × (Nat → Int32) × (Nat → Int32) × (Nat → Int32) × Int32 × (Nat → Int32) :=
  sX9_run_l64 told ticks (fun (k_64 : Int32) (g_64 : (Nat → Int32) × Int32 × (Nat → Int32) × (Nat → Int32) × (Nat → Int32)) => (g_64.1 1, 0, g_64.1, g_64.2.1, g_64.2.2.1, g_64.2.2.2.1, g_64.2.2.2.2, q_7.1, q_7.2)) (xMu ticks 0 + 1) 0 (now, triedWith, rs, fs, tri)
def sX9_run (triedWith : Int32) (undos : Int32) (now : Nat → Int32) (told : Nat → Int32) (rs : Nat → Int32) (fs : Nat → Int32) (tri : Nat → Int32) (und : Nat → Int32) (ticks : Int32) : Int32 × Int32 × (Nat → Int32) × Int32 × (Nat → Int32) × (Nat → Int32) × (Nat → Int32) × Int32 × (Nat → Int32) :=
  if (sX9_within ticks 1 1000) = 0 then
    (0, 1, now, triedWith, rs, fs, tri, undos, und)
  else
    if ((now 0) + ticks) ≤ 9999 then
      sX9_run_q_7 triedWith undos now told rs fs tri und ticks (sX9_keeps undos now und)
    else
      (0, 2, now, triedWith, rs, fs, tri, undos, und)
theorem hdX9_run : yX9_run.cls = RX9 ∧ yX9_run.cls ≠ "java/lang/invoke/MethodHandle" ∧ yX9_run.cls ≠ "java/lang/invoke/VarHandle" ∧ (parseMethodDescriptor yX9_run.desc).map (fun d => d.parameters.length) = some 1 := by decide +kernel
set_option maxHeartbeats 4000000 in
set_option maxRecDepth 100000 in
theorem kX9_run (l : Launch) (E : XE) (h : Nat) (thrown : Int32) (nw : Nat) (td : Nat) (tx : Nat) (length : Int32) (textSize : Int32) (start : Int32) (next : Int32) (token : Int32) (value : Int32) (error : Int32) (errorAt : Int32) (seen : Int32) (triedWith : Int32) (rr : Nat) (ss : Nat) (tr : Nat) (wa : Nat) (undos : Int32) (ud : Nat) (sl : Nat) (sv : Nat) (now : Nat → Int32) (told : Nat → Int32) (rs : Nat → Int32) (fs : Nat → Int32) (tri : Nat → Int32) (und : Nat → Int32) (ticks : Int32) (hw1 : ¬ 2 * told 15 = 0) (hw2 : ¬ 2 * told 16 = 0) (hc3 : told 17 ≤ 3) (hc0 : 0 ≤ told 17) (hT0 : 0 ≤ (now 0).toInt) (hT1 : (now 0).toInt ≤ 100000) (ha0 : 0 ≤ now 10) (ha1 : now 10 < 4096) (hb0 : 0 ≤ now 11) (hb1 : now 11 < 4096) (hu0 : 0 ≤ undos) (hu1 : undos ≤ 10) : xW (T := Int32 × Int32 × (Nat → Int32) × Int32 × (Nat → Int32) × (Nat → Int32) × (Nat → Int32) × Int32 × (Nat → Int32)) l yX9_run wsX9_run ({ frames := 9, cells := 0, slots := 0, locals := 203 }) E [(h, .inr (9, [.int thrown, .ref nw, .ref td, .ref tx, .int length, .int textSize, .int start, .int next, .int token, .int value, .int error, .int errorAt, .int seen, .int triedWith, .ref rr, .ref ss, .ref tr, .ref wa, .int undos, .ref ud, .ref sl, .ref sv])), (nw, .inl (E.2.1, 214, .inl now)), (td, .inl (E.2.1, 48, .inl told)), (rr, .inl (E.2.1, 49, .inl rs)), (ss, .inl (E.2.1, 49, .inl fs)), (tr, .inl (E.2.1, 14, .inl tri)), (ud, .inl (E.2.1, 2140, .inl und))] [.ref h, .int ticks] (fun q => some (.int q.1)) (fun q => [(h, .inr (9, [.int q.2.1, .ref nw, .ref td, .ref tx, .int length, .int textSize, .int start, .int next, .int token, .int value, .int error, .int errorAt, .int seen, .int q.2.2.2.1, .ref rr, .ref ss, .ref tr, .ref wa, .int q.2.2.2.2.2.2.2.1, .ref ud, .ref sl, .ref sv])), (nw, .inl (E.2.1, 214, .inl q.2.2.1)), (td, .inl (E.2.1, 48, .inl told)), (rr, .inl (E.2.1, 49, .inl q.2.2.2.2.1)), (ss, .inl (E.2.1, 49, .inl q.2.2.2.2.2.1)), (tr, .inl (E.2.1, 14, .inl q.2.2.2.2.2.2.1)), (ud, .inl (E.2.1, 2140, .inl q.2.2.2.2.2.2.2.2))]) (sX9_run triedWith undos now told rs fs tri und ticks) 0 0 := by
  refine xW.of (cc := cX9_run) (maxL := 3) (ret := (some .int)) (by decide) rfl (Nat.le_of_ble_eq_true rfl) ?_
  intro p e s m args below meth c ls A hM hE hP hD hS hA hl
  obtain ⟨hx, hb, hr, hml, hts, hown, hlk, hnm⟩ := hM
  have g_1 : (Cond.fieldLink RX9 55 "RailPendulumModel" "thrown" "I").before args s = true := hts (Cond.fieldLink RX9 55 "RailPendulumModel" "thrown" "I") (by decide +kernel)
  have g_2 : ∀ w ∈ wsX90, w ∈ wsX9_run := by decide +kernel
  have g_3 : (Cond.fieldLink RX9 7 "RailPendulumModel" "now" "[I").before args s = true := hts (Cond.fieldLink RX9 7 "RailPendulumModel" "now" "[I") (by decide +kernel)
  have hX : xD A [h, nw, td, rr, ss, tr, ud] := xD.of hD rfl
  have hl : lv_has ls 3 [(0, .ref h), (1, .int ticks)] := hl
  refine lv_aload_n hx hb dX9_run_0 rfl (lv_at hl 0 rfl) ?_
  refine lv_iconst (v := 0) hx hb dX9_run_1 (by decide) ?_
  refine va_put (D := E.1) (ci := 9) (v := .int 0) (ty := .int) (C := RX9) (T := TX9) (N := 22) hx hb hts g_2 tyX9 tyX9_ok nmX9 hown hE.1 hP (hX.d rfl) hS 0 rfl rfl 0 (by decide) g_1 (fun _ h9 => h9) rfl (by decide +kernel) rfl rfl (Nat.le_of_ble_eq_true rfl) dX9_run_2 (fun H locs hP _ hS => ?_)
  have hP : va_P E.1 vwCl [(h, .inr (9, [.int 0, .ref nw, .ref td, .ref tx, .int length, .int textSize, .int start, .int next, .int token, .int value, .int error, .int errorAt, .int seen, .int triedWith, .ref rr, .ref ss, .ref tr, .ref wa, .int undos, .ref ud, .ref sl, .ref sv])), (nw, .inl (E.2.1, 214, .inl now)), (td, .inl (E.2.1, 48, .inl told)), (rr, .inl (E.2.1, 49, .inl rs)), (ss, .inl (E.2.1, 49, .inl fs)), (tr, .inl (E.2.1, 14, .inl tri)), (ud, .inl (E.2.1, 2140, .inl und))] H := hP
  refine lv_aload_n hx hb dX9_run_5 rfl (lv_at hl 0 rfl) ?_
  refine lv_iload_n hx hb dX9_run_6 rfl (lv_at hl 1 rfl) ?_
  refine lv_iconst (v := 1) hx hb dX9_run_7 (by decide) ?_
  refine lv_sipush (v := 1000) hx hb dX9_run_8 (by decide) ?_
  refine x_rS [.int ticks, .int 1, .int 1000] (kX9_within l E ticks 1 1000) ⟨hx, hb, hml, hown, hts⟩ (va_cwS 3 hts gX9_run_X9_within rfl rfl rfl hdX9_within.2 ⟨Nat.le_of_ble_eq_true rfl, Nat.le_of_ble_eq_true rfl⟩) hE hP (hX.d rfl) [] rfl rfl hl.1 rfl rfl (Nat.le_of_ble_eq_true rfl) dX9_run_11 (Nat.le_of_ble_eq_true rfl) (Nat.le_of_ble_eq_true rfl) ?_
  refine lv_if_ne (tgt := 21) hx hb dX9_run_14 (by decide) (fun c_1 => ?_) (fun c_1 => ?_)
  · refine lv_iconst (v := 0) hx hb dX9_run_21 (by decide) ?_
    refine lv_iconst (v := 1) hx hb dX9_run_22 (by decide) ?_
    refine x_wV (wr := [(nw, .inl (E.2.1, 214, .inl now)), (td, .inl (E.2.1, 48, .inl told)), (rr, .inl (E.2.1, 49, .inl rs)), (ss, .inl (E.2.1, 49, .inl fs)), (tr, .inl (E.2.1, 14, .inl tri)), (ud, .inl (E.2.1, 2140, .inl und))]) [.int 0, .int 1] (kX9_throwsIf_0 l E h nw td tx length textSize start next token value error errorAt seen triedWith rr ss tr wa undos ud sl sv 1) ⟨hx, hb, hml, hown, hts⟩ (cwV 2 hts gX9_run_X9_throwsIf rfl rfl rfl hdX9_throwsIf ⟨Nat.le_of_ble_eq_true rfl, Nat.le_of_ble_eq_true rfl⟩) hE hP (hX.d rfl) hS hA [0] [1, 2, 3, 4, 5, 6] rfl rfl rfl rfl (by decide) (ci := 9) (q0 := 0) rfl rfl rfl hl.1 rfl rfl (Nat.le_of_ble_eq_true rfl) dX9_run_23 (Nat.le_of_ble_eq_true rfl) (Nat.le_of_ble_eq_true rfl) (fun q_2 H locs hq_2 hP hD hS => ?_)
    have hP : va_P E.1 vwCl [(nw, .inl (E.2.1, 214, .inl now)), (td, .inl (E.2.1, 48, .inl told)), (rr, .inl (E.2.1, 49, .inl rs)), (ss, .inl (E.2.1, 49, .inl fs)), (tr, .inl (E.2.1, 14, .inl tri)), (ud, .inl (E.2.1, 2140, .inl und)), (h, .inr (9, [.int 0, .ref nw, .ref td, .ref tx, .int length, .int textSize, .int start, .int next, .int token, .int value, .int error, .int errorAt, .int seen, .int triedWith, .ref rr, .ref ss, .ref tr, .ref wa, .int undos, .ref ud, .ref sl, .ref sv]))] H := hP
    have hX : xD A [nw, td, rr, ss, tr, ud, h] := xD.of hD rfl
    refine W.eq (g2 := F0 m 26 ls [.int 0]) rfl ?_
    refine lv_if_ne (tgt := 56) hx hb dX9_run_26 (by decide) (fun c_3 => absurd rfl c_3) (fun c_3 => ?_)
    refine lv_aload_n hx hb dX9_run_29 rfl (lv_at hl 0 rfl) ?_
    refine lv_aload_n hx hb dX9_run_30 rfl (lv_at hl 0 rfl) ?_
    refine va_get (D := E.1) (ci := 9) (v := .ref nw) (C := RX9) (T := TX9) (N := 22) hx hb hts g_2 hown hE.1 hP 6 rfl rfl 1 (by decide) g_3 (fun _ h9 => h9) rfl dX9_run_31 ?_
    refine lv_iconst (v := 0) hx hb dX9_run_34 (by decide) ?_
    refine x_iald hx hb hE.1 hP 0 0 rfl rfl 0 (by decide) (by unfold vp_in; decide) dX9_run_35 ?_
    refine lv_iload_n hx hb dX9_run_36 rfl (lv_at hl 1 rfl) ?_
    refine lv_iadd hx hb dX9_run_37 ?_
    refine lv_sipush (v := 9999) hx hb dX9_run_38 (by decide) ?_
    refine lv_icmp_le (tgt := 48) hx hb dX9_run_41 (by decide) (fun c_4 => ?_) (fun c_4 => ?_)
    · refine lv_iconst (v := 0) hx hb dX9_run_48 (by decide) ?_
      refine lv_iconst (v := 2) hx hb dX9_run_49 (by decide) ?_
      refine x_wV (wr := [(nw, .inl (E.2.1, 214, .inl now)), (td, .inl (E.2.1, 48, .inl told)), (rr, .inl (E.2.1, 49, .inl rs)), (ss, .inl (E.2.1, 49, .inl fs)), (tr, .inl (E.2.1, 14, .inl tri)), (ud, .inl (E.2.1, 2140, .inl und))]) [.int 0, .int 2] (kX9_throwsIf_0 l E h nw td tx length textSize start next token value error errorAt seen triedWith rr ss tr wa undos ud sl sv 2) ⟨hx, hb, hml, hown, hts⟩ (cwV 2 hts gX9_run_X9_throwsIf rfl rfl rfl hdX9_throwsIf ⟨Nat.le_of_ble_eq_true rfl, Nat.le_of_ble_eq_true rfl⟩) hE hP (hX.d rfl) hS hA [6] [0, 1, 2, 3, 4, 5] rfl rfl rfl rfl (by decide) (ci := 9) (q0 := 6) rfl rfl rfl hl.1 rfl rfl (Nat.le_of_ble_eq_true rfl) dX9_run_50 (Nat.le_of_ble_eq_true rfl) (Nat.le_of_ble_eq_true rfl) (fun q_5 H locs hq_5 hP hD hS => ?_)
      have hP : va_P E.1 vwCl [(nw, .inl (E.2.1, 214, .inl now)), (td, .inl (E.2.1, 48, .inl told)), (rr, .inl (E.2.1, 49, .inl rs)), (ss, .inl (E.2.1, 49, .inl fs)), (tr, .inl (E.2.1, 14, .inl tri)), (ud, .inl (E.2.1, 2140, .inl und)), (h, .inr (9, [.int 0, .ref nw, .ref td, .ref tx, .int length, .int textSize, .int start, .int next, .int token, .int value, .int error, .int errorAt, .int seen, .int triedWith, .ref rr, .ref ss, .ref tr, .ref wa, .int undos, .ref ud, .ref sl, .ref sv]))] H := hP
      have hX : xD A [nw, td, rr, ss, tr, ud, h] := xD.of hD rfl
      refine W.eq (g2 := F0 m 53 ls [.int 0]) rfl ?_
      refine lv_if_eq (tgt := 58) hx hb dX9_run_53 (by decide) (fun c_6 => ?_) (fun c_6 => absurd (by decide) c_6)
      refine lv_aload_n hx hb dX9_run_58 rfl (lv_at hl 0 rfl) ?_
      refine x_wV (wr := [(td, .inl (E.2.1, 48, .inl told)), (rr, .inl (E.2.1, 49, .inl rs)), (ss, .inl (E.2.1, 49, .inl fs)), (tr, .inl (E.2.1, 14, .inl tri))]) [] (kX9_keeps l E h 0 nw td tx length textSize start next token value error errorAt seen triedWith rr ss tr wa undos ud sl sv now und hu0 hu1) ⟨hx, hb, hml, hown, hts⟩ (cwV 0 hts gX9_run_X9_keeps rfl rfl rfl hdX9_keeps ⟨Nat.le_of_ble_eq_true rfl, Nat.le_of_ble_eq_true rfl⟩) hE hP (hX.d rfl) hS hA [6, 0, 5] [1, 2, 3, 4] rfl rfl rfl rfl (by decide) (ci := 9) (q0 := 6) rfl rfl rfl hl.1 rfl rfl (Nat.le_of_ble_eq_true rfl) dX9_run_59 (Nat.le_of_ble_eq_true rfl) (Nat.le_of_ble_eq_true rfl) (fun q_7 H locs hq_7 hP hD hS => ?_)
      have hP : va_P E.1 vwCl [(td, .inl (E.2.1, 48, .inl told)), (rr, .inl (E.2.1, 49, .inl rs)), (ss, .inl (E.2.1, 49, .inl fs)), (tr, .inl (E.2.1, 14, .inl tri)), (h, .inr (9, [.int 0, .ref nw, .ref td, .ref tx, .int length, .int textSize, .int start, .int next, .int token, .int value, .int error, .int errorAt, .int seen, .int triedWith, .ref rr, .ref ss, .ref tr, .ref wa, .int q_7.1, .ref ud, .ref sl, .ref sv])), (nw, .inl (E.2.1, 214, .inl now)), (ud, .inl (E.2.1, 2140, .inl q_7.2))] H := hP
      have hX : xD A [td, rr, ss, tr, h, nw, ud] := xD.of hD rfl
      refine W.eq (g2 := F0 m 62 ls []) rfl ?_
      refine lv_iconst (v := 0) hx hb dX9_run_62 (by decide) ?_
      refine lv_istore_n (lv' := [(2, .int 0), (0, .ref h), (1, .int ticks)]) hx hb dX9_run_63 rfl hl (by decide) rfl (fun ls hl => ?_)
      have ex_64 : ∀ (k_64 : Int32) (g_64 : (Nat → Int32) × Int32 × (Nat → Int32) × (Nat → Int32) × (Nat → Int32)), (¬ k_64 < 0) → ((g_64.1 0).toInt = (now 0).toInt + k_64.toInt) → (0 ≤ g_64.1 10) → (g_64.1 10 < 4096) → (0 ≤ g_64.1 11) → (g_64.1 11 < 4096) → ∀ (H : Heap) (locs : List Loc), va_P E.1 vwCl [(td, .inl (E.2.1, 48, .inl told)), (rr, .inl (E.2.1, 49, .inl g_64.2.2.1)), (ss, .inl (E.2.1, 49, .inl g_64.2.2.2.1)), (tr, .inl (E.2.1, 14, .inl g_64.2.2.2.2)), (h, .inr (9, [.int 0, .ref nw, .ref td, .ref tx, .int length, .int textSize, .int start, .int next, .int token, .int value, .int error, .int errorAt, .int seen, .int g_64.2.1, .ref rr, .ref ss, .ref tr, .ref wa, .int q_7.1, .ref ud, .ref sl, .ref sv])), (nw, .inl (E.2.1, 214, .inl g_64.1)), (ud, .inl (E.2.1, 2140, .inl q_7.2))] H → va_S A s.heap H locs → ∀ (ls : Array Slot), lv_has ls 3 [(0, .ref h), (1, .int ticks), (2, .int k_64)] → (sX9_run triedWith undos now told rs fs tri und ticks) = ((g_64.1 1, 0, g_64.1, g_64.2.1, g_64.2.2.1, g_64.2.2.2.1, g_64.2.2.2.2, q_7.1, q_7.2)) → W p l e ({ frames := 9, cells := 0, slots := 0, locals := 203 }) s m args below meth c H locs 0 0 (MQ below (xO (T := Int32 × Int32 × (Nat → Int32) × Int32 × (Nat → Int32) × (Nat → Int32) × (Nat → Int32) × Int32 × (Nat → Int32)) E A (fun q => some (.int q.1)) (fun q => [(h, .inr (9, [.int q.2.1, .ref nw, .ref td, .ref tx, .int length, .int textSize, .int start, .int next, .int token, .int value, .int error, .int errorAt, .int seen, .int q.2.2.2.1, .ref rr, .ref ss, .ref tr, .ref wa, .int q.2.2.2.2.2.2.2.1, .ref ud, .ref sl, .ref sv])), (nw, .inl (E.2.1, 214, .inl q.2.2.1)), (td, .inl (E.2.1, 48, .inl told)), (rr, .inl (E.2.1, 49, .inl q.2.2.2.2.1)), (ss, .inl (E.2.1, 49, .inl q.2.2.2.2.2.1)), (tr, .inl (E.2.1, 14, .inl q.2.2.2.2.2.2.1)), (ud, .inl (E.2.1, 2140, .inl q.2.2.2.2.2.2.2.2))]) (sX9_run triedWith undos now told rs fs tri und ticks)) args s 0 0 A) (F0 m 79 ls []) := by
        intro k_64 g_64 hi0_64 htk_64 ha0_64 ha1_64 hb0_64 hb1_64 H locs hP hS ls hl hx_64
        refine lv_aload_n hx hb dX9_run_79 rfl (lv_at hl 0 rfl) ?_
        refine va_get (D := E.1) (ci := 9) (v := .ref nw) (C := RX9) (T := TX9) (N := 22) hx hb hts g_2 hown hE.1 hP 4 rfl rfl 1 (by decide) g_3 (fun _ h9 => h9) rfl dX9_run_80 ?_
        refine lv_iconst (v := 1) hx hb dX9_run_83 (by decide) ?_
        refine x_iald hx hb hE.1 hP 5 0 rfl rfl 1 (by decide) (by unfold vp_in; decide) dX9_run_84 ?_
        exact x_wi (g_64.1 1, 0, g_64.1, g_64.2.1, g_64.2.2.1, g_64.2.2.2.1, g_64.2.2.2.2, q_7.1, q_7.2) (by rw [hx_64]; try rfl) rfl hx hb hr hlk hS hP (hX.d rfl) [4, 5, 0, 1, 2, 3, 6] rfl rfl (Nat.le_of_ble_eq_true rfl) (Nat.le_of_ble_eq_true rfl) dX9_run_85
      have lp_64 : ∀ (kk_64 : Nat), ∀ (k_64 : Int32) (g_64 : (Nat → Int32) × Int32 × (Nat → Int32) × (Nat → Int32) × (Nat → Int32)), (¬ k_64 < 0) → ((g_64.1 0).toInt = (now 0).toInt + k_64.toInt) → (0 ≤ g_64.1 10) → (g_64.1 10 < 4096) → (0 ≤ g_64.1 11) → (g_64.1 11 < 4096) → (xMu ticks k_64) < kk_64 → ∀ (H : Heap) (locs : List Loc), va_P E.1 vwCl [(td, .inl (E.2.1, 48, .inl told)), (rr, .inl (E.2.1, 49, .inl g_64.2.2.1)), (ss, .inl (E.2.1, 49, .inl g_64.2.2.2.1)), (tr, .inl (E.2.1, 14, .inl g_64.2.2.2.2)), (h, .inr (9, [.int 0, .ref nw, .ref td, .ref tx, .int length, .int textSize, .int start, .int next, .int token, .int value, .int error, .int errorAt, .int seen, .int g_64.2.1, .ref rr, .ref ss, .ref tr, .ref wa, .int q_7.1, .ref ud, .ref sl, .ref sv])), (nw, .inl (E.2.1, 214, .inl g_64.1)), (ud, .inl (E.2.1, 2140, .inl q_7.2))] H → va_S A s.heap H locs → ∀ (ls : Array Slot), lv_has ls 3 [(0, .ref h), (1, .int ticks), (2, .int k_64)] → (sX9_run triedWith undos now told rs fs tri und ticks) = sX9_run_l64 told ticks (fun (k_64 : Int32) (g_64 : (Nat → Int32) × Int32 × (Nat → Int32) × (Nat → Int32) × (Nat → Int32)) => (g_64.1 1, 0, g_64.1, g_64.2.1, g_64.2.2.1, g_64.2.2.2.1, g_64.2.2.2.2, q_7.1, q_7.2)) kk_64 k_64 g_64 → W p l e ({ frames := 9, cells := 0, slots := 0, locals := 203 }) s m args below meth c H locs 0 0 (MQ below (xO (T := Int32 × Int32 × (Nat → Int32) × Int32 × (Nat → Int32) × (Nat → Int32) × (Nat → Int32) × Int32 × (Nat → Int32)) E A (fun q => some (.int q.1)) (fun q => [(h, .inr (9, [.int q.2.1, .ref nw, .ref td, .ref tx, .int length, .int textSize, .int start, .int next, .int token, .int value, .int error, .int errorAt, .int seen, .int q.2.2.2.1, .ref rr, .ref ss, .ref tr, .ref wa, .int q.2.2.2.2.2.2.2.1, .ref ud, .ref sl, .ref sv])), (nw, .inl (E.2.1, 214, .inl q.2.2.1)), (td, .inl (E.2.1, 48, .inl told)), (rr, .inl (E.2.1, 49, .inl q.2.2.2.2.1)), (ss, .inl (E.2.1, 49, .inl q.2.2.2.2.2.1)), (tr, .inl (E.2.1, 14, .inl q.2.2.2.2.2.2.1)), (ud, .inl (E.2.1, 2140, .inl q.2.2.2.2.2.2.2.2))]) (sX9_run triedWith undos now told rs fs tri und ticks)) args s 0 0 A) (F0 m 64 ls []) := by
        intro kk_64
        induction kk_64 with
        | zero =>
          intro k_64 g_64 hi0_64 htk_64 ha0_64 ha1_64 hb0_64 hb1_64 hmu
          exact absurd hmu (Nat.not_lt_zero _)
        | succ kk_64 ih_64 =>
          intro k_64 g_64 hi0_64 htk_64 ha0_64 ha1_64 hb0_64 hb1_64 hmu H locs hP hS ls hl hlq_64
          refine lv_iload_n hx hb dX9_run_64 rfl (lv_at hl 2 rfl) ?_
          refine lv_iload_n hx hb dX9_run_65 rfl (lv_at hl 1 rfl) ?_
          refine lv_icmp_ge (tgt := 79) hx hb dX9_run_66 (by decide) (fun c_8 => ?_) (fun c_8 => ?_)
          · exact ex_64 k_64 g_64 hi0_64 htk_64 ha0_64 ha1_64 hb0_64 hb1_64 _ _ hP hS ls (lv_sub hl [0, 1, 2] rfl) (by rw [hlq_64]; rw [sX9_run_l64_s]; rw [if_pos c_8]; try rfl)
          · refine lv_aload_n hx hb dX9_run_69 rfl (lv_at hl 0 rfl) ?_
            refine x_wV (wr := [(ud, .inl (E.2.1, 2140, .inl q_7.2))]) [] (kX9_passes l E h 0 nw td tx length textSize start next token value error errorAt seen g_64.2.1 rr ss tr wa q_7.1 ud sl sv g_64.1 told g_64.2.2.1 g_64.2.2.2.1 g_64.2.2.2.2 hw1 hw2 hc3 hc0 (x_th htk_64 hi0_64 c_8 (x_within c_1).2 hT0 hT1) ha0_64 ha1_64 hb0_64 hb1_64) ⟨hx, hb, hml, hown, hts⟩ (cwV 0 hts gX9_run_X9_passes rfl rfl rfl hdX9_passes ⟨Nat.le_of_ble_eq_true rfl, Nat.le_of_ble_eq_true rfl⟩) hE hP (hX.d rfl) hS hA [4, 5, 0, 1, 2, 3] [6] rfl rfl rfl rfl (by decide) (ci := 9) (q0 := 4) rfl rfl rfl hl.1 rfl rfl (Nat.le_of_ble_eq_true rfl) dX9_run_70 (Nat.le_of_ble_eq_true rfl) (Nat.le_of_ble_eq_true rfl) (fun q_9 H locs hq_9 hP hD hS => ?_)
            subst hq_9
            have hP : va_P E.1 vwCl [(ud, .inl (E.2.1, 2140, .inl q_7.2)), (h, .inr (9, [.int 0, .ref nw, .ref td, .ref tx, .int length, .int textSize, .int start, .int next, .int token, .int value, .int error, .int errorAt, .int seen, .int ((sX9_passes g_64.2.1 g_64.1 told g_64.2.2.1 g_64.2.2.2.1 g_64.2.2.2.2).2.1), .ref rr, .ref ss, .ref tr, .ref wa, .int q_7.1, .ref ud, .ref sl, .ref sv])), (nw, .inl (E.2.1, 214, .inl ((sX9_passes g_64.2.1 g_64.1 told g_64.2.2.1 g_64.2.2.2.1 g_64.2.2.2.2).1))), (td, .inl (E.2.1, 48, .inl told)), (rr, .inl (E.2.1, 49, .inl ((sX9_passes g_64.2.1 g_64.1 told g_64.2.2.1 g_64.2.2.2.1 g_64.2.2.2.2).2.2.1))), (ss, .inl (E.2.1, 49, .inl ((sX9_passes g_64.2.1 g_64.1 told g_64.2.2.1 g_64.2.2.2.1 g_64.2.2.2.2).2.2.2.1))), (tr, .inl (E.2.1, 14, .inl ((sX9_passes g_64.2.1 g_64.1 told g_64.2.2.1 g_64.2.2.2.1 g_64.2.2.2.2).2.2.2.2)))] H := hP
            have hX : xD A [ud, h, nw, td, rr, ss, tr] := xD.of hD rfl
            refine W.eq (g2 := F0 m 73 ls []) rfl ?_
            refine lv_iinc (v := k_64 + 1) (lv' := [(2, .int (k_64 + 1)), (0, .ref h), (1, .int ticks)]) hx hb dX9_run_73 hl (k := 2) rfl (by rfl) (by decide) rfl (fun ls hl => ?_)
            refine lv_goto (tgt := 64) hx hb dX9_run_76 (by decide) ?_
            have hP := (x_pick hP (hX.d rfl) (w1 := [(td, .inl (E.2.1, 48, .inl told)), (rr, .inl (E.2.1, 49, .inl ((sX9_passes g_64.2.1 g_64.1 told g_64.2.2.1 g_64.2.2.2.1 g_64.2.2.2.2).2.2.1))), (ss, .inl (E.2.1, 49, .inl ((sX9_passes g_64.2.1 g_64.1 told g_64.2.2.1 g_64.2.2.2.1 g_64.2.2.2.2).2.2.2.1))), (tr, .inl (E.2.1, 14, .inl ((sX9_passes g_64.2.1 g_64.1 told g_64.2.2.1 g_64.2.2.2.1 g_64.2.2.2.2).2.2.2.2))), (h, .inr (9, [.int 0, .ref nw, .ref td, .ref tx, .int length, .int textSize, .int start, .int next, .int token, .int value, .int error, .int errorAt, .int seen, .int ((sX9_passes g_64.2.1 g_64.1 told g_64.2.2.1 g_64.2.2.2.1 g_64.2.2.2.2).2.1), .ref rr, .ref ss, .ref tr, .ref wa, .int q_7.1, .ref ud, .ref sl, .ref sv])), (nw, .inl (E.2.1, 214, .inl ((sX9_passes g_64.2.1 g_64.1 told g_64.2.2.1 g_64.2.2.2.1 g_64.2.2.2.2).1))), (ud, .inl (E.2.1, 2140, .inl q_7.2))]) [3, 4, 5, 6, 1, 2, 0] rfl rfl).1
            exact ih_64 (k_64 + 1) (sX9_passes g_64.2.1 g_64.1 told g_64.2.2.1 g_64.2.2.2.1 g_64.2.2.2.2) (x_step hi0_64 c_8) (x_tk htk_64 (x_pass _ _ _ _ _ _ (x_th htk_64 hi0_64 c_8 (x_within c_1).2 hT0 hT1) ha0_64 ha1_64 hb0_64 hb1_64).1 hi0_64 c_8 (x_within c_1).2 hT0 hT1) (x_pass _ _ _ _ _ _ (x_th htk_64 hi0_64 c_8 (x_within c_1).2 hT0 hT1) ha0_64 ha1_64 hb0_64 hb1_64).2.1 (x_pass _ _ _ _ _ _ (x_th htk_64 hi0_64 c_8 (x_within c_1).2 hT0 hT1) ha0_64 ha1_64 hb0_64 hb1_64).2.2.1 (x_pass _ _ _ _ _ _ (x_th htk_64 hi0_64 c_8 (x_within c_1).2 hT0 hT1) ha0_64 ha1_64 hb0_64 hb1_64).2.2.2.1 (x_pass _ _ _ _ _ _ (x_th htk_64 hi0_64 c_8 (x_within c_1).2 hT0 hT1) ha0_64 ha1_64 hb0_64 hb1_64).2.2.2.2 (x_mu hi0_64 c_8 hmu) _ _ hP hS ls (lv_sub hl [1, 2, 0] rfl) (by rw [hlq_64]; rw [sX9_run_l64_s]; rw [if_neg c_8]; try rfl)
      exact lp_64 (xMu ticks 0 + 1) 0 (now, triedWith, rs, fs, tri) (by decide) (x_tk0 _) ha0 ha1 hb0 hb1 (Nat.lt_succ_self _) _ _ hP hS ls (lv_sub hl [1, 2, 0] rfl) (by unfold sX9_run; rw [if_neg c_1]; rw [if_pos c_4]; rw [← hq_7]; unfold sX9_run_q_7; try rfl)
    · refine lv_iconst (v := 1) hx hb dX9_run_44 (by decide) ?_
      refine lv_goto (tgt := 49) hx hb dX9_run_45 (by decide) ?_
      refine lv_iconst (v := 2) hx hb dX9_run_49 (by decide) ?_
      refine x_wV (wr := [(nw, .inl (E.2.1, 214, .inl now)), (td, .inl (E.2.1, 48, .inl told)), (rr, .inl (E.2.1, 49, .inl rs)), (ss, .inl (E.2.1, 49, .inl fs)), (tr, .inl (E.2.1, 14, .inl tri)), (ud, .inl (E.2.1, 2140, .inl und))]) [.int 1, .int 2] (kX9_throwsIf_12 l E h nw td tx length textSize start next token value error errorAt seen triedWith rr ss tr wa undos ud sl sv) ⟨hx, hb, hml, hown, hts⟩ (cwV 2 hts gX9_run_X9_throwsIf rfl rfl rfl hdX9_throwsIf ⟨Nat.le_of_ble_eq_true rfl, Nat.le_of_ble_eq_true rfl⟩) hE hP (hX.d rfl) hS hA [6] [0, 1, 2, 3, 4, 5] rfl rfl rfl rfl (by decide) (ci := 9) (q0 := 6) rfl rfl rfl hl.1 rfl rfl (Nat.le_of_ble_eq_true rfl) dX9_run_50 (Nat.le_of_ble_eq_true rfl) (Nat.le_of_ble_eq_true rfl) (fun q_10 H locs hq_10 hP hD hS => ?_)
      have hP : va_P E.1 vwCl [(nw, .inl (E.2.1, 214, .inl now)), (td, .inl (E.2.1, 48, .inl told)), (rr, .inl (E.2.1, 49, .inl rs)), (ss, .inl (E.2.1, 49, .inl fs)), (tr, .inl (E.2.1, 14, .inl tri)), (ud, .inl (E.2.1, 2140, .inl und)), (h, .inr (9, [.int 2, .ref nw, .ref td, .ref tx, .int length, .int textSize, .int start, .int next, .int token, .int value, .int error, .int errorAt, .int seen, .int triedWith, .ref rr, .ref ss, .ref tr, .ref wa, .int undos, .ref ud, .ref sl, .ref sv]))] H := hP
      have hX : xD A [nw, td, rr, ss, tr, ud, h] := xD.of hD rfl
      refine W.eq (g2 := F0 m 53 ls [.int 1]) rfl ?_
      refine lv_if_eq (tgt := 58) hx hb dX9_run_53 (by decide) (fun c_11 => absurd c_11 (by decide)) (fun c_11 => ?_)
      refine lv_iconst (v := 0) hx hb dX9_run_56 (by decide) ?_
      exact x_wi (0, 2, now, triedWith, rs, fs, tri, undos, und) (by unfold sX9_run; rw [if_neg c_1]; rw [if_neg c_4]; try rfl) rfl hx hb hr hlk hS hP (hX.d rfl) [6, 0, 1, 2, 3, 4, 5] rfl rfl (Nat.le_of_ble_eq_true rfl) (Nat.le_of_ble_eq_true rfl) dX9_run_57
  · refine lv_iconst (v := 1) hx hb dX9_run_17 (by decide) ?_
    refine lv_goto (tgt := 22) hx hb dX9_run_18 (by decide) ?_
    refine lv_iconst (v := 1) hx hb dX9_run_22 (by decide) ?_
    refine x_wV (wr := [(nw, .inl (E.2.1, 214, .inl now)), (td, .inl (E.2.1, 48, .inl told)), (rr, .inl (E.2.1, 49, .inl rs)), (ss, .inl (E.2.1, 49, .inl fs)), (tr, .inl (E.2.1, 14, .inl tri)), (ud, .inl (E.2.1, 2140, .inl und))]) [.int 1, .int 1] (kX9_throwsIf_11 l E h nw td tx length textSize start next token value error errorAt seen triedWith rr ss tr wa undos ud sl sv) ⟨hx, hb, hml, hown, hts⟩ (cwV 2 hts gX9_run_X9_throwsIf rfl rfl rfl hdX9_throwsIf ⟨Nat.le_of_ble_eq_true rfl, Nat.le_of_ble_eq_true rfl⟩) hE hP (hX.d rfl) hS hA [0] [1, 2, 3, 4, 5, 6] rfl rfl rfl rfl (by decide) (ci := 9) (q0 := 0) rfl rfl rfl hl.1 rfl rfl (Nat.le_of_ble_eq_true rfl) dX9_run_23 (Nat.le_of_ble_eq_true rfl) (Nat.le_of_ble_eq_true rfl) (fun q_12 H locs hq_12 hP hD hS => ?_)
    have hP : va_P E.1 vwCl [(nw, .inl (E.2.1, 214, .inl now)), (td, .inl (E.2.1, 48, .inl told)), (rr, .inl (E.2.1, 49, .inl rs)), (ss, .inl (E.2.1, 49, .inl fs)), (tr, .inl (E.2.1, 14, .inl tri)), (ud, .inl (E.2.1, 2140, .inl und)), (h, .inr (9, [.int 1, .ref nw, .ref td, .ref tx, .int length, .int textSize, .int start, .int next, .int token, .int value, .int error, .int errorAt, .int seen, .int triedWith, .ref rr, .ref ss, .ref tr, .ref wa, .int undos, .ref ud, .ref sl, .ref sv]))] H := hP
    have hX : xD A [nw, td, rr, ss, tr, ud, h] := xD.of hD rfl
    refine W.eq (g2 := F0 m 26 ls [.int 1]) rfl ?_
    refine lv_if_ne (tgt := 56) hx hb dX9_run_26 (by decide) (fun c_13 => ?_) (fun c_13 => absurd c_13 (by decide))
    refine lv_iconst (v := 0) hx hb dX9_run_56 (by decide) ?_
    exact x_wi (0, 1, now, triedWith, rs, fs, tri, undos, und) (by unfold sX9_run; rw [if_pos c_1]; try rfl) rfl hx hb hr hlk hS hP (hX.d rfl) [6, 0, 1, 2, 3, 4, 5] rfl rfl (Nat.le_of_ble_eq_true rfl) (Nat.le_of_ble_eq_true rfl) dX9_run_57
def sX9_setMode_q_7 (undos : Int32) (now : Nat → Int32) (und : Nat → Int32) (mode : Int32) (q_7 : Int32 × (Nat → Int32)) : Int32 × Int32 × (Nat → Int32) × Int32 × (Nat → Int32) :=
  (now 1, 0, upd now 1 mode, q_7.1, q_7.2)
def sX9_setMode (undos : Int32) (now : Nat → Int32) (und : Nat → Int32) (mode : Int32) : Int32 × Int32 × (Nat → Int32) × Int32 × (Nat → Int32) :=
  if (sX9_within mode 0 2) = 0 then
    (0, 1, now, undos, und)
  else
    if (now 1) = 3 then
      (0, 2, now, undos, und)
    else
      sX9_setMode_q_7 undos now und mode (sX9_keeps undos now und)
theorem hdX9_setMode : yX9_setMode.cls = RX9 ∧ yX9_setMode.cls ≠ "java/lang/invoke/MethodHandle" ∧ yX9_setMode.cls ≠ "java/lang/invoke/VarHandle" ∧ (parseMethodDescriptor yX9_setMode.desc).map (fun d => d.parameters.length) = some 1 := by decide +kernel
set_option maxHeartbeats 4000000 in
set_option maxRecDepth 100000 in
theorem kX9_setMode (l : Launch) (E : XE) (h : Nat) (thrown : Int32) (nw : Nat) (td : Nat) (tx : Nat) (length : Int32) (textSize : Int32) (start : Int32) (next : Int32) (token : Int32) (value : Int32) (error : Int32) (errorAt : Int32) (seen : Int32) (triedWith : Int32) (rr : Nat) (ss : Nat) (tr : Nat) (wa : Nat) (undos : Int32) (ud : Nat) (sl : Nat) (sv : Nat) (now : Nat → Int32) (und : Nat → Int32) (mode : Int32) (hu0 : 0 ≤ undos) (hu1 : undos ≤ 10) : xW (T := Int32 × Int32 × (Nat → Int32) × Int32 × (Nat → Int32)) l yX9_setMode wsX9_setMode ({ frames := 2, cells := 0, slots := 0, locals := 45 }) E [(h, .inr (9, [.int thrown, .ref nw, .ref td, .ref tx, .int length, .int textSize, .int start, .int next, .int token, .int value, .int error, .int errorAt, .int seen, .int triedWith, .ref rr, .ref ss, .ref tr, .ref wa, .int undos, .ref ud, .ref sl, .ref sv])), (nw, .inl (E.2.1, 214, .inl now)), (ud, .inl (E.2.1, 2140, .inl und))] [.ref h, .int mode] (fun q => some (.int q.1)) (fun q => [(h, .inr (9, [.int q.2.1, .ref nw, .ref td, .ref tx, .int length, .int textSize, .int start, .int next, .int token, .int value, .int error, .int errorAt, .int seen, .int triedWith, .ref rr, .ref ss, .ref tr, .ref wa, .int q.2.2.2.1, .ref ud, .ref sl, .ref sv])), (nw, .inl (E.2.1, 214, .inl q.2.2.1)), (ud, .inl (E.2.1, 2140, .inl q.2.2.2.2))]) (sX9_setMode undos now und mode) 0 0 := by
  refine xW.of (cc := cX9_setMode) (maxL := 3) (ret := (some .int)) (by decide) rfl (Nat.le_of_ble_eq_true rfl) ?_
  intro p e s m args below meth c ls A hM hE hP hD hS hA hl
  obtain ⟨hx, hb, hr, hml, hts, hown, hlk, hnm⟩ := hM
  have g_1 : (Cond.fieldLink RX9 55 "RailPendulumModel" "thrown" "I").before args s = true := hts (Cond.fieldLink RX9 55 "RailPendulumModel" "thrown" "I") (by decide +kernel)
  have g_2 : ∀ w ∈ wsX90, w ∈ wsX9_setMode := by decide +kernel
  have g_3 : (Cond.fieldLink RX9 7 "RailPendulumModel" "now" "[I").before args s = true := hts (Cond.fieldLink RX9 7 "RailPendulumModel" "now" "[I") (by decide +kernel)
  have hX : xD A [h, nw, ud] := xD.of hD rfl
  have hl : lv_has ls 3 [(0, .ref h), (1, .int mode)] := hl
  refine lv_aload_n hx hb dX9_setMode_0 rfl (lv_at hl 0 rfl) ?_
  refine lv_iconst (v := 0) hx hb dX9_setMode_1 (by decide) ?_
  refine va_put (D := E.1) (ci := 9) (v := .int 0) (ty := .int) (C := RX9) (T := TX9) (N := 22) hx hb hts g_2 tyX9 tyX9_ok nmX9 hown hE.1 hP (hX.d rfl) hS 0 rfl rfl 0 (by decide) g_1 (fun _ h9 => h9) rfl (by decide +kernel) rfl rfl (Nat.le_of_ble_eq_true rfl) dX9_setMode_2 (fun H locs hP _ hS => ?_)
  have hP : va_P E.1 vwCl [(h, .inr (9, [.int 0, .ref nw, .ref td, .ref tx, .int length, .int textSize, .int start, .int next, .int token, .int value, .int error, .int errorAt, .int seen, .int triedWith, .ref rr, .ref ss, .ref tr, .ref wa, .int undos, .ref ud, .ref sl, .ref sv])), (nw, .inl (E.2.1, 214, .inl now)), (ud, .inl (E.2.1, 2140, .inl und))] H := hP
  refine lv_aload_n hx hb dX9_setMode_5 rfl (lv_at hl 0 rfl) ?_
  refine lv_iload_n hx hb dX9_setMode_6 rfl (lv_at hl 1 rfl) ?_
  refine lv_iconst (v := 0) hx hb dX9_setMode_7 (by decide) ?_
  refine lv_iconst (v := 2) hx hb dX9_setMode_8 (by decide) ?_
  refine x_rS [.int mode, .int 0, .int 2] (kX9_within l E mode 0 2) ⟨hx, hb, hml, hown, hts⟩ (va_cwS 3 hts gX9_setMode_X9_within rfl rfl rfl hdX9_within.2 ⟨Nat.le_of_ble_eq_true rfl, Nat.le_of_ble_eq_true rfl⟩) hE hP (hX.d rfl) [] rfl rfl hl.1 rfl rfl (Nat.le_of_ble_eq_true rfl) dX9_setMode_9 (Nat.le_of_ble_eq_true rfl) (Nat.le_of_ble_eq_true rfl) ?_
  refine lv_if_ne (tgt := 19) hx hb dX9_setMode_12 (by decide) (fun c_1 => ?_) (fun c_1 => ?_)
  · refine lv_iconst (v := 0) hx hb dX9_setMode_19 (by decide) ?_
    refine lv_iconst (v := 1) hx hb dX9_setMode_20 (by decide) ?_
    refine x_wV (wr := [(nw, .inl (E.2.1, 214, .inl now)), (ud, .inl (E.2.1, 2140, .inl und))]) [.int 0, .int 1] (kX9_throwsIf_0 l E h nw td tx length textSize start next token value error errorAt seen triedWith rr ss tr wa undos ud sl sv 1) ⟨hx, hb, hml, hown, hts⟩ (cwV 2 hts gX9_setMode_X9_throwsIf rfl rfl rfl hdX9_throwsIf ⟨Nat.le_of_ble_eq_true rfl, Nat.le_of_ble_eq_true rfl⟩) hE hP (hX.d rfl) hS hA [0] [1, 2] rfl rfl rfl rfl (by decide) (ci := 9) (q0 := 0) rfl rfl rfl hl.1 rfl rfl (Nat.le_of_ble_eq_true rfl) dX9_setMode_21 (Nat.le_of_ble_eq_true rfl) (Nat.le_of_ble_eq_true rfl) (fun q_2 H locs hq_2 hP hD hS => ?_)
    have hP : va_P E.1 vwCl [(nw, .inl (E.2.1, 214, .inl now)), (ud, .inl (E.2.1, 2140, .inl und)), (h, .inr (9, [.int 0, .ref nw, .ref td, .ref tx, .int length, .int textSize, .int start, .int next, .int token, .int value, .int error, .int errorAt, .int seen, .int triedWith, .ref rr, .ref ss, .ref tr, .ref wa, .int undos, .ref ud, .ref sl, .ref sv]))] H := hP
    have hX : xD A [nw, ud, h] := xD.of hD rfl
    refine W.eq (g2 := F0 m 24 ls [.int 0]) rfl ?_
    refine lv_if_ne (tgt := 50) hx hb dX9_setMode_24 (by decide) (fun c_3 => absurd rfl c_3) (fun c_3 => ?_)
    refine lv_aload_n hx hb dX9_setMode_27 rfl (lv_at hl 0 rfl) ?_
    refine lv_aload_n hx hb dX9_setMode_28 rfl (lv_at hl 0 rfl) ?_
    refine va_get (D := E.1) (ci := 9) (v := .ref nw) (C := RX9) (T := TX9) (N := 22) hx hb hts g_2 hown hE.1 hP 2 rfl rfl 1 (by decide) g_3 (fun _ h9 => h9) rfl dX9_setMode_29 ?_
    refine lv_iconst (v := 1) hx hb dX9_setMode_32 (by decide) ?_
    refine x_iald hx hb hE.1 hP 0 0 rfl rfl 1 (by decide) (by unfold vp_in; decide) dX9_setMode_33 ?_
    refine lv_iconst (v := 3) hx hb dX9_setMode_34 (by decide) ?_
    refine lv_icmp_ne (tgt := 42) hx hb dX9_setMode_35 (by decide) (fun c_4 => ?_) (fun c_4 => ?_)
    · refine lv_iconst (v := 0) hx hb dX9_setMode_42 (by decide) ?_
      refine lv_iconst (v := 2) hx hb dX9_setMode_43 (by decide) ?_
      refine x_wV (wr := [(nw, .inl (E.2.1, 214, .inl now)), (ud, .inl (E.2.1, 2140, .inl und))]) [.int 0, .int 2] (kX9_throwsIf_0 l E h nw td tx length textSize start next token value error errorAt seen triedWith rr ss tr wa undos ud sl sv 2) ⟨hx, hb, hml, hown, hts⟩ (cwV 2 hts gX9_setMode_X9_throwsIf rfl rfl rfl hdX9_throwsIf ⟨Nat.le_of_ble_eq_true rfl, Nat.le_of_ble_eq_true rfl⟩) hE hP (hX.d rfl) hS hA [2] [0, 1] rfl rfl rfl rfl (by decide) (ci := 9) (q0 := 2) rfl rfl rfl hl.1 rfl rfl (Nat.le_of_ble_eq_true rfl) dX9_setMode_44 (Nat.le_of_ble_eq_true rfl) (Nat.le_of_ble_eq_true rfl) (fun q_5 H locs hq_5 hP hD hS => ?_)
      have hP : va_P E.1 vwCl [(nw, .inl (E.2.1, 214, .inl now)), (ud, .inl (E.2.1, 2140, .inl und)), (h, .inr (9, [.int 0, .ref nw, .ref td, .ref tx, .int length, .int textSize, .int start, .int next, .int token, .int value, .int error, .int errorAt, .int seen, .int triedWith, .ref rr, .ref ss, .ref tr, .ref wa, .int undos, .ref ud, .ref sl, .ref sv]))] H := hP
      have hX : xD A [nw, ud, h] := xD.of hD rfl
      refine W.eq (g2 := F0 m 47 ls [.int 0]) rfl ?_
      refine lv_if_eq (tgt := 52) hx hb dX9_setMode_47 (by decide) (fun c_6 => ?_) (fun c_6 => absurd (by decide) c_6)
      refine lv_aload_n hx hb dX9_setMode_52 rfl (lv_at hl 0 rfl) ?_
      refine x_wV (wr := []) [] (kX9_keeps l E h 0 nw td tx length textSize start next token value error errorAt seen triedWith rr ss tr wa undos ud sl sv now und hu0 hu1) ⟨hx, hb, hml, hown, hts⟩ (cwV 0 hts gX9_setMode_X9_keeps rfl rfl rfl hdX9_keeps ⟨Nat.le_of_ble_eq_true rfl, Nat.le_of_ble_eq_true rfl⟩) hE hP (hX.d rfl) hS hA [2, 0, 1] [] rfl rfl rfl rfl (by decide) (ci := 9) (q0 := 2) rfl rfl rfl hl.1 rfl rfl (Nat.le_of_ble_eq_true rfl) dX9_setMode_53 (Nat.le_of_ble_eq_true rfl) (Nat.le_of_ble_eq_true rfl) (fun q_7 H locs hq_7 hP hD hS => ?_)
      have hP : va_P E.1 vwCl [(h, .inr (9, [.int 0, .ref nw, .ref td, .ref tx, .int length, .int textSize, .int start, .int next, .int token, .int value, .int error, .int errorAt, .int seen, .int triedWith, .ref rr, .ref ss, .ref tr, .ref wa, .int q_7.1, .ref ud, .ref sl, .ref sv])), (nw, .inl (E.2.1, 214, .inl now)), (ud, .inl (E.2.1, 2140, .inl q_7.2))] H := hP
      have hX : xD A [h, nw, ud] := xD.of hD rfl
      refine W.eq (g2 := F0 m 56 ls []) rfl ?_
      refine lv_aload_n hx hb dX9_setMode_56 rfl (lv_at hl 0 rfl) ?_
      refine va_get (D := E.1) (ci := 9) (v := .ref nw) (C := RX9) (T := TX9) (N := 22) hx hb hts g_2 hown hE.1 hP 0 rfl rfl 1 (by decide) g_3 (fun _ h9 => h9) rfl dX9_setMode_57 ?_
      refine lv_iconst (v := 1) hx hb dX9_setMode_60 (by decide) ?_
      refine x_iald hx hb hE.1 hP 1 0 rfl rfl 1 (by decide) (by unfold vp_in; decide) dX9_setMode_61 ?_
      refine lv_istore_n (lv' := [(2, .int (now 1)), (0, .ref h), (1, .int mode)]) hx hb dX9_setMode_62 rfl hl (by decide) rfl (fun ls hl => ?_)
      refine lv_aload_n hx hb dX9_setMode_63 rfl (lv_at hl 1 rfl) ?_
      refine va_get (D := E.1) (ci := 9) (v := .ref nw) (C := RX9) (T := TX9) (N := 22) hx hb hts g_2 hown hE.1 hP 0 rfl rfl 1 (by decide) g_3 (fun _ h9 => h9) rfl dX9_setMode_64 ?_
      refine lv_iconst (v := 1) hx hb dX9_setMode_67 (by decide) ?_
      refine lv_iload_n hx hb dX9_setMode_68 rfl (lv_at hl 2 rfl) ?_
      refine x_iast hx hb hE.1 hP (hX.d rfl) hS 1 0 rfl rfl 1 (by decide) (by unfold vp_in; decide) dX9_setMode_69 (fun H locs hP _ hS => ?_)
      have hP : va_P E.1 vwCl [(h, .inr (9, [.int 0, .ref nw, .ref td, .ref tx, .int length, .int textSize, .int start, .int next, .int token, .int value, .int error, .int errorAt, .int seen, .int triedWith, .ref rr, .ref ss, .ref tr, .ref wa, .int q_7.1, .ref ud, .ref sl, .ref sv])), (nw, .inl (E.2.1, 214, .inl (upd now 1 mode))), (ud, .inl (E.2.1, 2140, .inl q_7.2))] H := hP
      refine lv_iload_n hx hb dX9_setMode_70 rfl (lv_at hl 0 rfl) ?_
      exact x_wi (now 1, 0, upd now 1 mode, q_7.1, q_7.2) (by unfold sX9_setMode; rw [if_neg c_1]; rw [if_neg c_4]; rw [← hq_7]; unfold sX9_setMode_q_7; try rfl) rfl hx hb hr hlk hS hP (hX.d rfl) [0, 1, 2] rfl rfl (Nat.le_of_ble_eq_true rfl) (Nat.le_of_ble_eq_true rfl) dX9_setMode_71
    · refine lv_iconst (v := 1) hx hb dX9_setMode_38 (by decide) ?_
      refine lv_goto (tgt := 43) hx hb dX9_setMode_39 (by decide) ?_
      refine lv_iconst (v := 2) hx hb dX9_setMode_43 (by decide) ?_
      refine x_wV (wr := [(nw, .inl (E.2.1, 214, .inl now)), (ud, .inl (E.2.1, 2140, .inl und))]) [.int 1, .int 2] (kX9_throwsIf_12 l E h nw td tx length textSize start next token value error errorAt seen triedWith rr ss tr wa undos ud sl sv) ⟨hx, hb, hml, hown, hts⟩ (cwV 2 hts gX9_setMode_X9_throwsIf rfl rfl rfl hdX9_throwsIf ⟨Nat.le_of_ble_eq_true rfl, Nat.le_of_ble_eq_true rfl⟩) hE hP (hX.d rfl) hS hA [2] [0, 1] rfl rfl rfl rfl (by decide) (ci := 9) (q0 := 2) rfl rfl rfl hl.1 rfl rfl (Nat.le_of_ble_eq_true rfl) dX9_setMode_44 (Nat.le_of_ble_eq_true rfl) (Nat.le_of_ble_eq_true rfl) (fun q_8 H locs hq_8 hP hD hS => ?_)
      have hP : va_P E.1 vwCl [(nw, .inl (E.2.1, 214, .inl now)), (ud, .inl (E.2.1, 2140, .inl und)), (h, .inr (9, [.int 2, .ref nw, .ref td, .ref tx, .int length, .int textSize, .int start, .int next, .int token, .int value, .int error, .int errorAt, .int seen, .int triedWith, .ref rr, .ref ss, .ref tr, .ref wa, .int undos, .ref ud, .ref sl, .ref sv]))] H := hP
      have hX : xD A [nw, ud, h] := xD.of hD rfl
      refine W.eq (g2 := F0 m 47 ls [.int 1]) rfl ?_
      refine lv_if_eq (tgt := 52) hx hb dX9_setMode_47 (by decide) (fun c_9 => absurd c_9 (by decide)) (fun c_9 => ?_)
      refine lv_iconst (v := 0) hx hb dX9_setMode_50 (by decide) ?_
      exact x_wi (0, 2, now, undos, und) (by unfold sX9_setMode; rw [if_neg c_1]; rw [if_pos c_4]; try rfl) rfl hx hb hr hlk hS hP (hX.d rfl) [2, 0, 1] rfl rfl (Nat.le_of_ble_eq_true rfl) (Nat.le_of_ble_eq_true rfl) dX9_setMode_51
  · refine lv_iconst (v := 1) hx hb dX9_setMode_15 (by decide) ?_
    refine lv_goto (tgt := 20) hx hb dX9_setMode_16 (by decide) ?_
    refine lv_iconst (v := 1) hx hb dX9_setMode_20 (by decide) ?_
    refine x_wV (wr := [(nw, .inl (E.2.1, 214, .inl now)), (ud, .inl (E.2.1, 2140, .inl und))]) [.int 1, .int 1] (kX9_throwsIf_11 l E h nw td tx length textSize start next token value error errorAt seen triedWith rr ss tr wa undos ud sl sv) ⟨hx, hb, hml, hown, hts⟩ (cwV 2 hts gX9_setMode_X9_throwsIf rfl rfl rfl hdX9_throwsIf ⟨Nat.le_of_ble_eq_true rfl, Nat.le_of_ble_eq_true rfl⟩) hE hP (hX.d rfl) hS hA [0] [1, 2] rfl rfl rfl rfl (by decide) (ci := 9) (q0 := 0) rfl rfl rfl hl.1 rfl rfl (Nat.le_of_ble_eq_true rfl) dX9_setMode_21 (Nat.le_of_ble_eq_true rfl) (Nat.le_of_ble_eq_true rfl) (fun q_10 H locs hq_10 hP hD hS => ?_)
    have hP : va_P E.1 vwCl [(nw, .inl (E.2.1, 214, .inl now)), (ud, .inl (E.2.1, 2140, .inl und)), (h, .inr (9, [.int 1, .ref nw, .ref td, .ref tx, .int length, .int textSize, .int start, .int next, .int token, .int value, .int error, .int errorAt, .int seen, .int triedWith, .ref rr, .ref ss, .ref tr, .ref wa, .int undos, .ref ud, .ref sl, .ref sv]))] H := hP
    have hX : xD A [nw, ud, h] := xD.of hD rfl
    refine W.eq (g2 := F0 m 24 ls [.int 1]) rfl ?_
    refine lv_if_ne (tgt := 50) hx hb dX9_setMode_24 (by decide) (fun c_11 => ?_) (fun c_11 => absurd c_11 (by decide))
    refine lv_iconst (v := 0) hx hb dX9_setMode_50 (by decide) ?_
    exact x_wi (0, 1, now, undos, und) (by unfold sX9_setMode; rw [if_pos c_1]; try rfl) rfl hx hb hr hlk hS hP (hX.d rfl) [2, 0, 1] rfl rfl (Nat.le_of_ble_eq_true rfl) (Nat.le_of_ble_eq_true rfl) dX9_setMode_51
def sX9_reset_q_7 (undos : Int32) (now : Nat → Int32) (und : Nat → Int32) (a1 : Int32) (a2 : Int32) (q_7 : Int32 × (Nat → Int32)) : Int32 × Int32 × (Nat → Int32) × Int32 × (Nat → Int32) :=
  (now 1, 0, upd (upd (upd (upd (upd (upd (upd (upd (upd now 1 0) 2 0) 3 0) 4 0) 10 a1) 11 a2) 12 0) 13 0) 8 ((now 8) + 1), q_7.1, q_7.2)
def sX9_reset (undos : Int32) (now : Nat → Int32) (und : Nat → Int32) (a1 : Int32) (a2 : Int32) : Int32 × Int32 × (Nat → Int32) × Int32 × (Nat → Int32) :=
  if (sX9_within a1 0 4095) = 0 then
    (0, 1, now, undos, und)
  else
    if (sX9_within a2 0 4095) = 0 then
      (0, 1, now, undos, und)
    else
      sX9_reset_q_7 undos now und a1 a2 (sX9_keeps undos now und)
theorem hdX9_reset : yX9_reset.cls = RX9 ∧ yX9_reset.cls ≠ "java/lang/invoke/MethodHandle" ∧ yX9_reset.cls ≠ "java/lang/invoke/VarHandle" ∧ (parseMethodDescriptor yX9_reset.desc).map (fun d => d.parameters.length) = some 2 := by decide +kernel
set_option maxHeartbeats 4000000 in
set_option maxRecDepth 100000 in
theorem kX9_reset (l : Launch) (E : XE) (h : Nat) (thrown : Int32) (nw : Nat) (td : Nat) (tx : Nat) (length : Int32) (textSize : Int32) (start : Int32) (next : Int32) (token : Int32) (value : Int32) (error : Int32) (errorAt : Int32) (seen : Int32) (triedWith : Int32) (rr : Nat) (ss : Nat) (tr : Nat) (wa : Nat) (undos : Int32) (ud : Nat) (sl : Nat) (sv : Nat) (now : Nat → Int32) (und : Nat → Int32) (a1 : Int32) (a2 : Int32) (hu0 : 0 ≤ undos) (hu1 : undos ≤ 10) : xW (T := Int32 × Int32 × (Nat → Int32) × Int32 × (Nat → Int32)) l yX9_reset wsX9_reset ({ frames := 2, cells := 0, slots := 0, locals := 45 }) E [(h, .inr (9, [.int thrown, .ref nw, .ref td, .ref tx, .int length, .int textSize, .int start, .int next, .int token, .int value, .int error, .int errorAt, .int seen, .int triedWith, .ref rr, .ref ss, .ref tr, .ref wa, .int undos, .ref ud, .ref sl, .ref sv])), (nw, .inl (E.2.1, 214, .inl now)), (ud, .inl (E.2.1, 2140, .inl und))] [.ref h, .int a1, .int a2] (fun q => some (.int q.1)) (fun q => [(h, .inr (9, [.int q.2.1, .ref nw, .ref td, .ref tx, .int length, .int textSize, .int start, .int next, .int token, .int value, .int error, .int errorAt, .int seen, .int triedWith, .ref rr, .ref ss, .ref tr, .ref wa, .int q.2.2.2.1, .ref ud, .ref sl, .ref sv])), (nw, .inl (E.2.1, 214, .inl q.2.2.1)), (ud, .inl (E.2.1, 2140, .inl q.2.2.2.2))]) (sX9_reset undos now und a1 a2) 0 0 := by
  refine xW.of (cc := cX9_reset) (maxL := 4) (ret := (some .int)) (by decide) rfl (Nat.le_of_ble_eq_true rfl) ?_
  intro p e s m args below meth c ls A hM hE hP hD hS hA hl
  obtain ⟨hx, hb, hr, hml, hts, hown, hlk, hnm⟩ := hM
  have g_1 : (Cond.fieldLink RX9 55 "RailPendulumModel" "thrown" "I").before args s = true := hts (Cond.fieldLink RX9 55 "RailPendulumModel" "thrown" "I") (by decide +kernel)
  have g_2 : ∀ w ∈ wsX90, w ∈ wsX9_reset := by decide +kernel
  have g_3 : (Cond.fieldLink RX9 7 "RailPendulumModel" "now" "[I").before args s = true := hts (Cond.fieldLink RX9 7 "RailPendulumModel" "now" "[I") (by decide +kernel)
  have hX : xD A [h, nw, ud] := xD.of hD rfl
  have hl : lv_has ls 4 [(0, .ref h), (1, .int a1), (2, .int a2)] := hl
  refine lv_aload_n hx hb dX9_reset_0 rfl (lv_at hl 0 rfl) ?_
  refine lv_iconst (v := 0) hx hb dX9_reset_1 (by decide) ?_
  refine va_put (D := E.1) (ci := 9) (v := .int 0) (ty := .int) (C := RX9) (T := TX9) (N := 22) hx hb hts g_2 tyX9 tyX9_ok nmX9 hown hE.1 hP (hX.d rfl) hS 0 rfl rfl 0 (by decide) g_1 (fun _ h9 => h9) rfl (by decide +kernel) rfl rfl (Nat.le_of_ble_eq_true rfl) dX9_reset_2 (fun H locs hP _ hS => ?_)
  have hP : va_P E.1 vwCl [(h, .inr (9, [.int 0, .ref nw, .ref td, .ref tx, .int length, .int textSize, .int start, .int next, .int token, .int value, .int error, .int errorAt, .int seen, .int triedWith, .ref rr, .ref ss, .ref tr, .ref wa, .int undos, .ref ud, .ref sl, .ref sv])), (nw, .inl (E.2.1, 214, .inl now)), (ud, .inl (E.2.1, 2140, .inl und))] H := hP
  refine lv_aload_n hx hb dX9_reset_5 rfl (lv_at hl 0 rfl) ?_
  refine lv_iload_n hx hb dX9_reset_6 rfl (lv_at hl 1 rfl) ?_
  refine lv_iconst (v := 0) hx hb dX9_reset_7 (by decide) ?_
  refine lv_sipush (v := 4095) hx hb dX9_reset_8 (by decide) ?_
  refine x_rS [.int a1, .int 0, .int 4095] (kX9_within l E a1 0 4095) ⟨hx, hb, hml, hown, hts⟩ (va_cwS 3 hts gX9_reset_X9_within rfl rfl rfl hdX9_within.2 ⟨Nat.le_of_ble_eq_true rfl, Nat.le_of_ble_eq_true rfl⟩) hE hP (hX.d rfl) [] rfl rfl hl.1 rfl rfl (Nat.le_of_ble_eq_true rfl) dX9_reset_11 (Nat.le_of_ble_eq_true rfl) (Nat.le_of_ble_eq_true rfl) ?_
  refine lv_if_eq (tgt := 28) hx hb dX9_reset_14 (by decide) (fun c_1 => ?_) (fun c_1 => ?_)
  · refine lv_iconst (v := 1) hx hb dX9_reset_28 (by decide) ?_
    refine lv_goto (tgt := 33) hx hb dX9_reset_29 (by decide) ?_
    refine lv_iconst (v := 1) hx hb dX9_reset_33 (by decide) ?_
    refine x_wV (wr := [(nw, .inl (E.2.1, 214, .inl now)), (ud, .inl (E.2.1, 2140, .inl und))]) [.int 1, .int 1] (kX9_throwsIf_11 l E h nw td tx length textSize start next token value error errorAt seen triedWith rr ss tr wa undos ud sl sv) ⟨hx, hb, hml, hown, hts⟩ (cwV 2 hts gX9_reset_X9_throwsIf rfl rfl rfl hdX9_throwsIf ⟨Nat.le_of_ble_eq_true rfl, Nat.le_of_ble_eq_true rfl⟩) hE hP (hX.d rfl) hS hA [0] [1, 2] rfl rfl rfl rfl (by decide) (ci := 9) (q0 := 0) rfl rfl rfl hl.1 rfl rfl (Nat.le_of_ble_eq_true rfl) dX9_reset_34 (Nat.le_of_ble_eq_true rfl) (Nat.le_of_ble_eq_true rfl) (fun q_2 H locs hq_2 hP hD hS => ?_)
    have hP : va_P E.1 vwCl [(nw, .inl (E.2.1, 214, .inl now)), (ud, .inl (E.2.1, 2140, .inl und)), (h, .inr (9, [.int 1, .ref nw, .ref td, .ref tx, .int length, .int textSize, .int start, .int next, .int token, .int value, .int error, .int errorAt, .int seen, .int triedWith, .ref rr, .ref ss, .ref tr, .ref wa, .int undos, .ref ud, .ref sl, .ref sv]))] H := hP
    have hX : xD A [nw, ud, h] := xD.of hD rfl
    refine W.eq (g2 := F0 m 37 ls [.int 1]) rfl ?_
    refine lv_if_eq (tgt := 42) hx hb dX9_reset_37 (by decide) (fun c_3 => absurd c_3 (by decide)) (fun c_3 => ?_)
    refine lv_iconst (v := 0) hx hb dX9_reset_40 (by decide) ?_
    exact x_wi (0, 1, now, undos, und) (by unfold sX9_reset; rw [if_pos c_1]; try rfl) rfl hx hb hr hlk hS hP (hX.d rfl) [2, 0, 1] rfl rfl (Nat.le_of_ble_eq_true rfl) (Nat.le_of_ble_eq_true rfl) dX9_reset_41
  · refine lv_iload_n hx hb dX9_reset_17 rfl (lv_at hl 2 rfl) ?_
    refine lv_iconst (v := 0) hx hb dX9_reset_18 (by decide) ?_
    refine lv_sipush (v := 4095) hx hb dX9_reset_19 (by decide) ?_
    refine x_rS [.int a2, .int 0, .int 4095] (kX9_within l E a2 0 4095) ⟨hx, hb, hml, hown, hts⟩ (va_cwS 3 hts gX9_reset_X9_within rfl rfl rfl hdX9_within.2 ⟨Nat.le_of_ble_eq_true rfl, Nat.le_of_ble_eq_true rfl⟩) hE hP (hX.d rfl) [] rfl rfl hl.1 rfl rfl (Nat.le_of_ble_eq_true rfl) dX9_reset_22 (Nat.le_of_ble_eq_true rfl) (Nat.le_of_ble_eq_true rfl) ?_
    refine lv_if_ne (tgt := 32) hx hb dX9_reset_25 (by decide) (fun c_4 => ?_) (fun c_4 => ?_)
    · refine lv_iconst (v := 0) hx hb dX9_reset_32 (by decide) ?_
      refine lv_iconst (v := 1) hx hb dX9_reset_33 (by decide) ?_
      refine x_wV (wr := [(nw, .inl (E.2.1, 214, .inl now)), (ud, .inl (E.2.1, 2140, .inl und))]) [.int 0, .int 1] (kX9_throwsIf_0 l E h nw td tx length textSize start next token value error errorAt seen triedWith rr ss tr wa undos ud sl sv 1) ⟨hx, hb, hml, hown, hts⟩ (cwV 2 hts gX9_reset_X9_throwsIf rfl rfl rfl hdX9_throwsIf ⟨Nat.le_of_ble_eq_true rfl, Nat.le_of_ble_eq_true rfl⟩) hE hP (hX.d rfl) hS hA [0] [1, 2] rfl rfl rfl rfl (by decide) (ci := 9) (q0 := 0) rfl rfl rfl hl.1 rfl rfl (Nat.le_of_ble_eq_true rfl) dX9_reset_34 (Nat.le_of_ble_eq_true rfl) (Nat.le_of_ble_eq_true rfl) (fun q_5 H locs hq_5 hP hD hS => ?_)
      have hP : va_P E.1 vwCl [(nw, .inl (E.2.1, 214, .inl now)), (ud, .inl (E.2.1, 2140, .inl und)), (h, .inr (9, [.int 0, .ref nw, .ref td, .ref tx, .int length, .int textSize, .int start, .int next, .int token, .int value, .int error, .int errorAt, .int seen, .int triedWith, .ref rr, .ref ss, .ref tr, .ref wa, .int undos, .ref ud, .ref sl, .ref sv]))] H := hP
      have hX : xD A [nw, ud, h] := xD.of hD rfl
      refine W.eq (g2 := F0 m 37 ls [.int 0]) rfl ?_
      refine lv_if_eq (tgt := 42) hx hb dX9_reset_37 (by decide) (fun c_6 => ?_) (fun c_6 => absurd (by decide) c_6)
      refine lv_aload_n hx hb dX9_reset_42 rfl (lv_at hl 0 rfl) ?_
      refine x_wV (wr := []) [] (kX9_keeps l E h 0 nw td tx length textSize start next token value error errorAt seen triedWith rr ss tr wa undos ud sl sv now und hu0 hu1) ⟨hx, hb, hml, hown, hts⟩ (cwV 0 hts gX9_reset_X9_keeps rfl rfl rfl hdX9_keeps ⟨Nat.le_of_ble_eq_true rfl, Nat.le_of_ble_eq_true rfl⟩) hE hP (hX.d rfl) hS hA [2, 0, 1] [] rfl rfl rfl rfl (by decide) (ci := 9) (q0 := 2) rfl rfl rfl hl.1 rfl rfl (Nat.le_of_ble_eq_true rfl) dX9_reset_43 (Nat.le_of_ble_eq_true rfl) (Nat.le_of_ble_eq_true rfl) (fun q_7 H locs hq_7 hP hD hS => ?_)
      have hP : va_P E.1 vwCl [(h, .inr (9, [.int 0, .ref nw, .ref td, .ref tx, .int length, .int textSize, .int start, .int next, .int token, .int value, .int error, .int errorAt, .int seen, .int triedWith, .ref rr, .ref ss, .ref tr, .ref wa, .int q_7.1, .ref ud, .ref sl, .ref sv])), (nw, .inl (E.2.1, 214, .inl now)), (ud, .inl (E.2.1, 2140, .inl q_7.2))] H := hP
      have hX : xD A [h, nw, ud] := xD.of hD rfl
      refine W.eq (g2 := F0 m 46 ls []) rfl ?_
      refine lv_aload_n hx hb dX9_reset_46 rfl (lv_at hl 0 rfl) ?_
      refine va_get (D := E.1) (ci := 9) (v := .ref nw) (C := RX9) (T := TX9) (N := 22) hx hb hts g_2 hown hE.1 hP 0 rfl rfl 1 (by decide) g_3 (fun _ h9 => h9) rfl dX9_reset_47 ?_
      refine lv_iconst (v := 1) hx hb dX9_reset_50 (by decide) ?_
      refine x_iald hx hb hE.1 hP 1 0 rfl rfl 1 (by decide) (by unfold vp_in; decide) dX9_reset_51 ?_
      refine lv_istore_n (lv' := [(3, .int (now 1)), (0, .ref h), (1, .int a1), (2, .int a2)]) hx hb dX9_reset_52 rfl hl (by decide) rfl (fun ls hl => ?_)
      refine lv_aload_n hx hb dX9_reset_53 rfl (lv_at hl 1 rfl) ?_
      refine va_get (D := E.1) (ci := 9) (v := .ref nw) (C := RX9) (T := TX9) (N := 22) hx hb hts g_2 hown hE.1 hP 0 rfl rfl 1 (by decide) g_3 (fun _ h9 => h9) rfl dX9_reset_54 ?_
      refine lv_iconst (v := 1) hx hb dX9_reset_57 (by decide) ?_
      refine lv_iconst (v := 0) hx hb dX9_reset_58 (by decide) ?_
      refine x_iast hx hb hE.1 hP (hX.d rfl) hS 1 0 rfl rfl 1 (by decide) (by unfold vp_in; decide) dX9_reset_59 (fun H locs hP _ hS => ?_)
      have hP : va_P E.1 vwCl [(h, .inr (9, [.int 0, .ref nw, .ref td, .ref tx, .int length, .int textSize, .int start, .int next, .int token, .int value, .int error, .int errorAt, .int seen, .int triedWith, .ref rr, .ref ss, .ref tr, .ref wa, .int q_7.1, .ref ud, .ref sl, .ref sv])), (nw, .inl (E.2.1, 214, .inl (upd now 1 0))), (ud, .inl (E.2.1, 2140, .inl q_7.2))] H := hP
      refine lv_aload_n hx hb dX9_reset_60 rfl (lv_at hl 1 rfl) ?_
      refine va_get (D := E.1) (ci := 9) (v := .ref nw) (C := RX9) (T := TX9) (N := 22) hx hb hts g_2 hown hE.1 hP 0 rfl rfl 1 (by decide) g_3 (fun _ h9 => h9) rfl dX9_reset_61 ?_
      refine lv_iconst (v := 2) hx hb dX9_reset_64 (by decide) ?_
      refine lv_iconst (v := 0) hx hb dX9_reset_65 (by decide) ?_
      refine x_iast hx hb hE.1 hP (hX.d rfl) hS 1 0 rfl rfl 2 (by decide) (by unfold vp_in; decide) dX9_reset_66 (fun H locs hP _ hS => ?_)
      have hP : va_P E.1 vwCl [(h, .inr (9, [.int 0, .ref nw, .ref td, .ref tx, .int length, .int textSize, .int start, .int next, .int token, .int value, .int error, .int errorAt, .int seen, .int triedWith, .ref rr, .ref ss, .ref tr, .ref wa, .int q_7.1, .ref ud, .ref sl, .ref sv])), (nw, .inl (E.2.1, 214, .inl (upd (upd now 1 0) 2 0))), (ud, .inl (E.2.1, 2140, .inl q_7.2))] H := hP
      refine lv_aload_n hx hb dX9_reset_67 rfl (lv_at hl 1 rfl) ?_
      refine va_get (D := E.1) (ci := 9) (v := .ref nw) (C := RX9) (T := TX9) (N := 22) hx hb hts g_2 hown hE.1 hP 0 rfl rfl 1 (by decide) g_3 (fun _ h9 => h9) rfl dX9_reset_68 ?_
      refine lv_iconst (v := 3) hx hb dX9_reset_71 (by decide) ?_
      refine lv_iconst (v := 0) hx hb dX9_reset_72 (by decide) ?_
      refine x_iast hx hb hE.1 hP (hX.d rfl) hS 1 0 rfl rfl 3 (by decide) (by unfold vp_in; decide) dX9_reset_73 (fun H locs hP _ hS => ?_)
      have hP : va_P E.1 vwCl [(h, .inr (9, [.int 0, .ref nw, .ref td, .ref tx, .int length, .int textSize, .int start, .int next, .int token, .int value, .int error, .int errorAt, .int seen, .int triedWith, .ref rr, .ref ss, .ref tr, .ref wa, .int q_7.1, .ref ud, .ref sl, .ref sv])), (nw, .inl (E.2.1, 214, .inl (upd (upd (upd now 1 0) 2 0) 3 0))), (ud, .inl (E.2.1, 2140, .inl q_7.2))] H := hP
      refine lv_aload_n hx hb dX9_reset_74 rfl (lv_at hl 1 rfl) ?_
      refine va_get (D := E.1) (ci := 9) (v := .ref nw) (C := RX9) (T := TX9) (N := 22) hx hb hts g_2 hown hE.1 hP 0 rfl rfl 1 (by decide) g_3 (fun _ h9 => h9) rfl dX9_reset_75 ?_
      refine lv_iconst (v := 4) hx hb dX9_reset_78 (by decide) ?_
      refine lv_iconst (v := 0) hx hb dX9_reset_79 (by decide) ?_
      refine x_iast hx hb hE.1 hP (hX.d rfl) hS 1 0 rfl rfl 4 (by decide) (by unfold vp_in; decide) dX9_reset_80 (fun H locs hP _ hS => ?_)
      have hP : va_P E.1 vwCl [(h, .inr (9, [.int 0, .ref nw, .ref td, .ref tx, .int length, .int textSize, .int start, .int next, .int token, .int value, .int error, .int errorAt, .int seen, .int triedWith, .ref rr, .ref ss, .ref tr, .ref wa, .int q_7.1, .ref ud, .ref sl, .ref sv])), (nw, .inl (E.2.1, 214, .inl (upd (upd (upd (upd now 1 0) 2 0) 3 0) 4 0))), (ud, .inl (E.2.1, 2140, .inl q_7.2))] H := hP
      refine lv_aload_n hx hb dX9_reset_81 rfl (lv_at hl 1 rfl) ?_
      refine va_get (D := E.1) (ci := 9) (v := .ref nw) (C := RX9) (T := TX9) (N := 22) hx hb hts g_2 hown hE.1 hP 0 rfl rfl 1 (by decide) g_3 (fun _ h9 => h9) rfl dX9_reset_82 ?_
      refine lv_bipush (v := 10) hx hb dX9_reset_85 (by decide) ?_
      refine lv_iload_n hx hb dX9_reset_87 rfl (lv_at hl 2 rfl) ?_
      refine x_iast hx hb hE.1 hP (hX.d rfl) hS 1 0 rfl rfl 10 (by decide) (by unfold vp_in; decide) dX9_reset_88 (fun H locs hP _ hS => ?_)
      have hP : va_P E.1 vwCl [(h, .inr (9, [.int 0, .ref nw, .ref td, .ref tx, .int length, .int textSize, .int start, .int next, .int token, .int value, .int error, .int errorAt, .int seen, .int triedWith, .ref rr, .ref ss, .ref tr, .ref wa, .int q_7.1, .ref ud, .ref sl, .ref sv])), (nw, .inl (E.2.1, 214, .inl (upd (upd (upd (upd (upd now 1 0) 2 0) 3 0) 4 0) 10 a1))), (ud, .inl (E.2.1, 2140, .inl q_7.2))] H := hP
      refine lv_aload_n hx hb dX9_reset_89 rfl (lv_at hl 1 rfl) ?_
      refine va_get (D := E.1) (ci := 9) (v := .ref nw) (C := RX9) (T := TX9) (N := 22) hx hb hts g_2 hown hE.1 hP 0 rfl rfl 1 (by decide) g_3 (fun _ h9 => h9) rfl dX9_reset_90 ?_
      refine lv_bipush (v := 11) hx hb dX9_reset_93 (by decide) ?_
      refine lv_iload_n hx hb dX9_reset_95 rfl (lv_at hl 3 rfl) ?_
      refine x_iast hx hb hE.1 hP (hX.d rfl) hS 1 0 rfl rfl 11 (by decide) (by unfold vp_in; decide) dX9_reset_96 (fun H locs hP _ hS => ?_)
      have hP : va_P E.1 vwCl [(h, .inr (9, [.int 0, .ref nw, .ref td, .ref tx, .int length, .int textSize, .int start, .int next, .int token, .int value, .int error, .int errorAt, .int seen, .int triedWith, .ref rr, .ref ss, .ref tr, .ref wa, .int q_7.1, .ref ud, .ref sl, .ref sv])), (nw, .inl (E.2.1, 214, .inl (upd (upd (upd (upd (upd (upd now 1 0) 2 0) 3 0) 4 0) 10 a1) 11 a2))), (ud, .inl (E.2.1, 2140, .inl q_7.2))] H := hP
      refine lv_aload_n hx hb dX9_reset_97 rfl (lv_at hl 1 rfl) ?_
      refine va_get (D := E.1) (ci := 9) (v := .ref nw) (C := RX9) (T := TX9) (N := 22) hx hb hts g_2 hown hE.1 hP 0 rfl rfl 1 (by decide) g_3 (fun _ h9 => h9) rfl dX9_reset_98 ?_
      refine lv_bipush (v := 12) hx hb dX9_reset_101 (by decide) ?_
      refine lv_iconst (v := 0) hx hb dX9_reset_103 (by decide) ?_
      refine x_iast hx hb hE.1 hP (hX.d rfl) hS 1 0 rfl rfl 12 (by decide) (by unfold vp_in; decide) dX9_reset_104 (fun H locs hP _ hS => ?_)
      have hP : va_P E.1 vwCl [(h, .inr (9, [.int 0, .ref nw, .ref td, .ref tx, .int length, .int textSize, .int start, .int next, .int token, .int value, .int error, .int errorAt, .int seen, .int triedWith, .ref rr, .ref ss, .ref tr, .ref wa, .int q_7.1, .ref ud, .ref sl, .ref sv])), (nw, .inl (E.2.1, 214, .inl (upd (upd (upd (upd (upd (upd (upd now 1 0) 2 0) 3 0) 4 0) 10 a1) 11 a2) 12 0))), (ud, .inl (E.2.1, 2140, .inl q_7.2))] H := hP
      refine lv_aload_n hx hb dX9_reset_105 rfl (lv_at hl 1 rfl) ?_
      refine va_get (D := E.1) (ci := 9) (v := .ref nw) (C := RX9) (T := TX9) (N := 22) hx hb hts g_2 hown hE.1 hP 0 rfl rfl 1 (by decide) g_3 (fun _ h9 => h9) rfl dX9_reset_106 ?_
      refine lv_bipush (v := 13) hx hb dX9_reset_109 (by decide) ?_
      refine lv_iconst (v := 0) hx hb dX9_reset_111 (by decide) ?_
      refine x_iast hx hb hE.1 hP (hX.d rfl) hS 1 0 rfl rfl 13 (by decide) (by unfold vp_in; decide) dX9_reset_112 (fun H locs hP _ hS => ?_)
      have hP : va_P E.1 vwCl [(h, .inr (9, [.int 0, .ref nw, .ref td, .ref tx, .int length, .int textSize, .int start, .int next, .int token, .int value, .int error, .int errorAt, .int seen, .int triedWith, .ref rr, .ref ss, .ref tr, .ref wa, .int q_7.1, .ref ud, .ref sl, .ref sv])), (nw, .inl (E.2.1, 214, .inl (upd (upd (upd (upd (upd (upd (upd (upd now 1 0) 2 0) 3 0) 4 0) 10 a1) 11 a2) 12 0) 13 0))), (ud, .inl (E.2.1, 2140, .inl q_7.2))] H := hP
      refine lv_aload_n hx hb dX9_reset_113 rfl (lv_at hl 1 rfl) ?_
      refine va_get (D := E.1) (ci := 9) (v := .ref nw) (C := RX9) (T := TX9) (N := 22) hx hb hts g_2 hown hE.1 hP 0 rfl rfl 1 (by decide) g_3 (fun _ h9 => h9) rfl dX9_reset_114 ?_
      refine lv_bipush (v := 8) hx hb dX9_reset_117 (by decide) ?_
      refine lv_dup2_11 hx hb dX9_reset_119 rfl rfl ?_
      refine x_iald hx hb hE.1 hP 1 0 rfl rfl 8 (by decide) (by unfold vp_in; decide) dX9_reset_120 ?_
      refine W.eq (g2 := F0 m 121 ls [.int (now 8), .int 8, .ref nw]) rfl ?_
      refine lv_iconst (v := 1) hx hb dX9_reset_121 (by decide) ?_
      refine lv_iadd hx hb dX9_reset_122 ?_
      refine x_iast hx hb hE.1 hP (hX.d rfl) hS 1 0 rfl rfl 8 (by decide) (by unfold vp_in; decide) dX9_reset_123 (fun H locs hP _ hS => ?_)
      have hP : va_P E.1 vwCl [(h, .inr (9, [.int 0, .ref nw, .ref td, .ref tx, .int length, .int textSize, .int start, .int next, .int token, .int value, .int error, .int errorAt, .int seen, .int triedWith, .ref rr, .ref ss, .ref tr, .ref wa, .int q_7.1, .ref ud, .ref sl, .ref sv])), (nw, .inl (E.2.1, 214, .inl (upd (upd (upd (upd (upd (upd (upd (upd (upd now 1 0) 2 0) 3 0) 4 0) 10 a1) 11 a2) 12 0) 13 0) 8 ((now 8) + 1)))), (ud, .inl (E.2.1, 2140, .inl q_7.2))] H := hP
      refine lv_iload_n hx hb dX9_reset_124 rfl (lv_at hl 0 rfl) ?_
      exact x_wi (now 1, 0, upd (upd (upd (upd (upd (upd (upd (upd (upd now 1 0) 2 0) 3 0) 4 0) 10 a1) 11 a2) 12 0) 13 0) 8 ((now 8) + 1), q_7.1, q_7.2) (by unfold sX9_reset; rw [if_neg c_1]; rw [if_neg c_4]; rw [← hq_7]; unfold sX9_reset_q_7; try rfl) rfl hx hb hr hlk hS hP (hX.d rfl) [0, 1, 2] rfl rfl (Nat.le_of_ble_eq_true rfl) (Nat.le_of_ble_eq_true rfl) dX9_reset_125
    · refine lv_iconst (v := 1) hx hb dX9_reset_28 (by decide) ?_
      refine lv_goto (tgt := 33) hx hb dX9_reset_29 (by decide) ?_
      refine lv_iconst (v := 1) hx hb dX9_reset_33 (by decide) ?_
      refine x_wV (wr := [(nw, .inl (E.2.1, 214, .inl now)), (ud, .inl (E.2.1, 2140, .inl und))]) [.int 1, .int 1] (kX9_throwsIf_11 l E h nw td tx length textSize start next token value error errorAt seen triedWith rr ss tr wa undos ud sl sv) ⟨hx, hb, hml, hown, hts⟩ (cwV 2 hts gX9_reset_X9_throwsIf rfl rfl rfl hdX9_throwsIf ⟨Nat.le_of_ble_eq_true rfl, Nat.le_of_ble_eq_true rfl⟩) hE hP (hX.d rfl) hS hA [0] [1, 2] rfl rfl rfl rfl (by decide) (ci := 9) (q0 := 0) rfl rfl rfl hl.1 rfl rfl (Nat.le_of_ble_eq_true rfl) dX9_reset_34 (Nat.le_of_ble_eq_true rfl) (Nat.le_of_ble_eq_true rfl) (fun q_8 H locs hq_8 hP hD hS => ?_)
      have hP : va_P E.1 vwCl [(nw, .inl (E.2.1, 214, .inl now)), (ud, .inl (E.2.1, 2140, .inl und)), (h, .inr (9, [.int 1, .ref nw, .ref td, .ref tx, .int length, .int textSize, .int start, .int next, .int token, .int value, .int error, .int errorAt, .int seen, .int triedWith, .ref rr, .ref ss, .ref tr, .ref wa, .int undos, .ref ud, .ref sl, .ref sv]))] H := hP
      have hX : xD A [nw, ud, h] := xD.of hD rfl
      refine W.eq (g2 := F0 m 37 ls [.int 1]) rfl ?_
      refine lv_if_eq (tgt := 42) hx hb dX9_reset_37 (by decide) (fun c_9 => absurd c_9 (by decide)) (fun c_9 => ?_)
      refine lv_iconst (v := 0) hx hb dX9_reset_40 (by decide) ?_
      exact x_wi (0, 1, now, undos, und) (by unfold sX9_reset; rw [if_neg c_1]; rw [if_pos c_4]; try rfl) rfl hx hb hr hlk hS hP (hX.d rfl) [2, 0, 1] rfl rfl (Nat.le_of_ble_eq_true rfl) (Nat.le_of_ble_eq_true rfl) dX9_reset_41
def sX9_nudge_q_15 (undos : Int32) (now : Nat → Int32) (und : Nat → Int32) (link : Int32) (amount : Int32) (q_15 : Int32 × (Nat → Int32)) : Int32 × Int32 × (Nat → Int32) × Int32 × (Nat → Int32) :=
  ((now (((12 + link) - 1).toNatClampNeg)) + amount, 0, upd now (((12 + link) - 1).toNatClampNeg) ((now (((12 + link) - 1).toNatClampNeg)) + amount), q_15.1, q_15.2)
def sX9_nudge (undos : Int32) (now : Nat → Int32) (und : Nat → Int32) (link : Int32) (amount : Int32) : Int32 × Int32 × (Nat → Int32) × Int32 × (Nat → Int32) :=
  if (sX9_within link 1 2) = 0 then
    (0, 1, now, undos, und)
  else
    if (sX9_within amount (-500) 500) = 0 then
      (0, 2, now, undos, und)
    else
      if (now 1) = 3 then
        (0, 3, now, undos, und)
      else
        if (sX9_isBeyond ((now (((12 + link) - 1).toNatClampNeg)) + amount) 9999) = 0 then
          sX9_nudge_q_15 undos now und link amount (sX9_keeps undos now und)
        else
          (0, 3, now, undos, und)
theorem hdX9_nudge : yX9_nudge.cls = RX9 ∧ yX9_nudge.cls ≠ "java/lang/invoke/MethodHandle" ∧ yX9_nudge.cls ≠ "java/lang/invoke/VarHandle" ∧ (parseMethodDescriptor yX9_nudge.desc).map (fun d => d.parameters.length) = some 2 := by decide +kernel
set_option maxHeartbeats 4000000 in
set_option maxRecDepth 100000 in
theorem kX9_nudge (l : Launch) (E : XE) (h : Nat) (thrown : Int32) (nw : Nat) (td : Nat) (tx : Nat) (length : Int32) (textSize : Int32) (start : Int32) (next : Int32) (token : Int32) (value : Int32) (error : Int32) (errorAt : Int32) (seen : Int32) (triedWith : Int32) (rr : Nat) (ss : Nat) (tr : Nat) (wa : Nat) (undos : Int32) (ud : Nat) (sl : Nat) (sv : Nat) (now : Nat → Int32) (und : Nat → Int32) (link : Int32) (amount : Int32) (hu0 : 0 ≤ undos) (hu1 : undos ≤ 10) : xW (T := Int32 × Int32 × (Nat → Int32) × Int32 × (Nat → Int32)) l yX9_nudge wsX9_nudge ({ frames := 2, cells := 0, slots := 0, locals := 45 }) E [(h, .inr (9, [.int thrown, .ref nw, .ref td, .ref tx, .int length, .int textSize, .int start, .int next, .int token, .int value, .int error, .int errorAt, .int seen, .int triedWith, .ref rr, .ref ss, .ref tr, .ref wa, .int undos, .ref ud, .ref sl, .ref sv])), (nw, .inl (E.2.1, 214, .inl now)), (ud, .inl (E.2.1, 2140, .inl und))] [.ref h, .int link, .int amount] (fun q => some (.int q.1)) (fun q => [(h, .inr (9, [.int q.2.1, .ref nw, .ref td, .ref tx, .int length, .int textSize, .int start, .int next, .int token, .int value, .int error, .int errorAt, .int seen, .int triedWith, .ref rr, .ref ss, .ref tr, .ref wa, .int q.2.2.2.1, .ref ud, .ref sl, .ref sv])), (nw, .inl (E.2.1, 214, .inl q.2.2.1)), (ud, .inl (E.2.1, 2140, .inl q.2.2.2.2))]) (sX9_nudge undos now und link amount) 0 0 := by
  refine xW.of (cc := cX9_nudge) (maxL := 4) (ret := (some .int)) (by decide) rfl (Nat.le_of_ble_eq_true rfl) ?_
  intro p e s m args below meth c ls A hM hE hP hD hS hA hl
  obtain ⟨hx, hb, hr, hml, hts, hown, hlk, hnm⟩ := hM
  have g_1 : (Cond.fieldLink RX9 7 "RailPendulumModel" "now" "[I").before args s = true := hts (Cond.fieldLink RX9 7 "RailPendulumModel" "now" "[I") (by decide +kernel)
  have g_2 : ∀ w ∈ wsX90, w ∈ wsX9_nudge := by decide +kernel
  have hX : xD A [h, nw, ud] := xD.of hD rfl
  have hl : lv_has ls 4 [(0, .ref h), (1, .int link), (2, .int amount)] := hl
  refine lv_aload_n hx hb dX9_nudge_0 rfl (lv_at hl 0 rfl) ?_
  refine lv_iload_n hx hb dX9_nudge_1 rfl (lv_at hl 1 rfl) ?_
  by_cases c_1 : (sX9_within link 1 2) = 0
  · refine x_wV (wr := [(nw, .inl (E.2.1, 214, .inl now)), (ud, .inl (E.2.1, 2140, .inl und))]) [.int link] (kX9_noLink_bad l E h thrown nw td tx length textSize start next token value error errorAt seen triedWith rr ss tr wa undos ud sl sv link c_1) ⟨hx, hb, hml, hown, hts⟩ (cwV 1 hts gX9_nudge_X9_noLink rfl rfl rfl hdX9_noLink ⟨Nat.le_of_ble_eq_true rfl, Nat.le_of_ble_eq_true rfl⟩) hE hP (hX.d rfl) hS hA [0] [1, 2] rfl rfl rfl rfl (by decide) (ci := 9) (q0 := 0) rfl rfl rfl hl.1 rfl rfl (Nat.le_of_ble_eq_true rfl) dX9_nudge_2 (Nat.le_of_ble_eq_true rfl) (Nat.le_of_ble_eq_true rfl) (fun q_2 H locs hq_2 hP hD hS => ?_)
    have hP : va_P E.1 vwCl [(nw, .inl (E.2.1, 214, .inl now)), (ud, .inl (E.2.1, 2140, .inl und)), (h, .inr (9, [.int 1, .ref nw, .ref td, .ref tx, .int length, .int textSize, .int start, .int next, .int token, .int value, .int error, .int errorAt, .int seen, .int triedWith, .ref rr, .ref ss, .ref tr, .ref wa, .int undos, .ref ud, .ref sl, .ref sv]))] H := hP
    have hX : xD A [nw, ud, h] := xD.of hD rfl
    refine W.eq (g2 := F0 m 5 ls [.int 1]) rfl ?_
    refine lv_if_ne (tgt := 34) hx hb dX9_nudge_5 (by decide) (fun c_3 => ?_) (fun c_3 => absurd c_3 (by decide))
    refine lv_iconst (v := 0) hx hb dX9_nudge_34 (by decide) ?_
    exact x_wi (0, 1, now, undos, und) (by unfold sX9_nudge; rw [if_pos c_1]; try rfl) rfl hx hb hr hlk hS hP (hX.d rfl) [2, 0, 1] rfl rfl (Nat.le_of_ble_eq_true rfl) (Nat.le_of_ble_eq_true rfl) dX9_nudge_35
  · refine x_wV (wr := [(nw, .inl (E.2.1, 214, .inl now)), (ud, .inl (E.2.1, 2140, .inl und))]) [.int link] (kX9_noLink_ok l E h thrown nw td tx length textSize start next token value error errorAt seen triedWith rr ss tr wa undos ud sl sv link c_1) ⟨hx, hb, hml, hown, hts⟩ (cwV 1 hts gX9_nudge_X9_noLink rfl rfl rfl hdX9_noLink ⟨Nat.le_of_ble_eq_true rfl, Nat.le_of_ble_eq_true rfl⟩) hE hP (hX.d rfl) hS hA [0] [1, 2] rfl rfl rfl rfl (by decide) (ci := 9) (q0 := 0) rfl rfl rfl hl.1 rfl rfl (Nat.le_of_ble_eq_true rfl) dX9_nudge_2 (Nat.le_of_ble_eq_true rfl) (Nat.le_of_ble_eq_true rfl) (fun q_4 H locs hq_4 hP hD hS => ?_)
    have hP : va_P E.1 vwCl [(nw, .inl (E.2.1, 214, .inl now)), (ud, .inl (E.2.1, 2140, .inl und)), (h, .inr (9, [.int 0, .ref nw, .ref td, .ref tx, .int length, .int textSize, .int start, .int next, .int token, .int value, .int error, .int errorAt, .int seen, .int triedWith, .ref rr, .ref ss, .ref tr, .ref wa, .int undos, .ref ud, .ref sl, .ref sv]))] H := hP
    have hX : xD A [nw, ud, h] := xD.of hD rfl
    refine W.eq (g2 := F0 m 5 ls [.int 0]) rfl ?_
    refine lv_if_ne (tgt := 34) hx hb dX9_nudge_5 (by decide) (fun c_5 => absurd rfl c_5) (fun c_5 => ?_)
    refine lv_aload_n hx hb dX9_nudge_8 rfl (lv_at hl 0 rfl) ?_
    refine lv_iload_n hx hb dX9_nudge_9 rfl (lv_at hl 2 rfl) ?_
    refine lv_sipush (v := (-500)) hx hb dX9_nudge_10 (by decide) ?_
    refine lv_sipush (v := 500) hx hb dX9_nudge_13 (by decide) ?_
    refine x_rS [.int amount, .int (-500), .int 500] (kX9_within l E amount (-500) 500) ⟨hx, hb, hml, hown, hts⟩ (va_cwS 3 hts gX9_nudge_X9_within rfl rfl rfl hdX9_within.2 ⟨Nat.le_of_ble_eq_true rfl, Nat.le_of_ble_eq_true rfl⟩) hE hP (hX.d rfl) [] rfl rfl hl.1 rfl rfl (Nat.le_of_ble_eq_true rfl) dX9_nudge_16 (Nat.le_of_ble_eq_true rfl) (Nat.le_of_ble_eq_true rfl) ?_
    refine lv_if_ne (tgt := 26) hx hb dX9_nudge_19 (by decide) (fun c_6 => ?_) (fun c_6 => ?_)
    · refine lv_iconst (v := 0) hx hb dX9_nudge_26 (by decide) ?_
      refine lv_iconst (v := 2) hx hb dX9_nudge_27 (by decide) ?_
      refine x_wV (wr := [(nw, .inl (E.2.1, 214, .inl now)), (ud, .inl (E.2.1, 2140, .inl und))]) [.int 0, .int 2] (kX9_throwsIf_0 l E h nw td tx length textSize start next token value error errorAt seen triedWith rr ss tr wa undos ud sl sv 2) ⟨hx, hb, hml, hown, hts⟩ (cwV 2 hts gX9_nudge_X9_throwsIf rfl rfl rfl hdX9_throwsIf ⟨Nat.le_of_ble_eq_true rfl, Nat.le_of_ble_eq_true rfl⟩) hE hP (hX.d rfl) hS hA [2] [0, 1] rfl rfl rfl rfl (by decide) (ci := 9) (q0 := 2) rfl rfl rfl hl.1 rfl rfl (Nat.le_of_ble_eq_true rfl) dX9_nudge_28 (Nat.le_of_ble_eq_true rfl) (Nat.le_of_ble_eq_true rfl) (fun q_7 H locs hq_7 hP hD hS => ?_)
      have hP : va_P E.1 vwCl [(nw, .inl (E.2.1, 214, .inl now)), (ud, .inl (E.2.1, 2140, .inl und)), (h, .inr (9, [.int 0, .ref nw, .ref td, .ref tx, .int length, .int textSize, .int start, .int next, .int token, .int value, .int error, .int errorAt, .int seen, .int triedWith, .ref rr, .ref ss, .ref tr, .ref wa, .int undos, .ref ud, .ref sl, .ref sv]))] H := hP
      have hX : xD A [nw, ud, h] := xD.of hD rfl
      refine W.eq (g2 := F0 m 31 ls [.int 0]) rfl ?_
      refine lv_if_eq (tgt := 36) hx hb dX9_nudge_31 (by decide) (fun c_8 => ?_) (fun c_8 => absurd (by decide) c_8)
      refine lv_aload_n hx hb dX9_nudge_36 rfl (lv_at hl 0 rfl) ?_
      refine va_get (D := E.1) (ci := 9) (v := .ref nw) (C := RX9) (T := TX9) (N := 22) hx hb hts g_2 hown hE.1 hP 2 rfl rfl 1 (by decide) g_1 (fun _ h9 => h9) rfl dX9_nudge_37 ?_
      refine lv_bipush (v := 12) hx hb dX9_nudge_40 (by decide) ?_
      refine lv_iload_n hx hb dX9_nudge_42 rfl (lv_at hl 1 rfl) ?_
      refine lv_iadd hx hb dX9_nudge_43 ?_
      refine lv_iconst (v := 1) hx hb dX9_nudge_44 (by decide) ?_
      refine lv_isub hx hb dX9_nudge_45 ?_
      refine x_iald hx hb hE.1 hP 0 0 rfl rfl (((12 + link) - 1).toNatClampNeg) rfl (x_i1 (x_lk c_1)).2.1 dX9_nudge_46 ?_
      refine lv_iload_n hx hb dX9_nudge_47 rfl (lv_at hl 2 rfl) ?_
      refine lv_iadd hx hb dX9_nudge_48 ?_
      refine lv_istore_n (lv' := [(3, .int ((now (((12 + link) - 1).toNatClampNeg)) + amount)), (0, .ref h), (1, .int link), (2, .int amount)]) hx hb dX9_nudge_49 rfl hl (by decide) rfl (fun ls hl => ?_)
      refine lv_aload_n hx hb dX9_nudge_50 rfl (lv_at hl 1 rfl) ?_
      refine lv_aload_n hx hb dX9_nudge_51 rfl (lv_at hl 1 rfl) ?_
      refine va_get (D := E.1) (ci := 9) (v := .ref nw) (C := RX9) (T := TX9) (N := 22) hx hb hts g_2 hown hE.1 hP 2 rfl rfl 1 (by decide) g_1 (fun _ h9 => h9) rfl dX9_nudge_52 ?_
      refine lv_iconst (v := 1) hx hb dX9_nudge_55 (by decide) ?_
      refine x_iald hx hb hE.1 hP 0 0 rfl rfl 1 (by decide) (by unfold vp_in; decide) dX9_nudge_56 ?_
      refine lv_iconst (v := 3) hx hb dX9_nudge_57 (by decide) ?_
      refine lv_icmp_eq (tgt := 71) hx hb dX9_nudge_58 (by decide) (fun c_9 => ?_) (fun c_9 => ?_)
      · refine lv_iconst (v := 1) hx hb dX9_nudge_71 (by decide) ?_
        refine lv_goto (tgt := 76) hx hb dX9_nudge_72 (by decide) ?_
        refine lv_iconst (v := 3) hx hb dX9_nudge_76 (by decide) ?_
        refine x_wV (wr := [(nw, .inl (E.2.1, 214, .inl now)), (ud, .inl (E.2.1, 2140, .inl und))]) [.int 1, .int 3] (kX9_throwsIf_13 l E h nw td tx length textSize start next token value error errorAt seen triedWith rr ss tr wa undos ud sl sv) ⟨hx, hb, hml, hown, hts⟩ (cwV 2 hts gX9_nudge_X9_throwsIf rfl rfl rfl hdX9_throwsIf ⟨Nat.le_of_ble_eq_true rfl, Nat.le_of_ble_eq_true rfl⟩) hE hP (hX.d rfl) hS hA [2] [0, 1] rfl rfl rfl rfl (by decide) (ci := 9) (q0 := 2) rfl rfl rfl hl.1 rfl rfl (Nat.le_of_ble_eq_true rfl) dX9_nudge_77 (Nat.le_of_ble_eq_true rfl) (Nat.le_of_ble_eq_true rfl) (fun q_10 H locs hq_10 hP hD hS => ?_)
        have hP : va_P E.1 vwCl [(nw, .inl (E.2.1, 214, .inl now)), (ud, .inl (E.2.1, 2140, .inl und)), (h, .inr (9, [.int 3, .ref nw, .ref td, .ref tx, .int length, .int textSize, .int start, .int next, .int token, .int value, .int error, .int errorAt, .int seen, .int triedWith, .ref rr, .ref ss, .ref tr, .ref wa, .int undos, .ref ud, .ref sl, .ref sv]))] H := hP
        have hX : xD A [nw, ud, h] := xD.of hD rfl
        refine W.eq (g2 := F0 m 80 ls [.int 1]) rfl ?_
        refine lv_if_eq (tgt := 85) hx hb dX9_nudge_80 (by decide) (fun c_11 => absurd c_11 (by decide)) (fun c_11 => ?_)
        refine lv_iconst (v := 0) hx hb dX9_nudge_83 (by decide) ?_
        exact x_wi (0, 3, now, undos, und) (by unfold sX9_nudge; rw [if_neg c_1]; rw [if_neg c_6]; rw [if_pos c_9]; try rfl) rfl hx hb hr hlk hS hP (hX.d rfl) [2, 0, 1] rfl rfl (Nat.le_of_ble_eq_true rfl) (Nat.le_of_ble_eq_true rfl) dX9_nudge_84
      · refine lv_iload_n hx hb dX9_nudge_61 rfl (lv_at hl 0 rfl) ?_
        refine lv_sipush (v := 9999) hx hb dX9_nudge_62 (by decide) ?_
        refine x_rS [.int ((now (((12 + link) - 1).toNatClampNeg)) + amount), .int 9999] (kX9_isBeyond l E ((now (((12 + link) - 1).toNatClampNeg)) + amount) 9999) ⟨hx, hb, hml, hown, hts⟩ (va_cwS 2 hts gX9_nudge_X9_isBeyond rfl rfl rfl hdX9_isBeyond.2 ⟨Nat.le_of_ble_eq_true rfl, Nat.le_of_ble_eq_true rfl⟩) hE hP (hX.d rfl) [] rfl rfl hl.1 rfl rfl (Nat.le_of_ble_eq_true rfl) dX9_nudge_65 (Nat.le_of_ble_eq_true rfl) (Nat.le_of_ble_eq_true rfl) ?_
        refine lv_if_eq (tgt := 75) hx hb dX9_nudge_68 (by decide) (fun c_12 => ?_) (fun c_12 => ?_)
        · refine lv_iconst (v := 0) hx hb dX9_nudge_75 (by decide) ?_
          refine lv_iconst (v := 3) hx hb dX9_nudge_76 (by decide) ?_
          refine x_wV (wr := [(nw, .inl (E.2.1, 214, .inl now)), (ud, .inl (E.2.1, 2140, .inl und))]) [.int 0, .int 3] (kX9_throwsIf_0 l E h nw td tx length textSize start next token value error errorAt seen triedWith rr ss tr wa undos ud sl sv 3) ⟨hx, hb, hml, hown, hts⟩ (cwV 2 hts gX9_nudge_X9_throwsIf rfl rfl rfl hdX9_throwsIf ⟨Nat.le_of_ble_eq_true rfl, Nat.le_of_ble_eq_true rfl⟩) hE hP (hX.d rfl) hS hA [2] [0, 1] rfl rfl rfl rfl (by decide) (ci := 9) (q0 := 2) rfl rfl rfl hl.1 rfl rfl (Nat.le_of_ble_eq_true rfl) dX9_nudge_77 (Nat.le_of_ble_eq_true rfl) (Nat.le_of_ble_eq_true rfl) (fun q_13 H locs hq_13 hP hD hS => ?_)
          have hP : va_P E.1 vwCl [(nw, .inl (E.2.1, 214, .inl now)), (ud, .inl (E.2.1, 2140, .inl und)), (h, .inr (9, [.int 0, .ref nw, .ref td, .ref tx, .int length, .int textSize, .int start, .int next, .int token, .int value, .int error, .int errorAt, .int seen, .int triedWith, .ref rr, .ref ss, .ref tr, .ref wa, .int undos, .ref ud, .ref sl, .ref sv]))] H := hP
          have hX : xD A [nw, ud, h] := xD.of hD rfl
          refine W.eq (g2 := F0 m 80 ls [.int 0]) rfl ?_
          refine lv_if_eq (tgt := 85) hx hb dX9_nudge_80 (by decide) (fun c_14 => ?_) (fun c_14 => absurd (by decide) c_14)
          refine lv_aload_n hx hb dX9_nudge_85 rfl (lv_at hl 1 rfl) ?_
          refine x_wV (wr := []) [] (kX9_keeps l E h 0 nw td tx length textSize start next token value error errorAt seen triedWith rr ss tr wa undos ud sl sv now und hu0 hu1) ⟨hx, hb, hml, hown, hts⟩ (cwV 0 hts gX9_nudge_X9_keeps rfl rfl rfl hdX9_keeps ⟨Nat.le_of_ble_eq_true rfl, Nat.le_of_ble_eq_true rfl⟩) hE hP (hX.d rfl) hS hA [2, 0, 1] [] rfl rfl rfl rfl (by decide) (ci := 9) (q0 := 2) rfl rfl rfl hl.1 rfl rfl (Nat.le_of_ble_eq_true rfl) dX9_nudge_86 (Nat.le_of_ble_eq_true rfl) (Nat.le_of_ble_eq_true rfl) (fun q_15 H locs hq_15 hP hD hS => ?_)
          have hP : va_P E.1 vwCl [(h, .inr (9, [.int 0, .ref nw, .ref td, .ref tx, .int length, .int textSize, .int start, .int next, .int token, .int value, .int error, .int errorAt, .int seen, .int triedWith, .ref rr, .ref ss, .ref tr, .ref wa, .int q_15.1, .ref ud, .ref sl, .ref sv])), (nw, .inl (E.2.1, 214, .inl now)), (ud, .inl (E.2.1, 2140, .inl q_15.2))] H := hP
          have hX : xD A [h, nw, ud] := xD.of hD rfl
          refine W.eq (g2 := F0 m 89 ls []) rfl ?_
          refine lv_aload_n hx hb dX9_nudge_89 rfl (lv_at hl 1 rfl) ?_
          refine va_get (D := E.1) (ci := 9) (v := .ref nw) (C := RX9) (T := TX9) (N := 22) hx hb hts g_2 hown hE.1 hP 0 rfl rfl 1 (by decide) g_1 (fun _ h9 => h9) rfl dX9_nudge_90 ?_
          refine lv_bipush (v := 12) hx hb dX9_nudge_93 (by decide) ?_
          refine lv_iload_n hx hb dX9_nudge_95 rfl (lv_at hl 2 rfl) ?_
          refine lv_iadd hx hb dX9_nudge_96 ?_
          refine lv_iconst (v := 1) hx hb dX9_nudge_97 (by decide) ?_
          refine lv_isub hx hb dX9_nudge_98 ?_
          refine lv_iload_n hx hb dX9_nudge_99 rfl (lv_at hl 0 rfl) ?_
          refine x_iast hx hb hE.1 hP (hX.d rfl) hS 1 0 rfl rfl (((12 + link) - 1).toNatClampNeg) rfl (x_i1 (x_lk c_1)).2.1 dX9_nudge_100 (fun H locs hP _ hS => ?_)
          have hP : va_P E.1 vwCl [(h, .inr (9, [.int 0, .ref nw, .ref td, .ref tx, .int length, .int textSize, .int start, .int next, .int token, .int value, .int error, .int errorAt, .int seen, .int triedWith, .ref rr, .ref ss, .ref tr, .ref wa, .int q_15.1, .ref ud, .ref sl, .ref sv])), (nw, .inl (E.2.1, 214, .inl (upd now (((12 + link) - 1).toNatClampNeg) ((now (((12 + link) - 1).toNatClampNeg)) + amount)))), (ud, .inl (E.2.1, 2140, .inl q_15.2))] H := hP
          refine lv_iload_n hx hb dX9_nudge_101 rfl (lv_at hl 0 rfl) ?_
          exact x_wi ((now (((12 + link) - 1).toNatClampNeg)) + amount, 0, upd now (((12 + link) - 1).toNatClampNeg) ((now (((12 + link) - 1).toNatClampNeg)) + amount), q_15.1, q_15.2) (by unfold sX9_nudge; rw [if_neg c_1]; rw [if_neg c_6]; rw [if_neg c_9]; rw [if_pos c_12]; rw [← hq_15]; unfold sX9_nudge_q_15; try rfl) rfl hx hb hr hlk hS hP (hX.d rfl) [0, 1, 2] rfl rfl (Nat.le_of_ble_eq_true rfl) (Nat.le_of_ble_eq_true rfl) dX9_nudge_102
        · refine lv_iconst (v := 1) hx hb dX9_nudge_71 (by decide) ?_
          refine lv_goto (tgt := 76) hx hb dX9_nudge_72 (by decide) ?_
          refine lv_iconst (v := 3) hx hb dX9_nudge_76 (by decide) ?_
          refine x_wV (wr := [(nw, .inl (E.2.1, 214, .inl now)), (ud, .inl (E.2.1, 2140, .inl und))]) [.int 1, .int 3] (kX9_throwsIf_13 l E h nw td tx length textSize start next token value error errorAt seen triedWith rr ss tr wa undos ud sl sv) ⟨hx, hb, hml, hown, hts⟩ (cwV 2 hts gX9_nudge_X9_throwsIf rfl rfl rfl hdX9_throwsIf ⟨Nat.le_of_ble_eq_true rfl, Nat.le_of_ble_eq_true rfl⟩) hE hP (hX.d rfl) hS hA [2] [0, 1] rfl rfl rfl rfl (by decide) (ci := 9) (q0 := 2) rfl rfl rfl hl.1 rfl rfl (Nat.le_of_ble_eq_true rfl) dX9_nudge_77 (Nat.le_of_ble_eq_true rfl) (Nat.le_of_ble_eq_true rfl) (fun q_16 H locs hq_16 hP hD hS => ?_)
          have hP : va_P E.1 vwCl [(nw, .inl (E.2.1, 214, .inl now)), (ud, .inl (E.2.1, 2140, .inl und)), (h, .inr (9, [.int 3, .ref nw, .ref td, .ref tx, .int length, .int textSize, .int start, .int next, .int token, .int value, .int error, .int errorAt, .int seen, .int triedWith, .ref rr, .ref ss, .ref tr, .ref wa, .int undos, .ref ud, .ref sl, .ref sv]))] H := hP
          have hX : xD A [nw, ud, h] := xD.of hD rfl
          refine W.eq (g2 := F0 m 80 ls [.int 1]) rfl ?_
          refine lv_if_eq (tgt := 85) hx hb dX9_nudge_80 (by decide) (fun c_17 => absurd c_17 (by decide)) (fun c_17 => ?_)
          refine lv_iconst (v := 0) hx hb dX9_nudge_83 (by decide) ?_
          exact x_wi (0, 3, now, undos, und) (by unfold sX9_nudge; rw [if_neg c_1]; rw [if_neg c_6]; rw [if_neg c_9]; rw [if_neg c_12]; try rfl) rfl hx hb hr hlk hS hP (hX.d rfl) [2, 0, 1] rfl rfl (Nat.le_of_ble_eq_true rfl) (Nat.le_of_ble_eq_true rfl) dX9_nudge_84
    · refine lv_iconst (v := 1) hx hb dX9_nudge_22 (by decide) ?_
      refine lv_goto (tgt := 27) hx hb dX9_nudge_23 (by decide) ?_
      refine lv_iconst (v := 2) hx hb dX9_nudge_27 (by decide) ?_
      refine x_wV (wr := [(nw, .inl (E.2.1, 214, .inl now)), (ud, .inl (E.2.1, 2140, .inl und))]) [.int 1, .int 2] (kX9_throwsIf_12 l E h nw td tx length textSize start next token value error errorAt seen triedWith rr ss tr wa undos ud sl sv) ⟨hx, hb, hml, hown, hts⟩ (cwV 2 hts gX9_nudge_X9_throwsIf rfl rfl rfl hdX9_throwsIf ⟨Nat.le_of_ble_eq_true rfl, Nat.le_of_ble_eq_true rfl⟩) hE hP (hX.d rfl) hS hA [2] [0, 1] rfl rfl rfl rfl (by decide) (ci := 9) (q0 := 2) rfl rfl rfl hl.1 rfl rfl (Nat.le_of_ble_eq_true rfl) dX9_nudge_28 (Nat.le_of_ble_eq_true rfl) (Nat.le_of_ble_eq_true rfl) (fun q_18 H locs hq_18 hP hD hS => ?_)
      have hP : va_P E.1 vwCl [(nw, .inl (E.2.1, 214, .inl now)), (ud, .inl (E.2.1, 2140, .inl und)), (h, .inr (9, [.int 2, .ref nw, .ref td, .ref tx, .int length, .int textSize, .int start, .int next, .int token, .int value, .int error, .int errorAt, .int seen, .int triedWith, .ref rr, .ref ss, .ref tr, .ref wa, .int undos, .ref ud, .ref sl, .ref sv]))] H := hP
      have hX : xD A [nw, ud, h] := xD.of hD rfl
      refine W.eq (g2 := F0 m 31 ls [.int 1]) rfl ?_
      refine lv_if_eq (tgt := 36) hx hb dX9_nudge_31 (by decide) (fun c_19 => absurd c_19 (by decide)) (fun c_19 => ?_)
      refine lv_iconst (v := 0) hx hb dX9_nudge_34 (by decide) ?_
      exact x_wi (0, 2, now, undos, und) (by unfold sX9_nudge; rw [if_neg c_1]; rw [if_pos c_6]; try rfl) rfl hx hb hr hlk hS hP (hX.d rfl) [2, 0, 1] rfl rfl (Nat.le_of_ble_eq_true rfl) (Nat.le_of_ble_eq_true rfl) dX9_nudge_35
def sX9_setForce_q_5 (triedWith : Int32) (undos : Int32) (now : Nat → Int32) (told : Nat → Int32) (rs : Nat → Int32) (fs : Nat → Int32) (tri : Nat → Int32) (und : Nat → Int32) (force : Int32) (q_4 : Int32 × (Nat → Int32)) (q_5 : Int32 × Int32 × (Nat → Int32) × (Nat → Int32) × (Nat → Int32)) : Int32 × Int32 × (Nat → Int32) × Int32 × (Nat → Int32) × (Nat → Int32) × (Nat → Int32) × Int32 × (Nat → Int32) :=
  (q_5.1, 0, upd now 5 force, q_5.2.1, q_5.2.2.1, q_5.2.2.2.1, q_5.2.2.2.2, q_4.1, q_4.2)
def sX9_setForce_q_4 (triedWith : Int32) (undos : Int32) (now : Nat → Int32) (told : Nat → Int32) (rs : Nat → Int32) (fs : Nat → Int32) (tri : Nat → Int32) (und : Nat → Int32) (force : Int32) (q_4 : Int32 × (Nat → Int32)) : Int32 × Int32 × (Nat → Int32) × Int32 × (Nat → Int32) × (Nat → Int32) × (Nat → Int32) × Int32 × (Nat → Int32) :=
  sX9_setForce_q_5 triedWith undos now told rs fs tri und force q_4 (sX9_cells triedWith (upd now 5 force) told rs fs tri 0)
def sX9_setForce (triedWith : Int32) (undos : Int32) (now : Nat → Int32) (told : Nat → Int32) (rs : Nat → Int32) (fs : Nat → Int32) (tri : Nat → Int32) (und : Nat → Int32) (force : Int32) : Int32 × Int32 × (Nat → Int32) × Int32 × (Nat → Int32) × (Nat → Int32) × (Nat → Int32) × Int32 × (Nat → Int32) :=
  if (sX9_within force 1 500) = 0 then
    (0, 1, now, triedWith, rs, fs, tri, undos, und)
  else
    sX9_setForce_q_4 triedWith undos now told rs fs tri und force (sX9_keeps undos now und)
theorem hdX9_setForce : yX9_setForce.cls = RX9 ∧ yX9_setForce.cls ≠ "java/lang/invoke/MethodHandle" ∧ yX9_setForce.cls ≠ "java/lang/invoke/VarHandle" ∧ (parseMethodDescriptor yX9_setForce.desc).map (fun d => d.parameters.length) = some 1 := by decide +kernel
set_option maxHeartbeats 4000000 in
set_option maxRecDepth 100000 in
theorem kX9_setForce (l : Launch) (E : XE) (h : Nat) (thrown : Int32) (nw : Nat) (td : Nat) (tx : Nat) (length : Int32) (textSize : Int32) (start : Int32) (next : Int32) (token : Int32) (value : Int32) (error : Int32) (errorAt : Int32) (seen : Int32) (triedWith : Int32) (rr : Nat) (ss : Nat) (tr : Nat) (wa : Nat) (undos : Int32) (ud : Nat) (sl : Nat) (sv : Nat) (now : Nat → Int32) (told : Nat → Int32) (rs : Nat → Int32) (fs : Nat → Int32) (tri : Nat → Int32) (und : Nat → Int32) (force : Int32) (hc3 : told 17 ≤ 3) (hc0 : 0 ≤ told 17) (hu0 : 0 ≤ undos) (hu1 : undos ≤ 10) : xW (T := Int32 × Int32 × (Nat → Int32) × Int32 × (Nat → Int32) × (Nat → Int32) × (Nat → Int32) × Int32 × (Nat → Int32)) l yX9_setForce wsX9_setForce ({ frames := 7, cells := 0, slots := 0, locals := 164 }) E [(h, .inr (9, [.int thrown, .ref nw, .ref td, .ref tx, .int length, .int textSize, .int start, .int next, .int token, .int value, .int error, .int errorAt, .int seen, .int triedWith, .ref rr, .ref ss, .ref tr, .ref wa, .int undos, .ref ud, .ref sl, .ref sv])), (nw, .inl (E.2.1, 214, .inl now)), (td, .inl (E.2.1, 48, .inl told)), (rr, .inl (E.2.1, 49, .inl rs)), (ss, .inl (E.2.1, 49, .inl fs)), (tr, .inl (E.2.1, 14, .inl tri)), (ud, .inl (E.2.1, 2140, .inl und))] [.ref h, .int force] (fun q => some (.int q.1)) (fun q => [(h, .inr (9, [.int q.2.1, .ref nw, .ref td, .ref tx, .int length, .int textSize, .int start, .int next, .int token, .int value, .int error, .int errorAt, .int seen, .int q.2.2.2.1, .ref rr, .ref ss, .ref tr, .ref wa, .int q.2.2.2.2.2.2.2.1, .ref ud, .ref sl, .ref sv])), (nw, .inl (E.2.1, 214, .inl q.2.2.1)), (td, .inl (E.2.1, 48, .inl told)), (rr, .inl (E.2.1, 49, .inl q.2.2.2.2.1)), (ss, .inl (E.2.1, 49, .inl q.2.2.2.2.2.1)), (tr, .inl (E.2.1, 14, .inl q.2.2.2.2.2.2.1)), (ud, .inl (E.2.1, 2140, .inl q.2.2.2.2.2.2.2.2))]) (sX9_setForce triedWith undos now told rs fs tri und force) 0 0 := by
  refine xW.of (cc := cX9_setForce) (maxL := 2) (ret := (some .int)) (by decide) rfl (Nat.le_of_ble_eq_true rfl) ?_
  intro p e s m args below meth c ls A hM hE hP hD hS hA hl
  obtain ⟨hx, hb, hr, hml, hts, hown, hlk, hnm⟩ := hM
  have g_1 : (Cond.fieldLink RX9 55 "RailPendulumModel" "thrown" "I").before args s = true := hts (Cond.fieldLink RX9 55 "RailPendulumModel" "thrown" "I") (by decide +kernel)
  have g_2 : ∀ w ∈ wsX90, w ∈ wsX9_setForce := by decide +kernel
  have g_3 : (Cond.fieldLink RX9 7 "RailPendulumModel" "now" "[I").before args s = true := hts (Cond.fieldLink RX9 7 "RailPendulumModel" "now" "[I") (by decide +kernel)
  have hX : xD A [h, nw, td, rr, ss, tr, ud] := xD.of hD rfl
  have hl : lv_has ls 2 [(0, .ref h), (1, .int force)] := hl
  refine lv_aload_n hx hb dX9_setForce_0 rfl (lv_at hl 0 rfl) ?_
  refine lv_iconst (v := 0) hx hb dX9_setForce_1 (by decide) ?_
  refine va_put (D := E.1) (ci := 9) (v := .int 0) (ty := .int) (C := RX9) (T := TX9) (N := 22) hx hb hts g_2 tyX9 tyX9_ok nmX9 hown hE.1 hP (hX.d rfl) hS 0 rfl rfl 0 (by decide) g_1 (fun _ h9 => h9) rfl (by decide +kernel) rfl rfl (Nat.le_of_ble_eq_true rfl) dX9_setForce_2 (fun H locs hP _ hS => ?_)
  have hP : va_P E.1 vwCl [(h, .inr (9, [.int 0, .ref nw, .ref td, .ref tx, .int length, .int textSize, .int start, .int next, .int token, .int value, .int error, .int errorAt, .int seen, .int triedWith, .ref rr, .ref ss, .ref tr, .ref wa, .int undos, .ref ud, .ref sl, .ref sv])), (nw, .inl (E.2.1, 214, .inl now)), (td, .inl (E.2.1, 48, .inl told)), (rr, .inl (E.2.1, 49, .inl rs)), (ss, .inl (E.2.1, 49, .inl fs)), (tr, .inl (E.2.1, 14, .inl tri)), (ud, .inl (E.2.1, 2140, .inl und))] H := hP
  refine lv_aload_n hx hb dX9_setForce_5 rfl (lv_at hl 0 rfl) ?_
  refine lv_iload_n hx hb dX9_setForce_6 rfl (lv_at hl 1 rfl) ?_
  refine lv_iconst (v := 1) hx hb dX9_setForce_7 (by decide) ?_
  refine lv_sipush (v := 500) hx hb dX9_setForce_8 (by decide) ?_
  refine x_rS [.int force, .int 1, .int 500] (kX9_within l E force 1 500) ⟨hx, hb, hml, hown, hts⟩ (va_cwS 3 hts gX9_setForce_X9_within rfl rfl rfl hdX9_within.2 ⟨Nat.le_of_ble_eq_true rfl, Nat.le_of_ble_eq_true rfl⟩) hE hP (hX.d rfl) [] rfl rfl hl.1 rfl rfl (Nat.le_of_ble_eq_true rfl) dX9_setForce_11 (Nat.le_of_ble_eq_true rfl) (Nat.le_of_ble_eq_true rfl) ?_
  refine lv_if_ne (tgt := 21) hx hb dX9_setForce_14 (by decide) (fun c_1 => ?_) (fun c_1 => ?_)
  · refine lv_iconst (v := 0) hx hb dX9_setForce_21 (by decide) ?_
    refine lv_iconst (v := 1) hx hb dX9_setForce_22 (by decide) ?_
    refine x_wV (wr := [(nw, .inl (E.2.1, 214, .inl now)), (td, .inl (E.2.1, 48, .inl told)), (rr, .inl (E.2.1, 49, .inl rs)), (ss, .inl (E.2.1, 49, .inl fs)), (tr, .inl (E.2.1, 14, .inl tri)), (ud, .inl (E.2.1, 2140, .inl und))]) [.int 0, .int 1] (kX9_throwsIf_0 l E h nw td tx length textSize start next token value error errorAt seen triedWith rr ss tr wa undos ud sl sv 1) ⟨hx, hb, hml, hown, hts⟩ (cwV 2 hts gX9_setForce_X9_throwsIf rfl rfl rfl hdX9_throwsIf ⟨Nat.le_of_ble_eq_true rfl, Nat.le_of_ble_eq_true rfl⟩) hE hP (hX.d rfl) hS hA [0] [1, 2, 3, 4, 5, 6] rfl rfl rfl rfl (by decide) (ci := 9) (q0 := 0) rfl rfl rfl hl.1 rfl rfl (Nat.le_of_ble_eq_true rfl) dX9_setForce_23 (Nat.le_of_ble_eq_true rfl) (Nat.le_of_ble_eq_true rfl) (fun q_2 H locs hq_2 hP hD hS => ?_)
    have hP : va_P E.1 vwCl [(nw, .inl (E.2.1, 214, .inl now)), (td, .inl (E.2.1, 48, .inl told)), (rr, .inl (E.2.1, 49, .inl rs)), (ss, .inl (E.2.1, 49, .inl fs)), (tr, .inl (E.2.1, 14, .inl tri)), (ud, .inl (E.2.1, 2140, .inl und)), (h, .inr (9, [.int 0, .ref nw, .ref td, .ref tx, .int length, .int textSize, .int start, .int next, .int token, .int value, .int error, .int errorAt, .int seen, .int triedWith, .ref rr, .ref ss, .ref tr, .ref wa, .int undos, .ref ud, .ref sl, .ref sv]))] H := hP
    have hX : xD A [nw, td, rr, ss, tr, ud, h] := xD.of hD rfl
    refine W.eq (g2 := F0 m 26 ls [.int 0]) rfl ?_
    refine lv_if_eq (tgt := 31) hx hb dX9_setForce_26 (by decide) (fun c_3 => ?_) (fun c_3 => absurd (by decide) c_3)
    refine lv_aload_n hx hb dX9_setForce_31 rfl (lv_at hl 0 rfl) ?_
    refine x_wV (wr := [(td, .inl (E.2.1, 48, .inl told)), (rr, .inl (E.2.1, 49, .inl rs)), (ss, .inl (E.2.1, 49, .inl fs)), (tr, .inl (E.2.1, 14, .inl tri))]) [] (kX9_keeps l E h 0 nw td tx length textSize start next token value error errorAt seen triedWith rr ss tr wa undos ud sl sv now und hu0 hu1) ⟨hx, hb, hml, hown, hts⟩ (cwV 0 hts gX9_setForce_X9_keeps rfl rfl rfl hdX9_keeps ⟨Nat.le_of_ble_eq_true rfl, Nat.le_of_ble_eq_true rfl⟩) hE hP (hX.d rfl) hS hA [6, 0, 5] [1, 2, 3, 4] rfl rfl rfl rfl (by decide) (ci := 9) (q0 := 6) rfl rfl rfl hl.1 rfl rfl (Nat.le_of_ble_eq_true rfl) dX9_setForce_32 (Nat.le_of_ble_eq_true rfl) (Nat.le_of_ble_eq_true rfl) (fun q_4 H locs hq_4 hP hD hS => ?_)
    have hP : va_P E.1 vwCl [(td, .inl (E.2.1, 48, .inl told)), (rr, .inl (E.2.1, 49, .inl rs)), (ss, .inl (E.2.1, 49, .inl fs)), (tr, .inl (E.2.1, 14, .inl tri)), (h, .inr (9, [.int 0, .ref nw, .ref td, .ref tx, .int length, .int textSize, .int start, .int next, .int token, .int value, .int error, .int errorAt, .int seen, .int triedWith, .ref rr, .ref ss, .ref tr, .ref wa, .int q_4.1, .ref ud, .ref sl, .ref sv])), (nw, .inl (E.2.1, 214, .inl now)), (ud, .inl (E.2.1, 2140, .inl q_4.2))] H := hP
    have hX : xD A [td, rr, ss, tr, h, nw, ud] := xD.of hD rfl
    refine W.eq (g2 := F0 m 35 ls []) rfl ?_
    refine lv_aload_n hx hb dX9_setForce_35 rfl (lv_at hl 0 rfl) ?_
    refine va_get (D := E.1) (ci := 9) (v := .ref nw) (C := RX9) (T := TX9) (N := 22) hx hb hts g_2 hown hE.1 hP 4 rfl rfl 1 (by decide) g_3 (fun _ h9 => h9) rfl dX9_setForce_36 ?_
    refine lv_iconst (v := 5) hx hb dX9_setForce_39 (by decide) ?_
    refine lv_iload_n hx hb dX9_setForce_40 rfl (lv_at hl 1 rfl) ?_
    refine x_iast hx hb hE.1 hP (hX.d rfl) hS 5 0 rfl rfl 5 (by decide) (by unfold vp_in; decide) dX9_setForce_41 (fun H locs hP _ hS => ?_)
    have hP : va_P E.1 vwCl [(td, .inl (E.2.1, 48, .inl told)), (rr, .inl (E.2.1, 49, .inl rs)), (ss, .inl (E.2.1, 49, .inl fs)), (tr, .inl (E.2.1, 14, .inl tri)), (h, .inr (9, [.int 0, .ref nw, .ref td, .ref tx, .int length, .int textSize, .int start, .int next, .int token, .int value, .int error, .int errorAt, .int seen, .int triedWith, .ref rr, .ref ss, .ref tr, .ref wa, .int q_4.1, .ref ud, .ref sl, .ref sv])), (nw, .inl (E.2.1, 214, .inl (upd now 5 force))), (ud, .inl (E.2.1, 2140, .inl q_4.2))] H := hP
    refine lv_aload_n hx hb dX9_setForce_42 rfl (lv_at hl 0 rfl) ?_
    refine lv_iconst (v := 0) hx hb dX9_setForce_43 (by decide) ?_
    refine x_wV (wr := [(ud, .inl (E.2.1, 2140, .inl q_4.2))]) [.int 0] (kX9_cells l E h 0 nw td tx length textSize start next token value error errorAt seen triedWith rr ss tr wa q_4.1 ud sl sv (upd now 5 force) told rs fs tri 0 hc3 hc0) ⟨hx, hb, hml, hown, hts⟩ (cwV 1 hts gX9_setForce_X9_cells rfl rfl rfl hdX9_cells ⟨Nat.le_of_ble_eq_true rfl, Nat.le_of_ble_eq_true rfl⟩) hE hP (hX.d rfl) hS hA [4, 5, 0, 1, 2, 3] [6] rfl rfl rfl rfl (by decide) (ci := 9) (q0 := 4) rfl rfl rfl hl.1 rfl rfl (Nat.le_of_ble_eq_true rfl) dX9_setForce_44 (Nat.le_of_ble_eq_true rfl) (Nat.le_of_ble_eq_true rfl) (fun q_5 H locs hq_5 hP hD hS => ?_)
    have hP : va_P E.1 vwCl [(ud, .inl (E.2.1, 2140, .inl q_4.2)), (h, .inr (9, [.int 0, .ref nw, .ref td, .ref tx, .int length, .int textSize, .int start, .int next, .int token, .int value, .int error, .int errorAt, .int seen, .int q_5.2.1, .ref rr, .ref ss, .ref tr, .ref wa, .int q_4.1, .ref ud, .ref sl, .ref sv])), (nw, .inl (E.2.1, 214, .inl (upd now 5 force))), (td, .inl (E.2.1, 48, .inl told)), (rr, .inl (E.2.1, 49, .inl q_5.2.2.1)), (ss, .inl (E.2.1, 49, .inl q_5.2.2.2.1)), (tr, .inl (E.2.1, 14, .inl q_5.2.2.2.2))] H := hP
    have hX : xD A [ud, h, nw, td, rr, ss, tr] := xD.of hD rfl
    refine W.eq (g2 := F0 m 47 ls [.int q_5.1]) rfl ?_
    exact x_wi (q_5.1, 0, upd now 5 force, q_5.2.1, q_5.2.2.1, q_5.2.2.2.1, q_5.2.2.2.2, q_4.1, q_4.2) (by unfold sX9_setForce; rw [if_neg c_1]; rw [← hq_4]; unfold sX9_setForce_q_4; rw [← hq_5]; unfold sX9_setForce_q_5; try rfl) rfl hx hb hr hlk hS hP (hX.d rfl) [1, 2, 3, 4, 5, 6, 0] rfl rfl (Nat.le_of_ble_eq_true rfl) (Nat.le_of_ble_eq_true rfl) dX9_setForce_47
  · refine lv_iconst (v := 1) hx hb dX9_setForce_17 (by decide) ?_
    refine lv_goto (tgt := 22) hx hb dX9_setForce_18 (by decide) ?_
    refine lv_iconst (v := 1) hx hb dX9_setForce_22 (by decide) ?_
    refine x_wV (wr := [(nw, .inl (E.2.1, 214, .inl now)), (td, .inl (E.2.1, 48, .inl told)), (rr, .inl (E.2.1, 49, .inl rs)), (ss, .inl (E.2.1, 49, .inl fs)), (tr, .inl (E.2.1, 14, .inl tri)), (ud, .inl (E.2.1, 2140, .inl und))]) [.int 1, .int 1] (kX9_throwsIf_11 l E h nw td tx length textSize start next token value error errorAt seen triedWith rr ss tr wa undos ud sl sv) ⟨hx, hb, hml, hown, hts⟩ (cwV 2 hts gX9_setForce_X9_throwsIf rfl rfl rfl hdX9_throwsIf ⟨Nat.le_of_ble_eq_true rfl, Nat.le_of_ble_eq_true rfl⟩) hE hP (hX.d rfl) hS hA [0] [1, 2, 3, 4, 5, 6] rfl rfl rfl rfl (by decide) (ci := 9) (q0 := 0) rfl rfl rfl hl.1 rfl rfl (Nat.le_of_ble_eq_true rfl) dX9_setForce_23 (Nat.le_of_ble_eq_true rfl) (Nat.le_of_ble_eq_true rfl) (fun q_6 H locs hq_6 hP hD hS => ?_)
    have hP : va_P E.1 vwCl [(nw, .inl (E.2.1, 214, .inl now)), (td, .inl (E.2.1, 48, .inl told)), (rr, .inl (E.2.1, 49, .inl rs)), (ss, .inl (E.2.1, 49, .inl fs)), (tr, .inl (E.2.1, 14, .inl tri)), (ud, .inl (E.2.1, 2140, .inl und)), (h, .inr (9, [.int 1, .ref nw, .ref td, .ref tx, .int length, .int textSize, .int start, .int next, .int token, .int value, .int error, .int errorAt, .int seen, .int triedWith, .ref rr, .ref ss, .ref tr, .ref wa, .int undos, .ref ud, .ref sl, .ref sv]))] H := hP
    have hX : xD A [nw, td, rr, ss, tr, ud, h] := xD.of hD rfl
    refine W.eq (g2 := F0 m 26 ls [.int 1]) rfl ?_
    refine lv_if_eq (tgt := 31) hx hb dX9_setForce_26 (by decide) (fun c_7 => absurd c_7 (by decide)) (fun c_7 => ?_)
    refine lv_iconst (v := 0) hx hb dX9_setForce_29 (by decide) ?_
    exact x_wi (0, 1, now, triedWith, rs, fs, tri, undos, und) (by unfold sX9_setForce; rw [if_pos c_1]; try rfl) rfl hx hb hr hlk hS hP (hX.d rfl) [6, 0, 1, 2, 3, 4, 5] rfl rfl (Nat.le_of_ble_eq_true rfl) (Nat.le_of_ble_eq_true rfl) dX9_setForce_30
def sX9_undo_q_2 (undos : Int32) (now : Nat → Int32) (und : Nat → Int32) (q_2 : (Nat → Int32)) : Int32 × Int32 × (Nat → Int32) × Int32 :=
  (undos - 1, 0, q_2, undos - 1)
def sX9_undo (undos : Int32) (now : Nat → Int32) (und : Nat → Int32) : Int32 × Int32 × (Nat → Int32) × Int32 :=
  if undos = 0 then
    ((-1), 0, now, undos)
  else
    sX9_undo_q_2 undos now und (sX9_copies und now (214 * (undos - 1)) 0 214)
theorem hdX9_undo : yX9_undo.cls = RX9 ∧ yX9_undo.cls ≠ "java/lang/invoke/MethodHandle" ∧ yX9_undo.cls ≠ "java/lang/invoke/VarHandle" ∧ (parseMethodDescriptor yX9_undo.desc).map (fun d => d.parameters.length) = some 0 := by decide +kernel
set_option maxHeartbeats 4000000 in
set_option maxRecDepth 100000 in
theorem kX9_undo (l : Launch) (E : XE) (h : Nat) (thrown : Int32) (nw : Nat) (td : Nat) (tx : Nat) (length : Int32) (textSize : Int32) (start : Int32) (next : Int32) (token : Int32) (value : Int32) (error : Int32) (errorAt : Int32) (seen : Int32) (triedWith : Int32) (rr : Nat) (ss : Nat) (tr : Nat) (wa : Nat) (undos : Int32) (ud : Nat) (sl : Nat) (sv : Nat) (now : Nat → Int32) (und : Nat → Int32) (hu0 : 0 ≤ undos) (hu1 : undos ≤ 10) : xW (T := Int32 × Int32 × (Nat → Int32) × Int32) l yX9_undo wsX9_undo ({ frames := 1, cells := 0, slots := 0, locals := 25 }) E [(h, .inr (9, [.int thrown, .ref nw, .ref td, .ref tx, .int length, .int textSize, .int start, .int next, .int token, .int value, .int error, .int errorAt, .int seen, .int triedWith, .ref rr, .ref ss, .ref tr, .ref wa, .int undos, .ref ud, .ref sl, .ref sv])), (nw, .inl (E.2.1, 214, .inl now)), (ud, .inl (E.2.1, 2140, .inl und))] [.ref h] (fun q => some (.int q.1)) (fun q => [(h, .inr (9, [.int q.2.1, .ref nw, .ref td, .ref tx, .int length, .int textSize, .int start, .int next, .int token, .int value, .int error, .int errorAt, .int seen, .int triedWith, .ref rr, .ref ss, .ref tr, .ref wa, .int q.2.2.2, .ref ud, .ref sl, .ref sv])), (nw, .inl (E.2.1, 214, .inl q.2.2.1)), (ud, .inl (E.2.1, 2140, .inl und))]) (sX9_undo undos now und) 0 0 := by
  refine xW.of (cc := cX9_undo) (maxL := 1) (ret := (some .int)) (by decide) rfl (Nat.le_of_ble_eq_true rfl) ?_
  intro p e s m args below meth c ls A hM hE hP hD hS hA hl
  obtain ⟨hx, hb, hr, hml, hts, hown, hlk, hnm⟩ := hM
  have g_1 : (Cond.fieldLink RX9 55 "RailPendulumModel" "thrown" "I").before args s = true := hts (Cond.fieldLink RX9 55 "RailPendulumModel" "thrown" "I") (by decide +kernel)
  have g_2 : ∀ w ∈ wsX90, w ∈ wsX9_undo := by decide +kernel
  have g_3 : (Cond.fieldLink RX9 163 "RailPendulumModel" "undos" "I").before args s = true := hts (Cond.fieldLink RX9 163 "RailPendulumModel" "undos" "I") (by decide +kernel)
  have g_4 : (Cond.fieldLink RX9 36 "RailPendulumModel" "undo" "[I").before args s = true := hts (Cond.fieldLink RX9 36 "RailPendulumModel" "undo" "[I") (by decide +kernel)
  have g_5 : (Cond.fieldLink RX9 7 "RailPendulumModel" "now" "[I").before args s = true := hts (Cond.fieldLink RX9 7 "RailPendulumModel" "now" "[I") (by decide +kernel)
  have hX : xD A [h, nw, ud] := xD.of hD rfl
  have hl : lv_has ls 1 [(0, .ref h)] := hl
  refine lv_aload_n hx hb dX9_undo_0 rfl (lv_at hl 0 rfl) ?_
  refine lv_iconst (v := 0) hx hb dX9_undo_1 (by decide) ?_
  refine va_put (D := E.1) (ci := 9) (v := .int 0) (ty := .int) (C := RX9) (T := TX9) (N := 22) hx hb hts g_2 tyX9 tyX9_ok nmX9 hown hE.1 hP (hX.d rfl) hS 0 rfl rfl 0 (by decide) g_1 (fun _ h9 => h9) rfl (by decide +kernel) rfl rfl (Nat.le_of_ble_eq_true rfl) dX9_undo_2 (fun H locs hP _ hS => ?_)
  have hP : va_P E.1 vwCl [(h, .inr (9, [.int 0, .ref nw, .ref td, .ref tx, .int length, .int textSize, .int start, .int next, .int token, .int value, .int error, .int errorAt, .int seen, .int triedWith, .ref rr, .ref ss, .ref tr, .ref wa, .int undos, .ref ud, .ref sl, .ref sv])), (nw, .inl (E.2.1, 214, .inl now)), (ud, .inl (E.2.1, 2140, .inl und))] H := hP
  refine lv_aload_n hx hb dX9_undo_5 rfl (lv_at hl 0 rfl) ?_
  refine va_get (D := E.1) (ci := 9) (v := .int undos) (C := RX9) (T := TX9) (N := 22) hx hb hts g_2 hown hE.1 hP 0 rfl rfl 18 (by decide) g_3 (fun _ h9 => h9) rfl dX9_undo_6 ?_
  refine lv_if_ne (tgt := 14) hx hb dX9_undo_9 (by decide) (fun c_1 => ?_) (fun c_1 => ?_)
  · refine lv_aload_n hx hb dX9_undo_14 rfl (lv_at hl 0 rfl) ?_
    refine lv_dup hx hb dX9_undo_15 rfl ?_
    refine va_get (D := E.1) (ci := 9) (v := .int undos) (C := RX9) (T := TX9) (N := 22) hx hb hts g_2 hown hE.1 hP 0 rfl rfl 18 (by decide) g_3 (fun _ h9 => h9) rfl dX9_undo_16 ?_
    refine lv_iconst (v := 1) hx hb dX9_undo_19 (by decide) ?_
    refine lv_isub hx hb dX9_undo_20 ?_
    refine va_put (D := E.1) (ci := 9) (v := .int (undos - 1)) (ty := .int) (C := RX9) (T := TX9) (N := 22) hx hb hts g_2 tyX9 tyX9_ok nmX9 hown hE.1 hP (hX.d rfl) hS 0 rfl rfl 18 (by decide) g_3 (fun _ h9 => h9) rfl (by decide +kernel) rfl rfl (Nat.le_of_ble_eq_true rfl) dX9_undo_21 (fun H locs hP _ hS => ?_)
    have hP : va_P E.1 vwCl [(h, .inr (9, [.int 0, .ref nw, .ref td, .ref tx, .int length, .int textSize, .int start, .int next, .int token, .int value, .int error, .int errorAt, .int seen, .int triedWith, .ref rr, .ref ss, .ref tr, .ref wa, .int (undos - 1), .ref ud, .ref sl, .ref sv])), (nw, .inl (E.2.1, 214, .inl now)), (ud, .inl (E.2.1, 2140, .inl und))] H := hP
    refine lv_aload_n hx hb dX9_undo_24 rfl (lv_at hl 0 rfl) ?_
    refine va_get (D := E.1) (ci := 9) (v := .ref ud) (C := RX9) (T := TX9) (N := 22) hx hb hts g_2 hown hE.1 hP 0 rfl rfl 19 (by decide) g_4 (fun _ h9 => h9) rfl dX9_undo_25 ?_
    refine lv_sipush (v := 214) hx hb dX9_undo_28 (by decide) ?_
    refine lv_aload_n hx hb dX9_undo_31 rfl (lv_at hl 0 rfl) ?_
    refine va_get (D := E.1) (ci := 9) (v := .int (undos - 1)) (C := RX9) (T := TX9) (N := 22) hx hb hts g_2 hown hE.1 hP 0 rfl rfl 18 (by decide) g_3 (fun _ h9 => h9) rfl dX9_undo_32 ?_
    refine lv_imul hx hb dX9_undo_35 ?_
    refine lv_aload_n hx hb dX9_undo_36 rfl (lv_at hl 0 rfl) ?_
    refine va_get (D := E.1) (ci := 9) (v := .ref nw) (C := RX9) (T := TX9) (N := 22) hx hb hts g_2 hown hE.1 hP 0 rfl rfl 1 (by decide) g_5 (fun _ h9 => h9) rfl dX9_undo_37 ?_
    refine lv_iconst (v := 0) hx hb dX9_undo_40 (by decide) ?_
    refine lv_sipush (v := 214) hx hb dX9_undo_41 (by decide) ?_
    refine x_wS (wr := [(h, .inr (9, [.int 0, .ref nw, .ref td, .ref tx, .int length, .int textSize, .int start, .int next, .int token, .int value, .int error, .int errorAt, .int seen, .int triedWith, .ref rr, .ref ss, .ref tr, .ref wa, .int (undos - 1), .ref ud, .ref sl, .ref sv]))]) [.ref ud, .int (214 * (undos - 1)), .ref nw, .int 0, .int 214] (kX9_copies l E ud 2140 und nw 214 now (214 * (undos - 1)) 0 214 (x_slot1 hu0 hu1 c_1).1 (by decide) (x_slot1 hu0 hu1 c_1).2 (by decide) (by decide) (by decide)) ⟨hx, hb, hml, hown, hts⟩ (va_cwS 5 hts gX9_undo_X9_copies rfl rfl rfl hdX9_copies.2 ⟨Nat.le_of_ble_eq_true rfl, Nat.le_of_ble_eq_true rfl⟩) hE hP (hX.d rfl) hS hA [2, 1] [0] rfl rfl rfl rfl (by decide) hl.1 rfl rfl (Nat.le_of_ble_eq_true rfl) dX9_undo_44 (Nat.le_of_ble_eq_true rfl) (Nat.le_of_ble_eq_true rfl) (fun q_2 H locs hq_2 hP hD hS => ?_)
    have hP : va_P E.1 vwCl [(h, .inr (9, [.int 0, .ref nw, .ref td, .ref tx, .int length, .int textSize, .int start, .int next, .int token, .int value, .int error, .int errorAt, .int seen, .int triedWith, .ref rr, .ref ss, .ref tr, .ref wa, .int (undos - 1), .ref ud, .ref sl, .ref sv])), (ud, .inl (E.2.1, 2140, .inl und)), (nw, .inl (E.2.1, 214, .inl q_2))] H := hP
    have hX : xD A [h, ud, nw] := xD.of hD rfl
    refine W.eq (g2 := F0 m 47 ls []) rfl ?_
    refine lv_aload_n hx hb dX9_undo_47 rfl (lv_at hl 0 rfl) ?_
    refine va_get (D := E.1) (ci := 9) (v := .int (undos - 1)) (C := RX9) (T := TX9) (N := 22) hx hb hts g_2 hown hE.1 hP 0 rfl rfl 18 (by decide) g_3 (fun _ h9 => h9) rfl dX9_undo_48 ?_
    exact x_wi (undos - 1, 0, q_2, undos - 1) (by unfold sX9_undo; rw [if_neg c_1]; rw [← hq_2]; unfold sX9_undo_q_2; try rfl) rfl hx hb hr hlk hS hP (hX.d rfl) [0, 2, 1] rfl rfl (Nat.le_of_ble_eq_true rfl) (Nat.le_of_ble_eq_true rfl) dX9_undo_51
  · refine lv_iconst (v := (-1)) hx hb dX9_undo_12 (by decide) ?_
    exact x_wi ((-1), 0, now, undos) (by unfold sX9_undo; rw [if_pos c_1]; try rfl) rfl hx hb hr hlk hS hP (hX.d rfl) [0, 1, 2] rfl rfl (Nat.le_of_ble_eq_true rfl) (Nat.le_of_ble_eq_true rfl) dX9_undo_13
def sX9_saveSnapshot_q_6 (now : Nat → Int32) (slo : Nat → Int32) (sav : Nat → Int32) (slot : Int32) (q_6 : (Nat → Int32)) : Int32 × Int32 × (Nat → Int32) × (Nat → Int32) :=
  (sav slot.toNatClampNeg, 0, q_6, upd sav slot.toNatClampNeg 1)
def sX9_saveSnapshot (now : Nat → Int32) (slo : Nat → Int32) (sav : Nat → Int32) (slot : Int32) : Int32 × Int32 × (Nat → Int32) × (Nat → Int32) :=
  if (sX9_within slot 0 1) = 0 then
    (0, 1, slo, sav)
  else
    sX9_saveSnapshot_q_6 now slo sav slot (sX9_copies now slo 0 (214 * slot) 214)
theorem hdX9_saveSnapshot : yX9_saveSnapshot.cls = RX9 ∧ yX9_saveSnapshot.cls ≠ "java/lang/invoke/MethodHandle" ∧ yX9_saveSnapshot.cls ≠ "java/lang/invoke/VarHandle" ∧ (parseMethodDescriptor yX9_saveSnapshot.desc).map (fun d => d.parameters.length) = some 1 := by decide +kernel
set_option maxHeartbeats 4000000 in
set_option maxRecDepth 100000 in
theorem kX9_saveSnapshot (l : Launch) (E : XE) (h : Nat) (thrown : Int32) (nw : Nat) (td : Nat) (tx : Nat) (length : Int32) (textSize : Int32) (start : Int32) (next : Int32) (token : Int32) (value : Int32) (error : Int32) (errorAt : Int32) (seen : Int32) (triedWith : Int32) (rr : Nat) (ss : Nat) (tr : Nat) (wa : Nat) (undos : Int32) (ud : Nat) (sl : Nat) (sv : Nat) (now : Nat → Int32) (slo : Nat → Int32) (sav : Nat → Int32) (slot : Int32) (hsv : ∀ k, sav k = 0 ∨ sav k = 1) : xW (T := Int32 × Int32 × (Nat → Int32) × (Nat → Int32)) l yX9_saveSnapshot wsX9_saveSnapshot ({ frames := 2, cells := 0, slots := 0, locals := 43 }) E [(h, .inr (9, [.int thrown, .ref nw, .ref td, .ref tx, .int length, .int textSize, .int start, .int next, .int token, .int value, .int error, .int errorAt, .int seen, .int triedWith, .ref rr, .ref ss, .ref tr, .ref wa, .int undos, .ref ud, .ref sl, .ref sv])), (nw, .inl (E.2.1, 214, .inl now)), (sl, .inl (E.2.1, 428, .inl slo)), (sv, .inl (E.2.2.2.1, 2, .inl sav))] [.ref h, .int slot] (fun q => some (.int q.1)) (fun q => [(h, .inr (9, [.int q.2.1, .ref nw, .ref td, .ref tx, .int length, .int textSize, .int start, .int next, .int token, .int value, .int error, .int errorAt, .int seen, .int triedWith, .ref rr, .ref ss, .ref tr, .ref wa, .int undos, .ref ud, .ref sl, .ref sv])), (nw, .inl (E.2.1, 214, .inl now)), (sl, .inl (E.2.1, 428, .inl q.2.2.1)), (sv, .inl (E.2.2.2.1, 2, .inl q.2.2.2))]) (sX9_saveSnapshot now slo sav slot) 0 0 := by
  refine xW.of (cc := cX9_saveSnapshot) (maxL := 3) (ret := (some .boolean)) (by decide) rfl (Nat.le_of_ble_eq_true rfl) ?_
  intro p e s m args below meth c ls A hM hE hP hD hS hA hl
  obtain ⟨hx, hb, hr, hml, hts, hown, hlk, hnm⟩ := hM
  have g_1 : (Cond.fieldLink RX9 42 "RailPendulumModel" "isSaved" "[Z").before args s = true := hts (Cond.fieldLink RX9 42 "RailPendulumModel" "isSaved" "[Z") (by decide +kernel)
  have g_2 : ∀ w ∈ wsX90, w ∈ wsX9_saveSnapshot := by decide +kernel
  have g_3 : (Cond.fieldLink RX9 7 "RailPendulumModel" "now" "[I").before args s = true := hts (Cond.fieldLink RX9 7 "RailPendulumModel" "now" "[I") (by decide +kernel)
  have g_4 : (Cond.fieldLink RX9 39 "RailPendulumModel" "slots" "[I").before args s = true := hts (Cond.fieldLink RX9 39 "RailPendulumModel" "slots" "[I") (by decide +kernel)
  have hX : xD A [h, nw, sl, sv] := xD.of hD rfl
  have hl : lv_has ls 3 [(0, .ref h), (1, .int slot)] := hl
  refine lv_aload_n hx hb dX9_saveSnapshot_0 rfl (lv_at hl 0 rfl) ?_
  refine lv_iload_n hx hb dX9_saveSnapshot_1 rfl (lv_at hl 1 rfl) ?_
  by_cases c_1 : (sX9_within slot 0 1) = 0
  · refine x_wV (wr := [(nw, .inl (E.2.1, 214, .inl now)), (sl, .inl (E.2.1, 428, .inl slo)), (sv, .inl (E.2.2.2.1, 2, .inl sav))]) [.int slot] (kX9_noSlot_bad l E h thrown nw td tx length textSize start next token value error errorAt seen triedWith rr ss tr wa undos ud sl sv slot c_1) ⟨hx, hb, hml, hown, hts⟩ (cwV 1 hts gX9_saveSnapshot_X9_noSlot rfl rfl rfl hdX9_noSlot ⟨Nat.le_of_ble_eq_true rfl, Nat.le_of_ble_eq_true rfl⟩) hE hP (hX.d rfl) hS hA [0] [1, 2, 3] rfl rfl rfl rfl (by decide) (ci := 9) (q0 := 0) rfl rfl rfl hl.1 rfl rfl (Nat.le_of_ble_eq_true rfl) dX9_saveSnapshot_2 (Nat.le_of_ble_eq_true rfl) (Nat.le_of_ble_eq_true rfl) (fun q_2 H locs hq_2 hP hD hS => ?_)
    have hP : va_P E.1 vwCl [(nw, .inl (E.2.1, 214, .inl now)), (sl, .inl (E.2.1, 428, .inl slo)), (sv, .inl (E.2.2.2.1, 2, .inl sav)), (h, .inr (9, [.int 1, .ref nw, .ref td, .ref tx, .int length, .int textSize, .int start, .int next, .int token, .int value, .int error, .int errorAt, .int seen, .int triedWith, .ref rr, .ref ss, .ref tr, .ref wa, .int undos, .ref ud, .ref sl, .ref sv]))] H := hP
    have hX : xD A [nw, sl, sv, h] := xD.of hD rfl
    refine W.eq (g2 := F0 m 5 ls [.int 1]) rfl ?_
    refine lv_if_eq (tgt := 10) hx hb dX9_saveSnapshot_5 (by decide) (fun c_3 => absurd c_3 (by decide)) (fun c_3 => ?_)
    refine lv_iconst (v := 0) hx hb dX9_saveSnapshot_8 (by decide) ?_
    exact x_wz (0, 1, slo, sav) (by unfold sX9_saveSnapshot; rw [if_pos c_1]; try rfl) rfl hx hb hr hlk rfl hS hP (hX.d rfl) [3, 0, 1, 2] rfl rfl (Nat.le_of_ble_eq_true rfl) (Nat.le_of_ble_eq_true rfl) dX9_saveSnapshot_9
  · refine x_wV (wr := [(nw, .inl (E.2.1, 214, .inl now)), (sl, .inl (E.2.1, 428, .inl slo)), (sv, .inl (E.2.2.2.1, 2, .inl sav))]) [.int slot] (kX9_noSlot_ok l E h thrown nw td tx length textSize start next token value error errorAt seen triedWith rr ss tr wa undos ud sl sv slot c_1) ⟨hx, hb, hml, hown, hts⟩ (cwV 1 hts gX9_saveSnapshot_X9_noSlot rfl rfl rfl hdX9_noSlot ⟨Nat.le_of_ble_eq_true rfl, Nat.le_of_ble_eq_true rfl⟩) hE hP (hX.d rfl) hS hA [0] [1, 2, 3] rfl rfl rfl rfl (by decide) (ci := 9) (q0 := 0) rfl rfl rfl hl.1 rfl rfl (Nat.le_of_ble_eq_true rfl) dX9_saveSnapshot_2 (Nat.le_of_ble_eq_true rfl) (Nat.le_of_ble_eq_true rfl) (fun q_4 H locs hq_4 hP hD hS => ?_)
    have hP : va_P E.1 vwCl [(nw, .inl (E.2.1, 214, .inl now)), (sl, .inl (E.2.1, 428, .inl slo)), (sv, .inl (E.2.2.2.1, 2, .inl sav)), (h, .inr (9, [.int 0, .ref nw, .ref td, .ref tx, .int length, .int textSize, .int start, .int next, .int token, .int value, .int error, .int errorAt, .int seen, .int triedWith, .ref rr, .ref ss, .ref tr, .ref wa, .int undos, .ref ud, .ref sl, .ref sv]))] H := hP
    have hX : xD A [nw, sl, sv, h] := xD.of hD rfl
    refine W.eq (g2 := F0 m 5 ls [.int 0]) rfl ?_
    refine lv_if_eq (tgt := 10) hx hb dX9_saveSnapshot_5 (by decide) (fun c_5 => ?_) (fun c_5 => absurd (by decide) c_5)
    refine lv_aload_n hx hb dX9_saveSnapshot_10 rfl (lv_at hl 0 rfl) ?_
    refine va_get (D := E.1) (ci := 9) (v := .ref sv) (C := RX9) (T := TX9) (N := 22) hx hb hts g_2 hown hE.1 hP 3 rfl rfl 21 (by decide) g_1 (fun _ h9 => h9) rfl dX9_saveSnapshot_11 ?_
    refine lv_iload_n hx hb dX9_saveSnapshot_14 rfl (lv_at hl 1 rfl) ?_
    refine x_zald hx hb hE.1 hP 2 2 rfl rfl slot.toNatClampNeg rfl (x_slot3 c_1).1 dX9_saveSnapshot_15 ?_
    refine lv_istore_n (lv' := [(2, .int (sav slot.toNatClampNeg)), (0, .ref h), (1, .int slot)]) hx hb dX9_saveSnapshot_16 rfl hl (by decide) rfl (fun ls hl => ?_)
    refine lv_aload_n hx hb dX9_saveSnapshot_17 rfl (lv_at hl 1 rfl) ?_
    refine va_get (D := E.1) (ci := 9) (v := .ref nw) (C := RX9) (T := TX9) (N := 22) hx hb hts g_2 hown hE.1 hP 3 rfl rfl 1 (by decide) g_3 (fun _ h9 => h9) rfl dX9_saveSnapshot_18 ?_
    refine lv_iconst (v := 0) hx hb dX9_saveSnapshot_21 (by decide) ?_
    refine lv_aload_n hx hb dX9_saveSnapshot_22 rfl (lv_at hl 1 rfl) ?_
    refine va_get (D := E.1) (ci := 9) (v := .ref sl) (C := RX9) (T := TX9) (N := 22) hx hb hts g_2 hown hE.1 hP 3 rfl rfl 20 (by decide) g_4 (fun _ h9 => h9) rfl dX9_saveSnapshot_23 ?_
    refine lv_sipush (v := 214) hx hb dX9_saveSnapshot_26 (by decide) ?_
    refine lv_iload_n hx hb dX9_saveSnapshot_29 rfl (lv_at hl 2 rfl) ?_
    refine lv_imul hx hb dX9_saveSnapshot_30 ?_
    refine lv_sipush (v := 214) hx hb dX9_saveSnapshot_31 (by decide) ?_
    refine x_wS (wr := [(sv, .inl (E.2.2.2.1, 2, .inl sav)), (h, .inr (9, [.int 0, .ref nw, .ref td, .ref tx, .int length, .int textSize, .int start, .int next, .int token, .int value, .int error, .int errorAt, .int seen, .int triedWith, .ref rr, .ref ss, .ref tr, .ref wa, .int undos, .ref ud, .ref sl, .ref sv]))]) [.ref nw, .int 0, .ref sl, .int (214 * slot), .int 214] (kX9_copies l E nw 214 now sl 428 slo 0 (214 * slot) 214 (by decide) (x_slot3 c_1).2.1 (by decide) (x_slot3 c_1).2.2 (by decide) (by decide)) ⟨hx, hb, hml, hown, hts⟩ (va_cwS 5 hts gX9_saveSnapshot_X9_copies rfl rfl rfl hdX9_copies.2 ⟨Nat.le_of_ble_eq_true rfl, Nat.le_of_ble_eq_true rfl⟩) hE hP (hX.d rfl) hS hA [0, 1] [2, 3] rfl rfl rfl rfl (by decide) hl.1 rfl rfl (Nat.le_of_ble_eq_true rfl) dX9_saveSnapshot_34 (Nat.le_of_ble_eq_true rfl) (Nat.le_of_ble_eq_true rfl) (fun q_6 H locs hq_6 hP hD hS => ?_)
    have hP : va_P E.1 vwCl [(sv, .inl (E.2.2.2.1, 2, .inl sav)), (h, .inr (9, [.int 0, .ref nw, .ref td, .ref tx, .int length, .int textSize, .int start, .int next, .int token, .int value, .int error, .int errorAt, .int seen, .int triedWith, .ref rr, .ref ss, .ref tr, .ref wa, .int undos, .ref ud, .ref sl, .ref sv])), (nw, .inl (E.2.1, 214, .inl now)), (sl, .inl (E.2.1, 428, .inl q_6))] H := hP
    have hX : xD A [sv, h, nw, sl] := xD.of hD rfl
    refine W.eq (g2 := F0 m 37 ls []) rfl ?_
    refine lv_aload_n hx hb dX9_saveSnapshot_37 rfl (lv_at hl 1 rfl) ?_
    refine va_get (D := E.1) (ci := 9) (v := .ref sv) (C := RX9) (T := TX9) (N := 22) hx hb hts g_2 hown hE.1 hP 1 rfl rfl 21 (by decide) g_1 (fun _ h9 => h9) rfl dX9_saveSnapshot_38 ?_
    refine lv_iload_n hx hb dX9_saveSnapshot_41 rfl (lv_at hl 2 rfl) ?_
    refine lv_iconst (v := 1) hx hb dX9_saveSnapshot_42 (by decide) ?_
    refine x_zast hx hb hE.1 hP (hX.d rfl) hS 0 2 rfl rfl slot.toNatClampNeg rfl (x_slot3 c_1).1 dX9_saveSnapshot_43 (fun H locs hP _ hS => ?_)
    have hP : va_P E.1 vwCl [(sv, .inl (E.2.2.2.1, 2, .inl (upd sav slot.toNatClampNeg 1))), (h, .inr (9, [.int 0, .ref nw, .ref td, .ref tx, .int length, .int textSize, .int start, .int next, .int token, .int value, .int error, .int errorAt, .int seen, .int triedWith, .ref rr, .ref ss, .ref tr, .ref wa, .int undos, .ref ud, .ref sl, .ref sv])), (nw, .inl (E.2.1, 214, .inl now)), (sl, .inl (E.2.1, 428, .inl q_6))] H := hP
    refine lv_iload_n hx hb dX9_saveSnapshot_44 rfl (lv_at hl 0 rfl) ?_
    exact x_wz (sav slot.toNatClampNeg, 0, q_6, upd sav slot.toNatClampNeg 1) (by unfold sX9_saveSnapshot; rw [if_neg c_1]; rw [← hq_6]; unfold sX9_saveSnapshot_q_6; try rfl) rfl hx hb hr hlk (x_nb (hsv _)) hS hP (hX.d rfl) [1, 2, 3, 0] rfl rfl (Nat.le_of_ble_eq_true rfl) (Nat.le_of_ble_eq_true rfl) dX9_saveSnapshot_45
def sX9_restoreSnapshot_q_9 (undos : Int32) (now : Nat → Int32) (slo : Nat → Int32) (sav : Nat → Int32) (slot : Int32) (q_9 : (Nat → Int32)) : Int32 × Int32 × (Nat → Int32) × Int32 :=
  (q_9 0, 0, q_9, 0)
def sX9_restoreSnapshot (undos : Int32) (now : Nat → Int32) (slo : Nat → Int32) (sav : Nat → Int32) (slot : Int32) : Int32 × Int32 × (Nat → Int32) × Int32 :=
  if (sX9_within slot 0 1) = 0 then
    (0, 1, now, undos)
  else
    if (sav slot.toNatClampNeg) = 0 then
      (0, 2, now, undos)
    else
      sX9_restoreSnapshot_q_9 undos now slo sav slot (sX9_copies slo now (214 * slot) 0 214)
theorem hdX9_restoreSnapshot : yX9_restoreSnapshot.cls = RX9 ∧ yX9_restoreSnapshot.cls ≠ "java/lang/invoke/MethodHandle" ∧ yX9_restoreSnapshot.cls ≠ "java/lang/invoke/VarHandle" ∧ (parseMethodDescriptor yX9_restoreSnapshot.desc).map (fun d => d.parameters.length) = some 1 := by decide +kernel
set_option maxHeartbeats 4000000 in
set_option maxRecDepth 100000 in
theorem kX9_restoreSnapshot (l : Launch) (E : XE) (h : Nat) (thrown : Int32) (nw : Nat) (td : Nat) (tx : Nat) (length : Int32) (textSize : Int32) (start : Int32) (next : Int32) (token : Int32) (value : Int32) (error : Int32) (errorAt : Int32) (seen : Int32) (triedWith : Int32) (rr : Nat) (ss : Nat) (tr : Nat) (wa : Nat) (undos : Int32) (ud : Nat) (sl : Nat) (sv : Nat) (now : Nat → Int32) (slo : Nat → Int32) (sav : Nat → Int32) (slot : Int32) : xW (T := Int32 × Int32 × (Nat → Int32) × Int32) l yX9_restoreSnapshot wsX9_restoreSnapshot ({ frames := 2, cells := 0, slots := 0, locals := 43 }) E [(h, .inr (9, [.int thrown, .ref nw, .ref td, .ref tx, .int length, .int textSize, .int start, .int next, .int token, .int value, .int error, .int errorAt, .int seen, .int triedWith, .ref rr, .ref ss, .ref tr, .ref wa, .int undos, .ref ud, .ref sl, .ref sv])), (nw, .inl (E.2.1, 214, .inl now)), (sl, .inl (E.2.1, 428, .inl slo)), (sv, .inl (E.2.2.2.1, 2, .inl sav))] [.ref h, .int slot] (fun q => some (.int q.1)) (fun q => [(h, .inr (9, [.int q.2.1, .ref nw, .ref td, .ref tx, .int length, .int textSize, .int start, .int next, .int token, .int value, .int error, .int errorAt, .int seen, .int triedWith, .ref rr, .ref ss, .ref tr, .ref wa, .int q.2.2.2, .ref ud, .ref sl, .ref sv])), (nw, .inl (E.2.1, 214, .inl q.2.2.1)), (sl, .inl (E.2.1, 428, .inl slo)), (sv, .inl (E.2.2.2.1, 2, .inl sav))]) (sX9_restoreSnapshot undos now slo sav slot) 0 0 := by
  refine xW.of (cc := cX9_restoreSnapshot) (maxL := 2) (ret := (some .int)) (by decide) rfl (Nat.le_of_ble_eq_true rfl) ?_
  intro p e s m args below meth c ls A hM hE hP hD hS hA hl
  obtain ⟨hx, hb, hr, hml, hts, hown, hlk, hnm⟩ := hM
  have g_1 : (Cond.fieldLink RX9 42 "RailPendulumModel" "isSaved" "[Z").before args s = true := hts (Cond.fieldLink RX9 42 "RailPendulumModel" "isSaved" "[Z") (by decide +kernel)
  have g_2 : ∀ w ∈ wsX90, w ∈ wsX9_restoreSnapshot := by decide +kernel
  have g_3 : (Cond.fieldLink RX9 39 "RailPendulumModel" "slots" "[I").before args s = true := hts (Cond.fieldLink RX9 39 "RailPendulumModel" "slots" "[I") (by decide +kernel)
  have g_4 : (Cond.fieldLink RX9 7 "RailPendulumModel" "now" "[I").before args s = true := hts (Cond.fieldLink RX9 7 "RailPendulumModel" "now" "[I") (by decide +kernel)
  have g_5 : (Cond.fieldLink RX9 163 "RailPendulumModel" "undos" "I").before args s = true := hts (Cond.fieldLink RX9 163 "RailPendulumModel" "undos" "I") (by decide +kernel)
  have hX : xD A [h, nw, sl, sv] := xD.of hD rfl
  have hl : lv_has ls 2 [(0, .ref h), (1, .int slot)] := hl
  refine lv_aload_n hx hb dX9_restoreSnapshot_0 rfl (lv_at hl 0 rfl) ?_
  refine lv_iload_n hx hb dX9_restoreSnapshot_1 rfl (lv_at hl 1 rfl) ?_
  by_cases c_1 : (sX9_within slot 0 1) = 0
  · refine x_wV (wr := [(nw, .inl (E.2.1, 214, .inl now)), (sl, .inl (E.2.1, 428, .inl slo)), (sv, .inl (E.2.2.2.1, 2, .inl sav))]) [.int slot] (kX9_noSlot_bad l E h thrown nw td tx length textSize start next token value error errorAt seen triedWith rr ss tr wa undos ud sl sv slot c_1) ⟨hx, hb, hml, hown, hts⟩ (cwV 1 hts gX9_restoreSnapshot_X9_noSlot rfl rfl rfl hdX9_noSlot ⟨Nat.le_of_ble_eq_true rfl, Nat.le_of_ble_eq_true rfl⟩) hE hP (hX.d rfl) hS hA [0] [1, 2, 3] rfl rfl rfl rfl (by decide) (ci := 9) (q0 := 0) rfl rfl rfl hl.1 rfl rfl (Nat.le_of_ble_eq_true rfl) dX9_restoreSnapshot_2 (Nat.le_of_ble_eq_true rfl) (Nat.le_of_ble_eq_true rfl) (fun q_2 H locs hq_2 hP hD hS => ?_)
    have hP : va_P E.1 vwCl [(nw, .inl (E.2.1, 214, .inl now)), (sl, .inl (E.2.1, 428, .inl slo)), (sv, .inl (E.2.2.2.1, 2, .inl sav)), (h, .inr (9, [.int 1, .ref nw, .ref td, .ref tx, .int length, .int textSize, .int start, .int next, .int token, .int value, .int error, .int errorAt, .int seen, .int triedWith, .ref rr, .ref ss, .ref tr, .ref wa, .int undos, .ref ud, .ref sl, .ref sv]))] H := hP
    have hX : xD A [nw, sl, sv, h] := xD.of hD rfl
    refine W.eq (g2 := F0 m 5 ls [.int 1]) rfl ?_
    refine lv_if_ne (tgt := 30) hx hb dX9_restoreSnapshot_5 (by decide) (fun c_3 => ?_) (fun c_3 => absurd c_3 (by decide))
    refine lv_iconst (v := 0) hx hb dX9_restoreSnapshot_30 (by decide) ?_
    exact x_wi (0, 1, now, undos) (by unfold sX9_restoreSnapshot; rw [if_pos c_1]; try rfl) rfl hx hb hr hlk hS hP (hX.d rfl) [3, 0, 1, 2] rfl rfl (Nat.le_of_ble_eq_true rfl) (Nat.le_of_ble_eq_true rfl) dX9_restoreSnapshot_31
  · refine x_wV (wr := [(nw, .inl (E.2.1, 214, .inl now)), (sl, .inl (E.2.1, 428, .inl slo)), (sv, .inl (E.2.2.2.1, 2, .inl sav))]) [.int slot] (kX9_noSlot_ok l E h thrown nw td tx length textSize start next token value error errorAt seen triedWith rr ss tr wa undos ud sl sv slot c_1) ⟨hx, hb, hml, hown, hts⟩ (cwV 1 hts gX9_restoreSnapshot_X9_noSlot rfl rfl rfl hdX9_noSlot ⟨Nat.le_of_ble_eq_true rfl, Nat.le_of_ble_eq_true rfl⟩) hE hP (hX.d rfl) hS hA [0] [1, 2, 3] rfl rfl rfl rfl (by decide) (ci := 9) (q0 := 0) rfl rfl rfl hl.1 rfl rfl (Nat.le_of_ble_eq_true rfl) dX9_restoreSnapshot_2 (Nat.le_of_ble_eq_true rfl) (Nat.le_of_ble_eq_true rfl) (fun q_4 H locs hq_4 hP hD hS => ?_)
    have hP : va_P E.1 vwCl [(nw, .inl (E.2.1, 214, .inl now)), (sl, .inl (E.2.1, 428, .inl slo)), (sv, .inl (E.2.2.2.1, 2, .inl sav)), (h, .inr (9, [.int 0, .ref nw, .ref td, .ref tx, .int length, .int textSize, .int start, .int next, .int token, .int value, .int error, .int errorAt, .int seen, .int triedWith, .ref rr, .ref ss, .ref tr, .ref wa, .int undos, .ref ud, .ref sl, .ref sv]))] H := hP
    have hX : xD A [nw, sl, sv, h] := xD.of hD rfl
    refine W.eq (g2 := F0 m 5 ls [.int 0]) rfl ?_
    refine lv_if_ne (tgt := 30) hx hb dX9_restoreSnapshot_5 (by decide) (fun c_5 => absurd rfl c_5) (fun c_5 => ?_)
    refine lv_aload_n hx hb dX9_restoreSnapshot_8 rfl (lv_at hl 0 rfl) ?_
    refine lv_aload_n hx hb dX9_restoreSnapshot_9 rfl (lv_at hl 0 rfl) ?_
    refine va_get (D := E.1) (ci := 9) (v := .ref sv) (C := RX9) (T := TX9) (N := 22) hx hb hts g_2 hown hE.1 hP 3 rfl rfl 21 (by decide) g_1 (fun _ h9 => h9) rfl dX9_restoreSnapshot_10 ?_
    refine lv_iload_n hx hb dX9_restoreSnapshot_13 rfl (lv_at hl 1 rfl) ?_
    refine x_zald hx hb hE.1 hP 2 2 rfl rfl slot.toNatClampNeg rfl (x_slot3 c_1).1 dX9_restoreSnapshot_14 ?_
    refine lv_if_ne (tgt := 22) hx hb dX9_restoreSnapshot_15 (by decide) (fun c_6 => ?_) (fun c_6 => ?_)
    · refine lv_iconst (v := 0) hx hb dX9_restoreSnapshot_22 (by decide) ?_
      refine lv_iconst (v := 2) hx hb dX9_restoreSnapshot_23 (by decide) ?_
      refine x_wV (wr := [(nw, .inl (E.2.1, 214, .inl now)), (sl, .inl (E.2.1, 428, .inl slo)), (sv, .inl (E.2.2.2.1, 2, .inl sav))]) [.int 0, .int 2] (kX9_throwsIf_0 l E h nw td tx length textSize start next token value error errorAt seen triedWith rr ss tr wa undos ud sl sv 2) ⟨hx, hb, hml, hown, hts⟩ (cwV 2 hts gX9_restoreSnapshot_X9_throwsIf rfl rfl rfl hdX9_throwsIf ⟨Nat.le_of_ble_eq_true rfl, Nat.le_of_ble_eq_true rfl⟩) hE hP (hX.d rfl) hS hA [3] [0, 1, 2] rfl rfl rfl rfl (by decide) (ci := 9) (q0 := 3) rfl rfl rfl hl.1 rfl rfl (Nat.le_of_ble_eq_true rfl) dX9_restoreSnapshot_24 (Nat.le_of_ble_eq_true rfl) (Nat.le_of_ble_eq_true rfl) (fun q_7 H locs hq_7 hP hD hS => ?_)
      have hP : va_P E.1 vwCl [(nw, .inl (E.2.1, 214, .inl now)), (sl, .inl (E.2.1, 428, .inl slo)), (sv, .inl (E.2.2.2.1, 2, .inl sav)), (h, .inr (9, [.int 0, .ref nw, .ref td, .ref tx, .int length, .int textSize, .int start, .int next, .int token, .int value, .int error, .int errorAt, .int seen, .int triedWith, .ref rr, .ref ss, .ref tr, .ref wa, .int undos, .ref ud, .ref sl, .ref sv]))] H := hP
      have hX : xD A [nw, sl, sv, h] := xD.of hD rfl
      refine W.eq (g2 := F0 m 27 ls [.int 0]) rfl ?_
      refine lv_if_eq (tgt := 32) hx hb dX9_restoreSnapshot_27 (by decide) (fun c_8 => ?_) (fun c_8 => absurd (by decide) c_8)
      refine lv_aload_n hx hb dX9_restoreSnapshot_32 rfl (lv_at hl 0 rfl) ?_
      refine va_get (D := E.1) (ci := 9) (v := .ref sl) (C := RX9) (T := TX9) (N := 22) hx hb hts g_2 hown hE.1 hP 3 rfl rfl 20 (by decide) g_3 (fun _ h9 => h9) rfl dX9_restoreSnapshot_33 ?_
      refine lv_sipush (v := 214) hx hb dX9_restoreSnapshot_36 (by decide) ?_
      refine lv_iload_n hx hb dX9_restoreSnapshot_39 rfl (lv_at hl 1 rfl) ?_
      refine lv_imul hx hb dX9_restoreSnapshot_40 ?_
      refine lv_aload_n hx hb dX9_restoreSnapshot_41 rfl (lv_at hl 0 rfl) ?_
      refine va_get (D := E.1) (ci := 9) (v := .ref nw) (C := RX9) (T := TX9) (N := 22) hx hb hts g_2 hown hE.1 hP 3 rfl rfl 1 (by decide) g_4 (fun _ h9 => h9) rfl dX9_restoreSnapshot_42 ?_
      refine lv_iconst (v := 0) hx hb dX9_restoreSnapshot_45 (by decide) ?_
      refine lv_sipush (v := 214) hx hb dX9_restoreSnapshot_46 (by decide) ?_
      refine x_wS (wr := [(sv, .inl (E.2.2.2.1, 2, .inl sav)), (h, .inr (9, [.int 0, .ref nw, .ref td, .ref tx, .int length, .int textSize, .int start, .int next, .int token, .int value, .int error, .int errorAt, .int seen, .int triedWith, .ref rr, .ref ss, .ref tr, .ref wa, .int undos, .ref ud, .ref sl, .ref sv]))]) [.ref sl, .int (214 * slot), .ref nw, .int 0, .int 214] (kX9_copies l E sl 428 slo nw 214 now (214 * slot) 0 214 (x_slot3 c_1).2.1 (by decide) (x_slot3 c_1).2.2 (by decide) (by decide) (by decide)) ⟨hx, hb, hml, hown, hts⟩ (va_cwS 5 hts gX9_restoreSnapshot_X9_copies rfl rfl rfl hdX9_copies.2 ⟨Nat.le_of_ble_eq_true rfl, Nat.le_of_ble_eq_true rfl⟩) hE hP (hX.d rfl) hS hA [1, 0] [2, 3] rfl rfl rfl rfl (by decide) hl.1 rfl rfl (Nat.le_of_ble_eq_true rfl) dX9_restoreSnapshot_49 (Nat.le_of_ble_eq_true rfl) (Nat.le_of_ble_eq_true rfl) (fun q_9 H locs hq_9 hP hD hS => ?_)
      have hP : va_P E.1 vwCl [(sv, .inl (E.2.2.2.1, 2, .inl sav)), (h, .inr (9, [.int 0, .ref nw, .ref td, .ref tx, .int length, .int textSize, .int start, .int next, .int token, .int value, .int error, .int errorAt, .int seen, .int triedWith, .ref rr, .ref ss, .ref tr, .ref wa, .int undos, .ref ud, .ref sl, .ref sv])), (sl, .inl (E.2.1, 428, .inl slo)), (nw, .inl (E.2.1, 214, .inl q_9))] H := hP
      have hX : xD A [sv, h, sl, nw] := xD.of hD rfl
      refine W.eq (g2 := F0 m 52 ls []) rfl ?_
      refine lv_aload_n hx hb dX9_restoreSnapshot_52 rfl (lv_at hl 0 rfl) ?_
      refine lv_iconst (v := 0) hx hb dX9_restoreSnapshot_53 (by decide) ?_
      refine va_put (D := E.1) (ci := 9) (v := .int 0) (ty := .int) (C := RX9) (T := TX9) (N := 22) hx hb hts g_2 tyX9 tyX9_ok nmX9 hown hE.1 hP (hX.d rfl) hS 1 rfl rfl 18 (by decide) g_5 (fun _ h9 => h9) rfl (by decide +kernel) rfl rfl (Nat.le_of_ble_eq_true rfl) dX9_restoreSnapshot_54 (fun H locs hP _ hS => ?_)
      have hP : va_P E.1 vwCl [(sv, .inl (E.2.2.2.1, 2, .inl sav)), (h, .inr (9, [.int 0, .ref nw, .ref td, .ref tx, .int length, .int textSize, .int start, .int next, .int token, .int value, .int error, .int errorAt, .int seen, .int triedWith, .ref rr, .ref ss, .ref tr, .ref wa, .int 0, .ref ud, .ref sl, .ref sv])), (sl, .inl (E.2.1, 428, .inl slo)), (nw, .inl (E.2.1, 214, .inl q_9))] H := hP
      refine lv_aload_n hx hb dX9_restoreSnapshot_57 rfl (lv_at hl 0 rfl) ?_
      refine va_get (D := E.1) (ci := 9) (v := .ref nw) (C := RX9) (T := TX9) (N := 22) hx hb hts g_2 hown hE.1 hP 1 rfl rfl 1 (by decide) g_4 (fun _ h9 => h9) rfl dX9_restoreSnapshot_58 ?_
      refine lv_iconst (v := 0) hx hb dX9_restoreSnapshot_61 (by decide) ?_
      refine x_iald hx hb hE.1 hP 3 0 rfl rfl 0 (by decide) (by unfold vp_in; decide) dX9_restoreSnapshot_62 ?_
      exact x_wi (q_9 0, 0, q_9, 0) (by unfold sX9_restoreSnapshot; rw [if_neg c_1]; rw [if_neg c_6]; rw [← hq_9]; unfold sX9_restoreSnapshot_q_9; try rfl) rfl hx hb hr hlk hS hP (hX.d rfl) [1, 3, 2, 0] rfl rfl (Nat.le_of_ble_eq_true rfl) (Nat.le_of_ble_eq_true rfl) dX9_restoreSnapshot_63
    · refine lv_iconst (v := 1) hx hb dX9_restoreSnapshot_18 (by decide) ?_
      refine lv_goto (tgt := 23) hx hb dX9_restoreSnapshot_19 (by decide) ?_
      refine lv_iconst (v := 2) hx hb dX9_restoreSnapshot_23 (by decide) ?_
      refine x_wV (wr := [(nw, .inl (E.2.1, 214, .inl now)), (sl, .inl (E.2.1, 428, .inl slo)), (sv, .inl (E.2.2.2.1, 2, .inl sav))]) [.int 1, .int 2] (kX9_throwsIf_12 l E h nw td tx length textSize start next token value error errorAt seen triedWith rr ss tr wa undos ud sl sv) ⟨hx, hb, hml, hown, hts⟩ (cwV 2 hts gX9_restoreSnapshot_X9_throwsIf rfl rfl rfl hdX9_throwsIf ⟨Nat.le_of_ble_eq_true rfl, Nat.le_of_ble_eq_true rfl⟩) hE hP (hX.d rfl) hS hA [3] [0, 1, 2] rfl rfl rfl rfl (by decide) (ci := 9) (q0 := 3) rfl rfl rfl hl.1 rfl rfl (Nat.le_of_ble_eq_true rfl) dX9_restoreSnapshot_24 (Nat.le_of_ble_eq_true rfl) (Nat.le_of_ble_eq_true rfl) (fun q_10 H locs hq_10 hP hD hS => ?_)
      have hP : va_P E.1 vwCl [(nw, .inl (E.2.1, 214, .inl now)), (sl, .inl (E.2.1, 428, .inl slo)), (sv, .inl (E.2.2.2.1, 2, .inl sav)), (h, .inr (9, [.int 2, .ref nw, .ref td, .ref tx, .int length, .int textSize, .int start, .int next, .int token, .int value, .int error, .int errorAt, .int seen, .int triedWith, .ref rr, .ref ss, .ref tr, .ref wa, .int undos, .ref ud, .ref sl, .ref sv]))] H := hP
      have hX : xD A [nw, sl, sv, h] := xD.of hD rfl
      refine W.eq (g2 := F0 m 27 ls [.int 1]) rfl ?_
      refine lv_if_eq (tgt := 32) hx hb dX9_restoreSnapshot_27 (by decide) (fun c_11 => absurd c_11 (by decide)) (fun c_11 => ?_)
      refine lv_iconst (v := 0) hx hb dX9_restoreSnapshot_30 (by decide) ?_
      exact x_wi (0, 2, now, undos) (by unfold sX9_restoreSnapshot; rw [if_neg c_1]; rw [if_pos c_6]; try rfl) rfl hx hb hr hlk hS hP (hX.d rfl) [3, 0, 1, 2] rfl rfl (Nat.le_of_ble_eq_true rfl) (Nat.le_of_ble_eq_true rfl) dX9_restoreSnapshot_31
