theorem x_K14 {t : Int32} (h : ¬ t < 0) : 14 ≤ (14 + (t - t / 200 * 200)).toNatClampNeg := by
  have k : (200 : Int32).toInt = 200 := by decide
  have k14 : (14 : Int32).toInt = 14 := by decide
  have r := x_rg t
  rw [Int32.lt_iff_toInt_lt, Int32.toInt_zero] at h
  have hm := Int.mul_tdiv_add_tmod t.toInt 200
  have hd : (t / 200).toInt = t.toInt.tdiv 200 := by rw [Int32.toInt_div_of_ne_right _ _ (by decide), k]
  have h1 := Int.tmod_lt_of_pos t.toInt (b := 200) (by decide)
  have h2 := Int.tmod_nonneg (a := t.toInt) 200 (by omega)
  have e1 : (t / 200 * 200).toInt = 200 * t.toInt.tdiv 200 := by rw [x_mulI (by rw [hd, k]; omega) (by rw [hd, k]; omega), hd, k, Int.mul_comm]
  have e2 : (t - t / 200 * 200).toInt = t.toInt.tmod 200 := by rw [x_subI (by rw [e1]; omega) (by rw [e1]; omega), e1]; omega
  have e3 : (14 + (t - t / 200 * 200)).toInt = 14 + t.toInt.tmod 200 := by rw [x_addI (by rw [k14, e2]; omega) (by rw [k14, e2]; omega), k14, e2]
  rw [x_nat, e3]
  omega
theorem x_uK {f : Nat → Int32} {K j : Nat} {v : Int32} (h : 14 ≤ K) (hj : j < 14) : upd f K v j = f j := pk_un (by omega)
theorem x_sw (tw : Int32) (nw told rs fs tri : Nat → Int32) (j : Nat) (h1 : j ≠ 1) (h4 : j ≠ 4) (h6 : j ≠ 6) (hj : j < 14) (ht : ¬ nw 0 < 0) : (sX9_switches tw nw told rs fs tri).1 j = nw j := by
  have hK := x_K14 ht
  have e : ∀ (a : Int32) (v : Int32), upd (upd (upd nw 1 a) 6 (nw 6 + 1)) ((14 + (nw 0 - nw 0 / 200 * 200)).toNatClampNeg) v j = nw j := fun a v => by rw [x_uK hK hj, pk_un h6, pk_un h1]
  have e2 : ∀ (f : Nat → Int32) (a v : Int32), f j = nw j → upd (upd f 1 a) 4 v j = nw j := fun f a v h => by rw [pk_un h4, pk_un h1, h]
  unfold sX9_switches
  repeat' split
  all_goals try simp only [sX9_switches_q_36, sX9_switches_q_46, sX9_switches_q_50, sX9_switches_q_41, sX9_switches_q_25, sX9_switches_q_23, sX9_switches_q_11]
  repeat' split
  all_goals first | rfl | exact e _ _ | exact e2 _ _ _ (e _ _)
theorem x_swq {q : (Nat → Int32) × Int32 × (Nat → Int32) × (Nat → Int32) × (Nat → Int32)} {tw : Int32} {nw told rs fs tri : Nat → Int32} (hq : q = sX9_switches tw nw told rs fs tri) (ht : ¬ nw 0 < 0) (j : Nat) (h1 : j ≠ 1) (h4 : j ≠ 4) (h6 : j ≠ 6) (hj : j < 14) : q.1 j = nw j := by
  rw [hq]
  exact x_sw tw nw told rs fs tri j h1 h4 h6 hj ht
def sX9_passes_q_5 (triedWith : Int32) (now : Nat → Int32) (told : Nat → Int32) (rs : Nat → Int32) (fs : Nat → Int32) (tri : Nat → Int32) (q_1 : (Nat → Int32)) (q_4 : (Nat → Int32) × Int32 × (Nat → Int32) × (Nat → Int32) × (Nat → Int32)) (q_5 : Int32 × (Nat → Int32)) : (Nat → Int32) × Int32 × (Nat → Int32) × (Nat → Int32) × (Nat → Int32) :=
  if q_5.1 ≤ 0 then
    (q_5.2, q_4.2.1, q_4.2.2.1, q_4.2.2.2.1, q_4.2.2.2.2)
  else
    (upd (upd (upd q_5.2 1 3) 7 ((q_5.2 7) + 1)) 9 q_5.1, q_4.2.1, q_4.2.2.1, q_4.2.2.2.1, q_4.2.2.2.2)
def sX9_passes_q_4 (triedWith : Int32) (now : Nat → Int32) (told : Nat → Int32) (rs : Nat → Int32) (fs : Nat → Int32) (tri : Nat → Int32) (q_1 : (Nat → Int32)) (q_4 : (Nat → Int32) × Int32 × (Nat → Int32) × (Nat → Int32) × (Nat → Int32)) : (Nat → Int32) × Int32 × (Nat → Int32) × (Nat → Int32) × (Nat → Int32) :=
  sX9_passes_q_5 triedWith now told rs fs tri q_1 q_4 (sX9_step told q_4.1 (sX9_pushNow q_4.1 told))
def sX9_passes_q_8 (triedWith : Int32) (now : Nat → Int32) (told : Nat → Int32) (rs : Nat → Int32) (fs : Nat → Int32) (tri : Nat → Int32) (q_1 : (Nat → Int32)) (q_7 : (Nat → Int32) × Int32 × (Nat → Int32) × (Nat → Int32) × (Nat → Int32)) (q_8 : Int32 × (Nat → Int32)) : (Nat → Int32) × Int32 × (Nat → Int32) × (Nat → Int32) × (Nat → Int32) :=
  if q_8.1 ≤ 0 then
    (q_8.2, q_7.2.1, q_7.2.2.1, q_7.2.2.2.1, q_7.2.2.2.2)
  else
    (upd (upd (upd q_8.2 1 3) 7 ((q_8.2 7) + 1)) 9 q_8.1, q_7.2.1, q_7.2.2.1, q_7.2.2.2.1, q_7.2.2.2.2)
def sX9_passes_q_7 (triedWith : Int32) (now : Nat → Int32) (told : Nat → Int32) (rs : Nat → Int32) (fs : Nat → Int32) (tri : Nat → Int32) (q_1 : (Nat → Int32)) (q_7 : (Nat → Int32) × Int32 × (Nat → Int32) × (Nat → Int32) × (Nat → Int32)) : (Nat → Int32) × Int32 × (Nat → Int32) × (Nat → Int32) × (Nat → Int32) :=
  sX9_passes_q_8 triedWith now told rs fs tri q_1 q_7 (sX9_step told q_7.1 (sX9_pushNow q_7.1 told))
def sX9_passes_q_1 (triedWith : Int32) (now : Nat → Int32) (told : Nat → Int32) (rs : Nat → Int32) (fs : Nat → Int32) (tri : Nat → Int32) (q_1 : (Nat → Int32)) : (Nat → Int32) × Int32 × (Nat → Int32) × (Nat → Int32) × (Nat → Int32) :=
  if (q_1 1) = 3 then
    (q_1, triedWith, rs, fs, tri)
  else
    if (q_1 4) ≤ 0 then
      sX9_passes_q_4 triedWith now told rs fs tri q_1 (sX9_switches triedWith (upd q_1 4 ((q_1 4) - 0)) told rs fs tri)
    else
      sX9_passes_q_7 triedWith now told rs fs tri q_1 (sX9_switches triedWith (upd q_1 4 ((q_1 4) - 1)) told rs fs tri)
def sX9_passes (triedWith : Int32) (now : Nat → Int32) (told : Nat → Int32) (rs : Nat → Int32) (fs : Nat → Int32) (tri : Nat → Int32) : (Nat → Int32) × Int32 × (Nat → Int32) × (Nat → Int32) × (Nat → Int32) :=
  sX9_passes_q_1 triedWith now told rs fs tri (upd (upd now 0 ((now 0) + 1)) ((14 + (((now 0) + 1) - ((now 0) + 1) / 200 * 200)).toNatClampNeg) 0)
theorem hdX9_passes : yX9_passes.cls = RX9 ∧ yX9_passes.cls ≠ "java/lang/invoke/MethodHandle" ∧ yX9_passes.cls ≠ "java/lang/invoke/VarHandle" ∧ (parseMethodDescriptor yX9_passes.desc).map (fun d => d.parameters.length) = some 0 := by decide +kernel
set_option maxHeartbeats 4000000 in
set_option maxRecDepth 100000 in
theorem kX9_passes (l : Launch) (E : XE) (h : Nat) (thrown : Int32) (nw : Nat) (td : Nat) (tx : Nat) (length : Int32) (textSize : Int32) (start : Int32) (next : Int32) (token : Int32) (value : Int32) (error : Int32) (errorAt : Int32) (seen : Int32) (triedWith : Int32) (rr : Nat) (ss : Nat) (tr : Nat) (wa : Nat) (undos : Int32) (ud : Nat) (sl : Nat) (sv : Nat) (now : Nat → Int32) (told : Nat → Int32) (rs : Nat → Int32) (fs : Nat → Int32) (tri : Nat → Int32) (hw1 : ¬ 2 * told 15 = 0) (hw2 : ¬ 2 * told 16 = 0) (hc3 : told 17 ≤ 3) (hc0 : 0 ≤ told 17) (ht : ¬ now 0 + 1 < 0) (ha0 : 0 ≤ now 10) (ha1 : now 10 < 4096) (hb0 : 0 ≤ now 11) (hb1 : now 11 < 4096) : xW (T := (Nat → Int32) × Int32 × (Nat → Int32) × (Nat → Int32) × (Nat → Int32)) l yX9_passes wsX9_passes ({ frames := 8, cells := 0, slots := 0, locals := 182 }) E [(h, .inr (9, [.int thrown, .ref nw, .ref td, .ref tx, .int length, .int textSize, .int start, .int next, .int token, .int value, .int error, .int errorAt, .int seen, .int triedWith, .ref rr, .ref ss, .ref tr, .ref wa, .int undos, .ref ud, .ref sl, .ref sv])), (nw, .inl (E.2.1, 214, .inl now)), (td, .inl (E.2.1, 48, .inl told)), (rr, .inl (E.2.1, 49, .inl rs)), (ss, .inl (E.2.1, 49, .inl fs)), (tr, .inl (E.2.1, 14, .inl tri))] [.ref h] (fun _ => none) (fun q => [(h, .inr (9, [.int thrown, .ref nw, .ref td, .ref tx, .int length, .int textSize, .int start, .int next, .int token, .int value, .int error, .int errorAt, .int seen, .int q.2.1, .ref rr, .ref ss, .ref tr, .ref wa, .int undos, .ref ud, .ref sl, .ref sv])), (nw, .inl (E.2.1, 214, .inl q.1)), (td, .inl (E.2.1, 48, .inl told)), (rr, .inl (E.2.1, 49, .inl q.2.2.1)), (ss, .inl (E.2.1, 49, .inl q.2.2.2.1)), (tr, .inl (E.2.1, 14, .inl q.2.2.2.2))]) (sX9_passes triedWith now told rs fs tri) 0 0 := by
  refine xW.of (cc := cX9_passes) (maxL := 2) (ret := none) (by decide) rfl (Nat.le_of_ble_eq_true rfl) ?_
  intro p e s m args below meth c ls A hM hE hP hD hS hA hl
  obtain ⟨hx, hb, hr, hml, hts, hown, hlk, hnm⟩ := hM
  have g_1 : (Cond.fieldLink RX9 7 "RailPendulumModel" "now" "[I").before args s = true := hts (Cond.fieldLink RX9 7 "RailPendulumModel" "now" "[I") (by decide +kernel)
  have g_2 : ∀ w ∈ wsX90, w ∈ wsX9_passes := by decide +kernel
  have hX : xD A [h, nw, td, rr, ss, tr] := xD.of hD rfl
  have hl : lv_has ls 2 [(0, .ref h)] := hl
  refine lv_aload_n hx hb dX9_passes_0 rfl (lv_at hl 0 rfl) ?_
  refine va_get (D := E.1) (ci := 9) (v := .ref nw) (C := RX9) (T := TX9) (N := 22) hx hb hts g_2 hown hE.1 hP 0 rfl rfl 1 (by decide) g_1 (fun _ h9 => h9) rfl dX9_passes_1 ?_
  refine lv_iconst (v := 0) hx hb dX9_passes_4 (by decide) ?_
  refine lv_dup2_11 hx hb dX9_passes_5 rfl rfl ?_
  refine x_iald hx hb hE.1 hP 1 0 rfl rfl 0 (by decide) (by unfold vp_in; decide) dX9_passes_6 ?_
  refine lv_iconst (v := 1) hx hb dX9_passes_7 (by decide) ?_
  refine lv_iadd hx hb dX9_passes_8 ?_
  refine x_iast hx hb hE.1 hP (hX.d rfl) hS 1 0 rfl rfl 0 (by decide) (by unfold vp_in; decide) dX9_passes_9 (fun H locs hP _ hS => ?_)
  have hP : va_P E.1 vwCl [(h, .inr (9, [.int thrown, .ref nw, .ref td, .ref tx, .int length, .int textSize, .int start, .int next, .int token, .int value, .int error, .int errorAt, .int seen, .int triedWith, .ref rr, .ref ss, .ref tr, .ref wa, .int undos, .ref ud, .ref sl, .ref sv])), (nw, .inl (E.2.1, 214, .inl (upd now 0 ((now 0) + 1)))), (td, .inl (E.2.1, 48, .inl told)), (rr, .inl (E.2.1, 49, .inl rs)), (ss, .inl (E.2.1, 49, .inl fs)), (tr, .inl (E.2.1, 14, .inl tri))] H := hP
  refine lv_aload_n hx hb dX9_passes_10 rfl (lv_at hl 0 rfl) ?_
  refine va_get (D := E.1) (ci := 9) (v := .ref nw) (C := RX9) (T := TX9) (N := 22) hx hb hts g_2 hown hE.1 hP 0 rfl rfl 1 (by decide) g_1 (fun _ h9 => h9) rfl dX9_passes_11 ?_
  refine lv_bipush (v := 14) hx hb dX9_passes_14 (by decide) ?_
  refine lv_aload_n hx hb dX9_passes_16 rfl (lv_at hl 0 rfl) ?_
  refine va_get (D := E.1) (ci := 9) (v := .ref nw) (C := RX9) (T := TX9) (N := 22) hx hb hts g_2 hown hE.1 hP 0 rfl rfl 1 (by decide) g_1 (fun _ h9 => h9) rfl dX9_passes_17 ?_
  refine lv_iconst (v := 0) hx hb dX9_passes_20 (by decide) ?_
  refine x_iald hx hb hE.1 hP 1 0 rfl rfl 0 (by decide) (by unfold vp_in; decide) dX9_passes_21 ?_
  refine W.eq (g2 := F0 m 22 ls [.int ((now 0) + 1), .int 14, .ref nw]) rfl ?_
  refine lv_sipush (v := 200) hx hb dX9_passes_22 (by decide) ?_
  refine lv_irem hx hb dX9_passes_25 (by decide) ?_
  refine lv_iadd hx hb dX9_passes_26 ?_
  refine lv_iconst (v := 0) hx hb dX9_passes_27 (by decide) ?_
  refine x_iast hx hb hE.1 hP (hX.d rfl) hS 1 0 rfl rfl ((14 + (((now 0) + 1) - ((now 0) + 1) / 200 * 200)).toNatClampNeg) rfl (x_ix200 ht) dX9_passes_28 (fun H locs hP _ hS => ?_)
  have hP : va_P E.1 vwCl [(h, .inr (9, [.int thrown, .ref nw, .ref td, .ref tx, .int length, .int textSize, .int start, .int next, .int token, .int value, .int error, .int errorAt, .int seen, .int triedWith, .ref rr, .ref ss, .ref tr, .ref wa, .int undos, .ref ud, .ref sl, .ref sv])), (nw, .inl (E.2.1, 214, .inl (upd (upd now 0 ((now 0) + 1)) ((14 + (((now 0) + 1) - ((now 0) + 1) / 200 * 200)).toNatClampNeg) 0))), (td, .inl (E.2.1, 48, .inl told)), (rr, .inl (E.2.1, 49, .inl rs)), (ss, .inl (E.2.1, 49, .inl fs)), (tr, .inl (E.2.1, 14, .inl tri))] H := hP
  obtain ⟨q_1, hq_1⟩ : ∃ g : Nat → Int32, g = upd (upd now 0 ((now 0) + 1)) ((14 + (((now 0) + 1) - ((now 0) + 1) / 200 * 200)).toNatClampNeg) 0 := ⟨_, rfl⟩
  rw [← hq_1] at hP
  refine lv_aload_n hx hb dX9_passes_29 rfl (lv_at hl 0 rfl) ?_
  refine va_get (D := E.1) (ci := 9) (v := .ref nw) (C := RX9) (T := TX9) (N := 22) hx hb hts g_2 hown hE.1 hP 0 rfl rfl 1 (by decide) g_1 (fun _ h9 => h9) rfl dX9_passes_30 ?_
  refine lv_iconst (v := 1) hx hb dX9_passes_33 (by decide) ?_
  refine x_iald hx hb hE.1 hP 1 0 rfl rfl 1 (by decide) (by unfold vp_in; decide) dX9_passes_34 ?_
  refine lv_iconst (v := 3) hx hb dX9_passes_35 (by decide) ?_
  refine lv_icmp_ne (tgt := 40) hx hb dX9_passes_36 (by decide) (fun c_2 => ?_) (fun c_2 => ?_)
  · refine lv_aload_n hx hb dX9_passes_40 rfl (lv_at hl 0 rfl) ?_
    refine va_get (D := E.1) (ci := 9) (v := .ref nw) (C := RX9) (T := TX9) (N := 22) hx hb hts g_2 hown hE.1 hP 0 rfl rfl 1 (by decide) g_1 (fun _ h9 => h9) rfl dX9_passes_41 ?_
    refine lv_iconst (v := 4) hx hb dX9_passes_44 (by decide) ?_
    refine lv_dup2_11 hx hb dX9_passes_45 rfl rfl ?_
    refine x_iald hx hb hE.1 hP 1 0 rfl rfl 4 (by decide) (by unfold vp_in; decide) dX9_passes_46 ?_
    refine lv_aload_n hx hb dX9_passes_47 rfl (lv_at hl 0 rfl) ?_
    refine va_get (D := E.1) (ci := 9) (v := .ref nw) (C := RX9) (T := TX9) (N := 22) hx hb hts g_2 hown hE.1 hP 0 rfl rfl 1 (by decide) g_1 (fun _ h9 => h9) rfl dX9_passes_48 ?_
    refine lv_iconst (v := 4) hx hb dX9_passes_51 (by decide) ?_
    refine x_iald hx hb hE.1 hP 1 0 rfl rfl 4 (by decide) (by unfold vp_in; decide) dX9_passes_52 ?_
    refine lv_if_le (tgt := 60) hx hb dX9_passes_53 (by decide) (fun c_3 => ?_) (fun c_3 => ?_)
    · refine lv_iconst (v := 0) hx hb dX9_passes_60 (by decide) ?_
      refine lv_isub hx hb dX9_passes_61 ?_
      refine x_iast hx hb hE.1 hP (hX.d rfl) hS 1 0 rfl rfl 4 (by decide) (by unfold vp_in; decide) dX9_passes_62 (fun H locs hP _ hS => ?_)
      have hP : va_P E.1 vwCl [(h, .inr (9, [.int thrown, .ref nw, .ref td, .ref tx, .int length, .int textSize, .int start, .int next, .int token, .int value, .int error, .int errorAt, .int seen, .int triedWith, .ref rr, .ref ss, .ref tr, .ref wa, .int undos, .ref ud, .ref sl, .ref sv])), (nw, .inl (E.2.1, 214, .inl (upd q_1 4 ((q_1 4) - 0)))), (td, .inl (E.2.1, 48, .inl told)), (rr, .inl (E.2.1, 49, .inl rs)), (ss, .inl (E.2.1, 49, .inl fs)), (tr, .inl (E.2.1, 14, .inl tri))] H := hP
      refine lv_aload_n hx hb dX9_passes_63 rfl (lv_at hl 0 rfl) ?_
      refine x_wV (wr := []) [] (kX9_switches l E h thrown nw td tx length textSize start next token value error errorAt seen triedWith rr ss tr wa undos ud sl sv (upd q_1 4 ((q_1 4) - 0)) told rs fs tri hw1 hw2 hc3 hc0 (by rw [hq_1]; show ¬ (upd (upd now 0 (now 0 + 1)) ((14 + ((now 0 + 1) - (now 0 + 1) / 200 * 200)).toNatClampNeg) 0) 0 < 0; rw [x_uK (x_K14 ht) (by decide)]; exact ht)) ⟨hx, hb, hml, hown, hts⟩ (cwV 0 hts gX9_passes_X9_switches rfl rfl rfl hdX9_switches ⟨Nat.le_of_ble_eq_true rfl, Nat.le_of_ble_eq_true rfl⟩) hE hP (hX.d rfl) hS hA [0, 1, 2, 3, 4, 5] [] rfl rfl rfl rfl (by decide) (ci := 9) (q0 := 0) rfl rfl rfl hl.1 rfl rfl (Nat.le_of_ble_eq_true rfl) dX9_passes_64 (Nat.le_of_ble_eq_true rfl) (Nat.le_of_ble_eq_true rfl) (fun q_4 H locs hq_4 hP hD hS => ?_)
      have hP : va_P E.1 vwCl [(h, .inr (9, [.int thrown, .ref nw, .ref td, .ref tx, .int length, .int textSize, .int start, .int next, .int token, .int value, .int error, .int errorAt, .int seen, .int q_4.2.1, .ref rr, .ref ss, .ref tr, .ref wa, .int undos, .ref ud, .ref sl, .ref sv])), (nw, .inl (E.2.1, 214, .inl q_4.1)), (td, .inl (E.2.1, 48, .inl told)), (rr, .inl (E.2.1, 49, .inl q_4.2.2.1)), (ss, .inl (E.2.1, 49, .inl q_4.2.2.2.1)), (tr, .inl (E.2.1, 14, .inl q_4.2.2.2.2))] H := hP
      have hX : xD A [h, nw, td, rr, ss, tr] := xD.of hD rfl
      refine W.eq (g2 := F0 m 67 ls []) rfl ?_
      refine lv_aload_n hx hb dX9_passes_67 rfl (lv_at hl 0 rfl) ?_
      refine lv_aload_n hx hb dX9_passes_68 rfl (lv_at hl 0 rfl) ?_
      refine va_get (D := E.1) (ci := 9) (v := .ref nw) (C := RX9) (T := TX9) (N := 22) hx hb hts g_2 hown hE.1 hP 0 rfl rfl 1 (by decide) g_1 (fun _ h9 => h9) rfl dX9_passes_69 ?_
      refine lv_aload_n hx hb dX9_passes_72 rfl (lv_at hl 0 rfl) ?_
      refine x_rV [] (kX9_pushNow l E h thrown nw td tx length textSize start next token value error errorAt seen q_4.2.1 rr ss tr wa undos ud sl sv q_4.1 told) ⟨hx, hb, hml, hown, hts⟩ (cwV 0 hts gX9_passes_X9_pushNow rfl rfl rfl hdX9_pushNow ⟨Nat.le_of_ble_eq_true rfl, Nat.le_of_ble_eq_true rfl⟩) hE hP (hX.d rfl) [0, 1, 2] rfl rfl (ci := 9) (q0 := 0) rfl rfl rfl hl.1 rfl rfl (Nat.le_of_ble_eq_true rfl) dX9_passes_73 (Nat.le_of_ble_eq_true rfl) (Nat.le_of_ble_eq_true rfl) ?_
      refine x_wV (wr := [(rr, .inl (E.2.1, 49, .inl q_4.2.2.1)), (ss, .inl (E.2.1, 49, .inl q_4.2.2.2.1)), (tr, .inl (E.2.1, 14, .inl q_4.2.2.2.2))]) [.ref nw, .int (sX9_pushNow q_4.1 told)] (kX9_step l E h thrown nw td tx length textSize start next token value error errorAt seen q_4.2.1 rr ss tr wa undos ud sl sv told nw 214 q_4.1 (sX9_pushNow q_4.1 told) (by decide) (by rw [x_swq hq_4 (by rw [hq_1]; show ¬ (upd (upd now 0 (now 0 + 1)) ((14 + ((now 0 + 1) - (now 0 + 1) / 200 * 200)).toNatClampNeg) 0) 0 < 0; rw [x_uK (x_K14 ht) (by decide)]; exact ht) 10 (by decide) (by decide) (by decide) (by decide)]; rw [hq_1]; show 0 ≤ (upd (upd now 0 (now 0 + 1)) ((14 + ((now 0 + 1) - (now 0 + 1) / 200 * 200)).toNatClampNeg) 0) 10; rw [x_uK (x_K14 ht) (by decide)]; exact ha0) (by rw [x_swq hq_4 (by rw [hq_1]; show ¬ (upd (upd now 0 (now 0 + 1)) ((14 + ((now 0 + 1) - (now 0 + 1) / 200 * 200)).toNatClampNeg) 0) 0 < 0; rw [x_uK (x_K14 ht) (by decide)]; exact ht) 10 (by decide) (by decide) (by decide) (by decide)]; rw [hq_1]; show (upd (upd now 0 (now 0 + 1)) ((14 + ((now 0 + 1) - (now 0 + 1) / 200 * 200)).toNatClampNeg) 0) 10 < 4096; rw [x_uK (x_K14 ht) (by decide)]; exact ha1) (by rw [x_swq hq_4 (by rw [hq_1]; show ¬ (upd (upd now 0 (now 0 + 1)) ((14 + ((now 0 + 1) - (now 0 + 1) / 200 * 200)).toNatClampNeg) 0) 0 < 0; rw [x_uK (x_K14 ht) (by decide)]; exact ht) 11 (by decide) (by decide) (by decide) (by decide)]; rw [hq_1]; show 0 ≤ (upd (upd now 0 (now 0 + 1)) ((14 + ((now 0 + 1) - (now 0 + 1) / 200 * 200)).toNatClampNeg) 0) 11; rw [x_uK (x_K14 ht) (by decide)]; exact hb0) (by rw [x_swq hq_4 (by rw [hq_1]; show ¬ (upd (upd now 0 (now 0 + 1)) ((14 + ((now 0 + 1) - (now 0 + 1) / 200 * 200)).toNatClampNeg) 0) 0 < 0; rw [x_uK (x_K14 ht) (by decide)]; exact ht) 11 (by decide) (by decide) (by decide) (by decide)]; rw [hq_1]; show (upd (upd now 0 (now 0 + 1)) ((14 + ((now 0 + 1) - (now 0 + 1) / 200 * 200)).toNatClampNeg) 0) 11 < 4096; rw [x_uK (x_K14 ht) (by decide)]; exact hb1)) ⟨hx, hb, hml, hown, hts⟩ (cwV 2 hts gX9_passes_X9_step rfl rfl rfl hdX9_step ⟨Nat.le_of_ble_eq_true rfl, Nat.le_of_ble_eq_true rfl⟩) hE hP (hX.d rfl) hS hA [0, 2, 1] [3, 4, 5] rfl rfl rfl rfl (by decide) (ci := 9) (q0 := 0) rfl rfl rfl hl.1 rfl rfl (Nat.le_of_ble_eq_true rfl) dX9_passes_76 (Nat.le_of_ble_eq_true rfl) (Nat.le_of_ble_eq_true rfl) (fun q_5 H locs hq_5 hP hD hS => ?_)
      have hP : va_P E.1 vwCl [(rr, .inl (E.2.1, 49, .inl q_4.2.2.1)), (ss, .inl (E.2.1, 49, .inl q_4.2.2.2.1)), (tr, .inl (E.2.1, 14, .inl q_4.2.2.2.2)), (h, .inr (9, [.int thrown, .ref nw, .ref td, .ref tx, .int length, .int textSize, .int start, .int next, .int token, .int value, .int error, .int errorAt, .int seen, .int q_4.2.1, .ref rr, .ref ss, .ref tr, .ref wa, .int undos, .ref ud, .ref sl, .ref sv])), (td, .inl (E.2.1, 48, .inl told)), (nw, .inl (E.2.1, 214, .inl q_5.2))] H := hP
      have hX : xD A [rr, ss, tr, h, td, nw] := xD.of hD rfl
      refine W.eq (g2 := F0 m 79 ls [.int q_5.1]) rfl ?_
      refine lv_istore_n (lv' := [(1, .int q_5.1), (0, .ref h)]) hx hb dX9_passes_79 rfl hl (by decide) rfl (fun ls hl => ?_)
      refine lv_iload_n hx hb dX9_passes_80 rfl (lv_at hl 0 rfl) ?_
      refine lv_if_le (tgt := 110) hx hb dX9_passes_81 (by decide) (fun c_6 => ?_) (fun c_6 => ?_)
      · exact x_wv (q_5.2, q_4.2.1, q_4.2.2.1, q_4.2.2.2.1, q_4.2.2.2.2) (by unfold sX9_passes; rw [← hq_1]; unfold sX9_passes_q_1; rw [if_neg c_2]; rw [if_pos c_3]; rw [← hq_4]; unfold sX9_passes_q_4; rw [← hq_5]; unfold sX9_passes_q_5; rw [if_pos c_6]; try rfl) rfl hx hb hr hlk hS hP (hX.d rfl) [3, 5, 4, 0, 1, 2] rfl rfl (Nat.le_of_ble_eq_true rfl) (Nat.le_of_ble_eq_true rfl) dX9_passes_110
      · refine lv_aload_n hx hb dX9_passes_84 rfl (lv_at hl 1 rfl) ?_
        refine va_get (D := E.1) (ci := 9) (v := .ref nw) (C := RX9) (T := TX9) (N := 22) hx hb hts g_2 hown hE.1 hP 3 rfl rfl 1 (by decide) g_1 (fun _ h9 => h9) rfl dX9_passes_85 ?_
        refine lv_iconst (v := 1) hx hb dX9_passes_88 (by decide) ?_
        refine lv_iconst (v := 3) hx hb dX9_passes_89 (by decide) ?_
        refine x_iast hx hb hE.1 hP (hX.d rfl) hS 5 0 rfl rfl 1 (by decide) (by unfold vp_in; decide) dX9_passes_90 (fun H locs hP _ hS => ?_)
        have hP : va_P E.1 vwCl [(rr, .inl (E.2.1, 49, .inl q_4.2.2.1)), (ss, .inl (E.2.1, 49, .inl q_4.2.2.2.1)), (tr, .inl (E.2.1, 14, .inl q_4.2.2.2.2)), (h, .inr (9, [.int thrown, .ref nw, .ref td, .ref tx, .int length, .int textSize, .int start, .int next, .int token, .int value, .int error, .int errorAt, .int seen, .int q_4.2.1, .ref rr, .ref ss, .ref tr, .ref wa, .int undos, .ref ud, .ref sl, .ref sv])), (td, .inl (E.2.1, 48, .inl told)), (nw, .inl (E.2.1, 214, .inl (upd q_5.2 1 3)))] H := hP
        refine lv_aload_n hx hb dX9_passes_91 rfl (lv_at hl 1 rfl) ?_
        refine va_get (D := E.1) (ci := 9) (v := .ref nw) (C := RX9) (T := TX9) (N := 22) hx hb hts g_2 hown hE.1 hP 3 rfl rfl 1 (by decide) g_1 (fun _ h9 => h9) rfl dX9_passes_92 ?_
        refine lv_bipush (v := 7) hx hb dX9_passes_95 (by decide) ?_
        refine lv_dup2_11 hx hb dX9_passes_97 rfl rfl ?_
        refine x_iald hx hb hE.1 hP 5 0 rfl rfl 7 (by decide) (by unfold vp_in; decide) dX9_passes_98 ?_
        refine W.eq (g2 := F0 m 99 ls [.int (q_5.2 7), .int 7, .ref nw]) rfl ?_
        refine lv_iconst (v := 1) hx hb dX9_passes_99 (by decide) ?_
        refine lv_iadd hx hb dX9_passes_100 ?_
        refine x_iast hx hb hE.1 hP (hX.d rfl) hS 5 0 rfl rfl 7 (by decide) (by unfold vp_in; decide) dX9_passes_101 (fun H locs hP _ hS => ?_)
        have hP : va_P E.1 vwCl [(rr, .inl (E.2.1, 49, .inl q_4.2.2.1)), (ss, .inl (E.2.1, 49, .inl q_4.2.2.2.1)), (tr, .inl (E.2.1, 14, .inl q_4.2.2.2.2)), (h, .inr (9, [.int thrown, .ref nw, .ref td, .ref tx, .int length, .int textSize, .int start, .int next, .int token, .int value, .int error, .int errorAt, .int seen, .int q_4.2.1, .ref rr, .ref ss, .ref tr, .ref wa, .int undos, .ref ud, .ref sl, .ref sv])), (td, .inl (E.2.1, 48, .inl told)), (nw, .inl (E.2.1, 214, .inl (upd (upd q_5.2 1 3) 7 ((q_5.2 7) + 1))))] H := hP
        refine lv_aload_n hx hb dX9_passes_102 rfl (lv_at hl 1 rfl) ?_
        refine va_get (D := E.1) (ci := 9) (v := .ref nw) (C := RX9) (T := TX9) (N := 22) hx hb hts g_2 hown hE.1 hP 3 rfl rfl 1 (by decide) g_1 (fun _ h9 => h9) rfl dX9_passes_103 ?_
        refine lv_bipush (v := 9) hx hb dX9_passes_106 (by decide) ?_
        refine lv_iload_n hx hb dX9_passes_108 rfl (lv_at hl 0 rfl) ?_
        refine x_iast hx hb hE.1 hP (hX.d rfl) hS 5 0 rfl rfl 9 (by decide) (by unfold vp_in; decide) dX9_passes_109 (fun H locs hP _ hS => ?_)
        have hP : va_P E.1 vwCl [(rr, .inl (E.2.1, 49, .inl q_4.2.2.1)), (ss, .inl (E.2.1, 49, .inl q_4.2.2.2.1)), (tr, .inl (E.2.1, 14, .inl q_4.2.2.2.2)), (h, .inr (9, [.int thrown, .ref nw, .ref td, .ref tx, .int length, .int textSize, .int start, .int next, .int token, .int value, .int error, .int errorAt, .int seen, .int q_4.2.1, .ref rr, .ref ss, .ref tr, .ref wa, .int undos, .ref ud, .ref sl, .ref sv])), (td, .inl (E.2.1, 48, .inl told)), (nw, .inl (E.2.1, 214, .inl (upd (upd (upd q_5.2 1 3) 7 ((q_5.2 7) + 1)) 9 q_5.1)))] H := hP
        exact x_wv (upd (upd (upd q_5.2 1 3) 7 ((q_5.2 7) + 1)) 9 q_5.1, q_4.2.1, q_4.2.2.1, q_4.2.2.2.1, q_4.2.2.2.2) (by unfold sX9_passes; rw [← hq_1]; unfold sX9_passes_q_1; rw [if_neg c_2]; rw [if_pos c_3]; rw [← hq_4]; unfold sX9_passes_q_4; rw [← hq_5]; unfold sX9_passes_q_5; rw [if_neg c_6]; try rfl) rfl hx hb hr hlk hS hP (hX.d rfl) [3, 5, 4, 0, 1, 2] rfl rfl (Nat.le_of_ble_eq_true rfl) (Nat.le_of_ble_eq_true rfl) dX9_passes_110
    · refine lv_iconst (v := 1) hx hb dX9_passes_56 (by decide) ?_
      refine lv_goto (tgt := 61) hx hb dX9_passes_57 (by decide) ?_
      refine lv_isub hx hb dX9_passes_61 ?_
      refine x_iast hx hb hE.1 hP (hX.d rfl) hS 1 0 rfl rfl 4 (by decide) (by unfold vp_in; decide) dX9_passes_62 (fun H locs hP _ hS => ?_)
      have hP : va_P E.1 vwCl [(h, .inr (9, [.int thrown, .ref nw, .ref td, .ref tx, .int length, .int textSize, .int start, .int next, .int token, .int value, .int error, .int errorAt, .int seen, .int triedWith, .ref rr, .ref ss, .ref tr, .ref wa, .int undos, .ref ud, .ref sl, .ref sv])), (nw, .inl (E.2.1, 214, .inl (upd q_1 4 ((q_1 4) - 1)))), (td, .inl (E.2.1, 48, .inl told)), (rr, .inl (E.2.1, 49, .inl rs)), (ss, .inl (E.2.1, 49, .inl fs)), (tr, .inl (E.2.1, 14, .inl tri))] H := hP
      refine lv_aload_n hx hb dX9_passes_63 rfl (lv_at hl 0 rfl) ?_
      refine x_wV (wr := []) [] (kX9_switches l E h thrown nw td tx length textSize start next token value error errorAt seen triedWith rr ss tr wa undos ud sl sv (upd q_1 4 ((q_1 4) - 1)) told rs fs tri hw1 hw2 hc3 hc0 (by rw [hq_1]; show ¬ (upd (upd now 0 (now 0 + 1)) ((14 + ((now 0 + 1) - (now 0 + 1) / 200 * 200)).toNatClampNeg) 0) 0 < 0; rw [x_uK (x_K14 ht) (by decide)]; exact ht)) ⟨hx, hb, hml, hown, hts⟩ (cwV 0 hts gX9_passes_X9_switches rfl rfl rfl hdX9_switches ⟨Nat.le_of_ble_eq_true rfl, Nat.le_of_ble_eq_true rfl⟩) hE hP (hX.d rfl) hS hA [0, 1, 2, 3, 4, 5] [] rfl rfl rfl rfl (by decide) (ci := 9) (q0 := 0) rfl rfl rfl hl.1 rfl rfl (Nat.le_of_ble_eq_true rfl) dX9_passes_64 (Nat.le_of_ble_eq_true rfl) (Nat.le_of_ble_eq_true rfl) (fun q_7 H locs hq_7 hP hD hS => ?_)
      have hP : va_P E.1 vwCl [(h, .inr (9, [.int thrown, .ref nw, .ref td, .ref tx, .int length, .int textSize, .int start, .int next, .int token, .int value, .int error, .int errorAt, .int seen, .int q_7.2.1, .ref rr, .ref ss, .ref tr, .ref wa, .int undos, .ref ud, .ref sl, .ref sv])), (nw, .inl (E.2.1, 214, .inl q_7.1)), (td, .inl (E.2.1, 48, .inl told)), (rr, .inl (E.2.1, 49, .inl q_7.2.2.1)), (ss, .inl (E.2.1, 49, .inl q_7.2.2.2.1)), (tr, .inl (E.2.1, 14, .inl q_7.2.2.2.2))] H := hP
      have hX : xD A [h, nw, td, rr, ss, tr] := xD.of hD rfl
      refine W.eq (g2 := F0 m 67 ls []) rfl ?_
      refine lv_aload_n hx hb dX9_passes_67 rfl (lv_at hl 0 rfl) ?_
      refine lv_aload_n hx hb dX9_passes_68 rfl (lv_at hl 0 rfl) ?_
      refine va_get (D := E.1) (ci := 9) (v := .ref nw) (C := RX9) (T := TX9) (N := 22) hx hb hts g_2 hown hE.1 hP 0 rfl rfl 1 (by decide) g_1 (fun _ h9 => h9) rfl dX9_passes_69 ?_
      refine lv_aload_n hx hb dX9_passes_72 rfl (lv_at hl 0 rfl) ?_
      refine x_rV [] (kX9_pushNow l E h thrown nw td tx length textSize start next token value error errorAt seen q_7.2.1 rr ss tr wa undos ud sl sv q_7.1 told) ⟨hx, hb, hml, hown, hts⟩ (cwV 0 hts gX9_passes_X9_pushNow rfl rfl rfl hdX9_pushNow ⟨Nat.le_of_ble_eq_true rfl, Nat.le_of_ble_eq_true rfl⟩) hE hP (hX.d rfl) [0, 1, 2] rfl rfl (ci := 9) (q0 := 0) rfl rfl rfl hl.1 rfl rfl (Nat.le_of_ble_eq_true rfl) dX9_passes_73 (Nat.le_of_ble_eq_true rfl) (Nat.le_of_ble_eq_true rfl) ?_
      refine x_wV (wr := [(rr, .inl (E.2.1, 49, .inl q_7.2.2.1)), (ss, .inl (E.2.1, 49, .inl q_7.2.2.2.1)), (tr, .inl (E.2.1, 14, .inl q_7.2.2.2.2))]) [.ref nw, .int (sX9_pushNow q_7.1 told)] (kX9_step l E h thrown nw td tx length textSize start next token value error errorAt seen q_7.2.1 rr ss tr wa undos ud sl sv told nw 214 q_7.1 (sX9_pushNow q_7.1 told) (by decide) (by rw [x_swq hq_7 (by rw [hq_1]; show ¬ (upd (upd now 0 (now 0 + 1)) ((14 + ((now 0 + 1) - (now 0 + 1) / 200 * 200)).toNatClampNeg) 0) 0 < 0; rw [x_uK (x_K14 ht) (by decide)]; exact ht) 10 (by decide) (by decide) (by decide) (by decide)]; rw [hq_1]; show 0 ≤ (upd (upd now 0 (now 0 + 1)) ((14 + ((now 0 + 1) - (now 0 + 1) / 200 * 200)).toNatClampNeg) 0) 10; rw [x_uK (x_K14 ht) (by decide)]; exact ha0) (by rw [x_swq hq_7 (by rw [hq_1]; show ¬ (upd (upd now 0 (now 0 + 1)) ((14 + ((now 0 + 1) - (now 0 + 1) / 200 * 200)).toNatClampNeg) 0) 0 < 0; rw [x_uK (x_K14 ht) (by decide)]; exact ht) 10 (by decide) (by decide) (by decide) (by decide)]; rw [hq_1]; show (upd (upd now 0 (now 0 + 1)) ((14 + ((now 0 + 1) - (now 0 + 1) / 200 * 200)).toNatClampNeg) 0) 10 < 4096; rw [x_uK (x_K14 ht) (by decide)]; exact ha1) (by rw [x_swq hq_7 (by rw [hq_1]; show ¬ (upd (upd now 0 (now 0 + 1)) ((14 + ((now 0 + 1) - (now 0 + 1) / 200 * 200)).toNatClampNeg) 0) 0 < 0; rw [x_uK (x_K14 ht) (by decide)]; exact ht) 11 (by decide) (by decide) (by decide) (by decide)]; rw [hq_1]; show 0 ≤ (upd (upd now 0 (now 0 + 1)) ((14 + ((now 0 + 1) - (now 0 + 1) / 200 * 200)).toNatClampNeg) 0) 11; rw [x_uK (x_K14 ht) (by decide)]; exact hb0) (by rw [x_swq hq_7 (by rw [hq_1]; show ¬ (upd (upd now 0 (now 0 + 1)) ((14 + ((now 0 + 1) - (now 0 + 1) / 200 * 200)).toNatClampNeg) 0) 0 < 0; rw [x_uK (x_K14 ht) (by decide)]; exact ht) 11 (by decide) (by decide) (by decide) (by decide)]; rw [hq_1]; show (upd (upd now 0 (now 0 + 1)) ((14 + ((now 0 + 1) - (now 0 + 1) / 200 * 200)).toNatClampNeg) 0) 11 < 4096; rw [x_uK (x_K14 ht) (by decide)]; exact hb1)) ⟨hx, hb, hml, hown, hts⟩ (cwV 2 hts gX9_passes_X9_step rfl rfl rfl hdX9_step ⟨Nat.le_of_ble_eq_true rfl, Nat.le_of_ble_eq_true rfl⟩) hE hP (hX.d rfl) hS hA [0, 2, 1] [3, 4, 5] rfl rfl rfl rfl (by decide) (ci := 9) (q0 := 0) rfl rfl rfl hl.1 rfl rfl (Nat.le_of_ble_eq_true rfl) dX9_passes_76 (Nat.le_of_ble_eq_true rfl) (Nat.le_of_ble_eq_true rfl) (fun q_8 H locs hq_8 hP hD hS => ?_)
      have hP : va_P E.1 vwCl [(rr, .inl (E.2.1, 49, .inl q_7.2.2.1)), (ss, .inl (E.2.1, 49, .inl q_7.2.2.2.1)), (tr, .inl (E.2.1, 14, .inl q_7.2.2.2.2)), (h, .inr (9, [.int thrown, .ref nw, .ref td, .ref tx, .int length, .int textSize, .int start, .int next, .int token, .int value, .int error, .int errorAt, .int seen, .int q_7.2.1, .ref rr, .ref ss, .ref tr, .ref wa, .int undos, .ref ud, .ref sl, .ref sv])), (td, .inl (E.2.1, 48, .inl told)), (nw, .inl (E.2.1, 214, .inl q_8.2))] H := hP
      have hX : xD A [rr, ss, tr, h, td, nw] := xD.of hD rfl
      refine W.eq (g2 := F0 m 79 ls [.int q_8.1]) rfl ?_
      refine lv_istore_n (lv' := [(1, .int q_8.1), (0, .ref h)]) hx hb dX9_passes_79 rfl hl (by decide) rfl (fun ls hl => ?_)
      refine lv_iload_n hx hb dX9_passes_80 rfl (lv_at hl 0 rfl) ?_
      refine lv_if_le (tgt := 110) hx hb dX9_passes_81 (by decide) (fun c_9 => ?_) (fun c_9 => ?_)
      · exact x_wv (q_8.2, q_7.2.1, q_7.2.2.1, q_7.2.2.2.1, q_7.2.2.2.2) (by unfold sX9_passes; rw [← hq_1]; unfold sX9_passes_q_1; rw [if_neg c_2]; rw [if_neg c_3]; rw [← hq_7]; unfold sX9_passes_q_7; rw [← hq_8]; unfold sX9_passes_q_8; rw [if_pos c_9]; try rfl) rfl hx hb hr hlk hS hP (hX.d rfl) [3, 5, 4, 0, 1, 2] rfl rfl (Nat.le_of_ble_eq_true rfl) (Nat.le_of_ble_eq_true rfl) dX9_passes_110
      · refine lv_aload_n hx hb dX9_passes_84 rfl (lv_at hl 1 rfl) ?_
        refine va_get (D := E.1) (ci := 9) (v := .ref nw) (C := RX9) (T := TX9) (N := 22) hx hb hts g_2 hown hE.1 hP 3 rfl rfl 1 (by decide) g_1 (fun _ h9 => h9) rfl dX9_passes_85 ?_
        refine lv_iconst (v := 1) hx hb dX9_passes_88 (by decide) ?_
        refine lv_iconst (v := 3) hx hb dX9_passes_89 (by decide) ?_
        refine x_iast hx hb hE.1 hP (hX.d rfl) hS 5 0 rfl rfl 1 (by decide) (by unfold vp_in; decide) dX9_passes_90 (fun H locs hP _ hS => ?_)
        have hP : va_P E.1 vwCl [(rr, .inl (E.2.1, 49, .inl q_7.2.2.1)), (ss, .inl (E.2.1, 49, .inl q_7.2.2.2.1)), (tr, .inl (E.2.1, 14, .inl q_7.2.2.2.2)), (h, .inr (9, [.int thrown, .ref nw, .ref td, .ref tx, .int length, .int textSize, .int start, .int next, .int token, .int value, .int error, .int errorAt, .int seen, .int q_7.2.1, .ref rr, .ref ss, .ref tr, .ref wa, .int undos, .ref ud, .ref sl, .ref sv])), (td, .inl (E.2.1, 48, .inl told)), (nw, .inl (E.2.1, 214, .inl (upd q_8.2 1 3)))] H := hP
        refine lv_aload_n hx hb dX9_passes_91 rfl (lv_at hl 1 rfl) ?_
        refine va_get (D := E.1) (ci := 9) (v := .ref nw) (C := RX9) (T := TX9) (N := 22) hx hb hts g_2 hown hE.1 hP 3 rfl rfl 1 (by decide) g_1 (fun _ h9 => h9) rfl dX9_passes_92 ?_
        refine lv_bipush (v := 7) hx hb dX9_passes_95 (by decide) ?_
        refine lv_dup2_11 hx hb dX9_passes_97 rfl rfl ?_
        refine x_iald hx hb hE.1 hP 5 0 rfl rfl 7 (by decide) (by unfold vp_in; decide) dX9_passes_98 ?_
        refine W.eq (g2 := F0 m 99 ls [.int (q_8.2 7), .int 7, .ref nw]) rfl ?_
        refine lv_iconst (v := 1) hx hb dX9_passes_99 (by decide) ?_
        refine lv_iadd hx hb dX9_passes_100 ?_
        refine x_iast hx hb hE.1 hP (hX.d rfl) hS 5 0 rfl rfl 7 (by decide) (by unfold vp_in; decide) dX9_passes_101 (fun H locs hP _ hS => ?_)
        have hP : va_P E.1 vwCl [(rr, .inl (E.2.1, 49, .inl q_7.2.2.1)), (ss, .inl (E.2.1, 49, .inl q_7.2.2.2.1)), (tr, .inl (E.2.1, 14, .inl q_7.2.2.2.2)), (h, .inr (9, [.int thrown, .ref nw, .ref td, .ref tx, .int length, .int textSize, .int start, .int next, .int token, .int value, .int error, .int errorAt, .int seen, .int q_7.2.1, .ref rr, .ref ss, .ref tr, .ref wa, .int undos, .ref ud, .ref sl, .ref sv])), (td, .inl (E.2.1, 48, .inl told)), (nw, .inl (E.2.1, 214, .inl (upd (upd q_8.2 1 3) 7 ((q_8.2 7) + 1))))] H := hP
        refine lv_aload_n hx hb dX9_passes_102 rfl (lv_at hl 1 rfl) ?_
        refine va_get (D := E.1) (ci := 9) (v := .ref nw) (C := RX9) (T := TX9) (N := 22) hx hb hts g_2 hown hE.1 hP 3 rfl rfl 1 (by decide) g_1 (fun _ h9 => h9) rfl dX9_passes_103 ?_
        refine lv_bipush (v := 9) hx hb dX9_passes_106 (by decide) ?_
        refine lv_iload_n hx hb dX9_passes_108 rfl (lv_at hl 0 rfl) ?_
        refine x_iast hx hb hE.1 hP (hX.d rfl) hS 5 0 rfl rfl 9 (by decide) (by unfold vp_in; decide) dX9_passes_109 (fun H locs hP _ hS => ?_)
        have hP : va_P E.1 vwCl [(rr, .inl (E.2.1, 49, .inl q_7.2.2.1)), (ss, .inl (E.2.1, 49, .inl q_7.2.2.2.1)), (tr, .inl (E.2.1, 14, .inl q_7.2.2.2.2)), (h, .inr (9, [.int thrown, .ref nw, .ref td, .ref tx, .int length, .int textSize, .int start, .int next, .int token, .int value, .int error, .int errorAt, .int seen, .int q_7.2.1, .ref rr, .ref ss, .ref tr, .ref wa, .int undos, .ref ud, .ref sl, .ref sv])), (td, .inl (E.2.1, 48, .inl told)), (nw, .inl (E.2.1, 214, .inl (upd (upd (upd q_8.2 1 3) 7 ((q_8.2 7) + 1)) 9 q_8.1)))] H := hP
        exact x_wv (upd (upd (upd q_8.2 1 3) 7 ((q_8.2 7) + 1)) 9 q_8.1, q_7.2.1, q_7.2.2.1, q_7.2.2.2.1, q_7.2.2.2.2) (by unfold sX9_passes; rw [← hq_1]; unfold sX9_passes_q_1; rw [if_neg c_2]; rw [if_neg c_3]; rw [← hq_7]; unfold sX9_passes_q_7; rw [← hq_8]; unfold sX9_passes_q_8; rw [if_neg c_9]; try rfl) rfl hx hb hr hlk hS hP (hX.d rfl) [3, 5, 4, 0, 1, 2] rfl rfl (Nat.le_of_ble_eq_true rfl) (Nat.le_of_ble_eq_true rfl) dX9_passes_110
  · exact x_wv (q_1, triedWith, rs, fs, tri) (by unfold sX9_passes; rw [← hq_1]; unfold sX9_passes_q_1; rw [if_pos c_2]; try rfl) rfl hx hb hr hlk hS hP (hX.d rfl) [0, 1, 2, 3, 4, 5] rfl rfl (Nat.le_of_ble_eq_true rfl) (Nat.le_of_ble_eq_true rfl) dX9_passes_39
