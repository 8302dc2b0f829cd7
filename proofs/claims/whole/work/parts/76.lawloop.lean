/-! the law's loop -/
theorem lc_31 (v : Int32) : ∃ j : Nat, j < 32 ∧ v &&& 31 = nI j := by
  have h : (v &&& 31).toBitVec.toNat = v.toBitVec.toNat % 32 := by
    rw [Int32.toBitVec_and, BitVec.toNat_and]
    exact Nat.and_two_pow_sub_one_eq_mod _ 5
  have e1 : (v &&& 31).toInt = if 2 * (v &&& 31).toBitVec.toNat < 2 ^ 32 then ((v &&& 31).toBitVec.toNat : Int) else ((v &&& 31).toBitVec.toNat : Int) - ((2 ^ 32 : Nat) : Int) := BitVec.toInt_eq_toNat_cond _
  rw [if_pos (by omega)] at e1
  have h0 : ¬ (v &&& 31) < 0 := by rw [Int32.lt_iff_toInt_lt, Int32.toInt_zero]; omega
  obtain ⟨j, hj, ej⟩ := nI_of h0
  refine ⟨j, ?_, ej⟩
  rw [ej, nI_toInt hj] at e1
  rw [ej] at h
  omega
theorem lc_len {i L : Nat} (hL : L ≤ 3072) (hi : i ≤ L) (h : ¬ Int32.ofNat L - 6 < nI i) : i + 6 ≤ L := by
  have e0 : (Int32.ofNat L).toInt = (L : Int) := nI_toInt (n := L) (by omega)
  have e6 : (6 : Int32).toInt = 6 := by decide
  have e1 : (Int32.ofNat L - 6).toInt = (L : Int) - 6 := by rw [x_subI (by rw [e0, e6]; omega) (by rw [e0, e6]; omega), e0, e6]
  rw [Int32.lt_iff_toInt_lt, e1, nI_toInt (by omega)] at h
  omega
section LCL
variable {p : Program} {l : Launch} {e : Env} {s : State} {m : MethodId} {below : List Frame} {meth : Method} {c : Code} {E : XE} {Z : XZ} {cL : ClassId} {h h9 o b L : Nat} {u w : Nat → Nat} {xs : Nat → Int32}
set_option maxHeartbeats 4000000 in
set_option maxRecDepth 100000 in
theorem lc_next (C0 : xCx p s m c b L xs E Z cL) {i cells slots : Nat} (kk : xHd p l e s m below meth c E cL h h9 o b u w (nI (i + 6)) 23 cells slots) : xHd p l e s m below meth c E cL h h9 o b u w (nI i) 1686 cells slots := by
  obtain ⟨hx, hb, -⟩ := C0
  intro H locs ls hLW hl
  refine lv_iinc (v := nI (i + 6)) (lv' := [(4, .int (nI (i + 6))), (3, .ref o), (2, .ref h9), (1, .ref h), (0, .ref b)]) hx hb dL_law_1686 hl (k := 0) rfl ((congrArg (nI i + ·) (by decide +kernel : Int32.ofInt 6 = nI 6)).trans (nI_add i 6)) (by decide) rfl (fun ls hl => ?_)
  refine lv_goto (tgt := 23) hx hb dL_law_1689 (by decide) ?_
  exact kk H locs ls hLW hl
set_option maxHeartbeats 4000000 in
set_option maxRecDepth 100000 in
theorem lc_case (hst : l.stackTraces = false) (C0 : xCx p s m c b L xs E Z cL) {x4 x : Int32} {j cells slots : Nat} (hj : j < 32) (ex : x = nI j) (hc : cells + 1 ≤ 601024) (hs : slots + 6 ≤ 7293034) (i1 : vp_in (x4 + 1) L) (i2 : vp_in (x4 + 2) L) (i3 : vp_in (x4 + 3) L) (i4 : vp_in (x4 + 4) L) (i5 : vp_in (x4 + 5) L) (kk : xHd p l e s m below meth c E cL h h9 o b u w x4 1686 (cells + 1) (slots + 6)) {H : Heap} {locs : List Loc} {ls : Array Slot} (hLW : xLW s E cL h h9 o u w H locs) (hl : lv_has ls 8 [(4, .int x4), (3, .ref o), (2, .ref h9), (1, .ref h), (0, .ref b)]) : W p l e room_1 s m #[Value.ref b] below meth c H locs cells slots (lw_Z below #[Value.ref b] s) (F0 m 40 ls [.int x]) := by
  have hx := C0.1
  have hb := C0.2.1
  subst ex
  match j, hj with
  | 0, _ => exact lv_tableIn (off := 136) (tgt := 176) hx hb dL_law_40 (by decide +kernel) (by decide +kernel) (by decide +kernel) (by decide) (lc_append hst C0 hc hs i1 i2 i3 i4 i5 kk H locs ls hLW hl)
  | 1, _ => exact lv_tableIn (off := 209) (tgt := 249) hx hb dL_law_40 (by decide +kernel) (by decide +kernel) (by decide +kernel) (by decide) (lc_parse hst C0 hc hs i1 i2 i3 i4 i5 kk H locs ls hLW hl)
  | 2, _ => exact lv_tableIn (off := 265) (tgt := 305) hx hb dL_law_40 (by decide +kernel) (by decide +kernel) (by decide +kernel) (by decide) (lc_errorPosition hst C0 hc hs i1 i2 i3 i4 i5 kk H locs ls hLW hl)
  | 3, _ => exact lv_tableIn (off := 278) (tgt := 318) hx hb dL_law_40 (by decide +kernel) (by decide +kernel) (by decide +kernel) (by decide) (lc_sine hst C0 hc hs i1 i2 i3 i4 i5 kk H locs ls hLW hl)
  | 4, _ => exact lv_tableIn (off := 334) (tgt := 374) hx hb dL_law_40 (by decide +kernel) (by decide +kernel) (by decide +kernel) (by decide) (lc_lean hst C0 hc hs i1 i2 i3 i4 i5 kk H locs ls hLW hl)
  | 5, _ => exact lv_tableIn (off := 390) (tgt := 430) hx hb dL_law_40 (by decide +kernel) (by decide +kernel) (by decide +kernel) (by decide) (lc_state hst C0 hc hs i1 i2 i3 i4 i5 kk H locs ls hLW hl)
  | 6, _ => exact lv_tableIn (off := 446) (tgt := 486) hx hb dL_law_40 (by decide +kernel) (by decide +kernel) (by decide +kernel) (by decide) (lc_link hst C0 hc hs i1 i2 i3 i4 i5 kk H locs ls hLW hl)
  | 7, _ => exact lv_tableIn (off := 514) (tgt := 554) hx hb dL_law_40 (by decide +kernel) (by decide +kernel) (by decide +kernel) (by decide) (lc_energy hst C0 hc hs i1 i2 i3 i4 i5 kk H locs ls hLW hl)
  | 8, _ => exact lv_tableIn (off := 569) (tgt := 609) hx hb dL_law_40 (by decide +kernel) (by decide +kernel) (by decide +kernel) (by decide) (lc_target hst C0 hc hs i1 i2 i3 i4 i5 kk H locs ls hLW hl)
  | 9, _ => exact lv_tableIn (off := 625) (tgt := 665) hx hb dL_law_40 (by decide +kernel) (by decide +kernel) (by decide +kernel) (by decide) (lc_push hst C0 hc hs i1 i2 i3 i4 i5 kk H locs ls hLW hl)
  | 10, _ => exact lv_tableIn (off := 638) (tgt := 678) hx hb dL_law_40 (by decide +kernel) (by decide +kernel) (by decide +kernel) (by decide) (lc_stopReason hst C0 hc hs i1 i2 i3 i4 i5 kk H locs ls hLW hl)
  | 11, _ => exact lv_tableIn (off := 651) (tgt := 691) hx hb dL_law_40 (by decide +kernel) (by decide +kernel) (by decide +kernel) (by decide) (lc_switchesIn hst C0 hc hs i1 i2 i3 i4 i5 kk H locs ls hLW hl)
  | 12, _ => exact lv_tableIn (off := 707) (tgt := 747) hx hb dL_law_40 (by decide +kernel) (by decide +kernel) (by decide +kernel) (by decide) (lc_reason hst C0 hc hs i1 i2 i3 i4 i5 kk H locs ls hLW hl)
  | 13, _ => exact lv_tableIn (off := 775) (tgt := 815) hx hb dL_law_40 (by decide +kernel) (by decide +kernel) (by decide +kernel) (by decide) (lc_failedStep hst C0 hc hs i1 i2 i3 i4 i5 kk H locs ls hLW hl)
  | 14, _ => exact lv_tableIn (off := 843) (tgt := 883) hx hb dL_law_40 (by decide +kernel) (by decide +kernel) (by decide +kernel) (by decide) (lc_regionSize hst C0 hc hs i1 i2 i3 i4 i5 kk H locs ls hLW hl)
  | 15, _ => exact lv_tableIn (off := 856) (tgt := 896) hx hb dL_law_40 (by decide +kernel) (by decide +kernel) (by decide +kernel) (by decide) (lc_cellsWith hst C0 hc hs i1 i2 i3 i4 i5 kk H locs ls hLW hl)
  | 16, _ => exact lv_tableIn (off := 881) (tgt := 921) hx hb dL_law_40 (by decide +kernel) (by decide +kernel) (by decide +kernel) (by decide) (lc_cellOf hst C0 hc hs i1 i2 i3 i4 i5 kk H locs ls hLW hl)
  | 17, _ => exact lv_tableIn (off := 949) (tgt := 989) hx hb dL_law_40 (by decide +kernel) (by decide +kernel) (by decide +kernel) (by decide) (lc_isCapturable hst C0 hc hs i1 i2 i3 i4 i5 kk H locs ls hLW hl)
  | 18, _ => exact lv_tableIn (off := 962) (tgt := 1002) hx hb dL_law_40 (by decide +kernel) (by decide +kernel) (by decide +kernel) (by decide) (lc_ticksToBalance hst C0 hc hs i1 i2 i3 i4 i5 kk H locs ls hLW hl)
  | 19, _ => exact lv_tableIn (off := 1018) (tgt := 1058) hx hb dL_law_40 (by decide +kernel) (by decide +kernel) (by decide +kernel) (by decide) (lc_ticksToStop hst C0 hc hs i1 i2 i3 i4 i5 kk H locs ls hLW hl)
  | 20, _ => exact lv_tableIn (off := 1074) (tgt := 1114) hx hb dL_law_40 (by decide +kernel) (by decide +kernel) (by decide +kernel) (by decide) (lc_farthest hst C0 hc hs i1 i2 i3 i4 i5 kk H locs ls hLW hl)
  | 21, _ => exact lv_tableIn (off := 1130) (tgt := 1170) hx hb dL_law_40 (by decide +kernel) (by decide +kernel) (by decide +kernel) (by decide) (lc_linkAfter hst C0 hc hs i1 i2 i3 i4 i5 kk H locs ls hLW hl)
  | 22, _ => exact lv_tableIn (off := 1210) (tgt := 1250) hx hb dL_law_40 (by decide +kernel) (by decide +kernel) (by decide +kernel) (by decide) (lc_run hst C0 hc hs i1 i2 i3 i4 i5 kk H locs ls hLW hl)
  | 23, _ => exact lv_tableIn (off := 1266) (tgt := 1306) hx hb dL_law_40 (by decide +kernel) (by decide +kernel) (by decide +kernel) (by decide) (lc_setMode hst C0 hc hs i1 i2 i3 i4 i5 kk H locs ls hLW hl)
  | 24, _ => exact lv_tableIn (off := 1322) (tgt := 1362) hx hb dL_law_40 (by decide +kernel) (by decide +kernel) (by decide +kernel) (by decide) (lc_reset hst C0 hc hs i1 i2 i3 i4 i5 kk H locs ls hLW hl)
  | 25, _ => exact lv_tableIn (off := 1390) (tgt := 1430) hx hb dL_law_40 (by decide +kernel) (by decide +kernel) (by decide +kernel) (by decide) (lc_nudge hst C0 hc hs i1 i2 i3 i4 i5 kk H locs ls hLW hl)
  | 26, _ => exact lv_tableIn (off := 1458) (tgt := 1498) hx hb dL_law_40 (by decide +kernel) (by decide +kernel) (by decide +kernel) (by decide) (lc_setForce hst C0 hc hs i1 i2 i3 i4 i5 kk H locs ls hLW hl)
  | 27, _ => exact lv_tableIn (off := 1514) (tgt := 1554) hx hb dL_law_40 (by decide +kernel) (by decide +kernel) (by decide +kernel) (by decide) (lc_undo hst C0 hc hs i1 i2 i3 i4 i5 kk H locs ls hLW hl)
  | 28, _ => exact lv_tableIn (off := 1527) (tgt := 1567) hx hb dL_law_40 (by decide +kernel) (by decide +kernel) (by decide +kernel) (by decide) (lc_saveSnapshot hst C0 hc hs i1 i2 i3 i4 i5 kk H locs ls hLW hl)
  | 29, _ => exact lv_tableIn (off := 1590) (tgt := 1630) hx hb dL_law_40 (by decide +kernel) (by decide +kernel) (by decide +kernel) (by decide) (lc_restoreSnapshot hst C0 hc hs i1 i2 i3 i4 i5 kk H locs ls hLW hl)
  | 30, _ => exact lv_tableOut (tgt := 1686) hx hb dL_law_40 (Or.inr (by decide +kernel)) (by decide) (W.widen (k := cells + 1) (n := slots + 6) (Nat.le_add_right _ _) (Nat.le_add_right _ _) (kk H locs ls hLW hl))
  | 31, _ => exact lv_tableOut (tgt := 1686) hx hb dL_law_40 (Or.inr (by decide +kernel)) (by decide) (W.widen (k := cells + 1) (n := slots + 6) (Nat.le_add_right _ _) (Nat.le_add_right _ _) (kk H locs ls hLW hl))
  | j + 32, hj => exact absurd hj (by omega)
set_option maxHeartbeats 4000000 in
set_option maxRecDepth 100000 in
theorem lc_loop (hst : l.stackTraces = false) (hr : meth.sig.returnType = ret) (hlk : meth.locks = false) (C0 : xCx p s m c b L xs E Z cL) (hL : L ≤ 3072) : ∀ (n i cells slots : Nat), i ≤ L → L + 1 ≤ i + n → cells + n ≤ 601024 → slots + 6 * n ≤ 7293034 → xHd p l e s m below meth c E cL h h9 o b u w (nI i) 23 cells slots := by
  obtain ⟨hx, hb, hml, hown, hts, hX, hbl, hE, hZ, hThr, hLg⟩ := id C0
  have hbA : ¬ (fun q : Nat => s.heap.size ≤ q) b := Nat.not_le.mpr hbl
  intro n
  induction n with
  | zero =>
    intro i cells slots h1 h2
    exact absurd h2 (by omega)
  | succ n ih =>
    intro i cells slots hi hin hc hs H locs ls hLW hl
    have hLW0 := hLW
    obtain ⟨W8, W9, g, t, hI, hP, hD, hS⟩ := hLW
    refine lv_iload hx hb dL_law_23 (lv_at hl 0 rfl) ?_
    refine lv_aload_n hx hb dL_law_25 rfl (lv_at hl 4 rfl) ?_
    refine va_slen hx hb hX hbl hbA hS dL_law_26 ?_
    refine lv_bipush (v := 6) hx hb dL_law_27 (by decide) ?_
    refine lv_isub hx hb dL_law_29 ?_
    refine lv_icmp_gt (tgt := 1692) hx hb dL_law_30 (by decide) (fun c_1 => ?_) (fun c_1 => ?_)
    · refine lv_iconst (v := 1) hx hb dL_law_1692 (by decide) ?_
      refine va_forget (fun q hq => hS.2.2 q hq) ?_
      refine W.widen (k := 601024) (n := 7293034) (by omega) (by omega) ?_
      exact lw_ret hx hb hr hlk dL_law_1693
    · have hlt : i + 6 ≤ L := lc_len hL hi c_1
      have i0 : vp_in (nI i) L := vp_in_nI (by omega) (by omega)
      have i1 : vp_in (nI i + 1) L := by rw [show nI i + 1 = nI (i + 1) from nI_add i 1]; exact vp_in_nI (by omega) (by omega)
      have i2 : vp_in (nI i + 2) L := by rw [show nI i + 2 = nI (i + 2) from nI_add i 2]; exact vp_in_nI (by omega) (by omega)
      have i3 : vp_in (nI i + 3) L := by rw [show nI i + 3 = nI (i + 3) from nI_add i 3]; exact vp_in_nI (by omega) (by omega)
      have i4 : vp_in (nI i + 4) L := by rw [show nI i + 4 = nI (i + 4) from nI_add i 4]; exact vp_in_nI (by omega) (by omega)
      have i5 : vp_in (nI i + 5) L := by rw [show nI i + 5 = nI (i + 5) from nI_add i 5]; exact vp_in_nI (by omega) (by omega)
      refine lv_aload_n hx hb dL_law_33 rfl (lv_at hl 4 rfl) ?_
      refine lv_iload hx hb dL_law_34 (lv_at hl 0 rfl) ?_
      refine va_sld hx hb hX hbl hbA hS i0 dL_law_36 ?_
      refine lv_bipush (v := 31) hx hb dL_law_37 (by decide) ?_
      refine lv_iand hx hb dL_law_39 ?_
      obtain ⟨j, hj, ej⟩ := lc_31 (xs (nI i).toNatClampNeg)
      exact lc_case hst C0 hj ej (by omega) (by omega) i1 i2 i3 i4 i5 (lc_next C0 (ih (i + 6) (cells + 1) (slots + 6) hlt (by omega) (by omega) (by omega))) hLW0 hl
end LCL
