theorem x_pass (tw : Int32) (nw told rs fs tri : Nat → Int32) (ht : ¬ nw 0 + 1 < 0) (ha0 : 0 ≤ nw 10) (ha1 : nw 10 < 4096) (hb0 : 0 ≤ nw 11) (hb1 : nw 11 < 4096) : (sX9_passes tw nw told rs fs tri).1 0 = nw 0 + 1 ∧ 0 ≤ (sX9_passes tw nw told rs fs tri).1 10 ∧ (sX9_passes tw nw told rs fs tri).1 10 < 4096 ∧ 0 ≤ (sX9_passes tw nw told rs fs tri).1 11 ∧ (sX9_passes tw nw told rs fs tri).1 11 < 4096 := by
  have hK := x_K14 ht
  have e0 : ∀ v, upd (upd nw 0 (nw 0 + 1)) ((14 + ((nw 0 + 1) - (nw 0 + 1) / 200 * 200)).toNatClampNeg) v 0 = nw 0 + 1 := fun v => by rw [x_uK hK (by decide)]; rfl
  have e10 : ∀ v, upd (upd nw 0 (nw 0 + 1)) ((14 + ((nw 0 + 1) - (nw 0 + 1) / 200 * 200)).toNatClampNeg) v 10 = nw 10 := fun v => by rw [x_uK hK (by decide)]; rfl
  have e11 : ∀ v, upd (upd nw 0 (nw 0 + 1)) ((14 + ((nw 0 + 1) - (nw 0 + 1) / 200 * 200)).toNatClampNeg) v 11 = nw 11 := fun v => by rw [x_uK hK (by decide)]; rfl
  unfold sX9_passes
  generalize hq : upd (upd nw 0 (nw 0 + 1)) ((14 + ((nw 0 + 1) - (nw 0 + 1) / 200 * 200)).toNatClampNeg) 0 = q
  have f0 : q 0 = nw 0 + 1 := by rw [← hq]; exact e0 0
  have f10 : q 10 = nw 10 := by rw [← hq]; exact e10 0
  have f11 : q 11 = nw 11 := by rw [← hq]; exact e11 0
  have hsw : ∀ X : Int32, (sX9_switches tw (upd q 4 X) told rs fs tri).1 0 = nw 0 + 1 := fun X => by
    rw [x_sw tw (upd q 4 X) told rs fs tri 0 (by decide) (by decide) (by decide) (by decide) (by show ¬ q 0 < 0; rw [f0]; exact ht)]; exact f0
  have hst : ∀ (a b : Nat → Int32) (u : Int32), (sX9_step a b u).2 0 = b 0 := fun a b u => by
    unfold sX9_step
    repeat' split
    all_goals rfl
  unfold sX9_passes_q_1
  split
  · exact ⟨f0, by show 0 ≤ q 10; rw [f10]; exact ha0, by show q 10 < 4096; rw [f10]; exact ha1, by show 0 ≤ q 11; rw [f11]; exact hb0, by show q 11 < 4096; rw [f11]; exact hb1⟩
  · split
    · unfold sX9_passes_q_4 sX9_passes_q_5
      have a := x_step_ang told (sX9_switches tw (upd q 4 (q 4 - 0)) told rs fs tri).1 (sX9_pushNow (sX9_switches tw (upd q 4 (q 4 - 0)) told rs fs tri).1 told)
      split
      · exact ⟨(hst _ _ _).trans (hsw _), a⟩
      · exact ⟨(hst _ _ _).trans (hsw _), a⟩
    · unfold sX9_passes_q_7 sX9_passes_q_8
      have a := x_step_ang told (sX9_switches tw (upd q 4 (q 4 - 1)) told rs fs tri).1 (sX9_pushNow (sX9_switches tw (upd q 4 (q 4 - 1)) told rs fs tri).1 told)
      split
      · exact ⟨(hst _ _ _).trans (hsw _), a⟩
      · exact ⟨(hst _ _ _).trans (hsw _), a⟩
theorem x_lt4096 {a : Int32} (h : a ≤ 4095) : a < 4096 := by
  have k : (4095 : Int32).toInt = 4095 := by decide
  have k2 : (4096 : Int32).toInt = 4096 := by decide
  rw [Int32.le_iff_toInt_le, k] at h
  rw [Int32.lt_iff_toInt_lt, k2]
  omega
theorem x_cc01 (tw : Int32) (nw told rs fs tri : Nat → Int32) : (sX9_canCapture tw nw told rs fs tri).1 = 0 ∨ (sX9_canCapture tw nw told rs fs tri).1 = 1 := by
  unfold sX9_canCapture
  repeat' split
  all_goals try simp only [sX9_canCapture_q_1]
  repeat' split
  all_goals first | exact Or.inl rfl | exact Or.inr rfl

def sX9_copies_l3 (f : Nat → Int32) (at_ : Int32) (into : Int32) (many : Int32) (kont_3 : Int32 → (Nat → Int32) → (Nat → Int32)) : Nat → Int32 → (Nat → Int32) → (Nat → Int32)
  | 0, i_3, g_3 => kont_3 i_3 g_3
  | kk_3 + 1, i_3, g_3 =>
    if many ≤ i_3 then
      kont_3 i_3 g_3
    else
      sX9_copies_l3 f at_ into many kont_3 kk_3 (i_3 + 1) (upd g_3 ((into + i_3).toNatClampNeg) (f ((at_ + i_3).toNatClampNeg)))
theorem sX9_copies_l3_s (f : Nat → Int32) (at_ : Int32) (into : Int32) (many : Int32) (kont_3 : Int32 → (Nat → Int32) → (Nat → Int32)) (kk_3 : Nat) (i_3 : Int32) (g_3 : Nat → Int32) : sX9_copies_l3 f at_ into many kont_3 (kk_3 + 1) i_3 g_3 =
    if many ≤ i_3 then
      kont_3 i_3 g_3
    else
      sX9_copies_l3 f at_ into many kont_3 kk_3 (i_3 + 1) (upd g_3 ((into + i_3).toNatClampNeg) (f ((at_ + i_3).toNatClampNeg))) := rfl
def sX9_copies (f : Nat → Int32) (g : Nat → Int32) (at_ : Int32) (into : Int32) (many : Int32) : (Nat → Int32) :=
  sX9_copies_l3 f at_ into many (fun (i_3 : Int32) (g_3 : Nat → Int32) => g_3) (xMu many 0 + 1) 0 g
theorem hdX9_copies : yX9_copies.cls = RX9 ∧ yX9_copies.cls ≠ "java/lang/invoke/MethodHandle" ∧ yX9_copies.cls ≠ "java/lang/invoke/VarHandle" ∧ (parseMethodDescriptor yX9_copies.desc).map (fun d => d.parameters.length) = some 5 := by decide +kernel
set_option maxHeartbeats 4000000 in
set_option maxRecDepth 100000 in
theorem kX9_copies (l : Launch) (E : XE) (fro : Nat) (n : Nat) (f : Nat → Int32) (to : Nat) (k : Nat) (g : Nat → Int32) (at_ : Int32) (into : Int32) (many : Int32) (hAt : 0 ≤ at_.toInt) (hI : 0 ≤ into.toInt) (hF : at_.toInt + many.toInt ≤ n) (hT : into.toInt + many.toInt ≤ k) (hn0 : n < 2 ^ 31) (hn1 : k < 2 ^ 31) : xW (T := (Nat → Int32)) l yX9_copies wsX9_copies ({ frames := 0, cells := 0, slots := 0, locals := 0 }) E [(fro, .inl (E.2.1, n, .inl f)), (to, .inl (E.2.1, k, .inl g))] [.ref fro, .int at_, .ref to, .int into, .int many] (fun _ => none) (fun q => [(fro, .inl (E.2.1, n, .inl f)), (to, .inl (E.2.1, k, .inl q))]) (sX9_copies f g at_ into many) 0 0 := by
  refine xW.of (cc := cX9_copies) (maxL := 6) (ret := none) (by decide) rfl (Nat.le_of_ble_eq_true rfl) ?_
  intro p e s m args below meth c ls A hM hE hP hD hS hA hl
  obtain ⟨hx, hb, hr, hml, hts, hown, hlk, hnm⟩ := hM
  have hX : xD A [fro, to] := xD.of hD rfl
  have hl : lv_has ls 6 [(0, .ref fro), (1, .int at_), (2, .ref to), (3, .int into), (4, .int many)] := hl
  refine lv_iconst (v := 0) hx hb dX9_copies_0 (by decide) ?_
  refine lv_istore (lv' := [(5, .int 0), (0, .ref fro), (1, .int at_), (2, .ref to), (3, .int into), (4, .int many)]) hx hb dX9_copies_1 hl (by decide) rfl (fun ls hl => ?_)
  have ex_3 : ∀ (i_3 : Int32) (g_3 : Nat → Int32), (¬ i_3 < 0) → ∀ (H : Heap) (locs : List Loc), va_P E.1 vwCl [(fro, .inl (E.2.1, n, .inl f)), (to, .inl (E.2.1, k, .inl g_3))] H → va_S A s.heap H locs → ∀ (ls : Array Slot), lv_has ls 6 [(0, .ref fro), (1, .int at_), (2, .ref to), (3, .int into), (4, .int many), (5, .int i_3)] → (sX9_copies f g at_ into many) = (g_3) → W p l e ({ frames := 0, cells := 0, slots := 0, locals := 0 }) s m args below meth c H locs 0 0 (MQ below (xO (T := (Nat → Int32)) E A (fun _ => none) (fun q => [(fro, .inl (E.2.1, n, .inl f)), (to, .inl (E.2.1, k, .inl q))]) (sX9_copies f g at_ into many)) args s 0 0 A) (F0 m 28 ls []) := by
    intro i_3 g_3 hi0_3 H locs hP hS ls hl hx_3
    exact x_wv g_3 (by rw [hx_3]; try rfl) rfl hx hb hr hlk hS hP (hX.d rfl) [0, 1] rfl rfl (Nat.le_of_ble_eq_true rfl) (Nat.le_of_ble_eq_true rfl) dX9_copies_28
  have lp_3 : ∀ (kk_3 : Nat), ∀ (i_3 : Int32) (g_3 : Nat → Int32), (¬ i_3 < 0) → (xMu many i_3) < kk_3 → ∀ (H : Heap) (locs : List Loc), va_P E.1 vwCl [(fro, .inl (E.2.1, n, .inl f)), (to, .inl (E.2.1, k, .inl g_3))] H → va_S A s.heap H locs → ∀ (ls : Array Slot), lv_has ls 6 [(0, .ref fro), (1, .int at_), (2, .ref to), (3, .int into), (4, .int many), (5, .int i_3)] → (sX9_copies f g at_ into many) = sX9_copies_l3 f at_ into many (fun (i_3 : Int32) (g_3 : Nat → Int32) => g_3) kk_3 i_3 g_3 → W p l e ({ frames := 0, cells := 0, slots := 0, locals := 0 }) s m args below meth c H locs 0 0 (MQ below (xO (T := (Nat → Int32)) E A (fun _ => none) (fun q => [(fro, .inl (E.2.1, n, .inl f)), (to, .inl (E.2.1, k, .inl q))]) (sX9_copies f g at_ into many)) args s 0 0 A) (F0 m 3 ls []) := by
    intro kk_3
    induction kk_3 with
    | zero =>
      intro i_3 g_3 hi0_3 hmu
      exact absurd hmu (Nat.not_lt_zero _)
    | succ kk_3 ih_3 =>
      intro i_3 g_3 hi0_3 hmu H locs hP hS ls hl hlq_3
      refine lv_iload hx hb dX9_copies_3 (lv_at hl 5 rfl) ?_
      refine lv_iload hx hb dX9_copies_5 (lv_at hl 4 rfl) ?_
      refine lv_icmp_ge (tgt := 28) hx hb dX9_copies_7 (by decide) (fun c_1 => ?_) (fun c_1 => ?_)
      · exact ex_3 i_3 g_3 hi0_3 _ _ hP hS ls (lv_sub hl [0, 1, 2, 3, 4, 5] rfl) (by rw [hlq_3]; rw [sX9_copies_l3_s]; rw [if_pos c_1]; try rfl)
      · refine lv_aload_n hx hb dX9_copies_10 rfl (lv_at hl 2 rfl) ?_
        refine lv_iload_n hx hb dX9_copies_11 rfl (lv_at hl 3 rfl) ?_
        refine lv_iload hx hb dX9_copies_12 (lv_at hl 5 rfl) ?_
        refine lv_iadd hx hb dX9_copies_14 ?_
        refine lv_aload_n hx hb dX9_copies_15 rfl (lv_at hl 0 rfl) ?_
        refine lv_iload_n hx hb dX9_copies_16 rfl (lv_at hl 1 rfl) ?_
        refine lv_iload hx hb dX9_copies_17 (lv_at hl 5 rfl) ?_
        refine lv_iadd hx hb dX9_copies_19 ?_
        refine x_iald hx hb hE.1 hP 0 0 rfl rfl ((at_ + i_3).toNatClampNeg) rfl (x_in_add hi0_3 c_1 hAt hF hn0) dX9_copies_20 ?_
        refine x_iast hx hb hE.1 hP (hX.d rfl) hS 1 0 rfl rfl ((into + i_3).toNatClampNeg) rfl (x_in_add hi0_3 c_1 hI hT hn1) dX9_copies_21 (fun H locs hP _ hS => ?_)
        have hP : va_P E.1 vwCl [(fro, .inl (E.2.1, n, .inl f)), (to, .inl (E.2.1, k, .inl (upd g_3 ((into + i_3).toNatClampNeg) (f ((at_ + i_3).toNatClampNeg)))))] H := hP
        refine lv_iinc (v := i_3 + 1) (lv' := [(5, .int (i_3 + 1)), (0, .ref fro), (1, .int at_), (2, .ref to), (3, .int into), (4, .int many)]) hx hb dX9_copies_22 hl (k := 5) rfl (by rfl) (by decide) rfl (fun ls hl => ?_)
        refine lv_goto (tgt := 3) hx hb dX9_copies_25 (by decide) ?_
        exact ih_3 (i_3 + 1) (upd g_3 ((into + i_3).toNatClampNeg) (f ((at_ + i_3).toNatClampNeg))) (x_step hi0_3 c_1) (x_mu hi0_3 c_1 hmu) _ _ hP hS ls (lv_sub hl [1, 2, 3, 4, 5, 0] rfl) (by rw [hlq_3]; rw [sX9_copies_l3_s]; rw [if_neg c_1]; try rfl)
  exact lp_3 (xMu many 0 + 1) 0 g (by decide) (Nat.lt_succ_self _) _ _ hP hS ls (lv_sub hl [1, 2, 3, 4, 5, 0] rfl) (by unfold sX9_copies; try rfl)
def sX9_copies_same_l3 (at_ : Int32) (into : Int32) (many : Int32) (kont_3 : Int32 → (Nat → Int32) → (Nat → Int32)) : Nat → Int32 → (Nat → Int32) → (Nat → Int32)
  | 0, i_3, g_3 => kont_3 i_3 g_3
  | kk_3 + 1, i_3, g_3 =>
    if many ≤ i_3 then
      kont_3 i_3 g_3
    else
      sX9_copies_same_l3 at_ into many kont_3 kk_3 (i_3 + 1) (upd g_3 ((into + i_3).toNatClampNeg) (g_3 ((at_ + i_3).toNatClampNeg)))
theorem sX9_copies_same_l3_s (at_ : Int32) (into : Int32) (many : Int32) (kont_3 : Int32 → (Nat → Int32) → (Nat → Int32)) (kk_3 : Nat) (i_3 : Int32) (g_3 : Nat → Int32) : sX9_copies_same_l3 at_ into many kont_3 (kk_3 + 1) i_3 g_3 =
    if many ≤ i_3 then
      kont_3 i_3 g_3
    else
      sX9_copies_same_l3 at_ into many kont_3 kk_3 (i_3 + 1) (upd g_3 ((into + i_3).toNatClampNeg) (g_3 ((at_ + i_3).toNatClampNeg))) := rfl
def sX9_copies_same (g : Nat → Int32) (at_ : Int32) (into : Int32) (many : Int32) : (Nat → Int32) :=
  sX9_copies_same_l3 at_ into many (fun (i_3 : Int32) (g_3 : Nat → Int32) => g_3) (xMu many 0 + 1) 0 g
set_option maxHeartbeats 4000000 in
set_option maxRecDepth 100000 in
theorem kX9_copies_same (l : Launch) (E : XE) (row : Nat) (n : Nat) (g : Nat → Int32) (at_ : Int32) (into : Int32) (many : Int32) (hAt : 0 ≤ at_.toInt) (hI : 0 ≤ into.toInt) (hF : at_.toInt + many.toInt ≤ n) (hT : into.toInt + many.toInt ≤ n) (hn0 : n < 2 ^ 31) : xW (T := (Nat → Int32)) l yX9_copies wsX9_copies ({ frames := 0, cells := 0, slots := 0, locals := 0 }) E [(row, .inl (E.2.1, n, .inl g))] [.ref row, .int at_, .ref row, .int into, .int many] (fun _ => none) (fun q => [(row, .inl (E.2.1, n, .inl q))]) (sX9_copies_same g at_ into many) 0 0 := by
  refine xW.of (cc := cX9_copies) (maxL := 6) (ret := none) (by decide) rfl (Nat.le_of_ble_eq_true rfl) ?_
  intro p e s m args below meth c ls A hM hE hP hD hS hA hl
  obtain ⟨hx, hb, hr, hml, hts, hown, hlk, hnm⟩ := hM
  have hX : xD A [row] := xD.of hD rfl
  have hl : lv_has ls 6 [(0, .ref row), (1, .int at_), (2, .ref row), (3, .int into), (4, .int many)] := hl
  refine lv_iconst (v := 0) hx hb dX9_copies_0 (by decide) ?_
  refine lv_istore (lv' := [(5, .int 0), (0, .ref row), (1, .int at_), (2, .ref row), (3, .int into), (4, .int many)]) hx hb dX9_copies_1 hl (by decide) rfl (fun ls hl => ?_)
  have ex_3 : ∀ (i_3 : Int32) (g_3 : Nat → Int32), (¬ i_3 < 0) → ∀ (H : Heap) (locs : List Loc), va_P E.1 vwCl [(row, .inl (E.2.1, n, .inl g_3))] H → va_S A s.heap H locs → ∀ (ls : Array Slot), lv_has ls 6 [(0, .ref row), (1, .int at_), (2, .ref row), (3, .int into), (4, .int many), (5, .int i_3)] → (sX9_copies_same g at_ into many) = (g_3) → W p l e ({ frames := 0, cells := 0, slots := 0, locals := 0 }) s m args below meth c H locs 0 0 (MQ below (xO (T := (Nat → Int32)) E A (fun _ => none) (fun q => [(row, .inl (E.2.1, n, .inl q))]) (sX9_copies_same g at_ into many)) args s 0 0 A) (F0 m 28 ls []) := by
    intro i_3 g_3 hi0_3 H locs hP hS ls hl hx_3
    exact x_wv g_3 (by rw [hx_3]; try rfl) rfl hx hb hr hlk hS hP (hX.d rfl) [0] rfl rfl (Nat.le_of_ble_eq_true rfl) (Nat.le_of_ble_eq_true rfl) dX9_copies_28
  have lp_3 : ∀ (kk_3 : Nat), ∀ (i_3 : Int32) (g_3 : Nat → Int32), (¬ i_3 < 0) → (xMu many i_3) < kk_3 → ∀ (H : Heap) (locs : List Loc), va_P E.1 vwCl [(row, .inl (E.2.1, n, .inl g_3))] H → va_S A s.heap H locs → ∀ (ls : Array Slot), lv_has ls 6 [(0, .ref row), (1, .int at_), (2, .ref row), (3, .int into), (4, .int many), (5, .int i_3)] → (sX9_copies_same g at_ into many) = sX9_copies_same_l3 at_ into many (fun (i_3 : Int32) (g_3 : Nat → Int32) => g_3) kk_3 i_3 g_3 → W p l e ({ frames := 0, cells := 0, slots := 0, locals := 0 }) s m args below meth c H locs 0 0 (MQ below (xO (T := (Nat → Int32)) E A (fun _ => none) (fun q => [(row, .inl (E.2.1, n, .inl q))]) (sX9_copies_same g at_ into many)) args s 0 0 A) (F0 m 3 ls []) := by
    intro kk_3
    induction kk_3 with
    | zero =>
      intro i_3 g_3 hi0_3 hmu
      exact absurd hmu (Nat.not_lt_zero _)
    | succ kk_3 ih_3 =>
      intro i_3 g_3 hi0_3 hmu H locs hP hS ls hl hlq_3
      refine lv_iload hx hb dX9_copies_3 (lv_at hl 5 rfl) ?_
      refine lv_iload hx hb dX9_copies_5 (lv_at hl 4 rfl) ?_
      refine lv_icmp_ge (tgt := 28) hx hb dX9_copies_7 (by decide) (fun c_1 => ?_) (fun c_1 => ?_)
      · exact ex_3 i_3 g_3 hi0_3 _ _ hP hS ls (lv_sub hl [0, 1, 2, 3, 4, 5] rfl) (by rw [hlq_3]; rw [sX9_copies_same_l3_s]; rw [if_pos c_1]; try rfl)
      · refine lv_aload_n hx hb dX9_copies_10 rfl (lv_at hl 2 rfl) ?_
        refine lv_iload_n hx hb dX9_copies_11 rfl (lv_at hl 3 rfl) ?_
        refine lv_iload hx hb dX9_copies_12 (lv_at hl 5 rfl) ?_
        refine lv_iadd hx hb dX9_copies_14 ?_
        refine lv_aload_n hx hb dX9_copies_15 rfl (lv_at hl 0 rfl) ?_
        refine lv_iload_n hx hb dX9_copies_16 rfl (lv_at hl 1 rfl) ?_
        refine lv_iload hx hb dX9_copies_17 (lv_at hl 5 rfl) ?_
        refine lv_iadd hx hb dX9_copies_19 ?_
        refine x_iald hx hb hE.1 hP 0 0 rfl rfl ((at_ + i_3).toNatClampNeg) rfl (x_in_add hi0_3 c_1 hAt hF hn0) dX9_copies_20 ?_
        refine x_iast hx hb hE.1 hP (hX.d rfl) hS 0 0 rfl rfl ((into + i_3).toNatClampNeg) rfl (x_in_add hi0_3 c_1 hI hT hn0) dX9_copies_21 (fun H locs hP _ hS => ?_)
        have hP : va_P E.1 vwCl [(row, .inl (E.2.1, n, .inl (upd g_3 ((into + i_3).toNatClampNeg) (g_3 ((at_ + i_3).toNatClampNeg)))))] H := hP
        refine lv_iinc (v := i_3 + 1) (lv' := [(5, .int (i_3 + 1)), (0, .ref row), (1, .int at_), (2, .ref row), (3, .int into), (4, .int many)]) hx hb dX9_copies_22 hl (k := 5) rfl (by rfl) (by decide) rfl (fun ls hl => ?_)
        refine lv_goto (tgt := 3) hx hb dX9_copies_25 (by decide) ?_
        exact ih_3 (i_3 + 1) (upd g_3 ((into + i_3).toNatClampNeg) (g_3 ((at_ + i_3).toNatClampNeg))) (x_step hi0_3 c_1) (x_mu hi0_3 c_1 hmu) _ _ hP hS ls (lv_sub hl [1, 2, 3, 4, 5, 0] rfl) (by rw [hlq_3]; rw [sX9_copies_same_l3_s]; rw [if_neg c_1]; try rfl)
  exact lp_3 (xMu many 0 + 1) 0 g (by decide) (Nat.lt_succ_self _) _ _ hP hS ls (lv_sub hl [1, 2, 3, 4, 5, 0] rfl) (by unfold sX9_copies_same; try rfl)
theorem x_slot {u : Int32} (h0 : 0 ≤ u) (h1 : u ≤ 10) (hn : ¬ u = 10) : 0 ≤ (214 * u).toInt ∧ (214 * u).toInt + (214 : Int32).toInt ≤ ((2140 : Nat) : Int) := by
  have k : (214 : Int32).toInt = 214 := by decide
  have k10 : (10 : Int32).toInt = 10 := by decide
  have h := lv_neT hn (a := 10) k10
  rw [Int32.le_iff_toInt_le, Int32.toInt_zero] at h0
  rw [Int32.le_iff_toInt_le, k10] at h1
  rw [x_mulI (by rw [k]; omega) (by rw [k]; omega), k]
  omega
theorem x_slot1 {u : Int32} (h0 : 0 ≤ u) (h1 : u ≤ 10) (hn : ¬ u = 0) : 0 ≤ (214 * (u - 1)).toInt ∧ (214 * (u - 1)).toInt + (214 : Int32).toInt ≤ ((2140 : Nat) : Int) := by
  have k : (214 : Int32).toInt = 214 := by decide
  have k1 : (1 : Int32).toInt = 1 := by decide
  have k10 : (10 : Int32).toInt = 10 := by decide
  have h := lv_neT hn (a := 0) (by decide)
  rw [Int32.le_iff_toInt_le, Int32.toInt_zero] at h0
  rw [Int32.le_iff_toInt_le, k10] at h1
  have e : (u - 1).toInt = u.toInt - 1 := by rw [x_subI (by rw [k1]; omega) (by rw [k1]; omega), k1]
  rw [x_mulI (by rw [k, e]; omega) (by rw [k, e]; omega), k, e]
  omega
theorem x_slot2 {u : Int32} (hc : ¬ sX9_within u 0 1 = 0) : u = 0 ∨ u = 1 := by
  obtain ⟨a, b⟩ := x_within hc
  have k1 : (1 : Int32).toInt = 1 := by decide
  rw [Int32.le_iff_toInt_le, Int32.toInt_zero] at a
  rw [Int32.le_iff_toInt_le, k1] at b
  rcases (show u.toInt = 0 ∨ u.toInt = 1 by omega) with h | h
  · exact Or.inl (Int32.toInt_inj.mp (by rw [h]; decide))
  · exact Or.inr (Int32.toInt_inj.mp (by rw [h]; decide))
theorem x_slot3 {u : Int32} (hc : ¬ sX9_within u 0 1 = 0) : vp_in u 2 ∧ 0 ≤ (214 * u).toInt ∧ (214 * u).toInt + (214 : Int32).toInt ≤ ((428 : Nat) : Int) := by
  rcases x_slot2 hc with rfl | rfl <;> exact ⟨by unfold vp_in; decide, by decide, by decide⟩
theorem x_nb {v : Int32} (h : v = 0 ∨ v = 1) : narrow .boolean (.int v) = .int v := by
  rcases h with rfl | rfl <;> rfl

def sX9_keeps_q_4 (undos : Int32) (now : Nat → Int32) (und : Nat → Int32) (q_3 : (Nat → Int32)) (q_4 : (Nat → Int32)) : Int32 × (Nat → Int32) :=
  ((undos - 1) + 1, q_4)
def sX9_keeps_q_3 (undos : Int32) (now : Nat → Int32) (und : Nat → Int32) (q_3 : (Nat → Int32)) : Int32 × (Nat → Int32) :=
  sX9_keeps_q_4 undos now und q_3 (sX9_copies now q_3 0 (214 * (undos - 1)) 214)
def sX9_keeps_q_2 (undos : Int32) (now : Nat → Int32) (und : Nat → Int32) (q_2 : (Nat → Int32)) : Int32 × (Nat → Int32) :=
  (undos + 1, q_2)
def sX9_keeps (undos : Int32) (now : Nat → Int32) (und : Nat → Int32) : Int32 × (Nat → Int32) :=
  if undos = 10 then
    sX9_keeps_q_3 undos now und (sX9_copies_same und 214 0 (214 * (undos - 1)))
  else
    sX9_keeps_q_2 undos now und (sX9_copies now und 0 (214 * undos) 214)
theorem hdX9_keeps : yX9_keeps.cls = RX9 ∧ yX9_keeps.cls ≠ "java/lang/invoke/MethodHandle" ∧ yX9_keeps.cls ≠ "java/lang/invoke/VarHandle" ∧ (parseMethodDescriptor yX9_keeps.desc).map (fun d => d.parameters.length) = some 0 := by decide +kernel
set_option maxHeartbeats 4000000 in
set_option maxRecDepth 100000 in
theorem kX9_keeps (l : Launch) (E : XE) (h : Nat) (thrown : Int32) (nw : Nat) (td : Nat) (tx : Nat) (length : Int32) (textSize : Int32) (start : Int32) (next : Int32) (token : Int32) (value : Int32) (error : Int32) (errorAt : Int32) (seen : Int32) (triedWith : Int32) (rr : Nat) (ss : Nat) (tr : Nat) (wa : Nat) (undos : Int32) (ud : Nat) (sl : Nat) (sv : Nat) (now : Nat → Int32) (und : Nat → Int32) (hu0 : 0 ≤ undos) (hu1 : undos ≤ 10) : xW (T := Int32 × (Nat → Int32)) l yX9_keeps wsX9_keeps ({ frames := 1, cells := 0, slots := 0, locals := 25 }) E [(h, .inr (9, [.int thrown, .ref nw, .ref td, .ref tx, .int length, .int textSize, .int start, .int next, .int token, .int value, .int error, .int errorAt, .int seen, .int triedWith, .ref rr, .ref ss, .ref tr, .ref wa, .int undos, .ref ud, .ref sl, .ref sv])), (nw, .inl (E.2.1, 214, .inl now)), (ud, .inl (E.2.1, 2140, .inl und))] [.ref h] (fun _ => none) (fun q => [(h, .inr (9, [.int thrown, .ref nw, .ref td, .ref tx, .int length, .int textSize, .int start, .int next, .int token, .int value, .int error, .int errorAt, .int seen, .int triedWith, .ref rr, .ref ss, .ref tr, .ref wa, .int q.1, .ref ud, .ref sl, .ref sv])), (nw, .inl (E.2.1, 214, .inl now)), (ud, .inl (E.2.1, 2140, .inl q.2))]) (sX9_keeps undos now und) 0 0 := by
  refine xW.of (cc := cX9_keeps) (maxL := 1) (ret := none) (by decide) rfl (Nat.le_of_ble_eq_true rfl) ?_
  intro p e s m args below meth c ls A hM hE hP hD hS hA hl
  obtain ⟨hx, hb, hr, hml, hts, hown, hlk, hnm⟩ := hM
  have g_1 : (Cond.fieldLink RX9 163 "RailPendulumModel" "undos" "I").before args s = true := hts (Cond.fieldLink RX9 163 "RailPendulumModel" "undos" "I") (by decide +kernel)
  have g_2 : ∀ w ∈ wsX90, w ∈ wsX9_keeps := by decide +kernel
  have g_3 : (Cond.fieldLink RX9 7 "RailPendulumModel" "now" "[I").before args s = true := hts (Cond.fieldLink RX9 7 "RailPendulumModel" "now" "[I") (by decide +kernel)
  have g_4 : (Cond.fieldLink RX9 36 "RailPendulumModel" "undo" "[I").before args s = true := hts (Cond.fieldLink RX9 36 "RailPendulumModel" "undo" "[I") (by decide +kernel)
  have hX : xD A [h, nw, ud] := xD.of hD rfl
  have hl : lv_has ls 1 [(0, .ref h)] := hl
  refine lv_aload_n hx hb dX9_keeps_0 rfl (lv_at hl 0 rfl) ?_
  refine va_get (D := E.1) (ci := 9) (v := .int undos) (C := RX9) (T := TX9) (N := 22) hx hb hts g_2 hown hE.1 hP 0 rfl rfl 18 (by decide) g_1 (fun _ h9 => h9) rfl dX9_keeps_1 ?_
  refine lv_bipush (v := 10) hx hb dX9_keeps_4 (by decide) ?_
  refine lv_icmp_ne (tgt := 42) hx hb dX9_keeps_6 (by decide) (fun c_1 => ?_) (fun c_1 => ?_)
  · refine lv_aload_n hx hb dX9_keeps_42 rfl (lv_at hl 0 rfl) ?_
    refine va_get (D := E.1) (ci := 9) (v := .ref nw) (C := RX9) (T := TX9) (N := 22) hx hb hts g_2 hown hE.1 hP 0 rfl rfl 1 (by decide) g_3 (fun _ h9 => h9) rfl dX9_keeps_43 ?_
    refine lv_iconst (v := 0) hx hb dX9_keeps_46 (by decide) ?_
    refine lv_aload_n hx hb dX9_keeps_47 rfl (lv_at hl 0 rfl) ?_
    refine va_get (D := E.1) (ci := 9) (v := .ref ud) (C := RX9) (T := TX9) (N := 22) hx hb hts g_2 hown hE.1 hP 0 rfl rfl 19 (by decide) g_4 (fun _ h9 => h9) rfl dX9_keeps_48 ?_
    refine lv_sipush (v := 214) hx hb dX9_keeps_51 (by decide) ?_
    refine lv_aload_n hx hb dX9_keeps_54 rfl (lv_at hl 0 rfl) ?_
    refine va_get (D := E.1) (ci := 9) (v := .int undos) (C := RX9) (T := TX9) (N := 22) hx hb hts g_2 hown hE.1 hP 0 rfl rfl 18 (by decide) g_1 (fun _ h9 => h9) rfl dX9_keeps_55 ?_
    refine lv_imul hx hb dX9_keeps_58 ?_
    refine lv_sipush (v := 214) hx hb dX9_keeps_59 (by decide) ?_
    refine x_wS (wr := [(h, .inr (9, [.int thrown, .ref nw, .ref td, .ref tx, .int length, .int textSize, .int start, .int next, .int token, .int value, .int error, .int errorAt, .int seen, .int triedWith, .ref rr, .ref ss, .ref tr, .ref wa, .int undos, .ref ud, .ref sl, .ref sv]))]) [.ref nw, .int 0, .ref ud, .int (214 * undos), .int 214] (kX9_copies l E nw 214 now ud 2140 und 0 (214 * undos) 214 (by decide) (x_slot hu0 hu1 c_1).1 (by decide) (x_slot hu0 hu1 c_1).2 (by decide) (by decide)) ⟨hx, hb, hml, hown, hts⟩ (va_cwS 5 hts gX9_keeps_X9_copies rfl rfl rfl hdX9_copies.2 ⟨Nat.le_of_ble_eq_true rfl, Nat.le_of_ble_eq_true rfl⟩) hE hP (hX.d rfl) hS hA [1, 2] [0] rfl rfl rfl rfl (by decide) hl.1 rfl rfl (Nat.le_of_ble_eq_true rfl) dX9_keeps_62 (Nat.le_of_ble_eq_true rfl) (Nat.le_of_ble_eq_true rfl) (fun q_2 H locs hq_2 hP hD hS => ?_)
    have hP : va_P E.1 vwCl [(h, .inr (9, [.int thrown, .ref nw, .ref td, .ref tx, .int length, .int textSize, .int start, .int next, .int token, .int value, .int error, .int errorAt, .int seen, .int triedWith, .ref rr, .ref ss, .ref tr, .ref wa, .int undos, .ref ud, .ref sl, .ref sv])), (nw, .inl (E.2.1, 214, .inl now)), (ud, .inl (E.2.1, 2140, .inl q_2))] H := hP
    have hX : xD A [h, nw, ud] := xD.of hD rfl
    refine W.eq (g2 := F0 m 65 ls []) rfl ?_
    refine lv_aload_n hx hb dX9_keeps_65 rfl (lv_at hl 0 rfl) ?_
    refine lv_dup hx hb dX9_keeps_66 rfl ?_
    refine va_get (D := E.1) (ci := 9) (v := .int undos) (C := RX9) (T := TX9) (N := 22) hx hb hts g_2 hown hE.1 hP 0 rfl rfl 18 (by decide) g_1 (fun _ h9 => h9) rfl dX9_keeps_67 ?_
    refine lv_iconst (v := 1) hx hb dX9_keeps_70 (by decide) ?_
    refine lv_iadd hx hb dX9_keeps_71 ?_
    refine va_put (D := E.1) (ci := 9) (v := .int (undos + 1)) (ty := .int) (C := RX9) (T := TX9) (N := 22) hx hb hts g_2 tyX9 tyX9_ok nmX9 hown hE.1 hP (hX.d rfl) hS 0 rfl rfl 18 (by decide) g_1 (fun _ h9 => h9) rfl (by decide +kernel) rfl rfl (Nat.le_of_ble_eq_true rfl) dX9_keeps_72 (fun H locs hP _ hS => ?_)
    have hP : va_P E.1 vwCl [(h, .inr (9, [.int thrown, .ref nw, .ref td, .ref tx, .int length, .int textSize, .int start, .int next, .int token, .int value, .int error, .int errorAt, .int seen, .int triedWith, .ref rr, .ref ss, .ref tr, .ref wa, .int (undos + 1), .ref ud, .ref sl, .ref sv])), (nw, .inl (E.2.1, 214, .inl now)), (ud, .inl (E.2.1, 2140, .inl q_2))] H := hP
    exact x_wv (undos + 1, q_2) (by unfold sX9_keeps; rw [if_neg c_1]; rw [← hq_2]; unfold sX9_keeps_q_2; try rfl) rfl hx hb hr hlk hS hP (hX.d rfl) [0, 1, 2] rfl rfl (Nat.le_of_ble_eq_true rfl) (Nat.le_of_ble_eq_true rfl) dX9_keeps_75
  · refine lv_aload_n hx hb dX9_keeps_9 rfl (lv_at hl 0 rfl) ?_
    refine lv_dup hx hb dX9_keeps_10 rfl ?_
    refine va_get (D := E.1) (ci := 9) (v := .int undos) (C := RX9) (T := TX9) (N := 22) hx hb hts g_2 hown hE.1 hP 0 rfl rfl 18 (by decide) g_1 (fun _ h9 => h9) rfl dX9_keeps_11 ?_
    refine lv_iconst (v := 1) hx hb dX9_keeps_14 (by decide) ?_
    refine lv_isub hx hb dX9_keeps_15 ?_
    refine va_put (D := E.1) (ci := 9) (v := .int (undos - 1)) (ty := .int) (C := RX9) (T := TX9) (N := 22) hx hb hts g_2 tyX9 tyX9_ok nmX9 hown hE.1 hP (hX.d rfl) hS 0 rfl rfl 18 (by decide) g_1 (fun _ h9 => h9) rfl (by decide +kernel) rfl rfl (Nat.le_of_ble_eq_true rfl) dX9_keeps_16 (fun H locs hP _ hS => ?_)
    have hP : va_P E.1 vwCl [(h, .inr (9, [.int thrown, .ref nw, .ref td, .ref tx, .int length, .int textSize, .int start, .int next, .int token, .int value, .int error, .int errorAt, .int seen, .int triedWith, .ref rr, .ref ss, .ref tr, .ref wa, .int (undos - 1), .ref ud, .ref sl, .ref sv])), (nw, .inl (E.2.1, 214, .inl now)), (ud, .inl (E.2.1, 2140, .inl und))] H := hP
    refine lv_aload_n hx hb dX9_keeps_19 rfl (lv_at hl 0 rfl) ?_
    refine va_get (D := E.1) (ci := 9) (v := .ref ud) (C := RX9) (T := TX9) (N := 22) hx hb hts g_2 hown hE.1 hP 0 rfl rfl 19 (by decide) g_4 (fun _ h9 => h9) rfl dX9_keeps_20 ?_
    refine lv_sipush (v := 214) hx hb dX9_keeps_23 (by decide) ?_
    refine lv_aload_n hx hb dX9_keeps_26 rfl (lv_at hl 0 rfl) ?_
    refine va_get (D := E.1) (ci := 9) (v := .ref ud) (C := RX9) (T := TX9) (N := 22) hx hb hts g_2 hown hE.1 hP 0 rfl rfl 19 (by decide) g_4 (fun _ h9 => h9) rfl dX9_keeps_27 ?_
    refine lv_iconst (v := 0) hx hb dX9_keeps_30 (by decide) ?_
    refine lv_sipush (v := 214) hx hb dX9_keeps_31 (by decide) ?_
    refine lv_aload_n hx hb dX9_keeps_34 rfl (lv_at hl 0 rfl) ?_
    refine va_get (D := E.1) (ci := 9) (v := .int (undos - 1)) (C := RX9) (T := TX9) (N := 22) hx hb hts g_2 hown hE.1 hP 0 rfl rfl 18 (by decide) g_1 (fun _ h9 => h9) rfl dX9_keeps_35 ?_
    refine lv_imul hx hb dX9_keeps_38 ?_
    refine x_wS (wr := [(h, .inr (9, [.int thrown, .ref nw, .ref td, .ref tx, .int length, .int textSize, .int start, .int next, .int token, .int value, .int error, .int errorAt, .int seen, .int triedWith, .ref rr, .ref ss, .ref tr, .ref wa, .int (undos - 1), .ref ud, .ref sl, .ref sv])), (nw, .inl (E.2.1, 214, .inl now))]) [.ref ud, .int 214, .ref ud, .int 0, .int (214 * (undos - 1))] (kX9_copies_same l E ud 2140 und 214 0 (214 * (undos - 1)) (by first | decide | (rw [c_1]; decide)) (by first | decide | (rw [c_1]; decide)) (by first | decide | (rw [c_1]; decide)) (by first | decide | (rw [c_1]; decide)) (by decide)) ⟨hx, hb, hml, hown, hts⟩ (va_cwS 5 hts gX9_keeps_X9_copies rfl rfl rfl hdX9_copies.2 ⟨Nat.le_of_ble_eq_true rfl, Nat.le_of_ble_eq_true rfl⟩) hE hP (hX.d rfl) hS hA [2] [0, 1] rfl rfl rfl rfl (by decide) hl.1 rfl rfl (Nat.le_of_ble_eq_true rfl) dX9_keeps_39 (Nat.le_of_ble_eq_true rfl) (Nat.le_of_ble_eq_true rfl) (fun q_3 H locs hq_3 hP hD hS => ?_)
    have hP : va_P E.1 vwCl [(h, .inr (9, [.int thrown, .ref nw, .ref td, .ref tx, .int length, .int textSize, .int start, .int next, .int token, .int value, .int error, .int errorAt, .int seen, .int triedWith, .ref rr, .ref ss, .ref tr, .ref wa, .int (undos - 1), .ref ud, .ref sl, .ref sv])), (nw, .inl (E.2.1, 214, .inl now)), (ud, .inl (E.2.1, 2140, .inl q_3))] H := hP
    have hX : xD A [h, nw, ud] := xD.of hD rfl
    refine W.eq (g2 := F0 m 42 ls []) rfl ?_
    refine lv_aload_n hx hb dX9_keeps_42 rfl (lv_at hl 0 rfl) ?_
    refine va_get (D := E.1) (ci := 9) (v := .ref nw) (C := RX9) (T := TX9) (N := 22) hx hb hts g_2 hown hE.1 hP 0 rfl rfl 1 (by decide) g_3 (fun _ h9 => h9) rfl dX9_keeps_43 ?_
    refine lv_iconst (v := 0) hx hb dX9_keeps_46 (by decide) ?_
    refine lv_aload_n hx hb dX9_keeps_47 rfl (lv_at hl 0 rfl) ?_
    refine va_get (D := E.1) (ci := 9) (v := .ref ud) (C := RX9) (T := TX9) (N := 22) hx hb hts g_2 hown hE.1 hP 0 rfl rfl 19 (by decide) g_4 (fun _ h9 => h9) rfl dX9_keeps_48 ?_
    refine lv_sipush (v := 214) hx hb dX9_keeps_51 (by decide) ?_
    refine lv_aload_n hx hb dX9_keeps_54 rfl (lv_at hl 0 rfl) ?_
    refine va_get (D := E.1) (ci := 9) (v := .int (undos - 1)) (C := RX9) (T := TX9) (N := 22) hx hb hts g_2 hown hE.1 hP 0 rfl rfl 18 (by decide) g_1 (fun _ h9 => h9) rfl dX9_keeps_55 ?_
    refine lv_imul hx hb dX9_keeps_58 ?_
    refine lv_sipush (v := 214) hx hb dX9_keeps_59 (by decide) ?_
    refine x_wS (wr := [(h, .inr (9, [.int thrown, .ref nw, .ref td, .ref tx, .int length, .int textSize, .int start, .int next, .int token, .int value, .int error, .int errorAt, .int seen, .int triedWith, .ref rr, .ref ss, .ref tr, .ref wa, .int (undos - 1), .ref ud, .ref sl, .ref sv]))]) [.ref nw, .int 0, .ref ud, .int (214 * (undos - 1)), .int 214] (kX9_copies l E nw 214 now ud 2140 q_3 0 (214 * (undos - 1)) 214 (by decide) (by first | decide | (rw [c_1]; decide)) (by decide) (by first | decide | (rw [c_1]; decide)) (by decide) (by decide)) ⟨hx, hb, hml, hown, hts⟩ (va_cwS 5 hts gX9_keeps_X9_copies rfl rfl rfl hdX9_copies.2 ⟨Nat.le_of_ble_eq_true rfl, Nat.le_of_ble_eq_true rfl⟩) hE hP (hX.d rfl) hS hA [1, 2] [0] rfl rfl rfl rfl (by decide) hl.1 rfl rfl (Nat.le_of_ble_eq_true rfl) dX9_keeps_62 (Nat.le_of_ble_eq_true rfl) (Nat.le_of_ble_eq_true rfl) (fun q_4 H locs hq_4 hP hD hS => ?_)
    have hP : va_P E.1 vwCl [(h, .inr (9, [.int thrown, .ref nw, .ref td, .ref tx, .int length, .int textSize, .int start, .int next, .int token, .int value, .int error, .int errorAt, .int seen, .int triedWith, .ref rr, .ref ss, .ref tr, .ref wa, .int (undos - 1), .ref ud, .ref sl, .ref sv])), (nw, .inl (E.2.1, 214, .inl now)), (ud, .inl (E.2.1, 2140, .inl q_4))] H := hP
    have hX : xD A [h, nw, ud] := xD.of hD rfl
    refine W.eq (g2 := F0 m 65 ls []) rfl ?_
    refine lv_aload_n hx hb dX9_keeps_65 rfl (lv_at hl 0 rfl) ?_
    refine lv_dup hx hb dX9_keeps_66 rfl ?_
    refine va_get (D := E.1) (ci := 9) (v := .int (undos - 1)) (C := RX9) (T := TX9) (N := 22) hx hb hts g_2 hown hE.1 hP 0 rfl rfl 18 (by decide) g_1 (fun _ h9 => h9) rfl dX9_keeps_67 ?_
    refine lv_iconst (v := 1) hx hb dX9_keeps_70 (by decide) ?_
    refine lv_iadd hx hb dX9_keeps_71 ?_
    refine va_put (D := E.1) (ci := 9) (v := .int ((undos - 1) + 1)) (ty := .int) (C := RX9) (T := TX9) (N := 22) hx hb hts g_2 tyX9 tyX9_ok nmX9 hown hE.1 hP (hX.d rfl) hS 0 rfl rfl 18 (by decide) g_1 (fun _ h9 => h9) rfl (by decide +kernel) rfl rfl (Nat.le_of_ble_eq_true rfl) dX9_keeps_72 (fun H locs hP _ hS => ?_)
    have hP : va_P E.1 vwCl [(h, .inr (9, [.int thrown, .ref nw, .ref td, .ref tx, .int length, .int textSize, .int start, .int next, .int token, .int value, .int error, .int errorAt, .int seen, .int triedWith, .ref rr, .ref ss, .ref tr, .ref wa, .int ((undos - 1) + 1), .ref ud, .ref sl, .ref sv])), (nw, .inl (E.2.1, 214, .inl now)), (ud, .inl (E.2.1, 2140, .inl q_4))] H := hP
    exact x_wv ((undos - 1) + 1, q_4) (by unfold sX9_keeps; rw [if_pos c_1]; rw [← hq_3]; unfold sX9_keeps_q_3; rw [← hq_4]; unfold sX9_keeps_q_4; try rfl) rfl hx hb hr hlk hS hP (hX.d rfl) [0, 1, 2] rfl rfl (Nat.le_of_ble_eq_true rfl) (Nat.le_of_ble_eq_true rfl) dX9_keeps_75
set_option maxHeartbeats 4000000 in
set_option maxRecDepth 100000 in
theorem kX9_throwsIf_11 (l : Launch) (E : XE) (h : Nat) (nw : Nat) (td : Nat) (tx : Nat) (length : Int32) (textSize : Int32) (start : Int32) (next : Int32) (token : Int32) (value : Int32) (error : Int32) (errorAt : Int32) (seen : Int32) (triedWith : Int32) (rr : Nat) (ss : Nat) (tr : Nat) (wa : Nat) (undos : Int32) (ud : Nat) (sl : Nat) (sv : Nat) : xW (T := Unit) l yX9_throwsIf wsX9_throwsIf ({ frames := 0, cells := 0, slots := 0, locals := 0 }) E [(h, .inr (9, [.int 0, .ref nw, .ref td, .ref tx, .int length, .int textSize, .int start, .int next, .int token, .int value, .int error, .int errorAt, .int seen, .int triedWith, .ref rr, .ref ss, .ref tr, .ref wa, .int undos, .ref ud, .ref sl, .ref sv]))] [.ref h, .int 1, .int 1] (fun _ => some (.int 1)) (fun _ => [(h, .inr (9, [.int 1, .ref nw, .ref td, .ref tx, .int length, .int textSize, .int start, .int next, .int token, .int value, .int error, .int errorAt, .int seen, .int triedWith, .ref rr, .ref ss, .ref tr, .ref wa, .int undos, .ref ud, .ref sl, .ref sv]))]) (()) 0 0 := by
  refine xW.of (cc := cX9_throwsIf) (maxL := 3) (ret := (some .boolean)) (by decide) rfl (Nat.le_of_ble_eq_true rfl) ?_
  intro p e s m args below meth c ls A hM hE hP hD hS hA hl
  obtain ⟨hx, hb, hr, hml, hts, hown, hlk, hnm⟩ := hM
  have g_1 : (Cond.fieldLink RX9 55 "RailPendulumModel" "thrown" "I").before args s = true := hts (Cond.fieldLink RX9 55 "RailPendulumModel" "thrown" "I") (by decide +kernel)
  have g_2 : ∀ w ∈ wsX90, w ∈ wsX9_throwsIf := by decide +kernel
  have hX : xD A [h] := xD.of hD rfl
  have hl : lv_has ls 3 [(0, .ref h), (1, .int 1), (2, .int 1)] := hl
  refine lv_aload_n hx hb dX9_throwsIf_0 rfl (lv_at hl 0 rfl) ?_
  refine va_get (D := E.1) (ci := 9) (v := .int 0) (C := RX9) (T := TX9) (N := 22) hx hb hts g_2 hown hE.1 hP 0 rfl rfl 0 (by decide) g_1 (fun _ h9 => h9) rfl dX9_throwsIf_1 ?_
  refine lv_if_ne (tgt := 16) hx hb dX9_throwsIf_4 (by decide) (fun c_1 => absurd rfl c_1) (fun c_1 => ?_)
  refine lv_iload_n hx hb dX9_throwsIf_7 rfl (lv_at hl 1 rfl) ?_
  refine lv_if_eq (tgt := 16) hx hb dX9_throwsIf_8 (by decide) (fun c_2 => absurd c_2 (by decide)) (fun c_2 => ?_)
  refine lv_aload_n hx hb dX9_throwsIf_11 rfl (lv_at hl 0 rfl) ?_
  refine lv_iload_n hx hb dX9_throwsIf_12 rfl (lv_at hl 2 rfl) ?_
  refine va_put (D := E.1) (ci := 9) (v := .int 1) (ty := .int) (C := RX9) (T := TX9) (N := 22) hx hb hts g_2 tyX9 tyX9_ok nmX9 hown hE.1 hP (hX.d rfl) hS 0 rfl rfl 0 (by decide) g_1 (fun _ h9 => h9) rfl (by decide +kernel) rfl rfl (Nat.le_of_ble_eq_true rfl) dX9_throwsIf_13 (fun H locs hP _ hS => ?_)
  have hP : va_P E.1 vwCl [(h, .inr (9, [.int 1, .ref nw, .ref td, .ref tx, .int length, .int textSize, .int start, .int next, .int token, .int value, .int error, .int errorAt, .int seen, .int triedWith, .ref rr, .ref ss, .ref tr, .ref wa, .int undos, .ref ud, .ref sl, .ref sv]))] H := hP
  refine lv_aload_n hx hb dX9_throwsIf_16 rfl (lv_at hl 0 rfl) ?_
  refine va_get (D := E.1) (ci := 9) (v := .int 1) (C := RX9) (T := TX9) (N := 22) hx hb hts g_2 hown hE.1 hP 0 rfl rfl 0 (by decide) g_1 (fun _ h9 => h9) rfl dX9_throwsIf_17 ?_
  refine lv_if_le (tgt := 27) hx hb dX9_throwsIf_20 (by decide) (fun c_3 => absurd c_3 (by decide)) (fun c_3 => ?_)
  refine lv_iconst (v := 1) hx hb dX9_throwsIf_23 (by decide) ?_
  refine lv_goto (tgt := 28) hx hb dX9_throwsIf_24 (by decide) ?_
  exact x_wz () (by rfl) rfl hx hb hr hlk rfl hS hP (hX.d rfl) [0] rfl rfl (Nat.le_of_ble_eq_true rfl) (Nat.le_of_ble_eq_true rfl) dX9_throwsIf_28
set_option maxHeartbeats 4000000 in
set_option maxRecDepth 100000 in
theorem kX9_throwsIf_12 (l : Launch) (E : XE) (h : Nat) (nw : Nat) (td : Nat) (tx : Nat) (length : Int32) (textSize : Int32) (start : Int32) (next : Int32) (token : Int32) (value : Int32) (error : Int32) (errorAt : Int32) (seen : Int32) (triedWith : Int32) (rr : Nat) (ss : Nat) (tr : Nat) (wa : Nat) (undos : Int32) (ud : Nat) (sl : Nat) (sv : Nat) : xW (T := Unit) l yX9_throwsIf wsX9_throwsIf ({ frames := 0, cells := 0, slots := 0, locals := 0 }) E [(h, .inr (9, [.int 0, .ref nw, .ref td, .ref tx, .int length, .int textSize, .int start, .int next, .int token, .int value, .int error, .int errorAt, .int seen, .int triedWith, .ref rr, .ref ss, .ref tr, .ref wa, .int undos, .ref ud, .ref sl, .ref sv]))] [.ref h, .int 1, .int 2] (fun _ => some (.int 1)) (fun _ => [(h, .inr (9, [.int 2, .ref nw, .ref td, .ref tx, .int length, .int textSize, .int start, .int next, .int token, .int value, .int error, .int errorAt, .int seen, .int triedWith, .ref rr, .ref ss, .ref tr, .ref wa, .int undos, .ref ud, .ref sl, .ref sv]))]) (()) 0 0 := by
  refine xW.of (cc := cX9_throwsIf) (maxL := 3) (ret := (some .boolean)) (by decide) rfl (Nat.le_of_ble_eq_true rfl) ?_
  intro p e s m args below meth c ls A hM hE hP hD hS hA hl
  obtain ⟨hx, hb, hr, hml, hts, hown, hlk, hnm⟩ := hM
  have g_1 : (Cond.fieldLink RX9 55 "RailPendulumModel" "thrown" "I").before args s = true := hts (Cond.fieldLink RX9 55 "RailPendulumModel" "thrown" "I") (by decide +kernel)
  have g_2 : ∀ w ∈ wsX90, w ∈ wsX9_throwsIf := by decide +kernel
  have hX : xD A [h] := xD.of hD rfl
  have hl : lv_has ls 3 [(0, .ref h), (1, .int 1), (2, .int 2)] := hl
  refine lv_aload_n hx hb dX9_throwsIf_0 rfl (lv_at hl 0 rfl) ?_
  refine va_get (D := E.1) (ci := 9) (v := .int 0) (C := RX9) (T := TX9) (N := 22) hx hb hts g_2 hown hE.1 hP 0 rfl rfl 0 (by decide) g_1 (fun _ h9 => h9) rfl dX9_throwsIf_1 ?_
  refine lv_if_ne (tgt := 16) hx hb dX9_throwsIf_4 (by decide) (fun c_1 => absurd rfl c_1) (fun c_1 => ?_)
  refine lv_iload_n hx hb dX9_throwsIf_7 rfl (lv_at hl 1 rfl) ?_
  refine lv_if_eq (tgt := 16) hx hb dX9_throwsIf_8 (by decide) (fun c_2 => absurd c_2 (by decide)) (fun c_2 => ?_)
  refine lv_aload_n hx hb dX9_throwsIf_11 rfl (lv_at hl 0 rfl) ?_
  refine lv_iload_n hx hb dX9_throwsIf_12 rfl (lv_at hl 2 rfl) ?_
  refine va_put (D := E.1) (ci := 9) (v := .int 2) (ty := .int) (C := RX9) (T := TX9) (N := 22) hx hb hts g_2 tyX9 tyX9_ok nmX9 hown hE.1 hP (hX.d rfl) hS 0 rfl rfl 0 (by decide) g_1 (fun _ h9 => h9) rfl (by decide +kernel) rfl rfl (Nat.le_of_ble_eq_true rfl) dX9_throwsIf_13 (fun H locs hP _ hS => ?_)
  have hP : va_P E.1 vwCl [(h, .inr (9, [.int 2, .ref nw, .ref td, .ref tx, .int length, .int textSize, .int start, .int next, .int token, .int value, .int error, .int errorAt, .int seen, .int triedWith, .ref rr, .ref ss, .ref tr, .ref wa, .int undos, .ref ud, .ref sl, .ref sv]))] H := hP
  refine lv_aload_n hx hb dX9_throwsIf_16 rfl (lv_at hl 0 rfl) ?_
  refine va_get (D := E.1) (ci := 9) (v := .int 2) (C := RX9) (T := TX9) (N := 22) hx hb hts g_2 hown hE.1 hP 0 rfl rfl 0 (by decide) g_1 (fun _ h9 => h9) rfl dX9_throwsIf_17 ?_
  refine lv_if_le (tgt := 27) hx hb dX9_throwsIf_20 (by decide) (fun c_3 => absurd c_3 (by decide)) (fun c_3 => ?_)
  refine lv_iconst (v := 1) hx hb dX9_throwsIf_23 (by decide) ?_
  refine lv_goto (tgt := 28) hx hb dX9_throwsIf_24 (by decide) ?_
  exact x_wz () (by rfl) rfl hx hb hr hlk rfl hS hP (hX.d rfl) [0] rfl rfl (Nat.le_of_ble_eq_true rfl) (Nat.le_of_ble_eq_true rfl) dX9_throwsIf_28
set_option maxHeartbeats 4000000 in
set_option maxRecDepth 100000 in
theorem kX9_throwsIf_13 (l : Launch) (E : XE) (h : Nat) (nw : Nat) (td : Nat) (tx : Nat) (length : Int32) (textSize : Int32) (start : Int32) (next : Int32) (token : Int32) (value : Int32) (error : Int32) (errorAt : Int32) (seen : Int32) (triedWith : Int32) (rr : Nat) (ss : Nat) (tr : Nat) (wa : Nat) (undos : Int32) (ud : Nat) (sl : Nat) (sv : Nat) : xW (T := Unit) l yX9_throwsIf wsX9_throwsIf ({ frames := 0, cells := 0, slots := 0, locals := 0 }) E [(h, .inr (9, [.int 0, .ref nw, .ref td, .ref tx, .int length, .int textSize, .int start, .int next, .int token, .int value, .int error, .int errorAt, .int seen, .int triedWith, .ref rr, .ref ss, .ref tr, .ref wa, .int undos, .ref ud, .ref sl, .ref sv]))] [.ref h, .int 1, .int 3] (fun _ => some (.int 1)) (fun _ => [(h, .inr (9, [.int 3, .ref nw, .ref td, .ref tx, .int length, .int textSize, .int start, .int next, .int token, .int value, .int error, .int errorAt, .int seen, .int triedWith, .ref rr, .ref ss, .ref tr, .ref wa, .int undos, .ref ud, .ref sl, .ref sv]))]) (()) 0 0 := by
  refine xW.of (cc := cX9_throwsIf) (maxL := 3) (ret := (some .boolean)) (by decide) rfl (Nat.le_of_ble_eq_true rfl) ?_
  intro p e s m args below meth c ls A hM hE hP hD hS hA hl
  obtain ⟨hx, hb, hr, hml, hts, hown, hlk, hnm⟩ := hM
  have g_1 : (Cond.fieldLink RX9 55 "RailPendulumModel" "thrown" "I").before args s = true := hts (Cond.fieldLink RX9 55 "RailPendulumModel" "thrown" "I") (by decide +kernel)
  have g_2 : ∀ w ∈ wsX90, w ∈ wsX9_throwsIf := by decide +kernel
  have hX : xD A [h] := xD.of hD rfl
  have hl : lv_has ls 3 [(0, .ref h), (1, .int 1), (2, .int 3)] := hl
  refine lv_aload_n hx hb dX9_throwsIf_0 rfl (lv_at hl 0 rfl) ?_
  refine va_get (D := E.1) (ci := 9) (v := .int 0) (C := RX9) (T := TX9) (N := 22) hx hb hts g_2 hown hE.1 hP 0 rfl rfl 0 (by decide) g_1 (fun _ h9 => h9) rfl dX9_throwsIf_1 ?_
  refine lv_if_ne (tgt := 16) hx hb dX9_throwsIf_4 (by decide) (fun c_1 => absurd rfl c_1) (fun c_1 => ?_)
  refine lv_iload_n hx hb dX9_throwsIf_7 rfl (lv_at hl 1 rfl) ?_
  refine lv_if_eq (tgt := 16) hx hb dX9_throwsIf_8 (by decide) (fun c_2 => absurd c_2 (by decide)) (fun c_2 => ?_)
  refine lv_aload_n hx hb dX9_throwsIf_11 rfl (lv_at hl 0 rfl) ?_
  refine lv_iload_n hx hb dX9_throwsIf_12 rfl (lv_at hl 2 rfl) ?_
  refine va_put (D := E.1) (ci := 9) (v := .int 3) (ty := .int) (C := RX9) (T := TX9) (N := 22) hx hb hts g_2 tyX9 tyX9_ok nmX9 hown hE.1 hP (hX.d rfl) hS 0 rfl rfl 0 (by decide) g_1 (fun _ h9 => h9) rfl (by decide +kernel) rfl rfl (Nat.le_of_ble_eq_true rfl) dX9_throwsIf_13 (fun H locs hP _ hS => ?_)
  have hP : va_P E.1 vwCl [(h, .inr (9, [.int 3, .ref nw, .ref td, .ref tx, .int length, .int textSize, .int start, .int next, .int token, .int value, .int error, .int errorAt, .int seen, .int triedWith, .ref rr, .ref ss, .ref tr, .ref wa, .int undos, .ref ud, .ref sl, .ref sv]))] H := hP
  refine lv_aload_n hx hb dX9_throwsIf_16 rfl (lv_at hl 0 rfl) ?_
  refine va_get (D := E.1) (ci := 9) (v := .int 3) (C := RX9) (T := TX9) (N := 22) hx hb hts g_2 hown hE.1 hP 0 rfl rfl 0 (by decide) g_1 (fun _ h9 => h9) rfl dX9_throwsIf_17 ?_
  refine lv_if_le (tgt := 27) hx hb dX9_throwsIf_20 (by decide) (fun c_3 => absurd c_3 (by decide)) (fun c_3 => ?_)
  refine lv_iconst (v := 1) hx hb dX9_throwsIf_23 (by decide) ?_
  refine lv_goto (tgt := 28) hx hb dX9_throwsIf_24 (by decide) ?_
  exact x_wz () (by rfl) rfl hx hb hr hlk rfl hS hP (hX.d rfl) [0] rfl rfl (Nat.le_of_ble_eq_true rfl) (Nat.le_of_ble_eq_true rfl) dX9_throwsIf_28
set_option maxHeartbeats 4000000 in
set_option maxRecDepth 100000 in
theorem kX9_throwsIf_0 (l : Launch) (E : XE) (h : Nat) (nw : Nat) (td : Nat) (tx : Nat) (length : Int32) (textSize : Int32) (start : Int32) (next : Int32) (token : Int32) (value : Int32) (error : Int32) (errorAt : Int32) (seen : Int32) (triedWith : Int32) (rr : Nat) (ss : Nat) (tr : Nat) (wa : Nat) (undos : Int32) (ud : Nat) (sl : Nat) (sv : Nat) (kind : Int32) : xW (T := Unit) l yX9_throwsIf wsX9_throwsIf ({ frames := 0, cells := 0, slots := 0, locals := 0 }) E [(h, .inr (9, [.int 0, .ref nw, .ref td, .ref tx, .int length, .int textSize, .int start, .int next, .int token, .int value, .int error, .int errorAt, .int seen, .int triedWith, .ref rr, .ref ss, .ref tr, .ref wa, .int undos, .ref ud, .ref sl, .ref sv]))] [.ref h, .int 0, .int kind] (fun _ => some (.int 0)) (fun _ => [(h, .inr (9, [.int 0, .ref nw, .ref td, .ref tx, .int length, .int textSize, .int start, .int next, .int token, .int value, .int error, .int errorAt, .int seen, .int triedWith, .ref rr, .ref ss, .ref tr, .ref wa, .int undos, .ref ud, .ref sl, .ref sv]))]) (()) 0 0 := by
  refine xW.of (cc := cX9_throwsIf) (maxL := 3) (ret := (some .boolean)) (by decide) rfl (Nat.le_of_ble_eq_true rfl) ?_
  intro p e s m args below meth c ls A hM hE hP hD hS hA hl
  obtain ⟨hx, hb, hr, hml, hts, hown, hlk, hnm⟩ := hM
  have g_1 : (Cond.fieldLink RX9 55 "RailPendulumModel" "thrown" "I").before args s = true := hts (Cond.fieldLink RX9 55 "RailPendulumModel" "thrown" "I") (by decide +kernel)
  have g_2 : ∀ w ∈ wsX90, w ∈ wsX9_throwsIf := by decide +kernel
  have hX : xD A [h] := xD.of hD rfl
  have hl : lv_has ls 3 [(0, .ref h), (1, .int 0), (2, .int kind)] := hl
  refine lv_aload_n hx hb dX9_throwsIf_0 rfl (lv_at hl 0 rfl) ?_
  refine va_get (D := E.1) (ci := 9) (v := .int 0) (C := RX9) (T := TX9) (N := 22) hx hb hts g_2 hown hE.1 hP 0 rfl rfl 0 (by decide) g_1 (fun _ h9 => h9) rfl dX9_throwsIf_1 ?_
  refine lv_if_ne (tgt := 16) hx hb dX9_throwsIf_4 (by decide) (fun c_1 => absurd rfl c_1) (fun c_1 => ?_)
  refine lv_iload_n hx hb dX9_throwsIf_7 rfl (lv_at hl 1 rfl) ?_
  refine lv_if_eq (tgt := 16) hx hb dX9_throwsIf_8 (by decide) (fun c_2 => ?_) (fun c_2 => absurd (by decide) c_2)
  refine lv_aload_n hx hb dX9_throwsIf_16 rfl (lv_at hl 0 rfl) ?_
  refine va_get (D := E.1) (ci := 9) (v := .int 0) (C := RX9) (T := TX9) (N := 22) hx hb hts g_2 hown hE.1 hP 0 rfl rfl 0 (by decide) g_1 (fun _ h9 => h9) rfl dX9_throwsIf_17 ?_
  refine lv_if_le (tgt := 27) hx hb dX9_throwsIf_20 (by decide) (fun c_3 => ?_) (fun c_3 => absurd (by decide) c_3)
  refine lv_iconst (v := 0) hx hb dX9_throwsIf_27 (by decide) ?_
  exact x_wz () (by rfl) rfl hx hb hr hlk rfl hS hP (hX.d rfl) [0] rfl rfl (Nat.le_of_ble_eq_true rfl) (Nat.le_of_ble_eq_true rfl) dX9_throwsIf_28
theorem hdX9_noLink : yX9_noLink.cls = RX9 ∧ yX9_noLink.cls ≠ "java/lang/invoke/MethodHandle" ∧ yX9_noLink.cls ≠ "java/lang/invoke/VarHandle" ∧ (parseMethodDescriptor yX9_noLink.desc).map (fun d => d.parameters.length) = some 1 := by decide +kernel
set_option maxHeartbeats 4000000 in
set_option maxRecDepth 100000 in
theorem kX9_noLink_bad (l : Launch) (E : XE) (h : Nat) (thrown : Int32) (nw : Nat) (td : Nat) (tx : Nat) (length : Int32) (textSize : Int32) (start : Int32) (next : Int32) (token : Int32) (value : Int32) (error : Int32) (errorAt : Int32) (seen : Int32) (triedWith : Int32) (rr : Nat) (ss : Nat) (tr : Nat) (wa : Nat) (undos : Int32) (ud : Nat) (sl : Nat) (sv : Nat) (link : Int32) (hc : sX9_within link 1 2 = 0) : xW (T := Unit) l yX9_noLink wsX9_noLink ({ frames := 1, cells := 0, slots := 0, locals := 22 }) E [(h, .inr (9, [.int thrown, .ref nw, .ref td, .ref tx, .int length, .int textSize, .int start, .int next, .int token, .int value, .int error, .int errorAt, .int seen, .int triedWith, .ref rr, .ref ss, .ref tr, .ref wa, .int undos, .ref ud, .ref sl, .ref sv]))] [.ref h, .int link] (fun _ => some (.int 1)) (fun _ => [(h, .inr (9, [.int 1, .ref nw, .ref td, .ref tx, .int length, .int textSize, .int start, .int next, .int token, .int value, .int error, .int errorAt, .int seen, .int triedWith, .ref rr, .ref ss, .ref tr, .ref wa, .int undos, .ref ud, .ref sl, .ref sv]))]) (()) 0 0 := by
  refine xW.of (cc := cX9_noLink) (maxL := 2) (ret := (some .boolean)) (by decide) rfl (Nat.le_of_ble_eq_true rfl) ?_
  intro p e s m args below meth c ls A hM hE hP hD hS hA hl
  obtain ⟨hx, hb, hr, hml, hts, hown, hlk, hnm⟩ := hM
  have g_1 : (Cond.fieldLink RX9 55 "RailPendulumModel" "thrown" "I").before args s = true := hts (Cond.fieldLink RX9 55 "RailPendulumModel" "thrown" "I") (by decide +kernel)
  have g_2 : ∀ w ∈ wsX90, w ∈ wsX9_noLink := by decide +kernel
  have hX : xD A [h] := xD.of hD rfl
  have hl : lv_has ls 2 [(0, .ref h), (1, .int link)] := hl
  refine lv_aload_n hx hb dX9_noLink_0 rfl (lv_at hl 0 rfl) ?_
  refine lv_iconst (v := 0) hx hb dX9_noLink_1 (by decide) ?_
  refine va_put (D := E.1) (ci := 9) (v := .int 0) (ty := .int) (C := RX9) (T := TX9) (N := 22) hx hb hts g_2 tyX9 tyX9_ok nmX9 hown hE.1 hP (hX.d rfl) hS 0 rfl rfl 0 (by decide) g_1 (fun _ h9 => h9) rfl (by decide +kernel) rfl rfl (Nat.le_of_ble_eq_true rfl) dX9_noLink_2 (fun H locs hP _ hS => ?_)
  have hP : va_P E.1 vwCl [(h, .inr (9, [.int 0, .ref nw, .ref td, .ref tx, .int length, .int textSize, .int start, .int next, .int token, .int value, .int error, .int errorAt, .int seen, .int triedWith, .ref rr, .ref ss, .ref tr, .ref wa, .int undos, .ref ud, .ref sl, .ref sv]))] H := hP
  refine lv_aload_n hx hb dX9_noLink_5 rfl (lv_at hl 0 rfl) ?_
  refine lv_iload_n hx hb dX9_noLink_6 rfl (lv_at hl 1 rfl) ?_
  refine lv_iconst (v := 1) hx hb dX9_noLink_7 (by decide) ?_
  refine lv_iconst (v := 2) hx hb dX9_noLink_8 (by decide) ?_
  refine x_rS [.int link, .int 1, .int 2] (kX9_within l E link 1 2) ⟨hx, hb, hml, hown, hts⟩ (va_cwS 3 hts gX9_noLink_X9_within rfl rfl rfl hdX9_within.2 ⟨Nat.le_of_ble_eq_true rfl, Nat.le_of_ble_eq_true rfl⟩) hE hP (hX.d rfl) [] rfl rfl hl.1 rfl rfl (Nat.le_of_ble_eq_true rfl) dX9_noLink_9 (Nat.le_of_ble_eq_true rfl) (Nat.le_of_ble_eq_true rfl) ?_
  refine lv_if_ne (tgt := 19) hx hb dX9_noLink_12 (by decide) (fun c_1 => absurd hc c_1) (fun _ => ?_)
  refine lv_iconst (v := 1) hx hb dX9_noLink_15 (by decide) ?_
  refine lv_goto (tgt := 20) hx hb dX9_noLink_16 (by decide) ?_
  refine lv_iconst (v := 1) hx hb dX9_noLink_20 (by decide) ?_
  refine x_wV (wr := []) [.int 1, .int 1] (kX9_throwsIf_11 l E h nw td tx length textSize start next token value error errorAt seen triedWith rr ss tr wa undos ud sl sv) ⟨hx, hb, hml, hown, hts⟩ (cwV 2 hts gX9_noLink_X9_throwsIf rfl rfl rfl hdX9_throwsIf ⟨Nat.le_of_ble_eq_true rfl, Nat.le_of_ble_eq_true rfl⟩) hE hP (hX.d rfl) hS hA [0] [] rfl rfl rfl rfl (by decide) (ci := 9) (q0 := 0) rfl rfl rfl hl.1 rfl rfl (Nat.le_of_ble_eq_true rfl) dX9_noLink_21 (Nat.le_of_ble_eq_true rfl) (Nat.le_of_ble_eq_true rfl) (fun q_2 H locs hq_2 hP hD hS => ?_)
  have hP : va_P E.1 vwCl [(h, .inr (9, [.int 1, .ref nw, .ref td, .ref tx, .int length, .int textSize, .int start, .int next, .int token, .int value, .int error, .int errorAt, .int seen, .int triedWith, .ref rr, .ref ss, .ref tr, .ref wa, .int undos, .ref ud, .ref sl, .ref sv]))] H := hP
  have hX : xD A [h] := xD.of hD rfl
  refine W.eq (g2 := F0 m 24 ls [.int 1]) rfl ?_
  exact x_wz () (by rfl) rfl hx hb hr hlk rfl hS hP (hX.d rfl) [0] rfl rfl (Nat.le_of_ble_eq_true rfl) (Nat.le_of_ble_eq_true rfl) dX9_noLink_24
set_option maxHeartbeats 4000000 in
set_option maxRecDepth 100000 in
theorem kX9_noLink_ok (l : Launch) (E : XE) (h : Nat) (thrown : Int32) (nw : Nat) (td : Nat) (tx : Nat) (length : Int32) (textSize : Int32) (start : Int32) (next : Int32) (token : Int32) (value : Int32) (error : Int32) (errorAt : Int32) (seen : Int32) (triedWith : Int32) (rr : Nat) (ss : Nat) (tr : Nat) (wa : Nat) (undos : Int32) (ud : Nat) (sl : Nat) (sv : Nat) (link : Int32) (hc : ¬ sX9_within link 1 2 = 0) : xW (T := Unit) l yX9_noLink wsX9_noLink ({ frames := 1, cells := 0, slots := 0, locals := 22 }) E [(h, .inr (9, [.int thrown, .ref nw, .ref td, .ref tx, .int length, .int textSize, .int start, .int next, .int token, .int value, .int error, .int errorAt, .int seen, .int triedWith, .ref rr, .ref ss, .ref tr, .ref wa, .int undos, .ref ud, .ref sl, .ref sv]))] [.ref h, .int link] (fun _ => some (.int 0)) (fun _ => [(h, .inr (9, [.int 0, .ref nw, .ref td, .ref tx, .int length, .int textSize, .int start, .int next, .int token, .int value, .int error, .int errorAt, .int seen, .int triedWith, .ref rr, .ref ss, .ref tr, .ref wa, .int undos, .ref ud, .ref sl, .ref sv]))]) (()) 0 0 := by
  refine xW.of (cc := cX9_noLink) (maxL := 2) (ret := (some .boolean)) (by decide) rfl (Nat.le_of_ble_eq_true rfl) ?_
  intro p e s m args below meth c ls A hM hE hP hD hS hA hl
  obtain ⟨hx, hb, hr, hml, hts, hown, hlk, hnm⟩ := hM
  have g_1 : (Cond.fieldLink RX9 55 "RailPendulumModel" "thrown" "I").before args s = true := hts (Cond.fieldLink RX9 55 "RailPendulumModel" "thrown" "I") (by decide +kernel)
  have g_2 : ∀ w ∈ wsX90, w ∈ wsX9_noLink := by decide +kernel
  have hX : xD A [h] := xD.of hD rfl
  have hl : lv_has ls 2 [(0, .ref h), (1, .int link)] := hl
  refine lv_aload_n hx hb dX9_noLink_0 rfl (lv_at hl 0 rfl) ?_
  refine lv_iconst (v := 0) hx hb dX9_noLink_1 (by decide) ?_
  refine va_put (D := E.1) (ci := 9) (v := .int 0) (ty := .int) (C := RX9) (T := TX9) (N := 22) hx hb hts g_2 tyX9 tyX9_ok nmX9 hown hE.1 hP (hX.d rfl) hS 0 rfl rfl 0 (by decide) g_1 (fun _ h9 => h9) rfl (by decide +kernel) rfl rfl (Nat.le_of_ble_eq_true rfl) dX9_noLink_2 (fun H locs hP _ hS => ?_)
  have hP : va_P E.1 vwCl [(h, .inr (9, [.int 0, .ref nw, .ref td, .ref tx, .int length, .int textSize, .int start, .int next, .int token, .int value, .int error, .int errorAt, .int seen, .int triedWith, .ref rr, .ref ss, .ref tr, .ref wa, .int undos, .ref ud, .ref sl, .ref sv]))] H := hP
  refine lv_aload_n hx hb dX9_noLink_5 rfl (lv_at hl 0 rfl) ?_
  refine lv_iload_n hx hb dX9_noLink_6 rfl (lv_at hl 1 rfl) ?_
  refine lv_iconst (v := 1) hx hb dX9_noLink_7 (by decide) ?_
  refine lv_iconst (v := 2) hx hb dX9_noLink_8 (by decide) ?_
  refine x_rS [.int link, .int 1, .int 2] (kX9_within l E link 1 2) ⟨hx, hb, hml, hown, hts⟩ (va_cwS 3 hts gX9_noLink_X9_within rfl rfl rfl hdX9_within.2 ⟨Nat.le_of_ble_eq_true rfl, Nat.le_of_ble_eq_true rfl⟩) hE hP (hX.d rfl) [] rfl rfl hl.1 rfl rfl (Nat.le_of_ble_eq_true rfl) dX9_noLink_9 (Nat.le_of_ble_eq_true rfl) (Nat.le_of_ble_eq_true rfl) ?_
  refine lv_if_ne (tgt := 19) hx hb dX9_noLink_12 (by decide) (fun _ => ?_) (fun c_1 => absurd c_1 hc)
  refine lv_iconst (v := 0) hx hb dX9_noLink_19 (by decide) ?_
  refine lv_iconst (v := 1) hx hb dX9_noLink_20 (by decide) ?_
  refine x_wV (wr := []) [.int 0, .int 1] (kX9_throwsIf_0 l E h nw td tx length textSize start next token value error errorAt seen triedWith rr ss tr wa undos ud sl sv 1) ⟨hx, hb, hml, hown, hts⟩ (cwV 2 hts gX9_noLink_X9_throwsIf rfl rfl rfl hdX9_throwsIf ⟨Nat.le_of_ble_eq_true rfl, Nat.le_of_ble_eq_true rfl⟩) hE hP (hX.d rfl) hS hA [0] [] rfl rfl rfl rfl (by decide) (ci := 9) (q0 := 0) rfl rfl rfl hl.1 rfl rfl (Nat.le_of_ble_eq_true rfl) dX9_noLink_21 (Nat.le_of_ble_eq_true rfl) (Nat.le_of_ble_eq_true rfl) (fun q_2 H locs hq_2 hP hD hS => ?_)
  have hP : va_P E.1 vwCl [(h, .inr (9, [.int 0, .ref nw, .ref td, .ref tx, .int length, .int textSize, .int start, .int next, .int token, .int value, .int error, .int errorAt, .int seen, .int triedWith, .ref rr, .ref ss, .ref tr, .ref wa, .int undos, .ref ud, .ref sl, .ref sv]))] H := hP
  have hX : xD A [h] := xD.of hD rfl
  refine W.eq (g2 := F0 m 24 ls [.int 0]) rfl ?_
  exact x_wz () (by rfl) rfl hx hb hr hlk rfl hS hP (hX.d rfl) [0] rfl rfl (Nat.le_of_ble_eq_true rfl) (Nat.le_of_ble_eq_true rfl) dX9_noLink_24
theorem hdX9_noSlot : yX9_noSlot.cls = RX9 ∧ yX9_noSlot.cls ≠ "java/lang/invoke/MethodHandle" ∧ yX9_noSlot.cls ≠ "java/lang/invoke/VarHandle" ∧ (parseMethodDescriptor yX9_noSlot.desc).map (fun d => d.parameters.length) = some 1 := by decide +kernel
set_option maxHeartbeats 4000000 in
set_option maxRecDepth 100000 in
theorem kX9_noSlot_bad (l : Launch) (E : XE) (h : Nat) (thrown : Int32) (nw : Nat) (td : Nat) (tx : Nat) (length : Int32) (textSize : Int32) (start : Int32) (next : Int32) (token : Int32) (value : Int32) (error : Int32) (errorAt : Int32) (seen : Int32) (triedWith : Int32) (rr : Nat) (ss : Nat) (tr : Nat) (wa : Nat) (undos : Int32) (ud : Nat) (sl : Nat) (sv : Nat) (slot : Int32) (hc : sX9_within slot 0 1 = 0) : xW (T := Unit) l yX9_noSlot wsX9_noSlot ({ frames := 1, cells := 0, slots := 0, locals := 22 }) E [(h, .inr (9, [.int thrown, .ref nw, .ref td, .ref tx, .int length, .int textSize, .int start, .int next, .int token, .int value, .int error, .int errorAt, .int seen, .int triedWith, .ref rr, .ref ss, .ref tr, .ref wa, .int undos, .ref ud, .ref sl, .ref sv]))] [.ref h, .int slot] (fun _ => some (.int 1)) (fun _ => [(h, .inr (9, [.int 1, .ref nw, .ref td, .ref tx, .int length, .int textSize, .int start, .int next, .int token, .int value, .int error, .int errorAt, .int seen, .int triedWith, .ref rr, .ref ss, .ref tr, .ref wa, .int undos, .ref ud, .ref sl, .ref sv]))]) (()) 0 0 := by
  refine xW.of (cc := cX9_noSlot) (maxL := 2) (ret := (some .boolean)) (by decide) rfl (Nat.le_of_ble_eq_true rfl) ?_
  intro p e s m args below meth c ls A hM hE hP hD hS hA hl
  obtain ⟨hx, hb, hr, hml, hts, hown, hlk, hnm⟩ := hM
  have g_1 : (Cond.fieldLink RX9 55 "RailPendulumModel" "thrown" "I").before args s = true := hts (Cond.fieldLink RX9 55 "RailPendulumModel" "thrown" "I") (by decide +kernel)
  have g_2 : ∀ w ∈ wsX90, w ∈ wsX9_noSlot := by decide +kernel
  have hX : xD A [h] := xD.of hD rfl
  have hl : lv_has ls 2 [(0, .ref h), (1, .int slot)] := hl
  refine lv_aload_n hx hb dX9_noSlot_0 rfl (lv_at hl 0 rfl) ?_
  refine lv_iconst (v := 0) hx hb dX9_noSlot_1 (by decide) ?_
  refine va_put (D := E.1) (ci := 9) (v := .int 0) (ty := .int) (C := RX9) (T := TX9) (N := 22) hx hb hts g_2 tyX9 tyX9_ok nmX9 hown hE.1 hP (hX.d rfl) hS 0 rfl rfl 0 (by decide) g_1 (fun _ h9 => h9) rfl (by decide +kernel) rfl rfl (Nat.le_of_ble_eq_true rfl) dX9_noSlot_2 (fun H locs hP _ hS => ?_)
  have hP : va_P E.1 vwCl [(h, .inr (9, [.int 0, .ref nw, .ref td, .ref tx, .int length, .int textSize, .int start, .int next, .int token, .int value, .int error, .int errorAt, .int seen, .int triedWith, .ref rr, .ref ss, .ref tr, .ref wa, .int undos, .ref ud, .ref sl, .ref sv]))] H := hP
  refine lv_aload_n hx hb dX9_noSlot_5 rfl (lv_at hl 0 rfl) ?_
  refine lv_iload_n hx hb dX9_noSlot_6 rfl (lv_at hl 1 rfl) ?_
  refine lv_iconst (v := 0) hx hb dX9_noSlot_7 (by decide) ?_
  refine lv_iconst (v := 1) hx hb dX9_noSlot_8 (by decide) ?_
  refine x_rS [.int slot, .int 0, .int 1] (kX9_within l E slot 0 1) ⟨hx, hb, hml, hown, hts⟩ (va_cwS 3 hts gX9_noSlot_X9_within rfl rfl rfl hdX9_within.2 ⟨Nat.le_of_ble_eq_true rfl, Nat.le_of_ble_eq_true rfl⟩) hE hP (hX.d rfl) [] rfl rfl hl.1 rfl rfl (Nat.le_of_ble_eq_true rfl) dX9_noSlot_9 (Nat.le_of_ble_eq_true rfl) (Nat.le_of_ble_eq_true rfl) ?_
  refine lv_if_ne (tgt := 19) hx hb dX9_noSlot_12 (by decide) (fun c_1 => absurd hc c_1) (fun _ => ?_)
  refine lv_iconst (v := 1) hx hb dX9_noSlot_15 (by decide) ?_
  refine lv_goto (tgt := 20) hx hb dX9_noSlot_16 (by decide) ?_
  refine lv_iconst (v := 1) hx hb dX9_noSlot_20 (by decide) ?_
  refine x_wV (wr := []) [.int 1, .int 1] (kX9_throwsIf_11 l E h nw td tx length textSize start next token value error errorAt seen triedWith rr ss tr wa undos ud sl sv) ⟨hx, hb, hml, hown, hts⟩ (cwV 2 hts gX9_noSlot_X9_throwsIf rfl rfl rfl hdX9_throwsIf ⟨Nat.le_of_ble_eq_true rfl, Nat.le_of_ble_eq_true rfl⟩) hE hP (hX.d rfl) hS hA [0] [] rfl rfl rfl rfl (by decide) (ci := 9) (q0 := 0) rfl rfl rfl hl.1 rfl rfl (Nat.le_of_ble_eq_true rfl) dX9_noSlot_21 (Nat.le_of_ble_eq_true rfl) (Nat.le_of_ble_eq_true rfl) (fun q_2 H locs hq_2 hP hD hS => ?_)
  have hP : va_P E.1 vwCl [(h, .inr (9, [.int 1, .ref nw, .ref td, .ref tx, .int length, .int textSize, .int start, .int next, .int token, .int value, .int error, .int errorAt, .int seen, .int triedWith, .ref rr, .ref ss, .ref tr, .ref wa, .int undos, .ref ud, .ref sl, .ref sv]))] H := hP
  have hX : xD A [h] := xD.of hD rfl
  refine W.eq (g2 := F0 m 24 ls [.int 1]) rfl ?_
  exact x_wz () (by rfl) rfl hx hb hr hlk rfl hS hP (hX.d rfl) [0] rfl rfl (Nat.le_of_ble_eq_true rfl) (Nat.le_of_ble_eq_true rfl) dX9_noSlot_24
set_option maxHeartbeats 4000000 in
set_option maxRecDepth 100000 in
theorem kX9_noSlot_ok (l : Launch) (E : XE) (h : Nat) (thrown : Int32) (nw : Nat) (td : Nat) (tx : Nat) (length : Int32) (textSize : Int32) (start : Int32) (next : Int32) (token : Int32) (value : Int32) (error : Int32) (errorAt : Int32) (seen : Int32) (triedWith : Int32) (rr : Nat) (ss : Nat) (tr : Nat) (wa : Nat) (undos : Int32) (ud : Nat) (sl : Nat) (sv : Nat) (slot : Int32) (hc : ¬ sX9_within slot 0 1 = 0) : xW (T := Unit) l yX9_noSlot wsX9_noSlot ({ frames := 1, cells := 0, slots := 0, locals := 22 }) E [(h, .inr (9, [.int thrown, .ref nw, .ref td, .ref tx, .int length, .int textSize, .int start, .int next, .int token, .int value, .int error, .int errorAt, .int seen, .int triedWith, .ref rr, .ref ss, .ref tr, .ref wa, .int undos, .ref ud, .ref sl, .ref sv]))] [.ref h, .int slot] (fun _ => some (.int 0)) (fun _ => [(h, .inr (9, [.int 0, .ref nw, .ref td, .ref tx, .int length, .int textSize, .int start, .int next, .int token, .int value, .int error, .int errorAt, .int seen, .int triedWith, .ref rr, .ref ss, .ref tr, .ref wa, .int undos, .ref ud, .ref sl, .ref sv]))]) (()) 0 0 := by
  refine xW.of (cc := cX9_noSlot) (maxL := 2) (ret := (some .boolean)) (by decide) rfl (Nat.le_of_ble_eq_true rfl) ?_
  intro p e s m args below meth c ls A hM hE hP hD hS hA hl
  obtain ⟨hx, hb, hr, hml, hts, hown, hlk, hnm⟩ := hM
  have g_1 : (Cond.fieldLink RX9 55 "RailPendulumModel" "thrown" "I").before args s = true := hts (Cond.fieldLink RX9 55 "RailPendulumModel" "thrown" "I") (by decide +kernel)
  have g_2 : ∀ w ∈ wsX90, w ∈ wsX9_noSlot := by decide +kernel
  have hX : xD A [h] := xD.of hD rfl
  have hl : lv_has ls 2 [(0, .ref h), (1, .int slot)] := hl
  refine lv_aload_n hx hb dX9_noSlot_0 rfl (lv_at hl 0 rfl) ?_
  refine lv_iconst (v := 0) hx hb dX9_noSlot_1 (by decide) ?_
  refine va_put (D := E.1) (ci := 9) (v := .int 0) (ty := .int) (C := RX9) (T := TX9) (N := 22) hx hb hts g_2 tyX9 tyX9_ok nmX9 hown hE.1 hP (hX.d rfl) hS 0 rfl rfl 0 (by decide) g_1 (fun _ h9 => h9) rfl (by decide +kernel) rfl rfl (Nat.le_of_ble_eq_true rfl) dX9_noSlot_2 (fun H locs hP _ hS => ?_)
  have hP : va_P E.1 vwCl [(h, .inr (9, [.int 0, .ref nw, .ref td, .ref tx, .int length, .int textSize, .int start, .int next, .int token, .int value, .int error, .int errorAt, .int seen, .int triedWith, .ref rr, .ref ss, .ref tr, .ref wa, .int undos, .ref ud, .ref sl, .ref sv]))] H := hP
  refine lv_aload_n hx hb dX9_noSlot_5 rfl (lv_at hl 0 rfl) ?_
  refine lv_iload_n hx hb dX9_noSlot_6 rfl (lv_at hl 1 rfl) ?_
  refine lv_iconst (v := 0) hx hb dX9_noSlot_7 (by decide) ?_
  refine lv_iconst (v := 1) hx hb dX9_noSlot_8 (by decide) ?_
  refine x_rS [.int slot, .int 0, .int 1] (kX9_within l E slot 0 1) ⟨hx, hb, hml, hown, hts⟩ (va_cwS 3 hts gX9_noSlot_X9_within rfl rfl rfl hdX9_within.2 ⟨Nat.le_of_ble_eq_true rfl, Nat.le_of_ble_eq_true rfl⟩) hE hP (hX.d rfl) [] rfl rfl hl.1 rfl rfl (Nat.le_of_ble_eq_true rfl) dX9_noSlot_9 (Nat.le_of_ble_eq_true rfl) (Nat.le_of_ble_eq_true rfl) ?_
  refine lv_if_ne (tgt := 19) hx hb dX9_noSlot_12 (by decide) (fun _ => ?_) (fun c_1 => absurd c_1 hc)
  refine lv_iconst (v := 0) hx hb dX9_noSlot_19 (by decide) ?_
  refine lv_iconst (v := 1) hx hb dX9_noSlot_20 (by decide) ?_
  refine x_wV (wr := []) [.int 0, .int 1] (kX9_throwsIf_0 l E h nw td tx length textSize start next token value error errorAt seen triedWith rr ss tr wa undos ud sl sv 1) ⟨hx, hb, hml, hown, hts⟩ (cwV 2 hts gX9_noSlot_X9_throwsIf rfl rfl rfl hdX9_throwsIf ⟨Nat.le_of_ble_eq_true rfl, Nat.le_of_ble_eq_true rfl⟩) hE hP (hX.d rfl) hS hA [0] [] rfl rfl rfl rfl (by decide) (ci := 9) (q0 := 0) rfl rfl rfl hl.1 rfl rfl (Nat.le_of_ble_eq_true rfl) dX9_noSlot_21 (Nat.le_of_ble_eq_true rfl) (Nat.le_of_ble_eq_true rfl) (fun q_2 H locs hq_2 hP hD hS => ?_)
  have hP : va_P E.1 vwCl [(h, .inr (9, [.int 0, .ref nw, .ref td, .ref tx, .int length, .int textSize, .int start, .int next, .int token, .int value, .int error, .int errorAt, .int seen, .int triedWith, .ref rr, .ref ss, .ref tr, .ref wa, .int undos, .ref ud, .ref sl, .ref sv]))] H := hP
  have hX : xD A [h] := xD.of hD rfl
  refine W.eq (g2 := F0 m 24 ls [.int 0]) rfl ?_
  exact x_wz () (by rfl) rfl hx hb hr hlk rfl hS hP (hX.d rfl) [0] rfl rfl (Nat.le_of_ble_eq_true rfl) (Nat.le_of_ble_eq_true rfl) dX9_noSlot_24
def sX9_errorPosition (errorAt : Int32) : Int32 × Int32 :=
  (errorAt, 0)
theorem hdX9_errorPosition : yX9_errorPosition.cls = RX9 ∧ yX9_errorPosition.cls ≠ "java/lang/invoke/MethodHandle" ∧ yX9_errorPosition.cls ≠ "java/lang/invoke/VarHandle" ∧ (parseMethodDescriptor yX9_errorPosition.desc).map (fun d => d.parameters.length) = some 0 := by decide +kernel
set_option maxHeartbeats 4000000 in
set_option maxRecDepth 100000 in
theorem kX9_errorPosition (l : Launch) (E : XE) (h : Nat) (thrown : Int32) (nw : Nat) (td : Nat) (tx : Nat) (length : Int32) (textSize : Int32) (start : Int32) (next : Int32) (token : Int32) (value : Int32) (error : Int32) (errorAt : Int32) (seen : Int32) (triedWith : Int32) (rr : Nat) (ss : Nat) (tr : Nat) (wa : Nat) (undos : Int32) (ud : Nat) (sl : Nat) (sv : Nat) : xW (T := Int32 × Int32) l yX9_errorPosition wsX9_errorPosition ({ frames := 0, cells := 0, slots := 0, locals := 0 }) E [(h, .inr (9, [.int thrown, .ref nw, .ref td, .ref tx, .int length, .int textSize, .int start, .int next, .int token, .int value, .int error, .int errorAt, .int seen, .int triedWith, .ref rr, .ref ss, .ref tr, .ref wa, .int undos, .ref ud, .ref sl, .ref sv]))] [.ref h] (fun q => some (.int q.1)) (fun q => [(h, .inr (9, [.int q.2, .ref nw, .ref td, .ref tx, .int length, .int textSize, .int start, .int next, .int token, .int value, .int error, .int errorAt, .int seen, .int triedWith, .ref rr, .ref ss, .ref tr, .ref wa, .int undos, .ref ud, .ref sl, .ref sv]))]) (sX9_errorPosition errorAt) 0 0 := by
  refine xW.of (cc := cX9_errorPosition) (maxL := 1) (ret := (some .int)) (by decide) rfl (Nat.le_of_ble_eq_true rfl) ?_
  intro p e s m args below meth c ls A hM hE hP hD hS hA hl
  obtain ⟨hx, hb, hr, hml, hts, hown, hlk, hnm⟩ := hM
  have g_1 : (Cond.fieldLink RX9 55 "RailPendulumModel" "thrown" "I").before args s = true := hts (Cond.fieldLink RX9 55 "RailPendulumModel" "thrown" "I") (by decide +kernel)
  have g_2 : ∀ w ∈ wsX90, w ∈ wsX9_errorPosition := by decide +kernel
  have g_3 : (Cond.fieldLink RX9 20 "RailPendulumModel" "errorAt" "I").before args s = true := hts (Cond.fieldLink RX9 20 "RailPendulumModel" "errorAt" "I") (by decide +kernel)
  have hX : xD A [h] := xD.of hD rfl
  have hl : lv_has ls 1 [(0, .ref h)] := hl
  refine lv_aload_n hx hb dX9_errorPosition_0 rfl (lv_at hl 0 rfl) ?_
  refine lv_iconst (v := 0) hx hb dX9_errorPosition_1 (by decide) ?_
  refine va_put (D := E.1) (ci := 9) (v := .int 0) (ty := .int) (C := RX9) (T := TX9) (N := 22) hx hb hts g_2 tyX9 tyX9_ok nmX9 hown hE.1 hP (hX.d rfl) hS 0 rfl rfl 0 (by decide) g_1 (fun _ h9 => h9) rfl (by decide +kernel) rfl rfl (Nat.le_of_ble_eq_true rfl) dX9_errorPosition_2 (fun H locs hP _ hS => ?_)
  have hP : va_P E.1 vwCl [(h, .inr (9, [.int 0, .ref nw, .ref td, .ref tx, .int length, .int textSize, .int start, .int next, .int token, .int value, .int error, .int errorAt, .int seen, .int triedWith, .ref rr, .ref ss, .ref tr, .ref wa, .int undos, .ref ud, .ref sl, .ref sv]))] H := hP
  refine lv_aload_n hx hb dX9_errorPosition_5 rfl (lv_at hl 0 rfl) ?_
  refine va_get (D := E.1) (ci := 9) (v := .int errorAt) (C := RX9) (T := TX9) (N := 22) hx hb hts g_2 hown hE.1 hP 0 rfl rfl 11 (by decide) g_3 (fun _ h9 => h9) rfl dX9_errorPosition_6 ?_
  exact x_wi (errorAt, 0) (by unfold sX9_errorPosition; try rfl) rfl hx hb hr hlk hS hP (hX.d rfl) [0] rfl rfl (Nat.le_of_ble_eq_true rfl) (Nat.le_of_ble_eq_true rfl) dX9_errorPosition_9
def sX9_sine (angle : Int32) : Int32 × Int32 :=
  if (sX9_within angle 0 4095) = 0 then
    (0, 1)
  else
    (sX9_sineOf angle, 0)
theorem hdX9_sine : yX9_sine.cls = RX9 ∧ yX9_sine.cls ≠ "java/lang/invoke/MethodHandle" ∧ yX9_sine.cls ≠ "java/lang/invoke/VarHandle" ∧ (parseMethodDescriptor yX9_sine.desc).map (fun d => d.parameters.length) = some 1 := by decide +kernel
set_option maxHeartbeats 4000000 in
set_option maxRecDepth 100000 in
theorem kX9_sine (l : Launch) (E : XE) (h : Nat) (thrown : Int32) (nw : Nat) (td : Nat) (tx : Nat) (length : Int32) (textSize : Int32) (start : Int32) (next : Int32) (token : Int32) (value : Int32) (error : Int32) (errorAt : Int32) (seen : Int32) (triedWith : Int32) (rr : Nat) (ss : Nat) (tr : Nat) (wa : Nat) (undos : Int32) (ud : Nat) (sl : Nat) (sv : Nat) (angle : Int32) : xW (T := Int32 × Int32) l yX9_sine wsX9_sine ({ frames := 1, cells := 0, slots := 0, locals := 24 }) E [(h, .inr (9, [.int thrown, .ref nw, .ref td, .ref tx, .int length, .int textSize, .int start, .int next, .int token, .int value, .int error, .int errorAt, .int seen, .int triedWith, .ref rr, .ref ss, .ref tr, .ref wa, .int undos, .ref ud, .ref sl, .ref sv]))] [.ref h, .int angle] (fun q => some (.int q.1)) (fun q => [(h, .inr (9, [.int q.2, .ref nw, .ref td, .ref tx, .int length, .int textSize, .int start, .int next, .int token, .int value, .int error, .int errorAt, .int seen, .int triedWith, .ref rr, .ref ss, .ref tr, .ref wa, .int undos, .ref ud, .ref sl, .ref sv]))]) (sX9_sine angle) 0 0 := by
  refine xW.of (cc := cX9_sine) (maxL := 2) (ret := (some .int)) (by decide) rfl (Nat.le_of_ble_eq_true rfl) ?_
  intro p e s m args below meth c ls A hM hE hP hD hS hA hl
  obtain ⟨hx, hb, hr, hml, hts, hown, hlk, hnm⟩ := hM
  have g_1 : (Cond.fieldLink RX9 55 "RailPendulumModel" "thrown" "I").before args s = true := hts (Cond.fieldLink RX9 55 "RailPendulumModel" "thrown" "I") (by decide +kernel)
  have g_2 : ∀ w ∈ wsX90, w ∈ wsX9_sine := by decide +kernel
  have hX : xD A [h] := xD.of hD rfl
  have hl : lv_has ls 2 [(0, .ref h), (1, .int angle)] := hl
  refine lv_aload_n hx hb dX9_sine_0 rfl (lv_at hl 0 rfl) ?_
  refine lv_iconst (v := 0) hx hb dX9_sine_1 (by decide) ?_
  refine va_put (D := E.1) (ci := 9) (v := .int 0) (ty := .int) (C := RX9) (T := TX9) (N := 22) hx hb hts g_2 tyX9 tyX9_ok nmX9 hown hE.1 hP (hX.d rfl) hS 0 rfl rfl 0 (by decide) g_1 (fun _ h9 => h9) rfl (by decide +kernel) rfl rfl (Nat.le_of_ble_eq_true rfl) dX9_sine_2 (fun H locs hP _ hS => ?_)
  have hP : va_P E.1 vwCl [(h, .inr (9, [.int 0, .ref nw, .ref td, .ref tx, .int length, .int textSize, .int start, .int next, .int token, .int value, .int error, .int errorAt, .int seen, .int triedWith, .ref rr, .ref ss, .ref tr, .ref wa, .int undos, .ref ud, .ref sl, .ref sv]))] H := hP
  refine lv_aload_n hx hb dX9_sine_5 rfl (lv_at hl 0 rfl) ?_
  refine lv_iload_n hx hb dX9_sine_6 rfl (lv_at hl 1 rfl) ?_
  refine lv_iconst (v := 0) hx hb dX9_sine_7 (by decide) ?_
  refine lv_sipush (v := 4095) hx hb dX9_sine_8 (by decide) ?_
  refine x_rS [.int angle, .int 0, .int 4095] (kX9_within l E angle 0 4095) ⟨hx, hb, hml, hown, hts⟩ (va_cwS 3 hts gX9_sine_X9_within rfl rfl rfl hdX9_within.2 ⟨Nat.le_of_ble_eq_true rfl, Nat.le_of_ble_eq_true rfl⟩) hE hP (hX.d rfl) [] rfl rfl hl.1 rfl rfl (Nat.le_of_ble_eq_true rfl) dX9_sine_11 (Nat.le_of_ble_eq_true rfl) (Nat.le_of_ble_eq_true rfl) ?_
  refine lv_if_ne (tgt := 21) hx hb dX9_sine_14 (by decide) (fun c_1 => ?_) (fun c_1 => ?_)
  · refine lv_iconst (v := 0) hx hb dX9_sine_21 (by decide) ?_
    refine lv_iconst (v := 1) hx hb dX9_sine_22 (by decide) ?_
    refine x_wV (wr := []) [.int 0, .int 1] (kX9_throwsIf_0 l E h nw td tx length textSize start next token value error errorAt seen triedWith rr ss tr wa undos ud sl sv 1) ⟨hx, hb, hml, hown, hts⟩ (cwV 2 hts gX9_sine_X9_throwsIf rfl rfl rfl hdX9_throwsIf ⟨Nat.le_of_ble_eq_true rfl, Nat.le_of_ble_eq_true rfl⟩) hE hP (hX.d rfl) hS hA [0] [] rfl rfl rfl rfl (by decide) (ci := 9) (q0 := 0) rfl rfl rfl hl.1 rfl rfl (Nat.le_of_ble_eq_true rfl) dX9_sine_23 (Nat.le_of_ble_eq_true rfl) (Nat.le_of_ble_eq_true rfl) (fun q_2 H locs hq_2 hP hD hS => ?_)
    have hP : va_P E.1 vwCl [(h, .inr (9, [.int 0, .ref nw, .ref td, .ref tx, .int length, .int textSize, .int start, .int next, .int token, .int value, .int error, .int errorAt, .int seen, .int triedWith, .ref rr, .ref ss, .ref tr, .ref wa, .int undos, .ref ud, .ref sl, .ref sv]))] H := hP
    have hX : xD A [h] := xD.of hD rfl
    refine W.eq (g2 := F0 m 26 ls [.int 0]) rfl ?_
    refine lv_if_eq (tgt := 33) hx hb dX9_sine_26 (by decide) (fun c_3 => ?_) (fun c_3 => absurd (by decide) c_3)
    refine lv_iload_n hx hb dX9_sine_33 rfl (lv_at hl 1 rfl) ?_
    refine x_rS [.int angle] (kX9_sineOf l E angle (x_within c_1).1 (x_lt4096 (x_within c_1).2)) ⟨hx, hb, hml, hown, hts⟩ (va_cwS 1 hts gX9_sine_X9_sineOf rfl rfl rfl hdX9_sineOf.2 ⟨Nat.le_of_ble_eq_true rfl, Nat.le_of_ble_eq_true rfl⟩) hE hP (hX.d rfl) [] rfl rfl hl.1 rfl rfl (Nat.le_of_ble_eq_true rfl) dX9_sine_34 (Nat.le_of_ble_eq_true rfl) (Nat.le_of_ble_eq_true rfl) ?_
    exact x_wi (sX9_sineOf angle, 0) (by unfold sX9_sine; rw [if_neg c_1]; try rfl) rfl hx hb hr hlk hS hP (hX.d rfl) [0] rfl rfl (Nat.le_of_ble_eq_true rfl) (Nat.le_of_ble_eq_true rfl) dX9_sine_37
  · refine lv_iconst (v := 1) hx hb dX9_sine_17 (by decide) ?_
    refine lv_goto (tgt := 22) hx hb dX9_sine_18 (by decide) ?_
    refine lv_iconst (v := 1) hx hb dX9_sine_22 (by decide) ?_
    refine x_wV (wr := []) [.int 1, .int 1] (kX9_throwsIf_11 l E h nw td tx length textSize start next token value error errorAt seen triedWith rr ss tr wa undos ud sl sv) ⟨hx, hb, hml, hown, hts⟩ (cwV 2 hts gX9_sine_X9_throwsIf rfl rfl rfl hdX9_throwsIf ⟨Nat.le_of_ble_eq_true rfl, Nat.le_of_ble_eq_true rfl⟩) hE hP (hX.d rfl) hS hA [0] [] rfl rfl rfl rfl (by decide) (ci := 9) (q0 := 0) rfl rfl rfl hl.1 rfl rfl (Nat.le_of_ble_eq_true rfl) dX9_sine_23 (Nat.le_of_ble_eq_true rfl) (Nat.le_of_ble_eq_true rfl) (fun q_4 H locs hq_4 hP hD hS => ?_)
    have hP : va_P E.1 vwCl [(h, .inr (9, [.int 1, .ref nw, .ref td, .ref tx, .int length, .int textSize, .int start, .int next, .int token, .int value, .int error, .int errorAt, .int seen, .int triedWith, .ref rr, .ref ss, .ref tr, .ref wa, .int undos, .ref ud, .ref sl, .ref sv]))] H := hP
    have hX : xD A [h] := xD.of hD rfl
    refine W.eq (g2 := F0 m 26 ls [.int 1]) rfl ?_
    refine lv_if_eq (tgt := 33) hx hb dX9_sine_26 (by decide) (fun c_5 => absurd c_5 (by decide)) (fun c_5 => ?_)
    refine lv_iconst (v := 0) hx hb dX9_sine_29 (by decide) ?_
    refine lv_goto (tgt := 37) hx hb dX9_sine_30 (by decide) ?_
    exact x_wi (0, 1) (by unfold sX9_sine; rw [if_pos c_1]; try rfl) rfl hx hb hr hlk hS hP (hX.d rfl) [0] rfl rfl (Nat.le_of_ble_eq_true rfl) (Nat.le_of_ble_eq_true rfl) dX9_sine_37
def sX9_lean (angle : Int32) : Int32 × Int32 :=
  if (sX9_within angle 0 4095) = 0 then
    (0, 1)
  else
    (sX9_leanOf angle, 0)
theorem hdX9_lean : yX9_lean.cls = RX9 ∧ yX9_lean.cls ≠ "java/lang/invoke/MethodHandle" ∧ yX9_lean.cls ≠ "java/lang/invoke/VarHandle" ∧ (parseMethodDescriptor yX9_lean.desc).map (fun d => d.parameters.length) = some 1 := by decide +kernel
set_option maxHeartbeats 4000000 in
set_option maxRecDepth 100000 in
theorem kX9_lean (l : Launch) (E : XE) (h : Nat) (thrown : Int32) (nw : Nat) (td : Nat) (tx : Nat) (length : Int32) (textSize : Int32) (start : Int32) (next : Int32) (token : Int32) (value : Int32) (error : Int32) (errorAt : Int32) (seen : Int32) (triedWith : Int32) (rr : Nat) (ss : Nat) (tr : Nat) (wa : Nat) (undos : Int32) (ud : Nat) (sl : Nat) (sv : Nat) (angle : Int32) : xW (T := Int32 × Int32) l yX9_lean wsX9_lean ({ frames := 1, cells := 0, slots := 0, locals := 22 }) E [(h, .inr (9, [.int thrown, .ref nw, .ref td, .ref tx, .int length, .int textSize, .int start, .int next, .int token, .int value, .int error, .int errorAt, .int seen, .int triedWith, .ref rr, .ref ss, .ref tr, .ref wa, .int undos, .ref ud, .ref sl, .ref sv]))] [.ref h, .int angle] (fun q => some (.int q.1)) (fun q => [(h, .inr (9, [.int q.2, .ref nw, .ref td, .ref tx, .int length, .int textSize, .int start, .int next, .int token, .int value, .int error, .int errorAt, .int seen, .int triedWith, .ref rr, .ref ss, .ref tr, .ref wa, .int undos, .ref ud, .ref sl, .ref sv]))]) (sX9_lean angle) 0 0 := by
  refine xW.of (cc := cX9_lean) (maxL := 2) (ret := (some .int)) (by decide) rfl (Nat.le_of_ble_eq_true rfl) ?_
  intro p e s m args below meth c ls A hM hE hP hD hS hA hl
  obtain ⟨hx, hb, hr, hml, hts, hown, hlk, hnm⟩ := hM
  have g_1 : (Cond.fieldLink RX9 55 "RailPendulumModel" "thrown" "I").before args s = true := hts (Cond.fieldLink RX9 55 "RailPendulumModel" "thrown" "I") (by decide +kernel)
  have g_2 : ∀ w ∈ wsX90, w ∈ wsX9_lean := by decide +kernel
  have hX : xD A [h] := xD.of hD rfl
  have hl : lv_has ls 2 [(0, .ref h), (1, .int angle)] := hl
  refine lv_aload_n hx hb dX9_lean_0 rfl (lv_at hl 0 rfl) ?_
  refine lv_iconst (v := 0) hx hb dX9_lean_1 (by decide) ?_
  refine va_put (D := E.1) (ci := 9) (v := .int 0) (ty := .int) (C := RX9) (T := TX9) (N := 22) hx hb hts g_2 tyX9 tyX9_ok nmX9 hown hE.1 hP (hX.d rfl) hS 0 rfl rfl 0 (by decide) g_1 (fun _ h9 => h9) rfl (by decide +kernel) rfl rfl (Nat.le_of_ble_eq_true rfl) dX9_lean_2 (fun H locs hP _ hS => ?_)
  have hP : va_P E.1 vwCl [(h, .inr (9, [.int 0, .ref nw, .ref td, .ref tx, .int length, .int textSize, .int start, .int next, .int token, .int value, .int error, .int errorAt, .int seen, .int triedWith, .ref rr, .ref ss, .ref tr, .ref wa, .int undos, .ref ud, .ref sl, .ref sv]))] H := hP
  refine lv_aload_n hx hb dX9_lean_5 rfl (lv_at hl 0 rfl) ?_
  refine lv_iload_n hx hb dX9_lean_6 rfl (lv_at hl 1 rfl) ?_
  refine lv_iconst (v := 0) hx hb dX9_lean_7 (by decide) ?_
  refine lv_sipush (v := 4095) hx hb dX9_lean_8 (by decide) ?_
  refine x_rS [.int angle, .int 0, .int 4095] (kX9_within l E angle 0 4095) ⟨hx, hb, hml, hown, hts⟩ (va_cwS 3 hts gX9_lean_X9_within rfl rfl rfl hdX9_within.2 ⟨Nat.le_of_ble_eq_true rfl, Nat.le_of_ble_eq_true rfl⟩) hE hP (hX.d rfl) [] rfl rfl hl.1 rfl rfl (Nat.le_of_ble_eq_true rfl) dX9_lean_11 (Nat.le_of_ble_eq_true rfl) (Nat.le_of_ble_eq_true rfl) ?_
  refine lv_if_ne (tgt := 21) hx hb dX9_lean_14 (by decide) (fun c_1 => ?_) (fun c_1 => ?_)
  · refine lv_iconst (v := 0) hx hb dX9_lean_21 (by decide) ?_
    refine lv_iconst (v := 1) hx hb dX9_lean_22 (by decide) ?_
    refine x_wV (wr := []) [.int 0, .int 1] (kX9_throwsIf_0 l E h nw td tx length textSize start next token value error errorAt seen triedWith rr ss tr wa undos ud sl sv 1) ⟨hx, hb, hml, hown, hts⟩ (cwV 2 hts gX9_lean_X9_throwsIf rfl rfl rfl hdX9_throwsIf ⟨Nat.le_of_ble_eq_true rfl, Nat.le_of_ble_eq_true rfl⟩) hE hP (hX.d rfl) hS hA [0] [] rfl rfl rfl rfl (by decide) (ci := 9) (q0 := 0) rfl rfl rfl hl.1 rfl rfl (Nat.le_of_ble_eq_true rfl) dX9_lean_23 (Nat.le_of_ble_eq_true rfl) (Nat.le_of_ble_eq_true rfl) (fun q_2 H locs hq_2 hP hD hS => ?_)
    have hP : va_P E.1 vwCl [(h, .inr (9, [.int 0, .ref nw, .ref td, .ref tx, .int length, .int textSize, .int start, .int next, .int token, .int value, .int error, .int errorAt, .int seen, .int triedWith, .ref rr, .ref ss, .ref tr, .ref wa, .int undos, .ref ud, .ref sl, .ref sv]))] H := hP
    have hX : xD A [h] := xD.of hD rfl
    refine W.eq (g2 := F0 m 26 ls [.int 0]) rfl ?_
    refine lv_if_eq (tgt := 33) hx hb dX9_lean_26 (by decide) (fun c_3 => ?_) (fun c_3 => absurd (by decide) c_3)
    refine lv_iload_n hx hb dX9_lean_33 rfl (lv_at hl 1 rfl) ?_
    refine x_rS [.int angle] (kX9_leanOf l E angle) ⟨hx, hb, hml, hown, hts⟩ (va_cwS 1 hts gX9_lean_X9_leanOf rfl rfl rfl hdX9_leanOf.2 ⟨Nat.le_of_ble_eq_true rfl, Nat.le_of_ble_eq_true rfl⟩) hE hP (hX.d rfl) [] rfl rfl hl.1 rfl rfl (Nat.le_of_ble_eq_true rfl) dX9_lean_34 (Nat.le_of_ble_eq_true rfl) (Nat.le_of_ble_eq_true rfl) ?_
    exact x_wi (sX9_leanOf angle, 0) (by unfold sX9_lean; rw [if_neg c_1]; try rfl) rfl hx hb hr hlk hS hP (hX.d rfl) [0] rfl rfl (Nat.le_of_ble_eq_true rfl) (Nat.le_of_ble_eq_true rfl) dX9_lean_37
  · refine lv_iconst (v := 1) hx hb dX9_lean_17 (by decide) ?_
    refine lv_goto (tgt := 22) hx hb dX9_lean_18 (by decide) ?_
    refine lv_iconst (v := 1) hx hb dX9_lean_22 (by decide) ?_
    refine x_wV (wr := []) [.int 1, .int 1] (kX9_throwsIf_11 l E h nw td tx length textSize start next token value error errorAt seen triedWith rr ss tr wa undos ud sl sv) ⟨hx, hb, hml, hown, hts⟩ (cwV 2 hts gX9_lean_X9_throwsIf rfl rfl rfl hdX9_throwsIf ⟨Nat.le_of_ble_eq_true rfl, Nat.le_of_ble_eq_true rfl⟩) hE hP (hX.d rfl) hS hA [0] [] rfl rfl rfl rfl (by decide) (ci := 9) (q0 := 0) rfl rfl rfl hl.1 rfl rfl (Nat.le_of_ble_eq_true rfl) dX9_lean_23 (Nat.le_of_ble_eq_true rfl) (Nat.le_of_ble_eq_true rfl) (fun q_4 H locs hq_4 hP hD hS => ?_)
    have hP : va_P E.1 vwCl [(h, .inr (9, [.int 1, .ref nw, .ref td, .ref tx, .int length, .int textSize, .int start, .int next, .int token, .int value, .int error, .int errorAt, .int seen, .int triedWith, .ref rr, .ref ss, .ref tr, .ref wa, .int undos, .ref ud, .ref sl, .ref sv]))] H := hP
    have hX : xD A [h] := xD.of hD rfl
    refine W.eq (g2 := F0 m 26 ls [.int 1]) rfl ?_
    refine lv_if_eq (tgt := 33) hx hb dX9_lean_26 (by decide) (fun c_5 => absurd c_5 (by decide)) (fun c_5 => ?_)
    refine lv_iconst (v := 0) hx hb dX9_lean_29 (by decide) ?_
    refine lv_goto (tgt := 37) hx hb dX9_lean_30 (by decide) ?_
    exact x_wi (0, 1) (by unfold sX9_lean; rw [if_pos c_1]; try rfl) rfl hx hb hr hlk hS hP (hX.d rfl) [0] rfl rfl (Nat.le_of_ble_eq_true rfl) (Nat.le_of_ble_eq_true rfl) dX9_lean_37
def sX9_reason_q_4 (triedWith : Int32) (now : Nat → Int32) (told : Nat → Int32) (rs : Nat → Int32) (fs : Nat → Int32) (tri : Nat → Int32) (i : Int32) (j : Int32) (q_4 : Int32 × (Nat → Int32) × (Nat → Int32) × (Nat → Int32)) : Int32 × Int32 × Int32 × (Nat → Int32) × (Nat → Int32) × (Nat → Int32) :=
  (q_4.2.1 ((sX9_cell i j).toNatClampNeg), 0, q_4.1, q_4.2.1, q_4.2.2.1, q_4.2.2.2)
def sX9_reason (triedWith : Int32) (now : Nat → Int32) (told : Nat → Int32) (rs : Nat → Int32) (fs : Nat → Int32) (tri : Nat → Int32) (i : Int32) (j : Int32) : Int32 × Int32 × Int32 × (Nat → Int32) × (Nat → Int32) × (Nat → Int32) :=
  if (sX9_isCell told i j) = 0 then
    (0, 1, triedWith, rs, fs, tri)
  else
    sX9_reason_q_4 triedWith now told rs fs tri i j (sX9_lays triedWith now told rs fs tri)
theorem hdX9_reason : yX9_reason.cls = RX9 ∧ yX9_reason.cls ≠ "java/lang/invoke/MethodHandle" ∧ yX9_reason.cls ≠ "java/lang/invoke/VarHandle" ∧ (parseMethodDescriptor yX9_reason.desc).map (fun d => d.parameters.length) = some 2 := by decide +kernel
set_option maxHeartbeats 4000000 in
set_option maxRecDepth 100000 in
theorem kX9_reason (l : Launch) (E : XE) (h : Nat) (thrown : Int32) (nw : Nat) (td : Nat) (tx : Nat) (length : Int32) (textSize : Int32) (start : Int32) (next : Int32) (token : Int32) (value : Int32) (error : Int32) (errorAt : Int32) (seen : Int32) (triedWith : Int32) (rr : Nat) (ss : Nat) (tr : Nat) (wa : Nat) (undos : Int32) (ud : Nat) (sl : Nat) (sv : Nat) (now : Nat → Int32) (told : Nat → Int32) (rs : Nat → Int32) (fs : Nat → Int32) (tri : Nat → Int32) (i : Int32) (j : Int32) (hc3 : told 17 ≤ 3) (hc0 : 0 ≤ told 17) : xW (T := Int32 × Int32 × Int32 × (Nat → Int32) × (Nat → Int32) × (Nat → Int32)) l yX9_reason wsX9_reason ({ frames := 6, cells := 0, slots := 0, locals := 140 }) E [(h, .inr (9, [.int thrown, .ref nw, .ref td, .ref tx, .int length, .int textSize, .int start, .int next, .int token, .int value, .int error, .int errorAt, .int seen, .int triedWith, .ref rr, .ref ss, .ref tr, .ref wa, .int undos, .ref ud, .ref sl, .ref sv])), (nw, .inl (E.2.1, 214, .inl now)), (td, .inl (E.2.1, 48, .inl told)), (rr, .inl (E.2.1, 49, .inl rs)), (ss, .inl (E.2.1, 49, .inl fs)), (tr, .inl (E.2.1, 14, .inl tri))] [.ref h, .int i, .int j] (fun q => some (.int q.1)) (fun q => [(h, .inr (9, [.int q.2.1, .ref nw, .ref td, .ref tx, .int length, .int textSize, .int start, .int next, .int token, .int value, .int error, .int errorAt, .int seen, .int q.2.2.1, .ref rr, .ref ss, .ref tr, .ref wa, .int undos, .ref ud, .ref sl, .ref sv])), (nw, .inl (E.2.1, 214, .inl now)), (td, .inl (E.2.1, 48, .inl told)), (rr, .inl (E.2.1, 49, .inl q.2.2.2.1)), (ss, .inl (E.2.1, 49, .inl q.2.2.2.2.1)), (tr, .inl (E.2.1, 14, .inl q.2.2.2.2.2))]) (sX9_reason triedWith now told rs fs tri i j) 0 0 := by
  refine xW.of (cc := cX9_reason) (maxL := 3) (ret := (some .int)) (by decide) rfl (Nat.le_of_ble_eq_true rfl) ?_
  intro p e s m args below meth c ls A hM hE hP hD hS hA hl
  obtain ⟨hx, hb, hr, hml, hts, hown, hlk, hnm⟩ := hM
  have g_1 : (Cond.fieldLink RX9 55 "RailPendulumModel" "thrown" "I").before args s = true := hts (Cond.fieldLink RX9 55 "RailPendulumModel" "thrown" "I") (by decide +kernel)
  have g_2 : ∀ w ∈ wsX90, w ∈ wsX9_reason := by decide +kernel
  have g_3 : (Cond.fieldLink RX9 24 "RailPendulumModel" "reasons" "[I").before args s = true := hts (Cond.fieldLink RX9 24 "RailPendulumModel" "reasons" "[I") (by decide +kernel)
  have hX : xD A [h, nw, td, rr, ss, tr] := xD.of hD rfl
  have hl : lv_has ls 3 [(0, .ref h), (1, .int i), (2, .int j)] := hl
  refine lv_aload_n hx hb dX9_reason_0 rfl (lv_at hl 0 rfl) ?_
  refine lv_iconst (v := 0) hx hb dX9_reason_1 (by decide) ?_
  refine va_put (D := E.1) (ci := 9) (v := .int 0) (ty := .int) (C := RX9) (T := TX9) (N := 22) hx hb hts g_2 tyX9 tyX9_ok nmX9 hown hE.1 hP (hX.d rfl) hS 0 rfl rfl 0 (by decide) g_1 (fun _ h9 => h9) rfl (by decide +kernel) rfl rfl (Nat.le_of_ble_eq_true rfl) dX9_reason_2 (fun H locs hP _ hS => ?_)
  have hP : va_P E.1 vwCl [(h, .inr (9, [.int 0, .ref nw, .ref td, .ref tx, .int length, .int textSize, .int start, .int next, .int token, .int value, .int error, .int errorAt, .int seen, .int triedWith, .ref rr, .ref ss, .ref tr, .ref wa, .int undos, .ref ud, .ref sl, .ref sv])), (nw, .inl (E.2.1, 214, .inl now)), (td, .inl (E.2.1, 48, .inl told)), (rr, .inl (E.2.1, 49, .inl rs)), (ss, .inl (E.2.1, 49, .inl fs)), (tr, .inl (E.2.1, 14, .inl tri))] H := hP
  refine lv_aload_n hx hb dX9_reason_5 rfl (lv_at hl 0 rfl) ?_
  refine lv_aload_n hx hb dX9_reason_6 rfl (lv_at hl 0 rfl) ?_
  refine lv_iload_n hx hb dX9_reason_7 rfl (lv_at hl 1 rfl) ?_
  refine lv_iload_n hx hb dX9_reason_8 rfl (lv_at hl 2 rfl) ?_
  refine x_rV [.int i, .int j] (kX9_isCell l E h 0 nw td tx length textSize start next token value error errorAt seen triedWith rr ss tr wa undos ud sl sv told i j) ⟨hx, hb, hml, hown, hts⟩ (cwV 2 hts gX9_reason_X9_isCell rfl rfl rfl hdX9_isCell ⟨Nat.le_of_ble_eq_true rfl, Nat.le_of_ble_eq_true rfl⟩) hE hP (hX.d rfl) [0, 2] rfl rfl (ci := 9) (q0 := 0) rfl rfl rfl hl.1 rfl rfl (Nat.le_of_ble_eq_true rfl) dX9_reason_9 (Nat.le_of_ble_eq_true rfl) (Nat.le_of_ble_eq_true rfl) ?_
  refine lv_if_ne (tgt := 19) hx hb dX9_reason_12 (by decide) (fun c_1 => ?_) (fun c_1 => ?_)
  · refine lv_iconst (v := 0) hx hb dX9_reason_19 (by decide) ?_
    refine lv_iconst (v := 1) hx hb dX9_reason_20 (by decide) ?_
    refine x_wV (wr := [(nw, .inl (E.2.1, 214, .inl now)), (td, .inl (E.2.1, 48, .inl told)), (rr, .inl (E.2.1, 49, .inl rs)), (ss, .inl (E.2.1, 49, .inl fs)), (tr, .inl (E.2.1, 14, .inl tri))]) [.int 0, .int 1] (kX9_throwsIf_0 l E h nw td tx length textSize start next token value error errorAt seen triedWith rr ss tr wa undos ud sl sv 1) ⟨hx, hb, hml, hown, hts⟩ (cwV 2 hts gX9_reason_X9_throwsIf rfl rfl rfl hdX9_throwsIf ⟨Nat.le_of_ble_eq_true rfl, Nat.le_of_ble_eq_true rfl⟩) hE hP (hX.d rfl) hS hA [0] [1, 2, 3, 4, 5] rfl rfl rfl rfl (by decide) (ci := 9) (q0 := 0) rfl rfl rfl hl.1 rfl rfl (Nat.le_of_ble_eq_true rfl) dX9_reason_21 (Nat.le_of_ble_eq_true rfl) (Nat.le_of_ble_eq_true rfl) (fun q_2 H locs hq_2 hP hD hS => ?_)
    have hP : va_P E.1 vwCl [(nw, .inl (E.2.1, 214, .inl now)), (td, .inl (E.2.1, 48, .inl told)), (rr, .inl (E.2.1, 49, .inl rs)), (ss, .inl (E.2.1, 49, .inl fs)), (tr, .inl (E.2.1, 14, .inl tri)), (h, .inr (9, [.int 0, .ref nw, .ref td, .ref tx, .int length, .int textSize, .int start, .int next, .int token, .int value, .int error, .int errorAt, .int seen, .int triedWith, .ref rr, .ref ss, .ref tr, .ref wa, .int undos, .ref ud, .ref sl, .ref sv]))] H := hP
    have hX : xD A [nw, td, rr, ss, tr, h] := xD.of hD rfl
    refine W.eq (g2 := F0 m 24 ls [.int 0]) rfl ?_
    refine lv_if_eq (tgt := 29) hx hb dX9_reason_24 (by decide) (fun c_3 => ?_) (fun c_3 => absurd (by decide) c_3)
    refine lv_aload_n hx hb dX9_reason_29 rfl (lv_at hl 0 rfl) ?_
    refine x_wV (wr := []) [] (kX9_lays l E h 0 nw td tx length textSize start next token value error errorAt seen triedWith rr ss tr wa undos ud sl sv now told rs fs tri hc3 hc0) ⟨hx, hb, hml, hown, hts⟩ (cwV 0 hts gX9_reason_X9_lays rfl rfl rfl hdX9_lays ⟨Nat.le_of_ble_eq_true rfl, Nat.le_of_ble_eq_true rfl⟩) hE hP (hX.d rfl) hS hA [5, 0, 1, 2, 3, 4] [] rfl rfl rfl rfl (by decide) (ci := 9) (q0 := 5) rfl rfl rfl hl.1 rfl rfl (Nat.le_of_ble_eq_true rfl) dX9_reason_30 (Nat.le_of_ble_eq_true rfl) (Nat.le_of_ble_eq_true rfl) (fun q_4 H locs hq_4 hP hD hS => ?_)
    have hP : va_P E.1 vwCl [(h, .inr (9, [.int 0, .ref nw, .ref td, .ref tx, .int length, .int textSize, .int start, .int next, .int token, .int value, .int error, .int errorAt, .int seen, .int q_4.1, .ref rr, .ref ss, .ref tr, .ref wa, .int undos, .ref ud, .ref sl, .ref sv])), (nw, .inl (E.2.1, 214, .inl now)), (td, .inl (E.2.1, 48, .inl told)), (rr, .inl (E.2.1, 49, .inl q_4.2.1)), (ss, .inl (E.2.1, 49, .inl q_4.2.2.1)), (tr, .inl (E.2.1, 14, .inl q_4.2.2.2))] H := hP
    have hX : xD A [h, nw, td, rr, ss, tr] := xD.of hD rfl
    refine W.eq (g2 := F0 m 33 ls []) rfl ?_
    refine lv_aload_n hx hb dX9_reason_33 rfl (lv_at hl 0 rfl) ?_
    refine va_get (D := E.1) (ci := 9) (v := .ref rr) (C := RX9) (T := TX9) (N := 22) hx hb hts g_2 hown hE.1 hP 0 rfl rfl 14 (by decide) g_3 (fun _ h9 => h9) rfl dX9_reason_34 ?_
    refine lv_iload_n hx hb dX9_reason_37 rfl (lv_at hl 1 rfl) ?_
    refine lv_iload_n hx hb dX9_reason_38 rfl (lv_at hl 2 rfl) ?_
    refine x_rS [.int i, .int j] (kX9_cell l E i j) ⟨hx, hb, hml, hown, hts⟩ (va_cwS 2 hts gX9_reason_X9_cell rfl rfl rfl hdX9_cell.2 ⟨Nat.le_of_ble_eq_true rfl, Nat.le_of_ble_eq_true rfl⟩) hE hP (hX.d rfl) [] rfl rfl hl.1 rfl rfl (Nat.le_of_ble_eq_true rfl) dX9_reason_39 (Nat.le_of_ble_eq_true rfl) (Nat.le_of_ble_eq_true rfl) ?_
    refine x_iald hx hb hE.1 hP 3 0 rfl rfl ((sX9_cell i j).toNatClampNeg) rfl (x_iscell hc3 hc0 c_1) dX9_reason_42 ?_
    exact x_wi (q_4.2.1 ((sX9_cell i j).toNatClampNeg), 0, q_4.1, q_4.2.1, q_4.2.2.1, q_4.2.2.2) (by unfold sX9_reason; rw [if_neg c_1]; rw [← hq_4]; unfold sX9_reason_q_4; try rfl) rfl hx hb hr hlk hS hP (hX.d rfl) [0, 1, 2, 3, 4, 5] rfl rfl (Nat.le_of_ble_eq_true rfl) (Nat.le_of_ble_eq_true rfl) dX9_reason_43
  · refine lv_iconst (v := 1) hx hb dX9_reason_15 (by decide) ?_
    refine lv_goto (tgt := 20) hx hb dX9_reason_16 (by decide) ?_
    refine lv_iconst (v := 1) hx hb dX9_reason_20 (by decide) ?_
    refine x_wV (wr := [(nw, .inl (E.2.1, 214, .inl now)), (td, .inl (E.2.1, 48, .inl told)), (rr, .inl (E.2.1, 49, .inl rs)), (ss, .inl (E.2.1, 49, .inl fs)), (tr, .inl (E.2.1, 14, .inl tri))]) [.int 1, .int 1] (kX9_throwsIf_11 l E h nw td tx length textSize start next token value error errorAt seen triedWith rr ss tr wa undos ud sl sv) ⟨hx, hb, hml, hown, hts⟩ (cwV 2 hts gX9_reason_X9_throwsIf rfl rfl rfl hdX9_throwsIf ⟨Nat.le_of_ble_eq_true rfl, Nat.le_of_ble_eq_true rfl⟩) hE hP (hX.d rfl) hS hA [0] [1, 2, 3, 4, 5] rfl rfl rfl rfl (by decide) (ci := 9) (q0 := 0) rfl rfl rfl hl.1 rfl rfl (Nat.le_of_ble_eq_true rfl) dX9_reason_21 (Nat.le_of_ble_eq_true rfl) (Nat.le_of_ble_eq_true rfl) (fun q_5 H locs hq_5 hP hD hS => ?_)
    have hP : va_P E.1 vwCl [(nw, .inl (E.2.1, 214, .inl now)), (td, .inl (E.2.1, 48, .inl told)), (rr, .inl (E.2.1, 49, .inl rs)), (ss, .inl (E.2.1, 49, .inl fs)), (tr, .inl (E.2.1, 14, .inl tri)), (h, .inr (9, [.int 1, .ref nw, .ref td, .ref tx, .int length, .int textSize, .int start, .int next, .int token, .int value, .int error, .int errorAt, .int seen, .int triedWith, .ref rr, .ref ss, .ref tr, .ref wa, .int undos, .ref ud, .ref sl, .ref sv]))] H := hP
    have hX : xD A [nw, td, rr, ss, tr, h] := xD.of hD rfl
    refine W.eq (g2 := F0 m 24 ls [.int 1]) rfl ?_
    refine lv_if_eq (tgt := 29) hx hb dX9_reason_24 (by decide) (fun c_6 => absurd c_6 (by decide)) (fun c_6 => ?_)
    refine lv_iconst (v := 0) hx hb dX9_reason_27 (by decide) ?_
    exact x_wi (0, 1, triedWith, rs, fs, tri) (by unfold sX9_reason; rw [if_pos c_1]; try rfl) rfl hx hb hr hlk hS hP (hX.d rfl) [5, 0, 1, 2, 3, 4] rfl rfl (Nat.le_of_ble_eq_true rfl) (Nat.le_of_ble_eq_true rfl) dX9_reason_28
def sX9_failedStep_q_4 (triedWith : Int32) (now : Nat → Int32) (told : Nat → Int32) (rs : Nat → Int32) (fs : Nat → Int32) (tri : Nat → Int32) (i : Int32) (j : Int32) (q_4 : Int32 × (Nat → Int32) × (Nat → Int32) × (Nat → Int32)) : Int32 × Int32 × Int32 × (Nat → Int32) × (Nat → Int32) × (Nat → Int32) :=
  (q_4.2.2.1 ((sX9_cell i j).toNatClampNeg), 0, q_4.1, q_4.2.1, q_4.2.2.1, q_4.2.2.2)
def sX9_failedStep (triedWith : Int32) (now : Nat → Int32) (told : Nat → Int32) (rs : Nat → Int32) (fs : Nat → Int32) (tri : Nat → Int32) (i : Int32) (j : Int32) : Int32 × Int32 × Int32 × (Nat → Int32) × (Nat → Int32) × (Nat → Int32) :=
  if (sX9_isCell told i j) = 0 then
    (0, 1, triedWith, rs, fs, tri)
  else
    sX9_failedStep_q_4 triedWith now told rs fs tri i j (sX9_lays triedWith now told rs fs tri)
theorem hdX9_failedStep : yX9_failedStep.cls = RX9 ∧ yX9_failedStep.cls ≠ "java/lang/invoke/MethodHandle" ∧ yX9_failedStep.cls ≠ "java/lang/invoke/VarHandle" ∧ (parseMethodDescriptor yX9_failedStep.desc).map (fun d => d.parameters.length) = some 2 := by decide +kernel
set_option maxHeartbeats 4000000 in
set_option maxRecDepth 100000 in
theorem kX9_failedStep (l : Launch) (E : XE) (h : Nat) (thrown : Int32) (nw : Nat) (td : Nat) (tx : Nat) (length : Int32) (textSize : Int32) (start : Int32) (next : Int32) (token : Int32) (value : Int32) (error : Int32) (errorAt : Int32) (seen : Int32) (triedWith : Int32) (rr : Nat) (ss : Nat) (tr : Nat) (wa : Nat) (undos : Int32) (ud : Nat) (sl : Nat) (sv : Nat) (now : Nat → Int32) (told : Nat → Int32) (rs : Nat → Int32) (fs : Nat → Int32) (tri : Nat → Int32) (i : Int32) (j : Int32) (hc3 : told 17 ≤ 3) (hc0 : 0 ≤ told 17) : xW (T := Int32 × Int32 × Int32 × (Nat → Int32) × (Nat → Int32) × (Nat → Int32)) l yX9_failedStep wsX9_failedStep ({ frames := 6, cells := 0, slots := 0, locals := 140 }) E [(h, .inr (9, [.int thrown, .ref nw, .ref td, .ref tx, .int length, .int textSize, .int start, .int next, .int token, .int value, .int error, .int errorAt, .int seen, .int triedWith, .ref rr, .ref ss, .ref tr, .ref wa, .int undos, .ref ud, .ref sl, .ref sv])), (nw, .inl (E.2.1, 214, .inl now)), (td, .inl (E.2.1, 48, .inl told)), (rr, .inl (E.2.1, 49, .inl rs)), (ss, .inl (E.2.1, 49, .inl fs)), (tr, .inl (E.2.1, 14, .inl tri))] [.ref h, .int i, .int j] (fun q => some (.int q.1)) (fun q => [(h, .inr (9, [.int q.2.1, .ref nw, .ref td, .ref tx, .int length, .int textSize, .int start, .int next, .int token, .int value, .int error, .int errorAt, .int seen, .int q.2.2.1, .ref rr, .ref ss, .ref tr, .ref wa, .int undos, .ref ud, .ref sl, .ref sv])), (nw, .inl (E.2.1, 214, .inl now)), (td, .inl (E.2.1, 48, .inl told)), (rr, .inl (E.2.1, 49, .inl q.2.2.2.1)), (ss, .inl (E.2.1, 49, .inl q.2.2.2.2.1)), (tr, .inl (E.2.1, 14, .inl q.2.2.2.2.2))]) (sX9_failedStep triedWith now told rs fs tri i j) 0 0 := by
  refine xW.of (cc := cX9_failedStep) (maxL := 3) (ret := (some .int)) (by decide) rfl (Nat.le_of_ble_eq_true rfl) ?_
  intro p e s m args below meth c ls A hM hE hP hD hS hA hl
  obtain ⟨hx, hb, hr, hml, hts, hown, hlk, hnm⟩ := hM
  have g_1 : (Cond.fieldLink RX9 55 "RailPendulumModel" "thrown" "I").before args s = true := hts (Cond.fieldLink RX9 55 "RailPendulumModel" "thrown" "I") (by decide +kernel)
  have g_2 : ∀ w ∈ wsX90, w ∈ wsX9_failedStep := by decide +kernel
  have g_3 : (Cond.fieldLink RX9 27 "RailPendulumModel" "steps" "[I").before args s = true := hts (Cond.fieldLink RX9 27 "RailPendulumModel" "steps" "[I") (by decide +kernel)
  have hX : xD A [h, nw, td, rr, ss, tr] := xD.of hD rfl
  have hl : lv_has ls 3 [(0, .ref h), (1, .int i), (2, .int j)] := hl
  refine lv_aload_n hx hb dX9_failedStep_0 rfl (lv_at hl 0 rfl) ?_
  refine lv_iconst (v := 0) hx hb dX9_failedStep_1 (by decide) ?_
  refine va_put (D := E.1) (ci := 9) (v := .int 0) (ty := .int) (C := RX9) (T := TX9) (N := 22) hx hb hts g_2 tyX9 tyX9_ok nmX9 hown hE.1 hP (hX.d rfl) hS 0 rfl rfl 0 (by decide) g_1 (fun _ h9 => h9) rfl (by decide +kernel) rfl rfl (Nat.le_of_ble_eq_true rfl) dX9_failedStep_2 (fun H locs hP _ hS => ?_)
  have hP : va_P E.1 vwCl [(h, .inr (9, [.int 0, .ref nw, .ref td, .ref tx, .int length, .int textSize, .int start, .int next, .int token, .int value, .int error, .int errorAt, .int seen, .int triedWith, .ref rr, .ref ss, .ref tr, .ref wa, .int undos, .ref ud, .ref sl, .ref sv])), (nw, .inl (E.2.1, 214, .inl now)), (td, .inl (E.2.1, 48, .inl told)), (rr, .inl (E.2.1, 49, .inl rs)), (ss, .inl (E.2.1, 49, .inl fs)), (tr, .inl (E.2.1, 14, .inl tri))] H := hP
  refine lv_aload_n hx hb dX9_failedStep_5 rfl (lv_at hl 0 rfl) ?_
  refine lv_aload_n hx hb dX9_failedStep_6 rfl (lv_at hl 0 rfl) ?_
  refine lv_iload_n hx hb dX9_failedStep_7 rfl (lv_at hl 1 rfl) ?_
  refine lv_iload_n hx hb dX9_failedStep_8 rfl (lv_at hl 2 rfl) ?_
  refine x_rV [.int i, .int j] (kX9_isCell l E h 0 nw td tx length textSize start next token value error errorAt seen triedWith rr ss tr wa undos ud sl sv told i j) ⟨hx, hb, hml, hown, hts⟩ (cwV 2 hts gX9_failedStep_X9_isCell rfl rfl rfl hdX9_isCell ⟨Nat.le_of_ble_eq_true rfl, Nat.le_of_ble_eq_true rfl⟩) hE hP (hX.d rfl) [0, 2] rfl rfl (ci := 9) (q0 := 0) rfl rfl rfl hl.1 rfl rfl (Nat.le_of_ble_eq_true rfl) dX9_failedStep_9 (Nat.le_of_ble_eq_true rfl) (Nat.le_of_ble_eq_true rfl) ?_
  refine lv_if_ne (tgt := 19) hx hb dX9_failedStep_12 (by decide) (fun c_1 => ?_) (fun c_1 => ?_)
  · refine lv_iconst (v := 0) hx hb dX9_failedStep_19 (by decide) ?_
    refine lv_iconst (v := 1) hx hb dX9_failedStep_20 (by decide) ?_
    refine x_wV (wr := [(nw, .inl (E.2.1, 214, .inl now)), (td, .inl (E.2.1, 48, .inl told)), (rr, .inl (E.2.1, 49, .inl rs)), (ss, .inl (E.2.1, 49, .inl fs)), (tr, .inl (E.2.1, 14, .inl tri))]) [.int 0, .int 1] (kX9_throwsIf_0 l E h nw td tx length textSize start next token value error errorAt seen triedWith rr ss tr wa undos ud sl sv 1) ⟨hx, hb, hml, hown, hts⟩ (cwV 2 hts gX9_failedStep_X9_throwsIf rfl rfl rfl hdX9_throwsIf ⟨Nat.le_of_ble_eq_true rfl, Nat.le_of_ble_eq_true rfl⟩) hE hP (hX.d rfl) hS hA [0] [1, 2, 3, 4, 5] rfl rfl rfl rfl (by decide) (ci := 9) (q0 := 0) rfl rfl rfl hl.1 rfl rfl (Nat.le_of_ble_eq_true rfl) dX9_failedStep_21 (Nat.le_of_ble_eq_true rfl) (Nat.le_of_ble_eq_true rfl) (fun q_2 H locs hq_2 hP hD hS => ?_)
    have hP : va_P E.1 vwCl [(nw, .inl (E.2.1, 214, .inl now)), (td, .inl (E.2.1, 48, .inl told)), (rr, .inl (E.2.1, 49, .inl rs)), (ss, .inl (E.2.1, 49, .inl fs)), (tr, .inl (E.2.1, 14, .inl tri)), (h, .inr (9, [.int 0, .ref nw, .ref td, .ref tx, .int length, .int textSize, .int start, .int next, .int token, .int value, .int error, .int errorAt, .int seen, .int triedWith, .ref rr, .ref ss, .ref tr, .ref wa, .int undos, .ref ud, .ref sl, .ref sv]))] H := hP
    have hX : xD A [nw, td, rr, ss, tr, h] := xD.of hD rfl
    refine W.eq (g2 := F0 m 24 ls [.int 0]) rfl ?_
    refine lv_if_eq (tgt := 29) hx hb dX9_failedStep_24 (by decide) (fun c_3 => ?_) (fun c_3 => absurd (by decide) c_3)
    refine lv_aload_n hx hb dX9_failedStep_29 rfl (lv_at hl 0 rfl) ?_
    refine x_wV (wr := []) [] (kX9_lays l E h 0 nw td tx length textSize start next token value error errorAt seen triedWith rr ss tr wa undos ud sl sv now told rs fs tri hc3 hc0) ⟨hx, hb, hml, hown, hts⟩ (cwV 0 hts gX9_failedStep_X9_lays rfl rfl rfl hdX9_lays ⟨Nat.le_of_ble_eq_true rfl, Nat.le_of_ble_eq_true rfl⟩) hE hP (hX.d rfl) hS hA [5, 0, 1, 2, 3, 4] [] rfl rfl rfl rfl (by decide) (ci := 9) (q0 := 5) rfl rfl rfl hl.1 rfl rfl (Nat.le_of_ble_eq_true rfl) dX9_failedStep_30 (Nat.le_of_ble_eq_true rfl) (Nat.le_of_ble_eq_true rfl) (fun q_4 H locs hq_4 hP hD hS => ?_)
    have hP : va_P E.1 vwCl [(h, .inr (9, [.int 0, .ref nw, .ref td, .ref tx, .int length, .int textSize, .int start, .int next, .int token, .int value, .int error, .int errorAt, .int seen, .int q_4.1, .ref rr, .ref ss, .ref tr, .ref wa, .int undos, .ref ud, .ref sl, .ref sv])), (nw, .inl (E.2.1, 214, .inl now)), (td, .inl (E.2.1, 48, .inl told)), (rr, .inl (E.2.1, 49, .inl q_4.2.1)), (ss, .inl (E.2.1, 49, .inl q_4.2.2.1)), (tr, .inl (E.2.1, 14, .inl q_4.2.2.2))] H := hP
    have hX : xD A [h, nw, td, rr, ss, tr] := xD.of hD rfl
    refine W.eq (g2 := F0 m 33 ls []) rfl ?_
    refine lv_aload_n hx hb dX9_failedStep_33 rfl (lv_at hl 0 rfl) ?_
    refine va_get (D := E.1) (ci := 9) (v := .ref ss) (C := RX9) (T := TX9) (N := 22) hx hb hts g_2 hown hE.1 hP 0 rfl rfl 15 (by decide) g_3 (fun _ h9 => h9) rfl dX9_failedStep_34 ?_
    refine lv_iload_n hx hb dX9_failedStep_37 rfl (lv_at hl 1 rfl) ?_
    refine lv_iload_n hx hb dX9_failedStep_38 rfl (lv_at hl 2 rfl) ?_
    refine x_rS [.int i, .int j] (kX9_cell l E i j) ⟨hx, hb, hml, hown, hts⟩ (va_cwS 2 hts gX9_failedStep_X9_cell rfl rfl rfl hdX9_cell.2 ⟨Nat.le_of_ble_eq_true rfl, Nat.le_of_ble_eq_true rfl⟩) hE hP (hX.d rfl) [] rfl rfl hl.1 rfl rfl (Nat.le_of_ble_eq_true rfl) dX9_failedStep_39 (Nat.le_of_ble_eq_true rfl) (Nat.le_of_ble_eq_true rfl) ?_
    refine x_iald hx hb hE.1 hP 4 0 rfl rfl ((sX9_cell i j).toNatClampNeg) rfl (x_iscell hc3 hc0 c_1) dX9_failedStep_42 ?_
    exact x_wi (q_4.2.2.1 ((sX9_cell i j).toNatClampNeg), 0, q_4.1, q_4.2.1, q_4.2.2.1, q_4.2.2.2) (by unfold sX9_failedStep; rw [if_neg c_1]; rw [← hq_4]; unfold sX9_failedStep_q_4; try rfl) rfl hx hb hr hlk hS hP (hX.d rfl) [0, 1, 2, 3, 4, 5] rfl rfl (Nat.le_of_ble_eq_true rfl) (Nat.le_of_ble_eq_true rfl) dX9_failedStep_43
  · refine lv_iconst (v := 1) hx hb dX9_failedStep_15 (by decide) ?_
    refine lv_goto (tgt := 20) hx hb dX9_failedStep_16 (by decide) ?_
    refine lv_iconst (v := 1) hx hb dX9_failedStep_20 (by decide) ?_
    refine x_wV (wr := [(nw, .inl (E.2.1, 214, .inl now)), (td, .inl (E.2.1, 48, .inl told)), (rr, .inl (E.2.1, 49, .inl rs)), (ss, .inl (E.2.1, 49, .inl fs)), (tr, .inl (E.2.1, 14, .inl tri))]) [.int 1, .int 1] (kX9_throwsIf_11 l E h nw td tx length textSize start next token value error errorAt seen triedWith rr ss tr wa undos ud sl sv) ⟨hx, hb, hml, hown, hts⟩ (cwV 2 hts gX9_failedStep_X9_throwsIf rfl rfl rfl hdX9_throwsIf ⟨Nat.le_of_ble_eq_true rfl, Nat.le_of_ble_eq_true rfl⟩) hE hP (hX.d rfl) hS hA [0] [1, 2, 3, 4, 5] rfl rfl rfl rfl (by decide) (ci := 9) (q0 := 0) rfl rfl rfl hl.1 rfl rfl (Nat.le_of_ble_eq_true rfl) dX9_failedStep_21 (Nat.le_of_ble_eq_true rfl) (Nat.le_of_ble_eq_true rfl) (fun q_5 H locs hq_5 hP hD hS => ?_)
    have hP : va_P E.1 vwCl [(nw, .inl (E.2.1, 214, .inl now)), (td, .inl (E.2.1, 48, .inl told)), (rr, .inl (E.2.1, 49, .inl rs)), (ss, .inl (E.2.1, 49, .inl fs)), (tr, .inl (E.2.1, 14, .inl tri)), (h, .inr (9, [.int 1, .ref nw, .ref td, .ref tx, .int length, .int textSize, .int start, .int next, .int token, .int value, .int error, .int errorAt, .int seen, .int triedWith, .ref rr, .ref ss, .ref tr, .ref wa, .int undos, .ref ud, .ref sl, .ref sv]))] H := hP
    have hX : xD A [nw, td, rr, ss, tr, h] := xD.of hD rfl
    refine W.eq (g2 := F0 m 24 ls [.int 1]) rfl ?_
    refine lv_if_eq (tgt := 29) hx hb dX9_failedStep_24 (by decide) (fun c_6 => absurd c_6 (by decide)) (fun c_6 => ?_)
    refine lv_iconst (v := 0) hx hb dX9_failedStep_27 (by decide) ?_
    exact x_wi (0, 1, triedWith, rs, fs, tri) (by unfold sX9_failedStep; rw [if_pos c_1]; try rfl) rfl hx hb hr hlk hS hP (hX.d rfl) [5, 0, 1, 2, 3, 4] rfl rfl (Nat.le_of_ble_eq_true rfl) (Nat.le_of_ble_eq_true rfl) dX9_failedStep_28
def sX9_regionSize_q_1 (triedWith : Int32) (now : Nat → Int32) (told : Nat → Int32) (rs : Nat → Int32) (fs : Nat → Int32) (tri : Nat → Int32) (q_1 : Int32 × Int32 × (Nat → Int32) × (Nat → Int32) × (Nat → Int32)) : Int32 × Int32 × Int32 × (Nat → Int32) × (Nat → Int32) × (Nat → Int32) :=
  (q_1.1, 0, q_1.2.1, q_1.2.2.1, q_1.2.2.2.1, q_1.2.2.2.2)
def sX9_regionSize (triedWith : Int32) (now : Nat → Int32) (told : Nat → Int32) (rs : Nat → Int32) (fs : Nat → Int32) (tri : Nat → Int32) : Int32 × Int32 × Int32 × (Nat → Int32) × (Nat → Int32) × (Nat → Int32) :=
  sX9_regionSize_q_1 triedWith now told rs fs tri (sX9_cells triedWith now told rs fs tri 0)
theorem hdX9_regionSize : yX9_regionSize.cls = RX9 ∧ yX9_regionSize.cls ≠ "java/lang/invoke/MethodHandle" ∧ yX9_regionSize.cls ≠ "java/lang/invoke/VarHandle" ∧ (parseMethodDescriptor yX9_regionSize.desc).map (fun d => d.parameters.length) = some 0 := by decide +kernel
set_option maxHeartbeats 4000000 in
set_option maxRecDepth 100000 in
theorem kX9_regionSize (l : Launch) (E : XE) (h : Nat) (thrown : Int32) (nw : Nat) (td : Nat) (tx : Nat) (length : Int32) (textSize : Int32) (start : Int32) (next : Int32) (token : Int32) (value : Int32) (error : Int32) (errorAt : Int32) (seen : Int32) (triedWith : Int32) (rr : Nat) (ss : Nat) (tr : Nat) (wa : Nat) (undos : Int32) (ud : Nat) (sl : Nat) (sv : Nat) (now : Nat → Int32) (told : Nat → Int32) (rs : Nat → Int32) (fs : Nat → Int32) (tri : Nat → Int32) (hc3 : told 17 ≤ 3) (hc0 : 0 ≤ told 17) : xW (T := Int32 × Int32 × Int32 × (Nat → Int32) × (Nat → Int32) × (Nat → Int32)) l yX9_regionSize wsX9_regionSize ({ frames := 7, cells := 0, slots := 0, locals := 164 }) E [(h, .inr (9, [.int thrown, .ref nw, .ref td, .ref tx, .int length, .int textSize, .int start, .int next, .int token, .int value, .int error, .int errorAt, .int seen, .int triedWith, .ref rr, .ref ss, .ref tr, .ref wa, .int undos, .ref ud, .ref sl, .ref sv])), (nw, .inl (E.2.1, 214, .inl now)), (td, .inl (E.2.1, 48, .inl told)), (rr, .inl (E.2.1, 49, .inl rs)), (ss, .inl (E.2.1, 49, .inl fs)), (tr, .inl (E.2.1, 14, .inl tri))] [.ref h] (fun q => some (.int q.1)) (fun q => [(h, .inr (9, [.int q.2.1, .ref nw, .ref td, .ref tx, .int length, .int textSize, .int start, .int next, .int token, .int value, .int error, .int errorAt, .int seen, .int q.2.2.1, .ref rr, .ref ss, .ref tr, .ref wa, .int undos, .ref ud, .ref sl, .ref sv])), (nw, .inl (E.2.1, 214, .inl now)), (td, .inl (E.2.1, 48, .inl told)), (rr, .inl (E.2.1, 49, .inl q.2.2.2.1)), (ss, .inl (E.2.1, 49, .inl q.2.2.2.2.1)), (tr, .inl (E.2.1, 14, .inl q.2.2.2.2.2))]) (sX9_regionSize triedWith now told rs fs tri) 0 0 := by
  refine xW.of (cc := cX9_regionSize) (maxL := 1) (ret := (some .int)) (by decide) rfl (Nat.le_of_ble_eq_true rfl) ?_
  intro p e s m args below meth c ls A hM hE hP hD hS hA hl
  obtain ⟨hx, hb, hr, hml, hts, hown, hlk, hnm⟩ := hM
  have g_1 : (Cond.fieldLink RX9 55 "RailPendulumModel" "thrown" "I").before args s = true := hts (Cond.fieldLink RX9 55 "RailPendulumModel" "thrown" "I") (by decide +kernel)
  have g_2 : ∀ w ∈ wsX90, w ∈ wsX9_regionSize := by decide +kernel
  have hX : xD A [h, nw, td, rr, ss, tr] := xD.of hD rfl
  have hl : lv_has ls 1 [(0, .ref h)] := hl
  refine lv_aload_n hx hb dX9_regionSize_0 rfl (lv_at hl 0 rfl) ?_
  refine lv_iconst (v := 0) hx hb dX9_regionSize_1 (by decide) ?_
  refine va_put (D := E.1) (ci := 9) (v := .int 0) (ty := .int) (C := RX9) (T := TX9) (N := 22) hx hb hts g_2 tyX9 tyX9_ok nmX9 hown hE.1 hP (hX.d rfl) hS 0 rfl rfl 0 (by decide) g_1 (fun _ h9 => h9) rfl (by decide +kernel) rfl rfl (Nat.le_of_ble_eq_true rfl) dX9_regionSize_2 (fun H locs hP _ hS => ?_)
  have hP : va_P E.1 vwCl [(h, .inr (9, [.int 0, .ref nw, .ref td, .ref tx, .int length, .int textSize, .int start, .int next, .int token, .int value, .int error, .int errorAt, .int seen, .int triedWith, .ref rr, .ref ss, .ref tr, .ref wa, .int undos, .ref ud, .ref sl, .ref sv])), (nw, .inl (E.2.1, 214, .inl now)), (td, .inl (E.2.1, 48, .inl told)), (rr, .inl (E.2.1, 49, .inl rs)), (ss, .inl (E.2.1, 49, .inl fs)), (tr, .inl (E.2.1, 14, .inl tri))] H := hP
  refine lv_aload_n hx hb dX9_regionSize_5 rfl (lv_at hl 0 rfl) ?_
  refine lv_iconst (v := 0) hx hb dX9_regionSize_6 (by decide) ?_
  refine x_wV (wr := []) [.int 0] (kX9_cells l E h 0 nw td tx length textSize start next token value error errorAt seen triedWith rr ss tr wa undos ud sl sv now told rs fs tri 0 hc3 hc0) ⟨hx, hb, hml, hown, hts⟩ (cwV 1 hts gX9_regionSize_X9_cells rfl rfl rfl hdX9_cells ⟨Nat.le_of_ble_eq_true rfl, Nat.le_of_ble_eq_true rfl⟩) hE hP (hX.d rfl) hS hA [0, 1, 2, 3, 4, 5] [] rfl rfl rfl rfl (by decide) (ci := 9) (q0 := 0) rfl rfl rfl hl.1 rfl rfl (Nat.le_of_ble_eq_true rfl) dX9_regionSize_7 (Nat.le_of_ble_eq_true rfl) (Nat.le_of_ble_eq_true rfl) (fun q_1 H locs hq_1 hP hD hS => ?_)
  have hP : va_P E.1 vwCl [(h, .inr (9, [.int 0, .ref nw, .ref td, .ref tx, .int length, .int textSize, .int start, .int next, .int token, .int value, .int error, .int errorAt, .int seen, .int q_1.2.1, .ref rr, .ref ss, .ref tr, .ref wa, .int undos, .ref ud, .ref sl, .ref sv])), (nw, .inl (E.2.1, 214, .inl now)), (td, .inl (E.2.1, 48, .inl told)), (rr, .inl (E.2.1, 49, .inl q_1.2.2.1)), (ss, .inl (E.2.1, 49, .inl q_1.2.2.2.1)), (tr, .inl (E.2.1, 14, .inl q_1.2.2.2.2))] H := hP
  have hX : xD A [h, nw, td, rr, ss, tr] := xD.of hD rfl
  refine W.eq (g2 := F0 m 10 ls [.int q_1.1]) rfl ?_
  exact x_wi (q_1.1, 0, q_1.2.1, q_1.2.2.1, q_1.2.2.2.1, q_1.2.2.2.2) (by unfold sX9_regionSize; rw [← hq_1]; unfold sX9_regionSize_q_1; try rfl) rfl hx hb hr hlk hS hP (hX.d rfl) [0, 1, 2, 3, 4, 5] rfl rfl (Nat.le_of_ble_eq_true rfl) (Nat.le_of_ble_eq_true rfl) dX9_regionSize_10
def sX9_cellsWith_q_2 (triedWith : Int32) (now : Nat → Int32) (told : Nat → Int32) (rs : Nat → Int32) (fs : Nat → Int32) (tri : Nat → Int32) (reason : Int32) (q_2 : Int32 × Int32 × (Nat → Int32) × (Nat → Int32) × (Nat → Int32)) : Int32 × Int32 × Int32 × (Nat → Int32) × (Nat → Int32) × (Nat → Int32) :=
  (q_2.1, 0, q_2.2.1, q_2.2.2.1, q_2.2.2.2.1, q_2.2.2.2.2)
def sX9_cellsWith (triedWith : Int32) (now : Nat → Int32) (told : Nat → Int32) (rs : Nat → Int32) (fs : Nat → Int32) (tri : Nat → Int32) (reason : Int32) : Int32 × Int32 × Int32 × (Nat → Int32) × (Nat → Int32) × (Nat → Int32) :=
  if (sX9_within reason 0 4) = 0 then
    (0, 0, triedWith, rs, fs, tri)
  else
    sX9_cellsWith_q_2 triedWith now told rs fs tri reason (sX9_cells triedWith now told rs fs tri reason)
theorem hdX9_cellsWith : yX9_cellsWith.cls = RX9 ∧ yX9_cellsWith.cls ≠ "java/lang/invoke/MethodHandle" ∧ yX9_cellsWith.cls ≠ "java/lang/invoke/VarHandle" ∧ (parseMethodDescriptor yX9_cellsWith.desc).map (fun d => d.parameters.length) = some 1 := by decide +kernel
set_option maxHeartbeats 4000000 in
set_option maxRecDepth 100000 in
theorem kX9_cellsWith (l : Launch) (E : XE) (h : Nat) (thrown : Int32) (nw : Nat) (td : Nat) (tx : Nat) (length : Int32) (textSize : Int32) (start : Int32) (next : Int32) (token : Int32) (value : Int32) (error : Int32) (errorAt : Int32) (seen : Int32) (triedWith : Int32) (rr : Nat) (ss : Nat) (tr : Nat) (wa : Nat) (undos : Int32) (ud : Nat) (sl : Nat) (sv : Nat) (now : Nat → Int32) (told : Nat → Int32) (rs : Nat → Int32) (fs : Nat → Int32) (tri : Nat → Int32) (reason : Int32) (hc3 : told 17 ≤ 3) (hc0 : 0 ≤ told 17) : xW (T := Int32 × Int32 × Int32 × (Nat → Int32) × (Nat → Int32) × (Nat → Int32)) l yX9_cellsWith wsX9_cellsWith ({ frames := 7, cells := 0, slots := 0, locals := 164 }) E [(h, .inr (9, [.int thrown, .ref nw, .ref td, .ref tx, .int length, .int textSize, .int start, .int next, .int token, .int value, .int error, .int errorAt, .int seen, .int triedWith, .ref rr, .ref ss, .ref tr, .ref wa, .int undos, .ref ud, .ref sl, .ref sv])), (nw, .inl (E.2.1, 214, .inl now)), (td, .inl (E.2.1, 48, .inl told)), (rr, .inl (E.2.1, 49, .inl rs)), (ss, .inl (E.2.1, 49, .inl fs)), (tr, .inl (E.2.1, 14, .inl tri))] [.ref h, .int reason] (fun q => some (.int q.1)) (fun q => [(h, .inr (9, [.int q.2.1, .ref nw, .ref td, .ref tx, .int length, .int textSize, .int start, .int next, .int token, .int value, .int error, .int errorAt, .int seen, .int q.2.2.1, .ref rr, .ref ss, .ref tr, .ref wa, .int undos, .ref ud, .ref sl, .ref sv])), (nw, .inl (E.2.1, 214, .inl now)), (td, .inl (E.2.1, 48, .inl told)), (rr, .inl (E.2.1, 49, .inl q.2.2.2.1)), (ss, .inl (E.2.1, 49, .inl q.2.2.2.2.1)), (tr, .inl (E.2.1, 14, .inl q.2.2.2.2.2))]) (sX9_cellsWith triedWith now told rs fs tri reason) 0 0 := by
  refine xW.of (cc := cX9_cellsWith) (maxL := 2) (ret := (some .int)) (by decide) rfl (Nat.le_of_ble_eq_true rfl) ?_
  intro p e s m args below meth c ls A hM hE hP hD hS hA hl
  obtain ⟨hx, hb, hr, hml, hts, hown, hlk, hnm⟩ := hM
  have g_1 : (Cond.fieldLink RX9 55 "RailPendulumModel" "thrown" "I").before args s = true := hts (Cond.fieldLink RX9 55 "RailPendulumModel" "thrown" "I") (by decide +kernel)
  have g_2 : ∀ w ∈ wsX90, w ∈ wsX9_cellsWith := by decide +kernel
  have hX : xD A [h, nw, td, rr, ss, tr] := xD.of hD rfl
  have hl : lv_has ls 2 [(0, .ref h), (1, .int reason)] := hl
  refine lv_aload_n hx hb dX9_cellsWith_0 rfl (lv_at hl 0 rfl) ?_
  refine lv_iconst (v := 0) hx hb dX9_cellsWith_1 (by decide) ?_
  refine va_put (D := E.1) (ci := 9) (v := .int 0) (ty := .int) (C := RX9) (T := TX9) (N := 22) hx hb hts g_2 tyX9 tyX9_ok nmX9 hown hE.1 hP (hX.d rfl) hS 0 rfl rfl 0 (by decide) g_1 (fun _ h9 => h9) rfl (by decide +kernel) rfl rfl (Nat.le_of_ble_eq_true rfl) dX9_cellsWith_2 (fun H locs hP _ hS => ?_)
  have hP : va_P E.1 vwCl [(h, .inr (9, [.int 0, .ref nw, .ref td, .ref tx, .int length, .int textSize, .int start, .int next, .int token, .int value, .int error, .int errorAt, .int seen, .int triedWith, .ref rr, .ref ss, .ref tr, .ref wa, .int undos, .ref ud, .ref sl, .ref sv])), (nw, .inl (E.2.1, 214, .inl now)), (td, .inl (E.2.1, 48, .inl told)), (rr, .inl (E.2.1, 49, .inl rs)), (ss, .inl (E.2.1, 49, .inl fs)), (tr, .inl (E.2.1, 14, .inl tri))] H := hP
  refine lv_iload_n hx hb dX9_cellsWith_5 rfl (lv_at hl 1 rfl) ?_
  refine lv_iconst (v := 0) hx hb dX9_cellsWith_6 (by decide) ?_
  refine lv_iconst (v := 4) hx hb dX9_cellsWith_7 (by decide) ?_
  refine x_rS [.int reason, .int 0, .int 4] (kX9_within l E reason 0 4) ⟨hx, hb, hml, hown, hts⟩ (va_cwS 3 hts gX9_cellsWith_X9_within rfl rfl rfl hdX9_within.2 ⟨Nat.le_of_ble_eq_true rfl, Nat.le_of_ble_eq_true rfl⟩) hE hP (hX.d rfl) [] rfl rfl hl.1 rfl rfl (Nat.le_of_ble_eq_true rfl) dX9_cellsWith_8 (Nat.le_of_ble_eq_true rfl) (Nat.le_of_ble_eq_true rfl) ?_
  refine lv_if_eq (tgt := 22) hx hb dX9_cellsWith_11 (by decide) (fun c_1 => ?_) (fun c_1 => ?_)
  · refine lv_iconst (v := 0) hx hb dX9_cellsWith_22 (by decide) ?_
    exact x_wi (0, 0, triedWith, rs, fs, tri) (by unfold sX9_cellsWith; rw [if_pos c_1]; try rfl) rfl hx hb hr hlk hS hP (hX.d rfl) [0, 1, 2, 3, 4, 5] rfl rfl (Nat.le_of_ble_eq_true rfl) (Nat.le_of_ble_eq_true rfl) dX9_cellsWith_23
  · refine lv_aload_n hx hb dX9_cellsWith_14 rfl (lv_at hl 0 rfl) ?_
    refine lv_iload_n hx hb dX9_cellsWith_15 rfl (lv_at hl 1 rfl) ?_
    refine x_wV (wr := []) [.int reason] (kX9_cells l E h 0 nw td tx length textSize start next token value error errorAt seen triedWith rr ss tr wa undos ud sl sv now told rs fs tri reason hc3 hc0) ⟨hx, hb, hml, hown, hts⟩ (cwV 1 hts gX9_cellsWith_X9_cells rfl rfl rfl hdX9_cells ⟨Nat.le_of_ble_eq_true rfl, Nat.le_of_ble_eq_true rfl⟩) hE hP (hX.d rfl) hS hA [0, 1, 2, 3, 4, 5] [] rfl rfl rfl rfl (by decide) (ci := 9) (q0 := 0) rfl rfl rfl hl.1 rfl rfl (Nat.le_of_ble_eq_true rfl) dX9_cellsWith_16 (Nat.le_of_ble_eq_true rfl) (Nat.le_of_ble_eq_true rfl) (fun q_2 H locs hq_2 hP hD hS => ?_)
    have hP : va_P E.1 vwCl [(h, .inr (9, [.int 0, .ref nw, .ref td, .ref tx, .int length, .int textSize, .int start, .int next, .int token, .int value, .int error, .int errorAt, .int seen, .int q_2.2.1, .ref rr, .ref ss, .ref tr, .ref wa, .int undos, .ref ud, .ref sl, .ref sv])), (nw, .inl (E.2.1, 214, .inl now)), (td, .inl (E.2.1, 48, .inl told)), (rr, .inl (E.2.1, 49, .inl q_2.2.2.1)), (ss, .inl (E.2.1, 49, .inl q_2.2.2.2.1)), (tr, .inl (E.2.1, 14, .inl q_2.2.2.2.2))] H := hP
    have hX : xD A [h, nw, td, rr, ss, tr] := xD.of hD rfl
    refine W.eq (g2 := F0 m 19 ls [.int q_2.1]) rfl ?_
    refine lv_goto (tgt := 23) hx hb dX9_cellsWith_19 (by decide) ?_
    exact x_wi (q_2.1, 0, q_2.2.1, q_2.2.2.1, q_2.2.2.2.1, q_2.2.2.2.2) (by unfold sX9_cellsWith; rw [if_neg c_1]; rw [← hq_2]; unfold sX9_cellsWith_q_2; try rfl) rfl hx hb hr hlk hS hP (hX.d rfl) [0, 1, 2, 3, 4, 5] rfl rfl (Nat.le_of_ble_eq_true rfl) (Nat.le_of_ble_eq_true rfl) dX9_cellsWith_23
def sX9_isCapturable_q_1 (triedWith : Int32) (now : Nat → Int32) (told : Nat → Int32) (rs : Nat → Int32) (fs : Nat → Int32) (tri : Nat → Int32) (q_1 : Int32 × Int32 × (Nat → Int32) × (Nat → Int32) × (Nat → Int32)) : Int32 × Int32 × Int32 × (Nat → Int32) × (Nat → Int32) × (Nat → Int32) :=
  (q_1.1, 0, q_1.2.1, q_1.2.2.1, q_1.2.2.2.1, q_1.2.2.2.2)
def sX9_isCapturable (triedWith : Int32) (now : Nat → Int32) (told : Nat → Int32) (rs : Nat → Int32) (fs : Nat → Int32) (tri : Nat → Int32) : Int32 × Int32 × Int32 × (Nat → Int32) × (Nat → Int32) × (Nat → Int32) :=
  sX9_isCapturable_q_1 triedWith now told rs fs tri (sX9_canCapture triedWith now told rs fs tri)
theorem hdX9_isCapturable : yX9_isCapturable.cls = RX9 ∧ yX9_isCapturable.cls ≠ "java/lang/invoke/MethodHandle" ∧ yX9_isCapturable.cls ≠ "java/lang/invoke/VarHandle" ∧ (parseMethodDescriptor yX9_isCapturable.desc).map (fun d => d.parameters.length) = some 0 := by decide +kernel
set_option maxHeartbeats 4000000 in
set_option maxRecDepth 100000 in
theorem kX9_isCapturable (l : Launch) (E : XE) (h : Nat) (thrown : Int32) (nw : Nat) (td : Nat) (tx : Nat) (length : Int32) (textSize : Int32) (start : Int32) (next : Int32) (token : Int32) (value : Int32) (error : Int32) (errorAt : Int32) (seen : Int32) (triedWith : Int32) (rr : Nat) (ss : Nat) (tr : Nat) (wa : Nat) (undos : Int32) (ud : Nat) (sl : Nat) (sv : Nat) (now : Nat → Int32) (told : Nat → Int32) (rs : Nat → Int32) (fs : Nat → Int32) (tri : Nat → Int32) (hw1 : ¬ 2 * told 15 = 0) (hw2 : ¬ 2 * told 16 = 0) (hc3 : told 17 ≤ 3) (hc0 : 0 ≤ told 17) : xW (T := Int32 × Int32 × Int32 × (Nat → Int32) × (Nat → Int32) × (Nat → Int32)) l yX9_isCapturable wsX9_isCapturable ({ frames := 7, cells := 0, slots := 0, locals := 160 }) E [(h, .inr (9, [.int thrown, .ref nw, .ref td, .ref tx, .int length, .int textSize, .int start, .int next, .int token, .int value, .int error, .int errorAt, .int seen, .int triedWith, .ref rr, .ref ss, .ref tr, .ref wa, .int undos, .ref ud, .ref sl, .ref sv])), (nw, .inl (E.2.1, 214, .inl now)), (td, .inl (E.2.1, 48, .inl told)), (rr, .inl (E.2.1, 49, .inl rs)), (ss, .inl (E.2.1, 49, .inl fs)), (tr, .inl (E.2.1, 14, .inl tri))] [.ref h] (fun q => some (.int q.1)) (fun q => [(h, .inr (9, [.int q.2.1, .ref nw, .ref td, .ref tx, .int length, .int textSize, .int start, .int next, .int token, .int value, .int error, .int errorAt, .int seen, .int q.2.2.1, .ref rr, .ref ss, .ref tr, .ref wa, .int undos, .ref ud, .ref sl, .ref sv])), (nw, .inl (E.2.1, 214, .inl now)), (td, .inl (E.2.1, 48, .inl told)), (rr, .inl (E.2.1, 49, .inl q.2.2.2.1)), (ss, .inl (E.2.1, 49, .inl q.2.2.2.2.1)), (tr, .inl (E.2.1, 14, .inl q.2.2.2.2.2))]) (sX9_isCapturable triedWith now told rs fs tri) 0 0 := by
  refine xW.of (cc := cX9_isCapturable) (maxL := 1) (ret := (some .boolean)) (by decide) rfl (Nat.le_of_ble_eq_true rfl) ?_
  intro p e s m args below meth c ls A hM hE hP hD hS hA hl
  obtain ⟨hx, hb, hr, hml, hts, hown, hlk, hnm⟩ := hM
  have g_1 : (Cond.fieldLink RX9 55 "RailPendulumModel" "thrown" "I").before args s = true := hts (Cond.fieldLink RX9 55 "RailPendulumModel" "thrown" "I") (by decide +kernel)
  have g_2 : ∀ w ∈ wsX90, w ∈ wsX9_isCapturable := by decide +kernel
  have hX : xD A [h, nw, td, rr, ss, tr] := xD.of hD rfl
  have hl : lv_has ls 1 [(0, .ref h)] := hl
  refine lv_aload_n hx hb dX9_isCapturable_0 rfl (lv_at hl 0 rfl) ?_
  refine lv_iconst (v := 0) hx hb dX9_isCapturable_1 (by decide) ?_
  refine va_put (D := E.1) (ci := 9) (v := .int 0) (ty := .int) (C := RX9) (T := TX9) (N := 22) hx hb hts g_2 tyX9 tyX9_ok nmX9 hown hE.1 hP (hX.d rfl) hS 0 rfl rfl 0 (by decide) g_1 (fun _ h9 => h9) rfl (by decide +kernel) rfl rfl (Nat.le_of_ble_eq_true rfl) dX9_isCapturable_2 (fun H locs hP _ hS => ?_)
  have hP : va_P E.1 vwCl [(h, .inr (9, [.int 0, .ref nw, .ref td, .ref tx, .int length, .int textSize, .int start, .int next, .int token, .int value, .int error, .int errorAt, .int seen, .int triedWith, .ref rr, .ref ss, .ref tr, .ref wa, .int undos, .ref ud, .ref sl, .ref sv])), (nw, .inl (E.2.1, 214, .inl now)), (td, .inl (E.2.1, 48, .inl told)), (rr, .inl (E.2.1, 49, .inl rs)), (ss, .inl (E.2.1, 49, .inl fs)), (tr, .inl (E.2.1, 14, .inl tri))] H := hP
  refine lv_aload_n hx hb dX9_isCapturable_5 rfl (lv_at hl 0 rfl) ?_
  refine x_wV (wr := []) [] (kX9_canCapture l E h 0 nw td tx length textSize start next token value error errorAt seen triedWith rr ss tr wa undos ud sl sv now told rs fs tri hw1 hw2 hc3 hc0) ⟨hx, hb, hml, hown, hts⟩ (cwV 0 hts gX9_isCapturable_X9_canCapture rfl rfl rfl hdX9_canCapture ⟨Nat.le_of_ble_eq_true rfl, Nat.le_of_ble_eq_true rfl⟩) hE hP (hX.d rfl) hS hA [0, 1, 2, 3, 4, 5] [] rfl rfl rfl rfl (by decide) (ci := 9) (q0 := 0) rfl rfl rfl hl.1 rfl rfl (Nat.le_of_ble_eq_true rfl) dX9_isCapturable_6 (Nat.le_of_ble_eq_true rfl) (Nat.le_of_ble_eq_true rfl) (fun q_1 H locs hq_1 hP hD hS => ?_)
  have hP : va_P E.1 vwCl [(h, .inr (9, [.int 0, .ref nw, .ref td, .ref tx, .int length, .int textSize, .int start, .int next, .int token, .int value, .int error, .int errorAt, .int seen, .int q_1.2.1, .ref rr, .ref ss, .ref tr, .ref wa, .int undos, .ref ud, .ref sl, .ref sv])), (nw, .inl (E.2.1, 214, .inl now)), (td, .inl (E.2.1, 48, .inl told)), (rr, .inl (E.2.1, 49, .inl q_1.2.2.1)), (ss, .inl (E.2.1, 49, .inl q_1.2.2.2.1)), (tr, .inl (E.2.1, 14, .inl q_1.2.2.2.2))] H := hP
  have hX : xD A [h, nw, td, rr, ss, tr] := xD.of hD rfl
  refine W.eq (g2 := F0 m 9 ls [.int q_1.1]) rfl ?_
  exact x_wz (q_1.1, 0, q_1.2.1, q_1.2.2.1, q_1.2.2.2.1, q_1.2.2.2.2) (by unfold sX9_isCapturable; rw [← hq_1]; unfold sX9_isCapturable_q_1; try rfl) rfl hx hb hr hlk (x_nb (by rw [hq_1]; exact x_cc01 _ _ _ _ _ _)) hS hP (hX.d rfl) [0, 1, 2, 3, 4, 5] rfl rfl (Nat.le_of_ble_eq_true rfl) (Nat.le_of_ble_eq_true rfl) dX9_isCapturable_9
def sX9_push (now : Nat → Int32) (told : Nat → Int32) : Int32 × Int32 :=
  (sX9_pushNow now told, 0)
theorem hdX9_push : yX9_push.cls = RX9 ∧ yX9_push.cls ≠ "java/lang/invoke/MethodHandle" ∧ yX9_push.cls ≠ "java/lang/invoke/VarHandle" ∧ (parseMethodDescriptor yX9_push.desc).map (fun d => d.parameters.length) = some 0 := by decide +kernel
set_option maxHeartbeats 4000000 in
set_option maxRecDepth 100000 in
theorem kX9_push (l : Launch) (E : XE) (h : Nat) (thrown : Int32) (nw : Nat) (td : Nat) (tx : Nat) (length : Int32) (textSize : Int32) (start : Int32) (next : Int32) (token : Int32) (value : Int32) (error : Int32) (errorAt : Int32) (seen : Int32) (triedWith : Int32) (rr : Nat) (ss : Nat) (tr : Nat) (wa : Nat) (undos : Int32) (ud : Nat) (sl : Nat) (sv : Nat) (now : Nat → Int32) (told : Nat → Int32) : xW (T := Int32 × Int32) l yX9_push wsX9_push ({ frames := 4, cells := 0, slots := 0, locals := 90 }) E [(h, .inr (9, [.int thrown, .ref nw, .ref td, .ref tx, .int length, .int textSize, .int start, .int next, .int token, .int value, .int error, .int errorAt, .int seen, .int triedWith, .ref rr, .ref ss, .ref tr, .ref wa, .int undos, .ref ud, .ref sl, .ref sv])), (nw, .inl (E.2.1, 214, .inl now)), (td, .inl (E.2.1, 48, .inl told))] [.ref h] (fun q => some (.int q.1)) (fun q => [(h, .inr (9, [.int q.2, .ref nw, .ref td, .ref tx, .int length, .int textSize, .int start, .int next, .int token, .int value, .int error, .int errorAt, .int seen, .int triedWith, .ref rr, .ref ss, .ref tr, .ref wa, .int undos, .ref ud, .ref sl, .ref sv])), (nw, .inl (E.2.1, 214, .inl now)), (td, .inl (E.2.1, 48, .inl told))]) (sX9_push now told) 0 0 := by
  refine xW.of (cc := cX9_push) (maxL := 1) (ret := (some .int)) (by decide) rfl (Nat.le_of_ble_eq_true rfl) ?_
  intro p e s m args below meth c ls A hM hE hP hD hS hA hl
  obtain ⟨hx, hb, hr, hml, hts, hown, hlk, hnm⟩ := hM
  have g_1 : (Cond.fieldLink RX9 55 "RailPendulumModel" "thrown" "I").before args s = true := hts (Cond.fieldLink RX9 55 "RailPendulumModel" "thrown" "I") (by decide +kernel)
  have g_2 : ∀ w ∈ wsX90, w ∈ wsX9_push := by decide +kernel
  have hX : xD A [h, nw, td] := xD.of hD rfl
  have hl : lv_has ls 1 [(0, .ref h)] := hl
  refine lv_aload_n hx hb dX9_push_0 rfl (lv_at hl 0 rfl) ?_
  refine lv_iconst (v := 0) hx hb dX9_push_1 (by decide) ?_
  refine va_put (D := E.1) (ci := 9) (v := .int 0) (ty := .int) (C := RX9) (T := TX9) (N := 22) hx hb hts g_2 tyX9 tyX9_ok nmX9 hown hE.1 hP (hX.d rfl) hS 0 rfl rfl 0 (by decide) g_1 (fun _ h9 => h9) rfl (by decide +kernel) rfl rfl (Nat.le_of_ble_eq_true rfl) dX9_push_2 (fun H locs hP _ hS => ?_)
  have hP : va_P E.1 vwCl [(h, .inr (9, [.int 0, .ref nw, .ref td, .ref tx, .int length, .int textSize, .int start, .int next, .int token, .int value, .int error, .int errorAt, .int seen, .int triedWith, .ref rr, .ref ss, .ref tr, .ref wa, .int undos, .ref ud, .ref sl, .ref sv])), (nw, .inl (E.2.1, 214, .inl now)), (td, .inl (E.2.1, 48, .inl told))] H := hP
  refine lv_aload_n hx hb dX9_push_5 rfl (lv_at hl 0 rfl) ?_
  refine x_rV [] (kX9_pushNow l E h 0 nw td tx length textSize start next token value error errorAt seen triedWith rr ss tr wa undos ud sl sv now told) ⟨hx, hb, hml, hown, hts⟩ (cwV 0 hts gX9_push_X9_pushNow rfl rfl rfl hdX9_pushNow ⟨Nat.le_of_ble_eq_true rfl, Nat.le_of_ble_eq_true rfl⟩) hE hP (hX.d rfl) [0, 1, 2] rfl rfl (ci := 9) (q0 := 0) rfl rfl rfl hl.1 rfl rfl (Nat.le_of_ble_eq_true rfl) dX9_push_6 (Nat.le_of_ble_eq_true rfl) (Nat.le_of_ble_eq_true rfl) ?_
  exact x_wi (sX9_pushNow now told, 0) (by unfold sX9_push; try rfl) rfl hx hb hr hlk hS hP (hX.d rfl) [0, 1, 2] rfl rfl (Nat.le_of_ble_eq_true rfl) (Nat.le_of_ble_eq_true rfl) dX9_push_9
def sX9_stopReason (now : Nat → Int32) : Int32 × Int32 :=
  (now 9, 0)
theorem hdX9_stopReason : yX9_stopReason.cls = RX9 ∧ yX9_stopReason.cls ≠ "java/lang/invoke/MethodHandle" ∧ yX9_stopReason.cls ≠ "java/lang/invoke/VarHandle" ∧ (parseMethodDescriptor yX9_stopReason.desc).map (fun d => d.parameters.length) = some 0 := by decide +kernel
set_option maxHeartbeats 4000000 in
set_option maxRecDepth 100000 in
theorem kX9_stopReason (l : Launch) (E : XE) (h : Nat) (thrown : Int32) (nw : Nat) (td : Nat) (tx : Nat) (length : Int32) (textSize : Int32) (start : Int32) (next : Int32) (token : Int32) (value : Int32) (error : Int32) (errorAt : Int32) (seen : Int32) (triedWith : Int32) (rr : Nat) (ss : Nat) (tr : Nat) (wa : Nat) (undos : Int32) (ud : Nat) (sl : Nat) (sv : Nat) (now : Nat → Int32) : xW (T := Int32 × Int32) l yX9_stopReason wsX9_stopReason ({ frames := 0, cells := 0, slots := 0, locals := 0 }) E [(h, .inr (9, [.int thrown, .ref nw, .ref td, .ref tx, .int length, .int textSize, .int start, .int next, .int token, .int value, .int error, .int errorAt, .int seen, .int triedWith, .ref rr, .ref ss, .ref tr, .ref wa, .int undos, .ref ud, .ref sl, .ref sv])), (nw, .inl (E.2.1, 214, .inl now))] [.ref h] (fun q => some (.int q.1)) (fun q => [(h, .inr (9, [.int q.2, .ref nw, .ref td, .ref tx, .int length, .int textSize, .int start, .int next, .int token, .int value, .int error, .int errorAt, .int seen, .int triedWith, .ref rr, .ref ss, .ref tr, .ref wa, .int undos, .ref ud, .ref sl, .ref sv])), (nw, .inl (E.2.1, 214, .inl now))]) (sX9_stopReason now) 0 0 := by
  refine xW.of (cc := cX9_stopReason) (maxL := 1) (ret := (some .int)) (by decide) rfl (Nat.le_of_ble_eq_true rfl) ?_
  intro p e s m args below meth c ls A hM hE hP hD hS hA hl
  obtain ⟨hx, hb, hr, hml, hts, hown, hlk, hnm⟩ := hM
  have g_1 : (Cond.fieldLink RX9 55 "RailPendulumModel" "thrown" "I").before args s = true := hts (Cond.fieldLink RX9 55 "RailPendulumModel" "thrown" "I") (by decide +kernel)
  have g_2 : ∀ w ∈ wsX90, w ∈ wsX9_stopReason := by decide +kernel
  have g_3 : (Cond.fieldLink RX9 7 "RailPendulumModel" "now" "[I").before args s = true := hts (Cond.fieldLink RX9 7 "RailPendulumModel" "now" "[I") (by decide +kernel)
  have hX : xD A [h, nw] := xD.of hD rfl
  have hl : lv_has ls 1 [(0, .ref h)] := hl
  refine lv_aload_n hx hb dX9_stopReason_0 rfl (lv_at hl 0 rfl) ?_
  refine lv_iconst (v := 0) hx hb dX9_stopReason_1 (by decide) ?_
  refine va_put (D := E.1) (ci := 9) (v := .int 0) (ty := .int) (C := RX9) (T := TX9) (N := 22) hx hb hts g_2 tyX9 tyX9_ok nmX9 hown hE.1 hP (hX.d rfl) hS 0 rfl rfl 0 (by decide) g_1 (fun _ h9 => h9) rfl (by decide +kernel) rfl rfl (Nat.le_of_ble_eq_true rfl) dX9_stopReason_2 (fun H locs hP _ hS => ?_)
  have hP : va_P E.1 vwCl [(h, .inr (9, [.int 0, .ref nw, .ref td, .ref tx, .int length, .int textSize, .int start, .int next, .int token, .int value, .int error, .int errorAt, .int seen, .int triedWith, .ref rr, .ref ss, .ref tr, .ref wa, .int undos, .ref ud, .ref sl, .ref sv])), (nw, .inl (E.2.1, 214, .inl now))] H := hP
  refine lv_aload_n hx hb dX9_stopReason_5 rfl (lv_at hl 0 rfl) ?_
  refine va_get (D := E.1) (ci := 9) (v := .ref nw) (C := RX9) (T := TX9) (N := 22) hx hb hts g_2 hown hE.1 hP 0 rfl rfl 1 (by decide) g_3 (fun _ h9 => h9) rfl dX9_stopReason_6 ?_
  refine lv_bipush (v := 9) hx hb dX9_stopReason_9 (by decide) ?_
  refine x_iald hx hb hE.1 hP 1 0 rfl rfl 9 (by decide) (by unfold vp_in; decide) dX9_stopReason_11 ?_
  exact x_wi (now 9, 0) (by unfold sX9_stopReason; try rfl) rfl hx hb hr hlk hS hP (hX.d rfl) [0, 1] rfl rfl (Nat.le_of_ble_eq_true rfl) (Nat.le_of_ble_eq_true rfl) dX9_stopReason_12
def sX9_switchesIn (now : Nat → Int32) (ticks : Int32) : Int32 × Int32 :=
  if (sX9_within ticks 1 200) = 0 then
    (0, 1)
  else
    (sX9_switchesOf now ticks, 0)
theorem hdX9_switchesIn : yX9_switchesIn.cls = RX9 ∧ yX9_switchesIn.cls ≠ "java/lang/invoke/MethodHandle" ∧ yX9_switchesIn.cls ≠ "java/lang/invoke/VarHandle" ∧ (parseMethodDescriptor yX9_switchesIn.desc).map (fun d => d.parameters.length) = some 1 := by decide +kernel
set_option maxHeartbeats 4000000 in
set_option maxRecDepth 100000 in
theorem kX9_switchesIn (l : Launch) (E : XE) (h : Nat) (thrown : Int32) (nw : Nat) (td : Nat) (tx : Nat) (length : Int32) (textSize : Int32) (start : Int32) (next : Int32) (token : Int32) (value : Int32) (error : Int32) (errorAt : Int32) (seen : Int32) (triedWith : Int32) (rr : Nat) (ss : Nat) (tr : Nat) (wa : Nat) (undos : Int32) (ud : Nat) (sl : Nat) (sv : Nat) (now : Nat → Int32) (ticks : Int32) : xW (T := Int32 × Int32) l yX9_switchesIn wsX9_switchesIn ({ frames := 1, cells := 0, slots := 0, locals := 23 }) E [(h, .inr (9, [.int thrown, .ref nw, .ref td, .ref tx, .int length, .int textSize, .int start, .int next, .int token, .int value, .int error, .int errorAt, .int seen, .int triedWith, .ref rr, .ref ss, .ref tr, .ref wa, .int undos, .ref ud, .ref sl, .ref sv])), (nw, .inl (E.2.1, 214, .inl now))] [.ref h, .int ticks] (fun q => some (.int q.1)) (fun q => [(h, .inr (9, [.int q.2, .ref nw, .ref td, .ref tx, .int length, .int textSize, .int start, .int next, .int token, .int value, .int error, .int errorAt, .int seen, .int triedWith, .ref rr, .ref ss, .ref tr, .ref wa, .int undos, .ref ud, .ref sl, .ref sv])), (nw, .inl (E.2.1, 214, .inl now))]) (sX9_switchesIn now ticks) 0 0 := by
  refine xW.of (cc := cX9_switchesIn) (maxL := 2) (ret := (some .int)) (by decide) rfl (Nat.le_of_ble_eq_true rfl) ?_
  intro p e s m args below meth c ls A hM hE hP hD hS hA hl
  obtain ⟨hx, hb, hr, hml, hts, hown, hlk, hnm⟩ := hM
  have g_1 : (Cond.fieldLink RX9 55 "RailPendulumModel" "thrown" "I").before args s = true := hts (Cond.fieldLink RX9 55 "RailPendulumModel" "thrown" "I") (by decide +kernel)
  have g_2 : ∀ w ∈ wsX90, w ∈ wsX9_switchesIn := by decide +kernel
  have hX : xD A [h, nw] := xD.of hD rfl
  have hl : lv_has ls 2 [(0, .ref h), (1, .int ticks)] := hl
  refine lv_aload_n hx hb dX9_switchesIn_0 rfl (lv_at hl 0 rfl) ?_
  refine lv_iconst (v := 0) hx hb dX9_switchesIn_1 (by decide) ?_
  refine va_put (D := E.1) (ci := 9) (v := .int 0) (ty := .int) (C := RX9) (T := TX9) (N := 22) hx hb hts g_2 tyX9 tyX9_ok nmX9 hown hE.1 hP (hX.d rfl) hS 0 rfl rfl 0 (by decide) g_1 (fun _ h9 => h9) rfl (by decide +kernel) rfl rfl (Nat.le_of_ble_eq_true rfl) dX9_switchesIn_2 (fun H locs hP _ hS => ?_)
  have hP : va_P E.1 vwCl [(h, .inr (9, [.int 0, .ref nw, .ref td, .ref tx, .int length, .int textSize, .int start, .int next, .int token, .int value, .int error, .int errorAt, .int seen, .int triedWith, .ref rr, .ref ss, .ref tr, .ref wa, .int undos, .ref ud, .ref sl, .ref sv])), (nw, .inl (E.2.1, 214, .inl now))] H := hP
  refine lv_aload_n hx hb dX9_switchesIn_5 rfl (lv_at hl 0 rfl) ?_
  refine lv_iload_n hx hb dX9_switchesIn_6 rfl (lv_at hl 1 rfl) ?_
  refine lv_iconst (v := 1) hx hb dX9_switchesIn_7 (by decide) ?_
  refine lv_sipush (v := 200) hx hb dX9_switchesIn_8 (by decide) ?_
  refine x_rS [.int ticks, .int 1, .int 200] (kX9_within l E ticks 1 200) ⟨hx, hb, hml, hown, hts⟩ (va_cwS 3 hts gX9_switchesIn_X9_within rfl rfl rfl hdX9_within.2 ⟨Nat.le_of_ble_eq_true rfl, Nat.le_of_ble_eq_true rfl⟩) hE hP (hX.d rfl) [] rfl rfl hl.1 rfl rfl (Nat.le_of_ble_eq_true rfl) dX9_switchesIn_11 (Nat.le_of_ble_eq_true rfl) (Nat.le_of_ble_eq_true rfl) ?_
  refine lv_if_ne (tgt := 21) hx hb dX9_switchesIn_14 (by decide) (fun c_1 => ?_) (fun c_1 => ?_)
  · refine lv_iconst (v := 0) hx hb dX9_switchesIn_21 (by decide) ?_
    refine lv_iconst (v := 1) hx hb dX9_switchesIn_22 (by decide) ?_
    refine x_wV (wr := [(nw, .inl (E.2.1, 214, .inl now))]) [.int 0, .int 1] (kX9_throwsIf_0 l E h nw td tx length textSize start next token value error errorAt seen triedWith rr ss tr wa undos ud sl sv 1) ⟨hx, hb, hml, hown, hts⟩ (cwV 2 hts gX9_switchesIn_X9_throwsIf rfl rfl rfl hdX9_throwsIf ⟨Nat.le_of_ble_eq_true rfl, Nat.le_of_ble_eq_true rfl⟩) hE hP (hX.d rfl) hS hA [0] [1] rfl rfl rfl rfl (by decide) (ci := 9) (q0 := 0) rfl rfl rfl hl.1 rfl rfl (Nat.le_of_ble_eq_true rfl) dX9_switchesIn_23 (Nat.le_of_ble_eq_true rfl) (Nat.le_of_ble_eq_true rfl) (fun q_2 H locs hq_2 hP hD hS => ?_)
    have hP : va_P E.1 vwCl [(nw, .inl (E.2.1, 214, .inl now)), (h, .inr (9, [.int 0, .ref nw, .ref td, .ref tx, .int length, .int textSize, .int start, .int next, .int token, .int value, .int error, .int errorAt, .int seen, .int triedWith, .ref rr, .ref ss, .ref tr, .ref wa, .int undos, .ref ud, .ref sl, .ref sv]))] H := hP
    have hX : xD A [nw, h] := xD.of hD rfl
    refine W.eq (g2 := F0 m 26 ls [.int 0]) rfl ?_
    refine lv_if_eq (tgt := 33) hx hb dX9_switchesIn_26 (by decide) (fun c_3 => ?_) (fun c_3 => absurd (by decide) c_3)
    refine lv_aload_n hx hb dX9_switchesIn_33 rfl (lv_at hl 0 rfl) ?_
    refine lv_iload_n hx hb dX9_switchesIn_34 rfl (lv_at hl 1 rfl) ?_
    refine x_rV [.int ticks] (kX9_switchesOf l E h 0 nw td tx length textSize start next token value error errorAt seen triedWith rr ss tr wa undos ud sl sv now ticks) ⟨hx, hb, hml, hown, hts⟩ (cwV 1 hts gX9_switchesIn_X9_switchesOf rfl rfl rfl hdX9_switchesOf ⟨Nat.le_of_ble_eq_true rfl, Nat.le_of_ble_eq_true rfl⟩) hE hP (hX.d rfl) [1, 0] rfl rfl (ci := 9) (q0 := 1) rfl rfl rfl hl.1 rfl rfl (Nat.le_of_ble_eq_true rfl) dX9_switchesIn_35 (Nat.le_of_ble_eq_true rfl) (Nat.le_of_ble_eq_true rfl) ?_
    exact x_wi (sX9_switchesOf now ticks, 0) (by unfold sX9_switchesIn; rw [if_neg c_1]; try rfl) rfl hx hb hr hlk hS hP (hX.d rfl) [1, 0] rfl rfl (Nat.le_of_ble_eq_true rfl) (Nat.le_of_ble_eq_true rfl) dX9_switchesIn_38
  · refine lv_iconst (v := 1) hx hb dX9_switchesIn_17 (by decide) ?_
    refine lv_goto (tgt := 22) hx hb dX9_switchesIn_18 (by decide) ?_
    refine lv_iconst (v := 1) hx hb dX9_switchesIn_22 (by decide) ?_
    refine x_wV (wr := [(nw, .inl (E.2.1, 214, .inl now))]) [.int 1, .int 1] (kX9_throwsIf_11 l E h nw td tx length textSize start next token value error errorAt seen triedWith rr ss tr wa undos ud sl sv) ⟨hx, hb, hml, hown, hts⟩ (cwV 2 hts gX9_switchesIn_X9_throwsIf rfl rfl rfl hdX9_throwsIf ⟨Nat.le_of_ble_eq_true rfl, Nat.le_of_ble_eq_true rfl⟩) hE hP (hX.d rfl) hS hA [0] [1] rfl rfl rfl rfl (by decide) (ci := 9) (q0 := 0) rfl rfl rfl hl.1 rfl rfl (Nat.le_of_ble_eq_true rfl) dX9_switchesIn_23 (Nat.le_of_ble_eq_true rfl) (Nat.le_of_ble_eq_true rfl) (fun q_4 H locs hq_4 hP hD hS => ?_)
    have hP : va_P E.1 vwCl [(nw, .inl (E.2.1, 214, .inl now)), (h, .inr (9, [.int 1, .ref nw, .ref td, .ref tx, .int length, .int textSize, .int start, .int next, .int token, .int value, .int error, .int errorAt, .int seen, .int triedWith, .ref rr, .ref ss, .ref tr, .ref wa, .int undos, .ref ud, .ref sl, .ref sv]))] H := hP
    have hX : xD A [nw, h] := xD.of hD rfl
    refine W.eq (g2 := F0 m 26 ls [.int 1]) rfl ?_
    refine lv_if_eq (tgt := 33) hx hb dX9_switchesIn_26 (by decide) (fun c_5 => absurd c_5 (by decide)) (fun c_5 => ?_)
    refine lv_iconst (v := 0) hx hb dX9_switchesIn_29 (by decide) ?_
    refine lv_goto (tgt := 38) hx hb dX9_switchesIn_30 (by decide) ?_
    exact x_wi (0, 1) (by unfold sX9_switchesIn; rw [if_pos c_1]; try rfl) rfl hx hb hr hlk hS hP (hX.d rfl) [1, 0] rfl rfl (Nat.le_of_ble_eq_true rfl) (Nat.le_of_ble_eq_true rfl) dX9_switchesIn_38
