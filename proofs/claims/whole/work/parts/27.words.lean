theorem hdJ0_coder_7d493 : yJ0_coder_7d493.cls = RJ0 ∧ yJ0_coder_7d493.cls ≠ "java/lang/invoke/MethodHandle" ∧ yJ0_coder_7d493.cls ≠ "java/lang/invoke/VarHandle" ∧ (parseMethodDescriptor yJ0_coder_7d493.desc).map (fun d => d.parameters.length) = some 0 := by decide +kernel
set_option maxHeartbeats 4000000 in
set_option maxRecDepth 100000 in
theorem kJ0_coder_7d493 (l : Launch) (E : XE) (Z : XZ) (wi : Nat) (hi : wi < 10) : xRZ l yJ0_coder_7d493 wsJ0_coder_7d493 ({ frames := 0, cells := 0, slots := 0, locals := 0 }) E Z [] [.ref (xK Z wi)] (.int (0)) := by
  refine xRZ.of (cc := cJ0_coder_7d493) (maxL := 1) (ret := (some .byte)) (by decide) rfl (Nat.le_of_ble_eq_true rfl) ?_
  intro p e s m args below meth c ls hM hE hP hD hZ hl
  obtain ⟨hx, hb, hr, hml, hts, hown, hlk, hnm⟩ := hM
  have g_1 : (Cond.fieldLink RJ0 38 "java/lang/String" "COMPACT_STRINGS" "Z").before args s = true := hts (Cond.fieldLink RJ0 38 "java/lang/String" "COMPACT_STRINGS" "Z") (by decide +kernel)
  have g_2 : (Cond.fieldLink RJ0 15 "java/lang/String" "coder" "B").before args s = true := hts (Cond.fieldLink RJ0 15 "java/lang/String" "coder" "B") (by decide +kernel)
  have hS : va_S (fun _ => False) s.heap s.heap [] := va_S.rf
  have hl : lv_has ls 1 [(0, .ref (xK Z wi))] := hl
  refine va_gets hx hb hZ.2.2.2.2.2.1 hS hown g_1 (fun _ h9 => h9) dJ0_coder_7d493_0 ?_
  refine lv_if_eq (tgt := 13) hx hb dJ0_coder_7d493_3 (by decide) (fun c_1 => absurd c_1 (by decide)) (fun c_1 => ?_)
  refine lv_aload_n hx hb dJ0_coder_7d493_6 rfl (lv_at hl 0 rfl) ?_
  refine vk_getf hx hb (hZ.2.2.2.2.1.1 wi hi).2.1 hS hown g_2 (fun _ h9 => h9) dJ0_coder_7d493_7 ?_
  refine lv_goto (tgt := 14) hx hb dJ0_coder_7d493_10 (by decide) ?_
  exact x_zr rfl hx hb hr hlk rfl dJ0_coder_7d493_14
def sJ0_length_8abf5 (wi : Nat) : Int32 :=
  (nI (xWl wi)) >>> (0 &&& 31)
theorem hdJ0_length_8abf5 : yJ0_length_8abf5.cls = RJ0 ∧ yJ0_length_8abf5.cls ≠ "java/lang/invoke/MethodHandle" ∧ yJ0_length_8abf5.cls ≠ "java/lang/invoke/VarHandle" ∧ (parseMethodDescriptor yJ0_length_8abf5.desc).map (fun d => d.parameters.length) = some 0 := by decide +kernel
set_option maxHeartbeats 4000000 in
set_option maxRecDepth 100000 in
theorem kJ0_length_8abf5 (l : Launch) (E : XE) (Z : XZ) (wi : Nat) (hi : wi < 10) : xRZ l yJ0_length_8abf5 wsJ0_length_8abf5 ({ frames := 1, cells := 0, slots := 0, locals := 20 }) E Z [] [.ref (xK Z wi)] (.int (sJ0_length_8abf5 wi)) := by
  refine xRZ.of (cc := cJ0_length_8abf5) (maxL := 1) (ret := (some .int)) (by decide) rfl (Nat.le_of_ble_eq_true rfl) ?_
  intro p e s m args below meth c ls hM hE hP hD hZ hl
  obtain ⟨hx, hb, hr, hml, hts, hown, hlk, hnm⟩ := hM
  have g_1 : (Cond.fieldLink RJ0 9 "java/lang/String" "value" "[B").before args s = true := hts (Cond.fieldLink RJ0 9 "java/lang/String" "value" "[B") (by decide +kernel)
  have hS : va_S (fun _ => False) s.heap s.heap [] := va_S.rf
  have hl : lv_has ls 1 [(0, .ref (xK Z wi))] := hl
  refine lv_aload_n hx hb dJ0_length_8abf5_0 rfl (lv_at hl 0 rfl) ?_
  refine vk_getf hx hb (hZ.2.2.2.2.1.1 wi hi).2.2.1 hS hown g_1 (fun _ h9 => h9) dJ0_length_8abf5_1 ?_
  refine va_tlen (v := nI (xWl wi)) hx hb (hZ.2.2.2.2.1.1 wi hi).2.2.2 hS rfl dJ0_length_8abf5_4 ?_
  refine lv_aload_n hx hb dJ0_length_8abf5_5 rfl (lv_at hl 0 rfl) ?_
  refine x_zK hi [] (kJ0_coder_7d493 l E Z wi hi) ⟨hx, hb, hml, hown, hts⟩ (cwV 0 hts gJ0_length_8abf5_J0_coder_7d493 rfl rfl rfl hdJ0_coder_7d493 ⟨Nat.le_of_ble_eq_true rfl, Nat.le_of_ble_eq_true rfl⟩) hZ hS hE hP hD [] rfl rfl hl.1 rfl rfl (Nat.le_of_ble_eq_true rfl) dJ0_length_8abf5_6 (Nat.le_of_ble_eq_true rfl) (Nat.le_of_ble_eq_true rfl) ?_
  refine lv_ishr hx hb dJ0_length_8abf5_9 ?_
  exact x_ir (by unfold sJ0_length_8abf5; try rfl) hx hb hr hlk dJ0_length_8abf5_10
theorem hdJ0_isLatin1_aae02 : yJ0_isLatin1_aae02.cls = RJ0 ∧ yJ0_isLatin1_aae02.cls ≠ "java/lang/invoke/MethodHandle" ∧ yJ0_isLatin1_aae02.cls ≠ "java/lang/invoke/VarHandle" ∧ (parseMethodDescriptor yJ0_isLatin1_aae02.desc).map (fun d => d.parameters.length) = some 0 := by decide +kernel
set_option maxHeartbeats 4000000 in
set_option maxRecDepth 100000 in
theorem kJ0_isLatin1_aae02 (l : Launch) (E : XE) (Z : XZ) (wi : Nat) (hi : wi < 10) : xRZ l yJ0_isLatin1_aae02 wsJ0_isLatin1_aae02 ({ frames := 0, cells := 0, slots := 0, locals := 0 }) E Z [] [.ref (xK Z wi)] (.int (1)) := by
  refine xRZ.of (cc := cJ0_isLatin1_aae02) (maxL := 1) (ret := (some .boolean)) (by decide) rfl (Nat.le_of_ble_eq_true rfl) ?_
  intro p e s m args below meth c ls hM hE hP hD hZ hl
  obtain ⟨hx, hb, hr, hml, hts, hown, hlk, hnm⟩ := hM
  have g_1 : (Cond.fieldLink RJ0 38 "java/lang/String" "COMPACT_STRINGS" "Z").before args s = true := hts (Cond.fieldLink RJ0 38 "java/lang/String" "COMPACT_STRINGS" "Z") (by decide +kernel)
  have g_2 : (Cond.fieldLink RJ0 15 "java/lang/String" "coder" "B").before args s = true := hts (Cond.fieldLink RJ0 15 "java/lang/String" "coder" "B") (by decide +kernel)
  have hS : va_S (fun _ => False) s.heap s.heap [] := va_S.rf
  have hl : lv_has ls 1 [(0, .ref (xK Z wi))] := hl
  refine va_gets hx hb hZ.2.2.2.2.2.1 hS hown g_1 (fun _ h9 => h9) dJ0_isLatin1_aae02_0 ?_
  refine lv_if_eq (tgt := 17) hx hb dJ0_isLatin1_aae02_3 (by decide) (fun c_1 => absurd c_1 (by decide)) (fun c_1 => ?_)
  refine lv_aload_n hx hb dJ0_isLatin1_aae02_6 rfl (lv_at hl 0 rfl) ?_
  refine vk_getf hx hb (hZ.2.2.2.2.1.1 wi hi).2.1 hS hown g_2 (fun _ h9 => h9) dJ0_isLatin1_aae02_7 ?_
  refine lv_if_ne (tgt := 17) hx hb dJ0_isLatin1_aae02_10 (by decide) (fun c_2 => absurd rfl c_2) (fun c_2 => ?_)
  refine lv_iconst (v := 1) hx hb dJ0_isLatin1_aae02_13 (by decide) ?_
  refine lv_goto (tgt := 18) hx hb dJ0_isLatin1_aae02_14 (by decide) ?_
  exact x_zr rfl hx hb hr hlk rfl dJ0_isLatin1_aae02_18
def sJ3_checkIndex_8e157_n (index : Int32) : Int32 :=
  index
theorem hdJ3_checkIndex_8e157 : yJ3_checkIndex_8e157.cls = RJ3 ∧ yJ3_checkIndex_8e157.cls ≠ "java/lang/invoke/MethodHandle" ∧ yJ3_checkIndex_8e157.cls ≠ "java/lang/invoke/VarHandle" ∧ (parseMethodDescriptor yJ3_checkIndex_8e157.desc).map (fun d => d.parameters.length) = some 3 := by decide +kernel
set_option maxHeartbeats 4000000 in
set_option maxRecDepth 100000 in
theorem kJ3_checkIndex_8e157_n (l : Launch) (E : XE) (index : Int32) (n_ : Int32) (h1 : ¬ index < 0) (h2 : index < n_) : xR l yJ3_checkIndex_8e157 wsJ3_checkIndex_8e157 ({ frames := 0, cells := 0, slots := 0, locals := 0 }) E [] [.int index, .int n_, .null] (.int (sJ3_checkIndex_8e157_n index)) := by
  refine xR.of (cc := cJ3_checkIndex_8e157) (maxL := 3) (ret := (some .int)) (by decide) rfl (Nat.le_of_ble_eq_true rfl) ?_
  intro p e s m args below meth c ls hM hE hP hD hl
  obtain ⟨hx, hb, hr, hml, hts, hown, hlk, hnm⟩ := hM
  have hl : lv_has ls 3 [(0, .int index), (1, .int n_), (2, .null)] := hl
  refine lv_iload_n hx hb dJ3_checkIndex_8e157_0 rfl (lv_at hl 0 rfl) ?_
  refine lv_if_lt (tgt := 9) hx hb dJ3_checkIndex_8e157_1 (by decide) (fun c_1 => absurd c_1 h1) (fun _ => ?_)
  refine lv_iload_n hx hb dJ3_checkIndex_8e157_4 rfl (lv_at hl 0 rfl) ?_
  refine lv_iload_n hx hb dJ3_checkIndex_8e157_5 rfl (lv_at hl 1 rfl) ?_
  refine lv_icmp_lt (tgt := 16) hx hb dJ3_checkIndex_8e157_6 (by decide) (fun _ => ?_) (fun c_2 => absurd h2 c_2)
  refine lv_iload_n hx hb dJ3_checkIndex_8e157_16 rfl (lv_at hl 0 rfl) ?_
  exact x_ir (by unfold sJ3_checkIndex_8e157_n; try rfl) hx hb hr hlk dJ3_checkIndex_8e157_17
def sJ3_checkIndex_8e157_r (index : Int32) : Int32 :=
  index
set_option maxHeartbeats 4000000 in
set_option maxRecDepth 100000 in
theorem kJ3_checkIndex_8e157_r (l : Launch) (E : XE) (index : Int32) (n_ : Int32) (f : Nat) (h1 : ¬ index < 0) (h2 : index < n_) : xR l yJ3_checkIndex_8e157 wsJ3_checkIndex_8e157 ({ frames := 0, cells := 0, slots := 0, locals := 0 }) E [] [.int index, .int n_, .ref f] (.int (sJ3_checkIndex_8e157_r index)) := by
  refine xR.of (cc := cJ3_checkIndex_8e157) (maxL := 3) (ret := (some .int)) (by decide) rfl (Nat.le_of_ble_eq_true rfl) ?_
  intro p e s m args below meth c ls hM hE hP hD hl
  obtain ⟨hx, hb, hr, hml, hts, hown, hlk, hnm⟩ := hM
  have hl : lv_has ls 3 [(0, .int index), (1, .int n_), (2, .ref f)] := hl
  refine lv_iload_n hx hb dJ3_checkIndex_8e157_0 rfl (lv_at hl 0 rfl) ?_
  refine lv_if_lt (tgt := 9) hx hb dJ3_checkIndex_8e157_1 (by decide) (fun c_1 => absurd c_1 h1) (fun _ => ?_)
  refine lv_iload_n hx hb dJ3_checkIndex_8e157_4 rfl (lv_at hl 0 rfl) ?_
  refine lv_iload_n hx hb dJ3_checkIndex_8e157_5 rfl (lv_at hl 1 rfl) ?_
  refine lv_icmp_lt (tgt := 16) hx hb dJ3_checkIndex_8e157_6 (by decide) (fun _ => ?_) (fun c_2 => absurd h2 c_2)
  refine lv_iload_n hx hb dJ3_checkIndex_8e157_16 rfl (lv_at hl 0 rfl) ?_
  exact x_ir (by unfold sJ3_checkIndex_8e157_r; try rfl) hx hb hr hlk dJ3_checkIndex_8e157_17
theorem hdJ0_checkIndex_df160 : yJ0_checkIndex_df160.cls = RJ0 ∧ yJ0_checkIndex_df160.cls ≠ "java/lang/invoke/MethodHandle" ∧ yJ0_checkIndex_df160.cls ≠ "java/lang/invoke/VarHandle" ∧ (parseMethodDescriptor yJ0_checkIndex_df160.desc).map (fun d => d.parameters.length) = some 2 := by decide +kernel
set_option maxHeartbeats 4000000 in
set_option maxRecDepth 100000 in
theorem kJ0_checkIndex_df160 (l : Launch) (E : XE) (Z : XZ) (index : Int32) (n_ : Int32) (h1 : ¬ index < 0) (h2 : index < n_) : xR0Z l yJ0_checkIndex_df160 wsJ0_checkIndex_df160 ({ frames := 1, cells := 0, slots := 0, locals := 22 }) E Z [] [.int index, .int n_] := by
  refine xR0Z.of (cc := cJ0_checkIndex_df160) (maxL := 2) (ret := none) (by decide) rfl (Nat.le_of_ble_eq_true rfl) ?_
  intro p e s m args below meth c ls hM hE hP hD hZ hl
  obtain ⟨hx, hb, hr, hml, hts, hown, hlk, hnm⟩ := hM
  have g_1 : (Cond.fieldLink RJ0 1053 "jdk/internal/util/Preconditions" "SIOOBE_FORMATTER" "Ljava/util/function/BiFunction;").before args s = true := hts (Cond.fieldLink RJ0 1053 "jdk/internal/util/Preconditions" "SIOOBE_FORMATTER" "Ljava/util/function/BiFunction;") (by decide +kernel)
  have hS : va_S (fun _ => False) s.heap s.heap [] := va_S.rf
  have hl : lv_has ls 2 [(0, .int index), (1, .int n_)] := hl
  refine lv_iload_n hx hb dJ0_checkIndex_df160_0 rfl (lv_at hl 0 rfl) ?_
  refine lv_iload_n hx hb dJ0_checkIndex_df160_1 rfl (lv_at hl 1 rfl) ?_
  rcases hZ.2.2.2.2.2.2.1 with hz9 | ⟨t9, hz9⟩
  · refine va_gets hx hb hz9 hS hown g_1 (fun _ h9 => h9) dJ0_checkIndex_df160_2 ?_
    refine x_rS [.int index, .int n_, .null] (kJ3_checkIndex_8e157_n l E index n_ h1 h2) ⟨hx, hb, hml, hown, hts⟩ (va_cwS 3 hts gJ0_checkIndex_df160_J3_checkIndex_8e157 rfl rfl rfl hdJ3_checkIndex_8e157.2 ⟨Nat.le_of_ble_eq_true rfl, Nat.le_of_ble_eq_true rfl⟩) hE hP hD [] rfl rfl hl.1 rfl rfl (Nat.le_of_ble_eq_true rfl) dJ0_checkIndex_df160_5 (Nat.le_of_ble_eq_true rfl) (Nat.le_of_ble_eq_true rfl) ?_
    refine lv_pop hx hb dJ0_checkIndex_df160_8 rfl ?_
    exact x_vr hx hb hr hlk dJ0_checkIndex_df160_9
  · refine va_gets hx hb hz9 hS hown g_1 (fun _ h9 => h9) dJ0_checkIndex_df160_2 ?_
    refine x_rS [.int index, .int n_, .ref t9] (kJ3_checkIndex_8e157_r l E index n_ t9 h1 h2) ⟨hx, hb, hml, hown, hts⟩ (va_cwS 3 hts gJ0_checkIndex_df160_J3_checkIndex_8e157 rfl rfl rfl hdJ3_checkIndex_8e157.2 ⟨Nat.le_of_ble_eq_true rfl, Nat.le_of_ble_eq_true rfl⟩) hE hP hD [] rfl rfl hl.1 rfl rfl (Nat.le_of_ble_eq_true rfl) dJ0_checkIndex_df160_5 (Nat.le_of_ble_eq_true rfl) (Nat.le_of_ble_eq_true rfl) ?_
    refine lv_pop hx hb dJ0_checkIndex_df160_8 rfl ?_
    exact x_vr hx hb hr hlk dJ0_checkIndex_df160_9
def sJ1_charAt_3b067 (wi : Nat) (index : Int32) : Int32 :=
  (((xWb wi index.toNatClampNeg) &&& 255).toUInt32 % 65536).toInt32
theorem hdJ1_charAt_3b067 : yJ1_charAt_3b067.cls = RJ1 ∧ yJ1_charAt_3b067.cls ≠ "java/lang/invoke/MethodHandle" ∧ yJ1_charAt_3b067.cls ≠ "java/lang/invoke/VarHandle" ∧ (parseMethodDescriptor yJ1_charAt_3b067.desc).map (fun d => d.parameters.length) = some 2 := by decide +kernel
set_option maxHeartbeats 4000000 in
set_option maxRecDepth 100000 in
theorem kJ1_charAt_3b067 (l : Launch) (E : XE) (Z : XZ) (wi : Nat) (index : Int32) (hi : wi < 10) (h1 : ¬ index < 0) (h2 : index < nI (xWl wi)) : xRZ l yJ1_charAt_3b067 wsJ1_charAt_3b067 ({ frames := 2, cells := 0, slots := 0, locals := 43 }) E Z [] [.ref (xV Z wi), .int index] (.int (sJ1_charAt_3b067 wi index)) := by
  refine xRZ.of (cc := cJ1_charAt_3b067) (maxL := 2) (ret := (some .char)) (by decide) rfl (Nat.le_of_ble_eq_true rfl) ?_
  intro p e s m args below meth c ls hM hE hP hD hZ hl
  obtain ⟨hx, hb, hr, hml, hts, hown, hlk, hnm⟩ := hM
  have hS : va_S (fun _ => False) s.heap s.heap [] := va_S.rf
  have hl : lv_has ls 2 [(0, .ref (xV Z wi)), (1, .int index)] := hl
  refine lv_iload_n hx hb dJ1_charAt_3b067_0 rfl (lv_at hl 1 rfl) ?_
  refine lv_aload_n hx hb dJ1_charAt_3b067_1 rfl (lv_at hl 0 rfl) ?_
  refine va_tlen (v := nI (xWl wi)) hx hb (hZ.2.2.2.2.1.1 wi hi).2.2.2 hS rfl dJ1_charAt_3b067_2 ?_
  refine x_z0S [.int index, .int (nI (xWl wi))] (kJ0_checkIndex_df160 l E Z index (nI (xWl wi)) h1 h2) ⟨hx, hb, hml, hown, hts⟩ (va_cwS 2 hts gJ1_charAt_3b067_J0_checkIndex_df160 rfl rfl rfl hdJ0_checkIndex_df160.2 ⟨Nat.le_of_ble_eq_true rfl, Nat.le_of_ble_eq_true rfl⟩) hZ hS hE hP hD [] rfl rfl hl.1 rfl rfl (Nat.le_of_ble_eq_true rfl) dJ1_charAt_3b067_3 (Nat.le_of_ble_eq_true rfl) (Nat.le_of_ble_eq_true rfl) ?_
  refine W.eq (g2 := F0 m 6 ls []) rfl ?_
  refine lv_aload_n hx hb dJ1_charAt_3b067_6 rfl (lv_at hl 0 rfl) ?_
  refine lv_iload_n hx hb dJ1_charAt_3b067_7 rfl (lv_at hl 1 rfl) ?_
  refine va_tb (v := .int (xWb wi index.toNatClampNeg)) hx hb (hZ.2.2.2.2.1.1 wi hi).2.2.2 hS (x_in h1 h2 (x_wlen wi hi)) rfl dJ1_charAt_3b067_8 ?_
  refine lv_sipush (v := 255) hx hb dJ1_charAt_3b067_9 (by decide) ?_
  refine lv_iand hx hb dJ1_charAt_3b067_12 ?_
  refine lv_i2c (v := (((xWb wi index.toNatClampNeg) &&& 255).toUInt32 % 65536).toInt32) hx hb dJ1_charAt_3b067_13 rfl ?_
  exact x_zr (by unfold sJ1_charAt_3b067; try rfl) hx hb hr hlk (pk_nc _) dJ1_charAt_3b067_14
theorem x_nc1 (wi : Nat) (index : Int32) : narrow .char (.int (sJ1_charAt_3b067 wi index)) = .int (sJ1_charAt_3b067 wi index) := pk_nc _
theorem x_len (wi : Nat) (h : wi < 10) : sJ0_length_8abf5 wi = nI (xWl wi) := by
  have : ∀ i, i < 10 → sJ0_length_8abf5 i = nI (xWl i) := by decide +kernel
  exact this wi h
theorem x_ltlen {wi : Nat} {k : Int32} (h : wi < 10) (c : ¬ sJ0_length_8abf5 wi ≤ k) : k < nI (xWl wi) := by
  rw [x_len wi h] at c
  exact Int32.not_le.mp c
def sJ0_charAt_5068e (wi : Nat) (index : Int32) : Int32 :=
  sJ1_charAt_3b067 wi index
theorem hdJ0_charAt_5068e : yJ0_charAt_5068e.cls = RJ0 ∧ yJ0_charAt_5068e.cls ≠ "java/lang/invoke/MethodHandle" ∧ yJ0_charAt_5068e.cls ≠ "java/lang/invoke/VarHandle" ∧ (parseMethodDescriptor yJ0_charAt_5068e.desc).map (fun d => d.parameters.length) = some 1 := by decide +kernel
set_option maxHeartbeats 4000000 in
set_option maxRecDepth 100000 in
theorem kJ0_charAt_5068e (l : Launch) (E : XE) (Z : XZ) (wi : Nat) (index : Int32) (hi : wi < 10) (h1 : ¬ index < 0) (h2 : index < nI (xWl wi)) : xRZ l yJ0_charAt_5068e wsJ0_charAt_5068e ({ frames := 3, cells := 0, slots := 0, locals := 64 }) E Z [] [.ref (xK Z wi), .int index] (.int (sJ0_charAt_5068e wi index)) := by
  refine xRZ.of (cc := cJ0_charAt_5068e) (maxL := 2) (ret := (some .char)) (by decide) rfl (Nat.le_of_ble_eq_true rfl) ?_
  intro p e s m args below meth c ls hM hE hP hD hZ hl
  obtain ⟨hx, hb, hr, hml, hts, hown, hlk, hnm⟩ := hM
  have g_1 : (Cond.fieldLink RJ0 9 "java/lang/String" "value" "[B").before args s = true := hts (Cond.fieldLink RJ0 9 "java/lang/String" "value" "[B") (by decide +kernel)
  have hS : va_S (fun _ => False) s.heap s.heap [] := va_S.rf
  have hl : lv_has ls 2 [(0, .ref (xK Z wi)), (1, .int index)] := hl
  refine lv_aload_n hx hb dJ0_charAt_5068e_0 rfl (lv_at hl 0 rfl) ?_
  refine x_zK hi [] (kJ0_isLatin1_aae02 l E Z wi hi) ⟨hx, hb, hml, hown, hts⟩ (cwV 0 hts gJ0_charAt_5068e_J0_isLatin1_aae02 rfl rfl rfl hdJ0_isLatin1_aae02 ⟨Nat.le_of_ble_eq_true rfl, Nat.le_of_ble_eq_true rfl⟩) hZ hS hE hP hD [] rfl rfl hl.1 rfl rfl (Nat.le_of_ble_eq_true rfl) dJ0_charAt_5068e_1 (Nat.le_of_ble_eq_true rfl) (Nat.le_of_ble_eq_true rfl) ?_
  refine lv_if_eq (tgt := 16) hx hb dJ0_charAt_5068e_4 (by decide) (fun c_1 => absurd c_1 (by decide)) (fun c_1 => ?_)
  refine lv_aload_n hx hb dJ0_charAt_5068e_7 rfl (lv_at hl 0 rfl) ?_
  refine vk_getf hx hb (hZ.2.2.2.2.1.1 wi hi).2.2.1 hS hown g_1 (fun _ h9 => h9) dJ0_charAt_5068e_8 ?_
  refine lv_iload_n hx hb dJ0_charAt_5068e_11 rfl (lv_at hl 1 rfl) ?_
  refine x_zS [.ref (xV Z wi), .int index] (kJ1_charAt_3b067 l E Z wi index hi h1 h2) ⟨hx, hb, hml, hown, hts⟩ (va_cwS 2 hts gJ0_charAt_5068e_J1_charAt_3b067 rfl rfl rfl hdJ1_charAt_3b067.2 ⟨Nat.le_of_ble_eq_true rfl, Nat.le_of_ble_eq_true rfl⟩) hZ hS hE hP hD [] rfl rfl hl.1 rfl rfl (Nat.le_of_ble_eq_true rfl) dJ0_charAt_5068e_12 (Nat.le_of_ble_eq_true rfl) (Nat.le_of_ble_eq_true rfl) ?_
  exact x_zr (by unfold sJ0_charAt_5068e; try rfl) hx hb hr hlk (x_nc1 _ _) dJ0_charAt_5068e_15
def sX8_wordOf (sort : Int32) : Nat :=
  if sort = 0 then
    0
  else
    if sort = 1 then
      1
    else
      if sort = 2 then
        2
      else
        if sort = 3 then
          3
        else
          if sort = 4 then
            4
          else
            if sort = 5 then
              5
            else
              if sort = 6 then
                6
              else
                if sort = 7 then
                  7
                else
                  if sort = 8 then
                    8
                  else
                    9
theorem hdX8_wordOf : yX8_wordOf.cls = RX8 ∧ yX8_wordOf.cls ≠ "java/lang/invoke/MethodHandle" ∧ yX8_wordOf.cls ≠ "java/lang/invoke/VarHandle" ∧ (parseMethodDescriptor yX8_wordOf.desc).map (fun d => d.parameters.length) = some 1 := by decide +kernel
set_option maxHeartbeats 4000000 in
set_option maxRecDepth 100000 in
theorem kX8_wordOf (l : Launch) (E : XE) (Z : XZ) (sort : Int32) : xRZ l yX8_wordOf wsX8_wordOf ({ frames := 0, cells := 0, slots := 0, locals := 0 }) E Z [] [.int sort] (.ref (xK Z (sX8_wordOf sort))) := by
  refine xRZ.of (cc := cX8_wordOf) (maxL := 1) (ret := (some (.object "java/lang/String"))) (by decide) rfl (Nat.le_of_ble_eq_true rfl) ?_
  intro p e s m args below meth c ls hM hE hP hD hZ hl
  obtain ⟨hx, hb, hr, hml, hts, hown, hlk, hnm⟩ := hM
  have hS : va_S (fun _ => False) s.heap s.heap [] := va_S.rf
  have hl : lv_has ls 1 [(0, .int sort)] := hl
  refine lv_iload_n hx hb dX8_wordOf_0 rfl (lv_at hl 0 rfl) ?_
  by_cases c_1 : sort = 0
  · refine lv_tableIn (tgt := 52) (off := 51) hx hb dX8_wordOf_1 (by rw [c_1]; decide) (by rw [c_1]; decide) (by rw [c_1]; rfl) (by decide) ?_
    refine x_ldcSW hx hb hown ((hZ.2.2.2.2.2.2.2 0 _ _ _).1 rfl) dX8_wordOf_52 ?_
    exact x_arE (congrArg (xK Z) (by unfold sX8_wordOf; rw [if_pos c_1]; try rfl)) hx hb hr hlk (Or.inl ⟨_, rfl⟩) dX8_wordOf_55
  · by_cases c_2 : sort = 1
    · refine lv_tableIn (tgt := 56) (off := 55) hx hb dX8_wordOf_1 (by rw [c_2]; decide) (by rw [c_2]; decide) (by rw [c_2]; rfl) (by decide) ?_
      refine x_ldcSW hx hb hown ((hZ.2.2.2.2.2.2.2 1 _ _ _).1 rfl) dX8_wordOf_56 ?_
      exact x_arE (congrArg (xK Z) (by unfold sX8_wordOf; rw [if_neg c_1]; rw [if_pos c_2]; try rfl)) hx hb hr hlk (Or.inl ⟨_, rfl⟩) dX8_wordOf_59
    · by_cases c_3 : sort = 2
      · refine lv_tableIn (tgt := 60) (off := 59) hx hb dX8_wordOf_1 (by rw [c_3]; decide) (by rw [c_3]; decide) (by rw [c_3]; rfl) (by decide) ?_
        refine x_ldcSW hx hb hown ((hZ.2.2.2.2.2.2.2 2 _ _ _).1 rfl) dX8_wordOf_60 ?_
        exact x_arE (congrArg (xK Z) (by unfold sX8_wordOf; rw [if_neg c_1]; rw [if_neg c_2]; rw [if_pos c_3]; try rfl)) hx hb hr hlk (Or.inl ⟨_, rfl⟩) dX8_wordOf_63
      · by_cases c_4 : sort = 3
        · refine lv_tableIn (tgt := 64) (off := 63) hx hb dX8_wordOf_1 (by rw [c_4]; decide) (by rw [c_4]; decide) (by rw [c_4]; rfl) (by decide) ?_
          refine x_ldcSW hx hb hown ((hZ.2.2.2.2.2.2.2 3 _ _ _).1 rfl) dX8_wordOf_64 ?_
          exact x_arE (congrArg (xK Z) (by unfold sX8_wordOf; rw [if_neg c_1]; rw [if_neg c_2]; rw [if_neg c_3]; rw [if_pos c_4]; try rfl)) hx hb hr hlk (Or.inl ⟨_, rfl⟩) dX8_wordOf_67
        · by_cases c_5 : sort = 4
          · refine lv_tableIn (tgt := 68) (off := 67) hx hb dX8_wordOf_1 (by rw [c_5]; decide) (by rw [c_5]; decide) (by rw [c_5]; rfl) (by decide) ?_
            refine x_ldcSW hx hb hown ((hZ.2.2.2.2.2.2.2 4 _ _ _).1 rfl) dX8_wordOf_68 ?_
            exact x_arE (congrArg (xK Z) (by unfold sX8_wordOf; rw [if_neg c_1]; rw [if_neg c_2]; rw [if_neg c_3]; rw [if_neg c_4]; rw [if_pos c_5]; try rfl)) hx hb hr hlk (Or.inl ⟨_, rfl⟩) dX8_wordOf_71
          · by_cases c_6 : sort = 5
            · refine lv_tableIn (tgt := 72) (off := 71) hx hb dX8_wordOf_1 (by rw [c_6]; decide) (by rw [c_6]; decide) (by rw [c_6]; rfl) (by decide) ?_
              refine x_ldcSW hx hb hown ((hZ.2.2.2.2.2.2.2 5 _ _ _).1 rfl) dX8_wordOf_72 ?_
              exact x_arE (congrArg (xK Z) (by unfold sX8_wordOf; rw [if_neg c_1]; rw [if_neg c_2]; rw [if_neg c_3]; rw [if_neg c_4]; rw [if_neg c_5]; rw [if_pos c_6]; try rfl)) hx hb hr hlk (Or.inl ⟨_, rfl⟩) dX8_wordOf_75
            · by_cases c_7 : sort = 6
              · refine lv_tableIn (tgt := 76) (off := 75) hx hb dX8_wordOf_1 (by rw [c_7]; decide) (by rw [c_7]; decide) (by rw [c_7]; rfl) (by decide) ?_
                refine x_ldcSW hx hb hown ((hZ.2.2.2.2.2.2.2 6 _ _ _).1 rfl) dX8_wordOf_76 ?_
                exact x_arE (congrArg (xK Z) (by unfold sX8_wordOf; rw [if_neg c_1]; rw [if_neg c_2]; rw [if_neg c_3]; rw [if_neg c_4]; rw [if_neg c_5]; rw [if_neg c_6]; rw [if_pos c_7]; try rfl)) hx hb hr hlk (Or.inl ⟨_, rfl⟩) dX8_wordOf_79
              · by_cases c_8 : sort = 7
                · refine lv_tableIn (tgt := 80) (off := 79) hx hb dX8_wordOf_1 (by rw [c_8]; decide) (by rw [c_8]; decide) (by rw [c_8]; rfl) (by decide) ?_
                  refine x_ldcSW hx hb hown ((hZ.2.2.2.2.2.2.2 7 _ _ _).1 rfl) dX8_wordOf_80 ?_
                  exact x_arE (congrArg (xK Z) (by unfold sX8_wordOf; rw [if_neg c_1]; rw [if_neg c_2]; rw [if_neg c_3]; rw [if_neg c_4]; rw [if_neg c_5]; rw [if_neg c_6]; rw [if_neg c_7]; rw [if_pos c_8]; try rfl)) hx hb hr hlk (Or.inl ⟨_, rfl⟩) dX8_wordOf_83
                · by_cases c_9 : sort = 8
                  · refine lv_tableIn (tgt := 84) (off := 83) hx hb dX8_wordOf_1 (by rw [c_9]; decide) (by rw [c_9]; decide) (by rw [c_9]; rfl) (by decide) ?_
                    refine x_ldcSW hx hb hown ((hZ.2.2.2.2.2.2.2 8 _ _ _).1 rfl) dX8_wordOf_84 ?_
                    exact x_arE (congrArg (xK Z) (by unfold sX8_wordOf; rw [if_neg c_1]; rw [if_neg c_2]; rw [if_neg c_3]; rw [if_neg c_4]; rw [if_neg c_5]; rw [if_neg c_6]; rw [if_neg c_7]; rw [if_neg c_8]; rw [if_pos c_9]; try rfl)) hx hb hr hlk (Or.inl ⟨_, rfl⟩) dX8_wordOf_87
                  · refine lv_tableOut (tgt := 88) hx hb dX8_wordOf_1 (x_out0_8 c_1 c_2 c_3 c_4 c_5 c_6 c_7 c_8 c_9) (by decide) ?_
                    refine x_ldcSW hx hb hown ((hZ.2.2.2.2.2.2.2 9 _ _ _).1 rfl) dX8_wordOf_88 ?_
                    exact x_arE (congrArg (xK Z) (by unfold sX8_wordOf; rw [if_neg c_1]; rw [if_neg c_2]; rw [if_neg c_3]; rw [if_neg c_4]; rw [if_neg c_5]; rw [if_neg c_6]; rw [if_neg c_7]; rw [if_neg c_8]; rw [if_neg c_9]; try rfl)) hx hb hr hlk (Or.inl ⟨_, rfl⟩) dX8_wordOf_91
theorem x_wordlt (sort : Int32) : sX8_wordOf sort < 10 := by
  unfold sX8_wordOf
  repeat' split
  all_goals decide
def sX3_isWord_l20 (start : Int32) (buf : Nat → Int32) (wi : Nat) (kont_20 : Int32 → Int32) : Nat → Int32 → Int32
  | 0, k_20 => kont_20 k_20
  | kk_20 + 1, k_20 =>
    if (sJ0_length_8abf5 wi) ≤ k_20 then
      kont_20 k_20
    else
      if (sJ0_charAt_5068e wi k_20) = (sX8_valueAt 500 buf (start + k_20)) then
        sX3_isWord_l20 start buf wi kont_20 kk_20 (k_20 + 1)
      else
        0
theorem sX3_isWord_l20_s (start : Int32) (buf : Nat → Int32) (wi : Nat) (kont_20 : Int32 → Int32) (kk_20 : Nat) (k_20 : Int32) : sX3_isWord_l20 start buf wi kont_20 (kk_20 + 1) k_20 =
    if (sJ0_length_8abf5 wi) ≤ k_20 then
      kont_20 k_20
    else
      if (sJ0_charAt_5068e wi k_20) = (sX8_valueAt 500 buf (start + k_20)) then
        sX3_isWord_l20 start buf wi kont_20 kk_20 (k_20 + 1)
      else
        0 := rfl
def sX3_isWord (start : Int32) (next : Int32) (buf : Nat → Int32) (wi : Nat) : Int32 :=
  if (sJ0_length_8abf5 wi) = (next - start) then
    sX3_isWord_l20 start buf wi (fun (k_20 : Int32) => 1) (xMu (sJ0_length_8abf5 wi) 0 + 1) 0
  else
    0
theorem hdX3_isWord : yX3_isWord.cls = RX3 ∧ yX3_isWord.cls ≠ "java/lang/invoke/MethodHandle" ∧ yX3_isWord.cls ≠ "java/lang/invoke/VarHandle" ∧ (parseMethodDescriptor yX3_isWord.desc).map (fun d => d.parameters.length) = some 1 := by decide +kernel
set_option maxHeartbeats 4000000 in
set_option maxRecDepth 100000 in
theorem kX3_isWord (l : Launch) (E : XE) (Z : XZ) (h : Nat) (bu : Nat) (nu : Nat) (used : Int32) (en : Int32) (met : Int32) (start : Int32) (next : Int32) (kind : Int32) (value : Int32) (buf : Nat → Int32) (wi : Nat) (hi : wi < 10) : xRZ l yX3_isWord wsX3_isWord ({ frames := 4, cells := 0, slots := 0, locals := 85 }) E Z [(h, .inr (3, [.ref bu, .ref nu, .int used, .int en, .int met, .int start, .int next, .int kind, .int value])), (bu, .inl (E.2.1, 500, .inl buf))] [.ref h, .ref (xK Z wi)] (.int (sX3_isWord start next buf wi)) := by
  refine xRZ.of (cc := cX3_isWord) (maxL := 3) (ret := (some .boolean)) (by decide) rfl (Nat.le_of_ble_eq_true rfl) ?_
  intro p e s m args below meth c ls hM hE hP hD hZ hl
  obtain ⟨hx, hb, hr, hml, hts, hown, hlk, hnm⟩ := hM
  have g_1 : (Cond.fieldLink RX3 36 "RailPendulum$PlantReader" "next" "I").before args s = true := hts (Cond.fieldLink RX3 36 "RailPendulum$PlantReader" "next" "I") (by decide +kernel)
  have g_2 : ∀ w ∈ wsX30, w ∈ wsX3_isWord := by decide +kernel
  have g_3 : (Cond.fieldLink RX3 88 "RailPendulum$PlantReader" "start" "I").before args s = true := hts (Cond.fieldLink RX3 88 "RailPendulum$PlantReader" "start" "I") (by decide +kernel)
  have g_4 : (Cond.fieldLink RX3 9 "RailPendulum$PlantReader" "buffer" "[I").before args s = true := hts (Cond.fieldLink RX3 9 "RailPendulum$PlantReader" "buffer" "[I") (by decide +kernel)
  have g_5 : (Cond.initialized yX8_valueAt.cls).before args s = true := hts _ (by decide +kernel)
  have g_6 : (Cond.static yX8_valueAt).before args s = true := hts (Cond.static yX8_valueAt) (by decide +kernel)
  have g_7 : va_Nw (.methodLinkNest RX3 58 yX8_valueAt "RailPendulum") s := hE.2 _ (by decide +kernel)
  have hS : va_S (fun _ => False) s.heap s.heap [] := va_S.rf
  have hl : lv_has ls 3 [(0, .ref h), (1, .ref (xK Z wi))] := hl
  refine lv_aload_n hx hb dX3_isWord_0 rfl (lv_at hl 1 rfl) ?_
  refine x_zK hi [] (kJ0_length_8abf5 l E Z wi hi) ⟨hx, hb, hml, hown, hts⟩ (cwV 0 hts gX3_isWord_J0_length_8abf5 rfl rfl rfl hdJ0_length_8abf5 ⟨Nat.le_of_ble_eq_true rfl, Nat.le_of_ble_eq_true rfl⟩) hZ hS hE hP hD [] rfl rfl hl.1 rfl rfl (Nat.le_of_ble_eq_true rfl) dX3_isWord_1 (Nat.le_of_ble_eq_true rfl) (Nat.le_of_ble_eq_true rfl) ?_
  refine lv_aload_n hx hb dX3_isWord_4 rfl (lv_at hl 0 rfl) ?_
  refine va_get (D := E.1) (ci := 3) (v := .int next) (C := RX3) (T := TX3) (N := 9) hx hb hts g_2 hown hE.1 hP 0 rfl rfl 6 (by decide) g_1 (fun _ h9 => h9) rfl dX3_isWord_5 ?_
  refine lv_aload_n hx hb dX3_isWord_8 rfl (lv_at hl 0 rfl) ?_
  refine va_get (D := E.1) (ci := 3) (v := .int start) (C := RX3) (T := TX3) (N := 9) hx hb hts g_2 hown hE.1 hP 0 rfl rfl 5 (by decide) g_3 (fun _ h9 => h9) rfl dX3_isWord_9 ?_
  refine lv_isub hx hb dX3_isWord_12 ?_
  refine lv_icmp_eq (tgt := 18) hx hb dX3_isWord_13 (by decide) (fun c_1 => ?_) (fun c_1 => ?_)
  · refine lv_iconst (v := 0) hx hb dX3_isWord_18 (by decide) ?_
    refine lv_istore_n (lv' := [(2, .int 0), (0, .ref h), (1, .ref (xK Z wi))]) hx hb dX3_isWord_19 rfl hl (by decide) rfl (fun ls hl => ?_)
    have ex_20 : ∀ (k_20 : Int32), (¬ k_20 < 0) → ∀ (ls : Array Slot), lv_has ls 3 [(0, .ref h), (1, .ref (xK Z wi)), (2, .int k_20)] → (sX3_isWord start next buf wi) = (1 : Int32) → W p l e ({ frames := 4, cells := 0, slots := 0, locals := 85 }) s m args below meth c s.heap [] 0 0 (MQ below (xQ (.int (sX3_isWord start next buf wi))) args s 0 0 (fun _ => False)) (F0 m 57 ls []) := by
      intro k_20 hk0_20 ls hl hx_20
      refine lv_iconst (v := 1) hx hb dX3_isWord_57 (by decide) ?_
      exact x_zr (by rw [hx_20]; try rfl) hx hb hr hlk rfl dX3_isWord_58
    have lp_20 : ∀ (kk_20 : Nat), ∀ (k_20 : Int32), (¬ k_20 < 0) → (xMu (sJ0_length_8abf5 wi) k_20) < kk_20 → ∀ (ls : Array Slot), lv_has ls 3 [(0, .ref h), (1, .ref (xK Z wi)), (2, .int k_20)] → (sX3_isWord start next buf wi) = sX3_isWord_l20 start buf wi (fun (k_20 : Int32) => 1) kk_20 k_20 → W p l e ({ frames := 4, cells := 0, slots := 0, locals := 85 }) s m args below meth c s.heap [] 0 0 (MQ below (xQ (.int (sX3_isWord start next buf wi))) args s 0 0 (fun _ => False)) (F0 m 20 ls []) := by
      intro kk_20
      induction kk_20 with
      | zero =>
        intro k_20 hk0_20 hmu
        exact absurd hmu (Nat.not_lt_zero _)
      | succ kk_20 ih_20 =>
        intro k_20 hk0_20 hmu ls hl hlq_20
        refine lv_iload_n hx hb dX3_isWord_20 rfl (lv_at hl 2 rfl) ?_
        refine lv_aload_n hx hb dX3_isWord_21 rfl (lv_at hl 1 rfl) ?_
        refine x_zK hi [] (kJ0_length_8abf5 l E Z wi hi) ⟨hx, hb, hml, hown, hts⟩ (cwV 0 hts gX3_isWord_J0_length_8abf5 rfl rfl rfl hdJ0_length_8abf5 ⟨Nat.le_of_ble_eq_true rfl, Nat.le_of_ble_eq_true rfl⟩) hZ hS hE hP hD [] rfl rfl hl.1 rfl rfl (Nat.le_of_ble_eq_true rfl) dX3_isWord_22 (Nat.le_of_ble_eq_true rfl) (Nat.le_of_ble_eq_true rfl) ?_
        refine lv_icmp_ge (tgt := 57) hx hb dX3_isWord_25 (by decide) (fun c_2 => ?_) (fun c_2 => ?_)
        · exact ex_20 k_20 hk0_20 ls (lv_sub hl [0, 1, 2] rfl) (by rw [hlq_20]; rw [sX3_isWord_l20_s]; rw [if_pos c_2]; try rfl)
        · refine lv_aload_n hx hb dX3_isWord_28 rfl (lv_at hl 1 rfl) ?_
          refine lv_iload_n hx hb dX3_isWord_29 rfl (lv_at hl 2 rfl) ?_
          refine x_zK hi [.int k_20] (kJ0_charAt_5068e l E Z wi k_20 hi hk0_20 (x_ltlen hi c_2)) ⟨hx, hb, hml, hown, hts⟩ (cwV 1 hts gX3_isWord_J0_charAt_5068e rfl rfl rfl hdJ0_charAt_5068e ⟨Nat.le_of_ble_eq_true rfl, Nat.le_of_ble_eq_true rfl⟩) hZ hS hE hP hD [] rfl rfl hl.1 rfl rfl (Nat.le_of_ble_eq_true rfl) dX3_isWord_30 (Nat.le_of_ble_eq_true rfl) (Nat.le_of_ble_eq_true rfl) ?_
          refine lv_aload_n hx hb dX3_isWord_33 rfl (lv_at hl 0 rfl) ?_
          refine va_get (D := E.1) (ci := 3) (v := .ref bu) (C := RX3) (T := TX3) (N := 9) hx hb hts g_2 hown hE.1 hP 0 rfl rfl 0 (by decide) g_4 (fun _ h9 => h9) rfl dX3_isWord_34 ?_
          refine lv_aload_n hx hb dX3_isWord_37 rfl (lv_at hl 0 rfl) ?_
          refine va_get (D := E.1) (ci := 3) (v := .int start) (C := RX3) (T := TX3) (N := 9) hx hb hts g_2 hown hE.1 hP 0 rfl rfl 5 (by decide) g_3 (fun _ h9 => h9) rfl dX3_isWord_38 ?_
          refine lv_iload_n hx hb dX3_isWord_41 rfl (lv_at hl 2 rfl) ?_
          refine lv_iadd hx hb dX3_isWord_42 ?_
          refine x_rSN [.ref bu, .int (start + k_20)] (kX8_valueAt l E bu 500 buf (start + k_20) (by decide)) ⟨hx, hb, hml, hown, hts⟩ ⟨va_cnB 2 hts gX3_isWord_X8_valueAt_n58 rfl rfl rfl g_7 g_5 hdX8_valueAt.2 ⟨Nat.le_of_ble_eq_true rfl, Nat.le_of_ble_eq_true rfl⟩, g_6, trivial⟩ hE hP hD [1] rfl rfl hl.1 rfl rfl (Nat.le_of_ble_eq_true rfl) dX3_isWord_43 (Nat.le_of_ble_eq_true rfl) (Nat.le_of_ble_eq_true rfl) ?_
          refine lv_icmp_eq (tgt := 51) hx hb dX3_isWord_46 (by decide) (fun c_3 => ?_) (fun c_3 => ?_)
          · refine lv_iinc (v := k_20 + 1) (lv' := [(2, .int (k_20 + 1)), (0, .ref h), (1, .ref (xK Z wi))]) hx hb dX3_isWord_51 hl (k := 2) rfl (by rfl) (by decide) rfl (fun ls hl => ?_)
            refine lv_goto (tgt := 20) hx hb dX3_isWord_54 (by decide) ?_
            exact ih_20 (k_20 + 1) (x_step hk0_20 c_2) (x_mu hk0_20 c_2 hmu) ls (lv_sub hl [1, 2, 0] rfl) (by rw [hlq_20]; rw [sX3_isWord_l20_s]; rw [if_neg c_2]; rw [if_pos c_3]; try rfl)
          · refine lv_iconst (v := 0) hx hb dX3_isWord_49 (by decide) ?_
            exact x_zr (by rw [hlq_20]; rw [sX3_isWord_l20_s]; rw [if_neg c_2]; rw [if_neg c_3]; try rfl) hx hb hr hlk rfl dX3_isWord_50
    exact lp_20 (xMu (sJ0_length_8abf5 wi) 0 + 1) 0 (by decide) (Nat.lt_succ_self _) ls (lv_sub hl [1, 2, 0] rfl) (by unfold sX3_isWord; rw [if_pos c_1]; try rfl)
  · refine lv_iconst (v := 0) hx hb dX3_isWord_16 (by decide) ?_
    exact x_zr (by unfold sX3_isWord; rw [if_neg c_1]; try rfl) hx hb hr hlk rfl dX3_isWord_17
def sX3_sortOfWord_l2 (start : Int32) (next : Int32) (buf : Nat → Int32) (kont_2 : Int32 → Int32) : Nat → Int32 → Int32
  | 0, so_2 => kont_2 so_2
  | kk_2 + 1, so_2 =>
    if 9 ≤ so_2 then
      kont_2 so_2
    else
      if (sX3_isWord start next buf (sX8_wordOf so_2)) = 0 then
        sX3_sortOfWord_l2 start next buf kont_2 kk_2 (so_2 + 1)
      else
        so_2
theorem sX3_sortOfWord_l2_s (start : Int32) (next : Int32) (buf : Nat → Int32) (kont_2 : Int32 → Int32) (kk_2 : Nat) (so_2 : Int32) : sX3_sortOfWord_l2 start next buf kont_2 (kk_2 + 1) so_2 =
    if 9 ≤ so_2 then
      kont_2 so_2
    else
      if (sX3_isWord start next buf (sX8_wordOf so_2)) = 0 then
        sX3_sortOfWord_l2 start next buf kont_2 kk_2 (so_2 + 1)
      else
        so_2 := rfl
def sX3_sortOfWord (start : Int32) (next : Int32) (buf : Nat → Int32) : Int32 :=
  sX3_sortOfWord_l2 start next buf (fun (so_2 : Int32) => (-1)) (xMu 9 0 + 1) 0
theorem hdX3_sortOfWord : yX3_sortOfWord.cls = RX3 ∧ yX3_sortOfWord.cls ≠ "java/lang/invoke/MethodHandle" ∧ yX3_sortOfWord.cls ≠ "java/lang/invoke/VarHandle" ∧ (parseMethodDescriptor yX3_sortOfWord.desc).map (fun d => d.parameters.length) = some 0 := by decide +kernel
set_option maxHeartbeats 4000000 in
set_option maxRecDepth 100000 in
theorem kX3_sortOfWord (l : Launch) (E : XE) (Z : XZ) (h : Nat) (bu : Nat) (nu : Nat) (used : Int32) (en : Int32) (met : Int32) (start : Int32) (next : Int32) (kind : Int32) (value : Int32) (buf : Nat → Int32) : xRZ l yX3_sortOfWord wsX3_sortOfWord ({ frames := 5, cells := 0, slots := 0, locals := 107 }) E Z [(h, .inr (3, [.ref bu, .ref nu, .int used, .int en, .int met, .int start, .int next, .int kind, .int value])), (bu, .inl (E.2.1, 500, .inl buf))] [.ref h] (.int (sX3_sortOfWord start next buf)) := by
  refine xRZ.of (cc := cX3_sortOfWord) (maxL := 2) (ret := (some .int)) (by decide) rfl (Nat.le_of_ble_eq_true rfl) ?_
  intro p e s m args below meth c ls hM hE hP hD hZ hl
  obtain ⟨hx, hb, hr, hml, hts, hown, hlk, hnm⟩ := hM
  have g_1 : (Cond.initialized yX8_wordOf.cls).before args s = true := hts _ (by decide +kernel)
  have g_2 : (Cond.static yX8_wordOf).before args s = true := hts (Cond.static yX8_wordOf) (by decide +kernel)
  have g_3 : va_Nw (.methodLinkNest RX3 75 yX8_wordOf "RailPendulum") s := hE.2 _ (by decide +kernel)
  have hS : va_S (fun _ => False) s.heap s.heap [] := va_S.rf
  have hl : lv_has ls 2 [(0, .ref h)] := hl
  refine lv_iconst (v := 0) hx hb dX3_sortOfWord_0 (by decide) ?_
  refine lv_istore_n (lv' := [(1, .int 0), (0, .ref h)]) hx hb dX3_sortOfWord_1 rfl hl (by decide) rfl (fun ls hl => ?_)
  have ex_2 : ∀ (so_2 : Int32), ∀ (ls : Array Slot), lv_has ls 2 [(0, .ref h), (1, .int so_2)] → (sX3_sortOfWord start next buf) = ((-1) : Int32) → W p l e ({ frames := 5, cells := 0, slots := 0, locals := 107 }) s m args below meth c s.heap [] 0 0 (MQ below (xQ (.int (sX3_sortOfWord start next buf))) args s 0 0 (fun _ => False)) (F0 m 27 ls []) := by
    intro so_2 ls hl hx_2
    refine lv_iconst (v := (-1)) hx hb dX3_sortOfWord_27 (by decide) ?_
    exact x_ir (by rw [hx_2]; try rfl) hx hb hr hlk dX3_sortOfWord_28
  have lp_2 : ∀ (kk_2 : Nat), ∀ (so_2 : Int32), (xMu 9 so_2) < kk_2 → ∀ (ls : Array Slot), lv_has ls 2 [(0, .ref h), (1, .int so_2)] → (sX3_sortOfWord start next buf) = sX3_sortOfWord_l2 start next buf (fun (so_2 : Int32) => (-1)) kk_2 so_2 → W p l e ({ frames := 5, cells := 0, slots := 0, locals := 107 }) s m args below meth c s.heap [] 0 0 (MQ below (xQ (.int (sX3_sortOfWord start next buf))) args s 0 0 (fun _ => False)) (F0 m 2 ls []) := by
    intro kk_2
    induction kk_2 with
    | zero =>
      intro so_2 hmu
      exact absurd hmu (Nat.not_lt_zero _)
    | succ kk_2 ih_2 =>
      intro so_2 hmu ls hl hlq_2
      refine lv_iload_n hx hb dX3_sortOfWord_2 rfl (lv_at hl 1 rfl) ?_
      refine lv_bipush (v := 9) hx hb dX3_sortOfWord_3 (by decide) ?_
      refine lv_icmp_ge (tgt := 27) hx hb dX3_sortOfWord_5 (by decide) (fun c_1 => ?_) (fun c_1 => ?_)
      · exact ex_2 so_2  ls (lv_sub hl [0, 1] rfl) (by rw [hlq_2]; rw [sX3_sortOfWord_l2_s]; rw [if_pos c_1]; try rfl)
      · refine lv_aload_n hx hb dX3_sortOfWord_8 rfl (lv_at hl 0 rfl) ?_
        refine lv_iload_n hx hb dX3_sortOfWord_9 rfl (lv_at hl 1 rfl) ?_
        refine x_zSN [.int so_2] (kX8_wordOf l E Z so_2) ⟨hx, hb, hml, hown, hts⟩ ⟨va_cnB 1 hts gX3_sortOfWord_X8_wordOf_n75 rfl rfl rfl g_3 g_1 hdX8_wordOf.2 ⟨Nat.le_of_ble_eq_true rfl, Nat.le_of_ble_eq_true rfl⟩, g_2, trivial⟩ hZ hS hE hP hD [] rfl rfl hl.1 rfl rfl (Nat.le_of_ble_eq_true rfl) dX3_sortOfWord_10 (Nat.le_of_ble_eq_true rfl) (Nat.le_of_ble_eq_true rfl) ?_
        refine x_zV [.ref (xK Z (sX8_wordOf so_2))] (kX3_isWord l E Z h bu nu used en met start next kind value buf (sX8_wordOf so_2) (x_wordlt _)) ⟨hx, hb, hml, hown, hts⟩ (cwV 1 hts gX3_sortOfWord_X3_isWord rfl rfl rfl hdX3_isWord ⟨Nat.le_of_ble_eq_true rfl, Nat.le_of_ble_eq_true rfl⟩) hZ hS hE hP hD [0, 1] rfl rfl (ci := 3) (q0 := 0) rfl rfl rfl hl.1 rfl rfl (Nat.le_of_ble_eq_true rfl) dX3_sortOfWord_13 (Nat.le_of_ble_eq_true rfl) (Nat.le_of_ble_eq_true rfl) ?_
        refine lv_if_eq (tgt := 21) hx hb dX3_sortOfWord_16 (by decide) (fun c_2 => ?_) (fun c_2 => ?_)
        · refine lv_iinc (v := so_2 + 1) (lv' := [(1, .int (so_2 + 1)), (0, .ref h)]) hx hb dX3_sortOfWord_21 hl (k := 1) rfl (by rfl) (by decide) rfl (fun ls hl => ?_)
          refine lv_goto (tgt := 2) hx hb dX3_sortOfWord_24 (by decide) ?_
          exact ih_2 (so_2 + 1) (x_muN c_1 hmu) ls (lv_sub hl [1, 0] rfl) (by rw [hlq_2]; rw [sX3_sortOfWord_l2_s]; rw [if_neg c_1]; rw [if_pos c_2]; try rfl)
        · refine lv_iload_n hx hb dX3_sortOfWord_19 rfl (lv_at hl 1 rfl) ?_
          exact x_ir (by rw [hlq_2]; rw [sX3_sortOfWord_l2_s]; rw [if_neg c_1]; rw [if_neg c_2]; try rfl) hx hb hr hlk dX3_sortOfWord_20
  exact lp_2 (xMu 9 0 + 1) 0  (Nat.lt_succ_self _) ls (lv_sub hl [1, 0] rfl) (by unfold sX3_sortOfWord; try rfl)
set_option maxHeartbeats 4000000 in
set_option maxRecDepth 100000 in
theorem kX8_valueAt_T (l : Launch) (E : XE) (Z : XZ) (row : Nat) (n : Nat) (f : Nat → Int32) (index : Int32) (hn : n < 2 ^ 31) (hsub : ∀ (A : Nat → Prop) (U : State) (H : Heap), xZ Z A U H → va_T .int row n (fun j => .int (f j)) A U H) : xRZ l yX8_valueAt wsX8_valueAt ({ frames := 0, cells := 0, slots := 0, locals := 0 }) E Z [] [.ref row, .int index] (.int (sX8_valueAt n f index)) := by
  refine xRZ.of (cc := cX8_valueAt) (maxL := 2) (ret := (some .int)) (by decide) rfl (Nat.le_of_ble_eq_true rfl) ?_
  intro p e s m args below meth c ls hM hE hP hD hZ hl
  obtain ⟨hx, hb, hr, hml, hts, hown, hlk, hnm⟩ := hM
  have hS : va_S (fun _ => False) s.heap s.heap [] := va_S.rf
  have hl : lv_has ls 2 [(0, .ref row), (1, .int index)] := hl
  refine lv_iload_n hx hb dX8_valueAt_0 rfl (lv_at hl 1 rfl) ?_
  refine lv_if_lt (tgt := 16) hx hb dX8_valueAt_1 (by decide) (fun c_1 => ?_) (fun c_1 => ?_)
  · refine lv_iconst (v := 0) hx hb dX8_valueAt_16 (by decide) ?_
    exact x_ir (by unfold sX8_valueAt; rw [if_pos c_1]; try rfl) hx hb hr hlk dX8_valueAt_17
  · refine lv_iload_n hx hb dX8_valueAt_4 rfl (lv_at hl 1 rfl) ?_
    refine lv_aload_n hx hb dX8_valueAt_5 rfl (lv_at hl 0 rfl) ?_
    refine va_tlen (v := nI n) hx hb (hsub _ _ _ hZ) hS rfl dX8_valueAt_6 ?_
    refine lv_icmp_ge (tgt := 16) hx hb dX8_valueAt_7 (by decide) (fun c_2 => ?_) (fun c_2 => ?_)
    · refine lv_iconst (v := 0) hx hb dX8_valueAt_16 (by decide) ?_
      exact x_ir (by unfold sX8_valueAt; rw [if_neg c_1]; rw [if_pos c_2]; try rfl) hx hb hr hlk dX8_valueAt_17
    · refine lv_aload_n hx hb dX8_valueAt_10 rfl (lv_at hl 0 rfl) ?_
      refine lv_iload_n hx hb dX8_valueAt_11 rfl (lv_at hl 1 rfl) ?_
      refine va_ti (v := .int (f index.toNatClampNeg)) hx hb (hsub _ _ _ hZ) hS (x_inl c_1 c_2 (nI_toInt hn)) rfl dX8_valueAt_12 ?_
      refine lv_goto (tgt := 17) hx hb dX8_valueAt_13 (by decide) ?_
      exact x_ir (by unfold sX8_valueAt; rw [if_neg c_1]; rw [if_neg c_2]; try rfl) hx hb hr hlk dX8_valueAt_17
def sX3_readNumber_q_5 (en : Int32) (next : Int32) (value : Int32) (buf : Nat → Int32) (nums : Nat → Int32) (which : Int32) (q_1 : Int32 × Int32 × Int32 × Int32) (q_5 : (Nat → Int32)) : Int32 × Int32 × Int32 × Int32 × Int32 × (Nat → Int32) :=
  (0, q_1.1, q_1.2.1, q_1.2.2.1, q_1.2.2.2, q_5)
def sX3_readNumber_q_1 (en : Int32) (next : Int32) (value : Int32) (buf : Nat → Int32) (nums : Nat → Int32) (which : Int32) (q_1 : Int32 × Int32 × Int32 × Int32) : Int32 × Int32 × Int32 × Int32 × Int32 × (Nat → Int32) :=
  if q_1.2.2.1 = 2 then
    if q_1.2.2.2 < (sX8_valueAt 24 xLeast which) then
      (3, q_1.1, q_1.2.1, q_1.2.2.1, q_1.2.2.2, nums)
    else
      if q_1.2.2.2 ≤ (sX8_valueAt 24 xMost which) then
        sX3_readNumber_q_5 en next value buf nums which q_1 (sX8_putAt 24 nums which q_1.2.2.2)
      else
        (3, q_1.1, q_1.2.1, q_1.2.2.1, q_1.2.2.2, nums)
  else
    (1, q_1.1, q_1.2.1, q_1.2.2.1, q_1.2.2.2, nums)
def sX3_readNumber (en : Int32) (next : Int32) (value : Int32) (buf : Nat → Int32) (nums : Nat → Int32) (which : Int32) : Int32 × Int32 × Int32 × Int32 × Int32 × (Nat → Int32) :=
  sX3_readNumber_q_1 en next value buf nums which (sX3_readToken en next value buf)
theorem hdX3_readNumber : yX3_readNumber.cls = RX3 ∧ yX3_readNumber.cls ≠ "java/lang/invoke/MethodHandle" ∧ yX3_readNumber.cls ≠ "java/lang/invoke/VarHandle" ∧ (parseMethodDescriptor yX3_readNumber.desc).map (fun d => d.parameters.length) = some 1 := by decide +kernel
set_option maxHeartbeats 4000000 in
set_option maxRecDepth 100000 in
theorem kX3_readNumber (l : Launch) (E : XE) (Z : XZ) (h : Nat) (bu : Nat) (nu : Nat) (used : Int32) (en : Int32) (met : Int32) (start : Int32) (next : Int32) (kind : Int32) (value : Int32) (buf : Nat → Int32) (nums : Nat → Int32) (which : Int32) : xWZ (T := Int32 × Int32 × Int32 × Int32 × Int32 × (Nat → Int32)) l yX3_readNumber wsX3_readNumber ({ frames := 3, cells := 0, slots := 0, locals := 62 }) E Z [(h, .inr (3, [.ref bu, .ref nu, .int used, .int en, .int met, .int start, .int next, .int kind, .int value])), (bu, .inl (E.2.1, 500, .inl buf)), (nu, .inl (E.2.1, 24, .inl nums))] [.ref h, .int which] (fun q => some (.int q.1)) (fun q => [(h, .inr (3, [.ref bu, .ref nu, .int used, .int en, .int met, .int q.2.1, .int q.2.2.1, .int q.2.2.2.1, .int q.2.2.2.2.1])), (bu, .inl (E.2.1, 500, .inl buf)), (nu, .inl (E.2.1, 24, .inl q.2.2.2.2.2))]) (sX3_readNumber en next value buf nums which) 0 0 := by
  refine xWZ.of (cc := cX3_readNumber) (maxL := 2) (ret := (some .int)) (by decide) rfl (Nat.le_of_ble_eq_true rfl) ?_
  intro p e s m args below meth c ls A hM hE hP hD hS hA hZ hl
  obtain ⟨hx, hb, hr, hml, hts, hown, hlk, hnm⟩ := hM
  have g_1 : (Cond.fieldLink RX3 45 "RailPendulum$PlantReader" "kind" "I").before args s = true := hts (Cond.fieldLink RX3 45 "RailPendulum$PlantReader" "kind" "I") (by decide +kernel)
  have g_2 : ∀ w ∈ wsX30, w ∈ wsX3_readNumber := by decide +kernel
  have g_3 : (Cond.fieldLink RX3 66 "RailPendulum$PlantReader" "value" "I").before args s = true := hts (Cond.fieldLink RX3 66 "RailPendulum$PlantReader" "value" "I") (by decide +kernel)
  have g_4 : (Cond.fieldLinkNest RX3 69 "RailPendulum" "LEAST" "[I" "RailPendulum").before args s = true := va_Nw.use rfl (hE.2 (Cond.fieldLinkNest RX3 69 "RailPendulum" "LEAST" "[I" "RailPendulum") (by decide +kernel))
  have g_5 : (Cond.initialized yX8_valueAt.cls).before args s = true := hts _ (by decide +kernel)
  have g_6 : (Cond.static yX8_valueAt).before args s = true := hts (Cond.static yX8_valueAt) (by decide +kernel)
  have g_7 : va_Nw (.methodLinkNest RX3 58 yX8_valueAt "RailPendulum") s := hE.2 _ (by decide +kernel)
  have g_8 : (Cond.fieldLinkNest RX3 72 "RailPendulum" "MOST" "[I" "RailPendulum").before args s = true := va_Nw.use rfl (hE.2 (Cond.fieldLinkNest RX3 72 "RailPendulum" "MOST" "[I" "RailPendulum") (by decide +kernel))
  have g_9 : (Cond.fieldLink RX3 15 "RailPendulum$PlantReader" "numbers" "[I").before args s = true := hts (Cond.fieldLink RX3 15 "RailPendulum$PlantReader" "numbers" "[I") (by decide +kernel)
  have g_10 : (Cond.initialized yX8_putAt.cls).before args s = true := hts _ (by decide +kernel)
  have g_11 : (Cond.static yX8_putAt).before args s = true := hts (Cond.static yX8_putAt) (by decide +kernel)
  have g_12 : va_Nw (.methodLinkNest RX3 22 yX8_putAt "RailPendulum") s := hE.2 _ (by decide +kernel)
  have hX : xD A [h, bu, nu] := xD.of hD rfl
  have hl : lv_has ls 2 [(0, .ref h), (1, .int which)] := hl
  refine lv_aload_n hx hb dX3_readNumber_0 rfl (lv_at hl 0 rfl) ?_
  refine x_wV (wr := [(nu, .inl (E.2.1, 24, .inl nums))]) [] (kX3_readToken l E h bu nu used en met start next kind value buf) ⟨hx, hb, hml, hown, hts⟩ (cwV 0 hts gX3_readNumber_X3_readToken rfl rfl rfl hdX3_readToken ⟨Nat.le_of_ble_eq_true rfl, Nat.le_of_ble_eq_true rfl⟩) hE hP (hX.d rfl) hS hA [0, 1] [2] rfl rfl rfl rfl (by decide) (ci := 3) (q0 := 0) rfl rfl rfl hl.1 rfl rfl (Nat.le_of_ble_eq_true rfl) dX3_readNumber_1 (Nat.le_of_ble_eq_true rfl) (Nat.le_of_ble_eq_true rfl) (fun q_1 H locs hq_1 hP hD hS => ?_)
  have hP : va_P E.1 vwCl [(nu, .inl (E.2.1, 24, .inl nums)), (h, .inr (3, [.ref bu, .ref nu, .int used, .int en, .int met, .int q_1.1, .int q_1.2.1, .int q_1.2.2.1, .int q_1.2.2.2])), (bu, .inl (E.2.1, 500, .inl buf))] H := hP
  have hX : xD A [nu, h, bu] := xD.of hD rfl
  refine W.eq (g2 := F0 m 4 ls []) rfl ?_
  refine lv_aload_n hx hb dX3_readNumber_4 rfl (lv_at hl 0 rfl) ?_
  refine va_get (D := E.1) (ci := 3) (v := .int q_1.2.2.1) (C := RX3) (T := TX3) (N := 9) hx hb hts g_2 hown hE.1 hP 1 rfl rfl 7 (by decide) g_1 (fun _ h9 => h9) rfl dX3_readNumber_5 ?_
  refine lv_iconst (v := 2) hx hb dX3_readNumber_8 (by decide) ?_
  refine lv_icmp_eq (tgt := 14) hx hb dX3_readNumber_9 (by decide) (fun c_2 => ?_) (fun c_2 => ?_)
  · refine lv_aload_n hx hb dX3_readNumber_14 rfl (lv_at hl 0 rfl) ?_
    refine va_get (D := E.1) (ci := 3) (v := .int q_1.2.2.2) (C := RX3) (T := TX3) (N := 9) hx hb hts g_2 hown hE.1 hP 1 rfl rfl 8 (by decide) g_3 (fun _ h9 => h9) rfl dX3_readNumber_15 ?_
    refine va_getsN hx hb hZ.2.1.1 hS hown g_4 (fun _ h9 => h9) dX3_readNumber_18 ?_
    refine lv_iload_n hx hb dX3_readNumber_21 rfl (lv_at hl 1 rfl) ?_
    refine x_zSN [.ref Z.2.1, .int which] (kX8_valueAt_T l E Z Z.2.1 24 xLeast which (by decide) (fun _ _ _ h => h.2.1.2)) ⟨hx, hb, hml, hown, hts⟩ ⟨va_cnB 2 hts gX3_readNumber_X8_valueAt_n58 rfl rfl rfl g_7 g_5 hdX8_valueAt.2 ⟨Nat.le_of_ble_eq_true rfl, Nat.le_of_ble_eq_true rfl⟩, g_6, trivial⟩ hZ hS hE hP (hX.d rfl) [] rfl rfl hl.1 rfl rfl (Nat.le_of_ble_eq_true rfl) dX3_readNumber_22 (Nat.le_of_ble_eq_true rfl) (Nat.le_of_ble_eq_true rfl) ?_
    refine lv_icmp_lt (tgt := 42) hx hb dX3_readNumber_25 (by decide) (fun c_3 => ?_) (fun c_3 => ?_)
    · refine lv_iconst (v := 3) hx hb dX3_readNumber_42 (by decide) ?_
      exact x_wi (3, q_1.1, q_1.2.1, q_1.2.2.1, q_1.2.2.2, nums) (by unfold sX3_readNumber; rw [← hq_1]; unfold sX3_readNumber_q_1; rw [if_pos c_2]; rw [if_pos c_3]; try rfl) rfl hx hb hr hlk hS hP (hX.d rfl) [1, 2, 0] rfl rfl (Nat.le_of_ble_eq_true rfl) (Nat.le_of_ble_eq_true rfl) dX3_readNumber_43
    · refine lv_aload_n hx hb dX3_readNumber_28 rfl (lv_at hl 0 rfl) ?_
      refine va_get (D := E.1) (ci := 3) (v := .int q_1.2.2.2) (C := RX3) (T := TX3) (N := 9) hx hb hts g_2 hown hE.1 hP 1 rfl rfl 8 (by decide) g_3 (fun _ h9 => h9) rfl dX3_readNumber_29 ?_
      refine va_getsN hx hb hZ.2.2.1.1 hS hown g_8 (fun _ h9 => h9) dX3_readNumber_32 ?_
      refine lv_iload_n hx hb dX3_readNumber_35 rfl (lv_at hl 1 rfl) ?_
      refine x_zSN [.ref Z.2.2.1, .int which] (kX8_valueAt_T l E Z Z.2.2.1 24 xMost which (by decide) (fun _ _ _ h => h.2.2.1.2)) ⟨hx, hb, hml, hown, hts⟩ ⟨va_cnB 2 hts gX3_readNumber_X8_valueAt_n58 rfl rfl rfl g_7 g_5 hdX8_valueAt.2 ⟨Nat.le_of_ble_eq_true rfl, Nat.le_of_ble_eq_true rfl⟩, g_6, trivial⟩ hZ hS hE hP (hX.d rfl) [] rfl rfl hl.1 rfl rfl (Nat.le_of_ble_eq_true rfl) dX3_readNumber_36 (Nat.le_of_ble_eq_true rfl) (Nat.le_of_ble_eq_true rfl) ?_
      refine lv_icmp_le (tgt := 44) hx hb dX3_readNumber_39 (by decide) (fun c_4 => ?_) (fun c_4 => ?_)
      · refine lv_aload_n hx hb dX3_readNumber_44 rfl (lv_at hl 0 rfl) ?_
        refine va_get (D := E.1) (ci := 3) (v := .ref nu) (C := RX3) (T := TX3) (N := 9) hx hb hts g_2 hown hE.1 hP 1 rfl rfl 1 (by decide) g_9 (fun _ h9 => h9) rfl dX3_readNumber_45 ?_
        refine lv_iload_n hx hb dX3_readNumber_48 rfl (lv_at hl 1 rfl) ?_
        refine lv_aload_n hx hb dX3_readNumber_49 rfl (lv_at hl 0 rfl) ?_
        refine va_get (D := E.1) (ci := 3) (v := .int q_1.2.2.2) (C := RX3) (T := TX3) (N := 9) hx hb hts g_2 hown hE.1 hP 1 rfl rfl 8 (by decide) g_3 (fun _ h9 => h9) rfl dX3_readNumber_50 ?_
        refine x_wSN (wr := [(h, .inr (3, [.ref bu, .ref nu, .int used, .int en, .int met, .int q_1.1, .int q_1.2.1, .int q_1.2.2.1, .int q_1.2.2.2])), (bu, .inl (E.2.1, 500, .inl buf))]) [.ref nu, .int which, .int q_1.2.2.2] (kX8_putAt l E nu 24 nums which q_1.2.2.2 (by decide)) ⟨hx, hb, hml, hown, hts⟩ ⟨va_cnB 3 hts gX3_readNumber_X8_putAt_n22 rfl rfl rfl g_12 g_10 hdX8_putAt.2 ⟨Nat.le_of_ble_eq_true rfl, Nat.le_of_ble_eq_true rfl⟩, g_11, trivial⟩ hE hP (hX.d rfl) hS hA [0] [1, 2] rfl rfl rfl rfl (by decide) hl.1 rfl rfl (Nat.le_of_ble_eq_true rfl) dX3_readNumber_53 (Nat.le_of_ble_eq_true rfl) (Nat.le_of_ble_eq_true rfl) (fun q_5 H locs hq_5 hP hD hS => ?_)
        have hP : va_P E.1 vwCl [(h, .inr (3, [.ref bu, .ref nu, .int used, .int en, .int met, .int q_1.1, .int q_1.2.1, .int q_1.2.2.1, .int q_1.2.2.2])), (bu, .inl (E.2.1, 500, .inl buf)), (nu, .inl (E.2.1, 24, .inl q_5))] H := hP
        have hX : xD A [h, bu, nu] := xD.of hD rfl
        refine W.eq (g2 := F0 m 56 ls []) rfl ?_
        refine lv_iconst (v := 0) hx hb dX3_readNumber_56 (by decide) ?_
        exact x_wi (0, q_1.1, q_1.2.1, q_1.2.2.1, q_1.2.2.2, q_5) (by unfold sX3_readNumber; rw [← hq_1]; unfold sX3_readNumber_q_1; rw [if_pos c_2]; rw [if_neg c_3]; rw [if_pos c_4]; rw [← hq_5]; unfold sX3_readNumber_q_5; try rfl) rfl hx hb hr hlk hS hP (hX.d rfl) [0, 1, 2] rfl rfl (Nat.le_of_ble_eq_true rfl) (Nat.le_of_ble_eq_true rfl) dX3_readNumber_57
      · refine lv_iconst (v := 3) hx hb dX3_readNumber_42 (by decide) ?_
        exact x_wi (3, q_1.1, q_1.2.1, q_1.2.2.1, q_1.2.2.2, nums) (by unfold sX3_readNumber; rw [← hq_1]; unfold sX3_readNumber_q_1; rw [if_pos c_2]; rw [if_neg c_3]; rw [if_neg c_4]; try rfl) rfl hx hb hr hlk hS hP (hX.d rfl) [1, 2, 0] rfl rfl (Nat.le_of_ble_eq_true rfl) (Nat.le_of_ble_eq_true rfl) dX3_readNumber_43
  · refine lv_iconst (v := 1) hx hb dX3_readNumber_12 (by decide) ?_
    exact x_wi (1, q_1.1, q_1.2.1, q_1.2.2.1, q_1.2.2.2, nums) (by unfold sX3_readNumber; rw [← hq_1]; unfold sX3_readNumber_q_1; rw [if_neg c_2]; try rfl) rfl hx hb hr hlk hS hP (hX.d rfl) [1, 2, 0] rfl rfl (Nat.le_of_ble_eq_true rfl) (Nat.le_of_ble_eq_true rfl) dX3_readNumber_13
def sX3_readStatement_l70 (en : Int32) (start : Int32) (next : Int32) (buf : Nat → Int32) (kont_70 : Int32 → Int32 → Int32 × Int32 × Int32 × Int32 → (Nat → Int32) → Int32 × Int32 × Int32 × Int32 × Int32 × Int32 × (Nat → Int32)) : Nat → Int32 → Int32 → Int32 × Int32 × Int32 × Int32 → (Nat → Int32) → Int32 × Int32 × Int32 × Int32 × Int32 × Int32 × (Nat → Int32)
  | 0, cd_70, wh_70, tk_70, nn_70 => kont_70 cd_70 wh_70 tk_70 nn_70
  | kk_70 + 1, cd_70, wh_70, tk_70, nn_70 =>
    if (sX8_valueAt 10 xFirst ((sX3_sortOfWord start next buf) + 1)) ≤ wh_70 then
      kont_70 cd_70 wh_70 tk_70 nn_70
    else
      if cd_70 = 0 then
        sX3_readStatement_l70 en start next buf kont_70 kk_70 ((sX3_readNumber en tk_70.2.1 tk_70.2.2.2 buf nn_70 wh_70).1) (wh_70 + 1) ((sX3_readNumber en tk_70.2.1 tk_70.2.2.2 buf nn_70 wh_70).2.1, (sX3_readNumber en tk_70.2.1 tk_70.2.2.2 buf nn_70 wh_70).2.2.1, (sX3_readNumber en tk_70.2.1 tk_70.2.2.2 buf nn_70 wh_70).2.2.2.1, (sX3_readNumber en tk_70.2.1 tk_70.2.2.2 buf nn_70 wh_70).2.2.2.2.1) ((sX3_readNumber en tk_70.2.1 tk_70.2.2.2 buf nn_70 wh_70).2.2.2.2.2)
      else
        kont_70 cd_70 wh_70 tk_70 nn_70
theorem sX3_readStatement_l70_s (en : Int32) (start : Int32) (next : Int32) (buf : Nat → Int32) (kont_70 : Int32 → Int32 → Int32 × Int32 × Int32 × Int32 → (Nat → Int32) → Int32 × Int32 × Int32 × Int32 × Int32 × Int32 × (Nat → Int32)) (kk_70 : Nat) (cd_70 : Int32) (wh_70 : Int32) (tk_70 : Int32 × Int32 × Int32 × Int32) (nn_70 : Nat → Int32) : sX3_readStatement_l70 en start next buf kont_70 (kk_70 + 1) cd_70 wh_70 tk_70 nn_70 =
    if (sX8_valueAt 10 xFirst ((sX3_sortOfWord start next buf) + 1)) ≤ wh_70 then
      kont_70 cd_70 wh_70 tk_70 nn_70
    else
      if cd_70 = 0 then
        sX3_readStatement_l70 en start next buf kont_70 kk_70 ((sX3_readNumber en tk_70.2.1 tk_70.2.2.2 buf nn_70 wh_70).1) (wh_70 + 1) ((sX3_readNumber en tk_70.2.1 tk_70.2.2.2 buf nn_70 wh_70).2.1, (sX3_readNumber en tk_70.2.1 tk_70.2.2.2 buf nn_70 wh_70).2.2.1, (sX3_readNumber en tk_70.2.1 tk_70.2.2.2 buf nn_70 wh_70).2.2.2.1, (sX3_readNumber en tk_70.2.1 tk_70.2.2.2 buf nn_70 wh_70).2.2.2.2.1) ((sX3_readNumber en tk_70.2.1 tk_70.2.2.2 buf nn_70 wh_70).2.2.2.2.2)
      else
        kont_70 cd_70 wh_70 tk_70 nn_70 := rfl
def sX3_readStatement (en : Int32) (met : Int32) (start : Int32) (next : Int32) (kind : Int32) (value : Int32) (buf : Nat → Int32) (nums : Nat → Int32) : Int32 × Int32 × Int32 × Int32 × Int32 × Int32 × (Nat → Int32) :=
  if kind = 1 then
    if (sX3_sortOfWord start next buf) = (-1) then
      (1, met, start, next, kind, value, nums)
    else
      if ((met >>> ((sX3_sortOfWord start next buf) &&& 31)) &&& 1) = 0 then
        sX3_readStatement_l70 en start next buf (fun (cd_70 : Int32) (wh_70 : Int32) (tk_70 : Int32 × Int32 × Int32 × Int32) (nn_70 : Nat → Int32) => if cd_70 = 0 then if ((sX3_readToken en tk_70.2.1 tk_70.2.2.2 buf).2.2.1) = 3 then (0, met ||| (1 <<< ((sX3_sortOfWord start next buf) &&& 31)), (sX3_readToken en tk_70.2.1 tk_70.2.2.2 buf).1, (sX3_readToken en tk_70.2.1 tk_70.2.2.2 buf).2.1, (sX3_readToken en tk_70.2.1 tk_70.2.2.2 buf).2.2.1, (sX3_readToken en tk_70.2.1 tk_70.2.2.2 buf).2.2.2, nn_70) else (1, met ||| (1 <<< ((sX3_sortOfWord start next buf) &&& 31)), (sX3_readToken en tk_70.2.1 tk_70.2.2.2 buf).1, (sX3_readToken en tk_70.2.1 tk_70.2.2.2 buf).2.1, (sX3_readToken en tk_70.2.1 tk_70.2.2.2 buf).2.2.1, (sX3_readToken en tk_70.2.1 tk_70.2.2.2 buf).2.2.2, nn_70) else (cd_70, met ||| (1 <<< ((sX3_sortOfWord start next buf) &&& 31)), tk_70.1, tk_70.2.1, tk_70.2.2.1, tk_70.2.2.2, nn_70)) (xMu (sX8_valueAt 10 xFirst ((sX3_sortOfWord start next buf) + 1)) (sX8_valueAt 10 xFirst (sX3_sortOfWord start next buf)) + 1) 0 (sX8_valueAt 10 xFirst (sX3_sortOfWord start next buf)) (start, next, kind, value) nums
      else
        (2, met, start, next, kind, value, nums)
  else
    (1, met, start, next, kind, value, nums)
theorem hdX3_readStatement : yX3_readStatement.cls = RX3 ∧ yX3_readStatement.cls ≠ "java/lang/invoke/MethodHandle" ∧ yX3_readStatement.cls ≠ "java/lang/invoke/VarHandle" ∧ (parseMethodDescriptor yX3_readStatement.desc).map (fun d => d.parameters.length) = some 0 := by decide +kernel
set_option maxHeartbeats 4000000 in
set_option maxRecDepth 100000 in
theorem kX3_readStatement (l : Launch) (E : XE) (Z : XZ) (h : Nat) (bu : Nat) (nu : Nat) (used : Int32) (en : Int32) (met : Int32) (start : Int32) (next : Int32) (kind : Int32) (value : Int32) (buf : Nat → Int32) (nums : Nat → Int32) : xWZ (T := Int32 × Int32 × Int32 × Int32 × Int32 × Int32 × (Nat → Int32)) l yX3_readStatement wsX3_readStatement ({ frames := 6, cells := 0, slots := 0, locals := 128 }) E Z [(h, .inr (3, [.ref bu, .ref nu, .int used, .int en, .int met, .int start, .int next, .int kind, .int value])), (bu, .inl (E.2.1, 500, .inl buf)), (nu, .inl (E.2.1, 24, .inl nums))] [.ref h] (fun q => some (.int q.1)) (fun q => [(h, .inr (3, [.ref bu, .ref nu, .int used, .int en, .int q.2.1, .int q.2.2.1, .int q.2.2.2.1, .int q.2.2.2.2.1, .int q.2.2.2.2.2.1])), (bu, .inl (E.2.1, 500, .inl buf)), (nu, .inl (E.2.1, 24, .inl q.2.2.2.2.2.2))]) (sX3_readStatement en met start next kind value buf nums) 0 0 := by
  refine xWZ.of (cc := cX3_readStatement) (maxL := 5) (ret := (some .int)) (by decide) rfl (Nat.le_of_ble_eq_true rfl) ?_
  intro p e s m args below meth c ls A hM hE hP hD hS hA hZ hl
  obtain ⟨hx, hb, hr, hml, hts, hown, hlk, hnm⟩ := hM
  have g_1 : (Cond.fieldLink RX3 45 "RailPendulum$PlantReader" "kind" "I").before args s = true := hts (Cond.fieldLink RX3 45 "RailPendulum$PlantReader" "kind" "I") (by decide +kernel)
  have g_2 : ∀ w ∈ wsX30, w ∈ wsX3_readStatement := by decide +kernel
  have g_3 : (Cond.fieldLink RX3 39 "RailPendulum$PlantReader" "sortsMet" "I").before args s = true := hts (Cond.fieldLink RX3 39 "RailPendulum$PlantReader" "sortsMet" "I") (by decide +kernel)
  have g_4 : (Cond.fieldLinkNest RX3 55 "RailPendulum" "FIRST_NUMBER" "[I" "RailPendulum").before args s = true := va_Nw.use rfl (hE.2 (Cond.fieldLinkNest RX3 55 "RailPendulum" "FIRST_NUMBER" "[I" "RailPendulum") (by decide +kernel))
  have g_5 : (Cond.initialized yX8_valueAt.cls).before args s = true := hts _ (by decide +kernel)
  have g_6 : (Cond.static yX8_valueAt).before args s = true := hts (Cond.static yX8_valueAt) (by decide +kernel)
  have g_7 : va_Nw (.methodLinkNest RX3 58 yX8_valueAt "RailPendulum") s := hE.2 _ (by decide +kernel)
  have hX : xD A [h, bu, nu] := xD.of hD rfl
  have hl : lv_has ls 5 [(0, .ref h)] := hl
  refine lv_aload_n hx hb dX3_readStatement_0 rfl (lv_at hl 0 rfl) ?_
  refine va_get (D := E.1) (ci := 3) (v := .int kind) (C := RX3) (T := TX3) (N := 9) hx hb hts g_2 hown hE.1 hP 0 rfl rfl 7 (by decide) g_1 (fun _ h9 => h9) rfl dX3_readStatement_1 ?_
  refine lv_iconst (v := 1) hx hb dX3_readStatement_4 (by decide) ?_
  refine lv_icmp_ne (tgt := 15) hx hb dX3_readStatement_5 (by decide) (fun c_1 => ?_) (fun c_1 => ?_)
  · refine lv_iconst (v := (-1)) hx hb dX3_readStatement_15 (by decide) ?_
    refine lv_istore_n (lv' := [(1, .int (-1)), (0, .ref h)]) hx hb dX3_readStatement_16 rfl hl (by decide) rfl (fun ls hl => ?_)
    refine lv_iload_n hx hb dX3_readStatement_17 rfl (lv_at hl 0 rfl) ?_
    refine lv_iconst (v := (-1)) hx hb dX3_readStatement_18 (by decide) ?_
    refine lv_icmp_ne (tgt := 24) hx hb dX3_readStatement_19 (by decide) (fun c_2 => absurd rfl c_2) (fun c_2 => ?_)
    refine lv_iconst (v := 1) hx hb dX3_readStatement_22 (by decide) ?_
    exact x_wi (1, met, start, next, kind, value, nums) (by unfold sX3_readStatement; rw [if_neg c_1]; try rfl) rfl hx hb hr hlk hS hP (hX.d rfl) [0, 1, 2] rfl rfl (Nat.le_of_ble_eq_true rfl) (Nat.le_of_ble_eq_true rfl) dX3_readStatement_23
  · refine lv_aload_n hx hb dX3_readStatement_8 rfl (lv_at hl 0 rfl) ?_
    refine x_zV [] (kX3_sortOfWord l E Z h bu nu used en met start next kind value buf) ⟨hx, hb, hml, hown, hts⟩ (cwV 0 hts gX3_readStatement_X3_sortOfWord rfl rfl rfl hdX3_sortOfWord ⟨Nat.le_of_ble_eq_true rfl, Nat.le_of_ble_eq_true rfl⟩) hZ hS hE hP (hX.d rfl) [0, 1] rfl rfl (ci := 3) (q0 := 0) rfl rfl rfl hl.1 rfl rfl (Nat.le_of_ble_eq_true rfl) dX3_readStatement_9 (Nat.le_of_ble_eq_true rfl) (Nat.le_of_ble_eq_true rfl) ?_
    refine lv_goto (tgt := 16) hx hb dX3_readStatement_12 (by decide) ?_
    refine lv_istore_n (lv' := [(1, .int (sX3_sortOfWord start next buf)), (0, .ref h)]) hx hb dX3_readStatement_16 rfl hl (by decide) rfl (fun ls hl => ?_)
    refine lv_iload_n hx hb dX3_readStatement_17 rfl (lv_at hl 0 rfl) ?_
    refine lv_iconst (v := (-1)) hx hb dX3_readStatement_18 (by decide) ?_
    refine lv_icmp_ne (tgt := 24) hx hb dX3_readStatement_19 (by decide) (fun c_3 => ?_) (fun c_3 => ?_)
    · refine lv_aload_n hx hb dX3_readStatement_24 rfl (lv_at hl 1 rfl) ?_
      refine va_get (D := E.1) (ci := 3) (v := .int met) (C := RX3) (T := TX3) (N := 9) hx hb hts g_2 hown hE.1 hP 0 rfl rfl 4 (by decide) g_3 (fun _ h9 => h9) rfl dX3_readStatement_25 ?_
      refine lv_iload_n hx hb dX3_readStatement_28 rfl (lv_at hl 0 rfl) ?_
      refine lv_ishr hx hb dX3_readStatement_29 ?_
      refine lv_iconst (v := 1) hx hb dX3_readStatement_30 (by decide) ?_
      refine lv_iand hx hb dX3_readStatement_31 ?_
      refine lv_if_eq (tgt := 37) hx hb dX3_readStatement_32 (by decide) (fun c_4 => ?_) (fun c_4 => ?_)
      · refine lv_aload_n hx hb dX3_readStatement_37 rfl (lv_at hl 1 rfl) ?_
        refine lv_dup hx hb dX3_readStatement_38 rfl ?_
        refine va_get (D := E.1) (ci := 3) (v := .int met) (C := RX3) (T := TX3) (N := 9) hx hb hts g_2 hown hE.1 hP 0 rfl rfl 4 (by decide) g_3 (fun _ h9 => h9) rfl dX3_readStatement_39 ?_
        refine lv_iconst (v := 1) hx hb dX3_readStatement_42 (by decide) ?_
        refine lv_iload_n hx hb dX3_readStatement_43 rfl (lv_at hl 0 rfl) ?_
        refine lv_ishl hx hb dX3_readStatement_44 ?_
        refine lv_ior hx hb dX3_readStatement_45 ?_
        refine va_put (D := E.1) (ci := 3) (v := .int (met ||| (1 <<< ((sX3_sortOfWord start next buf) &&& 31)))) (ty := .int) (C := RX3) (T := TX3) (N := 9) hx hb hts g_2 tyX3 tyX3_ok nmX3 hown hE.1 hP (hX.d rfl) hS 0 rfl rfl 4 (by decide) g_3 (fun _ h9 => h9) rfl (by decide +kernel) rfl rfl (Nat.le_of_ble_eq_true rfl) dX3_readStatement_46 (fun H locs hP _ hS => ?_)
        have hP : va_P E.1 vwCl [(h, .inr (3, [.ref bu, .ref nu, .int used, .int en, .int (met ||| (1 <<< ((sX3_sortOfWord start next buf) &&& 31))), .int start, .int next, .int kind, .int value])), (bu, .inl (E.2.1, 500, .inl buf)), (nu, .inl (E.2.1, 24, .inl nums))] H := hP
        refine lv_iconst (v := 0) hx hb dX3_readStatement_49 (by decide) ?_
        refine lv_istore_n (lv' := [(2, .int 0), (1, .int (sX3_sortOfWord start next buf)), (0, .ref h)]) hx hb dX3_readStatement_50 rfl hl (by decide) rfl (fun ls hl => ?_)
        refine va_getsN hx hb hZ.2.2.2.1.1 hS hown g_4 (fun _ h9 => h9) dX3_readStatement_51 ?_
        refine lv_iload_n hx hb dX3_readStatement_54 rfl (lv_at hl 1 rfl) ?_
        refine lv_iconst (v := 1) hx hb dX3_readStatement_55 (by decide) ?_
        refine lv_iadd hx hb dX3_readStatement_56 ?_
        refine x_zSN [.ref Z.2.2.2.1, .int ((sX3_sortOfWord start next buf) + 1)] (kX8_valueAt_T l E Z Z.2.2.2.1 10 xFirst ((sX3_sortOfWord start next buf) + 1) (by decide) (fun _ _ _ h => h.2.2.2.1.2)) ⟨hx, hb, hml, hown, hts⟩ ⟨va_cnB 2 hts gX3_readStatement_X8_valueAt_n58 rfl rfl rfl g_7 g_5 hdX8_valueAt.2 ⟨Nat.le_of_ble_eq_true rfl, Nat.le_of_ble_eq_true rfl⟩, g_6, trivial⟩ hZ hS hE hP (hX.d rfl) [] rfl rfl hl.1 rfl rfl (Nat.le_of_ble_eq_true rfl) dX3_readStatement_57 (Nat.le_of_ble_eq_true rfl) (Nat.le_of_ble_eq_true rfl) ?_
        refine lv_istore_n (lv' := [(3, .int (sX8_valueAt 10 xFirst ((sX3_sortOfWord start next buf) + 1))), (2, .int 0), (1, .int (sX3_sortOfWord start next buf)), (0, .ref h)]) hx hb dX3_readStatement_60 rfl hl (by decide) rfl (fun ls hl => ?_)
        refine va_getsN hx hb hZ.2.2.2.1.1 hS hown g_4 (fun _ h9 => h9) dX3_readStatement_61 ?_
        refine lv_iload_n hx hb dX3_readStatement_64 rfl (lv_at hl 2 rfl) ?_
        refine x_zSN [.ref Z.2.2.2.1, .int (sX3_sortOfWord start next buf)] (kX8_valueAt_T l E Z Z.2.2.2.1 10 xFirst (sX3_sortOfWord start next buf) (by decide) (fun _ _ _ h => h.2.2.2.1.2)) ⟨hx, hb, hml, hown, hts⟩ ⟨va_cnB 2 hts gX3_readStatement_X8_valueAt_n58 rfl rfl rfl g_7 g_5 hdX8_valueAt.2 ⟨Nat.le_of_ble_eq_true rfl, Nat.le_of_ble_eq_true rfl⟩, g_6, trivial⟩ hZ hS hE hP (hX.d rfl) [] rfl rfl hl.1 rfl rfl (Nat.le_of_ble_eq_true rfl) dX3_readStatement_65 (Nat.le_of_ble_eq_true rfl) (Nat.le_of_ble_eq_true rfl) ?_
        refine lv_istore (lv' := [(4, .int (sX8_valueAt 10 xFirst (sX3_sortOfWord start next buf))), (3, .int (sX8_valueAt 10 xFirst ((sX3_sortOfWord start next buf) + 1))), (2, .int 0), (1, .int (sX3_sortOfWord start next buf)), (0, .ref h)]) hx hb dX3_readStatement_68 hl (by decide) rfl (fun ls hl => ?_)
        have ex_70 : ∀ (cd_70 : Int32) (wh_70 : Int32) (tk_70 : Int32 × Int32 × Int32 × Int32) (nn_70 : Nat → Int32), ∀ (H : Heap) (locs : List Loc), va_P E.1 vwCl [(h, .inr (3, [.ref bu, .ref nu, .int used, .int en, .int (met ||| (1 <<< ((sX3_sortOfWord start next buf) &&& 31))), .int tk_70.1, .int tk_70.2.1, .int tk_70.2.2.1, .int tk_70.2.2.2])), (bu, .inl (E.2.1, 500, .inl buf)), (nu, .inl (E.2.1, 24, .inl nn_70))] H → va_S A s.heap H locs → ∀ (ls : Array Slot), lv_has ls 5 [(0, .ref h), (1, .int (sX3_sortOfWord start next buf)), (2, .int cd_70), (3, .int (sX8_valueAt 10 xFirst ((sX3_sortOfWord start next buf) + 1))), (4, .int wh_70)] → (sX3_readStatement en met start next kind value buf nums) = (if cd_70 = 0 then if ((sX3_readToken en tk_70.2.1 tk_70.2.2.2 buf).2.2.1) = 3 then (0, met ||| (1 <<< ((sX3_sortOfWord start next buf) &&& 31)), (sX3_readToken en tk_70.2.1 tk_70.2.2.2 buf).1, (sX3_readToken en tk_70.2.1 tk_70.2.2.2 buf).2.1, (sX3_readToken en tk_70.2.1 tk_70.2.2.2 buf).2.2.1, (sX3_readToken en tk_70.2.1 tk_70.2.2.2 buf).2.2.2, nn_70) else (1, met ||| (1 <<< ((sX3_sortOfWord start next buf) &&& 31)), (sX3_readToken en tk_70.2.1 tk_70.2.2.2 buf).1, (sX3_readToken en tk_70.2.1 tk_70.2.2.2 buf).2.1, (sX3_readToken en tk_70.2.1 tk_70.2.2.2 buf).2.2.1, (sX3_readToken en tk_70.2.1 tk_70.2.2.2 buf).2.2.2, nn_70) else (cd_70, met ||| (1 <<< ((sX3_sortOfWord start next buf) &&& 31)), tk_70.1, tk_70.2.1, tk_70.2.2.1, tk_70.2.2.2, nn_70) : Int32 × Int32 × Int32 × Int32 × Int32 × Int32 × (Nat → Int32)) → W p l e ({ frames := 6, cells := 0, slots := 0, locals := 128 }) s m args below meth c H locs 0 0 (MQ below (xO (T := Int32 × Int32 × Int32 × Int32 × Int32 × Int32 × (Nat → Int32)) E A (fun q => some (.int q.1)) (fun q => [(h, .inr (3, [.ref bu, .ref nu, .int used, .int en, .int q.2.1, .int q.2.2.1, .int q.2.2.2.1, .int q.2.2.2.2.1, .int q.2.2.2.2.2.1])), (bu, .inl (E.2.1, 500, .inl buf)), (nu, .inl (E.2.1, 24, .inl q.2.2.2.2.2.2))]) (sX3_readStatement en met start next kind value buf nums)) args s 0 0 A) (F0 m 93 ls []) := by
          intro cd_70 wh_70 tk_70 nn_70 H locs hP hS ls hl hx_70
          refine lv_iload_n hx hb dX3_readStatement_93 rfl (lv_at hl 2 rfl) ?_
          refine lv_if_eq (tgt := 99) hx hb dX3_readStatement_94 (by decide) (fun c_5 => ?_) (fun c_5 => ?_)
          · refine lv_aload_n hx hb dX3_readStatement_99 rfl (lv_at hl 0 rfl) ?_
            refine x_wV (wr := [(nu, .inl (E.2.1, 24, .inl nn_70))]) [] (kX3_readToken l E h bu nu used en (met ||| (1 <<< ((sX3_sortOfWord start next buf) &&& 31))) tk_70.1 tk_70.2.1 tk_70.2.2.1 tk_70.2.2.2 buf) ⟨hx, hb, hml, hown, hts⟩ (cwV 0 hts gX3_readStatement_X3_readToken rfl rfl rfl hdX3_readToken ⟨Nat.le_of_ble_eq_true rfl, Nat.le_of_ble_eq_true rfl⟩) hE hP (hX.d rfl) hS hA [0, 1] [2] rfl rfl rfl rfl (by decide) (ci := 3) (q0 := 0) rfl rfl rfl hl.1 rfl rfl (Nat.le_of_ble_eq_true rfl) dX3_readStatement_100 (Nat.le_of_ble_eq_true rfl) (Nat.le_of_ble_eq_true rfl) (fun q_6 H locs hq_6 hP hD hS => ?_)
            subst hq_6
            have hP : va_P E.1 vwCl [(nu, .inl (E.2.1, 24, .inl nn_70)), (h, .inr (3, [.ref bu, .ref nu, .int used, .int en, .int (met ||| (1 <<< ((sX3_sortOfWord start next buf) &&& 31))), .int ((sX3_readToken en tk_70.2.1 tk_70.2.2.2 buf).1), .int ((sX3_readToken en tk_70.2.1 tk_70.2.2.2 buf).2.1), .int ((sX3_readToken en tk_70.2.1 tk_70.2.2.2 buf).2.2.1), .int ((sX3_readToken en tk_70.2.1 tk_70.2.2.2 buf).2.2.2)])), (bu, .inl (E.2.1, 500, .inl buf))] H := hP
            have hX : xD A [nu, h, bu] := xD.of hD rfl
            refine W.eq (g2 := F0 m 103 ls []) rfl ?_
            refine lv_aload_n hx hb dX3_readStatement_103 rfl (lv_at hl 0 rfl) ?_
            refine va_get (D := E.1) (ci := 3) (v := .int ((sX3_readToken en tk_70.2.1 tk_70.2.2.2 buf).2.2.1)) (C := RX3) (T := TX3) (N := 9) hx hb hts g_2 hown hE.1 hP 1 rfl rfl 7 (by decide) g_1 (fun _ h9 => h9) rfl dX3_readStatement_104 ?_
            refine lv_iconst (v := 3) hx hb dX3_readStatement_107 (by decide) ?_
            refine lv_icmp_ne (tgt := 115) hx hb dX3_readStatement_108 (by decide) (fun c_7 => ?_) (fun c_7 => ?_)
            · refine lv_iconst (v := 1) hx hb dX3_readStatement_115 (by decide) ?_
              exact x_wi (1, met ||| (1 <<< ((sX3_sortOfWord start next buf) &&& 31)), (sX3_readToken en tk_70.2.1 tk_70.2.2.2 buf).1, (sX3_readToken en tk_70.2.1 tk_70.2.2.2 buf).2.1, (sX3_readToken en tk_70.2.1 tk_70.2.2.2 buf).2.2.1, (sX3_readToken en tk_70.2.1 tk_70.2.2.2 buf).2.2.2, nn_70) (by rw [hx_70]; rw [if_pos c_5]; rw [if_neg c_7]; try rfl) rfl hx hb hr hlk hS hP (hX.d rfl) [1, 2, 0] rfl rfl (Nat.le_of_ble_eq_true rfl) (Nat.le_of_ble_eq_true rfl) dX3_readStatement_116
            · refine lv_iconst (v := 0) hx hb dX3_readStatement_111 (by decide) ?_
              refine lv_goto (tgt := 116) hx hb dX3_readStatement_112 (by decide) ?_
              exact x_wi (0, met ||| (1 <<< ((sX3_sortOfWord start next buf) &&& 31)), (sX3_readToken en tk_70.2.1 tk_70.2.2.2 buf).1, (sX3_readToken en tk_70.2.1 tk_70.2.2.2 buf).2.1, (sX3_readToken en tk_70.2.1 tk_70.2.2.2 buf).2.2.1, (sX3_readToken en tk_70.2.1 tk_70.2.2.2 buf).2.2.2, nn_70) (by rw [hx_70]; rw [if_pos c_5]; rw [if_pos c_7]; try rfl) rfl hx hb hr hlk hS hP (hX.d rfl) [1, 2, 0] rfl rfl (Nat.le_of_ble_eq_true rfl) (Nat.le_of_ble_eq_true rfl) dX3_readStatement_116
          · refine lv_iload_n hx hb dX3_readStatement_97 rfl (lv_at hl 2 rfl) ?_
            exact x_wi (cd_70, met ||| (1 <<< ((sX3_sortOfWord start next buf) &&& 31)), tk_70.1, tk_70.2.1, tk_70.2.2.1, tk_70.2.2.2, nn_70) (by rw [hx_70]; rw [if_neg c_5]; try rfl) rfl hx hb hr hlk hS hP (hX.d rfl) [0, 1, 2] rfl rfl (Nat.le_of_ble_eq_true rfl) (Nat.le_of_ble_eq_true rfl) dX3_readStatement_98
        have lp_70 : ∀ (kk_70 : Nat), ∀ (cd_70 : Int32) (wh_70 : Int32) (tk_70 : Int32 × Int32 × Int32 × Int32) (nn_70 : Nat → Int32), (xMu (sX8_valueAt 10 xFirst ((sX3_sortOfWord start next buf) + 1)) wh_70) < kk_70 → ∀ (H : Heap) (locs : List Loc), va_P E.1 vwCl [(h, .inr (3, [.ref bu, .ref nu, .int used, .int en, .int (met ||| (1 <<< ((sX3_sortOfWord start next buf) &&& 31))), .int tk_70.1, .int tk_70.2.1, .int tk_70.2.2.1, .int tk_70.2.2.2])), (bu, .inl (E.2.1, 500, .inl buf)), (nu, .inl (E.2.1, 24, .inl nn_70))] H → va_S A s.heap H locs → ∀ (ls : Array Slot), lv_has ls 5 [(0, .ref h), (1, .int (sX3_sortOfWord start next buf)), (2, .int cd_70), (3, .int (sX8_valueAt 10 xFirst ((sX3_sortOfWord start next buf) + 1))), (4, .int wh_70)] → (sX3_readStatement en met start next kind value buf nums) = sX3_readStatement_l70 en start next buf (fun (cd_70 : Int32) (wh_70 : Int32) (tk_70 : Int32 × Int32 × Int32 × Int32) (nn_70 : Nat → Int32) => if cd_70 = 0 then if ((sX3_readToken en tk_70.2.1 tk_70.2.2.2 buf).2.2.1) = 3 then (0, met ||| (1 <<< ((sX3_sortOfWord start next buf) &&& 31)), (sX3_readToken en tk_70.2.1 tk_70.2.2.2 buf).1, (sX3_readToken en tk_70.2.1 tk_70.2.2.2 buf).2.1, (sX3_readToken en tk_70.2.1 tk_70.2.2.2 buf).2.2.1, (sX3_readToken en tk_70.2.1 tk_70.2.2.2 buf).2.2.2, nn_70) else (1, met ||| (1 <<< ((sX3_sortOfWord start next buf) &&& 31)), (sX3_readToken en tk_70.2.1 tk_70.2.2.2 buf).1, (sX3_readToken en tk_70.2.1 tk_70.2.2.2 buf).2.1, (sX3_readToken en tk_70.2.1 tk_70.2.2.2 buf).2.2.1, (sX3_readToken en tk_70.2.1 tk_70.2.2.2 buf).2.2.2, nn_70) else (cd_70, met ||| (1 <<< ((sX3_sortOfWord start next buf) &&& 31)), tk_70.1, tk_70.2.1, tk_70.2.2.1, tk_70.2.2.2, nn_70)) kk_70 cd_70 wh_70 tk_70 nn_70 → W p l e ({ frames := 6, cells := 0, slots := 0, locals := 128 }) s m args below meth c H locs 0 0 (MQ below (xO (T := Int32 × Int32 × Int32 × Int32 × Int32 × Int32 × (Nat → Int32)) E A (fun q => some (.int q.1)) (fun q => [(h, .inr (3, [.ref bu, .ref nu, .int used, .int en, .int q.2.1, .int q.2.2.1, .int q.2.2.2.1, .int q.2.2.2.2.1, .int q.2.2.2.2.2.1])), (bu, .inl (E.2.1, 500, .inl buf)), (nu, .inl (E.2.1, 24, .inl q.2.2.2.2.2.2))]) (sX3_readStatement en met start next kind value buf nums)) args s 0 0 A) (F0 m 70 ls []) := by
          intro kk_70
          induction kk_70 with
          | zero =>
            intro cd_70 wh_70 tk_70 nn_70 hmu
            exact absurd hmu (Nat.not_lt_zero _)
          | succ kk_70 ih_70 =>
            intro cd_70 wh_70 tk_70 nn_70 hmu H locs hP hS ls hl hlq_70
            refine lv_iload hx hb dX3_readStatement_70 (lv_at hl 4 rfl) ?_
            refine lv_iload_n hx hb dX3_readStatement_72 rfl (lv_at hl 3 rfl) ?_
            refine lv_icmp_ge (tgt := 93) hx hb dX3_readStatement_73 (by decide) (fun c_8 => ?_) (fun c_8 => ?_)
            · exact ex_70 cd_70 wh_70 tk_70 nn_70  _ _ hP hS ls (lv_sub hl [0, 1, 2, 3, 4] rfl) (by rw [hlq_70]; rw [sX3_readStatement_l70_s]; rw [if_pos c_8]; try rfl)
            · refine lv_iload_n hx hb dX3_readStatement_76 rfl (lv_at hl 2 rfl) ?_
              refine lv_if_ne (tgt := 93) hx hb dX3_readStatement_77 (by decide) (fun c_9 => ?_) (fun c_9 => ?_)
              · exact ex_70 cd_70 wh_70 tk_70 nn_70  _ _ hP hS ls (lv_sub hl [0, 1, 2, 3, 4] rfl) (by rw [hlq_70]; rw [sX3_readStatement_l70_s]; rw [if_neg c_8]; rw [if_neg c_9]; try rfl)
              · refine lv_aload_n hx hb dX3_readStatement_80 rfl (lv_at hl 0 rfl) ?_
                refine lv_iload hx hb dX3_readStatement_81 (lv_at hl 4 rfl) ?_
                refine x_yV (wr := []) [.int wh_70] (kX3_readNumber l E Z h bu nu used en (met ||| (1 <<< ((sX3_sortOfWord start next buf) &&& 31))) tk_70.1 tk_70.2.1 tk_70.2.2.1 tk_70.2.2.2 buf nn_70 wh_70) ⟨hx, hb, hml, hown, hts⟩ (cwV 1 hts gX3_readStatement_X3_readNumber rfl rfl rfl hdX3_readNumber ⟨Nat.le_of_ble_eq_true rfl, Nat.le_of_ble_eq_true rfl⟩) hZ hE hP (hX.d rfl) hS hA [0, 1, 2] [] rfl rfl rfl rfl (by decide) (ci := 3) (q0 := 0) rfl rfl rfl hl.1 rfl rfl (Nat.le_of_ble_eq_true rfl) dX3_readStatement_83 (Nat.le_of_ble_eq_true rfl) (Nat.le_of_ble_eq_true rfl) (fun q_10 H locs hq_10 hP hD hS => ?_)
                subst hq_10
                have hP : va_P E.1 vwCl [(h, .inr (3, [.ref bu, .ref nu, .int used, .int en, .int (met ||| (1 <<< ((sX3_sortOfWord start next buf) &&& 31))), .int ((sX3_readNumber en tk_70.2.1 tk_70.2.2.2 buf nn_70 wh_70).2.1), .int ((sX3_readNumber en tk_70.2.1 tk_70.2.2.2 buf nn_70 wh_70).2.2.1), .int ((sX3_readNumber en tk_70.2.1 tk_70.2.2.2 buf nn_70 wh_70).2.2.2.1), .int ((sX3_readNumber en tk_70.2.1 tk_70.2.2.2 buf nn_70 wh_70).2.2.2.2.1)])), (bu, .inl (E.2.1, 500, .inl buf)), (nu, .inl (E.2.1, 24, .inl ((sX3_readNumber en tk_70.2.1 tk_70.2.2.2 buf nn_70 wh_70).2.2.2.2.2)))] H := hP
                have hX : xD A [h, bu, nu] := xD.of hD rfl
                refine W.eq (g2 := F0 m 86 ls [.int ((sX3_readNumber en tk_70.2.1 tk_70.2.2.2 buf nn_70 wh_70).1)]) rfl ?_
                refine lv_istore_n (lv' := [(2, .int ((sX3_readNumber en tk_70.2.1 tk_70.2.2.2 buf nn_70 wh_70).1)), (0, .ref h), (1, .int (sX3_sortOfWord start next buf)), (3, .int (sX8_valueAt 10 xFirst ((sX3_sortOfWord start next buf) + 1))), (4, .int wh_70)]) hx hb dX3_readStatement_86 rfl hl (by decide) rfl (fun ls hl => ?_)
                refine lv_iinc (v := wh_70 + 1) (lv' := [(4, .int (wh_70 + 1)), (2, .int ((sX3_readNumber en tk_70.2.1 tk_70.2.2.2 buf nn_70 wh_70).1)), (0, .ref h), (1, .int (sX3_sortOfWord start next buf)), (3, .int (sX8_valueAt 10 xFirst ((sX3_sortOfWord start next buf) + 1)))]) hx hb dX3_readStatement_87 hl (k := 4) rfl (by rfl) (by decide) rfl (fun ls hl => ?_)
                refine lv_goto (tgt := 70) hx hb dX3_readStatement_90 (by decide) ?_
                exact ih_70 ((sX3_readNumber en tk_70.2.1 tk_70.2.2.2 buf nn_70 wh_70).1) (wh_70 + 1) ((sX3_readNumber en tk_70.2.1 tk_70.2.2.2 buf nn_70 wh_70).2.1, (sX3_readNumber en tk_70.2.1 tk_70.2.2.2 buf nn_70 wh_70).2.2.1, (sX3_readNumber en tk_70.2.1 tk_70.2.2.2 buf nn_70 wh_70).2.2.2.1, (sX3_readNumber en tk_70.2.1 tk_70.2.2.2 buf nn_70 wh_70).2.2.2.2.1) ((sX3_readNumber en tk_70.2.1 tk_70.2.2.2 buf nn_70 wh_70).2.2.2.2.2) (x_muN c_8 hmu) _ _ hP hS ls (lv_sub hl [2, 3, 1, 4, 0] rfl) (by rw [hlq_70]; rw [sX3_readStatement_l70_s]; rw [if_neg c_8]; rw [if_pos c_9]; try rfl)
        exact lp_70 (xMu (sX8_valueAt 10 xFirst ((sX3_sortOfWord start next buf) + 1)) (sX8_valueAt 10 xFirst (sX3_sortOfWord start next buf)) + 1) 0 (sX8_valueAt 10 xFirst (sX3_sortOfWord start next buf)) (start, next, kind, value) nums  (Nat.lt_succ_self _) _ _ hP hS ls (lv_sub hl [4, 3, 2, 1, 0] rfl) (by unfold sX3_readStatement; rw [if_pos c_1]; rw [if_neg c_3]; rw [if_pos c_4]; try rfl)
      · refine lv_iconst (v := 2) hx hb dX3_readStatement_35 (by decide) ?_
        exact x_wi (2, met, start, next, kind, value, nums) (by unfold sX3_readStatement; rw [if_pos c_1]; rw [if_neg c_3]; rw [if_neg c_4]; try rfl) rfl hx hb hr hlk hS hP (hX.d rfl) [0, 1, 2] rfl rfl (Nat.le_of_ble_eq_true rfl) (Nat.le_of_ble_eq_true rfl) dX3_readStatement_36
    · refine lv_iconst (v := 1) hx hb dX3_readStatement_22 (by decide) ?_
      exact x_wi (1, met, start, next, kind, value, nums) (by unfold sX3_readStatement; rw [if_pos c_1]; rw [if_pos c_3]; try rfl) rfl hx hb hr hlk hS hP (hX.d rfl) [0, 1, 2] rfl rfl (Nat.le_of_ble_eq_true rfl) (Nat.le_of_ble_eq_true rfl) dX3_readStatement_23
