/-! ===== Int32 by its bits: bt x i ===== -/
def bt (x : Int32) (i : Nat) : Bool := x.toBitVec.getLsbD i
theorem b_ext {x y : Int32} (h : ∀ i, i < 32 → bt x i = bt y i) : x = y := Int32.toBitVec_inj.mp (BitVec.eq_of_getLsbD_eq (fun i hi => h i hi))
theorem b_or (x y : Int32) (i : Nat) : bt (x ||| y) i = (bt x i || bt y i) := by unfold bt; rw [Int32.toBitVec_or, BitVec.getLsbD_or]
theorem b_and (x y : Int32) (i : Nat) : bt (x &&& y) i = (bt x i && bt y i) := by unfold bt; rw [Int32.toBitVec_and, BitVec.getLsbD_and]
theorem b_xor (x y : Int32) (i : Nat) : bt (x ^^^ y) i = (bt x i ^^ bt y i) := by unfold bt; rw [Int32.toBitVec_xor, BitVec.getLsbD_xor]
theorem b_big {x : Int32} {i : Nat} (h : 32 ≤ i) : bt x i = false := BitVec.getLsbD_of_ge _ _ h
theorem b_255 (i : Nat) : bt 255 i = decide (i < 8) := by
  rcases Nat.lt_or_ge i 32 with h | h
  · exact (by decide +kernel : ∀ i, i < 32 → bt 255 i = decide (i < 8)) i h
  · rw [b_big h, decide_eq_false (by omega)]
theorem b_65535 (i : Nat) : bt 65535 i = decide (i < 16) := by
  rcases Nat.lt_or_ge i 32 with h | h
  · exact (by decide +kernel : ∀ i, i < 32 → bt 65535 i = decide (i < 16)) i h
  · rw [b_big h, decide_eq_false (by omega)]
theorem b_m1 : ∀ i, i < 32 → bt (-1) i = true := by decide +kernel
theorem b_0 (i : Nat) : bt 0 i = false := BitVec.getLsbD_zero
theorem s_l : ∀ n, n < 32 → ((nI n &&& 31).toBitVec.smod 32).toNat = n := by decide +kernel
theorem s_u : ∀ n, n < 32 → (((nI n).toUInt32 &&& Int32.toUInt32 31).toBitVec % 32).toNat = n := by decide +kernel
theorem b_shl (n : Nat) (hn : n < 32) (x : Int32) {i : Nat} (hi : i < 32) : bt (x <<< (nI n &&& 31)) i = (decide (n ≤ i) && bt x (i - n)) := by
  unfold bt
  rw [Int32.toBitVec_shiftLeft]
  show (x.toBitVec <<< ((nI n &&& 31).toBitVec.smod 32).toNat).getLsbD i = _
  rw [s_l n hn, BitVec.getLsbD_shiftLeft]
  rcases Nat.lt_or_ge i n with h | h
  · simp [h, Nat.not_le.mpr h]
  · simp [hi, h, Nat.not_lt.mpr h]
theorem b_ushr (n : Nat) (hn : n < 32) (x : Int32) (i : Nat) : bt ((x.toUInt32 >>> ((nI n).toUInt32 &&& Int32.toUInt32 31)).toInt32) i = bt x (n + i) := by
  show (x.toUInt32 >>> ((nI n).toUInt32 &&& Int32.toUInt32 31)).toBitVec.getLsbD i = x.toUInt32.toBitVec.getLsbD (n + i)
  rw [UInt32.toBitVec_shiftRight]
  show (x.toUInt32.toBitVec >>> (((nI n).toUInt32 &&& Int32.toUInt32 31).toBitVec % 32).toNat).getLsbD i = _
  rw [s_u n hn, BitVec.getLsbD_ushiftRight]
theorem b_sshr (n : Nat) (hn : n < 32) (x : Int32) {i : Nat} (hi : i < 32) : bt (x >>> (nI n &&& 31)) i = if n + i < 32 then bt x (n + i) else bt x 31 := by
  unfold bt
  rw [Int32.toBitVec_shiftRight]
  show (x.toBitVec.sshiftRight ((nI n &&& 31).toBitVec.smod 32).toNat).getLsbD i = _
  rw [s_l n hn, BitVec.getLsbD_sshiftRight, BitVec.msb_eq_getLsbD_last]
  simp [hi]
theorem b_shl8 (x : Int32) {i : Nat} (hi : i < 32) : bt (x <<< ((8 : Int32) &&& 31)) i = (decide (8 ≤ i) && bt x (i - 8)) := b_shl 8 (by omega) x hi
theorem b_shl16 (x : Int32) {i : Nat} (hi : i < 32) : bt (x <<< ((16 : Int32) &&& 31)) i = (decide (16 ≤ i) && bt x (i - 16)) := b_shl 16 (by omega) x hi
theorem b_shl24 (x : Int32) {i : Nat} (hi : i < 32) : bt (x <<< ((24 : Int32) &&& 31)) i = (decide (24 ≤ i) && bt x (i - 24)) := b_shl 24 (by omega) x hi
theorem b_sshr8 (x : Int32) {i : Nat} (hi : i < 32) : bt (x >>> ((8 : Int32) &&& 31)) i = if 8 + i < 32 then bt x (8 + i) else bt x 31 := b_sshr 8 (by omega) x hi
/-! ===== a byte read unsigned ===== -/
theorem bp_b (x : Int32) : x.toInt8.toInt32 &&& 255 = x &&& 255 := by
  apply Int32.toBitVec_inj.mp
  rw [Int32.toBitVec_and, Int32.toBitVec_and, Int8.toBitVec_toInt32, Int32.toBitVec_toInt8]
  apply BitVec.eq_of_getLsbD_eq
  intro i hi
  rw [BitVec.getLsbD_and, BitVec.getLsbD_and]
  have hm : ∀ i < 32, 8 ≤ i → (255 : Int32).toBitVec.getLsbD i = false := by decide
  rcases Nat.lt_or_ge i 8 with z | z
  · rw [BitVec.getLsbD_signExtend, BitVec.getLsbD_signExtend, if_pos z, if_pos hi]
    simp only [z, hi, decide_true, Bool.true_and]
  · rw [hm i hi z]; simp
/-! ===== cuts of what is narrow already ===== -/
theorem fb_byte {x : Int32} (h1 : -128 ≤ x.toInt) (h2 : x.toInt < 128) : x.toInt8.toInt32 = x := by
  apply Int32.toInt_inj.1
  rw [Int8.toInt_toInt32, Int32.toInt_toInt8, Int.bmod_eq_of_le (by omega) (by omega)]
theorem fb_short {x : Int32} (h1 : -32768 ≤ x.toInt) (h2 : x.toInt < 32768) : x.toInt16.toInt32 = x := by
  apply Int32.toInt_inj.1
  rw [Int16.toInt_toInt32, Int32.toInt_toInt16, Int.bmod_eq_of_le (by omega) (by omega)]
theorem fb_byte_rng (x : Int32) : -128 ≤ x.toInt8.toInt32.toInt ∧ x.toInt8.toInt32.toInt < 128 := by
  rw [Int8.toInt_toInt32]
  have h1 := Int8.le_toInt x.toInt8
  have h2 := Int8.toInt_lt x.toInt8
  omega
theorem fb_short_rng (x : Int32) : -32768 ≤ x.toInt16.toInt32.toInt ∧ x.toInt16.toInt32.toInt < 32768 := by
  rw [Int16.toInt_toInt32]
  have h1 := Int16.le_toInt x.toInt16
  have h2 := Int16.toInt_lt x.toInt16
  omega
theorem fb_byte_twice (x : Int32) : x.toInt8.toInt32.toInt8.toInt32 = x.toInt8.toInt32 := fb_byte (fb_byte_rng x).1 (fb_byte_rng x).2
theorem fb_short_twice (x : Int32) : x.toInt16.toInt32.toInt16.toInt32 = x.toInt16.toInt32 := fb_short (fb_short_rng x).1 (fb_short_rng x).2
/-! call by call: the text, and what begins anew -/
theorem pe_byte (w : Int32) (k : Nat) (hk : k ≤ 24) : ((w >>> (nI k &&& 31)).toInt8.toInt32) &&& 255 = (w.toUInt32 >>> ((nI k).toUInt32 &&& Int32.toUInt32 31)).toInt32 &&& 255 := by
  rw [bp_b]
  refine b_ext (fun i hi => ?_)
  rw [b_and, b_and, b_255, b_sshr k (by omega) w hi, b_ushr k (by omega)]
  by_cases h : i < 8
  · rw [if_pos (by omega)]
  · rw [decide_eq_false h, Bool.and_false, Bool.and_false]
theorem pe_nar (x : Int32) : vp_nar .byte x.toInt8.toInt32 = x.toInt8.toInt32 := by
  show x.toInt8.toInt32.toInt8.toInt32 = x.toInt8.toInt32
  exact fb_byte_twice x
theorem pe_word {n : Nat} {buf text : Nat → Int32} (h : pq_B n buf text) (hn : n + 4 ≤ 500) (w : Int32) : ∃ buf' text', sX3_addBytesOf (nI n) buf w = (nI (n + 4), buf') ∧ sX9_bytesOf (nI n) text w = (nI (n + 4), text') ∧ pq_B (n + 4) buf' text' := by
  have put : ∀ (i : Nat) (f : Nat → Int32) (v : Int32), i < 500 → sX8_putAt 500 f (nI i) v = upd f i v := fun i f v hi => by
    unfold sX8_putAt
    rw [if_neg (nI_pos (by omega)), if_neg (nI_ge hi (by omega)), nI_clamp (by omega)]
  unfold sX3_addBytesOf sX3_addBytesOf_q_2 sX3_addBytesOf_q_4 sX3_addBytesOf_q_6 sX3_addBytesOf_q_8 sX9_bytesOf
  rw [nI_1, nI_1, nI_1, nI_1, put n _ _ (by omega), put (n + 1) _ _ (by omega), put (n + 1 + 1) _ _ (by omega), put (n + 1 + 1 + 1) _ _ (by omega), nI_clamp (by omega), nI_clamp (by omega), nI_clamp (by omega), nI_clamp (by omega), pe_nar, pe_nar, pe_nar, pe_nar]
  refine ⟨_, _, rfl, rfl, fun k hk => ?_⟩
  have p24 := pe_byte w 24 (by decide)
  have p16 := pe_byte w 16 (by decide)
  have p8 := pe_byte w 8 (by decide)
  have p0 := pe_byte w 0 (by decide)
  simp only [upd]
  by_cases c3 : k = n + 1 + 1 + 1
  · rw [if_pos c3, if_pos c3]
    exact ⟨p0, fb_byte_twice _⟩
  · rw [if_neg c3, if_neg c3]
    by_cases c2 : k = n + 1 + 1
    · rw [if_pos c2, if_pos c2]
      exact ⟨p8, fb_byte_twice _⟩
    · rw [if_neg c2, if_neg c2]
      by_cases c1 : k = n + 1
      · rw [if_pos c1, if_pos c1]
        exact ⟨p16, fb_byte_twice _⟩
      · rw [if_neg c1, if_neg c1]
        by_cases c0 : k = n
        · rw [if_pos c0, if_pos c0]
          exact ⟨p24, fb_byte_twice _⟩
        · rw [if_neg c0, if_neg c0]
          exact h k (by omega)
theorem pe_append {n : Nat} {buf text : Nat → Int32} (h : pq_B n buf text) (hn : n ≤ 500) (a b cc d e : Int32) : ∃ (v : Int32) (n' : Nat) (buf' text' : Nat → Int32), sX8_append (nI n) buf a b cc d e = (v, nI n', buf') ∧ sX9_append (nI n) text a b cc d e = (v, 0, nI n', text') ∧ n' ≤ 500 ∧ pq_B n' buf' text' := by
  unfold sX8_append sX9_append sX3_hasRoomFor
  rw [show (20 : Int32) = nI 20 from rfl, nI_add]
  by_cases c : n + 20 ≤ 500
  · rw [if_neg (show ¬ (500 : Int32) < nI (n + 20) from nI_nlt (b := n + 20) (a := 500) c (by omega)), if_neg (show ¬ (1 : Int32) = 0 by decide), if_pos (show nI (n + 20) ≤ (500 : Int32) from nI_le (b := 500) c (by omega))]
    obtain ⟨b1, t1, e1, f1, h1⟩ := pe_word h (by omega) a
    obtain ⟨b2, t2, e2, f2, h2⟩ := pe_word h1 (by omega) b
    obtain ⟨b3, t3, e3, f3, h3⟩ := pe_word h2 (by omega) cc
    obtain ⟨b4, t4, e4, f4, h4⟩ := pe_word h3 (by omega) d
    obtain ⟨b5, t5, e5, f5, h5⟩ := pe_word h4 (by omega) e
    refine ⟨nI (n + 4 + 4 + 4 + 4 + 4), n + 4 + 4 + 4 + 4 + 4, b5, t5, ?_, ?_, by omega, h5⟩
    · unfold sX8_append_q_2 sX8_append_q_3 sX8_append_q_4 sX8_append_q_5 sX8_append_q_6
      rw [e1]
      dsimp only
      rw [e2]
      dsimp only
      rw [e3]
      dsimp only
      rw [e4]
      dsimp only
      rw [e5]
    · unfold sX9_append_q_2 sX9_append_q_4 sX9_append_q_6 sX9_append_q_8 sX9_append_q_10
      rw [f1]
      dsimp only
      rw [f2]
      dsimp only
      rw [f3]
      dsimp only
      rw [f4]
      dsimp only
      rw [f5]
  · rw [if_pos (show (500 : Int32) < nI (n + 20) from nI_lt (a := 500) (by omega) (by omega)), if_pos rfl, if_neg (show ¬ nI (n + 20) ≤ (500 : Int32) from nI_ge (a := 500) (by omega) (by omega))]
    exact ⟨-1, n, buf, text, rfl, rfl, hn, h⟩
theorem pe_draft (told : Nat → Int32) : ∀ k, k < 24 → xUsual k = sX9_clearDraft told (24 + k) := by
  intro k hk
  match k, hk with
  | 0, _ => rfl
  | 1, _ => rfl
  | 2, _ => rfl
  | 3, _ => rfl
  | 4, _ => rfl
  | 5, _ => rfl
  | 6, _ => rfl
  | 7, _ => rfl
  | 8, _ => rfl
  | 9, _ => rfl
  | 10, _ => rfl
  | 11, _ => rfl
  | 12, _ => rfl
  | 13, _ => rfl
  | 14, _ => rfl
  | 15, _ => rfl
  | 16, _ => rfl
  | 17, _ => rfl
  | 18, _ => rfl
  | 19, _ => rfl
  | 20, _ => rfl
  | 21, _ => rfl
  | 22, _ => rfl
  | 23, _ => rfl
  | n + 24, hn => exact absurd hn (by omega)
theorem pe_low (told : Nat → Int32) : pq_Lo told (sX9_clearDraft told) := by
  intro k hk
  match k, hk with
  | 0, _ => rfl
  | 1, _ => rfl
  | 2, _ => rfl
  | 3, _ => rfl
  | 4, _ => rfl
  | 5, _ => rfl
  | 6, _ => rfl
  | 7, _ => rfl
  | 8, _ => rfl
  | 9, _ => rfl
  | 10, _ => rfl
  | 11, _ => rfl
  | 12, _ => rfl
  | 13, _ => rfl
  | 14, _ => rfl
  | 15, _ => rfl
  | 16, _ => rfl
  | 17, _ => rfl
  | 18, _ => rfl
  | 19, _ => rfl
  | 20, _ => rfl
  | 21, _ => rfl
  | 22, _ => rfl
  | 23, _ => rfl
  | n + 24, hn => exact absurd hn (by omega)
theorem pe_lifts (td : Nat → Int32) : ∀ k, k < 24 → sX9_lifts td k = td (24 + k) := by
  intro k hk
  match k, hk with
  | 0, _ => rfl
  | 1, _ => rfl
  | 2, _ => rfl
  | 3, _ => rfl
  | 4, _ => rfl
  | 5, _ => rfl
  | 6, _ => rfl
  | 7, _ => rfl
  | 8, _ => rfl
  | 9, _ => rfl
  | 10, _ => rfl
  | 11, _ => rfl
  | 12, _ => rfl
  | 13, _ => rfl
  | 14, _ => rfl
  | 15, _ => rfl
  | 16, _ => rfl
  | 17, _ => rfl
  | 18, _ => rfl
  | 19, _ => rfl
  | 20, _ => rfl
  | 21, _ => rfl
  | 22, _ => rfl
  | 23, _ => rfl
  | n + 24, hn => exact absurd hn (by omega)
theorem pe_usual : pb_R xUsual := by
  have h : ∀ k, k < 24 → (xLeast k).toInt ≤ (xUsual k).toInt ∧ (xUsual k).toInt ≤ (xMost k).toInt := by decide +kernel
  exact h
/-- the row of a fresh plant -/
theorem pe_beginL (K : Int32 → (Nat → Int32) → (Nat → Int32) × Int32 × Int32 × (Nat → Int32)) (now0 : Nat → Int32) : ∀ (fuel i : Nat) (now : Nat → Int32), i ≤ 214 → 214 - i < fuel → (∀ k, now k = if k < i then 0 else now0 k) → ∃ i' now', sX9_begins_l2 K fuel (nI i) now = K i' now' ∧ ∀ k, now' k = if k < 214 then 0 else now0 k := by
  intro fuel
  induction fuel with
  | zero => intro i now _ h _; omega
  | succ fuel ih =>
    intro i now hi hf hk
    rw [sX9_begins_l2]
    by_cases c : i = 214
    · subst c
      rw [if_pos (by decide)]
      exact ⟨_, _, rfl, hk⟩
    · rw [if_neg (show ¬ (214 : Int32) ≤ nI i from nI_ge (b := 214) (by omega) (by omega)), nI_clamp (by omega), nI_1]
      refine ih (i + 1) _ (by omega) (by omega) (fun k => ?_)
      unfold upd
      by_cases d : k = i
      · rw [if_pos d, if_pos (by omega)]
      · rw [if_neg d, hk k]
        by_cases e : k < i
        · rw [if_pos e, if_pos (by omega)]
        · rw [if_neg e, if_neg (by omega)]
theorem pe_begins (now told sav : Nat → Int32) : ∃ now', sX9_begins now told sav = (now', 0, 0, upd (upd sav 0 0) 1 0) ∧ now' 5 = told 7 ∧ now' 10 = 2048 ∧ now' 11 = 2048 ∧ ∀ k, k < 214 → k ≠ 5 → k ≠ 10 → k ≠ 11 → now' k = 0 := by
  obtain ⟨i', z, e1, e2⟩ := pe_beginL (fun (i_2 : Int32) (now_2 : Nat → Int32) => (upd (upd (upd now_2 5 (told 7)) 10 2048) 11 2048, 0, 0, upd (upd sav 0 0) 1 0)) now 215 0 now (by omega) (by omega) (fun k => by rw [if_neg (by omega)])
  refine ⟨upd (upd (upd z 5 (told 7)) 10 2048) 11 2048, e1, rfl, rfl, rfl, fun k hk h5 h10 h11 => ?_⟩
  simp only [upd]
  rw [if_neg h11, if_neg h10, if_neg h5, e2, if_pos hk]
theorem pe_bit0 (i : Nat) : pb_bit 0 0 0 0 i = false := by
  have z : ∀ j, (0 : Int64).toBitVec.getLsbD j = false := fun j => BitVec.getLsbD_zero
  unfold pb_bit
  split
  · exact z _
  · split
    · exact z _
    · split
      · exact z _
      · exact z _
theorem pe_fresh {num now : Nat → Int32} (hR : pb_R num) {rs fs : Nat → Int32} (hok : pb_ok num (num 7) rs fs) (h5 : now 5 = num 7) (h10 : now 10 = 2048) (h11 : now 11 = 2048) (hz : ∀ k, k < 214 → k ≠ 5 → k ≠ 10 → k ≠ 11 → now k = 0) : pb_S num ((0, 0, 2048, 2048, 0, 0, 0, 0, 0, 0, 0, 0, 0, 0, 0, 0), num 7, 0, rs, fs) now := by
  have z : ∀ k, k < 214 → (k == 5 || k == 10 || k == 11) = false → now k = 0 := fun k hk h => by
    simp only [Bool.or_eq_false_iff, beq_eq_false_iff_ne] at h
    exact hz k hk h.1.1 h.1.2 h.2
  have e0 := z 0 (by decide) rfl
  have r7 := hR 7 (by decide)
  have k7 : (xMost 7).toInt = 500 := by decide
  have l7 : (xLeast 7).toInt = 1 := by decide
  rw [k7, l7] at r7
  refine ⟨⟨0, 0, 0, 0, ?_, ⟨fun i hi => ?_, fun k hk => Or.inl (z _ (by omega) ?_)⟩⟩, ⟨?_, Or.inl (z 1 (by decide) rfl), ⟨⟨?_, ?_⟩, ?_, ?_⟩, fun _ => ⟨?_, ?_⟩, ?_⟩, h5, z 8 (by decide) rfl, hok⟩
  · unfold pb_G
    rw [z 2 (by decide) rfl, z 3 (by decide) rfl, h10, h11, z 12 (by decide) rfl, z 13 (by decide) rfl, e0, z 1 (by decide) rfl, z 4 (by decide) rfl, z 6 (by decide) rfl, z 7 (by decide) rfl, z 9 (by decide) rfl]
  · rw [e0, pe_bit0, decide_eq_false (by rw [Int32.toInt_zero]; omega), Bool.false_and]
  · simp only [Bool.or_eq_false_iff, beq_eq_false_iff_ne]
    omega
  · rw [e0]; decide
  · rw [h10]; decide
  · rw [h11]; decide
  · rw [z 12 (by decide) rfl]; decide
  · rw [z 13 (by decide) rfl]; decide
  · rw [z 12 (by decide) rfl]; decide
  · rw [z 13 (by decide) rfl]; decide
  · rw [h5]; exact r7
theorem pe_start {num : Nat → Int32} (hR : pb_R num) (rs fs : Nat → Int32) (tx tv ta1 ta2 tw1 tw2 : Int32) : ∃ (rs' fs' : Nat → Int32) (tr : pbM), sX8_startAnew num rs fs tx tv ta1 ta2 tw1 tw2 = (0, 0, 2048, 2048, 0, 0, 0, 0, 0, num 7, 0, 0, 0, 0, 0, 0, 0, 0, rs', fs', tr) ∧ pb_ok num (num 7) rs' fs' := by
  obtain ⟨rs', fs', tr, t1, t2⟩ := pb_tryAll (pb_R3 hR) rs fs tx tv ta1 ta2 tw1 tw2 (num 7)
  refine ⟨rs', fs', tr, ?_, t1⟩
  unfold sX8_startAnew sX8_startAnew_q_1 sX6_begin sX6_begin_q_1 sX6_begin_q_2 sX1_restAt sX4_clearAll
  rw [pb_n7]
  dsimp only
  rw [t2]
  rfl
theorem pe_okOf {num num' : Nat → Int32} (h : ∀ k, k < 24 → num' k = num k) (hR : pb_R num) : pb_R num' := fun k hk => by rw [h k hk]; exact hR k hk
/-- both readers, on the same text -/
theorem pe_parse {m : Nat} {buf text : Nat → Int32} (h : pq_B m buf text) (hm : m ≤ 500) (value : Int32) (nums told : Nat → Int32) (length textSize start next token valueM error errorAt seen tw undos : Int32) (now sav : Nat → Int32) (hin : ¬ sX9_within (nI m) 0 length = 0) : ∃ (cd ct : Int32) (ck : Int32 × Int32 × Int32 × Int32) (nn : Nat → Int32), sX3_readText value buf nums (nI m) = (cd, ct, ck.1, ck.2.1, ck.2.2.1, ck.2.2.2, nn) ∧ ((cd = 0 ∧ pb_R nn ∧ ∃ (a : pqA) (td : Nat → Int32), pq_D nn td ∧ sX9_parse length textSize start next token valueM error errorAt seen tw undos text told now sav (nI m) = (0, 0, 0, nI m, a.1, a.2.1, a.2.2.1, a.2.2.2.1, a.2.2.2.2.1, -1, a.2.2.2.2.2.2, (sX9_begins now (sX9_lifts td) sav).2.1, (sX9_begins now (sX9_lifts td) sav).2.2.1, sX9_lifts td, (sX9_begins now (sX9_lifts td) sav).1, (sX9_begins now (sX9_lifts td) sav).2.2.2)) ∨ (¬ cd = 0 ∧ ∃ (a : pqA) (td : Nat → Int32), pq_Lo told td ∧ sX9_parse length textSize start next token valueM error errorAt seen tw undos text told now sav (nI m) = (cd, 0, 0, nI m, a.1, a.2.1, a.2.2.1, a.2.2.2.1, a.2.2.2.2.1, ck.1, a.2.2.2.2.2.2, undos, tw, td, now, sav))) := by
  obtain ⟨s, e, k, vc, vm, t1, t2, t3, t4, t5, t6, t7⟩ := pq_tok h hm (p := 0) (by omega) value
  have hD : pq_D (va_cpy xUsual nums 0 0 24) (sX9_clearDraft told) := fun k hk => by
    rw [pb_cpyLo hk]
    exact pe_draft told k hk
  have hR0 : pb_R (va_cpy xUsual nums 0 0 24) := pe_okOf (fun k hk => pb_cpyLo hk) pe_usual
  unfold sX3_readText sX9_parse
  have t6' : sX3_readToken (nI m) 0 value buf = (nI s, nI e, k, vc) := t6
  have t7' : sX9_advance (nI m) 0 text = (nI s, nI e, k, vm) := t7
  rw [if_neg hin, t6', t7']
  dsimp only
  rw [pq_mu hm t3]
  obtain ⟨cd', k', mt', ck', nn', gd', mk', td', ⟨hLo, hE⟩, l1, l2⟩ := pq_loop h hm (told0 := told) (fun (cd_38 : Int32) (_ : Int32) (mt_38 : Int32) (tk_38 : Int32 × Int32 × Int32 × Int32) (nn_38 : Nat → Int32) => (cd_38, mt_38, tk_38.1, tk_38.2.1, tk_38.2.2.1, tk_38.2.2.2, nn_38)) (fun (gd_72 : Int32) (tk_72 : Int32 × Int32 × Int32 × Int32 × Int32 × Int32 × Int32) (td__72 : Nat → Int32) => if gd_72 = 0 then (tk_72.2.2.2.2.1, 0, 0, nI m, tk_72.1, tk_72.2.1, tk_72.2.2.1, tk_72.2.2.2.1, tk_72.2.2.2.2.1, tk_72.2.2.2.2.2.1, tk_72.2.2.2.2.2.2, undos, tw, td__72, now, sav) else (0, 0, 0, nI m, tk_72.1, tk_72.2.1, tk_72.2.2.1, tk_72.2.2.2.1, tk_72.2.2.2.2.1, tk_72.2.2.2.2.2.1, tk_72.2.2.2.2.2.2, (sX9_begins now (sX9_lifts td__72) sav).2.1, (sX9_begins now (sX9_lifts td__72) sav).2.2.1, (sX9_lifts td__72), (sX9_begins now (sX9_lifts td__72) sav).1, (sX9_begins now (sX9_lifts td__72) sav).2.2.2)) (m - e) 0 s e k 0 vc vm (va_cpy xUsual nums 0 0 24) (sX9_clearDraft told) (xMu 500 0 + 1) (m - e + 2) (Nat.le_refl _) t2 t3 (fun x => by have := t4 x; omega) (by omega) hD hR0 (pe_low told) (by decide) (by omega)
  refine ⟨cd', mt', ck', nn', l1, ?_⟩
  rcases hE with ⟨z1, z2, z3, z4, z5, z6⟩ | ⟨z1, z2, z3, z4⟩
  · refine Or.inl ⟨z1, z6, mk', td', z5, ?_⟩
    refine l2.trans ?_
    rw [if_neg z2, z4]
  · refine Or.inr ⟨z1, mk', td', hLo, ?_⟩
    refine l2.trans ?_
    rw [if_pos z2, z3, z4]
