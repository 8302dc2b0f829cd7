/-! the plant text: words, numbers, statements -/
theorem pq_chars : ∀ w, w < 9 → ∀ k, k < 8 → k < xWl w → 0 ≤ (sJ0_charAt_5068e w (nI k)).toInt ∧ (sJ0_charAt_5068e w (nI k)).toInt < 128 := by decide +kernel
theorem pq_lens : ∀ w, w < 9 → sJ0_length_8abf5 w = nI (xWl w) ∧ xWl w ≤ 8 := by decide +kernel
theorem pq_small : ∀ c, c < 128 → (nI c).toInt8.toInt32 = nI c := by decide +kernel
theorem pq_same {b c : Int32} (hb : b.toInt8.toInt32 = b) (h0 : 0 ≤ c.toInt) (h1 : c.toInt < 128) : b = c ↔ b &&& 255 = c := by
  rw [pb_nI h0]
  have hc : c.toInt.toNat < 128 := by omega
  have := sc_eq hb (n := c.toInt.toNat) (by omega)
  rw [pq_small _ hc] at this
  exact this
theorem pq_w0 (s : Int32) (text : Nat → Int32) (w : Nat) : ∀ (fuel : Nat) (k : Int32), sX9_isWord_l32 s text w (fun _ sm => sm) fuel k 0 = 0 := by
  intro fuel
  cases fuel with
  | zero => intro k; rfl
  | succ fuel =>
    intro k
    rw [sX9_isWord_l32]
    split
    · rfl
    · rfl
theorem pq_wl {n : Nat} {buf text : Nat → Int32} (h : pq_B n buf text) (hn : n ≤ 500) {w s : Nat} (hw : w < 9) (hs : s + xWl w ≤ n) : ∀ (fuel k : Nat), k ≤ xWl w → xWl w - k < fuel → sX3_isWord_l20 (nI s) buf w (fun _ => 1) fuel (nI k) = sX9_isWord_l32 (nI s) text w (fun _ sm => sm) fuel (nI k) 1 := by
  intro fuel
  have hl := pq_lens w hw
  induction fuel with
  | zero => intro k _ h2; omega
  | succ fuel ih =>
    intro k hk hf
    rw [sX3_isWord_l20, sX9_isWord_l32, hl.1]
    by_cases c : k = xWl w
    · subst c
      rw [if_pos (nI_le (Nat.le_refl _) (by omega)), if_pos (nI_le (Nat.le_refl _) (by omega))]
    · have hk2 : k < xWl w := by omega
      rw [if_neg (nI_ge hk2 (by omega)), if_neg (nI_ge hk2 (by omega)), if_neg (show ¬ (1 : Int32) = 0 by decide), nI_add, pq_val buf (by omega), nI_clamp (by omega), nI_1]
      have hb := h (s + k) (by omega)
      have hc := pq_chars w hw k (by omega) hk2
      have hq := pq_same hb.2 hc.1 hc.2
      rw [hb.1] at hq
      by_cases d : buf (s + k) = sJ0_charAt_5068e w (nI k)
      · rw [if_pos d.symm, if_pos (hq.mpr d)]
        exact ih (k + 1) hk2 (by omega)
      · rw [if_neg (fun x => d x.symm), if_neg (fun x => d (hq.mp x)), pq_w0]
theorem pq_word {n : Nat} {buf text : Nat → Int32} (h : pq_B n buf text) (hn : n ≤ 500) {w s e : Nat} (hw : w < 9) (hs : s ≤ e) (he : e ≤ n) : sX3_isWord (nI s) (nI e) buf w = sX9_isWord (nI s) (nI e) 1 text w := by
  have hl := pq_lens w hw
  unfold sX3_isWord sX9_isWord
  rw [if_pos rfl, hl.1, show nI e - nI s = nI (e - s) from pk_sub hs]
  by_cases c : xWl w = e - s
  · rw [if_pos (by rw [c]), if_pos (by rw [c]), pb_xMu (by omega)]
    exact pq_wl h hn hw (by omega) (xWl w + 1) 0 (Nat.zero_le _) (by omega)
  · rw [if_neg (fun x => c ((nI_eq (by omega) (by omega)).mp x)), if_neg (fun x => c ((nI_eq (by omega) (by omega)).mp x).symm), pq_w0]
theorem pq_noWord (s e : Int32) {k : Int32} (hk : ¬ k = 1) (text : Nat → Int32) (w : Nat) : sX9_isWord s e k text w = 0 := by
  unfold sX9_isWord
  rw [if_neg hk, pq_w0]
theorem pq_sort (s e : Int32) (buf : Nat → Int32) : sX3_sortOfWord s e buf = if sX3_isWord s e buf 0 = 0 then (if sX3_isWord s e buf 1 = 0 then (if sX3_isWord s e buf 2 = 0 then (if sX3_isWord s e buf 3 = 0 then (if sX3_isWord s e buf 4 = 0 then (if sX3_isWord s e buf 5 = 0 then (if sX3_isWord s e buf 6 = 0 then (if sX3_isWord s e buf 7 = 0 then (if sX3_isWord s e buf 8 = 0 then (-1) else 8) else 7) else 6) else 5) else 4) else 3) else 2) else 1) else 0 := rfl
abbrev pqC : Type := Int32 × Int32 × Int32 × Int32 × Int32 × (Nat → Int32)
abbrev pqM : Type := Int32 × Int32 × Int32 × Int32 × Int32 × Int32 × Int32 × (Nat → Int32)
def pq_cs (t : Int32) (buf : Nat → Int32) (w : Int32) (c : pqC) : pqC := if c.1 = 0 then sX3_readNumber t c.2.2.1 c.2.2.2.2.1 buf c.2.2.2.2.2 w else c
def pq_cn (t : Int32) (buf : Nat → Int32) : Nat → Nat → pqC → pqC
  | 0, _, c => c
  | m + 1, w, c => pq_cn t buf m (w + 1) (pq_cs t buf (nI w) c)
theorem pq_stop (t : Int32) (buf : Nat → Int32) : ∀ (m w : Nat) (c : pqC), ¬ c.1 = 0 → pq_cn t buf m w c = c := by
  intro m
  induction m with
  | zero => intro w c _; rfl
  | succ m ih =>
    intro w c h
    rw [pq_cn, pq_cs, if_neg h]
    exact ih (w + 1) c h
theorem pq_l70 (t s e : Int32) (buf : Nat → Int32) {B : Nat} (hB : sX8_valueAt 10 xFirst (sX3_sortOfWord s e buf + 1) = nI B) (hB2 : B ≤ 24) (kont : Int32 → Int32 → Int32 × Int32 × Int32 × Int32 → (Nat → Int32) → Int32 × Int32 × Int32 × Int32 × Int32 × Int32 × (Nat → Int32)) : ∀ (m w : Nat) (c : pqC) (fuel : Nat), m < fuel → w + m = B → ∃ wh', sX3_readStatement_l70 t s e buf kont fuel c.1 (nI w) (c.2.1, c.2.2.1, c.2.2.2.1, c.2.2.2.2.1) c.2.2.2.2.2 = kont (pq_cn t buf m w c).1 wh' ((pq_cn t buf m w c).2.1, (pq_cn t buf m w c).2.2.1, (pq_cn t buf m w c).2.2.2.1, (pq_cn t buf m w c).2.2.2.2.1) (pq_cn t buf m w c).2.2.2.2.2 := by
  intro m
  induction m with
  | zero =>
    intro w c fuel hf hw
    obtain ⟨fuel, rfl⟩ : ∃ f, fuel = f + 1 := ⟨fuel - 1, by omega⟩
    refine ⟨nI w, ?_⟩
    rw [sX3_readStatement_l70, hB, if_pos (nI_le (by omega) (by omega))]
    rfl
  | succ m ih =>
    intro w c fuel hf hw
    obtain ⟨fuel, rfl⟩ : ∃ f, fuel = f + 1 := ⟨fuel - 1, by omega⟩
    by_cases h : c.1 = 0
    · obtain ⟨wh', e1⟩ := ih (w + 1) (sX3_readNumber t c.2.2.1 c.2.2.2.2.1 buf c.2.2.2.2.2 (nI w)) fuel (by omega) (by omega)
      refine ⟨wh', ?_⟩
      rw [sX3_readStatement_l70, hB, if_neg (nI_ge (by omega) (by omega)), if_pos h, pq_cn, pq_cs, if_pos h, nI_1]
      exact e1
    · refine ⟨nI w, ?_⟩
      rw [sX3_readStatement_l70, hB, if_neg (nI_ge (by omega) (by omega)), if_neg h, pq_stop t buf (m + 1) w c h]
def pq_D (nums told : Nat → Int32) : Prop := ∀ k, k < 24 → nums k = told (24 + k)
def pq_Lo (told0 told : Nat → Int32) : Prop := ∀ k, k < 24 → told k = told0 k
/-- numbers read so far: by both, or refused by both -/
def pq_R (n : Nat) (text told0 : Nat → Int32) (p0 : Nat) (c : pqC) (q : pqM) : Prop := pq_Lo told0 q.2.2.2.2.2.2.2 ∧ ((c.1 = 0 ∧ q.1 = 1 ∧ q.2.1 = 0 ∧ q.2.2.1 = -1 ∧ (∃ p, p0 ≤ p ∧ p ≤ n ∧ c.2.2.1 = nI p ∧ (q.2.2.2.1, q.2.2.2.2.1, q.2.2.2.2.2.1, q.2.2.2.2.2.2.1) = sX9_advance (nI n) (nI p) text) ∧ pq_D c.2.2.2.2.2 q.2.2.2.2.2.2.2 ∧ pb_R c.2.2.2.2.2) ∨ (¬ c.1 = 0 ∧ q.1 = 0 ∧ q.2.1 = c.1 ∧ q.2.2.1 = c.2.1))
def pq_ms (t : Int32) (text : Nat → Int32) (w lo hi : Int32) (q : pqM) : pqM := if q.1 = 0 then q else sX9_sets t q.2.2.2.1 q.2.2.2.2.1 q.2.2.2.2.2.1 q.2.2.2.2.2.2.1 q.2.1 q.2.2.1 text q.2.2.2.2.2.2.2 w lo hi
theorem pq_least {w : Nat} (hw : w < 24) (f : Nat → Int32) : sX8_valueAt 24 f (nI w) = f w := by
  unfold sX8_valueAt
  rw [if_neg (nI_pos (by omega)), if_neg (nI_ge hw (by omega)), nI_clamp (by omega)]
theorem pq_putw {w : Nat} (hw : w < 24) (f : Nat → Int32) (v : Int32) : sX8_putAt 24 f (nI w) v = upd f w v := by
  unfold sX8_putAt
  rw [if_neg (nI_pos (by omega)), if_neg (nI_ge hw (by omega)), nI_clamp (by omega)]
theorem pq_step {n : Nat} {buf text told0 : Nat → Int32} (h : pq_B n buf text) (hn : n ≤ 500) {p0 w : Nat} (hw : w < 24) {c : pqC} {q : pqM} (hR : pq_R n text told0 p0 c q) : pq_R n text told0 p0 (pq_cs (nI n) buf (nI w) c) (pq_ms (nI n) text (nI w) (xLeast w) (xMost w) q) := by
  obtain ⟨hLo, hR⟩ := hR
  rcases hR with ⟨c0, q0, e0, a0, ⟨p, p1, p2, p3, p4⟩, hD, hRg⟩ | ⟨c0, q0, e0, a0⟩
  · obtain ⟨s, e, k, vc, vm, t1, t2, t3, t4, t5, t6, t7⟩ := pq_tok h hn p2 c.2.2.2.2.1
    obtain ⟨g, er, ea, st, nx, tk, v, told⟩ := q
    obtain ⟨cc, cs, cn, ck, cv, nums⟩ := c
    dsimp only at c0 q0 e0 a0 p3 p4 hD hRg hLo t6
    subst c0; subst q0; subst e0; subst a0; subst p3
    rw [t7] at p4
    simp only [Prod.mk.injEq] at p4
    obtain ⟨rfl, rfl, rfl, rfl⟩ := p4
    unfold pq_cs pq_ms
    dsimp only
    rw [if_pos rfl, if_neg (by decide)]
    unfold sX3_readNumber sX3_readNumber_q_1 sX9_sets
    rw [t6]
    dsimp only
    rw [pq_least hw, pq_least hw]
    by_cases k2 : tk = 2
    · rw [if_pos k2, if_pos k2]
      have hv := t5 k2
      subst hv
      unfold sX9_within
      by_cases l1 : vc < xLeast w
      · rw [if_pos l1, if_pos l1, if_pos rfl]
        exact ⟨hLo, Or.inr ⟨(by decide : ¬ (3 : Int32) = 0), rfl, rfl, rfl⟩⟩
      · rw [if_neg l1, if_neg l1]
        by_cases l2 : vc ≤ xMost w
        · have e1 : (if xMost w < vc then (0 : Int32) else 1) = 1 := if_neg (by rw [Int32.not_lt]; exact l2)
          rw [if_pos l2, e1, if_neg (by decide)]
          unfold sX3_readNumber_q_5 sX9_draft
          rw [pq_putw hw, show (24 : Int32) + nI w = nI (24 + w) from nI_add 24 w, nI_clamp (by omega)]
          refine ⟨fun j hj => ?_, Or.inl ⟨rfl, rfl, rfl, rfl, ⟨e, by omega, t3, rfl, rfl⟩, fun j hj => ?_, fun j hj => ?_⟩⟩
          · show (if _ then _ else _) = _
            rw [if_neg (by omega)]
            exact hLo j hj
          · show (if _ then _ else _) = (if _ then _ else _)
            by_cases c1 : j = w
            · rw [if_pos c1, if_pos (by omega)]
            · rw [if_neg c1, if_neg (by omega)]
              exact hD j hj
          · show _ ≤ (if _ then _ else _ : Int32).toInt ∧ (if _ then _ else _ : Int32).toInt ≤ _
            by_cases c1 : j = w
            · rw [if_pos c1, c1]
              rw [Int32.lt_iff_toInt_lt] at l1
              rw [Int32.le_iff_toInt_le] at l2
              exact ⟨by omega, l2⟩
            · rw [if_neg c1]
              exact hRg j hj
        · have e1 : (if xMost w < vc then (0 : Int32) else 1) = 0 := if_pos (by rw [← Int32.not_le]; exact l2)
          rw [if_neg l2, e1, if_pos rfl]
          exact ⟨hLo, Or.inr ⟨(by decide : ¬ (3 : Int32) = 0), rfl, rfl, rfl⟩⟩
    · rw [if_neg k2, if_neg k2]
      exact ⟨hLo, Or.inr ⟨(by decide : ¬ (1 : Int32) = 0), rfl, rfl, rfl⟩⟩
  · unfold pq_cs pq_ms
    rw [if_neg c0, if_pos q0]
    exact ⟨hLo, Or.inr ⟨c0, q0, e0, a0⟩⟩
/-- a statement of the reference, out of its numbers -/
def pq_sm (sn : Int32) (q : pqM) : Int32 × Int32 × Int32 × Int32 × Int32 × Int32 × Int32 × Int32 × (Nat → Int32) := (q.1, q.2.1, q.2.2.1, q.2.2.2.1, q.2.2.2.2.1, q.2.2.2.2.2.1, q.2.2.2.2.2.2.1, sn, q.2.2.2.2.2.2.2)
theorem pq_s01 (t s e k v er ea : Int32) (text told : Nat → Int32) (w lo hi : Int32) : (sX9_sets t s e k v er ea text told w lo hi).1 = 0 ∨ (sX9_sets t s e k v er ea text told w lo hi).1 = 1 := by
  unfold sX9_sets
  split
  · split
    · exact Or.inl rfl
    · exact Or.inr rfl
  · exact Or.inl rfl
theorem pq_m01 (t : Int32) (text : Nat → Int32) (w lo hi : Int32) {q : pqM} (h : q.1 = 0 ∨ q.1 = 1) : (pq_ms t text w lo hi q).1 = 0 ∨ (pq_ms t text w lo hi q).1 = 1 := by
  unfold pq_ms
  split
  · exact h
  · exact pq_s01 _ _ _ _ _ _ _ _ _ _ _ _
theorem pq_sm0 {sn : Int32} {q : pqM} (h : q.1 = 0) : (0, q.2.1, q.2.2.1, q.2.2.2.1, q.2.2.2.2.1, q.2.2.2.2.2.1, q.2.2.2.2.2.2.1, sn, q.2.2.2.2.2.2.2) = pq_sm sn q := by
  unfold pq_sm
  rw [h]
theorem pq_sm1 {sn : Int32} {q : pqM} (h : q.1 = 0 ∨ q.1 = 1) (h0 : ¬ q.1 = 0) : (1, q.2.1, q.2.2.1, q.2.2.2.1, q.2.2.2.2.1, q.2.2.2.2.2.1, q.2.2.2.2.2.2.1, sn, q.2.2.2.2.2.2.2) = pq_sm sn q := by
  unfold pq_sm
  rw [h.resolve_left h0]
theorem pq_end {sn : Int32} {q : pqM} (h : q.1 = 0 ∨ q.1 = 1) : (if q.1 = 0 then (0, q.2.1, q.2.2.1, q.2.2.2.1, q.2.2.2.2.1, q.2.2.2.2.2.1, q.2.2.2.2.2.2.1, sn, q.2.2.2.2.2.2.2) else (1, q.2.1, q.2.2.1, q.2.2.2.1, q.2.2.2.2.1, q.2.2.2.2.2.1, q.2.2.2.2.2.2.1, sn, q.2.2.2.2.2.2.2)) = pq_sm sn q := by
  by_cases h0 : q.1 = 0
  · rw [if_pos h0, pq_sm0 h0]
  · rw [if_neg h0, pq_sm1 h h0]
theorem pq_two (t s e k v er ea : Int32) (text told : Nat → Int32) (w hi : Int32) : sX9_two t s e k v er ea text told w hi = pq_ms t text (w + 1) 0 hi (sX9_sets t s e k v er ea text told w 0 hi) := by
  unfold sX9_two pq_ms
  have h1 := pq_s01 t s e k v er ea text told w 0 hi
  generalize sX9_sets t s e k v er ea text told w 0 hi = q at h1 ⊢
  by_cases c : q.1 = 0
  · rw [if_pos c, if_pos c]
    obtain ⟨g, r⟩ := q
    dsimp only at c
    subst c
    rfl
  · rw [if_neg c, if_neg c]
    have h2 := pq_s01 t q.2.2.2.1 q.2.2.2.2.1 q.2.2.2.2.2.1 q.2.2.2.2.2.2.1 q.2.1 q.2.2.1 text q.2.2.2.2.2.2.2 (w + 1) 0 hi
    generalize sX9_sets t q.2.2.2.1 q.2.2.2.2.1 q.2.2.2.2.2.1 q.2.2.2.2.2.2.1 q.2.1 q.2.2.1 text q.2.2.2.2.2.2.2 (w + 1) 0 hi = r at h2 ⊢
    by_cases d : r.1 = 0
    · rw [if_pos d]
      obtain ⟨g, r⟩ := r
      dsimp only at d
      subst d
      rfl
    · rw [if_neg d]
      obtain ⟨g, r⟩ := r
      dsimp only at d h2
      have := h2.resolve_left d
      subst this
      rfl
/-- the six gains -/
def pq_g6 (t : Int32) (text : Nat → Int32) (q : pqM) : pqM := pq_ms t text 14 0 99 (pq_ms t text 13 0 99 (pq_ms t text 12 0 99 (pq_ms t text 11 0 99 (pq_ms t text 10 0 99 (pq_ms t text 9 0 99 q)))))
theorem pq_gstop (t : Int32) (text : Nat → Int32) (kont : Int32 → Int32 → Int32 × Int32 × Int32 × Int32 × Int32 × Int32 → (Nat → Int32) → pqM) (hk : ∀ k k' g tk td, kont k g tk td = kont k' g tk td) : ∀ (fuel : Nat) (k k' : Int32) (tk : Int32 × Int32 × Int32 × Int32 × Int32 × Int32) (td : Nat → Int32), sX9_gains_l4 t text kont fuel k 0 tk td = kont k' 0 tk td := by
  intro fuel
  cases fuel with
  | zero => intro k k' tk td; exact hk _ _ _ _ _
  | succ fuel =>
    intro k k' tk td
    rw [sX9_gains_l4]
    split
    · exact hk _ _ _ _ _
    · rw [if_pos rfl]
      exact hk _ _ _ _ _
theorem pq_gstep (t : Int32) (text : Nat → Int32) (kont : Int32 → Int32 → Int32 × Int32 × Int32 × Int32 × Int32 × Int32 → (Nat → Int32) → pqM) (hk : ∀ k k' g tk td, kont k g tk td = kont k' g tk td) (fuel : Nat) {k w k1 : Int32} (h6 : ¬ 6 ≤ k) (hw : 9 + k = w) (hk1 : k + 1 = k1) (q : pqM) : sX9_gains_l4 t text kont (fuel + 1) k q.1 (q.2.2.2.1, q.2.2.2.2.1, q.2.2.2.2.2.1, q.2.2.2.2.2.2.1, q.2.1, q.2.2.1) q.2.2.2.2.2.2.2 = sX9_gains_l4 t text kont fuel k1 (pq_ms t text w 0 99 q).1 ((pq_ms t text w 0 99 q).2.2.2.1, (pq_ms t text w 0 99 q).2.2.2.2.1, (pq_ms t text w 0 99 q).2.2.2.2.2.1, (pq_ms t text w 0 99 q).2.2.2.2.2.2.1, (pq_ms t text w 0 99 q).2.1, (pq_ms t text w 0 99 q).2.2.1) (pq_ms t text w 0 99 q).2.2.2.2.2.2.2 := by
  by_cases c : q.1 = 0
  · have e : pq_ms t text w 0 99 q = q := by
      unfold pq_ms
      rw [if_pos c]
    rw [e, c, pq_gstop t text kont hk (fuel + 1) k 0, pq_gstop t text kont hk fuel k1 0]
  · rw [sX9_gains_l4, if_neg h6, if_neg c, hw, hk1]
    unfold pq_ms
    rw [if_neg c]
theorem pq_gall (t : Int32) (text : Nat → Int32) (kont : Int32 → Int32 → Int32 × Int32 × Int32 × Int32 × Int32 × Int32 → (Nat → Int32) → pqM) (hk : ∀ k k' g tk td, kont k g tk td = kont k' g tk td) (q : pqM) : sX9_gains_l4 t text kont 7 0 q.1 (q.2.2.2.1, q.2.2.2.2.1, q.2.2.2.2.2.1, q.2.2.2.2.2.2.1, q.2.1, q.2.2.1) q.2.2.2.2.2.2.2 = kont 6 (pq_g6 t text q).1 ((pq_g6 t text q).2.2.2.1, (pq_g6 t text q).2.2.2.2.1, (pq_g6 t text q).2.2.2.2.2.1, (pq_g6 t text q).2.2.2.2.2.2.1, (pq_g6 t text q).2.1, (pq_g6 t text q).2.2.1) (pq_g6 t text q).2.2.2.2.2.2.2 := by
  unfold pq_g6
  rw [pq_gstep t text kont hk 6 (w := 9) (k1 := 1) (by decide) (by decide) (by decide) q]
  generalize pq_ms t text 9 0 99 q = q
  rw [pq_gstep t text kont hk 5 (w := 10) (k1 := 2) (by decide) (by decide) (by decide) q]
  generalize pq_ms t text 10 0 99 q = q
  rw [pq_gstep t text kont hk 4 (w := 11) (k1 := 3) (by decide) (by decide) (by decide) q]
  generalize pq_ms t text 11 0 99 q = q
  rw [pq_gstep t text kont hk 3 (w := 12) (k1 := 4) (by decide) (by decide) (by decide) q]
  generalize pq_ms t text 12 0 99 q = q
  rw [pq_gstep t text kont hk 2 (w := 13) (k1 := 5) (by decide) (by decide) (by decide) q]
  generalize pq_ms t text 13 0 99 q = q
  rw [pq_gstep t text kont hk 1 (w := 14) (k1 := 6) (by decide) (by decide) (by decide) q]
  generalize pq_ms t text 14 0 99 q = q
  rw [sX9_gains_l4, if_pos (by decide)]
theorem pq_gains (t s e k v er ea : Int32) (text told : Nat → Int32) : sX9_gains t s e k v er ea text told = pq_g6 t text (1, er, ea, s, e, k, v, told) := by
  have hg := pq_gall t text (fun (_ : Int32) (gd_4 : Int32) (tk_4 : Int32 × Int32 × Int32 × Int32 × Int32 × Int32) (td__4 : Nat → Int32) => ((gd_4, tk_4.2.2.2.2.1, tk_4.2.2.2.2.2, tk_4.1, tk_4.2.1, tk_4.2.2.1, tk_4.2.2.2.1, td__4) : pqM)) (fun _ _ _ _ _ => rfl) (1, er, ea, s, e, k, v, told)
  generalize pq_g6 t text (1, er, ea, s, e, k, v, told) = z at hg ⊢
  unfold sX9_gains
  exact hg
