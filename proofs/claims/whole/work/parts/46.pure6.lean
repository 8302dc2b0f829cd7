/-! a situation of the class and a row of the reference; rows copied; what undo needs -/
abbrev pbSit : Type := pbG × Int32 × Int32 × (Nat → Int32) × (Nat → Int32)
def pb_S (num : Nat → Int32) (s : pbSit) (row : Nat → Int32) : Prop := (∃ b1 b2 b3 b4 : Int64, s.1 = pb_G row b1 b2 b3 b4 ∧ pb_ring (row 0).toInt.toNat b1 b2 b3 b4 row) ∧ pb_V 9999 row ∧ row 5 = s.2.1 ∧ row 8 = s.2.2.1 ∧ pb_ok num s.2.1 s.2.2.2.1 s.2.2.2.2
theorem pb_Scong {num : Nat → Int32} {s : pbSit} {row row' : Nat → Int32} (e : ∀ k, k < 214 → row' k = row k) (h : pb_S num s row) : pb_S num s row' := by
  obtain ⟨⟨b1, b2, b3, b4, h1, h2⟩, ⟨v0, v1, v2, v3, v4⟩, h4, h5, h6⟩ := h
  refine ⟨⟨b1, b2, b3, b4, ?_, ?_⟩, ⟨?_, ?_, ?_, ?_, ?_⟩, ?_, ?_, h6⟩
  · rw [h1]
    unfold pb_G
    rw [e 2 (by decide), e 3 (by decide), e 10 (by decide), e 11 (by decide), e 12 (by decide), e 13 (by decide), e 0 (by decide), e 1 (by decide), e 4 (by decide), e 6 (by decide), e 7 (by decide), e 9 (by decide)]
  · rw [e 0 (by decide)]
    exact pb_ringOf h2 (fun k hk => e _ (by omega))
  · rw [e 0 (by decide)]; exact v0
  · rw [e 1 (by decide)]; exact v1
  · unfold pb_B
    rw [e 10 (by decide), e 11 (by decide), e 12 (by decide), e 13 (by decide)]
    exact v2
  · rw [e 1 (by decide), e 12 (by decide), e 13 (by decide)]; exact v3
  · rw [e 5 (by decide)]; exact v4
  · rw [e 5 (by decide)]; exact h4
  · rw [e 8 (by decide)]; exact h5
/-- the situation, spelled -/
theorem pb_Sof {num : Nat → Int32} {s : pbSit} {row : Nat → Int32} (h : pb_S num s row) : ∃ (b1 b2 b3 b4 : Int64) (rs fs : Nat → Int32), s = (pb_G row b1 b2 b3 b4, row 5, row 8, rs, fs) ∧ pb_ring (row 0).toInt.toNat b1 b2 b3 b4 row ∧ pb_V 9999 row ∧ pb_ok num (row 5) rs fs := by
  obtain ⟨g, force, resets, rs, fs⟩ := s
  obtain ⟨⟨b1, b2, b3, b4, h1, h2⟩, h3, h4, h5, h6⟩ := h
  dsimp only at h1 h4 h5 h6
  subst h1
  rw [← h4] at h6
  exact ⟨b1, b2, b3, b4, rs, fs, by rw [h4, h5], h2, h3, h6⟩
theorem pb_Smk {num row : Nat → Int32} {b1 b2 b3 b4 : Int64} {rs fs : Nat → Int32} (h1 : pb_ring (row 0).toInt.toNat b1 b2 b3 b4 row) (h2 : pb_V 9999 row) (h3 : pb_ok num (row 5) rs fs) : pb_S num (pb_G row b1 b2 b3 b4, row 5, row 8, rs, fs) row := ⟨⟨b1, b2, b3, b4, rfl, h1⟩, h2, rfl, rfl, h3⟩
theorem pb_SJ {num : Nat → Int32} {T : Int} (hT : T ≤ 9999) {force resets : Int32} {g : pbG} {m : pbP} {rs fs : Nat → Int32} (h : pb_J num T force resets g m) (hok : pb_ok num force rs fs) : pb_S num (g, force, resets, rs, fs) m.1 := by
  obtain ⟨b1, b2, b3, b4, h1, h2, h3, h4, h5, h6⟩ := h
  exact ⟨⟨b1, b2, b3, b4, h1, h2⟩, pb_Vmono h3 hT, h4, h5, hok⟩
/-- a row copied into another -/
def pb_lay (f g : Nat → Int32) (at_ into many : Nat) : Nat → Int32 := fun k => if into ≤ k ∧ k < into + many then f (at_ + (k - into)) else g k
theorem pb_lay0 (f g : Nat → Int32) (at_ into : Nat) : pb_lay f g at_ into 0 = g := funext fun k => if_neg (by omega)
theorem pb_layS (f g : Nat → Int32) (at_ into i : Nat) : upd (pb_lay f g at_ into i) (into + i) (f (at_ + i)) = pb_lay f g at_ into (i + 1) := by
  funext k
  unfold pb_lay upd
  by_cases h : k = into + i
  · subst h
    rw [if_pos rfl, if_pos (by omega), show into + i - into = i from by omega]
  · rw [if_neg h]
    dsimp only
    by_cases h2 : into ≤ k ∧ k < into + i
    · rw [if_pos h2, if_pos (by omega)]
    · rw [if_neg h2, if_neg (by omega)]
theorem pb_cpL (f g : Nat → Int32) {at_ into many : Nat} (ha : at_ + many < 2 ^ 30) (hi : into + many < 2 ^ 30) : ∀ (kk i : Nat), i ≤ many → many - i < kk → sX9_copies_l3 f (nI at_) (nI into) (nI many) (fun _ g => g) kk (nI i) (pb_lay f g at_ into i) = pb_lay f g at_ into many := by
  intro kk
  induction kk with
  | zero => intro i _ h; omega
  | succ kk ih =>
    intro i h1 h2
    rw [sX9_copies_l3]
    by_cases c : nI many ≤ nI i
    · rw [if_pos c]
      rw [nI_leI (by omega) (by omega)] at c
      rw [show i = many from by omega]
    · rw [if_neg c]
      rw [nI_leI (by omega) (by omega)] at c
      rw [nI_add, nI_add, nI_1, nI_clamp (by omega), nI_clamp (by omega), pb_layS]
      exact ih (i + 1) (by omega) (by omega)
theorem pb_xMu {n : Nat} (h : n < 2 ^ 31) : xMu (nI n) 0 = n := by
  unfold xMu
  rw [nI_toInt h, Int32.toInt_zero]
  omega
theorem pb_cp (f g : Nat → Int32) {at_ into many : Nat} (ha : at_ + many < 2 ^ 30) (hi : into + many < 2 ^ 30) : sX9_copies f g (nI at_) (nI into) (nI many) = pb_lay f g at_ into many := by
  unfold sX9_copies
  rw [pb_xMu (by omega)]
  have := pb_cpL f g ha hi (many + 1) 0 (by omega) (by omega)
  rw [pb_lay0] at this
  exact this
theorem pb_csL (g : Nat → Int32) {at_ into many : Nat} (hai : into ≤ at_) (ha : at_ + many < 2 ^ 30) : ∀ (kk i : Nat), i ≤ many → many - i < kk → sX9_copies_same_l3 (nI at_) (nI into) (nI many) (fun _ g => g) kk (nI i) (pb_lay g g at_ into i) = pb_lay g g at_ into many := by
  intro kk
  induction kk with
  | zero => intro i _ h; omega
  | succ kk ih =>
    intro i h1 h2
    rw [sX9_copies_same_l3]
    by_cases c : nI many ≤ nI i
    · rw [if_pos c]
      rw [nI_leI (by omega) (by omega)] at c
      rw [show i = many from by omega]
    · rw [if_neg c]
      rw [nI_leI (by omega) (by omega)] at c
      have e : pb_lay g g at_ into i (at_ + i) = g (at_ + i) := if_neg (by omega)
      rw [nI_add, nI_add, nI_1, nI_clamp (by omega), nI_clamp (by omega), e, pb_layS]
      exact ih (i + 1) (by omega) (by omega)
theorem pb_cs (g : Nat → Int32) {at_ into many : Nat} (hai : into ≤ at_) (ha : at_ + many < 2 ^ 30) : sX9_copies_same g (nI at_) (nI into) (nI many) = pb_lay g g at_ into many := by
  unfold sX9_copies_same
  rw [pb_xMu (by omega)]
  have := pb_csL g hai ha (many + 1) 0 (by omega) (by omega)
  rw [pb_lay0] at this
  exact this
/-- what the class remembers and the reference keeps -/
def pb_H (num : Nat → Int32) (sits : Nat → pbSit) (nx sz : Nat) (und : Nat → Int32) : Prop := ∀ m, m < sz → pb_S num (sits ((nx + 10 - sz + m) % 10)) (fun k => und (214 * m + k))
theorem pb_keeps {u : Nat} (hu : u ≤ 10) (now und : Nat → Int32) : sX9_keeps (nI u) now und = (nI (min (u + 1) 10), if u = 10 then pb_lay now (pb_lay und und 214 0 1926) 0 1926 214 else pb_lay now und 0 (214 * u) 214) := by
  unfold sX9_keeps
  by_cases h : u = 10
  · subst h
    rw [if_pos (by decide), if_pos rfl]
    unfold sX9_keeps_q_3 sX9_keeps_q_4
    rw [show (214 : Int32) * (nI 10 - 1) = nI 1926 from by decide, show sX9_copies_same und 214 0 (nI 1926) = pb_lay und und 214 0 1926 from pb_cs und (by decide) (by decide), show sX9_copies now (pb_lay und und 214 0 1926) 0 (nI 1926) 214 = pb_lay now (pb_lay und und 214 0 1926) 0 1926 214 from pb_cp now _ (by decide) (by decide)]
    rfl
  · rw [if_neg (fun q => h (by rw [show (10 : Int32) = nI 10 from rfl, nI_eq (by omega) (by omega)] at q; exact q)), if_neg h]
    unfold sX9_keeps_q_2
    rw [show (214 : Int32) * nI u = nI (214 * u) from pk_mul 214 u, show sX9_copies now und 0 (nI (214 * u)) 214 = pb_lay now und 0 (214 * u) 214 from pb_cp now und (at_ := 0) (many := 214) (by omega) (by omega), nI_1, Nat.min_eq_left (by omega)]
theorem pb_remember {nx sz : Nat} (hn : nx < 10) (hs : sz ≤ 10) : sX0_remember (nI nx) (nI sz) = (nI ((nx + 1) % 10), nI (min (sz + 1) 10)) := by
  unfold sX0_remember xMin
  rw [nI_1, nI_1, show (10 : Int32) = nI 10 from rfl, pk_rem (by omega) (by decide) (by decide)]
  by_cases h : nI 10 < nI (sz + 1)
  · rw [if_pos h]
    rw [nI_ltI (by omega) (by omega)] at h
    rw [Nat.min_eq_right (by omega)]
  · rw [if_neg h]
    rw [nI_ltI (by omega) (by omega)] at h
    rw [Nat.min_eq_left (by omega)]
theorem pb_HK {num : Nat → Int32} {sits sits' : Nat → pbSit} {nx sz : Nat} (hn : nx < 10) (hs : sz ≤ 10) {now und : Nat → Int32} (h : pb_H num sits nx sz und) (h1 : pb_S num (sits' nx) now) (h2 : ∀ j, j < 10 → j ≠ nx → sits' j = sits j) : pb_H num sits' ((nx + 1) % 10) (min (sz + 1) 10) (if sz = 10 then pb_lay now (pb_lay und und 214 0 1926) 0 1926 214 else pb_lay now und 0 (214 * sz) 214) := by
  intro m hm
  by_cases c : sz = 10
  · subst c
    rw [if_pos rfl]
    have hm2 : m < 10 := by omega
    by_cases d : m = 9
    · subst d
      rw [show ((nx + 1) % 10 + 10 - min (10 + 1) 10 + 9) % 10 = nx from by omega]
      exact pb_Scong (fun k hk => by
        show (if _ then _ else _) = _
        rw [if_pos (by omega), show 0 + (214 * 9 + k - 1926) = k from by omega]) h1
    · have hi : ((nx + 1) % 10 + 10 - min (10 + 1) 10 + m) % 10 = (nx + 10 - 10 + (m + 1)) % 10 := by omega
      rw [hi, h2 _ (by omega) (by omega)]
      exact pb_Scong (fun k hk => by
        show (if _ then _ else _) = _
        rw [if_neg (by omega)]
        show (if _ then _ else _) = _
        rw [if_pos (by omega), show 214 + (214 * m + k - 0) = 214 * (m + 1) + k from by omega]) (h (m + 1) (by omega))
  · rw [if_neg c]
    have hm2 : m < sz + 1 := by omega
    by_cases d : m = sz
    · subst d
      rw [show ((nx + 1) % 10 + 10 - min (m + 1) 10 + m) % 10 = nx from by omega]
      exact pb_Scong (fun k hk => by
        show (if _ then _ else _) = _
        rw [if_pos (by omega), show 0 + (214 * m + k - 214 * m) = k from by omega]) h1
    · have hi : ((nx + 1) % 10 + 10 - min (sz + 1) 10 + m) % 10 = (nx + 10 - sz + m) % 10 := by omega
      rw [hi, h2 _ (by omega) (by omega)]
      exact pb_Scong (fun k hk => by
        show (if _ then _ else _) = _
        rw [if_neg (by omega)]) (h m (by omega))
theorem pb_undoC {nx sz : Nat} (hn : nx < 10) (hs : sz ≤ 10) (h0 : 0 < sz) : sX0_giveBackTo_some (nI nx) (nI sz) = (nI ((nx + 9) % 10), nI (sz - 1)) := by
  unfold sX0_giveBackTo_some
  rw [show (10 : Int32) = nI 10 from rfl, nI_add, show nI (nx + 10) - 1 = nI (nx + 9) from nI_pred (nx + 9), pk_rem (by omega) (by decide) (by decide), show nI sz - 1 = nI (sz - 1) from pk_sub (b := 1) h0]
theorem pb_undoI {nx : Nat} (hn : nx < 10) : ((nI nx + 10) - 1) - ((nI nx + 10) - 1) / 10 * 10 = nI ((nx + 9) % 10) := by
  rw [show (10 : Int32) = nI 10 from rfl, nI_add, show nI (nx + 10) - 1 = nI (nx + 9) from nI_pred (nx + 9), pk_rem (by omega) (by decide) (by decide)]
theorem pb_undoM {sz : Nat} (hs : sz ≤ 10) (h0 : 0 < sz) (now und : Nat → Int32) : sX9_undo (nI sz) now und = (nI (sz - 1), 0, pb_lay und now (214 * (sz - 1)) 0 214, nI (sz - 1)) := by
  unfold sX9_undo
  rw [if_neg (nI_ne0 h0 (by omega))]
  unfold sX9_undo_q_2
  rw [show nI sz - 1 = nI (sz - 1) from pk_sub (b := 1) h0, show (214 : Int32) * nI (sz - 1) = nI (214 * (sz - 1)) from pk_mul 214 _, show sX9_copies und now (nI (214 * (sz - 1))) 0 214 = pb_lay und now (214 * (sz - 1)) 0 214 from pb_cp und now (into := 0) (many := 214) (by omega) (by omega)]
theorem pb_HU {num : Nat → Int32} {sits : Nat → pbSit} {nx sz : Nat} (hn : nx < 10) (hs : sz ≤ 10) (h0 : 0 < sz) {now und : Nat → Int32} (h : pb_H num sits nx sz und) : pb_S num (sits ((nx + 9) % 10)) (pb_lay und now (214 * (sz - 1)) 0 214) ∧ ∀ sits' : Nat → pbSit, (∀ j, j < 10 → sits' j = sits j) → pb_H num sits' ((nx + 9) % 10) (sz - 1) und := by
  refine ⟨?_, fun sits' hj m hm => ?_⟩
  · have := h (sz - 1) (by omega)
    rw [show (nx + 10 - sz + (sz - 1)) % 10 = (nx + 9) % 10 from by omega] at this
    exact pb_Scong (fun k hk => by
      show (if _ then _ else _) = _
      rw [if_pos (by omega), show 214 * (sz - 1) + (k - 0) = 214 * (sz - 1) + k from by omega]) this
  · rw [hj _ (by omega), show ((nx + 9) % 10 + 10 - (sz - 1) + m) % 10 = (nx + 10 - sz + m) % 10 from by omega]
    exact h m (by omega)
