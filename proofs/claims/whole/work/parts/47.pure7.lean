/-! the plant text: tokens -/
/-- n bytes of text: the class keeps them from 0 to 255, the reference as bytes -/
def pq_B (n : Nat) (buf text : Nat → Int32) : Prop := ∀ k, k < n → text k &&& 255 = buf k ∧ (text k).toInt8.toInt32 = text k
theorem pq_and255 (v : Int32) : 0 ≤ (v &&& 255).toInt ∧ (v &&& 255).toInt < 256 := by
  have h : (v &&& 255).toBitVec.toNat = v.toBitVec.toNat % 256 := by
    rw [Int32.toBitVec_and, BitVec.toNat_and]
    exact Nat.and_two_pow_sub_one_eq_mod _ 8
  have e1 : (v &&& 255).toInt = if 2 * (v &&& 255).toBitVec.toNat < 2 ^ 32 then ((v &&& 255).toBitVec.toNat : Int) else ((v &&& 255).toBitVec.toNat : Int) - ((2 ^ 32 : Nat) : Int) := BitVec.toInt_eq_toNat_cond _
  rw [e1, if_pos (by omega)]
  omega
theorem pq_byte {n : Nat} {buf text : Nat → Int32} (h : pq_B n buf text) (hn : n ≤ 500) {i : Nat} (hi : i < n) : sX9_byteAt (nI n) text (nI i) = buf i := by
  unfold sX9_byteAt
  rw [if_neg (nI_ge hi (by omega)), nI_clamp (by omega)]
  exact (h i hi).1
theorem pq_byteE {n : Nat} (text : Nat → Int32) (hn : n ≤ 500) : sX9_byteAt (nI n) text (nI n) = -1 := by
  unfold sX9_byteAt
  rw [if_pos (nI_le (Nat.le_refl n) (by omega))]
theorem pq_val (buf : Nat → Int32) {i : Nat} (hi : i < 500) : sX8_valueAt 500 buf (nI i) = buf i := by
  unfold sX8_valueAt
  rw [if_neg (nI_pos (by omega)), if_neg (nI_ge hi (by omega)), nI_clamp (by omega)]
theorem pq_b0 {n : Nat} {buf text : Nat → Int32} (h : pq_B n buf text) {i : Nat} (hi : i < n) : 0 ≤ (buf i).toInt ∧ (buf i).toInt < 256 := by
  rw [← (h i hi).1]
  exact pq_and255 _
theorem pq_skip {n : Nat} {buf text : Nat → Int32} (h : pq_B n buf text) (hn : n ≤ 500) : ∀ (fuel p : Nat), p ≤ n → n - p < fuel → ∃ s, p ≤ s ∧ s ≤ n ∧ (∀ k, sX3_readToken_l8 (nI n) buf k fuel (nI p) = k (nI s)) ∧ ∀ k, sX9_advance_l0 (nI n) text k fuel (nI p) = k (nI s) := by
  intro fuel
  induction fuel with
  | zero => intro p _ h2; omega
  | succ fuel ih =>
    intro p hp hf
    by_cases c : p = n
    · subst c
      refine ⟨p, Nat.le_refl _, Nat.le_refl _, fun k => ?_, fun k => ?_⟩
      · rw [sX3_readToken_l8, if_pos (nI_le (Nat.le_refl p) (by omega))]
      · rw [sX9_advance_l0, pq_byteE text hn, if_neg (by decide), if_neg (by decide)]
    · have hl : p < n := by omega
      obtain ⟨s, s1, s2, s3, s4⟩ := ih (p + 1) (by omega) (by omega)
      by_cases d : buf p = 32
      · refine ⟨s, by omega, s2, fun k => ?_, fun k => ?_⟩
        · rw [sX3_readToken_l8, if_neg (nI_ge hl (by omega)), pq_val buf (by omega), d, if_neg (by decide), nI_1]
          exact s3 k
        · rw [sX9_advance_l0, pq_byte h hn hl, if_pos d, nI_1]
          exact s4 k
      · by_cases e : buf p = 10
        · refine ⟨s, by omega, s2, fun k => ?_, fun k => ?_⟩
          · rw [sX3_readToken_l8, if_neg (nI_ge hl (by omega)), pq_val buf (by omega), e, if_neg (by decide), nI_1]
            exact s3 k
          · rw [sX9_advance_l0, pq_byte h hn hl, if_neg d, if_pos e, nI_1]
            exact s4 k
        · refine ⟨p, Nat.le_refl _, hp, fun k => ?_, fun k => ?_⟩
          · rw [sX3_readToken_l8, if_neg (nI_ge hl (by omega)), pq_val buf (by omega)]
            unfold sX3_isSeparator
            rw [if_neg d, if_neg e, if_pos rfl]
          · rw [sX9_advance_l0, pq_byte h hn hl, if_neg d, if_neg e]
theorem pq_let {n : Nat} {buf text : Nat → Int32} (h : pq_B n buf text) (hn : n ≤ 500) : ∀ (fuel p : Nat), p ≤ n → n - p < fuel → ∃ e, p ≤ e ∧ e ≤ n ∧ (p < n → ¬ sX3_isLetter (buf p) = 0 → p < e) ∧ (∀ k, sX3_readLetters_l0 (nI n) buf k fuel (nI p) = k (nI e)) ∧ ∀ k, sX9_advance_l85 (nI n) text k fuel (nI p) = k (nI e) := by
  intro fuel
  induction fuel with
  | zero => intro p _ h2; omega
  | succ fuel ih =>
    intro p hp hf
    by_cases c : p = n
    · subst c
      refine ⟨p, Nat.le_refl _, Nat.le_refl _, fun x => absurd x (Nat.lt_irrefl _), fun k => ?_, fun k => ?_⟩
      · rw [sX3_readLetters_l0, if_pos (nI_le (Nat.le_refl p) (by omega))]
      · rw [sX9_advance_l85, pq_byteE text hn, if_pos (by decide)]
    · have hl : p < n := by omega
      by_cases d : sX3_isLetter (buf p) = 0
      · refine ⟨p, Nat.le_refl _, hp, fun _ x => absurd d x, fun k => ?_, fun k => ?_⟩
        · rw [sX3_readLetters_l0, if_neg (nI_ge hl (by omega)), pq_val buf (by omega), if_pos d]
        · rw [sX9_advance_l85, pq_byte h hn hl]
          exact if_pos d
      · obtain ⟨s, s1, s2, s0, s3, s4⟩ := ih (p + 1) (by omega) (by omega)
        refine ⟨s, by omega, s2, fun _ _ => by omega, fun k => ?_, fun k => ?_⟩
        · rw [sX3_readLetters_l0, if_neg (nI_ge hl (by omega)), pq_val buf (by omega), if_neg d, nI_1]
          exact s3 k
        · rw [sX9_advance_l85, pq_byte h hn hl]
          refine (if_neg d).trans ?_
          rw [nI_1]
          exact s4 k
theorem pq_dig {n : Nat} {buf text : Nat → Int32} (h : pq_B n buf text) (hn : n ≤ 500) {s : Nat} : ∀ (fuel p : Nat) (vc vm : Int32), s ≤ p → p ≤ n → n - p < fuel → (p - s ≤ 4 → vc = vm) → ∃ e vc' vm', p ≤ e ∧ e ≤ n ∧ (p < n → ¬ sX3_isDigit (buf p) = 0 → p < e) ∧ (e - s ≤ 4 → vc' = vm') ∧ (∀ k, sX3_readDigits_l5 (nI n) buf k fuel (nI p) vc = k (nI e) vc') ∧ ∀ k, sX9_advance_l153 (nI n) text (nI s) k fuel (nI p) vm = k (nI e) vm' := by
  intro fuel
  induction fuel with
  | zero => intro p _ _ _ _ h2; omega
  | succ fuel ih =>
    intro p vc vm hs hp hf hv
    by_cases c : p = n
    · subst c
      refine ⟨p, vc, vm, Nat.le_refl _, Nat.le_refl _, fun x => absurd x (Nat.lt_irrefl _), hv, fun k => ?_, fun k => ?_⟩
      · rw [sX3_readDigits_l5, if_pos (nI_le (Nat.le_refl p) (by omega))]
      · rw [sX9_advance_l153, pq_byteE text hn, if_pos (by decide)]
    · have hl : p < n := by omega
      by_cases d : sX3_isDigit (buf p) = 0
      · refine ⟨p, vc, vm, Nat.le_refl _, hp, fun _ x => absurd d x, hv, fun k => ?_, fun k => ?_⟩
        · rw [sX3_readDigits_l5, if_neg (nI_ge hl (by omega)), pq_val buf (by omega), if_pos d]
        · rw [sX9_advance_l153, pq_byte h hn hl]
          exact if_pos d
      · have hsub : nI p - nI s = nI (p - s) := pk_sub hs
        by_cases f : 4 ≤ p - s
        · obtain ⟨e, vc', vm', s1, s2, s0, s5, s3, s4⟩ := ih (p + 1) (vc * 10 + buf p - 48) vm (by omega) (by omega) (by omega) (fun x => by omega)
          refine ⟨e, vc', vm', by omega, s2, fun _ _ => by omega, s5, fun k => ?_, fun k => ?_⟩
          · rw [sX3_readDigits_l5, if_neg (nI_ge hl (by omega)), pq_val buf (by omega), if_neg d, nI_1]
            exact s3 k
          · rw [sX9_advance_l153, pq_byte h hn hl]
            refine (if_neg d).trans ?_
            rw [hsub, if_pos (show (4 : Int32) ≤ nI (p - s) from nI_le (a := 4) f (by omega)), nI_1]
            exact s4 k
        · obtain ⟨e, vc', vm', s1, s2, s0, s5, s3, s4⟩ := ih (p + 1) (vc * 10 + buf p - 48) (10 * vm + buf p - 48) (by omega) (by omega) (by omega) (fun _ => by rw [hv (by omega), Int32.mul_comm])
          refine ⟨e, vc', vm', by omega, s2, fun _ _ => by omega, s5, fun k => ?_, fun k => ?_⟩
          · rw [sX3_readDigits_l5, if_neg (nI_ge hl (by omega)), pq_val buf (by omega), if_neg d, nI_1]
            exact s3 k
          · rw [sX9_advance_l153, pq_byte h hn hl]
            refine (if_neg d).trans ?_
            rw [hsub, if_neg (show ¬ (4 : Int32) ≤ nI (p - s) from nI_ge (b := 4) (by omega) (by omega)), nI_1]
            exact s4 k
theorem pq_mu {n p : Nat} (hn : n ≤ 500) (hp : p ≤ n) : xMu (nI n) (nI p) = n - p := by
  unfold xMu
  rw [nI_toInt (by omega), nI_toInt (by omega)]
  omega
/-- one token -/
theorem pq_tok {n : Nat} {buf text : Nat → Int32} (h : pq_B n buf text) (hn : n ≤ 500) {p : Nat} (hp : p ≤ n) (v : Int32) : ∃ (s e : Nat) (k vc vm : Int32), p ≤ s ∧ s ≤ e ∧ e ≤ n ∧ (¬ k = 0 → s < e) ∧ (k = 2 → vc = vm) ∧ sX3_readToken (nI n) (nI p) v buf = (nI s, nI e, k, vc) ∧ sX9_advance (nI n) (nI p) text = (nI s, nI e, k, vm) := by
  unfold sX3_readToken sX9_advance
  rw [pq_mu hn hp]
  obtain ⟨s, s1, s2, s3, s4⟩ := pq_skip h hn (n - p + 1) p hp (by omega)
  rw [s3, s4]
  try dsimp only
  by_cases c : s = n
  · subst c
    rw [if_neg (nI_nlt (Nat.le_refl s) (by omega)), pq_byteE text hn, if_pos rfl]
    exact ⟨s, s, 0, v, 0, s1, Nat.le_refl _, Nat.le_refl _, fun x => absurd rfl x, fun x => absurd x (by decide), rfl, rfl⟩
  · have hl : s < n := by omega
    have hb := pq_b0 h hl
    have hb1 : ¬ buf s = -1 := fun x => by
      rw [x] at hb
      exact absurd hb.1 (by decide)
    rw [if_pos (nI_lt hl (by omega)), pq_byte h hn hl, pq_val buf (by omega), if_neg hb1]
    by_cases d : sX3_isLetter (buf s) = 0
    · rw [if_pos d, show sX9_within (buf s) 97 122 = 0 from d, if_pos rfl]
      by_cases f : sX3_isDigit (buf s) = 0
      · rw [if_pos f, show sX9_within (buf s) 48 57 = 0 from f, if_pos rfl, nI_1]
        by_cases g : buf s = 59
        · rw [if_pos g, if_pos g]
          exact ⟨s, s + 1, 3, v, 0, s1, by omega, by omega, fun _ => by omega, fun x => absurd x (by decide), rfl, rfl⟩
        · rw [if_neg g, if_neg g]
          exact ⟨s, s + 1, 4, v, 0, s1, by omega, by omega, fun _ => by omega, fun x => absurd x (by decide), rfl, rfl⟩
      · rw [if_neg f]
        obtain ⟨e, vc, vm, e1, e2, e0, e5, e3, e4⟩ := pq_dig h hn (s := s) (n - s + 1) s 0 0 (Nat.le_refl _) s2 (by omega) (fun _ => rfl)
        have hw : ¬ sX9_within (buf s) 48 57 = 0 := f
        rw [if_neg hw, pq_mu hn s2, e4]
        unfold sX3_readDigits
        rw [pq_mu hn s2, e3]
        try dsimp only
        rw [show nI e - nI s = nI (e - s) from pk_sub e1]
        have hlt := e0 hl f
        by_cases g : e - s ≤ 4
        · rw [if_neg (show ¬ (4 : Int32) < nI (e - s) from nI_nlt (b := e - s) (a := 4) g (by omega)), if_pos (show nI (e - s) ≤ (4 : Int32) from nI_le (b := 4) g (by omega))]
          exact ⟨s, e, 2, vc, vm, s1, e1, e2, fun _ => hlt, fun _ => e5 g, rfl, rfl⟩
        · rw [if_pos (show (4 : Int32) < nI (e - s) from nI_lt (a := 4) (by omega) (by omega)), if_neg (show ¬ nI (e - s) ≤ (4 : Int32) from nI_ge (a := 4) (by omega) (by omega))]
          exact ⟨s, e, 4, vc, vm, s1, e1, e2, fun _ => hlt, fun x => absurd x (by decide), rfl, rfl⟩
    · rw [if_neg d]
      obtain ⟨e, e1, e2, e0, e3, e4⟩ := pq_let h hn (n - s + 1) s s2 (by omega)
      have hw : ¬ sX9_within (buf s) 97 122 = 0 := d
      rw [if_neg hw, pq_mu hn s2, e4]
      unfold sX3_readLetters
      rw [pq_mu hn s2, e3]
      try dsimp only
      rw [show nI e - nI s = nI (e - s) from pk_sub e1]
      have hlt := e0 hl d
      by_cases g : e - s ≤ 8
      · rw [if_neg (show ¬ (8 : Int32) < nI (e - s) from nI_nlt (b := e - s) (a := 8) g (by omega)), if_pos (show nI (e - s) ≤ (8 : Int32) from nI_le (b := 8) g (by omega))]
        exact ⟨s, e, 1, v, 0, s1, e1, e2, fun _ => hlt, fun x => absurd x (by decide), rfl, rfl⟩
      · rw [if_pos (show (8 : Int32) < nI (e - s) from nI_lt (a := 8) (by omega) (by omega)), if_neg (show ¬ nI (e - s) ≤ (8 : Int32) from nI_ge (a := 8) (by omega) (by omega))]
        exact ⟨s, e, 4, v, 0, s1, e1, e2, fun _ => hlt, fun x => absurd x (by decide), rfl, rfl⟩
