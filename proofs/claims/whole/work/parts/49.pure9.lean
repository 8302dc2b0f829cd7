/-! the plant text: statements, the whole text -/
def pq_F (j : Nat) : Nat := ([0, 1, 3, 5, 8, 9, 15, 19, 21, 24] : List Nat).getD j 0
theorem pq_first : ∀ j, j < 10 → sX8_valueAt 10 xFirst (nI j) = nI (pq_F j) ∧ pq_F j ≤ 24 := by decide +kernel
theorem pq_firstLe : ∀ j, j < 9 → pq_F j ≤ pq_F (j + 1) := by decide +kernel
abbrev pqS : Type := Int32 × Int32 × Int32 × Int32 × Int32 × Int32 × (Nat → Int32)
abbrev pqT : Type := Int32 × Int32 × Int32 × Int32 × Int32 × Int32 × Int32 × Int32 × (Nat → Int32)
def pq_K (t met : Int32) (buf : Nat → Int32) (so : Int32) : Int32 → Int32 → Int32 × Int32 × Int32 × Int32 → (Nat → Int32) → pqS := fun cd_70 _ tk_70 nn_70 => if cd_70 = 0 then if ((sX3_readToken t tk_70.2.1 tk_70.2.2.2 buf).2.2.1) = 3 then (0, met ||| (1 <<< (so &&& 31)), (sX3_readToken t tk_70.2.1 tk_70.2.2.2 buf).1, (sX3_readToken t tk_70.2.1 tk_70.2.2.2 buf).2.1, (sX3_readToken t tk_70.2.1 tk_70.2.2.2 buf).2.2.1, (sX3_readToken t tk_70.2.1 tk_70.2.2.2 buf).2.2.2, nn_70) else (1, met ||| (1 <<< (so &&& 31)), (sX3_readToken t tk_70.2.1 tk_70.2.2.2 buf).1, (sX3_readToken t tk_70.2.1 tk_70.2.2.2 buf).2.1, (sX3_readToken t tk_70.2.1 tk_70.2.2.2 buf).2.2.1, (sX3_readToken t tk_70.2.1 tk_70.2.2.2 buf).2.2.2, nn_70) else (cd_70, met ||| (1 <<< (so &&& 31)), tk_70.1, tk_70.2.1, tk_70.2.2.1, tk_70.2.2.2, nn_70)
theorem pq_RS (t met s e v : Int32) (buf nums : Nat → Int32) : sX3_readStatement t met s e 1 v buf nums = if (sX3_sortOfWord s e buf) = (-1) then (1, met, s, e, 1, v, nums) else if ((met >>> ((sX3_sortOfWord s e buf) &&& 31)) &&& 1) = 0 then sX3_readStatement_l70 t s e buf (pq_K t met buf (sX3_sortOfWord s e buf)) (xMu (sX8_valueAt 10 xFirst ((sX3_sortOfWord s e buf) + 1)) (sX8_valueAt 10 xFirst (sX3_sortOfWord s e buf)) + 1) 0 (sX8_valueAt 10 xFirst (sX3_sortOfWord s e buf)) (s, e, 1, v) nums else (2, met, s, e, 1, v, nums) := by
  unfold sX3_readStatement
  rw [if_pos rfl]
  rfl
theorem pq_muN {a b : Nat} (ha : a ≤ 24) (hb : b ≤ 24) : xMu (nI b) (nI a) = b - a := by
  unfold xMu
  rw [nI_toInt (by omega), nI_toInt (by omega)]
  omega
/-- the class' statement, its word known -/
theorem pq_stC {t met s e v : Int32} {buf nums : Nat → Int32} {j : Nat} (hj : j < 9) (hs : sX3_sortOfWord s e buf = nI j) : sX3_readStatement t met s e 1 v buf nums = if ((met >>> (nI j &&& 31)) &&& 1) = 0 then pq_K t met buf (nI j) (pq_cn t buf (pq_F (j + 1) - pq_F j) (pq_F j) (0, s, e, 1, v, nums)).1 0 ((pq_cn t buf (pq_F (j + 1) - pq_F j) (pq_F j) (0, s, e, 1, v, nums)).2.1, (pq_cn t buf (pq_F (j + 1) - pq_F j) (pq_F j) (0, s, e, 1, v, nums)).2.2.1, (pq_cn t buf (pq_F (j + 1) - pq_F j) (pq_F j) (0, s, e, 1, v, nums)).2.2.2.1, (pq_cn t buf (pq_F (j + 1) - pq_F j) (pq_F j) (0, s, e, 1, v, nums)).2.2.2.2.1) (pq_cn t buf (pq_F (j + 1) - pq_F j) (pq_F j) (0, s, e, 1, v, nums)).2.2.2.2.2 else (2, met, s, e, 1, v, nums) := by
  have h1 := pq_first j (by omega)
  have h2 := pq_first (j + 1) (by omega)
  have hle := pq_firstLe j hj
  have hB : sX8_valueAt 10 xFirst (sX3_sortOfWord s e buf + 1) = nI (pq_F (j + 1)) := by
    rw [hs, nI_1]
    exact h2.1
  rw [pq_RS, hB, hs, h1.1, if_neg (show ¬ nI j = -1 from fun x => by
    have := congrArg Int32.toInt x
    rw [nI_toInt (by omega)] at this
    have k : (-1 : Int32).toInt = -1 := by decide
    omega), pq_muN h1.2 h2.2]
  by_cases c : ((met >>> (nI j &&& 31)) &&& 1) = 0
  · rw [if_pos c, if_pos c]
    obtain ⟨wh', e1⟩ := pq_l70 t s e buf hB h2.2 (pq_K t met buf (nI j)) (pq_F (j + 1) - pq_F j) (pq_F j) (0, s, e, 1, v, nums) (pq_F (j + 1) - pq_F j + 1) (by omega) (by omega)
    exact e1
  · rw [if_neg c, if_neg c]
theorem pq_ms1 (t : Int32) (text : Nat → Int32) (w lo hi er ea st nx tk v : Int32) (told : Nat → Int32) : pq_ms t text w lo hi (1, er, ea, st, nx, tk, v, told) = sX9_sets t st nx tk v er ea text told w lo hi := if_neg (show ¬ (1 : Int32) = 0 by decide)
theorem pq_cstep {t : Int32} {text : Nat → Int32} {sn w lo hi : Int32} {X : pqM → pqT} {ch : pqM → pqM} (hX : ∀ r : pqM, (r.1 = 0 ∨ r.1 = 1) → X r = pq_sm sn (ch r)) (hs : ∀ q : pqM, q.1 = 0 → ch q = q) (q : pqM) : (if q.1 = 0 then (0, q.2.1, q.2.2.1, q.2.2.2.1, q.2.2.2.2.1, q.2.2.2.2.2.1, q.2.2.2.2.2.2.1, sn, q.2.2.2.2.2.2.2) else X (sX9_sets t q.2.2.2.1 q.2.2.2.2.1 q.2.2.2.2.2.1 q.2.2.2.2.2.2.1 q.2.1 q.2.2.1 text q.2.2.2.2.2.2.2 w lo hi)) = pq_sm sn (ch (pq_ms t text w lo hi q)) := by
  by_cases c : q.1 = 0
  · have e : pq_ms t text w lo hi q = q := by
      unfold pq_ms
      rw [if_pos c]
    rw [if_pos c, e, hs q c, pq_sm0 c]
  · rw [if_neg c, hX _ (pq_s01 _ _ _ _ _ _ _ _ _ _ _ _)]
    unfold pq_ms
    rw [if_neg c]
theorem pq_mstop {t : Int32} {text : Nat → Int32} {w lo hi : Int32} {q : pqM} (h : q.1 = 0) : pq_ms t text w lo hi q = q := if_pos h
abbrev pqO : Type := Int32 × Int32 × Int32 × Int32 × Int32 × Int32 × Int32 × Int32
/-- behind 'once': the numbers, or the end -/
def pq_M (O : pqO) (told : Nat → Int32) (ch : pqM → pqM) : pqT := if O.1 = 0 then (0, O.2.1, O.2.2.1, O.2.2.2.1, O.2.2.2.2.1, O.2.2.2.2.2.1, O.2.2.2.2.2.2.1, O.2.2.2.2.2.2.2, told) else pq_sm O.2.2.2.2.2.2.2 (ch (1, O.2.1, O.2.2.1, O.2.2.2.1, O.2.2.2.2.1, O.2.2.2.2.2.1, O.2.2.2.2.2.2.1, told))
theorem pq_sw0 (t s e k v er ea sn : Int32) (text told : Nat → Int32) (O : pqO) : sX9_statement_q_80 t s e k v er ea sn text told O = pq_M O told (fun q => (pq_ms t text 0 1 9999 q)) := by
  unfold sX9_statement_q_80 pq_M
  by_cases c : O.1 = 0
  · rw [if_pos c, if_pos c]
  · rw [if_neg c, if_neg c]
    show _ = pq_sm _ (pq_ms t text 0 1 9999 (1, O.2.1, O.2.2.1, O.2.2.2.1, O.2.2.2.2.1, O.2.2.2.2.2.1, O.2.2.2.2.2.2.1, told))
    rw [pq_ms1]
    have h01 := pq_s01 t O.2.2.2.1 O.2.2.2.2.1 O.2.2.2.2.2.1 O.2.2.2.2.2.2.1 O.2.1 O.2.2.1 text told 0 1 9999
    generalize sX9_sets t O.2.2.2.1 O.2.2.2.2.1 O.2.2.2.2.2.1 O.2.2.2.2.2.2.1 O.2.1 O.2.2.1 text told 0 1 9999 = q at h01 ⊢
    unfold sX9_statement_q_83
    exact pq_end h01
theorem pq_sw4 (t s e k v er ea sn : Int32) (text told : Nat → Int32) (O : pqO) : sX9_statement_q_53 t s e k v er ea sn text told O = pq_M O told (fun q => (pq_ms t text 8 0 200 q)) := by
  unfold sX9_statement_q_53 pq_M
  by_cases c : O.1 = 0
  · rw [if_pos c, if_pos c]
  · rw [if_neg c, if_neg c]
    show _ = pq_sm _ (pq_ms t text 8 0 200 (1, O.2.1, O.2.2.1, O.2.2.2.1, O.2.2.2.2.1, O.2.2.2.2.2.1, O.2.2.2.2.2.2.1, told))
    rw [pq_ms1]
    have h01 := pq_s01 t O.2.2.2.1 O.2.2.2.2.1 O.2.2.2.2.2.1 O.2.2.2.2.2.2.1 O.2.1 O.2.2.1 text told 8 0 200
    generalize sX9_sets t O.2.2.2.1 O.2.2.2.2.1 O.2.2.2.2.2.1 O.2.2.2.2.2.2.1 O.2.1 O.2.2.1 text told 8 0 200 = q at h01 ⊢
    unfold sX9_statement_q_56
    exact pq_end h01
theorem pq_sw6 (t s e k v er ea sn : Int32) (text told : Nat → Int32) (O : pqO) : sX9_statement_q_32 t s e k v er ea sn text told O = pq_M O told (fun q => (pq_ms t text 18 1 200 (pq_ms t text 17 0 3 (pq_ms t text 16 1 500 (pq_ms t text 15 1 500 q))))) := by
  unfold sX9_statement_q_32 pq_M
  by_cases c : O.1 = 0
  · rw [if_pos c, if_pos c]
  · rw [if_neg c, if_neg c]
    show _ = pq_sm _ (pq_ms t text 18 1 200 (pq_ms t text 17 0 3 (pq_ms t text 16 1 500 (pq_ms t text 15 1 500 (1, O.2.1, O.2.2.1, O.2.2.2.1, O.2.2.2.2.1, O.2.2.2.2.2.1, O.2.2.2.2.2.2.1, told)))))
    rw [pq_ms1]
    have h01 := pq_s01 t O.2.2.2.1 O.2.2.2.2.1 O.2.2.2.2.2.1 O.2.2.2.2.2.2.1 O.2.1 O.2.2.1 text told 15 1 500
    generalize sX9_sets t O.2.2.2.1 O.2.2.2.2.1 O.2.2.2.2.2.1 O.2.2.2.2.2.2.1 O.2.1 O.2.2.1 text told 15 1 500 = q at h01 ⊢
    unfold sX9_statement_q_35
    refine pq_cstep (ch := (fun q => (pq_ms t text 18 1 200 (pq_ms t text 17 0 3 q)))) (fun r2 h2 => ?_) (fun q hq => by show (pq_ms t text 18 1 200 (pq_ms t text 17 0 3 q)) = q; rw [pq_mstop hq, pq_mstop hq]) q
    show sX9_statement_q_38 _ _ _ _ _ _ _ _ _ _ _ _ _ = _
    unfold sX9_statement_q_38
    refine pq_cstep (ch := (fun q => (pq_ms t text 18 1 200 q))) (fun r3 h3 => ?_) (fun q hq => by show (pq_ms t text 18 1 200 q) = q; rw [pq_mstop hq]) r2
    show sX9_statement_q_41 _ _ _ _ _ _ _ _ _ _ _ _ _ _ = _
    unfold sX9_statement_q_41
    refine pq_cstep (ch := (fun q => q)) (fun r4 h4 => ?_) (fun q hq => by rfl) r3
    show sX9_statement_q_44 _ _ _ _ _ _ _ _ _ _ _ _ _ _ _ = _
    unfold sX9_statement_q_44
    exact pq_end h4
theorem pq_sw7 (t s e k v er ea sn : Int32) (text told : Nat → Int32) (O : pqO) : sX9_statement_q_23 t s e k v er ea sn text told O = pq_M O told (fun q => (pq_ms t text 20 1 9999 (pq_ms t text 19 1 2000 q))) := by
  unfold sX9_statement_q_23 pq_M
  by_cases c : O.1 = 0
  · rw [if_pos c, if_pos c]
  · rw [if_neg c, if_neg c]
    show _ = pq_sm _ (pq_ms t text 20 1 9999 (pq_ms t text 19 1 2000 (1, O.2.1, O.2.2.1, O.2.2.2.1, O.2.2.2.2.1, O.2.2.2.2.2.1, O.2.2.2.2.2.2.1, told)))
    rw [pq_ms1]
    have h01 := pq_s01 t O.2.2.2.1 O.2.2.2.2.1 O.2.2.2.2.2.1 O.2.2.2.2.2.2.1 O.2.1 O.2.2.1 text told 19 1 2000
    generalize sX9_sets t O.2.2.2.1 O.2.2.2.2.1 O.2.2.2.2.2.1 O.2.2.2.2.2.2.1 O.2.1 O.2.2.1 text told 19 1 2000 = q at h01 ⊢
    unfold sX9_statement_q_26
    refine pq_cstep (ch := (fun q => q)) (fun r2 h2 => ?_) (fun q hq => by rfl) q
    show sX9_statement_q_29 _ _ _ _ _ _ _ _ _ _ _ _ _ = _
    unfold sX9_statement_q_29
    exact pq_end h2
theorem pq_sw8 (t s e k v er ea sn : Int32) (text told : Nat → Int32) (O : pqO) : sX9_statement_q_11 t s e k v er ea sn text told O = pq_M O told (fun q => (pq_ms t text 23 0 999 (pq_ms t text 22 1 200 (pq_ms t text 21 1 20 q)))) := by
  unfold sX9_statement_q_11 pq_M
  by_cases c : O.1 = 0
  · rw [if_pos c, if_pos c]
  · rw [if_neg c, if_neg c]
    show _ = pq_sm _ (pq_ms t text 23 0 999 (pq_ms t text 22 1 200 (pq_ms t text 21 1 20 (1, O.2.1, O.2.2.1, O.2.2.2.1, O.2.2.2.2.1, O.2.2.2.2.2.1, O.2.2.2.2.2.2.1, told))))
    rw [pq_ms1]
    have h01 := pq_s01 t O.2.2.2.1 O.2.2.2.2.1 O.2.2.2.2.2.1 O.2.2.2.2.2.2.1 O.2.1 O.2.2.1 text told 21 1 20
    generalize sX9_sets t O.2.2.2.1 O.2.2.2.2.1 O.2.2.2.2.2.1 O.2.2.2.2.2.2.1 O.2.1 O.2.2.1 text told 21 1 20 = q at h01 ⊢
    unfold sX9_statement_q_14
    refine pq_cstep (ch := (fun q => (pq_ms t text 23 0 999 q))) (fun r2 h2 => ?_) (fun q hq => by show (pq_ms t text 23 0 999 q) = q; rw [pq_mstop hq]) q
    show sX9_statement_q_17 _ _ _ _ _ _ _ _ _ _ _ _ _ = _
    unfold sX9_statement_q_17
    refine pq_cstep (ch := (fun q => q)) (fun r3 h3 => ?_) (fun q hq => by rfl) r2
    show sX9_statement_q_20 _ _ _ _ _ _ _ _ _ _ _ _ _ _ = _
    unfold sX9_statement_q_20
    exact pq_end h3
theorem pq_sw1 (t s e k v er ea sn : Int32) (text told : Nat → Int32) (O : pqO) : sX9_statement_q_74 t s e k v er ea sn text told O = pq_M O told (fun q => (pq_ms t text 2 0 200 (pq_ms t text 1 0 200 q))) := by
  unfold sX9_statement_q_74 pq_M
  by_cases c : O.1 = 0
  · rw [if_pos c, if_pos c]
  · rw [if_neg c, if_neg c]
    show _ = pq_sm _ (pq_ms t text 2 0 200 (pq_ms t text 1 0 200 (1, O.2.1, O.2.2.1, O.2.2.2.1, O.2.2.2.2.1, O.2.2.2.2.2.1, O.2.2.2.2.2.2.1, told)))
    rw [pq_ms1, pq_two, show ((1 : Int32) + 1) = 2 from by decide]
    unfold sX9_statement_q_77
    exact pq_end (pq_m01 _ _ _ _ _ (pq_s01 _ _ _ _ _ _ _ _ _ _ _ _))
theorem pq_sw2 (t s e k v er ea sn : Int32) (text told : Nat → Int32) (O : pqO) : sX9_statement_q_68 t s e k v er ea sn text told O = pq_M O told (fun q => (pq_ms t text 4 0 400 (pq_ms t text 3 0 400 q))) := by
  unfold sX9_statement_q_68 pq_M
  by_cases c : O.1 = 0
  · rw [if_pos c, if_pos c]
  · rw [if_neg c, if_neg c]
    show _ = pq_sm _ (pq_ms t text 4 0 400 (pq_ms t text 3 0 400 (1, O.2.1, O.2.2.1, O.2.2.2.1, O.2.2.2.2.1, O.2.2.2.2.2.1, O.2.2.2.2.2.2.1, told)))
    rw [pq_ms1, pq_two, show ((3 : Int32) + 1) = 4 from by decide]
    unfold sX9_statement_q_71
    exact pq_end (pq_m01 _ _ _ _ _ (pq_s01 _ _ _ _ _ _ _ _ _ _ _ _))
theorem pq_sw3 (t s e k v er ea sn : Int32) (text told : Nat → Int32) (O : pqO) : sX9_statement_q_59 t s e k v er ea sn text told O = pq_M O told (fun q => (pq_ms t text 7 1 500 (pq_ms t text 6 0 9 (pq_ms t text 5 0 9 q)))) := by
  unfold sX9_statement_q_59 pq_M
  by_cases c : O.1 = 0
  · rw [if_pos c, if_pos c]
  · rw [if_neg c, if_neg c]
    show _ = pq_sm _ (pq_ms t text 7 1 500 (pq_ms t text 6 0 9 (pq_ms t text 5 0 9 (1, O.2.1, O.2.2.1, O.2.2.2.1, O.2.2.2.2.1, O.2.2.2.2.2.1, O.2.2.2.2.2.2.1, told))))
    rw [pq_ms1, pq_two, show ((5 : Int32) + 1) = 6 from by decide]
    unfold sX9_statement_q_62
    refine pq_cstep (ch := (fun q => q)) (fun r1 h1 => ?_) (fun q hq => rfl) _
    show sX9_statement_q_65 _ _ _ _ _ _ _ _ _ _ _ _ _ = _
    unfold sX9_statement_q_65
    exact pq_end h1
theorem pq_sw5 (t s e k v er ea sn : Int32) (text told : Nat → Int32) (O : pqO) : sX9_statement_q_47 t s e k v er ea sn text told O = pq_M O told (fun q => (pq_ms t text 14 0 99 (pq_ms t text 13 0 99 (pq_ms t text 12 0 99 (pq_ms t text 11 0 99 (pq_ms t text 10 0 99 (pq_ms t text 9 0 99 q))))))) := by
  unfold sX9_statement_q_47 pq_M
  by_cases c : O.1 = 0
  · rw [if_pos c, if_pos c]
  · rw [if_neg c, if_neg c]
    show _ = pq_sm _ (pq_g6 t text (1, O.2.1, O.2.2.1, O.2.2.2.1, O.2.2.2.2.1, O.2.2.2.2.2.1, O.2.2.2.2.2.2.1, told))
    rw [pq_gains]
    unfold sX9_statement_q_50
    exact pq_end (pq_m01 _ _ _ _ _ (pq_m01 _ _ _ _ _ (pq_m01 _ _ _ _ _ (pq_m01 _ _ _ _ _ (pq_m01 _ _ _ _ _ (pq_m01 _ _ _ _ _ (Or.inr rfl)))))))
/-- what a statement may come to -/
def pq_Z (n : Nat) (text told0 : Nat → Int32) (e : Nat) (C : pqS) (M : pqT) : Prop := pq_Lo told0 M.2.2.2.2.2.2.2.2 ∧ ((¬ C.1 = 0 ∧ M.1 = 0 ∧ M.2.1 = C.1 ∧ M.2.2.1 = C.2.2.1) ∨ (¬ C.1 = 0 ∧ ¬ M.1 = 0 ∧ (sX9_closes (nI n) M.2.2.2.1 M.2.2.2.2.1 M.2.2.2.2.2.1 M.2.2.2.2.2.2.1 M.2.1 M.2.2.1 text).1 = 0 ∧ (sX9_closes (nI n) M.2.2.2.1 M.2.2.2.2.1 M.2.2.2.2.2.1 M.2.2.2.2.2.2.1 M.2.1 M.2.2.1 text).2.1 = C.1 ∧ (sX9_closes (nI n) M.2.2.2.1 M.2.2.2.2.1 M.2.2.2.2.2.1 M.2.2.2.2.2.2.1 M.2.1 M.2.2.1 text).2.2.1 = C.2.2.1) ∨ (C.1 = 0 ∧ ¬ M.1 = 0 ∧ C.2.1 = M.2.2.2.2.2.2.2.1 ∧ pq_D C.2.2.2.2.2.2 M.2.2.2.2.2.2.2.2 ∧ pb_R C.2.2.2.2.2.2 ∧ ∃ p, e < p ∧ p ≤ n ∧ C.2.2.2.1 = nI p ∧ sX9_closes (nI n) M.2.2.2.1 M.2.2.2.2.1 M.2.2.2.2.2.1 M.2.2.2.2.2.2.1 M.2.1 M.2.2.1 text = (1, 0, -1, sX9_advance (nI n) (nI p) text)))
theorem pq_fin {n : Nat} {buf text told0 : Nat → Int32} (h : pq_B n buf text) (hn : n ≤ 500) {s e j : Nat} (hj : j < 9) (hs : s ≤ e) (he : e ≤ n) {met vc vm : Int32} {nums told : Nat → Int32} (hD : pq_D nums told) (hR : pb_R nums) (hLo : pq_Lo told0 told) {so : Int32} (hso : so = nI j) (hsort : sX3_sortOfWord (nI s) (nI e) buf = so) {ch : pqM → pqM} (hch : ∀ c q, pq_R n text told0 e c q → pq_R n text told0 e (pq_cn (nI n) buf (pq_F (j + 1) - pq_F j) (pq_F j) c) (ch q)) : pq_Z n text told0 e (sX3_readStatement (nI n) met (nI s) (nI e) 1 vc buf nums) (pq_M (sX9_once (nI n) (nI s) (nI e) 1 vm 0 (-1) met text so) told ch) := by
  rw [hso] at hsort
  rw [pq_stC hj hsort, hso]
  unfold sX9_once sX9_starts
  by_cases b : ((met >>> (nI j &&& 31)) &&& 1) = 0
  · rw [if_pos b, if_pos b, if_neg (show ¬ (1 : Int32) = 0 by decide)]
    dsimp only
    rw [if_neg (show ¬ (1 : Int32) = 0 by decide)]
    unfold pq_M
    dsimp only
    rw [if_neg (show ¬ (1 : Int32) = 0 by decide)]
    have R0 : pq_R n text told0 e (0, nI s, nI e, 1, vc, nums) (1, 0, -1, (sX9_advance (nI n) (nI e) text).1, (sX9_advance (nI n) (nI e) text).2.1, (sX9_advance (nI n) (nI e) text).2.2.1, (sX9_advance (nI n) (nI e) text).2.2.2, told) := ⟨hLo, Or.inl ⟨rfl, rfl, rfl, rfl, ⟨e, Nat.le_refl _, he, rfl, rfl⟩, hD, hR⟩⟩
    have R1 := hch _ _ R0
    generalize pq_cn (nI n) buf (pq_F (j + 1) - pq_F j) (pq_F j) (0, nI s, nI e, 1, vc, nums) = c at R1 ⊢
    generalize ch (1, 0, -1, (sX9_advance (nI n) (nI e) text).1, (sX9_advance (nI n) (nI e) text).2.1, (sX9_advance (nI n) (nI e) text).2.2.1, (sX9_advance (nI n) (nI e) text).2.2.2, told) = q at R1 ⊢
    obtain ⟨hLo1, R1⟩ := R1
    refine ⟨hLo1, ?_⟩
    unfold pq_K pq_sm
    dsimp only
    rcases R1 with ⟨c0, q0, e0, a0, ⟨p, p1, p2, p3, p4⟩, hD1, hR1⟩ | ⟨c0, q0, e0, a0⟩
    · obtain ⟨s', e', k', vc', vm', t1, t2, t3, t4, t5, t6, t7⟩ := pq_tok h hn p2 c.2.2.2.2.1
      obtain ⟨g, er, ea, st, nx, tk, v, td⟩ := q
      dsimp only at q0 e0 a0 p4 hD1 ⊢
      rw [t7] at p4
      simp only [Prod.mk.injEq] at p4
      obtain ⟨rfl, rfl, rfl, rfl⟩ := p4
      rw [if_pos c0, p3, t6]
      dsimp only
      unfold sX9_closes sX9_fails
      subst q0
      subst e0
      subst a0
      by_cases k3 : tk = 3
      · have hlt := t4 (by rw [k3]; decide)
        rw [if_pos k3, if_pos k3]
        exact Or.inr (Or.inr ⟨rfl, (by decide : ¬ (1 : Int32) = 0), rfl, hD1, hR1, e', by omega, t3, rfl, rfl⟩)
      · rw [if_neg k3, if_neg k3]
        exact Or.inr (Or.inl ⟨(by decide : ¬ (1 : Int32) = 0), (by decide : ¬ (1 : Int32) = 0), rfl, rfl, rfl⟩)
    · rw [if_neg c0]
      exact Or.inl ⟨c0, q0, e0, a0⟩
  · rw [if_neg b, if_neg b, if_pos (show (0 : Int32) = 0 from rfl)]
    dsimp only
    rw [if_pos (show (0 : Int32) = 0 from rfl)]
    unfold pq_M sX9_fails
    dsimp only
    rw [if_pos (show (0 : Int32) = 0 from rfl), if_pos (show (0 : Int32) = 0 from rfl)]
    exact ⟨hLo, Or.inl ⟨(by decide : ¬ (2 : Int32) = 0), rfl, rfl, rfl⟩⟩
theorem pq_none {n : Nat} {text told0 : Nat → Int32} {s e : Nat} {met k vm : Int32} {told : Nat → Int32} (hLo : pq_Lo told0 told) {C : pqS} (hC : C.1 = 1) (hC2 : C.2.2.1 = nI s) : pq_Z n text told0 e C (sX9_statement_q_10 (nI n) (nI s) (nI e) k vm 0 (-1) met text told (sX9_fails (nI s) 0 (-1) 1)) := by
  unfold sX9_statement_q_10 sX9_fails
  rw [if_pos rfl]
  refine ⟨hLo, Or.inl ⟨by rw [hC]; decide, rfl, hC.symm, hC2.symm⟩⟩
/-- the numbers of a statement, one after another -/
def pq_mn (t : Int32) (text : Nat → Int32) : Nat → Nat → pqM → pqM
  | 0, _, q => q
  | m + 1, w, q => pq_mn t text m (w + 1) (pq_ms t text (nI w) (xLeast w) (xMost w) q)
theorem pq_many {n : Nat} {buf text told0 : Nat → Int32} (h : pq_B n buf text) (hn : n ≤ 500) {p0 : Nat} : ∀ (m w : Nat) (c : pqC) (q : pqM), w + m ≤ 24 → pq_R n text told0 p0 c q → pq_R n text told0 p0 (pq_cn (nI n) buf m w c) (pq_mn (nI n) text m w q) := by
  intro m
  induction m with
  | zero => intro w c q _ hR; exact hR
  | succ m ih => intro w c q hw hR; exact ih (w + 1) _ _ (by omega) (pq_step h hn (w := w) (by omega) hR)
theorem pq_e0 (t : Int32) (text : Nat → Int32) (q : pqM) : pq_mn t text 1 0 q = (pq_ms t text 0 1 9999 q) := rfl
theorem pq_h0 {n : Nat} {buf text told0 : Nat → Int32} (h : pq_B n buf text) (hn : n ≤ 500) {p0 : Nat} (c : pqC) (q : pqM) (hR : pq_R n text told0 p0 c q) : pq_R n text told0 p0 (pq_cn (nI n) buf (pq_F (0 + 1) - pq_F 0) (pq_F 0) c) ((pq_ms (nI n) text 0 1 9999 q)) := by
  have h1 := pq_many h hn 1 0 c q (by decide) hR
  rw [pq_e0] at h1
  exact h1
theorem pq_e1 (t : Int32) (text : Nat → Int32) (q : pqM) : pq_mn t text 2 1 q = (pq_ms t text 2 0 200 (pq_ms t text 1 0 200 q)) := rfl
theorem pq_h1 {n : Nat} {buf text told0 : Nat → Int32} (h : pq_B n buf text) (hn : n ≤ 500) {p0 : Nat} (c : pqC) (q : pqM) (hR : pq_R n text told0 p0 c q) : pq_R n text told0 p0 (pq_cn (nI n) buf (pq_F (1 + 1) - pq_F 1) (pq_F 1) c) ((pq_ms (nI n) text 2 0 200 (pq_ms (nI n) text 1 0 200 q))) := by
  have h1 := pq_many h hn 2 1 c q (by decide) hR
  rw [pq_e1] at h1
  exact h1
theorem pq_e2 (t : Int32) (text : Nat → Int32) (q : pqM) : pq_mn t text 2 3 q = (pq_ms t text 4 0 400 (pq_ms t text 3 0 400 q)) := rfl
theorem pq_h2 {n : Nat} {buf text told0 : Nat → Int32} (h : pq_B n buf text) (hn : n ≤ 500) {p0 : Nat} (c : pqC) (q : pqM) (hR : pq_R n text told0 p0 c q) : pq_R n text told0 p0 (pq_cn (nI n) buf (pq_F (2 + 1) - pq_F 2) (pq_F 2) c) ((pq_ms (nI n) text 4 0 400 (pq_ms (nI n) text 3 0 400 q))) := by
  have h1 := pq_many h hn 2 3 c q (by decide) hR
  rw [pq_e2] at h1
  exact h1
theorem pq_e3 (t : Int32) (text : Nat → Int32) (q : pqM) : pq_mn t text 3 5 q = (pq_ms t text 7 1 500 (pq_ms t text 6 0 9 (pq_ms t text 5 0 9 q))) := rfl
theorem pq_h3 {n : Nat} {buf text told0 : Nat → Int32} (h : pq_B n buf text) (hn : n ≤ 500) {p0 : Nat} (c : pqC) (q : pqM) (hR : pq_R n text told0 p0 c q) : pq_R n text told0 p0 (pq_cn (nI n) buf (pq_F (3 + 1) - pq_F 3) (pq_F 3) c) ((pq_ms (nI n) text 7 1 500 (pq_ms (nI n) text 6 0 9 (pq_ms (nI n) text 5 0 9 q)))) := by
  have h1 := pq_many h hn 3 5 c q (by decide) hR
  rw [pq_e3] at h1
  exact h1
theorem pq_e4 (t : Int32) (text : Nat → Int32) (q : pqM) : pq_mn t text 1 8 q = (pq_ms t text 8 0 200 q) := rfl
theorem pq_h4 {n : Nat} {buf text told0 : Nat → Int32} (h : pq_B n buf text) (hn : n ≤ 500) {p0 : Nat} (c : pqC) (q : pqM) (hR : pq_R n text told0 p0 c q) : pq_R n text told0 p0 (pq_cn (nI n) buf (pq_F (4 + 1) - pq_F 4) (pq_F 4) c) ((pq_ms (nI n) text 8 0 200 q)) := by
  have h1 := pq_many h hn 1 8 c q (by decide) hR
  rw [pq_e4] at h1
  exact h1
theorem pq_e5 (t : Int32) (text : Nat → Int32) (q : pqM) : pq_mn t text 6 9 q = (pq_ms t text 14 0 99 (pq_ms t text 13 0 99 (pq_ms t text 12 0 99 (pq_ms t text 11 0 99 (pq_ms t text 10 0 99 (pq_ms t text 9 0 99 q)))))) := rfl
theorem pq_h5 {n : Nat} {buf text told0 : Nat → Int32} (h : pq_B n buf text) (hn : n ≤ 500) {p0 : Nat} (c : pqC) (q : pqM) (hR : pq_R n text told0 p0 c q) : pq_R n text told0 p0 (pq_cn (nI n) buf (pq_F (5 + 1) - pq_F 5) (pq_F 5) c) ((pq_ms (nI n) text 14 0 99 (pq_ms (nI n) text 13 0 99 (pq_ms (nI n) text 12 0 99 (pq_ms (nI n) text 11 0 99 (pq_ms (nI n) text 10 0 99 (pq_ms (nI n) text 9 0 99 q))))))) := by
  have h1 := pq_many h hn 6 9 c q (by decide) hR
  rw [pq_e5] at h1
  exact h1
theorem pq_e6 (t : Int32) (text : Nat → Int32) (q : pqM) : pq_mn t text 4 15 q = (pq_ms t text 18 1 200 (pq_ms t text 17 0 3 (pq_ms t text 16 1 500 (pq_ms t text 15 1 500 q)))) := rfl
theorem pq_h6 {n : Nat} {buf text told0 : Nat → Int32} (h : pq_B n buf text) (hn : n ≤ 500) {p0 : Nat} (c : pqC) (q : pqM) (hR : pq_R n text told0 p0 c q) : pq_R n text told0 p0 (pq_cn (nI n) buf (pq_F (6 + 1) - pq_F 6) (pq_F 6) c) ((pq_ms (nI n) text 18 1 200 (pq_ms (nI n) text 17 0 3 (pq_ms (nI n) text 16 1 500 (pq_ms (nI n) text 15 1 500 q))))) := by
  have h1 := pq_many h hn 4 15 c q (by decide) hR
  rw [pq_e6] at h1
  exact h1
theorem pq_e7 (t : Int32) (text : Nat → Int32) (q : pqM) : pq_mn t text 2 19 q = (pq_ms t text 20 1 9999 (pq_ms t text 19 1 2000 q)) := rfl
theorem pq_h7 {n : Nat} {buf text told0 : Nat → Int32} (h : pq_B n buf text) (hn : n ≤ 500) {p0 : Nat} (c : pqC) (q : pqM) (hR : pq_R n text told0 p0 c q) : pq_R n text told0 p0 (pq_cn (nI n) buf (pq_F (7 + 1) - pq_F 7) (pq_F 7) c) ((pq_ms (nI n) text 20 1 9999 (pq_ms (nI n) text 19 1 2000 q))) := by
  have h1 := pq_many h hn 2 19 c q (by decide) hR
  rw [pq_e7] at h1
  exact h1
theorem pq_e8 (t : Int32) (text : Nat → Int32) (q : pqM) : pq_mn t text 3 21 q = (pq_ms t text 23 0 999 (pq_ms t text 22 1 200 (pq_ms t text 21 1 20 q))) := rfl
theorem pq_h8 {n : Nat} {buf text told0 : Nat → Int32} (h : pq_B n buf text) (hn : n ≤ 500) {p0 : Nat} (c : pqC) (q : pqM) (hR : pq_R n text told0 p0 c q) : pq_R n text told0 p0 (pq_cn (nI n) buf (pq_F (8 + 1) - pq_F 8) (pq_F 8) c) ((pq_ms (nI n) text 23 0 999 (pq_ms (nI n) text 22 1 200 (pq_ms (nI n) text 21 1 20 q)))) := by
  have h1 := pq_many h hn 3 21 c q (by decide) hR
  rw [pq_e8] at h1
  exact h1
/-- one statement -/
theorem pq_stm {n : Nat} {buf text told0 : Nat → Int32} (h : pq_B n buf text) (hn : n ≤ 500) {s e : Nat} (hs : s ≤ e) (he : e ≤ n) {k met vc vm : Int32} {nums told : Nat → Int32} (hD : pq_D nums told) (hR : pb_R nums) (hLo : pq_Lo told0 told) : pq_Z n text told0 e (sX3_readStatement (nI n) met (nI s) (nI e) k vc buf nums) (sX9_statement (nI n) (nI s) (nI e) k vm 0 (-1) met text told) := by
  unfold sX9_statement
  by_cases k1 : k = 1
  · subst k1
    have hsort := pq_sort (nI s) (nI e) buf
    rw [pq_word h hn (w := 0) (by decide) hs he, pq_word h hn (w := 1) (by decide) hs he, pq_word h hn (w := 2) (by decide) hs he, pq_word h hn (w := 3) (by decide) hs he, pq_word h hn (w := 4) (by decide) hs he, pq_word h hn (w := 5) (by decide) hs he, pq_word h hn (w := 6) (by decide) hs he, pq_word h hn (w := 7) (by decide) hs he, pq_word h hn (w := 8) (by decide) hs he] at hsort
    by_cases w0 : sX9_isWord (nI s) (nI e) 1 text 0 = 0
    rotate_left
    · rw [if_neg w0] at hsort ⊢; rw [pq_sw0]; exact pq_fin h hn (j := 0) (by decide) hs he hD hR hLo rfl hsort (pq_h0 h hn)
    rw [if_pos w0] at hsort ⊢
    by_cases w1 : sX9_isWord (nI s) (nI e) 1 text 1 = 0
    rotate_left
    · rw [if_neg w1] at hsort ⊢; rw [pq_sw1]; exact pq_fin h hn (j := 1) (by decide) hs he hD hR hLo rfl hsort (pq_h1 h hn)
    rw [if_pos w1] at hsort ⊢
    by_cases w2 : sX9_isWord (nI s) (nI e) 1 text 2 = 0
    rotate_left
    · rw [if_neg w2] at hsort ⊢; rw [pq_sw2]; exact pq_fin h hn (j := 2) (by decide) hs he hD hR hLo rfl hsort (pq_h2 h hn)
    rw [if_pos w2] at hsort ⊢
    by_cases w3 : sX9_isWord (nI s) (nI e) 1 text 3 = 0
    rotate_left
    · rw [if_neg w3] at hsort ⊢; rw [pq_sw3]; exact pq_fin h hn (j := 3) (by decide) hs he hD hR hLo rfl hsort (pq_h3 h hn)
    rw [if_pos w3] at hsort ⊢
    by_cases w4 : sX9_isWord (nI s) (nI e) 1 text 4 = 0
    rotate_left
    · rw [if_neg w4] at hsort ⊢; rw [pq_sw4]; exact pq_fin h hn (j := 4) (by decide) hs he hD hR hLo rfl hsort (pq_h4 h hn)
    rw [if_pos w4] at hsort ⊢
    by_cases w5 : sX9_isWord (nI s) (nI e) 1 text 5 = 0
    rotate_left
    · rw [if_neg w5] at hsort ⊢; rw [pq_sw5]; exact pq_fin h hn (j := 5) (by decide) hs he hD hR hLo rfl hsort (pq_h5 h hn)
    rw [if_pos w5] at hsort ⊢
    by_cases w6 : sX9_isWord (nI s) (nI e) 1 text 6 = 0
    rotate_left
    · rw [if_neg w6] at hsort ⊢; rw [pq_sw6]; exact pq_fin h hn (j := 6) (by decide) hs he hD hR hLo rfl hsort (pq_h6 h hn)
    rw [if_pos w6] at hsort ⊢
    by_cases w7 : sX9_isWord (nI s) (nI e) 1 text 7 = 0
    rotate_left
    · rw [if_neg w7] at hsort ⊢; rw [pq_sw7]; exact pq_fin h hn (j := 7) (by decide) hs he hD hR hLo rfl hsort (pq_h7 h hn)
    rw [if_pos w7] at hsort ⊢
    by_cases w8 : sX9_isWord (nI s) (nI e) 1 text 8 = 0
    rotate_left
    · rw [if_neg w8] at hsort ⊢; rw [pq_sw8]; exact pq_fin h hn (j := 8) (by decide) hs he hD hR hLo rfl hsort (pq_h8 h hn)
    rw [if_pos w8] at hsort ⊢
    refine pq_none hLo ?_ ?_
    · rw [pq_RS, hsort, if_pos rfl]
    · rw [pq_RS, hsort, if_pos rfl]
  · rw [if_pos (pq_noWord _ _ k1 _ _), if_pos (pq_noWord _ _ k1 _ _), if_pos (pq_noWord _ _ k1 _ _), if_pos (pq_noWord _ _ k1 _ _), if_pos (pq_noWord _ _ k1 _ _), if_pos (pq_noWord _ _ k1 _ _), if_pos (pq_noWord _ _ k1 _ _), if_pos (pq_noWord _ _ k1 _ _), if_pos (pq_noWord _ _ k1 _ _)]
    unfold sX3_readStatement
    rw [if_neg k1]
    exact pq_none hLo rfl rfl
abbrev pqA : Type := Int32 × Int32 × Int32 × Int32 × Int32 × Int32 × Int32
/-- how both readers end -/
def pq_E (told0 : Nat → Int32) (cd : Int32) (ck : Int32 × Int32 × Int32 × Int32) (nums : Nat → Int32) (gd : Int32) (mk : pqA) (told : Nat → Int32) : Prop := pq_Lo told0 told ∧ ((cd = 0 ∧ ¬ gd = 0 ∧ mk.2.2.2.2.1 = 0 ∧ mk.2.2.2.2.2.1 = -1 ∧ pq_D nums told ∧ pb_R nums) ∨ (¬ cd = 0 ∧ gd = 0 ∧ mk.2.2.2.2.1 = cd ∧ mk.2.2.2.2.2.1 = ck.1))
theorem pq_l38stop (buf : Nat → Int32) (t : Int32) (kont : Int32 → Int32 → Int32 → Int32 × Int32 × Int32 × Int32 → (Nat → Int32) → pqS) {cd : Int32} (hcd : ¬ cd = 0) (fuel : Nat) (k mt : Int32) (tk : Int32 × Int32 × Int32 × Int32) (nn : Nat → Int32) : sX3_readText_l38 buf t kont fuel cd k mt tk nn = kont cd k mt tk nn := by
  cases fuel with
  | zero => rfl
  | succ fuel =>
    rw [sX3_readText_l38]
    split
    · rfl
    · first | rfl | rw [if_neg hcd]
abbrev pqW : Type := Int32 × Int32 × Int32 × Int32 × Int32 × Int32 × Int32 × Int32 × Int32 × Int32 × Int32 × Int32 × Int32 × (Nat → Int32) × (Nat → Int32) × (Nat → Int32)
theorem pq_l72stop (text : Nat → Int32) (t : Int32) (kont : Int32 → pqA → (Nat → Int32) → pqW) (fuel : Nat) (tk : pqA) (td : Nat → Int32) : sX9_parse_l72 text t kont fuel 0 tk td = kont 0 tk td := by
  cases fuel with
  | zero => rfl
  | succ fuel => rw [sX9_parse_l72, if_pos rfl]
theorem pq_loop {n : Nat} {buf text told0 : Nat → Int32} (h : pq_B n buf text) (hn : n ≤ 500) (kC : Int32 → Int32 → Int32 → Int32 × Int32 × Int32 × Int32 → (Nat → Int32) → pqS) (kM : Int32 → pqA → (Nat → Int32) → pqW) : ∀ (d : Nat) (k s e : Nat) (kd met vc vm : Int32) (nums told : Nat → Int32) (cf mf : Nat), n - e ≤ d → s ≤ e → e ≤ n → (¬ kd = 0 → k + 1 ≤ e) → k ≤ 500 → pq_D nums told → pb_R nums → pq_Lo told0 told → 500 - k < cf → d + 1 < mf → ∃ cd' k' mt' ck' nn' gd' mk' td', pq_E told0 cd' ck' nn' gd' mk' td' ∧ sX3_readText_l38 buf (nI n) kC cf 0 (nI k) met (nI s, nI e, kd, vc) nums = kC cd' k' mt' ck' nn' ∧ sX9_parse_l72 text (nI n) kM mf 1 (nI s, nI e, kd, vm, 0, -1, met) told = kM gd' mk' td' := by
  intro d
  induction d with
  | zero =>
    intro k s e kd met vc vm nums told cf mf hd hs he hk hk5 hD hR hLo hcf hmf
    obtain ⟨cf, rfl⟩ : ∃ f, cf = f + 1 := ⟨cf - 1, by omega⟩
    obtain ⟨mf, rfl⟩ : ∃ f, mf = f + 1 := ⟨mf - 1, by omega⟩
    by_cases c : kd = 0
    · subst c
      refine ⟨0, nI k, met, (nI s, nI e, 0, vc), nums, 1, (nI s, nI e, 0, vm, 0, -1, met), told, ⟨hLo, Or.inl ⟨rfl, by decide, rfl, rfl, hD, hR⟩⟩, ?_, ?_⟩
      · rw [sX3_readText_l38]
        split
        · rfl
        · rw [if_pos rfl, if_pos rfl]
      · rw [sX9_parse_l72, if_neg (show ¬ (1 : Int32) = 0 by decide), if_pos rfl]
    · have hk1 := hk c
      have hz := pq_stm h hn hs he (k := kd) (met := met) (vc := vc) (vm := vm) hD hR hLo
      generalize hM : sX9_statement (nI n) (nI s) (nI e) kd vm 0 (-1) met text told = M at hz
      generalize hC : sX3_readStatement (nI n) met (nI s) (nI e) kd vc buf nums = C at hz
      obtain ⟨hLo1, hz⟩ := hz
      have e1 : sX3_readText_l38 buf (nI n) kC (cf + 1) 0 (nI k) met (nI s, nI e, kd, vc) nums = if C.1 = 0 then sX3_readText_l38 buf (nI n) kC cf C.1 (nI k + 1) C.2.1 (sX3_readToken (nI n) C.2.2.2.1 C.2.2.2.2.2.1 buf) C.2.2.2.2.2.2 else sX3_readText_l38 buf (nI n) kC cf C.1 (nI k + 1) C.2.1 (C.2.2.1, C.2.2.2.1, C.2.2.2.2.1, C.2.2.2.2.2.1) C.2.2.2.2.2.2 := by
        rw [sX3_readText_l38, if_neg (show ¬ (500 : Int32) ≤ nI k from nI_ge (b := 500) (by omega) (by omega)), if_pos rfl, if_neg c, hC]
      have e2 : sX9_parse_l72 text (nI n) kM (mf + 1) 1 (nI s, nI e, kd, vm, 0, -1, met) told = if M.1 = 0 then sX9_parse_l72 text (nI n) kM mf 0 (M.2.2.2.1, M.2.2.2.2.1, M.2.2.2.2.2.1, M.2.2.2.2.2.2.1, M.2.1, M.2.2.1, M.2.2.2.2.2.2.2.1) M.2.2.2.2.2.2.2.2 else if (sX9_closes (nI n) M.2.2.2.1 M.2.2.2.2.1 M.2.2.2.2.2.1 M.2.2.2.2.2.2.1 M.2.1 M.2.2.1 text).1 = 0 then sX9_parse_l72 text (nI n) kM mf 0 ((sX9_closes (nI n) M.2.2.2.1 M.2.2.2.2.1 M.2.2.2.2.2.1 M.2.2.2.2.2.2.1 M.2.1 M.2.2.1 text).2.2.2.1, (sX9_closes (nI n) M.2.2.2.1 M.2.2.2.2.1 M.2.2.2.2.2.1 M.2.2.2.2.2.2.1 M.2.1 M.2.2.1 text).2.2.2.2.1, (sX9_closes (nI n) M.2.2.2.1 M.2.2.2.2.1 M.2.2.2.2.2.1 M.2.2.2.2.2.2.1 M.2.1 M.2.2.1 text).2.2.2.2.2.1, (sX9_closes (nI n) M.2.2.2.1 M.2.2.2.2.1 M.2.2.2.2.2.1 M.2.2.2.2.2.2.1 M.2.1 M.2.2.1 text).2.2.2.2.2.2, (sX9_closes (nI n) M.2.2.2.1 M.2.2.2.2.1 M.2.2.2.2.2.1 M.2.2.2.2.2.2.1 M.2.1 M.2.2.1 text).2.1, (sX9_closes (nI n) M.2.2.2.1 M.2.2.2.2.1 M.2.2.2.2.2.1 M.2.2.2.2.2.2.1 M.2.1 M.2.2.1 text).2.2.1, M.2.2.2.2.2.2.2.1) M.2.2.2.2.2.2.2.2 else sX9_parse_l72 text (nI n) kM mf 1 ((sX9_closes (nI n) M.2.2.2.1 M.2.2.2.2.1 M.2.2.2.2.2.1 M.2.2.2.2.2.2.1 M.2.1 M.2.2.1 text).2.2.2.1, (sX9_closes (nI n) M.2.2.2.1 M.2.2.2.2.1 M.2.2.2.2.2.1 M.2.2.2.2.2.2.1 M.2.1 M.2.2.1 text).2.2.2.2.1, (sX9_closes (nI n) M.2.2.2.1 M.2.2.2.2.1 M.2.2.2.2.2.1 M.2.2.2.2.2.2.1 M.2.1 M.2.2.1 text).2.2.2.2.2.1, (sX9_closes (nI n) M.2.2.2.1 M.2.2.2.2.1 M.2.2.2.2.2.1 M.2.2.2.2.2.2.1 M.2.1 M.2.2.1 text).2.2.2.2.2.2, (sX9_closes (nI n) M.2.2.2.1 M.2.2.2.2.1 M.2.2.2.2.2.1 M.2.2.2.2.2.2.1 M.2.1 M.2.2.1 text).2.1, (sX9_closes (nI n) M.2.2.2.1 M.2.2.2.2.1 M.2.2.2.2.2.1 M.2.2.2.2.2.2.1 M.2.1 M.2.2.1 text).2.2.1, M.2.2.2.2.2.2.2.1) M.2.2.2.2.2.2.2.2 := by
        rw [sX9_parse_l72, if_neg (show ¬ (1 : Int32) = 0 by decide), if_neg c, hM]
      rcases hz with ⟨z1, z2, z3, z4⟩ | ⟨z1, z2, z3, z4, z5⟩ | ⟨z1, z2, z3, z4, z5, p, z6, z7, z8, z9⟩
      · refine ⟨C.1, nI k + 1, C.2.1, (C.2.2.1, C.2.2.2.1, C.2.2.2.2.1, C.2.2.2.2.2.1), C.2.2.2.2.2.2, 0, (M.2.2.2.1, M.2.2.2.2.1, M.2.2.2.2.2.1, M.2.2.2.2.2.2.1, M.2.1, M.2.2.1, M.2.2.2.2.2.2.2.1), M.2.2.2.2.2.2.2.2, ⟨hLo1, Or.inr ⟨z1, rfl, z3, z4⟩⟩, ?_, ?_⟩
        · rw [e1, if_neg z1, pq_l38stop _ _ _ z1]
        · rw [e2, if_pos z2, pq_l72stop]
      · refine ⟨C.1, nI k + 1, C.2.1, (C.2.2.1, C.2.2.2.1, C.2.2.2.2.1, C.2.2.2.2.2.1), C.2.2.2.2.2.2, 0, ((sX9_closes (nI n) M.2.2.2.1 M.2.2.2.2.1 M.2.2.2.2.2.1 M.2.2.2.2.2.2.1 M.2.1 M.2.2.1 text).2.2.2.1, (sX9_closes (nI n) M.2.2.2.1 M.2.2.2.2.1 M.2.2.2.2.2.1 M.2.2.2.2.2.2.1 M.2.1 M.2.2.1 text).2.2.2.2.1, (sX9_closes (nI n) M.2.2.2.1 M.2.2.2.2.1 M.2.2.2.2.2.1 M.2.2.2.2.2.2.1 M.2.1 M.2.2.1 text).2.2.2.2.2.1, (sX9_closes (nI n) M.2.2.2.1 M.2.2.2.2.1 M.2.2.2.2.2.1 M.2.2.2.2.2.2.1 M.2.1 M.2.2.1 text).2.2.2.2.2.2, (sX9_closes (nI n) M.2.2.2.1 M.2.2.2.2.1 M.2.2.2.2.2.1 M.2.2.2.2.2.2.1 M.2.1 M.2.2.1 text).2.1, (sX9_closes (nI n) M.2.2.2.1 M.2.2.2.2.1 M.2.2.2.2.2.1 M.2.2.2.2.2.2.1 M.2.1 M.2.2.1 text).2.2.1, M.2.2.2.2.2.2.2.1), M.2.2.2.2.2.2.2.2, ⟨hLo1, Or.inr ⟨z1, rfl, z4, z5⟩⟩, ?_, ?_⟩
        · rw [e1, if_neg z1, pq_l38stop _ _ _ z1]
        · rw [e2, if_neg z2, if_pos z3, pq_l72stop]
      · omega
  | succ d ih =>
    intro k s e kd met vc vm nums told cf mf hd hs he hk hk5 hD hR hLo hcf hmf
    obtain ⟨cf, rfl⟩ : ∃ f, cf = f + 1 := ⟨cf - 1, by omega⟩
    obtain ⟨mf, rfl⟩ : ∃ f, mf = f + 1 := ⟨mf - 1, by omega⟩
    by_cases c : kd = 0
    · subst c
      refine ⟨0, nI k, met, (nI s, nI e, 0, vc), nums, 1, (nI s, nI e, 0, vm, 0, -1, met), told, ⟨hLo, Or.inl ⟨rfl, by decide, rfl, rfl, hD, hR⟩⟩, ?_, ?_⟩
      · rw [sX3_readText_l38]
        split
        · rfl
        · rw [if_pos rfl, if_pos rfl]
      · rw [sX9_parse_l72, if_neg (show ¬ (1 : Int32) = 0 by decide), if_pos rfl]
    · have hk1 := hk c
      have hz := pq_stm h hn hs he (k := kd) (met := met) (vc := vc) (vm := vm) hD hR hLo
      generalize hM : sX9_statement (nI n) (nI s) (nI e) kd vm 0 (-1) met text told = M at hz
      generalize hC : sX3_readStatement (nI n) met (nI s) (nI e) kd vc buf nums = C at hz
      obtain ⟨hLo1, hz⟩ := hz
      have e1 : sX3_readText_l38 buf (nI n) kC (cf + 1) 0 (nI k) met (nI s, nI e, kd, vc) nums = if C.1 = 0 then sX3_readText_l38 buf (nI n) kC cf C.1 (nI k + 1) C.2.1 (sX3_readToken (nI n) C.2.2.2.1 C.2.2.2.2.2.1 buf) C.2.2.2.2.2.2 else sX3_readText_l38 buf (nI n) kC cf C.1 (nI k + 1) C.2.1 (C.2.2.1, C.2.2.2.1, C.2.2.2.2.1, C.2.2.2.2.2.1) C.2.2.2.2.2.2 := by
        rw [sX3_readText_l38, if_neg (show ¬ (500 : Int32) ≤ nI k from nI_ge (b := 500) (by omega) (by omega)), if_pos rfl, if_neg c, hC]
      have e2 : sX9_parse_l72 text (nI n) kM (mf + 1) 1 (nI s, nI e, kd, vm, 0, -1, met) told = if M.1 = 0 then sX9_parse_l72 text (nI n) kM mf 0 (M.2.2.2.1, M.2.2.2.2.1, M.2.2.2.2.2.1, M.2.2.2.2.2.2.1, M.2.1, M.2.2.1, M.2.2.2.2.2.2.2.1) M.2.2.2.2.2.2.2.2 else if (sX9_closes (nI n) M.2.2.2.1 M.2.2.2.2.1 M.2.2.2.2.2.1 M.2.2.2.2.2.2.1 M.2.1 M.2.2.1 text).1 = 0 then sX9_parse_l72 text (nI n) kM mf 0 ((sX9_closes (nI n) M.2.2.2.1 M.2.2.2.2.1 M.2.2.2.2.2.1 M.2.2.2.2.2.2.1 M.2.1 M.2.2.1 text).2.2.2.1, (sX9_closes (nI n) M.2.2.2.1 M.2.2.2.2.1 M.2.2.2.2.2.1 M.2.2.2.2.2.2.1 M.2.1 M.2.2.1 text).2.2.2.2.1, (sX9_closes (nI n) M.2.2.2.1 M.2.2.2.2.1 M.2.2.2.2.2.1 M.2.2.2.2.2.2.1 M.2.1 M.2.2.1 text).2.2.2.2.2.1, (sX9_closes (nI n) M.2.2.2.1 M.2.2.2.2.1 M.2.2.2.2.2.1 M.2.2.2.2.2.2.1 M.2.1 M.2.2.1 text).2.2.2.2.2.2, (sX9_closes (nI n) M.2.2.2.1 M.2.2.2.2.1 M.2.2.2.2.2.1 M.2.2.2.2.2.2.1 M.2.1 M.2.2.1 text).2.1, (sX9_closes (nI n) M.2.2.2.1 M.2.2.2.2.1 M.2.2.2.2.2.1 M.2.2.2.2.2.2.1 M.2.1 M.2.2.1 text).2.2.1, M.2.2.2.2.2.2.2.1) M.2.2.2.2.2.2.2.2 else sX9_parse_l72 text (nI n) kM mf 1 ((sX9_closes (nI n) M.2.2.2.1 M.2.2.2.2.1 M.2.2.2.2.2.1 M.2.2.2.2.2.2.1 M.2.1 M.2.2.1 text).2.2.2.1, (sX9_closes (nI n) M.2.2.2.1 M.2.2.2.2.1 M.2.2.2.2.2.1 M.2.2.2.2.2.2.1 M.2.1 M.2.2.1 text).2.2.2.2.1, (sX9_closes (nI n) M.2.2.2.1 M.2.2.2.2.1 M.2.2.2.2.2.1 M.2.2.2.2.2.2.1 M.2.1 M.2.2.1 text).2.2.2.2.2.1, (sX9_closes (nI n) M.2.2.2.1 M.2.2.2.2.1 M.2.2.2.2.2.1 M.2.2.2.2.2.2.1 M.2.1 M.2.2.1 text).2.2.2.2.2.2, (sX9_closes (nI n) M.2.2.2.1 M.2.2.2.2.1 M.2.2.2.2.2.1 M.2.2.2.2.2.2.1 M.2.1 M.2.2.1 text).2.1, (sX9_closes (nI n) M.2.2.2.1 M.2.2.2.2.1 M.2.2.2.2.2.1 M.2.2.2.2.2.2.1 M.2.1 M.2.2.1 text).2.2.1, M.2.2.2.2.2.2.2.1) M.2.2.2.2.2.2.2.2 := by
        rw [sX9_parse_l72, if_neg (show ¬ (1 : Int32) = 0 by decide), if_neg c, hM]
      rcases hz with ⟨z1, z2, z3, z4⟩ | ⟨z1, z2, z3, z4, z5⟩ | ⟨z1, z2, z3, z4, z5, p, z6, z7, z8, z9⟩
      · refine ⟨C.1, nI k + 1, C.2.1, (C.2.2.1, C.2.2.2.1, C.2.2.2.2.1, C.2.2.2.2.2.1), C.2.2.2.2.2.2, 0, (M.2.2.2.1, M.2.2.2.2.1, M.2.2.2.2.2.1, M.2.2.2.2.2.2.1, M.2.1, M.2.2.1, M.2.2.2.2.2.2.2.1), M.2.2.2.2.2.2.2.2, ⟨hLo1, Or.inr ⟨z1, rfl, z3, z4⟩⟩, ?_, ?_⟩
        · rw [e1, if_neg z1, pq_l38stop _ _ _ z1]
        · rw [e2, if_pos z2, pq_l72stop]
      · refine ⟨C.1, nI k + 1, C.2.1, (C.2.2.1, C.2.2.2.1, C.2.2.2.2.1, C.2.2.2.2.2.1), C.2.2.2.2.2.2, 0, ((sX9_closes (nI n) M.2.2.2.1 M.2.2.2.2.1 M.2.2.2.2.2.1 M.2.2.2.2.2.2.1 M.2.1 M.2.2.1 text).2.2.2.1, (sX9_closes (nI n) M.2.2.2.1 M.2.2.2.2.1 M.2.2.2.2.2.1 M.2.2.2.2.2.2.1 M.2.1 M.2.2.1 text).2.2.2.2.1, (sX9_closes (nI n) M.2.2.2.1 M.2.2.2.2.1 M.2.2.2.2.2.1 M.2.2.2.2.2.2.1 M.2.1 M.2.2.1 text).2.2.2.2.2.1, (sX9_closes (nI n) M.2.2.2.1 M.2.2.2.2.1 M.2.2.2.2.2.1 M.2.2.2.2.2.2.1 M.2.1 M.2.2.1 text).2.2.2.2.2.2, (sX9_closes (nI n) M.2.2.2.1 M.2.2.2.2.1 M.2.2.2.2.2.1 M.2.2.2.2.2.2.1 M.2.1 M.2.2.1 text).2.1, (sX9_closes (nI n) M.2.2.2.1 M.2.2.2.2.1 M.2.2.2.2.2.1 M.2.2.2.2.2.2.1 M.2.1 M.2.2.1 text).2.2.1, M.2.2.2.2.2.2.2.1), M.2.2.2.2.2.2.2.2, ⟨hLo1, Or.inr ⟨z1, rfl, z4, z5⟩⟩, ?_, ?_⟩
        · rw [e1, if_neg z1, pq_l38stop _ _ _ z1]
        · rw [e2, if_neg z2, if_pos z3, pq_l72stop]
      · obtain ⟨s', e', k', vc', vm', t1, t2, t3, t4, t5, t6, t7⟩ := pq_tok h hn z7 C.2.2.2.2.2.1
        obtain ⟨cd', kk', mt', ck', nn', gd', mk', td', i1, i2, i3⟩ := ih (k + 1) s' e' k' C.2.1 vc' vm' C.2.2.2.2.2.2 M.2.2.2.2.2.2.2.2 cf mf (by omega) t2 t3 (fun x => by have := t4 x; omega) (by omega) z4 z5 hLo1 (by omega) (by omega)
        refine ⟨cd', kk', mt', ck', nn', gd', mk', td', i1, ?_, ?_⟩
        · rw [e1, if_pos z1, z1, z8, t6, nI_1]
          exact i2
        · rw [e2, z9, if_neg z2, t7, if_neg (show ¬ (1 : Int32) = 0 by decide), ← z3]
          exact i3
