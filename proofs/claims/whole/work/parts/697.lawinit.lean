/-! the two constructors' worlds, as the invariant has them -/
abbrev st_num : Nat → Int32 := va_cpy xUsual (fun _ => 0) 0 0 24
abbrev st_z : pbSit := ((0, 0, 0, 0, 0, 0, 0, 0, 0, 0, 0, 0, 0, 0, 0, 0), 0, 0, fun _ => 0, fun _ => 0)
def st_sits (rs fs : Nat → Int32) (k : Nat) : pbSit := match k with
  | 10 => ((0, 0, 2048, 2048, 0, 0, 0, 0, 0, 0, 0, 0, 0, 0, 0, 0), st_num 7, 0, rs, fs)
  | _ => st_z
theorem st_R : pb_R st_num := pe_okOf (fun k hk => pb_cpyLo hk) pe_usual
set_option maxRecDepth 100000 in
set_option maxHeartbeats 4000000 in
theorem st_X8 (l : Launch) (E : XE) (Z : XZ) (h : Nat) : ∃ (rs fs : Nat → Int32) (tr : pbM), pb_ok st_num (st_num 7) rs fs ∧ xN l yX8_init wsX8_init ({ frames := 6, cells := 94, slots := 2275, locals := 152 }) E Z [(h, .inr (8, [.null, .null, .null, .null, .null, .null, .null, .null, .int 0]))] [.ref h] (fun u => xW8 E h u (-1) 0 0 0 0 0 0 0 (fun _ => 0) (fun _ => 0) st_num (st_sits rs fs) tr.1 tr.2.1 tr.2.2.1 tr.2.2.2.1 tr.2.2.2.2.1 tr.2.2.2.2.2 0 0 0 0) 94 2275 := by
  obtain ⟨rs, fs, tr, e, ok⟩ := pe_start st_R (fun _ => 0) (fun _ => 0) 0 0 0 0 0 0
  refine ⟨rs, fs, tr, ok, ?_⟩
  have K := kX8_init l E Z h
  rw [e] at K
  exact K
set_option maxRecDepth 100000 in
set_option maxHeartbeats 4000000 in
theorem st_X9 (l : Launch) (E : XE) (Z : XZ) (h9 : Nat) : ∃ (now sav told : Nat → Int32), now 5 = told 7 ∧ now 10 = 2048 ∧ now 11 = 2048 ∧ (∀ k, k < 214 → k ≠ 5 → k ≠ 10 → k ≠ 11 → now k = 0) ∧ pb_T told st_num ∧ (∀ k, sav k = 0 ∨ sav k = 1) ∧ sav 0 = 0 ∧ sav 1 = 0 ∧ xN l yX9_init wsX9_init ({ frames := 2, cells := 10, slots := 3658, locals := 43 }) E Z [(h9, .inr (9, [.int 0, .null, .null, .null, .int 0, .int 0, .int 0, .int 0, .int 0, .int 0, .int 0, .int 0, .int 0, .int 0, .null, .null, .null, .null, .int 0, .null, .null, .null]))] [.ref h9] (fun w => xW9 E h9 w 0 0 0 0 0 0 0 0 (-1) 0 0 0 (fun _ => 0) (fun _ => 0) (fun _ => 0) (fun _ => 0) (fun _ => 0) (fun _ => 0) (fun _ => 0) now told sav) 10 3658 := by
  obtain ⟨now, n1, n2, n3, n4, n5⟩ := pe_begins (fun _ => 0) (sX9_lifts (sX9_clearDraft (fun _ => 0))) (fun _ => 0)
  refine ⟨now, upd (upd (fun _ => 0) 0 0) 1 0, sX9_lifts (sX9_clearDraft (fun _ => 0)), n2, n3, n4, n5, fun k hk => ?_, pf_sv0 (fun _ => Or.inl rfl), rfl, rfl, ?_⟩
  · rw [pe_lifts _ k hk, ← pe_draft _ k hk]
    exact (pb_cpyLo hk).symm
  · have K := kX9_init l E Z h9
    rw [n1] at K
    exact K
set_option maxRecDepth 100000 in
set_option maxHeartbeats 4000000 in
theorem st_I {E : XE} {h h9 : Nat} {u w : Nat → Nat} {rs fs : Nat → Int32} {tr : pbM} {now sav told : Nat → Int32} (ok : pb_ok st_num (st_num 7) rs fs) (n2 : now 5 = told 7) (n3 : now 10 = 2048) (n4 : now 11 = 2048) (n5 : ∀ k, k < 214 → k ≠ 5 → k ≠ 10 → k ≠ 11 → now k = 0) (hT : pb_T told st_num) (hv : ∀ k, sav k = 0 ∨ sav k = 1) (v0 : sav 0 = 0) (v1 : sav 1 = 0) : xI E h u h9 w 0 (xW8 E h u (-1) 0 0 0 0 0 0 0 (fun _ => 0) (fun _ => 0) st_num (st_sits rs fs) tr.1 tr.2.1 tr.2.2.1 tr.2.2.2.1 tr.2.2.2.2.1 tr.2.2.2.2.2 0 0 0 0) (xW9 E h9 w 0 0 0 0 0 0 0 0 (-1) 0 0 0 (fun _ => 0) (fun _ => 0) (fun _ => 0) (fun _ => 0) (fun _ => 0) (fun _ => 0) (fun _ => 0) now told sav) := by
  have hSn : pb_S st_num (st_sits rs fs 10) now := pe_fresh st_R ok (n2.trans (hT 7 (by decide))) n3 n4 n5
  exact xI.mk ⟨hT, st_R, hSn, Or.inl rfl, rfl, ⟨0, by omega, rfl, rfl, fun k hk => absurd hk (Nat.not_lt_zero _)⟩, ⟨0, 0, by omega, by omega, rfl, rfl, rfl, fun k hk => absurd hk (Nat.not_lt_zero _)⟩, hv, v0.symm, v1.symm, fun z => absurd rfl z, fun z => absurd rfl z⟩
