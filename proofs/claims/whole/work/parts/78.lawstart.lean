/-! THE LAW, from its entry -/
theorem st_flag (l : Launch) (hf : l.flags = flags0) : l.stackTraces = false := by
  show (!l.flags.contains noTraceFlag) = false
  rw [hf]
  decide +kernel
set_option maxHeartbeats 4000000 in
set_option maxRecDepth 100000 in
theorem whole_start {p : Program} {e : Env} {s : State} {m : MethodId} {below : List Frame} {meth : Method} {c : Code} (l : Launch) (hflags : l.flags = flags0) {b L : Nat} {xs : Nat → Int32} (hL : L ≤ 3072) (C0 : lw_At p s m meth c b L xs) : W p l e room_1 s m #[Value.ref b] below meth c s.heap [] 0 0 (lw_Z below #[Value.ref b] s) (entryFrame m ([Value.ref b] : List Value).toArray 8) := by
  obtain ⟨hx, hb, hr, hml, hown, hts, hX, hbl, hlk, hgv⟩ := C0
  have hst := st_flag l hflags
  have hs : ∀ w ∈ st_FL, w.before #[Value.ref b] s = true := flat_of_before _ hgv
  obtain ⟨E, cL, hE, hLg, hAO⟩ := st_xEnv hts hs
  have hThr := st_xThr hts hs
  obtain ⟨Z, hZ⟩ := st_xZ (A := fun q : Nat => s.heap.size ≤ q) hts hs (fun a ha => Nat.not_le.mpr ha)
  have ht2 : ∀ w ∈ wsL_law, w.before #[Value.ref b] s = true := fun w hw => hts w (wsL_law_in w hw)
  have hown : s.vm.findClass RL = some m.cls := hown
  have hb : c.code = cL_law := hb
  have C1 : xCx p s m c b L xs E Z cL := ⟨hx, hb, hml, hown, ht2, hX, hbl, hE, hZ, hThr, hLg⟩
  have g_1 : (Cond.classLink RL 8 RX8).before #[Value.ref b] s = true := hts _ (by decide +kernel)
  have g_2 : (Cond.instantiable RX8 9).before #[Value.ref b] s = true := hts _ (by decide +kernel)
  have g_3 : (Cond.initialized RX8).before #[Value.ref b] s = true := hts _ (by decide +kernel)
  have g_4 : (Cond.classLink RL 87 RX9).before #[Value.ref b] s = true := hts _ (by decide +kernel)
  have g_5 : (Cond.instantiable RX9 22).before #[Value.ref b] s = true := hts _ (by decide +kernel)
  have g_6 : (Cond.initialized RX9).before #[Value.ref b] s = true := hts _ (by decide +kernel)
  have g_7 : (Cond.methodLink RL 86 yX8_init).before #[Value.ref b] s = true := hts _ (by decide +kernel)
  have g_8 : (Cond.instanceMethod yX8_init).before #[Value.ref b] s = true := hts _ (by decide +kernel)
  have g_9 : (Cond.methodLink RL 89 yX9_init).before #[Value.ref b] s = true := hts _ (by decide +kernel)
  have g_10 : (Cond.instanceMethod yX9_init).before #[Value.ref b] s = true := hts _ (by decide +kernel)
  have g_11 : (Cond.arrayClass .long).before #[Value.ref b] s = true := hts _ (by decide +kernel)
  have hA : ∀ q : Nat, s.heap.size ≤ q → (fun q : Nat => s.heap.size ≤ q) q := fun _ h => h
  have hS : va_S (fun q : Nat => s.heap.size ≤ q) s.heap s.heap [] := va_S.rf
  have hP : va_P E.1 vwCl [] s.heap := fun k q h => by simp at h
  have hD : va_D (fun q : Nat => s.heap.size ≤ q) [] := ⟨fun i j p q h => by simp at h, fun k q h => by simp at h⟩
  have hl := lv_entry ([.ref b]) (n := 8) (Nat.le_of_ble_eq_true rfl)
  rw [lg_entry_eq]
  generalize (lg_sl ([.ref b]) ++ List.replicate (8 - (lg_sl ([.ref b])).length) Slot.unset).toArray = ls at hl ⊢
  have hl : lv_has ls 8 [(0, .ref b)] := hl
  refine va_new (ci := 8) (fs := [.null, .null, .null, .null, .null, .null, .null, .null, .int 0]) (C := RX8) (T := TX8) (N := 9) hx hb ht2 inlX8 tyX8 tyX8_ok hown g_1 g_2 g_3 hE.1 hP hD hS hA rfl (fun j hj => by rcases (show j = 0 ∨ j = 1 ∨ j = 2 ∨ j = 3 ∨ j = 4 ∨ j = 5 ∨ j = 6 ∨ j = 7 ∨ j = 8 by omega) with rfl | rfl | rfl | rfl | rfl | rfl | rfl | rfl | rfl <;> rfl) (Nat.le_of_ble_eq_true rfl) (Nat.le_of_ble_eq_true rfl) dL_law_0 (fun h H hP hD hS => ?_)
  refine lv_dup hx hb dL_law_3 rfl ?_
  obtain ⟨W1, hM8, hrest⟩ := st_new8 l E Z h
  refine x_nI (wr := []) (wc := [(h, .inr (8, [.null, .null, .null, .null, .null, .null, .null, .null, .int 0]))]) [] hM8 ⟨hx, hb, hml, hown, ht2⟩ (cwI 0 ht2 gL_law_X8_init rfl rfl rfl g_3 g_7 g_8 rfl (by decide +kernel) ⟨(Nat.le_of_ble_eq_true rfl), (Nat.le_of_ble_eq_true rfl)⟩) hZ hAO hE hP hD hS hA [0] [] rfl rfl rfl rfl (fun i hi => by simp at hi) hl.1 rfl rfl (Nat.le_of_ble_eq_true rfl) dL_law_4 (Nat.le_of_ble_eq_true rfl) (Nat.le_of_ble_eq_true rfl) (fun u H locs hP hD hS => ?_)
  have hP : va_P E.1 vwCl (W1 u) H := hP
  have hD : va_D (fun q : Nat => s.heap.size ≤ q) (W1 u) := hD
  refine lv_astore_n (lv' := [(1, .ref h), (0, .ref b)]) hx hb dL_law_7 rfl hl (by decide) rfl (fun ls hl => ?_)
  refine va_new (ci := 9) (fs := [.int 0, .null, .null, .null, .int 0, .int 0, .int 0, .int 0, .int 0, .int 0, .int 0, .int 0, .int 0, .int 0, .null, .null, .null, .null, .int 0, .null, .null, .null]) (C := RX9) (T := TX9) (N := 22) hx hb ht2 inlX9 tyX9 tyX9_ok hown g_4 g_5 g_6 hE.1 hP hD hS hA rfl (fun j hj => by rcases (show j = 0 ∨ j = 1 ∨ j = 2 ∨ j = 3 ∨ j = 4 ∨ j = 5 ∨ j = 6 ∨ j = 7 ∨ j = 8 ∨ j = 9 ∨ j = 10 ∨ j = 11 ∨ j = 12 ∨ j = 13 ∨ j = 14 ∨ j = 15 ∨ j = 16 ∨ j = 17 ∨ j = 18 ∨ j = 19 ∨ j = 20 ∨ j = 21 by omega) with rfl | rfl | rfl | rfl | rfl | rfl | rfl | rfl | rfl | rfl | rfl | rfl | rfl | rfl | rfl | rfl | rfl | rfl | rfl | rfl | rfl | rfl <;> rfl) (Nat.le_of_ble_eq_true rfl) (Nat.le_of_ble_eq_true rfl) dL_law_8 (fun h9 H hP hD hS => ?_)
  refine lv_dup hx hb dL_law_11 rfl ?_
  obtain ⟨W2, hM9, hI⟩ := hrest h9
  refine x_nI (wr := W1 u) (wc := [(h9, .inr (9, [.int 0, .null, .null, .null, .int 0, .int 0, .int 0, .int 0, .int 0, .int 0, .int 0, .int 0, .int 0, .int 0, .null, .null, .null, .null, .int 0, .null, .null, .null]))]) [] hM9 ⟨hx, hb, hml, hown, ht2⟩ (cwI 0 ht2 gL_law_X9_init rfl rfl rfl g_6 g_9 g_10 rfl (by decide +kernel) ⟨(Nat.le_of_ble_eq_true rfl), (Nat.le_of_ble_eq_true rfl)⟩) hZ hAO hE hP hD hS hA ((List.range 1).map ((W1 u).length + ·)) (List.range (W1 u).length) (x_ndR _ _) (x_segR (W1 u) [(h9, .inr (9, [.int 0, .null, .null, .null, .int 0, .int 0, .int 0, .int 0, .int 0, .int 0, .int 0, .int 0, .int 0, .int 0, .null, .null, .null, .null, .int 0, .null, .null, .null]))]) (x_segC _ _) (x_ndC _) (x_dis2 _ _) hl.1 rfl rfl (Nat.le_of_ble_eq_true rfl) dL_law_12 (Nat.le_of_ble_eq_true rfl) (Nat.le_of_ble_eq_true rfl) (fun w H locs hP hD hS => ?_)
  refine lv_astore_n (lv' := [(2, .ref h9), (1, .ref h), (0, .ref b)]) hx hb dL_law_15 rfl hl (by decide) rfl (fun ls hl => ?_)
  refine lv_iconst (v := 1) hx hb dL_law_16 (by decide) ?_
  refine va_newa hx hb (atype := .long) (ty := .long) (a0 := (1, .inr (.inl (fun _ => 0)))) g_11 rfl hE.1 hP hD hS hA (fun _ => rfl) (by decide) (by decide) (Nat.le_of_ble_eq_true rfl) (Nat.le_of_ble_eq_true rfl) (Nat.le_of_ble_eq_true rfl) dL_law_17 (fun o cA H hK hP hD hS => ?_)
  have hcA : cA = cL := x_rowcls hK (hLg.1.2 0 (cL, .long) rfl).2 (fun C h => by cases h)
  subst hcA
  have hP : va_P E.1 vwCl ((W1 u ++ [(o, .inl (cA, 1, .inr (.inl (fun _ => 0))))]) ++ W2 w) H := va_P.swap (a := W1 u) (b := W2 w) (c := [(o, .inl (cA, 1, .inr (.inl (fun _ => 0))))]) hP
  have hD : va_D (fun q : Nat => s.heap.size ≤ q) ((W1 u ++ [(o, .inl (cA, 1, .inr (.inl (fun _ => 0))))]) ++ W2 w) := va_D.swap (a := W1 u) (b := W2 w) (c := [(o, .inl (cA, 1, .inr (.inl (fun _ => 0))))]) hD
  refine lv_astore_n (lv' := [(3, .ref o), (2, .ref h9), (1, .ref h), (0, .ref b)]) hx hb dL_law_19 rfl hl (by decide) rfl (fun ls hl => ?_)
  refine lv_iconst (v := nI 0) hx hb dL_law_20 (by decide +kernel) ?_
  refine lv_istore (lv' := [(4, .int (nI 0)), (3, .ref o), (2, .ref h9), (1, .ref h), (0, .ref b)]) hx hb dL_law_21 hl (by decide) rfl (fun ls hl => ?_)
  refine W.widen (k := 107) (n := 5966) (Nat.le_of_ble_eq_true rfl) (Nat.le_of_ble_eq_true rfl) ?_
  exact lc_loop hst hr hlk C1 hL (L + 1) 0 107 5966 (Nat.zero_le L) (by omega) (by omega) (by omega) H locs ls ⟨W1 u, W2 w, fun _ => 0, 0, hI u w, hP, hD, hS⟩ hl
