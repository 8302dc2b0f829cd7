/-! contracts over a larger world: the whole of the class' cells, the whole of the reference's -/
def xA (l : Launch) (y : MethodName) (ws : List Cond) (rm : Room) (E : XE) (Z : XZ) (W : va_W) (av : List Value) (v : Option Value) (W' : va_W) (mc ms : Nat) : Prop :=
  ∀ sz, Met l y ws rm (va_Pc av (xBW E Z sz W)) (xO (T := Unit) E (va_A W sz) (fun _ => v) (fun _ => W') ()) mc ms (va_A W sz)
theorem x_at {W : va_W} {is : List Nat} {w : va_W} (h : is.map (fun i => W[i]?) = w.map some) {k : Nat} {q : Nat × va_E} (hq : w[k]? = some q) : ∃ i, is[k]? = some i ∧ W[i]? = some q := by
  have h1 : (is.map (fun i => W[i]?))[k]? = some (some q) := by rw [h, List.getElem?_map, hq]; rfl
  rw [List.getElem?_map] at h1
  cases hi : is[k]? with
  | none => rw [hi] at h1; cases h1
  | some i => rw [hi] at h1; exact ⟨i, rfl, Option.some.inj h1⟩
theorem x_ta {W : va_W} {is : List Nat} {w : va_W} (h : is.map (fun i => W[i]?) = w.map some) {k i : Nat} (hk : is[k]? = some i) {q : Nat × va_E} (hq : W[i]? = some q) : w[k]? = some q := by
  have h1 : (is.map (fun i => W[i]?))[k]? = some (some q) := by rw [List.getElem?_map, hk]; show some (W[i]?) = _; rw [hq]
  rw [h, List.getElem?_map] at h1
  cases hw : w[k]? with
  | none => rw [hw] at h1; cases h1
  | some r => rw [hw] at h1; exact congrArg some (Option.some.inj (Option.some.inj h1))
theorem x_unP {D : va_G} {cl : List vw_C} {ws W' : va_W} {H : Heap} (is : List Nat) (hcov : ∀ i, i < W'.length → i ∈ is) (hs : is.map (fun i => W'[i]?) = ws.map some) (h : va_P D cl ws H) : va_P D cl W' H := by
  intro i q hq
  have hi : i < W'.length := (List.getElem?_eq_some_iff.mp hq).1
  obtain ⟨k, hk⟩ := List.mem_iff_getElem?.mp (hcov i hi)
  exact h k q (x_ta hs hk hq)
theorem x_unD {A : Nat → Prop} {ws W' : va_W} (is : List Nat) (hcov : ∀ i, i < W'.length → i ∈ is) (hs : is.map (fun i => W'[i]?) = ws.map some) (h : va_D A ws) : va_D A W' := by
  refine ⟨fun i j p q hi hj hpq => ?_, fun i q hi => ?_⟩
  · obtain ⟨k, hk⟩ := List.mem_iff_getElem?.mp (hcov i (List.getElem?_eq_some_iff.mp hi).1)
    obtain ⟨m, hm⟩ := List.mem_iff_getElem?.mp (hcov j (List.getElem?_eq_some_iff.mp hj).1)
    have e := h.1 k m p q (x_ta hs hk hi) (x_ta hs hm hj) hpq
    rw [e, hm] at hk
    exact (Option.some.inj hk).symm
  · obtain ⟨k, hk⟩ := List.mem_iff_getElem?.mp (hcov i (List.getElem?_eq_some_iff.mp hi).1)
    exact h.2 k q (x_ta hs hk hi)
theorem x_subA {W wc : va_W} {sz : Nat} {isC : List Nat} (hC : isC.map (fun i => W[i]?) = wc.map some) : ∀ q, va_A wc sz q → va_A W sz q := by
  intro q h
  rcases h with ⟨k, e, hk⟩ | h
  · obtain ⟨i, -, hi⟩ := x_at hC hk
    exact Or.inl ⟨i, e, hi⟩
  · exact Or.inr h
/-- cells put in the places of others: by a row of their numbers -/
def x_ov : va_W → List (Option Nat) → va_W → va_W
  | [], _, _ => []
  | w :: ws, [], _ => w :: ws
  | w :: ws, none :: ks, cs => w :: x_ov ws ks cs
  | w :: ws, some k :: ks, cs => ((cs[k]?).getD w) :: x_ov ws ks cs
theorem x_ov_len : ∀ (W : va_W) (ks : List (Option Nat)) (cs : va_W), (x_ov W ks cs).length = W.length
  | [], _, _ => by rw [x_ov]
  | _ :: _, [], _ => by rw [x_ov]
  | _ :: ws, none :: ks, cs => by rw [x_ov, List.length_cons, List.length_cons, x_ov_len ws ks cs]
  | _ :: ws, some _ :: ks, cs => by rw [x_ov, List.length_cons, List.length_cons, x_ov_len ws ks cs]
theorem x_ov_out : ∀ (W : va_W) (ks : List (Option Nat)) (cs : va_W) (i : Nat), (∀ k, ks[i]? ≠ some (some k)) → (x_ov W ks cs)[i]? = W[i]?
  | [], _, _, _, _ => by rw [x_ov]
  | _ :: _, [], _, _, _ => by rw [x_ov]
  | _ :: _, none :: _, _, 0, _ => by rw [x_ov]; rfl
  | _ :: _, some k :: _, _, 0, h => absurd rfl (h k)
  | _ :: ws, none :: ks, cs, i + 1, h => by rw [x_ov, List.getElem?_cons_succ, List.getElem?_cons_succ]; exact x_ov_out ws ks cs i (fun k => by have := h k; rwa [List.getElem?_cons_succ] at this)
  | _ :: ws, some _ :: ks, cs, i + 1, h => by rw [x_ov, List.getElem?_cons_succ, List.getElem?_cons_succ]; exact x_ov_out ws ks cs i (fun k => by have := h k; rwa [List.getElem?_cons_succ] at this)
theorem x_ov_in : ∀ (W : va_W) (ks : List (Option Nat)) (cs : va_W) (i k : Nat) (c : Nat × va_E), ks[i]? = some (some k) → i < W.length → cs[k]? = some c → (x_ov W ks cs)[i]? = some c
  | [], _, _, _, _, _, _, hi, _ => absurd hi (Nat.not_lt_zero _)
  | _ :: _, [], _, _, _, _, h, _, _ => by cases h
  | _ :: _, none :: _, _, 0, _, _, h, _, _ => by cases h
  | _ :: _, some k' :: _, cs, 0, k, c, h, _, hc => by
    have e : k' = k := by injection (Option.some.inj h)
    subst e
    rw [x_ov, hc]
    rfl
  | _ :: ws, none :: ks, cs, i + 1, k, c, h, hi, hc => by rw [x_ov, List.getElem?_cons_succ]; exact x_ov_in ws ks cs i k c h (Nat.lt_of_succ_lt_succ hi) hc
  | _ :: ws, some _ :: ks, cs, i + 1, k, c, h, hi, hc => by rw [x_ov, List.getElem?_cons_succ]; exact x_ov_in ws ks cs i k c h (Nat.lt_of_succ_lt_succ hi) hc
/-- the row of numbers fits the places -/
def x_okm (isC : List Nat) (ks : List (Option Nat)) : Bool := (List.range isC.length).all (fun k => decide ((isC[k]?.bind (fun i => ks[i]?)) = some (some k))) && (List.range ks.length).all (fun i => match ks[i]? with | some (some k) => decide (isC[k]? = some i) | _ => true)
theorem x_okm1 {isC : List Nat} {ks : List (Option Nat)} (h : x_okm isC ks = true) {k i : Nat} (hk : isC[k]? = some i) : ks[i]? = some (some k) := by
  unfold x_okm at h
  rw [Bool.and_eq_true] at h
  have h1 := List.all_eq_true.mp h.1 k (List.mem_range.mpr (List.getElem?_eq_some_iff.mp hk).1)
  have h2 := of_decide_eq_true h1
  rw [hk] at h2
  exact h2
theorem x_okm2 {isC : List Nat} {ks : List (Option Nat)} (h : x_okm isC ks = true) {i k : Nat} (hk : ks[i]? = some (some k)) : i ∈ isC := by
  unfold x_okm at h
  rw [Bool.and_eq_true] at h
  have h1 := List.all_eq_true.mp h.2 i (List.mem_range.mpr (List.getElem?_eq_some_iff.mp hk).1)
  rw [hk] at h1
  exact List.mem_of_getElem? (of_decide_eq_true h1)
theorem x_nd_of : ∀ l : List Nat, l.Nodup → va_nd l = true
  | [], _ => rfl
  | a :: l, h => by
    rw [List.nodup_cons] at h
    simp only [va_nd, Bool.and_eq_true, decide_eq_true_eq]
    exact ⟨h.1, x_nd_of l h.2⟩
section LF
variable {l : Launch} {y : MethodName} {ws : List Cond} {rm : Room} {E : XE} {Z : XZ} {wc W W' : va_W} {av : List Value} {mc ms : Nat}
theorem x_preW (isC : List Nat) (hnC : va_nd isC = true) (hC : isC.map (fun i => W[i]?) = wc.map some) {sz : Nat} {a : Array Value} {s : State} (h : va_Pc av (xBW E Z sz W) a s) : va_Pc av (xBW E Z sz wc) a s := by
  obtain ⟨h1, ⟨h2, h3, h4, h5⟩, h6⟩ := h
  obtain ⟨p1, p2⟩ := x_pick h3 h5 isC hnC hC
  exact ⟨h1, ⟨h2, p1, h4, p2⟩, h6.narrow (x_subA hC)⟩
theorem x_lift {T : Type} {W1 : T → va_W} {q : T} {rv : T → Option Value} (v : Option Value) (W' : va_W) (hM : xWZ l y ws rm E Z wc av rv W1 q mc ms) (isC isR : List Nat) (hnC : va_nd isC = true) (hnR : va_nd isR = true) (hdis : ∀ i ∈ isR, i ∉ isC) (hC : isC.map (fun i => W[i]?) = wc.map some) {n : Nat} (hl1 : W.length = n) (hl2 : W'.length = n) (hRl1 : ∀ i ∈ isR, i < n) (hcov1 : ∀ i, i < n → i ∈ isR ++ isC) (h1 : isR.map (fun i => W'[i]?) = isR.map (fun i => W[i]?)) (h2 : isC.map (fun i => W'[i]?) = (W1 q).map some) (hv : rv q = v) : xA l y ws rm E Z W av v W' mc ms := by
  intro sz
  have hRl : ∀ i ∈ isR, i < W.length := fun i hi => by rw [hl1]; exact hRl1 i hi
  have hcov : ∀ i, i < W'.length → i ∈ isR ++ isC := fun i hi => hcov1 i (by rw [← hl2]; exact hi)
  have hR : isR.map (fun i => W[i]?) = (isR.filterMap (fun i => W[i]?)).map some := by
    clear h1 hdis hnR hcov hRl1 hcov1
    induction isR with
    | nil => rfl
    | cons i is ih =>
      have hi := hRl i List.mem_cons_self
      rw [List.map_cons, List.filterMap_cons, List.getElem?_eq_getElem hi]
      exact congrArg (List.cons _) (ih (fun j hj => hRl j (List.mem_cons_of_mem _ hj)))
  have hs : (isR ++ isC).map (fun i => W'[i]?) = ((isR.filterMap (fun i => W[i]?)) ++ W1 q).map some := by
    rw [List.map_append, List.map_append, h1, hR, h2]
  have hsub := x_subA (sz := sz) hC
  refine MetFree.mono (hM sz) (fun a s h => x_preW isC hnC hC h) (fun _ _ _ _ _ h => h) (fun a s o t hp hq => ?_)
  obtain ⟨hA, ⟨hz, hP, hE, hD⟩, hZ⟩ := hp
  obtain ⟨⟨o1, o2, o3, o4⟩, L, hL, hf⟩ := hq
  have hk : ∀ q : Nat, q < s.heap.size → ¬ va_A wc s.heap.size q → t.heap[q]? = s.heap[q]? := fun q x y => o4.2 q x (by rw [hz] at y; exact y)
  have hF : ∀ q, va_A wc s.heap.size q → va_A W sz q := by rw [hz]; exact hsub
  have hD1 : va_D (va_A wc s.heap.size) (W1 q) := by rw [hz]; exact o3
  obtain ⟨j1, j2⟩ := va_join hP (A0 := va_A W sz) hD.self isC isR hC hR hnR hdis hk hF o2 hD1
  refine ⟨⟨by rw [o1, hv], x_unP _ hcov hs j1, x_unD _ hcov hs j2, o4.1, fun q x y => o4.2 q x (fun z => y (hsub q z))⟩, L, hL, fun z hz => hsub _ (hf z hz)⟩
theorem x_liftp {T : Type} {W1 : T → va_W} {q0 q : T} (hq : q0 = q) {rv : T → Option Value} (v : Option Value) (W' : va_W) (hM : xWZ l y ws rm E Z wc av rv W1 q0 mc ms) (isC : List Nat) (hnC : va_nd isC = true) (hC : isC.map (fun i => W[i]?) = wc.map some) (ks : List (Option Nat)) (hks : x_okm isC ks = true) (hlen : isC.length = (W1 q).length) (hput : x_ov W ks (W1 q) = W') (hv : rv q = v) : xA l y ws rm E Z W av v W' mc ms := by
  subst hq
  have hCl : ∀ i ∈ isC, i < W.length := fun i hi => by
    obtain ⟨k, hk⟩ := List.mem_iff_getElem?.mp hi
    have h1 : (isC.map (fun i => W[i]?))[k]? = some (W[i]?) := by rw [List.getElem?_map, hk]; rfl
    rw [hC, List.getElem?_map] at h1
    cases hw : wc[k]? with
    | none => rw [hw] at h1; cases h1
    | some r => rw [hw] at h1; exact (List.getElem?_eq_some_iff.mp (Option.some.inj h1).symm).1
  refine x_lift v W' hM isC ((List.range W.length).filter (fun i => decide (i ∉ isC))) hnC (x_nd_of _ (List.Pairwise.filter _ List.nodup_range)) (fun i hi => of_decide_eq_true (List.mem_filter.mp hi).2) hC (n := W.length) rfl (by rw [← hput, x_ov_len]) (fun i hi => List.mem_range.mp (List.mem_filter.mp hi).1) (fun i hi => ?_) ?_ ?_ hv
  · by_cases c : i ∈ isC
    · exact List.mem_append_right _ c
    · exact List.mem_append_left _ (List.mem_filter.mpr ⟨List.mem_range.mpr hi, decide_eq_true c⟩)
  · refine List.map_congr_left (fun i hi => ?_)
    rw [← hput]
    exact x_ov_out _ _ _ _ (fun k hk => of_decide_eq_true (List.mem_filter.mp hi).2 (x_okm2 hks hk))
  · rw [← hput]
    refine List.ext_getElem? (fun k => ?_)
    rw [List.getElem?_map, List.getElem?_map]
    cases hk : isC[k]? with
    | none =>
      have h1 : (W1 q0)[k]? = none := by
        rw [List.getElem?_eq_none_iff, ← hlen]
        exact List.getElem?_eq_none_iff.mp hk
      rw [h1]
      rfl
    | some i =>
      have h1 : k < (W1 q0).length := by
        rw [← hlen]
        exact (List.getElem?_eq_some_iff.mp hk).1
      have h2 : (W1 q0)[k]? = some (W1 q0)[k] := List.getElem?_eq_getElem h1
      rw [h2]
      exact congrArg some (x_ov_in W ks (W1 q0) i k _ (x_okm1 hks hk) (hCl i (List.mem_of_getElem? hk)) h2)
theorem xW.toZ {T : Type} {rv : T → Option Value} {W1 : T → va_W} {q : T} (h : xW l y ws rm E wc av rv W1 q mc ms) : xWZ l y ws rm E Z wc av rv W1 q mc ms := fun sz => MetFree.mono (h sz) (fun _ _ x => ⟨x.1, x.2.1⟩) (fun _ _ _ _ _ x => x) (fun _ _ _ _ _ x => x)
theorem x_liftR {v : Value} (hM : xR l y ws rm E wc av v) (isC : List Nat) (hnC : va_nd isC = true) (hC : isC.map (fun i => W[i]?) = wc.map some) : xA l y ws rm E Z W av (some v) W 0 0 := by
  intro sz
  have hM0 : Met l y ws rm (va_Pc av (xB0 E wc)) (xQ v) 0 0 (fun _ => False) := hM
  refine MetFree.mono hM0 (fun a s h => ?_) (fun _ _ _ _ _ h => h) (fun a s o t hp hq => ?_)
  · obtain ⟨h1, ⟨h2, h3, h4, h5⟩, h6⟩ := h
    obtain ⟨p1, p2⟩ := x_pick h3 h5 isC hnC hC
    exact ⟨h1, p1, h4, p2⟩
  · obtain ⟨hA, ⟨hz, hP, hE, hD⟩, hZ⟩ := hp
    obtain ⟨⟨o1, o2⟩, L, hL, hf⟩ := hq
    exact ⟨⟨o1, by rw [o2]; exact hP, hD.self, by rw [o2]; exact Nat.le_refl _, fun q _ _ => by rw [o2]⟩, L, hL, fun z hz => (hf z hz).elim⟩
theorem x_liftX {cls : String} (hM : xX l y ws rm E wc av cls) (isC : List Nat) (hnC : va_nd isC = true) (hC : isC.map (fun i => W[i]?) = wc.map some) : xX l y ws rm E W av cls := by
  refine MetFree.mono hM (fun a s h => ?_) (fun _ _ _ _ _ h => h) (fun a s o t hp hq => hq)
  obtain ⟨h1, ⟨h2, h3, h4⟩, h5⟩ := h
  obtain ⟨p1, p2⟩ := x_pick h2 h4 isC hnC hC
  exact ⟨h1, ⟨p1, h3, p2⟩, h5⟩
end LF
/-- the rows of the history: their places -/
def xHrow (u : Nat → Nat) : Nat → Option Nat := (va_up (va_up (va_up (va_up (va_up (va_up (va_up (va_up (va_up (va_up (fun _ => none) (Int32.toNatClampNeg 0) (some (u 10))) (Int32.toNatClampNeg 1) (some (u 16))) (Int32.toNatClampNeg 2) (some (u 22))) (Int32.toNatClampNeg 3) (some (u 28))) (Int32.toNatClampNeg 4) (some (u 34))) (Int32.toNatClampNeg 5) (some (u 40))) (Int32.toNatClampNeg 6) (some (u 46))) (Int32.toNatClampNeg 7) (some (u 52))) (Int32.toNatClampNeg 8) (some (u 58))) (Int32.toNatClampNeg 9) (some (u 64)))
/-- the class' cells -/
def xW8s (E : XE) (h : Nat) (u : Nat → Nat) (errorAt used en met start rnext kind value : Int32) (buf nums num : Nat → Int32) (t0 t1 t2 t3 t4 t5 t6 t7 t8 t9 t10 t11 t12 t13 : pbSit) (tx tv ta1 ta2 tw1 tw2 next size f0 f1 : Int32) : va_W := [
  (h, .inr (8, [.ref (u 82), .ref (u 0), .ref (u 84), .ref (u 3), .ref (u 90), .ref (u 91), .ref (u 92), .ref (u 93), .int errorAt])),
  (u 0, .inr (3, [.ref (u 1), .ref (u 2), .int used, .int en, .int met, .int start, .int rnext, .int kind, .int value])),
  (u 1, .inl (E.2.1, 500, .inl buf)),
  (u 2, .inl (E.2.1, 24, .inl nums)),
  (u 3, .inr (6, [.ref (u 4), .ref (u 5), .ref (u 8), .int (t11.1.2.2.2.2.2.2.1), .int (t11.1.2.2.2.2.2.2.2.1), .int (t11.1.2.2.2.2.2.2.2.2.1), .int (t11.2.1), .int (t11.1.2.2.2.2.2.2.2.2.2.1), .int (t11.1.2.2.2.2.2.2.2.2.2.2.1), .int (t11.2.2.1), .int (t11.1.2.2.2.2.2.2.2.2.2.2.2.1)])),
  (u 4, .inr (1, [.int (t11.1.1), .int (t11.1.2.1), .int (t11.1.2.2.1), .int (t11.1.2.2.2.1), .int (t11.1.2.2.2.2.1), .int (t11.1.2.2.2.2.2.1)])),
  (u 5, .inr (5, [.ref (u 6), .ref (u 7)])),
  (u 6, .inl (E.2.1, 49, .inl (t11.2.2.2.1))),
  (u 7, .inl (E.2.1, 49, .inl (t11.2.2.2.2))),
  (u 8, .inr (4, [.long (t11.1.2.2.2.2.2.2.2.2.2.2.2.2.1), .long (t11.1.2.2.2.2.2.2.2.2.2.2.2.2.2.1), .long (t11.1.2.2.2.2.2.2.2.2.2.2.2.2.2.2.1), .long (t11.1.2.2.2.2.2.2.2.2.2.2.2.2.2.2.2)])),
  (u 9, .inl (E.2.2.2.2, 10, .inr (.inr (.inr (.inr (xHrow u)))))),
  (u 10, .inr (6, [.ref (u 11), .ref (u 12), .ref (u 15), .int (t0.1.2.2.2.2.2.2.1), .int (t0.1.2.2.2.2.2.2.2.1), .int (t0.1.2.2.2.2.2.2.2.2.1), .int (t0.2.1), .int (t0.1.2.2.2.2.2.2.2.2.2.1), .int (t0.1.2.2.2.2.2.2.2.2.2.2.1), .int (t0.2.2.1), .int (t0.1.2.2.2.2.2.2.2.2.2.2.2.1)])),
  (u 11, .inr (1, [.int (t0.1.1), .int (t0.1.2.1), .int (t0.1.2.2.1), .int (t0.1.2.2.2.1), .int (t0.1.2.2.2.2.1), .int (t0.1.2.2.2.2.2.1)])),
  (u 12, .inr (5, [.ref (u 13), .ref (u 14)])),
  (u 13, .inl (E.2.1, 49, .inl (t0.2.2.2.1))),
  (u 14, .inl (E.2.1, 49, .inl (t0.2.2.2.2))),
  (u 15, .inr (4, [.long (t0.1.2.2.2.2.2.2.2.2.2.2.2.2.1), .long (t0.1.2.2.2.2.2.2.2.2.2.2.2.2.2.1), .long (t0.1.2.2.2.2.2.2.2.2.2.2.2.2.2.2.1), .long (t0.1.2.2.2.2.2.2.2.2.2.2.2.2.2.2.2)])),
  (u 16, .inr (6, [.ref (u 17), .ref (u 18), .ref (u 21), .int (t1.1.2.2.2.2.2.2.1), .int (t1.1.2.2.2.2.2.2.2.1), .int (t1.1.2.2.2.2.2.2.2.2.1), .int (t1.2.1), .int (t1.1.2.2.2.2.2.2.2.2.2.1), .int (t1.1.2.2.2.2.2.2.2.2.2.2.1), .int (t1.2.2.1), .int (t1.1.2.2.2.2.2.2.2.2.2.2.2.1)])),
  (u 17, .inr (1, [.int (t1.1.1), .int (t1.1.2.1), .int (t1.1.2.2.1), .int (t1.1.2.2.2.1), .int (t1.1.2.2.2.2.1), .int (t1.1.2.2.2.2.2.1)])),
  (u 18, .inr (5, [.ref (u 19), .ref (u 20)])),
  (u 19, .inl (E.2.1, 49, .inl (t1.2.2.2.1))),
  (u 20, .inl (E.2.1, 49, .inl (t1.2.2.2.2))),
  (u 21, .inr (4, [.long (t1.1.2.2.2.2.2.2.2.2.2.2.2.2.1), .long (t1.1.2.2.2.2.2.2.2.2.2.2.2.2.2.1), .long (t1.1.2.2.2.2.2.2.2.2.2.2.2.2.2.2.1), .long (t1.1.2.2.2.2.2.2.2.2.2.2.2.2.2.2.2)])),
  (u 22, .inr (6, [.ref (u 23), .ref (u 24), .ref (u 27), .int (t2.1.2.2.2.2.2.2.1), .int (t2.1.2.2.2.2.2.2.2.1), .int (t2.1.2.2.2.2.2.2.2.2.1), .int (t2.2.1), .int (t2.1.2.2.2.2.2.2.2.2.2.1), .int (t2.1.2.2.2.2.2.2.2.2.2.2.1), .int (t2.2.2.1), .int (t2.1.2.2.2.2.2.2.2.2.2.2.2.1)])),
  (u 23, .inr (1, [.int (t2.1.1), .int (t2.1.2.1), .int (t2.1.2.2.1), .int (t2.1.2.2.2.1), .int (t2.1.2.2.2.2.1), .int (t2.1.2.2.2.2.2.1)])),
  (u 24, .inr (5, [.ref (u 25), .ref (u 26)])),
  (u 25, .inl (E.2.1, 49, .inl (t2.2.2.2.1))),
  (u 26, .inl (E.2.1, 49, .inl (t2.2.2.2.2))),
  (u 27, .inr (4, [.long (t2.1.2.2.2.2.2.2.2.2.2.2.2.2.1), .long (t2.1.2.2.2.2.2.2.2.2.2.2.2.2.2.1), .long (t2.1.2.2.2.2.2.2.2.2.2.2.2.2.2.2.1), .long (t2.1.2.2.2.2.2.2.2.2.2.2.2.2.2.2.2)])),
  (u 28, .inr (6, [.ref (u 29), .ref (u 30), .ref (u 33), .int (t3.1.2.2.2.2.2.2.1), .int (t3.1.2.2.2.2.2.2.2.1), .int (t3.1.2.2.2.2.2.2.2.2.1), .int (t3.2.1), .int (t3.1.2.2.2.2.2.2.2.2.2.1), .int (t3.1.2.2.2.2.2.2.2.2.2.2.1), .int (t3.2.2.1), .int (t3.1.2.2.2.2.2.2.2.2.2.2.2.1)])),
  (u 29, .inr (1, [.int (t3.1.1), .int (t3.1.2.1), .int (t3.1.2.2.1), .int (t3.1.2.2.2.1), .int (t3.1.2.2.2.2.1), .int (t3.1.2.2.2.2.2.1)])),
  (u 30, .inr (5, [.ref (u 31), .ref (u 32)])),
  (u 31, .inl (E.2.1, 49, .inl (t3.2.2.2.1))),
  (u 32, .inl (E.2.1, 49, .inl (t3.2.2.2.2))),
  (u 33, .inr (4, [.long (t3.1.2.2.2.2.2.2.2.2.2.2.2.2.1), .long (t3.1.2.2.2.2.2.2.2.2.2.2.2.2.2.1), .long (t3.1.2.2.2.2.2.2.2.2.2.2.2.2.2.2.1), .long (t3.1.2.2.2.2.2.2.2.2.2.2.2.2.2.2.2)])),
  (u 34, .inr (6, [.ref (u 35), .ref (u 36), .ref (u 39), .int (t4.1.2.2.2.2.2.2.1), .int (t4.1.2.2.2.2.2.2.2.1), .int (t4.1.2.2.2.2.2.2.2.2.1), .int (t4.2.1), .int (t4.1.2.2.2.2.2.2.2.2.2.1), .int (t4.1.2.2.2.2.2.2.2.2.2.2.1), .int (t4.2.2.1), .int (t4.1.2.2.2.2.2.2.2.2.2.2.2.1)])),
  (u 35, .inr (1, [.int (t4.1.1), .int (t4.1.2.1), .int (t4.1.2.2.1), .int (t4.1.2.2.2.1), .int (t4.1.2.2.2.2.1), .int (t4.1.2.2.2.2.2.1)])),
  (u 36, .inr (5, [.ref (u 37), .ref (u 38)])),
  (u 37, .inl (E.2.1, 49, .inl (t4.2.2.2.1))),
  (u 38, .inl (E.2.1, 49, .inl (t4.2.2.2.2))),
  (u 39, .inr (4, [.long (t4.1.2.2.2.2.2.2.2.2.2.2.2.2.1), .long (t4.1.2.2.2.2.2.2.2.2.2.2.2.2.2.1), .long (t4.1.2.2.2.2.2.2.2.2.2.2.2.2.2.2.1), .long (t4.1.2.2.2.2.2.2.2.2.2.2.2.2.2.2.2)])),
  (u 40, .inr (6, [.ref (u 41), .ref (u 42), .ref (u 45), .int (t5.1.2.2.2.2.2.2.1), .int (t5.1.2.2.2.2.2.2.2.1), .int (t5.1.2.2.2.2.2.2.2.2.1), .int (t5.2.1), .int (t5.1.2.2.2.2.2.2.2.2.2.1), .int (t5.1.2.2.2.2.2.2.2.2.2.2.1), .int (t5.2.2.1), .int (t5.1.2.2.2.2.2.2.2.2.2.2.2.1)])),
  (u 41, .inr (1, [.int (t5.1.1), .int (t5.1.2.1), .int (t5.1.2.2.1), .int (t5.1.2.2.2.1), .int (t5.1.2.2.2.2.1), .int (t5.1.2.2.2.2.2.1)])),
  (u 42, .inr (5, [.ref (u 43), .ref (u 44)])),
  (u 43, .inl (E.2.1, 49, .inl (t5.2.2.2.1))),
  (u 44, .inl (E.2.1, 49, .inl (t5.2.2.2.2))),
  (u 45, .inr (4, [.long (t5.1.2.2.2.2.2.2.2.2.2.2.2.2.1), .long (t5.1.2.2.2.2.2.2.2.2.2.2.2.2.2.1), .long (t5.1.2.2.2.2.2.2.2.2.2.2.2.2.2.2.1), .long (t5.1.2.2.2.2.2.2.2.2.2.2.2.2.2.2.2)])),
  (u 46, .inr (6, [.ref (u 47), .ref (u 48), .ref (u 51), .int (t6.1.2.2.2.2.2.2.1), .int (t6.1.2.2.2.2.2.2.2.1), .int (t6.1.2.2.2.2.2.2.2.2.1), .int (t6.2.1), .int (t6.1.2.2.2.2.2.2.2.2.2.1), .int (t6.1.2.2.2.2.2.2.2.2.2.2.1), .int (t6.2.2.1), .int (t6.1.2.2.2.2.2.2.2.2.2.2.2.1)])),
  (u 47, .inr (1, [.int (t6.1.1), .int (t6.1.2.1), .int (t6.1.2.2.1), .int (t6.1.2.2.2.1), .int (t6.1.2.2.2.2.1), .int (t6.1.2.2.2.2.2.1)])),
  (u 48, .inr (5, [.ref (u 49), .ref (u 50)])),
  (u 49, .inl (E.2.1, 49, .inl (t6.2.2.2.1))),
  (u 50, .inl (E.2.1, 49, .inl (t6.2.2.2.2))),
  (u 51, .inr (4, [.long (t6.1.2.2.2.2.2.2.2.2.2.2.2.2.1), .long (t6.1.2.2.2.2.2.2.2.2.2.2.2.2.2.1), .long (t6.1.2.2.2.2.2.2.2.2.2.2.2.2.2.2.1), .long (t6.1.2.2.2.2.2.2.2.2.2.2.2.2.2.2.2)])),
  (u 52, .inr (6, [.ref (u 53), .ref (u 54), .ref (u 57), .int (t7.1.2.2.2.2.2.2.1), .int (t7.1.2.2.2.2.2.2.2.1), .int (t7.1.2.2.2.2.2.2.2.2.1), .int (t7.2.1), .int (t7.1.2.2.2.2.2.2.2.2.2.1), .int (t7.1.2.2.2.2.2.2.2.2.2.2.1), .int (t7.2.2.1), .int (t7.1.2.2.2.2.2.2.2.2.2.2.2.1)])),
  (u 53, .inr (1, [.int (t7.1.1), .int (t7.1.2.1), .int (t7.1.2.2.1), .int (t7.1.2.2.2.1), .int (t7.1.2.2.2.2.1), .int (t7.1.2.2.2.2.2.1)])),
  (u 54, .inr (5, [.ref (u 55), .ref (u 56)])),
  (u 55, .inl (E.2.1, 49, .inl (t7.2.2.2.1))),
  (u 56, .inl (E.2.1, 49, .inl (t7.2.2.2.2))),
  (u 57, .inr (4, [.long (t7.1.2.2.2.2.2.2.2.2.2.2.2.2.1), .long (t7.1.2.2.2.2.2.2.2.2.2.2.2.2.2.1), .long (t7.1.2.2.2.2.2.2.2.2.2.2.2.2.2.2.1), .long (t7.1.2.2.2.2.2.2.2.2.2.2.2.2.2.2.2)])),
  (u 58, .inr (6, [.ref (u 59), .ref (u 60), .ref (u 63), .int (t8.1.2.2.2.2.2.2.1), .int (t8.1.2.2.2.2.2.2.2.1), .int (t8.1.2.2.2.2.2.2.2.2.1), .int (t8.2.1), .int (t8.1.2.2.2.2.2.2.2.2.2.1), .int (t8.1.2.2.2.2.2.2.2.2.2.2.1), .int (t8.2.2.1), .int (t8.1.2.2.2.2.2.2.2.2.2.2.2.1)])),
  (u 59, .inr (1, [.int (t8.1.1), .int (t8.1.2.1), .int (t8.1.2.2.1), .int (t8.1.2.2.2.1), .int (t8.1.2.2.2.2.1), .int (t8.1.2.2.2.2.2.1)])),
  (u 60, .inr (5, [.ref (u 61), .ref (u 62)])),
  (u 61, .inl (E.2.1, 49, .inl (t8.2.2.2.1))),
  (u 62, .inl (E.2.1, 49, .inl (t8.2.2.2.2))),
  (u 63, .inr (4, [.long (t8.1.2.2.2.2.2.2.2.2.2.2.2.2.1), .long (t8.1.2.2.2.2.2.2.2.2.2.2.2.2.2.1), .long (t8.1.2.2.2.2.2.2.2.2.2.2.2.2.2.2.1), .long (t8.1.2.2.2.2.2.2.2.2.2.2.2.2.2.2.2)])),
  (u 64, .inr (6, [.ref (u 65), .ref (u 66), .ref (u 69), .int (t9.1.2.2.2.2.2.2.1), .int (t9.1.2.2.2.2.2.2.2.1), .int (t9.1.2.2.2.2.2.2.2.2.1), .int (t9.2.1), .int (t9.1.2.2.2.2.2.2.2.2.2.1), .int (t9.1.2.2.2.2.2.2.2.2.2.2.1), .int (t9.2.2.1), .int (t9.1.2.2.2.2.2.2.2.2.2.2.2.1)])),
  (u 65, .inr (1, [.int (t9.1.1), .int (t9.1.2.1), .int (t9.1.2.2.1), .int (t9.1.2.2.2.1), .int (t9.1.2.2.2.2.1), .int (t9.1.2.2.2.2.2.1)])),
  (u 66, .inr (5, [.ref (u 67), .ref (u 68)])),
  (u 67, .inl (E.2.1, 49, .inl (t9.2.2.2.1))),
  (u 68, .inl (E.2.1, 49, .inl (t9.2.2.2.2))),
  (u 69, .inr (4, [.long (t9.1.2.2.2.2.2.2.2.2.2.2.2.2.1), .long (t9.1.2.2.2.2.2.2.2.2.2.2.2.2.2.1), .long (t9.1.2.2.2.2.2.2.2.2.2.2.2.2.2.2.1), .long (t9.1.2.2.2.2.2.2.2.2.2.2.2.2.2.2.2)])),
  (u 70, .inr (6, [.ref (u 71), .ref (u 72), .ref (u 75), .int (t12.1.2.2.2.2.2.2.1), .int (t12.1.2.2.2.2.2.2.2.1), .int (t12.1.2.2.2.2.2.2.2.2.1), .int (t12.2.1), .int (t12.1.2.2.2.2.2.2.2.2.2.1), .int (t12.1.2.2.2.2.2.2.2.2.2.2.1), .int (t12.2.2.1), .int (t12.1.2.2.2.2.2.2.2.2.2.2.2.1)])),
  (u 71, .inr (1, [.int (t12.1.1), .int (t12.1.2.1), .int (t12.1.2.2.1), .int (t12.1.2.2.2.1), .int (t12.1.2.2.2.2.1), .int (t12.1.2.2.2.2.2.1)])),
  (u 72, .inr (5, [.ref (u 73), .ref (u 74)])),
  (u 73, .inl (E.2.1, 49, .inl (t12.2.2.2.1))),
  (u 74, .inl (E.2.1, 49, .inl (t12.2.2.2.2))),
  (u 75, .inr (4, [.long (t12.1.2.2.2.2.2.2.2.2.2.2.2.2.1), .long (t12.1.2.2.2.2.2.2.2.2.2.2.2.2.2.1), .long (t12.1.2.2.2.2.2.2.2.2.2.2.2.2.2.2.1), .long (t12.1.2.2.2.2.2.2.2.2.2.2.2.2.2.2.2)])),
  (u 76, .inr (6, [.ref (u 77), .ref (u 78), .ref (u 81), .int (t13.1.2.2.2.2.2.2.1), .int (t13.1.2.2.2.2.2.2.2.1), .int (t13.1.2.2.2.2.2.2.2.2.1), .int (t13.2.1), .int (t13.1.2.2.2.2.2.2.2.2.2.1), .int (t13.1.2.2.2.2.2.2.2.2.2.2.1), .int (t13.2.2.1), .int (t13.1.2.2.2.2.2.2.2.2.2.2.2.1)])),
  (u 77, .inr (1, [.int (t13.1.1), .int (t13.1.2.1), .int (t13.1.2.2.1), .int (t13.1.2.2.2.1), .int (t13.1.2.2.2.2.1), .int (t13.1.2.2.2.2.2.1)])),
  (u 78, .inr (5, [.ref (u 79), .ref (u 80)])),
  (u 79, .inl (E.2.1, 49, .inl (t13.2.2.2.1))),
  (u 80, .inl (E.2.1, 49, .inl (t13.2.2.2.2))),
  (u 81, .inr (4, [.long (t13.1.2.2.2.2.2.2.2.2.2.2.2.2.1), .long (t13.1.2.2.2.2.2.2.2.2.2.2.2.2.2.1), .long (t13.1.2.2.2.2.2.2.2.2.2.2.2.2.2.2.1), .long (t13.1.2.2.2.2.2.2.2.2.2.2.2.2.2.2.2)])),
  (u 82, .inr (2, [.ref (u 83)])),
  (u 83, .inl (E.2.1, 24, .inl num)),
  (u 84, .inr (6, [.ref (u 85), .ref (u 86), .ref (u 89), .int (t10.1.2.2.2.2.2.2.1), .int (t10.1.2.2.2.2.2.2.2.1), .int (t10.1.2.2.2.2.2.2.2.2.1), .int (t10.2.1), .int (t10.1.2.2.2.2.2.2.2.2.2.1), .int (t10.1.2.2.2.2.2.2.2.2.2.2.1), .int (t10.2.2.1), .int (t10.1.2.2.2.2.2.2.2.2.2.2.2.1)])),
  (u 85, .inr (1, [.int (t10.1.1), .int (t10.1.2.1), .int (t10.1.2.2.1), .int (t10.1.2.2.2.1), .int (t10.1.2.2.2.2.1), .int (t10.1.2.2.2.2.2.1)])),
  (u 86, .inr (5, [.ref (u 87), .ref (u 88)])),
  (u 87, .inl (E.2.1, 49, .inl (t10.2.2.2.1))),
  (u 88, .inl (E.2.1, 49, .inl (t10.2.2.2.2))),
  (u 89, .inr (4, [.long (t10.1.2.2.2.2.2.2.2.2.2.2.2.2.1), .long (t10.1.2.2.2.2.2.2.2.2.2.2.2.2.2.1), .long (t10.1.2.2.2.2.2.2.2.2.2.2.2.2.2.2.1), .long (t10.1.2.2.2.2.2.2.2.2.2.2.2.2.2.2.2)])),
  (u 90, .inr (1, [.int tx, .int tv, .int ta1, .int ta2, .int tw1, .int tw2])),
  (u 91, .inr (0, [.ref (u 9), .int next, .int size])),
  (u 92, .inr (7, [.ref (u 70), .int f0])),
  (u 93, .inr (7, [.ref (u 76), .int f1]))]
abbrev xW8 (E : XE) (h : Nat) (u : Nat → Nat) (errorAt used en met start rnext kind value : Int32) (buf nums num : Nat → Int32) (sits : Nat → pbSit) (tx tv ta1 ta2 tw1 tw2 next size f0 f1 : Int32) : va_W := xW8s E h u errorAt used en met start rnext kind value buf nums num (sits 0) (sits 1) (sits 2) (sits 3) (sits 4) (sits 5) (sits 6) (sits 7) (sits 8) (sits 9) (sits 10) (sits 11) (sits 12) (sits 13) tx tv ta1 ta2 tw1 tw2 next size f0 f1
/-- the reference's cells -/
def xW9 (E : XE) (h9 : Nat) (w : Nat → Nat) (thrown length textSize start next token value error errorAt seen triedWith undos : Int32) (text rs fs tri was und slo now told sav : Nat → Int32) : va_W := [
  (h9, .inr (9, [.int thrown, .ref (w 7), .ref (w 8), .ref (w 0), .int length, .int textSize, .int start, .int next, .int token, .int value, .int error, .int errorAt, .int seen, .int triedWith, .ref (w 1), .ref (w 2), .ref (w 3), .ref (w 4), .int undos, .ref (w 5), .ref (w 6), .ref (w 9)])),
  (w 0, .inl (E.2.2.1, 500, .inl text)),
  (w 1, .inl (E.2.1, 49, .inl rs)),
  (w 2, .inl (E.2.1, 49, .inl fs)),
  (w 3, .inl (E.2.1, 14, .inl tri)),
  (w 4, .inl (E.2.1, 214, .inl was)),
  (w 5, .inl (E.2.1, 2140, .inl und)),
  (w 6, .inl (E.2.1, 428, .inl slo)),
  (w 7, .inl (E.2.1, 214, .inl now)),
  (w 8, .inl (E.2.1, 48, .inl told)),
  (w 9, .inl (E.2.2.2.1, 2, .inl sav))]
