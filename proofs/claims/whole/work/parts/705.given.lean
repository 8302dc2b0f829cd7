/-! what the start gives: the class's numbers and words, out of the tables and the premises -/
abbrev st_FL : List Cond := flatC (Jvm.Cond.and given_1 narrow_1)
def st_w (i : Nat) : Nat := match xWords[i]? with
  | some q => q.1
  | none => 0
def st_wM (i : Nat) : Nat := match xWordsM[i]? with
  | some q => q.1
  | none => 0
abbrev st_T (i : Nat) : Term := .string RX8 (st_w i)
abbrev st_V (i : Nat) : Term := .field (st_T i) "java/lang/String" "value" "[B"
theorem st_usual : ∀ j, j < 24 → Cond.eq (.elem (.static RX8 "USUAL" "[I") (.int (Int32.ofNat j))) (.int (xUsual j)) ∈ st_FL := by decide +kernel
theorem st_least : ∀ j, j < 24 → Cond.eq (.elem (.static RX8 "LEAST" "[I") (.int (Int32.ofNat j))) (.int (xLeast j)) ∈ st_FL := by decide +kernel
theorem st_most : ∀ j, j < 24 → Cond.eq (.elem (.static RX8 "MOST" "[I") (.int (Int32.ofNat j))) (.int (xMost j)) ∈ st_FL := by decide +kernel
theorem st_first : ∀ j, j < 10 → Cond.eq (.elem (.static RX8 "FIRST_NUMBER" "[I") (.int (Int32.ofNat j))) (.int (xFirst j)) ∈ st_FL := by decide +kernel
theorem st_ex : ∀ i, i < 10 → Cond.exactly (st_T i) "java/lang/String" ∈ st_FL := by decide +kernel
theorem st_co : ∀ i, i < 10 → Cond.eq (.field (st_T i) "java/lang/String" "coder" "B") (.int 0) ∈ st_FL := by decide +kernel
theorem st_ar : ∀ i, i < 10 → Cond.arrayOf (st_V i) .byte ∈ st_FL := by decide +kernel
theorem st_le : ∀ i, i < 10 → Cond.eq (.length (st_V i)) (.int (Int32.ofNat (xLen.getD i 0))) ∈ st_FL := by decide +kernel
theorem st_el : ∀ i, i < 10 → ∀ j, j < xLen.getD i 0 → Cond.eq (.elem (st_V i) (.int (Int32.ofNat j))) (.int ((xByt.getD i []).getD j 0)) ∈ st_FL := by decide +kernel
theorem st_lt : ∀ i, i < 10 → xLen.getD i 0 < 2 ^ 31 := by decide +kernel
theorem st_ref : ∀ q ∈ xWords, Cond.stringRef RX8 q.1 q.2.1 ∈ lw_tbl := by decide +kernel
theorem st_refM : ∀ q ∈ xWordsM, Cond.stringRef RX9 q.1 q.2 ∈ lw_tbl := by decide +kernel
theorem st_eqM : ∀ i, i < 9 → Cond.eq (st_T i) (.string RX9 (st_wM i)) ∈ st_FL := by decide +kernel
theorem st_dist : ∀ i, i < 10 → ∀ j, j < 10 → xLen.getD i 0 = xLen.getD j 0 → (∀ k, k < xLen.getD i 0 → (xByt.getD i []).getD k 0 = (xByt.getD j []).getD k 0) → i = j := by decide +kernel
theorem st_txE : ∀ r ∈ xTexts, Cond.exactly (.string RX8 r.1) "java/lang/String" ∈ st_FL := by decide +kernel
theorem st_txR : ∀ r ∈ xTexts, Cond.stringRef RX8 r.1 r.2 ∈ lw_tbl := by decide +kernel
theorem st_cast : ∀ w ∈ xCast, w ∈ lw_tbl := by decide +kernel
theorem st_nest : ∀ w ∈ xNest, w ∈ lw_tbl := by decide +kernel
theorem st_nestT : ∀ w ∈ xNest, w.onTables = true := by decide +kernel
theorem st_arr {args : Array Value} {s : State} {ty : FieldType} (hty : ∀ C, ty ≠ .object C) (h : (Cond.arrayClass ty).before args s = true) : ∃ cA : ClassId, ArrOfT s cA ty ∧ va_RA s cA ty := by
  obtain ⟨cA, kA, comp, h1, h2, h3⟩ := Cond.arrayClass_spec (args := args) (first := s) (o := none) (s := s) (idx := []) (type := ty) h
  refine ⟨cA, fun N z => ⟨(fun k h => by cases h), kA, h2, comp, h3⟩, ?_⟩
  cases ty with
  | object C => exact absurd rfl (hty C)
  | _ => exact h1
theorem st_arO {args : Array Value} {s : State} {C : String} (h : (Cond.arrayOver (.object C)).before args s = true) : ∃ cA : ClassId, ArrOfT s cA (.object C) ∧ va_RA s cA (.object C) := by
  obtain ⟨comp, cA, kA, h1, h2, h3, h4, h5⟩ := Cond.arrayOver_spec (args := args) (first := s) (o := none) (s := s) (idx := []) (n := C) h
  exact ⟨cA, fun N z => ⟨(fun k h => by cases h), kA, h3, comp, h4⟩, kA, comp, h3, h4, h1, h5⟩
section STG
variable {s : State} {b : Nat}
theorem st_SA {n : String} {N : Nat} {f : Nat → Int32} {A : Nat → Prop} (hN : N < 2 ^ 31) (hts : ∀ w ∈ lw_tbl, w.before #[Value.ref b] s = true) (hs : ∀ w ∈ st_FL, w.before #[Value.ref b] s = true) (h1 : Cond.laysStatic RX8 n "[I" ∈ lw_tbl) (h2 : Cond.arrayOf (.static RX8 n "[I") .int ∈ st_FL) (h3 : Cond.eq (.length (.static RX8 n "[I")) (.int (Int32.ofNat N)) ∈ st_FL) (h4 : ∀ j, j < N → Cond.eq (.elem (.static RX8 n "[I") (.int (Int32.ofNat j))) (.int (f j)) ∈ st_FL) (h5 : Cond.initialized RX8 ∈ lw_tbl) (hA : ∀ a : Nat, a < s.heap.size → ¬ A a) : ∃ t, xSA n t N f A s s.heap := by
  obtain ⟨t, e1, e2⟩ := va_Tof (tm := .static RX8 n "[I") (ty := .int) (N := N) (f := fun j => .int (f j)) (A := A) hN (hs _ h2) (va_eqt (hs _ h3)) (fun j hj => va_eqt (hs _ (h4 j hj))) hA
  exact ⟨t, va_Zof (hts _ h1) (hts _ h5) e1 hA, e2⟩
theorem st_one {A : Nat → Prop} (hs : ∀ w ∈ st_FL, w.before #[Value.ref b] s = true) (hA : ∀ a : Nat, a < s.heap.size → ¬ A a) {i : Nat} (hi : i < 10) : ∃ q : Nat × Nat, (st_T i).eval #[Value.ref b] s none [] s = some (.ref q.1) ∧ va_O "java/lang/String" q.1 A s s.heap ∧ va_OF "java/lang/String" "coder" "B" (.int 0) q.1 A s s.heap ∧ va_OF "java/lang/String" "value" "[B" (.ref q.2) q.1 A s s.heap ∧ va_T .byte q.2 (xLen.getD i 0) (fun j => .int ((xByt.getD i []).getD j 0)) A s s.heap := by
  have z0 : ∀ k, k < 1 → k = 0 := fun k hk => by omega
  obtain ⟨adK, adV, ⟨h1, -⟩, h2⟩ := vk_Sof (args := #[Value.ref b]) (s := s) (N := 1) (tm := fun _ => st_T i) (len := [xLen.getD i 0]) (byt := [xByt.getD i []]) (A := A) (fun k hk => by rw [z0 k hk]; exact st_lt i hi) (fun _ _ => hs _ (st_ex i hi)) (fun _ _ => hs _ (st_co i hi)) (fun _ _ => hs _ (st_ar i hi)) (fun k hk => by rw [z0 k hk]; exact hs _ (st_le i hi)) (fun k hk j hj => by rw [z0 k hk] at hj ⊢; exact hs _ (st_el i hi j hj)) (fun k j hk hj h => absurd (by omega : k = j) h) hA
  exact ⟨(adK 0, adV 0), h2 0 (by omega), h1 0 (by omega)⟩
theorem st_same {A : Nat → Prop} {i j a v v' : Nat} (hi : i < 10) (hj : j < 10) (h1 : va_OF "java/lang/String" "value" "[B" (.ref v) a A s s.heap) (h2 : va_OF "java/lang/String" "value" "[B" (.ref v') a A s s.heap) (t1 : va_T .byte v (xLen.getD i 0) (fun k => .int ((xByt.getD i []).getD k 0)) A s s.heap) (t2 : va_T .byte v' (xLen.getD j 0) (fun k => .int ((xByt.getD j []).getD k 0)) A s s.heap) : i = j := by
  obtain ⟨cf, kf, fi, f, cell, e1, -, e2, -, e3, -⟩ := h1
  obtain ⟨cf', kf', fi', f', cell', d1, -, d2, -, d3, -⟩ := h2
  cases e1.symm.trans d1
  cases e2.symm.trans d2
  cases e3.symm.trans d3
  obtain ⟨c1, g1, -, -, -, g2, g3, -⟩ := t1
  obtain ⟨c2, k1, -, -, -, k2, k3, -⟩ := t2
  cases g1.symm.trans k1
  have hl : xLen.getD i 0 = xLen.getD j 0 := by
    have z := congrArg Int32.toNatClampNeg (g2.symm.trans k2)
    rw [Int32.toNatClampNeg_ofNat_of_lt (st_lt i hi), Int32.toNatClampNeg_ofNat_of_lt (st_lt j hj)] at z
    exact z
  refine st_dist i hi j hj hl (fun k hk => ?_)
  have z := (g3 k hk).symm.trans (k3 k (by omega))
  exact Value.int.inj (Option.some.inj z)
theorem st_xZ {A : Nat → Prop} (hts : ∀ w ∈ lw_tbl, w.before #[Value.ref b] s = true) (hs : ∀ w ∈ st_FL, w.before #[Value.ref b] s = true) (hA : ∀ a : Nat, a < s.heap.size → ¬ A a) : ∃ Z : XZ, xZ Z A s s.heap := by
  have hini : Cond.initialized RX8 ∈ lw_tbl := by decide +kernel
  obtain ⟨t1, s1⟩ := st_SA (n := "USUAL") (f := xUsual) (by decide) hts hs (by decide +kernel) (by decide +kernel) (by decide +kernel) st_usual hini hA
  obtain ⟨t2, s2⟩ := st_SA (n := "LEAST") (f := xLeast) (by decide) hts hs (by decide +kernel) (by decide +kernel) (by decide +kernel) st_least hini hA
  obtain ⟨t3, s3⟩ := st_SA (n := "MOST") (f := xMost) (by decide) hts hs (by decide +kernel) (by decide +kernel) (by decide +kernel) st_most hini hA
  obtain ⟨t4, s4⟩ := st_SA (n := "FIRST_NUMBER") (f := xFirst) (by decide) hts hs (by decide +kernel) (by decide +kernel) (by decide +kernel) st_first hini hA
  have h0 : ∀ i : Nat, ∃ q : Nat × Nat, i < 10 → ((st_T i).eval #[Value.ref b] s none [] s = some (.ref q.1) ∧ va_O "java/lang/String" q.1 A s s.heap ∧ va_OF "java/lang/String" "coder" "B" (.int 0) q.1 A s s.heap ∧ va_OF "java/lang/String" "value" "[B" (.ref q.2) q.1 A s s.heap ∧ va_T .byte q.2 (xLen.getD i 0) (fun j => .int ((xByt.getD i []).getD j 0)) A s s.heap) := by
    intro i
    by_cases hi : i < 10
    · obtain ⟨q, hq⟩ := st_one hs hA hi
      exact ⟨q, fun _ => hq⟩
    · exact ⟨(0, 0), fun h => absurd h hi⟩
  obtain ⟨ad, had⟩ := Classical.axiomOfChoice h0
  have hS : vk_S 10 xLen xByt (fun i => (ad i).1) (fun i => (ad i).2) A s s.heap := ⟨fun i hi => (had i hi).2, fun i j hi hj e => by
    have e : (ad i).1 = (ad j).1 := e
    have hj1 := (had j hj).2.2.2.1
    rw [← e] at hj1
    exact st_same hi hj (had i hi).2.2.2.1 hj1 (had i hi).2.2.2.2 (had j hj).2.2.2.2⟩
  refine ⟨(t1, t2, t3, t4, fun i => (ad i).1, fun i => (ad i).2), s1, s2, s3, s4, hS, va_Zof (hts _ (by decide +kernel)) (hts _ (by decide +kernel)) (va_eqt (hs _ (by decide +kernel))) hA, va_Zqof (hts _ (by decide +kernel)) (hts _ (by decide +kernel)) (hs _ (by decide +kernel)) hA, fun i k t tb => ⟨fun hw => ?_, fun hw => ?_⟩⟩
  · have hi : i < 10 := (List.getElem?_eq_some_iff.mp hw).1
    have hm := st_ref _ (List.mem_of_getElem? hw)
    have ek : st_w i = k := by unfold st_w; rw [hw]
    have h1 := (had i hi).1
    unfold st_T at h1
    rw [ek] at h1
    exact vk_R.of (hts _ hm) h1
  · have hi : i < 9 := (List.getElem?_eq_some_iff.mp hw).1
    have hm := st_refM _ (List.mem_of_getElem? hw)
    have ek : st_wM i = k := by unfold st_wM; rw [hw]
    obtain ⟨y, y1, y2⟩ := Cond.eq_one (args := #[Value.ref b]) (first := s) (o := none) (s := s) (idx := []) (hs _ (st_eqM i hi))
    rw [(had i (by omega)).1] at y1
    cases y1
    rw [ek] at y2
    exact vk_R.of (hts _ hm) y2
theorem st_xThr (hts : ∀ w ∈ lw_tbl, w.before #[Value.ref b] s = true) (hs : ∀ w ∈ st_FL, w.before #[Value.ref b] s = true) : xThr s := by
  have hA : ∀ a : Nat, a < s.heap.size → ¬ (fun _ => False : Nat → Prop) a := fun _ _ h => h
  refine ⟨vx_Zqof (hts _ (by decide +kernel)) (hts _ (by decide +kernel)) (hs _ (by decide +kernel)) hA, vx_Zqof (hts _ (by decide +kernel)) (hts _ (by decide +kernel)) (hs _ (by decide +kernel)) hA, fun w hw => va_Nw.of (xCast_t w hw) (hts _ (st_cast w hw)), fun r hr => ?_⟩
  obtain ⟨a, c, cA, kA, q1, -⟩ := Cond.exactly_spec (args := #[Value.ref b]) (first := s) (o := none) (s := s) (idx := []) (t := .string RX8 r.1) (cls := "java/lang/String") (hs _ (st_txE r hr))
  exact ⟨a, vk_R.of (hts _ (st_txR r hr)) q1⟩
theorem st_xEnv (hts : ∀ w ∈ lw_tbl, w.before #[Value.ref b] s = true) (hs : ∀ w ∈ st_FL, w.before #[Value.ref b] s = true) : ∃ (E : XE) (cL : ClassId), xEnv E s ∧ xLg E cL s ∧ va_AO xSit s := by
  obtain ⟨c0, i0, K0⟩ := u_known (C := RX0) (T := TX0) (N := 3) (n := 3) hts inX0 (hts (.instantiable RX0 3) (by decide +kernel))
  obtain ⟨c1, i1, K1⟩ := u_known (C := RX1) (T := TX1) (N := 6) (n := 6) hts inX1 (hts (.instantiable RX1 6) (by decide +kernel))
  obtain ⟨c2, i2, K2⟩ := u_known (C := RX2) (T := TX2) (N := 1) (n := 1) hts inX2 (hts (.instantiable RX2 1) (by decide +kernel))
  obtain ⟨c3, i3, K3⟩ := u_known (C := RX3) (T := TX3) (N := 9) (n := 9) hts inX3 (hts (.instantiable RX3 9) (by decide +kernel))
  obtain ⟨c4, i4, K4⟩ := u_known (C := RX4) (T := TX4) (N := 4) (n := 4) hts inX4 (hts (.instantiable RX4 4) (by decide +kernel))
  obtain ⟨c5, i5, K5⟩ := u_known (C := RX5) (T := TX5) (N := 2) (n := 2) hts inX5 (hts (.instantiable RX5 2) (by decide +kernel))
  obtain ⟨c6, i6, K6⟩ := u_known (C := RX6) (T := TX6) (N := 11) (n := 11) hts inX6 (hts (.instantiable RX6 11) (by decide +kernel))
  obtain ⟨c7, i7, K7⟩ := u_known (C := RX7) (T := TX7) (N := 2) (n := 2) hts inX7 (hts (.instantiable RX7 2) (by decide +kernel))
  obtain ⟨c8, i8, K8⟩ := u_known (C := RX8) (T := TX8) (N := 9) (n := 9) hts inX8 (hts (.instantiable RX8 9) (by decide +kernel))
  obtain ⟨c9, i9, K9⟩ := u_known (C := RX9) (T := TX9) (N := 22) (n := 22) hts inX9 (hts (.instantiable RX9 22) (by decide +kernel))
  obtain ⟨a1, b1, b2⟩ := st_arr (ty := .int) (fun C h => by cases h) (hts (.arrayClass .int) (by decide +kernel))
  obtain ⟨a2, b3, b4⟩ := st_arr (ty := .byte) (fun C h => by cases h) (hts (.arrayClass .byte) (by decide +kernel))
  obtain ⟨a3, b5, b6⟩ := st_arr (ty := .boolean) (fun C h => by cases h) (hts (.arrayClass .boolean) (by decide +kernel))
  obtain ⟨a5, b9, b10⟩ := st_arr (ty := .long) (fun C h => by cases h) (hts (.arrayClass .long) (by decide +kernel))
  have hao : (Cond.arrayOver (.object xSit)).before #[Value.ref b] s = true := hts (.arrayOver (.object xSit)) (by decide +kernel)
  obtain ⟨a4, b7, b8⟩ := st_arO hao
  obtain ⟨dC, dI, hKc⟩ : ∃ (dC : Nat → ClassId) (dI : Nat → Nat → Nat), ∀ (k : Nat) (q : vw_C), vwCl[k]? = some q → u_Kn s q.1 q.2.1 q.2.2 (dC k) (dI k) := by
    refine ⟨fun k => [c0, c1, c2, c3, c4, c5, c6, c7, c8, c9].getD k c0, fun k => [i0, i1, i2, i3, i4, i5, i6, i7, i8, i9].getD k i0, ?_⟩
    intro k q hq
    match k, hq with
    | 0, hq => cases hq; exact K0
    | 1, hq => cases hq; exact K1
    | 2, hq => cases hq; exact K2
    | 3, hq => cases hq; exact K3
    | 4, hq => cases hq; exact K4
    | 5, hq => cases hq; exact K5
    | 6, hq => cases hq; exact K6
    | 7, hq => cases hq; exact K7
    | 8, hq => cases hq; exact K8
    | 9, hq => cases hq; exact K9
    | k + 10, hq => simp [vwCl] at hq
  refine ⟨((dC, dI), a1, a2, a3, a4), a5, ⟨⟨hKc, fun k q hq => ?_⟩, fun w hw => va_Nw.of (st_nestT w hw) (hts _ (st_nest w hw))⟩, ⟨⟨hKc, fun k q hq => ?_⟩, va_Nc.of (hs _ (by decide +kernel)), va_Nc.of (hs _ (by decide +kernel)), va_Nc.of (hs _ (by decide +kernel))⟩, va_AO.of hao⟩
  · match k, hq with
    | 0, hq => cases hq; exact ⟨b1, b2⟩
    | 1, hq => cases hq; exact ⟨b3, b4⟩
    | 2, hq => cases hq; exact ⟨b5, b6⟩
    | 3, hq => cases hq; exact ⟨b7, b8⟩
    | k + 4, hq => simp [xTy] at hq
  · match k, hq with
    | 0, hq => cases hq; exact ⟨b9, b10⟩
    | k + 1, hq => simp at hq
end STG
