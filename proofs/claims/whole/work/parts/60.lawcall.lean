/-! the law's own methods: what they are told, what they answer; calls over a piece of a world -/
def xLg (E : XE) (cL : ClassId) (U : State) : Prop := va_K E.1 vwCl [(cL, .long)] U ∧ va_Nc "java/lang/IllegalArgumentException" "java/lang/IndexOutOfBoundsException" U ∧ va_Nc "java/lang/IllegalStateException" "java/lang/IndexOutOfBoundsException" U ∧ va_Nc "java/lang/IllegalStateException" "java/lang/IllegalArgumentException" U
theorem xLg.moved {E : XE} {cL : ClassId} {u U : State} (hvm : u.vm.Alike U.vm) (h : xLg E cL u) : xLg E cL U := ⟨va_K.moved hvm h.1, va_Nc.moved hvm h.2.1, va_Nc.moved hvm h.2.2.1, va_Nc.moved hvm h.2.2.2⟩
def xBL (E : XE) (Z : XZ) (cL : ClassId) (sz : Nat) (ws : va_W) (U : State) : Prop := xBW E Z sz ws U ∧ xThr U ∧ xLg E cL U
theorem xBL.blind {E : XE} {Z : XZ} {cL : ClassId} {av : List Value} {sz : Nat} {ws : va_W} : FrameBlind (va_Pc av (xBL E Z cL sz ws)) := fun a U g mk q => ⟨q.1, (xBW.blind (E := E) (Z := Z) (av := av) (sz := sz) (ws := ws) a U g mk ⟨q.1, q.2.1⟩).2, xThr.same (s := U) (U := U.calling g mk a) rfl rfl q.2.2.1, xLg.moved (u := U) (U := U.calling g mk a) (Vm.Alike.refl U.vm) q.2.2.2⟩
/-- a wrapper's contract over a whole world: it answers v -/
def xL (l : Launch) (y : MethodName) (ws : List Cond) (rm : Room) (E : XE) (Z : XZ) (cL : ClassId) (W : va_W) (av : List Value) (v : Value) (W' : va_W) : Prop :=
  ∀ sz, Met l y ws rm (va_Pc av (xBL E Z cL sz W)) (xO (T := Unit) E (va_A W sz) (fun _ => some v) (fun _ => W') ()) 1 6 (va_A W sz)
section XLA
variable {l : Launch} {y : MethodName} {ws ws' : List Cond} {rm : Room} {E : XE} {Z : XZ} {cL : ClassId} {W0 W' : va_W} {av : List Value} {v : Value} {cc : ByteArray} {maxL : Nat} {ret : Option FieldType} {hh : List (Nat × Nat × Nat × Nat)}
theorem xL.of (hy : plainName y.cls = true) (hw : ws = Cond.codeWith y cc maxL ret hh :: ws') (hav : (lg_sl av).length ≤ maxL)
    (body : ∀ (p : Program) (e : Env) (s : State) (m : MethodId) (args : Array Value) (below : List Frame) (meth : Method) (c : Code) (ls : Array Slot) (A : Nat → Prop), xM p s m args meth c cc maxL ret ws y.cls y.name → xEnv E s → va_P E.1 vwCl W0 s.heap → va_D A W0 → va_S A s.heap s.heap [] → (∀ q, s.heap.size ≤ q → A q) → xZ Z A s s.heap → xThr s → xLg E cL s → c.exceptionTable.toList = tableOf hh → lv_has ls maxL (lv_args 0 av) →
      W p l e rm s m args below meth c s.heap [] 0 0 (MQ below (xO (T := Unit) E A (fun _ => some v) (fun _ => W') ()) args s 1 6 A) (F0 m 0 ls [])) : xL l y ws rm E Z cL W0 av v W' := by
  intro sz
  refine va_MetW (cc := cc) (maxL := maxL) (ret := ret) (hh := hh) hy hw ?_
  intro p e s m args below meth c s₁ B hml hv
  obtain ⟨rfl, ⟨⟨hsz, hP, hE, hD⟩, hZ⟩, hThr, hLg⟩ := hv
  subst hsz
  have hl := lv_entry av (n := maxL) hav
  rw [lg_entry_eq]
  exact body p e s m av.toArray below meth c _ (va_A W0 s.heap.size) (xM.of B hml) hE hP hD.self va_S.rf (fun q h => Or.inr h) hZ hThr hLg (vx_table (x := y) B (atoms_spec (ws := ws) B.pre _ (by rw [hw]; exact List.mem_cons_self))) hl
end XLA
/-! pieces of a world -/
theorem x_segC (w1 w2 : va_W) : (List.range w1.length).map (fun i => (w1 ++ w2)[i]?) = w1.map some := by
  refine List.ext_getElem? (fun k => ?_)
  rw [List.getElem?_map, List.getElem?_map]
  by_cases h : k < w1.length
  · rw [List.getElem?_range h, List.getElem?_eq_getElem h]
    show some ((w1 ++ w2)[k]?) = some (some w1[k])
    rw [List.getElem?_append_left h, List.getElem?_eq_getElem h]
  · rw [List.getElem?_eq_none_iff.mpr (by rw [List.length_range]; omega), List.getElem?_eq_none_iff.mpr (by omega)]
    rfl
theorem x_segR (w1 w2 : va_W) : ((List.range w2.length).map (w1.length + ·)).map (fun i => (w1 ++ w2)[i]?) = w2.map some := by
  refine List.ext_getElem? (fun k => ?_)
  rw [List.getElem?_map, List.getElem?_map, List.getElem?_map]
  by_cases h : k < w2.length
  · rw [List.getElem?_range h, List.getElem?_eq_getElem h]
    show some ((w1 ++ w2)[w1.length + k]?) = some (some w2[k])
    rw [List.getElem?_append_right (by omega), show w1.length + k - w1.length = k by omega, List.getElem?_eq_getElem h]
  · rw [List.getElem?_eq_none_iff.mpr (by rw [List.length_range]; omega), List.getElem?_eq_none_iff.mpr (by omega)]
    rfl
theorem x_ndC (n : Nat) : va_nd (List.range n) = true := x_nd_of _ List.nodup_range
theorem x_ndR (a n : Nat) : va_nd ((List.range n).map (a + ·)) = true := x_nd_of _ (by
  refine List.Pairwise.map _ (fun i j h => ?_) List.nodup_range
  exact fun e => h (Nat.add_left_cancel e))
theorem x_dis (a n : Nat) : ∀ i ∈ (List.range n).map (a + ·), i ∉ List.range a := fun i hi h => by
  obtain ⟨j, -, rfl⟩ := List.mem_map.mp hi
  have := List.mem_range.mp h
  omega
theorem x_dis2 (a n : Nat) : ∀ i ∈ List.range a, i ∉ (List.range n).map (a + ·) := fun i hi h => x_dis a n i h hi
theorem x_swP {D : va_G} {cl : List vw_C} {a b : va_W} {H : Heap} (h : va_P D cl (a ++ b) H) : va_P D cl (b ++ a) H := va_P.swap (a := []) (b := a) (c := b) h
theorem x_swD {A : Nat → Prop} {a b : va_W} (h : va_D A (a ++ b)) : va_D A (b ++ a) := va_D.swap (a := []) (b := a) (c := b) h
theorem x_left {w1 w2 : va_W} {k : Nat} {q : Nat × va_E} (h : w1[k]? = some q) : (w1 ++ w2)[k]? = some q := by
  rw [List.getElem?_append_left (List.getElem?_eq_some_iff.mp h).1]
  exact h
theorem x_right {w1 w2 : va_W} {k : Nat} {q : Nat × va_E} (h : w2[k]? = some q) : (w1 ++ w2)[w1.length + k]? = some q := by
  rw [List.getElem?_append_right (by omega), show w1.length + k - w1.length = k by omega]
  exact h
theorem x_setR (w1 : va_W) (c c' : Nat × va_E) (w2 : va_W) : (w1 ++ c :: w2).set w1.length c' = w1 ++ c' :: w2 := by
  rw [List.set_append_right _ _ (Nat.le_refl _), Nat.sub_self]
  rfl
section XLB
variable {p : Program} {l : Launch} {e : Env} {R : Room} {s : State} {m : MethodId} {args : Array Value} {below : List Frame} {meth : Method} {c : Code} {H : Heap} {locs : List Loc} {cells slots : Nat} {Q : State → Prop}
variable {E : XE} {Z : XZ} {cL : ClassId} {w1 w2 w1' w2' : va_W} {A A0 : Nat → Prop} {cc : ByteArray} {pc : Nat} {ls : Array Slot} {a b : Nat} {rest st0 : List Value} {mc ms : Nat}
variable {y : MethodName} {bytes : ByteArray} {maxL nL index n : Nat} {ret : Option FieldType} {wsy : List Cond} {rm : Room} {Ts : List Cond} {own C : String} {v : Value} {cls : String} {hh : List (Nat × Nat × Nat × Nat)}
theorem xThr.here (h : xThr s) (hS : va_S A s.heap H locs) (hA : ∀ q : Nat, q < s.heap.size → ¬ A q) : ∀ U : State, U.heap = H → s.WarmedH U.vm → xThr U := fun U hU hW => by
  obtain ⟨h1, h2, h3, h4⟩ := h
  have k : ∀ a : Nat, a < s.heap.size → ¬ (fun _ => False : Nat → Prop) a → H[a]? = s.heap[a]? := fun a ha _ => hS.2.1 a ha (hA a ha)
  refine ⟨?_, ?_, fun w hw => xCw_warm (xCast_k w hw) hW (h3 w hw), fun r hr => ?_⟩
  · rw [hU]; exact vx_Zq.moved hW.alike (h1.kept k)
  · rw [hU]; exact vx_Zq.moved hW.alike (h2.kept k)
  · obtain ⟨sa, h⟩ := h4 r hr
    exact ⟨sa, vk_R.warm hW h⟩
/-- a call of an object's method: its world is the first piece -/
theorem x_gV (As : List Value) (hM : xA l y wsy rm E Z w1 (.ref b :: As) (some v) w1' mc ms) (S : CallFix p m c cc nL s args Ts own) (cw : CallW R s args own C index y bytes maxL ret wsy rm mc ms n) (hZ : xZ Z A0 s s.heap) (hE : xEnv E s) (hP : va_P E.1 vwCl (w1 ++ w2) H) (hD : va_D A0 (w1 ++ w2)) (hS : va_S A0 s.heap H locs) (hA : ∀ q, s.heap.size ≤ q → A0 q) {ci : Nat} {qc : vw_C} {fs : List Value} (hcl : vwCl[ci]? = some qc) (hCn : qc.1 = C) (hq : w1[0]? = some (b, .inr (ci, fs))) (hl : ls.size = nL) (hst : st0 = As.reverse ++ .ref b :: rest) (hlen : As.length = n) (hW : (rest.map fun v => v.category).sum ≤ 8) (hdg : decode cc pc = .ok (.invokevirtual index, 3)) (hc : cells + mc ≤ R.cells) (hsl : slots + ms ≤ R.slots)
    (kk : ∀ (H1 : Heap) (locs1 : List Loc), va_P E.1 vwCl (w1' ++ w2) H1 → va_D A0 (w1' ++ w2) → va_S A0 s.heap H1 locs1 → W p l e R s m args below meth c H1 locs1 (cells + mc) (slots + ms) Q (F0 m (pc + 3) ls (v :: rest))) : W p l e R s m args below meth c H locs cells slots Q (F0 m pc ls st0) :=
  x_yV (T := Unit) (rv := fun _ => some v) (W1 := fun _ => w1') (q := ()) (wc := w1) (wr := w2) As (show xWZ l y wsy rm E Z w1 (.ref b :: As) (fun _ : Unit => some v) (fun _ => w1') () mc ms from hM) S cw hZ hE hP hD hS hA (List.range w1.length) ((List.range w2.length).map (w1.length + ·)) (x_ndC _) (x_segC w1 w2) (x_segR w1 w2) (x_ndR _ _) (x_dis _ _) hcl hCn (x_left hq) hl hst hlen hW hdg hc hsl (fun _ H1 locs1 _ hP1 hD1 hS1 => kk H1 locs1 (x_swP hP1) (x_swD hD1) hS1)
/-- .. the last piece -/
theorem x_gV2 (As : List Value) (hM : xA l y wsy rm E Z w2 (.ref b :: As) (some v) w2' mc ms) (S : CallFix p m c cc nL s args Ts own) (cw : CallW R s args own C index y bytes maxL ret wsy rm mc ms n) (hZ : xZ Z A0 s s.heap) (hE : xEnv E s) (hP : va_P E.1 vwCl (w1 ++ w2) H) (hD : va_D A0 (w1 ++ w2)) (hS : va_S A0 s.heap H locs) (hA : ∀ q, s.heap.size ≤ q → A0 q) {ci : Nat} {qc : vw_C} {fs : List Value} (hcl : vwCl[ci]? = some qc) (hCn : qc.1 = C) (hq : w2[0]? = some (b, .inr (ci, fs))) (hl : ls.size = nL) (hst : st0 = As.reverse ++ .ref b :: rest) (hlen : As.length = n) (hW : (rest.map fun v => v.category).sum ≤ 8) (hdg : decode cc pc = .ok (.invokevirtual index, 3)) (hc : cells + mc ≤ R.cells) (hsl : slots + ms ≤ R.slots)
    (kk : ∀ (H1 : Heap) (locs1 : List Loc), va_P E.1 vwCl (w1 ++ w2') H1 → va_D A0 (w1 ++ w2') → va_S A0 s.heap H1 locs1 → W p l e R s m args below meth c H1 locs1 (cells + mc) (slots + ms) Q (F0 m (pc + 3) ls (v :: rest))) : W p l e R s m args below meth c H locs cells slots Q (F0 m pc ls st0) :=
  x_yV (T := Unit) (rv := fun _ => some v) (W1 := fun _ => w2') (q := ()) (wc := w2) (wr := w1) As (show xWZ l y wsy rm E Z w2 (.ref b :: As) (fun _ : Unit => some v) (fun _ => w2') () mc ms from hM) S cw hZ hE hP hD hS hA ((List.range w2.length).map (w1.length + ·)) (List.range w1.length) (x_ndR _ _) (x_segR w1 w2) (x_segC w1 w2) (x_ndC _) (x_dis2 _ _) hcl hCn (x_right hq) hl hst hlen hW hdg hc hsl (fun _ H1 locs1 _ hP1 hD1 hS1 => kk H1 locs1 hP1 hD1 hS1)
/-- a call of a wrapper -/
theorem x_gL (As : List Value) (hM : xL l y wsy rm E Z cL w1 As v w1') (S : CallFix p m c cc nL s args Ts own) (cw : vx_CSW R s args own index y bytes maxL ret hh wsy rm 1 6 n) (hZ : xZ Z A0 s s.heap) (hThr : xThr s) (hAo : ∀ q : Nat, q < s.heap.size → ¬ A0 q) (hLg : xLg E cL s) (hE : xEnv E s) (hP : va_P E.1 vwCl (w1 ++ w2) H) (hD : va_D A0 (w1 ++ w2)) (hS : va_S A0 s.heap H locs) (hA : ∀ q, s.heap.size ≤ q → A0 q) (hl : ls.size = nL) (hst : st0 = As.reverse ++ rest) (hlen : As.length = n) (hW : (rest.map fun v => v.category).sum ≤ 8) (hdg : decode cc pc = .ok (.invokestatic index, 3)) (hc : cells + 1 ≤ R.cells) (hsl : slots + 6 ≤ R.slots)
    (kk : ∀ (H1 : Heap) (locs1 : List Loc), va_P E.1 vwCl (w1' ++ w2) H1 → va_D A0 (w1' ++ w2) → va_S A0 s.heap H1 locs1 → W p l e R s m args below meth c H1 locs1 (cells + 1) (slots + 6) Q (F0 m (pc + 3) ls (v :: rest))) : W p l e R s m args below meth c H locs cells slots Q (F0 m pc ls st0) :=
  x_cw (T := Unit) (rv := fun _ => some v) (W1 := fun _ => w1') (q := ()) (wc := w1) (wr := w2) (vx_runSW (g := F0 m pc ls st0) (As := As) (rest := rest) S (hM H.size) cw ⟨xBL.blind, fun U hU hW => ⟨rfl, ⟨⟨by rw [hU], x_pre hE hP hD (List.range w1.length) (x_ndC _) (x_segC w1 w2) U hU hW⟩, hZ.here hS hU hW (va_free hD hS hA (List.range w1.length) (x_segC w1 w2))⟩, hThr.here hS hAo U hU hW, xLg.moved hW.alike hLg⟩⟩ rfl hlen hl hst (lv_room (rest := st0) (st := rest) hW) hdg ⟨hc, hsl⟩) hP hD hS hA (List.range w1.length) ((List.range w2.length).map (w1.length + ·)) (x_segC w1 w2) (x_segR w1 w2) (x_ndR _ _) (x_dis _ _) (fun _ H1 locs1 _ hP1 hD1 hS1 => kk H1 locs1 (x_swP hP1) (x_swD hD1) hS1)
/-- a call that throws, at the wrapper's beginning -/
theorem x_gX (As : List Value) (hM : xX l y wsy rm E w1 (.ref b :: As) cls) (S : CallFix p m c cc nL s args Ts own) (cw : CallW R s args own C index y bytes maxL ret wsy rm 1 6 n) (hE : xEnv E s) (hThr : xThr s) (hP : va_P E.1 vwCl (w1 ++ w2) s.heap) (hD : va_D A (w1 ++ w2)) {ci : Nat} {qc : vw_C} {fs : List Value} (hcl : vwCl[ci]? = some qc) (hCn : qc.1 = C) (hq : w1[0]? = some (b, .inr (ci, fs))) (hl : ls.size = nL) (hst : st0 = As.reverse ++ .ref b :: rest) (hlen : As.length = n) (hW : (rest.map fun v => v.category).sum ≤ 8) (hdg : decode cc pc = .ok (.invokevirtual index, 3)) (hc : 0 + 1 ≤ R.cells) (hsl : 0 + 6 ≤ R.slots)
    (kx : ∀ (q : Addr) (ce : Cell) (H1 : Heap), va_P E.1 vwCl (w1 ++ w2) H1 → va_S A s.heap H1 [] → H1[q]? = some ce → ce.vm = .none → s.vm.findClass cls = some ce.cls → vx_W p l e R s m args below meth c H1 [] (0 + 1) (0 + 6) Q (F0 m pc ls rest) q) : W p l e R s m args below meth c s.heap [] 0 0 Q (F0 m pc ls st0) := by
  subst hCn
  intro T hT X
  rcases (vx_runV (g := F0 m pc ls st0) (As := As) (rest := rest) S hM cw ⟨xBX.blind, va_recv hE.1 hP hcl (x_left hq), fun U hU hW => ⟨rfl, x_pre hE hP hD (List.range w1.length) (x_ndC _) (x_segC w1 w2) U hU hW, xThr.warm hW hU hThr⟩⟩ rfl hlen hl hst (lv_room (rest := st0) (st := rest) hW) hdg ⟨hc, hsl⟩) T hT X with ⟨v', st₀, t, T', L, h0, X', hL, e1, -, hf, st⟩ | ⟨q, st₀, t, T', L, E1, ce, h0, X', hL, e1, -, ⟨u, hp, hb, hF⟩, hce, hcv, hcl1, st⟩
  · exact hf.elim
  · obtain ⟨z1, z2⟩ := hF
    rw [h0] at z1 z2
    have z2' : ∀ q : Nat, q < s.heap.size → T'.heap[q]? = s.heap[q]? := fun q h => by rw [e1]; exact z2 q h (fun z => z)
    subst hb
    obtain ⟨t2, a1, b1⟩ := kx q ce T'.heap (hP.kept (fun k q hk => z2' q.1 (vx_lt hP hk))) ⟨by rw [e1]; exact z1, fun q h _ => z2' q h, fun q h => by cases h⟩ (by rw [e1]; exact hce) hcv hcl1 T' rfl (Stand.forget X' (fun q h => (hL q h).elim))
    exact ⟨t2, st.trans a1, b1⟩
/-- the end -/
theorem x_gI {r : Int32} (hx : p.tables.exec = Jvm.exec) (hb : c.code = cc) (hr : meth.sig.returnType = some .int) (hlk : meth.locks = false) (hS : va_S A s.heap H locs) (hP : va_P E.1 vwCl w1 H) (hD : va_D A w1) (hc : cells ≤ 1) (hsl : slots ≤ 6) (hdg : decode cc pc = .ok (.ireturn, 1)) : W p l e R s m args below meth c H locs cells slots (MQ below (xO (T := Unit) E A (fun _ => some (.int r)) (fun _ => w1) ()) args s 1 6 A) (F0 m pc ls [.int r]) :=
  W.widen hc hsl (W.iret hx hb hr (fun t ht _ => ⟨rfl, by rw [ht]; exact hP, hD, hS.F ht⟩) hS.2.2 hdg hlk)
end XLB
