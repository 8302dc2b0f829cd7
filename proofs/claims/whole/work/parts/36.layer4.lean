/-! constructors: new cells, at addresses that the contract doesn't name -/
abbrev xSit : String := "RailPendulum$Situation"
def xBN (E : XE) (Z : XZ) (sz : Nat) (ws : va_W) (U : State) : Prop := xBW E Z sz ws U ∧ va_AO xSit U
theorem xBN.blind {E : XE} {Z : XZ} {av : List Value} {sz : Nat} {ws : va_W} : FrameBlind (va_Pc av (xBN E Z sz ws)) := fun a U g mk q => ⟨q.1, (xBW.blind (E := E) (Z := Z) (av := av) (sz := sz) (ws := ws) a U g mk ⟨q.1, q.2.1⟩).2, va_AO.moved (u := U) (U := U.calling g mk a) (Vm.Alike.refl U.vm) q.2.2⟩
/-- a constructor: some addresses u, and the world that they make -/
def xON (E : XE) (A : Nat → Prop) (W1 : (Nat → Nat) → va_W) : Array Value → State → Outcome → State → Prop := fun a st o t => ∃ u : Nat → Nat, xO E A (fun _ : Nat → Nat => none) W1 u a st o t
def xN (l : Launch) (y : MethodName) (ws : List Cond) (rm : Room) (E : XE) (Z : XZ) (W0 : va_W) (av : List Value) (W1 : (Nat → Nat) → va_W) (mc ms : Nat) : Prop :=
  ∀ sz, Met l y ws rm (va_Pc av (xBN E Z sz W0)) (xON E (va_A W0 sz) W1) mc ms (va_A W0 sz)
section XNA
variable {l : Launch} {y : MethodName} {ws ws' : List Cond} {rm : Room} {E : XE} {Z : XZ} {W0 : va_W} {av : List Value} {W1 : (Nat → Nat) → va_W} {mc ms : Nat} {cc : ByteArray} {maxL : Nat} {ret : Option FieldType}
theorem xN.of (hy : plainName y.cls = true) (hw : ws = Cond.code y cc maxL ret :: ws') (hav : (lg_sl av).length ≤ maxL)
    (body : ∀ (p : Program) (e : Env) (s : State) (m : MethodId) (args : Array Value) (below : List Frame) (meth : Method) (c : Code) (ls : Array Slot) (A : Nat → Prop), xM p s m args meth c cc maxL ret ws y.cls y.name → xEnv E s → va_P E.1 vwCl W0 s.heap → va_D A W0 → va_S A s.heap s.heap [] → (∀ q, s.heap.size ≤ q → A q) → xZ Z A s s.heap → va_AO xSit s → lv_has ls maxL (lv_args 0 av) →
      W p l e rm s m args below meth c s.heap [] 0 0 (MQ below (xON E A W1) args s mc ms A) (F0 m 0 ls [])) : xN l y ws rm E Z W0 av W1 mc ms := by
  intro sz
  refine Met.ofW (cc := cc) (maxL := maxL) (ret := ret) hy hw ?_
  intro p e s m args below meth c s₁ B hml hv
  obtain ⟨rfl, ⟨⟨hsz, hP, hE, hD⟩, hZ⟩, hAO⟩ := hv
  subst hsz
  have hl := lv_entry av (n := maxL) hav
  rw [lg_entry_eq]
  exact body p e s m av.toArray below meth c _ (va_A W0 s.heap.size) (xM.of B hml) hE hP hD.self va_S.rf (fun q h => Or.inr h) hZ hAO hl
end XNA
section XNB
variable {p : Program} {l : Launch} {e : Env} {R : Room} {s : State} {m : MethodId} {args : Array Value} {below : List Frame} {meth : Method} {c : Code} {H : Heap} {locs : List Loc} {cells slots : Nat} {Q : State → Prop}
variable {E : XE} {Z : XZ} {ws wc wr : va_W} {A A0 : Nat → Prop} {H0 : Heap} {cc : ByteArray} {pc : Nat} {ls : Array Slot} {a b : Nat} {rest st0 : List Value} {W1 : (Nat → Nat) → va_W} {mc ms : Nat}
theorem x_nv (u : Nat → Nat) (hx : p.tables.exec = Jvm.exec) (hb : c.code = cc) (hr : meth.sig.returnType = none) (hlk : meth.locks = false) (hS : va_S A s.heap H locs) (hP : va_P E.1 vwCl ws H) (hD : va_D A ws) (is : List Nat) (hn : va_nd is = true) (hs : is.map (fun i => ws[i]?) = (W1 u).map some) (hc : cells ≤ mc) (hsl : slots ≤ ms) (hdg : decode cc pc = .ok (.return_, 1)) : W p l e R s m args below meth c H locs cells slots (MQ below (xON E A W1) args s mc ms A) (F0 m pc ls []) := by
  obtain ⟨h1, h2⟩ := x_pick hP hD is hn hs
  exact W.widen hc hsl (W.vret hx hb hr (fun t ht _ => ⟨u, rfl, by rw [ht]; exact h1, h2, hS.F ht⟩) hS.2.2 hdg hlk)
theorem x_cn {ac : Array Value} {g : JFrame} (hr : va_Run p l e R s m args below meth c H locs cells slots mc ms g rest (xON E (va_A wc H.size) W1 ac) (va_A wc H.size)) (hP : va_P E.1 vwCl ws H) (hD : va_D A0 ws) (hS : va_S A0 H0 H locs) (hA : ∀ q, H0.size ≤ q → A0 q) (isC isR : List Nat) (hC : isC.map (fun i => ws[i]?) = wc.map some) (hR : isR.map (fun i => ws[i]?) = wr.map some) (hn : va_nd isR = true) (hdis : ∀ i ∈ isR, i ∉ isC)
    (kk : ∀ (u : Nat → Nat) (H1 : Heap) (locs1 : List Loc), va_P E.1 vwCl (wr ++ W1 u) H1 → va_D A0 (wr ++ W1 u) → va_S A0 H0 H1 locs1 → W p l e R s m args below meth c H1 locs1 (cells + mc) (slots + ms) Q { g with pc := g.pc + 3, stack := rest }) : W p l e R s m args below meth c H locs cells slots Q g := by
  intro T hT X
  obtain ⟨v', st₀, t, T', L, h0, X', hL, e1, -, ⟨u, hv, h1, h2, hF⟩, st⟩ := hr T hT X
  cases hv
  have hFc := va_free hD hS hA isC hC
  have hk : ∀ q : Nat, q < H.size → ¬ va_A wc H.size q → t.heap[q]? = H[q]? := fun q x y => by have := hF.2 q (by rw [h0]; exact x) y; rw [this, h0]
  obtain ⟨hP1, hD1⟩ := va_join hP hD isC isR hC hR hn hdis hk hFc h1 h2
  obtain ⟨t2, a1, b1⟩ := kk u t.heap (locs ++ L) hP1 hD1 ⟨Nat.le_trans hS.1 (by rw [← h0]; exact hF.1), fun z z1 z2 => by rw [hk z (Nat.lt_of_lt_of_le z1 hS.1) (fun w => z2 (hFc z w))]; exact hS.2.1 z z1 z2, fun z hz => by
    rcases List.mem_append.mp hz with h | h
    · exact hS.2.2 z h
    · exact hFc _ (hL z h)⟩ T' e1 X'
  exact ⟨t2, st t2 a1, b1⟩
variable {y : MethodName} {bytes : ByteArray} {maxL nL index n : Nat} {wsy : List Cond} {rm : Room} {Ts : List Cond} {own : String}
theorem x_nI (As : List Value) (hM : xN l y wsy rm E Z wc (.ref b :: As) W1 mc ms) (S : CallFix p m c cc nL s args Ts own) (cw : CallB R s args own index y bytes maxL none wsy rm mc ms n ∧ y.name = "<init>" ∧ (Cond.instanceMethod y).before args s = true) (hZ : xZ Z A0 s s.heap) (hAO : va_AO xSit s) (hE : xEnv E s) (hP : va_P E.1 vwCl ws H) (hD : va_D A0 ws) (hS : va_S A0 s.heap H locs) (hA : ∀ q, s.heap.size ≤ q → A0 q) (isC isR : List Nat) (hnC : va_nd isC = true) (hC : isC.map (fun i => ws[i]?) = wc.map some) (hR : isR.map (fun i => ws[i]?) = wr.map some) (hn : va_nd isR = true) (hdis : ∀ i ∈ isR, i ∉ isC) (hl : ls.size = nL) (hst : st0 = As.reverse ++ .ref b :: rest) (hlen : As.length = n) (hW : (rest.map fun v => v.category).sum ≤ 8) (hdg : decode cc pc = .ok (.invokespecial index, 3)) (hc : cells + mc ≤ R.cells) (hsl : slots + ms ≤ R.slots)
    (kk : ∀ (u : Nat → Nat) (H1 : Heap) (locs1 : List Loc), va_P E.1 vwCl (wr ++ W1 u) H1 → va_D A0 (wr ++ W1 u) → va_S A0 s.heap H1 locs1 → W p l e R s m args below meth c H1 locs1 (cells + mc) (slots + ms) Q (F0 m (pc + 3) ls rest)) : W p l e R s m args below meth c H locs cells slots Q (F0 m pc ls st0) :=
  x_cn (va_runI (g := F0 m pc ls st0) (As := As) (rest := rest) S (hM H.size) cw ⟨xBN.blind, fun U hU hW => ⟨rfl, ⟨⟨by rw [hU], x_pre hE hP hD isC hnC hC U hU hW⟩, hZ.here hS hU hW (va_free hD hS hA isC hC)⟩, va_AO.moved hW.alike hAO⟩⟩ rfl hlen hl hst (lv_room (rest := st0) (st := rest) hW) hdg ⟨hc, hsl⟩) hP hD hS hA isC isR hC hR hn hdis kk
theorem x_nIN {host : String} (As : List Value) (hM : xN l y wsy rm E Z wc (.ref b :: As) W1 mc ms) (S : CallFix p m c cc nL s args Ts own) (cw : va_CN R s args own index y host bytes maxL none wsy rm mc ms n ∧ y.name = "<init>" ∧ (Cond.instanceMethod y).before args s = true) (hZ : xZ Z A0 s s.heap) (hAO : va_AO xSit s) (hE : xEnv E s) (hP : va_P E.1 vwCl ws H) (hD : va_D A0 ws) (hS : va_S A0 s.heap H locs) (hA : ∀ q, s.heap.size ≤ q → A0 q) (isC isR : List Nat) (hnC : va_nd isC = true) (hC : isC.map (fun i => ws[i]?) = wc.map some) (hR : isR.map (fun i => ws[i]?) = wr.map some) (hn : va_nd isR = true) (hdis : ∀ i ∈ isR, i ∉ isC) (hl : ls.size = nL) (hst : st0 = As.reverse ++ .ref b :: rest) (hlen : As.length = n) (hW : (rest.map fun v => v.category).sum ≤ 8) (hdg : decode cc pc = .ok (.invokespecial index, 3)) (hc : cells + mc ≤ R.cells) (hsl : slots + ms ≤ R.slots)
    (kk : ∀ (u : Nat → Nat) (H1 : Heap) (locs1 : List Loc), va_P E.1 vwCl (wr ++ W1 u) H1 → va_D A0 (wr ++ W1 u) → va_S A0 s.heap H1 locs1 → W p l e R s m args below meth c H1 locs1 (cells + mc) (slots + ms) Q (F0 m (pc + 3) ls rest)) : W p l e R s m args below meth c H locs cells slots Q (F0 m pc ls st0) :=
  x_cn (va_runIN (g := F0 m pc ls st0) (As := As) (rest := rest) S (hM H.size) cw ⟨xBN.blind, fun U hU hW => ⟨rfl, ⟨⟨by rw [hU], x_pre hE hP hD isC hnC hC U hU hW⟩, hZ.here hS hU hW (va_free hD hS hA isC hC)⟩, va_AO.moved hW.alike hAO⟩⟩ rfl hlen hl hst (lv_room (rest := st0) (st := rest) hW) hdg ⟨hc, hsl⟩) hP hD hS hA isC isR hC hR hn hdis kk
theorem x_rowcls {cA cB : ClassId} {ty : FieldType} {tys : List (ClassId × FieldType)} (hK : va_K E.1 vwCl (tys ++ [(cA, ty)]) s) (hB : s.vm.findClass ("[" ++ ty.toString) = some cB) (hty : ∀ C, ty ≠ .object C) : cA = cB := by
  have h := (hK.2 tys.length (cA, ty) (by simp)).2
  have h2 : s.vm.findClass ("[" ++ ty.toString) = some cA := by
    cases ty with
    | object C => exact absurd rfl (hty C)
    | _ => exact h
  exact Option.some.inj (h2.symm.trans hB)
theorem x_newI (hx : p.tables.exec = Jvm.exec) (hb : c.code = cc) (harr : (Cond.arrayClass .int).before args s = true) (hE : xEnv E s) (hP : va_P E.1 vwCl ws H) (hD : va_D A ws) (hS : va_S A H0 H locs) (hA : ∀ q, H0.size ≤ q → A q) {n : Int32} (N : Nat) (hn : ¬ n < 0) (hN : n.toNatClampNeg = N) (hby : N * componentBytes .int ≤ 536870912) (hc : cells + 1 ≤ R.cells) (hs : slots + N ≤ R.slots) (hdg : decode cc pc = .ok (.newarray .int, 2))
    (kk : ∀ (q : Nat) (H1 : Heap), va_P E.1 vwCl (ws ++ [(q, .inl (E.2.1, N, .inl (fun _ => 0)))]) H1 → va_D A (ws ++ [(q, .inl (E.2.1, N, .inl (fun _ => 0)))]) → va_S A H0 H1 locs → W p l e R s m args below meth c H1 locs (cells + 1) (slots + N) Q (F0 m (pc + 2) ls (.ref q :: rest))) : W p l e R s m args below meth c H locs cells slots Q (F0 m pc ls (.int n :: rest)) := by
  refine va_newa hx hb (atype := .int) (ty := .int) (a0 := (N, .inl (fun _ => 0))) harr rfl hE.1 hP hD hS hA (fun _ => rfl) hn hN hby hc hs hdg (fun q cA H1 hK hP1 hD1 hS1 => ?_)
  have e : cA = E.2.1 := x_rowcls hK (hE.1.2 0 (E.2.1, .int) rfl).2 (fun C h => by cases h)
  subst e
  exact kk q H1 hP1 hD1 hS1
theorem x_newB (hx : p.tables.exec = Jvm.exec) (hb : c.code = cc) (harr : (Cond.arrayClass .byte).before args s = true) (hE : xEnv E s) (hP : va_P E.1 vwCl ws H) (hD : va_D A ws) (hS : va_S A H0 H locs) (hA : ∀ q, H0.size ≤ q → A q) {n : Int32} (N : Nat) (hn : ¬ n < 0) (hN : n.toNatClampNeg = N) (hby : N * componentBytes .byte ≤ 536870912) (hc : cells + 1 ≤ R.cells) (hs : slots + N ≤ R.slots) (hdg : decode cc pc = .ok (.newarray .byte, 2))
    (kk : ∀ (q : Nat) (H1 : Heap), va_P E.1 vwCl (ws ++ [(q, .inl (E.2.2.1, N, .inl (fun _ => 0)))]) H1 → va_D A (ws ++ [(q, .inl (E.2.2.1, N, .inl (fun _ => 0)))]) → va_S A H0 H1 locs → W p l e R s m args below meth c H1 locs (cells + 1) (slots + N) Q (F0 m (pc + 2) ls (.ref q :: rest))) : W p l e R s m args below meth c H locs cells slots Q (F0 m pc ls (.int n :: rest)) := by
  refine va_newa hx hb (atype := .byte) (ty := .byte) (a0 := (N, .inl (fun _ => 0))) harr rfl hE.1 hP hD hS hA (fun _ => rfl) hn hN hby hc hs hdg (fun q cA H1 hK hP1 hD1 hS1 => ?_)
  have e : cA = E.2.2.1 := x_rowcls hK (hE.1.2 1 (E.2.2.1, .byte) rfl).2 (fun C h => by cases h)
  subst e
  exact kk q H1 hP1 hD1 hS1
theorem x_newZ (hx : p.tables.exec = Jvm.exec) (hb : c.code = cc) (harr : (Cond.arrayClass .boolean).before args s = true) (hE : xEnv E s) (hP : va_P E.1 vwCl ws H) (hD : va_D A ws) (hS : va_S A H0 H locs) (hA : ∀ q, H0.size ≤ q → A q) {n : Int32} (N : Nat) (hn : ¬ n < 0) (hN : n.toNatClampNeg = N) (hby : N * componentBytes .boolean ≤ 536870912) (hc : cells + 1 ≤ R.cells) (hs : slots + N ≤ R.slots) (hdg : decode cc pc = .ok (.newarray .boolean, 2))
    (kk : ∀ (q : Nat) (H1 : Heap), va_P E.1 vwCl (ws ++ [(q, .inl (E.2.2.2.1, N, .inl (fun _ => 0)))]) H1 → va_D A (ws ++ [(q, .inl (E.2.2.2.1, N, .inl (fun _ => 0)))]) → va_S A H0 H1 locs → W p l e R s m args below meth c H1 locs (cells + 1) (slots + N) Q (F0 m (pc + 2) ls (.ref q :: rest))) : W p l e R s m args below meth c H locs cells slots Q (F0 m pc ls (.int n :: rest)) := by
  refine va_newa hx hb (atype := .boolean) (ty := .boolean) (a0 := (N, .inl (fun _ => 0))) harr rfl hE.1 hP hD hS hA (fun _ => rfl) hn hN hby hc hs hdg (fun q cA H1 hK hP1 hD1 hS1 => ?_)
  have e : cA = E.2.2.2.1 := x_rowcls hK (hE.1.2 2 (E.2.2.2.1, .boolean) rfl).2 (fun C h => by cases h)
  subst e
  exact kk q H1 hP1 hD1 hS1
theorem x_newQ (hx : p.tables.exec = Jvm.exec) (hb : c.code = cc) (hown : s.vm.findClass own = some m.cls) (hcl : (Cond.classLink own index xSit).before args s = true) (hAO : va_AO xSit s) (hE : xEnv E s) (hP : va_P E.1 vwCl ws H) (hD : va_D A ws) (hS : va_S A H0 H locs) (hA : ∀ q, H0.size ≤ q → A q) {n : Int32} (N : Nat) (hn : ¬ n < 0) (hN : n.toNatClampNeg = N) (hby : N * 4 ≤ 536870912) (hc : cells + 1 ≤ R.cells) (hs : slots + N ≤ R.slots) (hdg : decode cc pc = .ok (.anewarray index, 3))
    (kk : ∀ (q : Nat) (H1 : Heap), va_P E.1 vwCl (ws ++ [(q, .inl (E.2.2.2.2, N, .inr (.inr (.inr (.inr (fun _ => none))))))]) H1 → va_D A (ws ++ [(q, .inl (E.2.2.2.2, N, .inr (.inr (.inr (.inr (fun _ => none))))))]) → va_S A H0 H1 locs → W p l e R s m args below meth c H1 locs (cells + 1) (slots + N) Q (F0 m (pc + 3) ls (.ref q :: rest))) : W p l e R s m args below meth c H locs cells slots Q (F0 m pc ls (.int n :: rest)) := by
  refine va_newq hx hb hown hcl hAO hE.1 hP hD hS hA hn hN hby hc hs hdg (fun q cA H1 hK hP1 hD1 hS1 => ?_)
  have e : cA = E.2.2.2.2 := by
    obtain ⟨k1, c1, -, -, -, h1⟩ := (hK.2 4 (cA, .object xSit) rfl).2
    obtain ⟨k2, c2, -, -, -, h2⟩ := (hE.1.2 3 (E.2.2.2.2, .object "RailPendulum$Situation") rfl).2
    exact Option.some.inj (h1.symm.trans h2)
  subst e
  exact kk q H1 hP1 hD1 hS1
end XNB
