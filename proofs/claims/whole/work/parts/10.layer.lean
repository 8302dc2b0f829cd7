/-! own words over the kit: the environment of a contract, contracts that read and contracts that write, their starts, ends and calls -/
abbrev XE : Type := va_G × ClassId × ClassId × ClassId × ClassId
/-- the array classes: int[], byte[], boolean[], Situation[] -/
abbrev xTy (E : XE) : List (ClassId × FieldType) := [(E.2.1, .int), (E.2.2.1, .byte), (E.2.2.2.1, .boolean), (E.2.2.2.2, .object "RailPendulum$Situation")]
def xNest : List Cond := [
  .fieldLinkNest RX8 109 "RailPendulum$Situation" "motion" "LRailPendulum$Motion;" "RailPendulum",
  .fieldLinkNest RX8 127 "RailPendulum$Situation" "latestStop" "I" "RailPendulum",
  .fieldLinkNest RX8 130 "RailPendulum$Situation" "recent" "LRailPendulum$RecentSwitches;" "RailPendulum",
  .fieldLinkNest RX8 143 "RailPendulum$Situation" "region" "LRailPendulum$Region;" "RailPendulum",
  .fieldLinkNest RX8 176 "RailPendulum$Motion" "x" "I" "RailPendulum",
  .fieldLinkNest RX8 190 "RailPendulum$Situation" "tick" "I" "RailPendulum",
  .fieldLinkNest RX8 203 "RailPendulum$Situation" "mode" "I" "RailPendulum",
  .fieldLinkNest RX8 212 "RailPendulum$Situation" "lock" "I" "RailPendulum",
  .fieldLinkNest RX8 215 "RailPendulum$Situation" "resets" "I" "RailPendulum",
  .fieldLinkNest RX8 226 "RailPendulum$Situation" "force" "I" "RailPendulum",
  .fieldLinkNest RX8 240 "RailPendulum$History" "size" "I" "RailPendulum",
  .fieldLinkNest RX8 250 "RailPendulum$Snapshot" "filled" "Z" "RailPendulum",
  .fieldLinkNest RX8 254 "RailPendulum$Snapshot" "kept" "LRailPendulum$Situation;" "RailPendulum",
  .fieldLinkNest RX8 275 "RailPendulum$Situation" "stops" "I" "RailPendulum",
  .fieldLinkNest RX8 282 "RailPendulum$Situation" "switches" "I" "RailPendulum",
  .fieldLinkNest RX8 80 "RailPendulum$PlantReader" "used" "I" "RailPendulum",
  .fieldLinkNest RX8 91 "RailPendulum$PlantReader" "start" "I" "RailPendulum",
  .fieldLinkNest RX8 94 "RailPendulum$PlantReader" "numbers" "[I" "RailPendulum",
  .fieldLinkNest RX2 40 "RailPendulum$Motion" "a1" "I" "RailPendulum",
  .fieldLinkNest RX2 47 "RailPendulum$Motion" "w1" "I" "RailPendulum",
  .fieldLinkNest RX2 50 "RailPendulum$Motion" "a2" "I" "RailPendulum",
  .fieldLinkNest RX2 53 "RailPendulum$Motion" "w2" "I" "RailPendulum",
  .fieldLinkNest RX2 56 "RailPendulum$Motion" "x" "I" "RailPendulum",
  .fieldLinkNest RX2 59 "RailPendulum$Motion" "v" "I" "RailPendulum",
  .fieldLinkNest RX3 26 "RailPendulum" "USUAL" "[I" "RailPendulum",
  .fieldLinkNest RX3 55 "RailPendulum" "FIRST_NUMBER" "[I" "RailPendulum",
  .fieldLinkNest RX3 69 "RailPendulum" "LEAST" "[I" "RailPendulum",
  .fieldLinkNest RX3 72 "RailPendulum" "MOST" "[I" "RailPendulum",
  .fieldLinkNest RX5 44 "RailPendulum$Motion" "w1" "I" "RailPendulum",
  .fieldLinkNest RX5 48 "RailPendulum$Motion" "w2" "I" "RailPendulum",
  .fieldLinkNest RX6 64 "RailPendulum$Motion" "x" "I" "RailPendulum",
  .fieldLinkNest RX6 67 "RailPendulum$Motion" "v" "I" "RailPendulum",
  .methodLinkNest RX8 18 yX3_init "RailPendulum",
  .methodLinkNest RX8 25 yX6_init "RailPendulum",
  .methodLinkNest RX8 35 yX1_init "RailPendulum",
  .methodLinkNest RX8 49 yX7_init "RailPendulum",
  .methodLinkNest RX8 9 yX2_init "RailPendulum",
  .methodLinkNest RX0 15 yX6_init "RailPendulum",
  .methodLinkNest RX1 29 yX8_leanOf "RailPendulum",
  .methodLinkNest RX2 15 yX8_copyRow "RailPendulum",
  .methodLinkNest RX2 33 yX8_sineOf "RailPendulum",
  .methodLinkNest RX2 44 yX8_leanOf "RailPendulum",
  .methodLinkNest RX2 82 yX8_wrapped "RailPendulum",
  .methodLinkNest RX2 89 yX8_isBeyond "RailPendulum",
  .methodLinkNest RX3 22 yX8_putAt "RailPendulum",
  .methodLinkNest RX3 29 yX8_copyRow "RailPendulum",
  .methodLinkNest RX3 58 yX8_valueAt "RailPendulum",
  .methodLinkNest RX3 75 yX8_wordOf "RailPendulum",
  .methodLinkNest RX5 22 yX8_valueAt "RailPendulum",
  .methodLinkNest RX5 35 yX8_wrapped "RailPendulum",
  .methodLinkNest RX5 66 yX8_putAt "RailPendulum",
  .methodLinkNest RX5 70 yX8_copyRow "RailPendulum",
  .methodLinkNest RX6 11 yX1_init "RailPendulum",
  .methodLinkNest RX6 20 yX5_init "RailPendulum",
  .methodLinkNest RX6 27 yX4_init "RailPendulum",
  .methodLinkNest RX7 9 yX6_init "RailPendulum"]
def xNk (w : Cond) : Bool := match w with
  | .fieldLinkNest _ _ _ _ _ _ => true
  | .methodLinkNest _ _ _ _ => true
  | _ => false
theorem xNest_k : ∀ w ∈ xNest, xNk w = true := by decide +kernel
theorem xNw_warm {w : Cond} (hk : xNk w = true) {s U : State} (hW : s.WarmedH U.vm) (h : va_Nw w s) : va_Nw w U := by
  cases w <;> first | exact va_Nw.warmF hW h | exact va_Nw.warmM hW h | exact absurd hk (by simp [xNk])
theorem xNw_same {w : Cond} (hk : xNk w = true) {u U : State} (hvm : u.vm = U.vm) (h : va_Nw w u) : va_Nw w U := by
  cases w <;> first | exact va_Nw.same rfl hvm h | exact absurd hk (by simp [xNk])
def xEnv (E : XE) (U : State) : Prop := va_K E.1 vwCl (xTy E) U ∧ ∀ w ∈ xNest, va_Nw w U
theorem xEnv.warm {E : XE} {s U : State} (hW : s.WarmedH U.vm) (h : xEnv E s) : xEnv E U := ⟨va_K.moved hW.alike h.1, fun w hw => xNw_warm (xNest_k w hw) hW (h.2 w hw)⟩
theorem xEnv.same {E : XE} {u U : State} (hvm : u.vm = U.vm) (h : xEnv E u) : xEnv E U := ⟨va_K.moved (by rw [hvm]; exact Vm.Alike.refl U.vm) h.1, fun w hw => xNw_same (xNest_k w hw) hvm (h.2 w hw)⟩
/-- before: the world, the environment -/
def xB0 (E : XE) (ws : va_W) (U : State) : Prop := va_P E.1 vwCl ws U.heap ∧ xEnv E U ∧ va_D (fun _ => True) ws
def xB (E : XE) (sz : Nat) (ws : va_W) (U : State) : Prop := U.heap.size = sz ∧ xB0 E ws U
theorem xB0.blind {E : XE} {av : List Value} {ws : va_W} : FrameBlind (va_Pc av (xB0 E ws)) := fun a U g mk q => ⟨q.1, q.2.1, xEnv.same (u := U) (U := U.calling g mk a) rfl q.2.2.1, q.2.2.2⟩
theorem xB.blind {E : XE} {av : List Value} {sz : Nat} {ws : va_W} : FrameBlind (va_Pc av (xB E sz ws)) := fun a U g mk q => ⟨q.1, q.2.1, q.2.2.1, xEnv.same (u := U) (U := U.calling g mk a) rfl q.2.2.2.1, q.2.2.2.2⟩
/-- a method that reads: it answers v, the heap stays -/
def xQ (v : Value) : Array Value → State → Outcome → State → Prop := fun _ st o t => o = .returned (some v) ∧ t.heap = st.heap
def xR (l : Launch) (y : MethodName) (ws : List Cond) (rm : Room) (E : XE) (W0 : va_W) (av : List Value) (v : Value) : Prop := Met l y ws rm (va_Pc av (xB0 E W0)) (xQ v) 0 0 (fun _ => False)
/-- a method that writes: answer and world, both of one value q -/
def xO {T : Type} (E : XE) (A : Nat → Prop) (rv : T → Option Value) (W1 : T → va_W) (q : T) : Array Value → State → Outcome → State → Prop := fun _ st o t =>
  o = .returned (rv q) ∧ va_P E.1 vwCl (W1 q) t.heap ∧ va_D A (W1 q) ∧ va_F A st t
def xW {T : Type} (l : Launch) (y : MethodName) (ws : List Cond) (rm : Room) (E : XE) (W0 : va_W) (av : List Value) (rv : T → Option Value) (W1 : T → va_W) (q : T) (mc ms : Nat) : Prop :=
  ∀ sz, Met l y ws rm (va_Pc av (xB E sz W0)) (xO E (va_A W0 sz) rv W1 q) mc ms (va_A W0 sz)
/-- the machine's facts in a method -/
def xM (p : Program) (s : State) (m : MethodId) (args : Array Value) (meth : Method) (c : Code) (cc : ByteArray) (maxL : Nat) (ret : Option FieldType) (ws : List Cond) (own nm : String) : Prop :=
  p.tables.exec = Jvm.exec ∧ c.code = cc ∧ meth.sig.returnType = ret ∧ c.maxLocals = maxL ∧ (∀ w ∈ ws, w.before args s = true) ∧ s.vm.findClass own = some m.cls ∧ meth.locks = false ∧ meth.name = nm
section XA
variable {l : Launch} {y : MethodName} {ws ws' : List Cond} {rm : Room} {E : XE} {W0 : va_W} {av : List Value} {v : Value} {cc : ByteArray} {maxL : Nat} {ret : Option FieldType}
theorem xM.of {p : Program} {e : Env} {s : State} {m : MethodId} {args : Array Value} {below : List Frame} {meth : Method} {c : Code} {s₁ : State} (B : BodyLoose p l y (headSpec ws rm) cc maxL ret e s m args below meth c s₁) (hml : c.maxLocals = maxL) : xM p s m args meth c cc maxL ret ws y.cls y.name :=
  ⟨B.exec, B.bytes, B.returns, hml, atoms_spec (ws := ws) B.pre, findClass_of_methodNamed B.named, B.notSynchronized, (name_of_methodNamed B.named B.method).1⟩
theorem xR.of (hy : plainName y.cls = true) (hw : ws = Cond.code y cc maxL ret :: ws') (hav : (lg_sl av).length ≤ maxL)
    (body : ∀ (p : Program) (e : Env) (s : State) (m : MethodId) (args : Array Value) (below : List Frame) (meth : Method) (c : Code) (ls : Array Slot), xM p s m args meth c cc maxL ret ws y.cls y.name → xEnv E s → va_P E.1 vwCl W0 s.heap → va_D (fun _ => True) W0 → lv_has ls maxL (lv_args 0 av) →
      W p l e rm s m args below meth c s.heap [] 0 0 (MQ below (xQ v) args s 0 0 (fun _ => False)) (F0 m 0 ls [])) : xR l y ws rm E W0 av v := by
  refine Met.ofW (cc := cc) (maxL := maxL) (ret := ret) hy hw ?_
  intro p e s m args below meth c s₁ B hml hv
  obtain ⟨rfl, hP, hE, hD⟩ := hv
  have hl := lv_entry av (n := maxL) hav
  rw [lg_entry_eq]
  exact body p e s m av.toArray below meth c _ (xM.of B hml) hE hP hD hl
theorem xW.of {T : Type} {rv : T → Option Value} {W1 : T → va_W} {q : T} {mc ms : Nat} (hy : plainName y.cls = true) (hw : ws = Cond.code y cc maxL ret :: ws') (hav : (lg_sl av).length ≤ maxL)
    (body : ∀ (p : Program) (e : Env) (s : State) (m : MethodId) (args : Array Value) (below : List Frame) (meth : Method) (c : Code) (ls : Array Slot) (A : Nat → Prop), xM p s m args meth c cc maxL ret ws y.cls y.name → xEnv E s → va_P E.1 vwCl W0 s.heap → va_D A W0 → va_S A s.heap s.heap [] → (∀ q, s.heap.size ≤ q → A q) → lv_has ls maxL (lv_args 0 av) →
      W p l e rm s m args below meth c s.heap [] 0 0 (MQ below (xO E A rv W1 q) args s mc ms A) (F0 m 0 ls [])) : xW l y ws rm E W0 av rv W1 q mc ms := by
  intro sz
  refine Met.ofW (cc := cc) (maxL := maxL) (ret := ret) hy hw ?_
  intro p e s m args below meth c s₁ B hml hv
  obtain ⟨rfl, hsz, hP, hE, hD⟩ := hv
  subst hsz
  have hl := lv_entry av (n := maxL) hav
  rw [lg_entry_eq]
  exact body p e s m av.toArray below meth c _ (va_A W0 s.heap.size) (xM.of B hml) hE hP hD.self va_S.rf (fun q h => Or.inr h) hl
end XA
section XB
variable {p : Program} {l : Launch} {e : Env} {R : Room} {s : State} {m : MethodId} {args : Array Value} {below : List Frame} {meth : Method} {c : Code} {H : Heap} {locs : List Loc} {cells slots : Nat} {Q : State → Prop}
variable {E : XE} {ws : va_W} {A A0 : Nat → Prop} {H0 : Heap} {cc : ByteArray} {pc : Nat} {ls : Array Slot} {a : Nat} {rest : List Value}
-- ends of methods that read
theorem x_ir {v r : Int32} (he : r = v) (hx : p.tables.exec = Jvm.exec) (hb : c.code = cc) (hr : meth.sig.returnType = some .int) (hlk : meth.locks = false) (hdg : decode cc pc = .ok (.ireturn, 1)) : W p l e R s m args below meth c s.heap [] 0 0 (MQ below (xQ (.int r)) args s 0 0 (fun _ => False)) (F0 m pc ls [.int v]) := by
  subst he
  exact W.iret hx hb hr (fun t ht _ => ⟨rfl, ht⟩) (fun q h => by cases h) hdg hlk
theorem x_zr {v r : Int32} {ty : FieldType} (he : r = v) (hx : p.tables.exec = Jvm.exec) (hb : c.code = cc) (hr : meth.sig.returnType = some ty) (hlk : meth.locks = false) (hn : narrow ty (.int v) = .int v) (hdg : decode cc pc = .ok (.ireturn, 1)) : W p l e R s m args below meth c s.heap [] 0 0 (MQ below (xQ (.int r)) args s 0 0 (fun _ => False)) (F0 m pc ls [.int v]) := by
  subst he
  exact W.zret hx hb hr hn (fun t ht _ => ⟨rfl, ht⟩) (fun q h => by cases h) hdg hlk
theorem x_lr {v r : Int64} (he : r = v) (hx : p.tables.exec = Jvm.exec) (hb : c.code = cc) (hr : meth.sig.returnType = some .long) (hlk : meth.locks = false) (hdg : decode cc pc = .ok (.lreturn, 1)) : W p l e R s m args below meth c s.heap [] 0 0 (MQ below (xQ (.long r)) args s 0 0 (fun _ => False)) (F0 m pc ls [.long v]) := by
  subst he
  exact W.lret hx hb hr (fun t ht _ => ⟨rfl, ht⟩) (fun q h => by cases h) hdg hlk
-- ends of methods that write
theorem x_pick {w1 : va_W} (hP : va_P E.1 vwCl ws H) (hD : va_D A ws) (is : List Nat) (hn : va_nd is = true) (hs : is.map (fun i => ws[i]?) = w1.map some) : va_P E.1 vwCl w1 H ∧ va_D A w1 := by
  refine ⟨?_, hD.sub is hn hs⟩
  intro k q hq
  have h1 : (is.map (fun i => ws[i]?))[k]? = some (some q) := by rw [hs, List.getElem?_map, hq]; rfl
  rw [List.getElem?_map] at h1
  cases hi : is[k]? with
  | none => rw [hi] at h1; cases h1
  | some i => rw [hi] at h1; exact hP i q (Option.some.inj h1)
theorem x_wi {T : Type} {rv : T → Option Value} {W1 : T → va_W} {q : T} {mc ms : Nat} {v : Int32} (u : T) (he : q = u) (hv : rv u = some (.int v)) (hx : p.tables.exec = Jvm.exec) (hb : c.code = cc) (hr : meth.sig.returnType = some .int) (hlk : meth.locks = false) (hS : va_S A s.heap H locs) (hP : va_P E.1 vwCl ws H) (hD : va_D A ws) (is : List Nat) (hn : va_nd is = true) (hs : is.map (fun i => ws[i]?) = (W1 u).map some) (hc : cells ≤ mc) (hsl : slots ≤ ms) (hdg : decode cc pc = .ok (.ireturn, 1)) : W p l e R s m args below meth c H locs cells slots (MQ below (xO E A rv W1 q) args s mc ms A) (F0 m pc ls [.int v]) := by
  subst he
  obtain ⟨h1, h2⟩ := x_pick hP hD is hn hs
  exact W.widen hc hsl (W.iret hx hb hr (fun t ht _ => ⟨by rw [hv], by rw [ht]; exact h1, h2, hS.F ht⟩) hS.2.2 hdg hlk)
theorem x_wz {T : Type} {rv : T → Option Value} {W1 : T → va_W} {q : T} {mc ms : Nat} {v : Int32} {ty : FieldType} (u : T) (he : q = u) (hv : rv u = some (.int v)) (hx : p.tables.exec = Jvm.exec) (hb : c.code = cc) (hr : meth.sig.returnType = some ty) (hlk : meth.locks = false) (hnr : narrow ty (.int v) = .int v) (hS : va_S A s.heap H locs) (hP : va_P E.1 vwCl ws H) (hD : va_D A ws) (is : List Nat) (hn : va_nd is = true) (hs : is.map (fun i => ws[i]?) = (W1 u).map some) (hc : cells ≤ mc) (hsl : slots ≤ ms) (hdg : decode cc pc = .ok (.ireturn, 1)) : W p l e R s m args below meth c H locs cells slots (MQ below (xO E A rv W1 q) args s mc ms A) (F0 m pc ls [.int v]) := by
  subst he
  obtain ⟨h1, h2⟩ := x_pick hP hD is hn hs
  exact W.widen hc hsl (W.zret hx hb hr hnr (fun t ht _ => ⟨by rw [hv], by rw [ht]; exact h1, h2, hS.F ht⟩) hS.2.2 hdg hlk)
theorem x_wv {T : Type} {rv : T → Option Value} {W1 : T → va_W} {q : T} {mc ms : Nat} (u : T) (he : q = u) (hv : rv u = none) (hx : p.tables.exec = Jvm.exec) (hb : c.code = cc) (hr : meth.sig.returnType = none) (hlk : meth.locks = false) (hS : va_S A s.heap H locs) (hP : va_P E.1 vwCl ws H) (hD : va_D A ws) (is : List Nat) (hn : va_nd is = true) (hs : is.map (fun i => ws[i]?) = (W1 u).map some) (hc : cells ≤ mc) (hsl : slots ≤ ms) (hdg : decode cc pc = .ok (.return_, 1)) : W p l e R s m args below meth c H locs cells slots (MQ below (xO E A rv W1 q) args s mc ms A) (F0 m pc ls []) := by
  subst he
  obtain ⟨h1, h2⟩ := x_pick hP hD is hn hs
  exact W.widen hc hsl (W.vret hx hb hr (fun t ht _ => ⟨by rw [hv], by rw [ht]; exact h1, h2, hS.F ht⟩) hS.2.2 hdg hlk)
-- calls of methods that read: heap, world and locals stay
theorem x_call {v : Value} {ac : Array Value} {g : JFrame} (hr : va_Run p l e R s m args below meth c H locs cells slots 0 0 g rest (xQ v ac) (fun _ => False)) (kk : W p l e R s m args below meth c H locs cells slots Q { g with pc := g.pc + 3, stack := v :: rest }) : W p l e R s m args below meth c H locs cells slots Q g := by
  intro T hT X
  obtain ⟨v', st₀, t, T', L, h0, X', hL, e1, -, ⟨hv, hh⟩, st⟩ := hr T hT X
  cases hv
  obtain ⟨t2, a1, b1⟩ := kk T' (by rw [e1, hh, h0]) (Stand.forget X' (fun q h => (hL q h).elim))
  exact ⟨t2, st t2 a1, b1⟩
/-- what a callee is told of its world -/
theorem x_pre {wc : va_W} (hE : xEnv E s) (hP : va_P E.1 vwCl ws H) (hD : va_D A ws) (is : List Nat) (hn : va_nd is = true) (hs : is.map (fun i => ws[i]?) = wc.map some) : ∀ U : State, U.heap = H → s.WarmedH U.vm → xB0 E wc U := fun U hU hW => by
  obtain ⟨h1, h2⟩ := x_pick hP hD is hn hs
  exact ⟨by rw [hU]; exact h1, hE.warm hW, h2.weaken (fun _ _ _ _ => trivial)⟩
variable {y : MethodName} {bytes : ByteArray} {maxL nL index n : Nat} {ret : Option FieldType} {wsy : List Cond} {rm : Room} {Ts : List Cond} {own C : String} {b : Nat} {wc wr : va_W} {st0 : List Value} {v : Value}
theorem x_rS (As : List Value) (hM : xR l y wsy rm E wc As v) (S : CallFix p m c cc nL s args Ts own) (cw : CallB R s args own index y bytes maxL ret wsy rm 0 0 n ∧ (Cond.static y).before args s = true) (hE : xEnv E s) (hP : va_P E.1 vwCl ws H) (hD : va_D A ws) (is : List Nat) (hn : va_nd is = true) (hs : is.map (fun i => ws[i]?) = wc.map some) (hl : ls.size = nL) (hst : st0 = As.reverse ++ rest) (hlen : As.length = n) (hW : (rest.map fun v => v.category).sum ≤ 8) (hdg : decode cc pc = .ok (.invokestatic index, 3)) (hc : cells ≤ R.cells) (hsl : slots ≤ R.slots) (kk : W p l e R s m args below meth c H locs cells slots Q (F0 m (pc + 3) ls (v :: rest))) : W p l e R s m args below meth c H locs cells slots Q (F0 m pc ls st0) :=
  x_call (va_runS (g := F0 m pc ls st0) (As := As) (rest := rest) S hM cw ⟨xB0.blind, fun U hU hW => ⟨rfl, x_pre hE hP hD is hn hs U hU hW⟩⟩ rfl hlen hl hst (lv_room (rest := st0) (st := rest) hW) hdg ⟨hc, hsl⟩) kk
theorem x_rSN {host : String} (As : List Value) (hM : xR l y wsy rm E wc As v) (S : CallFix p m c cc nL s args Ts own) (cw : va_CN R s args own index y host bytes maxL ret wsy rm 0 0 n ∧ (Cond.static y).before args s = true ∧ True) (hE : xEnv E s) (hP : va_P E.1 vwCl ws H) (hD : va_D A ws) (is : List Nat) (hn : va_nd is = true) (hs : is.map (fun i => ws[i]?) = wc.map some) (hl : ls.size = nL) (hst : st0 = As.reverse ++ rest) (hlen : As.length = n) (hW : (rest.map fun v => v.category).sum ≤ 8) (hdg : decode cc pc = .ok (.invokestatic index, 3)) (hc : cells ≤ R.cells) (hsl : slots ≤ R.slots) (kk : W p l e R s m args below meth c H locs cells slots Q (F0 m (pc + 3) ls (v :: rest))) : W p l e R s m args below meth c H locs cells slots Q (F0 m pc ls st0) :=
  x_call (va_runSN (g := F0 m pc ls st0) (As := As) (rest := rest) S hM cw ⟨xB0.blind, fun U hU hW => ⟨rfl, x_pre hE hP hD is hn hs U hU hW⟩⟩ rfl hlen hl hst (lv_room (rest := st0) (st := rest) hW) hdg ⟨hc, hsl⟩) kk
theorem x_rV (As : List Value) (hM : xR l y wsy rm E wc (.ref b :: As) v) (S : CallFix p m c cc nL s args Ts own) (cw : CallW R s args own C index y bytes maxL ret wsy rm 0 0 n) (hE : xEnv E s) (hP : va_P E.1 vwCl ws H) (hD : va_D A ws) (is : List Nat) (hn : va_nd is = true) (hs : is.map (fun i => ws[i]?) = wc.map some) {ci q0 : Nat} {q : vw_C} {fs : List Value} (hcl : vwCl[ci]? = some q) (hC : q.1 = C) (hq : ws[q0]? = some (b, .inr (ci, fs))) (hl : ls.size = nL) (hst : st0 = As.reverse ++ .ref b :: rest) (hlen : As.length = n) (hW : (rest.map fun v => v.category).sum ≤ 8) (hdg : decode cc pc = .ok (.invokevirtual index, 3)) (hc : cells ≤ R.cells) (hsl : slots ≤ R.slots) (kk : W p l e R s m args below meth c H locs cells slots Q (F0 m (pc + 3) ls (v :: rest))) : W p l e R s m args below meth c H locs cells slots Q (F0 m pc ls st0) := by
  subst hC
  exact x_call (va_runV (g := F0 m pc ls st0) (As := As) (rest := rest) S hM cw ⟨xB0.blind, va_recv hE.1 hP hcl hq, fun U hU hW => ⟨rfl, x_pre hE hP hD is hn hs U hU hW⟩⟩ rfl hlen hl hst (lv_room (rest := st0) (st := rest) hW) hdg ⟨hc, hsl⟩) kk
-- calls of methods that write: their cells go behind the others
theorem x_cw {T : Type} {rv : T → Option Value} {W1 : T → va_W} {q : T} {ac : Array Value} {g : JFrame} {mc ms : Nat} (hr : va_Run p l e R s m args below meth c H locs cells slots mc ms g rest (xO E (va_A wc H.size) rv W1 q ac) (va_A wc H.size)) (hP : va_P E.1 vwCl ws H) (hD : va_D A0 ws) (hS : va_S A0 H0 H locs) (hA : ∀ q, H0.size ≤ q → A0 q) (isC isR : List Nat) (hC : isC.map (fun i => ws[i]?) = wc.map some) (hR : isR.map (fun i => ws[i]?) = wr.map some) (hn : va_nd isR = true) (hdis : ∀ i ∈ isR, i ∉ isC)
    (kk : ∀ (u : T) (H1 : Heap) (locs1 : List Loc), u = q → va_P E.1 vwCl (wr ++ W1 u) H1 → va_D A0 (wr ++ W1 u) → va_S A0 H0 H1 locs1 → W p l e R s m args below meth c H1 locs1 (cells + mc) (slots + ms) Q { g with pc := g.pc + 3, stack := (rv u).toList ++ rest }) : W p l e R s m args below meth c H locs cells slots Q g := by
  intro T hT X
  obtain ⟨v', st₀, t, T', L, h0, X', hL, e1, -, ⟨hv, h1, h2, hF⟩, st⟩ := hr T hT X
  cases hv
  have hFc := va_free hD hS hA isC hC
  have hk : ∀ q : Nat, q < H.size → ¬ va_A wc H.size q → t.heap[q]? = H[q]? := fun q x y => by have := hF.2 q (by rw [h0]; exact x) y; rw [this, h0]
  obtain ⟨hP1, hD1⟩ := va_join hP hD isC isR hC hR hn hdis hk hFc h1 h2
  obtain ⟨t2, a1, b1⟩ := kk q t.heap (locs ++ L) rfl hP1 hD1 ⟨Nat.le_trans hS.1 (by rw [← h0]; exact hF.1), fun z z1 z2 => by rw [hk z (Nat.lt_of_lt_of_le z1 hS.1) (fun w => z2 (hFc z w))]; exact hS.2.1 z z1 z2, fun z hz => by
    rcases List.mem_append.mp hz with h | h
    · exact hS.2.2 z h
    · exact hFc _ (hL z h)⟩ T' e1 X'
  exact ⟨t2, st t2 a1, b1⟩
variable {T : Type} {rv : T → Option Value} {W1 : T → va_W} {q : T} {mc ms : Nat}
theorem x_wS (As : List Value) (hM : xW l y wsy rm E wc As rv W1 q mc ms) (S : CallFix p m c cc nL s args Ts own) (cw : CallB R s args own index y bytes maxL ret wsy rm mc ms n ∧ (Cond.static y).before args s = true) (hE : xEnv E s) (hP : va_P E.1 vwCl ws H) (hD : va_D A0 ws) (hS : va_S A0 H0 H locs) (hA : ∀ q, H0.size ≤ q → A0 q) (isC isR : List Nat) (hnC : va_nd isC = true) (hC : isC.map (fun i => ws[i]?) = wc.map some) (hR : isR.map (fun i => ws[i]?) = wr.map some) (hn : va_nd isR = true) (hdis : ∀ i ∈ isR, i ∉ isC) (hl : ls.size = nL) (hst : st0 = As.reverse ++ rest) (hlen : As.length = n) (hW : (rest.map fun v => v.category).sum ≤ 8) (hdg : decode cc pc = .ok (.invokestatic index, 3)) (hc : cells + mc ≤ R.cells) (hsl : slots + ms ≤ R.slots)
    (kk : ∀ (u : T) (H1 : Heap) (locs1 : List Loc), u = q → va_P E.1 vwCl (wr ++ W1 u) H1 → va_D A0 (wr ++ W1 u) → va_S A0 H0 H1 locs1 → W p l e R s m args below meth c H1 locs1 (cells + mc) (slots + ms) Q (F0 m (pc + 3) ls ((rv u).toList ++ rest))) : W p l e R s m args below meth c H locs cells slots Q (F0 m pc ls st0) :=
  x_cw (va_runS (g := F0 m pc ls st0) (As := As) (rest := rest) S (hM H.size) cw ⟨xB.blind, fun U hU hW => ⟨rfl, by rw [hU], x_pre hE hP hD isC hnC hC U hU hW⟩⟩ rfl hlen hl hst (lv_room (rest := st0) (st := rest) hW) hdg ⟨hc, hsl⟩) hP hD hS hA isC isR hC hR hn hdis kk
theorem x_wSN {host : String} (As : List Value) (hM : xW l y wsy rm E wc As rv W1 q mc ms) (S : CallFix p m c cc nL s args Ts own) (cw : va_CN R s args own index y host bytes maxL ret wsy rm mc ms n ∧ (Cond.static y).before args s = true ∧ True) (hE : xEnv E s) (hP : va_P E.1 vwCl ws H) (hD : va_D A0 ws) (hS : va_S A0 H0 H locs) (hA : ∀ q, H0.size ≤ q → A0 q) (isC isR : List Nat) (hnC : va_nd isC = true) (hC : isC.map (fun i => ws[i]?) = wc.map some) (hR : isR.map (fun i => ws[i]?) = wr.map some) (hn : va_nd isR = true) (hdis : ∀ i ∈ isR, i ∉ isC) (hl : ls.size = nL) (hst : st0 = As.reverse ++ rest) (hlen : As.length = n) (hW : (rest.map fun v => v.category).sum ≤ 8) (hdg : decode cc pc = .ok (.invokestatic index, 3)) (hc : cells + mc ≤ R.cells) (hsl : slots + ms ≤ R.slots)
    (kk : ∀ (u : T) (H1 : Heap) (locs1 : List Loc), u = q → va_P E.1 vwCl (wr ++ W1 u) H1 → va_D A0 (wr ++ W1 u) → va_S A0 H0 H1 locs1 → W p l e R s m args below meth c H1 locs1 (cells + mc) (slots + ms) Q (F0 m (pc + 3) ls ((rv u).toList ++ rest))) : W p l e R s m args below meth c H locs cells slots Q (F0 m pc ls st0) :=
  x_cw (va_runSN (g := F0 m pc ls st0) (As := As) (rest := rest) S (hM H.size) cw ⟨xB.blind, fun U hU hW => ⟨rfl, by rw [hU], x_pre hE hP hD isC hnC hC U hU hW⟩⟩ rfl hlen hl hst (lv_room (rest := st0) (st := rest) hW) hdg ⟨hc, hsl⟩) hP hD hS hA isC isR hC hR hn hdis kk
theorem x_wV (As : List Value) (hM : xW l y wsy rm E wc (.ref b :: As) rv W1 q mc ms) (S : CallFix p m c cc nL s args Ts own) (cw : CallW R s args own C index y bytes maxL ret wsy rm mc ms n) (hE : xEnv E s) (hP : va_P E.1 vwCl ws H) (hD : va_D A0 ws) (hS : va_S A0 H0 H locs) (hA : ∀ q, H0.size ≤ q → A0 q) (isC isR : List Nat) (hnC : va_nd isC = true) (hC : isC.map (fun i => ws[i]?) = wc.map some) (hR : isR.map (fun i => ws[i]?) = wr.map some) (hn : va_nd isR = true) (hdis : ∀ i ∈ isR, i ∉ isC) {ci q0 : Nat} {qc : vw_C} {fs : List Value} (hcl : vwCl[ci]? = some qc) (hCn : qc.1 = C) (hq : ws[q0]? = some (b, .inr (ci, fs))) (hl : ls.size = nL) (hst : st0 = As.reverse ++ .ref b :: rest) (hlen : As.length = n) (hW : (rest.map fun v => v.category).sum ≤ 8) (hdg : decode cc pc = .ok (.invokevirtual index, 3)) (hc : cells + mc ≤ R.cells) (hsl : slots + ms ≤ R.slots)
    (kk : ∀ (u : T) (H1 : Heap) (locs1 : List Loc), u = q → va_P E.1 vwCl (wr ++ W1 u) H1 → va_D A0 (wr ++ W1 u) → va_S A0 H0 H1 locs1 → W p l e R s m args below meth c H1 locs1 (cells + mc) (slots + ms) Q (F0 m (pc + 3) ls ((rv u).toList ++ rest))) : W p l e R s m args below meth c H locs cells slots Q (F0 m pc ls st0) := by
  subst hCn
  exact x_cw (va_runV (g := F0 m pc ls st0) (As := As) (rest := rest) S (hM H.size) cw ⟨xB.blind, va_recv hE.1 hP hcl hq, fun U hU hW => ⟨rfl, by rw [hU], x_pre hE hP hD isC hnC hC U hU hW⟩⟩ rfl hlen hl hst (lv_room (rest := st0) (st := rest) hW) hdg ⟨hc, hsl⟩) hP hD hS hA isC isR hC hR hn hdis kk
theorem x_wI (As : List Value) (hM : xW l y wsy rm E wc (.ref b :: As) rv W1 q mc ms) (S : CallFix p m c cc nL s args Ts own) (cw : CallB R s args own index y bytes maxL none wsy rm mc ms n ∧ y.name = "<init>" ∧ (Cond.instanceMethod y).before args s = true) (hE : xEnv E s) (hP : va_P E.1 vwCl ws H) (hD : va_D A0 ws) (hS : va_S A0 H0 H locs) (hA : ∀ q, H0.size ≤ q → A0 q) (isC isR : List Nat) (hnC : va_nd isC = true) (hC : isC.map (fun i => ws[i]?) = wc.map some) (hR : isR.map (fun i => ws[i]?) = wr.map some) (hn : va_nd isR = true) (hdis : ∀ i ∈ isR, i ∉ isC) (hl : ls.size = nL) (hst : st0 = As.reverse ++ .ref b :: rest) (hlen : As.length = n) (hW : (rest.map fun v => v.category).sum ≤ 8) (hdg : decode cc pc = .ok (.invokespecial index, 3)) (hc : cells + mc ≤ R.cells) (hsl : slots + ms ≤ R.slots)
    (kk : ∀ (u : T) (H1 : Heap) (locs1 : List Loc), u = q → va_P E.1 vwCl (wr ++ W1 u) H1 → va_D A0 (wr ++ W1 u) → va_S A0 H0 H1 locs1 → W p l e R s m args below meth c H1 locs1 (cells + mc) (slots + ms) Q (F0 m (pc + 3) ls ((rv u).toList ++ rest))) : W p l e R s m args below meth c H locs cells slots Q (F0 m pc ls st0) :=
  x_cw (va_runI (g := F0 m pc ls st0) (As := As) (rest := rest) S (hM H.size) cw ⟨xB.blind, fun U hU hW => ⟨rfl, by rw [hU], x_pre hE hP hD isC hnC hC U hU hW⟩⟩ rfl hlen hl hst (lv_room (rest := st0) (st := rest) hW) hdg ⟨hc, hsl⟩) hP hD hS hA isC isR hC hR hn hdis kk
theorem x_wIN {host : String} (As : List Value) (hM : xW l y wsy rm E wc (.ref b :: As) rv W1 q mc ms) (S : CallFix p m c cc nL s args Ts own) (cw : va_CN R s args own index y host bytes maxL none wsy rm mc ms n ∧ y.name = "<init>" ∧ (Cond.instanceMethod y).before args s = true) (hE : xEnv E s) (hP : va_P E.1 vwCl ws H) (hD : va_D A0 ws) (hS : va_S A0 H0 H locs) (hA : ∀ q, H0.size ≤ q → A0 q) (isC isR : List Nat) (hnC : va_nd isC = true) (hC : isC.map (fun i => ws[i]?) = wc.map some) (hR : isR.map (fun i => ws[i]?) = wr.map some) (hn : va_nd isR = true) (hdis : ∀ i ∈ isR, i ∉ isC) (hl : ls.size = nL) (hst : st0 = As.reverse ++ .ref b :: rest) (hlen : As.length = n) (hW : (rest.map fun v => v.category).sum ≤ 8) (hdg : decode cc pc = .ok (.invokespecial index, 3)) (hc : cells + mc ≤ R.cells) (hsl : slots + ms ≤ R.slots)
    (kk : ∀ (u : T) (H1 : Heap) (locs1 : List Loc), u = q → va_P E.1 vwCl (wr ++ W1 u) H1 → va_D A0 (wr ++ W1 u) → va_S A0 H0 H1 locs1 → W p l e R s m args below meth c H1 locs1 (cells + mc) (slots + ms) Q (F0 m (pc + 3) ls ((rv u).toList ++ rest))) : W p l e R s m args below meth c H locs cells slots Q (F0 m pc ls st0) :=
  x_cw (va_runIN (g := F0 m pc ls st0) (As := As) (rest := rest) S (hM H.size) cw ⟨xB.blind, fun U hU hW => ⟨rfl, by rw [hU], x_pre hE hP hD isC hnC hC U hU hW⟩⟩ rfl hlen hl hst (lv_room (rest := st0) (st := rest) hW) hdg ⟨hc, hsl⟩) hP hD hS hA isC isR hC hR hn hdis kk
-- arrays of ints, by the place's number
theorem x_iald {D : va_G} {cl : List vw_C} {tys : List (ClassId × FieldType)} (hx : p.tables.exec = Jvm.exec) (hb : c.code = cc) (hK : va_K D cl tys s) (hP : va_P D cl ws H) (q0 t0 : Nat) {cA : ClassId} {n : Nat} {f : Nat → Int32} (ha : ws[q0]? = some (a, .inl (cA, n, .inl f))) (ht : tys[t0]? = some (cA, .int)) {i : Int32} (k : Nat) (hk : i.toNatClampNeg = k) (hin : vp_in i n) (hdg : decode cc pc = .ok (.iaload, 1))
    (kk : W p l e R s m args below meth c H locs cells slots Q (F0 m (pc + 1) ls (.int (f k) :: rest))) : W p l e R s m args below meth c H locs cells slots Q (F0 m pc ls (.int i :: .ref a :: rest)) := by
  subst hk
  exact va_iald hx hb hK hP q0 t0 ha ht hin hdg kk
theorem x_iast {D : va_G} {cl : List vw_C} {tys : List (ClassId × FieldType)} (hx : p.tables.exec = Jvm.exec) (hb : c.code = cc) (hK : va_K D cl tys s) (hP : va_P D cl ws H) (hD : va_D A ws) (hS : va_S A H0 H locs) (q0 t0 : Nat) {cA : ClassId} {n : Nat} {f : Nat → Int32} (ha : ws[q0]? = some (a, .inl (cA, n, .inl f))) (ht : tys[t0]? = some (cA, .int)) {i : Int32} {x : Int32} (k : Nat) (hk : i.toNatClampNeg = k) (hin : vp_in i n) (hdg : decode cc pc = .ok (.iastore, 1))
    (kk : ∀ (H1 : Heap) (locs1 : List Loc), va_P D cl (ws.set q0 (a, .inl (cA, n, .inl (upd f k x)))) H1 → va_D A (ws.set q0 (a, .inl (cA, n, .inl (upd f k x)))) → va_S A H0 H1 locs1 → W p l e R s m args below meth c H1 locs1 cells slots Q (F0 m (pc + 1) ls rest)) : W p l e R s m args below meth c H locs cells slots Q (F0 m pc ls (.int x :: .int i :: .ref a :: rest)) := by
  subst hk
  exact va_iast hx hb hK hP hD hS q0 t0 ha ht hin hdg kk
end XB
theorem x_in {i : Int32} {n : Nat} (h1 : ¬ i < 0) (h2 : i < nI n) (hn : n < 2 ^ 31) : vp_in i n := by
  rw [vp_in_iff]
  rw [Int32.lt_iff_toInt_lt, nI_toInt hn] at h2
  rw [Int32.lt_iff_toInt_lt, Int32.toInt_zero] at h1
  omega
def xMax (x y : Int32) : Int32 := if x < y then y else x
def xMin (x y : Int32) : Int32 := if y < x then y else x
def xAbs (x : Int32) : Int32 := if 0 ≤ x then x else 0 - x
section XD
variable {p : Program} {l : Launch} {e : Env} {R : Room} {s : State} {m : MethodId} {args : Array Value} {below : List Frame} {meth : Method} {c : Code} {H : Heap} {locs : List Loc} {cells slots : Nat} {Q : State → Prop}
variable {cc : ByteArray} {pc : Nat} {ls : Array Slot} {a : Nat} {rest : List Value} {ws : va_W} {A : Nat → Prop} {H0 : Heap}
theorem x_mmax (hx : p.tables.exec = Jvm.exec) (hb : c.code = cc) (hml : c.maxLocals = ls.size) {own : String} {index : Nat} (hown : s.vm.findClass own = some m.cls) (h1 : (Cond.methodLink own index Lib.Math.max.name).before args s = true) (h2 : (Cond.static Lib.Math.max.name).before args s = true) (h3 : (Cond.initialized "java/lang/Math").before args s = true) (h4 : (Cond.code Lib.Math.max.name Lib.Math.max.code 2 (some .int)).before args s = true) {x y : Int32} (hdg : decode cc pc = .ok (.invokestatic index, 3)) (hframes : 1 ≤ R.frames) (hlocals : (rest.map fun v => v.category).sum + 13 ≤ R.locals) (hc : cells ≤ R.cells) (hs : slots ≤ R.slots)
    (kk : W p l e R s m args below meth c H locs cells slots Q (F0 m (pc + 3) ls (.int (xMax x y) :: rest))) : W p l e R s m args below meth c H locs cells slots Q (F0 m pc ls (.int y :: .int x :: rest)) := va_mmax hx hb hml hown h1 h2 h3 h4 hframes hlocals hc hs hdg kk
theorem x_mmin (hx : p.tables.exec = Jvm.exec) (hb : c.code = cc) (hml : c.maxLocals = ls.size) {own : String} {index : Nat} (hown : s.vm.findClass own = some m.cls) (h1 : (Cond.methodLink own index Lib.Math.min.name).before args s = true) (h2 : (Cond.static Lib.Math.min.name).before args s = true) (h3 : (Cond.initialized "java/lang/Math").before args s = true) (h4 : (Cond.code Lib.Math.min.name Lib.Math.min.code 2 (some .int)).before args s = true) {x y : Int32} (hdg : decode cc pc = .ok (.invokestatic index, 3)) (hframes : 1 ≤ R.frames) (hlocals : (rest.map fun v => v.category).sum + 13 ≤ R.locals) (hc : cells ≤ R.cells) (hs : slots ≤ R.slots)
    (kk : W p l e R s m args below meth c H locs cells slots Q (F0 m (pc + 3) ls (.int (xMin x y) :: rest))) : W p l e R s m args below meth c H locs cells slots Q (F0 m pc ls (.int y :: .int x :: rest)) := va_mmin hx hb hml hown h1 h2 h3 h4 hframes hlocals hc hs hdg kk
theorem x_mabs (hx : p.tables.exec = Jvm.exec) (hb : c.code = cc) (hml : c.maxLocals = ls.size) {own : String} {index : Nat} (hown : s.vm.findClass own = some m.cls) (h1 : (Cond.methodLink own index Lib.Math.abs.name).before args s = true) (h2 : (Cond.static Lib.Math.abs.name).before args s = true) (h3 : (Cond.initialized "java/lang/Math").before args s = true) (h4 : (Cond.code Lib.Math.abs.name Lib.Math.abs.code 1 (some .int)).before args s = true) {x : Int32} (hdg : decode cc pc = .ok (.invokestatic index, 3)) (hframes : 1 ≤ R.frames) (hlocals : (rest.map fun v => v.category).sum + 13 ≤ R.locals) (hc : cells ≤ R.cells) (hs : slots ≤ R.slots)
    (kk : W p l e R s m args below meth c H locs cells slots Q (F0 m (pc + 3) ls (.int (xAbs x) :: rest))) : W p l e R s m args below meth c H locs cells slots Q (F0 m pc ls (.int x :: rest)) := va_mabs hx hb hml hown h1 h2 h3 h4 hframes hlocals hc hs hdg kk
theorem x_bald {D : va_G} {cl : List vw_C} {tys : List (ClassId × FieldType)} (hx : p.tables.exec = Jvm.exec) (hb : c.code = cc) (hK : va_K D cl tys s) (hP : va_P D cl ws H) (q0 t0 : Nat) {cA : ClassId} {n : Nat} {f : Nat → Int32} (ha : ws[q0]? = some (a, .inl (cA, n, .inl f))) (ht : tys[t0]? = some (cA, .byte)) {i : Int32} (k : Nat) (hk : i.toNatClampNeg = k) (hin : vp_in i n) (hdg : decode cc pc = .ok (.baload, 1))
    (kk : W p l e R s m args below meth c H locs cells slots Q (F0 m (pc + 1) ls (.int (f k) :: rest))) : W p l e R s m args below meth c H locs cells slots Q (F0 m pc ls (.int i :: .ref a :: rest)) := by
  subst hk
  exact va_bald hx hb hK hP q0 t0 ha ht hin hdg kk
theorem x_bast {D : va_G} {cl : List vw_C} {tys : List (ClassId × FieldType)} (hx : p.tables.exec = Jvm.exec) (hb : c.code = cc) (hK : va_K D cl tys s) (hP : va_P D cl ws H) (hD : va_D A ws) (hS : va_S A H0 H locs) (q0 t0 : Nat) {cA : ClassId} {n : Nat} {f : Nat → Int32} (ha : ws[q0]? = some (a, .inl (cA, n, .inl f))) (ht : tys[t0]? = some (cA, .byte)) {i : Int32} {x : Int32} (k : Nat) (hk : i.toNatClampNeg = k) (hin : vp_in i n) (hdg : decode cc pc = .ok (.bastore, 1))
    (kk : ∀ (H1 : Heap) (locs1 : List Loc), va_P D cl (ws.set q0 (a, .inl (cA, n, .inl (upd f k (vp_nar .byte x))))) H1 → va_D A (ws.set q0 (a, .inl (cA, n, .inl (upd f k (vp_nar .byte x))))) → va_S A H0 H1 locs1 → W p l e R s m args below meth c H1 locs1 cells slots Q (F0 m (pc + 1) ls rest)) : W p l e R s m args below meth c H locs cells slots Q (F0 m pc ls (.int x :: .int i :: .ref a :: rest)) := by
  subst hk
  exact va_bast hx hb hK hP hD hS q0 t0 ha ht hin hdg kk
theorem x_zald {D : va_G} {cl : List vw_C} {tys : List (ClassId × FieldType)} (hx : p.tables.exec = Jvm.exec) (hb : c.code = cc) (hK : va_K D cl tys s) (hP : va_P D cl ws H) (q0 t0 : Nat) {cA : ClassId} {n : Nat} {f : Nat → Int32} (ha : ws[q0]? = some (a, .inl (cA, n, .inl f))) (ht : tys[t0]? = some (cA, .boolean)) {i : Int32} (k : Nat) (hk : i.toNatClampNeg = k) (hin : vp_in i n) (hdg : decode cc pc = .ok (.baload, 1))
    (kk : W p l e R s m args below meth c H locs cells slots Q (F0 m (pc + 1) ls (.int (f k) :: rest))) : W p l e R s m args below meth c H locs cells slots Q (F0 m pc ls (.int i :: .ref a :: rest)) := by
  subst hk
  exact va_zald hx hb hK hP q0 t0 ha ht hin hdg kk
end XD
theorem x_out0_7 {x : Int32} (h0 : ¬ x = 0) (h1 : ¬ x = 1) (h2 : ¬ x = 2) (h3 : ¬ x = 3) (h4 : ¬ x = 4) (h5 : ¬ x = 5) (h6 : ¬ x = 6) (h7 : ¬ x = 7) : x.toInt < 0 ∨ 7 < x.toInt := by
  have a0 := lv_neT h0 (a := 0) (by decide)
  have a1 := lv_neT h1 (a := 1) (by decide)
  have a2 := lv_neT h2 (a := 2) (by decide)
  have a3 := lv_neT h3 (a := 3) (by decide)
  have a4 := lv_neT h4 (a := 4) (by decide)
  have a5 := lv_neT h5 (a := 5) (by decide)
  have a6 := lv_neT h6 (a := 6) (by decide)
  have a7 := lv_neT h7 (a := 7) (by decide)
  omega
theorem x_out0_8 {x : Int32} (h0 : ¬ x = 0) (h1 : ¬ x = 1) (h2 : ¬ x = 2) (h3 : ¬ x = 3) (h4 : ¬ x = 4) (h5 : ¬ x = 5) (h6 : ¬ x = 6) (h7 : ¬ x = 7) (h8 : ¬ x = 8) : x.toInt < 0 ∨ 8 < x.toInt := by
  have a := x_out0_7 h0 h1 h2 h3 h4 h5 h6 h7
  have a8 := lv_neT h8 (a := 8) (by decide)
  omega
theorem x_cmp_pos {x : Int64} (h : 0 < lg_cmp x 0) : ¬ x = 0 := by
  intro q
  subst q
  revert h
  decide
theorem x_inl {i N : Int32} {n : Nat} (h1 : ¬ i < 0) (h2 : ¬ N ≤ i) (hN : N.toInt = n) : vp_in i n := by
  rw [vp_in_iff]
  rw [Int32.le_iff_toInt_le, hN] at h2
  rw [Int32.lt_iff_toInt_lt, Int32.toInt_zero] at h1
  omega
theorem x_min_same (x : Int32) : xMin x x = x := by
  unfold xMin
  split <;> rfl
theorem x_lit {i : Int32} {n m k : Nat} (hn : m ≤ n) (h : i.toInt = k) (hk : k < m) : vp_in i n := by
  rw [vp_in_iff, h]
  omega
/-- counting loops: i from 0 up to N -/
theorem x_up {i N : Int32} (h1 : ¬ i < 0) (h2 : ¬ N ≤ i) : (i + 1).toInt = i.toInt + 1 := by
  have hN : N.toInt < 2147483648 := by have := N.toInt_lt; omega
  rw [Int32.le_iff_toInt_le] at h2
  rw [Int32.lt_iff_toInt_lt, Int32.toInt_zero] at h1
  rw [Int32.toInt_add]
  have e1 : (1 : Int32).toInt = 1 := by decide
  rw [e1, Int.bmod_eq_of_le (by omega) (by omega)]
theorem x_step {i N : Int32} (h1 : ¬ i < 0) (h2 : ¬ N ≤ i) : ¬ i + 1 < 0 := by
  have h := x_up h1 h2
  rw [Int32.lt_iff_toInt_lt, Int32.toInt_zero] at h1 ⊢
  omega
theorem x_nat (x : Int32) : x.toNatClampNeg = x.toInt.toNat := rfl
def xMu (N i : Int32) : Nat := (N.toInt - i.toInt).toNat
theorem x_mu {i N : Int32} {k : Nat} (h1 : ¬ i < 0) (h2 : ¬ N ≤ i) (h : xMu N i < k + 1) : xMu N (i + 1) < k := by
  have e := x_up h1 h2
  unfold xMu at h ⊢
  rw [Int32.le_iff_toInt_le] at h2
  rw [e]
  omega
theorem x_in_add {i k N : Int32} {n : Nat} (h1 : ¬ i < 0) (h2 : ¬ N ≤ i) (hk : 0 ≤ k.toInt) (hs : k.toInt + N.toInt ≤ n) (hn : n < 2 ^ 31) : vp_in (k + i) n := by
  rw [Int32.le_iff_toInt_le] at h2
  rw [Int32.lt_iff_toInt_lt, Int32.toInt_zero] at h1
  rw [vp_in_iff, Int32.toInt_add, Int.bmod_eq_of_le (by omega) (by omega)]
  omega
/-- the addresses of a world: apart, and in A -/
def xD (A : Nat → Prop) (ad : List Nat) : Prop := (∀ (i j p q : Nat), ad[i]? = some p → ad[j]? = some q → p = q → i = j) ∧ ∀ (k q : Nat), ad[k]? = some q → A q
theorem xD.d {A : Nat → Prop} {ad : List Nat} (h : xD A ad) {ws : va_W} (e : ws.map Prod.fst = ad) : va_D A ws := by
  subst e
  exact ⟨fun i j p q hi hj hpq => h.1 i j p.1 q.1 (by rw [List.getElem?_map, hi]; rfl) (by rw [List.getElem?_map, hj]; rfl) hpq, fun k q hk => h.2 k q.1 (by rw [List.getElem?_map, hk]; rfl)⟩
theorem xD.of {A : Nat → Prop} {ws : va_W} (h : va_D A ws) {ad : List Nat} (e : ws.map Prod.fst = ad) : xD A ad := by
  subst e
  refine ⟨fun i j p q hi hj hpq => ?_, fun k q hk => ?_⟩
  · rw [List.getElem?_map] at hi hj
    obtain ⟨a, ha, rfl⟩ := Option.map_eq_some_iff.mp hi
    obtain ⟨b, hb, rfl⟩ := Option.map_eq_some_iff.mp hj
    exact h.1 i j a b ha hb hpq
  · rw [List.getElem?_map] at hk
    obtain ⟨a, ha, rfl⟩ := Option.map_eq_some_iff.mp hk
    exact h.2 k a ha
theorem x_bm {z : Int} (h1 : -2147483648 ≤ z) (h2 : z < 2147483648) : z.bmod (2 ^ 32) = z := Int.bmod_eq_of_le (by omega) (by omega)
theorem x_bm64 {z : Int} (h1 : -9223372036854775808 ≤ z) (h2 : z < 9223372036854775808) : z.bmod (2 ^ 64) = z := Int.bmod_eq_of_le (by omega) (by omega)
theorem x_rg (x : Int32) : -2147483648 ≤ x.toInt ∧ x.toInt < 2147483648 := ⟨by have := x.le_toInt; omega, by have := x.toInt_lt; omega⟩
theorem x_addI {x y : Int32} (h1 : -2147483648 ≤ x.toInt + y.toInt) (h2 : x.toInt + y.toInt < 2147483648) : (x + y).toInt = x.toInt + y.toInt := by rw [Int32.toInt_add, x_bm h1 h2]
theorem x_subI {x y : Int32} (h1 : -2147483648 ≤ x.toInt - y.toInt) (h2 : x.toInt - y.toInt < 2147483648) : (x - y).toInt = x.toInt - y.toInt := by rw [Int32.toInt_sub, x_bm h1 h2]
theorem x_mulI {x y : Int32} (h1 : -2147483648 ≤ x.toInt * y.toInt) (h2 : x.toInt * y.toInt < 2147483648) : (x * y).toInt = x.toInt * y.toInt := by rw [Int32.toInt_mul, x_bm h1 h2]
theorem x_mulL {x y : Int64} (h1 : -9223372036854775808 ≤ x.toInt * y.toInt) (h2 : x.toInt * y.toInt < 9223372036854775808) : (x * y).toInt = x.toInt * y.toInt := by rw [Int64.toInt_mul, x_bm64 h1 h2]
theorem x_subL {x y : Int64} (h1 : -9223372036854775808 ≤ x.toInt - y.toInt) (h2 : x.toInt - y.toInt < 9223372036854775808) : (x - y).toInt = x.toInt - y.toInt := by rw [Int64.toInt_sub, x_bm64 h1 h2]
theorem x_prod {a : Int32} (h0 : 0 ≤ a.toInt) (h1 : a.toInt ≤ 2048) : 0 ≤ (a.toInt64 * (2048 - a).toInt64).toInt ∧ (a.toInt64 * (2048 - a).toInt64).toInt ≤ 4194304 ∧ (a.toInt64 * (2048 - a).toInt64).toInt = a.toInt * (2048 - a.toInt) := by
  have k : (2048 : Int32).toInt = 2048 := by decide
  have e1 : (2048 - a).toInt = 2048 - a.toInt := by rw [x_subI (by rw [k]; omega) (by rw [k]; omega), k]
  have p0 : 0 ≤ a.toInt * (2048 - a.toInt) := Int.mul_nonneg h0 (by omega)
  have p1 : a.toInt * (2048 - a.toInt) ≤ 2048 * 2048 := Int.mul_le_mul h1 (by omega) (by omega) (by omega)
  have e2 : (a.toInt64 * (2048 - a).toInt64).toInt = a.toInt * (2048 - a.toInt) := by
    rw [x_mulL (by rw [Int32.toInt_toInt64, Int32.toInt_toInt64, e1]; omega) (by rw [Int32.toInt_toInt64, Int32.toInt_toInt64, e1]; omega), Int32.toInt_toInt64, Int32.toInt_toInt64, e1]
  exact ⟨by rw [e2]; exact p0, by rw [e2]; omega, e2⟩
theorem x_sd {a : Int32} (h0 : 0 ≤ a.toInt) (h1 : a.toInt ≤ 2048) : ¬ (20971520 - (4 * (a.toInt64 * (2048 - a).toInt64)) : Int64) = 0 := by
  obtain ⟨p0, p1, -⟩ := x_prod h0 h1
  have k4 : (4 : Int64).toInt = 4 := by decide
  have kd : (20971520 : Int64).toInt = 20971520 := by decide
  have e3 : (4 * (a.toInt64 * (2048 - a).toInt64)).toInt = 4 * (a.toInt64 * (2048 - a).toInt64).toInt := by
    rw [x_mulL (by rw [k4]; omega) (by rw [k4]; omega), k4]
  have e4 : (20971520 - (4 * (a.toInt64 * (2048 - a).toInt64))).toInt = 20971520 - 4 * (a.toInt64 * (2048 - a).toInt64).toInt := by
    rw [x_subL (by rw [kd, e3]; omega) (by rw [kd, e3]; omega), kd, e3]
  intro q
  have z : (20971520 - (4 * (a.toInt64 * (2048 - a).toInt64))).toInt = (0 : Int64).toInt := by rw [q]
  have z0 : (0 : Int64).toInt = 0 := by decide
  rw [e4, z0] at z
  omega
theorem x_sdiv1 {angle : Int32} (h0 : 0 ≤ angle) (h1 : angle < 4096) (c : 2048 ≤ angle) : ¬ (20971520 - (4 * ((angle - 2048).toInt64 * (2048 - (angle - 2048)).toInt64)) : Int64) = 0 := by
  have k : (2048 : Int32).toInt = 2048 := by decide
  have k2 : (4096 : Int32).toInt = 4096 := by decide
  rw [Int32.le_iff_toInt_le, k] at c
  rw [Int32.lt_iff_toInt_lt, k2] at h1
  have e : (angle - 2048).toInt = angle.toInt - 2048 := by rw [x_subI (by rw [k]; omega) (by rw [k]; omega), k]
  exact x_sd (by omega) (by omega)
theorem x_sdiv2 {angle : Int32} (h0 : 0 ≤ angle) (_ : angle < 4096) (c : ¬ 2048 ≤ angle) : ¬ (20971520 - (4 * (angle.toInt64 * (2048 - angle).toInt64)) : Int64) = 0 := by
  have k : (2048 : Int32).toInt = 2048 := by decide
  rw [Int32.le_iff_toInt_le, k] at c
  rw [Int32.le_iff_toInt_le, Int32.toInt_zero] at h0
  exact x_sd h0 (by omega)
/-- the remainder of a division by 4096, truncated -/
theorem x_rem (v : Int32) : (v - v / 4096 * 4096).toInt = v.toInt.tmod 4096 := by
  have k : (4096 : Int32).toInt = 4096 := by decide
  have r := x_rg v
  have h := Int.mul_tdiv_add_tmod v.toInt 4096
  have hd : (v / 4096).toInt = v.toInt.tdiv 4096 := by rw [Int32.toInt_div_of_ne_right _ _ (by decide), k]
  have hb : -4096 < v.toInt.tmod 4096 ∧ v.toInt.tmod 4096 < 4096 := by
    refine ⟨?_, Int.tmod_lt_of_pos _ (by decide)⟩
    have := Int.tmod_lt_of_pos (-v.toInt) (b := 4096) (by decide)
    rw [Int.neg_tmod] at this
    omega
  have hs : 0 ≤ v.toInt → 0 ≤ v.toInt.tmod 4096 := fun h => Int.tmod_nonneg _ h
  have hs2 : v.toInt < 0 → v.toInt.tmod 4096 ≤ 0 := fun h => by
    have := Int.tmod_nonneg (a := -v.toInt) 4096 (by omega)
    rw [Int.neg_tmod] at this
    omega
  have hm : (v / 4096 * 4096).toInt = 4096 * v.toInt.tdiv 4096 := by
    rw [x_mulI (by rw [hd, k]; omega) (by rw [hd, k]; omega), hd, k, Int.mul_comm]
  rw [x_subI (by rw [hm]; omega) (by rw [hm]; omega), hm]
  omega
theorem x_rem_lt (v : Int32) : -4096 < (v - v / 4096 * 4096).toInt ∧ (v - v / 4096 * 4096).toInt < 4096 := by
  rw [x_rem]
  refine ⟨?_, Int.tmod_lt_of_pos _ (by decide)⟩
  have := Int.tmod_lt_of_pos (-v.toInt) (b := 4096) (by decide)
  rw [Int.neg_tmod] at this
  omega
/-! java.lang.Math's floorDiv runs by its bytecode: no row of the model stands in its place -/
theorem x_mathRows : (Jvm.natives.all fun r => r.cls != "java/lang/Math" || r.name != "floorDiv") = true := by decide +kernel
theorem x_floorPlain : plainFor yJ9_floorDiv_7cf53 = true := by
  unfold plainFor
  rw [Bool.or_eq_true]; right
  rw [Option.isNone_iff_eq_none, NativeRow.find?, List.find?_eq_none]
  intro r hr h
  have := List.all_eq_true.mp x_mathRows r hr
  simp only [Bool.and_eq_true, beq_iff_eq] at h
  rw [h.1.1, h.1.2] at this
  revert this
  decide +kernel
theorem x_metF {l : Launch} {y : MethodName} {ws ws' : List Cond} {rm : Room} {Pc : Array Value → State → Prop} {Qc : Array Value → State → Outcome → State → Prop} {mc ms : Nat} {free : Addr → Prop} {cc : ByteArray} {maxL : Nat} {ret : Option FieldType}
    (hy : plainFor y = true) (hw : ws = Cond.code y cc maxL ret :: ws')
    (body : ∀ p e s m args below meth c s₁, BodyLoose p l y (headSpec ws rm) cc maxL ret e s m args below meth c s₁ → c.maxLocals = maxL → Pc args s →
      W p l e (headSpec ws rm).room s m args below meth c s.heap [] 0 0 (MQ below Qc args s mc ms free) (entryFrame m args maxL)) : Met l y ws rm Pc Qc mc ms free := by
  refine MetFree.of_bodySF (code := cc) (maxLocals := maxL) (ret := ret) hy ?_ ?_
  · intro args s m h hn
    obtain ⟨meth, c, h1, h2, h3, h4, h5, h6, -, -⟩ := Cond.code_spec hn (atoms_spec (ws := ws) h _ (by rw [hw]; exact List.mem_cons_self))
    exact ⟨meth, c, h1, h2, h3, h4, h5, h6⟩
  · intro p e s m args below meth c s₁ B hml hP _
    have hh0 : s₁.heap = s.heap := by rw [B.state]; rfl
    obtain ⟨t, a1, o, b1, b2, b3⟩ := body p e s m args below meth c s₁ B hml hP s₁ hh0 (Stand.of_body B)
    exact ⟨t, o, a1, b1, b2, ⟨b3.1, b3.2⟩⟩
theorem xR.ofF {l : Launch} {y : MethodName} {ws ws' : List Cond} {rm : Room} {E : XE} {W0 : va_W} {av : List Value} {v : Value} {cc : ByteArray} {maxL : Nat} {ret : Option FieldType} (hy : plainFor y = true) (hw : ws = Cond.code y cc maxL ret :: ws') (hav : (lg_sl av).length ≤ maxL)
    (body : ∀ (p : Program) (e : Env) (s : State) (m : MethodId) (args : Array Value) (below : List Frame) (meth : Method) (c : Code) (ls : Array Slot), xM p s m args meth c cc maxL ret ws y.cls y.name → xEnv E s → va_P E.1 vwCl W0 s.heap → va_D (fun _ => True) W0 → lv_has ls maxL (lv_args 0 av) →
      W p l e rm s m args below meth c s.heap [] 0 0 (MQ below (xQ v) args s 0 0 (fun _ => False)) (F0 m 0 ls [])) : xR l y ws rm E W0 av v := by
  refine x_metF (cc := cc) (maxL := maxL) (ret := ret) hy hw ?_
  intro p e s m args below meth c s₁ B hml hv
  obtain ⟨rfl, hP, hE, hD⟩ := hv
  have hl := lv_entry av (n := maxL) hav
  rw [lg_entry_eq]
  exact body p e s m av.toArray below meth c _ (xM.of B hml) hE hP hD hl
