/-! own words over the kit: the environment of a contract, contracts that read and contracts that write, their starts, ends and calls -/
abbrev XE : Type := va_G × ClassId × ClassId × ClassId × ClassId
/-- the array classes: int[], byte[], boolean[], Situation[] -/
abbrev xTy (E : XE) : List (ClassId × FieldType) := [(E.2.1, .int), (E.2.2.1, .byte), (E.2.2.2.1, .boolean), (E.2.2.2.2, .object "RailPendulum$Situation")]
def xNest : List Cond := [
  .fieldLinkNest RX8 109 "RailPendulum$Situation" "motion" "LRailPendulum$Motion;" "RailPendulum",
  .fieldLinkNest RX8 127 "RailPendulum$Situation" "latestStop" "I" "RailPendulum",
  .fieldLinkNest RX8 130 "RailPendulum$Situation" "recent" "LRailPendulum$RecentSwitches;" "RailPendulum",
  .fieldLinkNest RX8 143 "RailPendulum$Situation" "region" "LRailPendulum$Region;" "RailPendulum",
  .fieldLinkNest RX8 184 "RailPendulum$Motion" "x" "I" "RailPendulum",
  .fieldLinkNest RX8 198 "RailPendulum$Situation" "tick" "I" "RailPendulum",
  .fieldLinkNest RX8 211 "RailPendulum$Situation" "mode" "I" "RailPendulum",
  .fieldLinkNest RX8 220 "RailPendulum$Situation" "lock" "I" "RailPendulum",
  .fieldLinkNest RX8 223 "RailPendulum$Situation" "resets" "I" "RailPendulum",
  .fieldLinkNest RX8 231 "RailPendulum$Situation" "force" "I" "RailPendulum",
  .fieldLinkNest RX8 245 "RailPendulum$History" "size" "I" "RailPendulum",
  .fieldLinkNest RX8 255 "RailPendulum$Snapshot" "filled" "Z" "RailPendulum",
  .fieldLinkNest RX8 259 "RailPendulum$Snapshot" "kept" "LRailPendulum$Situation;" "RailPendulum",
  .fieldLinkNest RX8 280 "RailPendulum$Situation" "stops" "I" "RailPendulum",
  .fieldLinkNest RX8 287 "RailPendulum$Situation" "switches" "I" "RailPendulum",
  .fieldLinkNest RX8 80 "RailPendulum$PlantReader" "used" "I" "RailPendulum",
  .fieldLinkNest RX8 91 "RailPendulum$PlantReader" "start" "I" "RailPendulum",
  .fieldLinkNest RX8 94 "RailPendulum$PlantReader" "numbers" "[I" "RailPendulum",
  .fieldLinkNest RX2 40 "RailPendulum$Motion" "a1" "I" "RailPendulum",
  .fieldLinkNest RX2 47 "RailPendulum$Motion" "w1" "I" "RailPendulum",
  .fieldLinkNest RX2 50 "RailPendulum$Motion" "a2" "I" "RailPendulum",
  .fieldLinkNest RX2 53 "RailPendulum$Motion" "w2" "I" "RailPendulum",
  .fieldLinkNest RX2 56 "RailPendulum$Motion" "x" "I" "RailPendulum",
  .fieldLinkNest RX2 59 "RailPendulum$Motion" "v" "I" "RailPendulum",
  .fieldLinkNest RX3 26 "RailPendulum" "USUAL" "[I" "RailPendulum",
  .fieldLinkNest RX3 55 "RailPendulum" "FIRST_NUMBER" "[I" "RailPendulum",
  .fieldLinkNest RX3 69 "RailPendulum" "LEAST" "[I" "RailPendulum",
  .fieldLinkNest RX3 72 "RailPendulum" "MOST" "[I" "RailPendulum",
  .fieldLinkNest RX5 44 "RailPendulum$Motion" "w1" "I" "RailPendulum",
  .fieldLinkNest RX5 48 "RailPendulum$Motion" "w2" "I" "RailPendulum",
  .fieldLinkNest RX6 64 "RailPendulum$Motion" "x" "I" "RailPendulum",
  .fieldLinkNest RX6 67 "RailPendulum$Motion" "v" "I" "RailPendulum",
  .methodLinkNest RX8 18 yX3_init "RailPendulum",
  .methodLinkNest RX8 25 yX6_init "RailPendulum",
  .methodLinkNest RX8 35 yX1_init "RailPendulum",
  .methodLinkNest RX8 49 yX7_init "RailPendulum",
  .methodLinkNest RX8 9 yX2_init "RailPendulum",
  .methodLinkNest RX0 15 yX6_init "RailPendulum",
  .methodLinkNest RX1 29 yX8_leanOf "RailPendulum",
  .methodLinkNest RX2 15 yX8_copyRow "RailPendulum",
  .methodLinkNest RX2 33 yX8_sineOf "RailPendulum",
  .methodLinkNest RX2 44 yX8_leanOf "RailPendulum",
  .methodLinkNest RX2 82 yX8_wrapped "RailPendulum",
  .methodLinkNest RX2 89 yX8_isBeyond "RailPendulum",
  .methodLinkNest RX3 22 yX8_putAt "RailPendulum",
  .methodLinkNest RX3 29 yX8_copyRow "RailPendulum",
  .methodLinkNest RX3 58 yX8_valueAt "RailPendulum",
  .methodLinkNest RX3 75 yX8_wordOf "RailPendulum",
  .methodLinkNest RX5 22 yX8_valueAt "RailPendulum",
  .methodLinkNest RX5 35 yX8_wrapped "RailPendulum",
  .methodLinkNest RX5 66 yX8_putAt "RailPendulum",
  .methodLinkNest RX5 70 yX8_copyRow "RailPendulum",
  .methodLinkNest RX6 11 yX1_init "RailPendulum",
  .methodLinkNest RX6 20 yX5_init "RailPendulum",
  .methodLinkNest RX6 27 yX4_init "RailPendulum",
  .methodLinkNest RX7 9 yX6_init "RailPendulum"]
def xNk (w : Cond) : Bool := match w with
  | .fieldLinkNest _ _ _ _ _ _ => true
  | .methodLinkNest _ _ _ _ => true
  | _ => false
theorem xNest_k : ∀ w ∈ xNest, xNk w = true := by decide +kernel
theorem xNw_warm {w : Cond} (hk : xNk w = true) {s U : State} (hW : s.WarmedH U.vm) (h : va_Nw w s) : va_Nw w U := by
  cases w <;> first | exact va_Nw.warmF hW h | exact va_Nw.warmM hW h | exact absurd hk (by simp [xNk])
theorem xNw_same {w : Cond} (hk : xNk w = true) {u U : State} (hvm : u.vm = U.vm) (h : va_Nw w u) : va_Nw w U := by
  cases w <;> first | exact va_Nw.same rfl hvm h | exact absurd hk (by simp [xNk])
def xEnv (E : XE) (U : State) : Prop := va_K E.1 vwCl (xTy E) U ∧ ∀ w ∈ xNest, va_Nw w U
theorem xEnv.warm {E : XE} {s U : State} (hW : s.WarmedH U.vm) (h : xEnv E s) : xEnv E U := ⟨va_K.moved hW.alike h.1, fun w hw => xNw_warm (xNest_k w hw) hW (h.2 w hw)⟩
theorem xEnv.same {E : XE} {u U : State} (hvm : u.vm = U.vm) (h : xEnv E u) : xEnv E U := ⟨va_K.moved (by rw [hvm]; exact Vm.Alike.refl U.vm) h.1, fun w hw => xNw_same (xNest_k w hw) hvm (h.2 w hw)⟩
/-- before: the world, the environment -/
def xB0 (E : XE) (ws : va_W) (U : State) : Prop := va_P E.1 vwCl ws U.heap ∧ xEnv E U ∧ va_D (fun _ => True) ws
def xB (E : XE) (sz : Nat) (ws : va_W) (U : State) : Prop := U.heap.size = sz ∧ xB0 E ws U
theorem xB0.blind {E : XE} {av : List Value} {ws : va_W} : FrameBlind (va_Pc av (xB0 E ws)) := fun a U g mk q => ⟨q.1, q.2.1, q.2.2.1.same rfl, q.2.2.2⟩
theorem xB.blind {E : XE} {av : List Value} {sz : Nat} {ws : va_W} : FrameBlind (va_Pc av (xB E sz ws)) := fun a U g mk q => ⟨q.1, q.2.1, q.2.2.1, q.2.2.2.1.same rfl, q.2.2.2.2⟩
/-- a method that reads: it answers v, the heap stays -/
def xQ (v : Value) : Array Value → State → Outcome → State → Prop := fun _ st o t => o = .returned (some v) ∧ t.heap = st.heap
def xR (l : Launch) (y : MethodName) (ws : List Cond) (rm : Room) (E : XE) (W0 : va_W) (av : List Value) (v : Value) : Prop := Met l y ws rm (va_Pc av (xB0 E W0)) (xQ v) 0 0 (fun _ => False)
/-- a method that writes: answer and world, both of one value q -/
def xO {T : Type} (E : XE) (A : Nat → Prop) (rv : T → Option Value) (W1 : T → va_W) (q : T) : Array Value → State → Outcome → State → Prop := fun _ st o t =>
  o = .returned (rv q) ∧ va_P E.1 vwCl (W1 q) t.heap ∧ va_D A (W1 q) ∧ va_F A st t
def xW {T : Type} (l : Launch) (y : MethodName) (ws : List Cond) (rm : Room) (E : XE) (W0 : va_W) (av : List Value) (rv : T → Option Value) (W1 : T → va_W) (q : T) (mc ms : Nat) : Prop :=
  ∀ sz, Met l y ws rm (va_Pc av (xB E sz W0)) (xO E (va_A W0 sz) rv W1 q) mc ms (va_A W0 sz)
/-- the machine's facts in a method -/
def xM (p : Program) (s : State) (m : MethodId) (args : Array Value) (meth : Method) (c : Code) (cc : ByteArray) (maxL : Nat) (ret : Option FieldType) (ws : List Cond) (own nm : String) : Prop :=
  p.tables.exec = Jvm.exec ∧ c.code = cc ∧ meth.sig.returnType = ret ∧ c.maxLocals = maxL ∧ (∀ w ∈ ws, w.before args s = true) ∧ s.vm.findClass own = some m.cls ∧ meth.locks = false ∧ meth.name = nm
section XA
variable {l : Launch} {y : MethodName} {ws ws' : List Cond} {rm : Room} {E : XE} {W0 : va_W} {av : List Value} {v : Value} {cc : ByteArray} {maxL : Nat} {ret : Option FieldType}
theorem xM.of {p : Program} {e : Env} {s : State} {m : MethodId} {args : Array Value} {below : List Frame} {meth : Method} {c : Code} {s₁ : State} (B : BodyLoose p l y (headSpec ws rm) cc maxL ret e s m args below meth c s₁) (hml : c.maxLocals = maxL) : xM p s m args meth c cc maxL ret ws y.cls y.name :=
  ⟨B.exec, B.bytes, B.returns, hml, atoms_spec (ws := ws) B.pre, findClass_of_methodNamed B.named, B.notSynchronized, (name_of_methodNamed B.named B.method).1⟩
theorem xR.of (hy : plainName y.cls = true) (hw : ws = Cond.code y cc maxL ret :: ws') (hav : (lg_sl av).length ≤ maxL)
    (body : ∀ (p : Program) (e : Env) (s : State) (m : MethodId) (args : Array Value) (below : List Frame) (meth : Method) (c : Code) (ls : Array Slot), xM p s m args meth c cc maxL ret ws y.cls y.name → xEnv E s → va_P E.1 vwCl W0 s.heap → va_D (fun _ => True) W0 → lv_has ls maxL (lv_args 0 av) →
      W p l e rm s m args below meth c s.heap [] 0 0 (MQ below (xQ v) args s 0 0 (fun _ => False)) (F0 m 0 ls [])) : xR l y ws rm E W0 av v := by
  refine Met.ofW (cc := cc) (maxL := maxL) (ret := ret) hy hw ?_
  intro p e s m args below meth c s₁ B hml hv
  obtain ⟨rfl, hP, hE, hD⟩ := hv
  have hl := lv_entry av (n := maxL) hav
  rw [lg_entry_eq]
  exact body p e s m av.toArray below meth c _ (xM.of B hml) hE hP hD hl
theorem xW.of {T : Type} {rv : T → Option Value} {W1 : T → va_W} {q : T} {mc ms : Nat} (hy : plainName y.cls = true) (hw : ws = Cond.code y cc maxL ret :: ws') (hav : (lg_sl av).length ≤ maxL)
    (body : ∀ (p : Program) (e : Env) (s : State) (m : MethodId) (args : Array Value) (below : List Frame) (meth : Method) (c : Code) (ls : Array Slot) (A : Nat → Prop), xM p s m args meth c cc maxL ret ws y.cls y.name → xEnv E s → va_P E.1 vwCl W0 s.heap → va_D A W0 → va_S A s.heap s.heap [] → (∀ q, s.heap.size ≤ q → A q) → lv_has ls maxL (lv_args 0 av) →
      W p l e rm s m args below meth c s.heap [] 0 0 (MQ below (xO E A rv W1 q) args s mc ms A) (F0 m 0 ls [])) : xW l y ws rm E W0 av rv W1 q mc ms := by
  intro sz
  refine Met.ofW (cc := cc) (maxL := maxL) (ret := ret) hy hw ?_
  intro p e s m args below meth c s₁ B hml hv
  obtain ⟨rfl, hsz, hP, hE, hD⟩ := hv
  subst hsz
  have hl := lv_entry av (n := maxL) hav
  rw [lg_entry_eq]
  exact body p e s m av.toArray below meth c _ (va_A W0 s.heap.size) (xM.of B hml) hE hP hD.self va_S.rf (fun q h => Or.inr h) hl
end XA
section XB
variable {p : Program} {l : Launch} {e : Env} {R : Room} {s : State} {m : MethodId} {args : Array Value} {below : List Frame} {meth : Method} {c : Code} {H : Heap} {locs : List Loc} {cells slots : Nat} {Q : State → Prop}
variable {E : XE} {ws : va_W} {A A0 : Nat → Prop} {H0 : Heap} {cc : ByteArray} {pc : Nat} {ls : Array Slot} {a : Nat} {rest : List Value}
-- ends of methods that read
theorem x_ir {v r : Int32} (he : r = v) (hx : p.tables.exec = Jvm.exec) (hb : c.code = cc) (hr : meth.sig.returnType = some .int) (hlk : meth.locks = false) (hdg : decode cc pc = .ok (.ireturn, 1)) : W p l e R s m args below meth c s.heap [] 0 0 (MQ below (xQ (.int r)) args s 0 0 (fun _ => False)) (F0 m pc ls [.int v]) := by
  subst he
  exact W.iret hx hb hr (fun t ht _ => ⟨rfl, ht⟩) (fun q h => by cases h) hdg hlk
theorem x_zr {v r : Int32} {ty : FieldType} (he : r = v) (hx : p.tables.exec = Jvm.exec) (hb : c.code = cc) (hr : meth.sig.returnType = some ty) (hlk : meth.locks = false) (hn : narrow ty (.int v) = .int v) (hdg : decode cc pc = .ok (.ireturn, 1)) : W p l e R s m args below meth c s.heap [] 0 0 (MQ below (xQ (.int r)) args s 0 0 (fun _ => False)) (F0 m pc ls [.int v]) := by
  subst he
  exact W.zret hx hb hr hn (fun t ht _ => ⟨rfl, ht⟩) (fun q h => by cases h) hdg hlk
theorem x_lr {v r : Int64} (he : r = v) (hx : p.tables.exec = Jvm.exec) (hb : c.code = cc) (hr : meth.sig.returnType = some .long) (hlk : meth.locks = false) (hdg : decode cc pc = .ok (.lreturn, 1)) : W p l e R s m args below meth c s.heap [] 0 0 (MQ below (xQ (.long r)) args s 0 0 (fun _ => False)) (F0 m pc ls [.long v]) := by
  subst he
  exact W.lret hx hb hr (fun t ht _ => ⟨rfl, ht⟩) (fun q h => by cases h) hdg hlk
-- ends of methods that write
theorem x_pick {w1 : va_W} (hP : va_P E.1 vwCl ws H) (hD : va_D A ws) (is : List Nat) (hn : va_nd is = true) (hs : is.map (fun i => ws[i]?) = w1.map some) : va_P E.1 vwCl w1 H ∧ va_D A w1 := by
  refine ⟨?_, hD.sub is hn hs⟩
  intro k q hq
  have h1 : (is.map (fun i => ws[i]?))[k]? = some (some q) := by rw [hs, List.getElem?_map, hq]; rfl
  rw [List.getElem?_map] at h1
  cases hi : is[k]? with
  | none => rw [hi] at h1; cases h1
  | some i => rw [hi] at h1; exact hP i q (Option.some.inj h1)
theorem x_wi {T : Type} {rv : T → Option Value} {W1 : T → va_W} {q : T} {mc ms : Nat} {v : Int32} (u : T) (he : q = u) (hv : rv u = some (.int v)) (hx : p.tables.exec = Jvm.exec) (hb : c.code = cc) (hr : meth.sig.returnType = some .int) (hlk : meth.locks = false) (hS : va_S A s.heap H locs) (hP : va_P E.1 vwCl ws H) (hD : va_D A ws) (is : List Nat) (hn : va_nd is = true) (hs : is.map (fun i => ws[i]?) = (W1 u).map some) (hc : cells ≤ mc) (hsl : slots ≤ ms) (hdg : decode cc pc = .ok (.ireturn, 1)) : W p l e R s m args below meth c H locs cells slots (MQ below (xO E A rv W1 q) args s mc ms A) (F0 m pc ls [.int v]) := by
  subst he
  obtain ⟨h1, h2⟩ := x_pick hP hD is hn hs
  exact W.widen hc hsl (W.iret hx hb hr (fun t ht _ => ⟨by rw [hv], by rw [ht]; exact h1, h2, hS.F ht⟩) hS.2.2 hdg hlk)
theorem x_wz {T : Type} {rv : T → Option Value} {W1 : T → va_W} {q : T} {mc ms : Nat} {v : Int32} {ty : FieldType} (u : T) (he : q = u) (hv : rv u = some (.int v)) (hx : p.tables.exec = Jvm.exec) (hb : c.code = cc) (hr : meth.sig.returnType = some ty) (hlk : meth.locks = false) (hnr : narrow ty (.int v) = .int v) (hS : va_S A s.heap H locs) (hP : va_P E.1 vwCl ws H) (hD : va_D A ws) (is : List Nat) (hn : va_nd is = true) (hs : is.map (fun i => ws[i]?) = (W1 u).map some) (hc : cells ≤ mc) (hsl : slots ≤ ms) (hdg : decode cc pc = .ok (.ireturn, 1)) : W p l e R s m args below meth c H locs cells slots (MQ below (xO E A rv W1 q) args s mc ms A) (F0 m pc ls [.int v]) := by
  subst he
  obtain ⟨h1, h2⟩ := x_pick hP hD is hn hs
  exact W.widen hc hsl (W.zret hx hb hr hnr (fun t ht _ => ⟨by rw [hv], by rw [ht]; exact h1, h2, hS.F ht⟩) hS.2.2 hdg hlk)
theorem x_wv {T : Type} {rv : T → Option Value} {W1 : T → va_W} {q : T} {mc ms : Nat} (u : T) (he : q = u) (hv : rv u = none) (hx : p.tables.exec = Jvm.exec) (hb : c.code = cc) (hr : meth.sig.returnType = none) (hlk : meth.locks = false) (hS : va_S A s.heap H locs) (hP : va_P E.1 vwCl ws H) (hD : va_D A ws) (is : List Nat) (hn : va_nd is = true) (hs : is.map (fun i => ws[i]?) = (W1 u).map some) (hc : cells ≤ mc) (hsl : slots ≤ ms) (hdg : decode cc pc = .ok (.return_, 1)) : W p l e R s m args below meth c H locs cells slots (MQ below (xO E A rv W1 q) args s mc ms A) (F0 m pc ls []) := by
  subst he
  obtain ⟨h1, h2⟩ := x_pick hP hD is hn hs
  exact W.widen hc hsl (W.vret hx hb hr (fun t ht _ => ⟨by rw [hv], by rw [ht]; exact h1, h2, hS.F ht⟩) hS.2.2 hdg hlk)
-- calls of methods that read: heap, world and locals stay
theorem x_call {v : Value} {ac : Array Value} {g : JFrame} (hr : va_Run p l e R s m args below meth c H locs cells slots 0 0 g rest (xQ v ac) (fun _ => False)) (kk : W p l e R s m args below meth c H locs cells slots Q { g with pc := g.pc + 3, stack := v :: rest }) : W p l e R s m args below meth c H locs cells slots Q g := by
  intro T hT X
  obtain ⟨v', st₀, t, T', L, h0, X', hL, e1, -, ⟨hv, hh⟩, st⟩ := hr T hT X
  cases hv
  obtain ⟨t2, a1, b1⟩ := kk T' (by rw [e1, hh, h0]) (Stand.forget X' (fun q h => (hL q h).elim))
  exact ⟨t2, st t2 a1, b1⟩
/-- what a callee is told of its world -/
theorem x_pre {wc : va_W} (hE : xEnv E s) (hP : va_P E.1 vwCl ws H) (hD : va_D A ws) (is : List Nat) (hn : va_nd is = true) (hs : is.map (fun i => ws[i]?) = wc.map some) : ∀ U : State, U.heap = H → s.WarmedH U.vm → xB0 E wc U := fun U hU hW => by
  obtain ⟨h1, h2⟩ := x_pick hP hD is hn hs
  exact ⟨by rw [hU]; exact h1, hE.warm hW, h2.weaken (fun _ _ _ _ => trivial)⟩
variable {y : MethodName} {bytes : ByteArray} {maxL nL index n : Nat} {ret : Option FieldType} {wsy : List Cond} {rm : Room} {Ts : List Cond} {own C : String} {b : Nat} {wc wr : va_W} {st0 : List Value} {v : Value}
theorem x_rS (As : List Value) (hM : xR l y wsy rm E wc As v) (S : CallFix p m c cc nL s args Ts own) (cw : CallB R s args own index y bytes maxL ret wsy rm 0 0 n ∧ (Cond.static y).before args s = true) (hE : xEnv E s) (hP : va_P E.1 vwCl ws H) (hD : va_D A ws) (is : List Nat) (hn : va_nd is = true) (hs : is.map (fun i => ws[i]?) = wc.map some) (hl : ls.size = nL) (hst : st0 = As.reverse ++ rest) (hlen : As.length = n) (hW : (rest.map fun v => v.category).sum ≤ 8) (hdg : decode cc pc = .ok (.invokestatic index, 3)) (hc : cells ≤ R.cells) (hsl : slots ≤ R.slots) (kk : W p l e R s m args below meth c H locs cells slots Q (F0 m (pc + 3) ls (v :: rest))) : W p l e R s m args below meth c H locs cells slots Q (F0 m pc ls st0) :=
  x_call (va_runS (g := F0 m pc ls st0) (As := As) (rest := rest) S hM cw ⟨xB0.blind, fun U hU hW => ⟨rfl, x_pre hE hP hD is hn hs U hU hW⟩⟩ rfl hlen hl hst (lv_room (rest := st0) (st := rest) hW) hdg ⟨hc, hsl⟩) kk
theorem x_rSN {host : String} (As : List Value) (hM : xR l y wsy rm E wc As v) (S : CallFix p m c cc nL s args Ts own) (cw : va_CN R s args own index y host bytes maxL ret wsy rm 0 0 n ∧ (Cond.static y).before args s = true ∧ True) (hE : xEnv E s) (hP : va_P E.1 vwCl ws H) (hD : va_D A ws) (is : List Nat) (hn : va_nd is = true) (hs : is.map (fun i => ws[i]?) = wc.map some) (hl : ls.size = nL) (hst : st0 = As.reverse ++ rest) (hlen : As.length = n) (hW : (rest.map fun v => v.category).sum ≤ 8) (hdg : decode cc pc = .ok (.invokestatic index, 3)) (hc : cells ≤ R.cells) (hsl : slots ≤ R.slots) (kk : W p l e R s m args below meth c H locs cells slots Q (F0 m (pc + 3) ls (v :: rest))) : W p l e R s m args below meth c H locs cells slots Q (F0 m pc ls st0) :=
  x_call (va_runSN (g := F0 m pc ls st0) (As := As) (rest := rest) S hM cw ⟨xB0.blind, fun U hU hW => ⟨rfl, x_pre hE hP hD is hn hs U hU hW⟩⟩ rfl hlen hl hst (lv_room (rest := st0) (st := rest) hW) hdg ⟨hc, hsl⟩) kk
theorem x_rV (As : List Value) (hM : xR l y wsy rm E wc (.ref b :: As) v) (S : CallFix p m c cc nL s args Ts own) (cw : CallW R s args own C index y bytes maxL ret wsy rm 0 0 n) (hE : xEnv E s) (hP : va_P E.1 vwCl ws H) (hD : va_D A ws) (is : List Nat) (hn : va_nd is = true) (hs : is.map (fun i => ws[i]?) = wc.map some) {ci q0 : Nat} {q : vw_C} {fs : List Value} (hcl : vwCl[ci]? = some q) (hC : q.1 = C) (hq : ws[q0]? = some (b, .inr (ci, fs))) (hl : ls.size = nL) (hst : st0 = As.reverse ++ .ref b :: rest) (hlen : As.length = n) (hW : (rest.map fun v => v.category).sum ≤ 8) (hdg : decode cc pc = .ok (.invokevirtual index, 3)) (hc : cells ≤ R.cells) (hsl : slots ≤ R.slots) (kk : W p l e R s m args below meth c H locs cells slots Q (F0 m (pc + 3) ls (v :: rest))) : W p l e R s m args below meth c H locs cells slots Q (F0 m pc ls st0) := by
  subst hC
  exact x_call (va_runV (g := F0 m pc ls st0) (As := As) (rest := rest) S hM cw ⟨xB0.blind, va_recv hE.1 hP hcl hq, fun U hU hW => ⟨rfl, x_pre hE hP hD is hn hs U hU hW⟩⟩ rfl hlen hl hst (lv_room (rest := st0) (st := rest) hW) hdg ⟨hc, hsl⟩) kk
-- calls of methods that write: their cells go behind the others
theorem x_cw {T : Type} {rv : T → Option Value} {W1 : T → va_W} {q : T} {ac : Array Value} {g : JFrame} {mc ms : Nat} (hr : va_Run p l e R s m args below meth c H locs cells slots mc ms g rest (xO E (va_A wc H.size) rv W1 q ac) (va_A wc H.size)) (hP : va_P E.1 vwCl ws H) (hD : va_D A0 ws) (hS : va_S A0 H0 H locs) (hA : ∀ q, H0.size ≤ q → A0 q) (isC isR : List Nat) (hC : isC.map (fun i => ws[i]?) = wc.map some) (hR : isR.map (fun i => ws[i]?) = wr.map some) (hn : va_nd isR = true) (hdis : ∀ i ∈ isR, i ∉ isC)
    (kk : ∀ (u : T) (H1 : Heap) (locs1 : List Loc), u = q → va_P E.1 vwCl (wr ++ W1 u) H1 → va_D A0 (wr ++ W1 u) → va_S A0 H0 H1 locs1 → W p l e R s m args below meth c H1 locs1 (cells + mc) (slots + ms) Q { g with pc := g.pc + 3, stack := (rv u).toList ++ rest }) : W p l e R s m args below meth c H locs cells slots Q g := by
  intro T hT X
  obtain ⟨v', st₀, t, T', L, h0, X', hL, e1, -, ⟨hv, h1, h2, hF⟩, st⟩ := hr T hT X
  cases hv
  have hFc := va_free hD hS hA isC hC
  have hk : ∀ q : Nat, q < H.size → ¬ va_A wc H.size q → t.heap[q]? = H[q]? := fun q x y => by have := hF.2 q (by rw [h0]; exact x) y; rw [this, h0]
  obtain ⟨hP1, hD1⟩ := va_join hP hD isC isR hC hR hn hdis hk hFc h1 h2
  obtain ⟨t2, a1, b1⟩ := kk q t.heap (locs ++ L) rfl hP1 hD1 ⟨Nat.le_trans hS.1 (by rw [← h0]; exact hF.1), fun z z1 z2 => by rw [hk z (Nat.lt_of_lt_of_le z1 hS.1) (fun w => z2 (hFc z w))]; exact hS.2.1 z z1 z2, fun z hz => by
    rcases List.mem_append.mp hz with h | h
    · exact hS.2.2 z h
    · exact hFc _ (hL z h)⟩ T' e1 X'
  exact ⟨t2, st t2 a1, b1⟩
variable {T : Type} {rv : T → Option Value} {W1 : T → va_W} {q : T} {mc ms : Nat}
theorem x_wS (As : List Value) (hM : xW l y wsy rm E wc As rv W1 q mc ms) (S : CallFix p m c cc nL s args Ts own) (cw : CallB R s args own index y bytes maxL ret wsy rm mc ms n ∧ (Cond.static y).before args s = true) (hE : xEnv E s) (hP : va_P E.1 vwCl ws H) (hD : va_D A0 ws) (hS : va_S A0 H0 H locs) (hA : ∀ q, H0.size ≤ q → A0 q) (isC isR : List Nat) (hnC : va_nd isC = true) (hC : isC.map (fun i => ws[i]?) = wc.map some) (hR : isR.map (fun i => ws[i]?) = wr.map some) (hn : va_nd isR = true) (hdis : ∀ i ∈ isR, i ∉ isC) (hl : ls.size = nL) (hst : st0 = As.reverse ++ rest) (hlen : As.length = n) (hW : (rest.map fun v => v.category).sum ≤ 8) (hdg : decode cc pc = .ok (.invokestatic index, 3)) (hc : cells + mc ≤ R.cells) (hsl : slots + ms ≤ R.slots)
    (kk : ∀ (u : T) (H1 : Heap) (locs1 : List Loc), u = q → va_P E.1 vwCl (wr ++ W1 u) H1 → va_D A0 (wr ++ W1 u) → va_S A0 H0 H1 locs1 → W p l e R s m args below meth c H1 locs1 (cells + mc) (slots + ms) Q (F0 m (pc + 3) ls ((rv u).toList ++ rest))) : W p l e R s m args below meth c H locs cells slots Q (F0 m pc ls st0) :=
  x_cw (va_runS (g := F0 m pc ls st0) (As := As) (rest := rest) S (hM H.size) cw ⟨xB.blind, fun U hU hW => ⟨rfl, by rw [hU], x_pre hE hP hD isC hnC hC U hU hW⟩⟩ rfl hlen hl hst (lv_room (rest := st0) (st := rest) hW) hdg ⟨hc, hsl⟩) hP hD hS hA isC isR hC hR hn hdis kk
theorem x_wSN {host : String} (As : List Value) (hM : xW l y wsy rm E wc As rv W1 q mc ms) (S : CallFix p m c cc nL s args Ts own) (cw : va_CN R s args own index y host bytes maxL ret wsy rm mc ms n ∧ (Cond.static y).before args s = true ∧ True) (hE : xEnv E s) (hP : va_P E.1 vwCl ws H) (hD : va_D A0 ws) (hS : va_S A0 H0 H locs) (hA : ∀ q, H0.size ≤ q → A0 q) (isC isR : List Nat) (hnC : va_nd isC = true) (hC : isC.map (fun i => ws[i]?) = wc.map some) (hR : isR.map (fun i => ws[i]?) = wr.map some) (hn : va_nd isR = true) (hdis : ∀ i ∈ isR, i ∉ isC) (hl : ls.size = nL) (hst : st0 = As.reverse ++ rest) (hlen : As.length = n) (hW : (rest.map fun v => v.category).sum ≤ 8) (hdg : decode cc pc = .ok (.invokestatic index, 3)) (hc : cells + mc ≤ R.cells) (hsl : slots + ms ≤ R.slots)
    (kk : ∀ (u : T) (H1 : Heap) (locs1 : List Loc), u = q → va_P E.1 vwCl (wr ++ W1 u) H1 → va_D A0 (wr ++ W1 u) → va_S A0 H0 H1 locs1 → W p l e R s m args below meth c H1 locs1 (cells + mc) (slots + ms) Q (F0 m (pc + 3) ls ((rv u).toList ++ rest))) : W p l e R s m args below meth c H locs cells slots Q (F0 m pc ls st0) :=
  x_cw (va_runSN (g := F0 m pc ls st0) (As := As) (rest := rest) S (hM H.size) cw ⟨xB.blind, fun U hU hW => ⟨rfl, by rw [hU], x_pre hE hP hD isC hnC hC U hU hW⟩⟩ rfl hlen hl hst (lv_room (rest := st0) (st := rest) hW) hdg ⟨hc, hsl⟩) hP hD hS hA isC isR hC hR hn hdis kk
theorem x_wV (As : List Value) (hM : xW l y wsy rm E wc (.ref b :: As) rv W1 q mc ms) (S : CallFix p m c cc nL s args Ts own) (cw : CallW R s args own C index y bytes maxL ret wsy rm mc ms n) (hE : xEnv E s) (hP : va_P E.1 vwCl ws H) (hD : va_D A0 ws) (hS : va_S A0 H0 H locs) (hA : ∀ q, H0.size ≤ q → A0 q) (isC isR : List Nat) (hnC : va_nd isC = true) (hC : isC.map (fun i => ws[i]?) = wc.map some) (hR : isR.map (fun i => ws[i]?) = wr.map some) (hn : va_nd isR = true) (hdis : ∀ i ∈ isR, i ∉ isC) {ci q0 : Nat} {qc : vw_C} {fs : List Value} (hcl : vwCl[ci]? = some qc) (hCn : qc.1 = C) (hq : ws[q0]? = some (b, .inr (ci, fs))) (hl : ls.size = nL) (hst : st0 = As.reverse ++ .ref b :: rest) (hlen : As.length = n) (hW : (rest.map fun v => v.category).sum ≤ 8) (hdg : decode cc pc = .ok (.invokevirtual index, 3)) (hc : cells + mc ≤ R.cells) (hsl : slots + ms ≤ R.slots)
    (kk : ∀ (u : T) (H1 : Heap) (locs1 : List Loc), u = q → va_P E.1 vwCl (wr ++ W1 u) H1 → va_D A0 (wr ++ W1 u) → va_S A0 H0 H1 locs1 → W p l e R s m args below meth c H1 locs1 (cells + mc) (slots + ms) Q (F0 m (pc + 3) ls ((rv u).toList ++ rest))) : W p l e R s m args below meth c H locs cells slots Q (F0 m pc ls st0) := by
  subst hCn
  exact x_cw (va_runV (g := F0 m pc ls st0) (As := As) (rest := rest) S (hM H.size) cw ⟨xB.blind, va_recv hE.1 hP hcl hq, fun U hU hW => ⟨rfl, by rw [hU], x_pre hE hP hD isC hnC hC U hU hW⟩⟩ rfl hlen hl hst (lv_room (rest := st0) (st := rest) hW) hdg ⟨hc, hsl⟩) hP hD hS hA isC isR hC hR hn hdis kk
theorem x_wI (As : List Value) (hM : xW l y wsy rm E wc (.ref b :: As) rv W1 q mc ms) (S : CallFix p m c cc nL s args Ts own) (cw : CallB R s args own index y bytes maxL none wsy rm mc ms n ∧ y.name = "<init>" ∧ (Cond.instanceMethod y).before args s = true) (hE : xEnv E s) (hP : va_P E.1 vwCl ws H) (hD : va_D A0 ws) (hS : va_S A0 H0 H locs) (hA : ∀ q, H0.size ≤ q → A0 q) (isC isR : List Nat) (hnC : va_nd isC = true) (hC : isC.map (fun i => ws[i]?) = wc.map some) (hR : isR.map (fun i => ws[i]?) = wr.map some) (hn : va_nd isR = true) (hdis : ∀ i ∈ isR, i ∉ isC) (hl : ls.size = nL) (hst : st0 = As.reverse ++ .ref b :: rest) (hlen : As.length = n) (hW : (rest.map fun v => v.category).sum ≤ 8) (hdg : decode cc pc = .ok (.invokespecial index, 3)) (hc : cells + mc ≤ R.cells) (hsl : slots + ms ≤ R.slots)
    (kk : ∀ (u : T) (H1 : Heap) (locs1 : List Loc), u = q → va_P E.1 vwCl (wr ++ W1 u) H1 → va_D A0 (wr ++ W1 u) → va_S A0 H0 H1 locs1 → W p l e R s m args below meth c H1 locs1 (cells + mc) (slots + ms) Q (F0 m (pc + 3) ls ((rv u).toList ++ rest))) : W p l e R s m args below meth c H locs cells slots Q (F0 m pc ls st0) :=
  x_cw (va_runI (g := F0 m pc ls st0) (As := As) (rest := rest) S (hM H.size) cw ⟨xB.blind, fun U hU hW => ⟨rfl, by rw [hU], x_pre hE hP hD isC hnC hC U hU hW⟩⟩ rfl hlen hl hst (lv_room (rest := st0) (st := rest) hW) hdg ⟨hc, hsl⟩) hP hD hS hA isC isR hC hR hn hdis kk
theorem x_wIN {host : String} (As : List Value) (hM : xW l y wsy rm E wc (.ref b :: As) rv W1 q mc ms) (S : CallFix p m c cc nL s args Ts own) (cw : va_CN R s args own index y host bytes maxL none wsy rm mc ms n ∧ y.name = "<init>" ∧ (Cond.instanceMethod y).before args s = true) (hE : xEnv E s) (hP : va_P E.1 vwCl ws H) (hD : va_D A0 ws) (hS : va_S A0 H0 H locs) (hA : ∀ q, H0.size ≤ q → A0 q) (isC isR : List Nat) (hnC : va_nd isC = true) (hC : isC.map (fun i => ws[i]?) = wc.map some) (hR : isR.map (fun i => ws[i]?) = wr.map some) (hn : va_nd isR = true) (hdis : ∀ i ∈ isR, i ∉ isC) (hl : ls.size = nL) (hst : st0 = As.reverse ++ .ref b :: rest) (hlen : As.length = n) (hW : (rest.map fun v => v.category).sum ≤ 8) (hdg : decode cc pc = .ok (.invokespecial index, 3)) (hc : cells + mc ≤ R.cells) (hsl : slots + ms ≤ R.slots)
    (kk : ∀ (u : T) (H1 : Heap) (locs1 : List Loc), u = q → va_P E.1 vwCl (wr ++ W1 u) H1 → va_D A0 (wr ++ W1 u) → va_S A0 H0 H1 locs1 → W p l e R s m args below meth c H1 locs1 (cells + mc) (slots + ms) Q (F0 m (pc + 3) ls ((rv u).toList ++ rest))) : W p l e R s m args below meth c H locs cells slots Q (F0 m pc ls st0) :=
  x_cw (va_runIN (g := F0 m pc ls st0) (As := As) (rest := rest) S (hM H.size) cw ⟨xB.blind, fun U hU hW => ⟨rfl, by rw [hU], x_pre hE hP hD isC hnC hC U hU hW⟩⟩ rfl hlen hl hst (lv_room (rest := st0) (st := rest) hW) hdg ⟨hc, hsl⟩) hP hD hS hA isC isR hC hR hn hdis kk
-- arrays of ints, by the place's number
theorem x_iald {D : va_G} {cl : List vw_C} {tys : List (ClassId × FieldType)} (hx : p.tables.exec = Jvm.exec) (hb : c.code = cc) (hK : va_K D cl tys s) (hP : va_P D cl ws H) (q0 t0 : Nat) {cA : ClassId} {n : Nat} {f : Nat → Int32} (ha : ws[q0]? = some (a, .inl (cA, n, .inl f))) (ht : tys[t0]? = some (cA, .int)) {i : Int32} (k : Nat) (hk : i.toNatClampNeg = k) (hin : vp_in i n) (hdg : decode cc pc = .ok (.iaload, 1))
    (kk : W p l e R s m args below meth c H locs cells slots Q (F0 m (pc + 1) ls (.int (f k) :: rest))) : W p l e R s m args below meth c H locs cells slots Q (F0 m pc ls (.int i :: .ref a :: rest)) := by
  subst hk
  exact va_iald hx hb hK hP q0 t0 ha ht hin hdg kk
theorem x_iast {D : va_G} {cl : List vw_C} {tys : List (ClassId × FieldType)} (hx : p.tables.exec = Jvm.exec) (hb : c.code = cc) (hK : va_K D cl tys s) (hP : va_P D cl ws H) (hD : va_D A ws) (hS : va_S A H0 H locs) (q0 t0 : Nat) {cA : ClassId} {n : Nat} {f : Nat → Int32} (ha : ws[q0]? = some (a, .inl (cA, n, .inl f))) (ht : tys[t0]? = some (cA, .int)) {i : Int32} {x : Int32} (k : Nat) (hk : i.toNatClampNeg = k) (hin : vp_in i n) (hdg : decode cc pc = .ok (.iastore, 1))
    (kk : ∀ (H1 : Heap) (locs1 : List Loc), va_P D cl (ws.set q0 (a, .inl (cA, n, .inl (upd f k x)))) H1 → va_D A (ws.set q0 (a, .inl (cA, n, .inl (upd f k x)))) → va_S A H0 H1 locs1 → W p l e R s m args below meth c H1 locs1 cells slots Q (F0 m (pc + 1) ls rest)) : W p l e R s m args below meth c H locs cells slots Q (F0 m pc ls (.int x :: .int i :: .ref a :: rest)) := by
  subst hk
  exact va_iast hx hb hK hP hD hS q0 t0 ha ht hin hdg kk
end XB
theorem x_in {i : Int32} {n : Nat} (h1 : ¬ i < 0) (h2 : i < nI n) (hn : n < 2 ^ 31) : vp_in i n := by
  rw [vp_in_iff]
  rw [Int32.lt_iff_toInt_lt, nI_toInt hn] at h2
  rw [Int32.lt_iff_toInt_lt, Int32.toInt_zero] at h1
  omega
