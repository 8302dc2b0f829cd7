/-! methods that answer and write nothing; methods that throw and write nothing -/
def xQ0 : Array Value → State → Outcome → State → Prop := fun _ st o t => o = .returned none ∧ t.heap = st.heap
def xR0 (l : Launch) (y : MethodName) (ws : List Cond) (rm : Room) (E : XE) (W0 : va_W) (av : List Value) : Prop := Met l y ws rm (va_Pc av (xB0 E W0)) xQ0 0 0 (fun _ => False)
def xCast : List Cond := [.castable "java/lang/IndexOutOfBoundsException" "java/lang/IndexOutOfBoundsException", .castable "java/lang/IllegalArgumentException" "java/lang/IllegalArgumentException", .castable "java/lang/IllegalStateException" "java/lang/IllegalStateException", .declares (Bundle.initS "java/lang/RuntimeException"), .declares (Bundle.initS "java/lang/Exception"), .declares (Bundle.initS Bundle.tN)]
def xCk (w : Cond) : Bool := match w with
  | .castable _ _ => true
  | .declares _ => true
  | _ => false
theorem xCast_k : ∀ w ∈ xCast, xCk w = true := by decide +kernel
theorem xCast_t : ∀ w ∈ xCast, w.onTables = true := by decide +kernel
/-- the texts of the class' exceptions, by their places -/
def xTexts : List (Nat × String) := [(195, "the tick would exceed its limit"), (221, "the link would be too fast"), (257, "the slot is empty"), (304, "there is no such cell"), (307, "the plant is stopped"), (309, "there is no such link"), (311, "there is no such slot"), (315, "an argument is out of range")]
/-- what a throw needs of the state -/
def xThr (U : State) : Prop := vx_Zq Bundle.tN "UNASSIGNED_STACK" Bundle.steD (fun _ => False) U U.heap ∧ vx_Zq Bundle.tN "SUPPRESSED_SENTINEL" Bundle.listD (fun _ => False) U U.heap ∧ (∀ w ∈ xCast, va_Nw w U) ∧ ∀ r ∈ xTexts, ∃ sa, vk_R RX8 r.1 r.2 sa U
theorem xCw_warm {w : Cond} (hk : xCk w = true) {s U : State} (hW : s.WarmedH U.vm) (h : va_Nw w s) : va_Nw w U := by
  cases w <;> first | exact va_Nw.warmC hW h | exact va_Nw.warmD hW h | exact absurd hk (by simp [xCk])
theorem xThr.warm {s U : State} (hW : s.WarmedH U.vm) (hH : U.heap = s.heap) (h : xThr s) : xThr U := by
  obtain ⟨h1, h2, h3, h4⟩ := h
  refine ⟨?_, ?_, fun w hw => xCw_warm (xCast_k w hw) hW (h3 w hw), fun r hr => ?_⟩
  · rw [hH]; exact vx_Zq.moved hW.alike h1
  · rw [hH]; exact vx_Zq.moved hW.alike h2
  · obtain ⟨sa, h⟩ := h4 r hr
    exact ⟨sa, vk_R.warm hW h⟩
theorem xThr.same {s U : State} (hvm : U.vm = s.vm) (hH : U.heap = s.heap) (h : xThr s) : xThr U := xThr.warm (by rw [hvm]; exact State.WarmedH.refl s) hH h
def xBX (E : XE) (ws : va_W) (U : State) : Prop := xB0 E ws U ∧ xThr U
theorem xBX.blind {E : XE} {av : List Value} {ws : va_W} : FrameBlind (va_Pc av (xBX E ws)) := fun a U g mk q => ⟨q.1, (xB0.blind (E := E) (av := av) (ws := ws) a U g mk ⟨q.1, q.2.1⟩).2, xThr.same (s := U) (U := U.calling g mk a) rfl rfl q.2.2⟩
abbrev xXC (cls : String) : String → State → State → Prop := vx_X (S := Unit) (fun _ => True) (fun X _ _ => X = cls) (fun _ => False)
abbrev xNo : Array Value → State → Outcome → State → Prop := fun _ _ _ _ => False
/-- a method that throws an object of the class cls, and leaves the heap's old part -/
def xX (l : Launch) (y : MethodName) (ws : List Cond) (rm : Room) (E : XE) (W0 : va_W) (av : List Value) (cls : String) : Prop := vx_Met l y ws rm (va_Pc av (xBX E W0)) xNo (xXC cls) 1 6 (fun _ => False)
section XX
variable {l : Launch} {y : MethodName} {ws ws' : List Cond} {rm : Room} {E : XE} {W0 : va_W} {av : List Value} {v : Value} {cc : ByteArray} {maxL : Nat} {ret : Option FieldType} {cls : String}
theorem xR0.of (hy : plainName y.cls = true) (hw : ws = Cond.code y cc maxL ret :: ws') (hav : (lg_sl av).length ≤ maxL)
    (body : ∀ (p : Program) (e : Env) (s : State) (m : MethodId) (args : Array Value) (below : List Frame) (meth : Method) (c : Code) (ls : Array Slot), xM p s m args meth c cc maxL ret ws y.cls y.name → xEnv E s → va_P E.1 vwCl W0 s.heap → va_D (fun _ => True) W0 → lv_has ls maxL (lv_args 0 av) →
      W p l e rm s m args below meth c s.heap [] 0 0 (MQ below xQ0 args s 0 0 (fun _ => False)) (F0 m 0 ls [])) : xR0 l y ws rm E W0 av := by
  refine Met.ofW (cc := cc) (maxL := maxL) (ret := ret) hy hw ?_
  intro p e s m args below meth c s₁ B hml hv
  obtain ⟨rfl, hP, hE, hD⟩ := hv
  have hl := lv_entry av (n := maxL) hav
  rw [lg_entry_eq]
  exact body p e s m av.toArray below meth c _ (xM.of B hml) hE hP hD hl
theorem xX.of (hy : plainName y.cls = true) (hw : ws = Cond.code y cc maxL ret :: ws') (hav : (lg_sl av).length ≤ maxL)
    (body : ∀ (p : Program) (e : Env) (s : State) (m : MethodId) (args : Array Value) (below : List Frame) (meth : Method) (c : Code) (ls : Array Slot), xM p s m args meth c cc maxL ret ws y.cls y.name → xEnv E s → va_P E.1 vwCl W0 s.heap → va_D (fun _ => True) W0 → xThr s → (∀ x ∈ c.exceptionTable.toList, False) → lv_has ls maxL (lv_args 0 av) →
      W p l e rm s m args below meth c s.heap [] 0 0 (vx_MQ below xNo (xXC cls) args s 1 6 (fun _ => False)) (F0 m 0 ls [])) : xX l y ws rm E W0 av cls := by
  refine vx_ofW (cc := cc) (maxL := maxL) (ret := ret) hy hw ?_
  intro p e s m args below meth c s₁ B hml ht hv
  obtain ⟨rfl, ⟨hP, hE, hD⟩, hT⟩ := hv
  have hl := lv_entry av (n := maxL) hav
  rw [lg_entry_eq]
  exact body p e s m av.toArray below meth c _ (xM.of B hml) hE hP hD hT ht hl
end XX
section XY
variable {p : Program} {l : Launch} {e : Env} {R : Room} {s : State} {m : MethodId} {args : Array Value} {below : List Frame} {meth : Method} {c : Code} {H : Heap} {locs : List Loc} {cells slots : Nat} {Q : State → Prop}
variable {E : XE} {ws : va_W} {A A0 : Nat → Prop} {H0 : Heap} {cc : ByteArray} {pc : Nat} {ls : Array Slot} {a : Nat} {rest : List Value}
theorem x_vr (hx : p.tables.exec = Jvm.exec) (hb : c.code = cc) (hr : meth.sig.returnType = none) (hlk : meth.locks = false) (hdg : decode cc pc = .ok (.return_, 1)) : W p l e R s m args below meth c s.heap [] 0 0 (MQ below xQ0 args s 0 0 (fun _ => False)) (F0 m pc ls []) :=
  W.vret hx hb hr (fun t ht _ => ⟨rfl, ht⟩) (fun q h => by cases h) hdg hlk
theorem x_call0 {ac : Array Value} {g : JFrame} (hr : va_Run p l e R s m args below meth c H locs cells slots 0 0 g rest (xQ0 ac) (fun _ => False)) (kk : W p l e R s m args below meth c H locs cells slots Q { g with pc := g.pc + 3, stack := rest }) : W p l e R s m args below meth c H locs cells slots Q g := by
  intro T hT X
  obtain ⟨v', st₀, t, T', L, h0, X', hL, e1, -, ⟨hv, hh⟩, st⟩ := hr T hT X
  cases hv
  obtain ⟨t2, a1, b1⟩ := kk T' (by rw [e1, hh, h0]) (Stand.forget X' (fun q h => (hL q h).elim))
  exact ⟨t2, st t2 a1, b1⟩
variable {y : MethodName} {bytes : ByteArray} {maxL nL index n : Nat} {ret : Option FieldType} {wsy : List Cond} {rm : Room} {Ts : List Cond} {own C : String} {b : Nat} {wc wr : va_W} {st0 : List Value} {v : Value} {cls : String}
theorem x_r0S (As : List Value) (hM : xR0 l y wsy rm E wc As) (S : CallFix p m c cc nL s args Ts own) (cw : CallB R s args own index y bytes maxL ret wsy rm 0 0 n ∧ (Cond.static y).before args s = true) (hE : xEnv E s) (hP : va_P E.1 vwCl ws H) (hD : va_D A ws) (is : List Nat) (hn : va_nd is = true) (hs : is.map (fun i => ws[i]?) = wc.map some) (hl : ls.size = nL) (hst : st0 = As.reverse ++ rest) (hlen : As.length = n) (hW : (rest.map fun v => v.category).sum ≤ 8) (hdg : decode cc pc = .ok (.invokestatic index, 3)) (hc : cells ≤ R.cells) (hsl : slots ≤ R.slots) (kk : W p l e R s m args below meth c H locs cells slots Q (F0 m (pc + 3) ls rest)) : W p l e R s m args below meth c H locs cells slots Q (F0 m pc ls st0) :=
  x_call0 (va_runS (g := F0 m pc ls st0) (As := As) (rest := rest) S hM cw ⟨xB0.blind, fun U hU hW => ⟨rfl, x_pre hE hP hD is hn hs U hU hW⟩⟩ rfl hlen hl hst (lv_room (rest := st0) (st := rest) hW) hdg ⟨hc, hsl⟩) kk
theorem x_r0V (As : List Value) (hM : xR0 l y wsy rm E wc (.ref b :: As)) (S : CallFix p m c cc nL s args Ts own) (cw : CallW R s args own C index y bytes maxL ret wsy rm 0 0 n) (hE : xEnv E s) (hP : va_P E.1 vwCl ws H) (hD : va_D A ws) (is : List Nat) (hn : va_nd is = true) (hs : is.map (fun i => ws[i]?) = wc.map some) {ci q0 : Nat} {q : vw_C} {fs : List Value} (hcl : vwCl[ci]? = some q) (hC : q.1 = C) (hq : ws[q0]? = some (b, .inr (ci, fs))) (hl : ls.size = nL) (hst : st0 = As.reverse ++ .ref b :: rest) (hlen : As.length = n) (hW : (rest.map fun v => v.category).sum ≤ 8) (hdg : decode cc pc = .ok (.invokevirtual index, 3)) (hc : cells ≤ R.cells) (hsl : slots ≤ R.slots) (kk : W p l e R s m args below meth c H locs cells slots Q (F0 m (pc + 3) ls rest)) : W p l e R s m args below meth c H locs cells slots Q (F0 m pc ls st0) := by
  subst hC
  exact x_call0 (va_runV (g := F0 m pc ls st0) (As := As) (rest := rest) S hM cw ⟨xB0.blind, va_recv hE.1 hP hcl hq, fun U hU hW => ⟨rfl, x_pre hE hP hD is hn hs U hU hW⟩⟩ rfl hlen hl hst (lv_room (rest := st0) (st := rest) hW) hdg ⟨hc, hsl⟩) kk
/-- a call that throws: so does the caller -/
theorem x_bad {ac : Array Value} (hr : vx_Run p l e R s m args below meth c s.heap [] 0 0 1 6 (F0 m pc ls st0) rest (xNo ac) (xXC cls) (fun _ => False)) (ht : ∀ x ∈ c.exceptionTable.toList, False) (hlk : meth.locks = false) : W p l e R s m args below meth c s.heap [] 0 0 (vx_MQ below xNo (xXC cls) args s 1 6 (fun _ => False)) (F0 m pc ls st0) := by
  intro T hT X
  rcases hr T hT X with ⟨v', st₀, t, T', L, h0, X', hL, e1, -, hf, st⟩ | ⟨q, st₀, t, T', L, E, ce, h0, X', hL, e1, -, ⟨u, hp, hb, hF⟩, hce, hcv, hcl, st⟩
  · exact hf.elim
  · obtain ⟨z1, z2⟩ := hF
    rw [h0] at z1 z2
    have hf : ∀ z ∈ ([] ++ L : List Loc), (fun _ => False : Addr → Prop) z.base := fun z hz => hL z (by rw [List.nil_append] at hz; exact hz)
    have k := vx_out (p := p) (l := l) (e := e) (R := R) (s := s) (m := m) (args := args) (below := below) (meth := meth) (c := c) (H := T'.heap) (locs := [] ++ L) (free := fun _ => False) (cells := 0 + 1) (slots := 0 + 6) (Qc := xNo) (XC := xXC cls) (pc := pc) (ls := ls) (rest := rest) (E := E) (ce := ce) (q := q) (mc := 1) (ms := 6) (fun x hx => (ht x hx).elim) hlk (by rw [e1]; exact hce) hcv hcl
      (fun t2 h2 _ => ⟨(), trivial, hb, by rw [h2, e1]; exact z1, fun q2 hq2 hn => by rw [h2, e1]; exact z2 q2 hq2 hn⟩) hf (Nat.le_refl _) (Nat.le_refl _)
    obtain ⟨t2, a1, b1⟩ := k T' rfl X'
    exact ⟨t2, st.trans a1, b1⟩
theorem x_bS (As : List Value) (hM : xX l y wsy rm E wc As cls) (S : CallFix p m c cc nL s args Ts own) (cw : CallB R s args own index y bytes maxL ret wsy rm 1 6 n ∧ (Cond.static y).before args s = true) (hE : xEnv E s) (hP : va_P E.1 vwCl ws s.heap) (hD : va_D A ws) (hThr : xThr s) (ht : ∀ x ∈ c.exceptionTable.toList, False) (hlk : meth.locks = false) (is : List Nat) (hn : va_nd is = true) (hs : is.map (fun i => ws[i]?) = wc.map some) (hl : ls.size = nL) (hst : st0 = As.reverse ++ rest) (hlen : As.length = n) (hW : (rest.map fun v => v.category).sum ≤ 8) (hdg : decode cc pc = .ok (.invokestatic index, 3)) (hc : 0 + 1 ≤ R.cells) (hsl : 0 + 6 ≤ R.slots) : W p l e R s m args below meth c s.heap [] 0 0 (vx_MQ below xNo (xXC cls) args s 1 6 (fun _ => False)) (F0 m pc ls st0) :=
  x_bad (vx_runS (g := F0 m pc ls st0) (As := As) (rest := rest) S hM cw ⟨xBX.blind, fun U hU hW => ⟨rfl, x_pre hE hP hD is hn hs U hU hW, xThr.warm hW hU hThr⟩⟩ rfl hlen hl hst (lv_room (rest := st0) (st := rest) hW) hdg ⟨hc, hsl⟩) ht hlk
theorem x_bV (As : List Value) (hM : xX l y wsy rm E wc (.ref b :: As) cls) (S : CallFix p m c cc nL s args Ts own) (cw : CallW R s args own C index y bytes maxL ret wsy rm 1 6 n) (hE : xEnv E s) (hP : va_P E.1 vwCl ws s.heap) (hD : va_D A ws) (hThr : xThr s) (ht : ∀ x ∈ c.exceptionTable.toList, False) (hlk : meth.locks = false) (is : List Nat) (hn : va_nd is = true) (hs : is.map (fun i => ws[i]?) = wc.map some) {ci q0 : Nat} {q : vw_C} {fs : List Value} (hcl : vwCl[ci]? = some q) (hC : q.1 = C) (hq : ws[q0]? = some (b, .inr (ci, fs))) (hl : ls.size = nL) (hst : st0 = As.reverse ++ .ref b :: rest) (hlen : As.length = n) (hW : (rest.map fun v => v.category).sum ≤ 8) (hdg : decode cc pc = .ok (.invokevirtual index, 3)) (hc : 0 + 1 ≤ R.cells) (hsl : 0 + 6 ≤ R.slots) : W p l e R s m args below meth c s.heap [] 0 0 (vx_MQ below xNo (xXC cls) args s 1 6 (fun _ => False)) (F0 m pc ls st0) := by
  subst hC
  exact x_bad (vx_runV (g := F0 m pc ls st0) (As := As) (rest := rest) S hM cw ⟨xBX.blind, va_recv hE.1 hP hcl hq, fun U hU hW => ⟨rfl, x_pre hE hP hD is hn hs U hU hW, xThr.warm hW hU hThr⟩⟩ rfl hlen hl hst (lv_room (rest := st0) (st := rest) hW) hdg ⟨hc, hsl⟩) ht hlk
abbrev xSup : List String := ["java/lang/RuntimeException", "java/lang/Exception"]
/-- 'throw new E("text")' out of RailPendulum -/
theorem x_thr {ik is ic : Nat} {text : String} (hx : p.tables.exec = Jvm.exec) (hb : c.code = cc) (hst : l.stackTraces = false) (hown : s.vm.findClass RX8 = some m.cls) (hcls : Bundle.fit cls = true) (hk : (Cond.classLink RX8 ik cls).before args s = true) (hini : (Cond.initialized cls).before args s = true) (hThr : xThr s) (htx : (is, text) ∈ xTexts) (h1 : ∀ w ∈ (vx_atS RX8 ic cls xSup).filter goodWord, w.before args s = true) (h2 : ∀ w ∈ (vx_atS RX8 ic cls xSup).filter (fun w => !goodWord w), w ∈ xCast) (hgood : ∀ w ∈ Cond.classLink RX8 ik cls :: Cond.initialized cls :: vx_atS RX8 ic cls xSup, vx_ot w = true) (ht : ∀ x ∈ c.exceptionTable.toList, False) (hsize : ls.size = c.maxLocals)
    (d0 : decode cc pc = .ok (.new ik, 3)) (d3 : decode cc (pc + 3) = .ok (.dup, 1)) (d4 : decode cc (pc + 4) = .ok (.ldc is, 2)) (d6 : decode cc (pc + 6) = .ok (.invokespecial ic, 3)) (d9 : decode cc (pc + 9) = .ok (.athrow, 1)) (hRf : 5 < R.frames) (hRl : 82 ≤ R.locals) (hRc : 0 + 1 ≤ R.cells) (hRs : 0 + 6 ≤ R.slots) (hlk : meth.locks = false) : W p l e R s m args below meth c s.heap [] 0 0 (vx_MQ below xNo (xXC cls) args s 1 6 (fun _ => False)) (F0 m pc ls []) := by
  obtain ⟨sa, hsa⟩ := hThr.2.2.2 _ htx
  exact vx_throwS (A := fun _ => False) (names := xSup) hx hb hst hown hcls (by decide +kernel) hk hini hsa (vx_hat h1 h2 (fun w h => va_Nw.use (xCast_t w h) (hThr.2.2.1 w h))) hgood hThr.1 hThr.2.1 va_S.rf hsize d0 d3 d4 d6 d9 (fun x hx => (ht x hx).elim) hRf hRl hRc hRs hlk
    (fun t _ hz hq => ⟨(), trivial, rfl, hz, fun q h _ => hq q h⟩) (fun z hz => nomatch hz) (Nat.le_refl _) (Nat.le_refl _)
theorem x_thrW {ik is ic : Nat} {text : String} (hx : p.tables.exec = Jvm.exec) (hb : c.code = cc) (hst : l.stackTraces = false) (hown : s.vm.findClass RX8 = some m.cls) (hcls : Bundle.fit cls = true) (hk : (Cond.classLink RX8 ik cls).before args s = true) (hini : (Cond.initialized cls).before args s = true) (hThr : xThr s) (htx : (is, text) ∈ xTexts) (h1 : ∀ w ∈ (vx_atS RX8 ic cls xSup).filter goodWord, w.before args s = true) (h2 : ∀ w ∈ (vx_atS RX8 ic cls xSup).filter (fun w => !goodWord w), w ∈ xCast) (hgood : ∀ w ∈ Cond.classLink RX8 ik cls :: Cond.initialized cls :: vx_atS RX8 ic cls xSup, vx_ot w = true) (ht : ∀ x ∈ c.exceptionTable.toList, False) (hsize : ls.size = c.maxLocals)
    (d0 : decode cc pc = .ok (.new ik, 3)) (d3 : decode cc (pc + 3) = .ok (.dup, 1)) (d4 : decode cc (pc + 4) = .ok (.ldc_w is, 3)) (d7 : decode cc (pc + 7) = .ok (.invokespecial ic, 3)) (d10 : decode cc (pc + 10) = .ok (.athrow, 1)) (hRf : 5 < R.frames) (hRl : 82 ≤ R.locals) (hRc : 0 + 1 ≤ R.cells) (hRs : 0 + 6 ≤ R.slots) (hlk : meth.locks = false) : W p l e R s m args below meth c s.heap [] 0 0 (vx_MQ below xNo (xXC cls) args s 1 6 (fun _ => False)) (F0 m pc ls []) := by
  obtain ⟨sa, hsa⟩ := hThr.2.2.2 _ htx
  exact vx_throwSW (A := fun _ => False) (names := xSup) hx hb hst hown hcls (by decide +kernel) hk hini hsa (vx_hat h1 h2 (fun w h => va_Nw.use (xCast_t w h) (hThr.2.2.1 w h))) hgood hThr.1 hThr.2.1 va_S.rf hsize d0 d3 d4 d7 d10 (fun x hx => (ht x hx).elim) hRf hRl hRc hRs hlk
    (fun t _ hz hq => ⟨(), trivial, rfl, hz, fun q h _ => hq q h⟩) (fun z hz => nomatch hz) (Nat.le_refl _) (Nat.le_refl _)
end XY
theorem x_fit_io : Bundle.fit "java/lang/IndexOutOfBoundsException" = true := by decide +kernel
theorem x_hat_io : ∀ w ∈ (vx_atS RX8 306 "java/lang/IndexOutOfBoundsException" xSup).filter (fun w => !goodWord w), w ∈ xCast := by decide +kernel
theorem x_good_io : ∀ w ∈ Cond.classLink RX8 302 "java/lang/IndexOutOfBoundsException" :: Cond.initialized "java/lang/IndexOutOfBoundsException" :: vx_atS RX8 306 "java/lang/IndexOutOfBoundsException" xSup, vx_ot w = true := by decide +kernel
theorem x_fit_ia : Bundle.fit "java/lang/IllegalArgumentException" = true := by decide +kernel
theorem x_hat_ia : ∀ w ∈ (vx_atS RX8 317 "java/lang/IllegalArgumentException" xSup).filter (fun w => !goodWord w), w ∈ xCast := by decide +kernel
theorem x_good_ia : ∀ w ∈ Cond.classLink RX8 313 "java/lang/IllegalArgumentException" :: Cond.initialized "java/lang/IllegalArgumentException" :: vx_atS RX8 317 "java/lang/IllegalArgumentException" xSup, vx_ot w = true := by decide +kernel
theorem x_fit_is : Bundle.fit "java/lang/IllegalStateException" = true := by decide +kernel
theorem x_hat_is : ∀ w ∈ (vx_atS RX8 197 "java/lang/IllegalStateException" xSup).filter (fun w => !goodWord w), w ∈ xCast := by decide +kernel
theorem x_good_is : ∀ w ∈ Cond.classLink RX8 193 "java/lang/IllegalStateException" :: Cond.initialized "java/lang/IllegalStateException" :: vx_atS RX8 197 "java/lang/IllegalStateException" xSup, vx_ot w = true := by decide +kernel
