/-! the class' static arrays and the words of the texts: what is never written -/
def xUsual (k : Nat) : Int32 := ([4000, 40, 60, 8, 8, 1, 1, 60, 10, 4, 8, 4, 8, 0, 0, 64, 32, 2, 60, 512, 1500, 4, 50, 100] : List Int32).getD k 0
def xLeast (k : Nat) : Int32 := ([1, 0, 0, 0, 0, 0, 0, 1, 0, 0, 0, 0, 0, 0, 0, 1, 1, 0, 1, 1, 1, 1, 1, 0] : List Int32).getD k 0
def xMost (k : Nat) : Int32 := ([9999, 200, 200, 400, 400, 9, 9, 500, 200, 99, 99, 99, 99, 99, 99, 500, 500, 3, 200, 2000, 9999, 20, 200, 999] : List Int32).getD k 0
def xFirst (k : Nat) : Int32 := ([0, 1, 3, 5, 8, 9, 15, 19, 21, 24] : List Int32).getD k 0
/-- the words: their places in the pool, texts, bytes -/
def xWords : List (Nat × String × List Int32) := [(333, "rail", [114, 97, 105, 108]), (335, "gravity", [103, 114, 97, 118, 105, 116, 121]), (337, "damping", [100, 97, 109, 112, 105, 110, 103]), (339, "push", [112, 117, 115, 104]), (341, "couple", [99, 111, 117, 112, 108, 101]), (343, "gains", [103, 97, 105, 110, 115]), (345, "region", [114, 101, 103, 105, 111, 110]), (346, "limit", [108, 105, 109, 105, 116]), (348, "chatter", [99, 104, 97, 116, 116, 101, 114]), (350, "", [])]
def xWordsM : List (Nat × String) := [(121, "rail"), (130, "gravity"), (136, "damping"), (138, "push"), (140, "couple"), (142, "gains"), (147, "region"), (149, "limit"), (151, "chatter")]
def xByt : List (List Int32) := xWords.map (fun w => w.2.2)
def xLen : List Nat := xByt.map List.length
def xWl (i : Nat) : Nat := xLen.getD i 0
def xWb (i j : Nat) : Int32 := (xByt.getD i []).getD j 0
abbrev XZ : Type := Nat × Nat × Nat × Nat × (Nat → Nat) × (Nat → Nat)
abbrev xK (Z : XZ) (i : Nat) : Nat := Z.2.2.2.2.1 i
abbrev xV (Z : XZ) (i : Nat) : Nat := Z.2.2.2.2.2 i
abbrev xPC : String := "jdk/internal/util/Preconditions"
abbrev xBiF : String := "Ljava/util/function/BiFunction;"
def xSA (n : String) (t N : Nat) (f : Nat → Int32) (A : Nat → Prop) (U : State) (H : Heap) : Prop := va_Z RX8 n "[I" (.ref t) A U H ∧ va_T .int t N (fun j => .int (f j)) A U H
/-- all of it -/
def xZ (Z : XZ) (A : Nat → Prop) (U : State) (H : Heap) : Prop := xSA "USUAL" Z.1 24 xUsual A U H ∧ xSA "LEAST" Z.2.1 24 xLeast A U H ∧ xSA "MOST" Z.2.2.1 24 xMost A U H ∧ xSA "FIRST_NUMBER" Z.2.2.2.1 10 xFirst A U H ∧ vk_S 10 xLen xByt Z.2.2.2.2.1 Z.2.2.2.2.2 A U H ∧ va_Z "java/lang/String" "COMPACT_STRINGS" "Z" (.int 1) A U H ∧ va_Zq xPC "SIOOBE_FORMATTER" xBiF A U H ∧ ∀ (i k : Nat) (t : String) (b : List Int32), (xWords[i]? = some (k, t, b) → vk_R RX8 k t (xK Z i) U) ∧ (xWordsM[i]? = some (k, t) → vk_R RX9 k t (xK Z i) U)
theorem xSA.moved {n : String} {t N : Nat} {f : Nat → Int32} {A : Nat → Prop} {u U : State} {H : Heap} (hvm : u.vm.Alike U.vm) (h : xSA n t N f A u H) : xSA n t N f A U H := ⟨va_Z.moved hvm h.1, va_T.moved hvm h.2⟩
theorem xSA.kept {n : String} {t N : Nat} {f : Nat → Int32} {A : Nat → Prop} {U : State} {H H1 : Heap} (h : xSA n t N f A U H) (hq : ∀ a : Nat, a < H.size → ¬ A a → H1[a]? = H[a]?) : xSA n t N f A U H1 := ⟨va_Z.kept h.1 hq, va_T.kept h.2 hq⟩
theorem xSA.narrow {n : String} {t N : Nat} {f : Nat → Int32} {A B : Nat → Prop} {U : State} {H : Heap} (h : xSA n t N f A U H) (hAB : ∀ q, B q → A q) : xSA n t N f B U H := ⟨va_Z.narrow h.1 hAB, va_T.narrow h.2 hAB⟩
theorem xZ.warm {Z : XZ} {A : Nat → Prop} {s U : State} {H : Heap} (hW : s.WarmedH U.vm) (h : xZ Z A s H) : xZ Z A U H := by
  obtain ⟨h1, h2, h3, h4, h5, h6, h7, h8⟩ := h
  exact ⟨h1.moved hW.alike, h2.moved hW.alike, h3.moved hW.alike, h4.moved hW.alike, vk_S.moved hW.alike h5, va_Z.moved hW.alike h6, va_Zq.moved hW.alike h7, fun i k t b => ⟨fun e => vk_R.warm hW ((h8 i k t b).1 e), fun e => vk_R.warm hW ((h8 i k t b).2 e)⟩⟩
theorem xZ.kept {Z : XZ} {A : Nat → Prop} {U : State} {H H1 : Heap} (h : xZ Z A U H) (hq : ∀ a : Nat, a < H.size → ¬ A a → H1[a]? = H[a]?) : xZ Z A U H1 := by
  obtain ⟨h1, h2, h3, h4, h5, h6, h7, h8⟩ := h
  exact ⟨h1.kept hq, h2.kept hq, h3.kept hq, h4.kept hq, vk_S.kept h5 hq, va_Z.kept h6 hq, va_Zq.kept h7 hq, h8⟩
theorem xZ.narrow {Z : XZ} {A B : Nat → Prop} {U : State} {H : Heap} (h : xZ Z A U H) (hAB : ∀ q, B q → A q) : xZ Z B U H := by
  obtain ⟨h1, h2, h3, h4, h5, h6, h7, h8⟩ := h
  exact ⟨h1.narrow hAB, h2.narrow hAB, h3.narrow hAB, h4.narrow hAB, vk_S.narrow h5 hAB, va_Z.narrow h6 hAB, va_Zq.narrow h7 hAB, h8⟩
theorem xZ.same {Z : XZ} {A : Nat → Prop} {s U : State} {H : Heap} (hvm : U.vm = s.vm) (h : xZ Z A s H) : xZ Z A U H := xZ.warm (by rw [hvm]; exact State.WarmedH.refl s) h
def xBR (E : XE) (Z : XZ) (ws : va_W) (U : State) : Prop := xB0 E ws U ∧ xZ Z (fun _ => False) U U.heap
def xBW (E : XE) (Z : XZ) (sz : Nat) (ws : va_W) (U : State) : Prop := xB E sz ws U ∧ xZ Z (va_A ws sz) U U.heap
theorem xBR.blind {E : XE} {Z : XZ} {av : List Value} {ws : va_W} : FrameBlind (va_Pc av (xBR E Z ws)) := fun a U g mk q => ⟨q.1, (xB0.blind (E := E) (av := av) (ws := ws) a U g mk ⟨q.1, q.2.1⟩).2, xZ.same (s := U) (U := U.calling g mk a) rfl q.2.2⟩
theorem xBW.blind {E : XE} {Z : XZ} {av : List Value} {sz : Nat} {ws : va_W} : FrameBlind (va_Pc av (xBW E Z sz ws)) := fun a U g mk q => ⟨q.1, (xB.blind (E := E) (av := av) (sz := sz) (ws := ws) a U g mk ⟨q.1, q.2.1⟩).2, xZ.same (s := U) (U := U.calling g mk a) rfl q.2.2⟩
/-- methods that look at these -/
def xRZ (l : Launch) (y : MethodName) (ws : List Cond) (rm : Room) (E : XE) (Z : XZ) (W0 : va_W) (av : List Value) (v : Value) : Prop := Met l y ws rm (va_Pc av (xBR E Z W0)) (xQ v) 0 0 (fun _ => False)
def xR0Z (l : Launch) (y : MethodName) (ws : List Cond) (rm : Room) (E : XE) (Z : XZ) (W0 : va_W) (av : List Value) : Prop := Met l y ws rm (va_Pc av (xBR E Z W0)) xQ0 0 0 (fun _ => False)
def xWZ {T : Type} (l : Launch) (y : MethodName) (ws : List Cond) (rm : Room) (E : XE) (Z : XZ) (W0 : va_W) (av : List Value) (rv : T → Option Value) (W1 : T → va_W) (q : T) (mc ms : Nat) : Prop :=
  ∀ sz, Met l y ws rm (va_Pc av (xBW E Z sz W0)) (xO E (va_A W0 sz) rv W1 q) mc ms (va_A W0 sz)
section XZA
variable {l : Launch} {y : MethodName} {ws ws' : List Cond} {rm : Room} {E : XE} {Z : XZ} {W0 : va_W} {av : List Value} {v : Value} {cc : ByteArray} {maxL : Nat} {ret : Option FieldType}
theorem xRZ.of (hy : plainName y.cls = true) (hw : ws = Cond.code y cc maxL ret :: ws') (hav : (lg_sl av).length ≤ maxL)
    (body : ∀ (p : Program) (e : Env) (s : State) (m : MethodId) (args : Array Value) (below : List Frame) (meth : Method) (c : Code) (ls : Array Slot), xM p s m args meth c cc maxL ret ws y.cls y.name → xEnv E s → va_P E.1 vwCl W0 s.heap → va_D (fun _ => True) W0 → xZ Z (fun _ => False) s s.heap → lv_has ls maxL (lv_args 0 av) →
      W p l e rm s m args below meth c s.heap [] 0 0 (MQ below (xQ v) args s 0 0 (fun _ => False)) (F0 m 0 ls [])) : xRZ l y ws rm E Z W0 av v := by
  refine Met.ofW (cc := cc) (maxL := maxL) (ret := ret) hy hw ?_
  intro p e s m args below meth c s₁ B hml hv
  obtain ⟨rfl, ⟨hP, hE, hD⟩, hZ⟩ := hv
  have hl := lv_entry av (n := maxL) hav
  rw [lg_entry_eq]
  exact body p e s m av.toArray below meth c _ (xM.of B hml) hE hP hD hZ hl
theorem xR0Z.of (hy : plainName y.cls = true) (hw : ws = Cond.code y cc maxL ret :: ws') (hav : (lg_sl av).length ≤ maxL)
    (body : ∀ (p : Program) (e : Env) (s : State) (m : MethodId) (args : Array Value) (below : List Frame) (meth : Method) (c : Code) (ls : Array Slot), xM p s m args meth c cc maxL ret ws y.cls y.name → xEnv E s → va_P E.1 vwCl W0 s.heap → va_D (fun _ => True) W0 → xZ Z (fun _ => False) s s.heap → lv_has ls maxL (lv_args 0 av) →
      W p l e rm s m args below meth c s.heap [] 0 0 (MQ below xQ0 args s 0 0 (fun _ => False)) (F0 m 0 ls [])) : xR0Z l y ws rm E Z W0 av := by
  refine Met.ofW (cc := cc) (maxL := maxL) (ret := ret) hy hw ?_
  intro p e s m args below meth c s₁ B hml hv
  obtain ⟨rfl, ⟨hP, hE, hD⟩, hZ⟩ := hv
  have hl := lv_entry av (n := maxL) hav
  rw [lg_entry_eq]
  exact body p e s m av.toArray below meth c _ (xM.of B hml) hE hP hD hZ hl
theorem xWZ.of {T : Type} {rv : T → Option Value} {W1 : T → va_W} {q : T} {mc ms : Nat} (hy : plainName y.cls = true) (hw : ws = Cond.code y cc maxL ret :: ws') (hav : (lg_sl av).length ≤ maxL)
    (body : ∀ (p : Program) (e : Env) (s : State) (m : MethodId) (args : Array Value) (below : List Frame) (meth : Method) (c : Code) (ls : Array Slot) (A : Nat → Prop), xM p s m args meth c cc maxL ret ws y.cls y.name → xEnv E s → va_P E.1 vwCl W0 s.heap → va_D A W0 → va_S A s.heap s.heap [] → (∀ q, s.heap.size ≤ q → A q) → xZ Z A s s.heap → lv_has ls maxL (lv_args 0 av) →
      W p l e rm s m args below meth c s.heap [] 0 0 (MQ below (xO E A rv W1 q) args s mc ms A) (F0 m 0 ls [])) : xWZ l y ws rm E Z W0 av rv W1 q mc ms := by
  intro sz
  refine Met.ofW (cc := cc) (maxL := maxL) (ret := ret) hy hw ?_
  intro p e s m args below meth c s₁ B hml hv
  obtain ⟨rfl, ⟨hsz, hP, hE, hD⟩, hZ⟩ := hv
  subst hsz
  have hl := lv_entry av (n := maxL) hav
  rw [lg_entry_eq]
  exact body p e s m av.toArray below meth c _ (va_A W0 s.heap.size) (xM.of B hml) hE hP hD.self va_S.rf (fun q h => Or.inr h) hZ hl
end XZA
section XZB
variable {p : Program} {l : Launch} {e : Env} {R : Room} {s : State} {m : MethodId} {args : Array Value} {below : List Frame} {meth : Method} {c : Code} {H : Heap} {locs : List Loc} {cells slots : Nat} {Q : State → Prop}
variable {E : XE} {Z : XZ} {ws : va_W} {A A0 B : Nat → Prop} {cc : ByteArray} {pc : Nat} {ls : Array Slot} {a : Nat} {rest : List Value}
theorem xZ.here {U : State} (hZ : xZ Z A s s.heap) (hS : va_S A s.heap H locs) (hU : U.heap = H) (hW : s.WarmedH U.vm) (hAB : ∀ q, B q → A q) : xZ Z B U U.heap := by
  rw [hU]
  exact (((hZ.kept hS.2.1).narrow hAB).warm hW)
variable {y : MethodName} {bytes : ByteArray} {maxL nL index n : Nat} {ret : Option FieldType} {wsy : List Cond} {rm : Room} {Ts : List Cond} {own C : String} {b : Nat} {wc wr : va_W} {st0 : List Value} {v : Value}
theorem x_zS (As : List Value) (hM : xRZ l y wsy rm E Z wc As v) (S : CallFix p m c cc nL s args Ts own) (cw : CallB R s args own index y bytes maxL ret wsy rm 0 0 n ∧ (Cond.static y).before args s = true) (hZ : xZ Z A0 s s.heap) (hS : va_S A0 s.heap H locs) (hE : xEnv E s) (hP : va_P E.1 vwCl ws H) (hD : va_D A ws) (is : List Nat) (hn : va_nd is = true) (hs : is.map (fun i => ws[i]?) = wc.map some) (hl : ls.size = nL) (hst : st0 = As.reverse ++ rest) (hlen : As.length = n) (hW : (rest.map fun v => v.category).sum ≤ 8) (hdg : decode cc pc = .ok (.invokestatic index, 3)) (hc : cells ≤ R.cells) (hsl : slots ≤ R.slots) (kk : W p l e R s m args below meth c H locs cells slots Q (F0 m (pc + 3) ls (v :: rest))) : W p l e R s m args below meth c H locs cells slots Q (F0 m pc ls st0) :=
  x_call (va_runS (g := F0 m pc ls st0) (As := As) (rest := rest) S hM cw ⟨xBR.blind, fun U hU hW => ⟨rfl, x_pre hE hP hD is hn hs U hU hW, hZ.here hS hU hW (fun _ h => h.elim)⟩⟩ rfl hlen hl hst (lv_room (rest := st0) (st := rest) hW) hdg ⟨hc, hsl⟩) kk
theorem x_z0S (As : List Value) (hM : xR0Z l y wsy rm E Z wc As) (S : CallFix p m c cc nL s args Ts own) (cw : CallB R s args own index y bytes maxL ret wsy rm 0 0 n ∧ (Cond.static y).before args s = true) (hZ : xZ Z A0 s s.heap) (hS : va_S A0 s.heap H locs) (hE : xEnv E s) (hP : va_P E.1 vwCl ws H) (hD : va_D A ws) (is : List Nat) (hn : va_nd is = true) (hs : is.map (fun i => ws[i]?) = wc.map some) (hl : ls.size = nL) (hst : st0 = As.reverse ++ rest) (hlen : As.length = n) (hW : (rest.map fun v => v.category).sum ≤ 8) (hdg : decode cc pc = .ok (.invokestatic index, 3)) (hc : cells ≤ R.cells) (hsl : slots ≤ R.slots) (kk : W p l e R s m args below meth c H locs cells slots Q (F0 m (pc + 3) ls rest)) : W p l e R s m args below meth c H locs cells slots Q (F0 m pc ls st0) :=
  x_call0 (va_runS (g := F0 m pc ls st0) (As := As) (rest := rest) S hM cw ⟨xBR.blind, fun U hU hW => ⟨rfl, x_pre hE hP hD is hn hs U hU hW, hZ.here hS hU hW (fun _ h => h.elim)⟩⟩ rfl hlen hl hst (lv_room (rest := st0) (st := rest) hW) hdg ⟨hc, hsl⟩) kk
theorem x_zSN {host : String} (As : List Value) (hM : xRZ l y wsy rm E Z wc As v) (S : CallFix p m c cc nL s args Ts own) (cw : va_CN R s args own index y host bytes maxL ret wsy rm 0 0 n ∧ (Cond.static y).before args s = true ∧ True) (hZ : xZ Z A0 s s.heap) (hS : va_S A0 s.heap H locs) (hE : xEnv E s) (hP : va_P E.1 vwCl ws H) (hD : va_D A ws) (is : List Nat) (hn : va_nd is = true) (hs : is.map (fun i => ws[i]?) = wc.map some) (hl : ls.size = nL) (hst : st0 = As.reverse ++ rest) (hlen : As.length = n) (hW : (rest.map fun v => v.category).sum ≤ 8) (hdg : decode cc pc = .ok (.invokestatic index, 3)) (hc : cells ≤ R.cells) (hsl : slots ≤ R.slots) (kk : W p l e R s m args below meth c H locs cells slots Q (F0 m (pc + 3) ls (v :: rest))) : W p l e R s m args below meth c H locs cells slots Q (F0 m pc ls st0) :=
  x_call (va_runSN (g := F0 m pc ls st0) (As := As) (rest := rest) S hM cw ⟨xBR.blind, fun U hU hW => ⟨rfl, x_pre hE hP hD is hn hs U hU hW, hZ.here hS hU hW (fun _ h => h.elim)⟩⟩ rfl hlen hl hst (lv_room (rest := st0) (st := rest) hW) hdg ⟨hc, hsl⟩) kk
theorem x_zV (As : List Value) (hM : xRZ l y wsy rm E Z wc (.ref b :: As) v) (S : CallFix p m c cc nL s args Ts own) (cw : CallW R s args own C index y bytes maxL ret wsy rm 0 0 n) (hZ : xZ Z A0 s s.heap) (hS : va_S A0 s.heap H locs) (hE : xEnv E s) (hP : va_P E.1 vwCl ws H) (hD : va_D A ws) (is : List Nat) (hn : va_nd is = true) (hs : is.map (fun i => ws[i]?) = wc.map some) {ci q0 : Nat} {q : vw_C} {fs : List Value} (hcl : vwCl[ci]? = some q) (hC : q.1 = C) (hq : ws[q0]? = some (b, .inr (ci, fs))) (hl : ls.size = nL) (hst : st0 = As.reverse ++ .ref b :: rest) (hlen : As.length = n) (hW : (rest.map fun v => v.category).sum ≤ 8) (hdg : decode cc pc = .ok (.invokevirtual index, 3)) (hc : cells ≤ R.cells) (hsl : slots ≤ R.slots) (kk : W p l e R s m args below meth c H locs cells slots Q (F0 m (pc + 3) ls (v :: rest))) : W p l e R s m args below meth c H locs cells slots Q (F0 m pc ls st0) := by
  subst hC
  exact x_call (va_runV (g := F0 m pc ls st0) (As := As) (rest := rest) S hM cw ⟨xBR.blind, va_recv hE.1 hP hcl hq, fun U hU hW => ⟨rfl, x_pre hE hP hD is hn hs U hU hW, hZ.here hS hU hW (fun _ h => h.elim)⟩⟩ rfl hlen hl hst (lv_room (rest := st0) (st := rest) hW) hdg ⟨hc, hsl⟩) kk
/-- .. of a word -/
theorem x_zK {i : Nat} (hi : i < 10) (As : List Value) (hM : xRZ l y wsy rm E Z wc (.ref (xK Z i) :: As) v) (S : CallFix p m c cc nL s args Ts own) (cw : CallW R s args own "java/lang/String" index y bytes maxL ret wsy rm 0 0 n) (hZ : xZ Z A0 s s.heap) (hS : va_S A0 s.heap H locs) (hE : xEnv E s) (hP : va_P E.1 vwCl ws H) (hD : va_D A ws) (is : List Nat) (hn : va_nd is = true) (hs : is.map (fun i => ws[i]?) = wc.map some) (hl : ls.size = nL) (hst : st0 = As.reverse ++ .ref (xK Z i) :: rest) (hlen : As.length = n) (hW : (rest.map fun v => v.category).sum ≤ 8) (hdg : decode cc pc = .ok (.invokevirtual index, 3)) (hc : cells ≤ R.cells) (hsl : slots ≤ R.slots) (kk : W p l e R s m args below meth c H locs cells slots Q (F0 m (pc + 3) ls (v :: rest))) : W p l e R s m args below meth c H locs cells slots Q (F0 m pc ls st0) :=
  x_call (va_runV (g := F0 m pc ls st0) (As := As) (rest := rest) S hM cw ⟨xBR.blind, vk_recv hZ.2.2.2.2.1 hi hS, fun U hU hW => ⟨rfl, x_pre hE hP hD is hn hs U hU hW, hZ.here hS hU hW (fun _ h => h.elim)⟩⟩ rfl hlen hl hst (lv_room (rest := st0) (st := rest) hW) hdg ⟨hc, hsl⟩) kk
variable {T : Type} {rv : T → Option Value} {W1 : T → va_W} {q : T} {mc ms : Nat}
theorem x_yV (As : List Value) (hM : xWZ l y wsy rm E Z wc (.ref b :: As) rv W1 q mc ms) (S : CallFix p m c cc nL s args Ts own) (cw : CallW R s args own C index y bytes maxL ret wsy rm mc ms n) (hZ : xZ Z A0 s s.heap) (hE : xEnv E s) (hP : va_P E.1 vwCl ws H) (hD : va_D A0 ws) (hS : va_S A0 s.heap H locs) (hA : ∀ q, s.heap.size ≤ q → A0 q) (isC isR : List Nat) (hnC : va_nd isC = true) (hC : isC.map (fun i => ws[i]?) = wc.map some) (hR : isR.map (fun i => ws[i]?) = wr.map some) (hn : va_nd isR = true) (hdis : ∀ i ∈ isR, i ∉ isC) {ci q0 : Nat} {qc : vw_C} {fs : List Value} (hcl : vwCl[ci]? = some qc) (hCn : qc.1 = C) (hq : ws[q0]? = some (b, .inr (ci, fs))) (hl : ls.size = nL) (hst : st0 = As.reverse ++ .ref b :: rest) (hlen : As.length = n) (hW : (rest.map fun v => v.category).sum ≤ 8) (hdg : decode cc pc = .ok (.invokevirtual index, 3)) (hc : cells + mc ≤ R.cells) (hsl : slots + ms ≤ R.slots)
    (kk : ∀ (u : T) (H1 : Heap) (locs1 : List Loc), u = q → va_P E.1 vwCl (wr ++ W1 u) H1 → va_D A0 (wr ++ W1 u) → va_S A0 s.heap H1 locs1 → W p l e R s m args below meth c H1 locs1 (cells + mc) (slots + ms) Q (F0 m (pc + 3) ls ((rv u).toList ++ rest))) : W p l e R s m args below meth c H locs cells slots Q (F0 m pc ls st0) := by
  subst hCn
  exact x_cw (va_runV (g := F0 m pc ls st0) (As := As) (rest := rest) S (hM H.size) cw ⟨xBW.blind, va_recv hE.1 hP hcl hq, fun U hU hW => ⟨rfl, ⟨by rw [hU], x_pre hE hP hD isC hnC hC U hU hW⟩, hZ.here hS hU hW (va_free hD hS hA isC hC)⟩⟩ rfl hlen hl hst (lv_room (rest := st0) (st := rest) hW) hdg ⟨hc, hsl⟩) hP hD hS hA isC isR hC hR hn hdis kk
theorem x_ySN {host : String} (As : List Value) (hM : xWZ l y wsy rm E Z wc As rv W1 q mc ms) (S : CallFix p m c cc nL s args Ts own) (cw : va_CN R s args own index y host bytes maxL ret wsy rm mc ms n ∧ (Cond.static y).before args s = true ∧ True) (hZ : xZ Z A0 s s.heap) (hE : xEnv E s) (hP : va_P E.1 vwCl ws H) (hD : va_D A0 ws) (hS : va_S A0 s.heap H locs) (hA : ∀ q, s.heap.size ≤ q → A0 q) (isC isR : List Nat) (hnC : va_nd isC = true) (hC : isC.map (fun i => ws[i]?) = wc.map some) (hR : isR.map (fun i => ws[i]?) = wr.map some) (hn : va_nd isR = true) (hdis : ∀ i ∈ isR, i ∉ isC) (hl : ls.size = nL) (hst : st0 = As.reverse ++ rest) (hlen : As.length = n) (hW : (rest.map fun v => v.category).sum ≤ 8) (hdg : decode cc pc = .ok (.invokestatic index, 3)) (hc : cells + mc ≤ R.cells) (hsl : slots + ms ≤ R.slots)
    (kk : ∀ (u : T) (H1 : Heap) (locs1 : List Loc), u = q → va_P E.1 vwCl (wr ++ W1 u) H1 → va_D A0 (wr ++ W1 u) → va_S A0 s.heap H1 locs1 → W p l e R s m args below meth c H1 locs1 (cells + mc) (slots + ms) Q (F0 m (pc + 3) ls ((rv u).toList ++ rest))) : W p l e R s m args below meth c H locs cells slots Q (F0 m pc ls st0) :=
  x_cw (va_runSN (g := F0 m pc ls st0) (As := As) (rest := rest) S (hM H.size) cw ⟨xBW.blind, fun U hU hW => ⟨rfl, ⟨by rw [hU], x_pre hE hP hD isC hnC hC U hU hW⟩, hZ.here hS hU hW (va_free hD hS hA isC hC)⟩⟩ rfl hlen hl hst (lv_room (rest := st0) (st := rest) hW) hdg ⟨hc, hsl⟩) hP hD hS hA isC isR hC hR hn hdis kk
theorem x_yS (As : List Value) (hM : xWZ l y wsy rm E Z wc As rv W1 q mc ms) (S : CallFix p m c cc nL s args Ts own) (cw : CallB R s args own index y bytes maxL ret wsy rm mc ms n ∧ (Cond.static y).before args s = true) (hZ : xZ Z A0 s s.heap) (hE : xEnv E s) (hP : va_P E.1 vwCl ws H) (hD : va_D A0 ws) (hS : va_S A0 s.heap H locs) (hA : ∀ q, s.heap.size ≤ q → A0 q) (isC isR : List Nat) (hnC : va_nd isC = true) (hC : isC.map (fun i => ws[i]?) = wc.map some) (hR : isR.map (fun i => ws[i]?) = wr.map some) (hn : va_nd isR = true) (hdis : ∀ i ∈ isR, i ∉ isC) (hl : ls.size = nL) (hst : st0 = As.reverse ++ rest) (hlen : As.length = n) (hW : (rest.map fun v => v.category).sum ≤ 8) (hdg : decode cc pc = .ok (.invokestatic index, 3)) (hc : cells + mc ≤ R.cells) (hsl : slots + ms ≤ R.slots)
    (kk : ∀ (u : T) (H1 : Heap) (locs1 : List Loc), u = q → va_P E.1 vwCl (wr ++ W1 u) H1 → va_D A0 (wr ++ W1 u) → va_S A0 s.heap H1 locs1 → W p l e R s m args below meth c H1 locs1 (cells + mc) (slots + ms) Q (F0 m (pc + 3) ls ((rv u).toList ++ rest))) : W p l e R s m args below meth c H locs cells slots Q (F0 m pc ls st0) :=
  x_cw (va_runS (g := F0 m pc ls st0) (As := As) (rest := rest) S (hM H.size) cw ⟨xBW.blind, fun U hU hW => ⟨rfl, ⟨by rw [hU], x_pre hE hP hD isC hnC hC U hU hW⟩, hZ.here hS hU hW (va_free hD hS hA isC hC)⟩⟩ rfl hlen hl hst (lv_room (rest := st0) (st := rest) hW) hdg ⟨hc, hsl⟩) hP hD hS hA isC isR hC hR hn hdis kk
theorem x_ldcSW {tx : String} {q : Nat} (hx : p.tables.exec = Jvm.exec) (hb : c.code = cc) (hown : s.vm.findClass own = some m.cls) (hR : vk_R own index tx q s) (hdg : decode cc pc = .ok (.ldc_w index, 3)) (k : W p l e R s m args below meth c H locs cells slots Q (F0 m (pc + 3) ls (.ref q :: rest))) : W p l e R s m args below meth c H locs cells slots Q (F0 m pc ls rest) := by
  intro T hT X
  obtain ⟨t, a1, b1⟩ := k T hT X
  exact ⟨t, X.ldcStringW hx hown (text := tx) (a := q) hR.1 hR.2 (g := F0 m pc ls rest) rfl (by rw [hb]; exact hdg) t a1, b1⟩
theorem x_arE {a r : Nat} {rt : FieldType} (he : r = a) (hx : p.tables.exec = Jvm.exec) (hb : c.code = cc) (hr : meth.sig.returnType = some rt) (hlk : meth.locks = false) (hrt : (∃ n, rt = .object n) ∨ ∃ t, rt = .array t) (hdg : decode cc pc = .ok (.areturn, 1)) : W p l e R s m args below meth c s.heap [] 0 0 (MQ below (xQ (.ref r)) args s 0 0 (fun _ => False)) (F0 m pc ls [.ref a]) := by
  subst he
  exact x_ar hx hb hr hlk hrt hdg
end XZB
theorem x_wlen (i : Nat) (h : i < 10) : xWl i < 2 ^ 31 := by
  have : ∀ i, i < 10 → xWl i < 2 ^ 31 := by decide +kernel
  exact this i h
section XCT
variable {p : Program} {l : Launch} {e : Env} {R : Room} {s : State} {m : MethodId} {args : Array Value} {below : List Frame} {meth : Method} {c : Code} {H : Heap} {locs : List Loc} {cells slots : Nat} {Q : State → Prop}
variable {ws : va_W} {A : Nat → Prop} {cc : ByteArray} {pc : Nat} {ls : Array Slot} {a : Nat} {rest : List Value}
/-- a row of the class' own copied whole into a row of ours -/
theorem x_copyT (hx : p.tables.exec = Jvm.exec) (hb : c.code = cc) (hml : c.maxLocals = ls.size) {own : String} {index : Nat} (hown : s.vm.findClass own = some m.cls) (hlink : (Cond.methodLink own index arraycopyName).before args s = true) (hnat : (Cond.native arraycopyName).before args s = true) (hstat : (Cond.static arraycopyName).before args s = true) (hini : (Cond.initialized "java/lang/System").before args s = true)
    {E : XE} (hE : xEnv E s) (hP : va_P E.1 vwCl ws H) (hD : va_D A ws) (hS : va_S A s.heap H locs) {b0 N : Nat} {f : Nat → Int32} (hT : va_T .int b0 N (fun j => .int (f j)) A s s.heap) (q1 : Nat) {g : Nat → Int32} (ha1 : ws[q1]? = some (a, .inl (E.2.1, N, .inl g))) (hN : N < 2 ^ 31) (hframes : 1 ≤ R.frames) (hlocals : (rest.map fun v => v.category).sum + (nativeFrameWords "java/lang/System" "arraycopy" 5 + 11) ≤ R.locals) (hdg : decode cc pc = .ok (.invokestatic index, 3))
    (kk : ∀ (H1 : Heap) (locs1 : List Loc), va_P E.1 vwCl (ws.set q1 (a, .inl (E.2.1, N, .inl (va_cpy f g 0 0 N)))) H1 → va_D A (ws.set q1 (a, .inl (E.2.1, N, .inl (va_cpy f g 0 0 N)))) → va_S A s.heap H1 locs1 → W p l e R s m args below meth c H1 locs1 cells slots Q (F0 m (pc + 3) ls rest)) : W p l e R s m args below meth c H locs cells slots Q (F0 m pc ls (.int (nI N) :: .int 0 :: .ref a :: .int 0 :: .ref b0 :: rest)) := by
  have hn0 : ¬ nI N < 0 := nI_pos hN
  have hcl : (nI N).toNatClampNeg = N := nI_clamp hN
  have hti : (nI N).toInt = (N : Int) := nI_toInt hN
  have z0 : (0 : Int32).toInt = 0 := by decide
  intro T hTH X
  obtain ⟨scr, hs1, hs2, hs3, hs4, -, hs5, hs7⟩ := hT
  have hc0 : H[b0]? = some scr := by rw [hS.2.1 b0 (Array.getElem?_eq_some_iff.mp hs1).1 hs7]; exact hs1
  have hc1 : H[a]? = some (vp_cell E.2.1 (N, .inl g)) := hP q1 _ ha1
  obtain ⟨hs6, k0, hk0, cm0, hkk0⟩ := hs2
  obtain ⟨-, k1, hk1, cm1, hkk1⟩ := (hE.1.2 0 (E.2.1, .int) rfl).1 N (fun j => .int (g j))
  obtain ⟨vm', X', step⟩ := X.arraycopy hx hown hlink hnat hstat hini (src := b0) (dst := a) (cs := scr) (cd := vp_cell E.2.1 (N, .inl g)) (srcPos := 0) (destPos := 0) (n := nI N) (by rw [hTH]; exact hc0) (by rw [hTH]; exact hc1)
    hs6 (fun _ h => by cases h) hs3 (fun h => by cases h) hk0 hk1 hkk0 hkk1 (by simp [refKind]) (by decide) (by decide) hn0
    (by rw [z0, hti]; omega)
    (by rw [z0, hti]; show ¬ _ > ((arrV E.2.1 N (fun j => .int (g j))).slots.size : Int); rw [arrV_size]; omega)
    (fun vm₁ _ i hi => by
      rw [hcl] at hi
      have e0 : (0 : Int32).toNatClampNeg + i = i := Nat.zero_add i
      have e : scr.slots.getD ((0 : Int32).toNatClampNeg + i) .null = .int (f i) := by
        rw [e0, Array.getD_eq_getD_getElem?, hs5 _ hi]
        rfl
      refine ⟨?_, ?_⟩
      · rw [e]; rfl
      · rw [e]; exact trivial)
    (g := F0 m pc ls (.int (nI N) :: .int 0 :: .ref a :: .int 0 :: .ref b0 :: rest)) rfl (by rw [hml]) (rest := rest) rfl (by rw [hb]; exact hdg) hframes (by show 2 * 0 + _ + _ ≤ _; omega)
  have e1 : copied scr (vp_cell E.2.1 (N, .inl g)) 0 0 (nI N) = vp_cell E.2.1 (N, .inl (va_cpy f g 0 0 N)) := by
    have h4 : (0 : Int32).toNatClampNeg + (nI N).toNatClampNeg ≤ N := by rw [hcl]; exact Nat.le_of_eq (Nat.zero_add N)
    have h : copied scr (vp_cell E.2.1 (N, .inl g)) 0 0 (nI N) = vp_cell E.2.1 (N, .inl (va_cpy f g (0 : Int32).toNatClampNeg (0 : Int32).toNatClampNeg (nI N).toNatClampNeg)) := va_copiedX (fun z => .int z) scr E.2.1 f g hs5 h4
    rw [hcl] at h
    exact h
  rw [e1] at X' step
  have hl : a < H.size := (Array.getElem?_eq_some_iff.mp hc1).1
  have hheap : ((T.setVm vm').setCell a (vp_cell E.2.1 (N, .inl (va_cpy f g 0 0 N)))).heap = H.setIfInBounds a (vp_cell E.2.1 (N, .inl (va_cpy f g 0 0 N))) := by rw [← hTH]; rfl
  have oq : ∀ q : Nat, q ≠ a → (H.setIfInBounds a (vp_cell E.2.1 (N, .inl (va_cpy f g 0 0 N))))[q]? = H[q]? := fun q hq => by simp [Array.getElem?_setIfInBounds, Ne.symm hq]
  obtain ⟨t, a1, b1⟩ := kk _ _ (hP.set hD ha1 (show (H.setIfInBounds a _)[a]? = some _ by simp [Array.getElem?_setIfInBounds, hl]) oq) (hD.set ha1) ⟨by simp; exact hS.1, fun q g1 g2 => by
      rw [oq q (fun e => g2 (by rw [e]; exact hD.2 q1 _ ha1))]
      exact hS.2.1 q g1 g2, fun q hq => by
      rcases List.mem_append.mp hq with h | h
      · exact hS.2.2 q h
      · obtain ⟨z, -, hz⟩ := List.mem_map.mp h
        rw [← hz]
        exact hD.2 q1 _ ha1⟩ _ hheap X'
  exact ⟨t, step t a1, b1⟩
end XCT
