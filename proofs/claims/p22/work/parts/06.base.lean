/-! BASE: what every contract here says of the machine, and one row for each kind of call -/
abbrev fN : Type := Nat → Int32
abbrev yK (Y : Nat → ClassId) : List (ClassId × FieldType) := [(Y 0, .int), (Y 1, .boolean), (Y 2, .array .int)]
/-- the class of the arrays of arrays of ints, as anewarray finds it -/
def AO2 (U : State) : Prop := (Cond.arrayOver (.array .int)).before #[] U = true
theorem AO2.of {A : Array Value} {U : State} (h : (Cond.arrayOver (.array .int)).before A U = true) : AO2 U := h
theorem AO2.use {A : Array Value} {U : State} (h : AO2 U) : (Cond.arrayOver (.array .int)).before A U = true := h
theorem AO2.moved {u U : State} (hvm : u.vm.Alike U.vm) (h : AO2 u) : AO2 U := by
  obtain ⟨comp, c, k, h1, h2, h3, h4, h5⟩ := arrayOverA_spec h
  obtain ⟨k', hk', he⟩ := hvm.2.2 _ _ h3
  have hi : (U.vm.classes.findIdx? fun (x : Class) => match x.kind with | .array component _ => component == comp | _ => false) = some c := by
    rw [hvm.findIdx?_eq _ (fun _ => rfl)]
    exact h2
  have hkind : k'.kind = .array comp (.array .int) := by rw [he]; exact h4
  have f1 : U.vm.findClass (FieldType.array .int).toString = some comp := by rw [hvm.findClass]; exact h1
  have f2 : U.vm.findClass ("[" ++ (FieldType.array .int).toString) = some c := by rw [hvm.findClass]; exact h5
  unfold AO2 Cond.before Cond.holds
  simp only [Cond.value]
  rw [f1, Option.bind_some]
  refine (congrArg (fun o : Option Nat => (o.bind (fun c => (U.vm.classes[c]?).map fun (k : Class) => match k.kind with | .array _ ty => decide (ty = FieldType.array .int) && decide (U.vm.findClass ("[" ++ (FieldType.array .int).toString) = some c) | _ => false) == some true)) hi).trans ?_
  simp [hk', hkind, f2]
abbrev nwW : List Cond := [.methodLinkNest RX5 18 yX3_init RX5, .methodLinkNest RX5 44 yX1_init RX5, .methodLinkNest RX0 43 yX5_sum RX5, .methodLinkNest RX1 40 yX5_sum RX5, .methodLinkNest RX0 92 yX5_isOutside RX5, .methodLinkNest RX2 21 yX5_hold RX5]
abbrev exW : List Cond := [.castable "java/lang/IndexOutOfBoundsException" "java/lang/IndexOutOfBoundsException", .castable "java/lang/IllegalArgumentException" "java/lang/IllegalArgumentException", .castable "[I" "java/lang/Cloneable", .castable "java/lang/IllegalStateException" "java/lang/IllegalStateException", .declares ⟨"java/lang/RuntimeException", "<init>", "()V"⟩, .declares ⟨"java/lang/RuntimeException", "<init>", "(Ljava/lang/String;)V"⟩, .declares ⟨"java/lang/Exception", "<init>", "()V"⟩, .declares ⟨"java/lang/Exception", "<init>", "(Ljava/lang/String;)V"⟩, .declares ⟨"java/lang/Throwable", "<init>", "()V"⟩, .declares ⟨"java/lang/Throwable", "<init>", "(Ljava/lang/String;)V"⟩]
abbrev exT : List (Nat × String) := [(100, "there is no such pump"), (116, "from is not 0 to 19"), (118, "to is not 0 to 19"), (120, "from is greater than to"), (168, "there is no such jump"), (170, "what is not 0 to 4"), (132, "jumper is not 0 to 9"), (83, "part is not 0 to 19"), (178, "what is not 0 to 3"), (183, "what is not 0 to 10"), (188, "hours is not 1 to 96"), (197, "snow is not 1 to 300"), (209, "what is not 4, 7 or 8"), (136, "style is not 0 to 20"), (55, "hour is not 0 to 23"), (62, "warmth is not -30 to 20"), (65, "damp is not 0 to 100"), (67, "gust is not -9 to 9"), (85, "flow is not 1 to 9"), (93, "there are 5 pumps"), (106, "water is not 1 to 9999"), (125, "judge is not 0 to 4"), (127, "strict is not 0 to 4"), (134, "gate is not 1 to 20"), (139, "there are 30 jumps")]
abbrev exN : List (String × String) := [("java/lang/IllegalArgumentException", "java/lang/IllegalStateException"), ("java/lang/IndexOutOfBoundsException", "java/lang/IllegalStateException")]
theorem nwW_warm {s U : State} (hW : s.WarmedH U.vm) (h : ∀ w ∈ nwW, va_Nw w s) : ∀ w ∈ nwW, va_Nw w U := List.forall_mem_cons.mpr ⟨va_Nw.warmM hW (h _ (List.mem_of_getElem? (i := 0) rfl)), List.forall_mem_cons.mpr ⟨va_Nw.warmM hW (h _ (List.mem_of_getElem? (i := 1) rfl)), List.forall_mem_cons.mpr ⟨va_Nw.warmM hW (h _ (List.mem_of_getElem? (i := 2) rfl)), List.forall_mem_cons.mpr ⟨va_Nw.warmM hW (h _ (List.mem_of_getElem? (i := 3) rfl)), List.forall_mem_cons.mpr ⟨va_Nw.warmM hW (h _ (List.mem_of_getElem? (i := 4) rfl)), List.forall_mem_cons.mpr ⟨va_Nw.warmM hW (h _ (List.mem_of_getElem? (i := 5) rfl)), fun _ h9 => absurd h9 List.not_mem_nil⟩⟩⟩⟩⟩⟩
theorem exW_warm {s U : State} (hW : s.WarmedH U.vm) (h : ∀ w ∈ exW, va_Nw w s) : ∀ w ∈ exW, va_Nw w U := List.forall_mem_cons.mpr ⟨va_Nw.warmC hW (h _ (List.mem_of_getElem? (i := 0) rfl)), List.forall_mem_cons.mpr ⟨va_Nw.warmC hW (h _ (List.mem_of_getElem? (i := 1) rfl)), List.forall_mem_cons.mpr ⟨va_Nw.warmC hW (h _ (List.mem_of_getElem? (i := 2) rfl)), List.forall_mem_cons.mpr ⟨va_Nw.warmC hW (h _ (List.mem_of_getElem? (i := 3) rfl)), List.forall_mem_cons.mpr ⟨va_Nw.warmD hW (h _ (List.mem_of_getElem? (i := 4) rfl)), List.forall_mem_cons.mpr ⟨va_Nw.warmD hW (h _ (List.mem_of_getElem? (i := 5) rfl)), List.forall_mem_cons.mpr ⟨va_Nw.warmD hW (h _ (List.mem_of_getElem? (i := 6) rfl)), List.forall_mem_cons.mpr ⟨va_Nw.warmD hW (h _ (List.mem_of_getElem? (i := 7) rfl)), List.forall_mem_cons.mpr ⟨va_Nw.warmD hW (h _ (List.mem_of_getElem? (i := 8) rfl)), List.forall_mem_cons.mpr ⟨va_Nw.warmD hW (h _ (List.mem_of_getElem? (i := 9) rfl)), fun _ h9 => absurd h9 List.not_mem_nil⟩⟩⟩⟩⟩⟩⟩⟩⟩⟩
theorem nwW_tab : ∀ w ∈ nwW, w.onTables = true := by decide +kernel
theorem exW_tab : ∀ w ∈ exW, w.onTables = true := by decide +kernel
def NW (U : State) : Prop := (∀ w ∈ nwW, va_Nw w U) ∧ AO2 U
theorem NW.warm {s U : State} (hW : s.WarmedH U.vm) (h : NW s) : NW U := ⟨nwW_warm hW h.1, h.2.moved hW.alike⟩
theorem NW.same {u U : State} (e : u.vm = U.vm) (h : NW u) : NW U := ⟨fun w hw => va_Nw.same (nwW_tab w hw) e (h.1 w hw), AO2.moved (by rw [e]; exact Vm.Alike.refl _) h.2⟩
theorem NW.get {U : State} (h : NW U) (i : Nat) {w : Cond} (hw : nwW[i]? = some w) : va_Nw w U := h.1 w (List.mem_of_getElem? hw)
theorem NW.before {A : Array Value} {U : State} (h : NW U) (i : Nat) {w : Cond} (hw : nwW[i]? = some w) : w.before A U = true := va_Nw.use (nwW_tab w (List.mem_of_getElem? hw)) (h.get i hw)
/-- the tables' part of what a throw and a catch need -/
def EX (U : State) : Prop := (∀ w ∈ exW, va_Nw w U) ∧ (∀ q ∈ exT, ∃ sa, vk_R RX5 q.1 q.2 sa U) ∧ ∀ q ∈ exN, va_Nc q.1 q.2 U
theorem EX.warm {s U : State} (hW : s.WarmedH U.vm) (h : EX s) : EX U := ⟨exW_warm hW h.1, fun q hq => by obtain ⟨sa, h9⟩ := h.2.1 q hq; exact ⟨sa, vk_R.warm hW h9⟩, fun q hq => va_Nc.moved hW.alike (h.2.2 q hq)⟩
theorem EX.calling {U : State} {g : JFrame} {mk : MethodId} {a : Array Value} (h : EX U) : EX (U.calling g mk a) := ⟨fun w hw => va_Nw.same (u := U) (U := U.calling g mk a) (exW_tab w hw) rfl (h.1 w hw), fun q hq => by obtain ⟨sa, h9⟩ := h.2.1 q hq; exact ⟨sa, vk_R.same (u := U) (U := U.calling g mk a) rfl h9⟩, fun q hq => va_Nc.moved (u := U) (U := U.calling g mk a) (Vm.Alike.refl U.vm) (h.2.2 q hq)⟩
/-- what Throwable's two statics hold, outside A -/
def ZX (A : Nat → Prop) (U : State) (H : Heap) : Prop := vx_Zq Bundle.tN "UNASSIGNED_STACK" Bundle.steD A U H ∧ vx_Zq Bundle.tN "SUPPRESSED_SENTINEL" Bundle.listD A U H
theorem ZX.moved {A : Nat → Prop} {u U : State} {H : Heap} (hvm : u.vm.Alike U.vm) (h : ZX A u H) : ZX A U H := ⟨vx_Zq.moved hvm h.1, vx_Zq.moved hvm h.2⟩
theorem ZX.kept {A : Nat → Prop} {U : State} {H H1 : Heap} (h : ZX A U H) (hq : ∀ a : Nat, a < H.size → ¬ A a → H1[a]? = H[a]?) : ZX A U H1 := ⟨vx_Zq.kept h.1 hq, vx_Zq.kept h.2 hq⟩
theorem ZX.narrow {A B : Nat → Prop} {U : State} {H : Heap} (h : ZX A U H) (hAB : ∀ q, B q → A q) : ZX B U H := ⟨vx_Zq.narrow h.1 hAB, vx_Zq.narrow h.2 hAB⟩
def KN (D : va_G) (Y : Nat → ClassId) (U : State) : Prop := va_K D vwCl (yK Y) U ∧ NW U
theorem KN.warm {D : va_G} {Y : Nat → ClassId} {s U : State} (hW : s.WarmedH U.vm) (h : KN D Y s) : KN D Y U := ⟨va_K.moved hW.alike h.1, h.2.warm hW⟩
theorem KN.calling {D : va_G} {Y : Nat → ClassId} {U : State} {g : JFrame} {mk : MethodId} {a : Array Value} (h : KN D Y U) : KN D Y (U.calling g mk a) := ⟨va_K.moved (u := U) (U := U.calling g mk a) (Vm.Alike.refl U.vm) h.1, NW.same (u := U) (U := U.calling g mk a) rfl h.2⟩
/-! a contract's start and end -/
def pcW (D : va_G) (Y : Nat → ClassId) (av : List Value) (sz : Nat) (ws : va_W) : Array Value → State → Prop := va_Pc av (fun U => U.heap.size = sz ∧ va_P D vwCl ws U.heap ∧ KN D Y U ∧ va_D (fun _ => True) ws)
theorem pcW_blind {D : va_G} {Y : Nat → ClassId} {av : List Value} {sz : Nat} {ws : va_W} : FrameBlind (pcW D Y av sz ws) := fun a U g mk q => by
  obtain ⟨q0, q1, qP, qK, qD⟩ := q
  exact ⟨q0, q1, qP, qK.calling, qD⟩
def pcX (D : va_G) (Y : Nat → ClassId) (av : List Value) (sz : Nat) (ws : va_W) : Array Value → State → Prop := va_Pc av (fun U => U.heap.size = sz ∧ va_P D vwCl ws U.heap ∧ KN D Y U ∧ va_D (fun _ => True) ws ∧ EX U ∧ ZX (va_A ws sz) U U.heap)
theorem pcX_blind {D : va_G} {Y : Nat → ClassId} {av : List Value} {sz : Nat} {ws : va_W} : FrameBlind (pcX D Y av sz ws) := fun a U g mk q => by
  obtain ⟨q0, q1, qP, qK, qD, qE, qZ⟩ := q
  exact ⟨q0, q1, qP, qK.calling, qD, qE.calling, ZX.moved (u := U) (U := U.calling g mk a) (Vm.Alike.refl U.vm) qZ⟩
def qW (D : va_G) (A : Nat → Prop) (w : va_W) : Unit → State → Prop := fun _ t => va_P D vwCl w t.heap ∧ va_D A w
abbrev MI (l : Launch) (y : MethodName) (ws : List Cond) (rm : Room) (D : va_G) (Y : Nat → ClassId) (av : List Value) (sz : Nat) (wc : va_W) (E : Int32) (w1 : va_W) (mc ms : Nat) : Prop := Met l y ws rm (pcW D Y av sz wc) (va_Qi (fun (r : Int32) (_ : Unit) => r = E) (qW D (va_A wc sz) w1) (va_A wc sz)) mc ms (va_A wc sz)
abbrev ML (l : Launch) (y : MethodName) (ws : List Cond) (rm : Room) (D : va_G) (Y : Nat → ClassId) (av : List Value) (sz : Nat) (wc : va_W) (E : Int64) (w1 : va_W) (mc ms : Nat) : Prop := Met l y ws rm (pcW D Y av sz wc) (va_Ql (fun (r : Int64) (_ : Unit) => r = E) (qW D (va_A wc sz) w1) (va_A wc sz)) mc ms (va_A wc sz)
abbrev MV (l : Launch) (y : MethodName) (ws : List Cond) (rm : Room) (D : va_G) (Y : Nat → ClassId) (av : List Value) (sz : Nat) (wc : va_W) (w1 : va_W) (mc ms : Nat) : Prop := Met l y ws rm (pcW D Y av sz wc) (va_Qv (fun (_ : Unit) => True) (qW D (va_A wc sz) w1) (va_A wc sz)) mc ms (va_A wc sz)
/-- what a body has at its entry -/
def Ent (p : Program) (s : State) (m : MethodId) (args : Array Value) (meth : Method) (c : Code) (y : MethodName) (cc : ByteArray) (maxL : Nat) (ret : Option FieldType) (ws : List Cond) : Prop :=
  p.tables.exec = Jvm.exec ∧ c.code = cc ∧ meth.sig.returnType = ret ∧ c.maxLocals = maxL ∧ s.vm.findClass y.cls = some m.cls ∧ (∀ w ∈ ws, w.before args s = true) ∧ meth.locks = false ∧ meth.name = y.name
theorem pcW_start {l : Launch} {y : MethodName} {ws ws' : List Cond} {rm : Room} {D : va_G} {Y : Nat → ClassId} {av : List Value} {sz : Nat} {wc : va_W} {mc ms : Nat} {cc : ByteArray} {maxL : Nat} {ret : Option FieldType} {Qc : (Nat → Prop) → Array Value → State → Outcome → State → Prop}
    (hy : plainName y.cls = true) (hw : ws = Cond.code y cc maxL ret :: ws') (hsl : (lg_sl av).length ≤ maxL)
    (body : ∀ (p : Program) (e : Env) (s : State) (m : MethodId) (below : List Frame) (meth : Method) (c : Code) (A : Nat → Prop) (ls : Array Slot), Ent p s m av.toArray meth c y cc maxL ret ws → KN D Y s → (∀ q, s.heap.size ≤ q → A q) → va_P D vwCl wc s.heap → va_D A wc → lv_has ls maxL (lv_args 0 av) →
      W p l e rm s m av.toArray below meth c s.heap [] 0 0 (MQ below (Qc A) av.toArray s mc ms A) (F0 m 0 ls [])) : Met l y ws rm (pcW D Y av sz wc) (Qc (va_A wc sz)) mc ms (va_A wc sz) := by
  refine Met.ofW (cc := cc) (maxL := maxL) (ret := ret) hy hw ?_
  intro p e s m args below meth c s₁ B hml hv
  obtain ⟨rfl, hsz, hP, hK, hD0⟩ := hv
  subst hsz
  have hD := hD0.self (sz := s.heap.size)
  have hl := lv_entry av (n := maxL) hsl
  rw [lg_entry_eq]
  generalize (lg_sl av ++ List.replicate (maxL - (lg_sl av).length) Slot.unset).toArray = ls at hl ⊢
  exact body p e s m below meth c (va_A wc s.heap.size) ls ⟨B.exec, B.bytes, B.returns, hml, findClass_of_methodNamed B.named, atoms_spec (ws := ws) B.pre, B.notSynchronized, (name_of_methodNamed B.named B.method).1⟩ hK (fun q h => Or.inr h) hP hD hl
section
variable {p : Program} {l : Launch} {e : Env} {R : Room} {s : State} {m : MethodId} {args : Array Value} {below : List Frame} {meth : Method} {c : Code} {H H0 : Heap} {locs : List Loc} {cells slots : Nat} {Q : State → Prop} {ls : Array Slot} {rest : List Value} {cc : ByteArray} {pc : Nat} {D : va_G} {Y : Nat → ClassId} {A : Nat → Prop}
/-! the ends -/
theorem eI {mc ms : Nat} {E v : Int32} {rt : FieldType} {w : va_W} (hx : p.tables.exec = Jvm.exec) (hb : c.code = cc) (hr : meth.sig.returnType = some rt) (hlk : meth.locks = false) (hP : va_P D vwCl w H) (hD : va_D A w) (hS : va_S A s.heap H locs) (hn : narrow rt (.int v) = .int v) (hE : v = E) (hc : cells ≤ mc) (hs : slots ≤ ms) (hdg : decode cc pc = .ok (.ireturn, 1)) :
    W p l e R s m args below meth c H locs cells slots (MQ below (va_Qi (fun (r : Int32) (_ : Unit) => r = E) (qW D A w) A) args s mc ms A) (F0 m pc ls [.int v]) :=
  W.widen hc hs (W.zret hx hb hr hn (fun t ht _ => ⟨⟨v, (), rfl, hE, by rw [ht]; exact hP, hD⟩, hS.F ht⟩) hS.2.2 hdg hlk)
theorem eL {mc ms : Nat} {E v : Int64} {w : va_W} (hx : p.tables.exec = Jvm.exec) (hb : c.code = cc) (hr : meth.sig.returnType = some .long) (hlk : meth.locks = false) (hP : va_P D vwCl w H) (hD : va_D A w) (hS : va_S A s.heap H locs) (hE : v = E) (hc : cells ≤ mc) (hs : slots ≤ ms) (hdg : decode cc pc = .ok (.lreturn, 1)) :
    W p l e R s m args below meth c H locs cells slots (MQ below (va_Ql (fun (r : Int64) (_ : Unit) => r = E) (qW D A w) A) args s mc ms A) (F0 m pc ls [.long v]) :=
  W.widen hc hs (W.lret hx hb hr (fun t ht _ => ⟨⟨v, (), rfl, hE, by rw [ht]; exact hP, hD⟩, hS.F ht⟩) hS.2.2 hdg hlk)
theorem eV {mc ms : Nat} {w : va_W} (hx : p.tables.exec = Jvm.exec) (hb : c.code = cc) (hr : meth.sig.returnType = none) (hlk : meth.locks = false) (hP : va_P D vwCl w H) (hD : va_D A w) (hS : va_S A s.heap H locs) (hc : cells ≤ mc) (hs : slots ≤ ms) (hdg : decode cc pc = .ok (.return_, 1)) :
    W p l e R s m args below meth c H locs cells slots (MQ below (va_Qv (fun (_ : Unit) => True) (qW D A w) A) args s mc ms A) (F0 m pc ls []) :=
  W.widen hc hs (W.vret hx hb hr (fun t ht _ => ⟨⟨(), rfl, trivial, by rw [ht]; exact hP, hD⟩, hS.F ht⟩) hS.2.2 hdg hlk)
/-! a value by another name -/
theorem lv_eqi {x y : Int32} (h : x = y) (k : W p l e R s m args below meth c H locs cells slots Q (F0 m pc ls (.int y :: rest))) : W p l e R s m args below meth c H locs cells slots Q (F0 m pc ls (.int x :: rest)) := h ▸ k
theorem lv_eql {x y : Int64} (h : x = y) (k : W p l e R s m args below meth c H locs cells slots Q (F0 m pc ls (.long y :: rest))) : W p l e R s m args below meth c H locs cells slots Q (F0 m pc ls (.long x :: rest)) := h ▸ k
/-! arrays of ints at a numbered place -/
theorem ia {tys : List (ClassId × FieldType)} {ws : va_W} {a : Nat} (hx : p.tables.exec = Jvm.exec) (hb : c.code = cc) (hK : va_K D vwCl tys s) (hP : va_P D vwCl ws H) (q0 t0 : Nat) {cA : ClassId} {n : Nat} {f : fN} (ha : ws[q0]? = some (a, .inl (cA, n, .inl f))) (ht : tys[t0]? = some (cA, .int)) (k : Nat) {i : Int32} (hi : i = nI k) (hk : k < n) (hn : n < 2 ^ 31) (hdg : decode cc pc = .ok (.iaload, 1))
    (kk : W p l e R s m args below meth c H locs cells slots Q (F0 m (pc + 1) ls (.int (f k) :: rest))) : W p l e R s m args below meth c H locs cells slots Q (F0 m pc ls (.int i :: .ref a :: rest)) := by
  subst hi
  have h2 : k < 2 ^ 31 := Nat.lt_trans hk hn
  refine va_iald hx hb hK hP q0 t0 ha ht (vp_in_nI hk hn) hdg ?_
  rw [nI_clamp h2]; exact kk
theorem za {tys : List (ClassId × FieldType)} {ws : va_W} {a : Nat} (hx : p.tables.exec = Jvm.exec) (hb : c.code = cc) (hK : va_K D vwCl tys s) (hP : va_P D vwCl ws H) (q0 t0 : Nat) {cA : ClassId} {n : Nat} {f : fN} (ha : ws[q0]? = some (a, .inl (cA, n, .inl f))) (ht : tys[t0]? = some (cA, .boolean)) (k : Nat) {i : Int32} (hi : i = nI k) (hk : k < n) (hn : n < 2 ^ 31) (hdg : decode cc pc = .ok (.baload, 1))
    (kk : W p l e R s m args below meth c H locs cells slots Q (F0 m (pc + 1) ls (.int (f k) :: rest))) : W p l e R s m args below meth c H locs cells slots Q (F0 m pc ls (.int i :: .ref a :: rest)) := by
  subst hi
  have h2 : k < 2 ^ 31 := Nat.lt_trans hk hn
  refine va_zald hx hb hK hP q0 t0 ha ht (vp_in_nI hk hn) hdg ?_
  rw [nI_clamp h2]; exact kk
theorem la {tys : List (ClassId × FieldType)} {ws : va_W} {a : Nat} (hx : p.tables.exec = Jvm.exec) (hb : c.code = cc) (hK : va_K D vwCl tys s) (hP : va_P D vwCl ws H) (q0 t0 : Nat) {cA : ClassId} {n : Nat} {f : Nat → Int64} (ha : ws[q0]? = some (a, .inl (cA, n, .inr (.inl f)))) (ht : tys[t0]? = some (cA, .long)) (k : Nat) {i : Int32} (hi : i = nI k) (hk : k < n) (hn : n < 2 ^ 31) (hdg : decode cc pc = .ok (.laload, 1))
    (kk : W p l e R s m args below meth c H locs cells slots Q (F0 m (pc + 1) ls (.long (f k) :: rest))) : W p l e R s m args below meth c H locs cells slots Q (F0 m pc ls (.int i :: .ref a :: rest)) := by
  subst hi
  have h2 : k < 2 ^ 31 := Nat.lt_trans hk hn
  refine va_lald hx hb hK hP q0 t0 ha ht (vp_in_nI hk hn) hdg ?_
  rw [nI_clamp h2]; exact kk
theorem is {tys : List (ClassId × FieldType)} {ws : va_W} {a : Nat} (hx : p.tables.exec = Jvm.exec) (hb : c.code = cc) (hK : va_K D vwCl tys s) (hP : va_P D vwCl ws H) (hD : va_D A ws) (hS : va_S A H0 H locs) (q0 t0 : Nat) {cA : ClassId} {n : Nat} {f : fN} (ha : ws[q0]? = some (a, .inl (cA, n, .inl f))) (ht : tys[t0]? = some (cA, .int)) (k : Nat) {i x : Int32} (hi : i = nI k) (hk : k < n) (hn : n < 2 ^ 31) (hdg : decode cc pc = .ok (.iastore, 1))
    (kk : ∀ (H1 : Heap) (locs1 : List Loc), va_P D vwCl (ws.set q0 (a, .inl (cA, n, .inl (upd f k x)))) H1 → va_D A (ws.set q0 (a, .inl (cA, n, .inl (upd f k x)))) → va_S A H0 H1 locs1 → W p l e R s m args below meth c H1 locs1 cells slots Q (F0 m (pc + 1) ls rest)) : W p l e R s m args below meth c H locs cells slots Q (F0 m pc ls (.int x :: .int i :: .ref a :: rest)) := by
  subst hi
  have h2 : k < 2 ^ 31 := Nat.lt_trans hk hn
  refine va_iast hx hb hK hP hD hS q0 t0 ha ht (vp_in_nI hk hn) hdg ?_
  rw [nI_clamp h2]; exact kk
theorem zs {tys : List (ClassId × FieldType)} {ws : va_W} {a : Nat} (hx : p.tables.exec = Jvm.exec) (hb : c.code = cc) (hK : va_K D vwCl tys s) (hP : va_P D vwCl ws H) (hD : va_D A ws) (hS : va_S A H0 H locs) (q0 t0 : Nat) {cA : ClassId} {n : Nat} {f : fN} (ha : ws[q0]? = some (a, .inl (cA, n, .inl f))) (ht : tys[t0]? = some (cA, .boolean)) (k : Nat) {i x : Int32} (hi : i = nI k) (hk : k < n) (hn : n < 2 ^ 31) (hv : vp_nar .boolean x = x) (hdg : decode cc pc = .ok (.bastore, 1))
    (kk : ∀ (H1 : Heap) (locs1 : List Loc), va_P D vwCl (ws.set q0 (a, .inl (cA, n, .inl (upd f k x)))) H1 → va_D A (ws.set q0 (a, .inl (cA, n, .inl (upd f k x)))) → va_S A H0 H1 locs1 → W p l e R s m args below meth c H1 locs1 cells slots Q (F0 m (pc + 1) ls rest)) : W p l e R s m args below meth c H locs cells slots Q (F0 m pc ls (.int x :: .int i :: .ref a :: rest)) := by
  subst hi
  have h2 : k < 2 ^ 31 := Nat.lt_trans hk hn
  refine va_zast hx hb hK hP hD hS q0 t0 ha ht (vp_in_nI hk hn) hdg ?_
  rw [nI_clamp h2, hv]; exact kk
theorem lst {tys : List (ClassId × FieldType)} {ws : va_W} {a : Nat} (hx : p.tables.exec = Jvm.exec) (hb : c.code = cc) (hK : va_K D vwCl tys s) (hP : va_P D vwCl ws H) (hD : va_D A ws) (hS : va_S A H0 H locs) (q0 t0 : Nat) {cA : ClassId} {n : Nat} {f : Nat → Int64} (ha : ws[q0]? = some (a, .inl (cA, n, .inr (.inl f)))) (ht : tys[t0]? = some (cA, .long)) (k : Nat) {i : Int32} {x : Int64} (hi : i = nI k) (hk : k < n) (hn : n < 2 ^ 31) (hdg : decode cc pc = .ok (.lastore, 1))
    (kk : ∀ (H1 : Heap) (locs1 : List Loc), va_P D vwCl (ws.set q0 (a, .inl (cA, n, .inr (.inl (vp_updL f k x))))) H1 → va_D A (ws.set q0 (a, .inl (cA, n, .inr (.inl (vp_updL f k x))))) → va_S A H0 H1 locs1 → W p l e R s m args below meth c H1 locs1 cells slots Q (F0 m (pc + 1) ls rest)) : W p l e R s m args below meth c H locs cells slots Q (F0 m pc ls (.long x :: .int i :: .ref a :: rest)) := by
  subst hi
  have h2 : k < 2 ^ 31 := Nat.lt_trans hk hn
  refine va_last hx hb hK hP hD hS q0 t0 ha ht (vp_in_nI hk hn) hdg ?_
  rw [nI_clamp h2]; exact kk
/-! calls: the callee's cells by their places isC, the others isR, the world behind it in the order pm of (the others, the callee's) -/
theorem jn {ws wc w1 ws' : va_W} {H1 : Heap} (hP : va_P D vwCl ws H) (hD : va_D A ws) (isC isR pm : List Nat) (hC : isC.map (fun i => ws[i]?) = wc.map some) (hn : (va_nd isR && isR.all (fun i => decide (i < ws.length) && decide (i ∉ isC)) && va_nd pm) = true) (hp : pm.map (fun i => (isR.filterMap (fun i => ws[i]?) ++ w1)[i]?) = ws'.map some)
    (hk : ∀ q : Nat, q < H.size → ¬ va_A wc H.size q → H1[q]? = H[q]?) (hF : ∀ q, va_A wc H.size q → A q) (hP1 : va_P D vwCl w1 H1) (hD1 : va_D (va_A wc H.size) w1) : va_P D vwCl ws' H1 ∧ va_D A ws' := by
  simp only [Bool.and_eq_true, List.all_eq_true, decide_eq_true_eq] at hn
  obtain ⟨⟨h1, h2⟩, h3⟩ := hn
  have hR : isR.map (fun i => ws[i]?) = (isR.filterMap (fun i => ws[i]?)).map some := by
    clear hp h1
    induction isR with
    | nil => rfl
    | cons i t ih =>
      have hi : i < ws.length := (h2 i List.mem_cons_self).1
      rw [List.map_cons, List.filterMap_cons, List.getElem?_eq_getElem hi]
      exact congrArg _ (ih fun j hj => h2 j (List.mem_cons_of_mem _ hj))
  obtain ⟨hP2, hD2⟩ := va_join hP hD isC isR hC hR h1 (fun i hi => (h2 i hi).2) hk hF hP1 hD1
  refine ⟨fun k q hq => ?_, hD2.sub pm h3 hp⟩
  have h4 : (pm.map (fun i => (isR.filterMap (fun i => ws[i]?) ++ w1)[i]?))[k]? = some (some q) := by rw [hp, List.getElem?_map, hq]; rfl
  rw [List.getElem?_map] at h4
  cases hi : pm[k]? with
  | none => rw [hi] at h4; cases h4
  | some i => rw [hi] at h4; exact hP2 i q (Option.some.inj h4)
variable {y : MethodName} {bytes : ByteArray} {maxL nL mc ms n index : Nat} {ret : Option FieldType} {rm : Room} {Ts wsY : List Cond} {own C host : String} {b : Nat} {As : List Value} {wc w1 ws ws' : va_W} {st : List Value}
theorem pS (hKN : KN D Y s) (hP : va_P D vwCl ws H) (hD : va_D A ws) (isC : List Nat) (hC : isC.map (fun i => ws[i]?) = wc.map some) (hnC : va_nd isC = true) : PreS s H (pcW D Y As H.size wc) As := by
  refine ⟨pcW_blind, fun U hU hW => ⟨rfl, by rw [hU], ?_, hKN.warm hW, (hD.sub isC hnC hC).weaken (fun _ _ _ _ => trivial)⟩⟩
  rw [hU]
  intro k q hq
  have h4 : (isC.map (fun i => ws[i]?))[k]? = some (some q) := by rw [hC, List.getElem?_map, hq]; rfl
  rw [List.getElem?_map] at h4
  cases hi : isC[k]? with
  | none => rw [hi] at h4; cases h4
  | some i => rw [hi] at h4; exact hP i q (Option.some.inj h4)
theorem pV (hKN : KN D Y s) (hP : va_P D vwCl ws H) (hD : va_D A ws) (isC : List Nat) (hC : isC.map (fun i => ws[i]?) = wc.map some) (hnC : va_nd isC = true) (q0 ci : Nat) {fs : List Value} {T : u_T} {N : Nat} (hq : ws[q0]? = some (b, .inr (ci, fs))) (hc : vwCl[ci]? = some (C, T, N)) : PreV s H C b (pcW D Y (.ref b :: As) H.size wc) As :=
  ⟨(pS (Y := Y) (As := .ref b :: As) hKN hP hD isC hC hnC).1, va_recv hKN.1 hP hc hq, (pS (Y := Y) (As := .ref b :: As) hKN hP hD isC hC hnC).2⟩
theorem cVi {E : Int32} (S : CallFix p m c cc nL s args Ts own) (hM : MI l y wsY rm D Y (.ref b :: As) H.size wc E w1 mc ms) (cw : CallW R s args own C index y bytes maxL ret wsY rm mc ms n) (hKN : KN D Y s) (hP : va_P D vwCl ws H) (hD : va_D A ws) (hS : va_S A H0 H locs) (hA : ∀ q, H0.size ≤ q → A q) (isC isR pm : List Nat) (hC : isC.map (fun i => ws[i]?) = wc.map some) (hnC : va_nd isC = true) (hn : (va_nd isR && isR.all (fun i => decide (i < ws.length) && decide (i ∉ isC)) && va_nd pm) = true) (hp : pm.map (fun i => (isR.filterMap (fun i => ws[i]?) ++ w1)[i]?) = ws'.map some)
    (q0 ci : Nat) {fs : List Value} {T : u_T} {N : Nat} (hq : ws[q0]? = some (b, .inr (ci, fs))) (hc : vwCl[ci]? = some (C, T, N))
    (hst : st = As.reverse ++ .ref b :: rest) (hln : As.length = n) (hsz : ls.size = nL) (hW : (rest.map fun v => v.category).sum ≤ 8) (hdg : decode cc pc = .ok (.invokevirtual index, 3)) (hf : cells + mc ≤ R.cells ∧ slots + ms ≤ R.slots)
    (kk : ∀ (H1 : Heap) (locs1 : List Loc), va_P D vwCl ws' H1 → va_D A ws' → va_S A H0 H1 locs1 → W p l e R s m args below meth c H1 locs1 (cells + mc) (slots + ms) Q (F0 m (pc + 3) ls (.int E :: rest))) : W p l e R s m args below meth c H locs cells slots Q (F0 m pc ls st) := by
  subst hst
  have hFc := va_free hD hS hA isC hC
  refine va_calli (va_runV (As := As) (rest := rest) S hM cw (pV hKN hP hD isC hC hnC q0 ci hq hc) rfl hln hsz rfl (lv_room hW) hdg hf) hS (fun q _ h => hFc q h) hFc (fun r u t H1 locs ht hvm hw hB hz1 hk1 hS => ?_)
  obtain ⟨hP1, hD1⟩ := hB
  rw [ht] at hP1
  subst hw
  obtain ⟨hP2, hD2⟩ := jn hP hD isC isR pm hC hn hp hk1 hFc hP1 hD1
  exact kk H1 locs hP2 hD2 hS
theorem cVl {E : Int64} (S : CallFix p m c cc nL s args Ts own) (hM : ML l y wsY rm D Y (.ref b :: As) H.size wc E w1 mc ms) (cw : CallW R s args own C index y bytes maxL ret wsY rm mc ms n) (hKN : KN D Y s) (hP : va_P D vwCl ws H) (hD : va_D A ws) (hS : va_S A H0 H locs) (hA : ∀ q, H0.size ≤ q → A q) (isC isR pm : List Nat) (hC : isC.map (fun i => ws[i]?) = wc.map some) (hnC : va_nd isC = true) (hn : (va_nd isR && isR.all (fun i => decide (i < ws.length) && decide (i ∉ isC)) && va_nd pm) = true) (hp : pm.map (fun i => (isR.filterMap (fun i => ws[i]?) ++ w1)[i]?) = ws'.map some)
    (q0 ci : Nat) {fs : List Value} {T : u_T} {N : Nat} (hq : ws[q0]? = some (b, .inr (ci, fs))) (hc : vwCl[ci]? = some (C, T, N))
    (hst : st = As.reverse ++ .ref b :: rest) (hln : As.length = n) (hsz : ls.size = nL) (hW : (rest.map fun v => v.category).sum ≤ 8) (hdg : decode cc pc = .ok (.invokevirtual index, 3)) (hf : cells + mc ≤ R.cells ∧ slots + ms ≤ R.slots)
    (kk : ∀ (H1 : Heap) (locs1 : List Loc), va_P D vwCl ws' H1 → va_D A ws' → va_S A H0 H1 locs1 → W p l e R s m args below meth c H1 locs1 (cells + mc) (slots + ms) Q (F0 m (pc + 3) ls (.long E :: rest))) : W p l e R s m args below meth c H locs cells slots Q (F0 m pc ls st) := by
  subst hst
  have hFc := va_free hD hS hA isC hC
  refine va_calll (va_runV (As := As) (rest := rest) S hM cw (pV hKN hP hD isC hC hnC q0 ci hq hc) rfl hln hsz rfl (lv_room hW) hdg hf) hS (fun q _ h => hFc q h) hFc (fun r u t H1 locs ht hvm hw hB hz1 hk1 hS => ?_)
  obtain ⟨hP1, hD1⟩ := hB
  rw [ht] at hP1
  subst hw
  obtain ⟨hP2, hD2⟩ := jn hP hD isC isR pm hC hn hp hk1 hFc hP1 hD1
  exact kk H1 locs hP2 hD2 hS
theorem cVv (S : CallFix p m c cc nL s args Ts own) (hM : MV l y wsY rm D Y (.ref b :: As) H.size wc w1 mc ms) (cw : CallW R s args own C index y bytes maxL ret wsY rm mc ms n) (hKN : KN D Y s) (hP : va_P D vwCl ws H) (hD : va_D A ws) (hS : va_S A H0 H locs) (hA : ∀ q, H0.size ≤ q → A q) (isC isR pm : List Nat) (hC : isC.map (fun i => ws[i]?) = wc.map some) (hnC : va_nd isC = true) (hn : (va_nd isR && isR.all (fun i => decide (i < ws.length) && decide (i ∉ isC)) && va_nd pm) = true) (hp : pm.map (fun i => (isR.filterMap (fun i => ws[i]?) ++ w1)[i]?) = ws'.map some)
    (q0 ci : Nat) {fs : List Value} {T : u_T} {N : Nat} (hq : ws[q0]? = some (b, .inr (ci, fs))) (hc : vwCl[ci]? = some (C, T, N))
    (hst : st = As.reverse ++ .ref b :: rest) (hln : As.length = n) (hsz : ls.size = nL) (hW : (rest.map fun v => v.category).sum ≤ 8) (hdg : decode cc pc = .ok (.invokevirtual index, 3)) (hf : cells + mc ≤ R.cells ∧ slots + ms ≤ R.slots)
    (kk : ∀ (H1 : Heap) (locs1 : List Loc), va_P D vwCl ws' H1 → va_D A ws' → va_S A H0 H1 locs1 → W p l e R s m args below meth c H1 locs1 (cells + mc) (slots + ms) Q (F0 m (pc + 3) ls (rest))) : W p l e R s m args below meth c H locs cells slots Q (F0 m pc ls st) := by
  subst hst
  have hFc := va_free hD hS hA isC hC
  refine va_callv (va_runV (As := As) (rest := rest) S hM cw (pV hKN hP hD isC hC hnC q0 ci hq hc) rfl hln hsz rfl (lv_room hW) hdg hf) hS (fun q _ h => hFc q h) hFc (fun u t H1 locs ht hvm hw hB hz1 hk1 hS => ?_)
  obtain ⟨hP1, hD1⟩ := hB
  rw [ht] at hP1
  obtain ⟨hP2, hD2⟩ := jn hP hD isC isR pm hC hn hp hk1 hFc hP1 hD1
  exact kk H1 locs hP2 hD2 hS
theorem cSi {E : Int32} (S : CallFix p m c cc nL s args Ts own) (hM : MI l y wsY rm D Y (As) H.size wc E w1 mc ms) (cw : CallB R s args own index y bytes maxL ret wsY rm mc ms n ∧ (Cond.static y).before args s = true) (hKN : KN D Y s) (hP : va_P D vwCl ws H) (hD : va_D A ws) (hS : va_S A H0 H locs) (hA : ∀ q, H0.size ≤ q → A q) (isC isR pm : List Nat) (hC : isC.map (fun i => ws[i]?) = wc.map some) (hnC : va_nd isC = true) (hn : (va_nd isR && isR.all (fun i => decide (i < ws.length) && decide (i ∉ isC)) && va_nd pm) = true) (hp : pm.map (fun i => (isR.filterMap (fun i => ws[i]?) ++ w1)[i]?) = ws'.map some)
    (hst : st = As.reverse ++ rest) (hln : As.length = n) (hsz : ls.size = nL) (hW : (rest.map fun v => v.category).sum ≤ 8) (hdg : decode cc pc = .ok (.invokestatic index, 3)) (hf : cells + mc ≤ R.cells ∧ slots + ms ≤ R.slots)
    (kk : ∀ (H1 : Heap) (locs1 : List Loc), va_P D vwCl ws' H1 → va_D A ws' → va_S A H0 H1 locs1 → W p l e R s m args below meth c H1 locs1 (cells + mc) (slots + ms) Q (F0 m (pc + 3) ls (.int E :: rest))) : W p l e R s m args below meth c H locs cells slots Q (F0 m pc ls st) := by
  subst hst
  have hFc := va_free hD hS hA isC hC
  refine va_calli (va_runS (As := As) (rest := rest) S hM cw (pS hKN hP hD isC hC hnC) rfl hln hsz rfl (lv_room hW) hdg hf) hS (fun q _ h => hFc q h) hFc (fun r u t H1 locs ht hvm hw hB hz1 hk1 hS => ?_)
  obtain ⟨hP1, hD1⟩ := hB
  rw [ht] at hP1
  subst hw
  obtain ⟨hP2, hD2⟩ := jn hP hD isC isR pm hC hn hp hk1 hFc hP1 hD1
  exact kk H1 locs hP2 hD2 hS
theorem cSNi {E : Int32} (S : CallFix p m c cc nL s args Ts own) (hM : MI l y wsY rm D Y (As) H.size wc E w1 mc ms) (cw : va_CN R s args own index y host bytes maxL ret wsY rm mc ms n ∧ (Cond.static y).before args s = true ∧ True) (hKN : KN D Y s) (hP : va_P D vwCl ws H) (hD : va_D A ws) (hS : va_S A H0 H locs) (hA : ∀ q, H0.size ≤ q → A q) (isC isR pm : List Nat) (hC : isC.map (fun i => ws[i]?) = wc.map some) (hnC : va_nd isC = true) (hn : (va_nd isR && isR.all (fun i => decide (i < ws.length) && decide (i ∉ isC)) && va_nd pm) = true) (hp : pm.map (fun i => (isR.filterMap (fun i => ws[i]?) ++ w1)[i]?) = ws'.map some)
    (hst : st = As.reverse ++ rest) (hln : As.length = n) (hsz : ls.size = nL) (hW : (rest.map fun v => v.category).sum ≤ 8) (hdg : decode cc pc = .ok (.invokestatic index, 3)) (hf : cells + mc ≤ R.cells ∧ slots + ms ≤ R.slots)
    (kk : ∀ (H1 : Heap) (locs1 : List Loc), va_P D vwCl ws' H1 → va_D A ws' → va_S A H0 H1 locs1 → W p l e R s m args below meth c H1 locs1 (cells + mc) (slots + ms) Q (F0 m (pc + 3) ls (.int E :: rest))) : W p l e R s m args below meth c H locs cells slots Q (F0 m pc ls st) := by
  subst hst
  have hFc := va_free hD hS hA isC hC
  refine va_calli (va_runSN (As := As) (rest := rest) S hM cw (pS hKN hP hD isC hC hnC) rfl hln hsz rfl (lv_room hW) hdg hf) hS (fun q _ h => hFc q h) hFc (fun r u t H1 locs ht hvm hw hB hz1 hk1 hS => ?_)
  obtain ⟨hP1, hD1⟩ := hB
  rw [ht] at hP1
  subst hw
  obtain ⟨hP2, hD2⟩ := jn hP hD isC isR pm hC hn hp hk1 hFc hP1 hD1
  exact kk H1 locs hP2 hD2 hS
end
