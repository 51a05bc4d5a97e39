/-! CORE 2: constructors, throws and catches, arguments within their bounds -/
def ix (x : Int32) : Nat := x.toNatClampNeg
theorem rng {x : Int32} {n : Nat} (hn : n < 2 ^ 31) (h : ¬ (x < 0 ∨ nI n < x)) : x = nI (ix x) ∧ ix x ≤ n := by
  have h1 : ¬ x < 0 := fun q => h (Or.inl q)
  have h2 : x ≤ nI n := Int32.not_lt.mp (fun q => h (Or.inr q))
  obtain ⟨j, hj, e⟩ := nI_of2 (x := x) (M := nI n) (n := n) (nI_toInt hn) h1 h2
  subst e
  have hc : (nI j).toNatClampNeg = j := nI_clamp (by omega)
  unfold ix
  rw [hc]
  exact ⟨rfl, hj⟩
theorem ix_nI {k : Nat} (h : k < 2 ^ 31) : ix (nI k) = k := nI_clamp h
theorem outN {lo hi k : Nat} (h1 : lo ≤ k) (h2 : k ≤ hi) (h3 : hi < 2 ^ 31) : ¬ (nI k < nI lo ∨ nI hi < nI k) := by
  rintro (h | h)
  · exact absurd ((nI_ltI (by omega) (by omega)).mp h) (by omega)
  · exact absurd ((nI_ltI (by omega) (by omega)).mp h) (by omega)
theorem ite0 {c : Prop} [Decidable c] {k t : Nat} : (if c then k + 1 else t) = 0 ↔ ¬ c ∧ t = 0 := by
  by_cases h : c
  · simp [h]
  · simp [h]
theorem va_nrmL {D : va_G} {cl : List vw_C} {ws : va_W} {H : Heap} {A : Nat → Prop} (hP : va_P D cl ws H) (hD : va_D A ws) (i : Nat) {a n : Nat} {cA : ClassId} {f : Nat → Int64} (h : ws[i]? = some (a, .inl (cA, n, .inr (.inl f)))) {g : Nat → Int64} (hg : ∀ j, j < n → f j = g j) : va_P D cl (ws.set i (a, .inl (cA, n, .inr (.inl g)))) H ∧ va_D A (ws.set i (a, .inl (cA, n, .inr (.inl g)))) := by
  refine ⟨hP.set hD h ?_ (fun _ _ => rfl), hD.set h⟩
  have h1 : H[a]? = some (vp_cell cA (n, .inr (.inl f))) := hP i _ h
  show H[a]? = some (vp_cell cA (n, .inr (.inl g)))
  rw [h1, vp_cell_l, vp_cell_l]
  unfold arrV
  congr 2
  apply Array.ext
  · simp
  · intro k h2 h3
    have hk : k < n := by simpa using h2
    simp [hg k hk]
def lkp (l : List Nat) : Nat → Nat := fun k => l.getD k 0
abbrev MA (l : Launch) (y : MethodName) (ws : List Cond) (rm : Room) (D : va_G) (Y : Nat → ClassId) (av : List Value) (sz : Nat) (wc : va_W) (w1 : (Nat → Nat) → va_W) (mc ms : Nat) : Prop := Met l y ws rm (pcW D Y av sz wc) (va_Qv (fun (_ : Nat → Nat) => True) (fun ad t => va_P D vwCl (w1 ad) t.heap ∧ va_D (va_A wc sz) (w1 ad)) (va_A wc sz)) mc ms (va_A wc sz)
abbrev exn (k : Nat) (l : List String) : String := l.getD (k - 1) ""
/-- a method that throws: the world stays as it was -/
abbrev MX (l : Launch) (y : MethodName) (ws : List Cond) (rm : Room) (D : va_G) (Y : Nat → ClassId) (av : List Value) (sz : Nat) (wc : va_W) (E : String) (mc ms : Nat) : Prop := vx_Met l y ws rm (pcX D Y av sz wc) (va_Qi (fun (_ : Int32) (_ : Unit) => False) (fun _ _ => True) (va_A wc sz)) (vx_X (fun (_ : Unit) => True) (fun E' _ t => E' = E ∧ va_P D vwCl wc t.heap ∧ va_D (va_A wc sz) wc) (va_A wc sz)) mc ms (va_A wc sz)
/-- a plain method that needs what a throw needs -/
abbrev MIX (l : Launch) (y : MethodName) (ws : List Cond) (rm : Room) (D : va_G) (Y : Nat → ClassId) (av : List Value) (sz : Nat) (wc : va_W) (E : Int32) (w1 : va_W) (mc ms : Nat) : Prop := Met l y ws rm (pcX D Y av sz wc) (va_Qi (fun (r : Int32) (_ : Unit) => r = E) (qW D (va_A wc sz) w1) (va_A wc sz)) mc ms (va_A wc sz)
theorem pcX_start {l : Launch} {y : MethodName} {ws ws' : List Cond} {rm : Room} {D : va_G} {Y : Nat → ClassId} {av : List Value} {sz : Nat} {wc : va_W} {mc ms : Nat} {cc : ByteArray} {maxL : Nat} {ret : Option FieldType} {Qc : (Nat → Prop) → Array Value → State → Outcome → State → Prop} {XC : (Nat → Prop) → String → State → State → Prop}
    (hy : plainName y.cls = true) (hw : ws = Cond.code y cc maxL ret :: ws') (hsl : (lg_sl av).length ≤ maxL)
    (body : ∀ (p : Program) (e : Env) (s : State) (m : MethodId) (below : List Frame) (meth : Method) (c : Code) (A : Nat → Prop) (ls : Array Slot), Ent p s m av.toArray meth c y cc maxL ret ws → KN D Y s → (∀ q, s.heap.size ≤ q → A q) → va_P D vwCl wc s.heap → va_D A wc → lv_has ls maxL (lv_args 0 av) → EX s → ZX A s s.heap → (∀ x ∈ c.exceptionTable.toList, False) →
      W p l e rm s m av.toArray below meth c s.heap [] 0 0 (vx_MQ below (Qc A) (XC A) av.toArray s mc ms A) (F0 m 0 ls [])) : vx_Met l y ws rm (pcX D Y av sz wc) (Qc (va_A wc sz)) (XC (va_A wc sz)) mc ms (va_A wc sz) := by
  refine vx_ofW (cc := cc) (maxL := maxL) (ret := ret) hy hw ?_
  intro p e s m args below meth c s₁ B hml htab hv
  obtain ⟨rfl, hsz, hP, hK, hD0, hE, hZ⟩ := hv
  subst hsz
  have hD := hD0.self (sz := s.heap.size)
  have hl := lv_entry av (n := maxL) hsl
  rw [lg_entry_eq]
  generalize (lg_sl av ++ List.replicate (maxL - (lg_sl av).length) Slot.unset).toArray = ls at hl ⊢
  exact body p e s m below meth c (va_A wc s.heap.size) ls ⟨B.exec, B.bytes, B.returns, hml, findClass_of_methodNamed B.named, atoms_spec (ws := ws) B.pre, B.notSynchronized, (name_of_methodNamed B.named B.method).1⟩ hK (fun q h => Or.inr h) hP hD hl hE hZ htab
/-- a method with handlers, by a plain start or by one that has what a throw needs -/
theorem pcW_startW {l : Launch} {y : MethodName} {ws ws' : List Cond} {rm : Room} {D : va_G} {Y : Nat → ClassId} {av : List Value} {sz : Nat} {wc : va_W} {mc ms : Nat} {cc : ByteArray} {maxL : Nat} {ret : Option FieldType} {hh : List (Nat × Nat × Nat × Nat)} {Qc : (Nat → Prop) → Array Value → State → Outcome → State → Prop}
    (hy : plainName y.cls = true) (hw : ws = Cond.codeWith y cc maxL ret hh :: ws') (hsl : (lg_sl av).length ≤ maxL)
    (body : ∀ (p : Program) (e : Env) (s : State) (m : MethodId) (below : List Frame) (meth : Method) (c : Code) (A : Nat → Prop) (ls : Array Slot), Ent p s m av.toArray meth c y cc maxL ret ws → KN D Y s → (∀ q, s.heap.size ≤ q → A q) → va_P D vwCl wc s.heap → va_D A wc → lv_has ls maxL (lv_args 0 av) →
      W p l e rm s m av.toArray below meth c s.heap [] 0 0 (MQ below (Qc A) av.toArray s mc ms A) (F0 m 0 ls [])) : Met l y ws rm (pcW D Y av sz wc) (Qc (va_A wc sz)) mc ms (va_A wc sz) := by
  refine va_MetW (cc := cc) (maxL := maxL) (ret := ret) (hh := hh) hy hw ?_
  intro p e s m args below meth c s₁ B hml hv
  obtain ⟨rfl, hsz, hP, hK, hD0⟩ := hv
  subst hsz
  have hD := hD0.self (sz := s.heap.size)
  have hl := lv_entry av (n := maxL) hsl
  rw [lg_entry_eq]
  generalize (lg_sl av ++ List.replicate (maxL - (lg_sl av).length) Slot.unset).toArray = ls at hl ⊢
  exact body p e s m below meth c (va_A wc s.heap.size) ls ⟨B.exec, B.bytes, B.returns, hml, findClass_of_methodNamed B.named, atoms_spec (ws := ws) B.pre, B.notSynchronized, (name_of_methodNamed B.named B.method).1⟩ hK (fun q h => Or.inr h) hP hD hl
theorem pcX_startW {l : Launch} {y : MethodName} {ws ws' : List Cond} {rm : Room} {D : va_G} {Y : Nat → ClassId} {av : List Value} {sz : Nat} {wc : va_W} {mc ms : Nat} {cc : ByteArray} {maxL : Nat} {ret : Option FieldType} {hh : List (Nat × Nat × Nat × Nat)} {Qc : (Nat → Prop) → Array Value → State → Outcome → State → Prop}
    (hy : plainName y.cls = true) (hw : ws = Cond.codeWith y cc maxL ret hh :: ws') (hsl : (lg_sl av).length ≤ maxL)
    (body : ∀ (p : Program) (e : Env) (s : State) (m : MethodId) (below : List Frame) (meth : Method) (c : Code) (A : Nat → Prop) (ls : Array Slot), Ent p s m av.toArray meth c y cc maxL ret ws → KN D Y s → (∀ q, s.heap.size ≤ q → A q) → va_P D vwCl wc s.heap → va_D A wc → lv_has ls maxL (lv_args 0 av) → EX s → ZX A s s.heap → c.exceptionTable.toList = tableOf hh →
      W p l e rm s m av.toArray below meth c s.heap [] 0 0 (MQ below (Qc A) av.toArray s mc ms A) (F0 m 0 ls [])) : Met l y ws rm (pcX D Y av sz wc) (Qc (va_A wc sz)) mc ms (va_A wc sz) := by
  refine va_MetW (cc := cc) (maxL := maxL) (ret := ret) (hh := hh) hy hw ?_
  intro p e s m args below meth c s₁ B hml hv
  obtain ⟨rfl, hsz, hP, hK, hD0, hE, hZ⟩ := hv
  subst hsz
  have hD := hD0.self (sz := s.heap.size)
  have hl := lv_entry av (n := maxL) hsl
  have hts := atoms_spec (ws := ws) B.pre
  have htab : c.exceptionTable.toList = tableOf hh := vx_table (x := y) B (hts _ (by rw [hw]; exact List.mem_cons_self))
  rw [lg_entry_eq]
  generalize (lg_sl av ++ List.replicate (maxL - (lg_sl av).length) Slot.unset).toArray = ls at hl ⊢
  exact body p e s m below meth c (va_A wc s.heap.size) ls ⟨B.exec, B.bytes, B.returns, hml, findClass_of_methodNamed B.named, hts, B.notSynchronized, (name_of_methodNamed B.named B.method).1⟩ hK (fun q h => Or.inr h) hP hD hl hE hZ htab
section
variable {p : Program} {l : Launch} {e : Env} {R : Room} {s : State} {m : MethodId} {args : Array Value} {below : List Frame} {meth : Method} {c : Code} {H H0 : Heap} {locs : List Loc} {cells slots : Nat} {Q : State → Prop} {ls : Array Slot} {rest : List Value} {cc : ByteArray} {pc : Nat} {D : va_G} {Y : Nat → ClassId} {A : Nat → Prop}
theorem eA {mc ms : Nat} {w : (Nat → Nat) → va_W} (ad : Nat → Nat) (hx : p.tables.exec = Jvm.exec) (hb : c.code = cc) (hr : meth.sig.returnType = none) (hlk : meth.locks = false) (hP : va_P D vwCl (w ad) H) (hD : va_D A (w ad)) (hS : va_S A s.heap H locs) (hc : cells ≤ mc) (hs : slots ≤ ms) (hdg : decode cc pc = .ok (.return_, 1)) :
    W p l e R s m args below meth c H locs cells slots (MQ below (va_Qv (fun (_ : Nat → Nat) => True) (fun ad t => va_P D vwCl (w ad) t.heap ∧ va_D A (w ad)) A) args s mc ms A) (F0 m pc ls []) :=
  W.widen hc hs (W.vret hx hb hr (fun t ht _ => ⟨⟨ad, rfl, trivial, by rw [ht]; exact hP, hD⟩, hS.F ht⟩) hS.2.2 hdg hlk)
variable {y : MethodName} {bytes : ByteArray} {maxL nL mc ms n index : Nat} {ret : Option FieldType} {rm : Room} {Ts wsY : List Cond} {own C host : String} {b : Nat} {As : List Value} {wc ws : va_W} {st : List Value}
theorem jnA {ws wc w1 : va_W} {H1 : Heap} (hP : va_P D vwCl ws H) (hD : va_D A ws) (isC isR : List Nat) (hC : isC.map (fun i => ws[i]?) = wc.map some) (hn : (va_nd isR && isR.all (fun i => decide (i < ws.length) && decide (i ∉ isC))) = true)
    (hk : ∀ q : Nat, q < H.size → ¬ va_A wc H.size q → H1[q]? = H[q]?) (hF : ∀ q, va_A wc H.size q → A q) (hP1 : va_P D vwCl w1 H1) (hD1 : va_D (va_A wc H.size) w1) : va_P D vwCl (isR.filterMap (fun i => ws[i]?) ++ w1) H1 ∧ va_D A (isR.filterMap (fun i => ws[i]?) ++ w1) := by
  simp only [Bool.and_eq_true, List.all_eq_true, decide_eq_true_eq] at hn
  obtain ⟨h1, h2⟩ := hn
  have hR : isR.map (fun i => ws[i]?) = (isR.filterMap (fun i => ws[i]?)).map some := by
    clear h1
    induction isR with
    | nil => rfl
    | cons i t ih =>
      have hi : i < ws.length := (h2 i List.mem_cons_self).1
      rw [List.map_cons, List.filterMap_cons, List.getElem?_eq_getElem hi]
      exact congrArg _ (ih fun j hj => h2 j (List.mem_cons_of_mem _ hj))
  exact va_join hP hD isC isR hC hR h1 (fun i hi => (h2 i hi).2) hk hF hP1 hD1
/-- a constructor that makes cells of its own -/
theorem cIa {w1 : (Nat → Nat) → va_W} (S : CallFix p m c cc nL s args Ts own) (hM : MA l y wsY rm D Y (.ref b :: As) H.size wc w1 mc ms) (cw : CallB R s args own index y bytes maxL none wsY rm mc ms n ∧ y.name = "<init>" ∧ (Cond.instanceMethod y).before args s = true) (hKN : KN D Y s) (hP : va_P D vwCl ws H) (hD : va_D A ws) (hS : va_S A H0 H locs) (hA : ∀ q, H0.size ≤ q → A q) (isC isR : List Nat) (hC : isC.map (fun i => ws[i]?) = wc.map some) (hnC : va_nd isC = true) (hn : (va_nd isR && isR.all (fun i => decide (i < ws.length) && decide (i ∉ isC))) = true)
    (hst : st = As.reverse ++ .ref b :: rest) (hln : As.length = n) (hsz : ls.size = nL) (hW : (rest.map fun v => v.category).sum ≤ 8) (hdg : decode cc pc = .ok (.invokespecial index, 3)) (hf : cells + mc ≤ R.cells ∧ slots + ms ≤ R.slots)
    (kk : ∀ (ad : Nat → Nat) (H1 : Heap) (locs1 : List Loc), va_P D vwCl (isR.filterMap (fun i => ws[i]?) ++ w1 ad) H1 → va_D A (isR.filterMap (fun i => ws[i]?) ++ w1 ad) → va_S A H0 H1 locs1 → W p l e R s m args below meth c H1 locs1 (cells + mc) (slots + ms) Q (F0 m (pc + 3) ls rest)) : W p l e R s m args below meth c H locs cells slots Q (F0 m pc ls st) := by
  subst hst
  have hFc := va_free hD hS hA isC hC
  refine va_callv (va_runI (As := As) (rest := rest) S hM cw (pS hKN hP hD isC hC hnC) rfl hln hsz rfl (lv_room hW) hdg hf) hS (fun q _ h => hFc q h) hFc (fun ad t H1 locs ht hvm hw hB hz1 hk1 hS => ?_)
  obtain ⟨hP1, hD1⟩ := hB
  rw [ht] at hP1
  obtain ⟨hP2, hD2⟩ := jnA hP hD isC isR hC hn hk1 hFc hP1 hD1
  exact kk ad H1 locs hP2 hD2 hS
theorem cINa {w1 : (Nat → Nat) → va_W} (S : CallFix p m c cc nL s args Ts own) (hM : MA l y wsY rm D Y (.ref b :: As) H.size wc w1 mc ms) (cw : va_CN R s args own index y host bytes maxL none wsY rm mc ms n ∧ y.name = "<init>" ∧ (Cond.instanceMethod y).before args s = true) (hKN : KN D Y s) (hP : va_P D vwCl ws H) (hD : va_D A ws) (hS : va_S A H0 H locs) (hA : ∀ q, H0.size ≤ q → A q) (isC isR : List Nat) (hC : isC.map (fun i => ws[i]?) = wc.map some) (hnC : va_nd isC = true) (hn : (va_nd isR && isR.all (fun i => decide (i < ws.length) && decide (i ∉ isC))) = true)
    (hst : st = As.reverse ++ .ref b :: rest) (hln : As.length = n) (hsz : ls.size = nL) (hW : (rest.map fun v => v.category).sum ≤ 8) (hdg : decode cc pc = .ok (.invokespecial index, 3)) (hf : cells + mc ≤ R.cells ∧ slots + ms ≤ R.slots)
    (kk : ∀ (ad : Nat → Nat) (H1 : Heap) (locs1 : List Loc), va_P D vwCl (isR.filterMap (fun i => ws[i]?) ++ w1 ad) H1 → va_D A (isR.filterMap (fun i => ws[i]?) ++ w1 ad) → va_S A H0 H1 locs1 → W p l e R s m args below meth c H1 locs1 (cells + mc) (slots + ms) Q (F0 m (pc + 3) ls rest)) : W p l e R s m args below meth c H locs cells slots Q (F0 m pc ls st) := by
  subst hst
  have hFc := va_free hD hS hA isC hC
  refine va_callv (va_runIN (As := As) (rest := rest) S hM cw (pS hKN hP hD isC hC hnC) rfl hln hsz rfl (lv_room hW) hdg hf) hS (fun q _ h => hFc q h) hFc (fun ad t H1 locs ht hvm hw hB hz1 hk1 hS => ?_)
  obtain ⟨hP1, hD1⟩ := hB
  rw [ht] at hP1
  obtain ⟨hP2, hD2⟩ := jnA hP hD isC isR hC hn hk1 hFc hP1 hD1
  exact kk ad H1 locs hP2 hD2 hS
/-- throw new cls(text) out of SnowPumps, nothing written that was there -/
theorem thS {mc ms ik is ic : Nat} {cls text E : String} {Qc : Array Value → State → Outcome → State → Prop} (hx : p.tables.exec = Jvm.exec) (hb : c.code = cc) (hl0 : l.stackTraces = false) (hown : s.vm.findClass RX5 = some m.cls) (hcls : Bundle.fit cls = true) (hts : ∀ w ∈ Ts, w.before args s = true)
    (hin : ∀ w ∈ Cond.classLink RX5 ik cls :: Cond.initialized cls :: (vx_atS RX5 ic cls ["java/lang/RuntimeException", "java/lang/Exception"]).filter goodWord, w ∈ Ts) (hgood : ∀ w ∈ Cond.classLink RX5 ik cls :: Cond.initialized cls :: vx_atS RX5 ic cls ["java/lang/RuntimeException", "java/lang/Exception"], vx_ot w = true) (hbad : ∀ w ∈ (vx_atS RX5 ic cls ["java/lang/RuntimeException", "java/lang/Exception"]).filter (fun w => !goodWord w), w ∈ exW) (htx : (is, text) ∈ exT)
    (hEX : EX s) (hZX : ZX A s s.heap) (hP : va_P D vwCl ws H) (hD : va_D A ws) (hS : va_S A s.heap H locs) (hsize : ls.size = nL) (hml : c.maxLocals = nL) (htab : ∀ x ∈ c.exceptionTable.toList, False)
    (d0 : decode cc pc = .ok (.new ik, 3)) (d3 : decode cc (pc + 3) = .ok (.dup, 1)) (d4 : decode cc (pc + 4) = .ok (.ldc is, 2)) (d6 : decode cc (pc + 6) = .ok (.invokespecial ic, 3)) (d9 : decode cc (pc + 9) = .ok (.athrow, 1))
    (hRf : 5 < R.frames) (hRl : (rest.map fun v => v.category).sum + 82 ≤ R.locals) (hRc : cells + 1 ≤ R.cells) (hRs : slots + 6 ≤ R.slots) (hlk : meth.locks = false) (hE : cls = E) (hc : cells + 1 ≤ mc) (hs : slots + 6 ≤ ms) :
    W p l e R s m args below meth c H locs cells slots (vx_MQ below Qc (vx_X (fun (_ : Unit) => True) (fun E' _ t => E' = E ∧ va_P D vwCl ws t.heap ∧ va_D A ws) A) args s mc ms A) (F0 m pc ls rest) := by
  obtain ⟨sa, hstr⟩ := hEX.2.1 _ htx
  refine vx_throwS hx hb hl0 (text := text) (names := ["java/lang/RuntimeException", "java/lang/Exception"]) (sa := sa) (A := A) hown hcls (by decide +kernel) (hts _ (hin _ List.mem_cons_self)) (hts _ (hin _ (List.mem_cons_of_mem _ List.mem_cons_self))) hstr
    (vx_hat (B := exW) (fun w hw => hts w (hin w (List.mem_cons_of_mem _ (List.mem_cons_of_mem _ hw)))) hbad (fun w hw => va_Nw.use (exW_tab w hw) (hEX.1 w hw))) hgood hZX.1 hZX.2 hS (hsize.trans hml.symm) d0 d3 d4 d6 d9 (fun x hx => (htab x hx).elim) hRf hRl hRc hRs hlk ?_ hS.2.2 hc hs
  intro t ht h1 h2
  refine ⟨(), trivial, ⟨hE, hP.kept (fun k q hk => h2 _ (hP k q hk).lt), hD⟩, Nat.le_trans hS.1 h1, fun q hq hn => ?_⟩
  rw [h2 q (Nat.lt_of_lt_of_le hq hS.1)]
  exact hS.2.1 q hq hn
theorem pSX (hKN : KN D Y s) (hEX : EX s) (hZX : ZX A s H0) (hP : va_P D vwCl ws H) (hD : va_D A ws) (hS : va_S A H0 H locs) (hA : ∀ q, H0.size ≤ q → A q) (isC : List Nat) (hC : isC.map (fun i => ws[i]?) = wc.map some) (hnC : va_nd isC = true) : PreS s H (pcX D Y As H.size wc) As := by
  refine ⟨pcX_blind, fun U hU hW => ?_⟩
  obtain ⟨-, h2⟩ := pS (Y := Y) (As := As) hKN hP hD isC hC hnC
  obtain ⟨q0, q1, q2, q3, q4⟩ := h2 U hU hW
  refine ⟨q0, q1, q2, q3, q4, hEX.warm hW, ?_⟩
  rw [hU]
  exact ZX.moved hW.alike ((hZX.kept hS.2.1).narrow (va_free hD hS hA isC hC))
/-- a call of a method that throws -/
theorem cXV {E : String} (S : CallFix p m c cc nL s args Ts own) (hM : MX l y wsY rm D Y (.ref b :: As) H.size wc E mc ms) (cw : CallW R s args own C index y bytes maxL ret wsY rm mc ms n) (hKN : KN D Y s) (hEX : EX s) (hZX : ZX A s H0) (hP : va_P D vwCl ws H) (hD : va_D A ws) (hS : va_S A H0 H locs) (hA : ∀ q, H0.size ≤ q → A q) (isC isR pm : List Nat) (hC : isC.map (fun i => ws[i]?) = wc.map some) (hnC : va_nd isC = true) (hn : (va_nd isR && isR.all (fun i => decide (i < ws.length) && decide (i ∉ isC)) && va_nd pm) = true) (hp : pm.map (fun i => (isR.filterMap (fun i => ws[i]?) ++ wc)[i]?) = ws.map some)
    (q0 ci : Nat) {fs : List Value} {T : u_T} {N : Nat} (hq : ws[q0]? = some (b, .inr (ci, fs))) (hc : vwCl[ci]? = some (C, T, N))
    (hst : st = As.reverse ++ .ref b :: rest) (hln : As.length = n) (hsz : ls.size = nL) (hW : (rest.map fun v => v.category).sum ≤ 8) (hdg : decode cc pc = .ok (.invokevirtual index, 3)) (hf : cells + mc ≤ R.cells ∧ slots + ms ≤ R.slots)
    (kk : ∀ (ce : Cell) (q9 : Addr) (H1 : Heap) (locs1 : List Loc), va_P D vwCl ws H1 → va_D A ws → va_S A H0 H1 locs1 → H1[q9]? = some ce → ce.vm = .none → s.vm.findClass E = some ce.cls → vx_W p l e R s m args below meth c H1 locs1 (cells + mc) (slots + ms) Q (F0 m pc ls rest) q9) : W p l e R s m args below meth c H locs cells slots Q (F0 m pc ls st) := by
  subst hst
  have hFc := va_free hD hS hA isC hC
  have hpre : PreV s H C b (pcX D Y (.ref b :: As) H.size wc) As := ⟨(pSX (Y := Y) (As := .ref b :: As) hKN hEX hZX hP hD hS hA isC hC hnC).1, va_recv hKN.1 hP hc hq, (pSX (Y := Y) (As := .ref b :: As) hKN hEX hZX hP hD hS hA isC hC hnC).2⟩
  refine vx_calli (vx_runV (As := As) (rest := rest) S hM cw hpre rfl hln hsz rfl (lv_room hW) hdg hf) hS (fun q _ h => hFc q h) hFc (fun q _ h => hFc q h) (fun E' ce q9 u t H1 locs ht hvm hw hB hz1 hk1 hS hq9 hv9 hcl => ?_) (fun r u t H1 locs ht hvm hw hB hz1 hk1 hS => hw.elim)
  obtain ⟨rfl, hP1, hD1⟩ := hB
  rw [ht] at hP1
  obtain ⟨hP2, hD2⟩ := jn hP hD isC isR pm hC hn hp hk1 hFc hP1 hD1
  exact kk ce q9 H1 locs hP2 hD2 hS hq9 hv9 hcl
end
