/-! ROWS of the law's own body: calls of methods with handlers, of methods that draw, the script -/
abbrev MD (l : Launch) (y : MethodName) (ws : List Cond) (rm : Room) (D : va_G) (Y : Nat → ClassId) (av : List Value) (sz : Nat) (wc : va_W) (E : UInt64) (w1 : va_W) (mc ms : Nat) : Prop := MetD lw_cs l y ws rm (pcW D Y av sz wc) (va_Qd (fun (r : UInt64) (_ : Unit) => alike64 r E = true) (qW D (va_A wc sz) w1) (va_A wc sz)) mc ms (va_A wc sz)
theorem pcD_start {l : Launch} {y : MethodName} {ws ws' : List Cond} {rm : Room} {D : va_G} {Y : Nat → ClassId} {av : List Value} {sz : Nat} {wc : va_W} {mc ms : Nat} {cc : ByteArray} {maxL : Nat} {ret : Option FieldType} {Qc : (Nat → Prop) → Array Value → State → Outcome → State → Prop}
    (hy : plainName y.cls = true) (hw : ws = Cond.code y cc maxL ret :: ws') (hsl : (lg_sl av).length ≤ maxL)
    (body : ∀ (p : Program) (e : Env) (s : State) (m : MethodId) (below : List Frame) (meth : Method) (c : Code) (A : Nat → Prop) (ls : Array Slot), Ent p s m av.toArray meth c y cc maxL ret ws → KN D Y s → (∀ q, s.heap.size ≤ q → A q) → va_P D vwCl wc s.heap → va_D A wc → lv_has ls maxL (lv_args 0 av) → s.drawn.sameBut s.drawn lw_cs →
      W p l e rm (s.setDrawn s.drawn) m av.toArray below meth c s.heap [] 0 0 (MQD lw_cs below (Qc A) av.toArray s mc ms A) (F0 m 0 ls [])) : MetD lw_cs l y ws rm (pcW D Y av sz wc) (Qc (va_A wc sz)) mc ms (va_A wc sz) := by
  refine MetD.ofW (cc := cc) (maxL := maxL) (ret := ret) hy hw ?_
  intro p e s m args below meth c s₁ B hml hv hd0
  obtain ⟨rfl, hsz, hP, hK, hD0⟩ := hv
  subst hsz
  have hD := hD0.self (sz := s.heap.size)
  have hl := lv_entry av (n := maxL) hsl
  rw [lg_entry_eq]
  generalize (lg_sl av ++ List.replicate (maxL - (lg_sl av).length) Slot.unset).toArray = ls at hl ⊢
  exact body p e s m below meth c (va_A wc s.heap.size) ls ⟨B.exec, B.bytes, B.returns, hml, findClass_of_methodNamed B.named, atoms_spec (ws := ws) B.pre, B.notSynchronized, (name_of_methodNamed B.named B.method).1⟩ hK (fun q h => Or.inr h) hP hD hl hd0
section
variable {p : Program} {l : Launch} {e : Env} {R : Room} {s : State} {m : MethodId} {args : Array Value} {below : List Frame} {meth : Method} {c : Code} {H H0 : Heap} {locs : List Loc} {cells slots : Nat} {Q : State → Prop} {ls : Array Slot} {rest : List Value} {cc : ByteArray} {pc : Nat} {D : va_G} {Y : Nat → ClassId} {A : Nat → Prop}
theorem eD {mc ms : Nat} {E v : UInt64} {w : va_W} {d1 : Drawn} (hd1 : s.drawn.sameBut d1 lw_cs) (hx : p.tables.exec = Jvm.exec) (hb : c.code = cc) (hr : meth.sig.returnType = some .double) (hlk : meth.locks = false) (hP : va_P D vwCl w H) (hD : va_D A w) (hS : va_S A s.heap H locs) (hE : alike64 v E = true) (hc : cells ≤ mc) (hs : slots ≤ ms) (hdg : decode cc pc = .ok (.dreturn, 1)) :
    W p l e R (s.setDrawn d1) m args below meth c H locs cells slots (MQD lw_cs below (va_Qd (fun (r : UInt64) (_ : Unit) => alike64 r E = true) (qW D A w) A) args s mc ms A) (F0 m pc ls [.double v]) :=
  W.endD hd1 (W.widen hc hs (W.dret hx hb hr (fun t ht _ => ⟨⟨v, (), rfl, hE, by rw [ht]; exact hP, hD⟩, (show va_S A (s.setDrawn d1).heap H locs from hS).F ht⟩) hS.2.2 hdg hlk))
/-- the script at a numbered place -/
theorem sl {b L : Nat} {xs : Nat → Int32} (hx : p.tables.exec = Jvm.exec) (hb : c.code = cc) (hX : va_X b L xs s H0) (hbl : b < H0.size) (hbA : ¬ A b) (hS : va_S A H0 H locs) (k : Nat) {i : Int32} (hi : i = nI k) (hk : k < L) (hL : L < 2 ^ 31) (hdg : decode cc pc = .ok (.iaload, 1))
    (kk : W p l e R s m args below meth c H locs cells slots Q (F0 m (pc + 1) ls (.int (xs k) :: rest))) : W p l e R s m args below meth c H locs cells slots Q (F0 m pc ls (.int i :: .ref b :: rest)) := by
  subst hi
  refine va_sld hx hb hX hbl hbA hS (vp_in_nI hk hL) hdg ?_
  rw [nI_clamp (Nat.lt_trans hk hL)]; exact kk
variable {y : MethodName} {bytes : ByteArray} {maxL nL mc ms n index : Nat} {ret : Option FieldType} {rm : Room} {Ts wsY : List Cond} {own C : String} {b : Nat} {As : List Value} {wc w1 ws ws' : va_W} {st : List Value} {hh : List (Nat × Nat × Nat × Nat)}
theorem cSWi {E : Int32} (S : CallFix p m c cc nL s args Ts own) (hM : MI l y wsY rm D Y As H.size wc E w1 mc ms) (cw : vx_CSW R s args own index y bytes maxL ret hh wsY rm mc ms n) (hKN : KN D Y s) (hP : va_P D vwCl ws H) (hD : va_D A ws) (hS : va_S A H0 H locs) (hA : ∀ q, H0.size ≤ q → A q) (isC isR pm : List Nat) (hC : isC.map (fun i => ws[i]?) = wc.map some) (hnC : va_nd isC = true) (hn : (va_nd isR && isR.all (fun i => decide (i < ws.length) && decide (i ∉ isC)) && va_nd pm) = true) (hp : pm.map (fun i => (isR.filterMap (fun i => ws[i]?) ++ w1)[i]?) = ws'.map some)
    (hst : st = As.reverse ++ rest) (hln : As.length = n) (hsz : ls.size = nL) (hW : (rest.map fun v => v.category).sum ≤ 8) (hdg : decode cc pc = .ok (.invokestatic index, 3)) (hf : cells + mc ≤ R.cells ∧ slots + ms ≤ R.slots)
    (kk : ∀ (H1 : Heap) (locs1 : List Loc), va_P D vwCl ws' H1 → va_D A ws' → va_S A H0 H1 locs1 → W p l e R s m args below meth c H1 locs1 (cells + mc) (slots + ms) Q (F0 m (pc + 3) ls (.int E :: rest))) : W p l e R s m args below meth c H locs cells slots Q (F0 m pc ls st) := by
  subst hst
  have hFc := va_free hD hS hA isC hC
  refine va_calli (vx_runSW (As := As) (rest := rest) S hM cw (pS hKN hP hD isC hC hnC) rfl hln hsz rfl (lv_room hW) hdg hf) hS (fun q _ h => hFc q h) hFc (fun r u t H1 locs ht hvm hw hB hz1 hk1 hS => ?_)
  obtain ⟨hP1, hD1⟩ := hB
  rw [ht] at hP1
  subst hw
  obtain ⟨hP2, hD2⟩ := jn hP hD isC isR pm hC hn hp hk1 hFc hP1 hD1
  exact kk H1 locs hP2 hD2 hS
theorem cSWX {E : Int32} (S : CallFix p m c cc nL s args Ts own) (hM : MIX l y wsY rm D Y As H.size wc E w1 mc ms) (cw : vx_CSW R s args own index y bytes maxL ret hh wsY rm mc ms n) (hKN : KN D Y s) (hEX : EX s) (hZX : ZX A s H0) (hP : va_P D vwCl ws H) (hD : va_D A ws) (hS : va_S A H0 H locs) (hA : ∀ q, H0.size ≤ q → A q) (isC isR pm : List Nat) (hC : isC.map (fun i => ws[i]?) = wc.map some) (hnC : va_nd isC = true) (hn : (va_nd isR && isR.all (fun i => decide (i < ws.length) && decide (i ∉ isC)) && va_nd pm) = true) (hp : pm.map (fun i => (isR.filterMap (fun i => ws[i]?) ++ w1)[i]?) = ws'.map some)
    (hst : st = As.reverse ++ rest) (hln : As.length = n) (hsz : ls.size = nL) (hW : (rest.map fun v => v.category).sum ≤ 8) (hdg : decode cc pc = .ok (.invokestatic index, 3)) (hf : cells + mc ≤ R.cells ∧ slots + ms ≤ R.slots)
    (kk : ∀ (H1 : Heap) (locs1 : List Loc), va_P D vwCl ws' H1 → va_D A ws' → va_S A H0 H1 locs1 → W p l e R s m args below meth c H1 locs1 (cells + mc) (slots + ms) Q (F0 m (pc + 3) ls (.int E :: rest))) : W p l e R s m args below meth c H locs cells slots Q (F0 m pc ls st) := by
  subst hst
  have hFc := va_free hD hS hA isC hC
  refine va_calli (vx_runSW (As := As) (rest := rest) S hM cw (pSX hKN hEX hZX hP hD hS hA isC hC hnC) rfl hln hsz rfl (lv_room hW) hdg hf) hS (fun q _ h => hFc q h) hFc (fun r u t H1 locs ht hvm hw hB hz1 hk1 hS => ?_)
  obtain ⟨hP1, hD1⟩ := hB
  rw [ht] at hP1
  subst hw
  obtain ⟨hP2, hD2⟩ := jn hP hD isC isR pm hC hn hp hk1 hFc hP1 hD1
  exact kk H1 locs hP2 hD2 hS
/-- a call of a method that may draw -/
theorem cVd {E : UInt64} {d0 : Drawn} (hd0 : s.drawn.sameBut d0 lw_cs) (S : CallFix p m c cc nL (s.setDrawn d0) args Ts own) (hM : MD l y wsY rm D Y (.ref b :: As) H.size wc E w1 mc ms) (cw : CallW R (s.setDrawn d0) args own C index y bytes maxL ret wsY rm mc ms n) (hKN : KN D Y (s.setDrawn d0)) (hP : va_P D vwCl ws H) (hD : va_D A ws) (hS : va_S A H0 H locs) (hA : ∀ q, H0.size ≤ q → A q) (isC isR pm : List Nat) (hC : isC.map (fun i => ws[i]?) = wc.map some) (hnC : va_nd isC = true) (hn : (va_nd isR && isR.all (fun i => decide (i < ws.length) && decide (i ∉ isC)) && va_nd pm) = true) (hp : pm.map (fun i => (isR.filterMap (fun i => ws[i]?) ++ w1)[i]?) = ws'.map some)
    (q0 ci : Nat) {fs : List Value} {T : u_T} {N : Nat} (hq : ws[q0]? = some (b, .inr (ci, fs))) (hc : vwCl[ci]? = some (C, T, N))
    (hst : st = As.reverse ++ .ref b :: rest) (hln : As.length = n) (hsz : ls.size = nL) (hW : (rest.map fun v => v.category).sum ≤ 8) (hdg : decode cc pc = .ok (.invokevirtual index, 3)) (hf : cells + mc ≤ R.cells ∧ slots + ms ≤ R.slots)
    (kk : ∀ (r : UInt64) (H1 : Heap) (locs1 : List Loc) (d1 : Drawn), alike64 r E = true → s.drawn.sameBut d1 lw_cs → va_P D vwCl ws' H1 → va_D A ws' → va_S A H0 H1 locs1 → W p l e R (s.setDrawn d1) m args below meth c H1 locs1 (cells + mc) (slots + ms) Q (F0 m (pc + 3) ls (.double r :: rest))) : W p l e R (s.setDrawn d0) m args below meth c H locs cells slots Q (F0 m pc ls st) := by
  subst hst
  have hFc := va_free hD hS hA isC hC
  refine va_calldD hd0 (va_runV_D (As := As) (rest := rest) S hM cw (pV hKN hP hD isC hC hnC q0 ci hq hc) rfl hln hsz rfl (lv_room hW) hdg hf) hS (fun q _ h => hFc q h) hFc (fun r u t H1 locs ht hvm hw hB hz1 hk1 hS d1 hd1 => ?_)
  obtain ⟨hP1, hD1⟩ := hB
  rw [ht] at hP1
  obtain ⟨hP2, hD2⟩ := jn hP hD isC isR pm hC hn hp hk1 hFc hP1 hD1
  exact kk r H1 locs d1 hw hd1 hP2 hD2 hS
end
theorem lg_self (x : Int64) : lg_cmp x x = 0 := by
  unfold lg_cmp
  rw [if_neg (fun h => Int64.lt_irrefl h), if_pos rfl]
/-- the mean points -/
def meanU (pt : fN) (nj : Nat) : UInt64 := if nj = 0 then FP.dconst0 else FP.ddiv (FP.i2d (sumU pt 30)) (FP.i2d (nI nj))
