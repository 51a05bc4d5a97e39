/-! NUMBERS: a quotient of whole numbers is no NaN; answers that are doubles; contracts with a world that exists -/
theorem dec_nan {n : Nat} (h : 9218868437227405312 < n % 2 ^ 63) : FP.Core.decode FP.Core.b64 n = .nan := by
  unfold FP.Core.decode
  have e1 : FP.Core.fieldE FP.Core.b64 n = n / 2 ^ 52 % 2 ^ 11 := rfl
  have e2 : FP.Core.fieldT FP.Core.b64 n = n % 2 ^ 52 := rfl
  have e3 : FP.Core.b64.exps - 1 = 2047 := by decide
  rw [e1, e2, e3, if_pos (by omega), if_neg (by omega)]
theorem nan_dec {x : UInt64} (h : isNaN64 x = true) : FP.Core.decode FP.Core.b64 x.toNat = .nan := by
  rw [isNaN64_iff] at h
  refine dec_nan ?_
  have e : x.toNat &&& 0x7fffffffffffffff = x.toNat % 2 ^ 63 := Nat.and_two_pow_sub_one_eq_mod _ 63
  rw [e] at h
  exact h
/-- a datum that is an infinity, or a number within the format's bounds -/
def okD (d : FP.Core.Datum) : Prop := (∃ s, d = .inf s) ∨ ∃ s c q, d = .fin s c q ∧ c < 2 ^ 53 ∧ q ≤ 971
theorem rr_ok (s : Bool) (A B : Nat) (e : Int) : okD (FP.Core.roundRatio FP.Core.b64 s A B e) := by
  have hp : FP.Core.b64.p = 53 := rfl
  have hq : FP.Core.b64.qmax = 971 := by decide
  have ht : FP.Core.b64.tails = 2 ^ 52 := rfl
  have hm : FP.Core.b64.qmin = -1074 := by decide
  unfold FP.Core.roundRatio
  split
  · exact Or.inr ⟨_, _, _, rfl, by omega, by omega⟩
  · unfold FP.Core.roundAt FP.Core.settle
    generalize FP.Core.nearest _ _ = c
    generalize FP.Core.quantum _ _ _ _ = q
    rw [hp]
    split
    · rename_i h
      unfold FP.Core.bound
      rw [hq]
      split
      · rename_i h2; exact Or.inr ⟨_, _, _, rfl, h, h2⟩
      · exact Or.inl ⟨_, rfl⟩
    · unfold FP.Core.bound
      rw [hq]
      split
      · rename_i h2; exact Or.inr ⟨_, _, _, rfl, by rw [ht]; decide, h2⟩
      · exact Or.inl ⟨_, rfl⟩
theorem enc_ok {d : FP.Core.Datum} (h : okD d) : (UInt64.ofNat (FP.Core.encode FP.Core.b64 d)).toNat % 2 ^ 63 ≤ 9218868437227405312 := by
  have ht : FP.Core.b64.tails = 2 ^ 52 := rfl
  have he : FP.Core.b64.exps = 2048 := rfl
  have hm : FP.Core.b64.qmin = -1074 := by decide
  have key : ∀ (s : Bool) (e t : Nat), (e ≤ 2046 ∧ t < 2 ^ 52) ∨ (e = 2047 ∧ t = 0) → (UInt64.ofNat (FP.Core.assemble FP.Core.b64 s e t)).toNat % 2 ^ 63 ≤ 9218868437227405312 := by
    intro s e t h
    have e1 : FP.Core.assemble FP.Core.b64 s e t = (s.toNat * 2048 + e) * 4503599627370496 + t := rfl
    have hs : s.toNat ≤ 1 := by cases s <;> decide
    have e2 : (UInt64.ofNat (FP.Core.assemble FP.Core.b64 s e t)).toNat = (s.toNat * 2048 + e) * 4503599627370496 + t := by
      rw [e1, UInt64.toNat_ofNat']
      exact Nat.mod_eq_of_lt (by omega)
    rw [e2]
    omega
  rcases h with ⟨s, rfl⟩ | ⟨s, c, q, rfl, hc, hq⟩
  · exact key s _ _ (Or.inr ⟨rfl, rfl⟩)
  · have e9 : FP.Core.encode FP.Core.b64 (.fin s c q) = if c < FP.Core.b64.tails then FP.Core.assemble FP.Core.b64 s 0 c else FP.Core.assemble FP.Core.b64 s ((q - FP.Core.b64.qmin).toNat + 1) (c - FP.Core.b64.tails) := rfl
    rw [e9]
    split
    · rename_i h1
      rw [ht] at h1
      exact key s _ _ (Or.inl ⟨by omega, h1⟩)
    · rename_i h1
      rw [ht] at h1
      exact key s _ _ (Or.inl ⟨by rw [hm]; omega, by rw [ht]; omega⟩)
theorem vf_of {x : UInt64} (h : x.toNat % 2 ^ 63 ≤ 9218868437227405312) : vf_n64 x := by
  unfold vf_n64
  rw [UInt64.le_iff_toNat_le, UInt64.toNat_and]
  have e : x.toNat &&& 0x7fffffffffffffff = x.toNat % 2 ^ 63 := Nat.and_two_pow_sub_one_eq_mod _ 63
  show x.toNat &&& 0x7fffffffffffffff ≤ 0x7ff0000000000000
  rw [e]
  exact h
theorem dec_ok {n : Nat} (h : n % 2 ^ 63 ≤ 9218868437227405312) : FP.Core.decode FP.Core.b64 n ≠ .nan := by
  unfold FP.Core.decode
  have e1 : FP.Core.fieldE FP.Core.b64 n = n / 2 ^ 52 % 2 ^ 11 := rfl
  have e2 : FP.Core.fieldT FP.Core.b64 n = n % 2 ^ 52 := rfl
  have e3 : FP.Core.b64.exps - 1 = 2047 := by decide
  rw [e1, e2, e3]
  split
  · rw [if_pos (by omega)]; simp
  · split <;> simp
def finN (n : Nat) : Bool := match FP.Core.decode FP.Core.b64 (FP.i2d (nI n)).toNat with
  | .fin _ c _ => decide (c ≠ 0)
  | _ => false
theorem finN_ok : ∀ n, n < 31 → 0 < n → finN n = true := by decide +kernel
theorem ddiv_ok {x : Int32} {n : Nat} (h0 : 0 < n) (hn : n ≤ 30) : vf_n64 (FP.ddiv (FP.i2d x) (FP.i2d (nI n))) := by
  have hf := finN_ok n (by omega) h0
  unfold finN at hf
  obtain ⟨t, d, r, hy, hd⟩ : ∃ t d r, FP.Core.decode FP.Core.b64 (FP.i2d (nI n)).toNat = .fin t d r ∧ d ≠ 0 := by
    cases hv : FP.Core.decode FP.Core.b64 (FP.i2d (nI n)).toNat with
    | nan => rw [hv] at hf; cases hf
    | inf s => rw [hv] at hf; cases hf
    | fin t d r => rw [hv] at hf; exact ⟨t, d, r, rfl, of_decide_eq_true hf⟩
  have hx : FP.Core.decode FP.Core.b64 (FP.i2d x).toNat ≠ .nan := dec_ok (enc_ok (rr_ok _ _ _ _))
  refine vf_of (enc_ok ?_)
  rw [hy]
  cases hv : FP.Core.decode FP.Core.b64 (FP.i2d x).toNat with
  | nan => exact absurd hv hx
  | inf s => exact Or.inl ⟨_, rfl⟩
  | fin s c q =>
    have e : FP.Core.quotient FP.Core.b64 (.fin s c q) (.fin t d r) = FP.Core.roundRatio FP.Core.b64 (s != t) c d (q - r) := if_neg hd
    rw [e]
    exact rr_ok _ _ _ _
theorem n64_dec {x : UInt64} (h : vf_n64 x) : isNaN64 x = false := by
  cases hc : isNaN64 x with
  | false => rfl
  | true => exact absurd h (isNaN64_not.mp hc)
/-- the mean points -/
def meanU (pt : fN) (nj : Nat) : UInt64 := if nj = 0 then FP.dconst0 else FP.ddiv (FP.i2d (sumU pt 30)) (FP.i2d (nI nj))
abbrev MD (l : Launch) (y : MethodName) (ws : List Cond) (rm : Room) (D : va_G) (Y : Nat → ClassId) (av : List Value) (sz : Nat) (wc : va_W) (E : UInt64) (w1 : va_W) (mc ms : Nat) : Prop := Met l y ws rm (pcW D Y av sz wc) (va_Qd (fun (r : UInt64) (_ : Unit) => r = E) (qW D (va_A wc sz) w1) (va_A wc sz)) mc ms (va_A wc sz)
/-! contracts whose world is said by a predicate -/
abbrev MVX (l : Launch) (y : MethodName) (ws : List Cond) (rm : Room) (D : va_G) (Y : Nat → ClassId) (av : List Value) (sz : Nat) (wc : va_W) (PW : (Nat → Prop) → Heap → Prop) (mc ms : Nat) : Prop := Met l y ws rm (pcW D Y av sz wc) (va_Qv (fun (_ : Unit) => True) (fun _ t => PW (va_A wc sz) t.heap) (va_A wc sz)) mc ms (va_A wc sz)
/-- the script's cell is told, beside the world -/
def pcS (D : va_G) (Y : Nat → ClassId) (b L : Nat) (xs : Nat → Int32) (av : List Value) (sz : Nat) : Array Value → State → Prop := va_Pc av (fun U => U.heap.size = sz ∧ KN D Y U ∧ va_X b L xs U U.heap ∧ b < U.heap.size)
theorem pcS_blind {D : va_G} {Y : Nat → ClassId} {b L : Nat} {xs : Nat → Int32} {av : List Value} {sz : Nat} : FrameBlind (pcS D Y b L xs av sz) := fun a U g mk q => by
  obtain ⟨q0, q1, qK, qX, qb⟩ := q
  exact ⟨q0, q1, qK.calling, va_X.moved (u := U) (U := U.calling g mk a) (Vm.Alike.refl U.vm) qX, qb⟩
/-- a script's cell, or a number out of the place behind its end -/
def cellV (xs : Nat → Int32) (L k : Nat) : Int32 := if k < L then xs k else (790386105 : Int32) * nI (k + 3)
section
variable {p : Program} {l : Launch} {e : Env} {R : Room} {s : State} {m : MethodId} {args : Array Value} {below : List Frame} {meth : Method} {c : Code} {H H0 : Heap} {locs : List Loc} {cells slots : Nat} {Q : State → Prop} {ls : Array Slot} {rest : List Value} {cc : ByteArray} {pc : Nat} {D : va_G} {Y : Nat → ClassId} {A : Nat → Prop}
theorem eD {mc ms : Nat} {E v : UInt64} {w : va_W} (hx : p.tables.exec = Jvm.exec) (hb : c.code = cc) (hr : meth.sig.returnType = some .double) (hlk : meth.locks = false) (hP : va_P D vwCl w H) (hD : va_D A w) (hS : va_S A s.heap H locs) (hE : v = E) (hc : cells ≤ mc) (hs : slots ≤ ms) (hdg : decode cc pc = .ok (.dreturn, 1)) :
    W p l e R s m args below meth c H locs cells slots (MQ below (va_Qd (fun (r : UInt64) (_ : Unit) => r = E) (qW D A w) A) args s mc ms A) (F0 m pc ls [.double v]) :=
  W.widen hc hs (W.dret hx hb hr (fun t ht _ => ⟨⟨v, (), rfl, hE, by rw [ht]; exact hP, hD⟩, hS.F ht⟩) hS.2.2 hdg hlk)
theorem eVX {mc ms : Nat} {PW : (Nat → Prop) → Heap → Prop} (hx : p.tables.exec = Jvm.exec) (hb : c.code = cc) (hr : meth.sig.returnType = none) (hlk : meth.locks = false) (hB : PW A H) (hS : va_S A s.heap H locs) (hc : cells ≤ mc) (hs : slots ≤ ms) (hdg : decode cc pc = .ok (.return_, 1)) :
    W p l e R s m args below meth c H locs cells slots (MQ below (va_Qv (fun (_ : Unit) => True) (fun _ t => PW A t.heap) A) args s mc ms A) (F0 m pc ls []) :=
  W.widen hc hs (W.vret hx hb hr (fun t ht _ => ⟨⟨(), rfl, trivial, by show PW A t.heap; rw [ht]; exact hB⟩, hS.F ht⟩) hS.2.2 hdg hlk)
theorem eIX {mc ms : Nat} {E v : Int32} {rt : FieldType} {PW : (Nat → Prop) → Heap → Prop} (hx : p.tables.exec = Jvm.exec) (hb : c.code = cc) (hr : meth.sig.returnType = some rt) (hlk : meth.locks = false) (hB : PW A H) (hS : va_S A s.heap H locs) (hn : narrow rt (.int v) = .int v) (hE : v = E) (hc : cells ≤ mc) (hs : slots ≤ ms) (hdg : decode cc pc = .ok (.ireturn, 1)) :
    W p l e R s m args below meth c H locs cells slots (MQ below (va_Qi (fun (r : Int32) (_ : Unit) => r = E) (fun _ t => PW A t.heap) A) args s mc ms A) (F0 m pc ls [.int v]) :=
  W.widen hc hs (W.zret hx hb hr hn (fun t ht _ => ⟨⟨v, (), rfl, hE, by show PW A t.heap; rw [ht]; exact hB⟩, hS.F ht⟩) hS.2.2 hdg hlk)
/-- an answer that is a cell -/
theorem eRX {mc ms : Nat} {a : Nat} {rt : FieldType} {PW : (Nat → Prop) → Nat → Heap → Prop} (hx : p.tables.exec = Jvm.exec) (hb : c.code = cc) (hr : meth.sig.returnType = some rt) (href : (∃ n, rt = .object n) ∨ ∃ t, rt = .array t) (hlk : meth.locks = false) (hB : PW A a H) (hS : va_S A s.heap H locs) (hc : cells ≤ mc) (hs : slots ≤ ms) (hdg : decode cc pc = .ok (.areturn, 1)) :
    W p l e R s m args below meth c H locs cells slots (MQ below (va_Qr (fun (_ : Unit) => True) (fun _ a t => PW A a t.heap) A) args s mc ms A) (F0 m pc ls [.ref a]) :=
  W.widen hc hs (W.aret hx hb hr href (Or.inr ⟨a, rfl⟩) (fun t ht _ => ⟨⟨(), a, rfl, trivial, by show PW A a t.heap; rw [ht]; exact hB⟩, hS.F ht⟩) hS.2.2 hdg hlk)
variable {y : MethodName} {bytes : ByteArray} {maxL nL mc ms n index : Nat} {ret : Option FieldType} {rm : Room} {Ts wsY : List Cond} {own Cn host : String} {b : Nat} {As : List Value} {wc w1 ws ws' r : va_W} {st : List Value}
theorem cVd {E : UInt64} (S : CallFix p m c cc nL s args Ts own) (hM : MD l y wsY rm D Y (.ref b :: As) H.size wc E w1 mc ms) (cw : CallW R s args own Cn index y bytes maxL ret wsY rm mc ms n) (hKN : KN D Y s) (hP : va_P D vwCl ws H) (hD : va_D A ws) (hS : va_S A H0 H locs) (hA : ∀ q, H0.size ≤ q → A q) (hp : ws.Perm (wc ++ r)) (hp' : (w1 ++ r).Perm ws')
    (q0 ci : Nat) {fs : List Value} {T : u_T} {N : Nat} (hq : ws[q0]? = some (b, .inr (ci, fs))) (hc : vwCl[ci]? = some (Cn, T, N))
    (hst : st = As.reverse ++ .ref b :: rest) (hln : As.length = n) (hsz : ls.size = nL) (hW : (rest.map fun v => v.category).sum ≤ 8) (hdg : decode cc pc = .ok (.invokevirtual index, 3)) (hf : cells + mc ≤ R.cells ∧ slots + ms ≤ R.slots)
    (kk : ∀ (H1 : Heap) (locs1 : List Loc), va_P D vwCl ws' H1 → va_D A ws' → va_S A H0 H1 locs1 → W p l e R s m args below meth c H1 locs1 (cells + mc) (slots + ms) Q (F0 m (pc + 3) ls (.double E :: rest))) : W p l e R s m args below meth c H locs cells slots Q (F0 m pc ls st) := by
  subst hst
  have hFc := va_freeG hD hS hA hp
  refine va_calld (va_runV (As := As) (rest := rest) S hM cw (pVG hKN hP hD hp q0 ci hq hc) rfl hln hsz rfl (lv_room hW) hdg hf) hS (fun q _ h => hFc q h) hFc (fun r u t H1 locs ht hvm hw hB hz1 hk1 hS => ?_)
  obtain ⟨hP1, hD1⟩ := hB
  rw [ht] at hP1
  subst hw
  obtain ⟨hP2, hD2⟩ := fr hP hD hp hk1 hFc hP1 hD1
  exact kk H1 locs (hP2.perm hp') (hD2.perm hp') hS
/-- the call of a constructor whose world is said by a predicate -/
theorem gIX {PW : (Nat → Prop) → Heap → Prop} (S : CallFix p m c cc nL s args Ts own) (hM : MVX l y wsY rm D Y (.ref b :: As) H.size wc PW mc ms) (cw : CallB R s args own index y bytes maxL none wsY rm mc ms n ∧ y.name = "<init>" ∧ (Cond.instanceMethod y).before args s = true) (hKN : KN D Y s) (hP : va_P D vwCl ws H) (hD : va_D A ws) (hS : va_S A H0 H locs) (hA : ∀ q, H0.size ≤ q → A q) (hp : ws.Perm (wc ++ r))
    (hst : st = As.reverse ++ .ref b :: rest) (hln : As.length = n) (hsz : ls.size = nL) (hW : (rest.map fun v => v.category).sum ≤ 8) (hdg : decode cc pc = .ok (.invokespecial index, 3)) (hf : cells + mc ≤ R.cells ∧ slots + ms ≤ R.slots)
    (kk : ∀ (H1 : Heap) (locs1 : List Loc), PW (va_A wc H.size) H1 → (∀ w1, va_P D vwCl w1 H1 → va_D (va_A wc H.size) w1 → va_P D vwCl (w1 ++ r) H1 ∧ va_D A (w1 ++ r)) → va_S A H0 H1 locs1 → W p l e R s m args below meth c H1 locs1 (cells + mc) (slots + ms) Q (F0 m (pc + 3) ls rest)) : W p l e R s m args below meth c H locs cells slots Q (F0 m pc ls st) := by
  subst hst
  have hFc := va_freeG hD hS hA hp
  refine va_callv (va_runI (As := As) (rest := rest) S hM cw (pSG hKN hP hD hp) rfl hln hsz rfl (lv_room hW) hdg hf) hS (fun q _ h => hFc q h) hFc (fun u t H1 locs ht hvm hw hB hz1 hk1 hS => ?_)
  rw [ht] at hB
  exact kk H1 locs hB (fun w1 hP1 hD1 => fr hP hD hp hk1 hFc hP1 hD1) hS
/-- the law's own cell(s, k) -/
theorem gcell {L k : Nat} {xs : Nat → Int32} (S : CallFix p m c cc nL s args Ts own) (hM : Met l y wsY rm (pcS D Y b L xs [.ref b, .int (nI k)] H.size) (va_Qi (fun (r : Int32) (_ : Unit) => r = cellV xs L k) (fun _ _ => True) (va_A [] H.size)) 0 0 (va_A [] H.size)) (cw : CallB R s args own index y bytes maxL ret wsY rm 0 0 2 ∧ (Cond.static y).before args s = true) (hKN : KN D Y s) (hX : va_X b L xs s H0) (hbl : b < H0.size) (hbA : ¬ A b) (hP : va_P D vwCl ws H) (hD : va_D A ws) (hS : va_S A H0 H locs) (hA : ∀ q, H0.size ≤ q → A q)
    (hst : st = .int (nI k) :: .ref b :: rest) (hsz : ls.size = nL) (hW : (rest.map fun v => v.category).sum ≤ 8) (hdg : decode cc pc = .ok (.invokestatic index, 3)) (hf : cells + 0 ≤ R.cells ∧ slots + 0 ≤ R.slots)
    (kk : ∀ (H1 : Heap) (locs1 : List Loc), va_P D vwCl ws H1 → va_D A ws → va_S A H0 H1 locs1 → W p l e R s m args below meth c H1 locs1 cells slots Q (F0 m (pc + 3) ls (.int (cellV xs L k) :: rest))) : W p l e R s m args below meth c H locs cells slots Q (F0 m pc ls st) := by
  subst hst
  have hF : ∀ q, va_A [] H.size q → A q := fun q h => by
    rcases h with ⟨k, e, h⟩ | h
    · simp at h
    · exact hA q (Nat.le_trans hS.1 h)
  have hX1 : va_X b L xs s H := hX.kept (hS.2.1 b hbl hbA)
  refine va_calli (va_runS (As := [.ref b, .int (nI k)]) (rest := rest) S hM cw ⟨pcS_blind, fun U hU hW => ⟨rfl, by rw [hU], hKN.warm hW, by rw [hU]; exact hX1.moved hW.alike, by rw [hU]; exact Nat.lt_of_lt_of_le hbl hS.1⟩⟩ rfl rfl hsz rfl (lv_room hW) hdg hf) hS (fun q _ h => hF q h) hF (fun r u t H1 locs ht hvm hw hB hz1 hk1 hS => ?_)
  subst hw
  exact kk H1 locs (hP.kept (fun k q hk => hk1 _ ((hP k q hk).lt) (fun h => by rcases h with ⟨k2, e, h⟩ | h; · simp at h
                                                                               · exact absurd h (Nat.not_le.mpr ((hP k q hk).lt))))) hD hS
end
abbrev rm_kL_cell : Room := { frames := 0, cells := 0, slots := 0, locals := 0 }
/-- cell: the script's, or another number -/
theorem kL_cell (l : Launch) (D : va_G) (Y : Nat → ClassId) (sz b L k : Nat) (xs : Nat → Int32) (hL : L < 2 ^ 31) (hk : k < 2 ^ 30) : Met l yL_cell wsL_cell rm_kL_cell (pcS D Y b L xs [.ref b, .int (nI k)] sz) (va_Qi (fun (r : Int32) (_ : Unit) => r = cellV xs L k) (fun _ _ => True) (va_A [] sz)) 0 0 (va_A [] sz) := by
  refine Met.ofW (cc := cL_cell) (maxL := 2) (ret := (some .int)) (by decide) rfl ?_
  intro p e s m args below meth c s₁ B hml hv
  obtain ⟨rfl, hsz, hKN, hX, hbl⟩ := hv
  subst hsz
  have hl := lv_entry [.ref b, .int (nI k)] (n := 2) (Nat.le_of_ble_eq_true rfl)
  rw [lg_entry_eq]
  generalize (lg_sl [.ref b, .int (nI k)] ++ List.replicate (2 - (lg_sl [.ref b, .int (nI k)]).length) Slot.unset).toArray = ls at hl ⊢
  have hl : lv_has ls 2 [(0, .ref b), (1, .int (nI k))] := hl
  have hx := B.exec
  have hb := B.bytes
  have hr := B.returns
  have hlk := B.notSynchronized
  have hown : s.vm.findClass RL = some m.cls := findClass_of_methodNamed B.named
  have hts : ∀ w ∈ wsL_cell, w.before ([.ref b, .int (nI k)] : List Value).toArray s = true := atoms_spec (ws := wsL_cell) B.pre
  have hS : va_S (va_A [] s.heap.size) s.heap s.heap [] := va_S.rf
  have hbA : ¬ va_A [] s.heap.size b := fun h => by
    rcases h with ⟨k2, e2, h⟩ | h
    · simp at h
    · exact absurd h (Nat.not_le.mpr hbl)
  refine lv_iload_n hx hb dL_cell_0 rfl (lv_at hl 1 rfl) ?_
  refine lv_aload_n hx hb dL_cell_1 rfl (lv_at hl 0 rfl) ?_
  refine va_slen hx hb hX hbl hbA hS dL_cell_2 ?_
  refine lv_eqi (y := nI L) rfl ?_
  refine lv_icmp_ge (tgt := 12) hx hb dL_cell_3 (by decide) (fun c_3 => ?_) (fun c_3 => ?_)
  · have h3 : ¬ k < L := Nat.not_lt.mpr (ngl hL (by omega) c_3)
    refine lv_ldc (v := (790386105 : Int32)) hx hb hown (hts (.constant RL 8 (790386105 : Int32)) (by decide +kernel)) dL_cell_12 ?_
    refine lv_iload_n hx hb dL_cell_14 rfl (lv_at hl 1 rfl) ?_
    refine lv_iconst (v := (3 : Int32)) hx hb dL_cell_15 (by decide) ?_
    refine lv_iadd hx hb dL_cell_16 ?_
    refine lv_eqi (y := nI (k + 3)) (nI_add k 3) ?_
    refine lv_imul hx hb dL_cell_17 ?_
    exact W.zret hx hb hr rfl (fun t ht _ => ⟨⟨_, (), rfl, (if_neg h3).symm, trivial⟩, hS.F ht⟩) hS.2.2 dL_cell_18 hlk
  · have h3 : k < L := nge hL (by omega) c_3
    refine lv_aload_n hx hb dL_cell_6 rfl (lv_at hl 0 rfl) ?_
    refine lv_iload_n hx hb dL_cell_7 rfl (lv_at hl 1 rfl) ?_
    refine va_sld hx hb hX hbl hbA hS (vp_in_nI h3 hL) dL_cell_8 ?_
    rw [nI_clamp (Nat.lt_trans h3 hL)]
    refine lv_goto (tgt := 18) hx hb dL_cell_9 (by decide) ?_
    exact W.zret hx hb hr rfl (fun t ht _ => ⟨⟨_, (), rfl, (if_pos h3).symm, trivial⟩, hS.F ht⟩) hS.2.2 dL_cell_18 hlk
/-- below -/
def bw (v : Int32) (n : Nat) : Nat := v.toBitVec.toNat % 2 ^ 31 % n
theorem bw_lt (v : Int32) {n : Nat} (h : 0 < n) : bw v n < n := Nat.mod_lt _ h
