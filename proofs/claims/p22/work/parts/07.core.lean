/-! CORE: numbers of the two programs, loops, joins, rows of ints by their contents below the length -/
def mnI (x y : Int32) : Int32 := if y < x then y else x
def mxI (x y : Int32) : Int32 := if x < y then y else x
def abI (x : Int32) : Int32 := if 0 ≤ x then x else 0 - x
def bi (c : Prop) [Decidable c] : Int32 := if c then 1 else 0
theorem bi_t {c : Prop} [Decidable c] (h : c) : bi c = 1 := if_pos h
theorem bi_f {c : Prop} [Decidable c] (h : ¬ c) : bi c = 0 := if_neg h
theorem bi_01 (c : Prop) [Decidable c] : bi c = 0 ∨ bi c = 1 := by
  unfold bi; split
  · exact Or.inr rfl
  · exact Or.inl rfl
theorem narZ (c : Prop) [Decidable c] : narrow .boolean (.int (bi c)) = .int (bi c) := by
  unfold bi; split <;> rfl
theorem i_lt {x y : Int32} : x < y ↔ x.toInt < y.toInt := Int32.lt_iff_toInt_lt
theorem i_le {x y : Int32} : x ≤ y ↔ x.toInt ≤ y.toInt := Int32.le_iff_toInt_le
theorem i_eq {x y : Int32} : x = y ↔ x.toInt = y.toInt := Int32.toInt_inj.symm
theorem mnI_comm (x y : Int32) : mnI x y = mnI y x := by
  unfold mnI
  simp only [i_lt, i_eq]
  split <;> split <;> omega
theorem mxI_comm (x y : Int32) : mxI x y = mxI y x := by
  unfold mxI
  simp only [i_lt, i_eq]
  split <;> split <;> omega
theorem nge {i N : Nat} (hN : N < 2 ^ 31) (hi : i < 2 ^ 31) (h : ¬ nI N ≤ nI i) : i < N := by
  have := mt (nI_leI hN hi).mpr h
  omega
theorem ngl {i N : Nat} (hN : N < 2 ^ 31) (hi : i < 2 ^ 31) (h : nI N ≤ nI i) : N ≤ i := (nI_leI hN hi).mp h
theorem upd_s (f : fN) (k : Nat) (x : Int32) : upd f k x k = x := by simp [upd]
theorem upd_n (f : fN) {k j : Nat} (x : Int32) (h : j ≠ k) : upd f k x j = f j := by simp [upd, h]
def sumU (f : fN) : Nat → Int32
  | 0 => 0
  | n + 1 => sumU f n + f n
theorem va_nrm {D : va_G} {cl : List vw_C} {ws : va_W} {H : Heap} {A : Nat → Prop} (hP : va_P D cl ws H) (hD : va_D A ws) (i : Nat) {a n : Nat} {cA : ClassId} {f : fN} (h : ws[i]? = some (a, .inl (cA, n, .inl f))) {g : fN} (hg : ∀ j, j < n → f j = g j) : va_P D cl (ws.set i (a, .inl (cA, n, .inl g))) H ∧ va_D A (ws.set i (a, .inl (cA, n, .inl g))) := by
  refine ⟨hP.set hD h ?_ (fun _ _ => rfl), hD.set h⟩
  have h1 : H[a]? = some (vp_cell cA (n, .inl f)) := hP i _ h
  show H[a]? = some (vp_cell cA (n, .inl g))
  rw [h1, vp_cell_i, vp_cell_i]
  unfold arrV
  congr 2
  apply Array.ext
  · simp
  · intro k h2 h3
    have hk : k < n := by simpa using h2
    simp [hg k hk]
theorem tys_uniq {D : va_G} {Y : Nat → ClassId} {s : State} (hK : va_K D vwCl (yK Y) s) {ty : FieldType} {t0 : Nat} (h0 : (yK Y)[t0]? = some (Y t0, ty)) {cA : ClassId} (hK2 : va_K D vwCl (yK Y ++ [(cA, ty)]) s) (hty : ty = .int ∨ ty = .boolean ∨ ty = .long) : cA = Y t0 := by
  have h1 := (hK.2 t0 _ h0).2
  have h2 := (hK2.2 3 (cA, ty) rfl).2
  rcases hty with rfl | rfl | rfl
  all_goals
    have e1 : s.vm.findClass _ = some (Y t0) := h1
    have e2 : s.vm.findClass _ = some cA := h2
    exact Option.some.inj (e2.symm.trans e1)
section
variable {p : Program} {l : Launch} {e : Env} {R : Room} {s : State} {m : MethodId} {args : Array Value} {below : List Frame} {meth : Method} {c : Code} {H H0 : Heap} {locs : List Loc} {cells slots : Nat} {Q : State → Prop} {ls : Array Slot} {rest st : List Value} {cc : ByteArray} {pc : Nat} {D : va_G} {Y : Nat → ClassId} {A : Nat → Prop} {ws : va_W}
/-- a loop at its head: what holds at x, a measure that falls, the room at x -/
theorem LPP {σ : Type} (I : σ → Heap → List Loc → Array Slot → Prop) (μ : σ → Nat) (cl sl : σ → Nat)
    (step : ∀ (x : σ), (∀ (y : σ) (H : Heap) (locs : List Loc) (ls : Array Slot), μ y < μ x → I y H locs ls → W p l e R s m args below meth c H locs (cl y) (sl y) Q (F0 m pc ls st)) → ∀ (H : Heap) (locs : List Loc) (ls : Array Slot), I x H locs ls → W p l e R s m args below meth c H locs (cl x) (sl x) Q (F0 m pc ls st)) :
    ∀ (x : σ) (H : Heap) (locs : List Loc) (ls : Array Slot), I x H locs ls → W p l e R s m args below meth c H locs (cl x) (sl x) Q (F0 m pc ls st) := by
  have key : ∀ (n : Nat) (x : σ), μ x < n → ∀ (H : Heap) (locs : List Loc) (ls : Array Slot), I x H locs ls → W p l e R s m args below meth c H locs (cl x) (sl x) Q (F0 m pc ls st) := by
    intro n
    induction n with
    | zero => intro x h; exact absurd h (Nat.not_lt_zero _)
    | succ n ih => intro x h; exact step x (fun y H locs ls hy => ih y (by omega) H locs ls)
  exact fun x => key (μ x + 1) x (by omega)
/-- a diamond that leaves an int: both ways come to jp with E -/
theorem JT {jp : Nat} {r' : List Value} {E : Int32} (k : (∀ y : Int32, y = E → W p l e R s m args below meth c H locs cells slots Q (F0 m jp ls (.int y :: r'))) → W p l e R s m args below meth c H locs cells slots Q (F0 m pc ls st)) (h : W p l e R s m args below meth c H locs cells slots Q (F0 m jp ls (.int E :: r'))) : W p l e R s m args below meth c H locs cells slots Q (F0 m pc ls st) := k (fun y hy => hy ▸ h)
theorem nA0 (hx : p.tables.exec = Jvm.exec) (hb : c.code = cc) (harr : (Cond.arrayClass .int).before args s = true) (hK : va_K D vwCl (yK Y) s) (hP : va_P D vwCl ws H) (hD : va_D A ws) (hS : va_S A H0 H locs) (hA : ∀ q, H0.size ≤ q → A q)
    {n : Int32} {N' : Nat} (hn : ¬ n < 0) (hN : n.toNatClampNeg = N') (hbytes : N' * 4 ≤ 536870912) (hcells : cells + 1 ≤ R.cells) (hslots : slots + N' ≤ R.slots) (hdg : decode cc pc = .ok (.newarray .int, 2))
    (kk : ∀ (q : Nat) (H1 : Heap), va_P D vwCl (ws ++ [(q, .inl (Y 0, N', .inl (fun _ => 0)))]) H1 → va_D A (ws ++ [(q, .inl (Y 0, N', .inl (fun _ => 0)))]) → va_S A H0 H1 locs → W p l e R s m args below meth c H1 locs (cells + 1) (slots + N') Q (F0 m (pc + 2) ls (.ref q :: rest))) : W p l e R s m args below meth c H locs cells slots Q (F0 m pc ls (.int n :: rest)) := by
  refine va_newa (atype := .int) (ty := .int) hx hb harr rfl hK hP hD hS hA (a0 := (N', .inl (fun _ => 0))) (fun cA => by rw [vp_cell_i]; rfl) hn hN hbytes hcells hslots hdg (fun q cA H1 hK2 hP2 hD2 hS2 => ?_)
  obtain rfl := tys_uniq hK (t0 := 0) rfl hK2 (Or.inl rfl)
  exact kk q H1 hP2 hD2 hS2
theorem nA1 (hx : p.tables.exec = Jvm.exec) (hb : c.code = cc) (harr : (Cond.arrayClass .boolean).before args s = true) (hK : va_K D vwCl (yK Y) s) (hP : va_P D vwCl ws H) (hD : va_D A ws) (hS : va_S A H0 H locs) (hA : ∀ q, H0.size ≤ q → A q)
    {n : Int32} {N' : Nat} (hn : ¬ n < 0) (hN : n.toNatClampNeg = N') (hbytes : N' * 1 ≤ 536870912) (hcells : cells + 1 ≤ R.cells) (hslots : slots + N' ≤ R.slots) (hdg : decode cc pc = .ok (.newarray .boolean, 2))
    (kk : ∀ (q : Nat) (H1 : Heap), va_P D vwCl (ws ++ [(q, .inl (Y 1, N', .inl (fun _ => 0)))]) H1 → va_D A (ws ++ [(q, .inl (Y 1, N', .inl (fun _ => 0)))]) → va_S A H0 H1 locs → W p l e R s m args below meth c H1 locs (cells + 1) (slots + N') Q (F0 m (pc + 2) ls (.ref q :: rest))) : W p l e R s m args below meth c H locs cells slots Q (F0 m pc ls (.int n :: rest)) := by
  refine va_newa (atype := .boolean) (ty := .boolean) hx hb harr rfl hK hP hD hS hA (a0 := (N', .inl (fun _ => 0))) (fun cA => by rw [vp_cell_i]; rfl) hn hN hbytes hcells hslots hdg (fun q cA H1 hK2 hP2 hD2 hS2 => ?_)
  obtain rfl := tys_uniq hK (t0 := 1) rfl hK2 (Or.inr (Or.inl rfl))
  exact kk q H1 hP2 hD2 hS2
end
theorem Met.ofWF {l : Launch} {y : MethodName} {ws ws' : List Cond} {rm : Room} {Pc : Array Value → State → Prop} {Qc : Array Value → State → Outcome → State → Prop} {mc ms : Nat} {free : Addr → Prop} {cc : ByteArray} {maxL : Nat} {ret : Option FieldType}
    (hy : plainFor y = true) (hw : ws = Cond.code y cc maxL ret :: ws')
    (body : ∀ p e s m args below meth c s₁, BodyLoose p l y (headSpec ws rm) cc maxL ret e s m args below meth c s₁ → c.maxLocals = maxL → Pc args s →
      W p l e (headSpec ws rm).room s m args below meth c s.heap [] 0 0 (MQ below Qc args s mc ms free) (entryFrame m args maxL)) : Met l y ws rm Pc Qc mc ms free := by
  refine MetFree.of_bodySF (code := cc) (maxLocals := maxL) (ret := ret) hy ?_ ?_
  · intro args s m h hn
    obtain ⟨meth, c, h1, h2, h3, h4, h5, h6, -, -⟩ := Cond.code_spec hn (atoms_spec (ws := ws) h _ (by rw [hw]; exact List.mem_cons_self))
    exact ⟨meth, c, h1, h2, h3, h4, h5, h6⟩
  · intro p e s m args below meth c s₁ B hml hP _
    have hh0 : s₁.heap = s.heap := by rw [B.state]; rfl
    obtain ⟨t, a1, o, b1, b2, b3⟩ := body p e s m args below meth c s₁ B hml hP s₁ hh0 (Stand.of_body B)
    exact ⟨t, o, a1, b1, b2, ⟨b3.1, b3.2⟩⟩
/-- the start of a method of java.lang.Math -/
theorem pcF_start {l : Launch} {y : MethodName} {ws ws' : List Cond} {rm : Room} {D : va_G} {Y : Nat → ClassId} {av : List Value} {sz : Nat} {wc : va_W} {mc ms : Nat} {cc : ByteArray} {maxL : Nat} {ret : Option FieldType} {Qc : (Nat → Prop) → Array Value → State → Outcome → State → Prop}
    (hy : plainFor y = true) (hw : ws = Cond.code y cc maxL ret :: ws') (hsl : (lg_sl av).length ≤ maxL)
    (body : ∀ (p : Program) (e : Env) (s : State) (m : MethodId) (below : List Frame) (meth : Method) (c : Code) (A : Nat → Prop) (ls : Array Slot), Ent p s m av.toArray meth c y cc maxL ret ws → KN D Y s → (∀ q, s.heap.size ≤ q → A q) → va_P D vwCl wc s.heap → va_D A wc → lv_has ls maxL (lv_args 0 av) →
      W p l e rm s m av.toArray below meth c s.heap [] 0 0 (MQ below (Qc A) av.toArray s mc ms A) (F0 m 0 ls [])) : Met l y ws rm (pcW D Y av sz wc) (Qc (va_A wc sz)) mc ms (va_A wc sz) := by
  refine Met.ofWF (cc := cc) (maxL := maxL) (ret := ret) hy hw ?_
  intro p e s m args below meth c s₁ B hml hv
  obtain ⟨rfl, hsz, hP, hK, hD0⟩ := hv
  subst hsz
  have hD := hD0.self (sz := s.heap.size)
  have hl := lv_entry av (n := maxL) hsl
  rw [lg_entry_eq]
  generalize (lg_sl av ++ List.replicate (maxL - (lg_sl av).length) Slot.unset).toArray = ls at hl ⊢
  exact body p e s m below meth c (va_A wc s.heap.size) ls ⟨B.exec, B.bytes, B.returns, hml, findClass_of_methodNamed B.named, atoms_spec (ws := ws) B.pre, B.notSynchronized, (name_of_methodNamed B.named B.method).1⟩ hK (fun q h => Or.inr h) hP hD hl
